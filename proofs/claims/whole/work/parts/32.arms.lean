def arm0 (fu L : Nat) (xs : Nat → Int32) (i : Int32) (n : ag_N) (s : ag_S) : Option (ag_N × ag_S) := if (i + 1) < 0 ∨ L ≤ (i + 1).toNatClampNeg then none else if (i + 2) < 0 ∨ L ≤ (i + 2).toNatClampNeg then none else ag_bd (f_L_line fu (xs (i + 1).toNatClampNeg) (xs (i + 2).toNatClampNeg) n s) fun r158 => if (i + 1) < 0 ∨ L ≤ (i + 1).toNatClampNeg then none else if (i + 2) < 0 ∨ L ≤ (i + 2).toNatClampNeg then none else ag_bd (f_X6_line fu (xs (i + 1).toNatClampNeg) (xs (i + 2).toNatClampNeg) r158.2.2) fun r176 => ag_bd (f_X6_thrown fu r176.2) fun r182 => if r182 = r158.1 then (if r158.1 = 0 then (if (0 : Int32) < 0 ∨ 1 ≤ (0 : Int32).toNatClampNeg then none else if lg_cmp ((r176.2 8 0 0).toInt64) ((r176.1 : Int32).toInt64) = 0 then (some (r158.2.1, r176.2)) else (none)) else (some (r158.2.1, r176.2))) else (none)
set_option maxHeartbeats 4000000 in
set_option maxRecDepth 100000 in
theorem ra0 {p0 : Program} {l : Launch} {e : Env} {st : State} {m : MethodId} {args : Array Value} {below : List Frame} {meth : Method} {c : Code} {H : Heap} {locs : List Loc} {cells slots : Nat} {Q : State → Prop} {ls : Array Slot} {z : ag_Z} {n : ag_N} {p : ag_P} {s : ag_S} {fu b L : Nat} {xs : Nat → Int32} {i : Int32} {out : ag_N × ag_S} (hq9 : l.stackTraces = false) (hx : p0.tables.exec = Jvm.exec) (hb : c.code = cL_law) (hml : c.maxLocals = 7) (hT : ∀ w ∈ ag_tbl, w.before args st = true) (hown : st.vm.findClass RL = some m.cls) (hG : ag_G z st st.heap) (h0 : z.2.2.1 ≤ st.heap.size) (hS : va_S (ag_A z) st.heap H locs) (hW : ag_W z n p s H) (t5 : vp_in 0 (n 5)) (t6 : vp_in 0 (n 6)) (t8 : vp_in 0 (n 8)) (hX : va_X b L xs st st.heap) (hbl : b < st.heap.size) (hbA : ¬ ag_A z b) (hl : lv_has ls 7 [(0, .ref b), (1, .ref (p 5 0)), (2, .ref (p 6 0)), (3, .ref (p 8 0)), (4, .int i)]) (hC : cells + 20 ≤ 601024) (hD : slots + 300 ≤ 7293034) (hf : arm0 fu L xs i n s = some out) (kk : ∀ (p1 : ag_P) (H1 : Heap) (locs1 : List Loc) (ls1 : Array Slot), ag_ext n p p1 → ag_le n out.1 → ag_W z out.1 p1 out.2 H1 → va_S (ag_A z) st.heap H1 locs1 → lv_has ls1 7 [(0, .ref b), (1, .ref (p1 5 0)), (2, .ref (p1 6 0)), (3, .ref (p1 8 0)), (4, .int i)] → W p0 l e room_1 st m args below meth c H1 locs1 (cells + 20) (slots + 300) Q (F0 m 1572 ls1 [])) : W p0 l e room_1 st m args below meth c H locs cells slots Q (F0 m 144 ls []) := by
  unfold arm0 at hf
  refine lv_aload_n hx hb dL_law_144 rfl (lv_at hl 1 rfl) ?_
  refine lv_aload_n hx hb dL_law_145 rfl (lv_at hl 0 rfl) ?_
  refine lv_iload hx hb dL_law_146 (lv_at hl 4 rfl) ?_
  refine lv_iconst (v := 1) hx hb dL_law_148 (by decide) ?_
  refine lv_iadd hx hb dL_law_149 ?_
  obtain ⟨a150, hf⟩ := ag_n hf
  refine va_sld hx hb hX hbl hbA hS a150 dL_law_150 ?_
  refine lv_aload_n hx hb dL_law_151 rfl (lv_at hl 0 rfl) ?_
  refine lv_iload hx hb dL_law_152 (lv_at hl 4 rfl) ?_
  refine lv_iconst (v := 2) hx hb dL_law_154 (by decide) ?_
  refine lv_iadd hx hb dL_law_155 ?_
  obtain ⟨a156, hf⟩ := ag_n hf
  refine va_sld hx hb hX hbl hbA hS a156 dL_law_156 ?_
  refine lv_aload_n hx hb dL_law_157 rfl (lv_at hl 3 rfl) ?_
  obtain ⟨r158, hg158, hf⟩ := ag_bs hf
  refine ag_aHi (hh := [(0, 10, 13, 13), (0, 10, 17, 15)]) (C1 := cells + 10) (S1 := slots + 200) hx hb hml hT hown hG h0 hS hW (c_L_line hq9 t5 t8 hg158) ⟨rfl, rfl⟩ q180 q181 q0 q182 dd_yL_line ⟨Nat.le_of_ble_eq_true rfl, Nat.le_of_ble_eq_true rfl⟩ hl.1 rfl (Nat.le_of_ble_eq_true rfl) ⟨by show cells + 10 ≤ 601024; omega, by show slots + 200 ≤ 7293034; omega⟩ dL_law_158 (by omega) (by omega) (fun p H locs hp158 hle158 hW hS => ?_)
  have sl158 := hle158
  have he158 := ag_ext_tr (ag_le_rf _) (ag_ext_rf _ _) hp158
  have hl158 := ag_le_tr (ag_le_rf _) sl158
  rw [← hp158 5 0 t5, ← hp158 6 0 t6, ← hp158 8 0 t8] at hl
  refine lv_istore (lv' := [(5, .int r158.1), (0, .ref b), (1, .ref (p 5 0)), (2, .ref (p 6 0)), (3, .ref (p 8 0)), (4, .int i)]) hx hb dL_law_161 hl (by decide) rfl (fun ls hl => ?_)
  refine lv_aload_n hx hb dL_law_163 rfl (lv_at hl 3 rfl) ?_
  refine lv_aload_n hx hb dL_law_164 rfl (lv_at hl 1 rfl) ?_
  refine lv_iload hx hb dL_law_165 (lv_at hl 5 rfl) ?_
  refine lv_iconst (v := 1) hx hb dL_law_167 (by decide) ?_
  refine lv_iadd hx hb dL_law_168 ?_
  obtain ⟨a169, hf⟩ := ag_n hf
  refine va_sld hx hb hX hbl hbA hS a169 dL_law_169 ?_
  refine lv_aload_n hx hb dL_law_170 rfl (lv_at hl 1 rfl) ?_
  refine lv_iload hx hb dL_law_171 (lv_at hl 5 rfl) ?_
  refine lv_iconst (v := 2) hx hb dL_law_173 (by decide) ?_
  refine lv_iadd hx hb dL_law_174 ?_
  obtain ⟨a175, hf⟩ := ag_n hf
  refine va_sld hx hb hX hbl hbA hS a175 dL_law_175 ?_
  obtain ⟨r176, hg176, hf⟩ := ag_bs hf
  refine ag_cVi hx hb hml hT hown hG h0 hS hW (c_X6_line (ag_in_le t6 (sl158 _)) hg176) ⟨rfl, rfl⟩ q888 q889 q890 q11 q891 dd_yX6_line ⟨Nat.le_of_ble_eq_true rfl, Nat.le_of_ble_eq_true rfl⟩ (ag_in_le t6 (sl158 _)) rfl rfl hl.1 rfl (Nat.le_of_ble_eq_true rfl) ⟨by show (cells + 10) + 0 ≤ 601024; omega, by show (slots + 200) + 0 ≤ 7293034; omega⟩ dL_law_176 (fun H locs hW hS => ?_)
  refine lv_istore (lv' := [(6, .int r176.1), (5, .int r158.1), (0, .ref b), (1, .ref (p 5 0)), (2, .ref (p 6 0)), (3, .ref (p 8 0)), (4, .int i)]) hx hb dL_law_179 hl (by decide) rfl (fun ls hl => ?_)
  refine lv_aload_n hx hb dL_law_181 rfl (lv_at hl 4 rfl) ?_
  obtain ⟨r182, hg182, hf⟩ := ag_bs hf
  refine ag_cVi hx hb hml hT hown hG h0 hS hW (c_X6_thrown (ag_in_le t6 (sl158 _)) hg182) ⟨rfl, rfl⟩ q884 q885 q886 q11 q887 dd_yX6_thrown ⟨Nat.le_of_ble_eq_true rfl, Nat.le_of_ble_eq_true rfl⟩ (ag_in_le t6 (sl158 _)) rfl rfl hl.1 rfl (Nat.le_of_ble_eq_true rfl) ⟨by show (cells + 10) + 0 ≤ 601024; omega, by show (slots + 200) + 0 ≤ 7293034; omega⟩ dL_law_182 (fun H locs hW hS => ?_)
  refine lv_iload hx hb dL_law_185 (lv_at hl 1 rfl) ?_
  refine lv_icmp_eq (tgt := 192) hx hb dL_law_187 (by decide) (fun c187 => ?_) (fun c187 => ?_)
  · have hf := ag_t c187 hf
    refine lv_iload hx hb dL_law_192 (lv_at hl 1 rfl) ?_
    refine lv_if_ne (tgt := 209) hx hb dL_law_194 (by decide) (fun c194 => ?_) (fun c194 => ?_)
    · have hf := ag_f c194 hf
      refine lv_goto (tgt := 1572) hx hb dL_law_209 (by decide) ?_
      refine W.widen (k := cells + 20) (n := slots + 300) (by omega) (by omega) ?_
      have e9 := Option.some.inj hf
      subst e9
      exact kk p H locs ls he158 hl158 hW hS (lv_sub hl [2, 3, 4, 5, 6] rfl)
    · have hf := ag_t c194 hf
      refine lv_aload_n hx hb dL_law_197 rfl (lv_at hl 5 rfl) ?_
      refine lv_iconst (v := 0) hx hb dL_law_198 (by decide) ?_
      obtain ⟨a199, hf⟩ := ag_n hf
      refine ag_lald hx hb hG hW (ag_in_le t8 (sl158 _)) rfl rfl a199 dL_law_199 ?_
      refine lv_iload hx hb dL_law_200 (lv_at hl 0 rfl) ?_
      refine lv_i2l hx hb dL_law_202 rfl ?_
      refine W.lcmp hx hb dL_law_203 ?_
      refine lv_if_eq (tgt := 209) hx hb dL_law_204 (by decide) (fun c204 => ?_) (fun c204 => ?_)
      · have hf := ag_t c204 hf
        refine lv_goto (tgt := 1572) hx hb dL_law_209 (by decide) ?_
        refine W.widen (k := cells + 20) (n := slots + 300) (by omega) (by omega) ?_
        have e9 := Option.some.inj hf
        subst e9
        exact kk p H locs ls he158 hl158 hW hS (lv_sub hl [2, 3, 4, 5, 6] rfl)
      · have hf := ag_f c204 hf
        refine lv_iconst (v := 0) hx hb dL_law_207 (by decide) ?_
        cases hf
  · have hf := ag_f c187 hf
    refine lv_iconst (v := 0) hx hb dL_law_190 (by decide) ?_
    cases hf
def arm1 (fu L : Nat) (xs : Nat → Int32) (i : Int32) (n : ag_N) (s : ag_S) : Option (ag_N × ag_S) := if (i + 1) < 0 ∨ L ≤ (i + 1).toNatClampNeg then none else if (i + 2) < 0 ∨ L ≤ (i + 2).toNatClampNeg then none else ag_bd (f_L_income fu (xs (i + 1).toNatClampNeg) (xs (i + 2).toNatClampNeg) s) fun r226 => if (i + 1) < 0 ∨ L ≤ (i + 1).toNatClampNeg then none else if (i + 2) < 0 ∨ L ≤ (i + 2).toNatClampNeg then none else ag_bd (f_X6_income fu (xs (i + 1).toNatClampNeg) (xs (i + 2).toNatClampNeg) r226.2) fun r244 => ag_bd (f_X6_thrown fu r244.2) fun r250 => if r250 = r226.1 then (if r226.1 = 0 then (if (0 : Int32) < 0 ∨ 1 ≤ (0 : Int32).toNatClampNeg then none else if lg_cmp ((r244.2 8 0 0).toInt64) ((r244.1 : Int32).toInt64) = 0 then (some (n, r244.2)) else (none)) else (some (n, r244.2))) else (none)
set_option maxHeartbeats 4000000 in
set_option maxRecDepth 100000 in
theorem ra1 {p0 : Program} {l : Launch} {e : Env} {st : State} {m : MethodId} {args : Array Value} {below : List Frame} {meth : Method} {c : Code} {H : Heap} {locs : List Loc} {cells slots : Nat} {Q : State → Prop} {ls : Array Slot} {z : ag_Z} {n : ag_N} {p : ag_P} {s : ag_S} {fu b L : Nat} {xs : Nat → Int32} {i : Int32} {out : ag_N × ag_S} (hq9 : l.stackTraces = false) (hx : p0.tables.exec = Jvm.exec) (hb : c.code = cL_law) (hml : c.maxLocals = 7) (hT : ∀ w ∈ ag_tbl, w.before args st = true) (hown : st.vm.findClass RL = some m.cls) (hG : ag_G z st st.heap) (h0 : z.2.2.1 ≤ st.heap.size) (hS : va_S (ag_A z) st.heap H locs) (hW : ag_W z n p s H) (t5 : vp_in 0 (n 5)) (t6 : vp_in 0 (n 6)) (t8 : vp_in 0 (n 8)) (hX : va_X b L xs st st.heap) (hbl : b < st.heap.size) (hbA : ¬ ag_A z b) (hl : lv_has ls 7 [(0, .ref b), (1, .ref (p 5 0)), (2, .ref (p 6 0)), (3, .ref (p 8 0)), (4, .int i)]) (hC : cells + 20 ≤ 601024) (hD : slots + 300 ≤ 7293034) (hf : arm1 fu L xs i n s = some out) (kk : ∀ (p1 : ag_P) (H1 : Heap) (locs1 : List Loc) (ls1 : Array Slot), ag_ext n p p1 → ag_le n out.1 → ag_W z out.1 p1 out.2 H1 → va_S (ag_A z) st.heap H1 locs1 → lv_has ls1 7 [(0, .ref b), (1, .ref (p1 5 0)), (2, .ref (p1 6 0)), (3, .ref (p1 8 0)), (4, .int i)] → W p0 l e room_1 st m args below meth c H1 locs1 (cells + 20) (slots + 300) Q (F0 m 1572 ls1 [])) : W p0 l e room_1 st m args below meth c H locs cells slots Q (F0 m 212 ls []) := by
  unfold arm1 at hf
  refine lv_aload_n hx hb dL_law_212 rfl (lv_at hl 1 rfl) ?_
  refine lv_aload_n hx hb dL_law_213 rfl (lv_at hl 0 rfl) ?_
  refine lv_iload hx hb dL_law_214 (lv_at hl 4 rfl) ?_
  refine lv_iconst (v := 1) hx hb dL_law_216 (by decide) ?_
  refine lv_iadd hx hb dL_law_217 ?_
  obtain ⟨a218, hf⟩ := ag_n hf
  refine va_sld hx hb hX hbl hbA hS a218 dL_law_218 ?_
  refine lv_aload_n hx hb dL_law_219 rfl (lv_at hl 0 rfl) ?_
  refine lv_iload hx hb dL_law_220 (lv_at hl 4 rfl) ?_
  refine lv_iconst (v := 2) hx hb dL_law_222 (by decide) ?_
  refine lv_iadd hx hb dL_law_223 ?_
  obtain ⟨a224, hf⟩ := ag_n hf
  refine va_sld hx hb hX hbl hbA hS a224 dL_law_224 ?_
  refine lv_aload_n hx hb dL_law_225 rfl (lv_at hl 3 rfl) ?_
  obtain ⟨r226, hg226, hf⟩ := ag_bs hf
  refine ag_hHi (hh := [(0, 10, 13, 13)]) (C1 := cells + 5) (S1 := slots + 30) hx hb hml hT hown hG h0 hS hW (c_L_income hq9 t5 t8 hg226) ⟨rfl, rfl⟩ q335 q336 q0 q337 dd_yL_income ⟨Nat.le_of_ble_eq_true rfl, Nat.le_of_ble_eq_true rfl⟩ hl.1 rfl (Nat.le_of_ble_eq_true rfl) ⟨by show cells + 5 ≤ 601024; omega, by show slots + 30 ≤ 7293034; omega⟩ dL_law_226 (by omega) (by omega) (fun H locs hW hS => ?_)
  refine lv_istore (lv' := [(5, .int r226.1), (0, .ref b), (1, .ref (p 5 0)), (2, .ref (p 6 0)), (3, .ref (p 8 0)), (4, .int i)]) hx hb dL_law_229 hl (by decide) rfl (fun ls hl => ?_)
  refine lv_aload_n hx hb dL_law_231 rfl (lv_at hl 3 rfl) ?_
  refine lv_aload_n hx hb dL_law_232 rfl (lv_at hl 1 rfl) ?_
  refine lv_iload hx hb dL_law_233 (lv_at hl 5 rfl) ?_
  refine lv_iconst (v := 1) hx hb dL_law_235 (by decide) ?_
  refine lv_iadd hx hb dL_law_236 ?_
  obtain ⟨a237, hf⟩ := ag_n hf
  refine va_sld hx hb hX hbl hbA hS a237 dL_law_237 ?_
  refine lv_aload_n hx hb dL_law_238 rfl (lv_at hl 1 rfl) ?_
  refine lv_iload hx hb dL_law_239 (lv_at hl 5 rfl) ?_
  refine lv_iconst (v := 2) hx hb dL_law_241 (by decide) ?_
  refine lv_iadd hx hb dL_law_242 ?_
  obtain ⟨a243, hf⟩ := ag_n hf
  refine va_sld hx hb hX hbl hbA hS a243 dL_law_243 ?_
  obtain ⟨r244, hg244, hf⟩ := ag_bs hf
  refine ag_cVi hx hb hml hT hown hG h0 hS hW (c_X6_income t6 hg244) ⟨rfl, rfl⟩ q900 q901 q902 q11 q903 dd_yX6_income ⟨Nat.le_of_ble_eq_true rfl, Nat.le_of_ble_eq_true rfl⟩ t6 rfl rfl hl.1 rfl (Nat.le_of_ble_eq_true rfl) ⟨by show (cells + 5) + 0 ≤ 601024; omega, by show (slots + 30) + 0 ≤ 7293034; omega⟩ dL_law_244 (fun H locs hW hS => ?_)
  refine lv_istore (lv' := [(6, .int r244.1), (5, .int r226.1), (0, .ref b), (1, .ref (p 5 0)), (2, .ref (p 6 0)), (3, .ref (p 8 0)), (4, .int i)]) hx hb dL_law_247 hl (by decide) rfl (fun ls hl => ?_)
  refine lv_aload_n hx hb dL_law_249 rfl (lv_at hl 4 rfl) ?_
  obtain ⟨r250, hg250, hf⟩ := ag_bs hf
  refine ag_cVi hx hb hml hT hown hG h0 hS hW (c_X6_thrown t6 hg250) ⟨rfl, rfl⟩ q884 q885 q886 q11 q887 dd_yX6_thrown ⟨Nat.le_of_ble_eq_true rfl, Nat.le_of_ble_eq_true rfl⟩ t6 rfl rfl hl.1 rfl (Nat.le_of_ble_eq_true rfl) ⟨by show (cells + 5) + 0 ≤ 601024; omega, by show (slots + 30) + 0 ≤ 7293034; omega⟩ dL_law_250 (fun H locs hW hS => ?_)
  refine lv_iload hx hb dL_law_253 (lv_at hl 1 rfl) ?_
  refine lv_icmp_eq (tgt := 260) hx hb dL_law_255 (by decide) (fun c255 => ?_) (fun c255 => ?_)
  · have hf := ag_t c255 hf
    refine lv_iload hx hb dL_law_260 (lv_at hl 1 rfl) ?_
    refine lv_if_ne (tgt := 277) hx hb dL_law_262 (by decide) (fun c262 => ?_) (fun c262 => ?_)
    · have hf := ag_f c262 hf
      refine lv_goto (tgt := 1572) hx hb dL_law_277 (by decide) ?_
      refine W.widen (k := cells + 20) (n := slots + 300) (by omega) (by omega) ?_
      have e9 := Option.some.inj hf
      subst e9
      exact kk p H locs ls (ag_ext_rf _ _) (ag_le_rf _) hW hS (lv_sub hl [2, 3, 4, 5, 6] rfl)
    · have hf := ag_t c262 hf
      refine lv_aload_n hx hb dL_law_265 rfl (lv_at hl 5 rfl) ?_
      refine lv_iconst (v := 0) hx hb dL_law_266 (by decide) ?_
      obtain ⟨a267, hf⟩ := ag_n hf
      refine ag_lald hx hb hG hW t8 rfl rfl a267 dL_law_267 ?_
      refine lv_iload hx hb dL_law_268 (lv_at hl 0 rfl) ?_
      refine lv_i2l hx hb dL_law_270 rfl ?_
      refine W.lcmp hx hb dL_law_271 ?_
      refine lv_if_eq (tgt := 277) hx hb dL_law_272 (by decide) (fun c272 => ?_) (fun c272 => ?_)
      · have hf := ag_t c272 hf
        refine lv_goto (tgt := 1572) hx hb dL_law_277 (by decide) ?_
        refine W.widen (k := cells + 20) (n := slots + 300) (by omega) (by omega) ?_
        have e9 := Option.some.inj hf
        subst e9
        exact kk p H locs ls (ag_ext_rf _ _) (ag_le_rf _) hW hS (lv_sub hl [2, 3, 4, 5, 6] rfl)
      · have hf := ag_f c272 hf
        refine lv_iconst (v := 0) hx hb dL_law_275 (by decide) ?_
        cases hf
  · have hf := ag_f c255 hf
    refine lv_iconst (v := 0) hx hb dL_law_258 (by decide) ?_
    cases hf
def arm2 (fu L : Nat) (xs : Nat → Int32) (i : Int32) (n : ag_N) (s : ag_S) : Option (ag_N × ag_S) := if (i + 1) < 0 ∨ L ≤ (i + 1).toNatClampNeg then none else if (i + 2) < 0 ∨ L ≤ (i + 2).toNatClampNeg then none else ag_bd (f_L_amend fu (xs (i + 1).toNatClampNeg) (xs (i + 2).toNatClampNeg) n s) fun r294 => if (i + 1) < 0 ∨ L ≤ (i + 1).toNatClampNeg then none else if (i + 2) < 0 ∨ L ≤ (i + 2).toNatClampNeg then none else ag_bd (f_X6_amend fu (xs (i + 1).toNatClampNeg) (xs (i + 2).toNatClampNeg) r294.2.2) fun r312 => ag_bd (f_X6_thrown fu r312.2) fun r318 => if r318 = r294.1 then (if r294.1 = 0 then (if (0 : Int32) < 0 ∨ 1 ≤ (0 : Int32).toNatClampNeg then none else if lg_cmp ((r312.2 8 0 0).toInt64) ((r312.1 : Int32).toInt64) = 0 then (some (r294.2.1, r312.2)) else (none)) else (some (r294.2.1, r312.2))) else (none)
set_option maxHeartbeats 4000000 in
set_option maxRecDepth 100000 in
theorem ra2 {p0 : Program} {l : Launch} {e : Env} {st : State} {m : MethodId} {args : Array Value} {below : List Frame} {meth : Method} {c : Code} {H : Heap} {locs : List Loc} {cells slots : Nat} {Q : State → Prop} {ls : Array Slot} {z : ag_Z} {n : ag_N} {p : ag_P} {s : ag_S} {fu b L : Nat} {xs : Nat → Int32} {i : Int32} {out : ag_N × ag_S} (hq9 : l.stackTraces = false) (hx : p0.tables.exec = Jvm.exec) (hb : c.code = cL_law) (hml : c.maxLocals = 7) (hT : ∀ w ∈ ag_tbl, w.before args st = true) (hown : st.vm.findClass RL = some m.cls) (hG : ag_G z st st.heap) (h0 : z.2.2.1 ≤ st.heap.size) (hS : va_S (ag_A z) st.heap H locs) (hW : ag_W z n p s H) (t5 : vp_in 0 (n 5)) (t6 : vp_in 0 (n 6)) (t8 : vp_in 0 (n 8)) (hX : va_X b L xs st st.heap) (hbl : b < st.heap.size) (hbA : ¬ ag_A z b) (hl : lv_has ls 7 [(0, .ref b), (1, .ref (p 5 0)), (2, .ref (p 6 0)), (3, .ref (p 8 0)), (4, .int i)]) (hC : cells + 20 ≤ 601024) (hD : slots + 300 ≤ 7293034) (hf : arm2 fu L xs i n s = some out) (kk : ∀ (p1 : ag_P) (H1 : Heap) (locs1 : List Loc) (ls1 : Array Slot), ag_ext n p p1 → ag_le n out.1 → ag_W z out.1 p1 out.2 H1 → va_S (ag_A z) st.heap H1 locs1 → lv_has ls1 7 [(0, .ref b), (1, .ref (p1 5 0)), (2, .ref (p1 6 0)), (3, .ref (p1 8 0)), (4, .int i)] → W p0 l e room_1 st m args below meth c H1 locs1 (cells + 20) (slots + 300) Q (F0 m 1572 ls1 [])) : W p0 l e room_1 st m args below meth c H locs cells slots Q (F0 m 280 ls []) := by
  unfold arm2 at hf
  refine lv_aload_n hx hb dL_law_280 rfl (lv_at hl 1 rfl) ?_
  refine lv_aload_n hx hb dL_law_281 rfl (lv_at hl 0 rfl) ?_
  refine lv_iload hx hb dL_law_282 (lv_at hl 4 rfl) ?_
  refine lv_iconst (v := 1) hx hb dL_law_284 (by decide) ?_
  refine lv_iadd hx hb dL_law_285 ?_
  obtain ⟨a286, hf⟩ := ag_n hf
  refine va_sld hx hb hX hbl hbA hS a286 dL_law_286 ?_
  refine lv_aload_n hx hb dL_law_287 rfl (lv_at hl 0 rfl) ?_
  refine lv_iload hx hb dL_law_288 (lv_at hl 4 rfl) ?_
  refine lv_iconst (v := 2) hx hb dL_law_290 (by decide) ?_
  refine lv_iadd hx hb dL_law_291 ?_
  obtain ⟨a292, hf⟩ := ag_n hf
  refine va_sld hx hb hX hbl hbA hS a292 dL_law_292 ?_
  refine lv_aload_n hx hb dL_law_293 rfl (lv_at hl 3 rfl) ?_
  obtain ⟨r294, hg294, hf⟩ := ag_bs hf
  refine ag_aHi (hh := [(0, 10, 13, 23), (0, 10, 17, 13), (0, 10, 21, 15)]) (C1 := cells + 10) (S1 := slots + 200) hx hb hml hT hown hG h0 hS hW (c_L_amend hq9 t5 t8 hg294) ⟨rfl, rfl⟩ q342 q343 q0 q344 dd_yL_amend ⟨Nat.le_of_ble_eq_true rfl, Nat.le_of_ble_eq_true rfl⟩ hl.1 rfl (Nat.le_of_ble_eq_true rfl) ⟨by show cells + 10 ≤ 601024; omega, by show slots + 200 ≤ 7293034; omega⟩ dL_law_294 (by omega) (by omega) (fun p H locs hp294 hle294 hW hS => ?_)
  have sl294 := hle294
  have he294 := ag_ext_tr (ag_le_rf _) (ag_ext_rf _ _) hp294
  have hl294 := ag_le_tr (ag_le_rf _) sl294
  rw [← hp294 5 0 t5, ← hp294 6 0 t6, ← hp294 8 0 t8] at hl
  refine lv_istore (lv' := [(5, .int r294.1), (0, .ref b), (1, .ref (p 5 0)), (2, .ref (p 6 0)), (3, .ref (p 8 0)), (4, .int i)]) hx hb dL_law_297 hl (by decide) rfl (fun ls hl => ?_)
  refine lv_aload_n hx hb dL_law_299 rfl (lv_at hl 3 rfl) ?_
  refine lv_aload_n hx hb dL_law_300 rfl (lv_at hl 1 rfl) ?_
  refine lv_iload hx hb dL_law_301 (lv_at hl 5 rfl) ?_
  refine lv_iconst (v := 1) hx hb dL_law_303 (by decide) ?_
  refine lv_iadd hx hb dL_law_304 ?_
  obtain ⟨a305, hf⟩ := ag_n hf
  refine va_sld hx hb hX hbl hbA hS a305 dL_law_305 ?_
  refine lv_aload_n hx hb dL_law_306 rfl (lv_at hl 1 rfl) ?_
  refine lv_iload hx hb dL_law_307 (lv_at hl 5 rfl) ?_
  refine lv_iconst (v := 2) hx hb dL_law_309 (by decide) ?_
  refine lv_iadd hx hb dL_law_310 ?_
  obtain ⟨a311, hf⟩ := ag_n hf
  refine va_sld hx hb hX hbl hbA hS a311 dL_law_311 ?_
  obtain ⟨r312, hg312, hf⟩ := ag_bs hf
  refine ag_cVi hx hb hml hT hown hG h0 hS hW (c_X6_amend (ag_in_le t6 (sl294 _)) hg312) ⟨rfl, rfl⟩ q904 q905 q906 q11 q907 dd_yX6_amend ⟨Nat.le_of_ble_eq_true rfl, Nat.le_of_ble_eq_true rfl⟩ (ag_in_le t6 (sl294 _)) rfl rfl hl.1 rfl (Nat.le_of_ble_eq_true rfl) ⟨by show (cells + 10) + 0 ≤ 601024; omega, by show (slots + 200) + 0 ≤ 7293034; omega⟩ dL_law_312 (fun H locs hW hS => ?_)
  refine lv_istore (lv' := [(6, .int r312.1), (5, .int r294.1), (0, .ref b), (1, .ref (p 5 0)), (2, .ref (p 6 0)), (3, .ref (p 8 0)), (4, .int i)]) hx hb dL_law_315 hl (by decide) rfl (fun ls hl => ?_)
  refine lv_aload_n hx hb dL_law_317 rfl (lv_at hl 4 rfl) ?_
  obtain ⟨r318, hg318, hf⟩ := ag_bs hf
  refine ag_cVi hx hb hml hT hown hG h0 hS hW (c_X6_thrown (ag_in_le t6 (sl294 _)) hg318) ⟨rfl, rfl⟩ q884 q885 q886 q11 q887 dd_yX6_thrown ⟨Nat.le_of_ble_eq_true rfl, Nat.le_of_ble_eq_true rfl⟩ (ag_in_le t6 (sl294 _)) rfl rfl hl.1 rfl (Nat.le_of_ble_eq_true rfl) ⟨by show (cells + 10) + 0 ≤ 601024; omega, by show (slots + 200) + 0 ≤ 7293034; omega⟩ dL_law_318 (fun H locs hW hS => ?_)
  refine lv_iload hx hb dL_law_321 (lv_at hl 1 rfl) ?_
  refine lv_icmp_eq (tgt := 328) hx hb dL_law_323 (by decide) (fun c323 => ?_) (fun c323 => ?_)
  · have hf := ag_t c323 hf
    refine lv_iload hx hb dL_law_328 (lv_at hl 1 rfl) ?_
    refine lv_if_ne (tgt := 345) hx hb dL_law_330 (by decide) (fun c330 => ?_) (fun c330 => ?_)
    · have hf := ag_f c330 hf
      refine lv_goto (tgt := 1572) hx hb dL_law_345 (by decide) ?_
      refine W.widen (k := cells + 20) (n := slots + 300) (by omega) (by omega) ?_
      have e9 := Option.some.inj hf
      subst e9
      exact kk p H locs ls he294 hl294 hW hS (lv_sub hl [2, 3, 4, 5, 6] rfl)
    · have hf := ag_t c330 hf
      refine lv_aload_n hx hb dL_law_333 rfl (lv_at hl 5 rfl) ?_
      refine lv_iconst (v := 0) hx hb dL_law_334 (by decide) ?_
      obtain ⟨a335, hf⟩ := ag_n hf
      refine ag_lald hx hb hG hW (ag_in_le t8 (sl294 _)) rfl rfl a335 dL_law_335 ?_
      refine lv_iload hx hb dL_law_336 (lv_at hl 0 rfl) ?_
      refine lv_i2l hx hb dL_law_338 rfl ?_
      refine W.lcmp hx hb dL_law_339 ?_
      refine lv_if_eq (tgt := 345) hx hb dL_law_340 (by decide) (fun c340 => ?_) (fun c340 => ?_)
      · have hf := ag_t c340 hf
        refine lv_goto (tgt := 1572) hx hb dL_law_345 (by decide) ?_
        refine W.widen (k := cells + 20) (n := slots + 300) (by omega) (by omega) ?_
        have e9 := Option.some.inj hf
        subst e9
        exact kk p H locs ls he294 hl294 hW hS (lv_sub hl [2, 3, 4, 5, 6] rfl)
      · have hf := ag_f c340 hf
        refine lv_iconst (v := 0) hx hb dL_law_343 (by decide) ?_
        cases hf
  · have hf := ag_f c323 hf
    refine lv_iconst (v := 0) hx hb dL_law_326 (by decide) ?_
    cases hf
def arm3 (fu L : Nat) (xs : Nat → Int32) (i : Int32) (n : ag_N) (s : ag_S) : Option (ag_N × ag_S) := if (i + 1) < 0 ∨ L ≤ (i + 1).toNatClampNeg then none else if (i + 2) < 0 ∨ L ≤ (i + 2).toNatClampNeg then none else ag_bd (f_L_amendOn fu (xs (i + 1).toNatClampNeg) (xs (i + 2).toNatClampNeg) n s) fun r362 => if (i + 1) < 0 ∨ L ≤ (i + 1).toNatClampNeg then none else if (i + 2) < 0 ∨ L ≤ (i + 2).toNatClampNeg then none else ag_bd (f_X6_amendOn fu (xs (i + 1).toNatClampNeg) (xs (i + 2).toNatClampNeg) r362.2.2) fun r380 => ag_bd (f_X6_thrown fu r380.2) fun r386 => if r386 = r362.1 then (if r362.1 = 0 then (if (0 : Int32) < 0 ∨ 1 ≤ (0 : Int32).toNatClampNeg then none else if lg_cmp ((r380.2 8 0 0).toInt64) ((r380.1 : Int32).toInt64) = 0 then (some (r362.2.1, r380.2)) else (none)) else (some (r362.2.1, r380.2))) else (none)
set_option maxHeartbeats 4000000 in
set_option maxRecDepth 100000 in
theorem ra3 {p0 : Program} {l : Launch} {e : Env} {st : State} {m : MethodId} {args : Array Value} {below : List Frame} {meth : Method} {c : Code} {H : Heap} {locs : List Loc} {cells slots : Nat} {Q : State → Prop} {ls : Array Slot} {z : ag_Z} {n : ag_N} {p : ag_P} {s : ag_S} {fu b L : Nat} {xs : Nat → Int32} {i : Int32} {out : ag_N × ag_S} (hq9 : l.stackTraces = false) (hx : p0.tables.exec = Jvm.exec) (hb : c.code = cL_law) (hml : c.maxLocals = 7) (hT : ∀ w ∈ ag_tbl, w.before args st = true) (hown : st.vm.findClass RL = some m.cls) (hG : ag_G z st st.heap) (h0 : z.2.2.1 ≤ st.heap.size) (hS : va_S (ag_A z) st.heap H locs) (hW : ag_W z n p s H) (t5 : vp_in 0 (n 5)) (t6 : vp_in 0 (n 6)) (t8 : vp_in 0 (n 8)) (hX : va_X b L xs st st.heap) (hbl : b < st.heap.size) (hbA : ¬ ag_A z b) (hl : lv_has ls 7 [(0, .ref b), (1, .ref (p 5 0)), (2, .ref (p 6 0)), (3, .ref (p 8 0)), (4, .int i)]) (hC : cells + 20 ≤ 601024) (hD : slots + 300 ≤ 7293034) (hf : arm3 fu L xs i n s = some out) (kk : ∀ (p1 : ag_P) (H1 : Heap) (locs1 : List Loc) (ls1 : Array Slot), ag_ext n p p1 → ag_le n out.1 → ag_W z out.1 p1 out.2 H1 → va_S (ag_A z) st.heap H1 locs1 → lv_has ls1 7 [(0, .ref b), (1, .ref (p1 5 0)), (2, .ref (p1 6 0)), (3, .ref (p1 8 0)), (4, .int i)] → W p0 l e room_1 st m args below meth c H1 locs1 (cells + 20) (slots + 300) Q (F0 m 1572 ls1 [])) : W p0 l e room_1 st m args below meth c H locs cells slots Q (F0 m 348 ls []) := by
  unfold arm3 at hf
  refine lv_aload_n hx hb dL_law_348 rfl (lv_at hl 1 rfl) ?_
  refine lv_aload_n hx hb dL_law_349 rfl (lv_at hl 0 rfl) ?_
  refine lv_iload hx hb dL_law_350 (lv_at hl 4 rfl) ?_
  refine lv_iconst (v := 1) hx hb dL_law_352 (by decide) ?_
  refine lv_iadd hx hb dL_law_353 ?_
  obtain ⟨a354, hf⟩ := ag_n hf
  refine va_sld hx hb hX hbl hbA hS a354 dL_law_354 ?_
  refine lv_aload_n hx hb dL_law_355 rfl (lv_at hl 0 rfl) ?_
  refine lv_iload hx hb dL_law_356 (lv_at hl 4 rfl) ?_
  refine lv_iconst (v := 2) hx hb dL_law_358 (by decide) ?_
  refine lv_iadd hx hb dL_law_359 ?_
  obtain ⟨a360, hf⟩ := ag_n hf
  refine va_sld hx hb hX hbl hbA hS a360 dL_law_360 ?_
  refine lv_aload_n hx hb dL_law_361 rfl (lv_at hl 3 rfl) ?_
  obtain ⟨r362, hg362, hf⟩ := ag_bs hf
  refine ag_aHi (hh := [(0, 10, 13, 23), (0, 10, 17, 13), (0, 10, 21, 15)]) (C1 := cells + 10) (S1 := slots + 200) hx hb hml hT hown hG h0 hS hW (c_L_amendOn hq9 t5 t8 hg362) ⟨rfl, rfl⟩ q431 q432 q0 q433 dd_yL_amendOn ⟨Nat.le_of_ble_eq_true rfl, Nat.le_of_ble_eq_true rfl⟩ hl.1 rfl (Nat.le_of_ble_eq_true rfl) ⟨by show cells + 10 ≤ 601024; omega, by show slots + 200 ≤ 7293034; omega⟩ dL_law_362 (by omega) (by omega) (fun p H locs hp362 hle362 hW hS => ?_)
  have sl362 := hle362
  have he362 := ag_ext_tr (ag_le_rf _) (ag_ext_rf _ _) hp362
  have hl362 := ag_le_tr (ag_le_rf _) sl362
  rw [← hp362 5 0 t5, ← hp362 6 0 t6, ← hp362 8 0 t8] at hl
  refine lv_istore (lv' := [(5, .int r362.1), (0, .ref b), (1, .ref (p 5 0)), (2, .ref (p 6 0)), (3, .ref (p 8 0)), (4, .int i)]) hx hb dL_law_365 hl (by decide) rfl (fun ls hl => ?_)
  refine lv_aload_n hx hb dL_law_367 rfl (lv_at hl 3 rfl) ?_
  refine lv_aload_n hx hb dL_law_368 rfl (lv_at hl 1 rfl) ?_
  refine lv_iload hx hb dL_law_369 (lv_at hl 5 rfl) ?_
  refine lv_iconst (v := 1) hx hb dL_law_371 (by decide) ?_
  refine lv_iadd hx hb dL_law_372 ?_
  obtain ⟨a373, hf⟩ := ag_n hf
  refine va_sld hx hb hX hbl hbA hS a373 dL_law_373 ?_
  refine lv_aload_n hx hb dL_law_374 rfl (lv_at hl 1 rfl) ?_
  refine lv_iload hx hb dL_law_375 (lv_at hl 5 rfl) ?_
  refine lv_iconst (v := 2) hx hb dL_law_377 (by decide) ?_
  refine lv_iadd hx hb dL_law_378 ?_
  obtain ⟨a379, hf⟩ := ag_n hf
  refine va_sld hx hb hX hbl hbA hS a379 dL_law_379 ?_
  obtain ⟨r380, hg380, hf⟩ := ag_bs hf
  refine ag_cVi hx hb hml hT hown hG h0 hS hW (c_X6_amendOn (ag_in_le t6 (sl362 _)) hg380) ⟨rfl, rfl⟩ q921 q922 q923 q11 q924 dd_yX6_amendOn ⟨Nat.le_of_ble_eq_true rfl, Nat.le_of_ble_eq_true rfl⟩ (ag_in_le t6 (sl362 _)) rfl rfl hl.1 rfl (Nat.le_of_ble_eq_true rfl) ⟨by show (cells + 10) + 0 ≤ 601024; omega, by show (slots + 200) + 0 ≤ 7293034; omega⟩ dL_law_380 (fun H locs hW hS => ?_)
  refine lv_istore (lv' := [(6, .int r380.1), (5, .int r362.1), (0, .ref b), (1, .ref (p 5 0)), (2, .ref (p 6 0)), (3, .ref (p 8 0)), (4, .int i)]) hx hb dL_law_383 hl (by decide) rfl (fun ls hl => ?_)
  refine lv_aload_n hx hb dL_law_385 rfl (lv_at hl 4 rfl) ?_
  obtain ⟨r386, hg386, hf⟩ := ag_bs hf
  refine ag_cVi hx hb hml hT hown hG h0 hS hW (c_X6_thrown (ag_in_le t6 (sl362 _)) hg386) ⟨rfl, rfl⟩ q884 q885 q886 q11 q887 dd_yX6_thrown ⟨Nat.le_of_ble_eq_true rfl, Nat.le_of_ble_eq_true rfl⟩ (ag_in_le t6 (sl362 _)) rfl rfl hl.1 rfl (Nat.le_of_ble_eq_true rfl) ⟨by show (cells + 10) + 0 ≤ 601024; omega, by show (slots + 200) + 0 ≤ 7293034; omega⟩ dL_law_386 (fun H locs hW hS => ?_)
  refine lv_iload hx hb dL_law_389 (lv_at hl 1 rfl) ?_
  refine lv_icmp_eq (tgt := 396) hx hb dL_law_391 (by decide) (fun c391 => ?_) (fun c391 => ?_)
  · have hf := ag_t c391 hf
    refine lv_iload hx hb dL_law_396 (lv_at hl 1 rfl) ?_
    refine lv_if_ne (tgt := 413) hx hb dL_law_398 (by decide) (fun c398 => ?_) (fun c398 => ?_)
    · have hf := ag_f c398 hf
      refine lv_goto (tgt := 1572) hx hb dL_law_413 (by decide) ?_
      refine W.widen (k := cells + 20) (n := slots + 300) (by omega) (by omega) ?_
      have e9 := Option.some.inj hf
      subst e9
      exact kk p H locs ls he362 hl362 hW hS (lv_sub hl [2, 3, 4, 5, 6] rfl)
    · have hf := ag_t c398 hf
      refine lv_aload_n hx hb dL_law_401 rfl (lv_at hl 5 rfl) ?_
      refine lv_iconst (v := 0) hx hb dL_law_402 (by decide) ?_
      obtain ⟨a403, hf⟩ := ag_n hf
      refine ag_lald hx hb hG hW (ag_in_le t8 (sl362 _)) rfl rfl a403 dL_law_403 ?_
      refine lv_iload hx hb dL_law_404 (lv_at hl 0 rfl) ?_
      refine lv_i2l hx hb dL_law_406 rfl ?_
      refine W.lcmp hx hb dL_law_407 ?_
      refine lv_if_eq (tgt := 413) hx hb dL_law_408 (by decide) (fun c408 => ?_) (fun c408 => ?_)
      · have hf := ag_t c408 hf
        refine lv_goto (tgt := 1572) hx hb dL_law_413 (by decide) ?_
        refine W.widen (k := cells + 20) (n := slots + 300) (by omega) (by omega) ?_
        have e9 := Option.some.inj hf
        subst e9
        exact kk p H locs ls he362 hl362 hW hS (lv_sub hl [2, 3, 4, 5, 6] rfl)
      · have hf := ag_f c408 hf
        refine lv_iconst (v := 0) hx hb dL_law_411 (by decide) ?_
        cases hf
  · have hf := ag_f c391 hf
    refine lv_iconst (v := 0) hx hb dL_law_394 (by decide) ?_
    cases hf
def arm4 (fu L : Nat) (xs : Nat → Int32) (i : Int32) (n : ag_N) (s : ag_S) : Option (ag_N × ag_S) := if (i + 1) < 0 ∨ L ≤ (i + 1).toNatClampNeg then none else if (i + 2) < 0 ∨ L ≤ (i + 2).toNatClampNeg then none else if (i + 3) < 0 ∨ L ≤ (i + 3).toNatClampNeg then none else if xs (i + 3).toNatClampNeg = 0 then (ag_bd (f_L_vote fu (xs (i + 1).toNatClampNeg) (xs (i + 2).toNatClampNeg) 0 s) fun r444 => if (i + 1) < 0 ∨ L ≤ (i + 1).toNatClampNeg then none else if (i + 2) < 0 ∨ L ≤ (i + 2).toNatClampNeg then none else if (i + 3) < 0 ∨ L ≤ (i + 3).toNatClampNeg then none else if xs (i + 3).toNatClampNeg = 0 then (ag_bd (f_X6_vote fu (xs (i + 1).toNatClampNeg) (xs (i + 2).toNatClampNeg) 0 r444.2) fun r476 => ag_bd (f_X6_thrown fu r476.2) fun r482 => if r482 = r444.1 then (if r444.1 = 0 then (if (0 : Int32) < 0 ∨ 1 ≤ (0 : Int32).toNatClampNeg then none else if lg_cmp ((r476.2 8 0 0).toInt64) ((r476.1 : Int32).toInt64) = 0 then (some (n, r476.2)) else (none)) else (some (n, r476.2))) else (none)) else (ag_bd (f_X6_vote fu (xs (i + 1).toNatClampNeg) (xs (i + 2).toNatClampNeg) 1 r444.2) fun r476 => ag_bd (f_X6_thrown fu r476.2) fun r482 => if r482 = r444.1 then (if r444.1 = 0 then (if (0 : Int32) < 0 ∨ 1 ≤ (0 : Int32).toNatClampNeg then none else if lg_cmp ((r476.2 8 0 0).toInt64) ((r476.1 : Int32).toInt64) = 0 then (some (n, r476.2)) else (none)) else (some (n, r476.2))) else (none))) else (ag_bd (f_L_vote fu (xs (i + 1).toNatClampNeg) (xs (i + 2).toNatClampNeg) 1 s) fun r444 => if (i + 1) < 0 ∨ L ≤ (i + 1).toNatClampNeg then none else if (i + 2) < 0 ∨ L ≤ (i + 2).toNatClampNeg then none else if (i + 3) < 0 ∨ L ≤ (i + 3).toNatClampNeg then none else if xs (i + 3).toNatClampNeg = 0 then (ag_bd (f_X6_vote fu (xs (i + 1).toNatClampNeg) (xs (i + 2).toNatClampNeg) 0 r444.2) fun r476 => ag_bd (f_X6_thrown fu r476.2) fun r482 => if r482 = r444.1 then (if r444.1 = 0 then (if (0 : Int32) < 0 ∨ 1 ≤ (0 : Int32).toNatClampNeg then none else if lg_cmp ((r476.2 8 0 0).toInt64) ((r476.1 : Int32).toInt64) = 0 then (some (n, r476.2)) else (none)) else (some (n, r476.2))) else (none)) else (ag_bd (f_X6_vote fu (xs (i + 1).toNatClampNeg) (xs (i + 2).toNatClampNeg) 1 r444.2) fun r476 => ag_bd (f_X6_thrown fu r476.2) fun r482 => if r482 = r444.1 then (if r444.1 = 0 then (if (0 : Int32) < 0 ∨ 1 ≤ (0 : Int32).toNatClampNeg then none else if lg_cmp ((r476.2 8 0 0).toInt64) ((r476.1 : Int32).toInt64) = 0 then (some (n, r476.2)) else (none)) else (some (n, r476.2))) else (none)))
set_option maxHeartbeats 4000000 in
set_option maxRecDepth 100000 in
theorem ra4 {p0 : Program} {l : Launch} {e : Env} {st : State} {m : MethodId} {args : Array Value} {below : List Frame} {meth : Method} {c : Code} {H : Heap} {locs : List Loc} {cells slots : Nat} {Q : State → Prop} {ls : Array Slot} {z : ag_Z} {n : ag_N} {p : ag_P} {s : ag_S} {fu b L : Nat} {xs : Nat → Int32} {i : Int32} {out : ag_N × ag_S} (hq9 : l.stackTraces = false) (hx : p0.tables.exec = Jvm.exec) (hb : c.code = cL_law) (hml : c.maxLocals = 7) (hT : ∀ w ∈ ag_tbl, w.before args st = true) (hown : st.vm.findClass RL = some m.cls) (hG : ag_G z st st.heap) (h0 : z.2.2.1 ≤ st.heap.size) (hS : va_S (ag_A z) st.heap H locs) (hW : ag_W z n p s H) (t5 : vp_in 0 (n 5)) (t6 : vp_in 0 (n 6)) (t8 : vp_in 0 (n 8)) (hX : va_X b L xs st st.heap) (hbl : b < st.heap.size) (hbA : ¬ ag_A z b) (hl : lv_has ls 7 [(0, .ref b), (1, .ref (p 5 0)), (2, .ref (p 6 0)), (3, .ref (p 8 0)), (4, .int i)]) (hC : cells + 20 ≤ 601024) (hD : slots + 300 ≤ 7293034) (hf : arm4 fu L xs i n s = some out) (kk : ∀ (p1 : ag_P) (H1 : Heap) (locs1 : List Loc) (ls1 : Array Slot), ag_ext n p p1 → ag_le n out.1 → ag_W z out.1 p1 out.2 H1 → va_S (ag_A z) st.heap H1 locs1 → lv_has ls1 7 [(0, .ref b), (1, .ref (p1 5 0)), (2, .ref (p1 6 0)), (3, .ref (p1 8 0)), (4, .int i)] → W p0 l e room_1 st m args below meth c H1 locs1 (cells + 20) (slots + 300) Q (F0 m 1572 ls1 [])) : W p0 l e room_1 st m args below meth c H locs cells slots Q (F0 m 416 ls []) := by
  unfold arm4 at hf
  refine lv_aload_n hx hb dL_law_416 rfl (lv_at hl 1 rfl) ?_
  refine lv_aload_n hx hb dL_law_417 rfl (lv_at hl 0 rfl) ?_
  refine lv_iload hx hb dL_law_418 (lv_at hl 4 rfl) ?_
  refine lv_iconst (v := 1) hx hb dL_law_420 (by decide) ?_
  refine lv_iadd hx hb dL_law_421 ?_
  obtain ⟨a422, hf⟩ := ag_n hf
  refine va_sld hx hb hX hbl hbA hS a422 dL_law_422 ?_
  refine lv_aload_n hx hb dL_law_423 rfl (lv_at hl 0 rfl) ?_
  refine lv_iload hx hb dL_law_424 (lv_at hl 4 rfl) ?_
  refine lv_iconst (v := 2) hx hb dL_law_426 (by decide) ?_
  refine lv_iadd hx hb dL_law_427 ?_
  obtain ⟨a428, hf⟩ := ag_n hf
  refine va_sld hx hb hX hbl hbA hS a428 dL_law_428 ?_
  refine lv_aload_n hx hb dL_law_429 rfl (lv_at hl 0 rfl) ?_
  refine lv_iload hx hb dL_law_430 (lv_at hl 4 rfl) ?_
  refine lv_iconst (v := 3) hx hb dL_law_432 (by decide) ?_
  refine lv_iadd hx hb dL_law_433 ?_
  obtain ⟨a434, hf⟩ := ag_n hf
  refine va_sld hx hb hX hbl hbA hS a434 dL_law_434 ?_
  refine lv_if_eq (tgt := 442) hx hb dL_law_435 (by decide) (fun c435 => ?_) (fun c435 => ?_)
  · have hf := ag_t c435 hf
    refine lv_iconst (v := 0) hx hb dL_law_442 (by decide) ?_
    refine lv_aload_n hx hb dL_law_443 rfl (lv_at hl 3 rfl) ?_
    obtain ⟨r444, hg444, hf⟩ := ag_bs hf
    refine ag_hHi (hh := [(0, 12, 15, 23), (0, 12, 19, 15)]) (C1 := cells + 5) (S1 := slots + 30) hx hb hml hT hown hG h0 hS hW (c_L_vote hq9 t5 t8 hg444) ⟨rfl, rfl⟩ q447 q448 q0 q449 dd_yL_vote ⟨Nat.le_of_ble_eq_true rfl, Nat.le_of_ble_eq_true rfl⟩ hl.1 rfl (Nat.le_of_ble_eq_true rfl) ⟨by show cells + 5 ≤ 601024; omega, by show slots + 30 ≤ 7293034; omega⟩ dL_law_444 (by omega) (by omega) (fun H locs hW hS => ?_)
    refine lv_istore (lv' := [(5, .int r444.1), (0, .ref b), (1, .ref (p 5 0)), (2, .ref (p 6 0)), (3, .ref (p 8 0)), (4, .int i)]) hx hb dL_law_447 hl (by decide) rfl (fun ls hl => ?_)
    refine lv_aload_n hx hb dL_law_449 rfl (lv_at hl 3 rfl) ?_
    refine lv_aload_n hx hb dL_law_450 rfl (lv_at hl 1 rfl) ?_
    refine lv_iload hx hb dL_law_451 (lv_at hl 5 rfl) ?_
    refine lv_iconst (v := 1) hx hb dL_law_453 (by decide) ?_
    refine lv_iadd hx hb dL_law_454 ?_
    obtain ⟨a455, hf⟩ := ag_n hf
    refine va_sld hx hb hX hbl hbA hS a455 dL_law_455 ?_
    refine lv_aload_n hx hb dL_law_456 rfl (lv_at hl 1 rfl) ?_
    refine lv_iload hx hb dL_law_457 (lv_at hl 5 rfl) ?_
    refine lv_iconst (v := 2) hx hb dL_law_459 (by decide) ?_
    refine lv_iadd hx hb dL_law_460 ?_
    obtain ⟨a461, hf⟩ := ag_n hf
    refine va_sld hx hb hX hbl hbA hS a461 dL_law_461 ?_
    refine lv_aload_n hx hb dL_law_462 rfl (lv_at hl 1 rfl) ?_
    refine lv_iload hx hb dL_law_463 (lv_at hl 5 rfl) ?_
    refine lv_iconst (v := 3) hx hb dL_law_465 (by decide) ?_
    refine lv_iadd hx hb dL_law_466 ?_
    obtain ⟨a467, hf⟩ := ag_n hf
    refine va_sld hx hb hX hbl hbA hS a467 dL_law_467 ?_
    refine lv_if_eq (tgt := 475) hx hb dL_law_468 (by decide) (fun c468 => ?_) (fun c468 => ?_)
    · have hf := ag_t c468 hf
      refine lv_iconst (v := 0) hx hb dL_law_475 (by decide) ?_
      obtain ⟨r476, hg476, hf⟩ := ag_bs hf
      refine ag_cVi hx hb hml hT hown hG h0 hS hW (c_X6_vote t6 hg476) ⟨rfl, rfl⟩ q929 q930 q931 q11 q932 dd_yX6_vote ⟨Nat.le_of_ble_eq_true rfl, Nat.le_of_ble_eq_true rfl⟩ t6 rfl rfl hl.1 rfl (Nat.le_of_ble_eq_true rfl) ⟨by show (cells + 5) + 0 ≤ 601024; omega, by show (slots + 30) + 0 ≤ 7293034; omega⟩ dL_law_476 (fun H locs hW hS => ?_)
      refine lv_istore (lv' := [(6, .int r476.1), (5, .int r444.1), (0, .ref b), (1, .ref (p 5 0)), (2, .ref (p 6 0)), (3, .ref (p 8 0)), (4, .int i)]) hx hb dL_law_479 hl (by decide) rfl (fun ls hl => ?_)
      refine lv_aload_n hx hb dL_law_481 rfl (lv_at hl 4 rfl) ?_
      obtain ⟨r482, hg482, hf⟩ := ag_bs hf
      refine ag_cVi hx hb hml hT hown hG h0 hS hW (c_X6_thrown t6 hg482) ⟨rfl, rfl⟩ q884 q885 q886 q11 q887 dd_yX6_thrown ⟨Nat.le_of_ble_eq_true rfl, Nat.le_of_ble_eq_true rfl⟩ t6 rfl rfl hl.1 rfl (Nat.le_of_ble_eq_true rfl) ⟨by show (cells + 5) + 0 ≤ 601024; omega, by show (slots + 30) + 0 ≤ 7293034; omega⟩ dL_law_482 (fun H locs hW hS => ?_)
      refine lv_iload hx hb dL_law_485 (lv_at hl 1 rfl) ?_
      refine lv_icmp_eq (tgt := 492) hx hb dL_law_487 (by decide) (fun c487 => ?_) (fun c487 => ?_)
      · have hf := ag_t c487 hf
        refine lv_iload hx hb dL_law_492 (lv_at hl 1 rfl) ?_
        refine lv_if_ne (tgt := 509) hx hb dL_law_494 (by decide) (fun c494 => ?_) (fun c494 => ?_)
        · have hf := ag_f c494 hf
          refine lv_goto (tgt := 1572) hx hb dL_law_509 (by decide) ?_
          refine W.widen (k := cells + 20) (n := slots + 300) (by omega) (by omega) ?_
          have e9 := Option.some.inj hf
          subst e9
          exact kk p H locs ls (ag_ext_rf _ _) (ag_le_rf _) hW hS (lv_sub hl [2, 3, 4, 5, 6] rfl)
        · have hf := ag_t c494 hf
          refine lv_aload_n hx hb dL_law_497 rfl (lv_at hl 5 rfl) ?_
          refine lv_iconst (v := 0) hx hb dL_law_498 (by decide) ?_
          obtain ⟨a499, hf⟩ := ag_n hf
          refine ag_lald hx hb hG hW t8 rfl rfl a499 dL_law_499 ?_
          refine lv_iload hx hb dL_law_500 (lv_at hl 0 rfl) ?_
          refine lv_i2l hx hb dL_law_502 rfl ?_
          refine W.lcmp hx hb dL_law_503 ?_
          refine lv_if_eq (tgt := 509) hx hb dL_law_504 (by decide) (fun c504 => ?_) (fun c504 => ?_)
          · have hf := ag_t c504 hf
            refine lv_goto (tgt := 1572) hx hb dL_law_509 (by decide) ?_
            refine W.widen (k := cells + 20) (n := slots + 300) (by omega) (by omega) ?_
            have e9 := Option.some.inj hf
            subst e9
            exact kk p H locs ls (ag_ext_rf _ _) (ag_le_rf _) hW hS (lv_sub hl [2, 3, 4, 5, 6] rfl)
          · have hf := ag_f c504 hf
            refine lv_iconst (v := 0) hx hb dL_law_507 (by decide) ?_
            cases hf
      · have hf := ag_f c487 hf
        refine lv_iconst (v := 0) hx hb dL_law_490 (by decide) ?_
        cases hf
    · have hf := ag_f c468 hf
      refine lv_iconst (v := 1) hx hb dL_law_471 (by decide) ?_
      refine lv_goto (tgt := 476) hx hb dL_law_472 (by decide) ?_
      obtain ⟨r476, hg476, hf⟩ := ag_bs hf
      refine ag_cVi hx hb hml hT hown hG h0 hS hW (c_X6_vote t6 hg476) ⟨rfl, rfl⟩ q929 q930 q931 q11 q932 dd_yX6_vote ⟨Nat.le_of_ble_eq_true rfl, Nat.le_of_ble_eq_true rfl⟩ t6 rfl rfl hl.1 rfl (Nat.le_of_ble_eq_true rfl) ⟨by show (cells + 5) + 0 ≤ 601024; omega, by show (slots + 30) + 0 ≤ 7293034; omega⟩ dL_law_476 (fun H locs hW hS => ?_)
      refine lv_istore (lv' := [(6, .int r476.1), (5, .int r444.1), (0, .ref b), (1, .ref (p 5 0)), (2, .ref (p 6 0)), (3, .ref (p 8 0)), (4, .int i)]) hx hb dL_law_479 hl (by decide) rfl (fun ls hl => ?_)
      refine lv_aload_n hx hb dL_law_481 rfl (lv_at hl 4 rfl) ?_
      obtain ⟨r482, hg482, hf⟩ := ag_bs hf
      refine ag_cVi hx hb hml hT hown hG h0 hS hW (c_X6_thrown t6 hg482) ⟨rfl, rfl⟩ q884 q885 q886 q11 q887 dd_yX6_thrown ⟨Nat.le_of_ble_eq_true rfl, Nat.le_of_ble_eq_true rfl⟩ t6 rfl rfl hl.1 rfl (Nat.le_of_ble_eq_true rfl) ⟨by show (cells + 5) + 0 ≤ 601024; omega, by show (slots + 30) + 0 ≤ 7293034; omega⟩ dL_law_482 (fun H locs hW hS => ?_)
      refine lv_iload hx hb dL_law_485 (lv_at hl 1 rfl) ?_
      refine lv_icmp_eq (tgt := 492) hx hb dL_law_487 (by decide) (fun c487 => ?_) (fun c487 => ?_)
      · have hf := ag_t c487 hf
        refine lv_iload hx hb dL_law_492 (lv_at hl 1 rfl) ?_
        refine lv_if_ne (tgt := 509) hx hb dL_law_494 (by decide) (fun c494 => ?_) (fun c494 => ?_)
        · have hf := ag_f c494 hf
          refine lv_goto (tgt := 1572) hx hb dL_law_509 (by decide) ?_
          refine W.widen (k := cells + 20) (n := slots + 300) (by omega) (by omega) ?_
          have e9 := Option.some.inj hf
          subst e9
          exact kk p H locs ls (ag_ext_rf _ _) (ag_le_rf _) hW hS (lv_sub hl [2, 3, 4, 5, 6] rfl)
        · have hf := ag_t c494 hf
          refine lv_aload_n hx hb dL_law_497 rfl (lv_at hl 5 rfl) ?_
          refine lv_iconst (v := 0) hx hb dL_law_498 (by decide) ?_
          obtain ⟨a499, hf⟩ := ag_n hf
          refine ag_lald hx hb hG hW t8 rfl rfl a499 dL_law_499 ?_
          refine lv_iload hx hb dL_law_500 (lv_at hl 0 rfl) ?_
          refine lv_i2l hx hb dL_law_502 rfl ?_
          refine W.lcmp hx hb dL_law_503 ?_
          refine lv_if_eq (tgt := 509) hx hb dL_law_504 (by decide) (fun c504 => ?_) (fun c504 => ?_)
          · have hf := ag_t c504 hf
            refine lv_goto (tgt := 1572) hx hb dL_law_509 (by decide) ?_
            refine W.widen (k := cells + 20) (n := slots + 300) (by omega) (by omega) ?_
            have e9 := Option.some.inj hf
            subst e9
            exact kk p H locs ls (ag_ext_rf _ _) (ag_le_rf _) hW hS (lv_sub hl [2, 3, 4, 5, 6] rfl)
          · have hf := ag_f c504 hf
            refine lv_iconst (v := 0) hx hb dL_law_507 (by decide) ?_
            cases hf
      · have hf := ag_f c487 hf
        refine lv_iconst (v := 0) hx hb dL_law_490 (by decide) ?_
        cases hf
  · have hf := ag_f c435 hf
    refine lv_iconst (v := 1) hx hb dL_law_438 (by decide) ?_
    refine lv_goto (tgt := 443) hx hb dL_law_439 (by decide) ?_
    refine lv_aload_n hx hb dL_law_443 rfl (lv_at hl 3 rfl) ?_
    obtain ⟨r444, hg444, hf⟩ := ag_bs hf
    refine ag_hHi (hh := [(0, 12, 15, 23), (0, 12, 19, 15)]) (C1 := cells + 5) (S1 := slots + 30) hx hb hml hT hown hG h0 hS hW (c_L_vote hq9 t5 t8 hg444) ⟨rfl, rfl⟩ q447 q448 q0 q449 dd_yL_vote ⟨Nat.le_of_ble_eq_true rfl, Nat.le_of_ble_eq_true rfl⟩ hl.1 rfl (Nat.le_of_ble_eq_true rfl) ⟨by show cells + 5 ≤ 601024; omega, by show slots + 30 ≤ 7293034; omega⟩ dL_law_444 (by omega) (by omega) (fun H locs hW hS => ?_)
    refine lv_istore (lv' := [(5, .int r444.1), (0, .ref b), (1, .ref (p 5 0)), (2, .ref (p 6 0)), (3, .ref (p 8 0)), (4, .int i)]) hx hb dL_law_447 hl (by decide) rfl (fun ls hl => ?_)
    refine lv_aload_n hx hb dL_law_449 rfl (lv_at hl 3 rfl) ?_
    refine lv_aload_n hx hb dL_law_450 rfl (lv_at hl 1 rfl) ?_
    refine lv_iload hx hb dL_law_451 (lv_at hl 5 rfl) ?_
    refine lv_iconst (v := 1) hx hb dL_law_453 (by decide) ?_
    refine lv_iadd hx hb dL_law_454 ?_
    obtain ⟨a455, hf⟩ := ag_n hf
    refine va_sld hx hb hX hbl hbA hS a455 dL_law_455 ?_
    refine lv_aload_n hx hb dL_law_456 rfl (lv_at hl 1 rfl) ?_
    refine lv_iload hx hb dL_law_457 (lv_at hl 5 rfl) ?_
    refine lv_iconst (v := 2) hx hb dL_law_459 (by decide) ?_
    refine lv_iadd hx hb dL_law_460 ?_
    obtain ⟨a461, hf⟩ := ag_n hf
    refine va_sld hx hb hX hbl hbA hS a461 dL_law_461 ?_
    refine lv_aload_n hx hb dL_law_462 rfl (lv_at hl 1 rfl) ?_
    refine lv_iload hx hb dL_law_463 (lv_at hl 5 rfl) ?_
    refine lv_iconst (v := 3) hx hb dL_law_465 (by decide) ?_
    refine lv_iadd hx hb dL_law_466 ?_
    obtain ⟨a467, hf⟩ := ag_n hf
    refine va_sld hx hb hX hbl hbA hS a467 dL_law_467 ?_
    refine lv_if_eq (tgt := 475) hx hb dL_law_468 (by decide) (fun c468 => ?_) (fun c468 => ?_)
    · have hf := ag_t c468 hf
      refine lv_iconst (v := 0) hx hb dL_law_475 (by decide) ?_
      obtain ⟨r476, hg476, hf⟩ := ag_bs hf
      refine ag_cVi hx hb hml hT hown hG h0 hS hW (c_X6_vote t6 hg476) ⟨rfl, rfl⟩ q929 q930 q931 q11 q932 dd_yX6_vote ⟨Nat.le_of_ble_eq_true rfl, Nat.le_of_ble_eq_true rfl⟩ t6 rfl rfl hl.1 rfl (Nat.le_of_ble_eq_true rfl) ⟨by show (cells + 5) + 0 ≤ 601024; omega, by show (slots + 30) + 0 ≤ 7293034; omega⟩ dL_law_476 (fun H locs hW hS => ?_)
      refine lv_istore (lv' := [(6, .int r476.1), (5, .int r444.1), (0, .ref b), (1, .ref (p 5 0)), (2, .ref (p 6 0)), (3, .ref (p 8 0)), (4, .int i)]) hx hb dL_law_479 hl (by decide) rfl (fun ls hl => ?_)
      refine lv_aload_n hx hb dL_law_481 rfl (lv_at hl 4 rfl) ?_
      obtain ⟨r482, hg482, hf⟩ := ag_bs hf
      refine ag_cVi hx hb hml hT hown hG h0 hS hW (c_X6_thrown t6 hg482) ⟨rfl, rfl⟩ q884 q885 q886 q11 q887 dd_yX6_thrown ⟨Nat.le_of_ble_eq_true rfl, Nat.le_of_ble_eq_true rfl⟩ t6 rfl rfl hl.1 rfl (Nat.le_of_ble_eq_true rfl) ⟨by show (cells + 5) + 0 ≤ 601024; omega, by show (slots + 30) + 0 ≤ 7293034; omega⟩ dL_law_482 (fun H locs hW hS => ?_)
      refine lv_iload hx hb dL_law_485 (lv_at hl 1 rfl) ?_
      refine lv_icmp_eq (tgt := 492) hx hb dL_law_487 (by decide) (fun c487 => ?_) (fun c487 => ?_)
      · have hf := ag_t c487 hf
        refine lv_iload hx hb dL_law_492 (lv_at hl 1 rfl) ?_
        refine lv_if_ne (tgt := 509) hx hb dL_law_494 (by decide) (fun c494 => ?_) (fun c494 => ?_)
        · have hf := ag_f c494 hf
          refine lv_goto (tgt := 1572) hx hb dL_law_509 (by decide) ?_
          refine W.widen (k := cells + 20) (n := slots + 300) (by omega) (by omega) ?_
          have e9 := Option.some.inj hf
          subst e9
          exact kk p H locs ls (ag_ext_rf _ _) (ag_le_rf _) hW hS (lv_sub hl [2, 3, 4, 5, 6] rfl)
        · have hf := ag_t c494 hf
          refine lv_aload_n hx hb dL_law_497 rfl (lv_at hl 5 rfl) ?_
          refine lv_iconst (v := 0) hx hb dL_law_498 (by decide) ?_
          obtain ⟨a499, hf⟩ := ag_n hf
          refine ag_lald hx hb hG hW t8 rfl rfl a499 dL_law_499 ?_
          refine lv_iload hx hb dL_law_500 (lv_at hl 0 rfl) ?_
          refine lv_i2l hx hb dL_law_502 rfl ?_
          refine W.lcmp hx hb dL_law_503 ?_
          refine lv_if_eq (tgt := 509) hx hb dL_law_504 (by decide) (fun c504 => ?_) (fun c504 => ?_)
          · have hf := ag_t c504 hf
            refine lv_goto (tgt := 1572) hx hb dL_law_509 (by decide) ?_
            refine W.widen (k := cells + 20) (n := slots + 300) (by omega) (by omega) ?_
            have e9 := Option.some.inj hf
            subst e9
            exact kk p H locs ls (ag_ext_rf _ _) (ag_le_rf _) hW hS (lv_sub hl [2, 3, 4, 5, 6] rfl)
          · have hf := ag_f c504 hf
            refine lv_iconst (v := 0) hx hb dL_law_507 (by decide) ?_
            cases hf
      · have hf := ag_f c487 hf
        refine lv_iconst (v := 0) hx hb dL_law_490 (by decide) ?_
        cases hf
    · have hf := ag_f c468 hf
      refine lv_iconst (v := 1) hx hb dL_law_471 (by decide) ?_
      refine lv_goto (tgt := 476) hx hb dL_law_472 (by decide) ?_
      obtain ⟨r476, hg476, hf⟩ := ag_bs hf
      refine ag_cVi hx hb hml hT hown hG h0 hS hW (c_X6_vote t6 hg476) ⟨rfl, rfl⟩ q929 q930 q931 q11 q932 dd_yX6_vote ⟨Nat.le_of_ble_eq_true rfl, Nat.le_of_ble_eq_true rfl⟩ t6 rfl rfl hl.1 rfl (Nat.le_of_ble_eq_true rfl) ⟨by show (cells + 5) + 0 ≤ 601024; omega, by show (slots + 30) + 0 ≤ 7293034; omega⟩ dL_law_476 (fun H locs hW hS => ?_)
      refine lv_istore (lv' := [(6, .int r476.1), (5, .int r444.1), (0, .ref b), (1, .ref (p 5 0)), (2, .ref (p 6 0)), (3, .ref (p 8 0)), (4, .int i)]) hx hb dL_law_479 hl (by decide) rfl (fun ls hl => ?_)
      refine lv_aload_n hx hb dL_law_481 rfl (lv_at hl 4 rfl) ?_
      obtain ⟨r482, hg482, hf⟩ := ag_bs hf
      refine ag_cVi hx hb hml hT hown hG h0 hS hW (c_X6_thrown t6 hg482) ⟨rfl, rfl⟩ q884 q885 q886 q11 q887 dd_yX6_thrown ⟨Nat.le_of_ble_eq_true rfl, Nat.le_of_ble_eq_true rfl⟩ t6 rfl rfl hl.1 rfl (Nat.le_of_ble_eq_true rfl) ⟨by show (cells + 5) + 0 ≤ 601024; omega, by show (slots + 30) + 0 ≤ 7293034; omega⟩ dL_law_482 (fun H locs hW hS => ?_)
      refine lv_iload hx hb dL_law_485 (lv_at hl 1 rfl) ?_
      refine lv_icmp_eq (tgt := 492) hx hb dL_law_487 (by decide) (fun c487 => ?_) (fun c487 => ?_)
      · have hf := ag_t c487 hf
        refine lv_iload hx hb dL_law_492 (lv_at hl 1 rfl) ?_
        refine lv_if_ne (tgt := 509) hx hb dL_law_494 (by decide) (fun c494 => ?_) (fun c494 => ?_)
        · have hf := ag_f c494 hf
          refine lv_goto (tgt := 1572) hx hb dL_law_509 (by decide) ?_
          refine W.widen (k := cells + 20) (n := slots + 300) (by omega) (by omega) ?_
          have e9 := Option.some.inj hf
          subst e9
          exact kk p H locs ls (ag_ext_rf _ _) (ag_le_rf _) hW hS (lv_sub hl [2, 3, 4, 5, 6] rfl)
        · have hf := ag_t c494 hf
          refine lv_aload_n hx hb dL_law_497 rfl (lv_at hl 5 rfl) ?_
          refine lv_iconst (v := 0) hx hb dL_law_498 (by decide) ?_
          obtain ⟨a499, hf⟩ := ag_n hf
          refine ag_lald hx hb hG hW t8 rfl rfl a499 dL_law_499 ?_
          refine lv_iload hx hb dL_law_500 (lv_at hl 0 rfl) ?_
          refine lv_i2l hx hb dL_law_502 rfl ?_
          refine W.lcmp hx hb dL_law_503 ?_
          refine lv_if_eq (tgt := 509) hx hb dL_law_504 (by decide) (fun c504 => ?_) (fun c504 => ?_)
          · have hf := ag_t c504 hf
            refine lv_goto (tgt := 1572) hx hb dL_law_509 (by decide) ?_
            refine W.widen (k := cells + 20) (n := slots + 300) (by omega) (by omega) ?_
            have e9 := Option.some.inj hf
            subst e9
            exact kk p H locs ls (ag_ext_rf _ _) (ag_le_rf _) hW hS (lv_sub hl [2, 3, 4, 5, 6] rfl)
          · have hf := ag_f c504 hf
            refine lv_iconst (v := 0) hx hb dL_law_507 (by decide) ?_
            cases hf
      · have hf := ag_f c487 hf
        refine lv_iconst (v := 0) hx hb dL_law_490 (by decide) ?_
        cases hf
def arm5 (fu L : Nat) (xs : Nat → Int32) (i : Int32) (n : ag_N) (s : ag_S) : Option (ag_N × ag_S) := if (i + 1) < 0 ∨ L ≤ (i + 1).toNatClampNeg then none else ag_bd (f_L_decide fu (xs (i + 1).toNatClampNeg) s) fun r520 => if (i + 1) < 0 ∨ L ≤ (i + 1).toNatClampNeg then none else ag_bd (f_X6_decide fu (xs (i + 1).toNatClampNeg) r520.2) fun r532 => ag_bd (f_X6_thrown fu r532.2) fun r538 => if r538 = r520.1 then (if r520.1 = 0 then (if (0 : Int32) < 0 ∨ 1 ≤ (0 : Int32).toNatClampNeg then none else if lg_cmp ((r532.2 8 0 0).toInt64) ((r532.1 : Int32).toInt64) = 0 then (some (n, r532.2)) else (none)) else (some (n, r532.2))) else (none)
set_option maxHeartbeats 4000000 in
set_option maxRecDepth 100000 in
theorem ra5 {p0 : Program} {l : Launch} {e : Env} {st : State} {m : MethodId} {args : Array Value} {below : List Frame} {meth : Method} {c : Code} {H : Heap} {locs : List Loc} {cells slots : Nat} {Q : State → Prop} {ls : Array Slot} {z : ag_Z} {n : ag_N} {p : ag_P} {s : ag_S} {fu b L : Nat} {xs : Nat → Int32} {i : Int32} {out : ag_N × ag_S} (hq9 : l.stackTraces = false) (hx : p0.tables.exec = Jvm.exec) (hb : c.code = cL_law) (hml : c.maxLocals = 7) (hT : ∀ w ∈ ag_tbl, w.before args st = true) (hown : st.vm.findClass RL = some m.cls) (hG : ag_G z st st.heap) (h0 : z.2.2.1 ≤ st.heap.size) (hS : va_S (ag_A z) st.heap H locs) (hW : ag_W z n p s H) (t5 : vp_in 0 (n 5)) (t6 : vp_in 0 (n 6)) (t8 : vp_in 0 (n 8)) (hX : va_X b L xs st st.heap) (hbl : b < st.heap.size) (hbA : ¬ ag_A z b) (hl : lv_has ls 7 [(0, .ref b), (1, .ref (p 5 0)), (2, .ref (p 6 0)), (3, .ref (p 8 0)), (4, .int i)]) (hC : cells + 20 ≤ 601024) (hD : slots + 300 ≤ 7293034) (hf : arm5 fu L xs i n s = some out) (kk : ∀ (p1 : ag_P) (H1 : Heap) (locs1 : List Loc) (ls1 : Array Slot), ag_ext n p p1 → ag_le n out.1 → ag_W z out.1 p1 out.2 H1 → va_S (ag_A z) st.heap H1 locs1 → lv_has ls1 7 [(0, .ref b), (1, .ref (p1 5 0)), (2, .ref (p1 6 0)), (3, .ref (p1 8 0)), (4, .int i)] → W p0 l e room_1 st m args below meth c H1 locs1 (cells + 20) (slots + 300) Q (F0 m 1572 ls1 [])) : W p0 l e room_1 st m args below meth c H locs cells slots Q (F0 m 512 ls []) := by
  unfold arm5 at hf
  refine lv_aload_n hx hb dL_law_512 rfl (lv_at hl 1 rfl) ?_
  refine lv_aload_n hx hb dL_law_513 rfl (lv_at hl 0 rfl) ?_
  refine lv_iload hx hb dL_law_514 (lv_at hl 4 rfl) ?_
  refine lv_iconst (v := 1) hx hb dL_law_516 (by decide) ?_
  refine lv_iadd hx hb dL_law_517 ?_
  obtain ⟨a518, hf⟩ := ag_n hf
  refine va_sld hx hb hX hbl hbA hS a518 dL_law_518 ?_
  refine lv_aload_n hx hb dL_law_519 rfl (lv_at hl 3 rfl) ?_
  obtain ⟨r520, hg520, hf⟩ := ag_bs hf
  refine ag_hHi (hh := [(0, 9, 12, 23), (0, 9, 15, 15)]) (C1 := cells + 5) (S1 := slots + 30) hx hb hml hT hown hG h0 hS hW (c_L_decide hq9 t5 t8 hg520) ⟨rfl, rfl⟩ q469 q470 q0 q471 dd_yL_decide ⟨Nat.le_of_ble_eq_true rfl, Nat.le_of_ble_eq_true rfl⟩ hl.1 rfl (Nat.le_of_ble_eq_true rfl) ⟨by show cells + 5 ≤ 601024; omega, by show slots + 30 ≤ 7293034; omega⟩ dL_law_520 (by omega) (by omega) (fun H locs hW hS => ?_)
  refine lv_istore (lv' := [(5, .int r520.1), (0, .ref b), (1, .ref (p 5 0)), (2, .ref (p 6 0)), (3, .ref (p 8 0)), (4, .int i)]) hx hb dL_law_523 hl (by decide) rfl (fun ls hl => ?_)
  refine lv_aload_n hx hb dL_law_525 rfl (lv_at hl 3 rfl) ?_
  refine lv_aload_n hx hb dL_law_526 rfl (lv_at hl 1 rfl) ?_
  refine lv_iload hx hb dL_law_527 (lv_at hl 5 rfl) ?_
  refine lv_iconst (v := 1) hx hb dL_law_529 (by decide) ?_
  refine lv_iadd hx hb dL_law_530 ?_
  obtain ⟨a531, hf⟩ := ag_n hf
  refine va_sld hx hb hX hbl hbA hS a531 dL_law_531 ?_
  obtain ⟨r532, hg532, hf⟩ := ag_bs hf
  refine ag_cVi hx hb hml hT hown hG h0 hS hW (c_X6_decide t6 hg532) ⟨rfl, rfl⟩ q937 q938 q939 q11 q940 dd_yX6_decide ⟨Nat.le_of_ble_eq_true rfl, Nat.le_of_ble_eq_true rfl⟩ t6 rfl rfl hl.1 rfl (Nat.le_of_ble_eq_true rfl) ⟨by show (cells + 5) + 0 ≤ 601024; omega, by show (slots + 30) + 0 ≤ 7293034; omega⟩ dL_law_532 (fun H locs hW hS => ?_)
  refine lv_istore (lv' := [(6, .int r532.1), (5, .int r520.1), (0, .ref b), (1, .ref (p 5 0)), (2, .ref (p 6 0)), (3, .ref (p 8 0)), (4, .int i)]) hx hb dL_law_535 hl (by decide) rfl (fun ls hl => ?_)
  refine lv_aload_n hx hb dL_law_537 rfl (lv_at hl 4 rfl) ?_
  obtain ⟨r538, hg538, hf⟩ := ag_bs hf
  refine ag_cVi hx hb hml hT hown hG h0 hS hW (c_X6_thrown t6 hg538) ⟨rfl, rfl⟩ q884 q885 q886 q11 q887 dd_yX6_thrown ⟨Nat.le_of_ble_eq_true rfl, Nat.le_of_ble_eq_true rfl⟩ t6 rfl rfl hl.1 rfl (Nat.le_of_ble_eq_true rfl) ⟨by show (cells + 5) + 0 ≤ 601024; omega, by show (slots + 30) + 0 ≤ 7293034; omega⟩ dL_law_538 (fun H locs hW hS => ?_)
  refine lv_iload hx hb dL_law_541 (lv_at hl 1 rfl) ?_
  refine lv_icmp_eq (tgt := 548) hx hb dL_law_543 (by decide) (fun c543 => ?_) (fun c543 => ?_)
  · have hf := ag_t c543 hf
    refine lv_iload hx hb dL_law_548 (lv_at hl 1 rfl) ?_
    refine lv_if_ne (tgt := 565) hx hb dL_law_550 (by decide) (fun c550 => ?_) (fun c550 => ?_)
    · have hf := ag_f c550 hf
      refine lv_goto (tgt := 1572) hx hb dL_law_565 (by decide) ?_
      refine W.widen (k := cells + 20) (n := slots + 300) (by omega) (by omega) ?_
      have e9 := Option.some.inj hf
      subst e9
      exact kk p H locs ls (ag_ext_rf _ _) (ag_le_rf _) hW hS (lv_sub hl [2, 3, 4, 5, 6] rfl)
    · have hf := ag_t c550 hf
      refine lv_aload_n hx hb dL_law_553 rfl (lv_at hl 5 rfl) ?_
      refine lv_iconst (v := 0) hx hb dL_law_554 (by decide) ?_
      obtain ⟨a555, hf⟩ := ag_n hf
      refine ag_lald hx hb hG hW t8 rfl rfl a555 dL_law_555 ?_
      refine lv_iload hx hb dL_law_556 (lv_at hl 0 rfl) ?_
      refine lv_i2l hx hb dL_law_558 rfl ?_
      refine W.lcmp hx hb dL_law_559 ?_
      refine lv_if_eq (tgt := 565) hx hb dL_law_560 (by decide) (fun c560 => ?_) (fun c560 => ?_)
      · have hf := ag_t c560 hf
        refine lv_goto (tgt := 1572) hx hb dL_law_565 (by decide) ?_
        refine W.widen (k := cells + 20) (n := slots + 300) (by omega) (by omega) ?_
        have e9 := Option.some.inj hf
        subst e9
        exact kk p H locs ls (ag_ext_rf _ _) (ag_le_rf _) hW hS (lv_sub hl [2, 3, 4, 5, 6] rfl)
      · have hf := ag_f c560 hf
        refine lv_iconst (v := 0) hx hb dL_law_563 (by decide) ?_
        cases hf
  · have hf := ag_f c543 hf
    refine lv_iconst (v := 0) hx hb dL_law_546 (by decide) ?_
    cases hf
def arm6 (fu L : Nat) (xs : Nat → Int32) (i : Int32) (n : ag_N) (s : ag_S) : Option (ag_N × ag_S) := if (i + 1) < 0 ∨ L ≤ (i + 1).toNatClampNeg then none else ag_bd (f_L_strike fu (xs (i + 1).toNatClampNeg) s) fun r576 => if (i + 1) < 0 ∨ L ≤ (i + 1).toNatClampNeg then none else ag_bd (f_X6_strike fu (xs (i + 1).toNatClampNeg) r576.2) fun r588 => ag_bd (f_X6_thrown fu r588.2) fun r594 => if r594 = r576.1 then (if r576.1 = 0 then (if (0 : Int32) < 0 ∨ 1 ≤ (0 : Int32).toNatClampNeg then none else if lg_cmp ((r588.2 8 0 0).toInt64) ((r588.1 : Int32).toInt64) = 0 then (some (n, r588.2)) else (none)) else (some (n, r588.2))) else (none)
set_option maxHeartbeats 4000000 in
set_option maxRecDepth 100000 in
theorem ra6 {p0 : Program} {l : Launch} {e : Env} {st : State} {m : MethodId} {args : Array Value} {below : List Frame} {meth : Method} {c : Code} {H : Heap} {locs : List Loc} {cells slots : Nat} {Q : State → Prop} {ls : Array Slot} {z : ag_Z} {n : ag_N} {p : ag_P} {s : ag_S} {fu b L : Nat} {xs : Nat → Int32} {i : Int32} {out : ag_N × ag_S} (hq9 : l.stackTraces = false) (hx : p0.tables.exec = Jvm.exec) (hb : c.code = cL_law) (hml : c.maxLocals = 7) (hT : ∀ w ∈ ag_tbl, w.before args st = true) (hown : st.vm.findClass RL = some m.cls) (hG : ag_G z st st.heap) (h0 : z.2.2.1 ≤ st.heap.size) (hS : va_S (ag_A z) st.heap H locs) (hW : ag_W z n p s H) (t5 : vp_in 0 (n 5)) (t6 : vp_in 0 (n 6)) (t8 : vp_in 0 (n 8)) (hX : va_X b L xs st st.heap) (hbl : b < st.heap.size) (hbA : ¬ ag_A z b) (hl : lv_has ls 7 [(0, .ref b), (1, .ref (p 5 0)), (2, .ref (p 6 0)), (3, .ref (p 8 0)), (4, .int i)]) (hC : cells + 20 ≤ 601024) (hD : slots + 300 ≤ 7293034) (hf : arm6 fu L xs i n s = some out) (kk : ∀ (p1 : ag_P) (H1 : Heap) (locs1 : List Loc) (ls1 : Array Slot), ag_ext n p p1 → ag_le n out.1 → ag_W z out.1 p1 out.2 H1 → va_S (ag_A z) st.heap H1 locs1 → lv_has ls1 7 [(0, .ref b), (1, .ref (p1 5 0)), (2, .ref (p1 6 0)), (3, .ref (p1 8 0)), (4, .int i)] → W p0 l e room_1 st m args below meth c H1 locs1 (cells + 20) (slots + 300) Q (F0 m 1572 ls1 [])) : W p0 l e room_1 st m args below meth c H locs cells slots Q (F0 m 568 ls []) := by
  unfold arm6 at hf
  refine lv_aload_n hx hb dL_law_568 rfl (lv_at hl 1 rfl) ?_
  refine lv_aload_n hx hb dL_law_569 rfl (lv_at hl 0 rfl) ?_
  refine lv_iload hx hb dL_law_570 (lv_at hl 4 rfl) ?_
  refine lv_iconst (v := 1) hx hb dL_law_572 (by decide) ?_
  refine lv_iadd hx hb dL_law_573 ?_
  obtain ⟨a574, hf⟩ := ag_n hf
  refine va_sld hx hb hX hbl hbA hS a574 dL_law_574 ?_
  refine lv_aload_n hx hb dL_law_575 rfl (lv_at hl 3 rfl) ?_
  obtain ⟨r576, hg576, hf⟩ := ag_bs hf
  refine ag_hHi (hh := [(0, 9, 12, 23), (0, 9, 15, 15)]) (C1 := cells + 5) (S1 := slots + 30) hx hb hml hT hown hG h0 hS hW (c_L_strike hq9 t5 t8 hg576) ⟨rfl, rfl⟩ q559 q560 q0 q561 dd_yL_strike ⟨Nat.le_of_ble_eq_true rfl, Nat.le_of_ble_eq_true rfl⟩ hl.1 rfl (Nat.le_of_ble_eq_true rfl) ⟨by show cells + 5 ≤ 601024; omega, by show slots + 30 ≤ 7293034; omega⟩ dL_law_576 (by omega) (by omega) (fun H locs hW hS => ?_)
  refine lv_istore (lv' := [(5, .int r576.1), (0, .ref b), (1, .ref (p 5 0)), (2, .ref (p 6 0)), (3, .ref (p 8 0)), (4, .int i)]) hx hb dL_law_579 hl (by decide) rfl (fun ls hl => ?_)
  refine lv_aload_n hx hb dL_law_581 rfl (lv_at hl 3 rfl) ?_
  refine lv_aload_n hx hb dL_law_582 rfl (lv_at hl 1 rfl) ?_
  refine lv_iload hx hb dL_law_583 (lv_at hl 5 rfl) ?_
  refine lv_iconst (v := 1) hx hb dL_law_585 (by decide) ?_
  refine lv_iadd hx hb dL_law_586 ?_
  obtain ⟨a587, hf⟩ := ag_n hf
  refine va_sld hx hb hX hbl hbA hS a587 dL_law_587 ?_
  obtain ⟨r588, hg588, hf⟩ := ag_bs hf
  refine ag_cVi hx hb hml hT hown hG h0 hS hW (c_X6_strike t6 hg588) ⟨rfl, rfl⟩ q973 q974 q975 q11 q976 dd_yX6_strike ⟨Nat.le_of_ble_eq_true rfl, Nat.le_of_ble_eq_true rfl⟩ t6 rfl rfl hl.1 rfl (Nat.le_of_ble_eq_true rfl) ⟨by show (cells + 5) + 0 ≤ 601024; omega, by show (slots + 30) + 0 ≤ 7293034; omega⟩ dL_law_588 (fun H locs hW hS => ?_)
  refine lv_istore (lv' := [(6, .int r588.1), (5, .int r576.1), (0, .ref b), (1, .ref (p 5 0)), (2, .ref (p 6 0)), (3, .ref (p 8 0)), (4, .int i)]) hx hb dL_law_591 hl (by decide) rfl (fun ls hl => ?_)
  refine lv_aload_n hx hb dL_law_593 rfl (lv_at hl 4 rfl) ?_
  obtain ⟨r594, hg594, hf⟩ := ag_bs hf
  refine ag_cVi hx hb hml hT hown hG h0 hS hW (c_X6_thrown t6 hg594) ⟨rfl, rfl⟩ q884 q885 q886 q11 q887 dd_yX6_thrown ⟨Nat.le_of_ble_eq_true rfl, Nat.le_of_ble_eq_true rfl⟩ t6 rfl rfl hl.1 rfl (Nat.le_of_ble_eq_true rfl) ⟨by show (cells + 5) + 0 ≤ 601024; omega, by show (slots + 30) + 0 ≤ 7293034; omega⟩ dL_law_594 (fun H locs hW hS => ?_)
  refine lv_iload hx hb dL_law_597 (lv_at hl 1 rfl) ?_
  refine lv_icmp_eq (tgt := 604) hx hb dL_law_599 (by decide) (fun c599 => ?_) (fun c599 => ?_)
  · have hf := ag_t c599 hf
    refine lv_iload hx hb dL_law_604 (lv_at hl 1 rfl) ?_
    refine lv_if_ne (tgt := 621) hx hb dL_law_606 (by decide) (fun c606 => ?_) (fun c606 => ?_)
    · have hf := ag_f c606 hf
      refine lv_goto (tgt := 1572) hx hb dL_law_621 (by decide) ?_
      refine W.widen (k := cells + 20) (n := slots + 300) (by omega) (by omega) ?_
      have e9 := Option.some.inj hf
      subst e9
      exact kk p H locs ls (ag_ext_rf _ _) (ag_le_rf _) hW hS (lv_sub hl [2, 3, 4, 5, 6] rfl)
    · have hf := ag_t c606 hf
      refine lv_aload_n hx hb dL_law_609 rfl (lv_at hl 5 rfl) ?_
      refine lv_iconst (v := 0) hx hb dL_law_610 (by decide) ?_
      obtain ⟨a611, hf⟩ := ag_n hf
      refine ag_lald hx hb hG hW t8 rfl rfl a611 dL_law_611 ?_
      refine lv_iload hx hb dL_law_612 (lv_at hl 0 rfl) ?_
      refine lv_i2l hx hb dL_law_614 rfl ?_
      refine W.lcmp hx hb dL_law_615 ?_
      refine lv_if_eq (tgt := 621) hx hb dL_law_616 (by decide) (fun c616 => ?_) (fun c616 => ?_)
      · have hf := ag_t c616 hf
        refine lv_goto (tgt := 1572) hx hb dL_law_621 (by decide) ?_
        refine W.widen (k := cells + 20) (n := slots + 300) (by omega) (by omega) ?_
        have e9 := Option.some.inj hf
        subst e9
        exact kk p H locs ls (ag_ext_rf _ _) (ag_le_rf _) hW hS (lv_sub hl [2, 3, 4, 5, 6] rfl)
      · have hf := ag_f c616 hf
        refine lv_iconst (v := 0) hx hb dL_law_619 (by decide) ?_
        cases hf
  · have hf := ag_f c599 hf
    refine lv_iconst (v := 0) hx hb dL_law_602 (by decide) ?_
    cases hf
def arm7 (fu L : Nat) (xs : Nat → Int32) (i : Int32) (n : ag_N) (s : ag_S) : Option (ag_N × ag_S) := if (i + 1) < 0 ∨ L ≤ (i + 1).toNatClampNeg then none else if (i + 2) < 0 ∨ L ≤ (i + 2).toNatClampNeg then none else if (i + 3) < 0 ∨ L ≤ (i + 3).toNatClampNeg then none else if (i + 4) < 0 ∨ L ≤ (i + 4).toNatClampNeg then none else if (i + 5) < 0 ∨ L ≤ (i + 5).toNatClampNeg then none else ag_bd (f_L_grant fu (xs (i + 1).toNatClampNeg) (xs (i + 2).toNatClampNeg) (xs (i + 3).toNatClampNeg) (xs (i + 4).toNatClampNeg) (xs (i + 5).toNatClampNeg) n s) fun r656 => if (i + 1) < 0 ∨ L ≤ (i + 1).toNatClampNeg then none else if (i + 2) < 0 ∨ L ≤ (i + 2).toNatClampNeg then none else if (i + 3) < 0 ∨ L ≤ (i + 3).toNatClampNeg then none else if (i + 4) < 0 ∨ L ≤ (i + 4).toNatClampNeg then none else if (i + 5) < 0 ∨ L ≤ (i + 5).toNatClampNeg then none else ag_bd (f_X6_grant fu (xs (i + 1).toNatClampNeg) (xs (i + 2).toNatClampNeg) (xs (i + 3).toNatClampNeg) (xs (i + 4).toNatClampNeg) (xs (i + 5).toNatClampNeg) r656.2.2) fun r692 => ag_bd (f_X6_thrown fu r692.2) fun r698 => if r698 = r656.1 then (if r656.1 = 0 then (if (0 : Int32) < 0 ∨ 1 ≤ (0 : Int32).toNatClampNeg then none else if lg_cmp ((r692.2 8 0 0).toInt64) ((r692.1 : Int32).toInt64) = 0 then (some (r656.2.1, r692.2)) else (none)) else (some (r656.2.1, r692.2))) else (none)
set_option maxHeartbeats 4000000 in
set_option maxRecDepth 100000 in
theorem ra7 {p0 : Program} {l : Launch} {e : Env} {st : State} {m : MethodId} {args : Array Value} {below : List Frame} {meth : Method} {c : Code} {H : Heap} {locs : List Loc} {cells slots : Nat} {Q : State → Prop} {ls : Array Slot} {z : ag_Z} {n : ag_N} {p : ag_P} {s : ag_S} {fu b L : Nat} {xs : Nat → Int32} {i : Int32} {out : ag_N × ag_S} (hq9 : l.stackTraces = false) (hx : p0.tables.exec = Jvm.exec) (hb : c.code = cL_law) (hml : c.maxLocals = 7) (hT : ∀ w ∈ ag_tbl, w.before args st = true) (hown : st.vm.findClass RL = some m.cls) (hG : ag_G z st st.heap) (h0 : z.2.2.1 ≤ st.heap.size) (hS : va_S (ag_A z) st.heap H locs) (hW : ag_W z n p s H) (t5 : vp_in 0 (n 5)) (t6 : vp_in 0 (n 6)) (t8 : vp_in 0 (n 8)) (hX : va_X b L xs st st.heap) (hbl : b < st.heap.size) (hbA : ¬ ag_A z b) (hl : lv_has ls 7 [(0, .ref b), (1, .ref (p 5 0)), (2, .ref (p 6 0)), (3, .ref (p 8 0)), (4, .int i)]) (hC : cells + 20 ≤ 601024) (hD : slots + 300 ≤ 7293034) (hf : arm7 fu L xs i n s = some out) (kk : ∀ (p1 : ag_P) (H1 : Heap) (locs1 : List Loc) (ls1 : Array Slot), ag_ext n p p1 → ag_le n out.1 → ag_W z out.1 p1 out.2 H1 → va_S (ag_A z) st.heap H1 locs1 → lv_has ls1 7 [(0, .ref b), (1, .ref (p1 5 0)), (2, .ref (p1 6 0)), (3, .ref (p1 8 0)), (4, .int i)] → W p0 l e room_1 st m args below meth c H1 locs1 (cells + 20) (slots + 300) Q (F0 m 1572 ls1 [])) : W p0 l e room_1 st m args below meth c H locs cells slots Q (F0 m 624 ls []) := by
  unfold arm7 at hf
  refine lv_aload_n hx hb dL_law_624 rfl (lv_at hl 1 rfl) ?_
  refine lv_aload_n hx hb dL_law_625 rfl (lv_at hl 0 rfl) ?_
  refine lv_iload hx hb dL_law_626 (lv_at hl 4 rfl) ?_
  refine lv_iconst (v := 1) hx hb dL_law_628 (by decide) ?_
  refine lv_iadd hx hb dL_law_629 ?_
  obtain ⟨a630, hf⟩ := ag_n hf
  refine va_sld hx hb hX hbl hbA hS a630 dL_law_630 ?_
  refine lv_aload_n hx hb dL_law_631 rfl (lv_at hl 0 rfl) ?_
  refine lv_iload hx hb dL_law_632 (lv_at hl 4 rfl) ?_
  refine lv_iconst (v := 2) hx hb dL_law_634 (by decide) ?_
  refine lv_iadd hx hb dL_law_635 ?_
  obtain ⟨a636, hf⟩ := ag_n hf
  refine va_sld hx hb hX hbl hbA hS a636 dL_law_636 ?_
  refine lv_aload_n hx hb dL_law_637 rfl (lv_at hl 0 rfl) ?_
  refine lv_iload hx hb dL_law_638 (lv_at hl 4 rfl) ?_
  refine lv_iconst (v := 3) hx hb dL_law_640 (by decide) ?_
  refine lv_iadd hx hb dL_law_641 ?_
  obtain ⟨a642, hf⟩ := ag_n hf
  refine va_sld hx hb hX hbl hbA hS a642 dL_law_642 ?_
  refine lv_aload_n hx hb dL_law_643 rfl (lv_at hl 0 rfl) ?_
  refine lv_iload hx hb dL_law_644 (lv_at hl 4 rfl) ?_
  refine lv_iconst (v := 4) hx hb dL_law_646 (by decide) ?_
  refine lv_iadd hx hb dL_law_647 ?_
  obtain ⟨a648, hf⟩ := ag_n hf
  refine va_sld hx hb hX hbl hbA hS a648 dL_law_648 ?_
  refine lv_aload_n hx hb dL_law_649 rfl (lv_at hl 0 rfl) ?_
  refine lv_iload hx hb dL_law_650 (lv_at hl 4 rfl) ?_
  refine lv_iconst (v := 5) hx hb dL_law_652 (by decide) ?_
  refine lv_iadd hx hb dL_law_653 ?_
  obtain ⟨a654, hf⟩ := ag_n hf
  refine va_sld hx hb hX hbl hbA hS a654 dL_law_654 ?_
  refine lv_aload_n hx hb dL_law_655 rfl (lv_at hl 3 rfl) ?_
  obtain ⟨r656, hg656, hf⟩ := ag_bs hf
  refine ag_aHi (hh := [(0, 16, 19, 23), (0, 16, 23, 13), (0, 16, 27, 15)]) (C1 := cells + 10) (S1 := slots + 200) hx hb hml hT hown hG h0 hS hW (c_L_grant hq9 t5 t8 hg656) ⟨rfl, rfl⟩ q570 q571 q0 q572 dd_yL_grant ⟨Nat.le_of_ble_eq_true rfl, Nat.le_of_ble_eq_true rfl⟩ hl.1 rfl (Nat.le_of_ble_eq_true rfl) ⟨by show cells + 10 ≤ 601024; omega, by show slots + 200 ≤ 7293034; omega⟩ dL_law_656 (by omega) (by omega) (fun p H locs hp656 hle656 hW hS => ?_)
  have sl656 := hle656
  have he656 := ag_ext_tr (ag_le_rf _) (ag_ext_rf _ _) hp656
  have hl656 := ag_le_tr (ag_le_rf _) sl656
  rw [← hp656 5 0 t5, ← hp656 6 0 t6, ← hp656 8 0 t8] at hl
  refine lv_istore (lv' := [(5, .int r656.1), (0, .ref b), (1, .ref (p 5 0)), (2, .ref (p 6 0)), (3, .ref (p 8 0)), (4, .int i)]) hx hb dL_law_659 hl (by decide) rfl (fun ls hl => ?_)
  refine lv_aload_n hx hb dL_law_661 rfl (lv_at hl 3 rfl) ?_
  refine lv_aload_n hx hb dL_law_662 rfl (lv_at hl 1 rfl) ?_
  refine lv_iload hx hb dL_law_663 (lv_at hl 5 rfl) ?_
  refine lv_iconst (v := 1) hx hb dL_law_665 (by decide) ?_
  refine lv_iadd hx hb dL_law_666 ?_
  obtain ⟨a667, hf⟩ := ag_n hf
  refine va_sld hx hb hX hbl hbA hS a667 dL_law_667 ?_
  refine lv_aload_n hx hb dL_law_668 rfl (lv_at hl 1 rfl) ?_
  refine lv_iload hx hb dL_law_669 (lv_at hl 5 rfl) ?_
  refine lv_iconst (v := 2) hx hb dL_law_671 (by decide) ?_
  refine lv_iadd hx hb dL_law_672 ?_
  obtain ⟨a673, hf⟩ := ag_n hf
  refine va_sld hx hb hX hbl hbA hS a673 dL_law_673 ?_
  refine lv_aload_n hx hb dL_law_674 rfl (lv_at hl 1 rfl) ?_
  refine lv_iload hx hb dL_law_675 (lv_at hl 5 rfl) ?_
  refine lv_iconst (v := 3) hx hb dL_law_677 (by decide) ?_
  refine lv_iadd hx hb dL_law_678 ?_
  obtain ⟨a679, hf⟩ := ag_n hf
  refine va_sld hx hb hX hbl hbA hS a679 dL_law_679 ?_
  refine lv_aload_n hx hb dL_law_680 rfl (lv_at hl 1 rfl) ?_
  refine lv_iload hx hb dL_law_681 (lv_at hl 5 rfl) ?_
  refine lv_iconst (v := 4) hx hb dL_law_683 (by decide) ?_
  refine lv_iadd hx hb dL_law_684 ?_
  obtain ⟨a685, hf⟩ := ag_n hf
  refine va_sld hx hb hX hbl hbA hS a685 dL_law_685 ?_
  refine lv_aload_n hx hb dL_law_686 rfl (lv_at hl 1 rfl) ?_
  refine lv_iload hx hb dL_law_687 (lv_at hl 5 rfl) ?_
  refine lv_iconst (v := 5) hx hb dL_law_689 (by decide) ?_
  refine lv_iadd hx hb dL_law_690 ?_
  obtain ⟨a691, hf⟩ := ag_n hf
  refine va_sld hx hb hX hbl hbA hS a691 dL_law_691 ?_
  obtain ⟨r692, hg692, hf⟩ := ag_bs hf
  refine ag_cVi hx hb hml hT hown hG h0 hS hW (c_X6_grant (ag_in_le t6 (sl656 _)) hg692) ⟨rfl, rfl⟩ q977 q978 q979 q11 q980 dd_yX6_grant ⟨Nat.le_of_ble_eq_true rfl, Nat.le_of_ble_eq_true rfl⟩ (ag_in_le t6 (sl656 _)) rfl rfl hl.1 rfl (Nat.le_of_ble_eq_true rfl) ⟨by show (cells + 10) + 0 ≤ 601024; omega, by show (slots + 200) + 0 ≤ 7293034; omega⟩ dL_law_692 (fun H locs hW hS => ?_)
  refine lv_istore (lv' := [(6, .int r692.1), (5, .int r656.1), (0, .ref b), (1, .ref (p 5 0)), (2, .ref (p 6 0)), (3, .ref (p 8 0)), (4, .int i)]) hx hb dL_law_695 hl (by decide) rfl (fun ls hl => ?_)
  refine lv_aload_n hx hb dL_law_697 rfl (lv_at hl 4 rfl) ?_
  obtain ⟨r698, hg698, hf⟩ := ag_bs hf
  refine ag_cVi hx hb hml hT hown hG h0 hS hW (c_X6_thrown (ag_in_le t6 (sl656 _)) hg698) ⟨rfl, rfl⟩ q884 q885 q886 q11 q887 dd_yX6_thrown ⟨Nat.le_of_ble_eq_true rfl, Nat.le_of_ble_eq_true rfl⟩ (ag_in_le t6 (sl656 _)) rfl rfl hl.1 rfl (Nat.le_of_ble_eq_true rfl) ⟨by show (cells + 10) + 0 ≤ 601024; omega, by show (slots + 200) + 0 ≤ 7293034; omega⟩ dL_law_698 (fun H locs hW hS => ?_)
  refine lv_iload hx hb dL_law_701 (lv_at hl 1 rfl) ?_
  refine lv_icmp_eq (tgt := 708) hx hb dL_law_703 (by decide) (fun c703 => ?_) (fun c703 => ?_)
  · have hf := ag_t c703 hf
    refine lv_iload hx hb dL_law_708 (lv_at hl 1 rfl) ?_
    refine lv_if_ne (tgt := 725) hx hb dL_law_710 (by decide) (fun c710 => ?_) (fun c710 => ?_)
    · have hf := ag_f c710 hf
      refine lv_goto (tgt := 1572) hx hb dL_law_725 (by decide) ?_
      refine W.widen (k := cells + 20) (n := slots + 300) (by omega) (by omega) ?_
      have e9 := Option.some.inj hf
      subst e9
      exact kk p H locs ls he656 hl656 hW hS (lv_sub hl [2, 3, 4, 5, 6] rfl)
    · have hf := ag_t c710 hf
      refine lv_aload_n hx hb dL_law_713 rfl (lv_at hl 5 rfl) ?_
      refine lv_iconst (v := 0) hx hb dL_law_714 (by decide) ?_
      obtain ⟨a715, hf⟩ := ag_n hf
      refine ag_lald hx hb hG hW (ag_in_le t8 (sl656 _)) rfl rfl a715 dL_law_715 ?_
      refine lv_iload hx hb dL_law_716 (lv_at hl 0 rfl) ?_
      refine lv_i2l hx hb dL_law_718 rfl ?_
      refine W.lcmp hx hb dL_law_719 ?_
      refine lv_if_eq (tgt := 725) hx hb dL_law_720 (by decide) (fun c720 => ?_) (fun c720 => ?_)
      · have hf := ag_t c720 hf
        refine lv_goto (tgt := 1572) hx hb dL_law_725 (by decide) ?_
        refine W.widen (k := cells + 20) (n := slots + 300) (by omega) (by omega) ?_
        have e9 := Option.some.inj hf
        subst e9
        exact kk p H locs ls he656 hl656 hW hS (lv_sub hl [2, 3, 4, 5, 6] rfl)
      · have hf := ag_f c720 hf
        refine lv_iconst (v := 0) hx hb dL_law_723 (by decide) ?_
        cases hf
  · have hf := ag_f c703 hf
    refine lv_iconst (v := 0) hx hb dL_law_706 (by decide) ?_
    cases hf
def arm8 (fu L : Nat) (xs : Nat → Int32) (i : Int32) (n : ag_N) (s : ag_S) : Option (ag_N × ag_S) := if (i + 1) < 0 ∨ L ≤ (i + 1).toNatClampNeg then none else if (i + 2) < 0 ∨ L ≤ (i + 2).toNatClampNeg then none else ag_bd (f_L_pay fu (xs (i + 1).toNatClampNeg) (xs (i + 2).toNatClampNeg) s) fun r742 => if (i + 1) < 0 ∨ L ≤ (i + 1).toNatClampNeg then none else if (i + 2) < 0 ∨ L ≤ (i + 2).toNatClampNeg then none else ag_bd (f_X6_pay fu (xs (i + 1).toNatClampNeg) (xs (i + 2).toNatClampNeg) r742.2) fun r760 => ag_bd (f_X6_thrown fu r760.2) fun r766 => if r766 = r742.1 then (if r742.1 = 0 then (if (0 : Int32) < 0 ∨ 1 ≤ (0 : Int32).toNatClampNeg then none else if lg_cmp ((r760.2 8 0 0).toInt64) ((r760.1 : Int32).toInt64) = 0 then (some (n, r760.2)) else (none)) else (some (n, r760.2))) else (none)
set_option maxHeartbeats 4000000 in
set_option maxRecDepth 100000 in
theorem ra8 {p0 : Program} {l : Launch} {e : Env} {st : State} {m : MethodId} {args : Array Value} {below : List Frame} {meth : Method} {c : Code} {H : Heap} {locs : List Loc} {cells slots : Nat} {Q : State → Prop} {ls : Array Slot} {z : ag_Z} {n : ag_N} {p : ag_P} {s : ag_S} {fu b L : Nat} {xs : Nat → Int32} {i : Int32} {out : ag_N × ag_S} (hq9 : l.stackTraces = false) (hx : p0.tables.exec = Jvm.exec) (hb : c.code = cL_law) (hml : c.maxLocals = 7) (hT : ∀ w ∈ ag_tbl, w.before args st = true) (hown : st.vm.findClass RL = some m.cls) (hG : ag_G z st st.heap) (h0 : z.2.2.1 ≤ st.heap.size) (hS : va_S (ag_A z) st.heap H locs) (hW : ag_W z n p s H) (t5 : vp_in 0 (n 5)) (t6 : vp_in 0 (n 6)) (t8 : vp_in 0 (n 8)) (hX : va_X b L xs st st.heap) (hbl : b < st.heap.size) (hbA : ¬ ag_A z b) (hl : lv_has ls 7 [(0, .ref b), (1, .ref (p 5 0)), (2, .ref (p 6 0)), (3, .ref (p 8 0)), (4, .int i)]) (hC : cells + 20 ≤ 601024) (hD : slots + 300 ≤ 7293034) (hf : arm8 fu L xs i n s = some out) (kk : ∀ (p1 : ag_P) (H1 : Heap) (locs1 : List Loc) (ls1 : Array Slot), ag_ext n p p1 → ag_le n out.1 → ag_W z out.1 p1 out.2 H1 → va_S (ag_A z) st.heap H1 locs1 → lv_has ls1 7 [(0, .ref b), (1, .ref (p1 5 0)), (2, .ref (p1 6 0)), (3, .ref (p1 8 0)), (4, .int i)] → W p0 l e room_1 st m args below meth c H1 locs1 (cells + 20) (slots + 300) Q (F0 m 1572 ls1 [])) : W p0 l e room_1 st m args below meth c H locs cells slots Q (F0 m 728 ls []) := by
  unfold arm8 at hf
  refine lv_aload_n hx hb dL_law_728 rfl (lv_at hl 1 rfl) ?_
  refine lv_aload_n hx hb dL_law_729 rfl (lv_at hl 0 rfl) ?_
  refine lv_iload hx hb dL_law_730 (lv_at hl 4 rfl) ?_
  refine lv_iconst (v := 1) hx hb dL_law_732 (by decide) ?_
  refine lv_iadd hx hb dL_law_733 ?_
  obtain ⟨a734, hf⟩ := ag_n hf
  refine va_sld hx hb hX hbl hbA hS a734 dL_law_734 ?_
  refine lv_aload_n hx hb dL_law_735 rfl (lv_at hl 0 rfl) ?_
  refine lv_iload hx hb dL_law_736 (lv_at hl 4 rfl) ?_
  refine lv_iconst (v := 2) hx hb dL_law_738 (by decide) ?_
  refine lv_iadd hx hb dL_law_739 ?_
  obtain ⟨a740, hf⟩ := ag_n hf
  refine va_sld hx hb hX hbl hbA hS a740 dL_law_740 ?_
  refine lv_aload_n hx hb dL_law_741 rfl (lv_at hl 3 rfl) ?_
  obtain ⟨r742, hg742, hf⟩ := ag_bs hf
  refine ag_hHi (hh := [(0, 10, 13, 23), (0, 10, 17, 13), (0, 10, 21, 15)]) (C1 := cells + 5) (S1 := slots + 30) hx hb hml hT hown hG h0 hS hW (c_L_pay hq9 t5 t8 hg742) ⟨rfl, rfl⟩ q626 q627 q0 q628 dd_yL_pay ⟨Nat.le_of_ble_eq_true rfl, Nat.le_of_ble_eq_true rfl⟩ hl.1 rfl (Nat.le_of_ble_eq_true rfl) ⟨by show cells + 5 ≤ 601024; omega, by show slots + 30 ≤ 7293034; omega⟩ dL_law_742 (by omega) (by omega) (fun H locs hW hS => ?_)
  refine lv_istore (lv' := [(5, .int r742.1), (0, .ref b), (1, .ref (p 5 0)), (2, .ref (p 6 0)), (3, .ref (p 8 0)), (4, .int i)]) hx hb dL_law_745 hl (by decide) rfl (fun ls hl => ?_)
  refine lv_aload_n hx hb dL_law_747 rfl (lv_at hl 3 rfl) ?_
  refine lv_aload_n hx hb dL_law_748 rfl (lv_at hl 1 rfl) ?_
  refine lv_iload hx hb dL_law_749 (lv_at hl 5 rfl) ?_
  refine lv_iconst (v := 1) hx hb dL_law_751 (by decide) ?_
  refine lv_iadd hx hb dL_law_752 ?_
  obtain ⟨a753, hf⟩ := ag_n hf
  refine va_sld hx hb hX hbl hbA hS a753 dL_law_753 ?_
  refine lv_aload_n hx hb dL_law_754 rfl (lv_at hl 1 rfl) ?_
  refine lv_iload hx hb dL_law_755 (lv_at hl 5 rfl) ?_
  refine lv_iconst (v := 2) hx hb dL_law_757 (by decide) ?_
  refine lv_iadd hx hb dL_law_758 ?_
  obtain ⟨a759, hf⟩ := ag_n hf
  refine va_sld hx hb hX hbl hbA hS a759 dL_law_759 ?_
  obtain ⟨r760, hg760, hf⟩ := ag_bs hf
  refine ag_cVi hx hb hml hT hown hG h0 hS hW (c_X6_pay t6 hg760) ⟨rfl, rfl⟩ q981 q982 q983 q11 q984 dd_yX6_pay ⟨Nat.le_of_ble_eq_true rfl, Nat.le_of_ble_eq_true rfl⟩ t6 rfl rfl hl.1 rfl (Nat.le_of_ble_eq_true rfl) ⟨by show (cells + 5) + 0 ≤ 601024; omega, by show (slots + 30) + 0 ≤ 7293034; omega⟩ dL_law_760 (fun H locs hW hS => ?_)
  refine lv_istore (lv' := [(6, .int r760.1), (5, .int r742.1), (0, .ref b), (1, .ref (p 5 0)), (2, .ref (p 6 0)), (3, .ref (p 8 0)), (4, .int i)]) hx hb dL_law_763 hl (by decide) rfl (fun ls hl => ?_)
  refine lv_aload_n hx hb dL_law_765 rfl (lv_at hl 4 rfl) ?_
  obtain ⟨r766, hg766, hf⟩ := ag_bs hf
  refine ag_cVi hx hb hml hT hown hG h0 hS hW (c_X6_thrown t6 hg766) ⟨rfl, rfl⟩ q884 q885 q886 q11 q887 dd_yX6_thrown ⟨Nat.le_of_ble_eq_true rfl, Nat.le_of_ble_eq_true rfl⟩ t6 rfl rfl hl.1 rfl (Nat.le_of_ble_eq_true rfl) ⟨by show (cells + 5) + 0 ≤ 601024; omega, by show (slots + 30) + 0 ≤ 7293034; omega⟩ dL_law_766 (fun H locs hW hS => ?_)
  refine lv_iload hx hb dL_law_769 (lv_at hl 1 rfl) ?_
  refine lv_icmp_eq (tgt := 776) hx hb dL_law_771 (by decide) (fun c771 => ?_) (fun c771 => ?_)
  · have hf := ag_t c771 hf
    refine lv_iload hx hb dL_law_776 (lv_at hl 1 rfl) ?_
    refine lv_if_ne (tgt := 793) hx hb dL_law_778 (by decide) (fun c778 => ?_) (fun c778 => ?_)
    · have hf := ag_f c778 hf
      refine lv_goto (tgt := 1572) hx hb dL_law_793 (by decide) ?_
      refine W.widen (k := cells + 20) (n := slots + 300) (by omega) (by omega) ?_
      have e9 := Option.some.inj hf
      subst e9
      exact kk p H locs ls (ag_ext_rf _ _) (ag_le_rf _) hW hS (lv_sub hl [2, 3, 4, 5, 6] rfl)
    · have hf := ag_t c778 hf
      refine lv_aload_n hx hb dL_law_781 rfl (lv_at hl 5 rfl) ?_
      refine lv_iconst (v := 0) hx hb dL_law_782 (by decide) ?_
      obtain ⟨a783, hf⟩ := ag_n hf
      refine ag_lald hx hb hG hW t8 rfl rfl a783 dL_law_783 ?_
      refine lv_iload hx hb dL_law_784 (lv_at hl 0 rfl) ?_
      refine lv_i2l hx hb dL_law_786 rfl ?_
      refine W.lcmp hx hb dL_law_787 ?_
      refine lv_if_eq (tgt := 793) hx hb dL_law_788 (by decide) (fun c788 => ?_) (fun c788 => ?_)
      · have hf := ag_t c788 hf
        refine lv_goto (tgt := 1572) hx hb dL_law_793 (by decide) ?_
        refine W.widen (k := cells + 20) (n := slots + 300) (by omega) (by omega) ?_
        have e9 := Option.some.inj hf
        subst e9
        exact kk p H locs ls (ag_ext_rf _ _) (ag_le_rf _) hW hS (lv_sub hl [2, 3, 4, 5, 6] rfl)
      · have hf := ag_f c788 hf
        refine lv_iconst (v := 0) hx hb dL_law_791 (by decide) ?_
        cases hf
  · have hf := ag_f c771 hf
    refine lv_iconst (v := 0) hx hb dL_law_774 (by decide) ?_
    cases hf
def arm9 (fu L : Nat) (xs : Nat → Int32) (i : Int32) (n : ag_N) (s : ag_S) : Option (ag_N × ag_S) := if (i + 1) < 0 ∨ L ≤ (i + 1).toNatClampNeg then none else ag_bd (f_L_report fu (xs (i + 1).toNatClampNeg) s) fun r804 => if (i + 1) < 0 ∨ L ≤ (i + 1).toNatClampNeg then none else ag_bd (f_X6_report fu (xs (i + 1).toNatClampNeg) r804.2) fun r816 => ag_bd (f_X6_thrown fu r816.2) fun r822 => if r822 = r804.1 then (if r804.1 = 0 then (if (0 : Int32) < 0 ∨ 1 ≤ (0 : Int32).toNatClampNeg then none else if r816.1 = 0 then (if lg_cmp ((r816.2 8 0 0).toInt64) ((0 : Int32).toInt64) = 0 then (some (n, r816.2)) else (none)) else (if lg_cmp ((r816.2 8 0 0).toInt64) ((1 : Int32).toInt64) = 0 then (some (n, r816.2)) else (none))) else (some (n, r816.2))) else (none)
set_option maxHeartbeats 4000000 in
set_option maxRecDepth 100000 in
theorem ra9 {p0 : Program} {l : Launch} {e : Env} {st : State} {m : MethodId} {args : Array Value} {below : List Frame} {meth : Method} {c : Code} {H : Heap} {locs : List Loc} {cells slots : Nat} {Q : State → Prop} {ls : Array Slot} {z : ag_Z} {n : ag_N} {p : ag_P} {s : ag_S} {fu b L : Nat} {xs : Nat → Int32} {i : Int32} {out : ag_N × ag_S} (hq9 : l.stackTraces = false) (hx : p0.tables.exec = Jvm.exec) (hb : c.code = cL_law) (hml : c.maxLocals = 7) (hT : ∀ w ∈ ag_tbl, w.before args st = true) (hown : st.vm.findClass RL = some m.cls) (hG : ag_G z st st.heap) (h0 : z.2.2.1 ≤ st.heap.size) (hS : va_S (ag_A z) st.heap H locs) (hW : ag_W z n p s H) (t5 : vp_in 0 (n 5)) (t6 : vp_in 0 (n 6)) (t8 : vp_in 0 (n 8)) (hX : va_X b L xs st st.heap) (hbl : b < st.heap.size) (hbA : ¬ ag_A z b) (hl : lv_has ls 7 [(0, .ref b), (1, .ref (p 5 0)), (2, .ref (p 6 0)), (3, .ref (p 8 0)), (4, .int i)]) (hC : cells + 20 ≤ 601024) (hD : slots + 300 ≤ 7293034) (hf : arm9 fu L xs i n s = some out) (kk : ∀ (p1 : ag_P) (H1 : Heap) (locs1 : List Loc) (ls1 : Array Slot), ag_ext n p p1 → ag_le n out.1 → ag_W z out.1 p1 out.2 H1 → va_S (ag_A z) st.heap H1 locs1 → lv_has ls1 7 [(0, .ref b), (1, .ref (p1 5 0)), (2, .ref (p1 6 0)), (3, .ref (p1 8 0)), (4, .int i)] → W p0 l e room_1 st m args below meth c H1 locs1 (cells + 20) (slots + 300) Q (F0 m 1572 ls1 [])) : W p0 l e room_1 st m args below meth c H locs cells slots Q (F0 m 796 ls []) := by
  unfold arm9 at hf
  refine lv_aload_n hx hb dL_law_796 rfl (lv_at hl 1 rfl) ?_
  refine lv_aload_n hx hb dL_law_797 rfl (lv_at hl 0 rfl) ?_
  refine lv_iload hx hb dL_law_798 (lv_at hl 4 rfl) ?_
  refine lv_iconst (v := 1) hx hb dL_law_800 (by decide) ?_
  refine lv_iadd hx hb dL_law_801 ?_
  obtain ⟨a802, hf⟩ := ag_n hf
  refine va_sld hx hb hX hbl hbA hS a802 dL_law_802 ?_
  refine lv_aload_n hx hb dL_law_803 rfl (lv_at hl 3 rfl) ?_
  obtain ⟨r804, hg804, hf⟩ := ag_bs hf
  refine ag_hHi (hh := [(0, 16, 19, 23), (0, 16, 22, 15)]) (C1 := cells + 5) (S1 := slots + 30) hx hb hml hT hown hG h0 hS hW (c_L_report hq9 t5 t8 hg804) ⟨rfl, rfl⟩ q648 q649 q0 q650 dd_yL_report ⟨Nat.le_of_ble_eq_true rfl, Nat.le_of_ble_eq_true rfl⟩ hl.1 rfl (Nat.le_of_ble_eq_true rfl) ⟨by show cells + 5 ≤ 601024; omega, by show slots + 30 ≤ 7293034; omega⟩ dL_law_804 (by omega) (by omega) (fun H locs hW hS => ?_)
  refine lv_istore (lv' := [(5, .int r804.1), (0, .ref b), (1, .ref (p 5 0)), (2, .ref (p 6 0)), (3, .ref (p 8 0)), (4, .int i)]) hx hb dL_law_807 hl (by decide) rfl (fun ls hl => ?_)
  refine lv_aload_n hx hb dL_law_809 rfl (lv_at hl 3 rfl) ?_
  refine lv_aload_n hx hb dL_law_810 rfl (lv_at hl 1 rfl) ?_
  refine lv_iload hx hb dL_law_811 (lv_at hl 5 rfl) ?_
  refine lv_iconst (v := 1) hx hb dL_law_813 (by decide) ?_
  refine lv_iadd hx hb dL_law_814 ?_
  obtain ⟨a815, hf⟩ := ag_n hf
  refine va_sld hx hb hX hbl hbA hS a815 dL_law_815 ?_
  obtain ⟨r816, hg816, hf⟩ := ag_bs hf
  refine ag_cVi hx hb hml hT hown hG h0 hS hW (c_X6_report t6 hg816) ⟨rfl, rfl⟩ q993 q994 q995 q11 q996 dd_yX6_report ⟨Nat.le_of_ble_eq_true rfl, Nat.le_of_ble_eq_true rfl⟩ t6 rfl rfl hl.1 rfl (Nat.le_of_ble_eq_true rfl) ⟨by show (cells + 5) + 0 ≤ 601024; omega, by show (slots + 30) + 0 ≤ 7293034; omega⟩ dL_law_816 (fun H locs hW hS => ?_)
  refine lv_istore (lv' := [(6, .int r816.1), (5, .int r804.1), (0, .ref b), (1, .ref (p 5 0)), (2, .ref (p 6 0)), (3, .ref (p 8 0)), (4, .int i)]) hx hb dL_law_819 hl (by decide) rfl (fun ls hl => ?_)
  refine lv_aload_n hx hb dL_law_821 rfl (lv_at hl 4 rfl) ?_
  obtain ⟨r822, hg822, hf⟩ := ag_bs hf
  refine ag_cVi hx hb hml hT hown hG h0 hS hW (c_X6_thrown t6 hg822) ⟨rfl, rfl⟩ q884 q885 q886 q11 q887 dd_yX6_thrown ⟨Nat.le_of_ble_eq_true rfl, Nat.le_of_ble_eq_true rfl⟩ t6 rfl rfl hl.1 rfl (Nat.le_of_ble_eq_true rfl) ⟨by show (cells + 5) + 0 ≤ 601024; omega, by show (slots + 30) + 0 ≤ 7293034; omega⟩ dL_law_822 (fun H locs hW hS => ?_)
  refine lv_iload hx hb dL_law_825 (lv_at hl 1 rfl) ?_
  refine lv_icmp_eq (tgt := 832) hx hb dL_law_827 (by decide) (fun c827 => ?_) (fun c827 => ?_)
  · have hf := ag_t c827 hf
    refine lv_iload hx hb dL_law_832 (lv_at hl 1 rfl) ?_
    refine lv_if_ne (tgt := 856) hx hb dL_law_834 (by decide) (fun c834 => ?_) (fun c834 => ?_)
    · have hf := ag_f c834 hf
      refine lv_goto (tgt := 1572) hx hb dL_law_856 (by decide) ?_
      refine W.widen (k := cells + 20) (n := slots + 300) (by omega) (by omega) ?_
      have e9 := Option.some.inj hf
      subst e9
      exact kk p H locs ls (ag_ext_rf _ _) (ag_le_rf _) hW hS (lv_sub hl [2, 3, 4, 5, 6] rfl)
    · have hf := ag_t c834 hf
      refine lv_aload_n hx hb dL_law_837 rfl (lv_at hl 5 rfl) ?_
      refine lv_iconst (v := 0) hx hb dL_law_838 (by decide) ?_
      obtain ⟨a839, hf⟩ := ag_n hf
      refine ag_lald hx hb hG hW t8 rfl rfl a839 dL_law_839 ?_
      refine lv_iload hx hb dL_law_840 (lv_at hl 0 rfl) ?_
      refine lv_if_eq (tgt := 849) hx hb dL_law_842 (by decide) (fun c842 => ?_) (fun c842 => ?_)
      · have hf := ag_t c842 hf
        refine lv_lconst (v := (0 : Int32).toInt64) hx hb dL_law_849 (by decide) ?_
        refine W.lcmp hx hb dL_law_850 ?_
        refine lv_if_eq (tgt := 856) hx hb dL_law_851 (by decide) (fun c851 => ?_) (fun c851 => ?_)
        · have hf := ag_t c851 hf
          refine lv_goto (tgt := 1572) hx hb dL_law_856 (by decide) ?_
          refine W.widen (k := cells + 20) (n := slots + 300) (by omega) (by omega) ?_
          have e9 := Option.some.inj hf
          subst e9
          exact kk p H locs ls (ag_ext_rf _ _) (ag_le_rf _) hW hS (lv_sub hl [2, 3, 4, 5, 6] rfl)
        · have hf := ag_f c851 hf
          refine lv_iconst (v := 0) hx hb dL_law_854 (by decide) ?_
          cases hf
      · have hf := ag_f c842 hf
        refine lv_lconst (v := (1 : Int32).toInt64) hx hb dL_law_845 (by decide) ?_
        refine lv_goto (tgt := 850) hx hb dL_law_846 (by decide) ?_
        refine W.lcmp hx hb dL_law_850 ?_
        refine lv_if_eq (tgt := 856) hx hb dL_law_851 (by decide) (fun c851 => ?_) (fun c851 => ?_)
        · have hf := ag_t c851 hf
          refine lv_goto (tgt := 1572) hx hb dL_law_856 (by decide) ?_
          refine W.widen (k := cells + 20) (n := slots + 300) (by omega) (by omega) ?_
          have e9 := Option.some.inj hf
          subst e9
          exact kk p H locs ls (ag_ext_rf _ _) (ag_le_rf _) hW hS (lv_sub hl [2, 3, 4, 5, 6] rfl)
        · have hf := ag_f c851 hf
          refine lv_iconst (v := 0) hx hb dL_law_854 (by decide) ?_
          cases hf
  · have hf := ag_f c827 hf
    refine lv_iconst (v := 0) hx hb dL_law_830 (by decide) ?_
    cases hf
def arm10 (fu L : Nat) (xs : Nat → Int32) (i : Int32) (n : ag_N) (s : ag_S) : Option (ag_N × ag_S) := if (i + 1) < 0 ∨ L ≤ (i + 1).toNatClampNeg then none else if (i + 2) < 0 ∨ L ≤ (i + 2).toNatClampNeg then none else ag_bd (f_L_spend fu (xs (i + 1).toNatClampNeg) (xs (i + 2).toNatClampNeg) s) fun r873 => if (i + 1) < 0 ∨ L ≤ (i + 1).toNatClampNeg then none else if (i + 2) < 0 ∨ L ≤ (i + 2).toNatClampNeg then none else ag_bd (f_X6_spend fu (xs (i + 1).toNatClampNeg) (xs (i + 2).toNatClampNeg) r873.2) fun r891 => ag_bd (f_X6_thrown fu r891.2) fun r897 => if r897 = r873.1 then (if r873.1 = 0 then (if (0 : Int32) < 0 ∨ 1 ≤ (0 : Int32).toNatClampNeg then none else if lg_cmp ((r891.2 8 0 0).toInt64) ((r891.1 : Int32).toInt64) = 0 then (some (n, r891.2)) else (none)) else (some (n, r891.2))) else (none)
set_option maxHeartbeats 4000000 in
set_option maxRecDepth 100000 in
theorem ra10 {p0 : Program} {l : Launch} {e : Env} {st : State} {m : MethodId} {args : Array Value} {below : List Frame} {meth : Method} {c : Code} {H : Heap} {locs : List Loc} {cells slots : Nat} {Q : State → Prop} {ls : Array Slot} {z : ag_Z} {n : ag_N} {p : ag_P} {s : ag_S} {fu b L : Nat} {xs : Nat → Int32} {i : Int32} {out : ag_N × ag_S} (hq9 : l.stackTraces = false) (hx : p0.tables.exec = Jvm.exec) (hb : c.code = cL_law) (hml : c.maxLocals = 7) (hT : ∀ w ∈ ag_tbl, w.before args st = true) (hown : st.vm.findClass RL = some m.cls) (hG : ag_G z st st.heap) (h0 : z.2.2.1 ≤ st.heap.size) (hS : va_S (ag_A z) st.heap H locs) (hW : ag_W z n p s H) (t5 : vp_in 0 (n 5)) (t6 : vp_in 0 (n 6)) (t8 : vp_in 0 (n 8)) (hX : va_X b L xs st st.heap) (hbl : b < st.heap.size) (hbA : ¬ ag_A z b) (hl : lv_has ls 7 [(0, .ref b), (1, .ref (p 5 0)), (2, .ref (p 6 0)), (3, .ref (p 8 0)), (4, .int i)]) (hC : cells + 20 ≤ 601024) (hD : slots + 300 ≤ 7293034) (hf : arm10 fu L xs i n s = some out) (kk : ∀ (p1 : ag_P) (H1 : Heap) (locs1 : List Loc) (ls1 : Array Slot), ag_ext n p p1 → ag_le n out.1 → ag_W z out.1 p1 out.2 H1 → va_S (ag_A z) st.heap H1 locs1 → lv_has ls1 7 [(0, .ref b), (1, .ref (p1 5 0)), (2, .ref (p1 6 0)), (3, .ref (p1 8 0)), (4, .int i)] → W p0 l e room_1 st m args below meth c H1 locs1 (cells + 20) (slots + 300) Q (F0 m 1572 ls1 [])) : W p0 l e room_1 st m args below meth c H locs cells slots Q (F0 m 859 ls []) := by
  unfold arm10 at hf
  refine lv_aload_n hx hb dL_law_859 rfl (lv_at hl 1 rfl) ?_
  refine lv_aload_n hx hb dL_law_860 rfl (lv_at hl 0 rfl) ?_
  refine lv_iload hx hb dL_law_861 (lv_at hl 4 rfl) ?_
  refine lv_iconst (v := 1) hx hb dL_law_863 (by decide) ?_
  refine lv_iadd hx hb dL_law_864 ?_
  obtain ⟨a865, hf⟩ := ag_n hf
  refine va_sld hx hb hX hbl hbA hS a865 dL_law_865 ?_
  refine lv_aload_n hx hb dL_law_866 rfl (lv_at hl 0 rfl) ?_
  refine lv_iload hx hb dL_law_867 (lv_at hl 4 rfl) ?_
  refine lv_iconst (v := 2) hx hb dL_law_869 (by decide) ?_
  refine lv_iadd hx hb dL_law_870 ?_
  obtain ⟨a871, hf⟩ := ag_n hf
  refine va_sld hx hb hX hbl hbA hS a871 dL_law_871 ?_
  refine lv_aload_n hx hb dL_law_872 rfl (lv_at hl 3 rfl) ?_
  obtain ⟨r873, hg873, hf⟩ := ag_bs hf
  refine ag_hHi (hh := [(0, 10, 13, 23), (0, 10, 17, 13), (0, 10, 21, 15)]) (C1 := cells + 5) (S1 := slots + 30) hx hb hml hT hown hG h0 hS hW (c_L_spend hq9 t5 t8 hg873) ⟨rfl, rfl⟩ q659 q660 q0 q661 dd_yL_spend ⟨Nat.le_of_ble_eq_true rfl, Nat.le_of_ble_eq_true rfl⟩ hl.1 rfl (Nat.le_of_ble_eq_true rfl) ⟨by show cells + 5 ≤ 601024; omega, by show slots + 30 ≤ 7293034; omega⟩ dL_law_873 (by omega) (by omega) (fun H locs hW hS => ?_)
  refine lv_istore (lv' := [(5, .int r873.1), (0, .ref b), (1, .ref (p 5 0)), (2, .ref (p 6 0)), (3, .ref (p 8 0)), (4, .int i)]) hx hb dL_law_876 hl (by decide) rfl (fun ls hl => ?_)
  refine lv_aload_n hx hb dL_law_878 rfl (lv_at hl 3 rfl) ?_
  refine lv_aload_n hx hb dL_law_879 rfl (lv_at hl 1 rfl) ?_
  refine lv_iload hx hb dL_law_880 (lv_at hl 5 rfl) ?_
  refine lv_iconst (v := 1) hx hb dL_law_882 (by decide) ?_
  refine lv_iadd hx hb dL_law_883 ?_
  obtain ⟨a884, hf⟩ := ag_n hf
  refine va_sld hx hb hX hbl hbA hS a884 dL_law_884 ?_
  refine lv_aload_n hx hb dL_law_885 rfl (lv_at hl 1 rfl) ?_
  refine lv_iload hx hb dL_law_886 (lv_at hl 5 rfl) ?_
  refine lv_iconst (v := 2) hx hb dL_law_888 (by decide) ?_
  refine lv_iadd hx hb dL_law_889 ?_
  obtain ⟨a890, hf⟩ := ag_n hf
  refine va_sld hx hb hX hbl hbA hS a890 dL_law_890 ?_
  obtain ⟨r891, hg891, hf⟩ := ag_bs hf
  refine ag_cVi hx hb hml hT hown hG h0 hS hW (c_X6_spend t6 hg891) ⟨rfl, rfl⟩ q997 q998 q999 q11 q1000 dd_yX6_spend ⟨Nat.le_of_ble_eq_true rfl, Nat.le_of_ble_eq_true rfl⟩ t6 rfl rfl hl.1 rfl (Nat.le_of_ble_eq_true rfl) ⟨by show (cells + 5) + 0 ≤ 601024; omega, by show (slots + 30) + 0 ≤ 7293034; omega⟩ dL_law_891 (fun H locs hW hS => ?_)
  refine lv_istore (lv' := [(6, .int r891.1), (5, .int r873.1), (0, .ref b), (1, .ref (p 5 0)), (2, .ref (p 6 0)), (3, .ref (p 8 0)), (4, .int i)]) hx hb dL_law_894 hl (by decide) rfl (fun ls hl => ?_)
  refine lv_aload_n hx hb dL_law_896 rfl (lv_at hl 4 rfl) ?_
  obtain ⟨r897, hg897, hf⟩ := ag_bs hf
  refine ag_cVi hx hb hml hT hown hG h0 hS hW (c_X6_thrown t6 hg897) ⟨rfl, rfl⟩ q884 q885 q886 q11 q887 dd_yX6_thrown ⟨Nat.le_of_ble_eq_true rfl, Nat.le_of_ble_eq_true rfl⟩ t6 rfl rfl hl.1 rfl (Nat.le_of_ble_eq_true rfl) ⟨by show (cells + 5) + 0 ≤ 601024; omega, by show (slots + 30) + 0 ≤ 7293034; omega⟩ dL_law_897 (fun H locs hW hS => ?_)
  refine lv_iload hx hb dL_law_900 (lv_at hl 1 rfl) ?_
  refine lv_icmp_eq (tgt := 907) hx hb dL_law_902 (by decide) (fun c902 => ?_) (fun c902 => ?_)
  · have hf := ag_t c902 hf
    refine lv_iload hx hb dL_law_907 (lv_at hl 1 rfl) ?_
    refine lv_if_ne (tgt := 924) hx hb dL_law_909 (by decide) (fun c909 => ?_) (fun c909 => ?_)
    · have hf := ag_f c909 hf
      refine lv_goto (tgt := 1572) hx hb dL_law_924 (by decide) ?_
      refine W.widen (k := cells + 20) (n := slots + 300) (by omega) (by omega) ?_
      have e9 := Option.some.inj hf
      subst e9
      exact kk p H locs ls (ag_ext_rf _ _) (ag_le_rf _) hW hS (lv_sub hl [2, 3, 4, 5, 6] rfl)
    · have hf := ag_t c909 hf
      refine lv_aload_n hx hb dL_law_912 rfl (lv_at hl 5 rfl) ?_
      refine lv_iconst (v := 0) hx hb dL_law_913 (by decide) ?_
      obtain ⟨a914, hf⟩ := ag_n hf
      refine ag_lald hx hb hG hW t8 rfl rfl a914 dL_law_914 ?_
      refine lv_iload hx hb dL_law_915 (lv_at hl 0 rfl) ?_
      refine lv_i2l hx hb dL_law_917 rfl ?_
      refine W.lcmp hx hb dL_law_918 ?_
      refine lv_if_eq (tgt := 924) hx hb dL_law_919 (by decide) (fun c919 => ?_) (fun c919 => ?_)
      · have hf := ag_t c919 hf
        refine lv_goto (tgt := 1572) hx hb dL_law_924 (by decide) ?_
        refine W.widen (k := cells + 20) (n := slots + 300) (by omega) (by omega) ?_
        have e9 := Option.some.inj hf
        subst e9
        exact kk p H locs ls (ag_ext_rf _ _) (ag_le_rf _) hW hS (lv_sub hl [2, 3, 4, 5, 6] rfl)
      · have hf := ag_f c919 hf
        refine lv_iconst (v := 0) hx hb dL_law_922 (by decide) ?_
        cases hf
  · have hf := ag_f c902 hf
    refine lv_iconst (v := 0) hx hb dL_law_905 (by decide) ?_
    cases hf
def arm11 (fu L : Nat) (xs : Nat → Int32) (i : Int32) (n : ag_N) (s : ag_S) : Option (ag_N × ag_S) := if (i + 1) < 0 ∨ L ≤ (i + 1).toNatClampNeg then none else if (i + 2) < 0 ∨ L ≤ (i + 2).toNatClampNeg then none else ag_bd (f_L_audit fu (xs (i + 1).toNatClampNeg) (xs (i + 2).toNatClampNeg) s) fun r941 => if (i + 1) < 0 ∨ L ≤ (i + 1).toNatClampNeg then none else if (i + 2) < 0 ∨ L ≤ (i + 2).toNatClampNeg then none else ag_bd (f_X6_audit fu (xs (i + 1).toNatClampNeg) (xs (i + 2).toNatClampNeg) r941.2) fun r959 => ag_bd (f_X6_thrown fu r959.2) fun r965 => if r965 = r941.1 then (if r941.1 = 0 then (if (0 : Int32) < 0 ∨ 1 ≤ (0 : Int32).toNatClampNeg then none else if lg_cmp ((r959.2 8 0 0).toInt64) ((r959.1 : Int32).toInt64) = 0 then (some (n, r959.2)) else (none)) else (some (n, r959.2))) else (none)
set_option maxHeartbeats 4000000 in
set_option maxRecDepth 100000 in
theorem ra11 {p0 : Program} {l : Launch} {e : Env} {st : State} {m : MethodId} {args : Array Value} {below : List Frame} {meth : Method} {c : Code} {H : Heap} {locs : List Loc} {cells slots : Nat} {Q : State → Prop} {ls : Array Slot} {z : ag_Z} {n : ag_N} {p : ag_P} {s : ag_S} {fu b L : Nat} {xs : Nat → Int32} {i : Int32} {out : ag_N × ag_S} (hq9 : l.stackTraces = false) (hx : p0.tables.exec = Jvm.exec) (hb : c.code = cL_law) (hml : c.maxLocals = 7) (hT : ∀ w ∈ ag_tbl, w.before args st = true) (hown : st.vm.findClass RL = some m.cls) (hG : ag_G z st st.heap) (h0 : z.2.2.1 ≤ st.heap.size) (hS : va_S (ag_A z) st.heap H locs) (hW : ag_W z n p s H) (t5 : vp_in 0 (n 5)) (t6 : vp_in 0 (n 6)) (t8 : vp_in 0 (n 8)) (hX : va_X b L xs st st.heap) (hbl : b < st.heap.size) (hbA : ¬ ag_A z b) (hl : lv_has ls 7 [(0, .ref b), (1, .ref (p 5 0)), (2, .ref (p 6 0)), (3, .ref (p 8 0)), (4, .int i)]) (hC : cells + 20 ≤ 601024) (hD : slots + 300 ≤ 7293034) (hf : arm11 fu L xs i n s = some out) (kk : ∀ (p1 : ag_P) (H1 : Heap) (locs1 : List Loc) (ls1 : Array Slot), ag_ext n p p1 → ag_le n out.1 → ag_W z out.1 p1 out.2 H1 → va_S (ag_A z) st.heap H1 locs1 → lv_has ls1 7 [(0, .ref b), (1, .ref (p1 5 0)), (2, .ref (p1 6 0)), (3, .ref (p1 8 0)), (4, .int i)] → W p0 l e room_1 st m args below meth c H1 locs1 (cells + 20) (slots + 300) Q (F0 m 1572 ls1 [])) : W p0 l e room_1 st m args below meth c H locs cells slots Q (F0 m 927 ls []) := by
  unfold arm11 at hf
  refine lv_aload_n hx hb dL_law_927 rfl (lv_at hl 1 rfl) ?_
  refine lv_aload_n hx hb dL_law_928 rfl (lv_at hl 0 rfl) ?_
  refine lv_iload hx hb dL_law_929 (lv_at hl 4 rfl) ?_
  refine lv_iconst (v := 1) hx hb dL_law_931 (by decide) ?_
  refine lv_iadd hx hb dL_law_932 ?_
  obtain ⟨a933, hf⟩ := ag_n hf
  refine va_sld hx hb hX hbl hbA hS a933 dL_law_933 ?_
  refine lv_aload_n hx hb dL_law_934 rfl (lv_at hl 0 rfl) ?_
  refine lv_iload hx hb dL_law_935 (lv_at hl 4 rfl) ?_
  refine lv_iconst (v := 2) hx hb dL_law_937 (by decide) ?_
  refine lv_iadd hx hb dL_law_938 ?_
  obtain ⟨a939, hf⟩ := ag_n hf
  refine va_sld hx hb hX hbl hbA hS a939 dL_law_939 ?_
  refine lv_aload_n hx hb dL_law_940 rfl (lv_at hl 3 rfl) ?_
  obtain ⟨r941, hg941, hf⟩ := ag_bs hf
  refine ag_hHi (hh := [(0, 10, 13, 23), (0, 10, 17, 13), (0, 10, 21, 15)]) (C1 := cells + 5) (S1 := slots + 30) hx hb hml hT hown hG h0 hS hW (c_L_audit hq9 t5 t8 hg941) ⟨rfl, rfl⟩ q666 q667 q0 q668 dd_yL_audit ⟨Nat.le_of_ble_eq_true rfl, Nat.le_of_ble_eq_true rfl⟩ hl.1 rfl (Nat.le_of_ble_eq_true rfl) ⟨by show cells + 5 ≤ 601024; omega, by show slots + 30 ≤ 7293034; omega⟩ dL_law_941 (by omega) (by omega) (fun H locs hW hS => ?_)
  refine lv_istore (lv' := [(5, .int r941.1), (0, .ref b), (1, .ref (p 5 0)), (2, .ref (p 6 0)), (3, .ref (p 8 0)), (4, .int i)]) hx hb dL_law_944 hl (by decide) rfl (fun ls hl => ?_)
  refine lv_aload_n hx hb dL_law_946 rfl (lv_at hl 3 rfl) ?_
  refine lv_aload_n hx hb dL_law_947 rfl (lv_at hl 1 rfl) ?_
  refine lv_iload hx hb dL_law_948 (lv_at hl 5 rfl) ?_
  refine lv_iconst (v := 1) hx hb dL_law_950 (by decide) ?_
  refine lv_iadd hx hb dL_law_951 ?_
  obtain ⟨a952, hf⟩ := ag_n hf
  refine va_sld hx hb hX hbl hbA hS a952 dL_law_952 ?_
  refine lv_aload_n hx hb dL_law_953 rfl (lv_at hl 1 rfl) ?_
  refine lv_iload hx hb dL_law_954 (lv_at hl 5 rfl) ?_
  refine lv_iconst (v := 2) hx hb dL_law_956 (by decide) ?_
  refine lv_iadd hx hb dL_law_957 ?_
  obtain ⟨a958, hf⟩ := ag_n hf
  refine va_sld hx hb hX hbl hbA hS a958 dL_law_958 ?_
  obtain ⟨r959, hg959, hf⟩ := ag_bs hf
  refine ag_cVi hx hb hml hT hown hG h0 hS hW (c_X6_audit t6 hg959) ⟨rfl, rfl⟩ q1001 q1002 q1003 q11 q1004 dd_yX6_audit ⟨Nat.le_of_ble_eq_true rfl, Nat.le_of_ble_eq_true rfl⟩ t6 rfl rfl hl.1 rfl (Nat.le_of_ble_eq_true rfl) ⟨by show (cells + 5) + 0 ≤ 601024; omega, by show (slots + 30) + 0 ≤ 7293034; omega⟩ dL_law_959 (fun H locs hW hS => ?_)
  refine lv_istore (lv' := [(6, .int r959.1), (5, .int r941.1), (0, .ref b), (1, .ref (p 5 0)), (2, .ref (p 6 0)), (3, .ref (p 8 0)), (4, .int i)]) hx hb dL_law_962 hl (by decide) rfl (fun ls hl => ?_)
  refine lv_aload_n hx hb dL_law_964 rfl (lv_at hl 4 rfl) ?_
  obtain ⟨r965, hg965, hf⟩ := ag_bs hf
  refine ag_cVi hx hb hml hT hown hG h0 hS hW (c_X6_thrown t6 hg965) ⟨rfl, rfl⟩ q884 q885 q886 q11 q887 dd_yX6_thrown ⟨Nat.le_of_ble_eq_true rfl, Nat.le_of_ble_eq_true rfl⟩ t6 rfl rfl hl.1 rfl (Nat.le_of_ble_eq_true rfl) ⟨by show (cells + 5) + 0 ≤ 601024; omega, by show (slots + 30) + 0 ≤ 7293034; omega⟩ dL_law_965 (fun H locs hW hS => ?_)
  refine lv_iload hx hb dL_law_968 (lv_at hl 1 rfl) ?_
  refine lv_icmp_eq (tgt := 975) hx hb dL_law_970 (by decide) (fun c970 => ?_) (fun c970 => ?_)
  · have hf := ag_t c970 hf
    refine lv_iload hx hb dL_law_975 (lv_at hl 1 rfl) ?_
    refine lv_if_ne (tgt := 992) hx hb dL_law_977 (by decide) (fun c977 => ?_) (fun c977 => ?_)
    · have hf := ag_f c977 hf
      refine lv_goto (tgt := 1572) hx hb dL_law_992 (by decide) ?_
      refine W.widen (k := cells + 20) (n := slots + 300) (by omega) (by omega) ?_
      have e9 := Option.some.inj hf
      subst e9
      exact kk p H locs ls (ag_ext_rf _ _) (ag_le_rf _) hW hS (lv_sub hl [2, 3, 4, 5, 6] rfl)
    · have hf := ag_t c977 hf
      refine lv_aload_n hx hb dL_law_980 rfl (lv_at hl 5 rfl) ?_
      refine lv_iconst (v := 0) hx hb dL_law_981 (by decide) ?_
      obtain ⟨a982, hf⟩ := ag_n hf
      refine ag_lald hx hb hG hW t8 rfl rfl a982 dL_law_982 ?_
      refine lv_iload hx hb dL_law_983 (lv_at hl 0 rfl) ?_
      refine lv_i2l hx hb dL_law_985 rfl ?_
      refine W.lcmp hx hb dL_law_986 ?_
      refine lv_if_eq (tgt := 992) hx hb dL_law_987 (by decide) (fun c987 => ?_) (fun c987 => ?_)
      · have hf := ag_t c987 hf
        refine lv_goto (tgt := 1572) hx hb dL_law_992 (by decide) ?_
        refine W.widen (k := cells + 20) (n := slots + 300) (by omega) (by omega) ?_
        have e9 := Option.some.inj hf
        subst e9
        exact kk p H locs ls (ag_ext_rf _ _) (ag_le_rf _) hW hS (lv_sub hl [2, 3, 4, 5, 6] rfl)
      · have hf := ag_f c987 hf
        refine lv_iconst (v := 0) hx hb dL_law_990 (by decide) ?_
        cases hf
  · have hf := ag_f c970 hf
    refine lv_iconst (v := 0) hx hb dL_law_973 (by decide) ?_
    cases hf
def arm12 (fu L : Nat) (xs : Nat → Int32) (i : Int32) (n : ag_N) (s : ag_S) : Option (ag_N × ag_S) := if (i + 1) < 0 ∨ L ≤ (i + 1).toNatClampNeg then none else if (i + 2) < 0 ∨ L ≤ (i + 2).toNatClampNeg then none else ag_bd (f_L_repay fu (xs (i + 1).toNatClampNeg) (xs (i + 2).toNatClampNeg) s) fun r1009 => if (i + 1) < 0 ∨ L ≤ (i + 1).toNatClampNeg then none else if (i + 2) < 0 ∨ L ≤ (i + 2).toNatClampNeg then none else ag_bd (f_X6_repay fu (xs (i + 1).toNatClampNeg) (xs (i + 2).toNatClampNeg) r1009.2) fun r1027 => ag_bd (f_X6_thrown fu r1027.2) fun r1033 => if r1033 = r1009.1 then (if r1009.1 = 0 then (if (0 : Int32) < 0 ∨ 1 ≤ (0 : Int32).toNatClampNeg then none else if lg_cmp ((r1027.2 8 0 0).toInt64) ((r1027.1 : Int32).toInt64) = 0 then (some (n, r1027.2)) else (none)) else (some (n, r1027.2))) else (none)
set_option maxHeartbeats 4000000 in
set_option maxRecDepth 100000 in
theorem ra12 {p0 : Program} {l : Launch} {e : Env} {st : State} {m : MethodId} {args : Array Value} {below : List Frame} {meth : Method} {c : Code} {H : Heap} {locs : List Loc} {cells slots : Nat} {Q : State → Prop} {ls : Array Slot} {z : ag_Z} {n : ag_N} {p : ag_P} {s : ag_S} {fu b L : Nat} {xs : Nat → Int32} {i : Int32} {out : ag_N × ag_S} (hq9 : l.stackTraces = false) (hx : p0.tables.exec = Jvm.exec) (hb : c.code = cL_law) (hml : c.maxLocals = 7) (hT : ∀ w ∈ ag_tbl, w.before args st = true) (hown : st.vm.findClass RL = some m.cls) (hG : ag_G z st st.heap) (h0 : z.2.2.1 ≤ st.heap.size) (hS : va_S (ag_A z) st.heap H locs) (hW : ag_W z n p s H) (t5 : vp_in 0 (n 5)) (t6 : vp_in 0 (n 6)) (t8 : vp_in 0 (n 8)) (hX : va_X b L xs st st.heap) (hbl : b < st.heap.size) (hbA : ¬ ag_A z b) (hl : lv_has ls 7 [(0, .ref b), (1, .ref (p 5 0)), (2, .ref (p 6 0)), (3, .ref (p 8 0)), (4, .int i)]) (hC : cells + 20 ≤ 601024) (hD : slots + 300 ≤ 7293034) (hf : arm12 fu L xs i n s = some out) (kk : ∀ (p1 : ag_P) (H1 : Heap) (locs1 : List Loc) (ls1 : Array Slot), ag_ext n p p1 → ag_le n out.1 → ag_W z out.1 p1 out.2 H1 → va_S (ag_A z) st.heap H1 locs1 → lv_has ls1 7 [(0, .ref b), (1, .ref (p1 5 0)), (2, .ref (p1 6 0)), (3, .ref (p1 8 0)), (4, .int i)] → W p0 l e room_1 st m args below meth c H1 locs1 (cells + 20) (slots + 300) Q (F0 m 1572 ls1 [])) : W p0 l e room_1 st m args below meth c H locs cells slots Q (F0 m 995 ls []) := by
  unfold arm12 at hf
  refine lv_aload_n hx hb dL_law_995 rfl (lv_at hl 1 rfl) ?_
  refine lv_aload_n hx hb dL_law_996 rfl (lv_at hl 0 rfl) ?_
  refine lv_iload hx hb dL_law_997 (lv_at hl 4 rfl) ?_
  refine lv_iconst (v := 1) hx hb dL_law_999 (by decide) ?_
  refine lv_iadd hx hb dL_law_1000 ?_
  obtain ⟨a1001, hf⟩ := ag_n hf
  refine va_sld hx hb hX hbl hbA hS a1001 dL_law_1001 ?_
  refine lv_aload_n hx hb dL_law_1002 rfl (lv_at hl 0 rfl) ?_
  refine lv_iload hx hb dL_law_1003 (lv_at hl 4 rfl) ?_
  refine lv_iconst (v := 2) hx hb dL_law_1005 (by decide) ?_
  refine lv_iadd hx hb dL_law_1006 ?_
  obtain ⟨a1007, hf⟩ := ag_n hf
  refine va_sld hx hb hX hbl hbA hS a1007 dL_law_1007 ?_
  refine lv_aload_n hx hb dL_law_1008 rfl (lv_at hl 3 rfl) ?_
  obtain ⟨r1009, hg1009, hf⟩ := ag_bs hf
  refine ag_hHi (hh := [(0, 10, 13, 23), (0, 10, 17, 13), (0, 10, 21, 15)]) (C1 := cells + 5) (S1 := slots + 30) hx hb hml hT hown hG h0 hS hW (c_L_repay hq9 t5 t8 hg1009) ⟨rfl, rfl⟩ q679 q680 q0 q681 dd_yL_repay ⟨Nat.le_of_ble_eq_true rfl, Nat.le_of_ble_eq_true rfl⟩ hl.1 rfl (Nat.le_of_ble_eq_true rfl) ⟨by show cells + 5 ≤ 601024; omega, by show slots + 30 ≤ 7293034; omega⟩ dL_law_1009 (by omega) (by omega) (fun H locs hW hS => ?_)
  refine lv_istore (lv' := [(5, .int r1009.1), (0, .ref b), (1, .ref (p 5 0)), (2, .ref (p 6 0)), (3, .ref (p 8 0)), (4, .int i)]) hx hb dL_law_1012 hl (by decide) rfl (fun ls hl => ?_)
  refine lv_aload_n hx hb dL_law_1014 rfl (lv_at hl 3 rfl) ?_
  refine lv_aload_n hx hb dL_law_1015 rfl (lv_at hl 1 rfl) ?_
  refine lv_iload hx hb dL_law_1016 (lv_at hl 5 rfl) ?_
  refine lv_iconst (v := 1) hx hb dL_law_1018 (by decide) ?_
  refine lv_iadd hx hb dL_law_1019 ?_
  obtain ⟨a1020, hf⟩ := ag_n hf
  refine va_sld hx hb hX hbl hbA hS a1020 dL_law_1020 ?_
  refine lv_aload_n hx hb dL_law_1021 rfl (lv_at hl 1 rfl) ?_
  refine lv_iload hx hb dL_law_1022 (lv_at hl 5 rfl) ?_
  refine lv_iconst (v := 2) hx hb dL_law_1024 (by decide) ?_
  refine lv_iadd hx hb dL_law_1025 ?_
  obtain ⟨a1026, hf⟩ := ag_n hf
  refine va_sld hx hb hX hbl hbA hS a1026 dL_law_1026 ?_
  obtain ⟨r1027, hg1027, hf⟩ := ag_bs hf
  refine ag_cVi hx hb hml hT hown hG h0 hS hW (c_X6_repay t6 hg1027) ⟨rfl, rfl⟩ q1005 q1006 q1007 q11 q1008 dd_yX6_repay ⟨Nat.le_of_ble_eq_true rfl, Nat.le_of_ble_eq_true rfl⟩ t6 rfl rfl hl.1 rfl (Nat.le_of_ble_eq_true rfl) ⟨by show (cells + 5) + 0 ≤ 601024; omega, by show (slots + 30) + 0 ≤ 7293034; omega⟩ dL_law_1027 (fun H locs hW hS => ?_)
  refine lv_istore (lv' := [(6, .int r1027.1), (5, .int r1009.1), (0, .ref b), (1, .ref (p 5 0)), (2, .ref (p 6 0)), (3, .ref (p 8 0)), (4, .int i)]) hx hb dL_law_1030 hl (by decide) rfl (fun ls hl => ?_)
  refine lv_aload_n hx hb dL_law_1032 rfl (lv_at hl 4 rfl) ?_
  obtain ⟨r1033, hg1033, hf⟩ := ag_bs hf
  refine ag_cVi hx hb hml hT hown hG h0 hS hW (c_X6_thrown t6 hg1033) ⟨rfl, rfl⟩ q884 q885 q886 q11 q887 dd_yX6_thrown ⟨Nat.le_of_ble_eq_true rfl, Nat.le_of_ble_eq_true rfl⟩ t6 rfl rfl hl.1 rfl (Nat.le_of_ble_eq_true rfl) ⟨by show (cells + 5) + 0 ≤ 601024; omega, by show (slots + 30) + 0 ≤ 7293034; omega⟩ dL_law_1033 (fun H locs hW hS => ?_)
  refine lv_iload hx hb dL_law_1036 (lv_at hl 1 rfl) ?_
  refine lv_icmp_eq (tgt := 1043) hx hb dL_law_1038 (by decide) (fun c1038 => ?_) (fun c1038 => ?_)
  · have hf := ag_t c1038 hf
    refine lv_iload hx hb dL_law_1043 (lv_at hl 1 rfl) ?_
    refine lv_if_ne (tgt := 1060) hx hb dL_law_1045 (by decide) (fun c1045 => ?_) (fun c1045 => ?_)
    · have hf := ag_f c1045 hf
      refine lv_goto (tgt := 1572) hx hb dL_law_1060 (by decide) ?_
      refine W.widen (k := cells + 20) (n := slots + 300) (by omega) (by omega) ?_
      have e9 := Option.some.inj hf
      subst e9
      exact kk p H locs ls (ag_ext_rf _ _) (ag_le_rf _) hW hS (lv_sub hl [2, 3, 4, 5, 6] rfl)
    · have hf := ag_t c1045 hf
      refine lv_aload_n hx hb dL_law_1048 rfl (lv_at hl 5 rfl) ?_
      refine lv_iconst (v := 0) hx hb dL_law_1049 (by decide) ?_
      obtain ⟨a1050, hf⟩ := ag_n hf
      refine ag_lald hx hb hG hW t8 rfl rfl a1050 dL_law_1050 ?_
      refine lv_iload hx hb dL_law_1051 (lv_at hl 0 rfl) ?_
      refine lv_i2l hx hb dL_law_1053 rfl ?_
      refine W.lcmp hx hb dL_law_1054 ?_
      refine lv_if_eq (tgt := 1060) hx hb dL_law_1055 (by decide) (fun c1055 => ?_) (fun c1055 => ?_)
      · have hf := ag_t c1055 hf
        refine lv_goto (tgt := 1572) hx hb dL_law_1060 (by decide) ?_
        refine W.widen (k := cells + 20) (n := slots + 300) (by omega) (by omega) ?_
        have e9 := Option.some.inj hf
        subst e9
        exact kk p H locs ls (ag_ext_rf _ _) (ag_le_rf _) hW hS (lv_sub hl [2, 3, 4, 5, 6] rfl)
      · have hf := ag_f c1055 hf
        refine lv_iconst (v := 0) hx hb dL_law_1058 (by decide) ?_
        cases hf
  · have hf := ag_f c1038 hf
    refine lv_iconst (v := 0) hx hb dL_law_1041 (by decide) ?_
    cases hf
def arm13 (fu L : Nat) (xs : Nat → Int32) (i : Int32) (n : ag_N) (s : ag_S) : Option (ag_N × ag_S) := if (i + 1) < 0 ∨ L ≤ (i + 1).toNatClampNeg then none else ag_bd (f_L_target fu (xs (i + 1).toNatClampNeg) s) fun r1071 => if (i + 1) < 0 ∨ L ≤ (i + 1).toNatClampNeg then none else ag_bd (f_X6_target fu (xs (i + 1).toNatClampNeg) r1071.2) fun r1083 => ag_bd (f_X6_thrown fu r1083.2) fun r1089 => if r1089 = r1071.1 then (if r1071.1 = 0 then (if (0 : Int32) < 0 ∨ 1 ≤ (0 : Int32).toNatClampNeg then none else if lg_cmp ((r1083.2 8 0 0).toInt64) ((r1083.1 : Int32).toInt64) = 0 then (some (n, r1083.2)) else (none)) else (some (n, r1083.2))) else (none)
set_option maxHeartbeats 4000000 in
set_option maxRecDepth 100000 in
theorem ra13 {p0 : Program} {l : Launch} {e : Env} {st : State} {m : MethodId} {args : Array Value} {below : List Frame} {meth : Method} {c : Code} {H : Heap} {locs : List Loc} {cells slots : Nat} {Q : State → Prop} {ls : Array Slot} {z : ag_Z} {n : ag_N} {p : ag_P} {s : ag_S} {fu b L : Nat} {xs : Nat → Int32} {i : Int32} {out : ag_N × ag_S} (hq9 : l.stackTraces = false) (hx : p0.tables.exec = Jvm.exec) (hb : c.code = cL_law) (hml : c.maxLocals = 7) (hT : ∀ w ∈ ag_tbl, w.before args st = true) (hown : st.vm.findClass RL = some m.cls) (hG : ag_G z st st.heap) (h0 : z.2.2.1 ≤ st.heap.size) (hS : va_S (ag_A z) st.heap H locs) (hW : ag_W z n p s H) (t5 : vp_in 0 (n 5)) (t6 : vp_in 0 (n 6)) (t8 : vp_in 0 (n 8)) (hX : va_X b L xs st st.heap) (hbl : b < st.heap.size) (hbA : ¬ ag_A z b) (hl : lv_has ls 7 [(0, .ref b), (1, .ref (p 5 0)), (2, .ref (p 6 0)), (3, .ref (p 8 0)), (4, .int i)]) (hC : cells + 20 ≤ 601024) (hD : slots + 300 ≤ 7293034) (hf : arm13 fu L xs i n s = some out) (kk : ∀ (p1 : ag_P) (H1 : Heap) (locs1 : List Loc) (ls1 : Array Slot), ag_ext n p p1 → ag_le n out.1 → ag_W z out.1 p1 out.2 H1 → va_S (ag_A z) st.heap H1 locs1 → lv_has ls1 7 [(0, .ref b), (1, .ref (p1 5 0)), (2, .ref (p1 6 0)), (3, .ref (p1 8 0)), (4, .int i)] → W p0 l e room_1 st m args below meth c H1 locs1 (cells + 20) (slots + 300) Q (F0 m 1572 ls1 [])) : W p0 l e room_1 st m args below meth c H locs cells slots Q (F0 m 1063 ls []) := by
  unfold arm13 at hf
  refine lv_aload_n hx hb dL_law_1063 rfl (lv_at hl 1 rfl) ?_
  refine lv_aload_n hx hb dL_law_1064 rfl (lv_at hl 0 rfl) ?_
  refine lv_iload hx hb dL_law_1065 (lv_at hl 4 rfl) ?_
  refine lv_iconst (v := 1) hx hb dL_law_1067 (by decide) ?_
  refine lv_iadd hx hb dL_law_1068 ?_
  obtain ⟨a1069, hf⟩ := ag_n hf
  refine va_sld hx hb hX hbl hbA hS a1069 dL_law_1069 ?_
  refine lv_aload_n hx hb dL_law_1070 rfl (lv_at hl 3 rfl) ?_
  obtain ⟨r1071, hg1071, hf⟩ := ag_bs hf
  refine ag_hHi (hh := [(0, 9, 12, 13)]) (C1 := cells + 5) (S1 := slots + 30) hx hb hml hT hown hG h0 hS hW (c_L_target hq9 t5 t8 hg1071) ⟨rfl, rfl⟩ q687 q688 q0 q689 dd_yL_target ⟨Nat.le_of_ble_eq_true rfl, Nat.le_of_ble_eq_true rfl⟩ hl.1 rfl (Nat.le_of_ble_eq_true rfl) ⟨by show cells + 5 ≤ 601024; omega, by show slots + 30 ≤ 7293034; omega⟩ dL_law_1071 (by omega) (by omega) (fun H locs hW hS => ?_)
  refine lv_istore (lv' := [(5, .int r1071.1), (0, .ref b), (1, .ref (p 5 0)), (2, .ref (p 6 0)), (3, .ref (p 8 0)), (4, .int i)]) hx hb dL_law_1074 hl (by decide) rfl (fun ls hl => ?_)
  refine lv_aload_n hx hb dL_law_1076 rfl (lv_at hl 3 rfl) ?_
  refine lv_aload_n hx hb dL_law_1077 rfl (lv_at hl 1 rfl) ?_
  refine lv_iload hx hb dL_law_1078 (lv_at hl 5 rfl) ?_
  refine lv_iconst (v := 1) hx hb dL_law_1080 (by decide) ?_
  refine lv_iadd hx hb dL_law_1081 ?_
  obtain ⟨a1082, hf⟩ := ag_n hf
  refine va_sld hx hb hX hbl hbA hS a1082 dL_law_1082 ?_
  obtain ⟨r1083, hg1083, hf⟩ := ag_bs hf
  refine ag_cVi hx hb hml hT hown hG h0 hS hW (c_X6_target t6 hg1083) ⟨rfl, rfl⟩ q1009 q1010 q1011 q11 q1012 dd_yX6_target ⟨Nat.le_of_ble_eq_true rfl, Nat.le_of_ble_eq_true rfl⟩ t6 rfl rfl hl.1 rfl (Nat.le_of_ble_eq_true rfl) ⟨by show (cells + 5) + 0 ≤ 601024; omega, by show (slots + 30) + 0 ≤ 7293034; omega⟩ dL_law_1083 (fun H locs hW hS => ?_)
  refine lv_istore (lv' := [(6, .int r1083.1), (5, .int r1071.1), (0, .ref b), (1, .ref (p 5 0)), (2, .ref (p 6 0)), (3, .ref (p 8 0)), (4, .int i)]) hx hb dL_law_1086 hl (by decide) rfl (fun ls hl => ?_)
  refine lv_aload_n hx hb dL_law_1088 rfl (lv_at hl 4 rfl) ?_
  obtain ⟨r1089, hg1089, hf⟩ := ag_bs hf
  refine ag_cVi hx hb hml hT hown hG h0 hS hW (c_X6_thrown t6 hg1089) ⟨rfl, rfl⟩ q884 q885 q886 q11 q887 dd_yX6_thrown ⟨Nat.le_of_ble_eq_true rfl, Nat.le_of_ble_eq_true rfl⟩ t6 rfl rfl hl.1 rfl (Nat.le_of_ble_eq_true rfl) ⟨by show (cells + 5) + 0 ≤ 601024; omega, by show (slots + 30) + 0 ≤ 7293034; omega⟩ dL_law_1089 (fun H locs hW hS => ?_)
  refine lv_iload hx hb dL_law_1092 (lv_at hl 1 rfl) ?_
  refine lv_icmp_eq (tgt := 1099) hx hb dL_law_1094 (by decide) (fun c1094 => ?_) (fun c1094 => ?_)
  · have hf := ag_t c1094 hf
    refine lv_iload hx hb dL_law_1099 (lv_at hl 1 rfl) ?_
    refine lv_if_ne (tgt := 1116) hx hb dL_law_1101 (by decide) (fun c1101 => ?_) (fun c1101 => ?_)
    · have hf := ag_f c1101 hf
      refine lv_goto (tgt := 1572) hx hb dL_law_1116 (by decide) ?_
      refine W.widen (k := cells + 20) (n := slots + 300) (by omega) (by omega) ?_
      have e9 := Option.some.inj hf
      subst e9
      exact kk p H locs ls (ag_ext_rf _ _) (ag_le_rf _) hW hS (lv_sub hl [2, 3, 4, 5, 6] rfl)
    · have hf := ag_t c1101 hf
      refine lv_aload_n hx hb dL_law_1104 rfl (lv_at hl 5 rfl) ?_
      refine lv_iconst (v := 0) hx hb dL_law_1105 (by decide) ?_
      obtain ⟨a1106, hf⟩ := ag_n hf
      refine ag_lald hx hb hG hW t8 rfl rfl a1106 dL_law_1106 ?_
      refine lv_iload hx hb dL_law_1107 (lv_at hl 0 rfl) ?_
      refine lv_i2l hx hb dL_law_1109 rfl ?_
      refine W.lcmp hx hb dL_law_1110 ?_
      refine lv_if_eq (tgt := 1116) hx hb dL_law_1111 (by decide) (fun c1111 => ?_) (fun c1111 => ?_)
      · have hf := ag_t c1111 hf
        refine lv_goto (tgt := 1572) hx hb dL_law_1116 (by decide) ?_
        refine W.widen (k := cells + 20) (n := slots + 300) (by omega) (by omega) ?_
        have e9 := Option.some.inj hf
        subst e9
        exact kk p H locs ls (ag_ext_rf _ _) (ag_le_rf _) hW hS (lv_sub hl [2, 3, 4, 5, 6] rfl)
      · have hf := ag_f c1111 hf
        refine lv_iconst (v := 0) hx hb dL_law_1114 (by decide) ?_
        cases hf
  · have hf := ag_f c1094 hf
    refine lv_iconst (v := 0) hx hb dL_law_1097 (by decide) ?_
    cases hf
def arm14 (fu L : Nat) (xs : Nat → Int32) (i : Int32) (n : ag_N) (s : ag_S) : Option (ag_N × ag_S) := if (i + 1) < 0 ∨ L ≤ (i + 1).toNatClampNeg then none else ag_bd (f_L_month fu (xs (i + 1).toNatClampNeg) s) fun r1127 => if (i + 1) < 0 ∨ L ≤ (i + 1).toNatClampNeg then none else ag_bd (f_X6_month fu (xs (i + 1).toNatClampNeg) r1127.2) fun r1139 => ag_bd (f_X6_thrown fu r1139.2) fun r1145 => if r1145 = r1127.1 then (if r1127.1 = 0 then (if (0 : Int32) < 0 ∨ 1 ≤ (0 : Int32).toNatClampNeg then none else if lg_cmp ((r1139.2 8 0 0).toInt64) ((r1139.1 : Int32).toInt64) = 0 then (some (n, r1139.2)) else (none)) else (some (n, r1139.2))) else (none)
set_option maxHeartbeats 4000000 in
set_option maxRecDepth 100000 in
theorem ra14 {p0 : Program} {l : Launch} {e : Env} {st : State} {m : MethodId} {args : Array Value} {below : List Frame} {meth : Method} {c : Code} {H : Heap} {locs : List Loc} {cells slots : Nat} {Q : State → Prop} {ls : Array Slot} {z : ag_Z} {n : ag_N} {p : ag_P} {s : ag_S} {fu b L : Nat} {xs : Nat → Int32} {i : Int32} {out : ag_N × ag_S} (hq9 : l.stackTraces = false) (hx : p0.tables.exec = Jvm.exec) (hb : c.code = cL_law) (hml : c.maxLocals = 7) (hT : ∀ w ∈ ag_tbl, w.before args st = true) (hown : st.vm.findClass RL = some m.cls) (hG : ag_G z st st.heap) (h0 : z.2.2.1 ≤ st.heap.size) (hS : va_S (ag_A z) st.heap H locs) (hW : ag_W z n p s H) (t5 : vp_in 0 (n 5)) (t6 : vp_in 0 (n 6)) (t8 : vp_in 0 (n 8)) (hX : va_X b L xs st st.heap) (hbl : b < st.heap.size) (hbA : ¬ ag_A z b) (hl : lv_has ls 7 [(0, .ref b), (1, .ref (p 5 0)), (2, .ref (p 6 0)), (3, .ref (p 8 0)), (4, .int i)]) (hC : cells + 20 ≤ 601024) (hD : slots + 300 ≤ 7293034) (hf : arm14 fu L xs i n s = some out) (kk : ∀ (p1 : ag_P) (H1 : Heap) (locs1 : List Loc) (ls1 : Array Slot), ag_ext n p p1 → ag_le n out.1 → ag_W z out.1 p1 out.2 H1 → va_S (ag_A z) st.heap H1 locs1 → lv_has ls1 7 [(0, .ref b), (1, .ref (p1 5 0)), (2, .ref (p1 6 0)), (3, .ref (p1 8 0)), (4, .int i)] → W p0 l e room_1 st m args below meth c H1 locs1 (cells + 20) (slots + 300) Q (F0 m 1572 ls1 [])) : W p0 l e room_1 st m args below meth c H locs cells slots Q (F0 m 1119 ls []) := by
  unfold arm14 at hf
  refine lv_aload_n hx hb dL_law_1119 rfl (lv_at hl 1 rfl) ?_
  refine lv_aload_n hx hb dL_law_1120 rfl (lv_at hl 0 rfl) ?_
  refine lv_iload hx hb dL_law_1121 (lv_at hl 4 rfl) ?_
  refine lv_iconst (v := 1) hx hb dL_law_1123 (by decide) ?_
  refine lv_iadd hx hb dL_law_1124 ?_
  obtain ⟨a1125, hf⟩ := ag_n hf
  refine va_sld hx hb hX hbl hbA hS a1125 dL_law_1125 ?_
  refine lv_aload_n hx hb dL_law_1126 rfl (lv_at hl 3 rfl) ?_
  obtain ⟨r1127, hg1127, hf⟩ := ag_bs hf
  refine ag_hHi (hh := [(0, 9, 12, 13)]) (C1 := cells + 5) (S1 := slots + 30) hx hb hml hT hown hG h0 hS hW (c_L_month hq9 t5 t8 hg1127) ⟨rfl, rfl⟩ q694 q695 q0 q696 dd_yL_month ⟨Nat.le_of_ble_eq_true rfl, Nat.le_of_ble_eq_true rfl⟩ hl.1 rfl (Nat.le_of_ble_eq_true rfl) ⟨by show cells + 5 ≤ 601024; omega, by show slots + 30 ≤ 7293034; omega⟩ dL_law_1127 (by omega) (by omega) (fun H locs hW hS => ?_)
  refine lv_istore (lv' := [(5, .int r1127.1), (0, .ref b), (1, .ref (p 5 0)), (2, .ref (p 6 0)), (3, .ref (p 8 0)), (4, .int i)]) hx hb dL_law_1130 hl (by decide) rfl (fun ls hl => ?_)
  refine lv_aload_n hx hb dL_law_1132 rfl (lv_at hl 3 rfl) ?_
  refine lv_aload_n hx hb dL_law_1133 rfl (lv_at hl 1 rfl) ?_
  refine lv_iload hx hb dL_law_1134 (lv_at hl 5 rfl) ?_
  refine lv_iconst (v := 1) hx hb dL_law_1136 (by decide) ?_
  refine lv_iadd hx hb dL_law_1137 ?_
  obtain ⟨a1138, hf⟩ := ag_n hf
  refine va_sld hx hb hX hbl hbA hS a1138 dL_law_1138 ?_
  obtain ⟨r1139, hg1139, hf⟩ := ag_bs hf
  refine ag_cVi hx hb hml hT hown hG h0 hS hW (c_X6_month t6 hg1139) ⟨rfl, rfl⟩ q1013 q1014 q1015 q11 q1016 dd_yX6_month ⟨Nat.le_of_ble_eq_true rfl, Nat.le_of_ble_eq_true rfl⟩ t6 rfl rfl hl.1 rfl (Nat.le_of_ble_eq_true rfl) ⟨by show (cells + 5) + 0 ≤ 601024; omega, by show (slots + 30) + 0 ≤ 7293034; omega⟩ dL_law_1139 (fun H locs hW hS => ?_)
  refine lv_istore (lv' := [(6, .int r1139.1), (5, .int r1127.1), (0, .ref b), (1, .ref (p 5 0)), (2, .ref (p 6 0)), (3, .ref (p 8 0)), (4, .int i)]) hx hb dL_law_1142 hl (by decide) rfl (fun ls hl => ?_)
  refine lv_aload_n hx hb dL_law_1144 rfl (lv_at hl 4 rfl) ?_
  obtain ⟨r1145, hg1145, hf⟩ := ag_bs hf
  refine ag_cVi hx hb hml hT hown hG h0 hS hW (c_X6_thrown t6 hg1145) ⟨rfl, rfl⟩ q884 q885 q886 q11 q887 dd_yX6_thrown ⟨Nat.le_of_ble_eq_true rfl, Nat.le_of_ble_eq_true rfl⟩ t6 rfl rfl hl.1 rfl (Nat.le_of_ble_eq_true rfl) ⟨by show (cells + 5) + 0 ≤ 601024; omega, by show (slots + 30) + 0 ≤ 7293034; omega⟩ dL_law_1145 (fun H locs hW hS => ?_)
  refine lv_iload hx hb dL_law_1148 (lv_at hl 1 rfl) ?_
  refine lv_icmp_eq (tgt := 1155) hx hb dL_law_1150 (by decide) (fun c1150 => ?_) (fun c1150 => ?_)
  · have hf := ag_t c1150 hf
    refine lv_iload hx hb dL_law_1155 (lv_at hl 1 rfl) ?_
    refine lv_if_ne (tgt := 1172) hx hb dL_law_1157 (by decide) (fun c1157 => ?_) (fun c1157 => ?_)
    · have hf := ag_f c1157 hf
      refine lv_goto (tgt := 1572) hx hb dL_law_1172 (by decide) ?_
      refine W.widen (k := cells + 20) (n := slots + 300) (by omega) (by omega) ?_
      have e9 := Option.some.inj hf
      subst e9
      exact kk p H locs ls (ag_ext_rf _ _) (ag_le_rf _) hW hS (lv_sub hl [2, 3, 4, 5, 6] rfl)
    · have hf := ag_t c1157 hf
      refine lv_aload_n hx hb dL_law_1160 rfl (lv_at hl 5 rfl) ?_
      refine lv_iconst (v := 0) hx hb dL_law_1161 (by decide) ?_
      obtain ⟨a1162, hf⟩ := ag_n hf
      refine ag_lald hx hb hG hW t8 rfl rfl a1162 dL_law_1162 ?_
      refine lv_iload hx hb dL_law_1163 (lv_at hl 0 rfl) ?_
      refine lv_i2l hx hb dL_law_1165 rfl ?_
      refine W.lcmp hx hb dL_law_1166 ?_
      refine lv_if_eq (tgt := 1172) hx hb dL_law_1167 (by decide) (fun c1167 => ?_) (fun c1167 => ?_)
      · have hf := ag_t c1167 hf
        refine lv_goto (tgt := 1572) hx hb dL_law_1172 (by decide) ?_
        refine W.widen (k := cells + 20) (n := slots + 300) (by omega) (by omega) ?_
        have e9 := Option.some.inj hf
        subst e9
        exact kk p H locs ls (ag_ext_rf _ _) (ag_le_rf _) hW hS (lv_sub hl [2, 3, 4, 5, 6] rfl)
      · have hf := ag_f c1167 hf
        refine lv_iconst (v := 0) hx hb dL_law_1170 (by decide) ?_
        cases hf
  · have hf := ag_f c1150 hf
    refine lv_iconst (v := 0) hx hb dL_law_1153 (by decide) ?_
    cases hf
def arm15 (fu L : Nat) (xs : Nat → Int32) (i : Int32) (n : ag_N) (s : ag_S) : Option (ag_N × ag_S) := if (i + 1) < 0 ∨ L ≤ (i + 1).toNatClampNeg then none else if (i + 2) < 0 ∨ L ≤ (i + 2).toNatClampNeg then none else ag_bd (f_L_ofLine fu (xs (i + 1).toNatClampNeg) (xs (i + 2).toNatClampNeg) s) fun r1189 => if (i + 1) < 0 ∨ L ≤ (i + 1).toNatClampNeg then none else if (i + 2) < 0 ∨ L ≤ (i + 2).toNatClampNeg then none else ag_bd (f_X6_ofLine fu (xs (i + 1).toNatClampNeg) (xs (i + 2).toNatClampNeg) r1189.2) fun r1207 => ag_bd (f_X6_thrown fu r1207.2) fun r1213 => if r1213 = r1189.1 then (if r1189.1 = 0 then (if (0 : Int32) < 0 ∨ 1 ≤ (0 : Int32).toNatClampNeg then none else if lg_cmp ((r1207.2 8 0 0).toInt64) ((r1207.1 : Int32).toInt64) = 0 then (some (n, r1207.2)) else (none)) else (some (n, r1207.2))) else (none)
set_option maxHeartbeats 4000000 in
set_option maxRecDepth 100000 in
theorem ra15 {p0 : Program} {l : Launch} {e : Env} {st : State} {m : MethodId} {args : Array Value} {below : List Frame} {meth : Method} {c : Code} {H : Heap} {locs : List Loc} {cells slots : Nat} {Q : State → Prop} {ls : Array Slot} {z : ag_Z} {n : ag_N} {p : ag_P} {s : ag_S} {fu b L : Nat} {xs : Nat → Int32} {i : Int32} {out : ag_N × ag_S} (hq9 : l.stackTraces = false) (hx : p0.tables.exec = Jvm.exec) (hb : c.code = cL_law) (hml : c.maxLocals = 7) (hT : ∀ w ∈ ag_tbl, w.before args st = true) (hown : st.vm.findClass RL = some m.cls) (hG : ag_G z st st.heap) (h0 : z.2.2.1 ≤ st.heap.size) (hS : va_S (ag_A z) st.heap H locs) (hW : ag_W z n p s H) (t5 : vp_in 0 (n 5)) (t6 : vp_in 0 (n 6)) (t8 : vp_in 0 (n 8)) (hX : va_X b L xs st st.heap) (hbl : b < st.heap.size) (hbA : ¬ ag_A z b) (hl : lv_has ls 7 [(0, .ref b), (1, .ref (p 5 0)), (2, .ref (p 6 0)), (3, .ref (p 8 0)), (4, .int i)]) (hC : cells + 20 ≤ 601024) (hD : slots + 300 ≤ 7293034) (hf : arm15 fu L xs i n s = some out) (kk : ∀ (p1 : ag_P) (H1 : Heap) (locs1 : List Loc) (ls1 : Array Slot), ag_ext n p p1 → ag_le n out.1 → ag_W z out.1 p1 out.2 H1 → va_S (ag_A z) st.heap H1 locs1 → lv_has ls1 7 [(0, .ref b), (1, .ref (p1 5 0)), (2, .ref (p1 6 0)), (3, .ref (p1 8 0)), (4, .int i)] → W p0 l e room_1 st m args below meth c H1 locs1 (cells + 20) (slots + 300) Q (F0 m 1572 ls1 [])) : W p0 l e room_1 st m args below meth c H locs cells slots Q (F0 m 1175 ls []) := by
  unfold arm15 at hf
  refine lv_aload_n hx hb dL_law_1175 rfl (lv_at hl 1 rfl) ?_
  refine lv_aload_n hx hb dL_law_1176 rfl (lv_at hl 0 rfl) ?_
  refine lv_iload hx hb dL_law_1177 (lv_at hl 4 rfl) ?_
  refine lv_iconst (v := 1) hx hb dL_law_1179 (by decide) ?_
  refine lv_iadd hx hb dL_law_1180 ?_
  obtain ⟨a1181, hf⟩ := ag_n hf
  refine va_sld hx hb hX hbl hbA hS a1181 dL_law_1181 ?_
  refine lv_aload_n hx hb dL_law_1182 rfl (lv_at hl 0 rfl) ?_
  refine lv_iload hx hb dL_law_1183 (lv_at hl 4 rfl) ?_
  refine lv_iconst (v := 2) hx hb dL_law_1185 (by decide) ?_
  refine lv_iadd hx hb dL_law_1186 ?_
  obtain ⟨a1187, hf⟩ := ag_n hf
  refine va_sld hx hb hX hbl hbA hS a1187 dL_law_1187 ?_
  refine lv_aload_n hx hb dL_law_1188 rfl (lv_at hl 3 rfl) ?_
  obtain ⟨r1189, hg1189, hf⟩ := ag_bs hf
  refine ag_hHi (hh := [(0, 10, 13, 23), (0, 10, 17, 13)]) (C1 := cells + 5) (S1 := slots + 30) hx hb hml hT hown hG h0 hS hW (c_L_ofLine hq9 t5 t8 hg1189) ⟨rfl, rfl⟩ q723 q724 q0 q725 dd_yL_ofLine ⟨Nat.le_of_ble_eq_true rfl, Nat.le_of_ble_eq_true rfl⟩ hl.1 rfl (Nat.le_of_ble_eq_true rfl) ⟨by show cells + 5 ≤ 601024; omega, by show slots + 30 ≤ 7293034; omega⟩ dL_law_1189 (by omega) (by omega) (fun H locs hW hS => ?_)
  refine lv_istore (lv' := [(5, .int r1189.1), (0, .ref b), (1, .ref (p 5 0)), (2, .ref (p 6 0)), (3, .ref (p 8 0)), (4, .int i)]) hx hb dL_law_1192 hl (by decide) rfl (fun ls hl => ?_)
  refine lv_aload_n hx hb dL_law_1194 rfl (lv_at hl 3 rfl) ?_
  refine lv_aload_n hx hb dL_law_1195 rfl (lv_at hl 1 rfl) ?_
  refine lv_iload hx hb dL_law_1196 (lv_at hl 5 rfl) ?_
  refine lv_iconst (v := 1) hx hb dL_law_1198 (by decide) ?_
  refine lv_iadd hx hb dL_law_1199 ?_
  obtain ⟨a1200, hf⟩ := ag_n hf
  refine va_sld hx hb hX hbl hbA hS a1200 dL_law_1200 ?_
  refine lv_aload_n hx hb dL_law_1201 rfl (lv_at hl 1 rfl) ?_
  refine lv_iload hx hb dL_law_1202 (lv_at hl 5 rfl) ?_
  refine lv_iconst (v := 2) hx hb dL_law_1204 (by decide) ?_
  refine lv_iadd hx hb dL_law_1205 ?_
  obtain ⟨a1206, hf⟩ := ag_n hf
  refine va_sld hx hb hX hbl hbA hS a1206 dL_law_1206 ?_
  obtain ⟨r1207, hg1207, hf⟩ := ag_bs hf
  refine ag_cVi hx hb hml hT hown hG h0 hS hW (c_X6_ofLine t6 hg1207) ⟨rfl, rfl⟩ q1022 q1023 q1024 q11 q1025 dd_yX6_ofLine ⟨Nat.le_of_ble_eq_true rfl, Nat.le_of_ble_eq_true rfl⟩ t6 rfl rfl hl.1 rfl (Nat.le_of_ble_eq_true rfl) ⟨by show (cells + 5) + 0 ≤ 601024; omega, by show (slots + 30) + 0 ≤ 7293034; omega⟩ dL_law_1207 (fun H locs hW hS => ?_)
  refine lv_istore (lv' := [(6, .int r1207.1), (5, .int r1189.1), (0, .ref b), (1, .ref (p 5 0)), (2, .ref (p 6 0)), (3, .ref (p 8 0)), (4, .int i)]) hx hb dL_law_1210 hl (by decide) rfl (fun ls hl => ?_)
  refine lv_aload_n hx hb dL_law_1212 rfl (lv_at hl 4 rfl) ?_
  obtain ⟨r1213, hg1213, hf⟩ := ag_bs hf
  refine ag_cVi hx hb hml hT hown hG h0 hS hW (c_X6_thrown t6 hg1213) ⟨rfl, rfl⟩ q884 q885 q886 q11 q887 dd_yX6_thrown ⟨Nat.le_of_ble_eq_true rfl, Nat.le_of_ble_eq_true rfl⟩ t6 rfl rfl hl.1 rfl (Nat.le_of_ble_eq_true rfl) ⟨by show (cells + 5) + 0 ≤ 601024; omega, by show (slots + 30) + 0 ≤ 7293034; omega⟩ dL_law_1213 (fun H locs hW hS => ?_)
  refine lv_iload hx hb dL_law_1216 (lv_at hl 1 rfl) ?_
  refine lv_icmp_eq (tgt := 1223) hx hb dL_law_1218 (by decide) (fun c1218 => ?_) (fun c1218 => ?_)
  · have hf := ag_t c1218 hf
    refine lv_iload hx hb dL_law_1223 (lv_at hl 1 rfl) ?_
    refine lv_if_ne (tgt := 1240) hx hb dL_law_1225 (by decide) (fun c1225 => ?_) (fun c1225 => ?_)
    · have hf := ag_f c1225 hf
      refine lv_goto (tgt := 1572) hx hb dL_law_1240 (by decide) ?_
      refine W.widen (k := cells + 20) (n := slots + 300) (by omega) (by omega) ?_
      have e9 := Option.some.inj hf
      subst e9
      exact kk p H locs ls (ag_ext_rf _ _) (ag_le_rf _) hW hS (lv_sub hl [2, 3, 4, 5, 6] rfl)
    · have hf := ag_t c1225 hf
      refine lv_aload_n hx hb dL_law_1228 rfl (lv_at hl 5 rfl) ?_
      refine lv_iconst (v := 0) hx hb dL_law_1229 (by decide) ?_
      obtain ⟨a1230, hf⟩ := ag_n hf
      refine ag_lald hx hb hG hW t8 rfl rfl a1230 dL_law_1230 ?_
      refine lv_iload hx hb dL_law_1231 (lv_at hl 0 rfl) ?_
      refine lv_i2l hx hb dL_law_1233 rfl ?_
      refine W.lcmp hx hb dL_law_1234 ?_
      refine lv_if_eq (tgt := 1240) hx hb dL_law_1235 (by decide) (fun c1235 => ?_) (fun c1235 => ?_)
      · have hf := ag_t c1235 hf
        refine lv_goto (tgt := 1572) hx hb dL_law_1240 (by decide) ?_
        refine W.widen (k := cells + 20) (n := slots + 300) (by omega) (by omega) ?_
        have e9 := Option.some.inj hf
        subst e9
        exact kk p H locs ls (ag_ext_rf _ _) (ag_le_rf _) hW hS (lv_sub hl [2, 3, 4, 5, 6] rfl)
      · have hf := ag_f c1235 hf
        refine lv_iconst (v := 0) hx hb dL_law_1238 (by decide) ?_
        cases hf
  · have hf := ag_f c1218 hf
    refine lv_iconst (v := 0) hx hb dL_law_1221 (by decide) ?_
    cases hf
def arm16 (fu L : Nat) (xs : Nat → Int32) (i : Int32) (n : ag_N) (s : ag_S) : Option (ag_N × ag_S) := if (i + 1) < 0 ∨ L ≤ (i + 1).toNatClampNeg then none else ag_bd (f_L_standsAnew fu (xs (i + 1).toNatClampNeg) s) fun r1251 => if (i + 1) < 0 ∨ L ≤ (i + 1).toNatClampNeg then none else ag_bd (f_X6_standsAnew fu (xs (i + 1).toNatClampNeg) r1251.2) fun r1263 => ag_bd (f_X6_thrown fu r1263.2) fun r1269 => if r1269 = r1251.1 then (if r1251.1 = 0 then (if (0 : Int32) < 0 ∨ 1 ≤ (0 : Int32).toNatClampNeg then none else if lg_cmp ((r1263.2 8 0 0).toInt64) ((r1263.1 : Int32).toInt64) = 0 then (some (n, r1263.2)) else (none)) else (some (n, r1263.2))) else (none)
set_option maxHeartbeats 4000000 in
set_option maxRecDepth 100000 in
theorem ra16 {p0 : Program} {l : Launch} {e : Env} {st : State} {m : MethodId} {args : Array Value} {below : List Frame} {meth : Method} {c : Code} {H : Heap} {locs : List Loc} {cells slots : Nat} {Q : State → Prop} {ls : Array Slot} {z : ag_Z} {n : ag_N} {p : ag_P} {s : ag_S} {fu b L : Nat} {xs : Nat → Int32} {i : Int32} {out : ag_N × ag_S} (hq9 : l.stackTraces = false) (hx : p0.tables.exec = Jvm.exec) (hb : c.code = cL_law) (hml : c.maxLocals = 7) (hT : ∀ w ∈ ag_tbl, w.before args st = true) (hown : st.vm.findClass RL = some m.cls) (hG : ag_G z st st.heap) (h0 : z.2.2.1 ≤ st.heap.size) (hS : va_S (ag_A z) st.heap H locs) (hW : ag_W z n p s H) (t5 : vp_in 0 (n 5)) (t6 : vp_in 0 (n 6)) (t8 : vp_in 0 (n 8)) (hX : va_X b L xs st st.heap) (hbl : b < st.heap.size) (hbA : ¬ ag_A z b) (hl : lv_has ls 7 [(0, .ref b), (1, .ref (p 5 0)), (2, .ref (p 6 0)), (3, .ref (p 8 0)), (4, .int i)]) (hC : cells + 20 ≤ 601024) (hD : slots + 300 ≤ 7293034) (hf : arm16 fu L xs i n s = some out) (kk : ∀ (p1 : ag_P) (H1 : Heap) (locs1 : List Loc) (ls1 : Array Slot), ag_ext n p p1 → ag_le n out.1 → ag_W z out.1 p1 out.2 H1 → va_S (ag_A z) st.heap H1 locs1 → lv_has ls1 7 [(0, .ref b), (1, .ref (p1 5 0)), (2, .ref (p1 6 0)), (3, .ref (p1 8 0)), (4, .int i)] → W p0 l e room_1 st m args below meth c H1 locs1 (cells + 20) (slots + 300) Q (F0 m 1572 ls1 [])) : W p0 l e room_1 st m args below meth c H locs cells slots Q (F0 m 1243 ls []) := by
  unfold arm16 at hf
  refine lv_aload_n hx hb dL_law_1243 rfl (lv_at hl 1 rfl) ?_
  refine lv_aload_n hx hb dL_law_1244 rfl (lv_at hl 0 rfl) ?_
  refine lv_iload hx hb dL_law_1245 (lv_at hl 4 rfl) ?_
  refine lv_iconst (v := 1) hx hb dL_law_1247 (by decide) ?_
  refine lv_iadd hx hb dL_law_1248 ?_
  obtain ⟨a1249, hf⟩ := ag_n hf
  refine va_sld hx hb hX hbl hbA hS a1249 dL_law_1249 ?_
  refine lv_aload_n hx hb dL_law_1250 rfl (lv_at hl 3 rfl) ?_
  obtain ⟨r1251, hg1251, hf⟩ := ag_bs hf
  refine ag_hHi (hh := [(0, 9, 12, 23)]) (C1 := cells + 5) (S1 := slots + 30) hx hb hml hT hown hG h0 hS hW (c_L_standsAnew hq9 t5 t8 hg1251) ⟨rfl, rfl⟩ q731 q732 q0 q733 dd_yL_standsAnew ⟨Nat.le_of_ble_eq_true rfl, Nat.le_of_ble_eq_true rfl⟩ hl.1 rfl (Nat.le_of_ble_eq_true rfl) ⟨by show cells + 5 ≤ 601024; omega, by show slots + 30 ≤ 7293034; omega⟩ dL_law_1251 (by omega) (by omega) (fun H locs hW hS => ?_)
  refine lv_istore (lv' := [(5, .int r1251.1), (0, .ref b), (1, .ref (p 5 0)), (2, .ref (p 6 0)), (3, .ref (p 8 0)), (4, .int i)]) hx hb dL_law_1254 hl (by decide) rfl (fun ls hl => ?_)
  refine lv_aload_n hx hb dL_law_1256 rfl (lv_at hl 3 rfl) ?_
  refine lv_aload_n hx hb dL_law_1257 rfl (lv_at hl 1 rfl) ?_
  refine lv_iload hx hb dL_law_1258 (lv_at hl 5 rfl) ?_
  refine lv_iconst (v := 1) hx hb dL_law_1260 (by decide) ?_
  refine lv_iadd hx hb dL_law_1261 ?_
  obtain ⟨a1262, hf⟩ := ag_n hf
  refine va_sld hx hb hX hbl hbA hS a1262 dL_law_1262 ?_
  obtain ⟨r1263, hg1263, hf⟩ := ag_bs hf
  refine ag_cVi hx hb hml hT hown hG h0 hS hW (c_X6_standsAnew t6 hg1263) ⟨rfl, rfl⟩ q1026 q1027 q1028 q11 q1029 dd_yX6_standsAnew ⟨Nat.le_of_ble_eq_true rfl, Nat.le_of_ble_eq_true rfl⟩ t6 rfl rfl hl.1 rfl (Nat.le_of_ble_eq_true rfl) ⟨by show (cells + 5) + 0 ≤ 601024; omega, by show (slots + 30) + 0 ≤ 7293034; omega⟩ dL_law_1263 (fun H locs hW hS => ?_)
  refine lv_istore (lv' := [(6, .int r1263.1), (5, .int r1251.1), (0, .ref b), (1, .ref (p 5 0)), (2, .ref (p 6 0)), (3, .ref (p 8 0)), (4, .int i)]) hx hb dL_law_1266 hl (by decide) rfl (fun ls hl => ?_)
  refine lv_aload_n hx hb dL_law_1268 rfl (lv_at hl 4 rfl) ?_
  obtain ⟨r1269, hg1269, hf⟩ := ag_bs hf
  refine ag_cVi hx hb hml hT hown hG h0 hS hW (c_X6_thrown t6 hg1269) ⟨rfl, rfl⟩ q884 q885 q886 q11 q887 dd_yX6_thrown ⟨Nat.le_of_ble_eq_true rfl, Nat.le_of_ble_eq_true rfl⟩ t6 rfl rfl hl.1 rfl (Nat.le_of_ble_eq_true rfl) ⟨by show (cells + 5) + 0 ≤ 601024; omega, by show (slots + 30) + 0 ≤ 7293034; omega⟩ dL_law_1269 (fun H locs hW hS => ?_)
  refine lv_iload hx hb dL_law_1272 (lv_at hl 1 rfl) ?_
  refine lv_icmp_eq (tgt := 1279) hx hb dL_law_1274 (by decide) (fun c1274 => ?_) (fun c1274 => ?_)
  · have hf := ag_t c1274 hf
    refine lv_iload hx hb dL_law_1279 (lv_at hl 1 rfl) ?_
    refine lv_if_ne (tgt := 1296) hx hb dL_law_1281 (by decide) (fun c1281 => ?_) (fun c1281 => ?_)
    · have hf := ag_f c1281 hf
      refine lv_goto (tgt := 1572) hx hb dL_law_1296 (by decide) ?_
      refine W.widen (k := cells + 20) (n := slots + 300) (by omega) (by omega) ?_
      have e9 := Option.some.inj hf
      subst e9
      exact kk p H locs ls (ag_ext_rf _ _) (ag_le_rf _) hW hS (lv_sub hl [2, 3, 4, 5, 6] rfl)
    · have hf := ag_t c1281 hf
      refine lv_aload_n hx hb dL_law_1284 rfl (lv_at hl 5 rfl) ?_
      refine lv_iconst (v := 0) hx hb dL_law_1285 (by decide) ?_
      obtain ⟨a1286, hf⟩ := ag_n hf
      refine ag_lald hx hb hG hW t8 rfl rfl a1286 dL_law_1286 ?_
      refine lv_iload hx hb dL_law_1287 (lv_at hl 0 rfl) ?_
      refine lv_i2l hx hb dL_law_1289 rfl ?_
      refine W.lcmp hx hb dL_law_1290 ?_
      refine lv_if_eq (tgt := 1296) hx hb dL_law_1291 (by decide) (fun c1291 => ?_) (fun c1291 => ?_)
      · have hf := ag_t c1291 hf
        refine lv_goto (tgt := 1572) hx hb dL_law_1296 (by decide) ?_
        refine W.widen (k := cells + 20) (n := slots + 300) (by omega) (by omega) ?_
        have e9 := Option.some.inj hf
        subst e9
        exact kk p H locs ls (ag_ext_rf _ _) (ag_le_rf _) hW hS (lv_sub hl [2, 3, 4, 5, 6] rfl)
      · have hf := ag_f c1291 hf
        refine lv_iconst (v := 0) hx hb dL_law_1294 (by decide) ?_
        cases hf
  · have hf := ag_f c1274 hf
    refine lv_iconst (v := 0) hx hb dL_law_1277 (by decide) ?_
    cases hf
def arm17 (fu L : Nat) (xs : Nat → Int32) (i : Int32) (n : ag_N) (s : ag_S) : Option (ag_N × ag_S) := if (i + 1) < 0 ∨ L ≤ (i + 1).toNatClampNeg then none else if (i + 2) < 0 ∨ L ≤ (i + 2).toNatClampNeg then none else ag_bd (f_L_ofAmendment fu (xs (i + 1).toNatClampNeg) (xs (i + 2).toNatClampNeg) s) fun r1313 => if (i + 1) < 0 ∨ L ≤ (i + 1).toNatClampNeg then none else if (i + 2) < 0 ∨ L ≤ (i + 2).toNatClampNeg then none else ag_bd (f_X6_ofAmendment fu (xs (i + 1).toNatClampNeg) (xs (i + 2).toNatClampNeg) r1313.2) fun r1331 => ag_bd (f_X6_thrown fu r1331.2) fun r1337 => if r1337 = r1313.1 then (if r1313.1 = 0 then (if (0 : Int32) < 0 ∨ 1 ≤ (0 : Int32).toNatClampNeg then none else if lg_cmp ((r1331.2 8 0 0).toInt64) ((r1331.1 : Int32).toInt64) = 0 then (some (n, r1331.2)) else (none)) else (some (n, r1331.2))) else (none)
set_option maxHeartbeats 4000000 in
set_option maxRecDepth 100000 in
theorem ra17 {p0 : Program} {l : Launch} {e : Env} {st : State} {m : MethodId} {args : Array Value} {below : List Frame} {meth : Method} {c : Code} {H : Heap} {locs : List Loc} {cells slots : Nat} {Q : State → Prop} {ls : Array Slot} {z : ag_Z} {n : ag_N} {p : ag_P} {s : ag_S} {fu b L : Nat} {xs : Nat → Int32} {i : Int32} {out : ag_N × ag_S} (hq9 : l.stackTraces = false) (hx : p0.tables.exec = Jvm.exec) (hb : c.code = cL_law) (hml : c.maxLocals = 7) (hT : ∀ w ∈ ag_tbl, w.before args st = true) (hown : st.vm.findClass RL = some m.cls) (hG : ag_G z st st.heap) (h0 : z.2.2.1 ≤ st.heap.size) (hS : va_S (ag_A z) st.heap H locs) (hW : ag_W z n p s H) (t5 : vp_in 0 (n 5)) (t6 : vp_in 0 (n 6)) (t8 : vp_in 0 (n 8)) (hX : va_X b L xs st st.heap) (hbl : b < st.heap.size) (hbA : ¬ ag_A z b) (hl : lv_has ls 7 [(0, .ref b), (1, .ref (p 5 0)), (2, .ref (p 6 0)), (3, .ref (p 8 0)), (4, .int i)]) (hC : cells + 20 ≤ 601024) (hD : slots + 300 ≤ 7293034) (hf : arm17 fu L xs i n s = some out) (kk : ∀ (p1 : ag_P) (H1 : Heap) (locs1 : List Loc) (ls1 : Array Slot), ag_ext n p p1 → ag_le n out.1 → ag_W z out.1 p1 out.2 H1 → va_S (ag_A z) st.heap H1 locs1 → lv_has ls1 7 [(0, .ref b), (1, .ref (p1 5 0)), (2, .ref (p1 6 0)), (3, .ref (p1 8 0)), (4, .int i)] → W p0 l e room_1 st m args below meth c H1 locs1 (cells + 20) (slots + 300) Q (F0 m 1572 ls1 [])) : W p0 l e room_1 st m args below meth c H locs cells slots Q (F0 m 1299 ls []) := by
  unfold arm17 at hf
  refine lv_aload_n hx hb dL_law_1299 rfl (lv_at hl 1 rfl) ?_
  refine lv_aload_n hx hb dL_law_1300 rfl (lv_at hl 0 rfl) ?_
  refine lv_iload hx hb dL_law_1301 (lv_at hl 4 rfl) ?_
  refine lv_iconst (v := 1) hx hb dL_law_1303 (by decide) ?_
  refine lv_iadd hx hb dL_law_1304 ?_
  obtain ⟨a1305, hf⟩ := ag_n hf
  refine va_sld hx hb hX hbl hbA hS a1305 dL_law_1305 ?_
  refine lv_aload_n hx hb dL_law_1306 rfl (lv_at hl 0 rfl) ?_
  refine lv_iload hx hb dL_law_1307 (lv_at hl 4 rfl) ?_
  refine lv_iconst (v := 2) hx hb dL_law_1309 (by decide) ?_
  refine lv_iadd hx hb dL_law_1310 ?_
  obtain ⟨a1311, hf⟩ := ag_n hf
  refine va_sld hx hb hX hbl hbA hS a1311 dL_law_1311 ?_
  refine lv_aload_n hx hb dL_law_1312 rfl (lv_at hl 3 rfl) ?_
  obtain ⟨r1313, hg1313, hf⟩ := ag_bs hf
  refine ag_hHi (hh := [(0, 10, 13, 23), (0, 10, 17, 13)]) (C1 := cells + 5) (S1 := slots + 30) hx hb hml hT hown hG h0 hS hW (c_L_ofAmendment hq9 t5 t8 hg1313) ⟨rfl, rfl⟩ q742 q743 q0 q744 dd_yL_ofAmendment ⟨Nat.le_of_ble_eq_true rfl, Nat.le_of_ble_eq_true rfl⟩ hl.1 rfl (Nat.le_of_ble_eq_true rfl) ⟨by show cells + 5 ≤ 601024; omega, by show slots + 30 ≤ 7293034; omega⟩ dL_law_1313 (by omega) (by omega) (fun H locs hW hS => ?_)
  refine lv_istore (lv' := [(5, .int r1313.1), (0, .ref b), (1, .ref (p 5 0)), (2, .ref (p 6 0)), (3, .ref (p 8 0)), (4, .int i)]) hx hb dL_law_1316 hl (by decide) rfl (fun ls hl => ?_)
  refine lv_aload_n hx hb dL_law_1318 rfl (lv_at hl 3 rfl) ?_
  refine lv_aload_n hx hb dL_law_1319 rfl (lv_at hl 1 rfl) ?_
  refine lv_iload hx hb dL_law_1320 (lv_at hl 5 rfl) ?_
  refine lv_iconst (v := 1) hx hb dL_law_1322 (by decide) ?_
  refine lv_iadd hx hb dL_law_1323 ?_
  obtain ⟨a1324, hf⟩ := ag_n hf
  refine va_sld hx hb hX hbl hbA hS a1324 dL_law_1324 ?_
  refine lv_aload_n hx hb dL_law_1325 rfl (lv_at hl 1 rfl) ?_
  refine lv_iload hx hb dL_law_1326 (lv_at hl 5 rfl) ?_
  refine lv_iconst (v := 2) hx hb dL_law_1328 (by decide) ?_
  refine lv_iadd hx hb dL_law_1329 ?_
  obtain ⟨a1330, hf⟩ := ag_n hf
  refine va_sld hx hb hX hbl hbA hS a1330 dL_law_1330 ?_
  obtain ⟨r1331, hg1331, hf⟩ := ag_bs hf
  refine ag_cVi hx hb hml hT hown hG h0 hS hW (c_X6_ofAmendment t6 hg1331) ⟨rfl, rfl⟩ q1030 q1031 q1032 q11 q1033 dd_yX6_ofAmendment ⟨Nat.le_of_ble_eq_true rfl, Nat.le_of_ble_eq_true rfl⟩ t6 rfl rfl hl.1 rfl (Nat.le_of_ble_eq_true rfl) ⟨by show (cells + 5) + 0 ≤ 601024; omega, by show (slots + 30) + 0 ≤ 7293034; omega⟩ dL_law_1331 (fun H locs hW hS => ?_)
  refine lv_istore (lv' := [(6, .int r1331.1), (5, .int r1313.1), (0, .ref b), (1, .ref (p 5 0)), (2, .ref (p 6 0)), (3, .ref (p 8 0)), (4, .int i)]) hx hb dL_law_1334 hl (by decide) rfl (fun ls hl => ?_)
  refine lv_aload_n hx hb dL_law_1336 rfl (lv_at hl 4 rfl) ?_
  obtain ⟨r1337, hg1337, hf⟩ := ag_bs hf
  refine ag_cVi hx hb hml hT hown hG h0 hS hW (c_X6_thrown t6 hg1337) ⟨rfl, rfl⟩ q884 q885 q886 q11 q887 dd_yX6_thrown ⟨Nat.le_of_ble_eq_true rfl, Nat.le_of_ble_eq_true rfl⟩ t6 rfl rfl hl.1 rfl (Nat.le_of_ble_eq_true rfl) ⟨by show (cells + 5) + 0 ≤ 601024; omega, by show (slots + 30) + 0 ≤ 7293034; omega⟩ dL_law_1337 (fun H locs hW hS => ?_)
  refine lv_iload hx hb dL_law_1340 (lv_at hl 1 rfl) ?_
  refine lv_icmp_eq (tgt := 1347) hx hb dL_law_1342 (by decide) (fun c1342 => ?_) (fun c1342 => ?_)
  · have hf := ag_t c1342 hf
    refine lv_iload hx hb dL_law_1347 (lv_at hl 1 rfl) ?_
    refine lv_if_ne (tgt := 1364) hx hb dL_law_1349 (by decide) (fun c1349 => ?_) (fun c1349 => ?_)
    · have hf := ag_f c1349 hf
      refine lv_goto (tgt := 1572) hx hb dL_law_1364 (by decide) ?_
      refine W.widen (k := cells + 20) (n := slots + 300) (by omega) (by omega) ?_
      have e9 := Option.some.inj hf
      subst e9
      exact kk p H locs ls (ag_ext_rf _ _) (ag_le_rf _) hW hS (lv_sub hl [2, 3, 4, 5, 6] rfl)
    · have hf := ag_t c1349 hf
      refine lv_aload_n hx hb dL_law_1352 rfl (lv_at hl 5 rfl) ?_
      refine lv_iconst (v := 0) hx hb dL_law_1353 (by decide) ?_
      obtain ⟨a1354, hf⟩ := ag_n hf
      refine ag_lald hx hb hG hW t8 rfl rfl a1354 dL_law_1354 ?_
      refine lv_iload hx hb dL_law_1355 (lv_at hl 0 rfl) ?_
      refine lv_i2l hx hb dL_law_1357 rfl ?_
      refine W.lcmp hx hb dL_law_1358 ?_
      refine lv_if_eq (tgt := 1364) hx hb dL_law_1359 (by decide) (fun c1359 => ?_) (fun c1359 => ?_)
      · have hf := ag_t c1359 hf
        refine lv_goto (tgt := 1572) hx hb dL_law_1364 (by decide) ?_
        refine W.widen (k := cells + 20) (n := slots + 300) (by omega) (by omega) ?_
        have e9 := Option.some.inj hf
        subst e9
        exact kk p H locs ls (ag_ext_rf _ _) (ag_le_rf _) hW hS (lv_sub hl [2, 3, 4, 5, 6] rfl)
      · have hf := ag_f c1359 hf
        refine lv_iconst (v := 0) hx hb dL_law_1362 (by decide) ?_
        cases hf
  · have hf := ag_f c1342 hf
    refine lv_iconst (v := 0) hx hb dL_law_1345 (by decide) ?_
    cases hf
def arm18 (fu L : Nat) (xs : Nat → Int32) (i : Int32) (n : ag_N) (s : ag_S) : Option (ag_N × ag_S) := if (i + 1) < 0 ∨ L ≤ (i + 1).toNatClampNeg then none else if (i + 2) < 0 ∨ L ≤ (i + 2).toNatClampNeg then none else ag_bd (f_L_ofGrant fu (xs (i + 1).toNatClampNeg) (xs (i + 2).toNatClampNeg) s) fun r1381 => if (i + 1) < 0 ∨ L ≤ (i + 1).toNatClampNeg then none else if (i + 2) < 0 ∨ L ≤ (i + 2).toNatClampNeg then none else ag_bd (f_X6_ofGrant fu (xs (i + 1).toNatClampNeg) (xs (i + 2).toNatClampNeg) r1381.2) fun r1399 => ag_bd (f_X6_thrown fu r1399.2) fun r1405 => if r1405 = r1381.1 then (if r1381.1 = 0 then (if (0 : Int32) < 0 ∨ 1 ≤ (0 : Int32).toNatClampNeg then none else if lg_cmp ((r1399.2 8 0 0).toInt64) ((r1399.1 : Int32).toInt64) = 0 then (some (n, r1399.2)) else (none)) else (some (n, r1399.2))) else (none)
set_option maxHeartbeats 4000000 in
set_option maxRecDepth 100000 in
theorem ra18 {p0 : Program} {l : Launch} {e : Env} {st : State} {m : MethodId} {args : Array Value} {below : List Frame} {meth : Method} {c : Code} {H : Heap} {locs : List Loc} {cells slots : Nat} {Q : State → Prop} {ls : Array Slot} {z : ag_Z} {n : ag_N} {p : ag_P} {s : ag_S} {fu b L : Nat} {xs : Nat → Int32} {i : Int32} {out : ag_N × ag_S} (hq9 : l.stackTraces = false) (hx : p0.tables.exec = Jvm.exec) (hb : c.code = cL_law) (hml : c.maxLocals = 7) (hT : ∀ w ∈ ag_tbl, w.before args st = true) (hown : st.vm.findClass RL = some m.cls) (hG : ag_G z st st.heap) (h0 : z.2.2.1 ≤ st.heap.size) (hS : va_S (ag_A z) st.heap H locs) (hW : ag_W z n p s H) (t5 : vp_in 0 (n 5)) (t6 : vp_in 0 (n 6)) (t8 : vp_in 0 (n 8)) (hX : va_X b L xs st st.heap) (hbl : b < st.heap.size) (hbA : ¬ ag_A z b) (hl : lv_has ls 7 [(0, .ref b), (1, .ref (p 5 0)), (2, .ref (p 6 0)), (3, .ref (p 8 0)), (4, .int i)]) (hC : cells + 20 ≤ 601024) (hD : slots + 300 ≤ 7293034) (hf : arm18 fu L xs i n s = some out) (kk : ∀ (p1 : ag_P) (H1 : Heap) (locs1 : List Loc) (ls1 : Array Slot), ag_ext n p p1 → ag_le n out.1 → ag_W z out.1 p1 out.2 H1 → va_S (ag_A z) st.heap H1 locs1 → lv_has ls1 7 [(0, .ref b), (1, .ref (p1 5 0)), (2, .ref (p1 6 0)), (3, .ref (p1 8 0)), (4, .int i)] → W p0 l e room_1 st m args below meth c H1 locs1 (cells + 20) (slots + 300) Q (F0 m 1572 ls1 [])) : W p0 l e room_1 st m args below meth c H locs cells slots Q (F0 m 1367 ls []) := by
  unfold arm18 at hf
  refine lv_aload_n hx hb dL_law_1367 rfl (lv_at hl 1 rfl) ?_
  refine lv_aload_n hx hb dL_law_1368 rfl (lv_at hl 0 rfl) ?_
  refine lv_iload hx hb dL_law_1369 (lv_at hl 4 rfl) ?_
  refine lv_iconst (v := 1) hx hb dL_law_1371 (by decide) ?_
  refine lv_iadd hx hb dL_law_1372 ?_
  obtain ⟨a1373, hf⟩ := ag_n hf
  refine va_sld hx hb hX hbl hbA hS a1373 dL_law_1373 ?_
  refine lv_aload_n hx hb dL_law_1374 rfl (lv_at hl 0 rfl) ?_
  refine lv_iload hx hb dL_law_1375 (lv_at hl 4 rfl) ?_
  refine lv_iconst (v := 2) hx hb dL_law_1377 (by decide) ?_
  refine lv_iadd hx hb dL_law_1378 ?_
  obtain ⟨a1379, hf⟩ := ag_n hf
  refine va_sld hx hb hX hbl hbA hS a1379 dL_law_1379 ?_
  refine lv_aload_n hx hb dL_law_1380 rfl (lv_at hl 3 rfl) ?_
  obtain ⟨r1381, hg1381, hf⟩ := ag_bs hf
  refine ag_hHi (hh := [(0, 10, 13, 23), (0, 10, 17, 13)]) (C1 := cells + 5) (S1 := slots + 30) hx hb hml hT hown hG h0 hS hW (c_L_ofGrant hq9 t5 t8 hg1381) ⟨rfl, rfl⟩ q757 q758 q0 q759 dd_yL_ofGrant ⟨Nat.le_of_ble_eq_true rfl, Nat.le_of_ble_eq_true rfl⟩ hl.1 rfl (Nat.le_of_ble_eq_true rfl) ⟨by show cells + 5 ≤ 601024; omega, by show slots + 30 ≤ 7293034; omega⟩ dL_law_1381 (by omega) (by omega) (fun H locs hW hS => ?_)
  refine lv_istore (lv' := [(5, .int r1381.1), (0, .ref b), (1, .ref (p 5 0)), (2, .ref (p 6 0)), (3, .ref (p 8 0)), (4, .int i)]) hx hb dL_law_1384 hl (by decide) rfl (fun ls hl => ?_)
  refine lv_aload_n hx hb dL_law_1386 rfl (lv_at hl 3 rfl) ?_
  refine lv_aload_n hx hb dL_law_1387 rfl (lv_at hl 1 rfl) ?_
  refine lv_iload hx hb dL_law_1388 (lv_at hl 5 rfl) ?_
  refine lv_iconst (v := 1) hx hb dL_law_1390 (by decide) ?_
  refine lv_iadd hx hb dL_law_1391 ?_
  obtain ⟨a1392, hf⟩ := ag_n hf
  refine va_sld hx hb hX hbl hbA hS a1392 dL_law_1392 ?_
  refine lv_aload_n hx hb dL_law_1393 rfl (lv_at hl 1 rfl) ?_
  refine lv_iload hx hb dL_law_1394 (lv_at hl 5 rfl) ?_
  refine lv_iconst (v := 2) hx hb dL_law_1396 (by decide) ?_
  refine lv_iadd hx hb dL_law_1397 ?_
  obtain ⟨a1398, hf⟩ := ag_n hf
  refine va_sld hx hb hX hbl hbA hS a1398 dL_law_1398 ?_
  obtain ⟨r1399, hg1399, hf⟩ := ag_bs hf
  refine ag_cVi hx hb hml hT hown hG h0 hS hW (c_X6_ofGrant t6 hg1399) ⟨rfl, rfl⟩ q1038 q1039 q1040 q11 q1041 dd_yX6_ofGrant ⟨Nat.le_of_ble_eq_true rfl, Nat.le_of_ble_eq_true rfl⟩ t6 rfl rfl hl.1 rfl (Nat.le_of_ble_eq_true rfl) ⟨by show (cells + 5) + 0 ≤ 601024; omega, by show (slots + 30) + 0 ≤ 7293034; omega⟩ dL_law_1399 (fun H locs hW hS => ?_)
  refine lv_istore (lv' := [(6, .int r1399.1), (5, .int r1381.1), (0, .ref b), (1, .ref (p 5 0)), (2, .ref (p 6 0)), (3, .ref (p 8 0)), (4, .int i)]) hx hb dL_law_1402 hl (by decide) rfl (fun ls hl => ?_)
  refine lv_aload_n hx hb dL_law_1404 rfl (lv_at hl 4 rfl) ?_
  obtain ⟨r1405, hg1405, hf⟩ := ag_bs hf
  refine ag_cVi hx hb hml hT hown hG h0 hS hW (c_X6_thrown t6 hg1405) ⟨rfl, rfl⟩ q884 q885 q886 q11 q887 dd_yX6_thrown ⟨Nat.le_of_ble_eq_true rfl, Nat.le_of_ble_eq_true rfl⟩ t6 rfl rfl hl.1 rfl (Nat.le_of_ble_eq_true rfl) ⟨by show (cells + 5) + 0 ≤ 601024; omega, by show (slots + 30) + 0 ≤ 7293034; omega⟩ dL_law_1405 (fun H locs hW hS => ?_)
  refine lv_iload hx hb dL_law_1408 (lv_at hl 1 rfl) ?_
  refine lv_icmp_eq (tgt := 1415) hx hb dL_law_1410 (by decide) (fun c1410 => ?_) (fun c1410 => ?_)
  · have hf := ag_t c1410 hf
    refine lv_iload hx hb dL_law_1415 (lv_at hl 1 rfl) ?_
    refine lv_if_ne (tgt := 1432) hx hb dL_law_1417 (by decide) (fun c1417 => ?_) (fun c1417 => ?_)
    · have hf := ag_f c1417 hf
      refine lv_goto (tgt := 1572) hx hb dL_law_1432 (by decide) ?_
      refine W.widen (k := cells + 20) (n := slots + 300) (by omega) (by omega) ?_
      have e9 := Option.some.inj hf
      subst e9
      exact kk p H locs ls (ag_ext_rf _ _) (ag_le_rf _) hW hS (lv_sub hl [2, 3, 4, 5, 6] rfl)
    · have hf := ag_t c1417 hf
      refine lv_aload_n hx hb dL_law_1420 rfl (lv_at hl 5 rfl) ?_
      refine lv_iconst (v := 0) hx hb dL_law_1421 (by decide) ?_
      obtain ⟨a1422, hf⟩ := ag_n hf
      refine ag_lald hx hb hG hW t8 rfl rfl a1422 dL_law_1422 ?_
      refine lv_iload hx hb dL_law_1423 (lv_at hl 0 rfl) ?_
      refine lv_i2l hx hb dL_law_1425 rfl ?_
      refine W.lcmp hx hb dL_law_1426 ?_
      refine lv_if_eq (tgt := 1432) hx hb dL_law_1427 (by decide) (fun c1427 => ?_) (fun c1427 => ?_)
      · have hf := ag_t c1427 hf
        refine lv_goto (tgt := 1572) hx hb dL_law_1432 (by decide) ?_
        refine W.widen (k := cells + 20) (n := slots + 300) (by omega) (by omega) ?_
        have e9 := Option.some.inj hf
        subst e9
        exact kk p H locs ls (ag_ext_rf _ _) (ag_le_rf _) hW hS (lv_sub hl [2, 3, 4, 5, 6] rfl)
      · have hf := ag_f c1427 hf
        refine lv_iconst (v := 0) hx hb dL_law_1430 (by decide) ?_
        cases hf
  · have hf := ag_f c1410 hf
    refine lv_iconst (v := 0) hx hb dL_law_1413 (by decide) ?_
    cases hf
def arm19 (fu L : Nat) (xs : Nat → Int32) (i : Int32) (n : ag_N) (s : ag_S) : Option (ag_N × ag_S) := if (i + 1) < 0 ∨ L ≤ (i + 1).toNatClampNeg then none else ag_bd (f_L_owes fu (xs (i + 1).toNatClampNeg) s) fun r1443 => if (i + 1) < 0 ∨ L ≤ (i + 1).toNatClampNeg then none else ag_bd (f_X6_owes fu (xs (i + 1).toNatClampNeg) r1443.2) fun r1455 => ag_bd (f_X6_thrown fu r1455.2) fun r1461 => if r1461 = r1443.1 then (if r1443.1 = 0 then (if (0 : Int32) < 0 ∨ 1 ≤ (0 : Int32).toNatClampNeg then none else if lg_cmp ((r1455.2 8 0 0).toInt64) ((r1455.1 : Int32).toInt64) = 0 then (some (n, r1455.2)) else (none)) else (some (n, r1455.2))) else (none)
set_option maxHeartbeats 4000000 in
set_option maxRecDepth 100000 in
theorem ra19 {p0 : Program} {l : Launch} {e : Env} {st : State} {m : MethodId} {args : Array Value} {below : List Frame} {meth : Method} {c : Code} {H : Heap} {locs : List Loc} {cells slots : Nat} {Q : State → Prop} {ls : Array Slot} {z : ag_Z} {n : ag_N} {p : ag_P} {s : ag_S} {fu b L : Nat} {xs : Nat → Int32} {i : Int32} {out : ag_N × ag_S} (hq9 : l.stackTraces = false) (hx : p0.tables.exec = Jvm.exec) (hb : c.code = cL_law) (hml : c.maxLocals = 7) (hT : ∀ w ∈ ag_tbl, w.before args st = true) (hown : st.vm.findClass RL = some m.cls) (hG : ag_G z st st.heap) (h0 : z.2.2.1 ≤ st.heap.size) (hS : va_S (ag_A z) st.heap H locs) (hW : ag_W z n p s H) (t5 : vp_in 0 (n 5)) (t6 : vp_in 0 (n 6)) (t8 : vp_in 0 (n 8)) (hX : va_X b L xs st st.heap) (hbl : b < st.heap.size) (hbA : ¬ ag_A z b) (hl : lv_has ls 7 [(0, .ref b), (1, .ref (p 5 0)), (2, .ref (p 6 0)), (3, .ref (p 8 0)), (4, .int i)]) (hC : cells + 20 ≤ 601024) (hD : slots + 300 ≤ 7293034) (hf : arm19 fu L xs i n s = some out) (kk : ∀ (p1 : ag_P) (H1 : Heap) (locs1 : List Loc) (ls1 : Array Slot), ag_ext n p p1 → ag_le n out.1 → ag_W z out.1 p1 out.2 H1 → va_S (ag_A z) st.heap H1 locs1 → lv_has ls1 7 [(0, .ref b), (1, .ref (p1 5 0)), (2, .ref (p1 6 0)), (3, .ref (p1 8 0)), (4, .int i)] → W p0 l e room_1 st m args below meth c H1 locs1 (cells + 20) (slots + 300) Q (F0 m 1572 ls1 [])) : W p0 l e room_1 st m args below meth c H locs cells slots Q (F0 m 1435 ls []) := by
  unfold arm19 at hf
  refine lv_aload_n hx hb dL_law_1435 rfl (lv_at hl 1 rfl) ?_
  refine lv_aload_n hx hb dL_law_1436 rfl (lv_at hl 0 rfl) ?_
  refine lv_iload hx hb dL_law_1437 (lv_at hl 4 rfl) ?_
  refine lv_iconst (v := 1) hx hb dL_law_1439 (by decide) ?_
  refine lv_iadd hx hb dL_law_1440 ?_
  obtain ⟨a1441, hf⟩ := ag_n hf
  refine va_sld hx hb hX hbl hbA hS a1441 dL_law_1441 ?_
  refine lv_aload_n hx hb dL_law_1442 rfl (lv_at hl 3 rfl) ?_
  obtain ⟨r1443, hg1443, hf⟩ := ag_bs hf
  refine ag_hHi (hh := [(0, 9, 12, 23)]) (C1 := cells + 5) (S1 := slots + 30) hx hb hml hT hown hG h0 hS hW (c_L_owes hq9 t5 t8 hg1443) ⟨rfl, rfl⟩ q764 q765 q0 q766 dd_yL_owes ⟨Nat.le_of_ble_eq_true rfl, Nat.le_of_ble_eq_true rfl⟩ hl.1 rfl (Nat.le_of_ble_eq_true rfl) ⟨by show cells + 5 ≤ 601024; omega, by show slots + 30 ≤ 7293034; omega⟩ dL_law_1443 (by omega) (by omega) (fun H locs hW hS => ?_)
  refine lv_istore (lv' := [(5, .int r1443.1), (0, .ref b), (1, .ref (p 5 0)), (2, .ref (p 6 0)), (3, .ref (p 8 0)), (4, .int i)]) hx hb dL_law_1446 hl (by decide) rfl (fun ls hl => ?_)
  refine lv_aload_n hx hb dL_law_1448 rfl (lv_at hl 3 rfl) ?_
  refine lv_aload_n hx hb dL_law_1449 rfl (lv_at hl 1 rfl) ?_
  refine lv_iload hx hb dL_law_1450 (lv_at hl 5 rfl) ?_
  refine lv_iconst (v := 1) hx hb dL_law_1452 (by decide) ?_
  refine lv_iadd hx hb dL_law_1453 ?_
  obtain ⟨a1454, hf⟩ := ag_n hf
  refine va_sld hx hb hX hbl hbA hS a1454 dL_law_1454 ?_
  obtain ⟨r1455, hg1455, hf⟩ := ag_bs hf
  refine ag_cVi hx hb hml hT hown hG h0 hS hW (c_X6_owes t6 hg1455) ⟨rfl, rfl⟩ q1042 q1043 q1044 q11 q1045 dd_yX6_owes ⟨Nat.le_of_ble_eq_true rfl, Nat.le_of_ble_eq_true rfl⟩ t6 rfl rfl hl.1 rfl (Nat.le_of_ble_eq_true rfl) ⟨by show (cells + 5) + 0 ≤ 601024; omega, by show (slots + 30) + 0 ≤ 7293034; omega⟩ dL_law_1455 (fun H locs hW hS => ?_)
  refine lv_istore (lv' := [(6, .int r1455.1), (5, .int r1443.1), (0, .ref b), (1, .ref (p 5 0)), (2, .ref (p 6 0)), (3, .ref (p 8 0)), (4, .int i)]) hx hb dL_law_1458 hl (by decide) rfl (fun ls hl => ?_)
  refine lv_aload_n hx hb dL_law_1460 rfl (lv_at hl 4 rfl) ?_
  obtain ⟨r1461, hg1461, hf⟩ := ag_bs hf
  refine ag_cVi hx hb hml hT hown hG h0 hS hW (c_X6_thrown t6 hg1461) ⟨rfl, rfl⟩ q884 q885 q886 q11 q887 dd_yX6_thrown ⟨Nat.le_of_ble_eq_true rfl, Nat.le_of_ble_eq_true rfl⟩ t6 rfl rfl hl.1 rfl (Nat.le_of_ble_eq_true rfl) ⟨by show (cells + 5) + 0 ≤ 601024; omega, by show (slots + 30) + 0 ≤ 7293034; omega⟩ dL_law_1461 (fun H locs hW hS => ?_)
  refine lv_iload hx hb dL_law_1464 (lv_at hl 1 rfl) ?_
  refine lv_icmp_eq (tgt := 1471) hx hb dL_law_1466 (by decide) (fun c1466 => ?_) (fun c1466 => ?_)
  · have hf := ag_t c1466 hf
    refine lv_iload hx hb dL_law_1471 (lv_at hl 1 rfl) ?_
    refine lv_if_ne (tgt := 1488) hx hb dL_law_1473 (by decide) (fun c1473 => ?_) (fun c1473 => ?_)
    · have hf := ag_f c1473 hf
      refine lv_goto (tgt := 1572) hx hb dL_law_1488 (by decide) ?_
      refine W.widen (k := cells + 20) (n := slots + 300) (by omega) (by omega) ?_
      have e9 := Option.some.inj hf
      subst e9
      exact kk p H locs ls (ag_ext_rf _ _) (ag_le_rf _) hW hS (lv_sub hl [2, 3, 4, 5, 6] rfl)
    · have hf := ag_t c1473 hf
      refine lv_aload_n hx hb dL_law_1476 rfl (lv_at hl 5 rfl) ?_
      refine lv_iconst (v := 0) hx hb dL_law_1477 (by decide) ?_
      obtain ⟨a1478, hf⟩ := ag_n hf
      refine ag_lald hx hb hG hW t8 rfl rfl a1478 dL_law_1478 ?_
      refine lv_iload hx hb dL_law_1479 (lv_at hl 0 rfl) ?_
      refine lv_i2l hx hb dL_law_1481 rfl ?_
      refine W.lcmp hx hb dL_law_1482 ?_
      refine lv_if_eq (tgt := 1488) hx hb dL_law_1483 (by decide) (fun c1483 => ?_) (fun c1483 => ?_)
      · have hf := ag_t c1483 hf
        refine lv_goto (tgt := 1572) hx hb dL_law_1488 (by decide) ?_
        refine W.widen (k := cells + 20) (n := slots + 300) (by omega) (by omega) ?_
        have e9 := Option.some.inj hf
        subst e9
        exact kk p H locs ls (ag_ext_rf _ _) (ag_le_rf _) hW hS (lv_sub hl [2, 3, 4, 5, 6] rfl)
      · have hf := ag_f c1483 hf
        refine lv_iconst (v := 0) hx hb dL_law_1486 (by decide) ?_
        cases hf
  · have hf := ag_f c1466 hf
    refine lv_iconst (v := 0) hx hb dL_law_1469 (by decide) ?_
    cases hf
def arm20 (fu L : Nat) (xs : Nat → Int32) (i : Int32) (n : ag_N) (s : ag_S) : Option (ag_N × ag_S) := ag_bd (f_X5_reserve fu s) fun r1492 => ag_bd (f_X6_reserve fu s) fun r1496 => if r1492 = r1496.1 then (some (n, r1496.2)) else (none)
set_option maxHeartbeats 4000000 in
set_option maxRecDepth 100000 in
theorem ra20 {p0 : Program} {l : Launch} {e : Env} {st : State} {m : MethodId} {args : Array Value} {below : List Frame} {meth : Method} {c : Code} {H : Heap} {locs : List Loc} {cells slots : Nat} {Q : State → Prop} {ls : Array Slot} {z : ag_Z} {n : ag_N} {p : ag_P} {s : ag_S} {fu b L : Nat} {xs : Nat → Int32} {i : Int32} {out : ag_N × ag_S} (hq9 : l.stackTraces = false) (hx : p0.tables.exec = Jvm.exec) (hb : c.code = cL_law) (hml : c.maxLocals = 7) (hT : ∀ w ∈ ag_tbl, w.before args st = true) (hown : st.vm.findClass RL = some m.cls) (hG : ag_G z st st.heap) (h0 : z.2.2.1 ≤ st.heap.size) (hS : va_S (ag_A z) st.heap H locs) (hW : ag_W z n p s H) (t5 : vp_in 0 (n 5)) (t6 : vp_in 0 (n 6)) (t8 : vp_in 0 (n 8)) (hX : va_X b L xs st st.heap) (hbl : b < st.heap.size) (hbA : ¬ ag_A z b) (hl : lv_has ls 7 [(0, .ref b), (1, .ref (p 5 0)), (2, .ref (p 6 0)), (3, .ref (p 8 0)), (4, .int i)]) (hC : cells + 20 ≤ 601024) (hD : slots + 300 ≤ 7293034) (hf : arm20 fu L xs i n s = some out) (kk : ∀ (p1 : ag_P) (H1 : Heap) (locs1 : List Loc) (ls1 : Array Slot), ag_ext n p p1 → ag_le n out.1 → ag_W z out.1 p1 out.2 H1 → va_S (ag_A z) st.heap H1 locs1 → lv_has ls1 7 [(0, .ref b), (1, .ref (p1 5 0)), (2, .ref (p1 6 0)), (3, .ref (p1 8 0)), (4, .int i)] → W p0 l e room_1 st m args below meth c H1 locs1 (cells + 20) (slots + 300) Q (F0 m 1572 ls1 [])) : W p0 l e room_1 st m args below meth c H locs cells slots Q (F0 m 1491 ls []) := by
  unfold arm20 at hf
  refine lv_aload_n hx hb dL_law_1491 rfl (lv_at hl 1 rfl) ?_
  obtain ⟨r1492, hg1492, hf⟩ := ag_bs hf
  refine ag_cVi hx hb hml hT hown hG h0 hS hW (c_X5_reserve t5 hg1492) ⟨rfl, rfl⟩ q176 q177 q178 q1 q179 dd_yX5_reserve ⟨Nat.le_of_ble_eq_true rfl, Nat.le_of_ble_eq_true rfl⟩ t5 rfl rfl hl.1 rfl (Nat.le_of_ble_eq_true rfl) ⟨by show cells + 0 ≤ 601024; omega, by show slots + 0 ≤ 7293034; omega⟩ dL_law_1492 (fun H locs hW hS => ?_)
  refine lv_aload_n hx hb dL_law_1495 rfl (lv_at hl 2 rfl) ?_
  obtain ⟨r1496, hg1496, hf⟩ := ag_bs hf
  refine ag_cVi hx hb hml hT hown hG h0 hS hW (c_X6_reserve t6 hg1496) ⟨rfl, rfl⟩ q1046 q1047 q1048 q11 q1049 dd_yX6_reserve ⟨Nat.le_of_ble_eq_true rfl, Nat.le_of_ble_eq_true rfl⟩ t6 rfl rfl hl.1 rfl (Nat.le_of_ble_eq_true rfl) ⟨by show cells + 0 ≤ 601024; omega, by show slots + 0 ≤ 7293034; omega⟩ dL_law_1496 (fun H locs hW hS => ?_)
  refine lv_icmp_eq (tgt := 1572) hx hb dL_law_1499 (by decide) (fun c1499 => ?_) (fun c1499 => ?_)
  · have hf := ag_t c1499 hf
    refine W.widen (k := cells + 20) (n := slots + 300) (by omega) (by omega) ?_
    have e9 := Option.some.inj hf
    subst e9
    exact kk p H locs ls (ag_ext_rf _ _) (ag_le_rf _) hW hS (lv_sub hl [0, 1, 2, 3, 4] rfl)
  · have hf := ag_f c1499 hf
    refine lv_iconst (v := 0) hx hb dL_law_1502 (by decide) ?_
    cases hf
def arm21 (fu L : Nat) (xs : Nat → Int32) (i : Int32) (n : ag_N) (s : ag_S) : Option (ag_N × ag_S) := if (i + 1) < 0 ∨ L ≤ (i + 1).toNatClampNeg then none else if (i + 2) < 0 ∨ L ≤ (i + 2).toNatClampNeg then none else ag_bd (f_L_ofSource fu (xs (i + 1).toNatClampNeg) (xs (i + 2).toNatClampNeg) s) fun r1518 => if (i + 1) < 0 ∨ L ≤ (i + 1).toNatClampNeg then none else if (i + 2) < 0 ∨ L ≤ (i + 2).toNatClampNeg then none else ag_bd (f_X6_ofSource fu (xs (i + 1).toNatClampNeg) (xs (i + 2).toNatClampNeg) r1518.2) fun r1536 => ag_bd (f_X6_thrown fu r1536.2) fun r1542 => if r1542 = r1518.1 then (if r1518.1 = 0 then (if (0 : Int32) < 0 ∨ 1 ≤ (0 : Int32).toNatClampNeg then none else if lg_cmp ((r1536.2 8 0 0).toInt64) ((r1536.1 : Int32).toInt64) = 0 then (some (n, r1536.2)) else (none)) else (some (n, r1536.2))) else (none)
set_option maxHeartbeats 4000000 in
set_option maxRecDepth 100000 in
theorem ra21 {p0 : Program} {l : Launch} {e : Env} {st : State} {m : MethodId} {args : Array Value} {below : List Frame} {meth : Method} {c : Code} {H : Heap} {locs : List Loc} {cells slots : Nat} {Q : State → Prop} {ls : Array Slot} {z : ag_Z} {n : ag_N} {p : ag_P} {s : ag_S} {fu b L : Nat} {xs : Nat → Int32} {i : Int32} {out : ag_N × ag_S} (hq9 : l.stackTraces = false) (hx : p0.tables.exec = Jvm.exec) (hb : c.code = cL_law) (hml : c.maxLocals = 7) (hT : ∀ w ∈ ag_tbl, w.before args st = true) (hown : st.vm.findClass RL = some m.cls) (hG : ag_G z st st.heap) (h0 : z.2.2.1 ≤ st.heap.size) (hS : va_S (ag_A z) st.heap H locs) (hW : ag_W z n p s H) (t5 : vp_in 0 (n 5)) (t6 : vp_in 0 (n 6)) (t8 : vp_in 0 (n 8)) (hX : va_X b L xs st st.heap) (hbl : b < st.heap.size) (hbA : ¬ ag_A z b) (hl : lv_has ls 7 [(0, .ref b), (1, .ref (p 5 0)), (2, .ref (p 6 0)), (3, .ref (p 8 0)), (4, .int i)]) (hC : cells + 20 ≤ 601024) (hD : slots + 300 ≤ 7293034) (hf : arm21 fu L xs i n s = some out) (kk : ∀ (p1 : ag_P) (H1 : Heap) (locs1 : List Loc) (ls1 : Array Slot), ag_ext n p p1 → ag_le n out.1 → ag_W z out.1 p1 out.2 H1 → va_S (ag_A z) st.heap H1 locs1 → lv_has ls1 7 [(0, .ref b), (1, .ref (p1 5 0)), (2, .ref (p1 6 0)), (3, .ref (p1 8 0)), (4, .int i)] → W p0 l e room_1 st m args below meth c H1 locs1 (cells + 20) (slots + 300) Q (F0 m 1572 ls1 [])) : W p0 l e room_1 st m args below meth c H locs cells slots Q (F0 m 1504 ls []) := by
  unfold arm21 at hf
  refine lv_aload_n hx hb dL_law_1504 rfl (lv_at hl 1 rfl) ?_
  refine lv_aload_n hx hb dL_law_1505 rfl (lv_at hl 0 rfl) ?_
  refine lv_iload hx hb dL_law_1506 (lv_at hl 4 rfl) ?_
  refine lv_iconst (v := 1) hx hb dL_law_1508 (by decide) ?_
  refine lv_iadd hx hb dL_law_1509 ?_
  obtain ⟨a1510, hf⟩ := ag_n hf
  refine va_sld hx hb hX hbl hbA hS a1510 dL_law_1510 ?_
  refine lv_aload_n hx hb dL_law_1511 rfl (lv_at hl 0 rfl) ?_
  refine lv_iload hx hb dL_law_1512 (lv_at hl 4 rfl) ?_
  refine lv_iconst (v := 2) hx hb dL_law_1514 (by decide) ?_
  refine lv_iadd hx hb dL_law_1515 ?_
  obtain ⟨a1516, hf⟩ := ag_n hf
  refine va_sld hx hb hX hbl hbA hS a1516 dL_law_1516 ?_
  refine lv_aload_n hx hb dL_law_1517 rfl (lv_at hl 3 rfl) ?_
  obtain ⟨r1518, hg1518, hf⟩ := ag_bs hf
  refine ag_hHi (hh := [(0, 10, 13, 13)]) (C1 := cells + 5) (S1 := slots + 30) hx hb hml hT hown hG h0 hS hW (c_L_ofSource hq9 t5 t8 hg1518) ⟨rfl, rfl⟩ q771 q772 q0 q773 dd_yL_ofSource ⟨Nat.le_of_ble_eq_true rfl, Nat.le_of_ble_eq_true rfl⟩ hl.1 rfl (Nat.le_of_ble_eq_true rfl) ⟨by show cells + 5 ≤ 601024; omega, by show slots + 30 ≤ 7293034; omega⟩ dL_law_1518 (by omega) (by omega) (fun H locs hW hS => ?_)
  refine lv_istore (lv' := [(5, .int r1518.1), (0, .ref b), (1, .ref (p 5 0)), (2, .ref (p 6 0)), (3, .ref (p 8 0)), (4, .int i)]) hx hb dL_law_1521 hl (by decide) rfl (fun ls hl => ?_)
  refine lv_aload_n hx hb dL_law_1523 rfl (lv_at hl 3 rfl) ?_
  refine lv_aload_n hx hb dL_law_1524 rfl (lv_at hl 1 rfl) ?_
  refine lv_iload hx hb dL_law_1525 (lv_at hl 5 rfl) ?_
  refine lv_iconst (v := 1) hx hb dL_law_1527 (by decide) ?_
  refine lv_iadd hx hb dL_law_1528 ?_
  obtain ⟨a1529, hf⟩ := ag_n hf
  refine va_sld hx hb hX hbl hbA hS a1529 dL_law_1529 ?_
  refine lv_aload_n hx hb dL_law_1530 rfl (lv_at hl 1 rfl) ?_
  refine lv_iload hx hb dL_law_1531 (lv_at hl 5 rfl) ?_
  refine lv_iconst (v := 2) hx hb dL_law_1533 (by decide) ?_
  refine lv_iadd hx hb dL_law_1534 ?_
  obtain ⟨a1535, hf⟩ := ag_n hf
  refine va_sld hx hb hX hbl hbA hS a1535 dL_law_1535 ?_
  obtain ⟨r1536, hg1536, hf⟩ := ag_bs hf
  refine ag_cVi hx hb hml hT hown hG h0 hS hW (c_X6_ofSource t6 hg1536) ⟨rfl, rfl⟩ q1050 q1051 q1052 q11 q1053 dd_yX6_ofSource ⟨Nat.le_of_ble_eq_true rfl, Nat.le_of_ble_eq_true rfl⟩ t6 rfl rfl hl.1 rfl (Nat.le_of_ble_eq_true rfl) ⟨by show (cells + 5) + 0 ≤ 601024; omega, by show (slots + 30) + 0 ≤ 7293034; omega⟩ dL_law_1536 (fun H locs hW hS => ?_)
  refine lv_istore (lv' := [(6, .int r1536.1), (5, .int r1518.1), (0, .ref b), (1, .ref (p 5 0)), (2, .ref (p 6 0)), (3, .ref (p 8 0)), (4, .int i)]) hx hb dL_law_1539 hl (by decide) rfl (fun ls hl => ?_)
  refine lv_aload_n hx hb dL_law_1541 rfl (lv_at hl 4 rfl) ?_
  obtain ⟨r1542, hg1542, hf⟩ := ag_bs hf
  refine ag_cVi hx hb hml hT hown hG h0 hS hW (c_X6_thrown t6 hg1542) ⟨rfl, rfl⟩ q884 q885 q886 q11 q887 dd_yX6_thrown ⟨Nat.le_of_ble_eq_true rfl, Nat.le_of_ble_eq_true rfl⟩ t6 rfl rfl hl.1 rfl (Nat.le_of_ble_eq_true rfl) ⟨by show (cells + 5) + 0 ≤ 601024; omega, by show (slots + 30) + 0 ≤ 7293034; omega⟩ dL_law_1542 (fun H locs hW hS => ?_)
  refine lv_iload hx hb dL_law_1545 (lv_at hl 1 rfl) ?_
  refine lv_icmp_eq (tgt := 1552) hx hb dL_law_1547 (by decide) (fun c1547 => ?_) (fun c1547 => ?_)
  · have hf := ag_t c1547 hf
    refine lv_iload hx hb dL_law_1552 (lv_at hl 1 rfl) ?_
    refine lv_if_ne (tgt := 1569) hx hb dL_law_1554 (by decide) (fun c1554 => ?_) (fun c1554 => ?_)
    · have hf := ag_f c1554 hf
      refine lv_goto (tgt := 1572) hx hb dL_law_1569 (by decide) ?_
      refine W.widen (k := cells + 20) (n := slots + 300) (by omega) (by omega) ?_
      have e9 := Option.some.inj hf
      subst e9
      exact kk p H locs ls (ag_ext_rf _ _) (ag_le_rf _) hW hS (lv_sub hl [2, 3, 4, 5, 6] rfl)
    · have hf := ag_t c1554 hf
      refine lv_aload_n hx hb dL_law_1557 rfl (lv_at hl 5 rfl) ?_
      refine lv_iconst (v := 0) hx hb dL_law_1558 (by decide) ?_
      obtain ⟨a1559, hf⟩ := ag_n hf
      refine ag_lald hx hb hG hW t8 rfl rfl a1559 dL_law_1559 ?_
      refine lv_iload hx hb dL_law_1560 (lv_at hl 0 rfl) ?_
      refine lv_i2l hx hb dL_law_1562 rfl ?_
      refine W.lcmp hx hb dL_law_1563 ?_
      refine lv_if_eq (tgt := 1569) hx hb dL_law_1564 (by decide) (fun c1564 => ?_) (fun c1564 => ?_)
      · have hf := ag_t c1564 hf
        refine lv_goto (tgt := 1572) hx hb dL_law_1569 (by decide) ?_
        refine W.widen (k := cells + 20) (n := slots + 300) (by omega) (by omega) ?_
        have e9 := Option.some.inj hf
        subst e9
        exact kk p H locs ls (ag_ext_rf _ _) (ag_le_rf _) hW hS (lv_sub hl [2, 3, 4, 5, 6] rfl)
      · have hf := ag_f c1564 hf
        refine lv_iconst (v := 0) hx hb dL_law_1567 (by decide) ?_
        cases hf
  · have hf := ag_f c1547 hf
    refine lv_iconst (v := 0) hx hb dL_law_1550 (by decide) ?_
    cases hf
