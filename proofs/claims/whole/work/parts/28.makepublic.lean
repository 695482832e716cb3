def f_X5_addAmendment (fu : Nat) (x1 : Int32) (x2 : Int32) (x3 : Int32) (n : ag_N) (s : ag_S) : Option (Int32 × (ag_N × ag_S)) := ag_bd (f_Jx4a65c_size_8abf5_3 fu s) fun r4 => if 1000 ≤ n 3 then none else ag_bd (f_X0_init fu (nI (n 3)) r4 x1 x2 x3 (ag_s0 s 3 (nI (n 3)))) fun r22 => ag_bd (f_Jx4a65c_add_9ea2d_3 fu (nI (n 3)) ((ag_nn n 3)) r22) fun r25 => some (r4, (r25.2.1, r25.2.2))
abbrev rm_X5_addAmendment : Room := { frames := 7, cells := 2, slots := 120, locals := 171 }
theorem dd_yX5_addAmendment : yX5_addAmendment.cls = RX5 ∧ yX5_addAmendment.cls ≠ "java/lang/invoke/MethodHandle" ∧ yX5_addAmendment.cls ≠ "java/lang/invoke/VarHandle" ∧ (parseMethodDescriptor yX5_addAmendment.desc).map (fun d => d.parameters.length) = some 3 := by decide +kernel
set_option maxHeartbeats 4000000 in
set_option maxRecDepth 100000 in
theorem c_X5_addAmendment {z : ag_Z} {l : Launch} {n : ag_N} {p : ag_P} {s : ag_S} {fu : Nat} {x1 : Int32} {x2 : Int32} {x3 : Int32} {out : Int32 × (ag_N × ag_S)} (t5 : vp_in 0 (n 5)) (v1 : ag_ok n 3 x1) (v2 : vp_in x2 (n 2)) (hf : f_X5_addAmendment fu x1 x2 x3 n s = some out) : Met l yX5_addAmendment (ag_ws yX5_addAmendment cX5_addAmendment 5 ((some FieldType.int))) rm_X5_addAmendment (va_Pc [.ref (p 5 0), va_rf (ag_ro z p 3 x1), .ref (p 2 x2), .int x3] (ag_Pre z n p s)) (ag_Pi z n p out.1 out.2.1 out.2.2) 2 120 (ag_A z) := by
  refine Met.ofW (cc := cX5_addAmendment) (maxL := 5) (ret := (some FieldType.int)) (by decide) rfl ?_
  intro p0 e st m args below meth c s9 B hml hv
  obtain ⟨ha, h0, hG, hW⟩ := hv
  have hx := B.exec
  have hb := B.bytes
  have hr := B.returns
  have hts := atoms_spec (ws := ag_ws yX5_addAmendment cX5_addAmendment 5 ((some FieldType.int))) B.pre
  have hT : ∀ w ∈ ag_tbl, w.before args st = true := fun w h => hts w (List.mem_cons_of_mem _ h)
  have hown : st.vm.findClass RX5 = some m.cls := findClass_of_methodNamed B.named
  have hlocks := B.notSynchronized
  have hS : va_S (ag_A z) st.heap st.heap [] := va_S.rf
  obtain ⟨ls, hls, hl⟩ : ∃ ls, entryFrame m args 5 = F0 m 0 ls [] ∧ lv_has ls 5 [(0, .ref (p 5 0)), (1, va_rf (ag_ro z p 3 x1)), (2, .ref (p 2 x2)), (3, .int x3)] := by rw [ha]; generalize ag_ro z p 3 x1 = r0; cases r0 <;> exact ag_entry m _ (Nat.le_of_ble_eq_true rfl)
  rw [hls]
  unfold f_X5_addAmendment at hf
  refine lv_aload_n hx hb dX5_addAmendment_0 rfl (lv_at hl 0 rfl) ?_
  refine g5_3 hx hb hT hown hG hW t5 q154 dX5_addAmendment_1 ?_
  have t13 := ag_fix hW (k := 5) (f := 3) (t := 13) t5 rfl rfl
  obtain ⟨r4, hg4, hf⟩ := ag_bs hf
  refine ag_cVi hx hb hml hT hown hG h0 hS hW (c_Jx4a65c_size_8abf5_3 t13 hg4) ⟨rfl, rfl⟩ q193 q194 q195 q4 q196 dd_yJx4a65c_size_8abf5 ⟨Nat.le_of_ble_eq_true rfl, Nat.le_of_ble_eq_true rfl⟩ t13 rfl rfl hl.1 rfl (Nat.le_of_ble_eq_true rfl) ⟨Nat.le_of_ble_eq_true rfl, Nat.le_of_ble_eq_true rfl⟩ dX5_addAmendment_4 (fun H locs hW hS => ?_)
  refine lv_istore (lv' := [(4, .int r4), (0, .ref (p 5 0)), (1, va_rf (ag_ro z p 3 x1)), (2, .ref (p 2 x2)), (3, .int x3)]) hx hb dX5_addAmendment_7 hl (by decide) rfl (fun ls hl => ?_)
  refine lv_aload_n hx hb dX5_addAmendment_9 rfl (lv_at hl 1 rfl) ?_
  refine g5_3 hx hb hT hown hG hW t5 q154 dX5_addAmendment_10 ?_
  have t13 := ag_fix hW (k := 5) (f := 3) (t := 13) t5 rfl rfl
  obtain ⟨m13, hf⟩ := ag_n hf
  refine n3 hx hb hT hown hG h0 hS hW (Nat.lt_of_not_le m13) q385 q386 q21 (Nat.le_of_ble_eq_true rfl) (Nat.le_of_ble_eq_true rfl) dX5_addAmendment_13 (fun p H hp13 hW hS => ?_)
  have sl13 := (ag_le_nn n 3)
  have he13 := ag_ext_tr (ag_le_rf _) (ag_ext_rf _ _) hp13
  have hl13 := ag_le_tr (ag_le_rf _) sl13
  rw [← hp13 5 0 t5, ← ag_ro_p (z := z) hp13 (Or.inl v1), ← hp13 2 x2 v2] at hl
  rw [← hp13 13 0 t13]
  refine lv_dup hx hb dX5_addAmendment_16 rfl ?_
  refine lv_iload hx hb dX5_addAmendment_17 (lv_at hl 0 rfl) ?_
  refine ag_aloadq hx hb dX5_addAmendment_19 rfl (lv_at hl 2 rfl) ?_
  refine lv_aload_n hx hb dX5_addAmendment_20 rfl (lv_at hl 3 rfl) ?_
  refine lv_iload_n hx hb dX5_addAmendment_21 rfl (lv_at hl 4 rfl) ?_
  obtain ⟨r22, hg22, hf⟩ := ag_bs hf
  refine ag_cIv hx hb hml hT hown hG h0 hS hW (c_X0_init (ag_new_v m13) (ag_ok_le v1 sl13) (ag_in_le v2 (sl13 _)) hg22) ⟨rfl, rfl⟩ q387 q388 q21 q389 rfl dd_yX0_init ⟨Nat.le_of_ble_eq_true rfl, Nat.le_of_ble_eq_true rfl⟩ hl.1 rfl (Nat.le_of_ble_eq_true rfl) ⟨Nat.le_of_ble_eq_true rfl, Nat.le_of_ble_eq_true rfl⟩ dX5_addAmendment_22 (fun H locs hW hS => ?_)
  obtain ⟨r25, hg25, hf⟩ := ag_bs hf
  refine ag_aVi (C1 := 2) (S1 := 110) hx hb hml hT hown hG h0 hS hW (c_Jx4a65c_add_9ea2d_3 (ag_in_le t13 (sl13 _)) (ag_new_v m13) hg25) ⟨rfl, rfl⟩ q77 q78 q79 q4 q80 dd_yJx4a65c_add_9ea2d ⟨Nat.le_of_ble_eq_true rfl, Nat.le_of_ble_eq_true rfl⟩ (ag_in_le t13 (sl13 _)) rfl rfl hl.1 rfl (Nat.le_of_ble_eq_true rfl) ⟨Nat.le_of_ble_eq_true rfl, Nat.le_of_ble_eq_true rfl⟩ dX5_addAmendment_25 (Nat.le_of_ble_eq_true rfl) (Nat.le_of_ble_eq_true rfl) (fun p H locs hp25 hle25 hW hS => ?_)
  have sl25 := hle25
  have he25 := ag_ext_tr hl13 he13 hp25
  have hl25 := ag_le_tr hl13 sl25
  rw [← hp25 5 0 (ag_in_le t5 (sl13 _)), ← ag_ro_p (z := z) hp25 (Or.inl (ag_ok_le v1 sl13)), ← hp25 2 x2 (ag_in_le v2 (sl13 _))] at hl
  refine lv_pop hx hb dX5_addAmendment_28 rfl ?_
  refine lv_iload hx hb dX5_addAmendment_29 (lv_at hl 0 rfl) ?_
  refine W.widen (k := 2) (n := 120) (Nat.le_of_ble_eq_true rfl) (Nat.le_of_ble_eq_true rfl) ?_
  exact ag_Piret hx hb hr rfl hlocks hS hf he25 hl25 hW dX5_addAmendment_31
def f_X5_line (fu : Nat) (x1 : Int32) (x2 : Int32) (n : ag_N) (s : ag_S) : Option ((Int32 ⊕ Int32) × (ag_N × ag_S)) := ag_bt (f_X5_sourceAt fu x1 s) (fun w2 s => ag_bt (f_X5_needRange fu x2 0 100000 s) (fun _ s => ag_bd (f_Jx4a65c_size_8abf5_2 fu s) fun r17 => if r17 < 10 then (if 1000 ≤ n 2 then none else ag_bd (f_X2_init fu (nI (n 2)) r17 w2 x2 (ag_s0 s 2 (nI (n 2)))) fun r51 => ag_bd (f_Jx4a65c_add_9ea2d_2 fu (nI (n 2)) ((ag_nn n 2)) r51) fun r54 => some (.inl r17, (r54.2.1, r54.2.2))) else (some (.inr 3, (n, s)))) (fun s => (n, s))) (fun s => (n, s))
abbrev rm_X5_line : Room := { frames := 7, cells := 5, slots := 150, locals := 171 }
theorem w293 : Cond.stringRef RX5 65 "no more lines can be made" ∈ lw_tbl := List.mem_append_right _ (List.mem_of_getElem? (i := 293) (by decide +kernel))
theorem dd_yX5_line : yX5_line.cls = RX5 ∧ yX5_line.cls ≠ "java/lang/invoke/MethodHandle" ∧ yX5_line.cls ≠ "java/lang/invoke/VarHandle" ∧ (parseMethodDescriptor yX5_line.desc).map (fun d => d.parameters.length) = some 2 := by decide +kernel
set_option maxHeartbeats 4000000 in
set_option maxRecDepth 100000 in
theorem c_X5_line {z : ag_Z} {l : Launch} {n : ag_N} {p : ag_P} {s : ag_S} {fu : Nat} {x1 : Int32} {x2 : Int32} {out : (Int32 ⊕ Int32) × (ag_N × ag_S)} (hq9 : l.stackTraces = false) (t5 : vp_in 0 (n 5)) (hf : f_X5_line fu x1 x2 n s = some out) : vx_Met l yX5_line (ag_ws yX5_line cX5_line 5 ((some FieldType.int))) rm_X5_line (va_Pc [.ref (p 5 0), .int x1, .int x2] (ag_Pre z n p s)) (ag_PXi z n p out) (ag_PXX z n p out) 5 150 (ag_A z) := by
  refine vx_ofW (cc := cX5_line) (maxL := 5) (ret := (some FieldType.int)) (by decide) rfl ?_
  intro p0 e st m args below meth c s9 B hml hout hv
  obtain ⟨ha, h0, hG, hW⟩ := hv
  have hx := B.exec
  have hb := B.bytes
  have hr := B.returns
  have hts := atoms_spec (ws := ag_ws yX5_line cX5_line 5 ((some FieldType.int))) B.pre
  have hT : ∀ w ∈ ag_tbl, w.before args st = true := fun w h => hts w (List.mem_cons_of_mem _ h)
  have hown : st.vm.findClass RX5 = some m.cls := findClass_of_methodNamed B.named
  have hlocks := B.notSynchronized
  have hS : va_S (ag_A z) st.heap st.heap [] := va_S.rf
  obtain ⟨ls, hls, hl⟩ : ∃ ls, entryFrame m args 5 = F0 m 0 ls [] ∧ lv_has ls 5 [(0, .ref (p 5 0)), (1, .int x1), (2, .int x2)] := by rw [ha]; exact ag_entry m [.ref (p 5 0), .int x1, .int x2] (Nat.le_of_ble_eq_true rfl)
  rw [hls]
  unfold f_X5_line at hf
  refine lv_aload_n hx hb dX5_line_0 rfl (lv_at hl 0 rfl) ?_
  refine lv_iload_n hx hb dX5_line_1 rfl (lv_at hl 1 rfl) ?_
  obtain ⟨r2, hg2, hf⟩ := ag_xs hf
  refine ag_xVr (C1 := 1) (S1 := 6) hx hb hml hT hown hG h0 hS hW (c_X5_sourceAt hq9 t5 hg2) ⟨rfl, rfl⟩ q189 q191 qs3 q1 q192 dd_yX5_sourceAt ⟨Nat.le_of_ble_eq_true rfl, Nat.le_of_ble_eq_true rfl⟩ t5 rfl rfl hl.1 rfl (Nat.le_of_ble_eq_true rfl) ⟨Nat.le_of_ble_eq_true rfl, Nat.le_of_ble_eq_true rfl⟩ dX5_line_2 (fun E ce q9 H locs hE hW hS g1 g2 g3 => ag_propP hf hout hlocks (Nat.le_of_ble_eq_true rfl) (Nat.le_of_ble_eq_true rfl) hE hW hS g1 g2 g3) (Nat.le_of_ble_eq_true rfl) (Nat.le_of_ble_eq_true rfl) (fun w2 H locs hr2 v2 hW hS => ?_)
  have hf := ag_inl hf hr2
  obtain ⟨s, es2⟩ : ∃ s9, s9 = r2.2 := ⟨_, rfl⟩
  rw [← es2] at hW hf
  refine lv_astore_n (lv' := [(3, .ref (p 0 w2)), (0, .ref (p 5 0)), (1, .int x1), (2, .int x2)]) hx hb dX5_line_5 rfl hl (by decide) rfl (fun ls hl => ?_)
  refine lv_iload_n hx hb dX5_line_6 rfl (lv_at hl 3 rfl) ?_
  refine lv_iconst (v := 0) hx hb dX5_line_7 (by decide) ?_
  refine lv_ldc (v := 100000) hx hb hown (hT _ q279) dX5_line_8 ?_
  obtain ⟨r10, hg10, hf⟩ := ag_xs hf
  refine ag_xSv (C1 := 2) (S1 := 12) hx hb hml hT hown hG h0 hS hW (c_X5_needRange hq9 hg10) ⟨rfl, rfl⟩ q280 q281 q1 q282 dd_yX5_needRange ⟨Nat.le_of_ble_eq_true rfl, Nat.le_of_ble_eq_true rfl⟩ hl.1 rfl (Nat.le_of_ble_eq_true rfl) ⟨Nat.le_of_ble_eq_true rfl, Nat.le_of_ble_eq_true rfl⟩ dX5_line_10 (fun E ce q9 H locs hE hW hS g1 g2 g3 => ag_propP hf hout hlocks (Nat.le_of_ble_eq_true rfl) (Nat.le_of_ble_eq_true rfl) hE hW hS g1 g2 g3) (Nat.le_of_ble_eq_true rfl) (Nat.le_of_ble_eq_true rfl) (fun H locs hr10 hW hS => ?_)
  have hf := ag_inl hf hr10
  obtain ⟨s, es10⟩ : ∃ s9, s9 = r10.2 := ⟨_, rfl⟩
  rw [← es10] at hW hf
  refine lv_aload_n hx hb dX5_line_13 rfl (lv_at hl 1 rfl) ?_
  refine g5_2 hx hb hT hown hG hW t5 q153 dX5_line_14 ?_
  have t12 := ag_fix hW (k := 5) (f := 2) (t := 12) t5 rfl rfl
  obtain ⟨r17, hg17, hf⟩ := ag_bs hf
  refine ag_cVi hx hb hml hT hown hG h0 hS hW (c_Jx4a65c_size_8abf5_2 t12 hg17) ⟨rfl, rfl⟩ q193 q194 q195 q4 q196 dd_yJx4a65c_size_8abf5 ⟨Nat.le_of_ble_eq_true rfl, Nat.le_of_ble_eq_true rfl⟩ t12 rfl rfl hl.1 rfl (Nat.le_of_ble_eq_true rfl) ⟨Nat.le_of_ble_eq_true rfl, Nat.le_of_ble_eq_true rfl⟩ dX5_line_17 (fun H locs hW hS => ?_)
  refine lv_istore (lv' := [(4, .int r17), (3, .ref (p 0 w2)), (0, .ref (p 5 0)), (1, .int x1), (2, .int x2)]) hx hb dX5_line_20 hl (by decide) rfl (fun ls hl => ?_)
  refine lv_iload hx hb dX5_line_22 (lv_at hl 0 rfl) ?_
  refine lv_bipush (v := 10) hx hb dX5_line_24 (by decide) ?_
  refine lv_icmp_lt (tgt := 39) hx hb dX5_line_26 (by decide) (fun c26 => ?_) (fun c26 => ?_)
  · have hf := ag_t c26 hf
    refine lv_aload_n hx hb dX5_line_39 rfl (lv_at hl 2 rfl) ?_
    refine g5_2 hx hb hT hown hG hW t5 q153 dX5_line_40 ?_
    have t12 := ag_fix hW (k := 5) (f := 2) (t := 12) t5 rfl rfl
    obtain ⟨m43, hf⟩ := ag_n hf
    refine n2 hx hb hT hown hG h0 hS hW (Nat.lt_of_not_le m43) q300 q301 q19 (Nat.le_of_ble_eq_true rfl) (Nat.le_of_ble_eq_true rfl) dX5_line_43 (fun p H hp43 hW hS => ?_)
    have sl43 := (ag_le_nn n 2)
    have he43 := ag_ext_tr (ag_le_rf _) (ag_ext_rf _ _) hp43
    have hl43 := ag_le_tr (ag_le_rf _) sl43
    rw [← hp43 5 0 t5, ← hp43 0 w2 v2] at hl
    rw [← hp43 12 0 t12]
    refine lv_dup hx hb dX5_line_46 rfl ?_
    refine lv_iload hx hb dX5_line_47 (lv_at hl 0 rfl) ?_
    refine lv_aload_n hx hb dX5_line_49 rfl (lv_at hl 1 rfl) ?_
    refine lv_iload_n hx hb dX5_line_50 rfl (lv_at hl 4 rfl) ?_
    obtain ⟨r51, hg51, hf⟩ := ag_bs hf
    refine ag_cIv hx hb hml hT hown hG h0 hS hW (c_X2_init (ag_new_v m43) (ag_in_le v2 (sl43 _)) hg51) ⟨rfl, rfl⟩ q302 q303 q19 q304 rfl dd_yX2_init ⟨Nat.le_of_ble_eq_true rfl, Nat.le_of_ble_eq_true rfl⟩ hl.1 rfl (Nat.le_of_ble_eq_true rfl) ⟨Nat.le_of_ble_eq_true rfl, Nat.le_of_ble_eq_true rfl⟩ dX5_line_51 (fun H locs hW hS => ?_)
    obtain ⟨r54, hg54, hf⟩ := ag_bs hf
    refine ag_aVi (C1 := 4) (S1 := 119) hx hb hml hT hown hG h0 hS hW (c_Jx4a65c_add_9ea2d_2 (ag_in_le t12 (sl43 _)) (ag_new_v m43) hg54) ⟨rfl, rfl⟩ q77 q78 q79 q4 q80 dd_yJx4a65c_add_9ea2d ⟨Nat.le_of_ble_eq_true rfl, Nat.le_of_ble_eq_true rfl⟩ (ag_in_le t12 (sl43 _)) rfl rfl hl.1 rfl (Nat.le_of_ble_eq_true rfl) ⟨Nat.le_of_ble_eq_true rfl, Nat.le_of_ble_eq_true rfl⟩ dX5_line_54 (Nat.le_of_ble_eq_true rfl) (Nat.le_of_ble_eq_true rfl) (fun p H locs hp54 hle54 hW hS => ?_)
    have sl54 := hle54
    have he54 := ag_ext_tr hl43 he43 hp54
    have hl54 := ag_le_tr hl43 sl54
    rw [← hp54 5 0 (ag_in_le t5 (sl43 _)), ← hp54 0 w2 (ag_in_le v2 (sl43 _))] at hl
    refine lv_pop hx hb dX5_line_57 rfl ?_
    refine lv_iload hx hb dX5_line_58 (lv_at hl 0 rfl) ?_
    refine W.widen (k := 5) (n := 150) (Nat.le_of_ble_eq_true rfl) (Nat.le_of_ble_eq_true rfl) ?_
    exact ag_PXiret hx hb hr rfl hlocks hS hf he54 hl54 hW dX5_line_60
  · have hf := ag_f c26 hf
    exact ag_thrP hf (ag_thr3 hx hb hq9 (hml.trans hl.1.symm) hT hown hG hS hW hout hlocks rfl (w293) dX5_line_29 dX5_line_32 dX5_line_33 dX5_line_35 dX5_line_38 (Nat.le_of_ble_eq_true rfl) (Nat.le_of_ble_eq_true rfl) (Nat.le_of_ble_eq_true rfl) (Nat.le_of_ble_eq_true rfl) (Nat.le_of_ble_eq_true rfl) (Nat.le_of_ble_eq_true rfl))
def f_X5_amend (fu : Nat) (x1 : Int32) (x2 : Int32) (n : ag_N) (s : ag_S) : Option ((Int32 ⊕ Int32) × (ag_N × ag_S)) := ag_bt (f_X5_lineAt fu x1 s) (fun w2 s => ag_bt (f_X5_needMore fu x2 s) (fun _ s => ag_bt (f_X5_needRoomForAmendment fu s) (fun _ s => ag_bd (f_X5_addAmendment fu (-1) w2 x2 n s) fun r18 => some (.inl r18.1, (r18.2.1, r18.2.2))) (fun s => (n, s))) (fun s => (n, s))) (fun s => (n, s))
abbrev rm_X5_amend : Room := { frames := 8, cells := 8, slots := 180, locals := 195 }
theorem dd_yX5_amend : yX5_amend.cls = RX5 ∧ yX5_amend.cls ≠ "java/lang/invoke/MethodHandle" ∧ yX5_amend.cls ≠ "java/lang/invoke/VarHandle" ∧ (parseMethodDescriptor yX5_amend.desc).map (fun d => d.parameters.length) = some 2 := by decide +kernel
set_option maxHeartbeats 4000000 in
set_option maxRecDepth 100000 in
theorem c_X5_amend {z : ag_Z} {l : Launch} {n : ag_N} {p : ag_P} {s : ag_S} {fu : Nat} {x1 : Int32} {x2 : Int32} {out : (Int32 ⊕ Int32) × (ag_N × ag_S)} (hq9 : l.stackTraces = false) (t5 : vp_in 0 (n 5)) (hf : f_X5_amend fu x1 x2 n s = some out) : vx_Met l yX5_amend (ag_ws yX5_amend cX5_amend 4 ((some FieldType.int))) rm_X5_amend (va_Pc [.ref (p 5 0), .int x1, .int x2] (ag_Pre z n p s)) (ag_PXi z n p out) (ag_PXX z n p out) 8 180 (ag_A z) := by
  refine vx_ofW (cc := cX5_amend) (maxL := 4) (ret := (some FieldType.int)) (by decide) rfl ?_
  intro p0 e st m args below meth c s9 B hml hout hv
  obtain ⟨ha, h0, hG, hW⟩ := hv
  have hx := B.exec
  have hb := B.bytes
  have hr := B.returns
  have hts := atoms_spec (ws := ag_ws yX5_amend cX5_amend 4 ((some FieldType.int))) B.pre
  have hT : ∀ w ∈ ag_tbl, w.before args st = true := fun w h => hts w (List.mem_cons_of_mem _ h)
  have hown : st.vm.findClass RX5 = some m.cls := findClass_of_methodNamed B.named
  have hlocks := B.notSynchronized
  have hS : va_S (ag_A z) st.heap st.heap [] := va_S.rf
  obtain ⟨ls, hls, hl⟩ : ∃ ls, entryFrame m args 4 = F0 m 0 ls [] ∧ lv_has ls 4 [(0, .ref (p 5 0)), (1, .int x1), (2, .int x2)] := by rw [ha]; exact ag_entry m [.ref (p 5 0), .int x1, .int x2] (Nat.le_of_ble_eq_true rfl)
  rw [hls]
  unfold f_X5_amend at hf
  refine lv_aload_n hx hb dX5_amend_0 rfl (lv_at hl 0 rfl) ?_
  refine lv_iload_n hx hb dX5_amend_1 rfl (lv_at hl 1 rfl) ?_
  obtain ⟨r2, hg2, hf⟩ := ag_xs hf
  refine ag_xVr (C1 := 1) (S1 := 6) hx hb hml hT hown hG h0 hS hW (c_X5_lineAt hq9 t5 hg2) ⟨rfl, rfl⟩ q350 q352 qs5 q1 q353 dd_yX5_lineAt ⟨Nat.le_of_ble_eq_true rfl, Nat.le_of_ble_eq_true rfl⟩ t5 rfl rfl hl.1 rfl (Nat.le_of_ble_eq_true rfl) ⟨Nat.le_of_ble_eq_true rfl, Nat.le_of_ble_eq_true rfl⟩ dX5_amend_2 (fun E ce q9 H locs hE hW hS g1 g2 g3 => ag_propP hf hout hlocks (Nat.le_of_ble_eq_true rfl) (Nat.le_of_ble_eq_true rfl) hE hW hS g1 g2 g3) (Nat.le_of_ble_eq_true rfl) (Nat.le_of_ble_eq_true rfl) (fun w2 H locs hr2 v2 hW hS => ?_)
  have hf := ag_inl hf hr2
  obtain ⟨s, es2⟩ : ∃ s9, s9 = r2.2 := ⟨_, rfl⟩
  rw [← es2] at hW hf
  refine lv_astore_n (lv' := [(3, .ref (p 2 w2)), (0, .ref (p 5 0)), (1, .int x1), (2, .int x2)]) hx hb dX5_amend_5 rfl hl (by decide) rfl (fun ls hl => ?_)
  refine lv_iload_n hx hb dX5_amend_6 rfl (lv_at hl 3 rfl) ?_
  obtain ⟨r7, hg7, hf⟩ := ag_xs hf
  refine ag_xSv (C1 := 3) (S1 := 18) hx hb hml hT hown hG h0 hS hW (c_X5_needMore hq9 hg7) ⟨rfl, rfl⟩ q370 q371 q1 q372 dd_yX5_needMore ⟨Nat.le_of_ble_eq_true rfl, Nat.le_of_ble_eq_true rfl⟩ hl.1 rfl (Nat.le_of_ble_eq_true rfl) ⟨Nat.le_of_ble_eq_true rfl, Nat.le_of_ble_eq_true rfl⟩ dX5_amend_7 (fun E ce q9 H locs hE hW hS g1 g2 g3 => ag_propP hf hout hlocks (Nat.le_of_ble_eq_true rfl) (Nat.le_of_ble_eq_true rfl) hE hW hS g1 g2 g3) (Nat.le_of_ble_eq_true rfl) (Nat.le_of_ble_eq_true rfl) (fun H locs hr7 hW hS => ?_)
  have hf := ag_inl hf hr7
  obtain ⟨s, es7⟩ : ∃ s9, s9 = r7.2 := ⟨_, rfl⟩
  rw [← es7] at hW hf
  refine lv_aload_n hx hb dX5_amend_10 rfl (lv_at hl 1 rfl) ?_
  obtain ⟨r11, hg11, hf⟩ := ag_xs hf
  refine ag_xVv (C1 := 4) (S1 := 24) hx hb hml hT hown hG h0 hS hW (c_X5_needRoomForAmendment hq9 t5 hg11) ⟨rfl, rfl⟩ q376 q378 qs6 q1 q379 dd_yX5_needRoomForAmendment ⟨Nat.le_of_ble_eq_true rfl, Nat.le_of_ble_eq_true rfl⟩ t5 rfl rfl hl.1 rfl (Nat.le_of_ble_eq_true rfl) ⟨Nat.le_of_ble_eq_true rfl, Nat.le_of_ble_eq_true rfl⟩ dX5_amend_11 (fun E ce q9 H locs hE hW hS g1 g2 g3 => ag_propP hf hout hlocks (Nat.le_of_ble_eq_true rfl) (Nat.le_of_ble_eq_true rfl) hE hW hS g1 g2 g3) (Nat.le_of_ble_eq_true rfl) (Nat.le_of_ble_eq_true rfl) (fun H locs hr11 hW hS => ?_)
  have hf := ag_inl hf hr11
  obtain ⟨s, es11⟩ : ∃ s9, s9 = r11.2 := ⟨_, rfl⟩
  rw [← es11] at hW hf
  refine lv_aload_n hx hb dX5_amend_14 rfl (lv_at hl 1 rfl) ?_
  refine lv_null hx hb dX5_amend_15 ?_
  refine lv_aload_n hx hb dX5_amend_16 rfl (lv_at hl 0 rfl) ?_
  refine lv_iload_n hx hb dX5_amend_17 rfl (lv_at hl 3 rfl) ?_
  rw [show (Value.null) = va_rf (ag_ro z p 3 (-1)) from rfl]
  obtain ⟨r18, hg18, hf⟩ := ag_bs hf
  refine ag_aVi (C1 := 6) (S1 := 144) hx hb hml hT hown hG h0 hS hW (c_X5_addAmendment t5 (Or.inl rfl) v2 hg18) ⟨rfl, rfl⟩ q381 q383 qs7 q1 q384 dd_yX5_addAmendment ⟨Nat.le_of_ble_eq_true rfl, Nat.le_of_ble_eq_true rfl⟩ t5 rfl rfl hl.1 rfl (Nat.le_of_ble_eq_true rfl) ⟨Nat.le_of_ble_eq_true rfl, Nat.le_of_ble_eq_true rfl⟩ dX5_amend_18 (Nat.le_of_ble_eq_true rfl) (Nat.le_of_ble_eq_true rfl) (fun p H locs hp18 hle18 hW hS => ?_)
  have sl18 := hle18
  have he18 := ag_ext_tr (ag_le_rf _) (ag_ext_rf _ _) hp18
  have hl18 := ag_le_tr (ag_le_rf _) sl18
  rw [← hp18 5 0 t5, ← hp18 2 w2 v2] at hl
  refine W.widen (k := 8) (n := 180) (Nat.le_of_ble_eq_true rfl) (Nat.le_of_ble_eq_true rfl) ?_
  exact ag_PXiret hx hb hr rfl hlocks hS hf he18 hl18 hW dX5_amend_21
def f_X5_amendOn (fu : Nat) (x1 : Int32) (x2 : Int32) (n : ag_N) (s : ag_S) : Option ((Int32 ⊕ Int32) × (ag_N × ag_S)) := ag_bt (f_X5_amendmentAt fu x1 s) (fun w2 s => ag_bt (f_X5_needMore fu x2 s) (fun _ s => ag_bt (f_X5_needOpen fu w2 s) (fun _ s => ag_bt (f_X5_needRoomForAmendment fu s) (fun _ s => if s 3 2 w2 = -1 then none else ag_bd (f_X5_addAmendment fu w2 (s 3 2 w2) x2 n s) fun r25 => some (.inl r25.1, (r25.2.1, r25.2.2))) (fun s => (n, s))) (fun s => (n, s))) (fun s => (n, s))) (fun s => (n, s))
abbrev rm_X5_amendOn : Room := { frames := 8, cells := 8, slots := 180, locals := 195 }
theorem dd_yX5_amendOn : yX5_amendOn.cls = RX5 ∧ yX5_amendOn.cls ≠ "java/lang/invoke/MethodHandle" ∧ yX5_amendOn.cls ≠ "java/lang/invoke/VarHandle" ∧ (parseMethodDescriptor yX5_amendOn.desc).map (fun d => d.parameters.length) = some 2 := by decide +kernel
set_option maxHeartbeats 4000000 in
set_option maxRecDepth 100000 in
theorem c_X5_amendOn {z : ag_Z} {l : Launch} {n : ag_N} {p : ag_P} {s : ag_S} {fu : Nat} {x1 : Int32} {x2 : Int32} {out : (Int32 ⊕ Int32) × (ag_N × ag_S)} (hq9 : l.stackTraces = false) (t5 : vp_in 0 (n 5)) (hf : f_X5_amendOn fu x1 x2 n s = some out) : vx_Met l yX5_amendOn (ag_ws yX5_amendOn cX5_amendOn 4 ((some FieldType.int))) rm_X5_amendOn (va_Pc [.ref (p 5 0), .int x1, .int x2] (ag_Pre z n p s)) (ag_PXi z n p out) (ag_PXX z n p out) 8 180 (ag_A z) := by
  refine vx_ofW (cc := cX5_amendOn) (maxL := 4) (ret := (some FieldType.int)) (by decide) rfl ?_
  intro p0 e st m args below meth c s9 B hml hout hv
  obtain ⟨ha, h0, hG, hW⟩ := hv
  have hx := B.exec
  have hb := B.bytes
  have hr := B.returns
  have hts := atoms_spec (ws := ag_ws yX5_amendOn cX5_amendOn 4 ((some FieldType.int))) B.pre
  have hT : ∀ w ∈ ag_tbl, w.before args st = true := fun w h => hts w (List.mem_cons_of_mem _ h)
  have hown : st.vm.findClass RX5 = some m.cls := findClass_of_methodNamed B.named
  have hlocks := B.notSynchronized
  have hS : va_S (ag_A z) st.heap st.heap [] := va_S.rf
  obtain ⟨ls, hls, hl⟩ : ∃ ls, entryFrame m args 4 = F0 m 0 ls [] ∧ lv_has ls 4 [(0, .ref (p 5 0)), (1, .int x1), (2, .int x2)] := by rw [ha]; exact ag_entry m [.ref (p 5 0), .int x1, .int x2] (Nat.le_of_ble_eq_true rfl)
  rw [hls]
  unfold f_X5_amendOn at hf
  refine lv_aload_n hx hb dX5_amendOn_0 rfl (lv_at hl 0 rfl) ?_
  refine lv_iload_n hx hb dX5_amendOn_1 rfl (lv_at hl 1 rfl) ?_
  obtain ⟨r2, hg2, hf⟩ := ag_xs hf
  refine ag_xVr (C1 := 1) (S1 := 6) hx hb hml hT hown hG h0 hS hW (c_X5_amendmentAt hq9 t5 hg2) ⟨rfl, rfl⟩ q438 q440 qs8 q1 q441 dd_yX5_amendmentAt ⟨Nat.le_of_ble_eq_true rfl, Nat.le_of_ble_eq_true rfl⟩ t5 rfl rfl hl.1 rfl (Nat.le_of_ble_eq_true rfl) ⟨Nat.le_of_ble_eq_true rfl, Nat.le_of_ble_eq_true rfl⟩ dX5_amendOn_2 (fun E ce q9 H locs hE hW hS g1 g2 g3 => ag_propP hf hout hlocks (Nat.le_of_ble_eq_true rfl) (Nat.le_of_ble_eq_true rfl) hE hW hS g1 g2 g3) (Nat.le_of_ble_eq_true rfl) (Nat.le_of_ble_eq_true rfl) (fun w2 H locs hr2 v2 hW hS => ?_)
  have hf := ag_inl hf hr2
  obtain ⟨s, es2⟩ : ∃ s9, s9 = r2.2 := ⟨_, rfl⟩
  rw [← es2] at hW hf
  refine lv_astore_n (lv' := [(3, .ref (p 3 w2)), (0, .ref (p 5 0)), (1, .int x1), (2, .int x2)]) hx hb dX5_amendOn_5 rfl hl (by decide) rfl (fun ls hl => ?_)
  refine lv_iload_n hx hb dX5_amendOn_6 rfl (lv_at hl 3 rfl) ?_
  obtain ⟨r7, hg7, hf⟩ := ag_xs hf
  refine ag_xSv (C1 := 3) (S1 := 18) hx hb hml hT hown hG h0 hS hW (c_X5_needMore hq9 hg7) ⟨rfl, rfl⟩ q370 q371 q1 q372 dd_yX5_needMore ⟨Nat.le_of_ble_eq_true rfl, Nat.le_of_ble_eq_true rfl⟩ hl.1 rfl (Nat.le_of_ble_eq_true rfl) ⟨Nat.le_of_ble_eq_true rfl, Nat.le_of_ble_eq_true rfl⟩ dX5_amendOn_7 (fun E ce q9 H locs hE hW hS g1 g2 g3 => ag_propP hf hout hlocks (Nat.le_of_ble_eq_true rfl) (Nat.le_of_ble_eq_true rfl) hE hW hS g1 g2 g3) (Nat.le_of_ble_eq_true rfl) (Nat.le_of_ble_eq_true rfl) (fun H locs hr7 hW hS => ?_)
  have hf := ag_inl hf hr7
  obtain ⟨s, es7⟩ : ∃ s9, s9 = r7.2 := ⟨_, rfl⟩
  rw [← es7] at hW hf
  refine lv_aload_n hx hb dX5_amendOn_10 rfl (lv_at hl 0 rfl) ?_
  obtain ⟨r11, hg11, hf⟩ := ag_xs hf
  refine ag_xSv (C1 := 4) (S1 := 24) hx hb hml hT hown hG h0 hS hW (c_X5_needOpen hq9 v2 hg11) ⟨rfl, rfl⟩ q443 q444 q1 q445 dd_yX5_needOpen ⟨Nat.le_of_ble_eq_true rfl, Nat.le_of_ble_eq_true rfl⟩ hl.1 rfl (Nat.le_of_ble_eq_true rfl) ⟨Nat.le_of_ble_eq_true rfl, Nat.le_of_ble_eq_true rfl⟩ dX5_amendOn_11 (fun E ce q9 H locs hE hW hS g1 g2 g3 => ag_propP hf hout hlocks (Nat.le_of_ble_eq_true rfl) (Nat.le_of_ble_eq_true rfl) hE hW hS g1 g2 g3) (Nat.le_of_ble_eq_true rfl) (Nat.le_of_ble_eq_true rfl) (fun H locs hr11 hW hS => ?_)
  have hf := ag_inl hf hr11
  obtain ⟨s, es11⟩ : ∃ s9, s9 = r11.2 := ⟨_, rfl⟩
  rw [← es11] at hW hf
  refine lv_aload_n hx hb dX5_amendOn_14 rfl (lv_at hl 1 rfl) ?_
  obtain ⟨r15, hg15, hf⟩ := ag_xs hf
  refine ag_xVv (C1 := 5) (S1 := 30) hx hb hml hT hown hG h0 hS hW (c_X5_needRoomForAmendment hq9 t5 hg15) ⟨rfl, rfl⟩ q376 q378 qs6 q1 q379 dd_yX5_needRoomForAmendment ⟨Nat.le_of_ble_eq_true rfl, Nat.le_of_ble_eq_true rfl⟩ t5 rfl rfl hl.1 rfl (Nat.le_of_ble_eq_true rfl) ⟨Nat.le_of_ble_eq_true rfl, Nat.le_of_ble_eq_true rfl⟩ dX5_amendOn_15 (fun E ce q9 H locs hE hW hS g1 g2 g3 => ag_propP hf hout hlocks (Nat.le_of_ble_eq_true rfl) (Nat.le_of_ble_eq_true rfl) hE hW hS g1 g2 g3) (Nat.le_of_ble_eq_true rfl) (Nat.le_of_ble_eq_true rfl) (fun H locs hr15 hW hS => ?_)
  have hf := ag_inl hf hr15
  obtain ⟨s, es15⟩ : ∃ s9, s9 = r15.2 := ⟨_, rfl⟩
  rw [← es15] at hW hf
  refine lv_aload_n hx hb dX5_amendOn_18 rfl (lv_at hl 1 rfl) ?_
  refine lv_aload_n hx hb dX5_amendOn_19 rfl (lv_at hl 0 rfl) ?_
  refine lv_aload_n hx hb dX5_amendOn_20 rfl (lv_at hl 0 rfl) ?_
  refine g3_2 hx hb hT hown hG hW v2 q396 dX5_amendOn_21 ?_
  have o21 := ag_W.okf hW (k := 3) (f := 2) (t := 2) rfl rfl (by decide) w2
  refine lv_iload_n hx hb dX5_amendOn_24 rfl (lv_at hl 3 rfl) ?_
  obtain ⟨m25_1, hf⟩ := ag_n hf
  have e25_1 := (ag_refq (z := z) (p := p) o21 m25_1)
  have v25_1 := (ag_ref (z := z) (p := p) o21 m25_1).2
  rw [e25_1]
  rw [← (ag_refv (z := z) (p := p) v2 hW)]
  obtain ⟨r25, hg25, hf⟩ := ag_bs hf
  refine ag_aVi (C1 := 7) (S1 := 150) hx hb hml hT hown hG h0 hS hW (c_X5_addAmendment t5 (Or.inr v2) v25_1 hg25) ⟨rfl, rfl⟩ q381 q383 qs7 q1 q384 dd_yX5_addAmendment ⟨Nat.le_of_ble_eq_true rfl, Nat.le_of_ble_eq_true rfl⟩ t5 rfl rfl hl.1 rfl (Nat.le_of_ble_eq_true rfl) ⟨Nat.le_of_ble_eq_true rfl, Nat.le_of_ble_eq_true rfl⟩ dX5_amendOn_25 (Nat.le_of_ble_eq_true rfl) (Nat.le_of_ble_eq_true rfl) (fun p H locs hp25 hle25 hW hS => ?_)
  have sl25 := hle25
  have he25 := ag_ext_tr (ag_le_rf _) (ag_ext_rf _ _) hp25
  have hl25 := ag_le_tr (ag_le_rf _) sl25
  rw [← hp25 5 0 t5, ← hp25 3 w2 v2] at hl
  refine W.widen (k := 8) (n := 180) (Nat.le_of_ble_eq_true rfl) (Nat.le_of_ble_eq_true rfl) ?_
  exact ag_PXiret hx hb hr rfl hlocks hS hf he25 hl25 hW dX5_amendOn_28
def f_X5_grant_b90 (fu : Nat) (x3 : Int32) (x5 : Int32) (x6 : Int32) (x7 : Int32) (x8 : Int32) (x9 : Int32) (n : ag_N) (s : ag_S) : Option ((Int32 ⊕ Int32) × (ag_N × ag_S)) := if 1000 ≤ n 4 then none else ag_bd (f_X1_init fu (nI (n 4)) x6 x7 x3 x8 (((ag_s0 s 4 (nI (n 4))) 5 7 0) + x5) (ag_s0 s 4 (nI (n 4)))) fun r112 => ag_bd (f_Jx4a65c_add_9ea2d_4 fu (nI (n 4)) ((ag_nn n 4)) r112) fun r115 => some (.inl x9, (r115.2.1, r115.2.2))
def f_X5_grant_b30 (fu : Nat) (x3 : Int32) (x5 : Int32) (x6 : Int32) (x7 : Int32) (y0 : Int32) (n : ag_N) (s : ag_S) : Option ((Int32 ⊕ Int32) × (ag_N × ag_S)) := ag_bt (f_X5_needRange fu x3 1 50000 s) (fun _ s => ag_bt (f_X5_needRange fu x5 0 60 s) (fun _ s => ag_bd (f_Jx4a65c_size_8abf5_4 fu s) fun r51 => if r51 < 40 then (ag_bt (f_X5_needFree fu x6 x3 s) (fun _ s => if y0 = -1 then (f_X5_grant_b90 fu x3 x5 x6 x7 y0 r51 n s) else (ag_bt (f_X5_needPassed fu y0 s) (fun _ s => f_X5_grant_b90 fu x3 x5 x6 x7 y0 r51 n s) (fun s => (n, s)))) (fun s => (n, s))) else (some (.inr 3, (n, s)))) (fun s => (n, s))) (fun s => (n, s))
def f_X5_grant (fu : Nat) (x1 : Int32) (x2 : Int32) (x3 : Int32) (x4 : Int32) (x5 : Int32) (n : ag_N) (s : ag_S) : Option ((Int32 ⊕ Int32) × (ag_N × ag_S)) := ag_bt (f_X5_lineAt fu x1 s) (fun w2 s => ag_bt (f_X5_receiverAt fu x2 s) (fun w9 s => if x4 = (-1) then (f_X5_grant_b30 fu x3 x5 w2 w9 (-1) n s) else (ag_bt (f_X5_amendmentAt fu x4 s) (fun w27 s => f_X5_grant_b30 fu x3 x5 w2 w9 w27 n s) (fun s => (n, s)))) (fun s => (n, s))) (fun s => (n, s))
abbrev rm_X5_grant : Room := { frames := 7, cells := 9, slots := 180, locals := 171 }
theorem w582 : Cond.stringRef RX5 156 "no more grants can be made" ∈ lw_tbl := List.mem_append_right _ (List.mem_of_getElem? (i := 582) (by decide +kernel))
theorem dd_yX5_grant : yX5_grant.cls = RX5 ∧ yX5_grant.cls ≠ "java/lang/invoke/MethodHandle" ∧ yX5_grant.cls ≠ "java/lang/invoke/VarHandle" ∧ (parseMethodDescriptor yX5_grant.desc).map (fun d => d.parameters.length) = some 5 := by decide +kernel
set_option maxHeartbeats 4000000 in
set_option maxRecDepth 100000 in
theorem c_X5_grant {z : ag_Z} {l : Launch} {n : ag_N} {p : ag_P} {s : ag_S} {fu : Nat} {x1 : Int32} {x2 : Int32} {x3 : Int32} {x4 : Int32} {x5 : Int32} {out : (Int32 ⊕ Int32) × (ag_N × ag_S)} (hq9 : l.stackTraces = false) (t5 : vp_in 0 (n 5)) (hf : f_X5_grant fu x1 x2 x3 x4 x5 n s = some out) : vx_Met l yX5_grant (ag_ws yX5_grant cX5_grant 10 ((some FieldType.int))) rm_X5_grant (va_Pc [.ref (p 5 0), .int x1, .int x2, .int x3, .int x4, .int x5] (ag_Pre z n p s)) (ag_PXi z n p out) (ag_PXX z n p out) 9 180 (ag_A z) := by
  refine vx_ofW (cc := cX5_grant) (maxL := 10) (ret := (some FieldType.int)) (by decide) rfl ?_
  intro p0 e st m args below meth c s9 B hml hout hv
  obtain ⟨ha, h0, hG, hW⟩ := hv
  have hx := B.exec
  have hb := B.bytes
  have hr := B.returns
  have hts := atoms_spec (ws := ag_ws yX5_grant cX5_grant 10 ((some FieldType.int))) B.pre
  have hT : ∀ w ∈ ag_tbl, w.before args st = true := fun w h => hts w (List.mem_cons_of_mem _ h)
  have hown : st.vm.findClass RX5 = some m.cls := findClass_of_methodNamed B.named
  have hlocks := B.notSynchronized
  have hS : va_S (ag_A z) st.heap st.heap [] := va_S.rf
  obtain ⟨ls, hls, hl⟩ : ∃ ls, entryFrame m args 10 = F0 m 0 ls [] ∧ lv_has ls 10 [(0, .ref (p 5 0)), (1, .int x1), (2, .int x2), (3, .int x3), (4, .int x4), (5, .int x5)] := by rw [ha]; exact ag_entry m [.ref (p 5 0), .int x1, .int x2, .int x3, .int x4, .int x5] (Nat.le_of_ble_eq_true rfl)
  rw [hls]
  have k90 : ∀ (x3 : Int32) (x5 : Int32) (x6 : Int32) (x7 : Int32) (x8 : Int32) (x9 : Int32) (s : ag_S) (H : Heap) (locs : List Loc) (ls : Array Slot) (vx6 : vp_in x6 (n 2)) (vx7 : vp_in x7 (n 1)) (ox8 : ag_ok n 3 x8), ag_W z n p s H → va_S (ag_A z) st.heap H locs → lv_has ls 10 [(0, .ref (p 5 0)), (3, .int x3), (5, .int x5), (6, .ref (p 2 x6)), (7, .ref (p 1 x7)), (8, va_rf (ag_ro z p 3 x8)), (9, .int x9)] → f_X5_grant_b90 fu x3 x5 x6 x7 x8 x9 n s = some out → W p0 l e (headSpec (ag_ws yX5_grant cX5_grant 10 ((some FieldType.int))) rm_X5_grant).room st m args below meth c H locs 7 42 (vx_MQ below (ag_PXi z n p out) (ag_PXX z n p out) args st 9 180 (ag_A z)) (F0 m 90 ls []) := by
    intro x3 x5 x6 x7 x8 x9 s H locs ls vx6 vx7 ox8 hW hS hl hf
    unfold f_X5_grant_b90 at hf
    refine lv_aload_n hx hb dX5_grant_90 rfl (lv_at hl 0 rfl) ?_
    refine g5_4 hx hb hT hown hG hW t5 q155 dX5_grant_91 ?_
    have t14 := ag_fix hW (k := 5) (f := 4) (t := 14) t5 rfl rfl
    obtain ⟨m94, hf⟩ := ag_n hf
    refine n4 hx hb hT hown hG h0 hS hW (Nat.lt_of_not_le m94) q521 q588 q23 (Nat.le_of_ble_eq_true rfl) (Nat.le_of_ble_eq_true rfl) dX5_grant_94 (fun p H hp94 hW hS => ?_)
    have sl94 := (ag_le_nn n 4)
    have he94 := ag_ext_tr (ag_le_rf _) (ag_ext_rf _ _) hp94
    have hl94 := ag_le_tr (ag_le_rf _) sl94
    rw [← hp94 5 0 t5, ← hp94 2 x6 vx6, ← hp94 1 x7 vx7, ← ag_ro_p (z := z) hp94 (Or.inl ox8)] at hl
    rw [← hp94 14 0 t14]
    refine lv_dup hx hb dX5_grant_97 rfl ?_
    refine lv_aload hx hb dX5_grant_98 (lv_at hl 3 rfl) ?_
    refine lv_aload hx hb dX5_grant_100 (lv_at hl 4 rfl) ?_
    refine lv_iload_n hx hb dX5_grant_102 rfl (lv_at hl 1 rfl) ?_
    refine ag_aloadQ hx hb dX5_grant_103 (lv_at hl 5 rfl) ?_
    refine lv_aload_n hx hb dX5_grant_105 rfl (lv_at hl 0 rfl) ?_
    refine g5_7 hx hb hT hown hG hW (ag_in_le t5 (sl94 _)) q158 dX5_grant_106 ?_
    refine lv_iload hx hb dX5_grant_109 (lv_at hl 2 rfl) ?_
    refine lv_iadd hx hb dX5_grant_111 ?_
    obtain ⟨r112, hg112, hf⟩ := ag_bs hf
    refine ag_cIv hx hb hml hT hown hG h0 hS hW (c_X1_init (ag_new_v m94) (ag_in_le vx6 (sl94 _)) (ag_in_le vx7 (sl94 _)) (ag_ok_le ox8 sl94) hg112) ⟨rfl, rfl⟩ q589 q590 q23 q591 rfl dd_yX1_init ⟨Nat.le_of_ble_eq_true rfl, Nat.le_of_ble_eq_true rfl⟩ hl.1 rfl (Nat.le_of_ble_eq_true rfl) ⟨Nat.le_of_ble_eq_true rfl, Nat.le_of_ble_eq_true rfl⟩ dX5_grant_112 (fun H locs hW hS => ?_)
    obtain ⟨r115, hg115, hf⟩ := ag_bs hf
    refine ag_aVi (C1 := 9) (S1 := 150) hx hb hml hT hown hG h0 hS hW (c_Jx4a65c_add_9ea2d_4 (ag_in_le t14 (sl94 _)) (ag_new_v m94) hg115) ⟨rfl, rfl⟩ q77 q78 q79 q4 q80 dd_yJx4a65c_add_9ea2d ⟨Nat.le_of_ble_eq_true rfl, Nat.le_of_ble_eq_true rfl⟩ (ag_in_le t14 (sl94 _)) rfl rfl hl.1 rfl (Nat.le_of_ble_eq_true rfl) ⟨Nat.le_of_ble_eq_true rfl, Nat.le_of_ble_eq_true rfl⟩ dX5_grant_115 (Nat.le_of_ble_eq_true rfl) (Nat.le_of_ble_eq_true rfl) (fun p H locs hp115 hle115 hW hS => ?_)
    have sl115 := hle115
    have he115 := ag_ext_tr hl94 he94 hp115
    have hl115 := ag_le_tr hl94 sl115
    rw [← hp115 5 0 (ag_in_le t5 (sl94 _)), ← hp115 2 x6 (ag_in_le vx6 (sl94 _)), ← hp115 1 x7 (ag_in_le vx7 (sl94 _)), ← ag_ro_p (z := z) hp115 (Or.inl (ag_ok_le ox8 sl94))] at hl
    refine lv_pop hx hb dX5_grant_118 rfl ?_
    refine lv_iload hx hb dX5_grant_119 (lv_at hl 6 rfl) ?_
    refine W.widen (k := 9) (n := 180) (Nat.le_of_ble_eq_true rfl) (Nat.le_of_ble_eq_true rfl) ?_
    exact ag_PXiret hx hb hr rfl hlocks hS hf he115 hl115 hW dX5_grant_121
  have k30 : ∀ (x3 : Int32) (x5 : Int32) (x6 : Int32) (x7 : Int32) (y0 : Int32) (s : ag_S) (H : Heap) (locs : List Loc) (ls : Array Slot) (vx6 : vp_in x6 (n 2)) (vx7 : vp_in x7 (n 1)) (oy0 : ag_ok n 3 y0), ag_W z n p s H → va_S (ag_A z) st.heap H locs → lv_has ls 10 [(0, .ref (p 5 0)), (3, .int x3), (5, .int x5), (6, .ref (p 2 x6)), (7, .ref (p 1 x7))] → f_X5_grant_b30 fu x3 x5 x6 x7 y0 n s = some out → W p0 l e (headSpec (ag_ws yX5_grant cX5_grant 10 ((some FieldType.int))) rm_X5_grant).room st m args below meth c H locs 3 18 (vx_MQ below (ag_PXi z n p out) (ag_PXX z n p out) args st 9 180 (ag_A z)) (F0 m 30 ls [va_rf (ag_ro z p 3 y0)]) := by
    intro x3 x5 x6 x7 y0 s H locs ls vx6 vx7 oy0 hW hS hl hf
    unfold f_X5_grant_b30 at hf
    refine ag_astoreQ (lv' := [(8, va_rf (ag_ro z p 3 y0)), (0, .ref (p 5 0)), (3, .int x3), (5, .int x5), (6, .ref (p 2 x6)), (7, .ref (p 1 x7))]) hx hb dX5_grant_30 hl (by decide) rfl (fun ls hl => ?_)
    refine lv_iload_n hx hb dX5_grant_32 rfl (lv_at hl 2 rfl) ?_
    refine lv_iconst (v := 1) hx hb dX5_grant_33 (by decide) ?_
    refine lv_ldc (v := 50000) hx hb hown (hT _ q374) dX5_grant_34 ?_
    obtain ⟨r36, hg36, hf⟩ := ag_xs hf
    refine ag_xSv (C1 := 4) (S1 := 24) hx hb hml hT hown hG h0 hS hW (c_X5_needRange hq9 hg36) ⟨rfl, rfl⟩ q280 q281 q1 q282 dd_yX5_needRange ⟨Nat.le_of_ble_eq_true rfl, Nat.le_of_ble_eq_true rfl⟩ hl.1 rfl (Nat.le_of_ble_eq_true rfl) ⟨Nat.le_of_ble_eq_true rfl, Nat.le_of_ble_eq_true rfl⟩ dX5_grant_36 (fun E ce q9 H locs hE hW hS g1 g2 g3 => ag_propP hf hout hlocks (Nat.le_of_ble_eq_true rfl) (Nat.le_of_ble_eq_true rfl) hE hW hS g1 g2 g3) (Nat.le_of_ble_eq_true rfl) (Nat.le_of_ble_eq_true rfl) (fun H locs hr36 hW hS => ?_)
    have hf := ag_inl hf hr36
    obtain ⟨s, es36⟩ : ∃ s9, s9 = r36.2 := ⟨_, rfl⟩
    rw [← es36] at hW hf
    refine lv_iload hx hb dX5_grant_39 (lv_at hl 3 rfl) ?_
    refine lv_iconst (v := 0) hx hb dX5_grant_41 (by decide) ?_
    refine lv_bipush (v := 60) hx hb dX5_grant_42 (by decide) ?_
    obtain ⟨r44, hg44, hf⟩ := ag_xs hf
    refine ag_xSv (C1 := 5) (S1 := 30) hx hb hml hT hown hG h0 hS hW (c_X5_needRange hq9 hg44) ⟨rfl, rfl⟩ q280 q281 q1 q282 dd_yX5_needRange ⟨Nat.le_of_ble_eq_true rfl, Nat.le_of_ble_eq_true rfl⟩ hl.1 rfl (Nat.le_of_ble_eq_true rfl) ⟨Nat.le_of_ble_eq_true rfl, Nat.le_of_ble_eq_true rfl⟩ dX5_grant_44 (fun E ce q9 H locs hE hW hS g1 g2 g3 => ag_propP hf hout hlocks (Nat.le_of_ble_eq_true rfl) (Nat.le_of_ble_eq_true rfl) hE hW hS g1 g2 g3) (Nat.le_of_ble_eq_true rfl) (Nat.le_of_ble_eq_true rfl) (fun H locs hr44 hW hS => ?_)
    have hf := ag_inl hf hr44
    obtain ⟨s, es44⟩ : ∃ s9, s9 = r44.2 := ⟨_, rfl⟩
    rw [← es44] at hW hf
    refine lv_aload_n hx hb dX5_grant_47 rfl (lv_at hl 1 rfl) ?_
    refine g5_4 hx hb hT hown hG hW t5 q155 dX5_grant_48 ?_
    have t14 := ag_fix hW (k := 5) (f := 4) (t := 14) t5 rfl rfl
    obtain ⟨r51, hg51, hf⟩ := ag_bs hf
    refine ag_cVi hx hb hml hT hown hG h0 hS hW (c_Jx4a65c_size_8abf5_4 t14 hg51) ⟨rfl, rfl⟩ q193 q194 q195 q4 q196 dd_yJx4a65c_size_8abf5 ⟨Nat.le_of_ble_eq_true rfl, Nat.le_of_ble_eq_true rfl⟩ t14 rfl rfl hl.1 rfl (Nat.le_of_ble_eq_true rfl) ⟨Nat.le_of_ble_eq_true rfl, Nat.le_of_ble_eq_true rfl⟩ dX5_grant_51 (fun H locs hW hS => ?_)
    refine lv_istore (lv' := [(9, .int r51), (8, va_rf (ag_ro z p 3 y0)), (0, .ref (p 5 0)), (3, .int x3), (5, .int x5), (6, .ref (p 2 x6)), (7, .ref (p 1 x7))]) hx hb dX5_grant_54 hl (by decide) (by simp [ag_cat]) (fun ls hl => ?_)
    refine lv_iload hx hb dX5_grant_56 (lv_at hl 0 rfl) ?_
    refine lv_bipush (v := 40) hx hb dX5_grant_58 (by decide) ?_
    refine lv_icmp_lt (tgt := 73) hx hb dX5_grant_60 (by decide) (fun c60 => ?_) (fun c60 => ?_)
    · have hf := ag_t c60 hf
      refine lv_aload_n hx hb dX5_grant_73 rfl (lv_at hl 2 rfl) ?_
      refine lv_aload hx hb dX5_grant_74 (lv_at hl 5 rfl) ?_
      refine lv_iload_n hx hb dX5_grant_76 rfl (lv_at hl 3 rfl) ?_
      obtain ⟨r77, hg77, hf⟩ := ag_xs hf
      refine ag_xVv (C1 := 6) (S1 := 36) hx hb hml hT hown hG h0 hS hW (c_X5_needFree hq9 t5 vx6 hg77) ⟨rfl, rfl⟩ q583 q585 qs19 q1 q586 dd_yX5_needFree ⟨Nat.le_of_ble_eq_true rfl, Nat.le_of_ble_eq_true rfl⟩ t5 rfl rfl hl.1 rfl (Nat.le_of_ble_eq_true rfl) ⟨Nat.le_of_ble_eq_true rfl, Nat.le_of_ble_eq_true rfl⟩ dX5_grant_77 (fun E ce q9 H locs hE hW hS g1 g2 g3 => ag_propP hf hout hlocks (Nat.le_of_ble_eq_true rfl) (Nat.le_of_ble_eq_true rfl) hE hW hS g1 g2 g3) (Nat.le_of_ble_eq_true rfl) (Nat.le_of_ble_eq_true rfl) (fun H locs hr77 hW hS => ?_)
      have hf := ag_inl hf hr77
      obtain ⟨s, es77⟩ : ∃ s9, s9 = r77.2 := ⟨_, rfl⟩
      rw [← es77] at hW hf
      refine ag_aloadQ hx hb dX5_grant_80 (lv_at hl 1 rfl) ?_
      refine ag_ifnull (tgt := 90) hx hb oy0 dX5_grant_82 (by decide) (fun c82 => ?_) (fun c82 => ?_)
      · have hf := ag_t c82 hf
        refine W.widen (k := 7) (n := 42) (Nat.le_of_ble_eq_true rfl) (Nat.le_of_ble_eq_true rfl) ?_
        exact k90 _ _ _ _ _ _ _ _ _ _ vx6 vx7 oy0 hW hS (lv_sub hl [2, 3, 4, 5, 6, 1, 0] rfl) hf
      · have hf := ag_f c82 hf
        have e82 := (ag_refq (z := z) (p := p) oy0 c82)
        have v82 := (ag_ref (z := z) (p := p) oy0 c82).2
        rw [e82] at hl
        refine lv_aload hx hb dX5_grant_85 (lv_at hl 1 rfl) ?_
        obtain ⟨r87, hg87, hf⟩ := ag_xs hf
        refine ag_xSv (C1 := 7) (S1 := 42) hx hb hml hT hown hG h0 hS hW (c_X5_needPassed hq9 v82 hg87) ⟨rfl, rfl⟩ q566 q567 q1 q568 dd_yX5_needPassed ⟨Nat.le_of_ble_eq_true rfl, Nat.le_of_ble_eq_true rfl⟩ hl.1 rfl (Nat.le_of_ble_eq_true rfl) ⟨Nat.le_of_ble_eq_true rfl, Nat.le_of_ble_eq_true rfl⟩ dX5_grant_87 (fun E ce q9 H locs hE hW hS g1 g2 g3 => ag_propP hf hout hlocks (Nat.le_of_ble_eq_true rfl) (Nat.le_of_ble_eq_true rfl) hE hW hS g1 g2 g3) (Nat.le_of_ble_eq_true rfl) (Nat.le_of_ble_eq_true rfl) (fun H locs hr87 hW hS => ?_)
        have hf := ag_inl hf hr87
        obtain ⟨s, es87⟩ : ∃ s9, s9 = r87.2 := ⟨_, rfl⟩
        rw [← es87] at hW hf
        exact k90 _ _ _ _ _ _ _ _ _ _ vx6 vx7 (Or.inr v82) hW hS (by rw [ag_refv (z := z) (p := p) v82 hW]; exact lv_sub hl [2, 3, 4, 5, 6, 1, 0] rfl) hf
    · have hf := ag_f c60 hf
      exact ag_thrP hf (ag_thr3 hx hb hq9 (hml.trans hl.1.symm) hT hown hG hS hW hout hlocks rfl (w582) dX5_grant_63 dX5_grant_66 dX5_grant_67 dX5_grant_69 dX5_grant_72 (Nat.le_of_ble_eq_true rfl) (Nat.le_of_ble_eq_true rfl) (Nat.le_of_ble_eq_true rfl) (Nat.le_of_ble_eq_true rfl) (Nat.le_of_ble_eq_true rfl) (Nat.le_of_ble_eq_true rfl))
  unfold f_X5_grant at hf
  refine lv_aload_n hx hb dX5_grant_0 rfl (lv_at hl 0 rfl) ?_
  refine lv_iload_n hx hb dX5_grant_1 rfl (lv_at hl 1 rfl) ?_
  obtain ⟨r2, hg2, hf⟩ := ag_xs hf
  refine ag_xVr (C1 := 1) (S1 := 6) hx hb hml hT hown hG h0 hS hW (c_X5_lineAt hq9 t5 hg2) ⟨rfl, rfl⟩ q350 q352 qs5 q1 q353 dd_yX5_lineAt ⟨Nat.le_of_ble_eq_true rfl, Nat.le_of_ble_eq_true rfl⟩ t5 rfl rfl hl.1 rfl (Nat.le_of_ble_eq_true rfl) ⟨Nat.le_of_ble_eq_true rfl, Nat.le_of_ble_eq_true rfl⟩ dX5_grant_2 (fun E ce q9 H locs hE hW hS g1 g2 g3 => ag_propP hf hout hlocks (Nat.le_of_ble_eq_true rfl) (Nat.le_of_ble_eq_true rfl) hE hW hS g1 g2 g3) (Nat.le_of_ble_eq_true rfl) (Nat.le_of_ble_eq_true rfl) (fun w2 H locs hr2 v2 hW hS => ?_)
  have hf := ag_inl hf hr2
  obtain ⟨s, es2⟩ : ∃ s9, s9 = r2.2 := ⟨_, rfl⟩
  rw [← es2] at hW hf
  refine lv_astore (lv' := [(6, .ref (p 2 w2)), (0, .ref (p 5 0)), (1, .int x1), (2, .int x2), (3, .int x3), (4, .int x4), (5, .int x5)]) hx hb dX5_grant_5 hl (by decide) rfl (fun ls hl => ?_)
  refine lv_aload_n hx hb dX5_grant_7 rfl (lv_at hl 1 rfl) ?_
  refine lv_iload_n hx hb dX5_grant_8 rfl (lv_at hl 3 rfl) ?_
  obtain ⟨r9, hg9, hf⟩ := ag_xs hf
  refine ag_xVr (C1 := 2) (S1 := 12) hx hb hml hT hown hG h0 hS hW (c_X5_receiverAt hq9 t5 hg9) ⟨rfl, rfl⟩ q577 q579 qs18 q1 q580 dd_yX5_receiverAt ⟨Nat.le_of_ble_eq_true rfl, Nat.le_of_ble_eq_true rfl⟩ t5 rfl rfl hl.1 rfl (Nat.le_of_ble_eq_true rfl) ⟨Nat.le_of_ble_eq_true rfl, Nat.le_of_ble_eq_true rfl⟩ dX5_grant_9 (fun E ce q9 H locs hE hW hS g1 g2 g3 => ag_propP hf hout hlocks (Nat.le_of_ble_eq_true rfl) (Nat.le_of_ble_eq_true rfl) hE hW hS g1 g2 g3) (Nat.le_of_ble_eq_true rfl) (Nat.le_of_ble_eq_true rfl) (fun w9 H locs hr9 v9 hW hS => ?_)
  have hf := ag_inl hf hr9
  obtain ⟨s, es9⟩ : ∃ s9, s9 = r9.2 := ⟨_, rfl⟩
  rw [← es9] at hW hf
  refine lv_astore (lv' := [(7, .ref (p 1 w9)), (6, .ref (p 2 w2)), (0, .ref (p 5 0)), (1, .int x1), (2, .int x2), (3, .int x3), (4, .int x4), (5, .int x5)]) hx hb dX5_grant_12 hl (by decide) rfl (fun ls hl => ?_)
  refine lv_iload hx hb dX5_grant_14 (lv_at hl 6 rfl) ?_
  refine lv_iconst (v := (-1)) hx hb dX5_grant_16 (by decide) ?_
  refine lv_icmp_ne (tgt := 24) hx hb dX5_grant_17 (by decide) (fun c17 => ?_) (fun c17 => ?_)
  · have hf := ag_f c17 hf
    refine lv_aload_n hx hb dX5_grant_24 rfl (lv_at hl 2 rfl) ?_
    refine lv_iload hx hb dX5_grant_25 (lv_at hl 6 rfl) ?_
    obtain ⟨r27, hg27, hf⟩ := ag_xs hf
    refine ag_xVr (C1 := 3) (S1 := 18) hx hb hml hT hown hG h0 hS hW (c_X5_amendmentAt hq9 t5 hg27) ⟨rfl, rfl⟩ q438 q440 qs8 q1 q441 dd_yX5_amendmentAt ⟨Nat.le_of_ble_eq_true rfl, Nat.le_of_ble_eq_true rfl⟩ t5 rfl rfl hl.1 rfl (Nat.le_of_ble_eq_true rfl) ⟨Nat.le_of_ble_eq_true rfl, Nat.le_of_ble_eq_true rfl⟩ dX5_grant_27 (fun E ce q9 H locs hE hW hS g1 g2 g3 => ag_propP hf hout hlocks (Nat.le_of_ble_eq_true rfl) (Nat.le_of_ble_eq_true rfl) hE hW hS g1 g2 g3) (Nat.le_of_ble_eq_true rfl) (Nat.le_of_ble_eq_true rfl) (fun w27 H locs hr27 v27 hW hS => ?_)
    have hf := ag_inl hf hr27
    obtain ⟨s, es27⟩ : ∃ s9, s9 = r27.2 := ⟨_, rfl⟩
    rw [← es27] at hW hf
    rw [← (ag_refv (z := z) (p := p) v27 hW)]
    exact k30 _ _ _ _ _ _ _ _ _ v2 v9 (Or.inr v27) hW hS (lv_sub hl [2, 5, 7, 1, 0] rfl) hf
  · have hf := ag_t c17 hf
    refine lv_null hx hb dX5_grant_20 ?_
    refine lv_goto (tgt := 30) hx hb dX5_grant_21 (by decide) ?_
    refine W.widen (k := 3) (n := 18) (Nat.le_of_ble_eq_true rfl) (Nat.le_of_ble_eq_true rfl) ?_
    rw [show (Value.null) = va_rf (ag_ro z p 3 (-1)) from rfl]
    exact k30 _ _ _ _ _ _ _ _ _ v2 v9 (Or.inl rfl) hW hS (lv_sub hl [2, 5, 7, 1, 0] rfl) hf
