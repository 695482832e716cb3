/-! ===== the law: one entry of the script, then all ===== -/
def lawOp (fu L : Nat) (xs : Nat → Int32) (i o : Int32) (n : ag_N) (s : ag_S) : Option (ag_N × ag_S) := if o = 0 then arm0 fu L xs i n s else if o = 1 then arm1 fu L xs i n s else if o = 2 then arm2 fu L xs i n s else if o = 3 then arm3 fu L xs i n s else if o = 4 then arm4 fu L xs i n s else if o = 5 then arm5 fu L xs i n s else if o = 6 then arm6 fu L xs i n s else if o = 7 then arm7 fu L xs i n s else if o = 8 then arm8 fu L xs i n s else if o = 9 then arm9 fu L xs i n s else if o = 10 then arm10 fu L xs i n s else if o = 11 then arm11 fu L xs i n s else if o = 12 then arm12 fu L xs i n s else if o = 13 then arm13 fu L xs i n s else if o = 14 then arm14 fu L xs i n s else if o = 15 then arm15 fu L xs i n s else if o = 16 then arm16 fu L xs i n s else if o = 17 then arm17 fu L xs i n s else if o = 18 then arm18 fu L xs i n s else if o = 19 then arm19 fu L xs i n s else if o = 20 then arm20 fu L xs i n s else if o = 21 then arm21 fu L xs i n s else some (n, s)
def lawLoop (fu L : Nat) (xs : Nat → Int32) : Nat → Int32 → ag_N → ag_S → Option Unit
  | 0, _, _, _ => none
  | k + 1, i, n, s => if Int32.ofNat L - 6 < i then some () else if i < 0 ∨ L ≤ i.toNatClampNeg then none else match lawOp fu L xs i (xs i.toNatClampNeg &&& 31) n s with
    | none => none
    | some (n, s) => lawLoop fu L xs k (i + 6) n s
set_option maxHeartbeats 4000000 in
theorem law_op {p0 : Program} {l : Launch} {e : Env} {st : State} {m : MethodId} {args : Array Value} {below : List Frame} {meth : Method} {c : Code} {Q : State → Prop} {z : ag_Z} {fu b L : Nat} {xs : Nat → Int32} {H : Heap} {locs : List Loc} {cells slots : Nat} {ls : Array Slot} {n : ag_N} {p : ag_P} {s : ag_S} {i o : Int32} {out : ag_N × ag_S} (hq9 : l.stackTraces = false) (hx : p0.tables.exec = Jvm.exec) (hb : c.code = cL_law) (hml : c.maxLocals = 7) (hT : ∀ w ∈ ag_tbl, w.before args st = true) (hown : st.vm.findClass RL = some m.cls) (hG : ag_G z st st.heap) (h0 : z.2.2.1 ≤ st.heap.size) (hS : va_S (ag_A z) st.heap H locs) (hW : ag_W z n p s H) (t5 : vp_in 0 (n 5)) (t6 : vp_in 0 (n 6)) (t8 : vp_in 0 (n 8)) (hX : va_X b L xs st st.heap) (hbl : b < st.heap.size) (hbA : ¬ ag_A z b) (hl : lv_has ls 7 [(0, .ref b), (1, .ref (p 5 0)), (2, .ref (p 6 0)), (3, .ref (p 8 0)), (4, .int i)]) (hC : cells + 20 ≤ 601024) (hD : slots + 300 ≤ 7293034) (hf : lawOp fu L xs i o n s = some out) (kk : ∀ (p1 : ag_P) (H1 : Heap) (locs1 : List Loc) (ls1 : Array Slot), ag_ext n p p1 → ag_le n out.1 → ag_W z out.1 p1 out.2 H1 → va_S (ag_A z) st.heap H1 locs1 → lv_has ls1 7 [(0, .ref b), (1, .ref (p1 5 0)), (2, .ref (p1 6 0)), (3, .ref (p1 8 0)), (4, .int i)] → W p0 l e room_1 st m args below meth c H1 locs1 (cells + 20) (slots + 300) Q (F0 m 1572 ls1 [])) : W p0 l e room_1 st m args below meth c H locs cells slots Q (F0 m 40 ls [.int o]) := by
  unfold lawOp at hf
  by_cases c0 : o = 0
  · have hf := ag_t c0 hf
    refine lv_tableIn (off := 104) (tgt := 144) hx hb dL_law_40 (by rw [c0]; decide) (by rw [c0]; decide) (by rw [c0]; rfl) (by decide) ?_
    exact ra0 hq9 hx hb hml hT hown hG h0 hS hW t5 t6 t8 hX hbl hbA hl hC hD hf kk
  have hf := ag_f c0 hf
  by_cases c1 : o = 1
  · have hf := ag_t c1 hf
    refine lv_tableIn (off := 172) (tgt := 212) hx hb dL_law_40 (by rw [c1]; decide) (by rw [c1]; decide) (by rw [c1]; rfl) (by decide) ?_
    exact ra1 hq9 hx hb hml hT hown hG h0 hS hW t5 t6 t8 hX hbl hbA hl hC hD hf kk
  have hf := ag_f c1 hf
  by_cases c2 : o = 2
  · have hf := ag_t c2 hf
    refine lv_tableIn (off := 240) (tgt := 280) hx hb dL_law_40 (by rw [c2]; decide) (by rw [c2]; decide) (by rw [c2]; rfl) (by decide) ?_
    exact ra2 hq9 hx hb hml hT hown hG h0 hS hW t5 t6 t8 hX hbl hbA hl hC hD hf kk
  have hf := ag_f c2 hf
  by_cases c3 : o = 3
  · have hf := ag_t c3 hf
    refine lv_tableIn (off := 308) (tgt := 348) hx hb dL_law_40 (by rw [c3]; decide) (by rw [c3]; decide) (by rw [c3]; rfl) (by decide) ?_
    exact ra3 hq9 hx hb hml hT hown hG h0 hS hW t5 t6 t8 hX hbl hbA hl hC hD hf kk
  have hf := ag_f c3 hf
  by_cases c4 : o = 4
  · have hf := ag_t c4 hf
    refine lv_tableIn (off := 376) (tgt := 416) hx hb dL_law_40 (by rw [c4]; decide) (by rw [c4]; decide) (by rw [c4]; rfl) (by decide) ?_
    exact ra4 hq9 hx hb hml hT hown hG h0 hS hW t5 t6 t8 hX hbl hbA hl hC hD hf kk
  have hf := ag_f c4 hf
  by_cases c5 : o = 5
  · have hf := ag_t c5 hf
    refine lv_tableIn (off := 472) (tgt := 512) hx hb dL_law_40 (by rw [c5]; decide) (by rw [c5]; decide) (by rw [c5]; rfl) (by decide) ?_
    exact ra5 hq9 hx hb hml hT hown hG h0 hS hW t5 t6 t8 hX hbl hbA hl hC hD hf kk
  have hf := ag_f c5 hf
  by_cases c6 : o = 6
  · have hf := ag_t c6 hf
    refine lv_tableIn (off := 528) (tgt := 568) hx hb dL_law_40 (by rw [c6]; decide) (by rw [c6]; decide) (by rw [c6]; rfl) (by decide) ?_
    exact ra6 hq9 hx hb hml hT hown hG h0 hS hW t5 t6 t8 hX hbl hbA hl hC hD hf kk
  have hf := ag_f c6 hf
  by_cases c7 : o = 7
  · have hf := ag_t c7 hf
    refine lv_tableIn (off := 584) (tgt := 624) hx hb dL_law_40 (by rw [c7]; decide) (by rw [c7]; decide) (by rw [c7]; rfl) (by decide) ?_
    exact ra7 hq9 hx hb hml hT hown hG h0 hS hW t5 t6 t8 hX hbl hbA hl hC hD hf kk
  have hf := ag_f c7 hf
  by_cases c8 : o = 8
  · have hf := ag_t c8 hf
    refine lv_tableIn (off := 688) (tgt := 728) hx hb dL_law_40 (by rw [c8]; decide) (by rw [c8]; decide) (by rw [c8]; rfl) (by decide) ?_
    exact ra8 hq9 hx hb hml hT hown hG h0 hS hW t5 t6 t8 hX hbl hbA hl hC hD hf kk
  have hf := ag_f c8 hf
  by_cases c9 : o = 9
  · have hf := ag_t c9 hf
    refine lv_tableIn (off := 756) (tgt := 796) hx hb dL_law_40 (by rw [c9]; decide) (by rw [c9]; decide) (by rw [c9]; rfl) (by decide) ?_
    exact ra9 hq9 hx hb hml hT hown hG h0 hS hW t5 t6 t8 hX hbl hbA hl hC hD hf kk
  have hf := ag_f c9 hf
  by_cases c10 : o = 10
  · have hf := ag_t c10 hf
    refine lv_tableIn (off := 819) (tgt := 859) hx hb dL_law_40 (by rw [c10]; decide) (by rw [c10]; decide) (by rw [c10]; rfl) (by decide) ?_
    exact ra10 hq9 hx hb hml hT hown hG h0 hS hW t5 t6 t8 hX hbl hbA hl hC hD hf kk
  have hf := ag_f c10 hf
  by_cases c11 : o = 11
  · have hf := ag_t c11 hf
    refine lv_tableIn (off := 887) (tgt := 927) hx hb dL_law_40 (by rw [c11]; decide) (by rw [c11]; decide) (by rw [c11]; rfl) (by decide) ?_
    exact ra11 hq9 hx hb hml hT hown hG h0 hS hW t5 t6 t8 hX hbl hbA hl hC hD hf kk
  have hf := ag_f c11 hf
  by_cases c12 : o = 12
  · have hf := ag_t c12 hf
    refine lv_tableIn (off := 955) (tgt := 995) hx hb dL_law_40 (by rw [c12]; decide) (by rw [c12]; decide) (by rw [c12]; rfl) (by decide) ?_
    exact ra12 hq9 hx hb hml hT hown hG h0 hS hW t5 t6 t8 hX hbl hbA hl hC hD hf kk
  have hf := ag_f c12 hf
  by_cases c13 : o = 13
  · have hf := ag_t c13 hf
    refine lv_tableIn (off := 1023) (tgt := 1063) hx hb dL_law_40 (by rw [c13]; decide) (by rw [c13]; decide) (by rw [c13]; rfl) (by decide) ?_
    exact ra13 hq9 hx hb hml hT hown hG h0 hS hW t5 t6 t8 hX hbl hbA hl hC hD hf kk
  have hf := ag_f c13 hf
  by_cases c14 : o = 14
  · have hf := ag_t c14 hf
    refine lv_tableIn (off := 1079) (tgt := 1119) hx hb dL_law_40 (by rw [c14]; decide) (by rw [c14]; decide) (by rw [c14]; rfl) (by decide) ?_
    exact ra14 hq9 hx hb hml hT hown hG h0 hS hW t5 t6 t8 hX hbl hbA hl hC hD hf kk
  have hf := ag_f c14 hf
  by_cases c15 : o = 15
  · have hf := ag_t c15 hf
    refine lv_tableIn (off := 1135) (tgt := 1175) hx hb dL_law_40 (by rw [c15]; decide) (by rw [c15]; decide) (by rw [c15]; rfl) (by decide) ?_
    exact ra15 hq9 hx hb hml hT hown hG h0 hS hW t5 t6 t8 hX hbl hbA hl hC hD hf kk
  have hf := ag_f c15 hf
  by_cases c16 : o = 16
  · have hf := ag_t c16 hf
    refine lv_tableIn (off := 1203) (tgt := 1243) hx hb dL_law_40 (by rw [c16]; decide) (by rw [c16]; decide) (by rw [c16]; rfl) (by decide) ?_
    exact ra16 hq9 hx hb hml hT hown hG h0 hS hW t5 t6 t8 hX hbl hbA hl hC hD hf kk
  have hf := ag_f c16 hf
  by_cases c17 : o = 17
  · have hf := ag_t c17 hf
    refine lv_tableIn (off := 1259) (tgt := 1299) hx hb dL_law_40 (by rw [c17]; decide) (by rw [c17]; decide) (by rw [c17]; rfl) (by decide) ?_
    exact ra17 hq9 hx hb hml hT hown hG h0 hS hW t5 t6 t8 hX hbl hbA hl hC hD hf kk
  have hf := ag_f c17 hf
  by_cases c18 : o = 18
  · have hf := ag_t c18 hf
    refine lv_tableIn (off := 1327) (tgt := 1367) hx hb dL_law_40 (by rw [c18]; decide) (by rw [c18]; decide) (by rw [c18]; rfl) (by decide) ?_
    exact ra18 hq9 hx hb hml hT hown hG h0 hS hW t5 t6 t8 hX hbl hbA hl hC hD hf kk
  have hf := ag_f c18 hf
  by_cases c19 : o = 19
  · have hf := ag_t c19 hf
    refine lv_tableIn (off := 1395) (tgt := 1435) hx hb dL_law_40 (by rw [c19]; decide) (by rw [c19]; decide) (by rw [c19]; rfl) (by decide) ?_
    exact ra19 hq9 hx hb hml hT hown hG h0 hS hW t5 t6 t8 hX hbl hbA hl hC hD hf kk
  have hf := ag_f c19 hf
  by_cases c20 : o = 20
  · have hf := ag_t c20 hf
    refine lv_tableIn (off := 1451) (tgt := 1491) hx hb dL_law_40 (by rw [c20]; decide) (by rw [c20]; decide) (by rw [c20]; rfl) (by decide) ?_
    exact ra20 hq9 hx hb hml hT hown hG h0 hS hW t5 t6 t8 hX hbl hbA hl hC hD hf kk
  have hf := ag_f c20 hf
  by_cases c21 : o = 21
  · have hf := ag_t c21 hf
    refine lv_tableIn (off := 1464) (tgt := 1504) hx hb dL_law_40 (by rw [c21]; decide) (by rw [c21]; decide) (by rw [c21]; rfl) (by decide) ?_
    exact ra21 hq9 hx hb hml hT hown hG h0 hS hW t5 t6 t8 hX hbl hbA hl hC hD hf kk
  have hf := ag_f c21 hf
  refine lv_tableOut (tgt := 1572) hx hb dL_law_40 (ag_tab 21 (fun j hj => by rcases (show j = 0 ∨ j = 1 ∨ j = 2 ∨ j = 3 ∨ j = 4 ∨ j = 5 ∨ j = 6 ∨ j = 7 ∨ j = 8 ∨ j = 9 ∨ j = 10 ∨ j = 11 ∨ j = 12 ∨ j = 13 ∨ j = 14 ∨ j = 15 ∨ j = 16 ∨ j = 17 ∨ j = 18 ∨ j = 19 ∨ j = 20 ∨ j = 21 by omega) with rfl | rfl | rfl | rfl | rfl | rfl | rfl | rfl | rfl | rfl | rfl | rfl | rfl | rfl | rfl | rfl | rfl | rfl | rfl | rfl | rfl | rfl <;> assumption)) (by decide) ?_
  refine W.widen (k := cells + 20) (n := slots + 300) (by omega) (by omega) ?_
  have e9 := Option.some.inj hf
  subst e9
  exact kk p H locs ls (ag_ext_rf _ _) (ag_le_rf _) hW hS hl
set_option maxHeartbeats 4000000 in
set_option maxRecDepth 100000 in
theorem law_loop {p0 : Program} {l : Launch} {e : Env} {st : State} {m : MethodId} {args : Array Value} {below : List Frame} {meth : Method} {c : Code} {Q : State → Prop} {z : ag_Z} {fu b L : Nat} {xs : Nat → Int32} (hq9 : l.stackTraces = false) (hx : p0.tables.exec = Jvm.exec) (hb : c.code = cL_law) (hml : c.maxLocals = 7) (hT : ∀ w ∈ ag_tbl, w.before args st = true) (hown : st.vm.findClass RL = some m.cls) (hG : ag_G z st st.heap) (h0 : z.2.2.1 ≤ st.heap.size) (hX : va_X b L xs st st.heap) (hbl : b < st.heap.size) (hbA : ¬ ag_A z b) (hend : ∀ (H1 : Heap) (locs1 : List Loc) (ls1 : Array Slot) (cells slots : Nat), va_S (ag_A z) st.heap H1 locs1 → cells ≤ 601024 → slots ≤ 7293034 → W p0 l e room_1 st m args below meth c H1 locs1 cells slots Q (F0 m 1578 ls1 [])) : ∀ (k : Nat) (H : Heap) (locs : List Loc) (cells slots : Nat) (ls : Array Slot) (n : ag_N) (p : ag_P) (s : ag_S) (i : Int32), va_S (ag_A z) st.heap H locs → ag_W z n p s H → vp_in 0 (n 5) → vp_in 0 (n 6) → vp_in 0 (n 8) → lv_has ls 7 [(0, .ref b), (1, .ref (p 5 0)), (2, .ref (p 6 0)), (3, .ref (p 8 0)), (4, .int i)] → cells + 20 * k ≤ 601024 → slots + 300 * k ≤ 7293034 → lawLoop fu L xs k i n s = some () → W p0 l e room_1 st m args below meth c H locs cells slots Q (F0 m 23 ls []) := by
  intro k
  induction k with
  | zero => intro H locs cells slots ls n p s i _ _ _ _ _ _ _ _ hf; cases hf
  | succ k ih =>
    intro H locs cells slots ls n p s i hS hW t5 t6 t8 hl hC hD hf
    rw [lawLoop] at hf
    refine lv_iload hx hb dL_law_23 (lv_at hl 4 rfl) ?_
    refine lv_aload_n hx hb dL_law_25 rfl (lv_at hl 0 rfl) ?_
    refine va_slen hx hb hX hbl hbA hS dL_law_26 ?_
    refine lv_bipush (v := 6) hx hb dL_law_27 (by decide) ?_
    refine lv_isub hx hb dL_law_29 ?_
    refine lv_icmp_gt (tgt := 1578) hx hb dL_law_30 (by decide) (fun c30 => ?_) (fun c30 => ?_)
    · exact hend H locs ls cells slots hS (by omega) (by omega)
    have hf := ag_f c30 hf
    obtain ⟨a36, hf⟩ := ag_n hf
    refine lv_aload_n hx hb dL_law_33 rfl (lv_at hl 0 rfl) ?_
    refine lv_iload hx hb dL_law_34 (lv_at hl 4 rfl) ?_
    refine va_sld hx hb hX hbl hbA hS a36 dL_law_36 ?_
    refine lv_bipush (v := 31) hx hb dL_law_37 (by decide) ?_
    refine lv_iand hx hb dL_law_39 ?_
    cases ho : lawOp fu L xs i (xs i.toNatClampNeg &&& 31) n s with
    | none => rw [ho] at hf; cases hf
    | some out =>
      rw [ho] at hf
      refine law_op hq9 hx hb hml hT hown hG h0 hS hW t5 t6 t8 hX hbl hbA hl (by omega) (by omega) ho fun p1 H1 locs1 ls1 he hle hW1 hS1 hl1 => ?_
      refine lv_iinc (v := i + 6) (lv' := [(4, .int (i + 6)), (0, .ref b), (1, .ref (p1 5 0)), (2, .ref (p1 6 0)), (3, .ref (p1 8 0))]) hx hb dL_law_1572 hl1 (k := 4) rfl rfl (by decide) rfl (fun ls2 hl2 => ?_)
      refine lv_goto (tgt := 23) hx hb dL_law_1575 (by decide) ?_
      exact ih H1 locs1 (cells + 20) (slots + 300) ls2 out.1 p1 out.2 (i + 6) hS1 hW1 (ag_in_le t5 (hle 5)) (ag_in_le t6 (hle 6)) (ag_in_le t8 (hle 8)) (lv_sub hl2 [1, 2, 3, 4, 0] rfl) (by omega) (by omega) hf
