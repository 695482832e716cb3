def f_J8_newLength_cabcc (fu : Nat) (x0 : Int32) (x1 : Int32) (x2 : Int32) (s : ag_S) : Option Int32 := if x0 + (if x1 < x2 then x2 else x1) ≤ 0 then (none) else (if (2147483639 : Int32) < x0 + (if x1 < x2 then x2 else x1) then (none) else (some (x0 + (if x1 < x2 then x2 else x1))))
abbrev rm_J8_newLength_cabcc : Room := { frames := 1, cells := 0, slots := 0, locals := 20 }
theorem dd_yJ8_newLength_cabcc : yJ8_newLength_cabcc.cls ≠ "java/lang/invoke/MethodHandle" ∧ yJ8_newLength_cabcc.cls ≠ "java/lang/invoke/VarHandle" ∧ (parseMethodDescriptor yJ8_newLength_cabcc.desc).map (fun d => d.parameters.length) = some 3 := by decide +kernel
set_option maxHeartbeats 4000000 in
set_option maxRecDepth 100000 in
theorem c_J8_newLength_cabcc {z : ag_Z} {l : Launch} {n : ag_N} {p : ag_P} {s : ag_S} {fu : Nat} {x0 : Int32} {x1 : Int32} {x2 : Int32} {out : Int32}  (hf : f_J8_newLength_cabcc fu x0 x1 x2 s = some out) : Met l yJ8_newLength_cabcc (ag_ws yJ8_newLength_cabcc cJ8_newLength_cabcc 4 ((some FieldType.int))) rm_J8_newLength_cabcc (va_Pc [.int x0, .int x1, .int x2] (ag_Pre z n p s)) (ag_Ri z n p out s) 0 0 (ag_A z) := by
  refine Met.ofW (cc := cJ8_newLength_cabcc) (maxL := 4) (ret := (some FieldType.int)) (by decide) rfl ?_
  intro p0 e st m args below meth c s9 B hml hv
  obtain ⟨ha, h0, hG, hW⟩ := hv
  have hx := B.exec
  have hb := B.bytes
  have hr := B.returns
  have hts := atoms_spec (ws := ag_ws yJ8_newLength_cabcc cJ8_newLength_cabcc 4 ((some FieldType.int))) B.pre
  have hT : ∀ w ∈ ag_tbl, w.before args st = true := fun w h => hts w (List.mem_cons_of_mem _ h)
  have hown : st.vm.findClass RJ8 = some m.cls := findClass_of_methodNamed B.named
  have hlocks := B.notSynchronized
  have hS : va_S (ag_A z) st.heap st.heap [] := va_S.rf
  obtain ⟨ls, hls, hl⟩ : ∃ ls, entryFrame m args 4 = F0 m 0 ls [] ∧ lv_has ls 4 [(0, .int x0), (1, .int x1), (2, .int x2)] := by rw [ha]; exact ag_entry m [.int x0, .int x1, .int x2] (Nat.le_of_ble_eq_true rfl)
  rw [hls]
  unfold f_J8_newLength_cabcc at hf
  refine lv_iload_n hx hb dJ8_newLength_cabcc_0 rfl (lv_at hl 0 rfl) ?_
  refine lv_iload_n hx hb dJ8_newLength_cabcc_1 rfl (lv_at hl 1 rfl) ?_
  refine lv_iload_n hx hb dJ8_newLength_cabcc_2 rfl (lv_at hl 2 rfl) ?_
  refine va_mmax hx hb (hml.trans hl.1.symm) hown (hT _ q96) (hT _ q97) (hT _ q7) (hT _ q98) (Nat.le_of_ble_eq_true rfl) (Nat.le_of_ble_eq_true rfl) (Nat.le_of_ble_eq_true rfl) (Nat.le_of_ble_eq_true rfl) dJ8_newLength_cabcc_3 ?_
  refine lv_iadd hx hb dJ8_newLength_cabcc_6 ?_
  refine lv_istore_n (lv' := [(3, .int (x0 + (if x1 < x2 then x2 else x1))), (0, .int x0), (1, .int x1), (2, .int x2)]) hx hb dJ8_newLength_cabcc_7 rfl hl (by decide) rfl (fun ls hl => ?_)
  refine lv_iconst (v := 0) hx hb dJ8_newLength_cabcc_8 (by decide) ?_
  refine lv_iload_n hx hb dJ8_newLength_cabcc_9 rfl (lv_at hl 0 rfl) ?_
  refine lv_icmp_ge (tgt := 21) hx hb dJ8_newLength_cabcc_10 (by decide) (fun c10 => ?_) (fun c10 => ?_)
  · have hf := ag_t c10 hf
    cases hf
  · have hf := ag_f c10 hf
    refine lv_iload_n hx hb dJ8_newLength_cabcc_13 rfl (lv_at hl 0 rfl) ?_
    refine lv_ldc (v := 2147483639) hx hb hown (hT _ q99) dJ8_newLength_cabcc_14 ?_
    refine lv_icmp_gt (tgt := 21) hx hb dJ8_newLength_cabcc_16 (by decide) (fun c16 => ?_) (fun c16 => ?_)
    · have hf := ag_t c16 hf
      cases hf
    · have hf := ag_f c16 hf
      refine lv_iload_n hx hb dJ8_newLength_cabcc_19 rfl (lv_at hl 0 rfl) ?_
      exact ag_iret hx hb hr rfl hlocks hS (Option.some.inj hf) hW dJ8_newLength_cabcc_20
def f_J7_copyOf_6403c_0 (fu : Nat) (x0 : Int32) (x1 : Int32) (n : ag_N) (s : ag_S) : Option (Int32 × (ag_N × ag_S)) := if 1000 ≤ n 20 ∨ x1 < 0 ∨ 100 < (x1).toNatClampNeg then none else if (if x1 < nI ((ag_s3 s 20 (n 20) x1) 80 0 x0).toNatClampNeg then x1 else nI ((ag_s3 s 20 (n 20) x1) 80 0 x0).toNatClampNeg) < 0 ∨ ((ag_s3 s 20 (n 20) x1) 80 0 x0).toNatClampNeg < (if x1 < nI ((ag_s3 s 20 (n 20) x1) 80 0 x0).toNatClampNeg then x1 else nI ((ag_s3 s 20 (n 20) x1) 80 0 x0).toNatClampNeg).toNatClampNeg ∨ ((ag_s3 s 20 (n 20) x1) 80 0 (nI (n 20))).toNatClampNeg < (if x1 < nI ((ag_s3 s 20 (n 20) x1) 80 0 x0).toNatClampNeg then x1 else nI ((ag_s3 s 20 (n 20) x1) 80 0 x0).toNatClampNeg).toNatClampNeg ∨ 1000 < ((ag_s3 s 20 (n 20) x1) 80 0 (nI (n 20))).toNatClampNeg then none else some ((nI (n 20)), ((ag_nn n 20), (ag_sc (ag_s3 s 20 (n 20) x1) 20 x0.toNatClampNeg (nI (n 20)).toNatClampNeg (if x1 < nI ((ag_s3 s 20 (n 20) x1) 80 0 x0).toNatClampNeg then x1 else nI ((ag_s3 s 20 (n 20) x1) 80 0 x0).toNatClampNeg).toNatClampNeg)))
abbrev rm_J7_copyOf_6403c_0 : Room := { frames := 1, cells := 1, slots := 100, locals := 40 }
theorem dd_yJ7_copyOf_6403c : yJ7_copyOf_6403c.cls ≠ "java/lang/invoke/MethodHandle" ∧ yJ7_copyOf_6403c.cls ≠ "java/lang/invoke/VarHandle" ∧ (parseMethodDescriptor yJ7_copyOf_6403c.desc).map (fun d => d.parameters.length) = some 3 := by decide +kernel
set_option maxHeartbeats 4000000 in
set_option maxRecDepth 100000 in
theorem c_J7_copyOf_6403c_0 {z : ag_Z} {l : Launch} {n : ag_N} {p : ag_P} {s : ag_S} {fu : Nat} {x0 : Int32} {x1 : Int32} {out : Int32 × (ag_N × ag_S)} (v0 : vp_in x0 (n 20)) (hf : f_J7_copyOf_6403c_0 fu x0 x1 n s = some out) : Met l yJ7_copyOf_6403c (ag_ws yJ7_copyOf_6403c cJ7_copyOf_6403c 4 ((some (FieldType.array (FieldType.object "java/lang/Object"))))) rm_J7_copyOf_6403c_0 (va_Pc [.ref (p 20 x0), .int x1, .ref (z.2.1 4)] (ag_Pre z n p s)) (ag_Pr z n p 20 out.1 out.2.1 out.2.2) 1 100 (ag_A z) := by
  refine Met.ofW (cc := cJ7_copyOf_6403c) (maxL := 4) (ret := (some (FieldType.array (FieldType.object "java/lang/Object")))) (by decide) rfl ?_
  intro p0 e st m args below meth c s9 B hml hv
  obtain ⟨ha, h0, hG, hW⟩ := hv
  have hx := B.exec
  have hb := B.bytes
  have hr := B.returns
  have hts := atoms_spec (ws := ag_ws yJ7_copyOf_6403c cJ7_copyOf_6403c 4 ((some (FieldType.array (FieldType.object "java/lang/Object"))))) B.pre
  have hT : ∀ w ∈ ag_tbl, w.before args st = true := fun w h => hts w (List.mem_cons_of_mem _ h)
  have hown : st.vm.findClass RJ7 = some m.cls := findClass_of_methodNamed B.named
  have hlocks := B.notSynchronized
  have hS : va_S (ag_A z) st.heap st.heap [] := va_S.rf
  obtain ⟨ls, hls, hl⟩ : ∃ ls, entryFrame m args 4 = F0 m 0 ls [] ∧ lv_has ls 4 [(0, .ref (p 20 x0)), (1, .int x1), (2, .ref (z.2.1 4))] := by rw [ha]; exact ag_entry m [.ref (p 20 x0), .int x1, .ref (z.2.1 4)] (Nat.le_of_ble_eq_true rfl)
  rw [hls]
  unfold f_J7_copyOf_6403c_0 at hf
  refine lv_aload_n hx hb dJ7_copyOf_6403c_0 rfl (lv_at hl 2 rfl) ?_
  refine va_ldcM hx hb hown (hT _ q124) hG.2.2.2.2.2.2.2.1 dJ7_copyOf_6403c_1 ?_
  refine lv_acmp_ne (tgt := 13) (rx := some (z.2.1 4)) (ry := some (z.2.1 4)) hx hb dJ7_copyOf_6403c_3 (by decide) (fun h => absurd rfl h) (fun _ => ?_)
  refine lv_iload_n hx hb dJ7_copyOf_6403c_6 rfl (lv_at hl 1 rfl) ?_
  obtain ⟨m7, hf⟩ := ag_n hf
  have j7 : ¬ 1000 ≤ n 20 := fun q => m7 (Or.inl q)
  refine ag_newr (k := 20) (j := 0) hx hb hT hown hG h0 hS hW (Nat.lt_of_not_le j7) rfl (by decide) q126 (fun q => m7 (Or.inr (Or.inl q))) (Nat.not_lt.mp fun q => m7 (Or.inr (Or.inr q))) (Nat.le_of_ble_eq_true rfl) (Nat.le_of_ble_eq_true rfl) dJ7_copyOf_6403c_7 (fun p H hp7 hW hS => ?_)
  have sl7 := (ag_le_nn n 20)
  have he7 := ag_ext_tr (ag_le_rf _) (ag_ext_rf _ _) hp7
  have hl7 := ag_le_tr (ag_le_rf _) sl7
  rw [← hp7 20 x0 v0] at hl
  refine lv_goto (tgt := 24) hx hb dJ7_copyOf_6403c_10 (by decide) ?_
  refine lv_astore_n (lv' := [(3, .ref (p 20 (nI (n 20)))), (0, .ref (p 20 x0)), (1, .int x1), (2, .ref (z.2.1 4))]) hx hb dJ7_copyOf_6403c_24 rfl hl (by decide) rfl (fun ls hl => ?_)
  refine lv_aload_n hx hb dJ7_copyOf_6403c_25 rfl (lv_at hl 1 rfl) ?_
  refine lv_iconst (v := 0) hx hb dJ7_copyOf_6403c_26 (by decide) ?_
  refine lv_aload_n hx hb dJ7_copyOf_6403c_27 rfl (lv_at hl 0 rfl) ?_
  refine lv_iconst (v := 0) hx hb dJ7_copyOf_6403c_28 (by decide) ?_
  refine lv_aload_n hx hb dJ7_copyOf_6403c_29 rfl (lv_at hl 1 rfl) ?_
  refine ag_alen hx hb hG hW (ag_in_le v0 (sl7 _)) rfl rfl (k6 := 80) rfl dJ7_copyOf_6403c_30 ?_
  refine lv_iload_n hx hb dJ7_copyOf_6403c_31 rfl (lv_at hl 2 rfl) ?_
  refine va_mmin hx hb (hml.trans hl.1.symm) hown (hT _ q127) (hT _ q128) (hT _ q7) (hT _ q129) (Nat.le_of_ble_eq_true rfl) (Nat.le_of_ble_eq_true rfl) (Nat.le_of_ble_eq_true rfl) (Nat.le_of_ble_eq_true rfl) dJ7_copyOf_6403c_32 ?_
  obtain ⟨a35, hf⟩ := ag_n hf
  refine ag_copy (k := 20) (j := 0) (k6 := 80) ⟨ag_z0, ag_zn⟩ ⟨ag_z0, ag_zn⟩ hx hb hml hl.1 hT hown hG hS hW q130 q132 q131 q9 rfl (by decide) rfl (ag_in_le v0 (sl7 _)) (ag_new_v j7) (fun q => a35 (q.elim Or.inl (fun q => Or.inr (q.elim Or.inl (fun q => Or.inr (Or.inl q)))))) (Nat.not_lt.mp fun q => a35 (Or.inr (Or.inr (Or.inr q)))) rfl rfl cx0 (Nat.le_of_ble_eq_true rfl) (Nat.le_of_ble_eq_true rfl) dJ7_copyOf_6403c_35 (fun H locs hW hS => ?_)
  refine lv_aload_n hx hb dJ7_copyOf_6403c_38 rfl (lv_at hl 0 rfl) ?_
  exact ag_Paret hx hb hr (Or.inr ⟨_, rfl⟩) hlocks hS hf he7 hl7 (ag_new_v j7) hW dJ7_copyOf_6403c_39
def f_J7_copyOf_1904c_0 (fu : Nat) (x0 : Int32) (x1 : Int32) (n : ag_N) (s : ag_S) : Option (Int32 × (ag_N × ag_S)) := ag_bd (f_J7_copyOf_6403c_0 fu x0 x1 n s) fun r6 => some (r6.1, (r6.2.1, r6.2.2))
abbrev rm_J7_copyOf_1904c_0 : Room := { frames := 2, cells := 1, slots := 100, locals := 63 }
theorem dd_yJ7_copyOf_1904c : yJ7_copyOf_1904c.cls ≠ "java/lang/invoke/MethodHandle" ∧ yJ7_copyOf_1904c.cls ≠ "java/lang/invoke/VarHandle" ∧ (parseMethodDescriptor yJ7_copyOf_1904c.desc).map (fun d => d.parameters.length) = some 2 := by decide +kernel
set_option maxHeartbeats 4000000 in
set_option maxRecDepth 100000 in
theorem c_J7_copyOf_1904c_0 {z : ag_Z} {l : Launch} {n : ag_N} {p : ag_P} {s : ag_S} {fu : Nat} {x0 : Int32} {x1 : Int32} {out : Int32 × (ag_N × ag_S)} (v0 : vp_in x0 (n 20)) (hf : f_J7_copyOf_1904c_0 fu x0 x1 n s = some out) : Met l yJ7_copyOf_1904c (ag_ws yJ7_copyOf_1904c cJ7_copyOf_1904c 2 ((some (FieldType.array (FieldType.object "java/lang/Object"))))) rm_J7_copyOf_1904c_0 (va_Pc [.ref (p 20 x0), .int x1] (ag_Pre z n p s)) (ag_Pr z n p 20 out.1 out.2.1 out.2.2) 1 100 (ag_A z) := by
  refine Met.ofW (cc := cJ7_copyOf_1904c) (maxL := 2) (ret := (some (FieldType.array (FieldType.object "java/lang/Object")))) (by decide) rfl ?_
  intro p0 e st m args below meth c s9 B hml hv
  obtain ⟨ha, h0, hG, hW⟩ := hv
  have hx := B.exec
  have hb := B.bytes
  have hr := B.returns
  have hts := atoms_spec (ws := ag_ws yJ7_copyOf_1904c cJ7_copyOf_1904c 2 ((some (FieldType.array (FieldType.object "java/lang/Object"))))) B.pre
  have hT : ∀ w ∈ ag_tbl, w.before args st = true := fun w h => hts w (List.mem_cons_of_mem _ h)
  have hown : st.vm.findClass RJ7 = some m.cls := findClass_of_methodNamed B.named
  have hlocks := B.notSynchronized
  have hS : va_S (ag_A z) st.heap st.heap [] := va_S.rf
  obtain ⟨ls, hls, hl⟩ : ∃ ls, entryFrame m args 2 = F0 m 0 ls [] ∧ lv_has ls 2 [(0, .ref (p 20 x0)), (1, .int x1)] := by rw [ha]; exact ag_entry m [.ref (p 20 x0), .int x1] (Nat.le_of_ble_eq_true rfl)
  rw [hls]
  unfold f_J7_copyOf_1904c_0 at hf
  refine lv_aload_n hx hb dJ7_copyOf_1904c_0 rfl (lv_at hl 0 rfl) ?_
  refine lv_iload_n hx hb dJ7_copyOf_1904c_1 rfl (lv_at hl 1 rfl) ?_
  refine lv_aload_n hx hb dJ7_copyOf_1904c_2 rfl (lv_at hl 0 rfl) ?_
  refine ag_getC (k := 20) (j := 0) hx hb hml hl.1 hT hown hG hW q106 dcl0 q1070 q107 q120 rfl (by decide) v0 (Nat.le_of_ble_eq_true rfl) (Nat.le_of_ble_eq_true rfl) dJ7_copyOf_1904c_3 ?_
  obtain ⟨r6, hg6, hf⟩ := ag_bs hf
  refine ag_aSr (C1 := 1) (S1 := 100) hx hb hml hT hown hG h0 hS hW (c_J7_copyOf_6403c_0 v0 hg6) ⟨rfl, rfl⟩ q121 q122 q8 q123 dd_yJ7_copyOf_6403c ⟨Nat.le_of_ble_eq_true rfl, Nat.le_of_ble_eq_true rfl⟩ hl.1 rfl (Nat.le_of_ble_eq_true rfl) ⟨Nat.le_of_ble_eq_true rfl, Nat.le_of_ble_eq_true rfl⟩ dJ7_copyOf_1904c_6 (Nat.le_of_ble_eq_true rfl) (Nat.le_of_ble_eq_true rfl) (fun p H locs hp6 hle6 hW hS v6 => ?_)
  have sl6 := hle6
  have he6 := ag_ext_tr (ag_le_rf _) (ag_ext_rf _ _) hp6
  have hl6 := ag_le_tr (ag_le_rf _) sl6
  rw [← hp6 20 x0 v0] at hl
  exact ag_Paret hx hb hr (Or.inr ⟨_, rfl⟩) hlocks hS hf he6 hl6 v6 hW dJ7_copyOf_1904c_9
def f_Jx4a65c_grow_92f84_0 (fu : Nat) (x1 : Int32) (n : ag_N) (s : ag_S) : Option (Int32 × (ag_N × ag_S)) := if s 10 1 0 = -1 then none else if (0 : Int32) < ag_ln s 80 (s 10 1 0) then (ag_bd (f_J8_newLength_cabcc fu (ag_ln s 80 (s 10 1 0)) (x1 - (ag_ln s 80 (s 10 1 0))) ((ag_ln s 80 (s 10 1 0)) >>> ((1 : Int32) &&& 31)) s) fun r27 => if s 10 1 0 = -1 then none else if s 10 1 0 = -2 then none else ag_bd (f_J7_copyOf_1904c_0 fu (s 10 1 0) r27 n s) fun r37 => some (r37.1, (r37.2.1, (ag_up r37.2.2 10 1 0 r37.1)))) else (if s 10 1 0 = -1 then none else if s 10 1 0 = -2 then (if 1000 ≤ n 20 ∨ (if 10 < x1 then x1 else 10) < 0 ∨ 100 < (if 10 < x1 then x1 else 10).toNatClampNeg then none else some ((nI (n 20)), ((ag_nn n 20), (ag_up (ag_s3 s 20 (n 20) (if 10 < x1 then x1 else 10)) 10 1 0 (nI (n 20)))))) else (ag_bd (f_J8_newLength_cabcc fu (ag_ln s 80 (s 10 1 0)) (x1 - (ag_ln s 80 (s 10 1 0))) ((ag_ln s 80 (s 10 1 0)) >>> ((1 : Int32) &&& 31)) s) fun r27 => if s 10 1 0 = -1 then none else if s 10 1 0 = -2 then none else ag_bd (f_J7_copyOf_1904c_0 fu (s 10 1 0) r27 n s) fun r37 => some (r37.1, (r37.2.1, (ag_up r37.2.2 10 1 0 r37.1)))))
abbrev rm_Jx4a65c_grow_92f84_0 : Room := { frames := 3, cells := 1, slots := 100, locals := 84 }
theorem dd_yJx4a65c_grow_92f84 : yJx4a65c_grow_92f84.cls = RJx4a65c ∧ yJx4a65c_grow_92f84.cls ≠ "java/lang/invoke/MethodHandle" ∧ yJx4a65c_grow_92f84.cls ≠ "java/lang/invoke/VarHandle" ∧ (parseMethodDescriptor yJx4a65c_grow_92f84.desc).map (fun d => d.parameters.length) = some 1 := by decide +kernel
set_option maxHeartbeats 4000000 in
set_option maxRecDepth 100000 in
theorem c_Jx4a65c_grow_92f84_0 {z : ag_Z} {l : Launch} {n : ag_N} {p : ag_P} {s : ag_S} {fu : Nat} {x1 : Int32} {out : Int32 × (ag_N × ag_S)} (t10 : vp_in 0 (n 10)) (hf : f_Jx4a65c_grow_92f84_0 fu x1 n s = some out) : Met l yJx4a65c_grow_92f84 (ag_ws yJx4a65c_grow_92f84 cJx4a65c_grow_92f84 4 ((some (FieldType.array (FieldType.object "java/lang/Object"))))) rm_Jx4a65c_grow_92f84_0 (va_Pc [.ref (p 10 0), .int x1] (ag_Pre z n p s)) (ag_Pr z n p 20 out.1 out.2.1 out.2.2) 1 100 (ag_A z) := by
  refine Met.ofW (cc := cJx4a65c_grow_92f84) (maxL := 4) (ret := (some (FieldType.array (FieldType.object "java/lang/Object")))) (by decide) rfl ?_
  intro p0 e st m args below meth c s9 B hml hv
  obtain ⟨ha, h0, hG, hW⟩ := hv
  have hx := B.exec
  have hb := B.bytes
  have hr := B.returns
  have hts := atoms_spec (ws := ag_ws yJx4a65c_grow_92f84 cJx4a65c_grow_92f84 4 ((some (FieldType.array (FieldType.object "java/lang/Object"))))) B.pre
  have hT : ∀ w ∈ ag_tbl, w.before args st = true := fun w h => hts w (List.mem_cons_of_mem _ h)
  have hown : st.vm.findClass RJx4a65c = some m.cls := findClass_of_methodNamed B.named
  have hlocks := B.notSynchronized
  have hS : va_S (ag_A z) st.heap st.heap [] := va_S.rf
  obtain ⟨ls, hls, hl⟩ : ∃ ls, entryFrame m args 4 = F0 m 0 ls [] ∧ lv_has ls 4 [(0, .ref (p 10 0)), (1, .int x1)] := by rw [ha]; exact ag_entry m [.ref (p 10 0), .int x1] (Nat.le_of_ble_eq_true rfl)
  rw [hls]
  unfold f_Jx4a65c_grow_92f84_0 at hf
  refine lv_aload_n hx hb dJx4a65c_grow_92f84_0 rfl (lv_at hl 0 rfl) ?_
  refine g10_1 hx hb hT hown hG hW t10 q46 dJx4a65c_grow_92f84_1 ?_
  obtain ⟨m1, hf⟩ := ag_n hf
  have o1 := ag_lor hW (k := 10) (f := 1) (t := 20) rfl rfl m1
  refine ag_alenE (k := 20) (k6 := 80) hx hb hG hS hW o1 rfl rfl rfl dJx4a65c_grow_92f84_4 ?_
  refine lv_istore_n (lv' := [(2, .int (ag_ln s 80 (s 10 1 0))), (0, .ref (p 10 0)), (1, .int x1)]) hx hb dJx4a65c_grow_92f84_5 rfl hl (by decide) rfl (fun ls hl => ?_)
  refine lv_iload_n hx hb dJx4a65c_grow_92f84_6 rfl (lv_at hl 0 rfl) ?_
  refine lv_if_gt (tgt := 20) hx hb dJx4a65c_grow_92f84_7 (by decide) (fun c7 => ?_) (fun c7 => ?_)
  · have hf := ag_t c7 hf
    refine lv_iload_n hx hb dJx4a65c_grow_92f84_20 rfl (lv_at hl 0 rfl) ?_
    refine lv_iload_n hx hb dJx4a65c_grow_92f84_21 rfl (lv_at hl 2 rfl) ?_
    refine lv_iload_n hx hb dJx4a65c_grow_92f84_22 rfl (lv_at hl 0 rfl) ?_
    refine lv_isub hx hb dJx4a65c_grow_92f84_23 ?_
    refine lv_iload_n hx hb dJx4a65c_grow_92f84_24 rfl (lv_at hl 0 rfl) ?_
    refine lv_iconst (v := 1) hx hb dJx4a65c_grow_92f84_25 (by decide) ?_
    refine lv_ishr hx hb dJx4a65c_grow_92f84_26 ?_
    obtain ⟨r27, hg27, hf⟩ := ag_bs hf
    refine ag_cSi hx hb hml hT hown hG h0 hS hW (c_J8_newLength_cabcc hg27) ⟨rfl, rfl⟩ q93 q94 q6 q95 dd_yJ8_newLength_cabcc ⟨Nat.le_of_ble_eq_true rfl, Nat.le_of_ble_eq_true rfl⟩ hl.1 rfl (Nat.le_of_ble_eq_true rfl) ⟨Nat.le_of_ble_eq_true rfl, Nat.le_of_ble_eq_true rfl⟩ dJx4a65c_grow_92f84_27 (fun H locs hW hS => ?_)
    refine lv_istore_n (lv' := [(3, .int r27), (2, .int (ag_ln s 80 (s 10 1 0))), (0, .ref (p 10 0)), (1, .int x1)]) hx hb dJx4a65c_grow_92f84_30 rfl hl (by decide) rfl (fun ls hl => ?_)
    refine lv_aload_n hx hb dJx4a65c_grow_92f84_31 rfl (lv_at hl 2 rfl) ?_
    refine lv_aload_n hx hb dJx4a65c_grow_92f84_32 rfl (lv_at hl 2 rfl) ?_
    refine g10_1 hx hb hT hown hG hW t10 q46 dJx4a65c_grow_92f84_33 ?_
    obtain ⟨m33, hf⟩ := ag_n hf
    have o33 := ag_lor hW (k := 10) (f := 1) (t := 20) rfl rfl m33
    refine lv_iload_n hx hb dJx4a65c_grow_92f84_36 rfl (lv_at hl 0 rfl) ?_
    obtain ⟨l37, hf⟩ := ag_n hf
    have lv37 := Or.resolve_left o33 l37
    rw [ag_refv (z := z) (p := p) lv37 hW]
    obtain ⟨r37, hg37, hf⟩ := ag_bs hf
    refine ag_aSr (C1 := 1) (S1 := 100) hx hb hml hT hown hG h0 hS hW (c_J7_copyOf_1904c_0 lv37 hg37) ⟨rfl, rfl⟩ q103 q104 q8 q105 dd_yJ7_copyOf_1904c ⟨Nat.le_of_ble_eq_true rfl, Nat.le_of_ble_eq_true rfl⟩ hl.1 rfl (Nat.le_of_ble_eq_true rfl) ⟨Nat.le_of_ble_eq_true rfl, Nat.le_of_ble_eq_true rfl⟩ dJx4a65c_grow_92f84_37 (Nat.le_of_ble_eq_true rfl) (Nat.le_of_ble_eq_true rfl) (fun p H locs hp37 hle37 hW hS v37 => ?_)
    have sl37 := hle37
    have he37 := ag_ext_tr (ag_le_rf _) (ag_ext_rf _ _) hp37
    have hl37 := ag_le_tr (ag_le_rf _) sl37
    rw [← hp37 10 0 t10] at hl
    rw [← hp37 10 0 t10]
    refine lv_dup_x1 hx hb dJx4a65c_grow_92f84_40 rfl rfl ?_
    refine u10_1 hx hb hT hown hG hW hS (ag_in_le t10 (sl37 _)) (ag_refv (z := z) (p := p) v37 hW).symm (Or.inl (Or.inr v37)) q46 dJx4a65c_grow_92f84_41 (fun H locs hW hS => ?_)
    exact ag_Paret hx hb hr (Or.inr ⟨_, rfl⟩) hlocks hS hf he37 hl37 v37 hW dJx4a65c_grow_92f84_44
  · have hf := ag_f c7 hf
    refine lv_aload_n hx hb dJx4a65c_grow_92f84_10 rfl (lv_at hl 1 rfl) ?_
    refine g10_1 hx hb hT hown hG hW t10 q46 dJx4a65c_grow_92f84_11 ?_
    obtain ⟨m11, hf⟩ := ag_n hf
    have o11 := ag_lor hW (k := 10) (f := 1) (t := 20) rfl rfl m11
    refine ag_getst hx hb hT hown hG hS q44 dJx4a65c_grow_92f84_14 ?_
    refine ag_acmE (t := 20) (v := s 10 1 0) (tgt := 45) hx hb hG hW o11 dJx4a65c_grow_92f84_17 (by decide) (fun c17 => ?_) (fun c17 => ?_)
    · have hf := ag_t c17 hf
      refine lv_aload_n hx hb dJx4a65c_grow_92f84_45 rfl (lv_at hl 1 rfl) ?_
      refine lv_bipush (v := 10) hx hb dJx4a65c_grow_92f84_46 (by decide) ?_
      refine lv_iload_n hx hb dJx4a65c_grow_92f84_48 rfl (lv_at hl 2 rfl) ?_
      refine va_mmax hx hb (hml.trans hl.1.symm) hown (hT _ q133) (hT _ q97) (hT _ q7) (hT _ q98) (Nat.le_of_ble_eq_true rfl) (Nat.le_of_ble_eq_true rfl) (Nat.le_of_ble_eq_true rfl) (Nat.le_of_ble_eq_true rfl) dJx4a65c_grow_92f84_49 ?_
      obtain ⟨m52, hf⟩ := ag_n hf
      have j52 : ¬ 1000 ≤ n 20 := fun q => m52 (Or.inl q)
      refine ag_newr (k := 20) (j := 0) hx hb hT hown hG h0 hS hW (Nat.lt_of_not_le j52) rfl (by decide) q134 (fun q => m52 (Or.inr (Or.inl q))) (Nat.not_lt.mp fun q => m52 (Or.inr (Or.inr q))) (Nat.le_of_ble_eq_true rfl) (Nat.le_of_ble_eq_true rfl) dJx4a65c_grow_92f84_52 (fun p H hp52 hW hS => ?_)
      have sl52 := (ag_le_nn n 20)
      have he52 := ag_ext_tr (ag_le_rf _) (ag_ext_rf _ _) hp52
      have hl52 := ag_le_tr (ag_le_rf _) sl52
      rw [← hp52 10 0 t10] at hl
      rw [← hp52 10 0 t10]
      refine lv_dup_x1 hx hb dJx4a65c_grow_92f84_55 rfl rfl ?_
      refine u10_1 hx hb hT hown hG hW hS (ag_in_le t10 (sl52 _)) (ag_refv (z := z) (p := p) (ag_new_v j52) hW).symm (Or.inl (Or.inr (ag_new_v j52))) q46 dJx4a65c_grow_92f84_56 (fun H locs hW hS => ?_)
      exact ag_Paret hx hb hr (Or.inr ⟨_, rfl⟩) hlocks hS hf he52 hl52 (ag_new_v j52) hW dJx4a65c_grow_92f84_59
    · have hf := ag_f c17 hf
      refine lv_iload_n hx hb dJx4a65c_grow_92f84_20 rfl (lv_at hl 0 rfl) ?_
      refine lv_iload_n hx hb dJx4a65c_grow_92f84_21 rfl (lv_at hl 2 rfl) ?_
      refine lv_iload_n hx hb dJx4a65c_grow_92f84_22 rfl (lv_at hl 0 rfl) ?_
      refine lv_isub hx hb dJx4a65c_grow_92f84_23 ?_
      refine lv_iload_n hx hb dJx4a65c_grow_92f84_24 rfl (lv_at hl 0 rfl) ?_
      refine lv_iconst (v := 1) hx hb dJx4a65c_grow_92f84_25 (by decide) ?_
      refine lv_ishr hx hb dJx4a65c_grow_92f84_26 ?_
      obtain ⟨r27, hg27, hf⟩ := ag_bs hf
      refine ag_cSi hx hb hml hT hown hG h0 hS hW (c_J8_newLength_cabcc hg27) ⟨rfl, rfl⟩ q93 q94 q6 q95 dd_yJ8_newLength_cabcc ⟨Nat.le_of_ble_eq_true rfl, Nat.le_of_ble_eq_true rfl⟩ hl.1 rfl (Nat.le_of_ble_eq_true rfl) ⟨Nat.le_of_ble_eq_true rfl, Nat.le_of_ble_eq_true rfl⟩ dJx4a65c_grow_92f84_27 (fun H locs hW hS => ?_)
      refine lv_istore_n (lv' := [(3, .int r27), (2, .int (ag_ln s 80 (s 10 1 0))), (0, .ref (p 10 0)), (1, .int x1)]) hx hb dJx4a65c_grow_92f84_30 rfl hl (by decide) rfl (fun ls hl => ?_)
      refine lv_aload_n hx hb dJx4a65c_grow_92f84_31 rfl (lv_at hl 2 rfl) ?_
      refine lv_aload_n hx hb dJx4a65c_grow_92f84_32 rfl (lv_at hl 2 rfl) ?_
      refine g10_1 hx hb hT hown hG hW t10 q46 dJx4a65c_grow_92f84_33 ?_
      obtain ⟨m33, hf⟩ := ag_n hf
      have o33 := ag_lor hW (k := 10) (f := 1) (t := 20) rfl rfl m33
      refine lv_iload_n hx hb dJx4a65c_grow_92f84_36 rfl (lv_at hl 0 rfl) ?_
      obtain ⟨l37, hf⟩ := ag_n hf
      have lv37 := Or.resolve_left o33 l37
      rw [ag_refv (z := z) (p := p) lv37 hW]
      obtain ⟨r37, hg37, hf⟩ := ag_bs hf
      refine ag_aSr (C1 := 1) (S1 := 100) hx hb hml hT hown hG h0 hS hW (c_J7_copyOf_1904c_0 lv37 hg37) ⟨rfl, rfl⟩ q103 q104 q8 q105 dd_yJ7_copyOf_1904c ⟨Nat.le_of_ble_eq_true rfl, Nat.le_of_ble_eq_true rfl⟩ hl.1 rfl (Nat.le_of_ble_eq_true rfl) ⟨Nat.le_of_ble_eq_true rfl, Nat.le_of_ble_eq_true rfl⟩ dJx4a65c_grow_92f84_37 (Nat.le_of_ble_eq_true rfl) (Nat.le_of_ble_eq_true rfl) (fun p H locs hp37 hle37 hW hS v37 => ?_)
      have sl37 := hle37
      have he37 := ag_ext_tr (ag_le_rf _) (ag_ext_rf _ _) hp37
      have hl37 := ag_le_tr (ag_le_rf _) sl37
      rw [← hp37 10 0 t10] at hl
      rw [← hp37 10 0 t10]
      refine lv_dup_x1 hx hb dJx4a65c_grow_92f84_40 rfl rfl ?_
      refine u10_1 hx hb hT hown hG hW hS (ag_in_le t10 (sl37 _)) (ag_refv (z := z) (p := p) v37 hW).symm (Or.inl (Or.inr v37)) q46 dJx4a65c_grow_92f84_41 (fun H locs hW hS => ?_)
      exact ag_Paret hx hb hr (Or.inr ⟨_, rfl⟩) hlocks hS hf he37 hl37 v37 hW dJx4a65c_grow_92f84_44
def f_Jx4a65c_grow_d5877_0 (fu : Nat) (n : ag_N) (s : ag_S) : Option (Int32 × (ag_N × ag_S)) := ag_bd (f_Jx4a65c_grow_92f84_0 fu ((s 10 2 0) + 1) n s) fun r7 => some (r7.1, (r7.2.1, r7.2.2))
abbrev rm_Jx4a65c_grow_d5877_0 : Room := { frames := 4, cells := 1, slots := 100, locals := 107 }
theorem dd_yJx4a65c_grow_d5877 : yJx4a65c_grow_d5877.cls = RJx4a65c ∧ yJx4a65c_grow_d5877.cls ≠ "java/lang/invoke/MethodHandle" ∧ yJx4a65c_grow_d5877.cls ≠ "java/lang/invoke/VarHandle" ∧ (parseMethodDescriptor yJx4a65c_grow_d5877.desc).map (fun d => d.parameters.length) = some 0 := by decide +kernel
set_option maxHeartbeats 4000000 in
set_option maxRecDepth 100000 in
theorem c_Jx4a65c_grow_d5877_0 {z : ag_Z} {l : Launch} {n : ag_N} {p : ag_P} {s : ag_S} {fu : Nat} {out : Int32 × (ag_N × ag_S)} (t10 : vp_in 0 (n 10)) (hf : f_Jx4a65c_grow_d5877_0 fu  n s = some out) : Met l yJx4a65c_grow_d5877 (ag_ws yJx4a65c_grow_d5877 cJx4a65c_grow_d5877 1 ((some (FieldType.array (FieldType.object "java/lang/Object"))))) rm_Jx4a65c_grow_d5877_0 (va_Pc [.ref (p 10 0)] (ag_Pre z n p s)) (ag_Pr z n p 20 out.1 out.2.1 out.2.2) 1 100 (ag_A z) := by
  refine Met.ofW (cc := cJx4a65c_grow_d5877) (maxL := 1) (ret := (some (FieldType.array (FieldType.object "java/lang/Object")))) (by decide) rfl ?_
  intro p0 e st m args below meth c s9 B hml hv
  obtain ⟨ha, h0, hG, hW⟩ := hv
  have hx := B.exec
  have hb := B.bytes
  have hr := B.returns
  have hts := atoms_spec (ws := ag_ws yJx4a65c_grow_d5877 cJx4a65c_grow_d5877 1 ((some (FieldType.array (FieldType.object "java/lang/Object"))))) B.pre
  have hT : ∀ w ∈ ag_tbl, w.before args st = true := fun w h => hts w (List.mem_cons_of_mem _ h)
  have hown : st.vm.findClass RJx4a65c = some m.cls := findClass_of_methodNamed B.named
  have hlocks := B.notSynchronized
  have hS : va_S (ag_A z) st.heap st.heap [] := va_S.rf
  obtain ⟨ls, hls, hl⟩ : ∃ ls, entryFrame m args 1 = F0 m 0 ls [] ∧ lv_has ls 1 [(0, .ref (p 10 0))] := by rw [ha]; exact ag_entry m [.ref (p 10 0)] (Nat.le_of_ble_eq_true rfl)
  rw [hls]
  unfold f_Jx4a65c_grow_d5877_0 at hf
  refine lv_aload_n hx hb dJx4a65c_grow_d5877_0 rfl (lv_at hl 0 rfl) ?_
  refine lv_aload_n hx hb dJx4a65c_grow_d5877_1 rfl (lv_at hl 0 rfl) ?_
  refine g10_2 hx hb hT hown hG hW t10 q47 dJx4a65c_grow_d5877_2 ?_
  refine lv_iconst (v := 1) hx hb dJx4a65c_grow_d5877_5 (by decide) ?_
  refine lv_iadd hx hb dJx4a65c_grow_d5877_6 ?_
  obtain ⟨r7, hg7, hf⟩ := ag_bs hf
  refine ag_aVr (C1 := 1) (S1 := 100) hx hb hml hT hown hG h0 hS hW (c_Jx4a65c_grow_92f84_0 t10 hg7) ⟨rfl, rfl⟩ q89 q91 qs2 q4 q92 dd_yJx4a65c_grow_92f84 ⟨Nat.le_of_ble_eq_true rfl, Nat.le_of_ble_eq_true rfl⟩ t10 rfl rfl hl.1 rfl (Nat.le_of_ble_eq_true rfl) ⟨Nat.le_of_ble_eq_true rfl, Nat.le_of_ble_eq_true rfl⟩ dJx4a65c_grow_d5877_7 (Nat.le_of_ble_eq_true rfl) (Nat.le_of_ble_eq_true rfl) (fun p H locs hp7 hle7 hW hS v7 => ?_)
  have sl7 := hle7
  have he7 := ag_ext_tr (ag_le_rf _) (ag_ext_rf _ _) hp7
  have hl7 := ag_le_tr (ag_le_rf _) sl7
  rw [← hp7 10 0 t10] at hl
  exact ag_Paret hx hb hr (Or.inr ⟨_, rfl⟩) hlocks hS hf he7 hl7 v7 hW dJx4a65c_grow_d5877_10
def f_Jx4a65c_add_72be8_0 (fu : Nat) (x1 : Int32) (x2 : Int32) (x3 : Int32) (n : ag_N) (s : ag_S) : Option (ag_N × ag_S) := if x3 = ag_ln s 80 x2 then (ag_bd (f_Jx4a65c_grow_d5877_0 fu n s) fun r7 => if x3 < 0 ∨ (r7.2.2 80 0 r7.1).toNatClampNeg ≤ x3.toNatClampNeg ∨ 100 < (r7.2.2 80 0 r7.1).toNatClampNeg then none else some (r7.2.1, (ag_up (ag_up r7.2.2 20 r7.1.toNatClampNeg x3 x1) 10 2 0 (x3 + 1)))) else (if x2 = -2 then none else if x3 < 0 ∨ (s 80 0 x2).toNatClampNeg ≤ x3.toNatClampNeg ∨ 100 < (s 80 0 x2).toNatClampNeg then none else some (n, (ag_up (ag_up s 20 x2.toNatClampNeg x3 x1) 10 2 0 (x3 + 1))))
abbrev rm_Jx4a65c_add_72be8_0 : Room := { frames := 5, cells := 1, slots := 100, locals := 127 }
theorem dd_yJx4a65c_add_72be8 : yJx4a65c_add_72be8.cls = RJx4a65c ∧ yJx4a65c_add_72be8.cls ≠ "java/lang/invoke/MethodHandle" ∧ yJx4a65c_add_72be8.cls ≠ "java/lang/invoke/VarHandle" ∧ (parseMethodDescriptor yJx4a65c_add_72be8.desc).map (fun d => d.parameters.length) = some 3 := by decide +kernel
set_option maxHeartbeats 4000000 in
set_option maxRecDepth 100000 in
theorem c_Jx4a65c_add_72be8_0 {z : ag_Z} {l : Launch} {n : ag_N} {p : ag_P} {s : ag_S} {fu : Nat} {x1 : Int32} {x2 : Int32} {x3 : Int32} {out : ag_N × ag_S} (t10 : vp_in 0 (n 10)) (v1 : vp_in x1 (n 0)) (v2 : x2 = -2 ∨ vp_in x2 (n 20)) (hf : f_Jx4a65c_add_72be8_0 fu x1 x2 x3 n s = some out) : Met l yJx4a65c_add_72be8 (ag_ws yJx4a65c_add_72be8 cJx4a65c_add_72be8 4 ((none))) rm_Jx4a65c_add_72be8_0 (va_Pc [.ref (p 10 0), .ref (p 0 x1), va_rf (ag_ro z p 20 (x2)), .int x3] (ag_Pre z n p s)) (ag_Pv z n p out.1 out.2) 1 100 (ag_A z) := by
  refine Met.ofW (cc := cJx4a65c_add_72be8) (maxL := 4) (ret := (none)) (by decide) rfl ?_
  intro p0 e st m args below meth c s9 B hml hv
  obtain ⟨ha, h0, hG, hW⟩ := hv
  have hx := B.exec
  have hb := B.bytes
  have hr := B.returns
  have hts := atoms_spec (ws := ag_ws yJx4a65c_add_72be8 cJx4a65c_add_72be8 4 ((none))) B.pre
  have hT : ∀ w ∈ ag_tbl, w.before args st = true := fun w h => hts w (List.mem_cons_of_mem _ h)
  have hown : st.vm.findClass RJx4a65c = some m.cls := findClass_of_methodNamed B.named
  have hlocks := B.notSynchronized
  have hS : va_S (ag_A z) st.heap st.heap [] := va_S.rf
  obtain ⟨ls, hls, hl⟩ : ∃ ls, entryFrame m args 4 = F0 m 0 ls [] ∧ lv_has ls 4 [(0, .ref (p 10 0)), (1, .ref (p 0 x1)), (2, va_rf (ag_ro z p 20 (x2))), (3, .int x3)] := by rw [ha]; generalize ag_ro z p 20 x2 = r0; cases r0 <;> exact ag_entry m _ (Nat.le_of_ble_eq_true rfl)
  rw [hls]
  unfold f_Jx4a65c_add_72be8_0 at hf
  refine lv_iload_n hx hb dJx4a65c_add_72be8_0 rfl (lv_at hl 3 rfl) ?_
  refine ag_aloadq hx hb dJx4a65c_add_72be8_1 rfl (lv_at hl 2 rfl) ?_
  refine ag_alenE (k := 20) (k6 := 80) hx hb hG hS hW v2 rfl rfl rfl dJx4a65c_add_72be8_2 ?_
  refine lv_icmp_ne (tgt := 11) hx hb dJx4a65c_add_72be8_3 (by decide) (fun c3 => ?_) (fun c3 => ?_)
  · have hf := ag_f c3 hf
    refine ag_aloadq hx hb dJx4a65c_add_72be8_11 rfl (lv_at hl 2 rfl) ?_
    refine lv_iload_n hx hb dJx4a65c_add_72be8_12 rfl (lv_at hl 3 rfl) ?_
    refine lv_aload_n hx hb dJx4a65c_add_72be8_13 rfl (lv_at hl 1 rfl) ?_
    obtain ⟨m14, hf⟩ := ag_n hf
    have v14 := Or.resolve_left v2 m14
    rw [ag_refv (z := z) (p := p) v14 hW]
    obtain ⟨a14, hf⟩ := ag_n hf
    refine ag_aast (k := 20) (j := 0) hx hb hG hW hS rfl (by decide) v14 (fun q => a14 (q.elim Or.inl (fun q => Or.inr (Or.inl q)))) (Nat.not_lt.mp fun q => a14 (Or.inr (Or.inr q))) v1 rfl rfl cx0 dJx4a65c_add_72be8_14 (fun H locs hW hS => ?_)
    refine lv_aload_n hx hb dJx4a65c_add_72be8_15 rfl (lv_at hl 0 rfl) ?_
    refine lv_iload_n hx hb dJx4a65c_add_72be8_16 rfl (lv_at hl 3 rfl) ?_
    refine lv_iconst (v := 1) hx hb dJx4a65c_add_72be8_17 (by decide) ?_
    refine lv_iadd hx hb dJx4a65c_add_72be8_18 ?_
    refine u10_2 hx hb hT hown hG hW hS t10 q47 dJx4a65c_add_72be8_19 (fun H locs hW hS => ?_)
    refine W.widen (k := 1) (n := 100) (Nat.le_of_ble_eq_true rfl) (Nat.le_of_ble_eq_true rfl) ?_
    exact ag_Pvret hx hb hr hlocks hS hf (ag_ext_rf _ _) (ag_le_rf _) hW dJx4a65c_add_72be8_22
  · have hf := ag_t c3 hf
    refine lv_aload_n hx hb dJx4a65c_add_72be8_6 rfl (lv_at hl 0 rfl) ?_
    obtain ⟨r7, hg7, hf⟩ := ag_bs hf
    refine ag_aVr (C1 := 1) (S1 := 100) hx hb hml hT hown hG h0 hS hW (c_Jx4a65c_grow_d5877_0 t10 hg7) ⟨rfl, rfl⟩ q85 q87 qs1 q4 q88 dd_yJx4a65c_grow_d5877 ⟨Nat.le_of_ble_eq_true rfl, Nat.le_of_ble_eq_true rfl⟩ t10 rfl rfl hl.1 rfl (Nat.le_of_ble_eq_true rfl) ⟨Nat.le_of_ble_eq_true rfl, Nat.le_of_ble_eq_true rfl⟩ dJx4a65c_add_72be8_7 (Nat.le_of_ble_eq_true rfl) (Nat.le_of_ble_eq_true rfl) (fun p H locs hp7 hle7 hW hS v7 => ?_)
    have sl7 := hle7
    have he7 := ag_ext_tr (ag_le_rf _) (ag_ext_rf _ _) hp7
    have hl7 := ag_le_tr (ag_le_rf _) sl7
    rw [← hp7 10 0 t10, ← hp7 0 x1 v1, ← ag_ro_p (z := z) (t := 20) hp7 (Or.comm.mp (Or.imp_right (fun h => (Or.inr h : ag_ok _ _ _)) v2))] at hl
    refine lv_astore_n (lv' := [(2, .ref (p 20 r7.1)), (0, .ref (p 10 0)), (1, .ref (p 0 x1)), (3, .int x3)]) hx hb dJx4a65c_add_72be8_10 rfl hl (by decide) rfl (fun ls hl => ?_)
    refine lv_aload_n hx hb dJx4a65c_add_72be8_11 rfl (lv_at hl 0 rfl) ?_
    refine lv_iload_n hx hb dJx4a65c_add_72be8_12 rfl (lv_at hl 3 rfl) ?_
    refine lv_aload_n hx hb dJx4a65c_add_72be8_13 rfl (lv_at hl 2 rfl) ?_
    obtain ⟨a14, hf⟩ := ag_n hf
    refine ag_aast (k := 20) (j := 0) hx hb hG hW hS rfl (by decide) v7 (fun q => a14 (q.elim Or.inl (fun q => Or.inr (Or.inl q)))) (Nat.not_lt.mp fun q => a14 (Or.inr (Or.inr q))) (ag_in_le v1 (sl7 _)) rfl rfl cx0 dJx4a65c_add_72be8_14 (fun H locs hW hS => ?_)
    refine lv_aload_n hx hb dJx4a65c_add_72be8_15 rfl (lv_at hl 1 rfl) ?_
    refine lv_iload_n hx hb dJx4a65c_add_72be8_16 rfl (lv_at hl 3 rfl) ?_
    refine lv_iconst (v := 1) hx hb dJx4a65c_add_72be8_17 (by decide) ?_
    refine lv_iadd hx hb dJx4a65c_add_72be8_18 ?_
    refine u10_2 hx hb hT hown hG hW hS (ag_in_le t10 (sl7 _)) q47 dJx4a65c_add_72be8_19 (fun H locs hW hS => ?_)
    exact ag_Pvret hx hb hr hlocks hS hf he7 hl7 hW dJx4a65c_add_72be8_22
def f_Jx4a65c_add_9ea2d_0 (fu : Nat) (x1 : Int32) (n : ag_N) (s : ag_S) : Option (Int32 × (ag_N × ag_S)) := if (ag_up s 10 0 0 ((s 10 0 0) + 1)) 10 1 0 = -1 then none else ag_bd (f_Jx4a65c_add_72be8_0 fu x1 ((ag_up s 10 0 0 ((s 10 0 0) + 1)) 10 1 0) ((ag_up s 10 0 0 ((s 10 0 0) + 1)) 10 2 0) n (ag_up s 10 0 0 ((s 10 0 0) + 1))) fun r20 => some (1, (r20.1, r20.2))
abbrev rm_Jx4a65c_add_9ea2d_0 : Room := { frames := 6, cells := 1, slots := 100, locals := 150 }
theorem dd_yJx4a65c_add_9ea2d : yJx4a65c_add_9ea2d.cls = RJx4a65c ∧ yJx4a65c_add_9ea2d.cls ≠ "java/lang/invoke/MethodHandle" ∧ yJx4a65c_add_9ea2d.cls ≠ "java/lang/invoke/VarHandle" ∧ (parseMethodDescriptor yJx4a65c_add_9ea2d.desc).map (fun d => d.parameters.length) = some 1 := by decide +kernel
set_option maxHeartbeats 4000000 in
set_option maxRecDepth 100000 in
theorem c_Jx4a65c_add_9ea2d_0 {z : ag_Z} {l : Launch} {n : ag_N} {p : ag_P} {s : ag_S} {fu : Nat} {x1 : Int32} {out : Int32 × (ag_N × ag_S)} (t10 : vp_in 0 (n 10)) (v1 : vp_in x1 (n 0)) (hf : f_Jx4a65c_add_9ea2d_0 fu x1 n s = some out) : Met l yJx4a65c_add_9ea2d (ag_ws yJx4a65c_add_9ea2d cJx4a65c_add_9ea2d 2 ((some FieldType.boolean))) rm_Jx4a65c_add_9ea2d_0 (va_Pc [.ref (p 10 0), .ref (p 0 x1)] (ag_Pre z n p s)) (ag_Pi z n p out.1 out.2.1 out.2.2) 1 100 (ag_A z) := by
  refine Met.ofW (cc := cJx4a65c_add_9ea2d) (maxL := 2) (ret := (some FieldType.boolean)) (by decide) rfl ?_
  intro p0 e st m args below meth c s9 B hml hv
  obtain ⟨ha, h0, hG, hW⟩ := hv
  have hx := B.exec
  have hb := B.bytes
  have hr := B.returns
  have hts := atoms_spec (ws := ag_ws yJx4a65c_add_9ea2d cJx4a65c_add_9ea2d 2 ((some FieldType.boolean))) B.pre
  have hT : ∀ w ∈ ag_tbl, w.before args st = true := fun w h => hts w (List.mem_cons_of_mem _ h)
  have hown : st.vm.findClass RJx4a65c = some m.cls := findClass_of_methodNamed B.named
  have hlocks := B.notSynchronized
  have hS : va_S (ag_A z) st.heap st.heap [] := va_S.rf
  obtain ⟨ls, hls, hl⟩ : ∃ ls, entryFrame m args 2 = F0 m 0 ls [] ∧ lv_has ls 2 [(0, .ref (p 10 0)), (1, .ref (p 0 x1))] := by rw [ha]; exact ag_entry m [.ref (p 10 0), .ref (p 0 x1)] (Nat.le_of_ble_eq_true rfl)
  rw [hls]
  unfold f_Jx4a65c_add_9ea2d_0 at hf
  refine lv_aload_n hx hb dJx4a65c_add_9ea2d_0 rfl (lv_at hl 0 rfl) ?_
  refine lv_dup hx hb dJx4a65c_add_9ea2d_1 rfl ?_
  refine g10_0 hx hb hT hown hG hW t10 q49 q50 dJx4a65c_add_9ea2d_2 ?_
  refine lv_iconst (v := 1) hx hb dJx4a65c_add_9ea2d_5 (by decide) ?_
  refine lv_iadd hx hb dJx4a65c_add_9ea2d_6 ?_
  refine u10_0 hx hb hT hown hG hW hS t10 q49 (u_same (hT _ q50)) dJx4a65c_add_9ea2d_7 (fun H locs hW hS => ?_)
  refine lv_aload_n hx hb dJx4a65c_add_9ea2d_10 rfl (lv_at hl 0 rfl) ?_
  refine lv_aload_n hx hb dJx4a65c_add_9ea2d_11 rfl (lv_at hl 1 rfl) ?_
  refine lv_aload_n hx hb dJx4a65c_add_9ea2d_12 rfl (lv_at hl 0 rfl) ?_
  refine g10_1 hx hb hT hown hG hW t10 q46 dJx4a65c_add_9ea2d_13 ?_
  obtain ⟨m13, hf⟩ := ag_n hf
  have o13 := ag_lor hW (k := 10) (f := 1) (t := 20) rfl rfl m13
  refine lv_aload_n hx hb dJx4a65c_add_9ea2d_16 rfl (lv_at hl 0 rfl) ?_
  refine g10_2 hx hb hT hown hG hW t10 q47 dJx4a65c_add_9ea2d_17 ?_
  obtain ⟨r20, hg20, hf⟩ := ag_bs hf
  refine ag_aVv (C1 := 1) (S1 := 100) hx hb hml hT hown hG h0 hS hW (c_Jx4a65c_add_72be8_0 t10 v1 o13 hg20) ⟨rfl, rfl⟩ q81 q83 qs0 q4 q84 dd_yJx4a65c_add_72be8 ⟨Nat.le_of_ble_eq_true rfl, Nat.le_of_ble_eq_true rfl⟩ t10 rfl rfl hl.1 rfl (Nat.le_of_ble_eq_true rfl) ⟨Nat.le_of_ble_eq_true rfl, Nat.le_of_ble_eq_true rfl⟩ dJx4a65c_add_9ea2d_20 (Nat.le_of_ble_eq_true rfl) (Nat.le_of_ble_eq_true rfl) (fun p H locs hp20 hle20 hW hS => ?_)
  have sl20 := hle20
  have he20 := ag_ext_tr (ag_le_rf _) (ag_ext_rf _ _) hp20
  have hl20 := ag_le_tr (ag_le_rf _) sl20
  rw [← hp20 10 0 t10, ← hp20 0 x1 v1] at hl
  refine lv_iconst (v := 1) hx hb dJx4a65c_add_9ea2d_23 (by decide) ?_
  exact ag_Piret hx hb hr rfl hlocks hS hf he20 hl20 hW dJx4a65c_add_9ea2d_24
def f_J7_copyOf_6403c_1 (fu : Nat) (x0 : Int32) (x1 : Int32) (n : ag_N) (s : ag_S) : Option (Int32 × (ag_N × ag_S)) := if 1000 ≤ n 21 ∨ x1 < 0 ∨ 100 < (x1).toNatClampNeg then none else if (if x1 < nI ((ag_s3 s 21 (n 21) x1) 81 0 x0).toNatClampNeg then x1 else nI ((ag_s3 s 21 (n 21) x1) 81 0 x0).toNatClampNeg) < 0 ∨ ((ag_s3 s 21 (n 21) x1) 81 0 x0).toNatClampNeg < (if x1 < nI ((ag_s3 s 21 (n 21) x1) 81 0 x0).toNatClampNeg then x1 else nI ((ag_s3 s 21 (n 21) x1) 81 0 x0).toNatClampNeg).toNatClampNeg ∨ ((ag_s3 s 21 (n 21) x1) 81 0 (nI (n 21))).toNatClampNeg < (if x1 < nI ((ag_s3 s 21 (n 21) x1) 81 0 x0).toNatClampNeg then x1 else nI ((ag_s3 s 21 (n 21) x1) 81 0 x0).toNatClampNeg).toNatClampNeg ∨ 1000 < ((ag_s3 s 21 (n 21) x1) 81 0 (nI (n 21))).toNatClampNeg then none else some ((nI (n 21)), ((ag_nn n 21), (ag_sc (ag_s3 s 21 (n 21) x1) 21 x0.toNatClampNeg (nI (n 21)).toNatClampNeg (if x1 < nI ((ag_s3 s 21 (n 21) x1) 81 0 x0).toNatClampNeg then x1 else nI ((ag_s3 s 21 (n 21) x1) 81 0 x0).toNatClampNeg).toNatClampNeg)))
abbrev rm_J7_copyOf_6403c_1 : Room := { frames := 1, cells := 1, slots := 100, locals := 40 }
set_option maxHeartbeats 4000000 in
set_option maxRecDepth 100000 in
theorem c_J7_copyOf_6403c_1 {z : ag_Z} {l : Launch} {n : ag_N} {p : ag_P} {s : ag_S} {fu : Nat} {x0 : Int32} {x1 : Int32} {out : Int32 × (ag_N × ag_S)} (v0 : vp_in x0 (n 21)) (hf : f_J7_copyOf_6403c_1 fu x0 x1 n s = some out) : Met l yJ7_copyOf_6403c (ag_ws yJ7_copyOf_6403c cJ7_copyOf_6403c 4 ((some (FieldType.array (FieldType.object "java/lang/Object"))))) rm_J7_copyOf_6403c_1 (va_Pc [.ref (p 21 x0), .int x1, .ref (z.2.1 4)] (ag_Pre z n p s)) (ag_Pr z n p 21 out.1 out.2.1 out.2.2) 1 100 (ag_A z) := by
  refine Met.ofW (cc := cJ7_copyOf_6403c) (maxL := 4) (ret := (some (FieldType.array (FieldType.object "java/lang/Object")))) (by decide) rfl ?_
  intro p0 e st m args below meth c s9 B hml hv
  obtain ⟨ha, h0, hG, hW⟩ := hv
  have hx := B.exec
  have hb := B.bytes
  have hr := B.returns
  have hts := atoms_spec (ws := ag_ws yJ7_copyOf_6403c cJ7_copyOf_6403c 4 ((some (FieldType.array (FieldType.object "java/lang/Object"))))) B.pre
  have hT : ∀ w ∈ ag_tbl, w.before args st = true := fun w h => hts w (List.mem_cons_of_mem _ h)
  have hown : st.vm.findClass RJ7 = some m.cls := findClass_of_methodNamed B.named
  have hlocks := B.notSynchronized
  have hS : va_S (ag_A z) st.heap st.heap [] := va_S.rf
  obtain ⟨ls, hls, hl⟩ : ∃ ls, entryFrame m args 4 = F0 m 0 ls [] ∧ lv_has ls 4 [(0, .ref (p 21 x0)), (1, .int x1), (2, .ref (z.2.1 4))] := by rw [ha]; exact ag_entry m [.ref (p 21 x0), .int x1, .ref (z.2.1 4)] (Nat.le_of_ble_eq_true rfl)
  rw [hls]
  unfold f_J7_copyOf_6403c_1 at hf
  refine lv_aload_n hx hb dJ7_copyOf_6403c_0 rfl (lv_at hl 2 rfl) ?_
  refine va_ldcM hx hb hown (hT _ q124) hG.2.2.2.2.2.2.2.1 dJ7_copyOf_6403c_1 ?_
  refine lv_acmp_ne (tgt := 13) (rx := some (z.2.1 4)) (ry := some (z.2.1 4)) hx hb dJ7_copyOf_6403c_3 (by decide) (fun h => absurd rfl h) (fun _ => ?_)
  refine lv_iload_n hx hb dJ7_copyOf_6403c_6 rfl (lv_at hl 1 rfl) ?_
  obtain ⟨m7, hf⟩ := ag_n hf
  have j7 : ¬ 1000 ≤ n 21 := fun q => m7 (Or.inl q)
  refine ag_newr (k := 21) (j := 1) hx hb hT hown hG h0 hS hW (Nat.lt_of_not_le j7) rfl (by decide) q126 (fun q => m7 (Or.inr (Or.inl q))) (Nat.not_lt.mp fun q => m7 (Or.inr (Or.inr q))) (Nat.le_of_ble_eq_true rfl) (Nat.le_of_ble_eq_true rfl) dJ7_copyOf_6403c_7 (fun p H hp7 hW hS => ?_)
  have sl7 := (ag_le_nn n 21)
  have he7 := ag_ext_tr (ag_le_rf _) (ag_ext_rf _ _) hp7
  have hl7 := ag_le_tr (ag_le_rf _) sl7
  rw [← hp7 21 x0 v0] at hl
  refine lv_goto (tgt := 24) hx hb dJ7_copyOf_6403c_10 (by decide) ?_
  refine lv_astore_n (lv' := [(3, .ref (p 21 (nI (n 21)))), (0, .ref (p 21 x0)), (1, .int x1), (2, .ref (z.2.1 4))]) hx hb dJ7_copyOf_6403c_24 rfl hl (by decide) rfl (fun ls hl => ?_)
  refine lv_aload_n hx hb dJ7_copyOf_6403c_25 rfl (lv_at hl 1 rfl) ?_
  refine lv_iconst (v := 0) hx hb dJ7_copyOf_6403c_26 (by decide) ?_
  refine lv_aload_n hx hb dJ7_copyOf_6403c_27 rfl (lv_at hl 0 rfl) ?_
  refine lv_iconst (v := 0) hx hb dJ7_copyOf_6403c_28 (by decide) ?_
  refine lv_aload_n hx hb dJ7_copyOf_6403c_29 rfl (lv_at hl 1 rfl) ?_
  refine ag_alen hx hb hG hW (ag_in_le v0 (sl7 _)) rfl rfl (k6 := 81) rfl dJ7_copyOf_6403c_30 ?_
  refine lv_iload_n hx hb dJ7_copyOf_6403c_31 rfl (lv_at hl 2 rfl) ?_
  refine va_mmin hx hb (hml.trans hl.1.symm) hown (hT _ q127) (hT _ q128) (hT _ q7) (hT _ q129) (Nat.le_of_ble_eq_true rfl) (Nat.le_of_ble_eq_true rfl) (Nat.le_of_ble_eq_true rfl) (Nat.le_of_ble_eq_true rfl) dJ7_copyOf_6403c_32 ?_
  obtain ⟨a35, hf⟩ := ag_n hf
  refine ag_copy (k := 21) (j := 1) (k6 := 81) ⟨ag_z0, ag_zn⟩ ⟨ag_z0, ag_zn⟩ hx hb hml hl.1 hT hown hG hS hW q130 q132 q131 q9 rfl (by decide) rfl (ag_in_le v0 (sl7 _)) (ag_new_v j7) (fun q => a35 (q.elim Or.inl (fun q => Or.inr (q.elim Or.inl (fun q => Or.inr (Or.inl q)))))) (Nat.not_lt.mp fun q => a35 (Or.inr (Or.inr (Or.inr q)))) rfl rfl cx1 (Nat.le_of_ble_eq_true rfl) (Nat.le_of_ble_eq_true rfl) dJ7_copyOf_6403c_35 (fun H locs hW hS => ?_)
  refine lv_aload_n hx hb dJ7_copyOf_6403c_38 rfl (lv_at hl 0 rfl) ?_
  exact ag_Paret hx hb hr (Or.inr ⟨_, rfl⟩) hlocks hS hf he7 hl7 (ag_new_v j7) hW dJ7_copyOf_6403c_39
def f_J7_copyOf_1904c_1 (fu : Nat) (x0 : Int32) (x1 : Int32) (n : ag_N) (s : ag_S) : Option (Int32 × (ag_N × ag_S)) := ag_bd (f_J7_copyOf_6403c_1 fu x0 x1 n s) fun r6 => some (r6.1, (r6.2.1, r6.2.2))
abbrev rm_J7_copyOf_1904c_1 : Room := { frames := 2, cells := 1, slots := 100, locals := 63 }
set_option maxHeartbeats 4000000 in
set_option maxRecDepth 100000 in
theorem c_J7_copyOf_1904c_1 {z : ag_Z} {l : Launch} {n : ag_N} {p : ag_P} {s : ag_S} {fu : Nat} {x0 : Int32} {x1 : Int32} {out : Int32 × (ag_N × ag_S)} (v0 : vp_in x0 (n 21)) (hf : f_J7_copyOf_1904c_1 fu x0 x1 n s = some out) : Met l yJ7_copyOf_1904c (ag_ws yJ7_copyOf_1904c cJ7_copyOf_1904c 2 ((some (FieldType.array (FieldType.object "java/lang/Object"))))) rm_J7_copyOf_1904c_1 (va_Pc [.ref (p 21 x0), .int x1] (ag_Pre z n p s)) (ag_Pr z n p 21 out.1 out.2.1 out.2.2) 1 100 (ag_A z) := by
  refine Met.ofW (cc := cJ7_copyOf_1904c) (maxL := 2) (ret := (some (FieldType.array (FieldType.object "java/lang/Object")))) (by decide) rfl ?_
  intro p0 e st m args below meth c s9 B hml hv
  obtain ⟨ha, h0, hG, hW⟩ := hv
  have hx := B.exec
  have hb := B.bytes
  have hr := B.returns
  have hts := atoms_spec (ws := ag_ws yJ7_copyOf_1904c cJ7_copyOf_1904c 2 ((some (FieldType.array (FieldType.object "java/lang/Object"))))) B.pre
  have hT : ∀ w ∈ ag_tbl, w.before args st = true := fun w h => hts w (List.mem_cons_of_mem _ h)
  have hown : st.vm.findClass RJ7 = some m.cls := findClass_of_methodNamed B.named
  have hlocks := B.notSynchronized
  have hS : va_S (ag_A z) st.heap st.heap [] := va_S.rf
  obtain ⟨ls, hls, hl⟩ : ∃ ls, entryFrame m args 2 = F0 m 0 ls [] ∧ lv_has ls 2 [(0, .ref (p 21 x0)), (1, .int x1)] := by rw [ha]; exact ag_entry m [.ref (p 21 x0), .int x1] (Nat.le_of_ble_eq_true rfl)
  rw [hls]
  unfold f_J7_copyOf_1904c_1 at hf
  refine lv_aload_n hx hb dJ7_copyOf_1904c_0 rfl (lv_at hl 0 rfl) ?_
  refine lv_iload_n hx hb dJ7_copyOf_1904c_1 rfl (lv_at hl 1 rfl) ?_
  refine lv_aload_n hx hb dJ7_copyOf_1904c_2 rfl (lv_at hl 0 rfl) ?_
  refine ag_getC (k := 21) (j := 1) hx hb hml hl.1 hT hown hG hW q106 dcl0 q1070 q107 q120 rfl (by decide) v0 (Nat.le_of_ble_eq_true rfl) (Nat.le_of_ble_eq_true rfl) dJ7_copyOf_1904c_3 ?_
  obtain ⟨r6, hg6, hf⟩ := ag_bs hf
  refine ag_aSr (C1 := 1) (S1 := 100) hx hb hml hT hown hG h0 hS hW (c_J7_copyOf_6403c_1 v0 hg6) ⟨rfl, rfl⟩ q121 q122 q8 q123 dd_yJ7_copyOf_6403c ⟨Nat.le_of_ble_eq_true rfl, Nat.le_of_ble_eq_true rfl⟩ hl.1 rfl (Nat.le_of_ble_eq_true rfl) ⟨Nat.le_of_ble_eq_true rfl, Nat.le_of_ble_eq_true rfl⟩ dJ7_copyOf_1904c_6 (Nat.le_of_ble_eq_true rfl) (Nat.le_of_ble_eq_true rfl) (fun p H locs hp6 hle6 hW hS v6 => ?_)
  have sl6 := hle6
  have he6 := ag_ext_tr (ag_le_rf _) (ag_ext_rf _ _) hp6
  have hl6 := ag_le_tr (ag_le_rf _) sl6
  rw [← hp6 21 x0 v0] at hl
  exact ag_Paret hx hb hr (Or.inr ⟨_, rfl⟩) hlocks hS hf he6 hl6 v6 hW dJ7_copyOf_1904c_9
def f_Jx4a65c_grow_92f84_1 (fu : Nat) (x1 : Int32) (n : ag_N) (s : ag_S) : Option (Int32 × (ag_N × ag_S)) := if s 11 1 0 = -1 then none else if (0 : Int32) < ag_ln s 81 (s 11 1 0) then (ag_bd (f_J8_newLength_cabcc fu (ag_ln s 81 (s 11 1 0)) (x1 - (ag_ln s 81 (s 11 1 0))) ((ag_ln s 81 (s 11 1 0)) >>> ((1 : Int32) &&& 31)) s) fun r27 => if s 11 1 0 = -1 then none else if s 11 1 0 = -2 then none else ag_bd (f_J7_copyOf_1904c_1 fu (s 11 1 0) r27 n s) fun r37 => some (r37.1, (r37.2.1, (ag_up r37.2.2 11 1 0 r37.1)))) else (if s 11 1 0 = -1 then none else if s 11 1 0 = -2 then (if 1000 ≤ n 21 ∨ (if 10 < x1 then x1 else 10) < 0 ∨ 100 < (if 10 < x1 then x1 else 10).toNatClampNeg then none else some ((nI (n 21)), ((ag_nn n 21), (ag_up (ag_s3 s 21 (n 21) (if 10 < x1 then x1 else 10)) 11 1 0 (nI (n 21)))))) else (ag_bd (f_J8_newLength_cabcc fu (ag_ln s 81 (s 11 1 0)) (x1 - (ag_ln s 81 (s 11 1 0))) ((ag_ln s 81 (s 11 1 0)) >>> ((1 : Int32) &&& 31)) s) fun r27 => if s 11 1 0 = -1 then none else if s 11 1 0 = -2 then none else ag_bd (f_J7_copyOf_1904c_1 fu (s 11 1 0) r27 n s) fun r37 => some (r37.1, (r37.2.1, (ag_up r37.2.2 11 1 0 r37.1)))))
abbrev rm_Jx4a65c_grow_92f84_1 : Room := { frames := 3, cells := 1, slots := 100, locals := 84 }
set_option maxHeartbeats 4000000 in
set_option maxRecDepth 100000 in
theorem c_Jx4a65c_grow_92f84_1 {z : ag_Z} {l : Launch} {n : ag_N} {p : ag_P} {s : ag_S} {fu : Nat} {x1 : Int32} {out : Int32 × (ag_N × ag_S)} (t11 : vp_in 0 (n 11)) (hf : f_Jx4a65c_grow_92f84_1 fu x1 n s = some out) : Met l yJx4a65c_grow_92f84 (ag_ws yJx4a65c_grow_92f84 cJx4a65c_grow_92f84 4 ((some (FieldType.array (FieldType.object "java/lang/Object"))))) rm_Jx4a65c_grow_92f84_1 (va_Pc [.ref (p 11 0), .int x1] (ag_Pre z n p s)) (ag_Pr z n p 21 out.1 out.2.1 out.2.2) 1 100 (ag_A z) := by
  refine Met.ofW (cc := cJx4a65c_grow_92f84) (maxL := 4) (ret := (some (FieldType.array (FieldType.object "java/lang/Object")))) (by decide) rfl ?_
  intro p0 e st m args below meth c s9 B hml hv
  obtain ⟨ha, h0, hG, hW⟩ := hv
  have hx := B.exec
  have hb := B.bytes
  have hr := B.returns
  have hts := atoms_spec (ws := ag_ws yJx4a65c_grow_92f84 cJx4a65c_grow_92f84 4 ((some (FieldType.array (FieldType.object "java/lang/Object"))))) B.pre
  have hT : ∀ w ∈ ag_tbl, w.before args st = true := fun w h => hts w (List.mem_cons_of_mem _ h)
  have hown : st.vm.findClass RJx4a65c = some m.cls := findClass_of_methodNamed B.named
  have hlocks := B.notSynchronized
  have hS : va_S (ag_A z) st.heap st.heap [] := va_S.rf
  obtain ⟨ls, hls, hl⟩ : ∃ ls, entryFrame m args 4 = F0 m 0 ls [] ∧ lv_has ls 4 [(0, .ref (p 11 0)), (1, .int x1)] := by rw [ha]; exact ag_entry m [.ref (p 11 0), .int x1] (Nat.le_of_ble_eq_true rfl)
  rw [hls]
  unfold f_Jx4a65c_grow_92f84_1 at hf
  refine lv_aload_n hx hb dJx4a65c_grow_92f84_0 rfl (lv_at hl 0 rfl) ?_
  refine g11_1 hx hb hT hown hG hW t11 q46 dJx4a65c_grow_92f84_1 ?_
  obtain ⟨m1, hf⟩ := ag_n hf
  have o1 := ag_lor hW (k := 11) (f := 1) (t := 21) rfl rfl m1
  refine ag_alenE (k := 21) (k6 := 81) hx hb hG hS hW o1 rfl rfl rfl dJx4a65c_grow_92f84_4 ?_
  refine lv_istore_n (lv' := [(2, .int (ag_ln s 81 (s 11 1 0))), (0, .ref (p 11 0)), (1, .int x1)]) hx hb dJx4a65c_grow_92f84_5 rfl hl (by decide) rfl (fun ls hl => ?_)
  refine lv_iload_n hx hb dJx4a65c_grow_92f84_6 rfl (lv_at hl 0 rfl) ?_
  refine lv_if_gt (tgt := 20) hx hb dJx4a65c_grow_92f84_7 (by decide) (fun c7 => ?_) (fun c7 => ?_)
  · have hf := ag_t c7 hf
    refine lv_iload_n hx hb dJx4a65c_grow_92f84_20 rfl (lv_at hl 0 rfl) ?_
    refine lv_iload_n hx hb dJx4a65c_grow_92f84_21 rfl (lv_at hl 2 rfl) ?_
    refine lv_iload_n hx hb dJx4a65c_grow_92f84_22 rfl (lv_at hl 0 rfl) ?_
    refine lv_isub hx hb dJx4a65c_grow_92f84_23 ?_
    refine lv_iload_n hx hb dJx4a65c_grow_92f84_24 rfl (lv_at hl 0 rfl) ?_
    refine lv_iconst (v := 1) hx hb dJx4a65c_grow_92f84_25 (by decide) ?_
    refine lv_ishr hx hb dJx4a65c_grow_92f84_26 ?_
    obtain ⟨r27, hg27, hf⟩ := ag_bs hf
    refine ag_cSi hx hb hml hT hown hG h0 hS hW (c_J8_newLength_cabcc hg27) ⟨rfl, rfl⟩ q93 q94 q6 q95 dd_yJ8_newLength_cabcc ⟨Nat.le_of_ble_eq_true rfl, Nat.le_of_ble_eq_true rfl⟩ hl.1 rfl (Nat.le_of_ble_eq_true rfl) ⟨Nat.le_of_ble_eq_true rfl, Nat.le_of_ble_eq_true rfl⟩ dJx4a65c_grow_92f84_27 (fun H locs hW hS => ?_)
    refine lv_istore_n (lv' := [(3, .int r27), (2, .int (ag_ln s 81 (s 11 1 0))), (0, .ref (p 11 0)), (1, .int x1)]) hx hb dJx4a65c_grow_92f84_30 rfl hl (by decide) rfl (fun ls hl => ?_)
    refine lv_aload_n hx hb dJx4a65c_grow_92f84_31 rfl (lv_at hl 2 rfl) ?_
    refine lv_aload_n hx hb dJx4a65c_grow_92f84_32 rfl (lv_at hl 2 rfl) ?_
    refine g11_1 hx hb hT hown hG hW t11 q46 dJx4a65c_grow_92f84_33 ?_
    obtain ⟨m33, hf⟩ := ag_n hf
    have o33 := ag_lor hW (k := 11) (f := 1) (t := 21) rfl rfl m33
    refine lv_iload_n hx hb dJx4a65c_grow_92f84_36 rfl (lv_at hl 0 rfl) ?_
    obtain ⟨l37, hf⟩ := ag_n hf
    have lv37 := Or.resolve_left o33 l37
    rw [ag_refv (z := z) (p := p) lv37 hW]
    obtain ⟨r37, hg37, hf⟩ := ag_bs hf
    refine ag_aSr (C1 := 1) (S1 := 100) hx hb hml hT hown hG h0 hS hW (c_J7_copyOf_1904c_1 lv37 hg37) ⟨rfl, rfl⟩ q103 q104 q8 q105 dd_yJ7_copyOf_1904c ⟨Nat.le_of_ble_eq_true rfl, Nat.le_of_ble_eq_true rfl⟩ hl.1 rfl (Nat.le_of_ble_eq_true rfl) ⟨Nat.le_of_ble_eq_true rfl, Nat.le_of_ble_eq_true rfl⟩ dJx4a65c_grow_92f84_37 (Nat.le_of_ble_eq_true rfl) (Nat.le_of_ble_eq_true rfl) (fun p H locs hp37 hle37 hW hS v37 => ?_)
    have sl37 := hle37
    have he37 := ag_ext_tr (ag_le_rf _) (ag_ext_rf _ _) hp37
    have hl37 := ag_le_tr (ag_le_rf _) sl37
    rw [← hp37 11 0 t11] at hl
    rw [← hp37 11 0 t11]
    refine lv_dup_x1 hx hb dJx4a65c_grow_92f84_40 rfl rfl ?_
    refine u11_1 hx hb hT hown hG hW hS (ag_in_le t11 (sl37 _)) (ag_refv (z := z) (p := p) v37 hW).symm (Or.inl (Or.inr v37)) q46 dJx4a65c_grow_92f84_41 (fun H locs hW hS => ?_)
    exact ag_Paret hx hb hr (Or.inr ⟨_, rfl⟩) hlocks hS hf he37 hl37 v37 hW dJx4a65c_grow_92f84_44
  · have hf := ag_f c7 hf
    refine lv_aload_n hx hb dJx4a65c_grow_92f84_10 rfl (lv_at hl 1 rfl) ?_
    refine g11_1 hx hb hT hown hG hW t11 q46 dJx4a65c_grow_92f84_11 ?_
    obtain ⟨m11, hf⟩ := ag_n hf
    have o11 := ag_lor hW (k := 11) (f := 1) (t := 21) rfl rfl m11
    refine ag_getst hx hb hT hown hG hS q44 dJx4a65c_grow_92f84_14 ?_
    refine ag_acmE (t := 21) (v := s 11 1 0) (tgt := 45) hx hb hG hW o11 dJx4a65c_grow_92f84_17 (by decide) (fun c17 => ?_) (fun c17 => ?_)
    · have hf := ag_t c17 hf
      refine lv_aload_n hx hb dJx4a65c_grow_92f84_45 rfl (lv_at hl 1 rfl) ?_
      refine lv_bipush (v := 10) hx hb dJx4a65c_grow_92f84_46 (by decide) ?_
      refine lv_iload_n hx hb dJx4a65c_grow_92f84_48 rfl (lv_at hl 2 rfl) ?_
      refine va_mmax hx hb (hml.trans hl.1.symm) hown (hT _ q133) (hT _ q97) (hT _ q7) (hT _ q98) (Nat.le_of_ble_eq_true rfl) (Nat.le_of_ble_eq_true rfl) (Nat.le_of_ble_eq_true rfl) (Nat.le_of_ble_eq_true rfl) dJx4a65c_grow_92f84_49 ?_
      obtain ⟨m52, hf⟩ := ag_n hf
      have j52 : ¬ 1000 ≤ n 21 := fun q => m52 (Or.inl q)
      refine ag_newr (k := 21) (j := 1) hx hb hT hown hG h0 hS hW (Nat.lt_of_not_le j52) rfl (by decide) q134 (fun q => m52 (Or.inr (Or.inl q))) (Nat.not_lt.mp fun q => m52 (Or.inr (Or.inr q))) (Nat.le_of_ble_eq_true rfl) (Nat.le_of_ble_eq_true rfl) dJx4a65c_grow_92f84_52 (fun p H hp52 hW hS => ?_)
      have sl52 := (ag_le_nn n 21)
      have he52 := ag_ext_tr (ag_le_rf _) (ag_ext_rf _ _) hp52
      have hl52 := ag_le_tr (ag_le_rf _) sl52
      rw [← hp52 11 0 t11] at hl
      rw [← hp52 11 0 t11]
      refine lv_dup_x1 hx hb dJx4a65c_grow_92f84_55 rfl rfl ?_
      refine u11_1 hx hb hT hown hG hW hS (ag_in_le t11 (sl52 _)) (ag_refv (z := z) (p := p) (ag_new_v j52) hW).symm (Or.inl (Or.inr (ag_new_v j52))) q46 dJx4a65c_grow_92f84_56 (fun H locs hW hS => ?_)
      exact ag_Paret hx hb hr (Or.inr ⟨_, rfl⟩) hlocks hS hf he52 hl52 (ag_new_v j52) hW dJx4a65c_grow_92f84_59
    · have hf := ag_f c17 hf
      refine lv_iload_n hx hb dJx4a65c_grow_92f84_20 rfl (lv_at hl 0 rfl) ?_
      refine lv_iload_n hx hb dJx4a65c_grow_92f84_21 rfl (lv_at hl 2 rfl) ?_
      refine lv_iload_n hx hb dJx4a65c_grow_92f84_22 rfl (lv_at hl 0 rfl) ?_
      refine lv_isub hx hb dJx4a65c_grow_92f84_23 ?_
      refine lv_iload_n hx hb dJx4a65c_grow_92f84_24 rfl (lv_at hl 0 rfl) ?_
      refine lv_iconst (v := 1) hx hb dJx4a65c_grow_92f84_25 (by decide) ?_
      refine lv_ishr hx hb dJx4a65c_grow_92f84_26 ?_
      obtain ⟨r27, hg27, hf⟩ := ag_bs hf
      refine ag_cSi hx hb hml hT hown hG h0 hS hW (c_J8_newLength_cabcc hg27) ⟨rfl, rfl⟩ q93 q94 q6 q95 dd_yJ8_newLength_cabcc ⟨Nat.le_of_ble_eq_true rfl, Nat.le_of_ble_eq_true rfl⟩ hl.1 rfl (Nat.le_of_ble_eq_true rfl) ⟨Nat.le_of_ble_eq_true rfl, Nat.le_of_ble_eq_true rfl⟩ dJx4a65c_grow_92f84_27 (fun H locs hW hS => ?_)
      refine lv_istore_n (lv' := [(3, .int r27), (2, .int (ag_ln s 81 (s 11 1 0))), (0, .ref (p 11 0)), (1, .int x1)]) hx hb dJx4a65c_grow_92f84_30 rfl hl (by decide) rfl (fun ls hl => ?_)
      refine lv_aload_n hx hb dJx4a65c_grow_92f84_31 rfl (lv_at hl 2 rfl) ?_
      refine lv_aload_n hx hb dJx4a65c_grow_92f84_32 rfl (lv_at hl 2 rfl) ?_
      refine g11_1 hx hb hT hown hG hW t11 q46 dJx4a65c_grow_92f84_33 ?_
      obtain ⟨m33, hf⟩ := ag_n hf
      have o33 := ag_lor hW (k := 11) (f := 1) (t := 21) rfl rfl m33
      refine lv_iload_n hx hb dJx4a65c_grow_92f84_36 rfl (lv_at hl 0 rfl) ?_
      obtain ⟨l37, hf⟩ := ag_n hf
      have lv37 := Or.resolve_left o33 l37
      rw [ag_refv (z := z) (p := p) lv37 hW]
      obtain ⟨r37, hg37, hf⟩ := ag_bs hf
      refine ag_aSr (C1 := 1) (S1 := 100) hx hb hml hT hown hG h0 hS hW (c_J7_copyOf_1904c_1 lv37 hg37) ⟨rfl, rfl⟩ q103 q104 q8 q105 dd_yJ7_copyOf_1904c ⟨Nat.le_of_ble_eq_true rfl, Nat.le_of_ble_eq_true rfl⟩ hl.1 rfl (Nat.le_of_ble_eq_true rfl) ⟨Nat.le_of_ble_eq_true rfl, Nat.le_of_ble_eq_true rfl⟩ dJx4a65c_grow_92f84_37 (Nat.le_of_ble_eq_true rfl) (Nat.le_of_ble_eq_true rfl) (fun p H locs hp37 hle37 hW hS v37 => ?_)
      have sl37 := hle37
      have he37 := ag_ext_tr (ag_le_rf _) (ag_ext_rf _ _) hp37
      have hl37 := ag_le_tr (ag_le_rf _) sl37
      rw [← hp37 11 0 t11] at hl
      rw [← hp37 11 0 t11]
      refine lv_dup_x1 hx hb dJx4a65c_grow_92f84_40 rfl rfl ?_
      refine u11_1 hx hb hT hown hG hW hS (ag_in_le t11 (sl37 _)) (ag_refv (z := z) (p := p) v37 hW).symm (Or.inl (Or.inr v37)) q46 dJx4a65c_grow_92f84_41 (fun H locs hW hS => ?_)
      exact ag_Paret hx hb hr (Or.inr ⟨_, rfl⟩) hlocks hS hf he37 hl37 v37 hW dJx4a65c_grow_92f84_44
def f_Jx4a65c_grow_d5877_1 (fu : Nat) (n : ag_N) (s : ag_S) : Option (Int32 × (ag_N × ag_S)) := ag_bd (f_Jx4a65c_grow_92f84_1 fu ((s 11 2 0) + 1) n s) fun r7 => some (r7.1, (r7.2.1, r7.2.2))
abbrev rm_Jx4a65c_grow_d5877_1 : Room := { frames := 4, cells := 1, slots := 100, locals := 107 }
set_option maxHeartbeats 4000000 in
set_option maxRecDepth 100000 in
theorem c_Jx4a65c_grow_d5877_1 {z : ag_Z} {l : Launch} {n : ag_N} {p : ag_P} {s : ag_S} {fu : Nat} {out : Int32 × (ag_N × ag_S)} (t11 : vp_in 0 (n 11)) (hf : f_Jx4a65c_grow_d5877_1 fu  n s = some out) : Met l yJx4a65c_grow_d5877 (ag_ws yJx4a65c_grow_d5877 cJx4a65c_grow_d5877 1 ((some (FieldType.array (FieldType.object "java/lang/Object"))))) rm_Jx4a65c_grow_d5877_1 (va_Pc [.ref (p 11 0)] (ag_Pre z n p s)) (ag_Pr z n p 21 out.1 out.2.1 out.2.2) 1 100 (ag_A z) := by
  refine Met.ofW (cc := cJx4a65c_grow_d5877) (maxL := 1) (ret := (some (FieldType.array (FieldType.object "java/lang/Object")))) (by decide) rfl ?_
  intro p0 e st m args below meth c s9 B hml hv
  obtain ⟨ha, h0, hG, hW⟩ := hv
  have hx := B.exec
  have hb := B.bytes
  have hr := B.returns
  have hts := atoms_spec (ws := ag_ws yJx4a65c_grow_d5877 cJx4a65c_grow_d5877 1 ((some (FieldType.array (FieldType.object "java/lang/Object"))))) B.pre
  have hT : ∀ w ∈ ag_tbl, w.before args st = true := fun w h => hts w (List.mem_cons_of_mem _ h)
  have hown : st.vm.findClass RJx4a65c = some m.cls := findClass_of_methodNamed B.named
  have hlocks := B.notSynchronized
  have hS : va_S (ag_A z) st.heap st.heap [] := va_S.rf
  obtain ⟨ls, hls, hl⟩ : ∃ ls, entryFrame m args 1 = F0 m 0 ls [] ∧ lv_has ls 1 [(0, .ref (p 11 0))] := by rw [ha]; exact ag_entry m [.ref (p 11 0)] (Nat.le_of_ble_eq_true rfl)
  rw [hls]
  unfold f_Jx4a65c_grow_d5877_1 at hf
  refine lv_aload_n hx hb dJx4a65c_grow_d5877_0 rfl (lv_at hl 0 rfl) ?_
  refine lv_aload_n hx hb dJx4a65c_grow_d5877_1 rfl (lv_at hl 0 rfl) ?_
  refine g11_2 hx hb hT hown hG hW t11 q47 dJx4a65c_grow_d5877_2 ?_
  refine lv_iconst (v := 1) hx hb dJx4a65c_grow_d5877_5 (by decide) ?_
  refine lv_iadd hx hb dJx4a65c_grow_d5877_6 ?_
  obtain ⟨r7, hg7, hf⟩ := ag_bs hf
  refine ag_aVr (C1 := 1) (S1 := 100) hx hb hml hT hown hG h0 hS hW (c_Jx4a65c_grow_92f84_1 t11 hg7) ⟨rfl, rfl⟩ q89 q91 qs2 q4 q92 dd_yJx4a65c_grow_92f84 ⟨Nat.le_of_ble_eq_true rfl, Nat.le_of_ble_eq_true rfl⟩ t11 rfl rfl hl.1 rfl (Nat.le_of_ble_eq_true rfl) ⟨Nat.le_of_ble_eq_true rfl, Nat.le_of_ble_eq_true rfl⟩ dJx4a65c_grow_d5877_7 (Nat.le_of_ble_eq_true rfl) (Nat.le_of_ble_eq_true rfl) (fun p H locs hp7 hle7 hW hS v7 => ?_)
  have sl7 := hle7
  have he7 := ag_ext_tr (ag_le_rf _) (ag_ext_rf _ _) hp7
  have hl7 := ag_le_tr (ag_le_rf _) sl7
  rw [← hp7 11 0 t11] at hl
  exact ag_Paret hx hb hr (Or.inr ⟨_, rfl⟩) hlocks hS hf he7 hl7 v7 hW dJx4a65c_grow_d5877_10
def f_Jx4a65c_add_72be8_1 (fu : Nat) (x1 : Int32) (x2 : Int32) (x3 : Int32) (n : ag_N) (s : ag_S) : Option (ag_N × ag_S) := if x3 = ag_ln s 81 x2 then (ag_bd (f_Jx4a65c_grow_d5877_1 fu n s) fun r7 => if x3 < 0 ∨ (r7.2.2 81 0 r7.1).toNatClampNeg ≤ x3.toNatClampNeg ∨ 100 < (r7.2.2 81 0 r7.1).toNatClampNeg then none else some (r7.2.1, (ag_up (ag_up r7.2.2 21 r7.1.toNatClampNeg x3 x1) 11 2 0 (x3 + 1)))) else (if x2 = -2 then none else if x3 < 0 ∨ (s 81 0 x2).toNatClampNeg ≤ x3.toNatClampNeg ∨ 100 < (s 81 0 x2).toNatClampNeg then none else some (n, (ag_up (ag_up s 21 x2.toNatClampNeg x3 x1) 11 2 0 (x3 + 1))))
abbrev rm_Jx4a65c_add_72be8_1 : Room := { frames := 5, cells := 1, slots := 100, locals := 127 }
set_option maxHeartbeats 4000000 in
set_option maxRecDepth 100000 in
theorem c_Jx4a65c_add_72be8_1 {z : ag_Z} {l : Launch} {n : ag_N} {p : ag_P} {s : ag_S} {fu : Nat} {x1 : Int32} {x2 : Int32} {x3 : Int32} {out : ag_N × ag_S} (t11 : vp_in 0 (n 11)) (v1 : vp_in x1 (n 1)) (v2 : x2 = -2 ∨ vp_in x2 (n 21)) (hf : f_Jx4a65c_add_72be8_1 fu x1 x2 x3 n s = some out) : Met l yJx4a65c_add_72be8 (ag_ws yJx4a65c_add_72be8 cJx4a65c_add_72be8 4 ((none))) rm_Jx4a65c_add_72be8_1 (va_Pc [.ref (p 11 0), .ref (p 1 x1), va_rf (ag_ro z p 21 (x2)), .int x3] (ag_Pre z n p s)) (ag_Pv z n p out.1 out.2) 1 100 (ag_A z) := by
  refine Met.ofW (cc := cJx4a65c_add_72be8) (maxL := 4) (ret := (none)) (by decide) rfl ?_
  intro p0 e st m args below meth c s9 B hml hv
  obtain ⟨ha, h0, hG, hW⟩ := hv
  have hx := B.exec
  have hb := B.bytes
  have hr := B.returns
  have hts := atoms_spec (ws := ag_ws yJx4a65c_add_72be8 cJx4a65c_add_72be8 4 ((none))) B.pre
  have hT : ∀ w ∈ ag_tbl, w.before args st = true := fun w h => hts w (List.mem_cons_of_mem _ h)
  have hown : st.vm.findClass RJx4a65c = some m.cls := findClass_of_methodNamed B.named
  have hlocks := B.notSynchronized
  have hS : va_S (ag_A z) st.heap st.heap [] := va_S.rf
  obtain ⟨ls, hls, hl⟩ : ∃ ls, entryFrame m args 4 = F0 m 0 ls [] ∧ lv_has ls 4 [(0, .ref (p 11 0)), (1, .ref (p 1 x1)), (2, va_rf (ag_ro z p 21 (x2))), (3, .int x3)] := by rw [ha]; generalize ag_ro z p 21 x2 = r0; cases r0 <;> exact ag_entry m _ (Nat.le_of_ble_eq_true rfl)
  rw [hls]
  unfold f_Jx4a65c_add_72be8_1 at hf
  refine lv_iload_n hx hb dJx4a65c_add_72be8_0 rfl (lv_at hl 3 rfl) ?_
  refine ag_aloadq hx hb dJx4a65c_add_72be8_1 rfl (lv_at hl 2 rfl) ?_
  refine ag_alenE (k := 21) (k6 := 81) hx hb hG hS hW v2 rfl rfl rfl dJx4a65c_add_72be8_2 ?_
  refine lv_icmp_ne (tgt := 11) hx hb dJx4a65c_add_72be8_3 (by decide) (fun c3 => ?_) (fun c3 => ?_)
  · have hf := ag_f c3 hf
    refine ag_aloadq hx hb dJx4a65c_add_72be8_11 rfl (lv_at hl 2 rfl) ?_
    refine lv_iload_n hx hb dJx4a65c_add_72be8_12 rfl (lv_at hl 3 rfl) ?_
    refine lv_aload_n hx hb dJx4a65c_add_72be8_13 rfl (lv_at hl 1 rfl) ?_
    obtain ⟨m14, hf⟩ := ag_n hf
    have v14 := Or.resolve_left v2 m14
    rw [ag_refv (z := z) (p := p) v14 hW]
    obtain ⟨a14, hf⟩ := ag_n hf
    refine ag_aast (k := 21) (j := 1) hx hb hG hW hS rfl (by decide) v14 (fun q => a14 (q.elim Or.inl (fun q => Or.inr (Or.inl q)))) (Nat.not_lt.mp fun q => a14 (Or.inr (Or.inr q))) v1 rfl rfl cx1 dJx4a65c_add_72be8_14 (fun H locs hW hS => ?_)
    refine lv_aload_n hx hb dJx4a65c_add_72be8_15 rfl (lv_at hl 0 rfl) ?_
    refine lv_iload_n hx hb dJx4a65c_add_72be8_16 rfl (lv_at hl 3 rfl) ?_
    refine lv_iconst (v := 1) hx hb dJx4a65c_add_72be8_17 (by decide) ?_
    refine lv_iadd hx hb dJx4a65c_add_72be8_18 ?_
    refine u11_2 hx hb hT hown hG hW hS t11 q47 dJx4a65c_add_72be8_19 (fun H locs hW hS => ?_)
    refine W.widen (k := 1) (n := 100) (Nat.le_of_ble_eq_true rfl) (Nat.le_of_ble_eq_true rfl) ?_
    exact ag_Pvret hx hb hr hlocks hS hf (ag_ext_rf _ _) (ag_le_rf _) hW dJx4a65c_add_72be8_22
  · have hf := ag_t c3 hf
    refine lv_aload_n hx hb dJx4a65c_add_72be8_6 rfl (lv_at hl 0 rfl) ?_
    obtain ⟨r7, hg7, hf⟩ := ag_bs hf
    refine ag_aVr (C1 := 1) (S1 := 100) hx hb hml hT hown hG h0 hS hW (c_Jx4a65c_grow_d5877_1 t11 hg7) ⟨rfl, rfl⟩ q85 q87 qs1 q4 q88 dd_yJx4a65c_grow_d5877 ⟨Nat.le_of_ble_eq_true rfl, Nat.le_of_ble_eq_true rfl⟩ t11 rfl rfl hl.1 rfl (Nat.le_of_ble_eq_true rfl) ⟨Nat.le_of_ble_eq_true rfl, Nat.le_of_ble_eq_true rfl⟩ dJx4a65c_add_72be8_7 (Nat.le_of_ble_eq_true rfl) (Nat.le_of_ble_eq_true rfl) (fun p H locs hp7 hle7 hW hS v7 => ?_)
    have sl7 := hle7
    have he7 := ag_ext_tr (ag_le_rf _) (ag_ext_rf _ _) hp7
    have hl7 := ag_le_tr (ag_le_rf _) sl7
    rw [← hp7 11 0 t11, ← hp7 1 x1 v1, ← ag_ro_p (z := z) (t := 21) hp7 (Or.comm.mp (Or.imp_right (fun h => (Or.inr h : ag_ok _ _ _)) v2))] at hl
    refine lv_astore_n (lv' := [(2, .ref (p 21 r7.1)), (0, .ref (p 11 0)), (1, .ref (p 1 x1)), (3, .int x3)]) hx hb dJx4a65c_add_72be8_10 rfl hl (by decide) rfl (fun ls hl => ?_)
    refine lv_aload_n hx hb dJx4a65c_add_72be8_11 rfl (lv_at hl 0 rfl) ?_
    refine lv_iload_n hx hb dJx4a65c_add_72be8_12 rfl (lv_at hl 3 rfl) ?_
    refine lv_aload_n hx hb dJx4a65c_add_72be8_13 rfl (lv_at hl 2 rfl) ?_
    obtain ⟨a14, hf⟩ := ag_n hf
    refine ag_aast (k := 21) (j := 1) hx hb hG hW hS rfl (by decide) v7 (fun q => a14 (q.elim Or.inl (fun q => Or.inr (Or.inl q)))) (Nat.not_lt.mp fun q => a14 (Or.inr (Or.inr q))) (ag_in_le v1 (sl7 _)) rfl rfl cx1 dJx4a65c_add_72be8_14 (fun H locs hW hS => ?_)
    refine lv_aload_n hx hb dJx4a65c_add_72be8_15 rfl (lv_at hl 1 rfl) ?_
    refine lv_iload_n hx hb dJx4a65c_add_72be8_16 rfl (lv_at hl 3 rfl) ?_
    refine lv_iconst (v := 1) hx hb dJx4a65c_add_72be8_17 (by decide) ?_
    refine lv_iadd hx hb dJx4a65c_add_72be8_18 ?_
    refine u11_2 hx hb hT hown hG hW hS (ag_in_le t11 (sl7 _)) q47 dJx4a65c_add_72be8_19 (fun H locs hW hS => ?_)
    exact ag_Pvret hx hb hr hlocks hS hf he7 hl7 hW dJx4a65c_add_72be8_22
def f_Jx4a65c_add_9ea2d_1 (fu : Nat) (x1 : Int32) (n : ag_N) (s : ag_S) : Option (Int32 × (ag_N × ag_S)) := if (ag_up s 11 0 0 ((s 11 0 0) + 1)) 11 1 0 = -1 then none else ag_bd (f_Jx4a65c_add_72be8_1 fu x1 ((ag_up s 11 0 0 ((s 11 0 0) + 1)) 11 1 0) ((ag_up s 11 0 0 ((s 11 0 0) + 1)) 11 2 0) n (ag_up s 11 0 0 ((s 11 0 0) + 1))) fun r20 => some (1, (r20.1, r20.2))
abbrev rm_Jx4a65c_add_9ea2d_1 : Room := { frames := 6, cells := 1, slots := 100, locals := 150 }
set_option maxHeartbeats 4000000 in
set_option maxRecDepth 100000 in
theorem c_Jx4a65c_add_9ea2d_1 {z : ag_Z} {l : Launch} {n : ag_N} {p : ag_P} {s : ag_S} {fu : Nat} {x1 : Int32} {out : Int32 × (ag_N × ag_S)} (t11 : vp_in 0 (n 11)) (v1 : vp_in x1 (n 1)) (hf : f_Jx4a65c_add_9ea2d_1 fu x1 n s = some out) : Met l yJx4a65c_add_9ea2d (ag_ws yJx4a65c_add_9ea2d cJx4a65c_add_9ea2d 2 ((some FieldType.boolean))) rm_Jx4a65c_add_9ea2d_1 (va_Pc [.ref (p 11 0), .ref (p 1 x1)] (ag_Pre z n p s)) (ag_Pi z n p out.1 out.2.1 out.2.2) 1 100 (ag_A z) := by
  refine Met.ofW (cc := cJx4a65c_add_9ea2d) (maxL := 2) (ret := (some FieldType.boolean)) (by decide) rfl ?_
  intro p0 e st m args below meth c s9 B hml hv
  obtain ⟨ha, h0, hG, hW⟩ := hv
  have hx := B.exec
  have hb := B.bytes
  have hr := B.returns
  have hts := atoms_spec (ws := ag_ws yJx4a65c_add_9ea2d cJx4a65c_add_9ea2d 2 ((some FieldType.boolean))) B.pre
  have hT : ∀ w ∈ ag_tbl, w.before args st = true := fun w h => hts w (List.mem_cons_of_mem _ h)
  have hown : st.vm.findClass RJx4a65c = some m.cls := findClass_of_methodNamed B.named
  have hlocks := B.notSynchronized
  have hS : va_S (ag_A z) st.heap st.heap [] := va_S.rf
  obtain ⟨ls, hls, hl⟩ : ∃ ls, entryFrame m args 2 = F0 m 0 ls [] ∧ lv_has ls 2 [(0, .ref (p 11 0)), (1, .ref (p 1 x1))] := by rw [ha]; exact ag_entry m [.ref (p 11 0), .ref (p 1 x1)] (Nat.le_of_ble_eq_true rfl)
  rw [hls]
  unfold f_Jx4a65c_add_9ea2d_1 at hf
  refine lv_aload_n hx hb dJx4a65c_add_9ea2d_0 rfl (lv_at hl 0 rfl) ?_
  refine lv_dup hx hb dJx4a65c_add_9ea2d_1 rfl ?_
  refine g11_0 hx hb hT hown hG hW t11 q49 q50 dJx4a65c_add_9ea2d_2 ?_
  refine lv_iconst (v := 1) hx hb dJx4a65c_add_9ea2d_5 (by decide) ?_
  refine lv_iadd hx hb dJx4a65c_add_9ea2d_6 ?_
  refine u11_0 hx hb hT hown hG hW hS t11 q49 (u_same (hT _ q50)) dJx4a65c_add_9ea2d_7 (fun H locs hW hS => ?_)
  refine lv_aload_n hx hb dJx4a65c_add_9ea2d_10 rfl (lv_at hl 0 rfl) ?_
  refine lv_aload_n hx hb dJx4a65c_add_9ea2d_11 rfl (lv_at hl 1 rfl) ?_
  refine lv_aload_n hx hb dJx4a65c_add_9ea2d_12 rfl (lv_at hl 0 rfl) ?_
  refine g11_1 hx hb hT hown hG hW t11 q46 dJx4a65c_add_9ea2d_13 ?_
  obtain ⟨m13, hf⟩ := ag_n hf
  have o13 := ag_lor hW (k := 11) (f := 1) (t := 21) rfl rfl m13
  refine lv_aload_n hx hb dJx4a65c_add_9ea2d_16 rfl (lv_at hl 0 rfl) ?_
  refine g11_2 hx hb hT hown hG hW t11 q47 dJx4a65c_add_9ea2d_17 ?_
  obtain ⟨r20, hg20, hf⟩ := ag_bs hf
  refine ag_aVv (C1 := 1) (S1 := 100) hx hb hml hT hown hG h0 hS hW (c_Jx4a65c_add_72be8_1 t11 v1 o13 hg20) ⟨rfl, rfl⟩ q81 q83 qs0 q4 q84 dd_yJx4a65c_add_72be8 ⟨Nat.le_of_ble_eq_true rfl, Nat.le_of_ble_eq_true rfl⟩ t11 rfl rfl hl.1 rfl (Nat.le_of_ble_eq_true rfl) ⟨Nat.le_of_ble_eq_true rfl, Nat.le_of_ble_eq_true rfl⟩ dJx4a65c_add_9ea2d_20 (Nat.le_of_ble_eq_true rfl) (Nat.le_of_ble_eq_true rfl) (fun p H locs hp20 hle20 hW hS => ?_)
  have sl20 := hle20
  have he20 := ag_ext_tr (ag_le_rf _) (ag_ext_rf _ _) hp20
  have hl20 := ag_le_tr (ag_le_rf _) sl20
  rw [← hp20 11 0 t11, ← hp20 1 x1 v1] at hl
  refine lv_iconst (v := 1) hx hb dJx4a65c_add_9ea2d_23 (by decide) ?_
  exact ag_Piret hx hb hr rfl hlocks hS hf he20 hl20 hW dJx4a65c_add_9ea2d_24
def f_J7_copyOf_6403c_2 (fu : Nat) (x0 : Int32) (x1 : Int32) (n : ag_N) (s : ag_S) : Option (Int32 × (ag_N × ag_S)) := if 1000 ≤ n 22 ∨ x1 < 0 ∨ 100 < (x1).toNatClampNeg then none else if (if x1 < nI ((ag_s3 s 22 (n 22) x1) 82 0 x0).toNatClampNeg then x1 else nI ((ag_s3 s 22 (n 22) x1) 82 0 x0).toNatClampNeg) < 0 ∨ ((ag_s3 s 22 (n 22) x1) 82 0 x0).toNatClampNeg < (if x1 < nI ((ag_s3 s 22 (n 22) x1) 82 0 x0).toNatClampNeg then x1 else nI ((ag_s3 s 22 (n 22) x1) 82 0 x0).toNatClampNeg).toNatClampNeg ∨ ((ag_s3 s 22 (n 22) x1) 82 0 (nI (n 22))).toNatClampNeg < (if x1 < nI ((ag_s3 s 22 (n 22) x1) 82 0 x0).toNatClampNeg then x1 else nI ((ag_s3 s 22 (n 22) x1) 82 0 x0).toNatClampNeg).toNatClampNeg ∨ 1000 < ((ag_s3 s 22 (n 22) x1) 82 0 (nI (n 22))).toNatClampNeg then none else some ((nI (n 22)), ((ag_nn n 22), (ag_sc (ag_s3 s 22 (n 22) x1) 22 x0.toNatClampNeg (nI (n 22)).toNatClampNeg (if x1 < nI ((ag_s3 s 22 (n 22) x1) 82 0 x0).toNatClampNeg then x1 else nI ((ag_s3 s 22 (n 22) x1) 82 0 x0).toNatClampNeg).toNatClampNeg)))
abbrev rm_J7_copyOf_6403c_2 : Room := { frames := 1, cells := 1, slots := 100, locals := 40 }
set_option maxHeartbeats 4000000 in
set_option maxRecDepth 100000 in
theorem c_J7_copyOf_6403c_2 {z : ag_Z} {l : Launch} {n : ag_N} {p : ag_P} {s : ag_S} {fu : Nat} {x0 : Int32} {x1 : Int32} {out : Int32 × (ag_N × ag_S)} (v0 : vp_in x0 (n 22)) (hf : f_J7_copyOf_6403c_2 fu x0 x1 n s = some out) : Met l yJ7_copyOf_6403c (ag_ws yJ7_copyOf_6403c cJ7_copyOf_6403c 4 ((some (FieldType.array (FieldType.object "java/lang/Object"))))) rm_J7_copyOf_6403c_2 (va_Pc [.ref (p 22 x0), .int x1, .ref (z.2.1 4)] (ag_Pre z n p s)) (ag_Pr z n p 22 out.1 out.2.1 out.2.2) 1 100 (ag_A z) := by
  refine Met.ofW (cc := cJ7_copyOf_6403c) (maxL := 4) (ret := (some (FieldType.array (FieldType.object "java/lang/Object")))) (by decide) rfl ?_
  intro p0 e st m args below meth c s9 B hml hv
  obtain ⟨ha, h0, hG, hW⟩ := hv
  have hx := B.exec
  have hb := B.bytes
  have hr := B.returns
  have hts := atoms_spec (ws := ag_ws yJ7_copyOf_6403c cJ7_copyOf_6403c 4 ((some (FieldType.array (FieldType.object "java/lang/Object"))))) B.pre
  have hT : ∀ w ∈ ag_tbl, w.before args st = true := fun w h => hts w (List.mem_cons_of_mem _ h)
  have hown : st.vm.findClass RJ7 = some m.cls := findClass_of_methodNamed B.named
  have hlocks := B.notSynchronized
  have hS : va_S (ag_A z) st.heap st.heap [] := va_S.rf
  obtain ⟨ls, hls, hl⟩ : ∃ ls, entryFrame m args 4 = F0 m 0 ls [] ∧ lv_has ls 4 [(0, .ref (p 22 x0)), (1, .int x1), (2, .ref (z.2.1 4))] := by rw [ha]; exact ag_entry m [.ref (p 22 x0), .int x1, .ref (z.2.1 4)] (Nat.le_of_ble_eq_true rfl)
  rw [hls]
  unfold f_J7_copyOf_6403c_2 at hf
  refine lv_aload_n hx hb dJ7_copyOf_6403c_0 rfl (lv_at hl 2 rfl) ?_
  refine va_ldcM hx hb hown (hT _ q124) hG.2.2.2.2.2.2.2.1 dJ7_copyOf_6403c_1 ?_
  refine lv_acmp_ne (tgt := 13) (rx := some (z.2.1 4)) (ry := some (z.2.1 4)) hx hb dJ7_copyOf_6403c_3 (by decide) (fun h => absurd rfl h) (fun _ => ?_)
  refine lv_iload_n hx hb dJ7_copyOf_6403c_6 rfl (lv_at hl 1 rfl) ?_
  obtain ⟨m7, hf⟩ := ag_n hf
  have j7 : ¬ 1000 ≤ n 22 := fun q => m7 (Or.inl q)
  refine ag_newr (k := 22) (j := 2) hx hb hT hown hG h0 hS hW (Nat.lt_of_not_le j7) rfl (by decide) q126 (fun q => m7 (Or.inr (Or.inl q))) (Nat.not_lt.mp fun q => m7 (Or.inr (Or.inr q))) (Nat.le_of_ble_eq_true rfl) (Nat.le_of_ble_eq_true rfl) dJ7_copyOf_6403c_7 (fun p H hp7 hW hS => ?_)
  have sl7 := (ag_le_nn n 22)
  have he7 := ag_ext_tr (ag_le_rf _) (ag_ext_rf _ _) hp7
  have hl7 := ag_le_tr (ag_le_rf _) sl7
  rw [← hp7 22 x0 v0] at hl
  refine lv_goto (tgt := 24) hx hb dJ7_copyOf_6403c_10 (by decide) ?_
  refine lv_astore_n (lv' := [(3, .ref (p 22 (nI (n 22)))), (0, .ref (p 22 x0)), (1, .int x1), (2, .ref (z.2.1 4))]) hx hb dJ7_copyOf_6403c_24 rfl hl (by decide) rfl (fun ls hl => ?_)
  refine lv_aload_n hx hb dJ7_copyOf_6403c_25 rfl (lv_at hl 1 rfl) ?_
  refine lv_iconst (v := 0) hx hb dJ7_copyOf_6403c_26 (by decide) ?_
  refine lv_aload_n hx hb dJ7_copyOf_6403c_27 rfl (lv_at hl 0 rfl) ?_
  refine lv_iconst (v := 0) hx hb dJ7_copyOf_6403c_28 (by decide) ?_
  refine lv_aload_n hx hb dJ7_copyOf_6403c_29 rfl (lv_at hl 1 rfl) ?_
  refine ag_alen hx hb hG hW (ag_in_le v0 (sl7 _)) rfl rfl (k6 := 82) rfl dJ7_copyOf_6403c_30 ?_
  refine lv_iload_n hx hb dJ7_copyOf_6403c_31 rfl (lv_at hl 2 rfl) ?_
  refine va_mmin hx hb (hml.trans hl.1.symm) hown (hT _ q127) (hT _ q128) (hT _ q7) (hT _ q129) (Nat.le_of_ble_eq_true rfl) (Nat.le_of_ble_eq_true rfl) (Nat.le_of_ble_eq_true rfl) (Nat.le_of_ble_eq_true rfl) dJ7_copyOf_6403c_32 ?_
  obtain ⟨a35, hf⟩ := ag_n hf
  refine ag_copy (k := 22) (j := 2) (k6 := 82) ⟨ag_z0, ag_zn⟩ ⟨ag_z0, ag_zn⟩ hx hb hml hl.1 hT hown hG hS hW q130 q132 q131 q9 rfl (by decide) rfl (ag_in_le v0 (sl7 _)) (ag_new_v j7) (fun q => a35 (q.elim Or.inl (fun q => Or.inr (q.elim Or.inl (fun q => Or.inr (Or.inl q)))))) (Nat.not_lt.mp fun q => a35 (Or.inr (Or.inr (Or.inr q)))) rfl rfl cx2 (Nat.le_of_ble_eq_true rfl) (Nat.le_of_ble_eq_true rfl) dJ7_copyOf_6403c_35 (fun H locs hW hS => ?_)
  refine lv_aload_n hx hb dJ7_copyOf_6403c_38 rfl (lv_at hl 0 rfl) ?_
  exact ag_Paret hx hb hr (Or.inr ⟨_, rfl⟩) hlocks hS hf he7 hl7 (ag_new_v j7) hW dJ7_copyOf_6403c_39
def f_J7_copyOf_1904c_2 (fu : Nat) (x0 : Int32) (x1 : Int32) (n : ag_N) (s : ag_S) : Option (Int32 × (ag_N × ag_S)) := ag_bd (f_J7_copyOf_6403c_2 fu x0 x1 n s) fun r6 => some (r6.1, (r6.2.1, r6.2.2))
abbrev rm_J7_copyOf_1904c_2 : Room := { frames := 2, cells := 1, slots := 100, locals := 63 }
set_option maxHeartbeats 4000000 in
set_option maxRecDepth 100000 in
theorem c_J7_copyOf_1904c_2 {z : ag_Z} {l : Launch} {n : ag_N} {p : ag_P} {s : ag_S} {fu : Nat} {x0 : Int32} {x1 : Int32} {out : Int32 × (ag_N × ag_S)} (v0 : vp_in x0 (n 22)) (hf : f_J7_copyOf_1904c_2 fu x0 x1 n s = some out) : Met l yJ7_copyOf_1904c (ag_ws yJ7_copyOf_1904c cJ7_copyOf_1904c 2 ((some (FieldType.array (FieldType.object "java/lang/Object"))))) rm_J7_copyOf_1904c_2 (va_Pc [.ref (p 22 x0), .int x1] (ag_Pre z n p s)) (ag_Pr z n p 22 out.1 out.2.1 out.2.2) 1 100 (ag_A z) := by
  refine Met.ofW (cc := cJ7_copyOf_1904c) (maxL := 2) (ret := (some (FieldType.array (FieldType.object "java/lang/Object")))) (by decide) rfl ?_
  intro p0 e st m args below meth c s9 B hml hv
  obtain ⟨ha, h0, hG, hW⟩ := hv
  have hx := B.exec
  have hb := B.bytes
  have hr := B.returns
  have hts := atoms_spec (ws := ag_ws yJ7_copyOf_1904c cJ7_copyOf_1904c 2 ((some (FieldType.array (FieldType.object "java/lang/Object"))))) B.pre
  have hT : ∀ w ∈ ag_tbl, w.before args st = true := fun w h => hts w (List.mem_cons_of_mem _ h)
  have hown : st.vm.findClass RJ7 = some m.cls := findClass_of_methodNamed B.named
  have hlocks := B.notSynchronized
  have hS : va_S (ag_A z) st.heap st.heap [] := va_S.rf
  obtain ⟨ls, hls, hl⟩ : ∃ ls, entryFrame m args 2 = F0 m 0 ls [] ∧ lv_has ls 2 [(0, .ref (p 22 x0)), (1, .int x1)] := by rw [ha]; exact ag_entry m [.ref (p 22 x0), .int x1] (Nat.le_of_ble_eq_true rfl)
  rw [hls]
  unfold f_J7_copyOf_1904c_2 at hf
  refine lv_aload_n hx hb dJ7_copyOf_1904c_0 rfl (lv_at hl 0 rfl) ?_
  refine lv_iload_n hx hb dJ7_copyOf_1904c_1 rfl (lv_at hl 1 rfl) ?_
  refine lv_aload_n hx hb dJ7_copyOf_1904c_2 rfl (lv_at hl 0 rfl) ?_
  refine ag_getC (k := 22) (j := 2) hx hb hml hl.1 hT hown hG hW q106 dcl0 q1070 q107 q120 rfl (by decide) v0 (Nat.le_of_ble_eq_true rfl) (Nat.le_of_ble_eq_true rfl) dJ7_copyOf_1904c_3 ?_
  obtain ⟨r6, hg6, hf⟩ := ag_bs hf
  refine ag_aSr (C1 := 1) (S1 := 100) hx hb hml hT hown hG h0 hS hW (c_J7_copyOf_6403c_2 v0 hg6) ⟨rfl, rfl⟩ q121 q122 q8 q123 dd_yJ7_copyOf_6403c ⟨Nat.le_of_ble_eq_true rfl, Nat.le_of_ble_eq_true rfl⟩ hl.1 rfl (Nat.le_of_ble_eq_true rfl) ⟨Nat.le_of_ble_eq_true rfl, Nat.le_of_ble_eq_true rfl⟩ dJ7_copyOf_1904c_6 (Nat.le_of_ble_eq_true rfl) (Nat.le_of_ble_eq_true rfl) (fun p H locs hp6 hle6 hW hS v6 => ?_)
  have sl6 := hle6
  have he6 := ag_ext_tr (ag_le_rf _) (ag_ext_rf _ _) hp6
  have hl6 := ag_le_tr (ag_le_rf _) sl6
  rw [← hp6 22 x0 v0] at hl
  exact ag_Paret hx hb hr (Or.inr ⟨_, rfl⟩) hlocks hS hf he6 hl6 v6 hW dJ7_copyOf_1904c_9
def f_Jx4a65c_grow_92f84_2 (fu : Nat) (x1 : Int32) (n : ag_N) (s : ag_S) : Option (Int32 × (ag_N × ag_S)) := if s 12 1 0 = -1 then none else if (0 : Int32) < ag_ln s 82 (s 12 1 0) then (ag_bd (f_J8_newLength_cabcc fu (ag_ln s 82 (s 12 1 0)) (x1 - (ag_ln s 82 (s 12 1 0))) ((ag_ln s 82 (s 12 1 0)) >>> ((1 : Int32) &&& 31)) s) fun r27 => if s 12 1 0 = -1 then none else if s 12 1 0 = -2 then none else ag_bd (f_J7_copyOf_1904c_2 fu (s 12 1 0) r27 n s) fun r37 => some (r37.1, (r37.2.1, (ag_up r37.2.2 12 1 0 r37.1)))) else (if s 12 1 0 = -1 then none else if s 12 1 0 = -2 then (if 1000 ≤ n 22 ∨ (if 10 < x1 then x1 else 10) < 0 ∨ 100 < (if 10 < x1 then x1 else 10).toNatClampNeg then none else some ((nI (n 22)), ((ag_nn n 22), (ag_up (ag_s3 s 22 (n 22) (if 10 < x1 then x1 else 10)) 12 1 0 (nI (n 22)))))) else (ag_bd (f_J8_newLength_cabcc fu (ag_ln s 82 (s 12 1 0)) (x1 - (ag_ln s 82 (s 12 1 0))) ((ag_ln s 82 (s 12 1 0)) >>> ((1 : Int32) &&& 31)) s) fun r27 => if s 12 1 0 = -1 then none else if s 12 1 0 = -2 then none else ag_bd (f_J7_copyOf_1904c_2 fu (s 12 1 0) r27 n s) fun r37 => some (r37.1, (r37.2.1, (ag_up r37.2.2 12 1 0 r37.1)))))
abbrev rm_Jx4a65c_grow_92f84_2 : Room := { frames := 3, cells := 1, slots := 100, locals := 84 }
set_option maxHeartbeats 4000000 in
set_option maxRecDepth 100000 in
theorem c_Jx4a65c_grow_92f84_2 {z : ag_Z} {l : Launch} {n : ag_N} {p : ag_P} {s : ag_S} {fu : Nat} {x1 : Int32} {out : Int32 × (ag_N × ag_S)} (t12 : vp_in 0 (n 12)) (hf : f_Jx4a65c_grow_92f84_2 fu x1 n s = some out) : Met l yJx4a65c_grow_92f84 (ag_ws yJx4a65c_grow_92f84 cJx4a65c_grow_92f84 4 ((some (FieldType.array (FieldType.object "java/lang/Object"))))) rm_Jx4a65c_grow_92f84_2 (va_Pc [.ref (p 12 0), .int x1] (ag_Pre z n p s)) (ag_Pr z n p 22 out.1 out.2.1 out.2.2) 1 100 (ag_A z) := by
  refine Met.ofW (cc := cJx4a65c_grow_92f84) (maxL := 4) (ret := (some (FieldType.array (FieldType.object "java/lang/Object")))) (by decide) rfl ?_
  intro p0 e st m args below meth c s9 B hml hv
  obtain ⟨ha, h0, hG, hW⟩ := hv
  have hx := B.exec
  have hb := B.bytes
  have hr := B.returns
  have hts := atoms_spec (ws := ag_ws yJx4a65c_grow_92f84 cJx4a65c_grow_92f84 4 ((some (FieldType.array (FieldType.object "java/lang/Object"))))) B.pre
  have hT : ∀ w ∈ ag_tbl, w.before args st = true := fun w h => hts w (List.mem_cons_of_mem _ h)
  have hown : st.vm.findClass RJx4a65c = some m.cls := findClass_of_methodNamed B.named
  have hlocks := B.notSynchronized
  have hS : va_S (ag_A z) st.heap st.heap [] := va_S.rf
  obtain ⟨ls, hls, hl⟩ : ∃ ls, entryFrame m args 4 = F0 m 0 ls [] ∧ lv_has ls 4 [(0, .ref (p 12 0)), (1, .int x1)] := by rw [ha]; exact ag_entry m [.ref (p 12 0), .int x1] (Nat.le_of_ble_eq_true rfl)
  rw [hls]
  unfold f_Jx4a65c_grow_92f84_2 at hf
  refine lv_aload_n hx hb dJx4a65c_grow_92f84_0 rfl (lv_at hl 0 rfl) ?_
  refine g12_1 hx hb hT hown hG hW t12 q46 dJx4a65c_grow_92f84_1 ?_
  obtain ⟨m1, hf⟩ := ag_n hf
  have o1 := ag_lor hW (k := 12) (f := 1) (t := 22) rfl rfl m1
  refine ag_alenE (k := 22) (k6 := 82) hx hb hG hS hW o1 rfl rfl rfl dJx4a65c_grow_92f84_4 ?_
  refine lv_istore_n (lv' := [(2, .int (ag_ln s 82 (s 12 1 0))), (0, .ref (p 12 0)), (1, .int x1)]) hx hb dJx4a65c_grow_92f84_5 rfl hl (by decide) rfl (fun ls hl => ?_)
  refine lv_iload_n hx hb dJx4a65c_grow_92f84_6 rfl (lv_at hl 0 rfl) ?_
  refine lv_if_gt (tgt := 20) hx hb dJx4a65c_grow_92f84_7 (by decide) (fun c7 => ?_) (fun c7 => ?_)
  · have hf := ag_t c7 hf
    refine lv_iload_n hx hb dJx4a65c_grow_92f84_20 rfl (lv_at hl 0 rfl) ?_
    refine lv_iload_n hx hb dJx4a65c_grow_92f84_21 rfl (lv_at hl 2 rfl) ?_
    refine lv_iload_n hx hb dJx4a65c_grow_92f84_22 rfl (lv_at hl 0 rfl) ?_
    refine lv_isub hx hb dJx4a65c_grow_92f84_23 ?_
    refine lv_iload_n hx hb dJx4a65c_grow_92f84_24 rfl (lv_at hl 0 rfl) ?_
    refine lv_iconst (v := 1) hx hb dJx4a65c_grow_92f84_25 (by decide) ?_
    refine lv_ishr hx hb dJx4a65c_grow_92f84_26 ?_
    obtain ⟨r27, hg27, hf⟩ := ag_bs hf
    refine ag_cSi hx hb hml hT hown hG h0 hS hW (c_J8_newLength_cabcc hg27) ⟨rfl, rfl⟩ q93 q94 q6 q95 dd_yJ8_newLength_cabcc ⟨Nat.le_of_ble_eq_true rfl, Nat.le_of_ble_eq_true rfl⟩ hl.1 rfl (Nat.le_of_ble_eq_true rfl) ⟨Nat.le_of_ble_eq_true rfl, Nat.le_of_ble_eq_true rfl⟩ dJx4a65c_grow_92f84_27 (fun H locs hW hS => ?_)
    refine lv_istore_n (lv' := [(3, .int r27), (2, .int (ag_ln s 82 (s 12 1 0))), (0, .ref (p 12 0)), (1, .int x1)]) hx hb dJx4a65c_grow_92f84_30 rfl hl (by decide) rfl (fun ls hl => ?_)
    refine lv_aload_n hx hb dJx4a65c_grow_92f84_31 rfl (lv_at hl 2 rfl) ?_
    refine lv_aload_n hx hb dJx4a65c_grow_92f84_32 rfl (lv_at hl 2 rfl) ?_
    refine g12_1 hx hb hT hown hG hW t12 q46 dJx4a65c_grow_92f84_33 ?_
    obtain ⟨m33, hf⟩ := ag_n hf
    have o33 := ag_lor hW (k := 12) (f := 1) (t := 22) rfl rfl m33
    refine lv_iload_n hx hb dJx4a65c_grow_92f84_36 rfl (lv_at hl 0 rfl) ?_
    obtain ⟨l37, hf⟩ := ag_n hf
    have lv37 := Or.resolve_left o33 l37
    rw [ag_refv (z := z) (p := p) lv37 hW]
    obtain ⟨r37, hg37, hf⟩ := ag_bs hf
    refine ag_aSr (C1 := 1) (S1 := 100) hx hb hml hT hown hG h0 hS hW (c_J7_copyOf_1904c_2 lv37 hg37) ⟨rfl, rfl⟩ q103 q104 q8 q105 dd_yJ7_copyOf_1904c ⟨Nat.le_of_ble_eq_true rfl, Nat.le_of_ble_eq_true rfl⟩ hl.1 rfl (Nat.le_of_ble_eq_true rfl) ⟨Nat.le_of_ble_eq_true rfl, Nat.le_of_ble_eq_true rfl⟩ dJx4a65c_grow_92f84_37 (Nat.le_of_ble_eq_true rfl) (Nat.le_of_ble_eq_true rfl) (fun p H locs hp37 hle37 hW hS v37 => ?_)
    have sl37 := hle37
    have he37 := ag_ext_tr (ag_le_rf _) (ag_ext_rf _ _) hp37
    have hl37 := ag_le_tr (ag_le_rf _) sl37
    rw [← hp37 12 0 t12] at hl
    rw [← hp37 12 0 t12]
    refine lv_dup_x1 hx hb dJx4a65c_grow_92f84_40 rfl rfl ?_
    refine u12_1 hx hb hT hown hG hW hS (ag_in_le t12 (sl37 _)) (ag_refv (z := z) (p := p) v37 hW).symm (Or.inl (Or.inr v37)) q46 dJx4a65c_grow_92f84_41 (fun H locs hW hS => ?_)
    exact ag_Paret hx hb hr (Or.inr ⟨_, rfl⟩) hlocks hS hf he37 hl37 v37 hW dJx4a65c_grow_92f84_44
  · have hf := ag_f c7 hf
    refine lv_aload_n hx hb dJx4a65c_grow_92f84_10 rfl (lv_at hl 1 rfl) ?_
    refine g12_1 hx hb hT hown hG hW t12 q46 dJx4a65c_grow_92f84_11 ?_
    obtain ⟨m11, hf⟩ := ag_n hf
    have o11 := ag_lor hW (k := 12) (f := 1) (t := 22) rfl rfl m11
    refine ag_getst hx hb hT hown hG hS q44 dJx4a65c_grow_92f84_14 ?_
    refine ag_acmE (t := 22) (v := s 12 1 0) (tgt := 45) hx hb hG hW o11 dJx4a65c_grow_92f84_17 (by decide) (fun c17 => ?_) (fun c17 => ?_)
    · have hf := ag_t c17 hf
      refine lv_aload_n hx hb dJx4a65c_grow_92f84_45 rfl (lv_at hl 1 rfl) ?_
      refine lv_bipush (v := 10) hx hb dJx4a65c_grow_92f84_46 (by decide) ?_
      refine lv_iload_n hx hb dJx4a65c_grow_92f84_48 rfl (lv_at hl 2 rfl) ?_
      refine va_mmax hx hb (hml.trans hl.1.symm) hown (hT _ q133) (hT _ q97) (hT _ q7) (hT _ q98) (Nat.le_of_ble_eq_true rfl) (Nat.le_of_ble_eq_true rfl) (Nat.le_of_ble_eq_true rfl) (Nat.le_of_ble_eq_true rfl) dJx4a65c_grow_92f84_49 ?_
      obtain ⟨m52, hf⟩ := ag_n hf
      have j52 : ¬ 1000 ≤ n 22 := fun q => m52 (Or.inl q)
      refine ag_newr (k := 22) (j := 2) hx hb hT hown hG h0 hS hW (Nat.lt_of_not_le j52) rfl (by decide) q134 (fun q => m52 (Or.inr (Or.inl q))) (Nat.not_lt.mp fun q => m52 (Or.inr (Or.inr q))) (Nat.le_of_ble_eq_true rfl) (Nat.le_of_ble_eq_true rfl) dJx4a65c_grow_92f84_52 (fun p H hp52 hW hS => ?_)
      have sl52 := (ag_le_nn n 22)
      have he52 := ag_ext_tr (ag_le_rf _) (ag_ext_rf _ _) hp52
      have hl52 := ag_le_tr (ag_le_rf _) sl52
      rw [← hp52 12 0 t12] at hl
      rw [← hp52 12 0 t12]
      refine lv_dup_x1 hx hb dJx4a65c_grow_92f84_55 rfl rfl ?_
      refine u12_1 hx hb hT hown hG hW hS (ag_in_le t12 (sl52 _)) (ag_refv (z := z) (p := p) (ag_new_v j52) hW).symm (Or.inl (Or.inr (ag_new_v j52))) q46 dJx4a65c_grow_92f84_56 (fun H locs hW hS => ?_)
      exact ag_Paret hx hb hr (Or.inr ⟨_, rfl⟩) hlocks hS hf he52 hl52 (ag_new_v j52) hW dJx4a65c_grow_92f84_59
    · have hf := ag_f c17 hf
      refine lv_iload_n hx hb dJx4a65c_grow_92f84_20 rfl (lv_at hl 0 rfl) ?_
      refine lv_iload_n hx hb dJx4a65c_grow_92f84_21 rfl (lv_at hl 2 rfl) ?_
      refine lv_iload_n hx hb dJx4a65c_grow_92f84_22 rfl (lv_at hl 0 rfl) ?_
      refine lv_isub hx hb dJx4a65c_grow_92f84_23 ?_
      refine lv_iload_n hx hb dJx4a65c_grow_92f84_24 rfl (lv_at hl 0 rfl) ?_
      refine lv_iconst (v := 1) hx hb dJx4a65c_grow_92f84_25 (by decide) ?_
      refine lv_ishr hx hb dJx4a65c_grow_92f84_26 ?_
      obtain ⟨r27, hg27, hf⟩ := ag_bs hf
      refine ag_cSi hx hb hml hT hown hG h0 hS hW (c_J8_newLength_cabcc hg27) ⟨rfl, rfl⟩ q93 q94 q6 q95 dd_yJ8_newLength_cabcc ⟨Nat.le_of_ble_eq_true rfl, Nat.le_of_ble_eq_true rfl⟩ hl.1 rfl (Nat.le_of_ble_eq_true rfl) ⟨Nat.le_of_ble_eq_true rfl, Nat.le_of_ble_eq_true rfl⟩ dJx4a65c_grow_92f84_27 (fun H locs hW hS => ?_)
      refine lv_istore_n (lv' := [(3, .int r27), (2, .int (ag_ln s 82 (s 12 1 0))), (0, .ref (p 12 0)), (1, .int x1)]) hx hb dJx4a65c_grow_92f84_30 rfl hl (by decide) rfl (fun ls hl => ?_)
      refine lv_aload_n hx hb dJx4a65c_grow_92f84_31 rfl (lv_at hl 2 rfl) ?_
      refine lv_aload_n hx hb dJx4a65c_grow_92f84_32 rfl (lv_at hl 2 rfl) ?_
      refine g12_1 hx hb hT hown hG hW t12 q46 dJx4a65c_grow_92f84_33 ?_
      obtain ⟨m33, hf⟩ := ag_n hf
      have o33 := ag_lor hW (k := 12) (f := 1) (t := 22) rfl rfl m33
      refine lv_iload_n hx hb dJx4a65c_grow_92f84_36 rfl (lv_at hl 0 rfl) ?_
      obtain ⟨l37, hf⟩ := ag_n hf
      have lv37 := Or.resolve_left o33 l37
      rw [ag_refv (z := z) (p := p) lv37 hW]
      obtain ⟨r37, hg37, hf⟩ := ag_bs hf
      refine ag_aSr (C1 := 1) (S1 := 100) hx hb hml hT hown hG h0 hS hW (c_J7_copyOf_1904c_2 lv37 hg37) ⟨rfl, rfl⟩ q103 q104 q8 q105 dd_yJ7_copyOf_1904c ⟨Nat.le_of_ble_eq_true rfl, Nat.le_of_ble_eq_true rfl⟩ hl.1 rfl (Nat.le_of_ble_eq_true rfl) ⟨Nat.le_of_ble_eq_true rfl, Nat.le_of_ble_eq_true rfl⟩ dJx4a65c_grow_92f84_37 (Nat.le_of_ble_eq_true rfl) (Nat.le_of_ble_eq_true rfl) (fun p H locs hp37 hle37 hW hS v37 => ?_)
      have sl37 := hle37
      have he37 := ag_ext_tr (ag_le_rf _) (ag_ext_rf _ _) hp37
      have hl37 := ag_le_tr (ag_le_rf _) sl37
      rw [← hp37 12 0 t12] at hl
      rw [← hp37 12 0 t12]
      refine lv_dup_x1 hx hb dJx4a65c_grow_92f84_40 rfl rfl ?_
      refine u12_1 hx hb hT hown hG hW hS (ag_in_le t12 (sl37 _)) (ag_refv (z := z) (p := p) v37 hW).symm (Or.inl (Or.inr v37)) q46 dJx4a65c_grow_92f84_41 (fun H locs hW hS => ?_)
      exact ag_Paret hx hb hr (Or.inr ⟨_, rfl⟩) hlocks hS hf he37 hl37 v37 hW dJx4a65c_grow_92f84_44
def f_Jx4a65c_grow_d5877_2 (fu : Nat) (n : ag_N) (s : ag_S) : Option (Int32 × (ag_N × ag_S)) := ag_bd (f_Jx4a65c_grow_92f84_2 fu ((s 12 2 0) + 1) n s) fun r7 => some (r7.1, (r7.2.1, r7.2.2))
abbrev rm_Jx4a65c_grow_d5877_2 : Room := { frames := 4, cells := 1, slots := 100, locals := 107 }
set_option maxHeartbeats 4000000 in
set_option maxRecDepth 100000 in
theorem c_Jx4a65c_grow_d5877_2 {z : ag_Z} {l : Launch} {n : ag_N} {p : ag_P} {s : ag_S} {fu : Nat} {out : Int32 × (ag_N × ag_S)} (t12 : vp_in 0 (n 12)) (hf : f_Jx4a65c_grow_d5877_2 fu  n s = some out) : Met l yJx4a65c_grow_d5877 (ag_ws yJx4a65c_grow_d5877 cJx4a65c_grow_d5877 1 ((some (FieldType.array (FieldType.object "java/lang/Object"))))) rm_Jx4a65c_grow_d5877_2 (va_Pc [.ref (p 12 0)] (ag_Pre z n p s)) (ag_Pr z n p 22 out.1 out.2.1 out.2.2) 1 100 (ag_A z) := by
  refine Met.ofW (cc := cJx4a65c_grow_d5877) (maxL := 1) (ret := (some (FieldType.array (FieldType.object "java/lang/Object")))) (by decide) rfl ?_
  intro p0 e st m args below meth c s9 B hml hv
  obtain ⟨ha, h0, hG, hW⟩ := hv
  have hx := B.exec
  have hb := B.bytes
  have hr := B.returns
  have hts := atoms_spec (ws := ag_ws yJx4a65c_grow_d5877 cJx4a65c_grow_d5877 1 ((some (FieldType.array (FieldType.object "java/lang/Object"))))) B.pre
  have hT : ∀ w ∈ ag_tbl, w.before args st = true := fun w h => hts w (List.mem_cons_of_mem _ h)
  have hown : st.vm.findClass RJx4a65c = some m.cls := findClass_of_methodNamed B.named
  have hlocks := B.notSynchronized
  have hS : va_S (ag_A z) st.heap st.heap [] := va_S.rf
  obtain ⟨ls, hls, hl⟩ : ∃ ls, entryFrame m args 1 = F0 m 0 ls [] ∧ lv_has ls 1 [(0, .ref (p 12 0))] := by rw [ha]; exact ag_entry m [.ref (p 12 0)] (Nat.le_of_ble_eq_true rfl)
  rw [hls]
  unfold f_Jx4a65c_grow_d5877_2 at hf
  refine lv_aload_n hx hb dJx4a65c_grow_d5877_0 rfl (lv_at hl 0 rfl) ?_
  refine lv_aload_n hx hb dJx4a65c_grow_d5877_1 rfl (lv_at hl 0 rfl) ?_
  refine g12_2 hx hb hT hown hG hW t12 q47 dJx4a65c_grow_d5877_2 ?_
  refine lv_iconst (v := 1) hx hb dJx4a65c_grow_d5877_5 (by decide) ?_
  refine lv_iadd hx hb dJx4a65c_grow_d5877_6 ?_
  obtain ⟨r7, hg7, hf⟩ := ag_bs hf
  refine ag_aVr (C1 := 1) (S1 := 100) hx hb hml hT hown hG h0 hS hW (c_Jx4a65c_grow_92f84_2 t12 hg7) ⟨rfl, rfl⟩ q89 q91 qs2 q4 q92 dd_yJx4a65c_grow_92f84 ⟨Nat.le_of_ble_eq_true rfl, Nat.le_of_ble_eq_true rfl⟩ t12 rfl rfl hl.1 rfl (Nat.le_of_ble_eq_true rfl) ⟨Nat.le_of_ble_eq_true rfl, Nat.le_of_ble_eq_true rfl⟩ dJx4a65c_grow_d5877_7 (Nat.le_of_ble_eq_true rfl) (Nat.le_of_ble_eq_true rfl) (fun p H locs hp7 hle7 hW hS v7 => ?_)
  have sl7 := hle7
  have he7 := ag_ext_tr (ag_le_rf _) (ag_ext_rf _ _) hp7
  have hl7 := ag_le_tr (ag_le_rf _) sl7
  rw [← hp7 12 0 t12] at hl
  exact ag_Paret hx hb hr (Or.inr ⟨_, rfl⟩) hlocks hS hf he7 hl7 v7 hW dJx4a65c_grow_d5877_10
def f_Jx4a65c_add_72be8_2 (fu : Nat) (x1 : Int32) (x2 : Int32) (x3 : Int32) (n : ag_N) (s : ag_S) : Option (ag_N × ag_S) := if x3 = ag_ln s 82 x2 then (ag_bd (f_Jx4a65c_grow_d5877_2 fu n s) fun r7 => if x3 < 0 ∨ (r7.2.2 82 0 r7.1).toNatClampNeg ≤ x3.toNatClampNeg ∨ 100 < (r7.2.2 82 0 r7.1).toNatClampNeg then none else some (r7.2.1, (ag_up (ag_up r7.2.2 22 r7.1.toNatClampNeg x3 x1) 12 2 0 (x3 + 1)))) else (if x2 = -2 then none else if x3 < 0 ∨ (s 82 0 x2).toNatClampNeg ≤ x3.toNatClampNeg ∨ 100 < (s 82 0 x2).toNatClampNeg then none else some (n, (ag_up (ag_up s 22 x2.toNatClampNeg x3 x1) 12 2 0 (x3 + 1))))
abbrev rm_Jx4a65c_add_72be8_2 : Room := { frames := 5, cells := 1, slots := 100, locals := 127 }
set_option maxHeartbeats 4000000 in
set_option maxRecDepth 100000 in
theorem c_Jx4a65c_add_72be8_2 {z : ag_Z} {l : Launch} {n : ag_N} {p : ag_P} {s : ag_S} {fu : Nat} {x1 : Int32} {x2 : Int32} {x3 : Int32} {out : ag_N × ag_S} (t12 : vp_in 0 (n 12)) (v1 : vp_in x1 (n 2)) (v2 : x2 = -2 ∨ vp_in x2 (n 22)) (hf : f_Jx4a65c_add_72be8_2 fu x1 x2 x3 n s = some out) : Met l yJx4a65c_add_72be8 (ag_ws yJx4a65c_add_72be8 cJx4a65c_add_72be8 4 ((none))) rm_Jx4a65c_add_72be8_2 (va_Pc [.ref (p 12 0), .ref (p 2 x1), va_rf (ag_ro z p 22 (x2)), .int x3] (ag_Pre z n p s)) (ag_Pv z n p out.1 out.2) 1 100 (ag_A z) := by
  refine Met.ofW (cc := cJx4a65c_add_72be8) (maxL := 4) (ret := (none)) (by decide) rfl ?_
  intro p0 e st m args below meth c s9 B hml hv
  obtain ⟨ha, h0, hG, hW⟩ := hv
  have hx := B.exec
  have hb := B.bytes
  have hr := B.returns
  have hts := atoms_spec (ws := ag_ws yJx4a65c_add_72be8 cJx4a65c_add_72be8 4 ((none))) B.pre
  have hT : ∀ w ∈ ag_tbl, w.before args st = true := fun w h => hts w (List.mem_cons_of_mem _ h)
  have hown : st.vm.findClass RJx4a65c = some m.cls := findClass_of_methodNamed B.named
  have hlocks := B.notSynchronized
  have hS : va_S (ag_A z) st.heap st.heap [] := va_S.rf
  obtain ⟨ls, hls, hl⟩ : ∃ ls, entryFrame m args 4 = F0 m 0 ls [] ∧ lv_has ls 4 [(0, .ref (p 12 0)), (1, .ref (p 2 x1)), (2, va_rf (ag_ro z p 22 (x2))), (3, .int x3)] := by rw [ha]; generalize ag_ro z p 22 x2 = r0; cases r0 <;> exact ag_entry m _ (Nat.le_of_ble_eq_true rfl)
  rw [hls]
  unfold f_Jx4a65c_add_72be8_2 at hf
  refine lv_iload_n hx hb dJx4a65c_add_72be8_0 rfl (lv_at hl 3 rfl) ?_
  refine ag_aloadq hx hb dJx4a65c_add_72be8_1 rfl (lv_at hl 2 rfl) ?_
  refine ag_alenE (k := 22) (k6 := 82) hx hb hG hS hW v2 rfl rfl rfl dJx4a65c_add_72be8_2 ?_
  refine lv_icmp_ne (tgt := 11) hx hb dJx4a65c_add_72be8_3 (by decide) (fun c3 => ?_) (fun c3 => ?_)
  · have hf := ag_f c3 hf
    refine ag_aloadq hx hb dJx4a65c_add_72be8_11 rfl (lv_at hl 2 rfl) ?_
    refine lv_iload_n hx hb dJx4a65c_add_72be8_12 rfl (lv_at hl 3 rfl) ?_
    refine lv_aload_n hx hb dJx4a65c_add_72be8_13 rfl (lv_at hl 1 rfl) ?_
    obtain ⟨m14, hf⟩ := ag_n hf
    have v14 := Or.resolve_left v2 m14
    rw [ag_refv (z := z) (p := p) v14 hW]
    obtain ⟨a14, hf⟩ := ag_n hf
    refine ag_aast (k := 22) (j := 2) hx hb hG hW hS rfl (by decide) v14 (fun q => a14 (q.elim Or.inl (fun q => Or.inr (Or.inl q)))) (Nat.not_lt.mp fun q => a14 (Or.inr (Or.inr q))) v1 rfl rfl cx2 dJx4a65c_add_72be8_14 (fun H locs hW hS => ?_)
    refine lv_aload_n hx hb dJx4a65c_add_72be8_15 rfl (lv_at hl 0 rfl) ?_
    refine lv_iload_n hx hb dJx4a65c_add_72be8_16 rfl (lv_at hl 3 rfl) ?_
    refine lv_iconst (v := 1) hx hb dJx4a65c_add_72be8_17 (by decide) ?_
    refine lv_iadd hx hb dJx4a65c_add_72be8_18 ?_
    refine u12_2 hx hb hT hown hG hW hS t12 q47 dJx4a65c_add_72be8_19 (fun H locs hW hS => ?_)
    refine W.widen (k := 1) (n := 100) (Nat.le_of_ble_eq_true rfl) (Nat.le_of_ble_eq_true rfl) ?_
    exact ag_Pvret hx hb hr hlocks hS hf (ag_ext_rf _ _) (ag_le_rf _) hW dJx4a65c_add_72be8_22
  · have hf := ag_t c3 hf
    refine lv_aload_n hx hb dJx4a65c_add_72be8_6 rfl (lv_at hl 0 rfl) ?_
    obtain ⟨r7, hg7, hf⟩ := ag_bs hf
    refine ag_aVr (C1 := 1) (S1 := 100) hx hb hml hT hown hG h0 hS hW (c_Jx4a65c_grow_d5877_2 t12 hg7) ⟨rfl, rfl⟩ q85 q87 qs1 q4 q88 dd_yJx4a65c_grow_d5877 ⟨Nat.le_of_ble_eq_true rfl, Nat.le_of_ble_eq_true rfl⟩ t12 rfl rfl hl.1 rfl (Nat.le_of_ble_eq_true rfl) ⟨Nat.le_of_ble_eq_true rfl, Nat.le_of_ble_eq_true rfl⟩ dJx4a65c_add_72be8_7 (Nat.le_of_ble_eq_true rfl) (Nat.le_of_ble_eq_true rfl) (fun p H locs hp7 hle7 hW hS v7 => ?_)
    have sl7 := hle7
    have he7 := ag_ext_tr (ag_le_rf _) (ag_ext_rf _ _) hp7
    have hl7 := ag_le_tr (ag_le_rf _) sl7
    rw [← hp7 12 0 t12, ← hp7 2 x1 v1, ← ag_ro_p (z := z) (t := 22) hp7 (Or.comm.mp (Or.imp_right (fun h => (Or.inr h : ag_ok _ _ _)) v2))] at hl
    refine lv_astore_n (lv' := [(2, .ref (p 22 r7.1)), (0, .ref (p 12 0)), (1, .ref (p 2 x1)), (3, .int x3)]) hx hb dJx4a65c_add_72be8_10 rfl hl (by decide) rfl (fun ls hl => ?_)
    refine lv_aload_n hx hb dJx4a65c_add_72be8_11 rfl (lv_at hl 0 rfl) ?_
    refine lv_iload_n hx hb dJx4a65c_add_72be8_12 rfl (lv_at hl 3 rfl) ?_
    refine lv_aload_n hx hb dJx4a65c_add_72be8_13 rfl (lv_at hl 2 rfl) ?_
    obtain ⟨a14, hf⟩ := ag_n hf
    refine ag_aast (k := 22) (j := 2) hx hb hG hW hS rfl (by decide) v7 (fun q => a14 (q.elim Or.inl (fun q => Or.inr (Or.inl q)))) (Nat.not_lt.mp fun q => a14 (Or.inr (Or.inr q))) (ag_in_le v1 (sl7 _)) rfl rfl cx2 dJx4a65c_add_72be8_14 (fun H locs hW hS => ?_)
    refine lv_aload_n hx hb dJx4a65c_add_72be8_15 rfl (lv_at hl 1 rfl) ?_
    refine lv_iload_n hx hb dJx4a65c_add_72be8_16 rfl (lv_at hl 3 rfl) ?_
    refine lv_iconst (v := 1) hx hb dJx4a65c_add_72be8_17 (by decide) ?_
    refine lv_iadd hx hb dJx4a65c_add_72be8_18 ?_
    refine u12_2 hx hb hT hown hG hW hS (ag_in_le t12 (sl7 _)) q47 dJx4a65c_add_72be8_19 (fun H locs hW hS => ?_)
    exact ag_Pvret hx hb hr hlocks hS hf he7 hl7 hW dJx4a65c_add_72be8_22
def f_Jx4a65c_add_9ea2d_2 (fu : Nat) (x1 : Int32) (n : ag_N) (s : ag_S) : Option (Int32 × (ag_N × ag_S)) := if (ag_up s 12 0 0 ((s 12 0 0) + 1)) 12 1 0 = -1 then none else ag_bd (f_Jx4a65c_add_72be8_2 fu x1 ((ag_up s 12 0 0 ((s 12 0 0) + 1)) 12 1 0) ((ag_up s 12 0 0 ((s 12 0 0) + 1)) 12 2 0) n (ag_up s 12 0 0 ((s 12 0 0) + 1))) fun r20 => some (1, (r20.1, r20.2))
abbrev rm_Jx4a65c_add_9ea2d_2 : Room := { frames := 6, cells := 1, slots := 100, locals := 150 }
set_option maxHeartbeats 4000000 in
set_option maxRecDepth 100000 in
theorem c_Jx4a65c_add_9ea2d_2 {z : ag_Z} {l : Launch} {n : ag_N} {p : ag_P} {s : ag_S} {fu : Nat} {x1 : Int32} {out : Int32 × (ag_N × ag_S)} (t12 : vp_in 0 (n 12)) (v1 : vp_in x1 (n 2)) (hf : f_Jx4a65c_add_9ea2d_2 fu x1 n s = some out) : Met l yJx4a65c_add_9ea2d (ag_ws yJx4a65c_add_9ea2d cJx4a65c_add_9ea2d 2 ((some FieldType.boolean))) rm_Jx4a65c_add_9ea2d_2 (va_Pc [.ref (p 12 0), .ref (p 2 x1)] (ag_Pre z n p s)) (ag_Pi z n p out.1 out.2.1 out.2.2) 1 100 (ag_A z) := by
  refine Met.ofW (cc := cJx4a65c_add_9ea2d) (maxL := 2) (ret := (some FieldType.boolean)) (by decide) rfl ?_
  intro p0 e st m args below meth c s9 B hml hv
  obtain ⟨ha, h0, hG, hW⟩ := hv
  have hx := B.exec
  have hb := B.bytes
  have hr := B.returns
  have hts := atoms_spec (ws := ag_ws yJx4a65c_add_9ea2d cJx4a65c_add_9ea2d 2 ((some FieldType.boolean))) B.pre
  have hT : ∀ w ∈ ag_tbl, w.before args st = true := fun w h => hts w (List.mem_cons_of_mem _ h)
  have hown : st.vm.findClass RJx4a65c = some m.cls := findClass_of_methodNamed B.named
  have hlocks := B.notSynchronized
  have hS : va_S (ag_A z) st.heap st.heap [] := va_S.rf
  obtain ⟨ls, hls, hl⟩ : ∃ ls, entryFrame m args 2 = F0 m 0 ls [] ∧ lv_has ls 2 [(0, .ref (p 12 0)), (1, .ref (p 2 x1))] := by rw [ha]; exact ag_entry m [.ref (p 12 0), .ref (p 2 x1)] (Nat.le_of_ble_eq_true rfl)
  rw [hls]
  unfold f_Jx4a65c_add_9ea2d_2 at hf
  refine lv_aload_n hx hb dJx4a65c_add_9ea2d_0 rfl (lv_at hl 0 rfl) ?_
  refine lv_dup hx hb dJx4a65c_add_9ea2d_1 rfl ?_
  refine g12_0 hx hb hT hown hG hW t12 q49 q50 dJx4a65c_add_9ea2d_2 ?_
  refine lv_iconst (v := 1) hx hb dJx4a65c_add_9ea2d_5 (by decide) ?_
  refine lv_iadd hx hb dJx4a65c_add_9ea2d_6 ?_
  refine u12_0 hx hb hT hown hG hW hS t12 q49 (u_same (hT _ q50)) dJx4a65c_add_9ea2d_7 (fun H locs hW hS => ?_)
  refine lv_aload_n hx hb dJx4a65c_add_9ea2d_10 rfl (lv_at hl 0 rfl) ?_
  refine lv_aload_n hx hb dJx4a65c_add_9ea2d_11 rfl (lv_at hl 1 rfl) ?_
  refine lv_aload_n hx hb dJx4a65c_add_9ea2d_12 rfl (lv_at hl 0 rfl) ?_
  refine g12_1 hx hb hT hown hG hW t12 q46 dJx4a65c_add_9ea2d_13 ?_
  obtain ⟨m13, hf⟩ := ag_n hf
  have o13 := ag_lor hW (k := 12) (f := 1) (t := 22) rfl rfl m13
  refine lv_aload_n hx hb dJx4a65c_add_9ea2d_16 rfl (lv_at hl 0 rfl) ?_
  refine g12_2 hx hb hT hown hG hW t12 q47 dJx4a65c_add_9ea2d_17 ?_
  obtain ⟨r20, hg20, hf⟩ := ag_bs hf
  refine ag_aVv (C1 := 1) (S1 := 100) hx hb hml hT hown hG h0 hS hW (c_Jx4a65c_add_72be8_2 t12 v1 o13 hg20) ⟨rfl, rfl⟩ q81 q83 qs0 q4 q84 dd_yJx4a65c_add_72be8 ⟨Nat.le_of_ble_eq_true rfl, Nat.le_of_ble_eq_true rfl⟩ t12 rfl rfl hl.1 rfl (Nat.le_of_ble_eq_true rfl) ⟨Nat.le_of_ble_eq_true rfl, Nat.le_of_ble_eq_true rfl⟩ dJx4a65c_add_9ea2d_20 (Nat.le_of_ble_eq_true rfl) (Nat.le_of_ble_eq_true rfl) (fun p H locs hp20 hle20 hW hS => ?_)
  have sl20 := hle20
  have he20 := ag_ext_tr (ag_le_rf _) (ag_ext_rf _ _) hp20
  have hl20 := ag_le_tr (ag_le_rf _) sl20
  rw [← hp20 12 0 t12, ← hp20 2 x1 v1] at hl
  refine lv_iconst (v := 1) hx hb dJx4a65c_add_9ea2d_23 (by decide) ?_
  exact ag_Piret hx hb hr rfl hlocks hS hf he20 hl20 hW dJx4a65c_add_9ea2d_24
def f_J7_copyOf_6403c_3 (fu : Nat) (x0 : Int32) (x1 : Int32) (n : ag_N) (s : ag_S) : Option (Int32 × (ag_N × ag_S)) := if 1000 ≤ n 23 ∨ x1 < 0 ∨ 100 < (x1).toNatClampNeg then none else if (if x1 < nI ((ag_s3 s 23 (n 23) x1) 83 0 x0).toNatClampNeg then x1 else nI ((ag_s3 s 23 (n 23) x1) 83 0 x0).toNatClampNeg) < 0 ∨ ((ag_s3 s 23 (n 23) x1) 83 0 x0).toNatClampNeg < (if x1 < nI ((ag_s3 s 23 (n 23) x1) 83 0 x0).toNatClampNeg then x1 else nI ((ag_s3 s 23 (n 23) x1) 83 0 x0).toNatClampNeg).toNatClampNeg ∨ ((ag_s3 s 23 (n 23) x1) 83 0 (nI (n 23))).toNatClampNeg < (if x1 < nI ((ag_s3 s 23 (n 23) x1) 83 0 x0).toNatClampNeg then x1 else nI ((ag_s3 s 23 (n 23) x1) 83 0 x0).toNatClampNeg).toNatClampNeg ∨ 1000 < ((ag_s3 s 23 (n 23) x1) 83 0 (nI (n 23))).toNatClampNeg then none else some ((nI (n 23)), ((ag_nn n 23), (ag_sc (ag_s3 s 23 (n 23) x1) 23 x0.toNatClampNeg (nI (n 23)).toNatClampNeg (if x1 < nI ((ag_s3 s 23 (n 23) x1) 83 0 x0).toNatClampNeg then x1 else nI ((ag_s3 s 23 (n 23) x1) 83 0 x0).toNatClampNeg).toNatClampNeg)))
abbrev rm_J7_copyOf_6403c_3 : Room := { frames := 1, cells := 1, slots := 100, locals := 40 }
set_option maxHeartbeats 4000000 in
set_option maxRecDepth 100000 in
theorem c_J7_copyOf_6403c_3 {z : ag_Z} {l : Launch} {n : ag_N} {p : ag_P} {s : ag_S} {fu : Nat} {x0 : Int32} {x1 : Int32} {out : Int32 × (ag_N × ag_S)} (v0 : vp_in x0 (n 23)) (hf : f_J7_copyOf_6403c_3 fu x0 x1 n s = some out) : Met l yJ7_copyOf_6403c (ag_ws yJ7_copyOf_6403c cJ7_copyOf_6403c 4 ((some (FieldType.array (FieldType.object "java/lang/Object"))))) rm_J7_copyOf_6403c_3 (va_Pc [.ref (p 23 x0), .int x1, .ref (z.2.1 4)] (ag_Pre z n p s)) (ag_Pr z n p 23 out.1 out.2.1 out.2.2) 1 100 (ag_A z) := by
  refine Met.ofW (cc := cJ7_copyOf_6403c) (maxL := 4) (ret := (some (FieldType.array (FieldType.object "java/lang/Object")))) (by decide) rfl ?_
  intro p0 e st m args below meth c s9 B hml hv
  obtain ⟨ha, h0, hG, hW⟩ := hv
  have hx := B.exec
  have hb := B.bytes
  have hr := B.returns
  have hts := atoms_spec (ws := ag_ws yJ7_copyOf_6403c cJ7_copyOf_6403c 4 ((some (FieldType.array (FieldType.object "java/lang/Object"))))) B.pre
  have hT : ∀ w ∈ ag_tbl, w.before args st = true := fun w h => hts w (List.mem_cons_of_mem _ h)
  have hown : st.vm.findClass RJ7 = some m.cls := findClass_of_methodNamed B.named
  have hlocks := B.notSynchronized
  have hS : va_S (ag_A z) st.heap st.heap [] := va_S.rf
  obtain ⟨ls, hls, hl⟩ : ∃ ls, entryFrame m args 4 = F0 m 0 ls [] ∧ lv_has ls 4 [(0, .ref (p 23 x0)), (1, .int x1), (2, .ref (z.2.1 4))] := by rw [ha]; exact ag_entry m [.ref (p 23 x0), .int x1, .ref (z.2.1 4)] (Nat.le_of_ble_eq_true rfl)
  rw [hls]
  unfold f_J7_copyOf_6403c_3 at hf
  refine lv_aload_n hx hb dJ7_copyOf_6403c_0 rfl (lv_at hl 2 rfl) ?_
  refine va_ldcM hx hb hown (hT _ q124) hG.2.2.2.2.2.2.2.1 dJ7_copyOf_6403c_1 ?_
  refine lv_acmp_ne (tgt := 13) (rx := some (z.2.1 4)) (ry := some (z.2.1 4)) hx hb dJ7_copyOf_6403c_3 (by decide) (fun h => absurd rfl h) (fun _ => ?_)
  refine lv_iload_n hx hb dJ7_copyOf_6403c_6 rfl (lv_at hl 1 rfl) ?_
  obtain ⟨m7, hf⟩ := ag_n hf
  have j7 : ¬ 1000 ≤ n 23 := fun q => m7 (Or.inl q)
  refine ag_newr (k := 23) (j := 3) hx hb hT hown hG h0 hS hW (Nat.lt_of_not_le j7) rfl (by decide) q126 (fun q => m7 (Or.inr (Or.inl q))) (Nat.not_lt.mp fun q => m7 (Or.inr (Or.inr q))) (Nat.le_of_ble_eq_true rfl) (Nat.le_of_ble_eq_true rfl) dJ7_copyOf_6403c_7 (fun p H hp7 hW hS => ?_)
  have sl7 := (ag_le_nn n 23)
  have he7 := ag_ext_tr (ag_le_rf _) (ag_ext_rf _ _) hp7
  have hl7 := ag_le_tr (ag_le_rf _) sl7
  rw [← hp7 23 x0 v0] at hl
  refine lv_goto (tgt := 24) hx hb dJ7_copyOf_6403c_10 (by decide) ?_
  refine lv_astore_n (lv' := [(3, .ref (p 23 (nI (n 23)))), (0, .ref (p 23 x0)), (1, .int x1), (2, .ref (z.2.1 4))]) hx hb dJ7_copyOf_6403c_24 rfl hl (by decide) rfl (fun ls hl => ?_)
  refine lv_aload_n hx hb dJ7_copyOf_6403c_25 rfl (lv_at hl 1 rfl) ?_
  refine lv_iconst (v := 0) hx hb dJ7_copyOf_6403c_26 (by decide) ?_
  refine lv_aload_n hx hb dJ7_copyOf_6403c_27 rfl (lv_at hl 0 rfl) ?_
  refine lv_iconst (v := 0) hx hb dJ7_copyOf_6403c_28 (by decide) ?_
  refine lv_aload_n hx hb dJ7_copyOf_6403c_29 rfl (lv_at hl 1 rfl) ?_
  refine ag_alen hx hb hG hW (ag_in_le v0 (sl7 _)) rfl rfl (k6 := 83) rfl dJ7_copyOf_6403c_30 ?_
  refine lv_iload_n hx hb dJ7_copyOf_6403c_31 rfl (lv_at hl 2 rfl) ?_
  refine va_mmin hx hb (hml.trans hl.1.symm) hown (hT _ q127) (hT _ q128) (hT _ q7) (hT _ q129) (Nat.le_of_ble_eq_true rfl) (Nat.le_of_ble_eq_true rfl) (Nat.le_of_ble_eq_true rfl) (Nat.le_of_ble_eq_true rfl) dJ7_copyOf_6403c_32 ?_
  obtain ⟨a35, hf⟩ := ag_n hf
  refine ag_copy (k := 23) (j := 3) (k6 := 83) ⟨ag_z0, ag_zn⟩ ⟨ag_z0, ag_zn⟩ hx hb hml hl.1 hT hown hG hS hW q130 q132 q131 q9 rfl (by decide) rfl (ag_in_le v0 (sl7 _)) (ag_new_v j7) (fun q => a35 (q.elim Or.inl (fun q => Or.inr (q.elim Or.inl (fun q => Or.inr (Or.inl q)))))) (Nat.not_lt.mp fun q => a35 (Or.inr (Or.inr (Or.inr q)))) rfl rfl cx3 (Nat.le_of_ble_eq_true rfl) (Nat.le_of_ble_eq_true rfl) dJ7_copyOf_6403c_35 (fun H locs hW hS => ?_)
  refine lv_aload_n hx hb dJ7_copyOf_6403c_38 rfl (lv_at hl 0 rfl) ?_
  exact ag_Paret hx hb hr (Or.inr ⟨_, rfl⟩) hlocks hS hf he7 hl7 (ag_new_v j7) hW dJ7_copyOf_6403c_39
def f_J7_copyOf_1904c_3 (fu : Nat) (x0 : Int32) (x1 : Int32) (n : ag_N) (s : ag_S) : Option (Int32 × (ag_N × ag_S)) := ag_bd (f_J7_copyOf_6403c_3 fu x0 x1 n s) fun r6 => some (r6.1, (r6.2.1, r6.2.2))
abbrev rm_J7_copyOf_1904c_3 : Room := { frames := 2, cells := 1, slots := 100, locals := 63 }
set_option maxHeartbeats 4000000 in
set_option maxRecDepth 100000 in
theorem c_J7_copyOf_1904c_3 {z : ag_Z} {l : Launch} {n : ag_N} {p : ag_P} {s : ag_S} {fu : Nat} {x0 : Int32} {x1 : Int32} {out : Int32 × (ag_N × ag_S)} (v0 : vp_in x0 (n 23)) (hf : f_J7_copyOf_1904c_3 fu x0 x1 n s = some out) : Met l yJ7_copyOf_1904c (ag_ws yJ7_copyOf_1904c cJ7_copyOf_1904c 2 ((some (FieldType.array (FieldType.object "java/lang/Object"))))) rm_J7_copyOf_1904c_3 (va_Pc [.ref (p 23 x0), .int x1] (ag_Pre z n p s)) (ag_Pr z n p 23 out.1 out.2.1 out.2.2) 1 100 (ag_A z) := by
  refine Met.ofW (cc := cJ7_copyOf_1904c) (maxL := 2) (ret := (some (FieldType.array (FieldType.object "java/lang/Object")))) (by decide) rfl ?_
  intro p0 e st m args below meth c s9 B hml hv
  obtain ⟨ha, h0, hG, hW⟩ := hv
  have hx := B.exec
  have hb := B.bytes
  have hr := B.returns
  have hts := atoms_spec (ws := ag_ws yJ7_copyOf_1904c cJ7_copyOf_1904c 2 ((some (FieldType.array (FieldType.object "java/lang/Object"))))) B.pre
  have hT : ∀ w ∈ ag_tbl, w.before args st = true := fun w h => hts w (List.mem_cons_of_mem _ h)
  have hown : st.vm.findClass RJ7 = some m.cls := findClass_of_methodNamed B.named
  have hlocks := B.notSynchronized
  have hS : va_S (ag_A z) st.heap st.heap [] := va_S.rf
  obtain ⟨ls, hls, hl⟩ : ∃ ls, entryFrame m args 2 = F0 m 0 ls [] ∧ lv_has ls 2 [(0, .ref (p 23 x0)), (1, .int x1)] := by rw [ha]; exact ag_entry m [.ref (p 23 x0), .int x1] (Nat.le_of_ble_eq_true rfl)
  rw [hls]
  unfold f_J7_copyOf_1904c_3 at hf
  refine lv_aload_n hx hb dJ7_copyOf_1904c_0 rfl (lv_at hl 0 rfl) ?_
  refine lv_iload_n hx hb dJ7_copyOf_1904c_1 rfl (lv_at hl 1 rfl) ?_
  refine lv_aload_n hx hb dJ7_copyOf_1904c_2 rfl (lv_at hl 0 rfl) ?_
  refine ag_getC (k := 23) (j := 3) hx hb hml hl.1 hT hown hG hW q106 dcl0 q1070 q107 q120 rfl (by decide) v0 (Nat.le_of_ble_eq_true rfl) (Nat.le_of_ble_eq_true rfl) dJ7_copyOf_1904c_3 ?_
  obtain ⟨r6, hg6, hf⟩ := ag_bs hf
  refine ag_aSr (C1 := 1) (S1 := 100) hx hb hml hT hown hG h0 hS hW (c_J7_copyOf_6403c_3 v0 hg6) ⟨rfl, rfl⟩ q121 q122 q8 q123 dd_yJ7_copyOf_6403c ⟨Nat.le_of_ble_eq_true rfl, Nat.le_of_ble_eq_true rfl⟩ hl.1 rfl (Nat.le_of_ble_eq_true rfl) ⟨Nat.le_of_ble_eq_true rfl, Nat.le_of_ble_eq_true rfl⟩ dJ7_copyOf_1904c_6 (Nat.le_of_ble_eq_true rfl) (Nat.le_of_ble_eq_true rfl) (fun p H locs hp6 hle6 hW hS v6 => ?_)
  have sl6 := hle6
  have he6 := ag_ext_tr (ag_le_rf _) (ag_ext_rf _ _) hp6
  have hl6 := ag_le_tr (ag_le_rf _) sl6
  rw [← hp6 23 x0 v0] at hl
  exact ag_Paret hx hb hr (Or.inr ⟨_, rfl⟩) hlocks hS hf he6 hl6 v6 hW dJ7_copyOf_1904c_9
def f_Jx4a65c_grow_92f84_3 (fu : Nat) (x1 : Int32) (n : ag_N) (s : ag_S) : Option (Int32 × (ag_N × ag_S)) := if s 13 1 0 = -1 then none else if (0 : Int32) < ag_ln s 83 (s 13 1 0) then (ag_bd (f_J8_newLength_cabcc fu (ag_ln s 83 (s 13 1 0)) (x1 - (ag_ln s 83 (s 13 1 0))) ((ag_ln s 83 (s 13 1 0)) >>> ((1 : Int32) &&& 31)) s) fun r27 => if s 13 1 0 = -1 then none else if s 13 1 0 = -2 then none else ag_bd (f_J7_copyOf_1904c_3 fu (s 13 1 0) r27 n s) fun r37 => some (r37.1, (r37.2.1, (ag_up r37.2.2 13 1 0 r37.1)))) else (if s 13 1 0 = -1 then none else if s 13 1 0 = -2 then (if 1000 ≤ n 23 ∨ (if 10 < x1 then x1 else 10) < 0 ∨ 100 < (if 10 < x1 then x1 else 10).toNatClampNeg then none else some ((nI (n 23)), ((ag_nn n 23), (ag_up (ag_s3 s 23 (n 23) (if 10 < x1 then x1 else 10)) 13 1 0 (nI (n 23)))))) else (ag_bd (f_J8_newLength_cabcc fu (ag_ln s 83 (s 13 1 0)) (x1 - (ag_ln s 83 (s 13 1 0))) ((ag_ln s 83 (s 13 1 0)) >>> ((1 : Int32) &&& 31)) s) fun r27 => if s 13 1 0 = -1 then none else if s 13 1 0 = -2 then none else ag_bd (f_J7_copyOf_1904c_3 fu (s 13 1 0) r27 n s) fun r37 => some (r37.1, (r37.2.1, (ag_up r37.2.2 13 1 0 r37.1)))))
abbrev rm_Jx4a65c_grow_92f84_3 : Room := { frames := 3, cells := 1, slots := 100, locals := 84 }
set_option maxHeartbeats 4000000 in
set_option maxRecDepth 100000 in
theorem c_Jx4a65c_grow_92f84_3 {z : ag_Z} {l : Launch} {n : ag_N} {p : ag_P} {s : ag_S} {fu : Nat} {x1 : Int32} {out : Int32 × (ag_N × ag_S)} (t13 : vp_in 0 (n 13)) (hf : f_Jx4a65c_grow_92f84_3 fu x1 n s = some out) : Met l yJx4a65c_grow_92f84 (ag_ws yJx4a65c_grow_92f84 cJx4a65c_grow_92f84 4 ((some (FieldType.array (FieldType.object "java/lang/Object"))))) rm_Jx4a65c_grow_92f84_3 (va_Pc [.ref (p 13 0), .int x1] (ag_Pre z n p s)) (ag_Pr z n p 23 out.1 out.2.1 out.2.2) 1 100 (ag_A z) := by
  refine Met.ofW (cc := cJx4a65c_grow_92f84) (maxL := 4) (ret := (some (FieldType.array (FieldType.object "java/lang/Object")))) (by decide) rfl ?_
  intro p0 e st m args below meth c s9 B hml hv
  obtain ⟨ha, h0, hG, hW⟩ := hv
  have hx := B.exec
  have hb := B.bytes
  have hr := B.returns
  have hts := atoms_spec (ws := ag_ws yJx4a65c_grow_92f84 cJx4a65c_grow_92f84 4 ((some (FieldType.array (FieldType.object "java/lang/Object"))))) B.pre
  have hT : ∀ w ∈ ag_tbl, w.before args st = true := fun w h => hts w (List.mem_cons_of_mem _ h)
  have hown : st.vm.findClass RJx4a65c = some m.cls := findClass_of_methodNamed B.named
  have hlocks := B.notSynchronized
  have hS : va_S (ag_A z) st.heap st.heap [] := va_S.rf
  obtain ⟨ls, hls, hl⟩ : ∃ ls, entryFrame m args 4 = F0 m 0 ls [] ∧ lv_has ls 4 [(0, .ref (p 13 0)), (1, .int x1)] := by rw [ha]; exact ag_entry m [.ref (p 13 0), .int x1] (Nat.le_of_ble_eq_true rfl)
  rw [hls]
  unfold f_Jx4a65c_grow_92f84_3 at hf
  refine lv_aload_n hx hb dJx4a65c_grow_92f84_0 rfl (lv_at hl 0 rfl) ?_
  refine g13_1 hx hb hT hown hG hW t13 q46 dJx4a65c_grow_92f84_1 ?_
  obtain ⟨m1, hf⟩ := ag_n hf
  have o1 := ag_lor hW (k := 13) (f := 1) (t := 23) rfl rfl m1
  refine ag_alenE (k := 23) (k6 := 83) hx hb hG hS hW o1 rfl rfl rfl dJx4a65c_grow_92f84_4 ?_
  refine lv_istore_n (lv' := [(2, .int (ag_ln s 83 (s 13 1 0))), (0, .ref (p 13 0)), (1, .int x1)]) hx hb dJx4a65c_grow_92f84_5 rfl hl (by decide) rfl (fun ls hl => ?_)
  refine lv_iload_n hx hb dJx4a65c_grow_92f84_6 rfl (lv_at hl 0 rfl) ?_
  refine lv_if_gt (tgt := 20) hx hb dJx4a65c_grow_92f84_7 (by decide) (fun c7 => ?_) (fun c7 => ?_)
  · have hf := ag_t c7 hf
    refine lv_iload_n hx hb dJx4a65c_grow_92f84_20 rfl (lv_at hl 0 rfl) ?_
    refine lv_iload_n hx hb dJx4a65c_grow_92f84_21 rfl (lv_at hl 2 rfl) ?_
    refine lv_iload_n hx hb dJx4a65c_grow_92f84_22 rfl (lv_at hl 0 rfl) ?_
    refine lv_isub hx hb dJx4a65c_grow_92f84_23 ?_
    refine lv_iload_n hx hb dJx4a65c_grow_92f84_24 rfl (lv_at hl 0 rfl) ?_
    refine lv_iconst (v := 1) hx hb dJx4a65c_grow_92f84_25 (by decide) ?_
    refine lv_ishr hx hb dJx4a65c_grow_92f84_26 ?_
    obtain ⟨r27, hg27, hf⟩ := ag_bs hf
    refine ag_cSi hx hb hml hT hown hG h0 hS hW (c_J8_newLength_cabcc hg27) ⟨rfl, rfl⟩ q93 q94 q6 q95 dd_yJ8_newLength_cabcc ⟨Nat.le_of_ble_eq_true rfl, Nat.le_of_ble_eq_true rfl⟩ hl.1 rfl (Nat.le_of_ble_eq_true rfl) ⟨Nat.le_of_ble_eq_true rfl, Nat.le_of_ble_eq_true rfl⟩ dJx4a65c_grow_92f84_27 (fun H locs hW hS => ?_)
    refine lv_istore_n (lv' := [(3, .int r27), (2, .int (ag_ln s 83 (s 13 1 0))), (0, .ref (p 13 0)), (1, .int x1)]) hx hb dJx4a65c_grow_92f84_30 rfl hl (by decide) rfl (fun ls hl => ?_)
    refine lv_aload_n hx hb dJx4a65c_grow_92f84_31 rfl (lv_at hl 2 rfl) ?_
    refine lv_aload_n hx hb dJx4a65c_grow_92f84_32 rfl (lv_at hl 2 rfl) ?_
    refine g13_1 hx hb hT hown hG hW t13 q46 dJx4a65c_grow_92f84_33 ?_
    obtain ⟨m33, hf⟩ := ag_n hf
    have o33 := ag_lor hW (k := 13) (f := 1) (t := 23) rfl rfl m33
    refine lv_iload_n hx hb dJx4a65c_grow_92f84_36 rfl (lv_at hl 0 rfl) ?_
    obtain ⟨l37, hf⟩ := ag_n hf
    have lv37 := Or.resolve_left o33 l37
    rw [ag_refv (z := z) (p := p) lv37 hW]
    obtain ⟨r37, hg37, hf⟩ := ag_bs hf
    refine ag_aSr (C1 := 1) (S1 := 100) hx hb hml hT hown hG h0 hS hW (c_J7_copyOf_1904c_3 lv37 hg37) ⟨rfl, rfl⟩ q103 q104 q8 q105 dd_yJ7_copyOf_1904c ⟨Nat.le_of_ble_eq_true rfl, Nat.le_of_ble_eq_true rfl⟩ hl.1 rfl (Nat.le_of_ble_eq_true rfl) ⟨Nat.le_of_ble_eq_true rfl, Nat.le_of_ble_eq_true rfl⟩ dJx4a65c_grow_92f84_37 (Nat.le_of_ble_eq_true rfl) (Nat.le_of_ble_eq_true rfl) (fun p H locs hp37 hle37 hW hS v37 => ?_)
    have sl37 := hle37
    have he37 := ag_ext_tr (ag_le_rf _) (ag_ext_rf _ _) hp37
    have hl37 := ag_le_tr (ag_le_rf _) sl37
    rw [← hp37 13 0 t13] at hl
    rw [← hp37 13 0 t13]
    refine lv_dup_x1 hx hb dJx4a65c_grow_92f84_40 rfl rfl ?_
    refine u13_1 hx hb hT hown hG hW hS (ag_in_le t13 (sl37 _)) (ag_refv (z := z) (p := p) v37 hW).symm (Or.inl (Or.inr v37)) q46 dJx4a65c_grow_92f84_41 (fun H locs hW hS => ?_)
    exact ag_Paret hx hb hr (Or.inr ⟨_, rfl⟩) hlocks hS hf he37 hl37 v37 hW dJx4a65c_grow_92f84_44
  · have hf := ag_f c7 hf
    refine lv_aload_n hx hb dJx4a65c_grow_92f84_10 rfl (lv_at hl 1 rfl) ?_
    refine g13_1 hx hb hT hown hG hW t13 q46 dJx4a65c_grow_92f84_11 ?_
    obtain ⟨m11, hf⟩ := ag_n hf
    have o11 := ag_lor hW (k := 13) (f := 1) (t := 23) rfl rfl m11
    refine ag_getst hx hb hT hown hG hS q44 dJx4a65c_grow_92f84_14 ?_
    refine ag_acmE (t := 23) (v := s 13 1 0) (tgt := 45) hx hb hG hW o11 dJx4a65c_grow_92f84_17 (by decide) (fun c17 => ?_) (fun c17 => ?_)
    · have hf := ag_t c17 hf
      refine lv_aload_n hx hb dJx4a65c_grow_92f84_45 rfl (lv_at hl 1 rfl) ?_
      refine lv_bipush (v := 10) hx hb dJx4a65c_grow_92f84_46 (by decide) ?_
      refine lv_iload_n hx hb dJx4a65c_grow_92f84_48 rfl (lv_at hl 2 rfl) ?_
      refine va_mmax hx hb (hml.trans hl.1.symm) hown (hT _ q133) (hT _ q97) (hT _ q7) (hT _ q98) (Nat.le_of_ble_eq_true rfl) (Nat.le_of_ble_eq_true rfl) (Nat.le_of_ble_eq_true rfl) (Nat.le_of_ble_eq_true rfl) dJx4a65c_grow_92f84_49 ?_
      obtain ⟨m52, hf⟩ := ag_n hf
      have j52 : ¬ 1000 ≤ n 23 := fun q => m52 (Or.inl q)
      refine ag_newr (k := 23) (j := 3) hx hb hT hown hG h0 hS hW (Nat.lt_of_not_le j52) rfl (by decide) q134 (fun q => m52 (Or.inr (Or.inl q))) (Nat.not_lt.mp fun q => m52 (Or.inr (Or.inr q))) (Nat.le_of_ble_eq_true rfl) (Nat.le_of_ble_eq_true rfl) dJx4a65c_grow_92f84_52 (fun p H hp52 hW hS => ?_)
      have sl52 := (ag_le_nn n 23)
      have he52 := ag_ext_tr (ag_le_rf _) (ag_ext_rf _ _) hp52
      have hl52 := ag_le_tr (ag_le_rf _) sl52
      rw [← hp52 13 0 t13] at hl
      rw [← hp52 13 0 t13]
      refine lv_dup_x1 hx hb dJx4a65c_grow_92f84_55 rfl rfl ?_
      refine u13_1 hx hb hT hown hG hW hS (ag_in_le t13 (sl52 _)) (ag_refv (z := z) (p := p) (ag_new_v j52) hW).symm (Or.inl (Or.inr (ag_new_v j52))) q46 dJx4a65c_grow_92f84_56 (fun H locs hW hS => ?_)
      exact ag_Paret hx hb hr (Or.inr ⟨_, rfl⟩) hlocks hS hf he52 hl52 (ag_new_v j52) hW dJx4a65c_grow_92f84_59
    · have hf := ag_f c17 hf
      refine lv_iload_n hx hb dJx4a65c_grow_92f84_20 rfl (lv_at hl 0 rfl) ?_
      refine lv_iload_n hx hb dJx4a65c_grow_92f84_21 rfl (lv_at hl 2 rfl) ?_
      refine lv_iload_n hx hb dJx4a65c_grow_92f84_22 rfl (lv_at hl 0 rfl) ?_
      refine lv_isub hx hb dJx4a65c_grow_92f84_23 ?_
      refine lv_iload_n hx hb dJx4a65c_grow_92f84_24 rfl (lv_at hl 0 rfl) ?_
      refine lv_iconst (v := 1) hx hb dJx4a65c_grow_92f84_25 (by decide) ?_
      refine lv_ishr hx hb dJx4a65c_grow_92f84_26 ?_
      obtain ⟨r27, hg27, hf⟩ := ag_bs hf
      refine ag_cSi hx hb hml hT hown hG h0 hS hW (c_J8_newLength_cabcc hg27) ⟨rfl, rfl⟩ q93 q94 q6 q95 dd_yJ8_newLength_cabcc ⟨Nat.le_of_ble_eq_true rfl, Nat.le_of_ble_eq_true rfl⟩ hl.1 rfl (Nat.le_of_ble_eq_true rfl) ⟨Nat.le_of_ble_eq_true rfl, Nat.le_of_ble_eq_true rfl⟩ dJx4a65c_grow_92f84_27 (fun H locs hW hS => ?_)
      refine lv_istore_n (lv' := [(3, .int r27), (2, .int (ag_ln s 83 (s 13 1 0))), (0, .ref (p 13 0)), (1, .int x1)]) hx hb dJx4a65c_grow_92f84_30 rfl hl (by decide) rfl (fun ls hl => ?_)
      refine lv_aload_n hx hb dJx4a65c_grow_92f84_31 rfl (lv_at hl 2 rfl) ?_
      refine lv_aload_n hx hb dJx4a65c_grow_92f84_32 rfl (lv_at hl 2 rfl) ?_
      refine g13_1 hx hb hT hown hG hW t13 q46 dJx4a65c_grow_92f84_33 ?_
      obtain ⟨m33, hf⟩ := ag_n hf
      have o33 := ag_lor hW (k := 13) (f := 1) (t := 23) rfl rfl m33
      refine lv_iload_n hx hb dJx4a65c_grow_92f84_36 rfl (lv_at hl 0 rfl) ?_
      obtain ⟨l37, hf⟩ := ag_n hf
      have lv37 := Or.resolve_left o33 l37
      rw [ag_refv (z := z) (p := p) lv37 hW]
      obtain ⟨r37, hg37, hf⟩ := ag_bs hf
      refine ag_aSr (C1 := 1) (S1 := 100) hx hb hml hT hown hG h0 hS hW (c_J7_copyOf_1904c_3 lv37 hg37) ⟨rfl, rfl⟩ q103 q104 q8 q105 dd_yJ7_copyOf_1904c ⟨Nat.le_of_ble_eq_true rfl, Nat.le_of_ble_eq_true rfl⟩ hl.1 rfl (Nat.le_of_ble_eq_true rfl) ⟨Nat.le_of_ble_eq_true rfl, Nat.le_of_ble_eq_true rfl⟩ dJx4a65c_grow_92f84_37 (Nat.le_of_ble_eq_true rfl) (Nat.le_of_ble_eq_true rfl) (fun p H locs hp37 hle37 hW hS v37 => ?_)
      have sl37 := hle37
      have he37 := ag_ext_tr (ag_le_rf _) (ag_ext_rf _ _) hp37
      have hl37 := ag_le_tr (ag_le_rf _) sl37
      rw [← hp37 13 0 t13] at hl
      rw [← hp37 13 0 t13]
      refine lv_dup_x1 hx hb dJx4a65c_grow_92f84_40 rfl rfl ?_
      refine u13_1 hx hb hT hown hG hW hS (ag_in_le t13 (sl37 _)) (ag_refv (z := z) (p := p) v37 hW).symm (Or.inl (Or.inr v37)) q46 dJx4a65c_grow_92f84_41 (fun H locs hW hS => ?_)
      exact ag_Paret hx hb hr (Or.inr ⟨_, rfl⟩) hlocks hS hf he37 hl37 v37 hW dJx4a65c_grow_92f84_44
def f_Jx4a65c_grow_d5877_3 (fu : Nat) (n : ag_N) (s : ag_S) : Option (Int32 × (ag_N × ag_S)) := ag_bd (f_Jx4a65c_grow_92f84_3 fu ((s 13 2 0) + 1) n s) fun r7 => some (r7.1, (r7.2.1, r7.2.2))
abbrev rm_Jx4a65c_grow_d5877_3 : Room := { frames := 4, cells := 1, slots := 100, locals := 107 }
set_option maxHeartbeats 4000000 in
set_option maxRecDepth 100000 in
theorem c_Jx4a65c_grow_d5877_3 {z : ag_Z} {l : Launch} {n : ag_N} {p : ag_P} {s : ag_S} {fu : Nat} {out : Int32 × (ag_N × ag_S)} (t13 : vp_in 0 (n 13)) (hf : f_Jx4a65c_grow_d5877_3 fu  n s = some out) : Met l yJx4a65c_grow_d5877 (ag_ws yJx4a65c_grow_d5877 cJx4a65c_grow_d5877 1 ((some (FieldType.array (FieldType.object "java/lang/Object"))))) rm_Jx4a65c_grow_d5877_3 (va_Pc [.ref (p 13 0)] (ag_Pre z n p s)) (ag_Pr z n p 23 out.1 out.2.1 out.2.2) 1 100 (ag_A z) := by
  refine Met.ofW (cc := cJx4a65c_grow_d5877) (maxL := 1) (ret := (some (FieldType.array (FieldType.object "java/lang/Object")))) (by decide) rfl ?_
  intro p0 e st m args below meth c s9 B hml hv
  obtain ⟨ha, h0, hG, hW⟩ := hv
  have hx := B.exec
  have hb := B.bytes
  have hr := B.returns
  have hts := atoms_spec (ws := ag_ws yJx4a65c_grow_d5877 cJx4a65c_grow_d5877 1 ((some (FieldType.array (FieldType.object "java/lang/Object"))))) B.pre
  have hT : ∀ w ∈ ag_tbl, w.before args st = true := fun w h => hts w (List.mem_cons_of_mem _ h)
  have hown : st.vm.findClass RJx4a65c = some m.cls := findClass_of_methodNamed B.named
  have hlocks := B.notSynchronized
  have hS : va_S (ag_A z) st.heap st.heap [] := va_S.rf
  obtain ⟨ls, hls, hl⟩ : ∃ ls, entryFrame m args 1 = F0 m 0 ls [] ∧ lv_has ls 1 [(0, .ref (p 13 0))] := by rw [ha]; exact ag_entry m [.ref (p 13 0)] (Nat.le_of_ble_eq_true rfl)
  rw [hls]
  unfold f_Jx4a65c_grow_d5877_3 at hf
  refine lv_aload_n hx hb dJx4a65c_grow_d5877_0 rfl (lv_at hl 0 rfl) ?_
  refine lv_aload_n hx hb dJx4a65c_grow_d5877_1 rfl (lv_at hl 0 rfl) ?_
  refine g13_2 hx hb hT hown hG hW t13 q47 dJx4a65c_grow_d5877_2 ?_
  refine lv_iconst (v := 1) hx hb dJx4a65c_grow_d5877_5 (by decide) ?_
  refine lv_iadd hx hb dJx4a65c_grow_d5877_6 ?_
  obtain ⟨r7, hg7, hf⟩ := ag_bs hf
  refine ag_aVr (C1 := 1) (S1 := 100) hx hb hml hT hown hG h0 hS hW (c_Jx4a65c_grow_92f84_3 t13 hg7) ⟨rfl, rfl⟩ q89 q91 qs2 q4 q92 dd_yJx4a65c_grow_92f84 ⟨Nat.le_of_ble_eq_true rfl, Nat.le_of_ble_eq_true rfl⟩ t13 rfl rfl hl.1 rfl (Nat.le_of_ble_eq_true rfl) ⟨Nat.le_of_ble_eq_true rfl, Nat.le_of_ble_eq_true rfl⟩ dJx4a65c_grow_d5877_7 (Nat.le_of_ble_eq_true rfl) (Nat.le_of_ble_eq_true rfl) (fun p H locs hp7 hle7 hW hS v7 => ?_)
  have sl7 := hle7
  have he7 := ag_ext_tr (ag_le_rf _) (ag_ext_rf _ _) hp7
  have hl7 := ag_le_tr (ag_le_rf _) sl7
  rw [← hp7 13 0 t13] at hl
  exact ag_Paret hx hb hr (Or.inr ⟨_, rfl⟩) hlocks hS hf he7 hl7 v7 hW dJx4a65c_grow_d5877_10
def f_Jx4a65c_add_72be8_3 (fu : Nat) (x1 : Int32) (x2 : Int32) (x3 : Int32) (n : ag_N) (s : ag_S) : Option (ag_N × ag_S) := if x3 = ag_ln s 83 x2 then (ag_bd (f_Jx4a65c_grow_d5877_3 fu n s) fun r7 => if x3 < 0 ∨ (r7.2.2 83 0 r7.1).toNatClampNeg ≤ x3.toNatClampNeg ∨ 100 < (r7.2.2 83 0 r7.1).toNatClampNeg then none else some (r7.2.1, (ag_up (ag_up r7.2.2 23 r7.1.toNatClampNeg x3 x1) 13 2 0 (x3 + 1)))) else (if x2 = -2 then none else if x3 < 0 ∨ (s 83 0 x2).toNatClampNeg ≤ x3.toNatClampNeg ∨ 100 < (s 83 0 x2).toNatClampNeg then none else some (n, (ag_up (ag_up s 23 x2.toNatClampNeg x3 x1) 13 2 0 (x3 + 1))))
abbrev rm_Jx4a65c_add_72be8_3 : Room := { frames := 5, cells := 1, slots := 100, locals := 127 }
set_option maxHeartbeats 4000000 in
set_option maxRecDepth 100000 in
theorem c_Jx4a65c_add_72be8_3 {z : ag_Z} {l : Launch} {n : ag_N} {p : ag_P} {s : ag_S} {fu : Nat} {x1 : Int32} {x2 : Int32} {x3 : Int32} {out : ag_N × ag_S} (t13 : vp_in 0 (n 13)) (v1 : vp_in x1 (n 3)) (v2 : x2 = -2 ∨ vp_in x2 (n 23)) (hf : f_Jx4a65c_add_72be8_3 fu x1 x2 x3 n s = some out) : Met l yJx4a65c_add_72be8 (ag_ws yJx4a65c_add_72be8 cJx4a65c_add_72be8 4 ((none))) rm_Jx4a65c_add_72be8_3 (va_Pc [.ref (p 13 0), .ref (p 3 x1), va_rf (ag_ro z p 23 (x2)), .int x3] (ag_Pre z n p s)) (ag_Pv z n p out.1 out.2) 1 100 (ag_A z) := by
  refine Met.ofW (cc := cJx4a65c_add_72be8) (maxL := 4) (ret := (none)) (by decide) rfl ?_
  intro p0 e st m args below meth c s9 B hml hv
  obtain ⟨ha, h0, hG, hW⟩ := hv
  have hx := B.exec
  have hb := B.bytes
  have hr := B.returns
  have hts := atoms_spec (ws := ag_ws yJx4a65c_add_72be8 cJx4a65c_add_72be8 4 ((none))) B.pre
  have hT : ∀ w ∈ ag_tbl, w.before args st = true := fun w h => hts w (List.mem_cons_of_mem _ h)
  have hown : st.vm.findClass RJx4a65c = some m.cls := findClass_of_methodNamed B.named
  have hlocks := B.notSynchronized
  have hS : va_S (ag_A z) st.heap st.heap [] := va_S.rf
  obtain ⟨ls, hls, hl⟩ : ∃ ls, entryFrame m args 4 = F0 m 0 ls [] ∧ lv_has ls 4 [(0, .ref (p 13 0)), (1, .ref (p 3 x1)), (2, va_rf (ag_ro z p 23 (x2))), (3, .int x3)] := by rw [ha]; generalize ag_ro z p 23 x2 = r0; cases r0 <;> exact ag_entry m _ (Nat.le_of_ble_eq_true rfl)
  rw [hls]
  unfold f_Jx4a65c_add_72be8_3 at hf
  refine lv_iload_n hx hb dJx4a65c_add_72be8_0 rfl (lv_at hl 3 rfl) ?_
  refine ag_aloadq hx hb dJx4a65c_add_72be8_1 rfl (lv_at hl 2 rfl) ?_
  refine ag_alenE (k := 23) (k6 := 83) hx hb hG hS hW v2 rfl rfl rfl dJx4a65c_add_72be8_2 ?_
  refine lv_icmp_ne (tgt := 11) hx hb dJx4a65c_add_72be8_3 (by decide) (fun c3 => ?_) (fun c3 => ?_)
  · have hf := ag_f c3 hf
    refine ag_aloadq hx hb dJx4a65c_add_72be8_11 rfl (lv_at hl 2 rfl) ?_
    refine lv_iload_n hx hb dJx4a65c_add_72be8_12 rfl (lv_at hl 3 rfl) ?_
    refine lv_aload_n hx hb dJx4a65c_add_72be8_13 rfl (lv_at hl 1 rfl) ?_
    obtain ⟨m14, hf⟩ := ag_n hf
    have v14 := Or.resolve_left v2 m14
    rw [ag_refv (z := z) (p := p) v14 hW]
    obtain ⟨a14, hf⟩ := ag_n hf
    refine ag_aast (k := 23) (j := 3) hx hb hG hW hS rfl (by decide) v14 (fun q => a14 (q.elim Or.inl (fun q => Or.inr (Or.inl q)))) (Nat.not_lt.mp fun q => a14 (Or.inr (Or.inr q))) v1 rfl rfl cx3 dJx4a65c_add_72be8_14 (fun H locs hW hS => ?_)
    refine lv_aload_n hx hb dJx4a65c_add_72be8_15 rfl (lv_at hl 0 rfl) ?_
    refine lv_iload_n hx hb dJx4a65c_add_72be8_16 rfl (lv_at hl 3 rfl) ?_
    refine lv_iconst (v := 1) hx hb dJx4a65c_add_72be8_17 (by decide) ?_
    refine lv_iadd hx hb dJx4a65c_add_72be8_18 ?_
    refine u13_2 hx hb hT hown hG hW hS t13 q47 dJx4a65c_add_72be8_19 (fun H locs hW hS => ?_)
    refine W.widen (k := 1) (n := 100) (Nat.le_of_ble_eq_true rfl) (Nat.le_of_ble_eq_true rfl) ?_
    exact ag_Pvret hx hb hr hlocks hS hf (ag_ext_rf _ _) (ag_le_rf _) hW dJx4a65c_add_72be8_22
  · have hf := ag_t c3 hf
    refine lv_aload_n hx hb dJx4a65c_add_72be8_6 rfl (lv_at hl 0 rfl) ?_
    obtain ⟨r7, hg7, hf⟩ := ag_bs hf
    refine ag_aVr (C1 := 1) (S1 := 100) hx hb hml hT hown hG h0 hS hW (c_Jx4a65c_grow_d5877_3 t13 hg7) ⟨rfl, rfl⟩ q85 q87 qs1 q4 q88 dd_yJx4a65c_grow_d5877 ⟨Nat.le_of_ble_eq_true rfl, Nat.le_of_ble_eq_true rfl⟩ t13 rfl rfl hl.1 rfl (Nat.le_of_ble_eq_true rfl) ⟨Nat.le_of_ble_eq_true rfl, Nat.le_of_ble_eq_true rfl⟩ dJx4a65c_add_72be8_7 (Nat.le_of_ble_eq_true rfl) (Nat.le_of_ble_eq_true rfl) (fun p H locs hp7 hle7 hW hS v7 => ?_)
    have sl7 := hle7
    have he7 := ag_ext_tr (ag_le_rf _) (ag_ext_rf _ _) hp7
    have hl7 := ag_le_tr (ag_le_rf _) sl7
    rw [← hp7 13 0 t13, ← hp7 3 x1 v1, ← ag_ro_p (z := z) (t := 23) hp7 (Or.comm.mp (Or.imp_right (fun h => (Or.inr h : ag_ok _ _ _)) v2))] at hl
    refine lv_astore_n (lv' := [(2, .ref (p 23 r7.1)), (0, .ref (p 13 0)), (1, .ref (p 3 x1)), (3, .int x3)]) hx hb dJx4a65c_add_72be8_10 rfl hl (by decide) rfl (fun ls hl => ?_)
    refine lv_aload_n hx hb dJx4a65c_add_72be8_11 rfl (lv_at hl 0 rfl) ?_
    refine lv_iload_n hx hb dJx4a65c_add_72be8_12 rfl (lv_at hl 3 rfl) ?_
    refine lv_aload_n hx hb dJx4a65c_add_72be8_13 rfl (lv_at hl 2 rfl) ?_
    obtain ⟨a14, hf⟩ := ag_n hf
    refine ag_aast (k := 23) (j := 3) hx hb hG hW hS rfl (by decide) v7 (fun q => a14 (q.elim Or.inl (fun q => Or.inr (Or.inl q)))) (Nat.not_lt.mp fun q => a14 (Or.inr (Or.inr q))) (ag_in_le v1 (sl7 _)) rfl rfl cx3 dJx4a65c_add_72be8_14 (fun H locs hW hS => ?_)
    refine lv_aload_n hx hb dJx4a65c_add_72be8_15 rfl (lv_at hl 1 rfl) ?_
    refine lv_iload_n hx hb dJx4a65c_add_72be8_16 rfl (lv_at hl 3 rfl) ?_
    refine lv_iconst (v := 1) hx hb dJx4a65c_add_72be8_17 (by decide) ?_
    refine lv_iadd hx hb dJx4a65c_add_72be8_18 ?_
    refine u13_2 hx hb hT hown hG hW hS (ag_in_le t13 (sl7 _)) q47 dJx4a65c_add_72be8_19 (fun H locs hW hS => ?_)
    exact ag_Pvret hx hb hr hlocks hS hf he7 hl7 hW dJx4a65c_add_72be8_22
def f_Jx4a65c_add_9ea2d_3 (fu : Nat) (x1 : Int32) (n : ag_N) (s : ag_S) : Option (Int32 × (ag_N × ag_S)) := if (ag_up s 13 0 0 ((s 13 0 0) + 1)) 13 1 0 = -1 then none else ag_bd (f_Jx4a65c_add_72be8_3 fu x1 ((ag_up s 13 0 0 ((s 13 0 0) + 1)) 13 1 0) ((ag_up s 13 0 0 ((s 13 0 0) + 1)) 13 2 0) n (ag_up s 13 0 0 ((s 13 0 0) + 1))) fun r20 => some (1, (r20.1, r20.2))
abbrev rm_Jx4a65c_add_9ea2d_3 : Room := { frames := 6, cells := 1, slots := 100, locals := 150 }
set_option maxHeartbeats 4000000 in
set_option maxRecDepth 100000 in
theorem c_Jx4a65c_add_9ea2d_3 {z : ag_Z} {l : Launch} {n : ag_N} {p : ag_P} {s : ag_S} {fu : Nat} {x1 : Int32} {out : Int32 × (ag_N × ag_S)} (t13 : vp_in 0 (n 13)) (v1 : vp_in x1 (n 3)) (hf : f_Jx4a65c_add_9ea2d_3 fu x1 n s = some out) : Met l yJx4a65c_add_9ea2d (ag_ws yJx4a65c_add_9ea2d cJx4a65c_add_9ea2d 2 ((some FieldType.boolean))) rm_Jx4a65c_add_9ea2d_3 (va_Pc [.ref (p 13 0), .ref (p 3 x1)] (ag_Pre z n p s)) (ag_Pi z n p out.1 out.2.1 out.2.2) 1 100 (ag_A z) := by
  refine Met.ofW (cc := cJx4a65c_add_9ea2d) (maxL := 2) (ret := (some FieldType.boolean)) (by decide) rfl ?_
  intro p0 e st m args below meth c s9 B hml hv
  obtain ⟨ha, h0, hG, hW⟩ := hv
  have hx := B.exec
  have hb := B.bytes
  have hr := B.returns
  have hts := atoms_spec (ws := ag_ws yJx4a65c_add_9ea2d cJx4a65c_add_9ea2d 2 ((some FieldType.boolean))) B.pre
  have hT : ∀ w ∈ ag_tbl, w.before args st = true := fun w h => hts w (List.mem_cons_of_mem _ h)
  have hown : st.vm.findClass RJx4a65c = some m.cls := findClass_of_methodNamed B.named
  have hlocks := B.notSynchronized
  have hS : va_S (ag_A z) st.heap st.heap [] := va_S.rf
  obtain ⟨ls, hls, hl⟩ : ∃ ls, entryFrame m args 2 = F0 m 0 ls [] ∧ lv_has ls 2 [(0, .ref (p 13 0)), (1, .ref (p 3 x1))] := by rw [ha]; exact ag_entry m [.ref (p 13 0), .ref (p 3 x1)] (Nat.le_of_ble_eq_true rfl)
  rw [hls]
  unfold f_Jx4a65c_add_9ea2d_3 at hf
  refine lv_aload_n hx hb dJx4a65c_add_9ea2d_0 rfl (lv_at hl 0 rfl) ?_
  refine lv_dup hx hb dJx4a65c_add_9ea2d_1 rfl ?_
  refine g13_0 hx hb hT hown hG hW t13 q49 q50 dJx4a65c_add_9ea2d_2 ?_
  refine lv_iconst (v := 1) hx hb dJx4a65c_add_9ea2d_5 (by decide) ?_
  refine lv_iadd hx hb dJx4a65c_add_9ea2d_6 ?_
  refine u13_0 hx hb hT hown hG hW hS t13 q49 (u_same (hT _ q50)) dJx4a65c_add_9ea2d_7 (fun H locs hW hS => ?_)
  refine lv_aload_n hx hb dJx4a65c_add_9ea2d_10 rfl (lv_at hl 0 rfl) ?_
  refine lv_aload_n hx hb dJx4a65c_add_9ea2d_11 rfl (lv_at hl 1 rfl) ?_
  refine lv_aload_n hx hb dJx4a65c_add_9ea2d_12 rfl (lv_at hl 0 rfl) ?_
  refine g13_1 hx hb hT hown hG hW t13 q46 dJx4a65c_add_9ea2d_13 ?_
  obtain ⟨m13, hf⟩ := ag_n hf
  have o13 := ag_lor hW (k := 13) (f := 1) (t := 23) rfl rfl m13
  refine lv_aload_n hx hb dJx4a65c_add_9ea2d_16 rfl (lv_at hl 0 rfl) ?_
  refine g13_2 hx hb hT hown hG hW t13 q47 dJx4a65c_add_9ea2d_17 ?_
  obtain ⟨r20, hg20, hf⟩ := ag_bs hf
  refine ag_aVv (C1 := 1) (S1 := 100) hx hb hml hT hown hG h0 hS hW (c_Jx4a65c_add_72be8_3 t13 v1 o13 hg20) ⟨rfl, rfl⟩ q81 q83 qs0 q4 q84 dd_yJx4a65c_add_72be8 ⟨Nat.le_of_ble_eq_true rfl, Nat.le_of_ble_eq_true rfl⟩ t13 rfl rfl hl.1 rfl (Nat.le_of_ble_eq_true rfl) ⟨Nat.le_of_ble_eq_true rfl, Nat.le_of_ble_eq_true rfl⟩ dJx4a65c_add_9ea2d_20 (Nat.le_of_ble_eq_true rfl) (Nat.le_of_ble_eq_true rfl) (fun p H locs hp20 hle20 hW hS => ?_)
  have sl20 := hle20
  have he20 := ag_ext_tr (ag_le_rf _) (ag_ext_rf _ _) hp20
  have hl20 := ag_le_tr (ag_le_rf _) sl20
  rw [← hp20 13 0 t13, ← hp20 3 x1 v1] at hl
  refine lv_iconst (v := 1) hx hb dJx4a65c_add_9ea2d_23 (by decide) ?_
  exact ag_Piret hx hb hr rfl hlocks hS hf he20 hl20 hW dJx4a65c_add_9ea2d_24
def f_J7_copyOf_6403c_4 (fu : Nat) (x0 : Int32) (x1 : Int32) (n : ag_N) (s : ag_S) : Option (Int32 × (ag_N × ag_S)) := if 1000 ≤ n 24 ∨ x1 < 0 ∨ 100 < (x1).toNatClampNeg then none else if (if x1 < nI ((ag_s3 s 24 (n 24) x1) 84 0 x0).toNatClampNeg then x1 else nI ((ag_s3 s 24 (n 24) x1) 84 0 x0).toNatClampNeg) < 0 ∨ ((ag_s3 s 24 (n 24) x1) 84 0 x0).toNatClampNeg < (if x1 < nI ((ag_s3 s 24 (n 24) x1) 84 0 x0).toNatClampNeg then x1 else nI ((ag_s3 s 24 (n 24) x1) 84 0 x0).toNatClampNeg).toNatClampNeg ∨ ((ag_s3 s 24 (n 24) x1) 84 0 (nI (n 24))).toNatClampNeg < (if x1 < nI ((ag_s3 s 24 (n 24) x1) 84 0 x0).toNatClampNeg then x1 else nI ((ag_s3 s 24 (n 24) x1) 84 0 x0).toNatClampNeg).toNatClampNeg ∨ 1000 < ((ag_s3 s 24 (n 24) x1) 84 0 (nI (n 24))).toNatClampNeg then none else some ((nI (n 24)), ((ag_nn n 24), (ag_sc (ag_s3 s 24 (n 24) x1) 24 x0.toNatClampNeg (nI (n 24)).toNatClampNeg (if x1 < nI ((ag_s3 s 24 (n 24) x1) 84 0 x0).toNatClampNeg then x1 else nI ((ag_s3 s 24 (n 24) x1) 84 0 x0).toNatClampNeg).toNatClampNeg)))
abbrev rm_J7_copyOf_6403c_4 : Room := { frames := 1, cells := 1, slots := 100, locals := 40 }
set_option maxHeartbeats 4000000 in
set_option maxRecDepth 100000 in
theorem c_J7_copyOf_6403c_4 {z : ag_Z} {l : Launch} {n : ag_N} {p : ag_P} {s : ag_S} {fu : Nat} {x0 : Int32} {x1 : Int32} {out : Int32 × (ag_N × ag_S)} (v0 : vp_in x0 (n 24)) (hf : f_J7_copyOf_6403c_4 fu x0 x1 n s = some out) : Met l yJ7_copyOf_6403c (ag_ws yJ7_copyOf_6403c cJ7_copyOf_6403c 4 ((some (FieldType.array (FieldType.object "java/lang/Object"))))) rm_J7_copyOf_6403c_4 (va_Pc [.ref (p 24 x0), .int x1, .ref (z.2.1 4)] (ag_Pre z n p s)) (ag_Pr z n p 24 out.1 out.2.1 out.2.2) 1 100 (ag_A z) := by
  refine Met.ofW (cc := cJ7_copyOf_6403c) (maxL := 4) (ret := (some (FieldType.array (FieldType.object "java/lang/Object")))) (by decide) rfl ?_
  intro p0 e st m args below meth c s9 B hml hv
  obtain ⟨ha, h0, hG, hW⟩ := hv
  have hx := B.exec
  have hb := B.bytes
  have hr := B.returns
  have hts := atoms_spec (ws := ag_ws yJ7_copyOf_6403c cJ7_copyOf_6403c 4 ((some (FieldType.array (FieldType.object "java/lang/Object"))))) B.pre
  have hT : ∀ w ∈ ag_tbl, w.before args st = true := fun w h => hts w (List.mem_cons_of_mem _ h)
  have hown : st.vm.findClass RJ7 = some m.cls := findClass_of_methodNamed B.named
  have hlocks := B.notSynchronized
  have hS : va_S (ag_A z) st.heap st.heap [] := va_S.rf
  obtain ⟨ls, hls, hl⟩ : ∃ ls, entryFrame m args 4 = F0 m 0 ls [] ∧ lv_has ls 4 [(0, .ref (p 24 x0)), (1, .int x1), (2, .ref (z.2.1 4))] := by rw [ha]; exact ag_entry m [.ref (p 24 x0), .int x1, .ref (z.2.1 4)] (Nat.le_of_ble_eq_true rfl)
  rw [hls]
  unfold f_J7_copyOf_6403c_4 at hf
  refine lv_aload_n hx hb dJ7_copyOf_6403c_0 rfl (lv_at hl 2 rfl) ?_
  refine va_ldcM hx hb hown (hT _ q124) hG.2.2.2.2.2.2.2.1 dJ7_copyOf_6403c_1 ?_
  refine lv_acmp_ne (tgt := 13) (rx := some (z.2.1 4)) (ry := some (z.2.1 4)) hx hb dJ7_copyOf_6403c_3 (by decide) (fun h => absurd rfl h) (fun _ => ?_)
  refine lv_iload_n hx hb dJ7_copyOf_6403c_6 rfl (lv_at hl 1 rfl) ?_
  obtain ⟨m7, hf⟩ := ag_n hf
  have j7 : ¬ 1000 ≤ n 24 := fun q => m7 (Or.inl q)
  refine ag_newr (k := 24) (j := 4) hx hb hT hown hG h0 hS hW (Nat.lt_of_not_le j7) rfl (by decide) q126 (fun q => m7 (Or.inr (Or.inl q))) (Nat.not_lt.mp fun q => m7 (Or.inr (Or.inr q))) (Nat.le_of_ble_eq_true rfl) (Nat.le_of_ble_eq_true rfl) dJ7_copyOf_6403c_7 (fun p H hp7 hW hS => ?_)
  have sl7 := (ag_le_nn n 24)
  have he7 := ag_ext_tr (ag_le_rf _) (ag_ext_rf _ _) hp7
  have hl7 := ag_le_tr (ag_le_rf _) sl7
  rw [← hp7 24 x0 v0] at hl
  refine lv_goto (tgt := 24) hx hb dJ7_copyOf_6403c_10 (by decide) ?_
  refine lv_astore_n (lv' := [(3, .ref (p 24 (nI (n 24)))), (0, .ref (p 24 x0)), (1, .int x1), (2, .ref (z.2.1 4))]) hx hb dJ7_copyOf_6403c_24 rfl hl (by decide) rfl (fun ls hl => ?_)
  refine lv_aload_n hx hb dJ7_copyOf_6403c_25 rfl (lv_at hl 1 rfl) ?_
  refine lv_iconst (v := 0) hx hb dJ7_copyOf_6403c_26 (by decide) ?_
  refine lv_aload_n hx hb dJ7_copyOf_6403c_27 rfl (lv_at hl 0 rfl) ?_
  refine lv_iconst (v := 0) hx hb dJ7_copyOf_6403c_28 (by decide) ?_
  refine lv_aload_n hx hb dJ7_copyOf_6403c_29 rfl (lv_at hl 1 rfl) ?_
  refine ag_alen hx hb hG hW (ag_in_le v0 (sl7 _)) rfl rfl (k6 := 84) rfl dJ7_copyOf_6403c_30 ?_
  refine lv_iload_n hx hb dJ7_copyOf_6403c_31 rfl (lv_at hl 2 rfl) ?_
  refine va_mmin hx hb (hml.trans hl.1.symm) hown (hT _ q127) (hT _ q128) (hT _ q7) (hT _ q129) (Nat.le_of_ble_eq_true rfl) (Nat.le_of_ble_eq_true rfl) (Nat.le_of_ble_eq_true rfl) (Nat.le_of_ble_eq_true rfl) dJ7_copyOf_6403c_32 ?_
  obtain ⟨a35, hf⟩ := ag_n hf
  refine ag_copy (k := 24) (j := 4) (k6 := 84) ⟨ag_z0, ag_zn⟩ ⟨ag_z0, ag_zn⟩ hx hb hml hl.1 hT hown hG hS hW q130 q132 q131 q9 rfl (by decide) rfl (ag_in_le v0 (sl7 _)) (ag_new_v j7) (fun q => a35 (q.elim Or.inl (fun q => Or.inr (q.elim Or.inl (fun q => Or.inr (Or.inl q)))))) (Nat.not_lt.mp fun q => a35 (Or.inr (Or.inr (Or.inr q)))) rfl rfl cx4 (Nat.le_of_ble_eq_true rfl) (Nat.le_of_ble_eq_true rfl) dJ7_copyOf_6403c_35 (fun H locs hW hS => ?_)
  refine lv_aload_n hx hb dJ7_copyOf_6403c_38 rfl (lv_at hl 0 rfl) ?_
  exact ag_Paret hx hb hr (Or.inr ⟨_, rfl⟩) hlocks hS hf he7 hl7 (ag_new_v j7) hW dJ7_copyOf_6403c_39
def f_J7_copyOf_1904c_4 (fu : Nat) (x0 : Int32) (x1 : Int32) (n : ag_N) (s : ag_S) : Option (Int32 × (ag_N × ag_S)) := ag_bd (f_J7_copyOf_6403c_4 fu x0 x1 n s) fun r6 => some (r6.1, (r6.2.1, r6.2.2))
abbrev rm_J7_copyOf_1904c_4 : Room := { frames := 2, cells := 1, slots := 100, locals := 63 }
set_option maxHeartbeats 4000000 in
set_option maxRecDepth 100000 in
theorem c_J7_copyOf_1904c_4 {z : ag_Z} {l : Launch} {n : ag_N} {p : ag_P} {s : ag_S} {fu : Nat} {x0 : Int32} {x1 : Int32} {out : Int32 × (ag_N × ag_S)} (v0 : vp_in x0 (n 24)) (hf : f_J7_copyOf_1904c_4 fu x0 x1 n s = some out) : Met l yJ7_copyOf_1904c (ag_ws yJ7_copyOf_1904c cJ7_copyOf_1904c 2 ((some (FieldType.array (FieldType.object "java/lang/Object"))))) rm_J7_copyOf_1904c_4 (va_Pc [.ref (p 24 x0), .int x1] (ag_Pre z n p s)) (ag_Pr z n p 24 out.1 out.2.1 out.2.2) 1 100 (ag_A z) := by
  refine Met.ofW (cc := cJ7_copyOf_1904c) (maxL := 2) (ret := (some (FieldType.array (FieldType.object "java/lang/Object")))) (by decide) rfl ?_
  intro p0 e st m args below meth c s9 B hml hv
  obtain ⟨ha, h0, hG, hW⟩ := hv
  have hx := B.exec
  have hb := B.bytes
  have hr := B.returns
  have hts := atoms_spec (ws := ag_ws yJ7_copyOf_1904c cJ7_copyOf_1904c 2 ((some (FieldType.array (FieldType.object "java/lang/Object"))))) B.pre
  have hT : ∀ w ∈ ag_tbl, w.before args st = true := fun w h => hts w (List.mem_cons_of_mem _ h)
  have hown : st.vm.findClass RJ7 = some m.cls := findClass_of_methodNamed B.named
  have hlocks := B.notSynchronized
  have hS : va_S (ag_A z) st.heap st.heap [] := va_S.rf
  obtain ⟨ls, hls, hl⟩ : ∃ ls, entryFrame m args 2 = F0 m 0 ls [] ∧ lv_has ls 2 [(0, .ref (p 24 x0)), (1, .int x1)] := by rw [ha]; exact ag_entry m [.ref (p 24 x0), .int x1] (Nat.le_of_ble_eq_true rfl)
  rw [hls]
  unfold f_J7_copyOf_1904c_4 at hf
  refine lv_aload_n hx hb dJ7_copyOf_1904c_0 rfl (lv_at hl 0 rfl) ?_
  refine lv_iload_n hx hb dJ7_copyOf_1904c_1 rfl (lv_at hl 1 rfl) ?_
  refine lv_aload_n hx hb dJ7_copyOf_1904c_2 rfl (lv_at hl 0 rfl) ?_
  refine ag_getC (k := 24) (j := 4) hx hb hml hl.1 hT hown hG hW q106 dcl0 q1070 q107 q120 rfl (by decide) v0 (Nat.le_of_ble_eq_true rfl) (Nat.le_of_ble_eq_true rfl) dJ7_copyOf_1904c_3 ?_
  obtain ⟨r6, hg6, hf⟩ := ag_bs hf
  refine ag_aSr (C1 := 1) (S1 := 100) hx hb hml hT hown hG h0 hS hW (c_J7_copyOf_6403c_4 v0 hg6) ⟨rfl, rfl⟩ q121 q122 q8 q123 dd_yJ7_copyOf_6403c ⟨Nat.le_of_ble_eq_true rfl, Nat.le_of_ble_eq_true rfl⟩ hl.1 rfl (Nat.le_of_ble_eq_true rfl) ⟨Nat.le_of_ble_eq_true rfl, Nat.le_of_ble_eq_true rfl⟩ dJ7_copyOf_1904c_6 (Nat.le_of_ble_eq_true rfl) (Nat.le_of_ble_eq_true rfl) (fun p H locs hp6 hle6 hW hS v6 => ?_)
  have sl6 := hle6
  have he6 := ag_ext_tr (ag_le_rf _) (ag_ext_rf _ _) hp6
  have hl6 := ag_le_tr (ag_le_rf _) sl6
  rw [← hp6 24 x0 v0] at hl
  exact ag_Paret hx hb hr (Or.inr ⟨_, rfl⟩) hlocks hS hf he6 hl6 v6 hW dJ7_copyOf_1904c_9
def f_Jx4a65c_grow_92f84_4 (fu : Nat) (x1 : Int32) (n : ag_N) (s : ag_S) : Option (Int32 × (ag_N × ag_S)) := if s 14 1 0 = -1 then none else if (0 : Int32) < ag_ln s 84 (s 14 1 0) then (ag_bd (f_J8_newLength_cabcc fu (ag_ln s 84 (s 14 1 0)) (x1 - (ag_ln s 84 (s 14 1 0))) ((ag_ln s 84 (s 14 1 0)) >>> ((1 : Int32) &&& 31)) s) fun r27 => if s 14 1 0 = -1 then none else if s 14 1 0 = -2 then none else ag_bd (f_J7_copyOf_1904c_4 fu (s 14 1 0) r27 n s) fun r37 => some (r37.1, (r37.2.1, (ag_up r37.2.2 14 1 0 r37.1)))) else (if s 14 1 0 = -1 then none else if s 14 1 0 = -2 then (if 1000 ≤ n 24 ∨ (if 10 < x1 then x1 else 10) < 0 ∨ 100 < (if 10 < x1 then x1 else 10).toNatClampNeg then none else some ((nI (n 24)), ((ag_nn n 24), (ag_up (ag_s3 s 24 (n 24) (if 10 < x1 then x1 else 10)) 14 1 0 (nI (n 24)))))) else (ag_bd (f_J8_newLength_cabcc fu (ag_ln s 84 (s 14 1 0)) (x1 - (ag_ln s 84 (s 14 1 0))) ((ag_ln s 84 (s 14 1 0)) >>> ((1 : Int32) &&& 31)) s) fun r27 => if s 14 1 0 = -1 then none else if s 14 1 0 = -2 then none else ag_bd (f_J7_copyOf_1904c_4 fu (s 14 1 0) r27 n s) fun r37 => some (r37.1, (r37.2.1, (ag_up r37.2.2 14 1 0 r37.1)))))
abbrev rm_Jx4a65c_grow_92f84_4 : Room := { frames := 3, cells := 1, slots := 100, locals := 84 }
set_option maxHeartbeats 4000000 in
set_option maxRecDepth 100000 in
theorem c_Jx4a65c_grow_92f84_4 {z : ag_Z} {l : Launch} {n : ag_N} {p : ag_P} {s : ag_S} {fu : Nat} {x1 : Int32} {out : Int32 × (ag_N × ag_S)} (t14 : vp_in 0 (n 14)) (hf : f_Jx4a65c_grow_92f84_4 fu x1 n s = some out) : Met l yJx4a65c_grow_92f84 (ag_ws yJx4a65c_grow_92f84 cJx4a65c_grow_92f84 4 ((some (FieldType.array (FieldType.object "java/lang/Object"))))) rm_Jx4a65c_grow_92f84_4 (va_Pc [.ref (p 14 0), .int x1] (ag_Pre z n p s)) (ag_Pr z n p 24 out.1 out.2.1 out.2.2) 1 100 (ag_A z) := by
  refine Met.ofW (cc := cJx4a65c_grow_92f84) (maxL := 4) (ret := (some (FieldType.array (FieldType.object "java/lang/Object")))) (by decide) rfl ?_
  intro p0 e st m args below meth c s9 B hml hv
  obtain ⟨ha, h0, hG, hW⟩ := hv
  have hx := B.exec
  have hb := B.bytes
  have hr := B.returns
  have hts := atoms_spec (ws := ag_ws yJx4a65c_grow_92f84 cJx4a65c_grow_92f84 4 ((some (FieldType.array (FieldType.object "java/lang/Object"))))) B.pre
  have hT : ∀ w ∈ ag_tbl, w.before args st = true := fun w h => hts w (List.mem_cons_of_mem _ h)
  have hown : st.vm.findClass RJx4a65c = some m.cls := findClass_of_methodNamed B.named
  have hlocks := B.notSynchronized
  have hS : va_S (ag_A z) st.heap st.heap [] := va_S.rf
  obtain ⟨ls, hls, hl⟩ : ∃ ls, entryFrame m args 4 = F0 m 0 ls [] ∧ lv_has ls 4 [(0, .ref (p 14 0)), (1, .int x1)] := by rw [ha]; exact ag_entry m [.ref (p 14 0), .int x1] (Nat.le_of_ble_eq_true rfl)
  rw [hls]
  unfold f_Jx4a65c_grow_92f84_4 at hf
  refine lv_aload_n hx hb dJx4a65c_grow_92f84_0 rfl (lv_at hl 0 rfl) ?_
  refine g14_1 hx hb hT hown hG hW t14 q46 dJx4a65c_grow_92f84_1 ?_
  obtain ⟨m1, hf⟩ := ag_n hf
  have o1 := ag_lor hW (k := 14) (f := 1) (t := 24) rfl rfl m1
  refine ag_alenE (k := 24) (k6 := 84) hx hb hG hS hW o1 rfl rfl rfl dJx4a65c_grow_92f84_4 ?_
  refine lv_istore_n (lv' := [(2, .int (ag_ln s 84 (s 14 1 0))), (0, .ref (p 14 0)), (1, .int x1)]) hx hb dJx4a65c_grow_92f84_5 rfl hl (by decide) rfl (fun ls hl => ?_)
  refine lv_iload_n hx hb dJx4a65c_grow_92f84_6 rfl (lv_at hl 0 rfl) ?_
  refine lv_if_gt (tgt := 20) hx hb dJx4a65c_grow_92f84_7 (by decide) (fun c7 => ?_) (fun c7 => ?_)
  · have hf := ag_t c7 hf
    refine lv_iload_n hx hb dJx4a65c_grow_92f84_20 rfl (lv_at hl 0 rfl) ?_
    refine lv_iload_n hx hb dJx4a65c_grow_92f84_21 rfl (lv_at hl 2 rfl) ?_
    refine lv_iload_n hx hb dJx4a65c_grow_92f84_22 rfl (lv_at hl 0 rfl) ?_
    refine lv_isub hx hb dJx4a65c_grow_92f84_23 ?_
    refine lv_iload_n hx hb dJx4a65c_grow_92f84_24 rfl (lv_at hl 0 rfl) ?_
    refine lv_iconst (v := 1) hx hb dJx4a65c_grow_92f84_25 (by decide) ?_
    refine lv_ishr hx hb dJx4a65c_grow_92f84_26 ?_
    obtain ⟨r27, hg27, hf⟩ := ag_bs hf
    refine ag_cSi hx hb hml hT hown hG h0 hS hW (c_J8_newLength_cabcc hg27) ⟨rfl, rfl⟩ q93 q94 q6 q95 dd_yJ8_newLength_cabcc ⟨Nat.le_of_ble_eq_true rfl, Nat.le_of_ble_eq_true rfl⟩ hl.1 rfl (Nat.le_of_ble_eq_true rfl) ⟨Nat.le_of_ble_eq_true rfl, Nat.le_of_ble_eq_true rfl⟩ dJx4a65c_grow_92f84_27 (fun H locs hW hS => ?_)
    refine lv_istore_n (lv' := [(3, .int r27), (2, .int (ag_ln s 84 (s 14 1 0))), (0, .ref (p 14 0)), (1, .int x1)]) hx hb dJx4a65c_grow_92f84_30 rfl hl (by decide) rfl (fun ls hl => ?_)
    refine lv_aload_n hx hb dJx4a65c_grow_92f84_31 rfl (lv_at hl 2 rfl) ?_
    refine lv_aload_n hx hb dJx4a65c_grow_92f84_32 rfl (lv_at hl 2 rfl) ?_
    refine g14_1 hx hb hT hown hG hW t14 q46 dJx4a65c_grow_92f84_33 ?_
    obtain ⟨m33, hf⟩ := ag_n hf
    have o33 := ag_lor hW (k := 14) (f := 1) (t := 24) rfl rfl m33
    refine lv_iload_n hx hb dJx4a65c_grow_92f84_36 rfl (lv_at hl 0 rfl) ?_
    obtain ⟨l37, hf⟩ := ag_n hf
    have lv37 := Or.resolve_left o33 l37
    rw [ag_refv (z := z) (p := p) lv37 hW]
    obtain ⟨r37, hg37, hf⟩ := ag_bs hf
    refine ag_aSr (C1 := 1) (S1 := 100) hx hb hml hT hown hG h0 hS hW (c_J7_copyOf_1904c_4 lv37 hg37) ⟨rfl, rfl⟩ q103 q104 q8 q105 dd_yJ7_copyOf_1904c ⟨Nat.le_of_ble_eq_true rfl, Nat.le_of_ble_eq_true rfl⟩ hl.1 rfl (Nat.le_of_ble_eq_true rfl) ⟨Nat.le_of_ble_eq_true rfl, Nat.le_of_ble_eq_true rfl⟩ dJx4a65c_grow_92f84_37 (Nat.le_of_ble_eq_true rfl) (Nat.le_of_ble_eq_true rfl) (fun p H locs hp37 hle37 hW hS v37 => ?_)
    have sl37 := hle37
    have he37 := ag_ext_tr (ag_le_rf _) (ag_ext_rf _ _) hp37
    have hl37 := ag_le_tr (ag_le_rf _) sl37
    rw [← hp37 14 0 t14] at hl
    rw [← hp37 14 0 t14]
    refine lv_dup_x1 hx hb dJx4a65c_grow_92f84_40 rfl rfl ?_
    refine u14_1 hx hb hT hown hG hW hS (ag_in_le t14 (sl37 _)) (ag_refv (z := z) (p := p) v37 hW).symm (Or.inl (Or.inr v37)) q46 dJx4a65c_grow_92f84_41 (fun H locs hW hS => ?_)
    exact ag_Paret hx hb hr (Or.inr ⟨_, rfl⟩) hlocks hS hf he37 hl37 v37 hW dJx4a65c_grow_92f84_44
  · have hf := ag_f c7 hf
    refine lv_aload_n hx hb dJx4a65c_grow_92f84_10 rfl (lv_at hl 1 rfl) ?_
    refine g14_1 hx hb hT hown hG hW t14 q46 dJx4a65c_grow_92f84_11 ?_
    obtain ⟨m11, hf⟩ := ag_n hf
    have o11 := ag_lor hW (k := 14) (f := 1) (t := 24) rfl rfl m11
    refine ag_getst hx hb hT hown hG hS q44 dJx4a65c_grow_92f84_14 ?_
    refine ag_acmE (t := 24) (v := s 14 1 0) (tgt := 45) hx hb hG hW o11 dJx4a65c_grow_92f84_17 (by decide) (fun c17 => ?_) (fun c17 => ?_)
    · have hf := ag_t c17 hf
      refine lv_aload_n hx hb dJx4a65c_grow_92f84_45 rfl (lv_at hl 1 rfl) ?_
      refine lv_bipush (v := 10) hx hb dJx4a65c_grow_92f84_46 (by decide) ?_
      refine lv_iload_n hx hb dJx4a65c_grow_92f84_48 rfl (lv_at hl 2 rfl) ?_
      refine va_mmax hx hb (hml.trans hl.1.symm) hown (hT _ q133) (hT _ q97) (hT _ q7) (hT _ q98) (Nat.le_of_ble_eq_true rfl) (Nat.le_of_ble_eq_true rfl) (Nat.le_of_ble_eq_true rfl) (Nat.le_of_ble_eq_true rfl) dJx4a65c_grow_92f84_49 ?_
      obtain ⟨m52, hf⟩ := ag_n hf
      have j52 : ¬ 1000 ≤ n 24 := fun q => m52 (Or.inl q)
      refine ag_newr (k := 24) (j := 4) hx hb hT hown hG h0 hS hW (Nat.lt_of_not_le j52) rfl (by decide) q134 (fun q => m52 (Or.inr (Or.inl q))) (Nat.not_lt.mp fun q => m52 (Or.inr (Or.inr q))) (Nat.le_of_ble_eq_true rfl) (Nat.le_of_ble_eq_true rfl) dJx4a65c_grow_92f84_52 (fun p H hp52 hW hS => ?_)
      have sl52 := (ag_le_nn n 24)
      have he52 := ag_ext_tr (ag_le_rf _) (ag_ext_rf _ _) hp52
      have hl52 := ag_le_tr (ag_le_rf _) sl52
      rw [← hp52 14 0 t14] at hl
      rw [← hp52 14 0 t14]
      refine lv_dup_x1 hx hb dJx4a65c_grow_92f84_55 rfl rfl ?_
      refine u14_1 hx hb hT hown hG hW hS (ag_in_le t14 (sl52 _)) (ag_refv (z := z) (p := p) (ag_new_v j52) hW).symm (Or.inl (Or.inr (ag_new_v j52))) q46 dJx4a65c_grow_92f84_56 (fun H locs hW hS => ?_)
      exact ag_Paret hx hb hr (Or.inr ⟨_, rfl⟩) hlocks hS hf he52 hl52 (ag_new_v j52) hW dJx4a65c_grow_92f84_59
    · have hf := ag_f c17 hf
      refine lv_iload_n hx hb dJx4a65c_grow_92f84_20 rfl (lv_at hl 0 rfl) ?_
      refine lv_iload_n hx hb dJx4a65c_grow_92f84_21 rfl (lv_at hl 2 rfl) ?_
      refine lv_iload_n hx hb dJx4a65c_grow_92f84_22 rfl (lv_at hl 0 rfl) ?_
      refine lv_isub hx hb dJx4a65c_grow_92f84_23 ?_
      refine lv_iload_n hx hb dJx4a65c_grow_92f84_24 rfl (lv_at hl 0 rfl) ?_
      refine lv_iconst (v := 1) hx hb dJx4a65c_grow_92f84_25 (by decide) ?_
      refine lv_ishr hx hb dJx4a65c_grow_92f84_26 ?_
      obtain ⟨r27, hg27, hf⟩ := ag_bs hf
      refine ag_cSi hx hb hml hT hown hG h0 hS hW (c_J8_newLength_cabcc hg27) ⟨rfl, rfl⟩ q93 q94 q6 q95 dd_yJ8_newLength_cabcc ⟨Nat.le_of_ble_eq_true rfl, Nat.le_of_ble_eq_true rfl⟩ hl.1 rfl (Nat.le_of_ble_eq_true rfl) ⟨Nat.le_of_ble_eq_true rfl, Nat.le_of_ble_eq_true rfl⟩ dJx4a65c_grow_92f84_27 (fun H locs hW hS => ?_)
      refine lv_istore_n (lv' := [(3, .int r27), (2, .int (ag_ln s 84 (s 14 1 0))), (0, .ref (p 14 0)), (1, .int x1)]) hx hb dJx4a65c_grow_92f84_30 rfl hl (by decide) rfl (fun ls hl => ?_)
      refine lv_aload_n hx hb dJx4a65c_grow_92f84_31 rfl (lv_at hl 2 rfl) ?_
      refine lv_aload_n hx hb dJx4a65c_grow_92f84_32 rfl (lv_at hl 2 rfl) ?_
      refine g14_1 hx hb hT hown hG hW t14 q46 dJx4a65c_grow_92f84_33 ?_
      obtain ⟨m33, hf⟩ := ag_n hf
      have o33 := ag_lor hW (k := 14) (f := 1) (t := 24) rfl rfl m33
      refine lv_iload_n hx hb dJx4a65c_grow_92f84_36 rfl (lv_at hl 0 rfl) ?_
      obtain ⟨l37, hf⟩ := ag_n hf
      have lv37 := Or.resolve_left o33 l37
      rw [ag_refv (z := z) (p := p) lv37 hW]
      obtain ⟨r37, hg37, hf⟩ := ag_bs hf
      refine ag_aSr (C1 := 1) (S1 := 100) hx hb hml hT hown hG h0 hS hW (c_J7_copyOf_1904c_4 lv37 hg37) ⟨rfl, rfl⟩ q103 q104 q8 q105 dd_yJ7_copyOf_1904c ⟨Nat.le_of_ble_eq_true rfl, Nat.le_of_ble_eq_true rfl⟩ hl.1 rfl (Nat.le_of_ble_eq_true rfl) ⟨Nat.le_of_ble_eq_true rfl, Nat.le_of_ble_eq_true rfl⟩ dJx4a65c_grow_92f84_37 (Nat.le_of_ble_eq_true rfl) (Nat.le_of_ble_eq_true rfl) (fun p H locs hp37 hle37 hW hS v37 => ?_)
      have sl37 := hle37
      have he37 := ag_ext_tr (ag_le_rf _) (ag_ext_rf _ _) hp37
      have hl37 := ag_le_tr (ag_le_rf _) sl37
      rw [← hp37 14 0 t14] at hl
      rw [← hp37 14 0 t14]
      refine lv_dup_x1 hx hb dJx4a65c_grow_92f84_40 rfl rfl ?_
      refine u14_1 hx hb hT hown hG hW hS (ag_in_le t14 (sl37 _)) (ag_refv (z := z) (p := p) v37 hW).symm (Or.inl (Or.inr v37)) q46 dJx4a65c_grow_92f84_41 (fun H locs hW hS => ?_)
      exact ag_Paret hx hb hr (Or.inr ⟨_, rfl⟩) hlocks hS hf he37 hl37 v37 hW dJx4a65c_grow_92f84_44
def f_Jx4a65c_grow_d5877_4 (fu : Nat) (n : ag_N) (s : ag_S) : Option (Int32 × (ag_N × ag_S)) := ag_bd (f_Jx4a65c_grow_92f84_4 fu ((s 14 2 0) + 1) n s) fun r7 => some (r7.1, (r7.2.1, r7.2.2))
abbrev rm_Jx4a65c_grow_d5877_4 : Room := { frames := 4, cells := 1, slots := 100, locals := 107 }
set_option maxHeartbeats 4000000 in
set_option maxRecDepth 100000 in
theorem c_Jx4a65c_grow_d5877_4 {z : ag_Z} {l : Launch} {n : ag_N} {p : ag_P} {s : ag_S} {fu : Nat} {out : Int32 × (ag_N × ag_S)} (t14 : vp_in 0 (n 14)) (hf : f_Jx4a65c_grow_d5877_4 fu  n s = some out) : Met l yJx4a65c_grow_d5877 (ag_ws yJx4a65c_grow_d5877 cJx4a65c_grow_d5877 1 ((some (FieldType.array (FieldType.object "java/lang/Object"))))) rm_Jx4a65c_grow_d5877_4 (va_Pc [.ref (p 14 0)] (ag_Pre z n p s)) (ag_Pr z n p 24 out.1 out.2.1 out.2.2) 1 100 (ag_A z) := by
  refine Met.ofW (cc := cJx4a65c_grow_d5877) (maxL := 1) (ret := (some (FieldType.array (FieldType.object "java/lang/Object")))) (by decide) rfl ?_
  intro p0 e st m args below meth c s9 B hml hv
  obtain ⟨ha, h0, hG, hW⟩ := hv
  have hx := B.exec
  have hb := B.bytes
  have hr := B.returns
  have hts := atoms_spec (ws := ag_ws yJx4a65c_grow_d5877 cJx4a65c_grow_d5877 1 ((some (FieldType.array (FieldType.object "java/lang/Object"))))) B.pre
  have hT : ∀ w ∈ ag_tbl, w.before args st = true := fun w h => hts w (List.mem_cons_of_mem _ h)
  have hown : st.vm.findClass RJx4a65c = some m.cls := findClass_of_methodNamed B.named
  have hlocks := B.notSynchronized
  have hS : va_S (ag_A z) st.heap st.heap [] := va_S.rf
  obtain ⟨ls, hls, hl⟩ : ∃ ls, entryFrame m args 1 = F0 m 0 ls [] ∧ lv_has ls 1 [(0, .ref (p 14 0))] := by rw [ha]; exact ag_entry m [.ref (p 14 0)] (Nat.le_of_ble_eq_true rfl)
  rw [hls]
  unfold f_Jx4a65c_grow_d5877_4 at hf
  refine lv_aload_n hx hb dJx4a65c_grow_d5877_0 rfl (lv_at hl 0 rfl) ?_
  refine lv_aload_n hx hb dJx4a65c_grow_d5877_1 rfl (lv_at hl 0 rfl) ?_
  refine g14_2 hx hb hT hown hG hW t14 q47 dJx4a65c_grow_d5877_2 ?_
  refine lv_iconst (v := 1) hx hb dJx4a65c_grow_d5877_5 (by decide) ?_
  refine lv_iadd hx hb dJx4a65c_grow_d5877_6 ?_
  obtain ⟨r7, hg7, hf⟩ := ag_bs hf
  refine ag_aVr (C1 := 1) (S1 := 100) hx hb hml hT hown hG h0 hS hW (c_Jx4a65c_grow_92f84_4 t14 hg7) ⟨rfl, rfl⟩ q89 q91 qs2 q4 q92 dd_yJx4a65c_grow_92f84 ⟨Nat.le_of_ble_eq_true rfl, Nat.le_of_ble_eq_true rfl⟩ t14 rfl rfl hl.1 rfl (Nat.le_of_ble_eq_true rfl) ⟨Nat.le_of_ble_eq_true rfl, Nat.le_of_ble_eq_true rfl⟩ dJx4a65c_grow_d5877_7 (Nat.le_of_ble_eq_true rfl) (Nat.le_of_ble_eq_true rfl) (fun p H locs hp7 hle7 hW hS v7 => ?_)
  have sl7 := hle7
  have he7 := ag_ext_tr (ag_le_rf _) (ag_ext_rf _ _) hp7
  have hl7 := ag_le_tr (ag_le_rf _) sl7
  rw [← hp7 14 0 t14] at hl
  exact ag_Paret hx hb hr (Or.inr ⟨_, rfl⟩) hlocks hS hf he7 hl7 v7 hW dJx4a65c_grow_d5877_10
def f_Jx4a65c_add_72be8_4 (fu : Nat) (x1 : Int32) (x2 : Int32) (x3 : Int32) (n : ag_N) (s : ag_S) : Option (ag_N × ag_S) := if x3 = ag_ln s 84 x2 then (ag_bd (f_Jx4a65c_grow_d5877_4 fu n s) fun r7 => if x3 < 0 ∨ (r7.2.2 84 0 r7.1).toNatClampNeg ≤ x3.toNatClampNeg ∨ 100 < (r7.2.2 84 0 r7.1).toNatClampNeg then none else some (r7.2.1, (ag_up (ag_up r7.2.2 24 r7.1.toNatClampNeg x3 x1) 14 2 0 (x3 + 1)))) else (if x2 = -2 then none else if x3 < 0 ∨ (s 84 0 x2).toNatClampNeg ≤ x3.toNatClampNeg ∨ 100 < (s 84 0 x2).toNatClampNeg then none else some (n, (ag_up (ag_up s 24 x2.toNatClampNeg x3 x1) 14 2 0 (x3 + 1))))
abbrev rm_Jx4a65c_add_72be8_4 : Room := { frames := 5, cells := 1, slots := 100, locals := 127 }
set_option maxHeartbeats 4000000 in
set_option maxRecDepth 100000 in
theorem c_Jx4a65c_add_72be8_4 {z : ag_Z} {l : Launch} {n : ag_N} {p : ag_P} {s : ag_S} {fu : Nat} {x1 : Int32} {x2 : Int32} {x3 : Int32} {out : ag_N × ag_S} (t14 : vp_in 0 (n 14)) (v1 : vp_in x1 (n 4)) (v2 : x2 = -2 ∨ vp_in x2 (n 24)) (hf : f_Jx4a65c_add_72be8_4 fu x1 x2 x3 n s = some out) : Met l yJx4a65c_add_72be8 (ag_ws yJx4a65c_add_72be8 cJx4a65c_add_72be8 4 ((none))) rm_Jx4a65c_add_72be8_4 (va_Pc [.ref (p 14 0), .ref (p 4 x1), va_rf (ag_ro z p 24 (x2)), .int x3] (ag_Pre z n p s)) (ag_Pv z n p out.1 out.2) 1 100 (ag_A z) := by
  refine Met.ofW (cc := cJx4a65c_add_72be8) (maxL := 4) (ret := (none)) (by decide) rfl ?_
  intro p0 e st m args below meth c s9 B hml hv
  obtain ⟨ha, h0, hG, hW⟩ := hv
  have hx := B.exec
  have hb := B.bytes
  have hr := B.returns
  have hts := atoms_spec (ws := ag_ws yJx4a65c_add_72be8 cJx4a65c_add_72be8 4 ((none))) B.pre
  have hT : ∀ w ∈ ag_tbl, w.before args st = true := fun w h => hts w (List.mem_cons_of_mem _ h)
  have hown : st.vm.findClass RJx4a65c = some m.cls := findClass_of_methodNamed B.named
  have hlocks := B.notSynchronized
  have hS : va_S (ag_A z) st.heap st.heap [] := va_S.rf
  obtain ⟨ls, hls, hl⟩ : ∃ ls, entryFrame m args 4 = F0 m 0 ls [] ∧ lv_has ls 4 [(0, .ref (p 14 0)), (1, .ref (p 4 x1)), (2, va_rf (ag_ro z p 24 (x2))), (3, .int x3)] := by rw [ha]; generalize ag_ro z p 24 x2 = r0; cases r0 <;> exact ag_entry m _ (Nat.le_of_ble_eq_true rfl)
  rw [hls]
  unfold f_Jx4a65c_add_72be8_4 at hf
  refine lv_iload_n hx hb dJx4a65c_add_72be8_0 rfl (lv_at hl 3 rfl) ?_
  refine ag_aloadq hx hb dJx4a65c_add_72be8_1 rfl (lv_at hl 2 rfl) ?_
  refine ag_alenE (k := 24) (k6 := 84) hx hb hG hS hW v2 rfl rfl rfl dJx4a65c_add_72be8_2 ?_
  refine lv_icmp_ne (tgt := 11) hx hb dJx4a65c_add_72be8_3 (by decide) (fun c3 => ?_) (fun c3 => ?_)
  · have hf := ag_f c3 hf
    refine ag_aloadq hx hb dJx4a65c_add_72be8_11 rfl (lv_at hl 2 rfl) ?_
    refine lv_iload_n hx hb dJx4a65c_add_72be8_12 rfl (lv_at hl 3 rfl) ?_
    refine lv_aload_n hx hb dJx4a65c_add_72be8_13 rfl (lv_at hl 1 rfl) ?_
    obtain ⟨m14, hf⟩ := ag_n hf
    have v14 := Or.resolve_left v2 m14
    rw [ag_refv (z := z) (p := p) v14 hW]
    obtain ⟨a14, hf⟩ := ag_n hf
    refine ag_aast (k := 24) (j := 4) hx hb hG hW hS rfl (by decide) v14 (fun q => a14 (q.elim Or.inl (fun q => Or.inr (Or.inl q)))) (Nat.not_lt.mp fun q => a14 (Or.inr (Or.inr q))) v1 rfl rfl cx4 dJx4a65c_add_72be8_14 (fun H locs hW hS => ?_)
    refine lv_aload_n hx hb dJx4a65c_add_72be8_15 rfl (lv_at hl 0 rfl) ?_
    refine lv_iload_n hx hb dJx4a65c_add_72be8_16 rfl (lv_at hl 3 rfl) ?_
    refine lv_iconst (v := 1) hx hb dJx4a65c_add_72be8_17 (by decide) ?_
    refine lv_iadd hx hb dJx4a65c_add_72be8_18 ?_
    refine u14_2 hx hb hT hown hG hW hS t14 q47 dJx4a65c_add_72be8_19 (fun H locs hW hS => ?_)
    refine W.widen (k := 1) (n := 100) (Nat.le_of_ble_eq_true rfl) (Nat.le_of_ble_eq_true rfl) ?_
    exact ag_Pvret hx hb hr hlocks hS hf (ag_ext_rf _ _) (ag_le_rf _) hW dJx4a65c_add_72be8_22
  · have hf := ag_t c3 hf
    refine lv_aload_n hx hb dJx4a65c_add_72be8_6 rfl (lv_at hl 0 rfl) ?_
    obtain ⟨r7, hg7, hf⟩ := ag_bs hf
    refine ag_aVr (C1 := 1) (S1 := 100) hx hb hml hT hown hG h0 hS hW (c_Jx4a65c_grow_d5877_4 t14 hg7) ⟨rfl, rfl⟩ q85 q87 qs1 q4 q88 dd_yJx4a65c_grow_d5877 ⟨Nat.le_of_ble_eq_true rfl, Nat.le_of_ble_eq_true rfl⟩ t14 rfl rfl hl.1 rfl (Nat.le_of_ble_eq_true rfl) ⟨Nat.le_of_ble_eq_true rfl, Nat.le_of_ble_eq_true rfl⟩ dJx4a65c_add_72be8_7 (Nat.le_of_ble_eq_true rfl) (Nat.le_of_ble_eq_true rfl) (fun p H locs hp7 hle7 hW hS v7 => ?_)
    have sl7 := hle7
    have he7 := ag_ext_tr (ag_le_rf _) (ag_ext_rf _ _) hp7
    have hl7 := ag_le_tr (ag_le_rf _) sl7
    rw [← hp7 14 0 t14, ← hp7 4 x1 v1, ← ag_ro_p (z := z) (t := 24) hp7 (Or.comm.mp (Or.imp_right (fun h => (Or.inr h : ag_ok _ _ _)) v2))] at hl
    refine lv_astore_n (lv' := [(2, .ref (p 24 r7.1)), (0, .ref (p 14 0)), (1, .ref (p 4 x1)), (3, .int x3)]) hx hb dJx4a65c_add_72be8_10 rfl hl (by decide) rfl (fun ls hl => ?_)
    refine lv_aload_n hx hb dJx4a65c_add_72be8_11 rfl (lv_at hl 0 rfl) ?_
    refine lv_iload_n hx hb dJx4a65c_add_72be8_12 rfl (lv_at hl 3 rfl) ?_
    refine lv_aload_n hx hb dJx4a65c_add_72be8_13 rfl (lv_at hl 2 rfl) ?_
    obtain ⟨a14, hf⟩ := ag_n hf
    refine ag_aast (k := 24) (j := 4) hx hb hG hW hS rfl (by decide) v7 (fun q => a14 (q.elim Or.inl (fun q => Or.inr (Or.inl q)))) (Nat.not_lt.mp fun q => a14 (Or.inr (Or.inr q))) (ag_in_le v1 (sl7 _)) rfl rfl cx4 dJx4a65c_add_72be8_14 (fun H locs hW hS => ?_)
    refine lv_aload_n hx hb dJx4a65c_add_72be8_15 rfl (lv_at hl 1 rfl) ?_
    refine lv_iload_n hx hb dJx4a65c_add_72be8_16 rfl (lv_at hl 3 rfl) ?_
    refine lv_iconst (v := 1) hx hb dJx4a65c_add_72be8_17 (by decide) ?_
    refine lv_iadd hx hb dJx4a65c_add_72be8_18 ?_
    refine u14_2 hx hb hT hown hG hW hS (ag_in_le t14 (sl7 _)) q47 dJx4a65c_add_72be8_19 (fun H locs hW hS => ?_)
    exact ag_Pvret hx hb hr hlocks hS hf he7 hl7 hW dJx4a65c_add_72be8_22
def f_Jx4a65c_add_9ea2d_4 (fu : Nat) (x1 : Int32) (n : ag_N) (s : ag_S) : Option (Int32 × (ag_N × ag_S)) := if (ag_up s 14 0 0 ((s 14 0 0) + 1)) 14 1 0 = -1 then none else ag_bd (f_Jx4a65c_add_72be8_4 fu x1 ((ag_up s 14 0 0 ((s 14 0 0) + 1)) 14 1 0) ((ag_up s 14 0 0 ((s 14 0 0) + 1)) 14 2 0) n (ag_up s 14 0 0 ((s 14 0 0) + 1))) fun r20 => some (1, (r20.1, r20.2))
abbrev rm_Jx4a65c_add_9ea2d_4 : Room := { frames := 6, cells := 1, slots := 100, locals := 150 }
set_option maxHeartbeats 4000000 in
set_option maxRecDepth 100000 in
theorem c_Jx4a65c_add_9ea2d_4 {z : ag_Z} {l : Launch} {n : ag_N} {p : ag_P} {s : ag_S} {fu : Nat} {x1 : Int32} {out : Int32 × (ag_N × ag_S)} (t14 : vp_in 0 (n 14)) (v1 : vp_in x1 (n 4)) (hf : f_Jx4a65c_add_9ea2d_4 fu x1 n s = some out) : Met l yJx4a65c_add_9ea2d (ag_ws yJx4a65c_add_9ea2d cJx4a65c_add_9ea2d 2 ((some FieldType.boolean))) rm_Jx4a65c_add_9ea2d_4 (va_Pc [.ref (p 14 0), .ref (p 4 x1)] (ag_Pre z n p s)) (ag_Pi z n p out.1 out.2.1 out.2.2) 1 100 (ag_A z) := by
  refine Met.ofW (cc := cJx4a65c_add_9ea2d) (maxL := 2) (ret := (some FieldType.boolean)) (by decide) rfl ?_
  intro p0 e st m args below meth c s9 B hml hv
  obtain ⟨ha, h0, hG, hW⟩ := hv
  have hx := B.exec
  have hb := B.bytes
  have hr := B.returns
  have hts := atoms_spec (ws := ag_ws yJx4a65c_add_9ea2d cJx4a65c_add_9ea2d 2 ((some FieldType.boolean))) B.pre
  have hT : ∀ w ∈ ag_tbl, w.before args st = true := fun w h => hts w (List.mem_cons_of_mem _ h)
  have hown : st.vm.findClass RJx4a65c = some m.cls := findClass_of_methodNamed B.named
  have hlocks := B.notSynchronized
  have hS : va_S (ag_A z) st.heap st.heap [] := va_S.rf
  obtain ⟨ls, hls, hl⟩ : ∃ ls, entryFrame m args 2 = F0 m 0 ls [] ∧ lv_has ls 2 [(0, .ref (p 14 0)), (1, .ref (p 4 x1))] := by rw [ha]; exact ag_entry m [.ref (p 14 0), .ref (p 4 x1)] (Nat.le_of_ble_eq_true rfl)
  rw [hls]
  unfold f_Jx4a65c_add_9ea2d_4 at hf
  refine lv_aload_n hx hb dJx4a65c_add_9ea2d_0 rfl (lv_at hl 0 rfl) ?_
  refine lv_dup hx hb dJx4a65c_add_9ea2d_1 rfl ?_
  refine g14_0 hx hb hT hown hG hW t14 q49 q50 dJx4a65c_add_9ea2d_2 ?_
  refine lv_iconst (v := 1) hx hb dJx4a65c_add_9ea2d_5 (by decide) ?_
  refine lv_iadd hx hb dJx4a65c_add_9ea2d_6 ?_
  refine u14_0 hx hb hT hown hG hW hS t14 q49 (u_same (hT _ q50)) dJx4a65c_add_9ea2d_7 (fun H locs hW hS => ?_)
  refine lv_aload_n hx hb dJx4a65c_add_9ea2d_10 rfl (lv_at hl 0 rfl) ?_
  refine lv_aload_n hx hb dJx4a65c_add_9ea2d_11 rfl (lv_at hl 1 rfl) ?_
  refine lv_aload_n hx hb dJx4a65c_add_9ea2d_12 rfl (lv_at hl 0 rfl) ?_
  refine g14_1 hx hb hT hown hG hW t14 q46 dJx4a65c_add_9ea2d_13 ?_
  obtain ⟨m13, hf⟩ := ag_n hf
  have o13 := ag_lor hW (k := 14) (f := 1) (t := 24) rfl rfl m13
  refine lv_aload_n hx hb dJx4a65c_add_9ea2d_16 rfl (lv_at hl 0 rfl) ?_
  refine g14_2 hx hb hT hown hG hW t14 q47 dJx4a65c_add_9ea2d_17 ?_
  obtain ⟨r20, hg20, hf⟩ := ag_bs hf
  refine ag_aVv (C1 := 1) (S1 := 100) hx hb hml hT hown hG h0 hS hW (c_Jx4a65c_add_72be8_4 t14 v1 o13 hg20) ⟨rfl, rfl⟩ q81 q83 qs0 q4 q84 dd_yJx4a65c_add_72be8 ⟨Nat.le_of_ble_eq_true rfl, Nat.le_of_ble_eq_true rfl⟩ t14 rfl rfl hl.1 rfl (Nat.le_of_ble_eq_true rfl) ⟨Nat.le_of_ble_eq_true rfl, Nat.le_of_ble_eq_true rfl⟩ dJx4a65c_add_9ea2d_20 (Nat.le_of_ble_eq_true rfl) (Nat.le_of_ble_eq_true rfl) (fun p H locs hp20 hle20 hW hS => ?_)
  have sl20 := hle20
  have he20 := ag_ext_tr (ag_le_rf _) (ag_ext_rf _ _) hp20
  have hl20 := ag_le_tr (ag_le_rf _) sl20
  rw [← hp20 14 0 t14, ← hp20 4 x1 v1] at hl
  refine lv_iconst (v := 1) hx hb dJx4a65c_add_9ea2d_23 (by decide) ?_
  exact ag_Piret hx hb hr rfl hlocks hS hf he20 hl20 hW dJx4a65c_add_9ea2d_24
