def f_X2_standsWith (fu : Nat) (x0 : Int32) (x1 : Int32) (s : ag_S) : Option Int32 := some ((((s 2 2 x0) + x1) + (s 2 6 x0)) - (s 2 5 x0))
abbrev rm_X2_standsWith : Room := { frames := 0, cells := 0, slots := 0, locals := 0 }
theorem dd_yX2_standsWith : yX2_standsWith.cls = RX2 ∧ yX2_standsWith.cls ≠ "java/lang/invoke/MethodHandle" ∧ yX2_standsWith.cls ≠ "java/lang/invoke/VarHandle" ∧ (parseMethodDescriptor yX2_standsWith.desc).map (fun d => d.parameters.length) = some 1 := by decide +kernel
set_option maxHeartbeats 4000000 in
set_option maxRecDepth 100000 in
theorem c_X2_standsWith {z : ag_Z} {l : Launch} {n : ag_N} {p : ag_P} {s : ag_S} {fu : Nat} {x0 : Int32} {x1 : Int32} {out : Int32} (v0 : vp_in x0 (n 2)) (hf : f_X2_standsWith fu x0 x1 s = some out) : Met l yX2_standsWith (ag_ws yX2_standsWith cX2_standsWith 2 ((some FieldType.int))) rm_X2_standsWith (va_Pc [.ref (p 2 x0), .int x1] (ag_Pre z n p s)) (ag_Ri z n p out s) 0 0 (ag_A z) := by
  refine Met.ofW (cc := cX2_standsWith) (maxL := 2) (ret := (some FieldType.int)) (by decide) rfl ?_
  intro p0 e st m args below meth c s9 B hml hv
  obtain ⟨ha, h0, hG, hW⟩ := hv
  have hx := B.exec
  have hb := B.bytes
  have hr := B.returns
  have hts := atoms_spec (ws := ag_ws yX2_standsWith cX2_standsWith 2 ((some FieldType.int))) B.pre
  have hT : ∀ w ∈ ag_tbl, w.before args st = true := fun w h => hts w (List.mem_cons_of_mem _ h)
  have hown : st.vm.findClass RX2 = some m.cls := findClass_of_methodNamed B.named
  have hlocks := B.notSynchronized
  have hS : va_S (ag_A z) st.heap st.heap [] := va_S.rf
  obtain ⟨ls, hls, hl⟩ : ∃ ls, entryFrame m args 2 = F0 m 0 ls [] ∧ lv_has ls 2 [(0, .ref (p 2 x0)), (1, .int x1)] := by rw [ha]; exact ag_entry m [.ref (p 2 x0), .int x1] (Nat.le_of_ble_eq_true rfl)
  rw [hls]
  unfold f_X2_standsWith at hf
  refine lv_aload_n hx hb dX2_standsWith_0 rfl (lv_at hl 0 rfl) ?_
  refine g2_2 hx hb hT hown hG hW v0 q310 dX2_standsWith_1 ?_
  refine lv_iload_n hx hb dX2_standsWith_4 rfl (lv_at hl 1 rfl) ?_
  refine lv_iadd hx hb dX2_standsWith_5 ?_
  refine lv_aload_n hx hb dX2_standsWith_6 rfl (lv_at hl 0 rfl) ?_
  refine g2_6 hx hb hT hown hG hW v0 q318 dX2_standsWith_7 ?_
  refine lv_iadd hx hb dX2_standsWith_10 ?_
  refine lv_aload_n hx hb dX2_standsWith_11 rfl (lv_at hl 0 rfl) ?_
  refine g2_5 hx hb hT hown hG hW v0 q316 dX2_standsWith_12 ?_
  refine lv_isub hx hb dX2_standsWith_15 ?_
  exact ag_iret hx hb hr rfl hlocks hS (Option.some.inj hf) hW dX2_standsWith_16
def f_X2_stands (fu : Nat) (x0 : Int32) (s : ag_S) : Option Int32 := ag_bd (f_X2_standsWith fu x0 (s 2 3 x0) s) fun r5 => some r5
abbrev rm_X2_stands : Room := { frames := 1, cells := 0, slots := 0, locals := 21 }
theorem dd_yX2_stands : yX2_stands.cls = RX2 ∧ yX2_stands.cls ≠ "java/lang/invoke/MethodHandle" ∧ yX2_stands.cls ≠ "java/lang/invoke/VarHandle" ∧ (parseMethodDescriptor yX2_stands.desc).map (fun d => d.parameters.length) = some 0 := by decide +kernel
set_option maxHeartbeats 4000000 in
set_option maxRecDepth 100000 in
theorem c_X2_stands {z : ag_Z} {l : Launch} {n : ag_N} {p : ag_P} {s : ag_S} {fu : Nat} {x0 : Int32} {out : Int32} (v0 : vp_in x0 (n 2)) (hf : f_X2_stands fu x0 s = some out) : Met l yX2_stands (ag_ws yX2_stands cX2_stands 1 ((some FieldType.int))) rm_X2_stands (va_Pc [.ref (p 2 x0)] (ag_Pre z n p s)) (ag_Ri z n p out s) 0 0 (ag_A z) := by
  refine Met.ofW (cc := cX2_stands) (maxL := 1) (ret := (some FieldType.int)) (by decide) rfl ?_
  intro p0 e st m args below meth c s9 B hml hv
  obtain ⟨ha, h0, hG, hW⟩ := hv
  have hx := B.exec
  have hb := B.bytes
  have hr := B.returns
  have hts := atoms_spec (ws := ag_ws yX2_stands cX2_stands 1 ((some FieldType.int))) B.pre
  have hT : ∀ w ∈ ag_tbl, w.before args st = true := fun w h => hts w (List.mem_cons_of_mem _ h)
  have hown : st.vm.findClass RX2 = some m.cls := findClass_of_methodNamed B.named
  have hlocks := B.notSynchronized
  have hS : va_S (ag_A z) st.heap st.heap [] := va_S.rf
  obtain ⟨ls, hls, hl⟩ : ∃ ls, entryFrame m args 1 = F0 m 0 ls [] ∧ lv_has ls 1 [(0, .ref (p 2 x0))] := by rw [ha]; exact ag_entry m [.ref (p 2 x0)] (Nat.le_of_ble_eq_true rfl)
  rw [hls]
  unfold f_X2_stands at hf
  refine lv_aload_n hx hb dX2_stands_0 rfl (lv_at hl 0 rfl) ?_
  refine lv_aload_n hx hb dX2_stands_1 rfl (lv_at hl 0 rfl) ?_
  refine g2_3 hx hb hT hown hG hW v0 q311 dX2_stands_2 ?_
  obtain ⟨r5, hg5, hf⟩ := ag_bs hf
  refine ag_cVi hx hb hml hT hown hG h0 hS hW (c_X2_standsWith v0 hg5) ⟨rfl, rfl⟩ q513 q514 q515 q19 q516 dd_yX2_standsWith ⟨Nat.le_of_ble_eq_true rfl, Nat.le_of_ble_eq_true rfl⟩ v0 rfl rfl hl.1 rfl (Nat.le_of_ble_eq_true rfl) ⟨Nat.le_of_ble_eq_true rfl, Nat.le_of_ble_eq_true rfl⟩ dX2_stands_5 (fun H locs hW hS => ?_)
  exact ag_iret hx hb hr rfl hlocks hS (Option.some.inj hf) hW dX2_stands_8
def f_X4_unpaid (fu : Nat) (x0 : Int32) (s : ag_S) : Option Int32 := some ((s 0 1 x0) - (s 0 2 x0))
abbrev rm_X4_unpaid : Room := { frames := 0, cells := 0, slots := 0, locals := 0 }
theorem dd_yX4_unpaid : yX4_unpaid.cls = RX4 ∧ yX4_unpaid.cls ≠ "java/lang/invoke/MethodHandle" ∧ yX4_unpaid.cls ≠ "java/lang/invoke/VarHandle" ∧ (parseMethodDescriptor yX4_unpaid.desc).map (fun d => d.parameters.length) = some 0 := by decide +kernel
set_option maxHeartbeats 4000000 in
set_option maxRecDepth 100000 in
theorem c_X4_unpaid {z : ag_Z} {l : Launch} {n : ag_N} {p : ag_P} {s : ag_S} {fu : Nat} {x0 : Int32} {out : Int32} (v0 : vp_in x0 (n 0)) (hf : f_X4_unpaid fu x0 s = some out) : Met l yX4_unpaid (ag_ws yX4_unpaid cX4_unpaid 1 ((some FieldType.int))) rm_X4_unpaid (va_Pc [.ref (p 0 x0)] (ag_Pre z n p s)) (ag_Ri z n p out s) 0 0 (ag_A z) := by
  refine Met.ofW (cc := cX4_unpaid) (maxL := 1) (ret := (some FieldType.int)) (by decide) rfl ?_
  intro p0 e st m args below meth c s9 B hml hv
  obtain ⟨ha, h0, hG, hW⟩ := hv
  have hx := B.exec
  have hb := B.bytes
  have hr := B.returns
  have hts := atoms_spec (ws := ag_ws yX4_unpaid cX4_unpaid 1 ((some FieldType.int))) B.pre
  have hT : ∀ w ∈ ag_tbl, w.before args st = true := fun w h => hts w (List.mem_cons_of_mem _ h)
  have hown : st.vm.findClass RX4 = some m.cls := findClass_of_methodNamed B.named
  have hlocks := B.notSynchronized
  have hS : va_S (ag_A z) st.heap st.heap [] := va_S.rf
  obtain ⟨ls, hls, hl⟩ : ∃ ls, entryFrame m args 1 = F0 m 0 ls [] ∧ lv_has ls 1 [(0, .ref (p 0 x0))] := by rw [ha]; exact ag_entry m [.ref (p 0 x0)] (Nat.le_of_ble_eq_true rfl)
  rw [hls]
  unfold f_X4_unpaid at hf
  refine lv_aload_n hx hb dX4_unpaid_0 rfl (lv_at hl 0 rfl) ?_
  refine g0_1 hx hb hT hown hG hW v0 q66 dX4_unpaid_1 ?_
  refine lv_aload_n hx hb dX4_unpaid_4 rfl (lv_at hl 0 rfl) ?_
  refine g0_2 hx hb hT hown hG hW v0 q68 dX4_unpaid_5 ?_
  refine lv_isub hx hb dX4_unpaid_8 ?_
  exact ag_iret hx hb hr rfl hlocks hS (Option.some.inj hf) hW dX4_unpaid_9
def f_J6_bitCount_0f7a4 (fu : Nat) (x0 : Int32) (s : ag_S) : Option Int32 := some ((((((((x0 - (((x0.toUInt32 >>> ((1 : Int32).toUInt32 &&& Int32.toUInt32 31)).toInt32) &&& 1431655765)) &&& 858993459) + ((((x0 - (((x0.toUInt32 >>> ((1 : Int32).toUInt32 &&& Int32.toUInt32 31)).toInt32) &&& 1431655765)).toUInt32 >>> ((2 : Int32).toUInt32 &&& Int32.toUInt32 31)).toInt32) &&& 858993459)) + (((((x0 - (((x0.toUInt32 >>> ((1 : Int32).toUInt32 &&& Int32.toUInt32 31)).toInt32) &&& 1431655765)) &&& 858993459) + ((((x0 - (((x0.toUInt32 >>> ((1 : Int32).toUInt32 &&& Int32.toUInt32 31)).toInt32) &&& 1431655765)).toUInt32 >>> ((2 : Int32).toUInt32 &&& Int32.toUInt32 31)).toInt32) &&& 858993459)).toUInt32 >>> ((4 : Int32).toUInt32 &&& Int32.toUInt32 31)).toInt32)) &&& 252645135) + (((((((x0 - (((x0.toUInt32 >>> ((1 : Int32).toUInt32 &&& Int32.toUInt32 31)).toInt32) &&& 1431655765)) &&& 858993459) + ((((x0 - (((x0.toUInt32 >>> ((1 : Int32).toUInt32 &&& Int32.toUInt32 31)).toInt32) &&& 1431655765)).toUInt32 >>> ((2 : Int32).toUInt32 &&& Int32.toUInt32 31)).toInt32) &&& 858993459)) + (((((x0 - (((x0.toUInt32 >>> ((1 : Int32).toUInt32 &&& Int32.toUInt32 31)).toInt32) &&& 1431655765)) &&& 858993459) + ((((x0 - (((x0.toUInt32 >>> ((1 : Int32).toUInt32 &&& Int32.toUInt32 31)).toInt32) &&& 1431655765)).toUInt32 >>> ((2 : Int32).toUInt32 &&& Int32.toUInt32 31)).toInt32) &&& 858993459)).toUInt32 >>> ((4 : Int32).toUInt32 &&& Int32.toUInt32 31)).toInt32)) &&& 252645135).toUInt32 >>> ((8 : Int32).toUInt32 &&& Int32.toUInt32 31)).toInt32)) + ((((((((x0 - (((x0.toUInt32 >>> ((1 : Int32).toUInt32 &&& Int32.toUInt32 31)).toInt32) &&& 1431655765)) &&& 858993459) + ((((x0 - (((x0.toUInt32 >>> ((1 : Int32).toUInt32 &&& Int32.toUInt32 31)).toInt32) &&& 1431655765)).toUInt32 >>> ((2 : Int32).toUInt32 &&& Int32.toUInt32 31)).toInt32) &&& 858993459)) + (((((x0 - (((x0.toUInt32 >>> ((1 : Int32).toUInt32 &&& Int32.toUInt32 31)).toInt32) &&& 1431655765)) &&& 858993459) + ((((x0 - (((x0.toUInt32 >>> ((1 : Int32).toUInt32 &&& Int32.toUInt32 31)).toInt32) &&& 1431655765)).toUInt32 >>> ((2 : Int32).toUInt32 &&& Int32.toUInt32 31)).toInt32) &&& 858993459)).toUInt32 >>> ((4 : Int32).toUInt32 &&& Int32.toUInt32 31)).toInt32)) &&& 252645135) + (((((((x0 - (((x0.toUInt32 >>> ((1 : Int32).toUInt32 &&& Int32.toUInt32 31)).toInt32) &&& 1431655765)) &&& 858993459) + ((((x0 - (((x0.toUInt32 >>> ((1 : Int32).toUInt32 &&& Int32.toUInt32 31)).toInt32) &&& 1431655765)).toUInt32 >>> ((2 : Int32).toUInt32 &&& Int32.toUInt32 31)).toInt32) &&& 858993459)) + (((((x0 - (((x0.toUInt32 >>> ((1 : Int32).toUInt32 &&& Int32.toUInt32 31)).toInt32) &&& 1431655765)) &&& 858993459) + ((((x0 - (((x0.toUInt32 >>> ((1 : Int32).toUInt32 &&& Int32.toUInt32 31)).toInt32) &&& 1431655765)).toUInt32 >>> ((2 : Int32).toUInt32 &&& Int32.toUInt32 31)).toInt32) &&& 858993459)).toUInt32 >>> ((4 : Int32).toUInt32 &&& Int32.toUInt32 31)).toInt32)) &&& 252645135).toUInt32 >>> ((8 : Int32).toUInt32 &&& Int32.toUInt32 31)).toInt32)).toUInt32 >>> ((16 : Int32).toUInt32 &&& Int32.toUInt32 31)).toInt32)) &&& 63)
abbrev rm_J6_bitCount_0f7a4 : Room := { frames := 0, cells := 0, slots := 0, locals := 0 }
theorem dd_yJ6_bitCount_0f7a4 : yJ6_bitCount_0f7a4.cls ≠ "java/lang/invoke/MethodHandle" ∧ yJ6_bitCount_0f7a4.cls ≠ "java/lang/invoke/VarHandle" ∧ (parseMethodDescriptor yJ6_bitCount_0f7a4.desc).map (fun d => d.parameters.length) = some 1 := by decide +kernel
set_option maxHeartbeats 4000000 in
set_option maxRecDepth 100000 in
theorem c_J6_bitCount_0f7a4 {z : ag_Z} {l : Launch} {n : ag_N} {p : ag_P} {s : ag_S} {fu : Nat} {x0 : Int32} {out : Int32}  (hf : f_J6_bitCount_0f7a4 fu x0 s = some out) : Met l yJ6_bitCount_0f7a4 (ag_ws yJ6_bitCount_0f7a4 cJ6_bitCount_0f7a4 1 ((some FieldType.int))) rm_J6_bitCount_0f7a4 (va_Pc [.int x0] (ag_Pre z n p s)) (ag_Ri z n p out s) 0 0 (ag_A z) := by
  refine Met.ofW (cc := cJ6_bitCount_0f7a4) (maxL := 1) (ret := (some FieldType.int)) (by decide) rfl ?_
  intro p0 e st m args below meth c s9 B hml hv
  obtain ⟨ha, h0, hG, hW⟩ := hv
  have hx := B.exec
  have hb := B.bytes
  have hr := B.returns
  have hts := atoms_spec (ws := ag_ws yJ6_bitCount_0f7a4 cJ6_bitCount_0f7a4 1 ((some FieldType.int))) B.pre
  have hT : ∀ w ∈ ag_tbl, w.before args st = true := fun w h => hts w (List.mem_cons_of_mem _ h)
  have hown : st.vm.findClass RJ6 = some m.cls := findClass_of_methodNamed B.named
  have hlocks := B.notSynchronized
  have hS : va_S (ag_A z) st.heap st.heap [] := va_S.rf
  obtain ⟨ls, hls, hl⟩ : ∃ ls, entryFrame m args 1 = F0 m 0 ls [] ∧ lv_has ls 1 [(0, .int x0)] := by rw [ha]; exact ag_entry m [.int x0] (Nat.le_of_ble_eq_true rfl)
  rw [hls]
  unfold f_J6_bitCount_0f7a4 at hf
  refine lv_iload_n hx hb dJ6_bitCount_0f7a4_0 rfl (lv_at hl 0 rfl) ?_
  refine lv_iload_n hx hb dJ6_bitCount_0f7a4_1 rfl (lv_at hl 0 rfl) ?_
  refine lv_iconst (v := 1) hx hb dJ6_bitCount_0f7a4_2 (by decide) ?_
  refine lv_iushr (v := (x0.toUInt32 >>> ((1 : Int32).toUInt32 &&& Int32.toUInt32 31)).toInt32) hx hb dJ6_bitCount_0f7a4_3 rfl ?_
  refine lv_ldcw (v := 1431655765) hx hb hown (hT _ q466) dJ6_bitCount_0f7a4_4 ?_
  refine lv_iand hx hb dJ6_bitCount_0f7a4_7 ?_
  refine lv_isub hx hb dJ6_bitCount_0f7a4_8 ?_
  refine lv_istore_n (lv' := [(0, .int (x0 - (((x0.toUInt32 >>> ((1 : Int32).toUInt32 &&& Int32.toUInt32 31)).toInt32) &&& 1431655765)))]) hx hb dJ6_bitCount_0f7a4_9 rfl hl (by decide) rfl (fun ls hl => ?_)
  refine lv_iload_n hx hb dJ6_bitCount_0f7a4_10 rfl (lv_at hl 0 rfl) ?_
  refine lv_ldcw (v := 858993459) hx hb hown (hT _ q467) dJ6_bitCount_0f7a4_11 ?_
  refine lv_iand hx hb dJ6_bitCount_0f7a4_14 ?_
  refine lv_iload_n hx hb dJ6_bitCount_0f7a4_15 rfl (lv_at hl 0 rfl) ?_
  refine lv_iconst (v := 2) hx hb dJ6_bitCount_0f7a4_16 (by decide) ?_
  refine lv_iushr (v := ((x0 - (((x0.toUInt32 >>> ((1 : Int32).toUInt32 &&& Int32.toUInt32 31)).toInt32) &&& 1431655765)).toUInt32 >>> ((2 : Int32).toUInt32 &&& Int32.toUInt32 31)).toInt32) hx hb dJ6_bitCount_0f7a4_17 rfl ?_
  refine lv_ldcw (v := 858993459) hx hb hown (hT _ q467) dJ6_bitCount_0f7a4_18 ?_
  refine lv_iand hx hb dJ6_bitCount_0f7a4_21 ?_
  refine lv_iadd hx hb dJ6_bitCount_0f7a4_22 ?_
  refine lv_istore_n (lv' := [(0, .int (((x0 - (((x0.toUInt32 >>> ((1 : Int32).toUInt32 &&& Int32.toUInt32 31)).toInt32) &&& 1431655765)) &&& 858993459) + ((((x0 - (((x0.toUInt32 >>> ((1 : Int32).toUInt32 &&& Int32.toUInt32 31)).toInt32) &&& 1431655765)).toUInt32 >>> ((2 : Int32).toUInt32 &&& Int32.toUInt32 31)).toInt32) &&& 858993459)))]) hx hb dJ6_bitCount_0f7a4_23 rfl hl (by decide) rfl (fun ls hl => ?_)
  refine lv_iload_n hx hb dJ6_bitCount_0f7a4_24 rfl (lv_at hl 0 rfl) ?_
  refine lv_iload_n hx hb dJ6_bitCount_0f7a4_25 rfl (lv_at hl 0 rfl) ?_
  refine lv_iconst (v := 4) hx hb dJ6_bitCount_0f7a4_26 (by decide) ?_
  refine lv_iushr (v := ((((x0 - (((x0.toUInt32 >>> ((1 : Int32).toUInt32 &&& Int32.toUInt32 31)).toInt32) &&& 1431655765)) &&& 858993459) + ((((x0 - (((x0.toUInt32 >>> ((1 : Int32).toUInt32 &&& Int32.toUInt32 31)).toInt32) &&& 1431655765)).toUInt32 >>> ((2 : Int32).toUInt32 &&& Int32.toUInt32 31)).toInt32) &&& 858993459)).toUInt32 >>> ((4 : Int32).toUInt32 &&& Int32.toUInt32 31)).toInt32) hx hb dJ6_bitCount_0f7a4_27 rfl ?_
  refine lv_iadd hx hb dJ6_bitCount_0f7a4_28 ?_
  refine lv_ldcw (v := 252645135) hx hb hown (hT _ q468) dJ6_bitCount_0f7a4_29 ?_
  refine lv_iand hx hb dJ6_bitCount_0f7a4_32 ?_
  refine lv_istore_n (lv' := [(0, .int (((((x0 - (((x0.toUInt32 >>> ((1 : Int32).toUInt32 &&& Int32.toUInt32 31)).toInt32) &&& 1431655765)) &&& 858993459) + ((((x0 - (((x0.toUInt32 >>> ((1 : Int32).toUInt32 &&& Int32.toUInt32 31)).toInt32) &&& 1431655765)).toUInt32 >>> ((2 : Int32).toUInt32 &&& Int32.toUInt32 31)).toInt32) &&& 858993459)) + (((((x0 - (((x0.toUInt32 >>> ((1 : Int32).toUInt32 &&& Int32.toUInt32 31)).toInt32) &&& 1431655765)) &&& 858993459) + ((((x0 - (((x0.toUInt32 >>> ((1 : Int32).toUInt32 &&& Int32.toUInt32 31)).toInt32) &&& 1431655765)).toUInt32 >>> ((2 : Int32).toUInt32 &&& Int32.toUInt32 31)).toInt32) &&& 858993459)).toUInt32 >>> ((4 : Int32).toUInt32 &&& Int32.toUInt32 31)).toInt32)) &&& 252645135))]) hx hb dJ6_bitCount_0f7a4_33 rfl hl (by decide) rfl (fun ls hl => ?_)
  refine lv_iload_n hx hb dJ6_bitCount_0f7a4_34 rfl (lv_at hl 0 rfl) ?_
  refine lv_iload_n hx hb dJ6_bitCount_0f7a4_35 rfl (lv_at hl 0 rfl) ?_
  refine lv_bipush (v := 8) hx hb dJ6_bitCount_0f7a4_36 (by decide) ?_
  refine lv_iushr (v := ((((((x0 - (((x0.toUInt32 >>> ((1 : Int32).toUInt32 &&& Int32.toUInt32 31)).toInt32) &&& 1431655765)) &&& 858993459) + ((((x0 - (((x0.toUInt32 >>> ((1 : Int32).toUInt32 &&& Int32.toUInt32 31)).toInt32) &&& 1431655765)).toUInt32 >>> ((2 : Int32).toUInt32 &&& Int32.toUInt32 31)).toInt32) &&& 858993459)) + (((((x0 - (((x0.toUInt32 >>> ((1 : Int32).toUInt32 &&& Int32.toUInt32 31)).toInt32) &&& 1431655765)) &&& 858993459) + ((((x0 - (((x0.toUInt32 >>> ((1 : Int32).toUInt32 &&& Int32.toUInt32 31)).toInt32) &&& 1431655765)).toUInt32 >>> ((2 : Int32).toUInt32 &&& Int32.toUInt32 31)).toInt32) &&& 858993459)).toUInt32 >>> ((4 : Int32).toUInt32 &&& Int32.toUInt32 31)).toInt32)) &&& 252645135).toUInt32 >>> ((8 : Int32).toUInt32 &&& Int32.toUInt32 31)).toInt32) hx hb dJ6_bitCount_0f7a4_38 rfl ?_
  refine lv_iadd hx hb dJ6_bitCount_0f7a4_39 ?_
  refine lv_istore_n (lv' := [(0, .int ((((((x0 - (((x0.toUInt32 >>> ((1 : Int32).toUInt32 &&& Int32.toUInt32 31)).toInt32) &&& 1431655765)) &&& 858993459) + ((((x0 - (((x0.toUInt32 >>> ((1 : Int32).toUInt32 &&& Int32.toUInt32 31)).toInt32) &&& 1431655765)).toUInt32 >>> ((2 : Int32).toUInt32 &&& Int32.toUInt32 31)).toInt32) &&& 858993459)) + (((((x0 - (((x0.toUInt32 >>> ((1 : Int32).toUInt32 &&& Int32.toUInt32 31)).toInt32) &&& 1431655765)) &&& 858993459) + ((((x0 - (((x0.toUInt32 >>> ((1 : Int32).toUInt32 &&& Int32.toUInt32 31)).toInt32) &&& 1431655765)).toUInt32 >>> ((2 : Int32).toUInt32 &&& Int32.toUInt32 31)).toInt32) &&& 858993459)).toUInt32 >>> ((4 : Int32).toUInt32 &&& Int32.toUInt32 31)).toInt32)) &&& 252645135) + (((((((x0 - (((x0.toUInt32 >>> ((1 : Int32).toUInt32 &&& Int32.toUInt32 31)).toInt32) &&& 1431655765)) &&& 858993459) + ((((x0 - (((x0.toUInt32 >>> ((1 : Int32).toUInt32 &&& Int32.toUInt32 31)).toInt32) &&& 1431655765)).toUInt32 >>> ((2 : Int32).toUInt32 &&& Int32.toUInt32 31)).toInt32) &&& 858993459)) + (((((x0 - (((x0.toUInt32 >>> ((1 : Int32).toUInt32 &&& Int32.toUInt32 31)).toInt32) &&& 1431655765)) &&& 858993459) + ((((x0 - (((x0.toUInt32 >>> ((1 : Int32).toUInt32 &&& Int32.toUInt32 31)).toInt32) &&& 1431655765)).toUInt32 >>> ((2 : Int32).toUInt32 &&& Int32.toUInt32 31)).toInt32) &&& 858993459)).toUInt32 >>> ((4 : Int32).toUInt32 &&& Int32.toUInt32 31)).toInt32)) &&& 252645135).toUInt32 >>> ((8 : Int32).toUInt32 &&& Int32.toUInt32 31)).toInt32)))]) hx hb dJ6_bitCount_0f7a4_40 rfl hl (by decide) rfl (fun ls hl => ?_)
  refine lv_iload_n hx hb dJ6_bitCount_0f7a4_41 rfl (lv_at hl 0 rfl) ?_
  refine lv_iload_n hx hb dJ6_bitCount_0f7a4_42 rfl (lv_at hl 0 rfl) ?_
  refine lv_bipush (v := 16) hx hb dJ6_bitCount_0f7a4_43 (by decide) ?_
  refine lv_iushr (v := (((((((x0 - (((x0.toUInt32 >>> ((1 : Int32).toUInt32 &&& Int32.toUInt32 31)).toInt32) &&& 1431655765)) &&& 858993459) + ((((x0 - (((x0.toUInt32 >>> ((1 : Int32).toUInt32 &&& Int32.toUInt32 31)).toInt32) &&& 1431655765)).toUInt32 >>> ((2 : Int32).toUInt32 &&& Int32.toUInt32 31)).toInt32) &&& 858993459)) + (((((x0 - (((x0.toUInt32 >>> ((1 : Int32).toUInt32 &&& Int32.toUInt32 31)).toInt32) &&& 1431655765)) &&& 858993459) + ((((x0 - (((x0.toUInt32 >>> ((1 : Int32).toUInt32 &&& Int32.toUInt32 31)).toInt32) &&& 1431655765)).toUInt32 >>> ((2 : Int32).toUInt32 &&& Int32.toUInt32 31)).toInt32) &&& 858993459)).toUInt32 >>> ((4 : Int32).toUInt32 &&& Int32.toUInt32 31)).toInt32)) &&& 252645135) + (((((((x0 - (((x0.toUInt32 >>> ((1 : Int32).toUInt32 &&& Int32.toUInt32 31)).toInt32) &&& 1431655765)) &&& 858993459) + ((((x0 - (((x0.toUInt32 >>> ((1 : Int32).toUInt32 &&& Int32.toUInt32 31)).toInt32) &&& 1431655765)).toUInt32 >>> ((2 : Int32).toUInt32 &&& Int32.toUInt32 31)).toInt32) &&& 858993459)) + (((((x0 - (((x0.toUInt32 >>> ((1 : Int32).toUInt32 &&& Int32.toUInt32 31)).toInt32) &&& 1431655765)) &&& 858993459) + ((((x0 - (((x0.toUInt32 >>> ((1 : Int32).toUInt32 &&& Int32.toUInt32 31)).toInt32) &&& 1431655765)).toUInt32 >>> ((2 : Int32).toUInt32 &&& Int32.toUInt32 31)).toInt32) &&& 858993459)).toUInt32 >>> ((4 : Int32).toUInt32 &&& Int32.toUInt32 31)).toInt32)) &&& 252645135).toUInt32 >>> ((8 : Int32).toUInt32 &&& Int32.toUInt32 31)).toInt32)).toUInt32 >>> ((16 : Int32).toUInt32 &&& Int32.toUInt32 31)).toInt32) hx hb dJ6_bitCount_0f7a4_45 rfl ?_
  refine lv_iadd hx hb dJ6_bitCount_0f7a4_46 ?_
  refine lv_istore_n (lv' := [(0, .int (((((((x0 - (((x0.toUInt32 >>> ((1 : Int32).toUInt32 &&& Int32.toUInt32 31)).toInt32) &&& 1431655765)) &&& 858993459) + ((((x0 - (((x0.toUInt32 >>> ((1 : Int32).toUInt32 &&& Int32.toUInt32 31)).toInt32) &&& 1431655765)).toUInt32 >>> ((2 : Int32).toUInt32 &&& Int32.toUInt32 31)).toInt32) &&& 858993459)) + (((((x0 - (((x0.toUInt32 >>> ((1 : Int32).toUInt32 &&& Int32.toUInt32 31)).toInt32) &&& 1431655765)) &&& 858993459) + ((((x0 - (((x0.toUInt32 >>> ((1 : Int32).toUInt32 &&& Int32.toUInt32 31)).toInt32) &&& 1431655765)).toUInt32 >>> ((2 : Int32).toUInt32 &&& Int32.toUInt32 31)).toInt32) &&& 858993459)).toUInt32 >>> ((4 : Int32).toUInt32 &&& Int32.toUInt32 31)).toInt32)) &&& 252645135) + (((((((x0 - (((x0.toUInt32 >>> ((1 : Int32).toUInt32 &&& Int32.toUInt32 31)).toInt32) &&& 1431655765)) &&& 858993459) + ((((x0 - (((x0.toUInt32 >>> ((1 : Int32).toUInt32 &&& Int32.toUInt32 31)).toInt32) &&& 1431655765)).toUInt32 >>> ((2 : Int32).toUInt32 &&& Int32.toUInt32 31)).toInt32) &&& 858993459)) + (((((x0 - (((x0.toUInt32 >>> ((1 : Int32).toUInt32 &&& Int32.toUInt32 31)).toInt32) &&& 1431655765)) &&& 858993459) + ((((x0 - (((x0.toUInt32 >>> ((1 : Int32).toUInt32 &&& Int32.toUInt32 31)).toInt32) &&& 1431655765)).toUInt32 >>> ((2 : Int32).toUInt32 &&& Int32.toUInt32 31)).toInt32) &&& 858993459)).toUInt32 >>> ((4 : Int32).toUInt32 &&& Int32.toUInt32 31)).toInt32)) &&& 252645135).toUInt32 >>> ((8 : Int32).toUInt32 &&& Int32.toUInt32 31)).toInt32)) + ((((((((x0 - (((x0.toUInt32 >>> ((1 : Int32).toUInt32 &&& Int32.toUInt32 31)).toInt32) &&& 1431655765)) &&& 858993459) + ((((x0 - (((x0.toUInt32 >>> ((1 : Int32).toUInt32 &&& Int32.toUInt32 31)).toInt32) &&& 1431655765)).toUInt32 >>> ((2 : Int32).toUInt32 &&& Int32.toUInt32 31)).toInt32) &&& 858993459)) + (((((x0 - (((x0.toUInt32 >>> ((1 : Int32).toUInt32 &&& Int32.toUInt32 31)).toInt32) &&& 1431655765)) &&& 858993459) + ((((x0 - (((x0.toUInt32 >>> ((1 : Int32).toUInt32 &&& Int32.toUInt32 31)).toInt32) &&& 1431655765)).toUInt32 >>> ((2 : Int32).toUInt32 &&& Int32.toUInt32 31)).toInt32) &&& 858993459)).toUInt32 >>> ((4 : Int32).toUInt32 &&& Int32.toUInt32 31)).toInt32)) &&& 252645135) + (((((((x0 - (((x0.toUInt32 >>> ((1 : Int32).toUInt32 &&& Int32.toUInt32 31)).toInt32) &&& 1431655765)) &&& 858993459) + ((((x0 - (((x0.toUInt32 >>> ((1 : Int32).toUInt32 &&& Int32.toUInt32 31)).toInt32) &&& 1431655765)).toUInt32 >>> ((2 : Int32).toUInt32 &&& Int32.toUInt32 31)).toInt32) &&& 858993459)) + (((((x0 - (((x0.toUInt32 >>> ((1 : Int32).toUInt32 &&& Int32.toUInt32 31)).toInt32) &&& 1431655765)) &&& 858993459) + ((((x0 - (((x0.toUInt32 >>> ((1 : Int32).toUInt32 &&& Int32.toUInt32 31)).toInt32) &&& 1431655765)).toUInt32 >>> ((2 : Int32).toUInt32 &&& Int32.toUInt32 31)).toInt32) &&& 858993459)).toUInt32 >>> ((4 : Int32).toUInt32 &&& Int32.toUInt32 31)).toInt32)) &&& 252645135).toUInt32 >>> ((8 : Int32).toUInt32 &&& Int32.toUInt32 31)).toInt32)).toUInt32 >>> ((16 : Int32).toUInt32 &&& Int32.toUInt32 31)).toInt32)))]) hx hb dJ6_bitCount_0f7a4_47 rfl hl (by decide) rfl (fun ls hl => ?_)
  refine lv_iload_n hx hb dJ6_bitCount_0f7a4_48 rfl (lv_at hl 0 rfl) ?_
  refine lv_bipush (v := 63) hx hb dJ6_bitCount_0f7a4_49 (by decide) ?_
  refine lv_iand hx hb dJ6_bitCount_0f7a4_51 ?_
  exact ag_iret hx hb hr rfl hlocks hS (Option.some.inj hf) hW dJ6_bitCount_0f7a4_52
def f_X0_votesFor (fu : Nat) (x0 : Int32) (s : ag_S) : Option Int32 := ag_bd (f_J6_bitCount_0f7a4 fu (s 3 8 x0) s) fun r4 => some r4
abbrev rm_X0_votesFor : Room := { frames := 1, cells := 0, slots := 0, locals := 20 }
theorem dd_yX0_votesFor : yX0_votesFor.cls = RX0 ∧ yX0_votesFor.cls ≠ "java/lang/invoke/MethodHandle" ∧ yX0_votesFor.cls ≠ "java/lang/invoke/VarHandle" ∧ (parseMethodDescriptor yX0_votesFor.desc).map (fun d => d.parameters.length) = some 0 := by decide +kernel
set_option maxHeartbeats 4000000 in
set_option maxRecDepth 100000 in
theorem c_X0_votesFor {z : ag_Z} {l : Launch} {n : ag_N} {p : ag_P} {s : ag_S} {fu : Nat} {x0 : Int32} {out : Int32} (v0 : vp_in x0 (n 3)) (hf : f_X0_votesFor fu x0 s = some out) : Met l yX0_votesFor (ag_ws yX0_votesFor cX0_votesFor 1 ((some FieldType.int))) rm_X0_votesFor (va_Pc [.ref (p 3 x0)] (ag_Pre z n p s)) (ag_Ri z n p out s) 0 0 (ag_A z) := by
  refine Met.ofW (cc := cX0_votesFor) (maxL := 1) (ret := (some FieldType.int)) (by decide) rfl ?_
  intro p0 e st m args below meth c s9 B hml hv
  obtain ⟨ha, h0, hG, hW⟩ := hv
  have hx := B.exec
  have hb := B.bytes
  have hr := B.returns
  have hts := atoms_spec (ws := ag_ws yX0_votesFor cX0_votesFor 1 ((some FieldType.int))) B.pre
  have hT : ∀ w ∈ ag_tbl, w.before args st = true := fun w h => hts w (List.mem_cons_of_mem _ h)
  have hown : st.vm.findClass RX0 = some m.cls := findClass_of_methodNamed B.named
  have hlocks := B.notSynchronized
  have hS : va_S (ag_A z) st.heap st.heap [] := va_S.rf
  obtain ⟨ls, hls, hl⟩ : ∃ ls, entryFrame m args 1 = F0 m 0 ls [] ∧ lv_has ls 1 [(0, .ref (p 3 x0))] := by rw [ha]; exact ag_entry m [.ref (p 3 x0)] (Nat.le_of_ble_eq_true rfl)
  rw [hls]
  unfold f_X0_votesFor at hf
  refine lv_aload_n hx hb dX0_votesFor_0 rfl (lv_at hl 0 rfl) ?_
  refine g3_8 hx hb hT hown hG hW v0 q408 dX0_votesFor_1 ?_
  obtain ⟨r4, hg4, hf⟩ := ag_bs hf
  refine ag_cSi hx hb hml hT hown hG h0 hS hW (c_J6_bitCount_0f7a4 hg4) ⟨rfl, rfl⟩ q463 q464 q22 q465 dd_yJ6_bitCount_0f7a4 ⟨Nat.le_of_ble_eq_true rfl, Nat.le_of_ble_eq_true rfl⟩ hl.1 rfl (Nat.le_of_ble_eq_true rfl) ⟨Nat.le_of_ble_eq_true rfl, Nat.le_of_ble_eq_true rfl⟩ dX0_votesFor_4 (fun H locs hW hS => ?_)
  exact ag_iret hx hb hr rfl hlocks hS (Option.some.inj hf) hW dX0_votesFor_7
def f_X0_votesAgainst (fu : Nat) (x0 : Int32) (s : ag_S) : Option Int32 := ag_bd (f_J6_bitCount_0f7a4 fu (s 3 9 x0) s) fun r4 => some r4
abbrev rm_X0_votesAgainst : Room := { frames := 1, cells := 0, slots := 0, locals := 20 }
theorem dd_yX0_votesAgainst : yX0_votesAgainst.cls = RX0 ∧ yX0_votesAgainst.cls ≠ "java/lang/invoke/MethodHandle" ∧ yX0_votesAgainst.cls ≠ "java/lang/invoke/VarHandle" ∧ (parseMethodDescriptor yX0_votesAgainst.desc).map (fun d => d.parameters.length) = some 0 := by decide +kernel
set_option maxHeartbeats 4000000 in
set_option maxRecDepth 100000 in
theorem c_X0_votesAgainst {z : ag_Z} {l : Launch} {n : ag_N} {p : ag_P} {s : ag_S} {fu : Nat} {x0 : Int32} {out : Int32} (v0 : vp_in x0 (n 3)) (hf : f_X0_votesAgainst fu x0 s = some out) : Met l yX0_votesAgainst (ag_ws yX0_votesAgainst cX0_votesAgainst 1 ((some FieldType.int))) rm_X0_votesAgainst (va_Pc [.ref (p 3 x0)] (ag_Pre z n p s)) (ag_Ri z n p out s) 0 0 (ag_A z) := by
  refine Met.ofW (cc := cX0_votesAgainst) (maxL := 1) (ret := (some FieldType.int)) (by decide) rfl ?_
  intro p0 e st m args below meth c s9 B hml hv
  obtain ⟨ha, h0, hG, hW⟩ := hv
  have hx := B.exec
  have hb := B.bytes
  have hr := B.returns
  have hts := atoms_spec (ws := ag_ws yX0_votesAgainst cX0_votesAgainst 1 ((some FieldType.int))) B.pre
  have hT : ∀ w ∈ ag_tbl, w.before args st = true := fun w h => hts w (List.mem_cons_of_mem _ h)
  have hown : st.vm.findClass RX0 = some m.cls := findClass_of_methodNamed B.named
  have hlocks := B.notSynchronized
  have hS : va_S (ag_A z) st.heap st.heap [] := va_S.rf
  obtain ⟨ls, hls, hl⟩ : ∃ ls, entryFrame m args 1 = F0 m 0 ls [] ∧ lv_has ls 1 [(0, .ref (p 3 x0))] := by rw [ha]; exact ag_entry m [.ref (p 3 x0)] (Nat.le_of_ble_eq_true rfl)
  rw [hls]
  unfold f_X0_votesAgainst at hf
  refine lv_aload_n hx hb dX0_votesAgainst_0 rfl (lv_at hl 0 rfl) ?_
  refine g3_9 hx hb hT hown hG hW v0 q409 dX0_votesAgainst_1 ?_
  obtain ⟨r4, hg4, hf⟩ := ag_bs hf
  refine ag_cSi hx hb hml hT hown hG h0 hS hW (c_J6_bitCount_0f7a4 hg4) ⟨rfl, rfl⟩ q463 q464 q22 q465 dd_yJ6_bitCount_0f7a4 ⟨Nat.le_of_ble_eq_true rfl, Nat.le_of_ble_eq_true rfl⟩ hl.1 rfl (Nat.le_of_ble_eq_true rfl) ⟨Nat.le_of_ble_eq_true rfl, Nat.le_of_ble_eq_true rfl⟩ dX0_votesAgainst_4 (fun H locs hW hS => ?_)
  exact ag_iret hx hb hr rfl hlocks hS (Option.some.inj hf) hW dX0_votesAgainst_7
def f_X0_isWon (fu : Nat) (x0 : Int32) (s : ag_S) : Option Int32 := if s 3 6 x0 = 1 then (ag_bd (f_X0_votesFor fu x0 s) fun r9 => if r9 < 5 then (some 0) else (some 1)) else (ag_bd (f_X0_votesFor fu x0 s) fun r25 => ag_bd (f_X0_votesAgainst fu x0 s) fun r29 => if r25 ≤ r29 then (some 0) else (some 1))
abbrev rm_X0_isWon : Room := { frames := 2, cells := 0, slots := 0, locals := 40 }
theorem dd_yX0_isWon : yX0_isWon.cls = RX0 ∧ yX0_isWon.cls ≠ "java/lang/invoke/MethodHandle" ∧ yX0_isWon.cls ≠ "java/lang/invoke/VarHandle" ∧ (parseMethodDescriptor yX0_isWon.desc).map (fun d => d.parameters.length) = some 0 := by decide +kernel
set_option maxHeartbeats 4000000 in
set_option maxRecDepth 100000 in
theorem c_X0_isWon {z : ag_Z} {l : Launch} {n : ag_N} {p : ag_P} {s : ag_S} {fu : Nat} {x0 : Int32} {out : Int32} (v0 : vp_in x0 (n 3)) (hf : f_X0_isWon fu x0 s = some out) : Met l yX0_isWon (ag_ws yX0_isWon cX0_isWon 1 ((some FieldType.boolean))) rm_X0_isWon (va_Pc [.ref (p 3 x0)] (ag_Pre z n p s)) (ag_Ri z n p out s) 0 0 (ag_A z) := by
  refine Met.ofW (cc := cX0_isWon) (maxL := 1) (ret := (some FieldType.boolean)) (by decide) rfl ?_
  intro p0 e st m args below meth c s9 B hml hv
  obtain ⟨ha, h0, hG, hW⟩ := hv
  have hx := B.exec
  have hb := B.bytes
  have hr := B.returns
  have hts := atoms_spec (ws := ag_ws yX0_isWon cX0_isWon 1 ((some FieldType.boolean))) B.pre
  have hT : ∀ w ∈ ag_tbl, w.before args st = true := fun w h => hts w (List.mem_cons_of_mem _ h)
  have hown : st.vm.findClass RX0 = some m.cls := findClass_of_methodNamed B.named
  have hlocks := B.notSynchronized
  have hS : va_S (ag_A z) st.heap st.heap [] := va_S.rf
  obtain ⟨ls, hls, hl⟩ : ∃ ls, entryFrame m args 1 = F0 m 0 ls [] ∧ lv_has ls 1 [(0, .ref (p 3 x0))] := by rw [ha]; exact ag_entry m [.ref (p 3 x0)] (Nat.le_of_ble_eq_true rfl)
  rw [hls]
  unfold f_X0_isWon at hf
  refine lv_aload_n hx hb dX0_isWon_0 rfl (lv_at hl 0 rfl) ?_
  refine g3_6 hx hb hT hown hG hW v0 q404 dX0_isWon_1 ?_
  refine lv_iconst (v := 1) hx hb dX0_isWon_4 (by decide) ?_
  refine lv_icmp_ne (tgt := 24) hx hb dX0_isWon_5 (by decide) (fun c5 => ?_) (fun c5 => ?_)
  · have hf := ag_f c5 hf
    refine lv_aload_n hx hb dX0_isWon_24 rfl (lv_at hl 0 rfl) ?_
    obtain ⟨r25, hg25, hf⟩ := ag_bs hf
    refine ag_cVi hx hb hml hT hown hG h0 hS hW (c_X0_votesFor v0 hg25) ⟨rfl, rfl⟩ q485 q460 q461 q21 q462 dd_yX0_votesFor ⟨Nat.le_of_ble_eq_true rfl, Nat.le_of_ble_eq_true rfl⟩ v0 rfl rfl hl.1 rfl (Nat.le_of_ble_eq_true rfl) ⟨Nat.le_of_ble_eq_true rfl, Nat.le_of_ble_eq_true rfl⟩ dX0_isWon_25 (fun H locs hW hS => ?_)
    refine lv_aload_n hx hb dX0_isWon_28 rfl (lv_at hl 0 rfl) ?_
    obtain ⟨r29, hg29, hf⟩ := ag_bs hf
    refine ag_cVi hx hb hml hT hown hG h0 hS hW (c_X0_votesAgainst v0 hg29) ⟨rfl, rfl⟩ q486 q487 q488 q21 q489 dd_yX0_votesAgainst ⟨Nat.le_of_ble_eq_true rfl, Nat.le_of_ble_eq_true rfl⟩ v0 rfl rfl hl.1 rfl (Nat.le_of_ble_eq_true rfl) ⟨Nat.le_of_ble_eq_true rfl, Nat.le_of_ble_eq_true rfl⟩ dX0_isWon_29 (fun H locs hW hS => ?_)
    refine lv_icmp_le (tgt := 39) hx hb dX0_isWon_32 (by decide) (fun c32 => ?_) (fun c32 => ?_)
    · have hf := ag_t c32 hf
      refine lv_iconst (v := 0) hx hb dX0_isWon_39 (by decide) ?_
      exact ag_iret hx hb hr rfl hlocks hS (Option.some.inj hf) hW dX0_isWon_40
    · have hf := ag_f c32 hf
      refine lv_iconst (v := 1) hx hb dX0_isWon_35 (by decide) ?_
      refine lv_goto (tgt := 40) hx hb dX0_isWon_36 (by decide) ?_
      exact ag_iret hx hb hr rfl hlocks hS (Option.some.inj hf) hW dX0_isWon_40
  · have hf := ag_t c5 hf
    refine lv_aload_n hx hb dX0_isWon_8 rfl (lv_at hl 0 rfl) ?_
    obtain ⟨r9, hg9, hf⟩ := ag_bs hf
    refine ag_cVi hx hb hml hT hown hG h0 hS hW (c_X0_votesFor v0 hg9) ⟨rfl, rfl⟩ q485 q460 q461 q21 q462 dd_yX0_votesFor ⟨Nat.le_of_ble_eq_true rfl, Nat.le_of_ble_eq_true rfl⟩ v0 rfl rfl hl.1 rfl (Nat.le_of_ble_eq_true rfl) ⟨Nat.le_of_ble_eq_true rfl, Nat.le_of_ble_eq_true rfl⟩ dX0_isWon_9 (fun H locs hW hS => ?_)
    refine lv_iconst (v := 5) hx hb dX0_isWon_12 (by decide) ?_
    refine lv_icmp_lt (tgt := 20) hx hb dX0_isWon_13 (by decide) (fun c13 => ?_) (fun c13 => ?_)
    · have hf := ag_t c13 hf
      refine lv_iconst (v := 0) hx hb dX0_isWon_20 (by decide) ?_
      refine lv_goto (tgt := 40) hx hb dX0_isWon_21 (by decide) ?_
      exact ag_iret hx hb hr rfl hlocks hS (Option.some.inj hf) hW dX0_isWon_40
    · have hf := ag_f c13 hf
      refine lv_iconst (v := 1) hx hb dX0_isWon_16 (by decide) ?_
      refine lv_goto (tgt := 40) hx hb dX0_isWon_17 (by decide) ?_
      exact ag_iret hx hb hr rfl hlocks hS (Option.some.inj hf) hW dX0_isWon_40
def f_X0_isLost (fu : Nat) (x0 : Int32) (s : ag_S) : Option Int32 := if s 3 6 x0 = 1 then (ag_bd (f_X0_votesAgainst fu x0 s) fun r9 => if r9 < 5 then (some 0) else (some 1)) else (ag_bd (f_X0_isWon fu x0 s) fun r25 => if r25 = 0 then (some 1) else (some 0))
abbrev rm_X0_isLost : Room := { frames := 3, cells := 0, slots := 0, locals := 60 }
theorem dd_yX0_isLost : yX0_isLost.cls = RX0 ∧ yX0_isLost.cls ≠ "java/lang/invoke/MethodHandle" ∧ yX0_isLost.cls ≠ "java/lang/invoke/VarHandle" ∧ (parseMethodDescriptor yX0_isLost.desc).map (fun d => d.parameters.length) = some 0 := by decide +kernel
set_option maxHeartbeats 4000000 in
set_option maxRecDepth 100000 in
theorem c_X0_isLost {z : ag_Z} {l : Launch} {n : ag_N} {p : ag_P} {s : ag_S} {fu : Nat} {x0 : Int32} {out : Int32} (v0 : vp_in x0 (n 3)) (hf : f_X0_isLost fu x0 s = some out) : Met l yX0_isLost (ag_ws yX0_isLost cX0_isLost 1 ((some FieldType.boolean))) rm_X0_isLost (va_Pc [.ref (p 3 x0)] (ag_Pre z n p s)) (ag_Ri z n p out s) 0 0 (ag_A z) := by
  refine Met.ofW (cc := cX0_isLost) (maxL := 1) (ret := (some FieldType.boolean)) (by decide) rfl ?_
  intro p0 e st m args below meth c s9 B hml hv
  obtain ⟨ha, h0, hG, hW⟩ := hv
  have hx := B.exec
  have hb := B.bytes
  have hr := B.returns
  have hts := atoms_spec (ws := ag_ws yX0_isLost cX0_isLost 1 ((some FieldType.boolean))) B.pre
  have hT : ∀ w ∈ ag_tbl, w.before args st = true := fun w h => hts w (List.mem_cons_of_mem _ h)
  have hown : st.vm.findClass RX0 = some m.cls := findClass_of_methodNamed B.named
  have hlocks := B.notSynchronized
  have hS : va_S (ag_A z) st.heap st.heap [] := va_S.rf
  obtain ⟨ls, hls, hl⟩ : ∃ ls, entryFrame m args 1 = F0 m 0 ls [] ∧ lv_has ls 1 [(0, .ref (p 3 x0))] := by rw [ha]; exact ag_entry m [.ref (p 3 x0)] (Nat.le_of_ble_eq_true rfl)
  rw [hls]
  unfold f_X0_isLost at hf
  refine lv_aload_n hx hb dX0_isLost_0 rfl (lv_at hl 0 rfl) ?_
  refine g3_6 hx hb hT hown hG hW v0 q404 dX0_isLost_1 ?_
  refine lv_iconst (v := 1) hx hb dX0_isLost_4 (by decide) ?_
  refine lv_icmp_ne (tgt := 24) hx hb dX0_isLost_5 (by decide) (fun c5 => ?_) (fun c5 => ?_)
  · have hf := ag_f c5 hf
    refine lv_aload_n hx hb dX0_isLost_24 rfl (lv_at hl 0 rfl) ?_
    obtain ⟨r25, hg25, hf⟩ := ag_bs hf
    refine ag_cVi hx hb hml hT hown hG h0 hS hW (c_X0_isWon v0 hg25) ⟨rfl, rfl⟩ q534 q482 q483 q21 q484 dd_yX0_isWon ⟨Nat.le_of_ble_eq_true rfl, Nat.le_of_ble_eq_true rfl⟩ v0 rfl rfl hl.1 rfl (Nat.le_of_ble_eq_true rfl) ⟨Nat.le_of_ble_eq_true rfl, Nat.le_of_ble_eq_true rfl⟩ dX0_isLost_25 (fun H locs hW hS => ?_)
    refine lv_if_ne (tgt := 35) hx hb dX0_isLost_28 (by decide) (fun c28 => ?_) (fun c28 => ?_)
    · have hf := ag_f c28 hf
      refine lv_iconst (v := 0) hx hb dX0_isLost_35 (by decide) ?_
      exact ag_iret hx hb hr rfl hlocks hS (Option.some.inj hf) hW dX0_isLost_36
    · have hf := ag_t c28 hf
      refine lv_iconst (v := 1) hx hb dX0_isLost_31 (by decide) ?_
      refine lv_goto (tgt := 36) hx hb dX0_isLost_32 (by decide) ?_
      exact ag_iret hx hb hr rfl hlocks hS (Option.some.inj hf) hW dX0_isLost_36
  · have hf := ag_t c5 hf
    refine lv_aload_n hx hb dX0_isLost_8 rfl (lv_at hl 0 rfl) ?_
    obtain ⟨r9, hg9, hf⟩ := ag_bs hf
    refine ag_cVi hx hb hml hT hown hG h0 hS hW (c_X0_votesAgainst v0 hg9) ⟨rfl, rfl⟩ q486 q487 q488 q21 q489 dd_yX0_votesAgainst ⟨Nat.le_of_ble_eq_true rfl, Nat.le_of_ble_eq_true rfl⟩ v0 rfl rfl hl.1 rfl (Nat.le_of_ble_eq_true rfl) ⟨Nat.le_of_ble_eq_true rfl, Nat.le_of_ble_eq_true rfl⟩ dX0_isLost_9 (fun H locs hW hS => ?_)
    refine lv_iconst (v := 5) hx hb dX0_isLost_12 (by decide) ?_
    refine lv_icmp_lt (tgt := 20) hx hb dX0_isLost_13 (by decide) (fun c13 => ?_) (fun c13 => ?_)
    · have hf := ag_t c13 hf
      refine lv_iconst (v := 0) hx hb dX0_isLost_20 (by decide) ?_
      refine lv_goto (tgt := 36) hx hb dX0_isLost_21 (by decide) ?_
      exact ag_iret hx hb hr rfl hlocks hS (Option.some.inj hf) hW dX0_isLost_36
    · have hf := ag_f c13 hf
      refine lv_iconst (v := 1) hx hb dX0_isLost_16 (by decide) ?_
      refine lv_goto (tgt := 36) hx hb dX0_isLost_17 (by decide) ?_
      exact ag_iret hx hb hr rfl hlocks hS (Option.some.inj hf) hW dX0_isLost_36
def f_X0_takeVote_b26 (fu : Nat) (x0 : Int32) (x2 : Int32) (x3 : Int32) (y0 : Int32) (y1 : Int32) (s : ag_S) : Option ag_S := if x2 = 0 then (some (ag_up (ag_up s 3 8 y0 y1) 3 9 x0 (((ag_up s 3 8 y0 y1) 3 9 x0) ||| x3))) else (some (ag_up (ag_up s 3 8 y0 y1) 3 9 x0 (((ag_up s 3 8 y0 y1) 3 9 x0) &&& (x3 ^^^ ((-1))))))
def f_X0_takeVote (fu : Nat) (x0 : Int32) (x1 : Int32) (x2 : Int32) (s : ag_S) : Option ag_S := if x2 = 0 then (f_X0_takeVote_b26 fu x0 x2 (1 <<< (x1 &&& 31)) x0 ((s 3 8 x0) &&& ((1 <<< (x1 &&& 31)) ^^^ ((-1)))) s) else (f_X0_takeVote_b26 fu x0 x2 (1 <<< (x1 &&& 31)) x0 ((s 3 8 x0) ||| (1 <<< (x1 &&& 31))) s)
abbrev rm_X0_takeVote : Room := { frames := 0, cells := 0, slots := 0, locals := 0 }
theorem dd_yX0_takeVote : yX0_takeVote.cls = RX0 ∧ yX0_takeVote.cls ≠ "java/lang/invoke/MethodHandle" ∧ yX0_takeVote.cls ≠ "java/lang/invoke/VarHandle" ∧ (parseMethodDescriptor yX0_takeVote.desc).map (fun d => d.parameters.length) = some 2 := by decide +kernel
set_option maxHeartbeats 4000000 in
set_option maxRecDepth 100000 in
theorem c_X0_takeVote {z : ag_Z} {l : Launch} {n : ag_N} {p : ag_P} {s : ag_S} {fu : Nat} {x0 : Int32} {x1 : Int32} {x2 : Int32} {out : ag_S} (v0 : vp_in x0 (n 3)) (hf : f_X0_takeVote fu x0 x1 x2 s = some out) : Met l yX0_takeVote (ag_ws yX0_takeVote cX0_takeVote 4 ((none))) rm_X0_takeVote (va_Pc [.ref (p 3 x0), .int x1, .int x2] (ag_Pre z n p s)) (ag_Rv z n p out) 0 0 (ag_A z) := by
  refine Met.ofW (cc := cX0_takeVote) (maxL := 4) (ret := (none)) (by decide) rfl ?_
  intro p0 e st m args below meth c s9 B hml hv
  obtain ⟨ha, h0, hG, hW⟩ := hv
  have hx := B.exec
  have hb := B.bytes
  have hr := B.returns
  have hts := atoms_spec (ws := ag_ws yX0_takeVote cX0_takeVote 4 ((none))) B.pre
  have hT : ∀ w ∈ ag_tbl, w.before args st = true := fun w h => hts w (List.mem_cons_of_mem _ h)
  have hown : st.vm.findClass RX0 = some m.cls := findClass_of_methodNamed B.named
  have hlocks := B.notSynchronized
  have hS : va_S (ag_A z) st.heap st.heap [] := va_S.rf
  obtain ⟨ls, hls, hl⟩ : ∃ ls, entryFrame m args 4 = F0 m 0 ls [] ∧ lv_has ls 4 [(0, .ref (p 3 x0)), (1, .int x1), (2, .int x2)] := by rw [ha]; exact ag_entry m [.ref (p 3 x0), .int x1, .int x2] (Nat.le_of_ble_eq_true rfl)
  rw [hls]
  have k26 : ∀ (x0 : Int32) (x2 : Int32) (x3 : Int32) (y0 : Int32) (y1 : Int32) (s : ag_S) (H : Heap) (locs : List Loc) (ls : Array Slot) (vx0 : vp_in x0 (n 3)) (vy0 : vp_in y0 (n 3)), ag_W z n p s H → va_S (ag_A z) st.heap H locs → lv_has ls 4 [(0, .ref (p 3 x0)), (2, .int x2), (3, .int x3)] → f_X0_takeVote_b26 fu x0 x2 x3 y0 y1 s = some out → W p0 l e (headSpec (ag_ws yX0_takeVote cX0_takeVote 4 ((none))) rm_X0_takeVote).room st m args below meth c H locs 0 0 (MQ below (ag_Rv z n p out) args st 0 0 (ag_A z)) (F0 m 26 ls [.int y1, .ref (p 3 y0)]) := by
    intro x0 x2 x3 y0 y1 s H locs ls vx0 vy0 hW hS hl hf
    unfold f_X0_takeVote_b26 at hf
    refine u3_8 hx hb hT hown hG hW hS vy0 q408 dX0_takeVote_26 (fun H locs hW hS => ?_)
    refine lv_aload_n hx hb dX0_takeVote_29 rfl (lv_at hl 0 rfl) ?_
    refine lv_iload_n hx hb dX0_takeVote_30 rfl (lv_at hl 1 rfl) ?_
    refine lv_if_eq (tgt := 45) hx hb dX0_takeVote_31 (by decide) (fun c31 => ?_) (fun c31 => ?_)
    · have hf := ag_t c31 hf
      refine lv_aload_n hx hb dX0_takeVote_45 rfl (lv_at hl 0 rfl) ?_
      refine g3_9 hx hb hT hown hG hW vx0 q409 dX0_takeVote_46 ?_
      refine lv_iload_n hx hb dX0_takeVote_49 rfl (lv_at hl 2 rfl) ?_
      refine lv_ior hx hb dX0_takeVote_50 ?_
      refine u3_9 hx hb hT hown hG hW hS vx0 q409 dX0_takeVote_51 (fun H locs hW hS => ?_)
      exact ag_vret hx hb hr hlocks hS (Option.some.inj hf ▸ hW) dX0_takeVote_54
    · have hf := ag_f c31 hf
      refine lv_aload_n hx hb dX0_takeVote_34 rfl (lv_at hl 0 rfl) ?_
      refine g3_9 hx hb hT hown hG hW vx0 q409 dX0_takeVote_35 ?_
      refine lv_iload_n hx hb dX0_takeVote_38 rfl (lv_at hl 2 rfl) ?_
      refine lv_iconst (v := (-1)) hx hb dX0_takeVote_39 (by decide) ?_
      refine lv_ixor hx hb dX0_takeVote_40 ?_
      refine lv_iand hx hb dX0_takeVote_41 ?_
      refine lv_goto (tgt := 51) hx hb dX0_takeVote_42 (by decide) ?_
      refine u3_9 hx hb hT hown hG hW hS vx0 q409 dX0_takeVote_51 (fun H locs hW hS => ?_)
      exact ag_vret hx hb hr hlocks hS (Option.some.inj hf ▸ hW) dX0_takeVote_54
  unfold f_X0_takeVote at hf
  refine lv_iconst (v := 1) hx hb dX0_takeVote_0 (by decide) ?_
  refine lv_iload_n hx hb dX0_takeVote_1 rfl (lv_at hl 1 rfl) ?_
  refine lv_ishl hx hb dX0_takeVote_2 ?_
  refine lv_istore_n (lv' := [(3, .int (1 <<< (x1 &&& 31))), (0, .ref (p 3 x0)), (1, .int x1), (2, .int x2)]) hx hb dX0_takeVote_3 rfl hl (by decide) rfl (fun ls hl => ?_)
  refine lv_aload_n hx hb dX0_takeVote_4 rfl (lv_at hl 1 rfl) ?_
  refine lv_iload_n hx hb dX0_takeVote_5 rfl (lv_at hl 3 rfl) ?_
  refine lv_if_eq (tgt := 18) hx hb dX0_takeVote_6 (by decide) (fun c6 => ?_) (fun c6 => ?_)
  · have hf := ag_t c6 hf
    refine lv_aload_n hx hb dX0_takeVote_18 rfl (lv_at hl 1 rfl) ?_
    refine g3_8 hx hb hT hown hG hW v0 q408 dX0_takeVote_19 ?_
    refine lv_iload_n hx hb dX0_takeVote_22 rfl (lv_at hl 0 rfl) ?_
    refine lv_iconst (v := (-1)) hx hb dX0_takeVote_23 (by decide) ?_
    refine lv_ixor hx hb dX0_takeVote_24 ?_
    refine lv_iand hx hb dX0_takeVote_25 ?_
    exact k26 _ _ _ _ _ _ _ _ _ v0 v0 hW hS (lv_sub hl [1, 3, 0] rfl) hf
  · have hf := ag_f c6 hf
    refine lv_aload_n hx hb dX0_takeVote_9 rfl (lv_at hl 1 rfl) ?_
    refine g3_8 hx hb hT hown hG hW v0 q408 dX0_takeVote_10 ?_
    refine lv_iload_n hx hb dX0_takeVote_13 rfl (lv_at hl 0 rfl) ?_
    refine lv_ior hx hb dX0_takeVote_14 ?_
    refine lv_goto (tgt := 26) hx hb dX0_takeVote_15 (by decide) ?_
    exact k26 _ _ _ _ _ _ _ _ _ v0 v0 hW hS (lv_sub hl [1, 3, 0] rfl) hf
def f_X0_beginRoundTwo (fu : Nat) (x0 : Int32) (s : ag_S) : Option ag_S := some (ag_up (ag_up (ag_up s 3 6 x0 2) 3 8 x0 0) 3 9 x0 0)
abbrev rm_X0_beginRoundTwo : Room := { frames := 0, cells := 0, slots := 0, locals := 0 }
theorem dd_yX0_beginRoundTwo : yX0_beginRoundTwo.cls = RX0 ∧ yX0_beginRoundTwo.cls ≠ "java/lang/invoke/MethodHandle" ∧ yX0_beginRoundTwo.cls ≠ "java/lang/invoke/VarHandle" ∧ (parseMethodDescriptor yX0_beginRoundTwo.desc).map (fun d => d.parameters.length) = some 0 := by decide +kernel
set_option maxHeartbeats 4000000 in
set_option maxRecDepth 100000 in
theorem c_X0_beginRoundTwo {z : ag_Z} {l : Launch} {n : ag_N} {p : ag_P} {s : ag_S} {fu : Nat} {x0 : Int32} {out : ag_S} (v0 : vp_in x0 (n 3)) (hf : f_X0_beginRoundTwo fu x0 s = some out) : Met l yX0_beginRoundTwo (ag_ws yX0_beginRoundTwo cX0_beginRoundTwo 1 ((none))) rm_X0_beginRoundTwo (va_Pc [.ref (p 3 x0)] (ag_Pre z n p s)) (ag_Rv z n p out) 0 0 (ag_A z) := by
  refine Met.ofW (cc := cX0_beginRoundTwo) (maxL := 1) (ret := (none)) (by decide) rfl ?_
  intro p0 e st m args below meth c s9 B hml hv
  obtain ⟨ha, h0, hG, hW⟩ := hv
  have hx := B.exec
  have hb := B.bytes
  have hr := B.returns
  have hts := atoms_spec (ws := ag_ws yX0_beginRoundTwo cX0_beginRoundTwo 1 ((none))) B.pre
  have hT : ∀ w ∈ ag_tbl, w.before args st = true := fun w h => hts w (List.mem_cons_of_mem _ h)
  have hown : st.vm.findClass RX0 = some m.cls := findClass_of_methodNamed B.named
  have hlocks := B.notSynchronized
  have hS : va_S (ag_A z) st.heap st.heap [] := va_S.rf
  obtain ⟨ls, hls, hl⟩ : ∃ ls, entryFrame m args 1 = F0 m 0 ls [] ∧ lv_has ls 1 [(0, .ref (p 3 x0))] := by rw [ha]; exact ag_entry m [.ref (p 3 x0)] (Nat.le_of_ble_eq_true rfl)
  rw [hls]
  unfold f_X0_beginRoundTwo at hf
  refine lv_aload_n hx hb dX0_beginRoundTwo_0 rfl (lv_at hl 0 rfl) ?_
  refine lv_iconst (v := 2) hx hb dX0_beginRoundTwo_1 (by decide) ?_
  refine u3_6 hx hb hT hown hG hW hS v0 q404 dX0_beginRoundTwo_2 (fun H locs hW hS => ?_)
  refine lv_aload_n hx hb dX0_beginRoundTwo_5 rfl (lv_at hl 0 rfl) ?_
  refine lv_iconst (v := 0) hx hb dX0_beginRoundTwo_6 (by decide) ?_
  refine u3_8 hx hb hT hown hG hW hS v0 q408 dX0_beginRoundTwo_7 (fun H locs hW hS => ?_)
  refine lv_aload_n hx hb dX0_beginRoundTwo_10 rfl (lv_at hl 0 rfl) ?_
  refine lv_iconst (v := 0) hx hb dX0_beginRoundTwo_11 (by decide) ?_
  refine u3_9 hx hb hT hown hG hW hS v0 q409 dX0_beginRoundTwo_12 (fun H locs hW hS => ?_)
  exact ag_vret hx hb hr hlocks hS (Option.some.inj hf ▸ hW) dX0_beginRoundTwo_15
def f_X1_binds (fu : Nat) (x0 : Int32) (s : ag_S) : Option Int32 := if s 4 6 x0 = 2 then (some (s 4 5 x0)) else (some (s 4 4 x0))
abbrev rm_X1_binds : Room := { frames := 0, cells := 0, slots := 0, locals := 0 }
theorem dd_yX1_binds : yX1_binds.cls = RX1 ∧ yX1_binds.cls ≠ "java/lang/invoke/MethodHandle" ∧ yX1_binds.cls ≠ "java/lang/invoke/VarHandle" ∧ (parseMethodDescriptor yX1_binds.desc).map (fun d => d.parameters.length) = some 0 := by decide +kernel
set_option maxHeartbeats 4000000 in
set_option maxRecDepth 100000 in
theorem c_X1_binds {z : ag_Z} {l : Launch} {n : ag_N} {p : ag_P} {s : ag_S} {fu : Nat} {x0 : Int32} {out : Int32} (v0 : vp_in x0 (n 4)) (hf : f_X1_binds fu x0 s = some out) : Met l yX1_binds (ag_ws yX1_binds cX1_binds 1 ((some FieldType.int))) rm_X1_binds (va_Pc [.ref (p 4 x0)] (ag_Pre z n p s)) (ag_Ri z n p out s) 0 0 (ag_A z) := by
  refine Met.ofW (cc := cX1_binds) (maxL := 1) (ret := (some FieldType.int)) (by decide) rfl ?_
  intro p0 e st m args below meth c s9 B hml hv
  obtain ⟨ha, h0, hG, hW⟩ := hv
  have hx := B.exec
  have hb := B.bytes
  have hr := B.returns
  have hts := atoms_spec (ws := ag_ws yX1_binds cX1_binds 1 ((some FieldType.int))) B.pre
  have hT : ∀ w ∈ ag_tbl, w.before args st = true := fun w h => hts w (List.mem_cons_of_mem _ h)
  have hown : st.vm.findClass RX1 = some m.cls := findClass_of_methodNamed B.named
  have hlocks := B.notSynchronized
  have hS : va_S (ag_A z) st.heap st.heap [] := va_S.rf
  obtain ⟨ls, hls, hl⟩ : ∃ ls, entryFrame m args 1 = F0 m 0 ls [] ∧ lv_has ls 1 [(0, .ref (p 4 x0))] := by rw [ha]; exact ag_entry m [.ref (p 4 x0)] (Nat.le_of_ble_eq_true rfl)
  rw [hls]
  unfold f_X1_binds at hf
  refine lv_aload_n hx hb dX1_binds_0 rfl (lv_at hl 0 rfl) ?_
  refine g4_6 hx hb hT hown hG hW v0 q605 dX1_binds_1 ?_
  refine lv_iconst (v := 2) hx hb dX1_binds_4 (by decide) ?_
  refine lv_icmp_ne (tgt := 15) hx hb dX1_binds_5 (by decide) (fun c5 => ?_) (fun c5 => ?_)
  · have hf := ag_f c5 hf
    refine lv_aload_n hx hb dX1_binds_15 rfl (lv_at hl 0 rfl) ?_
    refine g4_4 hx hb hT hown hG hW v0 q601 dX1_binds_16 ?_
    exact ag_iret hx hb hr rfl hlocks hS (Option.some.inj hf) hW dX1_binds_19
  · have hf := ag_t c5 hf
    refine lv_aload_n hx hb dX1_binds_8 rfl (lv_at hl 0 rfl) ?_
    refine g4_5 hx hb hT hown hG hW v0 q603 dX1_binds_9 ?_
    refine lv_goto (tgt := 19) hx hb dX1_binds_12 (by decide) ?_
    exact ag_iret hx hb hr rfl hlocks hS (Option.some.inj hf) hW dX1_binds_19
def f_X1_isOverdue (fu : Nat) (x0 : Int32) (x1 : Int32) (s : ag_S) : Option Int32 := if s 4 6 x0 = 0 then (if s 4 7 x0 = 0 then (if x1 ≤ s 4 3 x0 then (some 0) else (some 1)) else (some 0)) else (some 0)
abbrev rm_X1_isOverdue : Room := { frames := 0, cells := 0, slots := 0, locals := 0 }
theorem dd_yX1_isOverdue : yX1_isOverdue.cls = RX1 ∧ yX1_isOverdue.cls ≠ "java/lang/invoke/MethodHandle" ∧ yX1_isOverdue.cls ≠ "java/lang/invoke/VarHandle" ∧ (parseMethodDescriptor yX1_isOverdue.desc).map (fun d => d.parameters.length) = some 1 := by decide +kernel
set_option maxHeartbeats 4000000 in
set_option maxRecDepth 100000 in
theorem c_X1_isOverdue {z : ag_Z} {l : Launch} {n : ag_N} {p : ag_P} {s : ag_S} {fu : Nat} {x0 : Int32} {x1 : Int32} {out : Int32} (v0 : vp_in x0 (n 4)) (hf : f_X1_isOverdue fu x0 x1 s = some out) : Met l yX1_isOverdue (ag_ws yX1_isOverdue cX1_isOverdue 2 ((some FieldType.boolean))) rm_X1_isOverdue (va_Pc [.ref (p 4 x0), .int x1] (ag_Pre z n p s)) (ag_Ri z n p out s) 0 0 (ag_A z) := by
  refine Met.ofW (cc := cX1_isOverdue) (maxL := 2) (ret := (some FieldType.boolean)) (by decide) rfl ?_
  intro p0 e st m args below meth c s9 B hml hv
  obtain ⟨ha, h0, hG, hW⟩ := hv
  have hx := B.exec
  have hb := B.bytes
  have hr := B.returns
  have hts := atoms_spec (ws := ag_ws yX1_isOverdue cX1_isOverdue 2 ((some FieldType.boolean))) B.pre
  have hT : ∀ w ∈ ag_tbl, w.before args st = true := fun w h => hts w (List.mem_cons_of_mem _ h)
  have hown : st.vm.findClass RX1 = some m.cls := findClass_of_methodNamed B.named
  have hlocks := B.notSynchronized
  have hS : va_S (ag_A z) st.heap st.heap [] := va_S.rf
  obtain ⟨ls, hls, hl⟩ : ∃ ls, entryFrame m args 2 = F0 m 0 ls [] ∧ lv_has ls 2 [(0, .ref (p 4 x0)), (1, .int x1)] := by rw [ha]; exact ag_entry m [.ref (p 4 x0), .int x1] (Nat.le_of_ble_eq_true rfl)
  rw [hls]
  unfold f_X1_isOverdue at hf
  refine lv_aload_n hx hb dX1_isOverdue_0 rfl (lv_at hl 0 rfl) ?_
  refine g4_6 hx hb hT hown hG hW v0 q605 dX1_isOverdue_1 ?_
  refine lv_if_ne (tgt := 26) hx hb dX1_isOverdue_4 (by decide) (fun c4 => ?_) (fun c4 => ?_)
  · have hf := ag_f c4 hf
    refine lv_iconst (v := 0) hx hb dX1_isOverdue_26 (by decide) ?_
    exact ag_iret hx hb hr rfl hlocks hS (Option.some.inj hf) hW dX1_isOverdue_27
  · have hf := ag_t c4 hf
    refine lv_aload_n hx hb dX1_isOverdue_7 rfl (lv_at hl 0 rfl) ?_
    refine g4_7 hx hb hT hown hG hW v0 q607 dX1_isOverdue_8 ?_
    refine lv_if_ne (tgt := 26) hx hb dX1_isOverdue_11 (by decide) (fun c11 => ?_) (fun c11 => ?_)
    · have hf := ag_f c11 hf
      refine lv_iconst (v := 0) hx hb dX1_isOverdue_26 (by decide) ?_
      exact ag_iret hx hb hr rfl hlocks hS (Option.some.inj hf) hW dX1_isOverdue_27
    · have hf := ag_t c11 hf
      refine lv_aload_n hx hb dX1_isOverdue_14 rfl (lv_at hl 0 rfl) ?_
      refine g4_3 hx hb hT hown hG hW v0 q599 dX1_isOverdue_15 ?_
      refine lv_iload_n hx hb dX1_isOverdue_18 rfl (lv_at hl 1 rfl) ?_
      refine lv_icmp_ge (tgt := 26) hx hb dX1_isOverdue_19 (by decide) (fun c19 => ?_) (fun c19 => ?_)
      · have hf := ag_t c19 hf
        refine lv_iconst (v := 0) hx hb dX1_isOverdue_26 (by decide) ?_
        exact ag_iret hx hb hr rfl hlocks hS (Option.some.inj hf) hW dX1_isOverdue_27
      · have hf := ag_f c19 hf
        refine lv_iconst (v := 1) hx hb dX1_isOverdue_22 (by decide) ?_
        refine lv_goto (tgt := 27) hx hb dX1_isOverdue_23 (by decide) ?_
        exact ag_iret hx hb hr rfl hlocks hS (Option.some.inj hf) hW dX1_isOverdue_27
def f_X1_hangsOnFallen (fu : Nat) (x0 : Int32) (s : ag_S) : Option Int32 := if s 4 2 x0 = -1 then (some 0) else (if s 4 2 x0 = -1 then none else if s 3 5 (s 4 2 x0) = 2 then (some 1) else (some 0))
abbrev rm_X1_hangsOnFallen : Room := { frames := 0, cells := 0, slots := 0, locals := 0 }
theorem dd_yX1_hangsOnFallen : yX1_hangsOnFallen.cls = RX1 ∧ yX1_hangsOnFallen.cls ≠ "java/lang/invoke/MethodHandle" ∧ yX1_hangsOnFallen.cls ≠ "java/lang/invoke/VarHandle" ∧ (parseMethodDescriptor yX1_hangsOnFallen.desc).map (fun d => d.parameters.length) = some 0 := by decide +kernel
set_option maxHeartbeats 4000000 in
set_option maxRecDepth 100000 in
theorem c_X1_hangsOnFallen {z : ag_Z} {l : Launch} {n : ag_N} {p : ag_P} {s : ag_S} {fu : Nat} {x0 : Int32} {out : Int32} (v0 : vp_in x0 (n 4)) (hf : f_X1_hangsOnFallen fu x0 s = some out) : Met l yX1_hangsOnFallen (ag_ws yX1_hangsOnFallen cX1_hangsOnFallen 1 ((some FieldType.boolean))) rm_X1_hangsOnFallen (va_Pc [.ref (p 4 x0)] (ag_Pre z n p s)) (ag_Ri z n p out s) 0 0 (ag_A z) := by
  refine Met.ofW (cc := cX1_hangsOnFallen) (maxL := 1) (ret := (some FieldType.boolean)) (by decide) rfl ?_
  intro p0 e st m args below meth c s9 B hml hv
  obtain ⟨ha, h0, hG, hW⟩ := hv
  have hx := B.exec
  have hb := B.bytes
  have hr := B.returns
  have hts := atoms_spec (ws := ag_ws yX1_hangsOnFallen cX1_hangsOnFallen 1 ((some FieldType.boolean))) B.pre
  have hT : ∀ w ∈ ag_tbl, w.before args st = true := fun w h => hts w (List.mem_cons_of_mem _ h)
  have hown : st.vm.findClass RX1 = some m.cls := findClass_of_methodNamed B.named
  have hlocks := B.notSynchronized
  have hS : va_S (ag_A z) st.heap st.heap [] := va_S.rf
  obtain ⟨ls, hls, hl⟩ : ∃ ls, entryFrame m args 1 = F0 m 0 ls [] ∧ lv_has ls 1 [(0, .ref (p 4 x0))] := by rw [ha]; exact ag_entry m [.ref (p 4 x0)] (Nat.le_of_ble_eq_true rfl)
  rw [hls]
  unfold f_X1_hangsOnFallen at hf
  refine lv_aload_n hx hb dX1_hangsOnFallen_0 rfl (lv_at hl 0 rfl) ?_
  refine g4_2 hx hb hT hown hG hW v0 q597 dX1_hangsOnFallen_1 ?_
  have o1 := ag_W.okf hW (k := 4) (f := 2) (t := 3) rfl rfl (by decide) x0
  refine ag_ifnull (tgt := 22) hx hb o1 dX1_hangsOnFallen_4 (by decide) (fun c4 => ?_) (fun c4 => ?_)
  · have hf := ag_t c4 hf
    refine lv_iconst (v := 0) hx hb dX1_hangsOnFallen_22 (by decide) ?_
    exact ag_iret hx hb hr rfl hlocks hS (Option.some.inj hf) hW dX1_hangsOnFallen_23
  · have hf := ag_f c4 hf
    have e4 := (ag_refq (z := z) (p := p) o1 c4)
    have v4 := (ag_ref (z := z) (p := p) o1 c4).2
    refine lv_aload_n hx hb dX1_hangsOnFallen_7 rfl (lv_at hl 0 rfl) ?_
    refine g4_2 hx hb hT hown hG hW v0 q597 dX1_hangsOnFallen_8 ?_
    have o8 := ag_W.okf hW (k := 4) (f := 2) (t := 3) rfl rfl (by decide) x0
    obtain ⟨m11_1, hf⟩ := ag_n hf
    have e11_1 := (ag_refq (z := z) (p := p) o8 m11_1)
    have v11_1 := (ag_ref (z := z) (p := p) o8 m11_1).2
    rw [e11_1]
    refine g3_5 hx hb hT hown hG hW v11_1 q402 dX1_hangsOnFallen_11 ?_
    refine lv_iconst (v := 2) hx hb dX1_hangsOnFallen_14 (by decide) ?_
    refine lv_icmp_ne (tgt := 22) hx hb dX1_hangsOnFallen_15 (by decide) (fun c15 => ?_) (fun c15 => ?_)
    · have hf := ag_f c15 hf
      refine lv_iconst (v := 0) hx hb dX1_hangsOnFallen_22 (by decide) ?_
      exact ag_iret hx hb hr rfl hlocks hS (Option.some.inj hf) hW dX1_hangsOnFallen_23
    · have hf := ag_t c15 hf
      refine lv_iconst (v := 1) hx hb dX1_hangsOnFallen_18 (by decide) ?_
      refine lv_goto (tgt := 23) hx hb dX1_hangsOnFallen_19 (by decide) ?_
      exact ag_iret hx hb hr rfl hlocks hS (Option.some.inj hf) hW dX1_hangsOnFallen_23
def f_X1_withdraw (fu : Nat) (x0 : Int32) (s : ag_S) : Option ag_S := if (ag_up s 4 6 x0 2) 4 1 x0 = -1 then none else some (ag_up (ag_up s 4 6 x0 2) 1 1 ((ag_up s 4 6 x0 2) 4 1 x0) (((ag_up s 4 6 x0 2) 1 1 ((ag_up s 4 6 x0 2) 4 1 x0)) + ((ag_up s 4 6 x0 2) 4 5 x0)))
abbrev rm_X1_withdraw : Room := { frames := 0, cells := 0, slots := 0, locals := 0 }
theorem dd_yX1_withdraw : yX1_withdraw.cls = RX1 ∧ yX1_withdraw.cls ≠ "java/lang/invoke/MethodHandle" ∧ yX1_withdraw.cls ≠ "java/lang/invoke/VarHandle" ∧ (parseMethodDescriptor yX1_withdraw.desc).map (fun d => d.parameters.length) = some 0 := by decide +kernel
set_option maxHeartbeats 4000000 in
set_option maxRecDepth 100000 in
theorem c_X1_withdraw {z : ag_Z} {l : Launch} {n : ag_N} {p : ag_P} {s : ag_S} {fu : Nat} {x0 : Int32} {out : ag_S} (v0 : vp_in x0 (n 4)) (hf : f_X1_withdraw fu x0 s = some out) : Met l yX1_withdraw (ag_ws yX1_withdraw cX1_withdraw 1 ((none))) rm_X1_withdraw (va_Pc [.ref (p 4 x0)] (ag_Pre z n p s)) (ag_Rv z n p out) 0 0 (ag_A z) := by
  refine Met.ofW (cc := cX1_withdraw) (maxL := 1) (ret := (none)) (by decide) rfl ?_
  intro p0 e st m args below meth c s9 B hml hv
  obtain ⟨ha, h0, hG, hW⟩ := hv
  have hx := B.exec
  have hb := B.bytes
  have hr := B.returns
  have hts := atoms_spec (ws := ag_ws yX1_withdraw cX1_withdraw 1 ((none))) B.pre
  have hT : ∀ w ∈ ag_tbl, w.before args st = true := fun w h => hts w (List.mem_cons_of_mem _ h)
  have hown : st.vm.findClass RX1 = some m.cls := findClass_of_methodNamed B.named
  have hlocks := B.notSynchronized
  have hS : va_S (ag_A z) st.heap st.heap [] := va_S.rf
  obtain ⟨ls, hls, hl⟩ : ∃ ls, entryFrame m args 1 = F0 m 0 ls [] ∧ lv_has ls 1 [(0, .ref (p 4 x0))] := by rw [ha]; exact ag_entry m [.ref (p 4 x0)] (Nat.le_of_ble_eq_true rfl)
  rw [hls]
  unfold f_X1_withdraw at hf
  refine lv_aload_n hx hb dX1_withdraw_0 rfl (lv_at hl 0 rfl) ?_
  refine lv_iconst (v := 2) hx hb dX1_withdraw_1 (by decide) ?_
  refine u4_6 hx hb hT hown hG hW hS v0 q605 dX1_withdraw_2 (fun H locs hW hS => ?_)
  refine lv_aload_n hx hb dX1_withdraw_5 rfl (lv_at hl 0 rfl) ?_
  refine g4_1 hx hb hT hown hG hW v0 q595 dX1_withdraw_6 ?_
  have o6 := ag_W.okf hW (k := 4) (f := 1) (t := 1) rfl rfl (by decide) x0
  refine lv_dup hx hb dX1_withdraw_9 (ag_cat _) ?_
  obtain ⟨m10_1, hf⟩ := ag_n hf
  have e10_1 := (ag_refq (z := z) (p := p) o6 m10_1)
  have v10_1 := (ag_ref (z := z) (p := p) o6 m10_1).2
  rw [e10_1]
  refine g1_1 hx hb hT hown hG hW v10_1 q144 dX1_withdraw_10 ?_
  refine lv_aload_n hx hb dX1_withdraw_13 rfl (lv_at hl 0 rfl) ?_
  refine g4_5 hx hb hT hown hG hW v0 q603 dX1_withdraw_14 ?_
  refine lv_iadd hx hb dX1_withdraw_17 ?_
  refine u1_1 hx hb hT hown hG hW hS v10_1 q144 dX1_withdraw_18 (fun H locs hW hS => ?_)
  exact ag_vret hx hb hr hlocks hS (Option.some.inj hf ▸ hW) dX1_withdraw_21
def f_X1_cut (fu : Nat) (x0 : Int32) (s : ag_S) : Option ag_S := some (ag_up (ag_up s 4 6 x0 1) 4 4 x0 ((ag_up s 4 6 x0 1) 4 5 x0))
abbrev rm_X1_cut : Room := { frames := 0, cells := 0, slots := 0, locals := 0 }
theorem dd_yX1_cut : yX1_cut.cls = RX1 ∧ yX1_cut.cls ≠ "java/lang/invoke/MethodHandle" ∧ yX1_cut.cls ≠ "java/lang/invoke/VarHandle" ∧ (parseMethodDescriptor yX1_cut.desc).map (fun d => d.parameters.length) = some 0 := by decide +kernel
set_option maxHeartbeats 4000000 in
set_option maxRecDepth 100000 in
theorem c_X1_cut {z : ag_Z} {l : Launch} {n : ag_N} {p : ag_P} {s : ag_S} {fu : Nat} {x0 : Int32} {out : ag_S} (v0 : vp_in x0 (n 4)) (hf : f_X1_cut fu x0 s = some out) : Met l yX1_cut (ag_ws yX1_cut cX1_cut 1 ((none))) rm_X1_cut (va_Pc [.ref (p 4 x0)] (ag_Pre z n p s)) (ag_Rv z n p out) 0 0 (ag_A z) := by
  refine Met.ofW (cc := cX1_cut) (maxL := 1) (ret := (none)) (by decide) rfl ?_
  intro p0 e st m args below meth c s9 B hml hv
  obtain ⟨ha, h0, hG, hW⟩ := hv
  have hx := B.exec
  have hb := B.bytes
  have hr := B.returns
  have hts := atoms_spec (ws := ag_ws yX1_cut cX1_cut 1 ((none))) B.pre
  have hT : ∀ w ∈ ag_tbl, w.before args st = true := fun w h => hts w (List.mem_cons_of_mem _ h)
  have hown : st.vm.findClass RX1 = some m.cls := findClass_of_methodNamed B.named
  have hlocks := B.notSynchronized
  have hS : va_S (ag_A z) st.heap st.heap [] := va_S.rf
  obtain ⟨ls, hls, hl⟩ : ∃ ls, entryFrame m args 1 = F0 m 0 ls [] ∧ lv_has ls 1 [(0, .ref (p 4 x0))] := by rw [ha]; exact ag_entry m [.ref (p 4 x0)] (Nat.le_of_ble_eq_true rfl)
  rw [hls]
  unfold f_X1_cut at hf
  refine lv_aload_n hx hb dX1_cut_0 rfl (lv_at hl 0 rfl) ?_
  refine lv_iconst (v := 1) hx hb dX1_cut_1 (by decide) ?_
  refine u4_6 hx hb hT hown hG hW hS v0 q605 dX1_cut_2 (fun H locs hW hS => ?_)
  refine lv_aload_n hx hb dX1_cut_5 rfl (lv_at hl 0 rfl) ?_
  refine lv_aload_n hx hb dX1_cut_6 rfl (lv_at hl 0 rfl) ?_
  refine g4_5 hx hb hT hown hG hW v0 q603 dX1_cut_7 ?_
  refine u4_4 hx hb hT hown hG hW hS v0 q601 dX1_cut_10 (fun H locs hW hS => ?_)
  exact ag_vret hx hb hr hlocks hS (Option.some.inj hf ▸ hW) dX1_cut_13
def f_X1_clawBack (fu : Nat) (x0 : Int32) (x1 : Int32) (s : ag_S) : Option ag_S := ag_bd (f_X1_cut fu x0 (ag_up s 4 5 x0 ((s 4 5 x0) - x1))) fun r11 => if r11 4 1 x0 = -1 then none else if (ag_up r11 1 1 (r11 4 1 x0) ((r11 1 1 (r11 4 1 x0)) + x1)) 4 0 x0 = -1 then none else some (ag_up (ag_up r11 1 1 (r11 4 1 x0) ((r11 1 1 (r11 4 1 x0)) + x1)) 2 4 ((ag_up r11 1 1 (r11 4 1 x0) ((r11 1 1 (r11 4 1 x0)) + x1)) 4 0 x0) (((ag_up r11 1 1 (r11 4 1 x0) ((r11 1 1 (r11 4 1 x0)) + x1)) 2 4 ((ag_up r11 1 1 (r11 4 1 x0) ((r11 1 1 (r11 4 1 x0)) + x1)) 4 0 x0)) + x1))
abbrev rm_X1_clawBack : Room := { frames := 1, cells := 0, slots := 0, locals := 20 }
theorem dd_yX1_clawBack : yX1_clawBack.cls = RX1 ∧ yX1_clawBack.cls ≠ "java/lang/invoke/MethodHandle" ∧ yX1_clawBack.cls ≠ "java/lang/invoke/VarHandle" ∧ (parseMethodDescriptor yX1_clawBack.desc).map (fun d => d.parameters.length) = some 1 := by decide +kernel
set_option maxHeartbeats 4000000 in
set_option maxRecDepth 100000 in
theorem c_X1_clawBack {z : ag_Z} {l : Launch} {n : ag_N} {p : ag_P} {s : ag_S} {fu : Nat} {x0 : Int32} {x1 : Int32} {out : ag_S} (v0 : vp_in x0 (n 4)) (hf : f_X1_clawBack fu x0 x1 s = some out) : Met l yX1_clawBack (ag_ws yX1_clawBack cX1_clawBack 2 ((none))) rm_X1_clawBack (va_Pc [.ref (p 4 x0), .int x1] (ag_Pre z n p s)) (ag_Rv z n p out) 0 0 (ag_A z) := by
  refine Met.ofW (cc := cX1_clawBack) (maxL := 2) (ret := (none)) (by decide) rfl ?_
  intro p0 e st m args below meth c s9 B hml hv
  obtain ⟨ha, h0, hG, hW⟩ := hv
  have hx := B.exec
  have hb := B.bytes
  have hr := B.returns
  have hts := atoms_spec (ws := ag_ws yX1_clawBack cX1_clawBack 2 ((none))) B.pre
  have hT : ∀ w ∈ ag_tbl, w.before args st = true := fun w h => hts w (List.mem_cons_of_mem _ h)
  have hown : st.vm.findClass RX1 = some m.cls := findClass_of_methodNamed B.named
  have hlocks := B.notSynchronized
  have hS : va_S (ag_A z) st.heap st.heap [] := va_S.rf
  obtain ⟨ls, hls, hl⟩ : ∃ ls, entryFrame m args 2 = F0 m 0 ls [] ∧ lv_has ls 2 [(0, .ref (p 4 x0)), (1, .int x1)] := by rw [ha]; exact ag_entry m [.ref (p 4 x0), .int x1] (Nat.le_of_ble_eq_true rfl)
  rw [hls]
  unfold f_X1_clawBack at hf
  refine lv_aload_n hx hb dX1_clawBack_0 rfl (lv_at hl 0 rfl) ?_
  refine lv_dup hx hb dX1_clawBack_1 rfl ?_
  refine g4_5 hx hb hT hown hG hW v0 q603 dX1_clawBack_2 ?_
  refine lv_iload_n hx hb dX1_clawBack_5 rfl (lv_at hl 1 rfl) ?_
  refine lv_isub hx hb dX1_clawBack_6 ?_
  refine u4_5 hx hb hT hown hG hW hS v0 q603 dX1_clawBack_7 (fun H locs hW hS => ?_)
  refine lv_aload_n hx hb dX1_clawBack_10 rfl (lv_at hl 0 rfl) ?_
  obtain ⟨r11, hg11, hf⟩ := ag_bs hf
  refine ag_cVv hx hb hml hT hown hG h0 hS hW (c_X1_cut v0 hg11) ⟨rfl, rfl⟩ q678 q527 q528 q23 q529 dd_yX1_cut ⟨Nat.le_of_ble_eq_true rfl, Nat.le_of_ble_eq_true rfl⟩ v0 rfl rfl hl.1 rfl (Nat.le_of_ble_eq_true rfl) ⟨Nat.le_of_ble_eq_true rfl, Nat.le_of_ble_eq_true rfl⟩ dX1_clawBack_11 (fun H locs hW hS => ?_)
  refine lv_aload_n hx hb dX1_clawBack_14 rfl (lv_at hl 0 rfl) ?_
  refine g4_1 hx hb hT hown hG hW v0 q595 dX1_clawBack_15 ?_
  have o15 := ag_W.okf hW (k := 4) (f := 1) (t := 1) rfl rfl (by decide) x0
  refine lv_dup hx hb dX1_clawBack_18 (ag_cat _) ?_
  obtain ⟨m19_1, hf⟩ := ag_n hf
  have e19_1 := (ag_refq (z := z) (p := p) o15 m19_1)
  have v19_1 := (ag_ref (z := z) (p := p) o15 m19_1).2
  rw [e19_1]
  refine g1_1 hx hb hT hown hG hW v19_1 q144 dX1_clawBack_19 ?_
  refine lv_iload_n hx hb dX1_clawBack_22 rfl (lv_at hl 1 rfl) ?_
  refine lv_iadd hx hb dX1_clawBack_23 ?_
  refine u1_1 hx hb hT hown hG hW hS v19_1 q144 dX1_clawBack_24 (fun H locs hW hS => ?_)
  refine lv_aload_n hx hb dX1_clawBack_27 rfl (lv_at hl 0 rfl) ?_
  refine g4_0 hx hb hT hown hG hW v0 q593 dX1_clawBack_28 ?_
  have o28 := ag_W.okf hW (k := 4) (f := 0) (t := 2) rfl rfl (by decide) x0
  refine lv_dup hx hb dX1_clawBack_31 (ag_cat _) ?_
  obtain ⟨m32_2, hf⟩ := ag_n hf
  have e32_2 := (ag_refq (z := z) (p := p) o28 m32_2)
  have v32_2 := (ag_ref (z := z) (p := p) o28 m32_2).2
  rw [e32_2]
  refine g2_4 hx hb hT hown hG hW v32_2 q314 dX1_clawBack_32 ?_
  refine lv_iload_n hx hb dX1_clawBack_35 rfl (lv_at hl 1 rfl) ?_
  refine lv_iadd hx hb dX1_clawBack_36 ?_
  refine u2_4 hx hb hT hown hG hW hS v32_2 q314 dX1_clawBack_37 (fun H locs hW hS => ?_)
  exact ag_vret hx hb hr hlocks hS (Option.some.inj hf ▸ hW) dX1_clawBack_40
