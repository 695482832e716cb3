def f_J3_checkIndex_8e157 (fu : Nat) (x0 : Int32) (x1 : Int32) (s : ag_S) : Option Int32 := if x0 < 0 then (none) else (if x0 < x1 then (some x0) else (none))
abbrev rm_J3_checkIndex_8e157 : Room := { frames := 0, cells := 0, slots := 0, locals := 0 }
theorem dd_yJ3_checkIndex_8e157 : yJ3_checkIndex_8e157.cls ≠ "java/lang/invoke/MethodHandle" ∧ yJ3_checkIndex_8e157.cls ≠ "java/lang/invoke/VarHandle" ∧ (parseMethodDescriptor yJ3_checkIndex_8e157.desc).map (fun d => d.parameters.length) = some 3 := by decide +kernel
set_option maxHeartbeats 4000000 in
set_option maxRecDepth 100000 in
theorem c_J3_checkIndex_8e157 {z : ag_Z} {l : Launch} {n : ag_N} {p : ag_P} {s : ag_S} {fu : Nat} {x0 : Int32} {x1 : Int32} {out : Int32}  (hf : f_J3_checkIndex_8e157 fu x0 x1 s = some out) : Met l yJ3_checkIndex_8e157 (ag_ws yJ3_checkIndex_8e157 cJ3_checkIndex_8e157 3 ((some FieldType.int))) rm_J3_checkIndex_8e157 (va_Pc [.int x0, .int x1, .null] (ag_Pre z n p s)) (ag_Ri z n p out s) 0 0 (ag_A z) := by
  refine Met.ofW (cc := cJ3_checkIndex_8e157) (maxL := 3) (ret := (some FieldType.int)) (by decide) rfl ?_
  intro p0 e st m args below meth c s9 B hml hv
  obtain ⟨ha, h0, hG, hW⟩ := hv
  have hx := B.exec
  have hb := B.bytes
  have hr := B.returns
  have hts := atoms_spec (ws := ag_ws yJ3_checkIndex_8e157 cJ3_checkIndex_8e157 3 ((some FieldType.int))) B.pre
  have hT : ∀ w ∈ ag_tbl, w.before args st = true := fun w h => hts w (List.mem_cons_of_mem _ h)
  have hown : st.vm.findClass RJ3 = some m.cls := findClass_of_methodNamed B.named
  have hlocks := B.notSynchronized
  have hS : va_S (ag_A z) st.heap st.heap [] := va_S.rf
  obtain ⟨ls, hls, hl⟩ : ∃ ls, entryFrame m args 3 = F0 m 0 ls [] ∧ lv_has ls 3 [(0, .int x0), (1, .int x1), (2, .null)] := by rw [ha]; exact ag_entry m [.int x0, .int x1, .null] (Nat.le_of_ble_eq_true rfl)
  rw [hls]
  unfold f_J3_checkIndex_8e157 at hf
  refine lv_iload_n hx hb dJ3_checkIndex_8e157_0 rfl (lv_at hl 0 rfl) ?_
  refine lv_if_lt (tgt := 9) hx hb dJ3_checkIndex_8e157_1 (by decide) (fun c1 => ?_) (fun c1 => ?_)
  · have hf := ag_t c1 hf
    cases hf
  · have hf := ag_f c1 hf
    refine lv_iload_n hx hb dJ3_checkIndex_8e157_4 rfl (lv_at hl 0 rfl) ?_
    refine lv_iload_n hx hb dJ3_checkIndex_8e157_5 rfl (lv_at hl 1 rfl) ?_
    refine lv_icmp_lt (tgt := 16) hx hb dJ3_checkIndex_8e157_6 (by decide) (fun c6 => ?_) (fun c6 => ?_)
    · have hf := ag_t c6 hf
      refine lv_iload_n hx hb dJ3_checkIndex_8e157_16 rfl (lv_at hl 0 rfl) ?_
      exact ag_iret hx hb hr rfl hlocks hS (Option.some.inj hf) hW dJ3_checkIndex_8e157_17
    · have hf := ag_f c6 hf
      cases hf
def f_J15_checkIndex_7cf53 (fu : Nat) (x0 : Int32) (x1 : Int32) (s : ag_S) : Option Int32 := ag_bd (f_J3_checkIndex_8e157 fu x0 x1 s) fun r3 => some r3
abbrev rm_J15_checkIndex_7cf53 : Room := { frames := 1, cells := 0, slots := 0, locals := 22 }
theorem dd_yJ15_checkIndex_7cf53 : yJ15_checkIndex_7cf53.cls ≠ "java/lang/invoke/MethodHandle" ∧ yJ15_checkIndex_7cf53.cls ≠ "java/lang/invoke/VarHandle" ∧ (parseMethodDescriptor yJ15_checkIndex_7cf53.desc).map (fun d => d.parameters.length) = some 2 := by decide +kernel
set_option maxHeartbeats 4000000 in
set_option maxRecDepth 100000 in
theorem c_J15_checkIndex_7cf53 {z : ag_Z} {l : Launch} {n : ag_N} {p : ag_P} {s : ag_S} {fu : Nat} {x0 : Int32} {x1 : Int32} {out : Int32}  (hf : f_J15_checkIndex_7cf53 fu x0 x1 s = some out) : Met l yJ15_checkIndex_7cf53 (ag_ws yJ15_checkIndex_7cf53 cJ15_checkIndex_7cf53 2 ((some FieldType.int))) rm_J15_checkIndex_7cf53 (va_Pc [.int x0, .int x1] (ag_Pre z n p s)) (ag_Ri z n p out s) 0 0 (ag_A z) := by
  refine Met.ofW (cc := cJ15_checkIndex_7cf53) (maxL := 2) (ret := (some FieldType.int)) (by decide) rfl ?_
  intro p0 e st m args below meth c s9 B hml hv
  obtain ⟨ha, h0, hG, hW⟩ := hv
  have hx := B.exec
  have hb := B.bytes
  have hr := B.returns
  have hts := atoms_spec (ws := ag_ws yJ15_checkIndex_7cf53 cJ15_checkIndex_7cf53 2 ((some FieldType.int))) B.pre
  have hT : ∀ w ∈ ag_tbl, w.before args st = true := fun w h => hts w (List.mem_cons_of_mem _ h)
  have hown : st.vm.findClass RJ15 = some m.cls := findClass_of_methodNamed B.named
  have hlocks := B.notSynchronized
  have hS : va_S (ag_A z) st.heap st.heap [] := va_S.rf
  obtain ⟨ls, hls, hl⟩ : ∃ ls, entryFrame m args 2 = F0 m 0 ls [] ∧ lv_has ls 2 [(0, .int x0), (1, .int x1)] := by rw [ha]; exact ag_entry m [.int x0, .int x1] (Nat.le_of_ble_eq_true rfl)
  rw [hls]
  unfold f_J15_checkIndex_7cf53 at hf
  refine lv_iload_n hx hb dJ15_checkIndex_7cf53_0 rfl (lv_at hl 0 rfl) ?_
  refine lv_iload_n hx hb dJ15_checkIndex_7cf53_1 rfl (lv_at hl 1 rfl) ?_
  refine lv_null hx hb dJ15_checkIndex_7cf53_2 ?_
  obtain ⟨r3, hg3, hf⟩ := ag_bs hf
  refine ag_cSi hx hb hml hT hown hG h0 hS hW (c_J3_checkIndex_8e157 hg3) ⟨rfl, rfl⟩ q272 q273 q17 q274 dd_yJ3_checkIndex_8e157 ⟨Nat.le_of_ble_eq_true rfl, Nat.le_of_ble_eq_true rfl⟩ hl.1 rfl (Nat.le_of_ble_eq_true rfl) ⟨Nat.le_of_ble_eq_true rfl, Nat.le_of_ble_eq_true rfl⟩ dJ15_checkIndex_7cf53_3 (fun H locs hW hS => ?_)
  exact ag_iret hx hb hr rfl hlocks hS (Option.some.inj hf) hW dJ15_checkIndex_7cf53_6
def f_Jx4a65c_size_8abf5_0 (fu : Nat) (s : ag_S) : Option Int32 := some (s 10 2 0)
abbrev rm_Jx4a65c_size_8abf5_0 : Room := { frames := 0, cells := 0, slots := 0, locals := 0 }
theorem dd_yJx4a65c_size_8abf5 : yJx4a65c_size_8abf5.cls = RJx4a65c ∧ yJx4a65c_size_8abf5.cls ≠ "java/lang/invoke/MethodHandle" ∧ yJx4a65c_size_8abf5.cls ≠ "java/lang/invoke/VarHandle" ∧ (parseMethodDescriptor yJx4a65c_size_8abf5.desc).map (fun d => d.parameters.length) = some 0 := by decide +kernel
set_option maxHeartbeats 4000000 in
set_option maxRecDepth 100000 in
theorem c_Jx4a65c_size_8abf5_0 {z : ag_Z} {l : Launch} {n : ag_N} {p : ag_P} {s : ag_S} {fu : Nat} {out : Int32} (t10 : vp_in 0 (n 10)) (hf : f_Jx4a65c_size_8abf5_0 fu  s = some out) : Met l yJx4a65c_size_8abf5 (ag_ws yJx4a65c_size_8abf5 cJx4a65c_size_8abf5 1 ((some FieldType.int))) rm_Jx4a65c_size_8abf5_0 (va_Pc [.ref (p 10 0)] (ag_Pre z n p s)) (ag_Ri z n p out s) 0 0 (ag_A z) := by
  refine Met.ofW (cc := cJx4a65c_size_8abf5) (maxL := 1) (ret := (some FieldType.int)) (by decide) rfl ?_
  intro p0 e st m args below meth c s9 B hml hv
  obtain ⟨ha, h0, hG, hW⟩ := hv
  have hx := B.exec
  have hb := B.bytes
  have hr := B.returns
  have hts := atoms_spec (ws := ag_ws yJx4a65c_size_8abf5 cJx4a65c_size_8abf5 1 ((some FieldType.int))) B.pre
  have hT : ∀ w ∈ ag_tbl, w.before args st = true := fun w h => hts w (List.mem_cons_of_mem _ h)
  have hown : st.vm.findClass RJx4a65c = some m.cls := findClass_of_methodNamed B.named
  have hlocks := B.notSynchronized
  have hS : va_S (ag_A z) st.heap st.heap [] := va_S.rf
  obtain ⟨ls, hls, hl⟩ : ∃ ls, entryFrame m args 1 = F0 m 0 ls [] ∧ lv_has ls 1 [(0, .ref (p 10 0))] := by rw [ha]; exact ag_entry m [.ref (p 10 0)] (Nat.le_of_ble_eq_true rfl)
  rw [hls]
  unfold f_Jx4a65c_size_8abf5_0 at hf
  refine lv_aload_n hx hb dJx4a65c_size_8abf5_0 rfl (lv_at hl 0 rfl) ?_
  refine g10_2 hx hb hT hown hG hW t10 q47 dJx4a65c_size_8abf5_1 ?_
  exact ag_iret hx hb hr rfl hlocks hS (Option.some.inj hf) hW dJx4a65c_size_8abf5_4
def f_Jx4a65c_elementData_915e3_0 (fu : Nat) (x1 : Int32) (s : ag_S) : Option Int32 := if s 10 1 0 = -1 ∨ s 10 1 0 = -2 then none else if x1 < 0 ∨ (s 80 0 (s 10 1 0)).toNatClampNeg ≤ x1.toNatClampNeg then none else if s 20 (s 10 1 0).toNatClampNeg x1 = -1 then none else some (s 20 (s 10 1 0).toNatClampNeg x1)
abbrev rm_Jx4a65c_elementData_915e3_0 : Room := { frames := 0, cells := 0, slots := 0, locals := 0 }
theorem dd_yJx4a65c_elementData_915e3 : yJx4a65c_elementData_915e3.cls = RJx4a65c ∧ yJx4a65c_elementData_915e3.cls ≠ "java/lang/invoke/MethodHandle" ∧ yJx4a65c_elementData_915e3.cls ≠ "java/lang/invoke/VarHandle" ∧ (parseMethodDescriptor yJx4a65c_elementData_915e3.desc).map (fun d => d.parameters.length) = some 1 := by decide +kernel
set_option maxHeartbeats 4000000 in
set_option maxRecDepth 100000 in
theorem c_Jx4a65c_elementData_915e3_0 {z : ag_Z} {l : Launch} {n : ag_N} {p : ag_P} {s : ag_S} {fu : Nat} {x1 : Int32} {out : Int32} (t10 : vp_in 0 (n 10)) (hf : f_Jx4a65c_elementData_915e3_0 fu x1 s = some out) : Met l yJx4a65c_elementData_915e3 (ag_ws yJx4a65c_elementData_915e3 cJx4a65c_elementData_915e3 2 ((some (FieldType.object "java/lang/Object")))) rm_Jx4a65c_elementData_915e3_0 (va_Pc [.ref (p 10 0), .int x1] (ag_Pre z n p s)) (ag_Rr z n p 0 out s) 0 0 (ag_A z) := by
  refine Met.ofW (cc := cJx4a65c_elementData_915e3) (maxL := 2) (ret := (some (FieldType.object "java/lang/Object"))) (by decide) rfl ?_
  intro p0 e st m args below meth c s9 B hml hv
  obtain ⟨ha, h0, hG, hW⟩ := hv
  have hx := B.exec
  have hb := B.bytes
  have hr := B.returns
  have hts := atoms_spec (ws := ag_ws yJx4a65c_elementData_915e3 cJx4a65c_elementData_915e3 2 ((some (FieldType.object "java/lang/Object")))) B.pre
  have hT : ∀ w ∈ ag_tbl, w.before args st = true := fun w h => hts w (List.mem_cons_of_mem _ h)
  have hown : st.vm.findClass RJx4a65c = some m.cls := findClass_of_methodNamed B.named
  have hlocks := B.notSynchronized
  have hS : va_S (ag_A z) st.heap st.heap [] := va_S.rf
  obtain ⟨ls, hls, hl⟩ : ∃ ls, entryFrame m args 2 = F0 m 0 ls [] ∧ lv_has ls 2 [(0, .ref (p 10 0)), (1, .int x1)] := by rw [ha]; exact ag_entry m [.ref (p 10 0), .int x1] (Nat.le_of_ble_eq_true rfl)
  rw [hls]
  unfold f_Jx4a65c_elementData_915e3_0 at hf
  refine lv_aload_n hx hb dJx4a65c_elementData_915e3_0 rfl (lv_at hl 0 rfl) ?_
  refine g10_1 hx hb hT hown hG hW t10 q46 dJx4a65c_elementData_915e3_1 ?_
  refine lv_iload_n hx hb dJx4a65c_elementData_915e3_4 rfl (lv_at hl 1 rfl) ?_
  obtain ⟨m5, hf⟩ := ag_n hf
  obtain ⟨e5, v5⟩ := ag_lref hW (k := 10) (f := 1) (t := 20) rfl rfl m5
  rw [e5]
  obtain ⟨a5, hf⟩ := ag_n hf
  have o5 := hW.okl (k := 20) (j := 0) (by decide) rfl (s 10 1 0).toNatClampNeg x1
  refine ag_aald hx hb hG hW v5 rfl rfl rfl rfl a5 dJx4a65c_elementData_915e3_5 ?_
  obtain ⟨m6_1, hf⟩ := ag_n hf
  have e6_1 := (ag_refq (z := z) (p := p) o5 m6_1)
  have v6_1 := (ag_ref (z := z) (p := p) o5 m6_1).2
  rw [e6_1]
  exact ag_aret hx hb hr (Or.inl ⟨_, rfl⟩) hlocks hS (Option.some.inj hf) v6_1 hW dJx4a65c_elementData_915e3_6
def f_Jx4a65c_get_915e3_0 (fu : Nat) (x1 : Int32) (s : ag_S) : Option Int32 := ag_bd (f_J15_checkIndex_7cf53 fu x1 (s 10 2 0) s) fun r5 => ag_bd (f_Jx4a65c_elementData_915e3_0 fu x1 s) fun r11 => some r11
abbrev rm_Jx4a65c_get_915e3_0 : Room := { frames := 2, cells := 0, slots := 0, locals := 43 }
theorem dd_yJx4a65c_get_915e3 : yJx4a65c_get_915e3.cls = RJx4a65c ∧ yJx4a65c_get_915e3.cls ≠ "java/lang/invoke/MethodHandle" ∧ yJx4a65c_get_915e3.cls ≠ "java/lang/invoke/VarHandle" ∧ (parseMethodDescriptor yJx4a65c_get_915e3.desc).map (fun d => d.parameters.length) = some 1 := by decide +kernel
set_option maxHeartbeats 4000000 in
set_option maxRecDepth 100000 in
theorem c_Jx4a65c_get_915e3_0 {z : ag_Z} {l : Launch} {n : ag_N} {p : ag_P} {s : ag_S} {fu : Nat} {x1 : Int32} {out : Int32} (t10 : vp_in 0 (n 10)) (hf : f_Jx4a65c_get_915e3_0 fu x1 s = some out) : Met l yJx4a65c_get_915e3 (ag_ws yJx4a65c_get_915e3 cJx4a65c_get_915e3 2 ((some (FieldType.object "java/lang/Object")))) rm_Jx4a65c_get_915e3_0 (va_Pc [.ref (p 10 0), .int x1] (ag_Pre z n p s)) (ag_Rr z n p 0 out s) 0 0 (ag_A z) := by
  refine Met.ofW (cc := cJx4a65c_get_915e3) (maxL := 2) (ret := (some (FieldType.object "java/lang/Object"))) (by decide) rfl ?_
  intro p0 e st m args below meth c s9 B hml hv
  obtain ⟨ha, h0, hG, hW⟩ := hv
  have hx := B.exec
  have hb := B.bytes
  have hr := B.returns
  have hts := atoms_spec (ws := ag_ws yJx4a65c_get_915e3 cJx4a65c_get_915e3 2 ((some (FieldType.object "java/lang/Object")))) B.pre
  have hT : ∀ w ∈ ag_tbl, w.before args st = true := fun w h => hts w (List.mem_cons_of_mem _ h)
  have hown : st.vm.findClass RJx4a65c = some m.cls := findClass_of_methodNamed B.named
  have hlocks := B.notSynchronized
  have hS : va_S (ag_A z) st.heap st.heap [] := va_S.rf
  obtain ⟨ls, hls, hl⟩ : ∃ ls, entryFrame m args 2 = F0 m 0 ls [] ∧ lv_has ls 2 [(0, .ref (p 10 0)), (1, .int x1)] := by rw [ha]; exact ag_entry m [.ref (p 10 0), .int x1] (Nat.le_of_ble_eq_true rfl)
  rw [hls]
  unfold f_Jx4a65c_get_915e3_0 at hf
  refine lv_iload_n hx hb dJx4a65c_get_915e3_0 rfl (lv_at hl 1 rfl) ?_
  refine lv_aload_n hx hb dJx4a65c_get_915e3_1 rfl (lv_at hl 0 rfl) ?_
  refine g10_2 hx hb hT hown hG hW t10 q47 dJx4a65c_get_915e3_2 ?_
  obtain ⟨r5, hg5, hf⟩ := ag_bs hf
  refine ag_cSi hx hb hml hT hown hG h0 hS hW (c_J15_checkIndex_7cf53 hg5) ⟨rfl, rfl⟩ q269 q270 q16 q271 dd_yJ15_checkIndex_7cf53 ⟨Nat.le_of_ble_eq_true rfl, Nat.le_of_ble_eq_true rfl⟩ hl.1 rfl (Nat.le_of_ble_eq_true rfl) ⟨Nat.le_of_ble_eq_true rfl, Nat.le_of_ble_eq_true rfl⟩ dJx4a65c_get_915e3_5 (fun H locs hW hS => ?_)
  refine lv_pop hx hb dJx4a65c_get_915e3_8 rfl ?_
  refine lv_aload_n hx hb dJx4a65c_get_915e3_9 rfl (lv_at hl 0 rfl) ?_
  refine lv_iload_n hx hb dJx4a65c_get_915e3_10 rfl (lv_at hl 1 rfl) ?_
  obtain ⟨r11, hg11, hf⟩ := ag_bs hf
  refine ag_cVr hx hb hml hT hown hG h0 hS hW (c_Jx4a65c_elementData_915e3_0 t10 hg11) ⟨rfl, rfl⟩ q275 q276 q277 q4 q278 dd_yJx4a65c_elementData_915e3 ⟨Nat.le_of_ble_eq_true rfl, Nat.le_of_ble_eq_true rfl⟩ t10 rfl rfl hl.1 rfl (Nat.le_of_ble_eq_true rfl) ⟨Nat.le_of_ble_eq_true rfl, Nat.le_of_ble_eq_true rfl⟩ dJx4a65c_get_915e3_11 (fun H locs hW hS v11 => ?_)
  exact ag_aret hx hb hr (Or.inl ⟨_, rfl⟩) hlocks hS (Option.some.inj hf) v11 hW dJx4a65c_get_915e3_14
def f_Jx4a65c_size_8abf5_1 (fu : Nat) (s : ag_S) : Option Int32 := some (s 11 2 0)
abbrev rm_Jx4a65c_size_8abf5_1 : Room := { frames := 0, cells := 0, slots := 0, locals := 0 }
set_option maxHeartbeats 4000000 in
set_option maxRecDepth 100000 in
theorem c_Jx4a65c_size_8abf5_1 {z : ag_Z} {l : Launch} {n : ag_N} {p : ag_P} {s : ag_S} {fu : Nat} {out : Int32} (t11 : vp_in 0 (n 11)) (hf : f_Jx4a65c_size_8abf5_1 fu  s = some out) : Met l yJx4a65c_size_8abf5 (ag_ws yJx4a65c_size_8abf5 cJx4a65c_size_8abf5 1 ((some FieldType.int))) rm_Jx4a65c_size_8abf5_1 (va_Pc [.ref (p 11 0)] (ag_Pre z n p s)) (ag_Ri z n p out s) 0 0 (ag_A z) := by
  refine Met.ofW (cc := cJx4a65c_size_8abf5) (maxL := 1) (ret := (some FieldType.int)) (by decide) rfl ?_
  intro p0 e st m args below meth c s9 B hml hv
  obtain ⟨ha, h0, hG, hW⟩ := hv
  have hx := B.exec
  have hb := B.bytes
  have hr := B.returns
  have hts := atoms_spec (ws := ag_ws yJx4a65c_size_8abf5 cJx4a65c_size_8abf5 1 ((some FieldType.int))) B.pre
  have hT : ∀ w ∈ ag_tbl, w.before args st = true := fun w h => hts w (List.mem_cons_of_mem _ h)
  have hown : st.vm.findClass RJx4a65c = some m.cls := findClass_of_methodNamed B.named
  have hlocks := B.notSynchronized
  have hS : va_S (ag_A z) st.heap st.heap [] := va_S.rf
  obtain ⟨ls, hls, hl⟩ : ∃ ls, entryFrame m args 1 = F0 m 0 ls [] ∧ lv_has ls 1 [(0, .ref (p 11 0))] := by rw [ha]; exact ag_entry m [.ref (p 11 0)] (Nat.le_of_ble_eq_true rfl)
  rw [hls]
  unfold f_Jx4a65c_size_8abf5_1 at hf
  refine lv_aload_n hx hb dJx4a65c_size_8abf5_0 rfl (lv_at hl 0 rfl) ?_
  refine g11_2 hx hb hT hown hG hW t11 q47 dJx4a65c_size_8abf5_1 ?_
  exact ag_iret hx hb hr rfl hlocks hS (Option.some.inj hf) hW dJx4a65c_size_8abf5_4
def f_Jx4a65c_elementData_915e3_1 (fu : Nat) (x1 : Int32) (s : ag_S) : Option Int32 := if s 11 1 0 = -1 ∨ s 11 1 0 = -2 then none else if x1 < 0 ∨ (s 81 0 (s 11 1 0)).toNatClampNeg ≤ x1.toNatClampNeg then none else if s 21 (s 11 1 0).toNatClampNeg x1 = -1 then none else some (s 21 (s 11 1 0).toNatClampNeg x1)
abbrev rm_Jx4a65c_elementData_915e3_1 : Room := { frames := 0, cells := 0, slots := 0, locals := 0 }
set_option maxHeartbeats 4000000 in
set_option maxRecDepth 100000 in
theorem c_Jx4a65c_elementData_915e3_1 {z : ag_Z} {l : Launch} {n : ag_N} {p : ag_P} {s : ag_S} {fu : Nat} {x1 : Int32} {out : Int32} (t11 : vp_in 0 (n 11)) (hf : f_Jx4a65c_elementData_915e3_1 fu x1 s = some out) : Met l yJx4a65c_elementData_915e3 (ag_ws yJx4a65c_elementData_915e3 cJx4a65c_elementData_915e3 2 ((some (FieldType.object "java/lang/Object")))) rm_Jx4a65c_elementData_915e3_1 (va_Pc [.ref (p 11 0), .int x1] (ag_Pre z n p s)) (ag_Rr z n p 1 out s) 0 0 (ag_A z) := by
  refine Met.ofW (cc := cJx4a65c_elementData_915e3) (maxL := 2) (ret := (some (FieldType.object "java/lang/Object"))) (by decide) rfl ?_
  intro p0 e st m args below meth c s9 B hml hv
  obtain ⟨ha, h0, hG, hW⟩ := hv
  have hx := B.exec
  have hb := B.bytes
  have hr := B.returns
  have hts := atoms_spec (ws := ag_ws yJx4a65c_elementData_915e3 cJx4a65c_elementData_915e3 2 ((some (FieldType.object "java/lang/Object")))) B.pre
  have hT : ∀ w ∈ ag_tbl, w.before args st = true := fun w h => hts w (List.mem_cons_of_mem _ h)
  have hown : st.vm.findClass RJx4a65c = some m.cls := findClass_of_methodNamed B.named
  have hlocks := B.notSynchronized
  have hS : va_S (ag_A z) st.heap st.heap [] := va_S.rf
  obtain ⟨ls, hls, hl⟩ : ∃ ls, entryFrame m args 2 = F0 m 0 ls [] ∧ lv_has ls 2 [(0, .ref (p 11 0)), (1, .int x1)] := by rw [ha]; exact ag_entry m [.ref (p 11 0), .int x1] (Nat.le_of_ble_eq_true rfl)
  rw [hls]
  unfold f_Jx4a65c_elementData_915e3_1 at hf
  refine lv_aload_n hx hb dJx4a65c_elementData_915e3_0 rfl (lv_at hl 0 rfl) ?_
  refine g11_1 hx hb hT hown hG hW t11 q46 dJx4a65c_elementData_915e3_1 ?_
  refine lv_iload_n hx hb dJx4a65c_elementData_915e3_4 rfl (lv_at hl 1 rfl) ?_
  obtain ⟨m5, hf⟩ := ag_n hf
  obtain ⟨e5, v5⟩ := ag_lref hW (k := 11) (f := 1) (t := 21) rfl rfl m5
  rw [e5]
  obtain ⟨a5, hf⟩ := ag_n hf
  have o5 := hW.okl (k := 21) (j := 1) (by decide) rfl (s 11 1 0).toNatClampNeg x1
  refine ag_aald hx hb hG hW v5 rfl rfl rfl rfl a5 dJx4a65c_elementData_915e3_5 ?_
  obtain ⟨m6_1, hf⟩ := ag_n hf
  have e6_1 := (ag_refq (z := z) (p := p) o5 m6_1)
  have v6_1 := (ag_ref (z := z) (p := p) o5 m6_1).2
  rw [e6_1]
  exact ag_aret hx hb hr (Or.inl ⟨_, rfl⟩) hlocks hS (Option.some.inj hf) v6_1 hW dJx4a65c_elementData_915e3_6
def f_Jx4a65c_get_915e3_1 (fu : Nat) (x1 : Int32) (s : ag_S) : Option Int32 := ag_bd (f_J15_checkIndex_7cf53 fu x1 (s 11 2 0) s) fun r5 => ag_bd (f_Jx4a65c_elementData_915e3_1 fu x1 s) fun r11 => some r11
abbrev rm_Jx4a65c_get_915e3_1 : Room := { frames := 2, cells := 0, slots := 0, locals := 43 }
set_option maxHeartbeats 4000000 in
set_option maxRecDepth 100000 in
theorem c_Jx4a65c_get_915e3_1 {z : ag_Z} {l : Launch} {n : ag_N} {p : ag_P} {s : ag_S} {fu : Nat} {x1 : Int32} {out : Int32} (t11 : vp_in 0 (n 11)) (hf : f_Jx4a65c_get_915e3_1 fu x1 s = some out) : Met l yJx4a65c_get_915e3 (ag_ws yJx4a65c_get_915e3 cJx4a65c_get_915e3 2 ((some (FieldType.object "java/lang/Object")))) rm_Jx4a65c_get_915e3_1 (va_Pc [.ref (p 11 0), .int x1] (ag_Pre z n p s)) (ag_Rr z n p 1 out s) 0 0 (ag_A z) := by
  refine Met.ofW (cc := cJx4a65c_get_915e3) (maxL := 2) (ret := (some (FieldType.object "java/lang/Object"))) (by decide) rfl ?_
  intro p0 e st m args below meth c s9 B hml hv
  obtain ⟨ha, h0, hG, hW⟩ := hv
  have hx := B.exec
  have hb := B.bytes
  have hr := B.returns
  have hts := atoms_spec (ws := ag_ws yJx4a65c_get_915e3 cJx4a65c_get_915e3 2 ((some (FieldType.object "java/lang/Object")))) B.pre
  have hT : ∀ w ∈ ag_tbl, w.before args st = true := fun w h => hts w (List.mem_cons_of_mem _ h)
  have hown : st.vm.findClass RJx4a65c = some m.cls := findClass_of_methodNamed B.named
  have hlocks := B.notSynchronized
  have hS : va_S (ag_A z) st.heap st.heap [] := va_S.rf
  obtain ⟨ls, hls, hl⟩ : ∃ ls, entryFrame m args 2 = F0 m 0 ls [] ∧ lv_has ls 2 [(0, .ref (p 11 0)), (1, .int x1)] := by rw [ha]; exact ag_entry m [.ref (p 11 0), .int x1] (Nat.le_of_ble_eq_true rfl)
  rw [hls]
  unfold f_Jx4a65c_get_915e3_1 at hf
  refine lv_iload_n hx hb dJx4a65c_get_915e3_0 rfl (lv_at hl 1 rfl) ?_
  refine lv_aload_n hx hb dJx4a65c_get_915e3_1 rfl (lv_at hl 0 rfl) ?_
  refine g11_2 hx hb hT hown hG hW t11 q47 dJx4a65c_get_915e3_2 ?_
  obtain ⟨r5, hg5, hf⟩ := ag_bs hf
  refine ag_cSi hx hb hml hT hown hG h0 hS hW (c_J15_checkIndex_7cf53 hg5) ⟨rfl, rfl⟩ q269 q270 q16 q271 dd_yJ15_checkIndex_7cf53 ⟨Nat.le_of_ble_eq_true rfl, Nat.le_of_ble_eq_true rfl⟩ hl.1 rfl (Nat.le_of_ble_eq_true rfl) ⟨Nat.le_of_ble_eq_true rfl, Nat.le_of_ble_eq_true rfl⟩ dJx4a65c_get_915e3_5 (fun H locs hW hS => ?_)
  refine lv_pop hx hb dJx4a65c_get_915e3_8 rfl ?_
  refine lv_aload_n hx hb dJx4a65c_get_915e3_9 rfl (lv_at hl 0 rfl) ?_
  refine lv_iload_n hx hb dJx4a65c_get_915e3_10 rfl (lv_at hl 1 rfl) ?_
  obtain ⟨r11, hg11, hf⟩ := ag_bs hf
  refine ag_cVr hx hb hml hT hown hG h0 hS hW (c_Jx4a65c_elementData_915e3_1 t11 hg11) ⟨rfl, rfl⟩ q275 q276 q277 q4 q278 dd_yJx4a65c_elementData_915e3 ⟨Nat.le_of_ble_eq_true rfl, Nat.le_of_ble_eq_true rfl⟩ t11 rfl rfl hl.1 rfl (Nat.le_of_ble_eq_true rfl) ⟨Nat.le_of_ble_eq_true rfl, Nat.le_of_ble_eq_true rfl⟩ dJx4a65c_get_915e3_11 (fun H locs hW hS v11 => ?_)
  exact ag_aret hx hb hr (Or.inl ⟨_, rfl⟩) hlocks hS (Option.some.inj hf) v11 hW dJx4a65c_get_915e3_14
def f_Jx4a65c_size_8abf5_2 (fu : Nat) (s : ag_S) : Option Int32 := some (s 12 2 0)
abbrev rm_Jx4a65c_size_8abf5_2 : Room := { frames := 0, cells := 0, slots := 0, locals := 0 }
set_option maxHeartbeats 4000000 in
set_option maxRecDepth 100000 in
theorem c_Jx4a65c_size_8abf5_2 {z : ag_Z} {l : Launch} {n : ag_N} {p : ag_P} {s : ag_S} {fu : Nat} {out : Int32} (t12 : vp_in 0 (n 12)) (hf : f_Jx4a65c_size_8abf5_2 fu  s = some out) : Met l yJx4a65c_size_8abf5 (ag_ws yJx4a65c_size_8abf5 cJx4a65c_size_8abf5 1 ((some FieldType.int))) rm_Jx4a65c_size_8abf5_2 (va_Pc [.ref (p 12 0)] (ag_Pre z n p s)) (ag_Ri z n p out s) 0 0 (ag_A z) := by
  refine Met.ofW (cc := cJx4a65c_size_8abf5) (maxL := 1) (ret := (some FieldType.int)) (by decide) rfl ?_
  intro p0 e st m args below meth c s9 B hml hv
  obtain ⟨ha, h0, hG, hW⟩ := hv
  have hx := B.exec
  have hb := B.bytes
  have hr := B.returns
  have hts := atoms_spec (ws := ag_ws yJx4a65c_size_8abf5 cJx4a65c_size_8abf5 1 ((some FieldType.int))) B.pre
  have hT : ∀ w ∈ ag_tbl, w.before args st = true := fun w h => hts w (List.mem_cons_of_mem _ h)
  have hown : st.vm.findClass RJx4a65c = some m.cls := findClass_of_methodNamed B.named
  have hlocks := B.notSynchronized
  have hS : va_S (ag_A z) st.heap st.heap [] := va_S.rf
  obtain ⟨ls, hls, hl⟩ : ∃ ls, entryFrame m args 1 = F0 m 0 ls [] ∧ lv_has ls 1 [(0, .ref (p 12 0))] := by rw [ha]; exact ag_entry m [.ref (p 12 0)] (Nat.le_of_ble_eq_true rfl)
  rw [hls]
  unfold f_Jx4a65c_size_8abf5_2 at hf
  refine lv_aload_n hx hb dJx4a65c_size_8abf5_0 rfl (lv_at hl 0 rfl) ?_
  refine g12_2 hx hb hT hown hG hW t12 q47 dJx4a65c_size_8abf5_1 ?_
  exact ag_iret hx hb hr rfl hlocks hS (Option.some.inj hf) hW dJx4a65c_size_8abf5_4
def f_Jx4a65c_elementData_915e3_2 (fu : Nat) (x1 : Int32) (s : ag_S) : Option Int32 := if s 12 1 0 = -1 ∨ s 12 1 0 = -2 then none else if x1 < 0 ∨ (s 82 0 (s 12 1 0)).toNatClampNeg ≤ x1.toNatClampNeg then none else if s 22 (s 12 1 0).toNatClampNeg x1 = -1 then none else some (s 22 (s 12 1 0).toNatClampNeg x1)
abbrev rm_Jx4a65c_elementData_915e3_2 : Room := { frames := 0, cells := 0, slots := 0, locals := 0 }
set_option maxHeartbeats 4000000 in
set_option maxRecDepth 100000 in
theorem c_Jx4a65c_elementData_915e3_2 {z : ag_Z} {l : Launch} {n : ag_N} {p : ag_P} {s : ag_S} {fu : Nat} {x1 : Int32} {out : Int32} (t12 : vp_in 0 (n 12)) (hf : f_Jx4a65c_elementData_915e3_2 fu x1 s = some out) : Met l yJx4a65c_elementData_915e3 (ag_ws yJx4a65c_elementData_915e3 cJx4a65c_elementData_915e3 2 ((some (FieldType.object "java/lang/Object")))) rm_Jx4a65c_elementData_915e3_2 (va_Pc [.ref (p 12 0), .int x1] (ag_Pre z n p s)) (ag_Rr z n p 2 out s) 0 0 (ag_A z) := by
  refine Met.ofW (cc := cJx4a65c_elementData_915e3) (maxL := 2) (ret := (some (FieldType.object "java/lang/Object"))) (by decide) rfl ?_
  intro p0 e st m args below meth c s9 B hml hv
  obtain ⟨ha, h0, hG, hW⟩ := hv
  have hx := B.exec
  have hb := B.bytes
  have hr := B.returns
  have hts := atoms_spec (ws := ag_ws yJx4a65c_elementData_915e3 cJx4a65c_elementData_915e3 2 ((some (FieldType.object "java/lang/Object")))) B.pre
  have hT : ∀ w ∈ ag_tbl, w.before args st = true := fun w h => hts w (List.mem_cons_of_mem _ h)
  have hown : st.vm.findClass RJx4a65c = some m.cls := findClass_of_methodNamed B.named
  have hlocks := B.notSynchronized
  have hS : va_S (ag_A z) st.heap st.heap [] := va_S.rf
  obtain ⟨ls, hls, hl⟩ : ∃ ls, entryFrame m args 2 = F0 m 0 ls [] ∧ lv_has ls 2 [(0, .ref (p 12 0)), (1, .int x1)] := by rw [ha]; exact ag_entry m [.ref (p 12 0), .int x1] (Nat.le_of_ble_eq_true rfl)
  rw [hls]
  unfold f_Jx4a65c_elementData_915e3_2 at hf
  refine lv_aload_n hx hb dJx4a65c_elementData_915e3_0 rfl (lv_at hl 0 rfl) ?_
  refine g12_1 hx hb hT hown hG hW t12 q46 dJx4a65c_elementData_915e3_1 ?_
  refine lv_iload_n hx hb dJx4a65c_elementData_915e3_4 rfl (lv_at hl 1 rfl) ?_
  obtain ⟨m5, hf⟩ := ag_n hf
  obtain ⟨e5, v5⟩ := ag_lref hW (k := 12) (f := 1) (t := 22) rfl rfl m5
  rw [e5]
  obtain ⟨a5, hf⟩ := ag_n hf
  have o5 := hW.okl (k := 22) (j := 2) (by decide) rfl (s 12 1 0).toNatClampNeg x1
  refine ag_aald hx hb hG hW v5 rfl rfl rfl rfl a5 dJx4a65c_elementData_915e3_5 ?_
  obtain ⟨m6_1, hf⟩ := ag_n hf
  have e6_1 := (ag_refq (z := z) (p := p) o5 m6_1)
  have v6_1 := (ag_ref (z := z) (p := p) o5 m6_1).2
  rw [e6_1]
  exact ag_aret hx hb hr (Or.inl ⟨_, rfl⟩) hlocks hS (Option.some.inj hf) v6_1 hW dJx4a65c_elementData_915e3_6
def f_Jx4a65c_get_915e3_2 (fu : Nat) (x1 : Int32) (s : ag_S) : Option Int32 := ag_bd (f_J15_checkIndex_7cf53 fu x1 (s 12 2 0) s) fun r5 => ag_bd (f_Jx4a65c_elementData_915e3_2 fu x1 s) fun r11 => some r11
abbrev rm_Jx4a65c_get_915e3_2 : Room := { frames := 2, cells := 0, slots := 0, locals := 43 }
set_option maxHeartbeats 4000000 in
set_option maxRecDepth 100000 in
theorem c_Jx4a65c_get_915e3_2 {z : ag_Z} {l : Launch} {n : ag_N} {p : ag_P} {s : ag_S} {fu : Nat} {x1 : Int32} {out : Int32} (t12 : vp_in 0 (n 12)) (hf : f_Jx4a65c_get_915e3_2 fu x1 s = some out) : Met l yJx4a65c_get_915e3 (ag_ws yJx4a65c_get_915e3 cJx4a65c_get_915e3 2 ((some (FieldType.object "java/lang/Object")))) rm_Jx4a65c_get_915e3_2 (va_Pc [.ref (p 12 0), .int x1] (ag_Pre z n p s)) (ag_Rr z n p 2 out s) 0 0 (ag_A z) := by
  refine Met.ofW (cc := cJx4a65c_get_915e3) (maxL := 2) (ret := (some (FieldType.object "java/lang/Object"))) (by decide) rfl ?_
  intro p0 e st m args below meth c s9 B hml hv
  obtain ⟨ha, h0, hG, hW⟩ := hv
  have hx := B.exec
  have hb := B.bytes
  have hr := B.returns
  have hts := atoms_spec (ws := ag_ws yJx4a65c_get_915e3 cJx4a65c_get_915e3 2 ((some (FieldType.object "java/lang/Object")))) B.pre
  have hT : ∀ w ∈ ag_tbl, w.before args st = true := fun w h => hts w (List.mem_cons_of_mem _ h)
  have hown : st.vm.findClass RJx4a65c = some m.cls := findClass_of_methodNamed B.named
  have hlocks := B.notSynchronized
  have hS : va_S (ag_A z) st.heap st.heap [] := va_S.rf
  obtain ⟨ls, hls, hl⟩ : ∃ ls, entryFrame m args 2 = F0 m 0 ls [] ∧ lv_has ls 2 [(0, .ref (p 12 0)), (1, .int x1)] := by rw [ha]; exact ag_entry m [.ref (p 12 0), .int x1] (Nat.le_of_ble_eq_true rfl)
  rw [hls]
  unfold f_Jx4a65c_get_915e3_2 at hf
  refine lv_iload_n hx hb dJx4a65c_get_915e3_0 rfl (lv_at hl 1 rfl) ?_
  refine lv_aload_n hx hb dJx4a65c_get_915e3_1 rfl (lv_at hl 0 rfl) ?_
  refine g12_2 hx hb hT hown hG hW t12 q47 dJx4a65c_get_915e3_2 ?_
  obtain ⟨r5, hg5, hf⟩ := ag_bs hf
  refine ag_cSi hx hb hml hT hown hG h0 hS hW (c_J15_checkIndex_7cf53 hg5) ⟨rfl, rfl⟩ q269 q270 q16 q271 dd_yJ15_checkIndex_7cf53 ⟨Nat.le_of_ble_eq_true rfl, Nat.le_of_ble_eq_true rfl⟩ hl.1 rfl (Nat.le_of_ble_eq_true rfl) ⟨Nat.le_of_ble_eq_true rfl, Nat.le_of_ble_eq_true rfl⟩ dJx4a65c_get_915e3_5 (fun H locs hW hS => ?_)
  refine lv_pop hx hb dJx4a65c_get_915e3_8 rfl ?_
  refine lv_aload_n hx hb dJx4a65c_get_915e3_9 rfl (lv_at hl 0 rfl) ?_
  refine lv_iload_n hx hb dJx4a65c_get_915e3_10 rfl (lv_at hl 1 rfl) ?_
  obtain ⟨r11, hg11, hf⟩ := ag_bs hf
  refine ag_cVr hx hb hml hT hown hG h0 hS hW (c_Jx4a65c_elementData_915e3_2 t12 hg11) ⟨rfl, rfl⟩ q275 q276 q277 q4 q278 dd_yJx4a65c_elementData_915e3 ⟨Nat.le_of_ble_eq_true rfl, Nat.le_of_ble_eq_true rfl⟩ t12 rfl rfl hl.1 rfl (Nat.le_of_ble_eq_true rfl) ⟨Nat.le_of_ble_eq_true rfl, Nat.le_of_ble_eq_true rfl⟩ dJx4a65c_get_915e3_11 (fun H locs hW hS v11 => ?_)
  exact ag_aret hx hb hr (Or.inl ⟨_, rfl⟩) hlocks hS (Option.some.inj hf) v11 hW dJx4a65c_get_915e3_14
def f_Jx4a65c_size_8abf5_3 (fu : Nat) (s : ag_S) : Option Int32 := some (s 13 2 0)
abbrev rm_Jx4a65c_size_8abf5_3 : Room := { frames := 0, cells := 0, slots := 0, locals := 0 }
set_option maxHeartbeats 4000000 in
set_option maxRecDepth 100000 in
theorem c_Jx4a65c_size_8abf5_3 {z : ag_Z} {l : Launch} {n : ag_N} {p : ag_P} {s : ag_S} {fu : Nat} {out : Int32} (t13 : vp_in 0 (n 13)) (hf : f_Jx4a65c_size_8abf5_3 fu  s = some out) : Met l yJx4a65c_size_8abf5 (ag_ws yJx4a65c_size_8abf5 cJx4a65c_size_8abf5 1 ((some FieldType.int))) rm_Jx4a65c_size_8abf5_3 (va_Pc [.ref (p 13 0)] (ag_Pre z n p s)) (ag_Ri z n p out s) 0 0 (ag_A z) := by
  refine Met.ofW (cc := cJx4a65c_size_8abf5) (maxL := 1) (ret := (some FieldType.int)) (by decide) rfl ?_
  intro p0 e st m args below meth c s9 B hml hv
  obtain ⟨ha, h0, hG, hW⟩ := hv
  have hx := B.exec
  have hb := B.bytes
  have hr := B.returns
  have hts := atoms_spec (ws := ag_ws yJx4a65c_size_8abf5 cJx4a65c_size_8abf5 1 ((some FieldType.int))) B.pre
  have hT : ∀ w ∈ ag_tbl, w.before args st = true := fun w h => hts w (List.mem_cons_of_mem _ h)
  have hown : st.vm.findClass RJx4a65c = some m.cls := findClass_of_methodNamed B.named
  have hlocks := B.notSynchronized
  have hS : va_S (ag_A z) st.heap st.heap [] := va_S.rf
  obtain ⟨ls, hls, hl⟩ : ∃ ls, entryFrame m args 1 = F0 m 0 ls [] ∧ lv_has ls 1 [(0, .ref (p 13 0))] := by rw [ha]; exact ag_entry m [.ref (p 13 0)] (Nat.le_of_ble_eq_true rfl)
  rw [hls]
  unfold f_Jx4a65c_size_8abf5_3 at hf
  refine lv_aload_n hx hb dJx4a65c_size_8abf5_0 rfl (lv_at hl 0 rfl) ?_
  refine g13_2 hx hb hT hown hG hW t13 q47 dJx4a65c_size_8abf5_1 ?_
  exact ag_iret hx hb hr rfl hlocks hS (Option.some.inj hf) hW dJx4a65c_size_8abf5_4
def f_Jx4a65c_elementData_915e3_3 (fu : Nat) (x1 : Int32) (s : ag_S) : Option Int32 := if s 13 1 0 = -1 ∨ s 13 1 0 = -2 then none else if x1 < 0 ∨ (s 83 0 (s 13 1 0)).toNatClampNeg ≤ x1.toNatClampNeg then none else if s 23 (s 13 1 0).toNatClampNeg x1 = -1 then none else some (s 23 (s 13 1 0).toNatClampNeg x1)
abbrev rm_Jx4a65c_elementData_915e3_3 : Room := { frames := 0, cells := 0, slots := 0, locals := 0 }
set_option maxHeartbeats 4000000 in
set_option maxRecDepth 100000 in
theorem c_Jx4a65c_elementData_915e3_3 {z : ag_Z} {l : Launch} {n : ag_N} {p : ag_P} {s : ag_S} {fu : Nat} {x1 : Int32} {out : Int32} (t13 : vp_in 0 (n 13)) (hf : f_Jx4a65c_elementData_915e3_3 fu x1 s = some out) : Met l yJx4a65c_elementData_915e3 (ag_ws yJx4a65c_elementData_915e3 cJx4a65c_elementData_915e3 2 ((some (FieldType.object "java/lang/Object")))) rm_Jx4a65c_elementData_915e3_3 (va_Pc [.ref (p 13 0), .int x1] (ag_Pre z n p s)) (ag_Rr z n p 3 out s) 0 0 (ag_A z) := by
  refine Met.ofW (cc := cJx4a65c_elementData_915e3) (maxL := 2) (ret := (some (FieldType.object "java/lang/Object"))) (by decide) rfl ?_
  intro p0 e st m args below meth c s9 B hml hv
  obtain ⟨ha, h0, hG, hW⟩ := hv
  have hx := B.exec
  have hb := B.bytes
  have hr := B.returns
  have hts := atoms_spec (ws := ag_ws yJx4a65c_elementData_915e3 cJx4a65c_elementData_915e3 2 ((some (FieldType.object "java/lang/Object")))) B.pre
  have hT : ∀ w ∈ ag_tbl, w.before args st = true := fun w h => hts w (List.mem_cons_of_mem _ h)
  have hown : st.vm.findClass RJx4a65c = some m.cls := findClass_of_methodNamed B.named
  have hlocks := B.notSynchronized
  have hS : va_S (ag_A z) st.heap st.heap [] := va_S.rf
  obtain ⟨ls, hls, hl⟩ : ∃ ls, entryFrame m args 2 = F0 m 0 ls [] ∧ lv_has ls 2 [(0, .ref (p 13 0)), (1, .int x1)] := by rw [ha]; exact ag_entry m [.ref (p 13 0), .int x1] (Nat.le_of_ble_eq_true rfl)
  rw [hls]
  unfold f_Jx4a65c_elementData_915e3_3 at hf
  refine lv_aload_n hx hb dJx4a65c_elementData_915e3_0 rfl (lv_at hl 0 rfl) ?_
  refine g13_1 hx hb hT hown hG hW t13 q46 dJx4a65c_elementData_915e3_1 ?_
  refine lv_iload_n hx hb dJx4a65c_elementData_915e3_4 rfl (lv_at hl 1 rfl) ?_
  obtain ⟨m5, hf⟩ := ag_n hf
  obtain ⟨e5, v5⟩ := ag_lref hW (k := 13) (f := 1) (t := 23) rfl rfl m5
  rw [e5]
  obtain ⟨a5, hf⟩ := ag_n hf
  have o5 := hW.okl (k := 23) (j := 3) (by decide) rfl (s 13 1 0).toNatClampNeg x1
  refine ag_aald hx hb hG hW v5 rfl rfl rfl rfl a5 dJx4a65c_elementData_915e3_5 ?_
  obtain ⟨m6_1, hf⟩ := ag_n hf
  have e6_1 := (ag_refq (z := z) (p := p) o5 m6_1)
  have v6_1 := (ag_ref (z := z) (p := p) o5 m6_1).2
  rw [e6_1]
  exact ag_aret hx hb hr (Or.inl ⟨_, rfl⟩) hlocks hS (Option.some.inj hf) v6_1 hW dJx4a65c_elementData_915e3_6
def f_Jx4a65c_get_915e3_3 (fu : Nat) (x1 : Int32) (s : ag_S) : Option Int32 := ag_bd (f_J15_checkIndex_7cf53 fu x1 (s 13 2 0) s) fun r5 => ag_bd (f_Jx4a65c_elementData_915e3_3 fu x1 s) fun r11 => some r11
abbrev rm_Jx4a65c_get_915e3_3 : Room := { frames := 2, cells := 0, slots := 0, locals := 43 }
set_option maxHeartbeats 4000000 in
set_option maxRecDepth 100000 in
theorem c_Jx4a65c_get_915e3_3 {z : ag_Z} {l : Launch} {n : ag_N} {p : ag_P} {s : ag_S} {fu : Nat} {x1 : Int32} {out : Int32} (t13 : vp_in 0 (n 13)) (hf : f_Jx4a65c_get_915e3_3 fu x1 s = some out) : Met l yJx4a65c_get_915e3 (ag_ws yJx4a65c_get_915e3 cJx4a65c_get_915e3 2 ((some (FieldType.object "java/lang/Object")))) rm_Jx4a65c_get_915e3_3 (va_Pc [.ref (p 13 0), .int x1] (ag_Pre z n p s)) (ag_Rr z n p 3 out s) 0 0 (ag_A z) := by
  refine Met.ofW (cc := cJx4a65c_get_915e3) (maxL := 2) (ret := (some (FieldType.object "java/lang/Object"))) (by decide) rfl ?_
  intro p0 e st m args below meth c s9 B hml hv
  obtain ⟨ha, h0, hG, hW⟩ := hv
  have hx := B.exec
  have hb := B.bytes
  have hr := B.returns
  have hts := atoms_spec (ws := ag_ws yJx4a65c_get_915e3 cJx4a65c_get_915e3 2 ((some (FieldType.object "java/lang/Object")))) B.pre
  have hT : ∀ w ∈ ag_tbl, w.before args st = true := fun w h => hts w (List.mem_cons_of_mem _ h)
  have hown : st.vm.findClass RJx4a65c = some m.cls := findClass_of_methodNamed B.named
  have hlocks := B.notSynchronized
  have hS : va_S (ag_A z) st.heap st.heap [] := va_S.rf
  obtain ⟨ls, hls, hl⟩ : ∃ ls, entryFrame m args 2 = F0 m 0 ls [] ∧ lv_has ls 2 [(0, .ref (p 13 0)), (1, .int x1)] := by rw [ha]; exact ag_entry m [.ref (p 13 0), .int x1] (Nat.le_of_ble_eq_true rfl)
  rw [hls]
  unfold f_Jx4a65c_get_915e3_3 at hf
  refine lv_iload_n hx hb dJx4a65c_get_915e3_0 rfl (lv_at hl 1 rfl) ?_
  refine lv_aload_n hx hb dJx4a65c_get_915e3_1 rfl (lv_at hl 0 rfl) ?_
  refine g13_2 hx hb hT hown hG hW t13 q47 dJx4a65c_get_915e3_2 ?_
  obtain ⟨r5, hg5, hf⟩ := ag_bs hf
  refine ag_cSi hx hb hml hT hown hG h0 hS hW (c_J15_checkIndex_7cf53 hg5) ⟨rfl, rfl⟩ q269 q270 q16 q271 dd_yJ15_checkIndex_7cf53 ⟨Nat.le_of_ble_eq_true rfl, Nat.le_of_ble_eq_true rfl⟩ hl.1 rfl (Nat.le_of_ble_eq_true rfl) ⟨Nat.le_of_ble_eq_true rfl, Nat.le_of_ble_eq_true rfl⟩ dJx4a65c_get_915e3_5 (fun H locs hW hS => ?_)
  refine lv_pop hx hb dJx4a65c_get_915e3_8 rfl ?_
  refine lv_aload_n hx hb dJx4a65c_get_915e3_9 rfl (lv_at hl 0 rfl) ?_
  refine lv_iload_n hx hb dJx4a65c_get_915e3_10 rfl (lv_at hl 1 rfl) ?_
  obtain ⟨r11, hg11, hf⟩ := ag_bs hf
  refine ag_cVr hx hb hml hT hown hG h0 hS hW (c_Jx4a65c_elementData_915e3_3 t13 hg11) ⟨rfl, rfl⟩ q275 q276 q277 q4 q278 dd_yJx4a65c_elementData_915e3 ⟨Nat.le_of_ble_eq_true rfl, Nat.le_of_ble_eq_true rfl⟩ t13 rfl rfl hl.1 rfl (Nat.le_of_ble_eq_true rfl) ⟨Nat.le_of_ble_eq_true rfl, Nat.le_of_ble_eq_true rfl⟩ dJx4a65c_get_915e3_11 (fun H locs hW hS v11 => ?_)
  exact ag_aret hx hb hr (Or.inl ⟨_, rfl⟩) hlocks hS (Option.some.inj hf) v11 hW dJx4a65c_get_915e3_14
def f_Jx4a65c_size_8abf5_4 (fu : Nat) (s : ag_S) : Option Int32 := some (s 14 2 0)
abbrev rm_Jx4a65c_size_8abf5_4 : Room := { frames := 0, cells := 0, slots := 0, locals := 0 }
set_option maxHeartbeats 4000000 in
set_option maxRecDepth 100000 in
theorem c_Jx4a65c_size_8abf5_4 {z : ag_Z} {l : Launch} {n : ag_N} {p : ag_P} {s : ag_S} {fu : Nat} {out : Int32} (t14 : vp_in 0 (n 14)) (hf : f_Jx4a65c_size_8abf5_4 fu  s = some out) : Met l yJx4a65c_size_8abf5 (ag_ws yJx4a65c_size_8abf5 cJx4a65c_size_8abf5 1 ((some FieldType.int))) rm_Jx4a65c_size_8abf5_4 (va_Pc [.ref (p 14 0)] (ag_Pre z n p s)) (ag_Ri z n p out s) 0 0 (ag_A z) := by
  refine Met.ofW (cc := cJx4a65c_size_8abf5) (maxL := 1) (ret := (some FieldType.int)) (by decide) rfl ?_
  intro p0 e st m args below meth c s9 B hml hv
  obtain ⟨ha, h0, hG, hW⟩ := hv
  have hx := B.exec
  have hb := B.bytes
  have hr := B.returns
  have hts := atoms_spec (ws := ag_ws yJx4a65c_size_8abf5 cJx4a65c_size_8abf5 1 ((some FieldType.int))) B.pre
  have hT : ∀ w ∈ ag_tbl, w.before args st = true := fun w h => hts w (List.mem_cons_of_mem _ h)
  have hown : st.vm.findClass RJx4a65c = some m.cls := findClass_of_methodNamed B.named
  have hlocks := B.notSynchronized
  have hS : va_S (ag_A z) st.heap st.heap [] := va_S.rf
  obtain ⟨ls, hls, hl⟩ : ∃ ls, entryFrame m args 1 = F0 m 0 ls [] ∧ lv_has ls 1 [(0, .ref (p 14 0))] := by rw [ha]; exact ag_entry m [.ref (p 14 0)] (Nat.le_of_ble_eq_true rfl)
  rw [hls]
  unfold f_Jx4a65c_size_8abf5_4 at hf
  refine lv_aload_n hx hb dJx4a65c_size_8abf5_0 rfl (lv_at hl 0 rfl) ?_
  refine g14_2 hx hb hT hown hG hW t14 q47 dJx4a65c_size_8abf5_1 ?_
  exact ag_iret hx hb hr rfl hlocks hS (Option.some.inj hf) hW dJx4a65c_size_8abf5_4
def f_Jx4a65c_elementData_915e3_4 (fu : Nat) (x1 : Int32) (s : ag_S) : Option Int32 := if s 14 1 0 = -1 ∨ s 14 1 0 = -2 then none else if x1 < 0 ∨ (s 84 0 (s 14 1 0)).toNatClampNeg ≤ x1.toNatClampNeg then none else if s 24 (s 14 1 0).toNatClampNeg x1 = -1 then none else some (s 24 (s 14 1 0).toNatClampNeg x1)
abbrev rm_Jx4a65c_elementData_915e3_4 : Room := { frames := 0, cells := 0, slots := 0, locals := 0 }
set_option maxHeartbeats 4000000 in
set_option maxRecDepth 100000 in
theorem c_Jx4a65c_elementData_915e3_4 {z : ag_Z} {l : Launch} {n : ag_N} {p : ag_P} {s : ag_S} {fu : Nat} {x1 : Int32} {out : Int32} (t14 : vp_in 0 (n 14)) (hf : f_Jx4a65c_elementData_915e3_4 fu x1 s = some out) : Met l yJx4a65c_elementData_915e3 (ag_ws yJx4a65c_elementData_915e3 cJx4a65c_elementData_915e3 2 ((some (FieldType.object "java/lang/Object")))) rm_Jx4a65c_elementData_915e3_4 (va_Pc [.ref (p 14 0), .int x1] (ag_Pre z n p s)) (ag_Rr z n p 4 out s) 0 0 (ag_A z) := by
  refine Met.ofW (cc := cJx4a65c_elementData_915e3) (maxL := 2) (ret := (some (FieldType.object "java/lang/Object"))) (by decide) rfl ?_
  intro p0 e st m args below meth c s9 B hml hv
  obtain ⟨ha, h0, hG, hW⟩ := hv
  have hx := B.exec
  have hb := B.bytes
  have hr := B.returns
  have hts := atoms_spec (ws := ag_ws yJx4a65c_elementData_915e3 cJx4a65c_elementData_915e3 2 ((some (FieldType.object "java/lang/Object")))) B.pre
  have hT : ∀ w ∈ ag_tbl, w.before args st = true := fun w h => hts w (List.mem_cons_of_mem _ h)
  have hown : st.vm.findClass RJx4a65c = some m.cls := findClass_of_methodNamed B.named
  have hlocks := B.notSynchronized
  have hS : va_S (ag_A z) st.heap st.heap [] := va_S.rf
  obtain ⟨ls, hls, hl⟩ : ∃ ls, entryFrame m args 2 = F0 m 0 ls [] ∧ lv_has ls 2 [(0, .ref (p 14 0)), (1, .int x1)] := by rw [ha]; exact ag_entry m [.ref (p 14 0), .int x1] (Nat.le_of_ble_eq_true rfl)
  rw [hls]
  unfold f_Jx4a65c_elementData_915e3_4 at hf
  refine lv_aload_n hx hb dJx4a65c_elementData_915e3_0 rfl (lv_at hl 0 rfl) ?_
  refine g14_1 hx hb hT hown hG hW t14 q46 dJx4a65c_elementData_915e3_1 ?_
  refine lv_iload_n hx hb dJx4a65c_elementData_915e3_4 rfl (lv_at hl 1 rfl) ?_
  obtain ⟨m5, hf⟩ := ag_n hf
  obtain ⟨e5, v5⟩ := ag_lref hW (k := 14) (f := 1) (t := 24) rfl rfl m5
  rw [e5]
  obtain ⟨a5, hf⟩ := ag_n hf
  have o5 := hW.okl (k := 24) (j := 4) (by decide) rfl (s 14 1 0).toNatClampNeg x1
  refine ag_aald hx hb hG hW v5 rfl rfl rfl rfl a5 dJx4a65c_elementData_915e3_5 ?_
  obtain ⟨m6_1, hf⟩ := ag_n hf
  have e6_1 := (ag_refq (z := z) (p := p) o5 m6_1)
  have v6_1 := (ag_ref (z := z) (p := p) o5 m6_1).2
  rw [e6_1]
  exact ag_aret hx hb hr (Or.inl ⟨_, rfl⟩) hlocks hS (Option.some.inj hf) v6_1 hW dJx4a65c_elementData_915e3_6
def f_Jx4a65c_get_915e3_4 (fu : Nat) (x1 : Int32) (s : ag_S) : Option Int32 := ag_bd (f_J15_checkIndex_7cf53 fu x1 (s 14 2 0) s) fun r5 => ag_bd (f_Jx4a65c_elementData_915e3_4 fu x1 s) fun r11 => some r11
abbrev rm_Jx4a65c_get_915e3_4 : Room := { frames := 2, cells := 0, slots := 0, locals := 43 }
set_option maxHeartbeats 4000000 in
set_option maxRecDepth 100000 in
theorem c_Jx4a65c_get_915e3_4 {z : ag_Z} {l : Launch} {n : ag_N} {p : ag_P} {s : ag_S} {fu : Nat} {x1 : Int32} {out : Int32} (t14 : vp_in 0 (n 14)) (hf : f_Jx4a65c_get_915e3_4 fu x1 s = some out) : Met l yJx4a65c_get_915e3 (ag_ws yJx4a65c_get_915e3 cJx4a65c_get_915e3 2 ((some (FieldType.object "java/lang/Object")))) rm_Jx4a65c_get_915e3_4 (va_Pc [.ref (p 14 0), .int x1] (ag_Pre z n p s)) (ag_Rr z n p 4 out s) 0 0 (ag_A z) := by
  refine Met.ofW (cc := cJx4a65c_get_915e3) (maxL := 2) (ret := (some (FieldType.object "java/lang/Object"))) (by decide) rfl ?_
  intro p0 e st m args below meth c s9 B hml hv
  obtain ⟨ha, h0, hG, hW⟩ := hv
  have hx := B.exec
  have hb := B.bytes
  have hr := B.returns
  have hts := atoms_spec (ws := ag_ws yJx4a65c_get_915e3 cJx4a65c_get_915e3 2 ((some (FieldType.object "java/lang/Object")))) B.pre
  have hT : ∀ w ∈ ag_tbl, w.before args st = true := fun w h => hts w (List.mem_cons_of_mem _ h)
  have hown : st.vm.findClass RJx4a65c = some m.cls := findClass_of_methodNamed B.named
  have hlocks := B.notSynchronized
  have hS : va_S (ag_A z) st.heap st.heap [] := va_S.rf
  obtain ⟨ls, hls, hl⟩ : ∃ ls, entryFrame m args 2 = F0 m 0 ls [] ∧ lv_has ls 2 [(0, .ref (p 14 0)), (1, .int x1)] := by rw [ha]; exact ag_entry m [.ref (p 14 0), .int x1] (Nat.le_of_ble_eq_true rfl)
  rw [hls]
  unfold f_Jx4a65c_get_915e3_4 at hf
  refine lv_iload_n hx hb dJx4a65c_get_915e3_0 rfl (lv_at hl 1 rfl) ?_
  refine lv_aload_n hx hb dJx4a65c_get_915e3_1 rfl (lv_at hl 0 rfl) ?_
  refine g14_2 hx hb hT hown hG hW t14 q47 dJx4a65c_get_915e3_2 ?_
  obtain ⟨r5, hg5, hf⟩ := ag_bs hf
  refine ag_cSi hx hb hml hT hown hG h0 hS hW (c_J15_checkIndex_7cf53 hg5) ⟨rfl, rfl⟩ q269 q270 q16 q271 dd_yJ15_checkIndex_7cf53 ⟨Nat.le_of_ble_eq_true rfl, Nat.le_of_ble_eq_true rfl⟩ hl.1 rfl (Nat.le_of_ble_eq_true rfl) ⟨Nat.le_of_ble_eq_true rfl, Nat.le_of_ble_eq_true rfl⟩ dJx4a65c_get_915e3_5 (fun H locs hW hS => ?_)
  refine lv_pop hx hb dJx4a65c_get_915e3_8 rfl ?_
  refine lv_aload_n hx hb dJx4a65c_get_915e3_9 rfl (lv_at hl 0 rfl) ?_
  refine lv_iload_n hx hb dJx4a65c_get_915e3_10 rfl (lv_at hl 1 rfl) ?_
  obtain ⟨r11, hg11, hf⟩ := ag_bs hf
  refine ag_cVr hx hb hml hT hown hG h0 hS hW (c_Jx4a65c_elementData_915e3_4 t14 hg11) ⟨rfl, rfl⟩ q275 q276 q277 q4 q278 dd_yJx4a65c_elementData_915e3 ⟨Nat.le_of_ble_eq_true rfl, Nat.le_of_ble_eq_true rfl⟩ t14 rfl rfl hl.1 rfl (Nat.le_of_ble_eq_true rfl) ⟨Nat.le_of_ble_eq_true rfl, Nat.le_of_ble_eq_true rfl⟩ dJx4a65c_get_915e3_11 (fun H locs hW hS v11 => ?_)
  exact ag_aret hx hb hr (Or.inl ⟨_, rfl⟩) hlocks hS (Option.some.inj hf) v11 hW dJx4a65c_get_915e3_14
