def f_X4_init (fu : Nat) (x0 : Int32) (x1 : Int32) (s : ag_S) : Option ag_S := some (ag_up (ag_up (ag_up s 0 1 x0 0) 0 2 x0 0) 0 0 x0 x1)
abbrev rm_X4_init : Room := { frames := 1, cells := 0, slots := 0, locals := 20 }
theorem dd_yX4_init : yX4_init.cls ≠ "java/lang/invoke/MethodHandle" ∧ yX4_init.cls ≠ "java/lang/invoke/VarHandle" ∧ (parseMethodDescriptor yX4_init.desc).map (fun d => d.parameters.length) = some 1 := by decide +kernel
set_option maxHeartbeats 4000000 in
set_option maxRecDepth 100000 in
theorem c_X4_init {z : ag_Z} {l : Launch} {n : ag_N} {p : ag_P} {s : ag_S} {fu : Nat} {x0 : Int32} {x1 : Int32} {out : ag_S} (v0 : vp_in x0 (n 0)) (hf : f_X4_init fu x0 x1 s = some out) : Met l yX4_init (ag_ws yX4_init cX4_init 2 ((none))) rm_X4_init (va_Pc [.ref (p 0 x0), .int x1] (ag_Pre z n p s)) (ag_Rv z n p out) 0 0 (ag_A z) := by
  refine Met.ofW (cc := cX4_init) (maxL := 2) (ret := (none)) (by decide) rfl ?_
  intro p0 e st m args below meth c s9 B hml hv
  obtain ⟨ha, h0, hG, hW⟩ := hv
  have hin : meth.name = "<init>" := (name_of_methodNamed B.named B.method).1
  have hx := B.exec
  have hb := B.bytes
  have hr := B.returns
  have hts := atoms_spec (ws := ag_ws yX4_init cX4_init 2 ((none))) B.pre
  have hT : ∀ w ∈ ag_tbl, w.before args st = true := fun w h => hts w (List.mem_cons_of_mem _ h)
  have hown : st.vm.findClass RX4 = some m.cls := findClass_of_methodNamed B.named
  have hlocks := B.notSynchronized
  have hS : va_S (ag_A z) st.heap st.heap [] := va_S.rf
  obtain ⟨ls, hls, hl⟩ : ∃ ls, entryFrame m args 2 = F0 m 0 ls [] ∧ lv_has ls 2 [(0, .ref (p 0 x0)), (1, .int x1)] := by rw [ha]; exact ag_entry m [.ref (p 0 x0), .int x1] (Nat.le_of_ble_eq_true rfl)
  rw [hls]
  unfold f_X4_init at hf
  refine lv_aload_n hx hb dX4_init_0 rfl (lv_at hl 0 rfl) ?_
  refine ag_obj hx hb hml hl.1 hT hown q63 q30 q31 (Nat.le_of_ble_eq_true rfl) (Nat.le_of_ble_eq_true rfl) dX4_init_1 ?_
  refine lv_aload_n hx hb dX4_init_4 rfl (lv_at hl 0 rfl) ?_
  refine lv_iconst (v := 0) hx hb dX4_init_5 (by decide) ?_
  refine u0_1 hx hb hT hown hG hW hS v0 q66 dX4_init_6 (fun H locs hW hS => ?_)
  refine lv_aload_n hx hb dX4_init_9 rfl (lv_at hl 0 rfl) ?_
  refine lv_iconst (v := 0) hx hb dX4_init_10 (by decide) ?_
  refine u0_2 hx hb hT hown hG hW hS v0 q68 dX4_init_11 (fun H locs hW hS => ?_)
  refine lv_aload_n hx hb dX4_init_14 rfl (lv_at hl 0 rfl) ?_
  refine lv_iload_n hx hb dX4_init_15 rfl (lv_at hl 1 rfl) ?_
  refine u0_0 hx hb hT hown hG hW hS v0 hin rfl q64 dX4_init_16 (fun H locs hW hS => ?_)
  exact ag_vret hx hb hr hlocks hS (Option.some.inj hf ▸ hW) dX4_init_19
def f_X3_init (fu : Nat) (x0 : Int32) (x1 : Int32) (s : ag_S) : Option ag_S := some (ag_up (ag_up s 1 1 x0 0) 1 0 x0 x1)
abbrev rm_X3_init : Room := { frames := 1, cells := 0, slots := 0, locals := 20 }
theorem dd_yX3_init : yX3_init.cls ≠ "java/lang/invoke/MethodHandle" ∧ yX3_init.cls ≠ "java/lang/invoke/VarHandle" ∧ (parseMethodDescriptor yX3_init.desc).map (fun d => d.parameters.length) = some 1 := by decide +kernel
set_option maxHeartbeats 4000000 in
set_option maxRecDepth 100000 in
theorem c_X3_init {z : ag_Z} {l : Launch} {n : ag_N} {p : ag_P} {s : ag_S} {fu : Nat} {x0 : Int32} {x1 : Int32} {out : ag_S} (v0 : vp_in x0 (n 1)) (hf : f_X3_init fu x0 x1 s = some out) : Met l yX3_init (ag_ws yX3_init cX3_init 2 ((none))) rm_X3_init (va_Pc [.ref (p 1 x0), .int x1] (ag_Pre z n p s)) (ag_Rv z n p out) 0 0 (ag_A z) := by
  refine Met.ofW (cc := cX3_init) (maxL := 2) (ret := (none)) (by decide) rfl ?_
  intro p0 e st m args below meth c s9 B hml hv
  obtain ⟨ha, h0, hG, hW⟩ := hv
  have hin : meth.name = "<init>" := (name_of_methodNamed B.named B.method).1
  have hx := B.exec
  have hb := B.bytes
  have hr := B.returns
  have hts := atoms_spec (ws := ag_ws yX3_init cX3_init 2 ((none))) B.pre
  have hT : ∀ w ∈ ag_tbl, w.before args st = true := fun w h => hts w (List.mem_cons_of_mem _ h)
  have hown : st.vm.findClass RX3 = some m.cls := findClass_of_methodNamed B.named
  have hlocks := B.notSynchronized
  have hS : va_S (ag_A z) st.heap st.heap [] := va_S.rf
  obtain ⟨ls, hls, hl⟩ : ∃ ls, entryFrame m args 2 = F0 m 0 ls [] ∧ lv_has ls 2 [(0, .ref (p 1 x0)), (1, .int x1)] := by rw [ha]; exact ag_entry m [.ref (p 1 x0), .int x1] (Nat.le_of_ble_eq_true rfl)
  rw [hls]
  unfold f_X3_init at hf
  refine lv_aload_n hx hb dX3_init_0 rfl (lv_at hl 0 rfl) ?_
  refine ag_obj hx hb hml hl.1 hT hown q140 q30 q31 (Nat.le_of_ble_eq_true rfl) (Nat.le_of_ble_eq_true rfl) dX3_init_1 ?_
  refine lv_aload_n hx hb dX3_init_4 rfl (lv_at hl 0 rfl) ?_
  refine lv_iconst (v := 0) hx hb dX3_init_5 (by decide) ?_
  refine u1_1 hx hb hT hown hG hW hS v0 q143 dX3_init_6 (fun H locs hW hS => ?_)
  refine lv_aload_n hx hb dX3_init_9 rfl (lv_at hl 0 rfl) ?_
  refine lv_iload_n hx hb dX3_init_10 rfl (lv_at hl 1 rfl) ?_
  refine u1_0 hx hb hT hown hG hW hS v0 hin rfl q141 dX3_init_11 (fun H locs hW hS => ?_)
  exact ag_vret hx hb hr hlocks hS (Option.some.inj hf ▸ hW) dX3_init_14
def f_X2_init (fu : Nat) (x0 : Int32) (x1 : Int32) (x2 : Int32) (x3 : Int32) (s : ag_S) : Option ag_S := some (ag_up (ag_up (ag_up (ag_up (ag_up (ag_up (ag_up s 2 3 x0 0) 2 4 x0 0) 2 5 x0 0) 2 6 x0 0) 2 0 x0 x1) 2 1 x0 x2) 2 2 x0 x3)
abbrev rm_X2_init : Room := { frames := 1, cells := 0, slots := 0, locals := 20 }
theorem dd_yX2_init : yX2_init.cls ≠ "java/lang/invoke/MethodHandle" ∧ yX2_init.cls ≠ "java/lang/invoke/VarHandle" ∧ (parseMethodDescriptor yX2_init.desc).map (fun d => d.parameters.length) = some 3 := by decide +kernel
set_option maxHeartbeats 4000000 in
set_option maxRecDepth 100000 in
theorem c_X2_init {z : ag_Z} {l : Launch} {n : ag_N} {p : ag_P} {s : ag_S} {fu : Nat} {x0 : Int32} {x1 : Int32} {x2 : Int32} {x3 : Int32} {out : ag_S} (v0 : vp_in x0 (n 2)) (v2 : vp_in x2 (n 0)) (hf : f_X2_init fu x0 x1 x2 x3 s = some out) : Met l yX2_init (ag_ws yX2_init cX2_init 4 ((none))) rm_X2_init (va_Pc [.ref (p 2 x0), .int x1, .ref (p 0 x2), .int x3] (ag_Pre z n p s)) (ag_Rv z n p out) 0 0 (ag_A z) := by
  refine Met.ofW (cc := cX2_init) (maxL := 4) (ret := (none)) (by decide) rfl ?_
  intro p0 e st m args below meth c s9 B hml hv
  obtain ⟨ha, h0, hG, hW⟩ := hv
  have hin : meth.name = "<init>" := (name_of_methodNamed B.named B.method).1
  have hx := B.exec
  have hb := B.bytes
  have hr := B.returns
  have hts := atoms_spec (ws := ag_ws yX2_init cX2_init 4 ((none))) B.pre
  have hT : ∀ w ∈ ag_tbl, w.before args st = true := fun w h => hts w (List.mem_cons_of_mem _ h)
  have hown : st.vm.findClass RX2 = some m.cls := findClass_of_methodNamed B.named
  have hlocks := B.notSynchronized
  have hS : va_S (ag_A z) st.heap st.heap [] := va_S.rf
  obtain ⟨ls, hls, hl⟩ : ∃ ls, entryFrame m args 4 = F0 m 0 ls [] ∧ lv_has ls 4 [(0, .ref (p 2 x0)), (1, .int x1), (2, .ref (p 0 x2)), (3, .int x3)] := by rw [ha]; exact ag_entry m [.ref (p 2 x0), .int x1, .ref (p 0 x2), .int x3] (Nat.le_of_ble_eq_true rfl)
  rw [hls]
  unfold f_X2_init at hf
  refine lv_aload_n hx hb dX2_init_0 rfl (lv_at hl 0 rfl) ?_
  refine ag_obj hx hb hml hl.1 hT hown q305 q30 q31 (Nat.le_of_ble_eq_true rfl) (Nat.le_of_ble_eq_true rfl) dX2_init_1 ?_
  refine lv_aload_n hx hb dX2_init_4 rfl (lv_at hl 0 rfl) ?_
  refine lv_iconst (v := 0) hx hb dX2_init_5 (by decide) ?_
  refine u2_3 hx hb hT hown hG hW hS v0 q311 dX2_init_6 (fun H locs hW hS => ?_)
  refine lv_aload_n hx hb dX2_init_9 rfl (lv_at hl 0 rfl) ?_
  refine lv_iconst (v := 0) hx hb dX2_init_10 (by decide) ?_
  refine u2_4 hx hb hT hown hG hW hS v0 q313 dX2_init_11 (fun H locs hW hS => ?_)
  refine lv_aload_n hx hb dX2_init_14 rfl (lv_at hl 0 rfl) ?_
  refine lv_iconst (v := 0) hx hb dX2_init_15 (by decide) ?_
  refine u2_5 hx hb hT hown hG hW hS v0 q316 dX2_init_16 (fun H locs hW hS => ?_)
  refine lv_aload_n hx hb dX2_init_19 rfl (lv_at hl 0 rfl) ?_
  refine lv_iconst (v := 0) hx hb dX2_init_20 (by decide) ?_
  refine u2_6 hx hb hT hown hG hW hS v0 q318 dX2_init_21 (fun H locs hW hS => ?_)
  refine lv_aload_n hx hb dX2_init_24 rfl (lv_at hl 0 rfl) ?_
  refine lv_iload_n hx hb dX2_init_25 rfl (lv_at hl 1 rfl) ?_
  refine u2_0 hx hb hT hown hG hW hS v0 hin rfl q306 dX2_init_26 (fun H locs hW hS => ?_)
  refine lv_aload_n hx hb dX2_init_29 rfl (lv_at hl 0 rfl) ?_
  refine lv_aload_n hx hb dX2_init_30 rfl (lv_at hl 2 rfl) ?_
  refine u2_1 hx hb hT hown hG hW hS v0 (ag_refv (z := z) (p := p) v2 hW).symm (Or.inr v2) hin rfl q308 dX2_init_31 (fun H locs hW hS => ?_)
  refine lv_aload_n hx hb dX2_init_34 rfl (lv_at hl 0 rfl) ?_
  refine lv_iload_n hx hb dX2_init_35 rfl (lv_at hl 3 rfl) ?_
  refine u2_2 hx hb hT hown hG hW hS v0 hin rfl q310 dX2_init_36 (fun H locs hW hS => ?_)
  exact ag_vret hx hb hr hlocks hS (Option.some.inj hf ▸ hW) dX2_init_39
def f_X0_init (fu : Nat) (x0 : Int32) (x1 : Int32) (x2 : Int32) (x3 : Int32) (x4 : Int32) (s : ag_S) : Option ag_S := some (ag_up (ag_up (ag_up (ag_up (ag_up (ag_up (ag_up (ag_up (ag_up (ag_up s 3 5 x0 0) 3 6 x0 1) 3 7 x0 0) 3 8 x0 0) 3 9 x0 0) 3 0 x0 x1) 3 1 x0 x2) 3 2 x0 x3) 3 3 x0 x4) 3 4 x0 x4)
abbrev rm_X0_init : Room := { frames := 1, cells := 0, slots := 0, locals := 20 }
theorem dd_yX0_init : yX0_init.cls ≠ "java/lang/invoke/MethodHandle" ∧ yX0_init.cls ≠ "java/lang/invoke/VarHandle" ∧ (parseMethodDescriptor yX0_init.desc).map (fun d => d.parameters.length) = some 4 := by decide +kernel
set_option maxHeartbeats 4000000 in
set_option maxRecDepth 100000 in
theorem c_X0_init {z : ag_Z} {l : Launch} {n : ag_N} {p : ag_P} {s : ag_S} {fu : Nat} {x0 : Int32} {x1 : Int32} {x2 : Int32} {x3 : Int32} {x4 : Int32} {out : ag_S} (v0 : vp_in x0 (n 3)) (v2 : ag_ok n 3 x2) (v3 : vp_in x3 (n 2)) (hf : f_X0_init fu x0 x1 x2 x3 x4 s = some out) : Met l yX0_init (ag_ws yX0_init cX0_init 5 ((none))) rm_X0_init (va_Pc [.ref (p 3 x0), .int x1, va_rf (ag_ro z p 3 x2), .ref (p 2 x3), .int x4] (ag_Pre z n p s)) (ag_Rv z n p out) 0 0 (ag_A z) := by
  refine Met.ofW (cc := cX0_init) (maxL := 5) (ret := (none)) (by decide) rfl ?_
  intro p0 e st m args below meth c s9 B hml hv
  obtain ⟨ha, h0, hG, hW⟩ := hv
  have hin : meth.name = "<init>" := (name_of_methodNamed B.named B.method).1
  have hx := B.exec
  have hb := B.bytes
  have hr := B.returns
  have hts := atoms_spec (ws := ag_ws yX0_init cX0_init 5 ((none))) B.pre
  have hT : ∀ w ∈ ag_tbl, w.before args st = true := fun w h => hts w (List.mem_cons_of_mem _ h)
  have hown : st.vm.findClass RX0 = some m.cls := findClass_of_methodNamed B.named
  have hlocks := B.notSynchronized
  have hS : va_S (ag_A z) st.heap st.heap [] := va_S.rf
  obtain ⟨ls, hls, hl⟩ : ∃ ls, entryFrame m args 5 = F0 m 0 ls [] ∧ lv_has ls 5 [(0, .ref (p 3 x0)), (1, .int x1), (2, va_rf (ag_ro z p 3 x2)), (3, .ref (p 2 x3)), (4, .int x4)] := by rw [ha]; generalize ag_ro z p 3 x2 = r0; cases r0 <;> exact ag_entry m _ (Nat.le_of_ble_eq_true rfl)
  rw [hls]
  unfold f_X0_init at hf
  refine lv_aload_n hx hb dX0_init_0 rfl (lv_at hl 0 rfl) ?_
  refine ag_obj hx hb hml hl.1 hT hown q390 q30 q31 (Nat.le_of_ble_eq_true rfl) (Nat.le_of_ble_eq_true rfl) dX0_init_1 ?_
  refine lv_aload_n hx hb dX0_init_4 rfl (lv_at hl 0 rfl) ?_
  refine lv_iconst (v := 0) hx hb dX0_init_5 (by decide) ?_
  refine u3_5 hx hb hT hown hG hW hS v0 q401 dX0_init_6 (fun H locs hW hS => ?_)
  refine lv_aload_n hx hb dX0_init_9 rfl (lv_at hl 0 rfl) ?_
  refine lv_iconst (v := 1) hx hb dX0_init_10 (by decide) ?_
  refine u3_6 hx hb hT hown hG hW hS v0 q404 dX0_init_11 (fun H locs hW hS => ?_)
  refine lv_aload_n hx hb dX0_init_14 rfl (lv_at hl 0 rfl) ?_
  refine lv_iconst (v := 0) hx hb dX0_init_15 (by decide) ?_
  refine u3_7 hx hb hT hown hG hW hS v0 rfl rfl q406 dX0_init_16 (fun H locs hW hS => ?_)
  refine lv_aload_n hx hb dX0_init_19 rfl (lv_at hl 0 rfl) ?_
  refine lv_iconst (v := 0) hx hb dX0_init_20 (by decide) ?_
  refine u3_8 hx hb hT hown hG hW hS v0 q408 dX0_init_21 (fun H locs hW hS => ?_)
  refine lv_aload_n hx hb dX0_init_24 rfl (lv_at hl 0 rfl) ?_
  refine lv_iconst (v := 0) hx hb dX0_init_25 (by decide) ?_
  refine u3_9 hx hb hT hown hG hW hS v0 q409 dX0_init_26 (fun H locs hW hS => ?_)
  refine lv_aload_n hx hb dX0_init_29 rfl (lv_at hl 0 rfl) ?_
  refine lv_iload_n hx hb dX0_init_30 rfl (lv_at hl 1 rfl) ?_
  refine u3_0 hx hb hT hown hG hW hS v0 hin rfl q391 dX0_init_31 (fun H locs hW hS => ?_)
  refine lv_aload_n hx hb dX0_init_34 rfl (lv_at hl 0 rfl) ?_
  refine ag_aloadq hx hb dX0_init_35 rfl (lv_at hl 2 rfl) ?_
  refine u3_1 hx hb hT hown hG hW hS v0 rfl v2 hin rfl q393 dX0_init_36 (fun H locs hW hS => ?_)
  refine lv_aload_n hx hb dX0_init_39 rfl (lv_at hl 0 rfl) ?_
  refine lv_aload_n hx hb dX0_init_40 rfl (lv_at hl 3 rfl) ?_
  refine u3_2 hx hb hT hown hG hW hS v0 (ag_refv (z := z) (p := p) v3 hW).symm (Or.inr v3) hin rfl q395 dX0_init_41 (fun H locs hW hS => ?_)
  refine lv_aload_n hx hb dX0_init_44 rfl (lv_at hl 0 rfl) ?_
  refine lv_iload hx hb dX0_init_45 (lv_at hl 4 rfl) ?_
  refine u3_3 hx hb hT hown hG hW hS v0 hin rfl q397 dX0_init_47 (fun H locs hW hS => ?_)
  refine lv_aload_n hx hb dX0_init_50 rfl (lv_at hl 0 rfl) ?_
  refine lv_iload hx hb dX0_init_51 (lv_at hl 4 rfl) ?_
  refine u3_4 hx hb hT hown hG hW hS v0 q399 dX0_init_53 (fun H locs hW hS => ?_)
  exact ag_vret hx hb hr hlocks hS (Option.some.inj hf ▸ hW) dX0_init_56
def f_X1_init (fu : Nat) (x0 : Int32) (x1 : Int32) (x2 : Int32) (x3 : Int32) (x4 : Int32) (x5 : Int32) (s : ag_S) : Option ag_S := some (ag_up (ag_up (ag_up (ag_up (ag_up (ag_up (ag_up (ag_up s 4 5 x0 0) 4 6 x0 0) 4 7 x0 0) 4 0 x0 x1) 4 1 x0 x2) 4 4 x0 x3) 4 2 x0 x4) 4 3 x0 x5)
abbrev rm_X1_init : Room := { frames := 1, cells := 0, slots := 0, locals := 20 }
theorem dd_yX1_init : yX1_init.cls ≠ "java/lang/invoke/MethodHandle" ∧ yX1_init.cls ≠ "java/lang/invoke/VarHandle" ∧ (parseMethodDescriptor yX1_init.desc).map (fun d => d.parameters.length) = some 5 := by decide +kernel
set_option maxHeartbeats 4000000 in
set_option maxRecDepth 100000 in
theorem c_X1_init {z : ag_Z} {l : Launch} {n : ag_N} {p : ag_P} {s : ag_S} {fu : Nat} {x0 : Int32} {x1 : Int32} {x2 : Int32} {x3 : Int32} {x4 : Int32} {x5 : Int32} {out : ag_S} (v0 : vp_in x0 (n 4)) (v1 : vp_in x1 (n 2)) (v2 : vp_in x2 (n 1)) (v4 : ag_ok n 3 x4) (hf : f_X1_init fu x0 x1 x2 x3 x4 x5 s = some out) : Met l yX1_init (ag_ws yX1_init cX1_init 6 ((none))) rm_X1_init (va_Pc [.ref (p 4 x0), .ref (p 2 x1), .ref (p 1 x2), .int x3, va_rf (ag_ro z p 3 x4), .int x5] (ag_Pre z n p s)) (ag_Rv z n p out) 0 0 (ag_A z) := by
  refine Met.ofW (cc := cX1_init) (maxL := 6) (ret := (none)) (by decide) rfl ?_
  intro p0 e st m args below meth c s9 B hml hv
  obtain ⟨ha, h0, hG, hW⟩ := hv
  have hin : meth.name = "<init>" := (name_of_methodNamed B.named B.method).1
  have hx := B.exec
  have hb := B.bytes
  have hr := B.returns
  have hts := atoms_spec (ws := ag_ws yX1_init cX1_init 6 ((none))) B.pre
  have hT : ∀ w ∈ ag_tbl, w.before args st = true := fun w h => hts w (List.mem_cons_of_mem _ h)
  have hown : st.vm.findClass RX1 = some m.cls := findClass_of_methodNamed B.named
  have hlocks := B.notSynchronized
  have hS : va_S (ag_A z) st.heap st.heap [] := va_S.rf
  obtain ⟨ls, hls, hl⟩ : ∃ ls, entryFrame m args 6 = F0 m 0 ls [] ∧ lv_has ls 6 [(0, .ref (p 4 x0)), (1, .ref (p 2 x1)), (2, .ref (p 1 x2)), (3, .int x3), (4, va_rf (ag_ro z p 3 x4)), (5, .int x5)] := by rw [ha]; generalize ag_ro z p 3 x4 = r0; cases r0 <;> exact ag_entry m _ (Nat.le_of_ble_eq_true rfl)
  rw [hls]
  unfold f_X1_init at hf
  refine lv_aload_n hx hb dX1_init_0 rfl (lv_at hl 0 rfl) ?_
  refine ag_obj hx hb hml hl.1 hT hown q592 q30 q31 (Nat.le_of_ble_eq_true rfl) (Nat.le_of_ble_eq_true rfl) dX1_init_1 ?_
  refine lv_aload_n hx hb dX1_init_4 rfl (lv_at hl 0 rfl) ?_
  refine lv_iconst (v := 0) hx hb dX1_init_5 (by decide) ?_
  refine u4_5 hx hb hT hown hG hW hS v0 q603 dX1_init_6 (fun H locs hW hS => ?_)
  refine lv_aload_n hx hb dX1_init_9 rfl (lv_at hl 0 rfl) ?_
  refine lv_iconst (v := 0) hx hb dX1_init_10 (by decide) ?_
  refine u4_6 hx hb hT hown hG hW hS v0 q605 dX1_init_11 (fun H locs hW hS => ?_)
  refine lv_aload_n hx hb dX1_init_14 rfl (lv_at hl 0 rfl) ?_
  refine lv_iconst (v := 0) hx hb dX1_init_15 (by decide) ?_
  refine u4_7 hx hb hT hown hG hW hS v0 rfl rfl q607 dX1_init_16 (fun H locs hW hS => ?_)
  refine lv_aload_n hx hb dX1_init_19 rfl (lv_at hl 0 rfl) ?_
  refine lv_aload_n hx hb dX1_init_20 rfl (lv_at hl 1 rfl) ?_
  refine u4_0 hx hb hT hown hG hW hS v0 (ag_refv (z := z) (p := p) v1 hW).symm (Or.inr v1) hin rfl q593 dX1_init_21 (fun H locs hW hS => ?_)
  refine lv_aload_n hx hb dX1_init_24 rfl (lv_at hl 0 rfl) ?_
  refine lv_aload_n hx hb dX1_init_25 rfl (lv_at hl 2 rfl) ?_
  refine u4_1 hx hb hT hown hG hW hS v0 (ag_refv (z := z) (p := p) v2 hW).symm (Or.inr v2) hin rfl q595 dX1_init_26 (fun H locs hW hS => ?_)
  refine lv_aload_n hx hb dX1_init_29 rfl (lv_at hl 0 rfl) ?_
  refine lv_iload_n hx hb dX1_init_30 rfl (lv_at hl 3 rfl) ?_
  refine u4_4 hx hb hT hown hG hW hS v0 q601 dX1_init_31 (fun H locs hW hS => ?_)
  refine lv_aload_n hx hb dX1_init_34 rfl (lv_at hl 0 rfl) ?_
  refine ag_aloadQ hx hb dX1_init_35 (lv_at hl 4 rfl) ?_
  refine u4_2 hx hb hT hown hG hW hS v0 rfl v4 hin rfl q597 dX1_init_37 (fun H locs hW hS => ?_)
  refine lv_aload_n hx hb dX1_init_40 rfl (lv_at hl 0 rfl) ?_
  refine lv_iload hx hb dX1_init_41 (lv_at hl 5 rfl) ?_
  refine u4_3 hx hb hT hown hG hW hS v0 hin rfl q599 dX1_init_43 (fun H locs hW hS => ?_)
  exact ag_vret hx hb hr hlocks hS (Option.some.inj hf ▸ hW) dX1_init_46
def f_Jxa1e45_init_da8c8_0 (fu : Nat) (s : ag_S) : Option ag_S := some s
abbrev rm_Jxa1e45_init_da8c8_0 : Room := { frames := 1, cells := 0, slots := 0, locals := 20 }
theorem dd_yJxa1e45_init_da8c8 : yJxa1e45_init_da8c8.cls ≠ "java/lang/invoke/MethodHandle" ∧ yJxa1e45_init_da8c8.cls ≠ "java/lang/invoke/VarHandle" ∧ (parseMethodDescriptor yJxa1e45_init_da8c8.desc).map (fun d => d.parameters.length) = some 0 := by decide +kernel
set_option maxHeartbeats 4000000 in
set_option maxRecDepth 100000 in
theorem c_Jxa1e45_init_da8c8_0 {z : ag_Z} {l : Launch} {n : ag_N} {p : ag_P} {s : ag_S} {fu : Nat} {out : ag_S} (t10 : vp_in 0 (n 10)) (hf : f_Jxa1e45_init_da8c8_0 fu  s = some out) : Met l yJxa1e45_init_da8c8 (ag_ws yJxa1e45_init_da8c8 cJxa1e45_init_da8c8 1 ((none))) rm_Jxa1e45_init_da8c8_0 (va_Pc [.ref (p 10 0)] (ag_Pre z n p s)) (ag_Rv z n p out) 0 0 (ag_A z) := by
  refine Met.ofW (cc := cJxa1e45_init_da8c8) (maxL := 1) (ret := (none)) (by decide) rfl ?_
  intro p0 e st m args below meth c s9 B hml hv
  obtain ⟨ha, h0, hG, hW⟩ := hv
  have hx := B.exec
  have hb := B.bytes
  have hr := B.returns
  have hts := atoms_spec (ws := ag_ws yJxa1e45_init_da8c8 cJxa1e45_init_da8c8 1 ((none))) B.pre
  have hT : ∀ w ∈ ag_tbl, w.before args st = true := fun w h => hts w (List.mem_cons_of_mem _ h)
  have hown : st.vm.findClass RJxa1e45 = some m.cls := findClass_of_methodNamed B.named
  have hlocks := B.notSynchronized
  have hS : va_S (ag_A z) st.heap st.heap [] := va_S.rf
  obtain ⟨ls, hls, hl⟩ : ∃ ls, entryFrame m args 1 = F0 m 0 ls [] ∧ lv_has ls 1 [(0, .ref (p 10 0))] := by rw [ha]; exact ag_entry m [.ref (p 10 0)] (Nat.le_of_ble_eq_true rfl)
  rw [hls]
  unfold f_Jxa1e45_init_da8c8_0 at hf
  refine lv_aload_n hx hb dJxa1e45_init_da8c8_0 rfl (lv_at hl 0 rfl) ?_
  refine ag_obj hx hb hml hl.1 hT hown q43 q30 q31 (Nat.le_of_ble_eq_true rfl) (Nat.le_of_ble_eq_true rfl) dJxa1e45_init_da8c8_1 ?_
  exact ag_vret hx hb hr hlocks hS (Option.some.inj hf ▸ hW) dJxa1e45_init_da8c8_4
def f_Jxc12de_init_da8c8_0 (fu : Nat) (s : ag_S) : Option ag_S := ag_bd (f_Jxa1e45_init_da8c8_0 fu s) fun r1 => some (ag_up r1 10 0 0 0)
abbrev rm_Jxc12de_init_da8c8_0 : Room := { frames := 2, cells := 0, slots := 0, locals := 40 }
theorem dd_yJxc12de_init_da8c8 : yJxc12de_init_da8c8.cls ≠ "java/lang/invoke/MethodHandle" ∧ yJxc12de_init_da8c8.cls ≠ "java/lang/invoke/VarHandle" ∧ (parseMethodDescriptor yJxc12de_init_da8c8.desc).map (fun d => d.parameters.length) = some 0 := by decide +kernel
set_option maxHeartbeats 4000000 in
set_option maxRecDepth 100000 in
theorem c_Jxc12de_init_da8c8_0 {z : ag_Z} {l : Launch} {n : ag_N} {p : ag_P} {s : ag_S} {fu : Nat} {out : ag_S} (t10 : vp_in 0 (n 10)) (hf : f_Jxc12de_init_da8c8_0 fu  s = some out) : Met l yJxc12de_init_da8c8 (ag_ws yJxc12de_init_da8c8 cJxc12de_init_da8c8 1 ((none))) rm_Jxc12de_init_da8c8_0 (va_Pc [.ref (p 10 0)] (ag_Pre z n p s)) (ag_Rv z n p out) 0 0 (ag_A z) := by
  refine Met.ofW (cc := cJxc12de_init_da8c8) (maxL := 1) (ret := (none)) (by decide) rfl ?_
  intro p0 e st m args below meth c s9 B hml hv
  obtain ⟨ha, h0, hG, hW⟩ := hv
  have hx := B.exec
  have hb := B.bytes
  have hr := B.returns
  have hts := atoms_spec (ws := ag_ws yJxc12de_init_da8c8 cJxc12de_init_da8c8 1 ((none))) B.pre
  have hT : ∀ w ∈ ag_tbl, w.before args st = true := fun w h => hts w (List.mem_cons_of_mem _ h)
  have hown : st.vm.findClass RJxc12de = some m.cls := findClass_of_methodNamed B.named
  have hlocks := B.notSynchronized
  have hS : va_S (ag_A z) st.heap st.heap [] := va_S.rf
  obtain ⟨ls, hls, hl⟩ : ∃ ls, entryFrame m args 1 = F0 m 0 ls [] ∧ lv_has ls 1 [(0, .ref (p 10 0))] := by rw [ha]; exact ag_entry m [.ref (p 10 0)] (Nat.le_of_ble_eq_true rfl)
  rw [hls]
  unfold f_Jxc12de_init_da8c8_0 at hf
  refine lv_aload_n hx hb dJxc12de_init_da8c8_0 rfl (lv_at hl 0 rfl) ?_
  obtain ⟨r1, hg1, hf⟩ := ag_bs hf
  refine ag_cIv hx hb hml hT hown hG h0 hS hW (c_Jxa1e45_init_da8c8_0 t10 hg1) ⟨rfl, rfl⟩ q40 q41 q2 q42 rfl dd_yJxa1e45_init_da8c8 ⟨Nat.le_of_ble_eq_true rfl, Nat.le_of_ble_eq_true rfl⟩ hl.1 rfl (Nat.le_of_ble_eq_true rfl) ⟨Nat.le_of_ble_eq_true rfl, Nat.le_of_ble_eq_true rfl⟩ dJxc12de_init_da8c8_1 (fun H locs hW hS => ?_)
  refine lv_aload_n hx hb dJxc12de_init_da8c8_4 rfl (lv_at hl 0 rfl) ?_
  refine lv_iconst (v := 0) hx hb dJxc12de_init_da8c8_5 (by decide) ?_
  refine u10_0 hx hb hT hown hG hW hS t10 q48 (fun _ h => h) dJxc12de_init_da8c8_6 (fun H locs hW hS => ?_)
  exact ag_vret hx hb hr hlocks hS (Option.some.inj hf ▸ hW) dJxc12de_init_da8c8_9
def f_Jx4a65c_init_da8c8_0 (fu : Nat) (s : ag_S) : Option ag_S := ag_bd (f_Jxc12de_init_da8c8_0 fu s) fun r1 => some (ag_up r1 10 1 0 (-2))
abbrev rm_Jx4a65c_init_da8c8_0 : Room := { frames := 3, cells := 0, slots := 0, locals := 60 }
theorem dd_yJx4a65c_init_da8c8 : yJx4a65c_init_da8c8.cls ≠ "java/lang/invoke/MethodHandle" ∧ yJx4a65c_init_da8c8.cls ≠ "java/lang/invoke/VarHandle" ∧ (parseMethodDescriptor yJx4a65c_init_da8c8.desc).map (fun d => d.parameters.length) = some 0 := by decide +kernel
set_option maxHeartbeats 4000000 in
set_option maxRecDepth 100000 in
theorem c_Jx4a65c_init_da8c8_0 {z : ag_Z} {l : Launch} {n : ag_N} {p : ag_P} {s : ag_S} {fu : Nat} {out : ag_S} (t10 : vp_in 0 (n 10)) (hf : f_Jx4a65c_init_da8c8_0 fu  s = some out) : Met l yJx4a65c_init_da8c8 (ag_ws yJx4a65c_init_da8c8 cJx4a65c_init_da8c8 1 ((none))) rm_Jx4a65c_init_da8c8_0 (va_Pc [.ref (p 10 0)] (ag_Pre z n p s)) (ag_Rv z n p out) 0 0 (ag_A z) := by
  refine Met.ofW (cc := cJx4a65c_init_da8c8) (maxL := 1) (ret := (none)) (by decide) rfl ?_
  intro p0 e st m args below meth c s9 B hml hv
  obtain ⟨ha, h0, hG, hW⟩ := hv
  have hx := B.exec
  have hb := B.bytes
  have hr := B.returns
  have hts := atoms_spec (ws := ag_ws yJx4a65c_init_da8c8 cJx4a65c_init_da8c8 1 ((none))) B.pre
  have hT : ∀ w ∈ ag_tbl, w.before args st = true := fun w h => hts w (List.mem_cons_of_mem _ h)
  have hown : st.vm.findClass RJx4a65c = some m.cls := findClass_of_methodNamed B.named
  have hlocks := B.notSynchronized
  have hS : va_S (ag_A z) st.heap st.heap [] := va_S.rf
  obtain ⟨ls, hls, hl⟩ : ∃ ls, entryFrame m args 1 = F0 m 0 ls [] ∧ lv_has ls 1 [(0, .ref (p 10 0))] := by rw [ha]; exact ag_entry m [.ref (p 10 0)] (Nat.le_of_ble_eq_true rfl)
  rw [hls]
  unfold f_Jx4a65c_init_da8c8_0 at hf
  refine lv_aload_n hx hb dJx4a65c_init_da8c8_0 rfl (lv_at hl 0 rfl) ?_
  obtain ⟨r1, hg1, hf⟩ := ag_bs hf
  refine ag_cIv hx hb hml hT hown hG h0 hS hW (c_Jxc12de_init_da8c8_0 t10 hg1) ⟨rfl, rfl⟩ q37 q38 q3 q39 rfl dd_yJxc12de_init_da8c8 ⟨Nat.le_of_ble_eq_true rfl, Nat.le_of_ble_eq_true rfl⟩ hl.1 rfl (Nat.le_of_ble_eq_true rfl) ⟨Nat.le_of_ble_eq_true rfl, Nat.le_of_ble_eq_true rfl⟩ dJx4a65c_init_da8c8_1 (fun H locs hW hS => ?_)
  refine lv_aload_n hx hb dJx4a65c_init_da8c8_4 rfl (lv_at hl 0 rfl) ?_
  refine ag_getst hx hb hT hown hG hS q44 dJx4a65c_init_da8c8_5 ?_
  refine u10_1 hx hb hT hown hG hW hS t10 (x := -2) rfl (Or.inr rfl) q46 dJx4a65c_init_da8c8_8 (fun H locs hW hS => ?_)
  exact ag_vret hx hb hr hlocks hS (Option.some.inj hf ▸ hW) dJx4a65c_init_da8c8_11
def f_Jxa1e45_init_da8c8_1 (fu : Nat) (s : ag_S) : Option ag_S := some s
abbrev rm_Jxa1e45_init_da8c8_1 : Room := { frames := 1, cells := 0, slots := 0, locals := 20 }
set_option maxHeartbeats 4000000 in
set_option maxRecDepth 100000 in
theorem c_Jxa1e45_init_da8c8_1 {z : ag_Z} {l : Launch} {n : ag_N} {p : ag_P} {s : ag_S} {fu : Nat} {out : ag_S} (t11 : vp_in 0 (n 11)) (hf : f_Jxa1e45_init_da8c8_1 fu  s = some out) : Met l yJxa1e45_init_da8c8 (ag_ws yJxa1e45_init_da8c8 cJxa1e45_init_da8c8 1 ((none))) rm_Jxa1e45_init_da8c8_1 (va_Pc [.ref (p 11 0)] (ag_Pre z n p s)) (ag_Rv z n p out) 0 0 (ag_A z) := by
  refine Met.ofW (cc := cJxa1e45_init_da8c8) (maxL := 1) (ret := (none)) (by decide) rfl ?_
  intro p0 e st m args below meth c s9 B hml hv
  obtain ⟨ha, h0, hG, hW⟩ := hv
  have hx := B.exec
  have hb := B.bytes
  have hr := B.returns
  have hts := atoms_spec (ws := ag_ws yJxa1e45_init_da8c8 cJxa1e45_init_da8c8 1 ((none))) B.pre
  have hT : ∀ w ∈ ag_tbl, w.before args st = true := fun w h => hts w (List.mem_cons_of_mem _ h)
  have hown : st.vm.findClass RJxa1e45 = some m.cls := findClass_of_methodNamed B.named
  have hlocks := B.notSynchronized
  have hS : va_S (ag_A z) st.heap st.heap [] := va_S.rf
  obtain ⟨ls, hls, hl⟩ : ∃ ls, entryFrame m args 1 = F0 m 0 ls [] ∧ lv_has ls 1 [(0, .ref (p 11 0))] := by rw [ha]; exact ag_entry m [.ref (p 11 0)] (Nat.le_of_ble_eq_true rfl)
  rw [hls]
  unfold f_Jxa1e45_init_da8c8_1 at hf
  refine lv_aload_n hx hb dJxa1e45_init_da8c8_0 rfl (lv_at hl 0 rfl) ?_
  refine ag_obj hx hb hml hl.1 hT hown q43 q30 q31 (Nat.le_of_ble_eq_true rfl) (Nat.le_of_ble_eq_true rfl) dJxa1e45_init_da8c8_1 ?_
  exact ag_vret hx hb hr hlocks hS (Option.some.inj hf ▸ hW) dJxa1e45_init_da8c8_4
def f_Jxc12de_init_da8c8_1 (fu : Nat) (s : ag_S) : Option ag_S := ag_bd (f_Jxa1e45_init_da8c8_1 fu s) fun r1 => some (ag_up r1 11 0 0 0)
abbrev rm_Jxc12de_init_da8c8_1 : Room := { frames := 2, cells := 0, slots := 0, locals := 40 }
set_option maxHeartbeats 4000000 in
set_option maxRecDepth 100000 in
theorem c_Jxc12de_init_da8c8_1 {z : ag_Z} {l : Launch} {n : ag_N} {p : ag_P} {s : ag_S} {fu : Nat} {out : ag_S} (t11 : vp_in 0 (n 11)) (hf : f_Jxc12de_init_da8c8_1 fu  s = some out) : Met l yJxc12de_init_da8c8 (ag_ws yJxc12de_init_da8c8 cJxc12de_init_da8c8 1 ((none))) rm_Jxc12de_init_da8c8_1 (va_Pc [.ref (p 11 0)] (ag_Pre z n p s)) (ag_Rv z n p out) 0 0 (ag_A z) := by
  refine Met.ofW (cc := cJxc12de_init_da8c8) (maxL := 1) (ret := (none)) (by decide) rfl ?_
  intro p0 e st m args below meth c s9 B hml hv
  obtain ⟨ha, h0, hG, hW⟩ := hv
  have hx := B.exec
  have hb := B.bytes
  have hr := B.returns
  have hts := atoms_spec (ws := ag_ws yJxc12de_init_da8c8 cJxc12de_init_da8c8 1 ((none))) B.pre
  have hT : ∀ w ∈ ag_tbl, w.before args st = true := fun w h => hts w (List.mem_cons_of_mem _ h)
  have hown : st.vm.findClass RJxc12de = some m.cls := findClass_of_methodNamed B.named
  have hlocks := B.notSynchronized
  have hS : va_S (ag_A z) st.heap st.heap [] := va_S.rf
  obtain ⟨ls, hls, hl⟩ : ∃ ls, entryFrame m args 1 = F0 m 0 ls [] ∧ lv_has ls 1 [(0, .ref (p 11 0))] := by rw [ha]; exact ag_entry m [.ref (p 11 0)] (Nat.le_of_ble_eq_true rfl)
  rw [hls]
  unfold f_Jxc12de_init_da8c8_1 at hf
  refine lv_aload_n hx hb dJxc12de_init_da8c8_0 rfl (lv_at hl 0 rfl) ?_
  obtain ⟨r1, hg1, hf⟩ := ag_bs hf
  refine ag_cIv hx hb hml hT hown hG h0 hS hW (c_Jxa1e45_init_da8c8_1 t11 hg1) ⟨rfl, rfl⟩ q40 q41 q2 q42 rfl dd_yJxa1e45_init_da8c8 ⟨Nat.le_of_ble_eq_true rfl, Nat.le_of_ble_eq_true rfl⟩ hl.1 rfl (Nat.le_of_ble_eq_true rfl) ⟨Nat.le_of_ble_eq_true rfl, Nat.le_of_ble_eq_true rfl⟩ dJxc12de_init_da8c8_1 (fun H locs hW hS => ?_)
  refine lv_aload_n hx hb dJxc12de_init_da8c8_4 rfl (lv_at hl 0 rfl) ?_
  refine lv_iconst (v := 0) hx hb dJxc12de_init_da8c8_5 (by decide) ?_
  refine u11_0 hx hb hT hown hG hW hS t11 q48 (fun _ h => h) dJxc12de_init_da8c8_6 (fun H locs hW hS => ?_)
  exact ag_vret hx hb hr hlocks hS (Option.some.inj hf ▸ hW) dJxc12de_init_da8c8_9
def f_Jx4a65c_init_da8c8_1 (fu : Nat) (s : ag_S) : Option ag_S := ag_bd (f_Jxc12de_init_da8c8_1 fu s) fun r1 => some (ag_up r1 11 1 0 (-2))
abbrev rm_Jx4a65c_init_da8c8_1 : Room := { frames := 3, cells := 0, slots := 0, locals := 60 }
set_option maxHeartbeats 4000000 in
set_option maxRecDepth 100000 in
theorem c_Jx4a65c_init_da8c8_1 {z : ag_Z} {l : Launch} {n : ag_N} {p : ag_P} {s : ag_S} {fu : Nat} {out : ag_S} (t11 : vp_in 0 (n 11)) (hf : f_Jx4a65c_init_da8c8_1 fu  s = some out) : Met l yJx4a65c_init_da8c8 (ag_ws yJx4a65c_init_da8c8 cJx4a65c_init_da8c8 1 ((none))) rm_Jx4a65c_init_da8c8_1 (va_Pc [.ref (p 11 0)] (ag_Pre z n p s)) (ag_Rv z n p out) 0 0 (ag_A z) := by
  refine Met.ofW (cc := cJx4a65c_init_da8c8) (maxL := 1) (ret := (none)) (by decide) rfl ?_
  intro p0 e st m args below meth c s9 B hml hv
  obtain ⟨ha, h0, hG, hW⟩ := hv
  have hx := B.exec
  have hb := B.bytes
  have hr := B.returns
  have hts := atoms_spec (ws := ag_ws yJx4a65c_init_da8c8 cJx4a65c_init_da8c8 1 ((none))) B.pre
  have hT : ∀ w ∈ ag_tbl, w.before args st = true := fun w h => hts w (List.mem_cons_of_mem _ h)
  have hown : st.vm.findClass RJx4a65c = some m.cls := findClass_of_methodNamed B.named
  have hlocks := B.notSynchronized
  have hS : va_S (ag_A z) st.heap st.heap [] := va_S.rf
  obtain ⟨ls, hls, hl⟩ : ∃ ls, entryFrame m args 1 = F0 m 0 ls [] ∧ lv_has ls 1 [(0, .ref (p 11 0))] := by rw [ha]; exact ag_entry m [.ref (p 11 0)] (Nat.le_of_ble_eq_true rfl)
  rw [hls]
  unfold f_Jx4a65c_init_da8c8_1 at hf
  refine lv_aload_n hx hb dJx4a65c_init_da8c8_0 rfl (lv_at hl 0 rfl) ?_
  obtain ⟨r1, hg1, hf⟩ := ag_bs hf
  refine ag_cIv hx hb hml hT hown hG h0 hS hW (c_Jxc12de_init_da8c8_1 t11 hg1) ⟨rfl, rfl⟩ q37 q38 q3 q39 rfl dd_yJxc12de_init_da8c8 ⟨Nat.le_of_ble_eq_true rfl, Nat.le_of_ble_eq_true rfl⟩ hl.1 rfl (Nat.le_of_ble_eq_true rfl) ⟨Nat.le_of_ble_eq_true rfl, Nat.le_of_ble_eq_true rfl⟩ dJx4a65c_init_da8c8_1 (fun H locs hW hS => ?_)
  refine lv_aload_n hx hb dJx4a65c_init_da8c8_4 rfl (lv_at hl 0 rfl) ?_
  refine ag_getst hx hb hT hown hG hS q44 dJx4a65c_init_da8c8_5 ?_
  refine u11_1 hx hb hT hown hG hW hS t11 (x := -2) rfl (Or.inr rfl) q46 dJx4a65c_init_da8c8_8 (fun H locs hW hS => ?_)
  exact ag_vret hx hb hr hlocks hS (Option.some.inj hf ▸ hW) dJx4a65c_init_da8c8_11
def f_Jxa1e45_init_da8c8_2 (fu : Nat) (s : ag_S) : Option ag_S := some s
abbrev rm_Jxa1e45_init_da8c8_2 : Room := { frames := 1, cells := 0, slots := 0, locals := 20 }
set_option maxHeartbeats 4000000 in
set_option maxRecDepth 100000 in
theorem c_Jxa1e45_init_da8c8_2 {z : ag_Z} {l : Launch} {n : ag_N} {p : ag_P} {s : ag_S} {fu : Nat} {out : ag_S} (t12 : vp_in 0 (n 12)) (hf : f_Jxa1e45_init_da8c8_2 fu  s = some out) : Met l yJxa1e45_init_da8c8 (ag_ws yJxa1e45_init_da8c8 cJxa1e45_init_da8c8 1 ((none))) rm_Jxa1e45_init_da8c8_2 (va_Pc [.ref (p 12 0)] (ag_Pre z n p s)) (ag_Rv z n p out) 0 0 (ag_A z) := by
  refine Met.ofW (cc := cJxa1e45_init_da8c8) (maxL := 1) (ret := (none)) (by decide) rfl ?_
  intro p0 e st m args below meth c s9 B hml hv
  obtain ⟨ha, h0, hG, hW⟩ := hv
  have hx := B.exec
  have hb := B.bytes
  have hr := B.returns
  have hts := atoms_spec (ws := ag_ws yJxa1e45_init_da8c8 cJxa1e45_init_da8c8 1 ((none))) B.pre
  have hT : ∀ w ∈ ag_tbl, w.before args st = true := fun w h => hts w (List.mem_cons_of_mem _ h)
  have hown : st.vm.findClass RJxa1e45 = some m.cls := findClass_of_methodNamed B.named
  have hlocks := B.notSynchronized
  have hS : va_S (ag_A z) st.heap st.heap [] := va_S.rf
  obtain ⟨ls, hls, hl⟩ : ∃ ls, entryFrame m args 1 = F0 m 0 ls [] ∧ lv_has ls 1 [(0, .ref (p 12 0))] := by rw [ha]; exact ag_entry m [.ref (p 12 0)] (Nat.le_of_ble_eq_true rfl)
  rw [hls]
  unfold f_Jxa1e45_init_da8c8_2 at hf
  refine lv_aload_n hx hb dJxa1e45_init_da8c8_0 rfl (lv_at hl 0 rfl) ?_
  refine ag_obj hx hb hml hl.1 hT hown q43 q30 q31 (Nat.le_of_ble_eq_true rfl) (Nat.le_of_ble_eq_true rfl) dJxa1e45_init_da8c8_1 ?_
  exact ag_vret hx hb hr hlocks hS (Option.some.inj hf ▸ hW) dJxa1e45_init_da8c8_4
def f_Jxc12de_init_da8c8_2 (fu : Nat) (s : ag_S) : Option ag_S := ag_bd (f_Jxa1e45_init_da8c8_2 fu s) fun r1 => some (ag_up r1 12 0 0 0)
abbrev rm_Jxc12de_init_da8c8_2 : Room := { frames := 2, cells := 0, slots := 0, locals := 40 }
set_option maxHeartbeats 4000000 in
set_option maxRecDepth 100000 in
theorem c_Jxc12de_init_da8c8_2 {z : ag_Z} {l : Launch} {n : ag_N} {p : ag_P} {s : ag_S} {fu : Nat} {out : ag_S} (t12 : vp_in 0 (n 12)) (hf : f_Jxc12de_init_da8c8_2 fu  s = some out) : Met l yJxc12de_init_da8c8 (ag_ws yJxc12de_init_da8c8 cJxc12de_init_da8c8 1 ((none))) rm_Jxc12de_init_da8c8_2 (va_Pc [.ref (p 12 0)] (ag_Pre z n p s)) (ag_Rv z n p out) 0 0 (ag_A z) := by
  refine Met.ofW (cc := cJxc12de_init_da8c8) (maxL := 1) (ret := (none)) (by decide) rfl ?_
  intro p0 e st m args below meth c s9 B hml hv
  obtain ⟨ha, h0, hG, hW⟩ := hv
  have hx := B.exec
  have hb := B.bytes
  have hr := B.returns
  have hts := atoms_spec (ws := ag_ws yJxc12de_init_da8c8 cJxc12de_init_da8c8 1 ((none))) B.pre
  have hT : ∀ w ∈ ag_tbl, w.before args st = true := fun w h => hts w (List.mem_cons_of_mem _ h)
  have hown : st.vm.findClass RJxc12de = some m.cls := findClass_of_methodNamed B.named
  have hlocks := B.notSynchronized
  have hS : va_S (ag_A z) st.heap st.heap [] := va_S.rf
  obtain ⟨ls, hls, hl⟩ : ∃ ls, entryFrame m args 1 = F0 m 0 ls [] ∧ lv_has ls 1 [(0, .ref (p 12 0))] := by rw [ha]; exact ag_entry m [.ref (p 12 0)] (Nat.le_of_ble_eq_true rfl)
  rw [hls]
  unfold f_Jxc12de_init_da8c8_2 at hf
  refine lv_aload_n hx hb dJxc12de_init_da8c8_0 rfl (lv_at hl 0 rfl) ?_
  obtain ⟨r1, hg1, hf⟩ := ag_bs hf
  refine ag_cIv hx hb hml hT hown hG h0 hS hW (c_Jxa1e45_init_da8c8_2 t12 hg1) ⟨rfl, rfl⟩ q40 q41 q2 q42 rfl dd_yJxa1e45_init_da8c8 ⟨Nat.le_of_ble_eq_true rfl, Nat.le_of_ble_eq_true rfl⟩ hl.1 rfl (Nat.le_of_ble_eq_true rfl) ⟨Nat.le_of_ble_eq_true rfl, Nat.le_of_ble_eq_true rfl⟩ dJxc12de_init_da8c8_1 (fun H locs hW hS => ?_)
  refine lv_aload_n hx hb dJxc12de_init_da8c8_4 rfl (lv_at hl 0 rfl) ?_
  refine lv_iconst (v := 0) hx hb dJxc12de_init_da8c8_5 (by decide) ?_
  refine u12_0 hx hb hT hown hG hW hS t12 q48 (fun _ h => h) dJxc12de_init_da8c8_6 (fun H locs hW hS => ?_)
  exact ag_vret hx hb hr hlocks hS (Option.some.inj hf ▸ hW) dJxc12de_init_da8c8_9
def f_Jx4a65c_init_da8c8_2 (fu : Nat) (s : ag_S) : Option ag_S := ag_bd (f_Jxc12de_init_da8c8_2 fu s) fun r1 => some (ag_up r1 12 1 0 (-2))
abbrev rm_Jx4a65c_init_da8c8_2 : Room := { frames := 3, cells := 0, slots := 0, locals := 60 }
set_option maxHeartbeats 4000000 in
set_option maxRecDepth 100000 in
theorem c_Jx4a65c_init_da8c8_2 {z : ag_Z} {l : Launch} {n : ag_N} {p : ag_P} {s : ag_S} {fu : Nat} {out : ag_S} (t12 : vp_in 0 (n 12)) (hf : f_Jx4a65c_init_da8c8_2 fu  s = some out) : Met l yJx4a65c_init_da8c8 (ag_ws yJx4a65c_init_da8c8 cJx4a65c_init_da8c8 1 ((none))) rm_Jx4a65c_init_da8c8_2 (va_Pc [.ref (p 12 0)] (ag_Pre z n p s)) (ag_Rv z n p out) 0 0 (ag_A z) := by
  refine Met.ofW (cc := cJx4a65c_init_da8c8) (maxL := 1) (ret := (none)) (by decide) rfl ?_
  intro p0 e st m args below meth c s9 B hml hv
  obtain ⟨ha, h0, hG, hW⟩ := hv
  have hx := B.exec
  have hb := B.bytes
  have hr := B.returns
  have hts := atoms_spec (ws := ag_ws yJx4a65c_init_da8c8 cJx4a65c_init_da8c8 1 ((none))) B.pre
  have hT : ∀ w ∈ ag_tbl, w.before args st = true := fun w h => hts w (List.mem_cons_of_mem _ h)
  have hown : st.vm.findClass RJx4a65c = some m.cls := findClass_of_methodNamed B.named
  have hlocks := B.notSynchronized
  have hS : va_S (ag_A z) st.heap st.heap [] := va_S.rf
  obtain ⟨ls, hls, hl⟩ : ∃ ls, entryFrame m args 1 = F0 m 0 ls [] ∧ lv_has ls 1 [(0, .ref (p 12 0))] := by rw [ha]; exact ag_entry m [.ref (p 12 0)] (Nat.le_of_ble_eq_true rfl)
  rw [hls]
  unfold f_Jx4a65c_init_da8c8_2 at hf
  refine lv_aload_n hx hb dJx4a65c_init_da8c8_0 rfl (lv_at hl 0 rfl) ?_
  obtain ⟨r1, hg1, hf⟩ := ag_bs hf
  refine ag_cIv hx hb hml hT hown hG h0 hS hW (c_Jxc12de_init_da8c8_2 t12 hg1) ⟨rfl, rfl⟩ q37 q38 q3 q39 rfl dd_yJxc12de_init_da8c8 ⟨Nat.le_of_ble_eq_true rfl, Nat.le_of_ble_eq_true rfl⟩ hl.1 rfl (Nat.le_of_ble_eq_true rfl) ⟨Nat.le_of_ble_eq_true rfl, Nat.le_of_ble_eq_true rfl⟩ dJx4a65c_init_da8c8_1 (fun H locs hW hS => ?_)
  refine lv_aload_n hx hb dJx4a65c_init_da8c8_4 rfl (lv_at hl 0 rfl) ?_
  refine ag_getst hx hb hT hown hG hS q44 dJx4a65c_init_da8c8_5 ?_
  refine u12_1 hx hb hT hown hG hW hS t12 (x := -2) rfl (Or.inr rfl) q46 dJx4a65c_init_da8c8_8 (fun H locs hW hS => ?_)
  exact ag_vret hx hb hr hlocks hS (Option.some.inj hf ▸ hW) dJx4a65c_init_da8c8_11
def f_Jxa1e45_init_da8c8_3 (fu : Nat) (s : ag_S) : Option ag_S := some s
abbrev rm_Jxa1e45_init_da8c8_3 : Room := { frames := 1, cells := 0, slots := 0, locals := 20 }
set_option maxHeartbeats 4000000 in
set_option maxRecDepth 100000 in
theorem c_Jxa1e45_init_da8c8_3 {z : ag_Z} {l : Launch} {n : ag_N} {p : ag_P} {s : ag_S} {fu : Nat} {out : ag_S} (t13 : vp_in 0 (n 13)) (hf : f_Jxa1e45_init_da8c8_3 fu  s = some out) : Met l yJxa1e45_init_da8c8 (ag_ws yJxa1e45_init_da8c8 cJxa1e45_init_da8c8 1 ((none))) rm_Jxa1e45_init_da8c8_3 (va_Pc [.ref (p 13 0)] (ag_Pre z n p s)) (ag_Rv z n p out) 0 0 (ag_A z) := by
  refine Met.ofW (cc := cJxa1e45_init_da8c8) (maxL := 1) (ret := (none)) (by decide) rfl ?_
  intro p0 e st m args below meth c s9 B hml hv
  obtain ⟨ha, h0, hG, hW⟩ := hv
  have hx := B.exec
  have hb := B.bytes
  have hr := B.returns
  have hts := atoms_spec (ws := ag_ws yJxa1e45_init_da8c8 cJxa1e45_init_da8c8 1 ((none))) B.pre
  have hT : ∀ w ∈ ag_tbl, w.before args st = true := fun w h => hts w (List.mem_cons_of_mem _ h)
  have hown : st.vm.findClass RJxa1e45 = some m.cls := findClass_of_methodNamed B.named
  have hlocks := B.notSynchronized
  have hS : va_S (ag_A z) st.heap st.heap [] := va_S.rf
  obtain ⟨ls, hls, hl⟩ : ∃ ls, entryFrame m args 1 = F0 m 0 ls [] ∧ lv_has ls 1 [(0, .ref (p 13 0))] := by rw [ha]; exact ag_entry m [.ref (p 13 0)] (Nat.le_of_ble_eq_true rfl)
  rw [hls]
  unfold f_Jxa1e45_init_da8c8_3 at hf
  refine lv_aload_n hx hb dJxa1e45_init_da8c8_0 rfl (lv_at hl 0 rfl) ?_
  refine ag_obj hx hb hml hl.1 hT hown q43 q30 q31 (Nat.le_of_ble_eq_true rfl) (Nat.le_of_ble_eq_true rfl) dJxa1e45_init_da8c8_1 ?_
  exact ag_vret hx hb hr hlocks hS (Option.some.inj hf ▸ hW) dJxa1e45_init_da8c8_4
def f_Jxc12de_init_da8c8_3 (fu : Nat) (s : ag_S) : Option ag_S := ag_bd (f_Jxa1e45_init_da8c8_3 fu s) fun r1 => some (ag_up r1 13 0 0 0)
abbrev rm_Jxc12de_init_da8c8_3 : Room := { frames := 2, cells := 0, slots := 0, locals := 40 }
set_option maxHeartbeats 4000000 in
set_option maxRecDepth 100000 in
theorem c_Jxc12de_init_da8c8_3 {z : ag_Z} {l : Launch} {n : ag_N} {p : ag_P} {s : ag_S} {fu : Nat} {out : ag_S} (t13 : vp_in 0 (n 13)) (hf : f_Jxc12de_init_da8c8_3 fu  s = some out) : Met l yJxc12de_init_da8c8 (ag_ws yJxc12de_init_da8c8 cJxc12de_init_da8c8 1 ((none))) rm_Jxc12de_init_da8c8_3 (va_Pc [.ref (p 13 0)] (ag_Pre z n p s)) (ag_Rv z n p out) 0 0 (ag_A z) := by
  refine Met.ofW (cc := cJxc12de_init_da8c8) (maxL := 1) (ret := (none)) (by decide) rfl ?_
  intro p0 e st m args below meth c s9 B hml hv
  obtain ⟨ha, h0, hG, hW⟩ := hv
  have hx := B.exec
  have hb := B.bytes
  have hr := B.returns
  have hts := atoms_spec (ws := ag_ws yJxc12de_init_da8c8 cJxc12de_init_da8c8 1 ((none))) B.pre
  have hT : ∀ w ∈ ag_tbl, w.before args st = true := fun w h => hts w (List.mem_cons_of_mem _ h)
  have hown : st.vm.findClass RJxc12de = some m.cls := findClass_of_methodNamed B.named
  have hlocks := B.notSynchronized
  have hS : va_S (ag_A z) st.heap st.heap [] := va_S.rf
  obtain ⟨ls, hls, hl⟩ : ∃ ls, entryFrame m args 1 = F0 m 0 ls [] ∧ lv_has ls 1 [(0, .ref (p 13 0))] := by rw [ha]; exact ag_entry m [.ref (p 13 0)] (Nat.le_of_ble_eq_true rfl)
  rw [hls]
  unfold f_Jxc12de_init_da8c8_3 at hf
  refine lv_aload_n hx hb dJxc12de_init_da8c8_0 rfl (lv_at hl 0 rfl) ?_
  obtain ⟨r1, hg1, hf⟩ := ag_bs hf
  refine ag_cIv hx hb hml hT hown hG h0 hS hW (c_Jxa1e45_init_da8c8_3 t13 hg1) ⟨rfl, rfl⟩ q40 q41 q2 q42 rfl dd_yJxa1e45_init_da8c8 ⟨Nat.le_of_ble_eq_true rfl, Nat.le_of_ble_eq_true rfl⟩ hl.1 rfl (Nat.le_of_ble_eq_true rfl) ⟨Nat.le_of_ble_eq_true rfl, Nat.le_of_ble_eq_true rfl⟩ dJxc12de_init_da8c8_1 (fun H locs hW hS => ?_)
  refine lv_aload_n hx hb dJxc12de_init_da8c8_4 rfl (lv_at hl 0 rfl) ?_
  refine lv_iconst (v := 0) hx hb dJxc12de_init_da8c8_5 (by decide) ?_
  refine u13_0 hx hb hT hown hG hW hS t13 q48 (fun _ h => h) dJxc12de_init_da8c8_6 (fun H locs hW hS => ?_)
  exact ag_vret hx hb hr hlocks hS (Option.some.inj hf ▸ hW) dJxc12de_init_da8c8_9
def f_Jx4a65c_init_da8c8_3 (fu : Nat) (s : ag_S) : Option ag_S := ag_bd (f_Jxc12de_init_da8c8_3 fu s) fun r1 => some (ag_up r1 13 1 0 (-2))
abbrev rm_Jx4a65c_init_da8c8_3 : Room := { frames := 3, cells := 0, slots := 0, locals := 60 }
set_option maxHeartbeats 4000000 in
set_option maxRecDepth 100000 in
theorem c_Jx4a65c_init_da8c8_3 {z : ag_Z} {l : Launch} {n : ag_N} {p : ag_P} {s : ag_S} {fu : Nat} {out : ag_S} (t13 : vp_in 0 (n 13)) (hf : f_Jx4a65c_init_da8c8_3 fu  s = some out) : Met l yJx4a65c_init_da8c8 (ag_ws yJx4a65c_init_da8c8 cJx4a65c_init_da8c8 1 ((none))) rm_Jx4a65c_init_da8c8_3 (va_Pc [.ref (p 13 0)] (ag_Pre z n p s)) (ag_Rv z n p out) 0 0 (ag_A z) := by
  refine Met.ofW (cc := cJx4a65c_init_da8c8) (maxL := 1) (ret := (none)) (by decide) rfl ?_
  intro p0 e st m args below meth c s9 B hml hv
  obtain ⟨ha, h0, hG, hW⟩ := hv
  have hx := B.exec
  have hb := B.bytes
  have hr := B.returns
  have hts := atoms_spec (ws := ag_ws yJx4a65c_init_da8c8 cJx4a65c_init_da8c8 1 ((none))) B.pre
  have hT : ∀ w ∈ ag_tbl, w.before args st = true := fun w h => hts w (List.mem_cons_of_mem _ h)
  have hown : st.vm.findClass RJx4a65c = some m.cls := findClass_of_methodNamed B.named
  have hlocks := B.notSynchronized
  have hS : va_S (ag_A z) st.heap st.heap [] := va_S.rf
  obtain ⟨ls, hls, hl⟩ : ∃ ls, entryFrame m args 1 = F0 m 0 ls [] ∧ lv_has ls 1 [(0, .ref (p 13 0))] := by rw [ha]; exact ag_entry m [.ref (p 13 0)] (Nat.le_of_ble_eq_true rfl)
  rw [hls]
  unfold f_Jx4a65c_init_da8c8_3 at hf
  refine lv_aload_n hx hb dJx4a65c_init_da8c8_0 rfl (lv_at hl 0 rfl) ?_
  obtain ⟨r1, hg1, hf⟩ := ag_bs hf
  refine ag_cIv hx hb hml hT hown hG h0 hS hW (c_Jxc12de_init_da8c8_3 t13 hg1) ⟨rfl, rfl⟩ q37 q38 q3 q39 rfl dd_yJxc12de_init_da8c8 ⟨Nat.le_of_ble_eq_true rfl, Nat.le_of_ble_eq_true rfl⟩ hl.1 rfl (Nat.le_of_ble_eq_true rfl) ⟨Nat.le_of_ble_eq_true rfl, Nat.le_of_ble_eq_true rfl⟩ dJx4a65c_init_da8c8_1 (fun H locs hW hS => ?_)
  refine lv_aload_n hx hb dJx4a65c_init_da8c8_4 rfl (lv_at hl 0 rfl) ?_
  refine ag_getst hx hb hT hown hG hS q44 dJx4a65c_init_da8c8_5 ?_
  refine u13_1 hx hb hT hown hG hW hS t13 (x := -2) rfl (Or.inr rfl) q46 dJx4a65c_init_da8c8_8 (fun H locs hW hS => ?_)
  exact ag_vret hx hb hr hlocks hS (Option.some.inj hf ▸ hW) dJx4a65c_init_da8c8_11
def f_Jxa1e45_init_da8c8_4 (fu : Nat) (s : ag_S) : Option ag_S := some s
abbrev rm_Jxa1e45_init_da8c8_4 : Room := { frames := 1, cells := 0, slots := 0, locals := 20 }
set_option maxHeartbeats 4000000 in
set_option maxRecDepth 100000 in
theorem c_Jxa1e45_init_da8c8_4 {z : ag_Z} {l : Launch} {n : ag_N} {p : ag_P} {s : ag_S} {fu : Nat} {out : ag_S} (t14 : vp_in 0 (n 14)) (hf : f_Jxa1e45_init_da8c8_4 fu  s = some out) : Met l yJxa1e45_init_da8c8 (ag_ws yJxa1e45_init_da8c8 cJxa1e45_init_da8c8 1 ((none))) rm_Jxa1e45_init_da8c8_4 (va_Pc [.ref (p 14 0)] (ag_Pre z n p s)) (ag_Rv z n p out) 0 0 (ag_A z) := by
  refine Met.ofW (cc := cJxa1e45_init_da8c8) (maxL := 1) (ret := (none)) (by decide) rfl ?_
  intro p0 e st m args below meth c s9 B hml hv
  obtain ⟨ha, h0, hG, hW⟩ := hv
  have hx := B.exec
  have hb := B.bytes
  have hr := B.returns
  have hts := atoms_spec (ws := ag_ws yJxa1e45_init_da8c8 cJxa1e45_init_da8c8 1 ((none))) B.pre
  have hT : ∀ w ∈ ag_tbl, w.before args st = true := fun w h => hts w (List.mem_cons_of_mem _ h)
  have hown : st.vm.findClass RJxa1e45 = some m.cls := findClass_of_methodNamed B.named
  have hlocks := B.notSynchronized
  have hS : va_S (ag_A z) st.heap st.heap [] := va_S.rf
  obtain ⟨ls, hls, hl⟩ : ∃ ls, entryFrame m args 1 = F0 m 0 ls [] ∧ lv_has ls 1 [(0, .ref (p 14 0))] := by rw [ha]; exact ag_entry m [.ref (p 14 0)] (Nat.le_of_ble_eq_true rfl)
  rw [hls]
  unfold f_Jxa1e45_init_da8c8_4 at hf
  refine lv_aload_n hx hb dJxa1e45_init_da8c8_0 rfl (lv_at hl 0 rfl) ?_
  refine ag_obj hx hb hml hl.1 hT hown q43 q30 q31 (Nat.le_of_ble_eq_true rfl) (Nat.le_of_ble_eq_true rfl) dJxa1e45_init_da8c8_1 ?_
  exact ag_vret hx hb hr hlocks hS (Option.some.inj hf ▸ hW) dJxa1e45_init_da8c8_4
def f_Jxc12de_init_da8c8_4 (fu : Nat) (s : ag_S) : Option ag_S := ag_bd (f_Jxa1e45_init_da8c8_4 fu s) fun r1 => some (ag_up r1 14 0 0 0)
abbrev rm_Jxc12de_init_da8c8_4 : Room := { frames := 2, cells := 0, slots := 0, locals := 40 }
set_option maxHeartbeats 4000000 in
set_option maxRecDepth 100000 in
theorem c_Jxc12de_init_da8c8_4 {z : ag_Z} {l : Launch} {n : ag_N} {p : ag_P} {s : ag_S} {fu : Nat} {out : ag_S} (t14 : vp_in 0 (n 14)) (hf : f_Jxc12de_init_da8c8_4 fu  s = some out) : Met l yJxc12de_init_da8c8 (ag_ws yJxc12de_init_da8c8 cJxc12de_init_da8c8 1 ((none))) rm_Jxc12de_init_da8c8_4 (va_Pc [.ref (p 14 0)] (ag_Pre z n p s)) (ag_Rv z n p out) 0 0 (ag_A z) := by
  refine Met.ofW (cc := cJxc12de_init_da8c8) (maxL := 1) (ret := (none)) (by decide) rfl ?_
  intro p0 e st m args below meth c s9 B hml hv
  obtain ⟨ha, h0, hG, hW⟩ := hv
  have hx := B.exec
  have hb := B.bytes
  have hr := B.returns
  have hts := atoms_spec (ws := ag_ws yJxc12de_init_da8c8 cJxc12de_init_da8c8 1 ((none))) B.pre
  have hT : ∀ w ∈ ag_tbl, w.before args st = true := fun w h => hts w (List.mem_cons_of_mem _ h)
  have hown : st.vm.findClass RJxc12de = some m.cls := findClass_of_methodNamed B.named
  have hlocks := B.notSynchronized
  have hS : va_S (ag_A z) st.heap st.heap [] := va_S.rf
  obtain ⟨ls, hls, hl⟩ : ∃ ls, entryFrame m args 1 = F0 m 0 ls [] ∧ lv_has ls 1 [(0, .ref (p 14 0))] := by rw [ha]; exact ag_entry m [.ref (p 14 0)] (Nat.le_of_ble_eq_true rfl)
  rw [hls]
  unfold f_Jxc12de_init_da8c8_4 at hf
  refine lv_aload_n hx hb dJxc12de_init_da8c8_0 rfl (lv_at hl 0 rfl) ?_
  obtain ⟨r1, hg1, hf⟩ := ag_bs hf
  refine ag_cIv hx hb hml hT hown hG h0 hS hW (c_Jxa1e45_init_da8c8_4 t14 hg1) ⟨rfl, rfl⟩ q40 q41 q2 q42 rfl dd_yJxa1e45_init_da8c8 ⟨Nat.le_of_ble_eq_true rfl, Nat.le_of_ble_eq_true rfl⟩ hl.1 rfl (Nat.le_of_ble_eq_true rfl) ⟨Nat.le_of_ble_eq_true rfl, Nat.le_of_ble_eq_true rfl⟩ dJxc12de_init_da8c8_1 (fun H locs hW hS => ?_)
  refine lv_aload_n hx hb dJxc12de_init_da8c8_4 rfl (lv_at hl 0 rfl) ?_
  refine lv_iconst (v := 0) hx hb dJxc12de_init_da8c8_5 (by decide) ?_
  refine u14_0 hx hb hT hown hG hW hS t14 q48 (fun _ h => h) dJxc12de_init_da8c8_6 (fun H locs hW hS => ?_)
  exact ag_vret hx hb hr hlocks hS (Option.some.inj hf ▸ hW) dJxc12de_init_da8c8_9
def f_Jx4a65c_init_da8c8_4 (fu : Nat) (s : ag_S) : Option ag_S := ag_bd (f_Jxc12de_init_da8c8_4 fu s) fun r1 => some (ag_up r1 14 1 0 (-2))
abbrev rm_Jx4a65c_init_da8c8_4 : Room := { frames := 3, cells := 0, slots := 0, locals := 60 }
set_option maxHeartbeats 4000000 in
set_option maxRecDepth 100000 in
theorem c_Jx4a65c_init_da8c8_4 {z : ag_Z} {l : Launch} {n : ag_N} {p : ag_P} {s : ag_S} {fu : Nat} {out : ag_S} (t14 : vp_in 0 (n 14)) (hf : f_Jx4a65c_init_da8c8_4 fu  s = some out) : Met l yJx4a65c_init_da8c8 (ag_ws yJx4a65c_init_da8c8 cJx4a65c_init_da8c8 1 ((none))) rm_Jx4a65c_init_da8c8_4 (va_Pc [.ref (p 14 0)] (ag_Pre z n p s)) (ag_Rv z n p out) 0 0 (ag_A z) := by
  refine Met.ofW (cc := cJx4a65c_init_da8c8) (maxL := 1) (ret := (none)) (by decide) rfl ?_
  intro p0 e st m args below meth c s9 B hml hv
  obtain ⟨ha, h0, hG, hW⟩ := hv
  have hx := B.exec
  have hb := B.bytes
  have hr := B.returns
  have hts := atoms_spec (ws := ag_ws yJx4a65c_init_da8c8 cJx4a65c_init_da8c8 1 ((none))) B.pre
  have hT : ∀ w ∈ ag_tbl, w.before args st = true := fun w h => hts w (List.mem_cons_of_mem _ h)
  have hown : st.vm.findClass RJx4a65c = some m.cls := findClass_of_methodNamed B.named
  have hlocks := B.notSynchronized
  have hS : va_S (ag_A z) st.heap st.heap [] := va_S.rf
  obtain ⟨ls, hls, hl⟩ : ∃ ls, entryFrame m args 1 = F0 m 0 ls [] ∧ lv_has ls 1 [(0, .ref (p 14 0))] := by rw [ha]; exact ag_entry m [.ref (p 14 0)] (Nat.le_of_ble_eq_true rfl)
  rw [hls]
  unfold f_Jx4a65c_init_da8c8_4 at hf
  refine lv_aload_n hx hb dJx4a65c_init_da8c8_0 rfl (lv_at hl 0 rfl) ?_
  obtain ⟨r1, hg1, hf⟩ := ag_bs hf
  refine ag_cIv hx hb hml hT hown hG h0 hS hW (c_Jxc12de_init_da8c8_4 t14 hg1) ⟨rfl, rfl⟩ q37 q38 q3 q39 rfl dd_yJxc12de_init_da8c8 ⟨Nat.le_of_ble_eq_true rfl, Nat.le_of_ble_eq_true rfl⟩ hl.1 rfl (Nat.le_of_ble_eq_true rfl) ⟨Nat.le_of_ble_eq_true rfl, Nat.le_of_ble_eq_true rfl⟩ dJx4a65c_init_da8c8_1 (fun H locs hW hS => ?_)
  refine lv_aload_n hx hb dJx4a65c_init_da8c8_4 rfl (lv_at hl 0 rfl) ?_
  refine ag_getst hx hb hT hown hG hS q44 dJx4a65c_init_da8c8_5 ?_
  refine u14_1 hx hb hT hown hG hW hS t14 (x := -2) rfl (Or.inr rfl) q46 dJx4a65c_init_da8c8_8 (fun H locs hW hS => ?_)
  exact ag_vret hx hb hr hlocks hS (Option.some.inj hf ▸ hW) dJx4a65c_init_da8c8_11
