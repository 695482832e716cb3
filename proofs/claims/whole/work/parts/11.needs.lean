def f_X5_sourceAt (fu : Nat) (x1 : Int32) (s : ag_S) : Option ((Int32 ⊕ Int32) × ag_S) := if x1 < 0 then (some (.inr 2, s)) else (ag_bd (f_Jx4a65c_size_8abf5_0 fu s) fun r9 => if x1 < r9 then (ag_bd (f_Jx4a65c_get_915e3_0 fu x1 s) fun r31 => some (.inl r31, s)) else (some (.inr 2, s)))
abbrev rm_X5_sourceAt : Room := { frames := 6, cells := 1, slots := 6, locals := 83 }
theorem w238 : Cond.stringRef RX5 291 "source is out of range" ∈ lw_tbl := List.mem_append_right _ (List.mem_of_getElem? (i := 238) (by decide +kernel))
theorem dd_yX5_sourceAt : yX5_sourceAt.cls = RX5 ∧ yX5_sourceAt.cls ≠ "java/lang/invoke/MethodHandle" ∧ yX5_sourceAt.cls ≠ "java/lang/invoke/VarHandle" ∧ (parseMethodDescriptor yX5_sourceAt.desc).map (fun d => d.parameters.length) = some 1 := by decide +kernel
set_option maxHeartbeats 4000000 in
set_option maxRecDepth 100000 in
theorem c_X5_sourceAt {z : ag_Z} {l : Launch} {n : ag_N} {p : ag_P} {s : ag_S} {fu : Nat} {x1 : Int32} {out : (Int32 ⊕ Int32) × ag_S} (hq9 : l.stackTraces = false) (t5 : vp_in 0 (n 5)) (hf : f_X5_sourceAt fu x1 s = some out) : vx_Met l yX5_sourceAt (ag_ws yX5_sourceAt cX5_sourceAt 2 ((some (FieldType.object "Amendgrant$Source")))) rm_X5_sourceAt (va_Pc [.ref (p 5 0), .int x1] (ag_Pre z n p s)) (ag_Xr z n p 0 out) (ag_XX z n p out) 1 6 (ag_A z) := by
  refine vx_ofW (cc := cX5_sourceAt) (maxL := 2) (ret := (some (FieldType.object "Amendgrant$Source"))) (by decide) rfl ?_
  intro p0 e st m args below meth c s9 B hml hout hv
  obtain ⟨ha, h0, hG, hW⟩ := hv
  have hx := B.exec
  have hb := B.bytes
  have hr := B.returns
  have hts := atoms_spec (ws := ag_ws yX5_sourceAt cX5_sourceAt 2 ((some (FieldType.object "Amendgrant$Source")))) B.pre
  have hT : ∀ w ∈ ag_tbl, w.before args st = true := fun w h => hts w (List.mem_cons_of_mem _ h)
  have hown : st.vm.findClass RX5 = some m.cls := findClass_of_methodNamed B.named
  have hlocks := B.notSynchronized
  have hS : va_S (ag_A z) st.heap st.heap [] := va_S.rf
  obtain ⟨ls, hls, hl⟩ : ∃ ls, entryFrame m args 2 = F0 m 0 ls [] ∧ lv_has ls 2 [(0, .ref (p 5 0)), (1, .int x1)] := by rw [ha]; exact ag_entry m [.ref (p 5 0), .int x1] (Nat.le_of_ble_eq_true rfl)
  rw [hls]
  unfold f_X5_sourceAt at hf
  refine lv_iload_n hx hb dX5_sourceAt_0 rfl (lv_at hl 1 rfl) ?_
  refine lv_if_lt (tgt := 15) hx hb dX5_sourceAt_1 (by decide) (fun c1 => ?_) (fun c1 => ?_)
  · have hf := ag_t c1 hf
    exact ag_thrw2 hx hb hq9 (hml.trans hl.1.symm) hT hown hG hS hW hout hlocks hf (w238) dX5_sourceAt_15 dX5_sourceAt_18 dX5_sourceAt_19 dX5_sourceAt_22 dX5_sourceAt_25 (Nat.le_of_ble_eq_true rfl) (Nat.le_of_ble_eq_true rfl) (Nat.le_of_ble_eq_true rfl) (Nat.le_of_ble_eq_true rfl) (Nat.le_of_ble_eq_true rfl) (Nat.le_of_ble_eq_true rfl)
  · have hf := ag_f c1 hf
    refine lv_iload_n hx hb dX5_sourceAt_4 rfl (lv_at hl 1 rfl) ?_
    refine lv_aload_n hx hb dX5_sourceAt_5 rfl (lv_at hl 0 rfl) ?_
    refine g5_0 hx hb hT hown hG hW t5 q151 dX5_sourceAt_6 ?_
    have t10 := ag_fix hW (k := 5) (f := 0) (t := 10) t5 rfl rfl
    obtain ⟨r9, hg9, hf⟩ := ag_bs hf
    refine ag_cVi hx hb hml hT hown hG h0 hS hW (c_Jx4a65c_size_8abf5_0 t10 hg9) ⟨rfl, rfl⟩ q193 q194 q195 q4 q196 dd_yJx4a65c_size_8abf5 ⟨Nat.le_of_ble_eq_true rfl, Nat.le_of_ble_eq_true rfl⟩ t10 rfl rfl hl.1 rfl (Nat.le_of_ble_eq_true rfl) ⟨Nat.le_of_ble_eq_true rfl, Nat.le_of_ble_eq_true rfl⟩ dX5_sourceAt_9 (fun H locs hW hS => ?_)
    refine lv_icmp_lt (tgt := 26) hx hb dX5_sourceAt_12 (by decide) (fun c12 => ?_) (fun c12 => ?_)
    · have hf := ag_t c12 hf
      refine lv_aload_n hx hb dX5_sourceAt_26 rfl (lv_at hl 0 rfl) ?_
      refine g5_0 hx hb hT hown hG hW t5 q151 dX5_sourceAt_27 ?_
      have t10 := ag_fix hW (k := 5) (f := 0) (t := 10) t5 rfl rfl
      refine lv_iload_n hx hb dX5_sourceAt_30 rfl (lv_at hl 1 rfl) ?_
      obtain ⟨r31, hg31, hf⟩ := ag_bs hf
      refine ag_cVr hx hb hml hT hown hG h0 hS hW (c_Jx4a65c_get_915e3_0 t10 hg31) ⟨rfl, rfl⟩ q265 q266 q267 q4 q268 dd_yJx4a65c_get_915e3 ⟨Nat.le_of_ble_eq_true rfl, Nat.le_of_ble_eq_true rfl⟩ t10 rfl rfl hl.1 rfl (Nat.le_of_ble_eq_true rfl) ⟨Nat.le_of_ble_eq_true rfl, Nat.le_of_ble_eq_true rfl⟩ dX5_sourceAt_31 (fun H locs hW hS v31 => ?_)
      refine ag_cast hx hb hown hG hW v31 rfl rfl (hT _ q58) dX5_sourceAt_34 ?_
      refine W.widen (k := 1) (n := 6) (Nat.le_of_ble_eq_true rfl) (Nat.le_of_ble_eq_true rfl) ?_
      exact ag_xaret hx hb hr (Or.inl ⟨_, rfl⟩) hlocks hS hf v31 hW dX5_sourceAt_37
    · have hf := ag_f c12 hf
      exact ag_thrw2 hx hb hq9 (hml.trans hl.1.symm) hT hown hG hS hW hout hlocks hf (w238) dX5_sourceAt_15 dX5_sourceAt_18 dX5_sourceAt_19 dX5_sourceAt_22 dX5_sourceAt_25 (Nat.le_of_ble_eq_true rfl) (Nat.le_of_ble_eq_true rfl) (Nat.le_of_ble_eq_true rfl) (Nat.le_of_ble_eq_true rfl) (Nat.le_of_ble_eq_true rfl) (Nat.le_of_ble_eq_true rfl)
def f_X5_receiverAt (fu : Nat) (x1 : Int32) (s : ag_S) : Option ((Int32 ⊕ Int32) × ag_S) := if x1 < 0 then (some (.inr 1, s)) else (ag_bd (f_Jx4a65c_size_8abf5_1 fu s) fun r9 => if x1 < r9 then (ag_bd (f_Jx4a65c_get_915e3_1 fu x1 s) fun r31 => some (.inl r31, s)) else (some (.inr 1, s)))
abbrev rm_X5_receiverAt : Room := { frames := 6, cells := 1, slots := 6, locals := 83 }
theorem w581 : Cond.stringRef RX5 293 "no such receiver" ∈ lw_tbl := List.mem_append_right _ (List.mem_of_getElem? (i := 581) (by decide +kernel))
theorem dd_yX5_receiverAt : yX5_receiverAt.cls = RX5 ∧ yX5_receiverAt.cls ≠ "java/lang/invoke/MethodHandle" ∧ yX5_receiverAt.cls ≠ "java/lang/invoke/VarHandle" ∧ (parseMethodDescriptor yX5_receiverAt.desc).map (fun d => d.parameters.length) = some 1 := by decide +kernel
set_option maxHeartbeats 4000000 in
set_option maxRecDepth 100000 in
theorem c_X5_receiverAt {z : ag_Z} {l : Launch} {n : ag_N} {p : ag_P} {s : ag_S} {fu : Nat} {x1 : Int32} {out : (Int32 ⊕ Int32) × ag_S} (hq9 : l.stackTraces = false) (t5 : vp_in 0 (n 5)) (hf : f_X5_receiverAt fu x1 s = some out) : vx_Met l yX5_receiverAt (ag_ws yX5_receiverAt cX5_receiverAt 2 ((some (FieldType.object "Amendgrant$Receiver")))) rm_X5_receiverAt (va_Pc [.ref (p 5 0), .int x1] (ag_Pre z n p s)) (ag_Xr z n p 1 out) (ag_XX z n p out) 1 6 (ag_A z) := by
  refine vx_ofW (cc := cX5_receiverAt) (maxL := 2) (ret := (some (FieldType.object "Amendgrant$Receiver"))) (by decide) rfl ?_
  intro p0 e st m args below meth c s9 B hml hout hv
  obtain ⟨ha, h0, hG, hW⟩ := hv
  have hx := B.exec
  have hb := B.bytes
  have hr := B.returns
  have hts := atoms_spec (ws := ag_ws yX5_receiverAt cX5_receiverAt 2 ((some (FieldType.object "Amendgrant$Receiver")))) B.pre
  have hT : ∀ w ∈ ag_tbl, w.before args st = true := fun w h => hts w (List.mem_cons_of_mem _ h)
  have hown : st.vm.findClass RX5 = some m.cls := findClass_of_methodNamed B.named
  have hlocks := B.notSynchronized
  have hS : va_S (ag_A z) st.heap st.heap [] := va_S.rf
  obtain ⟨ls, hls, hl⟩ : ∃ ls, entryFrame m args 2 = F0 m 0 ls [] ∧ lv_has ls 2 [(0, .ref (p 5 0)), (1, .int x1)] := by rw [ha]; exact ag_entry m [.ref (p 5 0), .int x1] (Nat.le_of_ble_eq_true rfl)
  rw [hls]
  unfold f_X5_receiverAt at hf
  refine lv_iload_n hx hb dX5_receiverAt_0 rfl (lv_at hl 1 rfl) ?_
  refine lv_if_lt (tgt := 15) hx hb dX5_receiverAt_1 (by decide) (fun c1 => ?_) (fun c1 => ?_)
  · have hf := ag_t c1 hf
    exact ag_thrw1 hx hb hq9 (hml.trans hl.1.symm) hT hown hG hS hW hout hlocks hf (w581) dX5_receiverAt_15 dX5_receiverAt_18 dX5_receiverAt_19 dX5_receiverAt_22 dX5_receiverAt_25 (Nat.le_of_ble_eq_true rfl) (Nat.le_of_ble_eq_true rfl) (Nat.le_of_ble_eq_true rfl) (Nat.le_of_ble_eq_true rfl) (Nat.le_of_ble_eq_true rfl) (Nat.le_of_ble_eq_true rfl)
  · have hf := ag_f c1 hf
    refine lv_iload_n hx hb dX5_receiverAt_4 rfl (lv_at hl 1 rfl) ?_
    refine lv_aload_n hx hb dX5_receiverAt_5 rfl (lv_at hl 0 rfl) ?_
    refine g5_1 hx hb hT hown hG hW t5 q152 dX5_receiverAt_6 ?_
    have t11 := ag_fix hW (k := 5) (f := 1) (t := 11) t5 rfl rfl
    obtain ⟨r9, hg9, hf⟩ := ag_bs hf
    refine ag_cVi hx hb hml hT hown hG h0 hS hW (c_Jx4a65c_size_8abf5_1 t11 hg9) ⟨rfl, rfl⟩ q193 q194 q195 q4 q196 dd_yJx4a65c_size_8abf5 ⟨Nat.le_of_ble_eq_true rfl, Nat.le_of_ble_eq_true rfl⟩ t11 rfl rfl hl.1 rfl (Nat.le_of_ble_eq_true rfl) ⟨Nat.le_of_ble_eq_true rfl, Nat.le_of_ble_eq_true rfl⟩ dX5_receiverAt_9 (fun H locs hW hS => ?_)
    refine lv_icmp_lt (tgt := 26) hx hb dX5_receiverAt_12 (by decide) (fun c12 => ?_) (fun c12 => ?_)
    · have hf := ag_t c12 hf
      refine lv_aload_n hx hb dX5_receiverAt_26 rfl (lv_at hl 0 rfl) ?_
      refine g5_1 hx hb hT hown hG hW t5 q152 dX5_receiverAt_27 ?_
      have t11 := ag_fix hW (k := 5) (f := 1) (t := 11) t5 rfl rfl
      refine lv_iload_n hx hb dX5_receiverAt_30 rfl (lv_at hl 1 rfl) ?_
      obtain ⟨r31, hg31, hf⟩ := ag_bs hf
      refine ag_cVr hx hb hml hT hown hG h0 hS hW (c_Jx4a65c_get_915e3_1 t11 hg31) ⟨rfl, rfl⟩ q265 q266 q267 q4 q268 dd_yJx4a65c_get_915e3 ⟨Nat.le_of_ble_eq_true rfl, Nat.le_of_ble_eq_true rfl⟩ t11 rfl rfl hl.1 rfl (Nat.le_of_ble_eq_true rfl) ⟨Nat.le_of_ble_eq_true rfl, Nat.le_of_ble_eq_true rfl⟩ dX5_receiverAt_31 (fun H locs hW hS v31 => ?_)
      refine ag_cast hx hb hown hG hW v31 rfl rfl (hT _ q135) dX5_receiverAt_34 ?_
      refine W.widen (k := 1) (n := 6) (Nat.le_of_ble_eq_true rfl) (Nat.le_of_ble_eq_true rfl) ?_
      exact ag_xaret hx hb hr (Or.inl ⟨_, rfl⟩) hlocks hS hf v31 hW dX5_receiverAt_37
    · have hf := ag_f c12 hf
      exact ag_thrw1 hx hb hq9 (hml.trans hl.1.symm) hT hown hG hS hW hout hlocks hf (w581) dX5_receiverAt_15 dX5_receiverAt_18 dX5_receiverAt_19 dX5_receiverAt_22 dX5_receiverAt_25 (Nat.le_of_ble_eq_true rfl) (Nat.le_of_ble_eq_true rfl) (Nat.le_of_ble_eq_true rfl) (Nat.le_of_ble_eq_true rfl) (Nat.le_of_ble_eq_true rfl) (Nat.le_of_ble_eq_true rfl)
def f_X5_lineAt (fu : Nat) (x1 : Int32) (s : ag_S) : Option ((Int32 ⊕ Int32) × ag_S) := if x1 < 0 then (some (.inr 1, s)) else (ag_bd (f_Jx4a65c_size_8abf5_2 fu s) fun r9 => if x1 < r9 then (ag_bd (f_Jx4a65c_get_915e3_2 fu x1 s) fun r31 => some (.inl r31, s)) else (some (.inr 1, s)))
abbrev rm_X5_lineAt : Room := { frames := 6, cells := 1, slots := 6, locals := 83 }
theorem w363 : Cond.stringRef RX5 295 "no such line" ∈ lw_tbl := List.mem_append_right _ (List.mem_of_getElem? (i := 363) (by decide +kernel))
theorem dd_yX5_lineAt : yX5_lineAt.cls = RX5 ∧ yX5_lineAt.cls ≠ "java/lang/invoke/MethodHandle" ∧ yX5_lineAt.cls ≠ "java/lang/invoke/VarHandle" ∧ (parseMethodDescriptor yX5_lineAt.desc).map (fun d => d.parameters.length) = some 1 := by decide +kernel
set_option maxHeartbeats 4000000 in
set_option maxRecDepth 100000 in
theorem c_X5_lineAt {z : ag_Z} {l : Launch} {n : ag_N} {p : ag_P} {s : ag_S} {fu : Nat} {x1 : Int32} {out : (Int32 ⊕ Int32) × ag_S} (hq9 : l.stackTraces = false) (t5 : vp_in 0 (n 5)) (hf : f_X5_lineAt fu x1 s = some out) : vx_Met l yX5_lineAt (ag_ws yX5_lineAt cX5_lineAt 2 ((some (FieldType.object "Amendgrant$Line")))) rm_X5_lineAt (va_Pc [.ref (p 5 0), .int x1] (ag_Pre z n p s)) (ag_Xr z n p 2 out) (ag_XX z n p out) 1 6 (ag_A z) := by
  refine vx_ofW (cc := cX5_lineAt) (maxL := 2) (ret := (some (FieldType.object "Amendgrant$Line"))) (by decide) rfl ?_
  intro p0 e st m args below meth c s9 B hml hout hv
  obtain ⟨ha, h0, hG, hW⟩ := hv
  have hx := B.exec
  have hb := B.bytes
  have hr := B.returns
  have hts := atoms_spec (ws := ag_ws yX5_lineAt cX5_lineAt 2 ((some (FieldType.object "Amendgrant$Line")))) B.pre
  have hT : ∀ w ∈ ag_tbl, w.before args st = true := fun w h => hts w (List.mem_cons_of_mem _ h)
  have hown : st.vm.findClass RX5 = some m.cls := findClass_of_methodNamed B.named
  have hlocks := B.notSynchronized
  have hS : va_S (ag_A z) st.heap st.heap [] := va_S.rf
  obtain ⟨ls, hls, hl⟩ : ∃ ls, entryFrame m args 2 = F0 m 0 ls [] ∧ lv_has ls 2 [(0, .ref (p 5 0)), (1, .int x1)] := by rw [ha]; exact ag_entry m [.ref (p 5 0), .int x1] (Nat.le_of_ble_eq_true rfl)
  rw [hls]
  unfold f_X5_lineAt at hf
  refine lv_iload_n hx hb dX5_lineAt_0 rfl (lv_at hl 1 rfl) ?_
  refine lv_if_lt (tgt := 15) hx hb dX5_lineAt_1 (by decide) (fun c1 => ?_) (fun c1 => ?_)
  · have hf := ag_t c1 hf
    exact ag_thrw1 hx hb hq9 (hml.trans hl.1.symm) hT hown hG hS hW hout hlocks hf (w363) dX5_lineAt_15 dX5_lineAt_18 dX5_lineAt_19 dX5_lineAt_22 dX5_lineAt_25 (Nat.le_of_ble_eq_true rfl) (Nat.le_of_ble_eq_true rfl) (Nat.le_of_ble_eq_true rfl) (Nat.le_of_ble_eq_true rfl) (Nat.le_of_ble_eq_true rfl) (Nat.le_of_ble_eq_true rfl)
  · have hf := ag_f c1 hf
    refine lv_iload_n hx hb dX5_lineAt_4 rfl (lv_at hl 1 rfl) ?_
    refine lv_aload_n hx hb dX5_lineAt_5 rfl (lv_at hl 0 rfl) ?_
    refine g5_2 hx hb hT hown hG hW t5 q153 dX5_lineAt_6 ?_
    have t12 := ag_fix hW (k := 5) (f := 2) (t := 12) t5 rfl rfl
    obtain ⟨r9, hg9, hf⟩ := ag_bs hf
    refine ag_cVi hx hb hml hT hown hG h0 hS hW (c_Jx4a65c_size_8abf5_2 t12 hg9) ⟨rfl, rfl⟩ q193 q194 q195 q4 q196 dd_yJx4a65c_size_8abf5 ⟨Nat.le_of_ble_eq_true rfl, Nat.le_of_ble_eq_true rfl⟩ t12 rfl rfl hl.1 rfl (Nat.le_of_ble_eq_true rfl) ⟨Nat.le_of_ble_eq_true rfl, Nat.le_of_ble_eq_true rfl⟩ dX5_lineAt_9 (fun H locs hW hS => ?_)
    refine lv_icmp_lt (tgt := 26) hx hb dX5_lineAt_12 (by decide) (fun c12 => ?_) (fun c12 => ?_)
    · have hf := ag_t c12 hf
      refine lv_aload_n hx hb dX5_lineAt_26 rfl (lv_at hl 0 rfl) ?_
      refine g5_2 hx hb hT hown hG hW t5 q153 dX5_lineAt_27 ?_
      have t12 := ag_fix hW (k := 5) (f := 2) (t := 12) t5 rfl rfl
      refine lv_iload_n hx hb dX5_lineAt_30 rfl (lv_at hl 1 rfl) ?_
      obtain ⟨r31, hg31, hf⟩ := ag_bs hf
      refine ag_cVr hx hb hml hT hown hG h0 hS hW (c_Jx4a65c_get_915e3_2 t12 hg31) ⟨rfl, rfl⟩ q265 q266 q267 q4 q268 dd_yJx4a65c_get_915e3 ⟨Nat.le_of_ble_eq_true rfl, Nat.le_of_ble_eq_true rfl⟩ t12 rfl rfl hl.1 rfl (Nat.le_of_ble_eq_true rfl) ⟨Nat.le_of_ble_eq_true rfl, Nat.le_of_ble_eq_true rfl⟩ dX5_lineAt_31 (fun H locs hW hS v31 => ?_)
      refine ag_cast hx hb hown hG hW v31 rfl rfl (hT _ q300) dX5_lineAt_34 ?_
      refine W.widen (k := 1) (n := 6) (Nat.le_of_ble_eq_true rfl) (Nat.le_of_ble_eq_true rfl) ?_
      exact ag_xaret hx hb hr (Or.inl ⟨_, rfl⟩) hlocks hS hf v31 hW dX5_lineAt_37
    · have hf := ag_f c12 hf
      exact ag_thrw1 hx hb hq9 (hml.trans hl.1.symm) hT hown hG hS hW hout hlocks hf (w363) dX5_lineAt_15 dX5_lineAt_18 dX5_lineAt_19 dX5_lineAt_22 dX5_lineAt_25 (Nat.le_of_ble_eq_true rfl) (Nat.le_of_ble_eq_true rfl) (Nat.le_of_ble_eq_true rfl) (Nat.le_of_ble_eq_true rfl) (Nat.le_of_ble_eq_true rfl) (Nat.le_of_ble_eq_true rfl)
def f_X5_amendmentAt (fu : Nat) (x1 : Int32) (s : ag_S) : Option ((Int32 ⊕ Int32) × ag_S) := if x1 < 0 then (some (.inr 1, s)) else (ag_bd (f_Jx4a65c_size_8abf5_3 fu s) fun r9 => if x1 < r9 then (ag_bd (f_Jx4a65c_get_915e3_3 fu x1 s) fun r31 => some (.inl r31, s)) else (some (.inr 1, s)))
abbrev rm_X5_amendmentAt : Room := { frames := 6, cells := 1, slots := 6, locals := 83 }
theorem w442 : Cond.stringRef RX5 297 "no such amendment" ∈ lw_tbl := List.mem_append_right _ (List.mem_of_getElem? (i := 442) (by decide +kernel))
theorem dd_yX5_amendmentAt : yX5_amendmentAt.cls = RX5 ∧ yX5_amendmentAt.cls ≠ "java/lang/invoke/MethodHandle" ∧ yX5_amendmentAt.cls ≠ "java/lang/invoke/VarHandle" ∧ (parseMethodDescriptor yX5_amendmentAt.desc).map (fun d => d.parameters.length) = some 1 := by decide +kernel
set_option maxHeartbeats 4000000 in
set_option maxRecDepth 100000 in
theorem c_X5_amendmentAt {z : ag_Z} {l : Launch} {n : ag_N} {p : ag_P} {s : ag_S} {fu : Nat} {x1 : Int32} {out : (Int32 ⊕ Int32) × ag_S} (hq9 : l.stackTraces = false) (t5 : vp_in 0 (n 5)) (hf : f_X5_amendmentAt fu x1 s = some out) : vx_Met l yX5_amendmentAt (ag_ws yX5_amendmentAt cX5_amendmentAt 2 ((some (FieldType.object "Amendgrant$Amendment")))) rm_X5_amendmentAt (va_Pc [.ref (p 5 0), .int x1] (ag_Pre z n p s)) (ag_Xr z n p 3 out) (ag_XX z n p out) 1 6 (ag_A z) := by
  refine vx_ofW (cc := cX5_amendmentAt) (maxL := 2) (ret := (some (FieldType.object "Amendgrant$Amendment"))) (by decide) rfl ?_
  intro p0 e st m args below meth c s9 B hml hout hv
  obtain ⟨ha, h0, hG, hW⟩ := hv
  have hx := B.exec
  have hb := B.bytes
  have hr := B.returns
  have hts := atoms_spec (ws := ag_ws yX5_amendmentAt cX5_amendmentAt 2 ((some (FieldType.object "Amendgrant$Amendment")))) B.pre
  have hT : ∀ w ∈ ag_tbl, w.before args st = true := fun w h => hts w (List.mem_cons_of_mem _ h)
  have hown : st.vm.findClass RX5 = some m.cls := findClass_of_methodNamed B.named
  have hlocks := B.notSynchronized
  have hS : va_S (ag_A z) st.heap st.heap [] := va_S.rf
  obtain ⟨ls, hls, hl⟩ : ∃ ls, entryFrame m args 2 = F0 m 0 ls [] ∧ lv_has ls 2 [(0, .ref (p 5 0)), (1, .int x1)] := by rw [ha]; exact ag_entry m [.ref (p 5 0), .int x1] (Nat.le_of_ble_eq_true rfl)
  rw [hls]
  unfold f_X5_amendmentAt at hf
  refine lv_iload_n hx hb dX5_amendmentAt_0 rfl (lv_at hl 1 rfl) ?_
  refine lv_if_lt (tgt := 15) hx hb dX5_amendmentAt_1 (by decide) (fun c1 => ?_) (fun c1 => ?_)
  · have hf := ag_t c1 hf
    exact ag_thrw1 hx hb hq9 (hml.trans hl.1.symm) hT hown hG hS hW hout hlocks hf (w442) dX5_amendmentAt_15 dX5_amendmentAt_18 dX5_amendmentAt_19 dX5_amendmentAt_22 dX5_amendmentAt_25 (Nat.le_of_ble_eq_true rfl) (Nat.le_of_ble_eq_true rfl) (Nat.le_of_ble_eq_true rfl) (Nat.le_of_ble_eq_true rfl) (Nat.le_of_ble_eq_true rfl) (Nat.le_of_ble_eq_true rfl)
  · have hf := ag_f c1 hf
    refine lv_iload_n hx hb dX5_amendmentAt_4 rfl (lv_at hl 1 rfl) ?_
    refine lv_aload_n hx hb dX5_amendmentAt_5 rfl (lv_at hl 0 rfl) ?_
    refine g5_3 hx hb hT hown hG hW t5 q154 dX5_amendmentAt_6 ?_
    have t13 := ag_fix hW (k := 5) (f := 3) (t := 13) t5 rfl rfl
    obtain ⟨r9, hg9, hf⟩ := ag_bs hf
    refine ag_cVi hx hb hml hT hown hG h0 hS hW (c_Jx4a65c_size_8abf5_3 t13 hg9) ⟨rfl, rfl⟩ q193 q194 q195 q4 q196 dd_yJx4a65c_size_8abf5 ⟨Nat.le_of_ble_eq_true rfl, Nat.le_of_ble_eq_true rfl⟩ t13 rfl rfl hl.1 rfl (Nat.le_of_ble_eq_true rfl) ⟨Nat.le_of_ble_eq_true rfl, Nat.le_of_ble_eq_true rfl⟩ dX5_amendmentAt_9 (fun H locs hW hS => ?_)
    refine lv_icmp_lt (tgt := 26) hx hb dX5_amendmentAt_12 (by decide) (fun c12 => ?_) (fun c12 => ?_)
    · have hf := ag_t c12 hf
      refine lv_aload_n hx hb dX5_amendmentAt_26 rfl (lv_at hl 0 rfl) ?_
      refine g5_3 hx hb hT hown hG hW t5 q154 dX5_amendmentAt_27 ?_
      have t13 := ag_fix hW (k := 5) (f := 3) (t := 13) t5 rfl rfl
      refine lv_iload_n hx hb dX5_amendmentAt_30 rfl (lv_at hl 1 rfl) ?_
      obtain ⟨r31, hg31, hf⟩ := ag_bs hf
      refine ag_cVr hx hb hml hT hown hG h0 hS hW (c_Jx4a65c_get_915e3_3 t13 hg31) ⟨rfl, rfl⟩ q265 q266 q267 q4 q268 dd_yJx4a65c_get_915e3 ⟨Nat.le_of_ble_eq_true rfl, Nat.le_of_ble_eq_true rfl⟩ t13 rfl rfl hl.1 rfl (Nat.le_of_ble_eq_true rfl) ⟨Nat.le_of_ble_eq_true rfl, Nat.le_of_ble_eq_true rfl⟩ dX5_amendmentAt_31 (fun H locs hW hS v31 => ?_)
      refine ag_cast hx hb hown hG hW v31 rfl rfl (hT _ q385) dX5_amendmentAt_34 ?_
      refine W.widen (k := 1) (n := 6) (Nat.le_of_ble_eq_true rfl) (Nat.le_of_ble_eq_true rfl) ?_
      exact ag_xaret hx hb hr (Or.inl ⟨_, rfl⟩) hlocks hS hf v31 hW dX5_amendmentAt_37
    · have hf := ag_f c12 hf
      exact ag_thrw1 hx hb hq9 (hml.trans hl.1.symm) hT hown hG hS hW hout hlocks hf (w442) dX5_amendmentAt_15 dX5_amendmentAt_18 dX5_amendmentAt_19 dX5_amendmentAt_22 dX5_amendmentAt_25 (Nat.le_of_ble_eq_true rfl) (Nat.le_of_ble_eq_true rfl) (Nat.le_of_ble_eq_true rfl) (Nat.le_of_ble_eq_true rfl) (Nat.le_of_ble_eq_true rfl) (Nat.le_of_ble_eq_true rfl)
def f_X5_grantAt (fu : Nat) (x1 : Int32) (s : ag_S) : Option ((Int32 ⊕ Int32) × ag_S) := if x1 < 0 then (some (.inr 1, s)) else (ag_bd (f_Jx4a65c_size_8abf5_4 fu s) fun r9 => if x1 < r9 then (ag_bd (f_Jx4a65c_get_915e3_4 fu x1 s) fun r31 => some (.inl r31, s)) else (some (.inr 1, s)))
abbrev rm_X5_grantAt : Room := { frames := 6, cells := 1, slots := 6, locals := 83 }
theorem w637 : Cond.stringRef RX5 299 "no such grant" ∈ lw_tbl := List.mem_append_right _ (List.mem_of_getElem? (i := 637) (by decide +kernel))
theorem dd_yX5_grantAt : yX5_grantAt.cls = RX5 ∧ yX5_grantAt.cls ≠ "java/lang/invoke/MethodHandle" ∧ yX5_grantAt.cls ≠ "java/lang/invoke/VarHandle" ∧ (parseMethodDescriptor yX5_grantAt.desc).map (fun d => d.parameters.length) = some 1 := by decide +kernel
set_option maxHeartbeats 4000000 in
set_option maxRecDepth 100000 in
theorem c_X5_grantAt {z : ag_Z} {l : Launch} {n : ag_N} {p : ag_P} {s : ag_S} {fu : Nat} {x1 : Int32} {out : (Int32 ⊕ Int32) × ag_S} (hq9 : l.stackTraces = false) (t5 : vp_in 0 (n 5)) (hf : f_X5_grantAt fu x1 s = some out) : vx_Met l yX5_grantAt (ag_ws yX5_grantAt cX5_grantAt 2 ((some (FieldType.object "Amendgrant$Grant")))) rm_X5_grantAt (va_Pc [.ref (p 5 0), .int x1] (ag_Pre z n p s)) (ag_Xr z n p 4 out) (ag_XX z n p out) 1 6 (ag_A z) := by
  refine vx_ofW (cc := cX5_grantAt) (maxL := 2) (ret := (some (FieldType.object "Amendgrant$Grant"))) (by decide) rfl ?_
  intro p0 e st m args below meth c s9 B hml hout hv
  obtain ⟨ha, h0, hG, hW⟩ := hv
  have hx := B.exec
  have hb := B.bytes
  have hr := B.returns
  have hts := atoms_spec (ws := ag_ws yX5_grantAt cX5_grantAt 2 ((some (FieldType.object "Amendgrant$Grant")))) B.pre
  have hT : ∀ w ∈ ag_tbl, w.before args st = true := fun w h => hts w (List.mem_cons_of_mem _ h)
  have hown : st.vm.findClass RX5 = some m.cls := findClass_of_methodNamed B.named
  have hlocks := B.notSynchronized
  have hS : va_S (ag_A z) st.heap st.heap [] := va_S.rf
  obtain ⟨ls, hls, hl⟩ : ∃ ls, entryFrame m args 2 = F0 m 0 ls [] ∧ lv_has ls 2 [(0, .ref (p 5 0)), (1, .int x1)] := by rw [ha]; exact ag_entry m [.ref (p 5 0), .int x1] (Nat.le_of_ble_eq_true rfl)
  rw [hls]
  unfold f_X5_grantAt at hf
  refine lv_iload_n hx hb dX5_grantAt_0 rfl (lv_at hl 1 rfl) ?_
  refine lv_if_lt (tgt := 15) hx hb dX5_grantAt_1 (by decide) (fun c1 => ?_) (fun c1 => ?_)
  · have hf := ag_t c1 hf
    exact ag_thrw1 hx hb hq9 (hml.trans hl.1.symm) hT hown hG hS hW hout hlocks hf (w637) dX5_grantAt_15 dX5_grantAt_18 dX5_grantAt_19 dX5_grantAt_22 dX5_grantAt_25 (Nat.le_of_ble_eq_true rfl) (Nat.le_of_ble_eq_true rfl) (Nat.le_of_ble_eq_true rfl) (Nat.le_of_ble_eq_true rfl) (Nat.le_of_ble_eq_true rfl) (Nat.le_of_ble_eq_true rfl)
  · have hf := ag_f c1 hf
    refine lv_iload_n hx hb dX5_grantAt_4 rfl (lv_at hl 1 rfl) ?_
    refine lv_aload_n hx hb dX5_grantAt_5 rfl (lv_at hl 0 rfl) ?_
    refine g5_4 hx hb hT hown hG hW t5 q155 dX5_grantAt_6 ?_
    have t14 := ag_fix hW (k := 5) (f := 4) (t := 14) t5 rfl rfl
    obtain ⟨r9, hg9, hf⟩ := ag_bs hf
    refine ag_cVi hx hb hml hT hown hG h0 hS hW (c_Jx4a65c_size_8abf5_4 t14 hg9) ⟨rfl, rfl⟩ q193 q194 q195 q4 q196 dd_yJx4a65c_size_8abf5 ⟨Nat.le_of_ble_eq_true rfl, Nat.le_of_ble_eq_true rfl⟩ t14 rfl rfl hl.1 rfl (Nat.le_of_ble_eq_true rfl) ⟨Nat.le_of_ble_eq_true rfl, Nat.le_of_ble_eq_true rfl⟩ dX5_grantAt_9 (fun H locs hW hS => ?_)
    refine lv_icmp_lt (tgt := 26) hx hb dX5_grantAt_12 (by decide) (fun c12 => ?_) (fun c12 => ?_)
    · have hf := ag_t c12 hf
      refine lv_aload_n hx hb dX5_grantAt_26 rfl (lv_at hl 0 rfl) ?_
      refine g5_4 hx hb hT hown hG hW t5 q155 dX5_grantAt_27 ?_
      have t14 := ag_fix hW (k := 5) (f := 4) (t := 14) t5 rfl rfl
      refine lv_iload_n hx hb dX5_grantAt_30 rfl (lv_at hl 1 rfl) ?_
      obtain ⟨r31, hg31, hf⟩ := ag_bs hf
      refine ag_cVr hx hb hml hT hown hG h0 hS hW (c_Jx4a65c_get_915e3_4 t14 hg31) ⟨rfl, rfl⟩ q265 q266 q267 q4 q268 dd_yJx4a65c_get_915e3 ⟨Nat.le_of_ble_eq_true rfl, Nat.le_of_ble_eq_true rfl⟩ t14 rfl rfl hl.1 rfl (Nat.le_of_ble_eq_true rfl) ⟨Nat.le_of_ble_eq_true rfl, Nat.le_of_ble_eq_true rfl⟩ dX5_grantAt_31 (fun H locs hW hS v31 => ?_)
      refine ag_cast hx hb hown hG hW v31 rfl rfl (hT _ q521) dX5_grantAt_34 ?_
      refine W.widen (k := 1) (n := 6) (Nat.le_of_ble_eq_true rfl) (Nat.le_of_ble_eq_true rfl) ?_
      exact ag_xaret hx hb hr (Or.inl ⟨_, rfl⟩) hlocks hS hf v31 hW dX5_grantAt_37
    · have hf := ag_f c12 hf
      exact ag_thrw1 hx hb hq9 (hml.trans hl.1.symm) hT hown hG hS hW hout hlocks hf (w637) dX5_grantAt_15 dX5_grantAt_18 dX5_grantAt_19 dX5_grantAt_22 dX5_grantAt_25 (Nat.le_of_ble_eq_true rfl) (Nat.le_of_ble_eq_true rfl) (Nat.le_of_ble_eq_true rfl) (Nat.le_of_ble_eq_true rfl) (Nat.le_of_ble_eq_true rfl) (Nat.le_of_ble_eq_true rfl)
def f_X5_needRange (fu : Nat) (x0 : Int32) (x1 : Int32) (x2 : Int32) (s : ag_S) : Option ((Int32 ⊕ Int32) × ag_S) := if x0 < x1 then (some (.inr 2, s)) else (if x0 ≤ x2 then (some (.inl 0, s)) else (some (.inr 2, s)))
abbrev rm_X5_needRange : Room := { frames := 6, cells := 1, slots := 6, locals := 83 }
theorem w283 : Cond.stringRef RX5 302 "a value is out of range" ∈ lw_tbl := List.mem_append_right _ (List.mem_of_getElem? (i := 283) (by decide +kernel))
theorem dd_yX5_needRange : yX5_needRange.cls ≠ "java/lang/invoke/MethodHandle" ∧ yX5_needRange.cls ≠ "java/lang/invoke/VarHandle" ∧ (parseMethodDescriptor yX5_needRange.desc).map (fun d => d.parameters.length) = some 3 := by decide +kernel
set_option maxHeartbeats 4000000 in
set_option maxRecDepth 100000 in
theorem c_X5_needRange {z : ag_Z} {l : Launch} {n : ag_N} {p : ag_P} {s : ag_S} {fu : Nat} {x0 : Int32} {x1 : Int32} {x2 : Int32} {out : (Int32 ⊕ Int32) × ag_S} (hq9 : l.stackTraces = false)  (hf : f_X5_needRange fu x0 x1 x2 s = some out) : vx_Met l yX5_needRange (ag_ws yX5_needRange cX5_needRange 3 ((none))) rm_X5_needRange (va_Pc [.int x0, .int x1, .int x2] (ag_Pre z n p s)) (ag_Xv z n p out) (ag_XX z n p out) 1 6 (ag_A z) := by
  refine vx_ofW (cc := cX5_needRange) (maxL := 3) (ret := (none)) (by decide) rfl ?_
  intro p0 e st m args below meth c s9 B hml hout hv
  obtain ⟨ha, h0, hG, hW⟩ := hv
  have hx := B.exec
  have hb := B.bytes
  have hr := B.returns
  have hts := atoms_spec (ws := ag_ws yX5_needRange cX5_needRange 3 ((none))) B.pre
  have hT : ∀ w ∈ ag_tbl, w.before args st = true := fun w h => hts w (List.mem_cons_of_mem _ h)
  have hown : st.vm.findClass RX5 = some m.cls := findClass_of_methodNamed B.named
  have hlocks := B.notSynchronized
  have hS : va_S (ag_A z) st.heap st.heap [] := va_S.rf
  obtain ⟨ls, hls, hl⟩ : ∃ ls, entryFrame m args 3 = F0 m 0 ls [] ∧ lv_has ls 3 [(0, .int x0), (1, .int x1), (2, .int x2)] := by rw [ha]; exact ag_entry m [.int x0, .int x1, .int x2] (Nat.le_of_ble_eq_true rfl)
  rw [hls]
  unfold f_X5_needRange at hf
  refine lv_iload_n hx hb dX5_needRange_0 rfl (lv_at hl 0 rfl) ?_
  refine lv_iload_n hx hb dX5_needRange_1 rfl (lv_at hl 1 rfl) ?_
  refine lv_icmp_lt (tgt := 10) hx hb dX5_needRange_2 (by decide) (fun c2 => ?_) (fun c2 => ?_)
  · have hf := ag_t c2 hf
    exact ag_thrw2 hx hb hq9 (hml.trans hl.1.symm) hT hown hG hS hW hout hlocks hf (w283) dX5_needRange_10 dX5_needRange_13 dX5_needRange_14 dX5_needRange_17 dX5_needRange_20 (Nat.le_of_ble_eq_true rfl) (Nat.le_of_ble_eq_true rfl) (Nat.le_of_ble_eq_true rfl) (Nat.le_of_ble_eq_true rfl) (Nat.le_of_ble_eq_true rfl) (Nat.le_of_ble_eq_true rfl)
  · have hf := ag_f c2 hf
    refine lv_iload_n hx hb dX5_needRange_5 rfl (lv_at hl 0 rfl) ?_
    refine lv_iload_n hx hb dX5_needRange_6 rfl (lv_at hl 2 rfl) ?_
    refine lv_icmp_le (tgt := 21) hx hb dX5_needRange_7 (by decide) (fun c7 => ?_) (fun c7 => ?_)
    · have hf := ag_t c7 hf
      refine W.widen (k := 1) (n := 6) (Nat.le_of_ble_eq_true rfl) (Nat.le_of_ble_eq_true rfl) ?_
      exact ag_xvret hx hb hr hlocks hS hf hW dX5_needRange_21
    · have hf := ag_f c7 hf
      exact ag_thrw2 hx hb hq9 (hml.trans hl.1.symm) hT hown hG hS hW hout hlocks hf (w283) dX5_needRange_10 dX5_needRange_13 dX5_needRange_14 dX5_needRange_17 dX5_needRange_20 (Nat.le_of_ble_eq_true rfl) (Nat.le_of_ble_eq_true rfl) (Nat.le_of_ble_eq_true rfl) (Nat.le_of_ble_eq_true rfl) (Nat.le_of_ble_eq_true rfl) (Nat.le_of_ble_eq_true rfl)
def f_X5_needMore (fu : Nat) (x0 : Int32) (s : ag_S) : Option ((Int32 ⊕ Int32) × ag_S) := ag_bt (f_X5_needRange fu x0 ((-50000)) 50000 s) (fun _ s => if x0 = 0 then (some (.inr 2, s)) else (some (.inl 0, s))) id
abbrev rm_X5_needMore : Room := { frames := 7, cells := 2, slots := 12, locals := 105 }
theorem w375 : Cond.stringRef RX5 305 "more is 0" ∈ lw_tbl := List.mem_append_right _ (List.mem_of_getElem? (i := 375) (by decide +kernel))
theorem dd_yX5_needMore : yX5_needMore.cls ≠ "java/lang/invoke/MethodHandle" ∧ yX5_needMore.cls ≠ "java/lang/invoke/VarHandle" ∧ (parseMethodDescriptor yX5_needMore.desc).map (fun d => d.parameters.length) = some 1 := by decide +kernel
set_option maxHeartbeats 4000000 in
set_option maxRecDepth 100000 in
theorem c_X5_needMore {z : ag_Z} {l : Launch} {n : ag_N} {p : ag_P} {s : ag_S} {fu : Nat} {x0 : Int32} {out : (Int32 ⊕ Int32) × ag_S} (hq9 : l.stackTraces = false)  (hf : f_X5_needMore fu x0 s = some out) : vx_Met l yX5_needMore (ag_ws yX5_needMore cX5_needMore 1 ((none))) rm_X5_needMore (va_Pc [.int x0] (ag_Pre z n p s)) (ag_Xv z n p out) (ag_XX z n p out) 2 12 (ag_A z) := by
  refine vx_ofW (cc := cX5_needMore) (maxL := 1) (ret := (none)) (by decide) rfl ?_
  intro p0 e st m args below meth c s9 B hml hout hv
  obtain ⟨ha, h0, hG, hW⟩ := hv
  have hx := B.exec
  have hb := B.bytes
  have hr := B.returns
  have hts := atoms_spec (ws := ag_ws yX5_needMore cX5_needMore 1 ((none))) B.pre
  have hT : ∀ w ∈ ag_tbl, w.before args st = true := fun w h => hts w (List.mem_cons_of_mem _ h)
  have hown : st.vm.findClass RX5 = some m.cls := findClass_of_methodNamed B.named
  have hlocks := B.notSynchronized
  have hS : va_S (ag_A z) st.heap st.heap [] := va_S.rf
  obtain ⟨ls, hls, hl⟩ : ∃ ls, entryFrame m args 1 = F0 m 0 ls [] ∧ lv_has ls 1 [(0, .int x0)] := by rw [ha]; exact ag_entry m [.int x0] (Nat.le_of_ble_eq_true rfl)
  rw [hls]
  unfold f_X5_needMore at hf
  refine lv_iload_n hx hb dX5_needMore_0 rfl (lv_at hl 0 rfl) ?_
  refine lv_ldcw (v := (-50000)) hx hb hown (hT _ q373) dX5_needMore_1 ?_
  refine lv_ldc (v := 50000) hx hb hown (hT _ q374) dX5_needMore_4 ?_
  obtain ⟨r6, hg6, hf⟩ := ag_xs hf
  refine ag_xSv (C1 := 1) (S1 := 6) hx hb hml hT hown hG h0 hS hW (c_X5_needRange hq9 hg6) ⟨rfl, rfl⟩ q280 q281 q1 q282 dd_yX5_needRange ⟨Nat.le_of_ble_eq_true rfl, Nat.le_of_ble_eq_true rfl⟩ hl.1 rfl (Nat.le_of_ble_eq_true rfl) ⟨Nat.le_of_ble_eq_true rfl, Nat.le_of_ble_eq_true rfl⟩ dX5_needMore_6 (fun E ce q9 H locs hE hW hS g1 g2 g3 => ag_propO hf hout hlocks (Nat.le_of_ble_eq_true rfl) (Nat.le_of_ble_eq_true rfl) hE hW hS g1 g2 g3) (Nat.le_of_ble_eq_true rfl) (Nat.le_of_ble_eq_true rfl) (fun H locs hr6 hW hS => ?_)
  have hf := ag_inl hf hr6
  obtain ⟨s, es6⟩ : ∃ s9, s9 = r6.2 := ⟨_, rfl⟩
  rw [← es6] at hW hf
  refine lv_iload_n hx hb dX5_needMore_9 rfl (lv_at hl 0 rfl) ?_
  refine lv_if_ne (tgt := 24) hx hb dX5_needMore_10 (by decide) (fun c10 => ?_) (fun c10 => ?_)
  · have hf := ag_f c10 hf
    refine W.widen (k := 2) (n := 12) (Nat.le_of_ble_eq_true rfl) (Nat.le_of_ble_eq_true rfl) ?_
    exact ag_xvret hx hb hr hlocks hS hf hW dX5_needMore_24
  · have hf := ag_t c10 hf
    exact ag_thrw2 hx hb hq9 (hml.trans hl.1.symm) hT hown hG hS hW hout hlocks hf (w375) dX5_needMore_13 dX5_needMore_16 dX5_needMore_17 dX5_needMore_20 dX5_needMore_23 (Nat.le_of_ble_eq_true rfl) (Nat.le_of_ble_eq_true rfl) (Nat.le_of_ble_eq_true rfl) (Nat.le_of_ble_eq_true rfl) (Nat.le_of_ble_eq_true rfl) (Nat.le_of_ble_eq_true rfl)
def f_X5_needRoomForAmendment (fu : Nat) (s : ag_S) : Option ((Int32 ⊕ Int32) × ag_S) := ag_bd (f_Jx4a65c_size_8abf5_3 fu s) fun r4 => if r4 < 40 then (some (.inl 0, s)) else (some (.inr 3, s))
abbrev rm_X5_needRoomForAmendment : Room := { frames := 6, cells := 1, slots := 6, locals := 83 }
theorem w380 : Cond.stringRef RX5 307 "no more amendments can be made" ∈ lw_tbl := List.mem_append_right _ (List.mem_of_getElem? (i := 380) (by decide +kernel))
theorem dd_yX5_needRoomForAmendment : yX5_needRoomForAmendment.cls = RX5 ∧ yX5_needRoomForAmendment.cls ≠ "java/lang/invoke/MethodHandle" ∧ yX5_needRoomForAmendment.cls ≠ "java/lang/invoke/VarHandle" ∧ (parseMethodDescriptor yX5_needRoomForAmendment.desc).map (fun d => d.parameters.length) = some 0 := by decide +kernel
set_option maxHeartbeats 4000000 in
set_option maxRecDepth 100000 in
theorem c_X5_needRoomForAmendment {z : ag_Z} {l : Launch} {n : ag_N} {p : ag_P} {s : ag_S} {fu : Nat} {out : (Int32 ⊕ Int32) × ag_S} (hq9 : l.stackTraces = false) (t5 : vp_in 0 (n 5)) (hf : f_X5_needRoomForAmendment fu  s = some out) : vx_Met l yX5_needRoomForAmendment (ag_ws yX5_needRoomForAmendment cX5_needRoomForAmendment 1 ((none))) rm_X5_needRoomForAmendment (va_Pc [.ref (p 5 0)] (ag_Pre z n p s)) (ag_Xv z n p out) (ag_XX z n p out) 1 6 (ag_A z) := by
  refine vx_ofW (cc := cX5_needRoomForAmendment) (maxL := 1) (ret := (none)) (by decide) rfl ?_
  intro p0 e st m args below meth c s9 B hml hout hv
  obtain ⟨ha, h0, hG, hW⟩ := hv
  have hx := B.exec
  have hb := B.bytes
  have hr := B.returns
  have hts := atoms_spec (ws := ag_ws yX5_needRoomForAmendment cX5_needRoomForAmendment 1 ((none))) B.pre
  have hT : ∀ w ∈ ag_tbl, w.before args st = true := fun w h => hts w (List.mem_cons_of_mem _ h)
  have hown : st.vm.findClass RX5 = some m.cls := findClass_of_methodNamed B.named
  have hlocks := B.notSynchronized
  have hS : va_S (ag_A z) st.heap st.heap [] := va_S.rf
  obtain ⟨ls, hls, hl⟩ : ∃ ls, entryFrame m args 1 = F0 m 0 ls [] ∧ lv_has ls 1 [(0, .ref (p 5 0))] := by rw [ha]; exact ag_entry m [.ref (p 5 0)] (Nat.le_of_ble_eq_true rfl)
  rw [hls]
  unfold f_X5_needRoomForAmendment at hf
  refine lv_aload_n hx hb dX5_needRoomForAmendment_0 rfl (lv_at hl 0 rfl) ?_
  refine g5_3 hx hb hT hown hG hW t5 q154 dX5_needRoomForAmendment_1 ?_
  have t13 := ag_fix hW (k := 5) (f := 3) (t := 13) t5 rfl rfl
  obtain ⟨r4, hg4, hf⟩ := ag_bs hf
  refine ag_cVi hx hb hml hT hown hG h0 hS hW (c_Jx4a65c_size_8abf5_3 t13 hg4) ⟨rfl, rfl⟩ q193 q194 q195 q4 q196 dd_yJx4a65c_size_8abf5 ⟨Nat.le_of_ble_eq_true rfl, Nat.le_of_ble_eq_true rfl⟩ t13 rfl rfl hl.1 rfl (Nat.le_of_ble_eq_true rfl) ⟨Nat.le_of_ble_eq_true rfl, Nat.le_of_ble_eq_true rfl⟩ dX5_needRoomForAmendment_4 (fun H locs hW hS => ?_)
  refine lv_bipush (v := 40) hx hb dX5_needRoomForAmendment_7 (by decide) ?_
  refine lv_icmp_lt (tgt := 23) hx hb dX5_needRoomForAmendment_9 (by decide) (fun c9 => ?_) (fun c9 => ?_)
  · have hf := ag_t c9 hf
    refine W.widen (k := 1) (n := 6) (Nat.le_of_ble_eq_true rfl) (Nat.le_of_ble_eq_true rfl) ?_
    exact ag_xvret hx hb hr hlocks hS hf hW dX5_needRoomForAmendment_23
  · have hf := ag_f c9 hf
    exact ag_thrw3 hx hb hq9 (hml.trans hl.1.symm) hT hown hG hS hW hout hlocks hf (w380) dX5_needRoomForAmendment_12 dX5_needRoomForAmendment_15 dX5_needRoomForAmendment_16 dX5_needRoomForAmendment_19 dX5_needRoomForAmendment_22 (Nat.le_of_ble_eq_true rfl) (Nat.le_of_ble_eq_true rfl) (Nat.le_of_ble_eq_true rfl) (Nat.le_of_ble_eq_true rfl) (Nat.le_of_ble_eq_true rfl) (Nat.le_of_ble_eq_true rfl)
def f_X5_needOpen (fu : Nat) (x0 : Int32) (s : ag_S) : Option ((Int32 ⊕ Int32) × ag_S) := if s 3 5 x0 = 0 then (some (.inl 0, s)) else (some (.inr 3, s))
abbrev rm_X5_needOpen : Room := { frames := 6, cells := 1, slots := 6, locals := 83 }
theorem w446 : Cond.stringRef RX5 309 "the amendment is not open" ∈ lw_tbl := List.mem_append_right _ (List.mem_of_getElem? (i := 446) (by decide +kernel))
theorem dd_yX5_needOpen : yX5_needOpen.cls ≠ "java/lang/invoke/MethodHandle" ∧ yX5_needOpen.cls ≠ "java/lang/invoke/VarHandle" ∧ (parseMethodDescriptor yX5_needOpen.desc).map (fun d => d.parameters.length) = some 1 := by decide +kernel
set_option maxHeartbeats 4000000 in
set_option maxRecDepth 100000 in
theorem c_X5_needOpen {z : ag_Z} {l : Launch} {n : ag_N} {p : ag_P} {s : ag_S} {fu : Nat} {x0 : Int32} {out : (Int32 ⊕ Int32) × ag_S} (hq9 : l.stackTraces = false) (v0 : vp_in x0 (n 3)) (hf : f_X5_needOpen fu x0 s = some out) : vx_Met l yX5_needOpen (ag_ws yX5_needOpen cX5_needOpen 1 ((none))) rm_X5_needOpen (va_Pc [.ref (p 3 x0)] (ag_Pre z n p s)) (ag_Xv z n p out) (ag_XX z n p out) 1 6 (ag_A z) := by
  refine vx_ofW (cc := cX5_needOpen) (maxL := 1) (ret := (none)) (by decide) rfl ?_
  intro p0 e st m args below meth c s9 B hml hout hv
  obtain ⟨ha, h0, hG, hW⟩ := hv
  have hx := B.exec
  have hb := B.bytes
  have hr := B.returns
  have hts := atoms_spec (ws := ag_ws yX5_needOpen cX5_needOpen 1 ((none))) B.pre
  have hT : ∀ w ∈ ag_tbl, w.before args st = true := fun w h => hts w (List.mem_cons_of_mem _ h)
  have hown : st.vm.findClass RX5 = some m.cls := findClass_of_methodNamed B.named
  have hlocks := B.notSynchronized
  have hS : va_S (ag_A z) st.heap st.heap [] := va_S.rf
  obtain ⟨ls, hls, hl⟩ : ∃ ls, entryFrame m args 1 = F0 m 0 ls [] ∧ lv_has ls 1 [(0, .ref (p 3 x0))] := by rw [ha]; exact ag_entry m [.ref (p 3 x0)] (Nat.le_of_ble_eq_true rfl)
  rw [hls]
  unfold f_X5_needOpen at hf
  refine lv_aload_n hx hb dX5_needOpen_0 rfl (lv_at hl 0 rfl) ?_
  refine g3_5 hx hb hT hown hG hW v0 q403 dX5_needOpen_1 ?_
  refine lv_if_eq (tgt := 18) hx hb dX5_needOpen_4 (by decide) (fun c4 => ?_) (fun c4 => ?_)
  · have hf := ag_t c4 hf
    refine W.widen (k := 1) (n := 6) (Nat.le_of_ble_eq_true rfl) (Nat.le_of_ble_eq_true rfl) ?_
    exact ag_xvret hx hb hr hlocks hS hf hW dX5_needOpen_18
  · have hf := ag_f c4 hf
    exact ag_thrw3 hx hb hq9 (hml.trans hl.1.symm) hT hown hG hS hW hout hlocks hf (w446) dX5_needOpen_7 dX5_needOpen_10 dX5_needOpen_11 dX5_needOpen_14 dX5_needOpen_17 (Nat.le_of_ble_eq_true rfl) (Nat.le_of_ble_eq_true rfl) (Nat.le_of_ble_eq_true rfl) (Nat.le_of_ble_eq_true rfl) (Nat.le_of_ble_eq_true rfl) (Nat.le_of_ble_eq_true rfl)
def f_X5_needPassed (fu : Nat) (x0 : Int32) (s : ag_S) : Option ((Int32 ⊕ Int32) × ag_S) := if s 3 5 x0 = 1 then (some (.inl 0, s)) else (some (.inr 3, s))
abbrev rm_X5_needPassed : Room := { frames := 6, cells := 1, slots := 6, locals := 83 }
theorem w569 : Cond.stringRef RX5 311 "the amendment is not passed" ∈ lw_tbl := List.mem_append_right _ (List.mem_of_getElem? (i := 569) (by decide +kernel))
theorem dd_yX5_needPassed : yX5_needPassed.cls ≠ "java/lang/invoke/MethodHandle" ∧ yX5_needPassed.cls ≠ "java/lang/invoke/VarHandle" ∧ (parseMethodDescriptor yX5_needPassed.desc).map (fun d => d.parameters.length) = some 1 := by decide +kernel
set_option maxHeartbeats 4000000 in
set_option maxRecDepth 100000 in
theorem c_X5_needPassed {z : ag_Z} {l : Launch} {n : ag_N} {p : ag_P} {s : ag_S} {fu : Nat} {x0 : Int32} {out : (Int32 ⊕ Int32) × ag_S} (hq9 : l.stackTraces = false) (v0 : vp_in x0 (n 3)) (hf : f_X5_needPassed fu x0 s = some out) : vx_Met l yX5_needPassed (ag_ws yX5_needPassed cX5_needPassed 1 ((none))) rm_X5_needPassed (va_Pc [.ref (p 3 x0)] (ag_Pre z n p s)) (ag_Xv z n p out) (ag_XX z n p out) 1 6 (ag_A z) := by
  refine vx_ofW (cc := cX5_needPassed) (maxL := 1) (ret := (none)) (by decide) rfl ?_
  intro p0 e st m args below meth c s9 B hml hout hv
  obtain ⟨ha, h0, hG, hW⟩ := hv
  have hx := B.exec
  have hb := B.bytes
  have hr := B.returns
  have hts := atoms_spec (ws := ag_ws yX5_needPassed cX5_needPassed 1 ((none))) B.pre
  have hT : ∀ w ∈ ag_tbl, w.before args st = true := fun w h => hts w (List.mem_cons_of_mem _ h)
  have hown : st.vm.findClass RX5 = some m.cls := findClass_of_methodNamed B.named
  have hlocks := B.notSynchronized
  have hS : va_S (ag_A z) st.heap st.heap [] := va_S.rf
  obtain ⟨ls, hls, hl⟩ : ∃ ls, entryFrame m args 1 = F0 m 0 ls [] ∧ lv_has ls 1 [(0, .ref (p 3 x0))] := by rw [ha]; exact ag_entry m [.ref (p 3 x0)] (Nat.le_of_ble_eq_true rfl)
  rw [hls]
  unfold f_X5_needPassed at hf
  refine lv_aload_n hx hb dX5_needPassed_0 rfl (lv_at hl 0 rfl) ?_
  refine g3_5 hx hb hT hown hG hW v0 q403 dX5_needPassed_1 ?_
  refine lv_iconst (v := 1) hx hb dX5_needPassed_4 (by decide) ?_
  refine lv_icmp_eq (tgt := 19) hx hb dX5_needPassed_5 (by decide) (fun c5 => ?_) (fun c5 => ?_)
  · have hf := ag_t c5 hf
    refine W.widen (k := 1) (n := 6) (Nat.le_of_ble_eq_true rfl) (Nat.le_of_ble_eq_true rfl) ?_
    exact ag_xvret hx hb hr hlocks hS hf hW dX5_needPassed_19
  · have hf := ag_f c5 hf
    exact ag_thrw3 hx hb hq9 (hml.trans hl.1.symm) hT hown hG hS hW hout hlocks hf (w569) dX5_needPassed_8 dX5_needPassed_11 dX5_needPassed_12 dX5_needPassed_15 dX5_needPassed_18 (Nat.le_of_ble_eq_true rfl) (Nat.le_of_ble_eq_true rfl) (Nat.le_of_ble_eq_true rfl) (Nat.le_of_ble_eq_true rfl) (Nat.le_of_ble_eq_true rfl) (Nat.le_of_ble_eq_true rfl)
def f_X5_needNotWithdrawn (fu : Nat) (x0 : Int32) (s : ag_S) : Option ((Int32 ⊕ Int32) × ag_S) := if s 4 6 x0 = 2 then (some (.inr 3, s)) else (some (.inl 0, s))
abbrev rm_X5_needNotWithdrawn : Room := { frames := 6, cells := 1, slots := 6, locals := 83 }
theorem w658 : Cond.stringRef RX5 313 "the grant is withdrawn" ∈ lw_tbl := List.mem_append_right _ (List.mem_of_getElem? (i := 658) (by decide +kernel))
theorem dd_yX5_needNotWithdrawn : yX5_needNotWithdrawn.cls ≠ "java/lang/invoke/MethodHandle" ∧ yX5_needNotWithdrawn.cls ≠ "java/lang/invoke/VarHandle" ∧ (parseMethodDescriptor yX5_needNotWithdrawn.desc).map (fun d => d.parameters.length) = some 1 := by decide +kernel
set_option maxHeartbeats 4000000 in
set_option maxRecDepth 100000 in
theorem c_X5_needNotWithdrawn {z : ag_Z} {l : Launch} {n : ag_N} {p : ag_P} {s : ag_S} {fu : Nat} {x0 : Int32} {out : (Int32 ⊕ Int32) × ag_S} (hq9 : l.stackTraces = false) (v0 : vp_in x0 (n 4)) (hf : f_X5_needNotWithdrawn fu x0 s = some out) : vx_Met l yX5_needNotWithdrawn (ag_ws yX5_needNotWithdrawn cX5_needNotWithdrawn 1 ((none))) rm_X5_needNotWithdrawn (va_Pc [.ref (p 4 x0)] (ag_Pre z n p s)) (ag_Xv z n p out) (ag_XX z n p out) 1 6 (ag_A z) := by
  refine vx_ofW (cc := cX5_needNotWithdrawn) (maxL := 1) (ret := (none)) (by decide) rfl ?_
  intro p0 e st m args below meth c s9 B hml hout hv
  obtain ⟨ha, h0, hG, hW⟩ := hv
  have hx := B.exec
  have hb := B.bytes
  have hr := B.returns
  have hts := atoms_spec (ws := ag_ws yX5_needNotWithdrawn cX5_needNotWithdrawn 1 ((none))) B.pre
  have hT : ∀ w ∈ ag_tbl, w.before args st = true := fun w h => hts w (List.mem_cons_of_mem _ h)
  have hown : st.vm.findClass RX5 = some m.cls := findClass_of_methodNamed B.named
  have hlocks := B.notSynchronized
  have hS : va_S (ag_A z) st.heap st.heap [] := va_S.rf
  obtain ⟨ls, hls, hl⟩ : ∃ ls, entryFrame m args 1 = F0 m 0 ls [] ∧ lv_has ls 1 [(0, .ref (p 4 x0))] := by rw [ha]; exact ag_entry m [.ref (p 4 x0)] (Nat.le_of_ble_eq_true rfl)
  rw [hls]
  unfold f_X5_needNotWithdrawn at hf
  refine lv_aload_n hx hb dX5_needNotWithdrawn_0 rfl (lv_at hl 0 rfl) ?_
  refine g4_6 hx hb hT hown hG hW v0 q606 dX5_needNotWithdrawn_1 ?_
  refine lv_iconst (v := 2) hx hb dX5_needNotWithdrawn_4 (by decide) ?_
  refine lv_icmp_ne (tgt := 19) hx hb dX5_needNotWithdrawn_5 (by decide) (fun c5 => ?_) (fun c5 => ?_)
  · have hf := ag_f c5 hf
    refine W.widen (k := 1) (n := 6) (Nat.le_of_ble_eq_true rfl) (Nat.le_of_ble_eq_true rfl) ?_
    exact ag_xvret hx hb hr hlocks hS hf hW dX5_needNotWithdrawn_19
  · have hf := ag_t c5 hf
    exact ag_thrw3 hx hb hq9 (hml.trans hl.1.symm) hT hown hG hS hW hout hlocks hf (w658) dX5_needNotWithdrawn_8 dX5_needNotWithdrawn_11 dX5_needNotWithdrawn_12 dX5_needNotWithdrawn_15 dX5_needNotWithdrawn_18 (Nat.le_of_ble_eq_true rfl) (Nat.le_of_ble_eq_true rfl) (Nat.le_of_ble_eq_true rfl) (Nat.le_of_ble_eq_true rfl) (Nat.le_of_ble_eq_true rfl) (Nat.le_of_ble_eq_true rfl)
