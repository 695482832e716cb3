def f_X6_thrown (fu : Nat) (s : ag_S) : Option Int32 := some (s 6 0 0)
abbrev rm_X6_thrown : Room := { frames := 0, cells := 0, slots := 0, locals := 0 }
theorem dd_yX6_thrown : yX6_thrown.cls = RX6 ∧ yX6_thrown.cls ≠ "java/lang/invoke/MethodHandle" ∧ yX6_thrown.cls ≠ "java/lang/invoke/VarHandle" ∧ (parseMethodDescriptor yX6_thrown.desc).map (fun d => d.parameters.length) = some 0 := by decide +kernel
set_option maxHeartbeats 4000000 in
set_option maxRecDepth 100000 in
theorem c_X6_thrown {z : ag_Z} {l : Launch} {n : ag_N} {p : ag_P} {s : ag_S} {fu : Nat} {out : Int32} (t6 : vp_in 0 (n 6)) (hf : f_X6_thrown fu  s = some out) : Met l yX6_thrown (ag_ws yX6_thrown cX6_thrown 1 ((some FieldType.int))) rm_X6_thrown (va_Pc [.ref (p 6 0)] (ag_Pre z n p s)) (ag_Ri z n p out s) 0 0 (ag_A z) := by
  refine Met.ofW (cc := cX6_thrown) (maxL := 1) (ret := (some FieldType.int)) (by decide) rfl ?_
  intro p0 e st m args below meth c s9 B hml hv
  obtain ⟨ha, h0, hG, hW⟩ := hv
  have hx := B.exec
  have hb := B.bytes
  have hr := B.returns
  have hts := atoms_spec (ws := ag_ws yX6_thrown cX6_thrown 1 ((some FieldType.int))) B.pre
  have hT : ∀ w ∈ ag_tbl, w.before args st = true := fun w h => hts w (List.mem_cons_of_mem _ h)
  have hown : st.vm.findClass RX6 = some m.cls := findClass_of_methodNamed B.named
  have hlocks := B.notSynchronized
  have hS : va_S (ag_A z) st.heap st.heap [] := va_S.rf
  obtain ⟨ls, hls, hl⟩ : ∃ ls, entryFrame m args 1 = F0 m 0 ls [] ∧ lv_has ls 1 [(0, .ref (p 6 0))] := by rw [ha]; exact ag_entry m [.ref (p 6 0)] (Nat.le_of_ble_eq_true rfl)
  rw [hls]
  unfold f_X6_thrown at hf
  refine lv_aload_n hx hb dX6_thrown_0 rfl (lv_at hl 0 rfl) ?_
  refine g6_0 hx hb hT hown hG hW t6 q788 dX6_thrown_1 ?_
  exact ag_iret hx hb hr rfl hlocks hS (Option.some.inj hf) hW dX6_thrown_4
def f_X6_goesWell (fu : Nat) (x1 : Int32) (s : ag_S) : Option (Int32 × ag_S) := if x1 = 0 then (some (1, (ag_up s 6 0 0 x1))) else (some (0, (ag_up s 6 0 0 x1)))
abbrev rm_X6_goesWell : Room := { frames := 0, cells := 0, slots := 0, locals := 0 }
theorem dd_yX6_goesWell : yX6_goesWell.cls = RX6 ∧ yX6_goesWell.cls ≠ "java/lang/invoke/MethodHandle" ∧ yX6_goesWell.cls ≠ "java/lang/invoke/VarHandle" ∧ (parseMethodDescriptor yX6_goesWell.desc).map (fun d => d.parameters.length) = some 1 := by decide +kernel
set_option maxHeartbeats 4000000 in
set_option maxRecDepth 100000 in
theorem c_X6_goesWell {z : ag_Z} {l : Launch} {n : ag_N} {p : ag_P} {s : ag_S} {fu : Nat} {x1 : Int32} {out : Int32 × ag_S} (t6 : vp_in 0 (n 6)) (hf : f_X6_goesWell fu x1 s = some out) : Met l yX6_goesWell (ag_ws yX6_goesWell cX6_goesWell 2 ((some FieldType.boolean))) rm_X6_goesWell (va_Pc [.ref (p 6 0), .int x1] (ag_Pre z n p s)) (ag_Ri z n p out.1 out.2) 0 0 (ag_A z) := by
  refine Met.ofW (cc := cX6_goesWell) (maxL := 2) (ret := (some FieldType.boolean)) (by decide) rfl ?_
  intro p0 e st m args below meth c s9 B hml hv
  obtain ⟨ha, h0, hG, hW⟩ := hv
  have hx := B.exec
  have hb := B.bytes
  have hr := B.returns
  have hts := atoms_spec (ws := ag_ws yX6_goesWell cX6_goesWell 2 ((some FieldType.boolean))) B.pre
  have hT : ∀ w ∈ ag_tbl, w.before args st = true := fun w h => hts w (List.mem_cons_of_mem _ h)
  have hown : st.vm.findClass RX6 = some m.cls := findClass_of_methodNamed B.named
  have hlocks := B.notSynchronized
  have hS : va_S (ag_A z) st.heap st.heap [] := va_S.rf
  obtain ⟨ls, hls, hl⟩ : ∃ ls, entryFrame m args 2 = F0 m 0 ls [] ∧ lv_has ls 2 [(0, .ref (p 6 0)), (1, .int x1)] := by rw [ha]; exact ag_entry m [.ref (p 6 0), .int x1] (Nat.le_of_ble_eq_true rfl)
  rw [hls]
  unfold f_X6_goesWell at hf
  refine lv_aload_n hx hb dX6_goesWell_0 rfl (lv_at hl 0 rfl) ?_
  refine lv_iload_n hx hb dX6_goesWell_1 rfl (lv_at hl 1 rfl) ?_
  refine u6_0 hx hb hT hown hG hW hS t6 q788 dX6_goesWell_2 (fun H locs hW hS => ?_)
  refine lv_iload_n hx hb dX6_goesWell_5 rfl (lv_at hl 1 rfl) ?_
  refine lv_if_ne (tgt := 13) hx hb dX6_goesWell_6 (by decide) (fun c6 => ?_) (fun c6 => ?_)
  · have hf := ag_f c6 hf
    refine lv_iconst (v := 0) hx hb dX6_goesWell_13 (by decide) ?_
    exact ag_iret hx hb hr rfl hlocks hS (congrArg Prod.fst (Option.some.inj hf)) (congrArg Prod.snd (Option.some.inj hf) ▸ hW) dX6_goesWell_14
  · have hf := ag_t c6 hf
    refine lv_iconst (v := 1) hx hb dX6_goesWell_9 (by decide) ?_
    refine lv_goto (tgt := 14) hx hb dX6_goesWell_10 (by decide) ?_
    exact ag_iret hx hb hr rfl hlocks hS (congrArg Prod.fst (Option.some.inj hf)) (congrArg Prod.snd (Option.some.inj hf) ▸ hW) dX6_goesWell_14
def f_X6_in (fu : Nat) (x0 : Int32) (x1 : Int32) (x2 : Int32) (s : ag_S) : Option Int32 := if x0 < x1 then (some 0) else (if x2 < x0 then (some 0) else (some 1))
abbrev rm_X6_in : Room := { frames := 0, cells := 0, slots := 0, locals := 0 }
theorem dd_yX6_in : yX6_in.cls ≠ "java/lang/invoke/MethodHandle" ∧ yX6_in.cls ≠ "java/lang/invoke/VarHandle" ∧ (parseMethodDescriptor yX6_in.desc).map (fun d => d.parameters.length) = some 3 := by decide +kernel
set_option maxHeartbeats 4000000 in
set_option maxRecDepth 100000 in
theorem c_X6_in {z : ag_Z} {l : Launch} {n : ag_N} {p : ag_P} {s : ag_S} {fu : Nat} {x0 : Int32} {x1 : Int32} {x2 : Int32} {out : Int32}  (hf : f_X6_in fu x0 x1 x2 s = some out) : Met l yX6_in (ag_ws yX6_in cX6_in 3 ((some FieldType.boolean))) rm_X6_in (va_Pc [.int x0, .int x1, .int x2] (ag_Pre z n p s)) (ag_Ri z n p out s) 0 0 (ag_A z) := by
  refine Met.ofW (cc := cX6_in) (maxL := 3) (ret := (some FieldType.boolean)) (by decide) rfl ?_
  intro p0 e st m args below meth c s9 B hml hv
  obtain ⟨ha, h0, hG, hW⟩ := hv
  have hx := B.exec
  have hb := B.bytes
  have hr := B.returns
  have hts := atoms_spec (ws := ag_ws yX6_in cX6_in 3 ((some FieldType.boolean))) B.pre
  have hT : ∀ w ∈ ag_tbl, w.before args st = true := fun w h => hts w (List.mem_cons_of_mem _ h)
  have hown : st.vm.findClass RX6 = some m.cls := findClass_of_methodNamed B.named
  have hlocks := B.notSynchronized
  have hS : va_S (ag_A z) st.heap st.heap [] := va_S.rf
  obtain ⟨ls, hls, hl⟩ : ∃ ls, entryFrame m args 3 = F0 m 0 ls [] ∧ lv_has ls 3 [(0, .int x0), (1, .int x1), (2, .int x2)] := by rw [ha]; exact ag_entry m [.int x0, .int x1, .int x2] (Nat.le_of_ble_eq_true rfl)
  rw [hls]
  unfold f_X6_in at hf
  refine lv_iload_n hx hb dX6_in_0 rfl (lv_at hl 0 rfl) ?_
  refine lv_iload_n hx hb dX6_in_1 rfl (lv_at hl 1 rfl) ?_
  refine lv_icmp_lt (tgt := 14) hx hb dX6_in_2 (by decide) (fun c2 => ?_) (fun c2 => ?_)
  · have hf := ag_t c2 hf
    refine lv_iconst (v := 0) hx hb dX6_in_14 (by decide) ?_
    exact ag_iret hx hb hr rfl hlocks hS (Option.some.inj hf) hW dX6_in_15
  · have hf := ag_f c2 hf
    refine lv_iload_n hx hb dX6_in_5 rfl (lv_at hl 0 rfl) ?_
    refine lv_iload_n hx hb dX6_in_6 rfl (lv_at hl 2 rfl) ?_
    refine lv_icmp_gt (tgt := 14) hx hb dX6_in_7 (by decide) (fun c7 => ?_) (fun c7 => ?_)
    · have hf := ag_t c7 hf
      refine lv_iconst (v := 0) hx hb dX6_in_14 (by decide) ?_
      exact ag_iret hx hb hr rfl hlocks hS (Option.some.inj hf) hW dX6_in_15
    · have hf := ag_f c7 hf
      refine lv_iconst (v := 1) hx hb dX6_in_10 (by decide) ?_
      refine lv_goto (tgt := 15) hx hb dX6_in_11 (by decide) ?_
      exact ag_iret hx hb hr rfl hlocks hS (Option.some.inj hf) hW dX6_in_15
theorem b_X6_in {fu : Nat} {x0 x1 x2 r : Int32} {s : ag_S} (h : f_X6_in fu x0 x1 x2 s = some r) : r = 0 ∨ r = 1 := by
  unfold f_X6_in at h
  split at h
  · cases h; simp
  · split at h <;> (cases h; simp)
def f_X6_isLine (fu : Nat) (x1 : Int32) (s : ag_S) : Option Int32 := ag_bd (f_X6_in fu x1 0 ((s 6 7 0) - 1) s) fun r8 => some r8
abbrev rm_X6_isLine : Room := { frames := 1, cells := 0, slots := 0, locals := 22 }
theorem dd_yX6_isLine : yX6_isLine.cls = RX6 ∧ yX6_isLine.cls ≠ "java/lang/invoke/MethodHandle" ∧ yX6_isLine.cls ≠ "java/lang/invoke/VarHandle" ∧ (parseMethodDescriptor yX6_isLine.desc).map (fun d => d.parameters.length) = some 1 := by decide +kernel
set_option maxHeartbeats 4000000 in
set_option maxRecDepth 100000 in
theorem c_X6_isLine {z : ag_Z} {l : Launch} {n : ag_N} {p : ag_P} {s : ag_S} {fu : Nat} {x1 : Int32} {out : Int32} (t6 : vp_in 0 (n 6)) (hf : f_X6_isLine fu x1 s = some out) : Met l yX6_isLine (ag_ws yX6_isLine cX6_isLine 2 ((some FieldType.boolean))) rm_X6_isLine (va_Pc [.ref (p 6 0), .int x1] (ag_Pre z n p s)) (ag_Ri z n p out s) 0 0 (ag_A z) := by
  refine Met.ofW (cc := cX6_isLine) (maxL := 2) (ret := (some FieldType.boolean)) (by decide) rfl ?_
  intro p0 e st m args below meth c s9 B hml hv
  obtain ⟨ha, h0, hG, hW⟩ := hv
  have hx := B.exec
  have hb := B.bytes
  have hr := B.returns
  have hts := atoms_spec (ws := ag_ws yX6_isLine cX6_isLine 2 ((some FieldType.boolean))) B.pre
  have hT : ∀ w ∈ ag_tbl, w.before args st = true := fun w h => hts w (List.mem_cons_of_mem _ h)
  have hown : st.vm.findClass RX6 = some m.cls := findClass_of_methodNamed B.named
  have hlocks := B.notSynchronized
  have hS : va_S (ag_A z) st.heap st.heap [] := va_S.rf
  obtain ⟨ls, hls, hl⟩ : ∃ ls, entryFrame m args 2 = F0 m 0 ls [] ∧ lv_has ls 2 [(0, .ref (p 6 0)), (1, .int x1)] := by rw [ha]; exact ag_entry m [.ref (p 6 0), .int x1] (Nat.le_of_ble_eq_true rfl)
  rw [hls]
  unfold f_X6_isLine at hf
  refine lv_iload_n hx hb dX6_isLine_0 rfl (lv_at hl 1 rfl) ?_
  refine lv_iconst (v := 0) hx hb dX6_isLine_1 (by decide) ?_
  refine lv_aload_n hx hb dX6_isLine_2 rfl (lv_at hl 0 rfl) ?_
  refine g6_7 hx hb hT hown hG hW t6 q795 dX6_isLine_3 ?_
  refine lv_iconst (v := 1) hx hb dX6_isLine_6 (by decide) ?_
  refine lv_isub hx hb dX6_isLine_7 ?_
  obtain ⟨r8, hg8, hf⟩ := ag_bs hf
  refine ag_cSi hx hb hml hT hown hG h0 hS hW (c_X6_in hg8) ⟨rfl, rfl⟩ q892 q893 q11 q894 dd_yX6_in ⟨Nat.le_of_ble_eq_true rfl, Nat.le_of_ble_eq_true rfl⟩ hl.1 rfl (Nat.le_of_ble_eq_true rfl) ⟨Nat.le_of_ble_eq_true rfl, Nat.le_of_ble_eq_true rfl⟩ dX6_isLine_8 (fun H locs hW hS => ?_)
  exact ag_iret hx hb hr (ag_nb (b_X6_in hg8)).1 hlocks hS (Option.some.inj hf) hW dX6_isLine_11
theorem b_X6_isLine {fu : Nat} {x1 r : Int32} {s : ag_S} (h : f_X6_isLine fu x1 s = some r) : r = 0 ∨ r = 1 := by
  unfold f_X6_isLine at h
  obtain ⟨r9, h1, h2⟩ := ag_bs h
  cases h2
  exact b_X6_in h1
def f_X6_isAmendment (fu : Nat) (x1 : Int32) (s : ag_S) : Option Int32 := ag_bd (f_X6_in fu x1 0 ((s 6 13 0) - 1) s) fun r8 => some r8
abbrev rm_X6_isAmendment : Room := { frames := 1, cells := 0, slots := 0, locals := 22 }
theorem dd_yX6_isAmendment : yX6_isAmendment.cls = RX6 ∧ yX6_isAmendment.cls ≠ "java/lang/invoke/MethodHandle" ∧ yX6_isAmendment.cls ≠ "java/lang/invoke/VarHandle" ∧ (parseMethodDescriptor yX6_isAmendment.desc).map (fun d => d.parameters.length) = some 1 := by decide +kernel
set_option maxHeartbeats 4000000 in
set_option maxRecDepth 100000 in
theorem c_X6_isAmendment {z : ag_Z} {l : Launch} {n : ag_N} {p : ag_P} {s : ag_S} {fu : Nat} {x1 : Int32} {out : Int32} (t6 : vp_in 0 (n 6)) (hf : f_X6_isAmendment fu x1 s = some out) : Met l yX6_isAmendment (ag_ws yX6_isAmendment cX6_isAmendment 2 ((some FieldType.boolean))) rm_X6_isAmendment (va_Pc [.ref (p 6 0), .int x1] (ag_Pre z n p s)) (ag_Ri z n p out s) 0 0 (ag_A z) := by
  refine Met.ofW (cc := cX6_isAmendment) (maxL := 2) (ret := (some FieldType.boolean)) (by decide) rfl ?_
  intro p0 e st m args below meth c s9 B hml hv
  obtain ⟨ha, h0, hG, hW⟩ := hv
  have hx := B.exec
  have hb := B.bytes
  have hr := B.returns
  have hts := atoms_spec (ws := ag_ws yX6_isAmendment cX6_isAmendment 2 ((some FieldType.boolean))) B.pre
  have hT : ∀ w ∈ ag_tbl, w.before args st = true := fun w h => hts w (List.mem_cons_of_mem _ h)
  have hown : st.vm.findClass RX6 = some m.cls := findClass_of_methodNamed B.named
  have hlocks := B.notSynchronized
  have hS : va_S (ag_A z) st.heap st.heap [] := va_S.rf
  obtain ⟨ls, hls, hl⟩ : ∃ ls, entryFrame m args 2 = F0 m 0 ls [] ∧ lv_has ls 2 [(0, .ref (p 6 0)), (1, .int x1)] := by rw [ha]; exact ag_entry m [.ref (p 6 0), .int x1] (Nat.le_of_ble_eq_true rfl)
  rw [hls]
  unfold f_X6_isAmendment at hf
  refine lv_iload_n hx hb dX6_isAmendment_0 rfl (lv_at hl 1 rfl) ?_
  refine lv_iconst (v := 0) hx hb dX6_isAmendment_1 (by decide) ?_
  refine lv_aload_n hx hb dX6_isAmendment_2 rfl (lv_at hl 0 rfl) ?_
  refine g6_13 hx hb hT hown hG hW t6 q801 dX6_isAmendment_3 ?_
  refine lv_iconst (v := 1) hx hb dX6_isAmendment_6 (by decide) ?_
  refine lv_isub hx hb dX6_isAmendment_7 ?_
  obtain ⟨r8, hg8, hf⟩ := ag_bs hf
  refine ag_cSi hx hb hml hT hown hG h0 hS hW (c_X6_in hg8) ⟨rfl, rfl⟩ q892 q893 q11 q894 dd_yX6_in ⟨Nat.le_of_ble_eq_true rfl, Nat.le_of_ble_eq_true rfl⟩ hl.1 rfl (Nat.le_of_ble_eq_true rfl) ⟨Nat.le_of_ble_eq_true rfl, Nat.le_of_ble_eq_true rfl⟩ dX6_isAmendment_8 (fun H locs hW hS => ?_)
  exact ag_iret hx hb hr (ag_nb (b_X6_in hg8)).1 hlocks hS (Option.some.inj hf) hW dX6_isAmendment_11
theorem b_X6_isAmendment {fu : Nat} {x1 r : Int32} {s : ag_S} (h : f_X6_isAmendment fu x1 s = some r) : r = 0 ∨ r = 1 := by
  unfold f_X6_isAmendment at h
  obtain ⟨r9, h1, h2⟩ := ag_bs h
  cases h2
  exact b_X6_in h1
def f_X6_isGrant (fu : Nat) (x1 : Int32) (s : ag_S) : Option Int32 := ag_bd (f_X6_in fu x1 0 ((s 6 20 0) - 1) s) fun r8 => some r8
abbrev rm_X6_isGrant : Room := { frames := 1, cells := 0, slots := 0, locals := 22 }
theorem dd_yX6_isGrant : yX6_isGrant.cls = RX6 ∧ yX6_isGrant.cls ≠ "java/lang/invoke/MethodHandle" ∧ yX6_isGrant.cls ≠ "java/lang/invoke/VarHandle" ∧ (parseMethodDescriptor yX6_isGrant.desc).map (fun d => d.parameters.length) = some 1 := by decide +kernel
set_option maxHeartbeats 4000000 in
set_option maxRecDepth 100000 in
theorem c_X6_isGrant {z : ag_Z} {l : Launch} {n : ag_N} {p : ag_P} {s : ag_S} {fu : Nat} {x1 : Int32} {out : Int32} (t6 : vp_in 0 (n 6)) (hf : f_X6_isGrant fu x1 s = some out) : Met l yX6_isGrant (ag_ws yX6_isGrant cX6_isGrant 2 ((some FieldType.boolean))) rm_X6_isGrant (va_Pc [.ref (p 6 0), .int x1] (ag_Pre z n p s)) (ag_Ri z n p out s) 0 0 (ag_A z) := by
  refine Met.ofW (cc := cX6_isGrant) (maxL := 2) (ret := (some FieldType.boolean)) (by decide) rfl ?_
  intro p0 e st m args below meth c s9 B hml hv
  obtain ⟨ha, h0, hG, hW⟩ := hv
  have hx := B.exec
  have hb := B.bytes
  have hr := B.returns
  have hts := atoms_spec (ws := ag_ws yX6_isGrant cX6_isGrant 2 ((some FieldType.boolean))) B.pre
  have hT : ∀ w ∈ ag_tbl, w.before args st = true := fun w h => hts w (List.mem_cons_of_mem _ h)
  have hown : st.vm.findClass RX6 = some m.cls := findClass_of_methodNamed B.named
  have hlocks := B.notSynchronized
  have hS : va_S (ag_A z) st.heap st.heap [] := va_S.rf
  obtain ⟨ls, hls, hl⟩ : ∃ ls, entryFrame m args 2 = F0 m 0 ls [] ∧ lv_has ls 2 [(0, .ref (p 6 0)), (1, .int x1)] := by rw [ha]; exact ag_entry m [.ref (p 6 0), .int x1] (Nat.le_of_ble_eq_true rfl)
  rw [hls]
  unfold f_X6_isGrant at hf
  refine lv_iload_n hx hb dX6_isGrant_0 rfl (lv_at hl 1 rfl) ?_
  refine lv_iconst (v := 0) hx hb dX6_isGrant_1 (by decide) ?_
  refine lv_aload_n hx hb dX6_isGrant_2 rfl (lv_at hl 0 rfl) ?_
  refine g6_20 hx hb hT hown hG hW t6 q808 dX6_isGrant_3 ?_
  refine lv_iconst (v := 1) hx hb dX6_isGrant_6 (by decide) ?_
  refine lv_isub hx hb dX6_isGrant_7 ?_
  obtain ⟨r8, hg8, hf⟩ := ag_bs hf
  refine ag_cSi hx hb hml hT hown hG h0 hS hW (c_X6_in hg8) ⟨rfl, rfl⟩ q892 q893 q11 q894 dd_yX6_in ⟨Nat.le_of_ble_eq_true rfl, Nat.le_of_ble_eq_true rfl⟩ hl.1 rfl (Nat.le_of_ble_eq_true rfl) ⟨Nat.le_of_ble_eq_true rfl, Nat.le_of_ble_eq_true rfl⟩ dX6_isGrant_8 (fun H locs hW hS => ?_)
  exact ag_iret hx hb hr (ag_nb (b_X6_in hg8)).1 hlocks hS (Option.some.inj hf) hW dX6_isGrant_11
theorem b_X6_isGrant {fu : Nat} {x1 r : Int32} {s : ag_S} (h : f_X6_isGrant fu x1 s = some r) : r = 0 ∨ r = 1 := by
  unfold f_X6_isGrant at h
  obtain ⟨r9, h1, h2⟩ := ag_bs h
  cases h2
  exact b_X6_in h1
def f_X6_isMore (fu : Nat) (x0 : Int32) (s : ag_S) : Option Int32 := if x0 = 0 then (some 0) else (ag_bd (f_X6_in fu x0 ((-50000)) 50000 s) fun r9 => if r9 = 0 then (some 0) else (some 1))
abbrev rm_X6_isMore : Room := { frames := 1, cells := 0, slots := 0, locals := 22 }
theorem dd_yX6_isMore : yX6_isMore.cls ≠ "java/lang/invoke/MethodHandle" ∧ yX6_isMore.cls ≠ "java/lang/invoke/VarHandle" ∧ (parseMethodDescriptor yX6_isMore.desc).map (fun d => d.parameters.length) = some 1 := by decide +kernel
set_option maxHeartbeats 4000000 in
set_option maxRecDepth 100000 in
theorem c_X6_isMore {z : ag_Z} {l : Launch} {n : ag_N} {p : ag_P} {s : ag_S} {fu : Nat} {x0 : Int32} {out : Int32}  (hf : f_X6_isMore fu x0 s = some out) : Met l yX6_isMore (ag_ws yX6_isMore cX6_isMore 1 ((some FieldType.boolean))) rm_X6_isMore (va_Pc [.int x0] (ag_Pre z n p s)) (ag_Ri z n p out s) 0 0 (ag_A z) := by
  refine Met.ofW (cc := cX6_isMore) (maxL := 1) (ret := (some FieldType.boolean)) (by decide) rfl ?_
  intro p0 e st m args below meth c s9 B hml hv
  obtain ⟨ha, h0, hG, hW⟩ := hv
  have hx := B.exec
  have hb := B.bytes
  have hr := B.returns
  have hts := atoms_spec (ws := ag_ws yX6_isMore cX6_isMore 1 ((some FieldType.boolean))) B.pre
  have hT : ∀ w ∈ ag_tbl, w.before args st = true := fun w h => hts w (List.mem_cons_of_mem _ h)
  have hown : st.vm.findClass RX6 = some m.cls := findClass_of_methodNamed B.named
  have hlocks := B.notSynchronized
  have hS : va_S (ag_A z) st.heap st.heap [] := va_S.rf
  obtain ⟨ls, hls, hl⟩ : ∃ ls, entryFrame m args 1 = F0 m 0 ls [] ∧ lv_has ls 1 [(0, .int x0)] := by rw [ha]; exact ag_entry m [.int x0] (Nat.le_of_ble_eq_true rfl)
  rw [hls]
  unfold f_X6_isMore at hf
  refine lv_iload_n hx hb dX6_isMore_0 rfl (lv_at hl 0 rfl) ?_
  refine lv_if_eq (tgt := 19) hx hb dX6_isMore_1 (by decide) (fun c1 => ?_) (fun c1 => ?_)
  · have hf := ag_t c1 hf
    refine lv_iconst (v := 0) hx hb dX6_isMore_19 (by decide) ?_
    exact ag_iret hx hb hr rfl hlocks hS (Option.some.inj hf) hW dX6_isMore_20
  · have hf := ag_f c1 hf
    refine lv_iload_n hx hb dX6_isMore_4 rfl (lv_at hl 0 rfl) ?_
    refine lv_ldc (v := (-50000)) hx hb hown (hT _ q915) dX6_isMore_5 ?_
    refine lv_ldc (v := 50000) hx hb hown (hT _ q916) dX6_isMore_7 ?_
    obtain ⟨r9, hg9, hf⟩ := ag_bs hf
    refine ag_cSi hx hb hml hT hown hG h0 hS hW (c_X6_in hg9) ⟨rfl, rfl⟩ q892 q893 q11 q894 dd_yX6_in ⟨Nat.le_of_ble_eq_true rfl, Nat.le_of_ble_eq_true rfl⟩ hl.1 rfl (Nat.le_of_ble_eq_true rfl) ⟨Nat.le_of_ble_eq_true rfl, Nat.le_of_ble_eq_true rfl⟩ dX6_isMore_9 (fun H locs hW hS => ?_)
    refine lv_if_eq (tgt := 19) hx hb dX6_isMore_12 (by decide) (fun c12 => ?_) (fun c12 => ?_)
    · have hf := ag_t c12 hf
      refine lv_iconst (v := 0) hx hb dX6_isMore_19 (by decide) ?_
      exact ag_iret hx hb hr rfl hlocks hS (Option.some.inj hf) hW dX6_isMore_20
    · have hf := ag_f c12 hf
      refine lv_iconst (v := 1) hx hb dX6_isMore_15 (by decide) ?_
      refine lv_goto (tgt := 20) hx hb dX6_isMore_16 (by decide) ?_
      exact ag_iret hx hb hr rfl hlocks hS (Option.some.inj hf) hW dX6_isMore_20
def f_X6_votesOf_L5 (fu : Nat) : Nat → Int32 → Int32 → Int32 → Int32 → ag_S → Option Int32
  | 0, _, _, _, _, _ => none
  | nf + 1, x1, x2, x3, x4, s => if (9 : Int32) ≤ x4 then (some x3) else (if ((9 * x1) + x4 : Int32) < 0 ∨ 360 ≤ ((9 * x1) + x4).toNatClampNeg then none else if s 49 0 ((9 * x1) + x4) = x2 then (f_X6_votesOf_L5 fu nf x1 x2 (x3 + 1) (x4 + 1) s) else (f_X6_votesOf_L5 fu nf x1 x2 (x3 + 0) (x4 + 1) s))
def f_X6_votesOf (fu : Nat) (x1 : Int32) (x2 : Int32) (s : ag_S) : Option Int32 := f_X6_votesOf_L5 fu fu x1 x2 0 0 s
abbrev rm_X6_votesOf : Room := { frames := 0, cells := 0, slots := 0, locals := 0 }
theorem dd_yX6_votesOf : yX6_votesOf.cls = RX6 ∧ yX6_votesOf.cls ≠ "java/lang/invoke/MethodHandle" ∧ yX6_votesOf.cls ≠ "java/lang/invoke/VarHandle" ∧ (parseMethodDescriptor yX6_votesOf.desc).map (fun d => d.parameters.length) = some 2 := by decide +kernel
set_option maxHeartbeats 4000000 in
set_option maxRecDepth 100000 in
theorem c_X6_votesOf {z : ag_Z} {l : Launch} {n : ag_N} {p : ag_P} {s : ag_S} {fu : Nat} {x1 : Int32} {x2 : Int32} {out : Int32} (t6 : vp_in 0 (n 6)) (hf : f_X6_votesOf fu x1 x2 s = some out) : Met l yX6_votesOf (ag_ws yX6_votesOf cX6_votesOf 5 ((some FieldType.int))) rm_X6_votesOf (va_Pc [.ref (p 6 0), .int x1, .int x2] (ag_Pre z n p s)) (ag_Ri z n p out s) 0 0 (ag_A z) := by
  refine Met.ofW (cc := cX6_votesOf) (maxL := 5) (ret := (some FieldType.int)) (by decide) rfl ?_
  intro p0 e st m args below meth c s9 B hml hv
  obtain ⟨ha, h0, hG, hW⟩ := hv
  have hx := B.exec
  have hb := B.bytes
  have hr := B.returns
  have hts := atoms_spec (ws := ag_ws yX6_votesOf cX6_votesOf 5 ((some FieldType.int))) B.pre
  have hT : ∀ w ∈ ag_tbl, w.before args st = true := fun w h => hts w (List.mem_cons_of_mem _ h)
  have hown : st.vm.findClass RX6 = some m.cls := findClass_of_methodNamed B.named
  have hlocks := B.notSynchronized
  have hS : va_S (ag_A z) st.heap st.heap [] := va_S.rf
  obtain ⟨ls, hls, hl⟩ : ∃ ls, entryFrame m args 5 = F0 m 0 ls [] ∧ lv_has ls 5 [(0, .ref (p 6 0)), (1, .int x1), (2, .int x2)] := by rw [ha]; exact ag_entry m [.ref (p 6 0), .int x1, .int x2] (Nat.le_of_ble_eq_true rfl)
  rw [hls]
  have k5 : ∀ (nf : Nat) (x1 : Int32) (x2 : Int32) (x3 : Int32) (x4 : Int32) (H : Heap) (locs : List Loc) (ls : Array Slot), ag_W z n p s H → va_S (ag_A z) st.heap H locs → lv_has ls 5 [(0, .ref (p 6 0)), (1, .int x1), (2, .int x2), (3, .int x3), (4, .int x4)] → f_X6_votesOf_L5 fu nf x1 x2 x3 x4 s = some out → W p0 l e (headSpec (ag_ws yX6_votesOf cX6_votesOf 5 ((some FieldType.int))) rm_X6_votesOf).room st m args below meth c H locs 0 0 (MQ below (ag_Ri z n p out s) args st 0 0 (ag_A z)) (F0 m 5 ls []) := by
    intro nf
    induction nf with
    | zero => intro x1 x2 x3 x4 H locs ls hW hS hl hf; rw [f_X6_votesOf_L5] at hf; cases hf
    | succ nf ih =>
      intro x1 x2 x3 x4 H locs ls hW hS hl hf
      rw [f_X6_votesOf_L5] at hf
      refine lv_iload hx hb dX6_votesOf_5 (lv_at hl 4 rfl) ?_
      refine lv_bipush (v := 9) hx hb dX6_votesOf_7 (by decide) ?_
      refine lv_icmp_ge (tgt := 42) hx hb dX6_votesOf_9 (by decide) (fun c9 => ?_) (fun c9 => ?_)
      · have hf := ag_t c9 hf
        refine lv_iload_n hx hb dX6_votesOf_42 rfl (lv_at hl 3 rfl) ?_
        exact ag_iret hx hb hr rfl hlocks hS (Option.some.inj hf) hW dX6_votesOf_43
      · have hf := ag_f c9 hf
        refine lv_iload_n hx hb dX6_votesOf_12 rfl (lv_at hl 3 rfl) ?_
        refine lv_aload_n hx hb dX6_votesOf_13 rfl (lv_at hl 0 rfl) ?_
        refine g6_19 hx hb hT hown hG hW t6 q807 dX6_votesOf_14 ?_
        have t49 := ag_fix hW (k := 6) (f := 19) (t := 49) t6 rfl rfl
        refine lv_bipush (v := 9) hx hb dX6_votesOf_17 (by decide) ?_
        refine lv_iload_n hx hb dX6_votesOf_19 rfl (lv_at hl 1 rfl) ?_
        refine lv_imul hx hb dX6_votesOf_20 ?_
        refine lv_iload hx hb dX6_votesOf_21 (lv_at hl 4 rfl) ?_
        refine lv_iadd hx hb dX6_votesOf_23 ?_
        obtain ⟨a24, hf⟩ := ag_n hf
        refine ag_iald hx hb hG hW t49 rfl rfl a24 dX6_votesOf_24 ?_
        refine lv_iload_n hx hb dX6_votesOf_25 rfl (lv_at hl 2 rfl) ?_
        refine lv_icmp_ne (tgt := 33) hx hb dX6_votesOf_26 (by decide) (fun c26 => ?_) (fun c26 => ?_)
        · have hf := ag_f c26 hf
          refine lv_iconst (v := 0) hx hb dX6_votesOf_33 (by decide) ?_
          refine lv_iadd hx hb dX6_votesOf_34 ?_
          refine lv_istore_n (lv' := [(3, .int (x3 + 0)), (0, .ref (p 6 0)), (1, .int x1), (2, .int x2), (4, .int x4)]) hx hb dX6_votesOf_35 rfl hl (by decide) rfl (fun ls hl => ?_)
          refine lv_iinc (v := x4 + 1) (lv' := [(4, .int (x4 + 1)), (3, .int (x3 + 0)), (0, .ref (p 6 0)), (1, .int x1), (2, .int x2)]) hx hb dX6_votesOf_36 hl (k := 4) rfl rfl (by decide) rfl (fun ls hl => ?_)
          refine lv_goto (tgt := 5) hx hb dX6_votesOf_39 (by decide) ?_
          exact ih _ _ _ _ _ _ _ hW hS (lv_sub hl [2, 3, 4, 1, 0] rfl) hf
        · have hf := ag_t c26 hf
          refine lv_iconst (v := 1) hx hb dX6_votesOf_29 (by decide) ?_
          refine lv_goto (tgt := 34) hx hb dX6_votesOf_30 (by decide) ?_
          refine lv_iadd hx hb dX6_votesOf_34 ?_
          refine lv_istore_n (lv' := [(3, .int (x3 + 1)), (0, .ref (p 6 0)), (1, .int x1), (2, .int x2), (4, .int x4)]) hx hb dX6_votesOf_35 rfl hl (by decide) rfl (fun ls hl => ?_)
          refine lv_iinc (v := x4 + 1) (lv' := [(4, .int (x4 + 1)), (3, .int (x3 + 1)), (0, .ref (p 6 0)), (1, .int x1), (2, .int x2)]) hx hb dX6_votesOf_36 hl (k := 4) rfl rfl (by decide) rfl (fun ls hl => ?_)
          refine lv_goto (tgt := 5) hx hb dX6_votesOf_39 (by decide) ?_
          exact ih _ _ _ _ _ _ _ hW hS (lv_sub hl [2, 3, 4, 1, 0] rfl) hf
  unfold f_X6_votesOf at hf
  refine lv_iconst (v := 0) hx hb dX6_votesOf_0 (by decide) ?_
  refine lv_istore_n (lv' := [(3, .int 0), (0, .ref (p 6 0)), (1, .int x1), (2, .int x2)]) hx hb dX6_votesOf_1 rfl hl (by decide) rfl (fun ls hl => ?_)
  refine lv_iconst (v := 0) hx hb dX6_votesOf_2 (by decide) ?_
  refine lv_istore (lv' := [(4, .int 0), (3, .int 0), (0, .ref (p 6 0)), (1, .int x1), (2, .int x2)]) hx hb dX6_votesOf_3 hl (by decide) rfl (fun ls hl => ?_)
  exact k5 fu _ _ _ _ _ _ _ hW hS (lv_sub hl [2, 3, 4, 1, 0] rfl) hf
def f_X6_bound_L9 (fu : Nat) : Nat → Int32 → Int32 → Int32 → ag_S → Option Int32
  | 0, _, _, _, _ => none
  | nf + 1, x1, x2, x3, s => if s 6 20 0 ≤ x3 then (some x2) else (if x3 < 0 ∨ 40 ≤ x3.toNatClampNeg then none else if s 51 0 x3 = x1 then (if x3 < 0 ∨ 40 ≤ x3.toNatClampNeg then none else if s 57 0 x3 = 2 then (if x3 < 0 ∨ 40 ≤ x3.toNatClampNeg then none else f_X6_bound_L9 fu nf x1 (x2 + (s 54 0 x3)) (x3 + 1) s) else (if x3 < 0 ∨ 40 ≤ x3.toNatClampNeg then none else f_X6_bound_L9 fu nf x1 (x2 + (s 53 0 x3)) (x3 + 1) s)) else (f_X6_bound_L9 fu nf x1 (x2 + 0) (x3 + 1) s))
def f_X6_bound (fu : Nat) (x1 : Int32) (s : ag_S) : Option Int32 := if x1 < 0 ∨ 10 ≤ x1.toNatClampNeg then none else f_X6_bound_L9 fu fu x1 (s 42 0 x1) 0 s
abbrev rm_X6_bound : Room := { frames := 0, cells := 0, slots := 0, locals := 0 }
theorem dd_yX6_bound : yX6_bound.cls = RX6 ∧ yX6_bound.cls ≠ "java/lang/invoke/MethodHandle" ∧ yX6_bound.cls ≠ "java/lang/invoke/VarHandle" ∧ (parseMethodDescriptor yX6_bound.desc).map (fun d => d.parameters.length) = some 1 := by decide +kernel
set_option maxHeartbeats 4000000 in
set_option maxRecDepth 100000 in
theorem c_X6_bound {z : ag_Z} {l : Launch} {n : ag_N} {p : ag_P} {s : ag_S} {fu : Nat} {x1 : Int32} {out : Int32} (t6 : vp_in 0 (n 6)) (hf : f_X6_bound fu x1 s = some out) : Met l yX6_bound (ag_ws yX6_bound cX6_bound 4 ((some FieldType.int))) rm_X6_bound (va_Pc [.ref (p 6 0), .int x1] (ag_Pre z n p s)) (ag_Ri z n p out s) 0 0 (ag_A z) := by
  refine Met.ofW (cc := cX6_bound) (maxL := 4) (ret := (some FieldType.int)) (by decide) rfl ?_
  intro p0 e st m args below meth c s9 B hml hv
  obtain ⟨ha, h0, hG, hW⟩ := hv
  have hx := B.exec
  have hb := B.bytes
  have hr := B.returns
  have hts := atoms_spec (ws := ag_ws yX6_bound cX6_bound 4 ((some FieldType.int))) B.pre
  have hT : ∀ w ∈ ag_tbl, w.before args st = true := fun w h => hts w (List.mem_cons_of_mem _ h)
  have hown : st.vm.findClass RX6 = some m.cls := findClass_of_methodNamed B.named
  have hlocks := B.notSynchronized
  have hS : va_S (ag_A z) st.heap st.heap [] := va_S.rf
  obtain ⟨ls, hls, hl⟩ : ∃ ls, entryFrame m args 4 = F0 m 0 ls [] ∧ lv_has ls 4 [(0, .ref (p 6 0)), (1, .int x1)] := by rw [ha]; exact ag_entry m [.ref (p 6 0), .int x1] (Nat.le_of_ble_eq_true rfl)
  rw [hls]
  have k9 : ∀ (nf : Nat) (x1 : Int32) (x2 : Int32) (x3 : Int32) (H : Heap) (locs : List Loc) (ls : Array Slot), ag_W z n p s H → va_S (ag_A z) st.heap H locs → lv_has ls 4 [(0, .ref (p 6 0)), (1, .int x1), (2, .int x2), (3, .int x3)] → f_X6_bound_L9 fu nf x1 x2 x3 s = some out → W p0 l e (headSpec (ag_ws yX6_bound cX6_bound 4 ((some FieldType.int))) rm_X6_bound).room st m args below meth c H locs 0 0 (MQ below (ag_Ri z n p out s) args st 0 0 (ag_A z)) (F0 m 9 ls []) := by
    intro nf
    induction nf with
    | zero => intro x1 x2 x3 H locs ls hW hS hl hf; rw [f_X6_bound_L9] at hf; cases hf
    | succ nf ih =>
      intro x1 x2 x3 H locs ls hW hS hl hf
      rw [f_X6_bound_L9] at hf
      refine lv_iload_n hx hb dX6_bound_9 rfl (lv_at hl 3 rfl) ?_
      refine lv_aload_n hx hb dX6_bound_10 rfl (lv_at hl 0 rfl) ?_
      refine g6_20 hx hb hT hown hG hW t6 q808 dX6_bound_11 ?_
      refine lv_icmp_ge (tgt := 65) hx hb dX6_bound_14 (by decide) (fun c14 => ?_) (fun c14 => ?_)
      · have hf := ag_t c14 hf
        refine lv_iload_n hx hb dX6_bound_65 rfl (lv_at hl 2 rfl) ?_
        exact ag_iret hx hb hr rfl hlocks hS (Option.some.inj hf) hW dX6_bound_66
      · have hf := ag_f c14 hf
        refine lv_iload_n hx hb dX6_bound_17 rfl (lv_at hl 2 rfl) ?_
        refine lv_aload_n hx hb dX6_bound_18 rfl (lv_at hl 0 rfl) ?_
        refine g6_21 hx hb hT hown hG hW t6 q809 dX6_bound_19 ?_
        have t51 := ag_fix hW (k := 6) (f := 21) (t := 51) t6 rfl rfl
        refine lv_iload_n hx hb dX6_bound_22 rfl (lv_at hl 3 rfl) ?_
        obtain ⟨a23, hf⟩ := ag_n hf
        refine ag_iald hx hb hG hW t51 rfl rfl a23 dX6_bound_23 ?_
        refine lv_iload_n hx hb dX6_bound_24 rfl (lv_at hl 1 rfl) ?_
        refine lv_icmp_ne (tgt := 56) hx hb dX6_bound_25 (by decide) (fun c25 => ?_) (fun c25 => ?_)
        · have hf := ag_f c25 hf
          refine lv_iconst (v := 0) hx hb dX6_bound_56 (by decide) ?_
          refine lv_iadd hx hb dX6_bound_57 ?_
          refine lv_istore_n (lv' := [(2, .int (x2 + 0)), (0, .ref (p 6 0)), (1, .int x1), (3, .int x3)]) hx hb dX6_bound_58 rfl hl (by decide) rfl (fun ls hl => ?_)
          refine lv_iinc (v := x3 + 1) (lv' := [(3, .int (x3 + 1)), (2, .int (x2 + 0)), (0, .ref (p 6 0)), (1, .int x1)]) hx hb dX6_bound_59 hl (k := 3) rfl rfl (by decide) rfl (fun ls hl => ?_)
          refine lv_goto (tgt := 9) hx hb dX6_bound_62 (by decide) ?_
          exact ih _ _ _ _ _ _ hW hS (lv_sub hl [2, 3, 1, 0] rfl) hf
        · have hf := ag_t c25 hf
          refine lv_aload_n hx hb dX6_bound_28 rfl (lv_at hl 0 rfl) ?_
          refine g6_27 hx hb hT hown hG hW t6 q815 dX6_bound_29 ?_
          have t57 := ag_fix hW (k := 6) (f := 27) (t := 57) t6 rfl rfl
          refine lv_iload_n hx hb dX6_bound_32 rfl (lv_at hl 3 rfl) ?_
          obtain ⟨a33, hf⟩ := ag_n hf
          refine ag_iald hx hb hG hW t57 rfl rfl a33 dX6_bound_33 ?_
          refine lv_iconst (v := 2) hx hb dX6_bound_34 (by decide) ?_
          refine lv_icmp_ne (tgt := 47) hx hb dX6_bound_35 (by decide) (fun c35 => ?_) (fun c35 => ?_)
          · have hf := ag_f c35 hf
            refine lv_aload_n hx hb dX6_bound_47 rfl (lv_at hl 0 rfl) ?_
            refine g6_23 hx hb hT hown hG hW t6 q811 dX6_bound_48 ?_
            have t53 := ag_fix hW (k := 6) (f := 23) (t := 53) t6 rfl rfl
            refine lv_iload_n hx hb dX6_bound_51 rfl (lv_at hl 3 rfl) ?_
            obtain ⟨a52, hf⟩ := ag_n hf
            refine ag_iald hx hb hG hW t53 rfl rfl a52 dX6_bound_52 ?_
            refine lv_goto (tgt := 57) hx hb dX6_bound_53 (by decide) ?_
            refine lv_iadd hx hb dX6_bound_57 ?_
            refine lv_istore_n (lv' := [(2, .int (x2 + (s 53 0 x3))), (0, .ref (p 6 0)), (1, .int x1), (3, .int x3)]) hx hb dX6_bound_58 rfl hl (by decide) rfl (fun ls hl => ?_)
            refine lv_iinc (v := x3 + 1) (lv' := [(3, .int (x3 + 1)), (2, .int (x2 + (s 53 0 x3))), (0, .ref (p 6 0)), (1, .int x1)]) hx hb dX6_bound_59 hl (k := 3) rfl rfl (by decide) rfl (fun ls hl => ?_)
            refine lv_goto (tgt := 9) hx hb dX6_bound_62 (by decide) ?_
            exact ih _ _ _ _ _ _ hW hS (lv_sub hl [2, 3, 1, 0] rfl) hf
          · have hf := ag_t c35 hf
            refine lv_aload_n hx hb dX6_bound_38 rfl (lv_at hl 0 rfl) ?_
            refine g6_24 hx hb hT hown hG hW t6 q812 dX6_bound_39 ?_
            have t54 := ag_fix hW (k := 6) (f := 24) (t := 54) t6 rfl rfl
            refine lv_iload_n hx hb dX6_bound_42 rfl (lv_at hl 3 rfl) ?_
            obtain ⟨a43, hf⟩ := ag_n hf
            refine ag_iald hx hb hG hW t54 rfl rfl a43 dX6_bound_43 ?_
            refine lv_goto (tgt := 57) hx hb dX6_bound_44 (by decide) ?_
            refine lv_iadd hx hb dX6_bound_57 ?_
            refine lv_istore_n (lv' := [(2, .int (x2 + (s 54 0 x3))), (0, .ref (p 6 0)), (1, .int x1), (3, .int x3)]) hx hb dX6_bound_58 rfl hl (by decide) rfl (fun ls hl => ?_)
            refine lv_iinc (v := x3 + 1) (lv' := [(3, .int (x3 + 1)), (2, .int (x2 + (s 54 0 x3))), (0, .ref (p 6 0)), (1, .int x1)]) hx hb dX6_bound_59 hl (k := 3) rfl rfl (by decide) rfl (fun ls hl => ?_)
            refine lv_goto (tgt := 9) hx hb dX6_bound_62 (by decide) ?_
            exact ih _ _ _ _ _ _ hW hS (lv_sub hl [2, 3, 1, 0] rfl) hf
  unfold f_X6_bound at hf
  refine lv_aload_n hx hb dX6_bound_0 rfl (lv_at hl 0 rfl) ?_
  refine g6_12 hx hb hT hown hG hW t6 q800 dX6_bound_1 ?_
  have t42 := ag_fix hW (k := 6) (f := 12) (t := 42) t6 rfl rfl
  refine lv_iload_n hx hb dX6_bound_4 rfl (lv_at hl 1 rfl) ?_
  obtain ⟨a5, hf⟩ := ag_n hf
  refine ag_iald hx hb hG hW t42 rfl rfl a5 dX6_bound_5 ?_
  refine lv_istore_n (lv' := [(2, .int (s 42 0 x1)), (0, .ref (p 6 0)), (1, .int x1)]) hx hb dX6_bound_6 rfl hl (by decide) rfl (fun ls hl => ?_)
  refine lv_iconst (v := 0) hx hb dX6_bound_7 (by decide) ?_
  refine lv_istore_n (lv' := [(3, .int 0), (2, .int (s 42 0 x1)), (0, .ref (p 6 0)), (1, .int x1)]) hx hb dX6_bound_8 rfl hl (by decide) rfl (fun ls hl => ?_)
  exact k9 fu _ _ _ _ _ _ hW hS (lv_sub hl [2, 3, 1, 0] rfl) hf
def f_X6_canPay (fu : Nat) (x1 : Int32) (x2 : Int32) (s : ag_S) : Option Int32 := if x1 < 0 ∨ 10 ≤ x1.toNatClampNeg then none else if s 38 0 x1 < 0 ∨ 4 ≤ (s 38 0 x1).toNatClampNeg then none else if x1 < 0 ∨ 10 ≤ x1.toNatClampNeg then none else if s 38 0 x1 < 0 ∨ 4 ≤ (s 38 0 x1).toNatClampNeg then none else if s 34 0 (s 38 0 x1) < (s 35 0 (s 38 0 x1)) + x2 then (some 0) else (some 1)
abbrev rm_X6_canPay : Room := { frames := 0, cells := 0, slots := 0, locals := 0 }
theorem dd_yX6_canPay : yX6_canPay.cls = RX6 ∧ yX6_canPay.cls ≠ "java/lang/invoke/MethodHandle" ∧ yX6_canPay.cls ≠ "java/lang/invoke/VarHandle" ∧ (parseMethodDescriptor yX6_canPay.desc).map (fun d => d.parameters.length) = some 2 := by decide +kernel
set_option maxHeartbeats 4000000 in
set_option maxRecDepth 100000 in
theorem c_X6_canPay {z : ag_Z} {l : Launch} {n : ag_N} {p : ag_P} {s : ag_S} {fu : Nat} {x1 : Int32} {x2 : Int32} {out : Int32} (t6 : vp_in 0 (n 6)) (hf : f_X6_canPay fu x1 x2 s = some out) : Met l yX6_canPay (ag_ws yX6_canPay cX6_canPay 3 ((some FieldType.boolean))) rm_X6_canPay (va_Pc [.ref (p 6 0), .int x1, .int x2] (ag_Pre z n p s)) (ag_Ri z n p out s) 0 0 (ag_A z) := by
  refine Met.ofW (cc := cX6_canPay) (maxL := 3) (ret := (some FieldType.boolean)) (by decide) rfl ?_
  intro p0 e st m args below meth c s9 B hml hv
  obtain ⟨ha, h0, hG, hW⟩ := hv
  have hx := B.exec
  have hb := B.bytes
  have hr := B.returns
  have hts := atoms_spec (ws := ag_ws yX6_canPay cX6_canPay 3 ((some FieldType.boolean))) B.pre
  have hT : ∀ w ∈ ag_tbl, w.before args st = true := fun w h => hts w (List.mem_cons_of_mem _ h)
  have hown : st.vm.findClass RX6 = some m.cls := findClass_of_methodNamed B.named
  have hlocks := B.notSynchronized
  have hS : va_S (ag_A z) st.heap st.heap [] := va_S.rf
  obtain ⟨ls, hls, hl⟩ : ∃ ls, entryFrame m args 3 = F0 m 0 ls [] ∧ lv_has ls 3 [(0, .ref (p 6 0)), (1, .int x1), (2, .int x2)] := by rw [ha]; exact ag_entry m [.ref (p 6 0), .int x1, .int x2] (Nat.le_of_ble_eq_true rfl)
  rw [hls]
  unfold f_X6_canPay at hf
  refine lv_aload_n hx hb dX6_canPay_0 rfl (lv_at hl 0 rfl) ?_
  refine g6_5 hx hb hT hown hG hW t6 q793 dX6_canPay_1 ?_
  have t35 := ag_fix hW (k := 6) (f := 5) (t := 35) t6 rfl rfl
  refine lv_aload_n hx hb dX6_canPay_4 rfl (lv_at hl 0 rfl) ?_
  refine g6_8 hx hb hT hown hG hW t6 q796 dX6_canPay_5 ?_
  have t38 := ag_fix hW (k := 6) (f := 8) (t := 38) t6 rfl rfl
  refine lv_iload_n hx hb dX6_canPay_8 rfl (lv_at hl 1 rfl) ?_
  obtain ⟨a9, hf⟩ := ag_n hf
  refine ag_iald hx hb hG hW t38 rfl rfl a9 dX6_canPay_9 ?_
  obtain ⟨a10, hf⟩ := ag_n hf
  refine ag_iald hx hb hG hW t35 rfl rfl a10 dX6_canPay_10 ?_
  refine lv_iload_n hx hb dX6_canPay_11 rfl (lv_at hl 2 rfl) ?_
  refine lv_iadd hx hb dX6_canPay_12 ?_
  refine lv_aload_n hx hb dX6_canPay_13 rfl (lv_at hl 0 rfl) ?_
  refine g6_4 hx hb hT hown hG hW t6 q792 dX6_canPay_14 ?_
  have t34 := ag_fix hW (k := 6) (f := 4) (t := 34) t6 rfl rfl
  refine lv_aload_n hx hb dX6_canPay_17 rfl (lv_at hl 0 rfl) ?_
  refine g6_8 hx hb hT hown hG hW t6 q796 dX6_canPay_18 ?_
  have t38 := ag_fix hW (k := 6) (f := 8) (t := 38) t6 rfl rfl
  refine lv_iload_n hx hb dX6_canPay_21 rfl (lv_at hl 1 rfl) ?_
  obtain ⟨a22, hf⟩ := ag_n hf
  refine ag_iald hx hb hG hW t38 rfl rfl a22 dX6_canPay_22 ?_
  obtain ⟨a23, hf⟩ := ag_n hf
  refine ag_iald hx hb hG hW t34 rfl rfl a23 dX6_canPay_23 ?_
  refine lv_icmp_gt (tgt := 31) hx hb dX6_canPay_24 (by decide) (fun c24 => ?_) (fun c24 => ?_)
  · have hf := ag_t c24 hf
    refine lv_iconst (v := 0) hx hb dX6_canPay_31 (by decide) ?_
    exact ag_iret hx hb hr rfl hlocks hS (Option.some.inj hf) hW dX6_canPay_32
  · have hf := ag_f c24 hf
    refine lv_iconst (v := 1) hx hb dX6_canPay_27 (by decide) ?_
    refine lv_goto (tgt := 32) hx hb dX6_canPay_28 (by decide) ?_
    exact ag_iret hx hb hr rfl hlocks hS (Option.some.inj hf) hW dX6_canPay_32
def f_X6_manyOn_L4 (fu : Nat) : Nat → Int32 → Int32 → Int32 → ag_S → Option Int32
  | 0, _, _, _, _ => none
  | nf + 1, x1, x2, x3, s => if s 6 13 0 ≤ x3 then (some x2) else (if x3 < 0 ∨ 40 ≤ x3.toNatClampNeg then none else if s 44 0 x3 = x1 then (f_X6_manyOn_L4 fu nf x1 (x2 + 1) (x3 + 1) s) else (f_X6_manyOn_L4 fu nf x1 (x2 + 0) (x3 + 1) s))
def f_X6_manyOn (fu : Nat) (x1 : Int32) (s : ag_S) : Option Int32 := f_X6_manyOn_L4 fu fu x1 0 0 s
abbrev rm_X6_manyOn : Room := { frames := 0, cells := 0, slots := 0, locals := 0 }
theorem dd_yX6_manyOn : yX6_manyOn.cls = RX6 ∧ yX6_manyOn.cls ≠ "java/lang/invoke/MethodHandle" ∧ yX6_manyOn.cls ≠ "java/lang/invoke/VarHandle" ∧ (parseMethodDescriptor yX6_manyOn.desc).map (fun d => d.parameters.length) = some 1 := by decide +kernel
set_option maxHeartbeats 4000000 in
set_option maxRecDepth 100000 in
theorem c_X6_manyOn {z : ag_Z} {l : Launch} {n : ag_N} {p : ag_P} {s : ag_S} {fu : Nat} {x1 : Int32} {out : Int32} (t6 : vp_in 0 (n 6)) (hf : f_X6_manyOn fu x1 s = some out) : Met l yX6_manyOn (ag_ws yX6_manyOn cX6_manyOn 4 ((some FieldType.int))) rm_X6_manyOn (va_Pc [.ref (p 6 0), .int x1] (ag_Pre z n p s)) (ag_Ri z n p out s) 0 0 (ag_A z) := by
  refine Met.ofW (cc := cX6_manyOn) (maxL := 4) (ret := (some FieldType.int)) (by decide) rfl ?_
  intro p0 e st m args below meth c s9 B hml hv
  obtain ⟨ha, h0, hG, hW⟩ := hv
  have hx := B.exec
  have hb := B.bytes
  have hr := B.returns
  have hts := atoms_spec (ws := ag_ws yX6_manyOn cX6_manyOn 4 ((some FieldType.int))) B.pre
  have hT : ∀ w ∈ ag_tbl, w.before args st = true := fun w h => hts w (List.mem_cons_of_mem _ h)
  have hown : st.vm.findClass RX6 = some m.cls := findClass_of_methodNamed B.named
  have hlocks := B.notSynchronized
  have hS : va_S (ag_A z) st.heap st.heap [] := va_S.rf
  obtain ⟨ls, hls, hl⟩ : ∃ ls, entryFrame m args 4 = F0 m 0 ls [] ∧ lv_has ls 4 [(0, .ref (p 6 0)), (1, .int x1)] := by rw [ha]; exact ag_entry m [.ref (p 6 0), .int x1] (Nat.le_of_ble_eq_true rfl)
  rw [hls]
  have k4 : ∀ (nf : Nat) (x1 : Int32) (x2 : Int32) (x3 : Int32) (H : Heap) (locs : List Loc) (ls : Array Slot), ag_W z n p s H → va_S (ag_A z) st.heap H locs → lv_has ls 4 [(0, .ref (p 6 0)), (1, .int x1), (2, .int x2), (3, .int x3)] → f_X6_manyOn_L4 fu nf x1 x2 x3 s = some out → W p0 l e (headSpec (ag_ws yX6_manyOn cX6_manyOn 4 ((some FieldType.int))) rm_X6_manyOn).room st m args below meth c H locs 0 0 (MQ below (ag_Ri z n p out s) args st 0 0 (ag_A z)) (F0 m 4 ls []) := by
    intro nf
    induction nf with
    | zero => intro x1 x2 x3 H locs ls hW hS hl hf; rw [f_X6_manyOn_L4] at hf; cases hf
    | succ nf ih =>
      intro x1 x2 x3 H locs ls hW hS hl hf
      rw [f_X6_manyOn_L4] at hf
      refine lv_iload_n hx hb dX6_manyOn_4 rfl (lv_at hl 3 rfl) ?_
      refine lv_aload_n hx hb dX6_manyOn_5 rfl (lv_at hl 0 rfl) ?_
      refine g6_13 hx hb hT hown hG hW t6 q801 dX6_manyOn_6 ?_
      refine lv_icmp_ge (tgt := 36) hx hb dX6_manyOn_9 (by decide) (fun c9 => ?_) (fun c9 => ?_)
      · have hf := ag_t c9 hf
        refine lv_iload_n hx hb dX6_manyOn_36 rfl (lv_at hl 2 rfl) ?_
        exact ag_iret hx hb hr rfl hlocks hS (Option.some.inj hf) hW dX6_manyOn_37
      · have hf := ag_f c9 hf
        refine lv_iload_n hx hb dX6_manyOn_12 rfl (lv_at hl 2 rfl) ?_
        refine lv_aload_n hx hb dX6_manyOn_13 rfl (lv_at hl 0 rfl) ?_
        refine g6_14 hx hb hT hown hG hW t6 q802 dX6_manyOn_14 ?_
        have t44 := ag_fix hW (k := 6) (f := 14) (t := 44) t6 rfl rfl
        refine lv_iload_n hx hb dX6_manyOn_17 rfl (lv_at hl 3 rfl) ?_
        obtain ⟨a18, hf⟩ := ag_n hf
        refine ag_iald hx hb hG hW t44 rfl rfl a18 dX6_manyOn_18 ?_
        refine lv_iload_n hx hb dX6_manyOn_19 rfl (lv_at hl 1 rfl) ?_
        refine lv_icmp_ne (tgt := 27) hx hb dX6_manyOn_20 (by decide) (fun c20 => ?_) (fun c20 => ?_)
        · have hf := ag_f c20 hf
          refine lv_iconst (v := 0) hx hb dX6_manyOn_27 (by decide) ?_
          refine lv_iadd hx hb dX6_manyOn_28 ?_
          refine lv_istore_n (lv' := [(2, .int (x2 + 0)), (0, .ref (p 6 0)), (1, .int x1), (3, .int x3)]) hx hb dX6_manyOn_29 rfl hl (by decide) rfl (fun ls hl => ?_)
          refine lv_iinc (v := x3 + 1) (lv' := [(3, .int (x3 + 1)), (2, .int (x2 + 0)), (0, .ref (p 6 0)), (1, .int x1)]) hx hb dX6_manyOn_30 hl (k := 3) rfl rfl (by decide) rfl (fun ls hl => ?_)
          refine lv_goto (tgt := 4) hx hb dX6_manyOn_33 (by decide) ?_
          exact ih _ _ _ _ _ _ hW hS (lv_sub hl [2, 3, 1, 0] rfl) hf
        · have hf := ag_t c20 hf
          refine lv_iconst (v := 1) hx hb dX6_manyOn_23 (by decide) ?_
          refine lv_goto (tgt := 28) hx hb dX6_manyOn_24 (by decide) ?_
          refine lv_iadd hx hb dX6_manyOn_28 ?_
          refine lv_istore_n (lv' := [(2, .int (x2 + 1)), (0, .ref (p 6 0)), (1, .int x1), (3, .int x3)]) hx hb dX6_manyOn_29 rfl hl (by decide) rfl (fun ls hl => ?_)
          refine lv_iinc (v := x3 + 1) (lv' := [(3, .int (x3 + 1)), (2, .int (x2 + 1)), (0, .ref (p 6 0)), (1, .int x1)]) hx hb dX6_manyOn_30 hl (k := 3) rfl rfl (by decide) rfl (fun ls hl => ?_)
          refine lv_goto (tgt := 4) hx hb dX6_manyOn_33 (by decide) ?_
          exact ih _ _ _ _ _ _ hW hS (lv_sub hl [2, 3, 1, 0] rfl) hf
  unfold f_X6_manyOn at hf
  refine lv_iconst (v := 0) hx hb dX6_manyOn_0 (by decide) ?_
  refine lv_istore_n (lv' := [(2, .int 0), (0, .ref (p 6 0)), (1, .int x1)]) hx hb dX6_manyOn_1 rfl hl (by decide) rfl (fun ls hl => ?_)
  refine lv_iconst (v := 0) hx hb dX6_manyOn_2 (by decide) ?_
  refine lv_istore_n (lv' := [(3, .int 0), (2, .int 0), (0, .ref (p 6 0)), (1, .int x1)]) hx hb dX6_manyOn_3 rfl hl (by decide) rfl (fun ls hl => ?_)
  exact k4 fu _ _ _ _ _ _ hW hS (lv_sub hl [2, 3, 1, 0] rfl) hf
def f_X6_isFree_L19 (fu : Nat) : Nat → Int32 → Int32 → Int32 → ag_S → Option Int32
  | 0, _, _, _, _ => none
  | nf + 1, x1, x2, x3, s => if s 6 13 0 ≤ x3 then (some x2) else (if x2 = 0 then (f_X6_isFree_L19 fu nf x1 0 (x3 + 1) s) else (if x3 < 0 ∨ 40 ≤ x3.toNatClampNeg then none else if s 44 0 x3 = x1 then (if x3 < 0 ∨ 40 ≤ x3.toNatClampNeg then none else if s 47 0 x3 = 0 then (f_X6_isFree_L19 fu nf x1 0 (x3 + 1) s) else (f_X6_isFree_L19 fu nf x1 1 (x3 + 1) s)) else (f_X6_isFree_L19 fu nf x1 1 (x3 + 1) s)))
def f_X6_isFree (fu : Nat) (x1 : Int32) (s : ag_S) : Option Int32 := if x1 < 0 ∨ 40 ≤ x1.toNatClampNeg then none else if s 47 0 x1 = 0 then (f_X6_isFree_L19 fu fu x1 1 (x1 + 1) s) else (f_X6_isFree_L19 fu fu x1 0 (x1 + 1) s)
abbrev rm_X6_isFree : Room := { frames := 0, cells := 0, slots := 0, locals := 0 }
theorem dd_yX6_isFree : yX6_isFree.cls = RX6 ∧ yX6_isFree.cls ≠ "java/lang/invoke/MethodHandle" ∧ yX6_isFree.cls ≠ "java/lang/invoke/VarHandle" ∧ (parseMethodDescriptor yX6_isFree.desc).map (fun d => d.parameters.length) = some 1 := by decide +kernel
set_option maxHeartbeats 4000000 in
set_option maxRecDepth 100000 in
theorem c_X6_isFree {z : ag_Z} {l : Launch} {n : ag_N} {p : ag_P} {s : ag_S} {fu : Nat} {x1 : Int32} {out : Int32} (t6 : vp_in 0 (n 6)) (hf : f_X6_isFree fu x1 s = some out) : Met l yX6_isFree (ag_ws yX6_isFree cX6_isFree 4 ((some FieldType.boolean))) rm_X6_isFree (va_Pc [.ref (p 6 0), .int x1] (ag_Pre z n p s)) (ag_Ri z n p out s) 0 0 (ag_A z) := by
  refine Met.ofW (cc := cX6_isFree) (maxL := 4) (ret := (some FieldType.boolean)) (by decide) rfl ?_
  intro p0 e st m args below meth c s9 B hml hv
  obtain ⟨ha, h0, hG, hW⟩ := hv
  have hx := B.exec
  have hb := B.bytes
  have hr := B.returns
  have hts := atoms_spec (ws := ag_ws yX6_isFree cX6_isFree 4 ((some FieldType.boolean))) B.pre
  have hT : ∀ w ∈ ag_tbl, w.before args st = true := fun w h => hts w (List.mem_cons_of_mem _ h)
  have hown : st.vm.findClass RX6 = some m.cls := findClass_of_methodNamed B.named
  have hlocks := B.notSynchronized
  have hS : va_S (ag_A z) st.heap st.heap [] := va_S.rf
  obtain ⟨ls, hls, hl⟩ : ∃ ls, entryFrame m args 4 = F0 m 0 ls [] ∧ lv_has ls 4 [(0, .ref (p 6 0)), (1, .int x1)] := by rw [ha]; exact ag_entry m [.ref (p 6 0), .int x1] (Nat.le_of_ble_eq_true rfl)
  rw [hls]
  have k19 : ∀ (nf : Nat) (x1 : Int32) (x2 : Int32) (x3 : Int32) (H : Heap) (locs : List Loc) (ls : Array Slot) (bx2 : x2 = 0 ∨ x2 = 1), ag_W z n p s H → va_S (ag_A z) st.heap H locs → lv_has ls 4 [(0, .ref (p 6 0)), (1, .int x1), (2, .int x2), (3, .int x3)] → f_X6_isFree_L19 fu nf x1 x2 x3 s = some out → W p0 l e (headSpec (ag_ws yX6_isFree cX6_isFree 4 ((some FieldType.boolean))) rm_X6_isFree).room st m args below meth c H locs 0 0 (MQ below (ag_Ri z n p out s) args st 0 0 (ag_A z)) (F0 m 19 ls []) := by
    intro nf
    induction nf with
    | zero => intro x1 x2 x3 H locs ls bx2 hW hS hl hf; rw [f_X6_isFree_L19] at hf; cases hf
    | succ nf ih =>
      intro x1 x2 x3 H locs ls bx2 hW hS hl hf
      rw [f_X6_isFree_L19] at hf
      refine lv_iload_n hx hb dX6_isFree_19 rfl (lv_at hl 3 rfl) ?_
      refine lv_aload_n hx hb dX6_isFree_20 rfl (lv_at hl 0 rfl) ?_
      refine g6_13 hx hb hT hown hG hW t6 q801 dX6_isFree_21 ?_
      refine lv_icmp_ge (tgt := 62) hx hb dX6_isFree_24 (by decide) (fun c24 => ?_) (fun c24 => ?_)
      · have hf := ag_t c24 hf
        refine lv_iload_n hx hb dX6_isFree_62 rfl (lv_at hl 2 rfl) ?_
        exact ag_iret hx hb hr (ag_nb bx2).1 hlocks hS (Option.some.inj hf) hW dX6_isFree_63
      · have hf := ag_f c24 hf
        refine lv_iload_n hx hb dX6_isFree_27 rfl (lv_at hl 2 rfl) ?_
        refine lv_if_eq (tgt := 54) hx hb dX6_isFree_28 (by decide) (fun c28 => ?_) (fun c28 => ?_)
        · have hf := ag_t c28 hf
          refine lv_iconst (v := 0) hx hb dX6_isFree_54 (by decide) ?_
          refine lv_istore_n (lv' := [(2, .int 0), (0, .ref (p 6 0)), (1, .int x1), (3, .int x3)]) hx hb dX6_isFree_55 rfl hl (by decide) rfl (fun ls hl => ?_)
          refine lv_iinc (v := x3 + 1) (lv' := [(3, .int (x3 + 1)), (2, .int 0), (0, .ref (p 6 0)), (1, .int x1)]) hx hb dX6_isFree_56 hl (k := 3) rfl rfl (by decide) rfl (fun ls hl => ?_)
          refine lv_goto (tgt := 19) hx hb dX6_isFree_59 (by decide) ?_
          exact ih _ _ _ _ _ _ (Or.inl rfl) hW hS (lv_sub hl [2, 3, 1, 0] rfl) hf
        · have hf := ag_f c28 hf
          refine lv_aload_n hx hb dX6_isFree_31 rfl (lv_at hl 0 rfl) ?_
          refine g6_14 hx hb hT hown hG hW t6 q802 dX6_isFree_32 ?_
          have t44 := ag_fix hW (k := 6) (f := 14) (t := 44) t6 rfl rfl
          refine lv_iload_n hx hb dX6_isFree_35 rfl (lv_at hl 3 rfl) ?_
          obtain ⟨a36, hf⟩ := ag_n hf
          refine ag_iald hx hb hG hW t44 rfl rfl a36 dX6_isFree_36 ?_
          refine lv_iload_n hx hb dX6_isFree_37 rfl (lv_at hl 1 rfl) ?_
          refine lv_icmp_ne (tgt := 50) hx hb dX6_isFree_38 (by decide) (fun c38 => ?_) (fun c38 => ?_)
          · have hf := ag_f c38 hf
            refine lv_iconst (v := 1) hx hb dX6_isFree_50 (by decide) ?_
            refine lv_goto (tgt := 55) hx hb dX6_isFree_51 (by decide) ?_
            refine lv_istore_n (lv' := [(2, .int 1), (0, .ref (p 6 0)), (1, .int x1), (3, .int x3)]) hx hb dX6_isFree_55 rfl hl (by decide) rfl (fun ls hl => ?_)
            refine lv_iinc (v := x3 + 1) (lv' := [(3, .int (x3 + 1)), (2, .int 1), (0, .ref (p 6 0)), (1, .int x1)]) hx hb dX6_isFree_56 hl (k := 3) rfl rfl (by decide) rfl (fun ls hl => ?_)
            refine lv_goto (tgt := 19) hx hb dX6_isFree_59 (by decide) ?_
            exact ih _ _ _ _ _ _ (Or.inr rfl) hW hS (lv_sub hl [2, 3, 1, 0] rfl) hf
          · have hf := ag_t c38 hf
            refine lv_aload_n hx hb dX6_isFree_41 rfl (lv_at hl 0 rfl) ?_
            refine g6_17 hx hb hT hown hG hW t6 q805 dX6_isFree_42 ?_
            have t47 := ag_fix hW (k := 6) (f := 17) (t := 47) t6 rfl rfl
            refine lv_iload_n hx hb dX6_isFree_45 rfl (lv_at hl 3 rfl) ?_
            obtain ⟨a46, hf⟩ := ag_n hf
            refine ag_iald hx hb hG hW t47 rfl rfl a46 dX6_isFree_46 ?_
            refine lv_if_eq (tgt := 54) hx hb dX6_isFree_47 (by decide) (fun c47 => ?_) (fun c47 => ?_)
            · have hf := ag_t c47 hf
              refine lv_iconst (v := 0) hx hb dX6_isFree_54 (by decide) ?_
              refine lv_istore_n (lv' := [(2, .int 0), (0, .ref (p 6 0)), (1, .int x1), (3, .int x3)]) hx hb dX6_isFree_55 rfl hl (by decide) rfl (fun ls hl => ?_)
              refine lv_iinc (v := x3 + 1) (lv' := [(3, .int (x3 + 1)), (2, .int 0), (0, .ref (p 6 0)), (1, .int x1)]) hx hb dX6_isFree_56 hl (k := 3) rfl rfl (by decide) rfl (fun ls hl => ?_)
              refine lv_goto (tgt := 19) hx hb dX6_isFree_59 (by decide) ?_
              exact ih _ _ _ _ _ _ (Or.inl rfl) hW hS (lv_sub hl [2, 3, 1, 0] rfl) hf
            · have hf := ag_f c47 hf
              refine lv_iconst (v := 1) hx hb dX6_isFree_50 (by decide) ?_
              refine lv_goto (tgt := 55) hx hb dX6_isFree_51 (by decide) ?_
              refine lv_istore_n (lv' := [(2, .int 1), (0, .ref (p 6 0)), (1, .int x1), (3, .int x3)]) hx hb dX6_isFree_55 rfl hl (by decide) rfl (fun ls hl => ?_)
              refine lv_iinc (v := x3 + 1) (lv' := [(3, .int (x3 + 1)), (2, .int 1), (0, .ref (p 6 0)), (1, .int x1)]) hx hb dX6_isFree_56 hl (k := 3) rfl rfl (by decide) rfl (fun ls hl => ?_)
              refine lv_goto (tgt := 19) hx hb dX6_isFree_59 (by decide) ?_
              exact ih _ _ _ _ _ _ (Or.inr rfl) hW hS (lv_sub hl [2, 3, 1, 0] rfl) hf
  unfold f_X6_isFree at hf
  refine lv_aload_n hx hb dX6_isFree_0 rfl (lv_at hl 0 rfl) ?_
  refine g6_17 hx hb hT hown hG hW t6 q805 dX6_isFree_1 ?_
  have t47 := ag_fix hW (k := 6) (f := 17) (t := 47) t6 rfl rfl
  refine lv_iload_n hx hb dX6_isFree_4 rfl (lv_at hl 1 rfl) ?_
  obtain ⟨a5, hf⟩ := ag_n hf
  refine ag_iald hx hb hG hW t47 rfl rfl a5 dX6_isFree_5 ?_
  refine lv_if_ne (tgt := 13) hx hb dX6_isFree_6 (by decide) (fun c6 => ?_) (fun c6 => ?_)
  · have hf := ag_f c6 hf
    refine lv_iconst (v := 0) hx hb dX6_isFree_13 (by decide) ?_
    refine lv_istore_n (lv' := [(2, .int 0), (0, .ref (p 6 0)), (1, .int x1)]) hx hb dX6_isFree_14 rfl hl (by decide) rfl (fun ls hl => ?_)
    refine lv_iload_n hx hb dX6_isFree_15 rfl (lv_at hl 2 rfl) ?_
    refine lv_iconst (v := 1) hx hb dX6_isFree_16 (by decide) ?_
    refine lv_iadd hx hb dX6_isFree_17 ?_
    refine lv_istore_n (lv' := [(3, .int (x1 + 1)), (2, .int 0), (0, .ref (p 6 0)), (1, .int x1)]) hx hb dX6_isFree_18 rfl hl (by decide) rfl (fun ls hl => ?_)
    exact k19 fu _ _ _ _ _ _ (Or.inl rfl) hW hS (lv_sub hl [2, 3, 1, 0] rfl) hf
  · have hf := ag_t c6 hf
    refine lv_iconst (v := 1) hx hb dX6_isFree_9 (by decide) ?_
    refine lv_goto (tgt := 14) hx hb dX6_isFree_10 (by decide) ?_
    refine lv_istore_n (lv' := [(2, .int 1), (0, .ref (p 6 0)), (1, .int x1)]) hx hb dX6_isFree_14 rfl hl (by decide) rfl (fun ls hl => ?_)
    refine lv_iload_n hx hb dX6_isFree_15 rfl (lv_at hl 2 rfl) ?_
    refine lv_iconst (v := 1) hx hb dX6_isFree_16 (by decide) ?_
    refine lv_iadd hx hb dX6_isFree_17 ?_
    refine lv_istore_n (lv' := [(3, .int (x1 + 1)), (2, .int 1), (0, .ref (p 6 0)), (1, .int x1)]) hx hb dX6_isFree_18 rfl hl (by decide) rfl (fun ls hl => ?_)
    exact k19 fu _ _ _ _ _ _ (Or.inr rfl) hW hS (lv_sub hl [2, 3, 1, 0] rfl) hf
def f_X6_bring_L27 (fu : Nat) (rc7 : Int32 → ag_S → Option ag_S) : Nat → Int32 → Int32 → ag_S → Option ag_S
  | 0, _, _, _ => none
  | nf + 1, x1, x2, s => if s 6 13 0 ≤ x2 then (rc7 (x1 + (-1)) s) else (if x1 < 0 ∨ 40 ≤ x1.toNatClampNeg then none else if x2 < 0 ∨ 40 ≤ x2.toNatClampNeg then none else if s 44 0 x2 = x1 then (if x2 < 0 ∨ 40 ≤ x2.toNatClampNeg then none else if s 47 0 x2 = 1 then (if x2 < 0 ∨ 40 ≤ x2.toNatClampNeg then none else if x1 < 0 ∨ 40 ≤ x1.toNatClampNeg then none else f_X6_bring_L27 fu rc7 nf x1 (x2 + 1) (ag_up s 59 0 x1 ((s 59 0 x1) + (s 59 0 x2)))) else (if x1 < 0 ∨ 40 ≤ x1.toNatClampNeg then none else f_X6_bring_L27 fu rc7 nf x1 (x2 + 1) (ag_up s 59 0 x1 ((s 59 0 x1) + 0)))) else (if x1 < 0 ∨ 40 ≤ x1.toNatClampNeg then none else f_X6_bring_L27 fu rc7 nf x1 (x2 + 1) (ag_up s 59 0 x1 ((s 59 0 x1) + 0))))
def f_X6_bring_L7 (fu : Nat) : Nat → Int32 → ag_S → Option ag_S
  | 0, _, _ => none
  | nf + 1, x1, s => if x1 < 0 then (some s) else (if x1 < 0 ∨ 40 ≤ x1.toNatClampNeg then none else if x1 < 0 ∨ 40 ≤ x1.toNatClampNeg then none else f_X6_bring_L27 fu (f_X6_bring_L7 fu nf) fu x1 (x1 + 1) (ag_up s 59 0 x1 (s 46 0 x1)))
def f_X6_bring (fu : Nat) (s : ag_S) : Option ag_S := f_X6_bring_L7 fu fu ((s 6 13 0) - 1) s
abbrev rm_X6_bring : Room := { frames := 0, cells := 0, slots := 0, locals := 0 }
theorem dd_yX6_bring : yX6_bring.cls = RX6 ∧ yX6_bring.cls ≠ "java/lang/invoke/MethodHandle" ∧ yX6_bring.cls ≠ "java/lang/invoke/VarHandle" ∧ (parseMethodDescriptor yX6_bring.desc).map (fun d => d.parameters.length) = some 0 := by decide +kernel
set_option maxHeartbeats 4000000 in
set_option maxRecDepth 100000 in
theorem c_X6_bring {z : ag_Z} {l : Launch} {n : ag_N} {p : ag_P} {s : ag_S} {fu : Nat} {out : ag_S} (t6 : vp_in 0 (n 6)) (hf : f_X6_bring fu  s = some out) : Met l yX6_bring (ag_ws yX6_bring cX6_bring 3 ((none))) rm_X6_bring (va_Pc [.ref (p 6 0)] (ag_Pre z n p s)) (ag_Rv z n p out) 0 0 (ag_A z) := by
  refine Met.ofW (cc := cX6_bring) (maxL := 3) (ret := (none)) (by decide) rfl ?_
  intro p0 e st m args below meth c s9 B hml hv
  obtain ⟨ha, h0, hG, hW⟩ := hv
  have hx := B.exec
  have hb := B.bytes
  have hr := B.returns
  have hts := atoms_spec (ws := ag_ws yX6_bring cX6_bring 3 ((none))) B.pre
  have hT : ∀ w ∈ ag_tbl, w.before args st = true := fun w h => hts w (List.mem_cons_of_mem _ h)
  have hown : st.vm.findClass RX6 = some m.cls := findClass_of_methodNamed B.named
  have hlocks := B.notSynchronized
  have hS : va_S (ag_A z) st.heap st.heap [] := va_S.rf
  obtain ⟨ls, hls, hl⟩ : ∃ ls, entryFrame m args 3 = F0 m 0 ls [] ∧ lv_has ls 3 [(0, .ref (p 6 0))] := by rw [ha]; exact ag_entry m [.ref (p 6 0)] (Nat.le_of_ble_eq_true rfl)
  rw [hls]
  have k27 : ∀ (rc7 : Int32 → ag_S → Option ag_S) (hrc7 : ∀ (x1 : Int32) (s : ag_S) (H : Heap) (locs : List Loc) (ls : Array Slot), ag_W z n p s H → va_S (ag_A z) st.heap H locs → lv_has ls 3 [(0, .ref (p 6 0)), (1, .int x1)] → rc7 x1 s = some out → W p0 l e (headSpec (ag_ws yX6_bring cX6_bring 3 ((none))) rm_X6_bring).room st m args below meth c H locs 0 0 (MQ below (ag_Rv z n p out) args st 0 0 (ag_A z)) (F0 m 7 ls [])) (nf : Nat) (x1 : Int32) (x2 : Int32) (s : ag_S) (H : Heap) (locs : List Loc) (ls : Array Slot), ag_W z n p s H → va_S (ag_A z) st.heap H locs → lv_has ls 3 [(0, .ref (p 6 0)), (1, .int x1), (2, .int x2)] → f_X6_bring_L27 fu rc7 nf x1 x2 s = some out → W p0 l e (headSpec (ag_ws yX6_bring cX6_bring 3 ((none))) rm_X6_bring).room st m args below meth c H locs 0 0 (MQ below (ag_Rv z n p out) args st 0 0 (ag_A z)) (F0 m 27 ls []) := by
    intro rc7 hrc7 nf
    induction nf with
    | zero => intro x1 x2 s H locs ls hW hS hl hf; rw [f_X6_bring_L27] at hf; cases hf
    | succ nf ih =>
      intro x1 x2 s H locs ls hW hS hl hf
      rw [f_X6_bring_L27] at hf
      refine lv_iload_n hx hb dX6_bring_27 rfl (lv_at hl 2 rfl) ?_
      refine lv_aload_n hx hb dX6_bring_28 rfl (lv_at hl 0 rfl) ?_
      refine g6_13 hx hb hT hown hG hW t6 q801 dX6_bring_29 ?_
      refine lv_icmp_ge (tgt := 80) hx hb dX6_bring_32 (by decide) (fun c32 => ?_) (fun c32 => ?_)
      · have hf := ag_t c32 hf
        refine lv_iinc (v := x1 + (-1)) (lv' := [(1, .int (x1 + (-1))), (0, .ref (p 6 0)), (2, .int x2)]) hx hb dX6_bring_80 hl (k := 1) rfl rfl (by decide) rfl (fun ls hl => ?_)
        refine lv_goto (tgt := 7) hx hb dX6_bring_83 (by decide) ?_
        exact hrc7 _ _ _ _ _ hW hS (lv_sub hl [1, 0] rfl) hf
      · have hf := ag_f c32 hf
        refine lv_aload_n hx hb dX6_bring_35 rfl (lv_at hl 0 rfl) ?_
        refine g6_29 hx hb hT hown hG hW t6 q817 dX6_bring_36 ?_
        have t59 := ag_fix hW (k := 6) (f := 29) (t := 59) t6 rfl rfl
        refine lv_iload_n hx hb dX6_bring_39 rfl (lv_at hl 1 rfl) ?_
        refine lv_dup2_11 hx hb dX6_bring_40 rfl rfl ?_
        obtain ⟨a41, hf⟩ := ag_n hf
        refine ag_iald hx hb hG hW t59 rfl rfl a41 dX6_bring_41 ?_
        refine lv_aload_n hx hb dX6_bring_42 rfl (lv_at hl 0 rfl) ?_
        refine g6_14 hx hb hT hown hG hW t6 q802 dX6_bring_43 ?_
        have t44 := ag_fix hW (k := 6) (f := 14) (t := 44) t6 rfl rfl
        refine lv_iload_n hx hb dX6_bring_46 rfl (lv_at hl 2 rfl) ?_
        obtain ⟨a47, hf⟩ := ag_n hf
        refine ag_iald hx hb hG hW t44 rfl rfl a47 dX6_bring_47 ?_
        refine lv_iload_n hx hb dX6_bring_48 rfl (lv_at hl 1 rfl) ?_
        refine lv_icmp_ne (tgt := 71) hx hb dX6_bring_49 (by decide) (fun c49 => ?_) (fun c49 => ?_)
        · have hf := ag_f c49 hf
          refine lv_iconst (v := 0) hx hb dX6_bring_71 (by decide) ?_
          refine lv_iadd hx hb dX6_bring_72 ?_
          obtain ⟨a73, hf⟩ := ag_n hf
          refine ag_iast hx hb hG hW hS t59 rfl rfl (by decide) a73 dX6_bring_73 (fun H locs hW hS => ?_)
          refine lv_iinc (v := x2 + 1) (lv' := [(2, .int (x2 + 1)), (0, .ref (p 6 0)), (1, .int x1)]) hx hb dX6_bring_74 hl (k := 2) rfl rfl (by decide) rfl (fun ls hl => ?_)
          refine lv_goto (tgt := 27) hx hb dX6_bring_77 (by decide) ?_
          exact ih _ _ _ _ _ _ hW hS (lv_sub hl [1, 2, 0] rfl) hf
        · have hf := ag_t c49 hf
          refine lv_aload_n hx hb dX6_bring_52 rfl (lv_at hl 0 rfl) ?_
          refine g6_17 hx hb hT hown hG hW t6 q805 dX6_bring_53 ?_
          have t47 := ag_fix hW (k := 6) (f := 17) (t := 47) t6 rfl rfl
          refine lv_iload_n hx hb dX6_bring_56 rfl (lv_at hl 2 rfl) ?_
          obtain ⟨a57, hf⟩ := ag_n hf
          refine ag_iald hx hb hG hW t47 rfl rfl a57 dX6_bring_57 ?_
          refine lv_iconst (v := 1) hx hb dX6_bring_58 (by decide) ?_
          refine lv_icmp_ne (tgt := 71) hx hb dX6_bring_59 (by decide) (fun c59 => ?_) (fun c59 => ?_)
          · have hf := ag_f c59 hf
            refine lv_iconst (v := 0) hx hb dX6_bring_71 (by decide) ?_
            refine lv_iadd hx hb dX6_bring_72 ?_
            obtain ⟨a73, hf⟩ := ag_n hf
            refine ag_iast hx hb hG hW hS t59 rfl rfl (by decide) a73 dX6_bring_73 (fun H locs hW hS => ?_)
            refine lv_iinc (v := x2 + 1) (lv' := [(2, .int (x2 + 1)), (0, .ref (p 6 0)), (1, .int x1)]) hx hb dX6_bring_74 hl (k := 2) rfl rfl (by decide) rfl (fun ls hl => ?_)
            refine lv_goto (tgt := 27) hx hb dX6_bring_77 (by decide) ?_
            exact ih _ _ _ _ _ _ hW hS (lv_sub hl [1, 2, 0] rfl) hf
          · have hf := ag_t c59 hf
            refine lv_aload_n hx hb dX6_bring_62 rfl (lv_at hl 0 rfl) ?_
            refine g6_29 hx hb hT hown hG hW t6 q817 dX6_bring_63 ?_
            have t59 := ag_fix hW (k := 6) (f := 29) (t := 59) t6 rfl rfl
            refine lv_iload_n hx hb dX6_bring_66 rfl (lv_at hl 2 rfl) ?_
            obtain ⟨a67, hf⟩ := ag_n hf
            refine ag_iald hx hb hG hW t59 rfl rfl a67 dX6_bring_67 ?_
            refine lv_goto (tgt := 72) hx hb dX6_bring_68 (by decide) ?_
            refine lv_iadd hx hb dX6_bring_72 ?_
            obtain ⟨a73, hf⟩ := ag_n hf
            refine ag_iast hx hb hG hW hS t59 rfl rfl (by decide) a73 dX6_bring_73 (fun H locs hW hS => ?_)
            refine lv_iinc (v := x2 + 1) (lv' := [(2, .int (x2 + 1)), (0, .ref (p 6 0)), (1, .int x1)]) hx hb dX6_bring_74 hl (k := 2) rfl rfl (by decide) rfl (fun ls hl => ?_)
            refine lv_goto (tgt := 27) hx hb dX6_bring_77 (by decide) ?_
            exact ih _ _ _ _ _ _ hW hS (lv_sub hl [1, 2, 0] rfl) hf
  have k7 : ∀ (nf : Nat) (x1 : Int32) (s : ag_S) (H : Heap) (locs : List Loc) (ls : Array Slot), ag_W z n p s H → va_S (ag_A z) st.heap H locs → lv_has ls 3 [(0, .ref (p 6 0)), (1, .int x1)] → f_X6_bring_L7 fu nf x1 s = some out → W p0 l e (headSpec (ag_ws yX6_bring cX6_bring 3 ((none))) rm_X6_bring).room st m args below meth c H locs 0 0 (MQ below (ag_Rv z n p out) args st 0 0 (ag_A z)) (F0 m 7 ls []) := by
    intro nf
    induction nf with
    | zero => intro x1 s H locs ls hW hS hl hf; rw [f_X6_bring_L7] at hf; cases hf
    | succ nf ih =>
      intro x1 s H locs ls hW hS hl hf
      rw [f_X6_bring_L7] at hf
      refine lv_iload_n hx hb dX6_bring_7 rfl (lv_at hl 1 rfl) ?_
      refine lv_if_lt (tgt := 86) hx hb dX6_bring_8 (by decide) (fun c8 => ?_) (fun c8 => ?_)
      · have hf := ag_t c8 hf
        exact ag_vret hx hb hr hlocks hS (Option.some.inj hf ▸ hW) dX6_bring_86
      · have hf := ag_f c8 hf
        refine lv_aload_n hx hb dX6_bring_11 rfl (lv_at hl 0 rfl) ?_
        refine g6_29 hx hb hT hown hG hW t6 q817 dX6_bring_12 ?_
        have t59 := ag_fix hW (k := 6) (f := 29) (t := 59) t6 rfl rfl
        refine lv_iload_n hx hb dX6_bring_15 rfl (lv_at hl 1 rfl) ?_
        refine lv_aload_n hx hb dX6_bring_16 rfl (lv_at hl 0 rfl) ?_
        refine g6_16 hx hb hT hown hG hW t6 q804 dX6_bring_17 ?_
        have t46 := ag_fix hW (k := 6) (f := 16) (t := 46) t6 rfl rfl
        refine lv_iload_n hx hb dX6_bring_20 rfl (lv_at hl 1 rfl) ?_
        obtain ⟨a21, hf⟩ := ag_n hf
        refine ag_iald hx hb hG hW t46 rfl rfl a21 dX6_bring_21 ?_
        obtain ⟨a22, hf⟩ := ag_n hf
        refine ag_iast hx hb hG hW hS t59 rfl rfl (by decide) a22 dX6_bring_22 (fun H locs hW hS => ?_)
        refine lv_iload_n hx hb dX6_bring_23 rfl (lv_at hl 1 rfl) ?_
        refine lv_iconst (v := 1) hx hb dX6_bring_24 (by decide) ?_
        refine lv_iadd hx hb dX6_bring_25 ?_
        refine lv_istore_n (lv' := [(2, .int (x1 + 1)), (0, .ref (p 6 0)), (1, .int x1)]) hx hb dX6_bring_26 rfl hl (by decide) rfl (fun ls hl => ?_)
        exact k27 (f_X6_bring_L7 fu nf) ih fu _ _ _ _ _ _ hW hS (lv_sub hl [1, 2, 0] rfl) hf
  unfold f_X6_bring at hf
  refine lv_aload_n hx hb dX6_bring_0 rfl (lv_at hl 0 rfl) ?_
  refine g6_13 hx hb hT hown hG hW t6 q801 dX6_bring_1 ?_
  refine lv_iconst (v := 1) hx hb dX6_bring_4 (by decide) ?_
  refine lv_isub hx hb dX6_bring_5 ?_
  refine lv_istore_n (lv' := [(1, .int ((s 6 13 0) - 1)), (0, .ref (p 6 0))]) hx hb dX6_bring_6 rfl hl (by decide) rfl (fun ls hl => ?_)
  exact k7 fu _ _ _ _ _ hW hS (lv_sub hl [1, 0] rfl) hf
def f_X6_stands_L27 (fu : Nat) : Nat → Int32 → Int32 → Int32 → ag_S → Option (Int32 × ag_S)
  | 0, _, _, _, _ => none
  | nf + 1, x1, x2, x3, s => if s 6 13 0 ≤ x3 then (some (x2, s)) else (if x3 < 0 ∨ 40 ≤ x3.toNatClampNeg then none else if s 44 0 x3 = (-1) then (if x3 < 0 ∨ 40 ≤ x3.toNatClampNeg then none else if s 45 0 x3 = x1 then (if x3 < 0 ∨ 40 ≤ x3.toNatClampNeg then none else if s 47 0 x3 = 1 then (if x3 < 0 ∨ 40 ≤ x3.toNatClampNeg then none else f_X6_stands_L27 fu nf x1 (x2 + (s 59 0 x3)) (x3 + 1) s) else (f_X6_stands_L27 fu nf x1 (x2 + 0) (x3 + 1) s)) else (f_X6_stands_L27 fu nf x1 (x2 + 0) (x3 + 1) s)) else (f_X6_stands_L27 fu nf x1 (x2 + 0) (x3 + 1) s))
def f_X6_stands (fu : Nat) (x1 : Int32) (s : ag_S) : Option (Int32 × ag_S) := ag_bd (f_X6_bring fu s) fun r1 => if x1 < 0 ∨ 10 ≤ x1.toNatClampNeg then none else if x1 < 0 ∨ 10 ≤ x1.toNatClampNeg then none else if x1 < 0 ∨ 10 ≤ x1.toNatClampNeg then none else f_X6_stands_L27 fu fu x1 (((r1 39 0 x1) - (r1 40 0 x1)) + (r1 41 0 x1)) 0 r1
abbrev rm_X6_stands : Room := { frames := 1, cells := 0, slots := 0, locals := 22 }
theorem dd_yX6_stands : yX6_stands.cls = RX6 ∧ yX6_stands.cls ≠ "java/lang/invoke/MethodHandle" ∧ yX6_stands.cls ≠ "java/lang/invoke/VarHandle" ∧ (parseMethodDescriptor yX6_stands.desc).map (fun d => d.parameters.length) = some 1 := by decide +kernel
set_option maxHeartbeats 4000000 in
set_option maxRecDepth 100000 in
theorem c_X6_stands {z : ag_Z} {l : Launch} {n : ag_N} {p : ag_P} {s : ag_S} {fu : Nat} {x1 : Int32} {out : Int32 × ag_S} (t6 : vp_in 0 (n 6)) (hf : f_X6_stands fu x1 s = some out) : Met l yX6_stands (ag_ws yX6_stands cX6_stands 4 ((some FieldType.int))) rm_X6_stands (va_Pc [.ref (p 6 0), .int x1] (ag_Pre z n p s)) (ag_Ri z n p out.1 out.2) 0 0 (ag_A z) := by
  refine Met.ofW (cc := cX6_stands) (maxL := 4) (ret := (some FieldType.int)) (by decide) rfl ?_
  intro p0 e st m args below meth c s9 B hml hv
  obtain ⟨ha, h0, hG, hW⟩ := hv
  have hx := B.exec
  have hb := B.bytes
  have hr := B.returns
  have hts := atoms_spec (ws := ag_ws yX6_stands cX6_stands 4 ((some FieldType.int))) B.pre
  have hT : ∀ w ∈ ag_tbl, w.before args st = true := fun w h => hts w (List.mem_cons_of_mem _ h)
  have hown : st.vm.findClass RX6 = some m.cls := findClass_of_methodNamed B.named
  have hlocks := B.notSynchronized
  have hS : va_S (ag_A z) st.heap st.heap [] := va_S.rf
  obtain ⟨ls, hls, hl⟩ : ∃ ls, entryFrame m args 4 = F0 m 0 ls [] ∧ lv_has ls 4 [(0, .ref (p 6 0)), (1, .int x1)] := by rw [ha]; exact ag_entry m [.ref (p 6 0), .int x1] (Nat.le_of_ble_eq_true rfl)
  rw [hls]
  have k27 : ∀ (nf : Nat) (x1 : Int32) (x2 : Int32) (x3 : Int32) (s : ag_S) (H : Heap) (locs : List Loc) (ls : Array Slot), ag_W z n p s H → va_S (ag_A z) st.heap H locs → lv_has ls 4 [(0, .ref (p 6 0)), (1, .int x1), (2, .int x2), (3, .int x3)] → f_X6_stands_L27 fu nf x1 x2 x3 s = some out → W p0 l e (headSpec (ag_ws yX6_stands cX6_stands 4 ((some FieldType.int))) rm_X6_stands).room st m args below meth c H locs 0 0 (MQ below (ag_Ri z n p out.1 out.2) args st 0 0 (ag_A z)) (F0 m 27 ls []) := by
    intro nf
    induction nf with
    | zero => intro x1 x2 x3 s H locs ls hW hS hl hf; rw [f_X6_stands_L27] at hf; cases hf
    | succ nf ih =>
      intro x1 x2 x3 s H locs ls hW hS hl hf
      rw [f_X6_stands_L27] at hf
      refine lv_iload_n hx hb dX6_stands_27 rfl (lv_at hl 3 rfl) ?_
      refine lv_aload_n hx hb dX6_stands_28 rfl (lv_at hl 0 rfl) ?_
      refine g6_13 hx hb hT hown hG hW t6 q801 dX6_stands_29 ?_
      refine lv_icmp_ge (tgt := 84) hx hb dX6_stands_32 (by decide) (fun c32 => ?_) (fun c32 => ?_)
      · have hf := ag_t c32 hf
        refine lv_iload_n hx hb dX6_stands_84 rfl (lv_at hl 2 rfl) ?_
        exact ag_iret hx hb hr rfl hlocks hS (congrArg Prod.fst (Option.some.inj hf)) (congrArg Prod.snd (Option.some.inj hf) ▸ hW) dX6_stands_85
      · have hf := ag_f c32 hf
        refine lv_iload_n hx hb dX6_stands_35 rfl (lv_at hl 2 rfl) ?_
        refine lv_aload_n hx hb dX6_stands_36 rfl (lv_at hl 0 rfl) ?_
        refine g6_14 hx hb hT hown hG hW t6 q802 dX6_stands_37 ?_
        have t44 := ag_fix hW (k := 6) (f := 14) (t := 44) t6 rfl rfl
        refine lv_iload_n hx hb dX6_stands_40 rfl (lv_at hl 3 rfl) ?_
        obtain ⟨a41, hf⟩ := ag_n hf
        refine ag_iald hx hb hG hW t44 rfl rfl a41 dX6_stands_41 ?_
        refine lv_iconst (v := (-1)) hx hb dX6_stands_42 (by decide) ?_
        refine lv_icmp_ne (tgt := 75) hx hb dX6_stands_43 (by decide) (fun c43 => ?_) (fun c43 => ?_)
        · have hf := ag_f c43 hf
          refine lv_iconst (v := 0) hx hb dX6_stands_75 (by decide) ?_
          refine lv_iadd hx hb dX6_stands_76 ?_
          refine lv_istore_n (lv' := [(2, .int (x2 + 0)), (0, .ref (p 6 0)), (1, .int x1), (3, .int x3)]) hx hb dX6_stands_77 rfl hl (by decide) rfl (fun ls hl => ?_)
          refine lv_iinc (v := x3 + 1) (lv' := [(3, .int (x3 + 1)), (2, .int (x2 + 0)), (0, .ref (p 6 0)), (1, .int x1)]) hx hb dX6_stands_78 hl (k := 3) rfl rfl (by decide) rfl (fun ls hl => ?_)
          refine lv_goto (tgt := 27) hx hb dX6_stands_81 (by decide) ?_
          exact ih _ _ _ _ _ _ _ hW hS (lv_sub hl [2, 3, 1, 0] rfl) hf
        · have hf := ag_t c43 hf
          refine lv_aload_n hx hb dX6_stands_46 rfl (lv_at hl 0 rfl) ?_
          refine g6_15 hx hb hT hown hG hW t6 q803 dX6_stands_47 ?_
          have t45 := ag_fix hW (k := 6) (f := 15) (t := 45) t6 rfl rfl
          refine lv_iload_n hx hb dX6_stands_50 rfl (lv_at hl 3 rfl) ?_
          obtain ⟨a51, hf⟩ := ag_n hf
          refine ag_iald hx hb hG hW t45 rfl rfl a51 dX6_stands_51 ?_
          refine lv_iload_n hx hb dX6_stands_52 rfl (lv_at hl 1 rfl) ?_
          refine lv_icmp_ne (tgt := 75) hx hb dX6_stands_53 (by decide) (fun c53 => ?_) (fun c53 => ?_)
          · have hf := ag_f c53 hf
            refine lv_iconst (v := 0) hx hb dX6_stands_75 (by decide) ?_
            refine lv_iadd hx hb dX6_stands_76 ?_
            refine lv_istore_n (lv' := [(2, .int (x2 + 0)), (0, .ref (p 6 0)), (1, .int x1), (3, .int x3)]) hx hb dX6_stands_77 rfl hl (by decide) rfl (fun ls hl => ?_)
            refine lv_iinc (v := x3 + 1) (lv' := [(3, .int (x3 + 1)), (2, .int (x2 + 0)), (0, .ref (p 6 0)), (1, .int x1)]) hx hb dX6_stands_78 hl (k := 3) rfl rfl (by decide) rfl (fun ls hl => ?_)
            refine lv_goto (tgt := 27) hx hb dX6_stands_81 (by decide) ?_
            exact ih _ _ _ _ _ _ _ hW hS (lv_sub hl [2, 3, 1, 0] rfl) hf
          · have hf := ag_t c53 hf
            refine lv_aload_n hx hb dX6_stands_56 rfl (lv_at hl 0 rfl) ?_
            refine g6_17 hx hb hT hown hG hW t6 q805 dX6_stands_57 ?_
            have t47 := ag_fix hW (k := 6) (f := 17) (t := 47) t6 rfl rfl
            refine lv_iload_n hx hb dX6_stands_60 rfl (lv_at hl 3 rfl) ?_
            obtain ⟨a61, hf⟩ := ag_n hf
            refine ag_iald hx hb hG hW t47 rfl rfl a61 dX6_stands_61 ?_
            refine lv_iconst (v := 1) hx hb dX6_stands_62 (by decide) ?_
            refine lv_icmp_ne (tgt := 75) hx hb dX6_stands_63 (by decide) (fun c63 => ?_) (fun c63 => ?_)
            · have hf := ag_f c63 hf
              refine lv_iconst (v := 0) hx hb dX6_stands_75 (by decide) ?_
              refine lv_iadd hx hb dX6_stands_76 ?_
              refine lv_istore_n (lv' := [(2, .int (x2 + 0)), (0, .ref (p 6 0)), (1, .int x1), (3, .int x3)]) hx hb dX6_stands_77 rfl hl (by decide) rfl (fun ls hl => ?_)
              refine lv_iinc (v := x3 + 1) (lv' := [(3, .int (x3 + 1)), (2, .int (x2 + 0)), (0, .ref (p 6 0)), (1, .int x1)]) hx hb dX6_stands_78 hl (k := 3) rfl rfl (by decide) rfl (fun ls hl => ?_)
              refine lv_goto (tgt := 27) hx hb dX6_stands_81 (by decide) ?_
              exact ih _ _ _ _ _ _ _ hW hS (lv_sub hl [2, 3, 1, 0] rfl) hf
            · have hf := ag_t c63 hf
              refine lv_aload_n hx hb dX6_stands_66 rfl (lv_at hl 0 rfl) ?_
              refine g6_29 hx hb hT hown hG hW t6 q817 dX6_stands_67 ?_
              have t59 := ag_fix hW (k := 6) (f := 29) (t := 59) t6 rfl rfl
              refine lv_iload_n hx hb dX6_stands_70 rfl (lv_at hl 3 rfl) ?_
              obtain ⟨a71, hf⟩ := ag_n hf
              refine ag_iald hx hb hG hW t59 rfl rfl a71 dX6_stands_71 ?_
              refine lv_goto (tgt := 76) hx hb dX6_stands_72 (by decide) ?_
              refine lv_iadd hx hb dX6_stands_76 ?_
              refine lv_istore_n (lv' := [(2, .int (x2 + (s 59 0 x3))), (0, .ref (p 6 0)), (1, .int x1), (3, .int x3)]) hx hb dX6_stands_77 rfl hl (by decide) rfl (fun ls hl => ?_)
              refine lv_iinc (v := x3 + 1) (lv' := [(3, .int (x3 + 1)), (2, .int (x2 + (s 59 0 x3))), (0, .ref (p 6 0)), (1, .int x1)]) hx hb dX6_stands_78 hl (k := 3) rfl rfl (by decide) rfl (fun ls hl => ?_)
              refine lv_goto (tgt := 27) hx hb dX6_stands_81 (by decide) ?_
              exact ih _ _ _ _ _ _ _ hW hS (lv_sub hl [2, 3, 1, 0] rfl) hf
  unfold f_X6_stands at hf
  refine lv_aload_n hx hb dX6_stands_0 rfl (lv_at hl 0 rfl) ?_
  obtain ⟨r1, hg1, hf⟩ := ag_bs hf
  refine ag_cVv hx hb hml hT hown hG h0 hS hW (c_X6_bring t6 hg1) ⟨rfl, rfl⟩ q957 q959 qs36 q11 q960 dd_yX6_bring ⟨Nat.le_of_ble_eq_true rfl, Nat.le_of_ble_eq_true rfl⟩ t6 rfl rfl hl.1 rfl (Nat.le_of_ble_eq_true rfl) ⟨Nat.le_of_ble_eq_true rfl, Nat.le_of_ble_eq_true rfl⟩ dX6_stands_1 (fun H locs hW hS => ?_)
  refine lv_aload_n hx hb dX6_stands_4 rfl (lv_at hl 0 rfl) ?_
  refine g6_9 hx hb hT hown hG hW t6 q797 dX6_stands_5 ?_
  have t39 := ag_fix hW (k := 6) (f := 9) (t := 39) t6 rfl rfl
  refine lv_iload_n hx hb dX6_stands_8 rfl (lv_at hl 1 rfl) ?_
  obtain ⟨a9, hf⟩ := ag_n hf
  refine ag_iald hx hb hG hW t39 rfl rfl a9 dX6_stands_9 ?_
  refine lv_aload_n hx hb dX6_stands_10 rfl (lv_at hl 0 rfl) ?_
  refine g6_10 hx hb hT hown hG hW t6 q798 dX6_stands_11 ?_
  have t40 := ag_fix hW (k := 6) (f := 10) (t := 40) t6 rfl rfl
  refine lv_iload_n hx hb dX6_stands_14 rfl (lv_at hl 1 rfl) ?_
  obtain ⟨a15, hf⟩ := ag_n hf
  refine ag_iald hx hb hG hW t40 rfl rfl a15 dX6_stands_15 ?_
  refine lv_isub hx hb dX6_stands_16 ?_
  refine lv_aload_n hx hb dX6_stands_17 rfl (lv_at hl 0 rfl) ?_
  refine g6_11 hx hb hT hown hG hW t6 q799 dX6_stands_18 ?_
  have t41 := ag_fix hW (k := 6) (f := 11) (t := 41) t6 rfl rfl
  refine lv_iload_n hx hb dX6_stands_21 rfl (lv_at hl 1 rfl) ?_
  obtain ⟨a22, hf⟩ := ag_n hf
  refine ag_iald hx hb hG hW t41 rfl rfl a22 dX6_stands_22 ?_
  refine lv_iadd hx hb dX6_stands_23 ?_
  refine lv_istore_n (lv' := [(2, .int (((r1 39 0 x1) - (r1 40 0 x1)) + (r1 41 0 x1))), (0, .ref (p 6 0)), (1, .int x1)]) hx hb dX6_stands_24 rfl hl (by decide) rfl (fun ls hl => ?_)
  refine lv_iconst (v := 0) hx hb dX6_stands_25 (by decide) ?_
  refine lv_istore_n (lv' := [(3, .int 0), (2, .int (((r1 39 0 x1) - (r1 40 0 x1)) + (r1 41 0 x1))), (0, .ref (p 6 0)), (1, .int x1)]) hx hb dX6_stands_26 rfl hl (by decide) rfl (fun ls hl => ?_)
  exact k27 fu _ _ _ _ _ _ _ hW hS (lv_sub hl [2, 3, 1, 0] rfl) hf
def f_X6_free (fu : Nat) (x1 : Int32) (s : ag_S) : Option (Int32 × ag_S) := ag_bd (f_X6_stands fu x1 s) fun r2 => ag_bd (f_X6_bound fu x1 r2.2) fun r7 => some (r2.1 - r7, r2.2)
abbrev rm_X6_free : Room := { frames := 2, cells := 0, slots := 0, locals := 45 }
theorem dd_yX6_free : yX6_free.cls = RX6 ∧ yX6_free.cls ≠ "java/lang/invoke/MethodHandle" ∧ yX6_free.cls ≠ "java/lang/invoke/VarHandle" ∧ (parseMethodDescriptor yX6_free.desc).map (fun d => d.parameters.length) = some 1 := by decide +kernel
set_option maxHeartbeats 4000000 in
set_option maxRecDepth 100000 in
theorem c_X6_free {z : ag_Z} {l : Launch} {n : ag_N} {p : ag_P} {s : ag_S} {fu : Nat} {x1 : Int32} {out : Int32 × ag_S} (t6 : vp_in 0 (n 6)) (hf : f_X6_free fu x1 s = some out) : Met l yX6_free (ag_ws yX6_free cX6_free 2 ((some FieldType.int))) rm_X6_free (va_Pc [.ref (p 6 0), .int x1] (ag_Pre z n p s)) (ag_Ri z n p out.1 out.2) 0 0 (ag_A z) := by
  refine Met.ofW (cc := cX6_free) (maxL := 2) (ret := (some FieldType.int)) (by decide) rfl ?_
  intro p0 e st m args below meth c s9 B hml hv
  obtain ⟨ha, h0, hG, hW⟩ := hv
  have hx := B.exec
  have hb := B.bytes
  have hr := B.returns
  have hts := atoms_spec (ws := ag_ws yX6_free cX6_free 2 ((some FieldType.int))) B.pre
  have hT : ∀ w ∈ ag_tbl, w.before args st = true := fun w h => hts w (List.mem_cons_of_mem _ h)
  have hown : st.vm.findClass RX6 = some m.cls := findClass_of_methodNamed B.named
  have hlocks := B.notSynchronized
  have hS : va_S (ag_A z) st.heap st.heap [] := va_S.rf
  obtain ⟨ls, hls, hl⟩ : ∃ ls, entryFrame m args 2 = F0 m 0 ls [] ∧ lv_has ls 2 [(0, .ref (p 6 0)), (1, .int x1)] := by rw [ha]; exact ag_entry m [.ref (p 6 0), .int x1] (Nat.le_of_ble_eq_true rfl)
  rw [hls]
  unfold f_X6_free at hf
  refine lv_aload_n hx hb dX6_free_0 rfl (lv_at hl 0 rfl) ?_
  refine lv_iload_n hx hb dX6_free_1 rfl (lv_at hl 1 rfl) ?_
  obtain ⟨r2, hg2, hf⟩ := ag_bs hf
  refine ag_cVi hx hb hml hT hown hG h0 hS hW (c_X6_stands t6 hg2) ⟨rfl, rfl⟩ q953 q955 qs35 q11 q956 dd_yX6_stands ⟨Nat.le_of_ble_eq_true rfl, Nat.le_of_ble_eq_true rfl⟩ t6 rfl rfl hl.1 rfl (Nat.le_of_ble_eq_true rfl) ⟨Nat.le_of_ble_eq_true rfl, Nat.le_of_ble_eq_true rfl⟩ dX6_free_2 (fun H locs hW hS => ?_)
  refine lv_aload_n hx hb dX6_free_5 rfl (lv_at hl 0 rfl) ?_
  refine lv_iload_n hx hb dX6_free_6 rfl (lv_at hl 1 rfl) ?_
  obtain ⟨r7, hg7, hf⟩ := ag_bs hf
  refine ag_cVi hx hb hml hT hown hG h0 hS hW (c_X6_bound t6 hg7) ⟨rfl, rfl⟩ q961 q963 qs37 q11 q964 dd_yX6_bound ⟨Nat.le_of_ble_eq_true rfl, Nat.le_of_ble_eq_true rfl⟩ t6 rfl rfl hl.1 rfl (Nat.le_of_ble_eq_true rfl) ⟨Nat.le_of_ble_eq_true rfl, Nat.le_of_ble_eq_true rfl⟩ dX6_free_7 (fun H locs hW hS => ?_)
  refine lv_isub hx hb dX6_free_10 ?_
  exact ag_iret hx hb hr rfl hlocks hS (congrArg Prod.fst (Option.some.inj hf)) (congrArg Prod.snd (Option.some.inj hf) ▸ hW) dX6_free_11
