def f_X5_boundOf_L7 (fu : Nat) : Nat → Int32 → Int32 → Int32 → ag_S → Option Int32
  | 0, _, _, _, _ => none
  | nf + 1, x1, x2, x3, s => ag_bd (f_Jx4a65c_size_8abf5_4 fu s) fun r12 => if r12 ≤ x3 then (some x2) else (ag_bd (f_Jx4a65c_get_915e3_4 fu x3 s) fun r23 => if s 4 0 r23 = x1 then (ag_bd (f_X1_binds fu r23 s) fun r43 => f_X5_boundOf_L7 fu nf x1 (x2 + r43) (x3 + 1) s) else (f_X5_boundOf_L7 fu nf x1 x2 (x3 + 1) s))
def f_X5_boundOf (fu : Nat) (x1 : Int32) (s : ag_S) : Option Int32 := f_X5_boundOf_L7 fu fu x1 (s 2 4 x1) 0 s
abbrev rm_X5_boundOf : Room := { frames := 3, cells := 0, slots := 0, locals := 64 }
theorem dd_yX5_boundOf : yX5_boundOf.cls = RX5 ∧ yX5_boundOf.cls ≠ "java/lang/invoke/MethodHandle" ∧ yX5_boundOf.cls ≠ "java/lang/invoke/VarHandle" ∧ (parseMethodDescriptor yX5_boundOf.desc).map (fun d => d.parameters.length) = some 1 := by decide +kernel
set_option maxHeartbeats 4000000 in
set_option maxRecDepth 100000 in
theorem c_X5_boundOf {z : ag_Z} {l : Launch} {n : ag_N} {p : ag_P} {s : ag_S} {fu : Nat} {x1 : Int32} {out : Int32} (t5 : vp_in 0 (n 5)) (v1 : vp_in x1 (n 2)) (hf : f_X5_boundOf fu x1 s = some out) : Met l yX5_boundOf (ag_ws yX5_boundOf cX5_boundOf 5 ((some FieldType.int))) rm_X5_boundOf (va_Pc [.ref (p 5 0), .ref (p 2 x1)] (ag_Pre z n p s)) (ag_Ri z n p out s) 0 0 (ag_A z) := by
  refine Met.ofW (cc := cX5_boundOf) (maxL := 5) (ret := (some FieldType.int)) (by decide) rfl ?_
  intro p0 e st m args below meth c s9 B hml hv
  obtain ⟨ha, h0, hG, hW⟩ := hv
  have hx := B.exec
  have hb := B.bytes
  have hr := B.returns
  have hts := atoms_spec (ws := ag_ws yX5_boundOf cX5_boundOf 5 ((some FieldType.int))) B.pre
  have hT : ∀ w ∈ ag_tbl, w.before args st = true := fun w h => hts w (List.mem_cons_of_mem _ h)
  have hown : st.vm.findClass RX5 = some m.cls := findClass_of_methodNamed B.named
  have hlocks := B.notSynchronized
  have hS : va_S (ag_A z) st.heap st.heap [] := va_S.rf
  obtain ⟨ls, hls, hl⟩ : ∃ ls, entryFrame m args 5 = F0 m 0 ls [] ∧ lv_has ls 5 [(0, .ref (p 5 0)), (1, .ref (p 2 x1))] := by rw [ha]; exact ag_entry m [.ref (p 5 0), .ref (p 2 x1)] (Nat.le_of_ble_eq_true rfl)
  rw [hls]
  have k7 : ∀ (nf : Nat) (x1 : Int32) (x2 : Int32) (x3 : Int32) (H : Heap) (locs : List Loc) (ls : Array Slot) (vx1 : vp_in x1 (n 2)), ag_W z n p s H → va_S (ag_A z) st.heap H locs → lv_has ls 5 [(0, .ref (p 5 0)), (1, .ref (p 2 x1)), (2, .int x2), (3, .int x3)] → f_X5_boundOf_L7 fu nf x1 x2 x3 s = some out → W p0 l e (headSpec (ag_ws yX5_boundOf cX5_boundOf 5 ((some FieldType.int))) rm_X5_boundOf).room st m args below meth c H locs 0 0 (MQ below (ag_Ri z n p out s) args st 0 0 (ag_A z)) (F0 m 7 ls []) := by
    intro nf
    induction nf with
    | zero => intro x1 x2 x3 H locs ls vx1 hW hS hl hf; rw [f_X5_boundOf_L7] at hf; cases hf
    | succ nf ih =>
      intro x1 x2 x3 H locs ls vx1 hW hS hl hf
      rw [f_X5_boundOf_L7] at hf
      refine lv_iload_n hx hb dX5_boundOf_7 rfl (lv_at hl 3 rfl) ?_
      refine lv_aload_n hx hb dX5_boundOf_8 rfl (lv_at hl 0 rfl) ?_
      refine g5_4 hx hb hT hown hG hW t5 q155 dX5_boundOf_9 ?_
      have t14 := ag_fix hW (k := 5) (f := 4) (t := 14) t5 rfl rfl
      obtain ⟨r12, hg12, hf⟩ := ag_bs hf
      refine ag_cVi hx hb hml hT hown hG h0 hS hW (c_Jx4a65c_size_8abf5_4 t14 hg12) ⟨rfl, rfl⟩ q193 q194 q195 q4 q196 dd_yJx4a65c_size_8abf5 ⟨Nat.le_of_ble_eq_true rfl, Nat.le_of_ble_eq_true rfl⟩ t14 rfl rfl hl.1 rfl (Nat.le_of_ble_eq_true rfl) ⟨Nat.le_of_ble_eq_true rfl, Nat.le_of_ble_eq_true rfl⟩ dX5_boundOf_12 (fun H locs hW hS => ?_)
      refine lv_icmp_ge (tgt := 54) hx hb dX5_boundOf_15 (by decide) (fun c15 => ?_) (fun c15 => ?_)
      · have hf := ag_t c15 hf
        refine lv_iload_n hx hb dX5_boundOf_54 rfl (lv_at hl 2 rfl) ?_
        exact ag_iret hx hb hr rfl hlocks hS (Option.some.inj hf) hW dX5_boundOf_55
      · have hf := ag_f c15 hf
        refine lv_aload_n hx hb dX5_boundOf_18 rfl (lv_at hl 0 rfl) ?_
        refine g5_4 hx hb hT hown hG hW t5 q155 dX5_boundOf_19 ?_
        have t14 := ag_fix hW (k := 5) (f := 4) (t := 14) t5 rfl rfl
        refine lv_iload_n hx hb dX5_boundOf_22 rfl (lv_at hl 3 rfl) ?_
        obtain ⟨r23, hg23, hf⟩ := ag_bs hf
        refine ag_cVr hx hb hml hT hown hG h0 hS hW (c_Jx4a65c_get_915e3_4 t14 hg23) ⟨rfl, rfl⟩ q265 q266 q267 q4 q268 dd_yJx4a65c_get_915e3 ⟨Nat.le_of_ble_eq_true rfl, Nat.le_of_ble_eq_true rfl⟩ t14 rfl rfl hl.1 rfl (Nat.le_of_ble_eq_true rfl) ⟨Nat.le_of_ble_eq_true rfl, Nat.le_of_ble_eq_true rfl⟩ dX5_boundOf_23 (fun H locs hW hS v23 => ?_)
        refine ag_cast hx hb hown hG hW v23 rfl rfl (hT _ q521) dX5_boundOf_26 ?_
        refine lv_astore (lv' := [(4, .ref (p 4 r23)), (0, .ref (p 5 0)), (1, .ref (p 2 x1)), (2, .int x2), (3, .int x3)]) hx hb dX5_boundOf_29 hl (by decide) rfl (fun ls hl => ?_)
        refine lv_aload hx hb dX5_boundOf_31 (lv_at hl 0 rfl) ?_
        refine g4_0 hx hb hT hown hG hW v23 q594 dX5_boundOf_33 ?_
        have o33 := ag_W.okf hW (k := 4) (f := 0) (t := 2) rfl rfl (by decide) r23
        refine lv_aload_n hx hb dX5_boundOf_36 rfl (lv_at hl 2 rfl) ?_
        refine ag_acmp_ne (t := 2) (v := s 4 0 r23) (w := x1) (tgt := 48) hx hb hW o33 vx1 dX5_boundOf_37 (by decide) (fun c37 => ?_) (fun c37 => ?_)
        · have hf := ag_f c37 hf
          refine lv_iinc (v := x3 + 1) (lv' := [(3, .int (x3 + 1)), (4, .ref (p 4 r23)), (0, .ref (p 5 0)), (1, .ref (p 2 x1)), (2, .int x2)]) hx hb dX5_boundOf_48 hl (k := 4) rfl rfl (by decide) rfl (fun ls hl => ?_)
          refine lv_goto (tgt := 7) hx hb dX5_boundOf_51 (by decide) ?_
          exact ih _ _ _ _ _ _ vx1 hW hS (lv_sub hl [2, 3, 4, 0] rfl) hf
        · have hf := ag_t c37 hf
          refine lv_iload_n hx hb dX5_boundOf_40 rfl (lv_at hl 3 rfl) ?_
          refine lv_aload hx hb dX5_boundOf_41 (lv_at hl 0 rfl) ?_
          obtain ⟨r43, hg43, hf⟩ := ag_bs hf
          refine ag_cVi hx hb hml hT hown hG h0 hS hW (c_X1_binds v23 hg43) ⟨rfl, rfl⟩ q522 q523 q524 q23 q525 dd_yX1_binds ⟨Nat.le_of_ble_eq_true rfl, Nat.le_of_ble_eq_true rfl⟩ v23 rfl rfl hl.1 rfl (Nat.le_of_ble_eq_true rfl) ⟨Nat.le_of_ble_eq_true rfl, Nat.le_of_ble_eq_true rfl⟩ dX5_boundOf_43 (fun H locs hW hS => ?_)
          refine lv_iadd hx hb dX5_boundOf_46 ?_
          refine lv_istore_n (lv' := [(2, .int (x2 + r43)), (4, .ref (p 4 r23)), (0, .ref (p 5 0)), (1, .ref (p 2 x1)), (3, .int x3)]) hx hb dX5_boundOf_47 rfl hl (by decide) rfl (fun ls hl => ?_)
          refine lv_iinc (v := x3 + 1) (lv' := [(3, .int (x3 + 1)), (2, .int (x2 + r43)), (4, .ref (p 4 r23)), (0, .ref (p 5 0)), (1, .ref (p 2 x1))]) hx hb dX5_boundOf_48 hl (k := 4) rfl rfl (by decide) rfl (fun ls hl => ?_)
          refine lv_goto (tgt := 7) hx hb dX5_boundOf_51 (by decide) ?_
          exact ih _ _ _ _ _ _ vx1 hW hS (lv_sub hl [3, 4, 1, 0] rfl) hf
  unfold f_X5_boundOf at hf
  refine lv_aload_n hx hb dX5_boundOf_0 rfl (lv_at hl 1 rfl) ?_
  refine g2_4 hx hb hT hown hG hW v1 q315 dX5_boundOf_1 ?_
  refine lv_istore_n (lv' := [(2, .int (s 2 4 x1)), (0, .ref (p 5 0)), (1, .ref (p 2 x1))]) hx hb dX5_boundOf_4 rfl hl (by decide) rfl (fun ls hl => ?_)
  refine lv_iconst (v := 0) hx hb dX5_boundOf_5 (by decide) ?_
  refine lv_istore_n (lv' := [(3, .int 0), (2, .int (s 2 4 x1)), (0, .ref (p 5 0)), (1, .ref (p 2 x1))]) hx hb dX5_boundOf_6 rfl hl (by decide) rfl (fun ls hl => ?_)
  exact k7 fu _ _ _ _ _ _ v1 hW hS (lv_sub hl [2, 3, 1, 0] rfl) hf
def f_X5_freeOf (fu : Nat) (x1 : Int32) (s : ag_S) : Option Int32 := ag_bd (f_X2_stands fu x1 s) fun r1 => ag_bd (f_X5_boundOf fu x1 s) fun r6 => some (r1 - r6)
abbrev rm_X5_freeOf : Room := { frames := 4, cells := 0, slots := 0, locals := 88 }
theorem dd_yX5_freeOf : yX5_freeOf.cls = RX5 ∧ yX5_freeOf.cls ≠ "java/lang/invoke/MethodHandle" ∧ yX5_freeOf.cls ≠ "java/lang/invoke/VarHandle" ∧ (parseMethodDescriptor yX5_freeOf.desc).map (fun d => d.parameters.length) = some 1 := by decide +kernel
set_option maxHeartbeats 4000000 in
set_option maxRecDepth 100000 in
theorem c_X5_freeOf {z : ag_Z} {l : Launch} {n : ag_N} {p : ag_P} {s : ag_S} {fu : Nat} {x1 : Int32} {out : Int32} (t5 : vp_in 0 (n 5)) (v1 : vp_in x1 (n 2)) (hf : f_X5_freeOf fu x1 s = some out) : Met l yX5_freeOf (ag_ws yX5_freeOf cX5_freeOf 2 ((some FieldType.int))) rm_X5_freeOf (va_Pc [.ref (p 5 0), .ref (p 2 x1)] (ag_Pre z n p s)) (ag_Ri z n p out s) 0 0 (ag_A z) := by
  refine Met.ofW (cc := cX5_freeOf) (maxL := 2) (ret := (some FieldType.int)) (by decide) rfl ?_
  intro p0 e st m args below meth c s9 B hml hv
  obtain ⟨ha, h0, hG, hW⟩ := hv
  have hx := B.exec
  have hb := B.bytes
  have hr := B.returns
  have hts := atoms_spec (ws := ag_ws yX5_freeOf cX5_freeOf 2 ((some FieldType.int))) B.pre
  have hT : ∀ w ∈ ag_tbl, w.before args st = true := fun w h => hts w (List.mem_cons_of_mem _ h)
  have hown : st.vm.findClass RX5 = some m.cls := findClass_of_methodNamed B.named
  have hlocks := B.notSynchronized
  have hS : va_S (ag_A z) st.heap st.heap [] := va_S.rf
  obtain ⟨ls, hls, hl⟩ : ∃ ls, entryFrame m args 2 = F0 m 0 ls [] ∧ lv_has ls 2 [(0, .ref (p 5 0)), (1, .ref (p 2 x1))] := by rw [ha]; exact ag_entry m [.ref (p 5 0), .ref (p 2 x1)] (Nat.le_of_ble_eq_true rfl)
  rw [hls]
  unfold f_X5_freeOf at hf
  refine lv_aload_n hx hb dX5_freeOf_0 rfl (lv_at hl 1 rfl) ?_
  obtain ⟨r1, hg1, hf⟩ := ag_bs hf
  refine ag_cVi hx hb hml hT hown hG h0 hS hW (c_X2_stands v1 hg1) ⟨rfl, rfl⟩ q509 q510 q511 q19 q512 dd_yX2_stands ⟨Nat.le_of_ble_eq_true rfl, Nat.le_of_ble_eq_true rfl⟩ v1 rfl rfl hl.1 rfl (Nat.le_of_ble_eq_true rfl) ⟨Nat.le_of_ble_eq_true rfl, Nat.le_of_ble_eq_true rfl⟩ dX5_freeOf_1 (fun H locs hW hS => ?_)
  refine lv_aload_n hx hb dX5_freeOf_4 rfl (lv_at hl 0 rfl) ?_
  refine lv_aload_n hx hb dX5_freeOf_5 rfl (lv_at hl 1 rfl) ?_
  obtain ⟨r6, hg6, hf⟩ := ag_bs hf
  refine ag_cVi hx hb hml hT hown hG h0 hS hW (c_X5_boundOf t5 v1 hg6) ⟨rfl, rfl⟩ q517 q519 qs14 q1 q520 dd_yX5_boundOf ⟨Nat.le_of_ble_eq_true rfl, Nat.le_of_ble_eq_true rfl⟩ t5 rfl rfl hl.1 rfl (Nat.le_of_ble_eq_true rfl) ⟨Nat.le_of_ble_eq_true rfl, Nat.le_of_ble_eq_true rfl⟩ dX5_freeOf_6 (fun H locs hW hS => ?_)
  refine lv_isub hx hb dX5_freeOf_9 ?_
  exact ag_iret hx hb hr rfl hlocks hS (Option.some.inj hf) hW dX5_freeOf_10
def f_X5_needFree (fu : Nat) (x1 : Int32) (x2 : Int32) (s : ag_S) : Option ((Int32 ⊕ Int32) × ag_S) := ag_bd (f_X5_freeOf fu x1 s) fun r2 => if x2 ≤ r2 then (some (.inl 0, s)) else (some (.inr 3, s))
abbrev rm_X5_needFree : Room := { frames := 6, cells := 1, slots := 6, locals := 109 }
theorem w587 : Cond.stringRef RX5 315 "less is free of the line" ∈ lw_tbl := List.mem_append_right _ (List.mem_of_getElem? (i := 587) (by decide +kernel))
theorem dd_yX5_needFree : yX5_needFree.cls = RX5 ∧ yX5_needFree.cls ≠ "java/lang/invoke/MethodHandle" ∧ yX5_needFree.cls ≠ "java/lang/invoke/VarHandle" ∧ (parseMethodDescriptor yX5_needFree.desc).map (fun d => d.parameters.length) = some 2 := by decide +kernel
set_option maxHeartbeats 4000000 in
set_option maxRecDepth 100000 in
theorem c_X5_needFree {z : ag_Z} {l : Launch} {n : ag_N} {p : ag_P} {s : ag_S} {fu : Nat} {x1 : Int32} {x2 : Int32} {out : (Int32 ⊕ Int32) × ag_S} (hq9 : l.stackTraces = false) (t5 : vp_in 0 (n 5)) (v1 : vp_in x1 (n 2)) (hf : f_X5_needFree fu x1 x2 s = some out) : vx_Met l yX5_needFree (ag_ws yX5_needFree cX5_needFree 3 ((none))) rm_X5_needFree (va_Pc [.ref (p 5 0), .ref (p 2 x1), .int x2] (ag_Pre z n p s)) (ag_Xv z n p out) (ag_XX z n p out) 1 6 (ag_A z) := by
  refine vx_ofW (cc := cX5_needFree) (maxL := 3) (ret := (none)) (by decide) rfl ?_
  intro p0 e st m args below meth c s9 B hml hout hv
  obtain ⟨ha, h0, hG, hW⟩ := hv
  have hx := B.exec
  have hb := B.bytes
  have hr := B.returns
  have hts := atoms_spec (ws := ag_ws yX5_needFree cX5_needFree 3 ((none))) B.pre
  have hT : ∀ w ∈ ag_tbl, w.before args st = true := fun w h => hts w (List.mem_cons_of_mem _ h)
  have hown : st.vm.findClass RX5 = some m.cls := findClass_of_methodNamed B.named
  have hlocks := B.notSynchronized
  have hS : va_S (ag_A z) st.heap st.heap [] := va_S.rf
  obtain ⟨ls, hls, hl⟩ : ∃ ls, entryFrame m args 3 = F0 m 0 ls [] ∧ lv_has ls 3 [(0, .ref (p 5 0)), (1, .ref (p 2 x1)), (2, .int x2)] := by rw [ha]; exact ag_entry m [.ref (p 5 0), .ref (p 2 x1), .int x2] (Nat.le_of_ble_eq_true rfl)
  rw [hls]
  unfold f_X5_needFree at hf
  refine lv_aload_n hx hb dX5_needFree_0 rfl (lv_at hl 0 rfl) ?_
  refine lv_aload_n hx hb dX5_needFree_1 rfl (lv_at hl 1 rfl) ?_
  obtain ⟨r2, hg2, hf⟩ := ag_bs hf
  refine ag_cVi hx hb hml hT hown hG h0 hS hW (c_X5_freeOf t5 v1 hg2) ⟨rfl, rfl⟩ q505 q507 qs13 q1 q508 dd_yX5_freeOf ⟨Nat.le_of_ble_eq_true rfl, Nat.le_of_ble_eq_true rfl⟩ t5 rfl rfl hl.1 rfl (Nat.le_of_ble_eq_true rfl) ⟨Nat.le_of_ble_eq_true rfl, Nat.le_of_ble_eq_true rfl⟩ dX5_needFree_2 (fun H locs hW hS => ?_)
  refine lv_iload_n hx hb dX5_needFree_5 rfl (lv_at hl 2 rfl) ?_
  refine lv_icmp_ge (tgt := 20) hx hb dX5_needFree_6 (by decide) (fun c6 => ?_) (fun c6 => ?_)
  · have hf := ag_t c6 hf
    refine W.widen (k := 1) (n := 6) (Nat.le_of_ble_eq_true rfl) (Nat.le_of_ble_eq_true rfl) ?_
    exact ag_xvret hx hb hr hlocks hS hf hW dX5_needFree_20
  · have hf := ag_f c6 hf
    exact ag_thrw3 hx hb hq9 (hml.trans hl.1.symm) hT hown hG hS hW hout hlocks hf (w587) dX5_needFree_9 dX5_needFree_12 dX5_needFree_13 dX5_needFree_16 dX5_needFree_19 (Nat.le_of_ble_eq_true rfl) (Nat.le_of_ble_eq_true rfl) (Nat.le_of_ble_eq_true rfl) (Nat.le_of_ble_eq_true rfl) (Nat.le_of_ble_eq_true rfl) (Nat.le_of_ble_eq_true rfl)
def f_X5_payFrom (fu : Nat) (x0 : Int32) (x1 : Int32) (s : ag_S) : Option ((Int32 ⊕ Int32) × ag_S) := ag_bd (f_X4_unpaid fu x0 s) fun r1 => if x1 ≤ r1 then (some (.inl 0, (ag_up s 0 2 x0 ((s 0 2 x0) + x1)))) else (some (.inr 3, s))
abbrev rm_X5_payFrom : Room := { frames := 6, cells := 1, slots := 6, locals := 83 }
theorem w647 : Cond.stringRef RX5 320 "more would be paid than the source's income" ∈ lw_tbl := List.mem_append_right _ (List.mem_of_getElem? (i := 647) (by decide +kernel))
theorem dd_yX5_payFrom : yX5_payFrom.cls ≠ "java/lang/invoke/MethodHandle" ∧ yX5_payFrom.cls ≠ "java/lang/invoke/VarHandle" ∧ (parseMethodDescriptor yX5_payFrom.desc).map (fun d => d.parameters.length) = some 2 := by decide +kernel
set_option maxHeartbeats 4000000 in
set_option maxRecDepth 100000 in
theorem c_X5_payFrom {z : ag_Z} {l : Launch} {n : ag_N} {p : ag_P} {s : ag_S} {fu : Nat} {x0 : Int32} {x1 : Int32} {out : (Int32 ⊕ Int32) × ag_S} (hq9 : l.stackTraces = false) (v0 : vp_in x0 (n 0)) (hf : f_X5_payFrom fu x0 x1 s = some out) : vx_Met l yX5_payFrom (ag_ws yX5_payFrom cX5_payFrom 2 ((none))) rm_X5_payFrom (va_Pc [.ref (p 0 x0), .int x1] (ag_Pre z n p s)) (ag_Xv z n p out) (ag_XX z n p out) 1 6 (ag_A z) := by
  refine vx_ofW (cc := cX5_payFrom) (maxL := 2) (ret := (none)) (by decide) rfl ?_
  intro p0 e st m args below meth c s9 B hml hout hv
  obtain ⟨ha, h0, hG, hW⟩ := hv
  have hx := B.exec
  have hb := B.bytes
  have hr := B.returns
  have hts := atoms_spec (ws := ag_ws yX5_payFrom cX5_payFrom 2 ((none))) B.pre
  have hT : ∀ w ∈ ag_tbl, w.before args st = true := fun w h => hts w (List.mem_cons_of_mem _ h)
  have hown : st.vm.findClass RX5 = some m.cls := findClass_of_methodNamed B.named
  have hlocks := B.notSynchronized
  have hS : va_S (ag_A z) st.heap st.heap [] := va_S.rf
  obtain ⟨ls, hls, hl⟩ : ∃ ls, entryFrame m args 2 = F0 m 0 ls [] ∧ lv_has ls 2 [(0, .ref (p 0 x0)), (1, .int x1)] := by rw [ha]; exact ag_entry m [.ref (p 0 x0), .int x1] (Nat.le_of_ble_eq_true rfl)
  rw [hls]
  unfold f_X5_payFrom at hf
  refine lv_aload_n hx hb dX5_payFrom_0 rfl (lv_at hl 0 rfl) ?_
  obtain ⟨r1, hg1, hf⟩ := ag_bs hf
  refine ag_cVi hx hb hml hT hown hG h0 hS hW (c_X4_unpaid v0 hg1) ⟨rfl, rfl⟩ q643 q644 q645 q5 q646 dd_yX4_unpaid ⟨Nat.le_of_ble_eq_true rfl, Nat.le_of_ble_eq_true rfl⟩ v0 rfl rfl hl.1 rfl (Nat.le_of_ble_eq_true rfl) ⟨Nat.le_of_ble_eq_true rfl, Nat.le_of_ble_eq_true rfl⟩ dX5_payFrom_1 (fun H locs hW hS => ?_)
  refine lv_iload_n hx hb dX5_payFrom_4 rfl (lv_at hl 1 rfl) ?_
  refine lv_icmp_ge (tgt := 19) hx hb dX5_payFrom_5 (by decide) (fun c5 => ?_) (fun c5 => ?_)
  · have hf := ag_t c5 hf
    refine lv_aload_n hx hb dX5_payFrom_19 rfl (lv_at hl 0 rfl) ?_
    refine lv_dup hx hb dX5_payFrom_20 rfl ?_
    refine g0_2 hx hb hT hown hG hW v0 q69 dX5_payFrom_21 ?_
    refine lv_iload_n hx hb dX5_payFrom_24 rfl (lv_at hl 1 rfl) ?_
    refine lv_iadd hx hb dX5_payFrom_25 ?_
    refine u0_2 hx hb hT hown hG hW hS v0 q69 dX5_payFrom_26 (fun H locs hW hS => ?_)
    refine W.widen (k := 1) (n := 6) (Nat.le_of_ble_eq_true rfl) (Nat.le_of_ble_eq_true rfl) ?_
    exact ag_xvret hx hb hr hlocks hS hf hW dX5_payFrom_29
  · have hf := ag_f c5 hf
    exact ag_thrw3 hx hb hq9 (hml.trans hl.1.symm) hT hown hG hS hW hout hlocks hf (w647) dX5_payFrom_8 dX5_payFrom_11 dX5_payFrom_12 dX5_payFrom_15 dX5_payFrom_18 (Nat.le_of_ble_eq_true rfl) (Nat.le_of_ble_eq_true rfl) (Nat.le_of_ble_eq_true rfl) (Nat.le_of_ble_eq_true rfl) (Nat.le_of_ble_eq_true rfl) (Nat.le_of_ble_eq_true rfl)
def f_X5_countOn_L4 (fu : Nat) : Nat → Int32 → Int32 → Int32 → ag_S → Option Int32
  | 0, _, _, _, _ => none
  | nf + 1, x1, x2, x3, s => ag_bd (f_Jx4a65c_size_8abf5_3 fu s) fun r9 => if r9 ≤ x3 then (some x2) else (ag_bd (f_Jx4a65c_get_915e3_3 fu x3 s) fun r20 => if s 3 1 r20 = x1 then (f_X5_countOn_L4 fu nf x1 (x2 + 1) (x3 + 1) s) else (f_X5_countOn_L4 fu nf x1 x2 (x3 + 1) s))
def f_X5_countOn (fu : Nat) (x1 : Int32) (s : ag_S) : Option Int32 := f_X5_countOn_L4 fu fu x1 0 0 s
abbrev rm_X5_countOn : Room := { frames := 3, cells := 0, slots := 0, locals := 64 }
theorem dd_yX5_countOn : yX5_countOn.cls = RX5 ∧ yX5_countOn.cls ≠ "java/lang/invoke/MethodHandle" ∧ yX5_countOn.cls ≠ "java/lang/invoke/VarHandle" ∧ (parseMethodDescriptor yX5_countOn.desc).map (fun d => d.parameters.length) = some 1 := by decide +kernel
set_option maxHeartbeats 4000000 in
set_option maxRecDepth 100000 in
theorem c_X5_countOn {z : ag_Z} {l : Launch} {n : ag_N} {p : ag_P} {s : ag_S} {fu : Nat} {x1 : Int32} {out : Int32} (t5 : vp_in 0 (n 5)) (v1 : vp_in x1 (n 3)) (hf : f_X5_countOn fu x1 s = some out) : Met l yX5_countOn (ag_ws yX5_countOn cX5_countOn 4 ((some FieldType.int))) rm_X5_countOn (va_Pc [.ref (p 5 0), .ref (p 3 x1)] (ag_Pre z n p s)) (ag_Ri z n p out s) 0 0 (ag_A z) := by
  refine Met.ofW (cc := cX5_countOn) (maxL := 4) (ret := (some FieldType.int)) (by decide) rfl ?_
  intro p0 e st m args below meth c s9 B hml hv
  obtain ⟨ha, h0, hG, hW⟩ := hv
  have hx := B.exec
  have hb := B.bytes
  have hr := B.returns
  have hts := atoms_spec (ws := ag_ws yX5_countOn cX5_countOn 4 ((some FieldType.int))) B.pre
  have hT : ∀ w ∈ ag_tbl, w.before args st = true := fun w h => hts w (List.mem_cons_of_mem _ h)
  have hown : st.vm.findClass RX5 = some m.cls := findClass_of_methodNamed B.named
  have hlocks := B.notSynchronized
  have hS : va_S (ag_A z) st.heap st.heap [] := va_S.rf
  obtain ⟨ls, hls, hl⟩ : ∃ ls, entryFrame m args 4 = F0 m 0 ls [] ∧ lv_has ls 4 [(0, .ref (p 5 0)), (1, .ref (p 3 x1))] := by rw [ha]; exact ag_entry m [.ref (p 5 0), .ref (p 3 x1)] (Nat.le_of_ble_eq_true rfl)
  rw [hls]
  have k4 : ∀ (nf : Nat) (x1 : Int32) (x2 : Int32) (x3 : Int32) (H : Heap) (locs : List Loc) (ls : Array Slot) (vx1 : vp_in x1 (n 3)), ag_W z n p s H → va_S (ag_A z) st.heap H locs → lv_has ls 4 [(0, .ref (p 5 0)), (1, .ref (p 3 x1)), (2, .int x2), (3, .int x3)] → f_X5_countOn_L4 fu nf x1 x2 x3 s = some out → W p0 l e (headSpec (ag_ws yX5_countOn cX5_countOn 4 ((some FieldType.int))) rm_X5_countOn).room st m args below meth c H locs 0 0 (MQ below (ag_Ri z n p out s) args st 0 0 (ag_A z)) (F0 m 4 ls []) := by
    intro nf
    induction nf with
    | zero => intro x1 x2 x3 H locs ls vx1 hW hS hl hf; rw [f_X5_countOn_L4] at hf; cases hf
    | succ nf ih =>
      intro x1 x2 x3 H locs ls vx1 hW hS hl hf
      rw [f_X5_countOn_L4] at hf
      refine lv_iload_n hx hb dX5_countOn_4 rfl (lv_at hl 3 rfl) ?_
      refine lv_aload_n hx hb dX5_countOn_5 rfl (lv_at hl 0 rfl) ?_
      refine g5_3 hx hb hT hown hG hW t5 q154 dX5_countOn_6 ?_
      have t13 := ag_fix hW (k := 5) (f := 3) (t := 13) t5 rfl rfl
      obtain ⟨r9, hg9, hf⟩ := ag_bs hf
      refine ag_cVi hx hb hml hT hown hG h0 hS hW (c_Jx4a65c_size_8abf5_3 t13 hg9) ⟨rfl, rfl⟩ q193 q194 q195 q4 q196 dd_yJx4a65c_size_8abf5 ⟨Nat.le_of_ble_eq_true rfl, Nat.le_of_ble_eq_true rfl⟩ t13 rfl rfl hl.1 rfl (Nat.le_of_ble_eq_true rfl) ⟨Nat.le_of_ble_eq_true rfl, Nat.le_of_ble_eq_true rfl⟩ dX5_countOn_9 (fun H locs hW hS => ?_)
      refine lv_icmp_ge (tgt := 42) hx hb dX5_countOn_12 (by decide) (fun c12 => ?_) (fun c12 => ?_)
      · have hf := ag_t c12 hf
        refine lv_iload_n hx hb dX5_countOn_42 rfl (lv_at hl 2 rfl) ?_
        exact ag_iret hx hb hr rfl hlocks hS (Option.some.inj hf) hW dX5_countOn_43
      · have hf := ag_f c12 hf
        refine lv_aload_n hx hb dX5_countOn_15 rfl (lv_at hl 0 rfl) ?_
        refine g5_3 hx hb hT hown hG hW t5 q154 dX5_countOn_16 ?_
        have t13 := ag_fix hW (k := 5) (f := 3) (t := 13) t5 rfl rfl
        refine lv_iload_n hx hb dX5_countOn_19 rfl (lv_at hl 3 rfl) ?_
        obtain ⟨r20, hg20, hf⟩ := ag_bs hf
        refine ag_cVr hx hb hml hT hown hG h0 hS hW (c_Jx4a65c_get_915e3_3 t13 hg20) ⟨rfl, rfl⟩ q265 q266 q267 q4 q268 dd_yJx4a65c_get_915e3 ⟨Nat.le_of_ble_eq_true rfl, Nat.le_of_ble_eq_true rfl⟩ t13 rfl rfl hl.1 rfl (Nat.le_of_ble_eq_true rfl) ⟨Nat.le_of_ble_eq_true rfl, Nat.le_of_ble_eq_true rfl⟩ dX5_countOn_20 (fun H locs hW hS v20 => ?_)
        refine ag_cast hx hb hown hG hW v20 rfl rfl (hT _ q385) dX5_countOn_23 ?_
        refine g3_1 hx hb hT hown hG hW v20 q394 dX5_countOn_26 ?_
        have o26 := ag_W.okf hW (k := 3) (f := 1) (t := 3) rfl rfl (by decide) r20
        refine lv_aload_n hx hb dX5_countOn_29 rfl (lv_at hl 1 rfl) ?_
        refine ag_acmp_ne (t := 3) (v := s 3 1 r20) (w := x1) (tgt := 36) hx hb hW o26 vx1 dX5_countOn_30 (by decide) (fun c30 => ?_) (fun c30 => ?_)
        · have hf := ag_f c30 hf
          refine lv_iinc (v := x3 + 1) (lv' := [(3, .int (x3 + 1)), (0, .ref (p 5 0)), (1, .ref (p 3 x1)), (2, .int x2)]) hx hb dX5_countOn_36 hl (k := 3) rfl rfl (by decide) rfl (fun ls hl => ?_)
          refine lv_goto (tgt := 4) hx hb dX5_countOn_39 (by decide) ?_
          exact ih _ _ _ _ _ _ vx1 hW hS (lv_sub hl [1, 2, 3, 0] rfl) hf
        · have hf := ag_t c30 hf
          refine lv_iinc (v := x2 + 1) (lv' := [(2, .int (x2 + 1)), (0, .ref (p 5 0)), (1, .ref (p 3 x1)), (3, .int x3)]) hx hb dX5_countOn_33 hl (k := 2) rfl rfl (by decide) rfl (fun ls hl => ?_)
          refine lv_iinc (v := x3 + 1) (lv' := [(3, .int (x3 + 1)), (2, .int (x2 + 1)), (0, .ref (p 5 0)), (1, .ref (p 3 x1))]) hx hb dX5_countOn_36 hl (k := 3) rfl rfl (by decide) rfl (fun ls hl => ?_)
          refine lv_goto (tgt := 4) hx hb dX5_countOn_39 (by decide) ?_
          exact ih _ _ _ _ _ _ vx1 hW hS (lv_sub hl [2, 3, 1, 0] rfl) hf
  unfold f_X5_countOn at hf
  refine lv_iconst (v := 0) hx hb dX5_countOn_0 (by decide) ?_
  refine lv_istore_n (lv' := [(2, .int 0), (0, .ref (p 5 0)), (1, .ref (p 3 x1))]) hx hb dX5_countOn_1 rfl hl (by decide) rfl (fun ls hl => ?_)
  refine lv_iconst (v := 0) hx hb dX5_countOn_2 (by decide) ?_
  refine lv_istore_n (lv' := [(3, .int 0), (2, .int 0), (0, .ref (p 5 0)), (1, .ref (p 3 x1))]) hx hb dX5_countOn_3 rfl hl (by decide) rfl (fun ls hl => ?_)
  exact k4 fu _ _ _ _ _ _ v1 hW hS (lv_sub hl [2, 3, 1, 0] rfl) hf
def f_X5_isOneOpenOn_L2 (fu : Nat) : Nat → Int32 → Int32 → ag_S → Option Int32
  | 0, _, _, _ => none
  | nf + 1, x1, x2, s => ag_bd (f_Jx4a65c_size_8abf5_3 fu s) fun r7 => if r7 ≤ x2 then (some 0) else (ag_bd (f_Jx4a65c_get_915e3_3 fu x2 s) fun r18 => if s 3 1 r18 = x1 then (if s 3 5 r18 = 0 then (some 1) else (f_X5_isOneOpenOn_L2 fu nf x1 (x2 + 1) s)) else (f_X5_isOneOpenOn_L2 fu nf x1 (x2 + 1) s))
def f_X5_isOneOpenOn (fu : Nat) (x1 : Int32) (s : ag_S) : Option Int32 := f_X5_isOneOpenOn_L2 fu fu x1 0 s
abbrev rm_X5_isOneOpenOn : Room := { frames := 3, cells := 0, slots := 0, locals := 64 }
theorem dd_yX5_isOneOpenOn : yX5_isOneOpenOn.cls = RX5 ∧ yX5_isOneOpenOn.cls ≠ "java/lang/invoke/MethodHandle" ∧ yX5_isOneOpenOn.cls ≠ "java/lang/invoke/VarHandle" ∧ (parseMethodDescriptor yX5_isOneOpenOn.desc).map (fun d => d.parameters.length) = some 1 := by decide +kernel
set_option maxHeartbeats 4000000 in
set_option maxRecDepth 100000 in
theorem c_X5_isOneOpenOn {z : ag_Z} {l : Launch} {n : ag_N} {p : ag_P} {s : ag_S} {fu : Nat} {x1 : Int32} {out : Int32} (t5 : vp_in 0 (n 5)) (v1 : vp_in x1 (n 3)) (hf : f_X5_isOneOpenOn fu x1 s = some out) : Met l yX5_isOneOpenOn (ag_ws yX5_isOneOpenOn cX5_isOneOpenOn 4 ((some FieldType.boolean))) rm_X5_isOneOpenOn (va_Pc [.ref (p 5 0), .ref (p 3 x1)] (ag_Pre z n p s)) (ag_Ri z n p out s) 0 0 (ag_A z) := by
  refine Met.ofW (cc := cX5_isOneOpenOn) (maxL := 4) (ret := (some FieldType.boolean)) (by decide) rfl ?_
  intro p0 e st m args below meth c s9 B hml hv
  obtain ⟨ha, h0, hG, hW⟩ := hv
  have hx := B.exec
  have hb := B.bytes
  have hr := B.returns
  have hts := atoms_spec (ws := ag_ws yX5_isOneOpenOn cX5_isOneOpenOn 4 ((some FieldType.boolean))) B.pre
  have hT : ∀ w ∈ ag_tbl, w.before args st = true := fun w h => hts w (List.mem_cons_of_mem _ h)
  have hown : st.vm.findClass RX5 = some m.cls := findClass_of_methodNamed B.named
  have hlocks := B.notSynchronized
  have hS : va_S (ag_A z) st.heap st.heap [] := va_S.rf
  obtain ⟨ls, hls, hl⟩ : ∃ ls, entryFrame m args 4 = F0 m 0 ls [] ∧ lv_has ls 4 [(0, .ref (p 5 0)), (1, .ref (p 3 x1))] := by rw [ha]; exact ag_entry m [.ref (p 5 0), .ref (p 3 x1)] (Nat.le_of_ble_eq_true rfl)
  rw [hls]
  have k2 : ∀ (nf : Nat) (x1 : Int32) (x2 : Int32) (H : Heap) (locs : List Loc) (ls : Array Slot) (vx1 : vp_in x1 (n 3)), ag_W z n p s H → va_S (ag_A z) st.heap H locs → lv_has ls 4 [(0, .ref (p 5 0)), (1, .ref (p 3 x1)), (2, .int x2)] → f_X5_isOneOpenOn_L2 fu nf x1 x2 s = some out → W p0 l e (headSpec (ag_ws yX5_isOneOpenOn cX5_isOneOpenOn 4 ((some FieldType.boolean))) rm_X5_isOneOpenOn).room st m args below meth c H locs 0 0 (MQ below (ag_Ri z n p out s) args st 0 0 (ag_A z)) (F0 m 2 ls []) := by
    intro nf
    induction nf with
    | zero => intro x1 x2 H locs ls vx1 hW hS hl hf; rw [f_X5_isOneOpenOn_L2] at hf; cases hf
    | succ nf ih =>
      intro x1 x2 H locs ls vx1 hW hS hl hf
      rw [f_X5_isOneOpenOn_L2] at hf
      refine lv_iload_n hx hb dX5_isOneOpenOn_2 rfl (lv_at hl 2 rfl) ?_
      refine lv_aload_n hx hb dX5_isOneOpenOn_3 rfl (lv_at hl 0 rfl) ?_
      refine g5_3 hx hb hT hown hG hW t5 q154 dX5_isOneOpenOn_4 ?_
      have t13 := ag_fix hW (k := 5) (f := 3) (t := 13) t5 rfl rfl
      obtain ⟨r7, hg7, hf⟩ := ag_bs hf
      refine ag_cVi hx hb hml hT hown hG h0 hS hW (c_Jx4a65c_size_8abf5_3 t13 hg7) ⟨rfl, rfl⟩ q193 q194 q195 q4 q196 dd_yJx4a65c_size_8abf5 ⟨Nat.le_of_ble_eq_true rfl, Nat.le_of_ble_eq_true rfl⟩ t13 rfl rfl hl.1 rfl (Nat.le_of_ble_eq_true rfl) ⟨Nat.le_of_ble_eq_true rfl, Nat.le_of_ble_eq_true rfl⟩ dX5_isOneOpenOn_7 (fun H locs hW hS => ?_)
      refine lv_icmp_ge (tgt := 48) hx hb dX5_isOneOpenOn_10 (by decide) (fun c10 => ?_) (fun c10 => ?_)
      · have hf := ag_t c10 hf
        refine lv_iconst (v := 0) hx hb dX5_isOneOpenOn_48 (by decide) ?_
        exact ag_iret hx hb hr rfl hlocks hS (Option.some.inj hf) hW dX5_isOneOpenOn_49
      · have hf := ag_f c10 hf
        refine lv_aload_n hx hb dX5_isOneOpenOn_13 rfl (lv_at hl 0 rfl) ?_
        refine g5_3 hx hb hT hown hG hW t5 q154 dX5_isOneOpenOn_14 ?_
        have t13 := ag_fix hW (k := 5) (f := 3) (t := 13) t5 rfl rfl
        refine lv_iload_n hx hb dX5_isOneOpenOn_17 rfl (lv_at hl 2 rfl) ?_
        obtain ⟨r18, hg18, hf⟩ := ag_bs hf
        refine ag_cVr hx hb hml hT hown hG h0 hS hW (c_Jx4a65c_get_915e3_3 t13 hg18) ⟨rfl, rfl⟩ q265 q266 q267 q4 q268 dd_yJx4a65c_get_915e3 ⟨Nat.le_of_ble_eq_true rfl, Nat.le_of_ble_eq_true rfl⟩ t13 rfl rfl hl.1 rfl (Nat.le_of_ble_eq_true rfl) ⟨Nat.le_of_ble_eq_true rfl, Nat.le_of_ble_eq_true rfl⟩ dX5_isOneOpenOn_18 (fun H locs hW hS v18 => ?_)
        refine ag_cast hx hb hown hG hW v18 rfl rfl (hT _ q385) dX5_isOneOpenOn_21 ?_
        refine lv_astore_n (lv' := [(3, .ref (p 3 r18)), (0, .ref (p 5 0)), (1, .ref (p 3 x1)), (2, .int x2)]) hx hb dX5_isOneOpenOn_24 rfl hl (by decide) rfl (fun ls hl => ?_)
        refine lv_aload_n hx hb dX5_isOneOpenOn_25 rfl (lv_at hl 0 rfl) ?_
        refine g3_1 hx hb hT hown hG hW v18 q394 dX5_isOneOpenOn_26 ?_
        have o26 := ag_W.okf hW (k := 3) (f := 1) (t := 3) rfl rfl (by decide) r18
        refine lv_aload_n hx hb dX5_isOneOpenOn_29 rfl (lv_at hl 2 rfl) ?_
        refine ag_acmp_ne (t := 3) (v := s 3 1 r18) (w := x1) (tgt := 42) hx hb hW o26 vx1 dX5_isOneOpenOn_30 (by decide) (fun c30 => ?_) (fun c30 => ?_)
        · have hf := ag_f c30 hf
          refine lv_iinc (v := x2 + 1) (lv' := [(2, .int (x2 + 1)), (3, .ref (p 3 r18)), (0, .ref (p 5 0)), (1, .ref (p 3 x1))]) hx hb dX5_isOneOpenOn_42 hl (k := 3) rfl rfl (by decide) rfl (fun ls hl => ?_)
          refine lv_goto (tgt := 2) hx hb dX5_isOneOpenOn_45 (by decide) ?_
          exact ih _ _ _ _ _ vx1 hW hS (lv_sub hl [2, 3, 0] rfl) hf
        · have hf := ag_t c30 hf
          refine lv_aload_n hx hb dX5_isOneOpenOn_33 rfl (lv_at hl 0 rfl) ?_
          refine g3_5 hx hb hT hown hG hW v18 q403 dX5_isOneOpenOn_34 ?_
          refine lv_if_ne (tgt := 42) hx hb dX5_isOneOpenOn_37 (by decide) (fun c37 => ?_) (fun c37 => ?_)
          · have hf := ag_f c37 hf
            refine lv_iinc (v := x2 + 1) (lv' := [(2, .int (x2 + 1)), (3, .ref (p 3 r18)), (0, .ref (p 5 0)), (1, .ref (p 3 x1))]) hx hb dX5_isOneOpenOn_42 hl (k := 3) rfl rfl (by decide) rfl (fun ls hl => ?_)
            refine lv_goto (tgt := 2) hx hb dX5_isOneOpenOn_45 (by decide) ?_
            exact ih _ _ _ _ _ vx1 hW hS (lv_sub hl [2, 3, 0] rfl) hf
          · have hf := ag_t c37 hf
            refine lv_iconst (v := 1) hx hb dX5_isOneOpenOn_40 (by decide) ?_
            exact ag_iret hx hb hr rfl hlocks hS (Option.some.inj hf) hW dX5_isOneOpenOn_41
  unfold f_X5_isOneOpenOn at hf
  refine lv_iconst (v := 0) hx hb dX5_isOneOpenOn_0 (by decide) ?_
  refine lv_istore_n (lv' := [(2, .int 0), (0, .ref (p 5 0)), (1, .ref (p 3 x1))]) hx hb dX5_isOneOpenOn_1 rfl hl (by decide) rfl (fun ls hl => ?_)
  exact k2 fu _ _ _ _ _ v1 hW hS (lv_sub hl [1, 2, 0] rfl) hf
def f_X5_standsOfLinesFrom_L4 (fu : Nat) : Nat → Int32 → Int32 → Int32 → ag_S → Option Int32
  | 0, _, _, _, _ => none
  | nf + 1, x1, x2, x3, s => ag_bd (f_Jx4a65c_size_8abf5_2 fu s) fun r9 => if r9 ≤ x3 then (some x2) else (ag_bd (f_Jx4a65c_get_915e3_2 fu x3 s) fun r20 => if s 2 1 r20 = x1 then (ag_bd (f_X2_stands fu r20 s) fun r40 => f_X5_standsOfLinesFrom_L4 fu nf x1 (x2 + r40) (x3 + 1) s) else (f_X5_standsOfLinesFrom_L4 fu nf x1 x2 (x3 + 1) s))
def f_X5_standsOfLinesFrom (fu : Nat) (x1 : Int32) (s : ag_S) : Option Int32 := f_X5_standsOfLinesFrom_L4 fu fu x1 0 0 s
abbrev rm_X5_standsOfLinesFrom : Room := { frames := 3, cells := 0, slots := 0, locals := 64 }
theorem dd_yX5_standsOfLinesFrom : yX5_standsOfLinesFrom.cls = RX5 ∧ yX5_standsOfLinesFrom.cls ≠ "java/lang/invoke/MethodHandle" ∧ yX5_standsOfLinesFrom.cls ≠ "java/lang/invoke/VarHandle" ∧ (parseMethodDescriptor yX5_standsOfLinesFrom.desc).map (fun d => d.parameters.length) = some 1 := by decide +kernel
set_option maxHeartbeats 4000000 in
set_option maxRecDepth 100000 in
theorem c_X5_standsOfLinesFrom {z : ag_Z} {l : Launch} {n : ag_N} {p : ag_P} {s : ag_S} {fu : Nat} {x1 : Int32} {out : Int32} (t5 : vp_in 0 (n 5)) (v1 : vp_in x1 (n 0)) (hf : f_X5_standsOfLinesFrom fu x1 s = some out) : Met l yX5_standsOfLinesFrom (ag_ws yX5_standsOfLinesFrom cX5_standsOfLinesFrom 5 ((some FieldType.int))) rm_X5_standsOfLinesFrom (va_Pc [.ref (p 5 0), .ref (p 0 x1)] (ag_Pre z n p s)) (ag_Ri z n p out s) 0 0 (ag_A z) := by
  refine Met.ofW (cc := cX5_standsOfLinesFrom) (maxL := 5) (ret := (some FieldType.int)) (by decide) rfl ?_
  intro p0 e st m args below meth c s9 B hml hv
  obtain ⟨ha, h0, hG, hW⟩ := hv
  have hx := B.exec
  have hb := B.bytes
  have hr := B.returns
  have hts := atoms_spec (ws := ag_ws yX5_standsOfLinesFrom cX5_standsOfLinesFrom 5 ((some FieldType.int))) B.pre
  have hT : ∀ w ∈ ag_tbl, w.before args st = true := fun w h => hts w (List.mem_cons_of_mem _ h)
  have hown : st.vm.findClass RX5 = some m.cls := findClass_of_methodNamed B.named
  have hlocks := B.notSynchronized
  have hS : va_S (ag_A z) st.heap st.heap [] := va_S.rf
  obtain ⟨ls, hls, hl⟩ : ∃ ls, entryFrame m args 5 = F0 m 0 ls [] ∧ lv_has ls 5 [(0, .ref (p 5 0)), (1, .ref (p 0 x1))] := by rw [ha]; exact ag_entry m [.ref (p 5 0), .ref (p 0 x1)] (Nat.le_of_ble_eq_true rfl)
  rw [hls]
  have k4 : ∀ (nf : Nat) (x1 : Int32) (x2 : Int32) (x3 : Int32) (H : Heap) (locs : List Loc) (ls : Array Slot) (vx1 : vp_in x1 (n 0)), ag_W z n p s H → va_S (ag_A z) st.heap H locs → lv_has ls 5 [(0, .ref (p 5 0)), (1, .ref (p 0 x1)), (2, .int x2), (3, .int x3)] → f_X5_standsOfLinesFrom_L4 fu nf x1 x2 x3 s = some out → W p0 l e (headSpec (ag_ws yX5_standsOfLinesFrom cX5_standsOfLinesFrom 5 ((some FieldType.int))) rm_X5_standsOfLinesFrom).room st m args below meth c H locs 0 0 (MQ below (ag_Ri z n p out s) args st 0 0 (ag_A z)) (F0 m 4 ls []) := by
    intro nf
    induction nf with
    | zero => intro x1 x2 x3 H locs ls vx1 hW hS hl hf; rw [f_X5_standsOfLinesFrom_L4] at hf; cases hf
    | succ nf ih =>
      intro x1 x2 x3 H locs ls vx1 hW hS hl hf
      rw [f_X5_standsOfLinesFrom_L4] at hf
      refine lv_iload_n hx hb dX5_standsOfLinesFrom_4 rfl (lv_at hl 3 rfl) ?_
      refine lv_aload_n hx hb dX5_standsOfLinesFrom_5 rfl (lv_at hl 0 rfl) ?_
      refine g5_2 hx hb hT hown hG hW t5 q153 dX5_standsOfLinesFrom_6 ?_
      have t12 := ag_fix hW (k := 5) (f := 2) (t := 12) t5 rfl rfl
      obtain ⟨r9, hg9, hf⟩ := ag_bs hf
      refine ag_cVi hx hb hml hT hown hG h0 hS hW (c_Jx4a65c_size_8abf5_2 t12 hg9) ⟨rfl, rfl⟩ q193 q194 q195 q4 q196 dd_yJx4a65c_size_8abf5 ⟨Nat.le_of_ble_eq_true rfl, Nat.le_of_ble_eq_true rfl⟩ t12 rfl rfl hl.1 rfl (Nat.le_of_ble_eq_true rfl) ⟨Nat.le_of_ble_eq_true rfl, Nat.le_of_ble_eq_true rfl⟩ dX5_standsOfLinesFrom_9 (fun H locs hW hS => ?_)
      refine lv_icmp_ge (tgt := 51) hx hb dX5_standsOfLinesFrom_12 (by decide) (fun c12 => ?_) (fun c12 => ?_)
      · have hf := ag_t c12 hf
        refine lv_iload_n hx hb dX5_standsOfLinesFrom_51 rfl (lv_at hl 2 rfl) ?_
        exact ag_iret hx hb hr rfl hlocks hS (Option.some.inj hf) hW dX5_standsOfLinesFrom_52
      · have hf := ag_f c12 hf
        refine lv_aload_n hx hb dX5_standsOfLinesFrom_15 rfl (lv_at hl 0 rfl) ?_
        refine g5_2 hx hb hT hown hG hW t5 q153 dX5_standsOfLinesFrom_16 ?_
        have t12 := ag_fix hW (k := 5) (f := 2) (t := 12) t5 rfl rfl
        refine lv_iload_n hx hb dX5_standsOfLinesFrom_19 rfl (lv_at hl 3 rfl) ?_
        obtain ⟨r20, hg20, hf⟩ := ag_bs hf
        refine ag_cVr hx hb hml hT hown hG h0 hS hW (c_Jx4a65c_get_915e3_2 t12 hg20) ⟨rfl, rfl⟩ q265 q266 q267 q4 q268 dd_yJx4a65c_get_915e3 ⟨Nat.le_of_ble_eq_true rfl, Nat.le_of_ble_eq_true rfl⟩ t12 rfl rfl hl.1 rfl (Nat.le_of_ble_eq_true rfl) ⟨Nat.le_of_ble_eq_true rfl, Nat.le_of_ble_eq_true rfl⟩ dX5_standsOfLinesFrom_20 (fun H locs hW hS v20 => ?_)
        refine ag_cast hx hb hown hG hW v20 rfl rfl (hT _ q300) dX5_standsOfLinesFrom_23 ?_
        refine lv_astore (lv' := [(4, .ref (p 2 r20)), (0, .ref (p 5 0)), (1, .ref (p 0 x1)), (2, .int x2), (3, .int x3)]) hx hb dX5_standsOfLinesFrom_26 hl (by decide) rfl (fun ls hl => ?_)
        refine lv_aload hx hb dX5_standsOfLinesFrom_28 (lv_at hl 0 rfl) ?_
        refine g2_1 hx hb hT hown hG hW v20 q309 dX5_standsOfLinesFrom_30 ?_
        have o30 := ag_W.okf hW (k := 2) (f := 1) (t := 0) rfl rfl (by decide) r20
        refine lv_aload_n hx hb dX5_standsOfLinesFrom_33 rfl (lv_at hl 2 rfl) ?_
        refine ag_acmp_ne (t := 0) (v := s 2 1 r20) (w := x1) (tgt := 45) hx hb hW o30 vx1 dX5_standsOfLinesFrom_34 (by decide) (fun c34 => ?_) (fun c34 => ?_)
        · have hf := ag_f c34 hf
          refine lv_iinc (v := x3 + 1) (lv' := [(3, .int (x3 + 1)), (4, .ref (p 2 r20)), (0, .ref (p 5 0)), (1, .ref (p 0 x1)), (2, .int x2)]) hx hb dX5_standsOfLinesFrom_45 hl (k := 4) rfl rfl (by decide) rfl (fun ls hl => ?_)
          refine lv_goto (tgt := 4) hx hb dX5_standsOfLinesFrom_48 (by decide) ?_
          exact ih _ _ _ _ _ _ vx1 hW hS (lv_sub hl [2, 3, 4, 0] rfl) hf
        · have hf := ag_t c34 hf
          refine lv_iload_n hx hb dX5_standsOfLinesFrom_37 rfl (lv_at hl 3 rfl) ?_
          refine lv_aload hx hb dX5_standsOfLinesFrom_38 (lv_at hl 0 rfl) ?_
          obtain ⟨r40, hg40, hf⟩ := ag_bs hf
          refine ag_cVi hx hb hml hT hown hG h0 hS hW (c_X2_stands v20 hg40) ⟨rfl, rfl⟩ q509 q510 q511 q19 q512 dd_yX2_stands ⟨Nat.le_of_ble_eq_true rfl, Nat.le_of_ble_eq_true rfl⟩ v20 rfl rfl hl.1 rfl (Nat.le_of_ble_eq_true rfl) ⟨Nat.le_of_ble_eq_true rfl, Nat.le_of_ble_eq_true rfl⟩ dX5_standsOfLinesFrom_40 (fun H locs hW hS => ?_)
          refine lv_iadd hx hb dX5_standsOfLinesFrom_43 ?_
          refine lv_istore_n (lv' := [(2, .int (x2 + r40)), (4, .ref (p 2 r20)), (0, .ref (p 5 0)), (1, .ref (p 0 x1)), (3, .int x3)]) hx hb dX5_standsOfLinesFrom_44 rfl hl (by decide) rfl (fun ls hl => ?_)
          refine lv_iinc (v := x3 + 1) (lv' := [(3, .int (x3 + 1)), (2, .int (x2 + r40)), (4, .ref (p 2 r20)), (0, .ref (p 5 0)), (1, .ref (p 0 x1))]) hx hb dX5_standsOfLinesFrom_45 hl (k := 4) rfl rfl (by decide) rfl (fun ls hl => ?_)
          refine lv_goto (tgt := 4) hx hb dX5_standsOfLinesFrom_48 (by decide) ?_
          exact ih _ _ _ _ _ _ vx1 hW hS (lv_sub hl [3, 4, 1, 0] rfl) hf
  unfold f_X5_standsOfLinesFrom at hf
  refine lv_iconst (v := 0) hx hb dX5_standsOfLinesFrom_0 (by decide) ?_
  refine lv_istore_n (lv' := [(2, .int 0), (0, .ref (p 5 0)), (1, .ref (p 0 x1))]) hx hb dX5_standsOfLinesFrom_1 rfl hl (by decide) rfl (fun ls hl => ?_)
  refine lv_iconst (v := 0) hx hb dX5_standsOfLinesFrom_2 (by decide) ?_
  refine lv_istore_n (lv' := [(3, .int 0), (2, .int 0), (0, .ref (p 5 0)), (1, .ref (p 0 x1))]) hx hb dX5_standsOfLinesFrom_3 rfl hl (by decide) rfl (fun ls hl => ?_)
  exact k4 fu _ _ _ _ _ _ v1 hW hS (lv_sub hl [2, 3, 1, 0] rfl) hf
def f_X5_targetNow_L4 (fu : Nat) : Nat → Int64 → Int32 → ag_S → Option Int32
  | 0, _, _, _ => none
  | nf + 1, x1, x3, s => ag_bd (f_Jx4a65c_size_8abf5_2 fu s) fun r9 => if r9 ≤ x3 then (if (0 : Int32) ≤ lg_cmp x1 0 then (some (((x1 * ((s 5 6 0 : Int32).toInt64)) / 100 : Int64).toInt32)) else (some 0)) else (ag_bd (f_Jx4a65c_get_915e3_2 fu x3 s) fun r21 => ag_bd (f_X2_stands fu r21 s) fun r27 => f_X5_targetNow_L4 fu nf (x1 + ((r27 : Int32).toInt64)) (x3 + 1) s)
def f_X5_targetNow (fu : Nat) (s : ag_S) : Option Int32 := f_X5_targetNow_L4 fu fu 0 0 s
abbrev rm_X5_targetNow : Room := { frames := 3, cells := 0, slots := 0, locals := 64 }
theorem dd_yX5_targetNow : yX5_targetNow.cls = RX5 ∧ yX5_targetNow.cls ≠ "java/lang/invoke/MethodHandle" ∧ yX5_targetNow.cls ≠ "java/lang/invoke/VarHandle" ∧ (parseMethodDescriptor yX5_targetNow.desc).map (fun d => d.parameters.length) = some 0 := by decide +kernel
set_option maxHeartbeats 4000000 in
set_option maxRecDepth 100000 in
theorem c_X5_targetNow {z : ag_Z} {l : Launch} {n : ag_N} {p : ag_P} {s : ag_S} {fu : Nat} {out : Int32} (t5 : vp_in 0 (n 5)) (hf : f_X5_targetNow fu  s = some out) : Met l yX5_targetNow (ag_ws yX5_targetNow cX5_targetNow 4 ((some FieldType.int))) rm_X5_targetNow (va_Pc [.ref (p 5 0)] (ag_Pre z n p s)) (ag_Ri z n p out s) 0 0 (ag_A z) := by
  refine Met.ofW (cc := cX5_targetNow) (maxL := 4) (ret := (some FieldType.int)) (by decide) rfl ?_
  intro p0 e st m args below meth c s9 B hml hv
  obtain ⟨ha, h0, hG, hW⟩ := hv
  have hx := B.exec
  have hb := B.bytes
  have hr := B.returns
  have hts := atoms_spec (ws := ag_ws yX5_targetNow cX5_targetNow 4 ((some FieldType.int))) B.pre
  have hT : ∀ w ∈ ag_tbl, w.before args st = true := fun w h => hts w (List.mem_cons_of_mem _ h)
  have hown : st.vm.findClass RX5 = some m.cls := findClass_of_methodNamed B.named
  have hlocks := B.notSynchronized
  have hS : va_S (ag_A z) st.heap st.heap [] := va_S.rf
  obtain ⟨ls, hls, hl⟩ : ∃ ls, entryFrame m args 4 = F0 m 0 ls [] ∧ lv_has ls 4 [(0, .ref (p 5 0))] := by rw [ha]; exact ag_entry m [.ref (p 5 0)] (Nat.le_of_ble_eq_true rfl)
  rw [hls]
  have k4 : ∀ (nf : Nat) (x1 : Int64) (x3 : Int32) (H : Heap) (locs : List Loc) (ls : Array Slot), ag_W z n p s H → va_S (ag_A z) st.heap H locs → lv_has ls 4 [(0, .ref (p 5 0)), (1, .long (x1)), (3, .int x3)] → f_X5_targetNow_L4 fu nf x1 x3 s = some out → W p0 l e (headSpec (ag_ws yX5_targetNow cX5_targetNow 4 ((some FieldType.int))) rm_X5_targetNow).room st m args below meth c H locs 0 0 (MQ below (ag_Ri z n p out s) args st 0 0 (ag_A z)) (F0 m 4 ls []) := by
    intro nf
    induction nf with
    | zero => intro x1 x3 H locs ls hW hS hl hf; rw [f_X5_targetNow_L4] at hf; cases hf
    | succ nf ih =>
      intro x1 x3 H locs ls hW hS hl hf
      rw [f_X5_targetNow_L4] at hf
      refine lv_iload_n hx hb dX5_targetNow_4 rfl (lv_at hl 2 rfl) ?_
      refine lv_aload_n hx hb dX5_targetNow_5 rfl (lv_at hl 0 rfl) ?_
      refine g5_2 hx hb hT hown hG hW t5 q153 dX5_targetNow_6 ?_
      have t12 := ag_fix hW (k := 5) (f := 2) (t := 12) t5 rfl rfl
      obtain ⟨r9, hg9, hf⟩ := ag_bs hf
      refine ag_cVi hx hb hml hT hown hG h0 hS hW (c_Jx4a65c_size_8abf5_2 t12 hg9) ⟨rfl, rfl⟩ q193 q194 q195 q4 q196 dd_yJx4a65c_size_8abf5 ⟨Nat.le_of_ble_eq_true rfl, Nat.le_of_ble_eq_true rfl⟩ t12 rfl rfl hl.1 rfl (Nat.le_of_ble_eq_true rfl) ⟨Nat.le_of_ble_eq_true rfl, Nat.le_of_ble_eq_true rfl⟩ dX5_targetNow_9 (fun H locs hW hS => ?_)
      refine lv_icmp_ge (tgt := 39) hx hb dX5_targetNow_12 (by decide) (fun c12 => ?_) (fun c12 => ?_)
      · have hf := ag_t c12 hf
        refine lv_lload_n hx hb dX5_targetNow_39 rfl (lv_at hl 1 rfl) ?_
        refine lv_lconst (v := 0) hx hb dX5_targetNow_40 (by decide) ?_
        refine W.lcmp hx hb dX5_targetNow_41 ?_
        refine lv_if_ge (tgt := 49) hx hb dX5_targetNow_42 (by decide) (fun c42 => ?_) (fun c42 => ?_)
        · have hf := ag_t c42 hf
          refine lv_lload_n hx hb dX5_targetNow_49 rfl (lv_at hl 1 rfl) ?_
          refine lv_aload_n hx hb dX5_targetNow_50 rfl (lv_at hl 0 rfl) ?_
          refine g5_6 hx hb hT hown hG hW t5 q157 dX5_targetNow_51 ?_
          refine lv_i2l hx hb dX5_targetNow_54 rfl ?_
          refine lv_lmul hx hb dX5_targetNow_55 ?_
          refine lv_ldc2 (v := 100) hx hb hown (hT _ q717) dX5_targetNow_56 ?_
          refine lv_ldiv hx hb dX5_targetNow_59 (by decide) ?_
          refine lv_l2i hx hb dX5_targetNow_60 rfl ?_
          exact ag_iret hx hb hr rfl hlocks hS (Option.some.inj hf) hW dX5_targetNow_61
        · have hf := ag_f c42 hf
          refine lv_iconst (v := 0) hx hb dX5_targetNow_45 (by decide) ?_
          refine lv_goto (tgt := 61) hx hb dX5_targetNow_46 (by decide) ?_
          exact ag_iret hx hb hr rfl hlocks hS (Option.some.inj hf) hW dX5_targetNow_61
      · have hf := ag_f c12 hf
        refine lv_lload_n hx hb dX5_targetNow_15 rfl (lv_at hl 1 rfl) ?_
        refine lv_aload_n hx hb dX5_targetNow_16 rfl (lv_at hl 0 rfl) ?_
        refine g5_2 hx hb hT hown hG hW t5 q153 dX5_targetNow_17 ?_
        have t12 := ag_fix hW (k := 5) (f := 2) (t := 12) t5 rfl rfl
        refine lv_iload_n hx hb dX5_targetNow_20 rfl (lv_at hl 2 rfl) ?_
        obtain ⟨r21, hg21, hf⟩ := ag_bs hf
        refine ag_cVr hx hb hml hT hown hG h0 hS hW (c_Jx4a65c_get_915e3_2 t12 hg21) ⟨rfl, rfl⟩ q265 q266 q267 q4 q268 dd_yJx4a65c_get_915e3 ⟨Nat.le_of_ble_eq_true rfl, Nat.le_of_ble_eq_true rfl⟩ t12 rfl rfl hl.1 rfl (Nat.le_of_ble_eq_true rfl) ⟨Nat.le_of_ble_eq_true rfl, Nat.le_of_ble_eq_true rfl⟩ dX5_targetNow_21 (fun H locs hW hS v21 => ?_)
        refine ag_cast hx hb hown hG hW v21 rfl rfl (hT _ q300) dX5_targetNow_24 ?_
        obtain ⟨r27, hg27, hf⟩ := ag_bs hf
        refine ag_cVi hx hb hml hT hown hG h0 hS hW (c_X2_stands v21 hg27) ⟨rfl, rfl⟩ q509 q510 q511 q19 q512 dd_yX2_stands ⟨Nat.le_of_ble_eq_true rfl, Nat.le_of_ble_eq_true rfl⟩ v21 rfl rfl hl.1 rfl (Nat.le_of_ble_eq_true rfl) ⟨Nat.le_of_ble_eq_true rfl, Nat.le_of_ble_eq_true rfl⟩ dX5_targetNow_27 (fun H locs hW hS => ?_)
        refine lv_i2l hx hb dX5_targetNow_30 rfl ?_
        refine lv_ladd hx hb dX5_targetNow_31 ?_
        refine lv_lstore_n (lv' := [(1, .long (x1 + ((r27 : Int32).toInt64))), (0, .ref (p 5 0)), (3, .int x3)]) hx hb dX5_targetNow_32 rfl hl (by decide) rfl (fun ls hl => ?_)
        refine lv_iinc (v := x3 + 1) (lv' := [(3, .int (x3 + 1)), (1, .long (x1 + ((r27 : Int32).toInt64))), (0, .ref (p 5 0))]) hx hb dX5_targetNow_33 hl (k := 2) rfl rfl (by decide) rfl (fun ls hl => ?_)
        refine lv_goto (tgt := 4) hx hb dX5_targetNow_36 (by decide) ?_
        exact ih _ _ _ _ _ hW hS (lv_sub hl [2, 1, 0] rfl) hf
  unfold f_X5_targetNow at hf
  refine lv_lconst (v := 0) hx hb dX5_targetNow_0 (by decide) ?_
  refine lv_lstore_n (lv' := [(1, .long (0)), (0, .ref (p 5 0))]) hx hb dX5_targetNow_1 rfl hl (by decide) rfl (fun ls hl => ?_)
  refine lv_iconst (v := 0) hx hb dX5_targetNow_2 (by decide) ?_
  refine lv_istore_n (lv' := [(3, .int 0), (1, .long (0)), (0, .ref (p 5 0))]) hx hb dX5_targetNow_3 rfl hl (by decide) rfl (fun ls hl => ?_)
  exact k4 fu _ _ _ _ _ hW hS (lv_sub hl [2, 1, 0] rfl) hf
def f_X5_countsByVotes_L2 (fu : Nat) : Nat → Int32 → ag_S → Option Int32
  | 0, _, _ => none
  | nf + 1, x1, s => if x1 = -1 then (some 1) else (if s 3 5 x1 = 0 then (some 0) else (if s 3 7 x1 = 0 then (ag_bd (f_X0_isWon fu x1 s) fun r21 => if r21 = 0 then (some 0) else (f_X5_countsByVotes_L2 fu nf (s 3 1 x1) s)) else (some 0)))
def f_X5_countsByVotes (fu : Nat) (x0 : Int32) (s : ag_S) : Option Int32 := f_X5_countsByVotes_L2 fu fu x0 s
abbrev rm_X5_countsByVotes : Room := { frames := 3, cells := 0, slots := 0, locals := 60 }
theorem dd_yX5_countsByVotes : yX5_countsByVotes.cls ≠ "java/lang/invoke/MethodHandle" ∧ yX5_countsByVotes.cls ≠ "java/lang/invoke/VarHandle" ∧ (parseMethodDescriptor yX5_countsByVotes.desc).map (fun d => d.parameters.length) = some 1 := by decide +kernel
set_option maxHeartbeats 4000000 in
set_option maxRecDepth 100000 in
theorem c_X5_countsByVotes {z : ag_Z} {l : Launch} {n : ag_N} {p : ag_P} {s : ag_S} {fu : Nat} {x0 : Int32} {out : Int32} (v0 : vp_in x0 (n 3)) (hf : f_X5_countsByVotes fu x0 s = some out) : Met l yX5_countsByVotes (ag_ws yX5_countsByVotes cX5_countsByVotes 2 ((some FieldType.boolean))) rm_X5_countsByVotes (va_Pc [.ref (p 3 x0)] (ag_Pre z n p s)) (ag_Ri z n p out s) 0 0 (ag_A z) := by
  refine Met.ofW (cc := cX5_countsByVotes) (maxL := 2) (ret := (some FieldType.boolean)) (by decide) rfl ?_
  intro p0 e st m args below meth c s9 B hml hv
  obtain ⟨ha, h0, hG, hW⟩ := hv
  have hx := B.exec
  have hb := B.bytes
  have hr := B.returns
  have hts := atoms_spec (ws := ag_ws yX5_countsByVotes cX5_countsByVotes 2 ((some FieldType.boolean))) B.pre
  have hT : ∀ w ∈ ag_tbl, w.before args st = true := fun w h => hts w (List.mem_cons_of_mem _ h)
  have hown : st.vm.findClass RX5 = some m.cls := findClass_of_methodNamed B.named
  have hlocks := B.notSynchronized
  have hS : va_S (ag_A z) st.heap st.heap [] := va_S.rf
  obtain ⟨ls, hls, hl⟩ : ∃ ls, entryFrame m args 2 = F0 m 0 ls [] ∧ lv_has ls 2 [(0, .ref (p 3 x0))] := by rw [ha]; exact ag_entry m [.ref (p 3 x0)] (Nat.le_of_ble_eq_true rfl)
  rw [hls]
  have k2 : ∀ (nf : Nat) (x1 : Int32) (H : Heap) (locs : List Loc) (ls : Array Slot) (ox1 : ag_ok n 3 x1), ag_W z n p s H → va_S (ag_A z) st.heap H locs → lv_has ls 2 [(1, va_rf (ag_ro z p 3 x1))] → f_X5_countsByVotes_L2 fu nf x1 s = some out → W p0 l e (headSpec (ag_ws yX5_countsByVotes cX5_countsByVotes 2 ((some FieldType.boolean))) rm_X5_countsByVotes).room st m args below meth c H locs 0 0 (MQ below (ag_Ri z n p out s) args st 0 0 (ag_A z)) (F0 m 2 ls []) := by
    intro nf
    induction nf with
    | zero => intro x1 H locs ls ox1 hW hS hl hf; rw [f_X5_countsByVotes_L2] at hf; cases hf
    | succ nf ih =>
      intro x1 H locs ls ox1 hW hS hl hf
      rw [f_X5_countsByVotes_L2] at hf
      refine ag_aloadq hx hb dX5_countsByVotes_2 rfl (lv_at hl 0 rfl) ?_
      refine ag_ifnull (tgt := 37) hx hb ox1 dX5_countsByVotes_3 (by decide) (fun c3 => ?_) (fun c3 => ?_)
      · have hf := ag_t c3 hf
        refine lv_iconst (v := 1) hx hb dX5_countsByVotes_37 (by decide) ?_
        exact ag_iret hx hb hr rfl hlocks hS (Option.some.inj hf) hW dX5_countsByVotes_38
      · have hf := ag_f c3 hf
        have e3 := (ag_refq (z := z) (p := p) ox1 c3)
        have v3 := (ag_ref (z := z) (p := p) ox1 c3).2
        rw [e3] at hl
        refine lv_aload_n hx hb dX5_countsByVotes_6 rfl (lv_at hl 0 rfl) ?_
        refine g3_5 hx hb hT hown hG hW v3 q403 dX5_countsByVotes_7 ?_
        refine lv_if_eq (tgt := 27) hx hb dX5_countsByVotes_10 (by decide) (fun c10 => ?_) (fun c10 => ?_)
        · have hf := ag_t c10 hf
          refine lv_iconst (v := 0) hx hb dX5_countsByVotes_27 (by decide) ?_
          exact ag_iret hx hb hr rfl hlocks hS (Option.some.inj hf) hW dX5_countsByVotes_28
        · have hf := ag_f c10 hf
          refine lv_aload_n hx hb dX5_countsByVotes_13 rfl (lv_at hl 0 rfl) ?_
          refine g3_7 hx hb hT hown hG hW v3 q407 dX5_countsByVotes_14 ?_
          refine lv_if_ne (tgt := 27) hx hb dX5_countsByVotes_17 (by decide) (fun c17 => ?_) (fun c17 => ?_)
          · have hf := ag_f c17 hf
            refine lv_iconst (v := 0) hx hb dX5_countsByVotes_27 (by decide) ?_
            exact ag_iret hx hb hr rfl hlocks hS (Option.some.inj hf) hW dX5_countsByVotes_28
          · have hf := ag_t c17 hf
            refine lv_aload_n hx hb dX5_countsByVotes_20 rfl (lv_at hl 0 rfl) ?_
            obtain ⟨r21, hg21, hf⟩ := ag_bs hf
            refine ag_cVi hx hb hml hT hown hG h0 hS hW (c_X0_isWon v3 hg21) ⟨rfl, rfl⟩ q481 q482 q483 q21 q484 dd_yX0_isWon ⟨Nat.le_of_ble_eq_true rfl, Nat.le_of_ble_eq_true rfl⟩ v3 rfl rfl hl.1 rfl (Nat.le_of_ble_eq_true rfl) ⟨Nat.le_of_ble_eq_true rfl, Nat.le_of_ble_eq_true rfl⟩ dX5_countsByVotes_21 (fun H locs hW hS => ?_)
            refine lv_if_ne (tgt := 29) hx hb dX5_countsByVotes_24 (by decide) (fun c24 => ?_) (fun c24 => ?_)
            · have hf := ag_f c24 hf
              refine lv_aload_n hx hb dX5_countsByVotes_29 rfl (lv_at hl 0 rfl) ?_
              refine g3_1 hx hb hT hown hG hW v3 q394 dX5_countsByVotes_30 ?_
              have o30 := ag_W.okf hW (k := 3) (f := 1) (t := 3) rfl rfl (by decide) x1
              refine ag_astoreq (lv' := [(1, va_rf (ag_ro z p 3 (s 3 1 x1)))]) hx hb dX5_countsByVotes_33 rfl hl (by decide) rfl (fun ls hl => ?_)
              refine lv_goto (tgt := 2) hx hb dX5_countsByVotes_34 (by decide) ?_
              exact ih _ _ _ _ o30 hW hS (lv_sub hl [0] rfl) hf
            · have hf := ag_t c24 hf
              refine lv_iconst (v := 0) hx hb dX5_countsByVotes_27 (by decide) ?_
              exact ag_iret hx hb hr rfl hlocks hS (Option.some.inj hf) hW dX5_countsByVotes_28
  unfold f_X5_countsByVotes at hf
  refine lv_aload_n hx hb dX5_countsByVotes_0 rfl (lv_at hl 0 rfl) ?_
  refine lv_astore_n (lv' := [(1, .ref (p 3 x0)), (0, .ref (p 3 x0))]) hx hb dX5_countsByVotes_1 rfl hl (by decide) rfl (fun ls hl => ?_)
  exact k2 fu _ _ _ _ (Or.inr v0) hW hS (by rw [ag_refv (z := z) (p := p) v0 hW]; exact lv_sub hl [0] rfl) hf
def f_X5_numberOf (fu : Nat) (x0 : Int32) (s : ag_S) : Option Int32 := if x0 = -1 then (some ((-1))) else (some (s 3 0 x0))
abbrev rm_X5_numberOf : Room := { frames := 0, cells := 0, slots := 0, locals := 0 }
theorem dd_yX5_numberOf : yX5_numberOf.cls ≠ "java/lang/invoke/MethodHandle" ∧ yX5_numberOf.cls ≠ "java/lang/invoke/VarHandle" ∧ (parseMethodDescriptor yX5_numberOf.desc).map (fun d => d.parameters.length) = some 1 := by decide +kernel
set_option maxHeartbeats 4000000 in
set_option maxRecDepth 100000 in
theorem c_X5_numberOf {z : ag_Z} {l : Launch} {n : ag_N} {p : ag_P} {s : ag_S} {fu : Nat} {x0 : Int32} {out : Int32} (v0 : ag_ok n 3 x0) (hf : f_X5_numberOf fu x0 s = some out) : Met l yX5_numberOf (ag_ws yX5_numberOf cX5_numberOf 1 ((some FieldType.int))) rm_X5_numberOf (va_Pc [va_rf (ag_ro z p 3 x0)] (ag_Pre z n p s)) (ag_Ri z n p out s) 0 0 (ag_A z) := by
  refine Met.ofW (cc := cX5_numberOf) (maxL := 1) (ret := (some FieldType.int)) (by decide) rfl ?_
  intro p0 e st m args below meth c s9 B hml hv
  obtain ⟨ha, h0, hG, hW⟩ := hv
  have hx := B.exec
  have hb := B.bytes
  have hr := B.returns
  have hts := atoms_spec (ws := ag_ws yX5_numberOf cX5_numberOf 1 ((some FieldType.int))) B.pre
  have hT : ∀ w ∈ ag_tbl, w.before args st = true := fun w h => hts w (List.mem_cons_of_mem _ h)
  have hown : st.vm.findClass RX5 = some m.cls := findClass_of_methodNamed B.named
  have hlocks := B.notSynchronized
  have hS : va_S (ag_A z) st.heap st.heap [] := va_S.rf
  obtain ⟨ls, hls, hl⟩ : ∃ ls, entryFrame m args 1 = F0 m 0 ls [] ∧ lv_has ls 1 [(0, va_rf (ag_ro z p 3 x0))] := by rw [ha]; generalize ag_ro z p 3 x0 = r0; cases r0 <;> exact ag_entry m _ (Nat.le_of_ble_eq_true rfl)
  rw [hls]
  unfold f_X5_numberOf at hf
  refine ag_aloadq hx hb dX5_numberOf_0 rfl (lv_at hl 0 rfl) ?_
  refine ag_ifnonnull (tgt := 8) hx hb v0 dX5_numberOf_1 (by decide) (fun c1 => ?_) (fun c1 => ?_)
  · have hf := ag_f c1 hf
    have e1 := (ag_refq (z := z) (p := p) v0 c1)
    have v1 := (ag_ref (z := z) (p := p) v0 c1).2
    rw [e1] at hl
    refine lv_aload_n hx hb dX5_numberOf_8 rfl (lv_at hl 0 rfl) ?_
    refine g3_0 hx hb hT hown hG hW v1 q392 dX5_numberOf_9 ?_
    exact ag_iret hx hb hr rfl hlocks hS (Option.some.inj hf) hW dX5_numberOf_12
  · have hf := ag_t c1 hf
    refine lv_iconst (v := (-1)) hx hb dX5_numberOf_4 (by decide) ?_
    refine lv_goto (tgt := 12) hx hb dX5_numberOf_5 (by decide) ?_
    exact ag_iret hx hb hr rfl hlocks hS (Option.some.inj hf) hW dX5_numberOf_12
