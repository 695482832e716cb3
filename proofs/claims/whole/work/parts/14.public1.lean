def f_X5_income (fu : Nat) (x1 : Int32) (x2 : Int32) (s : ag_S) : Option ((Int32 ⊕ Int32) × ag_S) := ag_bt (f_X5_sourceAt fu x1 s) (fun w2 s => ag_bt (f_X5_needRange fu x2 1 100000 s) (fun _ s => some (.inl ((ag_up s 0 1 w2 ((s 0 1 w2) + x2)) 0 1 w2), (ag_up s 0 1 w2 ((s 0 1 w2) + x2)))) id) id
abbrev rm_X5_income : Room := { frames := 7, cells := 2, slots := 12, locals := 105 }
theorem dd_yX5_income : yX5_income.cls = RX5 ∧ yX5_income.cls ≠ "java/lang/invoke/MethodHandle" ∧ yX5_income.cls ≠ "java/lang/invoke/VarHandle" ∧ (parseMethodDescriptor yX5_income.desc).map (fun d => d.parameters.length) = some 2 := by decide +kernel
set_option maxHeartbeats 4000000 in
set_option maxRecDepth 100000 in
theorem c_X5_income {z : ag_Z} {l : Launch} {n : ag_N} {p : ag_P} {s : ag_S} {fu : Nat} {x1 : Int32} {x2 : Int32} {out : (Int32 ⊕ Int32) × ag_S} (hq9 : l.stackTraces = false) (t5 : vp_in 0 (n 5)) (hf : f_X5_income fu x1 x2 s = some out) : vx_Met l yX5_income (ag_ws yX5_income cX5_income 4 ((some FieldType.int))) rm_X5_income (va_Pc [.ref (p 5 0), .int x1, .int x2] (ag_Pre z n p s)) (ag_Xi z n p out) (ag_XX z n p out) 2 12 (ag_A z) := by
  refine vx_ofW (cc := cX5_income) (maxL := 4) (ret := (some FieldType.int)) (by decide) rfl ?_
  intro p0 e st m args below meth c s9 B hml hout hv
  obtain ⟨ha, h0, hG, hW⟩ := hv
  have hx := B.exec
  have hb := B.bytes
  have hr := B.returns
  have hts := atoms_spec (ws := ag_ws yX5_income cX5_income 4 ((some FieldType.int))) B.pre
  have hT : ∀ w ∈ ag_tbl, w.before args st = true := fun w h => hts w (List.mem_cons_of_mem _ h)
  have hown : st.vm.findClass RX5 = some m.cls := findClass_of_methodNamed B.named
  have hlocks := B.notSynchronized
  have hS : va_S (ag_A z) st.heap st.heap [] := va_S.rf
  obtain ⟨ls, hls, hl⟩ : ∃ ls, entryFrame m args 4 = F0 m 0 ls [] ∧ lv_has ls 4 [(0, .ref (p 5 0)), (1, .int x1), (2, .int x2)] := by rw [ha]; exact ag_entry m [.ref (p 5 0), .int x1, .int x2] (Nat.le_of_ble_eq_true rfl)
  rw [hls]
  unfold f_X5_income at hf
  refine lv_aload_n hx hb dX5_income_0 rfl (lv_at hl 0 rfl) ?_
  refine lv_iload_n hx hb dX5_income_1 rfl (lv_at hl 1 rfl) ?_
  obtain ⟨r2, hg2, hf⟩ := ag_xs hf
  refine ag_xVr (C1 := 1) (S1 := 6) hx hb hml hT hown hG h0 hS hW (c_X5_sourceAt hq9 t5 hg2) ⟨rfl, rfl⟩ q189 q191 qs3 q1 q192 dd_yX5_sourceAt ⟨Nat.le_of_ble_eq_true rfl, Nat.le_of_ble_eq_true rfl⟩ t5 rfl rfl hl.1 rfl (Nat.le_of_ble_eq_true rfl) ⟨Nat.le_of_ble_eq_true rfl, Nat.le_of_ble_eq_true rfl⟩ dX5_income_2 (fun E ce q9 H locs hE hW hS g1 g2 g3 => ag_propO hf hout hlocks (Nat.le_of_ble_eq_true rfl) (Nat.le_of_ble_eq_true rfl) hE hW hS g1 g2 g3) (Nat.le_of_ble_eq_true rfl) (Nat.le_of_ble_eq_true rfl) (fun w2 H locs hr2 v2 hW hS => ?_)
  have hf := ag_inl hf hr2
  obtain ⟨s, es2⟩ : ∃ s9, s9 = r2.2 := ⟨_, rfl⟩
  rw [← es2] at hW hf
  refine lv_astore_n (lv' := [(3, .ref (p 0 w2)), (0, .ref (p 5 0)), (1, .int x1), (2, .int x2)]) hx hb dX5_income_5 rfl hl (by decide) rfl (fun ls hl => ?_)
  refine lv_iload_n hx hb dX5_income_6 rfl (lv_at hl 3 rfl) ?_
  refine lv_iconst (v := 1) hx hb dX5_income_7 (by decide) ?_
  refine lv_ldc (v := 100000) hx hb hown (hT _ q279) dX5_income_8 ?_
  obtain ⟨r10, hg10, hf⟩ := ag_xs hf
  refine ag_xSv (C1 := 2) (S1 := 12) hx hb hml hT hown hG h0 hS hW (c_X5_needRange hq9 hg10) ⟨rfl, rfl⟩ q280 q281 q1 q282 dd_yX5_needRange ⟨Nat.le_of_ble_eq_true rfl, Nat.le_of_ble_eq_true rfl⟩ hl.1 rfl (Nat.le_of_ble_eq_true rfl) ⟨Nat.le_of_ble_eq_true rfl, Nat.le_of_ble_eq_true rfl⟩ dX5_income_10 (fun E ce q9 H locs hE hW hS g1 g2 g3 => ag_propO hf hout hlocks (Nat.le_of_ble_eq_true rfl) (Nat.le_of_ble_eq_true rfl) hE hW hS g1 g2 g3) (Nat.le_of_ble_eq_true rfl) (Nat.le_of_ble_eq_true rfl) (fun H locs hr10 hW hS => ?_)
  have hf := ag_inl hf hr10
  obtain ⟨s, es10⟩ : ∃ s9, s9 = r10.2 := ⟨_, rfl⟩
  rw [← es10] at hW hf
  refine lv_aload_n hx hb dX5_income_13 rfl (lv_at hl 0 rfl) ?_
  refine lv_dup hx hb dX5_income_14 rfl ?_
  refine g0_1 hx hb hT hown hG hW v2 q67 dX5_income_15 ?_
  refine lv_iload_n hx hb dX5_income_18 rfl (lv_at hl 3 rfl) ?_
  refine lv_iadd hx hb dX5_income_19 ?_
  refine u0_1 hx hb hT hown hG hW hS v2 q67 dX5_income_20 (fun H locs hW hS => ?_)
  refine lv_aload_n hx hb dX5_income_23 rfl (lv_at hl 0 rfl) ?_
  refine g0_1 hx hb hT hown hG hW v2 q67 dX5_income_24 ?_
  exact ag_xiret hx hb hr rfl hlocks hS hf hW dX5_income_27
def f_X5_vote (fu : Nat) (x1 : Int32) (x2 : Int32) (x3 : Int32) (s : ag_S) : Option ((Int32 ⊕ Int32) × ag_S) := if x1 < 0 then (some (.inr 1, s)) else (if x1 < 9 then (ag_bt (f_X5_amendmentAt fu x2 s) (fun w22 s => ag_bt (f_X5_needOpen fu w22 s) (fun _ s => ag_bd (f_X0_takeVote fu w22 x1 x3 s) fun r36 => ag_bd (f_X0_votesFor fu w22 r36) fun r41 => some (.inl r41, r36)) id) id) else (some (.inr 1, s)))
abbrev rm_X5_vote : Room := { frames := 7, cells := 2, slots := 12, locals := 104 }
theorem w454 : Cond.stringRef RX5 108 "no such member" ∈ lw_tbl := List.mem_append_right _ (List.mem_of_getElem? (i := 454) (by decide +kernel))
theorem dd_yX5_vote : yX5_vote.cls = RX5 ∧ yX5_vote.cls ≠ "java/lang/invoke/MethodHandle" ∧ yX5_vote.cls ≠ "java/lang/invoke/VarHandle" ∧ (parseMethodDescriptor yX5_vote.desc).map (fun d => d.parameters.length) = some 3 := by decide +kernel
set_option maxHeartbeats 4000000 in
set_option maxRecDepth 100000 in
theorem c_X5_vote {z : ag_Z} {l : Launch} {n : ag_N} {p : ag_P} {s : ag_S} {fu : Nat} {x1 : Int32} {x2 : Int32} {x3 : Int32} {out : (Int32 ⊕ Int32) × ag_S} (hq9 : l.stackTraces = false) (t5 : vp_in 0 (n 5)) (hf : f_X5_vote fu x1 x2 x3 s = some out) : vx_Met l yX5_vote (ag_ws yX5_vote cX5_vote 5 ((some FieldType.int))) rm_X5_vote (va_Pc [.ref (p 5 0), .int x1, .int x2, .int x3] (ag_Pre z n p s)) (ag_Xi z n p out) (ag_XX z n p out) 2 12 (ag_A z) := by
  refine vx_ofW (cc := cX5_vote) (maxL := 5) (ret := (some FieldType.int)) (by decide) rfl ?_
  intro p0 e st m args below meth c s9 B hml hout hv
  obtain ⟨ha, h0, hG, hW⟩ := hv
  have hx := B.exec
  have hb := B.bytes
  have hr := B.returns
  have hts := atoms_spec (ws := ag_ws yX5_vote cX5_vote 5 ((some FieldType.int))) B.pre
  have hT : ∀ w ∈ ag_tbl, w.before args st = true := fun w h => hts w (List.mem_cons_of_mem _ h)
  have hown : st.vm.findClass RX5 = some m.cls := findClass_of_methodNamed B.named
  have hlocks := B.notSynchronized
  have hS : va_S (ag_A z) st.heap st.heap [] := va_S.rf
  obtain ⟨ls, hls, hl⟩ : ∃ ls, entryFrame m args 5 = F0 m 0 ls [] ∧ lv_has ls 5 [(0, .ref (p 5 0)), (1, .int x1), (2, .int x2), (3, .int x3)] := by rw [ha]; exact ag_entry m [.ref (p 5 0), .int x1, .int x2, .int x3] (Nat.le_of_ble_eq_true rfl)
  rw [hls]
  unfold f_X5_vote at hf
  refine lv_iload_n hx hb dX5_vote_0 rfl (lv_at hl 1 rfl) ?_
  refine lv_if_lt (tgt := 10) hx hb dX5_vote_1 (by decide) (fun c1 => ?_) (fun c1 => ?_)
  · have hf := ag_t c1 hf
    exact ag_thr1 hx hb hq9 (hml.trans hl.1.symm) hT hown hG hS hW hout hlocks hf (w454) dX5_vote_10 dX5_vote_13 dX5_vote_14 dX5_vote_16 dX5_vote_19 (Nat.le_of_ble_eq_true rfl) (Nat.le_of_ble_eq_true rfl) (Nat.le_of_ble_eq_true rfl) (Nat.le_of_ble_eq_true rfl) (Nat.le_of_ble_eq_true rfl) (Nat.le_of_ble_eq_true rfl)
  · have hf := ag_f c1 hf
    refine lv_iload_n hx hb dX5_vote_4 rfl (lv_at hl 1 rfl) ?_
    refine lv_bipush (v := 9) hx hb dX5_vote_5 (by decide) ?_
    refine lv_icmp_lt (tgt := 20) hx hb dX5_vote_7 (by decide) (fun c7 => ?_) (fun c7 => ?_)
    · have hf := ag_t c7 hf
      refine lv_aload_n hx hb dX5_vote_20 rfl (lv_at hl 0 rfl) ?_
      refine lv_iload_n hx hb dX5_vote_21 rfl (lv_at hl 2 rfl) ?_
      obtain ⟨r22, hg22, hf⟩ := ag_xs hf
      refine ag_xVr (C1 := 1) (S1 := 6) hx hb hml hT hown hG h0 hS hW (c_X5_amendmentAt hq9 t5 hg22) ⟨rfl, rfl⟩ q438 q440 qs8 q1 q441 dd_yX5_amendmentAt ⟨Nat.le_of_ble_eq_true rfl, Nat.le_of_ble_eq_true rfl⟩ t5 rfl rfl hl.1 rfl (Nat.le_of_ble_eq_true rfl) ⟨Nat.le_of_ble_eq_true rfl, Nat.le_of_ble_eq_true rfl⟩ dX5_vote_22 (fun E ce q9 H locs hE hW hS g1 g2 g3 => ag_propO hf hout hlocks (Nat.le_of_ble_eq_true rfl) (Nat.le_of_ble_eq_true rfl) hE hW hS g1 g2 g3) (Nat.le_of_ble_eq_true rfl) (Nat.le_of_ble_eq_true rfl) (fun w22 H locs hr22 v22 hW hS => ?_)
      have hf := ag_inl hf hr22
      obtain ⟨s, es22⟩ : ∃ s9, s9 = r22.2 := ⟨_, rfl⟩
      rw [← es22] at hW hf
      refine lv_astore (lv' := [(4, .ref (p 3 w22)), (0, .ref (p 5 0)), (1, .int x1), (2, .int x2), (3, .int x3)]) hx hb dX5_vote_25 hl (by decide) rfl (fun ls hl => ?_)
      refine lv_aload hx hb dX5_vote_27 (lv_at hl 0 rfl) ?_
      obtain ⟨r29, hg29, hf⟩ := ag_xs hf
      refine ag_xSv (C1 := 2) (S1 := 12) hx hb hml hT hown hG h0 hS hW (c_X5_needOpen hq9 v22 hg29) ⟨rfl, rfl⟩ q443 q444 q1 q445 dd_yX5_needOpen ⟨Nat.le_of_ble_eq_true rfl, Nat.le_of_ble_eq_true rfl⟩ hl.1 rfl (Nat.le_of_ble_eq_true rfl) ⟨Nat.le_of_ble_eq_true rfl, Nat.le_of_ble_eq_true rfl⟩ dX5_vote_29 (fun E ce q9 H locs hE hW hS g1 g2 g3 => ag_propO hf hout hlocks (Nat.le_of_ble_eq_true rfl) (Nat.le_of_ble_eq_true rfl) hE hW hS g1 g2 g3) (Nat.le_of_ble_eq_true rfl) (Nat.le_of_ble_eq_true rfl) (fun H locs hr29 hW hS => ?_)
      have hf := ag_inl hf hr29
      obtain ⟨s, es29⟩ : ∃ s9, s9 = r29.2 := ⟨_, rfl⟩
      rw [← es29] at hW hf
      refine lv_aload hx hb dX5_vote_32 (lv_at hl 0 rfl) ?_
      refine lv_iload_n hx hb dX5_vote_34 rfl (lv_at hl 2 rfl) ?_
      refine lv_iload_n hx hb dX5_vote_35 rfl (lv_at hl 4 rfl) ?_
      obtain ⟨r36, hg36, hf⟩ := ag_bs hf
      refine ag_cVv hx hb hml hT hown hG h0 hS hW (c_X0_takeVote v22 hg36) ⟨rfl, rfl⟩ q455 q456 q457 q21 q458 dd_yX0_takeVote ⟨Nat.le_of_ble_eq_true rfl, Nat.le_of_ble_eq_true rfl⟩ v22 rfl rfl hl.1 rfl (Nat.le_of_ble_eq_true rfl) ⟨Nat.le_of_ble_eq_true rfl, Nat.le_of_ble_eq_true rfl⟩ dX5_vote_36 (fun H locs hW hS => ?_)
      refine lv_aload hx hb dX5_vote_39 (lv_at hl 0 rfl) ?_
      obtain ⟨r41, hg41, hf⟩ := ag_bs hf
      refine ag_cVi hx hb hml hT hown hG h0 hS hW (c_X0_votesFor v22 hg41) ⟨rfl, rfl⟩ q459 q460 q461 q21 q462 dd_yX0_votesFor ⟨Nat.le_of_ble_eq_true rfl, Nat.le_of_ble_eq_true rfl⟩ v22 rfl rfl hl.1 rfl (Nat.le_of_ble_eq_true rfl) ⟨Nat.le_of_ble_eq_true rfl, Nat.le_of_ble_eq_true rfl⟩ dX5_vote_41 (fun H locs hW hS => ?_)
      exact ag_xiret hx hb hr rfl hlocks hS hf hW dX5_vote_44
    · have hf := ag_f c7 hf
      exact ag_thr1 hx hb hq9 (hml.trans hl.1.symm) hT hown hG hS hW hout hlocks hf (w454) dX5_vote_10 dX5_vote_13 dX5_vote_14 dX5_vote_16 dX5_vote_19 (Nat.le_of_ble_eq_true rfl) (Nat.le_of_ble_eq_true rfl) (Nat.le_of_ble_eq_true rfl) (Nat.le_of_ble_eq_true rfl) (Nat.le_of_ble_eq_true rfl) (Nat.le_of_ble_eq_true rfl)
def f_X5_decide (fu : Nat) (x1 : Int32) (s : ag_S) : Option ((Int32 ⊕ Int32) × ag_S) := ag_bt (f_X5_amendmentAt fu x1 s) (fun w2 s => ag_bt (f_X5_needOpen fu w2 s) (fun _ s => ag_bd (f_X5_isOneOpenOn fu w2 s) fun r12 => if r12 = 0 then (ag_bd (f_X0_isWon fu w2 s) fun r29 => if r29 = 0 then (ag_bd (f_X0_isLost fu w2 s) fun r44 => if r44 = 0 then (ag_bd (f_X0_beginRoundTwo fu w2 s) fun r60 => some (.inl (r60 3 5 w2), r60)) else (ag_bd (f_X5_makeFallen fu w2 s) fun r52 => some (.inl (r52.2 3 5 w2), r52.2))) else (ag_bd (f_X5_makePassed fu w2 s) fun r37 => some (.inl (r37 3 5 w2), r37))) else (some (.inr 3, s))) id) id
abbrev rm_X5_decide : Room := { frames := 7, cells := 3, slots := 18, locals := 155 }
theorem w480 : Cond.stringRef RX5 122 "an amendment on it is open" ∈ lw_tbl := List.mem_append_right _ (List.mem_of_getElem? (i := 480) (by decide +kernel))
theorem dd_yX5_decide : yX5_decide.cls = RX5 ∧ yX5_decide.cls ≠ "java/lang/invoke/MethodHandle" ∧ yX5_decide.cls ≠ "java/lang/invoke/VarHandle" ∧ (parseMethodDescriptor yX5_decide.desc).map (fun d => d.parameters.length) = some 1 := by decide +kernel
set_option maxHeartbeats 4000000 in
set_option maxRecDepth 100000 in
theorem c_X5_decide {z : ag_Z} {l : Launch} {n : ag_N} {p : ag_P} {s : ag_S} {fu : Nat} {x1 : Int32} {out : (Int32 ⊕ Int32) × ag_S} (hq9 : l.stackTraces = false) (t5 : vp_in 0 (n 5)) (hf : f_X5_decide fu x1 s = some out) : vx_Met l yX5_decide (ag_ws yX5_decide cX5_decide 3 ((some FieldType.int))) rm_X5_decide (va_Pc [.ref (p 5 0), .int x1] (ag_Pre z n p s)) (ag_Xi z n p out) (ag_XX z n p out) 3 18 (ag_A z) := by
  refine vx_ofW (cc := cX5_decide) (maxL := 3) (ret := (some FieldType.int)) (by decide) rfl ?_
  intro p0 e st m args below meth c s9 B hml hout hv
  obtain ⟨ha, h0, hG, hW⟩ := hv
  have hx := B.exec
  have hb := B.bytes
  have hr := B.returns
  have hts := atoms_spec (ws := ag_ws yX5_decide cX5_decide 3 ((some FieldType.int))) B.pre
  have hT : ∀ w ∈ ag_tbl, w.before args st = true := fun w h => hts w (List.mem_cons_of_mem _ h)
  have hown : st.vm.findClass RX5 = some m.cls := findClass_of_methodNamed B.named
  have hlocks := B.notSynchronized
  have hS : va_S (ag_A z) st.heap st.heap [] := va_S.rf
  obtain ⟨ls, hls, hl⟩ : ∃ ls, entryFrame m args 3 = F0 m 0 ls [] ∧ lv_has ls 3 [(0, .ref (p 5 0)), (1, .int x1)] := by rw [ha]; exact ag_entry m [.ref (p 5 0), .int x1] (Nat.le_of_ble_eq_true rfl)
  rw [hls]
  unfold f_X5_decide at hf
  refine lv_aload_n hx hb dX5_decide_0 rfl (lv_at hl 0 rfl) ?_
  refine lv_iload_n hx hb dX5_decide_1 rfl (lv_at hl 1 rfl) ?_
  obtain ⟨r2, hg2, hf⟩ := ag_xs hf
  refine ag_xVr (C1 := 1) (S1 := 6) hx hb hml hT hown hG h0 hS hW (c_X5_amendmentAt hq9 t5 hg2) ⟨rfl, rfl⟩ q438 q440 qs8 q1 q441 dd_yX5_amendmentAt ⟨Nat.le_of_ble_eq_true rfl, Nat.le_of_ble_eq_true rfl⟩ t5 rfl rfl hl.1 rfl (Nat.le_of_ble_eq_true rfl) ⟨Nat.le_of_ble_eq_true rfl, Nat.le_of_ble_eq_true rfl⟩ dX5_decide_2 (fun E ce q9 H locs hE hW hS g1 g2 g3 => ag_propO hf hout hlocks (Nat.le_of_ble_eq_true rfl) (Nat.le_of_ble_eq_true rfl) hE hW hS g1 g2 g3) (Nat.le_of_ble_eq_true rfl) (Nat.le_of_ble_eq_true rfl) (fun w2 H locs hr2 v2 hW hS => ?_)
  have hf := ag_inl hf hr2
  obtain ⟨s, es2⟩ : ∃ s9, s9 = r2.2 := ⟨_, rfl⟩
  rw [← es2] at hW hf
  refine lv_astore_n (lv' := [(2, .ref (p 3 w2)), (0, .ref (p 5 0)), (1, .int x1)]) hx hb dX5_decide_5 rfl hl (by decide) rfl (fun ls hl => ?_)
  refine lv_aload_n hx hb dX5_decide_6 rfl (lv_at hl 0 rfl) ?_
  obtain ⟨r7, hg7, hf⟩ := ag_xs hf
  refine ag_xSv (C1 := 2) (S1 := 12) hx hb hml hT hown hG h0 hS hW (c_X5_needOpen hq9 v2 hg7) ⟨rfl, rfl⟩ q443 q444 q1 q445 dd_yX5_needOpen ⟨Nat.le_of_ble_eq_true rfl, Nat.le_of_ble_eq_true rfl⟩ hl.1 rfl (Nat.le_of_ble_eq_true rfl) ⟨Nat.le_of_ble_eq_true rfl, Nat.le_of_ble_eq_true rfl⟩ dX5_decide_7 (fun E ce q9 H locs hE hW hS g1 g2 g3 => ag_propO hf hout hlocks (Nat.le_of_ble_eq_true rfl) (Nat.le_of_ble_eq_true rfl) hE hW hS g1 g2 g3) (Nat.le_of_ble_eq_true rfl) (Nat.le_of_ble_eq_true rfl) (fun H locs hr7 hW hS => ?_)
  have hf := ag_inl hf hr7
  obtain ⟨s, es7⟩ : ∃ s9, s9 = r7.2 := ⟨_, rfl⟩
  rw [← es7] at hW hf
  refine lv_aload_n hx hb dX5_decide_10 rfl (lv_at hl 1 rfl) ?_
  refine lv_aload_n hx hb dX5_decide_11 rfl (lv_at hl 0 rfl) ?_
  obtain ⟨r12, hg12, hf⟩ := ag_bs hf
  refine ag_cVi hx hb hml hT hown hG h0 hS hW (c_X5_isOneOpenOn t5 v2 hg12) ⟨rfl, rfl⟩ q476 q478 qs9 q1 q479 dd_yX5_isOneOpenOn ⟨Nat.le_of_ble_eq_true rfl, Nat.le_of_ble_eq_true rfl⟩ t5 rfl rfl hl.1 rfl (Nat.le_of_ble_eq_true rfl) ⟨Nat.le_of_ble_eq_true rfl, Nat.le_of_ble_eq_true rfl⟩ dX5_decide_12 (fun H locs hW hS => ?_)
  refine lv_if_eq (tgt := 28) hx hb dX5_decide_15 (by decide) (fun c15 => ?_) (fun c15 => ?_)
  · have hf := ag_t c15 hf
    refine lv_aload_n hx hb dX5_decide_28 rfl (lv_at hl 0 rfl) ?_
    obtain ⟨r29, hg29, hf⟩ := ag_bs hf
    refine ag_cVi hx hb hml hT hown hG h0 hS hW (c_X0_isWon v2 hg29) ⟨rfl, rfl⟩ q481 q482 q483 q21 q484 dd_yX0_isWon ⟨Nat.le_of_ble_eq_true rfl, Nat.le_of_ble_eq_true rfl⟩ v2 rfl rfl hl.1 rfl (Nat.le_of_ble_eq_true rfl) ⟨Nat.le_of_ble_eq_true rfl, Nat.le_of_ble_eq_true rfl⟩ dX5_decide_29 (fun H locs hW hS => ?_)
    refine lv_if_eq (tgt := 43) hx hb dX5_decide_32 (by decide) (fun c32 => ?_) (fun c32 => ?_)
    · have hf := ag_t c32 hf
      refine lv_aload_n hx hb dX5_decide_43 rfl (lv_at hl 0 rfl) ?_
      obtain ⟨r44, hg44, hf⟩ := ag_bs hf
      refine ag_cVi hx hb hml hT hown hG h0 hS hW (c_X0_isLost v2 hg44) ⟨rfl, rfl⟩ q530 q531 q532 q21 q533 dd_yX0_isLost ⟨Nat.le_of_ble_eq_true rfl, Nat.le_of_ble_eq_true rfl⟩ v2 rfl rfl hl.1 rfl (Nat.le_of_ble_eq_true rfl) ⟨Nat.le_of_ble_eq_true rfl, Nat.le_of_ble_eq_true rfl⟩ dX5_decide_44 (fun H locs hW hS => ?_)
      refine lv_if_eq (tgt := 59) hx hb dX5_decide_47 (by decide) (fun c47 => ?_) (fun c47 => ?_)
      · have hf := ag_t c47 hf
        refine lv_aload_n hx hb dX5_decide_59 rfl (lv_at hl 0 rfl) ?_
        obtain ⟨r60, hg60, hf⟩ := ag_bs hf
        refine ag_cVv hx hb hml hT hown hG h0 hS hW (c_X0_beginRoundTwo v2 hg60) ⟨rfl, rfl⟩ q555 q556 q557 q21 q558 dd_yX0_beginRoundTwo ⟨Nat.le_of_ble_eq_true rfl, Nat.le_of_ble_eq_true rfl⟩ v2 rfl rfl hl.1 rfl (Nat.le_of_ble_eq_true rfl) ⟨Nat.le_of_ble_eq_true rfl, Nat.le_of_ble_eq_true rfl⟩ dX5_decide_60 (fun H locs hW hS => ?_)
        refine lv_aload_n hx hb dX5_decide_63 rfl (lv_at hl 0 rfl) ?_
        refine g3_5 hx hb hT hown hG hW v2 q403 dX5_decide_64 ?_
        refine W.widen (k := 3) (n := 18) (Nat.le_of_ble_eq_true rfl) (Nat.le_of_ble_eq_true rfl) ?_
        exact ag_xiret hx hb hr rfl hlocks hS hf hW dX5_decide_67
      · have hf := ag_f c47 hf
        refine lv_aload_n hx hb dX5_decide_50 rfl (lv_at hl 1 rfl) ?_
        refine lv_aload_n hx hb dX5_decide_51 rfl (lv_at hl 0 rfl) ?_
        obtain ⟨r52, hg52, hf⟩ := ag_bs hf
        refine ag_cVi hx hb hml hT hown hG h0 hS hW (c_X5_makeFallen t5 v2 hg52) ⟨rfl, rfl⟩ q535 q537 qs15 q1 q538 dd_yX5_makeFallen ⟨Nat.le_of_ble_eq_true rfl, Nat.le_of_ble_eq_true rfl⟩ t5 rfl rfl hl.1 rfl (Nat.le_of_ble_eq_true rfl) ⟨Nat.le_of_ble_eq_true rfl, Nat.le_of_ble_eq_true rfl⟩ dX5_decide_52 (fun H locs hW hS => ?_)
        refine lv_pop hx hb dX5_decide_55 rfl ?_
        refine lv_goto (tgt := 63) hx hb dX5_decide_56 (by decide) ?_
        refine lv_aload_n hx hb dX5_decide_63 rfl (lv_at hl 0 rfl) ?_
        refine g3_5 hx hb hT hown hG hW v2 q403 dX5_decide_64 ?_
        refine W.widen (k := 3) (n := 18) (Nat.le_of_ble_eq_true rfl) (Nat.le_of_ble_eq_true rfl) ?_
        exact ag_xiret hx hb hr rfl hlocks hS hf hW dX5_decide_67
    · have hf := ag_f c32 hf
      refine lv_aload_n hx hb dX5_decide_35 rfl (lv_at hl 1 rfl) ?_
      refine lv_aload_n hx hb dX5_decide_36 rfl (lv_at hl 0 rfl) ?_
      obtain ⟨r37, hg37, hf⟩ := ag_bs hf
      refine ag_cVv hx hb hml hT hown hG h0 hS hW (c_X5_makePassed t5 v2 hg37) ⟨rfl, rfl⟩ q490 q492 qs10 q1 q493 dd_yX5_makePassed ⟨Nat.le_of_ble_eq_true rfl, Nat.le_of_ble_eq_true rfl⟩ t5 rfl rfl hl.1 rfl (Nat.le_of_ble_eq_true rfl) ⟨Nat.le_of_ble_eq_true rfl, Nat.le_of_ble_eq_true rfl⟩ dX5_decide_37 (fun H locs hW hS => ?_)
      refine lv_goto (tgt := 63) hx hb dX5_decide_40 (by decide) ?_
      refine lv_aload_n hx hb dX5_decide_63 rfl (lv_at hl 0 rfl) ?_
      refine g3_5 hx hb hT hown hG hW v2 q403 dX5_decide_64 ?_
      refine W.widen (k := 3) (n := 18) (Nat.le_of_ble_eq_true rfl) (Nat.le_of_ble_eq_true rfl) ?_
      exact ag_xiret hx hb hr rfl hlocks hS hf hW dX5_decide_67
  · have hf := ag_f c15 hf
    exact ag_thr3 hx hb hq9 (hml.trans hl.1.symm) hT hown hG hS hW hout hlocks hf (w480) dX5_decide_18 dX5_decide_21 dX5_decide_22 dX5_decide_24 dX5_decide_27 (Nat.le_of_ble_eq_true rfl) (Nat.le_of_ble_eq_true rfl) (Nat.le_of_ble_eq_true rfl) (Nat.le_of_ble_eq_true rfl) (Nat.le_of_ble_eq_true rfl) (Nat.le_of_ble_eq_true rfl)
def f_X5_strike (fu : Nat) (x1 : Int32) (s : ag_S) : Option ((Int32 ⊕ Int32) × ag_S) := ag_bt (f_X5_amendmentAt fu x1 s) (fun w2 s => ag_bt (f_X5_needPassed fu w2 s) (fun _ s => ag_bd (f_X5_makeFallen fu w2 (ag_up s 3 7 w2 1)) fun r17 => some (.inl r17.1, r17.2)) id) id
abbrev rm_X5_strike : Room := { frames := 7, cells := 2, slots := 12, locals := 155 }
theorem dd_yX5_strike : yX5_strike.cls = RX5 ∧ yX5_strike.cls ≠ "java/lang/invoke/MethodHandle" ∧ yX5_strike.cls ≠ "java/lang/invoke/VarHandle" ∧ (parseMethodDescriptor yX5_strike.desc).map (fun d => d.parameters.length) = some 1 := by decide +kernel
set_option maxHeartbeats 4000000 in
set_option maxRecDepth 100000 in
theorem c_X5_strike {z : ag_Z} {l : Launch} {n : ag_N} {p : ag_P} {s : ag_S} {fu : Nat} {x1 : Int32} {out : (Int32 ⊕ Int32) × ag_S} (hq9 : l.stackTraces = false) (t5 : vp_in 0 (n 5)) (hf : f_X5_strike fu x1 s = some out) : vx_Met l yX5_strike (ag_ws yX5_strike cX5_strike 3 ((some FieldType.int))) rm_X5_strike (va_Pc [.ref (p 5 0), .int x1] (ag_Pre z n p s)) (ag_Xi z n p out) (ag_XX z n p out) 2 12 (ag_A z) := by
  refine vx_ofW (cc := cX5_strike) (maxL := 3) (ret := (some FieldType.int)) (by decide) rfl ?_
  intro p0 e st m args below meth c s9 B hml hout hv
  obtain ⟨ha, h0, hG, hW⟩ := hv
  have hx := B.exec
  have hb := B.bytes
  have hr := B.returns
  have hts := atoms_spec (ws := ag_ws yX5_strike cX5_strike 3 ((some FieldType.int))) B.pre
  have hT : ∀ w ∈ ag_tbl, w.before args st = true := fun w h => hts w (List.mem_cons_of_mem _ h)
  have hown : st.vm.findClass RX5 = some m.cls := findClass_of_methodNamed B.named
  have hlocks := B.notSynchronized
  have hS : va_S (ag_A z) st.heap st.heap [] := va_S.rf
  obtain ⟨ls, hls, hl⟩ : ∃ ls, entryFrame m args 3 = F0 m 0 ls [] ∧ lv_has ls 3 [(0, .ref (p 5 0)), (1, .int x1)] := by rw [ha]; exact ag_entry m [.ref (p 5 0), .int x1] (Nat.le_of_ble_eq_true rfl)
  rw [hls]
  unfold f_X5_strike at hf
  refine lv_aload_n hx hb dX5_strike_0 rfl (lv_at hl 0 rfl) ?_
  refine lv_iload_n hx hb dX5_strike_1 rfl (lv_at hl 1 rfl) ?_
  obtain ⟨r2, hg2, hf⟩ := ag_xs hf
  refine ag_xVr (C1 := 1) (S1 := 6) hx hb hml hT hown hG h0 hS hW (c_X5_amendmentAt hq9 t5 hg2) ⟨rfl, rfl⟩ q438 q440 qs8 q1 q441 dd_yX5_amendmentAt ⟨Nat.le_of_ble_eq_true rfl, Nat.le_of_ble_eq_true rfl⟩ t5 rfl rfl hl.1 rfl (Nat.le_of_ble_eq_true rfl) ⟨Nat.le_of_ble_eq_true rfl, Nat.le_of_ble_eq_true rfl⟩ dX5_strike_2 (fun E ce q9 H locs hE hW hS g1 g2 g3 => ag_propO hf hout hlocks (Nat.le_of_ble_eq_true rfl) (Nat.le_of_ble_eq_true rfl) hE hW hS g1 g2 g3) (Nat.le_of_ble_eq_true rfl) (Nat.le_of_ble_eq_true rfl) (fun w2 H locs hr2 v2 hW hS => ?_)
  have hf := ag_inl hf hr2
  obtain ⟨s, es2⟩ : ∃ s9, s9 = r2.2 := ⟨_, rfl⟩
  rw [← es2] at hW hf
  refine lv_astore_n (lv' := [(2, .ref (p 3 w2)), (0, .ref (p 5 0)), (1, .int x1)]) hx hb dX5_strike_5 rfl hl (by decide) rfl (fun ls hl => ?_)
  refine lv_aload_n hx hb dX5_strike_6 rfl (lv_at hl 0 rfl) ?_
  obtain ⟨r7, hg7, hf⟩ := ag_xs hf
  refine ag_xSv (C1 := 2) (S1 := 12) hx hb hml hT hown hG h0 hS hW (c_X5_needPassed hq9 v2 hg7) ⟨rfl, rfl⟩ q566 q567 q1 q568 dd_yX5_needPassed ⟨Nat.le_of_ble_eq_true rfl, Nat.le_of_ble_eq_true rfl⟩ hl.1 rfl (Nat.le_of_ble_eq_true rfl) ⟨Nat.le_of_ble_eq_true rfl, Nat.le_of_ble_eq_true rfl⟩ dX5_strike_7 (fun E ce q9 H locs hE hW hS g1 g2 g3 => ag_propO hf hout hlocks (Nat.le_of_ble_eq_true rfl) (Nat.le_of_ble_eq_true rfl) hE hW hS g1 g2 g3) (Nat.le_of_ble_eq_true rfl) (Nat.le_of_ble_eq_true rfl) (fun H locs hr7 hW hS => ?_)
  have hf := ag_inl hf hr7
  obtain ⟨s, es7⟩ : ∃ s9, s9 = r7.2 := ⟨_, rfl⟩
  rw [← es7] at hW hf
  refine lv_aload_n hx hb dX5_strike_10 rfl (lv_at hl 0 rfl) ?_
  refine lv_iconst (v := 1) hx hb dX5_strike_11 (by decide) ?_
  refine u3_7 hx hb hT hown hG hW hS v2 rfl rfl q407 dX5_strike_12 (fun H locs hW hS => ?_)
  refine lv_aload_n hx hb dX5_strike_15 rfl (lv_at hl 1 rfl) ?_
  refine lv_aload_n hx hb dX5_strike_16 rfl (lv_at hl 0 rfl) ?_
  obtain ⟨r17, hg17, hf⟩ := ag_bs hf
  refine ag_cVi hx hb hml hT hown hG h0 hS hW (c_X5_makeFallen t5 v2 hg17) ⟨rfl, rfl⟩ q535 q537 qs15 q1 q538 dd_yX5_makeFallen ⟨Nat.le_of_ble_eq_true rfl, Nat.le_of_ble_eq_true rfl⟩ t5 rfl rfl hl.1 rfl (Nat.le_of_ble_eq_true rfl) ⟨Nat.le_of_ble_eq_true rfl, Nat.le_of_ble_eq_true rfl⟩ dX5_strike_17 (fun H locs hW hS => ?_)
  exact ag_xiret hx hb hr rfl hlocks hS hf hW dX5_strike_20
def f_X5_pay (fu : Nat) (x1 : Int32) (x2 : Int32) (s : ag_S) : Option ((Int32 ⊕ Int32) × ag_S) := ag_bt (f_X5_grantAt fu x1 s) (fun w2 s => ag_bt (f_X5_needRange fu x2 1 50000 s) (fun _ s => if s 4 6 w2 = 0 then (if x2 ≤ (s 4 4 w2) - (s 4 5 w2) then (if s 4 0 w2 = -1 then none else if s 2 1 (s 4 0 w2) = -1 then none else ag_bt (f_X5_payFrom fu (s 2 1 (s 4 0 w2)) x2 s) (fun _ s => some (.inl ((ag_up s 4 5 w2 ((s 4 5 w2) + x2)) 4 5 w2), (ag_up s 4 5 w2 ((s 4 5 w2) + x2)))) id) else (some (.inr 3, s))) else (some (.inr 3, s))) id) id
abbrev rm_X5_pay : Room := { frames := 7, cells := 3, slots := 18, locals := 105 }
theorem w638 : Cond.stringRef RX5 172 "the grant is not live" ∈ lw_tbl := List.mem_append_right _ (List.mem_of_getElem? (i := 638) (by decide +kernel))
theorem w639 : Cond.stringRef RX5 180 "more than its sum would be paid" ∈ lw_tbl := List.mem_append_right _ (List.mem_of_getElem? (i := 639) (by decide +kernel))
theorem dd_yX5_pay : yX5_pay.cls = RX5 ∧ yX5_pay.cls ≠ "java/lang/invoke/MethodHandle" ∧ yX5_pay.cls ≠ "java/lang/invoke/VarHandle" ∧ (parseMethodDescriptor yX5_pay.desc).map (fun d => d.parameters.length) = some 2 := by decide +kernel
set_option maxHeartbeats 4000000 in
set_option maxRecDepth 100000 in
theorem c_X5_pay {z : ag_Z} {l : Launch} {n : ag_N} {p : ag_P} {s : ag_S} {fu : Nat} {x1 : Int32} {x2 : Int32} {out : (Int32 ⊕ Int32) × ag_S} (hq9 : l.stackTraces = false) (t5 : vp_in 0 (n 5)) (hf : f_X5_pay fu x1 x2 s = some out) : vx_Met l yX5_pay (ag_ws yX5_pay cX5_pay 4 ((some FieldType.int))) rm_X5_pay (va_Pc [.ref (p 5 0), .int x1, .int x2] (ag_Pre z n p s)) (ag_Xi z n p out) (ag_XX z n p out) 3 18 (ag_A z) := by
  refine vx_ofW (cc := cX5_pay) (maxL := 4) (ret := (some FieldType.int)) (by decide) rfl ?_
  intro p0 e st m args below meth c s9 B hml hout hv
  obtain ⟨ha, h0, hG, hW⟩ := hv
  have hx := B.exec
  have hb := B.bytes
  have hr := B.returns
  have hts := atoms_spec (ws := ag_ws yX5_pay cX5_pay 4 ((some FieldType.int))) B.pre
  have hT : ∀ w ∈ ag_tbl, w.before args st = true := fun w h => hts w (List.mem_cons_of_mem _ h)
  have hown : st.vm.findClass RX5 = some m.cls := findClass_of_methodNamed B.named
  have hlocks := B.notSynchronized
  have hS : va_S (ag_A z) st.heap st.heap [] := va_S.rf
  obtain ⟨ls, hls, hl⟩ : ∃ ls, entryFrame m args 4 = F0 m 0 ls [] ∧ lv_has ls 4 [(0, .ref (p 5 0)), (1, .int x1), (2, .int x2)] := by rw [ha]; exact ag_entry m [.ref (p 5 0), .int x1, .int x2] (Nat.le_of_ble_eq_true rfl)
  rw [hls]
  unfold f_X5_pay at hf
  refine lv_aload_n hx hb dX5_pay_0 rfl (lv_at hl 0 rfl) ?_
  refine lv_iload_n hx hb dX5_pay_1 rfl (lv_at hl 1 rfl) ?_
  obtain ⟨r2, hg2, hf⟩ := ag_xs hf
  refine ag_xVr (C1 := 1) (S1 := 6) hx hb hml hT hown hG h0 hS hW (c_X5_grantAt hq9 t5 hg2) ⟨rfl, rfl⟩ q633 q635 qs20 q1 q636 dd_yX5_grantAt ⟨Nat.le_of_ble_eq_true rfl, Nat.le_of_ble_eq_true rfl⟩ t5 rfl rfl hl.1 rfl (Nat.le_of_ble_eq_true rfl) ⟨Nat.le_of_ble_eq_true rfl, Nat.le_of_ble_eq_true rfl⟩ dX5_pay_2 (fun E ce q9 H locs hE hW hS g1 g2 g3 => ag_propO hf hout hlocks (Nat.le_of_ble_eq_true rfl) (Nat.le_of_ble_eq_true rfl) hE hW hS g1 g2 g3) (Nat.le_of_ble_eq_true rfl) (Nat.le_of_ble_eq_true rfl) (fun w2 H locs hr2 v2 hW hS => ?_)
  have hf := ag_inl hf hr2
  obtain ⟨s, es2⟩ : ∃ s9, s9 = r2.2 := ⟨_, rfl⟩
  rw [← es2] at hW hf
  refine lv_astore_n (lv' := [(3, .ref (p 4 w2)), (0, .ref (p 5 0)), (1, .int x1), (2, .int x2)]) hx hb dX5_pay_5 rfl hl (by decide) rfl (fun ls hl => ?_)
  refine lv_iload_n hx hb dX5_pay_6 rfl (lv_at hl 3 rfl) ?_
  refine lv_iconst (v := 1) hx hb dX5_pay_7 (by decide) ?_
  refine lv_ldc (v := 50000) hx hb hown (hT _ q374) dX5_pay_8 ?_
  obtain ⟨r10, hg10, hf⟩ := ag_xs hf
  refine ag_xSv (C1 := 2) (S1 := 12) hx hb hml hT hown hG h0 hS hW (c_X5_needRange hq9 hg10) ⟨rfl, rfl⟩ q280 q281 q1 q282 dd_yX5_needRange ⟨Nat.le_of_ble_eq_true rfl, Nat.le_of_ble_eq_true rfl⟩ hl.1 rfl (Nat.le_of_ble_eq_true rfl) ⟨Nat.le_of_ble_eq_true rfl, Nat.le_of_ble_eq_true rfl⟩ dX5_pay_10 (fun E ce q9 H locs hE hW hS g1 g2 g3 => ag_propO hf hout hlocks (Nat.le_of_ble_eq_true rfl) (Nat.le_of_ble_eq_true rfl) hE hW hS g1 g2 g3) (Nat.le_of_ble_eq_true rfl) (Nat.le_of_ble_eq_true rfl) (fun H locs hr10 hW hS => ?_)
  have hf := ag_inl hf hr10
  obtain ⟨s, es10⟩ : ∃ s9, s9 = r10.2 := ⟨_, rfl⟩
  rw [← es10] at hW hf
  refine lv_aload_n hx hb dX5_pay_13 rfl (lv_at hl 0 rfl) ?_
  refine g4_6 hx hb hT hown hG hW v2 q606 dX5_pay_14 ?_
  refine lv_if_eq (tgt := 30) hx hb dX5_pay_17 (by decide) (fun c17 => ?_) (fun c17 => ?_)
  · have hf := ag_t c17 hf
    refine lv_iload_n hx hb dX5_pay_30 rfl (lv_at hl 3 rfl) ?_
    refine lv_aload_n hx hb dX5_pay_31 rfl (lv_at hl 0 rfl) ?_
    refine g4_4 hx hb hT hown hG hW v2 q602 dX5_pay_32 ?_
    refine lv_aload_n hx hb dX5_pay_35 rfl (lv_at hl 0 rfl) ?_
    refine g4_5 hx hb hT hown hG hW v2 q604 dX5_pay_36 ?_
    refine lv_isub hx hb dX5_pay_39 ?_
    refine lv_icmp_le (tgt := 53) hx hb dX5_pay_40 (by decide) (fun c40 => ?_) (fun c40 => ?_)
    · have hf := ag_t c40 hf
      refine lv_aload_n hx hb dX5_pay_53 rfl (lv_at hl 0 rfl) ?_
      refine g4_0 hx hb hT hown hG hW v2 q594 dX5_pay_54 ?_
      have o54 := ag_W.okf hW (k := 4) (f := 0) (t := 2) rfl rfl (by decide) w2
      obtain ⟨m57_1, hf⟩ := ag_n hf
      have e57_1 := (ag_refq (z := z) (p := p) o54 m57_1)
      have v57_1 := (ag_ref (z := z) (p := p) o54 m57_1).2
      rw [e57_1]
      refine g2_1 hx hb hT hown hG hW v57_1 q309 dX5_pay_57 ?_
      have o57 := ag_W.okf hW (k := 2) (f := 1) (t := 0) rfl rfl (by decide) (s 4 0 w2)
      refine lv_iload_n hx hb dX5_pay_60 rfl (lv_at hl 3 rfl) ?_
      obtain ⟨m61_2, hf⟩ := ag_n hf
      have e61_2 := (ag_refq (z := z) (p := p) o57 m61_2)
      have v61_2 := (ag_ref (z := z) (p := p) o57 m61_2).2
      rw [e61_2]
      obtain ⟨r61, hg61, hf⟩ := ag_xs hf
      refine ag_xSv (C1 := 3) (S1 := 18) hx hb hml hT hown hG h0 hS hW (c_X5_payFrom hq9 v61_2 hg61) ⟨rfl, rfl⟩ q640 q641 q1 q642 dd_yX5_payFrom ⟨Nat.le_of_ble_eq_true rfl, Nat.le_of_ble_eq_true rfl⟩ hl.1 rfl (Nat.le_of_ble_eq_true rfl) ⟨Nat.le_of_ble_eq_true rfl, Nat.le_of_ble_eq_true rfl⟩ dX5_pay_61 (fun E ce q9 H locs hE hW hS g1 g2 g3 => ag_propO hf hout hlocks (Nat.le_of_ble_eq_true rfl) (Nat.le_of_ble_eq_true rfl) hE hW hS g1 g2 g3) (Nat.le_of_ble_eq_true rfl) (Nat.le_of_ble_eq_true rfl) (fun H locs hr61 hW hS => ?_)
      have hf := ag_inl hf hr61
      obtain ⟨s, es61⟩ : ∃ s9, s9 = r61.2 := ⟨_, rfl⟩
      rw [← es61] at hW hf
      refine lv_aload_n hx hb dX5_pay_64 rfl (lv_at hl 0 rfl) ?_
      refine lv_dup hx hb dX5_pay_65 rfl ?_
      refine g4_5 hx hb hT hown hG hW v2 q604 dX5_pay_66 ?_
      refine lv_iload_n hx hb dX5_pay_69 rfl (lv_at hl 3 rfl) ?_
      refine lv_iadd hx hb dX5_pay_70 ?_
      refine u4_5 hx hb hT hown hG hW hS v2 q604 dX5_pay_71 (fun H locs hW hS => ?_)
      refine lv_aload_n hx hb dX5_pay_74 rfl (lv_at hl 0 rfl) ?_
      refine g4_5 hx hb hT hown hG hW v2 q604 dX5_pay_75 ?_
      exact ag_xiret hx hb hr rfl hlocks hS hf hW dX5_pay_78
    · have hf := ag_f c40 hf
      exact ag_thr3 hx hb hq9 (hml.trans hl.1.symm) hT hown hG hS hW hout hlocks hf (w639) dX5_pay_43 dX5_pay_46 dX5_pay_47 dX5_pay_49 dX5_pay_52 (Nat.le_of_ble_eq_true rfl) (Nat.le_of_ble_eq_true rfl) (Nat.le_of_ble_eq_true rfl) (Nat.le_of_ble_eq_true rfl) (Nat.le_of_ble_eq_true rfl) (Nat.le_of_ble_eq_true rfl)
  · have hf := ag_f c17 hf
    exact ag_thr3 hx hb hq9 (hml.trans hl.1.symm) hT hown hG hS hW hout hlocks hf (w638) dX5_pay_20 dX5_pay_23 dX5_pay_24 dX5_pay_26 dX5_pay_29 (Nat.le_of_ble_eq_true rfl) (Nat.le_of_ble_eq_true rfl) (Nat.le_of_ble_eq_true rfl) (Nat.le_of_ble_eq_true rfl) (Nat.le_of_ble_eq_true rfl) (Nat.le_of_ble_eq_true rfl)
def f_X5_report (fu : Nat) (x1 : Int32) (s : ag_S) : Option ((Int32 ⊕ Int32) × ag_S) := ag_bt (f_X5_grantAt fu x1 s) (fun w2 s => ag_bt (f_X5_needNotWithdrawn fu w2 s) (fun _ s => if s 4 7 w2 = 0 then (some (.inl 1, (ag_up s 4 7 w2 1))) else (some (.inl 0, (ag_up s 4 7 w2 1)))) id) id
abbrev rm_X5_report : Room := { frames := 7, cells := 2, slots := 12, locals := 104 }
theorem dd_yX5_report : yX5_report.cls = RX5 ∧ yX5_report.cls ≠ "java/lang/invoke/MethodHandle" ∧ yX5_report.cls ≠ "java/lang/invoke/VarHandle" ∧ (parseMethodDescriptor yX5_report.desc).map (fun d => d.parameters.length) = some 1 := by decide +kernel
set_option maxHeartbeats 4000000 in
set_option maxRecDepth 100000 in
theorem c_X5_report {z : ag_Z} {l : Launch} {n : ag_N} {p : ag_P} {s : ag_S} {fu : Nat} {x1 : Int32} {out : (Int32 ⊕ Int32) × ag_S} (hq9 : l.stackTraces = false) (t5 : vp_in 0 (n 5)) (hf : f_X5_report fu x1 s = some out) : vx_Met l yX5_report (ag_ws yX5_report cX5_report 4 ((some FieldType.boolean))) rm_X5_report (va_Pc [.ref (p 5 0), .int x1] (ag_Pre z n p s)) (ag_Xi z n p out) (ag_XX z n p out) 2 12 (ag_A z) := by
  refine vx_ofW (cc := cX5_report) (maxL := 4) (ret := (some FieldType.boolean)) (by decide) rfl ?_
  intro p0 e st m args below meth c s9 B hml hout hv
  obtain ⟨ha, h0, hG, hW⟩ := hv
  have hx := B.exec
  have hb := B.bytes
  have hr := B.returns
  have hts := atoms_spec (ws := ag_ws yX5_report cX5_report 4 ((some FieldType.boolean))) B.pre
  have hT : ∀ w ∈ ag_tbl, w.before args st = true := fun w h => hts w (List.mem_cons_of_mem _ h)
  have hown : st.vm.findClass RX5 = some m.cls := findClass_of_methodNamed B.named
  have hlocks := B.notSynchronized
  have hS : va_S (ag_A z) st.heap st.heap [] := va_S.rf
  obtain ⟨ls, hls, hl⟩ : ∃ ls, entryFrame m args 4 = F0 m 0 ls [] ∧ lv_has ls 4 [(0, .ref (p 5 0)), (1, .int x1)] := by rw [ha]; exact ag_entry m [.ref (p 5 0), .int x1] (Nat.le_of_ble_eq_true rfl)
  rw [hls]
  unfold f_X5_report at hf
  refine lv_aload_n hx hb dX5_report_0 rfl (lv_at hl 0 rfl) ?_
  refine lv_iload_n hx hb dX5_report_1 rfl (lv_at hl 1 rfl) ?_
  obtain ⟨r2, hg2, hf⟩ := ag_xs hf
  refine ag_xVr (C1 := 1) (S1 := 6) hx hb hml hT hown hG h0 hS hW (c_X5_grantAt hq9 t5 hg2) ⟨rfl, rfl⟩ q633 q635 qs20 q1 q636 dd_yX5_grantAt ⟨Nat.le_of_ble_eq_true rfl, Nat.le_of_ble_eq_true rfl⟩ t5 rfl rfl hl.1 rfl (Nat.le_of_ble_eq_true rfl) ⟨Nat.le_of_ble_eq_true rfl, Nat.le_of_ble_eq_true rfl⟩ dX5_report_2 (fun E ce q9 H locs hE hW hS g1 g2 g3 => ag_propO hf hout hlocks (Nat.le_of_ble_eq_true rfl) (Nat.le_of_ble_eq_true rfl) hE hW hS g1 g2 g3) (Nat.le_of_ble_eq_true rfl) (Nat.le_of_ble_eq_true rfl) (fun w2 H locs hr2 v2 hW hS => ?_)
  have hf := ag_inl hf hr2
  obtain ⟨s, es2⟩ : ∃ s9, s9 = r2.2 := ⟨_, rfl⟩
  rw [← es2] at hW hf
  refine lv_astore_n (lv' := [(2, .ref (p 4 w2)), (0, .ref (p 5 0)), (1, .int x1)]) hx hb dX5_report_5 rfl hl (by decide) rfl (fun ls hl => ?_)
  refine lv_aload_n hx hb dX5_report_6 rfl (lv_at hl 0 rfl) ?_
  obtain ⟨r7, hg7, hf⟩ := ag_xs hf
  refine ag_xSv (C1 := 2) (S1 := 12) hx hb hml hT hown hG h0 hS hW (c_X5_needNotWithdrawn hq9 v2 hg7) ⟨rfl, rfl⟩ q655 q656 q1 q657 dd_yX5_needNotWithdrawn ⟨Nat.le_of_ble_eq_true rfl, Nat.le_of_ble_eq_true rfl⟩ hl.1 rfl (Nat.le_of_ble_eq_true rfl) ⟨Nat.le_of_ble_eq_true rfl, Nat.le_of_ble_eq_true rfl⟩ dX5_report_7 (fun E ce q9 H locs hE hW hS g1 g2 g3 => ag_propO hf hout hlocks (Nat.le_of_ble_eq_true rfl) (Nat.le_of_ble_eq_true rfl) hE hW hS g1 g2 g3) (Nat.le_of_ble_eq_true rfl) (Nat.le_of_ble_eq_true rfl) (fun H locs hr7 hW hS => ?_)
  have hf := ag_inl hf hr7
  obtain ⟨s, es7⟩ : ∃ s9, s9 = r7.2 := ⟨_, rfl⟩
  rw [← es7] at hW hf
  refine lv_aload_n hx hb dX5_report_10 rfl (lv_at hl 0 rfl) ?_
  refine g4_7 hx hb hT hown hG hW v2 q608 dX5_report_11 ?_
  refine lv_if_ne (tgt := 21) hx hb dX5_report_14 (by decide) (fun c14 => ?_) (fun c14 => ?_)
  · have hf := ag_f c14 hf
    refine lv_iconst (v := 0) hx hb dX5_report_21 (by decide) ?_
    refine lv_istore_n (lv' := [(3, .int 0), (2, .ref (p 4 w2)), (0, .ref (p 5 0)), (1, .int x1)]) hx hb dX5_report_22 rfl hl (by decide) rfl (fun ls hl => ?_)
    refine lv_aload_n hx hb dX5_report_23 rfl (lv_at hl 1 rfl) ?_
    refine lv_iconst (v := 1) hx hb dX5_report_24 (by decide) ?_
    refine u4_7 hx hb hT hown hG hW hS v2 rfl rfl q608 dX5_report_25 (fun H locs hW hS => ?_)
    refine lv_iload_n hx hb dX5_report_28 rfl (lv_at hl 0 rfl) ?_
    exact ag_xiret hx hb hr rfl hlocks hS hf hW dX5_report_29
  · have hf := ag_t c14 hf
    refine lv_iconst (v := 1) hx hb dX5_report_17 (by decide) ?_
    refine lv_goto (tgt := 22) hx hb dX5_report_18 (by decide) ?_
    refine lv_istore_n (lv' := [(3, .int 1), (2, .ref (p 4 w2)), (0, .ref (p 5 0)), (1, .int x1)]) hx hb dX5_report_22 rfl hl (by decide) rfl (fun ls hl => ?_)
    refine lv_aload_n hx hb dX5_report_23 rfl (lv_at hl 1 rfl) ?_
    refine lv_iconst (v := 1) hx hb dX5_report_24 (by decide) ?_
    refine u4_7 hx hb hT hown hG hW hS v2 rfl rfl q608 dX5_report_25 (fun H locs hW hS => ?_)
    refine lv_iload_n hx hb dX5_report_28 rfl (lv_at hl 0 rfl) ?_
    exact ag_xiret hx hb hr rfl hlocks hS hf hW dX5_report_29
def f_X5_spend (fu : Nat) (x1 : Int32) (x2 : Int32) (s : ag_S) : Option ((Int32 ⊕ Int32) × ag_S) := ag_bt (f_X5_lineAt fu x1 s) (fun w2 s => ag_bt (f_X5_needRange fu x2 1 50000 s) (fun _ s => ag_bt (f_X5_needFree fu w2 x2 s) (fun _ s => if s 2 1 w2 = -1 then none else ag_bt (f_X5_payFrom fu (s 2 1 w2) x2 s) (fun _ s => ag_bd (f_X5_freeOf fu w2 (ag_up s 2 4 w2 ((s 2 4 w2) + x2))) fun r39 => some (.inl r39, (ag_up s 2 4 w2 ((s 2 4 w2) + x2)))) id) id) id) id
abbrev rm_X5_spend : Room := { frames := 7, cells := 4, slots := 24, locals := 131 }
theorem dd_yX5_spend : yX5_spend.cls = RX5 ∧ yX5_spend.cls ≠ "java/lang/invoke/MethodHandle" ∧ yX5_spend.cls ≠ "java/lang/invoke/VarHandle" ∧ (parseMethodDescriptor yX5_spend.desc).map (fun d => d.parameters.length) = some 2 := by decide +kernel
set_option maxHeartbeats 4000000 in
set_option maxRecDepth 100000 in
theorem c_X5_spend {z : ag_Z} {l : Launch} {n : ag_N} {p : ag_P} {s : ag_S} {fu : Nat} {x1 : Int32} {x2 : Int32} {out : (Int32 ⊕ Int32) × ag_S} (hq9 : l.stackTraces = false) (t5 : vp_in 0 (n 5)) (hf : f_X5_spend fu x1 x2 s = some out) : vx_Met l yX5_spend (ag_ws yX5_spend cX5_spend 4 ((some FieldType.int))) rm_X5_spend (va_Pc [.ref (p 5 0), .int x1, .int x2] (ag_Pre z n p s)) (ag_Xi z n p out) (ag_XX z n p out) 4 24 (ag_A z) := by
  refine vx_ofW (cc := cX5_spend) (maxL := 4) (ret := (some FieldType.int)) (by decide) rfl ?_
  intro p0 e st m args below meth c s9 B hml hout hv
  obtain ⟨ha, h0, hG, hW⟩ := hv
  have hx := B.exec
  have hb := B.bytes
  have hr := B.returns
  have hts := atoms_spec (ws := ag_ws yX5_spend cX5_spend 4 ((some FieldType.int))) B.pre
  have hT : ∀ w ∈ ag_tbl, w.before args st = true := fun w h => hts w (List.mem_cons_of_mem _ h)
  have hown : st.vm.findClass RX5 = some m.cls := findClass_of_methodNamed B.named
  have hlocks := B.notSynchronized
  have hS : va_S (ag_A z) st.heap st.heap [] := va_S.rf
  obtain ⟨ls, hls, hl⟩ : ∃ ls, entryFrame m args 4 = F0 m 0 ls [] ∧ lv_has ls 4 [(0, .ref (p 5 0)), (1, .int x1), (2, .int x2)] := by rw [ha]; exact ag_entry m [.ref (p 5 0), .int x1, .int x2] (Nat.le_of_ble_eq_true rfl)
  rw [hls]
  unfold f_X5_spend at hf
  refine lv_aload_n hx hb dX5_spend_0 rfl (lv_at hl 0 rfl) ?_
  refine lv_iload_n hx hb dX5_spend_1 rfl (lv_at hl 1 rfl) ?_
  obtain ⟨r2, hg2, hf⟩ := ag_xs hf
  refine ag_xVr (C1 := 1) (S1 := 6) hx hb hml hT hown hG h0 hS hW (c_X5_lineAt hq9 t5 hg2) ⟨rfl, rfl⟩ q350 q352 qs5 q1 q353 dd_yX5_lineAt ⟨Nat.le_of_ble_eq_true rfl, Nat.le_of_ble_eq_true rfl⟩ t5 rfl rfl hl.1 rfl (Nat.le_of_ble_eq_true rfl) ⟨Nat.le_of_ble_eq_true rfl, Nat.le_of_ble_eq_true rfl⟩ dX5_spend_2 (fun E ce q9 H locs hE hW hS g1 g2 g3 => ag_propO hf hout hlocks (Nat.le_of_ble_eq_true rfl) (Nat.le_of_ble_eq_true rfl) hE hW hS g1 g2 g3) (Nat.le_of_ble_eq_true rfl) (Nat.le_of_ble_eq_true rfl) (fun w2 H locs hr2 v2 hW hS => ?_)
  have hf := ag_inl hf hr2
  obtain ⟨s, es2⟩ : ∃ s9, s9 = r2.2 := ⟨_, rfl⟩
  rw [← es2] at hW hf
  refine lv_astore_n (lv' := [(3, .ref (p 2 w2)), (0, .ref (p 5 0)), (1, .int x1), (2, .int x2)]) hx hb dX5_spend_5 rfl hl (by decide) rfl (fun ls hl => ?_)
  refine lv_iload_n hx hb dX5_spend_6 rfl (lv_at hl 3 rfl) ?_
  refine lv_iconst (v := 1) hx hb dX5_spend_7 (by decide) ?_
  refine lv_ldc (v := 50000) hx hb hown (hT _ q374) dX5_spend_8 ?_
  obtain ⟨r10, hg10, hf⟩ := ag_xs hf
  refine ag_xSv (C1 := 2) (S1 := 12) hx hb hml hT hown hG h0 hS hW (c_X5_needRange hq9 hg10) ⟨rfl, rfl⟩ q280 q281 q1 q282 dd_yX5_needRange ⟨Nat.le_of_ble_eq_true rfl, Nat.le_of_ble_eq_true rfl⟩ hl.1 rfl (Nat.le_of_ble_eq_true rfl) ⟨Nat.le_of_ble_eq_true rfl, Nat.le_of_ble_eq_true rfl⟩ dX5_spend_10 (fun E ce q9 H locs hE hW hS g1 g2 g3 => ag_propO hf hout hlocks (Nat.le_of_ble_eq_true rfl) (Nat.le_of_ble_eq_true rfl) hE hW hS g1 g2 g3) (Nat.le_of_ble_eq_true rfl) (Nat.le_of_ble_eq_true rfl) (fun H locs hr10 hW hS => ?_)
  have hf := ag_inl hf hr10
  obtain ⟨s, es10⟩ : ∃ s9, s9 = r10.2 := ⟨_, rfl⟩
  rw [← es10] at hW hf
  refine lv_aload_n hx hb dX5_spend_13 rfl (lv_at hl 1 rfl) ?_
  refine lv_aload_n hx hb dX5_spend_14 rfl (lv_at hl 0 rfl) ?_
  refine lv_iload_n hx hb dX5_spend_15 rfl (lv_at hl 3 rfl) ?_
  obtain ⟨r16, hg16, hf⟩ := ag_xs hf
  refine ag_xVv (C1 := 3) (S1 := 18) hx hb hml hT hown hG h0 hS hW (c_X5_needFree hq9 t5 v2 hg16) ⟨rfl, rfl⟩ q583 q585 qs19 q1 q586 dd_yX5_needFree ⟨Nat.le_of_ble_eq_true rfl, Nat.le_of_ble_eq_true rfl⟩ t5 rfl rfl hl.1 rfl (Nat.le_of_ble_eq_true rfl) ⟨Nat.le_of_ble_eq_true rfl, Nat.le_of_ble_eq_true rfl⟩ dX5_spend_16 (fun E ce q9 H locs hE hW hS g1 g2 g3 => ag_propO hf hout hlocks (Nat.le_of_ble_eq_true rfl) (Nat.le_of_ble_eq_true rfl) hE hW hS g1 g2 g3) (Nat.le_of_ble_eq_true rfl) (Nat.le_of_ble_eq_true rfl) (fun H locs hr16 hW hS => ?_)
  have hf := ag_inl hf hr16
  obtain ⟨s, es16⟩ : ∃ s9, s9 = r16.2 := ⟨_, rfl⟩
  rw [← es16] at hW hf
  refine lv_aload_n hx hb dX5_spend_19 rfl (lv_at hl 0 rfl) ?_
  refine g2_1 hx hb hT hown hG hW v2 q309 dX5_spend_20 ?_
  have o20 := ag_W.okf hW (k := 2) (f := 1) (t := 0) rfl rfl (by decide) w2
  refine lv_iload_n hx hb dX5_spend_23 rfl (lv_at hl 3 rfl) ?_
  obtain ⟨m24_1, hf⟩ := ag_n hf
  have e24_1 := (ag_refq (z := z) (p := p) o20 m24_1)
  have v24_1 := (ag_ref (z := z) (p := p) o20 m24_1).2
  rw [e24_1]
  obtain ⟨r24, hg24, hf⟩ := ag_xs hf
  refine ag_xSv (C1 := 4) (S1 := 24) hx hb hml hT hown hG h0 hS hW (c_X5_payFrom hq9 v24_1 hg24) ⟨rfl, rfl⟩ q640 q641 q1 q642 dd_yX5_payFrom ⟨Nat.le_of_ble_eq_true rfl, Nat.le_of_ble_eq_true rfl⟩ hl.1 rfl (Nat.le_of_ble_eq_true rfl) ⟨Nat.le_of_ble_eq_true rfl, Nat.le_of_ble_eq_true rfl⟩ dX5_spend_24 (fun E ce q9 H locs hE hW hS g1 g2 g3 => ag_propO hf hout hlocks (Nat.le_of_ble_eq_true rfl) (Nat.le_of_ble_eq_true rfl) hE hW hS g1 g2 g3) (Nat.le_of_ble_eq_true rfl) (Nat.le_of_ble_eq_true rfl) (fun H locs hr24 hW hS => ?_)
  have hf := ag_inl hf hr24
  obtain ⟨s, es24⟩ : ∃ s9, s9 = r24.2 := ⟨_, rfl⟩
  rw [← es24] at hW hf
  refine lv_aload_n hx hb dX5_spend_27 rfl (lv_at hl 0 rfl) ?_
  refine lv_dup hx hb dX5_spend_28 rfl ?_
  refine g2_4 hx hb hT hown hG hW v2 q315 dX5_spend_29 ?_
  refine lv_iload_n hx hb dX5_spend_32 rfl (lv_at hl 3 rfl) ?_
  refine lv_iadd hx hb dX5_spend_33 ?_
  refine u2_4 hx hb hT hown hG hW hS v2 q315 dX5_spend_34 (fun H locs hW hS => ?_)
  refine lv_aload_n hx hb dX5_spend_37 rfl (lv_at hl 1 rfl) ?_
  refine lv_aload_n hx hb dX5_spend_38 rfl (lv_at hl 0 rfl) ?_
  obtain ⟨r39, hg39, hf⟩ := ag_bs hf
  refine ag_cVi hx hb hml hT hown hG h0 hS hW (c_X5_freeOf t5 v2 hg39) ⟨rfl, rfl⟩ q505 q507 qs13 q1 q508 dd_yX5_freeOf ⟨Nat.le_of_ble_eq_true rfl, Nat.le_of_ble_eq_true rfl⟩ t5 rfl rfl hl.1 rfl (Nat.le_of_ble_eq_true rfl) ⟨Nat.le_of_ble_eq_true rfl, Nat.le_of_ble_eq_true rfl⟩ dX5_spend_39 (fun H locs hW hS => ?_)
  exact ag_xiret hx hb hr rfl hlocks hS hf hW dX5_spend_42
def f_X5_audit (fu : Nat) (x1 : Int32) (x2 : Int32) (s : ag_S) : Option ((Int32 ⊕ Int32) × ag_S) := ag_bt (f_X5_grantAt fu x1 s) (fun w2 s => ag_bt (f_X5_needRange fu x2 1 50000 s) (fun _ s => ag_bt (f_X5_needNotWithdrawn fu w2 s) (fun _ s => if x2 ≤ s 4 5 w2 then (ag_bd (f_X1_clawBack fu w2 x2 s) fun r37 => some (.inl (r37 4 5 w2), r37)) else (some (.inr 3, s))) id) id) id
abbrev rm_X5_audit : Room := { frames := 7, cells := 4, slots := 24, locals := 105 }
theorem w673 : Cond.stringRef RX5 205 "less was paid of it" ∈ lw_tbl := List.mem_append_right _ (List.mem_of_getElem? (i := 673) (by decide +kernel))
theorem dd_yX5_audit : yX5_audit.cls = RX5 ∧ yX5_audit.cls ≠ "java/lang/invoke/MethodHandle" ∧ yX5_audit.cls ≠ "java/lang/invoke/VarHandle" ∧ (parseMethodDescriptor yX5_audit.desc).map (fun d => d.parameters.length) = some 2 := by decide +kernel
set_option maxHeartbeats 4000000 in
set_option maxRecDepth 100000 in
theorem c_X5_audit {z : ag_Z} {l : Launch} {n : ag_N} {p : ag_P} {s : ag_S} {fu : Nat} {x1 : Int32} {x2 : Int32} {out : (Int32 ⊕ Int32) × ag_S} (hq9 : l.stackTraces = false) (t5 : vp_in 0 (n 5)) (hf : f_X5_audit fu x1 x2 s = some out) : vx_Met l yX5_audit (ag_ws yX5_audit cX5_audit 4 ((some FieldType.int))) rm_X5_audit (va_Pc [.ref (p 5 0), .int x1, .int x2] (ag_Pre z n p s)) (ag_Xi z n p out) (ag_XX z n p out) 4 24 (ag_A z) := by
  refine vx_ofW (cc := cX5_audit) (maxL := 4) (ret := (some FieldType.int)) (by decide) rfl ?_
  intro p0 e st m args below meth c s9 B hml hout hv
  obtain ⟨ha, h0, hG, hW⟩ := hv
  have hx := B.exec
  have hb := B.bytes
  have hr := B.returns
  have hts := atoms_spec (ws := ag_ws yX5_audit cX5_audit 4 ((some FieldType.int))) B.pre
  have hT : ∀ w ∈ ag_tbl, w.before args st = true := fun w h => hts w (List.mem_cons_of_mem _ h)
  have hown : st.vm.findClass RX5 = some m.cls := findClass_of_methodNamed B.named
  have hlocks := B.notSynchronized
  have hS : va_S (ag_A z) st.heap st.heap [] := va_S.rf
  obtain ⟨ls, hls, hl⟩ : ∃ ls, entryFrame m args 4 = F0 m 0 ls [] ∧ lv_has ls 4 [(0, .ref (p 5 0)), (1, .int x1), (2, .int x2)] := by rw [ha]; exact ag_entry m [.ref (p 5 0), .int x1, .int x2] (Nat.le_of_ble_eq_true rfl)
  rw [hls]
  unfold f_X5_audit at hf
  refine lv_aload_n hx hb dX5_audit_0 rfl (lv_at hl 0 rfl) ?_
  refine lv_iload_n hx hb dX5_audit_1 rfl (lv_at hl 1 rfl) ?_
  obtain ⟨r2, hg2, hf⟩ := ag_xs hf
  refine ag_xVr (C1 := 1) (S1 := 6) hx hb hml hT hown hG h0 hS hW (c_X5_grantAt hq9 t5 hg2) ⟨rfl, rfl⟩ q633 q635 qs20 q1 q636 dd_yX5_grantAt ⟨Nat.le_of_ble_eq_true rfl, Nat.le_of_ble_eq_true rfl⟩ t5 rfl rfl hl.1 rfl (Nat.le_of_ble_eq_true rfl) ⟨Nat.le_of_ble_eq_true rfl, Nat.le_of_ble_eq_true rfl⟩ dX5_audit_2 (fun E ce q9 H locs hE hW hS g1 g2 g3 => ag_propO hf hout hlocks (Nat.le_of_ble_eq_true rfl) (Nat.le_of_ble_eq_true rfl) hE hW hS g1 g2 g3) (Nat.le_of_ble_eq_true rfl) (Nat.le_of_ble_eq_true rfl) (fun w2 H locs hr2 v2 hW hS => ?_)
  have hf := ag_inl hf hr2
  obtain ⟨s, es2⟩ : ∃ s9, s9 = r2.2 := ⟨_, rfl⟩
  rw [← es2] at hW hf
  refine lv_astore_n (lv' := [(3, .ref (p 4 w2)), (0, .ref (p 5 0)), (1, .int x1), (2, .int x2)]) hx hb dX5_audit_5 rfl hl (by decide) rfl (fun ls hl => ?_)
  refine lv_iload_n hx hb dX5_audit_6 rfl (lv_at hl 3 rfl) ?_
  refine lv_iconst (v := 1) hx hb dX5_audit_7 (by decide) ?_
  refine lv_ldc (v := 50000) hx hb hown (hT _ q374) dX5_audit_8 ?_
  obtain ⟨r10, hg10, hf⟩ := ag_xs hf
  refine ag_xSv (C1 := 2) (S1 := 12) hx hb hml hT hown hG h0 hS hW (c_X5_needRange hq9 hg10) ⟨rfl, rfl⟩ q280 q281 q1 q282 dd_yX5_needRange ⟨Nat.le_of_ble_eq_true rfl, Nat.le_of_ble_eq_true rfl⟩ hl.1 rfl (Nat.le_of_ble_eq_true rfl) ⟨Nat.le_of_ble_eq_true rfl, Nat.le_of_ble_eq_true rfl⟩ dX5_audit_10 (fun E ce q9 H locs hE hW hS g1 g2 g3 => ag_propO hf hout hlocks (Nat.le_of_ble_eq_true rfl) (Nat.le_of_ble_eq_true rfl) hE hW hS g1 g2 g3) (Nat.le_of_ble_eq_true rfl) (Nat.le_of_ble_eq_true rfl) (fun H locs hr10 hW hS => ?_)
  have hf := ag_inl hf hr10
  obtain ⟨s, es10⟩ : ∃ s9, s9 = r10.2 := ⟨_, rfl⟩
  rw [← es10] at hW hf
  refine lv_aload_n hx hb dX5_audit_13 rfl (lv_at hl 0 rfl) ?_
  obtain ⟨r14, hg14, hf⟩ := ag_xs hf
  refine ag_xSv (C1 := 3) (S1 := 18) hx hb hml hT hown hG h0 hS hW (c_X5_needNotWithdrawn hq9 v2 hg14) ⟨rfl, rfl⟩ q655 q656 q1 q657 dd_yX5_needNotWithdrawn ⟨Nat.le_of_ble_eq_true rfl, Nat.le_of_ble_eq_true rfl⟩ hl.1 rfl (Nat.le_of_ble_eq_true rfl) ⟨Nat.le_of_ble_eq_true rfl, Nat.le_of_ble_eq_true rfl⟩ dX5_audit_14 (fun E ce q9 H locs hE hW hS g1 g2 g3 => ag_propO hf hout hlocks (Nat.le_of_ble_eq_true rfl) (Nat.le_of_ble_eq_true rfl) hE hW hS g1 g2 g3) (Nat.le_of_ble_eq_true rfl) (Nat.le_of_ble_eq_true rfl) (fun H locs hr14 hW hS => ?_)
  have hf := ag_inl hf hr14
  obtain ⟨s, es14⟩ : ∃ s9, s9 = r14.2 := ⟨_, rfl⟩
  rw [← es14] at hW hf
  refine lv_aload_n hx hb dX5_audit_17 rfl (lv_at hl 0 rfl) ?_
  refine g4_5 hx hb hT hown hG hW v2 q604 dX5_audit_18 ?_
  refine lv_iload_n hx hb dX5_audit_21 rfl (lv_at hl 3 rfl) ?_
  refine lv_icmp_ge (tgt := 35) hx hb dX5_audit_22 (by decide) (fun c22 => ?_) (fun c22 => ?_)
  · have hf := ag_t c22 hf
    refine lv_aload_n hx hb dX5_audit_35 rfl (lv_at hl 0 rfl) ?_
    refine lv_iload_n hx hb dX5_audit_36 rfl (lv_at hl 3 rfl) ?_
    obtain ⟨r37, hg37, hf⟩ := ag_bs hf
    refine ag_cVv hx hb hml hT hown hG h0 hS hW (c_X1_clawBack v2 hg37) ⟨rfl, rfl⟩ q674 q675 q676 q23 q677 dd_yX1_clawBack ⟨Nat.le_of_ble_eq_true rfl, Nat.le_of_ble_eq_true rfl⟩ v2 rfl rfl hl.1 rfl (Nat.le_of_ble_eq_true rfl) ⟨Nat.le_of_ble_eq_true rfl, Nat.le_of_ble_eq_true rfl⟩ dX5_audit_37 (fun H locs hW hS => ?_)
    refine lv_aload_n hx hb dX5_audit_40 rfl (lv_at hl 0 rfl) ?_
    refine g4_5 hx hb hT hown hG hW v2 q604 dX5_audit_41 ?_
    refine W.widen (k := 4) (n := 24) (Nat.le_of_ble_eq_true rfl) (Nat.le_of_ble_eq_true rfl) ?_
    exact ag_xiret hx hb hr rfl hlocks hS hf hW dX5_audit_44
  · have hf := ag_f c22 hf
    exact ag_thr3 hx hb hq9 (hml.trans hl.1.symm) hT hown hG hS hW hout hlocks hf (w673) dX5_audit_25 dX5_audit_28 dX5_audit_29 dX5_audit_31 dX5_audit_34 (Nat.le_of_ble_eq_true rfl) (Nat.le_of_ble_eq_true rfl) (Nat.le_of_ble_eq_true rfl) (Nat.le_of_ble_eq_true rfl) (Nat.le_of_ble_eq_true rfl) (Nat.le_of_ble_eq_true rfl)
def f_X5_repay (fu : Nat) (x1 : Int32) (x2 : Int32) (s : ag_S) : Option ((Int32 ⊕ Int32) × ag_S) := ag_bt (f_X5_receiverAt fu x1 s) (fun w2 s => ag_bt (f_X5_needRange fu x2 1 50000 s) (fun _ s => if x2 ≤ s 1 1 w2 then (some (.inl ((ag_up (ag_up s 1 1 w2 ((s 1 1 w2) - x2)) 5 5 0 (((ag_up s 1 1 w2 ((s 1 1 w2) - x2)) 5 5 0) + x2)) 1 1 w2), (ag_up (ag_up s 1 1 w2 ((s 1 1 w2) - x2)) 5 5 0 (((ag_up s 1 1 w2 ((s 1 1 w2) - x2)) 5 5 0) + x2)))) else (some (.inr 3, s))) id) id
abbrev rm_X5_repay : Room := { frames := 7, cells := 3, slots := 18, locals := 105 }
theorem w686 : Cond.stringRef RX5 213 "it owes less" ∈ lw_tbl := List.mem_append_right _ (List.mem_of_getElem? (i := 686) (by decide +kernel))
theorem dd_yX5_repay : yX5_repay.cls = RX5 ∧ yX5_repay.cls ≠ "java/lang/invoke/MethodHandle" ∧ yX5_repay.cls ≠ "java/lang/invoke/VarHandle" ∧ (parseMethodDescriptor yX5_repay.desc).map (fun d => d.parameters.length) = some 2 := by decide +kernel
set_option maxHeartbeats 4000000 in
set_option maxRecDepth 100000 in
theorem c_X5_repay {z : ag_Z} {l : Launch} {n : ag_N} {p : ag_P} {s : ag_S} {fu : Nat} {x1 : Int32} {x2 : Int32} {out : (Int32 ⊕ Int32) × ag_S} (hq9 : l.stackTraces = false) (t5 : vp_in 0 (n 5)) (hf : f_X5_repay fu x1 x2 s = some out) : vx_Met l yX5_repay (ag_ws yX5_repay cX5_repay 4 ((some FieldType.int))) rm_X5_repay (va_Pc [.ref (p 5 0), .int x1, .int x2] (ag_Pre z n p s)) (ag_Xi z n p out) (ag_XX z n p out) 3 18 (ag_A z) := by
  refine vx_ofW (cc := cX5_repay) (maxL := 4) (ret := (some FieldType.int)) (by decide) rfl ?_
  intro p0 e st m args below meth c s9 B hml hout hv
  obtain ⟨ha, h0, hG, hW⟩ := hv
  have hx := B.exec
  have hb := B.bytes
  have hr := B.returns
  have hts := atoms_spec (ws := ag_ws yX5_repay cX5_repay 4 ((some FieldType.int))) B.pre
  have hT : ∀ w ∈ ag_tbl, w.before args st = true := fun w h => hts w (List.mem_cons_of_mem _ h)
  have hown : st.vm.findClass RX5 = some m.cls := findClass_of_methodNamed B.named
  have hlocks := B.notSynchronized
  have hS : va_S (ag_A z) st.heap st.heap [] := va_S.rf
  obtain ⟨ls, hls, hl⟩ : ∃ ls, entryFrame m args 4 = F0 m 0 ls [] ∧ lv_has ls 4 [(0, .ref (p 5 0)), (1, .int x1), (2, .int x2)] := by rw [ha]; exact ag_entry m [.ref (p 5 0), .int x1, .int x2] (Nat.le_of_ble_eq_true rfl)
  rw [hls]
  unfold f_X5_repay at hf
  refine lv_aload_n hx hb dX5_repay_0 rfl (lv_at hl 0 rfl) ?_
  refine lv_iload_n hx hb dX5_repay_1 rfl (lv_at hl 1 rfl) ?_
  obtain ⟨r2, hg2, hf⟩ := ag_xs hf
  refine ag_xVr (C1 := 1) (S1 := 6) hx hb hml hT hown hG h0 hS hW (c_X5_receiverAt hq9 t5 hg2) ⟨rfl, rfl⟩ q577 q579 qs18 q1 q580 dd_yX5_receiverAt ⟨Nat.le_of_ble_eq_true rfl, Nat.le_of_ble_eq_true rfl⟩ t5 rfl rfl hl.1 rfl (Nat.le_of_ble_eq_true rfl) ⟨Nat.le_of_ble_eq_true rfl, Nat.le_of_ble_eq_true rfl⟩ dX5_repay_2 (fun E ce q9 H locs hE hW hS g1 g2 g3 => ag_propO hf hout hlocks (Nat.le_of_ble_eq_true rfl) (Nat.le_of_ble_eq_true rfl) hE hW hS g1 g2 g3) (Nat.le_of_ble_eq_true rfl) (Nat.le_of_ble_eq_true rfl) (fun w2 H locs hr2 v2 hW hS => ?_)
  have hf := ag_inl hf hr2
  obtain ⟨s, es2⟩ : ∃ s9, s9 = r2.2 := ⟨_, rfl⟩
  rw [← es2] at hW hf
  refine lv_astore_n (lv' := [(3, .ref (p 1 w2)), (0, .ref (p 5 0)), (1, .int x1), (2, .int x2)]) hx hb dX5_repay_5 rfl hl (by decide) rfl (fun ls hl => ?_)
  refine lv_iload_n hx hb dX5_repay_6 rfl (lv_at hl 3 rfl) ?_
  refine lv_iconst (v := 1) hx hb dX5_repay_7 (by decide) ?_
  refine lv_ldc (v := 50000) hx hb hown (hT _ q374) dX5_repay_8 ?_
  obtain ⟨r10, hg10, hf⟩ := ag_xs hf
  refine ag_xSv (C1 := 2) (S1 := 12) hx hb hml hT hown hG h0 hS hW (c_X5_needRange hq9 hg10) ⟨rfl, rfl⟩ q280 q281 q1 q282 dd_yX5_needRange ⟨Nat.le_of_ble_eq_true rfl, Nat.le_of_ble_eq_true rfl⟩ hl.1 rfl (Nat.le_of_ble_eq_true rfl) ⟨Nat.le_of_ble_eq_true rfl, Nat.le_of_ble_eq_true rfl⟩ dX5_repay_10 (fun E ce q9 H locs hE hW hS g1 g2 g3 => ag_propO hf hout hlocks (Nat.le_of_ble_eq_true rfl) (Nat.le_of_ble_eq_true rfl) hE hW hS g1 g2 g3) (Nat.le_of_ble_eq_true rfl) (Nat.le_of_ble_eq_true rfl) (fun H locs hr10 hW hS => ?_)
  have hf := ag_inl hf hr10
  obtain ⟨s, es10⟩ : ∃ s9, s9 = r10.2 := ⟨_, rfl⟩
  rw [← es10] at hW hf
  refine lv_aload_n hx hb dX5_repay_13 rfl (lv_at hl 0 rfl) ?_
  refine g1_1 hx hb hT hown hG hW v2 q145 dX5_repay_14 ?_
  refine lv_iload_n hx hb dX5_repay_17 rfl (lv_at hl 3 rfl) ?_
  refine lv_icmp_ge (tgt := 31) hx hb dX5_repay_18 (by decide) (fun c18 => ?_) (fun c18 => ?_)
  · have hf := ag_t c18 hf
    refine lv_aload_n hx hb dX5_repay_31 rfl (lv_at hl 0 rfl) ?_
    refine lv_dup hx hb dX5_repay_32 rfl ?_
    refine g1_1 hx hb hT hown hG hW v2 q145 dX5_repay_33 ?_
    refine lv_iload_n hx hb dX5_repay_36 rfl (lv_at hl 3 rfl) ?_
    refine lv_isub hx hb dX5_repay_37 ?_
    refine u1_1 hx hb hT hown hG hW hS v2 q145 dX5_repay_38 (fun H locs hW hS => ?_)
    refine lv_aload_n hx hb dX5_repay_41 rfl (lv_at hl 1 rfl) ?_
    refine lv_dup hx hb dX5_repay_42 rfl ?_
    refine g5_5 hx hb hT hown hG hW t5 q156 dX5_repay_43 ?_
    refine lv_iload_n hx hb dX5_repay_46 rfl (lv_at hl 3 rfl) ?_
    refine lv_iadd hx hb dX5_repay_47 ?_
    refine u5_5 hx hb hT hown hG hW hS t5 q156 dX5_repay_48 (fun H locs hW hS => ?_)
    refine lv_aload_n hx hb dX5_repay_51 rfl (lv_at hl 0 rfl) ?_
    refine g1_1 hx hb hT hown hG hW v2 q145 dX5_repay_52 ?_
    refine W.widen (k := 3) (n := 18) (Nat.le_of_ble_eq_true rfl) (Nat.le_of_ble_eq_true rfl) ?_
    exact ag_xiret hx hb hr rfl hlocks hS hf hW dX5_repay_55
  · have hf := ag_f c18 hf
    exact ag_thr3 hx hb hq9 (hml.trans hl.1.symm) hT hown hG hS hW hout hlocks hf (w686) dX5_repay_21 dX5_repay_24 dX5_repay_25 dX5_repay_27 dX5_repay_30 (Nat.le_of_ble_eq_true rfl) (Nat.le_of_ble_eq_true rfl) (Nat.le_of_ble_eq_true rfl) (Nat.le_of_ble_eq_true rfl) (Nat.le_of_ble_eq_true rfl) (Nat.le_of_ble_eq_true rfl)
def f_X5_target (fu : Nat) (x1 : Int32) (s : ag_S) : Option ((Int32 ⊕ Int32) × ag_S) := ag_bt (f_X5_needRange fu x1 0 50 s) (fun _ s => some (.inl (s 5 6 0), (ag_up s 5 6 0 x1))) id
abbrev rm_X5_target : Room := { frames := 7, cells := 1, slots := 6, locals := 105 }
theorem dd_yX5_target : yX5_target.cls = RX5 ∧ yX5_target.cls ≠ "java/lang/invoke/MethodHandle" ∧ yX5_target.cls ≠ "java/lang/invoke/VarHandle" ∧ (parseMethodDescriptor yX5_target.desc).map (fun d => d.parameters.length) = some 1 := by decide +kernel
set_option maxHeartbeats 4000000 in
set_option maxRecDepth 100000 in
theorem c_X5_target {z : ag_Z} {l : Launch} {n : ag_N} {p : ag_P} {s : ag_S} {fu : Nat} {x1 : Int32} {out : (Int32 ⊕ Int32) × ag_S} (hq9 : l.stackTraces = false) (t5 : vp_in 0 (n 5)) (hf : f_X5_target fu x1 s = some out) : vx_Met l yX5_target (ag_ws yX5_target cX5_target 3 ((some FieldType.int))) rm_X5_target (va_Pc [.ref (p 5 0), .int x1] (ag_Pre z n p s)) (ag_Xi z n p out) (ag_XX z n p out) 1 6 (ag_A z) := by
  refine vx_ofW (cc := cX5_target) (maxL := 3) (ret := (some FieldType.int)) (by decide) rfl ?_
  intro p0 e st m args below meth c s9 B hml hout hv
  obtain ⟨ha, h0, hG, hW⟩ := hv
  have hx := B.exec
  have hb := B.bytes
  have hr := B.returns
  have hts := atoms_spec (ws := ag_ws yX5_target cX5_target 3 ((some FieldType.int))) B.pre
  have hT : ∀ w ∈ ag_tbl, w.before args st = true := fun w h => hts w (List.mem_cons_of_mem _ h)
  have hown : st.vm.findClass RX5 = some m.cls := findClass_of_methodNamed B.named
  have hlocks := B.notSynchronized
  have hS : va_S (ag_A z) st.heap st.heap [] := va_S.rf
  obtain ⟨ls, hls, hl⟩ : ∃ ls, entryFrame m args 3 = F0 m 0 ls [] ∧ lv_has ls 3 [(0, .ref (p 5 0)), (1, .int x1)] := by rw [ha]; exact ag_entry m [.ref (p 5 0), .int x1] (Nat.le_of_ble_eq_true rfl)
  rw [hls]
  unfold f_X5_target at hf
  refine lv_iload_n hx hb dX5_target_0 rfl (lv_at hl 1 rfl) ?_
  refine lv_iconst (v := 0) hx hb dX5_target_1 (by decide) ?_
  refine lv_bipush (v := 50) hx hb dX5_target_2 (by decide) ?_
  obtain ⟨r4, hg4, hf⟩ := ag_xs hf
  refine ag_xSv (C1 := 1) (S1 := 6) hx hb hml hT hown hG h0 hS hW (c_X5_needRange hq9 hg4) ⟨rfl, rfl⟩ q280 q281 q1 q282 dd_yX5_needRange ⟨Nat.le_of_ble_eq_true rfl, Nat.le_of_ble_eq_true rfl⟩ hl.1 rfl (Nat.le_of_ble_eq_true rfl) ⟨Nat.le_of_ble_eq_true rfl, Nat.le_of_ble_eq_true rfl⟩ dX5_target_4 (fun E ce q9 H locs hE hW hS g1 g2 g3 => ag_propO hf hout hlocks (Nat.le_of_ble_eq_true rfl) (Nat.le_of_ble_eq_true rfl) hE hW hS g1 g2 g3) (Nat.le_of_ble_eq_true rfl) (Nat.le_of_ble_eq_true rfl) (fun H locs hr4 hW hS => ?_)
  have hf := ag_inl hf hr4
  obtain ⟨s, es4⟩ : ∃ s9, s9 = r4.2 := ⟨_, rfl⟩
  rw [← es4] at hW hf
  refine lv_aload_n hx hb dX5_target_7 rfl (lv_at hl 0 rfl) ?_
  refine g5_6 hx hb hT hown hG hW t5 q157 dX5_target_8 ?_
  refine lv_istore_n (lv' := [(2, .int (s 5 6 0)), (0, .ref (p 5 0)), (1, .int x1)]) hx hb dX5_target_11 rfl hl (by decide) rfl (fun ls hl => ?_)
  refine lv_aload_n hx hb dX5_target_12 rfl (lv_at hl 1 rfl) ?_
  refine lv_iload_n hx hb dX5_target_13 rfl (lv_at hl 2 rfl) ?_
  refine u5_6 hx hb hT hown hG hW hS t5 q157 dX5_target_14 (fun H locs hW hS => ?_)
  refine lv_iload_n hx hb dX5_target_17 rfl (lv_at hl 0 rfl) ?_
  exact ag_xiret hx hb hr rfl hlocks hS hf hW dX5_target_18
def f_X5_month_L9 (fu : Nat) : Nat → Int32 → Int32 → ag_S → Option ((Int32 ⊕ Int32) × ag_S)
  | 0, _, _, _ => none
  | nf + 1, x1, x2, s => if x1 ≤ x2 then (some (.inl (s 5 7 0), s)) else (ag_bd (f_X5_withdrawOverdue fu (ag_up s 5 7 0 ((s 5 7 0) + 1))) fun r25 => ag_bd (f_X5_fillReserve fu r25) fun r29 => f_X5_month_L9 fu nf x1 (x2 + 1) r29)
def f_X5_month (fu : Nat) (x1 : Int32) (s : ag_S) : Option ((Int32 ⊕ Int32) × ag_S) := ag_bt (f_X5_needRange fu x1 1 24 s) (fun _ s => f_X5_month_L9 fu fu x1 0 s) id
abbrev rm_X5_month : Room := { frames := 7, cells := 1, slots := 6, locals := 155 }
theorem dd_yX5_month : yX5_month.cls = RX5 ∧ yX5_month.cls ≠ "java/lang/invoke/MethodHandle" ∧ yX5_month.cls ≠ "java/lang/invoke/VarHandle" ∧ (parseMethodDescriptor yX5_month.desc).map (fun d => d.parameters.length) = some 1 := by decide +kernel
set_option maxHeartbeats 4000000 in
set_option maxRecDepth 100000 in
theorem c_X5_month {z : ag_Z} {l : Launch} {n : ag_N} {p : ag_P} {s : ag_S} {fu : Nat} {x1 : Int32} {out : (Int32 ⊕ Int32) × ag_S} (hq9 : l.stackTraces = false) (t5 : vp_in 0 (n 5)) (hf : f_X5_month fu x1 s = some out) : vx_Met l yX5_month (ag_ws yX5_month cX5_month 3 ((some FieldType.int))) rm_X5_month (va_Pc [.ref (p 5 0), .int x1] (ag_Pre z n p s)) (ag_Xi z n p out) (ag_XX z n p out) 1 6 (ag_A z) := by
  refine vx_ofW (cc := cX5_month) (maxL := 3) (ret := (some FieldType.int)) (by decide) rfl ?_
  intro p0 e st m args below meth c s9 B hml hout hv
  obtain ⟨ha, h0, hG, hW⟩ := hv
  have hx := B.exec
  have hb := B.bytes
  have hr := B.returns
  have hts := atoms_spec (ws := ag_ws yX5_month cX5_month 3 ((some FieldType.int))) B.pre
  have hT : ∀ w ∈ ag_tbl, w.before args st = true := fun w h => hts w (List.mem_cons_of_mem _ h)
  have hown : st.vm.findClass RX5 = some m.cls := findClass_of_methodNamed B.named
  have hlocks := B.notSynchronized
  have hS : va_S (ag_A z) st.heap st.heap [] := va_S.rf
  obtain ⟨ls, hls, hl⟩ : ∃ ls, entryFrame m args 3 = F0 m 0 ls [] ∧ lv_has ls 3 [(0, .ref (p 5 0)), (1, .int x1)] := by rw [ha]; exact ag_entry m [.ref (p 5 0), .int x1] (Nat.le_of_ble_eq_true rfl)
  rw [hls]
  have k9 : ∀ (nf : Nat) (x1 : Int32) (x2 : Int32) (s : ag_S) (H : Heap) (locs : List Loc) (ls : Array Slot), ag_W z n p s H → va_S (ag_A z) st.heap H locs → lv_has ls 3 [(0, .ref (p 5 0)), (1, .int x1), (2, .int x2)] → f_X5_month_L9 fu nf x1 x2 s = some out → W p0 l e (headSpec (ag_ws yX5_month cX5_month 3 ((some FieldType.int))) rm_X5_month).room st m args below meth c H locs 1 6 (vx_MQ below (ag_Xi z n p out) (ag_XX z n p out) args st 1 6 (ag_A z)) (F0 m 9 ls []) := by
    intro nf
    induction nf with
    | zero => intro x1 x2 s H locs ls hW hS hl hf; rw [f_X5_month_L9] at hf; cases hf
    | succ nf ih =>
      intro x1 x2 s H locs ls hW hS hl hf
      rw [f_X5_month_L9] at hf
      refine lv_iload_n hx hb dX5_month_9 rfl (lv_at hl 2 rfl) ?_
      refine lv_iload_n hx hb dX5_month_10 rfl (lv_at hl 1 rfl) ?_
      refine lv_icmp_ge (tgt := 38) hx hb dX5_month_11 (by decide) (fun c11 => ?_) (fun c11 => ?_)
      · have hf := ag_t c11 hf
        refine lv_aload_n hx hb dX5_month_38 rfl (lv_at hl 0 rfl) ?_
        refine g5_7 hx hb hT hown hG hW t5 q158 dX5_month_39 ?_
        exact ag_xiret hx hb hr rfl hlocks hS hf hW dX5_month_42
      · have hf := ag_f c11 hf
        refine lv_aload_n hx hb dX5_month_14 rfl (lv_at hl 0 rfl) ?_
        refine lv_dup hx hb dX5_month_15 rfl ?_
        refine g5_7 hx hb hT hown hG hW t5 q158 dX5_month_16 ?_
        refine lv_iconst (v := 1) hx hb dX5_month_19 (by decide) ?_
        refine lv_iadd hx hb dX5_month_20 ?_
        refine u5_7 hx hb hT hown hG hW hS t5 q158 dX5_month_21 (fun H locs hW hS => ?_)
        refine lv_aload_n hx hb dX5_month_24 rfl (lv_at hl 0 rfl) ?_
        obtain ⟨r25, hg25, hf⟩ := ag_bs hf
        refine ag_cVv hx hb hml hT hown hG h0 hS hW (c_X5_withdrawOverdue t5 hg25) ⟨rfl, rfl⟩ q701 q703 qs21 q1 q704 dd_yX5_withdrawOverdue ⟨Nat.le_of_ble_eq_true rfl, Nat.le_of_ble_eq_true rfl⟩ t5 rfl rfl hl.1 rfl (Nat.le_of_ble_eq_true rfl) ⟨Nat.le_of_ble_eq_true rfl, Nat.le_of_ble_eq_true rfl⟩ dX5_month_25 (fun H locs hW hS => ?_)
        refine lv_aload_n hx hb dX5_month_28 rfl (lv_at hl 0 rfl) ?_
        obtain ⟨r29, hg29, hf⟩ := ag_bs hf
        refine ag_cVv hx hb hml hT hown hG h0 hS hW (c_X5_fillReserve t5 hg29) ⟨rfl, rfl⟩ q709 q711 qs22 q1 q712 dd_yX5_fillReserve ⟨Nat.le_of_ble_eq_true rfl, Nat.le_of_ble_eq_true rfl⟩ t5 rfl rfl hl.1 rfl (Nat.le_of_ble_eq_true rfl) ⟨Nat.le_of_ble_eq_true rfl, Nat.le_of_ble_eq_true rfl⟩ dX5_month_29 (fun H locs hW hS => ?_)
        refine lv_iinc (v := x2 + 1) (lv' := [(2, .int (x2 + 1)), (0, .ref (p 5 0)), (1, .int x1)]) hx hb dX5_month_32 hl (k := 2) rfl rfl (by decide) rfl (fun ls hl => ?_)
        refine lv_goto (tgt := 9) hx hb dX5_month_35 (by decide) ?_
        exact ih _ _ _ _ _ _ hW hS (lv_sub hl [1, 2, 0] rfl) hf
  unfold f_X5_month at hf
  refine lv_iload_n hx hb dX5_month_0 rfl (lv_at hl 1 rfl) ?_
  refine lv_iconst (v := 1) hx hb dX5_month_1 (by decide) ?_
  refine lv_bipush (v := 24) hx hb dX5_month_2 (by decide) ?_
  obtain ⟨r4, hg4, hf⟩ := ag_xs hf
  refine ag_xSv (C1 := 1) (S1 := 6) hx hb hml hT hown hG h0 hS hW (c_X5_needRange hq9 hg4) ⟨rfl, rfl⟩ q280 q281 q1 q282 dd_yX5_needRange ⟨Nat.le_of_ble_eq_true rfl, Nat.le_of_ble_eq_true rfl⟩ hl.1 rfl (Nat.le_of_ble_eq_true rfl) ⟨Nat.le_of_ble_eq_true rfl, Nat.le_of_ble_eq_true rfl⟩ dX5_month_4 (fun E ce q9 H locs hE hW hS g1 g2 g3 => ag_propO hf hout hlocks (Nat.le_of_ble_eq_true rfl) (Nat.le_of_ble_eq_true rfl) hE hW hS g1 g2 g3) (Nat.le_of_ble_eq_true rfl) (Nat.le_of_ble_eq_true rfl) (fun H locs hr4 hW hS => ?_)
  have hf := ag_inl hf hr4
  obtain ⟨s, es4⟩ : ∃ s9, s9 = r4.2 := ⟨_, rfl⟩
  rw [← es4] at hW hf
  refine lv_iconst (v := 0) hx hb dX5_month_7 (by decide) ?_
  refine lv_istore_n (lv' := [(2, .int 0), (0, .ref (p 5 0)), (1, .int x1)]) hx hb dX5_month_8 rfl hl (by decide) rfl (fun ls hl => ?_)
  exact k9 fu _ _ _ _ _ _ hW hS (lv_sub hl [1, 2, 0] rfl) hf
