/-! ===== standsAnew, ofSource, ofAmendment ===== -/
theorem op_standsAnew {A : TT} {nl na ng t fu : Nat} {n : ag_N} {s : ag_S} {x : Int32} (h : ClS A nl na ng n s) (hr : RfS A nl na ng s) (hI : In A nl na ng t) (ht : t + 1 ≤ 520) (hf : 60 < fu) : Op1 (t + 1) n (f_L_standsAnew fu x s) (fun s => f_X6_standsAnew fu x s) := by
  have hna := hI.wf.hna
  have hnl := hI.wf.hnl
  have b3 := h.l3.le
  rcases idx x nl (by omega) with ⟨l, hl, rfl⟩ | ⟨nr, nx⟩
  · have hc : f_X5_standsAnew_L11 fu fu (nI l) 0 0 s = some (.inl (standA A na l), s) := by
      obtain ⟨v, e1, e2⟩ := up_loop (F := fun nf i (v : Int32) => f_X5_standsAnew_L11 fu nf (nI l) v i s) (N := na) (I := fun q v => v = isum (cntA A l) q) (E := fun v => some (.inl ((A 2 2 l + v + A 2 6 l) - A 2 5 l), s)) (fun nf q v hq hv => by
        refine ⟨v + cntA A l q, ?_, ?_⟩
        · show f_X5_standsAnew_L11 fu (nf + 1) (nI l) v (nI q) s = f_X5_standsAnew_L11 fu nf (nI l) _ (nI (q + 1)) s
          rw [f_X5_standsAnew_L11, h.l3.size3, bd_some, if_neg (nI_ge hq (p31 (by omega))), h.l3.get3 hq, bd_some, h.g3 hq, h.g3 hq]
          unfold f_X5_countsByVotes cntA
          rw [counts_C h hI.wf hI.dc q hq fu (by omega), bd_some, nI_1]
          by_cases c : A 3 2 q = nI l
          · rw [if_pos c]
            by_cases d : chA A q = true
            · rw [if_pos d, if_neg (by decide), if_pos ⟨d, c⟩]
            · rw [if_neg d, if_pos rfl, if_neg (fun e => d e.1), Int32.add_zero]
          · rw [if_neg c, if_neg (fun e => c e.2), Int32.add_zero]
        · show _ = _
          rw [hv, isum]) (fun nf v hv => by
        show f_X5_standsAnew_L11 fu (nf + 1) (nI l) v (nI na) s = _
        rw [f_X5_standsAnew_L11, h.l3.size3, bd_some, if_pos (nI_le (Nat.le_refl _) (p31 (by omega)))]
        unfold f_X2_standsWith
        rw [bd_some, h.g2 hl, h.g2 hl, h.g2 hl]) na 0 0 fu (by omega) (by omega) rfl
      have e3 : f_X5_standsAnew_L11 fu fu (nI l) 0 0 s = some (.inl ((A 2 2 l + v + A 2 6 l) - A 2 5 l), s) := (show nI 0 = 0 from by decide) ▸ e1
      rw [e3, e2, ← root_cnt hI.wf hI.br]
      unfold standA baseA
      rw [Int32.sub_eq_add_neg, Int32.sub_eq_add_neg]
      refine congrArg some (Prod.ext (congrArg Sum.inl ?_) rfl)
      ac_rfl
    refine op_q (w := standA A na l) h hr (hI.mono ht) ?_ fun s' hr' => ?_
    · simp only [f_L_standsAnew, f_X5_standsAnew, lineAt_ok h hl, bt_inl, hc, bc_inl, z00, if_false]
    · obtain ⟨sa, ea, fa, -⟩ := stands_R (fu := fu) (hr'.u6 (v := 0)) hI.wf hI.br (by omega) (show l < 10 by omega)
      simp only [f_X6_standsAnew, isLine_ok hr' hl (by omega), bd_some, i10, if_false, gw0, ea]
      exact ⟨_, rfl, fa⟩
  · refine op_no (c := 1) h hr (hI.mono ht) (by decide) ?_ (rf_no fun s' hr' => ?_)
    · simp only [f_L_standsAnew, f_X5_standsAnew, lineAt_no h nx, bt_inr, bc_inr, id, if_true]
    · simp only [f_X6_standsAnew, isLine_no hr' nr, bd_some, if_true, gwn (show ¬ (1 : Int32) = 0 by decide)]
/-- what stands of a source's lines, together -/
def srcA (A : TT) (na i l : Nat) : Int32 := if A 2 1 l = nI i then standA A na l else 0
theorem ofSource_R {A : TT} {nl na ng fu i : Nat} {y : Int32} {s : ag_S} (h : RfS A nl na ng s) (hw : Wf A nl na ng) (hb : Br A nl na) (hf : 60 < fu) (hi : i < 4) : ∃ s', f_X6_ofSource_L37 fu fu (nI i) y 0 0 s = some (if y = 0 then A 0 1 i else if y = 1 then A 0 2 i else isum (srcA A na i) nl, s') ∧ ∀ k f j, k ≠ 59 → s' k f j = s k f j := by
  have hnl := hw.hnl
  obtain ⟨v, e1, e2⟩ := up_loop (F := fun nf j (v : Int32 × ag_S) => f_X6_ofSource_L37 fu nf (nI i) y v.1 j v.2) (N := nl) (I := fun q v => v.1 = isum (srcA A na i) q ∧ ∀ k f j, k ≠ 59 → v.2 k f j = s k f j) (E := fun v => some (if y = 0 then A 0 1 i else if y = 1 then A 0 2 i else v.1, v.2)) (fun nf q v hq hv => by
    have u := h.u59 hv.2
    by_cases c : A 2 1 q = nI i
    · obtain ⟨sa, ea, fa, -⟩ := stands_R (fu := fu) u hw hb (by omega) (show q < 10 by omega)
      refine ⟨(v.1 + standA A na q, sa), ?_, ?_, fun k f j hk => (fa k f j hk).trans (hv.2 k f j hk)⟩
      · show f_X6_ofSource_L37 fu (nf + 1) (nI i) y v.1 (nI q) v.2 = f_X6_ofSource_L37 fu nf (nI i) y (v.1 + standA A na q) (nI (q + 1)) sa
        rw [f_X6_ofSource_L37, u.z7, if_neg (nI_ge hq (p31 (by omega))), if_neg (nI_in (show q < 10 by omega) (p31 (by omega))), u.r38 q (by omega), if_pos c, ea, bd_some, nI_1]
      · show v.1 + standA A na q = _
        rw [isum, hv.1]
        unfold srcA
        rw [if_pos c]
    · refine ⟨(v.1 + 0, v.2), ?_, ?_, hv.2⟩
      · show f_X6_ofSource_L37 fu (nf + 1) (nI i) y v.1 (nI q) v.2 = f_X6_ofSource_L37 fu nf (nI i) y (v.1 + 0) (nI (q + 1)) v.2
        rw [f_X6_ofSource_L37, u.z7, if_neg (nI_ge hq (p31 (by omega))), if_neg (nI_in (show q < 10 by omega) (p31 (by omega))), u.r38 q (by omega), if_neg c, nI_1]
      · show v.1 + 0 = _
        rw [isum, hv.1]
        unfold srcA
        rw [if_neg c]) (fun nf v hv => by
    have u := h.u59 hv.2
    show f_X6_ofSource_L37 fu (nf + 1) (nI i) y v.1 (nI nl) v.2 = _
    rw [f_X6_ofSource_L37, u.z7, if_pos (nI_le (Nat.le_refl _) (p31 (by omega))), if_neg (nI_in hi (p31 (by omega))), u.r34 i (by omega), u.r35 i (by omega)]
    by_cases c0 : y = 0
    · rw [if_pos c0, if_pos c0]
    · rw [if_neg c0, if_neg c0]
      by_cases c1 : y = 1
      · rw [if_pos c1, if_neg (nI_in hi (p31 (by omega))), if_pos c1]
      · rw [if_neg c1, if_neg c1]) nl 0 ((0 : Int32), s) fu (by omega) (by omega) ⟨rfl, fun _ _ _ _ => rfl⟩
  refine ⟨v.2, ?_, e2.2⟩
  rw [← e2.1]
  exact (show nI 0 = 0 from by decide) ▸ e1
theorem linesFrom_C {A : TT} {nl na ng fu i : Nat} {n : ag_N} {s : ag_S} (h : ClS A nl na ng n s) (hb : Br A nl na) (hf : 60 < fu) : f_X5_standsOfLinesFrom fu (nI i) s = some (isum (srcA A na i) nl) := by
  have b2 := h.l2.le
  unfold f_X5_standsOfLinesFrom
  obtain ⟨v, e1, e2⟩ := up_loop (F := fun nf j (v : Int32) => f_X5_standsOfLinesFrom_L4 fu nf (nI i) v j s) (N := nl) (I := fun q v => v = isum (srcA A na i) q) (E := fun v => some v) (fun nf q v hq hv => by
    refine ⟨v + srcA A na i q, ?_, ?_⟩
    · show f_X5_standsOfLinesFrom_L4 fu (nf + 1) (nI i) v (nI q) s = f_X5_standsOfLinesFrom_L4 fu nf (nI i) _ (nI (q + 1)) s
      rw [f_X5_standsOfLinesFrom_L4, h.l2.size2, bd_some, if_neg (nI_ge hq (p31 (by omega))), h.l2.get2 hq, bd_some, h.g2 hq, stands_C h hb hq, bd_some, nI_1]
      unfold srcA
      by_cases e : A 2 1 q = nI i
      · rw [if_pos e, if_pos e]
      · rw [if_neg e, if_neg e, Int32.add_zero]
    · show _ = _
      rw [hv, isum]) (fun nf v hv => by
    show f_X5_standsOfLinesFrom_L4 fu (nf + 1) (nI i) v (nI nl) s = _
    rw [f_X5_standsOfLinesFrom_L4, h.l2.size2, bd_some, if_pos (nI_le (Nat.le_refl _) (p31 (by omega)))]) nl 0 0 fu (by omega) (by omega) rfl
  rw [← e2]
  exact (show nI 0 = 0 from by decide) ▸ e1
theorem op_ofSource {A : TT} {nl na ng t fu : Nat} {n : ag_N} {s : ag_S} {x y : Int32} (h : ClS A nl na ng n s) (hr : RfS A nl na ng s) (hI : In A nl na ng t) (ht : t + 1 ≤ 520) (hf : 60 < fu) : Op1 (t + 1) n (f_L_ofSource fu x y s) (fun s => f_X6_ofSource fu x y s) := by
  rcases idx4 x with ⟨i, hi, rfl⟩ | ⟨nr, nx⟩
  · by_cases hy : rng y 0 2
    · have hR : ∀ s', RfS A nl na ng s' → ∃ s2, f_X6_ofSource fu (nI i) y s' = some (if y = 0 then A 0 1 i else if y = 1 then A 0 2 i else isum (srcA A na i) nl, s2) ∧ ∀ k f j, k ≠ 59 → s2 k f j = ag_up s' 6 0 0 0 k f j := fun s' hr' => by
        obtain ⟨s2, e, f⟩ := ofSource_R (fu := fu) (y := y) (i := i) (hr'.u6 (v := 0)) hI.wf hI.br hf hi
        simp only [f_X6_ofSource, in_ok (rng4 hi), in_ok hy, bd_some, i10, if_false, gw0, e]
        exact ⟨_, rfl, f⟩
      refine op_q h hr (hI.mono ht) ?_ hR
      rcases en3 hy with rfl | rfl | rfl
      · simp only [f_L_ofSource, f_X5_ofSource, sourceAt_ok h hi, bt_inl, h.q0 hi 1 (by decide), if_true, bc_inl, z00, if_false]
      · simp only [f_L_ofSource, f_X5_ofSource, sourceAt_ok h hi, bt_inl, h.q0 hi 2 (by decide), i10, if_true, bc_inl, z00, if_false]
      · simp only [f_L_ofSource, f_X5_ofSource, sourceAt_ok h hi, bt_inl, linesFrom_C h hI.br hf, bd_some, i20, i21, if_true, bc_inl, z00, if_false]
    · refine op_no (c := 1) h hr (hI.mono ht) (by decide) ?_ (rf_no fun s' hr' => ?_)
      · simp only [f_L_ofSource, f_X5_ofSource, sourceAt_ok h hi, bt_inl, no3 hy, bc_inr, if_false, if_true]
      · simp only [f_X6_ofSource, in_ok (rng4 hi), in_no hy, bd_some, i10, if_false, if_true, gwn (show ¬ (1 : Int32) = 0 by decide)]
  · refine op_no (c := 1) h hr (hI.mono ht) (by decide) ?_ (rf_no fun s' hr' => ?_)
    · simp only [f_L_ofSource, f_X5_ofSource, sourceAt_no h nx, bt_inr, bc_inr, id, if_true]
    · simp only [f_X6_ofSource, in_no nr, bd_some, if_true, gwn (show ¬ (1 : Int32) = 0 by decide)]
theorem op_ofAmendment {A : TT} {nl na ng t fu : Nat} {n : ag_N} {s : ag_S} {x y : Int32} (h : ClS A nl na ng n s) (hr : RfS A nl na ng s) (hI : In A nl na ng t) (ht : t + 1 ≤ 520) (hf : 60 < fu) : Op1 (t + 1) n (f_L_ofAmendment fu x y s) (fun s => f_X6_ofAmendment fu x y s) := by
  have hna := hI.wf.hna
  have hnl := hI.wf.hnl
  rcases idx x na (by omega) with ⟨a, ha, rfl⟩ | ⟨nr, nx⟩
  · by_cases hy : rng y 0 7
    · obtain ⟨l, hl, el⟩ := hI.wf.lin a ha
      obtain ⟨vo, vt⟩ := hI.vt.one ha
      have eh : f_X5_numberOf fu (A 3 1 a) s = some (A 3 1 a) := by
        unfold f_X5_numberOf
        rcases hI.wf.tree a ha with e | ⟨p, hp, e⟩
        · rw [if_pos e, e]
        · rw [e, if_neg (nI_neg1 (by omega)).1, h.g3 (by omega), hI.wf.num3 p (by omega)]
      have a40 := inn (show a < 40 by omega) (by omega)
      have main : ∀ w, f_L_ofAmendment fu (nI a) y s = some (0, ag_up s 8 0 0 w) → (∀ s' s2, RfS A nl na ng s' → f_X6_bring fu (ag_up s' 6 0 0 0) = some s2 → RfS A nl na ng s2 → s2 59 0 (nI a) = A 3 4 a → f_X6_ofAmendment fu (nI a) y s' = some (w, s2)) → Op1 (t + 1) n (f_L_ofAmendment fu (nI a) y s) (fun s => f_X6_ofAmendment fu (nI a) y s) := fun w h1 h2 => op_q h hr (hI.mono ht) h1 fun s' hr' => by
        obtain ⟨s2, e, f, v⟩ := bring_R (fu := fu) (hr'.u6 (v := 0)) hI.wf hI.br (by omega)
        exact ⟨s2, h2 s' s2 hr' e (hr'.u6.u59 f) (v a ha), f⟩
      rcases en8 hy with rfl | rfl | rfl | rfl | rfl | rfl | rfl | rfl
      · refine main (A 3 5 a) ?_ fun s' s2 hr' e u v => ?_
        · simp only [f_L_ofAmendment, f_X5_ofAmendment, amendmentAt_ok h ha, bt_inl, h.q3 ha 5 (by decide), bc_inl, z00, if_false, if_true]
        · simp only [f_X6_ofAmendment, isAmendment_ok hr' ha (by omega), bd_some, in_ok hy, i10, if_false, if_true, f_X6_ofAmendment_b30, gw0, e, a40, u.r47 a (by omega)]
      · refine main (A 3 4 a) ?_ fun s' s2 hr' e u v => ?_
        · simp only [f_L_ofAmendment, f_X5_ofAmendment, amendmentAt_ok h ha, bt_inl, h.q3 ha 4 (by decide), i10, bc_inl, z00, if_false, if_true]
        · simp only [f_X6_ofAmendment, isAmendment_ok hr' ha (by omega), bd_some, in_ok hy, i10, if_false, if_true, f_X6_ofAmendment_b30, gw0, e, a40, v]
      · refine main (A 3 6 a) ?_ fun s' s2 hr' e u v => ?_
        · simp only [f_L_ofAmendment, f_X5_ofAmendment, amendmentAt_ok h ha, bt_inl, h.q3 ha 6 (by decide), i20, i21, bc_inl, z00, if_false, if_true]
        · simp only [f_X6_ofAmendment, isAmendment_ok hr' ha (by omega), bd_some, in_ok hy, i10, i20, i21, if_false, if_true, f_X6_ofAmendment_b30, gw0, e, a40, u.r48 a (by omega)]
      · refine main (bcv (A 3 8 a)) ?_ fun s' s2 hr' e u v => ?_
        · simp only [f_L_ofAmendment, f_X5_ofAmendment, f_X0_votesFor, bc_eq, bd_some, amendmentAt_ok h ha, bt_inl, h.q3 ha 8 (by decide), i30, i31, i32, bc_inl, z00, if_false, if_true]
        · simp only [f_X6_ofAmendment, isAmendment_ok hr' ha (by omega), bd_some, in_ok hy, i10, i30, i31, i32, if_false, if_true, f_X6_ofAmendment_b30, gw0, e, votesOf_R u (show a < 40 by omega) (show 10 < fu by omega), vo]
      · refine main (bcv (A 3 9 a)) ?_ fun s' s2 hr' e u v => ?_
        · simp only [f_L_ofAmendment, f_X5_ofAmendment, f_X0_votesAgainst, bc_eq, bd_some, amendmentAt_ok h ha, bt_inl, h.q3 ha 9 (by decide), i40, bc_inl, z00, if_false, if_true]
        · simp only [f_X6_ofAmendment, isAmendment_ok hr' ha (by omega), bd_some, in_ok hy, i10, i40, if_false, if_true, f_X6_ofAmendment_b30, gw0, e, votesOf_R u (show a < 40 by omega) (show 10 < fu by omega), vt]
      · refine main (A 3 1 a) ?_ fun s' s2 hr' e u v => ?_
        · simp only [f_L_ofAmendment, f_X5_ofAmendment, eh, bd_some, amendmentAt_ok h ha, bt_inl, h.q3 ha 1 (by decide), i50, bc_inl, z00, if_false, if_true]
        · simp only [f_X6_ofAmendment, isAmendment_ok hr' ha (by omega), bd_some, in_ok hy, i10, i50, if_false, if_true, f_X6_ofAmendment_b30, gw0, e, a40, u.r44 a (by omega)]
      · refine main (A 3 2 a) ?_ fun s' s2 hr' e u v => ?_
        · simp only [f_L_ofAmendment, f_X5_ofAmendment, amendmentAt_ok h ha, bt_inl, h.q3 ha 2 (by decide), el, neN (show l ≤ 1000 by omega), h.q2 hl 0 (by decide), hI.wf.num2 l hl, i60, bc_inl, z00, if_false, if_true]
        · simp only [f_X6_ofAmendment, isAmendment_ok hr' ha (by omega), bd_some, in_ok hy, i10, i60, if_false, if_true, f_X6_ofAmendment_b30, gw0, e, a40, u.r45 a (by omega)]
      · refine main (isum (fun k => if A 3 1 k = nI a then 1 else 0) na) ?_ fun s' s2 hr' e u v => ?_
        · simp only [f_L_ofAmendment, f_X5_ofAmendment, countOn_C h hf, bd_some, amendmentAt_ok h ha, bt_inl, i70, bc_inl, z00, if_false, if_true]
        · simp only [f_X6_ofAmendment, isAmendment_ok hr' ha (by omega), bd_some, in_ok hy, i10, i70, if_false, f_X6_ofAmendment_b30, gw0, e, manyOn_R u hna (show 41 < fu by omega)]
    · refine op_no (c := 2) h hr (hI.mono ht) (by decide) ?_ (rf_no fun s' hr' => ?_)
      · simp only [f_L_ofAmendment, f_X5_ofAmendment, amendmentAt_ok h ha, bt_inl, no8 hy, bc_inr, i21, if_false, if_true]
      · simp only [f_X6_ofAmendment, isAmendment_ok hr' ha (by omega), bd_some, in_no hy, i10, if_false, if_true, f_X6_ofAmendment_b30, gwn (show ¬ (2 : Int32) = 0 by decide)]
  · refine op_no (c := 1) h hr (hI.mono ht) (by decide) ?_ (rf_no fun s' hr' => ?_)
    · simp only [f_L_ofAmendment, f_X5_ofAmendment, amendmentAt_no h nx, bt_inr, bc_inr, id, if_true]
    · simp only [f_X6_ofAmendment, isAmendment_no hr' nr, bd_some, if_true, f_X6_ofAmendment_b30, gwn (show ¬ (1 : Int32) = 0 by decide)]
