theorem passed_C {A : TT} {nl na ng t fu a l : Nat} {n : ag_N} {s : ag_S} (h : ClS A nl na ng n s) (hI : In A nl na ng t) (ha : a < na) (hl : l < nl) (el : A 3 2 a = nI l) (h0 : A 3 5 a = 0) (hw1 : wonA A a) (ho : ¬ opA A na a) (hf : 60 < fu) : ∃ s1 E, f_X5_makePassed fu (nI a) s = some s1 ∧ ClS E nl na ng n s1 ∧ frC s s1 ∧ In E nl na ng t ∧ E 3 5 a = 1 ∧ ∀ s', RfS A nl na ng s' → (A 3 1 a = -1 → ∃ c s2, f_X6_look fu (nI l) (ag_up s' 47 0 (nI a) 1) = some (c, s2) ∧ RfS E nl na ng s2 ∧ frR s' s2 ∧ s2 6 0 0 = s' 6 0 0) ∧ (¬ A 3 1 a = -1 → RfS E nl na ng (ag_up s' 47 0 (nI a) 1)) := by
  have hna := hI.wf.hna
  have hnl := hI.wf.hnl
  have wA1 : Wf (tU A 3 5 a 1) nl na ng := hI.wf.congr (agr.rfl.u (by decide))
  obtain ⟨sb, B, eb, hb1, fb, bB, oB⟩ := reckon_C (fu := fu) (h.w (k := 3) (f := 5) (i := a) (v := 1) (by decide) (by omega)) wA1 hf
  obtain ⟨X, N⟩ := passed_X hI ha hl el h0 hw1 ho bB oB
  have b31 : B 3 1 a = A 3 1 a := by rw [oB _ _ _ (by decide) (by decide), tuf (by decide)]
  have b32 : B 3 2 a = nI l := by rw [oB _ _ _ (by decide) (by decide), tuf (by decide), el]
  have b35 : B 3 5 a = 1 := by rw [oB _ _ _ (by decide) (by decide), tU_eq]
  have rB : ∀ s', RfS A nl na ng s' → RfS B nl na ng (ag_up s' 47 0 (nI a) 1) := fun s' hr => (hr.w47 (by omega)).congr fun k f i q => oB k f i (by rintro ⟨rfl, rfl⟩; exact absurd q (by decide)) (by rintro ⟨rfl, rfl⟩; exact absurd q (by decide))
  by_cases c : A 3 1 a = -1
  · obtain ⟨sc, ec, hc1, fc⟩ := balance_C (fu := fu) hb1 X.1 X.2.1 hf hl
    refine ⟨sc, covA (lookS na ng l ng B 0).1 na ng l, ?_, hc1, (((frC.refl s).up (k := 3) (by decide)).trans fb).trans fc, (InX.look ng B 0 (Nat.le_refl _) X).cov hl, ?_, fun s' hr => ⟨fun _ => ?_, fun q => absurd c q⟩⟩
    · unfold f_X5_makePassed
      rw [eb, bd_some, hb1.g3 ha, b31, if_pos c, hb1.g3 ha, b32, if_neg (nI_neg1 (by omega)).1, ec, bd_some]
    · rw [cov_3, look_3, b35]
    · obtain ⟨s2, e2, r2, f2, z2⟩ := look_R (fu := fu) (rB s' hr) X.1 X.2.1 hf hl
      exact ⟨_, s2, e2, r2, ((frR.refl s').up (k := 47) (by decide)).trans f2, z2.trans (upk (by decide))⟩
  · refine ⟨sb, B, ?_, hb1, ((frC.refl s).up (k := 3) (by decide)).trans fb, N c, b35, fun s' hr => ⟨fun q => absurd q c, fun _ => rB s' hr⟩⟩
    unfold f_X5_makePassed
    rw [eb, bd_some, hb1.g3 ha, b31, if_neg c]
theorem round_R {A : TT} {nl na ng fu a : Nat} {s : ag_S} (h : RfS A nl na ng s) (ha : a < 40) (h0 : A 3 5 a = 0) (hf : 60 < fu) : ∃ s1, f_X6_decide_L82 fu fu (nI a) 0 (ag_up s 48 0 (nI a) 2) = some (0, s1) ∧ RfS (rdA A a) nl na ng s1 ∧ frR s s1 ∧ s1 6 0 0 = s 6 0 0 := by
  obtain ⟨s1, e1, r1, f1, z1⟩ := up_loop (F := fun nf i (v : ag_S) => f_X6_decide_L82 fu nf (nI a) i v) (N := 9) (I := fun q v => RfS (vzA (tU A 3 6 a 2) a q) nl na ng v ∧ frR s v ∧ v 6 0 0 = s 6 0 0) (E := fun v => some (0, v)) (fun nf q v hq hv => by
    obtain ⟨hr, fv, zv⟩ := hv
    refine ⟨ag_up v 49 0 (nI (9 * a + q)) 0, ?_, hr.w49 (by omega), fv.up (by decide), (upk (by decide)).trans zv⟩
    show f_X6_decide_L82 fu (nf + 1) (nI a) (nI q) v = f_X6_decide_L82 fu nf (nI a) (nI (q + 1)) _
    rw [f_X6_decide_L82, if_neg (show ¬ (9 : Int32) ≤ nI q from nI_ge (b := 9) hq (p31 (by omega))), nI_mul9, nI_add, if_neg (nI_in (show 9 * a + q < 360 by omega) (p31 (by omega))), nI_1]) (fun nf v hv => by
    show f_X6_decide_L82 fu (nf + 1) (nI a) (nI 9) v = _
    rw [f_X6_decide_L82, if_pos (show (9 : Int32) ≤ nI 9 from nI_le (a := 9) (Nat.le_refl _) (p31 (by omega))), if_neg (nI_in ha (p31 (show 40 ≤ 1000 by decide))), hv.1.r47 a (by omega), vzA_v, if_neg (by omega), tU_ne (by omega), h0]) 9 0 (ag_up s 48 0 (nI a) 2) fu (by omega) (by omega) ⟨h.w48 (by omega), (frR.refl s).up (k := 48) (by decide), upk (k := 48) (k' := 6) (by decide)⟩
  exact ⟨s1, (show nI 0 = 0 from by decide) ▸ e1, (r1.co (by decide)).co (by decide), f1, z1⟩
theorem op_decide {A : TT} {nl na ng t fu : Nat} {n : ag_N} {s : ag_S} {x : Int32} (h : ClS A nl na ng n s) (hr : RfS A nl na ng s) (hI : In A nl na ng t) (ht : t + 1 ≤ 520) (hf : 60 < fu) : Op1 (t + 1) n (f_L_decide fu x s) (fun s => f_X6_decide fu x s) := by
  have hna := hI.wf.hna
  have hnl := hI.wf.hnl
  rcases idx x na (by omega) with ⟨a, ha, rfl⟩ | ⟨nr, nx⟩
  · have a40 := inn (show a < 40 by omega) (by omega)
    have no2 : ¬ (A 3 5 a = 0 ∧ ¬ opA A na a) → RfOp (fun s => f_X6_decide fu (nI a) s) A nl na ng 2 0 A nl na ng := fun q => rf_no fun s' hr' => by
      simp only [f_X6_decide, isAmendment_ok hr' ha (by omega), bd_some, i10, if_false, (isFree_R hr' hI.wf ha hf).2 q, if_true, f_X6_decide_b28, gwn (show ¬ (2 : Int32) = 0 by decide)]
    by_cases h0 : A 3 5 a = 0
    · obtain ⟨o1, o2⟩ := oneOpen_C (c := nI a) h na 0 fu (by omega) (by omega)
      rw [show nI 0 = 0 from by decide] at o1 o2
      by_cases ho : opA A na a
      · refine op_no (c := 2) h hr (hI.mono ht) (by decide) ?_ (no2 fun q => q.2 ho)
        have e1 : f_X5_isOneOpenOn_L2 fu fu (nI a) 0 s = some 1 := o1 (by
          obtain ⟨k, q1, q2⟩ := ho
          exact ⟨k, Nat.zero_le _, q1, q2⟩)
        simp only [f_L_decide, f_X5_decide, f_X5_needOpen, f_X5_isOneOpenOn, amendmentAt_ok h ha, bt_inl, h.q3 ha 5 (by decide), h0, if_true, e1, bd_some, i10, if_false, bc_inr, i31]
      · have e1 : f_X5_isOneOpenOn_L2 fu fu (nI a) 0 s = some 0 := o2 (by
          rintro ⟨k, -, q1, q2⟩
          exact ho ⟨k, q1, q2⟩)
        obtain ⟨l, hl, el⟩ := hI.wf.lin a ha
        obtain ⟨vo, vt⟩ := hI.vt.one ha
        obtain ⟨n1, n2, n3⟩ := votes9 hI.vt ha
        have hwn := isWon_C (fu := fu) h ha
        -- what the reference does after its first questions
        have start : ∀ s', RfS A nl na ng s' → f_X6_decide fu (nI a) s' = if A 3 6 a = 1 then (if (5 : Int32) ≤ bcv (A 3 8 a) then (f_X6_decide_b111 fu (nI a) (bcv (A 3 8 a)) (bcv (A 3 9 a)) (ag_up s' 6 0 0 0)) else (if (5 : Int32) ≤ bcv (A 3 9 a) then (f_X6_decide_b111 fu (nI a) (bcv (A 3 8 a)) (bcv (A 3 9 a)) (ag_up s' 6 0 0 0)) else f_X6_decide_L82 fu fu (nI a) 0 (ag_up (ag_up s' 6 0 0 0) 48 0 (nI a) 2))) else (f_X6_decide_b111 fu (nI a) (bcv (A 3 8 a)) (bcv (A 3 9 a)) (ag_up s' 6 0 0 0)) := fun s' hr' => by
          have u := hr'.u6 (v := 0)
          simp only [f_X6_decide, isAmendment_ok hr' ha (by omega), bd_some, i10, if_false, (isFree_R hr' hI.wf ha hf).1 ⟨h0, ho⟩, f_X6_decide_b28, gw0, votesOf_R u (show a < 40 by omega) (show 10 < fu by omega), vo, vt, a40, u.r48 a (by omega)]
        by_cases hw : wonA A a
        · -- it passes
          have hlt : bcv (A 3 9 a) < bcv (A 3 8 a) := by
            unfold wonA at hw
            by_cases c : A 3 6 a = 1
            · rw [if_pos c, Int32.lt_iff_toInt_lt, show (5 : Int32).toInt = 5 from by decide] at hw
              rw [Int32.lt_iff_toInt_lt]
              omega
            · rw [if_neg c] at hw
              exact hw
          have h5 : A 3 6 a = 1 → (5 : Int32) ≤ bcv (A 3 8 a) := fun c => by
            unfold wonA at hw
            rw [if_pos c] at hw
            exact i32_lt.mp hw
          obtain ⟨s1, E, e2, hE, fE, iE, E5, rE⟩ := passed_C (fu := fu) h hI ha hl el h0 hw ho hf
          refine op_ok (A' := E) (s1 := s1) (w := 1) (nl' := nl) (na' := na) (ng' := ng) hr ?_ hE fE (iE.mono ht) fun s' hr' => ?_
          · simp only [f_L_decide, f_X5_decide, f_X5_needOpen, f_X5_isOneOpenOn, amendmentAt_ok h ha, bt_inl, h.q3 ha 5 (by decide), h0, if_true, e1, bd_some, hwn, hw, i10, if_false, e2, hE.q3 ha 5 (by decide), E5, bc_inl, z00]
          · have u := hr'.u6 (v := 0)
            have eb : f_X6_decide fu (nI a) s' = f_X6_decide_b111 fu (nI a) (bcv (A 3 8 a)) (bcv (A 3 9 a)) (ag_up s' 6 0 0 0) := by
              rw [start s' hr']
              by_cases c : A 3 6 a = 1
              · rw [if_pos c, if_pos (h5 c)]
              · rw [if_neg c]
            obtain ⟨ra, rb⟩ := rE _ u
            have u2 := u.w47 (i := a) (v := 1) (by omega)
            have e44 : ag_up (ag_up s' 6 0 0 0) 47 0 (nI a) 1 44 0 (nI a) = A 3 1 a := by rw [u2.r44 a (by omega), tuf (by decide)]
            have e45 : ag_up (ag_up s' 6 0 0 0) 47 0 (nI a) 1 45 0 (nI a) = nI l := by rw [u2.r45 a (by omega), tuf (by decide), el]
            show ∃ s2, f_X6_decide fu (nI a) s' = some (1, s2) ∧ _
            rw [eb]
            unfold f_X6_decide_b111
            rw [if_neg (i32_le.mpr hlt), if_neg (nI_in (show a < 40 by omega) (p31 (show 40 ≤ 1000 by decide))), if_neg (nI_in (show a < 40 by omega) (p31 (show 40 ≤ 1000 by decide))), e44]
            by_cases c : A 3 1 a = -1
            · obtain ⟨cc, s2, e3, r3, f3, z3⟩ := ra c
              rw [if_pos c, if_neg (nI_in (show a < 40 by omega) (p31 (show 40 ≤ 1000 by decide))), e45, e3, bd_some, if_neg (nI_in (show a < 40 by omega) (p31 (show 40 ≤ 1000 by decide)))]
              refine ⟨s2, ?_, z3.trans ag_up_eq, r3, ((frR.refl s').up (k := 6) (by decide)).trans f3⟩
              show some (s2 47 0 (nI a), s2) = some (1, s2)
              rw [r3.r47 a (by omega), E5]
            · rw [if_neg c, if_neg (nI_in (show a < 40 by omega) (p31 (show 40 ≤ 1000 by decide))), ag_up_eq]
              exact ⟨_, rfl, (upk (k := 47) (k' := 6) (by decide)).trans ag_up_eq, rb c, ((frR.refl s').up (k := 6) (by decide)).up (k := 47) (by decide)⟩
        · by_cases hr2 : A 3 6 a = 1 ∧ bcv (A 3 9 a) < 5
          · -- a second round begins
            have hC : ClS (rdA A a) nl na ng n (ag_up (ag_up (ag_up s 3 6 (nI a) 2) 3 8 (nI a) 0) 3 9 (nI a) 0) := ((((h.w (by decide) (by omega)).vz 9).w (by decide) (by omega)).w (by decide) (by omega))
            have r5 : rdA A a 3 5 a = 0 := by
              unfold rdA
              rw [tuf (by decide), tuf (by decide), vzA_v, if_neg (by omega), tuf (by decide), h0]
            have hlost := isLost_C (fu := fu) h ha hw
            rw [if_pos hr2] at hlost
            refine op_ok (A' := rdA A a) (s1 := ag_up (ag_up (ag_up s 3 6 (nI a) 2) 3 8 (nI a) 0) 3 9 (nI a) 0) (w := 0) (nl' := nl) (na' := na) (ng' := ng) hr ?_ hC ((((frC.refl s).up (by decide)).up (by decide)).up (by decide)) ((rdA_In hI ha h0).mono ht) fun s' hr' => ?_
            · simp only [f_L_decide, f_X5_decide, f_X5_needOpen, f_X5_isOneOpenOn, f_X0_beginRoundTwo, amendmentAt_ok h ha, bt_inl, h.q3 ha 5 (by decide), h0, if_true, e1, bd_some, hwn, hw, hlost, if_false, upf (show ¬ 5 = 9 by decide), upf (show ¬ 5 = 8 by decide), upf (show ¬ 5 = 6 by decide), bc_inl, z00]
            · obtain ⟨s2, e2, r2, f2, z2⟩ := round_R (fu := fu) (hr'.u6 (v := 0)) (show a < 40 by omega) h0 hf
              have h5 : ¬ (5 : Int32) ≤ bcv (A 3 8 a) := fun c => hw (by
                unfold wonA
                rw [if_pos hr2.1]
                exact i32_lt.mpr c)
              refine ⟨s2, ?_, z2.trans ag_up_eq, r2, ((frR.refl s').up (k := 6) (by decide)).trans f2⟩
              show f_X6_decide fu (nI a) s' = _
              rw [start s' hr', if_pos hr2.1, if_neg h5, if_neg (i32_le.mpr hr2.2), e2]
          · -- it falls
            have hle : bcv (A 3 8 a) ≤ bcv (A 3 9 a) := by
              by_cases c : A 3 6 a = 1
              · have g1 : ¬ bcv (A 3 9 a) < 5 := fun q => hr2 ⟨c, q⟩
                have g2 : bcv (A 3 8 a) < 5 := Classical.byContradiction fun q => hw (by
                  unfold wonA
                  rw [if_pos c]
                  exact q)
                rw [Int32.lt_iff_toInt_lt, show (5 : Int32).toInt = 5 from by decide] at g1 g2
                rw [Int32.le_iff_toInt_le]
                omega
              · refine i32_lt.mp fun q => hw ?_
                unfold wonA
                rw [if_neg c]
                exact q
            have hlost := isLost_C (fu := fu) h ha hw
            rw [if_neg hr2] at hlost
            obtain ⟨s1, D, e2, h1, f1, X, N, hD, D5⟩ := makeFallen_C (fu := fu) (v := A 3 7 a) (by rw [tU_self]; exact h) hI ha hl el (.inr hw) hf
            have E5 : covA (lookS na ng l ng D 0).1 na ng l 3 5 a = 2 := by rw [cov_3, look_3, D5]
            refine op_ok (A' := covA (lookS na ng l ng D 0).1 na ng l) (s1 := s1) (w := 2) (nl' := nl) (na' := na) (ng' := ng) hr ?_ h1 f1 (((InX.look ng D 0 (Nat.le_refl _) X).cov hl).mono ht) fun s' hr' => ?_
            · simp only [f_L_decide, f_X5_decide, f_X5_needOpen, f_X5_isOneOpenOn, amendmentAt_ok h ha, bt_inl, h.q3 ha 5 (by decide), h0, if_true, e1, bd_some, hwn, hw, hlost, i10, if_false, e2, h1.q3 ha 5 (by decide), E5, bc_inl, z00]
            · obtain ⟨s2, e3, r2, f2, z2⟩ := fall_T (fu := fu) (hr'.u6 (v := 0)) hI ha hl el X N hD hf
              have eb : f_X6_decide fu (nI a) s' = f_X6_decide_b111 fu (nI a) (bcv (A 3 8 a)) (bcv (A 3 9 a)) (ag_up s' 6 0 0 0) := by
                rw [start s' hr']
                by_cases c : A 3 6 a = 1
                · rw [if_pos c]
                  by_cases c1 : (5 : Int32) ≤ bcv (A 3 8 a)
                  · rw [if_pos c1]
                  · rw [if_neg c1, if_pos (i32_lt.mp fun q => hr2 ⟨c, q⟩)]
                · rw [if_neg c]
              refine ⟨s2, ?_, z2.trans ag_up_eq, r2, ((frR.refl s').up (k := 6) (by decide)).trans f2⟩
              show f_X6_decide fu (nI a) s' = _
              rw [eb]
              unfold f_X6_decide_b111
              rw [if_pos hle, e3, bd_some, if_neg (nI_in (show a < 40 by omega) (p31 (show 40 ≤ 1000 by decide)))]
              show some (s2 47 0 (nI a), s2) = some (2, s2)
              rw [r2.r47 a (by omega), E5]
    · refine op_no (c := 2) h hr (hI.mono ht) (by decide) ?_ (no2 fun q => h0 q.1)
      simp only [f_L_decide, f_X5_decide, f_X5_needOpen, amendmentAt_ok h ha, bt_inl, h.q3 ha 5 (by decide), h0, if_false, bt_inr, id, bc_inr, i31, if_true]
  · refine op_no (c := 1) h hr (hI.mono ht) (by decide) ?_ (rf_no fun s' hr' => ?_)
    · simp only [f_L_decide, f_X5_decide, amendmentAt_no h nx, bt_inr, bc_inr, id, if_true]
    · simp only [f_X6_decide, isAmendment_no hr' nr, bd_some, if_true, f_X6_decide_b28, gwn (show ¬ (1 : Int32) = 0 by decide)]
