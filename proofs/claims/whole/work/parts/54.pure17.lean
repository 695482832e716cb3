/-! ===== amend, amendOn ===== -/
theorem make_R {A : TT} {nl na ng fu : Nat} {c l m : Int32} {s : ag_S} (h : RfS A nl na ng s) (hz : A 3 5 na = 0) (hna : na < 40) : ∃ s2, f_X6_make fu c l m s = some (nI na, s2) ∧ RfS (amA A na c l m) nl (na + 1) ng s2 ∧ frR s s2 ∧ s2 6 0 0 = s 6 0 0 := by
  have n40 := inn (show na < 40 by omega) (by omega)
  simp only [f_X6_make, h.z13, n40, if_false, upk (show ¬ 6 = 44 by decide), upk (show ¬ 6 = 45 by decide), upk (show ¬ 6 = 46 by decide), upk (show ¬ 6 = 48 by decide), ag_up_eq, nI_1, nI_pred]
  refine ⟨_, rfl, ?_, (((((frR.refl _).up (by decide)).up (by decide)).up (by decide)).up (by decide)).up (by decide), ?_⟩
  · have u := ((((h.w44 (i := na) (v := c) (by omega)).w45 (i := na) (v := l) (by omega)).w46 (i := na) (v := m) (by omega)).w48 (i := na) (v := 1) (by omega)).w6_13 (m := na + 1)
    refine u.congr fun k f i q => ?_
    by_cases e : k = 3 ∧ i = na
    · obtain ⟨rfl, rfl⟩ := e
      have : f = 1 ∨ f = 2 ∨ f = 3 ∨ f = 5 ∨ f = 6 := by omega
      rcases this with rfl | rfl | rfl | rfl | rfl
      · rw [amA_1]; simp [tU]
      · rw [amA_2]; simp [tU]
      · rw [amA_3]; simp [tU]
      · rw [amA_5]; simp [tU, hz]
      · rw [amA_6]; simp [tU]
    · rw [amA_ne e, tU_ne (fun q => e ⟨q.1, q.2.2⟩), tU_ne (fun q => e ⟨q.1, q.2.2⟩), tU_ne (fun q => e ⟨q.1, q.2.2⟩), tU_ne (fun q => e ⟨q.1, q.2.2⟩)]
  · rw [upf (by decide), upk (by decide), upk (by decide), upk (by decide), upk (by decide)]
theorem amA_In {A : TT} {nl na ng t l : Nat} {c m : Int32} (hI : In A nl na ng t) (ht : t + 1 ≤ 520) (hna : na < 40) (hl : l < nl) (hc : c = -1 ∨ ∃ p, p < na ∧ c = nI p ∧ A 3 2 p = nI l ∧ A 3 5 p = 0) (hm : -50000 ≤ m.toInt ∧ m.toInt ≤ 50000) : In (amA A na c (nI l) m) nl (na + 1) ng (t + 1) := by
  obtain ⟨w1, w2, w3, w4, w5, w6, w7⟩ := hI
  have hnl := w1.hnl
  have k0 : ∀ {k f i}, ¬ k = 3 → amA A na c (nI l) m k f i = A k f i := fun q => amA_k q
  have ki : ∀ {k f i}, i < na → amA A na c (nI l) m k f i = A k f i := fun q => amA_i q
  have kidE : ∀ a, isum (kidA (amA A na c (nI l) m) a) (na + 1) = isum (kidA (amA A na c (nI l) m) a) na := fun a => by
    rw [isum, show kidA (amA A na c (nI l) m) a na = 0 from if_neg (fun e => by rw [amA_5] at e; exact absurd e.2 (by decide)), Int32.add_zero]
  have rootE : ∀ l', isum (rootA (amA A na c (nI l) m) l') (na + 1) = isum (rootA A l') na := fun l' => by
    rw [isum, show rootA (amA A na c (nI l) m) l' na = 0 from if_neg (fun e => by rw [amA_5] at e; exact absurd e.2.2 (by decide)), Int32.add_zero]
    refine isum_congr fun a ha => ?_
    unfold rootA
    rw [ki ha, ki ha, ki ha, ki ha]
  have baseE : ∀ l', baseA (amA A na c (nI l) m) l' = baseA A l' := fun l' => base_congr (k0 (by decide)) (k0 (by decide)) (k0 (by decide))
  refine ⟨⟨w1.hnl, by omega, w1.hng, fun i hi => ?_, fun i hi => ?_, fun i hi => ?_, fun i hi => ?_, fun i hi => ?_, fun i hi => ?_, fun i hi => ?_, fun i j hi hj => ?_, fun i hi => ?_, fun i hi => ?_, fun i hi => ?_⟩, ⟨fun a ha => ?_, fun l' hl' => ?_⟩, ⟨fun j a b => ?_, fun j a b => ?_, fun j a b => ?_, fun j a b => ?_⟩, fun a ha => ?_, ⟨fun a ha => ?_, fun a ha => ?_, fun a ha => ?_, fun a p ha => ?_, fun a p ha => ?_, fun g hg => ?_⟩, ?_, fun l' hl' => ?_⟩
  · rw [k0 (by decide)]; exact w1.num0 i hi
  · rw [k0 (by decide)]; exact w1.num1 i hi
  · rw [k0 (by decide)]; exact w1.num2 i hi
  · by_cases e : i = na
    · subst e; exact amA_0
    · rw [ki (by omega)]; exact w1.num3 i (by omega)
  · rw [k0 (by decide)]; exact w1.src i hi
  · by_cases e : i = na
    · subst e
      rw [amA_1]
      rcases hc with hc | ⟨p, hp, hc, -⟩
      · exact .inl hc
      · exact .inr ⟨p, hp, hc⟩
    · rw [ki (by omega)]; exact w1.tree i (by omega)
  · by_cases e : i = na
    · subst e
      rw [amA_2]
      exact ⟨l, hl, rfl⟩
    · rw [ki (by omega)]; exact w1.lin i (by omega)
  · by_cases e : i = na
    · subst e
      rw [amA_1, amA_2, ki hj]
      intro q
      rcases hc with hc | ⟨p, hp, hc, h2, -⟩
      · exact absurd (q.symm.trans hc) (nI_neg1 (by omega)).1
      · have := (nI_eq (p31 (by omega)) (p31 (by omega))).mp (q.symm.trans hc)
        subst this
        exact h2.symm
    · rw [ki (by omega), ki (by omega), ki (by omega)]; exact w1.lon i j (by omega) hj
  · rw [k0 (by decide)]; exact w1.gl i hi
  · rw [k0 (by decide)]; exact w1.rc i hi
  · rw [k0 (by decide)]
    rcases w1.hang i hi with e | ⟨a, ha, e⟩
    · exact .inl e
    · exact .inr ⟨a, by omega, e⟩
  · rw [kidE]
    by_cases e : a = na
    · subst e
      rw [amA_4, amA_3, isum_zero (fun k hk => ?_), Int32.add_zero]
      refine if_neg fun e => ?_
      rw [ki hk] at e
      rcases w1.tree k hk with q | ⟨p, hp, q⟩
      · exact (nI_neg1 (w := a) (by omega)).1 (e.1.symm.trans q)
      · have := (nI_eq (p31 (by omega)) (p31 (by omega))).mp (e.1.symm.trans q)
        omega
    · have ha' : a < na := by omega
      rw [ki ha', ki ha', w2.sol a ha']
      refine congrArg _ (isum_congr fun k hk => ?_)
      unfold kidA
      rw [ki hk, ki hk, ki hk]
  · rw [rootE, k0 (by decide)]; exact w2.bro l' hl'
  · rw [k0 (by decide), k0 (by decide), k0 (by decide)]; exact w3.zl j a b
  · rw [amA_ne (by omega)]; exact w3.za j (by omega) b
  · rw [k0 (by decide)]; exact w3.zv j (by omega) b
  · rw [k0 (by decide), k0 (by decide), k0 (by decide)]; exact w3.zg j a b
  · by_cases e : a = na
    · subst e
      refine ⟨0, 0, by decide, by decide, amA_8, amA_9, fun j hj => ?_⟩
      rw [k0 (by decide), w3.zv (9 * a + j) (by omega) (by omega), Nat.zero_shiftRight]
      decide
    · have ha' : a < na := by omega
      obtain ⟨M1, M2, h1, h2, h3, h4, h5⟩ := w4 a ha'
      refine ⟨M1, M2, h1, h2, by rw [ki ha', h3], by rw [ki ha', h4], fun j hj => ?_⟩
      rw [k0 (by decide)]
      exact h5 j hj
  · by_cases e : a = na
    · subst e; rw [amA_5, amA_7]; exact .inl ⟨rfl, rfl⟩
    · rw [ki (by omega), ki (by omega)]; exact w5.st a (by omega)
  · by_cases e : a = na
    · subst e; rw [amA_5]; exact fun q => absurd q (by decide)
    · have ha' : a < na := by omega
      rw [ki ha', ki ha', wonA_congr (ki ha') (ki ha') (ki ha')]; exact w5.d1 a ha'
  · by_cases e : a = na
    · subst e; rw [amA_5]; exact fun q => absurd q (by decide)
    · have ha' : a < na := by omega
      rw [ki ha', ki ha', ki ha', wonA_congr (ki ha') (ki ha') (ki ha')]
      intro q
      rcases w5.d2 a ha' q with r | r | ⟨p, hp, r1, r2⟩
      · exact .inl r
      · exact .inr (.inl r)
      · exact .inr (.inr ⟨p, hp, r1, by rw [ki (by omega)]; exact r2⟩)
  · intro hp
    by_cases e : a = na
    · subst e
      rw [amA_1, ki hp]
      intro q r
      rcases hc with hc | ⟨p', hp', hc, -, h2⟩
      · exact absurd (q.symm.trans hc) (nI_neg1 (by omega)).1
      · have := (nI_eq (p31 (by omega)) (p31 (by omega))).mp (q.symm.trans hc)
        subst this
        rw [h2] at r
        exact absurd r (by decide)
    · rw [ki (by omega), ki (by omega), ki (by omega)]; exact w5.d3 a p (by omega) hp
  · intro hp
    by_cases e : a = na
    · subst e
      rw [amA_1, ki hp]
      intro q r
      rcases hc with hc | ⟨p', hp', hc, -, h2⟩
      · exact absurd (q.symm.trans hc) (nI_neg1 (by omega)).1
      · have := (nI_eq (p31 (by omega)) (p31 (by omega))).mp (q.symm.trans hc)
        subst this
        exact h2
    · rw [ki (by omega), ki (by omega), ki (by omega)]; exact w5.d4 a p (by omega) hp
  · rw [k0 (by decide), k0 (by decide)]
    intro q
    rcases w5.live g hg q with r | ⟨a, ha, r1, r2⟩
    · exact .inl r
    · exact .inr ⟨a, by omega, r1, by rw [ki ha]; exact r2⟩
  · obtain ⟨m1, m2, m3, m4, m5, m6, m7, m8⟩ := w6.mono ht
    refine ⟨m1, fun j hj => ?_, fun j hj => ?_, fun j hj => ?_, fun a ha => ?_, fun l hl => ?_, ?_, ?_⟩
    · rw [k0 (by decide), k0 (by decide)]; exact m2 j hj
    · rw [k0 (by decide)]; exact m3 j hj
    · rw [k0 (by decide), k0 (by decide)]; exact m4 j hj
    · by_cases e : a = na
      · subst e; rw [amA_3]; exact hm
      · rw [ki (by omega)]; exact m5 a (by omega)
    · rw [baseE]; exact m6 l hl
    · simp only [baseE]
      rw [k0 (by decide)]; exact m7
    · rw [k0 (by decide)]; exact m8
  · have := w7 l' hl'
    unfold freeA standA boundA at this ⊢
    rw [baseE, rootE, k0 (by decide), show bindA (amA A na c (nI l) m) l' = bindA A l' from by
      funext g
      unfold bindA
      rw [k0 (by decide), k0 (by decide), k0 (by decide), k0 (by decide)]]
    exact this
theorem more_C {fu : Nat} {y : Int32} {s : ag_S} : f_X5_needMore fu y s = if rng y (-50000) 50000 ∧ ¬ y = 0 then some (.inl 0, s) else some (.inr 2, s) := by
  unfold f_X5_needMore
  by_cases c : rng y (-50000) 50000
  · rw [nr_ok c, bt_inl]
    by_cases d : y = 0
    · rw [if_pos d, if_neg (fun q => q.2 d)]
    · rw [if_neg d, if_pos ⟨c, d⟩]
  · rw [nr_no c, bt_inr, if_neg (fun q => c q.1)]
    rfl
theorem more_R {fu : Nat} {y : Int32} {s : ag_S} : f_X6_isMore fu y s = some (if rng y (-50000) 50000 ∧ ¬ y = 0 then 1 else 0) := by
  unfold f_X6_isMore
  by_cases d : y = 0
  · rw [if_pos d, if_neg (fun q => q.2 d)]
  · rw [if_neg d]
    by_cases c : rng y (-50000) 50000
    · rw [in_ok c, bd_some, if_neg (by decide), if_pos ⟨c, d⟩]
    · rw [in_no c, bd_some, if_pos rfl, if_neg (fun q => c q.1)]
theorem n1000 {A : TT} {nl na ng : Nat} {n : ag_N} {s : ag_S} (h : ClS A nl na ng n s) : (1000 ≤ n 2) = False ∧ (1000 ≤ n 3) = False ∧ (1000 ≤ n 4) = False := by
  have b2 := h.l2.le
  have b3 := h.l3.le
  have b4 := h.l4.le
  rw [h.n2, h.n3, h.n4]
  exact ⟨eq_false (by omega), eq_false (by omega), eq_false (by omega)⟩
theorem nI40 {N : Nat} (h : N ≤ 40) : ((nI N = 40) ↔ N = 40) ∧ ((nI N < 40) ↔ N < 40) := by
  refine ⟨nI_eq (b := 40) (p31 (by omega)) (p31 (by omega)), nI_ltI (b := 40) (p31 (by omega)) (p31 (by omega))⟩
theorem op_amend {A : TT} {nl na ng t fu : Nat} {n : ag_N} {s : ag_S} {x y : Int32} (h : ClS A nl na ng n s) (hr : RfS A nl na ng s) (hI : In A nl na ng t) (ht : t + 1 ≤ 520) : Op2 (t + 1) (f_L_amend fu x y n s) (fun s => f_X6_amend fu x y s) := by
  have hna := hI.wf.hna
  have hnl := hI.wf.hnl
  have e40 := nI40 hna
  rcases idx x nl (by omega) with ⟨l, hl, rfl⟩ | ⟨nr, nx⟩
  · by_cases hy : rng y (-50000) 50000 ∧ ¬ y = 0
    · by_cases hN : na < 40
      · obtain ⟨s0, e0, n1, s1, e1, hC, fc⟩ := am_add (fu := fu) (c := -1) (l := nI l) (m := y) h hN
        refine op_ok2 (A' := amA A na (-1) (nI l) y) (s1 := s1) (w := nI na) hr ?_ hC fc (amA_In hI ht hN hl (.inl rfl) (bmore hy.1)) fun s' hr' => ?_
        · simp only [f_L_amend, f_X5_amend, f_X5_needRoomForAmendment, f_X5_addAmendment, lineAt_ok h hl, bt_inl, more_C, if_pos hy, if_true, h.l3.size3, bd_some, e40.2, hN, eq_false (show ¬ 1000 ≤ na by omega), if_false, h.n3, e0, e1, bc_inl, z00]
        · obtain ⟨s2, e2, r2, f2, z2⟩ := make_R (fu := fu) (c := -1) (l := nI l) (m := y) (hr'.u6 (v := 0)) (hI.zs.za na (Nat.le_refl _) hN) hN
          have : (na = 40) = False := eq_false (by omega)
          simp only [f_X6_amend, isLine_ok hr' hl (by omega), bd_some, i10, if_false, more_R, if_pos hy, if_true, hr'.z13, e40.1, this, gw0, e2]
          exact ⟨_, rfl, z2.trans ag_up_eq, r2, ((frR.refl _).up (by decide)).trans f2⟩
      · refine op_no2 (c := 3) h hr (hI.mono ht) (by decide) ?_ (rf_no fun s' hr' => ?_)
        · simp only [f_L_amend, f_X5_amend, f_X5_needRoomForAmendment, lineAt_ok h hl, bt_inl, more_C, if_pos hy, if_true, h.l3.size3, bd_some, e40.2, hN, if_false, bt_inr, bc_inr, i31, i32]
        · have : (na = 40) = True := eq_true (by omega)
          simp only [f_X6_amend, isLine_ok hr' hl (by omega), bd_some, i10, if_false, more_R, if_pos hy, if_true, hr'.z13, e40.1, this, gwn (show ¬ (3 : Int32) = 0 by decide)]
    · refine op_no2 (c := 2) h hr (hI.mono ht) (by decide) ?_ (rf_no fun s' hr' => ?_)
      · simp only [f_L_amend, f_X5_amend, lineAt_ok h hl, bt_inl, more_C, if_neg hy, if_false, bt_inr, bc_inr, i21, if_true]
      · simp only [f_X6_amend, isLine_ok hr' hl (by omega), bd_some, i10, if_false, more_R, if_neg hy, if_true, gwn (show ¬ (2 : Int32) = 0 by decide)]
  · refine op_no2 (c := 1) h hr (hI.mono ht) (by decide) ?_ (rf_no fun s' hr' => ?_)
    · simp only [f_L_amend, f_X5_amend, lineAt_no h nx, bt_inr, bc_inr, if_true]
    · simp only [f_X6_amend, isLine_no hr' nr, bd_some, if_true, gwn (show ¬ (1 : Int32) = 0 by decide)]
theorem op_amendOn {A : TT} {nl na ng t fu : Nat} {n : ag_N} {s : ag_S} {x y : Int32} (h : ClS A nl na ng n s) (hr : RfS A nl na ng s) (hI : In A nl na ng t) (ht : t + 1 ≤ 520) : Op2 (t + 1) (f_L_amendOn fu x y n s) (fun s => f_X6_amendOn fu x y s) := by
  have hna := hI.wf.hna
  have hnl := hI.wf.hnl
  have e40 := nI40 hna
  rcases idx x na (by omega) with ⟨a, ha, rfl⟩ | ⟨nr, nx⟩
  · obtain ⟨l, hl, el⟩ := hI.wf.lin a ha
    have a40 := inn (show a < 40 by omega) (by omega)
    by_cases hy : rng y (-50000) 50000 ∧ ¬ y = 0
    · by_cases h0 : A 3 5 a = 0
      · by_cases hN : na < 40
        · obtain ⟨s0, e0, n1, s1, e1, hC, fc⟩ := am_add (fu := fu) (c := nI a) (l := nI l) (m := y) h hN
          refine op_ok2 (A' := amA A na (nI a) (nI l) y) (s1 := s1) (w := nI na) hr ?_ hC fc (amA_In hI ht hN hl (.inr ⟨a, ha, rfl, el, h0⟩) (bmore hy.1)) fun s' hr' => ?_
          · simp only [f_L_amendOn, f_X5_amendOn, f_X5_needOpen, f_X5_needRoomForAmendment, f_X5_addAmendment, amendmentAt_ok h ha, bt_inl, more_C, if_pos hy, if_true, h.q3 ha 5 (by decide), h0, h.l3.size3, bd_some, e40.2, hN, h.q3 ha 2 (by decide), el, neN (show l ≤ 1000 by omega), eq_false (show ¬ 1000 ≤ na by omega), if_false, h.n3, e0, e1, bc_inl, z00]
          · have u := hr'.u6 (v := 0)
            obtain ⟨s2, e2, r2, f2, z2⟩ := make_R (fu := fu) (c := nI a) (l := nI l) (m := y) u (hI.zs.za na (Nat.le_refl _) hN) hN
            have : (na = 40) = False := eq_false (by omega)
            simp only [f_X6_amendOn, isAmendment_ok hr' ha (by omega), bd_some, i10, if_false, more_R, if_pos hy, if_true, a40, hr'.r47 a (by omega), h0, hr'.z13, e40.1, this, gw0, u.r45 a (by omega), el, e2]
            exact ⟨_, rfl, z2.trans ag_up_eq, r2, ((frR.refl _).up (by decide)).trans f2⟩
        · refine op_no2 (c := 3) h hr (hI.mono ht) (by decide) ?_ (rf_no fun s' hr' => ?_)
          · simp only [f_L_amendOn, f_X5_amendOn, f_X5_needOpen, f_X5_needRoomForAmendment, amendmentAt_ok h ha, bt_inl, more_C, if_pos hy, if_true, h.q3 ha 5 (by decide), h0, h.l3.size3, bd_some, e40.2, hN, if_false, bt_inr, bc_inr, i31, i32]
          · have : (na = 40) = True := eq_true (by omega)
            simp only [f_X6_amendOn, f_X6_amendOn_b44, isAmendment_ok hr' ha (by omega), bd_some, i10, if_false, more_R, if_pos hy, if_true, a40, hr'.r47 a (by omega), h0, hr'.z13, e40.1, this, gwn (show ¬ (3 : Int32) = 0 by decide)]
      · refine op_no2 (c := 3) h hr (hI.mono ht) (by decide) ?_ (rf_no fun s' hr' => ?_)
        · simp only [f_L_amendOn, f_X5_amendOn, f_X5_needOpen, amendmentAt_ok h ha, bt_inl, more_C, if_pos hy, if_true, h.q3 ha 5 (by decide), h0, if_false, bt_inr, bc_inr, i31, i32]
        · simp only [f_X6_amendOn, f_X6_amendOn_b44, isAmendment_ok hr' ha (by omega), bd_some, i10, if_false, more_R, if_pos hy, if_true, a40, hr'.r47 a (by omega), h0, gwn (show ¬ (3 : Int32) = 0 by decide)]
    · refine op_no2 (c := 2) h hr (hI.mono ht) (by decide) ?_ (rf_no fun s' hr' => ?_)
      · simp only [f_L_amendOn, f_X5_amendOn, amendmentAt_ok h ha, bt_inl, more_C, if_neg hy, if_false, bt_inr, bc_inr, i21, if_true]
      · simp only [f_X6_amendOn, isAmendment_ok hr' ha (by omega), bd_some, i10, if_false, more_R, if_neg hy, if_true, gwn (show ¬ (2 : Int32) = 0 by decide)]
  · refine op_no2 (c := 1) h hr (hI.mono ht) (by decide) ?_ (rf_no fun s' hr' => ?_)
    · simp only [f_L_amendOn, f_X5_amendOn, amendmentAt_no h nx, bt_inr, bc_inr, if_true]
    · simp only [f_X6_amendOn, isAmendment_no hr' nr, bd_some, if_true, gwn (show ¬ (1 : Int32) = 0 by decide)]
