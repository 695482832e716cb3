/-! ===== after a fall ===== -/
theorem hgK_end {A : TT} {nl na ng a : Nat} (hw : Wf A nl na ng) : ∀ g, g < ng → hgK A a na g = hgS A a g := fun g hg => by
  have hna := hw.hna
  unfold hgK hgS
  rcases hw.hang g hg with e | ⟨k, hk, e⟩
  · rw [e, decide_eq_false (p := ¬ (-1 : Int32) = -1) (fun q => q rfl)]
    simp
  · rw [e, nI_clamp (p31 (by omega)), decide_eq_true hk, Bool.true_and]
theorem fall_R {A : TT} {nl na ng fu a : Nat} {s : ag_S} (h : RfS A nl na ng s) (hw : Wf A nl na ng) (hl : lvA A na ng) (ha : a < na) (hf : 60 < fu) : ∃ s1, RfS (wdS (hgS A a) ng (flE A a na)) nl na ng s1 ∧ frR s s1 ∧ s1 6 0 0 = s 6 0 0 ∧ (¬ hadA A a na → f_X6_fall fu (nI a) s = some (cntS (hgS A a) ng, s1)) ∧ (hadA A a na → f_X6_fall fu (nI a) s = ag_bd (f_X6_look fu (A 3 2 a) s1) fun r => some (cntS (hgS A a) ng + r.1, r.2)) := by
  have hna := hw.hna
  have hng := hw.hng
  unfold f_X6_fall
  obtain ⟨v, e1, -, i1, i2, i3, i4, i5, -⟩ := up_loop (F := fun nf i (v : Int32 × Int32 × ag_S) => f_X6_fall_L7 fu nf (nI a) v.1 v.2.1 i v.2.2) (N := na) (I := fun q v => a ≤ q ∧ flI A a nl na ng s q v) (E := fun v => if v.1 = 0 then some (v.2.1, v.2.2) else ag_bd (f_X6_look fu (A 3 2 a) v.2.2) fun r => some (v.2.1 + r.1, r.2)) (fun nf q v hq hv => by
    obtain ⟨v', e, i⟩ := fall_step (nf := nf) hw hl ha hf hv.1 hq hv.2
    exact ⟨v', e, by omega, i⟩) (fun nf v hv => by
    obtain ⟨-, i1, -⟩ := hv
    show f_X6_fall_L7 fu (nf + 1) (nI a) v.1 v.2.1 (nI na) v.2.2 = _
    rw [f_X6_fall_L7, i1.z13, if_pos (nI_le (Nat.le_refl _) (p31 (by omega))), if_neg (nI_in (show a < 40 by omega) (p31 (show 40 ≤ 1000 by decide))), i1.r45 a (by omega), wdS_off (by decide) (by decide), flR_off (by decide)]) (na - a) a ((0 : Int32), (0 : Int32), s) fu (by omega) (by omega) (by
    have hno : ∀ g, g < ng → hgK A a a g = false := fun g hg => by
      unfold hgK hgS
      rcases hw.hang g hg with e | ⟨k, hk, e⟩
      · rw [e, decide_eq_false (p := ¬ (-1 : Int32) = -1) (fun q => q rfl)]
        simp
      · rw [e, nI_clamp (p31 (by omega))]
        by_cases c : k < a
        · have : flK A a k = false := by
            rw [← Bool.not_eq_true]
            exact fun q => by have := (flK_ge hw k hk q).1; omega
          rw [this]
          simp
        · rw [decide_eq_false c, Bool.false_and]
    obtain ⟨z1, z2⟩ := wdS_none (B := flR A a na a) hno
    have e0 : flR A a na a = A := by
      funext k f j
      unfold flR
      rw [if_neg]
      rintro ⟨-, -, h3, h4, h5⟩
      have := (flK_ge hw j h3 h4).1
      omega
    refine ⟨Nat.le_refl _, ?_, frR.refl s, rfl, ?_, z2.symm, fun j h1 h2 => by omega⟩
    · show RfS (wdS (hgK A a a) ng (flR A a na a)) nl na ng s
      rw [z1, e0]
      exact h
    · show (0 : Int32) = 0 ↔ _
      refine ⟨fun _ => ?_, fun _ => rfl⟩
      rintro ⟨k, h1, h2, -⟩
      have := (flK_ge hw k (by omega) h2).1
      omega)
  have ex := hgK_end (a := a) hw
  rw [wdS_ext ex, flR_end] at i1
  rw [cntS_ext ex] at i5
  refine ⟨v.2.2, i1, i2, i3, fun q => ?_, fun q => ?_⟩
  · have : v.1 = 0 := i4.mpr q
    rw [if_pos this, i5] at e1
    exact e1
  · have : ¬ v.1 = 0 := fun e => i4.mp e q
    rw [if_neg this, i5] at e1
    exact e1
theorem ch_same {A D : TT} {nl na ng : Nat} (hA : Wf A nl na ng) (hD : Wf D nl na ng) (P : Nat → Prop) (hP : ∀ k p, k < na → p < k → A 3 1 k = nI p → P k → P p) (h1 : ∀ k, D 3 1 k = A 3 1 k) (hst : ∀ k, k < na → P k → ((D 3 5 k = 1 ↔ A 3 5 k = 1) ∨ (¬ chA D k = true ∧ ¬ chA A k = true))) : ∀ k, k < na → P k → (chA D k = true ↔ chA A k = true) := by
  intro k
  induction k using Nat.strongRecOn with
  | ind k ih =>
    intro hk pk
    rcases hst k hk pk with e | ⟨e1, e2⟩
    · rw [chA_eq hD hk, chA_eq hA hk, h1]
      refine and_congr e (or_congr Iff.rfl ?_)
      constructor
      · rintro ⟨p, hp, q, r⟩
        exact ⟨p, hp, q, (ih p hp (by omega) (hP k p hk hp q pk)).mp r⟩
      · rintro ⟨p, hp, q, r⟩
        exact ⟨p, hp, q, (ih p hp (by omega) (hP k p hk hp q pk)).mpr r⟩
    · exact ⟨fun q => absurd q e1, fun q => absurd q e2⟩
theorem root_same {A D : TT} {nl na ng l : Nat} (hA : Wf A nl na ng) (hD : Wf D nl na ng) (bA : Br A nl na) (bD : Br D nl na) (h2 : ∀ k, D 3 2 k = A 3 2 k) (h3 : ∀ k, D 3 3 k = A 3 3 k) (h : ∀ k, k < na → A 3 2 k = nI l → (chA D k = true ↔ chA A k = true)) : isum (rootA D l) na = isum (rootA A l) na := by
  rw [root_cnt hA bA, root_cnt hD bD]
  refine isum_congr fun k hk => ?_
  unfold cntA
  rw [h2, h3]
  by_cases c : A 3 2 k = nI l
  · by_cases d : chA A k = true
    · rw [if_pos ⟨(h k hk c).mpr d, c⟩, if_pos ⟨d, c⟩]
    · rw [if_neg (fun e => d ((h k hk c).mp e.1)), if_neg (fun e => d e.1)]
  · rw [if_neg (fun e => c e.2), if_neg (fun e => c e.2)]
theorem fallen_X {A B : TT} {nl na ng t a l : Nat} {v : Int32} (hI : In A nl na ng t) (ha : a < na) (hl : l < nl) (el : A 3 2 a = nI l) (hv : ¬ v = 0 ∨ ¬ wonA A a) (bB : Br B nl na) (oB : offB (flE (tU A 3 7 a v) a na) B) : InX (wdS (hgS A a) ng B) nl na ng t l ∧ (¬ hadA A a na → In (wdS (hgS A a) ng B) nl na ng t) := by
  obtain ⟨w1, w2, w3, w4, w5, w6, w7⟩ := hI
  have hna := w1.hna
  have hnl := w1.hnl
  have fk : flK (tU A 3 7 a v) a = flK A a := flK_congr fun k => tuf (by decide)
  obtain ⟨D, hD⟩ : ∃ D, D = wdS (hgS A a) ng B := ⟨_, rfl⟩
  rw [← hD]
  have off : ∀ k f i, ¬ (k = 4 ∧ f = 6) → ¬ (k = 1 ∧ f = 1) → ¬ (k = 3 ∧ f = 4) → ¬ (k = 2 ∧ f = 3) → ¬ (k = 3 ∧ f = 5) → ¬ (k = 3 ∧ f = 7) → D k f i = A k f i := fun k f i q1 q2 q3 q4 q5 q6 => by
    rw [hD, wdS_off q1 q2, oB k f i q3 q4, flE_off q5, tU_ne (fun e => q6 ⟨e.1, e.2.1⟩)]
  have ev : ∀ {P : Nat → Nat → Prop}, ¬ P 4 6 → ¬ P 1 1 → ¬ P 3 4 → ¬ P 2 3 → ¬ P 3 5 → ¬ P 3 7 → agr P A D := fun p1 p2 p3 p4 p5 p6 k f i q => off k f i (by rintro ⟨rfl, rfl⟩; exact p1 q) (by rintro ⟨rfl, rfl⟩; exact p2 q) (by rintro ⟨rfl, rfl⟩; exact p3 q) (by rintro ⟨rfl, rfl⟩; exact p4 q) (by rintro ⟨rfl, rfl⟩; exact p5 q) (by rintro ⟨rfl, rfl⟩; exact p6 q)
  have d35 : ∀ k, k < na → D 3 5 k = if flK A a k = true then 2 else A 3 5 k := fun k hk => by
    rw [hD, wdS_off (by decide) (by decide), oB _ _ _ (by decide) (by decide), flE_5 hk, fk, tuf (by decide)]
  have d37 : ∀ k, D 3 7 k = if k = a then v else A 3 7 k := fun k => by
    rw [hD, wdS_off (by decide) (by decide), oB _ _ _ (by decide) (by decide), flE_off (by decide)]
    simp [tU]
  have d46 : ∀ g, g < ng → D 4 6 g = if hgS A a g = true then 2 else A 4 6 g := fun g hg => by
    rw [hD, wdS_6 hg, oB _ _ _ (by decide) (by decide), flE_off (by decide), tuk (by decide)]
  have d31 : ∀ k, D 3 1 k = A 3 1 k := fun k => off _ _ _ (by decide) (by decide) (by decide) (by decide) (by decide) (by decide)
  have d32 : ∀ k, D 3 2 k = A 3 2 k := fun k => off _ _ _ (by decide) (by decide) (by decide) (by decide) (by decide) (by decide)
  have d33 : ∀ k, D 3 3 k = A 3 3 k := fun k => off _ _ _ (by decide) (by decide) (by decide) (by decide) (by decide) (by decide)
  have d40 : ∀ k, D 4 0 k = A 4 0 k := fun k => off _ _ _ (by decide) (by decide) (by decide) (by decide) (by decide) (by decide)
  have d42 : ∀ k, D 4 2 k = A 4 2 k := fun k => off _ _ _ (by decide) (by decide) (by decide) (by decide) (by decide) (by decide)
  have d44 : ∀ k, D 4 4 k = A 4 4 k := fun k => off _ _ _ (by decide) (by decide) (by decide) (by decide) (by decide) (by decide)
  have d45 : ∀ k, D 4 5 k = A 4 5 k := fun k => off _ _ _ (by decide) (by decide) (by decide) (by decide) (by decide) (by decide)
  have d2 : ∀ f k, ¬ f = 3 → D 2 f k = A 2 f k := fun f k q => off _ _ _ (by omega) (by omega) (by omega) (by omega) (by omega) (by omega)
  have hw : ∀ k, wonA D k ↔ wonA A k := fun k => wonA_congr (off _ _ _ (by decide) (by decide) (by decide) (by decide) (by decide) (by decide)) (off _ _ _ (by decide) (by decide) (by decide) (by decide) (by decide) (by decide)) (off _ _ _ (by decide) (by decide) (by decide) (by decide) (by decide) (by decide))
  have v1 : Wf D nl na ng := w1.congr (ev (by decide) (by decide) (by decide) (by decide) (by decide) (by decide))
  have v2 : Br D nl na := hD ▸ bB.congr fun k f i q => wdS_off (by rintro ⟨rfl, rfl⟩; exact absurd q (by decide)) (by rintro ⟨rfl, rfl⟩; exact absurd q (by decide))
  have v3 : Zs D nl na ng := by
    refine ⟨fun j p q => ?_, fun j p q => ?_, fun j p q => ?_, fun j p q => ?_⟩
    · rw [d2 _ _ (by decide), d2 _ _ (by decide), d2 _ _ (by decide)]; exact w3.zl j p q
    · rw [hD, wdS_off (by decide) (by decide), oB _ _ _ (by decide) (by decide)]
      unfold flE
      rw [if_neg (by omega), tuf (by decide)]
      exact w3.za j p q
    · rw [off _ _ _ (by decide) (by decide) (by decide) (by decide) (by decide) (by decide)]; exact w3.zv j p q
    · rw [d45, off 4 7 _ (by decide) (by decide) (by decide) (by decide) (by decide) (by decide), hD, wdS_n (by omega), if_neg (by decide), oB _ _ _ (by decide) (by decide), flE_off (by decide), tuk (by decide)]
      exact w3.zg j p q
  have v4 : Vt D na := w4.congr (ev (by decide) (by decide) (by decide) (by decide) (by decide) (by decide))
  have v6 : Nm D nl na ng t := w6.congr (ev (by decide) (by decide) (by decide) (by decide) (by decide) (by decide))
  have v5 : Dc D na ng := by
    refine ⟨fun k hk => ?_, fun k hk => ?_, fun k hk => ?_, fun k p hk hp => ?_, fun k p hk hp => ?_, fun g hg => ?_⟩
    · rw [d35 k hk, d37]
      by_cases c : flK A a k = true
      · rw [if_pos c]; exact .inr (.inr rfl)
      · rw [if_neg c, if_neg (show ¬ k = a from fun e => c (by rw [e]; exact flK_self w1 ha))]
        exact w5.st k hk
    · rw [d35 k hk, d37, hw]
      by_cases c : flK A a k = true
      · rw [if_pos c]; exact fun q => absurd q (by decide)
      · rw [if_neg c, if_neg (show ¬ k = a from fun e => c (by rw [e]; exact flK_self w1 ha))]
        exact w5.d1 k hk
    · rw [d35 k hk, d37, hw]
      by_cases c : flK A a k = true
      · intro _
        rcases (flK_eq w1 hk).mp c with e | ⟨p, hp, e, q⟩
        · subst e
          rw [if_pos rfl]
          rcases hv with hv | hv
          · exact .inl hv
          · exact .inr (.inl hv)
        · refine .inr (.inr ⟨p, hp, (d31 k).trans e, ?_⟩)
          rw [d35 p (by omega), if_pos q]
      · rw [if_neg c, if_neg (show ¬ k = a from fun e => c (by rw [e]; exact flK_self w1 ha))]
        intro q
        rcases w5.d2 k hk q with r | r | ⟨p, hp, r1, r2⟩
        · exact .inl r
        · exact .inr (.inl r)
        · refine .inr (.inr ⟨p, hp, (d31 k).trans r1, ?_⟩)
          rw [d35 p (by omega), r2, ite_self]
    · rw [d31, d35 k hk, d35 p (by omega)]
      intro e q
      by_cases c : flK A a p = true
      · rw [if_pos ((flK_eq w1 hk).mpr (.inr ⟨p, hp, e, c⟩))]
      · rw [if_neg c] at q
        rw [w5.d3 k p hk hp e q, ite_self]
    · rw [d31, d35 k hk, d35 p (by omega)]
      intro e q
      by_cases c : flK A a k = true
      · rw [if_pos c] at q; exact absurd q (by decide)
      · rw [if_neg c] at q
        rw [if_neg (fun r => c ((flK_eq w1 hk).mpr (.inr ⟨p, hp, e, r⟩)))]
        exact w5.d4 k p hk hp e q
    · rw [d46 g hg, d42]
      by_cases c : hgS A a g = true
      · rw [if_pos c]; exact fun q => absurd q (by decide)
      · rw [if_neg c]
        intro q
        rcases w5.live g hg q with r | ⟨k, hk, r1, r2⟩
        · exact .inl r
        · refine .inr ⟨k, hk, r1, ?_⟩
          have : ¬ flK A a k = true := fun z => c (by
            unfold hgS
            rw [r1, nI_clamp (p31 (by omega)), decide_eq_true q, decide_eq_true (nI_neg1 (by omega)).1, z]
            rfl)
          rw [d35 k hk, if_neg this]
          exact r2
  have mono : ∀ l', l' < nl → (∀ k, k < na → A 3 2 k = nI l' → (chA D k = true ↔ chA A k = true)) → 0 ≤ (freeA D na ng l').toInt := fun l' hl' hc => by
    refine Int.le_trans (w7 l' hl') (free_mono w1 w2 w6 v1 v2 v6 hl' (base_congr (d2 _ _ (by decide)) (d2 _ _ (by decide)) (d2 _ _ (by decide))) (root_same w1 v1 w2 v2 d32 d33 hc) (d2 _ _ (by decide)) fun g hg => ?_)
    have hgr := w6.gr g hg
    unfold bindA
    rw [d40, d44, d45, d46 g hg]
    by_cases c : hgS A a g = true
    · have h0 : A 4 6 g = 0 := by
        unfold hgS at c
        rw [Bool.and_eq_true, decide_eq_true_eq] at c
        exact c.1
      rw [if_pos c, h0]
      by_cases d : A 4 0 g = nI l'
      · rw [if_pos d, if_pos d, if_pos rfl, if_neg (by decide)]
        omega
      · rw [if_neg d, if_neg d]
        exact Int.le_refl _
    · rw [if_neg c]
      exact Int.le_refl _
  have X : ∀ l', l' < nl → l' ≠ l → 0 ≤ (freeA D na ng l').toInt := fun l' hl' ne => by
    refine mono l' hl' (ch_same w1 v1 (fun k => A 3 2 k = nI l') (fun k p hk hp e q => (w1.lon k p hk hp e).symm.trans q) d31 fun k hk q => .inl ?_)
    have : ¬ flK A a k = true := fun z => by
      have := (flK_ge w1 k hk z).2 ha
      rw [el, q] at this
      exact ne ((nI_eq (p31 (by omega)) (p31 (by omega))).mp this)
    rw [d35 k hk, if_neg this]
  refine ⟨⟨v1, v2, v3, v4, v5, v6, X⟩, fun hno => ⟨v1, v2, v3, v4, v5, v6, fun l' hl' => ?_⟩⟩
  refine mono l' hl' fun k hk _ => ch_same w1 v1 (fun _ => True) (fun _ _ _ _ _ _ => trivial) d31 (fun k hk _ => .inl ?_) k hk trivial
  rw [d35 k hk]
  by_cases c : flK A a k = true
  · rw [if_pos c]
    exact ⟨fun q => absurd q (by decide), fun q => absurd ⟨k, hk, c, q⟩ hno⟩
  · rw [if_neg c]
/-- the class lets fall, and balances -/
theorem makeFallen_C {A : TT} {nl na ng t fu a l : Nat} {v : Int32} {n : ag_N} {s : ag_S} (h : ClS (tU A 3 7 a v) nl na ng n s) (hI : In A nl na ng t) (ha : a < na) (hl : l < nl) (el : A 3 2 a = nI l) (hv : ¬ v = 0 ∨ ¬ wonA A a) (hf : 60 < fu) : ∃ s1 D, f_X5_makeFallen fu (nI a) s = some (cntS (hgS A a) ng + (lookS na ng l ng D 0).2, s1) ∧ ClS (covA (lookS na ng l ng D 0).1 na ng l) nl na ng n s1 ∧ frC s s1 ∧ InX D nl na ng t l ∧ (¬ hadA A a na → In D nl na ng t) ∧ (∀ s', RfS (wdS (hgS A a) ng (flE A a na)) nl na ng s' → RfS D nl na ng s') ∧ D 3 5 a = 2 := by
  have hna := hI.wf.hna
  have hnl := hI.wf.hnl
  have fk : flK (tU A 3 7 a v) a = flK A a := flK_congr fun k => tuf (by decide)
  have wA1 : Wf (tU A 3 7 a v) nl na ng := hI.wf.congr (agr.rfl.u (by decide))
  have wE : Wf (flE (tU A 3 7 a v) a na) nl na ng := wA1.congr fun k f i q => flE_off (by rintro ⟨rfl, rfl⟩; exact absurd q (by decide))
  obtain ⟨sa, ea, ha1, fa⟩ := fell_C (fu := fu) (h.w (k := 3) (f := 5) (i := a) (v := 2) (by decide) (by omega)) wA1 (fun k p hk hp e q => by
    rw [tuf (by decide)] at e q ⊢
    exact hI.dc.d3 k p hk hp e q) ha hf
  obtain ⟨sb, B, eb, hb1, fb, bB, oB⟩ := reckon_C (fu := fu) ha1 wE hf
  have wB := wE.off oB
  obtain ⟨sc, ec, hc1, fc⟩ := wof_C (fu := fu) hb1 wB hf
  have b35 : ∀ k, k < na → B 3 5 k = if flK A a k = true then 2 else A 3 5 k := fun k hk => by
    rw [oB _ _ _ (by decide) (by decide), flE_5 hk, fk, tuf (by decide)]
  have boff : ∀ k f i, ¬ (k = 3 ∧ f = 4) → ¬ (k = 2 ∧ f = 3) → ¬ (k = 3 ∧ f = 5) → ¬ (k = 3 ∧ f = 7) → B k f i = A k f i := fun k f i q3 q4 q5 q6 => by
    rw [oB k f i q3 q4, flE_off q5, tU_ne (fun e => q6 ⟨e.1, e.2.1⟩)]
  have ex : ∀ g, g < ng → hfS B g = hgS A a g := fun g hg => by
    unfold hfS hgS
    rw [boff 4 6 g (by decide) (by decide) (by decide) (by decide), boff 4 2 g (by decide) (by decide) (by decide) (by decide)]
    by_cases c : A 4 6 g = 0
    · rcases hI.dc.live g hg c with r | ⟨k, hk, r1, r2⟩
      · rw [r, decide_eq_false (p := ¬ (-1 : Int32) = -1) (fun q => q rfl), Bool.false_and, Bool.false_and]
      · rw [r1, nI_clamp (p31 (by omega)), b35 k hk, r2]
        by_cases d : flK A a k = true
        · rw [if_pos d, d]
          simp
        · rw [if_neg d]
          rw [Bool.not_eq_true] at d
          rw [d, decide_eq_false (p := (1 : Int32) = 2) (by decide)]
    · rw [decide_eq_false c, Bool.false_and, Bool.false_and]
  rw [wdS_ext ex] at hc1
  rw [cntS_ext ex] at ec
  obtain ⟨X1, X2⟩ := fallen_X hI ha hl el hv bB oB
  have elD : wdS (hgS A a) ng B 3 2 a = nI l := by
    rw [wdS_off (by decide) (by decide), boff _ _ _ (by decide) (by decide) (by decide) (by decide), el]
  obtain ⟨sd, ed, hd1, fd⟩ := balance_C (fu := fu) hc1 X1.1 X1.2.1 hf hl
  refine ⟨sd, wdS (hgS A a) ng B, ?_, hd1, ((((frC.refl s).up (k := 3) (by decide)).trans fa).trans fb).trans (fc.trans fd), X1, X2, fun s' hr => hr.congr fun k f i q => ?_, ?_⟩
  · unfold f_X5_makeFallen
    rw [ea, bd_some, eb, bd_some, ec, bd_some]
    dsimp only
    have e32 : sc 3 2 (nI a) = nI l := (hc1.g3 ha).trans elD
    rw [if_neg (show ¬ sc 3 2 (nI a) = -1 from fun e => (nI_neg1 (w := l) (by omega)).1 (e32.symm.trans e)), e32, ed, bd_some]
  · have o : B k f i = flE A a na k f i := by
      by_cases c : k = 3 ∧ f = 5
      · obtain ⟨rfl, rfl⟩ := c
        rw [oB _ _ _ (by decide) (by decide)]
        unfold flE
        rw [fk, tuf (show ¬ 5 = 7 by decide)]
      · rw [boff k f i (by rintro ⟨rfl, rfl⟩; exact absurd q (by decide)) (by rintro ⟨rfl, rfl⟩; exact absurd q (by decide)) c (by rintro ⟨rfl, rfl⟩; exact absurd q (by decide)), flE_off c]
    by_cases d : k = 4 ∧ f = 6 ∧ i < ng ∧ hgS A a i = true
    · rw [wdS_y d, wdS_y d]
    · rw [wdS_n d, wdS_n d, o]
      by_cases e : k = 1 ∧ f = 1
      · rw [if_pos e, if_pos e, boff 1 1 i (by decide) (by decide) (by decide) (by decide), flE_off (by decide)]
        refine congrArg _ (isum_congr fun g _ => ?_)
        unfold rcv
        rw [boff 4 1 g (by decide) (by decide) (by decide) (by decide), boff 4 5 g (by decide) (by decide) (by decide) (by decide), flE_off (by decide), flE_off (by decide)]
      · rw [if_neg e, if_neg e]
  · rw [wdS_off (by decide) (by decide), b35 a ha, if_pos (flK_self hI.wf ha)]
theorem look_still {D : TT} {nl na ng t l : Nat} (hI : In D nl na ng t) (hl : l < nl) : lookS na ng l ng D 0 = (D, 0) ∧ covA D na ng l = D := by
  have hfr := hI.fr l hl
  have h2 := (freeA D na ng l).toInt_lt
  refine ⟨lookS_stop (by rw [Int32.le_iff_toInt_le, show (0 : Int32).toInt = 0 from by decide]; exact hfr) ng, if_pos ?_⟩
  rw [Int32.le_iff_toInt_le, neg_toInt32 (by omega), show (0 : Int32).toInt = 0 from by decide]
  omega
theorem fall_T {A D : TT} {nl na ng t fu a l : Nat} {s : ag_S} (h : RfS A nl na ng s) (hI : In A nl na ng t) (ha : a < na) (hl : l < nl) (el : A 3 2 a = nI l) (hX : InX D nl na ng t l) (hN : ¬ hadA A a na → In D nl na ng t) (hD : ∀ s', RfS (wdS (hgS A a) ng (flE A a na)) nl na ng s' → RfS D nl na ng s') (hf : 60 < fu) : ∃ s1, f_X6_fall fu (nI a) s = some (cntS (hgS A a) ng + (lookS na ng l ng D 0).2, s1) ∧ RfS (covA (lookS na ng l ng D 0).1 na ng l) nl na ng s1 ∧ frR s s1 ∧ s1 6 0 0 = s 6 0 0 := by
  obtain ⟨s1, r1, f1, z1, e0, e1⟩ := fall_R (fu := fu) h hI.wf hI.dc.live ha hf
  by_cases c : hadA A a na
  · obtain ⟨s2, e2, r2, f2, z2⟩ := look_R (fu := fu) (hD s1 r1) hX.1 hX.2.1 hf hl
    refine ⟨s2, ?_, r2, f1.trans f2, z2.trans z1⟩
    rw [e1 c, el, e2, bd_some]
  · obtain ⟨q1, q2⟩ := look_still (hN c) hl
    refine ⟨s1, ?_, ?_, f1, z1⟩
    · rw [e0 c, q1, Int32.add_zero]
    · rw [q1]
      dsimp only
      rw [q2]
      exact hD s1 r1
theorem op_strike {A : TT} {nl na ng t fu : Nat} {n : ag_N} {s : ag_S} {x : Int32} (h : ClS A nl na ng n s) (hr : RfS A nl na ng s) (hI : In A nl na ng t) (ht : t + 1 ≤ 520) (hf : 60 < fu) : Op1 (t + 1) n (f_L_strike fu x s) (fun s => f_X6_strike fu x s) := by
  have hna := hI.wf.hna
  rcases idx x na (by omega) with ⟨a, ha, rfl⟩ | ⟨nr, nx⟩
  · have a40 := inn (show a < 40 by omega) (by omega)
    by_cases c : A 3 5 a = 1
    · obtain ⟨l, hl, el⟩ := hI.wf.lin a ha
      obtain ⟨s1, D, e1, h1, f1, X, N, hD, -⟩ := makeFallen_C (fu := fu) (v := 1) (h.w (k := 3) (f := 7) (i := a) (v := 1) (by decide) (by omega)) hI ha hl el (.inl (by decide)) hf
      refine op_ok (A' := covA (lookS na ng l ng D 0).1 na ng l) (s1 := s1) (w := cntS (hgS A a) ng + (lookS na ng l ng D 0).2) (nl' := nl) (na' := na) (ng' := ng) hr ?_ h1 (((frC.refl s).up (by decide)).trans f1) (((InX.look ng D 0 (Nat.le_refl _) X).cov hl).mono ht) fun s' hr' => ?_
      · simp only [f_L_strike, f_X5_strike, f_X5_needPassed, amendmentAt_ok h ha, bt_inl, h.q3 ha 5 (by decide), c, if_true, e1, bd_some, bc_inl, z00, if_false]
      · obtain ⟨s2, e2, r2, f2, z2⟩ := fall_T (fu := fu) (hr'.u6 (v := 0)) hI ha hl el X N hD hf
        simp only [f_X6_strike, isAmendment_ok hr' ha (by omega), bd_some, i10, if_false, a40, hr'.r47 a (by omega), c, if_true, gw0, e2]
        exact ⟨_, rfl, z2.trans ag_up_eq, r2, ((frR.refl _).up (by decide)).trans f2⟩
    · refine op_no (c := 2) h hr (hI.mono ht) (by decide) ?_ (rf_no fun s' hr' => ?_)
      · simp only [f_L_strike, f_X5_strike, f_X5_needPassed, amendmentAt_ok h ha, bt_inl, h.q3 ha 5 (by decide), c, if_false, bt_inr, id, bc_inr, i31, if_true]
      · simp only [f_X6_strike, isAmendment_ok hr' ha (by omega), bd_some, i10, if_false, a40, hr'.r47 a (by omega), c, gwn (show ¬ (2 : Int32) = 0 by decide), if_true]
  · refine op_no (c := 1) h hr (hI.mono ht) (by decide) ?_ (rf_no fun s' hr' => ?_)
    · simp only [f_L_strike, f_X5_strike, amendmentAt_no h nx, bt_inr, bc_inr, id, if_true]
    · simp only [f_X6_strike, isAmendment_no hr' nr, bd_some, if_true, gwn (show ¬ (1 : Int32) = 0 by decide)]
