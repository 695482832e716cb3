/-! ===== vote ===== -/
theorem ClS.co {A : TT} {nl na ng : Nat} {n : ag_N} {s : ag_S} (h : ClS A nl na ng n s) {k f i : Nat} {v : Int32} (hk : 6 ≤ k) : ClS (tU A k f i v) nl na ng n s := by
  obtain ⟨l0, l1, l2, l3, l4, n2, n3, n4, c0, c1, c2, c3, c4, c5⟩ := h
  refine ⟨l0, l1, l2, l3, l4, n2, n3, n4, fun f i hf hi => ?_, fun f i hf hi => ?_, fun f i hf hi => ?_, fun f i hf hi => ?_, fun f i hf hi => ?_, fun f hf => ?_⟩
  · rw [tuk (by omega)]; exact c0 f i hf hi
  · rw [tuk (by omega)]; exact c1 f i hf hi
  · rw [tuk (by omega)]; exact c2 f i hf hi
  · rw [tuk (by omega)]; exact c3 f i hf hi
  · rw [tuk (by omega)]; exact c4 f i hf hi
  · rw [tuk (by omega)]; exact c5 f hf
def setb (M m : Nat) : Nat := M + (1 - (M >>> m) % 2) * 2 ^ m
def clrb (M m : Nat) : Nat := M - ((M >>> m) % 2) * 2 ^ m
theorem bits1 : ∀ (M : Fin 512) (m : Fin 9), setb M.val m.val < 512 ∧ clrb M.val m.val < 512 ∧ (nI M.val ||| (1 <<< (nI m.val &&& 31))) = nI (setb M.val m.val) ∧ (nI M.val &&& ((1 <<< (nI m.val &&& 31)) ^^^ (-1))) = nI (clrb M.val m.val) := by decide +kernel
theorem bits2 : ∀ (M : Fin 512) (m j : Fin 9), (setb M.val m.val >>> j.val) % 2 = (if j = m then 1 else (M.val >>> j.val) % 2) ∧ (clrb M.val m.val >>> j.val) % 2 = (if j = m then 0 else (M.val >>> j.val) % 2) := by decide +kernel
def votA (A : TT) (a m : Nat) (c x y : Int32) : TT := tU (tU (tU A 6 0 (9 * a + m) c) 3 8 a x) 3 9 a y
theorem votA_In {A : TT} {nl na ng t a m : Nat} {c x y : Int32} (hI : In A nl na ng t) (ht : t + 1 ≤ 520) (ha : a < na) (hm : m < 9) (h0 : A 3 5 a = 0) (hv : ∃ M1 M2 : Nat, M1 < 512 ∧ M2 < 512 ∧ x = nI M1 ∧ y = nI M2 ∧ ∀ j, j < 9 → ((M1 >>> j) % 2 = 1 ↔ (if j = m then c else A 6 0 (9 * a + j)) = 1) ∧ ((M2 >>> j) % 2 = 1 ↔ (if j = m then c else A 6 0 (9 * a + j)) = 2)) : In (votA A a m c x y) nl na ng (t + 1) := by
  have ev : ∀ {P : Nat → Nat → Prop}, ¬ P 6 0 → ¬ P 3 8 → ¬ P 3 9 → agr P A (votA A a m c x y) := fun p q r => ((agr.rfl.u p).u q).u r
  obtain ⟨w1, w2, w3, w4, w5, w6, w7⟩ := hI
  refine ⟨w1.congr (ev (by decide) (by decide) (by decide)), w2.congr (ev (by decide) (by decide) (by decide)), ((w3.u (by omega)).u (by omega)).u (by omega), fun b hb => ?_, ?_, (w6.mono ht).congr (ev (by decide) (by decide) (by decide)), w7.congr (ev (by decide) (by decide) (by decide))⟩
  · have e6 : ∀ j, votA A a m c x y 6 0 j = if j = 9 * a + m then c else A 6 0 j := fun j => by simp [votA, tU]
    have e8 : ∀ j, votA A a m c x y 3 8 j = if j = a then x else A 3 8 j := fun j => by simp [votA, tU]
    have e9 : ∀ j, votA A a m c x y 3 9 j = if j = a then y else A 3 9 j := fun j => by simp [votA, tU]
    by_cases q : b = a
    · subst q
      obtain ⟨M1, M2, h1, h2, h3, h4, h5⟩ := hv
      refine ⟨M1, M2, h1, h2, by rw [e8, if_pos rfl, h3], by rw [e9, if_pos rfl, h4], fun j hj => ?_⟩
      rw [e6]
      have := h5 j hj
      by_cases r : j = m
      · subst r
        rw [if_pos rfl]
        simpa using this
      · rw [if_neg (by omega)]
        simpa [r] using this
    · obtain ⟨M1, M2, h1, h2, h3, h4, h5⟩ := w4 b hb
      refine ⟨M1, M2, h1, h2, by rw [e8, if_neg q, h3], by rw [e9, if_neg q, h4], fun j hj => ?_⟩
      rw [e6, if_neg (by omega)]
      exact h5 j hj
  · obtain ⟨d1, d2, d3, d4, d5, d6⟩ := w5
    have e5 : ∀ j, votA A a m c x y 3 5 j = A 3 5 j := fun j => by simp [votA, tU]
    have e7 : ∀ j, votA A a m c x y 3 7 j = A 3 7 j := fun j => by simp [votA, tU]
    have e1 : ∀ j, votA A a m c x y 3 1 j = A 3 1 j := fun j => by simp [votA, tU]
    have e4 : ∀ f j, votA A a m c x y 4 f j = A 4 f j := fun f j => by simp [votA, tU]
    have hw : ∀ b, b ≠ a → (wonA (votA A a m c x y) b ↔ wonA A b) := fun b q => wonA_congr (by simp [votA, tU]) (by simp [votA, tU, q]) (by simp [votA, tU, q])
    refine ⟨fun b hb => ?_, fun b hb => ?_, fun b hb => ?_, fun b p hb => ?_, fun b p hb => ?_, fun g hg => ?_⟩
    · rw [e5, e7]; exact d1 b hb
    · rw [e5, e7]
      intro s1
      have q : b ≠ a := fun q => by rw [q, h0] at s1; exact absurd s1 (by decide)
      rw [hw b q]
      exact d2 b hb s1
    · rw [e5, e7, e1]
      intro s1
      have q : b ≠ a := fun q => by rw [q, h0] at s1; exact absurd s1 (by decide)
      rw [hw b q]
      simp only [e5]
      exact d3 b hb s1
    · simp only [e5, e1]; exact d4 b p hb
    · simp only [e5, e1]; exact d5 b p hb
    · simp only [e4, e5]; exact d6 g hg
theorem op_vote {A : TT} {nl na ng t fu : Nat} {n : ag_N} {s : ag_S} {x y z : Int32} (h : ClS A nl na ng n s) (hr : RfS A nl na ng s) (hI : In A nl na ng t) (ht : t + 1 ≤ 520) (hf : 60 < fu) (hz : z = 0 ∨ z = 1) : Op1 (t + 1) n (f_L_vote fu x y z s) (fun s => f_X6_vote fu x y z s) := by
  have hna := hI.wf.hna
  rcases idx x 9 (by decide) with ⟨m, hm, rfl⟩ | ⟨nr, nx⟩
  · have r9 : rng (nI m) 0 8 := rng_idx (N := 9) hm (by decide)
    have m9 : nI m < 9 := nI_lt (b := 9) hm (p31 (by omega))
    have m0 := nI_pos (p31 (show m ≤ 1000 by omega))
    rcases idx y na (by omega) with ⟨a, ha, rfl⟩ | ⟨nr2, nx2⟩
    · have a40 := inn (show a < 40 by omega) (by omega)
      by_cases h0 : A 3 5 a = 0
      · obtain ⟨M1, M2, h1, h2, h3, h4, h5⟩ := hI.vt a ha
        obtain ⟨s1, c1, o1, n1⟩ := bits1 ⟨M1, h1⟩ ⟨m, hm⟩
        obtain ⟨s2, c2, o2, n2⟩ := bits1 ⟨M2, h2⟩ ⟨m, hm⟩
        have main : ∀ c x' y', f_X0_takeVote fu (nI a) (nI m) z s = some (ag_up (ag_up s 3 8 (nI a) x') 3 9 (nI a) y') → (if z = 0 then (2 : Int32) else 1) = c → In (votA A a m c x' y') nl na ng (t + 1) → Op1 (t + 1) n (f_L_vote fu (nI m) (nI a) z s) (fun s => f_X6_vote fu (nI m) (nI a) z s) := fun c x' y' e1 e2 e3 => by
          have hC : ClS (votA A a m c x' y') nl na ng n (ag_up (ag_up s 3 8 (nI a) x') 3 9 (nI a) y') := ((h.co (by decide)).w (by decide) (by omega)).w (by decide) (by omega)
          refine op_ok (A' := votA A a m c x' y') (s1 := ag_up (ag_up s 3 8 (nI a) x') 3 9 (nI a) y') (w := x' |> bcv) (nl' := nl) (na' := na) (ng' := ng) hr ?_ hC (((frC.refl s).up (by decide)).up (by decide)) e3 fun s' hr' => ?_
          · simp only [f_L_vote, f_X5_vote, f_X5_needOpen, f_X0_votesFor, if_neg m0, m9, if_true, amendmentAt_ok h ha, bt_inl, h.q3 ha 5 (by decide), h0, e1, bd_some, upf (show ¬ 8 = 9 by decide), ag_up_eq, bc_eq, bc_inl, z00, if_false]
          · have u := hr'.u6 (v := 0)
            have uv : RfS (votA A a m c x' y') nl na ng (ag_up (ag_up s' 6 0 0 0) 49 0 (nI (9 * a + m)) c) := ((u.w49 (by omega)).co (by decide)).co (by decide)
            have vo : isum (fun m' => if votA A a m c x' y' 6 0 (9 * a + m') = 1 then 1 else 0) 9 = bcv x' := by
              rw [(e3.vt.one ha).1]
              simp [votA, tU]
            have e49 : (9 : Int32) * nI a + nI m = nI (9 * a + m) := by rw [nI_mul9, nI_add]
            have i49 := inn (show 9 * a + m < 360 by omega) (by omega)
            refine ⟨_, ?_, ?_, uv, ((frR.refl _).up (by decide)).up (by decide)⟩
            · rcases hz with rfl | rfl
              · rw [if_pos rfl] at e2
                subst e2
                simp only [f_X6_vote, in_ok r9, bd_some, i10, if_false, isAmendment_ok hr' ha (by omega), f_X6_vote_b23, a40, hr'.r47 a (by omega), h0, if_true, f_X6_vote_b49, gw0, e49, i49, votesOf_R uv (show a < 40 by omega) (show 10 < fu by omega), vo]
              · rw [if_neg (by decide)] at e2
                subst e2
                simp only [f_X6_vote, in_ok r9, bd_some, i10, if_false, isAmendment_ok hr' ha (by omega), f_X6_vote_b23, a40, hr'.r47 a (by omega), h0, if_true, f_X6_vote_b49, gw0, e49, i49, votesOf_R uv (show a < 40 by omega) (show 10 < fu by omega), vo]
            · rw [upk (by decide), ag_up_eq]
        rcases hz with rfl | rfl
        · refine main 2 (nI (clrb M1 m)) (nI (setb M2 m)) ?_ (if_pos rfl) (votA_In hI ht ha hm h0 ⟨_, _, c1, s2, rfl, rfl, fun j hj => ?_⟩)
          · simp only [f_X0_takeVote, f_X0_takeVote_b26, if_true, h.q3 ha 8 (by decide), upf (show ¬ 9 = 8 by decide), h.q3 ha 9 (by decide), h3, h4, n1, o2]
          · have q1 := bits2 ⟨M1, h1⟩ ⟨m, hm⟩ ⟨j, hj⟩
            have q2 := bits2 ⟨M2, h2⟩ ⟨m, hm⟩ ⟨j, hj⟩
            simp only [Fin.mk.injEq] at q1 q2
            rw [q1.2, q2.1]
            by_cases q : j = m
            · simp only [q, if_true]
              decide
            · simp only [q, if_false]
              exact h5 j hj
        · refine main 1 (nI (setb M1 m)) (nI (clrb M2 m)) ?_ (if_neg (by decide)) (votA_In hI ht ha hm h0 ⟨_, _, s1, c2, rfl, rfl, fun j hj => ?_⟩)
          · simp only [f_X0_takeVote, f_X0_takeVote_b26, i10, if_false, h.q3 ha 8 (by decide), upf (show ¬ 9 = 8 by decide), h.q3 ha 9 (by decide), h3, h4, o1, n2]
          · have q1 := bits2 ⟨M1, h1⟩ ⟨m, hm⟩ ⟨j, hj⟩
            have q2 := bits2 ⟨M2, h2⟩ ⟨m, hm⟩ ⟨j, hj⟩
            simp only [Fin.mk.injEq] at q1 q2
            rw [q1.1, q2.2]
            by_cases q : j = m
            · simp only [q, if_true]
              decide
            · simp only [q, if_false]
              exact h5 j hj
      · refine op_no (c := 2) h hr (hI.mono ht) (by decide) ?_ (rf_no fun s' hr' => ?_)
        · simp only [f_L_vote, f_X5_vote, f_X5_needOpen, if_neg m0, m9, if_true, amendmentAt_ok h ha, bt_inl, h.q3 ha 5 (by decide), h0, bt_inr, bc_inr, id, i31, if_false]
        · simp only [f_X6_vote, in_ok r9, bd_some, i10, if_false, isAmendment_ok hr' ha (by omega), f_X6_vote_b23, a40, hr'.r47 a (by omega), h0, f_X6_vote_b49, gwn (show ¬ (2 : Int32) = 0 by decide), if_true]
    · refine op_no (c := 1) h hr (hI.mono ht) (by decide) ?_ (rf_no fun s' hr' => ?_)
      · simp only [f_L_vote, f_X5_vote, if_neg m0, m9, if_true, amendmentAt_no h nx2, bt_inr, bc_inr, id, if_false]
      · simp only [f_X6_vote, in_ok r9, bd_some, i10, if_false, isAmendment_no hr' nr2, f_X6_vote_b22, f_X6_vote_b23, f_X6_vote_b49, gwn (show ¬ (1 : Int32) = 0 by decide), if_true]
  · refine op_no (c := 1) h hr (hI.mono ht) (by decide) ?_ (rf_no fun s' hr' => ?_)
    · rcases nx with nx | ⟨nx, ny⟩
      · simp only [f_L_vote, f_X5_vote, nx, if_true, bc_inr]
      · have ny : ¬ x < 9 := ny
        simp only [f_L_vote, f_X5_vote, nx, ny, if_true, if_false, bc_inr]
    · have nr : ¬ rng x 0 8 := nr
      simp only [f_X6_vote, in_no nr, bd_some, if_true, f_X6_vote_b22, f_X6_vote_b23, f_X6_vote_b49, gwn (show ¬ (1 : Int32) = 0 by decide)]
