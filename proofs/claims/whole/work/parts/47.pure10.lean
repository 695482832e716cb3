/-! ===== paying, auditing, spending ===== -/
theorem freeA_of {A A' : TT} {na ng l : Nat} (h1 : baseA A' l = baseA A l) (h2 : ∀ a, a < na → rootA A' l a = rootA A l a) (h3 : A' 2 4 l = A 2 4 l) (h4 : ∀ g, g < ng → bindA A' l g = bindA A l g) : freeA A' na ng l = freeA A na ng l := by
  unfold freeA standA boundA
  rw [h1, isum_congr h2, h3, isum_congr h4]
theorem le_sub32 {a b y : Int32} (hb0 : 0 ≤ b.toInt) (hb : b.toInt ≤ a.toInt) (hy0 : 0 ≤ y.toInt) (hy : y.toInt ≤ 50000) (hm : b.toInt ≤ 2000000000) : a < b + y ↔ ¬ y ≤ a - b := by
  have ha := a.toInt_lt
  rw [Int32.lt_iff_toInt_lt, Int32.le_iff_toInt_le, add_toInt (by omega) (by omega), sub_toInt (by omega) (by omega)]
  omega
theorem canPay_R {A : TT} {nl na ng fu l i : Nat} {y : Int32} {s : ag_S} (h : RfS A nl na ng s) (hl : l < 10) (hi : i < 4) (e : A 2 1 l = nI i) : f_X6_canPay fu (nI l) y s = some (if A 0 1 i < A 0 2 i + y then 0 else 1) := by
  unfold f_X6_canPay
  simp only [h.r38 l (by omega), e, inn hl (by omega), inn hi (by omega), if_false, h.r34 i (by omega), h.r35 i (by omega)]
  by_cases c : A 0 1 i < A 0 2 i + y
  · simp only [c, if_true]
  · simp only [c, if_false]
theorem payFrom_ok {A : TT} {nl na ng fu i : Nat} {n : ag_N} {s : ag_S} {y : Int32} (h : ClS A nl na ng n s) (hi : i < 4) (c : y ≤ A 0 1 i - A 0 2 i) : f_X5_payFrom fu (nI i) y s = some (.inl 0, ag_up s 0 2 (nI i) (A 0 2 i + y)) := by
  unfold f_X5_payFrom f_X4_unpaid
  rw [bd_some, h.g0 hi, h.g0 hi, if_pos c]
theorem payFrom_no {A : TT} {nl na ng fu i : Nat} {n : ag_N} {s : ag_S} {y : Int32} (h : ClS A nl na ng n s) (hi : i < 4) (c : ¬ y ≤ A 0 1 i - A 0 2 i) : f_X5_payFrom fu (nI i) y s = some (.inr 3, s) := by
  unfold f_X5_payFrom f_X4_unpaid
  rw [bd_some, h.g0 hi, h.g0 hi, if_neg c]
theorem op_pay {A : TT} {nl na ng t fu : Nat} {n : ag_N} {s : ag_S} {x y : Int32} (h : ClS A nl na ng n s) (hr : RfS A nl na ng s) (hI : In A nl na ng t) (ht : t + 1 ≤ 520) : Op1 (t + 1) n (f_L_pay fu x y s) (fun s => f_X6_pay fu x y s) := by
  have hng := hI.wf.hng
  have hnl := hI.wf.hnl
  rcases idx x ng (by omega) with ⟨g, hg, rfl⟩ | ⟨nr, nx⟩
  · obtain ⟨l, hl, el⟩ := hI.wf.gl g hg
    obtain ⟨i, hi, ei⟩ := hI.wf.src l hl
    have hgr := hI.nm.gr g hg
    have hin := hI.nm.inc i hi
    have htt := hI.nm.tt
    have ng40 := inn (show g < 40 by omega) (by omega)
    by_cases hy : rng y 1 50000
    · have hb := b50 hy
      have k1 : A 4 4 g < A 4 5 g + y ↔ ¬ y ≤ A 4 4 g - A 4 5 g := le_sub32 hgr.1 hgr.2.1 (by omega) hb.2 (by omega)
      have k2 : A 0 1 i < A 0 2 i + y ↔ ¬ y ≤ A 0 1 i - A 0 2 i := le_sub32 hin.1 hin.2.1 (by omega) hb.2 (by omega)
      have rthrow : ¬ (A 4 6 g = 0 ∧ y ≤ A 4 4 g - A 4 5 g ∧ y ≤ A 0 1 i - A 0 2 i) → RfOp (fun s => f_X6_pay fu (nI g) y s) A nl na ng 3 0 A nl na ng := fun q => rf_no fun s' hr' => by
        simp only [f_X6_pay, isGrant_ok hr' hg (by omega), in_ok hy, bd_some, i10, if_false, ng40, hr'.r57 g (by omega), hr'.r53 g (by omega), hr'.r54 g (by omega), hr'.r51 g (by omega), el, canPay_R hr' (show l < 10 by omega) hi ei, f_X6_pay_b68, f_X6_pay_b69, f_X6_pay_b99, gwn (show ¬ (3 : Int32) = 0 by decide), if_true, ite_self]
        by_cases c0 : A 4 6 g = 0
        · by_cases c1 : A 4 4 g < A 4 5 g + y
          · simp only [c0, c1, if_true]
          · by_cases c2 : A 0 1 i < A 0 2 i + y
            · simp only [c0, c1, c2, if_true, if_false]
            · rw [k1] at c1
              rw [k2] at c2
              exact absurd ⟨c0, Classical.not_not.mp c1, Classical.not_not.mp c2⟩ q
        · simp only [c0, if_false]
      by_cases c0 : A 4 6 g = 0
      · by_cases c1 : y ≤ A 4 4 g - A 4 5 g
        · by_cases c2 : y ≤ A 0 1 i - A 0 2 i
          · refine op_ok (A' := tU (tU A 0 2 i (A 0 2 i + y)) 4 5 g (A 4 5 g + y)) (s1 := ag_up (ag_up s 0 2 (nI i) (A 0 2 i + y)) 4 5 (nI g) (A 4 5 g + y)) (w := A 4 5 g + y) (nl' := nl) (na' := na) (ng' := ng) hr ?_ ((h.w (by decide) (by omega)).w (by decide) (by omega)) (((frC.refl s).up (by decide)).up (by decide)) ?_ fun s' hr' => ?_
            · simp only [f_L_pay, f_X5_pay, grantAt_ok h hg, bt_inl, nr_ok hy, h.q4 hg 6 (by decide), h.q4 hg 4 (by decide), h.q4 hg 5 (by decide), h.q4 hg 0 (by decide), c0, if_true, c1, el, h.q2 hl 1 (by decide), ei, neN (show l ≤ 1000 by omega), neN (show i ≤ 1000 by omega), if_false, payFrom_ok h hi c2, upk (show ¬ 4 = 0 by decide), ag_up_eq, bc_inl, z00]
            · obtain ⟨w1, w2, w3, w4, w5, w6, w7⟩ := hI
              refine ⟨w1.congr ((agr.rfl.u (by decide)).u (by decide)), w2.congr ((agr.rfl.u (by decide)).u (by decide)), (w3.u (by omega)).u (by omega), w4.congr ((agr.rfl.u (by decide)).u (by decide)), w5.congr ((agr.rfl.u (by decide)).u (by decide)), ?_, fun l' hl' => ?_⟩
              · have e1 : (A 4 5 g + y).toInt = (A 4 5 g).toInt + y.toInt := add_toInt (by omega) (by omega)
                have e2 : (A 0 2 i + y).toInt = (A 0 2 i).toInt + y.toInt := add_toInt (by omega) (by omega)
                rw [Int32.le_iff_toInt_le, sub_toInt (by omega) (by omega)] at c1 c2
                have b : ∀ l, baseA (tU (tU A 0 2 i (A 0 2 i + y)) 4 5 g (A 4 5 g + y)) l = baseA A l := fun l => by simp [baseA, tU]
                obtain ⟨m1, m2, m3, m4, m5, m6, m7, m8⟩ := w6.mono ht
                refine ⟨m1, fun j hj => ?_, fun l hl => ?_, fun j hj => ?_, fun a ha => ?_, fun l hl => ?_, ?_, ?_⟩
                · have := m2 j hj
                  by_cases q : j = i
                  · subst q
                    simp only [tU, show ¬ (0 = 4) by decide, false_and, if_false, true_and, if_true, show ¬ (1 = 2) by decide]
                    omega
                  · simp only [tU, show ¬ (0 = 4) by decide, false_and, if_false, true_and, show ¬ (1 = 2) by decide, q]
                    omega
                · rw [tuk (by decide), tuk (by decide)]; exact m3 l hl
                · have := m4 j hj
                  by_cases q : j = g
                  · subst q
                    simp only [tU, show ¬ (4 = 0) by decide, false_and, if_false, true_and, if_true, show ¬ (4 = 5) by decide]
                    omega
                  · simp only [tU, show ¬ (4 = 0) by decide, false_and, if_false, true_and, show ¬ (4 = 5) by decide, q]
                    omega
                · rw [tuk (by decide), tuk (by decide)]; exact m5 a ha
                · rw [b]; exact m6 l hl
                · simp only [b]
                  rw [tuk (by decide), tuk (by decide)]; exact m7
                · rw [tuk (by decide), tuk (by decide)]; exact m8
              · rw [freeA_of (A := A) (by simp [baseA, tU]) (fun a _ => by simp [rootA, tU]) (by simp [tU]) (fun j _ => ?_)]
                · exact w7 l' hl'
                · unfold bindA
                  by_cases q : j = g
                  · subst q
                    simp [tU, c0]
                  · simp [tU, q]
            · have u := hr'.u6 (v := 0)
              have c1' : (A 4 4 g < A 4 5 g + y) = False := eq_false fun q => (k1.mp q) c1
              have c2' : (A 0 1 i < A 0 2 i + y) = False := eq_false fun q => (k2.mp q) c2
              simp only [f_X6_pay, isGrant_ok hr' hg (by omega), in_ok hy, bd_some, i10, if_false, ng40, hr'.r57 g (by omega), hr'.r53 g (by omega), hr'.r54 g (by omega), hr'.r51 g (by omega), el, canPay_R hr' (show l < 10 by omega) hi ei, f_X6_pay_b69, f_X6_pay_b99, gw0, c0, if_true, c1', c2', u.r54 g (by omega), u.r51 g (by omega), u.r38 l (by omega), u.r35 i (by omega), ei, upk (show ¬ 51 = 54 by decide), upk (show ¬ 38 = 54 by decide), upk (show ¬ 35 = 54 by decide), upk (show ¬ 54 = 35 by decide), inn (show l < 10 by omega) (by omega), inn hi (by omega), ag_up_eq]
              refine ⟨_, rfl, ?_, ?_, (((frR.refl _).up (by decide)).up (by decide)).up (by decide)⟩
              · rw [upk (by decide), upk (by decide), ag_up_eq]
              · rw [tU_comm (fun e => absurd e.1 (by decide))]
                exact (u.w54 (by omega)).w35 (by omega)
          · refine op_no (c := 3) h hr (hI.mono ht) (by decide) ?_ (rthrow fun q => c2 q.2.2)
            simp only [f_L_pay, f_X5_pay, grantAt_ok h hg, bt_inl, nr_ok hy, h.q4 hg 6 (by decide), h.q4 hg 4 (by decide), h.q4 hg 5 (by decide), h.q4 hg 0 (by decide), c0, if_true, c1, el, h.q2 hl 1 (by decide), ei, neN (show l ≤ 1000 by omega), neN (show i ≤ 1000 by omega), if_false, payFrom_no h hi c2, bt_inr, id, bc_inr, i31, i32]
        · refine op_no (c := 3) h hr (hI.mono ht) (by decide) ?_ (rthrow fun q => c1 q.2.1)
          simp only [f_L_pay, f_X5_pay, grantAt_ok h hg, bt_inl, nr_ok hy, h.q4 hg 6 (by decide), h.q4 hg 4 (by decide), h.q4 hg 5 (by decide), c0, if_true, c1, if_false, bc_inr, i31, i32]
      · refine op_no (c := 3) h hr (hI.mono ht) (by decide) ?_ (rthrow fun q => c0 q.1)
        simp only [f_L_pay, f_X5_pay, grantAt_ok h hg, bt_inl, nr_ok hy, h.q4 hg 6 (by decide), c0, if_true, if_false, bc_inr, i31, i32]
    · refine op_no (c := 2) h hr (hI.mono ht) (by decide) ?_ (rf_no fun s' hr' => ?_)
      · simp only [f_L_pay, f_X5_pay, grantAt_ok h hg, bt_inl, nr_no hy, bt_inr, bc_inr, id, i21, if_false, if_true]
      · simp only [f_X6_pay, isGrant_ok hr' hg (by omega), in_no hy, bd_some, i10, if_false, f_X6_pay_b68, f_X6_pay_b69, f_X6_pay_b99, gwn (show ¬ (2 : Int32) = 0 by decide), if_true]
  · refine op_no (c := 1) h hr (hI.mono ht) (by decide) ?_ (rf_no fun s' hr' => ?_)
    · simp only [f_L_pay, f_X5_pay, grantAt_no h nx, bt_inr, bc_inr, id, if_true]
    · by_cases hy : rng y 1 50000
      · simp only [f_X6_pay, isGrant_no hr' nr, in_ok hy, bd_some, if_true, f_X6_pay_b68, f_X6_pay_b69, f_X6_pay_b99, gwn (show ¬ (1 : Int32) = 0 by decide)]
      · simp only [f_X6_pay, isGrant_no hr' nr, in_no hy, bd_some, if_true, f_X6_pay_b68, f_X6_pay_b69, f_X6_pay_b99, gwn (show ¬ (1 : Int32) = 0 by decide)]
