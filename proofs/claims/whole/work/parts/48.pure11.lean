/-! ===== audit ===== -/
def audA (A : TT) (g r l : Nat) (y : Int32) : TT := tU (tU (tU (tU (tU A 1 1 r (A 1 1 r + y)) 2 4 l (A 2 4 l + y)) 4 6 g 1) 4 5 g (A 4 5 g - y)) 4 4 g (A 4 5 g - y)
theorem audA_cl {A : TT} {g r l : Nat} {y : Int32} : audA A g r l y = tU (tU (tU (tU (tU A 4 5 g (A 4 5 g - y)) 4 6 g 1) 4 4 g (A 4 5 g - y)) 1 1 r (A 1 1 r + y)) 2 4 l (A 2 4 l + y) := by
  have n41 : ¬ (4 : Nat) = 1 := by decide
  have n42 : ¬ (4 : Nat) = 2 := by decide
  have n12 : ¬ (1 : Nat) = 2 := by decide
  have n45 : ¬ (4 : Nat) = 5 := by decide
  have n46 : ¬ (4 : Nat) = 6 := by decide
  have n56 : ¬ (5 : Nat) = 6 := by decide
  funext k f j
  simp only [audA, tU]
  by_cases k4 : k = 4
  · subst k4
    simp only [n41, n42, false_and, if_false, true_and]
    by_cases j0 : j = g
    · simp only [j0, and_true]
      by_cases f4 : f = 4
      · subst f4; simp only [n45, n46, if_true, if_false]
      · by_cases f5 : f = 5
        · subst f5; simp only [f4, n56, if_true, if_false]
        · simp only [f4, f5, if_false]
    · simp only [j0, and_false, if_false]
  · simp only [k4, false_and, if_false]
theorem op_audit {A : TT} {nl na ng t fu : Nat} {n : ag_N} {s : ag_S} {x y : Int32} (h : ClS A nl na ng n s) (hr : RfS A nl na ng s) (hI : In A nl na ng t) (ht : t + 1 ≤ 520) : Op1 (t + 1) n (f_L_audit fu x y s) (fun s => f_X6_audit fu x y s) := by
  have hng := hI.wf.hng
  have hnl := hI.wf.hnl
  rcases idx x ng (by omega) with ⟨g, hg, rfl⟩ | ⟨nr, nx⟩
  · obtain ⟨l, hl, el⟩ := hI.wf.gl g hg
    obtain ⟨r, hr8, er⟩ := hI.wf.rc g hg
    have hgr := hI.nm.gr g hg
    have htt := hI.nm.tt
    have ng40 := inn (show g < 40 by omega) (by omega)
    by_cases hy : rng y 1 50000
    · have hb := b50 hy
      by_cases c0 : A 4 6 g = 2
      · refine op_no (c := 3) h hr (hI.mono ht) (by decide) ?_ (rf_no fun s' hr' => ?_)
        · simp only [f_L_audit, f_X5_audit, f_X5_needNotWithdrawn, grantAt_ok h hg, bt_inl, bt_inr, nr_ok hy, h.q4 hg 6 (by decide), c0, if_true, if_false, id, bc_inr, i31, i32]
        · simp only [f_X6_audit, isGrant_ok hr' hg (by omega), in_ok hy, bd_some, i10, if_false, ng40, hr'.r57 g (by omega), c0, if_true, f_X6_audit_b43, f_X6_audit_b44, f_X6_audit_b74, gwn (show ¬ (3 : Int32) = 0 by decide)]
      · by_cases c1 : y ≤ A 4 5 g
        · have c1' : (A 4 5 g < y) = False := eq_false (i32_lt.mpr c1)
          refine op_ok (A' := audA A g r l y) (s1 := ag_up (ag_up (ag_up (ag_up (ag_up s 4 5 (nI g) (A 4 5 g - y)) 4 6 (nI g) 1) 4 4 (nI g) (A 4 5 g - y)) 1 1 (nI r) (A 1 1 r + y)) 2 4 (nI l) (A 2 4 l + y)) (w := A 4 5 g - y) (nl' := nl) (na' := na) (ng' := ng) hr ?_ ?_ ((((((frC.refl s).up (by decide)).up (by decide)).up (by decide)).up (by decide)).up (by decide)) ?_ fun s' hr' => ?_
          · simp only [f_L_audit, f_X5_audit, f_X5_needNotWithdrawn, f_X1_clawBack, f_X1_cut, grantAt_ok h hg, bt_inl, nr_ok hy, h.q4 hg 6 (by decide), c0, if_false, h.q4 hg 5 (by decide), c1, if_true, bd_some, upf (show ¬ 5 = 6 by decide), upf (show ¬ 1 = 5 by decide), upf (show ¬ 1 = 6 by decide), upf (show ¬ 1 = 4 by decide), ag_up_eq, h.q4 hg 1 (by decide), h.q4 hg 0 (by decide), er, el, neN (show r ≤ 1000 by omega), neN (show l ≤ 1000 by omega), upk (show ¬ 1 = 4 by decide), upk (show ¬ 4 = 1 by decide), upk (show ¬ 2 = 1 by decide), upk (show ¬ 2 = 4 by decide), upk (show ¬ 4 = 2 by decide), upf (show ¬ 0 = 4 by decide), upf (show ¬ 0 = 6 by decide), upf (show ¬ 0 = 5 by decide), upf (show ¬ 5 = 4 by decide), h.q1 hr8 1 (by decide), h.q2 hl 4 (by decide), bc_inl, z00]
          · rw [audA_cl]
            exact ((((h.w (by decide) (by omega)).w (by decide) (by omega)).w (by decide) (by omega)).w (by decide) (by omega)).w (by decide) (by omega)
          · have ev : ∀ {P : Nat → Nat → Prop}, ¬ P 1 1 → ¬ P 2 4 → ¬ P 4 6 → ¬ P 4 5 → ¬ P 4 4 → agr P A (audA A g r l y) := fun a b c d e => ((((agr.rfl.u a).u b).u c).u d).u e
            have e1 : (A 4 5 g - y).toInt = (A 4 5 g).toInt - y.toInt := sub_toInt (by omega) (by omega)
            rw [Int32.le_iff_toInt_le] at c1
            obtain ⟨w1, w2, w3, w4, w5, w6, w7⟩ := hI
            have hsp := w6.spent l hl
            have e2 : (A 2 4 l + y).toInt = (A 2 4 l).toInt + y.toInt := add_toInt (by omega) (by omega)
            have b : ∀ l', baseA (audA A g r l y) l' = baseA A l' := fun l' => by simp [baseA, audA, tU]
            have a45 : ∀ j, audA A g r l y 4 5 j = if j = g then A 4 5 g - y else A 4 5 j := fun j => by simp [audA, tU]
            have a44 : ∀ j, audA A g r l y 4 4 j = if j = g then A 4 5 g - y else A 4 4 j := fun j => by simp [audA, tU]
            have a46 : ∀ j, audA A g r l y 4 6 j = if j = g then 1 else A 4 6 j := fun j => by simp [audA, tU]
            have a24 : ∀ j, audA A g r l y 2 4 j = if j = l then A 2 4 l + y else A 2 4 j := fun j => by simp [audA, tU]
            have a42 : ∀ j, audA A g r l y 4 2 j = A 4 2 j := fun j => by simp [audA, tU]
            have a40 : ∀ j, audA A g r l y 4 0 j = A 4 0 j := fun j => by simp [audA, tU]
            have a3 : ∀ f j, audA A g r l y 3 f j = A 3 f j := fun f j => by simp [audA, tU]
            have v1 := w1.congr (ev (P := Wv) (by decide) (by decide) (by decide) (by decide) (by decide))
            have v2 := w2.congr (ev (P := Bv) (by decide) (by decide) (by decide) (by decide) (by decide))
            have v6 : Nm (audA A g r l y) nl na ng (t + 1) := by
              obtain ⟨m1, m2, m3, m4, m5, m6, m7, m8⟩ := w6.mono ht
              refine ⟨m1, fun j hj => ?_, fun j hl => ?_, fun j hj => ?_, fun a ha => ?_, fun l hl => ?_, ?_, ?_⟩
              · have := m2 j hj
                simpa [audA, tU] using this
              · rw [a24]
                have := m3 j hl
                by_cases q : j = l
                · rw [if_pos q]; push_cast at *; omega
                · rw [if_neg q]; exact this
              · rw [a45, a44]
                have := m4 j hj
                by_cases q : j = g
                · rw [if_pos q, if_pos q]; omega
                · rw [if_neg q, if_neg q]; exact this
              · rw [a3]; exact m5 a ha
              · rw [b]; exact m6 l hl
              · simp only [b]
                simpa [audA, tU] using m7
              · simpa [audA, tU] using m8
            refine ⟨v1, v2, ((((w3.u (by omega)).u (by omega)).u (by omega)).u (by omega)).u (by omega), w4.congr (ev (P := Vv) (by decide) (by decide) (by decide) (by decide) (by decide)), ?_, v6, fun l' hl' => ?_⟩
            · obtain ⟨d1, d2, d3, d4, d5, d6⟩ := w5
              have hw : ∀ a, wonA (audA A g r l y) a ↔ wonA A a := fun a => wonA_congr (a3 _ _) (a3 _ _) (a3 _ _)
              refine ⟨fun a ha => ?_, fun a ha => ?_, fun a ha => ?_, fun a p ha => ?_, fun a p ha => ?_, fun j hj => ?_⟩
              · simp only [a3]; exact d1 a ha
              · rw [a3, a3, hw]; exact d2 a ha
              · simp only [a3, hw]; exact d3 a ha
              · simp only [a3]; exact d4 a p ha
              · simp only [a3]; exact d5 a p ha
              · rw [a46, a42]
                simp only [a3]
                by_cases q : j = g
                · rw [if_pos q]; exact fun e => absurd e (by decide)
                · rw [if_neg q]; exact d6 j hj
            · obtain ⟨f1, f2, f3, -⟩ := free_Z w1 w2 w6 hl'
              obtain ⟨f1', f2', f3', -⟩ := free_Z v1 v2 v6 hl'
              have hfr := w7 l' hl'
              have hroot : isum (rootA (audA A g r l y) l') na = isum (rootA A l') na := isum_congr fun a _ => by simp only [rootA, a3]
              rw [b, hroot] at f1'
              rw [a24] at f2'
              have hbz : ∀ j, j ≠ g → (bindA (audA A g r l y) l' j).toInt = (bindA A l' j).toInt := fun j q => by simp only [bindA, a40, a44, a45, a46, if_neg q]
              have hz := zsum_upd (g := fun j => (bindA A l' j).toInt) (h := fun j => (bindA (audA A g r l y) l' j).toInt) (i := g) (fun j q => hbz j q) hg
              have b1 : bindA A l' g = if nI l = nI l' then A 4 4 g else 0 := by
                unfold bindA
                rw [el, if_neg c0]
              have b2 : bindA (audA A g r l y) l' g = if nI l = nI l' then A 4 5 g - y else 0 := by
                unfold bindA
                rw [a40, el, a46, if_pos rfl, if_neg (show ¬ (1 : Int32) = 2 by decide), a44, if_pos rfl]
              rw [b1, b2] at hz
              by_cases q : l' = l
              · subst q
                rw [if_pos rfl] at f2'
                rw [if_pos rfl, if_pos rfl] at hz
                omega
              · rw [if_neg q] at f2'
                have qn : ¬ nI l = nI l' := fun e => q ((nI_eq (p31 (by omega)) (p31 (by omega))).mp e).symm
                rw [if_neg qn, if_neg qn] at hz
                omega
          · have u := hr'.u6 (v := 0)
            simp only [f_X6_audit, isGrant_ok hr' hg (by omega), in_ok hy, bd_some, i10, if_false, ng40, hr'.r57 g (by omega), hr'.r54 g (by omega), c0, c1', f_X6_audit_b44, f_X6_audit_b74, gw0, u.r54 g (by omega), u.r51 g (by omega), u.r52 g (by omega), u.r36 r (by omega), u.r42 l (by omega), er, el, inn hr8 (by omega), inn (show l < 10 by omega) (by omega), upk (show ¬ 51 = 36 by decide), upk (show ¬ 42 = 36 by decide), upk (show ¬ 54 = 57 by decide), upk (show ¬ 54 = 42 by decide), upk (show ¬ 54 = 36 by decide), upk (show ¬ 54 = 53 by decide), ag_up_eq]
            refine ⟨_, rfl, ?_, ?_, ((((((frR.refl _).up (by decide)).up (by decide)).up (by decide)).up (by decide)).up (by decide)).up (by decide)⟩
            · rw [upk (by decide), upk (by decide), upk (by decide), upk (by decide), upk (by decide), ag_up_eq]
            · exact ((((u.w36 (by omega)).w42 (by omega)).w57 (by omega)).w54 (by omega)).w53 (by omega)
        · have c1' : (A 4 5 g < y) = True := eq_true (i32_le.mp c1)
          refine op_no (c := 3) h hr (hI.mono ht) (by decide) ?_ (rf_no fun s' hr' => ?_)
          · simp only [f_L_audit, f_X5_audit, f_X5_needNotWithdrawn, grantAt_ok h hg, bt_inl, nr_ok hy, h.q4 hg 6 (by decide), h.q4 hg 5 (by decide), c0, c1, if_true, if_false, bc_inr, i31, i32]
          · simp only [f_X6_audit, isGrant_ok hr' hg (by omega), in_ok hy, bd_some, i10, if_false, ng40, hr'.r57 g (by omega), hr'.r54 g (by omega), c0, c1', if_true, f_X6_audit_b43, f_X6_audit_b44, f_X6_audit_b74, gwn (show ¬ (3 : Int32) = 0 by decide)]
    · refine op_no (c := 2) h hr (hI.mono ht) (by decide) ?_ (rf_no fun s' hr' => ?_)
      · simp only [f_L_audit, f_X5_audit, grantAt_ok h hg, bt_inl, nr_no hy, bt_inr, bc_inr, id, i21, if_false, if_true]
      · simp only [f_X6_audit, isGrant_ok hr' hg (by omega), in_no hy, bd_some, i10, if_false, f_X6_audit_b43, f_X6_audit_b44, f_X6_audit_b74, gwn (show ¬ (2 : Int32) = 0 by decide), if_true, ng40]
        split
        · rfl
        · split <;> rfl
  · refine op_no (c := 1) h hr (hI.mono ht) (by decide) ?_ (rf_no fun s' hr' => ?_)
    · simp only [f_L_audit, f_X5_audit, grantAt_no h nx, bt_inr, bc_inr, id, if_true]
    · by_cases hy : rng y 1 50000
      · simp only [f_X6_audit, isGrant_no hr' nr, in_ok hy, bd_some, if_true, f_X6_audit_b43, f_X6_audit_b44, f_X6_audit_b74, gwn (show ¬ (1 : Int32) = 0 by decide)]
      · simp only [f_X6_audit, isGrant_no hr' nr, in_no hy, bd_some, if_true, f_X6_audit_b43, f_X6_audit_b44, f_X6_audit_b74, gwn (show ¬ (1 : Int32) = 0 by decide)]
