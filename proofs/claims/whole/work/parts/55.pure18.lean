/-! ===== line ===== -/
theorem op_line {A : TT} {nl na ng t fu : Nat} {n : ag_N} {s : ag_S} {x y : Int32} (h : ClS A nl na ng n s) (hr : RfS A nl na ng s) (hI : In A nl na ng t) (ht : t + 1 ≤ 520) : Op2 (t + 1) (f_L_line fu x y n s) (fun s => f_X6_line fu x y s) := by
  have hna := hI.wf.hna
  have hnl := hI.wf.hnl
  have e10 : ((nI nl = 10) ↔ nl = 10) ∧ ((nI nl < 10) ↔ nl < 10) := ⟨nI_eq (b := 10) (p31 (by omega)) (p31 (by omega)), nI_ltI (b := 10) (p31 (by omega)) (p31 (by omega))⟩
  rcases idx4 x with ⟨i, hi, rfl⟩ | ⟨nr, nx⟩
  · by_cases hy : rng y 0 100000
    · have hb := b100z hy
      by_cases hN : nl < 10
      · obtain ⟨s0, e0, n1, s1, e1, hC, fc⟩ := li_add (fu := fu) (x := nI i) (y := y) h (by omega)
        refine op_ok2 (A' := liA A nl (nI i) y) (s1 := s1) (w := nI nl) (nl' := nl + 1) (na' := na) (ng' := ng) hr ?_ hC fc ?_ fun s' hr' => ?_
        · simp only [f_L_line, f_X5_line, sourceAt_ok h hi, bt_inl, nr_ok hy, h.l2.size2, bd_some, e10.2, hN, if_true, eq_false (show ¬ 1000 ≤ nl by omega), if_false, h.n2, e0, e1, bc_inl, z00]
        · obtain ⟨w1, w2, w3, w4, w5, w6, w7⟩ := hI
          have ev : ∀ {P : Nat → Nat → Prop}, (∀ f, ¬ P 2 f) → agr P A (liA A nl (nI i) y) := fun p k f i q => liA_k (fun e => p f (e ▸ q))
          have k0 : ∀ {k f i'}, ¬ k = 2 → liA A nl (nI i) y k f i' = A k f i' := fun q => liA_k q
          have ki : ∀ {k f i'}, i' < nl → liA A nl (nI i) y k f i' = A k f i' := fun q => liA_i q
          have nolin : ∀ a, a < na → ¬ A 3 2 a = nI nl := fun a ha e => by
            obtain ⟨l, hl, el⟩ := w1.lin a ha
            have := (nI_eq (p31 (by omega)) (p31 (by omega))).mp (el.symm.trans e)
            omega
          have nogl : ∀ g, g < ng → ¬ A 4 0 g = nI nl := fun g hg e => by
            have := w1.hng
            obtain ⟨l, hl, el⟩ := w1.gl g hg
            have := (nI_eq (p31 (by omega)) (p31 (by omega))).mp (el.symm.trans e)
            omega
          have rootE : ∀ l', rootA (liA A nl (nI i) y) l' = rootA A l' := fun l' => by
            funext a
            unfold rootA
            rw [k0 (by decide), k0 (by decide), k0 (by decide), k0 (by decide)]
          have kidE : ∀ a, kidA (liA A nl (nI i) y) a = kidA A a := fun a => by
            funext k
            unfold kidA
            rw [k0 (by decide), k0 (by decide), k0 (by decide)]
          have bindE : ∀ l', bindA (liA A nl (nI i) y) l' = bindA A l' := fun l' => by
            funext g
            unfold bindA
            rw [k0 (by decide), k0 (by decide), k0 (by decide), k0 (by decide)]
          have root0 : isum (rootA A nl) na = 0 := isum_zero fun a ha => if_neg fun e => nolin a ha e.2.1
          have bind0 : isum (bindA A nl) ng = 0 := isum_zero fun g hg => if_neg fun e => nogl g hg e
          have base0 : baseA (liA A nl (nI i) y) nl = y := by
            unfold baseA
            rw [liA_2, liA_5, liA_6, Int32.sub_zero, Int32.add_zero]
          have baseE : ∀ l', l' < nl → baseA (liA A nl (nI i) y) l' = baseA A l' := fun l' hl' => base_congr (ki hl') (ki hl') (ki hl')
          refine ⟨⟨by omega, w1.hna, w1.hng, fun j hj => ?_, fun j hj => ?_, fun j hj => ?_, fun j hj => ?_, fun j hj => ?_, fun j hj => ?_, fun j hj => ?_, fun j p hj hp => ?_, fun j hj => ?_, fun j hj => ?_, fun j hj => ?_⟩, ⟨fun a ha => ?_, fun l' hl' => ?_⟩, ⟨fun j a b => ?_, fun j a b => ?_, fun j a b => ?_, fun j a b => ?_⟩, fun a ha => ?_, w5.congr (ev (fun f => by omega)), ?_, fun l' hl' => ?_⟩
          · rw [k0 (by decide)]; exact w1.num0 j hj
          · rw [k0 (by decide)]; exact w1.num1 j hj
          · by_cases e : j = nl
            · subst e; exact liA_0
            · rw [ki (by omega)]; exact w1.num2 j (by omega)
          · rw [k0 (by decide)]; exact w1.num3 j hj
          · by_cases e : j = nl
            · subst e; rw [liA_1]; exact ⟨i, hi, rfl⟩
            · rw [ki (by omega)]; exact w1.src j (by omega)
          · rw [k0 (by decide)]; exact w1.tree j hj
          · rw [k0 (by decide)]
            obtain ⟨l, hl, el⟩ := w1.lin j hj
            exact ⟨l, by omega, el⟩
          · rw [k0 (by decide), k0 (by decide), k0 (by decide)]; exact w1.lon j p hj hp
          · rw [k0 (by decide)]
            obtain ⟨l, hl, el⟩ := w1.gl j hj
            exact ⟨l, by omega, el⟩
          · rw [k0 (by decide)]; exact w1.rc j hj
          · rw [k0 (by decide)]; exact w1.hang j hj
          · rw [kidE, k0 (by decide), k0 (by decide)]; exact w2.sol a ha
          · rw [rootE]
            by_cases e : l' = nl
            · subst e; rw [liA_3, root0]
            · rw [ki (by omega)]; exact w2.bro l' (by omega)
          · rw [liA_ne (by omega), liA_ne (by omega), liA_ne (by omega)]; exact w3.zl j (by omega) b
          · rw [k0 (by decide)]; exact w3.za j a b
          · rw [k0 (by decide)]; exact w3.zv j a b
          · rw [k0 (by decide), k0 (by decide), k0 (by decide)]; exact w3.zg j a b
          · exact w4.congr (ev (fun f => by omega)) a ha
          · obtain ⟨R, q1, q2, q3⟩ := w6.res
            obtain ⟨m1, m2, m3, m4, m5, m6, m7, m8⟩ := w6.mono ht
            refine ⟨m1, fun j hj => ?_, fun j hj => ?_, fun j hj => ?_, fun a ha => ?_, fun l hl => ?_, ⟨R + y.toInt, by omega, by push_cast; omega, ?_⟩, ?_⟩
            · rw [k0 (by decide), k0 (by decide)]; exact m2 j hj
            · by_cases e : j = nl
              · subst e
                rw [liA_4, show (0 : Int32).toInt = 0 from by decide]
                omega
              · rw [ki (by omega)]; exact m3 j (by omega)
            · rw [k0 (by decide), k0 (by decide)]; exact m4 j hj
            · rw [k0 (by decide)]; exact m5 a ha
            · by_cases e : l = nl
              · subst e; rw [base0]; omega
              · rw [baseE l (by omega)]; exact m6 l (by omega)
            · rw [k0 (by decide), zsum, base0, zsum_congr (h := fun l => (baseA A l).toInt) (fun l hl => by rw [baseE l hl]), q3]
              omega
            · rw [k0 (by decide)]; exact m8
          · unfold freeA standA boundA
            rw [rootE, bindE]
            by_cases e : l' = nl
            · subst e
              rw [base0, root0, bind0, liA_4, Int32.add_zero, Int32.add_zero, Int32.sub_zero]
              exact hb.1
            · have q : l' < nl := by omega
              rw [baseE l' q, ki q]
              exact w7 l' q
        · have z := hI.zs.zl nl (Nat.le_refl _) hN
          have n10 := inn (show nl < 10 by omega) (by omega)
          have u := hr'.u6 (v := 0)
          have : (nl = 10) = False := eq_false (by omega)
          simp only [f_X6_line, in_ok (rng4 hi), in_ok hy, bd_some, i10, if_false, f_X6_line_b24, hr'.z7, e10.1, this, f_X6_line_b48, gw0, u.z7, n10, upk (show ¬ 6 = 38 by decide), upk (show ¬ 6 = 39 by decide), ag_up_eq, nI_1, nI_pred]
          refine ⟨_, rfl, ?_, ?_, ((((frR.refl _).up (by decide)).up (by decide)).up (by decide)).up (by decide)⟩
          · rw [upf (by decide), upk (by decide), upk (by decide), ag_up_eq]
          · have v := ((u.w38 (i := nl) (v := nI i) (by omega)).w39 (i := nl) (v := y) (by omega)).w6_7 (m := nl + 1)
            refine v.congr fun k f j q => ?_
            by_cases e : k = 2 ∧ j = nl
            · obtain ⟨rfl, rfl⟩ := e
              have : f = 1 ∨ f = 2 ∨ f = 5 ∨ f = 6 ∨ f = 4 := by omega
              rcases this with rfl | rfl | rfl | rfl | rfl
              · rw [liA_1]; simp [tU]
              · rw [liA_2]; simp [tU]
              · rw [liA_5]; simp [tU, z]
              · rw [liA_6]; simp [tU, z]
              · rw [liA_4]; simp [tU, z]
            · rw [liA_ne e, tU_ne (fun q => e ⟨q.1, q.2.2⟩), tU_ne (fun q => e ⟨q.1, q.2.2⟩)]
      · refine op_no2 (c := 2) h hr (hI.mono ht) (by decide) ?_ (rf_no fun s' hr' => ?_)
        · simp only [f_L_line, f_X5_line, sourceAt_ok h hi, bt_inl, nr_ok hy, h.l2.size2, bd_some, e10.2, hN, if_false, bc_inr, i32, if_true]
        · have : (nl = 10) = True := eq_true (by omega)
          simp only [f_X6_line, in_ok (rng4 hi), in_ok hy, bd_some, i10, if_false, f_X6_line_b24, hr'.z7, e10.1, this, f_X6_line_b48, gwn (show ¬ (2 : Int32) = 0 by decide), if_true]
    · refine op_no2 (c := 1) h hr (hI.mono ht) (by decide) ?_ (rf_no fun s' hr' => ?_)
      · simp only [f_L_line, f_X5_line, sourceAt_ok h hi, bt_inl, nr_no hy, bt_inr, bc_inr, if_true]
      · simp only [f_X6_line, in_ok (rng4 hi), in_no hy, bd_some, i10, if_false, f_X6_line_b23, f_X6_line_b24, f_X6_line_b48, gwn (show ¬ (1 : Int32) = 0 by decide), if_true]
  · refine op_no2 (c := 1) h hr (hI.mono ht) (by decide) ?_ (rf_no fun s' hr' => ?_)
    · simp only [f_L_line, f_X5_line, sourceAt_no h nx, bt_inr, bc_inr, if_true]
    · simp only [f_X6_line, in_no nr, bd_some, f_X6_line_b23, f_X6_line_b24, f_X6_line_b48, gwn (show ¬ (1 : Int32) = 0 by decide), if_true]
