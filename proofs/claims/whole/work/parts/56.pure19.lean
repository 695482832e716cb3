/-! ===== grant ===== -/
theorem gxA_In {A : TT} {nl na ng t l r : Nat} {y c u : Int32} (hI : In A nl na ng t) (ht : t + 1 ≤ 520) (hg : ng < 40) (hl : l < nl) (hr8 : r < 8) (hy : 1 ≤ y.toInt ∧ y.toInt ≤ 50000) (hc : c = -1 ∨ ∃ a, a < na ∧ c = nI a ∧ A 3 5 a = 1) (hfree : y ≤ freeA A na ng l) : In (gxA A ng (nI l) (nI r) y c u) nl na (ng + 1) (t + 1) := by
  obtain ⟨w1, w2, w3, w4, w5, w6, w7⟩ := hI
  have hnl := w1.hnl
  have k0 : ∀ {k f i'}, ¬ k = 4 → gxA A ng (nI l) (nI r) y c u k f i' = A k f i' := fun q => gxA_k q
  have ki : ∀ {k f i'}, i' < ng → gxA A ng (nI l) (nI r) y c u k f i' = A k f i' := fun q => gxA_i q
  have ev : ∀ {P : Nat → Nat → Prop}, (∀ f, ¬ P 4 f) → agr P A (gxA A ng (nI l) (nI r) y c u) := fun p k f i q => gxA_k (fun e => p f (e ▸ q))
  have rootE : ∀ l', rootA (gxA A ng (nI l) (nI r) y c u) l' = rootA A l' := fun l' => rootA_congr (ev (fun f => by omega))
  have baseE : ∀ l', baseA (gxA A ng (nI l) (nI r) y c u) l' = baseA A l' := fun l' => base_congr (k0 (by decide)) (k0 (by decide)) (k0 (by decide))
  have hw : ∀ a, wonA (gxA A ng (nI l) (nI r) y c u) a ↔ wonA A a := fun a => wonA_congr (k0 (by decide)) (k0 (by decide)) (k0 (by decide))
  have v1 : Wf (gxA A ng (nI l) (nI r) y c u) nl na (ng + 1) := by
    refine ⟨w1.hnl, w1.hna, by omega, fun i hi => ?_, fun i hi => ?_, fun i hi => ?_, fun i hi => ?_, fun i hi => ?_, fun i hi => ?_, fun i hi => ?_, fun i j hi hj => ?_, fun i hi => ?_, fun i hi => ?_, fun i hi => ?_⟩
    · rw [k0 (by decide)]; exact w1.num0 i hi
    · rw [k0 (by decide)]; exact w1.num1 i hi
    · rw [k0 (by decide)]; exact w1.num2 i hi
    · rw [k0 (by decide)]; exact w1.num3 i hi
    · rw [k0 (by decide)]; exact w1.src i hi
    · rw [k0 (by decide)]; exact w1.tree i hi
    · rw [k0 (by decide)]; exact w1.lin i hi
    · rw [k0 (by decide), k0 (by decide), k0 (by decide)]; exact w1.lon i j hi hj
    · by_cases e : i = ng
      · subst e; rw [gxA_0]; exact ⟨l, hl, rfl⟩
      · rw [ki (by omega)]; exact w1.gl i (by omega)
    · by_cases e : i = ng
      · subst e; rw [gxA_1]; exact ⟨r, hr8, rfl⟩
      · rw [ki (by omega)]; exact w1.rc i (by omega)
    · by_cases e : i = ng
      · subst e; rw [gxA_2]
        rcases hc with hc | ⟨a, ha, hc, -⟩
        · exact .inl hc
        · exact .inr ⟨a, ha, hc⟩
      · rw [ki (by omega)]; exact w1.hang i (by omega)
  have v2 : Br (gxA A ng (nI l) (nI r) y c u) nl na := w2.congr (ev (fun f => by omega))
  have v6 : Nm (gxA A ng (nI l) (nI r) y c u) nl na (ng + 1) (t + 1) := by
    obtain ⟨m1, m2, m3, m4, m5, m6, m7, m8⟩ := w6.mono ht
    refine ⟨m1, fun j hj => ?_, fun j hj => ?_, fun j hj => ?_, fun a ha => ?_, fun l hl => ?_, ?_, ?_⟩
    · rw [k0 (by decide), k0 (by decide)]; exact m2 j hj
    · rw [k0 (by decide)]; exact m3 j hj
    · by_cases e : j = ng
      · subst e
        rw [gxA_5, gxA_4, show (0 : Int32).toInt = 0 from by decide]
        omega
      · rw [ki (by omega), ki (by omega)]; exact m4 j (by omega)
    · rw [k0 (by decide)]; exact m5 a ha
    · rw [baseE]; exact m6 l hl
    · simp only [baseE]
      rw [k0 (by decide)]; exact m7
    · rw [k0 (by decide)]; exact m8
  refine ⟨v1, v2, ⟨fun j a b => ?_, fun j a b => ?_, fun j a b => ?_, fun j a b => ?_⟩, w4.congr (ev (fun f => by omega)), ⟨fun a ha => ?_, fun a ha => ?_, fun a ha => ?_, fun a p ha => ?_, fun a p ha => ?_, fun g hg => ?_⟩, v6, fun l' hl' => ?_⟩
  · rw [k0 (by decide), k0 (by decide), k0 (by decide)]; exact w3.zl j a b
  · rw [k0 (by decide)]; exact w3.za j a b
  · rw [k0 (by decide)]; exact w3.zv j a b
  · rw [gxA_ne (by omega), gxA_ne (by omega), gxA_ne (by omega)]; exact w3.zg j (by omega) b
  · rw [k0 (by decide), k0 (by decide)]; exact w5.st a ha
  · rw [k0 (by decide), k0 (by decide), hw]; exact w5.d1 a ha
  · simp only [gxA_k (show ¬ 3 = 4 by decide), hw]; exact w5.d2 a ha
  · simp only [gxA_k (show ¬ 3 = 4 by decide)]; exact w5.d3 a p ha
  · simp only [gxA_k (show ¬ 3 = 4 by decide)]; exact w5.d4 a p ha
  · simp only [gxA_k (show ¬ 3 = 4 by decide)]
    by_cases e : g = ng
    · subst e
      rw [gxA_2]
      exact fun _ => hc
    · rw [ki (by omega), ki (by omega)]; exact w5.live g (by omega)
  · obtain ⟨f1, f2, f3, -⟩ := free_Z w1 w2 w6 hl'
    obtain ⟨f1', f2', f3', -⟩ := free_Z v1 v2 v6 hl'
    have hfr := w7 l' hl'
    rw [baseE, rootE] at f1'
    rw [k0 (by decide), zsum, zsum_congr (h := fun j => (bindA A l' j).toInt) (fun j hj => by
      unfold bindA
      rw [ki hj, ki hj, ki hj, ki hj])] at f2'
    have b1 : bindA (gxA A ng (nI l) (nI r) y c u) l' ng = if nI l = nI l' then y else 0 := by
      unfold bindA
      rw [gxA_0, gxA_6, if_neg (show ¬ (0 : Int32) = 2 by decide), gxA_4]
    rw [b1] at f2'
    rw [Int32.le_iff_toInt_le] at hfree
    by_cases q : l' = l
    · subst q
      rw [if_pos rfl] at f2'
      omega
    · have qn : ¬ nI l = nI l' := fun e => q ((nI_eq (p31 (by omega)) (p31 (by omega))).mp e).symm
      rw [if_neg qn, show (0 : Int32).toInt = 0 from by decide] at f2'
      omega
/-- may a grant be made, as the reference asks -/
abbrev canG (A : TT) (na ng l : Nat) (y c : Int32) : Prop := ng < 40 ∧ y ≤ freeA A na ng l ∧ (c = -1 ∨ A 3 5 c.toNatClampNeg = 1)
theorem grant_66 {A : TT} {nl na ng fu l : Nat} {x2 y c z y0 : Int32} {s : ag_S} (h : RfS A nl na ng s) (hw : Wf A nl na ng) (hb : Br A nl na) (hf : 60 < fu) (hl : l < nl) (hc : c = -1 ∨ ∃ a, a < na ∧ c = nI a) (x7 : Int32) : ∃ s2, f_X6_grant_b66 fu (nI l) x2 y c z 1 x7 s = f_X6_grant_b113 fu (nI l) x2 y c z 1 x7 (if canG A na ng l y c then 1 else 0) s2 ∧ RfS A nl na ng s2 ∧ frR s s2 := by
  have hng := hw.hng
  have hnl := hw.hnl
  have hna := hw.hna
  unfold f_X6_grant_b66 f_X6_grant_b112 f_X6_grant_b108
  rw [if_neg (by decide), h.z20]
  by_cases hN : ng < 40
  · rw [if_neg (show ¬ (40 : Int32) ≤ nI ng from nI_ge (b := 40) hN (p31 (by omega)))]
    obtain ⟨sa, ea, fa⟩ := free_R (fu := fu) h hw hb (by omega) (show l < 10 by omega)
    have ra := h.u59 fa
    rw [ea, bd_some]
    dsimp only
    by_cases c1 : y ≤ freeA A na ng l
    · rw [if_neg (i32_lt.mpr c1)]
      rcases hc with rfl | ⟨a, ha, rfl⟩
      · rw [if_pos rfl, if_pos ⟨hN, c1, .inl rfl⟩]
        exact ⟨sa, rfl, ra, fr59 fa⟩
      · rw [if_neg (nI_neg1 (by omega)).1, if_neg (nI_in (show a < 40 by omega) (p31 (by omega)))]
        have e47 : sa 47 0 (nI a) = A 3 5 a := ra.r47 a (by omega)
        by_cases c2 : A 3 5 a = 1
        · rw [if_pos (e47.trans c2), if_pos ⟨hN, c1, .inr (by rw [nI_clamp (p31 (by omega))]; exact c2)⟩]
          exact ⟨sa, rfl, ra, fr59 fa⟩
        · rw [if_neg (fun q => c2 (e47.symm.trans q)), if_neg]
          · exact ⟨sa, rfl, ra, fr59 fa⟩
          · rintro ⟨-, -, q | q⟩
            · exact (nI_neg1 (by omega)).1 q
            · rw [nI_clamp (p31 (by omega))] at q
              exact c2 q
    · rw [if_pos (i32_le.mp c1), if_neg (fun q => c1 q.2.1)]
      exact ⟨sa, rfl, ra, fr59 fa⟩
  · rw [if_pos (show (40 : Int32) ≤ nI ng from nI_le (a := 40) (b := ng) (by omega) (p31 (by omega))), if_neg (fun q => hN q.1)]
    exact ⟨s, rfl, h, frR.refl s⟩
theorem grant_thr {fu : Nat} {x1 x2 x3 x4 x5 y : Int32} {s : ag_S} (h : ¬ y = 0) : f_X6_grant_b144 fu x1 x2 x3 x4 x5 y s = some (0, ag_up s 6 0 0 y) := by
  unfold f_X6_grant_b144
  rw [gwn h, bd_some, if_pos rfl]
theorem grant_done {A : TT} {nl na ng fu l r : Nat} {y c z : Int32} {s : ag_S} (h : RfS A nl na ng s) (hz : A 4 5 ng = 0 ∧ A 4 6 ng = 0 ∧ A 4 7 ng = 0) (hN : ng < 40) : ∃ s2, f_X6_grant_b144 fu (nI l) (nI r) y c z 0 s = some (nI ng, s2) ∧ s2 6 0 0 = 0 ∧ RfS (gxA A ng (nI l) (nI r) y c (A 5 7 0 + z)) nl na (ng + 1) s2 ∧ frR s s2 := by
  have n40 := inn (show ng < 40 by omega) (by omega)
  have u := h.u6 (v := 0)
  simp only [f_X6_grant_b144, gw0, bd_some, i10, if_false, u.z20, n40, upk (show ¬ 6 = 51 by decide), upk (show ¬ 6 = 52 by decide), upk (show ¬ 6 = 53 by decide), upk (show ¬ 6 = 55 by decide), upk (show ¬ 6 = 56 by decide), u.z1, ag_up_eq, nI_1, nI_pred]
  refine ⟨_, rfl, ?_, ?_, (((((((frR.refl _).up (by decide)).up (by decide)).up (by decide)).up (by decide)).up (by decide)).up (by decide)).up (by decide)⟩
  · rw [upf (by decide), upk (by decide), upk (by decide), upk (by decide), upk (by decide), upk (by decide), ag_up_eq]
  · have v := (((((u.w51 (i := ng) (v := nI l) (by omega)).w52 (i := ng) (v := nI r) (by omega)).w53 (i := ng) (v := y) (by omega)).w55 (i := ng) (v := c) (by omega)).w56 (i := ng) (v := A 5 7 0 + z) (by omega)).w6_20 (m := ng + 1)
    refine v.congr fun k f i q => ?_
    by_cases e : k = 4 ∧ i = ng
    · obtain ⟨rfl, rfl⟩ := e
      have : f = 0 ∨ f = 1 ∨ f = 2 ∨ f = 3 ∨ f = 4 ∨ f = 5 ∨ f = 6 ∨ f = 7 := by omega
      rcases this with rfl | rfl | rfl | rfl | rfl | rfl | rfl | rfl
      · rw [gxA_0]; simp [tU]
      · rw [gxA_1]; simp [tU]
      · rw [gxA_2]; simp [tU]
      · rw [gxA_3]; simp [tU]
      · rw [gxA_4]; simp [tU]
      · rw [gxA_5]; simp [tU, hz]
      · rw [gxA_6]; simp [tU, hz]
      · rw [gxA_7]; simp [tU, hz]
    · rw [gxA_ne e, tU_ne (fun q => e ⟨q.1, q.2.2⟩), tU_ne (fun q => e ⟨q.1, q.2.2⟩), tU_ne (fun q => e ⟨q.1, q.2.2⟩), tU_ne (fun q => e ⟨q.1, q.2.2⟩), tU_ne (fun q => e ⟨q.1, q.2.2⟩)]
theorem op_grant {A : TT} {nl na ng t fu : Nat} {n : ag_N} {s : ag_S} {x1 x2 y x4 z : Int32} (h : ClS A nl na ng n s) (hr : RfS A nl na ng s) (hI : In A nl na ng t) (ht : t + 1 ≤ 520) (hf : 60 < fu) : Op2 (t + 1) (f_L_grant fu x1 x2 y x4 z n s) (fun s => f_X6_grant fu x1 x2 y x4 z s) := by
  have hna := hI.wf.hna
  have hnl := hI.wf.hnl
  have hng := hI.wf.hng
  have e40 := nI40 hng
  have bad : ∀ s', RfS A nl na ng s' → f_X6_grant_b37 fu x1 x2 y x4 z s' = some (0, ag_up s' 6 0 0 1) := fun s' hr' => by
    by_cases hy : rng y 1 50000
    · by_cases hz : rng z 0 60
      · simp only [f_X6_grant_b37, f_X6_grant_b38, f_X6_grant_b66, f_X6_grant_b112, f_X6_grant_b113, in_ok hy, in_ok hz, bd_some, i10, if_false, if_true, grant_thr (show ¬ (1 : Int32) = 0 by decide)]
      · simp only [f_X6_grant_b37, f_X6_grant_b38, f_X6_grant_b65, f_X6_grant_b66, f_X6_grant_b112, f_X6_grant_b113, in_ok hy, in_no hz, bd_some, i10, if_false, if_true, grant_thr (show ¬ (1 : Int32) = 0 by decide)]
    · simp only [f_X6_grant_b37, f_X6_grant_b38, f_X6_grant_b65, f_X6_grant_b66, f_X6_grant_b112, f_X6_grant_b113, in_no hy, bd_some, if_true, grant_thr (show ¬ (1 : Int32) = 0 by decide)]
  rcases idx x1 nl (by omega) with ⟨l, hl, rfl⟩ | ⟨nr, nx⟩
  · rcases idx8 x2 with ⟨r, hr8, rfl⟩ | ⟨nr, nx⟩
    · have core : (x4 = -1 ∨ ∃ a, a < na ∧ x4 = nI a) → (∀ s', RfS A nl na ng s' → f_X6_grant fu (nI l) (nI r) y x4 z s' = f_X6_grant_b38 fu (nI l) (nI r) y x4 z 1 s') → f_L_grant fu (nI l) (nI r) y x4 z n s = ag_bc (f_X5_grant_b30 fu y z (nI l) (nI r) x4 n s) (fun w11 ns => if (0 : Int32) < 0 ∨ 1 ≤ (0 : Int32).toNatClampNeg then none else some (0, (ns.1, (ag_up ns.2 8 0 0 w11)))) (fun e ns => if e = 1 then (some (1, (ns.1, ns.2))) else if e = 2 then (some (2, (ns.1, ns.2))) else if e = 3 then (some (3, (ns.1, ns.2))) else none) → Op2 (t + 1) (f_L_grant fu (nI l) (nI r) y x4 z n s) (fun s => f_X6_grant fu (nI l) (nI r) y x4 z s) := by
        intro hc hRf hCl
        have f2 : ∀ x7 : Int32, x7 = 0 → ∀ s', RfS A nl na ng s' → ∃ s2, f_X6_grant_b66 fu (nI l) (nI r) y x4 z 1 x7 s' = some (0, s2) ∧ s2 6 0 0 = 2 ∧ RfS A nl na ng s2 ∧ frR s' s2 := fun x7 e s' hr' => by
          obtain ⟨s2, e2, r2, fr2⟩ := grant_66 (fu := fu) (x2 := nI r) (y := y) (z := z) (y0 := 0) hr' hI.wf hI.br hf hl hc x7
          refine ⟨ag_up s2 6 0 0 2, ?_, ag_up_eq, r2.u6, fr2.up (by decide)⟩
          rw [e2]
          unfold f_X6_grant_b113
          rw [if_neg (by decide), if_pos e, grant_thr (by decide)]
        by_cases hy : rng y 1 50000
        · by_cases hz : rng z 0 60
          · have f3 : ∀ s', RfS A nl na ng s' → ∃ s2, f_X6_grant fu (nI l) (nI r) y x4 z s' = f_X6_grant_b144 fu (nI l) (nI r) y x4 z (if canG A na ng l y x4 then 0 else 3) s2 ∧ RfS A nl na ng s2 ∧ frR s' s2 := fun s' hr' => by
              obtain ⟨s2, e2, r2, fr2⟩ := grant_66 (fu := fu) (x2 := nI r) (y := y) (z := z) (y0 := 0) hr' hI.wf hI.br hf hl hc 1
              refine ⟨s2, ?_, r2, fr2⟩
              rw [hRf s' hr']
              unfold f_X6_grant_b38
              rw [in_ok hy, bd_some, if_neg (by decide), in_ok hz, bd_some, if_neg (by decide), e2]
              unfold f_X6_grant_b113
              rw [if_neg (by decide), if_neg (by decide)]
              by_cases q : canG A na ng l y x4
              · rw [if_pos q, if_pos q, if_neg (by decide)]
              · rw [if_neg q, if_neg q, if_pos rfl]
            have no : ¬ canG A na ng l y x4 → RfOp (fun s => f_X6_grant fu (nI l) (nI r) y x4 z s) A nl na ng 3 0 A nl na ng := fun q s' hr' => by
              obtain ⟨s2, e2, r2, fr2⟩ := f3 s' hr'
              refine ⟨ag_up s2 6 0 0 3, ?_, ag_up_eq, r2.u6, fr2.up (by decide)⟩
              show f_X6_grant fu (nI l) (nI r) y x4 z s' = _
              rw [e2, if_neg q, grant_thr (by decide)]
            by_cases hN : ng < 40
            · by_cases hfr : y ≤ freeA A na ng l
              · by_cases hp : x4 = -1 ∨ A 3 5 x4.toNatClampNeg = 1
                · obtain ⟨s0, e0, n1, s1, e1, hC, fc⟩ := gx_add (fu := fu) (l := nI l) (r := nI r) (y := y) (c := x4) (u := A 5 7 0 + z) h hN
                  have hc' : x4 = -1 ∨ ∃ a, a < na ∧ x4 = nI a ∧ A 3 5 a = 1 := by
                    rcases hc with hc | ⟨a, ha, hc⟩
                    · exact .inl hc
                    · refine .inr ⟨a, ha, hc, ?_⟩
                      rw [hc, nI_clamp (p31 (by omega))] at hp
                      exact hp.resolve_left (nI_neg1 (by omega)).1
                  have e57 : ag_s0 s 4 (nI ng) 5 7 0 = A 5 7 0 := by
                    unfold ag_s0
                    rw [if_neg (fun q => absurd q.1 (by decide)), h.c5 7 (by decide)]
                  have b90 : f_X5_grant_b90 fu y z (nI l) (nI r) x4 (nI ng) n s = some (.inl (nI ng), (n1, s1)) := by
                    simp only [f_X5_grant_b90, h.n4, eq_false (show ¬ 1000 ≤ ng by omega), if_false, e57, e0, bd_some, e1]
                  refine op_ok2 (A' := gxA A ng (nI l) (nI r) y x4 (A 5 7 0 + z)) (s1 := s1) (w := nI ng) (nl' := nl) (na' := na) (ng' := ng + 1) hr ?_ hC fc (gxA_In hI ht hN hl hr8 (b50 hy) hc' hfr) fun s' hr' => ?_
                  · rw [hCl]
                    simp only [f_X5_grant_b30, f_X5_needFree, nr_ok hy, nr_ok hz, bt_inl, h.l4.size4, bd_some, e40.2, hN, if_true, free_C h hI.br hf hl, hfr]
                    rcases hc' with hc' | ⟨a, ha, hc', h1⟩
                    · rw [if_pos hc', b90]
                      simp only [bc_inl, z00, if_false]
                    · simp only [hc', neN (show a ≤ 1000 by omega), if_false, f_X5_needPassed, h.q3 ha 5 (by decide), h1, if_true, bt_inl]
                      rw [← hc', b90]
                      simp only [bc_inl, z00, if_false]
                  · obtain ⟨s2, e2, r2, fr2⟩ := f3 s' hr'
                    obtain ⟨s3, e3, z3, r3, fr3⟩ := grant_done (fu := fu) (l := l) (r := r) (y := y) (c := x4) (z := z) r2 (hI.zs.zg ng (Nat.le_refl _) hN) hN
                    refine ⟨s3, ?_, z3, r3, fr2.trans fr3⟩
                    show f_X6_grant fu (nI l) (nI r) y x4 z s' = _
                    rw [e2, if_pos ⟨hN, hfr, hp⟩, e3]
                · refine op_no2 (c := 3) h hr (hI.mono ht) (by decide) ?_ (no fun q => hp q.2.2)
                  rw [hCl]
                  simp only [f_X5_grant_b30, f_X5_needFree, nr_ok hy, nr_ok hz, bt_inl, h.l4.size4, bd_some, e40.2, hN, if_true, free_C h hI.br hf hl, hfr]
                  rcases hc with hc | ⟨a, ha, hc⟩
                  · exact absurd (.inl hc) hp
                  · have : ¬ A 3 5 a = 1 := fun e => hp (.inr (by rw [hc, nI_clamp (p31 (by omega))]; exact e))
                    simp only [hc, neN (show a ≤ 1000 by omega), if_false, f_X5_needPassed, h.q3 ha 5 (by decide), this, bt_inr, bc_inr, i31, i32, if_true]
              · refine op_no2 (c := 3) h hr (hI.mono ht) (by decide) ?_ (no fun q => hfr q.2.1)
                rw [hCl]
                simp only [f_X5_grant_b30, f_X5_needFree, nr_ok hy, nr_ok hz, bt_inl, h.l4.size4, bd_some, e40.2, hN, if_true, free_C h hI.br hf hl, hfr, if_false, bt_inr, bc_inr, i31, i32]
            · refine op_no2 (c := 3) h hr (hI.mono ht) (by decide) ?_ (no fun q => hN q.1)
              rw [hCl]
              simp only [f_X5_grant_b30, nr_ok hy, nr_ok hz, bt_inl, h.l4.size4, bd_some, e40.2, hN, if_false, bc_inr, i31, i32, if_true]
          · refine op_no2 (c := 2) h hr (hI.mono ht) (by decide) ?_ fun s' hr' => ?_
            · rw [hCl]
              simp only [f_X5_grant_b30, nr_ok hy, nr_no hz, bt_inl, bt_inr, bc_inr, i21, if_false, if_true]
            · obtain ⟨s2, e2, r2⟩ := f2 0 rfl s' hr'
              refine ⟨s2, ?_, r2⟩
              show f_X6_grant fu (nI l) (nI r) y x4 z s' = _
              rw [hRf s' hr']
              simp only [f_X6_grant_b38, f_X6_grant_b65, in_ok hy, in_no hz, bd_some, i10, if_false, if_true, e2]
        · refine op_no2 (c := 2) h hr (hI.mono ht) (by decide) ?_ fun s' hr' => ?_
          · rw [hCl]
            simp only [f_X5_grant_b30, nr_no hy, bt_inr, bc_inr, i21, if_false, if_true]
          · obtain ⟨s2, e2, r2⟩ := f2 0 rfl s' hr'
            refine ⟨s2, ?_, r2⟩
            show f_X6_grant fu (nI l) (nI r) y x4 z s' = _
            rw [hRf s' hr']
            simp only [f_X6_grant_b38, f_X6_grant_b65, in_no hy, bd_some, if_true, e2]
      by_cases c4 : x4 = -1
      · refine core (.inl c4) (fun s' hr' => ?_) ?_
        · simp only [f_X6_grant, isLine_ok hr' hl (by omega), in_ok (rng8 hr8), bd_some, i10, if_false, if_pos c4, f_X6_grant_b33]
        · simp only [f_L_grant, f_X5_grant, lineAt_ok h hl, receiverAt_ok h hr8, bt_inl, if_pos c4]
          rw [c4]
      · rcases idx x4 na (by omega) with ⟨a, ha, rfl⟩ | ⟨nr, nx⟩
        · refine core (.inr ⟨a, ha, rfl⟩) (fun s' hr' => ?_) ?_
          · simp only [f_X6_grant, isLine_ok hr' hl (by omega), in_ok (rng8 hr8), bd_some, i10, if_false, if_neg c4, isAmendment_ok hr' ha (by omega), f_X6_grant_b33]
          · simp only [f_L_grant, f_X5_grant, lineAt_ok h hl, receiverAt_ok h hr8, bt_inl, if_neg c4, amendmentAt_ok h ha]
        · refine op_no2 (c := 1) h hr (hI.mono ht) (by decide) ?_ (rf_no fun s' hr' => ?_)
          · simp only [f_L_grant, f_X5_grant, lineAt_ok h hl, receiverAt_ok h hr8, bt_inl, if_neg c4, amendmentAt_no h nx, bt_inr, bc_inr, if_true]
          · simp only [f_X6_grant, isLine_ok hr' hl (by omega), in_ok (rng8 hr8), bd_some, i10, if_false, if_neg c4, isAmendment_no hr' nr, if_true, bad s' hr']
    · refine op_no2 (c := 1) h hr (hI.mono ht) (by decide) ?_ (rf_no fun s' hr' => ?_)
      · simp only [f_L_grant, f_X5_grant, lineAt_ok h hl, receiverAt_no h nx, bt_inl, bt_inr, bc_inr, if_true]
      · simp only [f_X6_grant, isLine_ok hr' hl (by omega), in_no nr, bd_some, i10, if_false, if_true, bad s' hr']
  · refine op_no2 (c := 1) h hr (hI.mono ht) (by decide) ?_ (rf_no fun s' hr' => ?_)
    · simp only [f_L_grant, f_X5_grant, lineAt_no h nx, bt_inr, bc_inr, if_true]
    · simp only [f_X6_grant, isLine_no hr' nr, bd_some, if_true, bad s' hr']
