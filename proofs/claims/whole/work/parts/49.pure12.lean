/-! ===== spend ===== -/
theorem op_spend {A : TT} {nl na ng t fu : Nat} {n : ag_N} {s : ag_S} {x y : Int32} (h : ClS A nl na ng n s) (hr : RfS A nl na ng s) (hI : In A nl na ng t) (ht : t + 1 ≤ 520) (hf : 60 < fu) : Op1 (t + 1) n (f_L_spend fu x y s) (fun s => f_X6_spend fu x y s) := by
  have hng := hI.wf.hng
  have hnl := hI.wf.hnl
  rcases idx x nl (by omega) with ⟨l, hl, rfl⟩ | ⟨nr, nx⟩
  · obtain ⟨i, hi, ei⟩ := hI.wf.src l hl
    have hin := hI.nm.inc i hi
    have htt := hI.nm.tt
    have l10 := inn (show l < 10 by omega) (by omega)
    have hfc := free_C h hI.br hf hl
    by_cases hy : rng y 1 50000
    · have hb := b50 hy
      have k2 : A 0 1 i < A 0 2 i + y ↔ ¬ y ≤ A 0 1 i - A 0 2 i := le_sub32 hin.1 hin.2.1 (by omega) hb.2 (by omega)
      by_cases c1 : y ≤ freeA A na ng l
      · have c1' : (freeA A na ng l < y) = False := eq_false (i32_lt.mpr c1)
        by_cases c2 : y ≤ A 0 1 i - A 0 2 i
        · have c2' : (A 0 1 i < A 0 2 i + y) = False := eq_false fun q => (k2.mp q) c2
          obtain ⟨w1, w2, w3, w4, w5, w6, w7⟩ := hI
          have hsp := w6.spent l hl
          have e1 : (A 0 2 i + y).toInt = (A 0 2 i).toInt + y.toInt := add_toInt (by omega) (by omega)
          have e2 : (A 2 4 l + y).toInt = (A 2 4 l).toInt + y.toInt := add_toInt (by omega) (by omega)
          obtain ⟨B, hB⟩ : ∃ B, B = tU (tU A 0 2 i (A 0 2 i + y)) 2 4 l (A 2 4 l + y) := ⟨_, rfl⟩
          have hC : ClS B nl na ng n (ag_up (ag_up s 0 2 (nI i) (A 0 2 i + y)) 2 4 (nI l) (A 2 4 l + y)) := hB ▸ (h.w (by decide) (by omega)).w (by decide) (by omega)
          have ev : ∀ {P : Nat → Nat → Prop}, ¬ P 0 2 → ¬ P 2 4 → agr P A B := fun a b => hB ▸ (agr.rfl.u a).u b
          have b : ∀ l', baseA B l' = baseA A l' := fun l' => by simp [baseA, hB, tU]
          have a24 : ∀ j, B 2 4 j = if j = l then A 2 4 l + y else A 2 4 j := fun j => by simp [hB, tU]
          have a02 : ∀ j, B 0 2 j = if j = i then A 0 2 i + y else A 0 2 j := fun j => by simp [hB, tU]
          have a01 : ∀ j, B 0 1 j = A 0 1 j := fun j => by simp [hB, tU]
          have a3 : ∀ f j, B 3 f j = A 3 f j := fun f j => by simp [hB, tU]
          have a4 : ∀ f j, B 4 f j = A 4 f j := fun f j => by simp [hB, tU]
          have a5 : ∀ f j, B 5 f j = A 5 f j := fun f j => by simp [hB, tU]
          have v1 : Wf B nl na ng := w1.congr (ev (by decide) (by decide))
          have v2 : Br B nl na := w2.congr (ev (by decide) (by decide))
          have v6 : Nm B nl na ng (t + 1) := by
            rw [Int32.le_iff_toInt_le, sub_toInt (by omega) (by omega)] at c2
            obtain ⟨m1, m2, m3, m4, m5, m6, m7, m8⟩ := w6.mono ht
            refine ⟨m1, fun j hj => ?_, fun j hl => ?_, fun j hj => ?_, fun a ha => ?_, fun l hl => ?_, ?_, ?_⟩
            · have := m2 j hj
              rw [a02, a01]
              by_cases q : j = i
              · subst q; rw [if_pos rfl]; omega
              · rw [if_neg q]; exact this
            · rw [a24]
              have := m3 j hl
              by_cases q : j = l
              · rw [if_pos q]; push_cast at *; omega
              · rw [if_neg q]; exact this
            · rw [a4, a4]; exact m4 j hj
            · rw [a3]; exact m5 a ha
            · rw [b]; exact m6 l hl
            · simp only [b, a5]; exact m7
            · rw [a5]; exact m8
          have v7 : Fr B nl na ng := fun l' hl' => by
            obtain ⟨f1, f2, f3, -⟩ := free_Z w1 w2 w6 hl'
            obtain ⟨f1', f2', f3', -⟩ := free_Z v1 v2 v6 hl'
            have hfr := w7 l' hl'
            have hroot : isum (rootA B l') na = isum (rootA A l') na := isum_congr fun a _ => by simp only [rootA, a3]
            have hbz : zsum (fun j => (bindA B l' j).toInt) ng = zsum (fun j => (bindA A l' j).toInt) ng := zsum_congr fun j _ => by simp only [bindA, a4]
            rw [b, hroot] at f1'
            rw [a24, hbz] at f2'
            rw [Int32.le_iff_toInt_le] at c1
            by_cases q : l' = l
            · subst q
              rw [if_pos rfl] at f2'
              omega
            · rw [if_neg q] at f2'
              omega
          refine op_ok (A' := B) (s1 := ag_up (ag_up s 0 2 (nI i) (A 0 2 i + y)) 2 4 (nI l) (A 2 4 l + y)) (w := freeA B na ng l) (nl' := nl) (na' := na) (ng' := ng) hr ?_ hC (((frC.refl s).up (by decide)).up (by decide)) ⟨v1, v2, hB ▸ (w3.u (by omega)).u (by omega), w4.congr (ev (by decide) (by decide)), w5.congr (ev (by decide) (by decide)), v6, v7⟩ fun s' hr' => ?_
          · simp only [f_L_spend, f_X5_spend, f_X5_needFree, lineAt_ok h hl, bt_inl, nr_ok hy, hfc, bd_some, c1, if_true, h.q2 hl 1 (by decide), ei, neN (show i ≤ 1000 by omega), if_false, payFrom_ok h hi c2, upk (show ¬ 2 = 0 by decide), h.q2 hl 4 (by decide), free_C hC v2 hf hl, bc_inl, z00]
          · obtain ⟨sa, ea, fa⟩ := free_R (fu := fu) hr' w1 w2 (by omega) (show l < 10 by omega)
            have ra := hr'.u59 fa
            have u := ra.u6 (v := 0)
            have uB : RfS B nl na ng (ag_up (ag_up (ag_up sa 6 0 0 0) 42 0 (nI l) (A 2 4 l + y)) 35 0 (nI i) (A 0 2 i + y)) := by
              rw [hB, tU_comm (fun e => absurd e.1 (by decide))]
              exact (u.w42 (by omega)).w35 (by omega)
            obtain ⟨sb, eb, fb⟩ := free_R (fu := fu) uB v1 v2 (by omega) (show l < 10 by omega)
            simp only [f_X6_spend, isLine_ok hr' hl (by omega), in_ok hy, bd_some, i10, if_false, ea, c1', canPay_R ra (show l < 10 by omega) hi ei, c2', f_X6_spend_b47, f_X6_spend_b77, gw0, l10, u.r42 l (by omega), upk (show ¬ 38 = 42 by decide), u.r38 l (by omega), ei, inn hi (by omega), upk (show ¬ 35 = 42 by decide), u.r35 i (by omega), eb]
            refine ⟨_, rfl, ?_, uB.u59 fb, ((((fr59 fa).up (by decide)).up (by decide)).up (by decide)).trans (fr59 fb)⟩
            rw [fb _ _ _ (by decide), upk (by decide), upk (by decide), ag_up_eq]
        · have c2' : (A 0 1 i < A 0 2 i + y) = True := eq_true (k2.mpr c2)
          refine op_no (c := 3) h hr (hI.mono ht) (by decide) ?_ fun s' hr' => ?_
          · simp only [f_L_spend, f_X5_spend, f_X5_needFree, lineAt_ok h hl, bt_inl, bt_inr, nr_ok hy, hfc, bd_some, c1, if_true, h.q2 hl 1 (by decide), ei, neN (show i ≤ 1000 by omega), if_false, payFrom_no h hi c2, bc_inr, id, i31, i32]
          · obtain ⟨sa, ea, fa⟩ := free_R (fu := fu) hr' hI.wf hI.br (by omega) (show l < 10 by omega)
            have ra := hr'.u59 fa
            simp only [f_X6_spend, isLine_ok hr' hl (by omega), in_ok hy, bd_some, i10, if_false, ea, c1', canPay_R ra (show l < 10 by omega) hi ei, c2', if_true, f_X6_spend_b46, f_X6_spend_b47, f_X6_spend_b77, gwn (show ¬ (3 : Int32) = 0 by decide)]
            exact ⟨_, rfl, ag_up_eq, ra.u6, (fr59 fa).up (by decide)⟩
      · have c1' : (freeA A na ng l < y) = True := eq_true (i32_le.mp c1)
        refine op_no (c := 3) h hr (hI.mono ht) (by decide) ?_ fun s' hr' => ?_
        · simp only [f_L_spend, f_X5_spend, f_X5_needFree, lineAt_ok h hl, bt_inl, bt_inr, nr_ok hy, hfc, bd_some, c1, if_true, if_false, bc_inr, id, i31, i32]
        · obtain ⟨sa, ea, fa⟩ := free_R (fu := fu) hr' hI.wf hI.br (by omega) (show l < 10 by omega)
          have ra := hr'.u59 fa
          simp only [f_X6_spend, isLine_ok hr' hl (by omega), in_ok hy, bd_some, i10, if_false, ea, c1', if_true, f_X6_spend_b46, f_X6_spend_b47, f_X6_spend_b77, gwn (show ¬ (3 : Int32) = 0 by decide)]
          exact ⟨_, rfl, ag_up_eq, ra.u6, (fr59 fa).up (by decide)⟩
    · refine op_no (c := 2) h hr (hI.mono ht) (by decide) ?_ (rf_no fun s' hr' => ?_)
      · simp only [f_L_spend, f_X5_spend, lineAt_ok h hl, bt_inl, nr_no hy, bt_inr, bc_inr, id, i21, if_false, if_true]
      · simp only [f_X6_spend, isLine_ok hr' hl (by omega), in_no hy, bd_some, i10, if_false, f_X6_spend_b46, f_X6_spend_b47, f_X6_spend_b77, gwn (show ¬ (2 : Int32) = 0 by decide), if_true]
  · refine op_no (c := 1) h hr (hI.mono ht) (by decide) ?_ (rf_no fun s' hr' => ?_)
    · simp only [f_L_spend, f_X5_spend, lineAt_no h nx, bt_inr, bc_inr, id, if_true]
    · by_cases hy : rng y 1 50000
      · simp only [f_X6_spend, isLine_no hr' nr, in_ok hy, bd_some, if_true, f_X6_spend_b46, f_X6_spend_b47, f_X6_spend_b77, gwn (show ¬ (1 : Int32) = 0 by decide)]
      · simp only [f_X6_spend, isLine_no hr' nr, in_no hy, bd_some, if_true, f_X6_spend_b46, f_X6_spend_b47, f_X6_spend_b77, gwn (show ¬ (1 : Int32) = 0 by decide)]
