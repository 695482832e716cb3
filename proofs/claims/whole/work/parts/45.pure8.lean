/-! ===== plain operations ===== -/
theorem tU_comm {A : TT} {k f i k' f' i' : Nat} {v v' : Int32} (h : ¬ (k = k' ∧ f = f' ∧ i = i')) : tU (tU A k f i v) k' f' i' v' = tU (tU A k' f' i' v') k f i v := by
  funext a b c
  simp only [tU]
  by_cases e1 : a = k ∧ b = f ∧ c = i
  · by_cases e2 : a = k' ∧ b = f' ∧ c = i'
    · exact absurd ⟨e1.1.symm.trans e2.1, e1.2.1.symm.trans e2.2.1, e1.2.2.symm.trans e2.2.2⟩ h
    · rw [if_neg e2, if_pos e1, if_pos e1]
  · by_cases e2 : a = k' ∧ b = f' ∧ c = i'
    · rw [if_pos e2, if_neg e1, if_pos e2]
    · rw [if_neg e2, if_neg e1, if_neg e1, if_neg e2]
theorem neN {w : Nat} (h : w ≤ 1000) : (nI w = -1) = False := eq_false (nI_neg1 h).1
abbrev Nv (k f : Nat) : Prop := (k = 0 ∧ f = 1) ∨ (k = 0 ∧ f = 2) ∨ (k = 2 ∧ f = 2) ∨ (k = 2 ∧ f = 4) ∨ (k = 2 ∧ f = 5) ∨ (k = 2 ∧ f = 6) ∨ (k = 3 ∧ f = 3) ∨ (k = 4 ∧ f = 4) ∨ (k = 4 ∧ f = 5) ∨ (k = 5 ∧ f = 5) ∨ (k = 5 ∧ f = 6)
theorem Nm.congr {A A' : TT} {nl na ng t : Nat} (h : Nm A nl na ng t) (e : agr Nv A A') : Nm A' nl na ng t := by
  obtain ⟨h1, h2, h3, h4, h5, h6, h7, h8⟩ := h
  have b : ∀ l, baseA A' l = baseA A l := fun l => base_congr (e _ _ _ (by decide)) (e _ _ _ (by decide)) (e _ _ _ (by decide))
  refine ⟨h1, fun i hi => ?_, fun i hi => ?_, fun i hi => ?_, fun i hi => ?_, fun i hi => ?_, ?_, ?_⟩
  · rw [e 0 2 _ (by decide), e 0 1 _ (by decide)]; exact h2 i hi
  · rw [e _ _ _ (by decide)]; exact h3 i hi
  · rw [e 4 5 _ (by decide), e 4 4 _ (by decide)]; exact h4 i hi
  · rw [e _ _ _ (by decide)]; exact h5 i hi
  · rw [b]; exact h6 i hi
  · simp only [b, e 5 5 _ (by decide)]; exact h7
  · rw [e _ _ _ (by decide)]; exact h8
theorem Nm.sums {A : TT} {nl na ng t : Nat} (h : Nm A nl na ng t) (hl : nl ≤ 10) : -20000000 ≤ zsum (fun l => (baseA A l).toInt) nl ∧ zsum (fun l => (baseA A l).toInt) nl ≤ 600000000 := by
  have := zsum_bd (g := fun l => (baseA A l).toInt) (n := nl) h.base
  omega
theorem Nm.resB {A : TT} {nl na ng t : Nat} (h : Nm A nl na ng t) (hl : nl ≤ 10) : -600000000 ≤ (A 5 5 0).toInt ∧ (A 5 5 0).toInt ≤ 72000000 := by
  have h1 := h.sums hl
  have h2 := h.tt
  obtain ⟨R, r1, r2, r3⟩ := h.res
  omega
/-- what a query needs -/
theorem op_q {A : TT} {nl na ng t : Nat} {n : ag_N} {s : ag_S} {w : Int32} {fL : Option (Int32 × ag_S)} {fR : ag_S → Option (Int32 × ag_S)} (h : ClS A nl na ng n s) (hr : RfS A nl na ng s) (hI : In A nl na ng t) (hc : fL = some (0, ag_up s 8 0 0 w)) (hR : ∀ s', RfS A nl na ng s' → ∃ s2, fR s' = some (w, s2) ∧ ∀ k f i, k ≠ 59 → s2 k f i = ag_up s' 6 0 0 0 k f i) : Op1 t n fL fR := by
  refine op_ok hr hc h (frC.refl s) hI fun s' hr' => ?_
  obtain ⟨s2, e1, e2⟩ := hR s' hr'
  exact ⟨s2, e1, (e2 6 0 0 (by decide)).trans ag_up_eq, hr'.u6.u59 e2, ((frR.refl s').up (by decide)).trans (fr59 e2)⟩
theorem op_target {A : TT} {nl na ng t fu : Nat} {n : ag_N} {s : ag_S} {x : Int32} (h : ClS A nl na ng n s) (hr : RfS A nl na ng s) (hI : In A nl na ng t) (ht : t + 1 ≤ 520) : Op1 (t + 1) n (f_L_target fu x s) (fun s => f_X6_target fu x s) := by
  by_cases hx : rng x 0 50
  · refine op_ok (A' := tU A 5 6 0 x) (s1 := ag_up s 5 6 0 x) (w := A 5 6 0) (nl' := nl) (na' := na) (ng' := ng) hr ?_ h.w5 ((frC.refl s).up (by decide)) ?_ fun s' hr' => ?_
    · simp only [f_L_target, f_X5_target, bt_inl, nr_ok hx, h.q5 6 (by decide), bc_inl, z00, if_false]
    · obtain ⟨i1, i2, i3, i4, i5, i6, i7⟩ := hI
      have hb := bpct hx
      refine ⟨i1.congr (agr.rfl.u (by decide)), i2.congr (agr.rfl.u (by decide)), i3.u (by omega), i4.congr (agr.rfl.u (by decide)), i5.congr (agr.rfl.u (by decide)), ?_, i7.congr (agr.rfl.u (by decide))⟩
      obtain ⟨m1, m2, m3, m4, m5, m6, m7, m8⟩ := i6.mono ht
      have b : ∀ l, baseA (tU A 5 6 0 x) l = baseA A l := fun l => base_congr (tuk (by decide)) (tuk (by decide)) (tuk (by decide))
      refine ⟨m1, fun j hj => ?_, fun l hl => ?_, fun g hg => ?_, fun a ha => ?_, fun l hl => ?_, ?_, ?_⟩
      · rw [tuk (by decide), tuk (by decide)]; exact m2 j hj
      · rw [tuk (by decide)]; exact m3 l hl
      · rw [tuk (by decide), tuk (by decide)]; exact m4 g hg
      · rw [tuk (by decide)]; exact m5 a ha
      · rw [b]; exact m6 l hl
      · simp only [b, tuf (show ¬ 5 = 6 by decide)]; exact m7
      · rw [tU_eq]; exact hb
    · simp only [f_X6_target, in_ok hx, bd_some, i10, if_false, gw0, hr'.u6.z3]
      exact ⟨_, rfl, by rw [upf (by decide), ag_up_eq], hr'.u6.w6_3, ((frR.refl _).up (by decide)).up (by decide)⟩
  · refine op_no (c := 1) h hr (hI.mono ht) (by decide) ?_ (rf_no fun s' hr' => ?_)
    · simp only [f_L_target, f_X5_target, nr_no hx, bt_inr, bc_inr, id, if_true]
    · simp only [f_X6_target, in_no hx, bd_some, if_true, gwn (show ¬ (1 : Int32) = 0 by decide)]
theorem op_repay {A : TT} {nl na ng t fu : Nat} {n : ag_N} {s : ag_S} {x y : Int32} (h : ClS A nl na ng n s) (hr : RfS A nl na ng s) (hI : In A nl na ng t) (ht : t + 1 ≤ 520) : Op1 (t + 1) n (f_L_repay fu x y s) (fun s => f_X6_repay fu x y s) := by
  rcases idx8 x with ⟨i, hi, rfl⟩ | ⟨nr, nx⟩
  · by_cases hy : rng y 1 50000
    · by_cases hd : y ≤ A 1 1 i
      · refine op_ok (A' := tU (tU A 1 1 i (A 1 1 i - y)) 5 5 0 (A 5 5 0 + y)) (s1 := ag_up (ag_up s 1 1 (nI i) (A 1 1 i - y)) 5 5 0 (A 5 5 0 + y)) (w := A 1 1 i - y) (nl' := nl) (na' := na) (ng' := ng) hr ?_ (h.w (by decide) (by omega)).w5 (((frC.refl s).up (by decide)).up (by decide)) ?_ fun s' hr' => ?_
        · simp only [f_L_repay, f_X5_repay, receiverAt_ok h hi, bt_inl, nr_ok hy, h.q1 hi 1 (by decide), if_pos hd, upk (show ¬ 5 = 1 by decide), upk (show ¬ 1 = 5 by decide), h.q5 5 (by decide), ag_up_eq, bc_inl, z00, if_false]
        · obtain ⟨i1, i2, i3, i4, i5, i6, i7⟩ := hI
          have hb := b50 hy
          refine ⟨i1.congr ((agr.rfl.u (by decide)).u (by decide)), i2.congr ((agr.rfl.u (by decide)).u (by decide)), (i3.u (by omega)).u (by omega), i4.congr ((agr.rfl.u (by decide)).u (by decide)), i5.congr ((agr.rfl.u (by decide)).u (by decide)), ?_, i7.congr ((agr.rfl.u (by decide)).u (by decide))⟩
          have b : ∀ l, baseA (tU (tU A 1 1 i (A 1 1 i - y)) 5 5 0 (A 5 5 0 + y)) l = baseA A l := fun l => base_congr ((tuk (by decide)).trans (tuk (by decide))) ((tuk (by decide)).trans (tuk (by decide))) ((tuk (by decide)).trans (tuk (by decide)))
          have hB := i6.resB i1.hnl
          obtain ⟨R, q1, q2, q3⟩ := i6.res
          obtain ⟨m1, m2, m3, m4, m5, m6, m7, m8⟩ := i6.mono ht
          refine ⟨m1, fun j hj => ?_, fun l hl => ?_, fun g hg => ?_, fun a ha => ?_, fun l hl => ?_, ⟨R + y.toInt, by omega, by push_cast; omega, ?_⟩, ?_⟩
          · rw [tuk (by decide), tuk (by decide), tuk (by decide), tuk (by decide)]; exact m2 j hj
          · rw [tuk (by decide), tuk (by decide)]; exact m3 l hl
          · rw [tuk (by decide), tuk (by decide), tuk (by decide), tuk (by decide)]; exact m4 g hg
          · rw [tuk (by decide), tuk (by decide)]; exact m5 a ha
          · rw [b]; exact m6 l hl
          · simp only [b]
            rw [tU_eq, add_toInt (by omega) (by omega), q3]
            omega
          · rw [tuf (by decide), tuk (by decide)]; exact m8
        · have e := hr'.r36 i (by omega)
          have e' := hr'.u6 (v := 0) |>.r36 i (by omega)
          simp only [f_X6_repay, in_ok (rng8 hi), in_ok hy, bd_some, i10, if_false, inn hi (by omega), e, if_pos hd, f_X6_repay_b50, gw0, e', upk (show ¬ 6 = 36 by decide), upk (show ¬ 36 = 6 by decide), hr'.u6.z2, ag_up_eq]
          exact ⟨_, rfl, by rw [upf (by decide), upk (by decide), ag_up_eq], (hr'.u6.w36 (by omega)).w6_2, (((frR.refl _).up (by decide)).up (by decide)).up (by decide)⟩
      · refine op_no (c := 3) h hr (hI.mono ht) (by decide) ?_ (rf_no fun s' hr' => ?_)
        · simp only [f_L_repay, f_X5_repay, receiverAt_ok h hi, bt_inl, nr_ok hy, h.q1 hi 1 (by decide), if_neg hd, bc_inr, i31, i32, if_false, if_true]
        · have e := hr'.r36 i (by omega)
          simp only [f_X6_repay, in_ok (rng8 hi), in_ok hy, bd_some, i10, if_false, inn hi (by omega), e, if_neg hd, f_X6_repay_b50, gwn (show ¬ (3 : Int32) = 0 by decide), if_true]
    · refine op_no (c := 2) h hr (hI.mono ht) (by decide) ?_ (rf_no fun s' hr' => ?_)
      · simp only [f_L_repay, f_X5_repay, receiverAt_ok h hi, bt_inl, nr_no hy, bt_inr, bc_inr, id, i21, if_false, if_true]
      · simp only [f_X6_repay, in_ok (rng8 hi), in_no hy, bd_some, i10, if_false, f_X6_repay_b50, gwn (show ¬ (2 : Int32) = 0 by decide), if_true]
  · refine op_no (c := 1) h hr (hI.mono ht) (by decide) ?_ (rf_no fun s' hr' => ?_)
    · simp only [f_L_repay, f_X5_repay, receiverAt_no h nx, bt_inr, bc_inr, id, if_true]
    · by_cases hy : rng y 1 50000
      · simp only [f_X6_repay, in_no nr, in_ok hy, bd_some, if_true, f_X6_repay_b50, gwn (show ¬ (1 : Int32) = 0 by decide)]
      · simp only [f_X6_repay, in_no nr, in_no hy, bd_some, if_true, f_X6_repay_b50, gwn (show ¬ (1 : Int32) = 0 by decide)]
theorem op_report {A : TT} {nl na ng t fu : Nat} {n : ag_N} {s : ag_S} {x : Int32} (h : ClS A nl na ng n s) (hr : RfS A nl na ng s) (hI : In A nl na ng t) (ht : t + 1 ≤ 520) : Op1 (t + 1) n (f_L_report fu x s) (fun s => f_X6_report fu x s) := by
  have hng := hI.wf.hng
  rcases idx x ng (by omega) with ⟨g, hg, rfl⟩ | ⟨nr, nx⟩
  · by_cases hw : A 4 6 g = 2
    · refine op_no (c := 2) h hr (hI.mono ht) (by decide) ?_ (rf_no fun s' hr' => ?_)
      · simp only [f_L_report, f_X5_report, f_X5_needNotWithdrawn, grantAt_ok h hg, bt_inl, bt_inr, h.q4 hg 6 (by decide), h.q4 hg 7 (by decide), if_pos hw, bc_inr, id, i31, if_false, if_true]
      · simp only [f_X6_report, isGrant_ok hr' hg (by omega), bd_some, i10, if_false, inn (show g < 40 by omega) (by omega), hr'.r57 g (by omega), if_pos hw, f_X6_report_b30, gwn (show ¬ (2 : Int32) = 0 by decide), if_true]
    · have hv : ∀ {P : Nat → Nat → Prop}, ¬ P 4 7 → agr P A (tU A 4 7 g 1) := fun q => agr.rfl.u q
      refine op_ok (A' := tU A 4 7 g 1) (s1 := ag_up s 4 7 (nI g) 1) (w := if A 4 7 g = 0 then 1 else 0) (nl' := nl) (na' := na) (ng' := ng) hr ?_ (h.w (by decide) (by omega)) ((frC.refl s).up (by decide)) ?_ fun s' hr' => ?_
      · by_cases c : A 4 7 g = 0
        · simp only [f_L_report, f_X5_report, f_X5_needNotWithdrawn, grantAt_ok h hg, bt_inl, h.q4 hg 6 (by decide), h.q4 hg 7 (by decide), if_neg hw, if_pos c, bc_inl, z00, i10, if_false, if_true]
        · simp only [f_L_report, f_X5_report, f_X5_needNotWithdrawn, grantAt_ok h hg, bt_inl, h.q4 hg 6 (by decide), h.q4 hg 7 (by decide), if_neg hw, if_neg c, bc_inl, z00, if_false, if_true]
      · obtain ⟨i1, i2, i3, i4, i5, i6, i7⟩ := hI
        exact ⟨i1.congr (hv (by decide)), i2.congr (hv (by decide)), i3.u (by omega), i4.congr (hv (by decide)), i5.congr (hv (by decide)), (i6.mono ht).congr (hv (by decide)), i7.congr (hv (by decide))⟩
      · have e := hr'.u6 (v := 0) |>.r58 g (by omega)
        by_cases c : A 4 7 g = 0
        · simp only [f_X6_report, isGrant_ok hr' hg (by omega), bd_some, i10, if_false, inn (show g < 40 by omega) (by omega), hr'.r57 g (by omega), if_neg hw, f_X6_report_b30, gw0, e, if_pos c]
          exact ⟨_, rfl, by rw [upk (by decide), ag_up_eq], hr'.u6.w58 (by omega), ((frR.refl _).up (by decide)).up (by decide)⟩
        · simp only [f_X6_report, isGrant_ok hr' hg (by omega), bd_some, i10, if_false, inn (show g < 40 by omega) (by omega), hr'.r57 g (by omega), if_neg hw, f_X6_report_b30, gw0, e, if_neg c]
          exact ⟨_, rfl, by rw [upk (by decide), ag_up_eq], hr'.u6.w58 (by omega), ((frR.refl _).up (by decide)).up (by decide)⟩
  · refine op_no (c := 1) h hr (hI.mono ht) (by decide) ?_ (rf_no fun s' hr' => ?_)
    · simp only [f_L_report, f_X5_report, grantAt_no h nx, bt_inr, bc_inr, id, if_true]
    · simp only [f_X6_report, isGrant_no hr' nr, bd_some, if_true, f_X6_report_b30, gwn (show ¬ (1 : Int32) = 0 by decide)]
theorem op_owes {A : TT} {nl na ng t fu : Nat} {n : ag_N} {s : ag_S} {x : Int32} (h : ClS A nl na ng n s) (hr : RfS A nl na ng s) (hI : In A nl na ng t) (ht : t + 1 ≤ 520) : Op1 (t + 1) n (f_L_owes fu x s) (fun s => f_X6_owes fu x s) := by
  rcases idx8 x with ⟨i, hi, rfl⟩ | ⟨nr, nx⟩
  · refine op_q (w := A 1 1 i) h hr (hI.mono ht) ?_ fun s' hr' => ?_
    · simp only [f_L_owes, f_X5_owes, receiverAt_ok h hi, bt_inl, h.q1 hi 1 (by decide), bc_inl, z00, if_false]
    · have e := hr'.u6 (v := 0) |>.r36 i (by omega)
      simp only [f_X6_owes, in_ok (rng8 hi), bd_some, i10, if_false, inn hi (by omega), gw0, e]
      exact ⟨_, rfl, fun _ _ _ _ => rfl⟩
  · refine op_no (c := 1) h hr (hI.mono ht) (by decide) ?_ (rf_no fun s' hr' => ?_)
    · simp only [f_L_owes, f_X5_owes, receiverAt_no h nx, bt_inr, bc_inr, id, if_true]
    · simp only [f_X6_owes, in_no nr, bd_some, if_true, gwn (show ¬ (1 : Int32) = 0 by decide)]
theorem en8 {y : Int32} (h : rng y 0 7) : y = 0 ∨ y = 1 ∨ y = 2 ∨ y = 3 ∨ y = 4 ∨ y = 5 ∨ y = 6 ∨ y = 7 := by
  rcases idx8 y with ⟨i, hi, rfl⟩ | ⟨nr, -⟩
  · have : i = 0 ∨ i = 1 ∨ i = 2 ∨ i = 3 ∨ i = 4 ∨ i = 5 ∨ i = 6 ∨ i = 7 := by omega
    rcases this with rfl | rfl | rfl | rfl | rfl | rfl | rfl | rfl <;> decide
  · exact absurd h nr
theorem no8 {y : Int32} (h : ¬ rng y 0 7) : (y = 0) = False ∧ (y = 1) = False ∧ (y = 2) = False ∧ (y = 3) = False ∧ (y = 4) = False ∧ (y = 5) = False ∧ (y = 6) = False ∧ (y = 7) = False := by
  refine ⟨?_, ?_, ?_, ?_, ?_, ?_, ?_, ?_⟩ <;> exact eq_false (by rintro rfl; exact h (by decide))
theorem op_ofGrant {A : TT} {nl na ng t fu : Nat} {n : ag_N} {s : ag_S} {x y : Int32} (h : ClS A nl na ng n s) (hr : RfS A nl na ng s) (hI : In A nl na ng t) (ht : t + 1 ≤ 520) : Op1 (t + 1) n (f_L_ofGrant fu x y s) (fun s => f_X6_ofGrant fu x y s) := by
  have hng := hI.wf.hng
  have hnl := hI.wf.hnl
  have hna := hI.wf.hna
  rcases idx x ng (by omega) with ⟨g, hg, rfl⟩ | ⟨nr, nx⟩
  · by_cases hy : rng y 0 7
    · obtain ⟨l, hl, el⟩ := hI.wf.gl g hg
      obtain ⟨r, hr8, er⟩ := hI.wf.rc g hg
      have r0 : ∀ s', RfS A nl na ng s' → s' 51 0 (nI g) = A 4 0 g ∧ s' 52 0 (nI g) = A 4 1 g ∧ s' 53 0 (nI g) = A 4 4 g ∧ s' 54 0 (nI g) = A 4 5 g ∧ s' 55 0 (nI g) = A 4 2 g ∧ s' 56 0 (nI g) = A 4 3 g ∧ s' 57 0 (nI g) = A 4 6 g ∧ s' 58 0 (nI g) = A 4 7 g := fun s' q => ⟨q.r51 g (by omega), q.r52 g (by omega), q.r53 g (by omega), q.r54 g (by omega), q.r55 g (by omega), q.r56 g (by omega), q.r57 g (by omega), q.r58 g (by omega)⟩
      have eh : f_X5_numberOf fu (A 4 2 g) s = some (A 4 2 g) := by
        unfold f_X5_numberOf
        rcases hI.wf.hang g hg with e | ⟨a, ha, e⟩
        · rw [if_pos e, e]
        · rw [e, if_neg (nI_neg1 (by omega)).1, h.q3 ha 0 (by decide), hI.wf.num3 a ha]
      have main : ∀ w, f_L_ofGrant fu (nI g) y s = some (0, ag_up s 8 0 0 w) → (∀ s', RfS A nl na ng s' → f_X6_ofGrant fu (nI g) y s' = some (w, ag_up s' 6 0 0 0)) → Op1 (t + 1) n (f_L_ofGrant fu (nI g) y s) (fun s => f_X6_ofGrant fu (nI g) y s) := fun w h1 h2 => op_q h hr (hI.mono ht) h1 fun s' hr' => ⟨_, h2 s' hr', fun _ _ _ _ => rfl⟩
      have hin := inn (show g < 40 by omega) (by omega)
      have c7 : ∀ {α : Type} {a b : α}, (if A 4 7 g = 0 then a else b) = if A 4 7 g = 0 then a else b := rfl
      rcases en8 hy with rfl | rfl | rfl | rfl | rfl | rfl | rfl | rfl
      · refine main (A 4 6 g) ?_ fun s' hr' => ?_
        · simp only [f_L_ofGrant, f_X5_ofGrant, grantAt_ok h hg, bt_inl, h.q4 hg 0 (by decide), h.q4 hg 1 (by decide), h.q4 hg 2 (by decide), h.q4 hg 3 (by decide), h.q4 hg 4 (by decide), h.q4 hg 5 (by decide), h.q4 hg 6 (by decide), h.q4 hg 7 (by decide), bc_inl, z00, if_false, if_true]
        · simp only [f_X6_ofGrant, isGrant_ok hr' hg (by omega), bd_some, in_ok hy, i10, if_false, if_true, f_X6_ofGrant_b30, gw0, hin, r0 _ hr'.u6]
      · refine main (A 4 4 g) ?_ fun s' hr' => ?_
        · simp only [f_L_ofGrant, f_X5_ofGrant, grantAt_ok h hg, bt_inl, h.q4 hg 0 (by decide), h.q4 hg 1 (by decide), h.q4 hg 2 (by decide), h.q4 hg 3 (by decide), h.q4 hg 4 (by decide), h.q4 hg 5 (by decide), h.q4 hg 6 (by decide), h.q4 hg 7 (by decide), bc_inl, z00, i10, if_false, if_true]
        · simp only [f_X6_ofGrant, isGrant_ok hr' hg (by omega), bd_some, in_ok hy, i10, if_false, if_true, f_X6_ofGrant_b30, gw0, hin, r0 _ hr'.u6]
      · refine main (A 4 5 g) ?_ fun s' hr' => ?_
        · simp only [f_L_ofGrant, f_X5_ofGrant, grantAt_ok h hg, bt_inl, h.q4 hg 0 (by decide), h.q4 hg 1 (by decide), h.q4 hg 2 (by decide), h.q4 hg 3 (by decide), h.q4 hg 4 (by decide), h.q4 hg 5 (by decide), h.q4 hg 6 (by decide), h.q4 hg 7 (by decide), bc_inl, z00, i20, i21, if_false, if_true]
        · simp only [f_X6_ofGrant, isGrant_ok hr' hg (by omega), bd_some, in_ok hy, i10, i20, i21, if_false, if_true, f_X6_ofGrant_b30, gw0, hin, r0 _ hr'.u6]
      · refine main (A 4 0 g) ?_ fun s' hr' => ?_
        · simp only [f_L_ofGrant, f_X5_ofGrant, grantAt_ok h hg, bt_inl, h.q4 hg 0 (by decide), h.q4 hg 1 (by decide), h.q4 hg 2 (by decide), h.q4 hg 3 (by decide), h.q4 hg 4 (by decide), h.q4 hg 5 (by decide), h.q4 hg 6 (by decide), h.q4 hg 7 (by decide), el, neN (show l ≤ 1000 by omega), h.q2 hl 0 (by decide), hI.wf.num2 l hl, bc_inl, z00, i30, i31, i32, if_false, if_true]
        · simp only [f_X6_ofGrant, isGrant_ok hr' hg (by omega), bd_some, in_ok hy, i10, i30, i31, i32, if_false, if_true, f_X6_ofGrant_b30, gw0, hin, r0 _ hr'.u6]
      · refine main (A 4 1 g) ?_ fun s' hr' => ?_
        · simp only [f_L_ofGrant, f_X5_ofGrant, grantAt_ok h hg, bt_inl, h.q4 hg 0 (by decide), h.q4 hg 1 (by decide), h.q4 hg 2 (by decide), h.q4 hg 3 (by decide), h.q4 hg 4 (by decide), h.q4 hg 5 (by decide), h.q4 hg 6 (by decide), h.q4 hg 7 (by decide), er, neN (show r ≤ 1000 by omega), h.q1 hr8 0 (by decide), hI.wf.num1 r hr8, bc_inl, z00, show ((4 : Int32) = 0) = False by decide, show ((4 : Int32) = 1) = False by decide, show ((4 : Int32) = 2) = False by decide, show ((4 : Int32) = 3) = False by decide, if_false, if_true]
        · simp only [f_X6_ofGrant, isGrant_ok hr' hg (by omega), bd_some, in_ok hy, i10, show ((4 : Int32) = 0) = False by decide, show ((4 : Int32) = 1) = False by decide, show ((4 : Int32) = 2) = False by decide, show ((4 : Int32) = 3) = False by decide, if_false, if_true, f_X6_ofGrant_b30, gw0, hin, r0 _ hr'.u6]
      · refine main (A 4 2 g) ?_ fun s' hr' => ?_
        · simp only [f_L_ofGrant, f_X5_ofGrant, grantAt_ok h hg, bt_inl, h.q4 hg 0 (by decide), h.q4 hg 1 (by decide), h.q4 hg 2 (by decide), h.q4 hg 3 (by decide), h.q4 hg 4 (by decide), h.q4 hg 5 (by decide), h.q4 hg 6 (by decide), h.q4 hg 7 (by decide), eh, bd_some, bc_inl, z00, show ((5 : Int32) = 0) = False by decide, show ((5 : Int32) = 1) = False by decide, show ((5 : Int32) = 2) = False by decide, show ((5 : Int32) = 3) = False by decide, show ((5 : Int32) = 4) = False by decide, if_false, if_true]
        · simp only [f_X6_ofGrant, isGrant_ok hr' hg (by omega), bd_some, in_ok hy, i10, show ((5 : Int32) = 0) = False by decide, show ((5 : Int32) = 1) = False by decide, show ((5 : Int32) = 2) = False by decide, show ((5 : Int32) = 3) = False by decide, show ((5 : Int32) = 4) = False by decide, if_false, if_true, f_X6_ofGrant_b30, gw0, hin, r0 _ hr'.u6]
      · refine main (A 4 3 g) ?_ fun s' hr' => ?_
        · simp only [f_L_ofGrant, f_X5_ofGrant, grantAt_ok h hg, bt_inl, h.q4 hg 0 (by decide), h.q4 hg 1 (by decide), h.q4 hg 2 (by decide), h.q4 hg 3 (by decide), h.q4 hg 4 (by decide), h.q4 hg 5 (by decide), h.q4 hg 6 (by decide), h.q4 hg 7 (by decide), bc_inl, z00, show ((6 : Int32) = 0) = False by decide, show ((6 : Int32) = 1) = False by decide, show ((6 : Int32) = 2) = False by decide, show ((6 : Int32) = 3) = False by decide, show ((6 : Int32) = 4) = False by decide, show ((6 : Int32) = 5) = False by decide, if_false, if_true]
        · simp only [f_X6_ofGrant, isGrant_ok hr' hg (by omega), bd_some, in_ok hy, i10, show ((6 : Int32) = 0) = False by decide, show ((6 : Int32) = 1) = False by decide, show ((6 : Int32) = 2) = False by decide, show ((6 : Int32) = 3) = False by decide, show ((6 : Int32) = 4) = False by decide, show ((6 : Int32) = 5) = False by decide, if_false, if_true, f_X6_ofGrant_b30, gw0, hin, r0 _ hr'.u6]
      · refine main (if A 4 7 g = 0 then 0 else 1) ?_ fun s' hr' => ?_
        · simp only [f_L_ofGrant, f_X5_ofGrant, grantAt_ok h hg, bt_inl, h.q4 hg 0 (by decide), h.q4 hg 1 (by decide), h.q4 hg 2 (by decide), h.q4 hg 3 (by decide), h.q4 hg 4 (by decide), h.q4 hg 5 (by decide), h.q4 hg 6 (by decide), h.q4 hg 7 (by decide), show ((7 : Int32) = 0) = False by decide, show ((7 : Int32) = 1) = False by decide, show ((7 : Int32) = 2) = False by decide, show ((7 : Int32) = 3) = False by decide, show ((7 : Int32) = 4) = False by decide, show ((7 : Int32) = 5) = False by decide, show ((7 : Int32) = 6) = False by decide, if_false, if_true]
          by_cases c : A 4 7 g = 0
          · simp only [c, if_true, bc_inl, z00, if_false]
          · simp only [c, bc_inl, z00, if_false]
        · simp only [f_X6_ofGrant, isGrant_ok hr' hg (by omega), bd_some, in_ok hy, i10, show ((7 : Int32) = 0) = False by decide, show ((7 : Int32) = 1) = False by decide, show ((7 : Int32) = 2) = False by decide, show ((7 : Int32) = 3) = False by decide, show ((7 : Int32) = 4) = False by decide, show ((7 : Int32) = 5) = False by decide, show ((7 : Int32) = 6) = False by decide, if_false, f_X6_ofGrant_b30, gw0, hin, r0 _ hr'.u6]
          by_cases c : A 4 7 g = 0
          · simp only [c, if_true]
          · simp only [c, if_false]
    · refine op_no (c := 2) h hr (hI.mono ht) (by decide) ?_ (rf_no fun s' hr' => ?_)
      · simp only [f_L_ofGrant, f_X5_ofGrant, grantAt_ok h hg, bt_inl, no8 hy, bc_inr, i21, if_false, if_true]
      · simp only [f_X6_ofGrant, isGrant_ok hr' hg (by omega), bd_some, in_no hy, i10, if_false, if_true, f_X6_ofGrant_b30, gwn (show ¬ (2 : Int32) = 0 by decide)]
  · refine op_no (c := 1) h hr (hI.mono ht) (by decide) ?_ (rf_no fun s' hr' => ?_)
    · simp only [f_L_ofGrant, f_X5_ofGrant, grantAt_no h nx, bt_inr, bc_inr, id, if_true]
    · simp only [f_X6_ofGrant, isGrant_no hr' nr, bd_some, if_true, f_X6_ofGrant_b30, gwn (show ¬ (1 : Int32) = 0 by decide)]
