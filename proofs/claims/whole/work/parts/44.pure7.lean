/-! ===== an operation, both ways ===== -/
abbrev Op1 (t : Nat) (n : ag_N) (fL : Option (Int32 × ag_S)) (fR : ag_S → Option (Int32 × ag_S)) : Prop := ∃ code s1 v s2, fL = some (code, s1) ∧ fR s1 = some (v, s2) ∧ s2 6 0 0 = code ∧ (code = 0 → s2 8 0 0 = v) ∧ KK t n s2
abbrev Op2 (t : Nat) (fL : Option (Int32 × (ag_N × ag_S))) (fR : ag_S → Option (Int32 × ag_S)) : Prop := ∃ code n1 s1 v s2, fL = some (code, (n1, s1)) ∧ fR s1 = some (v, s2) ∧ s2 6 0 0 = code ∧ (code = 0 → s2 8 0 0 = v) ∧ KK t n1 s2
/-- what the reference does, said of the neutral state -/
abbrev RfOp (fR : ag_S → Option (Int32 × ag_S)) (A : TT) (nl na ng : Nat) (code v : Int32) (A' : TT) (nl' na' ng' : Nat) : Prop := ∀ s, RfS A nl na ng s → ∃ s2, fR s = some (v, s2) ∧ s2 6 0 0 = code ∧ RfS A' nl' na' ng' s2 ∧ frR s s2
theorem op_ok {A A' : TT} {nl na ng nl' na' ng' t : Nat} {n : ag_N} {s s1 : ag_S} {w : Int32} {fL : Option (Int32 × ag_S)} {fR : ag_S → Option (Int32 × ag_S)} (hr : RfS A nl na ng s) (hc : fL = some (0, ag_up s1 8 0 0 w)) (hC : ClS A' nl' na' ng' n s1) (fc : frC s s1) (hI : In A' nl' na' ng' t) (hR : RfOp fR A nl na ng 0 w A' nl' na' ng') : Op1 t n fL fR := by
  have r1 : RfS A nl na ng (ag_up s1 8 0 0 w) := hr.fr (fc.up (by decide))
  obtain ⟨s2, e1, e2, e3, e4⟩ := hR _ r1
  exact ⟨0, _, w, s2, hc, e1, e2, fun _ => (e4 8 0 0 (by decide)).trans ag_up_eq, A', nl', na', ng', (hC.same fun k f i q _ => ag_up_ne fun e => q e.1).fr e4, e3, hI⟩
theorem op_ok2 {A A' : TT} {nl na ng nl' na' ng' t : Nat} {n1 : ag_N} {s s1 : ag_S} {w : Int32} {fL : Option (Int32 × (ag_N × ag_S))} {fR : ag_S → Option (Int32 × ag_S)} (hr : RfS A nl na ng s) (hc : fL = some (0, (n1, ag_up s1 8 0 0 w))) (hC : ClS A' nl' na' ng' n1 s1) (fc : frC s s1) (hI : In A' nl' na' ng' t) (hR : RfOp fR A nl na ng 0 w A' nl' na' ng') : Op2 t fL fR := by
  have r1 : RfS A nl na ng (ag_up s1 8 0 0 w) := hr.fr (fc.up (by decide))
  obtain ⟨s2, e1, e2, e3, e4⟩ := hR _ r1
  exact ⟨0, n1, _, w, s2, hc, e1, e2, fun _ => (e4 8 0 0 (by decide)).trans ag_up_eq, A', nl', na', ng', (hC.same fun k f i q _ => ag_up_ne fun e => q e.1).fr e4, e3, hI⟩
theorem op_no {A : TT} {nl na ng t : Nat} {n : ag_N} {s : ag_S} {c : Int32} {fL : Option (Int32 × ag_S)} {fR : ag_S → Option (Int32 × ag_S)} (h : ClS A nl na ng n s) (hr : RfS A nl na ng s) (hI : In A nl na ng t) (h0 : ¬ c = 0) (hc : fL = some (c, s)) (hR : RfOp fR A nl na ng c 0 A nl na ng) : Op1 t n fL fR := by
  obtain ⟨s2, e1, e2, e3, e4⟩ := hR _ hr
  exact ⟨c, _, 0, s2, hc, e1, e2, fun q => absurd q h0, A, nl, na, ng, h.fr e4, e3, hI⟩
theorem op_no2 {A : TT} {nl na ng t : Nat} {n : ag_N} {s : ag_S} {c : Int32} {fL : Option (Int32 × (ag_N × ag_S))} {fR : ag_S → Option (Int32 × ag_S)} (h : ClS A nl na ng n s) (hr : RfS A nl na ng s) (hI : In A nl na ng t) (h0 : ¬ c = 0) (hc : fL = some (c, (n, s))) (hR : RfOp fR A nl na ng c 0 A nl na ng) : Op2 t fL fR := by
  obtain ⟨s2, e1, e2, e3, e4⟩ := hR _ hr
  exact ⟨c, n, _, 0, s2, hc, e1, e2, fun q => absurd q h0, A, nl, na, ng, h.fr e4, e3, hI⟩
/-- the reference throws at once -/
theorem rf_no {A : TT} {nl na ng : Nat} {c : Int32} {fR : ag_S → Option (Int32 × ag_S)} (h : ∀ s, RfS A nl na ng s → fR s = some (0, ag_up s 6 0 0 c)) : RfOp fR A nl na ng c 0 A nl na ng := fun s hr => ⟨_, h s hr, ag_up_eq, hr.u6, (frR.refl s).up (by decide)⟩
theorem upk {s : ag_S} {k f k' f' : Nat} {i v i' : Int32} (h : ¬ k' = k) : ag_up s k f i v k' f' i' = s k' f' i' := ag_up_ne fun e => h e.1
theorem upf {s : ag_S} {k f k' f' : Nat} {i v i' : Int32} (h : ¬ f' = f) : ag_up s k f i v k' f' i' = s k' f' i' := ag_up_ne fun e => h e.2.1
theorem tuk {A : TT} {k f k' f' i i' : Nat} {v : Int32} (h : ¬ k' = k) : tU A k f i v k' f' i' = A k' f' i' := tU_ne fun e => h e.1
theorem tuf {A : TT} {k f k' f' i i' : Nat} {v : Int32} (h : ¬ f' = f) : tU A k f i v k' f' i' = A k' f' i' := tU_ne fun e => h e.2.1
theorem ClS.q0 {A : TT} {nl na ng : Nat} {n : ag_N} {s : ag_S} (h : ClS A nl na ng n s) {i : Nat} (hi : i < 4) (f : Nat) (hf : f < 3) : s 0 f (nI i) = A 0 f i := h.c0 f i hf hi
theorem ClS.q1 {A : TT} {nl na ng : Nat} {n : ag_N} {s : ag_S} (h : ClS A nl na ng n s) {i : Nat} (hi : i < 8) (f : Nat) (hf : f < 2) : s 1 f (nI i) = A 1 f i := h.c1 f i hf hi
theorem ClS.q2 {A : TT} {nl na ng : Nat} {n : ag_N} {s : ag_S} (h : ClS A nl na ng n s) {i : Nat} (hi : i < nl) (f : Nat) (hf : f < 7) : s 2 f (nI i) = A 2 f i := h.c2 f i hf hi
theorem ClS.q3 {A : TT} {nl na ng : Nat} {n : ag_N} {s : ag_S} (h : ClS A nl na ng n s) {i : Nat} (hi : i < na) (f : Nat) (hf : f < 10) : s 3 f (nI i) = A 3 f i := h.c3 f i hf hi
theorem ClS.q4 {A : TT} {nl na ng : Nat} {n : ag_N} {s : ag_S} (h : ClS A nl na ng n s) {i : Nat} (hi : i < ng) (f : Nat) (hf : f < 8) : s 4 f (nI i) = A 4 f i := h.c4 f i hf hi
theorem ClS.q5 {A : TT} {nl na ng : Nat} {n : ag_N} {s : ag_S} (h : ClS A nl na ng n s) (f : Nat) (hf : f < 8) : s 5 f 0 = A 5 f 0 := h.c5 f hf
theorem z00 : ((0 : Int32) < 0 ∨ 1 ≤ (0 : Int32).toNatClampNeg) = False := by decide
theorem i10 : ((1 : Int32) = 0) = False := by decide
theorem i20 : ((2 : Int32) = 0) = False := by decide
theorem i30 : ((3 : Int32) = 0) = False := by decide
theorem i12 : ((1 : Int32) = 2) = False := by decide
theorem i13 : ((1 : Int32) = 3) = False := by decide
theorem i21 : ((2 : Int32) = 1) = False := by decide
theorem i23 : ((2 : Int32) = 3) = False := by decide
theorem i31 : ((3 : Int32) = 1) = False := by decide
theorem i32 : ((3 : Int32) = 2) = False := by decide
theorem rng4 {i : Nat} (h : i < 4) : rng (nI i) 0 3 := rng_idx (N := 4) h (by decide)
theorem rng8 {i : Nat} (h : i < 8) : rng (nI i) 0 7 := rng_idx (N := 8) h (by decide)
theorem idx4 (x : Int32) : (∃ i, i < 4 ∧ x = nI i) ∨ (¬ rng x 0 3 ∧ (x < 0 ∨ (¬ x < 0 ∧ ¬ x < nI 4))) := idx x 4 (by decide)
theorem idx8 (x : Int32) : (∃ i, i < 8 ∧ x = nI i) ∨ (¬ rng x 0 7 ∧ (x < 0 ∨ (¬ x < 0 ∧ ¬ x < nI 8))) := idx x 8 (by decide)
theorem inn {c N : Nat} (h : c < N) (hN : N ≤ 1000) : ((nI c < 0 ∨ N ≤ (nI c).toNatClampNeg)) = False := eq_false (nI_in h (p31 hN))
/-! ===== sums of two numbers that do not run over ===== -/
theorem add_toInt {a b : Int32} (h1 : -2147483648 ≤ a.toInt + b.toInt) (h2 : a.toInt + b.toInt < 2147483648) : (a + b).toInt = a.toInt + b.toInt := by
  rw [Int32.toInt_add]
  exact Int.bmod_eq_of_le (by omega) (by omega)
theorem sub_toInt {a b : Int32} (h1 : -2147483648 ≤ a.toInt - b.toInt) (h2 : a.toInt - b.toInt < 2147483648) : (a - b).toInt = a.toInt - b.toInt := by
  rw [Int32.toInt_sub]
  exact Int.bmod_eq_of_le (by omega) (by omega)
theorem rng_toInt {x a b : Int32} (h : rng x a b) : a.toInt ≤ x.toInt ∧ x.toInt ≤ b.toInt := by
  obtain ⟨h1, h2⟩ := h
  rw [Int32.lt_iff_toInt_lt] at h1
  rw [Int32.le_iff_toInt_le] at h2
  omega
theorem b50 {x : Int32} (h : rng x 1 50000) : 1 ≤ x.toInt ∧ x.toInt ≤ 50000 := rng_toInt h
theorem b100 {x : Int32} (h : rng x 1 100000) : 1 ≤ x.toInt ∧ x.toInt ≤ 100000 := rng_toInt h
theorem b100z {x : Int32} (h : rng x 0 100000) : 0 ≤ x.toInt ∧ x.toInt ≤ 100000 := rng_toInt h
theorem bmore {x : Int32} (h : rng x (-50000) 50000) : -50000 ≤ x.toInt ∧ x.toInt ≤ 50000 := rng_toInt h
theorem bpct {x : Int32} (h : rng x 0 50) : 0 ≤ x.toInt ∧ x.toInt ≤ 50 := rng_toInt h
/-! ===== income ===== -/
theorem base_congr {A A' : TT} {l : Nat} (h1 : A' 2 2 l = A 2 2 l) (h2 : A' 2 5 l = A 2 5 l) (h3 : A' 2 6 l = A 2 6 l) : baseA A' l = baseA A l := by
  unfold baseA
  rw [h1, h2, h3]
abbrev Fq (k f : Nat) : Prop := Bv k f ∨ (k = 2 ∧ f = 2) ∨ (k = 2 ∧ f = 5) ∨ (k = 2 ∧ f = 6) ∨ (k = 2 ∧ f = 4) ∨ (k = 4 ∧ f = 0) ∨ (k = 4 ∧ f = 4) ∨ (k = 4 ∧ f = 5) ∨ (k = 4 ∧ f = 6)
theorem bindA_congr {A A' : TT} {l : Nat} (e : agr Fq A A') : bindA A' l = bindA A l := by
  funext g
  unfold bindA
  rw [e 4 0 _ (by decide), e 4 6 _ (by decide), e 4 5 _ (by decide), e 4 4 _ (by decide)]
theorem base_agr {A A' : TT} {l : Nat} (e : agr Fq A A') : baseA A' l = baseA A l := base_congr (e _ _ _ (by decide)) (e _ _ _ (by decide)) (e _ _ _ (by decide))
theorem freeA_congr {A A' : TT} {na ng l : Nat} (e : agr Fq A A') : freeA A' na ng l = freeA A na ng l := by
  unfold freeA standA boundA
  rw [base_agr e, bindA_congr e, rootA_congr (fun k f i q => e k f i (.inl q)), e 2 4 _ (by decide)]
theorem Fr.congr {A A' : TT} {nl na ng : Nat} (h : Fr A nl na ng) (e : agr Fq A A') : Fr A' nl na ng := fun l hl => by
  rw [freeA_congr e]
  exact h l hl
theorem op_income {A : TT} {nl na ng t fu : Nat} {n : ag_N} {s : ag_S} {x y : Int32} (h : ClS A nl na ng n s) (hr : RfS A nl na ng s) (hI : In A nl na ng t) (ht : t + 1 ≤ 520) : Op1 (t + 1) n (f_L_income fu x y s) (fun s => f_X6_income fu x y s) := by
  rcases idx4 x with ⟨i, hi, rfl⟩ | ⟨nr, nx⟩
  · by_cases hy : rng y 1 100000
    · refine op_ok (A' := tU A 0 1 i (A 0 1 i + y)) (s1 := ag_up s 0 1 (nI i) (A 0 1 i + y)) (w := A 0 1 i + y) (nl' := nl) (na' := na) (ng' := ng) hr ?_ (h.w (by decide) (by omega)) ((frC.refl s).up (by decide)) ?_ fun s' hr' => ?_
      · simp only [f_L_income, f_X5_income, sourceAt_ok h hi, bt_inl, nr_ok hy, h.q0 hi 1 (by decide), ag_up_eq, bc_inl, z00, if_false]
      · obtain ⟨i1, i2, i3, i4, i5, i6, i7⟩ := hI
        have hb := b100 hy
        refine ⟨i1.congr (agr.rfl.u (by decide)), i2.congr (agr.rfl.u (by decide)), i3.u (by omega), i4.congr (agr.rfl.u (by decide)), i5.congr (agr.rfl.u (by decide)), ?_, i7.congr (agr.rfl.u (by decide))⟩
        obtain ⟨m1, m2, m3, m4, m5, m6, ⟨R, q1, q2, q3⟩, m8⟩ := i6
        refine ⟨ht, fun j hj => ?_, fun l hl => ?_, m4, m5, m6, ⟨R, q1, by push_cast; omega, q3⟩, m8⟩
        · have := m2 j hj
          by_cases e : j = i
          · subst e
            rw [tU_eq, tuf (by decide), add_toInt (by omega) (by omega)]
            push_cast
            omega
          · rw [tuf (f' := 2) (by decide), tU_ne (by omega)]
            push_cast
            omega
        · have := m3 l hl
          rw [tuk (by decide)]
          push_cast
          omega
      · have e := hr'.u6 (v := 0) |>.r34 i (by omega)
        simp only [f_X6_income, in_ok (rng4 hi), in_ok hy, bd_some, i10, if_false, f_X6_income_b25, gw0, inn hi (by omega), e, ag_up_eq]
        exact ⟨_, rfl, by rw [upk (by decide), ag_up_eq], hr'.u6.w34 (by omega), ((frR.refl _).up (by decide)).up (by decide)⟩
    · refine op_no (c := 1) h hr (hI.mono ht) (by decide) ?_ (rf_no fun s' hr' => ?_)
      · simp only [f_L_income, f_X5_income, sourceAt_ok h hi, bt_inl, nr_no hy, bt_inr, bc_inr, id, if_true]
      · simp only [f_X6_income, in_ok (rng4 hi), in_no hy, bd_some, i10, if_false, if_true, f_X6_income_b24, f_X6_income_b25, gwn (show ¬ (1 : Int32) = 0 by decide)]
  · refine op_no (c := 1) h hr (hI.mono ht) (by decide) ?_ (rf_no fun s' hr' => ?_)
    · simp only [f_L_income, f_X5_income, sourceAt_no h nx, bt_inr, bc_inr, id, if_true]
    · simp only [f_X6_income, in_no nr, bd_some, i10, if_false, if_true, f_X6_income_b24, f_X6_income_b25, gwn (show ¬ (1 : Int32) = 0 by decide)]
