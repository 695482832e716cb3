/-! ===== free, both ways ===== -/
theorem i32_swap (a b c d : Int32) : ((a + b) + c) - d = ((a - d) + c) + b := by
  rw [Int32.sub_eq_add_neg, Int32.sub_eq_add_neg]
  ac_rfl
theorem rootR_congr {s s' : ag_S} {b : Nat → Int32} {l : Int32} (h : ∀ k f i, k ≠ 59 → s' k f i = s k f i) : rootR s' b l = rootR s b l := by
  funext a
  unfold rootR
  rw [h 44 0 _ (by decide), h 45 0 _ (by decide), h 47 0 _ (by decide)]
theorem bindR_congr {s s' : ag_S} {l : Int32} (h : ∀ k f i, k ≠ 59 → s' k f i = s k f i) : bindR s' l = bindR s l := by
  funext a
  unfold bindR
  rw [h 51 0 _ (by decide), h 57 0 _ (by decide), h 54 0 _ (by decide), h 53 0 _ (by decide)]
/-- what is free of a line, as the reference reckons it -/
def freeV (s : ag_S) (b : Nat → Int32) (na ng : Nat) (l : Nat) : Int32 := (((s 39 0 (nI l) - s 40 0 (nI l)) + s 41 0 (nI l)) + isum (rootR s b (nI l)) na) - (s 42 0 (nI l) + isum (bindR s (nI l)) ng)
theorem freeR {na ng fu : Nat} {s : ag_S} {b : Nat → Int32} (h : s 6 13 0 = nI na) (h2 : s 6 20 0 = nI ng) (ha : na ≤ 40) (hg : ng ≤ 40) (hf : 41 < fu) (hT : Tree s na) (hb : Sol s na b) {l : Nat} (hl : l < 10) : ∃ s', f_X6_free fu (nI l) s = some (freeV s b na ng l, s') ∧ ∀ k f i, k ≠ 59 → s' k f i = s k f i := by
  obtain ⟨s', e1, e2, -⟩ := standsR (fu := fu) h ha (by omega) hT hb hl
  refine ⟨s', ?_, e2⟩
  unfold f_X6_free
  rw [e1, bd_some]
  dsimp only
  rw [boundR (s := s') (fu := fu) (by rw [e2 6 20 0 (by decide)]; exact h2) hg (by omega) hl, bd_some, bindR_congr e2, e2 42 0 _ (by decide)]
  rfl
/-- the class's, of a line whose columns are the reference's -/
theorem freeC {n : ag_N} {na ng fu : Nat} {s : ag_S} (b : Nat → Int32) (h : LL n 14 24 84 ng s) (hf : 60 < fu) {l : Nat} (c1 : s 2 2 (nI l) = s 39 0 (nI l)) (c2 : s 2 5 (nI l) = s 40 0 (nI l)) (c3 : s 2 6 (nI l) = s 41 0 (nI l)) (c4 : s 2 4 (nI l) = s 42 0 (nI l)) (c5 : s 2 3 (nI l) = isum (rootR s b (nI l)) na) (c6 : ∀ g, g < ng → bindC s (nI l) g = bindR s (nI l) g) : f_X5_freeOf fu (nI l) s = some (freeV s b na ng l) := by
  have hle := h.le
  unfold f_X5_freeOf f_X2_stands f_X2_standsWith
  rw [bd_some, bd_some, boundC h (by omega), bd_some, c1, c2, c3, c4, c5, isum_congr c6, i32_swap]
  rfl
