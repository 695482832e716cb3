/-! ===== one more line, amendment, grant: the class ===== -/
def liA (A : TT) (nl : Nat) (x y : Int32) : TT := tU (tU (tU (tU (tU (tU (tU A 2 0 nl (nI nl)) 2 1 nl (x)) 2 2 nl (y)) 2 3 nl (0)) 2 4 nl (0)) 2 5 nl (0)) 2 6 nl (0)
theorem liA_ne {A : TT} {nl : Nat} {x y : Int32} {k f i : Nat} (h : ¬ (k = 2 ∧ i = nl)) : liA A nl x y k f i = A k f i := by
  unfold liA
  rw [tU_ne (fun e => h ⟨e.1, e.2.2⟩), tU_ne (fun e => h ⟨e.1, e.2.2⟩), tU_ne (fun e => h ⟨e.1, e.2.2⟩), tU_ne (fun e => h ⟨e.1, e.2.2⟩), tU_ne (fun e => h ⟨e.1, e.2.2⟩), tU_ne (fun e => h ⟨e.1, e.2.2⟩), tU_ne (fun e => h ⟨e.1, e.2.2⟩)]
theorem liA_k {A : TT} {nl : Nat} {x y : Int32} {k f i : Nat} (h : ¬ k = 2) : liA A nl x y k f i = A k f i := liA_ne fun e => h e.1
theorem liA_i {A : TT} {nl : Nat} {x y : Int32} {k f i : Nat} (h : i < nl) : liA A nl x y k f i = A k f i := liA_ne fun e => absurd e.2 (by omega)
theorem liA_0 {A : TT} {nl : Nat} {x y : Int32} : liA A nl x y 2 0 nl = nI nl := by simp [liA, tU]
theorem liA_1 {A : TT} {nl : Nat} {x y : Int32} : liA A nl x y 2 1 nl = x := by simp [liA, tU]
theorem liA_2 {A : TT} {nl : Nat} {x y : Int32} : liA A nl x y 2 2 nl = y := by simp [liA, tU]
theorem liA_3 {A : TT} {nl : Nat} {x y : Int32} : liA A nl x y 2 3 nl = 0 := by simp [liA, tU]
theorem liA_4 {A : TT} {nl : Nat} {x y : Int32} : liA A nl x y 2 4 nl = 0 := by simp [liA, tU]
theorem liA_5 {A : TT} {nl : Nat} {x y : Int32} : liA A nl x y 2 5 nl = 0 := by simp [liA, tU]
theorem liA_6 {A : TT} {nl : Nat} {x y : Int32} : liA A nl x y 2 6 nl = 0 := by simp [liA, tU]
theorem li_new {fu nl : Nat} {A : TT} {x y : Int32} {s : ag_S} : ∃ s0, f_X2_init fu (nI nl) (nI nl) x y (ag_s0 s 2 (nI nl)) = some s0 ∧ (∀ k f i, ¬ (k = 2 ∧ i = nI nl) → s0 k f i = s k f i) ∧ ∀ f, f < 7 → s0 2 f (nI nl) = liA A nl x y 2 f nl := by
  refine ⟨_, rfl, fun k f i h => ?_, fun f hf => ?_⟩
  · rw [ag_up_ne (fun e => h ⟨e.1, e.2.2⟩), ag_up_ne (fun e => h ⟨e.1, e.2.2⟩), ag_up_ne (fun e => h ⟨e.1, e.2.2⟩), ag_up_ne (fun e => h ⟨e.1, e.2.2⟩), ag_up_ne (fun e => h ⟨e.1, e.2.2⟩), ag_up_ne (fun e => h ⟨e.1, e.2.2⟩), ag_up_ne (fun e => h ⟨e.1, e.2.2⟩)]
    unfold ag_s0
    rw [if_neg h]
  · have : f = 0 ∨ f = 1 ∨ f = 2 ∨ f = 3 ∨ f = 4 ∨ f = 5 ∨ f = 6 := by omega
    rcases this with rfl | rfl | rfl | rfl | rfl | rfl | rfl
    · rw [liA_0]
      simp [ag_up]
    · rw [liA_1]
      simp [ag_up]
    · rw [liA_2]
      simp [ag_up]
    · rw [liA_3]
      simp [ag_up]
    · rw [liA_4]
      simp [ag_up]
    · rw [liA_5]
      simp [ag_up]
    · rw [liA_6]
      simp [ag_up]
theorem li_add {fu : Nat} {A : TT} {nl na ng : Nat} {x y : Int32} {n : ag_N} {s : ag_S} (h : ClS A nl na ng n s) (hN : nl < 40) : ∃ s0, f_X2_init fu (nI nl) (nI nl) x y (ag_s0 s 2 (nI nl)) = some s0 ∧ ∃ n1 s1, f_Jx4a65c_add_9ea2d_2 fu (nI nl) (ag_nn n 2) s0 = some (1, (n1, s1)) ∧ ClS (liA A nl x y) (nl + 1) na ng n1 s1 ∧ frC s s1 := by
  obtain ⟨s0, e0, f0, v0⟩ := li_new (fu := fu) (A := A) (s := s) (nl := nl) (x := x) (y := y)
  refine ⟨s0, e0, ?_⟩
  have b2 := h.l2.le
  have b3 := h.l3.le
  have b4 := h.l4.le
  have nn : ∀ k', k' ≠ 2 → ag_nn n 2 k' = n k' := fun k' q => by
    unfold ag_nn
    rw [if_neg q]
  have fk : ∀ k' f i, k' ≠ 2 → s0 k' f i = s k' f i := fun k' f i q => f0 k' f i fun e => q e.1
  have L : LL (ag_nn n 2) 12 22 82 nl s0 := h.l2.same (nn _ (by decide)) (fun f i => fk _ f i (by decide)) (fun f i => fk _ f i (by decide)) (fun f i => fk _ f i (by decide))
  obtain ⟨n1, s1, e1, L1, g1, g2⟩ := L.add2 (fu := fu) (by omega)
  have gk : ∀ k' f i, k' ≠ 2 → k' ≠ 12 → k' ≠ 22 → k' ≠ 82 → s1 k' f i = s k' f i := fun k' f i q q1 q2 q3 => (g2 k' f i q1 q2 q3).trans (fk k' f i q)
  have col : ∀ f i, f < 7 → i < nl + 1 → s 2 f (nI i) = A 2 f i ∨ i = nl → s1 2 f (nI i) = liA A nl x y 2 f i := fun f i hf hi q => by
    rw [g2 2 f (nI i) (by decide) (by decide) (by decide)]
    by_cases e : i = nl
    · subst e
      exact v0 f hf
    · rw [f0 _ _ _ (fun q => e ((nI_eq (p31 (by omega)) (p31 (by omega))).mp q.2)), liA_ne (fun q => e q.2)]
      exact q.resolve_right e
  refine ⟨n1, s1, e1, ⟨h.l0.same ((g1 20 (by decide)).trans (nn 20 (by decide))) (fun f i => gk 10 f i (by decide) (by decide) (by decide) (by decide)) (fun f i => gk 20 f i (by decide) (by decide) (by decide) (by decide)) (fun f i => gk 80 f i (by decide) (by decide) (by decide) (by decide)), h.l1.same ((g1 21 (by decide)).trans (nn 21 (by decide))) (fun f i => gk 11 f i (by decide) (by decide) (by decide) (by decide)) (fun f i => gk 21 f i (by decide) (by decide) (by decide) (by decide)) (fun f i => gk 81 f i (by decide) (by decide) (by decide) (by decide)), L1, h.l3.same ((g1 23 (by decide)).trans (nn 23 (by decide))) (fun f i => gk 13 f i (by decide) (by decide) (by decide) (by decide)) (fun f i => gk 23 f i (by decide) (by decide) (by decide) (by decide)) (fun f i => gk 83 f i (by decide) (by decide) (by decide) (by decide)), h.l4.same ((g1 24 (by decide)).trans (nn 24 (by decide))) (fun f i => gk 14 f i (by decide) (by decide) (by decide) (by decide)) (fun f i => gk 24 f i (by decide) (by decide) (by decide) (by decide)) (fun f i => gk 84 f i (by decide) (by decide) (by decide) (by decide)), ?_, ?_, ?_, fun f i hf hi => ?_, fun f i hf hi => ?_, fun f i hf hi => ?_, fun f i hf hi => ?_, fun f i hf hi => ?_, fun f hf => ?_⟩, fun k' f i q => ?_⟩
  · rw [g1 2 (by decide)]
    unfold ag_nn
    rw [if_pos rfl, h.n2]
  · rw [g1 3 (by decide), nn 3 (by decide), h.n3]
  · rw [g1 4 (by decide), nn 4 (by decide), h.n4]
  · rw [gk 0 f _ (by decide) (by decide) (by decide) (by decide), liA_k (by decide)]
    exact h.c0 f i hf hi
  · rw [gk 1 f _ (by decide) (by decide) (by decide) (by decide), liA_k (by decide)]
    exact h.c1 f i hf hi
  · refine col f i hf hi ?_
    by_cases e : i = nl
    · exact .inr e
    · exact .inl (h.c2 f i hf (by omega))
  · rw [gk 3 f _ (by decide) (by decide) (by decide) (by decide), liA_k (by decide)]
    exact h.c3 f i hf hi
  · rw [gk 4 f _ (by decide) (by decide) (by decide) (by decide), liA_k (by decide)]
    exact h.c4 f i hf hi
  · rw [gk 5 f _ (by decide) (by decide) (by decide) (by decide), liA_k (by decide)]
    exact h.c5 f hf
  · have d : ∀ k0, ¬ isR k0 → k' ≠ k0 := fun k0 q0 e => q0 (e ▸ q)
    exact gk k' f i (d _ (by decide)) (d _ (by decide)) (d _ (by decide)) (d _ (by decide))
def amA (A : TT) (na : Nat) (c l m : Int32) : TT := tU (tU (tU (tU (tU (tU (tU (tU (tU (tU A 3 0 na (nI na)) 3 1 na (c)) 3 2 na (l)) 3 3 na (m)) 3 4 na (m)) 3 5 na (0)) 3 6 na (1)) 3 7 na (0)) 3 8 na (0)) 3 9 na (0)
theorem amA_ne {A : TT} {na : Nat} {c l m : Int32} {k f i : Nat} (h : ¬ (k = 3 ∧ i = na)) : amA A na c l m k f i = A k f i := by
  unfold amA
  rw [tU_ne (fun e => h ⟨e.1, e.2.2⟩), tU_ne (fun e => h ⟨e.1, e.2.2⟩), tU_ne (fun e => h ⟨e.1, e.2.2⟩), tU_ne (fun e => h ⟨e.1, e.2.2⟩), tU_ne (fun e => h ⟨e.1, e.2.2⟩), tU_ne (fun e => h ⟨e.1, e.2.2⟩), tU_ne (fun e => h ⟨e.1, e.2.2⟩), tU_ne (fun e => h ⟨e.1, e.2.2⟩), tU_ne (fun e => h ⟨e.1, e.2.2⟩), tU_ne (fun e => h ⟨e.1, e.2.2⟩)]
theorem amA_k {A : TT} {na : Nat} {c l m : Int32} {k f i : Nat} (h : ¬ k = 3) : amA A na c l m k f i = A k f i := amA_ne fun e => h e.1
theorem amA_i {A : TT} {na : Nat} {c l m : Int32} {k f i : Nat} (h : i < na) : amA A na c l m k f i = A k f i := amA_ne fun e => absurd e.2 (by omega)
theorem amA_0 {A : TT} {na : Nat} {c l m : Int32} : amA A na c l m 3 0 na = nI na := by simp [amA, tU]
theorem amA_1 {A : TT} {na : Nat} {c l m : Int32} : amA A na c l m 3 1 na = c := by simp [amA, tU]
theorem amA_2 {A : TT} {na : Nat} {c l m : Int32} : amA A na c l m 3 2 na = l := by simp [amA, tU]
theorem amA_3 {A : TT} {na : Nat} {c l m : Int32} : amA A na c l m 3 3 na = m := by simp [amA, tU]
theorem amA_4 {A : TT} {na : Nat} {c l m : Int32} : amA A na c l m 3 4 na = m := by simp [amA, tU]
theorem amA_5 {A : TT} {na : Nat} {c l m : Int32} : amA A na c l m 3 5 na = 0 := by simp [amA, tU]
theorem amA_6 {A : TT} {na : Nat} {c l m : Int32} : amA A na c l m 3 6 na = 1 := by simp [amA, tU]
theorem amA_7 {A : TT} {na : Nat} {c l m : Int32} : amA A na c l m 3 7 na = 0 := by simp [amA, tU]
theorem amA_8 {A : TT} {na : Nat} {c l m : Int32} : amA A na c l m 3 8 na = 0 := by simp [amA, tU]
theorem amA_9 {A : TT} {na : Nat} {c l m : Int32} : amA A na c l m 3 9 na = 0 := by simp [amA, tU]
theorem am_new {fu na : Nat} {A : TT} {c l m : Int32} {s : ag_S} : ∃ s0, f_X0_init fu (nI na) (nI na) c l m (ag_s0 s 3 (nI na)) = some s0 ∧ (∀ k f i, ¬ (k = 3 ∧ i = nI na) → s0 k f i = s k f i) ∧ ∀ f, f < 10 → s0 3 f (nI na) = amA A na c l m 3 f na := by
  refine ⟨_, rfl, fun k f i h => ?_, fun f hf => ?_⟩
  · rw [ag_up_ne (fun e => h ⟨e.1, e.2.2⟩), ag_up_ne (fun e => h ⟨e.1, e.2.2⟩), ag_up_ne (fun e => h ⟨e.1, e.2.2⟩), ag_up_ne (fun e => h ⟨e.1, e.2.2⟩), ag_up_ne (fun e => h ⟨e.1, e.2.2⟩), ag_up_ne (fun e => h ⟨e.1, e.2.2⟩), ag_up_ne (fun e => h ⟨e.1, e.2.2⟩), ag_up_ne (fun e => h ⟨e.1, e.2.2⟩), ag_up_ne (fun e => h ⟨e.1, e.2.2⟩), ag_up_ne (fun e => h ⟨e.1, e.2.2⟩)]
    unfold ag_s0
    rw [if_neg h]
  · have : f = 0 ∨ f = 1 ∨ f = 2 ∨ f = 3 ∨ f = 4 ∨ f = 5 ∨ f = 6 ∨ f = 7 ∨ f = 8 ∨ f = 9 := by omega
    rcases this with rfl | rfl | rfl | rfl | rfl | rfl | rfl | rfl | rfl | rfl
    · rw [amA_0]
      simp [ag_up]
    · rw [amA_1]
      simp [ag_up]
    · rw [amA_2]
      simp [ag_up]
    · rw [amA_3]
      simp [ag_up]
    · rw [amA_4]
      simp [ag_up]
    · rw [amA_5]
      simp [ag_up]
    · rw [amA_6]
      simp [ag_up]
    · rw [amA_7]
      simp [ag_up]
    · rw [amA_8]
      simp [ag_up]
    · rw [amA_9]
      simp [ag_up]
theorem am_add {fu : Nat} {A : TT} {nl na ng : Nat} {c l m : Int32} {n : ag_N} {s : ag_S} (h : ClS A nl na ng n s) (hN : na < 40) : ∃ s0, f_X0_init fu (nI na) (nI na) c l m (ag_s0 s 3 (nI na)) = some s0 ∧ ∃ n1 s1, f_Jx4a65c_add_9ea2d_3 fu (nI na) (ag_nn n 3) s0 = some (1, (n1, s1)) ∧ ClS (amA A na c l m) nl (na + 1) ng n1 s1 ∧ frC s s1 := by
  obtain ⟨s0, e0, f0, v0⟩ := am_new (fu := fu) (A := A) (s := s) (na := na) (c := c) (l := l) (m := m)
  refine ⟨s0, e0, ?_⟩
  have b2 := h.l2.le
  have b3 := h.l3.le
  have b4 := h.l4.le
  have nn : ∀ k', k' ≠ 3 → ag_nn n 3 k' = n k' := fun k' q => by
    unfold ag_nn
    rw [if_neg q]
  have fk : ∀ k' f i, k' ≠ 3 → s0 k' f i = s k' f i := fun k' f i q => f0 k' f i fun e => q e.1
  have L : LL (ag_nn n 3) 13 23 83 na s0 := h.l3.same (nn _ (by decide)) (fun f i => fk _ f i (by decide)) (fun f i => fk _ f i (by decide)) (fun f i => fk _ f i (by decide))
  obtain ⟨n1, s1, e1, L1, g1, g2⟩ := L.add3 (fu := fu) (by omega)
  have gk : ∀ k' f i, k' ≠ 3 → k' ≠ 13 → k' ≠ 23 → k' ≠ 83 → s1 k' f i = s k' f i := fun k' f i q q1 q2 q3 => (g2 k' f i q1 q2 q3).trans (fk k' f i q)
  have col : ∀ f i, f < 10 → i < na + 1 → s 3 f (nI i) = A 3 f i ∨ i = na → s1 3 f (nI i) = amA A na c l m 3 f i := fun f i hf hi q => by
    rw [g2 3 f (nI i) (by decide) (by decide) (by decide)]
    by_cases e : i = na
    · subst e
      exact v0 f hf
    · rw [f0 _ _ _ (fun q => e ((nI_eq (p31 (by omega)) (p31 (by omega))).mp q.2)), amA_ne (fun q => e q.2)]
      exact q.resolve_right e
  refine ⟨n1, s1, e1, ⟨h.l0.same ((g1 20 (by decide)).trans (nn 20 (by decide))) (fun f i => gk 10 f i (by decide) (by decide) (by decide) (by decide)) (fun f i => gk 20 f i (by decide) (by decide) (by decide) (by decide)) (fun f i => gk 80 f i (by decide) (by decide) (by decide) (by decide)), h.l1.same ((g1 21 (by decide)).trans (nn 21 (by decide))) (fun f i => gk 11 f i (by decide) (by decide) (by decide) (by decide)) (fun f i => gk 21 f i (by decide) (by decide) (by decide) (by decide)) (fun f i => gk 81 f i (by decide) (by decide) (by decide) (by decide)), h.l2.same ((g1 22 (by decide)).trans (nn 22 (by decide))) (fun f i => gk 12 f i (by decide) (by decide) (by decide) (by decide)) (fun f i => gk 22 f i (by decide) (by decide) (by decide) (by decide)) (fun f i => gk 82 f i (by decide) (by decide) (by decide) (by decide)), L1, h.l4.same ((g1 24 (by decide)).trans (nn 24 (by decide))) (fun f i => gk 14 f i (by decide) (by decide) (by decide) (by decide)) (fun f i => gk 24 f i (by decide) (by decide) (by decide) (by decide)) (fun f i => gk 84 f i (by decide) (by decide) (by decide) (by decide)), ?_, ?_, ?_, fun f i hf hi => ?_, fun f i hf hi => ?_, fun f i hf hi => ?_, fun f i hf hi => ?_, fun f i hf hi => ?_, fun f hf => ?_⟩, fun k' f i q => ?_⟩
  · rw [g1 2 (by decide), nn 2 (by decide), h.n2]
  · rw [g1 3 (by decide)]
    unfold ag_nn
    rw [if_pos rfl, h.n3]
  · rw [g1 4 (by decide), nn 4 (by decide), h.n4]
  · rw [gk 0 f _ (by decide) (by decide) (by decide) (by decide), amA_k (by decide)]
    exact h.c0 f i hf hi
  · rw [gk 1 f _ (by decide) (by decide) (by decide) (by decide), amA_k (by decide)]
    exact h.c1 f i hf hi
  · rw [gk 2 f _ (by decide) (by decide) (by decide) (by decide), amA_k (by decide)]
    exact h.c2 f i hf hi
  · refine col f i hf hi ?_
    by_cases e : i = na
    · exact .inr e
    · exact .inl (h.c3 f i hf (by omega))
  · rw [gk 4 f _ (by decide) (by decide) (by decide) (by decide), amA_k (by decide)]
    exact h.c4 f i hf hi
  · rw [gk 5 f _ (by decide) (by decide) (by decide) (by decide), amA_k (by decide)]
    exact h.c5 f hf
  · have d : ∀ k0, ¬ isR k0 → k' ≠ k0 := fun k0 q0 e => q0 (e ▸ q)
    exact gk k' f i (d _ (by decide)) (d _ (by decide)) (d _ (by decide)) (d _ (by decide))
def gxA (A : TT) (ng : Nat) (l r y c u : Int32) : TT := tU (tU (tU (tU (tU (tU (tU (tU A 4 0 ng (l)) 4 1 ng (r)) 4 2 ng (c)) 4 3 ng (u)) 4 4 ng (y)) 4 5 ng (0)) 4 6 ng (0)) 4 7 ng (0)
theorem gxA_ne {A : TT} {ng : Nat} {l r y c u : Int32} {k f i : Nat} (h : ¬ (k = 4 ∧ i = ng)) : gxA A ng l r y c u k f i = A k f i := by
  unfold gxA
  rw [tU_ne (fun e => h ⟨e.1, e.2.2⟩), tU_ne (fun e => h ⟨e.1, e.2.2⟩), tU_ne (fun e => h ⟨e.1, e.2.2⟩), tU_ne (fun e => h ⟨e.1, e.2.2⟩), tU_ne (fun e => h ⟨e.1, e.2.2⟩), tU_ne (fun e => h ⟨e.1, e.2.2⟩), tU_ne (fun e => h ⟨e.1, e.2.2⟩), tU_ne (fun e => h ⟨e.1, e.2.2⟩)]
theorem gxA_k {A : TT} {ng : Nat} {l r y c u : Int32} {k f i : Nat} (h : ¬ k = 4) : gxA A ng l r y c u k f i = A k f i := gxA_ne fun e => h e.1
theorem gxA_i {A : TT} {ng : Nat} {l r y c u : Int32} {k f i : Nat} (h : i < ng) : gxA A ng l r y c u k f i = A k f i := gxA_ne fun e => absurd e.2 (by omega)
theorem gxA_0 {A : TT} {ng : Nat} {l r y c u : Int32} : gxA A ng l r y c u 4 0 ng = l := by simp [gxA, tU]
theorem gxA_1 {A : TT} {ng : Nat} {l r y c u : Int32} : gxA A ng l r y c u 4 1 ng = r := by simp [gxA, tU]
theorem gxA_2 {A : TT} {ng : Nat} {l r y c u : Int32} : gxA A ng l r y c u 4 2 ng = c := by simp [gxA, tU]
theorem gxA_3 {A : TT} {ng : Nat} {l r y c u : Int32} : gxA A ng l r y c u 4 3 ng = u := by simp [gxA, tU]
theorem gxA_4 {A : TT} {ng : Nat} {l r y c u : Int32} : gxA A ng l r y c u 4 4 ng = y := by simp [gxA, tU]
theorem gxA_5 {A : TT} {ng : Nat} {l r y c u : Int32} : gxA A ng l r y c u 4 5 ng = 0 := by simp [gxA, tU]
theorem gxA_6 {A : TT} {ng : Nat} {l r y c u : Int32} : gxA A ng l r y c u 4 6 ng = 0 := by simp [gxA, tU]
theorem gxA_7 {A : TT} {ng : Nat} {l r y c u : Int32} : gxA A ng l r y c u 4 7 ng = 0 := by simp [gxA, tU]
theorem gx_new {fu ng : Nat} {A : TT} {l r y c u : Int32} {s : ag_S} : ∃ s0, f_X1_init fu (nI ng) l r y c u (ag_s0 s 4 (nI ng)) = some s0 ∧ (∀ k f i, ¬ (k = 4 ∧ i = nI ng) → s0 k f i = s k f i) ∧ ∀ f, f < 8 → s0 4 f (nI ng) = gxA A ng l r y c u 4 f ng := by
  refine ⟨_, rfl, fun k f i h => ?_, fun f hf => ?_⟩
  · rw [ag_up_ne (fun e => h ⟨e.1, e.2.2⟩), ag_up_ne (fun e => h ⟨e.1, e.2.2⟩), ag_up_ne (fun e => h ⟨e.1, e.2.2⟩), ag_up_ne (fun e => h ⟨e.1, e.2.2⟩), ag_up_ne (fun e => h ⟨e.1, e.2.2⟩), ag_up_ne (fun e => h ⟨e.1, e.2.2⟩), ag_up_ne (fun e => h ⟨e.1, e.2.2⟩), ag_up_ne (fun e => h ⟨e.1, e.2.2⟩)]
    unfold ag_s0
    rw [if_neg h]
  · have : f = 0 ∨ f = 1 ∨ f = 2 ∨ f = 3 ∨ f = 4 ∨ f = 5 ∨ f = 6 ∨ f = 7 := by omega
    rcases this with rfl | rfl | rfl | rfl | rfl | rfl | rfl | rfl
    · rw [gxA_0]
      simp [ag_up]
    · rw [gxA_1]
      simp [ag_up]
    · rw [gxA_2]
      simp [ag_up]
    · rw [gxA_3]
      simp [ag_up]
    · rw [gxA_4]
      simp [ag_up]
    · rw [gxA_5]
      simp [ag_up]
    · rw [gxA_6]
      simp [ag_up]
    · rw [gxA_7]
      simp [ag_up]
theorem gx_add {fu : Nat} {A : TT} {nl na ng : Nat} {l r y c u : Int32} {n : ag_N} {s : ag_S} (h : ClS A nl na ng n s) (hN : ng < 40) : ∃ s0, f_X1_init fu (nI ng) l r y c u (ag_s0 s 4 (nI ng)) = some s0 ∧ ∃ n1 s1, f_Jx4a65c_add_9ea2d_4 fu (nI ng) (ag_nn n 4) s0 = some (1, (n1, s1)) ∧ ClS (gxA A ng l r y c u) nl na (ng + 1) n1 s1 ∧ frC s s1 := by
  obtain ⟨s0, e0, f0, v0⟩ := gx_new (fu := fu) (A := A) (s := s) (ng := ng) (l := l) (r := r) (y := y) (c := c) (u := u)
  refine ⟨s0, e0, ?_⟩
  have b2 := h.l2.le
  have b3 := h.l3.le
  have b4 := h.l4.le
  have nn : ∀ k', k' ≠ 4 → ag_nn n 4 k' = n k' := fun k' q => by
    unfold ag_nn
    rw [if_neg q]
  have fk : ∀ k' f i, k' ≠ 4 → s0 k' f i = s k' f i := fun k' f i q => f0 k' f i fun e => q e.1
  have L : LL (ag_nn n 4) 14 24 84 ng s0 := h.l4.same (nn _ (by decide)) (fun f i => fk _ f i (by decide)) (fun f i => fk _ f i (by decide)) (fun f i => fk _ f i (by decide))
  obtain ⟨n1, s1, e1, L1, g1, g2⟩ := L.add4 (fu := fu) (by omega)
  have gk : ∀ k' f i, k' ≠ 4 → k' ≠ 14 → k' ≠ 24 → k' ≠ 84 → s1 k' f i = s k' f i := fun k' f i q q1 q2 q3 => (g2 k' f i q1 q2 q3).trans (fk k' f i q)
  have col : ∀ f i, f < 8 → i < ng + 1 → s 4 f (nI i) = A 4 f i ∨ i = ng → s1 4 f (nI i) = gxA A ng l r y c u 4 f i := fun f i hf hi q => by
    rw [g2 4 f (nI i) (by decide) (by decide) (by decide)]
    by_cases e : i = ng
    · subst e
      exact v0 f hf
    · rw [f0 _ _ _ (fun q => e ((nI_eq (p31 (by omega)) (p31 (by omega))).mp q.2)), gxA_ne (fun q => e q.2)]
      exact q.resolve_right e
  refine ⟨n1, s1, e1, ⟨h.l0.same ((g1 20 (by decide)).trans (nn 20 (by decide))) (fun f i => gk 10 f i (by decide) (by decide) (by decide) (by decide)) (fun f i => gk 20 f i (by decide) (by decide) (by decide) (by decide)) (fun f i => gk 80 f i (by decide) (by decide) (by decide) (by decide)), h.l1.same ((g1 21 (by decide)).trans (nn 21 (by decide))) (fun f i => gk 11 f i (by decide) (by decide) (by decide) (by decide)) (fun f i => gk 21 f i (by decide) (by decide) (by decide) (by decide)) (fun f i => gk 81 f i (by decide) (by decide) (by decide) (by decide)), h.l2.same ((g1 22 (by decide)).trans (nn 22 (by decide))) (fun f i => gk 12 f i (by decide) (by decide) (by decide) (by decide)) (fun f i => gk 22 f i (by decide) (by decide) (by decide) (by decide)) (fun f i => gk 82 f i (by decide) (by decide) (by decide) (by decide)), h.l3.same ((g1 23 (by decide)).trans (nn 23 (by decide))) (fun f i => gk 13 f i (by decide) (by decide) (by decide) (by decide)) (fun f i => gk 23 f i (by decide) (by decide) (by decide) (by decide)) (fun f i => gk 83 f i (by decide) (by decide) (by decide) (by decide)), L1, ?_, ?_, ?_, fun f i hf hi => ?_, fun f i hf hi => ?_, fun f i hf hi => ?_, fun f i hf hi => ?_, fun f i hf hi => ?_, fun f hf => ?_⟩, fun k' f i q => ?_⟩
  · rw [g1 2 (by decide), nn 2 (by decide), h.n2]
  · rw [g1 3 (by decide), nn 3 (by decide), h.n3]
  · rw [g1 4 (by decide)]
    unfold ag_nn
    rw [if_pos rfl, h.n4]
  · rw [gk 0 f _ (by decide) (by decide) (by decide) (by decide), gxA_k (by decide)]
    exact h.c0 f i hf hi
  · rw [gk 1 f _ (by decide) (by decide) (by decide) (by decide), gxA_k (by decide)]
    exact h.c1 f i hf hi
  · rw [gk 2 f _ (by decide) (by decide) (by decide) (by decide), gxA_k (by decide)]
    exact h.c2 f i hf hi
  · rw [gk 3 f _ (by decide) (by decide) (by decide) (by decide), gxA_k (by decide)]
    exact h.c3 f i hf hi
  · refine col f i hf hi ?_
    by_cases e : i = ng
    · exact .inr e
    · exact .inl (h.c4 f i hf (by omega))
  · rw [gk 5 f _ (by decide) (by decide) (by decide) (by decide), gxA_k (by decide)]
    exact h.c5 f hf
  · have d : ∀ k0, ¬ isR k0 → k' ≠ k0 := fun k0 q0 e => q0 (e ▸ q)
    exact gk k' f i (d _ (by decide)) (d _ (by decide)) (d _ (by decide)) (d _ (by decide))
