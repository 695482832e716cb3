/-! ===== lists, read ===== -/
theorem p31 {n : Nat} (h : n ≤ 1000) : n < 2 ^ 31 := ag_1000 h
/-- list k (its arrays a, their lengths b) holds 0 .. N-1 -/
def LL (n : ag_N) (k a b N : Nat) (s : ag_S) : Prop := s k 2 0 = nI N ∧ N ≤ 60 ∧ n a ≤ N ∧ (if N = 0 then s k 1 0 = -2 else ∃ w cap : Nat, w < n a ∧ s k 1 0 = nI w ∧ s b 0 (nI w) = nI cap ∧ N ≤ cap ∧ cap ≤ 90 ∧ ∀ q, q < N → s a w (nI q) = nI q)
theorem bd_some {α β : Type} {x : α} {k : α → Option β} : ag_bd (some x) k = k x := rfl
theorem bt_inl {α : Type} {r : Int32} {s : ag_S} {k : Int32 → ag_S → Option ((Int32 ⊕ Int32) × α)} {g : ag_S → α} : ag_bt (some (.inl r, s)) k g = k r s := rfl
theorem bt_inr {α : Type} {r : Int32} {s : ag_S} {k : Int32 → ag_S → Option ((Int32 ⊕ Int32) × α)} {g : ag_S → α} : ag_bt (some (.inr r, s)) k g = some (.inr r, g s) := rfl
theorem bc_inl {σ α : Type} {r : Int32} {s : σ} {k h : Int32 → σ → Option α} : ag_bc (some (.inl r, s)) k h = k r s := rfl
theorem bc_inr {σ α : Type} {r : Int32} {s : σ} {k h : Int32 → σ → Option α} : ag_bc (some (.inr r, s)) k h = h r s := rfl
theorem chk {fu : Nat} {s : ag_S} {q N : Nat} (hq : q < N) (hN : N ≤ 1000) : f_J15_checkIndex_7cf53 fu (nI q) (nI N) s = some (nI q) := by
  unfold f_J15_checkIndex_7cf53 f_J3_checkIndex_8e157
  rw [if_neg (nI_pos (p31 (by omega))), if_pos (nI_lt hq (p31 hN))]
  rfl
theorem LL.sz {n : ag_N} {k a b N : Nat} {s : ag_S} (h : LL n k a b N s) : s k 2 0 = nI N := h.1
theorem LL.le {n : ag_N} {k a b N : Nat} {s : ag_S} (h : LL n k a b N s) : N ≤ 60 := h.2.1
/-- what else changes is nothing to a list -/
theorem LL.same {n n' : ag_N} {k a b N : Nat} {s s' : ag_S} (h : LL n k a b N s) (hn : n' a = n a) (h1 : ∀ f i, s' k f i = s k f i) (h2 : ∀ f i, s' a f i = s a f i) (h3 : ∀ f i, s' b f i = s b f i) : LL n' k a b N s' := by
  unfold LL
  simp only [hn, h1, h2, h3]
  exact h
theorem LL.get0 {n : ag_N} {N fu q : Nat} {s : ag_S} (h : LL n 10 20 80 N s) (hq : q < N) : f_Jx4a65c_get_915e3_0 fu (nI q) s = some (nI q) := by
  obtain ⟨h1, h2, h9, h3⟩ := h
  rw [if_neg (by omega)] at h3
  obtain ⟨w, cap, a1, a2, a3, a4, a5, a6⟩ := h3
  have hw1 : ¬ (nI w = -1 ∨ nI w = -2) := by
    have hw := a2
    intro e
    have hp : ¬ nI w < 0 := nI_pos (p31 (by omega))
    rcases e with e | e <;> (rw [e] at hp; exact hp (by decide))
  have hq9 : ¬ nI q = -1 := by
    intro e
    have hp : ¬ nI q < 0 := nI_pos (p31 (by omega))
    rw [e] at hp
    exact hp (by decide)
  have hc : (nI w).toNatClampNeg = w := nI_clamp (p31 (by omega))
  unfold f_Jx4a65c_get_915e3_0
  rw [h1, chk hq (by omega), bd_some]
  unfold f_Jx4a65c_elementData_915e3_0
  rw [a2, if_neg hw1, a3, nI_clamp (p31 (by omega)), if_neg (nI_in (by omega) (p31 (by omega))), hc, a6 q hq, if_neg hq9, bd_some]
theorem LL.size0 {n : ag_N} {N fu : Nat} {s : ag_S} (h : LL n 10 20 80 N s) : f_Jx4a65c_size_8abf5_0 fu s = some (nI N) := by
  unfold f_Jx4a65c_size_8abf5_0
  rw [h.1]
theorem LL.get1 {n : ag_N} {N fu q : Nat} {s : ag_S} (h : LL n 11 21 81 N s) (hq : q < N) : f_Jx4a65c_get_915e3_1 fu (nI q) s = some (nI q) := by
  obtain ⟨h1, h2, h9, h3⟩ := h
  rw [if_neg (by omega)] at h3
  obtain ⟨w, cap, a1, a2, a3, a4, a5, a6⟩ := h3
  have hw1 : ¬ (nI w = -1 ∨ nI w = -2) := by
    have hw := a2
    intro e
    have hp : ¬ nI w < 0 := nI_pos (p31 (by omega))
    rcases e with e | e <;> (rw [e] at hp; exact hp (by decide))
  have hq9 : ¬ nI q = -1 := by
    intro e
    have hp : ¬ nI q < 0 := nI_pos (p31 (by omega))
    rw [e] at hp
    exact hp (by decide)
  have hc : (nI w).toNatClampNeg = w := nI_clamp (p31 (by omega))
  unfold f_Jx4a65c_get_915e3_1
  rw [h1, chk hq (by omega), bd_some]
  unfold f_Jx4a65c_elementData_915e3_1
  rw [a2, if_neg hw1, a3, nI_clamp (p31 (by omega)), if_neg (nI_in (by omega) (p31 (by omega))), hc, a6 q hq, if_neg hq9, bd_some]
theorem LL.size1 {n : ag_N} {N fu : Nat} {s : ag_S} (h : LL n 11 21 81 N s) : f_Jx4a65c_size_8abf5_1 fu s = some (nI N) := by
  unfold f_Jx4a65c_size_8abf5_1
  rw [h.1]
theorem LL.get2 {n : ag_N} {N fu q : Nat} {s : ag_S} (h : LL n 12 22 82 N s) (hq : q < N) : f_Jx4a65c_get_915e3_2 fu (nI q) s = some (nI q) := by
  obtain ⟨h1, h2, h9, h3⟩ := h
  rw [if_neg (by omega)] at h3
  obtain ⟨w, cap, a1, a2, a3, a4, a5, a6⟩ := h3
  have hw1 : ¬ (nI w = -1 ∨ nI w = -2) := by
    have hw := a2
    intro e
    have hp : ¬ nI w < 0 := nI_pos (p31 (by omega))
    rcases e with e | e <;> (rw [e] at hp; exact hp (by decide))
  have hq9 : ¬ nI q = -1 := by
    intro e
    have hp : ¬ nI q < 0 := nI_pos (p31 (by omega))
    rw [e] at hp
    exact hp (by decide)
  have hc : (nI w).toNatClampNeg = w := nI_clamp (p31 (by omega))
  unfold f_Jx4a65c_get_915e3_2
  rw [h1, chk hq (by omega), bd_some]
  unfold f_Jx4a65c_elementData_915e3_2
  rw [a2, if_neg hw1, a3, nI_clamp (p31 (by omega)), if_neg (nI_in (by omega) (p31 (by omega))), hc, a6 q hq, if_neg hq9, bd_some]
theorem LL.size2 {n : ag_N} {N fu : Nat} {s : ag_S} (h : LL n 12 22 82 N s) : f_Jx4a65c_size_8abf5_2 fu s = some (nI N) := by
  unfold f_Jx4a65c_size_8abf5_2
  rw [h.1]
theorem LL.get3 {n : ag_N} {N fu q : Nat} {s : ag_S} (h : LL n 13 23 83 N s) (hq : q < N) : f_Jx4a65c_get_915e3_3 fu (nI q) s = some (nI q) := by
  obtain ⟨h1, h2, h9, h3⟩ := h
  rw [if_neg (by omega)] at h3
  obtain ⟨w, cap, a1, a2, a3, a4, a5, a6⟩ := h3
  have hw1 : ¬ (nI w = -1 ∨ nI w = -2) := by
    have hw := a2
    intro e
    have hp : ¬ nI w < 0 := nI_pos (p31 (by omega))
    rcases e with e | e <;> (rw [e] at hp; exact hp (by decide))
  have hq9 : ¬ nI q = -1 := by
    intro e
    have hp : ¬ nI q < 0 := nI_pos (p31 (by omega))
    rw [e] at hp
    exact hp (by decide)
  have hc : (nI w).toNatClampNeg = w := nI_clamp (p31 (by omega))
  unfold f_Jx4a65c_get_915e3_3
  rw [h1, chk hq (by omega), bd_some]
  unfold f_Jx4a65c_elementData_915e3_3
  rw [a2, if_neg hw1, a3, nI_clamp (p31 (by omega)), if_neg (nI_in (by omega) (p31 (by omega))), hc, a6 q hq, if_neg hq9, bd_some]
theorem LL.size3 {n : ag_N} {N fu : Nat} {s : ag_S} (h : LL n 13 23 83 N s) : f_Jx4a65c_size_8abf5_3 fu s = some (nI N) := by
  unfold f_Jx4a65c_size_8abf5_3
  rw [h.1]
theorem LL.get4 {n : ag_N} {N fu q : Nat} {s : ag_S} (h : LL n 14 24 84 N s) (hq : q < N) : f_Jx4a65c_get_915e3_4 fu (nI q) s = some (nI q) := by
  obtain ⟨h1, h2, h9, h3⟩ := h
  rw [if_neg (by omega)] at h3
  obtain ⟨w, cap, a1, a2, a3, a4, a5, a6⟩ := h3
  have hw1 : ¬ (nI w = -1 ∨ nI w = -2) := by
    have hw := a2
    intro e
    have hp : ¬ nI w < 0 := nI_pos (p31 (by omega))
    rcases e with e | e <;> (rw [e] at hp; exact hp (by decide))
  have hq9 : ¬ nI q = -1 := by
    intro e
    have hp : ¬ nI q < 0 := nI_pos (p31 (by omega))
    rw [e] at hp
    exact hp (by decide)
  have hc : (nI w).toNatClampNeg = w := nI_clamp (p31 (by omega))
  unfold f_Jx4a65c_get_915e3_4
  rw [h1, chk hq (by omega), bd_some]
  unfold f_Jx4a65c_elementData_915e3_4
  rw [a2, if_neg hw1, a3, nI_clamp (p31 (by omega)), if_neg (nI_in (by omega) (p31 (by omega))), hc, a6 q hq, if_neg hq9, bd_some]
theorem LL.size4 {n : ag_N} {N fu : Nat} {s : ag_S} (h : LL n 14 24 84 N s) : f_Jx4a65c_size_8abf5_4 fu s = some (nI N) := by
  unfold f_Jx4a65c_size_8abf5_4
  rw [h.1]
