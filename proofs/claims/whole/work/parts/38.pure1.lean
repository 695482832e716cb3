/-! ===== lists, read ===== -/
theorem p31 {n : Nat} (h : n ≤ 1000) : n < 2 ^ 31 := ag_1000 h
/-- list k (its arrays a, their lengths b) holds 0 .. N-1 -/
def LL (n : ag_N) (k a b N : Nat) (s : ag_S) : Prop := s k 2 0 = nI N ∧ N ≤ 60 ∧ n a ≤ N ∧ (if N = 0 then s k 1 0 = -2 else ∃ w cap : Nat, w < n a ∧ s k 1 0 = nI w ∧ s b 0 (nI w) = nI cap ∧ N ≤ cap ∧ (cap = 10 ∨ cap = 15 ∨ cap = 22 ∨ cap = 33 ∨ cap = 49) ∧ ∀ q, q < N → s a w (nI q) = nI q)
theorem bd_some {α β : Type} {x : α} {k : α → Option β} : ag_bd (some x) k = k x := rfl
theorem bt_inl {α : Type} {r : Int32} {s : ag_S} {k : Int32 → ag_S → Option ((Int32 ⊕ Int32) × α)} {g : ag_S → α} : ag_bt (some (.inl r, s)) k g = k r s := rfl
theorem bt_inr {α : Type} {r : Int32} {s : ag_S} {k : Int32 → ag_S → Option ((Int32 ⊕ Int32) × α)} {g : ag_S → α} : ag_bt (some (.inr r, s)) k g = some (.inr r, g s) := rfl
theorem bc_inl {σ α : Type} {r : Int32} {s : σ} {k h : Int32 → σ → Option α} : ag_bc (some (.inl r, s)) k h = k r s := rfl
theorem bc_inr {σ α : Type} {r : Int32} {s : σ} {k h : Int32 → σ → Option α} : ag_bc (some (.inr r, s)) k h = h r s := rfl
theorem chk {fu : Nat} {s : ag_S} {q N : Nat} (hq : q < N) (hN : N ≤ 1000) : f_J15_checkIndex_7cf53 fu (nI q) (nI N) s = some (nI q) := by
  unfold f_J15_checkIndex_7cf53 f_J3_checkIndex_8e157
  rw [if_neg (nI_pos (p31 (by omega))), if_pos (nI_lt hq (p31 hN))]
  rfl
theorem LL.sz {n : ag_N} {k a b N : Nat} {s : ag_S} (h : LL n k a b N s) : s k 2 0 = nI N := h.1
theorem LL.le {n : ag_N} {k a b N : Nat} {s : ag_S} (h : LL n k a b N s) : N ≤ 60 := h.2.1
/-- what else changes is nothing to a list -/
theorem LL.same {n n' : ag_N} {k a b N : Nat} {s s' : ag_S} (h : LL n k a b N s) (hn : n' a = n a) (h1 : ∀ f i, s' k f i = s k f i) (h2 : ∀ f i, s' a f i = s a f i) (h3 : ∀ f i, s' b f i = s b f i) : LL n' k a b N s' := by
  unfold LL
  simp only [hn, h1, h2, h3]
  exact h
theorem LL.get0 {n : ag_N} {N fu q : Nat} {s : ag_S} (h : LL n 10 20 80 N s) (hq : q < N) : f_Jx4a65c_get_915e3_0 fu (nI q) s = some (nI q) := by
  obtain ⟨h1, h2, h9, h3⟩ := h
  rw [if_neg (by omega)] at h3
  obtain ⟨w, cap, a1, a2, a3, a4, a5, a6⟩ := h3
  have hw1 : ¬ (nI w = -1 ∨ nI w = -2) := by
    have hw := a2
    intro e
    have hp : ¬ nI w < 0 := nI_pos (p31 (by omega))
    rcases e with e | e <;> (rw [e] at hp; exact hp (by decide))
  have hq9 : ¬ nI q = -1 := by
    intro e
    have hp : ¬ nI q < 0 := nI_pos (p31 (by omega))
    rw [e] at hp
    exact hp (by decide)
  have hc : (nI w).toNatClampNeg = w := nI_clamp (p31 (by omega))
  unfold f_Jx4a65c_get_915e3_0
  rw [h1, chk hq (by omega), bd_some]
  unfold f_Jx4a65c_elementData_915e3_0
  rw [a2, if_neg hw1, a3, nI_clamp (p31 (by omega)), if_neg (nI_in (by omega) (p31 (by omega))), hc, a6 q hq, if_neg hq9, bd_some]
theorem LL.size0 {n : ag_N} {N fu : Nat} {s : ag_S} (h : LL n 10 20 80 N s) : f_Jx4a65c_size_8abf5_0 fu s = some (nI N) := by
  unfold f_Jx4a65c_size_8abf5_0
  rw [h.1]
theorem LL.get1 {n : ag_N} {N fu q : Nat} {s : ag_S} (h : LL n 11 21 81 N s) (hq : q < N) : f_Jx4a65c_get_915e3_1 fu (nI q) s = some (nI q) := by
  obtain ⟨h1, h2, h9, h3⟩ := h
  rw [if_neg (by omega)] at h3
  obtain ⟨w, cap, a1, a2, a3, a4, a5, a6⟩ := h3
  have hw1 : ¬ (nI w = -1 ∨ nI w = -2) := by
    have hw := a2
    intro e
    have hp : ¬ nI w < 0 := nI_pos (p31 (by omega))
    rcases e with e | e <;> (rw [e] at hp; exact hp (by decide))
  have hq9 : ¬ nI q = -1 := by
    intro e
    have hp : ¬ nI q < 0 := nI_pos (p31 (by omega))
    rw [e] at hp
    exact hp (by decide)
  have hc : (nI w).toNatClampNeg = w := nI_clamp (p31 (by omega))
  unfold f_Jx4a65c_get_915e3_1
  rw [h1, chk hq (by omega), bd_some]
  unfold f_Jx4a65c_elementData_915e3_1
  rw [a2, if_neg hw1, a3, nI_clamp (p31 (by omega)), if_neg (nI_in (by omega) (p31 (by omega))), hc, a6 q hq, if_neg hq9, bd_some]
theorem LL.size1 {n : ag_N} {N fu : Nat} {s : ag_S} (h : LL n 11 21 81 N s) : f_Jx4a65c_size_8abf5_1 fu s = some (nI N) := by
  unfold f_Jx4a65c_size_8abf5_1
  rw [h.1]
theorem LL.get2 {n : ag_N} {N fu q : Nat} {s : ag_S} (h : LL n 12 22 82 N s) (hq : q < N) : f_Jx4a65c_get_915e3_2 fu (nI q) s = some (nI q) := by
  obtain ⟨h1, h2, h9, h3⟩ := h
  rw [if_neg (by omega)] at h3
  obtain ⟨w, cap, a1, a2, a3, a4, a5, a6⟩ := h3
  have hw1 : ¬ (nI w = -1 ∨ nI w = -2) := by
    have hw := a2
    intro e
    have hp : ¬ nI w < 0 := nI_pos (p31 (by omega))
    rcases e with e | e <;> (rw [e] at hp; exact hp (by decide))
  have hq9 : ¬ nI q = -1 := by
    intro e
    have hp : ¬ nI q < 0 := nI_pos (p31 (by omega))
    rw [e] at hp
    exact hp (by decide)
  have hc : (nI w).toNatClampNeg = w := nI_clamp (p31 (by omega))
  unfold f_Jx4a65c_get_915e3_2
  rw [h1, chk hq (by omega), bd_some]
  unfold f_Jx4a65c_elementData_915e3_2
  rw [a2, if_neg hw1, a3, nI_clamp (p31 (by omega)), if_neg (nI_in (by omega) (p31 (by omega))), hc, a6 q hq, if_neg hq9, bd_some]
theorem LL.size2 {n : ag_N} {N fu : Nat} {s : ag_S} (h : LL n 12 22 82 N s) : f_Jx4a65c_size_8abf5_2 fu s = some (nI N) := by
  unfold f_Jx4a65c_size_8abf5_2
  rw [h.1]
theorem LL.get3 {n : ag_N} {N fu q : Nat} {s : ag_S} (h : LL n 13 23 83 N s) (hq : q < N) : f_Jx4a65c_get_915e3_3 fu (nI q) s = some (nI q) := by
  obtain ⟨h1, h2, h9, h3⟩ := h
  rw [if_neg (by omega)] at h3
  obtain ⟨w, cap, a1, a2, a3, a4, a5, a6⟩ := h3
  have hw1 : ¬ (nI w = -1 ∨ nI w = -2) := by
    have hw := a2
    intro e
    have hp : ¬ nI w < 0 := nI_pos (p31 (by omega))
    rcases e with e | e <;> (rw [e] at hp; exact hp (by decide))
  have hq9 : ¬ nI q = -1 := by
    intro e
    have hp : ¬ nI q < 0 := nI_pos (p31 (by omega))
    rw [e] at hp
    exact hp (by decide)
  have hc : (nI w).toNatClampNeg = w := nI_clamp (p31 (by omega))
  unfold f_Jx4a65c_get_915e3_3
  rw [h1, chk hq (by omega), bd_some]
  unfold f_Jx4a65c_elementData_915e3_3
  rw [a2, if_neg hw1, a3, nI_clamp (p31 (by omega)), if_neg (nI_in (by omega) (p31 (by omega))), hc, a6 q hq, if_neg hq9, bd_some]
theorem LL.size3 {n : ag_N} {N fu : Nat} {s : ag_S} (h : LL n 13 23 83 N s) : f_Jx4a65c_size_8abf5_3 fu s = some (nI N) := by
  unfold f_Jx4a65c_size_8abf5_3
  rw [h.1]
theorem LL.get4 {n : ag_N} {N fu q : Nat} {s : ag_S} (h : LL n 14 24 84 N s) (hq : q < N) : f_Jx4a65c_get_915e3_4 fu (nI q) s = some (nI q) := by
  obtain ⟨h1, h2, h9, h3⟩ := h
  rw [if_neg (by omega)] at h3
  obtain ⟨w, cap, a1, a2, a3, a4, a5, a6⟩ := h3
  have hw1 : ¬ (nI w = -1 ∨ nI w = -2) := by
    have hw := a2
    intro e
    have hp : ¬ nI w < 0 := nI_pos (p31 (by omega))
    rcases e with e | e <;> (rw [e] at hp; exact hp (by decide))
  have hq9 : ¬ nI q = -1 := by
    intro e
    have hp : ¬ nI q < 0 := nI_pos (p31 (by omega))
    rw [e] at hp
    exact hp (by decide)
  have hc : (nI w).toNatClampNeg = w := nI_clamp (p31 (by omega))
  unfold f_Jx4a65c_get_915e3_4
  rw [h1, chk hq (by omega), bd_some]
  unfold f_Jx4a65c_elementData_915e3_4
  rw [a2, if_neg hw1, a3, nI_clamp (p31 (by omega)), if_neg (nI_in (by omega) (p31 (by omega))), hc, a6 q hq, if_neg hq9, bd_some]
theorem LL.size4 {n : ag_N} {N fu : Nat} {s : ag_S} (h : LL n 14 24 84 N s) : f_Jx4a65c_size_8abf5_4 fu s = some (nI N) := by
  unfold f_Jx4a65c_size_8abf5_4
  rw [h.1]
theorem nI_neg1 {w : Nat} (h : w ≤ 1000) : ¬ nI w = -1 ∧ ¬ nI w = -2 := by
  have hp : ¬ nI w < 0 := nI_pos (p31 h)
  exact ⟨fun e => by rw [e] at hp; exact hp (by decide), fun e => by rw [e] at hp; exact hp (by decide)⟩
theorem ag_lnI {s : ag_S} {b w cap : Nat} (hw : w ≤ 1000) (hc : cap ≤ 1000) (h : s b 0 (nI w) = nI cap) : ag_ln s b (nI w) = nI cap := by
  unfold ag_ln
  rw [if_neg (nI_neg1 hw).2, h, nI_clamp (p31 hc)]
theorem newLen {fu : Nat} {s : ag_S} {cap : Nat} (h : cap = 10 ∨ cap = 15 ∨ cap = 22 ∨ cap = 33) : ∃ c2 : Nat, (c2 = 15 ∨ c2 = 22 ∨ c2 = 33 ∨ c2 = 49) ∧ cap < c2 ∧ f_J8_newLength_cabcc fu (nI cap) (nI cap + 1 - nI cap) (nI cap >>> ((1 : Int32) &&& 31)) s = some (nI c2) := by
  rcases h with rfl | rfl | rfl | rfl
  · exact ⟨15, by decide, by decide, by unfold f_J8_newLength_cabcc; decide +kernel⟩
  · exact ⟨22, by decide, by decide, by unfold f_J8_newLength_cabcc; decide +kernel⟩
  · exact ⟨33, by decide, by decide, by unfold f_J8_newLength_cabcc; decide +kernel⟩
  · exact ⟨49, by decide, by decide, by unfold f_J8_newLength_cabcc; decide +kernel⟩
theorem copy0 {fu : Nat} {n : ag_N} {s : ag_S} {w cap c2 : Nat} (hw : w < n 20) (hn : n 20 ≤ 60) (hc : s 80 0 (nI w) = nI cap) (hcap : cap < c2) (h2 : c2 ≤ 60) : f_J7_copyOf_1904c_0 fu (nI w) (nI c2) n s = some (nI (n 20), (ag_nn n 20, ag_sc (ag_s3 s 20 (n 20) (nI c2)) 20 w (n 20) cap)) := by
  have hne : ¬ nI w = nI (n 20) := fun e => by
    have := (nI_eq (p31 (by omega)) (p31 (by omega))).mp e
    omega
  have e1 : ag_s3 s 20 (n 20) (nI c2) 80 0 (nI w) = nI cap := (ag_s3_len2 (k := 20) hne).trans hc
  have e2 : ag_s3 s 20 (n 20) (nI c2) 80 0 (nI (n 20)) = nI c2 := ag_s3_len (k := 20)
  unfold f_J7_copyOf_1904c_0 f_J7_copyOf_6403c_0
  rw [e1, e2, nI_clamp (p31 (by omega) : cap < 2 ^ 31), nI_clamp (p31 (by omega) : c2 < 2 ^ 31), if_neg (nI_nlt (by omega) (p31 (by omega)) : ¬ nI c2 < nI cap), nI_clamp (p31 (by omega) : cap < 2 ^ 31), nI_clamp (p31 (by omega) : w < 2 ^ 31), nI_clamp (p31 (by omega) : n 20 < 2 ^ 31)]
  rw [if_neg (by
    rintro (h | h | h)
    · omega
    · exact nI_pos (p31 (by omega)) h
    · omega), if_neg (by
    rintro (h | h | h | h)
    · exact nI_pos (p31 (by omega)) h
    · omega
    · omega
    · omega), bd_some]
theorem copy1 {fu : Nat} {n : ag_N} {s : ag_S} {w cap c2 : Nat} (hw : w < n 21) (hn : n 21 ≤ 60) (hc : s 81 0 (nI w) = nI cap) (hcap : cap < c2) (h2 : c2 ≤ 60) : f_J7_copyOf_1904c_1 fu (nI w) (nI c2) n s = some (nI (n 21), (ag_nn n 21, ag_sc (ag_s3 s 21 (n 21) (nI c2)) 21 w (n 21) cap)) := by
  have hne : ¬ nI w = nI (n 21) := fun e => by
    have := (nI_eq (p31 (by omega)) (p31 (by omega))).mp e
    omega
  have e1 : ag_s3 s 21 (n 21) (nI c2) 81 0 (nI w) = nI cap := (ag_s3_len2 (k := 21) hne).trans hc
  have e2 : ag_s3 s 21 (n 21) (nI c2) 81 0 (nI (n 21)) = nI c2 := ag_s3_len (k := 21)
  unfold f_J7_copyOf_1904c_1 f_J7_copyOf_6403c_1
  rw [e1, e2, nI_clamp (p31 (by omega) : cap < 2 ^ 31), nI_clamp (p31 (by omega) : c2 < 2 ^ 31), if_neg (nI_nlt (by omega) (p31 (by omega)) : ¬ nI c2 < nI cap), nI_clamp (p31 (by omega) : cap < 2 ^ 31), nI_clamp (p31 (by omega) : w < 2 ^ 31), nI_clamp (p31 (by omega) : n 21 < 2 ^ 31)]
  rw [if_neg (by
    rintro (h | h | h)
    · omega
    · exact nI_pos (p31 (by omega)) h
    · omega), if_neg (by
    rintro (h | h | h | h)
    · exact nI_pos (p31 (by omega)) h
    · omega
    · omega
    · omega), bd_some]
theorem copy2 {fu : Nat} {n : ag_N} {s : ag_S} {w cap c2 : Nat} (hw : w < n 22) (hn : n 22 ≤ 60) (hc : s 82 0 (nI w) = nI cap) (hcap : cap < c2) (h2 : c2 ≤ 60) : f_J7_copyOf_1904c_2 fu (nI w) (nI c2) n s = some (nI (n 22), (ag_nn n 22, ag_sc (ag_s3 s 22 (n 22) (nI c2)) 22 w (n 22) cap)) := by
  have hne : ¬ nI w = nI (n 22) := fun e => by
    have := (nI_eq (p31 (by omega)) (p31 (by omega))).mp e
    omega
  have e1 : ag_s3 s 22 (n 22) (nI c2) 82 0 (nI w) = nI cap := (ag_s3_len2 (k := 22) hne).trans hc
  have e2 : ag_s3 s 22 (n 22) (nI c2) 82 0 (nI (n 22)) = nI c2 := ag_s3_len (k := 22)
  unfold f_J7_copyOf_1904c_2 f_J7_copyOf_6403c_2
  rw [e1, e2, nI_clamp (p31 (by omega) : cap < 2 ^ 31), nI_clamp (p31 (by omega) : c2 < 2 ^ 31), if_neg (nI_nlt (by omega) (p31 (by omega)) : ¬ nI c2 < nI cap), nI_clamp (p31 (by omega) : cap < 2 ^ 31), nI_clamp (p31 (by omega) : w < 2 ^ 31), nI_clamp (p31 (by omega) : n 22 < 2 ^ 31)]
  rw [if_neg (by
    rintro (h | h | h)
    · omega
    · exact nI_pos (p31 (by omega)) h
    · omega), if_neg (by
    rintro (h | h | h | h)
    · exact nI_pos (p31 (by omega)) h
    · omega
    · omega
    · omega), bd_some]
theorem copy3 {fu : Nat} {n : ag_N} {s : ag_S} {w cap c2 : Nat} (hw : w < n 23) (hn : n 23 ≤ 60) (hc : s 83 0 (nI w) = nI cap) (hcap : cap < c2) (h2 : c2 ≤ 60) : f_J7_copyOf_1904c_3 fu (nI w) (nI c2) n s = some (nI (n 23), (ag_nn n 23, ag_sc (ag_s3 s 23 (n 23) (nI c2)) 23 w (n 23) cap)) := by
  have hne : ¬ nI w = nI (n 23) := fun e => by
    have := (nI_eq (p31 (by omega)) (p31 (by omega))).mp e
    omega
  have e1 : ag_s3 s 23 (n 23) (nI c2) 83 0 (nI w) = nI cap := (ag_s3_len2 (k := 23) hne).trans hc
  have e2 : ag_s3 s 23 (n 23) (nI c2) 83 0 (nI (n 23)) = nI c2 := ag_s3_len (k := 23)
  unfold f_J7_copyOf_1904c_3 f_J7_copyOf_6403c_3
  rw [e1, e2, nI_clamp (p31 (by omega) : cap < 2 ^ 31), nI_clamp (p31 (by omega) : c2 < 2 ^ 31), if_neg (nI_nlt (by omega) (p31 (by omega)) : ¬ nI c2 < nI cap), nI_clamp (p31 (by omega) : cap < 2 ^ 31), nI_clamp (p31 (by omega) : w < 2 ^ 31), nI_clamp (p31 (by omega) : n 23 < 2 ^ 31)]
  rw [if_neg (by
    rintro (h | h | h)
    · omega
    · exact nI_pos (p31 (by omega)) h
    · omega), if_neg (by
    rintro (h | h | h | h)
    · exact nI_pos (p31 (by omega)) h
    · omega
    · omega
    · omega), bd_some]
theorem copy4 {fu : Nat} {n : ag_N} {s : ag_S} {w cap c2 : Nat} (hw : w < n 24) (hn : n 24 ≤ 60) (hc : s 84 0 (nI w) = nI cap) (hcap : cap < c2) (h2 : c2 ≤ 60) : f_J7_copyOf_1904c_4 fu (nI w) (nI c2) n s = some (nI (n 24), (ag_nn n 24, ag_sc (ag_s3 s 24 (n 24) (nI c2)) 24 w (n 24) cap)) := by
  have hne : ¬ nI w = nI (n 24) := fun e => by
    have := (nI_eq (p31 (by omega)) (p31 (by omega))).mp e
    omega
  have e1 : ag_s3 s 24 (n 24) (nI c2) 84 0 (nI w) = nI cap := (ag_s3_len2 (k := 24) hne).trans hc
  have e2 : ag_s3 s 24 (n 24) (nI c2) 84 0 (nI (n 24)) = nI c2 := ag_s3_len (k := 24)
  unfold f_J7_copyOf_1904c_4 f_J7_copyOf_6403c_4
  rw [e1, e2, nI_clamp (p31 (by omega) : cap < 2 ^ 31), nI_clamp (p31 (by omega) : c2 < 2 ^ 31), if_neg (nI_nlt (by omega) (p31 (by omega)) : ¬ nI c2 < nI cap), nI_clamp (p31 (by omega) : cap < 2 ^ 31), nI_clamp (p31 (by omega) : w < 2 ^ 31), nI_clamp (p31 (by omega) : n 24 < 2 ^ 31)]
  rw [if_neg (by
    rintro (h | h | h)
    · omega
    · exact nI_pos (p31 (by omega)) h
    · omega), if_neg (by
    rintro (h | h | h | h)
    · exact nI_pos (p31 (by omega)) h
    · omega
    · omega
    · omega), bd_some]
