/-! ===== lists, read ===== -/
theorem p31 {n : Nat} (h : n ≤ 1000) : n < 2 ^ 31 := ag_1000 h
/-- list k (its arrays a, their lengths b) holds 0 .. N-1 -/
def LL (n : ag_N) (k a b N : Nat) (s : ag_S) : Prop := s k 2 0 = nI N ∧ N ≤ 60 ∧ n a ≤ N ∧ (if N = 0 then s k 1 0 = -2 else ∃ w cap : Nat, w < n a ∧ s k 1 0 = nI w ∧ s b 0 (nI w) = nI cap ∧ N ≤ cap ∧ (cap = 10 ∨ cap = 15 ∨ cap = 22 ∨ cap = 33 ∨ cap = 49) ∧ ∀ q, q < N → s a w (nI q) = nI q)
theorem bd_some {α β : Type} {x : α} {k : α → Option β} : ag_bd (some x) k = k x := rfl
theorem bt_inl {α : Type} {r : Int32} {s : ag_S} {k : Int32 → ag_S → Option ((Int32 ⊕ Int32) × α)} {g : ag_S → α} : ag_bt (some (.inl r, s)) k g = k r s := rfl
theorem bt_inr {α : Type} {r : Int32} {s : ag_S} {k : Int32 → ag_S → Option ((Int32 ⊕ Int32) × α)} {g : ag_S → α} : ag_bt (some (.inr r, s)) k g = some (.inr r, g s) := rfl
theorem bc_inl {σ α : Type} {r : Int32} {s : σ} {k h : Int32 → σ → Option α} : ag_bc (some (.inl r, s)) k h = k r s := rfl
theorem bc_inr {σ α : Type} {r : Int32} {s : σ} {k h : Int32 → σ → Option α} : ag_bc (some (.inr r, s)) k h = h r s := rfl
theorem chk {fu : Nat} {s : ag_S} {q N : Nat} (hq : q < N) (hN : N ≤ 1000) : f_J15_checkIndex_7cf53 fu (nI q) (nI N) s = some (nI q) := by
  unfold f_J15_checkIndex_7cf53 f_J3_checkIndex_8e157
  rw [if_neg (nI_pos (p31 (by omega))), if_pos (nI_lt hq (p31 hN))]
  rfl
theorem LL.sz {n : ag_N} {k a b N : Nat} {s : ag_S} (h : LL n k a b N s) : s k 2 0 = nI N := h.1
theorem LL.le {n : ag_N} {k a b N : Nat} {s : ag_S} (h : LL n k a b N s) : N ≤ 60 := h.2.1
/-- what else changes is nothing to a list -/
theorem LL.same {n n' : ag_N} {k a b N : Nat} {s s' : ag_S} (h : LL n k a b N s) (hn : n' a = n a) (h1 : ∀ f i, s' k f i = s k f i) (h2 : ∀ f i, s' a f i = s a f i) (h3 : ∀ f i, s' b f i = s b f i) : LL n' k a b N s' := by
  unfold LL
  simp only [hn, h1, h2, h3]
  exact h
theorem LL.get0 {n : ag_N} {N fu q : Nat} {s : ag_S} (h : LL n 10 20 80 N s) (hq : q < N) : f_Jx4a65c_get_915e3_0 fu (nI q) s = some (nI q) := by
  obtain ⟨h1, h2, h9, h3⟩ := h
  rw [if_neg (by omega)] at h3
  obtain ⟨w, cap, a1, a2, a3, a4, a5, a6⟩ := h3
  have hw1 : ¬ (nI w = -1 ∨ nI w = -2) := by
    have hw := a2
    intro e
    have hp : ¬ nI w < 0 := nI_pos (p31 (by omega))
    rcases e with e | e <;> (rw [e] at hp; exact hp (by decide))
  have hq9 : ¬ nI q = -1 := by
    intro e
    have hp : ¬ nI q < 0 := nI_pos (p31 (by omega))
    rw [e] at hp
    exact hp (by decide)
  have hc : (nI w).toNatClampNeg = w := nI_clamp (p31 (by omega))
  unfold f_Jx4a65c_get_915e3_0
  rw [h1, chk hq (by omega), bd_some]
  unfold f_Jx4a65c_elementData_915e3_0
  rw [a2, if_neg hw1, a3, nI_clamp (p31 (by omega)), if_neg (nI_in (by omega) (p31 (by omega))), hc, a6 q hq, if_neg hq9, bd_some]
theorem LL.size0 {n : ag_N} {N fu : Nat} {s : ag_S} (h : LL n 10 20 80 N s) : f_Jx4a65c_size_8abf5_0 fu s = some (nI N) := by
  unfold f_Jx4a65c_size_8abf5_0
  rw [h.1]
theorem LL.get1 {n : ag_N} {N fu q : Nat} {s : ag_S} (h : LL n 11 21 81 N s) (hq : q < N) : f_Jx4a65c_get_915e3_1 fu (nI q) s = some (nI q) := by
  obtain ⟨h1, h2, h9, h3⟩ := h
  rw [if_neg (by omega)] at h3
  obtain ⟨w, cap, a1, a2, a3, a4, a5, a6⟩ := h3
  have hw1 : ¬ (nI w = -1 ∨ nI w = -2) := by
    have hw := a2
    intro e
    have hp : ¬ nI w < 0 := nI_pos (p31 (by omega))
    rcases e with e | e <;> (rw [e] at hp; exact hp (by decide))
  have hq9 : ¬ nI q = -1 := by
    intro e
    have hp : ¬ nI q < 0 := nI_pos (p31 (by omega))
    rw [e] at hp
    exact hp (by decide)
  have hc : (nI w).toNatClampNeg = w := nI_clamp (p31 (by omega))
  unfold f_Jx4a65c_get_915e3_1
  rw [h1, chk hq (by omega), bd_some]
  unfold f_Jx4a65c_elementData_915e3_1
  rw [a2, if_neg hw1, a3, nI_clamp (p31 (by omega)), if_neg (nI_in (by omega) (p31 (by omega))), hc, a6 q hq, if_neg hq9, bd_some]
theorem LL.size1 {n : ag_N} {N fu : Nat} {s : ag_S} (h : LL n 11 21 81 N s) : f_Jx4a65c_size_8abf5_1 fu s = some (nI N) := by
  unfold f_Jx4a65c_size_8abf5_1
  rw [h.1]
theorem LL.get2 {n : ag_N} {N fu q : Nat} {s : ag_S} (h : LL n 12 22 82 N s) (hq : q < N) : f_Jx4a65c_get_915e3_2 fu (nI q) s = some (nI q) := by
  obtain ⟨h1, h2, h9, h3⟩ := h
  rw [if_neg (by omega)] at h3
  obtain ⟨w, cap, a1, a2, a3, a4, a5, a6⟩ := h3
  have hw1 : ¬ (nI w = -1 ∨ nI w = -2) := by
    have hw := a2
    intro e
    have hp : ¬ nI w < 0 := nI_pos (p31 (by omega))
    rcases e with e | e <;> (rw [e] at hp; exact hp (by decide))
  have hq9 : ¬ nI q = -1 := by
    intro e
    have hp : ¬ nI q < 0 := nI_pos (p31 (by omega))
    rw [e] at hp
    exact hp (by decide)
  have hc : (nI w).toNatClampNeg = w := nI_clamp (p31 (by omega))
  unfold f_Jx4a65c_get_915e3_2
  rw [h1, chk hq (by omega), bd_some]
  unfold f_Jx4a65c_elementData_915e3_2
  rw [a2, if_neg hw1, a3, nI_clamp (p31 (by omega)), if_neg (nI_in (by omega) (p31 (by omega))), hc, a6 q hq, if_neg hq9, bd_some]
theorem LL.size2 {n : ag_N} {N fu : Nat} {s : ag_S} (h : LL n 12 22 82 N s) : f_Jx4a65c_size_8abf5_2 fu s = some (nI N) := by
  unfold f_Jx4a65c_size_8abf5_2
  rw [h.1]
theorem LL.get3 {n : ag_N} {N fu q : Nat} {s : ag_S} (h : LL n 13 23 83 N s) (hq : q < N) : f_Jx4a65c_get_915e3_3 fu (nI q) s = some (nI q) := by
  obtain ⟨h1, h2, h9, h3⟩ := h
  rw [if_neg (by omega)] at h3
  obtain ⟨w, cap, a1, a2, a3, a4, a5, a6⟩ := h3
  have hw1 : ¬ (nI w = -1 ∨ nI w = -2) := by
    have hw := a2
    intro e
    have hp : ¬ nI w < 0 := nI_pos (p31 (by omega))
    rcases e with e | e <;> (rw [e] at hp; exact hp (by decide))
  have hq9 : ¬ nI q = -1 := by
    intro e
    have hp : ¬ nI q < 0 := nI_pos (p31 (by omega))
    rw [e] at hp
    exact hp (by decide)
  have hc : (nI w).toNatClampNeg = w := nI_clamp (p31 (by omega))
  unfold f_Jx4a65c_get_915e3_3
  rw [h1, chk hq (by omega), bd_some]
  unfold f_Jx4a65c_elementData_915e3_3
  rw [a2, if_neg hw1, a3, nI_clamp (p31 (by omega)), if_neg (nI_in (by omega) (p31 (by omega))), hc, a6 q hq, if_neg hq9, bd_some]
theorem LL.size3 {n : ag_N} {N fu : Nat} {s : ag_S} (h : LL n 13 23 83 N s) : f_Jx4a65c_size_8abf5_3 fu s = some (nI N) := by
  unfold f_Jx4a65c_size_8abf5_3
  rw [h.1]
theorem LL.get4 {n : ag_N} {N fu q : Nat} {s : ag_S} (h : LL n 14 24 84 N s) (hq : q < N) : f_Jx4a65c_get_915e3_4 fu (nI q) s = some (nI q) := by
  obtain ⟨h1, h2, h9, h3⟩ := h
  rw [if_neg (by omega)] at h3
  obtain ⟨w, cap, a1, a2, a3, a4, a5, a6⟩ := h3
  have hw1 : ¬ (nI w = -1 ∨ nI w = -2) := by
    have hw := a2
    intro e
    have hp : ¬ nI w < 0 := nI_pos (p31 (by omega))
    rcases e with e | e <;> (rw [e] at hp; exact hp (by decide))
  have hq9 : ¬ nI q = -1 := by
    intro e
    have hp : ¬ nI q < 0 := nI_pos (p31 (by omega))
    rw [e] at hp
    exact hp (by decide)
  have hc : (nI w).toNatClampNeg = w := nI_clamp (p31 (by omega))
  unfold f_Jx4a65c_get_915e3_4
  rw [h1, chk hq (by omega), bd_some]
  unfold f_Jx4a65c_elementData_915e3_4
  rw [a2, if_neg hw1, a3, nI_clamp (p31 (by omega)), if_neg (nI_in (by omega) (p31 (by omega))), hc, a6 q hq, if_neg hq9, bd_some]
theorem LL.size4 {n : ag_N} {N fu : Nat} {s : ag_S} (h : LL n 14 24 84 N s) : f_Jx4a65c_size_8abf5_4 fu s = some (nI N) := by
  unfold f_Jx4a65c_size_8abf5_4
  rw [h.1]
theorem nI_neg1 {w : Nat} (h : w ≤ 1000) : ¬ nI w = -1 ∧ ¬ nI w = -2 := by
  have hp : ¬ nI w < 0 := nI_pos (p31 h)
  exact ⟨fun e => by rw [e] at hp; exact hp (by decide), fun e => by rw [e] at hp; exact hp (by decide)⟩
theorem ag_lnI {s : ag_S} {b w cap : Nat} (hw : w ≤ 1000) (hc : cap ≤ 1000) (h : s b 0 (nI w) = nI cap) : ag_ln s b (nI w) = nI cap := by
  unfold ag_ln
  rw [if_neg (nI_neg1 hw).2, h, nI_clamp (p31 hc)]
theorem newLen {fu : Nat} {s : ag_S} {cap : Nat} (h : cap = 10 ∨ cap = 15 ∨ cap = 22 ∨ cap = 33) : ∃ c2 : Nat, (c2 = 15 ∨ c2 = 22 ∨ c2 = 33 ∨ c2 = 49) ∧ cap < c2 ∧ f_J8_newLength_cabcc fu (nI cap) (nI cap + 1 - nI cap) (nI cap >>> ((1 : Int32) &&& 31)) s = some (nI c2) := by
  rcases h with rfl | rfl | rfl | rfl
  · exact ⟨15, by decide, by decide, by unfold f_J8_newLength_cabcc; decide +kernel⟩
  · exact ⟨22, by decide, by decide, by unfold f_J8_newLength_cabcc; decide +kernel⟩
  · exact ⟨33, by decide, by decide, by unfold f_J8_newLength_cabcc; decide +kernel⟩
  · exact ⟨49, by decide, by decide, by unfold f_J8_newLength_cabcc; decide +kernel⟩
theorem copy0 {fu : Nat} {n : ag_N} {s : ag_S} {w cap c2 : Nat} (hw : w < n 20) (hn : n 20 ≤ 60) (hc : s 80 0 (nI w) = nI cap) (hcap : cap < c2) (h2 : c2 ≤ 60) : f_J7_copyOf_1904c_0 fu (nI w) (nI c2) n s = some (nI (n 20), (ag_nn n 20, ag_sc (ag_s3 s 20 (n 20) (nI c2)) 20 w (n 20) cap)) := by
  have hne : ¬ nI w = nI (n 20) := fun e => by
    have := (nI_eq (p31 (by omega)) (p31 (by omega))).mp e
    omega
  have e1 : ag_s3 s 20 (n 20) (nI c2) 80 0 (nI w) = nI cap := (ag_s3_len2 (k := 20) hne).trans hc
  have e2 : ag_s3 s 20 (n 20) (nI c2) 80 0 (nI (n 20)) = nI c2 := ag_s3_len (k := 20)
  unfold f_J7_copyOf_1904c_0 f_J7_copyOf_6403c_0
  rw [e1, e2, nI_clamp (p31 (by omega) : cap < 2 ^ 31), nI_clamp (p31 (by omega) : c2 < 2 ^ 31), if_neg (nI_nlt (by omega) (p31 (by omega)) : ¬ nI c2 < nI cap), nI_clamp (p31 (by omega) : cap < 2 ^ 31), nI_clamp (p31 (by omega) : w < 2 ^ 31), nI_clamp (p31 (by omega) : n 20 < 2 ^ 31)]
  rw [if_neg (by
    rintro (h | h | h)
    · omega
    · exact nI_pos (p31 (by omega)) h
    · omega), if_neg (by
    rintro (h | h | h | h)
    · exact nI_pos (p31 (by omega)) h
    · omega
    · omega
    · omega), bd_some]
theorem copy1 {fu : Nat} {n : ag_N} {s : ag_S} {w cap c2 : Nat} (hw : w < n 21) (hn : n 21 ≤ 60) (hc : s 81 0 (nI w) = nI cap) (hcap : cap < c2) (h2 : c2 ≤ 60) : f_J7_copyOf_1904c_1 fu (nI w) (nI c2) n s = some (nI (n 21), (ag_nn n 21, ag_sc (ag_s3 s 21 (n 21) (nI c2)) 21 w (n 21) cap)) := by
  have hne : ¬ nI w = nI (n 21) := fun e => by
    have := (nI_eq (p31 (by omega)) (p31 (by omega))).mp e
    omega
  have e1 : ag_s3 s 21 (n 21) (nI c2) 81 0 (nI w) = nI cap := (ag_s3_len2 (k := 21) hne).trans hc
  have e2 : ag_s3 s 21 (n 21) (nI c2) 81 0 (nI (n 21)) = nI c2 := ag_s3_len (k := 21)
  unfold f_J7_copyOf_1904c_1 f_J7_copyOf_6403c_1
  rw [e1, e2, nI_clamp (p31 (by omega) : cap < 2 ^ 31), nI_clamp (p31 (by omega) : c2 < 2 ^ 31), if_neg (nI_nlt (by omega) (p31 (by omega)) : ¬ nI c2 < nI cap), nI_clamp (p31 (by omega) : cap < 2 ^ 31), nI_clamp (p31 (by omega) : w < 2 ^ 31), nI_clamp (p31 (by omega) : n 21 < 2 ^ 31)]
  rw [if_neg (by
    rintro (h | h | h)
    · omega
    · exact nI_pos (p31 (by omega)) h
    · omega), if_neg (by
    rintro (h | h | h | h)
    · exact nI_pos (p31 (by omega)) h
    · omega
    · omega
    · omega), bd_some]
theorem copy2 {fu : Nat} {n : ag_N} {s : ag_S} {w cap c2 : Nat} (hw : w < n 22) (hn : n 22 ≤ 60) (hc : s 82 0 (nI w) = nI cap) (hcap : cap < c2) (h2 : c2 ≤ 60) : f_J7_copyOf_1904c_2 fu (nI w) (nI c2) n s = some (nI (n 22), (ag_nn n 22, ag_sc (ag_s3 s 22 (n 22) (nI c2)) 22 w (n 22) cap)) := by
  have hne : ¬ nI w = nI (n 22) := fun e => by
    have := (nI_eq (p31 (by omega)) (p31 (by omega))).mp e
    omega
  have e1 : ag_s3 s 22 (n 22) (nI c2) 82 0 (nI w) = nI cap := (ag_s3_len2 (k := 22) hne).trans hc
  have e2 : ag_s3 s 22 (n 22) (nI c2) 82 0 (nI (n 22)) = nI c2 := ag_s3_len (k := 22)
  unfold f_J7_copyOf_1904c_2 f_J7_copyOf_6403c_2
  rw [e1, e2, nI_clamp (p31 (by omega) : cap < 2 ^ 31), nI_clamp (p31 (by omega) : c2 < 2 ^ 31), if_neg (nI_nlt (by omega) (p31 (by omega)) : ¬ nI c2 < nI cap), nI_clamp (p31 (by omega) : cap < 2 ^ 31), nI_clamp (p31 (by omega) : w < 2 ^ 31), nI_clamp (p31 (by omega) : n 22 < 2 ^ 31)]
  rw [if_neg (by
    rintro (h | h | h)
    · omega
    · exact nI_pos (p31 (by omega)) h
    · omega), if_neg (by
    rintro (h | h | h | h)
    · exact nI_pos (p31 (by omega)) h
    · omega
    · omega
    · omega), bd_some]
theorem copy3 {fu : Nat} {n : ag_N} {s : ag_S} {w cap c2 : Nat} (hw : w < n 23) (hn : n 23 ≤ 60) (hc : s 83 0 (nI w) = nI cap) (hcap : cap < c2) (h2 : c2 ≤ 60) : f_J7_copyOf_1904c_3 fu (nI w) (nI c2) n s = some (nI (n 23), (ag_nn n 23, ag_sc (ag_s3 s 23 (n 23) (nI c2)) 23 w (n 23) cap)) := by
  have hne : ¬ nI w = nI (n 23) := fun e => by
    have := (nI_eq (p31 (by omega)) (p31 (by omega))).mp e
    omega
  have e1 : ag_s3 s 23 (n 23) (nI c2) 83 0 (nI w) = nI cap := (ag_s3_len2 (k := 23) hne).trans hc
  have e2 : ag_s3 s 23 (n 23) (nI c2) 83 0 (nI (n 23)) = nI c2 := ag_s3_len (k := 23)
  unfold f_J7_copyOf_1904c_3 f_J7_copyOf_6403c_3
  rw [e1, e2, nI_clamp (p31 (by omega) : cap < 2 ^ 31), nI_clamp (p31 (by omega) : c2 < 2 ^ 31), if_neg (nI_nlt (by omega) (p31 (by omega)) : ¬ nI c2 < nI cap), nI_clamp (p31 (by omega) : cap < 2 ^ 31), nI_clamp (p31 (by omega) : w < 2 ^ 31), nI_clamp (p31 (by omega) : n 23 < 2 ^ 31)]
  rw [if_neg (by
    rintro (h | h | h)
    · omega
    · exact nI_pos (p31 (by omega)) h
    · omega), if_neg (by
    rintro (h | h | h | h)
    · exact nI_pos (p31 (by omega)) h
    · omega
    · omega
    · omega), bd_some]
theorem copy4 {fu : Nat} {n : ag_N} {s : ag_S} {w cap c2 : Nat} (hw : w < n 24) (hn : n 24 ≤ 60) (hc : s 84 0 (nI w) = nI cap) (hcap : cap < c2) (h2 : c2 ≤ 60) : f_J7_copyOf_1904c_4 fu (nI w) (nI c2) n s = some (nI (n 24), (ag_nn n 24, ag_sc (ag_s3 s 24 (n 24) (nI c2)) 24 w (n 24) cap)) := by
  have hne : ¬ nI w = nI (n 24) := fun e => by
    have := (nI_eq (p31 (by omega)) (p31 (by omega))).mp e
    omega
  have e1 : ag_s3 s 24 (n 24) (nI c2) 84 0 (nI w) = nI cap := (ag_s3_len2 (k := 24) hne).trans hc
  have e2 : ag_s3 s 24 (n 24) (nI c2) 84 0 (nI (n 24)) = nI c2 := ag_s3_len (k := 24)
  unfold f_J7_copyOf_1904c_4 f_J7_copyOf_6403c_4
  rw [e1, e2, nI_clamp (p31 (by omega) : cap < 2 ^ 31), nI_clamp (p31 (by omega) : c2 < 2 ^ 31), if_neg (nI_nlt (by omega) (p31 (by omega)) : ¬ nI c2 < nI cap), nI_clamp (p31 (by omega) : cap < 2 ^ 31), nI_clamp (p31 (by omega) : w < 2 ^ 31), nI_clamp (p31 (by omega) : n 24 < 2 ^ 31)]
  rw [if_neg (by
    rintro (h | h | h)
    · omega
    · exact nI_pos (p31 (by omega)) h
    · omega), if_neg (by
    rintro (h | h | h | h)
    · exact nI_pos (p31 (by omega)) h
    · omega
    · omega
    · omega), bd_some]
theorem grow0_0 {fu : Nat} {n : ag_N} {s : ag_S} (h1 : s 10 1 0 = -2) (h2 : s 10 2 0 = nI 0) (hn : n 20 = 0) : f_Jx4a65c_grow_d5877_0 fu n s = some (nI 0, (ag_nn n 20, ag_up (ag_s3 s 20 0 10) 10 1 0 (nI 0))) := by
  have e0 : ag_ln s 80 (-2) = 0 := by unfold ag_ln; rw [if_pos rfl]
  unfold f_Jx4a65c_grow_d5877_0 f_Jx4a65c_grow_92f84_0
  rw [h1, h2, e0, hn, show nI 0 + 1 = 1 from by decide, show (if (10 : Int32) < 1 then (1 : Int32) else 10) = 10 from by decide, if_neg (by decide), if_neg (by decide), if_neg (by decide), if_pos rfl, if_neg (by decide), bd_some]
theorem grow1_0 {fu : Nat} {n : ag_N} {s : ag_S} {w cap : Nat} (hw : w < n 20) (hn : n 20 ≤ 60) (h1 : s 10 1 0 = nI w) (h2 : s 10 2 0 = nI cap) (hc : s 80 0 (nI w) = nI cap) (hcap : cap = 10 ∨ cap = 15 ∨ cap = 22 ∨ cap = 33) : ∃ c2 : Nat, (c2 = 15 ∨ c2 = 22 ∨ c2 = 33 ∨ c2 = 49) ∧ cap < c2 ∧ f_Jx4a65c_grow_d5877_0 fu n s = some (nI (n 20), (ag_nn n 20, ag_up (ag_sc (ag_s3 s 20 (n 20) (nI c2)) 20 w (n 20) cap) 10 1 0 (nI (n 20)))) := by
  obtain ⟨c2, g1, g2, g3⟩ := newLen (fu := fu) (s := s) hcap
  refine ⟨c2, g1, g2, ?_⟩
  have hne := nI_neg1 (w := w) (by omega)
  have hl : ag_ln s 80 (nI w) = nI cap := ag_lnI (by omega) (by omega) hc
  unfold f_Jx4a65c_grow_d5877_0 f_Jx4a65c_grow_92f84_0
  rw [h1, h2, hl, if_neg hne.1, if_pos (by rcases hcap with rfl | rfl | rfl | rfl <;> decide), g3, bd_some, if_neg hne.1, if_neg hne.2, copy0 hw hn hc g2 (by omega), bd_some, bd_some]
theorem LL.add0 {fu N : Nat} {n : ag_N} {s : ag_S} (h : LL n 10 20 80 N s) (hN : N ≤ 40) : ∃ n' s', f_Jx4a65c_add_9ea2d_0 fu (nI N) n s = some (1, (n', s')) ∧ LL n' 10 20 80 (N + 1) s' ∧ (∀ k', k' ≠ 20 → n' k' = n k') ∧ ∀ k' f i, k' ≠ 10 → k' ≠ 20 → k' ≠ 80 → s' k' f i = s k' f i := by
  obtain ⟨h1, h2, h9, h3⟩ := h
  obtain ⟨s1, hs1⟩ : ∃ x, x = ag_up s 10 0 0 (s 10 0 0 + 1) := ⟨_, rfl⟩
  have hk : ∀ k' f i, ¬ (k' = 10 ∧ f = 0) → s1 k' f i = s k' f i := fun k' f i q => by rw [hs1]; exact ag_up_ne (fun e => q ⟨e.1, e.2.1⟩)
  have e1 : s1 10 1 0 = s 10 1 0 := hk _ _ _ (by decide)
  have e2 : s1 10 2 0 = nI N := (hk _ _ _ (by decide)).trans h1
  unfold f_Jx4a65c_add_9ea2d_0
  rw [← hs1]
  by_cases h0 : N = 0
  · subst h0
    rw [if_pos rfl] at h3
    have hn0 : n 20 = 0 := by omega
    have g := grow0_0 (fu := fu) (n := n) (s := s1) (e1.trans h3) e2 hn0
    have e3 : ag_ln s1 80 (-2) = 0 := by unfold ag_ln; rw [if_pos rfl]
    obtain ⟨s2, hs2⟩ : ∃ x, x = ag_up (ag_s3 s1 20 0 10) 10 1 0 (nI 0) := ⟨_, rfl⟩
    have e4 : s2 80 0 (nI 0) = nI 10 := by rw [hs2, ag_up_ne (by decide)]; exact (ag_s3_len (k := 20)).trans (by decide)
    have hg : ¬ (nI 0 < 0 ∨ (s2 80 0 (nI 0)).toNatClampNeg ≤ (nI 0).toNatClampNeg ∨ 100 < (s2 80 0 (nI 0)).toNatClampNeg) := by rw [e4]; decide
    refine ⟨ag_nn n 20, ag_up (ag_up s2 20 (nI 0).toNatClampNeg (nI 0) (nI 0)) 10 2 0 (nI 0 + 1), by
      rw [e1, h3, e2, if_neg (by decide)]
      unfold f_Jx4a65c_add_72be8_0
      rw [e3, if_pos (by decide), g, bd_some, ← hs2]
      dsimp only
      rw [if_neg hg, bd_some], ⟨?_, by omega, ?_, ?_⟩, fun k' hk' => if_neg hk', fun k' f i q1 q2 q3 => ?_⟩
    · exact ag_up_eq.trans (by decide)
    · show (if 20 = 20 then n 20 + 1 else _) ≤ _
      rw [if_pos rfl, hn0]
      exact Nat.le_refl _
    · rw [if_neg (by decide)]
      refine ⟨0, 10, ?_, ?_, ?_, by omega, Or.inl rfl, fun q hq => ?_⟩
      · show 0 < (if 20 = 20 then n 20 + 1 else _)
        rw [if_pos rfl]; omega
      · rw [ag_up_ne (by decide), ag_up_ne (by decide), hs2, ag_up_eq]
      · rw [ag_up_ne (by decide), ag_up_ne (by decide)]; exact e4
      · have : q = 0 := by omega
        subst this
        rw [ag_up_ne (by decide)]
        exact ag_up_eq
    · rw [ag_up_ne (by omega), ag_up_ne (by omega), hs2, ag_up_ne (by omega), ag_s3_ne (by omega) (by omega)]
      exact hk _ _ _ (by omega)
  · rw [if_neg h0] at h3
    obtain ⟨w, cap, a1, a2, a3, a4, a5, a6⟩ := h3
    have hne := nI_neg1 (w := w) (by omega)
    have hcw : (nI w).toNatClampNeg = w := nI_clamp (p31 (by omega))
    have hcN : (nI N).toNatClampNeg = N := nI_clamp (p31 (by omega))
    have e3 : s1 80 0 (nI w) = nI cap := (hk _ _ _ (by decide)).trans a3
    have hl : ag_ln s1 80 (nI w) = nI cap := ag_lnI (by omega) (by omega) e3
    have a6b : ∀ q, q < N → s1 20 w (nI q) = nI q := fun q hq => (hk _ _ _ (by omega)).trans (a6 q hq)
    by_cases hc : N = cap
    · obtain ⟨c2, g1, g2, g3⟩ := grow1_0 (fu := fu) (n := n) (s := s1) a1 (by omega) (e1.trans a2) (e2.trans (by rw [hc])) e3 (by omega)
      obtain ⟨s2, hs2⟩ : ∃ x, x = ag_up (ag_sc (ag_s3 s1 20 (n 20) (nI c2)) 20 w (n 20) cap) 10 1 0 (nI (n 20)) := ⟨_, rfl⟩
      have hcn : (nI (n 20)).toNatClampNeg = n 20 := nI_clamp (p31 (by omega))
      have hsc : ∀ k' f i, k' ≠ 20 → ag_sc (ag_s3 s1 20 (n 20) (nI c2)) 20 w (n 20) cap k' f i = ag_s3 s1 20 (n 20) (nI c2) k' f i := fun k' f i q => if_neg (fun e => q e.1)
      have e4 : s2 80 0 (nI (n 20)) = nI c2 := by rw [hs2, ag_up_ne (by omega), hsc _ _ _ (by decide)]; exact ag_s3_len (k := 20)
      have e5 : ∀ q, q < N → s2 20 (n 20) (nI q) = nI q := fun q hq => by
        rw [hs2, ag_up_ne (by omega)]
        unfold ag_sc
        rw [if_pos ⟨rfl, rfl, nI_pos (p31 (by omega)), by rw [nI_clamp (p31 (by omega))]; omega⟩, ag_s3_ne (by omega) (by omega)]
        exact a6b q hq
      have hg : ¬ (nI N < 0 ∨ (s2 80 0 (nI (n 20))).toNatClampNeg ≤ (nI N).toNatClampNeg ∨ 100 < (s2 80 0 (nI (n 20))).toNatClampNeg) := by
        rw [e4, hcN, nI_clamp (p31 (by omega) : c2 < 2 ^ 31)]
        rintro (h | h | h)
        · exact nI_pos (p31 (by omega)) h
        · omega
        · omega
      refine ⟨ag_nn n 20, ag_up (ag_up s2 20 (nI (n 20)).toNatClampNeg (nI N) (nI N)) 10 2 0 (nI N + 1), by
        rw [e1, a2, e2, if_neg hne.1]
        unfold f_Jx4a65c_add_72be8_0
        rw [hl, if_pos (by rw [hc]), g3, bd_some, ← hs2]
        dsimp only
        rw [if_neg hg, bd_some], ⟨?_, by omega, ?_, ?_⟩, fun k' hk' => if_neg hk', fun k' f i q1 q2 q3 => ?_⟩
      · exact ag_up_eq.trans (nI_1 N)
      · show (if 20 = 20 then n 20 + 1 else _) ≤ _
        rw [if_pos rfl]; omega
      · rw [if_neg (by omega)]
        refine ⟨n 20, c2, ?_, ?_, ?_, by omega, by omega, fun q hq => ?_⟩
        · show n 20 < (if 20 = 20 then n 20 + 1 else _)
          rw [if_pos rfl]; omega
        · rw [ag_up_ne (by decide), ag_up_ne (by omega), hs2, ag_up_eq]
        · rw [ag_up_ne (by omega), ag_up_ne (by omega)]; exact e4
        · rw [ag_up_ne (by omega), hcn]
          by_cases hqN : q = N
          · subst hqN; exact ag_up_eq
          · rw [ag_up_ne (fun e => hqN ((nI_eq (p31 (by omega)) (p31 (by omega))).mp e.2.2))]
            exact e5 q (by omega)
      · rw [ag_up_ne (by omega), ag_up_ne (by omega), hs2, ag_up_ne (by omega), hsc _ _ _ q2, ag_s3_ne (by omega) (by omega)]
        exact hk _ _ _ (by omega)
    · have hg : ¬ (nI N < 0 ∨ (s1 80 0 (nI w)).toNatClampNeg ≤ (nI N).toNatClampNeg ∨ 100 < (s1 80 0 (nI w)).toNatClampNeg) := by
        rw [e3, hcN, nI_clamp (p31 (by omega) : cap < 2 ^ 31)]
        rintro (h | h | h)
        · exact nI_pos (p31 (by omega)) h
        · omega
        · omega
      refine ⟨n, ag_up (ag_up s1 20 (nI w).toNatClampNeg (nI N) (nI N)) 10 2 0 (nI N + 1), by
        rw [e1, a2, e2, if_neg hne.1]
        unfold f_Jx4a65c_add_72be8_0
        rw [hl, if_neg (fun e => hc ((nI_eq (p31 (by omega)) (p31 (by omega))).mp e)), if_neg hne.2, if_neg hg, bd_some], ⟨?_, by omega, by omega, ?_⟩, fun _ _ => rfl, fun k' f i q1 q2 q3 => ?_⟩
      · exact ag_up_eq.trans (nI_1 N)
      · rw [if_neg (by omega)]
        refine ⟨w, cap, a1, ?_, ?_, by omega, a5, fun q hq => ?_⟩
        · rw [ag_up_ne (by decide), ag_up_ne (by omega)]; exact e1.trans a2
        · rw [ag_up_ne (by omega), ag_up_ne (by omega)]; exact e3
        · rw [ag_up_ne (by omega), hcw]
          by_cases hqN : q = N
          · subst hqN; exact ag_up_eq
          · rw [ag_up_ne (fun e => hqN ((nI_eq (p31 (by omega)) (p31 (by omega))).mp e.2.2))]
            exact a6b q (by omega)
      · rw [ag_up_ne (by omega), ag_up_ne (by omega)]
        exact hk _ _ _ (by omega)
theorem grow0_1 {fu : Nat} {n : ag_N} {s : ag_S} (h1 : s 11 1 0 = -2) (h2 : s 11 2 0 = nI 0) (hn : n 21 = 0) : f_Jx4a65c_grow_d5877_1 fu n s = some (nI 0, (ag_nn n 21, ag_up (ag_s3 s 21 0 10) 11 1 0 (nI 0))) := by
  have e0 : ag_ln s 81 (-2) = 0 := by unfold ag_ln; rw [if_pos rfl]
  unfold f_Jx4a65c_grow_d5877_1 f_Jx4a65c_grow_92f84_1
  rw [h1, h2, e0, hn, show nI 0 + 1 = 1 from by decide, show (if (10 : Int32) < 1 then (1 : Int32) else 10) = 10 from by decide, if_neg (by decide), if_neg (by decide), if_neg (by decide), if_pos rfl, if_neg (by decide), bd_some]
theorem grow1_1 {fu : Nat} {n : ag_N} {s : ag_S} {w cap : Nat} (hw : w < n 21) (hn : n 21 ≤ 60) (h1 : s 11 1 0 = nI w) (h2 : s 11 2 0 = nI cap) (hc : s 81 0 (nI w) = nI cap) (hcap : cap = 10 ∨ cap = 15 ∨ cap = 22 ∨ cap = 33) : ∃ c2 : Nat, (c2 = 15 ∨ c2 = 22 ∨ c2 = 33 ∨ c2 = 49) ∧ cap < c2 ∧ f_Jx4a65c_grow_d5877_1 fu n s = some (nI (n 21), (ag_nn n 21, ag_up (ag_sc (ag_s3 s 21 (n 21) (nI c2)) 21 w (n 21) cap) 11 1 0 (nI (n 21)))) := by
  obtain ⟨c2, g1, g2, g3⟩ := newLen (fu := fu) (s := s) hcap
  refine ⟨c2, g1, g2, ?_⟩
  have hne := nI_neg1 (w := w) (by omega)
  have hl : ag_ln s 81 (nI w) = nI cap := ag_lnI (by omega) (by omega) hc
  unfold f_Jx4a65c_grow_d5877_1 f_Jx4a65c_grow_92f84_1
  rw [h1, h2, hl, if_neg hne.1, if_pos (by rcases hcap with rfl | rfl | rfl | rfl <;> decide), g3, bd_some, if_neg hne.1, if_neg hne.2, copy1 hw hn hc g2 (by omega), bd_some, bd_some]
theorem LL.add1 {fu N : Nat} {n : ag_N} {s : ag_S} (h : LL n 11 21 81 N s) (hN : N ≤ 40) : ∃ n' s', f_Jx4a65c_add_9ea2d_1 fu (nI N) n s = some (1, (n', s')) ∧ LL n' 11 21 81 (N + 1) s' ∧ (∀ k', k' ≠ 21 → n' k' = n k') ∧ ∀ k' f i, k' ≠ 11 → k' ≠ 21 → k' ≠ 81 → s' k' f i = s k' f i := by
  obtain ⟨h1, h2, h9, h3⟩ := h
  obtain ⟨s1, hs1⟩ : ∃ x, x = ag_up s 11 0 0 (s 11 0 0 + 1) := ⟨_, rfl⟩
  have hk : ∀ k' f i, ¬ (k' = 11 ∧ f = 0) → s1 k' f i = s k' f i := fun k' f i q => by rw [hs1]; exact ag_up_ne (fun e => q ⟨e.1, e.2.1⟩)
  have e1 : s1 11 1 0 = s 11 1 0 := hk _ _ _ (by decide)
  have e2 : s1 11 2 0 = nI N := (hk _ _ _ (by decide)).trans h1
  unfold f_Jx4a65c_add_9ea2d_1
  rw [← hs1]
  by_cases h0 : N = 0
  · subst h0
    rw [if_pos rfl] at h3
    have hn0 : n 21 = 0 := by omega
    have g := grow0_1 (fu := fu) (n := n) (s := s1) (e1.trans h3) e2 hn0
    have e3 : ag_ln s1 81 (-2) = 0 := by unfold ag_ln; rw [if_pos rfl]
    obtain ⟨s2, hs2⟩ : ∃ x, x = ag_up (ag_s3 s1 21 0 10) 11 1 0 (nI 0) := ⟨_, rfl⟩
    have e4 : s2 81 0 (nI 0) = nI 10 := by rw [hs2, ag_up_ne (by decide)]; exact (ag_s3_len (k := 21)).trans (by decide)
    have hg : ¬ (nI 0 < 0 ∨ (s2 81 0 (nI 0)).toNatClampNeg ≤ (nI 0).toNatClampNeg ∨ 100 < (s2 81 0 (nI 0)).toNatClampNeg) := by rw [e4]; decide
    refine ⟨ag_nn n 21, ag_up (ag_up s2 21 (nI 0).toNatClampNeg (nI 0) (nI 0)) 11 2 0 (nI 0 + 1), by
      rw [e1, h3, e2, if_neg (by decide)]
      unfold f_Jx4a65c_add_72be8_1
      rw [e3, if_pos (by decide), g, bd_some, ← hs2]
      dsimp only
      rw [if_neg hg, bd_some], ⟨?_, by omega, ?_, ?_⟩, fun k' hk' => if_neg hk', fun k' f i q1 q2 q3 => ?_⟩
    · exact ag_up_eq.trans (by decide)
    · show (if 21 = 21 then n 21 + 1 else _) ≤ _
      rw [if_pos rfl, hn0]
      exact Nat.le_refl _
    · rw [if_neg (by decide)]
      refine ⟨0, 10, ?_, ?_, ?_, by omega, Or.inl rfl, fun q hq => ?_⟩
      · show 0 < (if 21 = 21 then n 21 + 1 else _)
        rw [if_pos rfl]; omega
      · rw [ag_up_ne (by decide), ag_up_ne (by decide), hs2, ag_up_eq]
      · rw [ag_up_ne (by decide), ag_up_ne (by decide)]; exact e4
      · have : q = 0 := by omega
        subst this
        rw [ag_up_ne (by decide)]
        exact ag_up_eq
    · rw [ag_up_ne (by omega), ag_up_ne (by omega), hs2, ag_up_ne (by omega), ag_s3_ne (by omega) (by omega)]
      exact hk _ _ _ (by omega)
  · rw [if_neg h0] at h3
    obtain ⟨w, cap, a1, a2, a3, a4, a5, a6⟩ := h3
    have hne := nI_neg1 (w := w) (by omega)
    have hcw : (nI w).toNatClampNeg = w := nI_clamp (p31 (by omega))
    have hcN : (nI N).toNatClampNeg = N := nI_clamp (p31 (by omega))
    have e3 : s1 81 0 (nI w) = nI cap := (hk _ _ _ (by decide)).trans a3
    have hl : ag_ln s1 81 (nI w) = nI cap := ag_lnI (by omega) (by omega) e3
    have a6b : ∀ q, q < N → s1 21 w (nI q) = nI q := fun q hq => (hk _ _ _ (by omega)).trans (a6 q hq)
    by_cases hc : N = cap
    · obtain ⟨c2, g1, g2, g3⟩ := grow1_1 (fu := fu) (n := n) (s := s1) a1 (by omega) (e1.trans a2) (e2.trans (by rw [hc])) e3 (by omega)
      obtain ⟨s2, hs2⟩ : ∃ x, x = ag_up (ag_sc (ag_s3 s1 21 (n 21) (nI c2)) 21 w (n 21) cap) 11 1 0 (nI (n 21)) := ⟨_, rfl⟩
      have hcn : (nI (n 21)).toNatClampNeg = n 21 := nI_clamp (p31 (by omega))
      have hsc : ∀ k' f i, k' ≠ 21 → ag_sc (ag_s3 s1 21 (n 21) (nI c2)) 21 w (n 21) cap k' f i = ag_s3 s1 21 (n 21) (nI c2) k' f i := fun k' f i q => if_neg (fun e => q e.1)
      have e4 : s2 81 0 (nI (n 21)) = nI c2 := by rw [hs2, ag_up_ne (by omega), hsc _ _ _ (by decide)]; exact ag_s3_len (k := 21)
      have e5 : ∀ q, q < N → s2 21 (n 21) (nI q) = nI q := fun q hq => by
        rw [hs2, ag_up_ne (by omega)]
        unfold ag_sc
        rw [if_pos ⟨rfl, rfl, nI_pos (p31 (by omega)), by rw [nI_clamp (p31 (by omega))]; omega⟩, ag_s3_ne (by omega) (by omega)]
        exact a6b q hq
      have hg : ¬ (nI N < 0 ∨ (s2 81 0 (nI (n 21))).toNatClampNeg ≤ (nI N).toNatClampNeg ∨ 100 < (s2 81 0 (nI (n 21))).toNatClampNeg) := by
        rw [e4, hcN, nI_clamp (p31 (by omega) : c2 < 2 ^ 31)]
        rintro (h | h | h)
        · exact nI_pos (p31 (by omega)) h
        · omega
        · omega
      refine ⟨ag_nn n 21, ag_up (ag_up s2 21 (nI (n 21)).toNatClampNeg (nI N) (nI N)) 11 2 0 (nI N + 1), by
        rw [e1, a2, e2, if_neg hne.1]
        unfold f_Jx4a65c_add_72be8_1
        rw [hl, if_pos (by rw [hc]), g3, bd_some, ← hs2]
        dsimp only
        rw [if_neg hg, bd_some], ⟨?_, by omega, ?_, ?_⟩, fun k' hk' => if_neg hk', fun k' f i q1 q2 q3 => ?_⟩
      · exact ag_up_eq.trans (nI_1 N)
      · show (if 21 = 21 then n 21 + 1 else _) ≤ _
        rw [if_pos rfl]; omega
      · rw [if_neg (by omega)]
        refine ⟨n 21, c2, ?_, ?_, ?_, by omega, by omega, fun q hq => ?_⟩
        · show n 21 < (if 21 = 21 then n 21 + 1 else _)
          rw [if_pos rfl]; omega
        · rw [ag_up_ne (by decide), ag_up_ne (by omega), hs2, ag_up_eq]
        · rw [ag_up_ne (by omega), ag_up_ne (by omega)]; exact e4
        · rw [ag_up_ne (by omega), hcn]
          by_cases hqN : q = N
          · subst hqN; exact ag_up_eq
          · rw [ag_up_ne (fun e => hqN ((nI_eq (p31 (by omega)) (p31 (by omega))).mp e.2.2))]
            exact e5 q (by omega)
      · rw [ag_up_ne (by omega), ag_up_ne (by omega), hs2, ag_up_ne (by omega), hsc _ _ _ q2, ag_s3_ne (by omega) (by omega)]
        exact hk _ _ _ (by omega)
    · have hg : ¬ (nI N < 0 ∨ (s1 81 0 (nI w)).toNatClampNeg ≤ (nI N).toNatClampNeg ∨ 100 < (s1 81 0 (nI w)).toNatClampNeg) := by
        rw [e3, hcN, nI_clamp (p31 (by omega) : cap < 2 ^ 31)]
        rintro (h | h | h)
        · exact nI_pos (p31 (by omega)) h
        · omega
        · omega
      refine ⟨n, ag_up (ag_up s1 21 (nI w).toNatClampNeg (nI N) (nI N)) 11 2 0 (nI N + 1), by
        rw [e1, a2, e2, if_neg hne.1]
        unfold f_Jx4a65c_add_72be8_1
        rw [hl, if_neg (fun e => hc ((nI_eq (p31 (by omega)) (p31 (by omega))).mp e)), if_neg hne.2, if_neg hg, bd_some], ⟨?_, by omega, by omega, ?_⟩, fun _ _ => rfl, fun k' f i q1 q2 q3 => ?_⟩
      · exact ag_up_eq.trans (nI_1 N)
      · rw [if_neg (by omega)]
        refine ⟨w, cap, a1, ?_, ?_, by omega, a5, fun q hq => ?_⟩
        · rw [ag_up_ne (by decide), ag_up_ne (by omega)]; exact e1.trans a2
        · rw [ag_up_ne (by omega), ag_up_ne (by omega)]; exact e3
        · rw [ag_up_ne (by omega), hcw]
          by_cases hqN : q = N
          · subst hqN; exact ag_up_eq
          · rw [ag_up_ne (fun e => hqN ((nI_eq (p31 (by omega)) (p31 (by omega))).mp e.2.2))]
            exact a6b q (by omega)
      · rw [ag_up_ne (by omega), ag_up_ne (by omega)]
        exact hk _ _ _ (by omega)
theorem grow0_2 {fu : Nat} {n : ag_N} {s : ag_S} (h1 : s 12 1 0 = -2) (h2 : s 12 2 0 = nI 0) (hn : n 22 = 0) : f_Jx4a65c_grow_d5877_2 fu n s = some (nI 0, (ag_nn n 22, ag_up (ag_s3 s 22 0 10) 12 1 0 (nI 0))) := by
  have e0 : ag_ln s 82 (-2) = 0 := by unfold ag_ln; rw [if_pos rfl]
  unfold f_Jx4a65c_grow_d5877_2 f_Jx4a65c_grow_92f84_2
  rw [h1, h2, e0, hn, show nI 0 + 1 = 1 from by decide, show (if (10 : Int32) < 1 then (1 : Int32) else 10) = 10 from by decide, if_neg (by decide), if_neg (by decide), if_neg (by decide), if_pos rfl, if_neg (by decide), bd_some]
theorem grow1_2 {fu : Nat} {n : ag_N} {s : ag_S} {w cap : Nat} (hw : w < n 22) (hn : n 22 ≤ 60) (h1 : s 12 1 0 = nI w) (h2 : s 12 2 0 = nI cap) (hc : s 82 0 (nI w) = nI cap) (hcap : cap = 10 ∨ cap = 15 ∨ cap = 22 ∨ cap = 33) : ∃ c2 : Nat, (c2 = 15 ∨ c2 = 22 ∨ c2 = 33 ∨ c2 = 49) ∧ cap < c2 ∧ f_Jx4a65c_grow_d5877_2 fu n s = some (nI (n 22), (ag_nn n 22, ag_up (ag_sc (ag_s3 s 22 (n 22) (nI c2)) 22 w (n 22) cap) 12 1 0 (nI (n 22)))) := by
  obtain ⟨c2, g1, g2, g3⟩ := newLen (fu := fu) (s := s) hcap
  refine ⟨c2, g1, g2, ?_⟩
  have hne := nI_neg1 (w := w) (by omega)
  have hl : ag_ln s 82 (nI w) = nI cap := ag_lnI (by omega) (by omega) hc
  unfold f_Jx4a65c_grow_d5877_2 f_Jx4a65c_grow_92f84_2
  rw [h1, h2, hl, if_neg hne.1, if_pos (by rcases hcap with rfl | rfl | rfl | rfl <;> decide), g3, bd_some, if_neg hne.1, if_neg hne.2, copy2 hw hn hc g2 (by omega), bd_some, bd_some]
theorem LL.add2 {fu N : Nat} {n : ag_N} {s : ag_S} (h : LL n 12 22 82 N s) (hN : N ≤ 40) : ∃ n' s', f_Jx4a65c_add_9ea2d_2 fu (nI N) n s = some (1, (n', s')) ∧ LL n' 12 22 82 (N + 1) s' ∧ (∀ k', k' ≠ 22 → n' k' = n k') ∧ ∀ k' f i, k' ≠ 12 → k' ≠ 22 → k' ≠ 82 → s' k' f i = s k' f i := by
  obtain ⟨h1, h2, h9, h3⟩ := h
  obtain ⟨s1, hs1⟩ : ∃ x, x = ag_up s 12 0 0 (s 12 0 0 + 1) := ⟨_, rfl⟩
  have hk : ∀ k' f i, ¬ (k' = 12 ∧ f = 0) → s1 k' f i = s k' f i := fun k' f i q => by rw [hs1]; exact ag_up_ne (fun e => q ⟨e.1, e.2.1⟩)
  have e1 : s1 12 1 0 = s 12 1 0 := hk _ _ _ (by decide)
  have e2 : s1 12 2 0 = nI N := (hk _ _ _ (by decide)).trans h1
  unfold f_Jx4a65c_add_9ea2d_2
  rw [← hs1]
  by_cases h0 : N = 0
  · subst h0
    rw [if_pos rfl] at h3
    have hn0 : n 22 = 0 := by omega
    have g := grow0_2 (fu := fu) (n := n) (s := s1) (e1.trans h3) e2 hn0
    have e3 : ag_ln s1 82 (-2) = 0 := by unfold ag_ln; rw [if_pos rfl]
    obtain ⟨s2, hs2⟩ : ∃ x, x = ag_up (ag_s3 s1 22 0 10) 12 1 0 (nI 0) := ⟨_, rfl⟩
    have e4 : s2 82 0 (nI 0) = nI 10 := by rw [hs2, ag_up_ne (by decide)]; exact (ag_s3_len (k := 22)).trans (by decide)
    have hg : ¬ (nI 0 < 0 ∨ (s2 82 0 (nI 0)).toNatClampNeg ≤ (nI 0).toNatClampNeg ∨ 100 < (s2 82 0 (nI 0)).toNatClampNeg) := by rw [e4]; decide
    refine ⟨ag_nn n 22, ag_up (ag_up s2 22 (nI 0).toNatClampNeg (nI 0) (nI 0)) 12 2 0 (nI 0 + 1), by
      rw [e1, h3, e2, if_neg (by decide)]
      unfold f_Jx4a65c_add_72be8_2
      rw [e3, if_pos (by decide), g, bd_some, ← hs2]
      dsimp only
      rw [if_neg hg, bd_some], ⟨?_, by omega, ?_, ?_⟩, fun k' hk' => if_neg hk', fun k' f i q1 q2 q3 => ?_⟩
    · exact ag_up_eq.trans (by decide)
    · show (if 22 = 22 then n 22 + 1 else _) ≤ _
      rw [if_pos rfl, hn0]
      exact Nat.le_refl _
    · rw [if_neg (by decide)]
      refine ⟨0, 10, ?_, ?_, ?_, by omega, Or.inl rfl, fun q hq => ?_⟩
      · show 0 < (if 22 = 22 then n 22 + 1 else _)
        rw [if_pos rfl]; omega
      · rw [ag_up_ne (by decide), ag_up_ne (by decide), hs2, ag_up_eq]
      · rw [ag_up_ne (by decide), ag_up_ne (by decide)]; exact e4
      · have : q = 0 := by omega
        subst this
        rw [ag_up_ne (by decide)]
        exact ag_up_eq
    · rw [ag_up_ne (by omega), ag_up_ne (by omega), hs2, ag_up_ne (by omega), ag_s3_ne (by omega) (by omega)]
      exact hk _ _ _ (by omega)
  · rw [if_neg h0] at h3
    obtain ⟨w, cap, a1, a2, a3, a4, a5, a6⟩ := h3
    have hne := nI_neg1 (w := w) (by omega)
    have hcw : (nI w).toNatClampNeg = w := nI_clamp (p31 (by omega))
    have hcN : (nI N).toNatClampNeg = N := nI_clamp (p31 (by omega))
    have e3 : s1 82 0 (nI w) = nI cap := (hk _ _ _ (by decide)).trans a3
    have hl : ag_ln s1 82 (nI w) = nI cap := ag_lnI (by omega) (by omega) e3
    have a6b : ∀ q, q < N → s1 22 w (nI q) = nI q := fun q hq => (hk _ _ _ (by omega)).trans (a6 q hq)
    by_cases hc : N = cap
    · obtain ⟨c2, g1, g2, g3⟩ := grow1_2 (fu := fu) (n := n) (s := s1) a1 (by omega) (e1.trans a2) (e2.trans (by rw [hc])) e3 (by omega)
      obtain ⟨s2, hs2⟩ : ∃ x, x = ag_up (ag_sc (ag_s3 s1 22 (n 22) (nI c2)) 22 w (n 22) cap) 12 1 0 (nI (n 22)) := ⟨_, rfl⟩
      have hcn : (nI (n 22)).toNatClampNeg = n 22 := nI_clamp (p31 (by omega))
      have hsc : ∀ k' f i, k' ≠ 22 → ag_sc (ag_s3 s1 22 (n 22) (nI c2)) 22 w (n 22) cap k' f i = ag_s3 s1 22 (n 22) (nI c2) k' f i := fun k' f i q => if_neg (fun e => q e.1)
      have e4 : s2 82 0 (nI (n 22)) = nI c2 := by rw [hs2, ag_up_ne (by omega), hsc _ _ _ (by decide)]; exact ag_s3_len (k := 22)
      have e5 : ∀ q, q < N → s2 22 (n 22) (nI q) = nI q := fun q hq => by
        rw [hs2, ag_up_ne (by omega)]
        unfold ag_sc
        rw [if_pos ⟨rfl, rfl, nI_pos (p31 (by omega)), by rw [nI_clamp (p31 (by omega))]; omega⟩, ag_s3_ne (by omega) (by omega)]
        exact a6b q hq
      have hg : ¬ (nI N < 0 ∨ (s2 82 0 (nI (n 22))).toNatClampNeg ≤ (nI N).toNatClampNeg ∨ 100 < (s2 82 0 (nI (n 22))).toNatClampNeg) := by
        rw [e4, hcN, nI_clamp (p31 (by omega) : c2 < 2 ^ 31)]
        rintro (h | h | h)
        · exact nI_pos (p31 (by omega)) h
        · omega
        · omega
      refine ⟨ag_nn n 22, ag_up (ag_up s2 22 (nI (n 22)).toNatClampNeg (nI N) (nI N)) 12 2 0 (nI N + 1), by
        rw [e1, a2, e2, if_neg hne.1]
        unfold f_Jx4a65c_add_72be8_2
        rw [hl, if_pos (by rw [hc]), g3, bd_some, ← hs2]
        dsimp only
        rw [if_neg hg, bd_some], ⟨?_, by omega, ?_, ?_⟩, fun k' hk' => if_neg hk', fun k' f i q1 q2 q3 => ?_⟩
      · exact ag_up_eq.trans (nI_1 N)
      · show (if 22 = 22 then n 22 + 1 else _) ≤ _
        rw [if_pos rfl]; omega
      · rw [if_neg (by omega)]
        refine ⟨n 22, c2, ?_, ?_, ?_, by omega, by omega, fun q hq => ?_⟩
        · show n 22 < (if 22 = 22 then n 22 + 1 else _)
          rw [if_pos rfl]; omega
        · rw [ag_up_ne (by decide), ag_up_ne (by omega), hs2, ag_up_eq]
        · rw [ag_up_ne (by omega), ag_up_ne (by omega)]; exact e4
        · rw [ag_up_ne (by omega), hcn]
          by_cases hqN : q = N
          · subst hqN; exact ag_up_eq
          · rw [ag_up_ne (fun e => hqN ((nI_eq (p31 (by omega)) (p31 (by omega))).mp e.2.2))]
            exact e5 q (by omega)
      · rw [ag_up_ne (by omega), ag_up_ne (by omega), hs2, ag_up_ne (by omega), hsc _ _ _ q2, ag_s3_ne (by omega) (by omega)]
        exact hk _ _ _ (by omega)
    · have hg : ¬ (nI N < 0 ∨ (s1 82 0 (nI w)).toNatClampNeg ≤ (nI N).toNatClampNeg ∨ 100 < (s1 82 0 (nI w)).toNatClampNeg) := by
        rw [e3, hcN, nI_clamp (p31 (by omega) : cap < 2 ^ 31)]
        rintro (h | h | h)
        · exact nI_pos (p31 (by omega)) h
        · omega
        · omega
      refine ⟨n, ag_up (ag_up s1 22 (nI w).toNatClampNeg (nI N) (nI N)) 12 2 0 (nI N + 1), by
        rw [e1, a2, e2, if_neg hne.1]
        unfold f_Jx4a65c_add_72be8_2
        rw [hl, if_neg (fun e => hc ((nI_eq (p31 (by omega)) (p31 (by omega))).mp e)), if_neg hne.2, if_neg hg, bd_some], ⟨?_, by omega, by omega, ?_⟩, fun _ _ => rfl, fun k' f i q1 q2 q3 => ?_⟩
      · exact ag_up_eq.trans (nI_1 N)
      · rw [if_neg (by omega)]
        refine ⟨w, cap, a1, ?_, ?_, by omega, a5, fun q hq => ?_⟩
        · rw [ag_up_ne (by decide), ag_up_ne (by omega)]; exact e1.trans a2
        · rw [ag_up_ne (by omega), ag_up_ne (by omega)]; exact e3
        · rw [ag_up_ne (by omega), hcw]
          by_cases hqN : q = N
          · subst hqN; exact ag_up_eq
          · rw [ag_up_ne (fun e => hqN ((nI_eq (p31 (by omega)) (p31 (by omega))).mp e.2.2))]
            exact a6b q (by omega)
      · rw [ag_up_ne (by omega), ag_up_ne (by omega)]
        exact hk _ _ _ (by omega)
theorem grow0_3 {fu : Nat} {n : ag_N} {s : ag_S} (h1 : s 13 1 0 = -2) (h2 : s 13 2 0 = nI 0) (hn : n 23 = 0) : f_Jx4a65c_grow_d5877_3 fu n s = some (nI 0, (ag_nn n 23, ag_up (ag_s3 s 23 0 10) 13 1 0 (nI 0))) := by
  have e0 : ag_ln s 83 (-2) = 0 := by unfold ag_ln; rw [if_pos rfl]
  unfold f_Jx4a65c_grow_d5877_3 f_Jx4a65c_grow_92f84_3
  rw [h1, h2, e0, hn, show nI 0 + 1 = 1 from by decide, show (if (10 : Int32) < 1 then (1 : Int32) else 10) = 10 from by decide, if_neg (by decide), if_neg (by decide), if_neg (by decide), if_pos rfl, if_neg (by decide), bd_some]
theorem grow1_3 {fu : Nat} {n : ag_N} {s : ag_S} {w cap : Nat} (hw : w < n 23) (hn : n 23 ≤ 60) (h1 : s 13 1 0 = nI w) (h2 : s 13 2 0 = nI cap) (hc : s 83 0 (nI w) = nI cap) (hcap : cap = 10 ∨ cap = 15 ∨ cap = 22 ∨ cap = 33) : ∃ c2 : Nat, (c2 = 15 ∨ c2 = 22 ∨ c2 = 33 ∨ c2 = 49) ∧ cap < c2 ∧ f_Jx4a65c_grow_d5877_3 fu n s = some (nI (n 23), (ag_nn n 23, ag_up (ag_sc (ag_s3 s 23 (n 23) (nI c2)) 23 w (n 23) cap) 13 1 0 (nI (n 23)))) := by
  obtain ⟨c2, g1, g2, g3⟩ := newLen (fu := fu) (s := s) hcap
  refine ⟨c2, g1, g2, ?_⟩
  have hne := nI_neg1 (w := w) (by omega)
  have hl : ag_ln s 83 (nI w) = nI cap := ag_lnI (by omega) (by omega) hc
  unfold f_Jx4a65c_grow_d5877_3 f_Jx4a65c_grow_92f84_3
  rw [h1, h2, hl, if_neg hne.1, if_pos (by rcases hcap with rfl | rfl | rfl | rfl <;> decide), g3, bd_some, if_neg hne.1, if_neg hne.2, copy3 hw hn hc g2 (by omega), bd_some, bd_some]
theorem LL.add3 {fu N : Nat} {n : ag_N} {s : ag_S} (h : LL n 13 23 83 N s) (hN : N ≤ 40) : ∃ n' s', f_Jx4a65c_add_9ea2d_3 fu (nI N) n s = some (1, (n', s')) ∧ LL n' 13 23 83 (N + 1) s' ∧ (∀ k', k' ≠ 23 → n' k' = n k') ∧ ∀ k' f i, k' ≠ 13 → k' ≠ 23 → k' ≠ 83 → s' k' f i = s k' f i := by
  obtain ⟨h1, h2, h9, h3⟩ := h
  obtain ⟨s1, hs1⟩ : ∃ x, x = ag_up s 13 0 0 (s 13 0 0 + 1) := ⟨_, rfl⟩
  have hk : ∀ k' f i, ¬ (k' = 13 ∧ f = 0) → s1 k' f i = s k' f i := fun k' f i q => by rw [hs1]; exact ag_up_ne (fun e => q ⟨e.1, e.2.1⟩)
  have e1 : s1 13 1 0 = s 13 1 0 := hk _ _ _ (by decide)
  have e2 : s1 13 2 0 = nI N := (hk _ _ _ (by decide)).trans h1
  unfold f_Jx4a65c_add_9ea2d_3
  rw [← hs1]
  by_cases h0 : N = 0
  · subst h0
    rw [if_pos rfl] at h3
    have hn0 : n 23 = 0 := by omega
    have g := grow0_3 (fu := fu) (n := n) (s := s1) (e1.trans h3) e2 hn0
    have e3 : ag_ln s1 83 (-2) = 0 := by unfold ag_ln; rw [if_pos rfl]
    obtain ⟨s2, hs2⟩ : ∃ x, x = ag_up (ag_s3 s1 23 0 10) 13 1 0 (nI 0) := ⟨_, rfl⟩
    have e4 : s2 83 0 (nI 0) = nI 10 := by rw [hs2, ag_up_ne (by decide)]; exact (ag_s3_len (k := 23)).trans (by decide)
    have hg : ¬ (nI 0 < 0 ∨ (s2 83 0 (nI 0)).toNatClampNeg ≤ (nI 0).toNatClampNeg ∨ 100 < (s2 83 0 (nI 0)).toNatClampNeg) := by rw [e4]; decide
    refine ⟨ag_nn n 23, ag_up (ag_up s2 23 (nI 0).toNatClampNeg (nI 0) (nI 0)) 13 2 0 (nI 0 + 1), by
      rw [e1, h3, e2, if_neg (by decide)]
      unfold f_Jx4a65c_add_72be8_3
      rw [e3, if_pos (by decide), g, bd_some, ← hs2]
      dsimp only
      rw [if_neg hg, bd_some], ⟨?_, by omega, ?_, ?_⟩, fun k' hk' => if_neg hk', fun k' f i q1 q2 q3 => ?_⟩
    · exact ag_up_eq.trans (by decide)
    · show (if 23 = 23 then n 23 + 1 else _) ≤ _
      rw [if_pos rfl, hn0]
      exact Nat.le_refl _
    · rw [if_neg (by decide)]
      refine ⟨0, 10, ?_, ?_, ?_, by omega, Or.inl rfl, fun q hq => ?_⟩
      · show 0 < (if 23 = 23 then n 23 + 1 else _)
        rw [if_pos rfl]; omega
      · rw [ag_up_ne (by decide), ag_up_ne (by decide), hs2, ag_up_eq]
      · rw [ag_up_ne (by decide), ag_up_ne (by decide)]; exact e4
      · have : q = 0 := by omega
        subst this
        rw [ag_up_ne (by decide)]
        exact ag_up_eq
    · rw [ag_up_ne (by omega), ag_up_ne (by omega), hs2, ag_up_ne (by omega), ag_s3_ne (by omega) (by omega)]
      exact hk _ _ _ (by omega)
  · rw [if_neg h0] at h3
    obtain ⟨w, cap, a1, a2, a3, a4, a5, a6⟩ := h3
    have hne := nI_neg1 (w := w) (by omega)
    have hcw : (nI w).toNatClampNeg = w := nI_clamp (p31 (by omega))
    have hcN : (nI N).toNatClampNeg = N := nI_clamp (p31 (by omega))
    have e3 : s1 83 0 (nI w) = nI cap := (hk _ _ _ (by decide)).trans a3
    have hl : ag_ln s1 83 (nI w) = nI cap := ag_lnI (by omega) (by omega) e3
    have a6b : ∀ q, q < N → s1 23 w (nI q) = nI q := fun q hq => (hk _ _ _ (by omega)).trans (a6 q hq)
    by_cases hc : N = cap
    · obtain ⟨c2, g1, g2, g3⟩ := grow1_3 (fu := fu) (n := n) (s := s1) a1 (by omega) (e1.trans a2) (e2.trans (by rw [hc])) e3 (by omega)
      obtain ⟨s2, hs2⟩ : ∃ x, x = ag_up (ag_sc (ag_s3 s1 23 (n 23) (nI c2)) 23 w (n 23) cap) 13 1 0 (nI (n 23)) := ⟨_, rfl⟩
      have hcn : (nI (n 23)).toNatClampNeg = n 23 := nI_clamp (p31 (by omega))
      have hsc : ∀ k' f i, k' ≠ 23 → ag_sc (ag_s3 s1 23 (n 23) (nI c2)) 23 w (n 23) cap k' f i = ag_s3 s1 23 (n 23) (nI c2) k' f i := fun k' f i q => if_neg (fun e => q e.1)
      have e4 : s2 83 0 (nI (n 23)) = nI c2 := by rw [hs2, ag_up_ne (by omega), hsc _ _ _ (by decide)]; exact ag_s3_len (k := 23)
      have e5 : ∀ q, q < N → s2 23 (n 23) (nI q) = nI q := fun q hq => by
        rw [hs2, ag_up_ne (by omega)]
        unfold ag_sc
        rw [if_pos ⟨rfl, rfl, nI_pos (p31 (by omega)), by rw [nI_clamp (p31 (by omega))]; omega⟩, ag_s3_ne (by omega) (by omega)]
        exact a6b q hq
      have hg : ¬ (nI N < 0 ∨ (s2 83 0 (nI (n 23))).toNatClampNeg ≤ (nI N).toNatClampNeg ∨ 100 < (s2 83 0 (nI (n 23))).toNatClampNeg) := by
        rw [e4, hcN, nI_clamp (p31 (by omega) : c2 < 2 ^ 31)]
        rintro (h | h | h)
        · exact nI_pos (p31 (by omega)) h
        · omega
        · omega
      refine ⟨ag_nn n 23, ag_up (ag_up s2 23 (nI (n 23)).toNatClampNeg (nI N) (nI N)) 13 2 0 (nI N + 1), by
        rw [e1, a2, e2, if_neg hne.1]
        unfold f_Jx4a65c_add_72be8_3
        rw [hl, if_pos (by rw [hc]), g3, bd_some, ← hs2]
        dsimp only
        rw [if_neg hg, bd_some], ⟨?_, by omega, ?_, ?_⟩, fun k' hk' => if_neg hk', fun k' f i q1 q2 q3 => ?_⟩
      · exact ag_up_eq.trans (nI_1 N)
      · show (if 23 = 23 then n 23 + 1 else _) ≤ _
        rw [if_pos rfl]; omega
      · rw [if_neg (by omega)]
        refine ⟨n 23, c2, ?_, ?_, ?_, by omega, by omega, fun q hq => ?_⟩
        · show n 23 < (if 23 = 23 then n 23 + 1 else _)
          rw [if_pos rfl]; omega
        · rw [ag_up_ne (by decide), ag_up_ne (by omega), hs2, ag_up_eq]
        · rw [ag_up_ne (by omega), ag_up_ne (by omega)]; exact e4
        · rw [ag_up_ne (by omega), hcn]
          by_cases hqN : q = N
          · subst hqN; exact ag_up_eq
          · rw [ag_up_ne (fun e => hqN ((nI_eq (p31 (by omega)) (p31 (by omega))).mp e.2.2))]
            exact e5 q (by omega)
      · rw [ag_up_ne (by omega), ag_up_ne (by omega), hs2, ag_up_ne (by omega), hsc _ _ _ q2, ag_s3_ne (by omega) (by omega)]
        exact hk _ _ _ (by omega)
    · have hg : ¬ (nI N < 0 ∨ (s1 83 0 (nI w)).toNatClampNeg ≤ (nI N).toNatClampNeg ∨ 100 < (s1 83 0 (nI w)).toNatClampNeg) := by
        rw [e3, hcN, nI_clamp (p31 (by omega) : cap < 2 ^ 31)]
        rintro (h | h | h)
        · exact nI_pos (p31 (by omega)) h
        · omega
        · omega
      refine ⟨n, ag_up (ag_up s1 23 (nI w).toNatClampNeg (nI N) (nI N)) 13 2 0 (nI N + 1), by
        rw [e1, a2, e2, if_neg hne.1]
        unfold f_Jx4a65c_add_72be8_3
        rw [hl, if_neg (fun e => hc ((nI_eq (p31 (by omega)) (p31 (by omega))).mp e)), if_neg hne.2, if_neg hg, bd_some], ⟨?_, by omega, by omega, ?_⟩, fun _ _ => rfl, fun k' f i q1 q2 q3 => ?_⟩
      · exact ag_up_eq.trans (nI_1 N)
      · rw [if_neg (by omega)]
        refine ⟨w, cap, a1, ?_, ?_, by omega, a5, fun q hq => ?_⟩
        · rw [ag_up_ne (by decide), ag_up_ne (by omega)]; exact e1.trans a2
        · rw [ag_up_ne (by omega), ag_up_ne (by omega)]; exact e3
        · rw [ag_up_ne (by omega), hcw]
          by_cases hqN : q = N
          · subst hqN; exact ag_up_eq
          · rw [ag_up_ne (fun e => hqN ((nI_eq (p31 (by omega)) (p31 (by omega))).mp e.2.2))]
            exact a6b q (by omega)
      · rw [ag_up_ne (by omega), ag_up_ne (by omega)]
        exact hk _ _ _ (by omega)
theorem grow0_4 {fu : Nat} {n : ag_N} {s : ag_S} (h1 : s 14 1 0 = -2) (h2 : s 14 2 0 = nI 0) (hn : n 24 = 0) : f_Jx4a65c_grow_d5877_4 fu n s = some (nI 0, (ag_nn n 24, ag_up (ag_s3 s 24 0 10) 14 1 0 (nI 0))) := by
  have e0 : ag_ln s 84 (-2) = 0 := by unfold ag_ln; rw [if_pos rfl]
  unfold f_Jx4a65c_grow_d5877_4 f_Jx4a65c_grow_92f84_4
  rw [h1, h2, e0, hn, show nI 0 + 1 = 1 from by decide, show (if (10 : Int32) < 1 then (1 : Int32) else 10) = 10 from by decide, if_neg (by decide), if_neg (by decide), if_neg (by decide), if_pos rfl, if_neg (by decide), bd_some]
theorem grow1_4 {fu : Nat} {n : ag_N} {s : ag_S} {w cap : Nat} (hw : w < n 24) (hn : n 24 ≤ 60) (h1 : s 14 1 0 = nI w) (h2 : s 14 2 0 = nI cap) (hc : s 84 0 (nI w) = nI cap) (hcap : cap = 10 ∨ cap = 15 ∨ cap = 22 ∨ cap = 33) : ∃ c2 : Nat, (c2 = 15 ∨ c2 = 22 ∨ c2 = 33 ∨ c2 = 49) ∧ cap < c2 ∧ f_Jx4a65c_grow_d5877_4 fu n s = some (nI (n 24), (ag_nn n 24, ag_up (ag_sc (ag_s3 s 24 (n 24) (nI c2)) 24 w (n 24) cap) 14 1 0 (nI (n 24)))) := by
  obtain ⟨c2, g1, g2, g3⟩ := newLen (fu := fu) (s := s) hcap
  refine ⟨c2, g1, g2, ?_⟩
  have hne := nI_neg1 (w := w) (by omega)
  have hl : ag_ln s 84 (nI w) = nI cap := ag_lnI (by omega) (by omega) hc
  unfold f_Jx4a65c_grow_d5877_4 f_Jx4a65c_grow_92f84_4
  rw [h1, h2, hl, if_neg hne.1, if_pos (by rcases hcap with rfl | rfl | rfl | rfl <;> decide), g3, bd_some, if_neg hne.1, if_neg hne.2, copy4 hw hn hc g2 (by omega), bd_some, bd_some]
theorem LL.add4 {fu N : Nat} {n : ag_N} {s : ag_S} (h : LL n 14 24 84 N s) (hN : N ≤ 40) : ∃ n' s', f_Jx4a65c_add_9ea2d_4 fu (nI N) n s = some (1, (n', s')) ∧ LL n' 14 24 84 (N + 1) s' ∧ (∀ k', k' ≠ 24 → n' k' = n k') ∧ ∀ k' f i, k' ≠ 14 → k' ≠ 24 → k' ≠ 84 → s' k' f i = s k' f i := by
  obtain ⟨h1, h2, h9, h3⟩ := h
  obtain ⟨s1, hs1⟩ : ∃ x, x = ag_up s 14 0 0 (s 14 0 0 + 1) := ⟨_, rfl⟩
  have hk : ∀ k' f i, ¬ (k' = 14 ∧ f = 0) → s1 k' f i = s k' f i := fun k' f i q => by rw [hs1]; exact ag_up_ne (fun e => q ⟨e.1, e.2.1⟩)
  have e1 : s1 14 1 0 = s 14 1 0 := hk _ _ _ (by decide)
  have e2 : s1 14 2 0 = nI N := (hk _ _ _ (by decide)).trans h1
  unfold f_Jx4a65c_add_9ea2d_4
  rw [← hs1]
  by_cases h0 : N = 0
  · subst h0
    rw [if_pos rfl] at h3
    have hn0 : n 24 = 0 := by omega
    have g := grow0_4 (fu := fu) (n := n) (s := s1) (e1.trans h3) e2 hn0
    have e3 : ag_ln s1 84 (-2) = 0 := by unfold ag_ln; rw [if_pos rfl]
    obtain ⟨s2, hs2⟩ : ∃ x, x = ag_up (ag_s3 s1 24 0 10) 14 1 0 (nI 0) := ⟨_, rfl⟩
    have e4 : s2 84 0 (nI 0) = nI 10 := by rw [hs2, ag_up_ne (by decide)]; exact (ag_s3_len (k := 24)).trans (by decide)
    have hg : ¬ (nI 0 < 0 ∨ (s2 84 0 (nI 0)).toNatClampNeg ≤ (nI 0).toNatClampNeg ∨ 100 < (s2 84 0 (nI 0)).toNatClampNeg) := by rw [e4]; decide
    refine ⟨ag_nn n 24, ag_up (ag_up s2 24 (nI 0).toNatClampNeg (nI 0) (nI 0)) 14 2 0 (nI 0 + 1), by
      rw [e1, h3, e2, if_neg (by decide)]
      unfold f_Jx4a65c_add_72be8_4
      rw [e3, if_pos (by decide), g, bd_some, ← hs2]
      dsimp only
      rw [if_neg hg, bd_some], ⟨?_, by omega, ?_, ?_⟩, fun k' hk' => if_neg hk', fun k' f i q1 q2 q3 => ?_⟩
    · exact ag_up_eq.trans (by decide)
    · show (if 24 = 24 then n 24 + 1 else _) ≤ _
      rw [if_pos rfl, hn0]
      exact Nat.le_refl _
    · rw [if_neg (by decide)]
      refine ⟨0, 10, ?_, ?_, ?_, by omega, Or.inl rfl, fun q hq => ?_⟩
      · show 0 < (if 24 = 24 then n 24 + 1 else _)
        rw [if_pos rfl]; omega
      · rw [ag_up_ne (by decide), ag_up_ne (by decide), hs2, ag_up_eq]
      · rw [ag_up_ne (by decide), ag_up_ne (by decide)]; exact e4
      · have : q = 0 := by omega
        subst this
        rw [ag_up_ne (by decide)]
        exact ag_up_eq
    · rw [ag_up_ne (by omega), ag_up_ne (by omega), hs2, ag_up_ne (by omega), ag_s3_ne (by omega) (by omega)]
      exact hk _ _ _ (by omega)
  · rw [if_neg h0] at h3
    obtain ⟨w, cap, a1, a2, a3, a4, a5, a6⟩ := h3
    have hne := nI_neg1 (w := w) (by omega)
    have hcw : (nI w).toNatClampNeg = w := nI_clamp (p31 (by omega))
    have hcN : (nI N).toNatClampNeg = N := nI_clamp (p31 (by omega))
    have e3 : s1 84 0 (nI w) = nI cap := (hk _ _ _ (by decide)).trans a3
    have hl : ag_ln s1 84 (nI w) = nI cap := ag_lnI (by omega) (by omega) e3
    have a6b : ∀ q, q < N → s1 24 w (nI q) = nI q := fun q hq => (hk _ _ _ (by omega)).trans (a6 q hq)
    by_cases hc : N = cap
    · obtain ⟨c2, g1, g2, g3⟩ := grow1_4 (fu := fu) (n := n) (s := s1) a1 (by omega) (e1.trans a2) (e2.trans (by rw [hc])) e3 (by omega)
      obtain ⟨s2, hs2⟩ : ∃ x, x = ag_up (ag_sc (ag_s3 s1 24 (n 24) (nI c2)) 24 w (n 24) cap) 14 1 0 (nI (n 24)) := ⟨_, rfl⟩
      have hcn : (nI (n 24)).toNatClampNeg = n 24 := nI_clamp (p31 (by omega))
      have hsc : ∀ k' f i, k' ≠ 24 → ag_sc (ag_s3 s1 24 (n 24) (nI c2)) 24 w (n 24) cap k' f i = ag_s3 s1 24 (n 24) (nI c2) k' f i := fun k' f i q => if_neg (fun e => q e.1)
      have e4 : s2 84 0 (nI (n 24)) = nI c2 := by rw [hs2, ag_up_ne (by omega), hsc _ _ _ (by decide)]; exact ag_s3_len (k := 24)
      have e5 : ∀ q, q < N → s2 24 (n 24) (nI q) = nI q := fun q hq => by
        rw [hs2, ag_up_ne (by omega)]
        unfold ag_sc
        rw [if_pos ⟨rfl, rfl, nI_pos (p31 (by omega)), by rw [nI_clamp (p31 (by omega))]; omega⟩, ag_s3_ne (by omega) (by omega)]
        exact a6b q hq
      have hg : ¬ (nI N < 0 ∨ (s2 84 0 (nI (n 24))).toNatClampNeg ≤ (nI N).toNatClampNeg ∨ 100 < (s2 84 0 (nI (n 24))).toNatClampNeg) := by
        rw [e4, hcN, nI_clamp (p31 (by omega) : c2 < 2 ^ 31)]
        rintro (h | h | h)
        · exact nI_pos (p31 (by omega)) h
        · omega
        · omega
      refine ⟨ag_nn n 24, ag_up (ag_up s2 24 (nI (n 24)).toNatClampNeg (nI N) (nI N)) 14 2 0 (nI N + 1), by
        rw [e1, a2, e2, if_neg hne.1]
        unfold f_Jx4a65c_add_72be8_4
        rw [hl, if_pos (by rw [hc]), g3, bd_some, ← hs2]
        dsimp only
        rw [if_neg hg, bd_some], ⟨?_, by omega, ?_, ?_⟩, fun k' hk' => if_neg hk', fun k' f i q1 q2 q3 => ?_⟩
      · exact ag_up_eq.trans (nI_1 N)
      · show (if 24 = 24 then n 24 + 1 else _) ≤ _
        rw [if_pos rfl]; omega
      · rw [if_neg (by omega)]
        refine ⟨n 24, c2, ?_, ?_, ?_, by omega, by omega, fun q hq => ?_⟩
        · show n 24 < (if 24 = 24 then n 24 + 1 else _)
          rw [if_pos rfl]; omega
        · rw [ag_up_ne (by decide), ag_up_ne (by omega), hs2, ag_up_eq]
        · rw [ag_up_ne (by omega), ag_up_ne (by omega)]; exact e4
        · rw [ag_up_ne (by omega), hcn]
          by_cases hqN : q = N
          · subst hqN; exact ag_up_eq
          · rw [ag_up_ne (fun e => hqN ((nI_eq (p31 (by omega)) (p31 (by omega))).mp e.2.2))]
            exact e5 q (by omega)
      · rw [ag_up_ne (by omega), ag_up_ne (by omega), hs2, ag_up_ne (by omega), hsc _ _ _ q2, ag_s3_ne (by omega) (by omega)]
        exact hk _ _ _ (by omega)
    · have hg : ¬ (nI N < 0 ∨ (s1 84 0 (nI w)).toNatClampNeg ≤ (nI N).toNatClampNeg ∨ 100 < (s1 84 0 (nI w)).toNatClampNeg) := by
        rw [e3, hcN, nI_clamp (p31 (by omega) : cap < 2 ^ 31)]
        rintro (h | h | h)
        · exact nI_pos (p31 (by omega)) h
        · omega
        · omega
      refine ⟨n, ag_up (ag_up s1 24 (nI w).toNatClampNeg (nI N) (nI N)) 14 2 0 (nI N + 1), by
        rw [e1, a2, e2, if_neg hne.1]
        unfold f_Jx4a65c_add_72be8_4
        rw [hl, if_neg (fun e => hc ((nI_eq (p31 (by omega)) (p31 (by omega))).mp e)), if_neg hne.2, if_neg hg, bd_some], ⟨?_, by omega, by omega, ?_⟩, fun _ _ => rfl, fun k' f i q1 q2 q3 => ?_⟩
      · exact ag_up_eq.trans (nI_1 N)
      · rw [if_neg (by omega)]
        refine ⟨w, cap, a1, ?_, ?_, by omega, a5, fun q hq => ?_⟩
        · rw [ag_up_ne (by decide), ag_up_ne (by omega)]; exact e1.trans a2
        · rw [ag_up_ne (by omega), ag_up_ne (by omega)]; exact e3
        · rw [ag_up_ne (by omega), hcw]
          by_cases hqN : q = N
          · subst hqN; exact ag_up_eq
          · rw [ag_up_ne (fun e => hqN ((nI_eq (p31 (by omega)) (p31 (by omega))).mp e.2.2))]
            exact a6b q (by omega)
      · rw [ag_up_ne (by omega), ag_up_ne (by omega)]
        exact hk _ _ _ (by omega)
