/-! ===== what was in the making is made: kind k + 10 becomes kind k ===== -/
def ag_rn (n : ag_N) (k : Nat) : ag_N := fun k' => if k' = k then n (k + 10) else if k' = k + 10 then 0 else n k'
def ag_rp (p : ag_P) (k : Nat) : ag_P := fun k' i => if k' = k then p (k + 10) i else p k' i
def ag_rs (s : ag_S) (k : Nat) : ag_S := fun k' f i => if k' = k then s (k + 10) f i else s k' f i
theorem ag_od_t {k ci f : Nat} {ts : List (Nat × Nat)} {t : Nat × Nat} (h : ag_od k = some (ci, ts)) (hf : ts[f]? = some t) : t.2 ≠ 5 ∧ t.2 ≠ 6 ∧ t.2 ≠ 15 ∧ t.2 ≠ 16 := by
  have hm := List.mem_of_getElem? hf
  unfold ag_od at h
  split at h <;> first | (cases h; clear hf; revert t; decide) | cases h
theorem ag_0of1 {i : Int32} (h : vp_in i 1) : i = 0 := by
  obtain ⟨j, hj, rfl⟩ := vp_in_of h (Nat.lt_of_lt_of_le (by decide : 1 < 2) (by decide))
  have : j = 0 := by omega
  subst this
  rfl
theorem ag_arr_move {z : ag_Z} {p : ag_P} {s : ag_S} {k k' : Nat} {i : Int32} (hk : k = 5 ∨ k = 6) (h1 : k' ≠ k) (h9 : k' + 60 ≠ k) : ag_arr z (ag_rp p k) (ag_rs s k) k' i = ag_arr z p s k' i := by
  have hs : ∀ f i, ag_rs s k k' f i = s k' f i := fun f i => by unfold ag_rs; rw [if_neg h1]
  have hs2 : ∀ f i, ag_rs s k (k' + 60) f i = s (k' + 60) f i := fun f i => by unfold ag_rs; rw [if_neg h9]
  unfold ag_arr
  split
  · simp only [hs]
  · simp only [hs]
  · simp only [hs]
  · rename_i a d x0 x1 x2 e
    have hp : ∀ i, ag_rp p k (k' - 20) i = p (k' - 20) i := fun i => by
      unfold ag_rp
      rw [if_neg]
      have ha : (ag_ad k').1 = 3 := by
        rw [e]
        rcases Nat.lt_or_ge 2 a with h | h
        · by_cases h3 : a = 3
          · exact h3
          · rcases ag_ad2 e h3 with h | h | h
            · exact (x0 h).elim
            · exact (x1 h).elim
            · exact (x2 h).elim
        · rcases (show a = 0 ∨ a = 1 ∨ a = 2 by omega) with h | h | h
          · exact (x0 h).elim
          · exact (x1 h).elim
          · exact (x2 h).elim
      have := ag_ad3 ha
      omega
    have hr : ∀ v, ag_ro z (ag_rp p k) (k' - 20) v = ag_ro z p (k' - 20) v := fun v => by unfold ag_ro; rw [hp]
    simp only [hs, hs2, hr]
theorem ag_cell_move {z : ag_Z} {p : ag_P} {s : ag_S} {k k' : Nat} {i : Int32} (hk : k = 5 ∨ k = 6) (h1 : k' ≠ k) : ag_cell z (ag_rp p k) (ag_rs s k) k' i = ag_cell z p s k' i := by
  cases ho : ag_od k' with
  | some q =>
    obtain ⟨ci, ts⟩ := q
    rw [ag_cell_od ho, ag_cell_od ho]
    refine congrArg (fun x => Sum.inr (ci, x)) (ag_fl_ext _ _ ts 0 fun f t ht => ?_)
    have hs : ag_rs s k k' (0 + f) i = s k' (0 + f) i := by unfold ag_rs; rw [if_neg h1]
    rw [hs]
    obtain ⟨a, t⟩ := t
    have ht2 := ag_od_t ho ht
    have hp : ∀ i, ag_rp p k t i = p t i := fun i => by
      unfold ag_rp
      rw [if_neg]
      have e5 : t ≠ 5 := ht2.1
      have e6 : t ≠ 6 := ht2.2.1
      omega
    match a with
    | 0 => rfl
    | 1 => show va_rf (ag_ro z (ag_rp p k) t _) = va_rf (ag_ro z p t _); unfold ag_ro; rw [hp]
    | (a + 2) => show Value.ref (ag_rp p k t 0) = Value.ref (p t 0); rw [hp]
  | none =>
    rw [ag_cell_ad ho, ag_cell_ad ho, ag_arr_move hk h1 (by omega)]
theorem ag_ro0 {z : ag_Z} {p : ag_P} {t : Nat} : va_rf (ag_ro z p t 0) = .ref (p t 0) := by
  unfold ag_ro
  rw [if_neg (by decide), if_neg (by decide)]
  rfl
theorem ag_cell_root {z : ag_Z} {p : ag_P} {s : ag_S} {k : Nat} (hk : k = 5 ∨ k = 6) (h0 : ∀ ci ts f t, ag_od (k + 10) = some (ci, ts) → ts[f]? = some (1, t) → s (k + 10) f 0 = 0) : ag_cell z (ag_rp p k) (ag_rs s k) k 0 = ag_cell z p s (k + 10) 0 := by
  rcases hk with rfl | rfl
  · have e : ∀ f t, [((1 : Nat), 10), (1, 11), (1, 12), (1, 13), (1, 14), (0, 0), (0, 0), (0, 0)][f]? = some (1, t) → s 15 f 0 = 0 := fun f t h => h0 _ _ f t rfl h
    rw [ag_cell_od (k := 5) rfl, ag_cell_od (k := 15) rfl]
    simp only [ag_fl, ag_val, ag_rs, ag_rp, e 0 10 rfl, e 1 11 rfl, e 2 12 rfl, e 3 13 rfl, e 4 14 rfl, ag_ro0]
    rfl
  · have e : ∀ f t, (match ag_od 16 with | some (_, ts) => ts | none => [])[f]? = some (1, t) → s 16 f 0 = 0 := fun f t h => h0 _ _ f t rfl h
    rw [ag_cell_od (k := 6) rfl, ag_cell_od (k := 16) rfl]
    simp only [ag_fl, ag_val, ag_rs, ag_rp, e 4 34 rfl, e 5 35 rfl, e 6 36 rfl, e 8 38 rfl, e 9 39 rfl, e 10 40 rfl, e 11 41 rfl, e 12 42 rfl, e 14 44 rfl, e 15 45 rfl, e 16 46 rfl, e 17 47 rfl, e 18 48 rfl, e 19 49 rfl, e 21 51 rfl, e 22 52 rfl, e 23 53 rfl, e 24 54 rfl, e 25 55 rfl, e 26 56 rfl, e 27 57 rfl, e 28 58 rfl, e 29 59 rfl, e 30 60 rfl, ag_ro0]
    rfl
def ag_ts (k : Nat) : List (Nat × Nat) := match ag_od k with
  | some (_, ts) => ts
  | none => []
theorem ag_od_tt {k ci f t : Nat} {ts : List (Nat × Nat)} (hk : k = 5 ∨ k = 6) (h : ag_od k = some (ci, ts)) (hf : ts[f]? = some (2, t)) : ∃ ci' ts', ag_od (k + 10) = some (ci', ts') ∧ ts'[f]? = some (1, t) := by
  have e : ag_ts (k + 10) = (ag_ts k).map (fun x => if x.1 = 2 then (1, x.2) else x) := by rcases hk with rfl | rfl <;> rfl
  have e2 : ag_od (k + 10) = some (ci, ag_ts (k + 10)) := by rcases hk with rfl | rfl <;> (cases h; rfl)
  have e3 : ag_ts k = ts := by unfold ag_ts; rw [h]
  refine ⟨_, _, e2, ?_⟩
  rw [e, e3, List.getElem?_map, hf]
  rfl
theorem ag_W_move {z : ag_Z} {n : ag_N} {p : ag_P} {s : ag_S} {H : Heap} {k : Nat} (hk : k = 5 ∨ k = 6) (hW : ag_W z n p s H) (h1 : n (k + 10) = 1) (h0 : ∀ ci ts f t, ag_od (k + 10) = some (ci, ts) → ts[f]? = some (1, t) → s (k + 10) f 0 = 0) : ag_W z (ag_rn n k) (ag_rp p k) (ag_rs s k) H := by
  have hnt : ∀ t, t ≠ 5 → t ≠ 6 → t ≠ 15 → t ≠ 16 → ag_rn n k t = n t := fun t a b c d => by
    unfold ag_rn
    rw [if_neg (by omega), if_neg (by omega)]
  have hin : ∀ k' i, vp_in i (ag_rn n k k') → (k' = k ∧ i = 0) ∨ (k' ≠ k ∧ k' ≠ k + 10 ∧ vp_in i (n k')) := fun k' i h => by
    unfold ag_rn at h
    by_cases a : k' = k
    · rw [if_pos a, h1] at h
      exact Or.inl ⟨a, ag_0of1 h⟩
    · rw [if_neg a] at h
      by_cases b : k' = k + 10
      · rw [if_pos b] at h
        exact absurd (Or.inr (Nat.zero_le _)) h
      · rw [if_neg b] at h
        exact Or.inr ⟨a, b, h⟩
  have hp0 : ∀ i, ag_rp p k k i = p (k + 10) i := fun i => by unfold ag_rp; rw [if_pos rfl]
  have hp1 : ∀ k' i, k' ≠ k → ag_rp p k k' i = p k' i := fun k' i h => by unfold ag_rp; rw [if_neg h]
  have hs0 : ∀ f i, ag_rs s k k f i = s (k + 10) f i := fun f i => by unfold ag_rs; rw [if_pos rfl]
  have hs1 : ∀ k' f i, k' ≠ k → ag_rs s k k' f i = s k' f i := fun k' f i h => by unfold ag_rs; rw [if_neg h]
  have hv0 : vp_in 0 (n (k + 10)) := by rw [h1]; exact ag_0in (by decide)
  obtain ⟨w1, w2, w3, w4⟩ := hW
  refine ⟨fun k' i hi => ?_, fun a i b j hi hj e => ?_, ⟨fun k' ci ts f t a1 a2 i => ?_, fun j hj f i => ?_, fun k' ci ts f t a1 a2 a3 => ?_⟩, fun k' => ?_⟩
  · rcases hin k' i hi with ⟨rfl, rfl⟩ | ⟨a, b, c⟩
    · rw [ag_cell_root hk h0, hp0]
      exact w1 _ _ hv0
    · rw [ag_cell_move hk a, hp1 _ _ a]
      exact w1 _ _ c
  · rcases hin a i hi with ⟨rfl, rfl⟩ | ⟨a1, a2, a3⟩ <;> rcases hin b j hj with ⟨b0, rfl⟩ | ⟨b1, b2, b3⟩
    · exact ⟨b0.symm, rfl⟩
    · rw [hp0, hp1 _ _ b1] at e
      exact absurd (w2 _ _ _ _ hv0 b3 e).1.symm b2
    · subst b0
      rw [hp0, hp1 _ _ a1] at e
      exact absurd (w2 _ _ _ _ a3 hv0 e).1 a2
    · rw [hp1 _ _ a1, hp1 _ _ b1] at e
      exact w2 _ _ _ _ a3 b3 e
  · obtain ⟨t1, t2, t3, t4⟩ := ag_od_t a1 a2
    unfold ag_ok
    rw [hnt t t1 t2 t3 t4]
    by_cases a : k' = k
    · subst a
      rcases hk with rfl | rfl
      · cases a1
        have := List.mem_of_getElem? a2
        revert this
        simp
      · cases a1
        have := List.mem_of_getElem? a2
        revert this
        simp
    · rw [hs1 _ _ _ a]
      exact w3.1 k' ci ts f t a1 a2 i
  · unfold ag_ok
    rw [hnt j (by omega) (by omega) (by omega) (by omega), hs1 _ _ _ (by omega)]
    exact w3.2.1 j hj f i
  · obtain ⟨t1, t2, t3, t4⟩ := ag_od_t a1 a2
    rw [hnt t t1 t2 t3 t4]
    by_cases a : k' = k
    · subst a
      obtain ⟨ci', ts', b1, b2⟩ := ag_od_tt hk a1 a2
      have e0 := h0 ci' ts' f t b1 b2
      rcases w3.1 _ ci' ts' f t b1 b2 0 with h | ⟨-, h⟩
      · rw [e0] at h
        exact ag_in0 (h.resolve_left (by decide))
      · rw [e0] at h
        exact absurd h (by decide)
    · refine w3.2.2 k' ci ts f t a1 a2 ?_
      unfold ag_rn at a3
      rw [if_neg a] at a3
      split at a3
      · exact absurd a3 (by decide)
      · exact a3
  · unfold ag_rn
    split
    · rename_i a
      rw [h1]
      unfold ag_mx
      rw [if_pos (by omega)]
      decide
    · split
      · exact Nat.zero_le _
      · exact w4 k'
