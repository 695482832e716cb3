/-! ===== making: one more object of a kind ===== -/
def ag_nn (n : ag_N) (k : Nat) : ag_N := fun k' => if k' = k then n k + 1 else n k'
def ag_pp (p : ag_P) (k : Nat) (i : Int32) (a : Nat) : ag_P := fun k' i' => if k' = k ∧ i' = i then a else p k' i'
/-- the fields of a new object -/
def ag_s0 (s : ag_S) (k : Nat) (i : Int32) : ag_S := fun k' f' i' => if k' = k ∧ i' = i then (match ag_od k with
  | some (_, ts) => (match ts[f']? with
    | some (1, _) => -1
    | some _ => 0
    | none => s k' f' i')
  | none => s k' f' i') else s k' f' i'
/-- a new array's places, all v -/
def ag_sv (s : ag_S) (k m : Nat) (v : Int32) : ag_S := fun k' f' i' => if k' = k ∧ f' = m then v else s k' f' i'
def ag_ext (n : ag_N) (p p1 : ag_P) : Prop := ∀ (k : Nat) (i : Int32), vp_in i (n k) → p1 k i = p k i
def ag_le (n n1 : ag_N) : Prop := ∀ k : Nat, n k ≤ n1 k
theorem ag_le_rf (n : ag_N) : ag_le n n := fun _ => Nat.le_refl _
theorem ag_le_nn (n : ag_N) (k : Nat) : ag_le n (ag_nn n k) := fun k' => by
  unfold ag_nn
  split
  · rename_i h; rw [h]; omega
  · exact Nat.le_refl _
theorem ag_le_tr {a b c : ag_N} (h1 : ag_le a b) (h2 : ag_le b c) : ag_le a c := fun k => Nat.le_trans (h1 k) (h2 k)
theorem ag_ext_rf (n : ag_N) (p : ag_P) : ag_ext n p p := fun _ _ _ => rfl
theorem ag_in_le {i : Int32} {a b : Nat} (h : vp_in i a) (hle : a ≤ b) : vp_in i b := fun q => h (q.elim Or.inl (fun q => Or.inr (Nat.le_trans hle q)))
theorem ag_ext_tr {n n1 : ag_N} {p p1 p2 : ag_P} (hl : ag_le n n1) (h1 : ag_ext n p p1) (h2 : ag_ext n1 p1 p2) : ag_ext n p p2 := fun k i hi => (h2 k i (ag_in_le hi (hl k))).trans (h1 k i hi)
theorem ag_ok_le {n n1 : ag_N} {t : Nat} {v : Int32} (h : ag_ok n t v) (hl : ag_le n n1) : ag_ok n1 t v := h.elim Or.inl (fun h => Or.inr (ag_in_le h (hl t)))
theorem ag_1000 {N : Nat} (h : N ≤ 1000) : N < 2 ^ 31 := Nat.lt_of_le_of_lt h (Nat.lt_of_lt_of_le (Nat.lt_succ_self 1000) (Nat.le_of_ble_eq_true rfl))
theorem ag_new_ne {N : Nat} {i : Int32} (h : vp_in i N) (hN : N ≤ 1000) : ¬ i = nI N := by
  intro q
  subst q
  exact h (Or.inr (by rw [nI_clamp (ag_1000 hN)]; exact Nat.le_refl _))
theorem ag_new_in {N : Nat} (h : N < 1000) : vp_in (nI N) (N + 1) := vp_in_nI (Nat.lt_succ_self N) (ag_1000 (by omega))
theorem ag_in_split {N : Nat} {i : Int32} (h : vp_in i (N + 1)) (hN : N < 1000) : vp_in i N ∨ i = nI N := by
  obtain ⟨j, hj, rfl⟩ := vp_in_of h (ag_1000 (by omega))
  by_cases e : j = N
  · exact Or.inr (by rw [e])
  · exact Or.inl (vp_in_nI (by omega) (ag_1000 (by omega)))
theorem ag_m2 {N : Nat} : ¬ vp_in (-2) N := fun h => h (Or.inl (by decide))
theorem ag_m1 {N : Nat} : ¬ vp_in (-1) N := fun h => h (Or.inl (by decide))
theorem ag_ro_p {z : ag_Z} {n : ag_N} {p p1 : ag_P} {t : Nat} {v : Int32} (he : ag_ext n p p1) (h : ag_ok n t v ∨ v = -2) : ag_ro z p1 t v = ag_ro z p t v := by
  unfold ag_ro
  by_cases h1 : v = -1
  · rw [if_pos h1, if_pos h1]
  · rw [if_neg h1, if_neg h1]
    by_cases h2 : v = -2
    · rw [if_pos h2, if_pos h2]
    · rw [if_neg h2, if_neg h2]
      rcases h with (h | h) | h
      · exact absurd h h1
      · rw [he t v h]
      · exact absurd h h2
theorem ag_cell_p {z : ag_Z} {n : ag_N} {p p1 : ag_P} {s : ag_S} {k : Nat} {i : Int32} (hwf : ag_wf n s) (he : ag_ext n p p1) (hk : 0 < n k) : ag_cell z p1 s k i = ag_cell z p s k i := by
  cases ho : ag_od k with
  | some q =>
    obtain ⟨ci, ts⟩ := q
    rw [ag_cell_od ho, ag_cell_od ho]
    refine congrArg (fun x => Sum.inr (ci, x)) (ag_fl_ext _ _ ts 0 fun f t ht => ?_)
    rw [Nat.zero_add]
    obtain ⟨a, t⟩ := t
    match a, ht with
    | 0, _ => rfl
    | 1, ht =>
      show va_rf _ = va_rf _
      rw [ag_ro_p he ((hwf.1 k ci ts f t ho ht i).elim Or.inl (fun h => Or.inr h.2))]
    | 2, ht =>
      show Value.ref _ = Value.ref _
      rw [he t 0 (ag_0in (hwf.2.2 k ci ts f t ho ht hk))]
    | a + 3, ht =>
      exfalso
      have hh : ∀ k q, ag_od k = some q → ∀ x ∈ q.2, x.1 ≤ 2 := by
        intro k q hq
        unfold ag_od at hq
        split at hq <;> (first | (cases hq; decide) | cases hq)
      have := hh k _ ho _ (List.mem_of_getElem? ht)
      simp at this
  | none =>
    rw [ag_cell_ad ho, ag_cell_ad ho]
    refine congrArg Sum.inl ?_
    unfold ag_arr
    cases hq : ag_ad k with
    | mk a b =>
      by_cases h3 : a = 3
      · subst h3
        have hk2 := ag_ad3 (k := k) (by rw [hq])
        have hr : (fun q => ag_ro z p1 (k - 20) (s k i.toNatClampNeg (nI q))) = fun q => ag_ro z p (k - 20) (s k i.toNatClampNeg (nI q)) := by
          funext q
          have := hwf.2.1 (k - 20) (by omega) i.toNatClampNeg (nI q)
          rw [show 20 + (k - 20) = k by omega] at this
          exact ag_ro_p he (Or.inl this)
        simp only [hr]
      · rcases ag_ad2 hq h3 with rfl | rfl | rfl <;> simp
theorem ag_wf_le {n n1 : ag_N} {s : ag_S} (h : ag_wf n s) (hl : ag_le n n1) (h2 : ∀ (k ci : Nat) (ts : List (Nat × Nat)) (f t : Nat), ag_od k = some (ci, ts) → ts[f]? = some (2, t) → 0 < n1 k → 0 < n1 t) : ag_wf n1 s :=
  ⟨fun k ci ts f t e1 e2 i => (h.1 k ci ts f t e1 e2 i).elim (fun h => Or.inl (ag_ok_le h hl)) Or.inr, fun j hj f i => ag_ok_le (h.2.1 j hj f i) hl, h2⟩
/-- the world with one cell more -/
theorem ag_W_ext {z : ag_Z} {n : ag_N} {p : ag_P} {s s1 : ag_S} {H H1 : Heap} {k : Nat} (hW : ag_W z n p s H) (hk61 : k < 61) (hn : n k < 1000) (hz : z.2.2.1 ≤ H.size) (hk : ∀ q : Nat, q < H.size → H1[q]? = H[q]?) (hs : ∀ (k' : Nat) (i' : Int32), vp_in i' (n k') → ag_cell z p s1 k' i' = ag_cell z p s k' i') (hwf : ag_wf n s1)
    (h2 : ∀ (ci : Nat) (ts : List (Nat × Nat)) (f t : Nat), ag_od k = some (ci, ts) → ts[f]? = some (2, t) → 0 < n t) (hnew : va_at z.1 vwCl (H.size, ag_cell z (ag_pp p k (nI (n k)) H.size) s1 k (nI (n k))) H1) : ag_W z (ag_nn n k) (ag_pp p k (nI (n k)) H.size) s1 H1 ∧ ag_ext n p (ag_pp p k (nI (n k)) H.size) := by
  have he : ag_ext n p (ag_pp p k (nI (n k)) H.size) := by
    intro k' i' hi'
    unfold ag_pp
    rw [if_neg]
    intro q
    obtain ⟨rfl, q⟩ := q
    exact ag_new_ne hi' (by omega) q
  have key : ∀ (k' : Nat) (i' : Int32), vp_in i' (ag_nn n k k') → vp_in i' (n k') ∨ (k' = k ∧ i' = nI (n k)) := by
    intro k' i' h
    unfold ag_nn at h
    by_cases e : k' = k
    · subst e
      rw [if_pos rfl] at h
      rcases ag_in_split h hn with h | h
      · exact Or.inl h
      · exact Or.inr ⟨rfl, h⟩
    · rw [if_neg e] at h
      exact Or.inl h
  have pnew : ag_pp p k (nI (n k)) H.size k (nI (n k)) = H.size := by simp [ag_pp]
  have plt : ∀ (k' : Nat) (i' : Int32), vp_in i' (n k') → p k' i' < H.size := fun k' i' h => (hW.1 k' i' h).1.lt
  refine ⟨⟨fun k' i' hi' => ?_, fun a i b j hi hj e => ?_, ag_wf_le hwf (ag_le_nn n k) (fun k' ci ts f t e1 e2 h0 => ?_), fun k' => ?_⟩, he⟩
  · rcases key k' i' hi' with h | ⟨rfl, rfl⟩
    · rw [he k' i' h, ag_cell_p hwf he (ag_in0 h), hs k' i' h]
      exact ⟨(hW.1 k' i' h).1.kept (hk _ (plt k' i' h)), (hW.1 k' i' h).2⟩
    · rw [pnew]
      exact ⟨hnew, hz⟩
  · rcases key a i hi with h1 | ⟨rfl, rfl⟩ <;> rcases key b j hj with h3 | ⟨rfl, rfl⟩
    · rw [he a i h1, he b j h3] at e
      exact hW.2.1 a i b j h1 h3 e
    · rw [he a i h1, pnew] at e
      have := plt a i h1
      omega
    · rw [he b j h3, pnew] at e
      have := plt b j h3
      omega
    · exact ⟨rfl, rfl⟩
  · by_cases e : k' = k
    · subst e
      exact Nat.lt_of_lt_of_le (h2 ci ts f t e1 e2) (ag_le_nn n k' t)
    · unfold ag_nn at h0
      rw [if_neg e] at h0
      exact Nat.lt_of_lt_of_le (hwf.2.2 k' ci ts f t e1 e2 h0) (ag_le_nn n k t)
  · unfold ag_nn
    split
    · rename_i e
      rw [e]
      unfold ag_mx
      rw [if_pos hk61]
      omega
    · exact hW.2.2.2 k'
def ag_dv (t : Nat × Nat) : Value := match t with
  | (0, _) => .int 0
  | _ => .null
theorem ag_s0_ne {s : ag_S} {k : Nat} {i : Int32} {k' f' : Nat} {i' : Int32} (h : ¬ (k' = k ∧ i' = i)) : ag_s0 s k i k' f' i' = s k' f' i' := by unfold ag_s0; rw [if_neg h]
theorem ag_s0_at {s : ag_S} {k ci f a t : Nat} {i : Int32} {ts : List (Nat × Nat)} (hod : ag_od k = some (ci, ts)) (hf : ts[f]? = some (a, t)) : ag_s0 s k i k f i = if a = 1 then -1 else 0 := by
  unfold ag_s0
  rw [if_pos ⟨rfl, rfl⟩, hod]
  simp only [hf]
  match a with
  | 0 => rfl
  | 1 => rfl
  | a + 2 => rfl
theorem ag_W_new {z : ag_Z} {n : ag_N} {p : ag_P} {s : ag_S} {H H1 : Heap} {k ci : Nat} {ts : List (Nat × Nat)} (hW : ag_W z n p s H) (hn : n k < 1000) (hz : z.2.2.1 ≤ H.size) (hk : ∀ q : Nat, q < H.size → H1[q]? = H[q]?) (hod : ag_od k = some (ci, ts)) (h12 : ∀ x ∈ ts, x.1 ≤ 1)
    (hnew : va_at z.1 vwCl (H.size, .inr (ci, ag_fl (fun _ t => ag_dv t) 0 ts)) H1) : ag_W z (ag_nn n k) (ag_pp p k (nI (n k)) H.size) (ag_s0 s k (nI (n k))) H1 ∧ ag_ext n p (ag_pp p k (nI (n k)) H.size) := by
  have hk20 := ag_od_lt hod
  refine ag_W_ext hW (by omega) hn hz hk (fun k' i' hi' => ?_) ⟨fun k' ci' ts' f' t' e1 e2 i' => ?_, fun j hj f' i' => ?_, hW.2.2.1.2.2⟩ (fun ci' ts' f' t' e1 e2 => ?_) ?_
  · have hne : ¬ (k' = k ∧ i' = nI (n k)) := fun q => by
      obtain ⟨rfl, q⟩ := q
      exact ag_new_ne hi' (by omega) q
    have hz1 : ∀ f', ag_s0 s k (nI (n k)) k' f' i' = s k' f' i' := fun f' => ag_s0_ne hne
    cases ho : ag_od k' with
    | some q =>
      obtain ⟨ci', ts'⟩ := q
      rw [ag_cell_od ho, ag_cell_od ho]
      simp only [hz1]
    | none =>
      have hkk : k' ≠ k := fun q => by rw [q, hod] at ho; cases ho
      have hz2 : ∀ f' i2, ag_s0 s k (nI (n k)) k' f' i2 = s k' f' i2 := fun f' i2 => ag_s0_ne (fun q => hkk q.1)
      have hz3 : ∀ f' i2, ag_s0 s k (nI (n k)) (k' + 60) f' i2 = s (k' + 60) f' i2 := fun f' i2 => ag_s0_ne (by omega)
      rw [ag_cell_ad ho, ag_cell_ad ho]
      unfold ag_arr
      simp only [hz2, hz3]
  · by_cases e : k' = k ∧ i' = nI (n k)
    · obtain ⟨rfl, rfl⟩ := e
      rw [ag_s0_at e1 e2]
      exact Or.inl (Or.inl rfl)
    · rw [ag_s0_ne e]
      exact hW.2.2.1.1 k' ci' ts' f' t' e1 e2 i'
  · rw [ag_s0_ne (by omega)]
    exact hW.2.2.1.2.1 j hj f' i'
  · rw [hod] at e1
    cases e1
    have := h12 _ (List.mem_of_getElem? e2)
    simp at this
  · rw [ag_cell_od hod]
    have e : ag_fl (fun f t => ag_val z (ag_pp p k (nI (n k)) H.size) t (ag_s0 s k (nI (n k)) k f (nI (n k)))) 0 ts = ag_fl (fun _ t => ag_dv t) 0 ts := by
      refine ag_fl_ext _ _ ts 0 fun f t ht => ?_
      rw [Nat.zero_add]
      obtain ⟨a, t⟩ := t
      rw [ag_s0_at hod ht]
      have := h12 _ (List.mem_of_getElem? ht)
      match a, this with
      | 0, _ => rfl
      | 1, _ => simp [ag_val, ag_ro, ag_dv, va_rf]
    rw [e]
    exact hnew
