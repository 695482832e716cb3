/-! ===== making: arrays, and the rows ===== -/
theorem ag_sv_ne {s : ag_S} {k m : Nat} {v : Int32} {k' f' : Nat} {i' : Int32} (h : ¬ (k' = k ∧ f' = m)) : ag_sv s k m v k' f' i' = s k' f' i' := by unfold ag_sv; rw [if_neg h]
theorem ag_sv_at {s : ag_S} {k m : Nat} {v : Int32} {i' : Int32} : ag_sv s k m v k m i' = v := by simp [ag_sv]
theorem ag_W_newn {z : ag_Z} {n : ag_N} {p : ag_P} {s : ag_S} {H H1 : Heap} {k ty len : Nat} (hW : ag_W z n p s H) (hn : n k = 0) (hz : z.2.2.1 ≤ H.size) (hk : ∀ q : Nat, q < H.size → H1[q]? = H[q]?) (hod : ag_od k = none) (had : ag_ad k = (ty, len)) (hty : ty ≤ 2) (hk61 : k < 61)
    (hnew : va_at z.1 vwCl (H.size, .inl (ag_arr z p (ag_sv s k 0 0) k 0)) H1) : ag_W z (ag_nn n k) (ag_pp p k 0 H.size) (ag_sv s k 0 0) H1 ∧ ag_ext n p (ag_pp p k 0 H.size) := by
  have e0 : nI (n k) = 0 := by rw [hn]; rfl
  have hk20 : ∀ q, ag_od q ≠ none → q ≠ k := fun q h e => h (by rw [e]; exact hod)
  have r := ag_W_ext (s1 := ag_sv s k 0 0) (H1 := H1) (k := k) hW hk61 (by omega) hz hk (fun k' i' hi' => ?_) ⟨fun k' ci' ts' f' t' e1 e2 i' => ?_, fun j hj f' i' => ?_, hW.2.2.1.2.2⟩ (fun ci' ts' f' t' e1 e2 => ?_) ?_
  · rw [e0] at r
    exact r
  · have hkk : k' ≠ k := by
      intro q
      subst q
      rw [hn] at hi'
      exact absurd (Or.inr (Nat.zero_le _)) hi'
    have hz2 : ∀ f' i2, ag_sv s k 0 0 k' f' i2 = s k' f' i2 := fun f' i2 => ag_sv_ne (fun q => hkk q.1)
    cases ho : ag_od k' with
    | some q =>
      obtain ⟨ci', ts'⟩ := q
      rw [ag_cell_od ho, ag_cell_od ho]
      simp only [hz2]
    | none =>
      rw [ag_cell_ad ho, ag_cell_ad ho]
      unfold ag_arr
      simp only [hz2]
      cases hq : ag_ad k' with
      | mk a b =>
        by_cases h3 : a = 3
        · have hk2 := ag_ad3 (k := k') (by rw [hq]; exact h3)
          have hz3 : ∀ f' i2, ag_sv s k 0 0 (k' + 60) f' i2 = s (k' + 60) f' i2 := fun f' i2 => ag_sv_ne (by omega)
          simp only [hz3]
        · rcases ag_ad2 hq h3 with rfl | rfl | rfl <;> simp
  · rw [ag_sv_ne (fun q => hk20 k' (by rw [e1]; exact fun h => nomatch h) q.1)]
    exact hW.2.2.1.1 k' ci' ts' f' t' e1 e2 i'
  · rw [ag_sv_ne (fun q => ag_adj had hty hj q.1)]
    exact hW.2.2.1.2.1 j hj f' i'
  · rw [hod] at e1
    cases e1
  · rw [e0, ag_cell_ad hod]
    have ea : ag_arr z (ag_pp p k 0 H.size) (ag_sv s k 0 0) k 0 = ag_arr z p (ag_sv s k 0 0) k 0 := by
      unfold ag_arr
      rw [had]
      rcases (show ty = 0 ∨ ty = 1 ∨ ty = 2 by omega) with rfl | rfl | rfl <;> simp
    rw [ea]
    exact hnew
/-- a list's new array -/
def ag_s3 (s : ag_S) (k m : Nat) (L : Int32) : ag_S := ag_up (ag_sv s k m (-1)) (k + 60) 0 (nI m) L
theorem ag_s3_ne {s : ag_S} {k m : Nat} {L : Int32} {k' f' : Nat} {i' : Int32} (h : ¬ (k' = k ∧ f' = m)) (h2 : ¬ (k' = k + 60)) : ag_s3 s k m L k' f' i' = s k' f' i' := by unfold ag_s3; rw [ag_up_ne (fun q => h2 q.1), ag_sv_ne h]
theorem ag_s3_at {s : ag_S} {k m : Nat} {L : Int32} {i' : Int32} : ag_s3 s k m L k m i' = -1 := by unfold ag_s3; rw [ag_up_ne (by omega), ag_sv_at]
theorem ag_s3_len {s : ag_S} {k m : Nat} {L : Int32} : ag_s3 s k m L (k + 60) 0 (nI m) = L := by unfold ag_s3; rw [ag_up_eq]
theorem ag_s3_len2 {s : ag_S} {k m : Nat} {L i : Int32} (h : ¬ i = nI m) : ag_s3 s k m L (k + 60) 0 i = s (k + 60) 0 i := by unfold ag_s3; rw [ag_up_ne (fun q => h q.2.2), ag_sv_ne (by omega)]
theorem ag_ad20 {k j : Nat} (hk : k = 20 + j) (hj : j < 5) : ag_ad k = (3, 0) ∧ ag_od k = none := by
  subst hk
  rcases (show j = 0 ∨ j = 1 ∨ j = 2 ∨ j = 3 ∨ j = 4 by omega) with rfl | rfl | rfl | rfl | rfl <;> exact ⟨rfl, rfl⟩
theorem ag_W_newr {z : ag_Z} {n : ag_N} {p : ag_P} {s : ag_S} {H H1 : Heap} {k j : Nat} {L : Int32} (hW : ag_W z n p s H) (hn : n k < 1000) (hz : z.2.2.1 ≤ H.size) (hk : ∀ q : Nat, q < H.size → H1[q]? = H[q]?) (hkj : k = 20 + j) (hj : j < 5)
    (hnew : H1[H.size]? = some (vp_cell (z.2.1 3) (L.toNatClampNeg, .inr (.inr (.inr (.inr (fun _ => none))))))) : ag_W z (ag_nn n k) (ag_pp p k (nI (n k)) H.size) (ag_s3 s k (n k) L) H1 ∧ ag_ext n p (ag_pp p k (nI (n k)) H.size) := by
  obtain ⟨had, hod⟩ := ag_ad20 hkj hj
  refine ag_W_ext (s1 := ag_s3 s k (n k) L) hW (by omega) hn hz hk (fun k' i' hi' => ?_) ⟨fun k' ci' ts' f' t' e1 e2 i' => ?_, fun j' hj' f' i' => ?_, hW.2.2.1.2.2⟩ (fun ci' ts' f' t' e1 e2 => ?_) ?_
  · cases ho : ag_od k' with
    | some q =>
      obtain ⟨ci', ts'⟩ := q
      have h20 := ag_od_lt ho
      have hz2 : ∀ f', ag_s3 s k (n k) L k' f' i' = s k' f' i' := fun f' => ag_s3_ne (by omega) (by omega)
      rw [ag_cell_od ho, ag_cell_od ho]
      simp only [hz2]
    | none =>
      rw [ag_cell_ad ho, ag_cell_ad ho]
      have hine : k' = k → ¬ i' = nI (n k) := fun q h => by subst q; exact ag_new_ne hi' (by omega) h
      have hf : k' = k → ¬ i'.toNatClampNeg = n k := fun q h => hine q (by rw [← h, ag_nI hi'])
      by_cases h80 : k' = k + 60
      · exfalso
        have h9 := hW.2.2.2 k'
        unfold ag_mx at h9
        rw [if_neg (by omega)] at h9
        exact absurd (Or.inr (by omega)) hi'
      · have hz2 : ∀ i2, ag_s3 s k (n k) L k' i'.toNatClampNeg i2 = s k' i'.toNatClampNeg i2 := fun i2 => ag_s3_ne (fun q => hf q.1 q.2) h80
        unfold ag_arr
        simp only [hz2]
        cases hq : ag_ad k' with
        | mk a b =>
          by_cases h3 : a = 3
          · have hk2 := ag_ad3 (k := k') (by rw [hq]; exact h3)
            have hz3 : ag_s3 s k (n k) L (k' + 60) 0 i' = s (k' + 60) 0 i' := by
              by_cases e : k' = k
              · rw [e]
                exact ag_s3_len2 (hine e)
              · exact ag_s3_ne (by omega) (by omega)
            simp only [hz3]
          · rcases ag_ad2 hq h3 with rfl | rfl | rfl <;> simp
  · have h20 := ag_od_lt e1
    rw [ag_s3_ne (by omega) (by omega)]
    exact hW.2.2.1.1 k' ci' ts' f' t' e1 e2 i'
  · by_cases e : 20 + j' = k ∧ f' = n k
    · obtain ⟨e1, rfl⟩ := e
      rw [e1, ag_s3_at]
      exact Or.inl rfl
    · rw [ag_s3_ne e (by omega)]
      exact hW.2.2.1.2.1 j' hj' f' i'
  · rw [hod] at e1
    cases e1
  · rw [ag_cell_ad hod]
    have ea : ag_arr z (ag_pp p k (nI (n k)) H.size) (ag_s3 s k (n k) L) k (nI (n k)) = (z.2.1 3, (L.toNatClampNeg, .inr (.inr (.inr (.inr (fun _ => none)))))) := by
      unfold ag_arr
      rw [had]
      simp only [nI_clamp (ag_1000 (Nat.le_of_lt hn)), ag_s3_at, ag_s3_len]
      simp [ag_ro]
    rw [ea]
    exact hnew
