/-! ===== loops ===== -/
/-- a loop that counts up to N: I holds at every turn -/
theorem up_loop {σ β : Type} {F : Nat → Int32 → σ → Option β} {N : Nat} {I : Nat → σ → Prop} {E : σ → Option β} (step : ∀ nf q s, q < N → I q s → ∃ s', F (nf + 1) (nI q) s = F nf (nI (q + 1)) s' ∧ I (q + 1) s') (exit : ∀ nf s, I N s → F (nf + 1) (nI N) s = E s) : ∀ (d q : Nat) (s : σ) (nf : Nat), q + d = N → d < nf → I q s → ∃ s', F nf (nI q) s = E s' ∧ I N s' := by
  intro d
  induction d with
  | zero =>
    intro q s nf h1 h2 h3
    obtain ⟨nf, rfl⟩ : ∃ k, nf = k + 1 := ⟨nf - 1, by omega⟩
    have : q = N := by omega
    subst this
    exact ⟨s, exit nf s h3, h3⟩
  | succ d ih =>
    intro q s nf h1 h2 h3
    obtain ⟨nf, rfl⟩ : ∃ k, nf = k + 1 := ⟨nf - 1, by omega⟩
    obtain ⟨s', e, h4⟩ := step nf q s (by omega) h3
    obtain ⟨s'', e2, h5⟩ := ih (q + 1) s' nf (by omega) (by omega) h4
    exact ⟨s'', e.trans e2, h5⟩
/-- a loop that counts down from q - 1 to 0; I q: what holds when q places are left -/
theorem down_loop {σ β : Type} {F : Nat → Int32 → σ → Option β} {I : Nat → σ → Prop} {E : σ → Option β} (step : ∀ nf q s, I (q + 1) s → ∃ s', F (nf + 1) (nI q) s = F nf (nI q - 1) s' ∧ I q s') (exit : ∀ nf s, I 0 s → F (nf + 1) (-1) s = E s) : ∀ (q : Nat) (s : σ) (nf : Nat), q < nf → I q s → ∃ s', F nf (nI q - 1) s = E s' ∧ I 0 s' := by
  intro q
  induction q with
  | zero =>
    intro s nf h1 h2
    obtain ⟨nf, rfl⟩ : ∃ k, nf = k + 1 := ⟨nf - 1, by omega⟩
    exact ⟨s, (show nI 0 - 1 = -1 from by decide) ▸ exit nf s h2, h2⟩
  | succ q ih =>
    intro s nf h1 h2
    obtain ⟨nf, rfl⟩ : ∃ k, nf = k + 1 := ⟨nf - 1, by omega⟩
    obtain ⟨s', e, h4⟩ := step nf q s h2
    obtain ⟨s'', e2, h5⟩ := ih s' nf (by omega) h4
    exact ⟨s'', by rw [nI_pred]; exact e.trans e2, h5⟩
/-- the sum of g at 0 .. n-1, as the machine adds -/
def isum (g : Nat → Int32) : Nat → Int32
  | 0 => 0
  | n + 1 => isum g n + g n
theorem isum_congr {g h : Nat → Int32} : ∀ {n : Nat}, (∀ q, q < n → g q = h q) → isum g n = isum h n
  | 0, _ => rfl
  | n + 1, e => by rw [isum, isum, isum_congr (fun q hq => e q (by omega)), e n (by omega)]
theorem isum_add {g h : Nat → Int32} : ∀ n : Nat, isum (fun q => g q + h q) n = isum g n + isum h n
  | 0 => by show (0 : Int32) = 0 + 0; decide
  | n + 1 => by
    rw [isum, isum, isum, isum_add n]
    ac_rfl
theorem isum_zero {g : Nat → Int32} : ∀ {n : Nat}, (∀ q, q < n → g q = 0) → isum g n = 0
  | 0, _ => rfl
  | n + 1, e => by rw [isum, isum_zero (fun q hq => e q (by omega)), e n (by omega)]; decide
/-- what a line's grants bind, in the class and in the reference -/
def bindC (s : ag_S) (l : Int32) (g : Nat) : Int32 := if s 4 0 (nI g) = l then (if s 4 6 (nI g) = 2 then s 4 5 (nI g) else s 4 4 (nI g)) else 0
def bindR (s : ag_S) (l : Int32) (g : Nat) : Int32 := if s 51 0 (nI g) = l then (if s 57 0 (nI g) = 2 then s 54 0 (nI g) else s 53 0 (nI g)) else 0
theorem boundC {n : ag_N} {N fu : Nat} {s : ag_S} (h : LL n 14 24 84 N s) (hf : N < fu) (l : Int32) : f_X5_boundOf fu l s = some (s 2 4 l + isum (bindC s l) N) := by
  have hle := h.le
  unfold f_X5_boundOf
  obtain ⟨a, e1, e2⟩ := up_loop (F := fun nf i (a : Int32) => f_X5_boundOf_L7 fu nf l a i s) (N := N) (I := fun q a => a = s 2 4 l + isum (bindC s l) q) (E := fun a => some a) (fun nf q a hq ha => by
    refine ⟨a + bindC s l q, ?_, ?_⟩
    · show f_X5_boundOf_L7 fu (nf + 1) l a (nI q) s = f_X5_boundOf_L7 fu nf l _ (nI (q + 1)) s
      rw [f_X5_boundOf_L7, h.size4, bd_some, if_neg (nI_ge hq (p31 (by omega))), h.get4 hq, bd_some]
      unfold bindC f_X1_binds
      by_cases c : s 4 0 (nI q) = l
      · rw [if_pos c, if_pos c]
        by_cases c2 : s 4 6 (nI q) = 2
        · rw [if_pos c2, if_pos c2, bd_some, nI_1]
        · rw [if_neg c2, if_neg c2, bd_some, nI_1]
      · rw [if_neg c, if_neg c, nI_1, Int32.add_zero]
    · show _ = _
      rw [ha, isum, Int32.add_assoc]) (fun nf a ha => by
    show f_X5_boundOf_L7 fu (nf + 1) l a (nI N) s = _
    rw [f_X5_boundOf_L7, h.size4, bd_some, if_pos (nI_le (Nat.le_refl _) (p31 (by omega)))]) N 0 (s 2 4 l) fu (by omega) hf (by show _ = _; rw [isum, Int32.add_zero])
  rw [← e2]
  exact (show nI 0 = 0 from by decide) ▸ e1
theorem boundR {N fu : Nat} {s : ag_S} (h : s 6 20 0 = nI N) (hN : N ≤ 40) (hf : N < fu) {l : Nat} (hl : l < 10) : f_X6_bound fu (nI l) s = some (s 42 0 (nI l) + isum (bindR s (nI l)) N) := by
  unfold f_X6_bound
  rw [if_neg (nI_in hl (p31 (by omega)))]
  obtain ⟨a, e1, e2⟩ := up_loop (F := fun nf i (a : Int32) => f_X6_bound_L9 fu nf (nI l) a i s) (N := N) (I := fun q a => a = s 42 0 (nI l) + isum (bindR s (nI l)) q) (E := fun a => some a) (fun nf q a hq ha => by
    refine ⟨a + bindR s (nI l) q, ?_, ?_⟩
    · show f_X6_bound_L9 fu (nf + 1) (nI l) a (nI q) s = f_X6_bound_L9 fu nf (nI l) _ (nI (q + 1)) s
      have hi := nI_in (c := q) (N := 40) (by omega) (p31 (by omega))
      rw [f_X6_bound_L9, h, if_neg (nI_ge hq (p31 (by omega))), if_neg hi]
      unfold bindR
      by_cases c : s 51 0 (nI q) = nI l
      · rw [if_pos c, if_pos c, if_neg hi]
        by_cases c2 : s 57 0 (nI q) = 2
        · rw [if_pos c2, if_pos c2, if_neg hi, nI_1]
        · rw [if_neg c2, if_neg c2, if_neg hi, nI_1]
      · rw [if_neg c, if_neg c, nI_1]
    · show _ = _
      rw [ha, isum, Int32.add_assoc]) (fun nf a ha => by
    show f_X6_bound_L9 fu (nf + 1) (nI l) a (nI N) s = _
    rw [f_X6_bound_L9, h, if_pos (nI_le (Nat.le_refl _) (p31 (by omega)))]) N 0 (s 42 0 (nI l)) fu (by omega) hf (by show _ = _; rw [isum, Int32.add_zero])
  rw [← e2]
  exact (show nI 0 = 0 from by decide) ▸ e1
