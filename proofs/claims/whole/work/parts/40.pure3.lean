/-! ===== what amendments bring ===== -/
def Tree (s : ag_S) (N : Nat) : Prop := ∀ k, k < N → s 44 0 (nI k) = -1 ∨ ∃ a, a < k ∧ s 44 0 (nI k) = nI a
def kid (s : ag_S) (b : Nat → Int32) (a k : Nat) : Int32 := if s 44 0 (nI k) = nI a ∧ s 47 0 (nI k) = 1 then b k else 0
def Sol (s : ag_S) (N : Nat) (b : Nat → Int32) : Prop := ∀ a, a < N → b a = s 46 0 (nI a) + isum (kid s b a) N
theorem Tree.low {s : ag_S} {N : Nat} (h : Tree s N) (hN : N ≤ 40) {a k : Nat} (hk : k < N) (hka : k ≤ a) (ha : a < N) : ¬ s 44 0 (nI k) = nI a := by
  intro e
  rcases h k hk with h | ⟨a', h1, h2⟩
  · exact (nI_neg1 (w := a) (by omega)).1 (e.symm.trans h)
  · have := (nI_eq (p31 (by omega)) (p31 (by omega))).mp (e.symm.trans h2)
    omega
theorem Sol.uniq {s : ag_S} {N : Nat} {b c : Nat → Int32} (h : Tree s N) (hN : N ≤ 40) (hb : Sol s N b) (hc : Sol s N c) : ∀ a, a < N → b a = c a := by
  have H : ∀ d a, a < N → N - a ≤ d → b a = c a := by
    intro d
    induction d with
    | zero => intro a h1 h2; omega
    | succ d ih =>
      intro a h1 h2
      rw [hb a h1, hc a h1]
      refine congrArg _ (isum_congr fun k hk => ?_)
      unfold kid
      by_cases e : s 44 0 (nI k) = nI a ∧ s 47 0 (nI k) = 1
      · rw [if_pos e, if_pos e]
        have hka : ¬ k ≤ a := fun q => h.low hN hk q h1 e.1
        exact ih k hk (by omega)
      · rw [if_neg e, if_neg e]
  exact fun a h1 => H (N - a) a h1 (Nat.le_refl _)
/-- the reference's reckoning writes column 59 alone, and writes the solution -/
theorem bringR {N fu : Nat} {s : ag_S} {b : Nat → Int32} (h : s 6 13 0 = nI N) (hN : N ≤ 40) (hf : N + 1 < fu) (hT : Tree s N) (hb : Sol s N b) : ∃ s', f_X6_bring fu s = some s' ∧ (∀ k f i, k ≠ 59 → s' k f i = s k f i) ∧ ∀ a, a < N → s' 59 0 (nI a) = b a := by
  have hm : ∀ x : Int32, x + (-1) = x - 1 := fun x => (Int32.sub_eq_add_neg x 1).symm
  obtain ⟨s', e1, e2⟩ := down_loop (F := fun nf i (s' : ag_S) => f_X6_bring_L7 fu nf i s') (I := fun q s' => q ≤ N ∧ (∀ k f i, k ≠ 59 → s' k f i = s k f i) ∧ ∀ a, q ≤ a → a < N → s' 59 0 (nI a) = b a) (E := fun s' => some s') (fun nf a t hI => by
    obtain ⟨i1, i2, i3⟩ := hI
    have ha : a < N := i1
    have hia := nI_in (c := a) (N := 40) (by omega) (p31 (by omega))
    obtain ⟨u, f1, f2⟩ := up_loop (F := fun nf2 i (s' : ag_S) => f_X6_bring_L27 fu (f_X6_bring_L7 fu nf) nf2 (nI a) i s') (N := N) (I := fun k s' => a < k ∧ (∀ k f i, k ≠ 59 → s' k f i = s k f i) ∧ (∀ a', a < a' → a' < N → s' 59 0 (nI a') = b a') ∧ s' 59 0 (nI a) = s 46 0 (nI a) + isum (kid s b a) k) (E := fun s' => f_X6_bring_L7 fu nf (nI a + (-1)) s') (fun nf2 k s' hk hI => by
      obtain ⟨j1, j2, j3, j4⟩ := hI
      have hik := nI_in (c := k) (N := 40) (by omega) (p31 (by omega))
      have hne : ¬ nI k = nI a := fun e => by
        have := (nI_eq (p31 (by omega)) (p31 (by omega))).mp e
        omega
      refine ⟨ag_up s' 59 0 (nI a) (s' 59 0 (nI a) + kid s b a k), ?_, by omega, fun k' f i hk' => ?_, fun a' h1 h2 => ?_, ?_⟩
      · show f_X6_bring_L27 fu _ (nf2 + 1) (nI a) (nI k) s' = f_X6_bring_L27 fu _ nf2 (nI a) (nI (k + 1)) _
        rw [f_X6_bring_L27, j2 6 13 0 (by decide), h, if_neg (nI_ge hk (p31 (by omega))), if_neg hia, if_neg hik, j2 44 0 _ (by decide), j2 47 0 _ (by decide)]
        unfold kid
        by_cases c : s 44 0 (nI k) = nI a
        · rw [if_pos c, if_neg hik]
          by_cases c2 : s 47 0 (nI k) = 1
          · rw [if_pos c2, if_neg hik, if_neg hia, if_pos ⟨c, c2⟩, j3 k j1 hk, nI_1]
          · rw [if_neg c2, if_neg hia, if_neg (fun q => c2 q.2), nI_1]
        · rw [if_neg c, if_neg hia, if_neg (fun q => c q.1), nI_1]
      · rw [ag_up_ne (fun q => hk' q.1)]
        exact j2 k' f i hk'
      · rw [ag_up_ne (fun q => by
          have := (nI_eq (p31 (by omega)) (p31 (by omega))).mp q.2.2
          omega)]
        exact j3 a' h1 h2
      · rw [ag_up_eq, j4, isum, Int32.add_assoc]) (fun nf2 s' hI => by
      show f_X6_bring_L27 fu _ (nf2 + 1) (nI a) (nI N) s' = _
      rw [f_X6_bring_L27, hI.2.1 6 13 0 (by decide), h, if_pos (nI_le (Nat.le_refl _) (p31 (by omega)))]) (N - (a + 1)) (a + 1) (ag_up t 59 0 (nI a) (t 46 0 (nI a))) fu (by omega) (by omega) ⟨by omega, fun k' f i hk' => by
        rw [ag_up_ne (fun q => hk' q.1)]
        exact i2 k' f i hk', fun a' h1 h2 => by
        rw [ag_up_ne (fun q => by
          have := (nI_eq (p31 (by omega)) (p31 (by omega))).mp q.2.2
          omega)]
        exact i3 a' (by omega) h2, by
        rw [ag_up_eq, i2 46 0 _ (by decide), isum_zero (g := kid s b a) (n := a + 1) (fun k hk => if_neg (fun e => hT.low hN (a := a) (by omega) (by omega) ha e.1)), Int32.add_zero]⟩
    obtain ⟨-, j2, j3, j4⟩ := f2
    refine ⟨u, ?_, by omega, j2, fun a' h1 h2 => ?_⟩
    · show f_X6_bring_L7 fu (nf + 1) (nI a) t = f_X6_bring_L7 fu nf (nI a - 1) u
      rw [f_X6_bring_L7, if_neg (nI_pos (p31 (by omega))), if_neg hia, if_neg hia, nI_1, ← hm]
      exact f1
    · by_cases q : a' = a
      · subst q
        exact j4.trans (hb a' ha).symm
      · exact j3 a' (by omega) h2) (fun nf t hI => by
    show f_X6_bring_L7 fu (nf + 1) (-1) t = _
    rw [f_X6_bring_L7, if_pos (by decide)]) N s fu (by omega) ⟨Nat.le_refl _, fun _ _ _ _ => rfl, fun a h1 h2 => by omega⟩
  refine ⟨s', ?_, e2.2.1, fun a ha => e2.2.2 a (Nat.zero_le _) ha⟩
  unfold f_X6_bring
  rw [h]
  exact e1
/-- the roots' part of a line -/
def rootR (s : ag_S) (b : Nat → Int32) (l : Int32) (a : Nat) : Int32 := if s 44 0 (nI a) = -1 ∧ s 45 0 (nI a) = l ∧ s 47 0 (nI a) = 1 then b a else 0
theorem standsR {N fu : Nat} {s : ag_S} {b : Nat → Int32} (h : s 6 13 0 = nI N) (hN : N ≤ 40) (hf : N + 1 < fu) (hT : Tree s N) (hb : Sol s N b) {l : Nat} (hl : l < 10) : ∃ s', f_X6_stands fu (nI l) s = some (((s 39 0 (nI l) - s 40 0 (nI l)) + s 41 0 (nI l)) + isum (rootR s b (nI l)) N, s') ∧ (∀ k f i, k ≠ 59 → s' k f i = s k f i) ∧ ∀ a, a < N → s' 59 0 (nI a) = b a := by
  obtain ⟨s', e, e1, e2⟩ := bringR h hN hf hT hb
  have hil := nI_in (c := l) (N := 10) hl (p31 (by omega))
  unfold f_X6_stands
  rw [e, bd_some, if_neg hil, if_neg hil, if_neg hil, e1 39 0 _ (by decide), e1 40 0 _ (by decide), e1 41 0 _ (by decide)]
  refine ⟨s', ?_, e1, e2⟩
  generalize s 39 0 (nI l) - s 40 0 (nI l) + s 41 0 (nI l) = x0
  obtain ⟨a, g1, g2⟩ := up_loop (F := fun nf i (a : Int32) => f_X6_stands_L27 fu nf (nI l) a i s') (N := N) (I := fun q a => a = x0 + isum (rootR s b (nI l)) q) (E := fun a => some (a, s')) (fun nf q a hq ha => by
    have hi := nI_in (c := q) (N := 40) (by omega) (p31 (by omega))
    refine ⟨a + rootR s b (nI l) q, ?_, ?_⟩
    · show f_X6_stands_L27 fu (nf + 1) (nI l) a (nI q) s' = f_X6_stands_L27 fu nf (nI l) _ (nI (q + 1)) s'
      rw [f_X6_stands_L27, e1 6 13 0 (by decide), h, if_neg (nI_ge hq (p31 (by omega))), if_neg hi, e1 44 0 _ (by decide), e1 45 0 _ (by decide), e1 47 0 _ (by decide), e2 q hq]
      unfold rootR
      by_cases c : s 44 0 (nI q) = -1
      · rw [if_pos c, if_neg hi]
        by_cases c2 : s 45 0 (nI q) = nI l
        · rw [if_pos c2, if_neg hi]
          by_cases c3 : s 47 0 (nI q) = 1
          · rw [if_pos c3, if_neg hi, if_pos ⟨c, c2, c3⟩, nI_1]
          · rw [if_neg c3, if_neg (fun q => c3 q.2.2), nI_1]
        · rw [if_neg c2, if_neg (fun q => c2 q.2.1), nI_1]
      · rw [if_neg c, if_neg (fun q => c q.1), nI_1]
    · show _ = _
      rw [ha, isum, Int32.add_assoc]) (fun nf a ha => by
    show f_X6_stands_L27 fu (nf + 1) (nI l) a (nI N) s' = _
    rw [f_X6_stands_L27, e1 6 13 0 (by decide), h, if_pos (nI_le (Nat.le_refl _) (p31 (by omega)))]) N 0 x0 fu (by omega) (by omega) (by show _ = _; rw [isum, Int32.add_zero])
  rw [← g2]
  exact (show nI 0 = 0 from by decide) ▸ g1
