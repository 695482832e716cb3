/-! ===== what the roots bring is what the counted ones change ===== -/
def chB (A : TT) : Nat → Nat → Bool
  | 0, _ => false
  | f + 1, a => decide (A 3 5 a = 1) && (decide (A 3 1 a = -1) || chB A f (A 3 1 a).toNatClampNeg)
def chA (A : TT) (a : Nat) : Bool := chB A 41 a
def cntA (A : TT) (l a : Nat) : Int32 := if chA A a = true ∧ A 3 2 a = nI l then A 3 3 a else 0
theorem chB_fuel {A : TT} {nl na ng : Nat} (hw : Wf A nl na ng) : ∀ a, a < na → ∀ f f', a < f → a < f' → chB A f a = chB A f' a := by
  intro a
  induction a using Nat.strongRecOn with
  | ind a ih =>
    intro ha f f' hf hf'
    have hna := hw.hna
    obtain ⟨f, rfl⟩ : ∃ k, f = k + 1 := ⟨f - 1, by omega⟩
    obtain ⟨f', rfl⟩ : ∃ k, f' = k + 1 := ⟨f' - 1, by omega⟩
    unfold chB
    rcases hw.tree a ha with e | ⟨p, hp, e⟩
    · rw [e]
      simp only [decide_true, Bool.true_or]
    · rw [e, nI_clamp (p31 (by omega)), ih p hp (by omega) f f' (by omega) (by omega)]
theorem chA_eq {A : TT} {nl na ng a : Nat} (hw : Wf A nl na ng) (ha : a < na) : chA A a = true ↔ A 3 5 a = 1 ∧ (A 3 1 a = -1 ∨ ∃ p, p < a ∧ A 3 1 a = nI p ∧ chA A p = true) := by
  have hna := hw.hna
  unfold chA
  rw [show chB A 41 a = (decide (A 3 5 a = 1) && (decide (A 3 1 a = -1) || chB A 40 (A 3 1 a).toNatClampNeg)) from rfl]
  rw [Bool.and_eq_true, Bool.or_eq_true, decide_eq_true_eq, decide_eq_true_eq]
  rcases hw.tree a ha with e | ⟨p, hp, e⟩
  · constructor
    · rintro ⟨h, -⟩
      exact ⟨h, .inl e⟩
    · rintro ⟨h, -⟩
      exact ⟨h, .inl e⟩
  · refine and_congr Iff.rfl (or_congr Iff.rfl ?_)
    rw [e, nI_clamp (p31 (by omega)), chB_fuel hw p (by omega) 40 41 (by omega) (by omega)]
    constructor
    · intro h
      exact ⟨p, hp, rfl, h⟩
    · rintro ⟨p', hp', e2, h⟩
      have := (nI_eq (p31 (by omega)) (p31 (by omega))).mp e2
      subst this
      exact h
theorem isum_single {v : Int32} {i : Nat} : ∀ {n : Nat}, i < n → isum (fun a => if a = i then v else 0) n = v
  | 0, h => by omega
  | n + 1, h => by
    rw [isum]
    by_cases q : n = i
    · subst q
      rw [if_pos rfl, isum_zero (fun a ha => if_neg (by omega)), Int32.zero_add]
    · rw [if_neg q, Int32.add_zero, isum_single (by omega)]
theorem isum_ite {c : Prop} [Decidable c] {g : Nat → Int32} {n : Nat} : isum (fun a => if c then g a else 0) n = if c then isum g n else 0 := by
  by_cases q : c
  · rw [if_pos q]
    exact isum_congr fun a _ => if_pos q
  · rw [if_neg q]
    exact isum_zero fun a _ => if_neg q
/-- enabled: passed, for the line, with all above it among the first i counted -/
abbrev enA (A : TT) (l i k : Nat) : Prop := A 3 5 k = 1 ∧ A 3 2 k = nI l ∧ (A 3 1 k = -1 ∨ (¬ A 3 1 k < 0 ∧ (A 3 1 k).toNatClampNeg < i ∧ chA A (A 3 1 k).toNatClampNeg = true))
def wtA (A : TT) (l i a : Nat) : Int32 := if a < i then cntA A l a else (if enA A l i a then A 3 4 a else 0)
theorem wt_step {A : TT} {nl na ng l i : Nat} (hw : Wf A nl na ng) (hb : Br A nl na) (hi : i < na) : isum (wtA A l (i + 1)) na = isum (wtA A l i) na := by
  have hna := hw.hna
  have key : ∀ a, a < na → wtA A l (i + 1) a + (if a = i then (if chA A i = true ∧ A 3 2 i = nI l then A 3 4 i else 0) else 0) = (wtA A l i a + (if a = i then (if chA A i = true ∧ A 3 2 i = nI l then A 3 3 i else 0) else 0)) + (if chA A i = true ∧ A 3 2 i = nI l then kidA A i a else 0) := by
    intro a ha
    rcases Nat.lt_trichotomy a i with q | q | q
    · have hk : kidA A i a = 0 := if_neg fun e => by
        rcases hw.tree a ha with e2 | ⟨p, hp, e2⟩
        · exact (nI_neg1 (w := i) (by omega)).1 (e.1.symm.trans e2)
        · have := (nI_eq (p31 (by omega)) (p31 (by omega))).mp (e.1.symm.trans e2)
          omega
      unfold wtA
      rw [if_pos (show a < i + 1 by omega), if_pos q, if_neg (show ¬ a = i by omega), if_neg (show ¬ a = i by omega), hk, ite_self, Int32.add_zero, Int32.add_zero]
    · subst q
      have hk : kidA A a a = 0 := if_neg fun e => by
        rcases hw.tree a ha with e2 | ⟨p, hp, e2⟩
        · exact (nI_neg1 (w := a) (by omega)).1 (e.1.symm.trans e2)
        · have := (nI_eq (p31 (by omega)) (p31 (by omega))).mp (e.1.symm.trans e2)
          omega
      have hE : enA A l a a ↔ chA A a = true ∧ A 3 2 a = nI l := by
        rw [chA_eq hw ha]
        unfold enA
        rcases hw.tree a ha with e | ⟨p, hp, e⟩
        · constructor
          · rintro ⟨h1, h2, -⟩
            exact ⟨⟨h1, .inl e⟩, h2⟩
          · rintro ⟨⟨h1, -⟩, h2⟩
            exact ⟨h1, h2, .inl e⟩
        · rw [e, nI_clamp (p31 (by omega))]
          constructor
          · rintro ⟨h1, h2, h3 | ⟨-, -, h3⟩⟩
            · exact ⟨⟨h1, .inl h3⟩, h2⟩
            · exact ⟨⟨h1, .inr ⟨p, hp, rfl, h3⟩⟩, h2⟩
          · rintro ⟨⟨h1, h3 | ⟨p', hp', e3, h3⟩⟩, h2⟩
            · exact ⟨h1, h2, .inl h3⟩
            · have := (nI_eq (p31 (by omega)) (p31 (by omega))).mp e3
              subst this
              exact ⟨h1, h2, .inr ⟨nI_pos (p31 (by omega)), hp, h3⟩⟩
      unfold wtA cntA
      rw [if_pos (show a < a + 1 by omega), if_neg (show ¬ a < a by omega), if_pos rfl, if_pos rfl, hk, ite_self, Int32.add_zero]
      by_cases c : chA A a = true ∧ A 3 2 a = nI l
      · rw [if_pos c, if_pos c, if_pos (hE.mpr c), Int32.add_comm]
      · rw [if_neg c, if_neg c, if_neg (fun q => c (hE.mp q))]
    · unfold wtA
      rw [if_neg (show ¬ a < i + 1 by omega), if_neg (show ¬ a < i by omega), if_neg (show ¬ a = i by omega), if_neg (show ¬ a = i by omega), Int32.add_zero, Int32.add_zero]
      by_cases e : A 3 1 a = nI i
      · have hlin := hw.lon a i ha q e
        have n0 : ¬ enA A l i a := by
          rintro ⟨-, -, h | ⟨-, h, -⟩⟩
          · exact (nI_neg1 (w := i) (by omega)).1 (e.symm.trans h)
          · rw [e, nI_clamp (p31 (by omega))] at h
            omega
        have n1 : enA A l (i + 1) a ↔ A 3 5 a = 1 ∧ (chA A i = true ∧ A 3 2 i = nI l) := by
          unfold enA
          rw [e, nI_clamp (p31 (by omega)), hlin]
          constructor
          · rintro ⟨h1, h2, h3 | ⟨-, -, h3⟩⟩
            · exact absurd h3 (nI_neg1 (by omega)).1
            · exact ⟨h1, h3, h2⟩
          · rintro ⟨h1, h3, h2⟩
            exact ⟨h1, h2, .inr ⟨nI_pos (p31 (by omega)), by omega, h3⟩⟩
        rw [if_neg n0, Int32.zero_add]
        unfold kidA
        by_cases c : chA A i = true ∧ A 3 2 i = nI l
        · rw [if_pos c]
          by_cases c5 : A 3 5 a = 1
          · rw [if_pos (n1.mpr ⟨c5, c⟩), if_pos ⟨e, c5⟩]
          · rw [if_neg (fun q => c5 (n1.mp q).1), if_neg (fun q => c5 q.2)]
        · rw [if_neg c, if_neg (fun q => c (n1.mp q).2)]
      · have hk : kidA A i a = 0 := if_neg fun q => e q.1
        have hE : enA A l (i + 1) a ↔ enA A l i a := by
          unfold enA
          refine and_congr Iff.rfl (and_congr Iff.rfl (or_congr Iff.rfl ?_))
          constructor
          · rintro ⟨h1, h2, h3⟩
            refine ⟨h1, ?_, h3⟩
            obtain ⟨j, hj, e2⟩ := nI_of h1
            rw [e2, nI_clamp hj] at h2 ⊢
            have : ¬ j = i := fun q => e (q ▸ e2)
            omega
          · rintro ⟨h1, h2, h3⟩
            exact ⟨h1, by omega, h3⟩
        rw [hk, ite_self, Int32.add_zero]
        by_cases c : enA A l i a
        · rw [if_pos c, if_pos (hE.mpr c)]
        · rw [if_neg c, if_neg (fun q => c (hE.mp q))]
  have S := isum_congr key
  rw [isum_add, isum_add, isum_add, isum_single hi, isum_single hi, isum_ite] at S
  by_cases c : chA A i = true ∧ A 3 2 i = nI l
  · rw [if_pos c, if_pos c, if_pos c, hb.sol i hi] at S
    rw [Int32.add_assoc] at S
    exact (Int32.add_left_inj _).mp S
  · rw [if_neg c, if_neg c, if_neg c, Int32.add_zero, Int32.add_zero, Int32.add_zero] at S
    exact S
theorem root_cnt {A : TT} {nl na ng l : Nat} (hw : Wf A nl na ng) (hb : Br A nl na) : isum (rootA A l) na = isum (cntA A l) na := by
  have H : ∀ i, i ≤ na → isum (wtA A l i) na = isum (wtA A l 0) na := by
    intro i
    induction i with
    | zero => intro _; rfl
    | succ i ih => intro h; rw [wt_step hw hb (by omega), ih (by omega)]
  have e0 : isum (wtA A l 0) na = isum (rootA A l) na := isum_congr fun a ha => by
    unfold wtA rootA
    rw [if_neg (by omega)]
    by_cases c : A 3 1 a = -1 ∧ A 3 2 a = nI l ∧ A 3 5 a = 1
    · rw [if_pos c, if_pos ⟨c.2.2, c.2.1, .inl c.1⟩]
    · rw [if_neg c, if_neg]
      rintro ⟨h1, h2, h3 | ⟨-, h3, -⟩⟩
      · exact c ⟨h3, h2, h1⟩
      · omega
  have e1 : isum (wtA A l na) na = isum (cntA A l) na := isum_congr fun a ha => by
    unfold wtA
    rw [if_pos ha]
  rw [← e0, ← H na (Nat.le_refl _), e1]
/-! ===== what is free, as integers ===== -/
theorem isum_Z {g : Nat → Int32} {a b : Int} (ha : -50000 ≤ a) (hb : b ≤ 50000) (h0 : a ≤ 0) (h1 : 0 ≤ b) : ∀ {n : Nat}, n ≤ 40 → (∀ q, q < n → a ≤ (g q).toInt ∧ (g q).toInt ≤ b) → (isum g n).toInt = zsum (fun q => (g q).toInt) n ∧ a * 40 ≤ (isum g n).toInt ∧ (isum g n).toInt ≤ b * 40
  | 0, _, _ => by
    have : (isum g 0).toInt = 0 := by show (0 : Int32).toInt = 0; decide
    refine ⟨this, ?_, ?_⟩ <;> omega
  | n + 1, hn, e => by
    obtain ⟨i1, i2, i3⟩ := isum_Z ha hb h0 h1 (n := n) (by omega) (fun q hq => e q (by omega))
    have h2 := e n (by omega)
    have : (isum g (n + 1)).toInt = (isum g n).toInt + (g n).toInt := add_toInt (by omega) (by omega)
    have hz := zsum_bd (g := fun q => (g q).toInt) (n := n + 1) e
    rw [this, zsum, i1]
    rw [zsum] at hz
    refine ⟨rfl, ?_, ?_⟩
    · have q1 : a * 40 ≤ a * ((n + 1 : Nat) : Int) := Int.mul_le_mul_of_nonpos_left h0 (by omega)
      omega
    · have q1 : b * ((n + 1 : Nat) : Int) ≤ b * 40 := Int.mul_le_mul_of_nonneg_left (by omega) h1
      omega
theorem root_bd {A : TT} {nl na ng t : Nat} (hw : Wf A nl na ng) (hb : Br A nl na) (hm : Nm A nl na ng t) (l : Nat) : -2000000 ≤ (isum (rootA A l) na).toInt ∧ (isum (rootA A l) na).toInt ≤ 2000000 := by
  rw [root_cnt hw hb]
  have := isum_Z (g := cntA A l) (a := -50000) (b := 50000) (by omega) (by omega) (by omega) (by omega) hw.hna (fun a ha => by
    unfold cntA
    by_cases c : chA A a = true ∧ A 3 2 a = nI l
    · rw [if_pos c]
      exact hm.more a ha
    · rw [if_neg c, show (0 : Int32).toInt = 0 from by decide]
      omega)
  omega
theorem bind_Z {A : TT} {nl na ng t : Nat} (hw : Wf A nl na ng) (hm : Nm A nl na ng t) (l : Nat) : (isum (bindA A l) ng).toInt = zsum (fun g => (bindA A l g).toInt) ng ∧ 0 ≤ (isum (bindA A l) ng).toInt ∧ (isum (bindA A l) ng).toInt ≤ 2000000 := by
  have := isum_Z (g := bindA A l) (a := 0) (b := 50000) (by omega) (by omega) (by omega) (by omega) hw.hng (fun g hg => by
    have := hm.gr g hg
    unfold bindA
    by_cases c : A 4 0 g = nI l
    · rw [if_pos c]
      by_cases c2 : A 4 6 g = 2
      · rw [if_pos c2]; omega
      · rw [if_neg c2]; omega
    · rw [if_neg c, show (0 : Int32).toInt = 0 from by decide]
      omega)
  refine ⟨this.1, ?_, ?_⟩ <;> omega
/-- stands, bound and free don't run over -/
theorem free_Z {A : TT} {nl na ng t l : Nat} (hw : Wf A nl na ng) (hb : Br A nl na) (hm : Nm A nl na ng t) (hl : l < nl) : (standA A na l).toInt = (baseA A l).toInt + (isum (rootA A l) na).toInt ∧ (boundA A ng l).toInt = (A 2 4 l).toInt + zsum (fun g => (bindA A l g).toInt) ng ∧ (freeA A na ng l).toInt = (standA A na l).toInt - (boundA A ng l).toInt ∧ 0 ≤ (boundA A ng l).toInt ∧ (boundA A ng l).toInt ≤ 28000000 ∧ -4000000 ≤ (standA A na l).toInt ∧ (standA A na l).toInt ≤ 62000000 := by
  have h1 := root_bd hw hb hm l
  have h2 := bind_Z hw hm l
  have h3 := hm.base l hl
  have h4 := hm.spent l hl
  have h5 := hm.tt
  have e1 : (standA A na l).toInt = (baseA A l).toInt + (isum (rootA A l) na).toInt := add_toInt (by omega) (by omega)
  have e2 : (boundA A ng l).toInt = (A 2 4 l).toInt + (isum (bindA A l) ng).toInt := add_toInt (by omega) (by omega)
  have e3 : (freeA A na ng l).toInt = (standA A na l).toInt - (boundA A ng l).toInt := sub_toInt (by omega) (by omega)
  refine ⟨e1, ?_, e3, ?_, ?_, ?_, ?_⟩
  · rw [e2, h2.1]
  all_goals omega
