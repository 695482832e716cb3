/-! ===== decide ===== -/
abbrev opA (A : TT) (na a : Nat) : Prop := ∃ k, k < na ∧ A 3 1 k = nI a ∧ A 3 5 k = 0
theorem isFree_R {A : TT} {nl na ng fu a : Nat} {s : ag_S} (h : RfS A nl na ng s) (hw : Wf A nl na ng) (ha : a < na) (hf : 60 < fu) : (A 3 5 a = 0 ∧ ¬ opA A na a → f_X6_isFree fu (nI a) s = some 1) ∧ (¬ (A 3 5 a = 0 ∧ ¬ opA A na a) → f_X6_isFree fu (nI a) s = some 0) := by
  have hna := hw.hna
  have low : ∀ k, k < na → k ≤ a → ¬ A 3 1 k = nI a := fun k hk hka e => by
    rcases hw.tree k hk with q | ⟨p, hp, q⟩
    · exact (nI_neg1 (w := a) (by omega)).1 (e.symm.trans q)
    · have := (nI_eq (p31 (by omega)) (p31 (by omega))).mp (e.symm.trans q)
      omega
  have key : ∀ b : Int32, (b = 0 ∨ b = 1) → ∃ v : Int32, f_X6_isFree_L19 fu fu (nI a) b (nI a + 1) s = some v ∧ (b = 0 → v = 0) ∧ (b = 1 → (opA A na a → v = 0) ∧ (¬ opA A na a → v = 1)) := fun b hb => by
    obtain ⟨v, e1, e0, e2⟩ := up_loop (F := fun nf i (v : Int32) => f_X6_isFree_L19 fu nf (nI a) v i s) (N := na) (I := fun q v => (b = 0 → v = 0) ∧ (b = 1 → ((∃ k, k < q ∧ A 3 1 k = nI a ∧ A 3 5 k = 0) → v = 0) ∧ (¬ (∃ k, k < q ∧ A 3 1 k = nI a ∧ A 3 5 k = 0) → v = 1))) (E := fun v => some v) (fun nf q v hq hv => by
      obtain ⟨v0, v1⟩ := hv
      have q40 := nI_in (show q < 40 by omega) (p31 (show 40 ≤ 1000 by decide))
      show ∃ v' : Int32, f_X6_isFree_L19 fu (nf + 1) (nI a) v (nI q) s = f_X6_isFree_L19 fu nf (nI a) v' (nI (q + 1)) s ∧ _
      rw [f_X6_isFree_L19, h.z13, if_neg (nI_ge hq (p31 (by omega))), if_neg q40, if_neg q40, h.r44 q (by omega), h.r47 q (by omega), nI_1]
      by_cases c : v = 0
      · rw [if_pos c]
        refine ⟨0, rfl, fun _ => rfl, fun hb1 => ⟨fun _ => rfl, fun q1 => ?_⟩⟩
        have := (v1 hb1).2 (fun ⟨k, h1, h2⟩ => q1 ⟨k, by omega, h2⟩)
        rw [c] at this
        exact this
      · have hb1 : b = 1 := hb.resolve_left (fun e => c (v0 e))
        rw [if_neg c]
        have no : ¬ ∃ k, k < q ∧ A 3 1 k = nI a ∧ A 3 5 k = 0 := fun e => c ((v1 hb1).1 e)
        by_cases d : A 3 1 q = nI a ∧ A 3 5 q = 0
        · rw [if_pos d.1, if_pos d.2]
          exact ⟨0, rfl, fun _ => rfl, fun _ => ⟨fun _ => rfl, fun q1 => absurd ⟨q, by omega, d⟩ q1⟩⟩
        · have nn : ¬ ∃ k, k < q + 1 ∧ A 3 1 k = nI a ∧ A 3 5 k = 0 := fun ⟨k, h1, h2⟩ => by
            by_cases e : k = q
            · exact d (e ▸ h2)
            · exact no ⟨k, by omega, h2⟩
          refine ⟨1, ?_, fun e => absurd (e.symm.trans hb1) (by decide), fun _ => ⟨fun e => absurd e nn, fun _ => rfl⟩⟩
          by_cases d1 : A 3 1 q = nI a
          · rw [if_pos d1, if_neg (fun e => d ⟨d1, e⟩)]
          · rw [if_neg d1]) (fun nf v hv => by
      show f_X6_isFree_L19 fu (nf + 1) (nI a) v (nI na) s = _
      rw [f_X6_isFree_L19, h.z13, if_pos (nI_le (Nat.le_refl _) (p31 (by omega)))]) (na - (a + 1)) (a + 1) b fu (by omega) (by omega) (by
      have nn : ¬ ∃ k, k < a + 1 ∧ A 3 1 k = nI a ∧ A 3 5 k = 0 := fun ⟨k, h1, h2, _⟩ => low k (by omega) (by omega) h2
      exact ⟨fun e => e, fun e => ⟨fun q => absurd q nn, fun _ => e⟩⟩)
    exact ⟨v, by rw [nI_1]; exact e1, e0, e2⟩
  have a40 := nI_in (show a < 40 by omega) (p31 (show 40 ≤ 1000 by decide))
  unfold f_X6_isFree
  rw [if_neg a40, h.r47 a (by omega)]
  by_cases c : A 3 5 a = 0
  · rw [if_pos c]
    obtain ⟨v, e1, -, e2⟩ := key 1 (.inr rfl)
    rw [e1]
    refine ⟨fun q => by rw [(e2 rfl).2 q.2], fun q => ?_⟩
    by_cases d : opA A na a
    · rw [(e2 rfl).1 d]
    · exact absurd ⟨c, d⟩ q
  · rw [if_neg c]
    obtain ⟨v, e1, e0, -⟩ := key 0 (.inl rfl)
    rw [e1, e0 rfl]
    exact ⟨fun q => absurd q.1 c, fun _ => rfl⟩
theorem oneOpen_C {A : TT} {nl na ng fu : Nat} {c : Int32} {n : ag_N} {s : ag_S} (h : ClS A nl na ng n s) : ∀ d q nf, q + d = na → d < nf → ((∃ k, q ≤ k ∧ k < na ∧ A 3 1 k = c ∧ A 3 5 k = 0) → f_X5_isOneOpenOn_L2 fu nf c (nI q) s = some 1) ∧ (¬ (∃ k, q ≤ k ∧ k < na ∧ A 3 1 k = c ∧ A 3 5 k = 0) → f_X5_isOneOpenOn_L2 fu nf c (nI q) s = some 0) := by
  have b3 := h.l3.le
  intro d
  induction d with
  | zero =>
    intro q nf e hn
    obtain ⟨nf, rfl⟩ : ∃ k, nf = k + 1 := ⟨nf - 1, by omega⟩
    rw [f_X5_isOneOpenOn_L2, h.l3.size3, bd_some, if_pos (nI_le (by omega) (p31 (by omega)))]
    exact ⟨fun ⟨k, h1, h2, _⟩ => by omega, fun _ => rfl⟩
  | succ d ih =>
    intro q nf e hn
    obtain ⟨nf, rfl⟩ : ∃ k, nf = k + 1 := ⟨nf - 1, by omega⟩
    have hq : q < na := by omega
    obtain ⟨i1, i2⟩ := ih (q + 1) nf (by omega) (by omega)
    rw [f_X5_isOneOpenOn_L2, h.l3.size3, bd_some, if_neg (nI_ge hq (p31 (by omega))), h.l3.get3 hq, bd_some, h.g3 hq, h.g3 hq, nI_1]
    by_cases c1 : A 3 1 q = c ∧ A 3 5 q = 0
    · rw [if_pos c1.1, if_pos c1.2]
      exact ⟨fun _ => rfl, fun r => absurd ⟨q, Nat.le_refl _, hq, c1⟩ r⟩
    · have eq : (∃ k, q ≤ k ∧ k < na ∧ A 3 1 k = c ∧ A 3 5 k = 0) ↔ ∃ k, q + 1 ≤ k ∧ k < na ∧ A 3 1 k = c ∧ A 3 5 k = 0 := by
        constructor
        · rintro ⟨k, h1, h2, h3⟩
          have : ¬ k = q := fun e => c1 (e ▸ h3)
          exact ⟨k, by omega, h2, h3⟩
        · rintro ⟨k, h1, h2, h3⟩
          exact ⟨k, by omega, h2, h3⟩
      rw [eq]
      by_cases c2 : A 3 1 q = c
      · rw [if_pos c2, if_neg (fun e => c1 ⟨c2, e⟩)]
        exact ⟨i1, i2⟩
      · rw [if_neg c2]
        exact ⟨i1, i2⟩
theorem zsum_two {f g : Nat → Int} : ∀ {n : Nat}, (∀ q, q < n → f q + g q ≤ 1) → zsum f n + zsum g n ≤ n
  | 0, _ => by simp [zsum]
  | n + 1, e => by
    have h1 := zsum_two (n := n) (fun q hq => e q (by omega))
    have h2 := e n (by omega)
    rw [zsum, zsum]
    push_cast
    omega
theorem votes9 {A : TT} {na a : Nat} (h : Vt A na) (ha : a < na) : 0 ≤ (bcv (A 3 8 a)).toInt ∧ 0 ≤ (bcv (A 3 9 a)).toInt ∧ (bcv (A 3 8 a)).toInt + (bcv (A 3 9 a)).toInt ≤ 9 := by
  obtain ⟨e1, e2⟩ := h.one ha
  rw [← e1, ← e2]
  have b : ∀ c : Int32, ∀ q, q < 9 → 0 ≤ ((if A 6 0 (9 * a + q) = c then (1 : Int32) else 0)).toInt ∧ ((if A 6 0 (9 * a + q) = c then (1 : Int32) else 0)).toInt ≤ 1 := fun c q _ => by
    by_cases d : A 6 0 (9 * a + q) = c
    · rw [if_pos d]; decide
    · rw [if_neg d]; decide
  have i1 := isum_Z (g := fun m => if A 6 0 (9 * a + m) = 1 then (1 : Int32) else 0) (a := 0) (b := 1) (by omega) (by omega) (by omega) (by omega) (n := 9) (by omega) (b 1)
  have i2 := isum_Z (g := fun m => if A 6 0 (9 * a + m) = 2 then (1 : Int32) else 0) (a := 0) (b := 1) (by omega) (by omega) (by omega) (by omega) (n := 9) (by omega) (b 2)
  have z := zsum_two (f := fun m => ((if A 6 0 (9 * a + m) = 1 then (1 : Int32) else 0)).toInt) (g := fun m => ((if A 6 0 (9 * a + m) = 2 then (1 : Int32) else 0)).toInt) (n := 9) (fun q _ => by
    by_cases d : A 6 0 (9 * a + q) = 1
    · rw [if_pos d, if_neg (fun e => absurd (d.symm.trans e) (by decide))]; decide
    · rw [if_neg d]
      by_cases d2 : A 6 0 (9 * a + q) = 2
      · rw [if_pos d2]; decide
      · rw [if_neg d2]; decide)
  refine ⟨by omega, by omega, ?_⟩
  rw [i1.1, i2.1]
  exact z
theorem isLost_C {A : TT} {nl na ng fu a : Nat} {n : ag_N} {s : ag_S} (h : ClS A nl na ng n s) (ha : a < na) (hn : ¬ wonA A a) : f_X0_isLost fu (nI a) s = some (if A 3 6 a = 1 ∧ bcv (A 3 9 a) < 5 then 0 else 1) := by
  unfold f_X0_isLost f_X0_votesAgainst
  rw [h.g3 ha, h.g3 ha, bc_eq, bd_some, bd_some, isWon_C h ha, if_neg hn, bd_some, if_pos rfl]
  by_cases c : A 3 6 a = 1
  · rw [if_pos c]
    by_cases d : bcv (A 3 9 a) < 5
    · rw [if_pos d, if_pos ⟨c, d⟩]
    · rw [if_neg d, if_neg (fun e => d e.2)]
  · rw [if_neg c, if_neg (fun e => c e.1)]
/-- only votes and the round of an open one have changed -/
theorem open_In {A A' : TT} {nl na ng t a : Nat} (hI : In A nl na ng t) (ha : a < na) (h0 : A 3 5 a = 0) (off : ∀ k f i, ¬ (k = 3 ∧ (f = 6 ∨ f = 8 ∨ f = 9) ∧ i = a) → ¬ (k = 6 ∧ 9 * a ≤ i ∧ i < 9 * a + 9) → A' k f i = A k f i) (hv : ∃ M1 M2 : Nat, M1 < 512 ∧ M2 < 512 ∧ A' 3 8 a = nI M1 ∧ A' 3 9 a = nI M2 ∧ ∀ m, m < 9 → ((M1 >>> m) % 2 = 1 ↔ A' 6 0 (9 * a + m) = 1) ∧ ((M2 >>> m) % 2 = 1 ↔ A' 6 0 (9 * a + m) = 2)) : In A' nl na ng t := by
  have ev : ∀ {P : Nat → Nat → Prop}, ¬ P 3 6 → ¬ P 3 8 → ¬ P 3 9 → (∀ f, ¬ P 6 f) → agr P A A' := fun p6 p8 p9 p f' k i q => off f' k i (by
    rintro ⟨rfl, rfl | rfl | rfl, -⟩
    · exact p6 q
    · exact p8 q
    · exact p9 q) (by
    rintro ⟨rfl, -⟩
    exact p _ q)
  obtain ⟨w1, w2, w3, w4, w5, w6, w7⟩ := hI
  have hna := w1.hna
  refine ⟨w1.congr (ev (by decide) (by decide) (by decide) (fun f => by omega)), w2.congr (ev (by decide) (by decide) (by decide) (fun f => by omega)), ⟨fun j p q => ?_, fun j p q => ?_, fun j p q => ?_, fun j p q => ?_⟩, fun b hb => ?_, ?_, w6.congr (ev (by decide) (by decide) (by decide) (fun f => by omega)), w7.congr (ev (by decide) (by decide) (by decide) (fun f => by omega))⟩
  · rw [off _ _ _ (by omega) (by omega), off _ _ _ (by omega) (by omega), off _ _ _ (by omega) (by omega)]; exact w3.zl j p q
  · rw [off _ _ _ (by omega) (by omega)]; exact w3.za j p q
  · rw [off _ _ _ (by omega) (by omega)]; exact w3.zv j p q
  · rw [off _ _ _ (by omega) (by omega), off _ _ _ (by omega) (by omega), off _ _ _ (by omega) (by omega)]; exact w3.zg j p q
  · by_cases q : b = a
    · subst q; exact hv
    · obtain ⟨M1, M2, h1, h2, h3, h4, h5⟩ := w4 b hb
      refine ⟨M1, M2, h1, h2, by rw [off _ _ _ (by omega) (by omega), h3], by rw [off _ _ _ (by omega) (by omega), h4], fun j hj => ?_⟩
      rw [off _ _ _ (by omega) (by omega)]
      exact h5 j hj
  · obtain ⟨d1, d2, d3, d4, d5, d6⟩ := w5
    have e5 : ∀ j, A' 3 5 j = A 3 5 j := fun j => off _ _ _ (by omega) (by omega)
    have e7 : ∀ j, A' 3 7 j = A 3 7 j := fun j => off _ _ _ (by omega) (by omega)
    have e1 : ∀ j, A' 3 1 j = A 3 1 j := fun j => off _ _ _ (by omega) (by omega)
    have e4 : ∀ f j, A' 4 f j = A 4 f j := fun f j => off _ _ _ (by omega) (by omega)
    have hw : ∀ b, b ≠ a → (wonA A' b ↔ wonA A b) := fun b q => wonA_congr (off _ _ _ (by omega) (by omega)) (off _ _ _ (by omega) (by omega)) (off _ _ _ (by omega) (by omega))
    refine ⟨fun b hb => ?_, fun b hb => ?_, fun b hb => ?_, fun b p hb => ?_, fun b p hb => ?_, fun g hg => ?_⟩
    · rw [e5, e7]; exact d1 b hb
    · rw [e5, e7]
      intro s1
      have q : b ≠ a := fun q => by rw [q, h0] at s1; exact absurd s1 (by decide)
      rw [hw b q]
      exact d2 b hb s1
    · rw [e5, e7, e1]
      intro s1
      have q : b ≠ a := fun q => by rw [q, h0] at s1; exact absurd s1 (by decide)
      rw [hw b q]
      simp only [e5]
      exact d3 b hb s1
    · simp only [e5, e1]; exact d4 b p hb
    · simp only [e5, e1]; exact d5 b p hb
    · simp only [e4, e5]; exact d6 g hg
def vzA (A : TT) (a : Nat) : Nat → TT
  | 0 => A
  | m + 1 => tU (vzA A a m) 6 0 (9 * a + m) 0
theorem vzA_v {A : TT} {a k f i : Nat} : ∀ m, vzA A a m k f i = if k = 6 ∧ f = 0 ∧ 9 * a ≤ i ∧ i < 9 * a + m then 0 else A k f i
  | 0 => by
    rw [if_neg (by omega)]
    rfl
  | m + 1 => by
    show tU (vzA A a m) 6 0 (9 * a + m) 0 k f i = _
    unfold tU
    by_cases c : k = 6 ∧ f = 0 ∧ i = 9 * a + m
    · rw [if_pos c, if_pos (by omega)]
    · rw [if_neg c, vzA_v m]
      by_cases d : k = 6 ∧ f = 0 ∧ 9 * a ≤ i ∧ i < 9 * a + m
      · rw [if_pos d, if_pos (by omega)]
      · rw [if_neg d, if_neg (by omega)]
theorem ClS.vz {A : TT} {nl na ng a : Nat} {n : ag_N} {s : ag_S} (h : ClS A nl na ng n s) : ∀ m, ClS (vzA A a m) nl na ng n s
  | 0 => h
  | m + 1 => (h.vz m).co (by decide)
def rdA (A : TT) (a : Nat) : TT := tU (tU (vzA (tU A 3 6 a 2) a 9) 3 8 a 0) 3 9 a 0
theorem rdA_In {A : TT} {nl na ng t a : Nat} (hI : In A nl na ng t) (ha : a < na) (h0 : A 3 5 a = 0) : In (rdA A a) nl na ng t := by
  refine open_In hI ha h0 (fun k f i q1 q2 => ?_) ⟨0, 0, by decide, by decide, ?_, ?_, fun m hm => ?_⟩
  · unfold rdA
    rw [tU_ne (by omega), tU_ne (by omega), vzA_v, if_neg (by omega), tU_ne (by omega)]
  · unfold rdA
    rw [tU_ne (by omega), tU_eq]
    rfl
  · unfold rdA
    rw [tU_eq]
    rfl
  · have : rdA A a 6 0 (9 * a + m) = 0 := by
      unfold rdA
      rw [tU_ne (by omega), tU_ne (by omega), vzA_v, if_pos (by omega)]
    rw [this, Nat.zero_shiftRight]
    decide
theorem look_3 {na ng l : Nat} {f j : Nat} : ∀ (q : Nat) (A : TT) (c : Int32), (lookS na ng l q A c).1 3 f j = A 3 f j
  | 0, _, _ => rfl
  | q + 1, A, c => by
    rw [lookS]
    by_cases e : A 4 0 q = nI l ∧ A 4 6 q = 0 ∧ freeA A na ng l < 0
    · rw [if_pos e, look_3 q]
      unfold cutA
      rw [tuk (by decide), tuk (by decide)]
    · rw [if_neg e, look_3 q]
theorem cov_3 {A : TT} {na ng l f j : Nat} : covA A na ng l 3 f j = A 3 f j := by
  unfold covA
  by_cases c : -(freeA A na ng l) ≤ 0
  · rw [if_pos c]
  · rw [if_neg c, tuk (by decide), tuk (by decide)]
theorem passed_X {A B : TT} {nl na ng t a l : Nat} (hI : In A nl na ng t) (ha : a < na) (hl : l < nl) (el : A 3 2 a = nI l) (h0 : A 3 5 a = 0) (hw1 : wonA A a) (ho : ¬ opA A na a) (bB : Br B nl na) (oB : offB (tU A 3 5 a 1) B) : InX B nl na ng t l ∧ (¬ A 3 1 a = -1 → In B nl na ng t) := by
  obtain ⟨w1, w2, w3, w4, w5, w6, w7⟩ := hI
  have hna := w1.hna
  have hnl := w1.hnl
  have off : ∀ k f i, ¬ (k = 3 ∧ f = 4) → ¬ (k = 2 ∧ f = 3) → ¬ (k = 3 ∧ f = 5) → B k f i = A k f i := fun k f i q3 q4 q5 => by
    rw [oB k f i q3 q4, tU_ne (fun e => q5 ⟨e.1, e.2.1⟩)]
  have ev : ∀ {P : Nat → Nat → Prop}, ¬ P 3 4 → ¬ P 2 3 → ¬ P 3 5 → agr P A B := fun p3 p4 p5 k f i q => off k f i (by rintro ⟨rfl, rfl⟩; exact p3 q) (by rintro ⟨rfl, rfl⟩; exact p4 q) (by rintro ⟨rfl, rfl⟩; exact p5 q)
  have d35 : ∀ k, B 3 5 k = if k = a then 1 else A 3 5 k := fun k => by
    rw [oB _ _ _ (by decide) (by decide)]
    simp [tU]
  have d3 : ∀ f k, ¬ f = 4 → ¬ f = 5 → B 3 f k = A 3 f k := fun f k q r => off _ _ _ (by omega) (by omega) (by omega)
  have d4 : ∀ f k, B 4 f k = A 4 f k := fun f k => off _ _ _ (by omega) (by omega) (by omega)
  have d2 : ∀ f k, ¬ f = 3 → B 2 f k = A 2 f k := fun f k q => off _ _ _ (by omega) (by omega) (by omega)
  have hw : ∀ k, wonA B k ↔ wonA A k := fun k => wonA_congr (d3 _ _ (by decide) (by decide)) (d3 _ _ (by decide) (by decide)) (d3 _ _ (by decide) (by decide))
  have v1 : Wf B nl na ng := w1.congr (ev (by decide) (by decide) (by decide))
  have v4 : Vt B na := w4.congr (ev (by decide) (by decide) (by decide))
  have v6 : Nm B nl na ng t := w6.congr (ev (by decide) (by decide) (by decide))
  have v3 : Zs B nl na ng := by
    refine ⟨fun j p q => ?_, fun j p q => ?_, fun j p q => ?_, fun j p q => ?_⟩
    · rw [d2 _ _ (by decide), d2 _ _ (by decide), d2 _ _ (by decide)]; exact w3.zl j p q
    · rw [d35, if_neg (by omega)]; exact w3.za j p q
    · rw [off _ _ _ (by decide) (by decide) (by decide)]; exact w3.zv j p q
    · rw [d4, d4, d4]; exact w3.zg j p q
  have s7 : A 3 7 a = 0 := by
    rcases w5.st a ha with q | q | q
    · exact q.2
    · rw [h0] at q; exact absurd q (by decide)
    · rw [h0] at q; exact absurd q (by decide)
  have v5 : Dc B na ng := by
    refine ⟨fun k hk => ?_, fun k hk => ?_, fun k hk => ?_, fun k p hk hp => ?_, fun k p hk hp => ?_, fun g hg => ?_⟩
    · rw [d35, d3 7 _ (by decide) (by decide)]
      by_cases c : k = a
      · rw [if_pos c]; exact .inr (.inl rfl)
      · rw [if_neg c]; exact w5.st k hk
    · rw [d35, d3 7 _ (by decide) (by decide), hw]
      by_cases c : k = a
      · subst c
        exact fun _ => ⟨hw1, s7⟩
      · rw [if_neg c]; exact w5.d1 k hk
    · rw [d35, d3 7 _ (by decide) (by decide), hw]
      by_cases c : k = a
      · rw [if_pos c]; exact fun q => absurd q (by decide)
      · rw [if_neg c]
        intro q
        rcases w5.d2 k hk q with r | r | ⟨p, hp, r1, r2⟩
        · exact .inl r
        · exact .inr (.inl r)
        · refine .inr (.inr ⟨p, hp, (d3 1 k (by decide) (by decide)).trans r1, ?_⟩)
          rw [d35, if_neg (fun e => by rw [e, h0] at r2; exact absurd r2 (by decide))]
          exact r2
    · rw [d3 1 k (by decide) (by decide), d35, d35]
      intro e q
      by_cases c : p = a
      · rw [if_pos c] at q; exact absurd q (by decide)
      · rw [if_neg c] at q
        have := w5.d3 k p hk hp e q
        rw [if_neg (fun e => by rw [e, h0] at this; exact absurd this (by decide))]
        exact this
    · rw [d3 1 k (by decide) (by decide), d35, d35]
      intro e q
      by_cases c : k = a
      · rw [if_pos c] at q; exact absurd q (by decide)
      · rw [if_neg c] at q
        rw [if_neg (show ¬ p = a from fun r => ho ⟨k, hk, by rw [e, r], q⟩)]
        exact w5.d4 k p hk hp e q
    · rw [d4, d4]
      intro q
      rcases w5.live g hg q with r | ⟨k, hk, r1, r2⟩
      · exact .inl r
      · refine .inr ⟨k, hk, r1, ?_⟩
        rw [d35]
        by_cases c : k = a
        · rw [if_pos c]
        · rw [if_neg c]; exact r2
  have mono : ∀ l', l' < nl → (∀ k, k < na → A 3 2 k = nI l' → (chA B k = true ↔ chA A k = true)) → 0 ≤ (freeA B na ng l').toInt := fun l' hl' hc => by
    refine Int.le_trans (w7 l' hl') (free_mono w1 w2 w6 v1 bB v6 hl' (base_congr (d2 _ _ (by decide)) (d2 _ _ (by decide)) (d2 _ _ (by decide))) (root_same w1 v1 w2 bB (fun k => d3 2 k (by decide) (by decide)) (fun k => d3 3 k (by decide) (by decide)) hc) (d2 _ _ (by decide)) fun g hg => ?_)
    unfold bindA
    rw [d4, d4, d4, d4]
    exact Int.le_refl _
  refine ⟨⟨v1, bB, v3, v4, v5, v6, fun l' hl' ne => ?_⟩, fun hr => ⟨v1, bB, v3, v4, v5, v6, fun l' hl' => ?_⟩⟩
  · refine mono l' hl' (ch_same w1 v1 (fun k => A 3 2 k = nI l') (fun k p hk hp e q => (w1.lon k p hk hp e).symm.trans q) (fun k => d3 1 k (by decide) (by decide)) fun k hk q => .inl ?_)
    have : ¬ k = a := fun z => by
      rw [z, el] at q
      exact ne ((nI_eq (p31 (by omega)) (p31 (by omega))).mp q).symm
    rw [d35, if_neg this]
  · refine mono l' hl' fun k hk _ => ch_same w1 v1 (fun _ => True) (fun _ _ _ _ _ _ => trivial) (fun k => d3 1 k (by decide) (by decide)) (fun k hk _ => ?_) k hk trivial
    by_cases c : k = a
    · subst c
      refine .inr ⟨fun z => ?_, fun z => ?_⟩
      · have := (chA_eq v1 hk).mp z
        rw [d3 1 k (by decide) (by decide)] at this
        rcases this.2 with r | ⟨p, hp, r1, r2⟩
        · exact hr r
        · have p0 := w5.d4 k p hk hp r1 h0
          have := ((chA_eq v1 (show p < na by omega)).mp r2).1
          rw [d35, if_neg (by omega), p0] at this
          exact absurd this (by decide)
      · have := ((chA_eq w1 hk).mp z).1
        rw [h0] at this
        exact absurd this (by decide)
    · refine .inl ?_
      rw [d35, if_neg c]
