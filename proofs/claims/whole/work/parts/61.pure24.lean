/-! ===== what falls with an amendment ===== -/
def flB (A : TT) (a : Nat) : Nat → Nat → Bool
  | 0, _ => false
  | f + 1, k => decide (k = a) || (decide (¬ A 3 1 k < 0) && flB A a f (A 3 1 k).toNatClampNeg)
def flK (A : TT) (a k : Nat) : Bool := flB A a 41 k
theorem neg1_lt : ((-1 : Int32) < 0) := by decide
theorem flB_fuel {A : TT} {nl na ng a : Nat} (hw : Wf A nl na ng) : ∀ k, k < na → ∀ f f', k < f → k < f' → flB A a f k = flB A a f' k := by
  intro k
  induction k using Nat.strongRecOn with
  | ind k ih =>
    intro hk f f' hf hf'
    have hna := hw.hna
    obtain ⟨f, rfl⟩ : ∃ j, f = j + 1 := ⟨f - 1, by omega⟩
    obtain ⟨f', rfl⟩ : ∃ j, f' = j + 1 := ⟨f' - 1, by omega⟩
    unfold flB
    rcases hw.tree k hk with e | ⟨p, hp, e⟩
    · rw [e, decide_eq_false (fun q : ¬ (-1 : Int32) < 0 => q neg1_lt), Bool.false_and, Bool.false_and]
    · rw [e, nI_clamp (p31 (by omega)), ih p hp (by omega) f f' (by omega) (by omega)]
theorem flK_eq {A : TT} {nl na ng a k : Nat} (hw : Wf A nl na ng) (hk : k < na) : flK A a k = true ↔ k = a ∨ ∃ p, p < k ∧ A 3 1 k = nI p ∧ flK A a p = true := by
  have hna := hw.hna
  unfold flK
  rw [show flB A a 41 k = (decide (k = a) || (decide (¬ A 3 1 k < 0) && flB A a 40 (A 3 1 k).toNatClampNeg)) from rfl, Bool.or_eq_true, Bool.and_eq_true, decide_eq_true_eq, decide_eq_true_eq]
  refine or_congr Iff.rfl ?_
  rcases hw.tree k hk with e | ⟨p, hp, e⟩
  · rw [e]
    constructor
    · rintro ⟨q, -⟩
      exact absurd neg1_lt q
    · rintro ⟨p, hp, q, -⟩
      exact absurd q.symm (nI_neg1 (by omega)).1
  · rw [e, nI_clamp (p31 (by omega)), flB_fuel hw p (by omega) 40 41 (by omega) (by omega)]
    constructor
    · rintro ⟨-, q⟩
      exact ⟨p, hp, rfl, q⟩
    · rintro ⟨p', hp', q, r⟩
      have := (nI_eq (p31 (by omega)) (p31 (by omega))).mp q
      subst this
      exact ⟨nI_pos (p31 (by omega)), r⟩
theorem flK_congr {A A' : TT} {a : Nat} (h : ∀ k, A' 3 1 k = A 3 1 k) : flK A' a = flK A a := by
  have : ∀ f k, flB A' a f k = flB A a f k := by
    intro f
    induction f with
    | zero => intro k; rfl
    | succ f ih =>
      intro k
      unfold flB
      rw [h, ih]
  funext k
  exact this 41 k
theorem flK_ge {A : TT} {nl na ng a : Nat} (hw : Wf A nl na ng) : ∀ k, k < na → flK A a k = true → a ≤ k ∧ (a < na → A 3 2 k = A 3 2 a) := by
  intro k
  induction k using Nat.strongRecOn with
  | ind k ih =>
    intro hk h
    rcases (flK_eq hw hk).mp h with e | ⟨p, hp, e, q⟩
    · subst e
      exact ⟨Nat.le_refl _, fun _ => rfl⟩
    · obtain ⟨i1, i2⟩ := ih p hp (by omega) q
      exact ⟨by omega, fun ha => (hw.lon k p hk hp e).trans (i2 ha)⟩
theorem flK_self {A : TT} {nl na ng a : Nat} (hw : Wf A nl na ng) (ha : a < na) : flK A a a = true := (flK_eq hw ha).mpr (.inl rfl)
/-- fallen: those among the first i, and a -/
def flC (A : TT) (a na i : Nat) : TT := fun k f j => if k = 3 ∧ f = 5 ∧ j < na ∧ flK A a j = true ∧ (j < i ∨ j = a) then 2 else A k f j
def flE (A : TT) (a na : Nat) : TT := fun k f j => if k = 3 ∧ f = 5 ∧ j < na ∧ flK A a j = true then 2 else A k f j
theorem flC_off {A : TT} {a na i k f j : Nat} (h : ¬ (k = 3 ∧ f = 5)) : flC A a na i k f j = A k f j := if_neg fun e => h ⟨e.1, e.2.1⟩
theorem flE_off {A : TT} {a na k f j : Nat} (h : ¬ (k = 3 ∧ f = 5)) : flE A a na k f j = A k f j := if_neg fun e => h ⟨e.1, e.2.1⟩
theorem flE_5 {A : TT} {a na j : Nat} (h : j < na) : flE A a na 3 5 j = if flK A a j = true then 2 else A 3 5 j := by
  unfold flE
  by_cases c : flK A a j = true
  · rw [if_pos ⟨rfl, rfl, h, c⟩, if_pos c]
  · rw [if_neg (fun e => c e.2.2.2), if_neg c]
theorem flC_0 {A : TT} {nl na ng a : Nat} (hw : Wf A nl na ng) (ha : a < na) : tU A 3 5 a 2 = flC A a na 0 := by
  funext k f j
  unfold tU flC
  by_cases c : k = 3 ∧ f = 5 ∧ j = a
  · obtain ⟨rfl, rfl, rfl⟩ := c
    rw [if_pos ⟨rfl, rfl, rfl⟩, if_pos ⟨rfl, rfl, ha, flK_self hw ha, .inr rfl⟩]
  · rw [if_neg c, if_neg]
    rintro ⟨h1, h2, -, -, h3 | h3⟩
    · omega
    · exact c ⟨h1, h2, h3⟩
theorem flC_end {A : TT} {a na : Nat} : flC A a na na = flE A a na := by
  funext k f j
  unfold flC flE
  by_cases c : k = 3 ∧ f = 5 ∧ j < na ∧ flK A a j = true
  · rw [if_pos c, if_pos ⟨c.1, c.2.1, c.2.2.1, c.2.2.2, .inl c.2.2.1⟩]
  · rw [if_neg c, if_neg (fun e => c ⟨e.1, e.2.1, e.2.2.1, e.2.2.2.1⟩)]
theorem flC_same {A : TT} {a na i : Nat} (h : flK A a i = true → i = a) : flC A a na (i + 1) = flC A a na i := by
  funext k f j
  unfold flC
  by_cases c : k = 3 ∧ f = 5 ∧ j < na ∧ flK A a j = true ∧ (j < i ∨ j = a)
  · rw [if_pos c, if_pos ⟨c.1, c.2.1, c.2.2.1, c.2.2.2.1, c.2.2.2.2.imp (fun q => by omega) id⟩]
  · rw [if_neg c, if_neg]
    rintro ⟨h1, h2, h3, h4, h5 | h5⟩
    · refine c ⟨h1, h2, h3, h4, ?_⟩
      by_cases e : j = i
      · subst e
        exact .inr (h h4)
      · exact .inl (by omega)
    · exact c ⟨h1, h2, h3, h4, .inr h5⟩
theorem flC_up {A : TT} {a na i : Nat} (hi : i < na) (h : flK A a i = true ∨ A 3 5 i = 2) : tU (flC A a na i) 3 5 i 2 = flC A a na (i + 1) := by
  funext k f j
  unfold tU
  by_cases c : k = 3 ∧ f = 5 ∧ j = i
  · obtain ⟨rfl, rfl, rfl⟩ := c
    rw [if_pos ⟨rfl, rfl, rfl⟩]
    unfold flC
    by_cases d : flK A a j = true
    · rw [if_pos ⟨rfl, rfl, hi, d, .inl (by omega)⟩]
    · rw [if_neg (fun e => d e.2.2.2.1)]
      exact (h.resolve_left d).symm
  · rw [if_neg c]
    unfold flC
    by_cases d : k = 3 ∧ f = 5 ∧ j < na ∧ flK A a j = true ∧ (j < i ∨ j = a)
    · rw [if_pos d, if_pos ⟨d.1, d.2.1, d.2.2.1, d.2.2.2.1, d.2.2.2.2.imp (fun q => by omega) id⟩]
    · rw [if_neg d, if_neg]
      rintro ⟨h1, h2, h3, h4, h5 | h5⟩
      · have : ¬ j = i := fun e => c ⟨h1, h2, e⟩
        exact d ⟨h1, h2, h3, h4, .inl (by omega)⟩
      · exact d ⟨h1, h2, h3, h4, .inr h5⟩
theorem fell_C {A : TT} {nl na ng fu a : Nat} {n : ag_N} {s : ag_S} (h : ClS (tU A 3 5 a 2) nl na ng n s) (hw : Wf A nl na ng) (hd : ∀ k p, k < na → p < k → A 3 1 k = nI p → A 3 5 p = 2 → A 3 5 k = 2) (ha : a < na) (hf : 60 < fu) : ∃ s1, f_X5_fellAllOnFallen fu s = some s1 ∧ ClS (flE A a na) nl na ng n s1 ∧ frC s s1 := by
  have hna := hw.hna
  unfold f_X5_fellAllOnFallen
  obtain ⟨s1, e1, h1, f1⟩ := up_loop (F := fun nf i (v : ag_S) => f_X5_fellAllOnFallen_L2 fu nf i v) (N := na) (I := fun q v => ClS (flC A a na q) nl na ng n v ∧ frC s v) (E := fun v => some v) (fun nf q v hq hv => by
    obtain ⟨hc, fv⟩ := hv
    show ∃ s', f_X5_fellAllOnFallen_L2 fu (nf + 1) (nI q) v = f_X5_fellAllOnFallen_L2 fu nf (nI (q + 1)) s' ∧ ClS (flC A a na (q + 1)) nl na ng n s' ∧ frC s s'
    rw [f_X5_fellAllOnFallen_L2, hc.l3.size3, bd_some, if_neg (nI_ge hq (p31 (by omega))), hc.l3.get3 hq, bd_some, hc.g3 hq, flC_off (by decide), nI_1]
    rcases hw.tree q hq with e | ⟨p, hp, e⟩
    · rw [if_pos e]
      refine ⟨v, rfl, ?_, fv⟩
      rw [flC_same]
      · exact hc
      · intro k
        rcases (flK_eq hw hq).mp k with r | ⟨p, hp, r, -⟩
        · exact r
        · exact absurd (r.symm.trans e) (nI_neg1 (by omega)).1
    · rw [e, if_neg (nI_neg1 (by omega)).1, if_neg (nI_neg1 (by omega)).1, hc.g3 (show p < na by omega)]
      have ev : flC A a na q 3 5 p = if flK A a p = true then 2 else A 3 5 p := by
        unfold flC
        by_cases d : flK A a p = true
        · rw [if_pos ⟨rfl, rfl, by omega, d, .inl hp⟩, if_pos d]
        · rw [if_neg (fun e => d e.2.2.2.1), if_neg d]
      rw [ev]
      by_cases d : flK A a p = true
      · rw [if_pos d, if_pos rfl]
        refine ⟨_, rfl, ?_, fv.up (by decide)⟩
        rw [← flC_up hq (.inl ((flK_eq hw hq).mpr (.inr ⟨p, hp, e, d⟩)))]
        exact hc.w (by decide) (by omega)
      · rw [if_neg d]
        by_cases d2 : A 3 5 p = 2
        · rw [if_pos d2]
          refine ⟨_, rfl, ?_, fv.up (by decide)⟩
          rw [← flC_up hq (.inr (hd q p hq hp e d2))]
          exact hc.w (by decide) (by omega)
        · rw [if_neg d2]
          refine ⟨v, rfl, ?_, fv⟩
          rw [flC_same]
          · exact hc
          · intro k
            rcases (flK_eq hw hq).mp k with r | ⟨p', hp', r, r2⟩
            · exact r
            · have := (nI_eq (p31 (by omega)) (p31 (by omega))).mp (e.symm.trans r)
              subst this
              exact absurd r2 d) (fun nf v hv => by
    show f_X5_fellAllOnFallen_L2 fu (nf + 1) (nI na) v = _
    rw [f_X5_fellAllOnFallen_L2, hv.1.l3.size3, bd_some, if_pos (nI_le (Nat.le_refl _) (p31 (by omega)))]) na 0 s fu (by omega) (by omega) ⟨(flC_0 hw ha) ▸ h, frC.refl s⟩
  rw [flC_end] at h1
  exact ⟨s1, (show nI 0 = 0 from by decide) ▸ e1, h1, f1⟩
/-! ===== a set of grants is withdrawn ===== -/
def wdS (S : Nat → Bool) (ng : Nat) (B : TT) : TT := fun k f i => if k = 4 ∧ f = 6 ∧ i < ng ∧ S i = true then 2 else if k = 1 ∧ f = 1 then B 1 1 i + isum (fun g => if S g = true ∧ rcv B g = i then B 4 5 g else 0) ng else B k f i
def cntS (S : Nat → Bool) (ng : Nat) : Int32 := isum (fun g => if S g = true then 1 else 0) ng
theorem wdS_off {S : Nat → Bool} {ng k f i : Nat} {B : TT} (h : ¬ (k = 4 ∧ f = 6)) (h2 : ¬ (k = 1 ∧ f = 1)) : wdS S ng B k f i = B k f i := by
  unfold wdS
  rw [if_neg (fun e => h ⟨e.1, e.2.1⟩), if_neg h2]
theorem wdS_6 {S : Nat → Bool} {ng i : Nat} {B : TT} (h : i < ng) : wdS S ng B 4 6 i = if S i = true then 2 else B 4 6 i := by
  unfold wdS
  by_cases c : S i = true
  · rw [if_pos ⟨rfl, rfl, h, c⟩, if_pos c]
  · rw [if_neg (fun e => c e.2.2.2), if_neg (by decide), if_neg c]
theorem wdS_n {S : Nat → Bool} {ng k f i : Nat} {B : TT} (h : ¬ (k = 4 ∧ f = 6 ∧ i < ng ∧ S i = true)) : wdS S ng B k f i = if k = 1 ∧ f = 1 then B 1 1 i + isum (fun g => if S g = true ∧ rcv B g = i then B 4 5 g else 0) ng else B k f i := if_neg h
theorem wdS_y {S : Nat → Bool} {ng k f i : Nat} {B : TT} (h : k = 4 ∧ f = 6 ∧ i < ng ∧ S i = true) : wdS S ng B k f i = 2 := if_pos h
theorem wdS_11 {S : Nat → Bool} {ng i : Nat} {B : TT} : wdS S ng B 1 1 i = B 1 1 i + isum (fun g => if S g = true ∧ rcv B g = i then B 4 5 g else 0) ng := by
  rw [wdS_n (by omega), if_pos ⟨rfl, rfl⟩]
theorem wdS_ext {S S' : Nat → Bool} {ng : Nat} {B : TT} (h : ∀ g, g < ng → S g = S' g) : wdS S ng B = wdS S' ng B := by
  funext k f i
  by_cases c : k = 4 ∧ f = 6 ∧ i < ng ∧ S i = true
  · rw [wdS_y c, wdS_y ⟨c.1, c.2.1, c.2.2.1, (h i c.2.2.1).symm.trans c.2.2.2⟩]
  · rw [wdS_n c, wdS_n (fun q => c ⟨q.1, q.2.1, q.2.2.1, (h i q.2.2.1).trans q.2.2.2⟩)]
    have e : isum (fun g => if S g = true ∧ rcv B g = i then B 4 5 g else 0) ng = isum (fun g => if S' g = true ∧ rcv B g = i then B 4 5 g else 0) ng := isum_congr fun g hg => by rw [h g hg]
    rw [e]
theorem cntS_ext {S S' : Nat → Bool} {ng : Nat} (h : ∀ g, g < ng → S g = S' g) : cntS S ng = cntS S' ng := isum_congr fun g hg => by rw [h g hg]
theorem wdS_none {S : Nat → Bool} {ng : Nat} {B : TT} (h : ∀ g, g < ng → S g = false) : wdS S ng B = B ∧ cntS S ng = 0 := by
  refine ⟨?_, isum_zero fun g hg => by rw [h g hg, if_neg (by decide)]⟩
  funext k f i
  rw [wdS_n (fun e => by rw [h i e.2.2.1] at e; exact absurd e.2.2.2 (by decide))]
  by_cases d : k = 1 ∧ f = 1
  · rw [if_pos d, isum_zero (fun g hg => if_neg (fun e => by rw [h g hg] at e; exact absurd e.1 (by decide))), Int32.add_zero, d.1, d.2]
  · rw [if_neg d]
theorem wdS_step {S S' : Nat → Bool} {ng g : Nat} {B : TT} (hg : g < ng) (h0 : S g = false) (h1 : S' g = true) (h : ∀ j, j < ng → j ≠ g → S' j = S j) : wdA (wdS S ng B) g = wdS S' ng B ∧ cntS S' ng = cntS S ng + 1 := by
  have er : rcv (wdS S ng B) g = rcv B g := by
    unfold rcv
    rw [wdS_off (by decide) (by decide)]
  have e5 : wdS S ng B 4 5 g = B 4 5 g := wdS_off (by decide) (by decide)
  refine ⟨?_, ?_⟩
  · unfold wdA
    rw [er, e5]
    funext k f i
    unfold tU
    by_cases c1 : k = 1 ∧ f = 1
    · obtain ⟨rfl, rfl⟩ := c1
      have key : wdS S' ng B 1 1 i = wdS S ng B 1 1 i + (if rcv B g = i then B 4 5 g else 0) := by
        rw [wdS_11, wdS_11, isum_add1 (g := fun g => if S g = true ∧ rcv B g = i then B 4 5 g else 0) (h := fun g => if S' g = true ∧ rcv B g = i then B 4 5 g else 0) hg (fun j hj q => by rw [h j hj q]) (if_neg (fun e => by rw [h0] at e; exact absurd e.1 (by decide))), Int32.add_assoc]
        refine congrArg _ (congrArg _ ?_)
        by_cases c : rcv B g = i
        · rw [if_pos ⟨h1, c⟩, if_pos c]
        · rw [if_neg (fun e => c e.2), if_neg c]
      rw [key]
      by_cases c : i = rcv B g
      · rw [if_pos ⟨rfl, rfl, c⟩, if_pos c.symm, c]
      · rw [if_neg (fun e => c e.2.2), if_neg (fun e => by omega), if_neg (fun e => c e.symm), Int32.add_zero]
    · rw [if_neg (fun e => c1 ⟨e.1, e.2.1⟩)]
      by_cases c2 : k = 4 ∧ f = 6 ∧ i = g
      · obtain ⟨rfl, rfl, rfl⟩ := c2
        rw [if_pos ⟨rfl, rfl, rfl⟩, wdS_6 hg, if_pos h1]
      · rw [if_neg c2]
        by_cases c3 : k = 4 ∧ f = 6 ∧ i < ng
        · obtain ⟨rfl, rfl, hi⟩ := c3
          rw [wdS_6 hi, wdS_6 hi, h i hi (fun e => c2 ⟨rfl, rfl, e⟩)]
        · rw [wdS_n (fun e => c3 ⟨e.1, e.2.1, e.2.2.1⟩), wdS_n (fun e => c3 ⟨e.1, e.2.1, e.2.2.1⟩), if_neg c1, if_neg c1]
  · unfold cntS
    rw [isum_add1 (g := fun g => if S g = true then 1 else 0) (h := fun g => if S' g = true then 1 else 0) hg (fun j hj q => by rw [h j hj q]) (by rw [h0]; rfl)]
    rw [h1]
    rfl
/-- those that hang on what has fallen -/
def hfS (B : TT) (g : Nat) : Bool := decide (B 4 6 g = 0) && (decide (¬ B 4 2 g = -1) && decide (B 3 5 (B 4 2 g).toNatClampNeg = 2))
theorem Wf.wds {B : TT} {nl na ng m : Nat} {S : Nat → Bool} (h : Wf B nl na ng) : Wf (wdS S m B) nl na ng := h.congr fun k f i q => wdS_off (by rintro ⟨rfl, rfl⟩; exact absurd q (by decide)) (by rintro ⟨rfl, rfl⟩; exact absurd q (by decide))
theorem wof_C {B : TT} {nl na ng fu : Nat} {n : ag_N} {s : ag_S} (h : ClS B nl na ng n s) (hw : Wf B nl na ng) (hf : 60 < fu) : ∃ s1, f_X5_withdrawThoseOnFallen fu s = some (cntS (hfS B) ng, s1) ∧ ClS (wdS (hfS B) ng B) nl na ng n s1 ∧ frC s s1 := by
  have hng := hw.hng
  have hna := hw.hna
  unfold f_X5_withdrawThoseOnFallen
  obtain ⟨v, e1, e2, h1, f1⟩ := up_loop (F := fun nf i (v : Int32 × ag_S) => f_X5_withdrawThoseOnFallen_L4 fu nf v.1 i v.2) (N := ng) (I := fun q v => v.1 = cntS (fun g => decide (g < q) && hfS B g) ng ∧ ClS (wdS (fun g => decide (g < q) && hfS B g) ng B) nl na ng n v.2 ∧ frC s v.2) (E := fun v => some (v.1, v.2)) (fun nf q v hq hv => by
    obtain ⟨hn, hc, fv⟩ := hv
    have hsame : hfS B q = false → (v.1 = cntS (fun g => decide (g < q + 1) && hfS B g) ng ∧ ClS (wdS (fun g => decide (g < q + 1) && hfS B g) ng B) nl na ng n v.2 ∧ frC s v.2) := fun e => by
      have ex : ∀ g, g < ng → (decide (g < q + 1) && hfS B g) = (decide (g < q) && hfS B g) := fun g _ => by
        by_cases c : g = q
        · subst c
          rw [e, Bool.and_false, Bool.and_false]
        · rw [show decide (g < q + 1) = decide (g < q) from decide_eq_decide.mpr (by omega)]
      refine ⟨hn.trans (cntS_ext ex).symm, ?_, fv⟩
      rw [wdS_ext ex]
      exact hc
    have hS0 : (fun g => decide (g < q) && hfS B g) q = false := by
      show (decide (q < q) && hfS B q) = false
      rw [decide_eq_false (by omega), Bool.false_and]
    have e46 : wdS (fun g => decide (g < q) && hfS B g) ng B 4 6 q = B 4 6 q := by
      rw [wdS_6 hq]
      refine if_neg ?_
      show ¬ (decide (q < q) && hfS B q) = true
      rw [decide_eq_false (by omega), Bool.false_and]
      decide
    show ∃ s' : Int32 × ag_S, f_X5_withdrawThoseOnFallen_L4 fu (nf + 1) v.1 (nI q) v.2 = f_X5_withdrawThoseOnFallen_L4 fu nf s'.1 (nI (q + 1)) s'.2 ∧ _
    rw [f_X5_withdrawThoseOnFallen_L4, hc.l4.size4, bd_some, if_neg (nI_ge hq (p31 (by omega))), hc.l4.get4 hq, bd_some, hc.g4 hq, e46, nI_1]
    by_cases c0 : B 4 6 q = 0
    · rw [if_pos c0]
      unfold f_X1_hangsOnFallen
      rw [hc.g4 hq, wdS_off (by decide) (by decide)]
      rcases hw.hang q hq with e | ⟨a, ha, e⟩
      · rw [if_pos e, bd_some, if_pos rfl]
        refine ⟨v, rfl, hsame ?_⟩
        unfold hfS
        rw [decide_eq_false (p := ¬ B 4 2 q = -1) (fun r => r e), Bool.false_and, Bool.and_false]
      · rw [e, if_neg (nI_neg1 (by omega)).1, if_neg (nI_neg1 (by omega)).1, hc.g3 ha, wdS_off (by decide) (by decide)]
        by_cases c2 : B 3 5 a = 2
        · rw [if_pos c2, bd_some, if_neg (by decide)]
          obtain ⟨s', e', h', f'⟩ := wd_C (fu := fu) hc hw.wds hq
          rw [e', bd_some]
          have h1 : (fun g => decide (g < q + 1) && hfS B g) q = true := by
            show (decide (q < q + 1) && hfS B q) = true
            unfold hfS
            rw [e, nI_clamp (p31 (by omega)), decide_eq_true (by omega), decide_eq_true c0, decide_eq_true (nI_neg1 (by omega)).1, decide_eq_true c2]
            rfl
          obtain ⟨w1, w2⟩ := wdS_step (B := B) (S := fun g => decide (g < q) && hfS B g) (S' := fun g => decide (g < q + 1) && hfS B g) hq hS0 h1 (fun j _ r => by
            show (decide (j < q + 1) && hfS B j) = (decide (j < q) && hfS B j)
            rw [show decide (j < q + 1) = decide (j < q) from decide_eq_decide.mpr (by omega)])
          refine ⟨(v.1 + 1, s'), rfl, ?_, ?_, fv.trans f'⟩
          · show v.1 + 1 = _
            rw [w2, hn]
          · rw [← w1]
            exact h'
        · rw [if_neg c2, bd_some, if_pos rfl]
          refine ⟨v, rfl, hsame ?_⟩
          unfold hfS
          rw [e, nI_clamp (p31 (by omega)), decide_eq_false c2, Bool.and_false, Bool.and_false]
    · rw [if_neg c0]
      refine ⟨v, rfl, hsame ?_⟩
      unfold hfS
      rw [decide_eq_false c0, Bool.false_and]) (fun nf v hv => by
    show f_X5_withdrawThoseOnFallen_L4 fu (nf + 1) v.1 (nI ng) v.2 = _
    rw [f_X5_withdrawThoseOnFallen_L4, hv.2.1.l4.size4, bd_some, if_pos (nI_le (Nat.le_refl _) (p31 (by omega)))]) ng 0 ((0 : Int32), s) fu (by omega) (by omega) (by
    obtain ⟨z1, z2⟩ := wdS_none (B := B) (S := fun g => decide (g < 0) && hfS B g) (ng := ng) (fun g _ => by
      show (decide (g < 0) && hfS B g) = false
      rw [decide_eq_false (by omega), Bool.false_and])
    refine ⟨z2.symm, ?_, frC.refl s⟩
    rw [z1]
    exact h)
  have ex : ∀ g, g < ng → (decide (g < ng) && hfS B g) = hfS B g := fun g hg => by rw [decide_eq_true hg, Bool.true_and]
  rw [cntS_ext ex] at e2
  rw [wdS_ext ex] at h1
  refine ⟨v.2, ?_, h1, f1⟩
  rw [← e2]
  exact (show nI 0 = 0 from by decide) ▸ e1
