/-! ===== withdrawing, cutting, covering ===== -/
def rcv (A : TT) (g : Nat) : Nat := (A 4 1 g).toNatClampNeg
def wdA (A : TT) (g : Nat) : TT := tU (tU A 4 6 g 2) 1 1 (rcv A g) (A 1 1 (rcv A g) + A 4 5 g)
theorem rcv_lt {A : TT} {nl na ng g : Nat} (hw : Wf A nl na ng) (hg : g < ng) : rcv A g < 8 ∧ A 4 1 g = nI (rcv A g) := by
  obtain ⟨r, hr, e⟩ := hw.rc g hg
  have : rcv A g = r := by
    unfold rcv
    rw [e, nI_clamp (p31 (by omega))]
  rw [this]
  exact ⟨hr, e⟩
theorem wd_C {A : TT} {nl na ng fu g : Nat} {n : ag_N} {s : ag_S} (h : ClS A nl na ng n s) (hw : Wf A nl na ng) (hg : g < ng) : ∃ s1, f_X1_withdraw fu (nI g) s = some s1 ∧ ClS (wdA A g) nl na ng n s1 ∧ frC s s1 := by
  have hng := hw.hng
  obtain ⟨r8, er⟩ := rcv_lt hw hg
  simp only [f_X1_withdraw, upf (show ¬ 1 = 6 by decide), upf (show ¬ 5 = 6 by decide), upk (show ¬ 1 = 4 by decide), h.q4 hg 1 (by decide), h.q4 hg 5 (by decide), er, neN (show rcv A g ≤ 1000 by omega), h.q1 r8 1 (by decide), if_false]
  exact ⟨_, rfl, (h.w (by decide) (by omega)).w (by decide) (by omega), ((frC.refl s).up (by decide)).up (by decide)⟩
theorem wd_R {A : TT} {nl na ng fu g : Nat} {s : ag_S} (h : RfS A nl na ng s) (hw : Wf A nl na ng) (hg : g < ng) : ∃ s1, f_X6_withdraw fu (nI g) s = some s1 ∧ RfS (wdA A g) nl na ng s1 ∧ frR s s1 ∧ s1 6 0 0 = s 6 0 0 ∧ ∀ i, s1 60 0 i = s 60 0 i := by
  have hng := hw.hng
  obtain ⟨r8, er⟩ := rcv_lt hw hg
  simp only [f_X6_withdraw, inn (show g < 40 by omega) (by omega), if_false, upk (show ¬ 52 = 57 by decide), upk (show ¬ 36 = 57 by decide), upk (show ¬ 54 = 57 by decide), h.r52 g (by omega), h.r54 g (by omega), er, inn r8 (by omega), h.r36 _ (show rcv A g < 400 by omega)]
  refine ⟨_, rfl, (h.w57 (by omega)).w36 (by omega), ((frR.refl s).up (by decide)).up (by decide), ?_, fun i => ?_⟩
  · rw [upk (by decide), upk (by decide)]
  · rw [upk (by decide), upk (by decide)]
theorem zsum_le {g h : Nat → Int} : ∀ {n : Nat}, (∀ q, q < n → g q ≤ h q) → zsum g n ≤ zsum h n
  | 0, _ => Int.le_refl _
  | n + 1, e => by
    have h1 := zsum_le (n := n) (fun q hq => e q (by omega))
    have h2 := e n (by omega)
    rw [zsum, zsum]
    omega
theorem free_mono {A A' : TT} {nl na ng t t' l : Nat} (w1 : Wf A nl na ng) (w2 : Br A nl na) (w6 : Nm A nl na ng t) (v1 : Wf A' nl na ng) (v2 : Br A' nl na) (v6 : Nm A' nl na ng t') (hl : l < nl) (hb : baseA A' l = baseA A l) (hr : isum (rootA A' l) na = isum (rootA A l) na) (hs : A' 2 4 l = A 2 4 l) (hz : ∀ g, g < ng → (bindA A' l g).toInt ≤ (bindA A l g).toInt) : (freeA A na ng l).toInt ≤ (freeA A' na ng l).toInt := by
  obtain ⟨f1, f2, f3, -⟩ := free_Z w1 w2 w6 hl
  obtain ⟨f1', f2', f3', -⟩ := free_Z v1 v2 v6 hl
  have := zsum_le hz
  rw [hb, hr] at f1'
  rw [hs] at f2'
  omega
theorem Wf.wd {A : TT} {nl na ng g : Nat} (h : Wf A nl na ng) : Wf (wdA A g) nl na ng := h.congr ((agr.rfl.u (by decide)).u (by decide))
theorem wd_In {A : TT} {nl na ng t g : Nat} (hI : In A nl na ng t) (hg : g < ng) (h0 : A 4 6 g = 0) : In (wdA A g) nl na ng t := by
  have ev : ∀ {P : Nat → Nat → Prop}, ¬ P 4 6 → ¬ P 1 1 → agr P A (wdA A g) := fun p q => (agr.rfl.u p).u q
  obtain ⟨w1, w2, w3, w4, w5, w6, w7⟩ := hI
  have r8 := (rcv_lt w1 hg).1
  have a46 : ∀ j, wdA A g 4 6 j = if j = g then 2 else A 4 6 j := fun j => by simp [wdA, tU]
  have a3 : ∀ f j, wdA A g 3 f j = A 3 f j := fun f j => by simp [wdA, tU]
  have a2 : ∀ f j, wdA A g 2 f j = A 2 f j := fun f j => by simp [wdA, tU]
  have a42 : ∀ j, wdA A g 4 2 j = A 4 2 j := fun j => by simp [wdA, tU]
  have a40 : ∀ j, wdA A g 4 0 j = A 4 0 j := fun j => by simp [wdA, tU]
  have a44 : ∀ j, wdA A g 4 4 j = A 4 4 j := fun j => by simp [wdA, tU]
  have a45 : ∀ j, wdA A g 4 5 j = A 4 5 j := fun j => by simp [wdA, tU]
  have v1 := w1.wd (g := g)
  have v2 : Br (wdA A g) nl na := w2.congr (ev (by decide) (by decide))
  have v6 : Nm (wdA A g) nl na ng t := w6.congr (ev (by decide) (by decide))
  have hw : ∀ a, wonA (wdA A g) a ↔ wonA A a := fun a => wonA_congr (a3 _ _) (a3 _ _) (a3 _ _)
  refine ⟨v1, v2, (w3.u (by omega)).u (by omega), w4.congr (ev (by decide) (by decide)), ⟨fun a ha => ?_, fun a ha => ?_, fun a ha => ?_, fun a p ha => ?_, fun a p ha => ?_, fun j hj => ?_⟩, v6, fun l hl => ?_⟩
  · rw [a3, a3]; exact w5.st a ha
  · rw [a3, a3, hw]; exact w5.d1 a ha
  · simp only [a3, hw]; exact w5.d2 a ha
  · simp only [a3]; exact w5.d3 a p ha
  · simp only [a3]; exact w5.d4 a p ha
  · simp only [a3, a42]
    rw [a46]
    by_cases e : j = g
    · rw [if_pos e]
      exact fun q => absurd q (by decide)
    · rw [if_neg e]; exact w5.live j hj
  · refine Int.le_trans (w7 l hl) (free_mono w1 w2 w6 v1 v2 v6 hl (base_congr (a2 _ _) (a2 _ _) (a2 _ _)) (isum_congr fun a _ => by simp only [rootA, a3]) (a2 _ _) fun j hj => ?_)
    unfold bindA
    rw [a40, a44, a45, a46]
    have hgr := w6.gr j hj
    by_cases e : j = g
    · subst e
      rw [if_pos rfl, h0]
      by_cases c : A 4 0 j = nI l
      · rw [if_pos c, if_pos c, if_pos rfl, if_neg (by decide)]
        omega
      · rw [if_neg c, if_neg c]
        exact Int.le_refl _
    · rw [if_neg e]
      exact Int.le_refl _
def cutA (A : TT) (g : Nat) : TT := tU (tU A 4 6 g 1) 4 4 g (A 4 5 g)
def lookS (na ng l : Nat) : Nat → TT → Int32 → TT × Int32
  | 0, A, c => (A, c)
  | q + 1, A, c => if A 4 0 q = nI l ∧ A 4 6 q = 0 ∧ freeA A na ng l < 0 then lookS na ng l q (cutA A q) (c + 1) else lookS na ng l q A c
theorem lookS_stop {A : TT} {na ng l : Nat} {c : Int32} (h : 0 ≤ freeA A na ng l) : ∀ q, lookS na ng l q A c = (A, c)
  | 0 => rfl
  | q + 1 => by
    rw [lookS, if_neg (fun e => i32_lt.mpr h e.2.2), lookS_stop h q]
def covA (A : TT) (na ng l : Nat) : TT := if -(freeA A na ng l) ≤ 0 then A else tU (tU A 2 6 l (A 2 6 l + -(freeA A na ng l))) 5 5 0 (A 5 5 0 - -(freeA A na ng l))
theorem Wf.cut {A : TT} {nl na ng g : Nat} (h : Wf A nl na ng) : Wf (cutA A g) nl na ng := h.congr ((agr.rfl.u (by decide)).u (by decide))
theorem Br.cut {A : TT} {nl na g : Nat} (h : Br A nl na) : Br (cutA A g) nl na := h.congr ((agr.rfl.u (by decide)).u (by decide))
theorem cov_C {A : TT} {nl na ng fu l : Nat} {c : Int32} {n : ag_N} {s : ag_S} (h : ClS A nl na ng n s) (hb : Br A nl na) (hf : 60 < fu) (hnl : nl ≤ 10) (hl : l < nl) : ∃ s1, f_X5_balance_b68 fu (nI l) c s = some (c, s1) ∧ ClS (covA A na ng l) nl na ng n s1 ∧ frC s s1 := by
  unfold f_X5_balance_b68 covA
  rw [free_C h hb hf hl, bd_some]
  by_cases q : -(freeA A na ng l) ≤ 0
  · rw [if_pos q, if_pos q]
    exact ⟨s, rfl, h, frC.refl s⟩
  · rw [if_neg q, if_neg q, h.g2 hl, upk (show ¬ 5 = 2 by decide), h.c5 5 (by decide)]
    exact ⟨_, rfl, (h.w (by decide) (by omega)).w5, ((frC.refl s).up (by decide)).up (by decide)⟩
theorem balance_L {nl na ng fu l : Nat} {n : ag_N} (hf : 60 < fu) (hl : l < nl) : ∀ q, q ≤ ng → ∀ (nf : Nat) (A : TT) (c : Int32) (s : ag_S), q < nf → ClS A nl na ng n s → Wf A nl na ng → Br A nl na → ∃ s1, f_X5_balance_L12 fu nf (nI l) c (nI q - 1) s = some ((lookS na ng l q A c).2, s1) ∧ ClS (covA (lookS na ng l q A c).1 na ng l) nl na ng n s1 ∧ frC s s1 := by
  intro q
  induction q with
  | zero =>
    intro _ nf A c s hn h hw hb
    obtain ⟨nf, rfl⟩ : ∃ k, nf = k + 1 := ⟨nf - 1, by omega⟩
    rw [f_X5_balance_L12, if_pos (by decide)]
    exact cov_C h hb hf hw.hnl hl
  | succ q ih =>
    intro hq nf A c s hn h hw hb
    obtain ⟨nf, rfl⟩ : ∃ k, nf = k + 1 := ⟨nf - 1, by omega⟩
    have hng := hw.hng
    have b4 := h.l4.le
    have hm : ∀ x : Int32, x + (-1) = x - 1 := fun x => (Int32.sub_eq_add_neg x 1).symm
    rw [nI_pred, f_X5_balance_L12, if_neg (nI_pos (p31 (by omega))), free_C h hb hf hl, bd_some, hm]
    by_cases c0 : 0 ≤ freeA A na ng l
    · rw [if_pos c0, lookS_stop c0]
      exact cov_C h hb hf hw.hnl hl
    · rw [if_neg c0, h.l4.get4 (show q < ng by omega), bd_some, h.g4 (show q < ng by omega), h.g4 (show q < ng by omega), lookS]
      by_cases c1 : A 4 0 q = nI l
      · rw [if_pos c1]
        by_cases c2 : A 4 6 q = 0
        · rw [if_pos c2, if_pos ⟨c1, c2, i32_le.mp c0⟩]
          unfold f_X1_cut
          rw [upf (show ¬ 5 = 6 by decide), h.g4 (show q < ng by omega), bd_some]
          obtain ⟨s1, e1, h1, f1⟩ := ih (by omega) nf (cutA A q) (c + 1) _ (by omega) ((h.w (k := 4) (f := 6) (i := q) (v := 1) (by decide) (by omega)).w (k := 4) (f := 4) (i := q) (v := A 4 5 q) (by decide) (by omega)) hw.cut hb.cut
          exact ⟨s1, e1, h1, (((frC.refl s).up (by decide)).up (by decide)).trans f1⟩
        · rw [if_neg c2, if_neg (fun e => c2 e.2.1)]
          exact ih (by omega) nf A c s (by omega) h hw hb
      · rw [if_neg c1, if_neg (fun e => c1 e.1)]
        exact ih (by omega) nf A c s (by omega) h hw hb
theorem balance_C {A : TT} {nl na ng fu l : Nat} {n : ag_N} {s : ag_S} (h : ClS A nl na ng n s) (hw : Wf A nl na ng) (hb : Br A nl na) (hf : 60 < fu) (hl : l < nl) : ∃ s1, f_X5_balance fu (nI l) s = some ((lookS na ng l ng A 0).2, s1) ∧ ClS (covA (lookS na ng l ng A 0).1 na ng l) nl na ng n s1 ∧ frC s s1 := by
  have hng := hw.hng
  unfold f_X5_balance
  rw [h.l4.size4, bd_some]
  exact balance_L hf hl ng (Nat.le_refl _) fu A 0 s (by omega) h hw hb
theorem look_L {nl na ng fu l : Nat} (hf : 60 < fu) (hl : l < nl) : ∀ q, q ≤ ng → ∀ (nf : Nat) (A : TT) (c : Int32) (s : ag_S), q < nf → RfS A nl na ng s → Wf A nl na ng → Br A nl na → ∃ s1, f_X6_look_L9 fu nf (nI l) c (nI q - 1) s = some ((lookS na ng l q A c).2, s1) ∧ RfS (covA (lookS na ng l q A c).1 na ng l) nl na ng s1 ∧ frR s s1 ∧ s1 6 0 0 = s 6 0 0 := by
  intro q
  induction q with
  | zero =>
    intro _ nf A c s hn h hw hb
    have hnl := hw.hnl
    obtain ⟨nf, rfl⟩ : ∃ k, nf = k + 1 := ⟨nf - 1, by omega⟩
    obtain ⟨sa, ea, fa⟩ := free_R (fu := fu) h hw hb (by omega) (show l < 10 by omega)
    have ra := h.u59 fa
    have i10 := nI_in (show l < 10 by omega) (p31 (show 10 ≤ 1000 by decide))
    rw [f_X6_look_L9, if_pos (by decide), ea, bd_some, lookS]
    dsimp only
    unfold covA
    by_cases q : -(freeA A na ng l) ≤ 0
    · rw [if_pos q, if_pos q]
      exact ⟨sa, rfl, ra, fr59 fa, fa _ _ _ (by decide)⟩
    · rw [if_neg q, if_neg q, if_neg i10, if_neg i10, ra.r41 l (by omega), upk (show ¬ 6 = 41 by decide), ra.z2]
      refine ⟨_, rfl, (ra.w41 (by omega)).w6_2, ((fr59 fa).up (by decide)).up (by decide), ?_⟩
      rw [upf (by decide), upk (by decide), fa _ _ _ (by decide)]
  | succ q ih =>
    intro hq nf A c s hn h hw hb
    obtain ⟨nf, rfl⟩ : ∃ k, nf = k + 1 := ⟨nf - 1, by omega⟩
    have hng := hw.hng
    have hnl := hw.hnl
    have i40 := nI_in (show q < 40 by omega) (p31 (show 40 ≤ 1000 by decide))
    have hm : ∀ x : Int32, x + (-1) = x - 1 := fun x => (Int32.sub_eq_add_neg x 1).symm
    rw [nI_pred, f_X6_look_L9, if_neg (nI_pos (p31 (by omega))), if_neg i40, h.r51 q (by omega), hm, lookS]
    by_cases c1 : A 4 0 q = nI l
    · rw [if_pos c1, if_neg i40, h.r57 q (by omega)]
      by_cases c2 : A 4 6 q = 0
      · obtain ⟨sa, ea, fa⟩ := free_R (fu := fu) h hw hb (by omega) (show l < 10 by omega)
        have ra := h.u59 fa
        rw [if_pos c2, ea, bd_some]
        dsimp only
        by_cases c0 : 0 ≤ freeA A na ng l
        · rw [if_pos c0, if_neg (fun e => i32_lt.mpr c0 e.2.2)]
          obtain ⟨s1, e1, h1, f1, z1⟩ := ih (by omega) nf A c sa (by omega) ra hw hb
          exact ⟨s1, e1, h1, (fr59 fa).trans f1, z1.trans (fa _ _ _ (by decide))⟩
        · rw [if_neg c0, if_neg i40, if_neg i40, if_neg i40, if_pos ⟨c1, c2, i32_le.mp c0⟩, upk (show ¬ 54 = 57 by decide), ra.r54 q (by omega)]
          obtain ⟨s1, e1, h1, f1, z1⟩ := ih (by omega) nf (cutA A q) (c + 1) _ (by omega) ((ra.w57 (i := q) (v := 1) (by omega)).w53 (i := q) (v := A 4 5 q) (by omega)) hw.cut hb.cut
          refine ⟨s1, e1, h1, (((fr59 fa).up (by decide)).up (by decide)).trans f1, z1.trans ?_⟩
          rw [upk (by decide), upk (by decide), fa _ _ _ (by decide)]
      · rw [if_neg c2, if_neg (fun e => c2 e.2.1)]
        exact ih (by omega) nf A c s (by omega) h hw hb
    · rw [if_neg c1, if_neg (fun e => c1 e.1)]
      exact ih (by omega) nf A c s (by omega) h hw hb
theorem look_R {A : TT} {nl na ng fu l : Nat} {s : ag_S} (h : RfS A nl na ng s) (hw : Wf A nl na ng) (hb : Br A nl na) (hf : 60 < fu) (hl : l < nl) : ∃ s1, f_X6_look fu (nI l) s = some ((lookS na ng l ng A 0).2, s1) ∧ RfS (covA (lookS na ng l ng A 0).1 na ng l) nl na ng s1 ∧ frR s s1 ∧ s1 6 0 0 = s 6 0 0 := by
  have hng := hw.hng
  unfold f_X6_look
  rw [h.z20]
  exact look_L hf hl ng (Nat.le_refl _) fu A 0 s (by omega) h hw hb
/-- all but that the line l is free of nothing below 0 -/
abbrev InX (A : TT) (nl na ng t l : Nat) : Prop := Wf A nl na ng ∧ Br A nl na ∧ Zs A nl na ng ∧ Vt A na ∧ Dc A na ng ∧ Nm A nl na ng t ∧ ∀ l', l' < nl → l' ≠ l → 0 ≤ (freeA A na ng l').toInt
theorem InX.cut {A : TT} {nl na ng t l g : Nat} (hI : InX A nl na ng t l) (hg : g < ng) (h0 : A 4 6 g = 0) : InX (cutA A g) nl na ng t l := by
  have ev : ∀ {P : Nat → Nat → Prop}, ¬ P 4 6 → ¬ P 4 4 → agr P A (cutA A g) := fun p q => (agr.rfl.u p).u q
  obtain ⟨w1, w2, w3, w4, w5, w6, w7⟩ := hI
  have hgr := w6.gr g hg
  have a46 : ∀ j, cutA A g 4 6 j = if j = g then 1 else A 4 6 j := fun j => by simp [cutA, tU]
  have a44 : ∀ j, cutA A g 4 4 j = if j = g then A 4 5 g else A 4 4 j := fun j => by simp [cutA, tU]
  have a0 : ∀ f j, cutA A g 0 f j = A 0 f j := fun f j => by simp [cutA, tU]
  have a5 : ∀ f j, cutA A g 5 f j = A 5 f j := fun f j => by simp [cutA, tU]
  have a3 : ∀ f j, cutA A g 3 f j = A 3 f j := fun f j => by simp [cutA, tU]
  have a2 : ∀ f j, cutA A g 2 f j = A 2 f j := fun f j => by simp [cutA, tU]
  have a42 : ∀ j, cutA A g 4 2 j = A 4 2 j := fun j => by simp [cutA, tU]
  have a40 : ∀ j, cutA A g 4 0 j = A 4 0 j := fun j => by simp [cutA, tU]
  have a45 : ∀ j, cutA A g 4 5 j = A 4 5 j := fun j => by simp [cutA, tU]
  have b : ∀ l', baseA (cutA A g) l' = baseA A l' := fun l' => base_congr (a2 _ _) (a2 _ _) (a2 _ _)
  have v1 := w1.cut (g := g)
  have v2 := w2.cut (g := g)
  have v6 : Nm (cutA A g) nl na ng t := by
    obtain ⟨m1, m2, m3, m4, m5, m6, m7, m8⟩ := w6
    refine ⟨m1, fun j hj => ?_, fun j hj => ?_, fun j hj => ?_, fun a ha => ?_, fun l hl => ?_, ?_, ?_⟩
    · rw [a0, a0]; exact m2 j hj
    · rw [a2]; exact m3 j hj
    · rw [a45, a44]
      by_cases e : j = g
      · subst e; rw [if_pos rfl]; omega
      · rw [if_neg e]; exact m4 j hj
    · rw [a3]; exact m5 a ha
    · rw [b]; exact m6 l hl
    · simp only [b, a5]; exact m7
    · rw [a5]; exact m8
  have hw : ∀ a, wonA (cutA A g) a ↔ wonA A a := fun a => wonA_congr (a3 _ _) (a3 _ _) (a3 _ _)
  refine ⟨v1, v2, (w3.u (by omega)).u (by omega), w4.congr (ev (by decide) (by decide)), ⟨fun a ha => ?_, fun a ha => ?_, fun a ha => ?_, fun a p ha => ?_, fun a p ha => ?_, fun j hj => ?_⟩, v6, fun l' hl' q => ?_⟩
  · rw [a3, a3]; exact w5.st a ha
  · rw [a3, a3, hw]; exact w5.d1 a ha
  · simp only [a3, hw]; exact w5.d2 a ha
  · simp only [a3]; exact w5.d3 a p ha
  · simp only [a3]; exact w5.d4 a p ha
  · simp only [a3, a42]
    rw [a46]
    by_cases e : j = g
    · rw [if_pos e]
      exact fun q => absurd q (by decide)
    · rw [if_neg e]; exact w5.live j hj
  · refine Int.le_trans (w7 l' hl' q) (free_mono w1 w2 w6 v1 v2 v6 hl' (b l') (isum_congr fun a _ => by simp only [rootA, a3]) (a2 _ _) fun j hj => ?_)
    unfold bindA
    rw [a40, a44, a45, a46]
    by_cases e : j = g
    · subst e
      rw [if_pos rfl, if_pos rfl, h0]
      by_cases c : A 4 0 j = nI l'
      · rw [if_pos c, if_pos c, if_neg (by decide), if_neg (by decide)]
        omega
      · rw [if_neg c, if_neg c]
        exact Int.le_refl _
    · rw [if_neg e, if_neg e]
      exact Int.le_refl _
theorem InX.look {nl na ng t l : Nat} : ∀ (q : Nat) (A : TT) (c : Int32), q ≤ ng → InX A nl na ng t l → InX (lookS na ng l q A c).1 nl na ng t l := by
  intro q
  induction q with
  | zero => intro A c _ h; exact h
  | succ q ih =>
    intro A c hq h
    rw [lookS]
    by_cases e : A 4 0 q = nI l ∧ A 4 6 q = 0 ∧ freeA A na ng l < 0
    · rw [if_pos e]
      exact ih _ _ (by omega) (h.cut (by omega) e.2.1)
    · rw [if_neg e]
      exact ih _ _ (by omega) h
theorem neg_toInt32 {a : Int32} (h : -2147483648 < a.toInt) : (-a).toInt = -a.toInt := by
  have h2 := a.toInt_lt
  have : -a = 0 - a := by
    rw [Int32.sub_eq_add_neg, Int32.zero_add]
  rw [this, sub_toInt (by rw [show (0 : Int32).toInt = 0 from by decide]; omega) (by rw [show (0 : Int32).toInt = 0 from by decide]; omega), show (0 : Int32).toInt = 0 from by decide]
  omega
theorem InX.cov {A : TT} {nl na ng t l : Nat} (hI : InX A nl na ng t l) (hl : l < nl) : In (covA A na ng l) nl na ng t := by
  obtain ⟨w1, w2, w3, w4, w5, w6, w7⟩ := hI
  have hnl := w1.hnl
  obtain ⟨f1, f2, f3, f4, f5, f6, f7⟩ := free_Z w1 w2 w6 hl
  have hn : (-(freeA A na ng l)).toInt = -(freeA A na ng l).toInt := neg_toInt32 (by omega)
  unfold covA
  by_cases q : -(freeA A na ng l) ≤ 0
  · rw [if_pos q]
    refine ⟨w1, w2, w3, w4, w5, w6, fun l' hl' => ?_⟩
    by_cases e : l' = l
    · subst e
      rw [Int32.le_iff_toInt_le, hn, show (0 : Int32).toInt = 0 from by decide] at q
      omega
    · exact w7 l' hl' e
  · rw [if_neg q]
    rw [Int32.le_iff_toInt_le, hn, show (0 : Int32).toInt = 0 from by decide] at q
    obtain ⟨F, hF⟩ : ∃ F, F = freeA A na ng l := ⟨_, rfl⟩
    rw [← hF] at hn q f3 ⊢
    obtain ⟨B, hB⟩ : ∃ B, B = tU (tU A 2 6 l (A 2 6 l + -F)) 5 5 0 (A 5 5 0 - -F) := ⟨_, rfl⟩
    rw [← hB]
    have ev : ∀ {P : Nat → Nat → Prop}, ¬ P 2 6 → ¬ P 5 5 → agr P A B := fun a b => hB ▸ (agr.rfl.u a).u b
    have a26 : ∀ j, B 2 6 j = if j = l then A 2 6 l + -F else A 2 6 j := fun j => by simp [hB, tU]
    have a2 : ∀ f j, ¬ f = 6 → B 2 f j = A 2 f j := fun f j q => by simp [hB, tU, q]
    have a55 : B 5 5 0 = A 5 5 0 - -F := by simp [hB, tU]
    have a56 : B 5 6 0 = A 5 6 0 := by simp [hB, tU]
    have a0 : ∀ f j, B 0 f j = A 0 f j := fun f j => by simp [hB, tU]
    have a3 : ∀ f j, B 3 f j = A 3 f j := fun f j => by simp [hB, tU]
    have a4 : ∀ f j, B 4 f j = A 4 f j := fun f j => by simp [hB, tU]
    have bo : ∀ l', l' ≠ l → baseA B l' = baseA A l' := fun l' e => base_congr (a2 _ _ (by decide)) (a2 _ _ (by decide)) (by rw [a26, if_neg e])
    have bl : baseA B l = baseA A l + -F := by
      unfold baseA
      rw [a26, if_pos rfl, a2 _ _ (by decide), a2 _ _ (by decide), Int32.add_assoc]
    have hbs := w6.base l hl
    have hrt := root_bd w1 w2 w6 l
    have hbl : (baseA B l).toInt = (baseA A l).toInt - F.toInt := by
      rw [bl, add_toInt (by omega) (by omega), hn]
      omega
    have v1 : Wf B nl na ng := w1.congr (ev (by decide) (by decide))
    have v2 : Br B nl na := w2.congr (ev (by decide) (by decide))
    have hres := w6.resB hnl
    have v6 : Nm B nl na ng t := by
      obtain ⟨m1, m2, m3, m4, m5, m6, ⟨R, r1, r2, r3⟩, m8⟩ := w6
      refine ⟨m1, fun j hj => ?_, fun j hj => ?_, fun j hj => ?_, fun a ha => ?_, fun l' hl' => ?_, ⟨R, r1, r2, ?_⟩, ?_⟩
      · rw [a0, a0]; exact m2 j hj
      · rw [a2 _ _ (by decide)]; exact m3 j hj
      · rw [a4, a4]; exact m4 j hj
      · rw [a3]; exact m5 a ha
      · by_cases e : l' = l
        · subst e
          rw [hbl]
          omega
        · rw [bo l' e]; exact m6 l' hl'
      · have hz := zsum_upd (g := fun j => (baseA A j).toInt) (h := fun j => (baseA B j).toInt) (i := l) (fun j q => by rw [bo j q]) hl
        rw [hz, a55, sub_toInt (by rw [hn]; omega) (by rw [hn]; omega), hn, r3, hbl]
        omega
      · rw [a56]; exact m8
    refine ⟨v1, v2, hB ▸ (w3.u (by omega)).u (by omega), w4.congr (ev (by decide) (by decide)), w5.congr (ev (by decide) (by decide)), v6, fun l' hl' => ?_⟩
    by_cases e : l' = l
    · subst e
      obtain ⟨g1, g2, g3, -⟩ := free_Z v1 v2 v6 hl
      have hroot : isum (rootA B l') na = isum (rootA A l') na := isum_congr fun a _ => by simp only [rootA, a3]
      have hbz : zsum (fun j => (bindA B l' j).toInt) ng = zsum (fun j => (bindA A l' j).toInt) ng := zsum_congr fun j _ => by simp only [bindA, a4]
      rw [hroot, hbl] at g1
      rw [hbz, a2 _ _ (by decide)] at g2
      omega
    · rw [freeA_of (A := A) (bo l' e) (fun a _ => by simp only [rootA, a3]) (a2 _ _ (by decide)) (fun j _ => by simp only [bindA, a4])]
      exact w7 l' hl' e
