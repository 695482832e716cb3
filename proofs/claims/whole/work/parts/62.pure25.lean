/-! ===== what falls, in the reference ===== -/
/-- live ones that hang on what falls with a -/
def hgS (A : TT) (a g : Nat) : Bool := decide (A 4 6 g = 0) && (decide (¬ A 4 2 g = -1) && flK A a (A 4 2 g).toNatClampNeg)
def hgK (A : TT) (a K g : Nat) : Bool := decide ((A 4 2 g).toNatClampNeg < K) && hgS A a g
def flR (A : TT) (a na K : Nat) : TT := fun k f j => if k = 3 ∧ f = 5 ∧ j < na ∧ flK A a j = true ∧ j < K then 2 else A k f j
theorem flR_off {A : TT} {a na i k f j : Nat} (h : ¬ (k = 3 ∧ f = 5)) : flR A a na i k f j = A k f j := if_neg fun e => h ⟨e.1, e.2.1⟩
theorem flR_end {A : TT} {a na : Nat} : flR A a na na = flE A a na := by
  funext k f j
  unfold flR flE
  by_cases c : k = 3 ∧ f = 5 ∧ j < na ∧ flK A a j = true
  · rw [if_pos c, if_pos ⟨c.1, c.2.1, c.2.2.1, c.2.2.2, c.2.2.1⟩]
  · rw [if_neg c, if_neg (fun e => c ⟨e.1, e.2.1, e.2.2.1, e.2.2.2.1⟩)]
theorem flR_no {A : TT} {a na K : Nat} (h : ¬ flK A a K = true) : flR A a na (K + 1) = flR A a na K := by
  funext k f j
  unfold flR
  by_cases c : k = 3 ∧ f = 5 ∧ j < na ∧ flK A a j = true ∧ j < K
  · rw [if_pos c, if_pos ⟨c.1, c.2.1, c.2.2.1, c.2.2.2.1, by omega⟩]
  · rw [if_neg c, if_neg]
    rintro ⟨h1, h2, h3, h4, h5⟩
    have : ¬ j = K := fun e => h (e ▸ h4)
    exact c ⟨h1, h2, h3, h4, by omega⟩
theorem flR_up {A B : TT} {a na K : Nat} (hK : K < na) (h : flK A a K = true) (hB : ∀ j, B 3 5 j = flR A a na K 3 5 j) : ∀ k f j, tU B 3 5 K 2 k f j = if k = 3 ∧ f = 5 then flR A a na (K + 1) 3 5 j else B k f j := by
  intro k f j
  unfold tU
  by_cases c : k = 3 ∧ f = 5 ∧ j = K
  · obtain ⟨rfl, rfl, rfl⟩ := c
    rw [if_pos ⟨rfl, rfl, rfl⟩, if_pos ⟨rfl, rfl⟩]
    unfold flR
    rw [if_pos ⟨rfl, rfl, hK, h, by omega⟩]
  · rw [if_neg c]
    by_cases d : k = 3 ∧ f = 5
    · obtain ⟨rfl, rfl⟩ := d
      rw [if_pos ⟨rfl, rfl⟩, hB]
      have : ¬ j = K := fun e => c ⟨rfl, rfl, e⟩
      unfold flR
      by_cases e : j < na ∧ flK A a j = true ∧ j < K
      · rw [if_pos ⟨rfl, rfl, e⟩, if_pos ⟨rfl, rfl, e.1, e.2.1, by omega⟩]
      · rw [if_neg (fun q => e q.2.2), if_neg]
        rintro ⟨-, -, h3, h4, h5⟩
        exact e ⟨h3, h4, by omega⟩
    · rw [if_neg d]
theorem wds_flR {A : TT} {S : Nat → Bool} {a na ng K : Nat} (hK : K < na) (h : flK A a K = true) : tU (wdS S ng (flR A a na K)) 3 5 K 2 = wdS S ng (flR A a na (K + 1)) := by
  have o : ∀ k f j, ¬ (k = 3 ∧ f = 5) → flR A a na (K + 1) k f j = flR A a na K k f j := fun k f j q => by rw [flR_off q, flR_off q]
  funext k f j
  rw [flR_up (A := A) (a := a) (na := na) hK h (fun j => wdS_off (by decide) (by decide))]
  by_cases c : k = 3 ∧ f = 5
  · rw [if_pos c, wdS_off (by omega) (by omega), c.1, c.2]
  · rw [if_neg c]
    by_cases d : k = 4 ∧ f = 6 ∧ j < ng ∧ S j = true
    · rw [wdS_y d, wdS_y d]
    · rw [wdS_n d, wdS_n d]
      by_cases e : k = 1 ∧ f = 1
      · rw [if_pos e, if_pos e, o 1 1 j (by decide)]
        refine congrArg _ (isum_congr fun g _ => ?_)
        unfold rcv
        rw [o 4 1 g (by decide), o 4 5 g (by decide)]
      · rw [if_neg e, if_neg e, o k f j c]
theorem hgK_succ {A : TT} {nl na ng a K : Nat} (hw : Wf A nl na ng) (hK : K < na) : ∀ g, g < ng → hgK A a (K + 1) g = (hgK A a K g || (decide (A 4 6 g = 0) && (decide (A 4 2 g = nI K) && flK A a K))) := by
  intro g hg
  have hna := hw.hna
  unfold hgK hgS
  rcases hw.hang g hg with e | ⟨k, hk, e⟩
  · rw [e, decide_eq_false (p := ¬ (-1 : Int32) = -1) (fun q => q rfl), decide_eq_false (p := (-1 : Int32) = nI K) (fun q => (nI_neg1 (by omega)).1 q.symm)]
    simp
  · rw [e, nI_clamp (p31 (by omega)), decide_eq_true (p := ¬ nI k = -1) (nI_neg1 (by omega)).1]
    by_cases c : k = K
    · subst c
      rw [decide_eq_true (p := k < k + 1) (by omega), decide_eq_false (p := k < k) (by omega), decide_eq_true (p := nI k = nI k) rfl]
      simp
    · rw [decide_eq_false (p := nI k = nI K) (fun q => c ((nI_eq (p31 (by omega)) (p31 (by omega))).mp q)), show decide (k < K + 1) = decide (k < K) from decide_eq_decide.mpr (by omega)]
      simp
theorem wds_in {A : TT} {nl na ng a K m : Nat} {S : Nat → Bool} (hw : Wf A nl na ng) : Wf (wdS S m (flR A a na K)) nl na ng := by
  refine Wf.wds (hw.congr fun k f i q => flR_off ?_)
  rintro ⟨rfl, rfl⟩
  exact absurd q (by decide)
/-- all that live hang on nothing or on what is passed -/
abbrev lvA (A : TT) (na ng : Nat) : Prop := ∀ g, g < ng → A 4 6 g = 0 → A 4 2 g = -1 ∨ ∃ a, a < na ∧ A 4 2 g = nI a ∧ A 3 5 a = 1
abbrev hadA (A : TT) (a K : Nat) : Prop := ∃ k, k < K ∧ flK A a k = true ∧ A 3 5 k = 1
/-- the reference's state while it lets fall -/
abbrev flI (A : TT) (a nl na ng : Nat) (s : ag_S) (K : Nat) (v : Int32 × Int32 × ag_S) : Prop := RfS (wdS (hgK A a K) ng (flR A a na K)) nl na ng v.2.2 ∧ frR s v.2.2 ∧ v.2.2 6 0 0 = s 6 0 0 ∧ (v.1 = 0 ↔ ¬ hadA A a K) ∧ v.2.1 = cntS (hgK A a K) ng ∧ ∀ j, a ≤ j → j < K → v.2.2 60 0 (nI j) = if flK A a j = true then 1 else 0
theorem RfS.u60 {A : TT} {nl na ng : Nat} {s : ag_S} {i v : Int32} (h : RfS A nl na ng s) : RfS A nl na ng (ag_up s 60 0 i v) := h.same fun k f j _ _ q _ => ag_up_ne fun e => q e.1
theorem fall_step {A : TT} {nl na ng fu nf a K : Nat} {s : ag_S} {v : Int32 × Int32 × ag_S} (hw : Wf A nl na ng) (hl : lvA A na ng) (ha : a < na) (hf : 60 < fu) (haK : a ≤ K) (hK : K < na) (hv : flI A a nl na ng s K v) : ∃ v' : Int32 × Int32 × ag_S, f_X6_fall_L7 fu (nf + 1) (nI a) v.1 v.2.1 (nI K) v.2.2 = f_X6_fall_L7 fu nf (nI a) v'.1 v'.2.1 (nI (K + 1)) v'.2.2 ∧ flI A a nl na ng s (K + 1) v' := by
  have hna := hw.hna
  have hng := hw.hng
  obtain ⟨had, n0, s0⟩ := v
  obtain ⟨hr, fv, zv, hh, hn, h60⟩ := hv
  dsimp only at *
  have i40 := nI_in (show K < 40 by omega) (p31 (show 40 ≤ 1000 by decide))
  have eon : s0 44 0 (nI K) = A 3 1 K := by rw [hr.r44 K (by omega), wdS_off (by decide) (by decide), flR_off (by decide)]
  -- the flag
  have flag : f_X6_fall_L7 fu (nf + 1) (nI a) had n0 (nI K) s0 = f_X6_fall_b53 fu (f_X6_fall_L7 fu nf) (nI a) had n0 (nI K) (if flK A a K = true then 1 else 0) s0 := by
    rw [f_X6_fall_L7, hr.z13, if_neg (nI_ge hK (p31 (by omega)))]
    unfold f_X6_fall_b48 f_X6_fall_b52
    by_cases c : K = a
    · subst c
      rw [if_pos rfl, if_pos (flK_self hw hK)]
    · rw [if_neg (fun e => c ((nI_eq (p31 (by omega)) (p31 (by omega))).mp e)), if_neg i40, eon]
      rcases hw.tree K hK with e | ⟨p, hp, e⟩
      · rw [e, if_pos (Int32.lt_iff_toInt_lt.mpr (by rw [nI_toInt (p31 (by omega)), show (-1 : Int32).toInt = -1 from by decide]; omega)), if_neg]
        intro q
        rcases (flK_eq hw hK).mp q with r | ⟨p, hp, r, -⟩
        · exact c r
        · exact (nI_neg1 (w := p) (by omega)).1 (r.symm.trans e)
      · have eqv : flK A a K = flK A a p := by
          by_cases q : flK A a p = true
          · rw [q, (flK_eq hw hK).mpr (.inr ⟨p, hp, e, q⟩)]
          · have : ¬ flK A a K = true := fun r => by
              rcases (flK_eq hw hK).mp r with r | ⟨p', hp', r, r2⟩
              · exact c r
              · have := (nI_eq (p31 (by omega)) (p31 (by omega))).mp (e.symm.trans r)
                subst this
                exact q r2
            rw [Bool.not_eq_true] at this q
            rw [this, q]
        rw [e, eqv]
        by_cases d : p < a
        · rw [if_pos (nI_lt d (p31 (by omega))), if_neg (fun q => by have := (flK_ge hw p (by omega) q).1; omega)]
        · rw [if_neg (nI_nlt (by omega) (p31 (by omega))), if_neg i40, if_neg (nI_in (show p < 40 by omega) (p31 (show 40 ≤ 1000 by decide))), h60 p (by omega) (by omega)]
          by_cases q : flK A a p = true
          · rw [if_pos q, if_neg (by decide)]
          · rw [if_neg q, if_pos rfl]
  have had_no : ¬ (flK A a K = true ∧ A 3 5 K = 1) → (hadA A a (K + 1) ↔ hadA A a K) := fun q => by
    unfold hadA
    constructor
    · rintro ⟨k, h1, h2, h3⟩
      have : ¬ k = K := fun e => q (e ▸ ⟨h2, h3⟩)
      exact ⟨k, by omega, h2, h3⟩
    · rintro ⟨k, h1, h2, h3⟩
      exact ⟨k, by omega, h2, h3⟩
  have col60 : ∀ (t : ag_S) (y : Int32), (∀ j, t 60 0 (nI j) = ag_up s0 60 0 (nI K) y 60 0 (nI j)) → y = (if flK A a K = true then 1 else 0) → ∀ j, a ≤ j → j < K + 1 → t 60 0 (nI j) = if flK A a j = true then 1 else 0 := fun t y ht hy j h1 h2 => by
    rw [ht j]
    by_cases c : j = K
    · subst c
      rw [ag_up_eq, hy]
    · rw [ag_up_ne (fun q => c ((nI_eq (p31 (by omega)) (p31 (by omega))).mp q.2.2))]
      exact h60 j h1 (by omega)
  have r60 : ∀ y, RfS (wdS (hgK A a K) ng (flR A a na K)) nl na ng (ag_up s0 60 0 (nI K) y) := fun y => hr.u60
  have ku : ∀ g, g < ng → (decide (A 4 6 g = 0) && (decide (A 4 2 g = nI K) && flK A a K)) = false → hgK A a (K + 1) g = hgK A a K g := fun g hg q => by rw [hgK_succ hw hK g hg, q, Bool.or_false]
  rw [flag]
  unfold f_X6_fall_b53
  rw [if_neg i40]
  by_cases c : flK A a K = true
  · rw [if_pos c, if_neg (by decide)]
    have e47 : ∀ y, ag_up s0 60 0 (nI K) y 47 0 (nI K) = A 3 5 K := fun y => by
      rw [(r60 y).r47 K (by omega), wdS_off (by decide) (by decide)]
      unfold flR
      rw [if_neg (by omega)]
    rw [if_neg i40, e47]
    by_cases c5 : A 3 5 K = 1
    · -- grants are withdrawn
      rw [if_pos c5]
      obtain ⟨w, e1, h1, h2, h3, h4, h5⟩ := up_loop (F := fun nf2 i (w : Int32 × ag_S) => f_X6_fall_L85 fu (f_X6_fall_L7 fu nf) nf2 (nI a) 1 w.1 (nI K) 1 i w.2) (N := ng) (I := fun q w => RfS (wdS (fun g => hgK A a K g || (decide (g < q) && (decide (A 4 6 g = 0) && decide (A 4 2 g = nI K)))) ng (flR A a na K)) nl na ng w.2 ∧ frR s w.2 ∧ w.2 6 0 0 = s 6 0 0 ∧ w.1 = cntS (fun g => hgK A a K g || (decide (g < q) && (decide (A 4 6 g = 0) && decide (A 4 2 g = nI K)))) ng ∧ ∀ j, w.2 60 0 (nI j) = ag_up s0 60 0 (nI K) 1 60 0 (nI j)) (E := fun w => f_X6_fall_L7 fu nf (nI a) 1 w.1 (nI K + 1) (ag_up w.2 47 0 (nI K) 2)) (fun nf2 q w hq hw2 => by
        obtain ⟨k1, k2, k3, k4, k5⟩ := hw2
        have j40 := nI_in (show q < 40 by omega) (p31 (show 40 ≤ 1000 by decide))
        have e55 : w.2 55 0 (nI q) = A 4 2 q := by rw [k1.r55 q (by omega), wdS_off (by decide) (by decide), flR_off (by decide)]
        have hsame : (decide (A 4 6 q = 0) && decide (A 4 2 q = nI K)) = false → ∀ g, g < ng → (hgK A a K g || (decide (g < q + 1) && (decide (A 4 6 g = 0) && decide (A 4 2 g = nI K)))) = (hgK A a K g || (decide (g < q) && (decide (A 4 6 g = 0) && decide (A 4 2 g = nI K)))) := fun e g _ => by
          by_cases d : g = q
          · subst d
            rw [e, Bool.and_false, Bool.and_false]
          · rw [show decide (g < q + 1) = decide (g < q) from decide_eq_decide.mpr (by omega)]
        have stay : (decide (A 4 6 q = 0) && decide (A 4 2 q = nI K)) = false → (RfS (wdS (fun g => hgK A a K g || (decide (g < q + 1) && (decide (A 4 6 g = 0) && decide (A 4 2 g = nI K)))) ng (flR A a na K)) nl na ng w.2 ∧ frR s w.2 ∧ w.2 6 0 0 = s 6 0 0 ∧ w.1 = cntS (fun g => hgK A a K g || (decide (g < q + 1) && (decide (A 4 6 g = 0) && decide (A 4 2 g = nI K)))) ng ∧ ∀ j, w.2 60 0 (nI j) = ag_up s0 60 0 (nI K) 1 60 0 (nI j)) := fun e => by
          rw [wdS_ext (hsame e), cntS_ext (hsame e)]
          exact ⟨k1, k2, k3, k4, k5⟩
        show ∃ w' : Int32 × ag_S, f_X6_fall_L85 fu (f_X6_fall_L7 fu nf) (nf2 + 1) (nI a) 1 w.1 (nI K) 1 (nI q) w.2 = f_X6_fall_L85 fu (f_X6_fall_L7 fu nf) nf2 (nI a) 1 w'.1 (nI K) 1 (nI (q + 1)) w'.2 ∧ _
        rw [f_X6_fall_L85, k1.z20, if_neg (nI_ge hq (p31 (by omega))), if_neg j40, if_neg j40, e55, nI_1]
        by_cases d : A 4 2 q = nI K
        · have e57 : w.2 57 0 (nI q) = A 4 6 q := by
            rw [k1.r57 q (by omega), wdS_6 hq, if_neg, flR_off (by decide)]
            show ¬ (hgK A a K q || (decide (q < q) && (decide (A 4 6 q = 0) && decide (A 4 2 q = nI K)))) = true
            unfold hgK
            rw [d, nI_clamp (p31 (by omega)), decide_eq_false (p := K < K) (by omega), decide_eq_false (p := q < q) (by omega), Bool.false_and, Bool.false_and]
            decide
          rw [if_pos d, e57]
          by_cases d6 : A 4 6 q = 0
          · rw [if_pos d6]
            obtain ⟨s', e', h', f', z', g'⟩ := wd_R (fu := fu) k1 (wds_in hw) hq
            rw [e', bd_some]
            obtain ⟨w1, w2⟩ := wdS_step (B := flR A a na K) (S := fun g => hgK A a K g || (decide (g < q) && (decide (A 4 6 g = 0) && decide (A 4 2 g = nI K)))) (S' := fun g => hgK A a K g || (decide (g < q + 1) && (decide (A 4 6 g = 0) && decide (A 4 2 g = nI K)))) hq (by
              show (hgK A a K q || (decide (q < q) && (decide (A 4 6 q = 0) && decide (A 4 2 q = nI K)))) = false
              unfold hgK
              rw [d, nI_clamp (p31 (by omega)), decide_eq_false (p := K < K) (by omega), decide_eq_false (p := q < q) (by omega), Bool.false_and, Bool.false_and]
              rfl) (by
              show (hgK A a K q || (decide (q < q + 1) && (decide (A 4 6 q = 0) && decide (A 4 2 q = nI K)))) = true
              rw [decide_eq_true (p := q < q + 1) (by omega), decide_eq_true d6, decide_eq_true d, Bool.and_self, Bool.and_self, Bool.or_true]) (fun j _ r => by
              show (hgK A a K j || (decide (j < q + 1) && (decide (A 4 6 j = 0) && decide (A 4 2 j = nI K)))) = (hgK A a K j || (decide (j < q) && (decide (A 4 6 j = 0) && decide (A 4 2 j = nI K))))
              rw [show decide (j < q + 1) = decide (j < q) from decide_eq_decide.mpr (by omega)])
            refine ⟨(w.1 + 1, s'), rfl, ?_, k2.trans f', z'.trans k3, ?_, fun j => (g' (nI j)).trans (k5 j)⟩
            · rw [← w1]
              exact h'
            · show w.1 + 1 = _
              rw [w2, k4]
          · rw [if_neg d6]
            exact ⟨w, rfl, stay (by rw [decide_eq_false d6, Bool.false_and])⟩
        · rw [if_neg d]
          exact ⟨w, rfl, stay (by rw [decide_eq_false d, Bool.and_false])⟩) (fun nf2 w hw2 => by
        show f_X6_fall_L85 fu (f_X6_fall_L7 fu nf) (nf2 + 1) (nI a) 1 w.1 (nI K) 1 (nI ng) w.2 = _
        rw [f_X6_fall_L85, hw2.1.z20, if_pos (nI_le (Nat.le_refl _) (p31 (by omega))), if_neg (by decide), if_neg i40]) ng 0 (n0, ag_up s0 60 0 (nI K) 1) fu (by omega) (by omega) (by
        have ex : ∀ g, g < ng → (hgK A a K g || (decide (g < 0) && (decide (A 4 6 g = 0) && decide (A 4 2 g = nI K)))) = hgK A a K g := fun g _ => by
          rw [decide_eq_false (p := g < 0) (by omega), Bool.false_and, Bool.or_false]
        rw [wdS_ext ex, cntS_ext ex]
        exact ⟨r60 1, fv.up (k := 60) (by decide), (upk (s := s0) (k := 60) (f := 0) (i := nI K) (v := 1) (k' := 6) (by decide)).trans zv, hn, fun _ => rfl⟩)
      have E1 : f_X6_fall_L85 fu (f_X6_fall_L7 fu nf) fu (nI a) 1 n0 (nI K) 1 0 (ag_up s0 60 0 (nI K) 1) = f_X6_fall_L7 fu nf (nI a) 1 w.1 (nI K + 1) (ag_up w.2 47 0 (nI K) 2) := (show nI 0 = 0 from by decide) ▸ e1
      have ex : ∀ g, g < ng → (hgK A a K g || (decide (g < ng) && (decide (A 4 6 g = 0) && decide (A 4 2 g = nI K)))) = hgK A a (K + 1) g := fun g hg => by
        rw [hgK_succ hw hK g hg, decide_eq_true hg, Bool.true_and, c, Bool.and_true]
      rw [wdS_ext ex] at h1
      rw [cntS_ext ex] at h4
      rw [E1, nI_1]
      refine ⟨(1, w.1, ag_up w.2 47 0 (nI K) 2), rfl, ?_, h2.up (k := 47) (by decide), (upk (s := w.2) (k := 47) (f := 0) (i := nI K) (v := 2) (k' := 6) (by decide)).trans h3, ?_, h4, col60 _ 1 (fun j => (upk (s := w.2) (k := 47) (f := 0) (i := nI K) (v := 2) (k' := 60) (by decide)).trans (h5 j)) (if_pos c).symm⟩
      · show RfS _ nl na ng (ag_up w.2 47 0 (nI K) 2)
        rw [← wds_flR hK c]
        exact h1.w47 (by omega)
      · show (1 : Int32) = 0 ↔ _
        refine ⟨fun q => absurd q (by decide), fun q => absurd ⟨K, by omega, c, c5⟩ q⟩
    · rw [if_neg c5, if_neg (by decide), if_neg i40, nI_1]
      have ex : ∀ g, g < ng → hgK A a (K + 1) g = hgK A a K g := fun g hg => ku g hg (by
        by_cases d6 : A 4 6 g = 0
        · have : ¬ A 4 2 g = nI K := fun d => by
            rcases hl g hg d6 with q | ⟨k, hk, q, r⟩
            · exact (nI_neg1 (w := K) (by omega)).1 (d.symm.trans q)
            · have := (nI_eq (p31 (by omega)) (p31 (by omega))).mp (d.symm.trans q)
              subst this
              exact c5 r
          rw [decide_eq_false this, Bool.false_and, Bool.and_false]
        · rw [decide_eq_false d6, Bool.false_and])
      refine ⟨(had, n0, ag_up (ag_up s0 60 0 (nI K) 1) 47 0 (nI K) 2), rfl, ?_, (fv.up (k := 60) (by decide)).up (k := 47) (by decide), ((upk (s := ag_up s0 60 0 (nI K) 1) (k := 47) (f := 0) (i := nI K) (v := 2) (k' := 6) (by decide)).trans (upk (s := s0) (k := 60) (f := 0) (i := nI K) (v := 1) (k' := 6) (by decide))).trans zv, ?_, ?_, col60 _ 1 (fun j => upk (s := ag_up s0 60 0 (nI K) 1) (k := 47) (f := 0) (i := nI K) (v := 2) (k' := 60) (by decide)) (if_pos c).symm⟩
      · show RfS _ nl na ng (ag_up (ag_up s0 60 0 (nI K) 1) 47 0 (nI K) 2)
        rw [wdS_ext ex, ← wds_flR hK c]
        exact (r60 1).w47 (by omega)
      · rw [had_no (fun q => c5 q.2)]
        exact hh
      · rw [cntS_ext ex]
        exact hn
  · rw [if_neg c, if_pos rfl, if_pos rfl, if_neg i40, if_neg i40, nI_1]
    have ex : ∀ g, g < ng → hgK A a (K + 1) g = hgK A a K g := fun g hg => ku g hg (by
      rw [Bool.not_eq_true] at c
      rw [c, Bool.and_false, Bool.and_false])
    refine ⟨(had, n0, ag_up (ag_up s0 60 0 (nI K) 0) 47 0 (nI K) (ag_up s0 60 0 (nI K) 0 47 0 (nI K))), rfl, ?_, (fv.up (k := 60) (by decide)).up (k := 47) (by decide), ((upk (s := ag_up s0 60 0 (nI K) 0) (k := 47) (f := 0) (i := nI K) (v := ag_up s0 60 0 (nI K) 0 47 0 (nI K)) (k' := 6) (by decide)).trans (upk (s := s0) (k := 60) (f := 0) (i := nI K) (v := 0) (k' := 6) (by decide))).trans zv, ?_, ?_, col60 _ 0 (fun j => upk (s := ag_up s0 60 0 (nI K) 0) (k := 47) (f := 0) (i := nI K) (v := ag_up s0 60 0 (nI K) 0 47 0 (nI K)) (k' := 60) (by decide)) (if_neg c).symm⟩
    · show RfS _ nl na ng (ag_up (ag_up s0 60 0 (nI K) 0) 47 0 (nI K) (ag_up s0 60 0 (nI K) 0 47 0 (nI K)))
      rw [wdS_ext ex, flR_no c]
      have := (r60 0).w47 (i := K) (v := ag_up s0 60 0 (nI K) 0 47 0 (nI K)) (by omega)
      rw [(r60 0).r47 K (by omega), tU_self] at this
      rw [(r60 0).r47 K (by omega)]
      exact this
    · rw [had_no (fun q => c q.1)]
      exact hh
    · rw [cntS_ext ex]
      exact hn
