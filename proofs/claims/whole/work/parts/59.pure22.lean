/-! ===== filling the reserve ===== -/
def takA (A : TT) (na ng l : Nat) (goal : Int32) : Int32 := if goal - A 5 5 0 < freeA A na ng l / 10 then goal - A 5 5 0 else freeA A na ng l / 10
def stepF (na ng : Nat) (goal : Int32) (A : TT) (l : Nat) : TT := if goal ≤ A 5 5 0 then A else if freeA A na ng l ≤ 0 then A else tU (tU A 2 5 l (A 2 5 l + takA A na ng l goal)) 5 5 0 (A 5 5 0 + takA A na ng l goal)
def fillS (na ng : Nat) (goal : Int32) : Nat → Nat → TT → TT
  | 0, _, A => A
  | d + 1, q, A => fillS na ng goal d (q + 1) (stepF na ng goal A q)
theorem fillS_stop {na ng : Nat} {goal : Int32} {A : TT} (h : goal ≤ A 5 5 0) : ∀ d q, fillS na ng goal d q A = A
  | 0, _ => rfl
  | d + 1, q => by
    have : stepF na ng goal A q = A := if_pos h
    rw [fillS, this, fillS_stop h d (q + 1)]
theorem div10 {a : Int32} (h : 0 ≤ a.toInt) : (a / 10).toInt = a.toInt / 10 := by
  have h2 := a.toInt_lt
  rw [Int32.toInt_div, show (10 : Int32).toInt = 10 from by decide, Int.tdiv_eq_ediv_of_nonneg h]
  exact Int.bmod_eq_of_le (by omega) (by omega)
theorem stepF_In {A : TT} {nl na ng t l : Nat} {goal : Int32} (hI : In A nl na ng t) (hl : l < nl) (hg : 0 ≤ goal.toInt ∧ goal.toInt ≤ 400000000) : In (stepF na ng goal A l) nl na ng t := by
  unfold stepF
  by_cases c1 : goal ≤ A 5 5 0
  · rw [if_pos c1]; exact hI
  rw [if_neg c1]
  by_cases c2 : freeA A na ng l ≤ 0
  · rw [if_pos c2]; exact hI
  rw [if_neg c2]
  obtain ⟨w1, w2, w3, w4, w5, w6, w7⟩ := hI
  have hnl := w1.hnl
  have hfr := w7 l hl
  obtain ⟨f1, f2, f3, f4, f5, f6, f7⟩ := free_Z w1 w2 w6 hl
  have hres := w6.resB hnl
  have hd := div10 hfr
  rw [Int32.le_iff_toInt_le] at c1
  have hsub : (goal - A 5 5 0).toInt = goal.toInt - (A 5 5 0).toInt := sub_toInt (by omega) (by omega)
  obtain ⟨x, hx⟩ : ∃ x, x = takA A na ng l goal := ⟨_, rfl⟩
  rw [← hx]
  have x0 : 0 ≤ x.toInt ∧ x.toInt ≤ (freeA A na ng l).toInt := by
    rw [hx]
    unfold takA
    by_cases c : goal - A 5 5 0 < freeA A na ng l / 10
    · rw [if_pos c]
      rw [Int32.lt_iff_toInt_lt] at c
      omega
    · rw [if_neg c]
      omega
  obtain ⟨B, hB⟩ : ∃ B, B = tU (tU A 2 5 l (A 2 5 l + x)) 5 5 0 (A 5 5 0 + x) := ⟨_, rfl⟩
  rw [← hB]
  have ev : ∀ {P : Nat → Nat → Prop}, ¬ P 2 5 → ¬ P 5 5 → agr P A B := fun a b => hB ▸ (agr.rfl.u a).u b
  have a25 : ∀ j, B 2 5 j = if j = l then A 2 5 l + x else A 2 5 j := fun j => by simp [hB, tU]
  have a2 : ∀ f j, ¬ f = 5 → B 2 f j = A 2 f j := fun f j q => by simp [hB, tU, q]
  have a55 : B 5 5 0 = A 5 5 0 + x := by simp [hB, tU]
  have a56 : B 5 6 0 = A 5 6 0 := by simp [hB, tU]
  have a0 : ∀ f j, B 0 f j = A 0 f j := fun f j => by simp [hB, tU]
  have a3 : ∀ f j, B 3 f j = A 3 f j := fun f j => by simp [hB, tU]
  have a4 : ∀ f j, B 4 f j = A 4 f j := fun f j => by simp [hB, tU]
  have bo : ∀ l', l' ≠ l → baseA B l' = baseA A l' := fun l' e => base_congr (a2 _ _ (by decide)) (by rw [a25, if_neg e]) (a2 _ _ (by decide))
  have hbs := w6.base l hl
  have hrt := root_bd w1 w2 w6 l
  have bl : baseA B l = baseA A l - x := by
    unfold baseA
    rw [a25, if_pos rfl, a2 _ _ (by decide), a2 _ _ (by decide)]
    simp only [Int32.sub_eq_add_neg, Int32.neg_add]
    ac_rfl
  have hbl : (baseA B l).toInt = (baseA A l).toInt - x.toInt := by
    rw [bl, sub_toInt (by omega) (by omega)]
  have v1 : Wf B nl na ng := w1.congr (ev (by decide) (by decide))
  have v2 : Br B nl na := w2.congr (ev (by decide) (by decide))
  have v6 : Nm B nl na ng t := by
    obtain ⟨m1, m2, m3, m4, m5, m6, ⟨R, r1, r2, r3⟩, m8⟩ := w6
    refine ⟨m1, fun j hj => ?_, fun j hj => ?_, fun j hj => ?_, fun a ha => ?_, fun l' hl' => ?_, ⟨R, r1, r2, ?_⟩, ?_⟩
    · rw [a0, a0]; exact m2 j hj
    · rw [a2 _ _ (by decide)]; exact m3 j hj
    · rw [a4, a4]; exact m4 j hj
    · rw [a3]; exact m5 a ha
    · by_cases e : l' = l
      · subst e
        rw [hbl]
        omega
      · rw [bo l' e]; exact m6 l' hl'
    · have hz := zsum_upd (g := fun j => (baseA A j).toInt) (h := fun j => (baseA B j).toInt) (i := l) (fun j q => by rw [bo j q]) hl
      rw [hz, a55, add_toInt (by omega) (by omega), r3, hbl]
      omega
    · rw [a56]; exact m8
  refine ⟨v1, v2, hB ▸ (w3.u (by omega)).u (by omega), w4.congr (ev (by decide) (by decide)), w5.congr (ev (by decide) (by decide)), v6, fun l' hl' => ?_⟩
  by_cases e : l' = l
  · subst e
    obtain ⟨g1, g2, g3, -⟩ := free_Z v1 v2 v6 hl
    have hroot : isum (rootA B l') na = isum (rootA A l') na := isum_congr fun a _ => by simp only [rootA, a3]
    have hbz : zsum (fun j => (bindA B l' j).toInt) ng = zsum (fun j => (bindA A l' j).toInt) ng := zsum_congr fun j _ => by simp only [bindA, a4]
    rw [hroot, hbl] at g1
    rw [hbz, a2 _ _ (by decide)] at g2
    omega
  · rw [freeA_of (A := A) (bo l' e) (fun a _ => by simp only [rootA, a3]) (a2 _ _ (by decide)) (fun j _ => by simp only [bindA, a4])]
    exact w7 l' hl'
theorem fillS_In {nl na ng t : Nat} {goal : Int32} (hg : 0 ≤ goal.toInt ∧ goal.toInt ≤ 400000000) : ∀ d q A, q + d = nl → In A nl na ng t → In (fillS na ng goal d q A) nl na ng t
  | 0, _, _, _, h => h
  | d + 1, q, A, e, h => fillS_In hg d (q + 1) _ (by omega) (stepF_In h (by omega) hg)
theorem fill_CL {nl na ng t fu : Nat} {goal : Int32} {n : ag_N} (hf : 60 < fu) (hg : 0 ≤ goal.toInt ∧ goal.toInt ≤ 400000000) : ∀ d q (A : TT) (s : ag_S) (nf : Nat), q + d = nl → d < nf → ClS A nl na ng n s → In A nl na ng t → ∃ s1, f_X5_fillReserve_L7 fu nf goal (nI q) s = some s1 ∧ ClS (fillS na ng goal d q A) nl na ng n s1 ∧ frC s s1 := by
  intro d
  induction d with
  | zero =>
    intro q A s nf e hn h hI
    obtain ⟨nf, rfl⟩ : ∃ k, nf = k + 1 := ⟨nf - 1, by omega⟩
    have hnl := hI.wf.hnl
    rw [f_X5_fillReserve_L7, h.l2.size2, bd_some, if_pos (nI_le (by omega) (p31 (by omega)))]
    exact ⟨s, rfl, h, frC.refl s⟩
  | succ d ih =>
    intro q A s nf e hn h hI
    obtain ⟨nf, rfl⟩ : ∃ k, nf = k + 1 := ⟨nf - 1, by omega⟩
    have hnl := hI.wf.hnl
    have hq : q < nl := by omega
    rw [f_X5_fillReserve_L7, h.l2.size2, bd_some, if_neg (nI_ge hq (p31 (by omega))), h.c5 5 (by decide)]
    by_cases c1 : goal ≤ A 5 5 0
    · rw [if_pos c1, fillS_stop c1]
      exact ⟨s, rfl, h, frC.refl s⟩
    · have iS := stepF_In hI hq hg
      rw [if_neg c1, h.l2.get2 hq, bd_some]
      unfold f_X5_takeFrom
      rw [free_C h hI.br hf hq, bd_some]
      show ∃ s1, _ = some s1 ∧ ClS (fillS na ng goal d (q + 1) (stepF na ng goal A q)) nl na ng n s1 ∧ frC s s1
      have hs : stepF na ng goal A q = if freeA A na ng q ≤ 0 then A else tU (tU A 2 5 q (A 2 5 q + takA A na ng q goal)) 5 5 0 (A 5 5 0 + takA A na ng q goal) := if_neg c1
      by_cases c2 : freeA A na ng q ≤ 0
      · rw [if_pos c2, bd_some, nI_1]
        rw [if_pos c2] at hs
        rw [hs]
        exact ih (q + 1) A s nf (by omega) (by omega) h hI
      · rw [if_neg c2, h.g2 hq, upk (show ¬ 5 = 2 by decide), h.c5 5 (by decide), bd_some, nI_1]
        rw [if_neg c2] at hs
        have hC : ClS (stepF na ng goal A q) nl na ng n (ag_up (ag_up s 2 5 (nI q) (A 2 5 q + takA A na ng q goal)) 5 5 0 (A 5 5 0 + takA A na ng q goal)) := by
          rw [hs]
          exact (h.w (by decide) (by omega)).w5
        obtain ⟨s1, e1, h1, f1⟩ := ih (q + 1) _ _ nf (by omega) (by omega) hC iS
        exact ⟨s1, e1, h1, (((frC.refl s).up (by decide)).up (by decide)).trans f1⟩
theorem fill_step {A : TT} {nl na ng t fu q : Nat} {wanted : Int64} {goal : Int32} {rc : Int64 → Int32 → ag_S → Option ag_S} {s : ag_S} (hf : 60 < fu) (hg : 0 ≤ goal.toInt ∧ goal.toInt ≤ 400000000) (hw : wanted.toInt = goal.toInt) (h : RfS A nl na ng s) (hI : In A nl na ng t) (hq : q < nl) : ∃ s1, (if (0 : Int32) ≤ lg_cmp ((freeA A na ng q / 10 : Int32).toInt64) (wanted - (A 5 5 0 : Int32).toInt64) then f_X6_fill_b97 fu rc wanted (nI q) (wanted - (A 5 5 0 : Int32).toInt64) s else f_X6_fill_b97 fu rc wanted (nI q) ((freeA A na ng q / 10 : Int32).toInt64) s) = rc wanted (nI (q + 1)) s1 ∧ RfS (stepF na ng goal A q) nl na ng s1 ∧ frR s s1 ∧ s1 6 0 0 = s 6 0 0 := by
  have hnl := hI.wf.hnl
  have hfr := hI.fr q hq
  have hd := div10 hfr
  have hres := hI.nm.resB hnl
  obtain ⟨-, -, f3, f4, f5, f6, f7⟩ := free_Z hI.wf hI.br hI.nm hq
  have i10 := nI_in (show q < 10 by omega) (p31 (show 10 ≤ 1000 by decide))
  have hl : (wanted - (A 5 5 0 : Int32).toInt64).toInt = goal.toInt - (A 5 5 0).toInt := by
    rw [l64_sub (by rw [Int32.toInt_toInt64]; omega) (by rw [Int32.toInt_toInt64]; omega), Int32.toInt_toInt64, hw]
  have hsub : (goal - A 5 5 0).toInt = goal.toInt - (A 5 5 0).toInt := sub_toInt (by omega) (by omega)
  have hy : (freeA A na ng q / 10 : Int32).toInt64.toInt = (freeA A na ng q / 10).toInt := Int32.toInt_toInt64 _
  -- either nothing, or x
  have none : ∀ y0 : Int64, y0.toInt ≤ 0 → f_X6_fill_b97 fu rc wanted (nI q) y0 s = rc wanted (nI (q + 1)) s := fun y0 e => by
    unfold f_X6_fill_b97
    rw [if_pos (by rw [lg_cmp_le, Int64.le_iff_toInt_le]; exact e), nI_1]
  have some' : ∀ y0 : Int64, 0 < y0.toInt → y0.toInt32 = takA A na ng q goal → f_X6_fill_b97 fu rc wanted (nI q) y0 s = rc wanted (nI (q + 1)) (ag_up (ag_up s 40 0 (nI q) (A 2 5 q + takA A na ng q goal)) 6 2 0 (A 5 5 0 + takA A na ng q goal)) := fun y0 e e2 => by
    unfold f_X6_fill_b97
    rw [if_neg (by rw [lg_cmp_le, Int64.le_iff_toInt_le, show (0 : Int64).toInt = 0 from by decide]; omega), if_neg i10, if_neg i10, e2, h.r40 q (by omega), upk (show ¬ 6 = 40 by decide), h.z2, nI_1]
  have keep : stepF na ng goal A q = A → ∃ s1, rc wanted (nI (q + 1)) s = rc wanted (nI (q + 1)) s1 ∧ RfS (stepF na ng goal A q) nl na ng s1 ∧ frR s s1 ∧ s1 6 0 0 = s 6 0 0 := fun e => ⟨s, rfl, by rw [e]; exact h, frR.refl s, rfl⟩
  have wr : stepF na ng goal A q = tU (tU A 2 5 q (A 2 5 q + takA A na ng q goal)) 5 5 0 (A 5 5 0 + takA A na ng q goal) → ∃ s1, rc wanted (nI (q + 1)) (ag_up (ag_up s 40 0 (nI q) (A 2 5 q + takA A na ng q goal)) 6 2 0 (A 5 5 0 + takA A na ng q goal)) = rc wanted (nI (q + 1)) s1 ∧ RfS (stepF na ng goal A q) nl na ng s1 ∧ frR s s1 ∧ s1 6 0 0 = s 6 0 0 := fun e => ⟨_, rfl, e ▸ (h.w40 (by omega)).w6_2, ((frR.refl s).up (by decide)).up (by decide), by rw [upf (by decide), upk (by decide)]⟩
  by_cases c1 : goal ≤ A 5 5 0
  · have hs : stepF na ng goal A q = A := if_pos c1
    rw [Int32.le_iff_toInt_le] at c1
    rw [if_pos (by rw [lg_cmp_ge, Int64.le_iff_toInt_le]; omega), none _ (by omega)]
    exact keep hs
  · have hs : stepF na ng goal A q = if freeA A na ng q ≤ 0 then A else tU (tU A 2 5 q (A 2 5 q + takA A na ng q goal)) 5 5 0 (A 5 5 0 + takA A na ng q goal) := if_neg c1
    rw [Int32.le_iff_toInt_le] at c1
    by_cases c3 : (freeA A na ng q / 10).toInt < (goal - A 5 5 0).toInt
    · rw [if_neg (by rw [lg_cmp_ge, Int64.le_iff_toInt_le]; omega)]
      have ht : takA A na ng q goal = freeA A na ng q / 10 := if_neg (by rw [Int32.lt_iff_toInt_lt]; omega)
      by_cases c4 : (freeA A na ng q / 10).toInt ≤ 0
      · rw [none _ (by omega)]
        refine keep ?_
        rw [hs]
        by_cases c2 : freeA A na ng q ≤ 0
        · rw [if_pos c2]
        · have : freeA A na ng q / 10 = 0 := Int32.toInt_inj.mp (by rw [show (0 : Int32).toInt = 0 from by decide]; omega)
          rw [if_neg c2, ht, this, Int32.add_zero, Int32.add_zero, tU_self, tU_self]
      · rw [some' _ (by omega) (by rw [ht]; exact Int32.toInt_inj.mp (by rw [Int64.toInt_toInt32, hy]; exact Int.bmod_eq_of_le (by omega) (by omega)))]
        refine wr ?_
        rw [hs, if_neg]
        rw [Int32.le_iff_toInt_le, show (0 : Int32).toInt = 0 from by decide]
        omega
    · rw [if_pos (by rw [lg_cmp_ge, Int64.le_iff_toInt_le]; omega)]
      have ht : takA A na ng q goal = goal - A 5 5 0 := by
        unfold takA
        by_cases c5 : goal - A 5 5 0 < freeA A na ng q / 10
        · rw [if_pos c5]
        · rw [if_neg c5]
          rw [Int32.lt_iff_toInt_lt] at c5
          exact Int32.toInt_inj.mp (by omega)
      rw [some' _ (by omega) (by rw [ht]; exact Int32.toInt_inj.mp (by rw [Int64.toInt_toInt32, hl, hsub]; exact Int.bmod_eq_of_le (by omega) (by omega)))]
      refine wr ?_
      rw [hs, if_neg]
      rw [Int32.le_iff_toInt_le, show (0 : Int32).toInt = 0 from by decide]
      omega
theorem fill_RL {nl na ng t fu : Nat} {wanted : Int64} {goal : Int32} (hf : 60 < fu) (hg : 0 ≤ goal.toInt ∧ goal.toInt ≤ 400000000) (hw : wanted.toInt = goal.toInt) : ∀ d q (A : TT) (s : ag_S) (nf : Nat), q + d = nl → d < nf → RfS A nl na ng s → In A nl na ng t → ∃ s1, f_X6_fill_L52 fu nf wanted (nI q) s = some s1 ∧ RfS (fillS na ng goal d q A) nl na ng s1 ∧ frR s s1 ∧ s1 6 0 0 = s 6 0 0 := by
  intro d
  induction d with
  | zero =>
    intro q A s nf e hn h hI
    obtain ⟨nf, rfl⟩ : ∃ k, nf = k + 1 := ⟨nf - 1, by omega⟩
    have hnl := hI.wf.hnl
    rw [f_X6_fill_L52, h.z7, if_pos (nI_le (by omega) (p31 (by omega)))]
    exact ⟨s, rfl, h, frR.refl s, rfl⟩
  | succ d ih =>
    intro q A s nf e hn h hI
    obtain ⟨nf, rfl⟩ : ∃ k, nf = k + 1 := ⟨nf - 1, by omega⟩
    have hnl := hI.wf.hnl
    have hq : q < nl := by omega
    obtain ⟨sa, ea, fa⟩ := free_R (fu := fu) h hI.wf hI.br (by omega) (show q < 10 by omega)
    have ra := h.u59 fa
    obtain ⟨sb, eb, rb, fb, zb⟩ := fill_step (fu := fu) (rc := f_X6_fill_L52 fu nf) hf hg hw ra hI hq
    obtain ⟨s1, e1, h1, f1, z1⟩ := ih (q + 1) _ sb nf (by omega) (by omega) rb (stepF_In hI hq hg)
    refine ⟨s1, ?_, h1, ((fr59 fa).trans fb).trans f1, z1.trans (zb.trans (fa _ _ _ (by decide)))⟩
    rw [f_X6_fill_L52, h.z7, if_neg (nI_ge hq (p31 (by omega))), ea, bd_some, h.z2, ← e1, ← eb]
theorem fill_C {A : TT} {nl na ng t fu : Nat} {n : ag_N} {s : ag_S} (hf : 60 < fu) (h : ClS A nl na ng n s) (hI : In A nl na ng t) : ∃ s1, f_X5_fillReserve fu s = some s1 ∧ ClS (fillS na ng (goalA A nl na) nl 0 A) nl na ng n s1 ∧ frC s s1 := by
  have hnl := hI.wf.hnl
  obtain ⟨g1, g2, g3⟩ := goal_bd hI.wf hI.br hI.nm
  unfold f_X5_fillReserve
  rw [target_C h hI.br hnl hf, bd_some]
  exact (show nI 0 = 0 from by decide) ▸ fill_CL (fu := fu) hf (by omega) nl 0 A s fu (by omega) (by omega) h hI
theorem fill_R {A : TT} {nl na ng t fu : Nat} {s : ag_S} (hf : 60 < fu) (h : RfS A nl na ng s) (hI : In A nl na ng t) : ∃ s1, f_X6_fill fu s = some s1 ∧ RfS (fillS na ng (goalA A nl na) nl 0 A) nl na ng s1 ∧ frR s s1 ∧ s1 6 0 0 = s 6 0 0 := by
  have hnl := hI.wf.hnl
  obtain ⟨g1, g2, g3⟩ := goal_bd hI.wf hI.br hI.nm
  obtain ⟨sa, ea, fa⟩ := target_R h hI.wf hI.br hf
  obtain ⟨s1, e1, h1, f1, z1⟩ := fill_RL (fu := fu) (wanted := wantA A nl na) (goal := goalA A nl na) hf (by omega) g3.symm nl 0 A sa fu (by omega) (by omega) (h.u59 fa) hI
  refine ⟨s1, ?_, h1, (fr59 fa).trans f1, z1.trans (fa _ _ _ (by decide))⟩
  rw [ea, ← e1]
  rfl
/-! ===== month ===== -/
def monS (nl na ng : Nat) (A : TT) : TT := fillS na ng (goalA (ovA (tU A 5 7 0 (A 5 7 0 + 1)) ng) nl na) nl 0 (ovA (tU A 5 7 0 (A 5 7 0 + 1)) ng)
def monF (nl na ng : Nat) (A : TT) : Nat → TT
  | 0 => A
  | q + 1 => monS nl na ng (monF nl na ng A q)
theorem mon1_In {A : TT} {nl na ng t : Nat} {v : Int32} (hI : In A nl na ng t) : In (tU A 5 7 0 v) nl na ng t := by
  obtain ⟨w1, w2, w3, w4, w5, w6, w7⟩ := hI
  exact ⟨w1.congr (agr.rfl.u (by decide)), w2.congr (agr.rfl.u (by decide)), w3.u (by omega), w4.congr (agr.rfl.u (by decide)), w5.congr (agr.rfl.u (by decide)), w6.congr (agr.rfl.u (by decide)), w7.congr (agr.rfl.u (by decide))⟩
theorem monS_In {A : TT} {nl na ng t : Nat} (hI : In A nl na ng t) : In (monS nl na ng A) nl na ng t := by
  have i2 := ovA_In (mon1_In (v := A 5 7 0 + 1) hI) ng (Nat.le_refl _)
  obtain ⟨g1, g2, g3⟩ := goal_bd i2.wf i2.br i2.nm
  exact fillS_In (by omega) nl 0 _ (by omega) i2
theorem monF_In {A : TT} {nl na ng t : Nat} (hI : In A nl na ng t) : ∀ q, In (monF nl na ng A q) nl na ng t
  | 0 => hI
  | q + 1 => monS_In (monF_In hI q)
theorem rng24 {x : Int32} (h : rng x 1 24) : ∃ M : Nat, M ≤ 24 ∧ x = nI M := by
  rcases idx x 25 (by decide) with ⟨i, hi, rfl⟩ | ⟨nr, -⟩
  · exact ⟨i, by omega, rfl⟩
  · refine absurd ⟨?_, h.2⟩ nr
    have := rng_toInt h
    rw [Int32.lt_iff_toInt_lt]
    rw [show (1 : Int32).toInt = 1 from by decide] at this
    rw [show (0 : Int32).toInt = 0 from by decide]
    omega
theorem op_month {A : TT} {nl na ng t fu : Nat} {n : ag_N} {s : ag_S} {x : Int32} (h : ClS A nl na ng n s) (hr : RfS A nl na ng s) (hI : In A nl na ng t) (ht : t + 1 ≤ 520) (hf : 60 < fu) : Op1 (t + 1) n (f_L_month fu x s) (fun s => f_X6_month fu x s) := by
  by_cases hx : rng x 1 24
  · obtain ⟨M, hM, rfl⟩ := rng24 hx
    obtain ⟨s1, e1, h1, f1⟩ := up_loop (F := fun nf i (v : ag_S) => f_X5_month_L9 fu nf (nI M) i v) (N := M) (I := fun q v => ClS (monF nl na ng A q) nl na ng n v ∧ frC s v) (E := fun v => some (.inl (v 5 7 0), v)) (fun nf q v hq hv => by
      have iq := monF_In hI q
      have c1 := hv.1.w5 (f := 7) (v := monF nl na ng A q 5 7 0 + 1)
      have i1 := mon1_In (v := monF nl na ng A q 5 7 0 + 1) iq
      obtain ⟨sa, ea, ha, fa⟩ := overdue_C (fu := fu) c1 i1 hf
      obtain ⟨sb, eb, hb, fb⟩ := fill_C (fu := fu) hf ha (ovA_In i1 ng (Nat.le_refl _))
      refine ⟨sb, ?_, hb, ((hv.2.up (by decide)).trans fa).trans fb⟩
      show f_X5_month_L9 fu (nf + 1) (nI M) (nI q) v = f_X5_month_L9 fu nf (nI M) (nI (q + 1)) sb
      rw [f_X5_month_L9, if_neg (nI_ge hq (p31 (by omega))), hv.1.c5 7 (by decide), ea, bd_some, eb, bd_some, nI_1]) (fun nf v hv => by
      show f_X5_month_L9 fu (nf + 1) (nI M) (nI M) v = _
      rw [f_X5_month_L9, if_pos (nI_le (Nat.le_refl _) (p31 (by omega)))]) M 0 s fu (by omega) (by omega) ⟨h, frC.refl s⟩
    have e2 : f_X5_month_L9 fu fu (nI M) 0 s = some (.inl (s1 5 7 0), s1) := (show nI 0 = 0 from by decide) ▸ e1
    refine op_ok (A' := monF nl na ng A M) (s1 := s1) (w := monF nl na ng A M 5 7 0) (nl' := nl) (na' := na) (ng' := ng) hr ?_ h1 f1 ((monF_In hI M).mono ht) fun s' hr' => ?_
    · simp only [f_L_month, f_X5_month, nr_ok hx, bt_inl, e2, h1.q5 7 (by decide), bc_inl, z00, if_false]
    · obtain ⟨s2, e3, h3, f3, z3⟩ := up_loop (F := fun nf i (v : ag_S) => f_X6_month_L26 fu nf (nI M) i v) (N := M) (I := fun q v => RfS (monF nl na ng A q) nl na ng v ∧ frR s' v ∧ v 6 0 0 = 0) (E := fun v => some (v 6 1 0, v)) (fun nf q v hq hv => by
        have iq := monF_In hI q
        have c1 := hv.1.w6_1 (v := monF nl na ng A q 5 7 0 + 1)
        have i1 := mon1_In (v := monF nl na ng A q 5 7 0 + 1) iq
        obtain ⟨sa, ea, ha, fa, za⟩ := overdue_R (fu := fu) (rc := f_X6_month_L26 fu nf) (x1 := nI M) (x2 := nI q) c1 i1 hf
        obtain ⟨sb, eb, hb, fb, zb⟩ := fill_R (fu := fu) hf ha (ovA_In i1 ng (Nat.le_refl _))
        refine ⟨sb, ?_, hb, ((hv.2.1.up (by decide)).trans fa).trans fb, zb.trans (za.trans ?_)⟩
        · show f_X6_month_L26 fu (nf + 1) (nI M) (nI q) v = f_X6_month_L26 fu nf (nI M) (nI (q + 1)) sb
          rw [f_X6_month_L26, if_neg (nI_ge hq (p31 (by omega))), hv.1.z1, ea, eb, bd_some, nI_1]
        · rw [upf (by decide)]
          exact hv.2.2) (fun nf v hv => by
        show f_X6_month_L26 fu (nf + 1) (nI M) (nI M) v = _
        rw [f_X6_month_L26, if_pos (nI_le (Nat.le_refl _) (p31 (by omega)))]) M 0 (ag_up s' 6 0 0 0) fu (by omega) (by omega) ⟨hr'.u6, (frR.refl s').up (by decide), ag_up_eq⟩
      have e4 : f_X6_month_L26 fu fu (nI M) 0 (ag_up s' 6 0 0 0) = some (s2 6 1 0, s2) := (show nI 0 = 0 from by decide) ▸ e3
      simp only [f_X6_month, in_ok hx, bd_some, i10, if_false, gw0, e4, h3.z1]
      exact ⟨s2, rfl, z3, h3, f3⟩
  · refine op_no (c := 1) h hr (hI.mono ht) (by decide) ?_ (rf_no fun s' hr' => ?_)
    · simp only [f_L_month, f_X5_month, nr_no hx, bt_inr, bc_inr, id, if_true]
    · simp only [f_X6_month, in_no hx, bd_some, if_true, gwn (show ¬ (1 : Int32) = 0 by decide)]
