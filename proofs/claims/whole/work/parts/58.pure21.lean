/-! ===== months: what is overdue ===== -/
theorem tU_self {A : TT} {k f i : Nat} : tU A k f i (A k f i) = A := by
  funext a b c
  unfold tU
  by_cases e : a = k ∧ b = f ∧ c = i
  · obtain ⟨rfl, rfl, rfl⟩ := e
    rw [if_pos ⟨rfl, rfl, rfl⟩]
  · rw [if_neg e]
def ovS (A : TT) (g : Nat) : TT := if A 4 6 g = 0 ∧ A 4 7 g = 0 ∧ ¬ A 5 7 0 ≤ A 4 3 g then wdA A g else A
def ovA (A : TT) : Nat → TT
  | 0 => A
  | q + 1 => ovS (ovA A q) q
theorem ovA_In {A : TT} {nl na ng t : Nat} (h : In A nl na ng t) : ∀ q, q ≤ ng → In (ovA A q) nl na ng t
  | 0, _ => h
  | q + 1, hq => by
    have ih := ovA_In h q (by omega)
    show In (ovS (ovA A q) q) nl na ng t
    unfold ovS
    by_cases e : ovA A q 4 6 q = 0 ∧ ovA A q 4 7 q = 0 ∧ ¬ ovA A q 5 7 0 ≤ ovA A q 4 3 q
    · rw [if_pos e]
      exact wd_In ih (by omega) e.1
    · rw [if_neg e]
      exact ih
theorem overdue_C {A : TT} {nl na ng t fu : Nat} {n : ag_N} {s : ag_S} (h : ClS A nl na ng n s) (hI : In A nl na ng t) (hf : 60 < fu) : ∃ s1, f_X5_withdrawOverdue fu s = some s1 ∧ ClS (ovA A ng) nl na ng n s1 ∧ frC s s1 := by
  have hng := hI.wf.hng
  unfold f_X5_withdrawOverdue
  obtain ⟨s1, e1, h1, f1⟩ := up_loop (F := fun nf i (v : ag_S) => f_X5_withdrawOverdue_L2 fu nf i v) (N := ng) (I := fun q v => ClS (ovA A q) nl na ng n v ∧ frC s v) (E := fun v => some v) (fun nf q v hq hv => by
    obtain ⟨hc, fv⟩ := hv
    have iq := ovA_In hI q (by omega)
    show ∃ s', f_X5_withdrawOverdue_L2 fu (nf + 1) (nI q) v = f_X5_withdrawOverdue_L2 fu nf (nI (q + 1)) s' ∧ ClS (ovS (ovA A q) q) nl na ng n s' ∧ frC s s'
    rw [f_X5_withdrawOverdue_L2, hc.l4.size4, bd_some, if_neg (nI_ge hq (p31 (by omega))), hc.l4.get4 hq, bd_some, hc.c5 7 (by decide)]
    unfold f_X1_isOverdue ovS
    rw [hc.g4 hq, hc.g4 hq, hc.g4 hq, nI_1]
    by_cases c1 : ovA A q 4 6 q = 0
    · rw [if_pos c1]
      by_cases c2 : ovA A q 4 7 q = 0
      · rw [if_pos c2]
        by_cases c3 : ovA A q 5 7 0 ≤ ovA A q 4 3 q
        · rw [if_pos c3, bd_some, if_pos rfl, if_neg (fun e => e.2.2 c3)]
          exact ⟨v, rfl, hc, fv⟩
        · rw [if_neg c3, bd_some, if_neg (by decide), if_pos ⟨c1, c2, c3⟩]
          obtain ⟨s', e', h', f'⟩ := wd_C (fu := fu) hc iq.wf hq
          rw [e', bd_some]
          exact ⟨s', rfl, h', fv.trans f'⟩
      · rw [if_neg c2, bd_some, if_pos rfl, if_neg (fun e => c2 e.2.1)]
        exact ⟨v, rfl, hc, fv⟩
    · rw [if_neg c1, bd_some, if_pos rfl, if_neg (fun e => c1 e.1)]
      exact ⟨v, rfl, hc, fv⟩) (fun nf v hv => by
    show f_X5_withdrawOverdue_L2 fu (nf + 1) (nI ng) v = _
    rw [f_X5_withdrawOverdue_L2, hv.1.l4.size4, bd_some, if_pos (nI_le (Nat.le_refl _) (p31 (by omega)))]) ng 0 s fu (by omega) (by omega) ⟨h, frC.refl s⟩
  exact ⟨s1, (show nI 0 = 0 from by decide) ▸ e1, h1, f1⟩
theorem overdue_R {A : TT} {nl na ng t fu : Nat} {rc : Int32 → Int32 → ag_S → Option (Int32 × ag_S)} {x1 x2 : Int32} {s : ag_S} (h : RfS A nl na ng s) (hI : In A nl na ng t) (hf : 60 < fu) : ∃ s1, f_X6_month_L43 fu rc fu x1 x2 0 s = ag_bd (f_X6_fill fu s1) (fun r94 => rc x1 (x2 + 1) r94) ∧ RfS (ovA A ng) nl na ng s1 ∧ frR s s1 ∧ s1 6 0 0 = s 6 0 0 := by
  have hng := hI.wf.hng
  obtain ⟨s1, e1, h1, f1⟩ := up_loop (F := fun nf i (v : ag_S) => f_X6_month_L43 fu rc nf x1 x2 i v) (N := ng) (I := fun q v => RfS (ovA A q) nl na ng v ∧ frR s v ∧ v 6 0 0 = s 6 0 0) (E := fun v => ag_bd (f_X6_fill fu v) (fun r94 => rc x1 (x2 + 1) r94)) (fun nf q v hq hv => by
    obtain ⟨hc, fv, zv⟩ := hv
    have iq := ovA_In hI q (by omega)
    have i40 := nI_in (show q < 40 by omega) (p31 (show 40 ≤ 1000 by decide))
    show ∃ s', f_X6_month_L43 fu rc (nf + 1) x1 x2 (nI q) v = f_X6_month_L43 fu rc nf x1 x2 (nI (q + 1)) s' ∧ RfS (ovS (ovA A q) q) nl na ng s' ∧ frR s s' ∧ s' 6 0 0 = s 6 0 0
    rw [f_X6_month_L43, hc.z20, if_neg (nI_ge hq (p31 (by omega))), if_neg i40, if_neg i40, if_neg i40, hc.r57 q (by omega), hc.r56 q (by omega), hc.r58 q (by omega), hc.z1, nI_1]
    unfold ovS
    by_cases c1 : ovA A q 4 6 q = 0
    · rw [if_pos c1]
      by_cases c3 : ovA A q 5 7 0 ≤ ovA A q 4 3 q
      · rw [if_pos c3, if_neg (fun e => e.2.2 c3)]
        exact ⟨v, rfl, hc, fv, zv⟩
      · rw [if_neg c3]
        by_cases c2 : ovA A q 4 7 q = 0
        · rw [if_pos c2, if_pos ⟨c1, c2, c3⟩]
          obtain ⟨s', e', h', f', z', -⟩ := wd_R (fu := fu) hc iq.wf hq
          rw [e', bd_some]
          exact ⟨s', rfl, h', fv.trans f', z'.trans zv⟩
        · rw [if_neg c2, if_neg (fun e => c2 e.2.1)]
          exact ⟨v, rfl, hc, fv, zv⟩
    · rw [if_neg c1, if_neg (fun e => c1 e.1)]
      exact ⟨v, rfl, hc, fv, zv⟩) (fun nf v hv => by
    show f_X6_month_L43 fu rc (nf + 1) x1 x2 (nI ng) v = _
    rw [f_X6_month_L43, hv.1.z20, if_pos (nI_le (Nat.le_refl _) (p31 (by omega)))]) ng 0 s fu (by omega) (by omega) ⟨h, frR.refl s, rfl⟩
  exact ⟨s1, (show nI 0 = 0 from by decide) ▸ e1, h1, f1⟩
/-! ===== the target ===== -/
def lsum (A : TT) (na : Nat) : Nat → Int64
  | 0 => 0
  | q + 1 => lsum A na q + (standA A na q : Int32).toInt64
def wantA (A : TT) (nl na : Nat) : Int64 := if (0 : Int32) ≤ lg_cmp (lsum A na nl) 0 then ((A 5 6 0 : Int32).toInt64 * lsum A na nl) / 100 else 0
def goalA (A : TT) (nl na : Nat) : Int32 := (wantA A nl na).toInt32
theorem target_C {A : TT} {nl na ng fu : Nat} {n : ag_N} {s : ag_S} (h : ClS A nl na ng n s) (hb : Br A nl na) (hnl : nl ≤ 10) (hf : 60 < fu) : f_X5_targetNow fu s = some (goalA A nl na) := by
  unfold f_X5_targetNow
  obtain ⟨v, e1, e2⟩ := up_loop (F := fun nf i (v : Int64) => f_X5_targetNow_L4 fu nf v i s) (N := nl) (I := fun q v => v = lsum A na q) (E := fun v => some (if (0 : Int32) ≤ lg_cmp v 0 then ((v * ((A 5 6 0 : Int32).toInt64)) / 100).toInt32 else 0)) (fun nf q v hq hv => by
    refine ⟨v + (standA A na q).toInt64, ?_, ?_⟩
    · show f_X5_targetNow_L4 fu (nf + 1) v (nI q) s = f_X5_targetNow_L4 fu nf _ (nI (q + 1)) s
      rw [f_X5_targetNow_L4, h.l2.size2, bd_some, if_neg (nI_ge hq (p31 (by omega))), h.l2.get2 hq, bd_some, stands_C h hb hq, bd_some, nI_1]
    · show _ = _
      rw [hv, lsum]) (fun nf v hv => by
    show f_X5_targetNow_L4 fu (nf + 1) v (nI nl) s = _
    rw [f_X5_targetNow_L4, h.l2.size2, bd_some, if_pos (nI_le (Nat.le_refl _) (p31 (by omega))), h.c5 6 (by decide)]
    by_cases c : (0 : Int32) ≤ lg_cmp v 0
    · rw [if_pos c, if_pos c]
    · rw [if_neg c, if_neg c]) nl 0 0 fu (by omega) (by omega) rfl
  have e3 : f_X5_targetNow_L4 fu fu 0 0 s = some (if (0 : Int32) ≤ lg_cmp v 0 then ((v * ((A 5 6 0 : Int32).toInt64)) / 100).toInt32 else 0) := (show nI 0 = 0 from by decide) ▸ e1
  rw [e3, e2]
  unfold goalA wantA
  by_cases c : (0 : Int32) ≤ lg_cmp (lsum A na nl) 0
  · rw [if_pos c, if_pos c, Int64.mul_comm]
  · rw [if_neg c, if_neg c]
    rfl
theorem target_R {A : TT} {nl na ng fu : Nat} {s : ag_S} (h : RfS A nl na ng s) (hw : Wf A nl na ng) (hb : Br A nl na) (hf : 60 < fu) : ∃ s1, f_X6_fill fu s = f_X6_fill_L52 fu fu (wantA A nl na) 0 s1 ∧ ∀ k f j, k ≠ 59 → s1 k f j = s k f j := by
  have hnl := hw.hnl
  unfold f_X6_fill
  obtain ⟨v, e1, e2, e3⟩ := up_loop (F := fun nf i (v : Int64 × ag_S) => f_X6_fill_L4 fu nf v.1 i v.2) (N := nl) (I := fun q v => v.1 = lsum A na q ∧ ∀ k f j, k ≠ 59 → v.2 k f j = s k f j) (E := fun v => if (0 : Int32) ≤ lg_cmp v.1 0 then f_X6_fill_L52 fu fu ((((A 5 6 0 : Int32).toInt64) * v.1) / 100) 0 v.2 else f_X6_fill_L52 fu fu 0 0 v.2) (fun nf q v hq hv => by
    obtain ⟨sa, ea, fa, -⟩ := stands_R (fu := fu) (h.u59 hv.2) hw hb (by omega) (show q < 10 by omega)
    refine ⟨(v.1 + (standA A na q).toInt64, sa), ?_, ?_, fun k f j hk => (fa k f j hk).trans (hv.2 k f j hk)⟩
    · show f_X6_fill_L4 fu (nf + 1) v.1 (nI q) v.2 = f_X6_fill_L4 fu nf (v.1 + (standA A na q).toInt64) (nI (q + 1)) sa
      rw [f_X6_fill_L4, (h.u59 hv.2).z7, if_neg (nI_ge hq (p31 (by omega))), ea, bd_some, nI_1]
    · show v.1 + (standA A na q).toInt64 = _
      rw [lsum, hv.1]) (fun nf v hv => by
    show f_X6_fill_L4 fu (nf + 1) v.1 (nI nl) v.2 = _
    rw [f_X6_fill_L4, (h.u59 hv.2).z7, if_pos (nI_le (Nat.le_refl _) (p31 (by omega))), (h.u59 hv.2).z3]) nl 0 ((0 : Int64), s) fu (by omega) (by omega) ⟨rfl, fun _ _ _ _ => rfl⟩
  refine ⟨v.2, ?_, e3⟩
  have e4 : f_X6_fill_L4 fu fu 0 0 s = if (0 : Int32) ≤ lg_cmp v.1 0 then f_X6_fill_L52 fu fu ((((A 5 6 0 : Int32).toInt64) * v.1) / 100) 0 v.2 else f_X6_fill_L52 fu fu 0 0 v.2 := (show nI 0 = 0 from by decide) ▸ e1
  rw [e4, e2]
  unfold wantA
  by_cases c : (0 : Int32) ≤ lg_cmp (lsum A na nl) 0
  · rw [if_pos c, if_pos c]
  · rw [if_neg c, if_neg c]
theorem l64_add {a b : Int64} (h1 : -9223372036854775808 ≤ a.toInt + b.toInt) (h2 : a.toInt + b.toInt < 9223372036854775808) : (a + b).toInt = a.toInt + b.toInt := by
  rw [Int64.toInt_add]
  exact Int.bmod_eq_of_le (by omega) (by omega)
theorem l64_sub {a b : Int64} (h1 : -9223372036854775808 ≤ a.toInt - b.toInt) (h2 : a.toInt - b.toInt < 9223372036854775808) : (a - b).toInt = a.toInt - b.toInt := by
  rw [Int64.toInt_sub]
  exact Int.bmod_eq_of_le (by omega) (by omega)
theorem l64_mul {a b : Int64} (h1 : -9223372036854775808 ≤ a.toInt * b.toInt) (h2 : a.toInt * b.toInt < 9223372036854775808) : (a * b).toInt = a.toInt * b.toInt := by
  rw [Int64.toInt_mul]
  exact Int.bmod_eq_of_le (by omega) (by omega)
theorem lsum_bd {A : TT} {nl na ng t : Nat} (hw : Wf A nl na ng) (hb : Br A nl na) (hm : Nm A nl na ng t) : ∀ q, q ≤ nl → -4000000 * q ≤ (lsum A na q).toInt ∧ (lsum A na q).toInt ≤ 62000000 * q
  | 0, _ => by
    have : (lsum A na 0).toInt = 0 := by show (0 : Int64).toInt = 0; decide
    omega
  | q + 1, hq => by
    have ih := lsum_bd hw hb hm q (by omega)
    have hnl := hw.hnl
    obtain ⟨-, -, -, -, -, f6, f7⟩ := free_Z hw hb hm (show q < nl by omega)
    have e : (lsum A na (q + 1)).toInt = (lsum A na q).toInt + (standA A na q).toInt := by
      show (lsum A na q + (standA A na q).toInt64).toInt = _
      rw [l64_add (by rw [Int32.toInt_toInt64]; omega) (by rw [Int32.toInt_toInt64]; omega), Int32.toInt_toInt64]
    rw [e]
    push_cast
    omega
theorem goal_bd {A : TT} {nl na ng t : Nat} (hw : Wf A nl na ng) (hb : Br A nl na) (hm : Nm A nl na ng t) : 0 ≤ (wantA A nl na).toInt ∧ (wantA A nl na).toInt ≤ 400000000 ∧ (goalA A nl na).toInt = (wantA A nl na).toInt := by
  have hnl := hw.hnl
  have hs := lsum_bd hw hb hm nl (Nat.le_refl _)
  have hp := hm.pct
  have key : 0 ≤ (wantA A nl na).toInt ∧ (wantA A nl na).toInt ≤ 400000000 := by
    unfold wantA
    by_cases c : (0 : Int32) ≤ lg_cmp (lsum A na nl) 0
    · rw [if_pos c]
      rw [lg_cmp_ge, Int64.le_iff_toInt_le, show (0 : Int64).toInt = 0 from by decide] at c
      have hx : 0 ≤ (A 5 6 0).toInt * (lsum A na nl).toInt := Int.mul_nonneg hp.1 c
      have hy : (A 5 6 0).toInt * (lsum A na nl).toInt ≤ 50 * 620000000 := Int.mul_le_mul hp.2 (by omega) c (by omega)
      have e : ((A 5 6 0 : Int32).toInt64 * lsum A na nl).toInt = (A 5 6 0).toInt * (lsum A na nl).toInt := by
        rw [l64_mul (by rw [Int32.toInt_toInt64]; omega) (by rw [Int32.toInt_toInt64]; omega), Int32.toInt_toInt64]
      have e2 : (((A 5 6 0 : Int32).toInt64 * lsum A na nl) / 100).toInt = ((A 5 6 0).toInt * (lsum A na nl).toInt) / 100 := by
        rw [Int64.toInt_div, e, show (100 : Int64).toInt = 100 from by decide, Int.tdiv_eq_ediv_of_nonneg hx]
        exact Int.bmod_eq_of_le (by omega) (by omega)
      rw [e2]
      omega
    · rw [if_neg c, show (0 : Int64).toInt = 0 from by decide]
      omega
  refine ⟨key.1, key.2, ?_⟩
  unfold goalA
  rw [Int64.toInt_toInt32]
  exact Int.bmod_eq_of_le (by omega) (by omega)
