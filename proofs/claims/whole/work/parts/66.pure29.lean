/-! ===== the arms ===== -/
theorem lg_same (x : Int64) : lg_cmp x x = 0 := (lg_cmp_eq x x).mpr rfl
theorem fin1 {fu : Nat} {n : ag_N} {code v : Int32} {s2 : ag_S} (e3 : s2 6 0 0 = code) (e4 : code = 0 → s2 8 0 0 = v) : (ag_bd (f_X6_thrown fu s2) fun r => if r = code then (if code = 0 then (if (0 : Int32) < 0 ∨ 1 ≤ (0 : Int32).toNatClampNeg then none else if lg_cmp ((s2 8 0 0).toInt64) ((v : Int32).toInt64) = 0 then (some (n, s2)) else (none)) else (some (n, s2))) else (none)) = some (n, s2) := by
  unfold f_X6_thrown
  rw [bd_some, if_pos e3]
  by_cases c : code = 0
  · rw [if_pos c, if_neg (by decide), e4 c, lg_same, if_pos rfl]
  · rw [if_neg c]
theorem fin9 {fu : Nat} {n : ag_N} {code v : Int32} {s2 : ag_S} (e3 : s2 6 0 0 = code) (e4 : code = 0 → s2 8 0 0 = v) (hv : v = 0 ∨ v = 1) : (ag_bd (f_X6_thrown fu s2) fun r => if r = code then (if code = 0 then (if (0 : Int32) < 0 ∨ 1 ≤ (0 : Int32).toNatClampNeg then none else if v = 0 then (if lg_cmp ((s2 8 0 0).toInt64) ((0 : Int32).toInt64) = 0 then (some (n, s2)) else (none)) else (if lg_cmp ((s2 8 0 0).toInt64) ((1 : Int32).toInt64) = 0 then (some (n, s2)) else (none))) else (some (n, s2))) else (none)) = some (n, s2) := by
  unfold f_X6_thrown
  rw [bd_some, if_pos e3]
  by_cases c : code = 0
  · rw [if_pos c, if_neg (by decide), e4 c]
    rcases hv with rfl | rfl
    · rw [if_pos rfl, lg_same, if_pos rfl]
    · rw [if_neg (by decide), lg_same, if_pos rfl]
  · rw [if_neg c]
theorem report_01 {fu : Nat} {x v : Int32} {s s2 : ag_S} (h : f_X6_report fu x s = some (v, s2)) : v = 0 ∨ v = 1 := by
  have key : ∀ y : Int32, f_X6_report_b30 fu x y s = some (v, s2) → v = 0 ∨ v = 1 := fun y h => by
    unfold f_X6_report_b30 f_X6_goesWell at h
    by_cases c : y = 0
    · rw [if_pos c, bd_some, if_neg (show ¬ (1 : Int32) = 0 by decide)] at h
      by_cases c1 : x < 0 ∨ 40 ≤ x.toNatClampNeg
      · rw [if_pos c1] at h
        exact absurd h (by simp)
      · rw [if_neg c1, if_neg c1] at h
        by_cases c2 : ag_up s 6 0 0 y 58 0 x = 0
        · rw [if_pos c2] at h
          exact .inr (congrArg Prod.fst (Option.some.inj h)).symm
        · rw [if_neg c2] at h
          exact .inl (congrArg Prod.fst (Option.some.inj h)).symm
    · rw [if_neg c, bd_some, if_pos (show (0 : Int32) = 0 from rfl)] at h
      exact .inl (congrArg Prod.fst (Option.some.inj h)).symm
  unfold f_X6_report f_X6_isGrant at h
  by_cases r : rng x 0 (s 6 20 0 - 1)
  · rw [in_ok r, bd_some, bd_some, if_neg (show ¬ (1 : Int32) = 0 by decide)] at h
    by_cases c1 : x < 0 ∨ 40 ≤ x.toNatClampNeg
    · rw [if_pos c1] at h
      exact absurd h (by simp)
    · rw [if_neg c1] at h
      by_cases c2 : s 57 0 x = 2
      · rw [if_pos c2] at h
        exact key 2 h
      · rw [if_neg c2] at h
        exact key 0 h
  · rw [in_no r, bd_some, bd_some, if_pos rfl] at h
    exact key 1 h
/-- the script is in reach from i + 1 to i + 5 -/
abbrev rea (L : Nat) (i : Int32) : Prop := ¬ (i + 1 < 0 ∨ L ≤ (i + 1).toNatClampNeg) ∧ ¬ (i + 2 < 0 ∨ L ≤ (i + 2).toNatClampNeg) ∧ ¬ (i + 3 < 0 ∨ L ≤ (i + 3).toNatClampNeg) ∧ ¬ (i + 4 < 0 ∨ L ≤ (i + 4).toNatClampNeg) ∧ ¬ (i + 5 < 0 ∨ L ≤ (i + 5).toNatClampNeg)
theorem arm0_ok {A : TT} {nl na ng t fu L : Nat} {xs : Nat → Int32} {i : Int32} {n : ag_N} {s : ag_S} (hg : rea L i) (h : ClS A nl na ng n s) (hr : RfS A nl na ng s) (hI : In A nl na ng t) (ht : t + 1 ≤ 520) (hf : 60 < fu) : ∃ out, arm0 fu L xs i n s = some out ∧ KK (t + 1) out.1 out.2 := by
  obtain ⟨code, n1, s1, v, s2, e1, e2, e3, e4, e5⟩ := op_line (fu := fu) (x := xs (i + 1).toNatClampNeg) (y := xs (i + 2).toNatClampNeg) h hr hI ht
  have e2 : f_X6_line fu (xs (i + 1).toNatClampNeg) (xs (i + 2).toNatClampNeg) s1 = some (v, s2) := e2
  refine ⟨(n1, s2), ?_, e5⟩
  simp only [arm0, if_neg hg.1, if_neg hg.2.1, if_neg hg.2.2.1, if_neg hg.2.2.2.1, if_neg hg.2.2.2.2, e1, bd_some, e2]
  exact fin1 e3 e4
theorem arm1_ok {A : TT} {nl na ng t fu L : Nat} {xs : Nat → Int32} {i : Int32} {n : ag_N} {s : ag_S} (hg : rea L i) (h : ClS A nl na ng n s) (hr : RfS A nl na ng s) (hI : In A nl na ng t) (ht : t + 1 ≤ 520) (hf : 60 < fu) : ∃ out, arm1 fu L xs i n s = some out ∧ KK (t + 1) out.1 out.2 := by
  obtain ⟨code, s1, v, s2, e1, e2, e3, e4, e5⟩ := op_income (fu := fu) (x := xs (i + 1).toNatClampNeg) (y := xs (i + 2).toNatClampNeg) h hr hI ht
  have e2 : f_X6_income fu (xs (i + 1).toNatClampNeg) (xs (i + 2).toNatClampNeg) s1 = some (v, s2) := e2
  refine ⟨(n, s2), ?_, e5⟩
  simp only [arm1, if_neg hg.1, if_neg hg.2.1, if_neg hg.2.2.1, if_neg hg.2.2.2.1, if_neg hg.2.2.2.2, e1, bd_some, e2]
  exact fin1 e3 e4
theorem arm2_ok {A : TT} {nl na ng t fu L : Nat} {xs : Nat → Int32} {i : Int32} {n : ag_N} {s : ag_S} (hg : rea L i) (h : ClS A nl na ng n s) (hr : RfS A nl na ng s) (hI : In A nl na ng t) (ht : t + 1 ≤ 520) (hf : 60 < fu) : ∃ out, arm2 fu L xs i n s = some out ∧ KK (t + 1) out.1 out.2 := by
  obtain ⟨code, n1, s1, v, s2, e1, e2, e3, e4, e5⟩ := op_amend (fu := fu) (x := xs (i + 1).toNatClampNeg) (y := xs (i + 2).toNatClampNeg) h hr hI ht
  have e2 : f_X6_amend fu (xs (i + 1).toNatClampNeg) (xs (i + 2).toNatClampNeg) s1 = some (v, s2) := e2
  refine ⟨(n1, s2), ?_, e5⟩
  simp only [arm2, if_neg hg.1, if_neg hg.2.1, if_neg hg.2.2.1, if_neg hg.2.2.2.1, if_neg hg.2.2.2.2, e1, bd_some, e2]
  exact fin1 e3 e4
theorem arm3_ok {A : TT} {nl na ng t fu L : Nat} {xs : Nat → Int32} {i : Int32} {n : ag_N} {s : ag_S} (hg : rea L i) (h : ClS A nl na ng n s) (hr : RfS A nl na ng s) (hI : In A nl na ng t) (ht : t + 1 ≤ 520) (hf : 60 < fu) : ∃ out, arm3 fu L xs i n s = some out ∧ KK (t + 1) out.1 out.2 := by
  obtain ⟨code, n1, s1, v, s2, e1, e2, e3, e4, e5⟩ := op_amendOn (fu := fu) (x := xs (i + 1).toNatClampNeg) (y := xs (i + 2).toNatClampNeg) h hr hI ht
  have e2 : f_X6_amendOn fu (xs (i + 1).toNatClampNeg) (xs (i + 2).toNatClampNeg) s1 = some (v, s2) := e2
  refine ⟨(n1, s2), ?_, e5⟩
  simp only [arm3, if_neg hg.1, if_neg hg.2.1, if_neg hg.2.2.1, if_neg hg.2.2.2.1, if_neg hg.2.2.2.2, e1, bd_some, e2]
  exact fin1 e3 e4
theorem arm4_ok {A : TT} {nl na ng t fu L : Nat} {xs : Nat → Int32} {i : Int32} {n : ag_N} {s : ag_S} (hg : rea L i) (h : ClS A nl na ng n s) (hr : RfS A nl na ng s) (hI : In A nl na ng t) (ht : t + 1 ≤ 520) (hf : 60 < fu) : ∃ out, arm4 fu L xs i n s = some out ∧ KK (t + 1) out.1 out.2 := by
  by_cases hz : xs (i + 3).toNatClampNeg = 0
  · obtain ⟨code, s1, v, s2, e1, e2, e3, e4, e5⟩ := op_vote (fu := fu) (x := xs (i + 1).toNatClampNeg) (y := xs (i + 2).toNatClampNeg) (z := 0) h hr hI ht hf (.inl rfl)
    have e2 : f_X6_vote fu (xs (i + 1).toNatClampNeg) (xs (i + 2).toNatClampNeg) 0 s1 = some (v, s2) := e2
    refine ⟨(n, s2), ?_, e5⟩
    simp only [arm4, if_neg hg.1, if_neg hg.2.1, if_neg hg.2.2.1, if_neg hg.2.2.2.1, if_neg hg.2.2.2.2, if_pos hz, e1, bd_some, e2]
    exact fin1 e3 e4
  · obtain ⟨code, s1, v, s2, e1, e2, e3, e4, e5⟩ := op_vote (fu := fu) (x := xs (i + 1).toNatClampNeg) (y := xs (i + 2).toNatClampNeg) (z := 1) h hr hI ht hf (.inr rfl)
    have e2 : f_X6_vote fu (xs (i + 1).toNatClampNeg) (xs (i + 2).toNatClampNeg) 1 s1 = some (v, s2) := e2
    refine ⟨(n, s2), ?_, e5⟩
    simp only [arm4, if_neg hg.1, if_neg hg.2.1, if_neg hg.2.2.1, if_neg hg.2.2.2.1, if_neg hg.2.2.2.2, if_neg hz, e1, bd_some, e2]
    exact fin1 e3 e4
theorem arm5_ok {A : TT} {nl na ng t fu L : Nat} {xs : Nat → Int32} {i : Int32} {n : ag_N} {s : ag_S} (hg : rea L i) (h : ClS A nl na ng n s) (hr : RfS A nl na ng s) (hI : In A nl na ng t) (ht : t + 1 ≤ 520) (hf : 60 < fu) : ∃ out, arm5 fu L xs i n s = some out ∧ KK (t + 1) out.1 out.2 := by
  obtain ⟨code, s1, v, s2, e1, e2, e3, e4, e5⟩ := op_decide (fu := fu) (x := xs (i + 1).toNatClampNeg) h hr hI ht hf
  have e2 : f_X6_decide fu (xs (i + 1).toNatClampNeg) s1 = some (v, s2) := e2
  refine ⟨(n, s2), ?_, e5⟩
  simp only [arm5, if_neg hg.1, if_neg hg.2.1, if_neg hg.2.2.1, if_neg hg.2.2.2.1, if_neg hg.2.2.2.2, e1, bd_some, e2]
  exact fin1 e3 e4
theorem arm6_ok {A : TT} {nl na ng t fu L : Nat} {xs : Nat → Int32} {i : Int32} {n : ag_N} {s : ag_S} (hg : rea L i) (h : ClS A nl na ng n s) (hr : RfS A nl na ng s) (hI : In A nl na ng t) (ht : t + 1 ≤ 520) (hf : 60 < fu) : ∃ out, arm6 fu L xs i n s = some out ∧ KK (t + 1) out.1 out.2 := by
  obtain ⟨code, s1, v, s2, e1, e2, e3, e4, e5⟩ := op_strike (fu := fu) (x := xs (i + 1).toNatClampNeg) h hr hI ht hf
  have e2 : f_X6_strike fu (xs (i + 1).toNatClampNeg) s1 = some (v, s2) := e2
  refine ⟨(n, s2), ?_, e5⟩
  simp only [arm6, if_neg hg.1, if_neg hg.2.1, if_neg hg.2.2.1, if_neg hg.2.2.2.1, if_neg hg.2.2.2.2, e1, bd_some, e2]
  exact fin1 e3 e4
theorem arm7_ok {A : TT} {nl na ng t fu L : Nat} {xs : Nat → Int32} {i : Int32} {n : ag_N} {s : ag_S} (hg : rea L i) (h : ClS A nl na ng n s) (hr : RfS A nl na ng s) (hI : In A nl na ng t) (ht : t + 1 ≤ 520) (hf : 60 < fu) : ∃ out, arm7 fu L xs i n s = some out ∧ KK (t + 1) out.1 out.2 := by
  obtain ⟨code, n1, s1, v, s2, e1, e2, e3, e4, e5⟩ := op_grant (fu := fu) (x1 := xs (i + 1).toNatClampNeg) (x2 := xs (i + 2).toNatClampNeg) (y := xs (i + 3).toNatClampNeg) (x4 := xs (i + 4).toNatClampNeg) (z := xs (i + 5).toNatClampNeg) h hr hI ht hf
  have e2 : f_X6_grant fu (xs (i + 1).toNatClampNeg) (xs (i + 2).toNatClampNeg) (xs (i + 3).toNatClampNeg) (xs (i + 4).toNatClampNeg) (xs (i + 5).toNatClampNeg) s1 = some (v, s2) := e2
  refine ⟨(n1, s2), ?_, e5⟩
  simp only [arm7, if_neg hg.1, if_neg hg.2.1, if_neg hg.2.2.1, if_neg hg.2.2.2.1, if_neg hg.2.2.2.2, e1, bd_some, e2]
  exact fin1 e3 e4
theorem arm8_ok {A : TT} {nl na ng t fu L : Nat} {xs : Nat → Int32} {i : Int32} {n : ag_N} {s : ag_S} (hg : rea L i) (h : ClS A nl na ng n s) (hr : RfS A nl na ng s) (hI : In A nl na ng t) (ht : t + 1 ≤ 520) (hf : 60 < fu) : ∃ out, arm8 fu L xs i n s = some out ∧ KK (t + 1) out.1 out.2 := by
  obtain ⟨code, s1, v, s2, e1, e2, e3, e4, e5⟩ := op_pay (fu := fu) (x := xs (i + 1).toNatClampNeg) (y := xs (i + 2).toNatClampNeg) h hr hI ht
  have e2 : f_X6_pay fu (xs (i + 1).toNatClampNeg) (xs (i + 2).toNatClampNeg) s1 = some (v, s2) := e2
  refine ⟨(n, s2), ?_, e5⟩
  simp only [arm8, if_neg hg.1, if_neg hg.2.1, if_neg hg.2.2.1, if_neg hg.2.2.2.1, if_neg hg.2.2.2.2, e1, bd_some, e2]
  exact fin1 e3 e4
theorem arm9_ok {A : TT} {nl na ng t fu L : Nat} {xs : Nat → Int32} {i : Int32} {n : ag_N} {s : ag_S} (hg : rea L i) (h : ClS A nl na ng n s) (hr : RfS A nl na ng s) (hI : In A nl na ng t) (ht : t + 1 ≤ 520) (hf : 60 < fu) : ∃ out, arm9 fu L xs i n s = some out ∧ KK (t + 1) out.1 out.2 := by
  obtain ⟨code, s1, v, s2, e1, e2, e3, e4, e5⟩ := op_report (fu := fu) (x := xs (i + 1).toNatClampNeg) h hr hI ht
  have e2 : f_X6_report fu (xs (i + 1).toNatClampNeg) s1 = some (v, s2) := e2
  refine ⟨(n, s2), ?_, e5⟩
  simp only [arm9, if_neg hg.1, if_neg hg.2.1, if_neg hg.2.2.1, if_neg hg.2.2.2.1, if_neg hg.2.2.2.2, e1, bd_some, e2]
  exact fin9 e3 e4 (report_01 e2)
theorem arm10_ok {A : TT} {nl na ng t fu L : Nat} {xs : Nat → Int32} {i : Int32} {n : ag_N} {s : ag_S} (hg : rea L i) (h : ClS A nl na ng n s) (hr : RfS A nl na ng s) (hI : In A nl na ng t) (ht : t + 1 ≤ 520) (hf : 60 < fu) : ∃ out, arm10 fu L xs i n s = some out ∧ KK (t + 1) out.1 out.2 := by
  obtain ⟨code, s1, v, s2, e1, e2, e3, e4, e5⟩ := op_spend (fu := fu) (x := xs (i + 1).toNatClampNeg) (y := xs (i + 2).toNatClampNeg) h hr hI ht hf
  have e2 : f_X6_spend fu (xs (i + 1).toNatClampNeg) (xs (i + 2).toNatClampNeg) s1 = some (v, s2) := e2
  refine ⟨(n, s2), ?_, e5⟩
  simp only [arm10, if_neg hg.1, if_neg hg.2.1, if_neg hg.2.2.1, if_neg hg.2.2.2.1, if_neg hg.2.2.2.2, e1, bd_some, e2]
  exact fin1 e3 e4
theorem arm11_ok {A : TT} {nl na ng t fu L : Nat} {xs : Nat → Int32} {i : Int32} {n : ag_N} {s : ag_S} (hg : rea L i) (h : ClS A nl na ng n s) (hr : RfS A nl na ng s) (hI : In A nl na ng t) (ht : t + 1 ≤ 520) (hf : 60 < fu) : ∃ out, arm11 fu L xs i n s = some out ∧ KK (t + 1) out.1 out.2 := by
  obtain ⟨code, s1, v, s2, e1, e2, e3, e4, e5⟩ := op_audit (fu := fu) (x := xs (i + 1).toNatClampNeg) (y := xs (i + 2).toNatClampNeg) h hr hI ht
  have e2 : f_X6_audit fu (xs (i + 1).toNatClampNeg) (xs (i + 2).toNatClampNeg) s1 = some (v, s2) := e2
  refine ⟨(n, s2), ?_, e5⟩
  simp only [arm11, if_neg hg.1, if_neg hg.2.1, if_neg hg.2.2.1, if_neg hg.2.2.2.1, if_neg hg.2.2.2.2, e1, bd_some, e2]
  exact fin1 e3 e4
theorem arm12_ok {A : TT} {nl na ng t fu L : Nat} {xs : Nat → Int32} {i : Int32} {n : ag_N} {s : ag_S} (hg : rea L i) (h : ClS A nl na ng n s) (hr : RfS A nl na ng s) (hI : In A nl na ng t) (ht : t + 1 ≤ 520) (hf : 60 < fu) : ∃ out, arm12 fu L xs i n s = some out ∧ KK (t + 1) out.1 out.2 := by
  obtain ⟨code, s1, v, s2, e1, e2, e3, e4, e5⟩ := op_repay (fu := fu) (x := xs (i + 1).toNatClampNeg) (y := xs (i + 2).toNatClampNeg) h hr hI ht
  have e2 : f_X6_repay fu (xs (i + 1).toNatClampNeg) (xs (i + 2).toNatClampNeg) s1 = some (v, s2) := e2
  refine ⟨(n, s2), ?_, e5⟩
  simp only [arm12, if_neg hg.1, if_neg hg.2.1, if_neg hg.2.2.1, if_neg hg.2.2.2.1, if_neg hg.2.2.2.2, e1, bd_some, e2]
  exact fin1 e3 e4
theorem arm13_ok {A : TT} {nl na ng t fu L : Nat} {xs : Nat → Int32} {i : Int32} {n : ag_N} {s : ag_S} (hg : rea L i) (h : ClS A nl na ng n s) (hr : RfS A nl na ng s) (hI : In A nl na ng t) (ht : t + 1 ≤ 520) (hf : 60 < fu) : ∃ out, arm13 fu L xs i n s = some out ∧ KK (t + 1) out.1 out.2 := by
  obtain ⟨code, s1, v, s2, e1, e2, e3, e4, e5⟩ := op_target (fu := fu) (x := xs (i + 1).toNatClampNeg) h hr hI ht
  have e2 : f_X6_target fu (xs (i + 1).toNatClampNeg) s1 = some (v, s2) := e2
  refine ⟨(n, s2), ?_, e5⟩
  simp only [arm13, if_neg hg.1, if_neg hg.2.1, if_neg hg.2.2.1, if_neg hg.2.2.2.1, if_neg hg.2.2.2.2, e1, bd_some, e2]
  exact fin1 e3 e4
theorem arm14_ok {A : TT} {nl na ng t fu L : Nat} {xs : Nat → Int32} {i : Int32} {n : ag_N} {s : ag_S} (hg : rea L i) (h : ClS A nl na ng n s) (hr : RfS A nl na ng s) (hI : In A nl na ng t) (ht : t + 1 ≤ 520) (hf : 60 < fu) : ∃ out, arm14 fu L xs i n s = some out ∧ KK (t + 1) out.1 out.2 := by
  obtain ⟨code, s1, v, s2, e1, e2, e3, e4, e5⟩ := op_month (fu := fu) (x := xs (i + 1).toNatClampNeg) h hr hI ht hf
  have e2 : f_X6_month fu (xs (i + 1).toNatClampNeg) s1 = some (v, s2) := e2
  refine ⟨(n, s2), ?_, e5⟩
  simp only [arm14, if_neg hg.1, if_neg hg.2.1, if_neg hg.2.2.1, if_neg hg.2.2.2.1, if_neg hg.2.2.2.2, e1, bd_some, e2]
  exact fin1 e3 e4
theorem arm15_ok {A : TT} {nl na ng t fu L : Nat} {xs : Nat → Int32} {i : Int32} {n : ag_N} {s : ag_S} (hg : rea L i) (h : ClS A nl na ng n s) (hr : RfS A nl na ng s) (hI : In A nl na ng t) (ht : t + 1 ≤ 520) (hf : 60 < fu) : ∃ out, arm15 fu L xs i n s = some out ∧ KK (t + 1) out.1 out.2 := by
  obtain ⟨code, s1, v, s2, e1, e2, e3, e4, e5⟩ := op_ofLine (fu := fu) (x := xs (i + 1).toNatClampNeg) (y := xs (i + 2).toNatClampNeg) h hr hI ht hf
  have e2 : f_X6_ofLine fu (xs (i + 1).toNatClampNeg) (xs (i + 2).toNatClampNeg) s1 = some (v, s2) := e2
  refine ⟨(n, s2), ?_, e5⟩
  simp only [arm15, if_neg hg.1, if_neg hg.2.1, if_neg hg.2.2.1, if_neg hg.2.2.2.1, if_neg hg.2.2.2.2, e1, bd_some, e2]
  exact fin1 e3 e4
theorem arm16_ok {A : TT} {nl na ng t fu L : Nat} {xs : Nat → Int32} {i : Int32} {n : ag_N} {s : ag_S} (hg : rea L i) (h : ClS A nl na ng n s) (hr : RfS A nl na ng s) (hI : In A nl na ng t) (ht : t + 1 ≤ 520) (hf : 60 < fu) : ∃ out, arm16 fu L xs i n s = some out ∧ KK (t + 1) out.1 out.2 := by
  obtain ⟨code, s1, v, s2, e1, e2, e3, e4, e5⟩ := op_standsAnew (fu := fu) (x := xs (i + 1).toNatClampNeg) h hr hI ht hf
  have e2 : f_X6_standsAnew fu (xs (i + 1).toNatClampNeg) s1 = some (v, s2) := e2
  refine ⟨(n, s2), ?_, e5⟩
  simp only [arm16, if_neg hg.1, if_neg hg.2.1, if_neg hg.2.2.1, if_neg hg.2.2.2.1, if_neg hg.2.2.2.2, e1, bd_some, e2]
  exact fin1 e3 e4
theorem arm17_ok {A : TT} {nl na ng t fu L : Nat} {xs : Nat → Int32} {i : Int32} {n : ag_N} {s : ag_S} (hg : rea L i) (h : ClS A nl na ng n s) (hr : RfS A nl na ng s) (hI : In A nl na ng t) (ht : t + 1 ≤ 520) (hf : 60 < fu) : ∃ out, arm17 fu L xs i n s = some out ∧ KK (t + 1) out.1 out.2 := by
  obtain ⟨code, s1, v, s2, e1, e2, e3, e4, e5⟩ := op_ofAmendment (fu := fu) (x := xs (i + 1).toNatClampNeg) (y := xs (i + 2).toNatClampNeg) h hr hI ht hf
  have e2 : f_X6_ofAmendment fu (xs (i + 1).toNatClampNeg) (xs (i + 2).toNatClampNeg) s1 = some (v, s2) := e2
  refine ⟨(n, s2), ?_, e5⟩
  simp only [arm17, if_neg hg.1, if_neg hg.2.1, if_neg hg.2.2.1, if_neg hg.2.2.2.1, if_neg hg.2.2.2.2, e1, bd_some, e2]
  exact fin1 e3 e4
theorem arm18_ok {A : TT} {nl na ng t fu L : Nat} {xs : Nat → Int32} {i : Int32} {n : ag_N} {s : ag_S} (hg : rea L i) (h : ClS A nl na ng n s) (hr : RfS A nl na ng s) (hI : In A nl na ng t) (ht : t + 1 ≤ 520) (hf : 60 < fu) : ∃ out, arm18 fu L xs i n s = some out ∧ KK (t + 1) out.1 out.2 := by
  obtain ⟨code, s1, v, s2, e1, e2, e3, e4, e5⟩ := op_ofGrant (fu := fu) (x := xs (i + 1).toNatClampNeg) (y := xs (i + 2).toNatClampNeg) h hr hI ht
  have e2 : f_X6_ofGrant fu (xs (i + 1).toNatClampNeg) (xs (i + 2).toNatClampNeg) s1 = some (v, s2) := e2
  refine ⟨(n, s2), ?_, e5⟩
  simp only [arm18, if_neg hg.1, if_neg hg.2.1, if_neg hg.2.2.1, if_neg hg.2.2.2.1, if_neg hg.2.2.2.2, e1, bd_some, e2]
  exact fin1 e3 e4
theorem arm19_ok {A : TT} {nl na ng t fu L : Nat} {xs : Nat → Int32} {i : Int32} {n : ag_N} {s : ag_S} (hg : rea L i) (h : ClS A nl na ng n s) (hr : RfS A nl na ng s) (hI : In A nl na ng t) (ht : t + 1 ≤ 520) (hf : 60 < fu) : ∃ out, arm19 fu L xs i n s = some out ∧ KK (t + 1) out.1 out.2 := by
  obtain ⟨code, s1, v, s2, e1, e2, e3, e4, e5⟩ := op_owes (fu := fu) (x := xs (i + 1).toNatClampNeg) h hr hI ht
  have e2 : f_X6_owes fu (xs (i + 1).toNatClampNeg) s1 = some (v, s2) := e2
  refine ⟨(n, s2), ?_, e5⟩
  simp only [arm19, if_neg hg.1, if_neg hg.2.1, if_neg hg.2.2.1, if_neg hg.2.2.2.1, if_neg hg.2.2.2.2, e1, bd_some, e2]
  exact fin1 e3 e4
theorem arm20_ok {A : TT} {nl na ng t fu L : Nat} {xs : Nat → Int32} {i : Int32} {n : ag_N} {s : ag_S} (hg : rea L i) (h : ClS A nl na ng n s) (hr : RfS A nl na ng s) (hI : In A nl na ng t) (ht : t + 1 ≤ 520) (hf : 60 < fu) : ∃ out, arm20 fu L xs i n s = some out ∧ KK (t + 1) out.1 out.2 := by
  refine ⟨(n, ag_up s 6 0 0 0), ?_, A, nl, na, ng, h.same fun k f j _ q => ag_up_ne fun e => q (by rw [e.1]; decide), hr.u6, hI.mono ht⟩
  unfold arm20 f_X5_reserve f_X6_reserve
  rw [bd_some, bd_some, if_pos]
  show s 5 5 0 = ag_up s 6 0 0 0 6 2 0
  rw [hr.u6.z2, h.c5 5 (by decide)]
theorem arm21_ok {A : TT} {nl na ng t fu L : Nat} {xs : Nat → Int32} {i : Int32} {n : ag_N} {s : ag_S} (hg : rea L i) (h : ClS A nl na ng n s) (hr : RfS A nl na ng s) (hI : In A nl na ng t) (ht : t + 1 ≤ 520) (hf : 60 < fu) : ∃ out, arm21 fu L xs i n s = some out ∧ KK (t + 1) out.1 out.2 := by
  obtain ⟨code, s1, v, s2, e1, e2, e3, e4, e5⟩ := op_ofSource (fu := fu) (x := xs (i + 1).toNatClampNeg) (y := xs (i + 2).toNatClampNeg) h hr hI ht hf
  have e2 : f_X6_ofSource fu (xs (i + 1).toNatClampNeg) (xs (i + 2).toNatClampNeg) s1 = some (v, s2) := e2
  refine ⟨(n, s2), ?_, e5⟩
  simp only [arm21, if_neg hg.1, if_neg hg.2.1, if_neg hg.2.2.1, if_neg hg.2.2.2.1, if_neg hg.2.2.2.2, e1, bd_some, e2]
  exact fin1 e3 e4
theorem lawOp_ok {t fu L : Nat} {xs : Nat → Int32} {i o : Int32} {n : ag_N} {s : ag_S} (hg : rea L i) (hK : KK t n s) (ht : t + 1 ≤ 520) (hf : 60 < fu) : ∃ out, lawOp fu L xs i o n s = some out ∧ KK (t + 1) out.1 out.2 := by
  obtain ⟨A, nl, na, ng, h, hr, hI⟩ := hK
  unfold lawOp
  by_cases c0 : o = 0
  · rw [if_pos c0]
    exact arm0_ok hg h hr hI ht hf
  rw [if_neg c0]
  by_cases c1 : o = 1
  · rw [if_pos c1]
    exact arm1_ok hg h hr hI ht hf
  rw [if_neg c1]
  by_cases c2 : o = 2
  · rw [if_pos c2]
    exact arm2_ok hg h hr hI ht hf
  rw [if_neg c2]
  by_cases c3 : o = 3
  · rw [if_pos c3]
    exact arm3_ok hg h hr hI ht hf
  rw [if_neg c3]
  by_cases c4 : o = 4
  · rw [if_pos c4]
    exact arm4_ok hg h hr hI ht hf
  rw [if_neg c4]
  by_cases c5 : o = 5
  · rw [if_pos c5]
    exact arm5_ok hg h hr hI ht hf
  rw [if_neg c5]
  by_cases c6 : o = 6
  · rw [if_pos c6]
    exact arm6_ok hg h hr hI ht hf
  rw [if_neg c6]
  by_cases c7 : o = 7
  · rw [if_pos c7]
    exact arm7_ok hg h hr hI ht hf
  rw [if_neg c7]
  by_cases c8 : o = 8
  · rw [if_pos c8]
    exact arm8_ok hg h hr hI ht hf
  rw [if_neg c8]
  by_cases c9 : o = 9
  · rw [if_pos c9]
    exact arm9_ok hg h hr hI ht hf
  rw [if_neg c9]
  by_cases c10 : o = 10
  · rw [if_pos c10]
    exact arm10_ok hg h hr hI ht hf
  rw [if_neg c10]
  by_cases c11 : o = 11
  · rw [if_pos c11]
    exact arm11_ok hg h hr hI ht hf
  rw [if_neg c11]
  by_cases c12 : o = 12
  · rw [if_pos c12]
    exact arm12_ok hg h hr hI ht hf
  rw [if_neg c12]
  by_cases c13 : o = 13
  · rw [if_pos c13]
    exact arm13_ok hg h hr hI ht hf
  rw [if_neg c13]
  by_cases c14 : o = 14
  · rw [if_pos c14]
    exact arm14_ok hg h hr hI ht hf
  rw [if_neg c14]
  by_cases c15 : o = 15
  · rw [if_pos c15]
    exact arm15_ok hg h hr hI ht hf
  rw [if_neg c15]
  by_cases c16 : o = 16
  · rw [if_pos c16]
    exact arm16_ok hg h hr hI ht hf
  rw [if_neg c16]
  by_cases c17 : o = 17
  · rw [if_pos c17]
    exact arm17_ok hg h hr hI ht hf
  rw [if_neg c17]
  by_cases c18 : o = 18
  · rw [if_pos c18]
    exact arm18_ok hg h hr hI ht hf
  rw [if_neg c18]
  by_cases c19 : o = 19
  · rw [if_pos c19]
    exact arm19_ok hg h hr hI ht hf
  rw [if_neg c19]
  by_cases c20 : o = 20
  · rw [if_pos c20]
    exact arm20_ok hg h hr hI ht hf
  rw [if_neg c20]
  by_cases c21 : o = 21
  · rw [if_pos c21]
    exact arm21_ok hg h hr hI ht hf
  rw [if_neg c21]
  exact ⟨(n, s), rfl, A, nl, na, ng, h, hr, hI.mono ht⟩
theorem lawLoop_ok {fu L : Nat} {xs : Nat → Int32} (hL : L ≤ 3072) (hf : 60 < fu) : ∀ (k j t : Nat) (n : ag_N) (s : ag_S), 0 < k → L < j + 6 * k → j ≤ 3100 → t + k ≤ 520 → KK t n s → lawLoop fu L xs k (nI j) n s = some () := by
  intro k
  induction k with
  | zero => intro j t n s h; omega
  | succ k ih =>
    intro j t n s _ h1 h2 h3 hK
    have e0 : (Int32.ofNat L - 6 < nI j) ↔ L < j + 6 := by
      have eL : (Int32.ofNat L).toInt = (L : Int) := nI_toInt (show L < 2 ^ 31 by omega)
      rw [Int32.lt_iff_toInt_lt, sub_toInt (by rw [eL, show (6 : Int32).toInt = 6 from by decide]; omega) (by rw [eL, show (6 : Int32).toInt = 6 from by decide]; omega), eL, show (6 : Int32).toInt = 6 from by decide, nI_toInt (show j < 2 ^ 31 by omega)]
      omega
    rw [lawLoop]
    by_cases c : L < j + 6
    · rw [if_pos (e0.mpr c)]
    · rw [if_neg (fun q => c (e0.mp q)), if_neg (nI_in (show j < L by omega) (show L < 2 ^ 31 by omega))]
      have r : ∀ d : Nat, d ≤ 5 → ¬ (nI j + nI d < 0 ∨ L ≤ (nI j + nI d).toNatClampNeg) := fun d hd => by
        rw [nI_add]
        exact nI_in (show j + d < L by omega) (show L < 2 ^ 31 by omega)
      obtain ⟨out, e1, e2⟩ := lawOp_ok (fu := fu) (xs := xs) (o := xs (nI j).toNatClampNeg &&& 31) (i := nI j) ⟨r 1 (by decide), r 2 (by decide), r 3 (by decide), r 4 (by decide), r 5 (by decide)⟩ hK (by omega) hf
      rw [e1]
      show lawLoop fu L xs k (nI j + nI 6) out.1 out.2 = some ()
      rw [nI_add]
      exact ih (j + 6) (t + 1) out.1 out.2 (by omega) (by omega) (by omega) (by omega) e2
