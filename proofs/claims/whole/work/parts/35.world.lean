/-! ===== what stays, out of the Statement's words ===== -/
theorem ag_arrT {s : State} {A : Array Value} {ty : FieldType} (h : (Cond.arrayClass ty).before A s = true) : ∃ c : ClassId, s.vm.findClass ("[" ++ ty.toString) = some c ∧ ArrOfT s c ty := by
  obtain ⟨c, k, comp, h1, h2, h3⟩ := Cond.arrayClass_spec h
  exact ⟨c, h1, fun n z => ⟨fun _ h => (by cases h), k, h2, comp, h3⟩⟩
theorem ag_str {s : State} {A : Array Value} {a tx : String} {b : Nat} (h : (Cond.stringRef a b tx).before A s = true) : ∃ q, vk_R a b tx q s := by
  cases hc : s.vm.findClass a with
  | none => simp [Cond.before, Cond.holds, Cond.value, hc] at h
  | some cur =>
    obtain ⟨k, cf, i, q, -, -, -, -, -, h6⟩ := Cond.stringRef_spec (args := A) hc h
    exact ⟨q, vk_R.of h h6⟩
theorem ag_len0of {s : State} {A : Array Value} {t : Term} (h : (Cond.eq (.length t) (.int 0)).before A s = true) : (Term.length t).eval A s none [] s = some (.int (Int32.ofNat 0)) := by
  simp only [Cond.before, Cond.holds, Cond.value] at h
  have h2 : (Term.int 0).eval A s none [] s = some (.int 0) := rfl
  rw [h2] at h
  cases hv : (Term.length t).eval A s none [] s with
  | none => rw [hv] at h; cases h
  | some v =>
    rw [hv] at h
    cases v <;> simp at h
    subst h
    rfl
theorem ag_kn {s : State} {A : Array Value} (hT : ∀ w ∈ ag_tbl, w.before A s = true) : ∀ ci : Nat, ∃ (cC : ClassId) (iS : Nat → Nat), ∀ q : vw_C, vwCl[ci]? = some q → u_Kn s q.1 q.2.1 q.2.2 cC iS := by
  intro ci
  match ci with
  | 0 =>
    obtain ⟨cC, iS, h⟩ := u_known hT inJx4a65c (hT _ q33)
    exact ⟨cC, iS, fun q hq => by cases hq; exact h⟩
  | 1 =>
    obtain ⟨cC, iS, h⟩ := u_known hT inX0 (hT _ q386)
    exact ⟨cC, iS, fun q hq => by cases hq; exact h⟩
  | 2 =>
    obtain ⟨cC, iS, h⟩ := u_known hT inX1 (hT _ q588)
    exact ⟨cC, iS, fun q hq => by cases hq; exact h⟩
  | 3 =>
    obtain ⟨cC, iS, h⟩ := u_known hT inX2 (hT _ q301)
    exact ⟨cC, iS, fun q hq => by cases hq; exact h⟩
  | 4 =>
    obtain ⟨cC, iS, h⟩ := u_known hT inX3 (hT _ q136)
    exact ⟨cC, iS, fun q hq => by cases hq; exact h⟩
  | 5 =>
    obtain ⟨cC, iS, h⟩ := u_known hT inX4 (hT _ q59)
    exact ⟨cC, iS, fun q hq => by cases hq; exact h⟩
  | 6 =>
    obtain ⟨cC, iS, h⟩ := u_known hT inX5 (hT _ q25)
    exact ⟨cC, iS, fun q hq => by cases hq; exact h⟩
  | 7 =>
    obtain ⟨cC, iS, h⟩ := u_known hT inX6 (hT _ q783)
    exact ⟨cC, iS, fun q hq => by cases hq; exact h⟩
  | n + 8 => exact ⟨0, id, fun q h => by cases h⟩
theorem ag_G_of {s : State} {A : Array Value} (hts : ∀ w ∈ lw_tbl, w.before A s = true) (hgv : (Jvm.Cond.and given_1 narrow_1).before A s = true) : ∃ z : ag_Z, z.2.2.1 = s.heap.size ∧ ag_G z s s.heap := by
  have hT : ∀ w ∈ ag_tbl, w.before A s = true := fun w h => hts w (List.mem_filter.mp h).1
  have hX : ∀ w ∈ ag_xw, w.before A s = true := fun w h => hts w (List.mem_filter.mp h).1
  have hg := flat_of_before _ hgv
  have hA : ∀ a : Nat, a < s.heap.size → ¬ (s.heap.size ≤ a) := fun a h => by omega
  obtain ⟨dC, hdC⟩ := Classical.axiomOfChoice (ag_kn hT)
  obtain ⟨dI, hdI⟩ := Classical.axiomOfChoice hdC
  obtain ⟨c0, n0, a0⟩ := ag_arrT (hT _ q882)
  obtain ⟨c1, n1, a1⟩ := ag_arrT (hT _ q883)
  obtain ⟨c2, n2, a2⟩ := ag_arrT (hT _ q1054)
  obtain ⟨comp, c3, k3, f1, f2, f3, f4, f5⟩ := Cond.arrayOver_spec (n := "java/lang/Object") (hts _ (List.mem_append_right _ (List.mem_of_getElem? (i := 125) (by decide +kernel))))
  obtain ⟨mi, hmi⟩ := va_Mi.of (s := s) (args := A) (C := "[Ljava/lang/Object;") (hg _ (by decide +kernel))
  obtain ⟨pE, hpE, hTE⟩ := va_Tof (s := s) (args := A) (tm := .static "java/util/ArrayList" "DEFAULTCAPACITY_EMPTY_ELEMENTDATA" "[Ljava/lang/Object;") (ty := .object "java/lang/Object") (N := 0) (f := fun _ => .null) (A := fun q => s.heap.size ≤ q) (by decide) (hg _ (by decide +kernel)) (ag_len0of (hg _ (by decide +kernel))) (fun j hj => absurd hj (Nat.not_lt_zero j)) hA
  refine ⟨((dC, dI), (fun j => match j with | 0 => c0 | 1 => c1 | 2 => c2 | 3 => c3 | _ => mi), s.heap.size, pE), rfl, ⟨fun ci q h => hdI ci q h, fun k q h => ?_⟩, fun w hw => va_Nw.of ?_ (hX w hw), fun a b tx h => ag_str (hts _ h), vx_Zqof (hts _ (List.mem_append_right _ (List.mem_of_getElem? (i := 224) (by decide +kernel)))) (hT _ q12) (hg _ (by decide +kernel)) hA, vx_Zqof (hts _ (List.mem_append_right _ (List.mem_of_getElem? (i := 226) (by decide +kernel)))) (hT _ q12) (hg _ (by decide +kernel)) hA, va_Zref (hts _ (List.mem_append_right _ (List.mem_of_getElem? (i := 45) (by decide +kernel)))) (hT _ q4) hpE hA, hTE, hmi, va_AO.of (hts _ (List.mem_append_right _ (List.mem_of_getElem? (i := 125) (by decide +kernel)))), fun E T h1 h2 h3 => va_Nc.of (args := A) ?_⟩
  · match k, h with
    | 0, h => cases h; exact ⟨a0, n0⟩
    | 1, h => cases h; exact ⟨a1, n1⟩
    | 2, h => cases h; exact ⟨a2, n2⟩
    | 3, h => cases h; exact ⟨fun n z => ⟨fun _ h => (by cases h), k3, f3, comp, f4⟩, k3, comp, f3, f4, f1, f5⟩
    | k + 4, h => cases h
  · rcases ag_xw_sort hw with ⟨C, T, rfl⟩ | ⟨x, rfl⟩ <;> rfl
  · refine hg _ ?_
    simp only [ag_exn, List.mem_cons, List.not_mem_nil, or_false] at h1 h2
    rcases h1 with rfl | rfl | rfl <;> rcases h2 with rfl | rfl | rfl <;> first | exact absurd rfl h3 | decide +kernel
