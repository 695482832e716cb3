/-! ===== how it begins ===== -/
def out0 : ag_N × ag_S := (lawStart 1000 (fun _ => 0) (fun _ _ _ => -1)).getD (fun _ => 0, fun _ _ _ => 0)
set_option maxRecDepth 100000 in
theorem out0_is : (lawStart 1000 (fun _ => 0) (fun _ _ _ => -1)).isSome = true := by decide +kernel
theorem out0_some : lawStart 1000 (fun _ => 0) (fun _ _ _ => -1) = some out0 := by
  have h := out0_is
  unfold out0
  cases e : lawStart 1000 (fun _ => 0) (fun _ _ _ => -1) with
  | none => rw [e] at h; cases h
  | some o => rfl
def tab0 : TT := fun k f i => match k, f with
  | 0, 1 => out0.2 34 0 (nI i)
  | 0, 2 => out0.2 35 0 (nI i)
  | 1, 1 => out0.2 36 0 (nI i)
  | 2, 1 => out0.2 38 0 (nI i)
  | 2, 2 => out0.2 39 0 (nI i)
  | 2, 5 => out0.2 40 0 (nI i)
  | 2, 6 => out0.2 41 0 (nI i)
  | 2, 4 => out0.2 42 0 (nI i)
  | 3, 1 => out0.2 44 0 (nI i)
  | 3, 2 => out0.2 45 0 (nI i)
  | 3, 3 => out0.2 46 0 (nI i)
  | 3, 5 => out0.2 47 0 (nI i)
  | 3, 6 => out0.2 48 0 (nI i)
  | 6, 0 => out0.2 49 0 (nI i)
  | 4, 0 => out0.2 51 0 (nI i)
  | 4, 1 => out0.2 52 0 (nI i)
  | 4, 4 => out0.2 53 0 (nI i)
  | 4, 5 => out0.2 54 0 (nI i)
  | 4, 2 => out0.2 55 0 (nI i)
  | 4, 3 => out0.2 56 0 (nI i)
  | 4, 6 => out0.2 57 0 (nI i)
  | 4, 7 => out0.2 58 0 (nI i)
  | k, f => out0.2 k f (nI i)
set_option maxRecDepth 100000 in
theorem k0_z : out0.2 6 7 0 = nI 0 ∧ out0.2 6 13 0 = nI 0 ∧ out0.2 6 20 0 = nI 0 ∧ out0.2 6 1 0 = tab0 5 7 0 ∧ out0.2 6 2 0 = tab0 5 5 0 ∧ out0.2 6 3 0 = tab0 5 6 0 := by decide +kernel
set_option maxRecDepth 100000 in
theorem k0_0 : ∀ (f : Fin 3) (i : Fin 4), out0.2 0 f.val (nI i.val) = tab0 0 f.val i.val := by decide +kernel
set_option maxRecDepth 100000 in
theorem k0_1 : ∀ (f : Fin 2) (i : Fin 8), out0.2 1 f.val (nI i.val) = tab0 1 f.val i.val := by decide +kernel
set_option maxRecDepth 100000 in
theorem k0_5 : ∀ f : Fin 8, out0.2 5 f.val 0 = tab0 5 f.val 0 := by decide +kernel
set_option maxRecDepth 100000 in
theorem k0_n : ∀ i : Fin 4, tab0 0 0 i.val = nI i.val ∧ (tab0 0 1 i.val).toInt = 0 ∧ (tab0 0 2 i.val).toInt = 0 := by decide +kernel
set_option maxRecDepth 100000 in
theorem k0_r : ∀ i : Fin 8, tab0 1 0 i.val = nI i.val := by decide +kernel
set_option maxRecDepth 100000 in
theorem k0_l : ∀ l : Fin 10, tab0 2 4 l.val = 0 ∧ tab0 2 5 l.val = 0 ∧ tab0 2 6 l.val = 0 := by decide +kernel
set_option maxRecDepth 100000 in
theorem k0_a : ∀ a : Fin 40, tab0 3 5 a.val = 0 ∧ tab0 4 5 a.val = 0 ∧ tab0 4 6 a.val = 0 ∧ tab0 4 7 a.val = 0 := by decide +kernel
set_option maxRecDepth 100000 in
theorem k0_v : ∀ i : Fin 360, tab0 6 0 i.val = 0 := by decide +kernel
set_option maxRecDepth 100000 in
theorem k0_s : (tab0 5 5 0).toInt = 0 ∧ 0 ≤ (tab0 5 6 0).toInt ∧ (tab0 5 6 0).toInt ≤ 50 := by decide +kernel
set_option maxRecDepth 100000 in
theorem k0_c : out0.1 2 = 0 ∧ out0.1 3 = 0 ∧ out0.1 4 = 0 ∧ out0.1 20 = 1 ∧ out0.1 21 = 1 ∧ out0.1 22 = 0 ∧ out0.1 23 = 0 ∧ out0.1 24 = 0 := by decide +kernel
set_option maxRecDepth 100000 in
theorem k0_L : out0.2 10 2 0 = nI 4 ∧ out0.2 10 1 0 = nI 0 ∧ out0.2 80 0 (nI 0) = nI 10 ∧ out0.2 11 2 0 = nI 8 ∧ out0.2 11 1 0 = nI 0 ∧ out0.2 81 0 (nI 0) = nI 10 ∧ out0.2 12 2 0 = nI 0 ∧ out0.2 12 1 0 = -2 ∧ out0.2 13 2 0 = nI 0 ∧ out0.2 13 1 0 = -2 ∧ out0.2 14 2 0 = nI 0 ∧ out0.2 14 1 0 = -2 := by decide +kernel
set_option maxRecDepth 100000 in
theorem k0_q : ∀ q : Fin 8, (q.val < 4 → out0.2 20 0 (nI q.val) = nI q.val) ∧ out0.2 21 0 (nI q.val) = nI q.val := by decide +kernel
theorem cls0 : ClS tab0 0 0 0 out0.1 out0.2 := by
  obtain ⟨n2, n3, n4, n20, n21, n22, n23, n24⟩ := k0_c
  obtain ⟨a1, a2, a3, b1, b2, b3, c1, c2, d1, d2, e1, e2⟩ := k0_L
  refine ⟨⟨a1, by decide, by omega, ?_⟩, ⟨b1, by decide, by omega, ?_⟩, ⟨c1, by decide, by omega, ?_⟩, ⟨d1, by decide, by omega, ?_⟩, ⟨e1, by decide, by omega, ?_⟩, n2, n3, n4, fun f i hf hi => k0_0 ⟨f, hf⟩ ⟨i, hi⟩, fun f i hf hi => k0_1 ⟨f, hf⟩ ⟨i, hi⟩, fun f i hf hi => absurd hi (by omega), fun f i hf hi => absurd hi (by omega), fun f i hf hi => absurd hi (by omega), fun f hf => k0_5 ⟨f, hf⟩⟩
  · rw [if_neg (by decide)]
    exact ⟨0, 10, by omega, a2, a3, by decide, .inl rfl, fun q hq => (k0_q ⟨q, by omega⟩).1 hq⟩
  · rw [if_neg (by decide)]
    exact ⟨0, 10, by omega, b2, b3, by decide, .inl rfl, fun q hq => (k0_q ⟨q, by omega⟩).2⟩
  · rw [if_pos rfl]; exact c2
  · rw [if_pos rfl]; exact d2
  · rw [if_pos rfl]; exact e2
theorem rfs0 : RfS tab0 0 0 0 out0.2 := by
  obtain ⟨z7, z13, z20, z1, z2, z3⟩ := k0_z
  exact ⟨z7, z13, z20, z1, z2, z3, fun _ _ => rfl, fun _ _ => rfl, fun _ _ => rfl, fun _ _ => rfl, fun _ _ => rfl, fun _ _ => rfl, fun _ _ => rfl, fun _ _ => rfl, fun _ _ => rfl, fun _ _ => rfl, fun _ _ => rfl, fun _ _ => rfl, fun _ _ => rfl, fun _ _ => rfl, fun _ _ => rfl, fun _ _ => rfl, fun _ _ => rfl, fun _ _ => rfl, fun _ _ => rfl, fun _ _ => rfl, fun _ _ => rfl, fun _ _ => rfl⟩
theorem in0 : In tab0 0 0 0 0 := by
  have no : ∀ {a : Nat} {P : Prop}, a < 0 → P := fun h => absurd h (by omega)
  obtain ⟨s1, s2, s3⟩ := k0_s
  refine ⟨⟨by decide, by decide, by decide, fun i hi => (k0_n ⟨i, hi⟩).1, fun i hi => k0_r ⟨i, hi⟩, fun i hi => no hi, fun i hi => no hi, fun i hi => no hi, fun i hi => no hi, fun i hi => no hi, fun i j hi => no hi, fun i hi => no hi, fun i hi => no hi, fun i hi => no hi⟩, ⟨fun a ha => no ha, fun a ha => no ha⟩, ⟨fun l _ hl => k0_l ⟨l, hl⟩, fun a _ ha => (k0_a ⟨a, ha⟩).1, fun i _ hi => k0_v ⟨i, hi⟩, fun g _ hg => (k0_a ⟨g, hg⟩).2⟩, fun a ha => no ha, ⟨fun a ha => no ha, fun a ha => no ha, fun a ha => no ha, fun a p ha => no ha, fun a p ha => no ha, fun a ha => no ha⟩, ⟨by decide, fun i hi => ?_, fun a ha => no ha, fun a ha => no ha, fun a ha => no ha, fun a ha => no ha, ⟨0, by decide, by decide, ?_⟩, s2, s3⟩, fun l hl => no hl⟩
  · obtain ⟨-, q1, q2⟩ := k0_n ⟨i, hi⟩
    have q1 : (tab0 0 1 i).toInt = 0 := q1
    have q2 : (tab0 0 2 i).toInt = 0 := q2
    rw [q1, q2]
    decide
  · rw [s1]
    rfl
theorem law_runs {L : Nat} {xs : Nat → Int32} (hL : L ≤ 3072) : lawRuns L xs := by
  refine ⟨1000, out0, out0_some, ?_⟩
  have := lawLoop_ok (fu := 1000) (xs := xs) hL (by decide) 514 0 0 out0.1 out0.2 (by decide) (by omega) (by decide) (by decide) ⟨tab0, 0, 0, 0, cls0, rfs0, in0⟩
  rwa [nI_0] at this
