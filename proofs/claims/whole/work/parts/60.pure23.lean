/-! ===== what is brought, reckoned anew ===== -/
theorem isum_add1 {g h : Nat → Int32} {i n : Nat} (hi : i < n) (e : ∀ q, q < n → q ≠ i → h q = g q) (g0 : g i = 0) : isum h n = isum g n + h i := by
  have : isum h n = isum (fun q => g q + (if q = i then h i else 0)) n := isum_congr fun q hq => by
    by_cases c : q = i
    · subst c
      rw [if_pos rfl, g0, Int32.zero_add]
    · rw [if_neg c, Int32.add_zero, e q hq c]
  rw [this, isum_add, isum_single hi]
abbrev offB (A B : TT) : Prop := ∀ k f i, ¬ (k = 3 ∧ f = 4) → ¬ (k = 2 ∧ f = 3) → B k f i = A k f i
theorem offB.u3 {A B : TT} {i : Nat} {v : Int32} (h : offB A B) : offB A (tU B 3 4 i v) := fun k f j q r => by
  rw [tU_ne (fun e => q ⟨e.1, e.2.1⟩)]
  exact h k f j q r
theorem offB.u2 {A B : TT} {i : Nat} {v : Int32} (h : offB A B) : offB A (tU B 2 3 i v) := fun k f j q r => by
  rw [tU_ne (fun e => r ⟨e.1, e.2.1⟩)]
  exact h k f j q r
abbrev partB (A B : TT) (nl na q : Nat) : Prop := (∀ a, a < na → B 3 4 a = A 3 3 a + isum (fun k => if q ≤ k then kidA B a k else 0) na) ∧ ∀ l, l < nl → B 2 3 l = isum (fun k => if q ≤ k then rootA B l k else 0) na
theorem part_step {A B : TT} {nl na ng q : Nat} (hw : Wf A nl na ng) (ho : offB A B) (hq : q < na) (hP : partB A B nl na (q + 1)) : (¬ B 3 5 q = 1 → partB A B nl na q) ∧ (∀ l, B 3 5 q = 1 → B 3 1 q = -1 → B 3 2 q = nI l → l < nl → partB A (tU B 2 3 l (B 2 3 l + B 3 4 q)) nl na q) ∧ (∀ p, B 3 5 q = 1 → B 3 1 q = nI p → p < q → partB A (tU B 3 4 p (B 3 4 p + B 3 4 q)) nl na q) := by
  have hna := hw.hna
  have hnl := hw.hnl
  obtain ⟨P1, P2⟩ := hP
  have same : ∀ {g : Nat → Int32}, g q = 0 → isum (fun k => if q ≤ k then g k else 0) na = isum (fun k => if q + 1 ≤ k then g k else 0) na := fun {g} e => isum_congr fun k hk => by
    by_cases c : k = q
    · subst c
      rw [if_pos (Nat.le_refl _), if_neg (by omega), e]
    · by_cases d : q ≤ k
      · rw [if_pos d, if_pos (by omega)]
      · rw [if_neg d, if_neg (by omega)]
  have more : ∀ {g : Nat → Int32}, isum (fun k => if q ≤ k then g k else 0) na = isum (fun k => if q + 1 ≤ k then g k else 0) na + g q := fun {g} => by
    have := isum_add1 (g := fun k => if q + 1 ≤ k then g k else 0) (h := fun k => if q ≤ k then g k else 0) hq (fun k hk c => by
      by_cases d : q ≤ k
      · rw [if_pos d, if_pos (by omega)]
      · rw [if_neg d, if_neg (by omega)]) (if_neg (by omega))
    rw [this, if_pos (Nat.le_refl _)]
  refine ⟨fun h5 => ⟨fun a ha => ?_, fun l hl => ?_⟩, fun l h5 h1 h2 hl => ⟨fun a ha => ?_, fun l' hl' => ?_⟩, fun p h5 h1 hp => ⟨fun a ha => ?_, fun l hl => ?_⟩⟩
  · rw [same (if_neg fun e => h5 e.2)]; exact P1 a ha
  · rw [same (if_neg fun e => h5 e.2.2)]; exact P2 l hl
  · have ek : kidA (tU B 2 3 l (B 2 3 l + B 3 4 q)) a = kidA B a := by
      funext k
      simp only [kidA, tuk (show ¬ 3 = 2 by decide)]
    rw [ek, same (if_neg fun e => (nI_neg1 (w := a) (by omega)).1 (e.1.symm.trans h1)), tuk (by decide)]
    exact P1 a ha
  · have er : rootA (tU B 2 3 l (B 2 3 l + B 3 4 q)) l' = rootA B l' := by
      funext k
      simp only [rootA, tuk (show ¬ 3 = 2 by decide)]
    rw [er, more]
    have eq : rootA B l' q = if l' = l then B 3 4 q else 0 := by
      unfold rootA
      by_cases c : l' = l
      · subst c
        rw [if_pos ⟨h1, h2, h5⟩, if_pos rfl]
      · rw [if_neg c, if_neg]
        rintro ⟨-, e, -⟩
        exact c ((nI_eq (p31 (by omega)) (p31 (by omega))).mp (h2.symm.trans e)).symm
    rw [eq, ← P2 l' hl']
    by_cases c : l' = l
    · subst c
      rw [tU_eq, if_pos rfl]
    · rw [tU_ne (fun e => c e.2.2), if_neg c, Int32.add_zero]
  · have ek : isum (fun k => if q ≤ k then kidA (tU B 3 4 p (B 3 4 p + B 3 4 q)) a k else 0) na = isum (fun k => if q ≤ k then kidA B a k else 0) na := isum_congr fun k _ => by
      by_cases d : q ≤ k
      · rw [if_pos d, if_pos d]
        unfold kidA
        rw [tuf (by decide), tuf (by decide), tU_ne (by omega)]
      · rw [if_neg d, if_neg d]
    rw [ek, more]
    have eq : kidA B a q = if a = p then B 3 4 q else 0 := by
      unfold kidA
      by_cases c : a = p
      · subst c
        rw [if_pos ⟨h1, h5⟩, if_pos rfl]
      · rw [if_neg c, if_neg]
        rintro ⟨e, -⟩
        exact c ((nI_eq (p31 (by omega)) (p31 (by omega))).mp (h1.symm.trans e)).symm
    rw [eq, ← Int32.add_assoc, ← P1 a ha]
    by_cases c : a = p
    · subst c
      rw [tU_eq, if_pos rfl]
    · rw [tU_ne (fun e => c e.2.2), if_neg c, Int32.add_zero]
  · have ek : isum (fun k => if q ≤ k then rootA (tU B 3 4 p (B 3 4 p + B 3 4 q)) l k else 0) na = isum (fun k => if q ≤ k then rootA B l k else 0) na := isum_congr fun k _ => by
      by_cases d : q ≤ k
      · rw [if_pos d, if_pos d]
        unfold rootA
        rw [tuf (by decide), tuf (by decide), tuf (by decide), tU_ne (by omega)]
      · rw [if_neg d, if_neg d]
    rw [ek, same (if_neg fun e => (nI_neg1 (w := p) (by omega)).1 (h1.symm.trans e.1)), tuk (by decide)]
    exact P2 l hl
theorem Wf.off {A B : TT} {nl na ng : Nat} (h : Wf A nl na ng) (e : offB A B) : Wf B nl na ng := h.congr fun k f i q => e k f i (by rintro ⟨rfl, rfl⟩; exact absurd q (by decide)) (by rintro ⟨rfl, rfl⟩; exact absurd q (by decide))
theorem reckon_C {A : TT} {nl na ng fu : Nat} {n : ag_N} {s : ag_S} (h : ClS A nl na ng n s) (hw : Wf A nl na ng) (hf : 60 < fu) : ∃ s1 B, f_X5_reckonWhatIsBrought fu s = some s1 ∧ ClS B nl na ng n s1 ∧ frC s s1 ∧ Br B nl na ∧ offB A B := by
  have hna := hw.hna
  have hnl := hw.hnl
  have hm : ∀ x : Int32, x + (-1) = x - 1 := fun x => (Int32.sub_eq_add_neg x 1).symm
  obtain ⟨s1, e1, B1, h1, f1, o1, z1⟩ := up_loop (F := fun nf i (v : ag_S) => f_X5_reckonWhatIsBrought_L2 fu nf i v) (N := nl) (I := fun q v => ∃ B, ClS B nl na ng n v ∧ frC s v ∧ offB A B ∧ ∀ l, l < q → B 2 3 l = 0) (E := fun v => f_X5_reckonWhatIsBrought_L36 fu fu 0 v) (fun nf q v hq hv => by
    obtain ⟨B, hc, fv, ho, hz⟩ := hv
    refine ⟨ag_up v 2 3 (nI q) 0, ?_, tU B 2 3 q 0, hc.w (by decide) (by omega), fv.up (by decide), ho.u2, fun l hl => ?_⟩
    · show f_X5_reckonWhatIsBrought_L2 fu (nf + 1) (nI q) v = f_X5_reckonWhatIsBrought_L2 fu nf (nI (q + 1)) _
      rw [f_X5_reckonWhatIsBrought_L2, hc.l2.size2, bd_some, if_neg (nI_ge hq (p31 (by omega))), hc.l2.get2 hq, bd_some, nI_1]
    · by_cases c : l = q
      · subst c; rw [tU_eq]
      · rw [tU_ne (fun e => c e.2.2)]; exact hz l (by omega)) (fun nf v hv => by
    obtain ⟨B, hc, fv, ho, hz⟩ := hv
    show f_X5_reckonWhatIsBrought_L2 fu (nf + 1) (nI nl) v = _
    rw [f_X5_reckonWhatIsBrought_L2, hc.l2.size2, bd_some, if_pos (nI_le (Nat.le_refl _) (p31 (by omega)))]) nl 0 s fu (by omega) (by omega) ⟨A, h, frC.refl s, fun _ _ _ _ _ => rfl, fun l hl => by omega⟩
  obtain ⟨s2, e2, B2, h2, f2, o2, z2, m2⟩ := up_loop (F := fun nf i (v : ag_S) => f_X5_reckonWhatIsBrought_L36 fu nf i v) (N := na) (I := fun q v => ∃ B, ClS B nl na ng n v ∧ frC s v ∧ offB A B ∧ (∀ l, l < nl → B 2 3 l = 0) ∧ ∀ a, a < q → B 3 4 a = A 3 3 a) (E := fun v => f_X5_reckonWhatIsBrought_L83 fu fu (nI na - 1) v) (fun nf q v hq hv => by
    obtain ⟨B, hc, fv, ho, hz, hmo⟩ := hv
    refine ⟨ag_up v 3 4 (nI q) (A 3 3 q), ?_, tU B 3 4 q (A 3 3 q), hc.w (by decide) (by omega), fv.up (by decide), ho.u3, fun l hl => ?_, fun a ha => ?_⟩
    · show f_X5_reckonWhatIsBrought_L36 fu (nf + 1) (nI q) v = f_X5_reckonWhatIsBrought_L36 fu nf (nI (q + 1)) _
      rw [f_X5_reckonWhatIsBrought_L36, hc.l3.size3, bd_some, if_neg (nI_ge hq (p31 (by omega))), hc.l3.get3 hq, bd_some, nI_1, hc.g3 hq, ho 3 3 q (by decide) (by decide)]
    · rw [tuk (by decide)]; exact hz l hl
    · by_cases c : a = q
      · subst c; rw [tU_eq]
      · rw [tU_ne (fun e => c e.2.2)]; exact hmo a (by omega)) (fun nf v hv => by
    obtain ⟨B, hc, fv, ho, hz⟩ := hv
    show f_X5_reckonWhatIsBrought_L36 fu (nf + 1) (nI na) v = _
    rw [f_X5_reckonWhatIsBrought_L36, hc.l3.size3, bd_some, if_pos (nI_le (Nat.le_refl _) (p31 (by omega))), bd_some]) na 0 s1 fu (by omega) (by omega) ⟨B1, h1, f1, o1, z1, fun a ha => by omega⟩
  obtain ⟨s3, e3, -, B3, h3, f3, o3, p3⟩ := down_loop (F := fun nf i (v : ag_S) => f_X5_reckonWhatIsBrought_L83 fu nf i v) (I := fun q v => q ≤ na ∧ ∃ B, ClS B nl na ng n v ∧ frC s v ∧ offB A B ∧ partB A B nl na q) (E := fun v => some v) (fun nf q v hv => by
    obtain ⟨hq, B, hc, fv, ho, hP⟩ := hv
    have hq : q < na := hq
    have wB := hw.off ho
    obtain ⟨p1, p2, p3⟩ := part_step hw ho hq hP
    show ∃ s', f_X5_reckonWhatIsBrought_L83 fu (nf + 1) (nI q) v = f_X5_reckonWhatIsBrought_L83 fu nf (nI q - 1) s' ∧ _
    rw [f_X5_reckonWhatIsBrought_L83, if_neg (nI_pos (p31 (by omega))), hc.l3.get3 hq, bd_some, hm]
    unfold f_X5_passOn
    rw [hc.g3 hq, hc.g3 hq, hc.g3 hq, hc.g3 hq]
    by_cases c5 : B 3 5 q = 1
    · rw [if_pos c5]
      rcases wB.tree q hq with c1 | ⟨p, hp, c1⟩
      · obtain ⟨l, hl, el⟩ := wB.lin q hq
        rw [if_pos c1, el, if_neg (nI_neg1 (by omega)).1, hc.g2 hl, bd_some]
        exact ⟨_, rfl, by omega, _, hc.w (by decide) (by omega), fv.up (by decide), ho.u2, p2 l c5 c1 el hl⟩
      · rw [c1, if_neg (nI_neg1 (by omega)).1, if_neg (nI_neg1 (by omega)).1, hc.g3 (show p < na by omega), bd_some]
        exact ⟨_, rfl, by omega, _, hc.w (by decide) (by omega), fv.up (by decide), ho.u3, p3 p c5 c1 hp⟩
    · rw [if_neg c5, bd_some]
      exact ⟨v, rfl, by omega, B, hc, fv, ho, p1 c5⟩) (fun nf v hv => by
    show f_X5_reckonWhatIsBrought_L83 fu (nf + 1) (-1) v = _
    rw [f_X5_reckonWhatIsBrought_L83, if_pos (by decide)]) na s2 fu (by omega) ⟨Nat.le_refl _, B2, h2, f2, o2, fun a ha => by
      rw [m2 a ha, isum_zero (fun k hk => if_neg (by omega)), Int32.add_zero], fun l hl => by
      rw [z2 l hl, isum_zero (fun k hk => if_neg (by omega))]⟩
  refine ⟨s3, B3, ?_, h3, f3, ⟨fun a ha => ?_, fun l hl => ?_⟩, o3⟩
  · unfold f_X5_reckonWhatIsBrought
    have E1 : f_X5_reckonWhatIsBrought_L2 fu fu 0 s = f_X5_reckonWhatIsBrought_L36 fu fu 0 s1 := (show nI 0 = 0 from by decide) ▸ e1
    have E2 : f_X5_reckonWhatIsBrought_L36 fu fu 0 s1 = f_X5_reckonWhatIsBrought_L83 fu fu (nI na - 1) s2 := (show nI 0 = 0 from by decide) ▸ e2
    rw [E1, E2]
    exact e3
  · rw [o3 3 3 a (by decide) (by decide), p3.1 a ha]
    exact congrArg _ (isum_congr fun k _ => if_pos (Nat.zero_le _))
  · rw [p3.2 l hl]
    exact isum_congr fun k _ => if_pos (Nat.zero_le _)
