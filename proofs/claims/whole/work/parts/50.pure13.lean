/-! ===== queries ===== -/
theorem bring_R {A : TT} {nl na ng fu : Nat} {s : ag_S} (h : RfS A nl na ng s) (hw : Wf A nl na ng) (hb : Br A nl na) (hf : 41 < fu) : ∃ s', f_X6_bring fu s = some s' ∧ (∀ k f i, k ≠ 59 → s' k f i = s k f i) ∧ ∀ a, a < na → s' 59 0 (nI a) = A 3 4 a := by
  have hna := hw.hna
  have hT : Tree s na := fun k hk => by
    rw [h.r44 k (by omega)]
    exact hw.tree k hk
  have hS : Sol s na (fun a => A 3 4 a) := fun a ha => by
    show A 3 4 a = _
    rw [h.r46 a (by omega), hb.sol a ha]
    refine congrArg _ (isum_congr fun k hk => ?_)
    unfold kidA kid
    rw [h.r44 k (by omega), h.r47 k (by omega)]
  exact bringR (fu := fu) h.z13 hna (by omega) hT hS
theorem nI_mul9 (a : Nat) : (9 : Int32) * nI a = nI (9 * a) := (Int32.ofNat_mul 9 a).symm
theorem i64_0 : nI 9 = 9 := by decide
theorem votesOf_R {A : TT} {nl na ng fu a : Nat} {c : Int32} {s : ag_S} (h : RfS A nl na ng s) (ha : a < 40) (hf : 10 < fu) : f_X6_votesOf fu (nI a) c s = some (isum (fun m => if A 6 0 (9 * a + m) = c then 1 else 0) 9) := by
  unfold f_X6_votesOf
  obtain ⟨v, e1, e2⟩ := up_loop (F := fun nf i (v : Int32) => f_X6_votesOf_L5 fu nf (nI a) c v i s) (N := 9) (I := fun q v => v = isum (fun m => if A 6 0 (9 * a + m) = c then 1 else 0) q) (E := fun v => some v) (fun nf q v hq hv => by
    refine ⟨v + (if A 6 0 (9 * a + q) = c then 1 else 0), ?_, ?_⟩
    · show f_X6_votesOf_L5 fu (nf + 1) (nI a) c v (nI q) s = f_X6_votesOf_L5 fu nf (nI a) c _ (nI (q + 1)) s
      rw [f_X6_votesOf_L5, ← i64_0, if_neg (nI_ge hq (p31 (by omega)))]
      rw [i64_0, nI_mul9, nI_add, if_neg (nI_in (show 9 * a + q < 360 by omega) (p31 (by omega))), h.r49 _ (by omega), nI_1]
      by_cases e : A 6 0 (9 * a + q) = c
      · rw [if_pos e, if_pos e]
      · rw [if_neg e, if_neg e]
    · show _ = _
      rw [hv, isum]) (fun nf v hv => by
    show f_X6_votesOf_L5 fu (nf + 1) (nI a) c v (nI 9) s = _
    rw [f_X6_votesOf_L5, if_pos (by rw [← i64_0]; exact nI_le (Nat.le_refl _) (p31 (by omega)))]) 9 0 0 fu (by omega) (by omega) rfl
  rw [← e2]
  exact (show nI 0 = 0 from by decide) ▸ e1
theorem bits9 : ∀ M : Fin 512, isum (fun m => if (M.val >>> m) % 2 = 1 then 1 else 0) 9 = bcv (nI M.val) := by decide +kernel
theorem Vt.one {A : TT} {na a : Nat} (h : Vt A na) (ha : a < na) : isum (fun m => if A 6 0 (9 * a + m) = 1 then 1 else 0) 9 = bcv (A 3 8 a) ∧ isum (fun m => if A 6 0 (9 * a + m) = 2 then 1 else 0) 9 = bcv (A 3 9 a) := by
  obtain ⟨M1, M2, h1, h2, h3, h4, h5⟩ := h a ha
  rw [h3, h4, ← bits9 ⟨M1, h1⟩, ← bits9 ⟨M2, h2⟩]
  refine ⟨isum_congr fun m hm => ?_, isum_congr fun m hm => ?_⟩
  · have := (h5 m hm).1
    by_cases e : A 6 0 (9 * a + m) = 1
    · rw [if_pos e, if_pos (this.mpr e)]
    · rw [if_neg e, if_neg (fun q => e (this.mp q))]
  · have := (h5 m hm).2
    by_cases e : A 6 0 (9 * a + m) = 2
    · rw [if_pos e, if_pos (this.mpr e)]
    · rw [if_neg e, if_neg (fun q => e (this.mp q))]
theorem manyOn_R {A : TT} {nl na ng fu : Nat} {c : Int32} {s : ag_S} (h : RfS A nl na ng s) (hna : na ≤ 40) (hf : 41 < fu) : f_X6_manyOn fu c s = some (isum (fun k => if A 3 1 k = c then 1 else 0) na) := by
  unfold f_X6_manyOn
  obtain ⟨v, e1, e2⟩ := up_loop (F := fun nf i (v : Int32) => f_X6_manyOn_L4 fu nf c v i s) (N := na) (I := fun q v => v = isum (fun k => if A 3 1 k = c then 1 else 0) q) (E := fun v => some v) (fun nf q v hq hv => by
    refine ⟨v + (if A 3 1 q = c then 1 else 0), ?_, ?_⟩
    · show f_X6_manyOn_L4 fu (nf + 1) c v (nI q) s = f_X6_manyOn_L4 fu nf c _ (nI (q + 1)) s
      rw [f_X6_manyOn_L4, h.z13, if_neg (nI_ge hq (p31 (by omega))), if_neg (nI_in (show q < 40 by omega) (p31 (by omega))), h.r44 _ (by omega), nI_1]
      by_cases e : A 3 1 q = c
      · rw [if_pos e, if_pos e]
      · rw [if_neg e, if_neg e]
    · show _ = _
      rw [hv, isum]) (fun nf v hv => by
    show f_X6_manyOn_L4 fu (nf + 1) c v (nI na) s = _
    rw [f_X6_manyOn_L4, h.z13, if_pos (nI_le (Nat.le_refl _) (p31 (by omega)))]) na 0 0 fu (by omega) (by omega) rfl
  rw [← e2]
  exact (show nI 0 = 0 from by decide) ▸ e1
theorem countOn_C {A : TT} {nl na ng fu : Nat} {c : Int32} {n : ag_N} {s : ag_S} (h : ClS A nl na ng n s) (hf : 60 < fu) : f_X5_countOn fu c s = some (isum (fun k => if A 3 1 k = c then 1 else 0) na) := by
  have b3 := h.l3.le
  unfold f_X5_countOn
  obtain ⟨v, e1, e2⟩ := up_loop (F := fun nf i (v : Int32) => f_X5_countOn_L4 fu nf c v i s) (N := na) (I := fun q v => v = isum (fun k => if A 3 1 k = c then 1 else 0) q) (E := fun v => some v) (fun nf q v hq hv => by
    refine ⟨v + (if A 3 1 q = c then 1 else 0), ?_, ?_⟩
    · show f_X5_countOn_L4 fu (nf + 1) c v (nI q) s = f_X5_countOn_L4 fu nf c _ (nI (q + 1)) s
      rw [f_X5_countOn_L4, h.l3.size3, bd_some, if_neg (nI_ge hq (p31 (by omega))), h.l3.get3 hq, bd_some, h.g3 hq, nI_1]
      by_cases e : A 3 1 q = c
      · rw [if_pos e, if_pos e]
      · rw [if_neg e, if_neg e, Int32.add_zero]
    · show _ = _
      rw [hv, isum]) (fun nf v hv => by
    show f_X5_countOn_L4 fu (nf + 1) c v (nI na) s = _
    rw [f_X5_countOn_L4, h.l3.size3, bd_some, if_pos (nI_le (Nat.le_refl _) (p31 (by omega)))]) na 0 0 fu (by omega) (by omega) rfl
  rw [← e2]
  exact (show nI 0 = 0 from by decide) ▸ e1
theorem isWon_C {A : TT} {nl na ng fu a : Nat} {n : ag_N} {s : ag_S} (h : ClS A nl na ng n s) (ha : a < na) : f_X0_isWon fu (nI a) s = some (if wonA A a then 1 else 0) := by
  unfold f_X0_isWon f_X0_votesFor f_X0_votesAgainst wonA
  rw [h.g3 ha, h.g3 ha, h.g3 ha, bc_eq, bc_eq, bd_some, bd_some, bd_some, bd_some, bd_some]
  by_cases c : A 3 6 a = 1
  · simp only [c, if_true]
    by_cases d : bcv (A 3 8 a) < 5
    · simp only [d, not_true_eq_false, if_true, if_false]
    · simp only [d, not_false_eq_true, if_true, if_false]
  · simp only [c, if_false]
    by_cases d : bcv (A 3 8 a) ≤ bcv (A 3 9 a)
    · simp only [d, if_true, i32_lt.mpr d, if_false]
    · simp only [d, if_false, i32_le.mp d, if_true]
theorem counts_C {A : TT} {nl na ng fu : Nat} {n : ag_N} {s : ag_S} (h : ClS A nl na ng n s) (hw : Wf A nl na ng) (hd : Dc A na ng) : ∀ a, a < na → ∀ nf, a + 1 < nf → f_X5_countsByVotes_L2 fu nf (nI a) s = some (if chA A a = true then 1 else 0) := by
  have hna := hw.hna
  intro a
  induction a using Nat.strongRecOn with
  | ind a ih =>
    intro ha nf hnf
    obtain ⟨nf, rfl⟩ : ∃ k, nf = k + 1 := ⟨nf - 1, by omega⟩
    rw [f_X5_countsByVotes_L2, if_neg (nI_neg1 (by omega)).1, h.g3 ha, h.g3 ha, h.g3 ha, isWon_C h ha, bd_some]
    have up : f_X5_countsByVotes_L2 fu nf (A 3 1 a) s = some (if A 3 1 a = -1 ∨ ∃ p, p < a ∧ A 3 1 a = nI p ∧ chA A p = true then 1 else 0) := by
      rcases hw.tree a ha with e | ⟨p, hp, e⟩
      · obtain ⟨nf, rfl⟩ : ∃ k, nf = k + 1 := ⟨nf - 1, by omega⟩
        rw [e, f_X5_countsByVotes_L2, if_pos rfl, if_pos (.inl rfl)]
      · rw [e, ih p hp (by omega) nf (by omega)]
        by_cases c : chA A p = true
        · rw [if_pos c, if_pos (.inr ⟨p, hp, rfl, c⟩)]
        · rw [if_neg c, if_neg]
          rintro (q | ⟨p', hp', e', c'⟩)
          · exact (nI_neg1 (by omega)).1 q
          · have := (nI_eq (p31 (by omega)) (p31 (by omega))).mp e'
            subst this
            exact c c'
    rcases hd.st a ha with ⟨st, -⟩ | st | st
    · rw [if_pos st, if_neg]
      rw [chA_eq hw ha, st]
      exact fun q => absurd q.1 (by decide)
    · obtain ⟨d1, d2⟩ := hd.d1 a ha st
      rw [if_neg (by rw [st]; decide), if_pos d2, if_pos d1, if_neg (by decide), up]
      by_cases c : A 3 1 a = -1 ∨ ∃ p, p < a ∧ A 3 1 a = nI p ∧ chA A p = true
      · rw [if_pos c, if_pos ((chA_eq hw ha).mpr ⟨st, c⟩)]
      · rw [if_neg c, if_neg (fun q => c ((chA_eq hw ha).mp q).2)]
    · have nc : ¬ chA A a = true := fun q => by
        have := ((chA_eq hw ha).mp q).1
        rw [st] at this
        exact absurd this (by decide)
      rw [if_neg (by rw [st]; decide), if_neg nc]
      by_cases e7 : A 3 7 a = 0
      · rw [if_pos e7]
        by_cases ew : wonA A a
        · rw [if_pos ew, if_neg (by decide), up, if_neg]
          rcases hd.d2 a ha st with q | q | ⟨p, hp, e, sp⟩
          · exact absurd e7 q
          · exact absurd ew q
          · rintro (q | ⟨p', hp', e', c'⟩)
            · exact (nI_neg1 (by omega)).1 (e.symm.trans q)
            · have := (nI_eq (p31 (by omega)) (p31 (by omega))).mp (e.symm.trans e')
              subst this
              have := ((chA_eq hw (by omega)).mp c').1
              rw [sp] at this
              exact absurd this (by decide)
        · rw [if_neg ew, if_pos rfl]
      · rw [if_neg e7]
theorem en7 {y : Int32} (h : rng y 0 6) : y = 0 ∨ y = 1 ∨ y = 2 ∨ y = 3 ∨ y = 4 ∨ y = 5 ∨ y = 6 := by
  rcases idx y 7 (by decide) with ⟨i, hi, rfl⟩ | ⟨nr, -⟩
  · have : i = 0 ∨ i = 1 ∨ i = 2 ∨ i = 3 ∨ i = 4 ∨ i = 5 ∨ i = 6 := by omega
    rcases this with rfl | rfl | rfl | rfl | rfl | rfl | rfl <;> decide
  · exact absurd h nr
theorem no7 {y : Int32} (h : ¬ rng y 0 6) : (y = 0) = False ∧ (y = 1) = False ∧ (y = 2) = False ∧ (y = 3) = False ∧ (y = 4) = False ∧ (y = 5) = False ∧ (y = 6) = False := by
  refine ⟨?_, ?_, ?_, ?_, ?_, ?_, ?_⟩ <;> exact eq_false (by rintro rfl; exact h (by decide))
theorem en3 {y : Int32} (h : rng y 0 2) : y = 0 ∨ y = 1 ∨ y = 2 := by
  rcases idx y 3 (by decide) with ⟨i, hi, rfl⟩ | ⟨nr, -⟩
  · have : i = 0 ∨ i = 1 ∨ i = 2 := by omega
    rcases this with rfl | rfl | rfl <;> decide
  · exact absurd h nr
theorem no3 {y : Int32} (h : ¬ rng y 0 2) : (y = 0) = False ∧ (y = 1) = False ∧ (y = 2) = False := by
  refine ⟨?_, ?_, ?_⟩ <;> exact eq_false (by rintro rfl; exact h (by decide))
theorem i40 : ((4 : Int32) = 0) = False ∧ ((4 : Int32) = 1) = False ∧ ((4 : Int32) = 2) = False ∧ ((4 : Int32) = 3) = False := by decide
theorem i50 : ((5 : Int32) = 0) = False ∧ ((5 : Int32) = 1) = False ∧ ((5 : Int32) = 2) = False ∧ ((5 : Int32) = 3) = False ∧ ((5 : Int32) = 4) = False := by decide
theorem i60 : ((6 : Int32) = 0) = False ∧ ((6 : Int32) = 1) = False ∧ ((6 : Int32) = 2) = False ∧ ((6 : Int32) = 3) = False ∧ ((6 : Int32) = 4) = False ∧ ((6 : Int32) = 5) = False := by decide
theorem i70 : ((7 : Int32) = 0) = False ∧ ((7 : Int32) = 1) = False ∧ ((7 : Int32) = 2) = False ∧ ((7 : Int32) = 3) = False ∧ ((7 : Int32) = 4) = False ∧ ((7 : Int32) = 5) = False ∧ ((7 : Int32) = 6) = False := by decide
theorem op_ofLine {A : TT} {nl na ng t fu : Nat} {n : ag_N} {s : ag_S} {x y : Int32} (h : ClS A nl na ng n s) (hr : RfS A nl na ng s) (hI : In A nl na ng t) (ht : t + 1 ≤ 520) (hf : 60 < fu) : Op1 (t + 1) n (f_L_ofLine fu x y s) (fun s => f_X6_ofLine fu x y s) := by
  have hng := hI.wf.hng
  have hnl := hI.wf.hnl
  rcases idx x nl (by omega) with ⟨l, hl, rfl⟩ | ⟨nr, nx⟩
  · obtain ⟨i, hi, ei⟩ := hI.wf.src l hl
    have l10 := inn (show l < 10 by omega) (by omega)
    by_cases hy : rng y 0 6
    · have main : ∀ w, f_L_ofLine fu (nI l) y s = some (0, ag_up s 8 0 0 w) → (∀ s', RfS A nl na ng s' → RfS A nl na ng (ag_up s' 6 0 0 0) → ∃ s2, f_X6_ofLine fu (nI l) y s' = some (w, s2) ∧ ∀ k f i, k ≠ 59 → s2 k f i = ag_up s' 6 0 0 0 k f i) → Op1 (t + 1) n (f_L_ofLine fu (nI l) y s) (fun s => f_X6_ofLine fu (nI l) y s) := fun w h1 h2 => op_q h hr (hI.mono ht) h1 fun s' hr' => h2 s' hr' hr'.u6
      rcases en7 hy with rfl | rfl | rfl | rfl | rfl | rfl | rfl
      · refine main (standA A na l) ?_ fun s' hr' u => ?_
        · simp only [f_L_ofLine, f_X5_ofLine, lineAt_ok h hl, bt_inl, stands_C h hI.br hl, bd_some, bc_inl, z00, if_false, if_true]
        · obtain ⟨sa, ea, fa, -⟩ := stands_R (fu := fu) u hI.wf hI.br (by omega) (show l < 10 by omega)
          simp only [f_X6_ofLine, isLine_ok hr' hl (by omega), bd_some, in_ok hy, i10, if_false, if_true, f_X6_ofLine_b30, gw0, ea]
          exact ⟨_, rfl, fa⟩
      · refine main (A 2 4 l) ?_ fun s' hr' u => ?_
        · simp only [f_L_ofLine, f_X5_ofLine, lineAt_ok h hl, bt_inl, h.q2 hl 4 (by decide), bc_inl, z00, i10, if_false, if_true]
        · simp only [f_X6_ofLine, isLine_ok hr' hl (by omega), bd_some, in_ok hy, i10, if_false, if_true, f_X6_ofLine_b30, gw0, l10, u.r42 l (by omega)]
          exact ⟨_, rfl, fun _ _ _ _ => rfl⟩
      · refine main (boundA A ng l) ?_ fun s' hr' u => ?_
        · simp only [f_L_ofLine, f_X5_ofLine, lineAt_ok h hl, bt_inl, bound_C h hf hl, bd_some, bc_inl, z00, i20, i21, if_false, if_true]
        · simp only [f_X6_ofLine, isLine_ok hr' hl (by omega), bd_some, in_ok hy, i10, i20, i21, if_false, if_true, f_X6_ofLine_b30, gw0, bound_R u hI.wf (show 41 < fu by omega) (show l < 10 by omega)]
          exact ⟨_, rfl, fun _ _ _ _ => rfl⟩
      · refine main (freeA A na ng l) ?_ fun s' hr' u => ?_
        · simp only [f_L_ofLine, f_X5_ofLine, lineAt_ok h hl, bt_inl, free_C h hI.br hf hl, bd_some, bc_inl, z00, i30, i31, i32, if_false, if_true]
        · obtain ⟨sa, ea, fa⟩ := free_R (fu := fu) u hI.wf hI.br (by omega) (show l < 10 by omega)
          simp only [f_X6_ofLine, isLine_ok hr' hl (by omega), bd_some, in_ok hy, i10, i30, i31, i32, if_false, if_true, f_X6_ofLine_b30, gw0, ea]
          exact ⟨_, rfl, fa⟩
      · refine main (A 2 5 l) ?_ fun s' hr' u => ?_
        · simp only [f_L_ofLine, f_X5_ofLine, lineAt_ok h hl, bt_inl, h.q2 hl 5 (by decide), bc_inl, z00, i40, if_false, if_true]
        · simp only [f_X6_ofLine, isLine_ok hr' hl (by omega), bd_some, in_ok hy, i10, i40, if_false, if_true, f_X6_ofLine_b30, gw0, l10, u.r40 l (by omega)]
          exact ⟨_, rfl, fun _ _ _ _ => rfl⟩
      · refine main (A 2 6 l) ?_ fun s' hr' u => ?_
        · simp only [f_L_ofLine, f_X5_ofLine, lineAt_ok h hl, bt_inl, h.q2 hl 6 (by decide), bc_inl, z00, i50, if_false, if_true]
        · simp only [f_X6_ofLine, isLine_ok hr' hl (by omega), bd_some, in_ok hy, i10, i50, if_false, if_true, f_X6_ofLine_b30, gw0, l10, u.r41 l (by omega)]
          exact ⟨_, rfl, fun _ _ _ _ => rfl⟩
      · refine main (A 2 1 l) ?_ fun s' hr' u => ?_
        · simp only [f_L_ofLine, f_X5_ofLine, lineAt_ok h hl, bt_inl, h.q2 hl 1 (by decide), ei, neN (show i ≤ 1000 by omega), h.q0 hi 0 (by decide), hI.wf.num0 i hi, bc_inl, z00, i60, if_false, if_true]
        · simp only [f_X6_ofLine, isLine_ok hr' hl (by omega), bd_some, in_ok hy, i10, i60, if_false, f_X6_ofLine_b30, gw0, l10, u.r38 l (by omega)]
          exact ⟨_, rfl, fun _ _ _ _ => rfl⟩
    · refine op_no (c := 2) h hr (hI.mono ht) (by decide) ?_ (rf_no fun s' hr' => ?_)
      · simp only [f_L_ofLine, f_X5_ofLine, lineAt_ok h hl, bt_inl, no7 hy, bc_inr, i21, if_false, if_true]
      · simp only [f_X6_ofLine, isLine_ok hr' hl (by omega), bd_some, in_no hy, i10, if_false, if_true, f_X6_ofLine_b30, gwn (show ¬ (2 : Int32) = 0 by decide)]
  · refine op_no (c := 1) h hr (hI.mono ht) (by decide) ?_ (rf_no fun s' hr' => ?_)
    · simp only [f_L_ofLine, f_X5_ofLine, lineAt_no h nx, bt_inr, bc_inr, id, if_true]
    · simp only [f_X6_ofLine, isLine_no hr' nr, bd_some, if_true, f_X6_ofLine_b30, gwn (show ¬ (1 : Int32) = 0 by decide)]
