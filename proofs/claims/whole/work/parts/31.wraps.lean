def ag_bc {σ α : Type} (x : Option ((Int32 ⊕ Int32) × σ)) (k : Int32 → σ → Option α) (h : Int32 → σ → Option α) : Option α := match x with
  | none => none
  | some (.inl r, s) => k r s
  | some (.inr e, s) => h e s
theorem ag_bcs {σ α : Type} {x : Option ((Int32 ⊕ Int32) × σ)} {k : Int32 → σ → Option α} {h : Int32 → σ → Option α} {out : α} (hf : ag_bc x k h = some out) : ∃ o, x = some o ∧ ((∃ r, o.1 = .inl r ∧ k r o.2 = some out) ∨ ∃ e, o.1 = .inr e ∧ h e o.2 = some out) := by
  unfold ag_bc at hf
  split at hf
  · cases hf
  · exact ⟨_, rfl, Or.inl ⟨_, rfl, hf⟩⟩
  · exact ⟨_, rfl, Or.inr ⟨_, rfl, hf⟩⟩
theorem ag_bcx {E : String} {o : Int32 ⊕ Int32} {P Q : Int32 → Prop} (hf : (∃ r, o = .inl r ∧ P r) ∨ ∃ e, o = .inr e ∧ Q e) (hE : ag_ex E o) : ∃ e, o = .inr e ∧ Q e := by
  rcases hf with ⟨r, e1, -⟩ | h
  · obtain ⟨e2, h2⟩ := hE.is
    rw [e1] at h2
    cases h2
  · exact h
theorem ag_bcl {r : Int32} {o : Int32 ⊕ Int32} {P Q : Int32 → Prop} (hf : (∃ r, o = .inl r ∧ P r) ∨ ∃ e, o = .inr e ∧ Q e) (h : o = .inl r) : P r := by
  rcases hf with ⟨r9, e1, h1⟩ | ⟨e9, e1, -⟩
  · cases e1.symm.trans h
    exact h1
  · cases e1.symm.trans h
theorem ag_ex1 {E : String} (h : ag_ex E (.inr 1)) : E = "java/lang/IndexOutOfBoundsException" := by
  rcases h with ⟨h, -⟩ | ⟨-, h⟩ | ⟨-, h⟩
  · exact h
  · exact absurd (Sum.inr.inj h) (by decide)
  · exact absurd (Sum.inr.inj h) (by decide)
theorem ag_ex2 {E : String} (h : ag_ex E (.inr 2)) : E = "java/lang/IllegalArgumentException" := by
  rcases h with ⟨-, h⟩ | ⟨h, -⟩ | ⟨-, h⟩
  · exact absurd (Sum.inr.inj h) (by decide)
  · exact h
  · exact absurd (Sum.inr.inj h) (by decide)
theorem ag_ex3 {E : String} (h : ag_ex E (.inr 3)) : E = "java/lang/IllegalStateException" := by
  rcases h with ⟨-, h⟩ | ⟨-, h⟩ | ⟨h, -⟩
  · exact absurd (Sum.inr.inj h) (by decide)
  · exact absurd (Sum.inr.inj h) (by decide)
  · exact h
theorem ag_nc21 {z : ag_Z} {U : State} {H : Heap} (hG : ag_G z U H) : va_Nc "java/lang/IllegalArgumentException" "java/lang/IndexOutOfBoundsException" U := hG.2.2.2.2.2.2.2.2.2 _ _ (by simp [ag_exn]) (by simp [ag_exn]) (by decide +kernel)
theorem ag_nc31 {z : ag_Z} {U : State} {H : Heap} (hG : ag_G z U H) : va_Nc "java/lang/IllegalStateException" "java/lang/IndexOutOfBoundsException" U := hG.2.2.2.2.2.2.2.2.2 _ _ (by simp [ag_exn]) (by simp [ag_exn]) (by decide +kernel)
theorem ag_nc32 {z : ag_Z} {U : State} {H : Heap} (hG : ag_G z U H) : va_Nc "java/lang/IllegalStateException" "java/lang/IllegalArgumentException" U := hG.2.2.2.2.2.2.2.2.2 _ _ (by simp [ag_exn]) (by simp [ag_exn]) (by decide +kernel)
theorem cst1 : Cond.castable "java/lang/IndexOutOfBoundsException" "java/lang/IndexOutOfBoundsException" ∈ ag_xw := List.mem_filter.mpr ⟨List.mem_append_right _ (List.mem_of_getElem? (i := 356) (by decide +kernel)), rfl⟩
theorem cst2 : Cond.castable "java/lang/IllegalArgumentException" "java/lang/IllegalArgumentException" ∈ ag_xw := List.mem_filter.mpr ⟨List.mem_append_right _ (List.mem_of_getElem? (i := 199) (by decide +kernel)), rfl⟩
theorem cst3 : Cond.castable "java/lang/IllegalStateException" "java/lang/IllegalStateException" ∈ ag_xw := List.mem_filter.mpr ⟨List.mem_append_right _ (List.mem_of_getElem? (i := 286) (by decide +kernel)), rfl⟩
def f_L_income (fu : Nat) (x1 : Int32) (x2 : Int32) (s : ag_S) : Option (Int32 × ag_S) := ag_bc (f_X5_income fu x1 x2 s) (fun w5 s => if (0 : Int32) < 0 ∨ 1 ≤ (0 : Int32).toNatClampNeg then none else some (0, (ag_up s 8 0 0 w5))) (fun e s => if e = 2 then (some (1, s)) else none)
abbrev rm_L_income : Room := { frames := 8, cells := 5, slots := 30, locals := 128 }
theorem dd_yL_income : yL_income.cls ≠ "java/lang/invoke/MethodHandle" ∧ yL_income.cls ≠ "java/lang/invoke/VarHandle" ∧ (parseMethodDescriptor yL_income.desc).map (fun d => d.parameters.length) = some 4 := by decide +kernel
set_option maxHeartbeats 4000000 in
set_option maxRecDepth 100000 in
theorem c_L_income {z : ag_Z} {l : Launch} {n : ag_N} {p : ag_P} {s : ag_S} {fu : Nat} {x1 : Int32} {x2 : Int32} {out : Int32 × ag_S} (hq9 : l.stackTraces = false) (t5 : vp_in 0 (n 5)) (t8 : vp_in 0 (n 8)) (hf : f_L_income fu x1 x2 s = some out) : Met l yL_income (ag_wsH yL_income cL_income 5 (some FieldType.int) [(0, 10, 13, 13)]) rm_L_income (va_Pc [.ref (p 5 0), .int x1, .int x2, .ref (p 8 0)] (ag_Pre z n p s)) (ag_Ri z n p out.1 out.2) 5 30 (ag_A z) := by
  refine va_MetW (hh := [(0, 10, 13, 13)]) (cc := cL_income) (maxL := 5) (ret := some FieldType.int) (by decide) rfl ?_
  intro p0 e st m args below meth c s9 B hml hv
  obtain ⟨ha, h0, hG, hW⟩ := hv
  have hx := B.exec
  have hb := B.bytes
  have hr := B.returns
  have hts := atoms_spec (ws := ag_wsH yL_income cL_income 5 (some FieldType.int) [(0, 10, 13, 13)]) B.pre
  have htab : c.exceptionTable.toList = tableOf [(0, 10, 13, 13)] := vx_table (x := yL_income) B (hts _ List.mem_cons_self)
  have hT : ∀ w ∈ ag_tbl, w.before args st = true := fun w h => hts w (List.mem_cons_of_mem _ h)
  have hown : st.vm.findClass RL = some m.cls := findClass_of_methodNamed B.named
  have hlocks := B.notSynchronized
  have hS : va_S (ag_A z) st.heap st.heap [] := va_S.rf
  obtain ⟨ls, hls, hl⟩ : ∃ ls, entryFrame m args 5 = F0 m 0 ls [] ∧ lv_has ls 5 [(0, .ref (p 5 0)), (1, .int x1), (2, .int x2), (3, .ref (p 8 0))] := by rw [ha]; exact ag_entry m [.ref (p 5 0), .int x1, .int x2, .ref (p 8 0)] (Nat.le_of_ble_eq_true rfl)
  rw [hls]
  unfold f_L_income at hf
  refine lv_aload_n hx hb dL_income_0 rfl (lv_at hl 3 rfl) ?_
  refine lv_iconst (v := 0) hx hb dL_income_1 (by decide) ?_
  refine lv_aload_n hx hb dL_income_2 rfl (lv_at hl 0 rfl) ?_
  refine lv_iload_n hx hb dL_income_3 rfl (lv_at hl 1 rfl) ?_
  refine lv_iload_n hx hb dL_income_4 rfl (lv_at hl 2 rfl) ?_
  obtain ⟨r5, hg5, hf⟩ := ag_bcs hf
  refine ag_xVi (C1 := 2) (S1 := 12) hx hb hml hT hown hG h0 hS hW (c_X5_income hq9 t5 hg5) ⟨rfl, rfl⟩ q338 q339 q340 q1 q341 dd_yX5_income ⟨Nat.le_of_ble_eq_true rfl, Nat.le_of_ble_eq_true rfl⟩ t5 rfl rfl hl.1 rfl (Nat.le_of_ble_eq_true rfl) ⟨Nat.le_of_ble_eq_true rfl, Nat.le_of_ble_eq_true rfl⟩ dL_income_5 (fun E ce q9 H locs hE hW hS g1 g2 g3 => ?_) (Nat.le_of_ble_eq_true rfl) (Nat.le_of_ble_eq_true rfl) (fun w5 H locs hr5 hW hS => ?_)
  · obtain ⟨e9, he9, hf⟩ := ag_bcx hf hE
    rw [he9] at hE
    obtain ⟨s, es5⟩ : ∃ s9, s9 = r5.2 := ⟨_, rfl⟩
    rw [← es5] at hW hf
    by_cases c9 : e9 = 2
    · have hf := ag_t c9 hf
      subst c9
      cases ag_ex2 hE
      refine vx_catch hown [] (⟨0, 10, 13, 13⟩ : ExceptionTableEntry) [] htab (fun z9 hz9 => nomatch hz9) rfl (by decide) (hT _ q183) (va_Nw.use rfl (hG.2.1 _ cst2)) g1 g2 g3 ?_
      refine lv_astore (lv' := [(4, .ref q9), (0, .ref (p 5 0)), (1, .int x1), (2, .int x2), (3, .ref (p 8 0))]) hx hb dL_income_13 hl (by decide) rfl (fun ls hl => ?_)
      refine lv_iconst (v := 1) hx hb dL_income_15 (by decide) ?_
      refine W.widen (k := 5) (n := 30) (Nat.le_of_ble_eq_true rfl) (Nat.le_of_ble_eq_true rfl) ?_
      exact ag_iret hx hb hr rfl hlocks hS (congrArg Prod.fst (Option.some.inj hf)) (congrArg Prod.snd (Option.some.inj hf) ▸ hW) dL_income_16
    have hf := ag_f c9 hf
    cases hf
  · have hf := ag_bcl hf hr5
    obtain ⟨s, es5⟩ : ∃ s9, s9 = r5.2 := ⟨_, rfl⟩
    rw [← es5] at hW hf
    refine lv_i2l hx hb dL_income_8 rfl ?_
    obtain ⟨a9, hf⟩ := ag_n hf
    refine ag_last hx hb hG hW hS t8 rfl rfl (by decide) a9 dL_income_9 (fun H locs hW hS => ?_)
    refine lv_goto (tgt := 17) hx hb dL_income_10 (by decide) ?_
    refine lv_iconst (v := 0) hx hb dL_income_17 (by decide) ?_
    refine W.widen (k := 5) (n := 30) (Nat.le_of_ble_eq_true rfl) (Nat.le_of_ble_eq_true rfl) ?_
    exact ag_iret hx hb hr rfl hlocks hS (congrArg Prod.fst (Option.some.inj hf)) (congrArg Prod.snd (Option.some.inj hf) ▸ hW) dL_income_18
def f_L_vote (fu : Nat) (x1 : Int32) (x2 : Int32) (x3 : Int32) (s : ag_S) : Option (Int32 × ag_S) := ag_bc (f_X5_vote fu x1 x2 x3 s) (fun w7 s => if (0 : Int32) < 0 ∨ 1 ≤ (0 : Int32).toNatClampNeg then none else some (0, (ag_up s 8 0 0 w7))) (fun e s => if e = 1 then (some (1, s)) else if e = 3 then (some (2, s)) else none)
abbrev rm_L_vote : Room := { frames := 8, cells := 5, slots := 30, locals := 128 }
theorem dd_yL_vote : yL_vote.cls ≠ "java/lang/invoke/MethodHandle" ∧ yL_vote.cls ≠ "java/lang/invoke/VarHandle" ∧ (parseMethodDescriptor yL_vote.desc).map (fun d => d.parameters.length) = some 5 := by decide +kernel
set_option maxHeartbeats 4000000 in
set_option maxRecDepth 100000 in
theorem c_L_vote {z : ag_Z} {l : Launch} {n : ag_N} {p : ag_P} {s : ag_S} {fu : Nat} {x1 : Int32} {x2 : Int32} {x3 : Int32} {out : Int32 × ag_S} (hq9 : l.stackTraces = false) (t5 : vp_in 0 (n 5)) (t8 : vp_in 0 (n 8)) (hf : f_L_vote fu x1 x2 x3 s = some out) : Met l yL_vote (ag_wsH yL_vote cL_vote 6 (some FieldType.int) [(0, 12, 15, 23), (0, 12, 19, 15)]) rm_L_vote (va_Pc [.ref (p 5 0), .int x1, .int x2, .int x3, .ref (p 8 0)] (ag_Pre z n p s)) (ag_Ri z n p out.1 out.2) 5 30 (ag_A z) := by
  refine va_MetW (hh := [(0, 12, 15, 23), (0, 12, 19, 15)]) (cc := cL_vote) (maxL := 6) (ret := some FieldType.int) (by decide) rfl ?_
  intro p0 e st m args below meth c s9 B hml hv
  obtain ⟨ha, h0, hG, hW⟩ := hv
  have hx := B.exec
  have hb := B.bytes
  have hr := B.returns
  have hts := atoms_spec (ws := ag_wsH yL_vote cL_vote 6 (some FieldType.int) [(0, 12, 15, 23), (0, 12, 19, 15)]) B.pre
  have htab : c.exceptionTable.toList = tableOf [(0, 12, 15, 23), (0, 12, 19, 15)] := vx_table (x := yL_vote) B (hts _ List.mem_cons_self)
  have hT : ∀ w ∈ ag_tbl, w.before args st = true := fun w h => hts w (List.mem_cons_of_mem _ h)
  have hown : st.vm.findClass RL = some m.cls := findClass_of_methodNamed B.named
  have hlocks := B.notSynchronized
  have hS : va_S (ag_A z) st.heap st.heap [] := va_S.rf
  obtain ⟨ls, hls, hl⟩ : ∃ ls, entryFrame m args 6 = F0 m 0 ls [] ∧ lv_has ls 6 [(0, .ref (p 5 0)), (1, .int x1), (2, .int x2), (3, .int x3), (4, .ref (p 8 0))] := by rw [ha]; exact ag_entry m [.ref (p 5 0), .int x1, .int x2, .int x3, .ref (p 8 0)] (Nat.le_of_ble_eq_true rfl)
  rw [hls]
  unfold f_L_vote at hf
  refine lv_aload hx hb dL_vote_0 (lv_at hl 4 rfl) ?_
  refine lv_iconst (v := 0) hx hb dL_vote_2 (by decide) ?_
  refine lv_aload_n hx hb dL_vote_3 rfl (lv_at hl 0 rfl) ?_
  refine lv_iload_n hx hb dL_vote_4 rfl (lv_at hl 1 rfl) ?_
  refine lv_iload_n hx hb dL_vote_5 rfl (lv_at hl 2 rfl) ?_
  refine lv_iload_n hx hb dL_vote_6 rfl (lv_at hl 3 rfl) ?_
  obtain ⟨r7, hg7, hf⟩ := ag_bcs hf
  refine ag_xVi (C1 := 2) (S1 := 12) hx hb hml hT hown hG h0 hS hW (c_X5_vote hq9 t5 hg7) ⟨rfl, rfl⟩ q450 q451 q452 q1 q453 dd_yX5_vote ⟨Nat.le_of_ble_eq_true rfl, Nat.le_of_ble_eq_true rfl⟩ t5 rfl rfl hl.1 rfl (Nat.le_of_ble_eq_true rfl) ⟨Nat.le_of_ble_eq_true rfl, Nat.le_of_ble_eq_true rfl⟩ dL_vote_7 (fun E ce q9 H locs hE hW hS g1 g2 g3 => ?_) (Nat.le_of_ble_eq_true rfl) (Nat.le_of_ble_eq_true rfl) (fun w7 H locs hr7 hW hS => ?_)
  · obtain ⟨e9, he9, hf⟩ := ag_bcx hf hE
    rw [he9] at hE
    obtain ⟨s, es7⟩ : ∃ s9, s9 = r7.2 := ⟨_, rfl⟩
    rw [← es7] at hW hf
    by_cases c9 : e9 = 1
    · have hf := ag_t c9 hf
      subst c9
      cases ag_ex1 hE
      refine vx_catch hown [] (⟨0, 12, 15, 23⟩ : ExceptionTableEntry) [(⟨0, 12, 19, 15⟩ : ExceptionTableEntry)] htab (fun z9 hz9 => nomatch hz9) rfl (by decide) (hT _ q345) (va_Nw.use rfl (hG.2.1 _ cst1)) g1 g2 g3 ?_
      refine lv_astore (lv' := [(5, .ref q9), (0, .ref (p 5 0)), (1, .int x1), (2, .int x2), (3, .int x3), (4, .ref (p 8 0))]) hx hb dL_vote_15 hl (by decide) rfl (fun ls hl => ?_)
      refine lv_iconst (v := 1) hx hb dL_vote_17 (by decide) ?_
      refine W.widen (k := 5) (n := 30) (Nat.le_of_ble_eq_true rfl) (Nat.le_of_ble_eq_true rfl) ?_
      exact ag_iret hx hb hr rfl hlocks hS (congrArg Prod.fst (Option.some.inj hf)) (congrArg Prod.snd (Option.some.inj hf) ▸ hW) dL_vote_18
    have hf := ag_f c9 hf
    by_cases c9 : e9 = 3
    · have hf := ag_t c9 hf
      subst c9
      cases ag_ex3 hE
      refine vx_catch hown [(⟨0, 12, 15, 23⟩ : ExceptionTableEntry)] (⟨0, 12, 19, 15⟩ : ExceptionTableEntry) [] htab (fun z9 hz9 => by
      rcases (show z9 = (⟨0, 12, 15, 23⟩ : ExceptionTableEntry) by simpa using hz9) with rfl
      · exact Or.inr ⟨by decide, _, hT _ q345, ag_nc31 hG⟩) rfl (by decide) (hT _ q184) (va_Nw.use rfl (hG.2.1 _ cst3)) g1 g2 g3 ?_
      refine lv_astore (lv' := [(5, .ref q9), (0, .ref (p 5 0)), (1, .int x1), (2, .int x2), (3, .int x3), (4, .ref (p 8 0))]) hx hb dL_vote_19 hl (by decide) rfl (fun ls hl => ?_)
      refine lv_iconst (v := 2) hx hb dL_vote_21 (by decide) ?_
      refine W.widen (k := 5) (n := 30) (Nat.le_of_ble_eq_true rfl) (Nat.le_of_ble_eq_true rfl) ?_
      exact ag_iret hx hb hr rfl hlocks hS (congrArg Prod.fst (Option.some.inj hf)) (congrArg Prod.snd (Option.some.inj hf) ▸ hW) dL_vote_22
    have hf := ag_f c9 hf
    cases hf
  · have hf := ag_bcl hf hr7
    obtain ⟨s, es7⟩ : ∃ s9, s9 = r7.2 := ⟨_, rfl⟩
    rw [← es7] at hW hf
    refine lv_i2l hx hb dL_vote_10 rfl ?_
    obtain ⟨a11, hf⟩ := ag_n hf
    refine ag_last hx hb hG hW hS t8 rfl rfl (by decide) a11 dL_vote_11 (fun H locs hW hS => ?_)
    refine lv_goto (tgt := 23) hx hb dL_vote_12 (by decide) ?_
    refine lv_iconst (v := 0) hx hb dL_vote_23 (by decide) ?_
    refine W.widen (k := 5) (n := 30) (Nat.le_of_ble_eq_true rfl) (Nat.le_of_ble_eq_true rfl) ?_
    exact ag_iret hx hb hr rfl hlocks hS (congrArg Prod.fst (Option.some.inj hf)) (congrArg Prod.snd (Option.some.inj hf) ▸ hW) dL_vote_24
def f_L_decide (fu : Nat) (x1 : Int32) (s : ag_S) : Option (Int32 × ag_S) := ag_bc (f_X5_decide fu x1 s) (fun w4 s => if (0 : Int32) < 0 ∨ 1 ≤ (0 : Int32).toNatClampNeg then none else some (0, (ag_up s 8 0 0 w4))) (fun e s => if e = 1 then (some (1, s)) else if e = 3 then (some (2, s)) else none)
abbrev rm_L_decide : Room := { frames := 8, cells := 5, slots := 30, locals := 177 }
theorem dd_yL_decide : yL_decide.cls ≠ "java/lang/invoke/MethodHandle" ∧ yL_decide.cls ≠ "java/lang/invoke/VarHandle" ∧ (parseMethodDescriptor yL_decide.desc).map (fun d => d.parameters.length) = some 3 := by decide +kernel
set_option maxHeartbeats 4000000 in
set_option maxRecDepth 100000 in
theorem c_L_decide {z : ag_Z} {l : Launch} {n : ag_N} {p : ag_P} {s : ag_S} {fu : Nat} {x1 : Int32} {out : Int32 × ag_S} (hq9 : l.stackTraces = false) (t5 : vp_in 0 (n 5)) (t8 : vp_in 0 (n 8)) (hf : f_L_decide fu x1 s = some out) : Met l yL_decide (ag_wsH yL_decide cL_decide 4 (some FieldType.int) [(0, 9, 12, 23), (0, 9, 15, 15)]) rm_L_decide (va_Pc [.ref (p 5 0), .int x1, .ref (p 8 0)] (ag_Pre z n p s)) (ag_Ri z n p out.1 out.2) 5 30 (ag_A z) := by
  refine va_MetW (hh := [(0, 9, 12, 23), (0, 9, 15, 15)]) (cc := cL_decide) (maxL := 4) (ret := some FieldType.int) (by decide) rfl ?_
  intro p0 e st m args below meth c s9 B hml hv
  obtain ⟨ha, h0, hG, hW⟩ := hv
  have hx := B.exec
  have hb := B.bytes
  have hr := B.returns
  have hts := atoms_spec (ws := ag_wsH yL_decide cL_decide 4 (some FieldType.int) [(0, 9, 12, 23), (0, 9, 15, 15)]) B.pre
  have htab : c.exceptionTable.toList = tableOf [(0, 9, 12, 23), (0, 9, 15, 15)] := vx_table (x := yL_decide) B (hts _ List.mem_cons_self)
  have hT : ∀ w ∈ ag_tbl, w.before args st = true := fun w h => hts w (List.mem_cons_of_mem _ h)
  have hown : st.vm.findClass RL = some m.cls := findClass_of_methodNamed B.named
  have hlocks := B.notSynchronized
  have hS : va_S (ag_A z) st.heap st.heap [] := va_S.rf
  obtain ⟨ls, hls, hl⟩ : ∃ ls, entryFrame m args 4 = F0 m 0 ls [] ∧ lv_has ls 4 [(0, .ref (p 5 0)), (1, .int x1), (2, .ref (p 8 0))] := by rw [ha]; exact ag_entry m [.ref (p 5 0), .int x1, .ref (p 8 0)] (Nat.le_of_ble_eq_true rfl)
  rw [hls]
  unfold f_L_decide at hf
  refine lv_aload_n hx hb dL_decide_0 rfl (lv_at hl 2 rfl) ?_
  refine lv_iconst (v := 0) hx hb dL_decide_1 (by decide) ?_
  refine lv_aload_n hx hb dL_decide_2 rfl (lv_at hl 0 rfl) ?_
  refine lv_iload_n hx hb dL_decide_3 rfl (lv_at hl 1 rfl) ?_
  obtain ⟨r4, hg4, hf⟩ := ag_bcs hf
  refine ag_xVi (C1 := 3) (S1 := 18) hx hb hml hT hown hG h0 hS hW (c_X5_decide hq9 t5 hg4) ⟨rfl, rfl⟩ q472 q473 q474 q1 q475 dd_yX5_decide ⟨Nat.le_of_ble_eq_true rfl, Nat.le_of_ble_eq_true rfl⟩ t5 rfl rfl hl.1 rfl (Nat.le_of_ble_eq_true rfl) ⟨Nat.le_of_ble_eq_true rfl, Nat.le_of_ble_eq_true rfl⟩ dL_decide_4 (fun E ce q9 H locs hE hW hS g1 g2 g3 => ?_) (Nat.le_of_ble_eq_true rfl) (Nat.le_of_ble_eq_true rfl) (fun w4 H locs hr4 hW hS => ?_)
  · obtain ⟨e9, he9, hf⟩ := ag_bcx hf hE
    rw [he9] at hE
    obtain ⟨s, es4⟩ : ∃ s9, s9 = r4.2 := ⟨_, rfl⟩
    rw [← es4] at hW hf
    by_cases c9 : e9 = 1
    · have hf := ag_t c9 hf
      subst c9
      cases ag_ex1 hE
      refine vx_catch hown [] (⟨0, 9, 12, 23⟩ : ExceptionTableEntry) [(⟨0, 9, 15, 15⟩ : ExceptionTableEntry)] htab (fun z9 hz9 => nomatch hz9) rfl (by decide) (hT _ q345) (va_Nw.use rfl (hG.2.1 _ cst1)) g1 g2 g3 ?_
      refine lv_astore_n (lv' := [(3, .ref q9), (0, .ref (p 5 0)), (1, .int x1), (2, .ref (p 8 0))]) hx hb dL_decide_12 rfl hl (by decide) rfl (fun ls hl => ?_)
      refine lv_iconst (v := 1) hx hb dL_decide_13 (by decide) ?_
      refine W.widen (k := 5) (n := 30) (Nat.le_of_ble_eq_true rfl) (Nat.le_of_ble_eq_true rfl) ?_
      exact ag_iret hx hb hr rfl hlocks hS (congrArg Prod.fst (Option.some.inj hf)) (congrArg Prod.snd (Option.some.inj hf) ▸ hW) dL_decide_14
    have hf := ag_f c9 hf
    by_cases c9 : e9 = 3
    · have hf := ag_t c9 hf
      subst c9
      cases ag_ex3 hE
      refine vx_catch hown [(⟨0, 9, 12, 23⟩ : ExceptionTableEntry)] (⟨0, 9, 15, 15⟩ : ExceptionTableEntry) [] htab (fun z9 hz9 => by
      rcases (show z9 = (⟨0, 9, 12, 23⟩ : ExceptionTableEntry) by simpa using hz9) with rfl
      · exact Or.inr ⟨by decide, _, hT _ q345, ag_nc31 hG⟩) rfl (by decide) (hT _ q184) (va_Nw.use rfl (hG.2.1 _ cst3)) g1 g2 g3 ?_
      refine lv_astore_n (lv' := [(3, .ref q9), (0, .ref (p 5 0)), (1, .int x1), (2, .ref (p 8 0))]) hx hb dL_decide_15 rfl hl (by decide) rfl (fun ls hl => ?_)
      refine lv_iconst (v := 2) hx hb dL_decide_16 (by decide) ?_
      refine W.widen (k := 5) (n := 30) (Nat.le_of_ble_eq_true rfl) (Nat.le_of_ble_eq_true rfl) ?_
      exact ag_iret hx hb hr rfl hlocks hS (congrArg Prod.fst (Option.some.inj hf)) (congrArg Prod.snd (Option.some.inj hf) ▸ hW) dL_decide_17
    have hf := ag_f c9 hf
    cases hf
  · have hf := ag_bcl hf hr4
    obtain ⟨s, es4⟩ : ∃ s9, s9 = r4.2 := ⟨_, rfl⟩
    rw [← es4] at hW hf
    refine lv_i2l hx hb dL_decide_7 rfl ?_
    obtain ⟨a8, hf⟩ := ag_n hf
    refine ag_last hx hb hG hW hS t8 rfl rfl (by decide) a8 dL_decide_8 (fun H locs hW hS => ?_)
    refine lv_goto (tgt := 18) hx hb dL_decide_9 (by decide) ?_
    refine lv_iconst (v := 0) hx hb dL_decide_18 (by decide) ?_
    refine W.widen (k := 5) (n := 30) (Nat.le_of_ble_eq_true rfl) (Nat.le_of_ble_eq_true rfl) ?_
    exact ag_iret hx hb hr rfl hlocks hS (congrArg Prod.fst (Option.some.inj hf)) (congrArg Prod.snd (Option.some.inj hf) ▸ hW) dL_decide_19
def f_L_strike (fu : Nat) (x1 : Int32) (s : ag_S) : Option (Int32 × ag_S) := ag_bc (f_X5_strike fu x1 s) (fun w4 s => if (0 : Int32) < 0 ∨ 1 ≤ (0 : Int32).toNatClampNeg then none else some (0, (ag_up s 8 0 0 w4))) (fun e s => if e = 1 then (some (1, s)) else if e = 3 then (some (2, s)) else none)
abbrev rm_L_strike : Room := { frames := 8, cells := 5, slots := 30, locals := 177 }
theorem dd_yL_strike : yL_strike.cls ≠ "java/lang/invoke/MethodHandle" ∧ yL_strike.cls ≠ "java/lang/invoke/VarHandle" ∧ (parseMethodDescriptor yL_strike.desc).map (fun d => d.parameters.length) = some 3 := by decide +kernel
set_option maxHeartbeats 4000000 in
set_option maxRecDepth 100000 in
theorem c_L_strike {z : ag_Z} {l : Launch} {n : ag_N} {p : ag_P} {s : ag_S} {fu : Nat} {x1 : Int32} {out : Int32 × ag_S} (hq9 : l.stackTraces = false) (t5 : vp_in 0 (n 5)) (t8 : vp_in 0 (n 8)) (hf : f_L_strike fu x1 s = some out) : Met l yL_strike (ag_wsH yL_strike cL_strike 4 (some FieldType.int) [(0, 9, 12, 23), (0, 9, 15, 15)]) rm_L_strike (va_Pc [.ref (p 5 0), .int x1, .ref (p 8 0)] (ag_Pre z n p s)) (ag_Ri z n p out.1 out.2) 5 30 (ag_A z) := by
  refine va_MetW (hh := [(0, 9, 12, 23), (0, 9, 15, 15)]) (cc := cL_strike) (maxL := 4) (ret := some FieldType.int) (by decide) rfl ?_
  intro p0 e st m args below meth c s9 B hml hv
  obtain ⟨ha, h0, hG, hW⟩ := hv
  have hx := B.exec
  have hb := B.bytes
  have hr := B.returns
  have hts := atoms_spec (ws := ag_wsH yL_strike cL_strike 4 (some FieldType.int) [(0, 9, 12, 23), (0, 9, 15, 15)]) B.pre
  have htab : c.exceptionTable.toList = tableOf [(0, 9, 12, 23), (0, 9, 15, 15)] := vx_table (x := yL_strike) B (hts _ List.mem_cons_self)
  have hT : ∀ w ∈ ag_tbl, w.before args st = true := fun w h => hts w (List.mem_cons_of_mem _ h)
  have hown : st.vm.findClass RL = some m.cls := findClass_of_methodNamed B.named
  have hlocks := B.notSynchronized
  have hS : va_S (ag_A z) st.heap st.heap [] := va_S.rf
  obtain ⟨ls, hls, hl⟩ : ∃ ls, entryFrame m args 4 = F0 m 0 ls [] ∧ lv_has ls 4 [(0, .ref (p 5 0)), (1, .int x1), (2, .ref (p 8 0))] := by rw [ha]; exact ag_entry m [.ref (p 5 0), .int x1, .ref (p 8 0)] (Nat.le_of_ble_eq_true rfl)
  rw [hls]
  unfold f_L_strike at hf
  refine lv_aload_n hx hb dL_strike_0 rfl (lv_at hl 2 rfl) ?_
  refine lv_iconst (v := 0) hx hb dL_strike_1 (by decide) ?_
  refine lv_aload_n hx hb dL_strike_2 rfl (lv_at hl 0 rfl) ?_
  refine lv_iload_n hx hb dL_strike_3 rfl (lv_at hl 1 rfl) ?_
  obtain ⟨r4, hg4, hf⟩ := ag_bcs hf
  refine ag_xVi (C1 := 2) (S1 := 12) hx hb hml hT hown hG h0 hS hW (c_X5_strike hq9 t5 hg4) ⟨rfl, rfl⟩ q562 q563 q564 q1 q565 dd_yX5_strike ⟨Nat.le_of_ble_eq_true rfl, Nat.le_of_ble_eq_true rfl⟩ t5 rfl rfl hl.1 rfl (Nat.le_of_ble_eq_true rfl) ⟨Nat.le_of_ble_eq_true rfl, Nat.le_of_ble_eq_true rfl⟩ dL_strike_4 (fun E ce q9 H locs hE hW hS g1 g2 g3 => ?_) (Nat.le_of_ble_eq_true rfl) (Nat.le_of_ble_eq_true rfl) (fun w4 H locs hr4 hW hS => ?_)
  · obtain ⟨e9, he9, hf⟩ := ag_bcx hf hE
    rw [he9] at hE
    obtain ⟨s, es4⟩ : ∃ s9, s9 = r4.2 := ⟨_, rfl⟩
    rw [← es4] at hW hf
    by_cases c9 : e9 = 1
    · have hf := ag_t c9 hf
      subst c9
      cases ag_ex1 hE
      refine vx_catch hown [] (⟨0, 9, 12, 23⟩ : ExceptionTableEntry) [(⟨0, 9, 15, 15⟩ : ExceptionTableEntry)] htab (fun z9 hz9 => nomatch hz9) rfl (by decide) (hT _ q345) (va_Nw.use rfl (hG.2.1 _ cst1)) g1 g2 g3 ?_
      refine lv_astore_n (lv' := [(3, .ref q9), (0, .ref (p 5 0)), (1, .int x1), (2, .ref (p 8 0))]) hx hb dL_strike_12 rfl hl (by decide) rfl (fun ls hl => ?_)
      refine lv_iconst (v := 1) hx hb dL_strike_13 (by decide) ?_
      refine W.widen (k := 5) (n := 30) (Nat.le_of_ble_eq_true rfl) (Nat.le_of_ble_eq_true rfl) ?_
      exact ag_iret hx hb hr rfl hlocks hS (congrArg Prod.fst (Option.some.inj hf)) (congrArg Prod.snd (Option.some.inj hf) ▸ hW) dL_strike_14
    have hf := ag_f c9 hf
    by_cases c9 : e9 = 3
    · have hf := ag_t c9 hf
      subst c9
      cases ag_ex3 hE
      refine vx_catch hown [(⟨0, 9, 12, 23⟩ : ExceptionTableEntry)] (⟨0, 9, 15, 15⟩ : ExceptionTableEntry) [] htab (fun z9 hz9 => by
      rcases (show z9 = (⟨0, 9, 12, 23⟩ : ExceptionTableEntry) by simpa using hz9) with rfl
      · exact Or.inr ⟨by decide, _, hT _ q345, ag_nc31 hG⟩) rfl (by decide) (hT _ q184) (va_Nw.use rfl (hG.2.1 _ cst3)) g1 g2 g3 ?_
      refine lv_astore_n (lv' := [(3, .ref q9), (0, .ref (p 5 0)), (1, .int x1), (2, .ref (p 8 0))]) hx hb dL_strike_15 rfl hl (by decide) rfl (fun ls hl => ?_)
      refine lv_iconst (v := 2) hx hb dL_strike_16 (by decide) ?_
      refine W.widen (k := 5) (n := 30) (Nat.le_of_ble_eq_true rfl) (Nat.le_of_ble_eq_true rfl) ?_
      exact ag_iret hx hb hr rfl hlocks hS (congrArg Prod.fst (Option.some.inj hf)) (congrArg Prod.snd (Option.some.inj hf) ▸ hW) dL_strike_17
    have hf := ag_f c9 hf
    cases hf
  · have hf := ag_bcl hf hr4
    obtain ⟨s, es4⟩ : ∃ s9, s9 = r4.2 := ⟨_, rfl⟩
    rw [← es4] at hW hf
    refine lv_i2l hx hb dL_strike_7 rfl ?_
    obtain ⟨a8, hf⟩ := ag_n hf
    refine ag_last hx hb hG hW hS t8 rfl rfl (by decide) a8 dL_strike_8 (fun H locs hW hS => ?_)
    refine lv_goto (tgt := 18) hx hb dL_strike_9 (by decide) ?_
    refine lv_iconst (v := 0) hx hb dL_strike_18 (by decide) ?_
    refine W.widen (k := 5) (n := 30) (Nat.le_of_ble_eq_true rfl) (Nat.le_of_ble_eq_true rfl) ?_
    exact ag_iret hx hb hr rfl hlocks hS (congrArg Prod.fst (Option.some.inj hf)) (congrArg Prod.snd (Option.some.inj hf) ▸ hW) dL_strike_19
def f_L_pay (fu : Nat) (x1 : Int32) (x2 : Int32) (s : ag_S) : Option (Int32 × ag_S) := ag_bc (f_X5_pay fu x1 x2 s) (fun w5 s => if (0 : Int32) < 0 ∨ 1 ≤ (0 : Int32).toNatClampNeg then none else some (0, (ag_up s 8 0 0 w5))) (fun e s => if e = 1 then (some (1, s)) else if e = 2 then (some (2, s)) else if e = 3 then (some (3, s)) else none)
abbrev rm_L_pay : Room := { frames := 8, cells := 5, slots := 30, locals := 128 }
theorem dd_yL_pay : yL_pay.cls ≠ "java/lang/invoke/MethodHandle" ∧ yL_pay.cls ≠ "java/lang/invoke/VarHandle" ∧ (parseMethodDescriptor yL_pay.desc).map (fun d => d.parameters.length) = some 4 := by decide +kernel
set_option maxHeartbeats 4000000 in
set_option maxRecDepth 100000 in
theorem c_L_pay {z : ag_Z} {l : Launch} {n : ag_N} {p : ag_P} {s : ag_S} {fu : Nat} {x1 : Int32} {x2 : Int32} {out : Int32 × ag_S} (hq9 : l.stackTraces = false) (t5 : vp_in 0 (n 5)) (t8 : vp_in 0 (n 8)) (hf : f_L_pay fu x1 x2 s = some out) : Met l yL_pay (ag_wsH yL_pay cL_pay 5 (some FieldType.int) [(0, 10, 13, 23), (0, 10, 17, 13), (0, 10, 21, 15)]) rm_L_pay (va_Pc [.ref (p 5 0), .int x1, .int x2, .ref (p 8 0)] (ag_Pre z n p s)) (ag_Ri z n p out.1 out.2) 5 30 (ag_A z) := by
  refine va_MetW (hh := [(0, 10, 13, 23), (0, 10, 17, 13), (0, 10, 21, 15)]) (cc := cL_pay) (maxL := 5) (ret := some FieldType.int) (by decide) rfl ?_
  intro p0 e st m args below meth c s9 B hml hv
  obtain ⟨ha, h0, hG, hW⟩ := hv
  have hx := B.exec
  have hb := B.bytes
  have hr := B.returns
  have hts := atoms_spec (ws := ag_wsH yL_pay cL_pay 5 (some FieldType.int) [(0, 10, 13, 23), (0, 10, 17, 13), (0, 10, 21, 15)]) B.pre
  have htab : c.exceptionTable.toList = tableOf [(0, 10, 13, 23), (0, 10, 17, 13), (0, 10, 21, 15)] := vx_table (x := yL_pay) B (hts _ List.mem_cons_self)
  have hT : ∀ w ∈ ag_tbl, w.before args st = true := fun w h => hts w (List.mem_cons_of_mem _ h)
  have hown : st.vm.findClass RL = some m.cls := findClass_of_methodNamed B.named
  have hlocks := B.notSynchronized
  have hS : va_S (ag_A z) st.heap st.heap [] := va_S.rf
  obtain ⟨ls, hls, hl⟩ : ∃ ls, entryFrame m args 5 = F0 m 0 ls [] ∧ lv_has ls 5 [(0, .ref (p 5 0)), (1, .int x1), (2, .int x2), (3, .ref (p 8 0))] := by rw [ha]; exact ag_entry m [.ref (p 5 0), .int x1, .int x2, .ref (p 8 0)] (Nat.le_of_ble_eq_true rfl)
  rw [hls]
  unfold f_L_pay at hf
  refine lv_aload_n hx hb dL_pay_0 rfl (lv_at hl 3 rfl) ?_
  refine lv_iconst (v := 0) hx hb dL_pay_1 (by decide) ?_
  refine lv_aload_n hx hb dL_pay_2 rfl (lv_at hl 0 rfl) ?_
  refine lv_iload_n hx hb dL_pay_3 rfl (lv_at hl 1 rfl) ?_
  refine lv_iload_n hx hb dL_pay_4 rfl (lv_at hl 2 rfl) ?_
  obtain ⟨r5, hg5, hf⟩ := ag_bcs hf
  refine ag_xVi (C1 := 3) (S1 := 18) hx hb hml hT hown hG h0 hS hW (c_X5_pay hq9 t5 hg5) ⟨rfl, rfl⟩ q629 q630 q631 q1 q632 dd_yX5_pay ⟨Nat.le_of_ble_eq_true rfl, Nat.le_of_ble_eq_true rfl⟩ t5 rfl rfl hl.1 rfl (Nat.le_of_ble_eq_true rfl) ⟨Nat.le_of_ble_eq_true rfl, Nat.le_of_ble_eq_true rfl⟩ dL_pay_5 (fun E ce q9 H locs hE hW hS g1 g2 g3 => ?_) (Nat.le_of_ble_eq_true rfl) (Nat.le_of_ble_eq_true rfl) (fun w5 H locs hr5 hW hS => ?_)
  · obtain ⟨e9, he9, hf⟩ := ag_bcx hf hE
    rw [he9] at hE
    obtain ⟨s, es5⟩ : ∃ s9, s9 = r5.2 := ⟨_, rfl⟩
    rw [← es5] at hW hf
    by_cases c9 : e9 = 1
    · have hf := ag_t c9 hf
      subst c9
      cases ag_ex1 hE
      refine vx_catch hown [] (⟨0, 10, 13, 23⟩ : ExceptionTableEntry) [(⟨0, 10, 17, 13⟩ : ExceptionTableEntry), (⟨0, 10, 21, 15⟩ : ExceptionTableEntry)] htab (fun z9 hz9 => nomatch hz9) rfl (by decide) (hT _ q345) (va_Nw.use rfl (hG.2.1 _ cst1)) g1 g2 g3 ?_
      refine lv_astore (lv' := [(4, .ref q9), (0, .ref (p 5 0)), (1, .int x1), (2, .int x2), (3, .ref (p 8 0))]) hx hb dL_pay_13 hl (by decide) rfl (fun ls hl => ?_)
      refine lv_iconst (v := 1) hx hb dL_pay_15 (by decide) ?_
      refine W.widen (k := 5) (n := 30) (Nat.le_of_ble_eq_true rfl) (Nat.le_of_ble_eq_true rfl) ?_
      exact ag_iret hx hb hr rfl hlocks hS (congrArg Prod.fst (Option.some.inj hf)) (congrArg Prod.snd (Option.some.inj hf) ▸ hW) dL_pay_16
    have hf := ag_f c9 hf
    by_cases c9 : e9 = 2
    · have hf := ag_t c9 hf
      subst c9
      cases ag_ex2 hE
      refine vx_catch hown [(⟨0, 10, 13, 23⟩ : ExceptionTableEntry)] (⟨0, 10, 17, 13⟩ : ExceptionTableEntry) [(⟨0, 10, 21, 15⟩ : ExceptionTableEntry)] htab (fun z9 hz9 => by
      rcases (show z9 = (⟨0, 10, 13, 23⟩ : ExceptionTableEntry) by simpa using hz9) with rfl
      · exact Or.inr ⟨by decide, _, hT _ q345, ag_nc21 hG⟩) rfl (by decide) (hT _ q183) (va_Nw.use rfl (hG.2.1 _ cst2)) g1 g2 g3 ?_
      refine lv_astore (lv' := [(4, .ref q9), (0, .ref (p 5 0)), (1, .int x1), (2, .int x2), (3, .ref (p 8 0))]) hx hb dL_pay_17 hl (by decide) rfl (fun ls hl => ?_)
      refine lv_iconst (v := 2) hx hb dL_pay_19 (by decide) ?_
      refine W.widen (k := 5) (n := 30) (Nat.le_of_ble_eq_true rfl) (Nat.le_of_ble_eq_true rfl) ?_
      exact ag_iret hx hb hr rfl hlocks hS (congrArg Prod.fst (Option.some.inj hf)) (congrArg Prod.snd (Option.some.inj hf) ▸ hW) dL_pay_20
    have hf := ag_f c9 hf
    by_cases c9 : e9 = 3
    · have hf := ag_t c9 hf
      subst c9
      cases ag_ex3 hE
      refine vx_catch hown [(⟨0, 10, 13, 23⟩ : ExceptionTableEntry), (⟨0, 10, 17, 13⟩ : ExceptionTableEntry)] (⟨0, 10, 21, 15⟩ : ExceptionTableEntry) [] htab (fun z9 hz9 => by
      rcases (show z9 = (⟨0, 10, 13, 23⟩ : ExceptionTableEntry) ∨ z9 = (⟨0, 10, 17, 13⟩ : ExceptionTableEntry) by simpa using hz9) with rfl | rfl
      · exact Or.inr ⟨by decide, _, hT _ q345, ag_nc31 hG⟩
      · exact Or.inr ⟨by decide, _, hT _ q183, ag_nc32 hG⟩) rfl (by decide) (hT _ q184) (va_Nw.use rfl (hG.2.1 _ cst3)) g1 g2 g3 ?_
      refine lv_astore (lv' := [(4, .ref q9), (0, .ref (p 5 0)), (1, .int x1), (2, .int x2), (3, .ref (p 8 0))]) hx hb dL_pay_21 hl (by decide) rfl (fun ls hl => ?_)
      refine lv_iconst (v := 3) hx hb dL_pay_23 (by decide) ?_
      refine W.widen (k := 5) (n := 30) (Nat.le_of_ble_eq_true rfl) (Nat.le_of_ble_eq_true rfl) ?_
      exact ag_iret hx hb hr rfl hlocks hS (congrArg Prod.fst (Option.some.inj hf)) (congrArg Prod.snd (Option.some.inj hf) ▸ hW) dL_pay_24
    have hf := ag_f c9 hf
    cases hf
  · have hf := ag_bcl hf hr5
    obtain ⟨s, es5⟩ : ∃ s9, s9 = r5.2 := ⟨_, rfl⟩
    rw [← es5] at hW hf
    refine lv_i2l hx hb dL_pay_8 rfl ?_
    obtain ⟨a9, hf⟩ := ag_n hf
    refine ag_last hx hb hG hW hS t8 rfl rfl (by decide) a9 dL_pay_9 (fun H locs hW hS => ?_)
    refine lv_goto (tgt := 25) hx hb dL_pay_10 (by decide) ?_
    refine lv_iconst (v := 0) hx hb dL_pay_25 (by decide) ?_
    refine W.widen (k := 5) (n := 30) (Nat.le_of_ble_eq_true rfl) (Nat.le_of_ble_eq_true rfl) ?_
    exact ag_iret hx hb hr rfl hlocks hS (congrArg Prod.fst (Option.some.inj hf)) (congrArg Prod.snd (Option.some.inj hf) ▸ hW) dL_pay_26
def f_L_report (fu : Nat) (x1 : Int32) (s : ag_S) : Option (Int32 × ag_S) := ag_bc (f_X5_report fu x1 s) (fun w4 s => if w4 = 0 then (if (0 : Int32) < 0 ∨ 1 ≤ (0 : Int32).toNatClampNeg then none else some (0, (ag_up s 8 0 0 0))) else (if (0 : Int32) < 0 ∨ 1 ≤ (0 : Int32).toNatClampNeg then none else some (0, (ag_up s 8 0 0 1)))) (fun e s => if e = 1 then (some (1, s)) else if e = 3 then (some (2, s)) else none)
abbrev rm_L_report : Room := { frames := 8, cells := 5, slots := 30, locals := 127 }
theorem dd_yL_report : yL_report.cls ≠ "java/lang/invoke/MethodHandle" ∧ yL_report.cls ≠ "java/lang/invoke/VarHandle" ∧ (parseMethodDescriptor yL_report.desc).map (fun d => d.parameters.length) = some 3 := by decide +kernel
set_option maxHeartbeats 4000000 in
set_option maxRecDepth 100000 in
theorem c_L_report {z : ag_Z} {l : Launch} {n : ag_N} {p : ag_P} {s : ag_S} {fu : Nat} {x1 : Int32} {out : Int32 × ag_S} (hq9 : l.stackTraces = false) (t5 : vp_in 0 (n 5)) (t8 : vp_in 0 (n 8)) (hf : f_L_report fu x1 s = some out) : Met l yL_report (ag_wsH yL_report cL_report 4 (some FieldType.int) [(0, 16, 19, 23), (0, 16, 22, 15)]) rm_L_report (va_Pc [.ref (p 5 0), .int x1, .ref (p 8 0)] (ag_Pre z n p s)) (ag_Ri z n p out.1 out.2) 5 30 (ag_A z) := by
  refine va_MetW (hh := [(0, 16, 19, 23), (0, 16, 22, 15)]) (cc := cL_report) (maxL := 4) (ret := some FieldType.int) (by decide) rfl ?_
  intro p0 e st m args below meth c s9 B hml hv
  obtain ⟨ha, h0, hG, hW⟩ := hv
  have hx := B.exec
  have hb := B.bytes
  have hr := B.returns
  have hts := atoms_spec (ws := ag_wsH yL_report cL_report 4 (some FieldType.int) [(0, 16, 19, 23), (0, 16, 22, 15)]) B.pre
  have htab : c.exceptionTable.toList = tableOf [(0, 16, 19, 23), (0, 16, 22, 15)] := vx_table (x := yL_report) B (hts _ List.mem_cons_self)
  have hT : ∀ w ∈ ag_tbl, w.before args st = true := fun w h => hts w (List.mem_cons_of_mem _ h)
  have hown : st.vm.findClass RL = some m.cls := findClass_of_methodNamed B.named
  have hlocks := B.notSynchronized
  have hS : va_S (ag_A z) st.heap st.heap [] := va_S.rf
  obtain ⟨ls, hls, hl⟩ : ∃ ls, entryFrame m args 4 = F0 m 0 ls [] ∧ lv_has ls 4 [(0, .ref (p 5 0)), (1, .int x1), (2, .ref (p 8 0))] := by rw [ha]; exact ag_entry m [.ref (p 5 0), .int x1, .ref (p 8 0)] (Nat.le_of_ble_eq_true rfl)
  rw [hls]
  unfold f_L_report at hf
  refine lv_aload_n hx hb dL_report_0 rfl (lv_at hl 2 rfl) ?_
  refine lv_iconst (v := 0) hx hb dL_report_1 (by decide) ?_
  refine lv_aload_n hx hb dL_report_2 rfl (lv_at hl 0 rfl) ?_
  refine lv_iload_n hx hb dL_report_3 rfl (lv_at hl 1 rfl) ?_
  obtain ⟨r4, hg4, hf⟩ := ag_bcs hf
  refine ag_xVi (C1 := 2) (S1 := 12) hx hb hml hT hown hG h0 hS hW (c_X5_report hq9 t5 hg4) ⟨rfl, rfl⟩ q651 q652 q653 q1 q654 dd_yX5_report ⟨Nat.le_of_ble_eq_true rfl, Nat.le_of_ble_eq_true rfl⟩ t5 rfl rfl hl.1 rfl (Nat.le_of_ble_eq_true rfl) ⟨Nat.le_of_ble_eq_true rfl, Nat.le_of_ble_eq_true rfl⟩ dL_report_4 (fun E ce q9 H locs hE hW hS g1 g2 g3 => ?_) (Nat.le_of_ble_eq_true rfl) (Nat.le_of_ble_eq_true rfl) (fun w4 H locs hr4 hW hS => ?_)
  · obtain ⟨e9, he9, hf⟩ := ag_bcx hf hE
    rw [he9] at hE
    obtain ⟨s, es4⟩ : ∃ s9, s9 = r4.2 := ⟨_, rfl⟩
    rw [← es4] at hW hf
    by_cases c9 : e9 = 1
    · have hf := ag_t c9 hf
      subst c9
      cases ag_ex1 hE
      refine vx_catch hown [] (⟨0, 16, 19, 23⟩ : ExceptionTableEntry) [(⟨0, 16, 22, 15⟩ : ExceptionTableEntry)] htab (fun z9 hz9 => nomatch hz9) rfl (by decide) (hT _ q345) (va_Nw.use rfl (hG.2.1 _ cst1)) g1 g2 g3 ?_
      refine lv_astore_n (lv' := [(3, .ref q9), (0, .ref (p 5 0)), (1, .int x1), (2, .ref (p 8 0))]) hx hb dL_report_19 rfl hl (by decide) rfl (fun ls hl => ?_)
      refine lv_iconst (v := 1) hx hb dL_report_20 (by decide) ?_
      refine W.widen (k := 5) (n := 30) (Nat.le_of_ble_eq_true rfl) (Nat.le_of_ble_eq_true rfl) ?_
      exact ag_iret hx hb hr rfl hlocks hS (congrArg Prod.fst (Option.some.inj hf)) (congrArg Prod.snd (Option.some.inj hf) ▸ hW) dL_report_21
    have hf := ag_f c9 hf
    by_cases c9 : e9 = 3
    · have hf := ag_t c9 hf
      subst c9
      cases ag_ex3 hE
      refine vx_catch hown [(⟨0, 16, 19, 23⟩ : ExceptionTableEntry)] (⟨0, 16, 22, 15⟩ : ExceptionTableEntry) [] htab (fun z9 hz9 => by
      rcases (show z9 = (⟨0, 16, 19, 23⟩ : ExceptionTableEntry) by simpa using hz9) with rfl
      · exact Or.inr ⟨by decide, _, hT _ q345, ag_nc31 hG⟩) rfl (by decide) (hT _ q184) (va_Nw.use rfl (hG.2.1 _ cst3)) g1 g2 g3 ?_
      refine lv_astore_n (lv' := [(3, .ref q9), (0, .ref (p 5 0)), (1, .int x1), (2, .ref (p 8 0))]) hx hb dL_report_22 rfl hl (by decide) rfl (fun ls hl => ?_)
      refine lv_iconst (v := 2) hx hb dL_report_23 (by decide) ?_
      refine W.widen (k := 5) (n := 30) (Nat.le_of_ble_eq_true rfl) (Nat.le_of_ble_eq_true rfl) ?_
      exact ag_iret hx hb hr rfl hlocks hS (congrArg Prod.fst (Option.some.inj hf)) (congrArg Prod.snd (Option.some.inj hf) ▸ hW) dL_report_24
    have hf := ag_f c9 hf
    cases hf
  · have hf := ag_bcl hf hr4
    obtain ⟨s, es4⟩ : ∃ s9, s9 = r4.2 := ⟨_, rfl⟩
    rw [← es4] at hW hf
    refine lv_if_eq (tgt := 14) hx hb dL_report_7 (by decide) (fun c7 => ?_) (fun c7 => ?_)
    · have hf := ag_t c7 hf
      refine lv_lconst (v := (0 : Int32).toInt64) hx hb dL_report_14 (by decide) ?_
      obtain ⟨a15, hf⟩ := ag_n hf
      refine ag_last hx hb hG hW hS t8 rfl rfl (by decide) a15 dL_report_15 (fun H locs hW hS => ?_)
      refine lv_goto (tgt := 25) hx hb dL_report_16 (by decide) ?_
      refine lv_iconst (v := 0) hx hb dL_report_25 (by decide) ?_
      refine W.widen (k := 5) (n := 30) (Nat.le_of_ble_eq_true rfl) (Nat.le_of_ble_eq_true rfl) ?_
      exact ag_iret hx hb hr rfl hlocks hS (congrArg Prod.fst (Option.some.inj hf)) (congrArg Prod.snd (Option.some.inj hf) ▸ hW) dL_report_26
    · have hf := ag_f c7 hf
      refine lv_lconst (v := (1 : Int32).toInt64) hx hb dL_report_10 (by decide) ?_
      refine lv_goto (tgt := 15) hx hb dL_report_11 (by decide) ?_
      obtain ⟨a15, hf⟩ := ag_n hf
      refine ag_last hx hb hG hW hS t8 rfl rfl (by decide) a15 dL_report_15 (fun H locs hW hS => ?_)
      refine lv_goto (tgt := 25) hx hb dL_report_16 (by decide) ?_
      refine lv_iconst (v := 0) hx hb dL_report_25 (by decide) ?_
      refine W.widen (k := 5) (n := 30) (Nat.le_of_ble_eq_true rfl) (Nat.le_of_ble_eq_true rfl) ?_
      exact ag_iret hx hb hr rfl hlocks hS (congrArg Prod.fst (Option.some.inj hf)) (congrArg Prod.snd (Option.some.inj hf) ▸ hW) dL_report_26
def f_L_spend (fu : Nat) (x1 : Int32) (x2 : Int32) (s : ag_S) : Option (Int32 × ag_S) := ag_bc (f_X5_spend fu x1 x2 s) (fun w5 s => if (0 : Int32) < 0 ∨ 1 ≤ (0 : Int32).toNatClampNeg then none else some (0, (ag_up s 8 0 0 w5))) (fun e s => if e = 1 then (some (1, s)) else if e = 2 then (some (2, s)) else if e = 3 then (some (3, s)) else none)
abbrev rm_L_spend : Room := { frames := 8, cells := 5, slots := 30, locals := 154 }
theorem dd_yL_spend : yL_spend.cls ≠ "java/lang/invoke/MethodHandle" ∧ yL_spend.cls ≠ "java/lang/invoke/VarHandle" ∧ (parseMethodDescriptor yL_spend.desc).map (fun d => d.parameters.length) = some 4 := by decide +kernel
set_option maxHeartbeats 4000000 in
set_option maxRecDepth 100000 in
theorem c_L_spend {z : ag_Z} {l : Launch} {n : ag_N} {p : ag_P} {s : ag_S} {fu : Nat} {x1 : Int32} {x2 : Int32} {out : Int32 × ag_S} (hq9 : l.stackTraces = false) (t5 : vp_in 0 (n 5)) (t8 : vp_in 0 (n 8)) (hf : f_L_spend fu x1 x2 s = some out) : Met l yL_spend (ag_wsH yL_spend cL_spend 5 (some FieldType.int) [(0, 10, 13, 23), (0, 10, 17, 13), (0, 10, 21, 15)]) rm_L_spend (va_Pc [.ref (p 5 0), .int x1, .int x2, .ref (p 8 0)] (ag_Pre z n p s)) (ag_Ri z n p out.1 out.2) 5 30 (ag_A z) := by
  refine va_MetW (hh := [(0, 10, 13, 23), (0, 10, 17, 13), (0, 10, 21, 15)]) (cc := cL_spend) (maxL := 5) (ret := some FieldType.int) (by decide) rfl ?_
  intro p0 e st m args below meth c s9 B hml hv
  obtain ⟨ha, h0, hG, hW⟩ := hv
  have hx := B.exec
  have hb := B.bytes
  have hr := B.returns
  have hts := atoms_spec (ws := ag_wsH yL_spend cL_spend 5 (some FieldType.int) [(0, 10, 13, 23), (0, 10, 17, 13), (0, 10, 21, 15)]) B.pre
  have htab : c.exceptionTable.toList = tableOf [(0, 10, 13, 23), (0, 10, 17, 13), (0, 10, 21, 15)] := vx_table (x := yL_spend) B (hts _ List.mem_cons_self)
  have hT : ∀ w ∈ ag_tbl, w.before args st = true := fun w h => hts w (List.mem_cons_of_mem _ h)
  have hown : st.vm.findClass RL = some m.cls := findClass_of_methodNamed B.named
  have hlocks := B.notSynchronized
  have hS : va_S (ag_A z) st.heap st.heap [] := va_S.rf
  obtain ⟨ls, hls, hl⟩ : ∃ ls, entryFrame m args 5 = F0 m 0 ls [] ∧ lv_has ls 5 [(0, .ref (p 5 0)), (1, .int x1), (2, .int x2), (3, .ref (p 8 0))] := by rw [ha]; exact ag_entry m [.ref (p 5 0), .int x1, .int x2, .ref (p 8 0)] (Nat.le_of_ble_eq_true rfl)
  rw [hls]
  unfold f_L_spend at hf
  refine lv_aload_n hx hb dL_spend_0 rfl (lv_at hl 3 rfl) ?_
  refine lv_iconst (v := 0) hx hb dL_spend_1 (by decide) ?_
  refine lv_aload_n hx hb dL_spend_2 rfl (lv_at hl 0 rfl) ?_
  refine lv_iload_n hx hb dL_spend_3 rfl (lv_at hl 1 rfl) ?_
  refine lv_iload_n hx hb dL_spend_4 rfl (lv_at hl 2 rfl) ?_
  obtain ⟨r5, hg5, hf⟩ := ag_bcs hf
  refine ag_xVi (C1 := 4) (S1 := 24) hx hb hml hT hown hG h0 hS hW (c_X5_spend hq9 t5 hg5) ⟨rfl, rfl⟩ q662 q663 q664 q1 q665 dd_yX5_spend ⟨Nat.le_of_ble_eq_true rfl, Nat.le_of_ble_eq_true rfl⟩ t5 rfl rfl hl.1 rfl (Nat.le_of_ble_eq_true rfl) ⟨Nat.le_of_ble_eq_true rfl, Nat.le_of_ble_eq_true rfl⟩ dL_spend_5 (fun E ce q9 H locs hE hW hS g1 g2 g3 => ?_) (Nat.le_of_ble_eq_true rfl) (Nat.le_of_ble_eq_true rfl) (fun w5 H locs hr5 hW hS => ?_)
  · obtain ⟨e9, he9, hf⟩ := ag_bcx hf hE
    rw [he9] at hE
    obtain ⟨s, es5⟩ : ∃ s9, s9 = r5.2 := ⟨_, rfl⟩
    rw [← es5] at hW hf
    by_cases c9 : e9 = 1
    · have hf := ag_t c9 hf
      subst c9
      cases ag_ex1 hE
      refine vx_catch hown [] (⟨0, 10, 13, 23⟩ : ExceptionTableEntry) [(⟨0, 10, 17, 13⟩ : ExceptionTableEntry), (⟨0, 10, 21, 15⟩ : ExceptionTableEntry)] htab (fun z9 hz9 => nomatch hz9) rfl (by decide) (hT _ q345) (va_Nw.use rfl (hG.2.1 _ cst1)) g1 g2 g3 ?_
      refine lv_astore (lv' := [(4, .ref q9), (0, .ref (p 5 0)), (1, .int x1), (2, .int x2), (3, .ref (p 8 0))]) hx hb dL_spend_13 hl (by decide) rfl (fun ls hl => ?_)
      refine lv_iconst (v := 1) hx hb dL_spend_15 (by decide) ?_
      refine W.widen (k := 5) (n := 30) (Nat.le_of_ble_eq_true rfl) (Nat.le_of_ble_eq_true rfl) ?_
      exact ag_iret hx hb hr rfl hlocks hS (congrArg Prod.fst (Option.some.inj hf)) (congrArg Prod.snd (Option.some.inj hf) ▸ hW) dL_spend_16
    have hf := ag_f c9 hf
    by_cases c9 : e9 = 2
    · have hf := ag_t c9 hf
      subst c9
      cases ag_ex2 hE
      refine vx_catch hown [(⟨0, 10, 13, 23⟩ : ExceptionTableEntry)] (⟨0, 10, 17, 13⟩ : ExceptionTableEntry) [(⟨0, 10, 21, 15⟩ : ExceptionTableEntry)] htab (fun z9 hz9 => by
      rcases (show z9 = (⟨0, 10, 13, 23⟩ : ExceptionTableEntry) by simpa using hz9) with rfl
      · exact Or.inr ⟨by decide, _, hT _ q345, ag_nc21 hG⟩) rfl (by decide) (hT _ q183) (va_Nw.use rfl (hG.2.1 _ cst2)) g1 g2 g3 ?_
      refine lv_astore (lv' := [(4, .ref q9), (0, .ref (p 5 0)), (1, .int x1), (2, .int x2), (3, .ref (p 8 0))]) hx hb dL_spend_17 hl (by decide) rfl (fun ls hl => ?_)
      refine lv_iconst (v := 2) hx hb dL_spend_19 (by decide) ?_
      refine W.widen (k := 5) (n := 30) (Nat.le_of_ble_eq_true rfl) (Nat.le_of_ble_eq_true rfl) ?_
      exact ag_iret hx hb hr rfl hlocks hS (congrArg Prod.fst (Option.some.inj hf)) (congrArg Prod.snd (Option.some.inj hf) ▸ hW) dL_spend_20
    have hf := ag_f c9 hf
    by_cases c9 : e9 = 3
    · have hf := ag_t c9 hf
      subst c9
      cases ag_ex3 hE
      refine vx_catch hown [(⟨0, 10, 13, 23⟩ : ExceptionTableEntry), (⟨0, 10, 17, 13⟩ : ExceptionTableEntry)] (⟨0, 10, 21, 15⟩ : ExceptionTableEntry) [] htab (fun z9 hz9 => by
      rcases (show z9 = (⟨0, 10, 13, 23⟩ : ExceptionTableEntry) ∨ z9 = (⟨0, 10, 17, 13⟩ : ExceptionTableEntry) by simpa using hz9) with rfl | rfl
      · exact Or.inr ⟨by decide, _, hT _ q345, ag_nc31 hG⟩
      · exact Or.inr ⟨by decide, _, hT _ q183, ag_nc32 hG⟩) rfl (by decide) (hT _ q184) (va_Nw.use rfl (hG.2.1 _ cst3)) g1 g2 g3 ?_
      refine lv_astore (lv' := [(4, .ref q9), (0, .ref (p 5 0)), (1, .int x1), (2, .int x2), (3, .ref (p 8 0))]) hx hb dL_spend_21 hl (by decide) rfl (fun ls hl => ?_)
      refine lv_iconst (v := 3) hx hb dL_spend_23 (by decide) ?_
      refine W.widen (k := 5) (n := 30) (Nat.le_of_ble_eq_true rfl) (Nat.le_of_ble_eq_true rfl) ?_
      exact ag_iret hx hb hr rfl hlocks hS (congrArg Prod.fst (Option.some.inj hf)) (congrArg Prod.snd (Option.some.inj hf) ▸ hW) dL_spend_24
    have hf := ag_f c9 hf
    cases hf
  · have hf := ag_bcl hf hr5
    obtain ⟨s, es5⟩ : ∃ s9, s9 = r5.2 := ⟨_, rfl⟩
    rw [← es5] at hW hf
    refine lv_i2l hx hb dL_spend_8 rfl ?_
    obtain ⟨a9, hf⟩ := ag_n hf
    refine ag_last hx hb hG hW hS t8 rfl rfl (by decide) a9 dL_spend_9 (fun H locs hW hS => ?_)
    refine lv_goto (tgt := 25) hx hb dL_spend_10 (by decide) ?_
    refine lv_iconst (v := 0) hx hb dL_spend_25 (by decide) ?_
    refine W.widen (k := 5) (n := 30) (Nat.le_of_ble_eq_true rfl) (Nat.le_of_ble_eq_true rfl) ?_
    exact ag_iret hx hb hr rfl hlocks hS (congrArg Prod.fst (Option.some.inj hf)) (congrArg Prod.snd (Option.some.inj hf) ▸ hW) dL_spend_26
def f_L_audit (fu : Nat) (x1 : Int32) (x2 : Int32) (s : ag_S) : Option (Int32 × ag_S) := ag_bc (f_X5_audit fu x1 x2 s) (fun w5 s => if (0 : Int32) < 0 ∨ 1 ≤ (0 : Int32).toNatClampNeg then none else some (0, (ag_up s 8 0 0 w5))) (fun e s => if e = 1 then (some (1, s)) else if e = 2 then (some (2, s)) else if e = 3 then (some (3, s)) else none)
abbrev rm_L_audit : Room := { frames := 8, cells := 5, slots := 30, locals := 128 }
theorem dd_yL_audit : yL_audit.cls ≠ "java/lang/invoke/MethodHandle" ∧ yL_audit.cls ≠ "java/lang/invoke/VarHandle" ∧ (parseMethodDescriptor yL_audit.desc).map (fun d => d.parameters.length) = some 4 := by decide +kernel
set_option maxHeartbeats 4000000 in
set_option maxRecDepth 100000 in
theorem c_L_audit {z : ag_Z} {l : Launch} {n : ag_N} {p : ag_P} {s : ag_S} {fu : Nat} {x1 : Int32} {x2 : Int32} {out : Int32 × ag_S} (hq9 : l.stackTraces = false) (t5 : vp_in 0 (n 5)) (t8 : vp_in 0 (n 8)) (hf : f_L_audit fu x1 x2 s = some out) : Met l yL_audit (ag_wsH yL_audit cL_audit 5 (some FieldType.int) [(0, 10, 13, 23), (0, 10, 17, 13), (0, 10, 21, 15)]) rm_L_audit (va_Pc [.ref (p 5 0), .int x1, .int x2, .ref (p 8 0)] (ag_Pre z n p s)) (ag_Ri z n p out.1 out.2) 5 30 (ag_A z) := by
  refine va_MetW (hh := [(0, 10, 13, 23), (0, 10, 17, 13), (0, 10, 21, 15)]) (cc := cL_audit) (maxL := 5) (ret := some FieldType.int) (by decide) rfl ?_
  intro p0 e st m args below meth c s9 B hml hv
  obtain ⟨ha, h0, hG, hW⟩ := hv
  have hx := B.exec
  have hb := B.bytes
  have hr := B.returns
  have hts := atoms_spec (ws := ag_wsH yL_audit cL_audit 5 (some FieldType.int) [(0, 10, 13, 23), (0, 10, 17, 13), (0, 10, 21, 15)]) B.pre
  have htab : c.exceptionTable.toList = tableOf [(0, 10, 13, 23), (0, 10, 17, 13), (0, 10, 21, 15)] := vx_table (x := yL_audit) B (hts _ List.mem_cons_self)
  have hT : ∀ w ∈ ag_tbl, w.before args st = true := fun w h => hts w (List.mem_cons_of_mem _ h)
  have hown : st.vm.findClass RL = some m.cls := findClass_of_methodNamed B.named
  have hlocks := B.notSynchronized
  have hS : va_S (ag_A z) st.heap st.heap [] := va_S.rf
  obtain ⟨ls, hls, hl⟩ : ∃ ls, entryFrame m args 5 = F0 m 0 ls [] ∧ lv_has ls 5 [(0, .ref (p 5 0)), (1, .int x1), (2, .int x2), (3, .ref (p 8 0))] := by rw [ha]; exact ag_entry m [.ref (p 5 0), .int x1, .int x2, .ref (p 8 0)] (Nat.le_of_ble_eq_true rfl)
  rw [hls]
  unfold f_L_audit at hf
  refine lv_aload_n hx hb dL_audit_0 rfl (lv_at hl 3 rfl) ?_
  refine lv_iconst (v := 0) hx hb dL_audit_1 (by decide) ?_
  refine lv_aload_n hx hb dL_audit_2 rfl (lv_at hl 0 rfl) ?_
  refine lv_iload_n hx hb dL_audit_3 rfl (lv_at hl 1 rfl) ?_
  refine lv_iload_n hx hb dL_audit_4 rfl (lv_at hl 2 rfl) ?_
  obtain ⟨r5, hg5, hf⟩ := ag_bcs hf
  refine ag_xVi (C1 := 4) (S1 := 24) hx hb hml hT hown hG h0 hS hW (c_X5_audit hq9 t5 hg5) ⟨rfl, rfl⟩ q669 q670 q671 q1 q672 dd_yX5_audit ⟨Nat.le_of_ble_eq_true rfl, Nat.le_of_ble_eq_true rfl⟩ t5 rfl rfl hl.1 rfl (Nat.le_of_ble_eq_true rfl) ⟨Nat.le_of_ble_eq_true rfl, Nat.le_of_ble_eq_true rfl⟩ dL_audit_5 (fun E ce q9 H locs hE hW hS g1 g2 g3 => ?_) (Nat.le_of_ble_eq_true rfl) (Nat.le_of_ble_eq_true rfl) (fun w5 H locs hr5 hW hS => ?_)
  · obtain ⟨e9, he9, hf⟩ := ag_bcx hf hE
    rw [he9] at hE
    obtain ⟨s, es5⟩ : ∃ s9, s9 = r5.2 := ⟨_, rfl⟩
    rw [← es5] at hW hf
    by_cases c9 : e9 = 1
    · have hf := ag_t c9 hf
      subst c9
      cases ag_ex1 hE
      refine vx_catch hown [] (⟨0, 10, 13, 23⟩ : ExceptionTableEntry) [(⟨0, 10, 17, 13⟩ : ExceptionTableEntry), (⟨0, 10, 21, 15⟩ : ExceptionTableEntry)] htab (fun z9 hz9 => nomatch hz9) rfl (by decide) (hT _ q345) (va_Nw.use rfl (hG.2.1 _ cst1)) g1 g2 g3 ?_
      refine lv_astore (lv' := [(4, .ref q9), (0, .ref (p 5 0)), (1, .int x1), (2, .int x2), (3, .ref (p 8 0))]) hx hb dL_audit_13 hl (by decide) rfl (fun ls hl => ?_)
      refine lv_iconst (v := 1) hx hb dL_audit_15 (by decide) ?_
      refine W.widen (k := 5) (n := 30) (Nat.le_of_ble_eq_true rfl) (Nat.le_of_ble_eq_true rfl) ?_
      exact ag_iret hx hb hr rfl hlocks hS (congrArg Prod.fst (Option.some.inj hf)) (congrArg Prod.snd (Option.some.inj hf) ▸ hW) dL_audit_16
    have hf := ag_f c9 hf
    by_cases c9 : e9 = 2
    · have hf := ag_t c9 hf
      subst c9
      cases ag_ex2 hE
      refine vx_catch hown [(⟨0, 10, 13, 23⟩ : ExceptionTableEntry)] (⟨0, 10, 17, 13⟩ : ExceptionTableEntry) [(⟨0, 10, 21, 15⟩ : ExceptionTableEntry)] htab (fun z9 hz9 => by
      rcases (show z9 = (⟨0, 10, 13, 23⟩ : ExceptionTableEntry) by simpa using hz9) with rfl
      · exact Or.inr ⟨by decide, _, hT _ q345, ag_nc21 hG⟩) rfl (by decide) (hT _ q183) (va_Nw.use rfl (hG.2.1 _ cst2)) g1 g2 g3 ?_
      refine lv_astore (lv' := [(4, .ref q9), (0, .ref (p 5 0)), (1, .int x1), (2, .int x2), (3, .ref (p 8 0))]) hx hb dL_audit_17 hl (by decide) rfl (fun ls hl => ?_)
      refine lv_iconst (v := 2) hx hb dL_audit_19 (by decide) ?_
      refine W.widen (k := 5) (n := 30) (Nat.le_of_ble_eq_true rfl) (Nat.le_of_ble_eq_true rfl) ?_
      exact ag_iret hx hb hr rfl hlocks hS (congrArg Prod.fst (Option.some.inj hf)) (congrArg Prod.snd (Option.some.inj hf) ▸ hW) dL_audit_20
    have hf := ag_f c9 hf
    by_cases c9 : e9 = 3
    · have hf := ag_t c9 hf
      subst c9
      cases ag_ex3 hE
      refine vx_catch hown [(⟨0, 10, 13, 23⟩ : ExceptionTableEntry), (⟨0, 10, 17, 13⟩ : ExceptionTableEntry)] (⟨0, 10, 21, 15⟩ : ExceptionTableEntry) [] htab (fun z9 hz9 => by
      rcases (show z9 = (⟨0, 10, 13, 23⟩ : ExceptionTableEntry) ∨ z9 = (⟨0, 10, 17, 13⟩ : ExceptionTableEntry) by simpa using hz9) with rfl | rfl
      · exact Or.inr ⟨by decide, _, hT _ q345, ag_nc31 hG⟩
      · exact Or.inr ⟨by decide, _, hT _ q183, ag_nc32 hG⟩) rfl (by decide) (hT _ q184) (va_Nw.use rfl (hG.2.1 _ cst3)) g1 g2 g3 ?_
      refine lv_astore (lv' := [(4, .ref q9), (0, .ref (p 5 0)), (1, .int x1), (2, .int x2), (3, .ref (p 8 0))]) hx hb dL_audit_21 hl (by decide) rfl (fun ls hl => ?_)
      refine lv_iconst (v := 3) hx hb dL_audit_23 (by decide) ?_
      refine W.widen (k := 5) (n := 30) (Nat.le_of_ble_eq_true rfl) (Nat.le_of_ble_eq_true rfl) ?_
      exact ag_iret hx hb hr rfl hlocks hS (congrArg Prod.fst (Option.some.inj hf)) (congrArg Prod.snd (Option.some.inj hf) ▸ hW) dL_audit_24
    have hf := ag_f c9 hf
    cases hf
  · have hf := ag_bcl hf hr5
    obtain ⟨s, es5⟩ : ∃ s9, s9 = r5.2 := ⟨_, rfl⟩
    rw [← es5] at hW hf
    refine lv_i2l hx hb dL_audit_8 rfl ?_
    obtain ⟨a9, hf⟩ := ag_n hf
    refine ag_last hx hb hG hW hS t8 rfl rfl (by decide) a9 dL_audit_9 (fun H locs hW hS => ?_)
    refine lv_goto (tgt := 25) hx hb dL_audit_10 (by decide) ?_
    refine lv_iconst (v := 0) hx hb dL_audit_25 (by decide) ?_
    refine W.widen (k := 5) (n := 30) (Nat.le_of_ble_eq_true rfl) (Nat.le_of_ble_eq_true rfl) ?_
    exact ag_iret hx hb hr rfl hlocks hS (congrArg Prod.fst (Option.some.inj hf)) (congrArg Prod.snd (Option.some.inj hf) ▸ hW) dL_audit_26
def f_L_repay (fu : Nat) (x1 : Int32) (x2 : Int32) (s : ag_S) : Option (Int32 × ag_S) := ag_bc (f_X5_repay fu x1 x2 s) (fun w5 s => if (0 : Int32) < 0 ∨ 1 ≤ (0 : Int32).toNatClampNeg then none else some (0, (ag_up s 8 0 0 w5))) (fun e s => if e = 1 then (some (1, s)) else if e = 2 then (some (2, s)) else if e = 3 then (some (3, s)) else none)
abbrev rm_L_repay : Room := { frames := 8, cells := 5, slots := 30, locals := 128 }
theorem dd_yL_repay : yL_repay.cls ≠ "java/lang/invoke/MethodHandle" ∧ yL_repay.cls ≠ "java/lang/invoke/VarHandle" ∧ (parseMethodDescriptor yL_repay.desc).map (fun d => d.parameters.length) = some 4 := by decide +kernel
set_option maxHeartbeats 4000000 in
set_option maxRecDepth 100000 in
theorem c_L_repay {z : ag_Z} {l : Launch} {n : ag_N} {p : ag_P} {s : ag_S} {fu : Nat} {x1 : Int32} {x2 : Int32} {out : Int32 × ag_S} (hq9 : l.stackTraces = false) (t5 : vp_in 0 (n 5)) (t8 : vp_in 0 (n 8)) (hf : f_L_repay fu x1 x2 s = some out) : Met l yL_repay (ag_wsH yL_repay cL_repay 5 (some FieldType.int) [(0, 10, 13, 23), (0, 10, 17, 13), (0, 10, 21, 15)]) rm_L_repay (va_Pc [.ref (p 5 0), .int x1, .int x2, .ref (p 8 0)] (ag_Pre z n p s)) (ag_Ri z n p out.1 out.2) 5 30 (ag_A z) := by
  refine va_MetW (hh := [(0, 10, 13, 23), (0, 10, 17, 13), (0, 10, 21, 15)]) (cc := cL_repay) (maxL := 5) (ret := some FieldType.int) (by decide) rfl ?_
  intro p0 e st m args below meth c s9 B hml hv
  obtain ⟨ha, h0, hG, hW⟩ := hv
  have hx := B.exec
  have hb := B.bytes
  have hr := B.returns
  have hts := atoms_spec (ws := ag_wsH yL_repay cL_repay 5 (some FieldType.int) [(0, 10, 13, 23), (0, 10, 17, 13), (0, 10, 21, 15)]) B.pre
  have htab : c.exceptionTable.toList = tableOf [(0, 10, 13, 23), (0, 10, 17, 13), (0, 10, 21, 15)] := vx_table (x := yL_repay) B (hts _ List.mem_cons_self)
  have hT : ∀ w ∈ ag_tbl, w.before args st = true := fun w h => hts w (List.mem_cons_of_mem _ h)
  have hown : st.vm.findClass RL = some m.cls := findClass_of_methodNamed B.named
  have hlocks := B.notSynchronized
  have hS : va_S (ag_A z) st.heap st.heap [] := va_S.rf
  obtain ⟨ls, hls, hl⟩ : ∃ ls, entryFrame m args 5 = F0 m 0 ls [] ∧ lv_has ls 5 [(0, .ref (p 5 0)), (1, .int x1), (2, .int x2), (3, .ref (p 8 0))] := by rw [ha]; exact ag_entry m [.ref (p 5 0), .int x1, .int x2, .ref (p 8 0)] (Nat.le_of_ble_eq_true rfl)
  rw [hls]
  unfold f_L_repay at hf
  refine lv_aload_n hx hb dL_repay_0 rfl (lv_at hl 3 rfl) ?_
  refine lv_iconst (v := 0) hx hb dL_repay_1 (by decide) ?_
  refine lv_aload_n hx hb dL_repay_2 rfl (lv_at hl 0 rfl) ?_
  refine lv_iload_n hx hb dL_repay_3 rfl (lv_at hl 1 rfl) ?_
  refine lv_iload_n hx hb dL_repay_4 rfl (lv_at hl 2 rfl) ?_
  obtain ⟨r5, hg5, hf⟩ := ag_bcs hf
  refine ag_xVi (C1 := 3) (S1 := 18) hx hb hml hT hown hG h0 hS hW (c_X5_repay hq9 t5 hg5) ⟨rfl, rfl⟩ q682 q683 q684 q1 q685 dd_yX5_repay ⟨Nat.le_of_ble_eq_true rfl, Nat.le_of_ble_eq_true rfl⟩ t5 rfl rfl hl.1 rfl (Nat.le_of_ble_eq_true rfl) ⟨Nat.le_of_ble_eq_true rfl, Nat.le_of_ble_eq_true rfl⟩ dL_repay_5 (fun E ce q9 H locs hE hW hS g1 g2 g3 => ?_) (Nat.le_of_ble_eq_true rfl) (Nat.le_of_ble_eq_true rfl) (fun w5 H locs hr5 hW hS => ?_)
  · obtain ⟨e9, he9, hf⟩ := ag_bcx hf hE
    rw [he9] at hE
    obtain ⟨s, es5⟩ : ∃ s9, s9 = r5.2 := ⟨_, rfl⟩
    rw [← es5] at hW hf
    by_cases c9 : e9 = 1
    · have hf := ag_t c9 hf
      subst c9
      cases ag_ex1 hE
      refine vx_catch hown [] (⟨0, 10, 13, 23⟩ : ExceptionTableEntry) [(⟨0, 10, 17, 13⟩ : ExceptionTableEntry), (⟨0, 10, 21, 15⟩ : ExceptionTableEntry)] htab (fun z9 hz9 => nomatch hz9) rfl (by decide) (hT _ q345) (va_Nw.use rfl (hG.2.1 _ cst1)) g1 g2 g3 ?_
      refine lv_astore (lv' := [(4, .ref q9), (0, .ref (p 5 0)), (1, .int x1), (2, .int x2), (3, .ref (p 8 0))]) hx hb dL_repay_13 hl (by decide) rfl (fun ls hl => ?_)
      refine lv_iconst (v := 1) hx hb dL_repay_15 (by decide) ?_
      refine W.widen (k := 5) (n := 30) (Nat.le_of_ble_eq_true rfl) (Nat.le_of_ble_eq_true rfl) ?_
      exact ag_iret hx hb hr rfl hlocks hS (congrArg Prod.fst (Option.some.inj hf)) (congrArg Prod.snd (Option.some.inj hf) ▸ hW) dL_repay_16
    have hf := ag_f c9 hf
    by_cases c9 : e9 = 2
    · have hf := ag_t c9 hf
      subst c9
      cases ag_ex2 hE
      refine vx_catch hown [(⟨0, 10, 13, 23⟩ : ExceptionTableEntry)] (⟨0, 10, 17, 13⟩ : ExceptionTableEntry) [(⟨0, 10, 21, 15⟩ : ExceptionTableEntry)] htab (fun z9 hz9 => by
      rcases (show z9 = (⟨0, 10, 13, 23⟩ : ExceptionTableEntry) by simpa using hz9) with rfl
      · exact Or.inr ⟨by decide, _, hT _ q345, ag_nc21 hG⟩) rfl (by decide) (hT _ q183) (va_Nw.use rfl (hG.2.1 _ cst2)) g1 g2 g3 ?_
      refine lv_astore (lv' := [(4, .ref q9), (0, .ref (p 5 0)), (1, .int x1), (2, .int x2), (3, .ref (p 8 0))]) hx hb dL_repay_17 hl (by decide) rfl (fun ls hl => ?_)
      refine lv_iconst (v := 2) hx hb dL_repay_19 (by decide) ?_
      refine W.widen (k := 5) (n := 30) (Nat.le_of_ble_eq_true rfl) (Nat.le_of_ble_eq_true rfl) ?_
      exact ag_iret hx hb hr rfl hlocks hS (congrArg Prod.fst (Option.some.inj hf)) (congrArg Prod.snd (Option.some.inj hf) ▸ hW) dL_repay_20
    have hf := ag_f c9 hf
    by_cases c9 : e9 = 3
    · have hf := ag_t c9 hf
      subst c9
      cases ag_ex3 hE
      refine vx_catch hown [(⟨0, 10, 13, 23⟩ : ExceptionTableEntry), (⟨0, 10, 17, 13⟩ : ExceptionTableEntry)] (⟨0, 10, 21, 15⟩ : ExceptionTableEntry) [] htab (fun z9 hz9 => by
      rcases (show z9 = (⟨0, 10, 13, 23⟩ : ExceptionTableEntry) ∨ z9 = (⟨0, 10, 17, 13⟩ : ExceptionTableEntry) by simpa using hz9) with rfl | rfl
      · exact Or.inr ⟨by decide, _, hT _ q345, ag_nc31 hG⟩
      · exact Or.inr ⟨by decide, _, hT _ q183, ag_nc32 hG⟩) rfl (by decide) (hT _ q184) (va_Nw.use rfl (hG.2.1 _ cst3)) g1 g2 g3 ?_
      refine lv_astore (lv' := [(4, .ref q9), (0, .ref (p 5 0)), (1, .int x1), (2, .int x2), (3, .ref (p 8 0))]) hx hb dL_repay_21 hl (by decide) rfl (fun ls hl => ?_)
      refine lv_iconst (v := 3) hx hb dL_repay_23 (by decide) ?_
      refine W.widen (k := 5) (n := 30) (Nat.le_of_ble_eq_true rfl) (Nat.le_of_ble_eq_true rfl) ?_
      exact ag_iret hx hb hr rfl hlocks hS (congrArg Prod.fst (Option.some.inj hf)) (congrArg Prod.snd (Option.some.inj hf) ▸ hW) dL_repay_24
    have hf := ag_f c9 hf
    cases hf
  · have hf := ag_bcl hf hr5
    obtain ⟨s, es5⟩ : ∃ s9, s9 = r5.2 := ⟨_, rfl⟩
    rw [← es5] at hW hf
    refine lv_i2l hx hb dL_repay_8 rfl ?_
    obtain ⟨a9, hf⟩ := ag_n hf
    refine ag_last hx hb hG hW hS t8 rfl rfl (by decide) a9 dL_repay_9 (fun H locs hW hS => ?_)
    refine lv_goto (tgt := 25) hx hb dL_repay_10 (by decide) ?_
    refine lv_iconst (v := 0) hx hb dL_repay_25 (by decide) ?_
    refine W.widen (k := 5) (n := 30) (Nat.le_of_ble_eq_true rfl) (Nat.le_of_ble_eq_true rfl) ?_
    exact ag_iret hx hb hr rfl hlocks hS (congrArg Prod.fst (Option.some.inj hf)) (congrArg Prod.snd (Option.some.inj hf) ▸ hW) dL_repay_26
def f_L_target (fu : Nat) (x1 : Int32) (s : ag_S) : Option (Int32 × ag_S) := ag_bc (f_X5_target fu x1 s) (fun w4 s => if (0 : Int32) < 0 ∨ 1 ≤ (0 : Int32).toNatClampNeg then none else some (0, (ag_up s 8 0 0 w4))) (fun e s => if e = 2 then (some (1, s)) else none)
abbrev rm_L_target : Room := { frames := 8, cells := 5, slots := 30, locals := 127 }
theorem dd_yL_target : yL_target.cls ≠ "java/lang/invoke/MethodHandle" ∧ yL_target.cls ≠ "java/lang/invoke/VarHandle" ∧ (parseMethodDescriptor yL_target.desc).map (fun d => d.parameters.length) = some 3 := by decide +kernel
set_option maxHeartbeats 4000000 in
set_option maxRecDepth 100000 in
theorem c_L_target {z : ag_Z} {l : Launch} {n : ag_N} {p : ag_P} {s : ag_S} {fu : Nat} {x1 : Int32} {out : Int32 × ag_S} (hq9 : l.stackTraces = false) (t5 : vp_in 0 (n 5)) (t8 : vp_in 0 (n 8)) (hf : f_L_target fu x1 s = some out) : Met l yL_target (ag_wsH yL_target cL_target 4 (some FieldType.int) [(0, 9, 12, 13)]) rm_L_target (va_Pc [.ref (p 5 0), .int x1, .ref (p 8 0)] (ag_Pre z n p s)) (ag_Ri z n p out.1 out.2) 5 30 (ag_A z) := by
  refine va_MetW (hh := [(0, 9, 12, 13)]) (cc := cL_target) (maxL := 4) (ret := some FieldType.int) (by decide) rfl ?_
  intro p0 e st m args below meth c s9 B hml hv
  obtain ⟨ha, h0, hG, hW⟩ := hv
  have hx := B.exec
  have hb := B.bytes
  have hr := B.returns
  have hts := atoms_spec (ws := ag_wsH yL_target cL_target 4 (some FieldType.int) [(0, 9, 12, 13)]) B.pre
  have htab : c.exceptionTable.toList = tableOf [(0, 9, 12, 13)] := vx_table (x := yL_target) B (hts _ List.mem_cons_self)
  have hT : ∀ w ∈ ag_tbl, w.before args st = true := fun w h => hts w (List.mem_cons_of_mem _ h)
  have hown : st.vm.findClass RL = some m.cls := findClass_of_methodNamed B.named
  have hlocks := B.notSynchronized
  have hS : va_S (ag_A z) st.heap st.heap [] := va_S.rf
  obtain ⟨ls, hls, hl⟩ : ∃ ls, entryFrame m args 4 = F0 m 0 ls [] ∧ lv_has ls 4 [(0, .ref (p 5 0)), (1, .int x1), (2, .ref (p 8 0))] := by rw [ha]; exact ag_entry m [.ref (p 5 0), .int x1, .ref (p 8 0)] (Nat.le_of_ble_eq_true rfl)
  rw [hls]
  unfold f_L_target at hf
  refine lv_aload_n hx hb dL_target_0 rfl (lv_at hl 2 rfl) ?_
  refine lv_iconst (v := 0) hx hb dL_target_1 (by decide) ?_
  refine lv_aload_n hx hb dL_target_2 rfl (lv_at hl 0 rfl) ?_
  refine lv_iload_n hx hb dL_target_3 rfl (lv_at hl 1 rfl) ?_
  obtain ⟨r4, hg4, hf⟩ := ag_bcs hf
  refine ag_xVi (C1 := 1) (S1 := 6) hx hb hml hT hown hG h0 hS hW (c_X5_target hq9 t5 hg4) ⟨rfl, rfl⟩ q690 q691 q692 q1 q693 dd_yX5_target ⟨Nat.le_of_ble_eq_true rfl, Nat.le_of_ble_eq_true rfl⟩ t5 rfl rfl hl.1 rfl (Nat.le_of_ble_eq_true rfl) ⟨Nat.le_of_ble_eq_true rfl, Nat.le_of_ble_eq_true rfl⟩ dL_target_4 (fun E ce q9 H locs hE hW hS g1 g2 g3 => ?_) (Nat.le_of_ble_eq_true rfl) (Nat.le_of_ble_eq_true rfl) (fun w4 H locs hr4 hW hS => ?_)
  · obtain ⟨e9, he9, hf⟩ := ag_bcx hf hE
    rw [he9] at hE
    obtain ⟨s, es4⟩ : ∃ s9, s9 = r4.2 := ⟨_, rfl⟩
    rw [← es4] at hW hf
    by_cases c9 : e9 = 2
    · have hf := ag_t c9 hf
      subst c9
      cases ag_ex2 hE
      refine vx_catch hown [] (⟨0, 9, 12, 13⟩ : ExceptionTableEntry) [] htab (fun z9 hz9 => nomatch hz9) rfl (by decide) (hT _ q183) (va_Nw.use rfl (hG.2.1 _ cst2)) g1 g2 g3 ?_
      refine lv_astore_n (lv' := [(3, .ref q9), (0, .ref (p 5 0)), (1, .int x1), (2, .ref (p 8 0))]) hx hb dL_target_12 rfl hl (by decide) rfl (fun ls hl => ?_)
      refine lv_iconst (v := 1) hx hb dL_target_13 (by decide) ?_
      refine W.widen (k := 5) (n := 30) (Nat.le_of_ble_eq_true rfl) (Nat.le_of_ble_eq_true rfl) ?_
      exact ag_iret hx hb hr rfl hlocks hS (congrArg Prod.fst (Option.some.inj hf)) (congrArg Prod.snd (Option.some.inj hf) ▸ hW) dL_target_14
    have hf := ag_f c9 hf
    cases hf
  · have hf := ag_bcl hf hr4
    obtain ⟨s, es4⟩ : ∃ s9, s9 = r4.2 := ⟨_, rfl⟩
    rw [← es4] at hW hf
    refine lv_i2l hx hb dL_target_7 rfl ?_
    obtain ⟨a8, hf⟩ := ag_n hf
    refine ag_last hx hb hG hW hS t8 rfl rfl (by decide) a8 dL_target_8 (fun H locs hW hS => ?_)
    refine lv_goto (tgt := 15) hx hb dL_target_9 (by decide) ?_
    refine lv_iconst (v := 0) hx hb dL_target_15 (by decide) ?_
    refine W.widen (k := 5) (n := 30) (Nat.le_of_ble_eq_true rfl) (Nat.le_of_ble_eq_true rfl) ?_
    exact ag_iret hx hb hr rfl hlocks hS (congrArg Prod.fst (Option.some.inj hf)) (congrArg Prod.snd (Option.some.inj hf) ▸ hW) dL_target_16
def f_L_month (fu : Nat) (x1 : Int32) (s : ag_S) : Option (Int32 × ag_S) := ag_bc (f_X5_month fu x1 s) (fun w4 s => if (0 : Int32) < 0 ∨ 1 ≤ (0 : Int32).toNatClampNeg then none else some (0, (ag_up s 8 0 0 w4))) (fun e s => if e = 2 then (some (1, s)) else none)
abbrev rm_L_month : Room := { frames := 8, cells := 5, slots := 30, locals := 177 }
theorem dd_yL_month : yL_month.cls ≠ "java/lang/invoke/MethodHandle" ∧ yL_month.cls ≠ "java/lang/invoke/VarHandle" ∧ (parseMethodDescriptor yL_month.desc).map (fun d => d.parameters.length) = some 3 := by decide +kernel
set_option maxHeartbeats 4000000 in
set_option maxRecDepth 100000 in
theorem c_L_month {z : ag_Z} {l : Launch} {n : ag_N} {p : ag_P} {s : ag_S} {fu : Nat} {x1 : Int32} {out : Int32 × ag_S} (hq9 : l.stackTraces = false) (t5 : vp_in 0 (n 5)) (t8 : vp_in 0 (n 8)) (hf : f_L_month fu x1 s = some out) : Met l yL_month (ag_wsH yL_month cL_month 4 (some FieldType.int) [(0, 9, 12, 13)]) rm_L_month (va_Pc [.ref (p 5 0), .int x1, .ref (p 8 0)] (ag_Pre z n p s)) (ag_Ri z n p out.1 out.2) 5 30 (ag_A z) := by
  refine va_MetW (hh := [(0, 9, 12, 13)]) (cc := cL_month) (maxL := 4) (ret := some FieldType.int) (by decide) rfl ?_
  intro p0 e st m args below meth c s9 B hml hv
  obtain ⟨ha, h0, hG, hW⟩ := hv
  have hx := B.exec
  have hb := B.bytes
  have hr := B.returns
  have hts := atoms_spec (ws := ag_wsH yL_month cL_month 4 (some FieldType.int) [(0, 9, 12, 13)]) B.pre
  have htab : c.exceptionTable.toList = tableOf [(0, 9, 12, 13)] := vx_table (x := yL_month) B (hts _ List.mem_cons_self)
  have hT : ∀ w ∈ ag_tbl, w.before args st = true := fun w h => hts w (List.mem_cons_of_mem _ h)
  have hown : st.vm.findClass RL = some m.cls := findClass_of_methodNamed B.named
  have hlocks := B.notSynchronized
  have hS : va_S (ag_A z) st.heap st.heap [] := va_S.rf
  obtain ⟨ls, hls, hl⟩ : ∃ ls, entryFrame m args 4 = F0 m 0 ls [] ∧ lv_has ls 4 [(0, .ref (p 5 0)), (1, .int x1), (2, .ref (p 8 0))] := by rw [ha]; exact ag_entry m [.ref (p 5 0), .int x1, .ref (p 8 0)] (Nat.le_of_ble_eq_true rfl)
  rw [hls]
  unfold f_L_month at hf
  refine lv_aload_n hx hb dL_month_0 rfl (lv_at hl 2 rfl) ?_
  refine lv_iconst (v := 0) hx hb dL_month_1 (by decide) ?_
  refine lv_aload_n hx hb dL_month_2 rfl (lv_at hl 0 rfl) ?_
  refine lv_iload_n hx hb dL_month_3 rfl (lv_at hl 1 rfl) ?_
  obtain ⟨r4, hg4, hf⟩ := ag_bcs hf
  refine ag_xVi (C1 := 1) (S1 := 6) hx hb hml hT hown hG h0 hS hW (c_X5_month hq9 t5 hg4) ⟨rfl, rfl⟩ q697 q698 q699 q1 q700 dd_yX5_month ⟨Nat.le_of_ble_eq_true rfl, Nat.le_of_ble_eq_true rfl⟩ t5 rfl rfl hl.1 rfl (Nat.le_of_ble_eq_true rfl) ⟨Nat.le_of_ble_eq_true rfl, Nat.le_of_ble_eq_true rfl⟩ dL_month_4 (fun E ce q9 H locs hE hW hS g1 g2 g3 => ?_) (Nat.le_of_ble_eq_true rfl) (Nat.le_of_ble_eq_true rfl) (fun w4 H locs hr4 hW hS => ?_)
  · obtain ⟨e9, he9, hf⟩ := ag_bcx hf hE
    rw [he9] at hE
    obtain ⟨s, es4⟩ : ∃ s9, s9 = r4.2 := ⟨_, rfl⟩
    rw [← es4] at hW hf
    by_cases c9 : e9 = 2
    · have hf := ag_t c9 hf
      subst c9
      cases ag_ex2 hE
      refine vx_catch hown [] (⟨0, 9, 12, 13⟩ : ExceptionTableEntry) [] htab (fun z9 hz9 => nomatch hz9) rfl (by decide) (hT _ q183) (va_Nw.use rfl (hG.2.1 _ cst2)) g1 g2 g3 ?_
      refine lv_astore_n (lv' := [(3, .ref q9), (0, .ref (p 5 0)), (1, .int x1), (2, .ref (p 8 0))]) hx hb dL_month_12 rfl hl (by decide) rfl (fun ls hl => ?_)
      refine lv_iconst (v := 1) hx hb dL_month_13 (by decide) ?_
      refine W.widen (k := 5) (n := 30) (Nat.le_of_ble_eq_true rfl) (Nat.le_of_ble_eq_true rfl) ?_
      exact ag_iret hx hb hr rfl hlocks hS (congrArg Prod.fst (Option.some.inj hf)) (congrArg Prod.snd (Option.some.inj hf) ▸ hW) dL_month_14
    have hf := ag_f c9 hf
    cases hf
  · have hf := ag_bcl hf hr4
    obtain ⟨s, es4⟩ : ∃ s9, s9 = r4.2 := ⟨_, rfl⟩
    rw [← es4] at hW hf
    refine lv_i2l hx hb dL_month_7 rfl ?_
    obtain ⟨a8, hf⟩ := ag_n hf
    refine ag_last hx hb hG hW hS t8 rfl rfl (by decide) a8 dL_month_8 (fun H locs hW hS => ?_)
    refine lv_goto (tgt := 15) hx hb dL_month_9 (by decide) ?_
    refine lv_iconst (v := 0) hx hb dL_month_15 (by decide) ?_
    refine W.widen (k := 5) (n := 30) (Nat.le_of_ble_eq_true rfl) (Nat.le_of_ble_eq_true rfl) ?_
    exact ag_iret hx hb hr rfl hlocks hS (congrArg Prod.fst (Option.some.inj hf)) (congrArg Prod.snd (Option.some.inj hf) ▸ hW) dL_month_16
def f_L_ofLine (fu : Nat) (x1 : Int32) (x2 : Int32) (s : ag_S) : Option (Int32 × ag_S) := ag_bc (f_X5_ofLine fu x1 x2 s) (fun w5 s => if (0 : Int32) < 0 ∨ 1 ≤ (0 : Int32).toNatClampNeg then none else some (0, (ag_up s 8 0 0 w5))) (fun e s => if e = 1 then (some (1, s)) else if e = 2 then (some (2, s)) else none)
abbrev rm_L_ofLine : Room := { frames := 8, cells := 5, slots := 30, locals := 132 }
theorem dd_yL_ofLine : yL_ofLine.cls ≠ "java/lang/invoke/MethodHandle" ∧ yL_ofLine.cls ≠ "java/lang/invoke/VarHandle" ∧ (parseMethodDescriptor yL_ofLine.desc).map (fun d => d.parameters.length) = some 4 := by decide +kernel
set_option maxHeartbeats 4000000 in
set_option maxRecDepth 100000 in
theorem c_L_ofLine {z : ag_Z} {l : Launch} {n : ag_N} {p : ag_P} {s : ag_S} {fu : Nat} {x1 : Int32} {x2 : Int32} {out : Int32 × ag_S} (hq9 : l.stackTraces = false) (t5 : vp_in 0 (n 5)) (t8 : vp_in 0 (n 8)) (hf : f_L_ofLine fu x1 x2 s = some out) : Met l yL_ofLine (ag_wsH yL_ofLine cL_ofLine 5 (some FieldType.int) [(0, 10, 13, 23), (0, 10, 17, 13)]) rm_L_ofLine (va_Pc [.ref (p 5 0), .int x1, .int x2, .ref (p 8 0)] (ag_Pre z n p s)) (ag_Ri z n p out.1 out.2) 5 30 (ag_A z) := by
  refine va_MetW (hh := [(0, 10, 13, 23), (0, 10, 17, 13)]) (cc := cL_ofLine) (maxL := 5) (ret := some FieldType.int) (by decide) rfl ?_
  intro p0 e st m args below meth c s9 B hml hv
  obtain ⟨ha, h0, hG, hW⟩ := hv
  have hx := B.exec
  have hb := B.bytes
  have hr := B.returns
  have hts := atoms_spec (ws := ag_wsH yL_ofLine cL_ofLine 5 (some FieldType.int) [(0, 10, 13, 23), (0, 10, 17, 13)]) B.pre
  have htab : c.exceptionTable.toList = tableOf [(0, 10, 13, 23), (0, 10, 17, 13)] := vx_table (x := yL_ofLine) B (hts _ List.mem_cons_self)
  have hT : ∀ w ∈ ag_tbl, w.before args st = true := fun w h => hts w (List.mem_cons_of_mem _ h)
  have hown : st.vm.findClass RL = some m.cls := findClass_of_methodNamed B.named
  have hlocks := B.notSynchronized
  have hS : va_S (ag_A z) st.heap st.heap [] := va_S.rf
  obtain ⟨ls, hls, hl⟩ : ∃ ls, entryFrame m args 5 = F0 m 0 ls [] ∧ lv_has ls 5 [(0, .ref (p 5 0)), (1, .int x1), (2, .int x2), (3, .ref (p 8 0))] := by rw [ha]; exact ag_entry m [.ref (p 5 0), .int x1, .int x2, .ref (p 8 0)] (Nat.le_of_ble_eq_true rfl)
  rw [hls]
  unfold f_L_ofLine at hf
  refine lv_aload_n hx hb dL_ofLine_0 rfl (lv_at hl 3 rfl) ?_
  refine lv_iconst (v := 0) hx hb dL_ofLine_1 (by decide) ?_
  refine lv_aload_n hx hb dL_ofLine_2 rfl (lv_at hl 0 rfl) ?_
  refine lv_iload_n hx hb dL_ofLine_3 rfl (lv_at hl 1 rfl) ?_
  refine lv_iload_n hx hb dL_ofLine_4 rfl (lv_at hl 2 rfl) ?_
  obtain ⟨r5, hg5, hf⟩ := ag_bcs hf
  refine ag_xVi (C1 := 2) (S1 := 12) hx hb hml hT hown hG h0 hS hW (c_X5_ofLine hq9 t5 hg5) ⟨rfl, rfl⟩ q726 q727 q728 q1 q729 dd_yX5_ofLine ⟨Nat.le_of_ble_eq_true rfl, Nat.le_of_ble_eq_true rfl⟩ t5 rfl rfl hl.1 rfl (Nat.le_of_ble_eq_true rfl) ⟨Nat.le_of_ble_eq_true rfl, Nat.le_of_ble_eq_true rfl⟩ dL_ofLine_5 (fun E ce q9 H locs hE hW hS g1 g2 g3 => ?_) (Nat.le_of_ble_eq_true rfl) (Nat.le_of_ble_eq_true rfl) (fun w5 H locs hr5 hW hS => ?_)
  · obtain ⟨e9, he9, hf⟩ := ag_bcx hf hE
    rw [he9] at hE
    obtain ⟨s, es5⟩ : ∃ s9, s9 = r5.2 := ⟨_, rfl⟩
    rw [← es5] at hW hf
    by_cases c9 : e9 = 1
    · have hf := ag_t c9 hf
      subst c9
      cases ag_ex1 hE
      refine vx_catch hown [] (⟨0, 10, 13, 23⟩ : ExceptionTableEntry) [(⟨0, 10, 17, 13⟩ : ExceptionTableEntry)] htab (fun z9 hz9 => nomatch hz9) rfl (by decide) (hT _ q345) (va_Nw.use rfl (hG.2.1 _ cst1)) g1 g2 g3 ?_
      refine lv_astore (lv' := [(4, .ref q9), (0, .ref (p 5 0)), (1, .int x1), (2, .int x2), (3, .ref (p 8 0))]) hx hb dL_ofLine_13 hl (by decide) rfl (fun ls hl => ?_)
      refine lv_iconst (v := 1) hx hb dL_ofLine_15 (by decide) ?_
      refine W.widen (k := 5) (n := 30) (Nat.le_of_ble_eq_true rfl) (Nat.le_of_ble_eq_true rfl) ?_
      exact ag_iret hx hb hr rfl hlocks hS (congrArg Prod.fst (Option.some.inj hf)) (congrArg Prod.snd (Option.some.inj hf) ▸ hW) dL_ofLine_16
    have hf := ag_f c9 hf
    by_cases c9 : e9 = 2
    · have hf := ag_t c9 hf
      subst c9
      cases ag_ex2 hE
      refine vx_catch hown [(⟨0, 10, 13, 23⟩ : ExceptionTableEntry)] (⟨0, 10, 17, 13⟩ : ExceptionTableEntry) [] htab (fun z9 hz9 => by
      rcases (show z9 = (⟨0, 10, 13, 23⟩ : ExceptionTableEntry) by simpa using hz9) with rfl
      · exact Or.inr ⟨by decide, _, hT _ q345, ag_nc21 hG⟩) rfl (by decide) (hT _ q183) (va_Nw.use rfl (hG.2.1 _ cst2)) g1 g2 g3 ?_
      refine lv_astore (lv' := [(4, .ref q9), (0, .ref (p 5 0)), (1, .int x1), (2, .int x2), (3, .ref (p 8 0))]) hx hb dL_ofLine_17 hl (by decide) rfl (fun ls hl => ?_)
      refine lv_iconst (v := 2) hx hb dL_ofLine_19 (by decide) ?_
      refine W.widen (k := 5) (n := 30) (Nat.le_of_ble_eq_true rfl) (Nat.le_of_ble_eq_true rfl) ?_
      exact ag_iret hx hb hr rfl hlocks hS (congrArg Prod.fst (Option.some.inj hf)) (congrArg Prod.snd (Option.some.inj hf) ▸ hW) dL_ofLine_20
    have hf := ag_f c9 hf
    cases hf
  · have hf := ag_bcl hf hr5
    obtain ⟨s, es5⟩ : ∃ s9, s9 = r5.2 := ⟨_, rfl⟩
    rw [← es5] at hW hf
    refine lv_i2l hx hb dL_ofLine_8 rfl ?_
    obtain ⟨a9, hf⟩ := ag_n hf
    refine ag_last hx hb hG hW hS t8 rfl rfl (by decide) a9 dL_ofLine_9 (fun H locs hW hS => ?_)
    refine lv_goto (tgt := 21) hx hb dL_ofLine_10 (by decide) ?_
    refine lv_iconst (v := 0) hx hb dL_ofLine_21 (by decide) ?_
    refine W.widen (k := 5) (n := 30) (Nat.le_of_ble_eq_true rfl) (Nat.le_of_ble_eq_true rfl) ?_
    exact ag_iret hx hb hr rfl hlocks hS (congrArg Prod.fst (Option.some.inj hf)) (congrArg Prod.snd (Option.some.inj hf) ▸ hW) dL_ofLine_22
def f_L_standsAnew (fu : Nat) (x1 : Int32) (s : ag_S) : Option (Int32 × ag_S) := ag_bc (f_X5_standsAnew fu x1 s) (fun w4 s => if (0 : Int32) < 0 ∨ 1 ≤ (0 : Int32).toNatClampNeg then none else some (0, (ag_up s 8 0 0 w4))) (fun e s => if e = 1 then (some (1, s)) else none)
abbrev rm_L_standsAnew : Room := { frames := 8, cells := 5, slots := 30, locals := 129 }
theorem dd_yL_standsAnew : yL_standsAnew.cls ≠ "java/lang/invoke/MethodHandle" ∧ yL_standsAnew.cls ≠ "java/lang/invoke/VarHandle" ∧ (parseMethodDescriptor yL_standsAnew.desc).map (fun d => d.parameters.length) = some 3 := by decide +kernel
set_option maxHeartbeats 4000000 in
set_option maxRecDepth 100000 in
theorem c_L_standsAnew {z : ag_Z} {l : Launch} {n : ag_N} {p : ag_P} {s : ag_S} {fu : Nat} {x1 : Int32} {out : Int32 × ag_S} (hq9 : l.stackTraces = false) (t5 : vp_in 0 (n 5)) (t8 : vp_in 0 (n 8)) (hf : f_L_standsAnew fu x1 s = some out) : Met l yL_standsAnew (ag_wsH yL_standsAnew cL_standsAnew 4 (some FieldType.int) [(0, 9, 12, 23)]) rm_L_standsAnew (va_Pc [.ref (p 5 0), .int x1, .ref (p 8 0)] (ag_Pre z n p s)) (ag_Ri z n p out.1 out.2) 5 30 (ag_A z) := by
  refine va_MetW (hh := [(0, 9, 12, 23)]) (cc := cL_standsAnew) (maxL := 4) (ret := some FieldType.int) (by decide) rfl ?_
  intro p0 e st m args below meth c s9 B hml hv
  obtain ⟨ha, h0, hG, hW⟩ := hv
  have hx := B.exec
  have hb := B.bytes
  have hr := B.returns
  have hts := atoms_spec (ws := ag_wsH yL_standsAnew cL_standsAnew 4 (some FieldType.int) [(0, 9, 12, 23)]) B.pre
  have htab : c.exceptionTable.toList = tableOf [(0, 9, 12, 23)] := vx_table (x := yL_standsAnew) B (hts _ List.mem_cons_self)
  have hT : ∀ w ∈ ag_tbl, w.before args st = true := fun w h => hts w (List.mem_cons_of_mem _ h)
  have hown : st.vm.findClass RL = some m.cls := findClass_of_methodNamed B.named
  have hlocks := B.notSynchronized
  have hS : va_S (ag_A z) st.heap st.heap [] := va_S.rf
  obtain ⟨ls, hls, hl⟩ : ∃ ls, entryFrame m args 4 = F0 m 0 ls [] ∧ lv_has ls 4 [(0, .ref (p 5 0)), (1, .int x1), (2, .ref (p 8 0))] := by rw [ha]; exact ag_entry m [.ref (p 5 0), .int x1, .ref (p 8 0)] (Nat.le_of_ble_eq_true rfl)
  rw [hls]
  unfold f_L_standsAnew at hf
  refine lv_aload_n hx hb dL_standsAnew_0 rfl (lv_at hl 2 rfl) ?_
  refine lv_iconst (v := 0) hx hb dL_standsAnew_1 (by decide) ?_
  refine lv_aload_n hx hb dL_standsAnew_2 rfl (lv_at hl 0 rfl) ?_
  refine lv_iload_n hx hb dL_standsAnew_3 rfl (lv_at hl 1 rfl) ?_
  obtain ⟨r4, hg4, hf⟩ := ag_bcs hf
  refine ag_xVi (C1 := 1) (S1 := 6) hx hb hml hT hown hG h0 hS hW (c_X5_standsAnew hq9 t5 hg4) ⟨rfl, rfl⟩ q734 q735 q736 q1 q737 dd_yX5_standsAnew ⟨Nat.le_of_ble_eq_true rfl, Nat.le_of_ble_eq_true rfl⟩ t5 rfl rfl hl.1 rfl (Nat.le_of_ble_eq_true rfl) ⟨Nat.le_of_ble_eq_true rfl, Nat.le_of_ble_eq_true rfl⟩ dL_standsAnew_4 (fun E ce q9 H locs hE hW hS g1 g2 g3 => ?_) (Nat.le_of_ble_eq_true rfl) (Nat.le_of_ble_eq_true rfl) (fun w4 H locs hr4 hW hS => ?_)
  · obtain ⟨e9, he9, hf⟩ := ag_bcx hf hE
    rw [he9] at hE
    obtain ⟨s, es4⟩ : ∃ s9, s9 = r4.2 := ⟨_, rfl⟩
    rw [← es4] at hW hf
    by_cases c9 : e9 = 1
    · have hf := ag_t c9 hf
      subst c9
      cases ag_ex1 hE
      refine vx_catch hown [] (⟨0, 9, 12, 23⟩ : ExceptionTableEntry) [] htab (fun z9 hz9 => nomatch hz9) rfl (by decide) (hT _ q345) (va_Nw.use rfl (hG.2.1 _ cst1)) g1 g2 g3 ?_
      refine lv_astore_n (lv' := [(3, .ref q9), (0, .ref (p 5 0)), (1, .int x1), (2, .ref (p 8 0))]) hx hb dL_standsAnew_12 rfl hl (by decide) rfl (fun ls hl => ?_)
      refine lv_iconst (v := 1) hx hb dL_standsAnew_13 (by decide) ?_
      refine W.widen (k := 5) (n := 30) (Nat.le_of_ble_eq_true rfl) (Nat.le_of_ble_eq_true rfl) ?_
      exact ag_iret hx hb hr rfl hlocks hS (congrArg Prod.fst (Option.some.inj hf)) (congrArg Prod.snd (Option.some.inj hf) ▸ hW) dL_standsAnew_14
    have hf := ag_f c9 hf
    cases hf
  · have hf := ag_bcl hf hr4
    obtain ⟨s, es4⟩ : ∃ s9, s9 = r4.2 := ⟨_, rfl⟩
    rw [← es4] at hW hf
    refine lv_i2l hx hb dL_standsAnew_7 rfl ?_
    obtain ⟨a8, hf⟩ := ag_n hf
    refine ag_last hx hb hG hW hS t8 rfl rfl (by decide) a8 dL_standsAnew_8 (fun H locs hW hS => ?_)
    refine lv_goto (tgt := 15) hx hb dL_standsAnew_9 (by decide) ?_
    refine lv_iconst (v := 0) hx hb dL_standsAnew_15 (by decide) ?_
    refine W.widen (k := 5) (n := 30) (Nat.le_of_ble_eq_true rfl) (Nat.le_of_ble_eq_true rfl) ?_
    exact ag_iret hx hb hr rfl hlocks hS (congrArg Prod.fst (Option.some.inj hf)) (congrArg Prod.snd (Option.some.inj hf) ▸ hW) dL_standsAnew_16
def f_L_ofAmendment (fu : Nat) (x1 : Int32) (x2 : Int32) (s : ag_S) : Option (Int32 × ag_S) := ag_bc (f_X5_ofAmendment fu x1 x2 s) (fun w5 s => if (0 : Int32) < 0 ∨ 1 ≤ (0 : Int32).toNatClampNeg then none else some (0, (ag_up s 8 0 0 w5))) (fun e s => if e = 1 then (some (1, s)) else if e = 2 then (some (2, s)) else none)
abbrev rm_L_ofAmendment : Room := { frames := 8, cells := 5, slots := 30, locals := 127 }
theorem dd_yL_ofAmendment : yL_ofAmendment.cls ≠ "java/lang/invoke/MethodHandle" ∧ yL_ofAmendment.cls ≠ "java/lang/invoke/VarHandle" ∧ (parseMethodDescriptor yL_ofAmendment.desc).map (fun d => d.parameters.length) = some 4 := by decide +kernel
set_option maxHeartbeats 4000000 in
set_option maxRecDepth 100000 in
theorem c_L_ofAmendment {z : ag_Z} {l : Launch} {n : ag_N} {p : ag_P} {s : ag_S} {fu : Nat} {x1 : Int32} {x2 : Int32} {out : Int32 × ag_S} (hq9 : l.stackTraces = false) (t5 : vp_in 0 (n 5)) (t8 : vp_in 0 (n 8)) (hf : f_L_ofAmendment fu x1 x2 s = some out) : Met l yL_ofAmendment (ag_wsH yL_ofAmendment cL_ofAmendment 5 (some FieldType.int) [(0, 10, 13, 23), (0, 10, 17, 13)]) rm_L_ofAmendment (va_Pc [.ref (p 5 0), .int x1, .int x2, .ref (p 8 0)] (ag_Pre z n p s)) (ag_Ri z n p out.1 out.2) 5 30 (ag_A z) := by
  refine va_MetW (hh := [(0, 10, 13, 23), (0, 10, 17, 13)]) (cc := cL_ofAmendment) (maxL := 5) (ret := some FieldType.int) (by decide) rfl ?_
  intro p0 e st m args below meth c s9 B hml hv
  obtain ⟨ha, h0, hG, hW⟩ := hv
  have hx := B.exec
  have hb := B.bytes
  have hr := B.returns
  have hts := atoms_spec (ws := ag_wsH yL_ofAmendment cL_ofAmendment 5 (some FieldType.int) [(0, 10, 13, 23), (0, 10, 17, 13)]) B.pre
  have htab : c.exceptionTable.toList = tableOf [(0, 10, 13, 23), (0, 10, 17, 13)] := vx_table (x := yL_ofAmendment) B (hts _ List.mem_cons_self)
  have hT : ∀ w ∈ ag_tbl, w.before args st = true := fun w h => hts w (List.mem_cons_of_mem _ h)
  have hown : st.vm.findClass RL = some m.cls := findClass_of_methodNamed B.named
  have hlocks := B.notSynchronized
  have hS : va_S (ag_A z) st.heap st.heap [] := va_S.rf
  obtain ⟨ls, hls, hl⟩ : ∃ ls, entryFrame m args 5 = F0 m 0 ls [] ∧ lv_has ls 5 [(0, .ref (p 5 0)), (1, .int x1), (2, .int x2), (3, .ref (p 8 0))] := by rw [ha]; exact ag_entry m [.ref (p 5 0), .int x1, .int x2, .ref (p 8 0)] (Nat.le_of_ble_eq_true rfl)
  rw [hls]
  unfold f_L_ofAmendment at hf
  refine lv_aload_n hx hb dL_ofAmendment_0 rfl (lv_at hl 3 rfl) ?_
  refine lv_iconst (v := 0) hx hb dL_ofAmendment_1 (by decide) ?_
  refine lv_aload_n hx hb dL_ofAmendment_2 rfl (lv_at hl 0 rfl) ?_
  refine lv_iload_n hx hb dL_ofAmendment_3 rfl (lv_at hl 1 rfl) ?_
  refine lv_iload_n hx hb dL_ofAmendment_4 rfl (lv_at hl 2 rfl) ?_
  obtain ⟨r5, hg5, hf⟩ := ag_bcs hf
  refine ag_xVi (C1 := 2) (S1 := 12) hx hb hml hT hown hG h0 hS hW (c_X5_ofAmendment hq9 t5 hg5) ⟨rfl, rfl⟩ q745 q746 q747 q1 q748 dd_yX5_ofAmendment ⟨Nat.le_of_ble_eq_true rfl, Nat.le_of_ble_eq_true rfl⟩ t5 rfl rfl hl.1 rfl (Nat.le_of_ble_eq_true rfl) ⟨Nat.le_of_ble_eq_true rfl, Nat.le_of_ble_eq_true rfl⟩ dL_ofAmendment_5 (fun E ce q9 H locs hE hW hS g1 g2 g3 => ?_) (Nat.le_of_ble_eq_true rfl) (Nat.le_of_ble_eq_true rfl) (fun w5 H locs hr5 hW hS => ?_)
  · obtain ⟨e9, he9, hf⟩ := ag_bcx hf hE
    rw [he9] at hE
    obtain ⟨s, es5⟩ : ∃ s9, s9 = r5.2 := ⟨_, rfl⟩
    rw [← es5] at hW hf
    by_cases c9 : e9 = 1
    · have hf := ag_t c9 hf
      subst c9
      cases ag_ex1 hE
      refine vx_catch hown [] (⟨0, 10, 13, 23⟩ : ExceptionTableEntry) [(⟨0, 10, 17, 13⟩ : ExceptionTableEntry)] htab (fun z9 hz9 => nomatch hz9) rfl (by decide) (hT _ q345) (va_Nw.use rfl (hG.2.1 _ cst1)) g1 g2 g3 ?_
      refine lv_astore (lv' := [(4, .ref q9), (0, .ref (p 5 0)), (1, .int x1), (2, .int x2), (3, .ref (p 8 0))]) hx hb dL_ofAmendment_13 hl (by decide) rfl (fun ls hl => ?_)
      refine lv_iconst (v := 1) hx hb dL_ofAmendment_15 (by decide) ?_
      refine W.widen (k := 5) (n := 30) (Nat.le_of_ble_eq_true rfl) (Nat.le_of_ble_eq_true rfl) ?_
      exact ag_iret hx hb hr rfl hlocks hS (congrArg Prod.fst (Option.some.inj hf)) (congrArg Prod.snd (Option.some.inj hf) ▸ hW) dL_ofAmendment_16
    have hf := ag_f c9 hf
    by_cases c9 : e9 = 2
    · have hf := ag_t c9 hf
      subst c9
      cases ag_ex2 hE
      refine vx_catch hown [(⟨0, 10, 13, 23⟩ : ExceptionTableEntry)] (⟨0, 10, 17, 13⟩ : ExceptionTableEntry) [] htab (fun z9 hz9 => by
      rcases (show z9 = (⟨0, 10, 13, 23⟩ : ExceptionTableEntry) by simpa using hz9) with rfl
      · exact Or.inr ⟨by decide, _, hT _ q345, ag_nc21 hG⟩) rfl (by decide) (hT _ q183) (va_Nw.use rfl (hG.2.1 _ cst2)) g1 g2 g3 ?_
      refine lv_astore (lv' := [(4, .ref q9), (0, .ref (p 5 0)), (1, .int x1), (2, .int x2), (3, .ref (p 8 0))]) hx hb dL_ofAmendment_17 hl (by decide) rfl (fun ls hl => ?_)
      refine lv_iconst (v := 2) hx hb dL_ofAmendment_19 (by decide) ?_
      refine W.widen (k := 5) (n := 30) (Nat.le_of_ble_eq_true rfl) (Nat.le_of_ble_eq_true rfl) ?_
      exact ag_iret hx hb hr rfl hlocks hS (congrArg Prod.fst (Option.some.inj hf)) (congrArg Prod.snd (Option.some.inj hf) ▸ hW) dL_ofAmendment_20
    have hf := ag_f c9 hf
    cases hf
  · have hf := ag_bcl hf hr5
    obtain ⟨s, es5⟩ : ∃ s9, s9 = r5.2 := ⟨_, rfl⟩
    rw [← es5] at hW hf
    refine lv_i2l hx hb dL_ofAmendment_8 rfl ?_
    obtain ⟨a9, hf⟩ := ag_n hf
    refine ag_last hx hb hG hW hS t8 rfl rfl (by decide) a9 dL_ofAmendment_9 (fun H locs hW hS => ?_)
    refine lv_goto (tgt := 21) hx hb dL_ofAmendment_10 (by decide) ?_
    refine lv_iconst (v := 0) hx hb dL_ofAmendment_21 (by decide) ?_
    refine W.widen (k := 5) (n := 30) (Nat.le_of_ble_eq_true rfl) (Nat.le_of_ble_eq_true rfl) ?_
    exact ag_iret hx hb hr rfl hlocks hS (congrArg Prod.fst (Option.some.inj hf)) (congrArg Prod.snd (Option.some.inj hf) ▸ hW) dL_ofAmendment_22
def f_L_ofGrant (fu : Nat) (x1 : Int32) (x2 : Int32) (s : ag_S) : Option (Int32 × ag_S) := ag_bc (f_X5_ofGrant fu x1 x2 s) (fun w5 s => if (0 : Int32) < 0 ∨ 1 ≤ (0 : Int32).toNatClampNeg then none else some (0, (ag_up s 8 0 0 w5))) (fun e s => if e = 1 then (some (1, s)) else if e = 2 then (some (2, s)) else none)
abbrev rm_L_ofGrant : Room := { frames := 8, cells := 5, slots := 30, locals := 127 }
theorem dd_yL_ofGrant : yL_ofGrant.cls ≠ "java/lang/invoke/MethodHandle" ∧ yL_ofGrant.cls ≠ "java/lang/invoke/VarHandle" ∧ (parseMethodDescriptor yL_ofGrant.desc).map (fun d => d.parameters.length) = some 4 := by decide +kernel
set_option maxHeartbeats 4000000 in
set_option maxRecDepth 100000 in
theorem c_L_ofGrant {z : ag_Z} {l : Launch} {n : ag_N} {p : ag_P} {s : ag_S} {fu : Nat} {x1 : Int32} {x2 : Int32} {out : Int32 × ag_S} (hq9 : l.stackTraces = false) (t5 : vp_in 0 (n 5)) (t8 : vp_in 0 (n 8)) (hf : f_L_ofGrant fu x1 x2 s = some out) : Met l yL_ofGrant (ag_wsH yL_ofGrant cL_ofGrant 5 (some FieldType.int) [(0, 10, 13, 23), (0, 10, 17, 13)]) rm_L_ofGrant (va_Pc [.ref (p 5 0), .int x1, .int x2, .ref (p 8 0)] (ag_Pre z n p s)) (ag_Ri z n p out.1 out.2) 5 30 (ag_A z) := by
  refine va_MetW (hh := [(0, 10, 13, 23), (0, 10, 17, 13)]) (cc := cL_ofGrant) (maxL := 5) (ret := some FieldType.int) (by decide) rfl ?_
  intro p0 e st m args below meth c s9 B hml hv
  obtain ⟨ha, h0, hG, hW⟩ := hv
  have hx := B.exec
  have hb := B.bytes
  have hr := B.returns
  have hts := atoms_spec (ws := ag_wsH yL_ofGrant cL_ofGrant 5 (some FieldType.int) [(0, 10, 13, 23), (0, 10, 17, 13)]) B.pre
  have htab : c.exceptionTable.toList = tableOf [(0, 10, 13, 23), (0, 10, 17, 13)] := vx_table (x := yL_ofGrant) B (hts _ List.mem_cons_self)
  have hT : ∀ w ∈ ag_tbl, w.before args st = true := fun w h => hts w (List.mem_cons_of_mem _ h)
  have hown : st.vm.findClass RL = some m.cls := findClass_of_methodNamed B.named
  have hlocks := B.notSynchronized
  have hS : va_S (ag_A z) st.heap st.heap [] := va_S.rf
  obtain ⟨ls, hls, hl⟩ : ∃ ls, entryFrame m args 5 = F0 m 0 ls [] ∧ lv_has ls 5 [(0, .ref (p 5 0)), (1, .int x1), (2, .int x2), (3, .ref (p 8 0))] := by rw [ha]; exact ag_entry m [.ref (p 5 0), .int x1, .int x2, .ref (p 8 0)] (Nat.le_of_ble_eq_true rfl)
  rw [hls]
  unfold f_L_ofGrant at hf
  refine lv_aload_n hx hb dL_ofGrant_0 rfl (lv_at hl 3 rfl) ?_
  refine lv_iconst (v := 0) hx hb dL_ofGrant_1 (by decide) ?_
  refine lv_aload_n hx hb dL_ofGrant_2 rfl (lv_at hl 0 rfl) ?_
  refine lv_iload_n hx hb dL_ofGrant_3 rfl (lv_at hl 1 rfl) ?_
  refine lv_iload_n hx hb dL_ofGrant_4 rfl (lv_at hl 2 rfl) ?_
  obtain ⟨r5, hg5, hf⟩ := ag_bcs hf
  refine ag_xVi (C1 := 2) (S1 := 12) hx hb hml hT hown hG h0 hS hW (c_X5_ofGrant hq9 t5 hg5) ⟨rfl, rfl⟩ q760 q761 q762 q1 q763 dd_yX5_ofGrant ⟨Nat.le_of_ble_eq_true rfl, Nat.le_of_ble_eq_true rfl⟩ t5 rfl rfl hl.1 rfl (Nat.le_of_ble_eq_true rfl) ⟨Nat.le_of_ble_eq_true rfl, Nat.le_of_ble_eq_true rfl⟩ dL_ofGrant_5 (fun E ce q9 H locs hE hW hS g1 g2 g3 => ?_) (Nat.le_of_ble_eq_true rfl) (Nat.le_of_ble_eq_true rfl) (fun w5 H locs hr5 hW hS => ?_)
  · obtain ⟨e9, he9, hf⟩ := ag_bcx hf hE
    rw [he9] at hE
    obtain ⟨s, es5⟩ : ∃ s9, s9 = r5.2 := ⟨_, rfl⟩
    rw [← es5] at hW hf
    by_cases c9 : e9 = 1
    · have hf := ag_t c9 hf
      subst c9
      cases ag_ex1 hE
      refine vx_catch hown [] (⟨0, 10, 13, 23⟩ : ExceptionTableEntry) [(⟨0, 10, 17, 13⟩ : ExceptionTableEntry)] htab (fun z9 hz9 => nomatch hz9) rfl (by decide) (hT _ q345) (va_Nw.use rfl (hG.2.1 _ cst1)) g1 g2 g3 ?_
      refine lv_astore (lv' := [(4, .ref q9), (0, .ref (p 5 0)), (1, .int x1), (2, .int x2), (3, .ref (p 8 0))]) hx hb dL_ofGrant_13 hl (by decide) rfl (fun ls hl => ?_)
      refine lv_iconst (v := 1) hx hb dL_ofGrant_15 (by decide) ?_
      refine W.widen (k := 5) (n := 30) (Nat.le_of_ble_eq_true rfl) (Nat.le_of_ble_eq_true rfl) ?_
      exact ag_iret hx hb hr rfl hlocks hS (congrArg Prod.fst (Option.some.inj hf)) (congrArg Prod.snd (Option.some.inj hf) ▸ hW) dL_ofGrant_16
    have hf := ag_f c9 hf
    by_cases c9 : e9 = 2
    · have hf := ag_t c9 hf
      subst c9
      cases ag_ex2 hE
      refine vx_catch hown [(⟨0, 10, 13, 23⟩ : ExceptionTableEntry)] (⟨0, 10, 17, 13⟩ : ExceptionTableEntry) [] htab (fun z9 hz9 => by
      rcases (show z9 = (⟨0, 10, 13, 23⟩ : ExceptionTableEntry) by simpa using hz9) with rfl
      · exact Or.inr ⟨by decide, _, hT _ q345, ag_nc21 hG⟩) rfl (by decide) (hT _ q183) (va_Nw.use rfl (hG.2.1 _ cst2)) g1 g2 g3 ?_
      refine lv_astore (lv' := [(4, .ref q9), (0, .ref (p 5 0)), (1, .int x1), (2, .int x2), (3, .ref (p 8 0))]) hx hb dL_ofGrant_17 hl (by decide) rfl (fun ls hl => ?_)
      refine lv_iconst (v := 2) hx hb dL_ofGrant_19 (by decide) ?_
      refine W.widen (k := 5) (n := 30) (Nat.le_of_ble_eq_true rfl) (Nat.le_of_ble_eq_true rfl) ?_
      exact ag_iret hx hb hr rfl hlocks hS (congrArg Prod.fst (Option.some.inj hf)) (congrArg Prod.snd (Option.some.inj hf) ▸ hW) dL_ofGrant_20
    have hf := ag_f c9 hf
    cases hf
  · have hf := ag_bcl hf hr5
    obtain ⟨s, es5⟩ : ∃ s9, s9 = r5.2 := ⟨_, rfl⟩
    rw [← es5] at hW hf
    refine lv_i2l hx hb dL_ofGrant_8 rfl ?_
    obtain ⟨a9, hf⟩ := ag_n hf
    refine ag_last hx hb hG hW hS t8 rfl rfl (by decide) a9 dL_ofGrant_9 (fun H locs hW hS => ?_)
    refine lv_goto (tgt := 21) hx hb dL_ofGrant_10 (by decide) ?_
    refine lv_iconst (v := 0) hx hb dL_ofGrant_21 (by decide) ?_
    refine W.widen (k := 5) (n := 30) (Nat.le_of_ble_eq_true rfl) (Nat.le_of_ble_eq_true rfl) ?_
    exact ag_iret hx hb hr rfl hlocks hS (congrArg Prod.fst (Option.some.inj hf)) (congrArg Prod.snd (Option.some.inj hf) ▸ hW) dL_ofGrant_22
def f_L_owes (fu : Nat) (x1 : Int32) (s : ag_S) : Option (Int32 × ag_S) := ag_bc (f_X5_owes fu x1 s) (fun w4 s => if (0 : Int32) < 0 ∨ 1 ≤ (0 : Int32).toNatClampNeg then none else some (0, (ag_up s 8 0 0 w4))) (fun e s => if e = 1 then (some (1, s)) else none)
abbrev rm_L_owes : Room := { frames := 8, cells := 5, slots := 30, locals := 125 }
theorem dd_yL_owes : yL_owes.cls ≠ "java/lang/invoke/MethodHandle" ∧ yL_owes.cls ≠ "java/lang/invoke/VarHandle" ∧ (parseMethodDescriptor yL_owes.desc).map (fun d => d.parameters.length) = some 3 := by decide +kernel
set_option maxHeartbeats 4000000 in
set_option maxRecDepth 100000 in
theorem c_L_owes {z : ag_Z} {l : Launch} {n : ag_N} {p : ag_P} {s : ag_S} {fu : Nat} {x1 : Int32} {out : Int32 × ag_S} (hq9 : l.stackTraces = false) (t5 : vp_in 0 (n 5)) (t8 : vp_in 0 (n 8)) (hf : f_L_owes fu x1 s = some out) : Met l yL_owes (ag_wsH yL_owes cL_owes 4 (some FieldType.int) [(0, 9, 12, 23)]) rm_L_owes (va_Pc [.ref (p 5 0), .int x1, .ref (p 8 0)] (ag_Pre z n p s)) (ag_Ri z n p out.1 out.2) 5 30 (ag_A z) := by
  refine va_MetW (hh := [(0, 9, 12, 23)]) (cc := cL_owes) (maxL := 4) (ret := some FieldType.int) (by decide) rfl ?_
  intro p0 e st m args below meth c s9 B hml hv
  obtain ⟨ha, h0, hG, hW⟩ := hv
  have hx := B.exec
  have hb := B.bytes
  have hr := B.returns
  have hts := atoms_spec (ws := ag_wsH yL_owes cL_owes 4 (some FieldType.int) [(0, 9, 12, 23)]) B.pre
  have htab : c.exceptionTable.toList = tableOf [(0, 9, 12, 23)] := vx_table (x := yL_owes) B (hts _ List.mem_cons_self)
  have hT : ∀ w ∈ ag_tbl, w.before args st = true := fun w h => hts w (List.mem_cons_of_mem _ h)
  have hown : st.vm.findClass RL = some m.cls := findClass_of_methodNamed B.named
  have hlocks := B.notSynchronized
  have hS : va_S (ag_A z) st.heap st.heap [] := va_S.rf
  obtain ⟨ls, hls, hl⟩ : ∃ ls, entryFrame m args 4 = F0 m 0 ls [] ∧ lv_has ls 4 [(0, .ref (p 5 0)), (1, .int x1), (2, .ref (p 8 0))] := by rw [ha]; exact ag_entry m [.ref (p 5 0), .int x1, .ref (p 8 0)] (Nat.le_of_ble_eq_true rfl)
  rw [hls]
  unfold f_L_owes at hf
  refine lv_aload_n hx hb dL_owes_0 rfl (lv_at hl 2 rfl) ?_
  refine lv_iconst (v := 0) hx hb dL_owes_1 (by decide) ?_
  refine lv_aload_n hx hb dL_owes_2 rfl (lv_at hl 0 rfl) ?_
  refine lv_iload_n hx hb dL_owes_3 rfl (lv_at hl 1 rfl) ?_
  obtain ⟨r4, hg4, hf⟩ := ag_bcs hf
  refine ag_xVi (C1 := 1) (S1 := 6) hx hb hml hT hown hG h0 hS hW (c_X5_owes hq9 t5 hg4) ⟨rfl, rfl⟩ q767 q768 q769 q1 q770 dd_yX5_owes ⟨Nat.le_of_ble_eq_true rfl, Nat.le_of_ble_eq_true rfl⟩ t5 rfl rfl hl.1 rfl (Nat.le_of_ble_eq_true rfl) ⟨Nat.le_of_ble_eq_true rfl, Nat.le_of_ble_eq_true rfl⟩ dL_owes_4 (fun E ce q9 H locs hE hW hS g1 g2 g3 => ?_) (Nat.le_of_ble_eq_true rfl) (Nat.le_of_ble_eq_true rfl) (fun w4 H locs hr4 hW hS => ?_)
  · obtain ⟨e9, he9, hf⟩ := ag_bcx hf hE
    rw [he9] at hE
    obtain ⟨s, es4⟩ : ∃ s9, s9 = r4.2 := ⟨_, rfl⟩
    rw [← es4] at hW hf
    by_cases c9 : e9 = 1
    · have hf := ag_t c9 hf
      subst c9
      cases ag_ex1 hE
      refine vx_catch hown [] (⟨0, 9, 12, 23⟩ : ExceptionTableEntry) [] htab (fun z9 hz9 => nomatch hz9) rfl (by decide) (hT _ q345) (va_Nw.use rfl (hG.2.1 _ cst1)) g1 g2 g3 ?_
      refine lv_astore_n (lv' := [(3, .ref q9), (0, .ref (p 5 0)), (1, .int x1), (2, .ref (p 8 0))]) hx hb dL_owes_12 rfl hl (by decide) rfl (fun ls hl => ?_)
      refine lv_iconst (v := 1) hx hb dL_owes_13 (by decide) ?_
      refine W.widen (k := 5) (n := 30) (Nat.le_of_ble_eq_true rfl) (Nat.le_of_ble_eq_true rfl) ?_
      exact ag_iret hx hb hr rfl hlocks hS (congrArg Prod.fst (Option.some.inj hf)) (congrArg Prod.snd (Option.some.inj hf) ▸ hW) dL_owes_14
    have hf := ag_f c9 hf
    cases hf
  · have hf := ag_bcl hf hr4
    obtain ⟨s, es4⟩ : ∃ s9, s9 = r4.2 := ⟨_, rfl⟩
    rw [← es4] at hW hf
    refine lv_i2l hx hb dL_owes_7 rfl ?_
    obtain ⟨a8, hf⟩ := ag_n hf
    refine ag_last hx hb hG hW hS t8 rfl rfl (by decide) a8 dL_owes_8 (fun H locs hW hS => ?_)
    refine lv_goto (tgt := 15) hx hb dL_owes_9 (by decide) ?_
    refine lv_iconst (v := 0) hx hb dL_owes_15 (by decide) ?_
    refine W.widen (k := 5) (n := 30) (Nat.le_of_ble_eq_true rfl) (Nat.le_of_ble_eq_true rfl) ?_
    exact ag_iret hx hb hr rfl hlocks hS (congrArg Prod.fst (Option.some.inj hf)) (congrArg Prod.snd (Option.some.inj hf) ▸ hW) dL_owes_16
def f_L_ofSource (fu : Nat) (x1 : Int32) (x2 : Int32) (s : ag_S) : Option (Int32 × ag_S) := ag_bc (f_X5_ofSource fu x1 x2 s) (fun w5 s => if (0 : Int32) < 0 ∨ 1 ≤ (0 : Int32).toNatClampNeg then none else some (0, (ag_up s 8 0 0 w5))) (fun e s => if e = 2 then (some (1, s)) else none)
abbrev rm_L_ofSource : Room := { frames := 8, cells := 5, slots := 30, locals := 127 }
theorem dd_yL_ofSource : yL_ofSource.cls ≠ "java/lang/invoke/MethodHandle" ∧ yL_ofSource.cls ≠ "java/lang/invoke/VarHandle" ∧ (parseMethodDescriptor yL_ofSource.desc).map (fun d => d.parameters.length) = some 4 := by decide +kernel
set_option maxHeartbeats 4000000 in
set_option maxRecDepth 100000 in
theorem c_L_ofSource {z : ag_Z} {l : Launch} {n : ag_N} {p : ag_P} {s : ag_S} {fu : Nat} {x1 : Int32} {x2 : Int32} {out : Int32 × ag_S} (hq9 : l.stackTraces = false) (t5 : vp_in 0 (n 5)) (t8 : vp_in 0 (n 8)) (hf : f_L_ofSource fu x1 x2 s = some out) : Met l yL_ofSource (ag_wsH yL_ofSource cL_ofSource 5 (some FieldType.int) [(0, 10, 13, 13)]) rm_L_ofSource (va_Pc [.ref (p 5 0), .int x1, .int x2, .ref (p 8 0)] (ag_Pre z n p s)) (ag_Ri z n p out.1 out.2) 5 30 (ag_A z) := by
  refine va_MetW (hh := [(0, 10, 13, 13)]) (cc := cL_ofSource) (maxL := 5) (ret := some FieldType.int) (by decide) rfl ?_
  intro p0 e st m args below meth c s9 B hml hv
  obtain ⟨ha, h0, hG, hW⟩ := hv
  have hx := B.exec
  have hb := B.bytes
  have hr := B.returns
  have hts := atoms_spec (ws := ag_wsH yL_ofSource cL_ofSource 5 (some FieldType.int) [(0, 10, 13, 13)]) B.pre
  have htab : c.exceptionTable.toList = tableOf [(0, 10, 13, 13)] := vx_table (x := yL_ofSource) B (hts _ List.mem_cons_self)
  have hT : ∀ w ∈ ag_tbl, w.before args st = true := fun w h => hts w (List.mem_cons_of_mem _ h)
  have hown : st.vm.findClass RL = some m.cls := findClass_of_methodNamed B.named
  have hlocks := B.notSynchronized
  have hS : va_S (ag_A z) st.heap st.heap [] := va_S.rf
  obtain ⟨ls, hls, hl⟩ : ∃ ls, entryFrame m args 5 = F0 m 0 ls [] ∧ lv_has ls 5 [(0, .ref (p 5 0)), (1, .int x1), (2, .int x2), (3, .ref (p 8 0))] := by rw [ha]; exact ag_entry m [.ref (p 5 0), .int x1, .int x2, .ref (p 8 0)] (Nat.le_of_ble_eq_true rfl)
  rw [hls]
  unfold f_L_ofSource at hf
  refine lv_aload_n hx hb dL_ofSource_0 rfl (lv_at hl 3 rfl) ?_
  refine lv_iconst (v := 0) hx hb dL_ofSource_1 (by decide) ?_
  refine lv_aload_n hx hb dL_ofSource_2 rfl (lv_at hl 0 rfl) ?_
  refine lv_iload_n hx hb dL_ofSource_3 rfl (lv_at hl 1 rfl) ?_
  refine lv_iload_n hx hb dL_ofSource_4 rfl (lv_at hl 2 rfl) ?_
  obtain ⟨r5, hg5, hf⟩ := ag_bcs hf
  refine ag_xVi (C1 := 2) (S1 := 12) hx hb hml hT hown hG h0 hS hW (c_X5_ofSource hq9 t5 hg5) ⟨rfl, rfl⟩ q774 q775 q776 q1 q777 dd_yX5_ofSource ⟨Nat.le_of_ble_eq_true rfl, Nat.le_of_ble_eq_true rfl⟩ t5 rfl rfl hl.1 rfl (Nat.le_of_ble_eq_true rfl) ⟨Nat.le_of_ble_eq_true rfl, Nat.le_of_ble_eq_true rfl⟩ dL_ofSource_5 (fun E ce q9 H locs hE hW hS g1 g2 g3 => ?_) (Nat.le_of_ble_eq_true rfl) (Nat.le_of_ble_eq_true rfl) (fun w5 H locs hr5 hW hS => ?_)
  · obtain ⟨e9, he9, hf⟩ := ag_bcx hf hE
    rw [he9] at hE
    obtain ⟨s, es5⟩ : ∃ s9, s9 = r5.2 := ⟨_, rfl⟩
    rw [← es5] at hW hf
    by_cases c9 : e9 = 2
    · have hf := ag_t c9 hf
      subst c9
      cases ag_ex2 hE
      refine vx_catch hown [] (⟨0, 10, 13, 13⟩ : ExceptionTableEntry) [] htab (fun z9 hz9 => nomatch hz9) rfl (by decide) (hT _ q183) (va_Nw.use rfl (hG.2.1 _ cst2)) g1 g2 g3 ?_
      refine lv_astore (lv' := [(4, .ref q9), (0, .ref (p 5 0)), (1, .int x1), (2, .int x2), (3, .ref (p 8 0))]) hx hb dL_ofSource_13 hl (by decide) rfl (fun ls hl => ?_)
      refine lv_iconst (v := 1) hx hb dL_ofSource_15 (by decide) ?_
      refine W.widen (k := 5) (n := 30) (Nat.le_of_ble_eq_true rfl) (Nat.le_of_ble_eq_true rfl) ?_
      exact ag_iret hx hb hr rfl hlocks hS (congrArg Prod.fst (Option.some.inj hf)) (congrArg Prod.snd (Option.some.inj hf) ▸ hW) dL_ofSource_16
    have hf := ag_f c9 hf
    cases hf
  · have hf := ag_bcl hf hr5
    obtain ⟨s, es5⟩ : ∃ s9, s9 = r5.2 := ⟨_, rfl⟩
    rw [← es5] at hW hf
    refine lv_i2l hx hb dL_ofSource_8 rfl ?_
    obtain ⟨a9, hf⟩ := ag_n hf
    refine ag_last hx hb hG hW hS t8 rfl rfl (by decide) a9 dL_ofSource_9 (fun H locs hW hS => ?_)
    refine lv_goto (tgt := 17) hx hb dL_ofSource_10 (by decide) ?_
    refine lv_iconst (v := 0) hx hb dL_ofSource_17 (by decide) ?_
    refine W.widen (k := 5) (n := 30) (Nat.le_of_ble_eq_true rfl) (Nat.le_of_ble_eq_true rfl) ?_
    exact ag_iret hx hb hr rfl hlocks hS (congrArg Prod.fst (Option.some.inj hf)) (congrArg Prod.snd (Option.some.inj hf) ▸ hW) dL_ofSource_18
def f_L_line (fu : Nat) (x1 : Int32) (x2 : Int32) (n : ag_N) (s : ag_S) : Option (Int32 × (ag_N × ag_S)) := ag_bc (f_X5_line fu x1 x2 n s) (fun w5 ns => if (0 : Int32) < 0 ∨ 1 ≤ (0 : Int32).toNatClampNeg then none else some (0, (ns.1, (ag_up ns.2 8 0 0 w5)))) (fun e ns => if e = 2 then (some (1, (ns.1, ns.2))) else if e = 3 then (some (2, (ns.1, ns.2))) else none)
abbrev rm_L_line : Room := { frames := 8, cells := 10, slots := 200, locals := 195 }
theorem dd_yL_line : yL_line.cls ≠ "java/lang/invoke/MethodHandle" ∧ yL_line.cls ≠ "java/lang/invoke/VarHandle" ∧ (parseMethodDescriptor yL_line.desc).map (fun d => d.parameters.length) = some 4 := by decide +kernel
set_option maxHeartbeats 4000000 in
set_option maxRecDepth 100000 in
theorem c_L_line {z : ag_Z} {l : Launch} {n : ag_N} {p : ag_P} {s : ag_S} {fu : Nat} {x1 : Int32} {x2 : Int32} {out : Int32 × (ag_N × ag_S)} (hq9 : l.stackTraces = false) (t5 : vp_in 0 (n 5)) (t8 : vp_in 0 (n 8)) (hf : f_L_line fu x1 x2 n s = some out) : Met l yL_line (ag_wsH yL_line cL_line 5 (some FieldType.int) [(0, 10, 13, 13), (0, 10, 17, 15)]) rm_L_line (va_Pc [.ref (p 5 0), .int x1, .int x2, .ref (p 8 0)] (ag_Pre z n p s)) (ag_Pi z n p out.1 out.2.1 out.2.2) 10 200 (ag_A z) := by
  refine va_MetW (hh := [(0, 10, 13, 13), (0, 10, 17, 15)]) (cc := cL_line) (maxL := 5) (ret := some FieldType.int) (by decide) rfl ?_
  intro p0 e st m args below meth c s9 B hml hv
  obtain ⟨ha, h0, hG, hW⟩ := hv
  have hx := B.exec
  have hb := B.bytes
  have hr := B.returns
  have hts := atoms_spec (ws := ag_wsH yL_line cL_line 5 (some FieldType.int) [(0, 10, 13, 13), (0, 10, 17, 15)]) B.pre
  have htab : c.exceptionTable.toList = tableOf [(0, 10, 13, 13), (0, 10, 17, 15)] := vx_table (x := yL_line) B (hts _ List.mem_cons_self)
  have hT : ∀ w ∈ ag_tbl, w.before args st = true := fun w h => hts w (List.mem_cons_of_mem _ h)
  have hown : st.vm.findClass RL = some m.cls := findClass_of_methodNamed B.named
  have hlocks := B.notSynchronized
  have hS : va_S (ag_A z) st.heap st.heap [] := va_S.rf
  obtain ⟨ls, hls, hl⟩ : ∃ ls, entryFrame m args 5 = F0 m 0 ls [] ∧ lv_has ls 5 [(0, .ref (p 5 0)), (1, .int x1), (2, .int x2), (3, .ref (p 8 0))] := by rw [ha]; exact ag_entry m [.ref (p 5 0), .int x1, .int x2, .ref (p 8 0)] (Nat.le_of_ble_eq_true rfl)
  rw [hls]
  unfold f_L_line at hf
  refine lv_aload_n hx hb dL_line_0 rfl (lv_at hl 3 rfl) ?_
  refine lv_iconst (v := 0) hx hb dL_line_1 (by decide) ?_
  refine lv_aload_n hx hb dL_line_2 rfl (lv_at hl 0 rfl) ?_
  refine lv_iload_n hx hb dL_line_3 rfl (lv_at hl 1 rfl) ?_
  refine lv_iload_n hx hb dL_line_4 rfl (lv_at hl 2 rfl) ?_
  obtain ⟨r5, hg5, hf⟩ := ag_bcs hf
  refine ag_yVi (C1 := 5) (S1 := 150) hx hb hml hT hown hG h0 hS hW (c_X5_line hq9 t5 hg5) ⟨rfl, rfl⟩ q185 q186 q187 q1 q188 dd_yX5_line ⟨Nat.le_of_ble_eq_true rfl, Nat.le_of_ble_eq_true rfl⟩ t5 rfl rfl hl.1 rfl (Nat.le_of_ble_eq_true rfl) ⟨Nat.le_of_ble_eq_true rfl, Nat.le_of_ble_eq_true rfl⟩ dL_line_5 (fun p E ce q9 H locs hE hp5 hle5 hW hS g1 g2 g3 => ?_) (Nat.le_of_ble_eq_true rfl) (Nat.le_of_ble_eq_true rfl) (fun w5 p H locs hr5 hp5 hle5 hW hS => ?_)
  · obtain ⟨e9, he9, hf⟩ := ag_bcx hf hE
    rw [he9] at hE
    have sl5 := hle5
    have he5 := ag_ext_tr (ag_le_rf _) (ag_ext_rf _ _) hp5
    have hl5 := ag_le_tr (ag_le_rf _) sl5
    rw [← hp5 5 0 t5, ← hp5 8 0 t8] at hl
    obtain ⟨ns, ens⟩ : ∃ x, x = r5.2 := ⟨_, rfl⟩
    rw [← ens] at hW hf sl5 hl5
    by_cases c9 : e9 = 2
    · have hf := ag_t c9 hf
      subst c9
      cases ag_ex2 hE
      refine vx_catch hown [] (⟨0, 10, 13, 13⟩ : ExceptionTableEntry) [(⟨0, 10, 17, 15⟩ : ExceptionTableEntry)] htab (fun z9 hz9 => nomatch hz9) rfl (by decide) (hT _ q183) (va_Nw.use rfl (hG.2.1 _ cst2)) g1 g2 g3 ?_
      refine lv_astore (lv' := [(4, .ref q9), (0, .ref (p 5 0)), (1, .int x1), (2, .int x2), (3, .ref (p 8 0))]) hx hb dL_line_13 hl (by decide) rfl (fun ls hl => ?_)
      refine lv_iconst (v := 1) hx hb dL_line_15 (by decide) ?_
      refine W.widen (k := 10) (n := 200) (Nat.le_of_ble_eq_true rfl) (Nat.le_of_ble_eq_true rfl) ?_
      exact ag_Piret hx hb hr rfl hlocks hS hf he5 hl5 hW dL_line_16
    have hf := ag_f c9 hf
    by_cases c9 : e9 = 3
    · have hf := ag_t c9 hf
      subst c9
      cases ag_ex3 hE
      refine vx_catch hown [(⟨0, 10, 13, 13⟩ : ExceptionTableEntry)] (⟨0, 10, 17, 15⟩ : ExceptionTableEntry) [] htab (fun z9 hz9 => by
      rcases (show z9 = (⟨0, 10, 13, 13⟩ : ExceptionTableEntry) by simpa using hz9) with rfl
      · exact Or.inr ⟨by decide, _, hT _ q183, ag_nc32 hG⟩) rfl (by decide) (hT _ q184) (va_Nw.use rfl (hG.2.1 _ cst3)) g1 g2 g3 ?_
      refine lv_astore (lv' := [(4, .ref q9), (0, .ref (p 5 0)), (1, .int x1), (2, .int x2), (3, .ref (p 8 0))]) hx hb dL_line_17 hl (by decide) rfl (fun ls hl => ?_)
      refine lv_iconst (v := 2) hx hb dL_line_19 (by decide) ?_
      refine W.widen (k := 10) (n := 200) (Nat.le_of_ble_eq_true rfl) (Nat.le_of_ble_eq_true rfl) ?_
      exact ag_Piret hx hb hr rfl hlocks hS hf he5 hl5 hW dL_line_20
    have hf := ag_f c9 hf
    cases hf
  · have hf := ag_bcl hf hr5
    have sl5 := hle5
    have he5 := ag_ext_tr (ag_le_rf _) (ag_ext_rf _ _) hp5
    have hl5 := ag_le_tr (ag_le_rf _) sl5
    rw [← hp5 5 0 t5, ← hp5 8 0 t8] at hl
    rw [← hp5 8 0 t8]
    obtain ⟨ns, ens⟩ : ∃ x, x = r5.2 := ⟨_, rfl⟩
    rw [← ens] at hW hf sl5 hl5
    refine lv_i2l hx hb dL_line_8 rfl ?_
    obtain ⟨a9, hf⟩ := ag_n hf
    refine ag_last hx hb hG hW hS (ag_in_le t8 (sl5 _)) rfl rfl (by decide) a9 dL_line_9 (fun H locs hW hS => ?_)
    refine lv_goto (tgt := 21) hx hb dL_line_10 (by decide) ?_
    refine lv_iconst (v := 0) hx hb dL_line_21 (by decide) ?_
    refine W.widen (k := 10) (n := 200) (Nat.le_of_ble_eq_true rfl) (Nat.le_of_ble_eq_true rfl) ?_
    exact ag_Piret hx hb hr rfl hlocks hS hf he5 hl5 hW dL_line_22
def f_L_amend (fu : Nat) (x1 : Int32) (x2 : Int32) (n : ag_N) (s : ag_S) : Option (Int32 × (ag_N × ag_S)) := ag_bc (f_X5_amend fu x1 x2 n s) (fun w5 ns => if (0 : Int32) < 0 ∨ 1 ≤ (0 : Int32).toNatClampNeg then none else some (0, (ns.1, (ag_up ns.2 8 0 0 w5)))) (fun e ns => if e = 1 then (some (1, (ns.1, ns.2))) else if e = 2 then (some (2, (ns.1, ns.2))) else if e = 3 then (some (3, (ns.1, ns.2))) else none)
abbrev rm_L_amend : Room := { frames := 9, cells := 10, slots := 200, locals := 218 }
theorem dd_yL_amend : yL_amend.cls ≠ "java/lang/invoke/MethodHandle" ∧ yL_amend.cls ≠ "java/lang/invoke/VarHandle" ∧ (parseMethodDescriptor yL_amend.desc).map (fun d => d.parameters.length) = some 4 := by decide +kernel
set_option maxHeartbeats 4000000 in
set_option maxRecDepth 100000 in
theorem c_L_amend {z : ag_Z} {l : Launch} {n : ag_N} {p : ag_P} {s : ag_S} {fu : Nat} {x1 : Int32} {x2 : Int32} {out : Int32 × (ag_N × ag_S)} (hq9 : l.stackTraces = false) (t5 : vp_in 0 (n 5)) (t8 : vp_in 0 (n 8)) (hf : f_L_amend fu x1 x2 n s = some out) : Met l yL_amend (ag_wsH yL_amend cL_amend 5 (some FieldType.int) [(0, 10, 13, 23), (0, 10, 17, 13), (0, 10, 21, 15)]) rm_L_amend (va_Pc [.ref (p 5 0), .int x1, .int x2, .ref (p 8 0)] (ag_Pre z n p s)) (ag_Pi z n p out.1 out.2.1 out.2.2) 10 200 (ag_A z) := by
  refine va_MetW (hh := [(0, 10, 13, 23), (0, 10, 17, 13), (0, 10, 21, 15)]) (cc := cL_amend) (maxL := 5) (ret := some FieldType.int) (by decide) rfl ?_
  intro p0 e st m args below meth c s9 B hml hv
  obtain ⟨ha, h0, hG, hW⟩ := hv
  have hx := B.exec
  have hb := B.bytes
  have hr := B.returns
  have hts := atoms_spec (ws := ag_wsH yL_amend cL_amend 5 (some FieldType.int) [(0, 10, 13, 23), (0, 10, 17, 13), (0, 10, 21, 15)]) B.pre
  have htab : c.exceptionTable.toList = tableOf [(0, 10, 13, 23), (0, 10, 17, 13), (0, 10, 21, 15)] := vx_table (x := yL_amend) B (hts _ List.mem_cons_self)
  have hT : ∀ w ∈ ag_tbl, w.before args st = true := fun w h => hts w (List.mem_cons_of_mem _ h)
  have hown : st.vm.findClass RL = some m.cls := findClass_of_methodNamed B.named
  have hlocks := B.notSynchronized
  have hS : va_S (ag_A z) st.heap st.heap [] := va_S.rf
  obtain ⟨ls, hls, hl⟩ : ∃ ls, entryFrame m args 5 = F0 m 0 ls [] ∧ lv_has ls 5 [(0, .ref (p 5 0)), (1, .int x1), (2, .int x2), (3, .ref (p 8 0))] := by rw [ha]; exact ag_entry m [.ref (p 5 0), .int x1, .int x2, .ref (p 8 0)] (Nat.le_of_ble_eq_true rfl)
  rw [hls]
  unfold f_L_amend at hf
  refine lv_aload_n hx hb dL_amend_0 rfl (lv_at hl 3 rfl) ?_
  refine lv_iconst (v := 0) hx hb dL_amend_1 (by decide) ?_
  refine lv_aload_n hx hb dL_amend_2 rfl (lv_at hl 0 rfl) ?_
  refine lv_iload_n hx hb dL_amend_3 rfl (lv_at hl 1 rfl) ?_
  refine lv_iload_n hx hb dL_amend_4 rfl (lv_at hl 2 rfl) ?_
  obtain ⟨r5, hg5, hf⟩ := ag_bcs hf
  refine ag_yVi (C1 := 8) (S1 := 180) hx hb hml hT hown hG h0 hS hW (c_X5_amend hq9 t5 hg5) ⟨rfl, rfl⟩ q346 q347 q348 q1 q349 dd_yX5_amend ⟨Nat.le_of_ble_eq_true rfl, Nat.le_of_ble_eq_true rfl⟩ t5 rfl rfl hl.1 rfl (Nat.le_of_ble_eq_true rfl) ⟨Nat.le_of_ble_eq_true rfl, Nat.le_of_ble_eq_true rfl⟩ dL_amend_5 (fun p E ce q9 H locs hE hp5 hle5 hW hS g1 g2 g3 => ?_) (Nat.le_of_ble_eq_true rfl) (Nat.le_of_ble_eq_true rfl) (fun w5 p H locs hr5 hp5 hle5 hW hS => ?_)
  · obtain ⟨e9, he9, hf⟩ := ag_bcx hf hE
    rw [he9] at hE
    have sl5 := hle5
    have he5 := ag_ext_tr (ag_le_rf _) (ag_ext_rf _ _) hp5
    have hl5 := ag_le_tr (ag_le_rf _) sl5
    rw [← hp5 5 0 t5, ← hp5 8 0 t8] at hl
    obtain ⟨ns, ens⟩ : ∃ x, x = r5.2 := ⟨_, rfl⟩
    rw [← ens] at hW hf sl5 hl5
    by_cases c9 : e9 = 1
    · have hf := ag_t c9 hf
      subst c9
      cases ag_ex1 hE
      refine vx_catch hown [] (⟨0, 10, 13, 23⟩ : ExceptionTableEntry) [(⟨0, 10, 17, 13⟩ : ExceptionTableEntry), (⟨0, 10, 21, 15⟩ : ExceptionTableEntry)] htab (fun z9 hz9 => nomatch hz9) rfl (by decide) (hT _ q345) (va_Nw.use rfl (hG.2.1 _ cst1)) g1 g2 g3 ?_
      refine lv_astore (lv' := [(4, .ref q9), (0, .ref (p 5 0)), (1, .int x1), (2, .int x2), (3, .ref (p 8 0))]) hx hb dL_amend_13 hl (by decide) rfl (fun ls hl => ?_)
      refine lv_iconst (v := 1) hx hb dL_amend_15 (by decide) ?_
      refine W.widen (k := 10) (n := 200) (Nat.le_of_ble_eq_true rfl) (Nat.le_of_ble_eq_true rfl) ?_
      exact ag_Piret hx hb hr rfl hlocks hS hf he5 hl5 hW dL_amend_16
    have hf := ag_f c9 hf
    by_cases c9 : e9 = 2
    · have hf := ag_t c9 hf
      subst c9
      cases ag_ex2 hE
      refine vx_catch hown [(⟨0, 10, 13, 23⟩ : ExceptionTableEntry)] (⟨0, 10, 17, 13⟩ : ExceptionTableEntry) [(⟨0, 10, 21, 15⟩ : ExceptionTableEntry)] htab (fun z9 hz9 => by
      rcases (show z9 = (⟨0, 10, 13, 23⟩ : ExceptionTableEntry) by simpa using hz9) with rfl
      · exact Or.inr ⟨by decide, _, hT _ q345, ag_nc21 hG⟩) rfl (by decide) (hT _ q183) (va_Nw.use rfl (hG.2.1 _ cst2)) g1 g2 g3 ?_
      refine lv_astore (lv' := [(4, .ref q9), (0, .ref (p 5 0)), (1, .int x1), (2, .int x2), (3, .ref (p 8 0))]) hx hb dL_amend_17 hl (by decide) rfl (fun ls hl => ?_)
      refine lv_iconst (v := 2) hx hb dL_amend_19 (by decide) ?_
      refine W.widen (k := 10) (n := 200) (Nat.le_of_ble_eq_true rfl) (Nat.le_of_ble_eq_true rfl) ?_
      exact ag_Piret hx hb hr rfl hlocks hS hf he5 hl5 hW dL_amend_20
    have hf := ag_f c9 hf
    by_cases c9 : e9 = 3
    · have hf := ag_t c9 hf
      subst c9
      cases ag_ex3 hE
      refine vx_catch hown [(⟨0, 10, 13, 23⟩ : ExceptionTableEntry), (⟨0, 10, 17, 13⟩ : ExceptionTableEntry)] (⟨0, 10, 21, 15⟩ : ExceptionTableEntry) [] htab (fun z9 hz9 => by
      rcases (show z9 = (⟨0, 10, 13, 23⟩ : ExceptionTableEntry) ∨ z9 = (⟨0, 10, 17, 13⟩ : ExceptionTableEntry) by simpa using hz9) with rfl | rfl
      · exact Or.inr ⟨by decide, _, hT _ q345, ag_nc31 hG⟩
      · exact Or.inr ⟨by decide, _, hT _ q183, ag_nc32 hG⟩) rfl (by decide) (hT _ q184) (va_Nw.use rfl (hG.2.1 _ cst3)) g1 g2 g3 ?_
      refine lv_astore (lv' := [(4, .ref q9), (0, .ref (p 5 0)), (1, .int x1), (2, .int x2), (3, .ref (p 8 0))]) hx hb dL_amend_21 hl (by decide) rfl (fun ls hl => ?_)
      refine lv_iconst (v := 3) hx hb dL_amend_23 (by decide) ?_
      refine W.widen (k := 10) (n := 200) (Nat.le_of_ble_eq_true rfl) (Nat.le_of_ble_eq_true rfl) ?_
      exact ag_Piret hx hb hr rfl hlocks hS hf he5 hl5 hW dL_amend_24
    have hf := ag_f c9 hf
    cases hf
  · have hf := ag_bcl hf hr5
    have sl5 := hle5
    have he5 := ag_ext_tr (ag_le_rf _) (ag_ext_rf _ _) hp5
    have hl5 := ag_le_tr (ag_le_rf _) sl5
    rw [← hp5 5 0 t5, ← hp5 8 0 t8] at hl
    rw [← hp5 8 0 t8]
    obtain ⟨ns, ens⟩ : ∃ x, x = r5.2 := ⟨_, rfl⟩
    rw [← ens] at hW hf sl5 hl5
    refine lv_i2l hx hb dL_amend_8 rfl ?_
    obtain ⟨a9, hf⟩ := ag_n hf
    refine ag_last hx hb hG hW hS (ag_in_le t8 (sl5 _)) rfl rfl (by decide) a9 dL_amend_9 (fun H locs hW hS => ?_)
    refine lv_goto (tgt := 25) hx hb dL_amend_10 (by decide) ?_
    refine lv_iconst (v := 0) hx hb dL_amend_25 (by decide) ?_
    refine W.widen (k := 10) (n := 200) (Nat.le_of_ble_eq_true rfl) (Nat.le_of_ble_eq_true rfl) ?_
    exact ag_Piret hx hb hr rfl hlocks hS hf he5 hl5 hW dL_amend_26
def f_L_amendOn (fu : Nat) (x1 : Int32) (x2 : Int32) (n : ag_N) (s : ag_S) : Option (Int32 × (ag_N × ag_S)) := ag_bc (f_X5_amendOn fu x1 x2 n s) (fun w5 ns => if (0 : Int32) < 0 ∨ 1 ≤ (0 : Int32).toNatClampNeg then none else some (0, (ns.1, (ag_up ns.2 8 0 0 w5)))) (fun e ns => if e = 1 then (some (1, (ns.1, ns.2))) else if e = 2 then (some (2, (ns.1, ns.2))) else if e = 3 then (some (3, (ns.1, ns.2))) else none)
abbrev rm_L_amendOn : Room := { frames := 9, cells := 10, slots := 200, locals := 218 }
theorem dd_yL_amendOn : yL_amendOn.cls ≠ "java/lang/invoke/MethodHandle" ∧ yL_amendOn.cls ≠ "java/lang/invoke/VarHandle" ∧ (parseMethodDescriptor yL_amendOn.desc).map (fun d => d.parameters.length) = some 4 := by decide +kernel
set_option maxHeartbeats 4000000 in
set_option maxRecDepth 100000 in
theorem c_L_amendOn {z : ag_Z} {l : Launch} {n : ag_N} {p : ag_P} {s : ag_S} {fu : Nat} {x1 : Int32} {x2 : Int32} {out : Int32 × (ag_N × ag_S)} (hq9 : l.stackTraces = false) (t5 : vp_in 0 (n 5)) (t8 : vp_in 0 (n 8)) (hf : f_L_amendOn fu x1 x2 n s = some out) : Met l yL_amendOn (ag_wsH yL_amendOn cL_amendOn 5 (some FieldType.int) [(0, 10, 13, 23), (0, 10, 17, 13), (0, 10, 21, 15)]) rm_L_amendOn (va_Pc [.ref (p 5 0), .int x1, .int x2, .ref (p 8 0)] (ag_Pre z n p s)) (ag_Pi z n p out.1 out.2.1 out.2.2) 10 200 (ag_A z) := by
  refine va_MetW (hh := [(0, 10, 13, 23), (0, 10, 17, 13), (0, 10, 21, 15)]) (cc := cL_amendOn) (maxL := 5) (ret := some FieldType.int) (by decide) rfl ?_
  intro p0 e st m args below meth c s9 B hml hv
  obtain ⟨ha, h0, hG, hW⟩ := hv
  have hx := B.exec
  have hb := B.bytes
  have hr := B.returns
  have hts := atoms_spec (ws := ag_wsH yL_amendOn cL_amendOn 5 (some FieldType.int) [(0, 10, 13, 23), (0, 10, 17, 13), (0, 10, 21, 15)]) B.pre
  have htab : c.exceptionTable.toList = tableOf [(0, 10, 13, 23), (0, 10, 17, 13), (0, 10, 21, 15)] := vx_table (x := yL_amendOn) B (hts _ List.mem_cons_self)
  have hT : ∀ w ∈ ag_tbl, w.before args st = true := fun w h => hts w (List.mem_cons_of_mem _ h)
  have hown : st.vm.findClass RL = some m.cls := findClass_of_methodNamed B.named
  have hlocks := B.notSynchronized
  have hS : va_S (ag_A z) st.heap st.heap [] := va_S.rf
  obtain ⟨ls, hls, hl⟩ : ∃ ls, entryFrame m args 5 = F0 m 0 ls [] ∧ lv_has ls 5 [(0, .ref (p 5 0)), (1, .int x1), (2, .int x2), (3, .ref (p 8 0))] := by rw [ha]; exact ag_entry m [.ref (p 5 0), .int x1, .int x2, .ref (p 8 0)] (Nat.le_of_ble_eq_true rfl)
  rw [hls]
  unfold f_L_amendOn at hf
  refine lv_aload_n hx hb dL_amendOn_0 rfl (lv_at hl 3 rfl) ?_
  refine lv_iconst (v := 0) hx hb dL_amendOn_1 (by decide) ?_
  refine lv_aload_n hx hb dL_amendOn_2 rfl (lv_at hl 0 rfl) ?_
  refine lv_iload_n hx hb dL_amendOn_3 rfl (lv_at hl 1 rfl) ?_
  refine lv_iload_n hx hb dL_amendOn_4 rfl (lv_at hl 2 rfl) ?_
  obtain ⟨r5, hg5, hf⟩ := ag_bcs hf
  refine ag_yVi (C1 := 8) (S1 := 180) hx hb hml hT hown hG h0 hS hW (c_X5_amendOn hq9 t5 hg5) ⟨rfl, rfl⟩ q434 q435 q436 q1 q437 dd_yX5_amendOn ⟨Nat.le_of_ble_eq_true rfl, Nat.le_of_ble_eq_true rfl⟩ t5 rfl rfl hl.1 rfl (Nat.le_of_ble_eq_true rfl) ⟨Nat.le_of_ble_eq_true rfl, Nat.le_of_ble_eq_true rfl⟩ dL_amendOn_5 (fun p E ce q9 H locs hE hp5 hle5 hW hS g1 g2 g3 => ?_) (Nat.le_of_ble_eq_true rfl) (Nat.le_of_ble_eq_true rfl) (fun w5 p H locs hr5 hp5 hle5 hW hS => ?_)
  · obtain ⟨e9, he9, hf⟩ := ag_bcx hf hE
    rw [he9] at hE
    have sl5 := hle5
    have he5 := ag_ext_tr (ag_le_rf _) (ag_ext_rf _ _) hp5
    have hl5 := ag_le_tr (ag_le_rf _) sl5
    rw [← hp5 5 0 t5, ← hp5 8 0 t8] at hl
    obtain ⟨ns, ens⟩ : ∃ x, x = r5.2 := ⟨_, rfl⟩
    rw [← ens] at hW hf sl5 hl5
    by_cases c9 : e9 = 1
    · have hf := ag_t c9 hf
      subst c9
      cases ag_ex1 hE
      refine vx_catch hown [] (⟨0, 10, 13, 23⟩ : ExceptionTableEntry) [(⟨0, 10, 17, 13⟩ : ExceptionTableEntry), (⟨0, 10, 21, 15⟩ : ExceptionTableEntry)] htab (fun z9 hz9 => nomatch hz9) rfl (by decide) (hT _ q345) (va_Nw.use rfl (hG.2.1 _ cst1)) g1 g2 g3 ?_
      refine lv_astore (lv' := [(4, .ref q9), (0, .ref (p 5 0)), (1, .int x1), (2, .int x2), (3, .ref (p 8 0))]) hx hb dL_amendOn_13 hl (by decide) rfl (fun ls hl => ?_)
      refine lv_iconst (v := 1) hx hb dL_amendOn_15 (by decide) ?_
      refine W.widen (k := 10) (n := 200) (Nat.le_of_ble_eq_true rfl) (Nat.le_of_ble_eq_true rfl) ?_
      exact ag_Piret hx hb hr rfl hlocks hS hf he5 hl5 hW dL_amendOn_16
    have hf := ag_f c9 hf
    by_cases c9 : e9 = 2
    · have hf := ag_t c9 hf
      subst c9
      cases ag_ex2 hE
      refine vx_catch hown [(⟨0, 10, 13, 23⟩ : ExceptionTableEntry)] (⟨0, 10, 17, 13⟩ : ExceptionTableEntry) [(⟨0, 10, 21, 15⟩ : ExceptionTableEntry)] htab (fun z9 hz9 => by
      rcases (show z9 = (⟨0, 10, 13, 23⟩ : ExceptionTableEntry) by simpa using hz9) with rfl
      · exact Or.inr ⟨by decide, _, hT _ q345, ag_nc21 hG⟩) rfl (by decide) (hT _ q183) (va_Nw.use rfl (hG.2.1 _ cst2)) g1 g2 g3 ?_
      refine lv_astore (lv' := [(4, .ref q9), (0, .ref (p 5 0)), (1, .int x1), (2, .int x2), (3, .ref (p 8 0))]) hx hb dL_amendOn_17 hl (by decide) rfl (fun ls hl => ?_)
      refine lv_iconst (v := 2) hx hb dL_amendOn_19 (by decide) ?_
      refine W.widen (k := 10) (n := 200) (Nat.le_of_ble_eq_true rfl) (Nat.le_of_ble_eq_true rfl) ?_
      exact ag_Piret hx hb hr rfl hlocks hS hf he5 hl5 hW dL_amendOn_20
    have hf := ag_f c9 hf
    by_cases c9 : e9 = 3
    · have hf := ag_t c9 hf
      subst c9
      cases ag_ex3 hE
      refine vx_catch hown [(⟨0, 10, 13, 23⟩ : ExceptionTableEntry), (⟨0, 10, 17, 13⟩ : ExceptionTableEntry)] (⟨0, 10, 21, 15⟩ : ExceptionTableEntry) [] htab (fun z9 hz9 => by
      rcases (show z9 = (⟨0, 10, 13, 23⟩ : ExceptionTableEntry) ∨ z9 = (⟨0, 10, 17, 13⟩ : ExceptionTableEntry) by simpa using hz9) with rfl | rfl
      · exact Or.inr ⟨by decide, _, hT _ q345, ag_nc31 hG⟩
      · exact Or.inr ⟨by decide, _, hT _ q183, ag_nc32 hG⟩) rfl (by decide) (hT _ q184) (va_Nw.use rfl (hG.2.1 _ cst3)) g1 g2 g3 ?_
      refine lv_astore (lv' := [(4, .ref q9), (0, .ref (p 5 0)), (1, .int x1), (2, .int x2), (3, .ref (p 8 0))]) hx hb dL_amendOn_21 hl (by decide) rfl (fun ls hl => ?_)
      refine lv_iconst (v := 3) hx hb dL_amendOn_23 (by decide) ?_
      refine W.widen (k := 10) (n := 200) (Nat.le_of_ble_eq_true rfl) (Nat.le_of_ble_eq_true rfl) ?_
      exact ag_Piret hx hb hr rfl hlocks hS hf he5 hl5 hW dL_amendOn_24
    have hf := ag_f c9 hf
    cases hf
  · have hf := ag_bcl hf hr5
    have sl5 := hle5
    have he5 := ag_ext_tr (ag_le_rf _) (ag_ext_rf _ _) hp5
    have hl5 := ag_le_tr (ag_le_rf _) sl5
    rw [← hp5 5 0 t5, ← hp5 8 0 t8] at hl
    rw [← hp5 8 0 t8]
    obtain ⟨ns, ens⟩ : ∃ x, x = r5.2 := ⟨_, rfl⟩
    rw [← ens] at hW hf sl5 hl5
    refine lv_i2l hx hb dL_amendOn_8 rfl ?_
    obtain ⟨a9, hf⟩ := ag_n hf
    refine ag_last hx hb hG hW hS (ag_in_le t8 (sl5 _)) rfl rfl (by decide) a9 dL_amendOn_9 (fun H locs hW hS => ?_)
    refine lv_goto (tgt := 25) hx hb dL_amendOn_10 (by decide) ?_
    refine lv_iconst (v := 0) hx hb dL_amendOn_25 (by decide) ?_
    refine W.widen (k := 10) (n := 200) (Nat.le_of_ble_eq_true rfl) (Nat.le_of_ble_eq_true rfl) ?_
    exact ag_Piret hx hb hr rfl hlocks hS hf he5 hl5 hW dL_amendOn_26
def f_L_grant (fu : Nat) (x1 : Int32) (x2 : Int32) (x3 : Int32) (x4 : Int32) (x5 : Int32) (n : ag_N) (s : ag_S) : Option (Int32 × (ag_N × ag_S)) := ag_bc (f_X5_grant fu x1 x2 x3 x4 x5 n s) (fun w11 ns => if (0 : Int32) < 0 ∨ 1 ≤ (0 : Int32).toNatClampNeg then none else some (0, (ns.1, (ag_up ns.2 8 0 0 w11)))) (fun e ns => if e = 1 then (some (1, (ns.1, ns.2))) else if e = 2 then (some (2, (ns.1, ns.2))) else if e = 3 then (some (3, (ns.1, ns.2))) else none)
abbrev rm_L_grant : Room := { frames := 8, cells := 10, slots := 200, locals := 200 }
theorem dd_yL_grant : yL_grant.cls ≠ "java/lang/invoke/MethodHandle" ∧ yL_grant.cls ≠ "java/lang/invoke/VarHandle" ∧ (parseMethodDescriptor yL_grant.desc).map (fun d => d.parameters.length) = some 7 := by decide +kernel
set_option maxHeartbeats 4000000 in
set_option maxRecDepth 100000 in
theorem c_L_grant {z : ag_Z} {l : Launch} {n : ag_N} {p : ag_P} {s : ag_S} {fu : Nat} {x1 : Int32} {x2 : Int32} {x3 : Int32} {x4 : Int32} {x5 : Int32} {out : Int32 × (ag_N × ag_S)} (hq9 : l.stackTraces = false) (t5 : vp_in 0 (n 5)) (t8 : vp_in 0 (n 8)) (hf : f_L_grant fu x1 x2 x3 x4 x5 n s = some out) : Met l yL_grant (ag_wsH yL_grant cL_grant 8 (some FieldType.int) [(0, 16, 19, 23), (0, 16, 23, 13), (0, 16, 27, 15)]) rm_L_grant (va_Pc [.ref (p 5 0), .int x1, .int x2, .int x3, .int x4, .int x5, .ref (p 8 0)] (ag_Pre z n p s)) (ag_Pi z n p out.1 out.2.1 out.2.2) 10 200 (ag_A z) := by
  refine va_MetW (hh := [(0, 16, 19, 23), (0, 16, 23, 13), (0, 16, 27, 15)]) (cc := cL_grant) (maxL := 8) (ret := some FieldType.int) (by decide) rfl ?_
  intro p0 e st m args below meth c s9 B hml hv
  obtain ⟨ha, h0, hG, hW⟩ := hv
  have hx := B.exec
  have hb := B.bytes
  have hr := B.returns
  have hts := atoms_spec (ws := ag_wsH yL_grant cL_grant 8 (some FieldType.int) [(0, 16, 19, 23), (0, 16, 23, 13), (0, 16, 27, 15)]) B.pre
  have htab : c.exceptionTable.toList = tableOf [(0, 16, 19, 23), (0, 16, 23, 13), (0, 16, 27, 15)] := vx_table (x := yL_grant) B (hts _ List.mem_cons_self)
  have hT : ∀ w ∈ ag_tbl, w.before args st = true := fun w h => hts w (List.mem_cons_of_mem _ h)
  have hown : st.vm.findClass RL = some m.cls := findClass_of_methodNamed B.named
  have hlocks := B.notSynchronized
  have hS : va_S (ag_A z) st.heap st.heap [] := va_S.rf
  obtain ⟨ls, hls, hl⟩ : ∃ ls, entryFrame m args 8 = F0 m 0 ls [] ∧ lv_has ls 8 [(0, .ref (p 5 0)), (1, .int x1), (2, .int x2), (3, .int x3), (4, .int x4), (5, .int x5), (6, .ref (p 8 0))] := by rw [ha]; exact ag_entry m [.ref (p 5 0), .int x1, .int x2, .int x3, .int x4, .int x5, .ref (p 8 0)] (Nat.le_of_ble_eq_true rfl)
  rw [hls]
  unfold f_L_grant at hf
  refine lv_aload hx hb dL_grant_0 (lv_at hl 6 rfl) ?_
  refine lv_iconst (v := 0) hx hb dL_grant_2 (by decide) ?_
  refine lv_aload_n hx hb dL_grant_3 rfl (lv_at hl 0 rfl) ?_
  refine lv_iload_n hx hb dL_grant_4 rfl (lv_at hl 1 rfl) ?_
  refine lv_iload_n hx hb dL_grant_5 rfl (lv_at hl 2 rfl) ?_
  refine lv_iload_n hx hb dL_grant_6 rfl (lv_at hl 3 rfl) ?_
  refine lv_iload hx hb dL_grant_7 (lv_at hl 4 rfl) ?_
  refine lv_iload hx hb dL_grant_9 (lv_at hl 5 rfl) ?_
  obtain ⟨r11, hg11, hf⟩ := ag_bcs hf
  refine ag_yVi (C1 := 9) (S1 := 180) hx hb hml hT hown hG h0 hS hW (c_X5_grant hq9 t5 hg11) ⟨rfl, rfl⟩ q573 q574 q575 q1 q576 dd_yX5_grant ⟨Nat.le_of_ble_eq_true rfl, Nat.le_of_ble_eq_true rfl⟩ t5 rfl rfl hl.1 rfl (Nat.le_of_ble_eq_true rfl) ⟨Nat.le_of_ble_eq_true rfl, Nat.le_of_ble_eq_true rfl⟩ dL_grant_11 (fun p E ce q9 H locs hE hp11 hle11 hW hS g1 g2 g3 => ?_) (Nat.le_of_ble_eq_true rfl) (Nat.le_of_ble_eq_true rfl) (fun w11 p H locs hr11 hp11 hle11 hW hS => ?_)
  · obtain ⟨e9, he9, hf⟩ := ag_bcx hf hE
    rw [he9] at hE
    have sl11 := hle11
    have he11 := ag_ext_tr (ag_le_rf _) (ag_ext_rf _ _) hp11
    have hl11 := ag_le_tr (ag_le_rf _) sl11
    rw [← hp11 5 0 t5, ← hp11 8 0 t8] at hl
    obtain ⟨ns, ens⟩ : ∃ x, x = r11.2 := ⟨_, rfl⟩
    rw [← ens] at hW hf sl11 hl11
    by_cases c9 : e9 = 1
    · have hf := ag_t c9 hf
      subst c9
      cases ag_ex1 hE
      refine vx_catch hown [] (⟨0, 16, 19, 23⟩ : ExceptionTableEntry) [(⟨0, 16, 23, 13⟩ : ExceptionTableEntry), (⟨0, 16, 27, 15⟩ : ExceptionTableEntry)] htab (fun z9 hz9 => nomatch hz9) rfl (by decide) (hT _ q345) (va_Nw.use rfl (hG.2.1 _ cst1)) g1 g2 g3 ?_
      refine lv_astore (lv' := [(7, .ref q9), (0, .ref (p 5 0)), (1, .int x1), (2, .int x2), (3, .int x3), (4, .int x4), (5, .int x5), (6, .ref (p 8 0))]) hx hb dL_grant_19 hl (by decide) rfl (fun ls hl => ?_)
      refine lv_iconst (v := 1) hx hb dL_grant_21 (by decide) ?_
      refine W.widen (k := 10) (n := 200) (Nat.le_of_ble_eq_true rfl) (Nat.le_of_ble_eq_true rfl) ?_
      exact ag_Piret hx hb hr rfl hlocks hS hf he11 hl11 hW dL_grant_22
    have hf := ag_f c9 hf
    by_cases c9 : e9 = 2
    · have hf := ag_t c9 hf
      subst c9
      cases ag_ex2 hE
      refine vx_catch hown [(⟨0, 16, 19, 23⟩ : ExceptionTableEntry)] (⟨0, 16, 23, 13⟩ : ExceptionTableEntry) [(⟨0, 16, 27, 15⟩ : ExceptionTableEntry)] htab (fun z9 hz9 => by
      rcases (show z9 = (⟨0, 16, 19, 23⟩ : ExceptionTableEntry) by simpa using hz9) with rfl
      · exact Or.inr ⟨by decide, _, hT _ q345, ag_nc21 hG⟩) rfl (by decide) (hT _ q183) (va_Nw.use rfl (hG.2.1 _ cst2)) g1 g2 g3 ?_
      refine lv_astore (lv' := [(7, .ref q9), (0, .ref (p 5 0)), (1, .int x1), (2, .int x2), (3, .int x3), (4, .int x4), (5, .int x5), (6, .ref (p 8 0))]) hx hb dL_grant_23 hl (by decide) rfl (fun ls hl => ?_)
      refine lv_iconst (v := 2) hx hb dL_grant_25 (by decide) ?_
      refine W.widen (k := 10) (n := 200) (Nat.le_of_ble_eq_true rfl) (Nat.le_of_ble_eq_true rfl) ?_
      exact ag_Piret hx hb hr rfl hlocks hS hf he11 hl11 hW dL_grant_26
    have hf := ag_f c9 hf
    by_cases c9 : e9 = 3
    · have hf := ag_t c9 hf
      subst c9
      cases ag_ex3 hE
      refine vx_catch hown [(⟨0, 16, 19, 23⟩ : ExceptionTableEntry), (⟨0, 16, 23, 13⟩ : ExceptionTableEntry)] (⟨0, 16, 27, 15⟩ : ExceptionTableEntry) [] htab (fun z9 hz9 => by
      rcases (show z9 = (⟨0, 16, 19, 23⟩ : ExceptionTableEntry) ∨ z9 = (⟨0, 16, 23, 13⟩ : ExceptionTableEntry) by simpa using hz9) with rfl | rfl
      · exact Or.inr ⟨by decide, _, hT _ q345, ag_nc31 hG⟩
      · exact Or.inr ⟨by decide, _, hT _ q183, ag_nc32 hG⟩) rfl (by decide) (hT _ q184) (va_Nw.use rfl (hG.2.1 _ cst3)) g1 g2 g3 ?_
      refine lv_astore (lv' := [(7, .ref q9), (0, .ref (p 5 0)), (1, .int x1), (2, .int x2), (3, .int x3), (4, .int x4), (5, .int x5), (6, .ref (p 8 0))]) hx hb dL_grant_27 hl (by decide) rfl (fun ls hl => ?_)
      refine lv_iconst (v := 3) hx hb dL_grant_29 (by decide) ?_
      refine W.widen (k := 10) (n := 200) (Nat.le_of_ble_eq_true rfl) (Nat.le_of_ble_eq_true rfl) ?_
      exact ag_Piret hx hb hr rfl hlocks hS hf he11 hl11 hW dL_grant_30
    have hf := ag_f c9 hf
    cases hf
  · have hf := ag_bcl hf hr11
    have sl11 := hle11
    have he11 := ag_ext_tr (ag_le_rf _) (ag_ext_rf _ _) hp11
    have hl11 := ag_le_tr (ag_le_rf _) sl11
    rw [← hp11 5 0 t5, ← hp11 8 0 t8] at hl
    rw [← hp11 8 0 t8]
    obtain ⟨ns, ens⟩ : ∃ x, x = r11.2 := ⟨_, rfl⟩
    rw [← ens] at hW hf sl11 hl11
    refine lv_i2l hx hb dL_grant_14 rfl ?_
    obtain ⟨a15, hf⟩ := ag_n hf
    refine ag_last hx hb hG hW hS (ag_in_le t8 (sl11 _)) rfl rfl (by decide) a15 dL_grant_15 (fun H locs hW hS => ?_)
    refine lv_goto (tgt := 31) hx hb dL_grant_16 (by decide) ?_
    refine lv_iconst (v := 0) hx hb dL_grant_31 (by decide) ?_
    refine W.widen (k := 10) (n := 200) (Nat.le_of_ble_eq_true rfl) (Nat.le_of_ble_eq_true rfl) ?_
    exact ag_Piret hx hb hr rfl hlocks hS hf he11 hl11 hW dL_grant_32
