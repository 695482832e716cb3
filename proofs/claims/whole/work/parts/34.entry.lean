/-! ===== the law's beginning ===== -/
theorem ag_codes {k ci : Nat} {ts0 : List (Nat × Nat)} {l : List Nat} {s : ag_S} (hod : ag_od k = some (ci, ts0)) (hd : ∀ f, f < ts0.length → (ts0[f]?).map Prod.fst = some 1 → f ∈ l) (h : l.all (fun f => s k f 0 == 0) = true) : ∀ ci ts f t, ag_od k = some (ci, ts) → ts[f]? = some (1, t) → s k f 0 = 0 := by
  intro ci ts f t h1 h2
  rw [hod] at h1
  cases h1
  have hl := (List.getElem?_eq_some_iff.mp h2).1
  have hm := hd f hl (by rw [h2]; rfl)
  have := List.all_eq_true.mp h f hm
  exact eq_of_beq this
def lawStart (fu : Nat) (n : ag_N) (s : ag_S) : Option (ag_N × ag_S) := if ¬ n 15 = 0 then none else ag_bd (f_X5_init fu (ag_nn n 15) (ag_s0 s 15 0)) fun r4 =>
  if ¬ (r4.1 15 = 1 ∧ [0, 1, 2, 3, 4].all (fun f => r4.2 15 f 0 == 0) = true) then none else if ¬ ag_rn r4.1 5 16 = 0 then none else ag_bd (f_X6_init fu (ag_nn (ag_rn r4.1 5) 16) (ag_s0 (ag_rs r4.2 5) 16 0)) fun r12 =>
  if ¬ (r12.1 16 = 1 ∧ [4, 5, 6, 8, 9, 10, 11, 12, 14, 15, 16, 17, 18, 19, 21, 22, 23, 24, 25, 26, 27, 28, 29, 30].all (fun f => r12.2 16 f 0 == 0) = true) then none else if ¬ ag_rn r12.1 6 8 = 0 then none else if ¬ (0 < ag_nn (ag_rn r12.1 6) 8 5 ∧ 0 < ag_nn (ag_rn r12.1 6) 8 6) then none else some (ag_nn (ag_rn r12.1 6) 8, ag_sv (ag_rs r12.2 6) 8 0 0)
set_option maxHeartbeats 4000000 in
set_option maxRecDepth 100000 in
theorem law_entry {p0 : Program} {l : Launch} {e : Env} {st : State} {m : MethodId} {args : Array Value} {below : List Frame} {meth : Method} {c : Code} {Q : State → Prop} {z : ag_Z} {fu b : Nat} {H : Heap} {locs : List Loc} {ls : Array Slot} {n : ag_N} {p : ag_P} {s : ag_S} {out : ag_N × ag_S} (hq9 : l.stackTraces = false) (hx : p0.tables.exec = Jvm.exec) (hb : c.code = cL_law) (hml : c.maxLocals = 7) (hT : ∀ w ∈ ag_tbl, w.before args st = true) (hown : st.vm.findClass RL = some m.cls) (hG : ag_G z st st.heap) (h0 : z.2.2.1 ≤ st.heap.size) (hS : va_S (ag_A z) st.heap H locs) (hW : ag_W z n p s H) (hl : lv_has ls 7 [(0, .ref b)]) (hf : lawStart fu n s = some out)
    (kk : ∀ (p1 : ag_P) (H1 : Heap) (locs1 : List Loc) (ls1 : Array Slot), ag_W z out.1 p1 out.2 H1 → va_S (ag_A z) st.heap H1 locs1 → vp_in 0 (out.1 5) → vp_in 0 (out.1 6) → vp_in 0 (out.1 8) → lv_has ls1 7 [(0, .ref b), (1, .ref (p1 5 0)), (2, .ref (p1 6 0)), (3, .ref (p1 8 0)), (4, .int 0)] → W p0 l e room_1 st m args below meth c H1 locs1 80 3000 Q (F0 m 23 ls1 [])) : W p0 l e room_1 st m args below meth c H locs 0 0 Q (F0 m 0 ls []) := by
  unfold lawStart at hf
  obtain ⟨m0, hf⟩ := ag_n hf
  have j0 := Decidable.not_not.mp m0
  have z0 : nI (n 15) = 0 := by rw [j0]; rfl
  obtain ⟨r4, hg4, hf⟩ := ag_bs hf
  obtain ⟨m5, hf⟩ := ag_n hf
  have j5 := Decidable.not_not.mp m5
  obtain ⟨m8, hf⟩ := ag_n hf
  have j8 := Decidable.not_not.mp m8
  obtain ⟨r12, hg12, hf⟩ := ag_bs hf
  obtain ⟨m13, hf⟩ := ag_n hf
  have j13 := Decidable.not_not.mp m13
  obtain ⟨m17, hf⟩ := ag_n hf
  have j17 := Decidable.not_not.mp m17
  obtain ⟨m18, hf⟩ := ag_n hf
  have j18 := Decidable.not_not.mp m18
  have e9 := Option.some.inj hf
  subst e9
  refine n15 hx hb hT hown hG h0 hS hW (by rw [j0]; exact Nat.le_of_ble_eq_true rfl) q24 q25 q1 (Nat.le_of_ble_eq_true rfl) (Nat.le_of_ble_eq_true rfl) dL_law_0 (fun p H hp0 hW hS => ?_)
  rw [z0] at hW ⊢
  have t15 := ag_new_0 j0
  refine lv_dup hx hb dL_law_3 rfl ?_
  refine ag_aIv (C1 := 41) (S1 := 1508) hx hb hml hT hown hG h0 hS hW (c_X5_init t15 hg4) ⟨rfl, rfl⟩ q26 q27 q1 q28 rfl dd_yX5_init ⟨Nat.le_of_ble_eq_true rfl, Nat.le_of_ble_eq_true rfl⟩ hl.1 rfl (Nat.le_of_ble_eq_true rfl) ⟨Nat.le_of_ble_eq_true rfl, Nat.le_of_ble_eq_true rfl⟩ dL_law_4 (Nat.le_of_ble_eq_true rfl) (Nat.le_of_ble_eq_true rfl) (fun p H locs hp4 hle4 hW hS => ?_)
  rw [← hp4 15 0 t15]
  refine lv_astore_n (lv' := [(1, .ref (p 15 0)), (0, .ref b)]) hx hb dL_law_7 rfl hl (by decide) rfl (fun ls hl => ?_)
  have hW := ag_W_move (k := 5) (Or.inl rfl) hW j5.1 (ag_codes (k := 15) rfl (by decide) j5.2)
  obtain ⟨p5, hp5⟩ : ∃ x, x = ag_rp p 5 := ⟨_, rfl⟩
  have e5 : p 15 0 = p5 5 0 := by rw [hp5]; rfl
  rw [e5] at hl
  rw [← hp5] at hW
  have z8 : nI (ag_rn r4.1 5 16) = 0 := by rw [j8]; rfl
  have t5 : vp_in 0 (ag_rn r4.1 5 5) := by show vp_in 0 (r4.1 15); rw [j5.1]; exact ag_0in (by decide)
  refine n16 hx hb hT hown hG h0 hS hW (by rw [j8]; exact Nat.le_of_ble_eq_true rfl) q782 q783 q11 (Nat.le_of_ble_eq_true rfl) (Nat.le_of_ble_eq_true rfl) dL_law_8 (fun p H hp8 hW hS => ?_)
  rw [z8] at hW ⊢
  have t16 := ag_new_0 j8
  rw [← hp8 5 0 t5] at hl
  have t5b := ag_in_le t5 (ag_le_nn (ag_rn r4.1 5) 16 5)
  refine lv_dup hx hb dL_law_11 rfl ?_
  refine ag_aIv (C1 := 66) (S1 := 2639) hx hb hml hT hown hG h0 hS hW (c_X6_init t16 hg12) ⟨rfl, rfl⟩ q784 q785 q11 q786 rfl dd_yX6_init ⟨Nat.le_of_ble_eq_true rfl, Nat.le_of_ble_eq_true rfl⟩ hl.1 rfl (Nat.le_of_ble_eq_true rfl) ⟨Nat.le_of_ble_eq_true rfl, Nat.le_of_ble_eq_true rfl⟩ dL_law_12 (Nat.le_of_ble_eq_true rfl) (Nat.le_of_ble_eq_true rfl) (fun p H locs hp12 hle12 hW hS => ?_)
  rw [← hp12 16 0 t16]
  rw [← hp12 5 0 t5b] at hl
  have t5c := ag_in_le t5b (hle12 5)
  refine lv_astore_n (lv' := [(2, .ref (p 16 0)), (1, .ref (p 5 0)), (0, .ref b)]) hx hb dL_law_15 rfl hl (by decide) rfl (fun ls hl => ?_)
  have hW := ag_W_move (k := 6) (Or.inr rfl) hW j13.1 (ag_codes (k := 16) rfl (by decide) j13.2)
  obtain ⟨p6, hp6⟩ : ∃ x, x = ag_rp p 6 := ⟨_, rfl⟩
  have e6 : p 16 0 = p6 6 0 := by rw [hp6]; rfl
  have e56 : p 5 0 = p6 5 0 := by rw [hp6]; rfl
  rw [e6, e56] at hl
  rw [← hp6] at hW
  have t6 : vp_in 0 (ag_rn r12.1 6 6) := by show vp_in 0 (r12.1 16); rw [j13.1]; exact ag_0in (by decide)
  have t5d : vp_in 0 (ag_rn r12.1 6 5) := t5c
  refine lv_iconst (v := 1) hx hb dL_law_16 (by decide) ?_
  refine ag_newl (k := 8) (len := 1) hx hb hT hG h0 hS hW j17 rfl rfl (by decide) q1054 (by decide) (by decide) (Nat.le_of_ble_eq_true rfl) (Nat.le_of_ble_eq_true rfl) dL_law_17 (fun p H hp17 hW hS => ?_)
  rw [← hp17 6 0 t6, ← hp17 5 0 t5d] at hl
  refine lv_astore_n (lv' := [(3, .ref (p 8 0)), (2, .ref (p 6 0)), (1, .ref (p 5 0)), (0, .ref b)]) hx hb dL_law_19 rfl hl (by decide) rfl (fun ls hl => ?_)
  refine lv_iconst (v := 0) hx hb dL_law_20 (by decide) ?_
  refine lv_istore (lv' := [(4, .int 0), (3, .ref (p 8 0)), (2, .ref (p 6 0)), (1, .ref (p 5 0)), (0, .ref b)]) hx hb dL_law_21 hl (by decide) rfl (fun ls hl => ?_)
  refine W.widen (k := 80) (n := 3000) (Nat.le_of_ble_eq_true rfl) (Nat.le_of_ble_eq_true rfl) ?_
  exact kk p H locs ls hW hS (ag_0in j18.1) (ag_0in j18.2) (ag_new_0 j17) (lv_sub hl [4, 3, 2, 1, 0] rfl)
