def f_X6_line_b48 (fu : Nat) (x1 : Int32) (x2 : Int32) (y1 : Int32) (s : ag_S) : Option (Int32 × ag_S) := ag_bd (f_X6_goesWell fu y1 s) fun r48 => if r48.1 = 0 then (some (0, r48.2)) else (if r48.2 6 7 0 < 0 ∨ 10 ≤ (r48.2 6 7 0).toNatClampNeg then none else if (ag_up r48.2 38 0 (r48.2 6 7 0) x1) 6 7 0 < 0 ∨ 10 ≤ ((ag_up r48.2 38 0 (r48.2 6 7 0) x1) 6 7 0).toNatClampNeg then none else some (((ag_up (ag_up (ag_up r48.2 38 0 (r48.2 6 7 0) x1) 39 0 ((ag_up r48.2 38 0 (r48.2 6 7 0) x1) 6 7 0) x2) 6 7 0 (((ag_up (ag_up r48.2 38 0 (r48.2 6 7 0) x1) 39 0 ((ag_up r48.2 38 0 (r48.2 6 7 0) x1) 6 7 0) x2) 6 7 0) + 1)) 6 7 0) - 1, (ag_up (ag_up (ag_up r48.2 38 0 (r48.2 6 7 0) x1) 39 0 ((ag_up r48.2 38 0 (r48.2 6 7 0) x1) 6 7 0) x2) 6 7 0 (((ag_up (ag_up r48.2 38 0 (r48.2 6 7 0) x1) 39 0 ((ag_up r48.2 38 0 (r48.2 6 7 0) x1) 6 7 0) x2) 6 7 0) + 1))))
def f_X6_line_b24 (fu : Nat) (x1 : Int32) (x2 : Int32) (y0 : Int32) (s : ag_S) : Option (Int32 × ag_S) := if y0 = 0 then (f_X6_line_b48 fu x1 x2 1 s) else (if s 6 7 0 = 10 then (f_X6_line_b48 fu x1 x2 2 s) else (f_X6_line_b48 fu x1 x2 0 s))
def f_X6_line_b23 (fu : Nat) (x1 : Int32) (x2 : Int32) (s : ag_S) : Option (Int32 × ag_S) := f_X6_line_b24 fu x1 x2 0 s
def f_X6_line (fu : Nat) (x1 : Int32) (x2 : Int32) (s : ag_S) : Option (Int32 × ag_S) := ag_bd (f_X6_in fu x1 0 3 s) fun r3 => if r3 = 0 then (f_X6_line_b23 fu x1 x2 s) else (ag_bd (f_X6_in fu x2 0 100000 s) fun r13 => if r13 = 0 then (f_X6_line_b23 fu x1 x2 s) else (f_X6_line_b24 fu x1 x2 1 s))
abbrev rm_X6_line : Room := { frames := 1, cells := 0, slots := 0, locals := 22 }
theorem dd_yX6_line : yX6_line.cls = RX6 ∧ yX6_line.cls ≠ "java/lang/invoke/MethodHandle" ∧ yX6_line.cls ≠ "java/lang/invoke/VarHandle" ∧ (parseMethodDescriptor yX6_line.desc).map (fun d => d.parameters.length) = some 2 := by decide +kernel
set_option maxHeartbeats 4000000 in
set_option maxRecDepth 100000 in
theorem c_X6_line {z : ag_Z} {l : Launch} {n : ag_N} {p : ag_P} {s : ag_S} {fu : Nat} {x1 : Int32} {x2 : Int32} {out : Int32 × ag_S} (t6 : vp_in 0 (n 6)) (hf : f_X6_line fu x1 x2 s = some out) : Met l yX6_line (ag_ws yX6_line cX6_line 4 ((some FieldType.int))) rm_X6_line (va_Pc [.ref (p 6 0), .int x1, .int x2] (ag_Pre z n p s)) (ag_Ri z n p out.1 out.2) 0 0 (ag_A z) := by
  refine Met.ofW (cc := cX6_line) (maxL := 4) (ret := (some FieldType.int)) (by decide) rfl ?_
  intro p0 e st m args below meth c s9 B hml hv
  obtain ⟨ha, h0, hG, hW⟩ := hv
  have hx := B.exec
  have hb := B.bytes
  have hr := B.returns
  have hts := atoms_spec (ws := ag_ws yX6_line cX6_line 4 ((some FieldType.int))) B.pre
  have hT : ∀ w ∈ ag_tbl, w.before args st = true := fun w h => hts w (List.mem_cons_of_mem _ h)
  have hown : st.vm.findClass RX6 = some m.cls := findClass_of_methodNamed B.named
  have hlocks := B.notSynchronized
  have hS : va_S (ag_A z) st.heap st.heap [] := va_S.rf
  obtain ⟨ls, hls, hl⟩ : ∃ ls, entryFrame m args 4 = F0 m 0 ls [] ∧ lv_has ls 4 [(0, .ref (p 6 0)), (1, .int x1), (2, .int x2)] := by rw [ha]; exact ag_entry m [.ref (p 6 0), .int x1, .int x2] (Nat.le_of_ble_eq_true rfl)
  rw [hls]
  have k48 : ∀ (x1 : Int32) (x2 : Int32) (y1 : Int32) (s : ag_S) (H : Heap) (locs : List Loc) (ls : Array Slot), ag_W z n p s H → va_S (ag_A z) st.heap H locs → lv_has ls 4 [(0, .ref (p 6 0)), (1, .int x1), (2, .int x2)] → f_X6_line_b48 fu x1 x2 y1 s = some out → W p0 l e (headSpec (ag_ws yX6_line cX6_line 4 ((some FieldType.int))) rm_X6_line).room st m args below meth c H locs 0 0 (MQ below (ag_Ri z n p out.1 out.2) args st 0 0 (ag_A z)) (F0 m 48 ls [.int y1, .ref (p 6 0)]) := by
    intro x1 x2 y1 s H locs ls hW hS hl hf
    unfold f_X6_line_b48 at hf
    obtain ⟨r48, hg48, hf⟩ := ag_bs hf
    refine ag_cVi hx hb hml hT hown hG h0 hS hW (c_X6_goesWell t6 hg48) ⟨rfl, rfl⟩ q896 q898 qs27 q11 q899 dd_yX6_goesWell ⟨Nat.le_of_ble_eq_true rfl, Nat.le_of_ble_eq_true rfl⟩ t6 rfl rfl hl.1 rfl (Nat.le_of_ble_eq_true rfl) ⟨Nat.le_of_ble_eq_true rfl, Nat.le_of_ble_eq_true rfl⟩ dX6_line_48 (fun H locs hW hS => ?_)
    refine lv_if_ne (tgt := 56) hx hb dX6_line_51 (by decide) (fun c51 => ?_) (fun c51 => ?_)
    · have hf := ag_f c51 hf
      refine lv_aload_n hx hb dX6_line_56 rfl (lv_at hl 0 rfl) ?_
      refine g6_8 hx hb hT hown hG hW t6 q796 dX6_line_57 ?_
      have t38 := ag_fix hW (k := 6) (f := 8) (t := 38) t6 rfl rfl
      refine lv_aload_n hx hb dX6_line_60 rfl (lv_at hl 0 rfl) ?_
      refine g6_7 hx hb hT hown hG hW t6 q795 dX6_line_61 ?_
      refine lv_iload_n hx hb dX6_line_64 rfl (lv_at hl 1 rfl) ?_
      obtain ⟨a65, hf⟩ := ag_n hf
      refine ag_iast hx hb hG hW hS t38 rfl rfl (by decide) a65 dX6_line_65 (fun H locs hW hS => ?_)
      refine lv_aload_n hx hb dX6_line_66 rfl (lv_at hl 0 rfl) ?_
      refine g6_9 hx hb hT hown hG hW t6 q797 dX6_line_67 ?_
      have t39 := ag_fix hW (k := 6) (f := 9) (t := 39) t6 rfl rfl
      refine lv_aload_n hx hb dX6_line_70 rfl (lv_at hl 0 rfl) ?_
      refine g6_7 hx hb hT hown hG hW t6 q795 dX6_line_71 ?_
      refine lv_iload_n hx hb dX6_line_74 rfl (lv_at hl 2 rfl) ?_
      obtain ⟨a75, hf⟩ := ag_n hf
      refine ag_iast hx hb hG hW hS t39 rfl rfl (by decide) a75 dX6_line_75 (fun H locs hW hS => ?_)
      refine lv_aload_n hx hb dX6_line_76 rfl (lv_at hl 0 rfl) ?_
      refine lv_dup hx hb dX6_line_77 rfl ?_
      refine g6_7 hx hb hT hown hG hW t6 q795 dX6_line_78 ?_
      refine lv_iconst (v := 1) hx hb dX6_line_81 (by decide) ?_
      refine lv_iadd hx hb dX6_line_82 ?_
      refine u6_7 hx hb hT hown hG hW hS t6 q795 dX6_line_83 (fun H locs hW hS => ?_)
      refine lv_aload_n hx hb dX6_line_86 rfl (lv_at hl 0 rfl) ?_
      refine g6_7 hx hb hT hown hG hW t6 q795 dX6_line_87 ?_
      refine lv_iconst (v := 1) hx hb dX6_line_90 (by decide) ?_
      refine lv_isub hx hb dX6_line_91 ?_
      exact ag_iret hx hb hr rfl hlocks hS (congrArg Prod.fst (Option.some.inj hf)) (congrArg Prod.snd (Option.some.inj hf) ▸ hW) dX6_line_92
    · have hf := ag_t c51 hf
      refine lv_iconst (v := 0) hx hb dX6_line_54 (by decide) ?_
      exact ag_iret hx hb hr rfl hlocks hS (congrArg Prod.fst (Option.some.inj hf)) (congrArg Prod.snd (Option.some.inj hf) ▸ hW) dX6_line_55
  have k24 : ∀ (x1 : Int32) (x2 : Int32) (y0 : Int32) (s : ag_S) (H : Heap) (locs : List Loc) (ls : Array Slot) (by0 : y0 = 0 ∨ y0 = 1), ag_W z n p s H → va_S (ag_A z) st.heap H locs → lv_has ls 4 [(0, .ref (p 6 0)), (1, .int x1), (2, .int x2)] → f_X6_line_b24 fu x1 x2 y0 s = some out → W p0 l e (headSpec (ag_ws yX6_line cX6_line 4 ((some FieldType.int))) rm_X6_line).room st m args below meth c H locs 0 0 (MQ below (ag_Ri z n p out.1 out.2) args st 0 0 (ag_A z)) (F0 m 24 ls [.int y0]) := by
    intro x1 x2 y0 s H locs ls by0 hW hS hl hf
    unfold f_X6_line_b24 at hf
    refine lv_istore_n (lv' := [(3, .int y0), (0, .ref (p 6 0)), (1, .int x1), (2, .int x2)]) hx hb dX6_line_24 rfl hl (by decide) rfl (fun ls hl => ?_)
    refine lv_aload_n hx hb dX6_line_25 rfl (lv_at hl 1 rfl) ?_
    refine lv_iload_n hx hb dX6_line_26 rfl (lv_at hl 0 rfl) ?_
    refine lv_if_ne (tgt := 34) hx hb dX6_line_27 (by decide) (fun c27 => ?_) (fun c27 => ?_)
    · have hf := ag_f c27 hf
      refine lv_aload_n hx hb dX6_line_34 rfl (lv_at hl 1 rfl) ?_
      refine g6_7 hx hb hT hown hG hW t6 q795 dX6_line_35 ?_
      refine lv_bipush (v := 10) hx hb dX6_line_38 (by decide) ?_
      refine lv_icmp_ne (tgt := 47) hx hb dX6_line_40 (by decide) (fun c40 => ?_) (fun c40 => ?_)
      · have hf := ag_f c40 hf
        refine lv_iconst (v := 0) hx hb dX6_line_47 (by decide) ?_
        exact k48 _ _ _ _ _ _ _ hW hS (lv_sub hl [1, 2, 3] rfl) hf
      · have hf := ag_t c40 hf
        refine lv_iconst (v := 2) hx hb dX6_line_43 (by decide) ?_
        refine lv_goto (tgt := 48) hx hb dX6_line_44 (by decide) ?_
        exact k48 _ _ _ _ _ _ _ hW hS (lv_sub hl [1, 2, 3] rfl) hf
    · have hf := ag_t c27 hf
      refine lv_iconst (v := 1) hx hb dX6_line_30 (by decide) ?_
      refine lv_goto (tgt := 48) hx hb dX6_line_31 (by decide) ?_
      exact k48 _ _ _ _ _ _ _ hW hS (lv_sub hl [1, 2, 3] rfl) hf
  have k23 : ∀ (x1 : Int32) (x2 : Int32) (s : ag_S) (H : Heap) (locs : List Loc) (ls : Array Slot), ag_W z n p s H → va_S (ag_A z) st.heap H locs → lv_has ls 4 [(0, .ref (p 6 0)), (1, .int x1), (2, .int x2)] → f_X6_line_b23 fu x1 x2 s = some out → W p0 l e (headSpec (ag_ws yX6_line cX6_line 4 ((some FieldType.int))) rm_X6_line).room st m args below meth c H locs 0 0 (MQ below (ag_Ri z n p out.1 out.2) args st 0 0 (ag_A z)) (F0 m 23 ls []) := by
    intro x1 x2 s H locs ls hW hS hl hf
    unfold f_X6_line_b23 at hf
    refine lv_iconst (v := 0) hx hb dX6_line_23 (by decide) ?_
    exact k24 _ _ _ _ _ _ _ (Or.inl rfl) hW hS (lv_sub hl [0, 1, 2] rfl) hf
  unfold f_X6_line at hf
  refine lv_iload_n hx hb dX6_line_0 rfl (lv_at hl 1 rfl) ?_
  refine lv_iconst (v := 0) hx hb dX6_line_1 (by decide) ?_
  refine lv_iconst (v := 3) hx hb dX6_line_2 (by decide) ?_
  obtain ⟨r3, hg3, hf⟩ := ag_bs hf
  refine ag_cSi hx hb hml hT hown hG h0 hS hW (c_X6_in hg3) ⟨rfl, rfl⟩ q892 q893 q11 q894 dd_yX6_in ⟨Nat.le_of_ble_eq_true rfl, Nat.le_of_ble_eq_true rfl⟩ hl.1 rfl (Nat.le_of_ble_eq_true rfl) ⟨Nat.le_of_ble_eq_true rfl, Nat.le_of_ble_eq_true rfl⟩ dX6_line_3 (fun H locs hW hS => ?_)
  refine lv_if_eq (tgt := 23) hx hb dX6_line_6 (by decide) (fun c6 => ?_) (fun c6 => ?_)
  · have hf := ag_t c6 hf
    exact k23 _ _ _ _ _ _ hW hS (lv_sub hl [0, 1, 2] rfl) hf
  · have hf := ag_f c6 hf
    refine lv_iload_n hx hb dX6_line_9 rfl (lv_at hl 2 rfl) ?_
    refine lv_iconst (v := 0) hx hb dX6_line_10 (by decide) ?_
    refine lv_ldc (v := 100000) hx hb hown (hT _ q895) dX6_line_11 ?_
    obtain ⟨r13, hg13, hf⟩ := ag_bs hf
    refine ag_cSi hx hb hml hT hown hG h0 hS hW (c_X6_in hg13) ⟨rfl, rfl⟩ q892 q893 q11 q894 dd_yX6_in ⟨Nat.le_of_ble_eq_true rfl, Nat.le_of_ble_eq_true rfl⟩ hl.1 rfl (Nat.le_of_ble_eq_true rfl) ⟨Nat.le_of_ble_eq_true rfl, Nat.le_of_ble_eq_true rfl⟩ dX6_line_13 (fun H locs hW hS => ?_)
    refine lv_if_eq (tgt := 23) hx hb dX6_line_16 (by decide) (fun c16 => ?_) (fun c16 => ?_)
    · have hf := ag_t c16 hf
      exact k23 _ _ _ _ _ _ hW hS (lv_sub hl [0, 1, 2] rfl) hf
    · have hf := ag_f c16 hf
      refine lv_iconst (v := 1) hx hb dX6_line_19 (by decide) ?_
      refine lv_goto (tgt := 24) hx hb dX6_line_20 (by decide) ?_
      exact k24 _ _ _ _ _ _ _ (Or.inr rfl) hW hS (lv_sub hl [0, 1, 2] rfl) hf
def f_X6_income_b25 (fu : Nat) (x1 : Int32) (x2 : Int32) (y1 : Int32) (s : ag_S) : Option (Int32 × ag_S) := ag_bd (f_X6_goesWell fu y1 s) fun r25 => if r25.1 = 0 then (some (0, r25.2)) else (if x1 < 0 ∨ 4 ≤ x1.toNatClampNeg then none else if x1 < 0 ∨ 4 ≤ x1.toNatClampNeg then none else if x1 < 0 ∨ 4 ≤ x1.toNatClampNeg then none else some ((ag_up r25.2 34 0 x1 ((r25.2 34 0 x1) + x2)) 34 0 x1, (ag_up r25.2 34 0 x1 ((r25.2 34 0 x1) + x2))))
def f_X6_income_b24 (fu : Nat) (x1 : Int32) (x2 : Int32) (s : ag_S) : Option (Int32 × ag_S) := f_X6_income_b25 fu x1 x2 1 s
def f_X6_income (fu : Nat) (x1 : Int32) (x2 : Int32) (s : ag_S) : Option (Int32 × ag_S) := ag_bd (f_X6_in fu x1 0 3 s) fun r4 => if r4 = 0 then (f_X6_income_b24 fu x1 x2 s) else (ag_bd (f_X6_in fu x2 1 100000 s) fun r14 => if r14 = 0 then (f_X6_income_b24 fu x1 x2 s) else (f_X6_income_b25 fu x1 x2 0 s))
abbrev rm_X6_income : Room := { frames := 1, cells := 0, slots := 0, locals := 22 }
theorem dd_yX6_income : yX6_income.cls = RX6 ∧ yX6_income.cls ≠ "java/lang/invoke/MethodHandle" ∧ yX6_income.cls ≠ "java/lang/invoke/VarHandle" ∧ (parseMethodDescriptor yX6_income.desc).map (fun d => d.parameters.length) = some 2 := by decide +kernel
set_option maxHeartbeats 4000000 in
set_option maxRecDepth 100000 in
theorem c_X6_income {z : ag_Z} {l : Launch} {n : ag_N} {p : ag_P} {s : ag_S} {fu : Nat} {x1 : Int32} {x2 : Int32} {out : Int32 × ag_S} (t6 : vp_in 0 (n 6)) (hf : f_X6_income fu x1 x2 s = some out) : Met l yX6_income (ag_ws yX6_income cX6_income 3 ((some FieldType.int))) rm_X6_income (va_Pc [.ref (p 6 0), .int x1, .int x2] (ag_Pre z n p s)) (ag_Ri z n p out.1 out.2) 0 0 (ag_A z) := by
  refine Met.ofW (cc := cX6_income) (maxL := 3) (ret := (some FieldType.int)) (by decide) rfl ?_
  intro p0 e st m args below meth c s9 B hml hv
  obtain ⟨ha, h0, hG, hW⟩ := hv
  have hx := B.exec
  have hb := B.bytes
  have hr := B.returns
  have hts := atoms_spec (ws := ag_ws yX6_income cX6_income 3 ((some FieldType.int))) B.pre
  have hT : ∀ w ∈ ag_tbl, w.before args st = true := fun w h => hts w (List.mem_cons_of_mem _ h)
  have hown : st.vm.findClass RX6 = some m.cls := findClass_of_methodNamed B.named
  have hlocks := B.notSynchronized
  have hS : va_S (ag_A z) st.heap st.heap [] := va_S.rf
  obtain ⟨ls, hls, hl⟩ : ∃ ls, entryFrame m args 3 = F0 m 0 ls [] ∧ lv_has ls 3 [(0, .ref (p 6 0)), (1, .int x1), (2, .int x2)] := by rw [ha]; exact ag_entry m [.ref (p 6 0), .int x1, .int x2] (Nat.le_of_ble_eq_true rfl)
  rw [hls]
  have k25 : ∀ (x1 : Int32) (x2 : Int32) (y1 : Int32) (s : ag_S) (H : Heap) (locs : List Loc) (ls : Array Slot) (by1 : y1 = 0 ∨ y1 = 1), ag_W z n p s H → va_S (ag_A z) st.heap H locs → lv_has ls 3 [(0, .ref (p 6 0)), (1, .int x1), (2, .int x2)] → f_X6_income_b25 fu x1 x2 y1 s = some out → W p0 l e (headSpec (ag_ws yX6_income cX6_income 3 ((some FieldType.int))) rm_X6_income).room st m args below meth c H locs 0 0 (MQ below (ag_Ri z n p out.1 out.2) args st 0 0 (ag_A z)) (F0 m 25 ls [.int y1, .ref (p 6 0)]) := by
    intro x1 x2 y1 s H locs ls by1 hW hS hl hf
    unfold f_X6_income_b25 at hf
    obtain ⟨r25, hg25, hf⟩ := ag_bs hf
    refine ag_cVi hx hb hml hT hown hG h0 hS hW (c_X6_goesWell t6 hg25) ⟨rfl, rfl⟩ q896 q898 qs27 q11 q899 dd_yX6_goesWell ⟨Nat.le_of_ble_eq_true rfl, Nat.le_of_ble_eq_true rfl⟩ t6 rfl rfl hl.1 rfl (Nat.le_of_ble_eq_true rfl) ⟨Nat.le_of_ble_eq_true rfl, Nat.le_of_ble_eq_true rfl⟩ dX6_income_25 (fun H locs hW hS => ?_)
    refine lv_if_ne (tgt := 33) hx hb dX6_income_28 (by decide) (fun c28 => ?_) (fun c28 => ?_)
    · have hf := ag_f c28 hf
      refine lv_aload_n hx hb dX6_income_33 rfl (lv_at hl 0 rfl) ?_
      refine g6_4 hx hb hT hown hG hW t6 q792 dX6_income_34 ?_
      have t34 := ag_fix hW (k := 6) (f := 4) (t := 34) t6 rfl rfl
      refine lv_iload_n hx hb dX6_income_37 rfl (lv_at hl 1 rfl) ?_
      refine lv_dup2_11 hx hb dX6_income_38 rfl rfl ?_
      obtain ⟨a39, hf⟩ := ag_n hf
      refine ag_iald hx hb hG hW t34 rfl rfl a39 dX6_income_39 ?_
      refine lv_iload_n hx hb dX6_income_40 rfl (lv_at hl 2 rfl) ?_
      refine lv_iadd hx hb dX6_income_41 ?_
      obtain ⟨a42, hf⟩ := ag_n hf
      refine ag_iast hx hb hG hW hS t34 rfl rfl (by decide) a42 dX6_income_42 (fun H locs hW hS => ?_)
      refine lv_aload_n hx hb dX6_income_43 rfl (lv_at hl 0 rfl) ?_
      refine g6_4 hx hb hT hown hG hW t6 q792 dX6_income_44 ?_
      have t34 := ag_fix hW (k := 6) (f := 4) (t := 34) t6 rfl rfl
      refine lv_iload_n hx hb dX6_income_47 rfl (lv_at hl 1 rfl) ?_
      obtain ⟨a48, hf⟩ := ag_n hf
      refine ag_iald hx hb hG hW t34 rfl rfl a48 dX6_income_48 ?_
      exact ag_iret hx hb hr rfl hlocks hS (congrArg Prod.fst (Option.some.inj hf)) (congrArg Prod.snd (Option.some.inj hf) ▸ hW) dX6_income_49
    · have hf := ag_t c28 hf
      refine lv_iconst (v := 0) hx hb dX6_income_31 (by decide) ?_
      exact ag_iret hx hb hr rfl hlocks hS (congrArg Prod.fst (Option.some.inj hf)) (congrArg Prod.snd (Option.some.inj hf) ▸ hW) dX6_income_32
  have k24 : ∀ (x1 : Int32) (x2 : Int32) (s : ag_S) (H : Heap) (locs : List Loc) (ls : Array Slot), ag_W z n p s H → va_S (ag_A z) st.heap H locs → lv_has ls 3 [(0, .ref (p 6 0)), (1, .int x1), (2, .int x2)] → f_X6_income_b24 fu x1 x2 s = some out → W p0 l e (headSpec (ag_ws yX6_income cX6_income 3 ((some FieldType.int))) rm_X6_income).room st m args below meth c H locs 0 0 (MQ below (ag_Ri z n p out.1 out.2) args st 0 0 (ag_A z)) (F0 m 24 ls [.ref (p 6 0)]) := by
    intro x1 x2 s H locs ls hW hS hl hf
    unfold f_X6_income_b24 at hf
    refine lv_iconst (v := 1) hx hb dX6_income_24 (by decide) ?_
    exact k25 _ _ _ _ _ _ _ (Or.inr rfl) hW hS (lv_sub hl [0, 1, 2] rfl) hf
  unfold f_X6_income at hf
  refine lv_aload_n hx hb dX6_income_0 rfl (lv_at hl 0 rfl) ?_
  refine lv_iload_n hx hb dX6_income_1 rfl (lv_at hl 1 rfl) ?_
  refine lv_iconst (v := 0) hx hb dX6_income_2 (by decide) ?_
  refine lv_iconst (v := 3) hx hb dX6_income_3 (by decide) ?_
  obtain ⟨r4, hg4, hf⟩ := ag_bs hf
  refine ag_cSi hx hb hml hT hown hG h0 hS hW (c_X6_in hg4) ⟨rfl, rfl⟩ q892 q893 q11 q894 dd_yX6_in ⟨Nat.le_of_ble_eq_true rfl, Nat.le_of_ble_eq_true rfl⟩ hl.1 rfl (Nat.le_of_ble_eq_true rfl) ⟨Nat.le_of_ble_eq_true rfl, Nat.le_of_ble_eq_true rfl⟩ dX6_income_4 (fun H locs hW hS => ?_)
  refine lv_if_eq (tgt := 24) hx hb dX6_income_7 (by decide) (fun c7 => ?_) (fun c7 => ?_)
  · have hf := ag_t c7 hf
    exact k24 _ _ _ _ _ _ hW hS (lv_sub hl [0, 1, 2] rfl) hf
  · have hf := ag_f c7 hf
    refine lv_iload_n hx hb dX6_income_10 rfl (lv_at hl 2 rfl) ?_
    refine lv_iconst (v := 1) hx hb dX6_income_11 (by decide) ?_
    refine lv_ldc (v := 100000) hx hb hown (hT _ q895) dX6_income_12 ?_
    obtain ⟨r14, hg14, hf⟩ := ag_bs hf
    refine ag_cSi hx hb hml hT hown hG h0 hS hW (c_X6_in hg14) ⟨rfl, rfl⟩ q892 q893 q11 q894 dd_yX6_in ⟨Nat.le_of_ble_eq_true rfl, Nat.le_of_ble_eq_true rfl⟩ hl.1 rfl (Nat.le_of_ble_eq_true rfl) ⟨Nat.le_of_ble_eq_true rfl, Nat.le_of_ble_eq_true rfl⟩ dX6_income_14 (fun H locs hW hS => ?_)
    refine lv_if_eq (tgt := 24) hx hb dX6_income_17 (by decide) (fun c17 => ?_) (fun c17 => ?_)
    · have hf := ag_t c17 hf
      exact k24 _ _ _ _ _ _ hW hS (lv_sub hl [0, 1, 2] rfl) hf
    · have hf := ag_f c17 hf
      refine lv_iconst (v := 0) hx hb dX6_income_20 (by decide) ?_
      refine lv_goto (tgt := 25) hx hb dX6_income_21 (by decide) ?_
      exact k25 _ _ _ _ _ _ _ (Or.inl rfl) hW hS (lv_sub hl [0, 1, 2] rfl) hf
def f_X6_amend (fu : Nat) (x1 : Int32) (x2 : Int32) (s : ag_S) : Option (Int32 × ag_S) := ag_bd (f_X6_isLine fu x1 s) fun r2 => if r2 = 0 then (ag_bd (f_X6_goesWell fu 1 s) fun r40 => if r40.1 = 0 then (some (0, r40.2)) else (ag_bd (f_X6_make fu ((-1)) x1 x2 r40.2) fun r52 => some (r52.1, r52.2))) else (ag_bd (f_X6_isMore fu x2 s) fun r16 => if r16 = 0 then (ag_bd (f_X6_goesWell fu 2 s) fun r40 => if r40.1 = 0 then (some (0, r40.2)) else (ag_bd (f_X6_make fu ((-1)) x1 x2 r40.2) fun r52 => some (r52.1, r52.2))) else (if s 6 13 0 = 40 then (ag_bd (f_X6_goesWell fu 3 s) fun r40 => if r40.1 = 0 then (some (0, r40.2)) else (ag_bd (f_X6_make fu ((-1)) x1 x2 r40.2) fun r52 => some (r52.1, r52.2))) else (ag_bd (f_X6_goesWell fu 0 s) fun r40 => if r40.1 = 0 then (some (0, r40.2)) else (ag_bd (f_X6_make fu ((-1)) x1 x2 r40.2) fun r52 => some (r52.1, r52.2)))))
abbrev rm_X6_amend : Room := { frames := 2, cells := 0, slots := 0, locals := 43 }
theorem dd_yX6_amend : yX6_amend.cls = RX6 ∧ yX6_amend.cls ≠ "java/lang/invoke/MethodHandle" ∧ yX6_amend.cls ≠ "java/lang/invoke/VarHandle" ∧ (parseMethodDescriptor yX6_amend.desc).map (fun d => d.parameters.length) = some 2 := by decide +kernel
set_option maxHeartbeats 4000000 in
set_option maxRecDepth 100000 in
theorem c_X6_amend {z : ag_Z} {l : Launch} {n : ag_N} {p : ag_P} {s : ag_S} {fu : Nat} {x1 : Int32} {x2 : Int32} {out : Int32 × ag_S} (t6 : vp_in 0 (n 6)) (hf : f_X6_amend fu x1 x2 s = some out) : Met l yX6_amend (ag_ws yX6_amend cX6_amend 4 ((some FieldType.int))) rm_X6_amend (va_Pc [.ref (p 6 0), .int x1, .int x2] (ag_Pre z n p s)) (ag_Ri z n p out.1 out.2) 0 0 (ag_A z) := by
  refine Met.ofW (cc := cX6_amend) (maxL := 4) (ret := (some FieldType.int)) (by decide) rfl ?_
  intro p0 e st m args below meth c s9 B hml hv
  obtain ⟨ha, h0, hG, hW⟩ := hv
  have hx := B.exec
  have hb := B.bytes
  have hr := B.returns
  have hts := atoms_spec (ws := ag_ws yX6_amend cX6_amend 4 ((some FieldType.int))) B.pre
  have hT : ∀ w ∈ ag_tbl, w.before args st = true := fun w h => hts w (List.mem_cons_of_mem _ h)
  have hown : st.vm.findClass RX6 = some m.cls := findClass_of_methodNamed B.named
  have hlocks := B.notSynchronized
  have hS : va_S (ag_A z) st.heap st.heap [] := va_S.rf
  obtain ⟨ls, hls, hl⟩ : ∃ ls, entryFrame m args 4 = F0 m 0 ls [] ∧ lv_has ls 4 [(0, .ref (p 6 0)), (1, .int x1), (2, .int x2)] := by rw [ha]; exact ag_entry m [.ref (p 6 0), .int x1, .int x2] (Nat.le_of_ble_eq_true rfl)
  rw [hls]
  unfold f_X6_amend at hf
  refine lv_aload_n hx hb dX6_amend_0 rfl (lv_at hl 0 rfl) ?_
  refine lv_iload_n hx hb dX6_amend_1 rfl (lv_at hl 1 rfl) ?_
  obtain ⟨r2, hg2, hf⟩ := ag_bs hf
  refine ag_cVi hx hb hml hT hown hG h0 hS hW (c_X6_isLine t6 hg2) ⟨rfl, rfl⟩ q908 q910 qs28 q11 q911 dd_yX6_isLine ⟨Nat.le_of_ble_eq_true rfl, Nat.le_of_ble_eq_true rfl⟩ t6 rfl rfl hl.1 rfl (Nat.le_of_ble_eq_true rfl) ⟨Nat.le_of_ble_eq_true rfl, Nat.le_of_ble_eq_true rfl⟩ dX6_amend_2 (fun H locs hW hS => ?_)
  refine lv_istore_n (lv' := [(3, .int r2), (0, .ref (p 6 0)), (1, .int x1), (2, .int x2)]) hx hb dX6_amend_5 rfl hl (by decide) rfl (fun ls hl => ?_)
  refine lv_aload_n hx hb dX6_amend_6 rfl (lv_at hl 1 rfl) ?_
  refine lv_iload_n hx hb dX6_amend_7 rfl (lv_at hl 0 rfl) ?_
  refine lv_if_ne (tgt := 15) hx hb dX6_amend_8 (by decide) (fun c8 => ?_) (fun c8 => ?_)
  · have hf := ag_f c8 hf
    refine lv_iload_n hx hb dX6_amend_15 rfl (lv_at hl 3 rfl) ?_
    obtain ⟨r16, hg16, hf⟩ := ag_bs hf
    refine ag_cSi hx hb hml hT hown hG h0 hS hW (c_X6_isMore hg16) ⟨rfl, rfl⟩ q912 q913 q11 q914 dd_yX6_isMore ⟨Nat.le_of_ble_eq_true rfl, Nat.le_of_ble_eq_true rfl⟩ hl.1 rfl (Nat.le_of_ble_eq_true rfl) ⟨Nat.le_of_ble_eq_true rfl, Nat.le_of_ble_eq_true rfl⟩ dX6_amend_16 (fun H locs hW hS => ?_)
    refine lv_if_ne (tgt := 26) hx hb dX6_amend_19 (by decide) (fun c19 => ?_) (fun c19 => ?_)
    · have hf := ag_f c19 hf
      refine lv_aload_n hx hb dX6_amend_26 rfl (lv_at hl 1 rfl) ?_
      refine g6_13 hx hb hT hown hG hW t6 q801 dX6_amend_27 ?_
      refine lv_bipush (v := 40) hx hb dX6_amend_30 (by decide) ?_
      refine lv_icmp_ne (tgt := 39) hx hb dX6_amend_32 (by decide) (fun c32 => ?_) (fun c32 => ?_)
      · have hf := ag_f c32 hf
        refine lv_iconst (v := 0) hx hb dX6_amend_39 (by decide) ?_
        obtain ⟨r40, hg40, hf⟩ := ag_bs hf
        refine ag_cVi hx hb hml hT hown hG h0 hS hW (c_X6_goesWell t6 hg40) ⟨rfl, rfl⟩ q896 q898 qs27 q11 q899 dd_yX6_goesWell ⟨Nat.le_of_ble_eq_true rfl, Nat.le_of_ble_eq_true rfl⟩ t6 rfl rfl hl.1 rfl (Nat.le_of_ble_eq_true rfl) ⟨Nat.le_of_ble_eq_true rfl, Nat.le_of_ble_eq_true rfl⟩ dX6_amend_40 (fun H locs hW hS => ?_)
        refine lv_if_ne (tgt := 48) hx hb dX6_amend_43 (by decide) (fun c43 => ?_) (fun c43 => ?_)
        · have hf := ag_f c43 hf
          refine lv_aload_n hx hb dX6_amend_48 rfl (lv_at hl 1 rfl) ?_
          refine lv_iconst (v := (-1)) hx hb dX6_amend_49 (by decide) ?_
          refine lv_iload_n hx hb dX6_amend_50 rfl (lv_at hl 2 rfl) ?_
          refine lv_iload_n hx hb dX6_amend_51 rfl (lv_at hl 3 rfl) ?_
          obtain ⟨r52, hg52, hf⟩ := ag_bs hf
          refine ag_cVi hx hb hml hT hown hG h0 hS hW (c_X6_make t6 hg52) ⟨rfl, rfl⟩ q917 q919 qs29 q11 q920 dd_yX6_make ⟨Nat.le_of_ble_eq_true rfl, Nat.le_of_ble_eq_true rfl⟩ t6 rfl rfl hl.1 rfl (Nat.le_of_ble_eq_true rfl) ⟨Nat.le_of_ble_eq_true rfl, Nat.le_of_ble_eq_true rfl⟩ dX6_amend_52 (fun H locs hW hS => ?_)
          exact ag_iret hx hb hr rfl hlocks hS (congrArg Prod.fst (Option.some.inj hf)) (congrArg Prod.snd (Option.some.inj hf) ▸ hW) dX6_amend_55
        · have hf := ag_t c43 hf
          refine lv_iconst (v := 0) hx hb dX6_amend_46 (by decide) ?_
          exact ag_iret hx hb hr rfl hlocks hS (congrArg Prod.fst (Option.some.inj hf)) (congrArg Prod.snd (Option.some.inj hf) ▸ hW) dX6_amend_47
      · have hf := ag_t c32 hf
        refine lv_iconst (v := 3) hx hb dX6_amend_35 (by decide) ?_
        refine lv_goto (tgt := 40) hx hb dX6_amend_36 (by decide) ?_
        obtain ⟨r40, hg40, hf⟩ := ag_bs hf
        refine ag_cVi hx hb hml hT hown hG h0 hS hW (c_X6_goesWell t6 hg40) ⟨rfl, rfl⟩ q896 q898 qs27 q11 q899 dd_yX6_goesWell ⟨Nat.le_of_ble_eq_true rfl, Nat.le_of_ble_eq_true rfl⟩ t6 rfl rfl hl.1 rfl (Nat.le_of_ble_eq_true rfl) ⟨Nat.le_of_ble_eq_true rfl, Nat.le_of_ble_eq_true rfl⟩ dX6_amend_40 (fun H locs hW hS => ?_)
        refine lv_if_ne (tgt := 48) hx hb dX6_amend_43 (by decide) (fun c43 => ?_) (fun c43 => ?_)
        · have hf := ag_f c43 hf
          refine lv_aload_n hx hb dX6_amend_48 rfl (lv_at hl 1 rfl) ?_
          refine lv_iconst (v := (-1)) hx hb dX6_amend_49 (by decide) ?_
          refine lv_iload_n hx hb dX6_amend_50 rfl (lv_at hl 2 rfl) ?_
          refine lv_iload_n hx hb dX6_amend_51 rfl (lv_at hl 3 rfl) ?_
          obtain ⟨r52, hg52, hf⟩ := ag_bs hf
          refine ag_cVi hx hb hml hT hown hG h0 hS hW (c_X6_make t6 hg52) ⟨rfl, rfl⟩ q917 q919 qs29 q11 q920 dd_yX6_make ⟨Nat.le_of_ble_eq_true rfl, Nat.le_of_ble_eq_true rfl⟩ t6 rfl rfl hl.1 rfl (Nat.le_of_ble_eq_true rfl) ⟨Nat.le_of_ble_eq_true rfl, Nat.le_of_ble_eq_true rfl⟩ dX6_amend_52 (fun H locs hW hS => ?_)
          exact ag_iret hx hb hr rfl hlocks hS (congrArg Prod.fst (Option.some.inj hf)) (congrArg Prod.snd (Option.some.inj hf) ▸ hW) dX6_amend_55
        · have hf := ag_t c43 hf
          refine lv_iconst (v := 0) hx hb dX6_amend_46 (by decide) ?_
          exact ag_iret hx hb hr rfl hlocks hS (congrArg Prod.fst (Option.some.inj hf)) (congrArg Prod.snd (Option.some.inj hf) ▸ hW) dX6_amend_47
    · have hf := ag_t c19 hf
      refine lv_iconst (v := 2) hx hb dX6_amend_22 (by decide) ?_
      refine lv_goto (tgt := 40) hx hb dX6_amend_23 (by decide) ?_
      obtain ⟨r40, hg40, hf⟩ := ag_bs hf
      refine ag_cVi hx hb hml hT hown hG h0 hS hW (c_X6_goesWell t6 hg40) ⟨rfl, rfl⟩ q896 q898 qs27 q11 q899 dd_yX6_goesWell ⟨Nat.le_of_ble_eq_true rfl, Nat.le_of_ble_eq_true rfl⟩ t6 rfl rfl hl.1 rfl (Nat.le_of_ble_eq_true rfl) ⟨Nat.le_of_ble_eq_true rfl, Nat.le_of_ble_eq_true rfl⟩ dX6_amend_40 (fun H locs hW hS => ?_)
      refine lv_if_ne (tgt := 48) hx hb dX6_amend_43 (by decide) (fun c43 => ?_) (fun c43 => ?_)
      · have hf := ag_f c43 hf
        refine lv_aload_n hx hb dX6_amend_48 rfl (lv_at hl 1 rfl) ?_
        refine lv_iconst (v := (-1)) hx hb dX6_amend_49 (by decide) ?_
        refine lv_iload_n hx hb dX6_amend_50 rfl (lv_at hl 2 rfl) ?_
        refine lv_iload_n hx hb dX6_amend_51 rfl (lv_at hl 3 rfl) ?_
        obtain ⟨r52, hg52, hf⟩ := ag_bs hf
        refine ag_cVi hx hb hml hT hown hG h0 hS hW (c_X6_make t6 hg52) ⟨rfl, rfl⟩ q917 q919 qs29 q11 q920 dd_yX6_make ⟨Nat.le_of_ble_eq_true rfl, Nat.le_of_ble_eq_true rfl⟩ t6 rfl rfl hl.1 rfl (Nat.le_of_ble_eq_true rfl) ⟨Nat.le_of_ble_eq_true rfl, Nat.le_of_ble_eq_true rfl⟩ dX6_amend_52 (fun H locs hW hS => ?_)
        exact ag_iret hx hb hr rfl hlocks hS (congrArg Prod.fst (Option.some.inj hf)) (congrArg Prod.snd (Option.some.inj hf) ▸ hW) dX6_amend_55
      · have hf := ag_t c43 hf
        refine lv_iconst (v := 0) hx hb dX6_amend_46 (by decide) ?_
        exact ag_iret hx hb hr rfl hlocks hS (congrArg Prod.fst (Option.some.inj hf)) (congrArg Prod.snd (Option.some.inj hf) ▸ hW) dX6_amend_47
  · have hf := ag_t c8 hf
    refine lv_iconst (v := 1) hx hb dX6_amend_11 (by decide) ?_
    refine lv_goto (tgt := 40) hx hb dX6_amend_12 (by decide) ?_
    obtain ⟨r40, hg40, hf⟩ := ag_bs hf
    refine ag_cVi hx hb hml hT hown hG h0 hS hW (c_X6_goesWell t6 hg40) ⟨rfl, rfl⟩ q896 q898 qs27 q11 q899 dd_yX6_goesWell ⟨Nat.le_of_ble_eq_true rfl, Nat.le_of_ble_eq_true rfl⟩ t6 rfl rfl hl.1 rfl (Nat.le_of_ble_eq_true rfl) ⟨Nat.le_of_ble_eq_true rfl, Nat.le_of_ble_eq_true rfl⟩ dX6_amend_40 (fun H locs hW hS => ?_)
    refine lv_if_ne (tgt := 48) hx hb dX6_amend_43 (by decide) (fun c43 => ?_) (fun c43 => ?_)
    · have hf := ag_f c43 hf
      refine lv_aload_n hx hb dX6_amend_48 rfl (lv_at hl 1 rfl) ?_
      refine lv_iconst (v := (-1)) hx hb dX6_amend_49 (by decide) ?_
      refine lv_iload_n hx hb dX6_amend_50 rfl (lv_at hl 2 rfl) ?_
      refine lv_iload_n hx hb dX6_amend_51 rfl (lv_at hl 3 rfl) ?_
      obtain ⟨r52, hg52, hf⟩ := ag_bs hf
      refine ag_cVi hx hb hml hT hown hG h0 hS hW (c_X6_make t6 hg52) ⟨rfl, rfl⟩ q917 q919 qs29 q11 q920 dd_yX6_make ⟨Nat.le_of_ble_eq_true rfl, Nat.le_of_ble_eq_true rfl⟩ t6 rfl rfl hl.1 rfl (Nat.le_of_ble_eq_true rfl) ⟨Nat.le_of_ble_eq_true rfl, Nat.le_of_ble_eq_true rfl⟩ dX6_amend_52 (fun H locs hW hS => ?_)
      exact ag_iret hx hb hr rfl hlocks hS (congrArg Prod.fst (Option.some.inj hf)) (congrArg Prod.snd (Option.some.inj hf) ▸ hW) dX6_amend_55
    · have hf := ag_t c43 hf
      refine lv_iconst (v := 0) hx hb dX6_amend_46 (by decide) ?_
      exact ag_iret hx hb hr rfl hlocks hS (congrArg Prod.fst (Option.some.inj hf)) (congrArg Prod.snd (Option.some.inj hf) ▸ hW) dX6_amend_47
def f_X6_amendOn_b44 (fu : Nat) (x1 : Int32) (x2 : Int32) (s : ag_S) : Option (Int32 × ag_S) := ag_bd (f_X6_goesWell fu 3 s) fun r49 => if r49.1 = 0 then (some (0, r49.2)) else (if x1 < 0 ∨ 40 ≤ x1.toNatClampNeg then none else ag_bd (f_X6_make fu x1 (r49.2 45 0 x1) x2 r49.2) fun r66 => some (r66.1, r66.2))
def f_X6_amendOn (fu : Nat) (x1 : Int32) (x2 : Int32) (s : ag_S) : Option (Int32 × ag_S) := ag_bd (f_X6_isAmendment fu x1 s) fun r2 => if r2 = 0 then (ag_bd (f_X6_goesWell fu 1 s) fun r49 => if r49.1 = 0 then (some (0, r49.2)) else (if x1 < 0 ∨ 40 ≤ x1.toNatClampNeg then none else ag_bd (f_X6_make fu x1 (r49.2 45 0 x1) x2 r49.2) fun r66 => some (r66.1, r66.2))) else (ag_bd (f_X6_isMore fu x2 s) fun r16 => if r16 = 0 then (ag_bd (f_X6_goesWell fu 2 s) fun r49 => if r49.1 = 0 then (some (0, r49.2)) else (if x1 < 0 ∨ 40 ≤ x1.toNatClampNeg then none else ag_bd (f_X6_make fu x1 (r49.2 45 0 x1) x2 r49.2) fun r66 => some (r66.1, r66.2))) else (if x1 < 0 ∨ 40 ≤ x1.toNatClampNeg then none else if s 47 0 x1 = 0 then (if s 6 13 0 = 40 then (f_X6_amendOn_b44 fu x1 x2 s) else (ag_bd (f_X6_goesWell fu 0 s) fun r49 => if r49.1 = 0 then (some (0, r49.2)) else (if x1 < 0 ∨ 40 ≤ x1.toNatClampNeg then none else ag_bd (f_X6_make fu x1 (r49.2 45 0 x1) x2 r49.2) fun r66 => some (r66.1, r66.2)))) else (f_X6_amendOn_b44 fu x1 x2 s)))
abbrev rm_X6_amendOn : Room := { frames := 2, cells := 0, slots := 0, locals := 43 }
theorem dd_yX6_amendOn : yX6_amendOn.cls = RX6 ∧ yX6_amendOn.cls ≠ "java/lang/invoke/MethodHandle" ∧ yX6_amendOn.cls ≠ "java/lang/invoke/VarHandle" ∧ (parseMethodDescriptor yX6_amendOn.desc).map (fun d => d.parameters.length) = some 2 := by decide +kernel
set_option maxHeartbeats 4000000 in
set_option maxRecDepth 100000 in
theorem c_X6_amendOn {z : ag_Z} {l : Launch} {n : ag_N} {p : ag_P} {s : ag_S} {fu : Nat} {x1 : Int32} {x2 : Int32} {out : Int32 × ag_S} (t6 : vp_in 0 (n 6)) (hf : f_X6_amendOn fu x1 x2 s = some out) : Met l yX6_amendOn (ag_ws yX6_amendOn cX6_amendOn 4 ((some FieldType.int))) rm_X6_amendOn (va_Pc [.ref (p 6 0), .int x1, .int x2] (ag_Pre z n p s)) (ag_Ri z n p out.1 out.2) 0 0 (ag_A z) := by
  refine Met.ofW (cc := cX6_amendOn) (maxL := 4) (ret := (some FieldType.int)) (by decide) rfl ?_
  intro p0 e st m args below meth c s9 B hml hv
  obtain ⟨ha, h0, hG, hW⟩ := hv
  have hx := B.exec
  have hb := B.bytes
  have hr := B.returns
  have hts := atoms_spec (ws := ag_ws yX6_amendOn cX6_amendOn 4 ((some FieldType.int))) B.pre
  have hT : ∀ w ∈ ag_tbl, w.before args st = true := fun w h => hts w (List.mem_cons_of_mem _ h)
  have hown : st.vm.findClass RX6 = some m.cls := findClass_of_methodNamed B.named
  have hlocks := B.notSynchronized
  have hS : va_S (ag_A z) st.heap st.heap [] := va_S.rf
  obtain ⟨ls, hls, hl⟩ : ∃ ls, entryFrame m args 4 = F0 m 0 ls [] ∧ lv_has ls 4 [(0, .ref (p 6 0)), (1, .int x1), (2, .int x2)] := by rw [ha]; exact ag_entry m [.ref (p 6 0), .int x1, .int x2] (Nat.le_of_ble_eq_true rfl)
  rw [hls]
  have k44 : ∀ (x1 : Int32) (x2 : Int32) (s : ag_S) (H : Heap) (locs : List Loc) (ls : Array Slot), ag_W z n p s H → va_S (ag_A z) st.heap H locs → lv_has ls 4 [(0, .ref (p 6 0)), (1, .int x1), (2, .int x2)] → f_X6_amendOn_b44 fu x1 x2 s = some out → W p0 l e (headSpec (ag_ws yX6_amendOn cX6_amendOn 4 ((some FieldType.int))) rm_X6_amendOn).room st m args below meth c H locs 0 0 (MQ below (ag_Ri z n p out.1 out.2) args st 0 0 (ag_A z)) (F0 m 44 ls [.ref (p 6 0)]) := by
    intro x1 x2 s H locs ls hW hS hl hf
    unfold f_X6_amendOn_b44 at hf
    refine lv_iconst (v := 3) hx hb dX6_amendOn_44 (by decide) ?_
    refine lv_goto (tgt := 49) hx hb dX6_amendOn_45 (by decide) ?_
    obtain ⟨r49, hg49, hf⟩ := ag_bs hf
    refine ag_cVi hx hb hml hT hown hG h0 hS hW (c_X6_goesWell t6 hg49) ⟨rfl, rfl⟩ q896 q898 qs27 q11 q899 dd_yX6_goesWell ⟨Nat.le_of_ble_eq_true rfl, Nat.le_of_ble_eq_true rfl⟩ t6 rfl rfl hl.1 rfl (Nat.le_of_ble_eq_true rfl) ⟨Nat.le_of_ble_eq_true rfl, Nat.le_of_ble_eq_true rfl⟩ dX6_amendOn_49 (fun H locs hW hS => ?_)
    refine lv_if_ne (tgt := 57) hx hb dX6_amendOn_52 (by decide) (fun c52 => ?_) (fun c52 => ?_)
    · have hf := ag_f c52 hf
      refine lv_aload_n hx hb dX6_amendOn_57 rfl (lv_at hl 0 rfl) ?_
      refine lv_iload_n hx hb dX6_amendOn_58 rfl (lv_at hl 1 rfl) ?_
      refine lv_aload_n hx hb dX6_amendOn_59 rfl (lv_at hl 0 rfl) ?_
      refine g6_15 hx hb hT hown hG hW t6 q803 dX6_amendOn_60 ?_
      have t45 := ag_fix hW (k := 6) (f := 15) (t := 45) t6 rfl rfl
      refine lv_iload_n hx hb dX6_amendOn_63 rfl (lv_at hl 1 rfl) ?_
      obtain ⟨a64, hf⟩ := ag_n hf
      refine ag_iald hx hb hG hW t45 rfl rfl a64 dX6_amendOn_64 ?_
      refine lv_iload_n hx hb dX6_amendOn_65 rfl (lv_at hl 2 rfl) ?_
      obtain ⟨r66, hg66, hf⟩ := ag_bs hf
      refine ag_cVi hx hb hml hT hown hG h0 hS hW (c_X6_make t6 hg66) ⟨rfl, rfl⟩ q917 q919 qs29 q11 q920 dd_yX6_make ⟨Nat.le_of_ble_eq_true rfl, Nat.le_of_ble_eq_true rfl⟩ t6 rfl rfl hl.1 rfl (Nat.le_of_ble_eq_true rfl) ⟨Nat.le_of_ble_eq_true rfl, Nat.le_of_ble_eq_true rfl⟩ dX6_amendOn_66 (fun H locs hW hS => ?_)
      exact ag_iret hx hb hr rfl hlocks hS (congrArg Prod.fst (Option.some.inj hf)) (congrArg Prod.snd (Option.some.inj hf) ▸ hW) dX6_amendOn_69
    · have hf := ag_t c52 hf
      refine lv_iconst (v := 0) hx hb dX6_amendOn_55 (by decide) ?_
      exact ag_iret hx hb hr rfl hlocks hS (congrArg Prod.fst (Option.some.inj hf)) (congrArg Prod.snd (Option.some.inj hf) ▸ hW) dX6_amendOn_56
  unfold f_X6_amendOn at hf
  refine lv_aload_n hx hb dX6_amendOn_0 rfl (lv_at hl 0 rfl) ?_
  refine lv_iload_n hx hb dX6_amendOn_1 rfl (lv_at hl 1 rfl) ?_
  obtain ⟨r2, hg2, hf⟩ := ag_bs hf
  refine ag_cVi hx hb hml hT hown hG h0 hS hW (c_X6_isAmendment t6 hg2) ⟨rfl, rfl⟩ q925 q927 qs30 q11 q928 dd_yX6_isAmendment ⟨Nat.le_of_ble_eq_true rfl, Nat.le_of_ble_eq_true rfl⟩ t6 rfl rfl hl.1 rfl (Nat.le_of_ble_eq_true rfl) ⟨Nat.le_of_ble_eq_true rfl, Nat.le_of_ble_eq_true rfl⟩ dX6_amendOn_2 (fun H locs hW hS => ?_)
  refine lv_istore_n (lv' := [(3, .int r2), (0, .ref (p 6 0)), (1, .int x1), (2, .int x2)]) hx hb dX6_amendOn_5 rfl hl (by decide) rfl (fun ls hl => ?_)
  refine lv_aload_n hx hb dX6_amendOn_6 rfl (lv_at hl 1 rfl) ?_
  refine lv_iload_n hx hb dX6_amendOn_7 rfl (lv_at hl 0 rfl) ?_
  refine lv_if_ne (tgt := 15) hx hb dX6_amendOn_8 (by decide) (fun c8 => ?_) (fun c8 => ?_)
  · have hf := ag_f c8 hf
    refine lv_iload_n hx hb dX6_amendOn_15 rfl (lv_at hl 3 rfl) ?_
    obtain ⟨r16, hg16, hf⟩ := ag_bs hf
    refine ag_cSi hx hb hml hT hown hG h0 hS hW (c_X6_isMore hg16) ⟨rfl, rfl⟩ q912 q913 q11 q914 dd_yX6_isMore ⟨Nat.le_of_ble_eq_true rfl, Nat.le_of_ble_eq_true rfl⟩ hl.1 rfl (Nat.le_of_ble_eq_true rfl) ⟨Nat.le_of_ble_eq_true rfl, Nat.le_of_ble_eq_true rfl⟩ dX6_amendOn_16 (fun H locs hW hS => ?_)
    refine lv_if_ne (tgt := 26) hx hb dX6_amendOn_19 (by decide) (fun c19 => ?_) (fun c19 => ?_)
    · have hf := ag_f c19 hf
      refine lv_aload_n hx hb dX6_amendOn_26 rfl (lv_at hl 1 rfl) ?_
      refine g6_17 hx hb hT hown hG hW t6 q805 dX6_amendOn_27 ?_
      have t47 := ag_fix hW (k := 6) (f := 17) (t := 47) t6 rfl rfl
      refine lv_iload_n hx hb dX6_amendOn_30 rfl (lv_at hl 2 rfl) ?_
      obtain ⟨a31, hf⟩ := ag_n hf
      refine ag_iald hx hb hG hW t47 rfl rfl a31 dX6_amendOn_31 ?_
      refine lv_if_ne (tgt := 44) hx hb dX6_amendOn_32 (by decide) (fun c32 => ?_) (fun c32 => ?_)
      · have hf := ag_f c32 hf
        exact k44 _ _ _ _ _ _ hW hS (lv_sub hl [1, 2, 3] rfl) hf
      · have hf := ag_t c32 hf
        refine lv_aload_n hx hb dX6_amendOn_35 rfl (lv_at hl 1 rfl) ?_
        refine g6_13 hx hb hT hown hG hW t6 q801 dX6_amendOn_36 ?_
        refine lv_bipush (v := 40) hx hb dX6_amendOn_39 (by decide) ?_
        refine lv_icmp_ne (tgt := 48) hx hb dX6_amendOn_41 (by decide) (fun c41 => ?_) (fun c41 => ?_)
        · have hf := ag_f c41 hf
          refine lv_iconst (v := 0) hx hb dX6_amendOn_48 (by decide) ?_
          obtain ⟨r49, hg49, hf⟩ := ag_bs hf
          refine ag_cVi hx hb hml hT hown hG h0 hS hW (c_X6_goesWell t6 hg49) ⟨rfl, rfl⟩ q896 q898 qs27 q11 q899 dd_yX6_goesWell ⟨Nat.le_of_ble_eq_true rfl, Nat.le_of_ble_eq_true rfl⟩ t6 rfl rfl hl.1 rfl (Nat.le_of_ble_eq_true rfl) ⟨Nat.le_of_ble_eq_true rfl, Nat.le_of_ble_eq_true rfl⟩ dX6_amendOn_49 (fun H locs hW hS => ?_)
          refine lv_if_ne (tgt := 57) hx hb dX6_amendOn_52 (by decide) (fun c52 => ?_) (fun c52 => ?_)
          · have hf := ag_f c52 hf
            refine lv_aload_n hx hb dX6_amendOn_57 rfl (lv_at hl 1 rfl) ?_
            refine lv_iload_n hx hb dX6_amendOn_58 rfl (lv_at hl 2 rfl) ?_
            refine lv_aload_n hx hb dX6_amendOn_59 rfl (lv_at hl 1 rfl) ?_
            refine g6_15 hx hb hT hown hG hW t6 q803 dX6_amendOn_60 ?_
            have t45 := ag_fix hW (k := 6) (f := 15) (t := 45) t6 rfl rfl
            refine lv_iload_n hx hb dX6_amendOn_63 rfl (lv_at hl 2 rfl) ?_
            obtain ⟨a64, hf⟩ := ag_n hf
            refine ag_iald hx hb hG hW t45 rfl rfl a64 dX6_amendOn_64 ?_
            refine lv_iload_n hx hb dX6_amendOn_65 rfl (lv_at hl 3 rfl) ?_
            obtain ⟨r66, hg66, hf⟩ := ag_bs hf
            refine ag_cVi hx hb hml hT hown hG h0 hS hW (c_X6_make t6 hg66) ⟨rfl, rfl⟩ q917 q919 qs29 q11 q920 dd_yX6_make ⟨Nat.le_of_ble_eq_true rfl, Nat.le_of_ble_eq_true rfl⟩ t6 rfl rfl hl.1 rfl (Nat.le_of_ble_eq_true rfl) ⟨Nat.le_of_ble_eq_true rfl, Nat.le_of_ble_eq_true rfl⟩ dX6_amendOn_66 (fun H locs hW hS => ?_)
            exact ag_iret hx hb hr rfl hlocks hS (congrArg Prod.fst (Option.some.inj hf)) (congrArg Prod.snd (Option.some.inj hf) ▸ hW) dX6_amendOn_69
          · have hf := ag_t c52 hf
            refine lv_iconst (v := 0) hx hb dX6_amendOn_55 (by decide) ?_
            exact ag_iret hx hb hr rfl hlocks hS (congrArg Prod.fst (Option.some.inj hf)) (congrArg Prod.snd (Option.some.inj hf) ▸ hW) dX6_amendOn_56
        · have hf := ag_t c41 hf
          exact k44 _ _ _ _ _ _ hW hS (lv_sub hl [1, 2, 3] rfl) hf
    · have hf := ag_t c19 hf
      refine lv_iconst (v := 2) hx hb dX6_amendOn_22 (by decide) ?_
      refine lv_goto (tgt := 49) hx hb dX6_amendOn_23 (by decide) ?_
      obtain ⟨r49, hg49, hf⟩ := ag_bs hf
      refine ag_cVi hx hb hml hT hown hG h0 hS hW (c_X6_goesWell t6 hg49) ⟨rfl, rfl⟩ q896 q898 qs27 q11 q899 dd_yX6_goesWell ⟨Nat.le_of_ble_eq_true rfl, Nat.le_of_ble_eq_true rfl⟩ t6 rfl rfl hl.1 rfl (Nat.le_of_ble_eq_true rfl) ⟨Nat.le_of_ble_eq_true rfl, Nat.le_of_ble_eq_true rfl⟩ dX6_amendOn_49 (fun H locs hW hS => ?_)
      refine lv_if_ne (tgt := 57) hx hb dX6_amendOn_52 (by decide) (fun c52 => ?_) (fun c52 => ?_)
      · have hf := ag_f c52 hf
        refine lv_aload_n hx hb dX6_amendOn_57 rfl (lv_at hl 1 rfl) ?_
        refine lv_iload_n hx hb dX6_amendOn_58 rfl (lv_at hl 2 rfl) ?_
        refine lv_aload_n hx hb dX6_amendOn_59 rfl (lv_at hl 1 rfl) ?_
        refine g6_15 hx hb hT hown hG hW t6 q803 dX6_amendOn_60 ?_
        have t45 := ag_fix hW (k := 6) (f := 15) (t := 45) t6 rfl rfl
        refine lv_iload_n hx hb dX6_amendOn_63 rfl (lv_at hl 2 rfl) ?_
        obtain ⟨a64, hf⟩ := ag_n hf
        refine ag_iald hx hb hG hW t45 rfl rfl a64 dX6_amendOn_64 ?_
        refine lv_iload_n hx hb dX6_amendOn_65 rfl (lv_at hl 3 rfl) ?_
        obtain ⟨r66, hg66, hf⟩ := ag_bs hf
        refine ag_cVi hx hb hml hT hown hG h0 hS hW (c_X6_make t6 hg66) ⟨rfl, rfl⟩ q917 q919 qs29 q11 q920 dd_yX6_make ⟨Nat.le_of_ble_eq_true rfl, Nat.le_of_ble_eq_true rfl⟩ t6 rfl rfl hl.1 rfl (Nat.le_of_ble_eq_true rfl) ⟨Nat.le_of_ble_eq_true rfl, Nat.le_of_ble_eq_true rfl⟩ dX6_amendOn_66 (fun H locs hW hS => ?_)
        exact ag_iret hx hb hr rfl hlocks hS (congrArg Prod.fst (Option.some.inj hf)) (congrArg Prod.snd (Option.some.inj hf) ▸ hW) dX6_amendOn_69
      · have hf := ag_t c52 hf
        refine lv_iconst (v := 0) hx hb dX6_amendOn_55 (by decide) ?_
        exact ag_iret hx hb hr rfl hlocks hS (congrArg Prod.fst (Option.some.inj hf)) (congrArg Prod.snd (Option.some.inj hf) ▸ hW) dX6_amendOn_56
  · have hf := ag_t c8 hf
    refine lv_iconst (v := 1) hx hb dX6_amendOn_11 (by decide) ?_
    refine lv_goto (tgt := 49) hx hb dX6_amendOn_12 (by decide) ?_
    obtain ⟨r49, hg49, hf⟩ := ag_bs hf
    refine ag_cVi hx hb hml hT hown hG h0 hS hW (c_X6_goesWell t6 hg49) ⟨rfl, rfl⟩ q896 q898 qs27 q11 q899 dd_yX6_goesWell ⟨Nat.le_of_ble_eq_true rfl, Nat.le_of_ble_eq_true rfl⟩ t6 rfl rfl hl.1 rfl (Nat.le_of_ble_eq_true rfl) ⟨Nat.le_of_ble_eq_true rfl, Nat.le_of_ble_eq_true rfl⟩ dX6_amendOn_49 (fun H locs hW hS => ?_)
    refine lv_if_ne (tgt := 57) hx hb dX6_amendOn_52 (by decide) (fun c52 => ?_) (fun c52 => ?_)
    · have hf := ag_f c52 hf
      refine lv_aload_n hx hb dX6_amendOn_57 rfl (lv_at hl 1 rfl) ?_
      refine lv_iload_n hx hb dX6_amendOn_58 rfl (lv_at hl 2 rfl) ?_
      refine lv_aload_n hx hb dX6_amendOn_59 rfl (lv_at hl 1 rfl) ?_
      refine g6_15 hx hb hT hown hG hW t6 q803 dX6_amendOn_60 ?_
      have t45 := ag_fix hW (k := 6) (f := 15) (t := 45) t6 rfl rfl
      refine lv_iload_n hx hb dX6_amendOn_63 rfl (lv_at hl 2 rfl) ?_
      obtain ⟨a64, hf⟩ := ag_n hf
      refine ag_iald hx hb hG hW t45 rfl rfl a64 dX6_amendOn_64 ?_
      refine lv_iload_n hx hb dX6_amendOn_65 rfl (lv_at hl 3 rfl) ?_
      obtain ⟨r66, hg66, hf⟩ := ag_bs hf
      refine ag_cVi hx hb hml hT hown hG h0 hS hW (c_X6_make t6 hg66) ⟨rfl, rfl⟩ q917 q919 qs29 q11 q920 dd_yX6_make ⟨Nat.le_of_ble_eq_true rfl, Nat.le_of_ble_eq_true rfl⟩ t6 rfl rfl hl.1 rfl (Nat.le_of_ble_eq_true rfl) ⟨Nat.le_of_ble_eq_true rfl, Nat.le_of_ble_eq_true rfl⟩ dX6_amendOn_66 (fun H locs hW hS => ?_)
      exact ag_iret hx hb hr rfl hlocks hS (congrArg Prod.fst (Option.some.inj hf)) (congrArg Prod.snd (Option.some.inj hf) ▸ hW) dX6_amendOn_69
    · have hf := ag_t c52 hf
      refine lv_iconst (v := 0) hx hb dX6_amendOn_55 (by decide) ?_
      exact ag_iret hx hb hr rfl hlocks hS (congrArg Prod.fst (Option.some.inj hf)) (congrArg Prod.snd (Option.some.inj hf) ▸ hW) dX6_amendOn_56
def f_X6_vote_b49 (fu : Nat) (x1 : Int32) (x2 : Int32) (x3 : Int32) (y1 : Int32) (s : ag_S) : Option (Int32 × ag_S) := ag_bd (f_X6_goesWell fu y1 s) fun r49 => if r49.1 = 0 then (some (0, r49.2)) else (if x3 = 0 then (if ((9 * x2) + x1 : Int32) < 0 ∨ 360 ≤ ((9 * x2) + x1).toNatClampNeg then none else ag_bd (f_X6_votesOf fu x2 1 (ag_up r49.2 49 0 ((9 * x2) + x1) 2)) fun r80 => some (r80, (ag_up r49.2 49 0 ((9 * x2) + x1) 2))) else (if ((9 * x2) + x1 : Int32) < 0 ∨ 360 ≤ ((9 * x2) + x1).toNatClampNeg then none else ag_bd (f_X6_votesOf fu x2 1 (ag_up r49.2 49 0 ((9 * x2) + x1) 1)) fun r80 => some (r80, (ag_up r49.2 49 0 ((9 * x2) + x1) 1))))
def f_X6_vote_b23 (fu : Nat) (x1 : Int32) (x2 : Int32) (x3 : Int32) (y0 : Int32) (s : ag_S) : Option (Int32 × ag_S) := if y0 = 0 then (f_X6_vote_b49 fu x1 x2 x3 1 s) else (if x2 < 0 ∨ 40 ≤ x2.toNatClampNeg then none else if s 47 0 x2 = 0 then (f_X6_vote_b49 fu x1 x2 x3 0 s) else (f_X6_vote_b49 fu x1 x2 x3 2 s))
def f_X6_vote_b22 (fu : Nat) (x1 : Int32) (x2 : Int32) (x3 : Int32) (s : ag_S) : Option (Int32 × ag_S) := f_X6_vote_b23 fu x1 x2 x3 0 s
def f_X6_vote (fu : Nat) (x1 : Int32) (x2 : Int32) (x3 : Int32) (s : ag_S) : Option (Int32 × ag_S) := ag_bd (f_X6_in fu x1 0 8 s) fun r4 => if r4 = 0 then (f_X6_vote_b22 fu x1 x2 x3 s) else (ag_bd (f_X6_isAmendment fu x2 s) fun r12 => if r12 = 0 then (f_X6_vote_b22 fu x1 x2 x3 s) else (f_X6_vote_b23 fu x1 x2 x3 1 s))
abbrev rm_X6_vote : Room := { frames := 2, cells := 0, slots := 0, locals := 43 }
theorem dd_yX6_vote : yX6_vote.cls = RX6 ∧ yX6_vote.cls ≠ "java/lang/invoke/MethodHandle" ∧ yX6_vote.cls ≠ "java/lang/invoke/VarHandle" ∧ (parseMethodDescriptor yX6_vote.desc).map (fun d => d.parameters.length) = some 3 := by decide +kernel
set_option maxHeartbeats 4000000 in
set_option maxRecDepth 100000 in
theorem c_X6_vote {z : ag_Z} {l : Launch} {n : ag_N} {p : ag_P} {s : ag_S} {fu : Nat} {x1 : Int32} {x2 : Int32} {x3 : Int32} {out : Int32 × ag_S} (t6 : vp_in 0 (n 6)) (hf : f_X6_vote fu x1 x2 x3 s = some out) : Met l yX6_vote (ag_ws yX6_vote cX6_vote 5 ((some FieldType.int))) rm_X6_vote (va_Pc [.ref (p 6 0), .int x1, .int x2, .int x3] (ag_Pre z n p s)) (ag_Ri z n p out.1 out.2) 0 0 (ag_A z) := by
  refine Met.ofW (cc := cX6_vote) (maxL := 5) (ret := (some FieldType.int)) (by decide) rfl ?_
  intro p0 e st m args below meth c s9 B hml hv
  obtain ⟨ha, h0, hG, hW⟩ := hv
  have hx := B.exec
  have hb := B.bytes
  have hr := B.returns
  have hts := atoms_spec (ws := ag_ws yX6_vote cX6_vote 5 ((some FieldType.int))) B.pre
  have hT : ∀ w ∈ ag_tbl, w.before args st = true := fun w h => hts w (List.mem_cons_of_mem _ h)
  have hown : st.vm.findClass RX6 = some m.cls := findClass_of_methodNamed B.named
  have hlocks := B.notSynchronized
  have hS : va_S (ag_A z) st.heap st.heap [] := va_S.rf
  obtain ⟨ls, hls, hl⟩ : ∃ ls, entryFrame m args 5 = F0 m 0 ls [] ∧ lv_has ls 5 [(0, .ref (p 6 0)), (1, .int x1), (2, .int x2), (3, .int x3)] := by rw [ha]; exact ag_entry m [.ref (p 6 0), .int x1, .int x2, .int x3] (Nat.le_of_ble_eq_true rfl)
  rw [hls]
  have k49 : ∀ (x1 : Int32) (x2 : Int32) (x3 : Int32) (y1 : Int32) (s : ag_S) (H : Heap) (locs : List Loc) (ls : Array Slot), ag_W z n p s H → va_S (ag_A z) st.heap H locs → lv_has ls 5 [(0, .ref (p 6 0)), (1, .int x1), (2, .int x2), (3, .int x3)] → f_X6_vote_b49 fu x1 x2 x3 y1 s = some out → W p0 l e (headSpec (ag_ws yX6_vote cX6_vote 5 ((some FieldType.int))) rm_X6_vote).room st m args below meth c H locs 0 0 (MQ below (ag_Ri z n p out.1 out.2) args st 0 0 (ag_A z)) (F0 m 49 ls [.int y1, .ref (p 6 0)]) := by
    intro x1 x2 x3 y1 s H locs ls hW hS hl hf
    unfold f_X6_vote_b49 at hf
    obtain ⟨r49, hg49, hf⟩ := ag_bs hf
    refine ag_cVi hx hb hml hT hown hG h0 hS hW (c_X6_goesWell t6 hg49) ⟨rfl, rfl⟩ q896 q898 qs27 q11 q899 dd_yX6_goesWell ⟨Nat.le_of_ble_eq_true rfl, Nat.le_of_ble_eq_true rfl⟩ t6 rfl rfl hl.1 rfl (Nat.le_of_ble_eq_true rfl) ⟨Nat.le_of_ble_eq_true rfl, Nat.le_of_ble_eq_true rfl⟩ dX6_vote_49 (fun H locs hW hS => ?_)
    refine lv_if_ne (tgt := 57) hx hb dX6_vote_52 (by decide) (fun c52 => ?_) (fun c52 => ?_)
    · have hf := ag_f c52 hf
      refine lv_aload_n hx hb dX6_vote_57 rfl (lv_at hl 0 rfl) ?_
      refine g6_19 hx hb hT hown hG hW t6 q807 dX6_vote_58 ?_
      have t49 := ag_fix hW (k := 6) (f := 19) (t := 49) t6 rfl rfl
      refine lv_bipush (v := 9) hx hb dX6_vote_61 (by decide) ?_
      refine lv_iload_n hx hb dX6_vote_63 rfl (lv_at hl 2 rfl) ?_
      refine lv_imul hx hb dX6_vote_64 ?_
      refine lv_iload_n hx hb dX6_vote_65 rfl (lv_at hl 1 rfl) ?_
      refine lv_iadd hx hb dX6_vote_66 ?_
      refine lv_iload_n hx hb dX6_vote_67 rfl (lv_at hl 3 rfl) ?_
      refine lv_if_eq (tgt := 75) hx hb dX6_vote_68 (by decide) (fun c68 => ?_) (fun c68 => ?_)
      · have hf := ag_t c68 hf
        refine lv_iconst (v := 2) hx hb dX6_vote_75 (by decide) ?_
        obtain ⟨a76, hf⟩ := ag_n hf
        refine ag_iast hx hb hG hW hS t49 rfl rfl (by decide) a76 dX6_vote_76 (fun H locs hW hS => ?_)
        refine lv_aload_n hx hb dX6_vote_77 rfl (lv_at hl 0 rfl) ?_
        refine lv_iload_n hx hb dX6_vote_78 rfl (lv_at hl 2 rfl) ?_
        refine lv_iconst (v := 1) hx hb dX6_vote_79 (by decide) ?_
        obtain ⟨r80, hg80, hf⟩ := ag_bs hf
        refine ag_cVi hx hb hml hT hown hG h0 hS hW (c_X6_votesOf t6 hg80) ⟨rfl, rfl⟩ q933 q935 qs31 q11 q936 dd_yX6_votesOf ⟨Nat.le_of_ble_eq_true rfl, Nat.le_of_ble_eq_true rfl⟩ t6 rfl rfl hl.1 rfl (Nat.le_of_ble_eq_true rfl) ⟨Nat.le_of_ble_eq_true rfl, Nat.le_of_ble_eq_true rfl⟩ dX6_vote_80 (fun H locs hW hS => ?_)
        exact ag_iret hx hb hr rfl hlocks hS (congrArg Prod.fst (Option.some.inj hf)) (congrArg Prod.snd (Option.some.inj hf) ▸ hW) dX6_vote_83
      · have hf := ag_f c68 hf
        refine lv_iconst (v := 1) hx hb dX6_vote_71 (by decide) ?_
        refine lv_goto (tgt := 76) hx hb dX6_vote_72 (by decide) ?_
        obtain ⟨a76, hf⟩ := ag_n hf
        refine ag_iast hx hb hG hW hS t49 rfl rfl (by decide) a76 dX6_vote_76 (fun H locs hW hS => ?_)
        refine lv_aload_n hx hb dX6_vote_77 rfl (lv_at hl 0 rfl) ?_
        refine lv_iload_n hx hb dX6_vote_78 rfl (lv_at hl 2 rfl) ?_
        refine lv_iconst (v := 1) hx hb dX6_vote_79 (by decide) ?_
        obtain ⟨r80, hg80, hf⟩ := ag_bs hf
        refine ag_cVi hx hb hml hT hown hG h0 hS hW (c_X6_votesOf t6 hg80) ⟨rfl, rfl⟩ q933 q935 qs31 q11 q936 dd_yX6_votesOf ⟨Nat.le_of_ble_eq_true rfl, Nat.le_of_ble_eq_true rfl⟩ t6 rfl rfl hl.1 rfl (Nat.le_of_ble_eq_true rfl) ⟨Nat.le_of_ble_eq_true rfl, Nat.le_of_ble_eq_true rfl⟩ dX6_vote_80 (fun H locs hW hS => ?_)
        exact ag_iret hx hb hr rfl hlocks hS (congrArg Prod.fst (Option.some.inj hf)) (congrArg Prod.snd (Option.some.inj hf) ▸ hW) dX6_vote_83
    · have hf := ag_t c52 hf
      refine lv_iconst (v := 0) hx hb dX6_vote_55 (by decide) ?_
      exact ag_iret hx hb hr rfl hlocks hS (congrArg Prod.fst (Option.some.inj hf)) (congrArg Prod.snd (Option.some.inj hf) ▸ hW) dX6_vote_56
  have k23 : ∀ (x1 : Int32) (x2 : Int32) (x3 : Int32) (y0 : Int32) (s : ag_S) (H : Heap) (locs : List Loc) (ls : Array Slot) (by0 : y0 = 0 ∨ y0 = 1), ag_W z n p s H → va_S (ag_A z) st.heap H locs → lv_has ls 5 [(0, .ref (p 6 0)), (1, .int x1), (2, .int x2), (3, .int x3)] → f_X6_vote_b23 fu x1 x2 x3 y0 s = some out → W p0 l e (headSpec (ag_ws yX6_vote cX6_vote 5 ((some FieldType.int))) rm_X6_vote).room st m args below meth c H locs 0 0 (MQ below (ag_Ri z n p out.1 out.2) args st 0 0 (ag_A z)) (F0 m 23 ls [.int y0]) := by
    intro x1 x2 x3 y0 s H locs ls by0 hW hS hl hf
    unfold f_X6_vote_b23 at hf
    refine lv_istore (lv' := [(4, .int y0), (0, .ref (p 6 0)), (1, .int x1), (2, .int x2), (3, .int x3)]) hx hb dX6_vote_23 hl (by decide) rfl (fun ls hl => ?_)
    refine lv_aload_n hx hb dX6_vote_25 rfl (lv_at hl 1 rfl) ?_
    refine lv_iload hx hb dX6_vote_26 (lv_at hl 0 rfl) ?_
    refine lv_if_ne (tgt := 35) hx hb dX6_vote_28 (by decide) (fun c28 => ?_) (fun c28 => ?_)
    · have hf := ag_f c28 hf
      refine lv_aload_n hx hb dX6_vote_35 rfl (lv_at hl 1 rfl) ?_
      refine g6_17 hx hb hT hown hG hW t6 q805 dX6_vote_36 ?_
      have t47 := ag_fix hW (k := 6) (f := 17) (t := 47) t6 rfl rfl
      refine lv_iload_n hx hb dX6_vote_39 rfl (lv_at hl 3 rfl) ?_
      obtain ⟨a40, hf⟩ := ag_n hf
      refine ag_iald hx hb hG hW t47 rfl rfl a40 dX6_vote_40 ?_
      refine lv_if_eq (tgt := 48) hx hb dX6_vote_41 (by decide) (fun c41 => ?_) (fun c41 => ?_)
      · have hf := ag_t c41 hf
        refine lv_iconst (v := 0) hx hb dX6_vote_48 (by decide) ?_
        exact k49 _ _ _ _ _ _ _ _ hW hS (lv_sub hl [1, 2, 3, 4] rfl) hf
      · have hf := ag_f c41 hf
        refine lv_iconst (v := 2) hx hb dX6_vote_44 (by decide) ?_
        refine lv_goto (tgt := 49) hx hb dX6_vote_45 (by decide) ?_
        exact k49 _ _ _ _ _ _ _ _ hW hS (lv_sub hl [1, 2, 3, 4] rfl) hf
    · have hf := ag_t c28 hf
      refine lv_iconst (v := 1) hx hb dX6_vote_31 (by decide) ?_
      refine lv_goto (tgt := 49) hx hb dX6_vote_32 (by decide) ?_
      exact k49 _ _ _ _ _ _ _ _ hW hS (lv_sub hl [1, 2, 3, 4] rfl) hf
  have k22 : ∀ (x1 : Int32) (x2 : Int32) (x3 : Int32) (s : ag_S) (H : Heap) (locs : List Loc) (ls : Array Slot), ag_W z n p s H → va_S (ag_A z) st.heap H locs → lv_has ls 5 [(0, .ref (p 6 0)), (1, .int x1), (2, .int x2), (3, .int x3)] → f_X6_vote_b22 fu x1 x2 x3 s = some out → W p0 l e (headSpec (ag_ws yX6_vote cX6_vote 5 ((some FieldType.int))) rm_X6_vote).room st m args below meth c H locs 0 0 (MQ below (ag_Ri z n p out.1 out.2) args st 0 0 (ag_A z)) (F0 m 22 ls []) := by
    intro x1 x2 x3 s H locs ls hW hS hl hf
    unfold f_X6_vote_b22 at hf
    refine lv_iconst (v := 0) hx hb dX6_vote_22 (by decide) ?_
    exact k23 _ _ _ _ _ _ _ _ (Or.inl rfl) hW hS (lv_sub hl [0, 1, 2, 3] rfl) hf
  unfold f_X6_vote at hf
  refine lv_iload_n hx hb dX6_vote_0 rfl (lv_at hl 1 rfl) ?_
  refine lv_iconst (v := 0) hx hb dX6_vote_1 (by decide) ?_
  refine lv_bipush (v := 8) hx hb dX6_vote_2 (by decide) ?_
  obtain ⟨r4, hg4, hf⟩ := ag_bs hf
  refine ag_cSi hx hb hml hT hown hG h0 hS hW (c_X6_in hg4) ⟨rfl, rfl⟩ q892 q893 q11 q894 dd_yX6_in ⟨Nat.le_of_ble_eq_true rfl, Nat.le_of_ble_eq_true rfl⟩ hl.1 rfl (Nat.le_of_ble_eq_true rfl) ⟨Nat.le_of_ble_eq_true rfl, Nat.le_of_ble_eq_true rfl⟩ dX6_vote_4 (fun H locs hW hS => ?_)
  refine lv_if_eq (tgt := 22) hx hb dX6_vote_7 (by decide) (fun c7 => ?_) (fun c7 => ?_)
  · have hf := ag_t c7 hf
    exact k22 _ _ _ _ _ _ _ hW hS (lv_sub hl [0, 1, 2, 3] rfl) hf
  · have hf := ag_f c7 hf
    refine lv_aload_n hx hb dX6_vote_10 rfl (lv_at hl 0 rfl) ?_
    refine lv_iload_n hx hb dX6_vote_11 rfl (lv_at hl 2 rfl) ?_
    obtain ⟨r12, hg12, hf⟩ := ag_bs hf
    refine ag_cVi hx hb hml hT hown hG h0 hS hW (c_X6_isAmendment t6 hg12) ⟨rfl, rfl⟩ q925 q927 qs30 q11 q928 dd_yX6_isAmendment ⟨Nat.le_of_ble_eq_true rfl, Nat.le_of_ble_eq_true rfl⟩ t6 rfl rfl hl.1 rfl (Nat.le_of_ble_eq_true rfl) ⟨Nat.le_of_ble_eq_true rfl, Nat.le_of_ble_eq_true rfl⟩ dX6_vote_12 (fun H locs hW hS => ?_)
    refine lv_if_eq (tgt := 22) hx hb dX6_vote_15 (by decide) (fun c15 => ?_) (fun c15 => ?_)
    · have hf := ag_t c15 hf
      exact k22 _ _ _ _ _ _ _ hW hS (lv_sub hl [0, 1, 2, 3] rfl) hf
    · have hf := ag_f c15 hf
      refine lv_iconst (v := 1) hx hb dX6_vote_18 (by decide) ?_
      refine lv_goto (tgt := 23) hx hb dX6_vote_19 (by decide) ?_
      exact k23 _ _ _ _ _ _ _ _ (Or.inr rfl) hW hS (lv_sub hl [0, 1, 2, 3] rfl) hf
def f_X6_decide_L82 (fu : Nat) : Nat → Int32 → Int32 → ag_S → Option (Int32 × ag_S)
  | 0, _, _, _ => none
  | nf + 1, x1, x5, s => if (9 : Int32) ≤ x5 then (if x1 < 0 ∨ 40 ≤ x1.toNatClampNeg then none else some (s 47 0 x1, s)) else (if ((9 * x1) + x5 : Int32) < 0 ∨ 360 ≤ ((9 * x1) + x5).toNatClampNeg then none else f_X6_decide_L82 fu nf x1 (x5 + 1) (ag_up s 49 0 ((9 * x1) + x5) 0))
def f_X6_decide_b111 (fu : Nat) (x1 : Int32) (x3 : Int32) (x4 : Int32) (s : ag_S) : Option (Int32 × ag_S) := if x3 ≤ x4 then (ag_bd (f_X6_fall fu x1 s) fun r155 => if x1 < 0 ∨ 40 ≤ x1.toNatClampNeg then none else some (r155.2 47 0 x1, r155.2)) else (if x1 < 0 ∨ 40 ≤ x1.toNatClampNeg then none else if x1 < 0 ∨ 40 ≤ x1.toNatClampNeg then none else if (ag_up s 47 0 x1 1) 44 0 x1 = (-1) then (if x1 < 0 ∨ 40 ≤ x1.toNatClampNeg then none else ag_bd (f_X6_look fu ((ag_up s 47 0 x1 1) 45 0 x1) (ag_up s 47 0 x1 1)) fun r141 => if x1 < 0 ∨ 40 ≤ x1.toNatClampNeg then none else some (r141.2 47 0 x1, r141.2)) else (if x1 < 0 ∨ 40 ≤ x1.toNatClampNeg then none else some ((ag_up s 47 0 x1 1) 47 0 x1, (ag_up s 47 0 x1 1))))
def f_X6_decide_b28 (fu : Nat) (x1 : Int32) (y1 : Int32) (s : ag_S) : Option (Int32 × ag_S) := ag_bd (f_X6_goesWell fu y1 s) fun r28 => if r28.1 = 0 then (some (0, r28.2)) else (ag_bd (f_X6_votesOf fu x1 1 r28.2) fun r39 => ag_bd (f_X6_votesOf fu x1 2 r28.2) fun r46 => if x1 < 0 ∨ 40 ≤ x1.toNatClampNeg then none else if r28.2 48 0 x1 = 1 then (if (5 : Int32) ≤ r39 then (f_X6_decide_b111 fu x1 r39 r46 r28.2) else (if (5 : Int32) ≤ r46 then (f_X6_decide_b111 fu x1 r39 r46 r28.2) else (if x1 < 0 ∨ 40 ≤ x1.toNatClampNeg then none else f_X6_decide_L82 fu fu x1 0 (ag_up r28.2 48 0 x1 2)))) else (f_X6_decide_b111 fu x1 r39 r46 r28.2))
def f_X6_decide (fu : Nat) (x1 : Int32) (s : ag_S) : Option (Int32 × ag_S) := ag_bd (f_X6_isAmendment fu x1 s) fun r2 => if r2 = 0 then (f_X6_decide_b28 fu x1 1 s) else (ag_bd (f_X6_isFree fu x1 s) fun r17 => if r17 = 0 then (f_X6_decide_b28 fu x1 2 s) else (f_X6_decide_b28 fu x1 0 s))
abbrev rm_X6_decide : Room := { frames := 5, cells := 0, slots := 0, locals := 115 }
theorem dd_yX6_decide : yX6_decide.cls = RX6 ∧ yX6_decide.cls ≠ "java/lang/invoke/MethodHandle" ∧ yX6_decide.cls ≠ "java/lang/invoke/VarHandle" ∧ (parseMethodDescriptor yX6_decide.desc).map (fun d => d.parameters.length) = some 1 := by decide +kernel
set_option maxHeartbeats 4000000 in
set_option maxRecDepth 100000 in
theorem c_X6_decide {z : ag_Z} {l : Launch} {n : ag_N} {p : ag_P} {s : ag_S} {fu : Nat} {x1 : Int32} {out : Int32 × ag_S} (t6 : vp_in 0 (n 6)) (hf : f_X6_decide fu x1 s = some out) : Met l yX6_decide (ag_ws yX6_decide cX6_decide 6 ((some FieldType.int))) rm_X6_decide (va_Pc [.ref (p 6 0), .int x1] (ag_Pre z n p s)) (ag_Ri z n p out.1 out.2) 0 0 (ag_A z) := by
  refine Met.ofW (cc := cX6_decide) (maxL := 6) (ret := (some FieldType.int)) (by decide) rfl ?_
  intro p0 e st m args below meth c s9 B hml hv
  obtain ⟨ha, h0, hG, hW⟩ := hv
  have hx := B.exec
  have hb := B.bytes
  have hr := B.returns
  have hts := atoms_spec (ws := ag_ws yX6_decide cX6_decide 6 ((some FieldType.int))) B.pre
  have hT : ∀ w ∈ ag_tbl, w.before args st = true := fun w h => hts w (List.mem_cons_of_mem _ h)
  have hown : st.vm.findClass RX6 = some m.cls := findClass_of_methodNamed B.named
  have hlocks := B.notSynchronized
  have hS : va_S (ag_A z) st.heap st.heap [] := va_S.rf
  obtain ⟨ls, hls, hl⟩ : ∃ ls, entryFrame m args 6 = F0 m 0 ls [] ∧ lv_has ls 6 [(0, .ref (p 6 0)), (1, .int x1)] := by rw [ha]; exact ag_entry m [.ref (p 6 0), .int x1] (Nat.le_of_ble_eq_true rfl)
  rw [hls]
  have k82 : ∀ (nf : Nat) (x1 : Int32) (x5 : Int32) (s : ag_S) (H : Heap) (locs : List Loc) (ls : Array Slot), ag_W z n p s H → va_S (ag_A z) st.heap H locs → lv_has ls 6 [(0, .ref (p 6 0)), (1, .int x1), (5, .int x5)] → f_X6_decide_L82 fu nf x1 x5 s = some out → W p0 l e (headSpec (ag_ws yX6_decide cX6_decide 6 ((some FieldType.int))) rm_X6_decide).room st m args below meth c H locs 0 0 (MQ below (ag_Ri z n p out.1 out.2) args st 0 0 (ag_A z)) (F0 m 82 ls []) := by
    intro nf
    induction nf with
    | zero => intro x1 x5 s H locs ls hW hS hl hf; rw [f_X6_decide_L82] at hf; cases hf
    | succ nf ih =>
      intro x1 x5 s H locs ls hW hS hl hf
      rw [f_X6_decide_L82] at hf
      refine lv_iload hx hb dX6_decide_82 (lv_at hl 2 rfl) ?_
      refine lv_bipush (v := 9) hx hb dX6_decide_84 (by decide) ?_
      refine lv_icmp_ge (tgt := 108) hx hb dX6_decide_86 (by decide) (fun c86 => ?_) (fun c86 => ?_)
      · have hf := ag_t c86 hf
        refine lv_goto (tgt := 160) hx hb dX6_decide_108 (by decide) ?_
        refine lv_aload_n hx hb dX6_decide_160 rfl (lv_at hl 0 rfl) ?_
        refine g6_17 hx hb hT hown hG hW t6 q805 dX6_decide_161 ?_
        have t47 := ag_fix hW (k := 6) (f := 17) (t := 47) t6 rfl rfl
        refine lv_iload_n hx hb dX6_decide_164 rfl (lv_at hl 1 rfl) ?_
        obtain ⟨a165, hf⟩ := ag_n hf
        refine ag_iald hx hb hG hW t47 rfl rfl a165 dX6_decide_165 ?_
        exact ag_iret hx hb hr rfl hlocks hS (congrArg Prod.fst (Option.some.inj hf)) (congrArg Prod.snd (Option.some.inj hf) ▸ hW) dX6_decide_166
      · have hf := ag_f c86 hf
        refine lv_aload_n hx hb dX6_decide_89 rfl (lv_at hl 0 rfl) ?_
        refine g6_19 hx hb hT hown hG hW t6 q807 dX6_decide_90 ?_
        have t49 := ag_fix hW (k := 6) (f := 19) (t := 49) t6 rfl rfl
        refine lv_bipush (v := 9) hx hb dX6_decide_93 (by decide) ?_
        refine lv_iload_n hx hb dX6_decide_95 rfl (lv_at hl 1 rfl) ?_
        refine lv_imul hx hb dX6_decide_96 ?_
        refine lv_iload hx hb dX6_decide_97 (lv_at hl 2 rfl) ?_
        refine lv_iadd hx hb dX6_decide_99 ?_
        refine lv_iconst (v := 0) hx hb dX6_decide_100 (by decide) ?_
        obtain ⟨a101, hf⟩ := ag_n hf
        refine ag_iast hx hb hG hW hS t49 rfl rfl (by decide) a101 dX6_decide_101 (fun H locs hW hS => ?_)
        refine lv_iinc (v := x5 + 1) (lv' := [(5, .int (x5 + 1)), (0, .ref (p 6 0)), (1, .int x1)]) hx hb dX6_decide_102 hl (k := 2) rfl rfl (by decide) rfl (fun ls hl => ?_)
        refine lv_goto (tgt := 82) hx hb dX6_decide_105 (by decide) ?_
        exact ih _ _ _ _ _ _ hW hS (lv_sub hl [1, 2, 0] rfl) hf
  have k111 : ∀ (x1 : Int32) (x3 : Int32) (x4 : Int32) (s : ag_S) (H : Heap) (locs : List Loc) (ls : Array Slot), ag_W z n p s H → va_S (ag_A z) st.heap H locs → lv_has ls 6 [(0, .ref (p 6 0)), (1, .int x1), (3, .int x3), (4, .int x4)] → f_X6_decide_b111 fu x1 x3 x4 s = some out → W p0 l e (headSpec (ag_ws yX6_decide cX6_decide 6 ((some FieldType.int))) rm_X6_decide).room st m args below meth c H locs 0 0 (MQ below (ag_Ri z n p out.1 out.2) args st 0 0 (ag_A z)) (F0 m 111 ls []) := by
    intro x1 x3 x4 s H locs ls hW hS hl hf
    unfold f_X6_decide_b111 at hf
    refine lv_iload_n hx hb dX6_decide_111 rfl (lv_at hl 2 rfl) ?_
    refine lv_iload hx hb dX6_decide_112 (lv_at hl 3 rfl) ?_
    refine lv_icmp_le (tgt := 153) hx hb dX6_decide_114 (by decide) (fun c114 => ?_) (fun c114 => ?_)
    · have hf := ag_t c114 hf
      refine lv_aload_n hx hb dX6_decide_153 rfl (lv_at hl 0 rfl) ?_
      refine lv_iload_n hx hb dX6_decide_154 rfl (lv_at hl 1 rfl) ?_
      obtain ⟨r155, hg155, hf⟩ := ag_bs hf
      refine ag_cVi hx hb hml hT hown hG h0 hS hW (c_X6_fall t6 hg155) ⟨rfl, rfl⟩ q965 q967 qs38 q11 q968 dd_yX6_fall ⟨Nat.le_of_ble_eq_true rfl, Nat.le_of_ble_eq_true rfl⟩ t6 rfl rfl hl.1 rfl (Nat.le_of_ble_eq_true rfl) ⟨Nat.le_of_ble_eq_true rfl, Nat.le_of_ble_eq_true rfl⟩ dX6_decide_155 (fun H locs hW hS => ?_)
      refine lv_istore (lv' := [(5, .int r155.1), (0, .ref (p 6 0)), (1, .int x1), (3, .int x3), (4, .int x4)]) hx hb dX6_decide_158 hl (by decide) rfl (fun ls hl => ?_)
      refine lv_aload_n hx hb dX6_decide_160 rfl (lv_at hl 1 rfl) ?_
      refine g6_17 hx hb hT hown hG hW t6 q805 dX6_decide_161 ?_
      have t47 := ag_fix hW (k := 6) (f := 17) (t := 47) t6 rfl rfl
      refine lv_iload_n hx hb dX6_decide_164 rfl (lv_at hl 2 rfl) ?_
      obtain ⟨a165, hf⟩ := ag_n hf
      refine ag_iald hx hb hG hW t47 rfl rfl a165 dX6_decide_165 ?_
      exact ag_iret hx hb hr rfl hlocks hS (congrArg Prod.fst (Option.some.inj hf)) (congrArg Prod.snd (Option.some.inj hf) ▸ hW) dX6_decide_166
    · have hf := ag_f c114 hf
      refine lv_aload_n hx hb dX6_decide_117 rfl (lv_at hl 0 rfl) ?_
      refine g6_17 hx hb hT hown hG hW t6 q805 dX6_decide_118 ?_
      have t47 := ag_fix hW (k := 6) (f := 17) (t := 47) t6 rfl rfl
      refine lv_iload_n hx hb dX6_decide_121 rfl (lv_at hl 1 rfl) ?_
      refine lv_iconst (v := 1) hx hb dX6_decide_122 (by decide) ?_
      obtain ⟨a123, hf⟩ := ag_n hf
      refine ag_iast hx hb hG hW hS t47 rfl rfl (by decide) a123 dX6_decide_123 (fun H locs hW hS => ?_)
      refine lv_aload_n hx hb dX6_decide_124 rfl (lv_at hl 0 rfl) ?_
      refine g6_14 hx hb hT hown hG hW t6 q802 dX6_decide_125 ?_
      have t44 := ag_fix hW (k := 6) (f := 14) (t := 44) t6 rfl rfl
      refine lv_iload_n hx hb dX6_decide_128 rfl (lv_at hl 1 rfl) ?_
      obtain ⟨a129, hf⟩ := ag_n hf
      refine ag_iald hx hb hG hW t44 rfl rfl a129 dX6_decide_129 ?_
      refine lv_iconst (v := (-1)) hx hb dX6_decide_130 (by decide) ?_
      refine lv_icmp_ne (tgt := 147) hx hb dX6_decide_131 (by decide) (fun c131 => ?_) (fun c131 => ?_)
      · have hf := ag_f c131 hf
        refine lv_iconst (v := 0) hx hb dX6_decide_147 (by decide) ?_
        refine lv_istore (lv' := [(5, .int 0), (0, .ref (p 6 0)), (1, .int x1), (3, .int x3), (4, .int x4)]) hx hb dX6_decide_148 hl (by decide) rfl (fun ls hl => ?_)
        refine lv_goto (tgt := 160) hx hb dX6_decide_150 (by decide) ?_
        refine lv_aload_n hx hb dX6_decide_160 rfl (lv_at hl 1 rfl) ?_
        refine g6_17 hx hb hT hown hG hW t6 q805 dX6_decide_161 ?_
        have t47 := ag_fix hW (k := 6) (f := 17) (t := 47) t6 rfl rfl
        refine lv_iload_n hx hb dX6_decide_164 rfl (lv_at hl 2 rfl) ?_
        obtain ⟨a165, hf⟩ := ag_n hf
        refine ag_iald hx hb hG hW t47 rfl rfl a165 dX6_decide_165 ?_
        exact ag_iret hx hb hr rfl hlocks hS (congrArg Prod.fst (Option.some.inj hf)) (congrArg Prod.snd (Option.some.inj hf) ▸ hW) dX6_decide_166
      · have hf := ag_t c131 hf
        refine lv_aload_n hx hb dX6_decide_134 rfl (lv_at hl 0 rfl) ?_
        refine lv_aload_n hx hb dX6_decide_135 rfl (lv_at hl 0 rfl) ?_
        refine g6_15 hx hb hT hown hG hW t6 q803 dX6_decide_136 ?_
        have t45 := ag_fix hW (k := 6) (f := 15) (t := 45) t6 rfl rfl
        refine lv_iload_n hx hb dX6_decide_139 rfl (lv_at hl 1 rfl) ?_
        obtain ⟨a140, hf⟩ := ag_n hf
        refine ag_iald hx hb hG hW t45 rfl rfl a140 dX6_decide_140 ?_
        obtain ⟨r141, hg141, hf⟩ := ag_bs hf
        refine ag_cVi hx hb hml hT hown hG h0 hS hW (c_X6_look t6 hg141) ⟨rfl, rfl⟩ q945 q947 qs33 q11 q948 dd_yX6_look ⟨Nat.le_of_ble_eq_true rfl, Nat.le_of_ble_eq_true rfl⟩ t6 rfl rfl hl.1 rfl (Nat.le_of_ble_eq_true rfl) ⟨Nat.le_of_ble_eq_true rfl, Nat.le_of_ble_eq_true rfl⟩ dX6_decide_141 (fun H locs hW hS => ?_)
        refine lv_goto (tgt := 148) hx hb dX6_decide_144 (by decide) ?_
        refine lv_istore (lv' := [(5, .int r141.1), (0, .ref (p 6 0)), (1, .int x1), (3, .int x3), (4, .int x4)]) hx hb dX6_decide_148 hl (by decide) rfl (fun ls hl => ?_)
        refine lv_goto (tgt := 160) hx hb dX6_decide_150 (by decide) ?_
        refine lv_aload_n hx hb dX6_decide_160 rfl (lv_at hl 1 rfl) ?_
        refine g6_17 hx hb hT hown hG hW t6 q805 dX6_decide_161 ?_
        have t47 := ag_fix hW (k := 6) (f := 17) (t := 47) t6 rfl rfl
        refine lv_iload_n hx hb dX6_decide_164 rfl (lv_at hl 2 rfl) ?_
        obtain ⟨a165, hf⟩ := ag_n hf
        refine ag_iald hx hb hG hW t47 rfl rfl a165 dX6_decide_165 ?_
        exact ag_iret hx hb hr rfl hlocks hS (congrArg Prod.fst (Option.some.inj hf)) (congrArg Prod.snd (Option.some.inj hf) ▸ hW) dX6_decide_166
  have k28 : ∀ (x1 : Int32) (y1 : Int32) (s : ag_S) (H : Heap) (locs : List Loc) (ls : Array Slot), ag_W z n p s H → va_S (ag_A z) st.heap H locs → lv_has ls 6 [(0, .ref (p 6 0)), (1, .int x1)] → f_X6_decide_b28 fu x1 y1 s = some out → W p0 l e (headSpec (ag_ws yX6_decide cX6_decide 6 ((some FieldType.int))) rm_X6_decide).room st m args below meth c H locs 0 0 (MQ below (ag_Ri z n p out.1 out.2) args st 0 0 (ag_A z)) (F0 m 28 ls [.int y1, .ref (p 6 0)]) := by
    intro x1 y1 s H locs ls hW hS hl hf
    unfold f_X6_decide_b28 at hf
    obtain ⟨r28, hg28, hf⟩ := ag_bs hf
    refine ag_cVi hx hb hml hT hown hG h0 hS hW (c_X6_goesWell t6 hg28) ⟨rfl, rfl⟩ q896 q898 qs27 q11 q899 dd_yX6_goesWell ⟨Nat.le_of_ble_eq_true rfl, Nat.le_of_ble_eq_true rfl⟩ t6 rfl rfl hl.1 rfl (Nat.le_of_ble_eq_true rfl) ⟨Nat.le_of_ble_eq_true rfl, Nat.le_of_ble_eq_true rfl⟩ dX6_decide_28 (fun H locs hW hS => ?_)
    refine lv_if_ne (tgt := 36) hx hb dX6_decide_31 (by decide) (fun c31 => ?_) (fun c31 => ?_)
    · have hf := ag_f c31 hf
      refine lv_aload_n hx hb dX6_decide_36 rfl (lv_at hl 0 rfl) ?_
      refine lv_iload_n hx hb dX6_decide_37 rfl (lv_at hl 1 rfl) ?_
      refine lv_iconst (v := 1) hx hb dX6_decide_38 (by decide) ?_
      obtain ⟨r39, hg39, hf⟩ := ag_bs hf
      refine ag_cVi hx hb hml hT hown hG h0 hS hW (c_X6_votesOf t6 hg39) ⟨rfl, rfl⟩ q933 q935 qs31 q11 q936 dd_yX6_votesOf ⟨Nat.le_of_ble_eq_true rfl, Nat.le_of_ble_eq_true rfl⟩ t6 rfl rfl hl.1 rfl (Nat.le_of_ble_eq_true rfl) ⟨Nat.le_of_ble_eq_true rfl, Nat.le_of_ble_eq_true rfl⟩ dX6_decide_39 (fun H locs hW hS => ?_)
      refine lv_istore_n (lv' := [(3, .int r39), (0, .ref (p 6 0)), (1, .int x1)]) hx hb dX6_decide_42 rfl hl (by decide) rfl (fun ls hl => ?_)
      refine lv_aload_n hx hb dX6_decide_43 rfl (lv_at hl 1 rfl) ?_
      refine lv_iload_n hx hb dX6_decide_44 rfl (lv_at hl 2 rfl) ?_
      refine lv_iconst (v := 2) hx hb dX6_decide_45 (by decide) ?_
      obtain ⟨r46, hg46, hf⟩ := ag_bs hf
      refine ag_cVi hx hb hml hT hown hG h0 hS hW (c_X6_votesOf t6 hg46) ⟨rfl, rfl⟩ q933 q935 qs31 q11 q936 dd_yX6_votesOf ⟨Nat.le_of_ble_eq_true rfl, Nat.le_of_ble_eq_true rfl⟩ t6 rfl rfl hl.1 rfl (Nat.le_of_ble_eq_true rfl) ⟨Nat.le_of_ble_eq_true rfl, Nat.le_of_ble_eq_true rfl⟩ dX6_decide_46 (fun H locs hW hS => ?_)
      refine lv_istore (lv' := [(4, .int r46), (3, .int r39), (0, .ref (p 6 0)), (1, .int x1)]) hx hb dX6_decide_49 hl (by decide) rfl (fun ls hl => ?_)
      refine lv_aload_n hx hb dX6_decide_51 rfl (lv_at hl 2 rfl) ?_
      refine g6_18 hx hb hT hown hG hW t6 q806 dX6_decide_52 ?_
      have t48 := ag_fix hW (k := 6) (f := 18) (t := 48) t6 rfl rfl
      refine lv_iload_n hx hb dX6_decide_55 rfl (lv_at hl 3 rfl) ?_
      obtain ⟨a56, hf⟩ := ag_n hf
      refine ag_iald hx hb hG hW t48 rfl rfl a56 dX6_decide_56 ?_
      refine lv_iconst (v := 1) hx hb dX6_decide_57 (by decide) ?_
      refine lv_icmp_ne (tgt := 111) hx hb dX6_decide_58 (by decide) (fun c58 => ?_) (fun c58 => ?_)
      · have hf := ag_f c58 hf
        exact k111 _ _ _ _ _ _ _ hW hS (lv_sub hl [2, 3, 1, 0] rfl) hf
      · have hf := ag_t c58 hf
        refine lv_iload_n hx hb dX6_decide_61 rfl (lv_at hl 1 rfl) ?_
        refine lv_iconst (v := 5) hx hb dX6_decide_62 (by decide) ?_
        refine lv_icmp_ge (tgt := 111) hx hb dX6_decide_63 (by decide) (fun c63 => ?_) (fun c63 => ?_)
        · have hf := ag_t c63 hf
          exact k111 _ _ _ _ _ _ _ hW hS (lv_sub hl [2, 3, 1, 0] rfl) hf
        · have hf := ag_f c63 hf
          refine lv_iload hx hb dX6_decide_66 (lv_at hl 0 rfl) ?_
          refine lv_iconst (v := 5) hx hb dX6_decide_68 (by decide) ?_
          refine lv_icmp_ge (tgt := 111) hx hb dX6_decide_69 (by decide) (fun c69 => ?_) (fun c69 => ?_)
          · have hf := ag_t c69 hf
            exact k111 _ _ _ _ _ _ _ hW hS (lv_sub hl [2, 3, 1, 0] rfl) hf
          · have hf := ag_f c69 hf
            refine lv_aload_n hx hb dX6_decide_72 rfl (lv_at hl 2 rfl) ?_
            refine g6_18 hx hb hT hown hG hW t6 q806 dX6_decide_73 ?_
            have t48 := ag_fix hW (k := 6) (f := 18) (t := 48) t6 rfl rfl
            refine lv_iload_n hx hb dX6_decide_76 rfl (lv_at hl 3 rfl) ?_
            refine lv_iconst (v := 2) hx hb dX6_decide_77 (by decide) ?_
            obtain ⟨a78, hf⟩ := ag_n hf
            refine ag_iast hx hb hG hW hS t48 rfl rfl (by decide) a78 dX6_decide_78 (fun H locs hW hS => ?_)
            refine lv_iconst (v := 0) hx hb dX6_decide_79 (by decide) ?_
            refine lv_istore (lv' := [(5, .int 0), (4, .int r46), (3, .int r39), (0, .ref (p 6 0)), (1, .int x1)]) hx hb dX6_decide_80 hl (by decide) rfl (fun ls hl => ?_)
            exact k82 fu _ _ _ _ _ _ hW hS (lv_sub hl [3, 4, 0] rfl) hf
    · have hf := ag_t c31 hf
      refine lv_iconst (v := 0) hx hb dX6_decide_34 (by decide) ?_
      exact ag_iret hx hb hr rfl hlocks hS (congrArg Prod.fst (Option.some.inj hf)) (congrArg Prod.snd (Option.some.inj hf) ▸ hW) dX6_decide_35
  unfold f_X6_decide at hf
  refine lv_aload_n hx hb dX6_decide_0 rfl (lv_at hl 0 rfl) ?_
  refine lv_iload_n hx hb dX6_decide_1 rfl (lv_at hl 1 rfl) ?_
  obtain ⟨r2, hg2, hf⟩ := ag_bs hf
  refine ag_cVi hx hb hml hT hown hG h0 hS hW (c_X6_isAmendment t6 hg2) ⟨rfl, rfl⟩ q925 q927 qs30 q11 q928 dd_yX6_isAmendment ⟨Nat.le_of_ble_eq_true rfl, Nat.le_of_ble_eq_true rfl⟩ t6 rfl rfl hl.1 rfl (Nat.le_of_ble_eq_true rfl) ⟨Nat.le_of_ble_eq_true rfl, Nat.le_of_ble_eq_true rfl⟩ dX6_decide_2 (fun H locs hW hS => ?_)
  refine lv_istore_n (lv' := [(2, .int r2), (0, .ref (p 6 0)), (1, .int x1)]) hx hb dX6_decide_5 rfl hl (by decide) rfl (fun ls hl => ?_)
  refine lv_aload_n hx hb dX6_decide_6 rfl (lv_at hl 1 rfl) ?_
  refine lv_iload_n hx hb dX6_decide_7 rfl (lv_at hl 0 rfl) ?_
  refine lv_if_ne (tgt := 15) hx hb dX6_decide_8 (by decide) (fun c8 => ?_) (fun c8 => ?_)
  · have hf := ag_f c8 hf
    refine lv_aload_n hx hb dX6_decide_15 rfl (lv_at hl 1 rfl) ?_
    refine lv_iload_n hx hb dX6_decide_16 rfl (lv_at hl 2 rfl) ?_
    obtain ⟨r17, hg17, hf⟩ := ag_bs hf
    refine ag_cVi hx hb hml hT hown hG h0 hS hW (c_X6_isFree t6 hg17) ⟨rfl, rfl⟩ q941 q943 qs32 q11 q944 dd_yX6_isFree ⟨Nat.le_of_ble_eq_true rfl, Nat.le_of_ble_eq_true rfl⟩ t6 rfl rfl hl.1 rfl (Nat.le_of_ble_eq_true rfl) ⟨Nat.le_of_ble_eq_true rfl, Nat.le_of_ble_eq_true rfl⟩ dX6_decide_17 (fun H locs hW hS => ?_)
    refine lv_if_eq (tgt := 27) hx hb dX6_decide_20 (by decide) (fun c20 => ?_) (fun c20 => ?_)
    · have hf := ag_t c20 hf
      refine lv_iconst (v := 2) hx hb dX6_decide_27 (by decide) ?_
      exact k28 _ _ _ _ _ _ hW hS (lv_sub hl [1, 2] rfl) hf
    · have hf := ag_f c20 hf
      refine lv_iconst (v := 0) hx hb dX6_decide_23 (by decide) ?_
      refine lv_goto (tgt := 28) hx hb dX6_decide_24 (by decide) ?_
      exact k28 _ _ _ _ _ _ hW hS (lv_sub hl [1, 2] rfl) hf
  · have hf := ag_t c8 hf
    refine lv_iconst (v := 1) hx hb dX6_decide_11 (by decide) ?_
    refine lv_goto (tgt := 28) hx hb dX6_decide_12 (by decide) ?_
    exact k28 _ _ _ _ _ _ hW hS (lv_sub hl [1, 2] rfl) hf
def f_X6_strike (fu : Nat) (x1 : Int32) (s : ag_S) : Option (Int32 × ag_S) := ag_bd (f_X6_isAmendment fu x1 s) fun r2 => if r2 = 0 then (ag_bd (f_X6_goesWell fu 1 s) fun r30 => if r30.1 = 0 then (some (0, r30.2)) else (ag_bd (f_X6_fall fu x1 r30.2) fun r38 => some (r38.1, r38.2))) else (if x1 < 0 ∨ 40 ≤ x1.toNatClampNeg then none else if s 47 0 x1 = 1 then (ag_bd (f_X6_goesWell fu 0 s) fun r30 => if r30.1 = 0 then (some (0, r30.2)) else (ag_bd (f_X6_fall fu x1 r30.2) fun r38 => some (r38.1, r38.2))) else (ag_bd (f_X6_goesWell fu 2 s) fun r30 => if r30.1 = 0 then (some (0, r30.2)) else (ag_bd (f_X6_fall fu x1 r30.2) fun r38 => some (r38.1, r38.2))))
abbrev rm_X6_strike : Room := { frames := 5, cells := 0, slots := 0, locals := 115 }
theorem dd_yX6_strike : yX6_strike.cls = RX6 ∧ yX6_strike.cls ≠ "java/lang/invoke/MethodHandle" ∧ yX6_strike.cls ≠ "java/lang/invoke/VarHandle" ∧ (parseMethodDescriptor yX6_strike.desc).map (fun d => d.parameters.length) = some 1 := by decide +kernel
set_option maxHeartbeats 4000000 in
set_option maxRecDepth 100000 in
theorem c_X6_strike {z : ag_Z} {l : Launch} {n : ag_N} {p : ag_P} {s : ag_S} {fu : Nat} {x1 : Int32} {out : Int32 × ag_S} (t6 : vp_in 0 (n 6)) (hf : f_X6_strike fu x1 s = some out) : Met l yX6_strike (ag_ws yX6_strike cX6_strike 3 ((some FieldType.int))) rm_X6_strike (va_Pc [.ref (p 6 0), .int x1] (ag_Pre z n p s)) (ag_Ri z n p out.1 out.2) 0 0 (ag_A z) := by
  refine Met.ofW (cc := cX6_strike) (maxL := 3) (ret := (some FieldType.int)) (by decide) rfl ?_
  intro p0 e st m args below meth c s9 B hml hv
  obtain ⟨ha, h0, hG, hW⟩ := hv
  have hx := B.exec
  have hb := B.bytes
  have hr := B.returns
  have hts := atoms_spec (ws := ag_ws yX6_strike cX6_strike 3 ((some FieldType.int))) B.pre
  have hT : ∀ w ∈ ag_tbl, w.before args st = true := fun w h => hts w (List.mem_cons_of_mem _ h)
  have hown : st.vm.findClass RX6 = some m.cls := findClass_of_methodNamed B.named
  have hlocks := B.notSynchronized
  have hS : va_S (ag_A z) st.heap st.heap [] := va_S.rf
  obtain ⟨ls, hls, hl⟩ : ∃ ls, entryFrame m args 3 = F0 m 0 ls [] ∧ lv_has ls 3 [(0, .ref (p 6 0)), (1, .int x1)] := by rw [ha]; exact ag_entry m [.ref (p 6 0), .int x1] (Nat.le_of_ble_eq_true rfl)
  rw [hls]
  unfold f_X6_strike at hf
  refine lv_aload_n hx hb dX6_strike_0 rfl (lv_at hl 0 rfl) ?_
  refine lv_iload_n hx hb dX6_strike_1 rfl (lv_at hl 1 rfl) ?_
  obtain ⟨r2, hg2, hf⟩ := ag_bs hf
  refine ag_cVi hx hb hml hT hown hG h0 hS hW (c_X6_isAmendment t6 hg2) ⟨rfl, rfl⟩ q925 q927 qs30 q11 q928 dd_yX6_isAmendment ⟨Nat.le_of_ble_eq_true rfl, Nat.le_of_ble_eq_true rfl⟩ t6 rfl rfl hl.1 rfl (Nat.le_of_ble_eq_true rfl) ⟨Nat.le_of_ble_eq_true rfl, Nat.le_of_ble_eq_true rfl⟩ dX6_strike_2 (fun H locs hW hS => ?_)
  refine lv_istore_n (lv' := [(2, .int r2), (0, .ref (p 6 0)), (1, .int x1)]) hx hb dX6_strike_5 rfl hl (by decide) rfl (fun ls hl => ?_)
  refine lv_aload_n hx hb dX6_strike_6 rfl (lv_at hl 1 rfl) ?_
  refine lv_iload_n hx hb dX6_strike_7 rfl (lv_at hl 0 rfl) ?_
  refine lv_if_ne (tgt := 15) hx hb dX6_strike_8 (by decide) (fun c8 => ?_) (fun c8 => ?_)
  · have hf := ag_f c8 hf
    refine lv_aload_n hx hb dX6_strike_15 rfl (lv_at hl 1 rfl) ?_
    refine g6_17 hx hb hT hown hG hW t6 q805 dX6_strike_16 ?_
    have t47 := ag_fix hW (k := 6) (f := 17) (t := 47) t6 rfl rfl
    refine lv_iload_n hx hb dX6_strike_19 rfl (lv_at hl 2 rfl) ?_
    obtain ⟨a20, hf⟩ := ag_n hf
    refine ag_iald hx hb hG hW t47 rfl rfl a20 dX6_strike_20 ?_
    refine lv_iconst (v := 1) hx hb dX6_strike_21 (by decide) ?_
    refine lv_icmp_ne (tgt := 29) hx hb dX6_strike_22 (by decide) (fun c22 => ?_) (fun c22 => ?_)
    · have hf := ag_f c22 hf
      refine lv_iconst (v := 2) hx hb dX6_strike_29 (by decide) ?_
      obtain ⟨r30, hg30, hf⟩ := ag_bs hf
      refine ag_cVi hx hb hml hT hown hG h0 hS hW (c_X6_goesWell t6 hg30) ⟨rfl, rfl⟩ q896 q898 qs27 q11 q899 dd_yX6_goesWell ⟨Nat.le_of_ble_eq_true rfl, Nat.le_of_ble_eq_true rfl⟩ t6 rfl rfl hl.1 rfl (Nat.le_of_ble_eq_true rfl) ⟨Nat.le_of_ble_eq_true rfl, Nat.le_of_ble_eq_true rfl⟩ dX6_strike_30 (fun H locs hW hS => ?_)
      refine lv_if_eq (tgt := 44) hx hb dX6_strike_33 (by decide) (fun c33 => ?_) (fun c33 => ?_)
      · have hf := ag_t c33 hf
        refine lv_iconst (v := 0) hx hb dX6_strike_44 (by decide) ?_
        exact ag_iret hx hb hr rfl hlocks hS (congrArg Prod.fst (Option.some.inj hf)) (congrArg Prod.snd (Option.some.inj hf) ▸ hW) dX6_strike_45
      · have hf := ag_f c33 hf
        refine lv_aload_n hx hb dX6_strike_36 rfl (lv_at hl 1 rfl) ?_
        refine lv_iload_n hx hb dX6_strike_37 rfl (lv_at hl 2 rfl) ?_
        obtain ⟨r38, hg38, hf⟩ := ag_bs hf
        refine ag_cVi hx hb hml hT hown hG h0 hS hW (c_X6_fall t6 hg38) ⟨rfl, rfl⟩ q965 q967 qs38 q11 q968 dd_yX6_fall ⟨Nat.le_of_ble_eq_true rfl, Nat.le_of_ble_eq_true rfl⟩ t6 rfl rfl hl.1 rfl (Nat.le_of_ble_eq_true rfl) ⟨Nat.le_of_ble_eq_true rfl, Nat.le_of_ble_eq_true rfl⟩ dX6_strike_38 (fun H locs hW hS => ?_)
        refine lv_goto (tgt := 45) hx hb dX6_strike_41 (by decide) ?_
        exact ag_iret hx hb hr rfl hlocks hS (congrArg Prod.fst (Option.some.inj hf)) (congrArg Prod.snd (Option.some.inj hf) ▸ hW) dX6_strike_45
    · have hf := ag_t c22 hf
      refine lv_iconst (v := 0) hx hb dX6_strike_25 (by decide) ?_
      refine lv_goto (tgt := 30) hx hb dX6_strike_26 (by decide) ?_
      obtain ⟨r30, hg30, hf⟩ := ag_bs hf
      refine ag_cVi hx hb hml hT hown hG h0 hS hW (c_X6_goesWell t6 hg30) ⟨rfl, rfl⟩ q896 q898 qs27 q11 q899 dd_yX6_goesWell ⟨Nat.le_of_ble_eq_true rfl, Nat.le_of_ble_eq_true rfl⟩ t6 rfl rfl hl.1 rfl (Nat.le_of_ble_eq_true rfl) ⟨Nat.le_of_ble_eq_true rfl, Nat.le_of_ble_eq_true rfl⟩ dX6_strike_30 (fun H locs hW hS => ?_)
      refine lv_if_eq (tgt := 44) hx hb dX6_strike_33 (by decide) (fun c33 => ?_) (fun c33 => ?_)
      · have hf := ag_t c33 hf
        refine lv_iconst (v := 0) hx hb dX6_strike_44 (by decide) ?_
        exact ag_iret hx hb hr rfl hlocks hS (congrArg Prod.fst (Option.some.inj hf)) (congrArg Prod.snd (Option.some.inj hf) ▸ hW) dX6_strike_45
      · have hf := ag_f c33 hf
        refine lv_aload_n hx hb dX6_strike_36 rfl (lv_at hl 1 rfl) ?_
        refine lv_iload_n hx hb dX6_strike_37 rfl (lv_at hl 2 rfl) ?_
        obtain ⟨r38, hg38, hf⟩ := ag_bs hf
        refine ag_cVi hx hb hml hT hown hG h0 hS hW (c_X6_fall t6 hg38) ⟨rfl, rfl⟩ q965 q967 qs38 q11 q968 dd_yX6_fall ⟨Nat.le_of_ble_eq_true rfl, Nat.le_of_ble_eq_true rfl⟩ t6 rfl rfl hl.1 rfl (Nat.le_of_ble_eq_true rfl) ⟨Nat.le_of_ble_eq_true rfl, Nat.le_of_ble_eq_true rfl⟩ dX6_strike_38 (fun H locs hW hS => ?_)
        refine lv_goto (tgt := 45) hx hb dX6_strike_41 (by decide) ?_
        exact ag_iret hx hb hr rfl hlocks hS (congrArg Prod.fst (Option.some.inj hf)) (congrArg Prod.snd (Option.some.inj hf) ▸ hW) dX6_strike_45
  · have hf := ag_t c8 hf
    refine lv_iconst (v := 1) hx hb dX6_strike_11 (by decide) ?_
    refine lv_goto (tgt := 30) hx hb dX6_strike_12 (by decide) ?_
    obtain ⟨r30, hg30, hf⟩ := ag_bs hf
    refine ag_cVi hx hb hml hT hown hG h0 hS hW (c_X6_goesWell t6 hg30) ⟨rfl, rfl⟩ q896 q898 qs27 q11 q899 dd_yX6_goesWell ⟨Nat.le_of_ble_eq_true rfl, Nat.le_of_ble_eq_true rfl⟩ t6 rfl rfl hl.1 rfl (Nat.le_of_ble_eq_true rfl) ⟨Nat.le_of_ble_eq_true rfl, Nat.le_of_ble_eq_true rfl⟩ dX6_strike_30 (fun H locs hW hS => ?_)
    refine lv_if_eq (tgt := 44) hx hb dX6_strike_33 (by decide) (fun c33 => ?_) (fun c33 => ?_)
    · have hf := ag_t c33 hf
      refine lv_iconst (v := 0) hx hb dX6_strike_44 (by decide) ?_
      exact ag_iret hx hb hr rfl hlocks hS (congrArg Prod.fst (Option.some.inj hf)) (congrArg Prod.snd (Option.some.inj hf) ▸ hW) dX6_strike_45
    · have hf := ag_f c33 hf
      refine lv_aload_n hx hb dX6_strike_36 rfl (lv_at hl 1 rfl) ?_
      refine lv_iload_n hx hb dX6_strike_37 rfl (lv_at hl 2 rfl) ?_
      obtain ⟨r38, hg38, hf⟩ := ag_bs hf
      refine ag_cVi hx hb hml hT hown hG h0 hS hW (c_X6_fall t6 hg38) ⟨rfl, rfl⟩ q965 q967 qs38 q11 q968 dd_yX6_fall ⟨Nat.le_of_ble_eq_true rfl, Nat.le_of_ble_eq_true rfl⟩ t6 rfl rfl hl.1 rfl (Nat.le_of_ble_eq_true rfl) ⟨Nat.le_of_ble_eq_true rfl, Nat.le_of_ble_eq_true rfl⟩ dX6_strike_38 (fun H locs hW hS => ?_)
      refine lv_goto (tgt := 45) hx hb dX6_strike_41 (by decide) ?_
      exact ag_iret hx hb hr rfl hlocks hS (congrArg Prod.fst (Option.some.inj hf)) (congrArg Prod.snd (Option.some.inj hf) ▸ hW) dX6_strike_45
def f_X6_grant_b144 (fu : Nat) (x1 : Int32) (x2 : Int32) (x3 : Int32) (x4 : Int32) (x5 : Int32) (y1 : Int32) (s : ag_S) : Option (Int32 × ag_S) := ag_bd (f_X6_goesWell fu y1 s) fun r144 => if r144.1 = 0 then (some (0, r144.2)) else (if r144.2 6 20 0 < 0 ∨ 40 ≤ (r144.2 6 20 0).toNatClampNeg then none else if (ag_up r144.2 51 0 (r144.2 6 20 0) x1) 6 20 0 < 0 ∨ 40 ≤ ((ag_up r144.2 51 0 (r144.2 6 20 0) x1) 6 20 0).toNatClampNeg then none else if (ag_up (ag_up r144.2 51 0 (r144.2 6 20 0) x1) 52 0 ((ag_up r144.2 51 0 (r144.2 6 20 0) x1) 6 20 0) x2) 6 20 0 < 0 ∨ 40 ≤ ((ag_up (ag_up r144.2 51 0 (r144.2 6 20 0) x1) 52 0 ((ag_up r144.2 51 0 (r144.2 6 20 0) x1) 6 20 0) x2) 6 20 0).toNatClampNeg then none else if (ag_up (ag_up (ag_up r144.2 51 0 (r144.2 6 20 0) x1) 52 0 ((ag_up r144.2 51 0 (r144.2 6 20 0) x1) 6 20 0) x2) 53 0 ((ag_up (ag_up r144.2 51 0 (r144.2 6 20 0) x1) 52 0 ((ag_up r144.2 51 0 (r144.2 6 20 0) x1) 6 20 0) x2) 6 20 0) x3) 6 20 0 < 0 ∨ 40 ≤ ((ag_up (ag_up (ag_up r144.2 51 0 (r144.2 6 20 0) x1) 52 0 ((ag_up r144.2 51 0 (r144.2 6 20 0) x1) 6 20 0) x2) 53 0 ((ag_up (ag_up r144.2 51 0 (r144.2 6 20 0) x1) 52 0 ((ag_up r144.2 51 0 (r144.2 6 20 0) x1) 6 20 0) x2) 6 20 0) x3) 6 20 0).toNatClampNeg then none else if (ag_up (ag_up (ag_up (ag_up r144.2 51 0 (r144.2 6 20 0) x1) 52 0 ((ag_up r144.2 51 0 (r144.2 6 20 0) x1) 6 20 0) x2) 53 0 ((ag_up (ag_up r144.2 51 0 (r144.2 6 20 0) x1) 52 0 ((ag_up r144.2 51 0 (r144.2 6 20 0) x1) 6 20 0) x2) 6 20 0) x3) 55 0 ((ag_up (ag_up (ag_up r144.2 51 0 (r144.2 6 20 0) x1) 52 0 ((ag_up r144.2 51 0 (r144.2 6 20 0) x1) 6 20 0) x2) 53 0 ((ag_up (ag_up r144.2 51 0 (r144.2 6 20 0) x1) 52 0 ((ag_up r144.2 51 0 (r144.2 6 20 0) x1) 6 20 0) x2) 6 20 0) x3) 6 20 0) x4) 6 20 0 < 0 ∨ 40 ≤ ((ag_up (ag_up (ag_up (ag_up r144.2 51 0 (r144.2 6 20 0) x1) 52 0 ((ag_up r144.2 51 0 (r144.2 6 20 0) x1) 6 20 0) x2) 53 0 ((ag_up (ag_up r144.2 51 0 (r144.2 6 20 0) x1) 52 0 ((ag_up r144.2 51 0 (r144.2 6 20 0) x1) 6 20 0) x2) 6 20 0) x3) 55 0 ((ag_up (ag_up (ag_up r144.2 51 0 (r144.2 6 20 0) x1) 52 0 ((ag_up r144.2 51 0 (r144.2 6 20 0) x1) 6 20 0) x2) 53 0 ((ag_up (ag_up r144.2 51 0 (r144.2 6 20 0) x1) 52 0 ((ag_up r144.2 51 0 (r144.2 6 20 0) x1) 6 20 0) x2) 6 20 0) x3) 6 20 0) x4) 6 20 0).toNatClampNeg then none else some (((ag_up (ag_up (ag_up (ag_up (ag_up (ag_up r144.2 51 0 (r144.2 6 20 0) x1) 52 0 ((ag_up r144.2 51 0 (r144.2 6 20 0) x1) 6 20 0) x2) 53 0 ((ag_up (ag_up r144.2 51 0 (r144.2 6 20 0) x1) 52 0 ((ag_up r144.2 51 0 (r144.2 6 20 0) x1) 6 20 0) x2) 6 20 0) x3) 55 0 ((ag_up (ag_up (ag_up r144.2 51 0 (r144.2 6 20 0) x1) 52 0 ((ag_up r144.2 51 0 (r144.2 6 20 0) x1) 6 20 0) x2) 53 0 ((ag_up (ag_up r144.2 51 0 (r144.2 6 20 0) x1) 52 0 ((ag_up r144.2 51 0 (r144.2 6 20 0) x1) 6 20 0) x2) 6 20 0) x3) 6 20 0) x4) 56 0 ((ag_up (ag_up (ag_up (ag_up r144.2 51 0 (r144.2 6 20 0) x1) 52 0 ((ag_up r144.2 51 0 (r144.2 6 20 0) x1) 6 20 0) x2) 53 0 ((ag_up (ag_up r144.2 51 0 (r144.2 6 20 0) x1) 52 0 ((ag_up r144.2 51 0 (r144.2 6 20 0) x1) 6 20 0) x2) 6 20 0) x3) 55 0 ((ag_up (ag_up (ag_up r144.2 51 0 (r144.2 6 20 0) x1) 52 0 ((ag_up r144.2 51 0 (r144.2 6 20 0) x1) 6 20 0) x2) 53 0 ((ag_up (ag_up r144.2 51 0 (r144.2 6 20 0) x1) 52 0 ((ag_up r144.2 51 0 (r144.2 6 20 0) x1) 6 20 0) x2) 6 20 0) x3) 6 20 0) x4) 6 20 0) (((ag_up (ag_up (ag_up (ag_up r144.2 51 0 (r144.2 6 20 0) x1) 52 0 ((ag_up r144.2 51 0 (r144.2 6 20 0) x1) 6 20 0) x2) 53 0 ((ag_up (ag_up r144.2 51 0 (r144.2 6 20 0) x1) 52 0 ((ag_up r144.2 51 0 (r144.2 6 20 0) x1) 6 20 0) x2) 6 20 0) x3) 55 0 ((ag_up (ag_up (ag_up r144.2 51 0 (r144.2 6 20 0) x1) 52 0 ((ag_up r144.2 51 0 (r144.2 6 20 0) x1) 6 20 0) x2) 53 0 ((ag_up (ag_up r144.2 51 0 (r144.2 6 20 0) x1) 52 0 ((ag_up r144.2 51 0 (r144.2 6 20 0) x1) 6 20 0) x2) 6 20 0) x3) 6 20 0) x4) 6 1 0) + x5)) 6 20 0 (((ag_up (ag_up (ag_up (ag_up (ag_up r144.2 51 0 (r144.2 6 20 0) x1) 52 0 ((ag_up r144.2 51 0 (r144.2 6 20 0) x1) 6 20 0) x2) 53 0 ((ag_up (ag_up r144.2 51 0 (r144.2 6 20 0) x1) 52 0 ((ag_up r144.2 51 0 (r144.2 6 20 0) x1) 6 20 0) x2) 6 20 0) x3) 55 0 ((ag_up (ag_up (ag_up r144.2 51 0 (r144.2 6 20 0) x1) 52 0 ((ag_up r144.2 51 0 (r144.2 6 20 0) x1) 6 20 0) x2) 53 0 ((ag_up (ag_up r144.2 51 0 (r144.2 6 20 0) x1) 52 0 ((ag_up r144.2 51 0 (r144.2 6 20 0) x1) 6 20 0) x2) 6 20 0) x3) 6 20 0) x4) 56 0 ((ag_up (ag_up (ag_up (ag_up r144.2 51 0 (r144.2 6 20 0) x1) 52 0 ((ag_up r144.2 51 0 (r144.2 6 20 0) x1) 6 20 0) x2) 53 0 ((ag_up (ag_up r144.2 51 0 (r144.2 6 20 0) x1) 52 0 ((ag_up r144.2 51 0 (r144.2 6 20 0) x1) 6 20 0) x2) 6 20 0) x3) 55 0 ((ag_up (ag_up (ag_up r144.2 51 0 (r144.2 6 20 0) x1) 52 0 ((ag_up r144.2 51 0 (r144.2 6 20 0) x1) 6 20 0) x2) 53 0 ((ag_up (ag_up r144.2 51 0 (r144.2 6 20 0) x1) 52 0 ((ag_up r144.2 51 0 (r144.2 6 20 0) x1) 6 20 0) x2) 6 20 0) x3) 6 20 0) x4) 6 20 0) (((ag_up (ag_up (ag_up (ag_up r144.2 51 0 (r144.2 6 20 0) x1) 52 0 ((ag_up r144.2 51 0 (r144.2 6 20 0) x1) 6 20 0) x2) 53 0 ((ag_up (ag_up r144.2 51 0 (r144.2 6 20 0) x1) 52 0 ((ag_up r144.2 51 0 (r144.2 6 20 0) x1) 6 20 0) x2) 6 20 0) x3) 55 0 ((ag_up (ag_up (ag_up r144.2 51 0 (r144.2 6 20 0) x1) 52 0 ((ag_up r144.2 51 0 (r144.2 6 20 0) x1) 6 20 0) x2) 53 0 ((ag_up (ag_up r144.2 51 0 (r144.2 6 20 0) x1) 52 0 ((ag_up r144.2 51 0 (r144.2 6 20 0) x1) 6 20 0) x2) 6 20 0) x3) 6 20 0) x4) 6 1 0) + x5)) 6 20 0) + 1)) 6 20 0) - 1, (ag_up (ag_up (ag_up (ag_up (ag_up (ag_up r144.2 51 0 (r144.2 6 20 0) x1) 52 0 ((ag_up r144.2 51 0 (r144.2 6 20 0) x1) 6 20 0) x2) 53 0 ((ag_up (ag_up r144.2 51 0 (r144.2 6 20 0) x1) 52 0 ((ag_up r144.2 51 0 (r144.2 6 20 0) x1) 6 20 0) x2) 6 20 0) x3) 55 0 ((ag_up (ag_up (ag_up r144.2 51 0 (r144.2 6 20 0) x1) 52 0 ((ag_up r144.2 51 0 (r144.2 6 20 0) x1) 6 20 0) x2) 53 0 ((ag_up (ag_up r144.2 51 0 (r144.2 6 20 0) x1) 52 0 ((ag_up r144.2 51 0 (r144.2 6 20 0) x1) 6 20 0) x2) 6 20 0) x3) 6 20 0) x4) 56 0 ((ag_up (ag_up (ag_up (ag_up r144.2 51 0 (r144.2 6 20 0) x1) 52 0 ((ag_up r144.2 51 0 (r144.2 6 20 0) x1) 6 20 0) x2) 53 0 ((ag_up (ag_up r144.2 51 0 (r144.2 6 20 0) x1) 52 0 ((ag_up r144.2 51 0 (r144.2 6 20 0) x1) 6 20 0) x2) 6 20 0) x3) 55 0 ((ag_up (ag_up (ag_up r144.2 51 0 (r144.2 6 20 0) x1) 52 0 ((ag_up r144.2 51 0 (r144.2 6 20 0) x1) 6 20 0) x2) 53 0 ((ag_up (ag_up r144.2 51 0 (r144.2 6 20 0) x1) 52 0 ((ag_up r144.2 51 0 (r144.2 6 20 0) x1) 6 20 0) x2) 6 20 0) x3) 6 20 0) x4) 6 20 0) (((ag_up (ag_up (ag_up (ag_up r144.2 51 0 (r144.2 6 20 0) x1) 52 0 ((ag_up r144.2 51 0 (r144.2 6 20 0) x1) 6 20 0) x2) 53 0 ((ag_up (ag_up r144.2 51 0 (r144.2 6 20 0) x1) 52 0 ((ag_up r144.2 51 0 (r144.2 6 20 0) x1) 6 20 0) x2) 6 20 0) x3) 55 0 ((ag_up (ag_up (ag_up r144.2 51 0 (r144.2 6 20 0) x1) 52 0 ((ag_up r144.2 51 0 (r144.2 6 20 0) x1) 6 20 0) x2) 53 0 ((ag_up (ag_up r144.2 51 0 (r144.2 6 20 0) x1) 52 0 ((ag_up r144.2 51 0 (r144.2 6 20 0) x1) 6 20 0) x2) 6 20 0) x3) 6 20 0) x4) 6 1 0) + x5)) 6 20 0 (((ag_up (ag_up (ag_up (ag_up (ag_up r144.2 51 0 (r144.2 6 20 0) x1) 52 0 ((ag_up r144.2 51 0 (r144.2 6 20 0) x1) 6 20 0) x2) 53 0 ((ag_up (ag_up r144.2 51 0 (r144.2 6 20 0) x1) 52 0 ((ag_up r144.2 51 0 (r144.2 6 20 0) x1) 6 20 0) x2) 6 20 0) x3) 55 0 ((ag_up (ag_up (ag_up r144.2 51 0 (r144.2 6 20 0) x1) 52 0 ((ag_up r144.2 51 0 (r144.2 6 20 0) x1) 6 20 0) x2) 53 0 ((ag_up (ag_up r144.2 51 0 (r144.2 6 20 0) x1) 52 0 ((ag_up r144.2 51 0 (r144.2 6 20 0) x1) 6 20 0) x2) 6 20 0) x3) 6 20 0) x4) 56 0 ((ag_up (ag_up (ag_up (ag_up r144.2 51 0 (r144.2 6 20 0) x1) 52 0 ((ag_up r144.2 51 0 (r144.2 6 20 0) x1) 6 20 0) x2) 53 0 ((ag_up (ag_up r144.2 51 0 (r144.2 6 20 0) x1) 52 0 ((ag_up r144.2 51 0 (r144.2 6 20 0) x1) 6 20 0) x2) 6 20 0) x3) 55 0 ((ag_up (ag_up (ag_up r144.2 51 0 (r144.2 6 20 0) x1) 52 0 ((ag_up r144.2 51 0 (r144.2 6 20 0) x1) 6 20 0) x2) 53 0 ((ag_up (ag_up r144.2 51 0 (r144.2 6 20 0) x1) 52 0 ((ag_up r144.2 51 0 (r144.2 6 20 0) x1) 6 20 0) x2) 6 20 0) x3) 6 20 0) x4) 6 20 0) (((ag_up (ag_up (ag_up (ag_up r144.2 51 0 (r144.2 6 20 0) x1) 52 0 ((ag_up r144.2 51 0 (r144.2 6 20 0) x1) 6 20 0) x2) 53 0 ((ag_up (ag_up r144.2 51 0 (r144.2 6 20 0) x1) 52 0 ((ag_up r144.2 51 0 (r144.2 6 20 0) x1) 6 20 0) x2) 6 20 0) x3) 55 0 ((ag_up (ag_up (ag_up r144.2 51 0 (r144.2 6 20 0) x1) 52 0 ((ag_up r144.2 51 0 (r144.2 6 20 0) x1) 6 20 0) x2) 53 0 ((ag_up (ag_up r144.2 51 0 (r144.2 6 20 0) x1) 52 0 ((ag_up r144.2 51 0 (r144.2 6 20 0) x1) 6 20 0) x2) 6 20 0) x3) 6 20 0) x4) 6 1 0) + x5)) 6 20 0) + 1))))
def f_X6_grant_b113 (fu : Nat) (x1 : Int32) (x2 : Int32) (x3 : Int32) (x4 : Int32) (x5 : Int32) (x6 : Int32) (x7 : Int32) (y0 : Int32) (s : ag_S) : Option (Int32 × ag_S) := if x6 = 0 then (f_X6_grant_b144 fu x1 x2 x3 x4 x5 1 s) else (if x7 = 0 then (f_X6_grant_b144 fu x1 x2 x3 x4 x5 2 s) else (if y0 = 0 then (f_X6_grant_b144 fu x1 x2 x3 x4 x5 3 s) else (f_X6_grant_b144 fu x1 x2 x3 x4 x5 0 s)))
def f_X6_grant_b108 (fu : Nat) (x1 : Int32) (x2 : Int32) (x3 : Int32) (x4 : Int32) (x5 : Int32) (x6 : Int32) (x7 : Int32) (s : ag_S) : Option (Int32 × ag_S) := f_X6_grant_b113 fu x1 x2 x3 x4 x5 x6 x7 1 s
def f_X6_grant_b112 (fu : Nat) (x1 : Int32) (x2 : Int32) (x3 : Int32) (x4 : Int32) (x5 : Int32) (x6 : Int32) (x7 : Int32) (s : ag_S) : Option (Int32 × ag_S) := f_X6_grant_b113 fu x1 x2 x3 x4 x5 x6 x7 0 s
def f_X6_grant_b66 (fu : Nat) (x1 : Int32) (x2 : Int32) (x3 : Int32) (x4 : Int32) (x5 : Int32) (x6 : Int32) (y0 : Int32) (s : ag_S) : Option (Int32 × ag_S) := if x6 = 0 then (f_X6_grant_b112 fu x1 x2 x3 x4 x5 x6 y0 s) else (if (40 : Int32) ≤ s 6 20 0 then (f_X6_grant_b112 fu x1 x2 x3 x4 x5 x6 y0 s) else (ag_bd (f_X6_free fu x1 s) fun r84 => if r84.1 < x3 then (f_X6_grant_b112 fu x1 x2 x3 x4 x5 x6 y0 r84.2) else (if x4 = (-1) then (f_X6_grant_b108 fu x1 x2 x3 x4 x5 x6 y0 r84.2) else (if x4 < 0 ∨ 40 ≤ x4.toNatClampNeg then none else if r84.2 47 0 x4 = 1 then (f_X6_grant_b108 fu x1 x2 x3 x4 x5 x6 y0 r84.2) else (f_X6_grant_b112 fu x1 x2 x3 x4 x5 x6 y0 r84.2)))))
def f_X6_grant_b65 (fu : Nat) (x1 : Int32) (x2 : Int32) (x3 : Int32) (x4 : Int32) (x5 : Int32) (x6 : Int32) (s : ag_S) : Option (Int32 × ag_S) := f_X6_grant_b66 fu x1 x2 x3 x4 x5 x6 0 s
def f_X6_grant_b38 (fu : Nat) (x1 : Int32) (x2 : Int32) (x3 : Int32) (x4 : Int32) (x5 : Int32) (y0 : Int32) (s : ag_S) : Option (Int32 × ag_S) := ag_bd (f_X6_in fu x3 1 50000 s) fun r44 => if r44 = 0 then (f_X6_grant_b65 fu x1 x2 x3 x4 x5 y0 s) else (ag_bd (f_X6_in fu x5 0 60 s) fun r55 => if r55 = 0 then (f_X6_grant_b65 fu x1 x2 x3 x4 x5 y0 s) else (f_X6_grant_b66 fu x1 x2 x3 x4 x5 y0 1 s))
def f_X6_grant_b33 (fu : Nat) (x1 : Int32) (x2 : Int32) (x3 : Int32) (x4 : Int32) (x5 : Int32) (s : ag_S) : Option (Int32 × ag_S) := f_X6_grant_b38 fu x1 x2 x3 x4 x5 1 s
def f_X6_grant_b37 (fu : Nat) (x1 : Int32) (x2 : Int32) (x3 : Int32) (x4 : Int32) (x5 : Int32) (s : ag_S) : Option (Int32 × ag_S) := f_X6_grant_b38 fu x1 x2 x3 x4 x5 0 s
def f_X6_grant (fu : Nat) (x1 : Int32) (x2 : Int32) (x3 : Int32) (x4 : Int32) (x5 : Int32) (s : ag_S) : Option (Int32 × ag_S) := ag_bd (f_X6_isLine fu x1 s) fun r2 => if r2 = 0 then (f_X6_grant_b37 fu x1 x2 x3 x4 x5 s) else (ag_bd (f_X6_in fu x2 0 7 s) fun r12 => if r12 = 0 then (f_X6_grant_b37 fu x1 x2 x3 x4 x5 s) else (if x4 = (-1) then (f_X6_grant_b33 fu x1 x2 x3 x4 x5 s) else (ag_bd (f_X6_isAmendment fu x4 s) fun r27 => if r27 = 0 then (f_X6_grant_b37 fu x1 x2 x3 x4 x5 s) else (f_X6_grant_b33 fu x1 x2 x3 x4 x5 s))))
abbrev rm_X6_grant : Room := { frames := 3, cells := 0, slots := 0, locals := 66 }
theorem dd_yX6_grant : yX6_grant.cls = RX6 ∧ yX6_grant.cls ≠ "java/lang/invoke/MethodHandle" ∧ yX6_grant.cls ≠ "java/lang/invoke/VarHandle" ∧ (parseMethodDescriptor yX6_grant.desc).map (fun d => d.parameters.length) = some 5 := by decide +kernel
set_option maxHeartbeats 4000000 in
set_option maxRecDepth 100000 in
theorem c_X6_grant {z : ag_Z} {l : Launch} {n : ag_N} {p : ag_P} {s : ag_S} {fu : Nat} {x1 : Int32} {x2 : Int32} {x3 : Int32} {x4 : Int32} {x5 : Int32} {out : Int32 × ag_S} (t6 : vp_in 0 (n 6)) (hf : f_X6_grant fu x1 x2 x3 x4 x5 s = some out) : Met l yX6_grant (ag_ws yX6_grant cX6_grant 9 ((some FieldType.int))) rm_X6_grant (va_Pc [.ref (p 6 0), .int x1, .int x2, .int x3, .int x4, .int x5] (ag_Pre z n p s)) (ag_Ri z n p out.1 out.2) 0 0 (ag_A z) := by
  refine Met.ofW (cc := cX6_grant) (maxL := 9) (ret := (some FieldType.int)) (by decide) rfl ?_
  intro p0 e st m args below meth c s9 B hml hv
  obtain ⟨ha, h0, hG, hW⟩ := hv
  have hx := B.exec
  have hb := B.bytes
  have hr := B.returns
  have hts := atoms_spec (ws := ag_ws yX6_grant cX6_grant 9 ((some FieldType.int))) B.pre
  have hT : ∀ w ∈ ag_tbl, w.before args st = true := fun w h => hts w (List.mem_cons_of_mem _ h)
  have hown : st.vm.findClass RX6 = some m.cls := findClass_of_methodNamed B.named
  have hlocks := B.notSynchronized
  have hS : va_S (ag_A z) st.heap st.heap [] := va_S.rf
  obtain ⟨ls, hls, hl⟩ : ∃ ls, entryFrame m args 9 = F0 m 0 ls [] ∧ lv_has ls 9 [(0, .ref (p 6 0)), (1, .int x1), (2, .int x2), (3, .int x3), (4, .int x4), (5, .int x5)] := by rw [ha]; exact ag_entry m [.ref (p 6 0), .int x1, .int x2, .int x3, .int x4, .int x5] (Nat.le_of_ble_eq_true rfl)
  rw [hls]
  have k144 : ∀ (x1 : Int32) (x2 : Int32) (x3 : Int32) (x4 : Int32) (x5 : Int32) (y1 : Int32) (s : ag_S) (H : Heap) (locs : List Loc) (ls : Array Slot), ag_W z n p s H → va_S (ag_A z) st.heap H locs → lv_has ls 9 [(0, .ref (p 6 0)), (1, .int x1), (2, .int x2), (3, .int x3), (4, .int x4), (5, .int x5)] → f_X6_grant_b144 fu x1 x2 x3 x4 x5 y1 s = some out → W p0 l e (headSpec (ag_ws yX6_grant cX6_grant 9 ((some FieldType.int))) rm_X6_grant).room st m args below meth c H locs 0 0 (MQ below (ag_Ri z n p out.1 out.2) args st 0 0 (ag_A z)) (F0 m 144 ls [.int y1, .ref (p 6 0)]) := by
    intro x1 x2 x3 x4 x5 y1 s H locs ls hW hS hl hf
    unfold f_X6_grant_b144 at hf
    obtain ⟨r144, hg144, hf⟩ := ag_bs hf
    refine ag_cVi hx hb hml hT hown hG h0 hS hW (c_X6_goesWell t6 hg144) ⟨rfl, rfl⟩ q896 q898 qs27 q11 q899 dd_yX6_goesWell ⟨Nat.le_of_ble_eq_true rfl, Nat.le_of_ble_eq_true rfl⟩ t6 rfl rfl hl.1 rfl (Nat.le_of_ble_eq_true rfl) ⟨Nat.le_of_ble_eq_true rfl, Nat.le_of_ble_eq_true rfl⟩ dX6_grant_144 (fun H locs hW hS => ?_)
    refine lv_if_ne (tgt := 152) hx hb dX6_grant_147 (by decide) (fun c147 => ?_) (fun c147 => ?_)
    · have hf := ag_f c147 hf
      refine lv_aload_n hx hb dX6_grant_152 rfl (lv_at hl 0 rfl) ?_
      refine g6_21 hx hb hT hown hG hW t6 q809 dX6_grant_153 ?_
      have t51 := ag_fix hW (k := 6) (f := 21) (t := 51) t6 rfl rfl
      refine lv_aload_n hx hb dX6_grant_156 rfl (lv_at hl 0 rfl) ?_
      refine g6_20 hx hb hT hown hG hW t6 q808 dX6_grant_157 ?_
      refine lv_iload_n hx hb dX6_grant_160 rfl (lv_at hl 1 rfl) ?_
      obtain ⟨a161, hf⟩ := ag_n hf
      refine ag_iast hx hb hG hW hS t51 rfl rfl (by decide) a161 dX6_grant_161 (fun H locs hW hS => ?_)
      refine lv_aload_n hx hb dX6_grant_162 rfl (lv_at hl 0 rfl) ?_
      refine g6_22 hx hb hT hown hG hW t6 q810 dX6_grant_163 ?_
      have t52 := ag_fix hW (k := 6) (f := 22) (t := 52) t6 rfl rfl
      refine lv_aload_n hx hb dX6_grant_166 rfl (lv_at hl 0 rfl) ?_
      refine g6_20 hx hb hT hown hG hW t6 q808 dX6_grant_167 ?_
      refine lv_iload_n hx hb dX6_grant_170 rfl (lv_at hl 2 rfl) ?_
      obtain ⟨a171, hf⟩ := ag_n hf
      refine ag_iast hx hb hG hW hS t52 rfl rfl (by decide) a171 dX6_grant_171 (fun H locs hW hS => ?_)
      refine lv_aload_n hx hb dX6_grant_172 rfl (lv_at hl 0 rfl) ?_
      refine g6_23 hx hb hT hown hG hW t6 q811 dX6_grant_173 ?_
      have t53 := ag_fix hW (k := 6) (f := 23) (t := 53) t6 rfl rfl
      refine lv_aload_n hx hb dX6_grant_176 rfl (lv_at hl 0 rfl) ?_
      refine g6_20 hx hb hT hown hG hW t6 q808 dX6_grant_177 ?_
      refine lv_iload_n hx hb dX6_grant_180 rfl (lv_at hl 3 rfl) ?_
      obtain ⟨a181, hf⟩ := ag_n hf
      refine ag_iast hx hb hG hW hS t53 rfl rfl (by decide) a181 dX6_grant_181 (fun H locs hW hS => ?_)
      refine lv_aload_n hx hb dX6_grant_182 rfl (lv_at hl 0 rfl) ?_
      refine g6_25 hx hb hT hown hG hW t6 q813 dX6_grant_183 ?_
      have t55 := ag_fix hW (k := 6) (f := 25) (t := 55) t6 rfl rfl
      refine lv_aload_n hx hb dX6_grant_186 rfl (lv_at hl 0 rfl) ?_
      refine g6_20 hx hb hT hown hG hW t6 q808 dX6_grant_187 ?_
      refine lv_iload hx hb dX6_grant_190 (lv_at hl 4 rfl) ?_
      obtain ⟨a192, hf⟩ := ag_n hf
      refine ag_iast hx hb hG hW hS t55 rfl rfl (by decide) a192 dX6_grant_192 (fun H locs hW hS => ?_)
      refine lv_aload_n hx hb dX6_grant_193 rfl (lv_at hl 0 rfl) ?_
      refine g6_26 hx hb hT hown hG hW t6 q814 dX6_grant_194 ?_
      have t56 := ag_fix hW (k := 6) (f := 26) (t := 56) t6 rfl rfl
      refine lv_aload_n hx hb dX6_grant_197 rfl (lv_at hl 0 rfl) ?_
      refine g6_20 hx hb hT hown hG hW t6 q808 dX6_grant_198 ?_
      refine lv_aload_n hx hb dX6_grant_201 rfl (lv_at hl 0 rfl) ?_
      refine g6_1 hx hb hT hown hG hW t6 q789 dX6_grant_202 ?_
      refine lv_iload hx hb dX6_grant_205 (lv_at hl 5 rfl) ?_
      refine lv_iadd hx hb dX6_grant_207 ?_
      obtain ⟨a208, hf⟩ := ag_n hf
      refine ag_iast hx hb hG hW hS t56 rfl rfl (by decide) a208 dX6_grant_208 (fun H locs hW hS => ?_)
      refine lv_aload_n hx hb dX6_grant_209 rfl (lv_at hl 0 rfl) ?_
      refine lv_dup hx hb dX6_grant_210 rfl ?_
      refine g6_20 hx hb hT hown hG hW t6 q808 dX6_grant_211 ?_
      refine lv_iconst (v := 1) hx hb dX6_grant_214 (by decide) ?_
      refine lv_iadd hx hb dX6_grant_215 ?_
      refine u6_20 hx hb hT hown hG hW hS t6 q808 dX6_grant_216 (fun H locs hW hS => ?_)
      refine lv_aload_n hx hb dX6_grant_219 rfl (lv_at hl 0 rfl) ?_
      refine g6_20 hx hb hT hown hG hW t6 q808 dX6_grant_220 ?_
      refine lv_iconst (v := 1) hx hb dX6_grant_223 (by decide) ?_
      refine lv_isub hx hb dX6_grant_224 ?_
      exact ag_iret hx hb hr rfl hlocks hS (congrArg Prod.fst (Option.some.inj hf)) (congrArg Prod.snd (Option.some.inj hf) ▸ hW) dX6_grant_225
    · have hf := ag_t c147 hf
      refine lv_iconst (v := 0) hx hb dX6_grant_150 (by decide) ?_
      exact ag_iret hx hb hr rfl hlocks hS (congrArg Prod.fst (Option.some.inj hf)) (congrArg Prod.snd (Option.some.inj hf) ▸ hW) dX6_grant_151
  have k113 : ∀ (x1 : Int32) (x2 : Int32) (x3 : Int32) (x4 : Int32) (x5 : Int32) (x6 : Int32) (x7 : Int32) (y0 : Int32) (s : ag_S) (H : Heap) (locs : List Loc) (ls : Array Slot) (bx6 : x6 = 0 ∨ x6 = 1) (bx7 : x7 = 0 ∨ x7 = 1) (by0 : y0 = 0 ∨ y0 = 1), ag_W z n p s H → va_S (ag_A z) st.heap H locs → lv_has ls 9 [(0, .ref (p 6 0)), (1, .int x1), (2, .int x2), (3, .int x3), (4, .int x4), (5, .int x5), (6, .int x6), (7, .int x7)] → f_X6_grant_b113 fu x1 x2 x3 x4 x5 x6 x7 y0 s = some out → W p0 l e (headSpec (ag_ws yX6_grant cX6_grant 9 ((some FieldType.int))) rm_X6_grant).room st m args below meth c H locs 0 0 (MQ below (ag_Ri z n p out.1 out.2) args st 0 0 (ag_A z)) (F0 m 113 ls [.int y0]) := by
    intro x1 x2 x3 x4 x5 x6 x7 y0 s H locs ls bx6 bx7 by0 hW hS hl hf
    unfold f_X6_grant_b113 at hf
    refine lv_istore (lv' := [(8, .int y0), (0, .ref (p 6 0)), (1, .int x1), (2, .int x2), (3, .int x3), (4, .int x4), (5, .int x5), (6, .int x6), (7, .int x7)]) hx hb dX6_grant_113 hl (by decide) rfl (fun ls hl => ?_)
    refine lv_aload_n hx hb dX6_grant_115 rfl (lv_at hl 1 rfl) ?_
    refine lv_iload hx hb dX6_grant_116 (lv_at hl 7 rfl) ?_
    refine lv_if_ne (tgt := 125) hx hb dX6_grant_118 (by decide) (fun c118 => ?_) (fun c118 => ?_)
    · have hf := ag_f c118 hf
      refine lv_iload hx hb dX6_grant_125 (lv_at hl 8 rfl) ?_
      refine lv_if_ne (tgt := 134) hx hb dX6_grant_127 (by decide) (fun c127 => ?_) (fun c127 => ?_)
      · have hf := ag_f c127 hf
        refine lv_iload hx hb dX6_grant_134 (lv_at hl 0 rfl) ?_
        refine lv_if_eq (tgt := 143) hx hb dX6_grant_136 (by decide) (fun c136 => ?_) (fun c136 => ?_)
        · have hf := ag_t c136 hf
          refine lv_iconst (v := 3) hx hb dX6_grant_143 (by decide) ?_
          exact k144 _ _ _ _ _ _ _ _ _ _ hW hS (lv_sub hl [1, 2, 3, 4, 5, 6] rfl) hf
        · have hf := ag_f c136 hf
          refine lv_iconst (v := 0) hx hb dX6_grant_139 (by decide) ?_
          refine lv_goto (tgt := 144) hx hb dX6_grant_140 (by decide) ?_
          exact k144 _ _ _ _ _ _ _ _ _ _ hW hS (lv_sub hl [1, 2, 3, 4, 5, 6] rfl) hf
      · have hf := ag_t c127 hf
        refine lv_iconst (v := 2) hx hb dX6_grant_130 (by decide) ?_
        refine lv_goto (tgt := 144) hx hb dX6_grant_131 (by decide) ?_
        exact k144 _ _ _ _ _ _ _ _ _ _ hW hS (lv_sub hl [1, 2, 3, 4, 5, 6] rfl) hf
    · have hf := ag_t c118 hf
      refine lv_iconst (v := 1) hx hb dX6_grant_121 (by decide) ?_
      refine lv_goto (tgt := 144) hx hb dX6_grant_122 (by decide) ?_
      exact k144 _ _ _ _ _ _ _ _ _ _ hW hS (lv_sub hl [1, 2, 3, 4, 5, 6] rfl) hf
  have k108 : ∀ (x1 : Int32) (x2 : Int32) (x3 : Int32) (x4 : Int32) (x5 : Int32) (x6 : Int32) (x7 : Int32) (s : ag_S) (H : Heap) (locs : List Loc) (ls : Array Slot) (bx6 : x6 = 0 ∨ x6 = 1) (bx7 : x7 = 0 ∨ x7 = 1), ag_W z n p s H → va_S (ag_A z) st.heap H locs → lv_has ls 9 [(0, .ref (p 6 0)), (1, .int x1), (2, .int x2), (3, .int x3), (4, .int x4), (5, .int x5), (6, .int x6), (7, .int x7)] → f_X6_grant_b108 fu x1 x2 x3 x4 x5 x6 x7 s = some out → W p0 l e (headSpec (ag_ws yX6_grant cX6_grant 9 ((some FieldType.int))) rm_X6_grant).room st m args below meth c H locs 0 0 (MQ below (ag_Ri z n p out.1 out.2) args st 0 0 (ag_A z)) (F0 m 108 ls []) := by
    intro x1 x2 x3 x4 x5 x6 x7 s H locs ls bx6 bx7 hW hS hl hf
    unfold f_X6_grant_b108 at hf
    refine lv_iconst (v := 1) hx hb dX6_grant_108 (by decide) ?_
    refine lv_goto (tgt := 113) hx hb dX6_grant_109 (by decide) ?_
    exact k113 _ _ _ _ _ _ _ _ _ _ _ _ bx6 bx7 (Or.inr rfl) hW hS (lv_sub hl [0, 1, 2, 3, 4, 5, 6, 7] rfl) hf
  have k112 : ∀ (x1 : Int32) (x2 : Int32) (x3 : Int32) (x4 : Int32) (x5 : Int32) (x6 : Int32) (x7 : Int32) (s : ag_S) (H : Heap) (locs : List Loc) (ls : Array Slot) (bx6 : x6 = 0 ∨ x6 = 1) (bx7 : x7 = 0 ∨ x7 = 1), ag_W z n p s H → va_S (ag_A z) st.heap H locs → lv_has ls 9 [(0, .ref (p 6 0)), (1, .int x1), (2, .int x2), (3, .int x3), (4, .int x4), (5, .int x5), (6, .int x6), (7, .int x7)] → f_X6_grant_b112 fu x1 x2 x3 x4 x5 x6 x7 s = some out → W p0 l e (headSpec (ag_ws yX6_grant cX6_grant 9 ((some FieldType.int))) rm_X6_grant).room st m args below meth c H locs 0 0 (MQ below (ag_Ri z n p out.1 out.2) args st 0 0 (ag_A z)) (F0 m 112 ls []) := by
    intro x1 x2 x3 x4 x5 x6 x7 s H locs ls bx6 bx7 hW hS hl hf
    unfold f_X6_grant_b112 at hf
    refine lv_iconst (v := 0) hx hb dX6_grant_112 (by decide) ?_
    exact k113 _ _ _ _ _ _ _ _ _ _ _ _ bx6 bx7 (Or.inl rfl) hW hS (lv_sub hl [0, 1, 2, 3, 4, 5, 6, 7] rfl) hf
  have k66 : ∀ (x1 : Int32) (x2 : Int32) (x3 : Int32) (x4 : Int32) (x5 : Int32) (x6 : Int32) (y0 : Int32) (s : ag_S) (H : Heap) (locs : List Loc) (ls : Array Slot) (bx6 : x6 = 0 ∨ x6 = 1) (by0 : y0 = 0 ∨ y0 = 1), ag_W z n p s H → va_S (ag_A z) st.heap H locs → lv_has ls 9 [(0, .ref (p 6 0)), (1, .int x1), (2, .int x2), (3, .int x3), (4, .int x4), (5, .int x5), (6, .int x6)] → f_X6_grant_b66 fu x1 x2 x3 x4 x5 x6 y0 s = some out → W p0 l e (headSpec (ag_ws yX6_grant cX6_grant 9 ((some FieldType.int))) rm_X6_grant).room st m args below meth c H locs 0 0 (MQ below (ag_Ri z n p out.1 out.2) args st 0 0 (ag_A z)) (F0 m 66 ls [.int y0]) := by
    intro x1 x2 x3 x4 x5 x6 y0 s H locs ls bx6 by0 hW hS hl hf
    unfold f_X6_grant_b66 at hf
    refine lv_istore (lv' := [(7, .int y0), (0, .ref (p 6 0)), (1, .int x1), (2, .int x2), (3, .int x3), (4, .int x4), (5, .int x5), (6, .int x6)]) hx hb dX6_grant_66 hl (by decide) rfl (fun ls hl => ?_)
    refine lv_iload hx hb dX6_grant_68 (lv_at hl 7 rfl) ?_
    refine lv_if_eq (tgt := 112) hx hb dX6_grant_70 (by decide) (fun c70 => ?_) (fun c70 => ?_)
    · have hf := ag_t c70 hf
      exact k112 _ _ _ _ _ _ _ _ _ _ _ bx6 by0 hW hS (lv_sub hl [1, 2, 3, 4, 5, 6, 7, 0] rfl) hf
    · have hf := ag_f c70 hf
      refine lv_aload_n hx hb dX6_grant_73 rfl (lv_at hl 1 rfl) ?_
      refine g6_20 hx hb hT hown hG hW t6 q808 dX6_grant_74 ?_
      refine lv_bipush (v := 40) hx hb dX6_grant_77 (by decide) ?_
      refine lv_icmp_ge (tgt := 112) hx hb dX6_grant_79 (by decide) (fun c79 => ?_) (fun c79 => ?_)
      · have hf := ag_t c79 hf
        exact k112 _ _ _ _ _ _ _ _ _ _ _ bx6 by0 hW hS (lv_sub hl [1, 2, 3, 4, 5, 6, 7, 0] rfl) hf
      · have hf := ag_f c79 hf
        refine lv_aload_n hx hb dX6_grant_82 rfl (lv_at hl 1 rfl) ?_
        refine lv_iload_n hx hb dX6_grant_83 rfl (lv_at hl 2 rfl) ?_
        obtain ⟨r84, hg84, hf⟩ := ag_bs hf
        refine ag_cVi hx hb hml hT hown hG h0 hS hW (c_X6_free t6 hg84) ⟨rfl, rfl⟩ q949 q951 qs34 q11 q952 dd_yX6_free ⟨Nat.le_of_ble_eq_true rfl, Nat.le_of_ble_eq_true rfl⟩ t6 rfl rfl hl.1 rfl (Nat.le_of_ble_eq_true rfl) ⟨Nat.le_of_ble_eq_true rfl, Nat.le_of_ble_eq_true rfl⟩ dX6_grant_84 (fun H locs hW hS => ?_)
        refine lv_iload_n hx hb dX6_grant_87 rfl (lv_at hl 4 rfl) ?_
        refine lv_icmp_lt (tgt := 112) hx hb dX6_grant_88 (by decide) (fun c88 => ?_) (fun c88 => ?_)
        · have hf := ag_t c88 hf
          exact k112 _ _ _ _ _ _ _ _ _ _ _ bx6 by0 hW hS (lv_sub hl [1, 2, 3, 4, 5, 6, 7, 0] rfl) hf
        · have hf := ag_f c88 hf
          refine lv_iload hx hb dX6_grant_91 (lv_at hl 5 rfl) ?_
          refine lv_iconst (v := (-1)) hx hb dX6_grant_93 (by decide) ?_
          refine lv_icmp_eq (tgt := 108) hx hb dX6_grant_94 (by decide) (fun c94 => ?_) (fun c94 => ?_)
          · have hf := ag_t c94 hf
            exact k108 _ _ _ _ _ _ _ _ _ _ _ bx6 by0 hW hS (lv_sub hl [1, 2, 3, 4, 5, 6, 7, 0] rfl) hf
          · have hf := ag_f c94 hf
            refine lv_aload_n hx hb dX6_grant_97 rfl (lv_at hl 1 rfl) ?_
            refine g6_17 hx hb hT hown hG hW t6 q805 dX6_grant_98 ?_
            have t47 := ag_fix hW (k := 6) (f := 17) (t := 47) t6 rfl rfl
            refine lv_iload hx hb dX6_grant_101 (lv_at hl 5 rfl) ?_
            obtain ⟨a103, hf⟩ := ag_n hf
            refine ag_iald hx hb hG hW t47 rfl rfl a103 dX6_grant_103 ?_
            refine lv_iconst (v := 1) hx hb dX6_grant_104 (by decide) ?_
            refine lv_icmp_ne (tgt := 112) hx hb dX6_grant_105 (by decide) (fun c105 => ?_) (fun c105 => ?_)
            · have hf := ag_f c105 hf
              exact k112 _ _ _ _ _ _ _ _ _ _ _ bx6 by0 hW hS (lv_sub hl [1, 2, 3, 4, 5, 6, 7, 0] rfl) hf
            · have hf := ag_t c105 hf
              exact k108 _ _ _ _ _ _ _ _ _ _ _ bx6 by0 hW hS (lv_sub hl [1, 2, 3, 4, 5, 6, 7, 0] rfl) hf
  have k65 : ∀ (x1 : Int32) (x2 : Int32) (x3 : Int32) (x4 : Int32) (x5 : Int32) (x6 : Int32) (s : ag_S) (H : Heap) (locs : List Loc) (ls : Array Slot) (bx6 : x6 = 0 ∨ x6 = 1), ag_W z n p s H → va_S (ag_A z) st.heap H locs → lv_has ls 9 [(0, .ref (p 6 0)), (1, .int x1), (2, .int x2), (3, .int x3), (4, .int x4), (5, .int x5), (6, .int x6)] → f_X6_grant_b65 fu x1 x2 x3 x4 x5 x6 s = some out → W p0 l e (headSpec (ag_ws yX6_grant cX6_grant 9 ((some FieldType.int))) rm_X6_grant).room st m args below meth c H locs 0 0 (MQ below (ag_Ri z n p out.1 out.2) args st 0 0 (ag_A z)) (F0 m 65 ls []) := by
    intro x1 x2 x3 x4 x5 x6 s H locs ls bx6 hW hS hl hf
    unfold f_X6_grant_b65 at hf
    refine lv_iconst (v := 0) hx hb dX6_grant_65 (by decide) ?_
    exact k66 _ _ _ _ _ _ _ _ _ _ _ bx6 (Or.inl rfl) hW hS (lv_sub hl [0, 1, 2, 3, 4, 5, 6] rfl) hf
  have k38 : ∀ (x1 : Int32) (x2 : Int32) (x3 : Int32) (x4 : Int32) (x5 : Int32) (y0 : Int32) (s : ag_S) (H : Heap) (locs : List Loc) (ls : Array Slot) (by0 : y0 = 0 ∨ y0 = 1), ag_W z n p s H → va_S (ag_A z) st.heap H locs → lv_has ls 9 [(0, .ref (p 6 0)), (1, .int x1), (2, .int x2), (3, .int x3), (4, .int x4), (5, .int x5)] → f_X6_grant_b38 fu x1 x2 x3 x4 x5 y0 s = some out → W p0 l e (headSpec (ag_ws yX6_grant cX6_grant 9 ((some FieldType.int))) rm_X6_grant).room st m args below meth c H locs 0 0 (MQ below (ag_Ri z n p out.1 out.2) args st 0 0 (ag_A z)) (F0 m 38 ls [.int y0]) := by
    intro x1 x2 x3 x4 x5 y0 s H locs ls by0 hW hS hl hf
    unfold f_X6_grant_b38 at hf
    refine lv_istore (lv' := [(6, .int y0), (0, .ref (p 6 0)), (1, .int x1), (2, .int x2), (3, .int x3), (4, .int x4), (5, .int x5)]) hx hb dX6_grant_38 hl (by decide) rfl (fun ls hl => ?_)
    refine lv_iload_n hx hb dX6_grant_40 rfl (lv_at hl 4 rfl) ?_
    refine lv_iconst (v := 1) hx hb dX6_grant_41 (by decide) ?_
    refine lv_ldc (v := 50000) hx hb hown (hT _ q916) dX6_grant_42 ?_
    obtain ⟨r44, hg44, hf⟩ := ag_bs hf
    refine ag_cSi hx hb hml hT hown hG h0 hS hW (c_X6_in hg44) ⟨rfl, rfl⟩ q892 q893 q11 q894 dd_yX6_in ⟨Nat.le_of_ble_eq_true rfl, Nat.le_of_ble_eq_true rfl⟩ hl.1 rfl (Nat.le_of_ble_eq_true rfl) ⟨Nat.le_of_ble_eq_true rfl, Nat.le_of_ble_eq_true rfl⟩ dX6_grant_44 (fun H locs hW hS => ?_)
    refine lv_if_eq (tgt := 65) hx hb dX6_grant_47 (by decide) (fun c47 => ?_) (fun c47 => ?_)
    · have hf := ag_t c47 hf
      exact k65 _ _ _ _ _ _ _ _ _ _ by0 hW hS (lv_sub hl [1, 2, 3, 4, 5, 6, 0] rfl) hf
    · have hf := ag_f c47 hf
      refine lv_iload hx hb dX6_grant_50 (lv_at hl 6 rfl) ?_
      refine lv_iconst (v := 0) hx hb dX6_grant_52 (by decide) ?_
      refine lv_bipush (v := 60) hx hb dX6_grant_53 (by decide) ?_
      obtain ⟨r55, hg55, hf⟩ := ag_bs hf
      refine ag_cSi hx hb hml hT hown hG h0 hS hW (c_X6_in hg55) ⟨rfl, rfl⟩ q892 q893 q11 q894 dd_yX6_in ⟨Nat.le_of_ble_eq_true rfl, Nat.le_of_ble_eq_true rfl⟩ hl.1 rfl (Nat.le_of_ble_eq_true rfl) ⟨Nat.le_of_ble_eq_true rfl, Nat.le_of_ble_eq_true rfl⟩ dX6_grant_55 (fun H locs hW hS => ?_)
      refine lv_if_eq (tgt := 65) hx hb dX6_grant_58 (by decide) (fun c58 => ?_) (fun c58 => ?_)
      · have hf := ag_t c58 hf
        exact k65 _ _ _ _ _ _ _ _ _ _ by0 hW hS (lv_sub hl [1, 2, 3, 4, 5, 6, 0] rfl) hf
      · have hf := ag_f c58 hf
        refine lv_iconst (v := 1) hx hb dX6_grant_61 (by decide) ?_
        refine lv_goto (tgt := 66) hx hb dX6_grant_62 (by decide) ?_
        exact k66 _ _ _ _ _ _ _ _ _ _ _ by0 (Or.inr rfl) hW hS (lv_sub hl [1, 2, 3, 4, 5, 6, 0] rfl) hf
  have k33 : ∀ (x1 : Int32) (x2 : Int32) (x3 : Int32) (x4 : Int32) (x5 : Int32) (s : ag_S) (H : Heap) (locs : List Loc) (ls : Array Slot), ag_W z n p s H → va_S (ag_A z) st.heap H locs → lv_has ls 9 [(0, .ref (p 6 0)), (1, .int x1), (2, .int x2), (3, .int x3), (4, .int x4), (5, .int x5)] → f_X6_grant_b33 fu x1 x2 x3 x4 x5 s = some out → W p0 l e (headSpec (ag_ws yX6_grant cX6_grant 9 ((some FieldType.int))) rm_X6_grant).room st m args below meth c H locs 0 0 (MQ below (ag_Ri z n p out.1 out.2) args st 0 0 (ag_A z)) (F0 m 33 ls []) := by
    intro x1 x2 x3 x4 x5 s H locs ls hW hS hl hf
    unfold f_X6_grant_b33 at hf
    refine lv_iconst (v := 1) hx hb dX6_grant_33 (by decide) ?_
    refine lv_goto (tgt := 38) hx hb dX6_grant_34 (by decide) ?_
    exact k38 _ _ _ _ _ _ _ _ _ _ (Or.inr rfl) hW hS (lv_sub hl [0, 1, 2, 3, 4, 5] rfl) hf
  have k37 : ∀ (x1 : Int32) (x2 : Int32) (x3 : Int32) (x4 : Int32) (x5 : Int32) (s : ag_S) (H : Heap) (locs : List Loc) (ls : Array Slot), ag_W z n p s H → va_S (ag_A z) st.heap H locs → lv_has ls 9 [(0, .ref (p 6 0)), (1, .int x1), (2, .int x2), (3, .int x3), (4, .int x4), (5, .int x5)] → f_X6_grant_b37 fu x1 x2 x3 x4 x5 s = some out → W p0 l e (headSpec (ag_ws yX6_grant cX6_grant 9 ((some FieldType.int))) rm_X6_grant).room st m args below meth c H locs 0 0 (MQ below (ag_Ri z n p out.1 out.2) args st 0 0 (ag_A z)) (F0 m 37 ls []) := by
    intro x1 x2 x3 x4 x5 s H locs ls hW hS hl hf
    unfold f_X6_grant_b37 at hf
    refine lv_iconst (v := 0) hx hb dX6_grant_37 (by decide) ?_
    exact k38 _ _ _ _ _ _ _ _ _ _ (Or.inl rfl) hW hS (lv_sub hl [0, 1, 2, 3, 4, 5] rfl) hf
  unfold f_X6_grant at hf
  refine lv_aload_n hx hb dX6_grant_0 rfl (lv_at hl 0 rfl) ?_
  refine lv_iload_n hx hb dX6_grant_1 rfl (lv_at hl 1 rfl) ?_
  obtain ⟨r2, hg2, hf⟩ := ag_bs hf
  refine ag_cVi hx hb hml hT hown hG h0 hS hW (c_X6_isLine t6 hg2) ⟨rfl, rfl⟩ q908 q910 qs28 q11 q911 dd_yX6_isLine ⟨Nat.le_of_ble_eq_true rfl, Nat.le_of_ble_eq_true rfl⟩ t6 rfl rfl hl.1 rfl (Nat.le_of_ble_eq_true rfl) ⟨Nat.le_of_ble_eq_true rfl, Nat.le_of_ble_eq_true rfl⟩ dX6_grant_2 (fun H locs hW hS => ?_)
  refine lv_if_eq (tgt := 37) hx hb dX6_grant_5 (by decide) (fun c5 => ?_) (fun c5 => ?_)
  · have hf := ag_t c5 hf
    exact k37 _ _ _ _ _ _ _ _ _ hW hS (lv_sub hl [0, 1, 2, 3, 4, 5] rfl) hf
  · have hf := ag_f c5 hf
    refine lv_iload_n hx hb dX6_grant_8 rfl (lv_at hl 2 rfl) ?_
    refine lv_iconst (v := 0) hx hb dX6_grant_9 (by decide) ?_
    refine lv_bipush (v := 7) hx hb dX6_grant_10 (by decide) ?_
    obtain ⟨r12, hg12, hf⟩ := ag_bs hf
    refine ag_cSi hx hb hml hT hown hG h0 hS hW (c_X6_in hg12) ⟨rfl, rfl⟩ q892 q893 q11 q894 dd_yX6_in ⟨Nat.le_of_ble_eq_true rfl, Nat.le_of_ble_eq_true rfl⟩ hl.1 rfl (Nat.le_of_ble_eq_true rfl) ⟨Nat.le_of_ble_eq_true rfl, Nat.le_of_ble_eq_true rfl⟩ dX6_grant_12 (fun H locs hW hS => ?_)
    refine lv_if_eq (tgt := 37) hx hb dX6_grant_15 (by decide) (fun c15 => ?_) (fun c15 => ?_)
    · have hf := ag_t c15 hf
      exact k37 _ _ _ _ _ _ _ _ _ hW hS (lv_sub hl [0, 1, 2, 3, 4, 5] rfl) hf
    · have hf := ag_f c15 hf
      refine lv_iload hx hb dX6_grant_18 (lv_at hl 4 rfl) ?_
      refine lv_iconst (v := (-1)) hx hb dX6_grant_20 (by decide) ?_
      refine lv_icmp_eq (tgt := 33) hx hb dX6_grant_21 (by decide) (fun c21 => ?_) (fun c21 => ?_)
      · have hf := ag_t c21 hf
        exact k33 _ _ _ _ _ _ _ _ _ hW hS (lv_sub hl [0, 1, 2, 3, 4, 5] rfl) hf
      · have hf := ag_f c21 hf
        refine lv_aload_n hx hb dX6_grant_24 rfl (lv_at hl 0 rfl) ?_
        refine lv_iload hx hb dX6_grant_25 (lv_at hl 4 rfl) ?_
        obtain ⟨r27, hg27, hf⟩ := ag_bs hf
        refine ag_cVi hx hb hml hT hown hG h0 hS hW (c_X6_isAmendment t6 hg27) ⟨rfl, rfl⟩ q925 q927 qs30 q11 q928 dd_yX6_isAmendment ⟨Nat.le_of_ble_eq_true rfl, Nat.le_of_ble_eq_true rfl⟩ t6 rfl rfl hl.1 rfl (Nat.le_of_ble_eq_true rfl) ⟨Nat.le_of_ble_eq_true rfl, Nat.le_of_ble_eq_true rfl⟩ dX6_grant_27 (fun H locs hW hS => ?_)
        refine lv_if_eq (tgt := 37) hx hb dX6_grant_30 (by decide) (fun c30 => ?_) (fun c30 => ?_)
        · have hf := ag_t c30 hf
          exact k37 _ _ _ _ _ _ _ _ _ hW hS (lv_sub hl [0, 1, 2, 3, 4, 5] rfl) hf
        · have hf := ag_f c30 hf
          exact k33 _ _ _ _ _ _ _ _ _ hW hS (lv_sub hl [0, 1, 2, 3, 4, 5] rfl) hf
