def f_X6_ofLine_b30 (fu : Nat) (x1 : Int32) (x2 : Int32) (y1 : Int32) (s : ag_S) : Option (Int32 × ag_S) := ag_bd (f_X6_goesWell fu y1 s) fun r30 => if r30.1 = 0 then (some (0, r30.2)) else (if x2 = 0 then (ag_bd (f_X6_stands fu x1 r30.2) fun r78 => some (r78.1, r78.2)) else (if x2 = 1 then (if x1 < 0 ∨ 10 ≤ x1.toNatClampNeg then none else some (r30.2 42 0 x1, r30.2)) else (if x2 = 2 then (ag_bd (f_X6_bound fu x1 r30.2) fun r91 => some (r91, r30.2)) else (if x2 = 3 then (ag_bd (f_X6_free fu x1 r30.2) fun r97 => some (r97.1, r97.2)) else (if x2 = 4 then (if x1 < 0 ∨ 10 ≤ x1.toNatClampNeg then none else some (r30.2 40 0 x1, r30.2)) else (if x2 = 5 then (if x1 < 0 ∨ 10 ≤ x1.toNatClampNeg then none else some (r30.2 41 0 x1, r30.2)) else (if x1 < 0 ∨ 10 ≤ x1.toNatClampNeg then none else some (r30.2 38 0 x1, r30.2))))))))
def f_X6_ofLine (fu : Nat) (x1 : Int32) (x2 : Int32) (s : ag_S) : Option (Int32 × ag_S) := ag_bd (f_X6_isLine fu x1 s) fun r2 => if r2 = 0 then (f_X6_ofLine_b30 fu x1 x2 1 s) else (ag_bd (f_X6_in fu x2 0 6 s) fun r19 => if r19 = 0 then (f_X6_ofLine_b30 fu x1 x2 2 s) else (f_X6_ofLine_b30 fu x1 x2 0 s))
abbrev rm_X6_ofLine : Room := { frames := 3, cells := 0, slots := 0, locals := 66 }
theorem dd_yX6_ofLine : yX6_ofLine.cls = RX6 ∧ yX6_ofLine.cls ≠ "java/lang/invoke/MethodHandle" ∧ yX6_ofLine.cls ≠ "java/lang/invoke/VarHandle" ∧ (parseMethodDescriptor yX6_ofLine.desc).map (fun d => d.parameters.length) = some 2 := by decide +kernel
set_option maxHeartbeats 4000000 in
set_option maxRecDepth 100000 in
theorem c_X6_ofLine {z : ag_Z} {l : Launch} {n : ag_N} {p : ag_P} {s : ag_S} {fu : Nat} {x1 : Int32} {x2 : Int32} {out : Int32 × ag_S} (t6 : vp_in 0 (n 6)) (hf : f_X6_ofLine fu x1 x2 s = some out) : Met l yX6_ofLine (ag_ws yX6_ofLine cX6_ofLine 4 ((some FieldType.int))) rm_X6_ofLine (va_Pc [.ref (p 6 0), .int x1, .int x2] (ag_Pre z n p s)) (ag_Ri z n p out.1 out.2) 0 0 (ag_A z) := by
  refine Met.ofW (cc := cX6_ofLine) (maxL := 4) (ret := (some FieldType.int)) (by decide) rfl ?_
  intro p0 e st m args below meth c s9 B hml hv
  obtain ⟨ha, h0, hG, hW⟩ := hv
  have hx := B.exec
  have hb := B.bytes
  have hr := B.returns
  have hts := atoms_spec (ws := ag_ws yX6_ofLine cX6_ofLine 4 ((some FieldType.int))) B.pre
  have hT : ∀ w ∈ ag_tbl, w.before args st = true := fun w h => hts w (List.mem_cons_of_mem _ h)
  have hown : st.vm.findClass RX6 = some m.cls := findClass_of_methodNamed B.named
  have hlocks := B.notSynchronized
  have hS : va_S (ag_A z) st.heap st.heap [] := va_S.rf
  obtain ⟨ls, hls, hl⟩ : ∃ ls, entryFrame m args 4 = F0 m 0 ls [] ∧ lv_has ls 4 [(0, .ref (p 6 0)), (1, .int x1), (2, .int x2)] := by rw [ha]; exact ag_entry m [.ref (p 6 0), .int x1, .int x2] (Nat.le_of_ble_eq_true rfl)
  rw [hls]
  have k30 : ∀ (x1 : Int32) (x2 : Int32) (y1 : Int32) (s : ag_S) (H : Heap) (locs : List Loc) (ls : Array Slot), ag_W z n p s H → va_S (ag_A z) st.heap H locs → lv_has ls 4 [(0, .ref (p 6 0)), (1, .int x1), (2, .int x2)] → f_X6_ofLine_b30 fu x1 x2 y1 s = some out → W p0 l e (headSpec (ag_ws yX6_ofLine cX6_ofLine 4 ((some FieldType.int))) rm_X6_ofLine).room st m args below meth c H locs 0 0 (MQ below (ag_Ri z n p out.1 out.2) args st 0 0 (ag_A z)) (F0 m 30 ls [.int y1, .ref (p 6 0)]) := by
    intro x1 x2 y1 s H locs ls hW hS hl hf
    unfold f_X6_ofLine_b30 at hf
    obtain ⟨r30, hg30, hf⟩ := ag_bs hf
    refine ag_cVi hx hb hml hT hown hG h0 hS hW (c_X6_goesWell t6 hg30) ⟨rfl, rfl⟩ q896 q898 qs27 q11 q899 dd_yX6_goesWell ⟨Nat.le_of_ble_eq_true rfl, Nat.le_of_ble_eq_true rfl⟩ t6 rfl rfl hl.1 rfl (Nat.le_of_ble_eq_true rfl) ⟨Nat.le_of_ble_eq_true rfl, Nat.le_of_ble_eq_true rfl⟩ dX6_ofLine_30 (fun H locs hW hS => ?_)
    refine lv_if_ne (tgt := 38) hx hb dX6_ofLine_33 (by decide) (fun c33 => ?_) (fun c33 => ?_)
    · have hf := ag_f c33 hf
      refine lv_iload_n hx hb dX6_ofLine_38 rfl (lv_at hl 2 rfl) ?_
      by_cases c39_0 : x2 = 0
      · have hf := ag_t c39_0 hf
        refine lv_tableIn (off := 37) (tgt := 76) hx hb dX6_ofLine_39 (by rw [c39_0]; decide) (by rw [c39_0]; decide) (by rw [c39_0]; rfl) (by decide) ?_
        refine lv_aload_n hx hb dX6_ofLine_76 rfl (lv_at hl 0 rfl) ?_
        refine lv_iload_n hx hb dX6_ofLine_77 rfl (lv_at hl 1 rfl) ?_
        obtain ⟨r78, hg78, hf⟩ := ag_bs hf
        refine ag_cVi hx hb hml hT hown hG h0 hS hW (c_X6_stands t6 hg78) ⟨rfl, rfl⟩ q953 q955 qs35 q11 q956 dd_yX6_stands ⟨Nat.le_of_ble_eq_true rfl, Nat.le_of_ble_eq_true rfl⟩ t6 rfl rfl hl.1 rfl (Nat.le_of_ble_eq_true rfl) ⟨Nat.le_of_ble_eq_true rfl, Nat.le_of_ble_eq_true rfl⟩ dX6_ofLine_78 (fun H locs hW hS => ?_)
        exact ag_iret hx hb hr rfl hlocks hS (congrArg Prod.fst (Option.some.inj hf)) (congrArg Prod.snd (Option.some.inj hf) ▸ hW) dX6_ofLine_81
      have hf := ag_f c39_0 hf
      by_cases c39_1 : x2 = 1
      · have hf := ag_t c39_1 hf
        refine lv_tableIn (off := 43) (tgt := 82) hx hb dX6_ofLine_39 (by rw [c39_1]; decide) (by rw [c39_1]; decide) (by rw [c39_1]; rfl) (by decide) ?_
        refine lv_aload_n hx hb dX6_ofLine_82 rfl (lv_at hl 0 rfl) ?_
        refine g6_12 hx hb hT hown hG hW t6 q800 dX6_ofLine_83 ?_
        have t42 := ag_fix hW (k := 6) (f := 12) (t := 42) t6 rfl rfl
        refine lv_iload_n hx hb dX6_ofLine_86 rfl (lv_at hl 1 rfl) ?_
        obtain ⟨a87, hf⟩ := ag_n hf
        refine ag_iald hx hb hG hW t42 rfl rfl a87 dX6_ofLine_87 ?_
        exact ag_iret hx hb hr rfl hlocks hS (congrArg Prod.fst (Option.some.inj hf)) (congrArg Prod.snd (Option.some.inj hf) ▸ hW) dX6_ofLine_88
      have hf := ag_f c39_1 hf
      by_cases c39_2 : x2 = 2
      · have hf := ag_t c39_2 hf
        refine lv_tableIn (off := 50) (tgt := 89) hx hb dX6_ofLine_39 (by rw [c39_2]; decide) (by rw [c39_2]; decide) (by rw [c39_2]; rfl) (by decide) ?_
        refine lv_aload_n hx hb dX6_ofLine_89 rfl (lv_at hl 0 rfl) ?_
        refine lv_iload_n hx hb dX6_ofLine_90 rfl (lv_at hl 1 rfl) ?_
        obtain ⟨r91, hg91, hf⟩ := ag_bs hf
        refine ag_cVi hx hb hml hT hown hG h0 hS hW (c_X6_bound t6 hg91) ⟨rfl, rfl⟩ q961 q963 qs37 q11 q964 dd_yX6_bound ⟨Nat.le_of_ble_eq_true rfl, Nat.le_of_ble_eq_true rfl⟩ t6 rfl rfl hl.1 rfl (Nat.le_of_ble_eq_true rfl) ⟨Nat.le_of_ble_eq_true rfl, Nat.le_of_ble_eq_true rfl⟩ dX6_ofLine_91 (fun H locs hW hS => ?_)
        exact ag_iret hx hb hr rfl hlocks hS (congrArg Prod.fst (Option.some.inj hf)) (congrArg Prod.snd (Option.some.inj hf) ▸ hW) dX6_ofLine_94
      have hf := ag_f c39_2 hf
      by_cases c39_3 : x2 = 3
      · have hf := ag_t c39_3 hf
        refine lv_tableIn (off := 56) (tgt := 95) hx hb dX6_ofLine_39 (by rw [c39_3]; decide) (by rw [c39_3]; decide) (by rw [c39_3]; rfl) (by decide) ?_
        refine lv_aload_n hx hb dX6_ofLine_95 rfl (lv_at hl 0 rfl) ?_
        refine lv_iload_n hx hb dX6_ofLine_96 rfl (lv_at hl 1 rfl) ?_
        obtain ⟨r97, hg97, hf⟩ := ag_bs hf
        refine ag_cVi hx hb hml hT hown hG h0 hS hW (c_X6_free t6 hg97) ⟨rfl, rfl⟩ q949 q951 qs34 q11 q952 dd_yX6_free ⟨Nat.le_of_ble_eq_true rfl, Nat.le_of_ble_eq_true rfl⟩ t6 rfl rfl hl.1 rfl (Nat.le_of_ble_eq_true rfl) ⟨Nat.le_of_ble_eq_true rfl, Nat.le_of_ble_eq_true rfl⟩ dX6_ofLine_97 (fun H locs hW hS => ?_)
        exact ag_iret hx hb hr rfl hlocks hS (congrArg Prod.fst (Option.some.inj hf)) (congrArg Prod.snd (Option.some.inj hf) ▸ hW) dX6_ofLine_100
      have hf := ag_f c39_3 hf
      by_cases c39_4 : x2 = 4
      · have hf := ag_t c39_4 hf
        refine lv_tableIn (off := 62) (tgt := 101) hx hb dX6_ofLine_39 (by rw [c39_4]; decide) (by rw [c39_4]; decide) (by rw [c39_4]; rfl) (by decide) ?_
        refine lv_aload_n hx hb dX6_ofLine_101 rfl (lv_at hl 0 rfl) ?_
        refine g6_10 hx hb hT hown hG hW t6 q798 dX6_ofLine_102 ?_
        have t40 := ag_fix hW (k := 6) (f := 10) (t := 40) t6 rfl rfl
        refine lv_iload_n hx hb dX6_ofLine_105 rfl (lv_at hl 1 rfl) ?_
        obtain ⟨a106, hf⟩ := ag_n hf
        refine ag_iald hx hb hG hW t40 rfl rfl a106 dX6_ofLine_106 ?_
        exact ag_iret hx hb hr rfl hlocks hS (congrArg Prod.fst (Option.some.inj hf)) (congrArg Prod.snd (Option.some.inj hf) ▸ hW) dX6_ofLine_107
      have hf := ag_f c39_4 hf
      by_cases c39_5 : x2 = 5
      · have hf := ag_t c39_5 hf
        refine lv_tableIn (off := 69) (tgt := 108) hx hb dX6_ofLine_39 (by rw [c39_5]; decide) (by rw [c39_5]; decide) (by rw [c39_5]; rfl) (by decide) ?_
        refine lv_aload_n hx hb dX6_ofLine_108 rfl (lv_at hl 0 rfl) ?_
        refine g6_11 hx hb hT hown hG hW t6 q799 dX6_ofLine_109 ?_
        have t41 := ag_fix hW (k := 6) (f := 11) (t := 41) t6 rfl rfl
        refine lv_iload_n hx hb dX6_ofLine_112 rfl (lv_at hl 1 rfl) ?_
        obtain ⟨a113, hf⟩ := ag_n hf
        refine ag_iald hx hb hG hW t41 rfl rfl a113 dX6_ofLine_113 ?_
        exact ag_iret hx hb hr rfl hlocks hS (congrArg Prod.fst (Option.some.inj hf)) (congrArg Prod.snd (Option.some.inj hf) ▸ hW) dX6_ofLine_114
      have hf := ag_f c39_5 hf
      refine lv_tableOut (tgt := 115) hx hb dX6_ofLine_39 (ag_tab 5 (fun j hj => by rcases (show j = 0 ∨ j = 1 ∨ j = 2 ∨ j = 3 ∨ j = 4 ∨ j = 5 by omega) with rfl | rfl | rfl | rfl | rfl | rfl <;> assumption)) (by decide) ?_
      refine lv_aload_n hx hb dX6_ofLine_115 rfl (lv_at hl 0 rfl) ?_
      refine g6_8 hx hb hT hown hG hW t6 q796 dX6_ofLine_116 ?_
      have t38 := ag_fix hW (k := 6) (f := 8) (t := 38) t6 rfl rfl
      refine lv_iload_n hx hb dX6_ofLine_119 rfl (lv_at hl 1 rfl) ?_
      obtain ⟨a120, hf⟩ := ag_n hf
      refine ag_iald hx hb hG hW t38 rfl rfl a120 dX6_ofLine_120 ?_
      exact ag_iret hx hb hr rfl hlocks hS (congrArg Prod.fst (Option.some.inj hf)) (congrArg Prod.snd (Option.some.inj hf) ▸ hW) dX6_ofLine_121
    · have hf := ag_t c33 hf
      refine lv_iconst (v := 0) hx hb dX6_ofLine_36 (by decide) ?_
      exact ag_iret hx hb hr rfl hlocks hS (congrArg Prod.fst (Option.some.inj hf)) (congrArg Prod.snd (Option.some.inj hf) ▸ hW) dX6_ofLine_37
  unfold f_X6_ofLine at hf
  refine lv_aload_n hx hb dX6_ofLine_0 rfl (lv_at hl 0 rfl) ?_
  refine lv_iload_n hx hb dX6_ofLine_1 rfl (lv_at hl 1 rfl) ?_
  obtain ⟨r2, hg2, hf⟩ := ag_bs hf
  refine ag_cVi hx hb hml hT hown hG h0 hS hW (c_X6_isLine t6 hg2) ⟨rfl, rfl⟩ q908 q910 qs28 q11 q911 dd_yX6_isLine ⟨Nat.le_of_ble_eq_true rfl, Nat.le_of_ble_eq_true rfl⟩ t6 rfl rfl hl.1 rfl (Nat.le_of_ble_eq_true rfl) ⟨Nat.le_of_ble_eq_true rfl, Nat.le_of_ble_eq_true rfl⟩ dX6_ofLine_2 (fun H locs hW hS => ?_)
  refine lv_istore_n (lv' := [(3, .int r2), (0, .ref (p 6 0)), (1, .int x1), (2, .int x2)]) hx hb dX6_ofLine_5 rfl hl (by decide) rfl (fun ls hl => ?_)
  refine lv_aload_n hx hb dX6_ofLine_6 rfl (lv_at hl 1 rfl) ?_
  refine lv_iload_n hx hb dX6_ofLine_7 rfl (lv_at hl 0 rfl) ?_
  refine lv_if_ne (tgt := 15) hx hb dX6_ofLine_8 (by decide) (fun c8 => ?_) (fun c8 => ?_)
  · have hf := ag_f c8 hf
    refine lv_iload_n hx hb dX6_ofLine_15 rfl (lv_at hl 3 rfl) ?_
    refine lv_iconst (v := 0) hx hb dX6_ofLine_16 (by decide) ?_
    refine lv_bipush (v := 6) hx hb dX6_ofLine_17 (by decide) ?_
    obtain ⟨r19, hg19, hf⟩ := ag_bs hf
    refine ag_cSi hx hb hml hT hown hG h0 hS hW (c_X6_in hg19) ⟨rfl, rfl⟩ q892 q893 q11 q894 dd_yX6_in ⟨Nat.le_of_ble_eq_true rfl, Nat.le_of_ble_eq_true rfl⟩ hl.1 rfl (Nat.le_of_ble_eq_true rfl) ⟨Nat.le_of_ble_eq_true rfl, Nat.le_of_ble_eq_true rfl⟩ dX6_ofLine_19 (fun H locs hW hS => ?_)
    refine lv_if_eq (tgt := 29) hx hb dX6_ofLine_22 (by decide) (fun c22 => ?_) (fun c22 => ?_)
    · have hf := ag_t c22 hf
      refine lv_iconst (v := 2) hx hb dX6_ofLine_29 (by decide) ?_
      exact k30 _ _ _ _ _ _ _ hW hS (lv_sub hl [1, 2, 3] rfl) hf
    · have hf := ag_f c22 hf
      refine lv_iconst (v := 0) hx hb dX6_ofLine_25 (by decide) ?_
      refine lv_goto (tgt := 30) hx hb dX6_ofLine_26 (by decide) ?_
      exact k30 _ _ _ _ _ _ _ hW hS (lv_sub hl [1, 2, 3] rfl) hf
  · have hf := ag_t c8 hf
    refine lv_iconst (v := 1) hx hb dX6_ofLine_11 (by decide) ?_
    refine lv_goto (tgt := 30) hx hb dX6_ofLine_12 (by decide) ?_
    exact k30 _ _ _ _ _ _ _ hW hS (lv_sub hl [1, 2, 3] rfl) hf
def f_X6_standsAnew (fu : Nat) (x1 : Int32) (s : ag_S) : Option (Int32 × ag_S) := ag_bd (f_X6_isLine fu x1 s) fun r3 => if r3 = 0 then (ag_bd (f_X6_goesWell fu 1 s) fun r14 => if r14.1 = 0 then (some (0, r14.2)) else (ag_bd (f_X6_stands fu x1 r14.2) fun r22 => some (r22.1, r22.2))) else (ag_bd (f_X6_goesWell fu 0 s) fun r14 => if r14.1 = 0 then (some (0, r14.2)) else (ag_bd (f_X6_stands fu x1 r14.2) fun r22 => some (r22.1, r22.2)))
abbrev rm_X6_standsAnew : Room := { frames := 2, cells := 0, slots := 0, locals := 45 }
theorem dd_yX6_standsAnew : yX6_standsAnew.cls = RX6 ∧ yX6_standsAnew.cls ≠ "java/lang/invoke/MethodHandle" ∧ yX6_standsAnew.cls ≠ "java/lang/invoke/VarHandle" ∧ (parseMethodDescriptor yX6_standsAnew.desc).map (fun d => d.parameters.length) = some 1 := by decide +kernel
set_option maxHeartbeats 4000000 in
set_option maxRecDepth 100000 in
theorem c_X6_standsAnew {z : ag_Z} {l : Launch} {n : ag_N} {p : ag_P} {s : ag_S} {fu : Nat} {x1 : Int32} {out : Int32 × ag_S} (t6 : vp_in 0 (n 6)) (hf : f_X6_standsAnew fu x1 s = some out) : Met l yX6_standsAnew (ag_ws yX6_standsAnew cX6_standsAnew 2 ((some FieldType.int))) rm_X6_standsAnew (va_Pc [.ref (p 6 0), .int x1] (ag_Pre z n p s)) (ag_Ri z n p out.1 out.2) 0 0 (ag_A z) := by
  refine Met.ofW (cc := cX6_standsAnew) (maxL := 2) (ret := (some FieldType.int)) (by decide) rfl ?_
  intro p0 e st m args below meth c s9 B hml hv
  obtain ⟨ha, h0, hG, hW⟩ := hv
  have hx := B.exec
  have hb := B.bytes
  have hr := B.returns
  have hts := atoms_spec (ws := ag_ws yX6_standsAnew cX6_standsAnew 2 ((some FieldType.int))) B.pre
  have hT : ∀ w ∈ ag_tbl, w.before args st = true := fun w h => hts w (List.mem_cons_of_mem _ h)
  have hown : st.vm.findClass RX6 = some m.cls := findClass_of_methodNamed B.named
  have hlocks := B.notSynchronized
  have hS : va_S (ag_A z) st.heap st.heap [] := va_S.rf
  obtain ⟨ls, hls, hl⟩ : ∃ ls, entryFrame m args 2 = F0 m 0 ls [] ∧ lv_has ls 2 [(0, .ref (p 6 0)), (1, .int x1)] := by rw [ha]; exact ag_entry m [.ref (p 6 0), .int x1] (Nat.le_of_ble_eq_true rfl)
  rw [hls]
  unfold f_X6_standsAnew at hf
  refine lv_aload_n hx hb dX6_standsAnew_0 rfl (lv_at hl 0 rfl) ?_
  refine lv_aload_n hx hb dX6_standsAnew_1 rfl (lv_at hl 0 rfl) ?_
  refine lv_iload_n hx hb dX6_standsAnew_2 rfl (lv_at hl 1 rfl) ?_
  obtain ⟨r3, hg3, hf⟩ := ag_bs hf
  refine ag_cVi hx hb hml hT hown hG h0 hS hW (c_X6_isLine t6 hg3) ⟨rfl, rfl⟩ q908 q910 qs28 q11 q911 dd_yX6_isLine ⟨Nat.le_of_ble_eq_true rfl, Nat.le_of_ble_eq_true rfl⟩ t6 rfl rfl hl.1 rfl (Nat.le_of_ble_eq_true rfl) ⟨Nat.le_of_ble_eq_true rfl, Nat.le_of_ble_eq_true rfl⟩ dX6_standsAnew_3 (fun H locs hW hS => ?_)
  refine lv_if_eq (tgt := 13) hx hb dX6_standsAnew_6 (by decide) (fun c6 => ?_) (fun c6 => ?_)
  · have hf := ag_t c6 hf
    refine lv_iconst (v := 1) hx hb dX6_standsAnew_13 (by decide) ?_
    obtain ⟨r14, hg14, hf⟩ := ag_bs hf
    refine ag_cVi hx hb hml hT hown hG h0 hS hW (c_X6_goesWell t6 hg14) ⟨rfl, rfl⟩ q896 q898 qs27 q11 q899 dd_yX6_goesWell ⟨Nat.le_of_ble_eq_true rfl, Nat.le_of_ble_eq_true rfl⟩ t6 rfl rfl hl.1 rfl (Nat.le_of_ble_eq_true rfl) ⟨Nat.le_of_ble_eq_true rfl, Nat.le_of_ble_eq_true rfl⟩ dX6_standsAnew_14 (fun H locs hW hS => ?_)
    refine lv_if_eq (tgt := 28) hx hb dX6_standsAnew_17 (by decide) (fun c17 => ?_) (fun c17 => ?_)
    · have hf := ag_t c17 hf
      refine lv_iconst (v := 0) hx hb dX6_standsAnew_28 (by decide) ?_
      exact ag_iret hx hb hr rfl hlocks hS (congrArg Prod.fst (Option.some.inj hf)) (congrArg Prod.snd (Option.some.inj hf) ▸ hW) dX6_standsAnew_29
    · have hf := ag_f c17 hf
      refine lv_aload_n hx hb dX6_standsAnew_20 rfl (lv_at hl 0 rfl) ?_
      refine lv_iload_n hx hb dX6_standsAnew_21 rfl (lv_at hl 1 rfl) ?_
      obtain ⟨r22, hg22, hf⟩ := ag_bs hf
      refine ag_cVi hx hb hml hT hown hG h0 hS hW (c_X6_stands t6 hg22) ⟨rfl, rfl⟩ q953 q955 qs35 q11 q956 dd_yX6_stands ⟨Nat.le_of_ble_eq_true rfl, Nat.le_of_ble_eq_true rfl⟩ t6 rfl rfl hl.1 rfl (Nat.le_of_ble_eq_true rfl) ⟨Nat.le_of_ble_eq_true rfl, Nat.le_of_ble_eq_true rfl⟩ dX6_standsAnew_22 (fun H locs hW hS => ?_)
      refine lv_goto (tgt := 29) hx hb dX6_standsAnew_25 (by decide) ?_
      exact ag_iret hx hb hr rfl hlocks hS (congrArg Prod.fst (Option.some.inj hf)) (congrArg Prod.snd (Option.some.inj hf) ▸ hW) dX6_standsAnew_29
  · have hf := ag_f c6 hf
    refine lv_iconst (v := 0) hx hb dX6_standsAnew_9 (by decide) ?_
    refine lv_goto (tgt := 14) hx hb dX6_standsAnew_10 (by decide) ?_
    obtain ⟨r14, hg14, hf⟩ := ag_bs hf
    refine ag_cVi hx hb hml hT hown hG h0 hS hW (c_X6_goesWell t6 hg14) ⟨rfl, rfl⟩ q896 q898 qs27 q11 q899 dd_yX6_goesWell ⟨Nat.le_of_ble_eq_true rfl, Nat.le_of_ble_eq_true rfl⟩ t6 rfl rfl hl.1 rfl (Nat.le_of_ble_eq_true rfl) ⟨Nat.le_of_ble_eq_true rfl, Nat.le_of_ble_eq_true rfl⟩ dX6_standsAnew_14 (fun H locs hW hS => ?_)
    refine lv_if_eq (tgt := 28) hx hb dX6_standsAnew_17 (by decide) (fun c17 => ?_) (fun c17 => ?_)
    · have hf := ag_t c17 hf
      refine lv_iconst (v := 0) hx hb dX6_standsAnew_28 (by decide) ?_
      exact ag_iret hx hb hr rfl hlocks hS (congrArg Prod.fst (Option.some.inj hf)) (congrArg Prod.snd (Option.some.inj hf) ▸ hW) dX6_standsAnew_29
    · have hf := ag_f c17 hf
      refine lv_aload_n hx hb dX6_standsAnew_20 rfl (lv_at hl 0 rfl) ?_
      refine lv_iload_n hx hb dX6_standsAnew_21 rfl (lv_at hl 1 rfl) ?_
      obtain ⟨r22, hg22, hf⟩ := ag_bs hf
      refine ag_cVi hx hb hml hT hown hG h0 hS hW (c_X6_stands t6 hg22) ⟨rfl, rfl⟩ q953 q955 qs35 q11 q956 dd_yX6_stands ⟨Nat.le_of_ble_eq_true rfl, Nat.le_of_ble_eq_true rfl⟩ t6 rfl rfl hl.1 rfl (Nat.le_of_ble_eq_true rfl) ⟨Nat.le_of_ble_eq_true rfl, Nat.le_of_ble_eq_true rfl⟩ dX6_standsAnew_22 (fun H locs hW hS => ?_)
      refine lv_goto (tgt := 29) hx hb dX6_standsAnew_25 (by decide) ?_
      exact ag_iret hx hb hr rfl hlocks hS (congrArg Prod.fst (Option.some.inj hf)) (congrArg Prod.snd (Option.some.inj hf) ▸ hW) dX6_standsAnew_29
def f_X6_ofAmendment_b30 (fu : Nat) (x1 : Int32) (x2 : Int32) (y1 : Int32) (s : ag_S) : Option (Int32 × ag_S) := ag_bd (f_X6_goesWell fu y1 s) fun r30 => if r30.1 = 0 then (some (0, r30.2)) else (ag_bd (f_X6_bring fu r30.2) fun r39 => if x2 = 0 then (if x1 < 0 ∨ 40 ≤ x1.toNatClampNeg then none else some (r39 47 0 x1, r39)) else (if x2 = 1 then (if x1 < 0 ∨ 40 ≤ x1.toNatClampNeg then none else some (r39 59 0 x1, r39)) else (if x2 = 2 then (if x1 < 0 ∨ 40 ≤ x1.toNatClampNeg then none else some (r39 48 0 x1, r39)) else (if x2 = 3 then (ag_bd (f_X6_votesOf fu x1 1 r39) fun r108 => some (r108, r39)) else (if x2 = 4 then (ag_bd (f_X6_votesOf fu x1 2 r39) fun r115 => some (r115, r39)) else (if x2 = 5 then (if x1 < 0 ∨ 40 ≤ x1.toNatClampNeg then none else some (r39 44 0 x1, r39)) else (if x2 = 6 then (if x1 < 0 ∨ 40 ≤ x1.toNatClampNeg then none else some (r39 45 0 x1, r39)) else (ag_bd (f_X6_manyOn fu x1 r39) fun r135 => some (r135, r39)))))))))
def f_X6_ofAmendment (fu : Nat) (x1 : Int32) (x2 : Int32) (s : ag_S) : Option (Int32 × ag_S) := ag_bd (f_X6_isAmendment fu x1 s) fun r2 => if r2 = 0 then (f_X6_ofAmendment_b30 fu x1 x2 1 s) else (ag_bd (f_X6_in fu x2 0 7 s) fun r19 => if r19 = 0 then (f_X6_ofAmendment_b30 fu x1 x2 2 s) else (f_X6_ofAmendment_b30 fu x1 x2 0 s))
abbrev rm_X6_ofAmendment : Room := { frames := 2, cells := 0, slots := 0, locals := 43 }
theorem dd_yX6_ofAmendment : yX6_ofAmendment.cls = RX6 ∧ yX6_ofAmendment.cls ≠ "java/lang/invoke/MethodHandle" ∧ yX6_ofAmendment.cls ≠ "java/lang/invoke/VarHandle" ∧ (parseMethodDescriptor yX6_ofAmendment.desc).map (fun d => d.parameters.length) = some 2 := by decide +kernel
set_option maxHeartbeats 4000000 in
set_option maxRecDepth 100000 in
theorem c_X6_ofAmendment {z : ag_Z} {l : Launch} {n : ag_N} {p : ag_P} {s : ag_S} {fu : Nat} {x1 : Int32} {x2 : Int32} {out : Int32 × ag_S} (t6 : vp_in 0 (n 6)) (hf : f_X6_ofAmendment fu x1 x2 s = some out) : Met l yX6_ofAmendment (ag_ws yX6_ofAmendment cX6_ofAmendment 4 ((some FieldType.int))) rm_X6_ofAmendment (va_Pc [.ref (p 6 0), .int x1, .int x2] (ag_Pre z n p s)) (ag_Ri z n p out.1 out.2) 0 0 (ag_A z) := by
  refine Met.ofW (cc := cX6_ofAmendment) (maxL := 4) (ret := (some FieldType.int)) (by decide) rfl ?_
  intro p0 e st m args below meth c s9 B hml hv
  obtain ⟨ha, h0, hG, hW⟩ := hv
  have hx := B.exec
  have hb := B.bytes
  have hr := B.returns
  have hts := atoms_spec (ws := ag_ws yX6_ofAmendment cX6_ofAmendment 4 ((some FieldType.int))) B.pre
  have hT : ∀ w ∈ ag_tbl, w.before args st = true := fun w h => hts w (List.mem_cons_of_mem _ h)
  have hown : st.vm.findClass RX6 = some m.cls := findClass_of_methodNamed B.named
  have hlocks := B.notSynchronized
  have hS : va_S (ag_A z) st.heap st.heap [] := va_S.rf
  obtain ⟨ls, hls, hl⟩ : ∃ ls, entryFrame m args 4 = F0 m 0 ls [] ∧ lv_has ls 4 [(0, .ref (p 6 0)), (1, .int x1), (2, .int x2)] := by rw [ha]; exact ag_entry m [.ref (p 6 0), .int x1, .int x2] (Nat.le_of_ble_eq_true rfl)
  rw [hls]
  have k30 : ∀ (x1 : Int32) (x2 : Int32) (y1 : Int32) (s : ag_S) (H : Heap) (locs : List Loc) (ls : Array Slot), ag_W z n p s H → va_S (ag_A z) st.heap H locs → lv_has ls 4 [(0, .ref (p 6 0)), (1, .int x1), (2, .int x2)] → f_X6_ofAmendment_b30 fu x1 x2 y1 s = some out → W p0 l e (headSpec (ag_ws yX6_ofAmendment cX6_ofAmendment 4 ((some FieldType.int))) rm_X6_ofAmendment).room st m args below meth c H locs 0 0 (MQ below (ag_Ri z n p out.1 out.2) args st 0 0 (ag_A z)) (F0 m 30 ls [.int y1, .ref (p 6 0)]) := by
    intro x1 x2 y1 s H locs ls hW hS hl hf
    unfold f_X6_ofAmendment_b30 at hf
    obtain ⟨r30, hg30, hf⟩ := ag_bs hf
    refine ag_cVi hx hb hml hT hown hG h0 hS hW (c_X6_goesWell t6 hg30) ⟨rfl, rfl⟩ q896 q898 qs27 q11 q899 dd_yX6_goesWell ⟨Nat.le_of_ble_eq_true rfl, Nat.le_of_ble_eq_true rfl⟩ t6 rfl rfl hl.1 rfl (Nat.le_of_ble_eq_true rfl) ⟨Nat.le_of_ble_eq_true rfl, Nat.le_of_ble_eq_true rfl⟩ dX6_ofAmendment_30 (fun H locs hW hS => ?_)
    refine lv_if_ne (tgt := 38) hx hb dX6_ofAmendment_33 (by decide) (fun c33 => ?_) (fun c33 => ?_)
    · have hf := ag_f c33 hf
      refine lv_aload_n hx hb dX6_ofAmendment_38 rfl (lv_at hl 0 rfl) ?_
      obtain ⟨r39, hg39, hf⟩ := ag_bs hf
      refine ag_cVv hx hb hml hT hown hG h0 hS hW (c_X6_bring t6 hg39) ⟨rfl, rfl⟩ q957 q959 qs36 q11 q960 dd_yX6_bring ⟨Nat.le_of_ble_eq_true rfl, Nat.le_of_ble_eq_true rfl⟩ t6 rfl rfl hl.1 rfl (Nat.le_of_ble_eq_true rfl) ⟨Nat.le_of_ble_eq_true rfl, Nat.le_of_ble_eq_true rfl⟩ dX6_ofAmendment_39 (fun H locs hW hS => ?_)
      refine lv_iload_n hx hb dX6_ofAmendment_42 rfl (lv_at hl 2 rfl) ?_
      by_cases c43_0 : x2 = 0
      · have hf := ag_t c43_0 hf
        refine lv_tableIn (off := 41) (tgt := 84) hx hb dX6_ofAmendment_43 (by rw [c43_0]; decide) (by rw [c43_0]; decide) (by rw [c43_0]; rfl) (by decide) ?_
        refine lv_aload_n hx hb dX6_ofAmendment_84 rfl (lv_at hl 0 rfl) ?_
        refine g6_17 hx hb hT hown hG hW t6 q805 dX6_ofAmendment_85 ?_
        have t47 := ag_fix hW (k := 6) (f := 17) (t := 47) t6 rfl rfl
        refine lv_iload_n hx hb dX6_ofAmendment_88 rfl (lv_at hl 1 rfl) ?_
        obtain ⟨a89, hf⟩ := ag_n hf
        refine ag_iald hx hb hG hW t47 rfl rfl a89 dX6_ofAmendment_89 ?_
        exact ag_iret hx hb hr rfl hlocks hS (congrArg Prod.fst (Option.some.inj hf)) (congrArg Prod.snd (Option.some.inj hf) ▸ hW) dX6_ofAmendment_90
      have hf := ag_f c43_0 hf
      by_cases c43_1 : x2 = 1
      · have hf := ag_t c43_1 hf
        refine lv_tableIn (off := 48) (tgt := 91) hx hb dX6_ofAmendment_43 (by rw [c43_1]; decide) (by rw [c43_1]; decide) (by rw [c43_1]; rfl) (by decide) ?_
        refine lv_aload_n hx hb dX6_ofAmendment_91 rfl (lv_at hl 0 rfl) ?_
        refine g6_29 hx hb hT hown hG hW t6 q817 dX6_ofAmendment_92 ?_
        have t59 := ag_fix hW (k := 6) (f := 29) (t := 59) t6 rfl rfl
        refine lv_iload_n hx hb dX6_ofAmendment_95 rfl (lv_at hl 1 rfl) ?_
        obtain ⟨a96, hf⟩ := ag_n hf
        refine ag_iald hx hb hG hW t59 rfl rfl a96 dX6_ofAmendment_96 ?_
        exact ag_iret hx hb hr rfl hlocks hS (congrArg Prod.fst (Option.some.inj hf)) (congrArg Prod.snd (Option.some.inj hf) ▸ hW) dX6_ofAmendment_97
      have hf := ag_f c43_1 hf
      by_cases c43_2 : x2 = 2
      · have hf := ag_t c43_2 hf
        refine lv_tableIn (off := 55) (tgt := 98) hx hb dX6_ofAmendment_43 (by rw [c43_2]; decide) (by rw [c43_2]; decide) (by rw [c43_2]; rfl) (by decide) ?_
        refine lv_aload_n hx hb dX6_ofAmendment_98 rfl (lv_at hl 0 rfl) ?_
        refine g6_18 hx hb hT hown hG hW t6 q806 dX6_ofAmendment_99 ?_
        have t48 := ag_fix hW (k := 6) (f := 18) (t := 48) t6 rfl rfl
        refine lv_iload_n hx hb dX6_ofAmendment_102 rfl (lv_at hl 1 rfl) ?_
        obtain ⟨a103, hf⟩ := ag_n hf
        refine ag_iald hx hb hG hW t48 rfl rfl a103 dX6_ofAmendment_103 ?_
        exact ag_iret hx hb hr rfl hlocks hS (congrArg Prod.fst (Option.some.inj hf)) (congrArg Prod.snd (Option.some.inj hf) ▸ hW) dX6_ofAmendment_104
      have hf := ag_f c43_2 hf
      by_cases c43_3 : x2 = 3
      · have hf := ag_t c43_3 hf
        refine lv_tableIn (off := 62) (tgt := 105) hx hb dX6_ofAmendment_43 (by rw [c43_3]; decide) (by rw [c43_3]; decide) (by rw [c43_3]; rfl) (by decide) ?_
        refine lv_aload_n hx hb dX6_ofAmendment_105 rfl (lv_at hl 0 rfl) ?_
        refine lv_iload_n hx hb dX6_ofAmendment_106 rfl (lv_at hl 1 rfl) ?_
        refine lv_iconst (v := 1) hx hb dX6_ofAmendment_107 (by decide) ?_
        obtain ⟨r108, hg108, hf⟩ := ag_bs hf
        refine ag_cVi hx hb hml hT hown hG h0 hS hW (c_X6_votesOf t6 hg108) ⟨rfl, rfl⟩ q933 q935 qs31 q11 q936 dd_yX6_votesOf ⟨Nat.le_of_ble_eq_true rfl, Nat.le_of_ble_eq_true rfl⟩ t6 rfl rfl hl.1 rfl (Nat.le_of_ble_eq_true rfl) ⟨Nat.le_of_ble_eq_true rfl, Nat.le_of_ble_eq_true rfl⟩ dX6_ofAmendment_108 (fun H locs hW hS => ?_)
        exact ag_iret hx hb hr rfl hlocks hS (congrArg Prod.fst (Option.some.inj hf)) (congrArg Prod.snd (Option.some.inj hf) ▸ hW) dX6_ofAmendment_111
      have hf := ag_f c43_3 hf
      by_cases c43_4 : x2 = 4
      · have hf := ag_t c43_4 hf
        refine lv_tableIn (off := 69) (tgt := 112) hx hb dX6_ofAmendment_43 (by rw [c43_4]; decide) (by rw [c43_4]; decide) (by rw [c43_4]; rfl) (by decide) ?_
        refine lv_aload_n hx hb dX6_ofAmendment_112 rfl (lv_at hl 0 rfl) ?_
        refine lv_iload_n hx hb dX6_ofAmendment_113 rfl (lv_at hl 1 rfl) ?_
        refine lv_iconst (v := 2) hx hb dX6_ofAmendment_114 (by decide) ?_
        obtain ⟨r115, hg115, hf⟩ := ag_bs hf
        refine ag_cVi hx hb hml hT hown hG h0 hS hW (c_X6_votesOf t6 hg115) ⟨rfl, rfl⟩ q933 q935 qs31 q11 q936 dd_yX6_votesOf ⟨Nat.le_of_ble_eq_true rfl, Nat.le_of_ble_eq_true rfl⟩ t6 rfl rfl hl.1 rfl (Nat.le_of_ble_eq_true rfl) ⟨Nat.le_of_ble_eq_true rfl, Nat.le_of_ble_eq_true rfl⟩ dX6_ofAmendment_115 (fun H locs hW hS => ?_)
        exact ag_iret hx hb hr rfl hlocks hS (congrArg Prod.fst (Option.some.inj hf)) (congrArg Prod.snd (Option.some.inj hf) ▸ hW) dX6_ofAmendment_118
      have hf := ag_f c43_4 hf
      by_cases c43_5 : x2 = 5
      · have hf := ag_t c43_5 hf
        refine lv_tableIn (off := 76) (tgt := 119) hx hb dX6_ofAmendment_43 (by rw [c43_5]; decide) (by rw [c43_5]; decide) (by rw [c43_5]; rfl) (by decide) ?_
        refine lv_aload_n hx hb dX6_ofAmendment_119 rfl (lv_at hl 0 rfl) ?_
        refine g6_14 hx hb hT hown hG hW t6 q802 dX6_ofAmendment_120 ?_
        have t44 := ag_fix hW (k := 6) (f := 14) (t := 44) t6 rfl rfl
        refine lv_iload_n hx hb dX6_ofAmendment_123 rfl (lv_at hl 1 rfl) ?_
        obtain ⟨a124, hf⟩ := ag_n hf
        refine ag_iald hx hb hG hW t44 rfl rfl a124 dX6_ofAmendment_124 ?_
        exact ag_iret hx hb hr rfl hlocks hS (congrArg Prod.fst (Option.some.inj hf)) (congrArg Prod.snd (Option.some.inj hf) ▸ hW) dX6_ofAmendment_125
      have hf := ag_f c43_5 hf
      by_cases c43_6 : x2 = 6
      · have hf := ag_t c43_6 hf
        refine lv_tableIn (off := 83) (tgt := 126) hx hb dX6_ofAmendment_43 (by rw [c43_6]; decide) (by rw [c43_6]; decide) (by rw [c43_6]; rfl) (by decide) ?_
        refine lv_aload_n hx hb dX6_ofAmendment_126 rfl (lv_at hl 0 rfl) ?_
        refine g6_15 hx hb hT hown hG hW t6 q803 dX6_ofAmendment_127 ?_
        have t45 := ag_fix hW (k := 6) (f := 15) (t := 45) t6 rfl rfl
        refine lv_iload_n hx hb dX6_ofAmendment_130 rfl (lv_at hl 1 rfl) ?_
        obtain ⟨a131, hf⟩ := ag_n hf
        refine ag_iald hx hb hG hW t45 rfl rfl a131 dX6_ofAmendment_131 ?_
        exact ag_iret hx hb hr rfl hlocks hS (congrArg Prod.fst (Option.some.inj hf)) (congrArg Prod.snd (Option.some.inj hf) ▸ hW) dX6_ofAmendment_132
      have hf := ag_f c43_6 hf
      refine lv_tableOut (tgt := 133) hx hb dX6_ofAmendment_43 (ag_tab 6 (fun j hj => by rcases (show j = 0 ∨ j = 1 ∨ j = 2 ∨ j = 3 ∨ j = 4 ∨ j = 5 ∨ j = 6 by omega) with rfl | rfl | rfl | rfl | rfl | rfl | rfl <;> assumption)) (by decide) ?_
      refine lv_aload_n hx hb dX6_ofAmendment_133 rfl (lv_at hl 0 rfl) ?_
      refine lv_iload_n hx hb dX6_ofAmendment_134 rfl (lv_at hl 1 rfl) ?_
      obtain ⟨r135, hg135, hf⟩ := ag_bs hf
      refine ag_cVi hx hb hml hT hown hG h0 hS hW (c_X6_manyOn t6 hg135) ⟨rfl, rfl⟩ q1034 q1036 qs43 q11 q1037 dd_yX6_manyOn ⟨Nat.le_of_ble_eq_true rfl, Nat.le_of_ble_eq_true rfl⟩ t6 rfl rfl hl.1 rfl (Nat.le_of_ble_eq_true rfl) ⟨Nat.le_of_ble_eq_true rfl, Nat.le_of_ble_eq_true rfl⟩ dX6_ofAmendment_135 (fun H locs hW hS => ?_)
      exact ag_iret hx hb hr rfl hlocks hS (congrArg Prod.fst (Option.some.inj hf)) (congrArg Prod.snd (Option.some.inj hf) ▸ hW) dX6_ofAmendment_138
    · have hf := ag_t c33 hf
      refine lv_iconst (v := 0) hx hb dX6_ofAmendment_36 (by decide) ?_
      exact ag_iret hx hb hr rfl hlocks hS (congrArg Prod.fst (Option.some.inj hf)) (congrArg Prod.snd (Option.some.inj hf) ▸ hW) dX6_ofAmendment_37
  unfold f_X6_ofAmendment at hf
  refine lv_aload_n hx hb dX6_ofAmendment_0 rfl (lv_at hl 0 rfl) ?_
  refine lv_iload_n hx hb dX6_ofAmendment_1 rfl (lv_at hl 1 rfl) ?_
  obtain ⟨r2, hg2, hf⟩ := ag_bs hf
  refine ag_cVi hx hb hml hT hown hG h0 hS hW (c_X6_isAmendment t6 hg2) ⟨rfl, rfl⟩ q925 q927 qs30 q11 q928 dd_yX6_isAmendment ⟨Nat.le_of_ble_eq_true rfl, Nat.le_of_ble_eq_true rfl⟩ t6 rfl rfl hl.1 rfl (Nat.le_of_ble_eq_true rfl) ⟨Nat.le_of_ble_eq_true rfl, Nat.le_of_ble_eq_true rfl⟩ dX6_ofAmendment_2 (fun H locs hW hS => ?_)
  refine lv_istore_n (lv' := [(3, .int r2), (0, .ref (p 6 0)), (1, .int x1), (2, .int x2)]) hx hb dX6_ofAmendment_5 rfl hl (by decide) rfl (fun ls hl => ?_)
  refine lv_aload_n hx hb dX6_ofAmendment_6 rfl (lv_at hl 1 rfl) ?_
  refine lv_iload_n hx hb dX6_ofAmendment_7 rfl (lv_at hl 0 rfl) ?_
  refine lv_if_ne (tgt := 15) hx hb dX6_ofAmendment_8 (by decide) (fun c8 => ?_) (fun c8 => ?_)
  · have hf := ag_f c8 hf
    refine lv_iload_n hx hb dX6_ofAmendment_15 rfl (lv_at hl 3 rfl) ?_
    refine lv_iconst (v := 0) hx hb dX6_ofAmendment_16 (by decide) ?_
    refine lv_bipush (v := 7) hx hb dX6_ofAmendment_17 (by decide) ?_
    obtain ⟨r19, hg19, hf⟩ := ag_bs hf
    refine ag_cSi hx hb hml hT hown hG h0 hS hW (c_X6_in hg19) ⟨rfl, rfl⟩ q892 q893 q11 q894 dd_yX6_in ⟨Nat.le_of_ble_eq_true rfl, Nat.le_of_ble_eq_true rfl⟩ hl.1 rfl (Nat.le_of_ble_eq_true rfl) ⟨Nat.le_of_ble_eq_true rfl, Nat.le_of_ble_eq_true rfl⟩ dX6_ofAmendment_19 (fun H locs hW hS => ?_)
    refine lv_if_eq (tgt := 29) hx hb dX6_ofAmendment_22 (by decide) (fun c22 => ?_) (fun c22 => ?_)
    · have hf := ag_t c22 hf
      refine lv_iconst (v := 2) hx hb dX6_ofAmendment_29 (by decide) ?_
      exact k30 _ _ _ _ _ _ _ hW hS (lv_sub hl [1, 2, 3] rfl) hf
    · have hf := ag_f c22 hf
      refine lv_iconst (v := 0) hx hb dX6_ofAmendment_25 (by decide) ?_
      refine lv_goto (tgt := 30) hx hb dX6_ofAmendment_26 (by decide) ?_
      exact k30 _ _ _ _ _ _ _ hW hS (lv_sub hl [1, 2, 3] rfl) hf
  · have hf := ag_t c8 hf
    refine lv_iconst (v := 1) hx hb dX6_ofAmendment_11 (by decide) ?_
    refine lv_goto (tgt := 30) hx hb dX6_ofAmendment_12 (by decide) ?_
    exact k30 _ _ _ _ _ _ _ hW hS (lv_sub hl [1, 2, 3] rfl) hf
def f_X6_ofGrant_b30 (fu : Nat) (x1 : Int32) (x2 : Int32) (y1 : Int32) (s : ag_S) : Option (Int32 × ag_S) := ag_bd (f_X6_goesWell fu y1 s) fun r30 => if r30.1 = 0 then (some (0, r30.2)) else (if x2 = 0 then (if x1 < 0 ∨ 40 ≤ x1.toNatClampNeg then none else some (r30.2 57 0 x1, r30.2)) else (if x2 = 1 then (if x1 < 0 ∨ 40 ≤ x1.toNatClampNeg then none else some (r30.2 53 0 x1, r30.2)) else (if x2 = 2 then (if x1 < 0 ∨ 40 ≤ x1.toNatClampNeg then none else some (r30.2 54 0 x1, r30.2)) else (if x2 = 3 then (if x1 < 0 ∨ 40 ≤ x1.toNatClampNeg then none else some (r30.2 51 0 x1, r30.2)) else (if x2 = 4 then (if x1 < 0 ∨ 40 ≤ x1.toNatClampNeg then none else some (r30.2 52 0 x1, r30.2)) else (if x2 = 5 then (if x1 < 0 ∨ 40 ≤ x1.toNatClampNeg then none else some (r30.2 55 0 x1, r30.2)) else (if x2 = 6 then (if x1 < 0 ∨ 40 ≤ x1.toNatClampNeg then none else some (r30.2 56 0 x1, r30.2)) else (if x1 < 0 ∨ 40 ≤ x1.toNatClampNeg then none else if r30.2 58 0 x1 = 0 then (some (0, r30.2)) else (some (1, r30.2))))))))))
def f_X6_ofGrant (fu : Nat) (x1 : Int32) (x2 : Int32) (s : ag_S) : Option (Int32 × ag_S) := ag_bd (f_X6_isGrant fu x1 s) fun r2 => if r2 = 0 then (f_X6_ofGrant_b30 fu x1 x2 1 s) else (ag_bd (f_X6_in fu x2 0 7 s) fun r19 => if r19 = 0 then (f_X6_ofGrant_b30 fu x1 x2 2 s) else (f_X6_ofGrant_b30 fu x1 x2 0 s))
abbrev rm_X6_ofGrant : Room := { frames := 2, cells := 0, slots := 0, locals := 43 }
theorem dd_yX6_ofGrant : yX6_ofGrant.cls = RX6 ∧ yX6_ofGrant.cls ≠ "java/lang/invoke/MethodHandle" ∧ yX6_ofGrant.cls ≠ "java/lang/invoke/VarHandle" ∧ (parseMethodDescriptor yX6_ofGrant.desc).map (fun d => d.parameters.length) = some 2 := by decide +kernel
set_option maxHeartbeats 4000000 in
set_option maxRecDepth 100000 in
theorem c_X6_ofGrant {z : ag_Z} {l : Launch} {n : ag_N} {p : ag_P} {s : ag_S} {fu : Nat} {x1 : Int32} {x2 : Int32} {out : Int32 × ag_S} (t6 : vp_in 0 (n 6)) (hf : f_X6_ofGrant fu x1 x2 s = some out) : Met l yX6_ofGrant (ag_ws yX6_ofGrant cX6_ofGrant 4 ((some FieldType.int))) rm_X6_ofGrant (va_Pc [.ref (p 6 0), .int x1, .int x2] (ag_Pre z n p s)) (ag_Ri z n p out.1 out.2) 0 0 (ag_A z) := by
  refine Met.ofW (cc := cX6_ofGrant) (maxL := 4) (ret := (some FieldType.int)) (by decide) rfl ?_
  intro p0 e st m args below meth c s9 B hml hv
  obtain ⟨ha, h0, hG, hW⟩ := hv
  have hx := B.exec
  have hb := B.bytes
  have hr := B.returns
  have hts := atoms_spec (ws := ag_ws yX6_ofGrant cX6_ofGrant 4 ((some FieldType.int))) B.pre
  have hT : ∀ w ∈ ag_tbl, w.before args st = true := fun w h => hts w (List.mem_cons_of_mem _ h)
  have hown : st.vm.findClass RX6 = some m.cls := findClass_of_methodNamed B.named
  have hlocks := B.notSynchronized
  have hS : va_S (ag_A z) st.heap st.heap [] := va_S.rf
  obtain ⟨ls, hls, hl⟩ : ∃ ls, entryFrame m args 4 = F0 m 0 ls [] ∧ lv_has ls 4 [(0, .ref (p 6 0)), (1, .int x1), (2, .int x2)] := by rw [ha]; exact ag_entry m [.ref (p 6 0), .int x1, .int x2] (Nat.le_of_ble_eq_true rfl)
  rw [hls]
  have k30 : ∀ (x1 : Int32) (x2 : Int32) (y1 : Int32) (s : ag_S) (H : Heap) (locs : List Loc) (ls : Array Slot), ag_W z n p s H → va_S (ag_A z) st.heap H locs → lv_has ls 4 [(0, .ref (p 6 0)), (1, .int x1), (2, .int x2)] → f_X6_ofGrant_b30 fu x1 x2 y1 s = some out → W p0 l e (headSpec (ag_ws yX6_ofGrant cX6_ofGrant 4 ((some FieldType.int))) rm_X6_ofGrant).room st m args below meth c H locs 0 0 (MQ below (ag_Ri z n p out.1 out.2) args st 0 0 (ag_A z)) (F0 m 30 ls [.int y1, .ref (p 6 0)]) := by
    intro x1 x2 y1 s H locs ls hW hS hl hf
    unfold f_X6_ofGrant_b30 at hf
    obtain ⟨r30, hg30, hf⟩ := ag_bs hf
    refine ag_cVi hx hb hml hT hown hG h0 hS hW (c_X6_goesWell t6 hg30) ⟨rfl, rfl⟩ q896 q898 qs27 q11 q899 dd_yX6_goesWell ⟨Nat.le_of_ble_eq_true rfl, Nat.le_of_ble_eq_true rfl⟩ t6 rfl rfl hl.1 rfl (Nat.le_of_ble_eq_true rfl) ⟨Nat.le_of_ble_eq_true rfl, Nat.le_of_ble_eq_true rfl⟩ dX6_ofGrant_30 (fun H locs hW hS => ?_)
    refine lv_if_ne (tgt := 38) hx hb dX6_ofGrant_33 (by decide) (fun c33 => ?_) (fun c33 => ?_)
    · have hf := ag_f c33 hf
      refine lv_iload_n hx hb dX6_ofGrant_38 rfl (lv_at hl 2 rfl) ?_
      by_cases c39_0 : x2 = 0
      · have hf := ag_t c39_0 hf
        refine lv_tableIn (off := 41) (tgt := 80) hx hb dX6_ofGrant_39 (by rw [c39_0]; decide) (by rw [c39_0]; decide) (by rw [c39_0]; rfl) (by decide) ?_
        refine lv_aload_n hx hb dX6_ofGrant_80 rfl (lv_at hl 0 rfl) ?_
        refine g6_27 hx hb hT hown hG hW t6 q815 dX6_ofGrant_81 ?_
        have t57 := ag_fix hW (k := 6) (f := 27) (t := 57) t6 rfl rfl
        refine lv_iload_n hx hb dX6_ofGrant_84 rfl (lv_at hl 1 rfl) ?_
        obtain ⟨a85, hf⟩ := ag_n hf
        refine ag_iald hx hb hG hW t57 rfl rfl a85 dX6_ofGrant_85 ?_
        exact ag_iret hx hb hr rfl hlocks hS (congrArg Prod.fst (Option.some.inj hf)) (congrArg Prod.snd (Option.some.inj hf) ▸ hW) dX6_ofGrant_86
      have hf := ag_f c39_0 hf
      by_cases c39_1 : x2 = 1
      · have hf := ag_t c39_1 hf
        refine lv_tableIn (off := 48) (tgt := 87) hx hb dX6_ofGrant_39 (by rw [c39_1]; decide) (by rw [c39_1]; decide) (by rw [c39_1]; rfl) (by decide) ?_
        refine lv_aload_n hx hb dX6_ofGrant_87 rfl (lv_at hl 0 rfl) ?_
        refine g6_23 hx hb hT hown hG hW t6 q811 dX6_ofGrant_88 ?_
        have t53 := ag_fix hW (k := 6) (f := 23) (t := 53) t6 rfl rfl
        refine lv_iload_n hx hb dX6_ofGrant_91 rfl (lv_at hl 1 rfl) ?_
        obtain ⟨a92, hf⟩ := ag_n hf
        refine ag_iald hx hb hG hW t53 rfl rfl a92 dX6_ofGrant_92 ?_
        exact ag_iret hx hb hr rfl hlocks hS (congrArg Prod.fst (Option.some.inj hf)) (congrArg Prod.snd (Option.some.inj hf) ▸ hW) dX6_ofGrant_93
      have hf := ag_f c39_1 hf
      by_cases c39_2 : x2 = 2
      · have hf := ag_t c39_2 hf
        refine lv_tableIn (off := 55) (tgt := 94) hx hb dX6_ofGrant_39 (by rw [c39_2]; decide) (by rw [c39_2]; decide) (by rw [c39_2]; rfl) (by decide) ?_
        refine lv_aload_n hx hb dX6_ofGrant_94 rfl (lv_at hl 0 rfl) ?_
        refine g6_24 hx hb hT hown hG hW t6 q812 dX6_ofGrant_95 ?_
        have t54 := ag_fix hW (k := 6) (f := 24) (t := 54) t6 rfl rfl
        refine lv_iload_n hx hb dX6_ofGrant_98 rfl (lv_at hl 1 rfl) ?_
        obtain ⟨a99, hf⟩ := ag_n hf
        refine ag_iald hx hb hG hW t54 rfl rfl a99 dX6_ofGrant_99 ?_
        exact ag_iret hx hb hr rfl hlocks hS (congrArg Prod.fst (Option.some.inj hf)) (congrArg Prod.snd (Option.some.inj hf) ▸ hW) dX6_ofGrant_100
      have hf := ag_f c39_2 hf
      by_cases c39_3 : x2 = 3
      · have hf := ag_t c39_3 hf
        refine lv_tableIn (off := 62) (tgt := 101) hx hb dX6_ofGrant_39 (by rw [c39_3]; decide) (by rw [c39_3]; decide) (by rw [c39_3]; rfl) (by decide) ?_
        refine lv_aload_n hx hb dX6_ofGrant_101 rfl (lv_at hl 0 rfl) ?_
        refine g6_21 hx hb hT hown hG hW t6 q809 dX6_ofGrant_102 ?_
        have t51 := ag_fix hW (k := 6) (f := 21) (t := 51) t6 rfl rfl
        refine lv_iload_n hx hb dX6_ofGrant_105 rfl (lv_at hl 1 rfl) ?_
        obtain ⟨a106, hf⟩ := ag_n hf
        refine ag_iald hx hb hG hW t51 rfl rfl a106 dX6_ofGrant_106 ?_
        exact ag_iret hx hb hr rfl hlocks hS (congrArg Prod.fst (Option.some.inj hf)) (congrArg Prod.snd (Option.some.inj hf) ▸ hW) dX6_ofGrant_107
      have hf := ag_f c39_3 hf
      by_cases c39_4 : x2 = 4
      · have hf := ag_t c39_4 hf
        refine lv_tableIn (off := 69) (tgt := 108) hx hb dX6_ofGrant_39 (by rw [c39_4]; decide) (by rw [c39_4]; decide) (by rw [c39_4]; rfl) (by decide) ?_
        refine lv_aload_n hx hb dX6_ofGrant_108 rfl (lv_at hl 0 rfl) ?_
        refine g6_22 hx hb hT hown hG hW t6 q810 dX6_ofGrant_109 ?_
        have t52 := ag_fix hW (k := 6) (f := 22) (t := 52) t6 rfl rfl
        refine lv_iload_n hx hb dX6_ofGrant_112 rfl (lv_at hl 1 rfl) ?_
        obtain ⟨a113, hf⟩ := ag_n hf
        refine ag_iald hx hb hG hW t52 rfl rfl a113 dX6_ofGrant_113 ?_
        exact ag_iret hx hb hr rfl hlocks hS (congrArg Prod.fst (Option.some.inj hf)) (congrArg Prod.snd (Option.some.inj hf) ▸ hW) dX6_ofGrant_114
      have hf := ag_f c39_4 hf
      by_cases c39_5 : x2 = 5
      · have hf := ag_t c39_5 hf
        refine lv_tableIn (off := 76) (tgt := 115) hx hb dX6_ofGrant_39 (by rw [c39_5]; decide) (by rw [c39_5]; decide) (by rw [c39_5]; rfl) (by decide) ?_
        refine lv_aload_n hx hb dX6_ofGrant_115 rfl (lv_at hl 0 rfl) ?_
        refine g6_25 hx hb hT hown hG hW t6 q813 dX6_ofGrant_116 ?_
        have t55 := ag_fix hW (k := 6) (f := 25) (t := 55) t6 rfl rfl
        refine lv_iload_n hx hb dX6_ofGrant_119 rfl (lv_at hl 1 rfl) ?_
        obtain ⟨a120, hf⟩ := ag_n hf
        refine ag_iald hx hb hG hW t55 rfl rfl a120 dX6_ofGrant_120 ?_
        exact ag_iret hx hb hr rfl hlocks hS (congrArg Prod.fst (Option.some.inj hf)) (congrArg Prod.snd (Option.some.inj hf) ▸ hW) dX6_ofGrant_121
      have hf := ag_f c39_5 hf
      by_cases c39_6 : x2 = 6
      · have hf := ag_t c39_6 hf
        refine lv_tableIn (off := 83) (tgt := 122) hx hb dX6_ofGrant_39 (by rw [c39_6]; decide) (by rw [c39_6]; decide) (by rw [c39_6]; rfl) (by decide) ?_
        refine lv_aload_n hx hb dX6_ofGrant_122 rfl (lv_at hl 0 rfl) ?_
        refine g6_26 hx hb hT hown hG hW t6 q814 dX6_ofGrant_123 ?_
        have t56 := ag_fix hW (k := 6) (f := 26) (t := 56) t6 rfl rfl
        refine lv_iload_n hx hb dX6_ofGrant_126 rfl (lv_at hl 1 rfl) ?_
        obtain ⟨a127, hf⟩ := ag_n hf
        refine ag_iald hx hb hG hW t56 rfl rfl a127 dX6_ofGrant_127 ?_
        exact ag_iret hx hb hr rfl hlocks hS (congrArg Prod.fst (Option.some.inj hf)) (congrArg Prod.snd (Option.some.inj hf) ▸ hW) dX6_ofGrant_128
      have hf := ag_f c39_6 hf
      refine lv_tableOut (tgt := 129) hx hb dX6_ofGrant_39 (ag_tab 6 (fun j hj => by rcases (show j = 0 ∨ j = 1 ∨ j = 2 ∨ j = 3 ∨ j = 4 ∨ j = 5 ∨ j = 6 by omega) with rfl | rfl | rfl | rfl | rfl | rfl | rfl <;> assumption)) (by decide) ?_
      refine lv_aload_n hx hb dX6_ofGrant_129 rfl (lv_at hl 0 rfl) ?_
      refine g6_28 hx hb hT hown hG hW t6 q816 dX6_ofGrant_130 ?_
      have t58 := ag_fix hW (k := 6) (f := 28) (t := 58) t6 rfl rfl
      refine lv_iload_n hx hb dX6_ofGrant_133 rfl (lv_at hl 1 rfl) ?_
      obtain ⟨a134, hf⟩ := ag_n hf
      refine ag_zald hx hb hG hW t58 rfl rfl a134 dX6_ofGrant_134 ?_
      refine lv_if_eq (tgt := 142) hx hb dX6_ofGrant_135 (by decide) (fun c135 => ?_) (fun c135 => ?_)
      · have hf := ag_t c135 hf
        refine lv_iconst (v := 0) hx hb dX6_ofGrant_142 (by decide) ?_
        exact ag_iret hx hb hr rfl hlocks hS (congrArg Prod.fst (Option.some.inj hf)) (congrArg Prod.snd (Option.some.inj hf) ▸ hW) dX6_ofGrant_143
      · have hf := ag_f c135 hf
        refine lv_iconst (v := 1) hx hb dX6_ofGrant_138 (by decide) ?_
        refine lv_goto (tgt := 143) hx hb dX6_ofGrant_139 (by decide) ?_
        exact ag_iret hx hb hr rfl hlocks hS (congrArg Prod.fst (Option.some.inj hf)) (congrArg Prod.snd (Option.some.inj hf) ▸ hW) dX6_ofGrant_143
    · have hf := ag_t c33 hf
      refine lv_iconst (v := 0) hx hb dX6_ofGrant_36 (by decide) ?_
      exact ag_iret hx hb hr rfl hlocks hS (congrArg Prod.fst (Option.some.inj hf)) (congrArg Prod.snd (Option.some.inj hf) ▸ hW) dX6_ofGrant_37
  unfold f_X6_ofGrant at hf
  refine lv_aload_n hx hb dX6_ofGrant_0 rfl (lv_at hl 0 rfl) ?_
  refine lv_iload_n hx hb dX6_ofGrant_1 rfl (lv_at hl 1 rfl) ?_
  obtain ⟨r2, hg2, hf⟩ := ag_bs hf
  refine ag_cVi hx hb hml hT hown hG h0 hS hW (c_X6_isGrant t6 hg2) ⟨rfl, rfl⟩ q985 q987 qs40 q11 q988 dd_yX6_isGrant ⟨Nat.le_of_ble_eq_true rfl, Nat.le_of_ble_eq_true rfl⟩ t6 rfl rfl hl.1 rfl (Nat.le_of_ble_eq_true rfl) ⟨Nat.le_of_ble_eq_true rfl, Nat.le_of_ble_eq_true rfl⟩ dX6_ofGrant_2 (fun H locs hW hS => ?_)
  refine lv_istore_n (lv' := [(3, .int r2), (0, .ref (p 6 0)), (1, .int x1), (2, .int x2)]) hx hb dX6_ofGrant_5 rfl hl (by decide) rfl (fun ls hl => ?_)
  refine lv_aload_n hx hb dX6_ofGrant_6 rfl (lv_at hl 1 rfl) ?_
  refine lv_iload_n hx hb dX6_ofGrant_7 rfl (lv_at hl 0 rfl) ?_
  refine lv_if_ne (tgt := 15) hx hb dX6_ofGrant_8 (by decide) (fun c8 => ?_) (fun c8 => ?_)
  · have hf := ag_f c8 hf
    refine lv_iload_n hx hb dX6_ofGrant_15 rfl (lv_at hl 3 rfl) ?_
    refine lv_iconst (v := 0) hx hb dX6_ofGrant_16 (by decide) ?_
    refine lv_bipush (v := 7) hx hb dX6_ofGrant_17 (by decide) ?_
    obtain ⟨r19, hg19, hf⟩ := ag_bs hf
    refine ag_cSi hx hb hml hT hown hG h0 hS hW (c_X6_in hg19) ⟨rfl, rfl⟩ q892 q893 q11 q894 dd_yX6_in ⟨Nat.le_of_ble_eq_true rfl, Nat.le_of_ble_eq_true rfl⟩ hl.1 rfl (Nat.le_of_ble_eq_true rfl) ⟨Nat.le_of_ble_eq_true rfl, Nat.le_of_ble_eq_true rfl⟩ dX6_ofGrant_19 (fun H locs hW hS => ?_)
    refine lv_if_eq (tgt := 29) hx hb dX6_ofGrant_22 (by decide) (fun c22 => ?_) (fun c22 => ?_)
    · have hf := ag_t c22 hf
      refine lv_iconst (v := 2) hx hb dX6_ofGrant_29 (by decide) ?_
      exact k30 _ _ _ _ _ _ _ hW hS (lv_sub hl [1, 2, 3] rfl) hf
    · have hf := ag_f c22 hf
      refine lv_iconst (v := 0) hx hb dX6_ofGrant_25 (by decide) ?_
      refine lv_goto (tgt := 30) hx hb dX6_ofGrant_26 (by decide) ?_
      exact k30 _ _ _ _ _ _ _ hW hS (lv_sub hl [1, 2, 3] rfl) hf
  · have hf := ag_t c8 hf
    refine lv_iconst (v := 1) hx hb dX6_ofGrant_11 (by decide) ?_
    refine lv_goto (tgt := 30) hx hb dX6_ofGrant_12 (by decide) ?_
    exact k30 _ _ _ _ _ _ _ hW hS (lv_sub hl [1, 2, 3] rfl) hf
def f_X6_owes (fu : Nat) (x1 : Int32) (s : ag_S) : Option (Int32 × ag_S) := ag_bd (f_X6_in fu x1 0 7 s) fun r5 => if r5 = 0 then (ag_bd (f_X6_goesWell fu 1 s) fun r16 => if r16.1 = 0 then (some (0, r16.2)) else (if x1 < 0 ∨ 8 ≤ x1.toNatClampNeg then none else some (r16.2 36 0 x1, r16.2))) else (ag_bd (f_X6_goesWell fu 0 s) fun r16 => if r16.1 = 0 then (some (0, r16.2)) else (if x1 < 0 ∨ 8 ≤ x1.toNatClampNeg then none else some (r16.2 36 0 x1, r16.2)))
abbrev rm_X6_owes : Room := { frames := 1, cells := 0, slots := 0, locals := 22 }
theorem dd_yX6_owes : yX6_owes.cls = RX6 ∧ yX6_owes.cls ≠ "java/lang/invoke/MethodHandle" ∧ yX6_owes.cls ≠ "java/lang/invoke/VarHandle" ∧ (parseMethodDescriptor yX6_owes.desc).map (fun d => d.parameters.length) = some 1 := by decide +kernel
set_option maxHeartbeats 4000000 in
set_option maxRecDepth 100000 in
theorem c_X6_owes {z : ag_Z} {l : Launch} {n : ag_N} {p : ag_P} {s : ag_S} {fu : Nat} {x1 : Int32} {out : Int32 × ag_S} (t6 : vp_in 0 (n 6)) (hf : f_X6_owes fu x1 s = some out) : Met l yX6_owes (ag_ws yX6_owes cX6_owes 2 ((some FieldType.int))) rm_X6_owes (va_Pc [.ref (p 6 0), .int x1] (ag_Pre z n p s)) (ag_Ri z n p out.1 out.2) 0 0 (ag_A z) := by
  refine Met.ofW (cc := cX6_owes) (maxL := 2) (ret := (some FieldType.int)) (by decide) rfl ?_
  intro p0 e st m args below meth c s9 B hml hv
  obtain ⟨ha, h0, hG, hW⟩ := hv
  have hx := B.exec
  have hb := B.bytes
  have hr := B.returns
  have hts := atoms_spec (ws := ag_ws yX6_owes cX6_owes 2 ((some FieldType.int))) B.pre
  have hT : ∀ w ∈ ag_tbl, w.before args st = true := fun w h => hts w (List.mem_cons_of_mem _ h)
  have hown : st.vm.findClass RX6 = some m.cls := findClass_of_methodNamed B.named
  have hlocks := B.notSynchronized
  have hS : va_S (ag_A z) st.heap st.heap [] := va_S.rf
  obtain ⟨ls, hls, hl⟩ : ∃ ls, entryFrame m args 2 = F0 m 0 ls [] ∧ lv_has ls 2 [(0, .ref (p 6 0)), (1, .int x1)] := by rw [ha]; exact ag_entry m [.ref (p 6 0), .int x1] (Nat.le_of_ble_eq_true rfl)
  rw [hls]
  unfold f_X6_owes at hf
  refine lv_aload_n hx hb dX6_owes_0 rfl (lv_at hl 0 rfl) ?_
  refine lv_iload_n hx hb dX6_owes_1 rfl (lv_at hl 1 rfl) ?_
  refine lv_iconst (v := 0) hx hb dX6_owes_2 (by decide) ?_
  refine lv_bipush (v := 7) hx hb dX6_owes_3 (by decide) ?_
  obtain ⟨r5, hg5, hf⟩ := ag_bs hf
  refine ag_cSi hx hb hml hT hown hG h0 hS hW (c_X6_in hg5) ⟨rfl, rfl⟩ q892 q893 q11 q894 dd_yX6_in ⟨Nat.le_of_ble_eq_true rfl, Nat.le_of_ble_eq_true rfl⟩ hl.1 rfl (Nat.le_of_ble_eq_true rfl) ⟨Nat.le_of_ble_eq_true rfl, Nat.le_of_ble_eq_true rfl⟩ dX6_owes_5 (fun H locs hW hS => ?_)
  refine lv_if_eq (tgt := 15) hx hb dX6_owes_8 (by decide) (fun c8 => ?_) (fun c8 => ?_)
  · have hf := ag_t c8 hf
    refine lv_iconst (v := 1) hx hb dX6_owes_15 (by decide) ?_
    obtain ⟨r16, hg16, hf⟩ := ag_bs hf
    refine ag_cVi hx hb hml hT hown hG h0 hS hW (c_X6_goesWell t6 hg16) ⟨rfl, rfl⟩ q896 q898 qs27 q11 q899 dd_yX6_goesWell ⟨Nat.le_of_ble_eq_true rfl, Nat.le_of_ble_eq_true rfl⟩ t6 rfl rfl hl.1 rfl (Nat.le_of_ble_eq_true rfl) ⟨Nat.le_of_ble_eq_true rfl, Nat.le_of_ble_eq_true rfl⟩ dX6_owes_16 (fun H locs hW hS => ?_)
    refine lv_if_eq (tgt := 31) hx hb dX6_owes_19 (by decide) (fun c19 => ?_) (fun c19 => ?_)
    · have hf := ag_t c19 hf
      refine lv_iconst (v := 0) hx hb dX6_owes_31 (by decide) ?_
      exact ag_iret hx hb hr rfl hlocks hS (congrArg Prod.fst (Option.some.inj hf)) (congrArg Prod.snd (Option.some.inj hf) ▸ hW) dX6_owes_32
    · have hf := ag_f c19 hf
      refine lv_aload_n hx hb dX6_owes_22 rfl (lv_at hl 0 rfl) ?_
      refine g6_6 hx hb hT hown hG hW t6 q794 dX6_owes_23 ?_
      have t36 := ag_fix hW (k := 6) (f := 6) (t := 36) t6 rfl rfl
      refine lv_iload_n hx hb dX6_owes_26 rfl (lv_at hl 1 rfl) ?_
      obtain ⟨a27, hf⟩ := ag_n hf
      refine ag_iald hx hb hG hW t36 rfl rfl a27 dX6_owes_27 ?_
      refine lv_goto (tgt := 32) hx hb dX6_owes_28 (by decide) ?_
      exact ag_iret hx hb hr rfl hlocks hS (congrArg Prod.fst (Option.some.inj hf)) (congrArg Prod.snd (Option.some.inj hf) ▸ hW) dX6_owes_32
  · have hf := ag_f c8 hf
    refine lv_iconst (v := 0) hx hb dX6_owes_11 (by decide) ?_
    refine lv_goto (tgt := 16) hx hb dX6_owes_12 (by decide) ?_
    obtain ⟨r16, hg16, hf⟩ := ag_bs hf
    refine ag_cVi hx hb hml hT hown hG h0 hS hW (c_X6_goesWell t6 hg16) ⟨rfl, rfl⟩ q896 q898 qs27 q11 q899 dd_yX6_goesWell ⟨Nat.le_of_ble_eq_true rfl, Nat.le_of_ble_eq_true rfl⟩ t6 rfl rfl hl.1 rfl (Nat.le_of_ble_eq_true rfl) ⟨Nat.le_of_ble_eq_true rfl, Nat.le_of_ble_eq_true rfl⟩ dX6_owes_16 (fun H locs hW hS => ?_)
    refine lv_if_eq (tgt := 31) hx hb dX6_owes_19 (by decide) (fun c19 => ?_) (fun c19 => ?_)
    · have hf := ag_t c19 hf
      refine lv_iconst (v := 0) hx hb dX6_owes_31 (by decide) ?_
      exact ag_iret hx hb hr rfl hlocks hS (congrArg Prod.fst (Option.some.inj hf)) (congrArg Prod.snd (Option.some.inj hf) ▸ hW) dX6_owes_32
    · have hf := ag_f c19 hf
      refine lv_aload_n hx hb dX6_owes_22 rfl (lv_at hl 0 rfl) ?_
      refine g6_6 hx hb hT hown hG hW t6 q794 dX6_owes_23 ?_
      have t36 := ag_fix hW (k := 6) (f := 6) (t := 36) t6 rfl rfl
      refine lv_iload_n hx hb dX6_owes_26 rfl (lv_at hl 1 rfl) ?_
      obtain ⟨a27, hf⟩ := ag_n hf
      refine ag_iald hx hb hG hW t36 rfl rfl a27 dX6_owes_27 ?_
      refine lv_goto (tgt := 32) hx hb dX6_owes_28 (by decide) ?_
      exact ag_iret hx hb hr rfl hlocks hS (congrArg Prod.fst (Option.some.inj hf)) (congrArg Prod.snd (Option.some.inj hf) ▸ hW) dX6_owes_32
def f_X6_reserve (fu : Nat) (s : ag_S) : Option (Int32 × ag_S) := some ((ag_up s 6 0 0 0) 6 2 0, (ag_up s 6 0 0 0))
abbrev rm_X6_reserve : Room := { frames := 0, cells := 0, slots := 0, locals := 0 }
theorem dd_yX6_reserve : yX6_reserve.cls = RX6 ∧ yX6_reserve.cls ≠ "java/lang/invoke/MethodHandle" ∧ yX6_reserve.cls ≠ "java/lang/invoke/VarHandle" ∧ (parseMethodDescriptor yX6_reserve.desc).map (fun d => d.parameters.length) = some 0 := by decide +kernel
set_option maxHeartbeats 4000000 in
set_option maxRecDepth 100000 in
theorem c_X6_reserve {z : ag_Z} {l : Launch} {n : ag_N} {p : ag_P} {s : ag_S} {fu : Nat} {out : Int32 × ag_S} (t6 : vp_in 0 (n 6)) (hf : f_X6_reserve fu  s = some out) : Met l yX6_reserve (ag_ws yX6_reserve cX6_reserve 1 ((some FieldType.int))) rm_X6_reserve (va_Pc [.ref (p 6 0)] (ag_Pre z n p s)) (ag_Ri z n p out.1 out.2) 0 0 (ag_A z) := by
  refine Met.ofW (cc := cX6_reserve) (maxL := 1) (ret := (some FieldType.int)) (by decide) rfl ?_
  intro p0 e st m args below meth c s9 B hml hv
  obtain ⟨ha, h0, hG, hW⟩ := hv
  have hx := B.exec
  have hb := B.bytes
  have hr := B.returns
  have hts := atoms_spec (ws := ag_ws yX6_reserve cX6_reserve 1 ((some FieldType.int))) B.pre
  have hT : ∀ w ∈ ag_tbl, w.before args st = true := fun w h => hts w (List.mem_cons_of_mem _ h)
  have hown : st.vm.findClass RX6 = some m.cls := findClass_of_methodNamed B.named
  have hlocks := B.notSynchronized
  have hS : va_S (ag_A z) st.heap st.heap [] := va_S.rf
  obtain ⟨ls, hls, hl⟩ : ∃ ls, entryFrame m args 1 = F0 m 0 ls [] ∧ lv_has ls 1 [(0, .ref (p 6 0))] := by rw [ha]; exact ag_entry m [.ref (p 6 0)] (Nat.le_of_ble_eq_true rfl)
  rw [hls]
  unfold f_X6_reserve at hf
  refine lv_aload_n hx hb dX6_reserve_0 rfl (lv_at hl 0 rfl) ?_
  refine lv_iconst (v := 0) hx hb dX6_reserve_1 (by decide) ?_
  refine u6_0 hx hb hT hown hG hW hS t6 q788 dX6_reserve_2 (fun H locs hW hS => ?_)
  refine lv_aload_n hx hb dX6_reserve_5 rfl (lv_at hl 0 rfl) ?_
  refine g6_2 hx hb hT hown hG hW t6 q790 dX6_reserve_6 ?_
  exact ag_iret hx hb hr rfl hlocks hS (congrArg Prod.fst (Option.some.inj hf)) (congrArg Prod.snd (Option.some.inj hf) ▸ hW) dX6_reserve_9
def f_X6_ofSource_L37 (fu : Nat) : Nat → Int32 → Int32 → Int32 → Int32 → ag_S → Option (Int32 × ag_S)
  | 0, _, _, _, _, _ => none
  | nf + 1, x1, x2, x3, x4, s => if s 6 7 0 ≤ x4 then (if x2 = 0 then (if x1 < 0 ∨ 4 ≤ x1.toNatClampNeg then none else some (s 34 0 x1, s)) else (if x2 = 1 then (if x1 < 0 ∨ 4 ≤ x1.toNatClampNeg then none else some (s 35 0 x1, s)) else (some (x3, s)))) else (if x4 < 0 ∨ 10 ≤ x4.toNatClampNeg then none else if s 38 0 x4 = x1 then (ag_bd (f_X6_stands fu x4 s) fun r61 => f_X6_ofSource_L37 fu nf x1 x2 (x3 + r61.1) (x4 + 1) r61.2) else (f_X6_ofSource_L37 fu nf x1 x2 (x3 + 0) (x4 + 1) s))
def f_X6_ofSource (fu : Nat) (x1 : Int32) (x2 : Int32) (s : ag_S) : Option (Int32 × ag_S) := ag_bd (f_X6_in fu x1 0 3 s) fun r4 => if r4 = 0 then (ag_bd (f_X6_goesWell fu 1 s) fun r24 => if r24.1 = 0 then (some (0, r24.2)) else (f_X6_ofSource_L37 fu fu x1 x2 0 0 r24.2)) else (ag_bd (f_X6_in fu x2 0 2 s) fun r13 => if r13 = 0 then (ag_bd (f_X6_goesWell fu 1 s) fun r24 => if r24.1 = 0 then (some (0, r24.2)) else (f_X6_ofSource_L37 fu fu x1 x2 0 0 r24.2)) else (ag_bd (f_X6_goesWell fu 0 s) fun r24 => if r24.1 = 0 then (some (0, r24.2)) else (f_X6_ofSource_L37 fu fu x1 x2 0 0 r24.2)))
abbrev rm_X6_ofSource : Room := { frames := 2, cells := 0, slots := 0, locals := 45 }
theorem dd_yX6_ofSource : yX6_ofSource.cls = RX6 ∧ yX6_ofSource.cls ≠ "java/lang/invoke/MethodHandle" ∧ yX6_ofSource.cls ≠ "java/lang/invoke/VarHandle" ∧ (parseMethodDescriptor yX6_ofSource.desc).map (fun d => d.parameters.length) = some 2 := by decide +kernel
set_option maxHeartbeats 4000000 in
set_option maxRecDepth 100000 in
theorem c_X6_ofSource {z : ag_Z} {l : Launch} {n : ag_N} {p : ag_P} {s : ag_S} {fu : Nat} {x1 : Int32} {x2 : Int32} {out : Int32 × ag_S} (t6 : vp_in 0 (n 6)) (hf : f_X6_ofSource fu x1 x2 s = some out) : Met l yX6_ofSource (ag_ws yX6_ofSource cX6_ofSource 5 ((some FieldType.int))) rm_X6_ofSource (va_Pc [.ref (p 6 0), .int x1, .int x2] (ag_Pre z n p s)) (ag_Ri z n p out.1 out.2) 0 0 (ag_A z) := by
  refine Met.ofW (cc := cX6_ofSource) (maxL := 5) (ret := (some FieldType.int)) (by decide) rfl ?_
  intro p0 e st m args below meth c s9 B hml hv
  obtain ⟨ha, h0, hG, hW⟩ := hv
  have hx := B.exec
  have hb := B.bytes
  have hr := B.returns
  have hts := atoms_spec (ws := ag_ws yX6_ofSource cX6_ofSource 5 ((some FieldType.int))) B.pre
  have hT : ∀ w ∈ ag_tbl, w.before args st = true := fun w h => hts w (List.mem_cons_of_mem _ h)
  have hown : st.vm.findClass RX6 = some m.cls := findClass_of_methodNamed B.named
  have hlocks := B.notSynchronized
  have hS : va_S (ag_A z) st.heap st.heap [] := va_S.rf
  obtain ⟨ls, hls, hl⟩ : ∃ ls, entryFrame m args 5 = F0 m 0 ls [] ∧ lv_has ls 5 [(0, .ref (p 6 0)), (1, .int x1), (2, .int x2)] := by rw [ha]; exact ag_entry m [.ref (p 6 0), .int x1, .int x2] (Nat.le_of_ble_eq_true rfl)
  rw [hls]
  have k37 : ∀ (nf : Nat) (x1 : Int32) (x2 : Int32) (x3 : Int32) (x4 : Int32) (s : ag_S) (H : Heap) (locs : List Loc) (ls : Array Slot), ag_W z n p s H → va_S (ag_A z) st.heap H locs → lv_has ls 5 [(0, .ref (p 6 0)), (1, .int x1), (2, .int x2), (3, .int x3), (4, .int x4)] → f_X6_ofSource_L37 fu nf x1 x2 x3 x4 s = some out → W p0 l e (headSpec (ag_ws yX6_ofSource cX6_ofSource 5 ((some FieldType.int))) rm_X6_ofSource).room st m args below meth c H locs 0 0 (MQ below (ag_Ri z n p out.1 out.2) args st 0 0 (ag_A z)) (F0 m 37 ls []) := by
    intro nf
    induction nf with
    | zero => intro x1 x2 x3 x4 s H locs ls hW hS hl hf; rw [f_X6_ofSource_L37] at hf; cases hf
    | succ nf ih =>
      intro x1 x2 x3 x4 s H locs ls hW hS hl hf
      rw [f_X6_ofSource_L37] at hf
      refine lv_iload hx hb dX6_ofSource_37 (lv_at hl 4 rfl) ?_
      refine lv_aload_n hx hb dX6_ofSource_39 rfl (lv_at hl 0 rfl) ?_
      refine g6_7 hx hb hT hown hG hW t6 q795 dX6_ofSource_40 ?_
      refine lv_icmp_ge (tgt := 76) hx hb dX6_ofSource_43 (by decide) (fun c43 => ?_) (fun c43 => ?_)
      · have hf := ag_t c43 hf
        refine lv_iload_n hx hb dX6_ofSource_76 rfl (lv_at hl 2 rfl) ?_
        refine lv_if_ne (tgt := 89) hx hb dX6_ofSource_77 (by decide) (fun c77 => ?_) (fun c77 => ?_)
        · have hf := ag_f c77 hf
          refine lv_iload_n hx hb dX6_ofSource_89 rfl (lv_at hl 2 rfl) ?_
          refine lv_iconst (v := 1) hx hb dX6_ofSource_90 (by decide) ?_
          refine lv_icmp_ne (tgt := 103) hx hb dX6_ofSource_91 (by decide) (fun c91 => ?_) (fun c91 => ?_)
          · have hf := ag_f c91 hf
            refine lv_iload_n hx hb dX6_ofSource_103 rfl (lv_at hl 3 rfl) ?_
            exact ag_iret hx hb hr rfl hlocks hS (congrArg Prod.fst (Option.some.inj hf)) (congrArg Prod.snd (Option.some.inj hf) ▸ hW) dX6_ofSource_104
          · have hf := ag_t c91 hf
            refine lv_aload_n hx hb dX6_ofSource_94 rfl (lv_at hl 0 rfl) ?_
            refine g6_5 hx hb hT hown hG hW t6 q793 dX6_ofSource_95 ?_
            have t35 := ag_fix hW (k := 6) (f := 5) (t := 35) t6 rfl rfl
            refine lv_iload_n hx hb dX6_ofSource_98 rfl (lv_at hl 1 rfl) ?_
            obtain ⟨a99, hf⟩ := ag_n hf
            refine ag_iald hx hb hG hW t35 rfl rfl a99 dX6_ofSource_99 ?_
            refine lv_goto (tgt := 104) hx hb dX6_ofSource_100 (by decide) ?_
            exact ag_iret hx hb hr rfl hlocks hS (congrArg Prod.fst (Option.some.inj hf)) (congrArg Prod.snd (Option.some.inj hf) ▸ hW) dX6_ofSource_104
        · have hf := ag_t c77 hf
          refine lv_aload_n hx hb dX6_ofSource_80 rfl (lv_at hl 0 rfl) ?_
          refine g6_4 hx hb hT hown hG hW t6 q792 dX6_ofSource_81 ?_
          have t34 := ag_fix hW (k := 6) (f := 4) (t := 34) t6 rfl rfl
          refine lv_iload_n hx hb dX6_ofSource_84 rfl (lv_at hl 1 rfl) ?_
          obtain ⟨a85, hf⟩ := ag_n hf
          refine ag_iald hx hb hG hW t34 rfl rfl a85 dX6_ofSource_85 ?_
          refine lv_goto (tgt := 104) hx hb dX6_ofSource_86 (by decide) ?_
          exact ag_iret hx hb hr rfl hlocks hS (congrArg Prod.fst (Option.some.inj hf)) (congrArg Prod.snd (Option.some.inj hf) ▸ hW) dX6_ofSource_104
      · have hf := ag_f c43 hf
        refine lv_iload_n hx hb dX6_ofSource_46 rfl (lv_at hl 3 rfl) ?_
        refine lv_aload_n hx hb dX6_ofSource_47 rfl (lv_at hl 0 rfl) ?_
        refine g6_8 hx hb hT hown hG hW t6 q796 dX6_ofSource_48 ?_
        have t38 := ag_fix hW (k := 6) (f := 8) (t := 38) t6 rfl rfl
        refine lv_iload hx hb dX6_ofSource_51 (lv_at hl 4 rfl) ?_
        obtain ⟨a53, hf⟩ := ag_n hf
        refine ag_iald hx hb hG hW t38 rfl rfl a53 dX6_ofSource_53 ?_
        refine lv_iload_n hx hb dX6_ofSource_54 rfl (lv_at hl 1 rfl) ?_
        refine lv_icmp_ne (tgt := 67) hx hb dX6_ofSource_55 (by decide) (fun c55 => ?_) (fun c55 => ?_)
        · have hf := ag_f c55 hf
          refine lv_iconst (v := 0) hx hb dX6_ofSource_67 (by decide) ?_
          refine lv_iadd hx hb dX6_ofSource_68 ?_
          refine lv_istore_n (lv' := [(3, .int (x3 + 0)), (0, .ref (p 6 0)), (1, .int x1), (2, .int x2), (4, .int x4)]) hx hb dX6_ofSource_69 rfl hl (by decide) rfl (fun ls hl => ?_)
          refine lv_iinc (v := x4 + 1) (lv' := [(4, .int (x4 + 1)), (3, .int (x3 + 0)), (0, .ref (p 6 0)), (1, .int x1), (2, .int x2)]) hx hb dX6_ofSource_70 hl (k := 4) rfl rfl (by decide) rfl (fun ls hl => ?_)
          refine lv_goto (tgt := 37) hx hb dX6_ofSource_73 (by decide) ?_
          exact ih _ _ _ _ _ _ _ _ hW hS (lv_sub hl [2, 3, 4, 1, 0] rfl) hf
        · have hf := ag_t c55 hf
          refine lv_aload_n hx hb dX6_ofSource_58 rfl (lv_at hl 0 rfl) ?_
          refine lv_iload hx hb dX6_ofSource_59 (lv_at hl 4 rfl) ?_
          obtain ⟨r61, hg61, hf⟩ := ag_bs hf
          refine ag_cVi hx hb hml hT hown hG h0 hS hW (c_X6_stands t6 hg61) ⟨rfl, rfl⟩ q953 q955 qs35 q11 q956 dd_yX6_stands ⟨Nat.le_of_ble_eq_true rfl, Nat.le_of_ble_eq_true rfl⟩ t6 rfl rfl hl.1 rfl (Nat.le_of_ble_eq_true rfl) ⟨Nat.le_of_ble_eq_true rfl, Nat.le_of_ble_eq_true rfl⟩ dX6_ofSource_61 (fun H locs hW hS => ?_)
          refine lv_goto (tgt := 68) hx hb dX6_ofSource_64 (by decide) ?_
          refine lv_iadd hx hb dX6_ofSource_68 ?_
          refine lv_istore_n (lv' := [(3, .int (x3 + r61.1)), (0, .ref (p 6 0)), (1, .int x1), (2, .int x2), (4, .int x4)]) hx hb dX6_ofSource_69 rfl hl (by decide) rfl (fun ls hl => ?_)
          refine lv_iinc (v := x4 + 1) (lv' := [(4, .int (x4 + 1)), (3, .int (x3 + r61.1)), (0, .ref (p 6 0)), (1, .int x1), (2, .int x2)]) hx hb dX6_ofSource_70 hl (k := 4) rfl rfl (by decide) rfl (fun ls hl => ?_)
          refine lv_goto (tgt := 37) hx hb dX6_ofSource_73 (by decide) ?_
          exact ih _ _ _ _ _ _ _ _ hW hS (lv_sub hl [2, 3, 4, 1, 0] rfl) hf
  unfold f_X6_ofSource at hf
  refine lv_aload_n hx hb dX6_ofSource_0 rfl (lv_at hl 0 rfl) ?_
  refine lv_iload_n hx hb dX6_ofSource_1 rfl (lv_at hl 1 rfl) ?_
  refine lv_iconst (v := 0) hx hb dX6_ofSource_2 (by decide) ?_
  refine lv_iconst (v := 3) hx hb dX6_ofSource_3 (by decide) ?_
  obtain ⟨r4, hg4, hf⟩ := ag_bs hf
  refine ag_cSi hx hb hml hT hown hG h0 hS hW (c_X6_in hg4) ⟨rfl, rfl⟩ q892 q893 q11 q894 dd_yX6_in ⟨Nat.le_of_ble_eq_true rfl, Nat.le_of_ble_eq_true rfl⟩ hl.1 rfl (Nat.le_of_ble_eq_true rfl) ⟨Nat.le_of_ble_eq_true rfl, Nat.le_of_ble_eq_true rfl⟩ dX6_ofSource_4 (fun H locs hW hS => ?_)
  refine lv_if_eq (tgt := 23) hx hb dX6_ofSource_7 (by decide) (fun c7 => ?_) (fun c7 => ?_)
  · have hf := ag_t c7 hf
    refine lv_iconst (v := 1) hx hb dX6_ofSource_23 (by decide) ?_
    obtain ⟨r24, hg24, hf⟩ := ag_bs hf
    refine ag_cVi hx hb hml hT hown hG h0 hS hW (c_X6_goesWell t6 hg24) ⟨rfl, rfl⟩ q896 q898 qs27 q11 q899 dd_yX6_goesWell ⟨Nat.le_of_ble_eq_true rfl, Nat.le_of_ble_eq_true rfl⟩ t6 rfl rfl hl.1 rfl (Nat.le_of_ble_eq_true rfl) ⟨Nat.le_of_ble_eq_true rfl, Nat.le_of_ble_eq_true rfl⟩ dX6_ofSource_24 (fun H locs hW hS => ?_)
    refine lv_if_ne (tgt := 32) hx hb dX6_ofSource_27 (by decide) (fun c27 => ?_) (fun c27 => ?_)
    · have hf := ag_f c27 hf
      refine lv_iconst (v := 0) hx hb dX6_ofSource_32 (by decide) ?_
      refine lv_istore_n (lv' := [(3, .int 0), (0, .ref (p 6 0)), (1, .int x1), (2, .int x2)]) hx hb dX6_ofSource_33 rfl hl (by decide) rfl (fun ls hl => ?_)
      refine lv_iconst (v := 0) hx hb dX6_ofSource_34 (by decide) ?_
      refine lv_istore (lv' := [(4, .int 0), (3, .int 0), (0, .ref (p 6 0)), (1, .int x1), (2, .int x2)]) hx hb dX6_ofSource_35 hl (by decide) rfl (fun ls hl => ?_)
      exact k37 fu _ _ _ _ _ _ _ _ hW hS (lv_sub hl [2, 3, 4, 1, 0] rfl) hf
    · have hf := ag_t c27 hf
      refine lv_iconst (v := 0) hx hb dX6_ofSource_30 (by decide) ?_
      exact ag_iret hx hb hr rfl hlocks hS (congrArg Prod.fst (Option.some.inj hf)) (congrArg Prod.snd (Option.some.inj hf) ▸ hW) dX6_ofSource_31
  · have hf := ag_f c7 hf
    refine lv_iload_n hx hb dX6_ofSource_10 rfl (lv_at hl 2 rfl) ?_
    refine lv_iconst (v := 0) hx hb dX6_ofSource_11 (by decide) ?_
    refine lv_iconst (v := 2) hx hb dX6_ofSource_12 (by decide) ?_
    obtain ⟨r13, hg13, hf⟩ := ag_bs hf
    refine ag_cSi hx hb hml hT hown hG h0 hS hW (c_X6_in hg13) ⟨rfl, rfl⟩ q892 q893 q11 q894 dd_yX6_in ⟨Nat.le_of_ble_eq_true rfl, Nat.le_of_ble_eq_true rfl⟩ hl.1 rfl (Nat.le_of_ble_eq_true rfl) ⟨Nat.le_of_ble_eq_true rfl, Nat.le_of_ble_eq_true rfl⟩ dX6_ofSource_13 (fun H locs hW hS => ?_)
    refine lv_if_eq (tgt := 23) hx hb dX6_ofSource_16 (by decide) (fun c16 => ?_) (fun c16 => ?_)
    · have hf := ag_t c16 hf
      refine lv_iconst (v := 1) hx hb dX6_ofSource_23 (by decide) ?_
      obtain ⟨r24, hg24, hf⟩ := ag_bs hf
      refine ag_cVi hx hb hml hT hown hG h0 hS hW (c_X6_goesWell t6 hg24) ⟨rfl, rfl⟩ q896 q898 qs27 q11 q899 dd_yX6_goesWell ⟨Nat.le_of_ble_eq_true rfl, Nat.le_of_ble_eq_true rfl⟩ t6 rfl rfl hl.1 rfl (Nat.le_of_ble_eq_true rfl) ⟨Nat.le_of_ble_eq_true rfl, Nat.le_of_ble_eq_true rfl⟩ dX6_ofSource_24 (fun H locs hW hS => ?_)
      refine lv_if_ne (tgt := 32) hx hb dX6_ofSource_27 (by decide) (fun c27 => ?_) (fun c27 => ?_)
      · have hf := ag_f c27 hf
        refine lv_iconst (v := 0) hx hb dX6_ofSource_32 (by decide) ?_
        refine lv_istore_n (lv' := [(3, .int 0), (0, .ref (p 6 0)), (1, .int x1), (2, .int x2)]) hx hb dX6_ofSource_33 rfl hl (by decide) rfl (fun ls hl => ?_)
        refine lv_iconst (v := 0) hx hb dX6_ofSource_34 (by decide) ?_
        refine lv_istore (lv' := [(4, .int 0), (3, .int 0), (0, .ref (p 6 0)), (1, .int x1), (2, .int x2)]) hx hb dX6_ofSource_35 hl (by decide) rfl (fun ls hl => ?_)
        exact k37 fu _ _ _ _ _ _ _ _ hW hS (lv_sub hl [2, 3, 4, 1, 0] rfl) hf
      · have hf := ag_t c27 hf
        refine lv_iconst (v := 0) hx hb dX6_ofSource_30 (by decide) ?_
        exact ag_iret hx hb hr rfl hlocks hS (congrArg Prod.fst (Option.some.inj hf)) (congrArg Prod.snd (Option.some.inj hf) ▸ hW) dX6_ofSource_31
    · have hf := ag_f c16 hf
      refine lv_iconst (v := 0) hx hb dX6_ofSource_19 (by decide) ?_
      refine lv_goto (tgt := 24) hx hb dX6_ofSource_20 (by decide) ?_
      obtain ⟨r24, hg24, hf⟩ := ag_bs hf
      refine ag_cVi hx hb hml hT hown hG h0 hS hW (c_X6_goesWell t6 hg24) ⟨rfl, rfl⟩ q896 q898 qs27 q11 q899 dd_yX6_goesWell ⟨Nat.le_of_ble_eq_true rfl, Nat.le_of_ble_eq_true rfl⟩ t6 rfl rfl hl.1 rfl (Nat.le_of_ble_eq_true rfl) ⟨Nat.le_of_ble_eq_true rfl, Nat.le_of_ble_eq_true rfl⟩ dX6_ofSource_24 (fun H locs hW hS => ?_)
      refine lv_if_ne (tgt := 32) hx hb dX6_ofSource_27 (by decide) (fun c27 => ?_) (fun c27 => ?_)
      · have hf := ag_f c27 hf
        refine lv_iconst (v := 0) hx hb dX6_ofSource_32 (by decide) ?_
        refine lv_istore_n (lv' := [(3, .int 0), (0, .ref (p 6 0)), (1, .int x1), (2, .int x2)]) hx hb dX6_ofSource_33 rfl hl (by decide) rfl (fun ls hl => ?_)
        refine lv_iconst (v := 0) hx hb dX6_ofSource_34 (by decide) ?_
        refine lv_istore (lv' := [(4, .int 0), (3, .int 0), (0, .ref (p 6 0)), (1, .int x1), (2, .int x2)]) hx hb dX6_ofSource_35 hl (by decide) rfl (fun ls hl => ?_)
        exact k37 fu _ _ _ _ _ _ _ _ hW hS (lv_sub hl [2, 3, 4, 1, 0] rfl) hf
      · have hf := ag_t c27 hf
        refine lv_iconst (v := 0) hx hb dX6_ofSource_30 (by decide) ?_
        exact ag_iret hx hb hr rfl hlocks hS (congrArg Prod.fst (Option.some.inj hf)) (congrArg Prod.snd (Option.some.inj hf) ▸ hW) dX6_ofSource_31
