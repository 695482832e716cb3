def f_X6_pay_b99 (fu : Nat) (x1 : Int32) (x2 : Int32) (y1 : Int32) (s : ag_S) : Option (Int32 × ag_S) := ag_bd (f_X6_goesWell fu y1 s) fun r99 => if r99.1 = 0 then (some (0, r99.2)) else (if x1 < 0 ∨ 40 ≤ x1.toNatClampNeg then none else if x1 < 0 ∨ 40 ≤ x1.toNatClampNeg then none else if x1 < 0 ∨ 40 ≤ x1.toNatClampNeg then none else if (ag_up r99.2 54 0 x1 ((r99.2 54 0 x1) + x2)) 51 0 x1 < 0 ∨ 10 ≤ ((ag_up r99.2 54 0 x1 ((r99.2 54 0 x1) + x2)) 51 0 x1).toNatClampNeg then none else if (ag_up r99.2 54 0 x1 ((r99.2 54 0 x1) + x2)) 38 0 ((ag_up r99.2 54 0 x1 ((r99.2 54 0 x1) + x2)) 51 0 x1) < 0 ∨ 4 ≤ ((ag_up r99.2 54 0 x1 ((r99.2 54 0 x1) + x2)) 38 0 ((ag_up r99.2 54 0 x1 ((r99.2 54 0 x1) + x2)) 51 0 x1)).toNatClampNeg then none else if (ag_up r99.2 54 0 x1 ((r99.2 54 0 x1) + x2)) 38 0 ((ag_up r99.2 54 0 x1 ((r99.2 54 0 x1) + x2)) 51 0 x1) < 0 ∨ 4 ≤ ((ag_up r99.2 54 0 x1 ((r99.2 54 0 x1) + x2)) 38 0 ((ag_up r99.2 54 0 x1 ((r99.2 54 0 x1) + x2)) 51 0 x1)).toNatClampNeg then none else if x1 < 0 ∨ 40 ≤ x1.toNatClampNeg then none else some ((ag_up (ag_up r99.2 54 0 x1 ((r99.2 54 0 x1) + x2)) 35 0 ((ag_up r99.2 54 0 x1 ((r99.2 54 0 x1) + x2)) 38 0 ((ag_up r99.2 54 0 x1 ((r99.2 54 0 x1) + x2)) 51 0 x1)) (((ag_up r99.2 54 0 x1 ((r99.2 54 0 x1) + x2)) 35 0 ((ag_up r99.2 54 0 x1 ((r99.2 54 0 x1) + x2)) 38 0 ((ag_up r99.2 54 0 x1 ((r99.2 54 0 x1) + x2)) 51 0 x1))) + x2)) 54 0 x1, (ag_up (ag_up r99.2 54 0 x1 ((r99.2 54 0 x1) + x2)) 35 0 ((ag_up r99.2 54 0 x1 ((r99.2 54 0 x1) + x2)) 38 0 ((ag_up r99.2 54 0 x1 ((r99.2 54 0 x1) + x2)) 51 0 x1)) (((ag_up r99.2 54 0 x1 ((r99.2 54 0 x1) + x2)) 35 0 ((ag_up r99.2 54 0 x1 ((r99.2 54 0 x1) + x2)) 38 0 ((ag_up r99.2 54 0 x1 ((r99.2 54 0 x1) + x2)) 51 0 x1))) + x2))))
def f_X6_pay_b69 (fu : Nat) (x1 : Int32) (x2 : Int32) (x3 : Int32) (x4 : Int32) (y0 : Int32) (s : ag_S) : Option (Int32 × ag_S) := if x3 = 0 then (f_X6_pay_b99 fu x1 x2 1 s) else (if x4 = 0 then (f_X6_pay_b99 fu x1 x2 2 s) else (if y0 = 0 then (f_X6_pay_b99 fu x1 x2 3 s) else (f_X6_pay_b99 fu x1 x2 0 s)))
def f_X6_pay_b68 (fu : Nat) (x1 : Int32) (x2 : Int32) (x3 : Int32) (x4 : Int32) (s : ag_S) : Option (Int32 × ag_S) := f_X6_pay_b69 fu x1 x2 x3 x4 0 s
def f_X6_pay (fu : Nat) (x1 : Int32) (x2 : Int32) (s : ag_S) : Option (Int32 × ag_S) := ag_bd (f_X6_isGrant fu x1 s) fun r2 => ag_bd (f_X6_in fu x2 1 50000 s) fun r10 => if r2 = 0 then (f_X6_pay_b68 fu x1 x2 r2 r10 s) else (if r10 = 0 then (f_X6_pay_b68 fu x1 x2 r2 r10 s) else (if x1 < 0 ∨ 40 ≤ x1.toNatClampNeg then none else if s 57 0 x1 = 0 then (if x1 < 0 ∨ 40 ≤ x1.toNatClampNeg then none else if x1 < 0 ∨ 40 ≤ x1.toNatClampNeg then none else if s 53 0 x1 < (s 54 0 x1) + x2 then (f_X6_pay_b68 fu x1 x2 r2 r10 s) else (if x1 < 0 ∨ 40 ≤ x1.toNatClampNeg then none else ag_bd (f_X6_canPay fu (s 51 0 x1) x2 s) fun r58 => if r58 = 0 then (f_X6_pay_b68 fu x1 x2 r2 r10 s) else (f_X6_pay_b69 fu x1 x2 r2 r10 1 s))) else (f_X6_pay_b68 fu x1 x2 r2 r10 s)))
abbrev rm_X6_pay : Room := { frames := 2, cells := 0, slots := 0, locals := 43 }
theorem dd_yX6_pay : yX6_pay.cls = RX6 ∧ yX6_pay.cls ≠ "java/lang/invoke/MethodHandle" ∧ yX6_pay.cls ≠ "java/lang/invoke/VarHandle" ∧ (parseMethodDescriptor yX6_pay.desc).map (fun d => d.parameters.length) = some 2 := by decide +kernel
set_option maxHeartbeats 4000000 in
set_option maxRecDepth 100000 in
theorem c_X6_pay {z : ag_Z} {l : Launch} {n : ag_N} {p : ag_P} {s : ag_S} {fu : Nat} {x1 : Int32} {x2 : Int32} {out : Int32 × ag_S} (t6 : vp_in 0 (n 6)) (hf : f_X6_pay fu x1 x2 s = some out) : Met l yX6_pay (ag_ws yX6_pay cX6_pay 6 ((some FieldType.int))) rm_X6_pay (va_Pc [.ref (p 6 0), .int x1, .int x2] (ag_Pre z n p s)) (ag_Ri z n p out.1 out.2) 0 0 (ag_A z) := by
  refine Met.ofW (cc := cX6_pay) (maxL := 6) (ret := (some FieldType.int)) (by decide) rfl ?_
  intro p0 e st m args below meth c s9 B hml hv
  obtain ⟨ha, h0, hG, hW⟩ := hv
  have hx := B.exec
  have hb := B.bytes
  have hr := B.returns
  have hts := atoms_spec (ws := ag_ws yX6_pay cX6_pay 6 ((some FieldType.int))) B.pre
  have hT : ∀ w ∈ ag_tbl, w.before args st = true := fun w h => hts w (List.mem_cons_of_mem _ h)
  have hown : st.vm.findClass RX6 = some m.cls := findClass_of_methodNamed B.named
  have hlocks := B.notSynchronized
  have hS : va_S (ag_A z) st.heap st.heap [] := va_S.rf
  obtain ⟨ls, hls, hl⟩ : ∃ ls, entryFrame m args 6 = F0 m 0 ls [] ∧ lv_has ls 6 [(0, .ref (p 6 0)), (1, .int x1), (2, .int x2)] := by rw [ha]; exact ag_entry m [.ref (p 6 0), .int x1, .int x2] (Nat.le_of_ble_eq_true rfl)
  rw [hls]
  have k99 : ∀ (x1 : Int32) (x2 : Int32) (y1 : Int32) (s : ag_S) (H : Heap) (locs : List Loc) (ls : Array Slot), ag_W z n p s H → va_S (ag_A z) st.heap H locs → lv_has ls 6 [(0, .ref (p 6 0)), (1, .int x1), (2, .int x2)] → f_X6_pay_b99 fu x1 x2 y1 s = some out → W p0 l e (headSpec (ag_ws yX6_pay cX6_pay 6 ((some FieldType.int))) rm_X6_pay).room st m args below meth c H locs 0 0 (MQ below (ag_Ri z n p out.1 out.2) args st 0 0 (ag_A z)) (F0 m 99 ls [.int y1, .ref (p 6 0)]) := by
    intro x1 x2 y1 s H locs ls hW hS hl hf
    unfold f_X6_pay_b99 at hf
    obtain ⟨r99, hg99, hf⟩ := ag_bs hf
    refine ag_cVi hx hb hml hT hown hG h0 hS hW (c_X6_goesWell t6 hg99) ⟨rfl, rfl⟩ q896 q898 qs27 q11 q899 dd_yX6_goesWell ⟨Nat.le_of_ble_eq_true rfl, Nat.le_of_ble_eq_true rfl⟩ t6 rfl rfl hl.1 rfl (Nat.le_of_ble_eq_true rfl) ⟨Nat.le_of_ble_eq_true rfl, Nat.le_of_ble_eq_true rfl⟩ dX6_pay_99 (fun H locs hW hS => ?_)
    refine lv_if_ne (tgt := 107) hx hb dX6_pay_102 (by decide) (fun c102 => ?_) (fun c102 => ?_)
    · have hf := ag_f c102 hf
      refine lv_aload_n hx hb dX6_pay_107 rfl (lv_at hl 0 rfl) ?_
      refine g6_24 hx hb hT hown hG hW t6 q812 dX6_pay_108 ?_
      have t54 := ag_fix hW (k := 6) (f := 24) (t := 54) t6 rfl rfl
      refine lv_iload_n hx hb dX6_pay_111 rfl (lv_at hl 1 rfl) ?_
      refine lv_dup2_11 hx hb dX6_pay_112 rfl rfl ?_
      obtain ⟨a113, hf⟩ := ag_n hf
      refine ag_iald hx hb hG hW t54 rfl rfl a113 dX6_pay_113 ?_
      refine lv_iload_n hx hb dX6_pay_114 rfl (lv_at hl 2 rfl) ?_
      refine lv_iadd hx hb dX6_pay_115 ?_
      obtain ⟨a116, hf⟩ := ag_n hf
      refine ag_iast hx hb hG hW hS t54 rfl rfl (by decide) a116 dX6_pay_116 (fun H locs hW hS => ?_)
      refine lv_aload_n hx hb dX6_pay_117 rfl (lv_at hl 0 rfl) ?_
      refine g6_5 hx hb hT hown hG hW t6 q793 dX6_pay_118 ?_
      have t35 := ag_fix hW (k := 6) (f := 5) (t := 35) t6 rfl rfl
      refine lv_aload_n hx hb dX6_pay_121 rfl (lv_at hl 0 rfl) ?_
      refine g6_8 hx hb hT hown hG hW t6 q796 dX6_pay_122 ?_
      have t38 := ag_fix hW (k := 6) (f := 8) (t := 38) t6 rfl rfl
      refine lv_aload_n hx hb dX6_pay_125 rfl (lv_at hl 0 rfl) ?_
      refine g6_21 hx hb hT hown hG hW t6 q809 dX6_pay_126 ?_
      have t51 := ag_fix hW (k := 6) (f := 21) (t := 51) t6 rfl rfl
      refine lv_iload_n hx hb dX6_pay_129 rfl (lv_at hl 1 rfl) ?_
      obtain ⟨a130, hf⟩ := ag_n hf
      refine ag_iald hx hb hG hW t51 rfl rfl a130 dX6_pay_130 ?_
      obtain ⟨a131, hf⟩ := ag_n hf
      refine ag_iald hx hb hG hW t38 rfl rfl a131 dX6_pay_131 ?_
      refine lv_dup2_11 hx hb dX6_pay_132 rfl rfl ?_
      obtain ⟨a133, hf⟩ := ag_n hf
      refine ag_iald hx hb hG hW t35 rfl rfl a133 dX6_pay_133 ?_
      refine lv_iload_n hx hb dX6_pay_134 rfl (lv_at hl 2 rfl) ?_
      refine lv_iadd hx hb dX6_pay_135 ?_
      obtain ⟨a136, hf⟩ := ag_n hf
      refine ag_iast hx hb hG hW hS t35 rfl rfl (by decide) a136 dX6_pay_136 (fun H locs hW hS => ?_)
      refine lv_aload_n hx hb dX6_pay_137 rfl (lv_at hl 0 rfl) ?_
      refine g6_24 hx hb hT hown hG hW t6 q812 dX6_pay_138 ?_
      have t54 := ag_fix hW (k := 6) (f := 24) (t := 54) t6 rfl rfl
      refine lv_iload_n hx hb dX6_pay_141 rfl (lv_at hl 1 rfl) ?_
      obtain ⟨a142, hf⟩ := ag_n hf
      refine ag_iald hx hb hG hW t54 rfl rfl a142 dX6_pay_142 ?_
      exact ag_iret hx hb hr rfl hlocks hS (congrArg Prod.fst (Option.some.inj hf)) (congrArg Prod.snd (Option.some.inj hf) ▸ hW) dX6_pay_143
    · have hf := ag_t c102 hf
      refine lv_iconst (v := 0) hx hb dX6_pay_105 (by decide) ?_
      exact ag_iret hx hb hr rfl hlocks hS (congrArg Prod.fst (Option.some.inj hf)) (congrArg Prod.snd (Option.some.inj hf) ▸ hW) dX6_pay_106
  have k69 : ∀ (x1 : Int32) (x2 : Int32) (x3 : Int32) (x4 : Int32) (y0 : Int32) (s : ag_S) (H : Heap) (locs : List Loc) (ls : Array Slot) (bx3 : x3 = 0 ∨ x3 = 1) (bx4 : x4 = 0 ∨ x4 = 1) (by0 : y0 = 0 ∨ y0 = 1), ag_W z n p s H → va_S (ag_A z) st.heap H locs → lv_has ls 6 [(0, .ref (p 6 0)), (1, .int x1), (2, .int x2), (3, .int x3), (4, .int x4)] → f_X6_pay_b69 fu x1 x2 x3 x4 y0 s = some out → W p0 l e (headSpec (ag_ws yX6_pay cX6_pay 6 ((some FieldType.int))) rm_X6_pay).room st m args below meth c H locs 0 0 (MQ below (ag_Ri z n p out.1 out.2) args st 0 0 (ag_A z)) (F0 m 69 ls [.int y0]) := by
    intro x1 x2 x3 x4 y0 s H locs ls bx3 bx4 by0 hW hS hl hf
    unfold f_X6_pay_b69 at hf
    refine lv_istore (lv' := [(5, .int y0), (0, .ref (p 6 0)), (1, .int x1), (2, .int x2), (3, .int x3), (4, .int x4)]) hx hb dX6_pay_69 hl (by decide) rfl (fun ls hl => ?_)
    refine lv_aload_n hx hb dX6_pay_71 rfl (lv_at hl 1 rfl) ?_
    refine lv_iload_n hx hb dX6_pay_72 rfl (lv_at hl 4 rfl) ?_
    refine lv_if_ne (tgt := 80) hx hb dX6_pay_73 (by decide) (fun c73 => ?_) (fun c73 => ?_)
    · have hf := ag_f c73 hf
      refine lv_iload hx hb dX6_pay_80 (lv_at hl 5 rfl) ?_
      refine lv_if_ne (tgt := 89) hx hb dX6_pay_82 (by decide) (fun c82 => ?_) (fun c82 => ?_)
      · have hf := ag_f c82 hf
        refine lv_iload hx hb dX6_pay_89 (lv_at hl 0 rfl) ?_
        refine lv_if_eq (tgt := 98) hx hb dX6_pay_91 (by decide) (fun c91 => ?_) (fun c91 => ?_)
        · have hf := ag_t c91 hf
          refine lv_iconst (v := 3) hx hb dX6_pay_98 (by decide) ?_
          exact k99 _ _ _ _ _ _ _ hW hS (lv_sub hl [1, 2, 3] rfl) hf
        · have hf := ag_f c91 hf
          refine lv_iconst (v := 0) hx hb dX6_pay_94 (by decide) ?_
          refine lv_goto (tgt := 99) hx hb dX6_pay_95 (by decide) ?_
          exact k99 _ _ _ _ _ _ _ hW hS (lv_sub hl [1, 2, 3] rfl) hf
      · have hf := ag_t c82 hf
        refine lv_iconst (v := 2) hx hb dX6_pay_85 (by decide) ?_
        refine lv_goto (tgt := 99) hx hb dX6_pay_86 (by decide) ?_
        exact k99 _ _ _ _ _ _ _ hW hS (lv_sub hl [1, 2, 3] rfl) hf
    · have hf := ag_t c73 hf
      refine lv_iconst (v := 1) hx hb dX6_pay_76 (by decide) ?_
      refine lv_goto (tgt := 99) hx hb dX6_pay_77 (by decide) ?_
      exact k99 _ _ _ _ _ _ _ hW hS (lv_sub hl [1, 2, 3] rfl) hf
  have k68 : ∀ (x1 : Int32) (x2 : Int32) (x3 : Int32) (x4 : Int32) (s : ag_S) (H : Heap) (locs : List Loc) (ls : Array Slot) (bx3 : x3 = 0 ∨ x3 = 1) (bx4 : x4 = 0 ∨ x4 = 1), ag_W z n p s H → va_S (ag_A z) st.heap H locs → lv_has ls 6 [(0, .ref (p 6 0)), (1, .int x1), (2, .int x2), (3, .int x3), (4, .int x4)] → f_X6_pay_b68 fu x1 x2 x3 x4 s = some out → W p0 l e (headSpec (ag_ws yX6_pay cX6_pay 6 ((some FieldType.int))) rm_X6_pay).room st m args below meth c H locs 0 0 (MQ below (ag_Ri z n p out.1 out.2) args st 0 0 (ag_A z)) (F0 m 68 ls []) := by
    intro x1 x2 x3 x4 s H locs ls bx3 bx4 hW hS hl hf
    unfold f_X6_pay_b68 at hf
    refine lv_iconst (v := 0) hx hb dX6_pay_68 (by decide) ?_
    exact k69 _ _ _ _ _ _ _ _ _ bx3 bx4 (Or.inl rfl) hW hS (lv_sub hl [0, 1, 2, 3, 4] rfl) hf
  unfold f_X6_pay at hf
  refine lv_aload_n hx hb dX6_pay_0 rfl (lv_at hl 0 rfl) ?_
  refine lv_iload_n hx hb dX6_pay_1 rfl (lv_at hl 1 rfl) ?_
  obtain ⟨r2, hg2, hf⟩ := ag_bs hf
  refine ag_cVi hx hb hml hT hown hG h0 hS hW (c_X6_isGrant t6 hg2) ⟨rfl, rfl⟩ q985 q987 qs40 q11 q988 dd_yX6_isGrant ⟨Nat.le_of_ble_eq_true rfl, Nat.le_of_ble_eq_true rfl⟩ t6 rfl rfl hl.1 rfl (Nat.le_of_ble_eq_true rfl) ⟨Nat.le_of_ble_eq_true rfl, Nat.le_of_ble_eq_true rfl⟩ dX6_pay_2 (fun H locs hW hS => ?_)
  refine lv_istore_n (lv' := [(3, .int r2), (0, .ref (p 6 0)), (1, .int x1), (2, .int x2)]) hx hb dX6_pay_5 rfl hl (by decide) rfl (fun ls hl => ?_)
  refine lv_iload_n hx hb dX6_pay_6 rfl (lv_at hl 3 rfl) ?_
  refine lv_iconst (v := 1) hx hb dX6_pay_7 (by decide) ?_
  refine lv_ldc (v := 50000) hx hb hown (hT _ q916) dX6_pay_8 ?_
  obtain ⟨r10, hg10, hf⟩ := ag_bs hf
  refine ag_cSi hx hb hml hT hown hG h0 hS hW (c_X6_in hg10) ⟨rfl, rfl⟩ q892 q893 q11 q894 dd_yX6_in ⟨Nat.le_of_ble_eq_true rfl, Nat.le_of_ble_eq_true rfl⟩ hl.1 rfl (Nat.le_of_ble_eq_true rfl) ⟨Nat.le_of_ble_eq_true rfl, Nat.le_of_ble_eq_true rfl⟩ dX6_pay_10 (fun H locs hW hS => ?_)
  refine lv_istore (lv' := [(4, .int r10), (3, .int r2), (0, .ref (p 6 0)), (1, .int x1), (2, .int x2)]) hx hb dX6_pay_13 hl (by decide) rfl (fun ls hl => ?_)
  refine lv_iload_n hx hb dX6_pay_15 rfl (lv_at hl 1 rfl) ?_
  refine lv_if_eq (tgt := 68) hx hb dX6_pay_16 (by decide) (fun c16 => ?_) (fun c16 => ?_)
  · have hf := ag_t c16 hf
    exact k68 _ _ _ _ _ _ _ _ (b_X6_isGrant hg2) (b_X6_in hg10) hW hS (lv_sub hl [2, 3, 4, 1, 0] rfl) hf
  · have hf := ag_f c16 hf
    refine lv_iload hx hb dX6_pay_19 (lv_at hl 0 rfl) ?_
    refine lv_if_eq (tgt := 68) hx hb dX6_pay_21 (by decide) (fun c21 => ?_) (fun c21 => ?_)
    · have hf := ag_t c21 hf
      exact k68 _ _ _ _ _ _ _ _ (b_X6_isGrant hg2) (b_X6_in hg10) hW hS (lv_sub hl [2, 3, 4, 1, 0] rfl) hf
    · have hf := ag_f c21 hf
      refine lv_aload_n hx hb dX6_pay_24 rfl (lv_at hl 2 rfl) ?_
      refine g6_27 hx hb hT hown hG hW t6 q815 dX6_pay_25 ?_
      have t57 := ag_fix hW (k := 6) (f := 27) (t := 57) t6 rfl rfl
      refine lv_iload_n hx hb dX6_pay_28 rfl (lv_at hl 3 rfl) ?_
      obtain ⟨a29, hf⟩ := ag_n hf
      refine ag_iald hx hb hG hW t57 rfl rfl a29 dX6_pay_29 ?_
      refine lv_if_ne (tgt := 68) hx hb dX6_pay_30 (by decide) (fun c30 => ?_) (fun c30 => ?_)
      · have hf := ag_f c30 hf
        exact k68 _ _ _ _ _ _ _ _ (b_X6_isGrant hg2) (b_X6_in hg10) hW hS (lv_sub hl [2, 3, 4, 1, 0] rfl) hf
      · have hf := ag_t c30 hf
        refine lv_aload_n hx hb dX6_pay_33 rfl (lv_at hl 2 rfl) ?_
        refine g6_24 hx hb hT hown hG hW t6 q812 dX6_pay_34 ?_
        have t54 := ag_fix hW (k := 6) (f := 24) (t := 54) t6 rfl rfl
        refine lv_iload_n hx hb dX6_pay_37 rfl (lv_at hl 3 rfl) ?_
        obtain ⟨a38, hf⟩ := ag_n hf
        refine ag_iald hx hb hG hW t54 rfl rfl a38 dX6_pay_38 ?_
        refine lv_iload_n hx hb dX6_pay_39 rfl (lv_at hl 4 rfl) ?_
        refine lv_iadd hx hb dX6_pay_40 ?_
        refine lv_aload_n hx hb dX6_pay_41 rfl (lv_at hl 2 rfl) ?_
        refine g6_23 hx hb hT hown hG hW t6 q811 dX6_pay_42 ?_
        have t53 := ag_fix hW (k := 6) (f := 23) (t := 53) t6 rfl rfl
        refine lv_iload_n hx hb dX6_pay_45 rfl (lv_at hl 3 rfl) ?_
        obtain ⟨a46, hf⟩ := ag_n hf
        refine ag_iald hx hb hG hW t53 rfl rfl a46 dX6_pay_46 ?_
        refine lv_icmp_gt (tgt := 68) hx hb dX6_pay_47 (by decide) (fun c47 => ?_) (fun c47 => ?_)
        · have hf := ag_t c47 hf
          exact k68 _ _ _ _ _ _ _ _ (b_X6_isGrant hg2) (b_X6_in hg10) hW hS (lv_sub hl [2, 3, 4, 1, 0] rfl) hf
        · have hf := ag_f c47 hf
          refine lv_aload_n hx hb dX6_pay_50 rfl (lv_at hl 2 rfl) ?_
          refine lv_aload_n hx hb dX6_pay_51 rfl (lv_at hl 2 rfl) ?_
          refine g6_21 hx hb hT hown hG hW t6 q809 dX6_pay_52 ?_
          have t51 := ag_fix hW (k := 6) (f := 21) (t := 51) t6 rfl rfl
          refine lv_iload_n hx hb dX6_pay_55 rfl (lv_at hl 3 rfl) ?_
          obtain ⟨a56, hf⟩ := ag_n hf
          refine ag_iald hx hb hG hW t51 rfl rfl a56 dX6_pay_56 ?_
          refine lv_iload_n hx hb dX6_pay_57 rfl (lv_at hl 4 rfl) ?_
          obtain ⟨r58, hg58, hf⟩ := ag_bs hf
          refine ag_cVi hx hb hml hT hown hG h0 hS hW (c_X6_canPay t6 hg58) ⟨rfl, rfl⟩ q989 q991 qs41 q11 q992 dd_yX6_canPay ⟨Nat.le_of_ble_eq_true rfl, Nat.le_of_ble_eq_true rfl⟩ t6 rfl rfl hl.1 rfl (Nat.le_of_ble_eq_true rfl) ⟨Nat.le_of_ble_eq_true rfl, Nat.le_of_ble_eq_true rfl⟩ dX6_pay_58 (fun H locs hW hS => ?_)
          refine lv_if_eq (tgt := 68) hx hb dX6_pay_61 (by decide) (fun c61 => ?_) (fun c61 => ?_)
          · have hf := ag_t c61 hf
            exact k68 _ _ _ _ _ _ _ _ (b_X6_isGrant hg2) (b_X6_in hg10) hW hS (lv_sub hl [2, 3, 4, 1, 0] rfl) hf
          · have hf := ag_f c61 hf
            refine lv_iconst (v := 1) hx hb dX6_pay_64 (by decide) ?_
            refine lv_goto (tgt := 69) hx hb dX6_pay_65 (by decide) ?_
            exact k69 _ _ _ _ _ _ _ _ _ (b_X6_isGrant hg2) (b_X6_in hg10) (Or.inr rfl) hW hS (lv_sub hl [2, 3, 4, 1, 0] rfl) hf
def f_X6_report_b30 (fu : Nat) (x1 : Int32) (y1 : Int32) (s : ag_S) : Option (Int32 × ag_S) := ag_bd (f_X6_goesWell fu y1 s) fun r30 => if r30.1 = 0 then (some (0, r30.2)) else (if x1 < 0 ∨ 40 ≤ x1.toNatClampNeg then none else if x1 < 0 ∨ 40 ≤ x1.toNatClampNeg then none else if r30.2 58 0 x1 = 0 then (some (1, (ag_up r30.2 58 0 x1 1))) else (some (0, (ag_up r30.2 58 0 x1 1))))
def f_X6_report (fu : Nat) (x1 : Int32) (s : ag_S) : Option (Int32 × ag_S) := ag_bd (f_X6_isGrant fu x1 s) fun r2 => if r2 = 0 then (f_X6_report_b30 fu x1 1 s) else (if x1 < 0 ∨ 40 ≤ x1.toNatClampNeg then none else if s 57 0 x1 = 2 then (f_X6_report_b30 fu x1 2 s) else (f_X6_report_b30 fu x1 0 s))
abbrev rm_X6_report : Room := { frames := 2, cells := 0, slots := 0, locals := 43 }
theorem dd_yX6_report : yX6_report.cls = RX6 ∧ yX6_report.cls ≠ "java/lang/invoke/MethodHandle" ∧ yX6_report.cls ≠ "java/lang/invoke/VarHandle" ∧ (parseMethodDescriptor yX6_report.desc).map (fun d => d.parameters.length) = some 1 := by decide +kernel
set_option maxHeartbeats 4000000 in
set_option maxRecDepth 100000 in
theorem c_X6_report {z : ag_Z} {l : Launch} {n : ag_N} {p : ag_P} {s : ag_S} {fu : Nat} {x1 : Int32} {out : Int32 × ag_S} (t6 : vp_in 0 (n 6)) (hf : f_X6_report fu x1 s = some out) : Met l yX6_report (ag_ws yX6_report cX6_report 4 ((some FieldType.boolean))) rm_X6_report (va_Pc [.ref (p 6 0), .int x1] (ag_Pre z n p s)) (ag_Ri z n p out.1 out.2) 0 0 (ag_A z) := by
  refine Met.ofW (cc := cX6_report) (maxL := 4) (ret := (some FieldType.boolean)) (by decide) rfl ?_
  intro p0 e st m args below meth c s9 B hml hv
  obtain ⟨ha, h0, hG, hW⟩ := hv
  have hx := B.exec
  have hb := B.bytes
  have hr := B.returns
  have hts := atoms_spec (ws := ag_ws yX6_report cX6_report 4 ((some FieldType.boolean))) B.pre
  have hT : ∀ w ∈ ag_tbl, w.before args st = true := fun w h => hts w (List.mem_cons_of_mem _ h)
  have hown : st.vm.findClass RX6 = some m.cls := findClass_of_methodNamed B.named
  have hlocks := B.notSynchronized
  have hS : va_S (ag_A z) st.heap st.heap [] := va_S.rf
  obtain ⟨ls, hls, hl⟩ : ∃ ls, entryFrame m args 4 = F0 m 0 ls [] ∧ lv_has ls 4 [(0, .ref (p 6 0)), (1, .int x1)] := by rw [ha]; exact ag_entry m [.ref (p 6 0), .int x1] (Nat.le_of_ble_eq_true rfl)
  rw [hls]
  have k30 : ∀ (x1 : Int32) (y1 : Int32) (s : ag_S) (H : Heap) (locs : List Loc) (ls : Array Slot), ag_W z n p s H → va_S (ag_A z) st.heap H locs → lv_has ls 4 [(0, .ref (p 6 0)), (1, .int x1)] → f_X6_report_b30 fu x1 y1 s = some out → W p0 l e (headSpec (ag_ws yX6_report cX6_report 4 ((some FieldType.boolean))) rm_X6_report).room st m args below meth c H locs 0 0 (MQ below (ag_Ri z n p out.1 out.2) args st 0 0 (ag_A z)) (F0 m 30 ls [.int y1, .ref (p 6 0)]) := by
    intro x1 y1 s H locs ls hW hS hl hf
    unfold f_X6_report_b30 at hf
    obtain ⟨r30, hg30, hf⟩ := ag_bs hf
    refine ag_cVi hx hb hml hT hown hG h0 hS hW (c_X6_goesWell t6 hg30) ⟨rfl, rfl⟩ q896 q898 qs27 q11 q899 dd_yX6_goesWell ⟨Nat.le_of_ble_eq_true rfl, Nat.le_of_ble_eq_true rfl⟩ t6 rfl rfl hl.1 rfl (Nat.le_of_ble_eq_true rfl) ⟨Nat.le_of_ble_eq_true rfl, Nat.le_of_ble_eq_true rfl⟩ dX6_report_30 (fun H locs hW hS => ?_)
    refine lv_if_ne (tgt := 38) hx hb dX6_report_33 (by decide) (fun c33 => ?_) (fun c33 => ?_)
    · have hf := ag_f c33 hf
      refine lv_aload_n hx hb dX6_report_38 rfl (lv_at hl 0 rfl) ?_
      refine g6_28 hx hb hT hown hG hW t6 q816 dX6_report_39 ?_
      have t58 := ag_fix hW (k := 6) (f := 28) (t := 58) t6 rfl rfl
      refine lv_iload_n hx hb dX6_report_42 rfl (lv_at hl 1 rfl) ?_
      obtain ⟨a43, hf⟩ := ag_n hf
      refine ag_zald hx hb hG hW t58 rfl rfl a43 dX6_report_43 ?_
      refine lv_istore_n (lv' := [(3, .int (r30.2 58 0 x1)), (0, .ref (p 6 0)), (1, .int x1)]) hx hb dX6_report_44 rfl hl (by decide) rfl (fun ls hl => ?_)
      refine lv_aload_n hx hb dX6_report_45 rfl (lv_at hl 1 rfl) ?_
      refine g6_28 hx hb hT hown hG hW t6 q816 dX6_report_46 ?_
      have t58 := ag_fix hW (k := 6) (f := 28) (t := 58) t6 rfl rfl
      refine lv_iload_n hx hb dX6_report_49 rfl (lv_at hl 2 rfl) ?_
      refine lv_iconst (v := 1) hx hb dX6_report_50 (by decide) ?_
      obtain ⟨a51, hf⟩ := ag_n hf
      refine ag_zast hx hb hG hW hS t58 rfl rfl (by decide) a51 rfl dX6_report_51 (fun H locs hW hS => ?_)
      refine lv_iload_n hx hb dX6_report_52 rfl (lv_at hl 0 rfl) ?_
      refine lv_if_ne (tgt := 60) hx hb dX6_report_53 (by decide) (fun c53 => ?_) (fun c53 => ?_)
      · have hf := ag_f c53 hf
        refine lv_iconst (v := 0) hx hb dX6_report_60 (by decide) ?_
        exact ag_iret hx hb hr rfl hlocks hS (congrArg Prod.fst (Option.some.inj hf)) (congrArg Prod.snd (Option.some.inj hf) ▸ hW) dX6_report_61
      · have hf := ag_t c53 hf
        refine lv_iconst (v := 1) hx hb dX6_report_56 (by decide) ?_
        refine lv_goto (tgt := 61) hx hb dX6_report_57 (by decide) ?_
        exact ag_iret hx hb hr rfl hlocks hS (congrArg Prod.fst (Option.some.inj hf)) (congrArg Prod.snd (Option.some.inj hf) ▸ hW) dX6_report_61
    · have hf := ag_t c33 hf
      refine lv_iconst (v := 0) hx hb dX6_report_36 (by decide) ?_
      exact ag_iret hx hb hr rfl hlocks hS (congrArg Prod.fst (Option.some.inj hf)) (congrArg Prod.snd (Option.some.inj hf) ▸ hW) dX6_report_37
  unfold f_X6_report at hf
  refine lv_aload_n hx hb dX6_report_0 rfl (lv_at hl 0 rfl) ?_
  refine lv_iload_n hx hb dX6_report_1 rfl (lv_at hl 1 rfl) ?_
  obtain ⟨r2, hg2, hf⟩ := ag_bs hf
  refine ag_cVi hx hb hml hT hown hG h0 hS hW (c_X6_isGrant t6 hg2) ⟨rfl, rfl⟩ q985 q987 qs40 q11 q988 dd_yX6_isGrant ⟨Nat.le_of_ble_eq_true rfl, Nat.le_of_ble_eq_true rfl⟩ t6 rfl rfl hl.1 rfl (Nat.le_of_ble_eq_true rfl) ⟨Nat.le_of_ble_eq_true rfl, Nat.le_of_ble_eq_true rfl⟩ dX6_report_2 (fun H locs hW hS => ?_)
  refine lv_istore_n (lv' := [(2, .int r2), (0, .ref (p 6 0)), (1, .int x1)]) hx hb dX6_report_5 rfl hl (by decide) rfl (fun ls hl => ?_)
  refine lv_aload_n hx hb dX6_report_6 rfl (lv_at hl 1 rfl) ?_
  refine lv_iload_n hx hb dX6_report_7 rfl (lv_at hl 0 rfl) ?_
  refine lv_if_ne (tgt := 15) hx hb dX6_report_8 (by decide) (fun c8 => ?_) (fun c8 => ?_)
  · have hf := ag_f c8 hf
    refine lv_aload_n hx hb dX6_report_15 rfl (lv_at hl 1 rfl) ?_
    refine g6_27 hx hb hT hown hG hW t6 q815 dX6_report_16 ?_
    have t57 := ag_fix hW (k := 6) (f := 27) (t := 57) t6 rfl rfl
    refine lv_iload_n hx hb dX6_report_19 rfl (lv_at hl 2 rfl) ?_
    obtain ⟨a20, hf⟩ := ag_n hf
    refine ag_iald hx hb hG hW t57 rfl rfl a20 dX6_report_20 ?_
    refine lv_iconst (v := 2) hx hb dX6_report_21 (by decide) ?_
    refine lv_icmp_ne (tgt := 29) hx hb dX6_report_22 (by decide) (fun c22 => ?_) (fun c22 => ?_)
    · have hf := ag_f c22 hf
      refine lv_iconst (v := 0) hx hb dX6_report_29 (by decide) ?_
      exact k30 _ _ _ _ _ _ hW hS (lv_sub hl [1, 2] rfl) hf
    · have hf := ag_t c22 hf
      refine lv_iconst (v := 2) hx hb dX6_report_25 (by decide) ?_
      refine lv_goto (tgt := 30) hx hb dX6_report_26 (by decide) ?_
      exact k30 _ _ _ _ _ _ hW hS (lv_sub hl [1, 2] rfl) hf
  · have hf := ag_t c8 hf
    refine lv_iconst (v := 1) hx hb dX6_report_11 (by decide) ?_
    refine lv_goto (tgt := 30) hx hb dX6_report_12 (by decide) ?_
    exact k30 _ _ _ _ _ _ hW hS (lv_sub hl [1, 2] rfl) hf
def f_X6_spend_b77 (fu : Nat) (x1 : Int32) (x2 : Int32) (y1 : Int32) (s : ag_S) : Option (Int32 × ag_S) := ag_bd (f_X6_goesWell fu y1 s) fun r77 => if r77.1 = 0 then (some (0, r77.2)) else (if x1 < 0 ∨ 10 ≤ x1.toNatClampNeg then none else if x1 < 0 ∨ 10 ≤ x1.toNatClampNeg then none else if x1 < 0 ∨ 10 ≤ x1.toNatClampNeg then none else if (ag_up r77.2 42 0 x1 ((r77.2 42 0 x1) + x2)) 38 0 x1 < 0 ∨ 4 ≤ ((ag_up r77.2 42 0 x1 ((r77.2 42 0 x1) + x2)) 38 0 x1).toNatClampNeg then none else if (ag_up r77.2 42 0 x1 ((r77.2 42 0 x1) + x2)) 38 0 x1 < 0 ∨ 4 ≤ ((ag_up r77.2 42 0 x1 ((r77.2 42 0 x1) + x2)) 38 0 x1).toNatClampNeg then none else ag_bd (f_X6_free fu x1 (ag_up (ag_up r77.2 42 0 x1 ((r77.2 42 0 x1) + x2)) 35 0 ((ag_up r77.2 42 0 x1 ((r77.2 42 0 x1) + x2)) 38 0 x1) (((ag_up r77.2 42 0 x1 ((r77.2 42 0 x1) + x2)) 35 0 ((ag_up r77.2 42 0 x1 ((r77.2 42 0 x1) + x2)) 38 0 x1)) + x2))) fun r112 => some (r112.1, r112.2))
def f_X6_spend_b47 (fu : Nat) (x1 : Int32) (x2 : Int32) (x3 : Int32) (x4 : Int32) (y0 : Int32) (s : ag_S) : Option (Int32 × ag_S) := if x3 = 0 then (f_X6_spend_b77 fu x1 x2 1 s) else (if x4 = 0 then (f_X6_spend_b77 fu x1 x2 2 s) else (if y0 = 0 then (f_X6_spend_b77 fu x1 x2 3 s) else (f_X6_spend_b77 fu x1 x2 0 s)))
def f_X6_spend_b46 (fu : Nat) (x1 : Int32) (x2 : Int32) (x3 : Int32) (x4 : Int32) (s : ag_S) : Option (Int32 × ag_S) := f_X6_spend_b47 fu x1 x2 x3 x4 0 s
def f_X6_spend (fu : Nat) (x1 : Int32) (x2 : Int32) (s : ag_S) : Option (Int32 × ag_S) := ag_bd (f_X6_isLine fu x1 s) fun r2 => ag_bd (f_X6_in fu x2 1 50000 s) fun r10 => if r2 = 0 then (f_X6_spend_b46 fu x1 x2 r2 r10 s) else (if r10 = 0 then (f_X6_spend_b46 fu x1 x2 r2 r10 s) else (ag_bd (f_X6_free fu x1 s) fun r26 => if r26.1 < x2 then (f_X6_spend_b46 fu x1 x2 r2 r10 r26.2) else (ag_bd (f_X6_canPay fu x1 x2 r26.2) fun r36 => if r36 = 0 then (f_X6_spend_b46 fu x1 x2 r2 r10 r26.2) else (f_X6_spend_b47 fu x1 x2 r2 r10 1 r26.2))))
abbrev rm_X6_spend : Room := { frames := 3, cells := 0, slots := 0, locals := 66 }
theorem dd_yX6_spend : yX6_spend.cls = RX6 ∧ yX6_spend.cls ≠ "java/lang/invoke/MethodHandle" ∧ yX6_spend.cls ≠ "java/lang/invoke/VarHandle" ∧ (parseMethodDescriptor yX6_spend.desc).map (fun d => d.parameters.length) = some 2 := by decide +kernel
set_option maxHeartbeats 4000000 in
set_option maxRecDepth 100000 in
theorem c_X6_spend {z : ag_Z} {l : Launch} {n : ag_N} {p : ag_P} {s : ag_S} {fu : Nat} {x1 : Int32} {x2 : Int32} {out : Int32 × ag_S} (t6 : vp_in 0 (n 6)) (hf : f_X6_spend fu x1 x2 s = some out) : Met l yX6_spend (ag_ws yX6_spend cX6_spend 6 ((some FieldType.int))) rm_X6_spend (va_Pc [.ref (p 6 0), .int x1, .int x2] (ag_Pre z n p s)) (ag_Ri z n p out.1 out.2) 0 0 (ag_A z) := by
  refine Met.ofW (cc := cX6_spend) (maxL := 6) (ret := (some FieldType.int)) (by decide) rfl ?_
  intro p0 e st m args below meth c s9 B hml hv
  obtain ⟨ha, h0, hG, hW⟩ := hv
  have hx := B.exec
  have hb := B.bytes
  have hr := B.returns
  have hts := atoms_spec (ws := ag_ws yX6_spend cX6_spend 6 ((some FieldType.int))) B.pre
  have hT : ∀ w ∈ ag_tbl, w.before args st = true := fun w h => hts w (List.mem_cons_of_mem _ h)
  have hown : st.vm.findClass RX6 = some m.cls := findClass_of_methodNamed B.named
  have hlocks := B.notSynchronized
  have hS : va_S (ag_A z) st.heap st.heap [] := va_S.rf
  obtain ⟨ls, hls, hl⟩ : ∃ ls, entryFrame m args 6 = F0 m 0 ls [] ∧ lv_has ls 6 [(0, .ref (p 6 0)), (1, .int x1), (2, .int x2)] := by rw [ha]; exact ag_entry m [.ref (p 6 0), .int x1, .int x2] (Nat.le_of_ble_eq_true rfl)
  rw [hls]
  have k77 : ∀ (x1 : Int32) (x2 : Int32) (y1 : Int32) (s : ag_S) (H : Heap) (locs : List Loc) (ls : Array Slot), ag_W z n p s H → va_S (ag_A z) st.heap H locs → lv_has ls 6 [(0, .ref (p 6 0)), (1, .int x1), (2, .int x2)] → f_X6_spend_b77 fu x1 x2 y1 s = some out → W p0 l e (headSpec (ag_ws yX6_spend cX6_spend 6 ((some FieldType.int))) rm_X6_spend).room st m args below meth c H locs 0 0 (MQ below (ag_Ri z n p out.1 out.2) args st 0 0 (ag_A z)) (F0 m 77 ls [.int y1, .ref (p 6 0)]) := by
    intro x1 x2 y1 s H locs ls hW hS hl hf
    unfold f_X6_spend_b77 at hf
    obtain ⟨r77, hg77, hf⟩ := ag_bs hf
    refine ag_cVi hx hb hml hT hown hG h0 hS hW (c_X6_goesWell t6 hg77) ⟨rfl, rfl⟩ q896 q898 qs27 q11 q899 dd_yX6_goesWell ⟨Nat.le_of_ble_eq_true rfl, Nat.le_of_ble_eq_true rfl⟩ t6 rfl rfl hl.1 rfl (Nat.le_of_ble_eq_true rfl) ⟨Nat.le_of_ble_eq_true rfl, Nat.le_of_ble_eq_true rfl⟩ dX6_spend_77 (fun H locs hW hS => ?_)
    refine lv_if_ne (tgt := 85) hx hb dX6_spend_80 (by decide) (fun c80 => ?_) (fun c80 => ?_)
    · have hf := ag_f c80 hf
      refine lv_aload_n hx hb dX6_spend_85 rfl (lv_at hl 0 rfl) ?_
      refine g6_12 hx hb hT hown hG hW t6 q800 dX6_spend_86 ?_
      have t42 := ag_fix hW (k := 6) (f := 12) (t := 42) t6 rfl rfl
      refine lv_iload_n hx hb dX6_spend_89 rfl (lv_at hl 1 rfl) ?_
      refine lv_dup2_11 hx hb dX6_spend_90 rfl rfl ?_
      obtain ⟨a91, hf⟩ := ag_n hf
      refine ag_iald hx hb hG hW t42 rfl rfl a91 dX6_spend_91 ?_
      refine lv_iload_n hx hb dX6_spend_92 rfl (lv_at hl 2 rfl) ?_
      refine lv_iadd hx hb dX6_spend_93 ?_
      obtain ⟨a94, hf⟩ := ag_n hf
      refine ag_iast hx hb hG hW hS t42 rfl rfl (by decide) a94 dX6_spend_94 (fun H locs hW hS => ?_)
      refine lv_aload_n hx hb dX6_spend_95 rfl (lv_at hl 0 rfl) ?_
      refine g6_5 hx hb hT hown hG hW t6 q793 dX6_spend_96 ?_
      have t35 := ag_fix hW (k := 6) (f := 5) (t := 35) t6 rfl rfl
      refine lv_aload_n hx hb dX6_spend_99 rfl (lv_at hl 0 rfl) ?_
      refine g6_8 hx hb hT hown hG hW t6 q796 dX6_spend_100 ?_
      have t38 := ag_fix hW (k := 6) (f := 8) (t := 38) t6 rfl rfl
      refine lv_iload_n hx hb dX6_spend_103 rfl (lv_at hl 1 rfl) ?_
      obtain ⟨a104, hf⟩ := ag_n hf
      refine ag_iald hx hb hG hW t38 rfl rfl a104 dX6_spend_104 ?_
      refine lv_dup2_11 hx hb dX6_spend_105 rfl rfl ?_
      obtain ⟨a106, hf⟩ := ag_n hf
      refine ag_iald hx hb hG hW t35 rfl rfl a106 dX6_spend_106 ?_
      refine lv_iload_n hx hb dX6_spend_107 rfl (lv_at hl 2 rfl) ?_
      refine lv_iadd hx hb dX6_spend_108 ?_
      obtain ⟨a109, hf⟩ := ag_n hf
      refine ag_iast hx hb hG hW hS t35 rfl rfl (by decide) a109 dX6_spend_109 (fun H locs hW hS => ?_)
      refine lv_aload_n hx hb dX6_spend_110 rfl (lv_at hl 0 rfl) ?_
      refine lv_iload_n hx hb dX6_spend_111 rfl (lv_at hl 1 rfl) ?_
      obtain ⟨r112, hg112, hf⟩ := ag_bs hf
      refine ag_cVi hx hb hml hT hown hG h0 hS hW (c_X6_free t6 hg112) ⟨rfl, rfl⟩ q949 q951 qs34 q11 q952 dd_yX6_free ⟨Nat.le_of_ble_eq_true rfl, Nat.le_of_ble_eq_true rfl⟩ t6 rfl rfl hl.1 rfl (Nat.le_of_ble_eq_true rfl) ⟨Nat.le_of_ble_eq_true rfl, Nat.le_of_ble_eq_true rfl⟩ dX6_spend_112 (fun H locs hW hS => ?_)
      exact ag_iret hx hb hr rfl hlocks hS (congrArg Prod.fst (Option.some.inj hf)) (congrArg Prod.snd (Option.some.inj hf) ▸ hW) dX6_spend_115
    · have hf := ag_t c80 hf
      refine lv_iconst (v := 0) hx hb dX6_spend_83 (by decide) ?_
      exact ag_iret hx hb hr rfl hlocks hS (congrArg Prod.fst (Option.some.inj hf)) (congrArg Prod.snd (Option.some.inj hf) ▸ hW) dX6_spend_84
  have k47 : ∀ (x1 : Int32) (x2 : Int32) (x3 : Int32) (x4 : Int32) (y0 : Int32) (s : ag_S) (H : Heap) (locs : List Loc) (ls : Array Slot) (bx3 : x3 = 0 ∨ x3 = 1) (bx4 : x4 = 0 ∨ x4 = 1) (by0 : y0 = 0 ∨ y0 = 1), ag_W z n p s H → va_S (ag_A z) st.heap H locs → lv_has ls 6 [(0, .ref (p 6 0)), (1, .int x1), (2, .int x2), (3, .int x3), (4, .int x4)] → f_X6_spend_b47 fu x1 x2 x3 x4 y0 s = some out → W p0 l e (headSpec (ag_ws yX6_spend cX6_spend 6 ((some FieldType.int))) rm_X6_spend).room st m args below meth c H locs 0 0 (MQ below (ag_Ri z n p out.1 out.2) args st 0 0 (ag_A z)) (F0 m 47 ls [.int y0]) := by
    intro x1 x2 x3 x4 y0 s H locs ls bx3 bx4 by0 hW hS hl hf
    unfold f_X6_spend_b47 at hf
    refine lv_istore (lv' := [(5, .int y0), (0, .ref (p 6 0)), (1, .int x1), (2, .int x2), (3, .int x3), (4, .int x4)]) hx hb dX6_spend_47 hl (by decide) rfl (fun ls hl => ?_)
    refine lv_aload_n hx hb dX6_spend_49 rfl (lv_at hl 1 rfl) ?_
    refine lv_iload_n hx hb dX6_spend_50 rfl (lv_at hl 4 rfl) ?_
    refine lv_if_ne (tgt := 58) hx hb dX6_spend_51 (by decide) (fun c51 => ?_) (fun c51 => ?_)
    · have hf := ag_f c51 hf
      refine lv_iload hx hb dX6_spend_58 (lv_at hl 5 rfl) ?_
      refine lv_if_ne (tgt := 67) hx hb dX6_spend_60 (by decide) (fun c60 => ?_) (fun c60 => ?_)
      · have hf := ag_f c60 hf
        refine lv_iload hx hb dX6_spend_67 (lv_at hl 0 rfl) ?_
        refine lv_if_eq (tgt := 76) hx hb dX6_spend_69 (by decide) (fun c69 => ?_) (fun c69 => ?_)
        · have hf := ag_t c69 hf
          refine lv_iconst (v := 3) hx hb dX6_spend_76 (by decide) ?_
          exact k77 _ _ _ _ _ _ _ hW hS (lv_sub hl [1, 2, 3] rfl) hf
        · have hf := ag_f c69 hf
          refine lv_iconst (v := 0) hx hb dX6_spend_72 (by decide) ?_
          refine lv_goto (tgt := 77) hx hb dX6_spend_73 (by decide) ?_
          exact k77 _ _ _ _ _ _ _ hW hS (lv_sub hl [1, 2, 3] rfl) hf
      · have hf := ag_t c60 hf
        refine lv_iconst (v := 2) hx hb dX6_spend_63 (by decide) ?_
        refine lv_goto (tgt := 77) hx hb dX6_spend_64 (by decide) ?_
        exact k77 _ _ _ _ _ _ _ hW hS (lv_sub hl [1, 2, 3] rfl) hf
    · have hf := ag_t c51 hf
      refine lv_iconst (v := 1) hx hb dX6_spend_54 (by decide) ?_
      refine lv_goto (tgt := 77) hx hb dX6_spend_55 (by decide) ?_
      exact k77 _ _ _ _ _ _ _ hW hS (lv_sub hl [1, 2, 3] rfl) hf
  have k46 : ∀ (x1 : Int32) (x2 : Int32) (x3 : Int32) (x4 : Int32) (s : ag_S) (H : Heap) (locs : List Loc) (ls : Array Slot) (bx3 : x3 = 0 ∨ x3 = 1) (bx4 : x4 = 0 ∨ x4 = 1), ag_W z n p s H → va_S (ag_A z) st.heap H locs → lv_has ls 6 [(0, .ref (p 6 0)), (1, .int x1), (2, .int x2), (3, .int x3), (4, .int x4)] → f_X6_spend_b46 fu x1 x2 x3 x4 s = some out → W p0 l e (headSpec (ag_ws yX6_spend cX6_spend 6 ((some FieldType.int))) rm_X6_spend).room st m args below meth c H locs 0 0 (MQ below (ag_Ri z n p out.1 out.2) args st 0 0 (ag_A z)) (F0 m 46 ls []) := by
    intro x1 x2 x3 x4 s H locs ls bx3 bx4 hW hS hl hf
    unfold f_X6_spend_b46 at hf
    refine lv_iconst (v := 0) hx hb dX6_spend_46 (by decide) ?_
    exact k47 _ _ _ _ _ _ _ _ _ bx3 bx4 (Or.inl rfl) hW hS (lv_sub hl [0, 1, 2, 3, 4] rfl) hf
  unfold f_X6_spend at hf
  refine lv_aload_n hx hb dX6_spend_0 rfl (lv_at hl 0 rfl) ?_
  refine lv_iload_n hx hb dX6_spend_1 rfl (lv_at hl 1 rfl) ?_
  obtain ⟨r2, hg2, hf⟩ := ag_bs hf
  refine ag_cVi hx hb hml hT hown hG h0 hS hW (c_X6_isLine t6 hg2) ⟨rfl, rfl⟩ q908 q910 qs28 q11 q911 dd_yX6_isLine ⟨Nat.le_of_ble_eq_true rfl, Nat.le_of_ble_eq_true rfl⟩ t6 rfl rfl hl.1 rfl (Nat.le_of_ble_eq_true rfl) ⟨Nat.le_of_ble_eq_true rfl, Nat.le_of_ble_eq_true rfl⟩ dX6_spend_2 (fun H locs hW hS => ?_)
  refine lv_istore_n (lv' := [(3, .int r2), (0, .ref (p 6 0)), (1, .int x1), (2, .int x2)]) hx hb dX6_spend_5 rfl hl (by decide) rfl (fun ls hl => ?_)
  refine lv_iload_n hx hb dX6_spend_6 rfl (lv_at hl 3 rfl) ?_
  refine lv_iconst (v := 1) hx hb dX6_spend_7 (by decide) ?_
  refine lv_ldc (v := 50000) hx hb hown (hT _ q916) dX6_spend_8 ?_
  obtain ⟨r10, hg10, hf⟩ := ag_bs hf
  refine ag_cSi hx hb hml hT hown hG h0 hS hW (c_X6_in hg10) ⟨rfl, rfl⟩ q892 q893 q11 q894 dd_yX6_in ⟨Nat.le_of_ble_eq_true rfl, Nat.le_of_ble_eq_true rfl⟩ hl.1 rfl (Nat.le_of_ble_eq_true rfl) ⟨Nat.le_of_ble_eq_true rfl, Nat.le_of_ble_eq_true rfl⟩ dX6_spend_10 (fun H locs hW hS => ?_)
  refine lv_istore (lv' := [(4, .int r10), (3, .int r2), (0, .ref (p 6 0)), (1, .int x1), (2, .int x2)]) hx hb dX6_spend_13 hl (by decide) rfl (fun ls hl => ?_)
  refine lv_iload_n hx hb dX6_spend_15 rfl (lv_at hl 1 rfl) ?_
  refine lv_if_eq (tgt := 46) hx hb dX6_spend_16 (by decide) (fun c16 => ?_) (fun c16 => ?_)
  · have hf := ag_t c16 hf
    exact k46 _ _ _ _ _ _ _ _ (b_X6_isLine hg2) (b_X6_in hg10) hW hS (lv_sub hl [2, 3, 4, 1, 0] rfl) hf
  · have hf := ag_f c16 hf
    refine lv_iload hx hb dX6_spend_19 (lv_at hl 0 rfl) ?_
    refine lv_if_eq (tgt := 46) hx hb dX6_spend_21 (by decide) (fun c21 => ?_) (fun c21 => ?_)
    · have hf := ag_t c21 hf
      exact k46 _ _ _ _ _ _ _ _ (b_X6_isLine hg2) (b_X6_in hg10) hW hS (lv_sub hl [2, 3, 4, 1, 0] rfl) hf
    · have hf := ag_f c21 hf
      refine lv_aload_n hx hb dX6_spend_24 rfl (lv_at hl 2 rfl) ?_
      refine lv_iload_n hx hb dX6_spend_25 rfl (lv_at hl 3 rfl) ?_
      obtain ⟨r26, hg26, hf⟩ := ag_bs hf
      refine ag_cVi hx hb hml hT hown hG h0 hS hW (c_X6_free t6 hg26) ⟨rfl, rfl⟩ q949 q951 qs34 q11 q952 dd_yX6_free ⟨Nat.le_of_ble_eq_true rfl, Nat.le_of_ble_eq_true rfl⟩ t6 rfl rfl hl.1 rfl (Nat.le_of_ble_eq_true rfl) ⟨Nat.le_of_ble_eq_true rfl, Nat.le_of_ble_eq_true rfl⟩ dX6_spend_26 (fun H locs hW hS => ?_)
      refine lv_iload_n hx hb dX6_spend_29 rfl (lv_at hl 4 rfl) ?_
      refine lv_icmp_lt (tgt := 46) hx hb dX6_spend_30 (by decide) (fun c30 => ?_) (fun c30 => ?_)
      · have hf := ag_t c30 hf
        exact k46 _ _ _ _ _ _ _ _ (b_X6_isLine hg2) (b_X6_in hg10) hW hS (lv_sub hl [2, 3, 4, 1, 0] rfl) hf
      · have hf := ag_f c30 hf
        refine lv_aload_n hx hb dX6_spend_33 rfl (lv_at hl 2 rfl) ?_
        refine lv_iload_n hx hb dX6_spend_34 rfl (lv_at hl 3 rfl) ?_
        refine lv_iload_n hx hb dX6_spend_35 rfl (lv_at hl 4 rfl) ?_
        obtain ⟨r36, hg36, hf⟩ := ag_bs hf
        refine ag_cVi hx hb hml hT hown hG h0 hS hW (c_X6_canPay t6 hg36) ⟨rfl, rfl⟩ q989 q991 qs41 q11 q992 dd_yX6_canPay ⟨Nat.le_of_ble_eq_true rfl, Nat.le_of_ble_eq_true rfl⟩ t6 rfl rfl hl.1 rfl (Nat.le_of_ble_eq_true rfl) ⟨Nat.le_of_ble_eq_true rfl, Nat.le_of_ble_eq_true rfl⟩ dX6_spend_36 (fun H locs hW hS => ?_)
        refine lv_if_eq (tgt := 46) hx hb dX6_spend_39 (by decide) (fun c39 => ?_) (fun c39 => ?_)
        · have hf := ag_t c39 hf
          exact k46 _ _ _ _ _ _ _ _ (b_X6_isLine hg2) (b_X6_in hg10) hW hS (lv_sub hl [2, 3, 4, 1, 0] rfl) hf
        · have hf := ag_f c39 hf
          refine lv_iconst (v := 1) hx hb dX6_spend_42 (by decide) ?_
          refine lv_goto (tgt := 47) hx hb dX6_spend_43 (by decide) ?_
          exact k47 _ _ _ _ _ _ _ _ _ (b_X6_isLine hg2) (b_X6_in hg10) (Or.inr rfl) hW hS (lv_sub hl [2, 3, 4, 1, 0] rfl) hf
def f_X6_audit_b74 (fu : Nat) (x1 : Int32) (x2 : Int32) (y1 : Int32) (s : ag_S) : Option (Int32 × ag_S) := ag_bd (f_X6_goesWell fu y1 s) fun r74 => if r74.1 = 0 then (some (0, r74.2)) else (if x1 < 0 ∨ 40 ≤ x1.toNatClampNeg then none else if r74.2 52 0 x1 < 0 ∨ 8 ≤ (r74.2 52 0 x1).toNatClampNeg then none else if r74.2 52 0 x1 < 0 ∨ 8 ≤ (r74.2 52 0 x1).toNatClampNeg then none else if x1 < 0 ∨ 40 ≤ x1.toNatClampNeg then none else if (ag_up r74.2 36 0 (r74.2 52 0 x1) ((r74.2 36 0 (r74.2 52 0 x1)) + x2)) 51 0 x1 < 0 ∨ 10 ≤ ((ag_up r74.2 36 0 (r74.2 52 0 x1) ((r74.2 36 0 (r74.2 52 0 x1)) + x2)) 51 0 x1).toNatClampNeg then none else if (ag_up r74.2 36 0 (r74.2 52 0 x1) ((r74.2 36 0 (r74.2 52 0 x1)) + x2)) 51 0 x1 < 0 ∨ 10 ≤ ((ag_up r74.2 36 0 (r74.2 52 0 x1) ((r74.2 36 0 (r74.2 52 0 x1)) + x2)) 51 0 x1).toNatClampNeg then none else if x1 < 0 ∨ 40 ≤ x1.toNatClampNeg then none else if x1 < 0 ∨ 40 ≤ x1.toNatClampNeg then none else if x1 < 0 ∨ 40 ≤ x1.toNatClampNeg then none else if x1 < 0 ∨ 40 ≤ x1.toNatClampNeg then none else if x1 < 0 ∨ 40 ≤ x1.toNatClampNeg then none else if x1 < 0 ∨ 40 ≤ x1.toNatClampNeg then none else some ((ag_up (ag_up (ag_up (ag_up (ag_up r74.2 36 0 (r74.2 52 0 x1) ((r74.2 36 0 (r74.2 52 0 x1)) + x2)) 42 0 ((ag_up r74.2 36 0 (r74.2 52 0 x1) ((r74.2 36 0 (r74.2 52 0 x1)) + x2)) 51 0 x1) (((ag_up r74.2 36 0 (r74.2 52 0 x1) ((r74.2 36 0 (r74.2 52 0 x1)) + x2)) 42 0 ((ag_up r74.2 36 0 (r74.2 52 0 x1) ((r74.2 36 0 (r74.2 52 0 x1)) + x2)) 51 0 x1)) + x2)) 57 0 x1 1) 54 0 x1 (((ag_up (ag_up (ag_up r74.2 36 0 (r74.2 52 0 x1) ((r74.2 36 0 (r74.2 52 0 x1)) + x2)) 42 0 ((ag_up r74.2 36 0 (r74.2 52 0 x1) ((r74.2 36 0 (r74.2 52 0 x1)) + x2)) 51 0 x1) (((ag_up r74.2 36 0 (r74.2 52 0 x1) ((r74.2 36 0 (r74.2 52 0 x1)) + x2)) 42 0 ((ag_up r74.2 36 0 (r74.2 52 0 x1) ((r74.2 36 0 (r74.2 52 0 x1)) + x2)) 51 0 x1)) + x2)) 57 0 x1 1) 54 0 x1) - x2)) 53 0 x1 ((ag_up (ag_up (ag_up (ag_up r74.2 36 0 (r74.2 52 0 x1) ((r74.2 36 0 (r74.2 52 0 x1)) + x2)) 42 0 ((ag_up r74.2 36 0 (r74.2 52 0 x1) ((r74.2 36 0 (r74.2 52 0 x1)) + x2)) 51 0 x1) (((ag_up r74.2 36 0 (r74.2 52 0 x1) ((r74.2 36 0 (r74.2 52 0 x1)) + x2)) 42 0 ((ag_up r74.2 36 0 (r74.2 52 0 x1) ((r74.2 36 0 (r74.2 52 0 x1)) + x2)) 51 0 x1)) + x2)) 57 0 x1 1) 54 0 x1 (((ag_up (ag_up (ag_up r74.2 36 0 (r74.2 52 0 x1) ((r74.2 36 0 (r74.2 52 0 x1)) + x2)) 42 0 ((ag_up r74.2 36 0 (r74.2 52 0 x1) ((r74.2 36 0 (r74.2 52 0 x1)) + x2)) 51 0 x1) (((ag_up r74.2 36 0 (r74.2 52 0 x1) ((r74.2 36 0 (r74.2 52 0 x1)) + x2)) 42 0 ((ag_up r74.2 36 0 (r74.2 52 0 x1) ((r74.2 36 0 (r74.2 52 0 x1)) + x2)) 51 0 x1)) + x2)) 57 0 x1 1) 54 0 x1) - x2)) 54 0 x1)) 54 0 x1, (ag_up (ag_up (ag_up (ag_up (ag_up r74.2 36 0 (r74.2 52 0 x1) ((r74.2 36 0 (r74.2 52 0 x1)) + x2)) 42 0 ((ag_up r74.2 36 0 (r74.2 52 0 x1) ((r74.2 36 0 (r74.2 52 0 x1)) + x2)) 51 0 x1) (((ag_up r74.2 36 0 (r74.2 52 0 x1) ((r74.2 36 0 (r74.2 52 0 x1)) + x2)) 42 0 ((ag_up r74.2 36 0 (r74.2 52 0 x1) ((r74.2 36 0 (r74.2 52 0 x1)) + x2)) 51 0 x1)) + x2)) 57 0 x1 1) 54 0 x1 (((ag_up (ag_up (ag_up r74.2 36 0 (r74.2 52 0 x1) ((r74.2 36 0 (r74.2 52 0 x1)) + x2)) 42 0 ((ag_up r74.2 36 0 (r74.2 52 0 x1) ((r74.2 36 0 (r74.2 52 0 x1)) + x2)) 51 0 x1) (((ag_up r74.2 36 0 (r74.2 52 0 x1) ((r74.2 36 0 (r74.2 52 0 x1)) + x2)) 42 0 ((ag_up r74.2 36 0 (r74.2 52 0 x1) ((r74.2 36 0 (r74.2 52 0 x1)) + x2)) 51 0 x1)) + x2)) 57 0 x1 1) 54 0 x1) - x2)) 53 0 x1 ((ag_up (ag_up (ag_up (ag_up r74.2 36 0 (r74.2 52 0 x1) ((r74.2 36 0 (r74.2 52 0 x1)) + x2)) 42 0 ((ag_up r74.2 36 0 (r74.2 52 0 x1) ((r74.2 36 0 (r74.2 52 0 x1)) + x2)) 51 0 x1) (((ag_up r74.2 36 0 (r74.2 52 0 x1) ((r74.2 36 0 (r74.2 52 0 x1)) + x2)) 42 0 ((ag_up r74.2 36 0 (r74.2 52 0 x1) ((r74.2 36 0 (r74.2 52 0 x1)) + x2)) 51 0 x1)) + x2)) 57 0 x1 1) 54 0 x1 (((ag_up (ag_up (ag_up r74.2 36 0 (r74.2 52 0 x1) ((r74.2 36 0 (r74.2 52 0 x1)) + x2)) 42 0 ((ag_up r74.2 36 0 (r74.2 52 0 x1) ((r74.2 36 0 (r74.2 52 0 x1)) + x2)) 51 0 x1) (((ag_up r74.2 36 0 (r74.2 52 0 x1) ((r74.2 36 0 (r74.2 52 0 x1)) + x2)) 42 0 ((ag_up r74.2 36 0 (r74.2 52 0 x1) ((r74.2 36 0 (r74.2 52 0 x1)) + x2)) 51 0 x1)) + x2)) 57 0 x1 1) 54 0 x1) - x2)) 54 0 x1))))
def f_X6_audit_b44 (fu : Nat) (x1 : Int32) (x2 : Int32) (x3 : Int32) (x4 : Int32) (y0 : Int32) (s : ag_S) : Option (Int32 × ag_S) := if x3 = 0 then (f_X6_audit_b74 fu x1 x2 1 s) else (if x4 = 0 then (f_X6_audit_b74 fu x1 x2 2 s) else (if y0 = 0 then (f_X6_audit_b74 fu x1 x2 3 s) else (f_X6_audit_b74 fu x1 x2 0 s)))
def f_X6_audit_b43 (fu : Nat) (x1 : Int32) (x2 : Int32) (x3 : Int32) (x4 : Int32) (s : ag_S) : Option (Int32 × ag_S) := f_X6_audit_b44 fu x1 x2 x3 x4 0 s
def f_X6_audit (fu : Nat) (x1 : Int32) (x2 : Int32) (s : ag_S) : Option (Int32 × ag_S) := ag_bd (f_X6_isGrant fu x1 s) fun r2 => ag_bd (f_X6_in fu x2 1 50000 s) fun r10 => if r2 = 0 then (f_X6_audit_b43 fu x1 x2 r2 r10 s) else (if x1 < 0 ∨ 40 ≤ x1.toNatClampNeg then none else if s 57 0 x1 = 2 then (f_X6_audit_b43 fu x1 x2 r2 r10 s) else (if x1 < 0 ∨ 40 ≤ x1.toNatClampNeg then none else if s 54 0 x1 < x2 then (f_X6_audit_b43 fu x1 x2 r2 r10 s) else (f_X6_audit_b44 fu x1 x2 r2 r10 1 s)))
abbrev rm_X6_audit : Room := { frames := 2, cells := 0, slots := 0, locals := 43 }
theorem dd_yX6_audit : yX6_audit.cls = RX6 ∧ yX6_audit.cls ≠ "java/lang/invoke/MethodHandle" ∧ yX6_audit.cls ≠ "java/lang/invoke/VarHandle" ∧ (parseMethodDescriptor yX6_audit.desc).map (fun d => d.parameters.length) = some 2 := by decide +kernel
set_option maxHeartbeats 4000000 in
set_option maxRecDepth 100000 in
theorem c_X6_audit {z : ag_Z} {l : Launch} {n : ag_N} {p : ag_P} {s : ag_S} {fu : Nat} {x1 : Int32} {x2 : Int32} {out : Int32 × ag_S} (t6 : vp_in 0 (n 6)) (hf : f_X6_audit fu x1 x2 s = some out) : Met l yX6_audit (ag_ws yX6_audit cX6_audit 6 ((some FieldType.int))) rm_X6_audit (va_Pc [.ref (p 6 0), .int x1, .int x2] (ag_Pre z n p s)) (ag_Ri z n p out.1 out.2) 0 0 (ag_A z) := by
  refine Met.ofW (cc := cX6_audit) (maxL := 6) (ret := (some FieldType.int)) (by decide) rfl ?_
  intro p0 e st m args below meth c s9 B hml hv
  obtain ⟨ha, h0, hG, hW⟩ := hv
  have hx := B.exec
  have hb := B.bytes
  have hr := B.returns
  have hts := atoms_spec (ws := ag_ws yX6_audit cX6_audit 6 ((some FieldType.int))) B.pre
  have hT : ∀ w ∈ ag_tbl, w.before args st = true := fun w h => hts w (List.mem_cons_of_mem _ h)
  have hown : st.vm.findClass RX6 = some m.cls := findClass_of_methodNamed B.named
  have hlocks := B.notSynchronized
  have hS : va_S (ag_A z) st.heap st.heap [] := va_S.rf
  obtain ⟨ls, hls, hl⟩ : ∃ ls, entryFrame m args 6 = F0 m 0 ls [] ∧ lv_has ls 6 [(0, .ref (p 6 0)), (1, .int x1), (2, .int x2)] := by rw [ha]; exact ag_entry m [.ref (p 6 0), .int x1, .int x2] (Nat.le_of_ble_eq_true rfl)
  rw [hls]
  have k74 : ∀ (x1 : Int32) (x2 : Int32) (y1 : Int32) (s : ag_S) (H : Heap) (locs : List Loc) (ls : Array Slot), ag_W z n p s H → va_S (ag_A z) st.heap H locs → lv_has ls 6 [(0, .ref (p 6 0)), (1, .int x1), (2, .int x2)] → f_X6_audit_b74 fu x1 x2 y1 s = some out → W p0 l e (headSpec (ag_ws yX6_audit cX6_audit 6 ((some FieldType.int))) rm_X6_audit).room st m args below meth c H locs 0 0 (MQ below (ag_Ri z n p out.1 out.2) args st 0 0 (ag_A z)) (F0 m 74 ls [.int y1, .ref (p 6 0)]) := by
    intro x1 x2 y1 s H locs ls hW hS hl hf
    unfold f_X6_audit_b74 at hf
    obtain ⟨r74, hg74, hf⟩ := ag_bs hf
    refine ag_cVi hx hb hml hT hown hG h0 hS hW (c_X6_goesWell t6 hg74) ⟨rfl, rfl⟩ q896 q898 qs27 q11 q899 dd_yX6_goesWell ⟨Nat.le_of_ble_eq_true rfl, Nat.le_of_ble_eq_true rfl⟩ t6 rfl rfl hl.1 rfl (Nat.le_of_ble_eq_true rfl) ⟨Nat.le_of_ble_eq_true rfl, Nat.le_of_ble_eq_true rfl⟩ dX6_audit_74 (fun H locs hW hS => ?_)
    refine lv_if_ne (tgt := 82) hx hb dX6_audit_77 (by decide) (fun c77 => ?_) (fun c77 => ?_)
    · have hf := ag_f c77 hf
      refine lv_aload_n hx hb dX6_audit_82 rfl (lv_at hl 0 rfl) ?_
      refine g6_6 hx hb hT hown hG hW t6 q794 dX6_audit_83 ?_
      have t36 := ag_fix hW (k := 6) (f := 6) (t := 36) t6 rfl rfl
      refine lv_aload_n hx hb dX6_audit_86 rfl (lv_at hl 0 rfl) ?_
      refine g6_22 hx hb hT hown hG hW t6 q810 dX6_audit_87 ?_
      have t52 := ag_fix hW (k := 6) (f := 22) (t := 52) t6 rfl rfl
      refine lv_iload_n hx hb dX6_audit_90 rfl (lv_at hl 1 rfl) ?_
      obtain ⟨a91, hf⟩ := ag_n hf
      refine ag_iald hx hb hG hW t52 rfl rfl a91 dX6_audit_91 ?_
      refine lv_dup2_11 hx hb dX6_audit_92 rfl rfl ?_
      obtain ⟨a93, hf⟩ := ag_n hf
      refine ag_iald hx hb hG hW t36 rfl rfl a93 dX6_audit_93 ?_
      refine lv_iload_n hx hb dX6_audit_94 rfl (lv_at hl 2 rfl) ?_
      refine lv_iadd hx hb dX6_audit_95 ?_
      obtain ⟨a96, hf⟩ := ag_n hf
      refine ag_iast hx hb hG hW hS t36 rfl rfl (by decide) a96 dX6_audit_96 (fun H locs hW hS => ?_)
      refine lv_aload_n hx hb dX6_audit_97 rfl (lv_at hl 0 rfl) ?_
      refine g6_12 hx hb hT hown hG hW t6 q800 dX6_audit_98 ?_
      have t42 := ag_fix hW (k := 6) (f := 12) (t := 42) t6 rfl rfl
      refine lv_aload_n hx hb dX6_audit_101 rfl (lv_at hl 0 rfl) ?_
      refine g6_21 hx hb hT hown hG hW t6 q809 dX6_audit_102 ?_
      have t51 := ag_fix hW (k := 6) (f := 21) (t := 51) t6 rfl rfl
      refine lv_iload_n hx hb dX6_audit_105 rfl (lv_at hl 1 rfl) ?_
      obtain ⟨a106, hf⟩ := ag_n hf
      refine ag_iald hx hb hG hW t51 rfl rfl a106 dX6_audit_106 ?_
      refine lv_dup2_11 hx hb dX6_audit_107 rfl rfl ?_
      obtain ⟨a108, hf⟩ := ag_n hf
      refine ag_iald hx hb hG hW t42 rfl rfl a108 dX6_audit_108 ?_
      refine lv_iload_n hx hb dX6_audit_109 rfl (lv_at hl 2 rfl) ?_
      refine lv_iadd hx hb dX6_audit_110 ?_
      obtain ⟨a111, hf⟩ := ag_n hf
      refine ag_iast hx hb hG hW hS t42 rfl rfl (by decide) a111 dX6_audit_111 (fun H locs hW hS => ?_)
      refine lv_aload_n hx hb dX6_audit_112 rfl (lv_at hl 0 rfl) ?_
      refine g6_27 hx hb hT hown hG hW t6 q815 dX6_audit_113 ?_
      have t57 := ag_fix hW (k := 6) (f := 27) (t := 57) t6 rfl rfl
      refine lv_iload_n hx hb dX6_audit_116 rfl (lv_at hl 1 rfl) ?_
      refine lv_iconst (v := 1) hx hb dX6_audit_117 (by decide) ?_
      obtain ⟨a118, hf⟩ := ag_n hf
      refine ag_iast hx hb hG hW hS t57 rfl rfl (by decide) a118 dX6_audit_118 (fun H locs hW hS => ?_)
      refine lv_aload_n hx hb dX6_audit_119 rfl (lv_at hl 0 rfl) ?_
      refine g6_24 hx hb hT hown hG hW t6 q812 dX6_audit_120 ?_
      have t54 := ag_fix hW (k := 6) (f := 24) (t := 54) t6 rfl rfl
      refine lv_iload_n hx hb dX6_audit_123 rfl (lv_at hl 1 rfl) ?_
      refine lv_dup2_11 hx hb dX6_audit_124 rfl rfl ?_
      obtain ⟨a125, hf⟩ := ag_n hf
      refine ag_iald hx hb hG hW t54 rfl rfl a125 dX6_audit_125 ?_
      refine lv_iload_n hx hb dX6_audit_126 rfl (lv_at hl 2 rfl) ?_
      refine lv_isub hx hb dX6_audit_127 ?_
      obtain ⟨a128, hf⟩ := ag_n hf
      refine ag_iast hx hb hG hW hS t54 rfl rfl (by decide) a128 dX6_audit_128 (fun H locs hW hS => ?_)
      refine lv_aload_n hx hb dX6_audit_129 rfl (lv_at hl 0 rfl) ?_
      refine g6_23 hx hb hT hown hG hW t6 q811 dX6_audit_130 ?_
      have t53 := ag_fix hW (k := 6) (f := 23) (t := 53) t6 rfl rfl
      refine lv_iload_n hx hb dX6_audit_133 rfl (lv_at hl 1 rfl) ?_
      refine lv_aload_n hx hb dX6_audit_134 rfl (lv_at hl 0 rfl) ?_
      refine g6_24 hx hb hT hown hG hW t6 q812 dX6_audit_135 ?_
      have t54 := ag_fix hW (k := 6) (f := 24) (t := 54) t6 rfl rfl
      refine lv_iload_n hx hb dX6_audit_138 rfl (lv_at hl 1 rfl) ?_
      obtain ⟨a139, hf⟩ := ag_n hf
      refine ag_iald hx hb hG hW t54 rfl rfl a139 dX6_audit_139 ?_
      obtain ⟨a140, hf⟩ := ag_n hf
      refine ag_iast hx hb hG hW hS t53 rfl rfl (by decide) a140 dX6_audit_140 (fun H locs hW hS => ?_)
      refine lv_aload_n hx hb dX6_audit_141 rfl (lv_at hl 0 rfl) ?_
      refine g6_24 hx hb hT hown hG hW t6 q812 dX6_audit_142 ?_
      have t54 := ag_fix hW (k := 6) (f := 24) (t := 54) t6 rfl rfl
      refine lv_iload_n hx hb dX6_audit_145 rfl (lv_at hl 1 rfl) ?_
      obtain ⟨a146, hf⟩ := ag_n hf
      refine ag_iald hx hb hG hW t54 rfl rfl a146 dX6_audit_146 ?_
      exact ag_iret hx hb hr rfl hlocks hS (congrArg Prod.fst (Option.some.inj hf)) (congrArg Prod.snd (Option.some.inj hf) ▸ hW) dX6_audit_147
    · have hf := ag_t c77 hf
      refine lv_iconst (v := 0) hx hb dX6_audit_80 (by decide) ?_
      exact ag_iret hx hb hr rfl hlocks hS (congrArg Prod.fst (Option.some.inj hf)) (congrArg Prod.snd (Option.some.inj hf) ▸ hW) dX6_audit_81
  have k44 : ∀ (x1 : Int32) (x2 : Int32) (x3 : Int32) (x4 : Int32) (y0 : Int32) (s : ag_S) (H : Heap) (locs : List Loc) (ls : Array Slot) (bx3 : x3 = 0 ∨ x3 = 1) (bx4 : x4 = 0 ∨ x4 = 1) (by0 : y0 = 0 ∨ y0 = 1), ag_W z n p s H → va_S (ag_A z) st.heap H locs → lv_has ls 6 [(0, .ref (p 6 0)), (1, .int x1), (2, .int x2), (3, .int x3), (4, .int x4)] → f_X6_audit_b44 fu x1 x2 x3 x4 y0 s = some out → W p0 l e (headSpec (ag_ws yX6_audit cX6_audit 6 ((some FieldType.int))) rm_X6_audit).room st m args below meth c H locs 0 0 (MQ below (ag_Ri z n p out.1 out.2) args st 0 0 (ag_A z)) (F0 m 44 ls [.int y0]) := by
    intro x1 x2 x3 x4 y0 s H locs ls bx3 bx4 by0 hW hS hl hf
    unfold f_X6_audit_b44 at hf
    refine lv_istore (lv' := [(5, .int y0), (0, .ref (p 6 0)), (1, .int x1), (2, .int x2), (3, .int x3), (4, .int x4)]) hx hb dX6_audit_44 hl (by decide) rfl (fun ls hl => ?_)
    refine lv_aload_n hx hb dX6_audit_46 rfl (lv_at hl 1 rfl) ?_
    refine lv_iload_n hx hb dX6_audit_47 rfl (lv_at hl 4 rfl) ?_
    refine lv_if_ne (tgt := 55) hx hb dX6_audit_48 (by decide) (fun c48 => ?_) (fun c48 => ?_)
    · have hf := ag_f c48 hf
      refine lv_iload hx hb dX6_audit_55 (lv_at hl 5 rfl) ?_
      refine lv_if_ne (tgt := 64) hx hb dX6_audit_57 (by decide) (fun c57 => ?_) (fun c57 => ?_)
      · have hf := ag_f c57 hf
        refine lv_iload hx hb dX6_audit_64 (lv_at hl 0 rfl) ?_
        refine lv_if_eq (tgt := 73) hx hb dX6_audit_66 (by decide) (fun c66 => ?_) (fun c66 => ?_)
        · have hf := ag_t c66 hf
          refine lv_iconst (v := 3) hx hb dX6_audit_73 (by decide) ?_
          exact k74 _ _ _ _ _ _ _ hW hS (lv_sub hl [1, 2, 3] rfl) hf
        · have hf := ag_f c66 hf
          refine lv_iconst (v := 0) hx hb dX6_audit_69 (by decide) ?_
          refine lv_goto (tgt := 74) hx hb dX6_audit_70 (by decide) ?_
          exact k74 _ _ _ _ _ _ _ hW hS (lv_sub hl [1, 2, 3] rfl) hf
      · have hf := ag_t c57 hf
        refine lv_iconst (v := 2) hx hb dX6_audit_60 (by decide) ?_
        refine lv_goto (tgt := 74) hx hb dX6_audit_61 (by decide) ?_
        exact k74 _ _ _ _ _ _ _ hW hS (lv_sub hl [1, 2, 3] rfl) hf
    · have hf := ag_t c48 hf
      refine lv_iconst (v := 1) hx hb dX6_audit_51 (by decide) ?_
      refine lv_goto (tgt := 74) hx hb dX6_audit_52 (by decide) ?_
      exact k74 _ _ _ _ _ _ _ hW hS (lv_sub hl [1, 2, 3] rfl) hf
  have k43 : ∀ (x1 : Int32) (x2 : Int32) (x3 : Int32) (x4 : Int32) (s : ag_S) (H : Heap) (locs : List Loc) (ls : Array Slot) (bx3 : x3 = 0 ∨ x3 = 1) (bx4 : x4 = 0 ∨ x4 = 1), ag_W z n p s H → va_S (ag_A z) st.heap H locs → lv_has ls 6 [(0, .ref (p 6 0)), (1, .int x1), (2, .int x2), (3, .int x3), (4, .int x4)] → f_X6_audit_b43 fu x1 x2 x3 x4 s = some out → W p0 l e (headSpec (ag_ws yX6_audit cX6_audit 6 ((some FieldType.int))) rm_X6_audit).room st m args below meth c H locs 0 0 (MQ below (ag_Ri z n p out.1 out.2) args st 0 0 (ag_A z)) (F0 m 43 ls []) := by
    intro x1 x2 x3 x4 s H locs ls bx3 bx4 hW hS hl hf
    unfold f_X6_audit_b43 at hf
    refine lv_iconst (v := 0) hx hb dX6_audit_43 (by decide) ?_
    exact k44 _ _ _ _ _ _ _ _ _ bx3 bx4 (Or.inl rfl) hW hS (lv_sub hl [0, 1, 2, 3, 4] rfl) hf
  unfold f_X6_audit at hf
  refine lv_aload_n hx hb dX6_audit_0 rfl (lv_at hl 0 rfl) ?_
  refine lv_iload_n hx hb dX6_audit_1 rfl (lv_at hl 1 rfl) ?_
  obtain ⟨r2, hg2, hf⟩ := ag_bs hf
  refine ag_cVi hx hb hml hT hown hG h0 hS hW (c_X6_isGrant t6 hg2) ⟨rfl, rfl⟩ q985 q987 qs40 q11 q988 dd_yX6_isGrant ⟨Nat.le_of_ble_eq_true rfl, Nat.le_of_ble_eq_true rfl⟩ t6 rfl rfl hl.1 rfl (Nat.le_of_ble_eq_true rfl) ⟨Nat.le_of_ble_eq_true rfl, Nat.le_of_ble_eq_true rfl⟩ dX6_audit_2 (fun H locs hW hS => ?_)
  refine lv_istore_n (lv' := [(3, .int r2), (0, .ref (p 6 0)), (1, .int x1), (2, .int x2)]) hx hb dX6_audit_5 rfl hl (by decide) rfl (fun ls hl => ?_)
  refine lv_iload_n hx hb dX6_audit_6 rfl (lv_at hl 3 rfl) ?_
  refine lv_iconst (v := 1) hx hb dX6_audit_7 (by decide) ?_
  refine lv_ldc (v := 50000) hx hb hown (hT _ q916) dX6_audit_8 ?_
  obtain ⟨r10, hg10, hf⟩ := ag_bs hf
  refine ag_cSi hx hb hml hT hown hG h0 hS hW (c_X6_in hg10) ⟨rfl, rfl⟩ q892 q893 q11 q894 dd_yX6_in ⟨Nat.le_of_ble_eq_true rfl, Nat.le_of_ble_eq_true rfl⟩ hl.1 rfl (Nat.le_of_ble_eq_true rfl) ⟨Nat.le_of_ble_eq_true rfl, Nat.le_of_ble_eq_true rfl⟩ dX6_audit_10 (fun H locs hW hS => ?_)
  refine lv_istore (lv' := [(4, .int r10), (3, .int r2), (0, .ref (p 6 0)), (1, .int x1), (2, .int x2)]) hx hb dX6_audit_13 hl (by decide) rfl (fun ls hl => ?_)
  refine lv_iload_n hx hb dX6_audit_15 rfl (lv_at hl 1 rfl) ?_
  refine lv_if_eq (tgt := 43) hx hb dX6_audit_16 (by decide) (fun c16 => ?_) (fun c16 => ?_)
  · have hf := ag_t c16 hf
    exact k43 _ _ _ _ _ _ _ _ (b_X6_isGrant hg2) (b_X6_in hg10) hW hS (lv_sub hl [2, 3, 4, 1, 0] rfl) hf
  · have hf := ag_f c16 hf
    refine lv_aload_n hx hb dX6_audit_19 rfl (lv_at hl 2 rfl) ?_
    refine g6_27 hx hb hT hown hG hW t6 q815 dX6_audit_20 ?_
    have t57 := ag_fix hW (k := 6) (f := 27) (t := 57) t6 rfl rfl
    refine lv_iload_n hx hb dX6_audit_23 rfl (lv_at hl 3 rfl) ?_
    obtain ⟨a24, hf⟩ := ag_n hf
    refine ag_iald hx hb hG hW t57 rfl rfl a24 dX6_audit_24 ?_
    refine lv_iconst (v := 2) hx hb dX6_audit_25 (by decide) ?_
    refine lv_icmp_eq (tgt := 43) hx hb dX6_audit_26 (by decide) (fun c26 => ?_) (fun c26 => ?_)
    · have hf := ag_t c26 hf
      exact k43 _ _ _ _ _ _ _ _ (b_X6_isGrant hg2) (b_X6_in hg10) hW hS (lv_sub hl [2, 3, 4, 1, 0] rfl) hf
    · have hf := ag_f c26 hf
      refine lv_aload_n hx hb dX6_audit_29 rfl (lv_at hl 2 rfl) ?_
      refine g6_24 hx hb hT hown hG hW t6 q812 dX6_audit_30 ?_
      have t54 := ag_fix hW (k := 6) (f := 24) (t := 54) t6 rfl rfl
      refine lv_iload_n hx hb dX6_audit_33 rfl (lv_at hl 3 rfl) ?_
      obtain ⟨a34, hf⟩ := ag_n hf
      refine ag_iald hx hb hG hW t54 rfl rfl a34 dX6_audit_34 ?_
      refine lv_iload_n hx hb dX6_audit_35 rfl (lv_at hl 4 rfl) ?_
      refine lv_icmp_lt (tgt := 43) hx hb dX6_audit_36 (by decide) (fun c36 => ?_) (fun c36 => ?_)
      · have hf := ag_t c36 hf
        exact k43 _ _ _ _ _ _ _ _ (b_X6_isGrant hg2) (b_X6_in hg10) hW hS (lv_sub hl [2, 3, 4, 1, 0] rfl) hf
      · have hf := ag_f c36 hf
        refine lv_iconst (v := 1) hx hb dX6_audit_39 (by decide) ?_
        refine lv_goto (tgt := 44) hx hb dX6_audit_40 (by decide) ?_
        exact k44 _ _ _ _ _ _ _ _ _ (b_X6_isGrant hg2) (b_X6_in hg10) (Or.inr rfl) hW hS (lv_sub hl [2, 3, 4, 1, 0] rfl) hf
def f_X6_repay_b50 (fu : Nat) (x1 : Int32) (x2 : Int32) (y1 : Int32) (s : ag_S) : Option (Int32 × ag_S) := ag_bd (f_X6_goesWell fu y1 s) fun r50 => if r50.1 = 0 then (some (0, r50.2)) else (if x1 < 0 ∨ 8 ≤ x1.toNatClampNeg then none else if x1 < 0 ∨ 8 ≤ x1.toNatClampNeg then none else if x1 < 0 ∨ 8 ≤ x1.toNatClampNeg then none else some ((ag_up (ag_up r50.2 36 0 x1 ((r50.2 36 0 x1) - x2)) 6 2 0 (((ag_up r50.2 36 0 x1 ((r50.2 36 0 x1) - x2)) 6 2 0) + x2)) 36 0 x1, (ag_up (ag_up r50.2 36 0 x1 ((r50.2 36 0 x1) - x2)) 6 2 0 (((ag_up r50.2 36 0 x1 ((r50.2 36 0 x1) - x2)) 6 2 0) + x2))))
def f_X6_repay (fu : Nat) (x1 : Int32) (x2 : Int32) (s : ag_S) : Option (Int32 × ag_S) := ag_bd (f_X6_in fu x1 0 7 s) fun r4 => ag_bd (f_X6_in fu x2 1 50000 s) fun r12 => if r4 = 0 then (f_X6_repay_b50 fu x1 x2 1 s) else (if r12 = 0 then (f_X6_repay_b50 fu x1 x2 2 s) else (if x1 < 0 ∨ 8 ≤ x1.toNatClampNeg then none else if x2 ≤ s 36 0 x1 then (f_X6_repay_b50 fu x1 x2 0 s) else (f_X6_repay_b50 fu x1 x2 3 s)))
abbrev rm_X6_repay : Room := { frames := 1, cells := 0, slots := 0, locals := 22 }
theorem dd_yX6_repay : yX6_repay.cls = RX6 ∧ yX6_repay.cls ≠ "java/lang/invoke/MethodHandle" ∧ yX6_repay.cls ≠ "java/lang/invoke/VarHandle" ∧ (parseMethodDescriptor yX6_repay.desc).map (fun d => d.parameters.length) = some 2 := by decide +kernel
set_option maxHeartbeats 4000000 in
set_option maxRecDepth 100000 in
theorem c_X6_repay {z : ag_Z} {l : Launch} {n : ag_N} {p : ag_P} {s : ag_S} {fu : Nat} {x1 : Int32} {x2 : Int32} {out : Int32 × ag_S} (t6 : vp_in 0 (n 6)) (hf : f_X6_repay fu x1 x2 s = some out) : Met l yX6_repay (ag_ws yX6_repay cX6_repay 5 ((some FieldType.int))) rm_X6_repay (va_Pc [.ref (p 6 0), .int x1, .int x2] (ag_Pre z n p s)) (ag_Ri z n p out.1 out.2) 0 0 (ag_A z) := by
  refine Met.ofW (cc := cX6_repay) (maxL := 5) (ret := (some FieldType.int)) (by decide) rfl ?_
  intro p0 e st m args below meth c s9 B hml hv
  obtain ⟨ha, h0, hG, hW⟩ := hv
  have hx := B.exec
  have hb := B.bytes
  have hr := B.returns
  have hts := atoms_spec (ws := ag_ws yX6_repay cX6_repay 5 ((some FieldType.int))) B.pre
  have hT : ∀ w ∈ ag_tbl, w.before args st = true := fun w h => hts w (List.mem_cons_of_mem _ h)
  have hown : st.vm.findClass RX6 = some m.cls := findClass_of_methodNamed B.named
  have hlocks := B.notSynchronized
  have hS : va_S (ag_A z) st.heap st.heap [] := va_S.rf
  obtain ⟨ls, hls, hl⟩ : ∃ ls, entryFrame m args 5 = F0 m 0 ls [] ∧ lv_has ls 5 [(0, .ref (p 6 0)), (1, .int x1), (2, .int x2)] := by rw [ha]; exact ag_entry m [.ref (p 6 0), .int x1, .int x2] (Nat.le_of_ble_eq_true rfl)
  rw [hls]
  have k50 : ∀ (x1 : Int32) (x2 : Int32) (y1 : Int32) (s : ag_S) (H : Heap) (locs : List Loc) (ls : Array Slot), ag_W z n p s H → va_S (ag_A z) st.heap H locs → lv_has ls 5 [(0, .ref (p 6 0)), (1, .int x1), (2, .int x2)] → f_X6_repay_b50 fu x1 x2 y1 s = some out → W p0 l e (headSpec (ag_ws yX6_repay cX6_repay 5 ((some FieldType.int))) rm_X6_repay).room st m args below meth c H locs 0 0 (MQ below (ag_Ri z n p out.1 out.2) args st 0 0 (ag_A z)) (F0 m 50 ls [.int y1, .ref (p 6 0)]) := by
    intro x1 x2 y1 s H locs ls hW hS hl hf
    unfold f_X6_repay_b50 at hf
    obtain ⟨r50, hg50, hf⟩ := ag_bs hf
    refine ag_cVi hx hb hml hT hown hG h0 hS hW (c_X6_goesWell t6 hg50) ⟨rfl, rfl⟩ q896 q898 qs27 q11 q899 dd_yX6_goesWell ⟨Nat.le_of_ble_eq_true rfl, Nat.le_of_ble_eq_true rfl⟩ t6 rfl rfl hl.1 rfl (Nat.le_of_ble_eq_true rfl) ⟨Nat.le_of_ble_eq_true rfl, Nat.le_of_ble_eq_true rfl⟩ dX6_repay_50 (fun H locs hW hS => ?_)
    refine lv_if_ne (tgt := 58) hx hb dX6_repay_53 (by decide) (fun c53 => ?_) (fun c53 => ?_)
    · have hf := ag_f c53 hf
      refine lv_aload_n hx hb dX6_repay_58 rfl (lv_at hl 0 rfl) ?_
      refine g6_6 hx hb hT hown hG hW t6 q794 dX6_repay_59 ?_
      have t36 := ag_fix hW (k := 6) (f := 6) (t := 36) t6 rfl rfl
      refine lv_iload_n hx hb dX6_repay_62 rfl (lv_at hl 1 rfl) ?_
      refine lv_dup2_11 hx hb dX6_repay_63 rfl rfl ?_
      obtain ⟨a64, hf⟩ := ag_n hf
      refine ag_iald hx hb hG hW t36 rfl rfl a64 dX6_repay_64 ?_
      refine lv_iload_n hx hb dX6_repay_65 rfl (lv_at hl 2 rfl) ?_
      refine lv_isub hx hb dX6_repay_66 ?_
      obtain ⟨a67, hf⟩ := ag_n hf
      refine ag_iast hx hb hG hW hS t36 rfl rfl (by decide) a67 dX6_repay_67 (fun H locs hW hS => ?_)
      refine lv_aload_n hx hb dX6_repay_68 rfl (lv_at hl 0 rfl) ?_
      refine lv_dup hx hb dX6_repay_69 rfl ?_
      refine g6_2 hx hb hT hown hG hW t6 q790 dX6_repay_70 ?_
      refine lv_iload_n hx hb dX6_repay_73 rfl (lv_at hl 2 rfl) ?_
      refine lv_iadd hx hb dX6_repay_74 ?_
      refine u6_2 hx hb hT hown hG hW hS t6 q790 dX6_repay_75 (fun H locs hW hS => ?_)
      refine lv_aload_n hx hb dX6_repay_78 rfl (lv_at hl 0 rfl) ?_
      refine g6_6 hx hb hT hown hG hW t6 q794 dX6_repay_79 ?_
      have t36 := ag_fix hW (k := 6) (f := 6) (t := 36) t6 rfl rfl
      refine lv_iload_n hx hb dX6_repay_82 rfl (lv_at hl 1 rfl) ?_
      obtain ⟨a83, hf⟩ := ag_n hf
      refine ag_iald hx hb hG hW t36 rfl rfl a83 dX6_repay_83 ?_
      exact ag_iret hx hb hr rfl hlocks hS (congrArg Prod.fst (Option.some.inj hf)) (congrArg Prod.snd (Option.some.inj hf) ▸ hW) dX6_repay_84
    · have hf := ag_t c53 hf
      refine lv_iconst (v := 0) hx hb dX6_repay_56 (by decide) ?_
      exact ag_iret hx hb hr rfl hlocks hS (congrArg Prod.fst (Option.some.inj hf)) (congrArg Prod.snd (Option.some.inj hf) ▸ hW) dX6_repay_57
  unfold f_X6_repay at hf
  refine lv_iload_n hx hb dX6_repay_0 rfl (lv_at hl 1 rfl) ?_
  refine lv_iconst (v := 0) hx hb dX6_repay_1 (by decide) ?_
  refine lv_bipush (v := 7) hx hb dX6_repay_2 (by decide) ?_
  obtain ⟨r4, hg4, hf⟩ := ag_bs hf
  refine ag_cSi hx hb hml hT hown hG h0 hS hW (c_X6_in hg4) ⟨rfl, rfl⟩ q892 q893 q11 q894 dd_yX6_in ⟨Nat.le_of_ble_eq_true rfl, Nat.le_of_ble_eq_true rfl⟩ hl.1 rfl (Nat.le_of_ble_eq_true rfl) ⟨Nat.le_of_ble_eq_true rfl, Nat.le_of_ble_eq_true rfl⟩ dX6_repay_4 (fun H locs hW hS => ?_)
  refine lv_istore_n (lv' := [(3, .int r4), (0, .ref (p 6 0)), (1, .int x1), (2, .int x2)]) hx hb dX6_repay_7 rfl hl (by decide) rfl (fun ls hl => ?_)
  refine lv_iload_n hx hb dX6_repay_8 rfl (lv_at hl 3 rfl) ?_
  refine lv_iconst (v := 1) hx hb dX6_repay_9 (by decide) ?_
  refine lv_ldc (v := 50000) hx hb hown (hT _ q916) dX6_repay_10 ?_
  obtain ⟨r12, hg12, hf⟩ := ag_bs hf
  refine ag_cSi hx hb hml hT hown hG h0 hS hW (c_X6_in hg12) ⟨rfl, rfl⟩ q892 q893 q11 q894 dd_yX6_in ⟨Nat.le_of_ble_eq_true rfl, Nat.le_of_ble_eq_true rfl⟩ hl.1 rfl (Nat.le_of_ble_eq_true rfl) ⟨Nat.le_of_ble_eq_true rfl, Nat.le_of_ble_eq_true rfl⟩ dX6_repay_12 (fun H locs hW hS => ?_)
  refine lv_istore (lv' := [(4, .int r12), (3, .int r4), (0, .ref (p 6 0)), (1, .int x1), (2, .int x2)]) hx hb dX6_repay_15 hl (by decide) rfl (fun ls hl => ?_)
  refine lv_aload_n hx hb dX6_repay_17 rfl (lv_at hl 2 rfl) ?_
  refine lv_iload_n hx hb dX6_repay_18 rfl (lv_at hl 1 rfl) ?_
  refine lv_if_ne (tgt := 26) hx hb dX6_repay_19 (by decide) (fun c19 => ?_) (fun c19 => ?_)
  · have hf := ag_f c19 hf
    refine lv_iload hx hb dX6_repay_26 (lv_at hl 0 rfl) ?_
    refine lv_if_ne (tgt := 35) hx hb dX6_repay_28 (by decide) (fun c28 => ?_) (fun c28 => ?_)
    · have hf := ag_f c28 hf
      refine lv_aload_n hx hb dX6_repay_35 rfl (lv_at hl 2 rfl) ?_
      refine g6_6 hx hb hT hown hG hW t6 q794 dX6_repay_36 ?_
      have t36 := ag_fix hW (k := 6) (f := 6) (t := 36) t6 rfl rfl
      refine lv_iload_n hx hb dX6_repay_39 rfl (lv_at hl 3 rfl) ?_
      obtain ⟨a40, hf⟩ := ag_n hf
      refine ag_iald hx hb hG hW t36 rfl rfl a40 dX6_repay_40 ?_
      refine lv_iload_n hx hb dX6_repay_41 rfl (lv_at hl 4 rfl) ?_
      refine lv_icmp_ge (tgt := 49) hx hb dX6_repay_42 (by decide) (fun c42 => ?_) (fun c42 => ?_)
      · have hf := ag_t c42 hf
        refine lv_iconst (v := 0) hx hb dX6_repay_49 (by decide) ?_
        exact k50 _ _ _ _ _ _ _ hW hS (lv_sub hl [2, 3, 4] rfl) hf
      · have hf := ag_f c42 hf
        refine lv_iconst (v := 3) hx hb dX6_repay_45 (by decide) ?_
        refine lv_goto (tgt := 50) hx hb dX6_repay_46 (by decide) ?_
        exact k50 _ _ _ _ _ _ _ hW hS (lv_sub hl [2, 3, 4] rfl) hf
    · have hf := ag_t c28 hf
      refine lv_iconst (v := 2) hx hb dX6_repay_31 (by decide) ?_
      refine lv_goto (tgt := 50) hx hb dX6_repay_32 (by decide) ?_
      exact k50 _ _ _ _ _ _ _ hW hS (lv_sub hl [2, 3, 4] rfl) hf
  · have hf := ag_t c19 hf
    refine lv_iconst (v := 1) hx hb dX6_repay_22 (by decide) ?_
    refine lv_goto (tgt := 50) hx hb dX6_repay_23 (by decide) ?_
    exact k50 _ _ _ _ _ _ _ hW hS (lv_sub hl [2, 3, 4] rfl) hf
def f_X6_target (fu : Nat) (x1 : Int32) (s : ag_S) : Option (Int32 × ag_S) := ag_bd (f_X6_in fu x1 0 50 s) fun r5 => if r5 = 0 then (ag_bd (f_X6_goesWell fu 1 s) fun r16 => if r16.1 = 0 then (some (0, r16.2)) else (some (r16.2 6 3 0, (ag_up r16.2 6 3 0 x1)))) else (ag_bd (f_X6_goesWell fu 0 s) fun r16 => if r16.1 = 0 then (some (0, r16.2)) else (some (r16.2 6 3 0, (ag_up r16.2 6 3 0 x1))))
abbrev rm_X6_target : Room := { frames := 1, cells := 0, slots := 0, locals := 22 }
theorem dd_yX6_target : yX6_target.cls = RX6 ∧ yX6_target.cls ≠ "java/lang/invoke/MethodHandle" ∧ yX6_target.cls ≠ "java/lang/invoke/VarHandle" ∧ (parseMethodDescriptor yX6_target.desc).map (fun d => d.parameters.length) = some 1 := by decide +kernel
set_option maxHeartbeats 4000000 in
set_option maxRecDepth 100000 in
theorem c_X6_target {z : ag_Z} {l : Launch} {n : ag_N} {p : ag_P} {s : ag_S} {fu : Nat} {x1 : Int32} {out : Int32 × ag_S} (t6 : vp_in 0 (n 6)) (hf : f_X6_target fu x1 s = some out) : Met l yX6_target (ag_ws yX6_target cX6_target 3 ((some FieldType.int))) rm_X6_target (va_Pc [.ref (p 6 0), .int x1] (ag_Pre z n p s)) (ag_Ri z n p out.1 out.2) 0 0 (ag_A z) := by
  refine Met.ofW (cc := cX6_target) (maxL := 3) (ret := (some FieldType.int)) (by decide) rfl ?_
  intro p0 e st m args below meth c s9 B hml hv
  obtain ⟨ha, h0, hG, hW⟩ := hv
  have hx := B.exec
  have hb := B.bytes
  have hr := B.returns
  have hts := atoms_spec (ws := ag_ws yX6_target cX6_target 3 ((some FieldType.int))) B.pre
  have hT : ∀ w ∈ ag_tbl, w.before args st = true := fun w h => hts w (List.mem_cons_of_mem _ h)
  have hown : st.vm.findClass RX6 = some m.cls := findClass_of_methodNamed B.named
  have hlocks := B.notSynchronized
  have hS : va_S (ag_A z) st.heap st.heap [] := va_S.rf
  obtain ⟨ls, hls, hl⟩ : ∃ ls, entryFrame m args 3 = F0 m 0 ls [] ∧ lv_has ls 3 [(0, .ref (p 6 0)), (1, .int x1)] := by rw [ha]; exact ag_entry m [.ref (p 6 0), .int x1] (Nat.le_of_ble_eq_true rfl)
  rw [hls]
  unfold f_X6_target at hf
  refine lv_aload_n hx hb dX6_target_0 rfl (lv_at hl 0 rfl) ?_
  refine lv_iload_n hx hb dX6_target_1 rfl (lv_at hl 1 rfl) ?_
  refine lv_iconst (v := 0) hx hb dX6_target_2 (by decide) ?_
  refine lv_bipush (v := 50) hx hb dX6_target_3 (by decide) ?_
  obtain ⟨r5, hg5, hf⟩ := ag_bs hf
  refine ag_cSi hx hb hml hT hown hG h0 hS hW (c_X6_in hg5) ⟨rfl, rfl⟩ q892 q893 q11 q894 dd_yX6_in ⟨Nat.le_of_ble_eq_true rfl, Nat.le_of_ble_eq_true rfl⟩ hl.1 rfl (Nat.le_of_ble_eq_true rfl) ⟨Nat.le_of_ble_eq_true rfl, Nat.le_of_ble_eq_true rfl⟩ dX6_target_5 (fun H locs hW hS => ?_)
  refine lv_if_eq (tgt := 15) hx hb dX6_target_8 (by decide) (fun c8 => ?_) (fun c8 => ?_)
  · have hf := ag_t c8 hf
    refine lv_iconst (v := 1) hx hb dX6_target_15 (by decide) ?_
    obtain ⟨r16, hg16, hf⟩ := ag_bs hf
    refine ag_cVi hx hb hml hT hown hG h0 hS hW (c_X6_goesWell t6 hg16) ⟨rfl, rfl⟩ q896 q898 qs27 q11 q899 dd_yX6_goesWell ⟨Nat.le_of_ble_eq_true rfl, Nat.le_of_ble_eq_true rfl⟩ t6 rfl rfl hl.1 rfl (Nat.le_of_ble_eq_true rfl) ⟨Nat.le_of_ble_eq_true rfl, Nat.le_of_ble_eq_true rfl⟩ dX6_target_16 (fun H locs hW hS => ?_)
    refine lv_if_ne (tgt := 24) hx hb dX6_target_19 (by decide) (fun c19 => ?_) (fun c19 => ?_)
    · have hf := ag_f c19 hf
      refine lv_aload_n hx hb dX6_target_24 rfl (lv_at hl 0 rfl) ?_
      refine g6_3 hx hb hT hown hG hW t6 q791 dX6_target_25 ?_
      refine lv_istore_n (lv' := [(2, .int (r16.2 6 3 0)), (0, .ref (p 6 0)), (1, .int x1)]) hx hb dX6_target_28 rfl hl (by decide) rfl (fun ls hl => ?_)
      refine lv_aload_n hx hb dX6_target_29 rfl (lv_at hl 1 rfl) ?_
      refine lv_iload_n hx hb dX6_target_30 rfl (lv_at hl 2 rfl) ?_
      refine u6_3 hx hb hT hown hG hW hS t6 q791 dX6_target_31 (fun H locs hW hS => ?_)
      refine lv_iload_n hx hb dX6_target_34 rfl (lv_at hl 0 rfl) ?_
      exact ag_iret hx hb hr rfl hlocks hS (congrArg Prod.fst (Option.some.inj hf)) (congrArg Prod.snd (Option.some.inj hf) ▸ hW) dX6_target_35
    · have hf := ag_t c19 hf
      refine lv_iconst (v := 0) hx hb dX6_target_22 (by decide) ?_
      exact ag_iret hx hb hr rfl hlocks hS (congrArg Prod.fst (Option.some.inj hf)) (congrArg Prod.snd (Option.some.inj hf) ▸ hW) dX6_target_23
  · have hf := ag_f c8 hf
    refine lv_iconst (v := 0) hx hb dX6_target_11 (by decide) ?_
    refine lv_goto (tgt := 16) hx hb dX6_target_12 (by decide) ?_
    obtain ⟨r16, hg16, hf⟩ := ag_bs hf
    refine ag_cVi hx hb hml hT hown hG h0 hS hW (c_X6_goesWell t6 hg16) ⟨rfl, rfl⟩ q896 q898 qs27 q11 q899 dd_yX6_goesWell ⟨Nat.le_of_ble_eq_true rfl, Nat.le_of_ble_eq_true rfl⟩ t6 rfl rfl hl.1 rfl (Nat.le_of_ble_eq_true rfl) ⟨Nat.le_of_ble_eq_true rfl, Nat.le_of_ble_eq_true rfl⟩ dX6_target_16 (fun H locs hW hS => ?_)
    refine lv_if_ne (tgt := 24) hx hb dX6_target_19 (by decide) (fun c19 => ?_) (fun c19 => ?_)
    · have hf := ag_f c19 hf
      refine lv_aload_n hx hb dX6_target_24 rfl (lv_at hl 0 rfl) ?_
      refine g6_3 hx hb hT hown hG hW t6 q791 dX6_target_25 ?_
      refine lv_istore_n (lv' := [(2, .int (r16.2 6 3 0)), (0, .ref (p 6 0)), (1, .int x1)]) hx hb dX6_target_28 rfl hl (by decide) rfl (fun ls hl => ?_)
      refine lv_aload_n hx hb dX6_target_29 rfl (lv_at hl 1 rfl) ?_
      refine lv_iload_n hx hb dX6_target_30 rfl (lv_at hl 2 rfl) ?_
      refine u6_3 hx hb hT hown hG hW hS t6 q791 dX6_target_31 (fun H locs hW hS => ?_)
      refine lv_iload_n hx hb dX6_target_34 rfl (lv_at hl 0 rfl) ?_
      exact ag_iret hx hb hr rfl hlocks hS (congrArg Prod.fst (Option.some.inj hf)) (congrArg Prod.snd (Option.some.inj hf) ▸ hW) dX6_target_35
    · have hf := ag_t c19 hf
      refine lv_iconst (v := 0) hx hb dX6_target_22 (by decide) ?_
      exact ag_iret hx hb hr rfl hlocks hS (congrArg Prod.fst (Option.some.inj hf)) (congrArg Prod.snd (Option.some.inj hf) ▸ hW) dX6_target_23
def f_X6_month_L43 (fu : Nat) (rc26 : Int32 → Int32 → ag_S → Option (Int32 × ag_S)) : Nat → Int32 → Int32 → Int32 → ag_S → Option (Int32 × ag_S)
  | 0, _, _, _, _ => none
  | nf + 1, x1, x2, x3, s => if s 6 20 0 ≤ x3 then (ag_bd (f_X6_fill fu s) fun r94 => rc26 x1 (x2 + 1) r94) else (if x3 < 0 ∨ 40 ≤ x3.toNatClampNeg then none else if s 57 0 x3 = 0 then (if x3 < 0 ∨ 40 ≤ x3.toNatClampNeg then none else if s 6 1 0 ≤ s 56 0 x3 then (f_X6_month_L43 fu rc26 nf x1 x2 (x3 + 1) s) else (if x3 < 0 ∨ 40 ≤ x3.toNatClampNeg then none else if s 58 0 x3 = 0 then (ag_bd (f_X6_withdraw fu x3 s) fun r84 => f_X6_month_L43 fu rc26 nf x1 x2 (x3 + 1) r84) else (f_X6_month_L43 fu rc26 nf x1 x2 (x3 + 1) s))) else (f_X6_month_L43 fu rc26 nf x1 x2 (x3 + 1) s))
def f_X6_month_L26 (fu : Nat) : Nat → Int32 → Int32 → ag_S → Option (Int32 × ag_S)
  | 0, _, _, _ => none
  | nf + 1, x1, x2, s => if x1 ≤ x2 then (some (s 6 1 0, s)) else (f_X6_month_L43 fu (f_X6_month_L26 fu nf) fu x1 x2 0 (ag_up s 6 1 0 ((s 6 1 0) + 1)))
def f_X6_month (fu : Nat) (x1 : Int32) (s : ag_S) : Option (Int32 × ag_S) := ag_bd (f_X6_in fu x1 1 24 s) fun r5 => if r5 = 0 then (ag_bd (f_X6_goesWell fu 1 s) fun r16 => if r16.1 = 0 then (some (0, r16.2)) else (f_X6_month_L26 fu fu x1 0 r16.2)) else (ag_bd (f_X6_goesWell fu 0 s) fun r16 => if r16.1 = 0 then (some (0, r16.2)) else (f_X6_month_L26 fu fu x1 0 r16.2))
abbrev rm_X6_month : Room := { frames := 4, cells := 0, slots := 0, locals := 95 }
theorem dd_yX6_month : yX6_month.cls = RX6 ∧ yX6_month.cls ≠ "java/lang/invoke/MethodHandle" ∧ yX6_month.cls ≠ "java/lang/invoke/VarHandle" ∧ (parseMethodDescriptor yX6_month.desc).map (fun d => d.parameters.length) = some 1 := by decide +kernel
set_option maxHeartbeats 4000000 in
set_option maxRecDepth 100000 in
theorem c_X6_month {z : ag_Z} {l : Launch} {n : ag_N} {p : ag_P} {s : ag_S} {fu : Nat} {x1 : Int32} {out : Int32 × ag_S} (t6 : vp_in 0 (n 6)) (hf : f_X6_month fu x1 s = some out) : Met l yX6_month (ag_ws yX6_month cX6_month 4 ((some FieldType.int))) rm_X6_month (va_Pc [.ref (p 6 0), .int x1] (ag_Pre z n p s)) (ag_Ri z n p out.1 out.2) 0 0 (ag_A z) := by
  refine Met.ofW (cc := cX6_month) (maxL := 4) (ret := (some FieldType.int)) (by decide) rfl ?_
  intro p0 e st m args below meth c s9 B hml hv
  obtain ⟨ha, h0, hG, hW⟩ := hv
  have hx := B.exec
  have hb := B.bytes
  have hr := B.returns
  have hts := atoms_spec (ws := ag_ws yX6_month cX6_month 4 ((some FieldType.int))) B.pre
  have hT : ∀ w ∈ ag_tbl, w.before args st = true := fun w h => hts w (List.mem_cons_of_mem _ h)
  have hown : st.vm.findClass RX6 = some m.cls := findClass_of_methodNamed B.named
  have hlocks := B.notSynchronized
  have hS : va_S (ag_A z) st.heap st.heap [] := va_S.rf
  obtain ⟨ls, hls, hl⟩ : ∃ ls, entryFrame m args 4 = F0 m 0 ls [] ∧ lv_has ls 4 [(0, .ref (p 6 0)), (1, .int x1)] := by rw [ha]; exact ag_entry m [.ref (p 6 0), .int x1] (Nat.le_of_ble_eq_true rfl)
  rw [hls]
  have k43 : ∀ (rc26 : Int32 → Int32 → ag_S → Option (Int32 × ag_S)) (hrc26 : ∀ (x1 : Int32) (x2 : Int32) (s : ag_S) (H : Heap) (locs : List Loc) (ls : Array Slot), ag_W z n p s H → va_S (ag_A z) st.heap H locs → lv_has ls 4 [(0, .ref (p 6 0)), (1, .int x1), (2, .int x2)] → rc26 x1 x2 s = some out → W p0 l e (headSpec (ag_ws yX6_month cX6_month 4 ((some FieldType.int))) rm_X6_month).room st m args below meth c H locs 0 0 (MQ below (ag_Ri z n p out.1 out.2) args st 0 0 (ag_A z)) (F0 m 26 ls [])) (nf : Nat) (x1 : Int32) (x2 : Int32) (x3 : Int32) (s : ag_S) (H : Heap) (locs : List Loc) (ls : Array Slot), ag_W z n p s H → va_S (ag_A z) st.heap H locs → lv_has ls 4 [(0, .ref (p 6 0)), (1, .int x1), (2, .int x2), (3, .int x3)] → f_X6_month_L43 fu rc26 nf x1 x2 x3 s = some out → W p0 l e (headSpec (ag_ws yX6_month cX6_month 4 ((some FieldType.int))) rm_X6_month).room st m args below meth c H locs 0 0 (MQ below (ag_Ri z n p out.1 out.2) args st 0 0 (ag_A z)) (F0 m 43 ls []) := by
    intro rc26 hrc26 nf
    induction nf with
    | zero => intro x1 x2 x3 s H locs ls hW hS hl hf; rw [f_X6_month_L43] at hf; cases hf
    | succ nf ih =>
      intro x1 x2 x3 s H locs ls hW hS hl hf
      rw [f_X6_month_L43] at hf
      refine lv_iload_n hx hb dX6_month_43 rfl (lv_at hl 3 rfl) ?_
      refine lv_aload_n hx hb dX6_month_44 rfl (lv_at hl 0 rfl) ?_
      refine g6_20 hx hb hT hown hG hW t6 q808 dX6_month_45 ?_
      refine lv_icmp_ge (tgt := 93) hx hb dX6_month_48 (by decide) (fun c48 => ?_) (fun c48 => ?_)
      · have hf := ag_t c48 hf
        refine lv_aload_n hx hb dX6_month_93 rfl (lv_at hl 0 rfl) ?_
        obtain ⟨r94, hg94, hf⟩ := ag_bs hf
        refine ag_cVv hx hb hml hT hown hG h0 hS hW (c_X6_fill t6 hg94) ⟨rfl, rfl⟩ q1017 q1019 qs42 q11 q1020 dd_yX6_fill ⟨Nat.le_of_ble_eq_true rfl, Nat.le_of_ble_eq_true rfl⟩ t6 rfl rfl hl.1 rfl (Nat.le_of_ble_eq_true rfl) ⟨Nat.le_of_ble_eq_true rfl, Nat.le_of_ble_eq_true rfl⟩ dX6_month_94 (fun H locs hW hS => ?_)
        refine lv_iinc (v := x2 + 1) (lv' := [(2, .int (x2 + 1)), (0, .ref (p 6 0)), (1, .int x1), (3, .int x3)]) hx hb dX6_month_97 hl (k := 2) rfl rfl (by decide) rfl (fun ls hl => ?_)
        refine lv_goto (tgt := 26) hx hb dX6_month_100 (by decide) ?_
        exact hrc26 _ _ _ _ _ _ hW hS (lv_sub hl [1, 2, 0] rfl) hf
      · have hf := ag_f c48 hf
        refine lv_aload_n hx hb dX6_month_51 rfl (lv_at hl 0 rfl) ?_
        refine g6_27 hx hb hT hown hG hW t6 q815 dX6_month_52 ?_
        have t57 := ag_fix hW (k := 6) (f := 27) (t := 57) t6 rfl rfl
        refine lv_iload_n hx hb dX6_month_55 rfl (lv_at hl 3 rfl) ?_
        obtain ⟨a56, hf⟩ := ag_n hf
        refine ag_iald hx hb hG hW t57 rfl rfl a56 dX6_month_56 ?_
        refine lv_if_ne (tgt := 87) hx hb dX6_month_57 (by decide) (fun c57 => ?_) (fun c57 => ?_)
        · have hf := ag_f c57 hf
          refine lv_iinc (v := x3 + 1) (lv' := [(3, .int (x3 + 1)), (0, .ref (p 6 0)), (1, .int x1), (2, .int x2)]) hx hb dX6_month_87 hl (k := 3) rfl rfl (by decide) rfl (fun ls hl => ?_)
          refine lv_goto (tgt := 43) hx hb dX6_month_90 (by decide) ?_
          exact ih _ _ _ _ _ _ _ hW hS (lv_sub hl [1, 2, 3, 0] rfl) hf
        · have hf := ag_t c57 hf
          refine lv_aload_n hx hb dX6_month_60 rfl (lv_at hl 0 rfl) ?_
          refine g6_26 hx hb hT hown hG hW t6 q814 dX6_month_61 ?_
          have t56 := ag_fix hW (k := 6) (f := 26) (t := 56) t6 rfl rfl
          refine lv_iload_n hx hb dX6_month_64 rfl (lv_at hl 3 rfl) ?_
          obtain ⟨a65, hf⟩ := ag_n hf
          refine ag_iald hx hb hG hW t56 rfl rfl a65 dX6_month_65 ?_
          refine lv_aload_n hx hb dX6_month_66 rfl (lv_at hl 0 rfl) ?_
          refine g6_1 hx hb hT hown hG hW t6 q789 dX6_month_67 ?_
          refine lv_icmp_ge (tgt := 87) hx hb dX6_month_70 (by decide) (fun c70 => ?_) (fun c70 => ?_)
          · have hf := ag_t c70 hf
            refine lv_iinc (v := x3 + 1) (lv' := [(3, .int (x3 + 1)), (0, .ref (p 6 0)), (1, .int x1), (2, .int x2)]) hx hb dX6_month_87 hl (k := 3) rfl rfl (by decide) rfl (fun ls hl => ?_)
            refine lv_goto (tgt := 43) hx hb dX6_month_90 (by decide) ?_
            exact ih _ _ _ _ _ _ _ hW hS (lv_sub hl [1, 2, 3, 0] rfl) hf
          · have hf := ag_f c70 hf
            refine lv_aload_n hx hb dX6_month_73 rfl (lv_at hl 0 rfl) ?_
            refine g6_28 hx hb hT hown hG hW t6 q816 dX6_month_74 ?_
            have t58 := ag_fix hW (k := 6) (f := 28) (t := 58) t6 rfl rfl
            refine lv_iload_n hx hb dX6_month_77 rfl (lv_at hl 3 rfl) ?_
            obtain ⟨a78, hf⟩ := ag_n hf
            refine ag_zald hx hb hG hW t58 rfl rfl a78 dX6_month_78 ?_
            refine lv_if_ne (tgt := 87) hx hb dX6_month_79 (by decide) (fun c79 => ?_) (fun c79 => ?_)
            · have hf := ag_f c79 hf
              refine lv_iinc (v := x3 + 1) (lv' := [(3, .int (x3 + 1)), (0, .ref (p 6 0)), (1, .int x1), (2, .int x2)]) hx hb dX6_month_87 hl (k := 3) rfl rfl (by decide) rfl (fun ls hl => ?_)
              refine lv_goto (tgt := 43) hx hb dX6_month_90 (by decide) ?_
              exact ih _ _ _ _ _ _ _ hW hS (lv_sub hl [1, 2, 3, 0] rfl) hf
            · have hf := ag_t c79 hf
              refine lv_aload_n hx hb dX6_month_82 rfl (lv_at hl 0 rfl) ?_
              refine lv_iload_n hx hb dX6_month_83 rfl (lv_at hl 3 rfl) ?_
              obtain ⟨r84, hg84, hf⟩ := ag_bs hf
              refine ag_cVv hx hb hml hT hown hG h0 hS hW (c_X6_withdraw t6 hg84) ⟨rfl, rfl⟩ q969 q971 qs39 q11 q972 dd_yX6_withdraw ⟨Nat.le_of_ble_eq_true rfl, Nat.le_of_ble_eq_true rfl⟩ t6 rfl rfl hl.1 rfl (Nat.le_of_ble_eq_true rfl) ⟨Nat.le_of_ble_eq_true rfl, Nat.le_of_ble_eq_true rfl⟩ dX6_month_84 (fun H locs hW hS => ?_)
              refine lv_iinc (v := x3 + 1) (lv' := [(3, .int (x3 + 1)), (0, .ref (p 6 0)), (1, .int x1), (2, .int x2)]) hx hb dX6_month_87 hl (k := 3) rfl rfl (by decide) rfl (fun ls hl => ?_)
              refine lv_goto (tgt := 43) hx hb dX6_month_90 (by decide) ?_
              exact ih _ _ _ _ _ _ _ hW hS (lv_sub hl [1, 2, 3, 0] rfl) hf
  have k26 : ∀ (nf : Nat) (x1 : Int32) (x2 : Int32) (s : ag_S) (H : Heap) (locs : List Loc) (ls : Array Slot), ag_W z n p s H → va_S (ag_A z) st.heap H locs → lv_has ls 4 [(0, .ref (p 6 0)), (1, .int x1), (2, .int x2)] → f_X6_month_L26 fu nf x1 x2 s = some out → W p0 l e (headSpec (ag_ws yX6_month cX6_month 4 ((some FieldType.int))) rm_X6_month).room st m args below meth c H locs 0 0 (MQ below (ag_Ri z n p out.1 out.2) args st 0 0 (ag_A z)) (F0 m 26 ls []) := by
    intro nf
    induction nf with
    | zero => intro x1 x2 s H locs ls hW hS hl hf; rw [f_X6_month_L26] at hf; cases hf
    | succ nf ih =>
      intro x1 x2 s H locs ls hW hS hl hf
      rw [f_X6_month_L26] at hf
      refine lv_iload_n hx hb dX6_month_26 rfl (lv_at hl 2 rfl) ?_
      refine lv_iload_n hx hb dX6_month_27 rfl (lv_at hl 1 rfl) ?_
      refine lv_icmp_ge (tgt := 103) hx hb dX6_month_28 (by decide) (fun c28 => ?_) (fun c28 => ?_)
      · have hf := ag_t c28 hf
        refine lv_aload_n hx hb dX6_month_103 rfl (lv_at hl 0 rfl) ?_
        refine g6_1 hx hb hT hown hG hW t6 q789 dX6_month_104 ?_
        exact ag_iret hx hb hr rfl hlocks hS (congrArg Prod.fst (Option.some.inj hf)) (congrArg Prod.snd (Option.some.inj hf) ▸ hW) dX6_month_107
      · have hf := ag_f c28 hf
        refine lv_aload_n hx hb dX6_month_31 rfl (lv_at hl 0 rfl) ?_
        refine lv_dup hx hb dX6_month_32 rfl ?_
        refine g6_1 hx hb hT hown hG hW t6 q789 dX6_month_33 ?_
        refine lv_iconst (v := 1) hx hb dX6_month_36 (by decide) ?_
        refine lv_iadd hx hb dX6_month_37 ?_
        refine u6_1 hx hb hT hown hG hW hS t6 q789 dX6_month_38 (fun H locs hW hS => ?_)
        refine lv_iconst (v := 0) hx hb dX6_month_41 (by decide) ?_
        refine lv_istore_n (lv' := [(3, .int 0), (0, .ref (p 6 0)), (1, .int x1), (2, .int x2)]) hx hb dX6_month_42 rfl hl (by decide) rfl (fun ls hl => ?_)
        exact k43 (f_X6_month_L26 fu nf) ih fu _ _ _ _ _ _ _ hW hS (lv_sub hl [1, 2, 3, 0] rfl) hf
  unfold f_X6_month at hf
  refine lv_aload_n hx hb dX6_month_0 rfl (lv_at hl 0 rfl) ?_
  refine lv_iload_n hx hb dX6_month_1 rfl (lv_at hl 1 rfl) ?_
  refine lv_iconst (v := 1) hx hb dX6_month_2 (by decide) ?_
  refine lv_bipush (v := 24) hx hb dX6_month_3 (by decide) ?_
  obtain ⟨r5, hg5, hf⟩ := ag_bs hf
  refine ag_cSi hx hb hml hT hown hG h0 hS hW (c_X6_in hg5) ⟨rfl, rfl⟩ q892 q893 q11 q894 dd_yX6_in ⟨Nat.le_of_ble_eq_true rfl, Nat.le_of_ble_eq_true rfl⟩ hl.1 rfl (Nat.le_of_ble_eq_true rfl) ⟨Nat.le_of_ble_eq_true rfl, Nat.le_of_ble_eq_true rfl⟩ dX6_month_5 (fun H locs hW hS => ?_)
  refine lv_if_eq (tgt := 15) hx hb dX6_month_8 (by decide) (fun c8 => ?_) (fun c8 => ?_)
  · have hf := ag_t c8 hf
    refine lv_iconst (v := 1) hx hb dX6_month_15 (by decide) ?_
    obtain ⟨r16, hg16, hf⟩ := ag_bs hf
    refine ag_cVi hx hb hml hT hown hG h0 hS hW (c_X6_goesWell t6 hg16) ⟨rfl, rfl⟩ q896 q898 qs27 q11 q899 dd_yX6_goesWell ⟨Nat.le_of_ble_eq_true rfl, Nat.le_of_ble_eq_true rfl⟩ t6 rfl rfl hl.1 rfl (Nat.le_of_ble_eq_true rfl) ⟨Nat.le_of_ble_eq_true rfl, Nat.le_of_ble_eq_true rfl⟩ dX6_month_16 (fun H locs hW hS => ?_)
    refine lv_if_ne (tgt := 24) hx hb dX6_month_19 (by decide) (fun c19 => ?_) (fun c19 => ?_)
    · have hf := ag_f c19 hf
      refine lv_iconst (v := 0) hx hb dX6_month_24 (by decide) ?_
      refine lv_istore_n (lv' := [(2, .int 0), (0, .ref (p 6 0)), (1, .int x1)]) hx hb dX6_month_25 rfl hl (by decide) rfl (fun ls hl => ?_)
      exact k26 fu _ _ _ _ _ _ hW hS (lv_sub hl [1, 2, 0] rfl) hf
    · have hf := ag_t c19 hf
      refine lv_iconst (v := 0) hx hb dX6_month_22 (by decide) ?_
      exact ag_iret hx hb hr rfl hlocks hS (congrArg Prod.fst (Option.some.inj hf)) (congrArg Prod.snd (Option.some.inj hf) ▸ hW) dX6_month_23
  · have hf := ag_f c8 hf
    refine lv_iconst (v := 0) hx hb dX6_month_11 (by decide) ?_
    refine lv_goto (tgt := 16) hx hb dX6_month_12 (by decide) ?_
    obtain ⟨r16, hg16, hf⟩ := ag_bs hf
    refine ag_cVi hx hb hml hT hown hG h0 hS hW (c_X6_goesWell t6 hg16) ⟨rfl, rfl⟩ q896 q898 qs27 q11 q899 dd_yX6_goesWell ⟨Nat.le_of_ble_eq_true rfl, Nat.le_of_ble_eq_true rfl⟩ t6 rfl rfl hl.1 rfl (Nat.le_of_ble_eq_true rfl) ⟨Nat.le_of_ble_eq_true rfl, Nat.le_of_ble_eq_true rfl⟩ dX6_month_16 (fun H locs hW hS => ?_)
    refine lv_if_ne (tgt := 24) hx hb dX6_month_19 (by decide) (fun c19 => ?_) (fun c19 => ?_)
    · have hf := ag_f c19 hf
      refine lv_iconst (v := 0) hx hb dX6_month_24 (by decide) ?_
      refine lv_istore_n (lv' := [(2, .int 0), (0, .ref (p 6 0)), (1, .int x1)]) hx hb dX6_month_25 rfl hl (by decide) rfl (fun ls hl => ?_)
      exact k26 fu _ _ _ _ _ _ hW hS (lv_sub hl [1, 2, 0] rfl) hf
    · have hf := ag_t c19 hf
      refine lv_iconst (v := 0) hx hb dX6_month_22 (by decide) ?_
      exact ag_iret hx hb hr rfl hlocks hS (congrArg Prod.fst (Option.some.inj hf)) (congrArg Prod.snd (Option.some.inj hf) ▸ hW) dX6_month_23
