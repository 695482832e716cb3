def f_X6_withdraw (fu : Nat) (x1 : Int32) (s : ag_S) : Option ag_S := if x1 < 0 ∨ 40 ≤ x1.toNatClampNeg then none else if x1 < 0 ∨ 40 ≤ x1.toNatClampNeg then none else if (ag_up s 57 0 x1 2) 52 0 x1 < 0 ∨ 8 ≤ ((ag_up s 57 0 x1 2) 52 0 x1).toNatClampNeg then none else if x1 < 0 ∨ 40 ≤ x1.toNatClampNeg then none else if (ag_up s 57 0 x1 2) 52 0 x1 < 0 ∨ 8 ≤ ((ag_up s 57 0 x1 2) 52 0 x1).toNatClampNeg then none else some (ag_up (ag_up s 57 0 x1 2) 36 0 ((ag_up s 57 0 x1 2) 52 0 x1) (((ag_up s 57 0 x1 2) 36 0 ((ag_up s 57 0 x1 2) 52 0 x1)) + ((ag_up s 57 0 x1 2) 54 0 x1)))
abbrev rm_X6_withdraw : Room := { frames := 0, cells := 0, slots := 0, locals := 0 }
theorem dd_yX6_withdraw : yX6_withdraw.cls = RX6 ∧ yX6_withdraw.cls ≠ "java/lang/invoke/MethodHandle" ∧ yX6_withdraw.cls ≠ "java/lang/invoke/VarHandle" ∧ (parseMethodDescriptor yX6_withdraw.desc).map (fun d => d.parameters.length) = some 1 := by decide +kernel
set_option maxHeartbeats 4000000 in
set_option maxRecDepth 100000 in
theorem c_X6_withdraw {z : ag_Z} {l : Launch} {n : ag_N} {p : ag_P} {s : ag_S} {fu : Nat} {x1 : Int32} {out : ag_S} (t6 : vp_in 0 (n 6)) (hf : f_X6_withdraw fu x1 s = some out) : Met l yX6_withdraw (ag_ws yX6_withdraw cX6_withdraw 2 ((none))) rm_X6_withdraw (va_Pc [.ref (p 6 0), .int x1] (ag_Pre z n p s)) (ag_Rv z n p out) 0 0 (ag_A z) := by
  refine Met.ofW (cc := cX6_withdraw) (maxL := 2) (ret := (none)) (by decide) rfl ?_
  intro p0 e st m args below meth c s9 B hml hv
  obtain ⟨ha, h0, hG, hW⟩ := hv
  have hx := B.exec
  have hb := B.bytes
  have hr := B.returns
  have hts := atoms_spec (ws := ag_ws yX6_withdraw cX6_withdraw 2 ((none))) B.pre
  have hT : ∀ w ∈ ag_tbl, w.before args st = true := fun w h => hts w (List.mem_cons_of_mem _ h)
  have hown : st.vm.findClass RX6 = some m.cls := findClass_of_methodNamed B.named
  have hlocks := B.notSynchronized
  have hS : va_S (ag_A z) st.heap st.heap [] := va_S.rf
  obtain ⟨ls, hls, hl⟩ : ∃ ls, entryFrame m args 2 = F0 m 0 ls [] ∧ lv_has ls 2 [(0, .ref (p 6 0)), (1, .int x1)] := by rw [ha]; exact ag_entry m [.ref (p 6 0), .int x1] (Nat.le_of_ble_eq_true rfl)
  rw [hls]
  unfold f_X6_withdraw at hf
  refine lv_aload_n hx hb dX6_withdraw_0 rfl (lv_at hl 0 rfl) ?_
  refine g6_27 hx hb hT hown hG hW t6 q815 dX6_withdraw_1 ?_
  have t57 := ag_fix hW (k := 6) (f := 27) (t := 57) t6 rfl rfl
  refine lv_iload_n hx hb dX6_withdraw_4 rfl (lv_at hl 1 rfl) ?_
  refine lv_iconst (v := 2) hx hb dX6_withdraw_5 (by decide) ?_
  obtain ⟨a6, hf⟩ := ag_n hf
  refine ag_iast hx hb hG hW hS t57 rfl rfl (by decide) a6 dX6_withdraw_6 (fun H locs hW hS => ?_)
  refine lv_aload_n hx hb dX6_withdraw_7 rfl (lv_at hl 0 rfl) ?_
  refine g6_6 hx hb hT hown hG hW t6 q794 dX6_withdraw_8 ?_
  have t36 := ag_fix hW (k := 6) (f := 6) (t := 36) t6 rfl rfl
  refine lv_aload_n hx hb dX6_withdraw_11 rfl (lv_at hl 0 rfl) ?_
  refine g6_22 hx hb hT hown hG hW t6 q810 dX6_withdraw_12 ?_
  have t52 := ag_fix hW (k := 6) (f := 22) (t := 52) t6 rfl rfl
  refine lv_iload_n hx hb dX6_withdraw_15 rfl (lv_at hl 1 rfl) ?_
  obtain ⟨a16, hf⟩ := ag_n hf
  refine ag_iald hx hb hG hW t52 rfl rfl a16 dX6_withdraw_16 ?_
  refine lv_dup2_11 hx hb dX6_withdraw_17 rfl rfl ?_
  obtain ⟨a18, hf⟩ := ag_n hf
  refine ag_iald hx hb hG hW t36 rfl rfl a18 dX6_withdraw_18 ?_
  refine lv_aload_n hx hb dX6_withdraw_19 rfl (lv_at hl 0 rfl) ?_
  refine g6_24 hx hb hT hown hG hW t6 q812 dX6_withdraw_20 ?_
  have t54 := ag_fix hW (k := 6) (f := 24) (t := 54) t6 rfl rfl
  refine lv_iload_n hx hb dX6_withdraw_23 rfl (lv_at hl 1 rfl) ?_
  obtain ⟨a24, hf⟩ := ag_n hf
  refine ag_iald hx hb hG hW t54 rfl rfl a24 dX6_withdraw_24 ?_
  refine lv_iadd hx hb dX6_withdraw_25 ?_
  obtain ⟨a26, hf⟩ := ag_n hf
  refine ag_iast hx hb hG hW hS t36 rfl rfl (by decide) a26 dX6_withdraw_26 (fun H locs hW hS => ?_)
  exact ag_vret hx hb hr hlocks hS (Option.some.inj hf ▸ hW) dX6_withdraw_27
def f_X6_look_L9 (fu : Nat) : Nat → Int32 → Int32 → Int32 → ag_S → Option (Int32 × ag_S)
  | 0, _, _, _, _ => none
  | nf + 1, x1, x2, x3, s => if x3 < 0 then (ag_bd (f_X6_free fu x1 s) fun r70 => if -r70.1 ≤ 0 then (some (x2, r70.2)) else (if x1 < 0 ∨ 10 ≤ x1.toNatClampNeg then none else if x1 < 0 ∨ 10 ≤ x1.toNatClampNeg then none else some (x2, (ag_up (ag_up r70.2 41 0 x1 ((r70.2 41 0 x1) + (-r70.1))) 6 2 0 (((ag_up r70.2 41 0 x1 ((r70.2 41 0 x1) + (-r70.1))) 6 2 0) - (-r70.1)))))) else (if x3 < 0 ∨ 40 ≤ x3.toNatClampNeg then none else if s 51 0 x3 = x1 then (if x3 < 0 ∨ 40 ≤ x3.toNatClampNeg then none else if s 57 0 x3 = 0 then (ag_bd (f_X6_free fu x1 s) fun r34 => if (0 : Int32) ≤ r34.1 then (f_X6_look_L9 fu nf x1 x2 (x3 + (-1)) r34.2) else (if x3 < 0 ∨ 40 ≤ x3.toNatClampNeg then none else if x3 < 0 ∨ 40 ≤ x3.toNatClampNeg then none else if x3 < 0 ∨ 40 ≤ x3.toNatClampNeg then none else f_X6_look_L9 fu nf x1 (x2 + 1) (x3 + (-1)) (ag_up (ag_up r34.2 57 0 x3 1) 53 0 x3 ((ag_up r34.2 57 0 x3 1) 54 0 x3)))) else (f_X6_look_L9 fu nf x1 x2 (x3 + (-1)) s)) else (f_X6_look_L9 fu nf x1 x2 (x3 + (-1)) s))
def f_X6_look (fu : Nat) (x1 : Int32) (s : ag_S) : Option (Int32 × ag_S) := f_X6_look_L9 fu fu x1 0 ((s 6 20 0) - 1) s
abbrev rm_X6_look : Room := { frames := 3, cells := 0, slots := 0, locals := 66 }
theorem dd_yX6_look : yX6_look.cls = RX6 ∧ yX6_look.cls ≠ "java/lang/invoke/MethodHandle" ∧ yX6_look.cls ≠ "java/lang/invoke/VarHandle" ∧ (parseMethodDescriptor yX6_look.desc).map (fun d => d.parameters.length) = some 1 := by decide +kernel
set_option maxHeartbeats 4000000 in
set_option maxRecDepth 100000 in
theorem c_X6_look {z : ag_Z} {l : Launch} {n : ag_N} {p : ag_P} {s : ag_S} {fu : Nat} {x1 : Int32} {out : Int32 × ag_S} (t6 : vp_in 0 (n 6)) (hf : f_X6_look fu x1 s = some out) : Met l yX6_look (ag_ws yX6_look cX6_look 4 ((some FieldType.int))) rm_X6_look (va_Pc [.ref (p 6 0), .int x1] (ag_Pre z n p s)) (ag_Ri z n p out.1 out.2) 0 0 (ag_A z) := by
  refine Met.ofW (cc := cX6_look) (maxL := 4) (ret := (some FieldType.int)) (by decide) rfl ?_
  intro p0 e st m args below meth c s9 B hml hv
  obtain ⟨ha, h0, hG, hW⟩ := hv
  have hx := B.exec
  have hb := B.bytes
  have hr := B.returns
  have hts := atoms_spec (ws := ag_ws yX6_look cX6_look 4 ((some FieldType.int))) B.pre
  have hT : ∀ w ∈ ag_tbl, w.before args st = true := fun w h => hts w (List.mem_cons_of_mem _ h)
  have hown : st.vm.findClass RX6 = some m.cls := findClass_of_methodNamed B.named
  have hlocks := B.notSynchronized
  have hS : va_S (ag_A z) st.heap st.heap [] := va_S.rf
  obtain ⟨ls, hls, hl⟩ : ∃ ls, entryFrame m args 4 = F0 m 0 ls [] ∧ lv_has ls 4 [(0, .ref (p 6 0)), (1, .int x1)] := by rw [ha]; exact ag_entry m [.ref (p 6 0), .int x1] (Nat.le_of_ble_eq_true rfl)
  rw [hls]
  have k9 : ∀ (nf : Nat) (x1 : Int32) (x2 : Int32) (x3 : Int32) (s : ag_S) (H : Heap) (locs : List Loc) (ls : Array Slot), ag_W z n p s H → va_S (ag_A z) st.heap H locs → lv_has ls 4 [(0, .ref (p 6 0)), (1, .int x1), (2, .int x2), (3, .int x3)] → f_X6_look_L9 fu nf x1 x2 x3 s = some out → W p0 l e (headSpec (ag_ws yX6_look cX6_look 4 ((some FieldType.int))) rm_X6_look).room st m args below meth c H locs 0 0 (MQ below (ag_Ri z n p out.1 out.2) args st 0 0 (ag_A z)) (F0 m 9 ls []) := by
    intro nf
    induction nf with
    | zero => intro x1 x2 x3 s H locs ls hW hS hl hf; rw [f_X6_look_L9] at hf; cases hf
    | succ nf ih =>
      intro x1 x2 x3 s H locs ls hW hS hl hf
      rw [f_X6_look_L9] at hf
      refine lv_iload_n hx hb dX6_look_9 rfl (lv_at hl 3 rfl) ?_
      refine lv_if_lt (tgt := 68) hx hb dX6_look_10 (by decide) (fun c10 => ?_) (fun c10 => ?_)
      · have hf := ag_t c10 hf
        refine lv_aload_n hx hb dX6_look_68 rfl (lv_at hl 0 rfl) ?_
        refine lv_iload_n hx hb dX6_look_69 rfl (lv_at hl 1 rfl) ?_
        obtain ⟨r70, hg70, hf⟩ := ag_bs hf
        refine ag_cVi hx hb hml hT hown hG h0 hS hW (c_X6_free t6 hg70) ⟨rfl, rfl⟩ q949 q951 qs34 q11 q952 dd_yX6_free ⟨Nat.le_of_ble_eq_true rfl, Nat.le_of_ble_eq_true rfl⟩ t6 rfl rfl hl.1 rfl (Nat.le_of_ble_eq_true rfl) ⟨Nat.le_of_ble_eq_true rfl, Nat.le_of_ble_eq_true rfl⟩ dX6_look_70 (fun H locs hW hS => ?_)
        refine lv_ineg hx hb dX6_look_73 ?_
        refine lv_istore_n (lv' := [(3, .int (-r70.1)), (0, .ref (p 6 0)), (1, .int x1), (2, .int x2)]) hx hb dX6_look_74 rfl hl (by decide) rfl (fun ls hl => ?_)
        refine lv_iload_n hx hb dX6_look_75 rfl (lv_at hl 0 rfl) ?_
        refine lv_if_le (tgt := 99) hx hb dX6_look_76 (by decide) (fun c76 => ?_) (fun c76 => ?_)
        · have hf := ag_t c76 hf
          refine lv_iload_n hx hb dX6_look_99 rfl (lv_at hl 3 rfl) ?_
          exact ag_iret hx hb hr rfl hlocks hS (congrArg Prod.fst (Option.some.inj hf)) (congrArg Prod.snd (Option.some.inj hf) ▸ hW) dX6_look_100
        · have hf := ag_f c76 hf
          refine lv_aload_n hx hb dX6_look_79 rfl (lv_at hl 1 rfl) ?_
          refine g6_11 hx hb hT hown hG hW t6 q799 dX6_look_80 ?_
          have t41 := ag_fix hW (k := 6) (f := 11) (t := 41) t6 rfl rfl
          refine lv_iload_n hx hb dX6_look_83 rfl (lv_at hl 2 rfl) ?_
          refine lv_dup2_11 hx hb dX6_look_84 rfl rfl ?_
          obtain ⟨a85, hf⟩ := ag_n hf
          refine ag_iald hx hb hG hW t41 rfl rfl a85 dX6_look_85 ?_
          refine lv_iload_n hx hb dX6_look_86 rfl (lv_at hl 0 rfl) ?_
          refine lv_iadd hx hb dX6_look_87 ?_
          obtain ⟨a88, hf⟩ := ag_n hf
          refine ag_iast hx hb hG hW hS t41 rfl rfl (by decide) a88 dX6_look_88 (fun H locs hW hS => ?_)
          refine lv_aload_n hx hb dX6_look_89 rfl (lv_at hl 1 rfl) ?_
          refine lv_dup hx hb dX6_look_90 rfl ?_
          refine g6_2 hx hb hT hown hG hW t6 q790 dX6_look_91 ?_
          refine lv_iload_n hx hb dX6_look_94 rfl (lv_at hl 0 rfl) ?_
          refine lv_isub hx hb dX6_look_95 ?_
          refine u6_2 hx hb hT hown hG hW hS t6 q790 dX6_look_96 (fun H locs hW hS => ?_)
          refine lv_iload_n hx hb dX6_look_99 rfl (lv_at hl 3 rfl) ?_
          exact ag_iret hx hb hr rfl hlocks hS (congrArg Prod.fst (Option.some.inj hf)) (congrArg Prod.snd (Option.some.inj hf) ▸ hW) dX6_look_100
      · have hf := ag_f c10 hf
        refine lv_aload_n hx hb dX6_look_13 rfl (lv_at hl 0 rfl) ?_
        refine g6_21 hx hb hT hown hG hW t6 q809 dX6_look_14 ?_
        have t51 := ag_fix hW (k := 6) (f := 21) (t := 51) t6 rfl rfl
        refine lv_iload_n hx hb dX6_look_17 rfl (lv_at hl 3 rfl) ?_
        obtain ⟨a18, hf⟩ := ag_n hf
        refine ag_iald hx hb hG hW t51 rfl rfl a18 dX6_look_18 ?_
        refine lv_iload_n hx hb dX6_look_19 rfl (lv_at hl 1 rfl) ?_
        refine lv_icmp_ne (tgt := 62) hx hb dX6_look_20 (by decide) (fun c20 => ?_) (fun c20 => ?_)
        · have hf := ag_f c20 hf
          refine lv_iinc (v := x3 + (-1)) (lv' := [(3, .int (x3 + (-1))), (0, .ref (p 6 0)), (1, .int x1), (2, .int x2)]) hx hb dX6_look_62 hl (k := 3) rfl rfl (by decide) rfl (fun ls hl => ?_)
          refine lv_goto (tgt := 9) hx hb dX6_look_65 (by decide) ?_
          exact ih _ _ _ _ _ _ _ hW hS (lv_sub hl [1, 2, 3, 0] rfl) hf
        · have hf := ag_t c20 hf
          refine lv_aload_n hx hb dX6_look_23 rfl (lv_at hl 0 rfl) ?_
          refine g6_27 hx hb hT hown hG hW t6 q815 dX6_look_24 ?_
          have t57 := ag_fix hW (k := 6) (f := 27) (t := 57) t6 rfl rfl
          refine lv_iload_n hx hb dX6_look_27 rfl (lv_at hl 3 rfl) ?_
          obtain ⟨a28, hf⟩ := ag_n hf
          refine ag_iald hx hb hG hW t57 rfl rfl a28 dX6_look_28 ?_
          refine lv_if_ne (tgt := 62) hx hb dX6_look_29 (by decide) (fun c29 => ?_) (fun c29 => ?_)
          · have hf := ag_f c29 hf
            refine lv_iinc (v := x3 + (-1)) (lv' := [(3, .int (x3 + (-1))), (0, .ref (p 6 0)), (1, .int x1), (2, .int x2)]) hx hb dX6_look_62 hl (k := 3) rfl rfl (by decide) rfl (fun ls hl => ?_)
            refine lv_goto (tgt := 9) hx hb dX6_look_65 (by decide) ?_
            exact ih _ _ _ _ _ _ _ hW hS (lv_sub hl [1, 2, 3, 0] rfl) hf
          · have hf := ag_t c29 hf
            refine lv_aload_n hx hb dX6_look_32 rfl (lv_at hl 0 rfl) ?_
            refine lv_iload_n hx hb dX6_look_33 rfl (lv_at hl 1 rfl) ?_
            obtain ⟨r34, hg34, hf⟩ := ag_bs hf
            refine ag_cVi hx hb hml hT hown hG h0 hS hW (c_X6_free t6 hg34) ⟨rfl, rfl⟩ q949 q951 qs34 q11 q952 dd_yX6_free ⟨Nat.le_of_ble_eq_true rfl, Nat.le_of_ble_eq_true rfl⟩ t6 rfl rfl hl.1 rfl (Nat.le_of_ble_eq_true rfl) ⟨Nat.le_of_ble_eq_true rfl, Nat.le_of_ble_eq_true rfl⟩ dX6_look_34 (fun H locs hW hS => ?_)
            refine lv_if_ge (tgt := 62) hx hb dX6_look_37 (by decide) (fun c37 => ?_) (fun c37 => ?_)
            · have hf := ag_t c37 hf
              refine lv_iinc (v := x3 + (-1)) (lv' := [(3, .int (x3 + (-1))), (0, .ref (p 6 0)), (1, .int x1), (2, .int x2)]) hx hb dX6_look_62 hl (k := 3) rfl rfl (by decide) rfl (fun ls hl => ?_)
              refine lv_goto (tgt := 9) hx hb dX6_look_65 (by decide) ?_
              exact ih _ _ _ _ _ _ _ hW hS (lv_sub hl [1, 2, 3, 0] rfl) hf
            · have hf := ag_f c37 hf
              refine lv_aload_n hx hb dX6_look_40 rfl (lv_at hl 0 rfl) ?_
              refine g6_27 hx hb hT hown hG hW t6 q815 dX6_look_41 ?_
              have t57 := ag_fix hW (k := 6) (f := 27) (t := 57) t6 rfl rfl
              refine lv_iload_n hx hb dX6_look_44 rfl (lv_at hl 3 rfl) ?_
              refine lv_iconst (v := 1) hx hb dX6_look_45 (by decide) ?_
              obtain ⟨a46, hf⟩ := ag_n hf
              refine ag_iast hx hb hG hW hS t57 rfl rfl (by decide) a46 dX6_look_46 (fun H locs hW hS => ?_)
              refine lv_aload_n hx hb dX6_look_47 rfl (lv_at hl 0 rfl) ?_
              refine g6_23 hx hb hT hown hG hW t6 q811 dX6_look_48 ?_
              have t53 := ag_fix hW (k := 6) (f := 23) (t := 53) t6 rfl rfl
              refine lv_iload_n hx hb dX6_look_51 rfl (lv_at hl 3 rfl) ?_
              refine lv_aload_n hx hb dX6_look_52 rfl (lv_at hl 0 rfl) ?_
              refine g6_24 hx hb hT hown hG hW t6 q812 dX6_look_53 ?_
              have t54 := ag_fix hW (k := 6) (f := 24) (t := 54) t6 rfl rfl
              refine lv_iload_n hx hb dX6_look_56 rfl (lv_at hl 3 rfl) ?_
              obtain ⟨a57, hf⟩ := ag_n hf
              refine ag_iald hx hb hG hW t54 rfl rfl a57 dX6_look_57 ?_
              obtain ⟨a58, hf⟩ := ag_n hf
              refine ag_iast hx hb hG hW hS t53 rfl rfl (by decide) a58 dX6_look_58 (fun H locs hW hS => ?_)
              refine lv_iinc (v := x2 + 1) (lv' := [(2, .int (x2 + 1)), (0, .ref (p 6 0)), (1, .int x1), (3, .int x3)]) hx hb dX6_look_59 hl (k := 2) rfl rfl (by decide) rfl (fun ls hl => ?_)
              refine lv_iinc (v := x3 + (-1)) (lv' := [(3, .int (x3 + (-1))), (2, .int (x2 + 1)), (0, .ref (p 6 0)), (1, .int x1)]) hx hb dX6_look_62 hl (k := 3) rfl rfl (by decide) rfl (fun ls hl => ?_)
              refine lv_goto (tgt := 9) hx hb dX6_look_65 (by decide) ?_
              exact ih _ _ _ _ _ _ _ hW hS (lv_sub hl [2, 3, 1, 0] rfl) hf
  unfold f_X6_look at hf
  refine lv_iconst (v := 0) hx hb dX6_look_0 (by decide) ?_
  refine lv_istore_n (lv' := [(2, .int 0), (0, .ref (p 6 0)), (1, .int x1)]) hx hb dX6_look_1 rfl hl (by decide) rfl (fun ls hl => ?_)
  refine lv_aload_n hx hb dX6_look_2 rfl (lv_at hl 1 rfl) ?_
  refine g6_20 hx hb hT hown hG hW t6 q808 dX6_look_3 ?_
  refine lv_iconst (v := 1) hx hb dX6_look_6 (by decide) ?_
  refine lv_isub hx hb dX6_look_7 ?_
  refine lv_istore_n (lv' := [(3, .int ((s 6 20 0) - 1)), (2, .int 0), (0, .ref (p 6 0)), (1, .int x1)]) hx hb dX6_look_8 rfl hl (by decide) rfl (fun ls hl => ?_)
  exact k9 fu _ _ _ _ _ _ _ hW hS (lv_sub hl [2, 3, 1, 0] rfl) hf
def f_X6_fall_L85 (fu : Nat) (rc7 : Int32 → Int32 → Int32 → Int32 → ag_S → Option (Int32 × ag_S)) : Nat → Int32 → Int32 → Int32 → Int32 → Int32 → Int32 → ag_S → Option (Int32 × ag_S)
  | 0, _, _, _, _, _, _, _ => none
  | nf + 1, x1, x2, x3, x4, x5, x6, s => if s 6 20 0 ≤ x6 then (if x5 = 0 then (if x4 < 0 ∨ 40 ≤ x4.toNatClampNeg then none else if x4 < 0 ∨ 40 ≤ x4.toNatClampNeg then none else rc7 x1 x2 x3 (x4 + 1) (ag_up s 47 0 x4 (s 47 0 x4))) else (if x4 < 0 ∨ 40 ≤ x4.toNatClampNeg then none else rc7 x1 x2 x3 (x4 + 1) (ag_up s 47 0 x4 2))) else (if x6 < 0 ∨ 40 ≤ x6.toNatClampNeg then none else if s 55 0 x6 = x4 then (if x6 < 0 ∨ 40 ≤ x6.toNatClampNeg then none else if s 57 0 x6 = 0 then (ag_bd (f_X6_withdraw fu x6 s) fun r119 => f_X6_fall_L85 fu rc7 nf x1 x2 (x3 + 1) x4 x5 (x6 + 1) r119) else (f_X6_fall_L85 fu rc7 nf x1 x2 x3 x4 x5 (x6 + 1) s)) else (f_X6_fall_L85 fu rc7 nf x1 x2 x3 x4 x5 (x6 + 1) s))
def f_X6_fall_b53 (fu : Nat) (rc7 : Int32 → Int32 → Int32 → Int32 → ag_S → Option (Int32 × ag_S)) (x1 : Int32) (x2 : Int32) (x3 : Int32) (x4 : Int32) (y0 : Int32) (s : ag_S) : Option (Int32 × ag_S) := if x4 < 0 ∨ 40 ≤ x4.toNatClampNeg then none else if y0 = 0 then (if y0 = 0 then (if x4 < 0 ∨ 40 ≤ x4.toNatClampNeg then none else if x4 < 0 ∨ 40 ≤ x4.toNatClampNeg then none else rc7 x1 x2 x3 (x4 + 1) (ag_up (ag_up s 60 0 x4 y0) 47 0 x4 ((ag_up s 60 0 x4 y0) 47 0 x4))) else (if x4 < 0 ∨ 40 ≤ x4.toNatClampNeg then none else rc7 x1 x2 x3 (x4 + 1) (ag_up (ag_up s 60 0 x4 y0) 47 0 x4 2))) else (if x4 < 0 ∨ 40 ≤ x4.toNatClampNeg then none else if (ag_up s 60 0 x4 y0) 47 0 x4 = 1 then (f_X6_fall_L85 fu rc7 fu x1 1 x3 x4 y0 0 (ag_up s 60 0 x4 y0)) else (if y0 = 0 then (if x4 < 0 ∨ 40 ≤ x4.toNatClampNeg then none else if x4 < 0 ∨ 40 ≤ x4.toNatClampNeg then none else rc7 x1 x2 x3 (x4 + 1) (ag_up (ag_up s 60 0 x4 y0) 47 0 x4 ((ag_up s 60 0 x4 y0) 47 0 x4))) else (if x4 < 0 ∨ 40 ≤ x4.toNatClampNeg then none else rc7 x1 x2 x3 (x4 + 1) (ag_up (ag_up s 60 0 x4 y0) 47 0 x4 2))))
def f_X6_fall_b48 (fu : Nat) (rc7 : Int32 → Int32 → Int32 → Int32 → ag_S → Option (Int32 × ag_S)) (x1 : Int32) (x2 : Int32) (x3 : Int32) (x4 : Int32) (s : ag_S) : Option (Int32 × ag_S) := f_X6_fall_b53 fu rc7 x1 x2 x3 x4 1 s
def f_X6_fall_b52 (fu : Nat) (rc7 : Int32 → Int32 → Int32 → Int32 → ag_S → Option (Int32 × ag_S)) (x1 : Int32) (x2 : Int32) (x3 : Int32) (x4 : Int32) (s : ag_S) : Option (Int32 × ag_S) := f_X6_fall_b53 fu rc7 x1 x2 x3 x4 0 s
def f_X6_fall_L7 (fu : Nat) : Nat → Int32 → Int32 → Int32 → Int32 → ag_S → Option (Int32 × ag_S)
  | 0, _, _, _, _, _ => none
  | nf + 1, x1, x2, x3, x4, s => if s 6 13 0 ≤ x4 then (if x2 = 0 then (some (x3, s)) else (if x1 < 0 ∨ 40 ≤ x1.toNatClampNeg then none else ag_bd (f_X6_look fu (s 45 0 x1) s) fun r172 => some (x3 + r172.1, r172.2))) else (if x4 = x1 then (f_X6_fall_b48 fu (f_X6_fall_L7 fu nf) x1 x2 x3 x4 s) else (if x4 < 0 ∨ 40 ≤ x4.toNatClampNeg then none else if s 44 0 x4 < x1 then (f_X6_fall_b52 fu (f_X6_fall_L7 fu nf) x1 x2 x3 x4 s) else (if x4 < 0 ∨ 40 ≤ x4.toNatClampNeg then none else if s 44 0 x4 < 0 ∨ 40 ≤ (s 44 0 x4).toNatClampNeg then none else if s 60 0 (s 44 0 x4) = 0 then (f_X6_fall_b52 fu (f_X6_fall_L7 fu nf) x1 x2 x3 x4 s) else (f_X6_fall_b48 fu (f_X6_fall_L7 fu nf) x1 x2 x3 x4 s))))
def f_X6_fall (fu : Nat) (x1 : Int32) (s : ag_S) : Option (Int32 × ag_S) := f_X6_fall_L7 fu fu x1 0 0 x1 s
abbrev rm_X6_fall : Room := { frames := 4, cells := 0, slots := 0, locals := 89 }
theorem dd_yX6_fall : yX6_fall.cls = RX6 ∧ yX6_fall.cls ≠ "java/lang/invoke/MethodHandle" ∧ yX6_fall.cls ≠ "java/lang/invoke/VarHandle" ∧ (parseMethodDescriptor yX6_fall.desc).map (fun d => d.parameters.length) = some 1 := by decide +kernel
set_option maxHeartbeats 4000000 in
set_option maxRecDepth 100000 in
theorem c_X6_fall {z : ag_Z} {l : Launch} {n : ag_N} {p : ag_P} {s : ag_S} {fu : Nat} {x1 : Int32} {out : Int32 × ag_S} (t6 : vp_in 0 (n 6)) (hf : f_X6_fall fu x1 s = some out) : Met l yX6_fall (ag_ws yX6_fall cX6_fall 7 ((some FieldType.int))) rm_X6_fall (va_Pc [.ref (p 6 0), .int x1] (ag_Pre z n p s)) (ag_Ri z n p out.1 out.2) 0 0 (ag_A z) := by
  refine Met.ofW (cc := cX6_fall) (maxL := 7) (ret := (some FieldType.int)) (by decide) rfl ?_
  intro p0 e st m args below meth c s9 B hml hv
  obtain ⟨ha, h0, hG, hW⟩ := hv
  have hx := B.exec
  have hb := B.bytes
  have hr := B.returns
  have hts := atoms_spec (ws := ag_ws yX6_fall cX6_fall 7 ((some FieldType.int))) B.pre
  have hT : ∀ w ∈ ag_tbl, w.before args st = true := fun w h => hts w (List.mem_cons_of_mem _ h)
  have hown : st.vm.findClass RX6 = some m.cls := findClass_of_methodNamed B.named
  have hlocks := B.notSynchronized
  have hS : va_S (ag_A z) st.heap st.heap [] := va_S.rf
  obtain ⟨ls, hls, hl⟩ : ∃ ls, entryFrame m args 7 = F0 m 0 ls [] ∧ lv_has ls 7 [(0, .ref (p 6 0)), (1, .int x1)] := by rw [ha]; exact ag_entry m [.ref (p 6 0), .int x1] (Nat.le_of_ble_eq_true rfl)
  rw [hls]
  have k85 : ∀ (rc7 : Int32 → Int32 → Int32 → Int32 → ag_S → Option (Int32 × ag_S)) (hrc7 : ∀ (x1 : Int32) (x2 : Int32) (x3 : Int32) (x4 : Int32) (s : ag_S) (H : Heap) (locs : List Loc) (ls : Array Slot) (bx2 : x2 = 0 ∨ x2 = 1), ag_W z n p s H → va_S (ag_A z) st.heap H locs → lv_has ls 7 [(0, .ref (p 6 0)), (1, .int x1), (2, .int x2), (3, .int x3), (4, .int x4)] → rc7 x1 x2 x3 x4 s = some out → W p0 l e (headSpec (ag_ws yX6_fall cX6_fall 7 ((some FieldType.int))) rm_X6_fall).room st m args below meth c H locs 0 0 (MQ below (ag_Ri z n p out.1 out.2) args st 0 0 (ag_A z)) (F0 m 7 ls [])) (nf : Nat) (x1 : Int32) (x2 : Int32) (x3 : Int32) (x4 : Int32) (x5 : Int32) (x6 : Int32) (s : ag_S) (H : Heap) (locs : List Loc) (ls : Array Slot) (bx2 : x2 = 0 ∨ x2 = 1) (bx5 : x5 = 0 ∨ x5 = 1), ag_W z n p s H → va_S (ag_A z) st.heap H locs → lv_has ls 7 [(0, .ref (p 6 0)), (1, .int x1), (2, .int x2), (3, .int x3), (4, .int x4), (5, .int x5), (6, .int x6)] → f_X6_fall_L85 fu rc7 nf x1 x2 x3 x4 x5 x6 s = some out → W p0 l e (headSpec (ag_ws yX6_fall cX6_fall 7 ((some FieldType.int))) rm_X6_fall).room st m args below meth c H locs 0 0 (MQ below (ag_Ri z n p out.1 out.2) args st 0 0 (ag_A z)) (F0 m 85 ls []) := by
    intro rc7 hrc7 nf
    induction nf with
    | zero => intro x1 x2 x3 x4 x5 x6 s H locs ls bx2 bx5 hW hS hl hf; rw [f_X6_fall_L85] at hf; cases hf
    | succ nf ih =>
      intro x1 x2 x3 x4 x5 x6 s H locs ls bx2 bx5 hW hS hl hf
      rw [f_X6_fall_L85] at hf
      refine lv_iload hx hb dX6_fall_85 (lv_at hl 6 rfl) ?_
      refine lv_aload_n hx hb dX6_fall_87 rfl (lv_at hl 0 rfl) ?_
      refine g6_20 hx hb hT hown hG hW t6 q808 dX6_fall_88 ?_
      refine lv_icmp_ge (tgt := 131) hx hb dX6_fall_91 (by decide) (fun c91 => ?_) (fun c91 => ?_)
      · have hf := ag_t c91 hf
        refine lv_aload_n hx hb dX6_fall_131 rfl (lv_at hl 0 rfl) ?_
        refine g6_17 hx hb hT hown hG hW t6 q805 dX6_fall_132 ?_
        have t47 := ag_fix hW (k := 6) (f := 17) (t := 47) t6 rfl rfl
        refine lv_iload hx hb dX6_fall_135 (lv_at hl 4 rfl) ?_
        refine lv_iload hx hb dX6_fall_137 (lv_at hl 5 rfl) ?_
        refine lv_if_eq (tgt := 146) hx hb dX6_fall_139 (by decide) (fun c139 => ?_) (fun c139 => ?_)
        · have hf := ag_t c139 hf
          refine lv_aload_n hx hb dX6_fall_146 rfl (lv_at hl 0 rfl) ?_
          refine g6_17 hx hb hT hown hG hW t6 q805 dX6_fall_147 ?_
          have t47 := ag_fix hW (k := 6) (f := 17) (t := 47) t6 rfl rfl
          refine lv_iload hx hb dX6_fall_150 (lv_at hl 4 rfl) ?_
          obtain ⟨a152, hf⟩ := ag_n hf
          refine ag_iald hx hb hG hW t47 rfl rfl a152 dX6_fall_152 ?_
          obtain ⟨a153, hf⟩ := ag_n hf
          refine ag_iast hx hb hG hW hS t47 rfl rfl (by decide) a153 dX6_fall_153 (fun H locs hW hS => ?_)
          refine lv_iinc (v := x4 + 1) (lv' := [(4, .int (x4 + 1)), (0, .ref (p 6 0)), (1, .int x1), (2, .int x2), (3, .int x3), (5, .int x5), (6, .int x6)]) hx hb dX6_fall_154 hl (k := 4) rfl rfl (by decide) rfl (fun ls hl => ?_)
          refine lv_goto (tgt := 7) hx hb dX6_fall_157 (by decide) ?_
          exact hrc7 _ _ _ _ _ _ _ _ bx2 hW hS (lv_sub hl [1, 2, 3, 4, 0] rfl) hf
        · have hf := ag_f c139 hf
          refine lv_iconst (v := 2) hx hb dX6_fall_142 (by decide) ?_
          refine lv_goto (tgt := 153) hx hb dX6_fall_143 (by decide) ?_
          obtain ⟨a153, hf⟩ := ag_n hf
          refine ag_iast hx hb hG hW hS t47 rfl rfl (by decide) a153 dX6_fall_153 (fun H locs hW hS => ?_)
          refine lv_iinc (v := x4 + 1) (lv' := [(4, .int (x4 + 1)), (0, .ref (p 6 0)), (1, .int x1), (2, .int x2), (3, .int x3), (5, .int x5), (6, .int x6)]) hx hb dX6_fall_154 hl (k := 4) rfl rfl (by decide) rfl (fun ls hl => ?_)
          refine lv_goto (tgt := 7) hx hb dX6_fall_157 (by decide) ?_
          exact hrc7 _ _ _ _ _ _ _ _ bx2 hW hS (lv_sub hl [1, 2, 3, 4, 0] rfl) hf
      · have hf := ag_f c91 hf
        refine lv_aload_n hx hb dX6_fall_94 rfl (lv_at hl 0 rfl) ?_
        refine g6_25 hx hb hT hown hG hW t6 q813 dX6_fall_95 ?_
        have t55 := ag_fix hW (k := 6) (f := 25) (t := 55) t6 rfl rfl
        refine lv_iload hx hb dX6_fall_98 (lv_at hl 6 rfl) ?_
        obtain ⟨a100, hf⟩ := ag_n hf
        refine ag_iald hx hb hG hW t55 rfl rfl a100 dX6_fall_100 ?_
        refine lv_iload hx hb dX6_fall_101 (lv_at hl 4 rfl) ?_
        refine lv_icmp_ne (tgt := 125) hx hb dX6_fall_103 (by decide) (fun c103 => ?_) (fun c103 => ?_)
        · have hf := ag_f c103 hf
          refine lv_iinc (v := x6 + 1) (lv' := [(6, .int (x6 + 1)), (0, .ref (p 6 0)), (1, .int x1), (2, .int x2), (3, .int x3), (4, .int x4), (5, .int x5)]) hx hb dX6_fall_125 hl (k := 6) rfl rfl (by decide) rfl (fun ls hl => ?_)
          refine lv_goto (tgt := 85) hx hb dX6_fall_128 (by decide) ?_
          exact ih _ _ _ _ _ _ _ _ _ _ bx2 bx5 hW hS (lv_sub hl [1, 2, 3, 4, 5, 6, 0] rfl) hf
        · have hf := ag_t c103 hf
          refine lv_aload_n hx hb dX6_fall_106 rfl (lv_at hl 0 rfl) ?_
          refine g6_27 hx hb hT hown hG hW t6 q815 dX6_fall_107 ?_
          have t57 := ag_fix hW (k := 6) (f := 27) (t := 57) t6 rfl rfl
          refine lv_iload hx hb dX6_fall_110 (lv_at hl 6 rfl) ?_
          obtain ⟨a112, hf⟩ := ag_n hf
          refine ag_iald hx hb hG hW t57 rfl rfl a112 dX6_fall_112 ?_
          refine lv_if_ne (tgt := 125) hx hb dX6_fall_113 (by decide) (fun c113 => ?_) (fun c113 => ?_)
          · have hf := ag_f c113 hf
            refine lv_iinc (v := x6 + 1) (lv' := [(6, .int (x6 + 1)), (0, .ref (p 6 0)), (1, .int x1), (2, .int x2), (3, .int x3), (4, .int x4), (5, .int x5)]) hx hb dX6_fall_125 hl (k := 6) rfl rfl (by decide) rfl (fun ls hl => ?_)
            refine lv_goto (tgt := 85) hx hb dX6_fall_128 (by decide) ?_
            exact ih _ _ _ _ _ _ _ _ _ _ bx2 bx5 hW hS (lv_sub hl [1, 2, 3, 4, 5, 6, 0] rfl) hf
          · have hf := ag_t c113 hf
            refine lv_aload_n hx hb dX6_fall_116 rfl (lv_at hl 0 rfl) ?_
            refine lv_iload hx hb dX6_fall_117 (lv_at hl 6 rfl) ?_
            obtain ⟨r119, hg119, hf⟩ := ag_bs hf
            refine ag_cVv hx hb hml hT hown hG h0 hS hW (c_X6_withdraw t6 hg119) ⟨rfl, rfl⟩ q969 q971 qs39 q11 q972 dd_yX6_withdraw ⟨Nat.le_of_ble_eq_true rfl, Nat.le_of_ble_eq_true rfl⟩ t6 rfl rfl hl.1 rfl (Nat.le_of_ble_eq_true rfl) ⟨Nat.le_of_ble_eq_true rfl, Nat.le_of_ble_eq_true rfl⟩ dX6_fall_119 (fun H locs hW hS => ?_)
            refine lv_iinc (v := x3 + 1) (lv' := [(3, .int (x3 + 1)), (0, .ref (p 6 0)), (1, .int x1), (2, .int x2), (4, .int x4), (5, .int x5), (6, .int x6)]) hx hb dX6_fall_122 hl (k := 3) rfl rfl (by decide) rfl (fun ls hl => ?_)
            refine lv_iinc (v := x6 + 1) (lv' := [(6, .int (x6 + 1)), (3, .int (x3 + 1)), (0, .ref (p 6 0)), (1, .int x1), (2, .int x2), (4, .int x4), (5, .int x5)]) hx hb dX6_fall_125 hl (k := 6) rfl rfl (by decide) rfl (fun ls hl => ?_)
            refine lv_goto (tgt := 85) hx hb dX6_fall_128 (by decide) ?_
            exact ih _ _ _ _ _ _ _ _ _ _ bx2 bx5 hW hS (lv_sub hl [2, 3, 4, 1, 5, 6, 0] rfl) hf
  have k53 : ∀ (rc7 : Int32 → Int32 → Int32 → Int32 → ag_S → Option (Int32 × ag_S)) (hrc7 : ∀ (x1 : Int32) (x2 : Int32) (x3 : Int32) (x4 : Int32) (s : ag_S) (H : Heap) (locs : List Loc) (ls : Array Slot) (bx2 : x2 = 0 ∨ x2 = 1), ag_W z n p s H → va_S (ag_A z) st.heap H locs → lv_has ls 7 [(0, .ref (p 6 0)), (1, .int x1), (2, .int x2), (3, .int x3), (4, .int x4)] → rc7 x1 x2 x3 x4 s = some out → W p0 l e (headSpec (ag_ws yX6_fall cX6_fall 7 ((some FieldType.int))) rm_X6_fall).room st m args below meth c H locs 0 0 (MQ below (ag_Ri z n p out.1 out.2) args st 0 0 (ag_A z)) (F0 m 7 ls [])) (x1 : Int32) (x2 : Int32) (x3 : Int32) (x4 : Int32) (y0 : Int32) (s : ag_S) (H : Heap) (locs : List Loc) (ls : Array Slot) (bx2 : x2 = 0 ∨ x2 = 1) (by0 : y0 = 0 ∨ y0 = 1), ag_W z n p s H → va_S (ag_A z) st.heap H locs → lv_has ls 7 [(0, .ref (p 6 0)), (1, .int x1), (2, .int x2), (3, .int x3), (4, .int x4)] → f_X6_fall_b53 fu rc7 x1 x2 x3 x4 y0 s = some out → W p0 l e (headSpec (ag_ws yX6_fall cX6_fall 7 ((some FieldType.int))) rm_X6_fall).room st m args below meth c H locs 0 0 (MQ below (ag_Ri z n p out.1 out.2) args st 0 0 (ag_A z)) (F0 m 53 ls [.int y0]) := by
    intro rc7 hrc7 x1 x2 x3 x4 y0 s H locs ls bx2 by0 hW hS hl hf
    unfold f_X6_fall_b53 at hf
    refine lv_istore (lv' := [(5, .int y0), (0, .ref (p 6 0)), (1, .int x1), (2, .int x2), (3, .int x3), (4, .int x4)]) hx hb dX6_fall_53 hl (by decide) rfl (fun ls hl => ?_)
    refine lv_aload_n hx hb dX6_fall_55 rfl (lv_at hl 1 rfl) ?_
    refine g6_30 hx hb hT hown hG hW t6 q818 dX6_fall_56 ?_
    have t60 := ag_fix hW (k := 6) (f := 30) (t := 60) t6 rfl rfl
    refine lv_iload hx hb dX6_fall_59 (lv_at hl 5 rfl) ?_
    refine lv_iload hx hb dX6_fall_61 (lv_at hl 0 rfl) ?_
    obtain ⟨a63, hf⟩ := ag_n hf
    refine ag_zast hx hb hG hW hS t60 rfl rfl (by decide) a63 (ag_nb by0).1 dX6_fall_63 (fun H locs hW hS => ?_)
    refine lv_iload hx hb dX6_fall_64 (lv_at hl 0 rfl) ?_
    refine lv_if_eq (tgt := 131) hx hb dX6_fall_66 (by decide) (fun c66 => ?_) (fun c66 => ?_)
    · have hf := ag_t c66 hf
      refine lv_aload_n hx hb dX6_fall_131 rfl (lv_at hl 1 rfl) ?_
      refine g6_17 hx hb hT hown hG hW t6 q805 dX6_fall_132 ?_
      have t47 := ag_fix hW (k := 6) (f := 17) (t := 47) t6 rfl rfl
      refine lv_iload hx hb dX6_fall_135 (lv_at hl 5 rfl) ?_
      refine lv_iload hx hb dX6_fall_137 (lv_at hl 0 rfl) ?_
      refine lv_if_eq (tgt := 146) hx hb dX6_fall_139 (by decide) (fun c139 => ?_) (fun c139 => ?_)
      · have hf := ag_t c139 hf
        refine lv_aload_n hx hb dX6_fall_146 rfl (lv_at hl 1 rfl) ?_
        refine g6_17 hx hb hT hown hG hW t6 q805 dX6_fall_147 ?_
        have t47 := ag_fix hW (k := 6) (f := 17) (t := 47) t6 rfl rfl
        refine lv_iload hx hb dX6_fall_150 (lv_at hl 5 rfl) ?_
        obtain ⟨a152, hf⟩ := ag_n hf
        refine ag_iald hx hb hG hW t47 rfl rfl a152 dX6_fall_152 ?_
        obtain ⟨a153, hf⟩ := ag_n hf
        refine ag_iast hx hb hG hW hS t47 rfl rfl (by decide) a153 dX6_fall_153 (fun H locs hW hS => ?_)
        refine lv_iinc (v := x4 + 1) (lv' := [(4, .int (x4 + 1)), (5, .int y0), (0, .ref (p 6 0)), (1, .int x1), (2, .int x2), (3, .int x3)]) hx hb dX6_fall_154 hl (k := 5) rfl rfl (by decide) rfl (fun ls hl => ?_)
        refine lv_goto (tgt := 7) hx hb dX6_fall_157 (by decide) ?_
        exact hrc7 _ _ _ _ _ _ _ _ bx2 hW hS (lv_sub hl [2, 3, 4, 5, 0] rfl) hf
      · have hf := ag_f c139 hf
        refine lv_iconst (v := 2) hx hb dX6_fall_142 (by decide) ?_
        refine lv_goto (tgt := 153) hx hb dX6_fall_143 (by decide) ?_
        obtain ⟨a153, hf⟩ := ag_n hf
        refine ag_iast hx hb hG hW hS t47 rfl rfl (by decide) a153 dX6_fall_153 (fun H locs hW hS => ?_)
        refine lv_iinc (v := x4 + 1) (lv' := [(4, .int (x4 + 1)), (5, .int y0), (0, .ref (p 6 0)), (1, .int x1), (2, .int x2), (3, .int x3)]) hx hb dX6_fall_154 hl (k := 5) rfl rfl (by decide) rfl (fun ls hl => ?_)
        refine lv_goto (tgt := 7) hx hb dX6_fall_157 (by decide) ?_
        exact hrc7 _ _ _ _ _ _ _ _ bx2 hW hS (lv_sub hl [2, 3, 4, 5, 0] rfl) hf
    · have hf := ag_f c66 hf
      refine lv_aload_n hx hb dX6_fall_69 rfl (lv_at hl 1 rfl) ?_
      refine g6_17 hx hb hT hown hG hW t6 q805 dX6_fall_70 ?_
      have t47 := ag_fix hW (k := 6) (f := 17) (t := 47) t6 rfl rfl
      refine lv_iload hx hb dX6_fall_73 (lv_at hl 5 rfl) ?_
      obtain ⟨a75, hf⟩ := ag_n hf
      refine ag_iald hx hb hG hW t47 rfl rfl a75 dX6_fall_75 ?_
      refine lv_iconst (v := 1) hx hb dX6_fall_76 (by decide) ?_
      refine lv_icmp_ne (tgt := 131) hx hb dX6_fall_77 (by decide) (fun c77 => ?_) (fun c77 => ?_)
      · have hf := ag_f c77 hf
        refine lv_aload_n hx hb dX6_fall_131 rfl (lv_at hl 1 rfl) ?_
        refine g6_17 hx hb hT hown hG hW t6 q805 dX6_fall_132 ?_
        have t47 := ag_fix hW (k := 6) (f := 17) (t := 47) t6 rfl rfl
        refine lv_iload hx hb dX6_fall_135 (lv_at hl 5 rfl) ?_
        refine lv_iload hx hb dX6_fall_137 (lv_at hl 0 rfl) ?_
        refine lv_if_eq (tgt := 146) hx hb dX6_fall_139 (by decide) (fun c139 => ?_) (fun c139 => ?_)
        · have hf := ag_t c139 hf
          refine lv_aload_n hx hb dX6_fall_146 rfl (lv_at hl 1 rfl) ?_
          refine g6_17 hx hb hT hown hG hW t6 q805 dX6_fall_147 ?_
          have t47 := ag_fix hW (k := 6) (f := 17) (t := 47) t6 rfl rfl
          refine lv_iload hx hb dX6_fall_150 (lv_at hl 5 rfl) ?_
          obtain ⟨a152, hf⟩ := ag_n hf
          refine ag_iald hx hb hG hW t47 rfl rfl a152 dX6_fall_152 ?_
          obtain ⟨a153, hf⟩ := ag_n hf
          refine ag_iast hx hb hG hW hS t47 rfl rfl (by decide) a153 dX6_fall_153 (fun H locs hW hS => ?_)
          refine lv_iinc (v := x4 + 1) (lv' := [(4, .int (x4 + 1)), (5, .int y0), (0, .ref (p 6 0)), (1, .int x1), (2, .int x2), (3, .int x3)]) hx hb dX6_fall_154 hl (k := 5) rfl rfl (by decide) rfl (fun ls hl => ?_)
          refine lv_goto (tgt := 7) hx hb dX6_fall_157 (by decide) ?_
          exact hrc7 _ _ _ _ _ _ _ _ bx2 hW hS (lv_sub hl [2, 3, 4, 5, 0] rfl) hf
        · have hf := ag_f c139 hf
          refine lv_iconst (v := 2) hx hb dX6_fall_142 (by decide) ?_
          refine lv_goto (tgt := 153) hx hb dX6_fall_143 (by decide) ?_
          obtain ⟨a153, hf⟩ := ag_n hf
          refine ag_iast hx hb hG hW hS t47 rfl rfl (by decide) a153 dX6_fall_153 (fun H locs hW hS => ?_)
          refine lv_iinc (v := x4 + 1) (lv' := [(4, .int (x4 + 1)), (5, .int y0), (0, .ref (p 6 0)), (1, .int x1), (2, .int x2), (3, .int x3)]) hx hb dX6_fall_154 hl (k := 5) rfl rfl (by decide) rfl (fun ls hl => ?_)
          refine lv_goto (tgt := 7) hx hb dX6_fall_157 (by decide) ?_
          exact hrc7 _ _ _ _ _ _ _ _ bx2 hW hS (lv_sub hl [2, 3, 4, 5, 0] rfl) hf
      · have hf := ag_t c77 hf
        refine lv_iconst (v := 1) hx hb dX6_fall_80 (by decide) ?_
        refine lv_istore_n (lv' := [(2, .int 1), (5, .int y0), (0, .ref (p 6 0)), (1, .int x1), (3, .int x3), (4, .int x4)]) hx hb dX6_fall_81 rfl hl (by decide) rfl (fun ls hl => ?_)
        refine lv_iconst (v := 0) hx hb dX6_fall_82 (by decide) ?_
        refine lv_istore (lv' := [(6, .int 0), (2, .int 1), (5, .int y0), (0, .ref (p 6 0)), (1, .int x1), (3, .int x3), (4, .int x4)]) hx hb dX6_fall_83 hl (by decide) rfl (fun ls hl => ?_)
        exact k85 (rc7) hrc7 fu _ _ _ _ _ _ _ _ _ _ (Or.inr rfl) by0 hW hS (lv_sub hl [3, 4, 1, 5, 6, 2, 0] rfl) hf
  have k48 : ∀ (rc7 : Int32 → Int32 → Int32 → Int32 → ag_S → Option (Int32 × ag_S)) (hrc7 : ∀ (x1 : Int32) (x2 : Int32) (x3 : Int32) (x4 : Int32) (s : ag_S) (H : Heap) (locs : List Loc) (ls : Array Slot) (bx2 : x2 = 0 ∨ x2 = 1), ag_W z n p s H → va_S (ag_A z) st.heap H locs → lv_has ls 7 [(0, .ref (p 6 0)), (1, .int x1), (2, .int x2), (3, .int x3), (4, .int x4)] → rc7 x1 x2 x3 x4 s = some out → W p0 l e (headSpec (ag_ws yX6_fall cX6_fall 7 ((some FieldType.int))) rm_X6_fall).room st m args below meth c H locs 0 0 (MQ below (ag_Ri z n p out.1 out.2) args st 0 0 (ag_A z)) (F0 m 7 ls [])) (x1 : Int32) (x2 : Int32) (x3 : Int32) (x4 : Int32) (s : ag_S) (H : Heap) (locs : List Loc) (ls : Array Slot) (bx2 : x2 = 0 ∨ x2 = 1), ag_W z n p s H → va_S (ag_A z) st.heap H locs → lv_has ls 7 [(0, .ref (p 6 0)), (1, .int x1), (2, .int x2), (3, .int x3), (4, .int x4)] → f_X6_fall_b48 fu rc7 x1 x2 x3 x4 s = some out → W p0 l e (headSpec (ag_ws yX6_fall cX6_fall 7 ((some FieldType.int))) rm_X6_fall).room st m args below meth c H locs 0 0 (MQ below (ag_Ri z n p out.1 out.2) args st 0 0 (ag_A z)) (F0 m 48 ls []) := by
    intro rc7 hrc7 x1 x2 x3 x4 s H locs ls bx2 hW hS hl hf
    unfold f_X6_fall_b48 at hf
    refine lv_iconst (v := 1) hx hb dX6_fall_48 (by decide) ?_
    refine lv_goto (tgt := 53) hx hb dX6_fall_49 (by decide) ?_
    exact k53 (rc7) hrc7 _ _ _ _ _ _ _ _ _ bx2 (Or.inr rfl) hW hS (lv_sub hl [0, 1, 2, 3, 4] rfl) hf
  have k52 : ∀ (rc7 : Int32 → Int32 → Int32 → Int32 → ag_S → Option (Int32 × ag_S)) (hrc7 : ∀ (x1 : Int32) (x2 : Int32) (x3 : Int32) (x4 : Int32) (s : ag_S) (H : Heap) (locs : List Loc) (ls : Array Slot) (bx2 : x2 = 0 ∨ x2 = 1), ag_W z n p s H → va_S (ag_A z) st.heap H locs → lv_has ls 7 [(0, .ref (p 6 0)), (1, .int x1), (2, .int x2), (3, .int x3), (4, .int x4)] → rc7 x1 x2 x3 x4 s = some out → W p0 l e (headSpec (ag_ws yX6_fall cX6_fall 7 ((some FieldType.int))) rm_X6_fall).room st m args below meth c H locs 0 0 (MQ below (ag_Ri z n p out.1 out.2) args st 0 0 (ag_A z)) (F0 m 7 ls [])) (x1 : Int32) (x2 : Int32) (x3 : Int32) (x4 : Int32) (s : ag_S) (H : Heap) (locs : List Loc) (ls : Array Slot) (bx2 : x2 = 0 ∨ x2 = 1), ag_W z n p s H → va_S (ag_A z) st.heap H locs → lv_has ls 7 [(0, .ref (p 6 0)), (1, .int x1), (2, .int x2), (3, .int x3), (4, .int x4)] → f_X6_fall_b52 fu rc7 x1 x2 x3 x4 s = some out → W p0 l e (headSpec (ag_ws yX6_fall cX6_fall 7 ((some FieldType.int))) rm_X6_fall).room st m args below meth c H locs 0 0 (MQ below (ag_Ri z n p out.1 out.2) args st 0 0 (ag_A z)) (F0 m 52 ls []) := by
    intro rc7 hrc7 x1 x2 x3 x4 s H locs ls bx2 hW hS hl hf
    unfold f_X6_fall_b52 at hf
    refine lv_iconst (v := 0) hx hb dX6_fall_52 (by decide) ?_
    exact k53 (rc7) hrc7 _ _ _ _ _ _ _ _ _ bx2 (Or.inl rfl) hW hS (lv_sub hl [0, 1, 2, 3, 4] rfl) hf
  have k7 : ∀ (nf : Nat) (x1 : Int32) (x2 : Int32) (x3 : Int32) (x4 : Int32) (s : ag_S) (H : Heap) (locs : List Loc) (ls : Array Slot) (bx2 : x2 = 0 ∨ x2 = 1), ag_W z n p s H → va_S (ag_A z) st.heap H locs → lv_has ls 7 [(0, .ref (p 6 0)), (1, .int x1), (2, .int x2), (3, .int x3), (4, .int x4)] → f_X6_fall_L7 fu nf x1 x2 x3 x4 s = some out → W p0 l e (headSpec (ag_ws yX6_fall cX6_fall 7 ((some FieldType.int))) rm_X6_fall).room st m args below meth c H locs 0 0 (MQ below (ag_Ri z n p out.1 out.2) args st 0 0 (ag_A z)) (F0 m 7 ls []) := by
    intro nf
    induction nf with
    | zero => intro x1 x2 x3 x4 s H locs ls bx2 hW hS hl hf; rw [f_X6_fall_L7] at hf; cases hf
    | succ nf ih =>
      intro x1 x2 x3 x4 s H locs ls bx2 hW hS hl hf
      rw [f_X6_fall_L7] at hf
      refine lv_iload hx hb dX6_fall_7 (lv_at hl 4 rfl) ?_
      refine lv_aload_n hx hb dX6_fall_9 rfl (lv_at hl 0 rfl) ?_
      refine g6_13 hx hb hT hown hG hW t6 q801 dX6_fall_10 ?_
      refine lv_icmp_ge (tgt := 160) hx hb dX6_fall_13 (by decide) (fun c13 => ?_) (fun c13 => ?_)
      · have hf := ag_t c13 hf
        refine lv_iload_n hx hb dX6_fall_160 rfl (lv_at hl 2 rfl) ?_
        refine lv_if_eq (tgt := 179) hx hb dX6_fall_161 (by decide) (fun c161 => ?_) (fun c161 => ?_)
        · have hf := ag_t c161 hf
          refine lv_iload_n hx hb dX6_fall_179 rfl (lv_at hl 3 rfl) ?_
          exact ag_iret hx hb hr rfl hlocks hS (congrArg Prod.fst (Option.some.inj hf)) (congrArg Prod.snd (Option.some.inj hf) ▸ hW) dX6_fall_180
        · have hf := ag_f c161 hf
          refine lv_iload_n hx hb dX6_fall_164 rfl (lv_at hl 3 rfl) ?_
          refine lv_aload_n hx hb dX6_fall_165 rfl (lv_at hl 0 rfl) ?_
          refine lv_aload_n hx hb dX6_fall_166 rfl (lv_at hl 0 rfl) ?_
          refine g6_15 hx hb hT hown hG hW t6 q803 dX6_fall_167 ?_
          have t45 := ag_fix hW (k := 6) (f := 15) (t := 45) t6 rfl rfl
          refine lv_iload_n hx hb dX6_fall_170 rfl (lv_at hl 1 rfl) ?_
          obtain ⟨a171, hf⟩ := ag_n hf
          refine ag_iald hx hb hG hW t45 rfl rfl a171 dX6_fall_171 ?_
          obtain ⟨r172, hg172, hf⟩ := ag_bs hf
          refine ag_cVi hx hb hml hT hown hG h0 hS hW (c_X6_look t6 hg172) ⟨rfl, rfl⟩ q945 q947 qs33 q11 q948 dd_yX6_look ⟨Nat.le_of_ble_eq_true rfl, Nat.le_of_ble_eq_true rfl⟩ t6 rfl rfl hl.1 rfl (Nat.le_of_ble_eq_true rfl) ⟨Nat.le_of_ble_eq_true rfl, Nat.le_of_ble_eq_true rfl⟩ dX6_fall_172 (fun H locs hW hS => ?_)
          refine lv_iadd hx hb dX6_fall_175 ?_
          refine lv_goto (tgt := 180) hx hb dX6_fall_176 (by decide) ?_
          exact ag_iret hx hb hr rfl hlocks hS (congrArg Prod.fst (Option.some.inj hf)) (congrArg Prod.snd (Option.some.inj hf) ▸ hW) dX6_fall_180
      · have hf := ag_f c13 hf
        refine lv_iload hx hb dX6_fall_16 (lv_at hl 4 rfl) ?_
        refine lv_iload_n hx hb dX6_fall_18 rfl (lv_at hl 1 rfl) ?_
        refine lv_icmp_eq (tgt := 48) hx hb dX6_fall_19 (by decide) (fun c19 => ?_) (fun c19 => ?_)
        · have hf := ag_t c19 hf
          exact k48 (f_X6_fall_L7 fu nf) ih _ _ _ _ _ _ _ _ bx2 hW hS (lv_sub hl [0, 1, 2, 3, 4] rfl) hf
        · have hf := ag_f c19 hf
          refine lv_aload_n hx hb dX6_fall_22 rfl (lv_at hl 0 rfl) ?_
          refine g6_14 hx hb hT hown hG hW t6 q802 dX6_fall_23 ?_
          have t44 := ag_fix hW (k := 6) (f := 14) (t := 44) t6 rfl rfl
          refine lv_iload hx hb dX6_fall_26 (lv_at hl 4 rfl) ?_
          obtain ⟨a28, hf⟩ := ag_n hf
          refine ag_iald hx hb hG hW t44 rfl rfl a28 dX6_fall_28 ?_
          refine lv_iload_n hx hb dX6_fall_29 rfl (lv_at hl 1 rfl) ?_
          refine lv_icmp_lt (tgt := 52) hx hb dX6_fall_30 (by decide) (fun c30 => ?_) (fun c30 => ?_)
          · have hf := ag_t c30 hf
            exact k52 (f_X6_fall_L7 fu nf) ih _ _ _ _ _ _ _ _ bx2 hW hS (lv_sub hl [0, 1, 2, 3, 4] rfl) hf
          · have hf := ag_f c30 hf
            refine lv_aload_n hx hb dX6_fall_33 rfl (lv_at hl 0 rfl) ?_
            refine g6_30 hx hb hT hown hG hW t6 q818 dX6_fall_34 ?_
            have t60 := ag_fix hW (k := 6) (f := 30) (t := 60) t6 rfl rfl
            refine lv_aload_n hx hb dX6_fall_37 rfl (lv_at hl 0 rfl) ?_
            refine g6_14 hx hb hT hown hG hW t6 q802 dX6_fall_38 ?_
            have t44 := ag_fix hW (k := 6) (f := 14) (t := 44) t6 rfl rfl
            refine lv_iload hx hb dX6_fall_41 (lv_at hl 4 rfl) ?_
            obtain ⟨a43, hf⟩ := ag_n hf
            refine ag_iald hx hb hG hW t44 rfl rfl a43 dX6_fall_43 ?_
            obtain ⟨a44, hf⟩ := ag_n hf
            refine ag_zald hx hb hG hW t60 rfl rfl a44 dX6_fall_44 ?_
            refine lv_if_eq (tgt := 52) hx hb dX6_fall_45 (by decide) (fun c45 => ?_) (fun c45 => ?_)
            · have hf := ag_t c45 hf
              exact k52 (f_X6_fall_L7 fu nf) ih _ _ _ _ _ _ _ _ bx2 hW hS (lv_sub hl [0, 1, 2, 3, 4] rfl) hf
            · have hf := ag_f c45 hf
              exact k48 (f_X6_fall_L7 fu nf) ih _ _ _ _ _ _ _ _ bx2 hW hS (lv_sub hl [0, 1, 2, 3, 4] rfl) hf
  unfold f_X6_fall at hf
  refine lv_iconst (v := 0) hx hb dX6_fall_0 (by decide) ?_
  refine lv_istore_n (lv' := [(2, .int 0), (0, .ref (p 6 0)), (1, .int x1)]) hx hb dX6_fall_1 rfl hl (by decide) rfl (fun ls hl => ?_)
  refine lv_iconst (v := 0) hx hb dX6_fall_2 (by decide) ?_
  refine lv_istore_n (lv' := [(3, .int 0), (2, .int 0), (0, .ref (p 6 0)), (1, .int x1)]) hx hb dX6_fall_3 rfl hl (by decide) rfl (fun ls hl => ?_)
  refine lv_iload_n hx hb dX6_fall_4 rfl (lv_at hl 3 rfl) ?_
  refine lv_istore (lv' := [(4, .int x1), (3, .int 0), (2, .int 0), (0, .ref (p 6 0)), (1, .int x1)]) hx hb dX6_fall_5 hl (by decide) rfl (fun ls hl => ?_)
  exact k7 fu _ _ _ _ _ _ _ _ (Or.inl rfl) hW hS (lv_sub hl [3, 4, 2, 1, 0] rfl) hf
def f_X6_make (fu : Nat) (x1 : Int32) (x2 : Int32) (x3 : Int32) (s : ag_S) : Option (Int32 × ag_S) := if s 6 13 0 < 0 ∨ 40 ≤ (s 6 13 0).toNatClampNeg then none else if (ag_up s 44 0 (s 6 13 0) x1) 6 13 0 < 0 ∨ 40 ≤ ((ag_up s 44 0 (s 6 13 0) x1) 6 13 0).toNatClampNeg then none else if (ag_up (ag_up s 44 0 (s 6 13 0) x1) 45 0 ((ag_up s 44 0 (s 6 13 0) x1) 6 13 0) x2) 6 13 0 < 0 ∨ 40 ≤ ((ag_up (ag_up s 44 0 (s 6 13 0) x1) 45 0 ((ag_up s 44 0 (s 6 13 0) x1) 6 13 0) x2) 6 13 0).toNatClampNeg then none else if (ag_up (ag_up (ag_up s 44 0 (s 6 13 0) x1) 45 0 ((ag_up s 44 0 (s 6 13 0) x1) 6 13 0) x2) 46 0 ((ag_up (ag_up s 44 0 (s 6 13 0) x1) 45 0 ((ag_up s 44 0 (s 6 13 0) x1) 6 13 0) x2) 6 13 0) x3) 6 13 0 < 0 ∨ 40 ≤ ((ag_up (ag_up (ag_up s 44 0 (s 6 13 0) x1) 45 0 ((ag_up s 44 0 (s 6 13 0) x1) 6 13 0) x2) 46 0 ((ag_up (ag_up s 44 0 (s 6 13 0) x1) 45 0 ((ag_up s 44 0 (s 6 13 0) x1) 6 13 0) x2) 6 13 0) x3) 6 13 0).toNatClampNeg then none else some (((ag_up (ag_up (ag_up (ag_up (ag_up s 44 0 (s 6 13 0) x1) 45 0 ((ag_up s 44 0 (s 6 13 0) x1) 6 13 0) x2) 46 0 ((ag_up (ag_up s 44 0 (s 6 13 0) x1) 45 0 ((ag_up s 44 0 (s 6 13 0) x1) 6 13 0) x2) 6 13 0) x3) 48 0 ((ag_up (ag_up (ag_up s 44 0 (s 6 13 0) x1) 45 0 ((ag_up s 44 0 (s 6 13 0) x1) 6 13 0) x2) 46 0 ((ag_up (ag_up s 44 0 (s 6 13 0) x1) 45 0 ((ag_up s 44 0 (s 6 13 0) x1) 6 13 0) x2) 6 13 0) x3) 6 13 0) 1) 6 13 0 (((ag_up (ag_up (ag_up (ag_up s 44 0 (s 6 13 0) x1) 45 0 ((ag_up s 44 0 (s 6 13 0) x1) 6 13 0) x2) 46 0 ((ag_up (ag_up s 44 0 (s 6 13 0) x1) 45 0 ((ag_up s 44 0 (s 6 13 0) x1) 6 13 0) x2) 6 13 0) x3) 48 0 ((ag_up (ag_up (ag_up s 44 0 (s 6 13 0) x1) 45 0 ((ag_up s 44 0 (s 6 13 0) x1) 6 13 0) x2) 46 0 ((ag_up (ag_up s 44 0 (s 6 13 0) x1) 45 0 ((ag_up s 44 0 (s 6 13 0) x1) 6 13 0) x2) 6 13 0) x3) 6 13 0) 1) 6 13 0) + 1)) 6 13 0) - 1, (ag_up (ag_up (ag_up (ag_up (ag_up s 44 0 (s 6 13 0) x1) 45 0 ((ag_up s 44 0 (s 6 13 0) x1) 6 13 0) x2) 46 0 ((ag_up (ag_up s 44 0 (s 6 13 0) x1) 45 0 ((ag_up s 44 0 (s 6 13 0) x1) 6 13 0) x2) 6 13 0) x3) 48 0 ((ag_up (ag_up (ag_up s 44 0 (s 6 13 0) x1) 45 0 ((ag_up s 44 0 (s 6 13 0) x1) 6 13 0) x2) 46 0 ((ag_up (ag_up s 44 0 (s 6 13 0) x1) 45 0 ((ag_up s 44 0 (s 6 13 0) x1) 6 13 0) x2) 6 13 0) x3) 6 13 0) 1) 6 13 0 (((ag_up (ag_up (ag_up (ag_up s 44 0 (s 6 13 0) x1) 45 0 ((ag_up s 44 0 (s 6 13 0) x1) 6 13 0) x2) 46 0 ((ag_up (ag_up s 44 0 (s 6 13 0) x1) 45 0 ((ag_up s 44 0 (s 6 13 0) x1) 6 13 0) x2) 6 13 0) x3) 48 0 ((ag_up (ag_up (ag_up s 44 0 (s 6 13 0) x1) 45 0 ((ag_up s 44 0 (s 6 13 0) x1) 6 13 0) x2) 46 0 ((ag_up (ag_up s 44 0 (s 6 13 0) x1) 45 0 ((ag_up s 44 0 (s 6 13 0) x1) 6 13 0) x2) 6 13 0) x3) 6 13 0) 1) 6 13 0) + 1)))
abbrev rm_X6_make : Room := { frames := 0, cells := 0, slots := 0, locals := 0 }
theorem dd_yX6_make : yX6_make.cls = RX6 ∧ yX6_make.cls ≠ "java/lang/invoke/MethodHandle" ∧ yX6_make.cls ≠ "java/lang/invoke/VarHandle" ∧ (parseMethodDescriptor yX6_make.desc).map (fun d => d.parameters.length) = some 3 := by decide +kernel
set_option maxHeartbeats 4000000 in
set_option maxRecDepth 100000 in
theorem c_X6_make {z : ag_Z} {l : Launch} {n : ag_N} {p : ag_P} {s : ag_S} {fu : Nat} {x1 : Int32} {x2 : Int32} {x3 : Int32} {out : Int32 × ag_S} (t6 : vp_in 0 (n 6)) (hf : f_X6_make fu x1 x2 x3 s = some out) : Met l yX6_make (ag_ws yX6_make cX6_make 4 ((some FieldType.int))) rm_X6_make (va_Pc [.ref (p 6 0), .int x1, .int x2, .int x3] (ag_Pre z n p s)) (ag_Ri z n p out.1 out.2) 0 0 (ag_A z) := by
  refine Met.ofW (cc := cX6_make) (maxL := 4) (ret := (some FieldType.int)) (by decide) rfl ?_
  intro p0 e st m args below meth c s9 B hml hv
  obtain ⟨ha, h0, hG, hW⟩ := hv
  have hx := B.exec
  have hb := B.bytes
  have hr := B.returns
  have hts := atoms_spec (ws := ag_ws yX6_make cX6_make 4 ((some FieldType.int))) B.pre
  have hT : ∀ w ∈ ag_tbl, w.before args st = true := fun w h => hts w (List.mem_cons_of_mem _ h)
  have hown : st.vm.findClass RX6 = some m.cls := findClass_of_methodNamed B.named
  have hlocks := B.notSynchronized
  have hS : va_S (ag_A z) st.heap st.heap [] := va_S.rf
  obtain ⟨ls, hls, hl⟩ : ∃ ls, entryFrame m args 4 = F0 m 0 ls [] ∧ lv_has ls 4 [(0, .ref (p 6 0)), (1, .int x1), (2, .int x2), (3, .int x3)] := by rw [ha]; exact ag_entry m [.ref (p 6 0), .int x1, .int x2, .int x3] (Nat.le_of_ble_eq_true rfl)
  rw [hls]
  unfold f_X6_make at hf
  refine lv_aload_n hx hb dX6_make_0 rfl (lv_at hl 0 rfl) ?_
  refine g6_14 hx hb hT hown hG hW t6 q802 dX6_make_1 ?_
  have t44 := ag_fix hW (k := 6) (f := 14) (t := 44) t6 rfl rfl
  refine lv_aload_n hx hb dX6_make_4 rfl (lv_at hl 0 rfl) ?_
  refine g6_13 hx hb hT hown hG hW t6 q801 dX6_make_5 ?_
  refine lv_iload_n hx hb dX6_make_8 rfl (lv_at hl 1 rfl) ?_
  obtain ⟨a9, hf⟩ := ag_n hf
  refine ag_iast hx hb hG hW hS t44 rfl rfl (by decide) a9 dX6_make_9 (fun H locs hW hS => ?_)
  refine lv_aload_n hx hb dX6_make_10 rfl (lv_at hl 0 rfl) ?_
  refine g6_15 hx hb hT hown hG hW t6 q803 dX6_make_11 ?_
  have t45 := ag_fix hW (k := 6) (f := 15) (t := 45) t6 rfl rfl
  refine lv_aload_n hx hb dX6_make_14 rfl (lv_at hl 0 rfl) ?_
  refine g6_13 hx hb hT hown hG hW t6 q801 dX6_make_15 ?_
  refine lv_iload_n hx hb dX6_make_18 rfl (lv_at hl 2 rfl) ?_
  obtain ⟨a19, hf⟩ := ag_n hf
  refine ag_iast hx hb hG hW hS t45 rfl rfl (by decide) a19 dX6_make_19 (fun H locs hW hS => ?_)
  refine lv_aload_n hx hb dX6_make_20 rfl (lv_at hl 0 rfl) ?_
  refine g6_16 hx hb hT hown hG hW t6 q804 dX6_make_21 ?_
  have t46 := ag_fix hW (k := 6) (f := 16) (t := 46) t6 rfl rfl
  refine lv_aload_n hx hb dX6_make_24 rfl (lv_at hl 0 rfl) ?_
  refine g6_13 hx hb hT hown hG hW t6 q801 dX6_make_25 ?_
  refine lv_iload_n hx hb dX6_make_28 rfl (lv_at hl 3 rfl) ?_
  obtain ⟨a29, hf⟩ := ag_n hf
  refine ag_iast hx hb hG hW hS t46 rfl rfl (by decide) a29 dX6_make_29 (fun H locs hW hS => ?_)
  refine lv_aload_n hx hb dX6_make_30 rfl (lv_at hl 0 rfl) ?_
  refine g6_18 hx hb hT hown hG hW t6 q806 dX6_make_31 ?_
  have t48 := ag_fix hW (k := 6) (f := 18) (t := 48) t6 rfl rfl
  refine lv_aload_n hx hb dX6_make_34 rfl (lv_at hl 0 rfl) ?_
  refine g6_13 hx hb hT hown hG hW t6 q801 dX6_make_35 ?_
  refine lv_iconst (v := 1) hx hb dX6_make_38 (by decide) ?_
  obtain ⟨a39, hf⟩ := ag_n hf
  refine ag_iast hx hb hG hW hS t48 rfl rfl (by decide) a39 dX6_make_39 (fun H locs hW hS => ?_)
  refine lv_aload_n hx hb dX6_make_40 rfl (lv_at hl 0 rfl) ?_
  refine lv_dup hx hb dX6_make_41 rfl ?_
  refine g6_13 hx hb hT hown hG hW t6 q801 dX6_make_42 ?_
  refine lv_iconst (v := 1) hx hb dX6_make_45 (by decide) ?_
  refine lv_iadd hx hb dX6_make_46 ?_
  refine u6_13 hx hb hT hown hG hW hS t6 q801 dX6_make_47 (fun H locs hW hS => ?_)
  refine lv_aload_n hx hb dX6_make_50 rfl (lv_at hl 0 rfl) ?_
  refine g6_13 hx hb hT hown hG hW t6 q801 dX6_make_51 ?_
  refine lv_iconst (v := 1) hx hb dX6_make_54 (by decide) ?_
  refine lv_isub hx hb dX6_make_55 ?_
  exact ag_iret hx hb hr rfl hlocks hS (congrArg Prod.fst (Option.some.inj hf)) (congrArg Prod.snd (Option.some.inj hf) ▸ hW) dX6_make_56
def f_X6_fill_b97 (fu : Nat) (rc52 : Int64 → Int32 → ag_S → Option ag_S) (x3 : Int64) (x5 : Int32) (y0 : Int64) (s : ag_S) : Option ag_S := if lg_cmp y0 0 ≤ 0 then (rc52 x3 (x5 + 1) s) else (if x5 < 0 ∨ 10 ≤ x5.toNatClampNeg then none else if x5 < 0 ∨ 10 ≤ x5.toNatClampNeg then none else rc52 x3 (x5 + 1) (ag_up (ag_up s 40 0 x5 ((s 40 0 x5) + ((y0 : Int64).toInt32))) 6 2 0 (((ag_up s 40 0 x5 ((s 40 0 x5) + ((y0 : Int64).toInt32))) 6 2 0) + ((y0 : Int64).toInt32))))
def f_X6_fill_L52 (fu : Nat) : Nat → Int64 → Int32 → ag_S → Option ag_S
  | 0, _, _, _ => none
  | nf + 1, x3, x5, s => if s 6 7 0 ≤ x5 then (some s) else (ag_bd (f_X6_free fu x5 s) fun r73 => if (0 : Int32) ≤ lg_cmp ((r73.1 / 10 : Int32).toInt64) (x3 - ((s 6 2 0 : Int32).toInt64)) then (f_X6_fill_b97 fu (f_X6_fill_L52 fu nf) x3 x5 (x3 - ((s 6 2 0 : Int32).toInt64)) r73.2) else (f_X6_fill_b97 fu (f_X6_fill_L52 fu nf) x3 x5 ((r73.1 / 10 : Int32).toInt64) r73.2))
def f_X6_fill_L4 (fu : Nat) : Nat → Int64 → Int32 → ag_S → Option ag_S
  | 0, _, _, _ => none
  | nf + 1, x1, x3, s => if s 6 7 0 ≤ x3 then (if (0 : Int32) ≤ lg_cmp x1 0 then (f_X6_fill_L52 fu fu ((((s 6 3 0 : Int32).toInt64) * x1) / 100) 0 s) else (f_X6_fill_L52 fu fu 0 0 s)) else (ag_bd (f_X6_stands fu x3 s) fun r15 => f_X6_fill_L4 fu nf (x1 + ((r15.1 : Int32).toInt64)) (x3 + 1) r15.2)
def f_X6_fill (fu : Nat) (s : ag_S) : Option ag_S := f_X6_fill_L4 fu fu 0 0 s
abbrev rm_X6_fill : Room := { frames := 3, cells := 0, slots := 0, locals := 66 }
theorem dd_yX6_fill : yX6_fill.cls = RX6 ∧ yX6_fill.cls ≠ "java/lang/invoke/MethodHandle" ∧ yX6_fill.cls ≠ "java/lang/invoke/VarHandle" ∧ (parseMethodDescriptor yX6_fill.desc).map (fun d => d.parameters.length) = some 0 := by decide +kernel
set_option maxHeartbeats 4000000 in
set_option maxRecDepth 100000 in
theorem c_X6_fill {z : ag_Z} {l : Launch} {n : ag_N} {p : ag_P} {s : ag_S} {fu : Nat} {out : ag_S} (t6 : vp_in 0 (n 6)) (hf : f_X6_fill fu  s = some out) : Met l yX6_fill (ag_ws yX6_fill cX6_fill 10 ((none))) rm_X6_fill (va_Pc [.ref (p 6 0)] (ag_Pre z n p s)) (ag_Rv z n p out) 0 0 (ag_A z) := by
  refine Met.ofW (cc := cX6_fill) (maxL := 10) (ret := (none)) (by decide) rfl ?_
  intro p0 e st m args below meth c s9 B hml hv
  obtain ⟨ha, h0, hG, hW⟩ := hv
  have hx := B.exec
  have hb := B.bytes
  have hr := B.returns
  have hts := atoms_spec (ws := ag_ws yX6_fill cX6_fill 10 ((none))) B.pre
  have hT : ∀ w ∈ ag_tbl, w.before args st = true := fun w h => hts w (List.mem_cons_of_mem _ h)
  have hown : st.vm.findClass RX6 = some m.cls := findClass_of_methodNamed B.named
  have hlocks := B.notSynchronized
  have hS : va_S (ag_A z) st.heap st.heap [] := va_S.rf
  obtain ⟨ls, hls, hl⟩ : ∃ ls, entryFrame m args 10 = F0 m 0 ls [] ∧ lv_has ls 10 [(0, .ref (p 6 0))] := by rw [ha]; exact ag_entry m [.ref (p 6 0)] (Nat.le_of_ble_eq_true rfl)
  rw [hls]
  have k97 : ∀ (rc52 : Int64 → Int32 → ag_S → Option ag_S) (hrc52 : ∀ (x3 : Int64) (x5 : Int32) (s : ag_S) (H : Heap) (locs : List Loc) (ls : Array Slot), ag_W z n p s H → va_S (ag_A z) st.heap H locs → lv_has ls 10 [(0, .ref (p 6 0)), (3, .long (x3)), (5, .int x5)] → rc52 x3 x5 s = some out → W p0 l e (headSpec (ag_ws yX6_fill cX6_fill 10 ((none))) rm_X6_fill).room st m args below meth c H locs 0 0 (MQ below (ag_Rv z n p out) args st 0 0 (ag_A z)) (F0 m 52 ls [])) (x3 : Int64) (x5 : Int32) (y0 : Int64) (s : ag_S) (H : Heap) (locs : List Loc) (ls : Array Slot), ag_W z n p s H → va_S (ag_A z) st.heap H locs → lv_has ls 10 [(0, .ref (p 6 0)), (3, .long (x3)), (5, .int x5)] → f_X6_fill_b97 fu rc52 x3 x5 y0 s = some out → W p0 l e (headSpec (ag_ws yX6_fill cX6_fill 10 ((none))) rm_X6_fill).room st m args below meth c H locs 0 0 (MQ below (ag_Rv z n p out) args st 0 0 (ag_A z)) (F0 m 97 ls [.long (y0)]) := by
    intro rc52 hrc52 x3 x5 y0 s H locs ls hW hS hl hf
    unfold f_X6_fill_b97 at hf
    refine lv_lstore (lv' := [(8, .long (y0)), (0, .ref (p 6 0)), (3, .long (x3)), (5, .int x5)]) hx hb dX6_fill_97 hl (by decide) rfl (fun ls hl => ?_)
    refine lv_lload hx hb dX6_fill_99 (lv_at hl 0 rfl) ?_
    refine lv_lconst (v := 0) hx hb dX6_fill_101 (by decide) ?_
    refine W.lcmp hx hb dX6_fill_102 ?_
    refine lv_if_le (tgt := 131) hx hb dX6_fill_103 (by decide) (fun c103 => ?_) (fun c103 => ?_)
    · have hf := ag_t c103 hf
      refine lv_iinc (v := x5 + 1) (lv' := [(5, .int (x5 + 1)), (8, .long (y0)), (0, .ref (p 6 0)), (3, .long (x3))]) hx hb dX6_fill_131 hl (k := 3) rfl rfl (by decide) rfl (fun ls hl => ?_)
      refine lv_goto (tgt := 52) hx hb dX6_fill_134 (by decide) ?_
      exact hrc52 _ _ _ _ _ _ hW hS (lv_sub hl [2, 3, 0] rfl) hf
    · have hf := ag_f c103 hf
      refine lv_aload_n hx hb dX6_fill_106 rfl (lv_at hl 1 rfl) ?_
      refine g6_10 hx hb hT hown hG hW t6 q798 dX6_fill_107 ?_
      have t40 := ag_fix hW (k := 6) (f := 10) (t := 40) t6 rfl rfl
      refine lv_iload hx hb dX6_fill_110 (lv_at hl 3 rfl) ?_
      refine lv_dup2_11 hx hb dX6_fill_112 rfl rfl ?_
      obtain ⟨a113, hf⟩ := ag_n hf
      refine ag_iald hx hb hG hW t40 rfl rfl a113 dX6_fill_113 ?_
      refine lv_lload hx hb dX6_fill_114 (lv_at hl 0 rfl) ?_
      refine lv_l2i hx hb dX6_fill_116 rfl ?_
      refine lv_iadd hx hb dX6_fill_117 ?_
      obtain ⟨a118, hf⟩ := ag_n hf
      refine ag_iast hx hb hG hW hS t40 rfl rfl (by decide) a118 dX6_fill_118 (fun H locs hW hS => ?_)
      refine lv_aload_n hx hb dX6_fill_119 rfl (lv_at hl 1 rfl) ?_
      refine lv_dup hx hb dX6_fill_120 rfl ?_
      refine g6_2 hx hb hT hown hG hW t6 q790 dX6_fill_121 ?_
      refine lv_lload hx hb dX6_fill_124 (lv_at hl 0 rfl) ?_
      refine lv_l2i hx hb dX6_fill_126 rfl ?_
      refine lv_iadd hx hb dX6_fill_127 ?_
      refine u6_2 hx hb hT hown hG hW hS t6 q790 dX6_fill_128 (fun H locs hW hS => ?_)
      refine lv_iinc (v := x5 + 1) (lv' := [(5, .int (x5 + 1)), (8, .long (y0)), (0, .ref (p 6 0)), (3, .long (x3))]) hx hb dX6_fill_131 hl (k := 3) rfl rfl (by decide) rfl (fun ls hl => ?_)
      refine lv_goto (tgt := 52) hx hb dX6_fill_134 (by decide) ?_
      exact hrc52 _ _ _ _ _ _ hW hS (lv_sub hl [2, 3, 0] rfl) hf
  have k52 : ∀ (nf : Nat) (x3 : Int64) (x5 : Int32) (s : ag_S) (H : Heap) (locs : List Loc) (ls : Array Slot), ag_W z n p s H → va_S (ag_A z) st.heap H locs → lv_has ls 10 [(0, .ref (p 6 0)), (3, .long (x3)), (5, .int x5)] → f_X6_fill_L52 fu nf x3 x5 s = some out → W p0 l e (headSpec (ag_ws yX6_fill cX6_fill 10 ((none))) rm_X6_fill).room st m args below meth c H locs 0 0 (MQ below (ag_Rv z n p out) args st 0 0 (ag_A z)) (F0 m 52 ls []) := by
    intro nf
    induction nf with
    | zero => intro x3 x5 s H locs ls hW hS hl hf; rw [f_X6_fill_L52] at hf; cases hf
    | succ nf ih =>
      intro x3 x5 s H locs ls hW hS hl hf
      rw [f_X6_fill_L52] at hf
      refine lv_iload hx hb dX6_fill_52 (lv_at hl 2 rfl) ?_
      refine lv_aload_n hx hb dX6_fill_54 rfl (lv_at hl 0 rfl) ?_
      refine g6_7 hx hb hT hown hG hW t6 q795 dX6_fill_55 ?_
      refine lv_icmp_ge (tgt := 137) hx hb dX6_fill_58 (by decide) (fun c58 => ?_) (fun c58 => ?_)
      · have hf := ag_t c58 hf
        exact ag_vret hx hb hr hlocks hS (Option.some.inj hf ▸ hW) dX6_fill_137
      · have hf := ag_f c58 hf
        refine lv_lload_n hx hb dX6_fill_61 rfl (lv_at hl 1 rfl) ?_
        refine lv_aload_n hx hb dX6_fill_62 rfl (lv_at hl 0 rfl) ?_
        refine g6_2 hx hb hT hown hG hW t6 q790 dX6_fill_63 ?_
        refine lv_i2l hx hb dX6_fill_66 rfl ?_
        refine lv_lsub hx hb dX6_fill_67 ?_
        refine lv_lstore (lv' := [(6, .long (x3 - ((s 6 2 0 : Int32).toInt64))), (0, .ref (p 6 0)), (3, .long (x3)), (5, .int x5)]) hx hb dX6_fill_68 hl (by decide) rfl (fun ls hl => ?_)
        refine lv_aload_n hx hb dX6_fill_70 rfl (lv_at hl 1 rfl) ?_
        refine lv_iload hx hb dX6_fill_71 (lv_at hl 3 rfl) ?_
        obtain ⟨r73, hg73, hf⟩ := ag_bs hf
        refine ag_cVi hx hb hml hT hown hG h0 hS hW (c_X6_free t6 hg73) ⟨rfl, rfl⟩ q949 q951 qs34 q11 q952 dd_yX6_free ⟨Nat.le_of_ble_eq_true rfl, Nat.le_of_ble_eq_true rfl⟩ t6 rfl rfl hl.1 rfl (Nat.le_of_ble_eq_true rfl) ⟨Nat.le_of_ble_eq_true rfl, Nat.le_of_ble_eq_true rfl⟩ dX6_fill_73 (fun H locs hW hS => ?_)
        refine lv_bipush (v := 10) hx hb dX6_fill_76 (by decide) ?_
        refine lv_idiv hx hb dX6_fill_78 (by decide) ?_
        refine lv_i2l hx hb dX6_fill_79 rfl ?_
        refine lv_lstore (lv' := [(8, .long ((r73.1 / 10 : Int32).toInt64)), (6, .long (x3 - ((s 6 2 0 : Int32).toInt64))), (0, .ref (p 6 0)), (3, .long (x3)), (5, .int x5)]) hx hb dX6_fill_80 hl (by decide) rfl (fun ls hl => ?_)
        refine lv_lload hx hb dX6_fill_82 (lv_at hl 0 rfl) ?_
        refine lv_lload hx hb dX6_fill_84 (lv_at hl 1 rfl) ?_
        refine W.lcmp hx hb dX6_fill_86 ?_
        refine lv_if_ge (tgt := 95) hx hb dX6_fill_87 (by decide) (fun c87 => ?_) (fun c87 => ?_)
        · have hf := ag_t c87 hf
          refine lv_lload hx hb dX6_fill_95 (lv_at hl 1 rfl) ?_
          exact k97 (f_X6_fill_L52 fu nf) ih _ _ _ _ _ _ _ hW hS (lv_sub hl [2, 3, 4] rfl) hf
        · have hf := ag_f c87 hf
          refine lv_lload hx hb dX6_fill_90 (lv_at hl 0 rfl) ?_
          refine lv_goto (tgt := 97) hx hb dX6_fill_92 (by decide) ?_
          exact k97 (f_X6_fill_L52 fu nf) ih _ _ _ _ _ _ _ hW hS (lv_sub hl [2, 3, 4] rfl) hf
  have k4 : ∀ (nf : Nat) (x1 : Int64) (x3 : Int32) (s : ag_S) (H : Heap) (locs : List Loc) (ls : Array Slot), ag_W z n p s H → va_S (ag_A z) st.heap H locs → lv_has ls 10 [(0, .ref (p 6 0)), (1, .long (x1)), (3, .int x3)] → f_X6_fill_L4 fu nf x1 x3 s = some out → W p0 l e (headSpec (ag_ws yX6_fill cX6_fill 10 ((none))) rm_X6_fill).room st m args below meth c H locs 0 0 (MQ below (ag_Rv z n p out) args st 0 0 (ag_A z)) (F0 m 4 ls []) := by
    intro nf
    induction nf with
    | zero => intro x1 x3 s H locs ls hW hS hl hf; rw [f_X6_fill_L4] at hf; cases hf
    | succ nf ih =>
      intro x1 x3 s H locs ls hW hS hl hf
      rw [f_X6_fill_L4] at hf
      refine lv_iload_n hx hb dX6_fill_4 rfl (lv_at hl 2 rfl) ?_
      refine lv_aload_n hx hb dX6_fill_5 rfl (lv_at hl 0 rfl) ?_
      refine g6_7 hx hb hT hown hG hW t6 q795 dX6_fill_6 ?_
      refine lv_icmp_ge (tgt := 27) hx hb dX6_fill_9 (by decide) (fun c9 => ?_) (fun c9 => ?_)
      · have hf := ag_t c9 hf
        refine lv_lload_n hx hb dX6_fill_27 rfl (lv_at hl 1 rfl) ?_
        refine lv_lconst (v := 0) hx hb dX6_fill_28 (by decide) ?_
        refine W.lcmp hx hb dX6_fill_29 ?_
        refine lv_if_ge (tgt := 37) hx hb dX6_fill_30 (by decide) (fun c30 => ?_) (fun c30 => ?_)
        · have hf := ag_t c30 hf
          refine lv_aload_n hx hb dX6_fill_37 rfl (lv_at hl 0 rfl) ?_
          refine g6_3 hx hb hT hown hG hW t6 q791 dX6_fill_38 ?_
          refine lv_i2l hx hb dX6_fill_41 rfl ?_
          refine lv_lload_n hx hb dX6_fill_42 rfl (lv_at hl 1 rfl) ?_
          refine lv_lmul hx hb dX6_fill_43 ?_
          refine lv_ldc2 (v := 100) hx hb hown (hT _ q1021) dX6_fill_44 ?_
          refine lv_ldiv hx hb dX6_fill_47 (by decide) ?_
          refine lv_lstore_n (lv' := [(3, .long ((((s 6 3 0 : Int32).toInt64) * x1) / 100)), (0, .ref (p 6 0)), (1, .long (x1))]) hx hb dX6_fill_48 rfl hl (by decide) rfl (fun ls hl => ?_)
          refine lv_iconst (v := 0) hx hb dX6_fill_49 (by decide) ?_
          refine lv_istore (lv' := [(5, .int 0), (3, .long ((((s 6 3 0 : Int32).toInt64) * x1) / 100)), (0, .ref (p 6 0)), (1, .long (x1))]) hx hb dX6_fill_50 hl (by decide) rfl (fun ls hl => ?_)
          exact k52 fu _ _ _ _ _ _ hW hS (lv_sub hl [2, 1, 0] rfl) hf
        · have hf := ag_f c30 hf
          refine lv_lconst (v := 0) hx hb dX6_fill_33 (by decide) ?_
          refine lv_goto (tgt := 48) hx hb dX6_fill_34 (by decide) ?_
          refine lv_lstore_n (lv' := [(3, .long (0)), (0, .ref (p 6 0)), (1, .long (x1))]) hx hb dX6_fill_48 rfl hl (by decide) rfl (fun ls hl => ?_)
          refine lv_iconst (v := 0) hx hb dX6_fill_49 (by decide) ?_
          refine lv_istore (lv' := [(5, .int 0), (3, .long (0)), (0, .ref (p 6 0)), (1, .long (x1))]) hx hb dX6_fill_50 hl (by decide) rfl (fun ls hl => ?_)
          exact k52 fu _ _ _ _ _ _ hW hS (lv_sub hl [2, 1, 0] rfl) hf
      · have hf := ag_f c9 hf
        refine lv_lload_n hx hb dX6_fill_12 rfl (lv_at hl 1 rfl) ?_
        refine lv_aload_n hx hb dX6_fill_13 rfl (lv_at hl 0 rfl) ?_
        refine lv_iload_n hx hb dX6_fill_14 rfl (lv_at hl 2 rfl) ?_
        obtain ⟨r15, hg15, hf⟩ := ag_bs hf
        refine ag_cVi hx hb hml hT hown hG h0 hS hW (c_X6_stands t6 hg15) ⟨rfl, rfl⟩ q953 q955 qs35 q11 q956 dd_yX6_stands ⟨Nat.le_of_ble_eq_true rfl, Nat.le_of_ble_eq_true rfl⟩ t6 rfl rfl hl.1 rfl (Nat.le_of_ble_eq_true rfl) ⟨Nat.le_of_ble_eq_true rfl, Nat.le_of_ble_eq_true rfl⟩ dX6_fill_15 (fun H locs hW hS => ?_)
        refine lv_i2l hx hb dX6_fill_18 rfl ?_
        refine lv_ladd hx hb dX6_fill_19 ?_
        refine lv_lstore_n (lv' := [(1, .long (x1 + ((r15.1 : Int32).toInt64))), (0, .ref (p 6 0)), (3, .int x3)]) hx hb dX6_fill_20 rfl hl (by decide) rfl (fun ls hl => ?_)
        refine lv_iinc (v := x3 + 1) (lv' := [(3, .int (x3 + 1)), (1, .long (x1 + ((r15.1 : Int32).toInt64))), (0, .ref (p 6 0))]) hx hb dX6_fill_21 hl (k := 2) rfl rfl (by decide) rfl (fun ls hl => ?_)
        refine lv_goto (tgt := 4) hx hb dX6_fill_24 (by decide) ?_
        exact ih _ _ _ _ _ _ hW hS (lv_sub hl [2, 1, 0] rfl) hf
  unfold f_X6_fill at hf
  refine lv_lconst (v := 0) hx hb dX6_fill_0 (by decide) ?_
  refine lv_lstore_n (lv' := [(1, .long (0)), (0, .ref (p 6 0))]) hx hb dX6_fill_1 rfl hl (by decide) rfl (fun ls hl => ?_)
  refine lv_iconst (v := 0) hx hb dX6_fill_2 (by decide) ?_
  refine lv_istore_n (lv' := [(3, .int 0), (1, .long (0)), (0, .ref (p 6 0))]) hx hb dX6_fill_3 rfl hl (by decide) rfl (fun ls hl => ?_)
  exact k4 fu _ _ _ _ _ _ hW hS (lv_sub hl [2, 1, 0] rfl) hf
