def f_X5_passOn (fu : Nat) (x0 : Int32) (s : ag_S) : Option ag_S := if s 3 5 x0 = 1 then (if s 3 1 x0 = -1 then (if s 3 2 x0 = -1 then none else some (ag_up s 2 3 (s 3 2 x0) ((s 2 3 (s 3 2 x0)) + (s 3 4 x0)))) else (if s 3 1 x0 = -1 then none else some (ag_up s 3 4 (s 3 1 x0) ((s 3 4 (s 3 1 x0)) + (s 3 4 x0))))) else (some s)
abbrev rm_X5_passOn : Room := { frames := 0, cells := 0, slots := 0, locals := 0 }
theorem dd_yX5_passOn : yX5_passOn.cls ≠ "java/lang/invoke/MethodHandle" ∧ yX5_passOn.cls ≠ "java/lang/invoke/VarHandle" ∧ (parseMethodDescriptor yX5_passOn.desc).map (fun d => d.parameters.length) = some 1 := by decide +kernel
set_option maxHeartbeats 4000000 in
set_option maxRecDepth 100000 in
theorem c_X5_passOn {z : ag_Z} {l : Launch} {n : ag_N} {p : ag_P} {s : ag_S} {fu : Nat} {x0 : Int32} {out : ag_S} (v0 : vp_in x0 (n 3)) (hf : f_X5_passOn fu x0 s = some out) : Met l yX5_passOn (ag_ws yX5_passOn cX5_passOn 1 ((none))) rm_X5_passOn (va_Pc [.ref (p 3 x0)] (ag_Pre z n p s)) (ag_Rv z n p out) 0 0 (ag_A z) := by
  refine Met.ofW (cc := cX5_passOn) (maxL := 1) (ret := (none)) (by decide) rfl ?_
  intro p0 e st m args below meth c s9 B hml hv
  obtain ⟨ha, h0, hG, hW⟩ := hv
  have hx := B.exec
  have hb := B.bytes
  have hr := B.returns
  have hts := atoms_spec (ws := ag_ws yX5_passOn cX5_passOn 1 ((none))) B.pre
  have hT : ∀ w ∈ ag_tbl, w.before args st = true := fun w h => hts w (List.mem_cons_of_mem _ h)
  have hown : st.vm.findClass RX5 = some m.cls := findClass_of_methodNamed B.named
  have hlocks := B.notSynchronized
  have hS : va_S (ag_A z) st.heap st.heap [] := va_S.rf
  obtain ⟨ls, hls, hl⟩ : ∃ ls, entryFrame m args 1 = F0 m 0 ls [] ∧ lv_has ls 1 [(0, .ref (p 3 x0))] := by rw [ha]; exact ag_entry m [.ref (p 3 x0)] (Nat.le_of_ble_eq_true rfl)
  rw [hls]
  unfold f_X5_passOn at hf
  refine lv_aload_n hx hb dX5_passOn_0 rfl (lv_at hl 0 rfl) ?_
  refine g3_5 hx hb hT hown hG hW v0 q403 dX5_passOn_1 ?_
  refine lv_iconst (v := 1) hx hb dX5_passOn_4 (by decide) ?_
  refine lv_icmp_eq (tgt := 9) hx hb dX5_passOn_5 (by decide) (fun c5 => ?_) (fun c5 => ?_)
  · have hf := ag_t c5 hf
    refine lv_aload_n hx hb dX5_passOn_9 rfl (lv_at hl 0 rfl) ?_
    refine g3_1 hx hb hT hown hG hW v0 q394 dX5_passOn_10 ?_
    have o10 := ag_W.okf hW (k := 3) (f := 1) (t := 3) rfl rfl (by decide) x0
    refine ag_ifnonnull (tgt := 35) hx hb o10 dX5_passOn_13 (by decide) (fun c13 => ?_) (fun c13 => ?_)
    · have hf := ag_f c13 hf
      have e13 := (ag_refq (z := z) (p := p) o10 c13)
      have v13 := (ag_ref (z := z) (p := p) o10 c13).2
      refine lv_aload_n hx hb dX5_passOn_35 rfl (lv_at hl 0 rfl) ?_
      refine g3_1 hx hb hT hown hG hW v0 q394 dX5_passOn_36 ?_
      have o36 := ag_W.okf hW (k := 3) (f := 1) (t := 3) rfl rfl (by decide) x0
      refine lv_dup hx hb dX5_passOn_39 (ag_cat _) ?_
      obtain ⟨m40_1, hf⟩ := ag_n hf
      have e40_1 := (ag_refq (z := z) (p := p) o36 m40_1)
      have v40_1 := (ag_ref (z := z) (p := p) o36 m40_1).2
      rw [e40_1]
      refine g3_4 hx hb hT hown hG hW v40_1 q400 dX5_passOn_40 ?_
      refine lv_aload_n hx hb dX5_passOn_43 rfl (lv_at hl 0 rfl) ?_
      refine g3_4 hx hb hT hown hG hW v0 q400 dX5_passOn_44 ?_
      refine lv_iadd hx hb dX5_passOn_47 ?_
      refine u3_4 hx hb hT hown hG hW hS v40_1 q400 dX5_passOn_48 (fun H locs hW hS => ?_)
      exact ag_vret hx hb hr hlocks hS (Option.some.inj hf ▸ hW) dX5_passOn_51
    · have hf := ag_t c13 hf
      refine lv_aload_n hx hb dX5_passOn_16 rfl (lv_at hl 0 rfl) ?_
      refine g3_2 hx hb hT hown hG hW v0 q396 dX5_passOn_17 ?_
      have o17 := ag_W.okf hW (k := 3) (f := 2) (t := 2) rfl rfl (by decide) x0
      refine lv_dup hx hb dX5_passOn_20 (ag_cat _) ?_
      obtain ⟨m21_2, hf⟩ := ag_n hf
      have e21_2 := (ag_refq (z := z) (p := p) o17 m21_2)
      have v21_2 := (ag_ref (z := z) (p := p) o17 m21_2).2
      rw [e21_2]
      refine g2_3 hx hb hT hown hG hW v21_2 q312 dX5_passOn_21 ?_
      refine lv_aload_n hx hb dX5_passOn_24 rfl (lv_at hl 0 rfl) ?_
      refine g3_4 hx hb hT hown hG hW v0 q400 dX5_passOn_25 ?_
      refine lv_iadd hx hb dX5_passOn_28 ?_
      refine u2_3 hx hb hT hown hG hW hS v21_2 q312 dX5_passOn_29 (fun H locs hW hS => ?_)
      refine lv_goto (tgt := 51) hx hb dX5_passOn_32 (by decide) ?_
      exact ag_vret hx hb hr hlocks hS (Option.some.inj hf ▸ hW) dX5_passOn_51
  · have hf := ag_f c5 hf
    exact ag_vret hx hb hr hlocks hS (Option.some.inj hf ▸ hW) dX5_passOn_8
def f_X5_reckonWhatIsBrought_L83 (fu : Nat) : Nat → Int32 → ag_S → Option ag_S
  | 0, _, _ => none
  | nf + 1, x1, s => if x1 < 0 then (some s) else (ag_bd (f_Jx4a65c_get_915e3_3 fu x1 s) fun r92 => ag_bd (f_X5_passOn fu r92 s) fun r98 => f_X5_reckonWhatIsBrought_L83 fu nf (x1 + (-1)) r98)
def f_X5_reckonWhatIsBrought_L36 (fu : Nat) : Nat → Int32 → ag_S → Option ag_S
  | 0, _, _ => none
  | nf + 1, x1, s => ag_bd (f_Jx4a65c_size_8abf5_3 fu s) fun r41 => if r41 ≤ x1 then (ag_bd (f_Jx4a65c_size_8abf5_3 fu s) fun r77 => f_X5_reckonWhatIsBrought_L83 fu fu (r77 - 1) s) else (ag_bd (f_Jx4a65c_get_915e3_3 fu x1 s) fun r52 => f_X5_reckonWhatIsBrought_L36 fu nf (x1 + 1) (ag_up s 3 4 r52 (s 3 3 r52)))
def f_X5_reckonWhatIsBrought_L2 (fu : Nat) : Nat → Int32 → ag_S → Option ag_S
  | 0, _, _ => none
  | nf + 1, x1, s => ag_bd (f_Jx4a65c_size_8abf5_2 fu s) fun r7 => if r7 ≤ x1 then (f_X5_reckonWhatIsBrought_L36 fu fu 0 s) else (ag_bd (f_Jx4a65c_get_915e3_2 fu x1 s) fun r18 => f_X5_reckonWhatIsBrought_L2 fu nf (x1 + 1) (ag_up s 2 3 r18 0))
def f_X5_reckonWhatIsBrought (fu : Nat) (s : ag_S) : Option ag_S := f_X5_reckonWhatIsBrought_L2 fu fu 0 s
abbrev rm_X5_reckonWhatIsBrought : Room := { frames := 3, cells := 0, slots := 0, locals := 64 }
theorem dd_yX5_reckonWhatIsBrought : yX5_reckonWhatIsBrought.cls = RX5 ∧ yX5_reckonWhatIsBrought.cls ≠ "java/lang/invoke/MethodHandle" ∧ yX5_reckonWhatIsBrought.cls ≠ "java/lang/invoke/VarHandle" ∧ (parseMethodDescriptor yX5_reckonWhatIsBrought.desc).map (fun d => d.parameters.length) = some 0 := by decide +kernel
set_option maxHeartbeats 4000000 in
set_option maxRecDepth 100000 in
theorem c_X5_reckonWhatIsBrought {z : ag_Z} {l : Launch} {n : ag_N} {p : ag_P} {s : ag_S} {fu : Nat} {out : ag_S} (t5 : vp_in 0 (n 5)) (hf : f_X5_reckonWhatIsBrought fu  s = some out) : Met l yX5_reckonWhatIsBrought (ag_ws yX5_reckonWhatIsBrought cX5_reckonWhatIsBrought 3 ((none))) rm_X5_reckonWhatIsBrought (va_Pc [.ref (p 5 0)] (ag_Pre z n p s)) (ag_Rv z n p out) 0 0 (ag_A z) := by
  refine Met.ofW (cc := cX5_reckonWhatIsBrought) (maxL := 3) (ret := (none)) (by decide) rfl ?_
  intro p0 e st m args below meth c s9 B hml hv
  obtain ⟨ha, h0, hG, hW⟩ := hv
  have hx := B.exec
  have hb := B.bytes
  have hr := B.returns
  have hts := atoms_spec (ws := ag_ws yX5_reckonWhatIsBrought cX5_reckonWhatIsBrought 3 ((none))) B.pre
  have hT : ∀ w ∈ ag_tbl, w.before args st = true := fun w h => hts w (List.mem_cons_of_mem _ h)
  have hown : st.vm.findClass RX5 = some m.cls := findClass_of_methodNamed B.named
  have hlocks := B.notSynchronized
  have hS : va_S (ag_A z) st.heap st.heap [] := va_S.rf
  obtain ⟨ls, hls, hl⟩ : ∃ ls, entryFrame m args 3 = F0 m 0 ls [] ∧ lv_has ls 3 [(0, .ref (p 5 0))] := by rw [ha]; exact ag_entry m [.ref (p 5 0)] (Nat.le_of_ble_eq_true rfl)
  rw [hls]
  have k83 : ∀ (nf : Nat) (x1 : Int32) (s : ag_S) (H : Heap) (locs : List Loc) (ls : Array Slot), ag_W z n p s H → va_S (ag_A z) st.heap H locs → lv_has ls 3 [(0, .ref (p 5 0)), (1, .int x1)] → f_X5_reckonWhatIsBrought_L83 fu nf x1 s = some out → W p0 l e (headSpec (ag_ws yX5_reckonWhatIsBrought cX5_reckonWhatIsBrought 3 ((none))) rm_X5_reckonWhatIsBrought).room st m args below meth c H locs 0 0 (MQ below (ag_Rv z n p out) args st 0 0 (ag_A z)) (F0 m 83 ls []) := by
    intro nf
    induction nf with
    | zero => intro x1 s H locs ls hW hS hl hf; rw [f_X5_reckonWhatIsBrought_L83] at hf; cases hf
    | succ nf ih =>
      intro x1 s H locs ls hW hS hl hf
      rw [f_X5_reckonWhatIsBrought_L83] at hf
      refine lv_iload_n hx hb dX5_reckonWhatIsBrought_83 rfl (lv_at hl 1 rfl) ?_
      refine lv_if_lt (tgt := 107) hx hb dX5_reckonWhatIsBrought_84 (by decide) (fun c84 => ?_) (fun c84 => ?_)
      · have hf := ag_t c84 hf
        exact ag_vret hx hb hr hlocks hS (Option.some.inj hf ▸ hW) dX5_reckonWhatIsBrought_107
      · have hf := ag_f c84 hf
        refine lv_aload_n hx hb dX5_reckonWhatIsBrought_87 rfl (lv_at hl 0 rfl) ?_
        refine g5_3 hx hb hT hown hG hW t5 q154 dX5_reckonWhatIsBrought_88 ?_
        have t13 := ag_fix hW (k := 5) (f := 3) (t := 13) t5 rfl rfl
        refine lv_iload_n hx hb dX5_reckonWhatIsBrought_91 rfl (lv_at hl 1 rfl) ?_
        obtain ⟨r92, hg92, hf⟩ := ag_bs hf
        refine ag_cVr hx hb hml hT hown hG h0 hS hW (c_Jx4a65c_get_915e3_3 t13 hg92) ⟨rfl, rfl⟩ q265 q266 q267 q4 q268 dd_yJx4a65c_get_915e3 ⟨Nat.le_of_ble_eq_true rfl, Nat.le_of_ble_eq_true rfl⟩ t13 rfl rfl hl.1 rfl (Nat.le_of_ble_eq_true rfl) ⟨Nat.le_of_ble_eq_true rfl, Nat.le_of_ble_eq_true rfl⟩ dX5_reckonWhatIsBrought_92 (fun H locs hW hS v92 => ?_)
        refine ag_cast hx hb hown hG hW v92 rfl rfl (hT _ q385) dX5_reckonWhatIsBrought_95 ?_
        obtain ⟨r98, hg98, hf⟩ := ag_bs hf
        refine ag_cSv hx hb hml hT hown hG h0 hS hW (c_X5_passOn v92 hg98) ⟨rfl, rfl⟩ q498 q499 q1 q500 dd_yX5_passOn ⟨Nat.le_of_ble_eq_true rfl, Nat.le_of_ble_eq_true rfl⟩ hl.1 rfl (Nat.le_of_ble_eq_true rfl) ⟨Nat.le_of_ble_eq_true rfl, Nat.le_of_ble_eq_true rfl⟩ dX5_reckonWhatIsBrought_98 (fun H locs hW hS => ?_)
        refine lv_iinc (v := x1 + (-1)) (lv' := [(1, .int (x1 + (-1))), (0, .ref (p 5 0))]) hx hb dX5_reckonWhatIsBrought_101 hl (k := 1) rfl rfl (by decide) rfl (fun ls hl => ?_)
        refine lv_goto (tgt := 83) hx hb dX5_reckonWhatIsBrought_104 (by decide) ?_
        exact ih _ _ _ _ _ hW hS (lv_sub hl [1, 0] rfl) hf
  have k36 : ∀ (nf : Nat) (x1 : Int32) (s : ag_S) (H : Heap) (locs : List Loc) (ls : Array Slot), ag_W z n p s H → va_S (ag_A z) st.heap H locs → lv_has ls 3 [(0, .ref (p 5 0)), (1, .int x1)] → f_X5_reckonWhatIsBrought_L36 fu nf x1 s = some out → W p0 l e (headSpec (ag_ws yX5_reckonWhatIsBrought cX5_reckonWhatIsBrought 3 ((none))) rm_X5_reckonWhatIsBrought).room st m args below meth c H locs 0 0 (MQ below (ag_Rv z n p out) args st 0 0 (ag_A z)) (F0 m 36 ls []) := by
    intro nf
    induction nf with
    | zero => intro x1 s H locs ls hW hS hl hf; rw [f_X5_reckonWhatIsBrought_L36] at hf; cases hf
    | succ nf ih =>
      intro x1 s H locs ls hW hS hl hf
      rw [f_X5_reckonWhatIsBrought_L36] at hf
      refine lv_iload_n hx hb dX5_reckonWhatIsBrought_36 rfl (lv_at hl 1 rfl) ?_
      refine lv_aload_n hx hb dX5_reckonWhatIsBrought_37 rfl (lv_at hl 0 rfl) ?_
      refine g5_3 hx hb hT hown hG hW t5 q154 dX5_reckonWhatIsBrought_38 ?_
      have t13 := ag_fix hW (k := 5) (f := 3) (t := 13) t5 rfl rfl
      obtain ⟨r41, hg41, hf⟩ := ag_bs hf
      refine ag_cVi hx hb hml hT hown hG h0 hS hW (c_Jx4a65c_size_8abf5_3 t13 hg41) ⟨rfl, rfl⟩ q193 q194 q195 q4 q196 dd_yJx4a65c_size_8abf5 ⟨Nat.le_of_ble_eq_true rfl, Nat.le_of_ble_eq_true rfl⟩ t13 rfl rfl hl.1 rfl (Nat.le_of_ble_eq_true rfl) ⟨Nat.le_of_ble_eq_true rfl, Nat.le_of_ble_eq_true rfl⟩ dX5_reckonWhatIsBrought_41 (fun H locs hW hS => ?_)
      refine lv_icmp_ge (tgt := 73) hx hb dX5_reckonWhatIsBrought_44 (by decide) (fun c44 => ?_) (fun c44 => ?_)
      · have hf := ag_t c44 hf
        refine lv_aload_n hx hb dX5_reckonWhatIsBrought_73 rfl (lv_at hl 0 rfl) ?_
        refine g5_3 hx hb hT hown hG hW t5 q154 dX5_reckonWhatIsBrought_74 ?_
        have t13 := ag_fix hW (k := 5) (f := 3) (t := 13) t5 rfl rfl
        obtain ⟨r77, hg77, hf⟩ := ag_bs hf
        refine ag_cVi hx hb hml hT hown hG h0 hS hW (c_Jx4a65c_size_8abf5_3 t13 hg77) ⟨rfl, rfl⟩ q193 q194 q195 q4 q196 dd_yJx4a65c_size_8abf5 ⟨Nat.le_of_ble_eq_true rfl, Nat.le_of_ble_eq_true rfl⟩ t13 rfl rfl hl.1 rfl (Nat.le_of_ble_eq_true rfl) ⟨Nat.le_of_ble_eq_true rfl, Nat.le_of_ble_eq_true rfl⟩ dX5_reckonWhatIsBrought_77 (fun H locs hW hS => ?_)
        refine lv_iconst (v := 1) hx hb dX5_reckonWhatIsBrought_80 (by decide) ?_
        refine lv_isub hx hb dX5_reckonWhatIsBrought_81 ?_
        refine lv_istore_n (lv' := [(1, .int (r77 - 1)), (0, .ref (p 5 0))]) hx hb dX5_reckonWhatIsBrought_82 rfl hl (by decide) rfl (fun ls hl => ?_)
        exact k83 fu _ _ _ _ _ hW hS (lv_sub hl [1, 0] rfl) hf
      · have hf := ag_f c44 hf
        refine lv_aload_n hx hb dX5_reckonWhatIsBrought_47 rfl (lv_at hl 0 rfl) ?_
        refine g5_3 hx hb hT hown hG hW t5 q154 dX5_reckonWhatIsBrought_48 ?_
        have t13 := ag_fix hW (k := 5) (f := 3) (t := 13) t5 rfl rfl
        refine lv_iload_n hx hb dX5_reckonWhatIsBrought_51 rfl (lv_at hl 1 rfl) ?_
        obtain ⟨r52, hg52, hf⟩ := ag_bs hf
        refine ag_cVr hx hb hml hT hown hG h0 hS hW (c_Jx4a65c_get_915e3_3 t13 hg52) ⟨rfl, rfl⟩ q265 q266 q267 q4 q268 dd_yJx4a65c_get_915e3 ⟨Nat.le_of_ble_eq_true rfl, Nat.le_of_ble_eq_true rfl⟩ t13 rfl rfl hl.1 rfl (Nat.le_of_ble_eq_true rfl) ⟨Nat.le_of_ble_eq_true rfl, Nat.le_of_ble_eq_true rfl⟩ dX5_reckonWhatIsBrought_52 (fun H locs hW hS v52 => ?_)
        refine ag_cast hx hb hown hG hW v52 rfl rfl (hT _ q385) dX5_reckonWhatIsBrought_55 ?_
        refine lv_astore_n (lv' := [(2, .ref (p 3 r52)), (0, .ref (p 5 0)), (1, .int x1)]) hx hb dX5_reckonWhatIsBrought_58 rfl hl (by decide) rfl (fun ls hl => ?_)
        refine lv_aload_n hx hb dX5_reckonWhatIsBrought_59 rfl (lv_at hl 0 rfl) ?_
        refine lv_aload_n hx hb dX5_reckonWhatIsBrought_60 rfl (lv_at hl 0 rfl) ?_
        refine g3_3 hx hb hT hown hG hW v52 q398 dX5_reckonWhatIsBrought_61 ?_
        refine u3_4 hx hb hT hown hG hW hS v52 q400 dX5_reckonWhatIsBrought_64 (fun H locs hW hS => ?_)
        refine lv_iinc (v := x1 + 1) (lv' := [(1, .int (x1 + 1)), (2, .ref (p 3 r52)), (0, .ref (p 5 0))]) hx hb dX5_reckonWhatIsBrought_67 hl (k := 2) rfl rfl (by decide) rfl (fun ls hl => ?_)
        refine lv_goto (tgt := 36) hx hb dX5_reckonWhatIsBrought_70 (by decide) ?_
        exact ih _ _ _ _ _ hW hS (lv_sub hl [2, 0] rfl) hf
  have k2 : ∀ (nf : Nat) (x1 : Int32) (s : ag_S) (H : Heap) (locs : List Loc) (ls : Array Slot), ag_W z n p s H → va_S (ag_A z) st.heap H locs → lv_has ls 3 [(0, .ref (p 5 0)), (1, .int x1)] → f_X5_reckonWhatIsBrought_L2 fu nf x1 s = some out → W p0 l e (headSpec (ag_ws yX5_reckonWhatIsBrought cX5_reckonWhatIsBrought 3 ((none))) rm_X5_reckonWhatIsBrought).room st m args below meth c H locs 0 0 (MQ below (ag_Rv z n p out) args st 0 0 (ag_A z)) (F0 m 2 ls []) := by
    intro nf
    induction nf with
    | zero => intro x1 s H locs ls hW hS hl hf; rw [f_X5_reckonWhatIsBrought_L2] at hf; cases hf
    | succ nf ih =>
      intro x1 s H locs ls hW hS hl hf
      rw [f_X5_reckonWhatIsBrought_L2] at hf
      refine lv_iload_n hx hb dX5_reckonWhatIsBrought_2 rfl (lv_at hl 1 rfl) ?_
      refine lv_aload_n hx hb dX5_reckonWhatIsBrought_3 rfl (lv_at hl 0 rfl) ?_
      refine g5_2 hx hb hT hown hG hW t5 q153 dX5_reckonWhatIsBrought_4 ?_
      have t12 := ag_fix hW (k := 5) (f := 2) (t := 12) t5 rfl rfl
      obtain ⟨r7, hg7, hf⟩ := ag_bs hf
      refine ag_cVi hx hb hml hT hown hG h0 hS hW (c_Jx4a65c_size_8abf5_2 t12 hg7) ⟨rfl, rfl⟩ q193 q194 q195 q4 q196 dd_yJx4a65c_size_8abf5 ⟨Nat.le_of_ble_eq_true rfl, Nat.le_of_ble_eq_true rfl⟩ t12 rfl rfl hl.1 rfl (Nat.le_of_ble_eq_true rfl) ⟨Nat.le_of_ble_eq_true rfl, Nat.le_of_ble_eq_true rfl⟩ dX5_reckonWhatIsBrought_7 (fun H locs hW hS => ?_)
      refine lv_icmp_ge (tgt := 34) hx hb dX5_reckonWhatIsBrought_10 (by decide) (fun c10 => ?_) (fun c10 => ?_)
      · have hf := ag_t c10 hf
        refine lv_iconst (v := 0) hx hb dX5_reckonWhatIsBrought_34 (by decide) ?_
        refine lv_istore_n (lv' := [(1, .int 0), (0, .ref (p 5 0))]) hx hb dX5_reckonWhatIsBrought_35 rfl hl (by decide) rfl (fun ls hl => ?_)
        exact k36 fu _ _ _ _ _ hW hS (lv_sub hl [1, 0] rfl) hf
      · have hf := ag_f c10 hf
        refine lv_aload_n hx hb dX5_reckonWhatIsBrought_13 rfl (lv_at hl 0 rfl) ?_
        refine g5_2 hx hb hT hown hG hW t5 q153 dX5_reckonWhatIsBrought_14 ?_
        have t12 := ag_fix hW (k := 5) (f := 2) (t := 12) t5 rfl rfl
        refine lv_iload_n hx hb dX5_reckonWhatIsBrought_17 rfl (lv_at hl 1 rfl) ?_
        obtain ⟨r18, hg18, hf⟩ := ag_bs hf
        refine ag_cVr hx hb hml hT hown hG h0 hS hW (c_Jx4a65c_get_915e3_2 t12 hg18) ⟨rfl, rfl⟩ q265 q266 q267 q4 q268 dd_yJx4a65c_get_915e3 ⟨Nat.le_of_ble_eq_true rfl, Nat.le_of_ble_eq_true rfl⟩ t12 rfl rfl hl.1 rfl (Nat.le_of_ble_eq_true rfl) ⟨Nat.le_of_ble_eq_true rfl, Nat.le_of_ble_eq_true rfl⟩ dX5_reckonWhatIsBrought_18 (fun H locs hW hS v18 => ?_)
        refine ag_cast hx hb hown hG hW v18 rfl rfl (hT _ q300) dX5_reckonWhatIsBrought_21 ?_
        refine lv_iconst (v := 0) hx hb dX5_reckonWhatIsBrought_24 (by decide) ?_
        refine u2_3 hx hb hT hown hG hW hS v18 q312 dX5_reckonWhatIsBrought_25 (fun H locs hW hS => ?_)
        refine lv_iinc (v := x1 + 1) (lv' := [(1, .int (x1 + 1)), (0, .ref (p 5 0))]) hx hb dX5_reckonWhatIsBrought_28 hl (k := 1) rfl rfl (by decide) rfl (fun ls hl => ?_)
        refine lv_goto (tgt := 2) hx hb dX5_reckonWhatIsBrought_31 (by decide) ?_
        exact ih _ _ _ _ _ hW hS (lv_sub hl [1, 0] rfl) hf
  unfold f_X5_reckonWhatIsBrought at hf
  refine lv_iconst (v := 0) hx hb dX5_reckonWhatIsBrought_0 (by decide) ?_
  refine lv_istore_n (lv' := [(1, .int 0), (0, .ref (p 5 0))]) hx hb dX5_reckonWhatIsBrought_1 rfl hl (by decide) rfl (fun ls hl => ?_)
  exact k2 fu _ _ _ _ _ hW hS (lv_sub hl [1, 0] rfl) hf
def f_X5_fellAllOnFallen_L2 (fu : Nat) : Nat → Int32 → ag_S → Option ag_S
  | 0, _, _ => none
  | nf + 1, x1, s => ag_bd (f_Jx4a65c_size_8abf5_3 fu s) fun r7 => if r7 ≤ x1 then (some s) else (ag_bd (f_Jx4a65c_get_915e3_3 fu x1 s) fun r18 => if s 3 1 r18 = -1 then (f_X5_fellAllOnFallen_L2 fu nf (x1 + 1) s) else (if s 3 1 r18 = -1 then none else if s 3 5 (s 3 1 r18) = 2 then (f_X5_fellAllOnFallen_L2 fu nf (x1 + 1) (ag_up s 3 5 r18 2)) else (f_X5_fellAllOnFallen_L2 fu nf (x1 + 1) s)))
def f_X5_fellAllOnFallen (fu : Nat) (s : ag_S) : Option ag_S := f_X5_fellAllOnFallen_L2 fu fu 0 s
abbrev rm_X5_fellAllOnFallen : Room := { frames := 3, cells := 0, slots := 0, locals := 64 }
theorem dd_yX5_fellAllOnFallen : yX5_fellAllOnFallen.cls = RX5 ∧ yX5_fellAllOnFallen.cls ≠ "java/lang/invoke/MethodHandle" ∧ yX5_fellAllOnFallen.cls ≠ "java/lang/invoke/VarHandle" ∧ (parseMethodDescriptor yX5_fellAllOnFallen.desc).map (fun d => d.parameters.length) = some 0 := by decide +kernel
set_option maxHeartbeats 4000000 in
set_option maxRecDepth 100000 in
theorem c_X5_fellAllOnFallen {z : ag_Z} {l : Launch} {n : ag_N} {p : ag_P} {s : ag_S} {fu : Nat} {out : ag_S} (t5 : vp_in 0 (n 5)) (hf : f_X5_fellAllOnFallen fu  s = some out) : Met l yX5_fellAllOnFallen (ag_ws yX5_fellAllOnFallen cX5_fellAllOnFallen 3 ((none))) rm_X5_fellAllOnFallen (va_Pc [.ref (p 5 0)] (ag_Pre z n p s)) (ag_Rv z n p out) 0 0 (ag_A z) := by
  refine Met.ofW (cc := cX5_fellAllOnFallen) (maxL := 3) (ret := (none)) (by decide) rfl ?_
  intro p0 e st m args below meth c s9 B hml hv
  obtain ⟨ha, h0, hG, hW⟩ := hv
  have hx := B.exec
  have hb := B.bytes
  have hr := B.returns
  have hts := atoms_spec (ws := ag_ws yX5_fellAllOnFallen cX5_fellAllOnFallen 3 ((none))) B.pre
  have hT : ∀ w ∈ ag_tbl, w.before args st = true := fun w h => hts w (List.mem_cons_of_mem _ h)
  have hown : st.vm.findClass RX5 = some m.cls := findClass_of_methodNamed B.named
  have hlocks := B.notSynchronized
  have hS : va_S (ag_A z) st.heap st.heap [] := va_S.rf
  obtain ⟨ls, hls, hl⟩ : ∃ ls, entryFrame m args 3 = F0 m 0 ls [] ∧ lv_has ls 3 [(0, .ref (p 5 0))] := by rw [ha]; exact ag_entry m [.ref (p 5 0)] (Nat.le_of_ble_eq_true rfl)
  rw [hls]
  have k2 : ∀ (nf : Nat) (x1 : Int32) (s : ag_S) (H : Heap) (locs : List Loc) (ls : Array Slot), ag_W z n p s H → va_S (ag_A z) st.heap H locs → lv_has ls 3 [(0, .ref (p 5 0)), (1, .int x1)] → f_X5_fellAllOnFallen_L2 fu nf x1 s = some out → W p0 l e (headSpec (ag_ws yX5_fellAllOnFallen cX5_fellAllOnFallen 3 ((none))) rm_X5_fellAllOnFallen).room st m args below meth c H locs 0 0 (MQ below (ag_Rv z n p out) args st 0 0 (ag_A z)) (F0 m 2 ls []) := by
    intro nf
    induction nf with
    | zero => intro x1 s H locs ls hW hS hl hf; rw [f_X5_fellAllOnFallen_L2] at hf; cases hf
    | succ nf ih =>
      intro x1 s H locs ls hW hS hl hf
      rw [f_X5_fellAllOnFallen_L2] at hf
      refine lv_iload_n hx hb dX5_fellAllOnFallen_2 rfl (lv_at hl 1 rfl) ?_
      refine lv_aload_n hx hb dX5_fellAllOnFallen_3 rfl (lv_at hl 0 rfl) ?_
      refine g5_3 hx hb hT hown hG hW t5 q154 dX5_fellAllOnFallen_4 ?_
      have t13 := ag_fix hW (k := 5) (f := 3) (t := 13) t5 rfl rfl
      obtain ⟨r7, hg7, hf⟩ := ag_bs hf
      refine ag_cVi hx hb hml hT hown hG h0 hS hW (c_Jx4a65c_size_8abf5_3 t13 hg7) ⟨rfl, rfl⟩ q193 q194 q195 q4 q196 dd_yJx4a65c_size_8abf5 ⟨Nat.le_of_ble_eq_true rfl, Nat.le_of_ble_eq_true rfl⟩ t13 rfl rfl hl.1 rfl (Nat.le_of_ble_eq_true rfl) ⟨Nat.le_of_ble_eq_true rfl, Nat.le_of_ble_eq_true rfl⟩ dX5_fellAllOnFallen_7 (fun H locs hW hS => ?_)
      refine lv_icmp_ge (tgt := 54) hx hb dX5_fellAllOnFallen_10 (by decide) (fun c10 => ?_) (fun c10 => ?_)
      · have hf := ag_t c10 hf
        exact ag_vret hx hb hr hlocks hS (Option.some.inj hf ▸ hW) dX5_fellAllOnFallen_54
      · have hf := ag_f c10 hf
        refine lv_aload_n hx hb dX5_fellAllOnFallen_13 rfl (lv_at hl 0 rfl) ?_
        refine g5_3 hx hb hT hown hG hW t5 q154 dX5_fellAllOnFallen_14 ?_
        have t13 := ag_fix hW (k := 5) (f := 3) (t := 13) t5 rfl rfl
        refine lv_iload_n hx hb dX5_fellAllOnFallen_17 rfl (lv_at hl 1 rfl) ?_
        obtain ⟨r18, hg18, hf⟩ := ag_bs hf
        refine ag_cVr hx hb hml hT hown hG h0 hS hW (c_Jx4a65c_get_915e3_3 t13 hg18) ⟨rfl, rfl⟩ q265 q266 q267 q4 q268 dd_yJx4a65c_get_915e3 ⟨Nat.le_of_ble_eq_true rfl, Nat.le_of_ble_eq_true rfl⟩ t13 rfl rfl hl.1 rfl (Nat.le_of_ble_eq_true rfl) ⟨Nat.le_of_ble_eq_true rfl, Nat.le_of_ble_eq_true rfl⟩ dX5_fellAllOnFallen_18 (fun H locs hW hS v18 => ?_)
        refine ag_cast hx hb hown hG hW v18 rfl rfl (hT _ q385) dX5_fellAllOnFallen_21 ?_
        refine lv_astore_n (lv' := [(2, .ref (p 3 r18)), (0, .ref (p 5 0)), (1, .int x1)]) hx hb dX5_fellAllOnFallen_24 rfl hl (by decide) rfl (fun ls hl => ?_)
        refine lv_aload_n hx hb dX5_fellAllOnFallen_25 rfl (lv_at hl 0 rfl) ?_
        refine g3_1 hx hb hT hown hG hW v18 q394 dX5_fellAllOnFallen_26 ?_
        have o26 := ag_W.okf hW (k := 3) (f := 1) (t := 3) rfl rfl (by decide) r18
        refine ag_ifnull (tgt := 48) hx hb o26 dX5_fellAllOnFallen_29 (by decide) (fun c29 => ?_) (fun c29 => ?_)
        · have hf := ag_t c29 hf
          refine lv_iinc (v := x1 + 1) (lv' := [(1, .int (x1 + 1)), (2, .ref (p 3 r18)), (0, .ref (p 5 0))]) hx hb dX5_fellAllOnFallen_48 hl (k := 2) rfl rfl (by decide) rfl (fun ls hl => ?_)
          refine lv_goto (tgt := 2) hx hb dX5_fellAllOnFallen_51 (by decide) ?_
          exact ih _ _ _ _ _ hW hS (lv_sub hl [2, 0] rfl) hf
        · have hf := ag_f c29 hf
          have e29 := (ag_refq (z := z) (p := p) o26 c29)
          have v29 := (ag_ref (z := z) (p := p) o26 c29).2
          refine lv_aload_n hx hb dX5_fellAllOnFallen_32 rfl (lv_at hl 0 rfl) ?_
          refine g3_1 hx hb hT hown hG hW v18 q394 dX5_fellAllOnFallen_33 ?_
          have o33 := ag_W.okf hW (k := 3) (f := 1) (t := 3) rfl rfl (by decide) r18
          obtain ⟨m36_1, hf⟩ := ag_n hf
          have e36_1 := (ag_refq (z := z) (p := p) o33 m36_1)
          have v36_1 := (ag_ref (z := z) (p := p) o33 m36_1).2
          rw [e36_1]
          refine g3_5 hx hb hT hown hG hW v36_1 q403 dX5_fellAllOnFallen_36 ?_
          refine lv_iconst (v := 2) hx hb dX5_fellAllOnFallen_39 (by decide) ?_
          refine lv_icmp_ne (tgt := 48) hx hb dX5_fellAllOnFallen_40 (by decide) (fun c40 => ?_) (fun c40 => ?_)
          · have hf := ag_f c40 hf
            refine lv_iinc (v := x1 + 1) (lv' := [(1, .int (x1 + 1)), (2, .ref (p 3 r18)), (0, .ref (p 5 0))]) hx hb dX5_fellAllOnFallen_48 hl (k := 2) rfl rfl (by decide) rfl (fun ls hl => ?_)
            refine lv_goto (tgt := 2) hx hb dX5_fellAllOnFallen_51 (by decide) ?_
            exact ih _ _ _ _ _ hW hS (lv_sub hl [2, 0] rfl) hf
          · have hf := ag_t c40 hf
            refine lv_aload_n hx hb dX5_fellAllOnFallen_43 rfl (lv_at hl 0 rfl) ?_
            refine lv_iconst (v := 2) hx hb dX5_fellAllOnFallen_44 (by decide) ?_
            refine u3_5 hx hb hT hown hG hW hS v18 q403 dX5_fellAllOnFallen_45 (fun H locs hW hS => ?_)
            refine lv_iinc (v := x1 + 1) (lv' := [(1, .int (x1 + 1)), (2, .ref (p 3 r18)), (0, .ref (p 5 0))]) hx hb dX5_fellAllOnFallen_48 hl (k := 2) rfl rfl (by decide) rfl (fun ls hl => ?_)
            refine lv_goto (tgt := 2) hx hb dX5_fellAllOnFallen_51 (by decide) ?_
            exact ih _ _ _ _ _ hW hS (lv_sub hl [2, 0] rfl) hf
  unfold f_X5_fellAllOnFallen at hf
  refine lv_iconst (v := 0) hx hb dX5_fellAllOnFallen_0 (by decide) ?_
  refine lv_istore_n (lv' := [(1, .int 0), (0, .ref (p 5 0))]) hx hb dX5_fellAllOnFallen_1 rfl hl (by decide) rfl (fun ls hl => ?_)
  exact k2 fu _ _ _ _ _ hW hS (lv_sub hl [1, 0] rfl) hf
def f_X5_withdrawThoseOnFallen_L4 (fu : Nat) : Nat → Int32 → Int32 → ag_S → Option (Int32 × ag_S)
  | 0, _, _, _ => none
  | nf + 1, x1, x2, s => ag_bd (f_Jx4a65c_size_8abf5_4 fu s) fun r9 => if r9 ≤ x2 then (some (x1, s)) else (ag_bd (f_Jx4a65c_get_915e3_4 fu x2 s) fun r20 => if s 4 6 r20 = 0 then (ag_bd (f_X1_hangsOnFallen fu r20 s) fun r35 => if r35 = 0 then (f_X5_withdrawThoseOnFallen_L4 fu nf x1 (x2 + 1) s) else (ag_bd (f_X1_withdraw fu r20 s) fun r42 => f_X5_withdrawThoseOnFallen_L4 fu nf (x1 + 1) (x2 + 1) r42)) else (f_X5_withdrawThoseOnFallen_L4 fu nf x1 (x2 + 1) s))
def f_X5_withdrawThoseOnFallen (fu : Nat) (s : ag_S) : Option (Int32 × ag_S) := f_X5_withdrawThoseOnFallen_L4 fu fu 0 0 s
abbrev rm_X5_withdrawThoseOnFallen : Room := { frames := 3, cells := 0, slots := 0, locals := 64 }
theorem dd_yX5_withdrawThoseOnFallen : yX5_withdrawThoseOnFallen.cls = RX5 ∧ yX5_withdrawThoseOnFallen.cls ≠ "java/lang/invoke/MethodHandle" ∧ yX5_withdrawThoseOnFallen.cls ≠ "java/lang/invoke/VarHandle" ∧ (parseMethodDescriptor yX5_withdrawThoseOnFallen.desc).map (fun d => d.parameters.length) = some 0 := by decide +kernel
set_option maxHeartbeats 4000000 in
set_option maxRecDepth 100000 in
theorem c_X5_withdrawThoseOnFallen {z : ag_Z} {l : Launch} {n : ag_N} {p : ag_P} {s : ag_S} {fu : Nat} {out : Int32 × ag_S} (t5 : vp_in 0 (n 5)) (hf : f_X5_withdrawThoseOnFallen fu  s = some out) : Met l yX5_withdrawThoseOnFallen (ag_ws yX5_withdrawThoseOnFallen cX5_withdrawThoseOnFallen 4 ((some FieldType.int))) rm_X5_withdrawThoseOnFallen (va_Pc [.ref (p 5 0)] (ag_Pre z n p s)) (ag_Ri z n p out.1 out.2) 0 0 (ag_A z) := by
  refine Met.ofW (cc := cX5_withdrawThoseOnFallen) (maxL := 4) (ret := (some FieldType.int)) (by decide) rfl ?_
  intro p0 e st m args below meth c s9 B hml hv
  obtain ⟨ha, h0, hG, hW⟩ := hv
  have hx := B.exec
  have hb := B.bytes
  have hr := B.returns
  have hts := atoms_spec (ws := ag_ws yX5_withdrawThoseOnFallen cX5_withdrawThoseOnFallen 4 ((some FieldType.int))) B.pre
  have hT : ∀ w ∈ ag_tbl, w.before args st = true := fun w h => hts w (List.mem_cons_of_mem _ h)
  have hown : st.vm.findClass RX5 = some m.cls := findClass_of_methodNamed B.named
  have hlocks := B.notSynchronized
  have hS : va_S (ag_A z) st.heap st.heap [] := va_S.rf
  obtain ⟨ls, hls, hl⟩ : ∃ ls, entryFrame m args 4 = F0 m 0 ls [] ∧ lv_has ls 4 [(0, .ref (p 5 0))] := by rw [ha]; exact ag_entry m [.ref (p 5 0)] (Nat.le_of_ble_eq_true rfl)
  rw [hls]
  have k4 : ∀ (nf : Nat) (x1 : Int32) (x2 : Int32) (s : ag_S) (H : Heap) (locs : List Loc) (ls : Array Slot), ag_W z n p s H → va_S (ag_A z) st.heap H locs → lv_has ls 4 [(0, .ref (p 5 0)), (1, .int x1), (2, .int x2)] → f_X5_withdrawThoseOnFallen_L4 fu nf x1 x2 s = some out → W p0 l e (headSpec (ag_ws yX5_withdrawThoseOnFallen cX5_withdrawThoseOnFallen 4 ((some FieldType.int))) rm_X5_withdrawThoseOnFallen).room st m args below meth c H locs 0 0 (MQ below (ag_Ri z n p out.1 out.2) args st 0 0 (ag_A z)) (F0 m 4 ls []) := by
    intro nf
    induction nf with
    | zero => intro x1 x2 s H locs ls hW hS hl hf; rw [f_X5_withdrawThoseOnFallen_L4] at hf; cases hf
    | succ nf ih =>
      intro x1 x2 s H locs ls hW hS hl hf
      rw [f_X5_withdrawThoseOnFallen_L4] at hf
      refine lv_iload_n hx hb dX5_withdrawThoseOnFallen_4 rfl (lv_at hl 2 rfl) ?_
      refine lv_aload_n hx hb dX5_withdrawThoseOnFallen_5 rfl (lv_at hl 0 rfl) ?_
      refine g5_4 hx hb hT hown hG hW t5 q155 dX5_withdrawThoseOnFallen_6 ?_
      have t14 := ag_fix hW (k := 5) (f := 4) (t := 14) t5 rfl rfl
      obtain ⟨r9, hg9, hf⟩ := ag_bs hf
      refine ag_cVi hx hb hml hT hown hG h0 hS hW (c_Jx4a65c_size_8abf5_4 t14 hg9) ⟨rfl, rfl⟩ q193 q194 q195 q4 q196 dd_yJx4a65c_size_8abf5 ⟨Nat.le_of_ble_eq_true rfl, Nat.le_of_ble_eq_true rfl⟩ t14 rfl rfl hl.1 rfl (Nat.le_of_ble_eq_true rfl) ⟨Nat.le_of_ble_eq_true rfl, Nat.le_of_ble_eq_true rfl⟩ dX5_withdrawThoseOnFallen_9 (fun H locs hW hS => ?_)
      refine lv_icmp_ge (tgt := 54) hx hb dX5_withdrawThoseOnFallen_12 (by decide) (fun c12 => ?_) (fun c12 => ?_)
      · have hf := ag_t c12 hf
        refine lv_iload_n hx hb dX5_withdrawThoseOnFallen_54 rfl (lv_at hl 1 rfl) ?_
        exact ag_iret hx hb hr rfl hlocks hS (congrArg Prod.fst (Option.some.inj hf)) (congrArg Prod.snd (Option.some.inj hf) ▸ hW) dX5_withdrawThoseOnFallen_55
      · have hf := ag_f c12 hf
        refine lv_aload_n hx hb dX5_withdrawThoseOnFallen_15 rfl (lv_at hl 0 rfl) ?_
        refine g5_4 hx hb hT hown hG hW t5 q155 dX5_withdrawThoseOnFallen_16 ?_
        have t14 := ag_fix hW (k := 5) (f := 4) (t := 14) t5 rfl rfl
        refine lv_iload_n hx hb dX5_withdrawThoseOnFallen_19 rfl (lv_at hl 2 rfl) ?_
        obtain ⟨r20, hg20, hf⟩ := ag_bs hf
        refine ag_cVr hx hb hml hT hown hG h0 hS hW (c_Jx4a65c_get_915e3_4 t14 hg20) ⟨rfl, rfl⟩ q265 q266 q267 q4 q268 dd_yJx4a65c_get_915e3 ⟨Nat.le_of_ble_eq_true rfl, Nat.le_of_ble_eq_true rfl⟩ t14 rfl rfl hl.1 rfl (Nat.le_of_ble_eq_true rfl) ⟨Nat.le_of_ble_eq_true rfl, Nat.le_of_ble_eq_true rfl⟩ dX5_withdrawThoseOnFallen_20 (fun H locs hW hS v20 => ?_)
        refine ag_cast hx hb hown hG hW v20 rfl rfl (hT _ q521) dX5_withdrawThoseOnFallen_23 ?_
        refine lv_astore_n (lv' := [(3, .ref (p 4 r20)), (0, .ref (p 5 0)), (1, .int x1), (2, .int x2)]) hx hb dX5_withdrawThoseOnFallen_26 rfl hl (by decide) rfl (fun ls hl => ?_)
        refine lv_aload_n hx hb dX5_withdrawThoseOnFallen_27 rfl (lv_at hl 0 rfl) ?_
        refine g4_6 hx hb hT hown hG hW v20 q606 dX5_withdrawThoseOnFallen_28 ?_
        refine lv_if_ne (tgt := 48) hx hb dX5_withdrawThoseOnFallen_31 (by decide) (fun c31 => ?_) (fun c31 => ?_)
        · have hf := ag_f c31 hf
          refine lv_iinc (v := x2 + 1) (lv' := [(2, .int (x2 + 1)), (3, .ref (p 4 r20)), (0, .ref (p 5 0)), (1, .int x1)]) hx hb dX5_withdrawThoseOnFallen_48 hl (k := 3) rfl rfl (by decide) rfl (fun ls hl => ?_)
          refine lv_goto (tgt := 4) hx hb dX5_withdrawThoseOnFallen_51 (by decide) ?_
          exact ih _ _ _ _ _ _ hW hS (lv_sub hl [2, 3, 0] rfl) hf
        · have hf := ag_t c31 hf
          refine lv_aload_n hx hb dX5_withdrawThoseOnFallen_34 rfl (lv_at hl 0 rfl) ?_
          obtain ⟨r35, hg35, hf⟩ := ag_bs hf
          refine ag_cVi hx hb hml hT hown hG h0 hS hW (c_X1_hangsOnFallen v20 hg35) ⟨rfl, rfl⟩ q547 q548 q549 q23 q550 dd_yX1_hangsOnFallen ⟨Nat.le_of_ble_eq_true rfl, Nat.le_of_ble_eq_true rfl⟩ v20 rfl rfl hl.1 rfl (Nat.le_of_ble_eq_true rfl) ⟨Nat.le_of_ble_eq_true rfl, Nat.le_of_ble_eq_true rfl⟩ dX5_withdrawThoseOnFallen_35 (fun H locs hW hS => ?_)
          refine lv_if_eq (tgt := 48) hx hb dX5_withdrawThoseOnFallen_38 (by decide) (fun c38 => ?_) (fun c38 => ?_)
          · have hf := ag_t c38 hf
            refine lv_iinc (v := x2 + 1) (lv' := [(2, .int (x2 + 1)), (3, .ref (p 4 r20)), (0, .ref (p 5 0)), (1, .int x1)]) hx hb dX5_withdrawThoseOnFallen_48 hl (k := 3) rfl rfl (by decide) rfl (fun ls hl => ?_)
            refine lv_goto (tgt := 4) hx hb dX5_withdrawThoseOnFallen_51 (by decide) ?_
            exact ih _ _ _ _ _ _ hW hS (lv_sub hl [2, 3, 0] rfl) hf
          · have hf := ag_f c38 hf
            refine lv_aload_n hx hb dX5_withdrawThoseOnFallen_41 rfl (lv_at hl 0 rfl) ?_
            obtain ⟨r42, hg42, hf⟩ := ag_bs hf
            refine ag_cVv hx hb hml hT hown hG h0 hS hW (c_X1_withdraw v20 hg42) ⟨rfl, rfl⟩ q551 q552 q553 q23 q554 dd_yX1_withdraw ⟨Nat.le_of_ble_eq_true rfl, Nat.le_of_ble_eq_true rfl⟩ v20 rfl rfl hl.1 rfl (Nat.le_of_ble_eq_true rfl) ⟨Nat.le_of_ble_eq_true rfl, Nat.le_of_ble_eq_true rfl⟩ dX5_withdrawThoseOnFallen_42 (fun H locs hW hS => ?_)
            refine lv_iinc (v := x1 + 1) (lv' := [(1, .int (x1 + 1)), (3, .ref (p 4 r20)), (0, .ref (p 5 0)), (2, .int x2)]) hx hb dX5_withdrawThoseOnFallen_45 hl (k := 2) rfl rfl (by decide) rfl (fun ls hl => ?_)
            refine lv_iinc (v := x2 + 1) (lv' := [(2, .int (x2 + 1)), (1, .int (x1 + 1)), (3, .ref (p 4 r20)), (0, .ref (p 5 0))]) hx hb dX5_withdrawThoseOnFallen_48 hl (k := 3) rfl rfl (by decide) rfl (fun ls hl => ?_)
            refine lv_goto (tgt := 4) hx hb dX5_withdrawThoseOnFallen_51 (by decide) ?_
            exact ih _ _ _ _ _ _ hW hS (lv_sub hl [3, 1, 0] rfl) hf
  unfold f_X5_withdrawThoseOnFallen at hf
  refine lv_iconst (v := 0) hx hb dX5_withdrawThoseOnFallen_0 (by decide) ?_
  refine lv_istore_n (lv' := [(1, .int 0), (0, .ref (p 5 0))]) hx hb dX5_withdrawThoseOnFallen_1 rfl hl (by decide) rfl (fun ls hl => ?_)
  refine lv_iconst (v := 0) hx hb dX5_withdrawThoseOnFallen_2 (by decide) ?_
  refine lv_istore_n (lv' := [(2, .int 0), (1, .int 0), (0, .ref (p 5 0))]) hx hb dX5_withdrawThoseOnFallen_3 rfl hl (by decide) rfl (fun ls hl => ?_)
  exact k4 fu _ _ _ _ _ _ hW hS (lv_sub hl [2, 1, 0] rfl) hf
def f_X5_withdrawOverdue_L2 (fu : Nat) : Nat → Int32 → ag_S → Option ag_S
  | 0, _, _ => none
  | nf + 1, x1, s => ag_bd (f_Jx4a65c_size_8abf5_4 fu s) fun r7 => if r7 ≤ x1 then (some s) else (ag_bd (f_Jx4a65c_get_915e3_4 fu x1 s) fun r18 => ag_bd (f_X1_isOverdue fu r18 (s 5 7 0) s) fun r30 => if r30 = 0 then (f_X5_withdrawOverdue_L2 fu nf (x1 + 1) s) else (ag_bd (f_X1_withdraw fu r18 s) fun r37 => f_X5_withdrawOverdue_L2 fu nf (x1 + 1) r37))
def f_X5_withdrawOverdue (fu : Nat) (s : ag_S) : Option ag_S := f_X5_withdrawOverdue_L2 fu fu 0 s
abbrev rm_X5_withdrawOverdue : Room := { frames := 3, cells := 0, slots := 0, locals := 64 }
theorem dd_yX5_withdrawOverdue : yX5_withdrawOverdue.cls = RX5 ∧ yX5_withdrawOverdue.cls ≠ "java/lang/invoke/MethodHandle" ∧ yX5_withdrawOverdue.cls ≠ "java/lang/invoke/VarHandle" ∧ (parseMethodDescriptor yX5_withdrawOverdue.desc).map (fun d => d.parameters.length) = some 0 := by decide +kernel
set_option maxHeartbeats 4000000 in
set_option maxRecDepth 100000 in
theorem c_X5_withdrawOverdue {z : ag_Z} {l : Launch} {n : ag_N} {p : ag_P} {s : ag_S} {fu : Nat} {out : ag_S} (t5 : vp_in 0 (n 5)) (hf : f_X5_withdrawOverdue fu  s = some out) : Met l yX5_withdrawOverdue (ag_ws yX5_withdrawOverdue cX5_withdrawOverdue 3 ((none))) rm_X5_withdrawOverdue (va_Pc [.ref (p 5 0)] (ag_Pre z n p s)) (ag_Rv z n p out) 0 0 (ag_A z) := by
  refine Met.ofW (cc := cX5_withdrawOverdue) (maxL := 3) (ret := (none)) (by decide) rfl ?_
  intro p0 e st m args below meth c s9 B hml hv
  obtain ⟨ha, h0, hG, hW⟩ := hv
  have hx := B.exec
  have hb := B.bytes
  have hr := B.returns
  have hts := atoms_spec (ws := ag_ws yX5_withdrawOverdue cX5_withdrawOverdue 3 ((none))) B.pre
  have hT : ∀ w ∈ ag_tbl, w.before args st = true := fun w h => hts w (List.mem_cons_of_mem _ h)
  have hown : st.vm.findClass RX5 = some m.cls := findClass_of_methodNamed B.named
  have hlocks := B.notSynchronized
  have hS : va_S (ag_A z) st.heap st.heap [] := va_S.rf
  obtain ⟨ls, hls, hl⟩ : ∃ ls, entryFrame m args 3 = F0 m 0 ls [] ∧ lv_has ls 3 [(0, .ref (p 5 0))] := by rw [ha]; exact ag_entry m [.ref (p 5 0)] (Nat.le_of_ble_eq_true rfl)
  rw [hls]
  have k2 : ∀ (nf : Nat) (x1 : Int32) (s : ag_S) (H : Heap) (locs : List Loc) (ls : Array Slot), ag_W z n p s H → va_S (ag_A z) st.heap H locs → lv_has ls 3 [(0, .ref (p 5 0)), (1, .int x1)] → f_X5_withdrawOverdue_L2 fu nf x1 s = some out → W p0 l e (headSpec (ag_ws yX5_withdrawOverdue cX5_withdrawOverdue 3 ((none))) rm_X5_withdrawOverdue).room st m args below meth c H locs 0 0 (MQ below (ag_Rv z n p out) args st 0 0 (ag_A z)) (F0 m 2 ls []) := by
    intro nf
    induction nf with
    | zero => intro x1 s H locs ls hW hS hl hf; rw [f_X5_withdrawOverdue_L2] at hf; cases hf
    | succ nf ih =>
      intro x1 s H locs ls hW hS hl hf
      rw [f_X5_withdrawOverdue_L2] at hf
      refine lv_iload_n hx hb dX5_withdrawOverdue_2 rfl (lv_at hl 1 rfl) ?_
      refine lv_aload_n hx hb dX5_withdrawOverdue_3 rfl (lv_at hl 0 rfl) ?_
      refine g5_4 hx hb hT hown hG hW t5 q155 dX5_withdrawOverdue_4 ?_
      have t14 := ag_fix hW (k := 5) (f := 4) (t := 14) t5 rfl rfl
      obtain ⟨r7, hg7, hf⟩ := ag_bs hf
      refine ag_cVi hx hb hml hT hown hG h0 hS hW (c_Jx4a65c_size_8abf5_4 t14 hg7) ⟨rfl, rfl⟩ q193 q194 q195 q4 q196 dd_yJx4a65c_size_8abf5 ⟨Nat.le_of_ble_eq_true rfl, Nat.le_of_ble_eq_true rfl⟩ t14 rfl rfl hl.1 rfl (Nat.le_of_ble_eq_true rfl) ⟨Nat.le_of_ble_eq_true rfl, Nat.le_of_ble_eq_true rfl⟩ dX5_withdrawOverdue_7 (fun H locs hW hS => ?_)
      refine lv_icmp_ge (tgt := 46) hx hb dX5_withdrawOverdue_10 (by decide) (fun c10 => ?_) (fun c10 => ?_)
      · have hf := ag_t c10 hf
        exact ag_vret hx hb hr hlocks hS (Option.some.inj hf ▸ hW) dX5_withdrawOverdue_46
      · have hf := ag_f c10 hf
        refine lv_aload_n hx hb dX5_withdrawOverdue_13 rfl (lv_at hl 0 rfl) ?_
        refine g5_4 hx hb hT hown hG hW t5 q155 dX5_withdrawOverdue_14 ?_
        have t14 := ag_fix hW (k := 5) (f := 4) (t := 14) t5 rfl rfl
        refine lv_iload_n hx hb dX5_withdrawOverdue_17 rfl (lv_at hl 1 rfl) ?_
        obtain ⟨r18, hg18, hf⟩ := ag_bs hf
        refine ag_cVr hx hb hml hT hown hG h0 hS hW (c_Jx4a65c_get_915e3_4 t14 hg18) ⟨rfl, rfl⟩ q265 q266 q267 q4 q268 dd_yJx4a65c_get_915e3 ⟨Nat.le_of_ble_eq_true rfl, Nat.le_of_ble_eq_true rfl⟩ t14 rfl rfl hl.1 rfl (Nat.le_of_ble_eq_true rfl) ⟨Nat.le_of_ble_eq_true rfl, Nat.le_of_ble_eq_true rfl⟩ dX5_withdrawOverdue_18 (fun H locs hW hS v18 => ?_)
        refine ag_cast hx hb hown hG hW v18 rfl rfl (hT _ q521) dX5_withdrawOverdue_21 ?_
        refine lv_astore_n (lv' := [(2, .ref (p 4 r18)), (0, .ref (p 5 0)), (1, .int x1)]) hx hb dX5_withdrawOverdue_24 rfl hl (by decide) rfl (fun ls hl => ?_)
        refine lv_aload_n hx hb dX5_withdrawOverdue_25 rfl (lv_at hl 0 rfl) ?_
        refine lv_aload_n hx hb dX5_withdrawOverdue_26 rfl (lv_at hl 1 rfl) ?_
        refine g5_7 hx hb hT hown hG hW t5 q158 dX5_withdrawOverdue_27 ?_
        obtain ⟨r30, hg30, hf⟩ := ag_bs hf
        refine ag_cVi hx hb hml hT hown hG h0 hS hW (c_X1_isOverdue v18 hg30) ⟨rfl, rfl⟩ q705 q706 q707 q23 q708 dd_yX1_isOverdue ⟨Nat.le_of_ble_eq_true rfl, Nat.le_of_ble_eq_true rfl⟩ v18 rfl rfl hl.1 rfl (Nat.le_of_ble_eq_true rfl) ⟨Nat.le_of_ble_eq_true rfl, Nat.le_of_ble_eq_true rfl⟩ dX5_withdrawOverdue_30 (fun H locs hW hS => ?_)
        refine lv_if_eq (tgt := 40) hx hb dX5_withdrawOverdue_33 (by decide) (fun c33 => ?_) (fun c33 => ?_)
        · have hf := ag_t c33 hf
          refine lv_iinc (v := x1 + 1) (lv' := [(1, .int (x1 + 1)), (2, .ref (p 4 r18)), (0, .ref (p 5 0))]) hx hb dX5_withdrawOverdue_40 hl (k := 2) rfl rfl (by decide) rfl (fun ls hl => ?_)
          refine lv_goto (tgt := 2) hx hb dX5_withdrawOverdue_43 (by decide) ?_
          exact ih _ _ _ _ _ hW hS (lv_sub hl [2, 0] rfl) hf
        · have hf := ag_f c33 hf
          refine lv_aload_n hx hb dX5_withdrawOverdue_36 rfl (lv_at hl 0 rfl) ?_
          obtain ⟨r37, hg37, hf⟩ := ag_bs hf
          refine ag_cVv hx hb hml hT hown hG h0 hS hW (c_X1_withdraw v18 hg37) ⟨rfl, rfl⟩ q551 q552 q553 q23 q554 dd_yX1_withdraw ⟨Nat.le_of_ble_eq_true rfl, Nat.le_of_ble_eq_true rfl⟩ v18 rfl rfl hl.1 rfl (Nat.le_of_ble_eq_true rfl) ⟨Nat.le_of_ble_eq_true rfl, Nat.le_of_ble_eq_true rfl⟩ dX5_withdrawOverdue_37 (fun H locs hW hS => ?_)
          refine lv_iinc (v := x1 + 1) (lv' := [(1, .int (x1 + 1)), (2, .ref (p 4 r18)), (0, .ref (p 5 0))]) hx hb dX5_withdrawOverdue_40 hl (k := 2) rfl rfl (by decide) rfl (fun ls hl => ?_)
          refine lv_goto (tgt := 2) hx hb dX5_withdrawOverdue_43 (by decide) ?_
          exact ih _ _ _ _ _ hW hS (lv_sub hl [2, 0] rfl) hf
  unfold f_X5_withdrawOverdue at hf
  refine lv_iconst (v := 0) hx hb dX5_withdrawOverdue_0 (by decide) ?_
  refine lv_istore_n (lv' := [(1, .int 0), (0, .ref (p 5 0))]) hx hb dX5_withdrawOverdue_1 rfl hl (by decide) rfl (fun ls hl => ?_)
  exact k2 fu _ _ _ _ _ hW hS (lv_sub hl [1, 0] rfl) hf
def f_X5_balance_b68 (fu : Nat) (x1 : Int32) (x2 : Int32) (s : ag_S) : Option (Int32 × ag_S) := ag_bd (f_X5_freeOf fu x1 s) fun r70 => if -r70 ≤ 0 then (some (x2, s)) else (some (x2, (ag_up (ag_up s 2 6 x1 ((s 2 6 x1) + (-r70))) 5 5 0 (((ag_up s 2 6 x1 ((s 2 6 x1) + (-r70))) 5 5 0) - (-r70)))))
def f_X5_balance_L12 (fu : Nat) : Nat → Int32 → Int32 → Int32 → ag_S → Option (Int32 × ag_S)
  | 0, _, _, _, _ => none
  | nf + 1, x1, x2, x3, s => if x3 < 0 then (f_X5_balance_b68 fu x1 x2 s) else (ag_bd (f_X5_freeOf fu x1 s) fun r18 => if (0 : Int32) ≤ r18 then (f_X5_balance_b68 fu x1 x2 s) else (ag_bd (f_Jx4a65c_get_915e3_4 fu x3 s) fun r29 => if s 4 0 r29 = x1 then (if s 4 6 r29 = 0 then (ag_bd (f_X1_cut fu r29 s) fun r56 => f_X5_balance_L12 fu nf x1 (x2 + 1) (x3 + (-1)) r56) else (f_X5_balance_L12 fu nf x1 x2 (x3 + (-1)) s)) else (f_X5_balance_L12 fu nf x1 x2 (x3 + (-1)) s)))
def f_X5_balance (fu : Nat) (x1 : Int32) (s : ag_S) : Option (Int32 × ag_S) := ag_bd (f_Jx4a65c_size_8abf5_4 fu s) fun r6 => f_X5_balance_L12 fu fu x1 0 (r6 - 1) s
abbrev rm_X5_balance : Room := { frames := 5, cells := 0, slots := 0, locals := 109 }
theorem dd_yX5_balance : yX5_balance.cls = RX5 ∧ yX5_balance.cls ≠ "java/lang/invoke/MethodHandle" ∧ yX5_balance.cls ≠ "java/lang/invoke/VarHandle" ∧ (parseMethodDescriptor yX5_balance.desc).map (fun d => d.parameters.length) = some 1 := by decide +kernel
set_option maxHeartbeats 4000000 in
set_option maxRecDepth 100000 in
theorem c_X5_balance {z : ag_Z} {l : Launch} {n : ag_N} {p : ag_P} {s : ag_S} {fu : Nat} {x1 : Int32} {out : Int32 × ag_S} (t5 : vp_in 0 (n 5)) (v1 : vp_in x1 (n 2)) (hf : f_X5_balance fu x1 s = some out) : Met l yX5_balance (ag_ws yX5_balance cX5_balance 5 ((some FieldType.int))) rm_X5_balance (va_Pc [.ref (p 5 0), .ref (p 2 x1)] (ag_Pre z n p s)) (ag_Ri z n p out.1 out.2) 0 0 (ag_A z) := by
  refine Met.ofW (cc := cX5_balance) (maxL := 5) (ret := (some FieldType.int)) (by decide) rfl ?_
  intro p0 e st m args below meth c s9 B hml hv
  obtain ⟨ha, h0, hG, hW⟩ := hv
  have hx := B.exec
  have hb := B.bytes
  have hr := B.returns
  have hts := atoms_spec (ws := ag_ws yX5_balance cX5_balance 5 ((some FieldType.int))) B.pre
  have hT : ∀ w ∈ ag_tbl, w.before args st = true := fun w h => hts w (List.mem_cons_of_mem _ h)
  have hown : st.vm.findClass RX5 = some m.cls := findClass_of_methodNamed B.named
  have hlocks := B.notSynchronized
  have hS : va_S (ag_A z) st.heap st.heap [] := va_S.rf
  obtain ⟨ls, hls, hl⟩ : ∃ ls, entryFrame m args 5 = F0 m 0 ls [] ∧ lv_has ls 5 [(0, .ref (p 5 0)), (1, .ref (p 2 x1))] := by rw [ha]; exact ag_entry m [.ref (p 5 0), .ref (p 2 x1)] (Nat.le_of_ble_eq_true rfl)
  rw [hls]
  have k68 : ∀ (x1 : Int32) (x2 : Int32) (s : ag_S) (H : Heap) (locs : List Loc) (ls : Array Slot) (vx1 : vp_in x1 (n 2)), ag_W z n p s H → va_S (ag_A z) st.heap H locs → lv_has ls 5 [(0, .ref (p 5 0)), (1, .ref (p 2 x1)), (2, .int x2)] → f_X5_balance_b68 fu x1 x2 s = some out → W p0 l e (headSpec (ag_ws yX5_balance cX5_balance 5 ((some FieldType.int))) rm_X5_balance).room st m args below meth c H locs 0 0 (MQ below (ag_Ri z n p out.1 out.2) args st 0 0 (ag_A z)) (F0 m 68 ls []) := by
    intro x1 x2 s H locs ls vx1 hW hS hl hf
    unfold f_X5_balance_b68 at hf
    refine lv_aload_n hx hb dX5_balance_68 rfl (lv_at hl 0 rfl) ?_
    refine lv_aload_n hx hb dX5_balance_69 rfl (lv_at hl 1 rfl) ?_
    obtain ⟨r70, hg70, hf⟩ := ag_bs hf
    refine ag_cVi hx hb hml hT hown hG h0 hS hW (c_X5_freeOf t5 vx1 hg70) ⟨rfl, rfl⟩ q505 q507 qs13 q1 q508 dd_yX5_freeOf ⟨Nat.le_of_ble_eq_true rfl, Nat.le_of_ble_eq_true rfl⟩ t5 rfl rfl hl.1 rfl (Nat.le_of_ble_eq_true rfl) ⟨Nat.le_of_ble_eq_true rfl, Nat.le_of_ble_eq_true rfl⟩ dX5_balance_70 (fun H locs hW hS => ?_)
    refine lv_ineg hx hb dX5_balance_73 ?_
    refine lv_istore_n (lv' := [(3, .int (-r70)), (0, .ref (p 5 0)), (1, .ref (p 2 x1)), (2, .int x2)]) hx hb dX5_balance_74 rfl hl (by decide) rfl (fun ls hl => ?_)
    refine lv_iload_n hx hb dX5_balance_75 rfl (lv_at hl 0 rfl) ?_
    refine lv_if_le (tgt := 99) hx hb dX5_balance_76 (by decide) (fun c76 => ?_) (fun c76 => ?_)
    · have hf := ag_t c76 hf
      refine lv_iload_n hx hb dX5_balance_99 rfl (lv_at hl 3 rfl) ?_
      exact ag_iret hx hb hr rfl hlocks hS (congrArg Prod.fst (Option.some.inj hf)) (congrArg Prod.snd (Option.some.inj hf) ▸ hW) dX5_balance_100
    · have hf := ag_f c76 hf
      refine lv_aload_n hx hb dX5_balance_79 rfl (lv_at hl 2 rfl) ?_
      refine lv_dup hx hb dX5_balance_80 rfl ?_
      refine g2_6 hx hb hT hown hG hW vx1 q319 dX5_balance_81 ?_
      refine lv_iload_n hx hb dX5_balance_84 rfl (lv_at hl 0 rfl) ?_
      refine lv_iadd hx hb dX5_balance_85 ?_
      refine u2_6 hx hb hT hown hG hW hS vx1 q319 dX5_balance_86 (fun H locs hW hS => ?_)
      refine lv_aload_n hx hb dX5_balance_89 rfl (lv_at hl 1 rfl) ?_
      refine lv_dup hx hb dX5_balance_90 rfl ?_
      refine g5_5 hx hb hT hown hG hW t5 q156 dX5_balance_91 ?_
      refine lv_iload_n hx hb dX5_balance_94 rfl (lv_at hl 0 rfl) ?_
      refine lv_isub hx hb dX5_balance_95 ?_
      refine u5_5 hx hb hT hown hG hW hS t5 q156 dX5_balance_96 (fun H locs hW hS => ?_)
      refine lv_iload_n hx hb dX5_balance_99 rfl (lv_at hl 3 rfl) ?_
      exact ag_iret hx hb hr rfl hlocks hS (congrArg Prod.fst (Option.some.inj hf)) (congrArg Prod.snd (Option.some.inj hf) ▸ hW) dX5_balance_100
  have k12 : ∀ (nf : Nat) (x1 : Int32) (x2 : Int32) (x3 : Int32) (s : ag_S) (H : Heap) (locs : List Loc) (ls : Array Slot) (vx1 : vp_in x1 (n 2)), ag_W z n p s H → va_S (ag_A z) st.heap H locs → lv_has ls 5 [(0, .ref (p 5 0)), (1, .ref (p 2 x1)), (2, .int x2), (3, .int x3)] → f_X5_balance_L12 fu nf x1 x2 x3 s = some out → W p0 l e (headSpec (ag_ws yX5_balance cX5_balance 5 ((some FieldType.int))) rm_X5_balance).room st m args below meth c H locs 0 0 (MQ below (ag_Ri z n p out.1 out.2) args st 0 0 (ag_A z)) (F0 m 12 ls []) := by
    intro nf
    induction nf with
    | zero => intro x1 x2 x3 s H locs ls vx1 hW hS hl hf; rw [f_X5_balance_L12] at hf; cases hf
    | succ nf ih =>
      intro x1 x2 x3 s H locs ls vx1 hW hS hl hf
      rw [f_X5_balance_L12] at hf
      refine lv_iload_n hx hb dX5_balance_12 rfl (lv_at hl 3 rfl) ?_
      refine lv_if_lt (tgt := 68) hx hb dX5_balance_13 (by decide) (fun c13 => ?_) (fun c13 => ?_)
      · have hf := ag_t c13 hf
        exact k68 _ _ _ _ _ _ vx1 hW hS (lv_sub hl [0, 1, 2] rfl) hf
      · have hf := ag_f c13 hf
        refine lv_aload_n hx hb dX5_balance_16 rfl (lv_at hl 0 rfl) ?_
        refine lv_aload_n hx hb dX5_balance_17 rfl (lv_at hl 1 rfl) ?_
        obtain ⟨r18, hg18, hf⟩ := ag_bs hf
        refine ag_cVi hx hb hml hT hown hG h0 hS hW (c_X5_freeOf t5 vx1 hg18) ⟨rfl, rfl⟩ q505 q507 qs13 q1 q508 dd_yX5_freeOf ⟨Nat.le_of_ble_eq_true rfl, Nat.le_of_ble_eq_true rfl⟩ t5 rfl rfl hl.1 rfl (Nat.le_of_ble_eq_true rfl) ⟨Nat.le_of_ble_eq_true rfl, Nat.le_of_ble_eq_true rfl⟩ dX5_balance_18 (fun H locs hW hS => ?_)
        refine lv_if_ge (tgt := 68) hx hb dX5_balance_21 (by decide) (fun c21 => ?_) (fun c21 => ?_)
        · have hf := ag_t c21 hf
          exact k68 _ _ _ _ _ _ vx1 hW hS (lv_sub hl [0, 1, 2] rfl) hf
        · have hf := ag_f c21 hf
          refine lv_aload_n hx hb dX5_balance_24 rfl (lv_at hl 0 rfl) ?_
          refine g5_4 hx hb hT hown hG hW t5 q155 dX5_balance_25 ?_
          have t14 := ag_fix hW (k := 5) (f := 4) (t := 14) t5 rfl rfl
          refine lv_iload_n hx hb dX5_balance_28 rfl (lv_at hl 3 rfl) ?_
          obtain ⟨r29, hg29, hf⟩ := ag_bs hf
          refine ag_cVr hx hb hml hT hown hG h0 hS hW (c_Jx4a65c_get_915e3_4 t14 hg29) ⟨rfl, rfl⟩ q265 q266 q267 q4 q268 dd_yJx4a65c_get_915e3 ⟨Nat.le_of_ble_eq_true rfl, Nat.le_of_ble_eq_true rfl⟩ t14 rfl rfl hl.1 rfl (Nat.le_of_ble_eq_true rfl) ⟨Nat.le_of_ble_eq_true rfl, Nat.le_of_ble_eq_true rfl⟩ dX5_balance_29 (fun H locs hW hS v29 => ?_)
          refine ag_cast hx hb hown hG hW v29 rfl rfl (hT _ q521) dX5_balance_32 ?_
          refine lv_astore (lv' := [(4, .ref (p 4 r29)), (0, .ref (p 5 0)), (1, .ref (p 2 x1)), (2, .int x2), (3, .int x3)]) hx hb dX5_balance_35 hl (by decide) rfl (fun ls hl => ?_)
          refine lv_aload hx hb dX5_balance_37 (lv_at hl 0 rfl) ?_
          refine g4_0 hx hb hT hown hG hW v29 q594 dX5_balance_39 ?_
          have o39 := ag_W.okf hW (k := 4) (f := 0) (t := 2) rfl rfl (by decide) r29
          refine lv_aload_n hx hb dX5_balance_42 rfl (lv_at hl 2 rfl) ?_
          refine ag_acmp_ne (t := 2) (v := s 4 0 r29) (w := x1) (tgt := 62) hx hb hW o39 vx1 dX5_balance_43 (by decide) (fun c43 => ?_) (fun c43 => ?_)
          · have hf := ag_f c43 hf
            refine lv_iinc (v := x3 + (-1)) (lv' := [(3, .int (x3 + (-1))), (4, .ref (p 4 r29)), (0, .ref (p 5 0)), (1, .ref (p 2 x1)), (2, .int x2)]) hx hb dX5_balance_62 hl (k := 4) rfl rfl (by decide) rfl (fun ls hl => ?_)
            refine lv_goto (tgt := 12) hx hb dX5_balance_65 (by decide) ?_
            exact ih _ _ _ _ _ _ _ vx1 hW hS (lv_sub hl [2, 3, 4, 0] rfl) hf
          · have hf := ag_t c43 hf
            refine lv_aload hx hb dX5_balance_46 (lv_at hl 0 rfl) ?_
            refine g4_6 hx hb hT hown hG hW v29 q606 dX5_balance_48 ?_
            refine lv_if_ne (tgt := 62) hx hb dX5_balance_51 (by decide) (fun c51 => ?_) (fun c51 => ?_)
            · have hf := ag_f c51 hf
              refine lv_iinc (v := x3 + (-1)) (lv' := [(3, .int (x3 + (-1))), (4, .ref (p 4 r29)), (0, .ref (p 5 0)), (1, .ref (p 2 x1)), (2, .int x2)]) hx hb dX5_balance_62 hl (k := 4) rfl rfl (by decide) rfl (fun ls hl => ?_)
              refine lv_goto (tgt := 12) hx hb dX5_balance_65 (by decide) ?_
              exact ih _ _ _ _ _ _ _ vx1 hW hS (lv_sub hl [2, 3, 4, 0] rfl) hf
            · have hf := ag_t c51 hf
              refine lv_aload hx hb dX5_balance_54 (lv_at hl 0 rfl) ?_
              obtain ⟨r56, hg56, hf⟩ := ag_bs hf
              refine ag_cVv hx hb hml hT hown hG h0 hS hW (c_X1_cut v29 hg56) ⟨rfl, rfl⟩ q526 q527 q528 q23 q529 dd_yX1_cut ⟨Nat.le_of_ble_eq_true rfl, Nat.le_of_ble_eq_true rfl⟩ v29 rfl rfl hl.1 rfl (Nat.le_of_ble_eq_true rfl) ⟨Nat.le_of_ble_eq_true rfl, Nat.le_of_ble_eq_true rfl⟩ dX5_balance_56 (fun H locs hW hS => ?_)
              refine lv_iinc (v := x2 + 1) (lv' := [(2, .int (x2 + 1)), (4, .ref (p 4 r29)), (0, .ref (p 5 0)), (1, .ref (p 2 x1)), (3, .int x3)]) hx hb dX5_balance_59 hl (k := 3) rfl rfl (by decide) rfl (fun ls hl => ?_)
              refine lv_iinc (v := x3 + (-1)) (lv' := [(3, .int (x3 + (-1))), (2, .int (x2 + 1)), (4, .ref (p 4 r29)), (0, .ref (p 5 0)), (1, .ref (p 2 x1))]) hx hb dX5_balance_62 hl (k := 4) rfl rfl (by decide) rfl (fun ls hl => ?_)
              refine lv_goto (tgt := 12) hx hb dX5_balance_65 (by decide) ?_
              exact ih _ _ _ _ _ _ _ vx1 hW hS (lv_sub hl [3, 4, 1, 0] rfl) hf
  unfold f_X5_balance at hf
  refine lv_iconst (v := 0) hx hb dX5_balance_0 (by decide) ?_
  refine lv_istore_n (lv' := [(2, .int 0), (0, .ref (p 5 0)), (1, .ref (p 2 x1))]) hx hb dX5_balance_1 rfl hl (by decide) rfl (fun ls hl => ?_)
  refine lv_aload_n hx hb dX5_balance_2 rfl (lv_at hl 1 rfl) ?_
  refine g5_4 hx hb hT hown hG hW t5 q155 dX5_balance_3 ?_
  have t14 := ag_fix hW (k := 5) (f := 4) (t := 14) t5 rfl rfl
  obtain ⟨r6, hg6, hf⟩ := ag_bs hf
  refine ag_cVi hx hb hml hT hown hG h0 hS hW (c_Jx4a65c_size_8abf5_4 t14 hg6) ⟨rfl, rfl⟩ q193 q194 q195 q4 q196 dd_yJx4a65c_size_8abf5 ⟨Nat.le_of_ble_eq_true rfl, Nat.le_of_ble_eq_true rfl⟩ t14 rfl rfl hl.1 rfl (Nat.le_of_ble_eq_true rfl) ⟨Nat.le_of_ble_eq_true rfl, Nat.le_of_ble_eq_true rfl⟩ dX5_balance_6 (fun H locs hW hS => ?_)
  refine lv_iconst (v := 1) hx hb dX5_balance_9 (by decide) ?_
  refine lv_isub hx hb dX5_balance_10 ?_
  refine lv_istore_n (lv' := [(3, .int (r6 - 1)), (2, .int 0), (0, .ref (p 5 0)), (1, .ref (p 2 x1))]) hx hb dX5_balance_11 rfl hl (by decide) rfl (fun ls hl => ?_)
  exact k12 fu _ _ _ _ _ _ _ v1 hW hS (lv_sub hl [2, 3, 1, 0] rfl) hf
def f_X5_takeFrom (fu : Nat) (x1 : Int32) (x2 : Int32) (s : ag_S) : Option ag_S := ag_bd (f_X5_freeOf fu x1 s) fun r2 => if r2 ≤ 0 then (some s) else (some (ag_up (ag_up s 2 5 x1 ((s 2 5 x1) + (if x2 < r2 / 10 then x2 else r2 / 10))) 5 5 0 (((ag_up s 2 5 x1 ((s 2 5 x1) + (if x2 < r2 / 10 then x2 else r2 / 10))) 5 5 0) + (if x2 < r2 / 10 then x2 else r2 / 10))))
abbrev rm_X5_takeFrom : Room := { frames := 5, cells := 0, slots := 0, locals := 109 }
theorem dd_yX5_takeFrom : yX5_takeFrom.cls = RX5 ∧ yX5_takeFrom.cls ≠ "java/lang/invoke/MethodHandle" ∧ yX5_takeFrom.cls ≠ "java/lang/invoke/VarHandle" ∧ (parseMethodDescriptor yX5_takeFrom.desc).map (fun d => d.parameters.length) = some 2 := by decide +kernel
set_option maxHeartbeats 4000000 in
set_option maxRecDepth 100000 in
theorem c_X5_takeFrom {z : ag_Z} {l : Launch} {n : ag_N} {p : ag_P} {s : ag_S} {fu : Nat} {x1 : Int32} {x2 : Int32} {out : ag_S} (t5 : vp_in 0 (n 5)) (v1 : vp_in x1 (n 2)) (hf : f_X5_takeFrom fu x1 x2 s = some out) : Met l yX5_takeFrom (ag_ws yX5_takeFrom cX5_takeFrom 5 ((none))) rm_X5_takeFrom (va_Pc [.ref (p 5 0), .ref (p 2 x1), .int x2] (ag_Pre z n p s)) (ag_Rv z n p out) 0 0 (ag_A z) := by
  refine Met.ofW (cc := cX5_takeFrom) (maxL := 5) (ret := (none)) (by decide) rfl ?_
  intro p0 e st m args below meth c s9 B hml hv
  obtain ⟨ha, h0, hG, hW⟩ := hv
  have hx := B.exec
  have hb := B.bytes
  have hr := B.returns
  have hts := atoms_spec (ws := ag_ws yX5_takeFrom cX5_takeFrom 5 ((none))) B.pre
  have hT : ∀ w ∈ ag_tbl, w.before args st = true := fun w h => hts w (List.mem_cons_of_mem _ h)
  have hown : st.vm.findClass RX5 = some m.cls := findClass_of_methodNamed B.named
  have hlocks := B.notSynchronized
  have hS : va_S (ag_A z) st.heap st.heap [] := va_S.rf
  obtain ⟨ls, hls, hl⟩ : ∃ ls, entryFrame m args 5 = F0 m 0 ls [] ∧ lv_has ls 5 [(0, .ref (p 5 0)), (1, .ref (p 2 x1)), (2, .int x2)] := by rw [ha]; exact ag_entry m [.ref (p 5 0), .ref (p 2 x1), .int x2] (Nat.le_of_ble_eq_true rfl)
  rw [hls]
  unfold f_X5_takeFrom at hf
  refine lv_aload_n hx hb dX5_takeFrom_0 rfl (lv_at hl 0 rfl) ?_
  refine lv_aload_n hx hb dX5_takeFrom_1 rfl (lv_at hl 1 rfl) ?_
  obtain ⟨r2, hg2, hf⟩ := ag_bs hf
  refine ag_cVi hx hb hml hT hown hG h0 hS hW (c_X5_freeOf t5 v1 hg2) ⟨rfl, rfl⟩ q505 q507 qs13 q1 q508 dd_yX5_freeOf ⟨Nat.le_of_ble_eq_true rfl, Nat.le_of_ble_eq_true rfl⟩ t5 rfl rfl hl.1 rfl (Nat.le_of_ble_eq_true rfl) ⟨Nat.le_of_ble_eq_true rfl, Nat.le_of_ble_eq_true rfl⟩ dX5_takeFrom_2 (fun H locs hW hS => ?_)
  refine lv_istore_n (lv' := [(3, .int r2), (0, .ref (p 5 0)), (1, .ref (p 2 x1)), (2, .int x2)]) hx hb dX5_takeFrom_5 rfl hl (by decide) rfl (fun ls hl => ?_)
  refine lv_iload_n hx hb dX5_takeFrom_6 rfl (lv_at hl 0 rfl) ?_
  refine lv_if_le (tgt := 42) hx hb dX5_takeFrom_7 (by decide) (fun c7 => ?_) (fun c7 => ?_)
  · have hf := ag_t c7 hf
    exact ag_vret hx hb hr hlocks hS (Option.some.inj hf ▸ hW) dX5_takeFrom_42
  · have hf := ag_f c7 hf
    refine lv_iload_n hx hb dX5_takeFrom_10 rfl (lv_at hl 0 rfl) ?_
    refine lv_bipush (v := 10) hx hb dX5_takeFrom_11 (by decide) ?_
    refine lv_idiv hx hb dX5_takeFrom_13 (by decide) ?_
    refine lv_iload_n hx hb dX5_takeFrom_14 rfl (lv_at hl 3 rfl) ?_
    refine va_mmin hx hb (hml.trans hl.1.symm) hown (hT _ q722) (hT _ q128) (hT _ q7) (hT _ q129) (Nat.le_of_ble_eq_true rfl) (Nat.le_of_ble_eq_true rfl) (Nat.le_of_ble_eq_true rfl) (Nat.le_of_ble_eq_true rfl) dX5_takeFrom_15 ?_
    refine lv_istore (lv' := [(4, .int (if x2 < r2 / 10 then x2 else r2 / 10)), (3, .int r2), (0, .ref (p 5 0)), (1, .ref (p 2 x1)), (2, .int x2)]) hx hb dX5_takeFrom_18 hl (by decide) rfl (fun ls hl => ?_)
    refine lv_aload_n hx hb dX5_takeFrom_20 rfl (lv_at hl 3 rfl) ?_
    refine lv_dup hx hb dX5_takeFrom_21 rfl ?_
    refine g2_5 hx hb hT hown hG hW v1 q317 dX5_takeFrom_22 ?_
    refine lv_iload hx hb dX5_takeFrom_25 (lv_at hl 0 rfl) ?_
    refine lv_iadd hx hb dX5_takeFrom_27 ?_
    refine u2_5 hx hb hT hown hG hW hS v1 q317 dX5_takeFrom_28 (fun H locs hW hS => ?_)
    refine lv_aload_n hx hb dX5_takeFrom_31 rfl (lv_at hl 2 rfl) ?_
    refine lv_dup hx hb dX5_takeFrom_32 rfl ?_
    refine g5_5 hx hb hT hown hG hW t5 q156 dX5_takeFrom_33 ?_
    refine lv_iload hx hb dX5_takeFrom_36 (lv_at hl 0 rfl) ?_
    refine lv_iadd hx hb dX5_takeFrom_38 ?_
    refine u5_5 hx hb hT hown hG hW hS t5 q156 dX5_takeFrom_39 (fun H locs hW hS => ?_)
    exact ag_vret hx hb hr hlocks hS (Option.some.inj hf ▸ hW) dX5_takeFrom_42
def f_X5_fillReserve_L7 (fu : Nat) : Nat → Int32 → Int32 → ag_S → Option ag_S
  | 0, _, _, _ => none
  | nf + 1, x1, x2, s => ag_bd (f_Jx4a65c_size_8abf5_2 fu s) fun r12 => if r12 ≤ x2 then (some s) else (if x1 ≤ s 5 5 0 then (some s) else (ag_bd (f_Jx4a65c_get_915e3_2 fu x2 s) fun r32 => ag_bd (f_X5_takeFrom fu r32 (x1 - (s 5 5 0)) s) fun r44 => f_X5_fillReserve_L7 fu nf x1 (x2 + 1) r44))
def f_X5_fillReserve (fu : Nat) (s : ag_S) : Option ag_S := ag_bd (f_X5_targetNow fu s) fun r1 => f_X5_fillReserve_L7 fu fu r1 0 s
abbrev rm_X5_fillReserve : Room := { frames := 6, cells := 0, slots := 0, locals := 133 }
theorem dd_yX5_fillReserve : yX5_fillReserve.cls = RX5 ∧ yX5_fillReserve.cls ≠ "java/lang/invoke/MethodHandle" ∧ yX5_fillReserve.cls ≠ "java/lang/invoke/VarHandle" ∧ (parseMethodDescriptor yX5_fillReserve.desc).map (fun d => d.parameters.length) = some 0 := by decide +kernel
set_option maxHeartbeats 4000000 in
set_option maxRecDepth 100000 in
theorem c_X5_fillReserve {z : ag_Z} {l : Launch} {n : ag_N} {p : ag_P} {s : ag_S} {fu : Nat} {out : ag_S} (t5 : vp_in 0 (n 5)) (hf : f_X5_fillReserve fu  s = some out) : Met l yX5_fillReserve (ag_ws yX5_fillReserve cX5_fillReserve 3 ((none))) rm_X5_fillReserve (va_Pc [.ref (p 5 0)] (ag_Pre z n p s)) (ag_Rv z n p out) 0 0 (ag_A z) := by
  refine Met.ofW (cc := cX5_fillReserve) (maxL := 3) (ret := (none)) (by decide) rfl ?_
  intro p0 e st m args below meth c s9 B hml hv
  obtain ⟨ha, h0, hG, hW⟩ := hv
  have hx := B.exec
  have hb := B.bytes
  have hr := B.returns
  have hts := atoms_spec (ws := ag_ws yX5_fillReserve cX5_fillReserve 3 ((none))) B.pre
  have hT : ∀ w ∈ ag_tbl, w.before args st = true := fun w h => hts w (List.mem_cons_of_mem _ h)
  have hown : st.vm.findClass RX5 = some m.cls := findClass_of_methodNamed B.named
  have hlocks := B.notSynchronized
  have hS : va_S (ag_A z) st.heap st.heap [] := va_S.rf
  obtain ⟨ls, hls, hl⟩ : ∃ ls, entryFrame m args 3 = F0 m 0 ls [] ∧ lv_has ls 3 [(0, .ref (p 5 0))] := by rw [ha]; exact ag_entry m [.ref (p 5 0)] (Nat.le_of_ble_eq_true rfl)
  rw [hls]
  have k7 : ∀ (nf : Nat) (x1 : Int32) (x2 : Int32) (s : ag_S) (H : Heap) (locs : List Loc) (ls : Array Slot), ag_W z n p s H → va_S (ag_A z) st.heap H locs → lv_has ls 3 [(0, .ref (p 5 0)), (1, .int x1), (2, .int x2)] → f_X5_fillReserve_L7 fu nf x1 x2 s = some out → W p0 l e (headSpec (ag_ws yX5_fillReserve cX5_fillReserve 3 ((none))) rm_X5_fillReserve).room st m args below meth c H locs 0 0 (MQ below (ag_Rv z n p out) args st 0 0 (ag_A z)) (F0 m 7 ls []) := by
    intro nf
    induction nf with
    | zero => intro x1 x2 s H locs ls hW hS hl hf; rw [f_X5_fillReserve_L7] at hf; cases hf
    | succ nf ih =>
      intro x1 x2 s H locs ls hW hS hl hf
      rw [f_X5_fillReserve_L7] at hf
      refine lv_iload_n hx hb dX5_fillReserve_7 rfl (lv_at hl 2 rfl) ?_
      refine lv_aload_n hx hb dX5_fillReserve_8 rfl (lv_at hl 0 rfl) ?_
      refine g5_2 hx hb hT hown hG hW t5 q153 dX5_fillReserve_9 ?_
      have t12 := ag_fix hW (k := 5) (f := 2) (t := 12) t5 rfl rfl
      obtain ⟨r12, hg12, hf⟩ := ag_bs hf
      refine ag_cVi hx hb hml hT hown hG h0 hS hW (c_Jx4a65c_size_8abf5_2 t12 hg12) ⟨rfl, rfl⟩ q193 q194 q195 q4 q196 dd_yJx4a65c_size_8abf5 ⟨Nat.le_of_ble_eq_true rfl, Nat.le_of_ble_eq_true rfl⟩ t12 rfl rfl hl.1 rfl (Nat.le_of_ble_eq_true rfl) ⟨Nat.le_of_ble_eq_true rfl, Nat.le_of_ble_eq_true rfl⟩ dX5_fillReserve_12 (fun H locs hW hS => ?_)
      refine lv_icmp_ge (tgt := 53) hx hb dX5_fillReserve_15 (by decide) (fun c15 => ?_) (fun c15 => ?_)
      · have hf := ag_t c15 hf
        exact ag_vret hx hb hr hlocks hS (Option.some.inj hf ▸ hW) dX5_fillReserve_53
      · have hf := ag_f c15 hf
        refine lv_aload_n hx hb dX5_fillReserve_18 rfl (lv_at hl 0 rfl) ?_
        refine g5_5 hx hb hT hown hG hW t5 q156 dX5_fillReserve_19 ?_
        refine lv_iload_n hx hb dX5_fillReserve_22 rfl (lv_at hl 1 rfl) ?_
        refine lv_icmp_ge (tgt := 53) hx hb dX5_fillReserve_23 (by decide) (fun c23 => ?_) (fun c23 => ?_)
        · have hf := ag_t c23 hf
          exact ag_vret hx hb hr hlocks hS (Option.some.inj hf ▸ hW) dX5_fillReserve_53
        · have hf := ag_f c23 hf
          refine lv_aload_n hx hb dX5_fillReserve_26 rfl (lv_at hl 0 rfl) ?_
          refine lv_aload_n hx hb dX5_fillReserve_27 rfl (lv_at hl 0 rfl) ?_
          refine g5_2 hx hb hT hown hG hW t5 q153 dX5_fillReserve_28 ?_
          have t12 := ag_fix hW (k := 5) (f := 2) (t := 12) t5 rfl rfl
          refine lv_iload_n hx hb dX5_fillReserve_31 rfl (lv_at hl 2 rfl) ?_
          obtain ⟨r32, hg32, hf⟩ := ag_bs hf
          refine ag_cVr hx hb hml hT hown hG h0 hS hW (c_Jx4a65c_get_915e3_2 t12 hg32) ⟨rfl, rfl⟩ q265 q266 q267 q4 q268 dd_yJx4a65c_get_915e3 ⟨Nat.le_of_ble_eq_true rfl, Nat.le_of_ble_eq_true rfl⟩ t12 rfl rfl hl.1 rfl (Nat.le_of_ble_eq_true rfl) ⟨Nat.le_of_ble_eq_true rfl, Nat.le_of_ble_eq_true rfl⟩ dX5_fillReserve_32 (fun H locs hW hS v32 => ?_)
          refine ag_cast hx hb hown hG hW v32 rfl rfl (hT _ q300) dX5_fillReserve_35 ?_
          refine lv_iload_n hx hb dX5_fillReserve_38 rfl (lv_at hl 1 rfl) ?_
          refine lv_aload_n hx hb dX5_fillReserve_39 rfl (lv_at hl 0 rfl) ?_
          refine g5_5 hx hb hT hown hG hW t5 q156 dX5_fillReserve_40 ?_
          refine lv_isub hx hb dX5_fillReserve_43 ?_
          obtain ⟨r44, hg44, hf⟩ := ag_bs hf
          refine ag_cVv hx hb hml hT hown hG h0 hS hW (c_X5_takeFrom t5 v32 hg44) ⟨rfl, rfl⟩ q718 q720 qs24 q1 q721 dd_yX5_takeFrom ⟨Nat.le_of_ble_eq_true rfl, Nat.le_of_ble_eq_true rfl⟩ t5 rfl rfl hl.1 rfl (Nat.le_of_ble_eq_true rfl) ⟨Nat.le_of_ble_eq_true rfl, Nat.le_of_ble_eq_true rfl⟩ dX5_fillReserve_44 (fun H locs hW hS => ?_)
          refine lv_iinc (v := x2 + 1) (lv' := [(2, .int (x2 + 1)), (0, .ref (p 5 0)), (1, .int x1)]) hx hb dX5_fillReserve_47 hl (k := 2) rfl rfl (by decide) rfl (fun ls hl => ?_)
          refine lv_goto (tgt := 7) hx hb dX5_fillReserve_50 (by decide) ?_
          exact ih _ _ _ _ _ _ hW hS (lv_sub hl [1, 2, 0] rfl) hf
  unfold f_X5_fillReserve at hf
  refine lv_aload_n hx hb dX5_fillReserve_0 rfl (lv_at hl 0 rfl) ?_
  obtain ⟨r1, hg1, hf⟩ := ag_bs hf
  refine ag_cVi hx hb hml hT hown hG h0 hS hW (c_X5_targetNow t5 hg1) ⟨rfl, rfl⟩ q713 q715 qs23 q1 q716 dd_yX5_targetNow ⟨Nat.le_of_ble_eq_true rfl, Nat.le_of_ble_eq_true rfl⟩ t5 rfl rfl hl.1 rfl (Nat.le_of_ble_eq_true rfl) ⟨Nat.le_of_ble_eq_true rfl, Nat.le_of_ble_eq_true rfl⟩ dX5_fillReserve_1 (fun H locs hW hS => ?_)
  refine lv_istore_n (lv' := [(1, .int r1), (0, .ref (p 5 0))]) hx hb dX5_fillReserve_4 rfl hl (by decide) rfl (fun ls hl => ?_)
  refine lv_iconst (v := 0) hx hb dX5_fillReserve_5 (by decide) ?_
  refine lv_istore_n (lv' := [(2, .int 0), (1, .int r1), (0, .ref (p 5 0))]) hx hb dX5_fillReserve_6 rfl hl (by decide) rfl (fun ls hl => ?_)
  exact k7 fu _ _ _ _ _ _ hW hS (lv_sub hl [2, 1, 0] rfl) hf
def f_X5_makePassed (fu : Nat) (x1 : Int32) (s : ag_S) : Option ag_S := ag_bd (f_X5_reckonWhatIsBrought fu (ag_up s 3 5 x1 1)) fun r6 => if r6 3 1 x1 = -1 then (if r6 3 2 x1 = -1 then none else ag_bd (f_X5_balance fu (r6 3 2 x1) r6) fun r21 => some r21.2) else (some r6)
abbrev rm_X5_makePassed : Room := { frames := 6, cells := 0, slots := 0, locals := 133 }
theorem dd_yX5_makePassed : yX5_makePassed.cls = RX5 ∧ yX5_makePassed.cls ≠ "java/lang/invoke/MethodHandle" ∧ yX5_makePassed.cls ≠ "java/lang/invoke/VarHandle" ∧ (parseMethodDescriptor yX5_makePassed.desc).map (fun d => d.parameters.length) = some 1 := by decide +kernel
set_option maxHeartbeats 4000000 in
set_option maxRecDepth 100000 in
theorem c_X5_makePassed {z : ag_Z} {l : Launch} {n : ag_N} {p : ag_P} {s : ag_S} {fu : Nat} {x1 : Int32} {out : ag_S} (t5 : vp_in 0 (n 5)) (v1 : vp_in x1 (n 3)) (hf : f_X5_makePassed fu x1 s = some out) : Met l yX5_makePassed (ag_ws yX5_makePassed cX5_makePassed 2 ((none))) rm_X5_makePassed (va_Pc [.ref (p 5 0), .ref (p 3 x1)] (ag_Pre z n p s)) (ag_Rv z n p out) 0 0 (ag_A z) := by
  refine Met.ofW (cc := cX5_makePassed) (maxL := 2) (ret := (none)) (by decide) rfl ?_
  intro p0 e st m args below meth c s9 B hml hv
  obtain ⟨ha, h0, hG, hW⟩ := hv
  have hx := B.exec
  have hb := B.bytes
  have hr := B.returns
  have hts := atoms_spec (ws := ag_ws yX5_makePassed cX5_makePassed 2 ((none))) B.pre
  have hT : ∀ w ∈ ag_tbl, w.before args st = true := fun w h => hts w (List.mem_cons_of_mem _ h)
  have hown : st.vm.findClass RX5 = some m.cls := findClass_of_methodNamed B.named
  have hlocks := B.notSynchronized
  have hS : va_S (ag_A z) st.heap st.heap [] := va_S.rf
  obtain ⟨ls, hls, hl⟩ : ∃ ls, entryFrame m args 2 = F0 m 0 ls [] ∧ lv_has ls 2 [(0, .ref (p 5 0)), (1, .ref (p 3 x1))] := by rw [ha]; exact ag_entry m [.ref (p 5 0), .ref (p 3 x1)] (Nat.le_of_ble_eq_true rfl)
  rw [hls]
  unfold f_X5_makePassed at hf
  refine lv_aload_n hx hb dX5_makePassed_0 rfl (lv_at hl 1 rfl) ?_
  refine lv_iconst (v := 1) hx hb dX5_makePassed_1 (by decide) ?_
  refine u3_5 hx hb hT hown hG hW hS v1 q403 dX5_makePassed_2 (fun H locs hW hS => ?_)
  refine lv_aload_n hx hb dX5_makePassed_5 rfl (lv_at hl 0 rfl) ?_
  obtain ⟨r6, hg6, hf⟩ := ag_bs hf
  refine ag_cVv hx hb hml hT hown hG h0 hS hW (c_X5_reckonWhatIsBrought t5 hg6) ⟨rfl, rfl⟩ q494 q496 qs11 q1 q497 dd_yX5_reckonWhatIsBrought ⟨Nat.le_of_ble_eq_true rfl, Nat.le_of_ble_eq_true rfl⟩ t5 rfl rfl hl.1 rfl (Nat.le_of_ble_eq_true rfl) ⟨Nat.le_of_ble_eq_true rfl, Nat.le_of_ble_eq_true rfl⟩ dX5_makePassed_6 (fun H locs hW hS => ?_)
  refine lv_aload_n hx hb dX5_makePassed_9 rfl (lv_at hl 1 rfl) ?_
  refine g3_1 hx hb hT hown hG hW v1 q394 dX5_makePassed_10 ?_
  have o10 := ag_W.okf hW (k := 3) (f := 1) (t := 3) rfl rfl (by decide) x1
  refine ag_ifnonnull (tgt := 25) hx hb o10 dX5_makePassed_13 (by decide) (fun c13 => ?_) (fun c13 => ?_)
  · have hf := ag_f c13 hf
    have e13 := (ag_refq (z := z) (p := p) o10 c13)
    have v13 := (ag_ref (z := z) (p := p) o10 c13).2
    exact ag_vret hx hb hr hlocks hS (Option.some.inj hf ▸ hW) dX5_makePassed_25
  · have hf := ag_t c13 hf
    refine lv_aload_n hx hb dX5_makePassed_16 rfl (lv_at hl 0 rfl) ?_
    refine lv_aload_n hx hb dX5_makePassed_17 rfl (lv_at hl 1 rfl) ?_
    refine g3_2 hx hb hT hown hG hW v1 q396 dX5_makePassed_18 ?_
    have o18 := ag_W.okf hW (k := 3) (f := 2) (t := 2) rfl rfl (by decide) x1
    obtain ⟨m21_1, hf⟩ := ag_n hf
    have e21_1 := (ag_refq (z := z) (p := p) o18 m21_1)
    have v21_1 := (ag_ref (z := z) (p := p) o18 m21_1).2
    rw [e21_1]
    obtain ⟨r21, hg21, hf⟩ := ag_bs hf
    refine ag_cVi hx hb hml hT hown hG h0 hS hW (c_X5_balance t5 v21_1 hg21) ⟨rfl, rfl⟩ q501 q503 qs12 q1 q504 dd_yX5_balance ⟨Nat.le_of_ble_eq_true rfl, Nat.le_of_ble_eq_true rfl⟩ t5 rfl rfl hl.1 rfl (Nat.le_of_ble_eq_true rfl) ⟨Nat.le_of_ble_eq_true rfl, Nat.le_of_ble_eq_true rfl⟩ dX5_makePassed_21 (fun H locs hW hS => ?_)
    refine lv_pop hx hb dX5_makePassed_24 rfl ?_
    exact ag_vret hx hb hr hlocks hS (Option.some.inj hf ▸ hW) dX5_makePassed_25
def f_X5_makeFallen (fu : Nat) (x1 : Int32) (s : ag_S) : Option (Int32 × ag_S) := ag_bd (f_X5_fellAllOnFallen fu (ag_up s 3 5 x1 2)) fun r6 => ag_bd (f_X5_reckonWhatIsBrought fu r6) fun r10 => ag_bd (f_X5_withdrawThoseOnFallen fu r10) fun r14 => if r14.2 3 2 x1 = -1 then none else ag_bd (f_X5_balance fu (r14.2 3 2 x1) r14.2) fun r24 => some (r14.1 + r24.1, r24.2)
abbrev rm_X5_makeFallen : Room := { frames := 6, cells := 0, slots := 0, locals := 133 }
theorem dd_yX5_makeFallen : yX5_makeFallen.cls = RX5 ∧ yX5_makeFallen.cls ≠ "java/lang/invoke/MethodHandle" ∧ yX5_makeFallen.cls ≠ "java/lang/invoke/VarHandle" ∧ (parseMethodDescriptor yX5_makeFallen.desc).map (fun d => d.parameters.length) = some 1 := by decide +kernel
set_option maxHeartbeats 4000000 in
set_option maxRecDepth 100000 in
theorem c_X5_makeFallen {z : ag_Z} {l : Launch} {n : ag_N} {p : ag_P} {s : ag_S} {fu : Nat} {x1 : Int32} {out : Int32 × ag_S} (t5 : vp_in 0 (n 5)) (v1 : vp_in x1 (n 3)) (hf : f_X5_makeFallen fu x1 s = some out) : Met l yX5_makeFallen (ag_ws yX5_makeFallen cX5_makeFallen 3 ((some FieldType.int))) rm_X5_makeFallen (va_Pc [.ref (p 5 0), .ref (p 3 x1)] (ag_Pre z n p s)) (ag_Ri z n p out.1 out.2) 0 0 (ag_A z) := by
  refine Met.ofW (cc := cX5_makeFallen) (maxL := 3) (ret := (some FieldType.int)) (by decide) rfl ?_
  intro p0 e st m args below meth c s9 B hml hv
  obtain ⟨ha, h0, hG, hW⟩ := hv
  have hx := B.exec
  have hb := B.bytes
  have hr := B.returns
  have hts := atoms_spec (ws := ag_ws yX5_makeFallen cX5_makeFallen 3 ((some FieldType.int))) B.pre
  have hT : ∀ w ∈ ag_tbl, w.before args st = true := fun w h => hts w (List.mem_cons_of_mem _ h)
  have hown : st.vm.findClass RX5 = some m.cls := findClass_of_methodNamed B.named
  have hlocks := B.notSynchronized
  have hS : va_S (ag_A z) st.heap st.heap [] := va_S.rf
  obtain ⟨ls, hls, hl⟩ : ∃ ls, entryFrame m args 3 = F0 m 0 ls [] ∧ lv_has ls 3 [(0, .ref (p 5 0)), (1, .ref (p 3 x1))] := by rw [ha]; exact ag_entry m [.ref (p 5 0), .ref (p 3 x1)] (Nat.le_of_ble_eq_true rfl)
  rw [hls]
  unfold f_X5_makeFallen at hf
  refine lv_aload_n hx hb dX5_makeFallen_0 rfl (lv_at hl 1 rfl) ?_
  refine lv_iconst (v := 2) hx hb dX5_makeFallen_1 (by decide) ?_
  refine u3_5 hx hb hT hown hG hW hS v1 q403 dX5_makeFallen_2 (fun H locs hW hS => ?_)
  refine lv_aload_n hx hb dX5_makeFallen_5 rfl (lv_at hl 0 rfl) ?_
  obtain ⟨r6, hg6, hf⟩ := ag_bs hf
  refine ag_cVv hx hb hml hT hown hG h0 hS hW (c_X5_fellAllOnFallen t5 hg6) ⟨rfl, rfl⟩ q539 q541 qs16 q1 q542 dd_yX5_fellAllOnFallen ⟨Nat.le_of_ble_eq_true rfl, Nat.le_of_ble_eq_true rfl⟩ t5 rfl rfl hl.1 rfl (Nat.le_of_ble_eq_true rfl) ⟨Nat.le_of_ble_eq_true rfl, Nat.le_of_ble_eq_true rfl⟩ dX5_makeFallen_6 (fun H locs hW hS => ?_)
  refine lv_aload_n hx hb dX5_makeFallen_9 rfl (lv_at hl 0 rfl) ?_
  obtain ⟨r10, hg10, hf⟩ := ag_bs hf
  refine ag_cVv hx hb hml hT hown hG h0 hS hW (c_X5_reckonWhatIsBrought t5 hg10) ⟨rfl, rfl⟩ q494 q496 qs11 q1 q497 dd_yX5_reckonWhatIsBrought ⟨Nat.le_of_ble_eq_true rfl, Nat.le_of_ble_eq_true rfl⟩ t5 rfl rfl hl.1 rfl (Nat.le_of_ble_eq_true rfl) ⟨Nat.le_of_ble_eq_true rfl, Nat.le_of_ble_eq_true rfl⟩ dX5_makeFallen_10 (fun H locs hW hS => ?_)
  refine lv_aload_n hx hb dX5_makeFallen_13 rfl (lv_at hl 0 rfl) ?_
  obtain ⟨r14, hg14, hf⟩ := ag_bs hf
  refine ag_cVi hx hb hml hT hown hG h0 hS hW (c_X5_withdrawThoseOnFallen t5 hg14) ⟨rfl, rfl⟩ q543 q545 qs17 q1 q546 dd_yX5_withdrawThoseOnFallen ⟨Nat.le_of_ble_eq_true rfl, Nat.le_of_ble_eq_true rfl⟩ t5 rfl rfl hl.1 rfl (Nat.le_of_ble_eq_true rfl) ⟨Nat.le_of_ble_eq_true rfl, Nat.le_of_ble_eq_true rfl⟩ dX5_makeFallen_14 (fun H locs hW hS => ?_)
  refine lv_istore_n (lv' := [(2, .int r14.1), (0, .ref (p 5 0)), (1, .ref (p 3 x1))]) hx hb dX5_makeFallen_17 rfl hl (by decide) rfl (fun ls hl => ?_)
  refine lv_iload_n hx hb dX5_makeFallen_18 rfl (lv_at hl 0 rfl) ?_
  refine lv_aload_n hx hb dX5_makeFallen_19 rfl (lv_at hl 1 rfl) ?_
  refine lv_aload_n hx hb dX5_makeFallen_20 rfl (lv_at hl 2 rfl) ?_
  refine g3_2 hx hb hT hown hG hW v1 q396 dX5_makeFallen_21 ?_
  have o21 := ag_W.okf hW (k := 3) (f := 2) (t := 2) rfl rfl (by decide) x1
  obtain ⟨m24_1, hf⟩ := ag_n hf
  have e24_1 := (ag_refq (z := z) (p := p) o21 m24_1)
  have v24_1 := (ag_ref (z := z) (p := p) o21 m24_1).2
  rw [e24_1]
  obtain ⟨r24, hg24, hf⟩ := ag_bs hf
  refine ag_cVi hx hb hml hT hown hG h0 hS hW (c_X5_balance t5 v24_1 hg24) ⟨rfl, rfl⟩ q501 q503 qs12 q1 q504 dd_yX5_balance ⟨Nat.le_of_ble_eq_true rfl, Nat.le_of_ble_eq_true rfl⟩ t5 rfl rfl hl.1 rfl (Nat.le_of_ble_eq_true rfl) ⟨Nat.le_of_ble_eq_true rfl, Nat.le_of_ble_eq_true rfl⟩ dX5_makeFallen_24 (fun H locs hW hS => ?_)
  refine lv_iadd hx hb dX5_makeFallen_27 ?_
  exact ag_iret hx hb hr rfl hlocks hS (congrArg Prod.fst (Option.some.inj hf)) (congrArg Prod.snd (Option.some.inj hf) ▸ hW) dX5_makeFallen_28
