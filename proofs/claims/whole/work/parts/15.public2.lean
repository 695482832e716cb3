def f_X5_ofLine (fu : Nat) (x1 : Int32) (x2 : Int32) (s : ag_S) : Option ((Int32 ⊕ Int32) × ag_S) := ag_bt (f_X5_lineAt fu x1 s) (fun w2 s => if x2 = 0 then (ag_bd (f_X2_stands fu w2 s) fun r49 => some (.inl r49, s)) else (if x2 = 1 then (some (.inl (s 2 4 w2), s)) else (if x2 = 2 then (ag_bd (f_X5_boundOf fu w2 s) fun r60 => some (.inl r60, s)) else (if x2 = 3 then (ag_bd (f_X5_freeOf fu w2 s) fun r66 => some (.inl r66, s)) else (if x2 = 4 then (some (.inl (s 2 5 w2), s)) else (if x2 = 5 then (some (.inl (s 2 6 w2), s)) else (if x2 = 6 then (if s 2 1 w2 = -1 then none else some (.inl (s 0 0 (s 2 1 w2)), s)) else (some (.inr 2, s))))))))) id
abbrev rm_X5_ofLine : Room := { frames := 7, cells := 2, slots := 12, locals := 109 }
theorem w730 : Cond.stringRef RX5 238 "what is out of range" ∈ lw_tbl := List.mem_append_right _ (List.mem_of_getElem? (i := 730) (by decide +kernel))
theorem dd_yX5_ofLine : yX5_ofLine.cls = RX5 ∧ yX5_ofLine.cls ≠ "java/lang/invoke/MethodHandle" ∧ yX5_ofLine.cls ≠ "java/lang/invoke/VarHandle" ∧ (parseMethodDescriptor yX5_ofLine.desc).map (fun d => d.parameters.length) = some 2 := by decide +kernel
set_option maxHeartbeats 4000000 in
set_option maxRecDepth 100000 in
theorem c_X5_ofLine {z : ag_Z} {l : Launch} {n : ag_N} {p : ag_P} {s : ag_S} {fu : Nat} {x1 : Int32} {x2 : Int32} {out : (Int32 ⊕ Int32) × ag_S} (hq9 : l.stackTraces = false) (t5 : vp_in 0 (n 5)) (hf : f_X5_ofLine fu x1 x2 s = some out) : vx_Met l yX5_ofLine (ag_ws yX5_ofLine cX5_ofLine 4 ((some FieldType.int))) rm_X5_ofLine (va_Pc [.ref (p 5 0), .int x1, .int x2] (ag_Pre z n p s)) (ag_Xi z n p out) (ag_XX z n p out) 2 12 (ag_A z) := by
  refine vx_ofW (cc := cX5_ofLine) (maxL := 4) (ret := (some FieldType.int)) (by decide) rfl ?_
  intro p0 e st m args below meth c s9 B hml hout hv
  obtain ⟨ha, h0, hG, hW⟩ := hv
  have hx := B.exec
  have hb := B.bytes
  have hr := B.returns
  have hts := atoms_spec (ws := ag_ws yX5_ofLine cX5_ofLine 4 ((some FieldType.int))) B.pre
  have hT : ∀ w ∈ ag_tbl, w.before args st = true := fun w h => hts w (List.mem_cons_of_mem _ h)
  have hown : st.vm.findClass RX5 = some m.cls := findClass_of_methodNamed B.named
  have hlocks := B.notSynchronized
  have hS : va_S (ag_A z) st.heap st.heap [] := va_S.rf
  obtain ⟨ls, hls, hl⟩ : ∃ ls, entryFrame m args 4 = F0 m 0 ls [] ∧ lv_has ls 4 [(0, .ref (p 5 0)), (1, .int x1), (2, .int x2)] := by rw [ha]; exact ag_entry m [.ref (p 5 0), .int x1, .int x2] (Nat.le_of_ble_eq_true rfl)
  rw [hls]
  unfold f_X5_ofLine at hf
  refine lv_aload_n hx hb dX5_ofLine_0 rfl (lv_at hl 0 rfl) ?_
  refine lv_iload_n hx hb dX5_ofLine_1 rfl (lv_at hl 1 rfl) ?_
  obtain ⟨r2, hg2, hf⟩ := ag_xs hf
  refine ag_xVr (C1 := 1) (S1 := 6) hx hb hml hT hown hG h0 hS hW (c_X5_lineAt hq9 t5 hg2) ⟨rfl, rfl⟩ q350 q352 qs5 q1 q353 dd_yX5_lineAt ⟨Nat.le_of_ble_eq_true rfl, Nat.le_of_ble_eq_true rfl⟩ t5 rfl rfl hl.1 rfl (Nat.le_of_ble_eq_true rfl) ⟨Nat.le_of_ble_eq_true rfl, Nat.le_of_ble_eq_true rfl⟩ dX5_ofLine_2 (fun E ce q9 H locs hE hW hS g1 g2 g3 => ag_propO hf hout hlocks (Nat.le_of_ble_eq_true rfl) (Nat.le_of_ble_eq_true rfl) hE hW hS g1 g2 g3) (Nat.le_of_ble_eq_true rfl) (Nat.le_of_ble_eq_true rfl) (fun w2 H locs hr2 v2 hW hS => ?_)
  have hf := ag_inl hf hr2
  obtain ⟨s, es2⟩ : ∃ s9, s9 = r2.2 := ⟨_, rfl⟩
  rw [← es2] at hW hf
  refine lv_astore_n (lv' := [(3, .ref (p 2 w2)), (0, .ref (p 5 0)), (1, .int x1), (2, .int x2)]) hx hb dX5_ofLine_5 rfl hl (by decide) rfl (fun ls hl => ?_)
  refine lv_iload_n hx hb dX5_ofLine_6 rfl (lv_at hl 3 rfl) ?_
  by_cases c7_0 : x2 = 0
  · have hf := ag_t c7_0 hf
    refine lv_tableIn (off := 41) (tgt := 48) hx hb dX5_ofLine_7 (by rw [c7_0]; decide) (by rw [c7_0]; decide) (by rw [c7_0]; rfl) (by decide) ?_
    refine lv_aload_n hx hb dX5_ofLine_48 rfl (lv_at hl 0 rfl) ?_
    obtain ⟨r49, hg49, hf⟩ := ag_bs hf
    refine ag_cVi hx hb hml hT hown hG h0 hS hW (c_X2_stands v2 hg49) ⟨rfl, rfl⟩ q509 q510 q511 q19 q512 dd_yX2_stands ⟨Nat.le_of_ble_eq_true rfl, Nat.le_of_ble_eq_true rfl⟩ v2 rfl rfl hl.1 rfl (Nat.le_of_ble_eq_true rfl) ⟨Nat.le_of_ble_eq_true rfl, Nat.le_of_ble_eq_true rfl⟩ dX5_ofLine_49 (fun H locs hW hS => ?_)
    refine W.widen (k := 2) (n := 12) (Nat.le_of_ble_eq_true rfl) (Nat.le_of_ble_eq_true rfl) ?_
    exact ag_xiret hx hb hr rfl hlocks hS hf hW dX5_ofLine_52
  have hf := ag_f c7_0 hf
  by_cases c7_1 : x2 = 1
  · have hf := ag_t c7_1 hf
    refine lv_tableIn (off := 46) (tgt := 53) hx hb dX5_ofLine_7 (by rw [c7_1]; decide) (by rw [c7_1]; decide) (by rw [c7_1]; rfl) (by decide) ?_
    refine lv_aload_n hx hb dX5_ofLine_53 rfl (lv_at hl 0 rfl) ?_
    refine g2_4 hx hb hT hown hG hW v2 q315 dX5_ofLine_54 ?_
    refine W.widen (k := 2) (n := 12) (Nat.le_of_ble_eq_true rfl) (Nat.le_of_ble_eq_true rfl) ?_
    exact ag_xiret hx hb hr rfl hlocks hS hf hW dX5_ofLine_57
  have hf := ag_f c7_1 hf
  by_cases c7_2 : x2 = 2
  · have hf := ag_t c7_2 hf
    refine lv_tableIn (off := 51) (tgt := 58) hx hb dX5_ofLine_7 (by rw [c7_2]; decide) (by rw [c7_2]; decide) (by rw [c7_2]; rfl) (by decide) ?_
    refine lv_aload_n hx hb dX5_ofLine_58 rfl (lv_at hl 1 rfl) ?_
    refine lv_aload_n hx hb dX5_ofLine_59 rfl (lv_at hl 0 rfl) ?_
    obtain ⟨r60, hg60, hf⟩ := ag_bs hf
    refine ag_cVi hx hb hml hT hown hG h0 hS hW (c_X5_boundOf t5 v2 hg60) ⟨rfl, rfl⟩ q517 q519 qs14 q1 q520 dd_yX5_boundOf ⟨Nat.le_of_ble_eq_true rfl, Nat.le_of_ble_eq_true rfl⟩ t5 rfl rfl hl.1 rfl (Nat.le_of_ble_eq_true rfl) ⟨Nat.le_of_ble_eq_true rfl, Nat.le_of_ble_eq_true rfl⟩ dX5_ofLine_60 (fun H locs hW hS => ?_)
    refine W.widen (k := 2) (n := 12) (Nat.le_of_ble_eq_true rfl) (Nat.le_of_ble_eq_true rfl) ?_
    exact ag_xiret hx hb hr rfl hlocks hS hf hW dX5_ofLine_63
  have hf := ag_f c7_2 hf
  by_cases c7_3 : x2 = 3
  · have hf := ag_t c7_3 hf
    refine lv_tableIn (off := 57) (tgt := 64) hx hb dX5_ofLine_7 (by rw [c7_3]; decide) (by rw [c7_3]; decide) (by rw [c7_3]; rfl) (by decide) ?_
    refine lv_aload_n hx hb dX5_ofLine_64 rfl (lv_at hl 1 rfl) ?_
    refine lv_aload_n hx hb dX5_ofLine_65 rfl (lv_at hl 0 rfl) ?_
    obtain ⟨r66, hg66, hf⟩ := ag_bs hf
    refine ag_cVi hx hb hml hT hown hG h0 hS hW (c_X5_freeOf t5 v2 hg66) ⟨rfl, rfl⟩ q505 q507 qs13 q1 q508 dd_yX5_freeOf ⟨Nat.le_of_ble_eq_true rfl, Nat.le_of_ble_eq_true rfl⟩ t5 rfl rfl hl.1 rfl (Nat.le_of_ble_eq_true rfl) ⟨Nat.le_of_ble_eq_true rfl, Nat.le_of_ble_eq_true rfl⟩ dX5_ofLine_66 (fun H locs hW hS => ?_)
    refine W.widen (k := 2) (n := 12) (Nat.le_of_ble_eq_true rfl) (Nat.le_of_ble_eq_true rfl) ?_
    exact ag_xiret hx hb hr rfl hlocks hS hf hW dX5_ofLine_69
  have hf := ag_f c7_3 hf
  by_cases c7_4 : x2 = 4
  · have hf := ag_t c7_4 hf
    refine lv_tableIn (off := 63) (tgt := 70) hx hb dX5_ofLine_7 (by rw [c7_4]; decide) (by rw [c7_4]; decide) (by rw [c7_4]; rfl) (by decide) ?_
    refine lv_aload_n hx hb dX5_ofLine_70 rfl (lv_at hl 0 rfl) ?_
    refine g2_5 hx hb hT hown hG hW v2 q317 dX5_ofLine_71 ?_
    refine W.widen (k := 2) (n := 12) (Nat.le_of_ble_eq_true rfl) (Nat.le_of_ble_eq_true rfl) ?_
    exact ag_xiret hx hb hr rfl hlocks hS hf hW dX5_ofLine_74
  have hf := ag_f c7_4 hf
  by_cases c7_5 : x2 = 5
  · have hf := ag_t c7_5 hf
    refine lv_tableIn (off := 68) (tgt := 75) hx hb dX5_ofLine_7 (by rw [c7_5]; decide) (by rw [c7_5]; decide) (by rw [c7_5]; rfl) (by decide) ?_
    refine lv_aload_n hx hb dX5_ofLine_75 rfl (lv_at hl 0 rfl) ?_
    refine g2_6 hx hb hT hown hG hW v2 q319 dX5_ofLine_76 ?_
    refine W.widen (k := 2) (n := 12) (Nat.le_of_ble_eq_true rfl) (Nat.le_of_ble_eq_true rfl) ?_
    exact ag_xiret hx hb hr rfl hlocks hS hf hW dX5_ofLine_79
  have hf := ag_f c7_5 hf
  by_cases c7_6 : x2 = 6
  · have hf := ag_t c7_6 hf
    refine lv_tableIn (off := 73) (tgt := 80) hx hb dX5_ofLine_7 (by rw [c7_6]; decide) (by rw [c7_6]; decide) (by rw [c7_6]; rfl) (by decide) ?_
    refine lv_aload_n hx hb dX5_ofLine_80 rfl (lv_at hl 0 rfl) ?_
    refine g2_1 hx hb hT hown hG hW v2 q309 dX5_ofLine_81 ?_
    have o81 := ag_W.okf hW (k := 2) (f := 1) (t := 0) rfl rfl (by decide) w2
    obtain ⟨m84_1, hf⟩ := ag_n hf
    have e84_1 := (ag_refq (z := z) (p := p) o81 m84_1)
    have v84_1 := (ag_ref (z := z) (p := p) o81 m84_1).2
    rw [e84_1]
    refine g0_0 hx hb hT hown hG hW v84_1 q65 dX5_ofLine_84 ?_
    refine W.widen (k := 2) (n := 12) (Nat.le_of_ble_eq_true rfl) (Nat.le_of_ble_eq_true rfl) ?_
    exact ag_xiret hx hb hr rfl hlocks hS hf hW dX5_ofLine_87
  have hf := ag_f c7_6 hf
  refine lv_tableOut (tgt := 88) hx hb dX5_ofLine_7 (ag_tab 6 (fun j hj => by rcases (show j = 0 ∨ j = 1 ∨ j = 2 ∨ j = 3 ∨ j = 4 ∨ j = 5 ∨ j = 6 by omega) with rfl | rfl | rfl | rfl | rfl | rfl | rfl <;> assumption)) (by decide) ?_
  exact ag_thr2 hx hb hq9 (hml.trans hl.1.symm) hT hown hG hS hW hout hlocks hf (w730) dX5_ofLine_88 dX5_ofLine_91 dX5_ofLine_92 dX5_ofLine_94 dX5_ofLine_97 (Nat.le_of_ble_eq_true rfl) (Nat.le_of_ble_eq_true rfl) (Nat.le_of_ble_eq_true rfl) (Nat.le_of_ble_eq_true rfl) (Nat.le_of_ble_eq_true rfl) (Nat.le_of_ble_eq_true rfl)
def f_X5_standsAnew_L11 (fu : Nat) : Nat → Int32 → Int32 → Int32 → ag_S → Option ((Int32 ⊕ Int32) × ag_S)
  | 0, _, _, _, _ => none
  | nf + 1, x2, x3, x4, s => ag_bd (f_Jx4a65c_size_8abf5_3 fu s) fun r17 => if r17 ≤ x4 then (ag_bd (f_X2_standsWith fu x2 x3 s) fun r70 => some (.inl r70, s)) else (ag_bd (f_Jx4a65c_get_915e3_3 fu x4 s) fun r29 => if s 3 2 r29 = x2 then (ag_bd (f_X5_countsByVotes fu r29 s) fun r48 => if r48 = 0 then (f_X5_standsAnew_L11 fu nf x2 x3 (x4 + 1) s) else (f_X5_standsAnew_L11 fu nf x2 (x3 + (s 3 3 r29)) (x4 + 1) s)) else (f_X5_standsAnew_L11 fu nf x2 x3 (x4 + 1) s))
def f_X5_standsAnew (fu : Nat) (x1 : Int32) (s : ag_S) : Option ((Int32 ⊕ Int32) × ag_S) := ag_bt (f_X5_lineAt fu x1 s) (fun w2 s => f_X5_standsAnew_L11 fu fu w2 0 0 s) id
abbrev rm_X5_standsAnew : Room := { frames := 7, cells := 1, slots := 6, locals := 104 }
theorem dd_yX5_standsAnew : yX5_standsAnew.cls = RX5 ∧ yX5_standsAnew.cls ≠ "java/lang/invoke/MethodHandle" ∧ yX5_standsAnew.cls ≠ "java/lang/invoke/VarHandle" ∧ (parseMethodDescriptor yX5_standsAnew.desc).map (fun d => d.parameters.length) = some 1 := by decide +kernel
set_option maxHeartbeats 4000000 in
set_option maxRecDepth 100000 in
theorem c_X5_standsAnew {z : ag_Z} {l : Launch} {n : ag_N} {p : ag_P} {s : ag_S} {fu : Nat} {x1 : Int32} {out : (Int32 ⊕ Int32) × ag_S} (hq9 : l.stackTraces = false) (t5 : vp_in 0 (n 5)) (hf : f_X5_standsAnew fu x1 s = some out) : vx_Met l yX5_standsAnew (ag_ws yX5_standsAnew cX5_standsAnew 6 ((some FieldType.int))) rm_X5_standsAnew (va_Pc [.ref (p 5 0), .int x1] (ag_Pre z n p s)) (ag_Xi z n p out) (ag_XX z n p out) 1 6 (ag_A z) := by
  refine vx_ofW (cc := cX5_standsAnew) (maxL := 6) (ret := (some FieldType.int)) (by decide) rfl ?_
  intro p0 e st m args below meth c s9 B hml hout hv
  obtain ⟨ha, h0, hG, hW⟩ := hv
  have hx := B.exec
  have hb := B.bytes
  have hr := B.returns
  have hts := atoms_spec (ws := ag_ws yX5_standsAnew cX5_standsAnew 6 ((some FieldType.int))) B.pre
  have hT : ∀ w ∈ ag_tbl, w.before args st = true := fun w h => hts w (List.mem_cons_of_mem _ h)
  have hown : st.vm.findClass RX5 = some m.cls := findClass_of_methodNamed B.named
  have hlocks := B.notSynchronized
  have hS : va_S (ag_A z) st.heap st.heap [] := va_S.rf
  obtain ⟨ls, hls, hl⟩ : ∃ ls, entryFrame m args 6 = F0 m 0 ls [] ∧ lv_has ls 6 [(0, .ref (p 5 0)), (1, .int x1)] := by rw [ha]; exact ag_entry m [.ref (p 5 0), .int x1] (Nat.le_of_ble_eq_true rfl)
  rw [hls]
  have k11 : ∀ (nf : Nat) (x2 : Int32) (x3 : Int32) (x4 : Int32) (s : ag_S) (H : Heap) (locs : List Loc) (ls : Array Slot) (vx2 : vp_in x2 (n 2)), ag_W z n p s H → va_S (ag_A z) st.heap H locs → lv_has ls 6 [(0, .ref (p 5 0)), (2, .ref (p 2 x2)), (3, .int x3), (4, .int x4)] → f_X5_standsAnew_L11 fu nf x2 x3 x4 s = some out → W p0 l e (headSpec (ag_ws yX5_standsAnew cX5_standsAnew 6 ((some FieldType.int))) rm_X5_standsAnew).room st m args below meth c H locs 1 6 (vx_MQ below (ag_Xi z n p out) (ag_XX z n p out) args st 1 6 (ag_A z)) (F0 m 11 ls []) := by
    intro nf
    induction nf with
    | zero => intro x2 x3 x4 s H locs ls vx2 hW hS hl hf; rw [f_X5_standsAnew_L11] at hf; cases hf
    | succ nf ih =>
      intro x2 x3 x4 s H locs ls vx2 hW hS hl hf
      rw [f_X5_standsAnew_L11] at hf
      refine lv_iload hx hb dX5_standsAnew_11 (lv_at hl 3 rfl) ?_
      refine lv_aload_n hx hb dX5_standsAnew_13 rfl (lv_at hl 0 rfl) ?_
      refine g5_3 hx hb hT hown hG hW t5 q154 dX5_standsAnew_14 ?_
      have t13 := ag_fix hW (k := 5) (f := 3) (t := 13) t5 rfl rfl
      obtain ⟨r17, hg17, hf⟩ := ag_bs hf
      refine ag_cVi hx hb hml hT hown hG h0 hS hW (c_Jx4a65c_size_8abf5_3 t13 hg17) ⟨rfl, rfl⟩ q193 q194 q195 q4 q196 dd_yJx4a65c_size_8abf5 ⟨Nat.le_of_ble_eq_true rfl, Nat.le_of_ble_eq_true rfl⟩ t13 rfl rfl hl.1 rfl (Nat.le_of_ble_eq_true rfl) ⟨Nat.le_of_ble_eq_true rfl, Nat.le_of_ble_eq_true rfl⟩ dX5_standsAnew_17 (fun H locs hW hS => ?_)
      refine lv_icmp_ge (tgt := 68) hx hb dX5_standsAnew_20 (by decide) (fun c20 => ?_) (fun c20 => ?_)
      · have hf := ag_t c20 hf
        refine lv_aload_n hx hb dX5_standsAnew_68 rfl (lv_at hl 1 rfl) ?_
        refine lv_iload_n hx hb dX5_standsAnew_69 rfl (lv_at hl 2 rfl) ?_
        obtain ⟨r70, hg70, hf⟩ := ag_bs hf
        refine ag_cVi hx hb hml hT hown hG h0 hS hW (c_X2_standsWith vx2 hg70) ⟨rfl, rfl⟩ q741 q514 q515 q19 q516 dd_yX2_standsWith ⟨Nat.le_of_ble_eq_true rfl, Nat.le_of_ble_eq_true rfl⟩ vx2 rfl rfl hl.1 rfl (Nat.le_of_ble_eq_true rfl) ⟨Nat.le_of_ble_eq_true rfl, Nat.le_of_ble_eq_true rfl⟩ dX5_standsAnew_70 (fun H locs hW hS => ?_)
        exact ag_xiret hx hb hr rfl hlocks hS hf hW dX5_standsAnew_73
      · have hf := ag_f c20 hf
        refine lv_aload_n hx hb dX5_standsAnew_23 rfl (lv_at hl 0 rfl) ?_
        refine g5_3 hx hb hT hown hG hW t5 q154 dX5_standsAnew_24 ?_
        have t13 := ag_fix hW (k := 5) (f := 3) (t := 13) t5 rfl rfl
        refine lv_iload hx hb dX5_standsAnew_27 (lv_at hl 3 rfl) ?_
        obtain ⟨r29, hg29, hf⟩ := ag_bs hf
        refine ag_cVr hx hb hml hT hown hG h0 hS hW (c_Jx4a65c_get_915e3_3 t13 hg29) ⟨rfl, rfl⟩ q265 q266 q267 q4 q268 dd_yJx4a65c_get_915e3 ⟨Nat.le_of_ble_eq_true rfl, Nat.le_of_ble_eq_true rfl⟩ t13 rfl rfl hl.1 rfl (Nat.le_of_ble_eq_true rfl) ⟨Nat.le_of_ble_eq_true rfl, Nat.le_of_ble_eq_true rfl⟩ dX5_standsAnew_29 (fun H locs hW hS v29 => ?_)
        refine ag_cast hx hb hown hG hW v29 rfl rfl (hT _ q385) dX5_standsAnew_32 ?_
        refine lv_astore (lv' := [(5, .ref (p 3 r29)), (0, .ref (p 5 0)), (2, .ref (p 2 x2)), (3, .int x3), (4, .int x4)]) hx hb dX5_standsAnew_35 hl (by decide) rfl (fun ls hl => ?_)
        refine lv_aload hx hb dX5_standsAnew_37 (lv_at hl 0 rfl) ?_
        refine g3_2 hx hb hT hown hG hW v29 q396 dX5_standsAnew_39 ?_
        have o39 := ag_W.okf hW (k := 3) (f := 2) (t := 2) rfl rfl (by decide) r29
        refine lv_aload_n hx hb dX5_standsAnew_42 rfl (lv_at hl 2 rfl) ?_
        refine ag_acmp_ne (t := 2) (v := s 3 2 r29) (w := x2) (tgt := 62) hx hb hW o39 vx2 dX5_standsAnew_43 (by decide) (fun c43 => ?_) (fun c43 => ?_)
        · have hf := ag_f c43 hf
          refine lv_iinc (v := x4 + 1) (lv' := [(4, .int (x4 + 1)), (5, .ref (p 3 r29)), (0, .ref (p 5 0)), (2, .ref (p 2 x2)), (3, .int x3)]) hx hb dX5_standsAnew_62 hl (k := 4) rfl rfl (by decide) rfl (fun ls hl => ?_)
          refine lv_goto (tgt := 11) hx hb dX5_standsAnew_65 (by decide) ?_
          exact ih _ _ _ _ _ _ _ vx2 hW hS (lv_sub hl [2, 3, 4, 0] rfl) hf
        · have hf := ag_t c43 hf
          refine lv_aload hx hb dX5_standsAnew_46 (lv_at hl 0 rfl) ?_
          obtain ⟨r48, hg48, hf⟩ := ag_bs hf
          refine ag_cSi hx hb hml hT hown hG h0 hS hW (c_X5_countsByVotes v29 hg48) ⟨rfl, rfl⟩ q738 q739 q1 q740 dd_yX5_countsByVotes ⟨Nat.le_of_ble_eq_true rfl, Nat.le_of_ble_eq_true rfl⟩ hl.1 rfl (Nat.le_of_ble_eq_true rfl) ⟨Nat.le_of_ble_eq_true rfl, Nat.le_of_ble_eq_true rfl⟩ dX5_standsAnew_48 (fun H locs hW hS => ?_)
          refine lv_if_eq (tgt := 62) hx hb dX5_standsAnew_51 (by decide) (fun c51 => ?_) (fun c51 => ?_)
          · have hf := ag_t c51 hf
            refine lv_iinc (v := x4 + 1) (lv' := [(4, .int (x4 + 1)), (5, .ref (p 3 r29)), (0, .ref (p 5 0)), (2, .ref (p 2 x2)), (3, .int x3)]) hx hb dX5_standsAnew_62 hl (k := 4) rfl rfl (by decide) rfl (fun ls hl => ?_)
            refine lv_goto (tgt := 11) hx hb dX5_standsAnew_65 (by decide) ?_
            exact ih _ _ _ _ _ _ _ vx2 hW hS (lv_sub hl [2, 3, 4, 0] rfl) hf
          · have hf := ag_f c51 hf
            refine lv_iload_n hx hb dX5_standsAnew_54 rfl (lv_at hl 3 rfl) ?_
            refine lv_aload hx hb dX5_standsAnew_55 (lv_at hl 0 rfl) ?_
            refine g3_3 hx hb hT hown hG hW v29 q398 dX5_standsAnew_57 ?_
            refine lv_iadd hx hb dX5_standsAnew_60 ?_
            refine lv_istore_n (lv' := [(3, .int (x3 + (s 3 3 r29))), (5, .ref (p 3 r29)), (0, .ref (p 5 0)), (2, .ref (p 2 x2)), (4, .int x4)]) hx hb dX5_standsAnew_61 rfl hl (by decide) rfl (fun ls hl => ?_)
            refine lv_iinc (v := x4 + 1) (lv' := [(4, .int (x4 + 1)), (3, .int (x3 + (s 3 3 r29))), (5, .ref (p 3 r29)), (0, .ref (p 5 0)), (2, .ref (p 2 x2))]) hx hb dX5_standsAnew_62 hl (k := 4) rfl rfl (by decide) rfl (fun ls hl => ?_)
            refine lv_goto (tgt := 11) hx hb dX5_standsAnew_65 (by decide) ?_
            exact ih _ _ _ _ _ _ _ vx2 hW hS (lv_sub hl [3, 4, 1, 0] rfl) hf
  unfold f_X5_standsAnew at hf
  refine lv_aload_n hx hb dX5_standsAnew_0 rfl (lv_at hl 0 rfl) ?_
  refine lv_iload_n hx hb dX5_standsAnew_1 rfl (lv_at hl 1 rfl) ?_
  obtain ⟨r2, hg2, hf⟩ := ag_xs hf
  refine ag_xVr (C1 := 1) (S1 := 6) hx hb hml hT hown hG h0 hS hW (c_X5_lineAt hq9 t5 hg2) ⟨rfl, rfl⟩ q350 q352 qs5 q1 q353 dd_yX5_lineAt ⟨Nat.le_of_ble_eq_true rfl, Nat.le_of_ble_eq_true rfl⟩ t5 rfl rfl hl.1 rfl (Nat.le_of_ble_eq_true rfl) ⟨Nat.le_of_ble_eq_true rfl, Nat.le_of_ble_eq_true rfl⟩ dX5_standsAnew_2 (fun E ce q9 H locs hE hW hS g1 g2 g3 => ag_propO hf hout hlocks (Nat.le_of_ble_eq_true rfl) (Nat.le_of_ble_eq_true rfl) hE hW hS g1 g2 g3) (Nat.le_of_ble_eq_true rfl) (Nat.le_of_ble_eq_true rfl) (fun w2 H locs hr2 v2 hW hS => ?_)
  have hf := ag_inl hf hr2
  obtain ⟨s, es2⟩ : ∃ s9, s9 = r2.2 := ⟨_, rfl⟩
  rw [← es2] at hW hf
  refine lv_astore_n (lv' := [(2, .ref (p 2 w2)), (0, .ref (p 5 0)), (1, .int x1)]) hx hb dX5_standsAnew_5 rfl hl (by decide) rfl (fun ls hl => ?_)
  refine lv_iconst (v := 0) hx hb dX5_standsAnew_6 (by decide) ?_
  refine lv_istore_n (lv' := [(3, .int 0), (2, .ref (p 2 w2)), (0, .ref (p 5 0)), (1, .int x1)]) hx hb dX5_standsAnew_7 rfl hl (by decide) rfl (fun ls hl => ?_)
  refine lv_iconst (v := 0) hx hb dX5_standsAnew_8 (by decide) ?_
  refine lv_istore (lv' := [(4, .int 0), (3, .int 0), (2, .ref (p 2 w2)), (0, .ref (p 5 0)), (1, .int x1)]) hx hb dX5_standsAnew_9 hl (by decide) rfl (fun ls hl => ?_)
  exact k11 fu _ _ _ _ _ _ _ v2 hW hS (lv_sub hl [3, 2, 1, 0] rfl) hf
def f_X5_ofAmendment (fu : Nat) (x1 : Int32) (x2 : Int32) (s : ag_S) : Option ((Int32 ⊕ Int32) × ag_S) := ag_bt (f_X5_amendmentAt fu x1 s) (fun w2 s => if x2 = 0 then (some (.inl (s 3 5 w2), s)) else (if x2 = 1 then (some (.inl (s 3 4 w2), s)) else (if x2 = 2 then (some (.inl (s 3 6 w2), s)) else (if x2 = 3 then (ag_bd (f_X0_votesFor fu w2 s) fun r68 => some (.inl r68, s)) else (if x2 = 4 then (ag_bd (f_X0_votesAgainst fu w2 s) fun r73 => some (.inl r73, s)) else (if x2 = 5 then (ag_bd (f_X5_numberOf fu (s 3 1 w2) s) fun r81 => some (.inl r81, s)) else (if x2 = 6 then (if s 3 2 w2 = -1 then none else some (.inl (s 2 0 (s 3 2 w2)), s)) else (if x2 = 7 then (ag_bd (f_X5_countOn fu w2 s) fun r95 => some (.inl r95, s)) else (some (.inr 2, s)))))))))) id
abbrev rm_X5_ofAmendment : Room := { frames := 7, cells := 2, slots := 12, locals := 104 }
theorem dd_yX5_ofAmendment : yX5_ofAmendment.cls = RX5 ∧ yX5_ofAmendment.cls ≠ "java/lang/invoke/MethodHandle" ∧ yX5_ofAmendment.cls ≠ "java/lang/invoke/VarHandle" ∧ (parseMethodDescriptor yX5_ofAmendment.desc).map (fun d => d.parameters.length) = some 2 := by decide +kernel
set_option maxHeartbeats 4000000 in
set_option maxRecDepth 100000 in
theorem c_X5_ofAmendment {z : ag_Z} {l : Launch} {n : ag_N} {p : ag_P} {s : ag_S} {fu : Nat} {x1 : Int32} {x2 : Int32} {out : (Int32 ⊕ Int32) × ag_S} (hq9 : l.stackTraces = false) (t5 : vp_in 0 (n 5)) (hf : f_X5_ofAmendment fu x1 x2 s = some out) : vx_Met l yX5_ofAmendment (ag_ws yX5_ofAmendment cX5_ofAmendment 4 ((some FieldType.int))) rm_X5_ofAmendment (va_Pc [.ref (p 5 0), .int x1, .int x2] (ag_Pre z n p s)) (ag_Xi z n p out) (ag_XX z n p out) 2 12 (ag_A z) := by
  refine vx_ofW (cc := cX5_ofAmendment) (maxL := 4) (ret := (some FieldType.int)) (by decide) rfl ?_
  intro p0 e st m args below meth c s9 B hml hout hv
  obtain ⟨ha, h0, hG, hW⟩ := hv
  have hx := B.exec
  have hb := B.bytes
  have hr := B.returns
  have hts := atoms_spec (ws := ag_ws yX5_ofAmendment cX5_ofAmendment 4 ((some FieldType.int))) B.pre
  have hT : ∀ w ∈ ag_tbl, w.before args st = true := fun w h => hts w (List.mem_cons_of_mem _ h)
  have hown : st.vm.findClass RX5 = some m.cls := findClass_of_methodNamed B.named
  have hlocks := B.notSynchronized
  have hS : va_S (ag_A z) st.heap st.heap [] := va_S.rf
  obtain ⟨ls, hls, hl⟩ : ∃ ls, entryFrame m args 4 = F0 m 0 ls [] ∧ lv_has ls 4 [(0, .ref (p 5 0)), (1, .int x1), (2, .int x2)] := by rw [ha]; exact ag_entry m [.ref (p 5 0), .int x1, .int x2] (Nat.le_of_ble_eq_true rfl)
  rw [hls]
  unfold f_X5_ofAmendment at hf
  refine lv_aload_n hx hb dX5_ofAmendment_0 rfl (lv_at hl 0 rfl) ?_
  refine lv_iload_n hx hb dX5_ofAmendment_1 rfl (lv_at hl 1 rfl) ?_
  obtain ⟨r2, hg2, hf⟩ := ag_xs hf
  refine ag_xVr (C1 := 1) (S1 := 6) hx hb hml hT hown hG h0 hS hW (c_X5_amendmentAt hq9 t5 hg2) ⟨rfl, rfl⟩ q438 q440 qs8 q1 q441 dd_yX5_amendmentAt ⟨Nat.le_of_ble_eq_true rfl, Nat.le_of_ble_eq_true rfl⟩ t5 rfl rfl hl.1 rfl (Nat.le_of_ble_eq_true rfl) ⟨Nat.le_of_ble_eq_true rfl, Nat.le_of_ble_eq_true rfl⟩ dX5_ofAmendment_2 (fun E ce q9 H locs hE hW hS g1 g2 g3 => ag_propO hf hout hlocks (Nat.le_of_ble_eq_true rfl) (Nat.le_of_ble_eq_true rfl) hE hW hS g1 g2 g3) (Nat.le_of_ble_eq_true rfl) (Nat.le_of_ble_eq_true rfl) (fun w2 H locs hr2 v2 hW hS => ?_)
  have hf := ag_inl hf hr2
  obtain ⟨s, es2⟩ : ∃ s9, s9 = r2.2 := ⟨_, rfl⟩
  rw [← es2] at hW hf
  refine lv_astore_n (lv' := [(3, .ref (p 3 w2)), (0, .ref (p 5 0)), (1, .int x1), (2, .int x2)]) hx hb dX5_ofAmendment_5 rfl hl (by decide) rfl (fun ls hl => ?_)
  refine lv_iload_n hx hb dX5_ofAmendment_6 rfl (lv_at hl 3 rfl) ?_
  by_cases c7_0 : x2 = 0
  · have hf := ag_t c7_0 hf
    refine lv_tableIn (off := 45) (tgt := 52) hx hb dX5_ofAmendment_7 (by rw [c7_0]; decide) (by rw [c7_0]; decide) (by rw [c7_0]; rfl) (by decide) ?_
    refine lv_aload_n hx hb dX5_ofAmendment_52 rfl (lv_at hl 0 rfl) ?_
    refine g3_5 hx hb hT hown hG hW v2 q403 dX5_ofAmendment_53 ?_
    refine W.widen (k := 2) (n := 12) (Nat.le_of_ble_eq_true rfl) (Nat.le_of_ble_eq_true rfl) ?_
    exact ag_xiret hx hb hr rfl hlocks hS hf hW dX5_ofAmendment_56
  have hf := ag_f c7_0 hf
  by_cases c7_1 : x2 = 1
  · have hf := ag_t c7_1 hf
    refine lv_tableIn (off := 50) (tgt := 57) hx hb dX5_ofAmendment_7 (by rw [c7_1]; decide) (by rw [c7_1]; decide) (by rw [c7_1]; rfl) (by decide) ?_
    refine lv_aload_n hx hb dX5_ofAmendment_57 rfl (lv_at hl 0 rfl) ?_
    refine g3_4 hx hb hT hown hG hW v2 q400 dX5_ofAmendment_58 ?_
    refine W.widen (k := 2) (n := 12) (Nat.le_of_ble_eq_true rfl) (Nat.le_of_ble_eq_true rfl) ?_
    exact ag_xiret hx hb hr rfl hlocks hS hf hW dX5_ofAmendment_61
  have hf := ag_f c7_1 hf
  by_cases c7_2 : x2 = 2
  · have hf := ag_t c7_2 hf
    refine lv_tableIn (off := 55) (tgt := 62) hx hb dX5_ofAmendment_7 (by rw [c7_2]; decide) (by rw [c7_2]; decide) (by rw [c7_2]; rfl) (by decide) ?_
    refine lv_aload_n hx hb dX5_ofAmendment_62 rfl (lv_at hl 0 rfl) ?_
    refine g3_6 hx hb hT hown hG hW v2 q405 dX5_ofAmendment_63 ?_
    refine W.widen (k := 2) (n := 12) (Nat.le_of_ble_eq_true rfl) (Nat.le_of_ble_eq_true rfl) ?_
    exact ag_xiret hx hb hr rfl hlocks hS hf hW dX5_ofAmendment_66
  have hf := ag_f c7_2 hf
  by_cases c7_3 : x2 = 3
  · have hf := ag_t c7_3 hf
    refine lv_tableIn (off := 60) (tgt := 67) hx hb dX5_ofAmendment_7 (by rw [c7_3]; decide) (by rw [c7_3]; decide) (by rw [c7_3]; rfl) (by decide) ?_
    refine lv_aload_n hx hb dX5_ofAmendment_67 rfl (lv_at hl 0 rfl) ?_
    obtain ⟨r68, hg68, hf⟩ := ag_bs hf
    refine ag_cVi hx hb hml hT hown hG h0 hS hW (c_X0_votesFor v2 hg68) ⟨rfl, rfl⟩ q459 q460 q461 q21 q462 dd_yX0_votesFor ⟨Nat.le_of_ble_eq_true rfl, Nat.le_of_ble_eq_true rfl⟩ v2 rfl rfl hl.1 rfl (Nat.le_of_ble_eq_true rfl) ⟨Nat.le_of_ble_eq_true rfl, Nat.le_of_ble_eq_true rfl⟩ dX5_ofAmendment_68 (fun H locs hW hS => ?_)
    refine W.widen (k := 2) (n := 12) (Nat.le_of_ble_eq_true rfl) (Nat.le_of_ble_eq_true rfl) ?_
    exact ag_xiret hx hb hr rfl hlocks hS hf hW dX5_ofAmendment_71
  have hf := ag_f c7_3 hf
  by_cases c7_4 : x2 = 4
  · have hf := ag_t c7_4 hf
    refine lv_tableIn (off := 65) (tgt := 72) hx hb dX5_ofAmendment_7 (by rw [c7_4]; decide) (by rw [c7_4]; decide) (by rw [c7_4]; rfl) (by decide) ?_
    refine lv_aload_n hx hb dX5_ofAmendment_72 rfl (lv_at hl 0 rfl) ?_
    obtain ⟨r73, hg73, hf⟩ := ag_bs hf
    refine ag_cVi hx hb hml hT hown hG h0 hS hW (c_X0_votesAgainst v2 hg73) ⟨rfl, rfl⟩ q749 q487 q488 q21 q489 dd_yX0_votesAgainst ⟨Nat.le_of_ble_eq_true rfl, Nat.le_of_ble_eq_true rfl⟩ v2 rfl rfl hl.1 rfl (Nat.le_of_ble_eq_true rfl) ⟨Nat.le_of_ble_eq_true rfl, Nat.le_of_ble_eq_true rfl⟩ dX5_ofAmendment_73 (fun H locs hW hS => ?_)
    refine W.widen (k := 2) (n := 12) (Nat.le_of_ble_eq_true rfl) (Nat.le_of_ble_eq_true rfl) ?_
    exact ag_xiret hx hb hr rfl hlocks hS hf hW dX5_ofAmendment_76
  have hf := ag_f c7_4 hf
  by_cases c7_5 : x2 = 5
  · have hf := ag_t c7_5 hf
    refine lv_tableIn (off := 70) (tgt := 77) hx hb dX5_ofAmendment_7 (by rw [c7_5]; decide) (by rw [c7_5]; decide) (by rw [c7_5]; rfl) (by decide) ?_
    refine lv_aload_n hx hb dX5_ofAmendment_77 rfl (lv_at hl 0 rfl) ?_
    refine g3_1 hx hb hT hown hG hW v2 q394 dX5_ofAmendment_78 ?_
    have o78 := ag_W.okf hW (k := 3) (f := 1) (t := 3) rfl rfl (by decide) w2
    obtain ⟨r81, hg81, hf⟩ := ag_bs hf
    refine ag_cSi hx hb hml hT hown hG h0 hS hW (c_X5_numberOf o78 hg81) ⟨rfl, rfl⟩ q750 q751 q1 q752 dd_yX5_numberOf ⟨Nat.le_of_ble_eq_true rfl, Nat.le_of_ble_eq_true rfl⟩ hl.1 rfl (Nat.le_of_ble_eq_true rfl) ⟨Nat.le_of_ble_eq_true rfl, Nat.le_of_ble_eq_true rfl⟩ dX5_ofAmendment_81 (fun H locs hW hS => ?_)
    refine W.widen (k := 2) (n := 12) (Nat.le_of_ble_eq_true rfl) (Nat.le_of_ble_eq_true rfl) ?_
    exact ag_xiret hx hb hr rfl hlocks hS hf hW dX5_ofAmendment_84
  have hf := ag_f c7_5 hf
  by_cases c7_6 : x2 = 6
  · have hf := ag_t c7_6 hf
    refine lv_tableIn (off := 78) (tgt := 85) hx hb dX5_ofAmendment_7 (by rw [c7_6]; decide) (by rw [c7_6]; decide) (by rw [c7_6]; rfl) (by decide) ?_
    refine lv_aload_n hx hb dX5_ofAmendment_85 rfl (lv_at hl 0 rfl) ?_
    refine g3_2 hx hb hT hown hG hW v2 q396 dX5_ofAmendment_86 ?_
    have o86 := ag_W.okf hW (k := 3) (f := 2) (t := 2) rfl rfl (by decide) w2
    obtain ⟨m89_1, hf⟩ := ag_n hf
    have e89_1 := (ag_refq (z := z) (p := p) o86 m89_1)
    have v89_1 := (ag_ref (z := z) (p := p) o86 m89_1).2
    rw [e89_1]
    refine g2_0 hx hb hT hown hG hW v89_1 q307 dX5_ofAmendment_89 ?_
    refine W.widen (k := 2) (n := 12) (Nat.le_of_ble_eq_true rfl) (Nat.le_of_ble_eq_true rfl) ?_
    exact ag_xiret hx hb hr rfl hlocks hS hf hW dX5_ofAmendment_92
  have hf := ag_f c7_6 hf
  by_cases c7_7 : x2 = 7
  · have hf := ag_t c7_7 hf
    refine lv_tableIn (off := 86) (tgt := 93) hx hb dX5_ofAmendment_7 (by rw [c7_7]; decide) (by rw [c7_7]; decide) (by rw [c7_7]; rfl) (by decide) ?_
    refine lv_aload_n hx hb dX5_ofAmendment_93 rfl (lv_at hl 1 rfl) ?_
    refine lv_aload_n hx hb dX5_ofAmendment_94 rfl (lv_at hl 0 rfl) ?_
    obtain ⟨r95, hg95, hf⟩ := ag_bs hf
    refine ag_cVi hx hb hml hT hown hG h0 hS hW (c_X5_countOn t5 v2 hg95) ⟨rfl, rfl⟩ q753 q755 qs25 q1 q756 dd_yX5_countOn ⟨Nat.le_of_ble_eq_true rfl, Nat.le_of_ble_eq_true rfl⟩ t5 rfl rfl hl.1 rfl (Nat.le_of_ble_eq_true rfl) ⟨Nat.le_of_ble_eq_true rfl, Nat.le_of_ble_eq_true rfl⟩ dX5_ofAmendment_95 (fun H locs hW hS => ?_)
    refine W.widen (k := 2) (n := 12) (Nat.le_of_ble_eq_true rfl) (Nat.le_of_ble_eq_true rfl) ?_
    exact ag_xiret hx hb hr rfl hlocks hS hf hW dX5_ofAmendment_98
  have hf := ag_f c7_7 hf
  refine lv_tableOut (tgt := 99) hx hb dX5_ofAmendment_7 (ag_tab 7 (fun j hj => by rcases (show j = 0 ∨ j = 1 ∨ j = 2 ∨ j = 3 ∨ j = 4 ∨ j = 5 ∨ j = 6 ∨ j = 7 by omega) with rfl | rfl | rfl | rfl | rfl | rfl | rfl | rfl <;> assumption)) (by decide) ?_
  exact ag_thr2 hx hb hq9 (hml.trans hl.1.symm) hT hown hG hS hW hout hlocks hf (w730) dX5_ofAmendment_99 dX5_ofAmendment_102 dX5_ofAmendment_103 dX5_ofAmendment_105 dX5_ofAmendment_108 (Nat.le_of_ble_eq_true rfl) (Nat.le_of_ble_eq_true rfl) (Nat.le_of_ble_eq_true rfl) (Nat.le_of_ble_eq_true rfl) (Nat.le_of_ble_eq_true rfl) (Nat.le_of_ble_eq_true rfl)
def f_X5_ofGrant (fu : Nat) (x1 : Int32) (x2 : Int32) (s : ag_S) : Option ((Int32 ⊕ Int32) × ag_S) := ag_bt (f_X5_grantAt fu x1 s) (fun w2 s => if x2 = 0 then (some (.inl (s 4 6 w2), s)) else (if x2 = 1 then (some (.inl (s 4 4 w2), s)) else (if x2 = 2 then (some (.inl (s 4 5 w2), s)) else (if x2 = 3 then (if s 4 0 w2 = -1 then none else some (.inl (s 2 0 (s 4 0 w2)), s)) else (if x2 = 4 then (if s 4 1 w2 = -1 then none else some (.inl (s 1 0 (s 4 1 w2)), s)) else (if x2 = 5 then (ag_bd (f_X5_numberOf fu (s 4 2 w2) s) fun r87 => some (.inl r87, s)) else (if x2 = 6 then (some (.inl (s 4 3 w2), s)) else (if x2 = 7 then (if s 4 7 w2 = 0 then (some (.inl 0, s)) else (some (.inl 1, s))) else (some (.inr 2, s)))))))))) id
abbrev rm_X5_ofGrant : Room := { frames := 7, cells := 2, slots := 12, locals := 104 }
theorem dd_yX5_ofGrant : yX5_ofGrant.cls = RX5 ∧ yX5_ofGrant.cls ≠ "java/lang/invoke/MethodHandle" ∧ yX5_ofGrant.cls ≠ "java/lang/invoke/VarHandle" ∧ (parseMethodDescriptor yX5_ofGrant.desc).map (fun d => d.parameters.length) = some 2 := by decide +kernel
set_option maxHeartbeats 4000000 in
set_option maxRecDepth 100000 in
theorem c_X5_ofGrant {z : ag_Z} {l : Launch} {n : ag_N} {p : ag_P} {s : ag_S} {fu : Nat} {x1 : Int32} {x2 : Int32} {out : (Int32 ⊕ Int32) × ag_S} (hq9 : l.stackTraces = false) (t5 : vp_in 0 (n 5)) (hf : f_X5_ofGrant fu x1 x2 s = some out) : vx_Met l yX5_ofGrant (ag_ws yX5_ofGrant cX5_ofGrant 4 ((some FieldType.int))) rm_X5_ofGrant (va_Pc [.ref (p 5 0), .int x1, .int x2] (ag_Pre z n p s)) (ag_Xi z n p out) (ag_XX z n p out) 2 12 (ag_A z) := by
  refine vx_ofW (cc := cX5_ofGrant) (maxL := 4) (ret := (some FieldType.int)) (by decide) rfl ?_
  intro p0 e st m args below meth c s9 B hml hout hv
  obtain ⟨ha, h0, hG, hW⟩ := hv
  have hx := B.exec
  have hb := B.bytes
  have hr := B.returns
  have hts := atoms_spec (ws := ag_ws yX5_ofGrant cX5_ofGrant 4 ((some FieldType.int))) B.pre
  have hT : ∀ w ∈ ag_tbl, w.before args st = true := fun w h => hts w (List.mem_cons_of_mem _ h)
  have hown : st.vm.findClass RX5 = some m.cls := findClass_of_methodNamed B.named
  have hlocks := B.notSynchronized
  have hS : va_S (ag_A z) st.heap st.heap [] := va_S.rf
  obtain ⟨ls, hls, hl⟩ : ∃ ls, entryFrame m args 4 = F0 m 0 ls [] ∧ lv_has ls 4 [(0, .ref (p 5 0)), (1, .int x1), (2, .int x2)] := by rw [ha]; exact ag_entry m [.ref (p 5 0), .int x1, .int x2] (Nat.le_of_ble_eq_true rfl)
  rw [hls]
  unfold f_X5_ofGrant at hf
  refine lv_aload_n hx hb dX5_ofGrant_0 rfl (lv_at hl 0 rfl) ?_
  refine lv_iload_n hx hb dX5_ofGrant_1 rfl (lv_at hl 1 rfl) ?_
  obtain ⟨r2, hg2, hf⟩ := ag_xs hf
  refine ag_xVr (C1 := 1) (S1 := 6) hx hb hml hT hown hG h0 hS hW (c_X5_grantAt hq9 t5 hg2) ⟨rfl, rfl⟩ q633 q635 qs20 q1 q636 dd_yX5_grantAt ⟨Nat.le_of_ble_eq_true rfl, Nat.le_of_ble_eq_true rfl⟩ t5 rfl rfl hl.1 rfl (Nat.le_of_ble_eq_true rfl) ⟨Nat.le_of_ble_eq_true rfl, Nat.le_of_ble_eq_true rfl⟩ dX5_ofGrant_2 (fun E ce q9 H locs hE hW hS g1 g2 g3 => ag_propO hf hout hlocks (Nat.le_of_ble_eq_true rfl) (Nat.le_of_ble_eq_true rfl) hE hW hS g1 g2 g3) (Nat.le_of_ble_eq_true rfl) (Nat.le_of_ble_eq_true rfl) (fun w2 H locs hr2 v2 hW hS => ?_)
  have hf := ag_inl hf hr2
  obtain ⟨s, es2⟩ : ∃ s9, s9 = r2.2 := ⟨_, rfl⟩
  rw [← es2] at hW hf
  refine lv_astore_n (lv' := [(3, .ref (p 4 w2)), (0, .ref (p 5 0)), (1, .int x1), (2, .int x2)]) hx hb dX5_ofGrant_5 rfl hl (by decide) rfl (fun ls hl => ?_)
  refine lv_iload_n hx hb dX5_ofGrant_6 rfl (lv_at hl 3 rfl) ?_
  by_cases c7_0 : x2 = 0
  · have hf := ag_t c7_0 hf
    refine lv_tableIn (off := 45) (tgt := 52) hx hb dX5_ofGrant_7 (by rw [c7_0]; decide) (by rw [c7_0]; decide) (by rw [c7_0]; rfl) (by decide) ?_
    refine lv_aload_n hx hb dX5_ofGrant_52 rfl (lv_at hl 0 rfl) ?_
    refine g4_6 hx hb hT hown hG hW v2 q606 dX5_ofGrant_53 ?_
    refine W.widen (k := 2) (n := 12) (Nat.le_of_ble_eq_true rfl) (Nat.le_of_ble_eq_true rfl) ?_
    exact ag_xiret hx hb hr rfl hlocks hS hf hW dX5_ofGrant_56
  have hf := ag_f c7_0 hf
  by_cases c7_1 : x2 = 1
  · have hf := ag_t c7_1 hf
    refine lv_tableIn (off := 50) (tgt := 57) hx hb dX5_ofGrant_7 (by rw [c7_1]; decide) (by rw [c7_1]; decide) (by rw [c7_1]; rfl) (by decide) ?_
    refine lv_aload_n hx hb dX5_ofGrant_57 rfl (lv_at hl 0 rfl) ?_
    refine g4_4 hx hb hT hown hG hW v2 q602 dX5_ofGrant_58 ?_
    refine W.widen (k := 2) (n := 12) (Nat.le_of_ble_eq_true rfl) (Nat.le_of_ble_eq_true rfl) ?_
    exact ag_xiret hx hb hr rfl hlocks hS hf hW dX5_ofGrant_61
  have hf := ag_f c7_1 hf
  by_cases c7_2 : x2 = 2
  · have hf := ag_t c7_2 hf
    refine lv_tableIn (off := 55) (tgt := 62) hx hb dX5_ofGrant_7 (by rw [c7_2]; decide) (by rw [c7_2]; decide) (by rw [c7_2]; rfl) (by decide) ?_
    refine lv_aload_n hx hb dX5_ofGrant_62 rfl (lv_at hl 0 rfl) ?_
    refine g4_5 hx hb hT hown hG hW v2 q604 dX5_ofGrant_63 ?_
    refine W.widen (k := 2) (n := 12) (Nat.le_of_ble_eq_true rfl) (Nat.le_of_ble_eq_true rfl) ?_
    exact ag_xiret hx hb hr rfl hlocks hS hf hW dX5_ofGrant_66
  have hf := ag_f c7_2 hf
  by_cases c7_3 : x2 = 3
  · have hf := ag_t c7_3 hf
    refine lv_tableIn (off := 60) (tgt := 67) hx hb dX5_ofGrant_7 (by rw [c7_3]; decide) (by rw [c7_3]; decide) (by rw [c7_3]; rfl) (by decide) ?_
    refine lv_aload_n hx hb dX5_ofGrant_67 rfl (lv_at hl 0 rfl) ?_
    refine g4_0 hx hb hT hown hG hW v2 q594 dX5_ofGrant_68 ?_
    have o68 := ag_W.okf hW (k := 4) (f := 0) (t := 2) rfl rfl (by decide) w2
    obtain ⟨m71_1, hf⟩ := ag_n hf
    have e71_1 := (ag_refq (z := z) (p := p) o68 m71_1)
    have v71_1 := (ag_ref (z := z) (p := p) o68 m71_1).2
    rw [e71_1]
    refine g2_0 hx hb hT hown hG hW v71_1 q307 dX5_ofGrant_71 ?_
    refine W.widen (k := 2) (n := 12) (Nat.le_of_ble_eq_true rfl) (Nat.le_of_ble_eq_true rfl) ?_
    exact ag_xiret hx hb hr rfl hlocks hS hf hW dX5_ofGrant_74
  have hf := ag_f c7_3 hf
  by_cases c7_4 : x2 = 4
  · have hf := ag_t c7_4 hf
    refine lv_tableIn (off := 68) (tgt := 75) hx hb dX5_ofGrant_7 (by rw [c7_4]; decide) (by rw [c7_4]; decide) (by rw [c7_4]; rfl) (by decide) ?_
    refine lv_aload_n hx hb dX5_ofGrant_75 rfl (lv_at hl 0 rfl) ?_
    refine g4_1 hx hb hT hown hG hW v2 q596 dX5_ofGrant_76 ?_
    have o76 := ag_W.okf hW (k := 4) (f := 1) (t := 1) rfl rfl (by decide) w2
    obtain ⟨m79_2, hf⟩ := ag_n hf
    have e79_2 := (ag_refq (z := z) (p := p) o76 m79_2)
    have v79_2 := (ag_ref (z := z) (p := p) o76 m79_2).2
    rw [e79_2]
    refine g1_0 hx hb hT hown hG hW v79_2 q142 dX5_ofGrant_79 ?_
    refine W.widen (k := 2) (n := 12) (Nat.le_of_ble_eq_true rfl) (Nat.le_of_ble_eq_true rfl) ?_
    exact ag_xiret hx hb hr rfl hlocks hS hf hW dX5_ofGrant_82
  have hf := ag_f c7_4 hf
  by_cases c7_5 : x2 = 5
  · have hf := ag_t c7_5 hf
    refine lv_tableIn (off := 76) (tgt := 83) hx hb dX5_ofGrant_7 (by rw [c7_5]; decide) (by rw [c7_5]; decide) (by rw [c7_5]; rfl) (by decide) ?_
    refine lv_aload_n hx hb dX5_ofGrant_83 rfl (lv_at hl 0 rfl) ?_
    refine g4_2 hx hb hT hown hG hW v2 q598 dX5_ofGrant_84 ?_
    have o84 := ag_W.okf hW (k := 4) (f := 2) (t := 3) rfl rfl (by decide) w2
    obtain ⟨r87, hg87, hf⟩ := ag_bs hf
    refine ag_cSi hx hb hml hT hown hG h0 hS hW (c_X5_numberOf o84 hg87) ⟨rfl, rfl⟩ q750 q751 q1 q752 dd_yX5_numberOf ⟨Nat.le_of_ble_eq_true rfl, Nat.le_of_ble_eq_true rfl⟩ hl.1 rfl (Nat.le_of_ble_eq_true rfl) ⟨Nat.le_of_ble_eq_true rfl, Nat.le_of_ble_eq_true rfl⟩ dX5_ofGrant_87 (fun H locs hW hS => ?_)
    refine W.widen (k := 2) (n := 12) (Nat.le_of_ble_eq_true rfl) (Nat.le_of_ble_eq_true rfl) ?_
    exact ag_xiret hx hb hr rfl hlocks hS hf hW dX5_ofGrant_90
  have hf := ag_f c7_5 hf
  by_cases c7_6 : x2 = 6
  · have hf := ag_t c7_6 hf
    refine lv_tableIn (off := 84) (tgt := 91) hx hb dX5_ofGrant_7 (by rw [c7_6]; decide) (by rw [c7_6]; decide) (by rw [c7_6]; rfl) (by decide) ?_
    refine lv_aload_n hx hb dX5_ofGrant_91 rfl (lv_at hl 0 rfl) ?_
    refine g4_3 hx hb hT hown hG hW v2 q600 dX5_ofGrant_92 ?_
    refine W.widen (k := 2) (n := 12) (Nat.le_of_ble_eq_true rfl) (Nat.le_of_ble_eq_true rfl) ?_
    exact ag_xiret hx hb hr rfl hlocks hS hf hW dX5_ofGrant_95
  have hf := ag_f c7_6 hf
  by_cases c7_7 : x2 = 7
  · have hf := ag_t c7_7 hf
    refine lv_tableIn (off := 89) (tgt := 96) hx hb dX5_ofGrant_7 (by rw [c7_7]; decide) (by rw [c7_7]; decide) (by rw [c7_7]; rfl) (by decide) ?_
    refine lv_aload_n hx hb dX5_ofGrant_96 rfl (lv_at hl 0 rfl) ?_
    refine g4_7 hx hb hT hown hG hW v2 q608 dX5_ofGrant_97 ?_
    refine lv_if_eq (tgt := 107) hx hb dX5_ofGrant_100 (by decide) (fun c100 => ?_) (fun c100 => ?_)
    · have hf := ag_t c100 hf
      refine lv_iconst (v := 0) hx hb dX5_ofGrant_107 (by decide) ?_
      refine W.widen (k := 2) (n := 12) (Nat.le_of_ble_eq_true rfl) (Nat.le_of_ble_eq_true rfl) ?_
      exact ag_xiret hx hb hr rfl hlocks hS hf hW dX5_ofGrant_108
    · have hf := ag_f c100 hf
      refine lv_iconst (v := 1) hx hb dX5_ofGrant_103 (by decide) ?_
      refine lv_goto (tgt := 108) hx hb dX5_ofGrant_104 (by decide) ?_
      refine W.widen (k := 2) (n := 12) (Nat.le_of_ble_eq_true rfl) (Nat.le_of_ble_eq_true rfl) ?_
      exact ag_xiret hx hb hr rfl hlocks hS hf hW dX5_ofGrant_108
  have hf := ag_f c7_7 hf
  refine lv_tableOut (tgt := 109) hx hb dX5_ofGrant_7 (ag_tab 7 (fun j hj => by rcases (show j = 0 ∨ j = 1 ∨ j = 2 ∨ j = 3 ∨ j = 4 ∨ j = 5 ∨ j = 6 ∨ j = 7 by omega) with rfl | rfl | rfl | rfl | rfl | rfl | rfl | rfl <;> assumption)) (by decide) ?_
  exact ag_thr2 hx hb hq9 (hml.trans hl.1.symm) hT hown hG hS hW hout hlocks hf (w730) dX5_ofGrant_109 dX5_ofGrant_112 dX5_ofGrant_113 dX5_ofGrant_115 dX5_ofGrant_118 (Nat.le_of_ble_eq_true rfl) (Nat.le_of_ble_eq_true rfl) (Nat.le_of_ble_eq_true rfl) (Nat.le_of_ble_eq_true rfl) (Nat.le_of_ble_eq_true rfl) (Nat.le_of_ble_eq_true rfl)
def f_X5_owes (fu : Nat) (x1 : Int32) (s : ag_S) : Option ((Int32 ⊕ Int32) × ag_S) := ag_bt (f_X5_receiverAt fu x1 s) (fun w2 s => some (.inl (s 1 1 w2), s)) id
abbrev rm_X5_owes : Room := { frames := 7, cells := 1, slots := 6, locals := 104 }
theorem dd_yX5_owes : yX5_owes.cls = RX5 ∧ yX5_owes.cls ≠ "java/lang/invoke/MethodHandle" ∧ yX5_owes.cls ≠ "java/lang/invoke/VarHandle" ∧ (parseMethodDescriptor yX5_owes.desc).map (fun d => d.parameters.length) = some 1 := by decide +kernel
set_option maxHeartbeats 4000000 in
set_option maxRecDepth 100000 in
theorem c_X5_owes {z : ag_Z} {l : Launch} {n : ag_N} {p : ag_P} {s : ag_S} {fu : Nat} {x1 : Int32} {out : (Int32 ⊕ Int32) × ag_S} (hq9 : l.stackTraces = false) (t5 : vp_in 0 (n 5)) (hf : f_X5_owes fu x1 s = some out) : vx_Met l yX5_owes (ag_ws yX5_owes cX5_owes 2 ((some FieldType.int))) rm_X5_owes (va_Pc [.ref (p 5 0), .int x1] (ag_Pre z n p s)) (ag_Xi z n p out) (ag_XX z n p out) 1 6 (ag_A z) := by
  refine vx_ofW (cc := cX5_owes) (maxL := 2) (ret := (some FieldType.int)) (by decide) rfl ?_
  intro p0 e st m args below meth c s9 B hml hout hv
  obtain ⟨ha, h0, hG, hW⟩ := hv
  have hx := B.exec
  have hb := B.bytes
  have hr := B.returns
  have hts := atoms_spec (ws := ag_ws yX5_owes cX5_owes 2 ((some FieldType.int))) B.pre
  have hT : ∀ w ∈ ag_tbl, w.before args st = true := fun w h => hts w (List.mem_cons_of_mem _ h)
  have hown : st.vm.findClass RX5 = some m.cls := findClass_of_methodNamed B.named
  have hlocks := B.notSynchronized
  have hS : va_S (ag_A z) st.heap st.heap [] := va_S.rf
  obtain ⟨ls, hls, hl⟩ : ∃ ls, entryFrame m args 2 = F0 m 0 ls [] ∧ lv_has ls 2 [(0, .ref (p 5 0)), (1, .int x1)] := by rw [ha]; exact ag_entry m [.ref (p 5 0), .int x1] (Nat.le_of_ble_eq_true rfl)
  rw [hls]
  unfold f_X5_owes at hf
  refine lv_aload_n hx hb dX5_owes_0 rfl (lv_at hl 0 rfl) ?_
  refine lv_iload_n hx hb dX5_owes_1 rfl (lv_at hl 1 rfl) ?_
  obtain ⟨r2, hg2, hf⟩ := ag_xs hf
  refine ag_xVr (C1 := 1) (S1 := 6) hx hb hml hT hown hG h0 hS hW (c_X5_receiverAt hq9 t5 hg2) ⟨rfl, rfl⟩ q577 q579 qs18 q1 q580 dd_yX5_receiverAt ⟨Nat.le_of_ble_eq_true rfl, Nat.le_of_ble_eq_true rfl⟩ t5 rfl rfl hl.1 rfl (Nat.le_of_ble_eq_true rfl) ⟨Nat.le_of_ble_eq_true rfl, Nat.le_of_ble_eq_true rfl⟩ dX5_owes_2 (fun E ce q9 H locs hE hW hS g1 g2 g3 => ag_propO hf hout hlocks (Nat.le_of_ble_eq_true rfl) (Nat.le_of_ble_eq_true rfl) hE hW hS g1 g2 g3) (Nat.le_of_ble_eq_true rfl) (Nat.le_of_ble_eq_true rfl) (fun w2 H locs hr2 v2 hW hS => ?_)
  have hf := ag_inl hf hr2
  obtain ⟨s, es2⟩ : ∃ s9, s9 = r2.2 := ⟨_, rfl⟩
  rw [← es2] at hW hf
  refine g1_1 hx hb hT hown hG hW v2 q145 dX5_owes_5 ?_
  exact ag_xiret hx hb hr rfl hlocks hS hf hW dX5_owes_8
def f_X5_reserve (fu : Nat) (s : ag_S) : Option Int32 := some (s 5 5 0)
abbrev rm_X5_reserve : Room := { frames := 0, cells := 0, slots := 0, locals := 0 }
theorem dd_yX5_reserve : yX5_reserve.cls = RX5 ∧ yX5_reserve.cls ≠ "java/lang/invoke/MethodHandle" ∧ yX5_reserve.cls ≠ "java/lang/invoke/VarHandle" ∧ (parseMethodDescriptor yX5_reserve.desc).map (fun d => d.parameters.length) = some 0 := by decide +kernel
set_option maxHeartbeats 4000000 in
set_option maxRecDepth 100000 in
theorem c_X5_reserve {z : ag_Z} {l : Launch} {n : ag_N} {p : ag_P} {s : ag_S} {fu : Nat} {out : Int32} (t5 : vp_in 0 (n 5)) (hf : f_X5_reserve fu  s = some out) : Met l yX5_reserve (ag_ws yX5_reserve cX5_reserve 1 ((some FieldType.int))) rm_X5_reserve (va_Pc [.ref (p 5 0)] (ag_Pre z n p s)) (ag_Ri z n p out s) 0 0 (ag_A z) := by
  refine Met.ofW (cc := cX5_reserve) (maxL := 1) (ret := (some FieldType.int)) (by decide) rfl ?_
  intro p0 e st m args below meth c s9 B hml hv
  obtain ⟨ha, h0, hG, hW⟩ := hv
  have hx := B.exec
  have hb := B.bytes
  have hr := B.returns
  have hts := atoms_spec (ws := ag_ws yX5_reserve cX5_reserve 1 ((some FieldType.int))) B.pre
  have hT : ∀ w ∈ ag_tbl, w.before args st = true := fun w h => hts w (List.mem_cons_of_mem _ h)
  have hown : st.vm.findClass RX5 = some m.cls := findClass_of_methodNamed B.named
  have hlocks := B.notSynchronized
  have hS : va_S (ag_A z) st.heap st.heap [] := va_S.rf
  obtain ⟨ls, hls, hl⟩ : ∃ ls, entryFrame m args 1 = F0 m 0 ls [] ∧ lv_has ls 1 [(0, .ref (p 5 0))] := by rw [ha]; exact ag_entry m [.ref (p 5 0)] (Nat.le_of_ble_eq_true rfl)
  rw [hls]
  unfold f_X5_reserve at hf
  refine lv_aload_n hx hb dX5_reserve_0 rfl (lv_at hl 0 rfl) ?_
  refine g5_5 hx hb hT hown hG hW t5 q156 dX5_reserve_1 ?_
  exact ag_iret hx hb hr rfl hlocks hS (Option.some.inj hf) hW dX5_reserve_4
def f_X5_ofSource (fu : Nat) (x1 : Int32) (x2 : Int32) (s : ag_S) : Option ((Int32 ⊕ Int32) × ag_S) := ag_bt (f_X5_sourceAt fu x1 s) (fun w2 s => if x2 = 0 then (some (.inl (s 0 1 w2), s)) else (if x2 = 1 then (some (.inl (s 0 2 w2), s)) else (if x2 = 2 then (ag_bd (f_X5_standsOfLinesFrom fu w2 s) fun r44 => some (.inl r44, s)) else (some (.inr 2, s))))) id
abbrev rm_X5_ofSource : Room := { frames := 7, cells := 2, slots := 12, locals := 104 }
theorem dd_yX5_ofSource : yX5_ofSource.cls = RX5 ∧ yX5_ofSource.cls ≠ "java/lang/invoke/MethodHandle" ∧ yX5_ofSource.cls ≠ "java/lang/invoke/VarHandle" ∧ (parseMethodDescriptor yX5_ofSource.desc).map (fun d => d.parameters.length) = some 2 := by decide +kernel
set_option maxHeartbeats 4000000 in
set_option maxRecDepth 100000 in
theorem c_X5_ofSource {z : ag_Z} {l : Launch} {n : ag_N} {p : ag_P} {s : ag_S} {fu : Nat} {x1 : Int32} {x2 : Int32} {out : (Int32 ⊕ Int32) × ag_S} (hq9 : l.stackTraces = false) (t5 : vp_in 0 (n 5)) (hf : f_X5_ofSource fu x1 x2 s = some out) : vx_Met l yX5_ofSource (ag_ws yX5_ofSource cX5_ofSource 4 ((some FieldType.int))) rm_X5_ofSource (va_Pc [.ref (p 5 0), .int x1, .int x2] (ag_Pre z n p s)) (ag_Xi z n p out) (ag_XX z n p out) 2 12 (ag_A z) := by
  refine vx_ofW (cc := cX5_ofSource) (maxL := 4) (ret := (some FieldType.int)) (by decide) rfl ?_
  intro p0 e st m args below meth c s9 B hml hout hv
  obtain ⟨ha, h0, hG, hW⟩ := hv
  have hx := B.exec
  have hb := B.bytes
  have hr := B.returns
  have hts := atoms_spec (ws := ag_ws yX5_ofSource cX5_ofSource 4 ((some FieldType.int))) B.pre
  have hT : ∀ w ∈ ag_tbl, w.before args st = true := fun w h => hts w (List.mem_cons_of_mem _ h)
  have hown : st.vm.findClass RX5 = some m.cls := findClass_of_methodNamed B.named
  have hlocks := B.notSynchronized
  have hS : va_S (ag_A z) st.heap st.heap [] := va_S.rf
  obtain ⟨ls, hls, hl⟩ : ∃ ls, entryFrame m args 4 = F0 m 0 ls [] ∧ lv_has ls 4 [(0, .ref (p 5 0)), (1, .int x1), (2, .int x2)] := by rw [ha]; exact ag_entry m [.ref (p 5 0), .int x1, .int x2] (Nat.le_of_ble_eq_true rfl)
  rw [hls]
  unfold f_X5_ofSource at hf
  refine lv_aload_n hx hb dX5_ofSource_0 rfl (lv_at hl 0 rfl) ?_
  refine lv_iload_n hx hb dX5_ofSource_1 rfl (lv_at hl 1 rfl) ?_
  obtain ⟨r2, hg2, hf⟩ := ag_xs hf
  refine ag_xVr (C1 := 1) (S1 := 6) hx hb hml hT hown hG h0 hS hW (c_X5_sourceAt hq9 t5 hg2) ⟨rfl, rfl⟩ q189 q191 qs3 q1 q192 dd_yX5_sourceAt ⟨Nat.le_of_ble_eq_true rfl, Nat.le_of_ble_eq_true rfl⟩ t5 rfl rfl hl.1 rfl (Nat.le_of_ble_eq_true rfl) ⟨Nat.le_of_ble_eq_true rfl, Nat.le_of_ble_eq_true rfl⟩ dX5_ofSource_2 (fun E ce q9 H locs hE hW hS g1 g2 g3 => ag_propO hf hout hlocks (Nat.le_of_ble_eq_true rfl) (Nat.le_of_ble_eq_true rfl) hE hW hS g1 g2 g3) (Nat.le_of_ble_eq_true rfl) (Nat.le_of_ble_eq_true rfl) (fun w2 H locs hr2 v2 hW hS => ?_)
  have hf := ag_inl hf hr2
  obtain ⟨s, es2⟩ : ∃ s9, s9 = r2.2 := ⟨_, rfl⟩
  rw [← es2] at hW hf
  refine lv_astore_n (lv' := [(3, .ref (p 0 w2)), (0, .ref (p 5 0)), (1, .int x1), (2, .int x2)]) hx hb dX5_ofSource_5 rfl hl (by decide) rfl (fun ls hl => ?_)
  refine lv_iload_n hx hb dX5_ofSource_6 rfl (lv_at hl 3 rfl) ?_
  by_cases c7_0 : x2 = 0
  · have hf := ag_t c7_0 hf
    refine lv_tableIn (off := 25) (tgt := 32) hx hb dX5_ofSource_7 (by rw [c7_0]; decide) (by rw [c7_0]; decide) (by rw [c7_0]; rfl) (by decide) ?_
    refine lv_aload_n hx hb dX5_ofSource_32 rfl (lv_at hl 0 rfl) ?_
    refine g0_1 hx hb hT hown hG hW v2 q67 dX5_ofSource_33 ?_
    refine W.widen (k := 2) (n := 12) (Nat.le_of_ble_eq_true rfl) (Nat.le_of_ble_eq_true rfl) ?_
    exact ag_xiret hx hb hr rfl hlocks hS hf hW dX5_ofSource_36
  have hf := ag_f c7_0 hf
  by_cases c7_1 : x2 = 1
  · have hf := ag_t c7_1 hf
    refine lv_tableIn (off := 30) (tgt := 37) hx hb dX5_ofSource_7 (by rw [c7_1]; decide) (by rw [c7_1]; decide) (by rw [c7_1]; rfl) (by decide) ?_
    refine lv_aload_n hx hb dX5_ofSource_37 rfl (lv_at hl 0 rfl) ?_
    refine g0_2 hx hb hT hown hG hW v2 q69 dX5_ofSource_38 ?_
    refine W.widen (k := 2) (n := 12) (Nat.le_of_ble_eq_true rfl) (Nat.le_of_ble_eq_true rfl) ?_
    exact ag_xiret hx hb hr rfl hlocks hS hf hW dX5_ofSource_41
  have hf := ag_f c7_1 hf
  by_cases c7_2 : x2 = 2
  · have hf := ag_t c7_2 hf
    refine lv_tableIn (off := 35) (tgt := 42) hx hb dX5_ofSource_7 (by rw [c7_2]; decide) (by rw [c7_2]; decide) (by rw [c7_2]; rfl) (by decide) ?_
    refine lv_aload_n hx hb dX5_ofSource_42 rfl (lv_at hl 1 rfl) ?_
    refine lv_aload_n hx hb dX5_ofSource_43 rfl (lv_at hl 0 rfl) ?_
    obtain ⟨r44, hg44, hf⟩ := ag_bs hf
    refine ag_cVi hx hb hml hT hown hG h0 hS hW (c_X5_standsOfLinesFrom t5 v2 hg44) ⟨rfl, rfl⟩ q778 q780 qs26 q1 q781 dd_yX5_standsOfLinesFrom ⟨Nat.le_of_ble_eq_true rfl, Nat.le_of_ble_eq_true rfl⟩ t5 rfl rfl hl.1 rfl (Nat.le_of_ble_eq_true rfl) ⟨Nat.le_of_ble_eq_true rfl, Nat.le_of_ble_eq_true rfl⟩ dX5_ofSource_44 (fun H locs hW hS => ?_)
    refine W.widen (k := 2) (n := 12) (Nat.le_of_ble_eq_true rfl) (Nat.le_of_ble_eq_true rfl) ?_
    exact ag_xiret hx hb hr rfl hlocks hS hf hW dX5_ofSource_47
  have hf := ag_f c7_2 hf
  refine lv_tableOut (tgt := 48) hx hb dX5_ofSource_7 (ag_tab 2 (fun j hj => by rcases (show j = 0 ∨ j = 1 ∨ j = 2 by omega) with rfl | rfl | rfl <;> assumption)) (by decide) ?_
  exact ag_thr2 hx hb hq9 (hml.trans hl.1.symm) hT hown hG hS hW hout hlocks hf (w730) dX5_ofSource_48 dX5_ofSource_51 dX5_ofSource_52 dX5_ofSource_54 dX5_ofSource_57 (Nat.le_of_ble_eq_true rfl) (Nat.le_of_ble_eq_true rfl) (Nat.le_of_ble_eq_true rfl) (Nat.le_of_ble_eq_true rfl) (Nat.le_of_ble_eq_true rfl) (Nat.le_of_ble_eq_true rfl)
