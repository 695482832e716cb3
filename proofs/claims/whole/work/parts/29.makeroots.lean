def f_X5_init (fu : Nat) (n : ag_N) (s : ag_S) : Option (ag_N × ag_S) := if ¬ n 10 = 0 then none else ag_bd (f_Jx4a65c_init_da8c8_0 fu (ag_s0 s 10 0)) fun r9 => if ¬ (ag_nn n 10) 11 = 0 then none else ag_bd (f_Jx4a65c_init_da8c8_1 fu (ag_s0 (ag_up r9 15 0 0 0) 11 0)) fun r20 => if ¬ (ag_nn (ag_nn n 10) 11) 12 = 0 then none else ag_bd (f_Jx4a65c_init_da8c8_2 fu (ag_s0 (ag_up r20 15 1 0 0) 12 0)) fun r31 => if ¬ (ag_nn (ag_nn (ag_nn n 10) 11) 12) 13 = 0 then none else ag_bd (f_Jx4a65c_init_da8c8_3 fu (ag_s0 (ag_up r31 15 2 0 0) 13 0)) fun r42 => if ¬ (ag_nn (ag_nn (ag_nn (ag_nn n 10) 11) 12) 13) 14 = 0 then none else ag_bd (f_Jx4a65c_init_da8c8_4 fu (ag_s0 (ag_up r42 15 3 0 0) 14 0)) fun r53 => if ¬ (ag_up (ag_up (ag_up (ag_up r53 15 4 0 0) 15 5 0 0) 15 6 0 5) 15 7 0 0) 15 0 0 = 0 then none else if 1000 ≤ (ag_nn (ag_nn (ag_nn (ag_nn (ag_nn n 10) 11) 12) 13) 14) 0 then none else ag_bd (f_X4_init fu (nI ((ag_nn (ag_nn (ag_nn (ag_nn (ag_nn n 10) 11) 12) 13) 14) 0)) 0 (ag_s0 (ag_up (ag_up (ag_up (ag_up r53 15 4 0 0) 15 5 0 0) 15 6 0 5) 15 7 0 0) 0 (nI ((ag_nn (ag_nn (ag_nn (ag_nn (ag_nn n 10) 11) 12) 13) 14) 0)))) fun r90 => ag_bd (f_Jx4a65c_add_9ea2d_0 fu (nI ((ag_nn (ag_nn (ag_nn (ag_nn (ag_nn n 10) 11) 12) 13) 14) 0)) ((ag_nn (ag_nn (ag_nn (ag_nn (ag_nn (ag_nn n 10) 11) 12) 13) 14) 0)) r90) fun r93 => if ¬ r93.2.2 15 0 0 = 0 then none else if 1000 ≤ r93.2.1 0 then none else ag_bd (f_X4_init fu (nI (r93.2.1 0)) 1 (ag_s0 r93.2.2 0 (nI (r93.2.1 0)))) fun r90 => ag_bd (f_Jx4a65c_add_9ea2d_0 fu (nI (r93.2.1 0)) ((ag_nn r93.2.1 0)) r90) fun r93 => if ¬ r93.2.2 15 0 0 = 0 then none else if 1000 ≤ r93.2.1 0 then none else ag_bd (f_X4_init fu (nI (r93.2.1 0)) 2 (ag_s0 r93.2.2 0 (nI (r93.2.1 0)))) fun r90 => ag_bd (f_Jx4a65c_add_9ea2d_0 fu (nI (r93.2.1 0)) ((ag_nn r93.2.1 0)) r90) fun r93 => if ¬ r93.2.2 15 0 0 = 0 then none else if 1000 ≤ r93.2.1 0 then none else ag_bd (f_X4_init fu (nI (r93.2.1 0)) 3 (ag_s0 r93.2.2 0 (nI (r93.2.1 0)))) fun r90 => ag_bd (f_Jx4a65c_add_9ea2d_0 fu (nI (r93.2.1 0)) ((ag_nn r93.2.1 0)) r90) fun r93 => if ¬ r93.2.2 15 1 0 = 0 then none else if 1000 ≤ r93.2.1 1 then none else ag_bd (f_X3_init fu (nI (r93.2.1 1)) 0 (ag_s0 r93.2.2 1 (nI (r93.2.1 1)))) fun r120 => ag_bd (f_Jx4a65c_add_9ea2d_1 fu (nI (r93.2.1 1)) ((ag_nn r93.2.1 1)) r120) fun r123 => if ¬ r123.2.2 15 1 0 = 0 then none else if 1000 ≤ r123.2.1 1 then none else ag_bd (f_X3_init fu (nI (r123.2.1 1)) 1 (ag_s0 r123.2.2 1 (nI (r123.2.1 1)))) fun r120 => ag_bd (f_Jx4a65c_add_9ea2d_1 fu (nI (r123.2.1 1)) ((ag_nn r123.2.1 1)) r120) fun r123 => if ¬ r123.2.2 15 1 0 = 0 then none else if 1000 ≤ r123.2.1 1 then none else ag_bd (f_X3_init fu (nI (r123.2.1 1)) 2 (ag_s0 r123.2.2 1 (nI (r123.2.1 1)))) fun r120 => ag_bd (f_Jx4a65c_add_9ea2d_1 fu (nI (r123.2.1 1)) ((ag_nn r123.2.1 1)) r120) fun r123 => if ¬ r123.2.2 15 1 0 = 0 then none else if 1000 ≤ r123.2.1 1 then none else ag_bd (f_X3_init fu (nI (r123.2.1 1)) 3 (ag_s0 r123.2.2 1 (nI (r123.2.1 1)))) fun r120 => ag_bd (f_Jx4a65c_add_9ea2d_1 fu (nI (r123.2.1 1)) ((ag_nn r123.2.1 1)) r120) fun r123 => if ¬ r123.2.2 15 1 0 = 0 then none else if 1000 ≤ r123.2.1 1 then none else ag_bd (f_X3_init fu (nI (r123.2.1 1)) 4 (ag_s0 r123.2.2 1 (nI (r123.2.1 1)))) fun r120 => ag_bd (f_Jx4a65c_add_9ea2d_1 fu (nI (r123.2.1 1)) ((ag_nn r123.2.1 1)) r120) fun r123 => if ¬ r123.2.2 15 1 0 = 0 then none else if 1000 ≤ r123.2.1 1 then none else ag_bd (f_X3_init fu (nI (r123.2.1 1)) 5 (ag_s0 r123.2.2 1 (nI (r123.2.1 1)))) fun r120 => ag_bd (f_Jx4a65c_add_9ea2d_1 fu (nI (r123.2.1 1)) ((ag_nn r123.2.1 1)) r120) fun r123 => if ¬ r123.2.2 15 1 0 = 0 then none else if 1000 ≤ r123.2.1 1 then none else ag_bd (f_X3_init fu (nI (r123.2.1 1)) 6 (ag_s0 r123.2.2 1 (nI (r123.2.1 1)))) fun r120 => ag_bd (f_Jx4a65c_add_9ea2d_1 fu (nI (r123.2.1 1)) ((ag_nn r123.2.1 1)) r120) fun r123 => if ¬ r123.2.2 15 1 0 = 0 then none else if 1000 ≤ r123.2.1 1 then none else ag_bd (f_X3_init fu (nI (r123.2.1 1)) 7 (ag_s0 r123.2.2 1 (nI (r123.2.1 1)))) fun r120 => ag_bd (f_Jx4a65c_add_9ea2d_1 fu (nI (r123.2.1 1)) ((ag_nn r123.2.1 1)) r120) fun r123 => some (r123.2.1, r123.2.2)
abbrev rm_X5_init : Room := { frames := 7, cells := 40, slots := 1500, locals := 171 }
theorem dd_yX5_init : yX5_init.cls ≠ "java/lang/invoke/MethodHandle" ∧ yX5_init.cls ≠ "java/lang/invoke/VarHandle" ∧ (parseMethodDescriptor yX5_init.desc).map (fun d => d.parameters.length) = some 0 := by decide +kernel
set_option maxHeartbeats 4000000 in
set_option maxRecDepth 100000 in
theorem c_X5_init {z : ag_Z} {l : Launch} {n : ag_N} {p : ag_P} {s : ag_S} {fu : Nat} {out : ag_N × ag_S} (t15 : vp_in 0 (n 15)) (hf : f_X5_init fu  n s = some out) : Met l yX5_init (ag_ws yX5_init cX5_init 2 ((none))) rm_X5_init (va_Pc [.ref (p 15 0)] (ag_Pre z n p s)) (ag_Pv z n p out.1 out.2) 40 1500 (ag_A z) := by
  refine Met.ofW (cc := cX5_init) (maxL := 2) (ret := (none)) (by decide) rfl ?_
  intro p0 e st m args below meth c s9 B hml hv
  obtain ⟨ha, h0, hG, hW⟩ := hv
  have hin : meth.name = "<init>" := (name_of_methodNamed B.named B.method).1
  have hx := B.exec
  have hb := B.bytes
  have hr := B.returns
  have hts := atoms_spec (ws := ag_ws yX5_init cX5_init 2 ((none))) B.pre
  have hT : ∀ w ∈ ag_tbl, w.before args st = true := fun w h => hts w (List.mem_cons_of_mem _ h)
  have hown : st.vm.findClass RX5 = some m.cls := findClass_of_methodNamed B.named
  have hlocks := B.notSynchronized
  have hS : va_S (ag_A z) st.heap st.heap [] := va_S.rf
  obtain ⟨ls, hls, hl⟩ : ∃ ls, entryFrame m args 2 = F0 m 0 ls [] ∧ lv_has ls 2 [(0, .ref (p 15 0))] := by rw [ha]; exact ag_entry m [.ref (p 15 0)] (Nat.le_of_ble_eq_true rfl)
  rw [hls]
  unfold f_X5_init at hf
  refine lv_aload_n hx hb dX5_init_0 rfl (lv_at hl 0 rfl) ?_
  refine ag_obj hx hb hml hl.1 hT hown q29 q30 q31 (Nat.le_of_ble_eq_true rfl) (Nat.le_of_ble_eq_true rfl) dX5_init_1 ?_
  refine lv_aload_n hx hb dX5_init_4 rfl (lv_at hl 0 rfl) ?_
  obtain ⟨m5, hf⟩ := ag_n hf
  have j5 := Decidable.not_not.mp m5
  have z5 : nI (n 10) = 0 := by rw [j5]; rfl
  refine n10 hx hb hT hown hG h0 hS hW (by rw [j5]; exact Nat.le_of_ble_eq_true rfl) q32 q33 q4 (Nat.le_of_ble_eq_true rfl) (Nat.le_of_ble_eq_true rfl) dX5_init_5 (fun p H hp5 hW hS => ?_)
  rw [z5] at hW ⊢
  have sl5 := (ag_le_nn n 10)
  have he5 := ag_ext_tr (ag_le_rf _) (ag_ext_rf _ _) hp5
  have hl5 := ag_le_tr (ag_le_rf _) sl5
  rw [← hp5 15 0 t15] at hl
  rw [← hp5 15 0 t15]
  have u1 := ag_in_le t15 (sl5 15)
  refine lv_dup hx hb dX5_init_8 rfl ?_
  obtain ⟨r9, hg9, hf⟩ := ag_bs hf
  refine ag_cIv hx hb hml hT hown hG h0 hS hW (c_Jx4a65c_init_da8c8_0 (ag_new_0 j5) hg9) ⟨rfl, rfl⟩ q34 q35 q4 q36 rfl dd_yJx4a65c_init_da8c8 ⟨Nat.le_of_ble_eq_true rfl, Nat.le_of_ble_eq_true rfl⟩ hl.1 rfl (Nat.le_of_ble_eq_true rfl) ⟨Nat.le_of_ble_eq_true rfl, Nat.le_of_ble_eq_true rfl⟩ dX5_init_9 (fun H locs hW hS => ?_)
  refine u15_0 hx hb hT hown hG hW hS u1 (ag_refv (z := z) (p := p) (ag_new_0 j5) hW).symm (Or.inr (ag_new_0 j5)) hin rfl q151 dX5_init_12 (fun H locs hW hS => ?_)
  refine lv_aload_n hx hb dX5_init_15 rfl (lv_at hl 0 rfl) ?_
  obtain ⟨m16, hf⟩ := ag_n hf
  have j16 := Decidable.not_not.mp m16
  have z16 : nI ((ag_nn n 10) 11) = 0 := by rw [j16]; rfl
  refine n11 hx hb hT hown hG h0 hS hW (by rw [j16]; exact Nat.le_of_ble_eq_true rfl) q32 q33 q4 (Nat.le_of_ble_eq_true rfl) (Nat.le_of_ble_eq_true rfl) dX5_init_16 (fun p H hp16 hW hS => ?_)
  rw [z16] at hW ⊢
  have sl16 := (ag_le_nn ((ag_nn n 10)) 11)
  have he16 := ag_ext_tr hl5 he5 hp16
  have hl16 := ag_le_tr hl5 sl16
  rw [← hp16 15 0 u1] at hl
  rw [← hp16 15 0 u1]
  have u2 := ag_in_le u1 (sl16 15)
  refine lv_dup hx hb dX5_init_19 rfl ?_
  obtain ⟨r20, hg20, hf⟩ := ag_bs hf
  refine ag_cIv hx hb hml hT hown hG h0 hS hW (c_Jx4a65c_init_da8c8_1 (ag_new_0 j16) hg20) ⟨rfl, rfl⟩ q34 q35 q4 q36 rfl dd_yJx4a65c_init_da8c8 ⟨Nat.le_of_ble_eq_true rfl, Nat.le_of_ble_eq_true rfl⟩ hl.1 rfl (Nat.le_of_ble_eq_true rfl) ⟨Nat.le_of_ble_eq_true rfl, Nat.le_of_ble_eq_true rfl⟩ dX5_init_20 (fun H locs hW hS => ?_)
  refine u15_1 hx hb hT hown hG hW hS u2 (ag_refv (z := z) (p := p) (ag_new_0 j16) hW).symm (Or.inr (ag_new_0 j16)) hin rfl q152 dX5_init_23 (fun H locs hW hS => ?_)
  refine lv_aload_n hx hb dX5_init_26 rfl (lv_at hl 0 rfl) ?_
  obtain ⟨m27, hf⟩ := ag_n hf
  have j27 := Decidable.not_not.mp m27
  have z27 : nI ((ag_nn (ag_nn n 10) 11) 12) = 0 := by rw [j27]; rfl
  refine n12 hx hb hT hown hG h0 hS hW (by rw [j27]; exact Nat.le_of_ble_eq_true rfl) q32 q33 q4 (Nat.le_of_ble_eq_true rfl) (Nat.le_of_ble_eq_true rfl) dX5_init_27 (fun p H hp27 hW hS => ?_)
  rw [z27] at hW ⊢
  have sl27 := (ag_le_nn ((ag_nn (ag_nn n 10) 11)) 12)
  have he27 := ag_ext_tr hl16 he16 hp27
  have hl27 := ag_le_tr hl16 sl27
  rw [← hp27 15 0 u2] at hl
  rw [← hp27 15 0 u2]
  have u3 := ag_in_le u2 (sl27 15)
  refine lv_dup hx hb dX5_init_30 rfl ?_
  obtain ⟨r31, hg31, hf⟩ := ag_bs hf
  refine ag_cIv hx hb hml hT hown hG h0 hS hW (c_Jx4a65c_init_da8c8_2 (ag_new_0 j27) hg31) ⟨rfl, rfl⟩ q34 q35 q4 q36 rfl dd_yJx4a65c_init_da8c8 ⟨Nat.le_of_ble_eq_true rfl, Nat.le_of_ble_eq_true rfl⟩ hl.1 rfl (Nat.le_of_ble_eq_true rfl) ⟨Nat.le_of_ble_eq_true rfl, Nat.le_of_ble_eq_true rfl⟩ dX5_init_31 (fun H locs hW hS => ?_)
  refine u15_2 hx hb hT hown hG hW hS u3 (ag_refv (z := z) (p := p) (ag_new_0 j27) hW).symm (Or.inr (ag_new_0 j27)) hin rfl q153 dX5_init_34 (fun H locs hW hS => ?_)
  refine lv_aload_n hx hb dX5_init_37 rfl (lv_at hl 0 rfl) ?_
  obtain ⟨m38, hf⟩ := ag_n hf
  have j38 := Decidable.not_not.mp m38
  have z38 : nI ((ag_nn (ag_nn (ag_nn n 10) 11) 12) 13) = 0 := by rw [j38]; rfl
  refine n13 hx hb hT hown hG h0 hS hW (by rw [j38]; exact Nat.le_of_ble_eq_true rfl) q32 q33 q4 (Nat.le_of_ble_eq_true rfl) (Nat.le_of_ble_eq_true rfl) dX5_init_38 (fun p H hp38 hW hS => ?_)
  rw [z38] at hW ⊢
  have sl38 := (ag_le_nn ((ag_nn (ag_nn (ag_nn n 10) 11) 12)) 13)
  have he38 := ag_ext_tr hl27 he27 hp38
  have hl38 := ag_le_tr hl27 sl38
  rw [← hp38 15 0 u3] at hl
  rw [← hp38 15 0 u3]
  have u4 := ag_in_le u3 (sl38 15)
  refine lv_dup hx hb dX5_init_41 rfl ?_
  obtain ⟨r42, hg42, hf⟩ := ag_bs hf
  refine ag_cIv hx hb hml hT hown hG h0 hS hW (c_Jx4a65c_init_da8c8_3 (ag_new_0 j38) hg42) ⟨rfl, rfl⟩ q34 q35 q4 q36 rfl dd_yJx4a65c_init_da8c8 ⟨Nat.le_of_ble_eq_true rfl, Nat.le_of_ble_eq_true rfl⟩ hl.1 rfl (Nat.le_of_ble_eq_true rfl) ⟨Nat.le_of_ble_eq_true rfl, Nat.le_of_ble_eq_true rfl⟩ dX5_init_42 (fun H locs hW hS => ?_)
  refine u15_3 hx hb hT hown hG hW hS u4 (ag_refv (z := z) (p := p) (ag_new_0 j38) hW).symm (Or.inr (ag_new_0 j38)) hin rfl q154 dX5_init_45 (fun H locs hW hS => ?_)
  refine lv_aload_n hx hb dX5_init_48 rfl (lv_at hl 0 rfl) ?_
  obtain ⟨m49, hf⟩ := ag_n hf
  have j49 := Decidable.not_not.mp m49
  have z49 : nI ((ag_nn (ag_nn (ag_nn (ag_nn n 10) 11) 12) 13) 14) = 0 := by rw [j49]; rfl
  refine n14 hx hb hT hown hG h0 hS hW (by rw [j49]; exact Nat.le_of_ble_eq_true rfl) q32 q33 q4 (Nat.le_of_ble_eq_true rfl) (Nat.le_of_ble_eq_true rfl) dX5_init_49 (fun p H hp49 hW hS => ?_)
  rw [z49] at hW ⊢
  have sl49 := (ag_le_nn ((ag_nn (ag_nn (ag_nn (ag_nn n 10) 11) 12) 13)) 14)
  have he49 := ag_ext_tr hl38 he38 hp49
  have hl49 := ag_le_tr hl38 sl49
  rw [← hp49 15 0 u4] at hl
  rw [← hp49 15 0 u4]
  have u5 := ag_in_le u4 (sl49 15)
  refine lv_dup hx hb dX5_init_52 rfl ?_
  obtain ⟨r53, hg53, hf⟩ := ag_bs hf
  refine ag_cIv hx hb hml hT hown hG h0 hS hW (c_Jx4a65c_init_da8c8_4 (ag_new_0 j49) hg53) ⟨rfl, rfl⟩ q34 q35 q4 q36 rfl dd_yJx4a65c_init_da8c8 ⟨Nat.le_of_ble_eq_true rfl, Nat.le_of_ble_eq_true rfl⟩ hl.1 rfl (Nat.le_of_ble_eq_true rfl) ⟨Nat.le_of_ble_eq_true rfl, Nat.le_of_ble_eq_true rfl⟩ dX5_init_53 (fun H locs hW hS => ?_)
  refine u15_4 hx hb hT hown hG hW hS u5 (ag_refv (z := z) (p := p) (ag_new_0 j49) hW).symm (Or.inr (ag_new_0 j49)) hin rfl q155 dX5_init_56 (fun H locs hW hS => ?_)
  refine lv_aload_n hx hb dX5_init_59 rfl (lv_at hl 0 rfl) ?_
  refine lv_iconst (v := 0) hx hb dX5_init_60 (by decide) ?_
  refine u15_5 hx hb hT hown hG hW hS u5 q156 dX5_init_61 (fun H locs hW hS => ?_)
  refine lv_aload_n hx hb dX5_init_64 rfl (lv_at hl 0 rfl) ?_
  refine lv_iconst (v := 5) hx hb dX5_init_65 (by decide) ?_
  refine u15_6 hx hb hT hown hG hW hS u5 q157 dX5_init_66 (fun H locs hW hS => ?_)
  refine lv_aload_n hx hb dX5_init_69 rfl (lv_at hl 0 rfl) ?_
  refine lv_iconst (v := 0) hx hb dX5_init_70 (by decide) ?_
  refine u15_7 hx hb hT hown hG hW hS u5 q158 dX5_init_71 (fun H locs hW hS => ?_)
  refine lv_iconst (v := 0) hx hb dX5_init_74 (by decide) ?_
  refine lv_istore_n (lv' := [(1, .int 0), (0, .ref (p 15 0))]) hx hb dX5_init_75 rfl hl (by decide) rfl (fun ls hl => ?_)
  refine lv_iload_n hx hb dX5_init_76 rfl (lv_at hl 0 rfl) ?_
  refine lv_iconst (v := 4) hx hb dX5_init_77 (by decide) ?_
  refine lv_icmp_ge (tgt := 103) hx hb dX5_init_78 (by decide) (fun h => absurd h (by decide)) (fun _ => ?_)
  refine lv_aload_n hx hb dX5_init_81 rfl (lv_at hl 1 rfl) ?_
  refine g15_0 hx hb hT hown hG hW u5 q151 dX5_init_82 ?_
  have o82 := ag_W.okf hW (k := 15) (f := 0) (t := 10) rfl rfl (by decide) 0
  obtain ⟨m82, hf⟩ := ag_n hf
  have j82 := Decidable.not_not.mp m82
  rw [j82] at o82 ⊢
  have u6 := Or.resolve_left o82 (by decide)
  rw [ag_refv (z := z) (p := p) u6 hW]
  obtain ⟨m85, hf⟩ := ag_n hf
  refine n0 hx hb hT hown hG h0 hS hW (Nat.lt_of_not_le m85) q58 q59 q5 (Nat.le_of_ble_eq_true rfl) (Nat.le_of_ble_eq_true rfl) dX5_init_85 (fun p H hp85 hW hS => ?_)
  have sl85 := (ag_le_nn ((ag_nn (ag_nn (ag_nn (ag_nn (ag_nn n 10) 11) 12) 13) 14)) 0)
  have he85 := ag_ext_tr hl49 he49 hp85
  have hl85 := ag_le_tr hl49 sl85
  rw [← hp85 15 0 u5] at hl
  rw [← hp85 10 0 u6]
  have u7 := ag_in_le u5 (sl85 15)
  have u8 := ag_in_le u6 (sl85 10)
  refine lv_dup hx hb dX5_init_88 rfl ?_
  refine lv_iload_n hx hb dX5_init_89 rfl (lv_at hl 0 rfl) ?_
  obtain ⟨r90, hg90, hf⟩ := ag_bs hf
  refine ag_cIv hx hb hml hT hown hG h0 hS hW (c_X4_init (ag_new_v m85) hg90) ⟨rfl, rfl⟩ q60 q61 q5 q62 rfl dd_yX4_init ⟨Nat.le_of_ble_eq_true rfl, Nat.le_of_ble_eq_true rfl⟩ hl.1 rfl (Nat.le_of_ble_eq_true rfl) ⟨Nat.le_of_ble_eq_true rfl, Nat.le_of_ble_eq_true rfl⟩ dX5_init_90 (fun H locs hW hS => ?_)
  obtain ⟨r93, hg93, hf⟩ := ag_bs hf
  refine ag_aVi (C1 := 7) (S1 := 118) hx hb hml hT hown hG h0 hS hW (c_Jx4a65c_add_9ea2d_0 u8 (ag_new_v m85) hg93) ⟨rfl, rfl⟩ q77 q78 q79 q4 q80 dd_yJx4a65c_add_9ea2d ⟨Nat.le_of_ble_eq_true rfl, Nat.le_of_ble_eq_true rfl⟩ u8 rfl rfl hl.1 rfl (Nat.le_of_ble_eq_true rfl) ⟨Nat.le_of_ble_eq_true rfl, Nat.le_of_ble_eq_true rfl⟩ dX5_init_93 (Nat.le_of_ble_eq_true rfl) (Nat.le_of_ble_eq_true rfl) (fun p H locs hp93 hle93 hW hS => ?_)
  have sl93 := hle93
  have he93 := ag_ext_tr hl85 he85 hp93
  have hl93 := ag_le_tr hl85 sl93
  rw [← hp93 15 0 u7] at hl
  have u9 := ag_in_le u7 (sl93 15)
  refine lv_pop hx hb dX5_init_96 rfl ?_
  refine lv_iinc (v := 1) (lv' := [(1, .int 1), (0, .ref (p 15 0))]) hx hb dX5_init_97 hl (k := 0) rfl (by decide) (by decide) rfl (fun ls hl => ?_)
  refine lv_goto (tgt := 76) hx hb dX5_init_100 (by decide) ?_
  refine lv_iload_n hx hb dX5_init_76 rfl (lv_at hl 0 rfl) ?_
  refine lv_iconst (v := 4) hx hb dX5_init_77 (by decide) ?_
  refine lv_icmp_ge (tgt := 103) hx hb dX5_init_78 (by decide) (fun h => absurd h (by decide)) (fun _ => ?_)
  refine lv_aload_n hx hb dX5_init_81 rfl (lv_at hl 1 rfl) ?_
  refine g15_0 hx hb hT hown hG hW u9 q151 dX5_init_82 ?_
  have o82 := ag_W.okf hW (k := 15) (f := 0) (t := 10) rfl rfl (by decide) 0
  obtain ⟨m82, hf⟩ := ag_n hf
  have j82 := Decidable.not_not.mp m82
  rw [j82] at o82 ⊢
  have u10 := Or.resolve_left o82 (by decide)
  rw [ag_refv (z := z) (p := p) u10 hW]
  obtain ⟨m85, hf⟩ := ag_n hf
  refine n0 hx hb hT hown hG h0 hS hW (Nat.lt_of_not_le m85) q58 q59 q5 (Nat.le_of_ble_eq_true rfl) (Nat.le_of_ble_eq_true rfl) dX5_init_85 (fun p H hp85 hW hS => ?_)
  have sl85 := (ag_le_nn r93.2.1 0)
  have he85 := ag_ext_tr hl93 he93 hp85
  have hl85 := ag_le_tr hl93 sl85
  rw [← hp85 15 0 u9] at hl
  rw [← hp85 10 0 u10]
  have u11 := ag_in_le u9 (sl85 15)
  have u12 := ag_in_le u10 (sl85 10)
  refine lv_dup hx hb dX5_init_88 rfl ?_
  refine lv_iload_n hx hb dX5_init_89 rfl (lv_at hl 0 rfl) ?_
  obtain ⟨r90, hg90, hf⟩ := ag_bs hf
  refine ag_cIv hx hb hml hT hown hG h0 hS hW (c_X4_init (ag_new_v m85) hg90) ⟨rfl, rfl⟩ q60 q61 q5 q62 rfl dd_yX4_init ⟨Nat.le_of_ble_eq_true rfl, Nat.le_of_ble_eq_true rfl⟩ hl.1 rfl (Nat.le_of_ble_eq_true rfl) ⟨Nat.le_of_ble_eq_true rfl, Nat.le_of_ble_eq_true rfl⟩ dX5_init_90 (fun H locs hW hS => ?_)
  obtain ⟨r93, hg93, hf⟩ := ag_bs hf
  refine ag_aVi (C1 := 9) (S1 := 221) hx hb hml hT hown hG h0 hS hW (c_Jx4a65c_add_9ea2d_0 u12 (ag_new_v m85) hg93) ⟨rfl, rfl⟩ q77 q78 q79 q4 q80 dd_yJx4a65c_add_9ea2d ⟨Nat.le_of_ble_eq_true rfl, Nat.le_of_ble_eq_true rfl⟩ u12 rfl rfl hl.1 rfl (Nat.le_of_ble_eq_true rfl) ⟨Nat.le_of_ble_eq_true rfl, Nat.le_of_ble_eq_true rfl⟩ dX5_init_93 (Nat.le_of_ble_eq_true rfl) (Nat.le_of_ble_eq_true rfl) (fun p H locs hp93 hle93 hW hS => ?_)
  have sl93 := hle93
  have he93 := ag_ext_tr hl85 he85 hp93
  have hl93 := ag_le_tr hl85 sl93
  rw [← hp93 15 0 u11] at hl
  have u13 := ag_in_le u11 (sl93 15)
  refine lv_pop hx hb dX5_init_96 rfl ?_
  refine lv_iinc (v := 2) (lv' := [(1, .int 2), (0, .ref (p 15 0))]) hx hb dX5_init_97 hl (k := 0) rfl (by decide) (by decide) rfl (fun ls hl => ?_)
  refine lv_goto (tgt := 76) hx hb dX5_init_100 (by decide) ?_
  refine lv_iload_n hx hb dX5_init_76 rfl (lv_at hl 0 rfl) ?_
  refine lv_iconst (v := 4) hx hb dX5_init_77 (by decide) ?_
  refine lv_icmp_ge (tgt := 103) hx hb dX5_init_78 (by decide) (fun h => absurd h (by decide)) (fun _ => ?_)
  refine lv_aload_n hx hb dX5_init_81 rfl (lv_at hl 1 rfl) ?_
  refine g15_0 hx hb hT hown hG hW u13 q151 dX5_init_82 ?_
  have o82 := ag_W.okf hW (k := 15) (f := 0) (t := 10) rfl rfl (by decide) 0
  obtain ⟨m82, hf⟩ := ag_n hf
  have j82 := Decidable.not_not.mp m82
  rw [j82] at o82 ⊢
  have u14 := Or.resolve_left o82 (by decide)
  rw [ag_refv (z := z) (p := p) u14 hW]
  obtain ⟨m85, hf⟩ := ag_n hf
  refine n0 hx hb hT hown hG h0 hS hW (Nat.lt_of_not_le m85) q58 q59 q5 (Nat.le_of_ble_eq_true rfl) (Nat.le_of_ble_eq_true rfl) dX5_init_85 (fun p H hp85 hW hS => ?_)
  have sl85 := (ag_le_nn r93.2.1 0)
  have he85 := ag_ext_tr hl93 he93 hp85
  have hl85 := ag_le_tr hl93 sl85
  rw [← hp85 15 0 u13] at hl
  rw [← hp85 10 0 u14]
  have u15 := ag_in_le u13 (sl85 15)
  have u16 := ag_in_le u14 (sl85 10)
  refine lv_dup hx hb dX5_init_88 rfl ?_
  refine lv_iload_n hx hb dX5_init_89 rfl (lv_at hl 0 rfl) ?_
  obtain ⟨r90, hg90, hf⟩ := ag_bs hf
  refine ag_cIv hx hb hml hT hown hG h0 hS hW (c_X4_init (ag_new_v m85) hg90) ⟨rfl, rfl⟩ q60 q61 q5 q62 rfl dd_yX4_init ⟨Nat.le_of_ble_eq_true rfl, Nat.le_of_ble_eq_true rfl⟩ hl.1 rfl (Nat.le_of_ble_eq_true rfl) ⟨Nat.le_of_ble_eq_true rfl, Nat.le_of_ble_eq_true rfl⟩ dX5_init_90 (fun H locs hW hS => ?_)
  obtain ⟨r93, hg93, hf⟩ := ag_bs hf
  refine ag_aVi (C1 := 11) (S1 := 324) hx hb hml hT hown hG h0 hS hW (c_Jx4a65c_add_9ea2d_0 u16 (ag_new_v m85) hg93) ⟨rfl, rfl⟩ q77 q78 q79 q4 q80 dd_yJx4a65c_add_9ea2d ⟨Nat.le_of_ble_eq_true rfl, Nat.le_of_ble_eq_true rfl⟩ u16 rfl rfl hl.1 rfl (Nat.le_of_ble_eq_true rfl) ⟨Nat.le_of_ble_eq_true rfl, Nat.le_of_ble_eq_true rfl⟩ dX5_init_93 (Nat.le_of_ble_eq_true rfl) (Nat.le_of_ble_eq_true rfl) (fun p H locs hp93 hle93 hW hS => ?_)
  have sl93 := hle93
  have he93 := ag_ext_tr hl85 he85 hp93
  have hl93 := ag_le_tr hl85 sl93
  rw [← hp93 15 0 u15] at hl
  have u17 := ag_in_le u15 (sl93 15)
  refine lv_pop hx hb dX5_init_96 rfl ?_
  refine lv_iinc (v := 3) (lv' := [(1, .int 3), (0, .ref (p 15 0))]) hx hb dX5_init_97 hl (k := 0) rfl (by decide) (by decide) rfl (fun ls hl => ?_)
  refine lv_goto (tgt := 76) hx hb dX5_init_100 (by decide) ?_
  refine lv_iload_n hx hb dX5_init_76 rfl (lv_at hl 0 rfl) ?_
  refine lv_iconst (v := 4) hx hb dX5_init_77 (by decide) ?_
  refine lv_icmp_ge (tgt := 103) hx hb dX5_init_78 (by decide) (fun h => absurd h (by decide)) (fun _ => ?_)
  refine lv_aload_n hx hb dX5_init_81 rfl (lv_at hl 1 rfl) ?_
  refine g15_0 hx hb hT hown hG hW u17 q151 dX5_init_82 ?_
  have o82 := ag_W.okf hW (k := 15) (f := 0) (t := 10) rfl rfl (by decide) 0
  obtain ⟨m82, hf⟩ := ag_n hf
  have j82 := Decidable.not_not.mp m82
  rw [j82] at o82 ⊢
  have u18 := Or.resolve_left o82 (by decide)
  rw [ag_refv (z := z) (p := p) u18 hW]
  obtain ⟨m85, hf⟩ := ag_n hf
  refine n0 hx hb hT hown hG h0 hS hW (Nat.lt_of_not_le m85) q58 q59 q5 (Nat.le_of_ble_eq_true rfl) (Nat.le_of_ble_eq_true rfl) dX5_init_85 (fun p H hp85 hW hS => ?_)
  have sl85 := (ag_le_nn r93.2.1 0)
  have he85 := ag_ext_tr hl93 he93 hp85
  have hl85 := ag_le_tr hl93 sl85
  rw [← hp85 15 0 u17] at hl
  rw [← hp85 10 0 u18]
  have u19 := ag_in_le u17 (sl85 15)
  have u20 := ag_in_le u18 (sl85 10)
  refine lv_dup hx hb dX5_init_88 rfl ?_
  refine lv_iload_n hx hb dX5_init_89 rfl (lv_at hl 0 rfl) ?_
  obtain ⟨r90, hg90, hf⟩ := ag_bs hf
  refine ag_cIv hx hb hml hT hown hG h0 hS hW (c_X4_init (ag_new_v m85) hg90) ⟨rfl, rfl⟩ q60 q61 q5 q62 rfl dd_yX4_init ⟨Nat.le_of_ble_eq_true rfl, Nat.le_of_ble_eq_true rfl⟩ hl.1 rfl (Nat.le_of_ble_eq_true rfl) ⟨Nat.le_of_ble_eq_true rfl, Nat.le_of_ble_eq_true rfl⟩ dX5_init_90 (fun H locs hW hS => ?_)
  obtain ⟨r93, hg93, hf⟩ := ag_bs hf
  refine ag_aVi (C1 := 13) (S1 := 427) hx hb hml hT hown hG h0 hS hW (c_Jx4a65c_add_9ea2d_0 u20 (ag_new_v m85) hg93) ⟨rfl, rfl⟩ q77 q78 q79 q4 q80 dd_yJx4a65c_add_9ea2d ⟨Nat.le_of_ble_eq_true rfl, Nat.le_of_ble_eq_true rfl⟩ u20 rfl rfl hl.1 rfl (Nat.le_of_ble_eq_true rfl) ⟨Nat.le_of_ble_eq_true rfl, Nat.le_of_ble_eq_true rfl⟩ dX5_init_93 (Nat.le_of_ble_eq_true rfl) (Nat.le_of_ble_eq_true rfl) (fun p H locs hp93 hle93 hW hS => ?_)
  have sl93 := hle93
  have he93 := ag_ext_tr hl85 he85 hp93
  have hl93 := ag_le_tr hl85 sl93
  rw [← hp93 15 0 u19] at hl
  have u21 := ag_in_le u19 (sl93 15)
  refine lv_pop hx hb dX5_init_96 rfl ?_
  refine lv_iinc (v := 4) (lv' := [(1, .int 4), (0, .ref (p 15 0))]) hx hb dX5_init_97 hl (k := 0) rfl (by decide) (by decide) rfl (fun ls hl => ?_)
  refine lv_goto (tgt := 76) hx hb dX5_init_100 (by decide) ?_
  refine lv_iload_n hx hb dX5_init_76 rfl (lv_at hl 0 rfl) ?_
  refine lv_iconst (v := 4) hx hb dX5_init_77 (by decide) ?_
  refine lv_icmp_ge (tgt := 103) hx hb dX5_init_78 (by decide) (fun _ => ?_) (fun h => absurd (by decide) h)
  refine lv_iconst (v := 0) hx hb dX5_init_103 (by decide) ?_
  refine lv_istore_n (lv' := [(1, .int 0), (0, .ref (p 15 0))]) hx hb dX5_init_104 rfl hl (by decide) rfl (fun ls hl => ?_)
  refine lv_iload_n hx hb dX5_init_105 rfl (lv_at hl 0 rfl) ?_
  refine lv_bipush (v := 8) hx hb dX5_init_106 (by decide) ?_
  refine lv_icmp_ge (tgt := 133) hx hb dX5_init_108 (by decide) (fun h => absurd h (by decide)) (fun _ => ?_)
  refine lv_aload_n hx hb dX5_init_111 rfl (lv_at hl 1 rfl) ?_
  refine g15_1 hx hb hT hown hG hW u21 q152 dX5_init_112 ?_
  have o112 := ag_W.okf hW (k := 15) (f := 1) (t := 11) rfl rfl (by decide) 0
  obtain ⟨m112, hf⟩ := ag_n hf
  have j112 := Decidable.not_not.mp m112
  rw [j112] at o112 ⊢
  have u22 := Or.resolve_left o112 (by decide)
  rw [ag_refv (z := z) (p := p) u22 hW]
  obtain ⟨m115, hf⟩ := ag_n hf
  refine n1 hx hb hT hown hG h0 hS hW (Nat.lt_of_not_le m115) q135 q136 q10 (Nat.le_of_ble_eq_true rfl) (Nat.le_of_ble_eq_true rfl) dX5_init_115 (fun p H hp115 hW hS => ?_)
  have sl115 := (ag_le_nn r93.2.1 1)
  have he115 := ag_ext_tr hl93 he93 hp115
  have hl115 := ag_le_tr hl93 sl115
  rw [← hp115 15 0 u21] at hl
  rw [← hp115 11 0 u22]
  have u23 := ag_in_le u21 (sl115 15)
  have u24 := ag_in_le u22 (sl115 11)
  refine lv_dup hx hb dX5_init_118 rfl ?_
  refine lv_iload_n hx hb dX5_init_119 rfl (lv_at hl 0 rfl) ?_
  obtain ⟨r120, hg120, hf⟩ := ag_bs hf
  refine ag_cIv hx hb hml hT hown hG h0 hS hW (c_X3_init (ag_new_v m115) hg120) ⟨rfl, rfl⟩ q137 q138 q10 q139 rfl dd_yX3_init ⟨Nat.le_of_ble_eq_true rfl, Nat.le_of_ble_eq_true rfl⟩ hl.1 rfl (Nat.le_of_ble_eq_true rfl) ⟨Nat.le_of_ble_eq_true rfl, Nat.le_of_ble_eq_true rfl⟩ dX5_init_120 (fun H locs hW hS => ?_)
  obtain ⟨r123, hg123, hf⟩ := ag_bs hf
  refine ag_aVi (C1 := 15) (S1 := 529) hx hb hml hT hown hG h0 hS hW (c_Jx4a65c_add_9ea2d_1 u24 (ag_new_v m115) hg123) ⟨rfl, rfl⟩ q77 q78 q79 q4 q80 dd_yJx4a65c_add_9ea2d ⟨Nat.le_of_ble_eq_true rfl, Nat.le_of_ble_eq_true rfl⟩ u24 rfl rfl hl.1 rfl (Nat.le_of_ble_eq_true rfl) ⟨Nat.le_of_ble_eq_true rfl, Nat.le_of_ble_eq_true rfl⟩ dX5_init_123 (Nat.le_of_ble_eq_true rfl) (Nat.le_of_ble_eq_true rfl) (fun p H locs hp123 hle123 hW hS => ?_)
  have sl123 := hle123
  have he123 := ag_ext_tr hl115 he115 hp123
  have hl123 := ag_le_tr hl115 sl123
  rw [← hp123 15 0 u23] at hl
  have u25 := ag_in_le u23 (sl123 15)
  refine lv_pop hx hb dX5_init_126 rfl ?_
  refine lv_iinc (v := 1) (lv' := [(1, .int 1), (0, .ref (p 15 0))]) hx hb dX5_init_127 hl (k := 0) rfl (by decide) (by decide) rfl (fun ls hl => ?_)
  refine lv_goto (tgt := 105) hx hb dX5_init_130 (by decide) ?_
  refine lv_iload_n hx hb dX5_init_105 rfl (lv_at hl 0 rfl) ?_
  refine lv_bipush (v := 8) hx hb dX5_init_106 (by decide) ?_
  refine lv_icmp_ge (tgt := 133) hx hb dX5_init_108 (by decide) (fun h => absurd h (by decide)) (fun _ => ?_)
  refine lv_aload_n hx hb dX5_init_111 rfl (lv_at hl 1 rfl) ?_
  refine g15_1 hx hb hT hown hG hW u25 q152 dX5_init_112 ?_
  have o112 := ag_W.okf hW (k := 15) (f := 1) (t := 11) rfl rfl (by decide) 0
  obtain ⟨m112, hf⟩ := ag_n hf
  have j112 := Decidable.not_not.mp m112
  rw [j112] at o112 ⊢
  have u26 := Or.resolve_left o112 (by decide)
  rw [ag_refv (z := z) (p := p) u26 hW]
  obtain ⟨m115, hf⟩ := ag_n hf
  refine n1 hx hb hT hown hG h0 hS hW (Nat.lt_of_not_le m115) q135 q136 q10 (Nat.le_of_ble_eq_true rfl) (Nat.le_of_ble_eq_true rfl) dX5_init_115 (fun p H hp115 hW hS => ?_)
  have sl115 := (ag_le_nn r123.2.1 1)
  have he115 := ag_ext_tr hl123 he123 hp115
  have hl115 := ag_le_tr hl123 sl115
  rw [← hp115 15 0 u25] at hl
  rw [← hp115 11 0 u26]
  have u27 := ag_in_le u25 (sl115 15)
  have u28 := ag_in_le u26 (sl115 11)
  refine lv_dup hx hb dX5_init_118 rfl ?_
  refine lv_iload_n hx hb dX5_init_119 rfl (lv_at hl 0 rfl) ?_
  obtain ⟨r120, hg120, hf⟩ := ag_bs hf
  refine ag_cIv hx hb hml hT hown hG h0 hS hW (c_X3_init (ag_new_v m115) hg120) ⟨rfl, rfl⟩ q137 q138 q10 q139 rfl dd_yX3_init ⟨Nat.le_of_ble_eq_true rfl, Nat.le_of_ble_eq_true rfl⟩ hl.1 rfl (Nat.le_of_ble_eq_true rfl) ⟨Nat.le_of_ble_eq_true rfl, Nat.le_of_ble_eq_true rfl⟩ dX5_init_120 (fun H locs hW hS => ?_)
  obtain ⟨r123, hg123, hf⟩ := ag_bs hf
  refine ag_aVi (C1 := 17) (S1 := 631) hx hb hml hT hown hG h0 hS hW (c_Jx4a65c_add_9ea2d_1 u28 (ag_new_v m115) hg123) ⟨rfl, rfl⟩ q77 q78 q79 q4 q80 dd_yJx4a65c_add_9ea2d ⟨Nat.le_of_ble_eq_true rfl, Nat.le_of_ble_eq_true rfl⟩ u28 rfl rfl hl.1 rfl (Nat.le_of_ble_eq_true rfl) ⟨Nat.le_of_ble_eq_true rfl, Nat.le_of_ble_eq_true rfl⟩ dX5_init_123 (Nat.le_of_ble_eq_true rfl) (Nat.le_of_ble_eq_true rfl) (fun p H locs hp123 hle123 hW hS => ?_)
  have sl123 := hle123
  have he123 := ag_ext_tr hl115 he115 hp123
  have hl123 := ag_le_tr hl115 sl123
  rw [← hp123 15 0 u27] at hl
  have u29 := ag_in_le u27 (sl123 15)
  refine lv_pop hx hb dX5_init_126 rfl ?_
  refine lv_iinc (v := 2) (lv' := [(1, .int 2), (0, .ref (p 15 0))]) hx hb dX5_init_127 hl (k := 0) rfl (by decide) (by decide) rfl (fun ls hl => ?_)
  refine lv_goto (tgt := 105) hx hb dX5_init_130 (by decide) ?_
  refine lv_iload_n hx hb dX5_init_105 rfl (lv_at hl 0 rfl) ?_
  refine lv_bipush (v := 8) hx hb dX5_init_106 (by decide) ?_
  refine lv_icmp_ge (tgt := 133) hx hb dX5_init_108 (by decide) (fun h => absurd h (by decide)) (fun _ => ?_)
  refine lv_aload_n hx hb dX5_init_111 rfl (lv_at hl 1 rfl) ?_
  refine g15_1 hx hb hT hown hG hW u29 q152 dX5_init_112 ?_
  have o112 := ag_W.okf hW (k := 15) (f := 1) (t := 11) rfl rfl (by decide) 0
  obtain ⟨m112, hf⟩ := ag_n hf
  have j112 := Decidable.not_not.mp m112
  rw [j112] at o112 ⊢
  have u30 := Or.resolve_left o112 (by decide)
  rw [ag_refv (z := z) (p := p) u30 hW]
  obtain ⟨m115, hf⟩ := ag_n hf
  refine n1 hx hb hT hown hG h0 hS hW (Nat.lt_of_not_le m115) q135 q136 q10 (Nat.le_of_ble_eq_true rfl) (Nat.le_of_ble_eq_true rfl) dX5_init_115 (fun p H hp115 hW hS => ?_)
  have sl115 := (ag_le_nn r123.2.1 1)
  have he115 := ag_ext_tr hl123 he123 hp115
  have hl115 := ag_le_tr hl123 sl115
  rw [← hp115 15 0 u29] at hl
  rw [← hp115 11 0 u30]
  have u31 := ag_in_le u29 (sl115 15)
  have u32 := ag_in_le u30 (sl115 11)
  refine lv_dup hx hb dX5_init_118 rfl ?_
  refine lv_iload_n hx hb dX5_init_119 rfl (lv_at hl 0 rfl) ?_
  obtain ⟨r120, hg120, hf⟩ := ag_bs hf
  refine ag_cIv hx hb hml hT hown hG h0 hS hW (c_X3_init (ag_new_v m115) hg120) ⟨rfl, rfl⟩ q137 q138 q10 q139 rfl dd_yX3_init ⟨Nat.le_of_ble_eq_true rfl, Nat.le_of_ble_eq_true rfl⟩ hl.1 rfl (Nat.le_of_ble_eq_true rfl) ⟨Nat.le_of_ble_eq_true rfl, Nat.le_of_ble_eq_true rfl⟩ dX5_init_120 (fun H locs hW hS => ?_)
  obtain ⟨r123, hg123, hf⟩ := ag_bs hf
  refine ag_aVi (C1 := 19) (S1 := 733) hx hb hml hT hown hG h0 hS hW (c_Jx4a65c_add_9ea2d_1 u32 (ag_new_v m115) hg123) ⟨rfl, rfl⟩ q77 q78 q79 q4 q80 dd_yJx4a65c_add_9ea2d ⟨Nat.le_of_ble_eq_true rfl, Nat.le_of_ble_eq_true rfl⟩ u32 rfl rfl hl.1 rfl (Nat.le_of_ble_eq_true rfl) ⟨Nat.le_of_ble_eq_true rfl, Nat.le_of_ble_eq_true rfl⟩ dX5_init_123 (Nat.le_of_ble_eq_true rfl) (Nat.le_of_ble_eq_true rfl) (fun p H locs hp123 hle123 hW hS => ?_)
  have sl123 := hle123
  have he123 := ag_ext_tr hl115 he115 hp123
  have hl123 := ag_le_tr hl115 sl123
  rw [← hp123 15 0 u31] at hl
  have u33 := ag_in_le u31 (sl123 15)
  refine lv_pop hx hb dX5_init_126 rfl ?_
  refine lv_iinc (v := 3) (lv' := [(1, .int 3), (0, .ref (p 15 0))]) hx hb dX5_init_127 hl (k := 0) rfl (by decide) (by decide) rfl (fun ls hl => ?_)
  refine lv_goto (tgt := 105) hx hb dX5_init_130 (by decide) ?_
  refine lv_iload_n hx hb dX5_init_105 rfl (lv_at hl 0 rfl) ?_
  refine lv_bipush (v := 8) hx hb dX5_init_106 (by decide) ?_
  refine lv_icmp_ge (tgt := 133) hx hb dX5_init_108 (by decide) (fun h => absurd h (by decide)) (fun _ => ?_)
  refine lv_aload_n hx hb dX5_init_111 rfl (lv_at hl 1 rfl) ?_
  refine g15_1 hx hb hT hown hG hW u33 q152 dX5_init_112 ?_
  have o112 := ag_W.okf hW (k := 15) (f := 1) (t := 11) rfl rfl (by decide) 0
  obtain ⟨m112, hf⟩ := ag_n hf
  have j112 := Decidable.not_not.mp m112
  rw [j112] at o112 ⊢
  have u34 := Or.resolve_left o112 (by decide)
  rw [ag_refv (z := z) (p := p) u34 hW]
  obtain ⟨m115, hf⟩ := ag_n hf
  refine n1 hx hb hT hown hG h0 hS hW (Nat.lt_of_not_le m115) q135 q136 q10 (Nat.le_of_ble_eq_true rfl) (Nat.le_of_ble_eq_true rfl) dX5_init_115 (fun p H hp115 hW hS => ?_)
  have sl115 := (ag_le_nn r123.2.1 1)
  have he115 := ag_ext_tr hl123 he123 hp115
  have hl115 := ag_le_tr hl123 sl115
  rw [← hp115 15 0 u33] at hl
  rw [← hp115 11 0 u34]
  have u35 := ag_in_le u33 (sl115 15)
  have u36 := ag_in_le u34 (sl115 11)
  refine lv_dup hx hb dX5_init_118 rfl ?_
  refine lv_iload_n hx hb dX5_init_119 rfl (lv_at hl 0 rfl) ?_
  obtain ⟨r120, hg120, hf⟩ := ag_bs hf
  refine ag_cIv hx hb hml hT hown hG h0 hS hW (c_X3_init (ag_new_v m115) hg120) ⟨rfl, rfl⟩ q137 q138 q10 q139 rfl dd_yX3_init ⟨Nat.le_of_ble_eq_true rfl, Nat.le_of_ble_eq_true rfl⟩ hl.1 rfl (Nat.le_of_ble_eq_true rfl) ⟨Nat.le_of_ble_eq_true rfl, Nat.le_of_ble_eq_true rfl⟩ dX5_init_120 (fun H locs hW hS => ?_)
  obtain ⟨r123, hg123, hf⟩ := ag_bs hf
  refine ag_aVi (C1 := 21) (S1 := 835) hx hb hml hT hown hG h0 hS hW (c_Jx4a65c_add_9ea2d_1 u36 (ag_new_v m115) hg123) ⟨rfl, rfl⟩ q77 q78 q79 q4 q80 dd_yJx4a65c_add_9ea2d ⟨Nat.le_of_ble_eq_true rfl, Nat.le_of_ble_eq_true rfl⟩ u36 rfl rfl hl.1 rfl (Nat.le_of_ble_eq_true rfl) ⟨Nat.le_of_ble_eq_true rfl, Nat.le_of_ble_eq_true rfl⟩ dX5_init_123 (Nat.le_of_ble_eq_true rfl) (Nat.le_of_ble_eq_true rfl) (fun p H locs hp123 hle123 hW hS => ?_)
  have sl123 := hle123
  have he123 := ag_ext_tr hl115 he115 hp123
  have hl123 := ag_le_tr hl115 sl123
  rw [← hp123 15 0 u35] at hl
  have u37 := ag_in_le u35 (sl123 15)
  refine lv_pop hx hb dX5_init_126 rfl ?_
  refine lv_iinc (v := 4) (lv' := [(1, .int 4), (0, .ref (p 15 0))]) hx hb dX5_init_127 hl (k := 0) rfl (by decide) (by decide) rfl (fun ls hl => ?_)
  refine lv_goto (tgt := 105) hx hb dX5_init_130 (by decide) ?_
  refine lv_iload_n hx hb dX5_init_105 rfl (lv_at hl 0 rfl) ?_
  refine lv_bipush (v := 8) hx hb dX5_init_106 (by decide) ?_
  refine lv_icmp_ge (tgt := 133) hx hb dX5_init_108 (by decide) (fun h => absurd h (by decide)) (fun _ => ?_)
  refine lv_aload_n hx hb dX5_init_111 rfl (lv_at hl 1 rfl) ?_
  refine g15_1 hx hb hT hown hG hW u37 q152 dX5_init_112 ?_
  have o112 := ag_W.okf hW (k := 15) (f := 1) (t := 11) rfl rfl (by decide) 0
  obtain ⟨m112, hf⟩ := ag_n hf
  have j112 := Decidable.not_not.mp m112
  rw [j112] at o112 ⊢
  have u38 := Or.resolve_left o112 (by decide)
  rw [ag_refv (z := z) (p := p) u38 hW]
  obtain ⟨m115, hf⟩ := ag_n hf
  refine n1 hx hb hT hown hG h0 hS hW (Nat.lt_of_not_le m115) q135 q136 q10 (Nat.le_of_ble_eq_true rfl) (Nat.le_of_ble_eq_true rfl) dX5_init_115 (fun p H hp115 hW hS => ?_)
  have sl115 := (ag_le_nn r123.2.1 1)
  have he115 := ag_ext_tr hl123 he123 hp115
  have hl115 := ag_le_tr hl123 sl115
  rw [← hp115 15 0 u37] at hl
  rw [← hp115 11 0 u38]
  have u39 := ag_in_le u37 (sl115 15)
  have u40 := ag_in_le u38 (sl115 11)
  refine lv_dup hx hb dX5_init_118 rfl ?_
  refine lv_iload_n hx hb dX5_init_119 rfl (lv_at hl 0 rfl) ?_
  obtain ⟨r120, hg120, hf⟩ := ag_bs hf
  refine ag_cIv hx hb hml hT hown hG h0 hS hW (c_X3_init (ag_new_v m115) hg120) ⟨rfl, rfl⟩ q137 q138 q10 q139 rfl dd_yX3_init ⟨Nat.le_of_ble_eq_true rfl, Nat.le_of_ble_eq_true rfl⟩ hl.1 rfl (Nat.le_of_ble_eq_true rfl) ⟨Nat.le_of_ble_eq_true rfl, Nat.le_of_ble_eq_true rfl⟩ dX5_init_120 (fun H locs hW hS => ?_)
  obtain ⟨r123, hg123, hf⟩ := ag_bs hf
  refine ag_aVi (C1 := 23) (S1 := 937) hx hb hml hT hown hG h0 hS hW (c_Jx4a65c_add_9ea2d_1 u40 (ag_new_v m115) hg123) ⟨rfl, rfl⟩ q77 q78 q79 q4 q80 dd_yJx4a65c_add_9ea2d ⟨Nat.le_of_ble_eq_true rfl, Nat.le_of_ble_eq_true rfl⟩ u40 rfl rfl hl.1 rfl (Nat.le_of_ble_eq_true rfl) ⟨Nat.le_of_ble_eq_true rfl, Nat.le_of_ble_eq_true rfl⟩ dX5_init_123 (Nat.le_of_ble_eq_true rfl) (Nat.le_of_ble_eq_true rfl) (fun p H locs hp123 hle123 hW hS => ?_)
  have sl123 := hle123
  have he123 := ag_ext_tr hl115 he115 hp123
  have hl123 := ag_le_tr hl115 sl123
  rw [← hp123 15 0 u39] at hl
  have u41 := ag_in_le u39 (sl123 15)
  refine lv_pop hx hb dX5_init_126 rfl ?_
  refine lv_iinc (v := 5) (lv' := [(1, .int 5), (0, .ref (p 15 0))]) hx hb dX5_init_127 hl (k := 0) rfl (by decide) (by decide) rfl (fun ls hl => ?_)
  refine lv_goto (tgt := 105) hx hb dX5_init_130 (by decide) ?_
  refine lv_iload_n hx hb dX5_init_105 rfl (lv_at hl 0 rfl) ?_
  refine lv_bipush (v := 8) hx hb dX5_init_106 (by decide) ?_
  refine lv_icmp_ge (tgt := 133) hx hb dX5_init_108 (by decide) (fun h => absurd h (by decide)) (fun _ => ?_)
  refine lv_aload_n hx hb dX5_init_111 rfl (lv_at hl 1 rfl) ?_
  refine g15_1 hx hb hT hown hG hW u41 q152 dX5_init_112 ?_
  have o112 := ag_W.okf hW (k := 15) (f := 1) (t := 11) rfl rfl (by decide) 0
  obtain ⟨m112, hf⟩ := ag_n hf
  have j112 := Decidable.not_not.mp m112
  rw [j112] at o112 ⊢
  have u42 := Or.resolve_left o112 (by decide)
  rw [ag_refv (z := z) (p := p) u42 hW]
  obtain ⟨m115, hf⟩ := ag_n hf
  refine n1 hx hb hT hown hG h0 hS hW (Nat.lt_of_not_le m115) q135 q136 q10 (Nat.le_of_ble_eq_true rfl) (Nat.le_of_ble_eq_true rfl) dX5_init_115 (fun p H hp115 hW hS => ?_)
  have sl115 := (ag_le_nn r123.2.1 1)
  have he115 := ag_ext_tr hl123 he123 hp115
  have hl115 := ag_le_tr hl123 sl115
  rw [← hp115 15 0 u41] at hl
  rw [← hp115 11 0 u42]
  have u43 := ag_in_le u41 (sl115 15)
  have u44 := ag_in_le u42 (sl115 11)
  refine lv_dup hx hb dX5_init_118 rfl ?_
  refine lv_iload_n hx hb dX5_init_119 rfl (lv_at hl 0 rfl) ?_
  obtain ⟨r120, hg120, hf⟩ := ag_bs hf
  refine ag_cIv hx hb hml hT hown hG h0 hS hW (c_X3_init (ag_new_v m115) hg120) ⟨rfl, rfl⟩ q137 q138 q10 q139 rfl dd_yX3_init ⟨Nat.le_of_ble_eq_true rfl, Nat.le_of_ble_eq_true rfl⟩ hl.1 rfl (Nat.le_of_ble_eq_true rfl) ⟨Nat.le_of_ble_eq_true rfl, Nat.le_of_ble_eq_true rfl⟩ dX5_init_120 (fun H locs hW hS => ?_)
  obtain ⟨r123, hg123, hf⟩ := ag_bs hf
  refine ag_aVi (C1 := 25) (S1 := 1039) hx hb hml hT hown hG h0 hS hW (c_Jx4a65c_add_9ea2d_1 u44 (ag_new_v m115) hg123) ⟨rfl, rfl⟩ q77 q78 q79 q4 q80 dd_yJx4a65c_add_9ea2d ⟨Nat.le_of_ble_eq_true rfl, Nat.le_of_ble_eq_true rfl⟩ u44 rfl rfl hl.1 rfl (Nat.le_of_ble_eq_true rfl) ⟨Nat.le_of_ble_eq_true rfl, Nat.le_of_ble_eq_true rfl⟩ dX5_init_123 (Nat.le_of_ble_eq_true rfl) (Nat.le_of_ble_eq_true rfl) (fun p H locs hp123 hle123 hW hS => ?_)
  have sl123 := hle123
  have he123 := ag_ext_tr hl115 he115 hp123
  have hl123 := ag_le_tr hl115 sl123
  rw [← hp123 15 0 u43] at hl
  have u45 := ag_in_le u43 (sl123 15)
  refine lv_pop hx hb dX5_init_126 rfl ?_
  refine lv_iinc (v := 6) (lv' := [(1, .int 6), (0, .ref (p 15 0))]) hx hb dX5_init_127 hl (k := 0) rfl (by decide) (by decide) rfl (fun ls hl => ?_)
  refine lv_goto (tgt := 105) hx hb dX5_init_130 (by decide) ?_
  refine lv_iload_n hx hb dX5_init_105 rfl (lv_at hl 0 rfl) ?_
  refine lv_bipush (v := 8) hx hb dX5_init_106 (by decide) ?_
  refine lv_icmp_ge (tgt := 133) hx hb dX5_init_108 (by decide) (fun h => absurd h (by decide)) (fun _ => ?_)
  refine lv_aload_n hx hb dX5_init_111 rfl (lv_at hl 1 rfl) ?_
  refine g15_1 hx hb hT hown hG hW u45 q152 dX5_init_112 ?_
  have o112 := ag_W.okf hW (k := 15) (f := 1) (t := 11) rfl rfl (by decide) 0
  obtain ⟨m112, hf⟩ := ag_n hf
  have j112 := Decidable.not_not.mp m112
  rw [j112] at o112 ⊢
  have u46 := Or.resolve_left o112 (by decide)
  rw [ag_refv (z := z) (p := p) u46 hW]
  obtain ⟨m115, hf⟩ := ag_n hf
  refine n1 hx hb hT hown hG h0 hS hW (Nat.lt_of_not_le m115) q135 q136 q10 (Nat.le_of_ble_eq_true rfl) (Nat.le_of_ble_eq_true rfl) dX5_init_115 (fun p H hp115 hW hS => ?_)
  have sl115 := (ag_le_nn r123.2.1 1)
  have he115 := ag_ext_tr hl123 he123 hp115
  have hl115 := ag_le_tr hl123 sl115
  rw [← hp115 15 0 u45] at hl
  rw [← hp115 11 0 u46]
  have u47 := ag_in_le u45 (sl115 15)
  have u48 := ag_in_le u46 (sl115 11)
  refine lv_dup hx hb dX5_init_118 rfl ?_
  refine lv_iload_n hx hb dX5_init_119 rfl (lv_at hl 0 rfl) ?_
  obtain ⟨r120, hg120, hf⟩ := ag_bs hf
  refine ag_cIv hx hb hml hT hown hG h0 hS hW (c_X3_init (ag_new_v m115) hg120) ⟨rfl, rfl⟩ q137 q138 q10 q139 rfl dd_yX3_init ⟨Nat.le_of_ble_eq_true rfl, Nat.le_of_ble_eq_true rfl⟩ hl.1 rfl (Nat.le_of_ble_eq_true rfl) ⟨Nat.le_of_ble_eq_true rfl, Nat.le_of_ble_eq_true rfl⟩ dX5_init_120 (fun H locs hW hS => ?_)
  obtain ⟨r123, hg123, hf⟩ := ag_bs hf
  refine ag_aVi (C1 := 27) (S1 := 1141) hx hb hml hT hown hG h0 hS hW (c_Jx4a65c_add_9ea2d_1 u48 (ag_new_v m115) hg123) ⟨rfl, rfl⟩ q77 q78 q79 q4 q80 dd_yJx4a65c_add_9ea2d ⟨Nat.le_of_ble_eq_true rfl, Nat.le_of_ble_eq_true rfl⟩ u48 rfl rfl hl.1 rfl (Nat.le_of_ble_eq_true rfl) ⟨Nat.le_of_ble_eq_true rfl, Nat.le_of_ble_eq_true rfl⟩ dX5_init_123 (Nat.le_of_ble_eq_true rfl) (Nat.le_of_ble_eq_true rfl) (fun p H locs hp123 hle123 hW hS => ?_)
  have sl123 := hle123
  have he123 := ag_ext_tr hl115 he115 hp123
  have hl123 := ag_le_tr hl115 sl123
  rw [← hp123 15 0 u47] at hl
  have u49 := ag_in_le u47 (sl123 15)
  refine lv_pop hx hb dX5_init_126 rfl ?_
  refine lv_iinc (v := 7) (lv' := [(1, .int 7), (0, .ref (p 15 0))]) hx hb dX5_init_127 hl (k := 0) rfl (by decide) (by decide) rfl (fun ls hl => ?_)
  refine lv_goto (tgt := 105) hx hb dX5_init_130 (by decide) ?_
  refine lv_iload_n hx hb dX5_init_105 rfl (lv_at hl 0 rfl) ?_
  refine lv_bipush (v := 8) hx hb dX5_init_106 (by decide) ?_
  refine lv_icmp_ge (tgt := 133) hx hb dX5_init_108 (by decide) (fun h => absurd h (by decide)) (fun _ => ?_)
  refine lv_aload_n hx hb dX5_init_111 rfl (lv_at hl 1 rfl) ?_
  refine g15_1 hx hb hT hown hG hW u49 q152 dX5_init_112 ?_
  have o112 := ag_W.okf hW (k := 15) (f := 1) (t := 11) rfl rfl (by decide) 0
  obtain ⟨m112, hf⟩ := ag_n hf
  have j112 := Decidable.not_not.mp m112
  rw [j112] at o112 ⊢
  have u50 := Or.resolve_left o112 (by decide)
  rw [ag_refv (z := z) (p := p) u50 hW]
  obtain ⟨m115, hf⟩ := ag_n hf
  refine n1 hx hb hT hown hG h0 hS hW (Nat.lt_of_not_le m115) q135 q136 q10 (Nat.le_of_ble_eq_true rfl) (Nat.le_of_ble_eq_true rfl) dX5_init_115 (fun p H hp115 hW hS => ?_)
  have sl115 := (ag_le_nn r123.2.1 1)
  have he115 := ag_ext_tr hl123 he123 hp115
  have hl115 := ag_le_tr hl123 sl115
  rw [← hp115 15 0 u49] at hl
  rw [← hp115 11 0 u50]
  have u51 := ag_in_le u49 (sl115 15)
  have u52 := ag_in_le u50 (sl115 11)
  refine lv_dup hx hb dX5_init_118 rfl ?_
  refine lv_iload_n hx hb dX5_init_119 rfl (lv_at hl 0 rfl) ?_
  obtain ⟨r120, hg120, hf⟩ := ag_bs hf
  refine ag_cIv hx hb hml hT hown hG h0 hS hW (c_X3_init (ag_new_v m115) hg120) ⟨rfl, rfl⟩ q137 q138 q10 q139 rfl dd_yX3_init ⟨Nat.le_of_ble_eq_true rfl, Nat.le_of_ble_eq_true rfl⟩ hl.1 rfl (Nat.le_of_ble_eq_true rfl) ⟨Nat.le_of_ble_eq_true rfl, Nat.le_of_ble_eq_true rfl⟩ dX5_init_120 (fun H locs hW hS => ?_)
  obtain ⟨r123, hg123, hf⟩ := ag_bs hf
  refine ag_aVi (C1 := 29) (S1 := 1243) hx hb hml hT hown hG h0 hS hW (c_Jx4a65c_add_9ea2d_1 u52 (ag_new_v m115) hg123) ⟨rfl, rfl⟩ q77 q78 q79 q4 q80 dd_yJx4a65c_add_9ea2d ⟨Nat.le_of_ble_eq_true rfl, Nat.le_of_ble_eq_true rfl⟩ u52 rfl rfl hl.1 rfl (Nat.le_of_ble_eq_true rfl) ⟨Nat.le_of_ble_eq_true rfl, Nat.le_of_ble_eq_true rfl⟩ dX5_init_123 (Nat.le_of_ble_eq_true rfl) (Nat.le_of_ble_eq_true rfl) (fun p H locs hp123 hle123 hW hS => ?_)
  have sl123 := hle123
  have he123 := ag_ext_tr hl115 he115 hp123
  have hl123 := ag_le_tr hl115 sl123
  rw [← hp123 15 0 u51] at hl
  have u53 := ag_in_le u51 (sl123 15)
  refine lv_pop hx hb dX5_init_126 rfl ?_
  refine lv_iinc (v := 8) (lv' := [(1, .int 8), (0, .ref (p 15 0))]) hx hb dX5_init_127 hl (k := 0) rfl (by decide) (by decide) rfl (fun ls hl => ?_)
  refine lv_goto (tgt := 105) hx hb dX5_init_130 (by decide) ?_
  refine lv_iload_n hx hb dX5_init_105 rfl (lv_at hl 0 rfl) ?_
  refine lv_bipush (v := 8) hx hb dX5_init_106 (by decide) ?_
  refine lv_icmp_ge (tgt := 133) hx hb dX5_init_108 (by decide) (fun _ => ?_) (fun h => absurd (by decide) h)
  refine W.widen (k := 40) (n := 1500) (Nat.le_of_ble_eq_true rfl) (Nat.le_of_ble_eq_true rfl) ?_
  exact ag_Pvret hx hb hr hlocks hS hf he123 hl123 hW dX5_init_133
def f_X6_init (fu : Nat) (n : ag_N) (s : ag_S) : Option (ag_N × ag_S) := if ¬ n 34 = 0 then none else if ¬ (ag_nn n 34) 35 = 0 then none else if ¬ (ag_nn (ag_nn n 34) 35) 36 = 0 then none else if ¬ (ag_nn (ag_nn (ag_nn n 34) 35) 36) 38 = 0 then none else if ¬ (ag_nn (ag_nn (ag_nn (ag_nn n 34) 35) 36) 38) 39 = 0 then none else if ¬ (ag_nn (ag_nn (ag_nn (ag_nn (ag_nn n 34) 35) 36) 38) 39) 40 = 0 then none else if ¬ (ag_nn (ag_nn (ag_nn (ag_nn (ag_nn (ag_nn n 34) 35) 36) 38) 39) 40) 41 = 0 then none else if ¬ (ag_nn (ag_nn (ag_nn (ag_nn (ag_nn (ag_nn (ag_nn n 34) 35) 36) 38) 39) 40) 41) 42 = 0 then none else if ¬ (ag_nn (ag_nn (ag_nn (ag_nn (ag_nn (ag_nn (ag_nn (ag_nn n 34) 35) 36) 38) 39) 40) 41) 42) 44 = 0 then none else if ¬ (ag_nn (ag_nn (ag_nn (ag_nn (ag_nn (ag_nn (ag_nn (ag_nn (ag_nn n 34) 35) 36) 38) 39) 40) 41) 42) 44) 45 = 0 then none else if ¬ (ag_nn (ag_nn (ag_nn (ag_nn (ag_nn (ag_nn (ag_nn (ag_nn (ag_nn (ag_nn n 34) 35) 36) 38) 39) 40) 41) 42) 44) 45) 46 = 0 then none else if ¬ (ag_nn (ag_nn (ag_nn (ag_nn (ag_nn (ag_nn (ag_nn (ag_nn (ag_nn (ag_nn (ag_nn n 34) 35) 36) 38) 39) 40) 41) 42) 44) 45) 46) 47 = 0 then none else if ¬ (ag_nn (ag_nn (ag_nn (ag_nn (ag_nn (ag_nn (ag_nn (ag_nn (ag_nn (ag_nn (ag_nn (ag_nn n 34) 35) 36) 38) 39) 40) 41) 42) 44) 45) 46) 47) 48 = 0 then none else if ¬ (ag_nn (ag_nn (ag_nn (ag_nn (ag_nn (ag_nn (ag_nn (ag_nn (ag_nn (ag_nn (ag_nn (ag_nn (ag_nn n 34) 35) 36) 38) 39) 40) 41) 42) 44) 45) 46) 47) 48) 49 = 0 then none else if ¬ (ag_nn (ag_nn (ag_nn (ag_nn (ag_nn (ag_nn (ag_nn (ag_nn (ag_nn (ag_nn (ag_nn (ag_nn (ag_nn (ag_nn n 34) 35) 36) 38) 39) 40) 41) 42) 44) 45) 46) 47) 48) 49) 51 = 0 then none else if ¬ (ag_nn (ag_nn (ag_nn (ag_nn (ag_nn (ag_nn (ag_nn (ag_nn (ag_nn (ag_nn (ag_nn (ag_nn (ag_nn (ag_nn (ag_nn n 34) 35) 36) 38) 39) 40) 41) 42) 44) 45) 46) 47) 48) 49) 51) 52 = 0 then none else if ¬ (ag_nn (ag_nn (ag_nn (ag_nn (ag_nn (ag_nn (ag_nn (ag_nn (ag_nn (ag_nn (ag_nn (ag_nn (ag_nn (ag_nn (ag_nn (ag_nn n 34) 35) 36) 38) 39) 40) 41) 42) 44) 45) 46) 47) 48) 49) 51) 52) 53 = 0 then none else if ¬ (ag_nn (ag_nn (ag_nn (ag_nn (ag_nn (ag_nn (ag_nn (ag_nn (ag_nn (ag_nn (ag_nn (ag_nn (ag_nn (ag_nn (ag_nn (ag_nn (ag_nn n 34) 35) 36) 38) 39) 40) 41) 42) 44) 45) 46) 47) 48) 49) 51) 52) 53) 54 = 0 then none else if ¬ (ag_nn (ag_nn (ag_nn (ag_nn (ag_nn (ag_nn (ag_nn (ag_nn (ag_nn (ag_nn (ag_nn (ag_nn (ag_nn (ag_nn (ag_nn (ag_nn (ag_nn (ag_nn n 34) 35) 36) 38) 39) 40) 41) 42) 44) 45) 46) 47) 48) 49) 51) 52) 53) 54) 55 = 0 then none else if ¬ (ag_nn (ag_nn (ag_nn (ag_nn (ag_nn (ag_nn (ag_nn (ag_nn (ag_nn (ag_nn (ag_nn (ag_nn (ag_nn (ag_nn (ag_nn (ag_nn (ag_nn (ag_nn (ag_nn n 34) 35) 36) 38) 39) 40) 41) 42) 44) 45) 46) 47) 48) 49) 51) 52) 53) 54) 55) 56 = 0 then none else if ¬ (ag_nn (ag_nn (ag_nn (ag_nn (ag_nn (ag_nn (ag_nn (ag_nn (ag_nn (ag_nn (ag_nn (ag_nn (ag_nn (ag_nn (ag_nn (ag_nn (ag_nn (ag_nn (ag_nn (ag_nn n 34) 35) 36) 38) 39) 40) 41) 42) 44) 45) 46) 47) 48) 49) 51) 52) 53) 54) 55) 56) 57 = 0 then none else if ¬ (ag_nn (ag_nn (ag_nn (ag_nn (ag_nn (ag_nn (ag_nn (ag_nn (ag_nn (ag_nn (ag_nn (ag_nn (ag_nn (ag_nn (ag_nn (ag_nn (ag_nn (ag_nn (ag_nn (ag_nn (ag_nn n 34) 35) 36) 38) 39) 40) 41) 42) 44) 45) 46) 47) 48) 49) 51) 52) 53) 54) 55) 56) 57) 58 = 0 then none else if ¬ (ag_nn (ag_nn (ag_nn (ag_nn (ag_nn (ag_nn (ag_nn (ag_nn (ag_nn (ag_nn (ag_nn (ag_nn (ag_nn (ag_nn (ag_nn (ag_nn (ag_nn (ag_nn (ag_nn (ag_nn (ag_nn (ag_nn n 34) 35) 36) 38) 39) 40) 41) 42) 44) 45) 46) 47) 48) 49) 51) 52) 53) 54) 55) 56) 57) 58) 59 = 0 then none else if ¬ (ag_nn (ag_nn (ag_nn (ag_nn (ag_nn (ag_nn (ag_nn (ag_nn (ag_nn (ag_nn (ag_nn (ag_nn (ag_nn (ag_nn (ag_nn (ag_nn (ag_nn (ag_nn (ag_nn (ag_nn (ag_nn (ag_nn (ag_nn n 34) 35) 36) 38) 39) 40) 41) 42) 44) 45) 46) 47) 48) 49) 51) 52) 53) 54) 55) 56) 57) 58) 59) 60 = 0 then none else some ((ag_nn (ag_nn (ag_nn (ag_nn (ag_nn (ag_nn (ag_nn (ag_nn (ag_nn (ag_nn (ag_nn (ag_nn (ag_nn (ag_nn (ag_nn (ag_nn (ag_nn (ag_nn (ag_nn (ag_nn (ag_nn (ag_nn (ag_nn (ag_nn n 34) 35) 36) 38) 39) 40) 41) 42) 44) 45) 46) 47) 48) 49) 51) 52) 53) 54) 55) 56) 57) 58) 59) 60), (ag_up (ag_sv (ag_up (ag_sv (ag_up (ag_sv (ag_up (ag_sv (ag_up (ag_sv (ag_up (ag_sv (ag_up (ag_sv (ag_up (ag_sv (ag_up (ag_sv (ag_up (ag_sv (ag_up (ag_sv (ag_up (ag_sv (ag_up (ag_sv (ag_up (ag_sv (ag_up (ag_sv (ag_up (ag_sv (ag_up (ag_sv (ag_up (ag_sv (ag_up (ag_sv (ag_up (ag_sv (ag_up (ag_sv (ag_up (ag_sv (ag_up (ag_sv (ag_up (ag_sv (ag_up s 16 3 0 5) 34 0 0) 16 4 0 0) 35 0 0) 16 5 0 0) 36 0 0) 16 6 0 0) 38 0 0) 16 8 0 0) 39 0 0) 16 9 0 0) 40 0 0) 16 10 0 0) 41 0 0) 16 11 0 0) 42 0 0) 16 12 0 0) 44 0 0) 16 14 0 0) 45 0 0) 16 15 0 0) 46 0 0) 16 16 0 0) 47 0 0) 16 17 0 0) 48 0 0) 16 18 0 0) 49 0 0) 16 19 0 0) 51 0 0) 16 21 0 0) 52 0 0) 16 22 0 0) 53 0 0) 16 23 0 0) 54 0 0) 16 24 0 0) 55 0 0) 16 25 0 0) 56 0 0) 16 26 0 0) 57 0 0) 16 27 0 0) 58 0 0) 16 28 0 0) 59 0 0) 16 29 0 0) 60 0 0) 16 30 0 0))
abbrev rm_X6_init : Room := { frames := 1, cells := 24, slots := 1100, locals := 20 }
theorem dd_yX6_init : yX6_init.cls ≠ "java/lang/invoke/MethodHandle" ∧ yX6_init.cls ≠ "java/lang/invoke/VarHandle" ∧ (parseMethodDescriptor yX6_init.desc).map (fun d => d.parameters.length) = some 0 := by decide +kernel
set_option maxHeartbeats 4000000 in
set_option maxRecDepth 100000 in
theorem c_X6_init {z : ag_Z} {l : Launch} {n : ag_N} {p : ag_P} {s : ag_S} {fu : Nat} {out : ag_N × ag_S} (t16 : vp_in 0 (n 16)) (hf : f_X6_init fu  n s = some out) : Met l yX6_init (ag_ws yX6_init cX6_init 1 ((none))) rm_X6_init (va_Pc [.ref (p 16 0)] (ag_Pre z n p s)) (ag_Pv z n p out.1 out.2) 24 1100 (ag_A z) := by
  refine Met.ofW (cc := cX6_init) (maxL := 1) (ret := (none)) (by decide) rfl ?_
  intro p0 e st m args below meth c s9 B hml hv
  obtain ⟨ha, h0, hG, hW⟩ := hv
  have hin : meth.name = "<init>" := (name_of_methodNamed B.named B.method).1
  have hx := B.exec
  have hb := B.bytes
  have hr := B.returns
  have hts := atoms_spec (ws := ag_ws yX6_init cX6_init 1 ((none))) B.pre
  have hT : ∀ w ∈ ag_tbl, w.before args st = true := fun w h => hts w (List.mem_cons_of_mem _ h)
  have hown : st.vm.findClass RX6 = some m.cls := findClass_of_methodNamed B.named
  have hlocks := B.notSynchronized
  have hS : va_S (ag_A z) st.heap st.heap [] := va_S.rf
  obtain ⟨ls, hls, hl⟩ : ∃ ls, entryFrame m args 1 = F0 m 0 ls [] ∧ lv_has ls 1 [(0, .ref (p 16 0))] := by rw [ha]; exact ag_entry m [.ref (p 16 0)] (Nat.le_of_ble_eq_true rfl)
  rw [hls]
  unfold f_X6_init at hf
  refine lv_aload_n hx hb dX6_init_0 rfl (lv_at hl 0 rfl) ?_
  refine ag_obj hx hb hml hl.1 hT hown q787 q30 q31 (Nat.le_of_ble_eq_true rfl) (Nat.le_of_ble_eq_true rfl) dX6_init_1 ?_
  refine lv_aload_n hx hb dX6_init_4 rfl (lv_at hl 0 rfl) ?_
  refine lv_iconst (v := 5) hx hb dX6_init_5 (by decide) ?_
  refine u16_3 hx hb hT hown hG hW hS t16 q791 dX6_init_6 (fun H locs hW hS => ?_)
  refine lv_aload_n hx hb dX6_init_9 rfl (lv_at hl 0 rfl) ?_
  refine lv_iconst (v := 4) hx hb dX6_init_10 (by decide) ?_
  obtain ⟨m11, hf⟩ := ag_n hf
  have j11 := Decidable.not_not.mp m11
  refine ag_newi (k := 34) (len := 4) hx hb hT hG h0 hS hW j11 rfl rfl (by decide) q882 (by decide) (by decide) (Nat.le_of_ble_eq_true rfl) (Nat.le_of_ble_eq_true rfl) dX6_init_11 (fun p H hp11 hW hS => ?_)
  have sl11 := (ag_le_nn n 34)
  have he11 := ag_ext_tr (ag_le_rf _) (ag_ext_rf _ _) hp11
  have hl11 := ag_le_tr (ag_le_rf _) sl11
  rw [← hp11 16 0 t16] at hl
  rw [← hp11 16 0 t16]
  have u1 := ag_in_le t16 (sl11 16)
  refine u16_4 hx hb hT hown hG hW hS u1 (ag_refv (z := z) (p := p) (ag_new_0 j11) hW).symm (Or.inr (ag_new_0 j11)) hin rfl q792 dX6_init_13 (fun H locs hW hS => ?_)
  refine lv_aload_n hx hb dX6_init_16 rfl (lv_at hl 0 rfl) ?_
  refine lv_iconst (v := 4) hx hb dX6_init_17 (by decide) ?_
  obtain ⟨m18, hf⟩ := ag_n hf
  have j18 := Decidable.not_not.mp m18
  refine ag_newi (k := 35) (len := 4) hx hb hT hG h0 hS hW j18 rfl rfl (by decide) q882 (by decide) (by decide) (Nat.le_of_ble_eq_true rfl) (Nat.le_of_ble_eq_true rfl) dX6_init_18 (fun p H hp18 hW hS => ?_)
  have sl18 := (ag_le_nn ((ag_nn n 34)) 35)
  have he18 := ag_ext_tr hl11 he11 hp18
  have hl18 := ag_le_tr hl11 sl18
  rw [← hp18 16 0 u1] at hl
  rw [← hp18 16 0 u1]
  have u2 := ag_in_le u1 (sl18 16)
  refine u16_5 hx hb hT hown hG hW hS u2 (ag_refv (z := z) (p := p) (ag_new_0 j18) hW).symm (Or.inr (ag_new_0 j18)) hin rfl q793 dX6_init_20 (fun H locs hW hS => ?_)
  refine lv_aload_n hx hb dX6_init_23 rfl (lv_at hl 0 rfl) ?_
  refine lv_bipush (v := 8) hx hb dX6_init_24 (by decide) ?_
  obtain ⟨m26, hf⟩ := ag_n hf
  have j26 := Decidable.not_not.mp m26
  refine ag_newi (k := 36) (len := 8) hx hb hT hG h0 hS hW j26 rfl rfl (by decide) q882 (by decide) (by decide) (Nat.le_of_ble_eq_true rfl) (Nat.le_of_ble_eq_true rfl) dX6_init_26 (fun p H hp26 hW hS => ?_)
  have sl26 := (ag_le_nn ((ag_nn (ag_nn n 34) 35)) 36)
  have he26 := ag_ext_tr hl18 he18 hp26
  have hl26 := ag_le_tr hl18 sl26
  rw [← hp26 16 0 u2] at hl
  rw [← hp26 16 0 u2]
  have u3 := ag_in_le u2 (sl26 16)
  refine u16_6 hx hb hT hown hG hW hS u3 (ag_refv (z := z) (p := p) (ag_new_0 j26) hW).symm (Or.inr (ag_new_0 j26)) hin rfl q794 dX6_init_28 (fun H locs hW hS => ?_)
  refine lv_aload_n hx hb dX6_init_31 rfl (lv_at hl 0 rfl) ?_
  refine lv_bipush (v := 10) hx hb dX6_init_32 (by decide) ?_
  obtain ⟨m34, hf⟩ := ag_n hf
  have j34 := Decidable.not_not.mp m34
  refine ag_newi (k := 38) (len := 10) hx hb hT hG h0 hS hW j34 rfl rfl (by decide) q882 (by decide) (by decide) (Nat.le_of_ble_eq_true rfl) (Nat.le_of_ble_eq_true rfl) dX6_init_34 (fun p H hp34 hW hS => ?_)
  have sl34 := (ag_le_nn ((ag_nn (ag_nn (ag_nn n 34) 35) 36)) 38)
  have he34 := ag_ext_tr hl26 he26 hp34
  have hl34 := ag_le_tr hl26 sl34
  rw [← hp34 16 0 u3] at hl
  rw [← hp34 16 0 u3]
  have u4 := ag_in_le u3 (sl34 16)
  refine u16_8 hx hb hT hown hG hW hS u4 (ag_refv (z := z) (p := p) (ag_new_0 j34) hW).symm (Or.inr (ag_new_0 j34)) hin rfl q796 dX6_init_36 (fun H locs hW hS => ?_)
  refine lv_aload_n hx hb dX6_init_39 rfl (lv_at hl 0 rfl) ?_
  refine lv_bipush (v := 10) hx hb dX6_init_40 (by decide) ?_
  obtain ⟨m42, hf⟩ := ag_n hf
  have j42 := Decidable.not_not.mp m42
  refine ag_newi (k := 39) (len := 10) hx hb hT hG h0 hS hW j42 rfl rfl (by decide) q882 (by decide) (by decide) (Nat.le_of_ble_eq_true rfl) (Nat.le_of_ble_eq_true rfl) dX6_init_42 (fun p H hp42 hW hS => ?_)
  have sl42 := (ag_le_nn ((ag_nn (ag_nn (ag_nn (ag_nn n 34) 35) 36) 38)) 39)
  have he42 := ag_ext_tr hl34 he34 hp42
  have hl42 := ag_le_tr hl34 sl42
  rw [← hp42 16 0 u4] at hl
  rw [← hp42 16 0 u4]
  have u5 := ag_in_le u4 (sl42 16)
  refine u16_9 hx hb hT hown hG hW hS u5 (ag_refv (z := z) (p := p) (ag_new_0 j42) hW).symm (Or.inr (ag_new_0 j42)) hin rfl q797 dX6_init_44 (fun H locs hW hS => ?_)
  refine lv_aload_n hx hb dX6_init_47 rfl (lv_at hl 0 rfl) ?_
  refine lv_bipush (v := 10) hx hb dX6_init_48 (by decide) ?_
  obtain ⟨m50, hf⟩ := ag_n hf
  have j50 := Decidable.not_not.mp m50
  refine ag_newi (k := 40) (len := 10) hx hb hT hG h0 hS hW j50 rfl rfl (by decide) q882 (by decide) (by decide) (Nat.le_of_ble_eq_true rfl) (Nat.le_of_ble_eq_true rfl) dX6_init_50 (fun p H hp50 hW hS => ?_)
  have sl50 := (ag_le_nn ((ag_nn (ag_nn (ag_nn (ag_nn (ag_nn n 34) 35) 36) 38) 39)) 40)
  have he50 := ag_ext_tr hl42 he42 hp50
  have hl50 := ag_le_tr hl42 sl50
  rw [← hp50 16 0 u5] at hl
  rw [← hp50 16 0 u5]
  have u6 := ag_in_le u5 (sl50 16)
  refine u16_10 hx hb hT hown hG hW hS u6 (ag_refv (z := z) (p := p) (ag_new_0 j50) hW).symm (Or.inr (ag_new_0 j50)) hin rfl q798 dX6_init_52 (fun H locs hW hS => ?_)
  refine lv_aload_n hx hb dX6_init_55 rfl (lv_at hl 0 rfl) ?_
  refine lv_bipush (v := 10) hx hb dX6_init_56 (by decide) ?_
  obtain ⟨m58, hf⟩ := ag_n hf
  have j58 := Decidable.not_not.mp m58
  refine ag_newi (k := 41) (len := 10) hx hb hT hG h0 hS hW j58 rfl rfl (by decide) q882 (by decide) (by decide) (Nat.le_of_ble_eq_true rfl) (Nat.le_of_ble_eq_true rfl) dX6_init_58 (fun p H hp58 hW hS => ?_)
  have sl58 := (ag_le_nn ((ag_nn (ag_nn (ag_nn (ag_nn (ag_nn (ag_nn n 34) 35) 36) 38) 39) 40)) 41)
  have he58 := ag_ext_tr hl50 he50 hp58
  have hl58 := ag_le_tr hl50 sl58
  rw [← hp58 16 0 u6] at hl
  rw [← hp58 16 0 u6]
  have u7 := ag_in_le u6 (sl58 16)
  refine u16_11 hx hb hT hown hG hW hS u7 (ag_refv (z := z) (p := p) (ag_new_0 j58) hW).symm (Or.inr (ag_new_0 j58)) hin rfl q799 dX6_init_60 (fun H locs hW hS => ?_)
  refine lv_aload_n hx hb dX6_init_63 rfl (lv_at hl 0 rfl) ?_
  refine lv_bipush (v := 10) hx hb dX6_init_64 (by decide) ?_
  obtain ⟨m66, hf⟩ := ag_n hf
  have j66 := Decidable.not_not.mp m66
  refine ag_newi (k := 42) (len := 10) hx hb hT hG h0 hS hW j66 rfl rfl (by decide) q882 (by decide) (by decide) (Nat.le_of_ble_eq_true rfl) (Nat.le_of_ble_eq_true rfl) dX6_init_66 (fun p H hp66 hW hS => ?_)
  have sl66 := (ag_le_nn ((ag_nn (ag_nn (ag_nn (ag_nn (ag_nn (ag_nn (ag_nn n 34) 35) 36) 38) 39) 40) 41)) 42)
  have he66 := ag_ext_tr hl58 he58 hp66
  have hl66 := ag_le_tr hl58 sl66
  rw [← hp66 16 0 u7] at hl
  rw [← hp66 16 0 u7]
  have u8 := ag_in_le u7 (sl66 16)
  refine u16_12 hx hb hT hown hG hW hS u8 (ag_refv (z := z) (p := p) (ag_new_0 j66) hW).symm (Or.inr (ag_new_0 j66)) hin rfl q800 dX6_init_68 (fun H locs hW hS => ?_)
  refine lv_aload_n hx hb dX6_init_71 rfl (lv_at hl 0 rfl) ?_
  refine lv_bipush (v := 40) hx hb dX6_init_72 (by decide) ?_
  obtain ⟨m74, hf⟩ := ag_n hf
  have j74 := Decidable.not_not.mp m74
  refine ag_newi (k := 44) (len := 40) hx hb hT hG h0 hS hW j74 rfl rfl (by decide) q882 (by decide) (by decide) (Nat.le_of_ble_eq_true rfl) (Nat.le_of_ble_eq_true rfl) dX6_init_74 (fun p H hp74 hW hS => ?_)
  have sl74 := (ag_le_nn ((ag_nn (ag_nn (ag_nn (ag_nn (ag_nn (ag_nn (ag_nn (ag_nn n 34) 35) 36) 38) 39) 40) 41) 42)) 44)
  have he74 := ag_ext_tr hl66 he66 hp74
  have hl74 := ag_le_tr hl66 sl74
  rw [← hp74 16 0 u8] at hl
  rw [← hp74 16 0 u8]
  have u9 := ag_in_le u8 (sl74 16)
  refine u16_14 hx hb hT hown hG hW hS u9 (ag_refv (z := z) (p := p) (ag_new_0 j74) hW).symm (Or.inr (ag_new_0 j74)) hin rfl q802 dX6_init_76 (fun H locs hW hS => ?_)
  refine lv_aload_n hx hb dX6_init_79 rfl (lv_at hl 0 rfl) ?_
  refine lv_bipush (v := 40) hx hb dX6_init_80 (by decide) ?_
  obtain ⟨m82, hf⟩ := ag_n hf
  have j82 := Decidable.not_not.mp m82
  refine ag_newi (k := 45) (len := 40) hx hb hT hG h0 hS hW j82 rfl rfl (by decide) q882 (by decide) (by decide) (Nat.le_of_ble_eq_true rfl) (Nat.le_of_ble_eq_true rfl) dX6_init_82 (fun p H hp82 hW hS => ?_)
  have sl82 := (ag_le_nn ((ag_nn (ag_nn (ag_nn (ag_nn (ag_nn (ag_nn (ag_nn (ag_nn (ag_nn n 34) 35) 36) 38) 39) 40) 41) 42) 44)) 45)
  have he82 := ag_ext_tr hl74 he74 hp82
  have hl82 := ag_le_tr hl74 sl82
  rw [← hp82 16 0 u9] at hl
  rw [← hp82 16 0 u9]
  have u10 := ag_in_le u9 (sl82 16)
  refine u16_15 hx hb hT hown hG hW hS u10 (ag_refv (z := z) (p := p) (ag_new_0 j82) hW).symm (Or.inr (ag_new_0 j82)) hin rfl q803 dX6_init_84 (fun H locs hW hS => ?_)
  refine lv_aload_n hx hb dX6_init_87 rfl (lv_at hl 0 rfl) ?_
  refine lv_bipush (v := 40) hx hb dX6_init_88 (by decide) ?_
  obtain ⟨m90, hf⟩ := ag_n hf
  have j90 := Decidable.not_not.mp m90
  refine ag_newi (k := 46) (len := 40) hx hb hT hG h0 hS hW j90 rfl rfl (by decide) q882 (by decide) (by decide) (Nat.le_of_ble_eq_true rfl) (Nat.le_of_ble_eq_true rfl) dX6_init_90 (fun p H hp90 hW hS => ?_)
  have sl90 := (ag_le_nn ((ag_nn (ag_nn (ag_nn (ag_nn (ag_nn (ag_nn (ag_nn (ag_nn (ag_nn (ag_nn n 34) 35) 36) 38) 39) 40) 41) 42) 44) 45)) 46)
  have he90 := ag_ext_tr hl82 he82 hp90
  have hl90 := ag_le_tr hl82 sl90
  rw [← hp90 16 0 u10] at hl
  rw [← hp90 16 0 u10]
  have u11 := ag_in_le u10 (sl90 16)
  refine u16_16 hx hb hT hown hG hW hS u11 (ag_refv (z := z) (p := p) (ag_new_0 j90) hW).symm (Or.inr (ag_new_0 j90)) hin rfl q804 dX6_init_92 (fun H locs hW hS => ?_)
  refine lv_aload_n hx hb dX6_init_95 rfl (lv_at hl 0 rfl) ?_
  refine lv_bipush (v := 40) hx hb dX6_init_96 (by decide) ?_
  obtain ⟨m98, hf⟩ := ag_n hf
  have j98 := Decidable.not_not.mp m98
  refine ag_newi (k := 47) (len := 40) hx hb hT hG h0 hS hW j98 rfl rfl (by decide) q882 (by decide) (by decide) (Nat.le_of_ble_eq_true rfl) (Nat.le_of_ble_eq_true rfl) dX6_init_98 (fun p H hp98 hW hS => ?_)
  have sl98 := (ag_le_nn ((ag_nn (ag_nn (ag_nn (ag_nn (ag_nn (ag_nn (ag_nn (ag_nn (ag_nn (ag_nn (ag_nn n 34) 35) 36) 38) 39) 40) 41) 42) 44) 45) 46)) 47)
  have he98 := ag_ext_tr hl90 he90 hp98
  have hl98 := ag_le_tr hl90 sl98
  rw [← hp98 16 0 u11] at hl
  rw [← hp98 16 0 u11]
  have u12 := ag_in_le u11 (sl98 16)
  refine u16_17 hx hb hT hown hG hW hS u12 (ag_refv (z := z) (p := p) (ag_new_0 j98) hW).symm (Or.inr (ag_new_0 j98)) hin rfl q805 dX6_init_100 (fun H locs hW hS => ?_)
  refine lv_aload_n hx hb dX6_init_103 rfl (lv_at hl 0 rfl) ?_
  refine lv_bipush (v := 40) hx hb dX6_init_104 (by decide) ?_
  obtain ⟨m106, hf⟩ := ag_n hf
  have j106 := Decidable.not_not.mp m106
  refine ag_newi (k := 48) (len := 40) hx hb hT hG h0 hS hW j106 rfl rfl (by decide) q882 (by decide) (by decide) (Nat.le_of_ble_eq_true rfl) (Nat.le_of_ble_eq_true rfl) dX6_init_106 (fun p H hp106 hW hS => ?_)
  have sl106 := (ag_le_nn ((ag_nn (ag_nn (ag_nn (ag_nn (ag_nn (ag_nn (ag_nn (ag_nn (ag_nn (ag_nn (ag_nn (ag_nn n 34) 35) 36) 38) 39) 40) 41) 42) 44) 45) 46) 47)) 48)
  have he106 := ag_ext_tr hl98 he98 hp106
  have hl106 := ag_le_tr hl98 sl106
  rw [← hp106 16 0 u12] at hl
  rw [← hp106 16 0 u12]
  have u13 := ag_in_le u12 (sl106 16)
  refine u16_18 hx hb hT hown hG hW hS u13 (ag_refv (z := z) (p := p) (ag_new_0 j106) hW).symm (Or.inr (ag_new_0 j106)) hin rfl q806 dX6_init_108 (fun H locs hW hS => ?_)
  refine lv_aload_n hx hb dX6_init_111 rfl (lv_at hl 0 rfl) ?_
  refine lv_sipush (v := 360) hx hb dX6_init_112 (by decide) ?_
  obtain ⟨m115, hf⟩ := ag_n hf
  have j115 := Decidable.not_not.mp m115
  refine ag_newi (k := 49) (len := 360) hx hb hT hG h0 hS hW j115 rfl rfl (by decide) q882 (by decide) (by decide) (Nat.le_of_ble_eq_true rfl) (Nat.le_of_ble_eq_true rfl) dX6_init_115 (fun p H hp115 hW hS => ?_)
  have sl115 := (ag_le_nn ((ag_nn (ag_nn (ag_nn (ag_nn (ag_nn (ag_nn (ag_nn (ag_nn (ag_nn (ag_nn (ag_nn (ag_nn (ag_nn n 34) 35) 36) 38) 39) 40) 41) 42) 44) 45) 46) 47) 48)) 49)
  have he115 := ag_ext_tr hl106 he106 hp115
  have hl115 := ag_le_tr hl106 sl115
  rw [← hp115 16 0 u13] at hl
  rw [← hp115 16 0 u13]
  have u14 := ag_in_le u13 (sl115 16)
  refine u16_19 hx hb hT hown hG hW hS u14 (ag_refv (z := z) (p := p) (ag_new_0 j115) hW).symm (Or.inr (ag_new_0 j115)) hin rfl q807 dX6_init_117 (fun H locs hW hS => ?_)
  refine lv_aload_n hx hb dX6_init_120 rfl (lv_at hl 0 rfl) ?_
  refine lv_bipush (v := 40) hx hb dX6_init_121 (by decide) ?_
  obtain ⟨m123, hf⟩ := ag_n hf
  have j123 := Decidable.not_not.mp m123
  refine ag_newi (k := 51) (len := 40) hx hb hT hG h0 hS hW j123 rfl rfl (by decide) q882 (by decide) (by decide) (Nat.le_of_ble_eq_true rfl) (Nat.le_of_ble_eq_true rfl) dX6_init_123 (fun p H hp123 hW hS => ?_)
  have sl123 := (ag_le_nn ((ag_nn (ag_nn (ag_nn (ag_nn (ag_nn (ag_nn (ag_nn (ag_nn (ag_nn (ag_nn (ag_nn (ag_nn (ag_nn (ag_nn n 34) 35) 36) 38) 39) 40) 41) 42) 44) 45) 46) 47) 48) 49)) 51)
  have he123 := ag_ext_tr hl115 he115 hp123
  have hl123 := ag_le_tr hl115 sl123
  rw [← hp123 16 0 u14] at hl
  rw [← hp123 16 0 u14]
  have u15 := ag_in_le u14 (sl123 16)
  refine u16_21 hx hb hT hown hG hW hS u15 (ag_refv (z := z) (p := p) (ag_new_0 j123) hW).symm (Or.inr (ag_new_0 j123)) hin rfl q809 dX6_init_125 (fun H locs hW hS => ?_)
  refine lv_aload_n hx hb dX6_init_128 rfl (lv_at hl 0 rfl) ?_
  refine lv_bipush (v := 40) hx hb dX6_init_129 (by decide) ?_
  obtain ⟨m131, hf⟩ := ag_n hf
  have j131 := Decidable.not_not.mp m131
  refine ag_newi (k := 52) (len := 40) hx hb hT hG h0 hS hW j131 rfl rfl (by decide) q882 (by decide) (by decide) (Nat.le_of_ble_eq_true rfl) (Nat.le_of_ble_eq_true rfl) dX6_init_131 (fun p H hp131 hW hS => ?_)
  have sl131 := (ag_le_nn ((ag_nn (ag_nn (ag_nn (ag_nn (ag_nn (ag_nn (ag_nn (ag_nn (ag_nn (ag_nn (ag_nn (ag_nn (ag_nn (ag_nn (ag_nn n 34) 35) 36) 38) 39) 40) 41) 42) 44) 45) 46) 47) 48) 49) 51)) 52)
  have he131 := ag_ext_tr hl123 he123 hp131
  have hl131 := ag_le_tr hl123 sl131
  rw [← hp131 16 0 u15] at hl
  rw [← hp131 16 0 u15]
  have u16 := ag_in_le u15 (sl131 16)
  refine u16_22 hx hb hT hown hG hW hS u16 (ag_refv (z := z) (p := p) (ag_new_0 j131) hW).symm (Or.inr (ag_new_0 j131)) hin rfl q810 dX6_init_133 (fun H locs hW hS => ?_)
  refine lv_aload_n hx hb dX6_init_136 rfl (lv_at hl 0 rfl) ?_
  refine lv_bipush (v := 40) hx hb dX6_init_137 (by decide) ?_
  obtain ⟨m139, hf⟩ := ag_n hf
  have j139 := Decidable.not_not.mp m139
  refine ag_newi (k := 53) (len := 40) hx hb hT hG h0 hS hW j139 rfl rfl (by decide) q882 (by decide) (by decide) (Nat.le_of_ble_eq_true rfl) (Nat.le_of_ble_eq_true rfl) dX6_init_139 (fun p H hp139 hW hS => ?_)
  have sl139 := (ag_le_nn ((ag_nn (ag_nn (ag_nn (ag_nn (ag_nn (ag_nn (ag_nn (ag_nn (ag_nn (ag_nn (ag_nn (ag_nn (ag_nn (ag_nn (ag_nn (ag_nn n 34) 35) 36) 38) 39) 40) 41) 42) 44) 45) 46) 47) 48) 49) 51) 52)) 53)
  have he139 := ag_ext_tr hl131 he131 hp139
  have hl139 := ag_le_tr hl131 sl139
  rw [← hp139 16 0 u16] at hl
  rw [← hp139 16 0 u16]
  have u17 := ag_in_le u16 (sl139 16)
  refine u16_23 hx hb hT hown hG hW hS u17 (ag_refv (z := z) (p := p) (ag_new_0 j139) hW).symm (Or.inr (ag_new_0 j139)) hin rfl q811 dX6_init_141 (fun H locs hW hS => ?_)
  refine lv_aload_n hx hb dX6_init_144 rfl (lv_at hl 0 rfl) ?_
  refine lv_bipush (v := 40) hx hb dX6_init_145 (by decide) ?_
  obtain ⟨m147, hf⟩ := ag_n hf
  have j147 := Decidable.not_not.mp m147
  refine ag_newi (k := 54) (len := 40) hx hb hT hG h0 hS hW j147 rfl rfl (by decide) q882 (by decide) (by decide) (Nat.le_of_ble_eq_true rfl) (Nat.le_of_ble_eq_true rfl) dX6_init_147 (fun p H hp147 hW hS => ?_)
  have sl147 := (ag_le_nn ((ag_nn (ag_nn (ag_nn (ag_nn (ag_nn (ag_nn (ag_nn (ag_nn (ag_nn (ag_nn (ag_nn (ag_nn (ag_nn (ag_nn (ag_nn (ag_nn (ag_nn n 34) 35) 36) 38) 39) 40) 41) 42) 44) 45) 46) 47) 48) 49) 51) 52) 53)) 54)
  have he147 := ag_ext_tr hl139 he139 hp147
  have hl147 := ag_le_tr hl139 sl147
  rw [← hp147 16 0 u17] at hl
  rw [← hp147 16 0 u17]
  have u18 := ag_in_le u17 (sl147 16)
  refine u16_24 hx hb hT hown hG hW hS u18 (ag_refv (z := z) (p := p) (ag_new_0 j147) hW).symm (Or.inr (ag_new_0 j147)) hin rfl q812 dX6_init_149 (fun H locs hW hS => ?_)
  refine lv_aload_n hx hb dX6_init_152 rfl (lv_at hl 0 rfl) ?_
  refine lv_bipush (v := 40) hx hb dX6_init_153 (by decide) ?_
  obtain ⟨m155, hf⟩ := ag_n hf
  have j155 := Decidable.not_not.mp m155
  refine ag_newi (k := 55) (len := 40) hx hb hT hG h0 hS hW j155 rfl rfl (by decide) q882 (by decide) (by decide) (Nat.le_of_ble_eq_true rfl) (Nat.le_of_ble_eq_true rfl) dX6_init_155 (fun p H hp155 hW hS => ?_)
  have sl155 := (ag_le_nn ((ag_nn (ag_nn (ag_nn (ag_nn (ag_nn (ag_nn (ag_nn (ag_nn (ag_nn (ag_nn (ag_nn (ag_nn (ag_nn (ag_nn (ag_nn (ag_nn (ag_nn (ag_nn n 34) 35) 36) 38) 39) 40) 41) 42) 44) 45) 46) 47) 48) 49) 51) 52) 53) 54)) 55)
  have he155 := ag_ext_tr hl147 he147 hp155
  have hl155 := ag_le_tr hl147 sl155
  rw [← hp155 16 0 u18] at hl
  rw [← hp155 16 0 u18]
  have u19 := ag_in_le u18 (sl155 16)
  refine u16_25 hx hb hT hown hG hW hS u19 (ag_refv (z := z) (p := p) (ag_new_0 j155) hW).symm (Or.inr (ag_new_0 j155)) hin rfl q813 dX6_init_157 (fun H locs hW hS => ?_)
  refine lv_aload_n hx hb dX6_init_160 rfl (lv_at hl 0 rfl) ?_
  refine lv_bipush (v := 40) hx hb dX6_init_161 (by decide) ?_
  obtain ⟨m163, hf⟩ := ag_n hf
  have j163 := Decidable.not_not.mp m163
  refine ag_newi (k := 56) (len := 40) hx hb hT hG h0 hS hW j163 rfl rfl (by decide) q882 (by decide) (by decide) (Nat.le_of_ble_eq_true rfl) (Nat.le_of_ble_eq_true rfl) dX6_init_163 (fun p H hp163 hW hS => ?_)
  have sl163 := (ag_le_nn ((ag_nn (ag_nn (ag_nn (ag_nn (ag_nn (ag_nn (ag_nn (ag_nn (ag_nn (ag_nn (ag_nn (ag_nn (ag_nn (ag_nn (ag_nn (ag_nn (ag_nn (ag_nn (ag_nn n 34) 35) 36) 38) 39) 40) 41) 42) 44) 45) 46) 47) 48) 49) 51) 52) 53) 54) 55)) 56)
  have he163 := ag_ext_tr hl155 he155 hp163
  have hl163 := ag_le_tr hl155 sl163
  rw [← hp163 16 0 u19] at hl
  rw [← hp163 16 0 u19]
  have u20 := ag_in_le u19 (sl163 16)
  refine u16_26 hx hb hT hown hG hW hS u20 (ag_refv (z := z) (p := p) (ag_new_0 j163) hW).symm (Or.inr (ag_new_0 j163)) hin rfl q814 dX6_init_165 (fun H locs hW hS => ?_)
  refine lv_aload_n hx hb dX6_init_168 rfl (lv_at hl 0 rfl) ?_
  refine lv_bipush (v := 40) hx hb dX6_init_169 (by decide) ?_
  obtain ⟨m171, hf⟩ := ag_n hf
  have j171 := Decidable.not_not.mp m171
  refine ag_newi (k := 57) (len := 40) hx hb hT hG h0 hS hW j171 rfl rfl (by decide) q882 (by decide) (by decide) (Nat.le_of_ble_eq_true rfl) (Nat.le_of_ble_eq_true rfl) dX6_init_171 (fun p H hp171 hW hS => ?_)
  have sl171 := (ag_le_nn ((ag_nn (ag_nn (ag_nn (ag_nn (ag_nn (ag_nn (ag_nn (ag_nn (ag_nn (ag_nn (ag_nn (ag_nn (ag_nn (ag_nn (ag_nn (ag_nn (ag_nn (ag_nn (ag_nn (ag_nn n 34) 35) 36) 38) 39) 40) 41) 42) 44) 45) 46) 47) 48) 49) 51) 52) 53) 54) 55) 56)) 57)
  have he171 := ag_ext_tr hl163 he163 hp171
  have hl171 := ag_le_tr hl163 sl171
  rw [← hp171 16 0 u20] at hl
  rw [← hp171 16 0 u20]
  have u21 := ag_in_le u20 (sl171 16)
  refine u16_27 hx hb hT hown hG hW hS u21 (ag_refv (z := z) (p := p) (ag_new_0 j171) hW).symm (Or.inr (ag_new_0 j171)) hin rfl q815 dX6_init_173 (fun H locs hW hS => ?_)
  refine lv_aload_n hx hb dX6_init_176 rfl (lv_at hl 0 rfl) ?_
  refine lv_bipush (v := 40) hx hb dX6_init_177 (by decide) ?_
  obtain ⟨m179, hf⟩ := ag_n hf
  have j179 := Decidable.not_not.mp m179
  refine ag_newz (k := 58) (len := 40) hx hb hT hG h0 hS hW j179 rfl rfl (by decide) q883 (by decide) (by decide) (Nat.le_of_ble_eq_true rfl) (Nat.le_of_ble_eq_true rfl) dX6_init_179 (fun p H hp179 hW hS => ?_)
  have sl179 := (ag_le_nn ((ag_nn (ag_nn (ag_nn (ag_nn (ag_nn (ag_nn (ag_nn (ag_nn (ag_nn (ag_nn (ag_nn (ag_nn (ag_nn (ag_nn (ag_nn (ag_nn (ag_nn (ag_nn (ag_nn (ag_nn (ag_nn n 34) 35) 36) 38) 39) 40) 41) 42) 44) 45) 46) 47) 48) 49) 51) 52) 53) 54) 55) 56) 57)) 58)
  have he179 := ag_ext_tr hl171 he171 hp179
  have hl179 := ag_le_tr hl171 sl179
  rw [← hp179 16 0 u21] at hl
  rw [← hp179 16 0 u21]
  have u22 := ag_in_le u21 (sl179 16)
  refine u16_28 hx hb hT hown hG hW hS u22 (ag_refv (z := z) (p := p) (ag_new_0 j179) hW).symm (Or.inr (ag_new_0 j179)) hin rfl q816 dX6_init_181 (fun H locs hW hS => ?_)
  refine lv_aload_n hx hb dX6_init_184 rfl (lv_at hl 0 rfl) ?_
  refine lv_bipush (v := 40) hx hb dX6_init_185 (by decide) ?_
  obtain ⟨m187, hf⟩ := ag_n hf
  have j187 := Decidable.not_not.mp m187
  refine ag_newi (k := 59) (len := 40) hx hb hT hG h0 hS hW j187 rfl rfl (by decide) q882 (by decide) (by decide) (Nat.le_of_ble_eq_true rfl) (Nat.le_of_ble_eq_true rfl) dX6_init_187 (fun p H hp187 hW hS => ?_)
  have sl187 := (ag_le_nn ((ag_nn (ag_nn (ag_nn (ag_nn (ag_nn (ag_nn (ag_nn (ag_nn (ag_nn (ag_nn (ag_nn (ag_nn (ag_nn (ag_nn (ag_nn (ag_nn (ag_nn (ag_nn (ag_nn (ag_nn (ag_nn (ag_nn n 34) 35) 36) 38) 39) 40) 41) 42) 44) 45) 46) 47) 48) 49) 51) 52) 53) 54) 55) 56) 57) 58)) 59)
  have he187 := ag_ext_tr hl179 he179 hp187
  have hl187 := ag_le_tr hl179 sl187
  rw [← hp187 16 0 u22] at hl
  rw [← hp187 16 0 u22]
  have u23 := ag_in_le u22 (sl187 16)
  refine u16_29 hx hb hT hown hG hW hS u23 (ag_refv (z := z) (p := p) (ag_new_0 j187) hW).symm (Or.inr (ag_new_0 j187)) hin rfl q817 dX6_init_189 (fun H locs hW hS => ?_)
  refine lv_aload_n hx hb dX6_init_192 rfl (lv_at hl 0 rfl) ?_
  refine lv_bipush (v := 40) hx hb dX6_init_193 (by decide) ?_
  obtain ⟨m195, hf⟩ := ag_n hf
  have j195 := Decidable.not_not.mp m195
  refine ag_newz (k := 60) (len := 40) hx hb hT hG h0 hS hW j195 rfl rfl (by decide) q883 (by decide) (by decide) (Nat.le_of_ble_eq_true rfl) (Nat.le_of_ble_eq_true rfl) dX6_init_195 (fun p H hp195 hW hS => ?_)
  have sl195 := (ag_le_nn ((ag_nn (ag_nn (ag_nn (ag_nn (ag_nn (ag_nn (ag_nn (ag_nn (ag_nn (ag_nn (ag_nn (ag_nn (ag_nn (ag_nn (ag_nn (ag_nn (ag_nn (ag_nn (ag_nn (ag_nn (ag_nn (ag_nn (ag_nn n 34) 35) 36) 38) 39) 40) 41) 42) 44) 45) 46) 47) 48) 49) 51) 52) 53) 54) 55) 56) 57) 58) 59)) 60)
  have he195 := ag_ext_tr hl187 he187 hp195
  have hl195 := ag_le_tr hl187 sl195
  rw [← hp195 16 0 u23] at hl
  rw [← hp195 16 0 u23]
  have u24 := ag_in_le u23 (sl195 16)
  refine u16_30 hx hb hT hown hG hW hS u24 (ag_refv (z := z) (p := p) (ag_new_0 j195) hW).symm (Or.inr (ag_new_0 j195)) hin rfl q818 dX6_init_197 (fun H locs hW hS => ?_)
  refine W.widen (k := 24) (n := 1100) (Nat.le_of_ble_eq_true rfl) (Nat.le_of_ble_eq_true rfl) ?_
  exact ag_Pvret hx hb hr hlocks hS hf he195 hl195 hW dX6_init_200
