theorem ag_cat (r : Option Nat) : (va_rf r).category = 1 := by cases r <;> rfl
theorem ag_entry (m : MethodId) (vs : List Value) {k : Nat} (h : (lg_sl vs).length ≤ k) : ∃ ls, entryFrame m vs.toArray k = F0 m 0 ls [] ∧ lv_has ls k (lv_args 0 vs) := ⟨_, lg_entry_eq m vs k, lv_entry vs h⟩
theorem ag_refq {z : ag_Z} {n : ag_N} {p : ag_P} {t : Nat} {v : Int32} (h : ag_ok n t v) (hn : ¬ v = -1) : va_rf (ag_ro z p t v) = .ref (p t v) := by rw [(ag_ref (z := z) (p := p) h hn).1]; rfl
theorem ag_refv {z : ag_Z} {n : ag_N} {p : ag_P} {s : ag_S} {H : Heap} {t : Nat} {v : Int32} (h : vp_in v (n t)) (_ : ag_W z n p s H) : va_rf (ag_ro z p t v) = .ref (p t v) := ag_refq (Or.inr h) (fun q => h (Or.inl (by rw [q]; decide)))
theorem ag_0in {N : Nat} (h : 0 < N) : vp_in 0 N := by
  intro q
  rcases q with q | q
  · exact absurd q (by decide)
  · have : (0 : Int32).toNatClampNeg = 0 := by decide
    omega
theorem ag_in0 {i : Int32} {N : Nat} (h : vp_in i N) : 0 < N := by
  rcases Nat.eq_zero_or_pos N with q | q
  · exact absurd (Or.inr (by omega)) h
  · exact q
theorem ag_fix {z : ag_Z} {n : ag_N} {p : ag_P} {s : ag_S} {H : Heap} (hW : ag_W z n p s H) {k f t ci : Nat} {i : Int32} {ts : List (Nat × Nat)} (h : vp_in i (n k)) (hod : ag_od k = some (ci, ts)) (hf : ts[f]? = some (2, t)) : vp_in 0 (n t) := ag_0in (hW.2.2.1.2.2 k ci ts f t hod hf (ag_in0 h))
theorem ag_nb {x : Int32} (h : x = 0 ∨ x = 1) : narrow .boolean (.int x) = .int x ∧ fits .boolean (.int x) = true := by
  rcases h with rfl | rfl <;> exact ⟨rfl, rfl⟩
theorem ag_tab (hi : Nat) {x : Int32} (h : ∀ j : Nat, j ≤ hi → ¬ x = nI j) : x.toInt < ((0 : Nat) : Int) ∨ ((hi : Nat) : Int) < x.toInt := by
  rcases Int.lt_or_le x.toInt 0 with q | q
  · exact Or.inl q
  · refine Or.inr (Int.not_le.mp fun q2 => ?_)
    have h0 : ¬ x < 0 := fun q3 => by
      have := Int32.lt_iff_toInt_lt.mp q3
      have e0 : (0 : Int32).toInt = 0 := by decide
      omega
    obtain ⟨j, hj, e⟩ := nI_of h0
    have e2 := nI_toInt hj
    rw [← e] at e2
    exact h j (by omega) e
section AG2
variable {p0 : Program} {l : Launch} {e : Env} {R : Room} {st : State} {m : MethodId} {args : Array Value} {below : List Frame} {meth : Method} {c : Code} {H : Heap} {locs : List Loc} {cells slots : Nat} {Q : State → Prop}
variable {cc : ByteArray} {pc : Nat} {ls : Array Slot} {rest : List Value} {z : ag_Z} {n : ag_N} {p : ag_P} {s : ag_S}
theorem ag_cast {own C : String} {k ci N index : Nat} {i : Int32} {ts : List (Nat × Nat)} {T : u_T} (hx : p0.tables.exec = Jvm.exec) (hb : c.code = cc) (hown : st.vm.findClass own = some m.cls) (hG : ag_G z st st.heap) (hW : ag_W z n p s H) (hi : vp_in i (n k)) (hod : ag_od k = some (ci, ts)) (hcl : vwCl[ci]? = some (C, T, N)) (hlink : (Cond.classLink own index C).before args st = true) (hdg : decode cc pc = .ok (.checkcast index, 3))
    (kk : W p0 l e R st m args below meth c H locs cells slots Q (F0 m (pc + 3) ls (.ref (p k i) :: rest))) : W p0 l e R st m args below meth c H locs cells slots Q (F0 m pc ls (.ref (p k i) :: rest)) :=
  va_castS hx hb hown hlink (hG.1.1 ci _ hcl).2 (ag_recv hG hW hi hod hcl) hdg kk
theorem ag_eqrr {t : Nat} {v w : Int32} (hW : ag_W z n p s H) (hv : vp_in v (n t)) (hw : vp_in w (n t)) : p t v = p t w ↔ v = w := ⟨fun h => (hW.2.1 t v t w hv hw h).2, fun h => by rw [h]⟩
theorem ag_acmr_eq {t : Nat} {v w : Int32} {off : Int} {tgt : Nat} (hx : p0.tables.exec = Jvm.exec) (hb : c.code = cc) (hW : ag_W z n p s H) (hv : vp_in v (n t)) (hw : vp_in w (n t)) (hdg : decode cc pc = .ok (.if_acmp .eq off, 3)) (ht : (pc : Int) + off = (tgt : Int))
    (kt : v = w → W p0 l e R st m args below meth c H locs cells slots Q (F0 m tgt ls rest)) (kf : ¬ v = w → W p0 l e R st m args below meth c H locs cells slots Q (F0 m (pc + 3) ls rest)) : W p0 l e R st m args below meth c H locs cells slots Q (F0 m pc ls (.ref (p t w) :: .ref (p t v) :: rest)) :=
  lv_acmp_eq (rx := some (p t v)) (ry := some (p t w)) hx hb hdg ht (fun h => kt ((ag_eqrr hW hv hw).mp (Option.some.inj h))) (fun h => kf (fun q => h (congrArg some ((ag_eqrr hW hv hw).mpr q))))
theorem ag_acmr_ne {t : Nat} {v w : Int32} {off : Int} {tgt : Nat} (hx : p0.tables.exec = Jvm.exec) (hb : c.code = cc) (hW : ag_W z n p s H) (hv : vp_in v (n t)) (hw : vp_in w (n t)) (hdg : decode cc pc = .ok (.if_acmp .ne off, 3)) (ht : (pc : Int) + off = (tgt : Int))
    (kt : ¬ v = w → W p0 l e R st m args below meth c H locs cells slots Q (F0 m tgt ls rest)) (kf : v = w → W p0 l e R st m args below meth c H locs cells slots Q (F0 m (pc + 3) ls rest)) : W p0 l e R st m args below meth c H locs cells slots Q (F0 m pc ls (.ref (p t w) :: .ref (p t v) :: rest)) :=
  lv_acmp_ne (rx := some (p t v)) (ry := some (p t w)) hx hb hdg ht (fun h => kt (fun q => h (congrArg some ((ag_eqrr hW hv hw).mpr q)))) (fun h => kf ((ag_eqrr hW hv hw).mp (Option.some.inj h)))
theorem ag_aald {k j k6 d : Nat} {w i : Int32} (hx : p0.tables.exec = Jvm.exec) (hb : c.code = cc) (hG : ag_G z st st.heap) (hW : ag_W z n p s H) (hv : vp_in w (n k)) (hod : ag_od k = none) (had : ag_ad k = (3, d)) (hkj : k - 20 = j) (hk6 : k + 60 = k6) (hi : vp_in i (s k6 0 w).toNatClampNeg) (hdg : decode cc pc = .ok (.aaload, 1))
    (kk : W p0 l e R st m args below meth c H locs cells slots Q (F0 m (pc + 1) ls (va_rf (ag_ro z p j (s k w.toNatClampNeg i)) :: rest))) : W p0 l e R st m args below meth c H locs cells slots Q (F0 m pc ls (.int i :: .ref (p k w) :: rest)) := by
  subst hkj
  subst hk6
  have hP := ag_one hW hv
  rw [ag_cell_ad hod] at hP
  have ha : ag_arr z p s k w = (z.2.1 3, (s (k + 60) 0 w).toNatClampNeg, .inr (.inr (.inr (.inr (fun q => ag_ro z p (k - 20) (s k w.toNatClampNeg (nI q))))))) := by unfold ag_arr; rw [had]; rfl
  rw [ha] at hP
  refine va_aldq hx hb hG.1 hP 0 3 rfl rfl hi hdg ?_
  rw [ag_nI hi]
  exact kk
theorem ag_alen {k k6 d : Nat} {w : Int32} (hx : p0.tables.exec = Jvm.exec) (hb : c.code = cc) (hG : ag_G z st st.heap) (hW : ag_W z n p s H) (hv : vp_in w (n k)) (hod : ag_od k = none) (had : ag_ad k = (3, d)) (hk6 : k + 60 = k6) (hdg : decode cc pc = .ok (.arraylength, 1))
    (kk : W p0 l e R st m args below meth c H locs cells slots Q (F0 m (pc + 1) ls (.int (nI (s k6 0 w).toNatClampNeg) :: rest))) : W p0 l e R st m args below meth c H locs cells slots Q (F0 m pc ls (.ref (p k w) :: rest)) := by
  subst hk6
  have hP := ag_one hW hv
  rw [ag_cell_ad hod] at hP
  have ha : ag_arr z p s k w = (z.2.1 3, (s (k + 60) 0 w).toNatClampNeg, .inr (.inr (.inr (.inr (fun q => ag_ro z p (k - 20) (s k w.toNatClampNeg (nI q))))))) := by unfold ag_arr; rw [had]; rfl
  rw [ha] at hP
  exact va_alen hx hb hG.1 hP 0 3 rfl rfl rfl hdg kk
end AG2
/-- a list's array, when it has one of its own -/
theorem ag_lref {z : ag_Z} {n : ag_N} {p : ag_P} {s : ag_S} {H : Heap} (hW : ag_W z n p s H) {k ci f t : Nat} {ts : List (Nat × Nat)} {i : Int32} (hod : ag_od k = some (ci, ts)) (hf : ts[f]? = some (1, t)) (hn : ¬ (s k f i = -1 ∨ s k f i = -2)) : va_rf (ag_ro z p t (s k f i)) = .ref (p t (s k f i)) ∧ vp_in (s k f i) (n t) := by
  rcases hW.2.2.1.1 k ci ts f t hod hf i with h | ⟨-, h⟩
  · exact ⟨ag_refq h (fun q => hn (Or.inl q)), (ag_ref (z := z) (p := p) h (fun q => hn (Or.inl q))).2⟩
  · exact absurd (Or.inr h) hn
theorem ag_W.okl {z : ag_Z} {n : ag_N} {p : ag_P} {s : ag_S} {H : Heap} (hW : ag_W z n p s H) {k j : Nat} (hj : j < 5) (hk : 20 + j = k) (f : Nat) (i : Int32) : ag_ok n j (s k f i) := by
  subst hk
  exact hW.2.2.1.2.1 j hj f i
