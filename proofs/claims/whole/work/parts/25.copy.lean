/-! ===== a list array's copy ===== -/
/-- the first c places of column m0 laid into column m -/
def ag_sc (s : ag_S) (k m0 m c : Nat) : ag_S := fun k' f' i' => if k' = k ∧ f' = m ∧ ¬ i' < 0 ∧ i'.toNatClampNeg < c then s k m0 i' else s k' f' i'
theorem ag_W_col {z : ag_Z} {n : ag_N} {p : ag_P} {s s' : ag_S} {H H1 : Heap} {k j : Nat} {w : Int32} (hW : ag_W z n p s H) (hkj : k = 20 + j) (hj : j < 5) (hv : vp_in w (n k)) (hs : ∀ k' f' i', ¬ (k' = k ∧ f' = w.toNatClampNeg) → s' k' f' i' = s k' f' i') (hok : ∀ i, ag_ok n j (s' k w.toNatClampNeg i)) (e1 : H1[p k w]? = some (vp_cell (ag_arr z p s' k w).1 (ag_arr z p s' k w).2)) (oq : ∀ q : Nat, q ≠ p k w → H1[q]? = H[q]?) : ag_W z n p s' H1 := by
  obtain ⟨had, hod9⟩ := ag_ad20 hkj hj
  obtain ⟨h1, h2, h3, h4⟩ := hW
  refine ⟨fun k' i' hi' => ?_, h2, ⟨fun k' ci' ts' f' t' a1 a2 i' => ?_, fun j' hj' f' i' => ?_, h3.2.2⟩, h4⟩
  · by_cases e9 : k' = k ∧ i' = w
    · obtain ⟨rfl, rfl⟩ := e9
      refine ⟨?_, (h1 _ _ hi').2⟩
      rw [ag_cell_ad hod9]
      exact e1
    · have hne : p k' i' ≠ p k w := fun q => e9 (h2 _ _ _ _ hi' hv q)
      obtain ⟨g1, g2⟩ := h1 k' i' hi'
      refine ⟨?_, g2⟩
      have hcell : ag_cell z p s' k' i' = ag_cell z p s k' i' := by
        cases ho : ag_od k' with
        | some q =>
          obtain ⟨ci', ts'⟩ := q
          have h20 := ag_od_lt ho
          have hz : ∀ f' i2, s' k' f' i2 = s k' f' i2 := fun f' i2 => hs _ _ _ (by omega)
          rw [ag_cell_od ho, ag_cell_od ho]
          simp only [hz]
        | none =>
          have hz : ∀ i2, s' k' i'.toNatClampNeg i2 = s k' i'.toNatClampNeg i2 := fun i2 => hs _ _ _ (fun q => e9 ⟨q.1, by
            have a1 := ag_nI hi'
            have a2 := ag_nI hv
            rw [q.2] at a1
            exact a1.symm.trans a2⟩)
          have hz2 : s' (k' + 60) 0 i' = s (k' + 60) 0 i' := hs _ _ _ (by
            intro q
            have h61 := h4 k'
            have : k' = k - 60 := by omega
            omega)
          rw [ag_cell_ad ho, ag_cell_ad ho]
          unfold ag_arr
          simp only [hz, hz2]
      rw [hcell]
      exact g1.kept (oq _ hne)
  · have h20 := ag_od_lt a1
    rw [hs _ _ _ (by omega)]
    exact h3.1 k' ci' ts' f' t' a1 a2 i'
  · by_cases e9 : 20 + j' = k ∧ f' = w.toNatClampNeg
    · obtain ⟨a1, rfl⟩ := e9
      have : j' = j := by omega
      subst this
      rw [a1]
      exact hok i'
    · rw [hs _ _ _ e9]
      exact h3.2.1 j' hj' f' i'
theorem ag_nnI {z : Int32} (hz : ¬ z < 0) : z.toInt = (z.toNatClampNeg : Int) := by
  have hz0 : (0 : Int) ≤ z.toInt := by
    have := Int32.not_lt.mp hz
    simpa using Int32.le_iff_toInt_le.mp this
  show z.toInt = ((z.toInt.toNat : Nat) : Int)
  omega
theorem ag_z0 : (0 : Int32).toNatClampNeg = 0 := by decide
theorem ag_zn : ¬ (0 : Int32) < 0 := by decide
theorem ag_q1000 {L q : Nat} (hq : q < L) (hL : L ≤ 1000) : (nI q).toNatClampNeg = q ∧ ¬ nI q < 0 := ⟨nI_clamp (ag_1000 (Nat.le_trans (Nat.le_of_lt hq) hL)), fun h => (vp_in_nI hq (ag_1000 hL)) (Or.inl h)⟩
section AGCP
variable {p0 : Program} {l : Launch} {e : Env} {R : Room} {st : State} {m : MethodId} {args : Array Value} {below : List Frame} {meth : Method} {c : Code} {H : Heap} {locs : List Loc} {cells slots : Nat} {Q : State → Prop}
variable {cc : ByteArray} {pc nL : Nat} {ls : Array Slot} {rest : List Value} {z : ag_Z} {n : ag_N} {p : ag_P} {s : ag_S}
theorem ag_copy1 {own : String} {index a0 a : Nat} {A : Nat → Prop} {H0 : Heap} {cA n0 n1 : Nat} {f g : Nat → Option Nat} {cnt s0 d0 : Int32} (hx : p0.tables.exec = Jvm.exec) (hb : c.code = cc) (hml : c.maxLocals = ls.size) (hown : st.vm.findClass own = some m.cls) (hS : va_S A H0 H locs) (hA : A a) (hlink : (Cond.methodLink own index arraycopyName).before args st = true) (hnat : (Cond.native arraycopyName).before args st = true) (hstat : (Cond.static arraycopyName).before args st = true) (hini : (Cond.initialized "java/lang/System").before args st = true)
    (hs0 : s0.toNatClampNeg = 0 ∧ ¬ s0 < 0) (hd0 : d0.toNatClampNeg = 0 ∧ ¬ d0 < 0) {k0 : Class} {comp : ClassId} {E : String} (hk0 : st.vm.classes[cA]? = some k0) (hkk0 : k0.kind = .array comp (.object E))
    (hc0 : H[a0]? = some (vp_cell cA (n0, .inr (.inr (.inr (.inr f)))))) (hc1 : H[a]? = some (vp_cell cA (n1, .inr (.inr (.inr (.inr g)))))) (h3 : ¬ cnt < 0) (h4 : cnt.toNatClampNeg ≤ n0) (h5 : cnt.toNatClampNeg ≤ n1) (hel : ∀ i : Nat, i < cnt.toNatClampNeg → ∀ y : Nat, f i = some y → ∃ cellV : Cell, H[y]? = some cellV ∧ cellV.vm.isStatics = false ∧ (∃ kC : Class, st.vm.classes[cellV.cls]? = some kC) ∧ (∃ kE : Class, st.vm.classes[comp]? = some kE) ∧ st.vm.assignable cellV.cls comp = true)
    (hframes : 1 ≤ R.frames) (hlocals : (rest.map fun v => v.category).sum + (nativeFrameWords "java/lang/System" "arraycopy" 5 + 11) ≤ R.locals) (hdg : decode cc pc = .ok (.invokestatic index, 3))
    (kk : ∀ (H1 : Heap) (locs1 : List Loc), H1[a]? = some (vp_cell cA (n1, .inr (.inr (.inr (.inr (va_cpy f g 0 0 cnt.toNatClampNeg)))))) → (∀ q : Nat, q ≠ a → H1[q]? = H[q]?) → va_S A H0 H1 locs1 → W p0 l e R st m args below meth c H1 locs1 cells slots Q (F0 m (pc + 3) ls rest)) : W p0 l e R st m args below meth c H locs cells slots Q (F0 m pc ls (.int cnt :: .int d0 :: .ref a :: .int s0 :: .ref a0 :: rest)) := by
  intro T hT X
  obtain ⟨vm', X', step⟩ := X.arraycopy hx hown hlink hnat hstat hini (src := a0) (dst := a) (cs := vp_cell cA (n0, .inr (.inr (.inr (.inr f))))) (cd := vp_cell cA (n1, .inr (.inr (.inr (.inr g))))) (srcPos := s0) (destPos := d0) (n := cnt) (by rw [hT]; exact hc0) (by rw [hT]; exact hc1)
    (fun _ h => by cases h) (fun _ h => by cases h) (fun h => by cases h) (fun h => by cases h) hk0 hk0 hkk0 hkk0 rfl hs0.2 hd0.2 h3
    (by rw [ag_nnI hs0.2, ag_nnI h3]; show ¬ _ > ((arrV cA n0 (fun j => va_rf (f j))).slots.size : Int); rw [arrV_size]; have := hs0.1
        omega)
    (by rw [ag_nnI hd0.2, ag_nnI h3]; show ¬ _ > ((arrV cA n1 (fun j => va_rf (g j))).slots.size : Int); rw [arrV_size]; have := hd0.1
        omega)
    (fun vm₁ hal i hi => by
      have e : (vp_cell cA (n0, .inr (.inr (.inr (.inr f))))).slots.getD (s0.toNatClampNeg + i) .null = va_rf (f i) := by
        show (arrV cA n0 (fun j => va_rf (f j))).slots.getD _ _ = _
        rw [hs0.1, Nat.zero_add, Array.getD_eq_getD_getElem?, arrV_read _ _ (by omega)]
        rfl
      rw [e]
      cases hy : f i with
      | none => exact ⟨rfl, trivial⟩
      | some y =>
        obtain ⟨cellV, g1, g2, ⟨kC, hkC⟩, ⟨kE, hkE⟩, hasg⟩ := hel i hi y hy
        obtain ⟨kC', hkC', -⟩ := hal.2.2 _ _ hkC
        obtain ⟨kE', hkE', -⟩ := hal.2.2 _ _ hkE
        refine ⟨rfl, cellV, (show T.heap[y]? = some cellV by rw [hT]; exact g1), (fun q h => by rw [h] at g2; cases g2), ⟨kC', hkC'⟩, ⟨kE', hkE'⟩, ?_⟩
        show vm₁.assignable _ _ = true
        rw [hal.assignable]
        exact hasg)
    (g := F0 m pc ls (.int cnt :: .int d0 :: .ref a :: .int s0 :: .ref a0 :: rest)) rfl (by rw [hml]) (rest := rest) rfl (by rw [hb]; exact hdg) hframes (by show 2 * 0 + _ + _ ≤ _; omega)
  have e1 : copied (vp_cell cA (n0, .inr (.inr (.inr (.inr f))))) (vp_cell cA (n1, .inr (.inr (.inr (.inr g))))) s0 d0 cnt = vp_cell cA (n1, .inr (.inr (.inr (.inr (va_cpy f g 0 0 cnt.toNatClampNeg))))) := by
    rw [vp_cell_q, vp_cell_q, vp_cell_q]
    have e2 := va_copied (fun z => va_rf z) cA cA (n0 := n0) (n1 := n1) (sp := s0.toNatClampNeg) (dp := d0.toNatClampNeg) (n := cnt.toNatClampNeg) f g (by rw [hs0.1]; omega)
    refine (Eq.trans ?_ e2).trans ?_
    · rfl
    · rw [hs0.1, hd0.1]
  rw [e1] at X' step
  have hl : a < H.size := (Array.getElem?_eq_some_iff.mp hc1).1
  generalize vp_cell cA (n1, .inr (.inr (.inr (.inr (va_cpy f g 0 0 cnt.toNatClampNeg))))) = cd at X' step kk
  have hheap : ((T.setVm vm').setCell a cd).heap = H.setIfInBounds a cd := by rw [← hT]; rfl
  have oq : ∀ q : Nat, q ≠ a → (H.setIfInBounds a cd)[q]? = H[q]? := fun q hq => by simp [Array.getElem?_setIfInBounds, Ne.symm hq]
  obtain ⟨t, a1, b1⟩ := kk _ _ (by simp [Array.getElem?_setIfInBounds, hl]) oq ⟨by simp; exact hS.1, fun q g1 g2 => by
      rw [oq q (fun e => g2 (by rw [e]; exact hA))]
      exact hS.2.1 q g1 g2, fun q hq => by
      rcases List.mem_append.mp hq with h | h
      · exact hS.2.2 q h
      · obtain ⟨z, -, hz⟩ := List.mem_map.mp h
        rw [← hz]
        exact hA⟩ _ hheap X'
  exact ⟨t, step t a1, b1⟩
theorem ag_copy {own : String} {index k j k6 ci N : Nat} {ts : List (Nat × Nat)} {C : String} {T : u_T} {w0 w cnt s0 d0 : Int32} (hs0 : s0.toNatClampNeg = 0 ∧ ¬ s0 < 0) (hd0 : d0.toNatClampNeg = 0 ∧ ¬ d0 < 0) (hx : p0.tables.exec = Jvm.exec) (hb : c.code = cc) (hml : c.maxLocals = nL) (hls : ls.size = nL) (hT : ∀ w ∈ ag_tbl, w.before args st = true) (hown : st.vm.findClass own = some m.cls) (hG : ag_G z st st.heap) (hS : va_S (ag_A z) st.heap H locs) (hW : ag_W z n p s H) (hlink : Cond.methodLink own index arraycopyName ∈ ag_tbl) (hnat : Cond.native arraycopyName ∈ ag_tbl) (hstat : Cond.static arraycopyName ∈ ag_tbl) (hini : Cond.initialized "java/lang/System" ∈ ag_tbl)
    (hkj : k = 20 + j) (hj : j < 5) (hk6 : k + 60 = k6) (hv0 : vp_in w0 (n k)) (hv : vp_in w (n k)) (hg : ¬ (cnt < 0 ∨ (s k6 0 w0).toNatClampNeg < cnt.toNatClampNeg ∨ (s k6 0 w).toNatClampNeg < cnt.toNatClampNeg)) (hl1 : (s k6 0 w).toNatClampNeg ≤ 1000) (hod : ag_od j = some (ci, ts)) (hcl : vwCl[ci]? = some (C, T, N)) (hc : Cond.castable C "java/lang/Object" ∈ ag_xw)
    (hframes : 1 ≤ R.frames) (hlocals : (rest.map fun v => v.category).sum + (nativeFrameWords "java/lang/System" "arraycopy" 5 + 11) ≤ R.locals) (hdg : decode cc pc = .ok (.invokestatic index, 3))
    (kk : ∀ (H1 : Heap) (locs1 : List Loc), ag_W z n p (ag_sc s k w0.toNatClampNeg w.toNatClampNeg cnt.toNatClampNeg) H1 → va_S (ag_A z) st.heap H1 locs1 → W p0 l e R st m args below meth c H1 locs1 cells slots Q (F0 m (pc + 3) ls rest)) : W p0 l e R st m args below meth c H locs cells slots Q (F0 m pc ls (.int cnt :: .int d0 :: .ref (p k w) :: .int s0 :: .ref (p k w0) :: rest)) := by
  subst hk6
  obtain ⟨had, hod9⟩ := ag_ad20 hkj hj
  have hkj2 : k - 20 = j := by omega
  have ha : ∀ (s : ag_S) w, ag_arr z p s k w = (z.2.1 3, (s (k + 60) 0 w).toNatClampNeg, .inr (.inr (.inr (.inr (fun q => ag_ro z p j (s k w.toNatClampNeg (nI q))))))) := by
    intro s w
    subst hkj2
    unfold ag_arr
    rw [had]
    rfl
  have hc0 := (hW.1 k w0 hv0).1
  have hc1 := (hW.1 k w hv).1
  rw [ag_cell_ad hod9, ha] at hc0 hc1
  have hc0 : H[p k w0]? = some (vp_cell (z.2.1 3) ((s (k + 60) 0 w0).toNatClampNeg, .inr (.inr (.inr (.inr (fun q => ag_ro z p j (s k w0.toNatClampNeg (nI q)))))))) := hc0
  have hc1 : H[p k w]? = some (vp_cell (z.2.1 3) ((s (k + 60) 0 w).toNatClampNeg, .inr (.inr (.inr (.inr (fun q => ag_ro z p j (s k w.toNatClampNeg (nI q)))))))) := hc1
  have h3 : ¬ cnt < 0 := fun q => hg (Or.inl q)
  have h4 : cnt.toNatClampNeg ≤ (s (k + 60) 0 w0).toNatClampNeg := Nat.not_lt.mp fun q => hg (Or.inr (Or.inl q))
  have h5 : cnt.toNatClampNeg ≤ (s (k + 60) 0 w).toNatClampNeg := Nat.not_lt.mp fun q => hg (Or.inr (Or.inr q))
  have h1000 : (s (k + 60) 0 w).toNatClampNeg ≤ 1000 := hl1
  have n1000 : ∀ q, q < (s (k + 60) 0 w).toNatClampNeg → (nI q).toNatClampNeg = q ∧ ¬ nI q < 0 := fun q hq => ag_q1000 hq h1000
  have hokj : ∀ i, ag_ok n j (s k w0.toNatClampNeg i) := fun i => by rw [hkj]; exact hW.2.2.1.2.1 j hj _ i
  have hokw : ∀ i, ag_ok n j (s k w.toNatClampNeg i) := fun i => by rw [hkj]; exact hW.2.2.1.2.1 j hj _ i
  obtain ⟨-, k0, hk0, cm0, hkk0⟩ := (hG.1.2 3 (z.2.1 3, .object "java/lang/Object") rfl).1 (s (k + 60) 0 w0).toNatClampNeg (fun q => va_rf (ag_ro z p j (s k w0.toNatClampNeg (nI q))))
  refine ag_copy1 hx hb (hml.trans hls.symm) hown hS (hW.1 k w hv).2 (hT _ hlink) (hT _ hnat) (hT _ hstat) (hT _ hini) hs0 hd0 hk0 hkk0 hc0 hc1 h3 h4 h5 (fun i hi y hy => ?_) hframes hlocals hdg (fun H1 locs1 e1 oq hS1 => kk H1 locs1 (ag_W_col hW hkj hj hv (fun k' f' i' h => by
      unfold ag_sc
      exact if_neg (fun q => h ⟨q.1, q.2.1⟩)) (fun i => by
      unfold ag_sc
      split
      · exact hokj i
      · exact hokw i) ?_ oq) hS1)
  · by_cases hm1 : s k w0.toNatClampNeg (nI i) = -1
    · rw [hm1] at hy
      cases hy
    · obtain ⟨r1, r2⟩ := ag_ref (z := z) (p := p) (hokj (nI i)) hm1
      cases r1.symm.trans hy
      obtain ⟨cellV, g1, g3, g2⟩ := ag_recv hG hW r2 hod hcl
      obtain ⟨kC, hkC, -⟩ := Vm.findClass_spec g2
      obtain ⟨kA, comp, r3, r4, r5, -⟩ := (hG.1.2 3 (z.2.1 3, .object "java/lang/Object") rfl).2
      cases hk0.symm.trans r3
      cases hkk0.symm.trans r4
      obtain ⟨kE, hkE, -⟩ := Vm.findClass_spec r5
      obtain ⟨c3, c4, hc3, hc4, hasg⟩ := Cond.castable_spec (va_Nw.use (A := args) rfl (hG.2.1 _ hc))
      cases hc3.symm.trans g2
      cases hc4.symm.trans r5
      exact ⟨cellV, g1, g3, ⟨kC, hkC⟩, ⟨kE, hkE⟩, hasg⟩
  · refine e1.trans (congrArg some ?_)
    have e6 : ag_sc s k w0.toNatClampNeg w.toNatClampNeg cnt.toNatClampNeg (k + 60) 0 w = s (k + 60) 0 w := by
      unfold ag_sc
      rw [if_neg (by omega)]
    rw [ha, e6, vp_cell_q, vp_cell_q]
    refine ag_arrV fun q hq => ?_
    obtain ⟨q1, q2⟩ := n1000 q hq
    unfold va_cpy ag_sc
    by_cases hqc : q < cnt.toNatClampNeg
    · rw [if_pos ⟨Nat.zero_le _, by omega⟩, if_pos ⟨rfl, rfl, q2, by rw [q1]; exact hqc⟩, Nat.zero_add, Nat.sub_zero]
    · rw [if_neg (fun h => hqc (by omega)), if_neg (fun h => hqc (by rw [← q1]; exact h.2.2.2))]
/-- the class of a list's array -/
theorem ag_getC {own : String} {index k j : Nat} {w : Int32} (hx : p0.tables.exec = Jvm.exec) (hb : c.code = cc) (hml : c.maxLocals = nL) (hls : ls.size = nL) (hT : ∀ w ∈ ag_tbl, w.before args st = true) (hown : st.vm.findClass own = some m.cls) (hG : ag_G z st st.heap) (hW : ag_W z n p s H) (hlink : Cond.methodLink own index ⟨"java/lang/Object", "getClass", "()Ljava/lang/Class;"⟩ ∈ ag_tbl) (hdecl : Cond.declares ⟨"java/lang/Object", "getClass", "()Ljava/lang/Class;"⟩ ∈ ag_xw) (hsel : Cond.selects "[Ljava/lang/Object;" ⟨"java/lang/Object", "getClass", "()Ljava/lang/Class;"⟩ ⟨"java/lang/Object", "getClass", "()Ljava/lang/Class;"⟩ ∈ ag_tbl) (hinst : Cond.instanceMethod ⟨"java/lang/Object", "getClass", "()Ljava/lang/Class;"⟩ ∈ ag_tbl) (hnat : Cond.native ⟨"java/lang/Object", "getClass", "()Ljava/lang/Class;"⟩ ∈ ag_tbl)
    (hkj : k = 20 + j) (hj : j < 5) (hv : vp_in w (n k)) (hframes : 1 ≤ R.frames) (hlocals : (rest.map fun v => v.category).sum + 14 ≤ R.locals) (hdg : decode cc pc = .ok (.invokevirtual index, 3))
    (kk : W p0 l e R st m args below meth c H locs cells slots Q (F0 m (pc + 3) ls (.ref (z.2.1 4) :: rest))) : W p0 l e R st m args below meth c H locs cells slots Q (F0 m pc ls (.ref (p k w) :: rest)) := by
  obtain ⟨had, hod9⟩ := ag_ad20 hkj hj
  have hc1 := (hW.1 k w hv).1
  rw [ag_cell_ad hod9] at hc1
  have ha : ag_arr z p s k w = (z.2.1 3, (s (k + 60) 0 w).toNatClampNeg, .inr (.inr (.inr (.inr (fun q => ag_ro z p (k - 20) (s k w.toNatClampNeg (nI q))))))) := by
    unfold ag_arr
    rw [had]
    rfl
  rw [ha] at hc1
  obtain ⟨kA, comp, r3, r4, r5, r6⟩ := (hG.1.2 3 (z.2.1 3, .object "java/lang/Object") rfl).2
  exact va_getC hx hb (hml.trans hls.symm) hown (hT _ hlink) (va_Nw.use rfl (hG.2.1 _ hdecl)) (hT _ hsel) (hT _ hinst) (hT _ hnat) hG.2.2.2.2.2.2.2.1 ⟨_, hc1, rfl, r6⟩ hframes hlocals hdg kk
/-- Object's constructor -/
theorem ag_obj {own : String} {idx a : Nat} (hx : p0.tables.exec = Jvm.exec) (hb : c.code = cc) (hml : c.maxLocals = nL) (hls : ls.size = nL) (hT : ∀ w ∈ ag_tbl, w.before args st = true) (hown : st.vm.findClass own = some m.cls) (hlink : Cond.methodLink own idx objectInit ∈ ag_tbl) (hinst : Cond.instanceMethod objectInit ∈ ag_tbl) (hcode : Cond.code objectInit object_method_1_code 1 (none) ∈ ag_tbl) (hframes : 1 ≤ R.frames) (hlocals : (rest.map fun v => v.category).sum + 12 ≤ R.locals) (hdg : decode cc pc = .ok (.invokespecial idx, 3))
    (kk : W p0 l e R st m args below meth c H locs cells slots Q (F0 m (pc + 3) ls rest)) : W p0 l e R st m args below meth c H locs cells slots Q (F0 m pc ls (.ref a :: rest)) :=
  W.objInit hx hb hown (hT _ hlink) (hT _ hinst) (hT _ hcode) (g := F0 m pc ls (.ref a :: rest)) rfl (hls.trans hml.symm) rfl hdg hframes (by show 2 * 0 + _ + 12 ≤ _; omega) kk
theorem g15_0 {own : String} {index : Nat} {i : Int32} (hx : p0.tables.exec = Jvm.exec) (hb : c.code = cc) (hT : ∀ w ∈ ag_tbl, w.before args st = true) (hown : st.vm.findClass own = some m.cls) (hG : ag_G z st st.heap) (hW : ag_W z n p s H) (hi : vp_in i (n 15)) (hlink : Cond.fieldLink own index "Amendgrant" "sources" "Ljava/util/ArrayList;" ∈ ag_tbl) (hdg : decode cc pc = .ok (.getfield index, 3)) (kk : W p0 l e R st m args below meth c H locs cells slots Q (F0 m (pc + 3) ls (va_rf (ag_ro z p 10 (s 15 0 i)) :: rest))) : W p0 l e R st m args below meth c H locs cells slots Q (F0 m pc ls (.ref (p 15 i) :: rest)) :=
  ag_get (k := 15) (f := 0) (ref := "Amendgrant") hx hb hT hown hG hW hi rfl rfl rfl inX5 (by decide) hlink (fun _ h => h) hdg kk
theorem g15_1 {own : String} {index : Nat} {i : Int32} (hx : p0.tables.exec = Jvm.exec) (hb : c.code = cc) (hT : ∀ w ∈ ag_tbl, w.before args st = true) (hown : st.vm.findClass own = some m.cls) (hG : ag_G z st st.heap) (hW : ag_W z n p s H) (hi : vp_in i (n 15)) (hlink : Cond.fieldLink own index "Amendgrant" "receivers" "Ljava/util/ArrayList;" ∈ ag_tbl) (hdg : decode cc pc = .ok (.getfield index, 3)) (kk : W p0 l e R st m args below meth c H locs cells slots Q (F0 m (pc + 3) ls (va_rf (ag_ro z p 11 (s 15 1 i)) :: rest))) : W p0 l e R st m args below meth c H locs cells slots Q (F0 m pc ls (.ref (p 15 i) :: rest)) :=
  ag_get (k := 15) (f := 1) (ref := "Amendgrant") hx hb hT hown hG hW hi rfl rfl rfl inX5 (by decide) hlink (fun _ h => h) hdg kk
end AGCP
theorem cx0 : Cond.castable RX4 "java/lang/Object" ∈ ag_xw := List.mem_filter.mpr ⟨List.mem_append_right _ (List.mem_of_getElem? (i := 1058) (by decide +kernel)), rfl⟩
theorem cx1 : Cond.castable RX3 "java/lang/Object" ∈ ag_xw := List.mem_filter.mpr ⟨List.mem_append_right _ (List.mem_of_getElem? (i := 1059) (by decide +kernel)), rfl⟩
theorem cx2 : Cond.castable RX2 "java/lang/Object" ∈ ag_xw := List.mem_filter.mpr ⟨List.mem_append_right _ (List.mem_of_getElem? (i := 1063) (by decide +kernel)), rfl⟩
theorem cx3 : Cond.castable RX0 "java/lang/Object" ∈ ag_xw := List.mem_filter.mpr ⟨List.mem_append_right _ (List.mem_of_getElem? (i := 1065) (by decide +kernel)), rfl⟩
theorem cx4 : Cond.castable RX1 "java/lang/Object" ∈ ag_xw := List.mem_filter.mpr ⟨List.mem_append_right _ (List.mem_of_getElem? (i := 1066) (by decide +kernel)), rfl⟩
theorem dcl0 : Cond.declares ⟨"java/lang/Object", "getClass", "()Ljava/lang/Class;"⟩ ∈ ag_xw := List.mem_filter.mpr ⟨List.mem_append_right _ (List.mem_of_getElem? (i := 1071) (by decide +kernel)), rfl⟩
