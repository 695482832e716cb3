/-! ===== the words: all good words of the tables ===== -/
def ag_tbl : List Cond := lw_tbl.filter goodWord
theorem ag_q {w : Cond} (i : Nat) (h : tables_1[i]? = some w) (g : goodWord w = true) : w ∈ ag_tbl := List.mem_filter.mpr ⟨List.mem_append_right _ (List.mem_of_getElem? h), g⟩
theorem ag_qs {w : Cond} (i : Nat) (h : (k2_sels lw_privs)[i]? = some w) (g : goodWord w = true) : w ∈ ag_tbl := List.mem_filter.mpr ⟨List.mem_append_left _ (List.mem_of_getElem? h), g⟩
theorem ag_in {ws : List Cond} (ps : List Nat) (hp : ps.filterMap (fun i => tables_1[i]?) = ws) (h : ws.all goodWord = true) : ∀ w ∈ ws, w ∈ ag_tbl := by
  intro w hw
  have h1 := List.all_eq_true.mp h w hw
  rw [← hp] at hw
  obtain ⟨i, -, hi⟩ := List.mem_filterMap.mp hw
  exact ag_q i hi h1
theorem ag_good {w : Cond} (h : w ∈ ag_tbl) : goodWord w = true := (List.mem_filter.mp h).2
theorem ag_goodIn {ws : List Cond} (h : ∀ w ∈ ws, w ∈ ag_tbl) : GoodIn ag_tbl ws := fun w hw => ⟨h w hw, good_of_word (ag_good (h w hw))⟩
abbrev ag_ws (y : MethodName) (c : ByteArray) (maxL : Nat) (ret : Option FieldType) : List Cond := Cond.code y c maxL ret :: ag_tbl
abbrev ag_wsH (y : MethodName) (c : ByteArray) (maxL : Nat) (ret : Option FieldType) (hh : List (Nat × Nat × Nat × Nat)) : List Cond := Cond.codeWith y c maxL ret hh :: ag_tbl
theorem ag_gV {own C : String} {idx maxL : Nat} {y : MethodName} {bytes : ByteArray} {ret : Option FieldType} (h1 : Cond.methodLink own idx y ∈ ag_tbl) (h2 : Cond.instanceMethod y ∈ ag_tbl) (h3 : Cond.selects C y y ∈ ag_tbl) (h4 : Cond.initialized C ∈ ag_tbl) (h5 : Cond.code y bytes maxL ret ∈ ag_tbl) : GoodIn ag_tbl (wsV own idx C y (ag_ws y bytes maxL ret)) := by
  refine ag_goodIn fun w hw => ?_
  simp only [wsV, ag_ws, List.cons_append, List.nil_append, List.mem_cons] at hw
  rcases hw with rfl | rfl | rfl | rfl | rfl | hw
  · exact h1
  · exact h2
  · exact h3
  · exact h4
  · exact h5
  · exact hw
theorem ag_gS {own : String} {idx maxL : Nat} {y : MethodName} {bytes : ByteArray} {ret : Option FieldType} (h1 : Cond.methodLink own idx y ∈ ag_tbl) (h2 : Cond.static y ∈ ag_tbl) (h4 : Cond.initialized y.cls ∈ ag_tbl) (h5 : Cond.code y bytes maxL ret ∈ ag_tbl) : GoodIn ag_tbl (va_wsS own idx y (ag_ws y bytes maxL ret)) := by
  refine ag_goodIn fun w hw => ?_
  simp only [va_wsS, ag_ws, List.cons_append, List.nil_append, List.mem_cons] at hw
  rcases hw with rfl | rfl | rfl | rfl | hw
  · exact h1
  · exact h2
  · exact h4
  · exact h5
  · exact hw
theorem ag_gI {maxL : Nat} {y : MethodName} {bytes : ByteArray} {ret : Option FieldType} (h5 : Cond.code y bytes maxL ret ∈ ag_tbl) : GoodIn ag_tbl (ag_ws y bytes maxL ret) := by
  refine ag_goodIn fun w hw => ?_
  rcases List.mem_cons.mp hw with rfl | hw
  · exact h5
  · exact hw
/-! ===== the state, and what a cell holds =====
kinds: 0 Source, 1 Receiver, 2 Line, 3 Amendment, 4 Grant, 5 Amendgrant, 6 AmendgrantModel, 8 the law's long[1],
10..14 the lists, 15 an Amendgrant that is being made, 16 an AmendgrantModel that is being made, 20..24 the lists' arrays, 30 + f: the array in the reference's field f; 80..84: the lengths of the lists' arrays
A field's sort: (0, _) an int, (1, t) a reference to an object of kind t, by its code, (2, t) always the object 0 of kind t. -/
abbrev ag_Z : Type := va_G × (Nat → ClassId) × Nat × Nat
abbrev ag_S : Type := Nat → Nat → Int32 → Int32
abbrev ag_N : Type := Nat → Nat
abbrev ag_P : Type := Nat → Int32 → Nat
def ag_up (s : ag_S) (k f : Nat) (i v : Int32) : ag_S := fun k' f' i' => if k' = k ∧ f' = f ∧ i' = i then v else s k' f' i'
def ag_od (k : Nat) : Option (Nat × List (Nat × Nat)) := match k with
  | 0 => some (5, [(0, 0), (0, 0), (0, 0)])
  | 1 => some (4, [(0, 0), (0, 0)])
  | 2 => some (3, [(0, 0), (1, 0), (0, 0), (0, 0), (0, 0), (0, 0), (0, 0)])
  | 3 => some (1, [(0, 0), (1, 3), (1, 2), (0, 0), (0, 0), (0, 0), (0, 0), (0, 0), (0, 0), (0, 0)])
  | 4 => some (2, [(1, 2), (1, 1), (1, 3), (0, 0), (0, 0), (0, 0), (0, 0), (0, 0)])
  | 5 => some (6, [(2, 10), (2, 11), (2, 12), (2, 13), (2, 14), (0, 0), (0, 0), (0, 0)])
  | 6 => some (7, [(0, 0), (0, 0), (0, 0), (0, 0), (2, 34), (2, 35), (2, 36), (0, 0), (2, 38), (2, 39), (2, 40), (2, 41), (2, 42), (0, 0), (2, 44), (2, 45), (2, 46), (2, 47), (2, 48), (2, 49), (0, 0), (2, 51), (2, 52), (2, 53), (2, 54), (2, 55), (2, 56), (2, 57), (2, 58), (2, 59), (2, 60)])
  | 10 => some (0, [(0, 0), (1, 20), (0, 0)])
  | 11 => some (0, [(0, 0), (1, 21), (0, 0)])
  | 12 => some (0, [(0, 0), (1, 22), (0, 0)])
  | 13 => some (0, [(0, 0), (1, 23), (0, 0)])
  | 14 => some (0, [(0, 0), (1, 24), (0, 0)])
  | 15 => some (6, [(1, 10), (1, 11), (1, 12), (1, 13), (1, 14), (0, 0), (0, 0), (0, 0)])
  | 16 => some (7, [(0, 0), (0, 0), (0, 0), (0, 0), (1, 34), (1, 35), (1, 36), (0, 0), (1, 38), (1, 39), (1, 40), (1, 41), (1, 42), (0, 0), (1, 44), (1, 45), (1, 46), (1, 47), (1, 48), (1, 49), (0, 0), (1, 51), (1, 52), (1, 53), (1, 54), (1, 55), (1, 56), (1, 57), (1, 58), (1, 59), (1, 60)])
  | _ => none
/-- an array's sort (0 int, 1 boolean, 2 long, 3 references) and its length -/
def ag_ad (k : Nat) : Nat × Nat := match k with
  | 8 => (2, 1)
  | 20 => (3, 0)
  | 21 => (3, 0)
  | 22 => (3, 0)
  | 23 => (3, 0)
  | 24 => (3, 0)
  | 34 => (0, 4)
  | 35 => (0, 4)
  | 36 => (0, 8)
  | 38 => (0, 10)
  | 39 => (0, 10)
  | 40 => (0, 10)
  | 41 => (0, 10)
  | 42 => (0, 10)
  | 44 => (0, 40)
  | 45 => (0, 40)
  | 46 => (0, 40)
  | 47 => (0, 40)
  | 48 => (0, 40)
  | 49 => (0, 360)
  | 51 => (0, 40)
  | 52 => (0, 40)
  | 53 => (0, 40)
  | 54 => (0, 40)
  | 55 => (0, 40)
  | 56 => (0, 40)
  | 57 => (0, 40)
  | 58 => (1, 40)
  | 59 => (0, 40)
  | 60 => (1, 40)
  | _ => (0, 0)
def ag_ro (z : ag_Z) (p : ag_P) (t : Nat) (v : Int32) : Option Nat := if v = -1 then none else if v = -2 then some z.2.2.2 else some (p t v)
def ag_val (z : ag_Z) (p : ag_P) (t : Nat × Nat) (v : Int32) : Value := match t with
  | (0, _) => .int v
  | (1, t) => va_rf (ag_ro z p t v)
  | (_, t) => .ref (p t 0)
def ag_fl (g : Nat → Nat × Nat → Value) : Nat → List (Nat × Nat) → List Value
  | _, [] => []
  | f, t :: r => g f t :: ag_fl g (f + 1) r
def ag_arr (z : ag_Z) (p : ag_P) (s : ag_S) (k : Nat) (i : Int32) : ClassId × vp_A := match ag_ad k with
  | (0, n) => (z.2.1 0, n, .inl (fun q => s k i.toNatClampNeg (nI q)))
  | (1, n) => (z.2.1 1, n, .inl (fun q => s k i.toNatClampNeg (nI q)))
  | (2, n) => (z.2.1 2, n, .inr (.inl (fun q => (s k i.toNatClampNeg (nI q)).toInt64)))
  | (_, _) => (z.2.1 3, (s (k + 60) 0 i).toNatClampNeg, .inr (.inr (.inr (.inr (fun q => ag_ro z p (k - 20) (s k i.toNatClampNeg (nI q)))))))
def ag_cell (z : ag_Z) (p : ag_P) (s : ag_S) (k : Nat) (i : Int32) : va_E := match ag_od k with
  | some (ci, ts) => .inr (ci, ag_fl (fun f t => ag_val z p t (s k f i)) 0 ts)
  | none => .inl (ag_arr z p s k i)
def ag_ok (n : ag_N) (t : Nat) (v : Int32) : Prop := v = -1 ∨ vp_in v (n t)
def ag_wf (n : ag_N) (s : ag_S) : Prop := (∀ (k ci : Nat) (ts : List (Nat × Nat)) (f t : Nat), ag_od k = some (ci, ts) → ts[f]? = some (1, t) → ∀ i : Int32, ag_ok n t (s k f i) ∨ (20 ≤ t ∧ s k f i = -2)) ∧ (∀ j : Nat, j < 5 → ∀ (f : Nat) (i : Int32), ag_ok n j (s (20 + j) f i)) ∧ (∀ (k ci : Nat) (ts : List (Nat × Nat)) (f t : Nat), ag_od k = some (ci, ts) → ts[f]? = some (2, t) → 0 < n k → 0 < n t)
/-- how many objects of a kind there may be -/
def ag_mx (k : Nat) : Nat := if k < 61 then 1000 else 0
theorem ag_mx_le (k : Nat) : ag_mx k ≤ 1000 := by unfold ag_mx; split <;> omega
/-- THE WORLD: where the objects lie, what they hold -/
def ag_W (z : ag_Z) (n : ag_N) (p : ag_P) (s : ag_S) (H : Heap) : Prop := (∀ (k : Nat) (i : Int32), vp_in i (n k) → va_at z.1 vwCl (p k i, ag_cell z p s k i) H ∧ z.2.2.1 ≤ p k i) ∧ (∀ (k : Nat) (i : Int32) (k' : Nat) (i' : Int32), vp_in i (n k) → vp_in i' (n k') → p k i = p k' i' → k = k' ∧ i = i') ∧ ag_wf n s ∧ ∀ k : Nat, n k ≤ ag_mx k
def ag_A (z : ag_Z) : Nat → Prop := fun q => z.2.2.1 ≤ q
def ag_xw : List Cond := lw_tbl.filter (fun w => match w with | .castable _ _ => true | .declares _ => true | _ => false)
def ag_tys (z : ag_Z) : List (ClassId × FieldType) := [(z.2.1 0, .int), (z.2.1 1, .boolean), (z.2.1 2, .long), (z.2.1 3, .object "java/lang/Object")]
def ag_exn : List String := ["java/lang/IndexOutOfBoundsException", "java/lang/IllegalArgumentException", "java/lang/IllegalStateException"]
/-- what stays as it is through the whole run -/
def ag_G (z : ag_Z) (U : State) (H : Heap) : Prop := va_K z.1 vwCl (ag_tys z) U ∧ (∀ w ∈ ag_xw, va_Nw w U) ∧ (∀ (a : String) (b : Nat) (tx : String), Cond.stringRef a b tx ∈ lw_tbl → ∃ q, vk_R a b tx q U) ∧ vx_Zq Bundle.tN "UNASSIGNED_STACK" Bundle.steD (ag_A z) U H ∧ vx_Zq Bundle.tN "SUPPRESSED_SENTINEL" Bundle.listD (ag_A z) U H
  ∧ va_Z RJx4a65c "DEFAULTCAPACITY_EMPTY_ELEMENTDATA" "[Ljava/lang/Object;" (.ref z.2.2.2) (ag_A z) U H ∧ va_T (.object "java/lang/Object") z.2.2.2 0 (fun _ => .null) (ag_A z) U H
  ∧ va_Mi "[Ljava/lang/Object;" (z.2.1 4) U ∧ va_AO "java/lang/Object" U ∧ ∀ E T : String, E ∈ ag_exn → T ∈ ag_exn → E ≠ T → va_Nc E T U
def ag_Pre (z : ag_Z) (n : ag_N) (p : ag_P) (s : ag_S) (U : State) : Prop := z.2.2.1 ≤ U.heap.size ∧ ag_G z U U.heap ∧ ag_W z n p s U.heap

theorem ag_xw_sort {w : Cond} (h : w ∈ ag_xw) : (∃ C T, w = .castable C T) ∨ ∃ x, w = .declares x := by
  have h2 := (List.mem_filter.mp h).2
  cases w <;> first | exact Or.inl ⟨_, _, rfl⟩ | exact Or.inr ⟨_, rfl⟩ | (simp at h2)
theorem ag_G.warm {z : ag_Z} {s U : State} {H : Heap} (hW : s.WarmedH U.vm) (h : ag_G z s H) : ag_G z U H := by
  obtain ⟨h1, h2, h3, h4, h5, h6, h7, h8, h9, h10⟩ := h
  refine ⟨va_K.moved hW.alike h1, fun w hw => ?_, fun a b tx hm => ?_, vx_Zq.moved hW.alike h4, vx_Zq.moved hW.alike h5, va_Z.moved hW.alike h6, va_T.moved hW.alike h7, va_Mi.moved hW.alike h8, va_AO.moved hW.alike h9, fun E T e1 e2 e3 => va_Nc.moved hW.alike (h10 E T e1 e2 e3)⟩
  · rcases ag_xw_sort hw with ⟨C, T, rfl⟩ | ⟨x, rfl⟩
    · exact va_Nw.warmC hW (h2 _ hw)
    · exact va_Nw.warmD hW (h2 _ hw)
  · obtain ⟨q, hq⟩ := h3 a b tx hm
    exact ⟨q, vk_R.warm hW hq⟩
theorem ag_G.kept {z : ag_Z} {U : State} {H H1 : Heap} (hq : ∀ a : Nat, a < H.size → ¬ ag_A z a → H1[a]? = H[a]?) (h : ag_G z U H) : ag_G z U H1 := by
  obtain ⟨h1, h2, h3, h4, h5, h6, h7⟩ := h
  exact ⟨h1, h2, h3, vx_Zq.kept h4 hq, vx_Zq.kept h5 hq, va_Z.kept h6 hq, va_T.kept h7.1 hq, h7.2⟩
theorem ag_Pre.blind {z : ag_Z} {n : ag_N} {p : ag_P} {s : ag_S} {av : List Value} : FrameBlind (va_Pc av (ag_Pre z n p s)) := by
  intro a U g mk h
  obtain ⟨h0, h1, h2, h3⟩ := h
  exact ⟨h0, h1, ag_G.warm (s := U) (U := U.calling g mk a) (State.WarmedH.refl U) h2, h3⟩
theorem ag_Pre.to {z : ag_Z} {n : ag_N} {p : ag_P} {s0 s : ag_S} {st : State} {H : Heap} {locs : List Loc} (h0 : z.2.2.1 ≤ st.heap.size) (hG : ag_G z st st.heap) (hS : va_S (ag_A z) st.heap H locs) (hW : ag_W z n p s H) (U : State) (hU : U.heap = H) (hV : st.WarmedH U.vm) : ag_Pre z n p s U := by
  refine ⟨?_, ?_, ?_⟩
  · rw [hU]
    exact Nat.le_trans h0 hS.1
  · rw [hU]
    exact ag_G.warm hV (ag_G.kept hS.2.1 hG)
  · rw [hU]
    exact hW
/-! ===== pure rows of the world ===== -/
theorem ag_nI {i : Int32} {N : Nat} (h : vp_in i N) : nI i.toNatClampNeg = i := by
  have h0 : ¬ i < 0 := fun q => h (Or.inl q)
  obtain ⟨j, hj, rfl⟩ := nI_of h0
  rw [nI_clamp hj]
theorem ag_31 {a n : Nat} (h : a < n) (hn : n ≤ 1000) : a < 2 ^ 31 := Nat.lt_of_lt_of_le h (Nat.le_trans hn (Nat.le_of_ble_eq_true rfl))

theorem ag_up_eq {s : ag_S} {k f : Nat} {i v : Int32} : ag_up s k f i v k f i = v := by simp [ag_up]
theorem ag_up_ne {s : ag_S} {k f : Nat} {i v : Int32} {k' f' : Nat} {i' : Int32} (h : ¬ (k' = k ∧ f' = f ∧ i' = i)) : ag_up s k f i v k' f' i' = s k' f' i' := by simp only [ag_up]; rw [if_neg h]
theorem ag_fl_get (g : Nat → Nat × Nat → Value) : ∀ (ts : List (Nat × Nat)) (b f : Nat) (t : Nat × Nat), ts[f]? = some t → (ag_fl g b ts)[f]? = some (g (b + f) t)
  | [], _, _, _, h => by simp at h
  | u :: r, b, 0, t, h => by
    simp only [List.getElem?_cons_zero, Option.some.injEq] at h
    simp [ag_fl, h]
  | u :: r, b, f + 1, t, h => by
    rw [List.getElem?_cons_succ] at h
    have := ag_fl_get g r (b + 1) f t h
    simp only [ag_fl, List.getElem?_cons_succ, this]
    rw [Nat.add_assoc, Nat.add_comm 1 f]
theorem ag_fl_len (g : Nat → Nat × Nat → Value) : ∀ (ts : List (Nat × Nat)) (b : Nat), (ag_fl g b ts).length = ts.length
  | [], _ => rfl
  | u :: r, b => by simp [ag_fl, ag_fl_len g r (b + 1)]
theorem ag_fl_ext (g g' : Nat → Nat × Nat → Value) (ts : List (Nat × Nat)) (b : Nat) (h : ∀ f t, ts[f]? = some t → g (b + f) t = g' (b + f) t) : ag_fl g b ts = ag_fl g' b ts := by
  apply List.ext_getElem?
  intro f
  cases ht : ts[f]? with
  | some t => rw [ag_fl_get g ts b f t ht, ag_fl_get g' ts b f t ht, h f t ht]
  | none =>
    have hl := List.getElem?_eq_none_iff.mp ht
    rw [List.getElem?_eq_none (by rw [ag_fl_len]; exact hl), List.getElem?_eq_none (by rw [ag_fl_len]; exact hl)]
theorem ag_fl_set (g g' : Nat → Nat × Nat → Value) (ts : List (Nat × Nat)) (f : Nat) (t : Nat × Nat) (v : Value) (hf : ts[f]? = some t) (hv : g' f t = v) (h : ∀ f' t', f' ≠ f → g' f' t' = g f' t') : ag_fl g' 0 ts = (ag_fl g 0 ts).set f v := by
  apply List.ext_getElem?
  intro j
  have hlf : f < ts.length := (List.getElem?_eq_some_iff.mp hf).1
  by_cases hj : j = f
  · subst hj
    rw [List.getElem?_set_self (by rw [ag_fl_len]; exact hlf), ag_fl_get g' ts 0 j t hf, Nat.zero_add, hv]
  · rw [List.getElem?_set_ne (Ne.symm hj)]
    cases ht : ts[j]? with
    | some t' => rw [ag_fl_get g ts 0 j t' ht, ag_fl_get g' ts 0 j t' ht, Nat.zero_add, h j t' hj]
    | none =>
      have hl := List.getElem?_eq_none_iff.mp ht
      rw [List.getElem?_eq_none (by rw [ag_fl_len]; exact hl), List.getElem?_eq_none (by rw [ag_fl_len]; exact hl)]
theorem ag_od_lt {k : Nat} {q : Nat × List (Nat × Nat)} (h : ag_od k = some q) : k < 20 := by
  by_cases hk : k < 20
  · exact hk
  · unfold ag_od at h
    split at h <;> first | omega | cases h
theorem ag_cell_od {z : ag_Z} {p : ag_P} {s : ag_S} {k ci : Nat} {i : Int32} {ts : List (Nat × Nat)} (h : ag_od k = some (ci, ts)) : ag_cell z p s k i = .inr (ci, ag_fl (fun f t => ag_val z p t (s k f i)) 0 ts) := by
  unfold ag_cell
  rw [h]
theorem ag_cell_ad {z : ag_Z} {p : ag_P} {s : ag_S} {k : Nat} {i : Int32} (h : ag_od k = none) : ag_cell z p s k i = .inl (ag_arr z p s k i) := by
  unfold ag_cell
  rw [h]
theorem ag_W.kept {z : ag_Z} {n : ag_N} {p : ag_P} {s : ag_S} {H H1 : Heap} (h : ag_W z n p s H) (hk : ∀ q : Nat, q < H.size → H1[q]? = H[q]?) : ag_W z n p s H1 := by
  obtain ⟨h1, h2⟩ := h
  exact ⟨fun k i hi => ⟨(h1 k i hi).1.kept (hk _ (h1 k i hi).1.lt), (h1 k i hi).2⟩, h2⟩
/-- a field of an object is written -/
theorem ag_W_put {z : ag_Z} {n : ag_N} {p : ag_P} {s : ag_S} {H H1 : Heap} {k f ci : Nat} {t : Nat × Nat} {i x : Int32} {ts : List (Nat × Nat)} (hW : ag_W z n p s H) (hi : vp_in i (n k)) (hod : ag_od k = some (ci, ts)) (hf : ts[f]? = some t) (ht : t.1 = 1 → ag_ok n t.2 x ∨ (20 ≤ t.2 ∧ x = -2))
    (hc : va_at z.1 vwCl (p k i, .inr (ci, (ag_fl (fun f t => ag_val z p t (s k f i)) 0 ts).set f (ag_val z p t x))) H1) (oq : ∀ q : Nat, q ≠ p k i → H1[q]? = H[q]?) : ag_W z n p (ag_up s k f i x) H1 := by
  obtain ⟨h1, h2, h3, h4⟩ := hW
  have hk20 := ag_od_lt hod
  refine ⟨fun k' i' hi' => ?_, h2, ⟨fun k' ci' ts' f' t' e1 e2 i' => ?_, fun j hj f' i' => ?_, h3.2.2⟩, h4⟩
  · by_cases e : k' = k ∧ i' = i
    · obtain ⟨rfl, rfl⟩ := e
      refine ⟨?_, (h1 _ _ hi').2⟩
      rw [ag_cell_od hod]
      rw [ag_fl_set (fun f t => ag_val z p t (s k' f i')) (fun f' t => ag_val z p t (ag_up s k' f i' x k' f' i')) ts f t (ag_val z p t x) hf (by rw [ag_up_eq]) (fun f' t' hne => by rw [ag_up_ne (by omega)])]
      exact hc
    · have hne : p k' i' ≠ p k i := fun q => e (h2 _ _ _ _ hi' hi q)
      obtain ⟨g1, g2⟩ := h1 k' i' hi'
      refine ⟨?_, g2⟩
      have hcell : ag_cell z p (ag_up s k f i x) k' i' = ag_cell z p s k' i' := by
        have hk : ∀ f', ag_up s k f i x k' f' i' = s k' f' i' := fun f' => ag_up_ne (fun q => e ⟨q.1, q.2.2⟩)
        cases ho : ag_od k' with
        | some q =>
          obtain ⟨ci', ts'⟩ := q
          rw [ag_cell_od ho, ag_cell_od ho]
          simp only [hk]
        | none =>
          have hkk : k' ≠ k := fun q => by rw [q, hod] at ho; cases ho
          have hz : ∀ f' i2, ag_up s k f i x k' f' i2 = s k' f' i2 := fun f' i2 => ag_up_ne (fun q => hkk q.1)
          have hz2 : ∀ f' i2, ag_up s k f i x (k' + 60) f' i2 = s (k' + 60) f' i2 := fun f' i2 => ag_up_ne (by omega)
          rw [ag_cell_ad ho, ag_cell_ad ho]
          unfold ag_arr
          simp only [hz, hz2]
      rw [hcell]
      exact g1.kept (oq _ hne)
  · have g := h3.1 k' ci' ts' f' t' e1 e2 i'
    by_cases e : k' = k ∧ f' = f ∧ i' = i
    · obtain ⟨rfl, rfl, rfl⟩ := e
      rw [hod] at e1
      cases e1
      rw [hf] at e2
      cases e2
      rw [ag_up_eq]
      exact ht rfl
    · rw [ag_up_ne e]
      exact g
  · rw [ag_up_ne (by omega)]
    exact h3.2.1 j hj f' i'
theorem ag_ad3 {k : Nat} (h : (ag_ad k).1 = 3) : 20 ≤ k ∧ k < 25 := by
  unfold ag_ad at h
  split at h <;> first | omega | (simp at h)
theorem ag_ad2 {k a b : Nat} (h : ag_ad k = (a, b)) (h3 : ¬ a = 3) : a = 0 ∨ a = 1 ∨ a = 2 := by
  unfold ag_ad at h
  split at h <;> (simp only [Prod.mk.injEq] at h; omega)
theorem ag_adj {j k ty len : Nat} (had : ag_ad k = (ty, len)) (hty : ty ≤ 2) (hj : j < 5) : ¬ 20 + j = k := by
  intro q
  rw [← q] at had
  have : j = 0 ∨ j = 1 ∨ j = 2 ∨ j = 3 ∨ j = 4 := by omega
  rcases this with rfl | rfl | rfl | rfl | rfl <;> (simp [ag_ad] at had; omega)
/-- a place of an array of numbers is written -/
theorem ag_W_ast {z : ag_Z} {n : ag_N} {p : ag_P} {s : ag_S} {H H1 : Heap} {k ty len : Nat} {c i x : Int32} (hW : ag_W z n p s H) (hi : vp_in c (n k)) (hod : ag_od k = none) (had : ag_ad k = (ty, len)) (hty : ty ≤ 2) (hk80 : ¬ (80 ≤ k ∧ k < 85)) (hv : vp_in i len)
    (hc : va_at z.1 vwCl (p k c, .inl (ag_arr z p (ag_up s k c.toNatClampNeg i x) k c)) H1) (oq : ∀ q : Nat, q ≠ p k c → H1[q]? = H[q]?) : ag_W z n p (ag_up s k c.toNatClampNeg i x) H1 := by
  obtain ⟨h1, h2, h3, h4⟩ := hW
  refine ⟨fun k' i' hi' => ?_, h2, ⟨fun k' ci' ts' f' t' e1 e2 i' => ?_, fun j hj f' i' => ?_, h3.2.2⟩, h4⟩
  · by_cases e : k' = k ∧ i' = c
    · obtain ⟨rfl, rfl⟩ := e
      refine ⟨?_, (h1 _ _ hi').2⟩
      rw [ag_cell_ad hod]
      exact hc
    · have hne : p k' i' ≠ p k c := fun q => e (h2 _ _ _ _ hi' hi q)
      obtain ⟨g1, g2⟩ := h1 k' i' hi'
      refine ⟨?_, g2⟩
      have hcell : ag_cell z p (ag_up s k c.toNatClampNeg i x) k' i' = ag_cell z p s k' i' := by
        cases ho : ag_od k' with
        | some q =>
          obtain ⟨ci', ts'⟩ := q
          have hkk : k' ≠ k := fun q => by rw [q, hod] at ho; cases ho
          have hz : ∀ f' i2, ag_up s k c.toNatClampNeg i x k' f' i2 = s k' f' i2 := fun f' i2 => ag_up_ne (fun q => hkk q.1)
          rw [ag_cell_od ho, ag_cell_od ho]
          simp only [hz]
        | none =>
          rw [ag_cell_ad ho, ag_cell_ad ho]
          by_cases hkk : k' = k
          · subst hkk
            have hic : i' ≠ c := fun q => e ⟨rfl, q⟩
            have hf : i'.toNatClampNeg ≠ c.toNatClampNeg := by
              intro q
              have e1 := ag_nI hi'
              rw [q, ag_nI hi] at e1
              exact hic e1.symm
            have hz : ∀ i2, ag_up s k' c.toNatClampNeg i x k' i'.toNatClampNeg i2 = s k' i'.toNatClampNeg i2 := fun i2 => ag_up_ne (fun q => hf q.2.1)
            have hz2 : ∀ f' i2, ag_up s k' c.toNatClampNeg i x (k' + 60) f' i2 = s (k' + 60) f' i2 := fun f' i2 => ag_up_ne (by omega)
            unfold ag_arr
            simp only [hz, hz2]
          · have hz : ∀ f' i2, ag_up s k c.toNatClampNeg i x k' f' i2 = s k' f' i2 := fun f' i2 => ag_up_ne (fun q => hkk q.1)
            unfold ag_arr
            simp only [hz]
            cases hq : ag_ad k' with
            | mk a b =>
              by_cases hk3 : a = 3
              · have hk2 := ag_ad3 (k := k') (by rw [hq]; exact hk3)
                have hz2 : ∀ f' i2, ag_up s k c.toNatClampNeg i x (k' + 60) f' i2 = s (k' + 60) f' i2 := fun f' i2 => ag_up_ne (by omega)
                simp only [hz2]
              · rcases ag_ad2 hq hk3 with rfl | rfl | rfl <;> simp
      rw [hcell]
      exact g1.kept (oq _ hne)
  · have g := h3.1 k' ci' ts' f' t' e1 e2 i'
    have hkk : k' ≠ k := fun q => by rw [q, hod] at e1; cases e1
    rw [ag_up_ne (fun q => hkk q.1)]
    exact g
  · have hkk := ag_adj had hty hj
    rw [ag_up_ne (fun q => hkk q.1)]
    exact h3.2.1 j hj f' i'
theorem ag_ref {z : ag_Z} {n : ag_N} {p : ag_P} {t : Nat} {v : Int32} (h : ag_ok n t v) (hn : ¬ v = -1) : ag_ro z p t v = some (p t v) ∧ vp_in v (n t) := by
  rcases h with h | h
  · exact absurd h hn
  · refine ⟨?_, h⟩
    have h2 : ¬ v = -2 := fun q => h (Or.inl (by rw [q]; decide))
    simp [ag_ro, hn, h2]
theorem ag_null {z : ag_Z} {p : ag_P} {t : Nat} {v : Int32} (h : v = -1) : ag_ro z p t v = none := by simp [ag_ro, h]
/-- a field's code, of an object that isn't a list -/
theorem ag_W.okf {z : ag_Z} {n : ag_N} {p : ag_P} {s : ag_S} {H : Heap} (hW : ag_W z n p s H) {k ci f t : Nat} {ts : List (Nat × Nat)} (hod : ag_od k = some (ci, ts)) (hf : ts[f]? = some (1, t)) (ht : t < 20) (i : Int32) : ag_ok n t (s k f i) := by
  rcases hW.2.2.1.1 k ci ts f t hod hf i with h | ⟨h, -⟩
  · exact h
  · omega

/-! ===== rows over the world: fields and arrays ===== -/
theorem ag_one {z : ag_Z} {n : ag_N} {p : ag_P} {s : ag_S} {H : Heap} {k : Nat} {i : Int32} (hW : ag_W z n p s H) (hi : vp_in i (n k)) : va_P z.1 vwCl [(p k i, ag_cell z p s k i)] H := by
  intro j q hq
  cases j with
  | zero =>
    simp only [List.getElem?_cons_zero, Option.some.injEq] at hq
    subst hq
    exact (hW.1 k i hi).1
  | succ j => simp at hq
theorem ag_arrV {cI : ClassId} {N : Nat} {f g : Nat → Value} (h : ∀ q, q < N → f q = g q) : arrV cI N f = arrV cI N g := by
  unfold arrV
  have e : (Array.ofFn (n := N) fun j => f j.val) = Array.ofFn (n := N) fun j => g j.val := by
    congr 1
    funext j
    exact h j.val j.isLt
  rw [e]
theorem ag_ad_len {k ty len : Nat} (had : ag_ad k = (ty, len)) : len ≤ 360 := by
  unfold ag_ad at had
  split at had <;> (simp only [Prod.mk.injEq] at had; omega)
theorem ag_arrU {s : ag_S} {k q len : Nat} {i x : Int32} (hv : vp_in i len) (hql : q < len) (hlen : len ≤ 360) : updV (fun j => Value.int (s k 0 (nI j))) i.toNatClampNeg (.int x) q = .int (ag_up s k 0 i x k 0 (nI q)) := by
  by_cases hq : q = i.toNatClampNeg
  · subst hq
    simp [updV, ag_up, ag_nI hv]
  · have hne : ¬ nI q = i := fun h => hq (by rw [← h, nI_clamp (by omega)])
    simp [updV, ag_up, hq, hne]
section AGR
variable {p0 : Program} {l : Launch} {e : Env} {R : Room} {st : State} {m : MethodId} {args : Array Value} {below : List Frame} {meth : Method} {c : Code} {H H0 : Heap} {locs : List Loc} {cells slots : Nat} {Q : State → Prop}
variable {cc : ByteArray} {pc : Nat} {ls : Array Slot} {rest : List Value} {z : ag_Z} {n : ag_N} {p : ag_P} {s : ag_S}
theorem ag_get (hx : p0.tables.exec = Jvm.exec) (hb : c.code = cc) (hT : ∀ w ∈ ag_tbl, w.before args st = true) {own : String} (hown : st.vm.findClass own = some m.cls) (hG : ag_G z st st.heap) (hW : ag_W z n p s H) {k ci f N index : Nat} {i : Int32} {ts : List (Nat × Nat)} {t : Nat × Nat} {ref C : String} {T : u_T} (hi : vp_in i (n k)) (hod : ag_od k = some (ci, ts)) (hft : ts[f]? = some t) (hcl : vwCl[ci]? = some (C, T, N)) (hin : ∀ w ∈ u_ws C T N, w ∈ ag_tbl) (hf : f < N)
    (hlink : Cond.fieldLink own index ref (T f).2.1 (T f).2.2.1 ∈ ag_tbl) (hsame : ∀ x, st.fieldFound? (T f).1 (T f).2.1 (T f).2.2.1 = some x → st.fieldFound? ref (T f).2.1 (T f).2.2.1 = some x) (hdg : decode cc pc = .ok (.getfield index, 3))
    (kk : W p0 l e R st m args below meth c H locs cells slots Q (F0 m (pc + 3) ls (ag_val z p t (s k f i) :: rest))) : W p0 l e R st m args below meth c H locs cells slots Q (F0 m pc ls (.ref (p k i) :: rest)) := by
  have hP := ag_one hW hi
  rw [ag_cell_od hod] at hP
  refine va_get (D := z.1) (ci := ci) hx hb (Ts := ag_tbl) hT hin hown hG.1 hP 0 rfl hcl f hf (hT _ hlink) hsame (v := ag_val z p t (s k f i)) ?_ hdg kk
  have := ag_fl_get (fun f t => ag_val z p t (s k f i)) ts 0 f t hft
  simpa using this
theorem ag_put (hx : p0.tables.exec = Jvm.exec) (hb : c.code = cc) (hT : ∀ w ∈ ag_tbl, w.before args st = true) {own : String} (hown : st.vm.findClass own = some m.cls) (hG : ag_G z st st.heap) (hW : ag_W z n p s H) (hS : va_S (ag_A z) H0 H locs) {k ci f N index : Nat} {i x : Int32} {ts : List (Nat × Nat)} {t : Nat × Nat} {ref C : String} {T : u_T} (hi : vp_in i (n k)) (hod : ag_od k = some (ci, ts)) (hft : ts[f]? = some t) (ht : t.1 = 1 → ag_ok n t.2 x ∨ (20 ≤ t.2 ∧ x = -2)) (hcl : vwCl[ci]? = some (C, T, N)) (hin : ∀ w ∈ u_ws C T N, w ∈ ag_tbl) (hf : f < N)
    (ty0 : Nat → FieldType) (hty : ∀ k, k < N → parseFieldDescriptor (T k).2.2.1 = some (ty0 k)) (hnm : ∀ a, a < N → ∀ b, b < N → a ≠ b → (T a).2.1 ≠ (T b).2.1)
    (hlink : Cond.fieldLink own index ref (T f).2.1 (T f).2.2.1 ∈ ag_tbl) (hsame : ∀ x, st.fieldFound? (T f).1 (T f).2.1 (T f).2.2.1 = some x → st.fieldFound? ref (T f).2.1 (T f).2.2.1 = some x)
    (hfin : (T f).2.2.2 = false ∨ ((T f).2.2.2 = true ∧ meth.name = "<init>" ∧ (T f).1 = own)) (hn : narrow (ty0 f) (ag_val z p t x) = ag_val z p t x) (hfit : fits (ty0 f) (ag_val z p t x) = true) (hlen : N = ts.length) (hdg : decode cc pc = .ok (.putfield index, 3))
    (kk : ∀ (H1 : Heap) (locs1 : List Loc), ag_W z n p (ag_up s k f i x) H1 → va_S (ag_A z) H0 H1 locs1 → W p0 l e R st m args below meth c H1 locs1 cells slots Q (F0 m (pc + 3) ls rest)) : W p0 l e R st m args below meth c H locs cells slots Q (F0 m pc ls (ag_val z p t x :: .ref (p k i) :: rest)) := by
  have hK := hG.1
  have hap := va_apart (own := own) hT hin ty0 hty hnm hK hcl
  have hP := ag_one hW hi
  rw [ag_cell_od hod] at hP
  obtain ⟨r, h1, cell, q1, q2, q3, q4⟩ := hP 0 _ rfl
  have hr : r = (C, T, N) := Option.some.inj (h1.symm.trans hcl)
  subst hr
  obtain ⟨hSl, hfc, kC, hkC, hkind⟩ := hK.1 ci _ hcl
  obtain ⟨cf, kf, fi, fd, hfi, hsl⟩ := hSl f hf
  have hst := (u_facts hfc hkC (u_lays hT hin hf) hfi).1
  have hlay := hT _ (hin _ (u_in_lay hf))
  unfold u_lay at hlay
  have hl : f < (ag_fl (fun f t => ag_val z p t (s k f i)) 0 ts).length := by rw [ag_fl_len, ← hlen]; exact hf
  rcases hfin with hfin | ⟨hfin, hin2, hdecl⟩
  · rw [if_neg (by rw [hfin]; decide)] at hlay
    have h6 := u_store hfc hkC hkind hlay hfi (hty f hf) hn hfit
    refine W.putK hx hb (f := fd) ⟨hown, hT _ hlink, ⟨_, _, _, hsame _ hfi⟩, hst⟩ (by rw [q2]; exact h6) q1 q3 (by rw [hsl]; exact k2_hasslot (q4 f hf)) rfl rfl hdg fun H' e1 e2 e3 => ?_
    rw [hsl] at e1 ⊢
    exact kk H' _ (ag_W_put hW hi hod hft ht ⟨_, hcl, t_OB.to (V := updV (vp_V _) f (ag_val z p t x)) ⟨_, e1, q2, q3, t_set q4 hap hf _⟩ (fun j _ => vp_updV_set hl _ j)⟩ e3) (hS.put e2 e3 (hW.1 k i hi).2)
  · rw [if_pos hfin] at hlay
    have hcf : m.cls = cf := by
      obtain ⟨_, _, c', _, _, _, -, -, hf', -, -, -, hown2, -⟩ := Cond.laysFinal_spec hlay
      have e1 : c' = cf := by have := hfi.symm.trans hf'; simp at this; exact this.1.symm
      rw [hdecl] at hown2
      rw [← e1]; exact Option.some.inj (hown.symm.trans hown2)
    have h6 := u_fits hfc hkC hkind (Or.inr hlay) hfi (hty f hf) hn hfit
    refine W.putFinK hx hb hown (hT _ hlink) (hsame _ hfi) hst hcf hin2 (by rw [q2]; exact h6) q1 q3 (by rw [hsl]; exact k2_hasslot (q4 f hf)) rfl rfl hdg fun H' e1 e2 e3 => ?_
    rw [hsl] at e1 ⊢
    exact kk H' _ (ag_W_put hW hi hod hft ht ⟨_, hcl, t_OB.to (V := updV (vp_V _) f (ag_val z p t x)) ⟨_, e1, q2, q3, t_set q4 hap hf _⟩ (fun j _ => vp_updV_set hl _ j)⟩ e3) (hS.put e2 e3 (hW.1 k i hi).2)
theorem ag_iald (hx : p0.tables.exec = Jvm.exec) (hb : c.code = cc) (hG : ag_G z st st.heap) (hW : ag_W z n p s H) {k len : Nat} {i : Int32} (h0 : vp_in 0 (n k)) (hod : ag_od k = none) (had : ag_ad k = (0, len)) (hv : vp_in i len) (hdg : decode cc pc = .ok (.iaload, 1))
    (kk : W p0 l e R st m args below meth c H locs cells slots Q (F0 m (pc + 1) ls (.int (s k 0 i) :: rest))) : W p0 l e R st m args below meth c H locs cells slots Q (F0 m pc ls (.int i :: .ref (p k 0) :: rest)) := by
  have hP := ag_one hW h0
  rw [ag_cell_ad hod] at hP
  have ha : ag_arr z p s k 0 = (z.2.1 0, len, .inl (fun q => s k 0 (nI q))) := by unfold ag_arr; rw [had]; rfl
  rw [ha] at hP
  refine va_iald hx hb hG.1 hP 0 0 rfl rfl hv hdg ?_
  rw [ag_nI hv]
  exact kk
theorem ag_zald (hx : p0.tables.exec = Jvm.exec) (hb : c.code = cc) (hG : ag_G z st st.heap) (hW : ag_W z n p s H) {k len : Nat} {i : Int32} (h0 : vp_in 0 (n k)) (hod : ag_od k = none) (had : ag_ad k = (1, len)) (hv : vp_in i len) (hdg : decode cc pc = .ok (.baload, 1))
    (kk : W p0 l e R st m args below meth c H locs cells slots Q (F0 m (pc + 1) ls (.int (s k 0 i) :: rest))) : W p0 l e R st m args below meth c H locs cells slots Q (F0 m pc ls (.int i :: .ref (p k 0) :: rest)) := by
  have hP := ag_one hW h0
  rw [ag_cell_ad hod] at hP
  have ha : ag_arr z p s k 0 = (z.2.1 1, len, .inl (fun q => s k 0 (nI q))) := by unfold ag_arr; rw [had]; rfl
  rw [ha] at hP
  refine va_zald hx hb hG.1 hP 0 1 rfl rfl hv hdg ?_
  rw [ag_nI hv]
  exact kk
theorem ag_iast (hx : p0.tables.exec = Jvm.exec) (hb : c.code = cc) (hG : ag_G z st st.heap) (hW : ag_W z n p s H) (hS : va_S (ag_A z) H0 H locs) {k len : Nat} {i x : Int32} (h0 : vp_in 0 (n k)) (hod : ag_od k = none) (had : ag_ad k = (0, len)) (hk80 : k < 80) (hv : vp_in i len) (hdg : decode cc pc = .ok (.iastore, 1))
    (kk : ∀ (H1 : Heap) (locs1 : List Loc), ag_W z n p (ag_up s k 0 i x) H1 → va_S (ag_A z) H0 H1 locs1 → W p0 l e R st m args below meth c H1 locs1 cells slots Q (F0 m (pc + 1) ls rest)) : W p0 l e R st m args below meth c H locs cells slots Q (F0 m pc ls (.int x :: .int i :: .ref (p k 0) :: rest)) := by
  have hP := ag_one hW h0
  rw [ag_cell_ad hod] at hP
  have ha : ∀ s : ag_S, ag_arr z p s k 0 = (z.2.1 0, len, .inl (fun q => s k 0 (nI q))) := by intro s; unfold ag_arr; rw [had]; rfl
  rw [ha] at hP
  refine W.iast hx hb (hP 0 _ rfl) ((hG.1.2 0 _ rfl).1 len (fun j => .int (s k 0 (nI j)))) (fun q => by cases q) (by show ¬ (i < 0 ∨ (arrV _ _ _).slots.size ≤ _); rw [arrV_size]; exact hv) rfl rfl hdg fun H1 e1 e2 oq => ?_
  refine kk H1 _ (ag_W_ast (c := 0) hW h0 hod had (by decide) (by omega) hv ?_ oq) (hS.put e2 oq (hW.1 k 0 h0).2)
  show H1[_]? = some (vp_cell _ _)
  rw [e1]
  rw [ha]
  rw [vp_cell_i, vp_cell_i, arrV_store]
  exact congrArg some (ag_arrV fun q hql => ag_arrU hv hql (ag_ad_len had))
theorem ag_zast (hx : p0.tables.exec = Jvm.exec) (hb : c.code = cc) (hG : ag_G z st st.heap) (hW : ag_W z n p s H) (hS : va_S (ag_A z) H0 H locs) {k len : Nat} {i x : Int32} (h0 : vp_in 0 (n k)) (hod : ag_od k = none) (had : ag_ad k = (1, len)) (hk80 : k < 80) (hv : vp_in i len) (hxb : narrow .boolean (.int x) = .int x) (hdg : decode cc pc = .ok (.bastore, 1))
    (kk : ∀ (H1 : Heap) (locs1 : List Loc), ag_W z n p (ag_up s k 0 i x) H1 → va_S (ag_A z) H0 H1 locs1 → W p0 l e R st m args below meth c H1 locs1 cells slots Q (F0 m (pc + 1) ls rest)) : W p0 l e R st m args below meth c H locs cells slots Q (F0 m pc ls (.int x :: .int i :: .ref (p k 0) :: rest)) := by
  have hP := ag_one hW h0
  rw [ag_cell_ad hod] at hP
  have ha : ∀ s : ag_S, ag_arr z p s k 0 = (z.2.1 1, len, .inl (fun q => s k 0 (nI q))) := by intro s; unfold ag_arr; rw [had]; rfl
  rw [ha] at hP
  refine W.zast hx hb (hP 0 _ rfl) ((hG.1.2 1 _ rfl).1 len (fun j => .int (s k 0 (nI j)))) (fun q => by cases q) (by show ¬ (i < 0 ∨ (arrV _ _ _).slots.size ≤ _); rw [arrV_size]; exact hv) rfl rfl hdg fun H1 e1 e2 oq => ?_
  refine kk H1 _ (ag_W_ast (c := 0) hW h0 hod had (by decide) (by omega) hv ?_ oq) (hS.put e2 oq (hW.1 k 0 h0).2)
  show H1[_]? = some (vp_cell _ _)
  rw [e1]
  rw [ha]
  rw [vp_cell_i, vp_cell_i, arrV_store, hxb]
  exact congrArg some (ag_arrV fun q hql => ag_arrU hv hql (ag_ad_len had))
theorem ag_last (hx : p0.tables.exec = Jvm.exec) (hb : c.code = cc) (hG : ag_G z st st.heap) (hW : ag_W z n p s H) (hS : va_S (ag_A z) H0 H locs) {k len : Nat} {i x : Int32} (h0 : vp_in 0 (n k)) (hod : ag_od k = none) (had : ag_ad k = (2, len)) (hk80 : k < 80) (hv : vp_in i len) (hdg : decode cc pc = .ok (.lastore, 1))
    (kk : ∀ (H1 : Heap) (locs1 : List Loc), ag_W z n p (ag_up s k 0 i x) H1 → va_S (ag_A z) H0 H1 locs1 → W p0 l e R st m args below meth c H1 locs1 cells slots Q (F0 m (pc + 1) ls rest)) : W p0 l e R st m args below meth c H locs cells slots Q (F0 m pc ls (.long x.toInt64 :: .int i :: .ref (p k 0) :: rest)) := by
  have hP := ag_one hW h0
  rw [ag_cell_ad hod] at hP
  have ha : ∀ s : ag_S, ag_arr z p s k 0 = (z.2.1 2, len, .inr (.inl (fun q => (s k 0 (nI q)).toInt64))) := by intro s; unfold ag_arr; rw [had]; rfl
  rw [ha] at hP
  refine W.last hx hb (hP 0 _ rfl) ((hG.1.2 2 _ rfl).1 len (fun j => .long (s k 0 (nI j)).toInt64)) (fun q => by cases q) (by show ¬ (i < 0 ∨ (arrV _ _ _).slots.size ≤ _); rw [arrV_size]; exact hv) rfl rfl hdg fun H1 e1 e2 oq => ?_
  refine kk H1 _ (ag_W_ast (c := 0) hW h0 hod had (by decide) (by omega) hv ?_ oq) (hS.put e2 oq (hW.1 k 0 h0).2)
  show H1[_]? = some (vp_cell _ _)
  rw [e1]
  rw [ha]
  rw [vp_cell_l, vp_cell_l, arrV_store]
  refine congrArg some (ag_arrV fun q hql => ?_)
  have hlen := ag_ad_len had
  by_cases hq : q = i.toNatClampNeg
  · subst hq
    simp [updV, ag_up, ag_nI hv]
  · have hne : ¬ nI q = i := fun h => hq (by rw [← h, nI_clamp (by omega)])
    simp [updV, ag_up, hq, hne]
theorem ag_lald (hx : p0.tables.exec = Jvm.exec) (hb : c.code = cc) (hG : ag_G z st st.heap) (hW : ag_W z n p s H) {k len : Nat} {i : Int32} (h0 : vp_in 0 (n k)) (hod : ag_od k = none) (had : ag_ad k = (2, len)) (hv : vp_in i len) (hdg : decode cc pc = .ok (.laload, 1))
    (kk : W p0 l e R st m args below meth c H locs cells slots Q (F0 m (pc + 1) ls (.long (s k 0 i).toInt64 :: rest))) : W p0 l e R st m args below meth c H locs cells slots Q (F0 m pc ls (.int i :: .ref (p k 0) :: rest)) := by
  have hP := ag_one hW h0
  rw [ag_cell_ad hod] at hP
  have ha : ag_arr z p s k 0 = (z.2.1 2, len, .inr (.inl (fun q => (s k 0 (nI q)).toInt64))) := by unfold ag_arr; rw [had]; rfl
  rw [ha] at hP
  refine va_lald hx hb hG.1 hP 0 2 rfl rfl hv hdg ?_
  rw [ag_nI hv]
  exact kk
end AGR

/-! ===== calls over the world ===== -/
def ag_bt {α : Type} (x : Option ((Int32 ⊕ Int32) × ag_S)) (k : Int32 → ag_S → Option ((Int32 ⊕ Int32) × α)) (g : ag_S → α) : Option ((Int32 ⊕ Int32) × α) := match x with
  | none => none
  | some (.inl r, s) => k r s
  | some (.inr e, s) => some (.inr e, g s)
def ag_bd {α β : Type} (x : Option α) (k : α → Option β) : Option β := match x with
  | none => none
  | some r => k r
theorem ag_bs {α β : Type} {x : Option α} {k : α → Option β} {o : β} (h : ag_bd x k = some o) : ∃ r, x = some r ∧ k r = some o := by
  cases x with
  | none => cases h
  | some r => exact ⟨r, rfl, h⟩
theorem ag_t {α : Type} {c : Prop} [Decidable c] {a b : Option α} {o : α} (hc : c) (h : (if c then a else b) = some o) : a = some o := by rw [if_pos hc] at h; exact h
theorem ag_f {α : Type} {c : Prop} [Decidable c] {a b : Option α} {o : α} (hc : ¬ c) (h : (if c then a else b) = some o) : b = some o := by rw [if_neg hc] at h; exact h
/-- a test that must hold, or the function is stuck -/
theorem ag_m {α : Type} {c : Prop} [Decidable c] {b : Option α} {o : α} (h : (if c then b else none) = some o) : c ∧ b = some o := by
  by_cases hc : c
  · exact ⟨hc, ag_t hc h⟩
  · rw [if_neg hc] at h; cases h
theorem ag_n {α : Type} {c : Prop} [Decidable c] {b : Option α} {o : α} (h : (if c then none else b) = some o) : ¬ c ∧ b = some o := by
  by_cases hc : c
  · rw [if_pos hc] at h; cases h
  · exact ⟨hc, ag_f hc h⟩
