theorem ag_new_v {n : ag_N} {k : Nat} (h : ¬ 1000 ≤ n k) : vp_in (nI (n k)) (ag_nn n k k) := by
  unfold ag_nn
  rw [if_pos rfl]
  exact ag_new_in (Nat.lt_of_not_le h)
theorem ag_new_0 {n : ag_N} {k : Nat} (h : n k = 0) : vp_in 0 (ag_nn n k k) := by
  unfold ag_nn
  rw [if_pos rfl, h]
  exact ag_0in (by decide)
/-- the length of a list's array, the static one's too -/
def ag_ln (s : ag_S) (k : Nat) (c : Int32) : Int32 := if c = -2 then 0 else nI (s k 0 c).toNatClampNeg
theorem ag_lor {z : ag_Z} {n : ag_N} {p : ag_P} {s : ag_S} {H : Heap} (hW : ag_W z n p s H) {k ci f t : Nat} {ts : List (Nat × Nat)} {i : Int32} (hod : ag_od k = some (ci, ts)) (hf : ts[f]? = some (1, t)) (hn : ¬ s k f i = -1) : s k f i = -2 ∨ vp_in (s k f i) (n t) := by
  rcases hW.2.2.1.1 k ci ts f t hod hf i with h | ⟨-, h⟩
  · exact Or.inr (h.resolve_left hn)
  · exact Or.inl h
abbrev ag_Pi (z : ag_Z) (n : ag_N) (p : ag_P) (r0 : Int32) (n1 : ag_N) (s1 : ag_S) : Array Value → State → Outcome → State → Prop := va_Qi (fun r (_ : ag_P) => r = r0) (fun p1 t => (ag_ext n p p1 ∧ ag_le n n1) ∧ ag_W z n1 p1 s1 t.heap) (ag_A z)
abbrev ag_Pv (z : ag_Z) (n : ag_N) (p : ag_P) (n1 : ag_N) (s1 : ag_S) : Array Value → State → Outcome → State → Prop := va_Qv (fun (_ : ag_P) => True) (fun p1 t => (ag_ext n p p1 ∧ ag_le n n1) ∧ ag_W z n1 p1 s1 t.heap) (ag_A z)
abbrev ag_Pr (z : ag_Z) (n : ag_N) (p : ag_P) (k : Nat) (r0 : Int32) (n1 : ag_N) (s1 : ag_S) : Array Value → State → Outcome → State → Prop := va_Qr (fun (_ : ag_P) => True) (fun p1 ra t => (ra = p1 k r0 ∧ vp_in r0 (n1 k)) ∧ (ag_ext n p p1 ∧ ag_le n n1) ∧ ag_W z n1 p1 s1 t.heap) (ag_A z)
abbrev ag_PXi (z : ag_Z) (n : ag_N) (p : ag_P) (o : (Int32 ⊕ Int32) × (ag_N × ag_S)) : Array Value → State → Outcome → State → Prop := va_Qi (fun r (_ : ag_P) => o.1 = .inl r) (fun p1 t => (ag_ext n p p1 ∧ ag_le n o.2.1) ∧ ag_W z o.2.1 p1 o.2.2 t.heap) (ag_A z)
abbrev ag_PXX (z : ag_Z) (n : ag_N) (p : ag_P) (o : (Int32 ⊕ Int32) × (ag_N × ag_S)) : String → State → State → Prop := vx_X (fun (_ : ag_P) => True) (fun E p1 t => ag_ex E o.1 ∧ (ag_ext n p p1 ∧ ag_le n o.2.1) ∧ ag_W z o.2.1 p1 o.2.2 t.heap) (ag_A z)
section AGAC
variable {p0 : Program} {l : Launch} {e : Env} {R : Room} {st : State} {m : MethodId} {args : Array Value} {below : List Frame} {meth : Method} {c : Code} {H : Heap} {locs : List Loc} {cells slots : Nat} {Q : State → Prop}
variable {cc : ByteArray} {pc nL : Nat} {ls : Array Slot} {rest stk As : List Value} {z : ag_Z} {n n1 n0 : ag_N} {p p9 : ag_P} {s s1 : ag_S} {r0 : Int32} {o : (Int32 ⊕ Int32) × (ag_N × ag_S)}
variable {own C : String} {index maxL k ci N k1 mc ms C1 S1 : Nat} {y : MethodName} {bytes : ByteArray} {ret : Option FieldType} {rm : Room} {i : Int32} {ts : List (Nat × Nat)} {T : u_T}
/-- the length, of the static array too -/
theorem ag_alenE {k k6 d : Nat} {v : Int32} (hx : p0.tables.exec = Jvm.exec) (hb : c.code = cc) (hG : ag_G z st st.heap) (hS : va_S (ag_A z) st.heap H locs) (hW : ag_W z n p s H) (hv : v = -2 ∨ vp_in v (n k)) (hod : ag_od k = none) (had : ag_ad k = (3, d)) (hk6 : k + 60 = k6) (hdg : decode cc pc = .ok (.arraylength, 1))
    (kk : W p0 l e R st m args below meth c H locs cells slots Q (F0 m (pc + 1) ls (.int (ag_ln s k6 v) :: rest))) : W p0 l e R st m args below meth c H locs cells slots Q (F0 m pc ls (va_rf (ag_ro z p k v) :: rest)) := by
  by_cases h2 : v = -2
  · have e1 : ag_ro z p k v = some z.2.2.2 := by subst h2; simp [ag_ro]
    rw [e1]
    refine ag_len0 hx hb hG hS hdg ?_
    have e2 : ag_ln s k6 v = 0 := by unfold ag_ln; rw [if_pos h2]
    rw [e2] at kk
    exact kk
  · have hv2 := hv.resolve_left h2
    have e1 := (ag_ref (z := z) (p := p) (Or.inr hv2) (fun q => hv2 (Or.inl (by rw [q]; decide)))).1
    rw [e1]
    refine ag_alen hx hb hG hW hv2 hod had hk6 hdg ?_
    have e2 : ag_ln s k6 v = nI (s k6 0 v).toNatClampNeg := by unfold ag_ln; rw [if_neg h2]
    rw [e2] at kk
    exact kk

theorem ag_gH {own : String} {idx maxL : Nat} {y : MethodName} {bytes : ByteArray} {ret : Option FieldType} {hh : List (Nat × Nat × Nat × Nat)} (h1 : Cond.methodLink own idx y ∈ ag_tbl) (h2 : Cond.static y ∈ ag_tbl) (h4 : Cond.initialized y.cls ∈ ag_tbl) (h5 : Cond.codeWith y bytes maxL ret hh ∈ ag_tbl) : GoodIn ag_tbl (va_wsS own idx y (ag_wsH y bytes maxL ret hh)) := by
  refine ag_goodIn fun w hw => ?_
  simp only [va_wsS, ag_wsH, List.cons_append, List.nil_append, List.mem_cons] at hw
  rcases hw with rfl | rfl | rfl | rfl | hw
  · exact h1
  · exact h2
  · exact h4
  · exact h5
  · exact hw
theorem ag_aVi (hx : p0.tables.exec = Jvm.exec) (hb : c.code = cc) (hml : c.maxLocals = nL) (hT : ∀ w ∈ ag_tbl, w.before args st = true) (hown : st.vm.findClass own = some m.cls) (hG : ag_G z st st.heap) (h0 : z.2.2.1 ≤ st.heap.size) (hS : va_S (ag_A z) st.heap H locs) (hW : ag_W z n p s H)
    (hM : Met l y (ag_ws y bytes maxL ret) rm (va_Pc (.ref (p k i) :: As) (ag_Pre z n p s)) (ag_Pi z n p r0 n1 s1) mc ms (ag_A z)) (hr0 : rm.cells = mc ∧ rm.slots = ms)
    (q1 : Cond.methodLink own index y ∈ ag_tbl) (q2 : Cond.instanceMethod y ∈ ag_tbl) (q3 : Cond.selects C y y ∈ ag_tbl) (q4 : Cond.initialized C ∈ ag_tbl) (q5 : Cond.code y bytes maxL ret ∈ ag_tbl) (hd : y.cls = C ∧ y.cls ≠ "java/lang/invoke/MethodHandle" ∧ y.cls ≠ "java/lang/invoke/VarHandle" ∧ (parseMethodDescriptor y.desc).map (fun d => d.parameters.length) = some As.length)
    (hR : rm.frames + 1 ≤ R.frames ∧ 8 + (maxL + 11) + rm.locals ≤ R.locals)
    (hi : vp_in i (n k)) (hod : ag_od k = some (ci, ts)) (hcl : vwCl[ci]? = some (C, T, N))
    (hls : ls.size = nL) (hstk : stk = As.reverse ++ .ref (p k i) :: rest) (h8 : (rest.map fun v => v.category).sum ≤ 8) (hcs : cells + mc ≤ R.cells ∧ slots + ms ≤ R.slots) (hdg : decode cc pc = .ok (.invokevirtual index, 3)) (gC : cells + mc ≤ C1) (gS : slots + ms ≤ S1)
    (kk : ∀ (p9 : ag_P) (H1 : Heap) (locs1 : List Loc), ag_ext n p p9 → ag_le n n1 → ag_W z n1 p9 s1 H1 → va_S (ag_A z) st.heap H1 locs1 → W p0 l e R st m args below meth c H1 locs1 C1 S1 Q (F0 m (pc + 3) ls (.int r0 :: rest))) : W p0 l e R st m args below meth c H locs cells slots Q (F0 m pc ls stk) := by
  subst hstk
  refine va_calli (va_runV (As := As) (rest := rest) ⟨hx, hb, hml, hown, hT⟩ hM (cwV As.length hT (ag_gV q1 q2 q3 q4 q5) rfl hr0.1 hr0.2 hd hR) ⟨ag_Pre.blind, ag_recv hG hW hi hod hcl, fun U hU hV => ⟨rfl, ag_Pre.to (s0 := s) h0 hG hS hW U hU hV⟩⟩ rfl rfl hls rfl (lv_room h8) hdg hcs) hS (fun _ _ h => h) (fun _ h => h) (fun r u t H1 locs1 ht hvm hw hB hz hk hS1 => W.widen gC gS ?_)
  obtain ⟨⟨he, hle⟩, hB⟩ := hB
  subst hw
  rw [ht] at hB
  exact kk u H1 locs1 he hle hB hS1
theorem ag_aVv (hx : p0.tables.exec = Jvm.exec) (hb : c.code = cc) (hml : c.maxLocals = nL) (hT : ∀ w ∈ ag_tbl, w.before args st = true) (hown : st.vm.findClass own = some m.cls) (hG : ag_G z st st.heap) (h0 : z.2.2.1 ≤ st.heap.size) (hS : va_S (ag_A z) st.heap H locs) (hW : ag_W z n p s H)
    (hM : Met l y (ag_ws y bytes maxL ret) rm (va_Pc (.ref (p k i) :: As) (ag_Pre z n p s)) (ag_Pv z n p n1 s1) mc ms (ag_A z)) (hr0 : rm.cells = mc ∧ rm.slots = ms)
    (q1 : Cond.methodLink own index y ∈ ag_tbl) (q2 : Cond.instanceMethod y ∈ ag_tbl) (q3 : Cond.selects C y y ∈ ag_tbl) (q4 : Cond.initialized C ∈ ag_tbl) (q5 : Cond.code y bytes maxL ret ∈ ag_tbl) (hd : y.cls = C ∧ y.cls ≠ "java/lang/invoke/MethodHandle" ∧ y.cls ≠ "java/lang/invoke/VarHandle" ∧ (parseMethodDescriptor y.desc).map (fun d => d.parameters.length) = some As.length)
    (hR : rm.frames + 1 ≤ R.frames ∧ 8 + (maxL + 11) + rm.locals ≤ R.locals)
    (hi : vp_in i (n k)) (hod : ag_od k = some (ci, ts)) (hcl : vwCl[ci]? = some (C, T, N))
    (hls : ls.size = nL) (hstk : stk = As.reverse ++ .ref (p k i) :: rest) (h8 : (rest.map fun v => v.category).sum ≤ 8) (hcs : cells + mc ≤ R.cells ∧ slots + ms ≤ R.slots) (hdg : decode cc pc = .ok (.invokevirtual index, 3)) (gC : cells + mc ≤ C1) (gS : slots + ms ≤ S1)
    (kk : ∀ (p9 : ag_P) (H1 : Heap) (locs1 : List Loc), ag_ext n p p9 → ag_le n n1 → ag_W z n1 p9 s1 H1 → va_S (ag_A z) st.heap H1 locs1 → W p0 l e R st m args below meth c H1 locs1 C1 S1 Q (F0 m (pc + 3) ls rest)) : W p0 l e R st m args below meth c H locs cells slots Q (F0 m pc ls stk) := by
  subst hstk
  refine va_callv (va_runV (As := As) (rest := rest) ⟨hx, hb, hml, hown, hT⟩ hM (cwV As.length hT (ag_gV q1 q2 q3 q4 q5) rfl hr0.1 hr0.2 hd hR) ⟨ag_Pre.blind, ag_recv hG hW hi hod hcl, fun U hU hV => ⟨rfl, ag_Pre.to (s0 := s) h0 hG hS hW U hU hV⟩⟩ rfl rfl hls rfl (lv_room h8) hdg hcs) hS (fun _ _ h => h) (fun _ h => h) (fun u t H1 locs1 ht hvm hw hB hz hk hS1 => W.widen gC gS ?_)
  obtain ⟨⟨he, hle⟩, hB⟩ := hB
  rw [ht] at hB
  exact kk u H1 locs1 he hle hB hS1
theorem ag_aVr (hx : p0.tables.exec = Jvm.exec) (hb : c.code = cc) (hml : c.maxLocals = nL) (hT : ∀ w ∈ ag_tbl, w.before args st = true) (hown : st.vm.findClass own = some m.cls) (hG : ag_G z st st.heap) (h0 : z.2.2.1 ≤ st.heap.size) (hS : va_S (ag_A z) st.heap H locs) (hW : ag_W z n p s H)
    (hM : Met l y (ag_ws y bytes maxL ret) rm (va_Pc (.ref (p k i) :: As) (ag_Pre z n p s)) (ag_Pr z n p k1 r0 n1 s1) mc ms (ag_A z)) (hr0 : rm.cells = mc ∧ rm.slots = ms)
    (q1 : Cond.methodLink own index y ∈ ag_tbl) (q2 : Cond.instanceMethod y ∈ ag_tbl) (q3 : Cond.selects C y y ∈ ag_tbl) (q4 : Cond.initialized C ∈ ag_tbl) (q5 : Cond.code y bytes maxL ret ∈ ag_tbl) (hd : y.cls = C ∧ y.cls ≠ "java/lang/invoke/MethodHandle" ∧ y.cls ≠ "java/lang/invoke/VarHandle" ∧ (parseMethodDescriptor y.desc).map (fun d => d.parameters.length) = some As.length)
    (hR : rm.frames + 1 ≤ R.frames ∧ 8 + (maxL + 11) + rm.locals ≤ R.locals)
    (hi : vp_in i (n k)) (hod : ag_od k = some (ci, ts)) (hcl : vwCl[ci]? = some (C, T, N))
    (hls : ls.size = nL) (hstk : stk = As.reverse ++ .ref (p k i) :: rest) (h8 : (rest.map fun v => v.category).sum ≤ 8) (hcs : cells + mc ≤ R.cells ∧ slots + ms ≤ R.slots) (hdg : decode cc pc = .ok (.invokevirtual index, 3)) (gC : cells + mc ≤ C1) (gS : slots + ms ≤ S1)
    (kk : ∀ (p9 : ag_P) (H1 : Heap) (locs1 : List Loc), ag_ext n p p9 → ag_le n n1 → ag_W z n1 p9 s1 H1 → va_S (ag_A z) st.heap H1 locs1 → vp_in r0 (n1 k1) → W p0 l e R st m args below meth c H1 locs1 C1 S1 Q (F0 m (pc + 3) ls (.ref (p9 k1 r0) :: rest))) : W p0 l e R st m args below meth c H locs cells slots Q (F0 m pc ls stk) := by
  subst hstk
  refine va_callr (va_runV (As := As) (rest := rest) ⟨hx, hb, hml, hown, hT⟩ hM (cwV As.length hT (ag_gV q1 q2 q3 q4 q5) rfl hr0.1 hr0.2 hd hR) ⟨ag_Pre.blind, ag_recv hG hW hi hod hcl, fun U hU hV => ⟨rfl, ag_Pre.to (s0 := s) h0 hG hS hW U hU hV⟩⟩ rfl rfl hls rfl (lv_room h8) hdg hcs) hS (fun _ _ h => h) (fun _ h => h) (fun u ra t H1 locs1 ht hvm hw hB hz hk hS1 => W.widen gC gS ?_)
  obtain ⟨⟨rfl, hv⟩, ⟨he, hle⟩, hB⟩ := hB
  rw [ht] at hB
  exact kk u H1 locs1 he hle hB hS1 hv
theorem ag_aSr (hx : p0.tables.exec = Jvm.exec) (hb : c.code = cc) (hml : c.maxLocals = nL) (hT : ∀ w ∈ ag_tbl, w.before args st = true) (hown : st.vm.findClass own = some m.cls) (hG : ag_G z st st.heap) (h0 : z.2.2.1 ≤ st.heap.size) (hS : va_S (ag_A z) st.heap H locs) (hW : ag_W z n p s H)
    (hM : Met l y (ag_ws y bytes maxL ret) rm (va_Pc As (ag_Pre z n p s)) (ag_Pr z n p k1 r0 n1 s1) mc ms (ag_A z)) (hr0 : rm.cells = mc ∧ rm.slots = ms)
    (q1 : Cond.methodLink own index y ∈ ag_tbl) (q2 : Cond.static y ∈ ag_tbl) (q4 : Cond.initialized y.cls ∈ ag_tbl) (q5 : Cond.code y bytes maxL ret ∈ ag_tbl) (hd : y.cls ≠ "java/lang/invoke/MethodHandle" ∧ y.cls ≠ "java/lang/invoke/VarHandle" ∧ (parseMethodDescriptor y.desc).map (fun d => d.parameters.length) = some As.length)
    (hR : rm.frames + 1 ≤ R.frames ∧ 8 + (maxL + 11) + rm.locals ≤ R.locals)
    (hls : ls.size = nL) (hstk : stk = As.reverse ++ rest) (h8 : (rest.map fun v => v.category).sum ≤ 8) (hcs : cells + mc ≤ R.cells ∧ slots + ms ≤ R.slots) (hdg : decode cc pc = .ok (.invokestatic index, 3)) (gC : cells + mc ≤ C1) (gS : slots + ms ≤ S1)
    (kk : ∀ (p9 : ag_P) (H1 : Heap) (locs1 : List Loc), ag_ext n p p9 → ag_le n n1 → ag_W z n1 p9 s1 H1 → va_S (ag_A z) st.heap H1 locs1 → vp_in r0 (n1 k1) → W p0 l e R st m args below meth c H1 locs1 C1 S1 Q (F0 m (pc + 3) ls (.ref (p9 k1 r0) :: rest))) : W p0 l e R st m args below meth c H locs cells slots Q (F0 m pc ls stk) := by
  subst hstk
  refine va_callr (va_runS (As := As) (rest := rest) ⟨hx, hb, hml, hown, hT⟩ hM (va_cwS As.length hT (ag_gS q1 q2 q4 q5) rfl hr0.1 hr0.2 hd hR) ⟨ag_Pre.blind, fun U hU hV => ⟨rfl, ag_Pre.to (s0 := s) h0 hG hS hW U hU hV⟩⟩ rfl rfl hls rfl (lv_room h8) hdg hcs) hS (fun _ _ h => h) (fun _ h => h) (fun u ra t H1 locs1 ht hvm hw hB hz hk hS1 => W.widen gC gS ?_)
  obtain ⟨⟨rfl, hv⟩, ⟨he, hle⟩, hB⟩ := hB
  rw [ht] at hB
  exact kk u H1 locs1 he hle hB hS1 hv
theorem ag_aIv (hx : p0.tables.exec = Jvm.exec) (hb : c.code = cc) (hml : c.maxLocals = nL) (hT : ∀ w ∈ ag_tbl, w.before args st = true) (hown : st.vm.findClass own = some m.cls) (hG : ag_G z st st.heap) (h0 : z.2.2.1 ≤ st.heap.size) (hS : va_S (ag_A z) st.heap H locs) (hW : ag_W z n p s H)
    (hM : Met l y (ag_ws y bytes maxL none) rm (va_Pc (.ref (p k i) :: As) (ag_Pre z n p s)) (ag_Pv z n p n1 s1) mc ms (ag_A z)) (hr0 : rm.cells = mc ∧ rm.slots = ms)
    (q1 : Cond.methodLink own index y ∈ ag_tbl) (q2 : Cond.instanceMethod y ∈ ag_tbl) (q4 : Cond.initialized y.cls ∈ ag_tbl) (q5 : Cond.code y bytes maxL none ∈ ag_tbl) (hy1 : y.name = "<init>") (hd : y.cls ≠ "java/lang/invoke/MethodHandle" ∧ y.cls ≠ "java/lang/invoke/VarHandle" ∧ (parseMethodDescriptor y.desc).map (fun d => d.parameters.length) = some As.length)
    (hR : rm.frames + 1 ≤ R.frames ∧ 8 + (maxL + 11) + rm.locals ≤ R.locals)
    (hls : ls.size = nL) (hstk : stk = As.reverse ++ .ref (p k i) :: rest) (h8 : (rest.map fun v => v.category).sum ≤ 8) (hcs : cells + mc ≤ R.cells ∧ slots + ms ≤ R.slots) (hdg : decode cc pc = .ok (.invokespecial index, 3)) (gC : cells + mc ≤ C1) (gS : slots + ms ≤ S1)
    (kk : ∀ (p9 : ag_P) (H1 : Heap) (locs1 : List Loc), ag_ext n p p9 → ag_le n n1 → ag_W z n1 p9 s1 H1 → va_S (ag_A z) st.heap H1 locs1 → W p0 l e R st m args below meth c H1 locs1 C1 S1 Q (F0 m (pc + 3) ls rest)) : W p0 l e R st m args below meth c H locs cells slots Q (F0 m pc ls stk) := by
  subst hstk
  refine va_callv (va_runI (As := As) (rest := rest) ⟨hx, hb, hml, hown, hT⟩ hM (cwI As.length hT (ag_gI q5) rfl hr0.1 hr0.2 (hT _ q4) (hT _ q1) (hT _ q2) hy1 hd hR) ⟨ag_Pre.blind, fun U hU hV => ⟨rfl, ag_Pre.to (s0 := s) h0 hG hS hW U hU hV⟩⟩ rfl rfl hls rfl (lv_room h8) hdg hcs) hS (fun _ _ h => h) (fun _ h => h) (fun u t H1 locs1 ht hvm hw hB hz hk hS1 => W.widen gC gS ?_)
  obtain ⟨⟨he, hle⟩, hB⟩ := hB
  rw [ht] at hB
  exact kk u H1 locs1 he hle hB hS1
theorem ag_aHi {hh : List (Nat × Nat × Nat × Nat)} (hx : p0.tables.exec = Jvm.exec) (hb : c.code = cc) (hml : c.maxLocals = nL) (hT : ∀ w ∈ ag_tbl, w.before args st = true) (hown : st.vm.findClass own = some m.cls) (hG : ag_G z st st.heap) (h0 : z.2.2.1 ≤ st.heap.size) (hS : va_S (ag_A z) st.heap H locs) (hW : ag_W z n p s H)
    (hM : Met l y (ag_wsH y bytes maxL ret hh) rm (va_Pc As (ag_Pre z n p s)) (ag_Pi z n p r0 n1 s1) mc ms (ag_A z)) (hr0 : rm.cells = mc ∧ rm.slots = ms)
    (q1 : Cond.methodLink own index y ∈ ag_tbl) (q2 : Cond.static y ∈ ag_tbl) (q4 : Cond.initialized y.cls ∈ ag_tbl) (q5 : Cond.codeWith y bytes maxL ret hh ∈ ag_tbl) (hd : y.cls ≠ "java/lang/invoke/MethodHandle" ∧ y.cls ≠ "java/lang/invoke/VarHandle" ∧ (parseMethodDescriptor y.desc).map (fun d => d.parameters.length) = some As.length)
    (hR : rm.frames + 1 ≤ R.frames ∧ 8 + (maxL + 11) + rm.locals ≤ R.locals)
    (hls : ls.size = nL) (hstk : stk = As.reverse ++ rest) (h8 : (rest.map fun v => v.category).sum ≤ 8) (hcs : cells + mc ≤ R.cells ∧ slots + ms ≤ R.slots) (hdg : decode cc pc = .ok (.invokestatic index, 3)) (gC : cells + mc ≤ C1) (gS : slots + ms ≤ S1)
    (kk : ∀ (p9 : ag_P) (H1 : Heap) (locs1 : List Loc), ag_ext n p p9 → ag_le n n1 → ag_W z n1 p9 s1 H1 → va_S (ag_A z) st.heap H1 locs1 → W p0 l e R st m args below meth c H1 locs1 C1 S1 Q (F0 m (pc + 3) ls (.int r0 :: rest))) : W p0 l e R st m args below meth c H locs cells slots Q (F0 m pc ls stk) := by
  subst hstk
  refine va_calli (vx_runSW (As := As) (rest := rest) ⟨hx, hb, hml, hown, hT⟩ hM (vx_cwSW As.length hT (ag_gH q1 q2 q4 q5) rfl hr0.1 hr0.2 hd hR) ⟨ag_Pre.blind, fun U hU hV => ⟨rfl, ag_Pre.to (s0 := s) h0 hG hS hW U hU hV⟩⟩ rfl rfl hls rfl (lv_room h8) hdg hcs) hS (fun _ _ h => h) (fun _ h => h) (fun r u t H1 locs1 ht hvm hw hB hz hk hS1 => W.widen gC gS ?_)
  obtain ⟨⟨he, hle⟩, hB⟩ := hB
  subst hw
  rw [ht] at hB
  exact kk u H1 locs1 he hle hB hS1
theorem ag_hHi {hh : List (Nat × Nat × Nat × Nat)} (hx : p0.tables.exec = Jvm.exec) (hb : c.code = cc) (hml : c.maxLocals = nL) (hT : ∀ w ∈ ag_tbl, w.before args st = true) (hown : st.vm.findClass own = some m.cls) (hG : ag_G z st st.heap) (h0 : z.2.2.1 ≤ st.heap.size) (hS : va_S (ag_A z) st.heap H locs) (hW : ag_W z n p s H)
    (hM : Met l y (ag_wsH y bytes maxL ret hh) rm (va_Pc As (ag_Pre z n p s)) (ag_Ri z n p r0 s1) mc ms (ag_A z)) (hr0 : rm.cells = mc ∧ rm.slots = ms)
    (q1 : Cond.methodLink own index y ∈ ag_tbl) (q2 : Cond.static y ∈ ag_tbl) (q4 : Cond.initialized y.cls ∈ ag_tbl) (q5 : Cond.codeWith y bytes maxL ret hh ∈ ag_tbl) (hd : y.cls ≠ "java/lang/invoke/MethodHandle" ∧ y.cls ≠ "java/lang/invoke/VarHandle" ∧ (parseMethodDescriptor y.desc).map (fun d => d.parameters.length) = some As.length)
    (hR : rm.frames + 1 ≤ R.frames ∧ 8 + (maxL + 11) + rm.locals ≤ R.locals)
    (hls : ls.size = nL) (hstk : stk = As.reverse ++ rest) (h8 : (rest.map fun v => v.category).sum ≤ 8) (hcs : cells + mc ≤ R.cells ∧ slots + ms ≤ R.slots) (hdg : decode cc pc = .ok (.invokestatic index, 3)) (gC : cells + mc ≤ C1) (gS : slots + ms ≤ S1)
    (kk : ∀ (H1 : Heap) (locs1 : List Loc), ag_W z n p s1 H1 → va_S (ag_A z) st.heap H1 locs1 → W p0 l e R st m args below meth c H1 locs1 C1 S1 Q (F0 m (pc + 3) ls (.int r0 :: rest))) : W p0 l e R st m args below meth c H locs cells slots Q (F0 m pc ls stk) := by
  subst hstk
  refine va_calli (vx_runSW (As := As) (rest := rest) ⟨hx, hb, hml, hown, hT⟩ hM (vx_cwSW As.length hT (ag_gH q1 q2 q4 q5) rfl hr0.1 hr0.2 hd hR) ⟨ag_Pre.blind, fun U hU hV => ⟨rfl, ag_Pre.to (s0 := s) h0 hG hS hW U hU hV⟩⟩ rfl rfl hls rfl (lv_room h8) hdg hcs) hS (fun _ _ h => h) (fun _ h => h) (fun r u t H1 locs1 ht hvm hw hB hz hk hS1 => W.widen gC gS ?_)
  subst hw
  rw [ht] at hB
  exact kk H1 locs1 hB hS1
theorem ag_yVi (hx : p0.tables.exec = Jvm.exec) (hb : c.code = cc) (hml : c.maxLocals = nL) (hT : ∀ w ∈ ag_tbl, w.before args st = true) (hown : st.vm.findClass own = some m.cls) (hG : ag_G z st st.heap) (h0 : z.2.2.1 ≤ st.heap.size) (hS : va_S (ag_A z) st.heap H locs) (hW : ag_W z n p s H)
    (hM : vx_Met l y (ag_ws y bytes maxL ret) rm (va_Pc (.ref (p k i) :: As) (ag_Pre z n p s)) (ag_PXi z n p o) (ag_PXX z n p o) mc ms (ag_A z)) (hr0 : rm.cells = mc ∧ rm.slots = ms)
    (q1 : Cond.methodLink own index y ∈ ag_tbl) (q2 : Cond.instanceMethod y ∈ ag_tbl) (q3 : Cond.selects C y y ∈ ag_tbl) (q4 : Cond.initialized C ∈ ag_tbl) (q5 : Cond.code y bytes maxL ret ∈ ag_tbl) (hd : y.cls = C ∧ y.cls ≠ "java/lang/invoke/MethodHandle" ∧ y.cls ≠ "java/lang/invoke/VarHandle" ∧ (parseMethodDescriptor y.desc).map (fun d => d.parameters.length) = some As.length)
    (hR : rm.frames + 1 ≤ R.frames ∧ 8 + (maxL + 11) + rm.locals ≤ R.locals)
    (hi : vp_in i (n k)) (hod : ag_od k = some (ci, ts)) (hcl : vwCl[ci]? = some (C, T, N))
    (hls : ls.size = nL) (hstk : stk = As.reverse ++ .ref (p k i) :: rest) (h8 : (rest.map fun v => v.category).sum ≤ 8) (hcs : cells + mc ≤ R.cells ∧ slots + ms ≤ R.slots) (hdg : decode cc pc = .ok (.invokevirtual index, 3))
    (kx : ∀ (p9 : ag_P) (E : String) (ce : Cell) (q9 : Addr) (H1 : Heap) (locs1 : List Loc), ag_ex E o.1 → ag_ext n p p9 → ag_le n o.2.1 → ag_W z o.2.1 p9 o.2.2 H1 → va_S (ag_A z) st.heap H1 locs1 → H1[q9]? = some ce → ce.vm = .none → st.vm.findClass E = some ce.cls → vx_W p0 l e R st m args below meth c H1 locs1 C1 S1 Q (F0 m pc ls rest) q9)
    (gC : cells + mc ≤ C1) (gS : slots + ms ≤ S1)
    (kk : ∀ (r : Int32) (p9 : ag_P) (H1 : Heap) (locs1 : List Loc), o.1 = .inl r → ag_ext n p p9 → ag_le n o.2.1 → ag_W z o.2.1 p9 o.2.2 H1 → va_S (ag_A z) st.heap H1 locs1 → W p0 l e R st m args below meth c H1 locs1 C1 S1 Q (F0 m (pc + 3) ls (.int r :: rest))) : W p0 l e R st m args below meth c H locs cells slots Q (F0 m pc ls stk) := by
  subst hstk
  refine vx_calli (vx_runV (As := As) (rest := rest) ⟨hx, hb, hml, hown, hT⟩ hM (cwV As.length hT (ag_gV q1 q2 q3 q4 q5) rfl hr0.1 hr0.2 hd hR) ⟨ag_Pre.blind, ag_recv hG hW hi hod hcl, fun U hU hV => ⟨rfl, ag_Pre.to (s0 := s) h0 hG hS hW U hU hV⟩⟩ rfl rfl hls rfl (lv_room h8) hdg hcs) hS (fun _ _ h => h) (fun _ h => h) (fun _ _ h => h) (fun E ce q9 u t H1 locs1 ht hvm hw hB hz hk hS1 g1 g2 g3 => ?_) (fun r u t H1 locs1 ht hvm hw hB hz hk hS1 => ?_)
  · obtain ⟨hE, ⟨he, hle⟩, hB⟩ := hB
    rw [ht] at hB
    exact vx_widen gC gS (kx u E ce q9 H1 locs1 hE he hle hB hS1 g1 g2 g3)
  · obtain ⟨⟨he, hle⟩, hB⟩ := hB
    rw [ht] at hB
    exact W.widen gC gS (kk r u H1 locs1 hw he hle hB hS1)
/-! ends of methods that make things; n0, p: as the method began -/
theorem ag_Piret {v : Int32} {ty : FieldType} (hx : p0.tables.exec = Jvm.exec) (hb : c.code = cc) (hr : meth.sig.returnType = some ty) (hn : narrow ty (.int v) = .int v) (hlocks : meth.locks = false) (hS : va_S (ag_A z) st.heap H locs) {out : Int32 × (ag_N × ag_S)} (hf : some (v, (n1, s1)) = some out) (he : ag_ext n p p9) (hle : ag_le n n1) (hW : ag_W z n1 p9 s1 H) (hdg : decode cc pc = .ok (.ireturn, 1)) : W p0 l e R st m args below meth c H locs cells slots (MQ below (ag_Pi z n p out.1 out.2.1 out.2.2) args st cells slots (ag_A z)) (F0 m pc ls [.int v]) := by
  have h1 := Option.some.inj hf
  subst h1
  exact W.zret hx hb hr hn (fun t ht _ => ⟨⟨v, p9, rfl, rfl, ⟨he, hle⟩, by show ag_W _ _ _ _ t.heap; rw [ht]; exact hW⟩, hS.F ht⟩) hS.2.2 hdg hlocks
theorem ag_Pvret (hx : p0.tables.exec = Jvm.exec) (hb : c.code = cc) (hr : meth.sig.returnType = none) (hlocks : meth.locks = false) (hS : va_S (ag_A z) st.heap H locs) {out : ag_N × ag_S} (hf : some (n1, s1) = some out) (he : ag_ext n p p9) (hle : ag_le n n1) (hW : ag_W z n1 p9 s1 H) (hdg : decode cc pc = .ok (.return_, 1)) : W p0 l e R st m args below meth c H locs cells slots (MQ below (ag_Pv z n p out.1 out.2) args st cells slots (ag_A z)) (F0 m pc ls []) := by
  have h1 := Option.some.inj hf
  subst h1
  exact W.vret hx hb hr (fun t ht _ => ⟨⟨p9, rfl, trivial, ⟨he, hle⟩, by show ag_W _ _ _ _ t.heap; rw [ht]; exact hW⟩, hS.F ht⟩) hS.2.2 hdg hlocks
theorem ag_Paret {v : Int32} {ty : FieldType} (hx : p0.tables.exec = Jvm.exec) (hb : c.code = cc) (hr : meth.sig.returnType = some ty) (hrt : (∃ n, ty = .object n) ∨ ∃ t, ty = .array t) (hlocks : meth.locks = false) (hS : va_S (ag_A z) st.heap H locs) {out : Int32 × (ag_N × ag_S)} (hf : some (v, (n1, s1)) = some out) (he : ag_ext n p p9) (hle : ag_le n n1) (hv : vp_in v (n1 k1)) (hW : ag_W z n1 p9 s1 H) (hdg : decode cc pc = .ok (.areturn, 1)) : W p0 l e R st m args below meth c H locs cells slots (MQ below (ag_Pr z n p k1 out.1 out.2.1 out.2.2) args st cells slots (ag_A z)) (F0 m pc ls [.ref (p9 k1 v)]) := by
  have h1 := Option.some.inj hf
  subst h1
  exact W.aret hx hb hr hrt (Or.inr ⟨_, rfl⟩) (fun t ht _ => ⟨⟨p9, _, rfl, trivial, ⟨rfl, hv⟩, ⟨he, hle⟩, by show ag_W _ _ _ _ t.heap; rw [ht]; exact hW⟩, hS.F ht⟩) hS.2.2 hdg hlocks
theorem ag_PXiret {v : Int32} {ty : FieldType} {XC : String → State → State → Prop} (hx : p0.tables.exec = Jvm.exec) (hb : c.code = cc) (hr : meth.sig.returnType = some ty) (hn : narrow ty (.int v) = .int v) (hlocks : meth.locks = false) (hS : va_S (ag_A z) st.heap H locs) (hf : some ((.inl v : Int32 ⊕ Int32), (n1, s1)) = some o) (he : ag_ext n p p9) (hle : ag_le n n1) (hW : ag_W z n1 p9 s1 H) (hdg : decode cc pc = .ok (.ireturn, 1)) : W p0 l e R st m args below meth c H locs cells slots (vx_MQ below (ag_PXi z n p o) XC args st cells slots (ag_A z)) (F0 m pc ls [.int v]) := by
  have h1 := Option.some.inj hf
  subst h1
  exact vx_ret (W.zret hx hb hr hn (fun t ht _ => ⟨⟨v, p9, rfl, rfl, ⟨he, hle⟩, by show ag_W _ _ _ _ t.heap; rw [ht]; exact hW⟩, hS.F ht⟩) hS.2.2 hdg hlocks)
theorem ag_mq {Q2 : State → Prop} {g : JFrame} (h : W p0 l e R st m args below meth c H locs cells slots Q g) (hq : ∀ t, Q t → Q2 t) : W p0 l e R st m args below meth c H locs cells slots Q2 g := by
  intro T hT X
  obtain ⟨t, a, b⟩ := h T hT X
  exact ⟨t, a, hq t b⟩
/-- a throw of a method that makes things, from one that doesn't -/
theorem ag_thrP {Qc : Array Value → State → Outcome → State → Prop} {g : JFrame} {x : Int32 ⊕ Int32} (hf : some (x, (n, s)) = some o) (h : W p0 l e R st m args below meth c H locs cells slots (vx_MQ below (fun _ _ _ _ => False) (ag_XX z n p (x, s)) args st mc ms (ag_A z)) g) : W p0 l e R st m args below meth c H locs cells slots (vx_MQ below Qc (ag_PXX z n p o) args st mc ms (ag_A z)) g := by
  have h1 := Option.some.inj hf
  subst h1
  refine ag_mq h fun t ht => ?_
  obtain ⟨o9, h1, h2, h3⟩ := ht
  refine ⟨o9, h1, h2, ?_⟩
  rcases h3 with ⟨h3, -⟩ | ⟨q, h3, E, ce, L, hX, h4⟩
  · exact h3.elim
  · refine Or.inr ⟨q, h3, E, ce, L, ?_, h4⟩
    obtain ⟨-, -, ⟨a1, a2⟩, a3⟩ := hX
    exact ⟨p, trivial, ⟨a1, ⟨ag_ext_rf n p, ag_le_rf n⟩, a2⟩, a3⟩
theorem ag_propP {Qc : Array Value → State → Outcome → State → Prop} {E : String} {ce : Cell} {q9 : Addr} {P : Int32 → Prop} {o1 : (Int32 ⊕ Int32) × ag_S} (hf : (∃ r, o1.1 = .inl r ∧ P r) ∨ ∃ e, o1.1 = .inr e ∧ (.inr e, (fun s => (n, s)) o1.2) = o) (hout : ∀ x ∈ c.exceptionTable.toList, False) (hlocks : meth.locks = false) (hC : cells ≤ mc) (hD : slots ≤ ms) (hE : ag_ex E o1.1) (hW : ag_W z n p o1.2 H) (hS : va_S (ag_A z) st.heap H locs) (g1 : H[q9]? = some ce) (g2 : ce.vm = .none) (g3 : st.vm.findClass E = some ce.cls) :
    vx_W p0 l e R st m args below meth c H locs cells slots (vx_MQ below Qc (ag_PXX z n p o) args st mc ms (ag_A z)) (F0 m pc ls rest) q9 := by
  rcases hf with ⟨r, e1, -⟩ | ⟨e9, e1, rfl⟩
  · obtain ⟨e2, h2⟩ := hE.is
    rw [e1] at h2
    cases h2
  · exact vx_out (fun x hx => (hout x hx).elim) hlocks g1 g2 g3 (fun t ht hvm => ⟨p, trivial, ⟨by rw [← e1]; exact hE, ⟨ag_ext_rf n p, ag_le_rf n⟩, by rw [ht]; exact hW⟩, hS.F ht⟩) hS.2.2 hC hD
end AGAC
