/-! THE CLAIM OUT OF ONE WALK OF THE LAW'S BODY. Your part is whole_start (and what it stands on); all else here is the same for every law, but numbers. -/
def R_law : String := "AmendgrantLaw"
def lw_P (b : Addr) (xs : List Int32) (args : Array Value) (s : State) : Prop := args = #[.ref b] ∧ s.IntsAt b xs ∧ xs.length ≤ 3072 ∧ (Jvm.Cond.and given_1 narrow_1).before args s = true
def lw_Q (_ : Array Value) (s : State) (o : Outcome) (t : State) : Prop := o = .returned (some (.int 1)) ∧ Framed s o t [] 601024 7293034
def lw_Z (below : List Frame) (a : Array Value) (s : State) : State → Prop := fun t => ∃ o, t.status = .running ∧ Ended t below o ∧ lw_Q a s o t
/-- the law's own end, with 1 on the stack, nothing written that was there before, its room as the claim has it -/
theorem lw_ret {p : Program} {l : Launch} {e : Env} {s : State} {m : MethodId} {below : List Frame} {meth : Method} {c : Code} {b : Nat} (hx : p.tables.exec = Jvm.exec) (hb : c.code = code) (hr : meth.sig.returnType = ret) (hlocks : meth.locks = false) {pc : Nat} {H : Heap} {ls : Array Slot} (hdg : decode code pc = .ok (.ireturn, 1)) : W p l e room_1 s m #[Value.ref b] below meth c H [] 601024 7293034 (lw_Z below #[Value.ref b] s) (F0 m pc ls [.int 1]) := by
  intro T hT X
  obtain ⟨fs, hret, hrun, hended, hW, hframe⟩ := X.leave (v := some (.int 1)) (hlocks := hlocks) (fun h => by rw [hr] at h; cases h)
  have hmeth' : T.vm.method? m = some meth := X.method'
  refine ⟨T.setFrames fs, ?_, .returned (some (.int 1)), hrun, hended, rfl, ⟨_, rfl⟩, hW, hframe⟩
  jvm_step X.here [X.here.top, hx, hb, hdg, hmeth', hr, ret, narrow_b1]
  (try refine ⟨rfl, ?_⟩); (try refine ⟨rfl, ?_⟩)
  first | (intro acts; rw [hret _ acts rfl rfl rfl]) | rw [hret _ _ rfl rfl rfl]
  exact Steps.refl _
/-- what holds at the law's entry: the machine, the code, the tables' words (any of lw_tbl by 'hts w (by decide +kernel)'), the script of L ints xs at the cell b, what the Statement gives of the start (any of its parts by flat_of_before) -/
def lw_At (p : Program) (s : State) (m : MethodId) (meth : Method) (c : Code) (b L : Nat) (xs : Nat → Int32) : Prop :=
  p.tables.exec = Jvm.exec ∧ c.code = code ∧ meth.sig.returnType = ret ∧ c.maxLocals = 7 ∧ s.vm.findClass R_law = some m.cls ∧ (∀ w ∈ lw_tbl, w.before #[Value.ref b] s = true) ∧ va_X b L xs s s.heap ∧ b < s.heap.size ∧ meth.locks = false ∧ (Jvm.Cond.and given_1 narrow_1).before #[Value.ref b] s = true
/-- the whole run, once the numbers are settled -/
def lawRuns (L : Nat) (xs : Nat → Int32) : Prop := ∃ (fu : Nat) (out : ag_N × ag_S), lawStart fu (fun _ => 0) (fun _ _ _ => -1) = some out ∧ lawLoop fu L xs 514 0 out.1 out.2 = some ()
theorem whole_of {p : Program} {e : Env} {s : State} {m : MethodId} {below : List Frame} {meth : Method} {c : Code} (l : Launch) (hflags : l.flags = flags0) {b L : Nat} {xs : Nat → Int32} (C0 : lw_At p s m meth c b L xs) (hruns : lawRuns L xs) : W p l e room_1 s m #[Value.ref b] below meth c s.heap [] 0 0 (lw_Z below #[Value.ref b] s) (entryFrame m ([Value.ref b] : List Value).toArray 7) := by
  obtain ⟨hx, hb, hr, hml, hown, hts, hX, hbl, hlocks, hgv⟩ := C0
  obtain ⟨fu, out, hf1, hf2⟩ := hruns
  have hq9 : l.stackTraces = false := by
    unfold Launch.stackTraces
    rw [hflags]
    decide +kernel
  have hT : ∀ w ∈ ag_tbl, w.before #[Value.ref b] s = true := fun w h => hts w (List.mem_filter.mp h).1
  obtain ⟨z, hz, hG⟩ := ag_G_of hts hgv
  have h0 : z.2.2.1 ≤ s.heap.size := Nat.le_of_eq hz
  have hbA : ¬ ag_A z b := fun q => by
    have q2 : z.2.2.1 ≤ b := q
    rw [hz] at q2
    exact absurd hbl (Nat.not_lt.mpr q2)
  have hS : va_S (ag_A z) s.heap s.heap [] := va_S.rf
  have hv : ∀ i : Int32, ¬ vp_in i 0 := fun i h => h (Or.inr (Nat.zero_le _))
  have hW : ag_W z (fun _ => 0) (fun _ _ => 0) (fun _ _ _ => -1) s.heap := ⟨fun k i h => absurd h (hv i), fun k i k' i' h => absurd h (hv i), ⟨fun _ _ _ _ _ _ _ _ => Or.inl (Or.inl rfl), fun _ _ _ _ => Or.inl rfl, fun _ _ _ _ _ _ _ h => absurd h (Nat.lt_irrefl 0)⟩, fun _ => Nat.zero_le _⟩
  obtain ⟨ls, hls, hl⟩ : ∃ ls, entryFrame m ([Value.ref b] : List Value).toArray 7 = F0 m 0 ls [] ∧ lv_has ls 7 [(0, .ref b)] := ag_entry m [.ref b] (Nat.le_of_ble_eq_true rfl)
  rw [hls]
  refine law_entry hq9 hx hb hml hT hown hG h0 hS hW hl hf1 (fun p1 H1 locs1 ls1 hW1 hS1 t5 t6 t8 hl1 => ?_)
  refine law_loop hq9 hx hb hml hT hown hG h0 hX hbl hbA (fun H2 locs2 ls2 cells slots hS2 hc hd => ?_) 514 H1 locs1 80 3000 ls1 out.1 p1 out.2 0 hS1 hW1 t5 t6 t8 hl1 (Nat.le_of_ble_eq_true rfl) (Nat.le_of_ble_eq_true rfl) hf2
  refine lv_iconst (v := 1) hx hb dL_law_1578 (by decide) ?_
  refine va_forget (fun q hq => by
    have q2 : z.2.2.1 ≤ _ := hS2.2.2 q hq
    rw [hz] at q2
    exact q2) ?_
  refine W.widen (k := 601024) (n := 7293034) hc hd ?_
  exact lw_ret hx hb hr hlocks dL_law_1579
