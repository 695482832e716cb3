/-! ===== what holds of the neutral state ===== -/
def kidA (A : TT) (a k : Nat) : Int32 := if A 3 1 k = nI a ∧ A 3 5 k = 1 then A 3 4 k else 0
def rootA (A : TT) (l a : Nat) : Int32 := if A 3 1 a = -1 ∧ A 3 2 a = nI l ∧ A 3 5 a = 1 then A 3 4 a else 0
def bindA (A : TT) (l g : Nat) : Int32 := if A 4 0 g = nI l then (if A 4 6 g = 2 then A 4 5 g else A 4 4 g) else 0
def baseA (A : TT) (l : Nat) : Int32 := (A 2 2 l - A 2 5 l) + A 2 6 l
def standA (A : TT) (na l : Nat) : Int32 := baseA A l + isum (rootA A l) na
def boundA (A : TT) (ng l : Nat) : Int32 := A 2 4 l + isum (bindA A l) ng
def freeA (A : TT) (na ng l : Nat) : Int32 := standA A na l - boundA A ng l
/-- two tables agree on the columns that P names -/
abbrev agr (P : Nat → Nat → Prop) (A A' : TT) : Prop := ∀ k f i, P k f → A' k f i = A k f i
theorem agr.rfl {P : Nat → Nat → Prop} {A : TT} : agr P A A := fun _ _ _ _ => Eq.refl _
theorem agr.u {P : Nat → Nat → Prop} {A A' : TT} {k f i : Nat} {v : Int32} (h : agr P A A') (hv : ¬ P k f) : agr P A (tU A' k f i v) := fun k' f' i' q => by
  rw [tU_ne (fun e => by rcases e with ⟨rfl, rfl, -⟩; exact hv q)]
  exact h k' f' i' q
abbrev Wf (A : TT) (nl na ng : Nat) : Prop := (nl ≤ 10) ∧ (na ≤ 40) ∧ (ng ≤ 40) ∧ (∀ i, i < 4 → A 0 0 i = nI i) ∧ (∀ i, i < 8 → A 1 0 i = nI i) ∧ (∀ i, i < nl → A 2 0 i = nI i) ∧ (∀ i, i < na → A 3 0 i = nI i) ∧ (∀ l, l < nl → ∃ i, i < 4 ∧ A 2 1 l = nI i) ∧ (∀ k, k < na → A 3 1 k = -1 ∨ ∃ a, a < k ∧ A 3 1 k = nI a) ∧ (∀ k, k < na → ∃ l, l < nl ∧ A 3 2 k = nI l) ∧ (∀ k a, k < na → a < k → A 3 1 k = nI a → A 3 2 k = A 3 2 a) ∧ (∀ g, g < ng → ∃ l, l < nl ∧ A 4 0 g = nI l) ∧ (∀ g, g < ng → ∃ r, r < 8 ∧ A 4 1 g = nI r) ∧ (∀ g, g < ng → A 4 2 g = -1 ∨ ∃ a, a < na ∧ A 4 2 g = nI a)
theorem Wf.hnl {A : TT} {nl na ng : Nat} (h : Wf A nl na ng) : nl ≤ 10 := h.1
theorem Wf.hna {A : TT} {nl na ng : Nat} (h : Wf A nl na ng) : na ≤ 40 := h.2.1
theorem Wf.hng {A : TT} {nl na ng : Nat} (h : Wf A nl na ng) : ng ≤ 40 := h.2.2.1
theorem Wf.num0 {A : TT} {nl na ng : Nat} (h : Wf A nl na ng) : ∀ i, i < 4 → A 0 0 i = nI i := h.2.2.2.1
theorem Wf.num1 {A : TT} {nl na ng : Nat} (h : Wf A nl na ng) : ∀ i, i < 8 → A 1 0 i = nI i := h.2.2.2.2.1
theorem Wf.num2 {A : TT} {nl na ng : Nat} (h : Wf A nl na ng) : ∀ i, i < nl → A 2 0 i = nI i := h.2.2.2.2.2.1
theorem Wf.num3 {A : TT} {nl na ng : Nat} (h : Wf A nl na ng) : ∀ i, i < na → A 3 0 i = nI i := h.2.2.2.2.2.2.1
theorem Wf.src {A : TT} {nl na ng : Nat} (h : Wf A nl na ng) : ∀ l, l < nl → ∃ i, i < 4 ∧ A 2 1 l = nI i := h.2.2.2.2.2.2.2.1
theorem Wf.tree {A : TT} {nl na ng : Nat} (h : Wf A nl na ng) : ∀ k, k < na → A 3 1 k = -1 ∨ ∃ a, a < k ∧ A 3 1 k = nI a := h.2.2.2.2.2.2.2.2.1
theorem Wf.lin {A : TT} {nl na ng : Nat} (h : Wf A nl na ng) : ∀ k, k < na → ∃ l, l < nl ∧ A 3 2 k = nI l := h.2.2.2.2.2.2.2.2.2.1
theorem Wf.lon {A : TT} {nl na ng : Nat} (h : Wf A nl na ng) : ∀ k a, k < na → a < k → A 3 1 k = nI a → A 3 2 k = A 3 2 a := h.2.2.2.2.2.2.2.2.2.2.1
theorem Wf.gl {A : TT} {nl na ng : Nat} (h : Wf A nl na ng) : ∀ g, g < ng → ∃ l, l < nl ∧ A 4 0 g = nI l := h.2.2.2.2.2.2.2.2.2.2.2.1
theorem Wf.rc {A : TT} {nl na ng : Nat} (h : Wf A nl na ng) : ∀ g, g < ng → ∃ r, r < 8 ∧ A 4 1 g = nI r := h.2.2.2.2.2.2.2.2.2.2.2.2.1
theorem Wf.hang {A : TT} {nl na ng : Nat} (h : Wf A nl na ng) : ∀ g, g < ng → A 4 2 g = -1 ∨ ∃ a, a < na ∧ A 4 2 g = nI a := h.2.2.2.2.2.2.2.2.2.2.2.2.2
abbrev Wv (k f : Nat) : Prop := (k = 0 ∧ f = 0) ∨ (k = 1 ∧ f = 0) ∨ (k = 2 ∧ f = 0) ∨ (k = 3 ∧ f = 0) ∨ (k = 2 ∧ f = 1) ∨ (k = 3 ∧ f = 1) ∨ (k = 3 ∧ f = 2) ∨ (k = 4 ∧ f = 0) ∨ (k = 4 ∧ f = 1) ∨ (k = 4 ∧ f = 2)
theorem Wf.congr {A A' : TT} {nl na ng : Nat} (h : Wf A nl na ng) (e : agr Wv A A') : Wf A' nl na ng := by
  obtain ⟨h1, h2, h3, h4, h5, h6, h7, h8, h9, h10, h11, h12, h13, h14⟩ := h
  refine ⟨h1, h2, h3, fun i hi => ?_, fun i hi => ?_, fun i hi => ?_, fun i hi => ?_, fun i hi => ?_, fun i hi => ?_, fun i hi => ?_, fun i j hi hj => ?_, fun i hi => ?_, fun i hi => ?_, fun i hi => ?_⟩
  · rw [e _ _ _ (by decide)]; exact h4 i hi
  · rw [e _ _ _ (by decide)]; exact h5 i hi
  · rw [e _ _ _ (by decide)]; exact h6 i hi
  · rw [e _ _ _ (by decide)]; exact h7 i hi
  · rw [e _ _ _ (by decide)]; exact h8 i hi
  · rw [e _ _ _ (by decide)]; exact h9 i hi
  · rw [e _ _ _ (by decide)]; exact h10 i hi
  · rw [e 3 1 _ (by decide), e 3 2 _ (by decide), e 3 2 _ (by decide)]; exact h11 i j hi hj
  · rw [e _ _ _ (by decide)]; exact h12 i hi
  · rw [e _ _ _ (by decide)]; exact h13 i hi
  · rw [e _ _ _ (by decide)]; exact h14 i hi
/-- what is brought -/
abbrev Br (A : TT) (nl na : Nat) : Prop := (∀ a, a < na → A 3 4 a = A 3 3 a + isum (kidA A a) na) ∧ (∀ l, l < nl → A 2 3 l = isum (rootA A l) na)
theorem Br.sol {A : TT} {nl na : Nat} (h : Br A nl na) : ∀ a, a < na → A 3 4 a = A 3 3 a + isum (kidA A a) na := h.1
theorem Br.bro {A : TT} {nl na : Nat} (h : Br A nl na) : ∀ l, l < nl → A 2 3 l = isum (rootA A l) na := h.2
abbrev Bv (k f : Nat) : Prop := (k = 3 ∧ f = 1) ∨ (k = 3 ∧ f = 2) ∨ (k = 3 ∧ f = 3) ∨ (k = 3 ∧ f = 4) ∨ (k = 3 ∧ f = 5) ∨ (k = 2 ∧ f = 3)
theorem kidA_congr {A A' : TT} {a : Nat} (e : agr Bv A A') : kidA A' a = kidA A a := by
  funext k
  unfold kidA
  rw [e 3 1 _ (by decide), e 3 5 _ (by decide), e 3 4 _ (by decide)]
theorem rootA_congr {A A' : TT} {l : Nat} (e : agr Bv A A') : rootA A' l = rootA A l := by
  funext k
  unfold rootA
  rw [e 3 1 _ (by decide), e 3 5 _ (by decide), e 3 4 _ (by decide), e 3 2 _ (by decide)]
theorem Br.congr {A A' : TT} {nl na : Nat} (h : Br A nl na) (e : agr Bv A A') : Br A' nl na := by
  refine ⟨fun a ha => ?_, fun l hl => ?_⟩
  · rw [kidA_congr e, e 3 4 _ (by decide), e 3 3 _ (by decide)]; exact h.1 a ha
  · rw [rootA_congr e, e 2 3 _ (by decide)]; exact h.2 l hl
/-- nothing stands past the counts -/
abbrev Zs (A : TT) (nl na ng : Nat) : Prop := (∀ l, nl ≤ l → l < 10 → A 2 4 l = 0 ∧ A 2 5 l = 0 ∧ A 2 6 l = 0) ∧ (∀ a, na ≤ a → a < 40 → A 3 5 a = 0) ∧ (∀ i, 9 * na ≤ i → i < 360 → A 6 0 i = 0) ∧ (∀ g, ng ≤ g → g < 40 → A 4 5 g = 0 ∧ A 4 6 g = 0 ∧ A 4 7 g = 0)
theorem Zs.zl {A : TT} {nl na ng : Nat} (h : Zs A nl na ng) : ∀ l, nl ≤ l → l < 10 → A 2 4 l = 0 ∧ A 2 5 l = 0 ∧ A 2 6 l = 0 := h.1
theorem Zs.za {A : TT} {nl na ng : Nat} (h : Zs A nl na ng) : ∀ a, na ≤ a → a < 40 → A 3 5 a = 0 := h.2.1
theorem Zs.zv {A : TT} {nl na ng : Nat} (h : Zs A nl na ng) : ∀ i, 9 * na ≤ i → i < 360 → A 6 0 i = 0 := h.2.2.1
theorem Zs.zg {A : TT} {nl na ng : Nat} (h : Zs A nl na ng) : ∀ g, ng ≤ g → g < 40 → A 4 5 g = 0 ∧ A 4 6 g = 0 ∧ A 4 7 g = 0 := h.2.2.2
theorem Zs.u {A : TT} {nl na ng k f i : Nat} {v : Int32} (h : Zs A nl na ng) (hi : (k = 2 → i < nl) ∧ (k = 3 → i < na) ∧ (k = 6 → i < 9 * na) ∧ (k = 4 → i < ng)) : Zs (tU A k f i v) nl na ng := by
  obtain ⟨h1, h2, h3, h4⟩ := h
  refine ⟨fun j a b => ?_, fun j a b => ?_, fun j a b => ?_, fun j a b => ?_⟩
  · rw [tU_ne (by omega), tU_ne (by omega), tU_ne (by omega)]; exact h1 j a b
  · rw [tU_ne (by omega)]; exact h2 j a b
  · rw [tU_ne (by omega)]; exact h3 j a b
  · rw [tU_ne (by omega), tU_ne (by omega), tU_ne (by omega)]; exact h4 j a b
/-- votes -/
def bcv (x : Int32) : Int32 := (f_J6_bitCount_0f7a4 0 x (fun _ _ _ => 0)).getD 0
theorem bc_eq {fu : Nat} {x : Int32} {s : ag_S} : f_J6_bitCount_0f7a4 fu x s = some (bcv x) := rfl
abbrev Vt (A : TT) (na : Nat) : Prop := ∀ a, a < na → ∃ M1 M2 : Nat, M1 < 512 ∧ M2 < 512 ∧ A 3 8 a = nI M1 ∧ A 3 9 a = nI M2 ∧ ∀ m, m < 9 → ((M1 >>> m) % 2 = 1 ↔ A 6 0 (9 * a + m) = 1) ∧ ((M2 >>> m) % 2 = 1 ↔ A 6 0 (9 * a + m) = 2)
abbrev Vv (k f : Nat) : Prop := (k = 3 ∧ f = 8) ∨ (k = 3 ∧ f = 9) ∨ (k = 6 ∧ f = 0)
theorem Vt.congr {A A' : TT} {na : Nat} (h : Vt A na) (e : agr Vv A A') : Vt A' na := fun a ha => by
  obtain ⟨M1, M2, h1, h2, h3, h4, h5⟩ := h a ha
  refine ⟨M1, M2, h1, h2, ?_, ?_, fun m hm => ?_⟩
  · rw [e _ _ _ (by decide)]; exact h3
  · rw [e _ _ _ (by decide)]; exact h4
  · rw [e _ _ _ (by decide)]; exact h5 m hm
abbrev wonA (A : TT) (a : Nat) : Prop := if A 3 6 a = 1 then ¬ bcv (A 3 8 a) < 5 else bcv (A 3 9 a) < bcv (A 3 8 a)
/-- decisions -/
abbrev Dc (A : TT) (na ng : Nat) : Prop := (∀ a, a < na → (A 3 5 a = 0 ∧ A 3 7 a = 0) ∨ A 3 5 a = 1 ∨ A 3 5 a = 2) ∧ (∀ a, a < na → A 3 5 a = 1 → wonA A a ∧ A 3 7 a = 0) ∧ (∀ a, a < na → A 3 5 a = 2 → ¬ A 3 7 a = 0 ∨ ¬ wonA A a ∨ ∃ p, p < a ∧ A 3 1 a = nI p ∧ A 3 5 p = 2) ∧ (∀ a p, a < na → p < a → A 3 1 a = nI p → A 3 5 p = 2 → A 3 5 a = 2) ∧ (∀ a p, a < na → p < a → A 3 1 a = nI p → A 3 5 a = 0 → A 3 5 p = 0) ∧ (∀ g, g < ng → A 4 6 g = 0 → A 4 2 g = -1 ∨ ∃ a, a < na ∧ A 4 2 g = nI a ∧ A 3 5 a = 1)
theorem Dc.st {A : TT} {na ng : Nat} (h : Dc A na ng) : ∀ a, a < na → (A 3 5 a = 0 ∧ A 3 7 a = 0) ∨ A 3 5 a = 1 ∨ A 3 5 a = 2 := h.1
theorem Dc.d1 {A : TT} {na ng : Nat} (h : Dc A na ng) : ∀ a, a < na → A 3 5 a = 1 → wonA A a ∧ A 3 7 a = 0 := h.2.1
theorem Dc.d2 {A : TT} {na ng : Nat} (h : Dc A na ng) : ∀ a, a < na → A 3 5 a = 2 → ¬ A 3 7 a = 0 ∨ ¬ wonA A a ∨ ∃ p, p < a ∧ A 3 1 a = nI p ∧ A 3 5 p = 2 := h.2.2.1
theorem Dc.d3 {A : TT} {na ng : Nat} (h : Dc A na ng) : ∀ a p, a < na → p < a → A 3 1 a = nI p → A 3 5 p = 2 → A 3 5 a = 2 := h.2.2.2.1
theorem Dc.d4 {A : TT} {na ng : Nat} (h : Dc A na ng) : ∀ a p, a < na → p < a → A 3 1 a = nI p → A 3 5 a = 0 → A 3 5 p = 0 := h.2.2.2.2.1
theorem Dc.live {A : TT} {na ng : Nat} (h : Dc A na ng) : ∀ g, g < ng → A 4 6 g = 0 → A 4 2 g = -1 ∨ ∃ a, a < na ∧ A 4 2 g = nI a ∧ A 3 5 a = 1 := h.2.2.2.2.2
abbrev Dv (k f : Nat) : Prop := (k = 3 ∧ f = 1) ∨ (k = 3 ∧ f = 5) ∨ (k = 3 ∧ f = 6) ∨ (k = 3 ∧ f = 7) ∨ (k = 3 ∧ f = 8) ∨ (k = 3 ∧ f = 9) ∨ (k = 4 ∧ f = 2) ∨ (k = 4 ∧ f = 6)
theorem wonA_congr {A A' : TT} {a : Nat} (h6 : A' 3 6 a = A 3 6 a) (h8 : A' 3 8 a = A 3 8 a) (h9 : A' 3 9 a = A 3 9 a) : wonA A' a ↔ wonA A a := by
  unfold wonA
  rw [h6, h8, h9]
theorem Dc.congr {A A' : TT} {na ng : Nat} (h : Dc A na ng) (e : agr Dv A A') : Dc A' na ng := by
  obtain ⟨h1, h2, h3, h4, h5, h6⟩ := h
  have w : ∀ a, wonA A' a ↔ wonA A a := fun a => wonA_congr (e _ _ _ (by decide)) (e _ _ _ (by decide)) (e _ _ _ (by decide))
  have e5 : ∀ a, A' 3 5 a = A 3 5 a := fun a => e _ _ _ (by decide)
  have e1 : ∀ a, A' 3 1 a = A 3 1 a := fun a => e _ _ _ (by decide)
  have e7 : ∀ a, A' 3 7 a = A 3 7 a := fun a => e _ _ _ (by decide)
  have e42 : ∀ a, A' 4 2 a = A 4 2 a := fun a => e _ _ _ (by decide)
  have e46 : ∀ a, A' 4 6 a = A 4 6 a := fun a => e _ _ _ (by decide)
  refine ⟨fun a ha => ?_, fun a ha => ?_, fun a ha => ?_, fun a p ha => ?_, fun a p ha => ?_, fun g hg => ?_⟩
  · rw [e5, e7]; exact h1 a ha
  · rw [e5, e7, w]; exact h2 a ha
  · simp only [e5, e7, w, e1]; exact h3 a ha
  · simp only [e5, e1]; exact h4 a p ha
  · simp only [e5, e1]; exact h5 a p ha
  · simp only [e42, e46, e5]; exact h6 g hg
/-- sums of integers -/
def zsum (g : Nat → Int) : Nat → Int
  | 0 => 0
  | n + 1 => zsum g n + g n
theorem zsum_congr {g h : Nat → Int} : ∀ {n : Nat}, (∀ q, q < n → g q = h q) → zsum g n = zsum h n
  | 0, _ => rfl
  | n + 1, e => by rw [zsum, zsum, zsum_congr (fun q hq => e q (by omega)), e n (by omega)]
theorem zsum_upd {g h : Nat → Int} {i : Nat} (e : ∀ q, q ≠ i → h q = g q) : ∀ {n : Nat}, i < n → zsum h n = zsum g n + (h i - g i)
  | 0, hi => by omega
  | n + 1, hi => by
    rw [zsum, zsum]
    by_cases q : i = n
    · subst q
      rw [zsum_congr (g := h) (h := g) (fun q hq => e q (by omega))]
      omega
    · rw [zsum_upd e (n := n) (by omega), e n (by omega)]
      omega
theorem zsum_bd {g : Nat → Int} {a b : Int} : ∀ {n : Nat}, (∀ q, q < n → a ≤ g q ∧ g q ≤ b) → a * n ≤ zsum g n ∧ zsum g n ≤ b * n
  | 0, _ => by simp [zsum]
  | n + 1, e => by
    have h1 := zsum_bd (n := n) (fun q hq => e q (by omega))
    have h2 := e n (by omega)
    rw [zsum]
    push_cast
    rw [Int.mul_add, Int.mul_add]
    omega
/-- numbers: t calls at most have gone by -/
abbrev Nm (A : TT) (nl na ng t : Nat) : Prop := (t ≤ 520) ∧ (∀ i, i < 4 → 0 ≤ (A 0 2 i).toInt ∧ (A 0 2 i).toInt ≤ (A 0 1 i).toInt ∧ (A 0 1 i).toInt ≤ 100000 * t) ∧ (∀ l, l < nl → 0 ≤ (A 2 4 l).toInt ∧ (A 2 4 l).toInt ≤ 50000 * t) ∧ (∀ g, g < ng → 0 ≤ (A 4 5 g).toInt ∧ (A 4 5 g).toInt ≤ (A 4 4 g).toInt ∧ (A 4 4 g).toInt ≤ 50000) ∧ (∀ a, a < na → -50000 ≤ (A 3 3 a).toInt ∧ (A 3 3 a).toInt ≤ 50000) ∧ (∀ l, l < nl → -2000000 ≤ (baseA A l).toInt ∧ (baseA A l).toInt ≤ 60000000) ∧ (∃ R : Int, 0 ≤ R ∧ R ≤ 100000 * t ∧ (A 5 5 0).toInt = R - zsum (fun l => (baseA A l).toInt) nl) ∧ (0 ≤ (A 5 6 0).toInt ∧ (A 5 6 0).toInt ≤ 50)
theorem Nm.tt {A : TT} {nl na ng t : Nat} (h : Nm A nl na ng t) : t ≤ 520 := h.1
theorem Nm.inc {A : TT} {nl na ng t : Nat} (h : Nm A nl na ng t) : ∀ i, i < 4 → 0 ≤ (A 0 2 i).toInt ∧ (A 0 2 i).toInt ≤ (A 0 1 i).toInt ∧ (A 0 1 i).toInt ≤ 100000 * t := h.2.1
theorem Nm.spent {A : TT} {nl na ng t : Nat} (h : Nm A nl na ng t) : ∀ l, l < nl → 0 ≤ (A 2 4 l).toInt ∧ (A 2 4 l).toInt ≤ 50000 * t := h.2.2.1
theorem Nm.gr {A : TT} {nl na ng t : Nat} (h : Nm A nl na ng t) : ∀ g, g < ng → 0 ≤ (A 4 5 g).toInt ∧ (A 4 5 g).toInt ≤ (A 4 4 g).toInt ∧ (A 4 4 g).toInt ≤ 50000 := h.2.2.2.1
theorem Nm.more {A : TT} {nl na ng t : Nat} (h : Nm A nl na ng t) : ∀ a, a < na → -50000 ≤ (A 3 3 a).toInt ∧ (A 3 3 a).toInt ≤ 50000 := h.2.2.2.2.1
theorem Nm.base {A : TT} {nl na ng t : Nat} (h : Nm A nl na ng t) : ∀ l, l < nl → -2000000 ≤ (baseA A l).toInt ∧ (baseA A l).toInt ≤ 60000000 := h.2.2.2.2.2.1
theorem Nm.res {A : TT} {nl na ng t : Nat} (h : Nm A nl na ng t) : ∃ R : Int, 0 ≤ R ∧ R ≤ 100000 * t ∧ (A 5 5 0).toInt = R - zsum (fun l => (baseA A l).toInt) nl := h.2.2.2.2.2.2.1
theorem Nm.pct {A : TT} {nl na ng t : Nat} (h : Nm A nl na ng t) : 0 ≤ (A 5 6 0).toInt ∧ (A 5 6 0).toInt ≤ 50 := h.2.2.2.2.2.2.2
abbrev Fr (A : TT) (nl na ng : Nat) : Prop := ∀ l, l < nl → 0 ≤ (freeA A na ng l).toInt
abbrev In (A : TT) (nl na ng t : Nat) : Prop := (Wf A nl na ng) ∧ (Br A nl na) ∧ (Zs A nl na ng) ∧ (Vt A na) ∧ (Dc A na ng) ∧ (Nm A nl na ng t) ∧ (Fr A nl na ng)
theorem In.wf {A : TT} {nl na ng t : Nat} (h : In A nl na ng t) : Wf A nl na ng := h.1
theorem In.br {A : TT} {nl na ng t : Nat} (h : In A nl na ng t) : Br A nl na := h.2.1
theorem In.zs {A : TT} {nl na ng t : Nat} (h : In A nl na ng t) : Zs A nl na ng := h.2.2.1
theorem In.vt {A : TT} {nl na ng t : Nat} (h : In A nl na ng t) : Vt A na := h.2.2.2.1
theorem In.dc {A : TT} {nl na ng t : Nat} (h : In A nl na ng t) : Dc A na ng := h.2.2.2.2.1
theorem In.nm {A : TT} {nl na ng t : Nat} (h : In A nl na ng t) : Nm A nl na ng t := h.2.2.2.2.2.1
theorem In.fr {A : TT} {nl na ng t : Nat} (h : In A nl na ng t) : Fr A nl na ng := h.2.2.2.2.2.2
theorem Nm.mono {A : TT} {nl na ng t : Nat} (h : Nm A nl na ng t) (ht : t + 1 ≤ 520) : Nm A nl na ng (t + 1) := by
  obtain ⟨h1, h2, h3, h4, h5, h6, ⟨R, r1, r2, r3⟩, h8⟩ := h
  refine ⟨ht, fun i hi => ?_, fun i hi => ?_, h4, h5, h6, ⟨R, r1, ?_, r3⟩, h8⟩
  · have := h2 i hi
    push_cast
    omega
  · have := h3 i hi
    push_cast
    omega
  · push_cast
    omega
theorem In.mono {A : TT} {nl na ng t : Nat} (h : In A nl na ng t) (ht : t + 1 ≤ 520) : In A nl na ng (t + 1) := ⟨h.wf, h.br, h.zs, h.vt, h.dc, h.nm.mono ht, h.fr⟩
/-- both sides and the neutral state -/
abbrev KK (t : Nat) (n : ag_N) (s : ag_S) : Prop := (∃ (A : TT) (nl na ng : Nat), ClS A nl na ng n s ∧ RfS A nl na ng s ∧ In A nl na ng t)
theorem KK.ex {t : Nat} {n : ag_N} {s : ag_S} (h : KK t n s) : ∃ (A : TT) (nl na ng : Nat), ClS A nl na ng n s ∧ RfS A nl na ng s ∧ In A nl na ng t := h
/-! ===== the reference's sums, of the neutral state ===== -/
theorem i32_swap2 (a b c : Int32) : (a + b) + c = (a + c) + b := by ac_rfl
theorem stands_R {A : TT} {nl na ng fu l : Nat} {s : ag_S} (h : RfS A nl na ng s) (hw : Wf A nl na ng) (hb : Br A nl na) (hf : 41 < fu) (hl : l < 10) : ∃ s', f_X6_stands fu (nI l) s = some (standA A na l, s') ∧ (∀ k f i, k ≠ 59 → s' k f i = s k f i) ∧ ∀ a, a < na → s' 59 0 (nI a) = A 3 4 a := by
  have hna := hw.hna
  have hT : Tree s na := fun k hk => by
    rw [h.r44 k (by omega)]
    exact hw.tree k hk
  have hS : Sol s na (fun a => A 3 4 a) := fun a ha => by
    show A 3 4 a = _
    rw [h.r46 a (by omega), hb.sol a ha]
    refine congrArg _ (isum_congr fun k hk => ?_)
    unfold kidA kid
    rw [h.r44 k (by omega), h.r47 k (by omega)]
  obtain ⟨s', e1, e2, e3⟩ := standsR (fu := fu) h.z13 hna (by omega) hT hS hl
  refine ⟨s', ?_, e2, e3⟩
  rw [e1, h.r39 l (by omega), h.r40 l (by omega), h.r41 l (by omega)]
  refine congrArg some (Prod.ext ?_ rfl)
  unfold standA baseA
  dsimp only
  refine congrArg _ (isum_congr fun k hk => ?_)
  unfold rootA rootR
  rw [h.r44 k (by omega), h.r45 k (by omega), h.r47 k (by omega)]
theorem bound_R {A : TT} {nl na ng fu l : Nat} {s : ag_S} (h : RfS A nl na ng s) (hw : Wf A nl na ng) (hf : 41 < fu) (hl : l < 10) : f_X6_bound fu (nI l) s = some (boundA A ng l) := by
  have hng := hw.hng
  rw [boundR h.z20 hng (by omega) hl, h.r42 l (by omega)]
  unfold boundA
  refine congrArg some (congrArg _ (isum_congr fun k hk => ?_))
  unfold bindA bindR
  rw [h.r51 k (by omega), h.r57 k (by omega), h.r54 k (by omega), h.r53 k (by omega)]
theorem free_R {A : TT} {nl na ng fu l : Nat} {s : ag_S} (h : RfS A nl na ng s) (hw : Wf A nl na ng) (hb : Br A nl na) (hf : 41 < fu) (hl : l < 10) : ∃ s', f_X6_free fu (nI l) s = some (freeA A na ng l, s') ∧ ∀ k f i, k ≠ 59 → s' k f i = s k f i := by
  obtain ⟨s', e1, e2, -⟩ := stands_R h hw hb hf hl
  refine ⟨s', ?_, e2⟩
  unfold f_X6_free
  rw [e1, bd_some]
  dsimp only
  rw [bound_R (h.u59 e2) hw hf hl, bd_some]
  rfl
/-! ===== the class's ===== -/
theorem stands_C {A : TT} {nl na ng fu l : Nat} {n : ag_N} {s : ag_S} (h : ClS A nl na ng n s) (hb : Br A nl na) (hl : l < nl) : f_X2_stands fu (nI l) s = some (standA A na l) := by
  unfold f_X2_stands f_X2_standsWith
  rw [h.g2 hl, h.g2 hl, h.g2 hl, h.g2 hl, bd_some, hb.bro l hl]
  unfold standA baseA
  refine congrArg some ?_
  rw [Int32.sub_eq_add_neg, Int32.sub_eq_add_neg]
  ac_rfl
theorem bound_C {A : TT} {nl na ng fu l : Nat} {n : ag_N} {s : ag_S} (h : ClS A nl na ng n s) (hf : 60 < fu) (hl : l < nl) : f_X5_boundOf fu (nI l) s = some (boundA A ng l) := by
  have b := h.l4.le
  rw [boundC h.l4 (by omega), h.g2 hl]
  unfold boundA
  refine congrArg some (congrArg _ (isum_congr fun k hk => ?_))
  unfold bindA bindC
  rw [h.g4 hk, h.g4 hk, h.g4 hk, h.g4 hk]
theorem free_C {A : TT} {nl na ng fu l : Nat} {n : ag_N} {s : ag_S} (h : ClS A nl na ng n s) (hb : Br A nl na) (hf : 60 < fu) (hl : l < nl) : f_X5_freeOf fu (nI l) s = some (freeA A na ng l) := by
  unfold f_X5_freeOf
  rw [stands_C h hb hl, bd_some, bound_C h hf hl, bd_some]
  rfl
