/-! NAMES that hide others: parts, parameters, reps. -/
/-- is the name one of the parts from p0 on; one of the reps from r on -/
def PIN (T : TT) (sm : Sg) (id : Int) (p0 pc : Nat) : Prop := ∃ p, p0 ≤ p ∧ p < p0 + pc ∧ 0 ≤ sm 104 p ∧ T.vl (sm 104 p).toNat = id
def rin (T : TT) (sm : Sg) (id : Int) : Nat → Int → Prop
  | 0, _ => False
  | k + 1, r => 0 ≤ r ∧ (T.vl (sm 107 r.toNat).toNat = id ∨ rin T sm id k (sm 113 r.toNat))
def OWN (T : TT) (sm : Sg) (s : Nat) (r id : Int) : Prop := PIN T sm id (sm 98 s).toNat (sm 99 s).toNat ∨ rin T sm id 8200 r
/-- and how wide it is -/
def OWW (T : TT) (sm : Sg) (s : Nat) (r id w : Int) : Prop := (rin T sm id 8200 r ∧ w = 8) ∨ (¬ rin T sm id 8200 r ∧ ∃ p, (sm 98 s).toNat ≤ p ∧ p < (sm 98 s).toNat + (sm 99 s).toNat ∧ 0 ≤ sm 104 p ∧ T.vl (sm 104 p).toNat = id ∧ w = (if mn (T.vl (sm 105 p).toNat) < 1 then 1 else mn (T.vl (sm 105 p).toNat)))
/-- the reps in whose bodies one is, as the class has them bound above np -/
def RST (T : TT) (sc sm : Sg) (np : Nat) : Nat → Int → Prop
  | 0, r => r = -1
  | j + 1, r => ∃ a : Nat, r = (a : Int) ∧ a < 8200 ∧ T.vl (sm 107 a).toNat = sc 38 (np + j) ∧ sc 37 (sc 38 (np + j)).toNat = 8 ∧ sm 113 a < (a : Int) ∧ RST T sc sm np j (sm 113 a)
/-- the number of a name that stands in the text -/
def IDN (T : TT) (id : Nat) : Prop := ∃ x, x < T.z ∧ T.tk x = 1 ∧ T.vl x = (id : Int)
theorem IDN.lt {T : TT} {id : Nat} (hT : TWF T) (h : IDN T id) : id < T.m := by
  obtain ⟨x, h1, h2, h3⟩ := h
  have := hT.2.2.2.2.2.1 x h1 h2
  omega
theorem IDN.at {T : TT} {x : Nat} (hT : TWF T) (hx : x < T.z) (tx : T.tk x = 1) : IDN T (T.vl x).toNat := by
  have := hT.2.2.2.2.1 x hx
  exact ⟨x, hx, tx, by omega⟩
/-- what the class has bound: B names, np of them parts of s; behind the rep r -/
def BND (T : TT) (sc sm : Sg) (s : Nat) (r : Int) (B np : Nat) : Prop :=
  sc 31 8 = (B : Int) ∧ np ≤ B ∧ (∀ i, i < B → ∃ id : Nat, sc 38 i = (id : Int) ∧ id < T.m ∧ sc 37 id ≠ 0) ∧ (∀ i j, i < B → j < B → sc 38 i = sc 38 j → i = j) ∧ (∀ id, IDN T id → sc 37 id ≠ 0 → ∃ i, i < B ∧ sc 38 i = (id : Int)) ∧
  (∀ i, i < np → ∃ p, (sm 98 s).toNat ≤ p ∧ p < (sm 98 s).toNat + (sm 99 s).toNat ∧ 0 ≤ sm 104 p ∧ T.vl (sm 104 p).toNat = sc 38 i ∧ sc 37 (sc 38 i).toNat = (if mn (T.vl (sm 105 p).toNat) < 1 then 1 else mn (T.vl (sm 105 p).toNat))) ∧
  (∀ p, (sm 98 s).toNat ≤ p → p < (sm 98 s).toNat + (sm 99 s).toNat → 0 ≤ sm 104 p → ∃ i, i < np ∧ sc 38 i = T.vl (sm 104 p).toNat) ∧ RST T sc sm np (B - np) r
section OWNS
variable {T : TT} {sc sm sc' sm' : Sg} {s np B : Nat} {r id : Int}
theorem rst_rin : ∀ (j : Nat) (r : Int) (k : Nat), RST T sc sm np j r → r < (k : Int) → (rin T sm id k r ↔ ∃ i, i < j ∧ sc 38 (np + i) = id) := by
  intro j
  induction j with
  | zero =>
    intro r k h hk
    have h : r = -1 := h
    subst h
    constructor
    · intro y
      cases k with
      | zero => exact absurd y (fun z => z)
      | succ k => exact absurd y.1 (by decide)
    · intro ⟨i, hi, _⟩
      omega
  | succ j ih =>
    intro r k h hk
    obtain ⟨a, h1, h2, h3, h4, h5, h6⟩ := h
    subst h1
    obtain ⟨k, rfl⟩ : ∃ x, k = x + 1 := ⟨k - 1, by omega⟩
    have hi := ih (sm 113 a) k h6 (by omega)
    show (0 ≤ (a : Int) ∧ (T.vl (sm 107 (a : Int).toNat).toNat = id ∨ rin T sm id k (sm 113 (a : Int).toNat))) ↔ _
    rw [Int.toNat_natCast, hi, h3]
    constructor
    · intro ⟨_, y⟩
      rcases y with y | ⟨i, i1, i2⟩
      · exact ⟨j, by omega, y⟩
      · exact ⟨i, by omega, i2⟩
    · intro ⟨i, i1, i2⟩
      refine ⟨by omega, ?_⟩
      by_cases e : i = j
      · subst e; exact Or.inl i2
      · exact Or.inr ⟨i, by omega, i2⟩
theorem rst_w : ∀ (j : Nat) (r : Int), RST T sc sm np j r → ∀ i, i < j → sc 37 (sc 38 (np + i)).toNat = 8 := by
  intro j
  induction j with
  | zero => intro r _ i hi; omega
  | succ j ih =>
    intro r h i hi
    obtain ⟨a, h1, h2, h3, h4, h5, h6⟩ := h
    by_cases e : i = j
    · subst e; exact h4
    · exact ih _ h6 i (by omega)
theorem rst_r : ∀ (j : Nat) (r : Int), RST T sc sm np j r → r < 8200 := by
  intro j r h
  cases j with
  | zero => have h : r = -1 := h; omega
  | succ j => obtain ⟨a, h1, h2, _⟩ := h; omega
/-- a name is bound just when the reference finds it among its own -/
theorem BND.own (h : BND T sc sm s r B np) {i : Nat} (hi : IDN T i) : sc 37 i ≠ 0 ↔ OWN T sm s r (i : Int) := by
  obtain ⟨b1, b2, b3, b4, b5, b6, b7, b8⟩ := h
  have hr := rst_rin (id := (i : Int)) (B - np) r 8200 b8 (rst_r _ _ b8)
  constructor
  · intro y
    obtain ⟨k, k1, k2⟩ := b5 i hi y
    by_cases e : k < np
    · obtain ⟨p, p1, p2, p3, p4, p5⟩ := b6 k e
      exact Or.inl ⟨p, p1, p2, p3, by rw [p4, k2]⟩
    · exact Or.inr (hr.mpr ⟨k - np, by omega, by rw [show np + (k - np) = k by omega]; exact k2⟩)
  · intro y
    rcases y with ⟨p, p1, p2, p3, p4⟩ | y
    · obtain ⟨k, k1, k2⟩ := b7 p p1 p2 p3
      obtain ⟨id, d1, d2, d3⟩ := b3 k (by omega)
      rw [p4] at k2
      have : id = i := by omega
      rw [← this]; exact d3
    · obtain ⟨k, k1, k2⟩ := hr.mp y
      obtain ⟨id, d1, d2, d3⟩ := b3 (np + k) (by omega)
      have : id = i := by omega
      rw [← this]; exact d3
theorem BND.oww (h : BND T sc sm s r B np) {i : Nat} (hi : IDN T i) (h0 : sc 37 i ≠ 0) : OWW T sm s r (i : Int) (sc 37 i) := by
  obtain ⟨b1, b2, b3, b4, b5, b6, b7, b8⟩ := h
  have hr := rst_rin (id := (i : Int)) (B - np) r 8200 b8 (rst_r _ _ b8)
  obtain ⟨k, k1, k2⟩ := b5 i hi h0
  by_cases e : k < np
  · obtain ⟨p, p1, p2, p3, p4, p5⟩ := b6 k e
    rw [k2, Int.toNat_natCast] at p5
    refine Or.inr ⟨fun y => ?_, p, p1, p2, p3, by rw [p4, k2], p5⟩
    obtain ⟨j, j1, j2⟩ := hr.mp y
    have := b4 k (np + j) k1 (by omega) (by rw [k2, j2])
    omega
  · have hw := rst_w _ _ b8 (k - np) (by omega)
    rw [show np + (k - np) = k by omega, k2, Int.toNat_natCast] at hw
    exact Or.inl ⟨hr.mpr ⟨k - np, by omega, by rw [show np + (k - np) = k by omega]; exact k2⟩, hw⟩
/-- the chain of reps looks at what is below alone -/
theorem rin_congr {A : Nat} (hA : ∀ a, a < A → sm 113 a < (a : Int)) (h1 : ∀ c a, 106 ≤ c → c ≤ 113 → a < A → sm' c a = sm c a) : ∀ (k : Nat) (r : Int), r < (A : Int) → (rin T sm' id k r ↔ rin T sm id k r) := by
  intro k
  induction k with
  | zero => intro r _; exact Iff.rfl
  | succ k ih =>
    intro r hr
    show (0 ≤ r ∧ (T.vl (sm' 107 r.toNat).toNat = id ∨ rin T sm' id k (sm' 113 r.toNat))) ↔ (0 ≤ r ∧ (T.vl (sm 107 r.toNat).toNat = id ∨ rin T sm id k (sm 113 r.toNat)))
    by_cases h0 : 0 ≤ r
    · have ha : r.toNat < A := by omega
      have := hA r.toNat ha
      rw [h1 107 r.toNat (by decide) (by decide) ha, h1 113 r.toNat (by decide) (by decide) ha, ih _ (by omega)]
    · exact ⟨fun y => absurd y.1 h0, fun y => absurd y.1 h0⟩
theorem OWN.congr {A P : Nat} {p0 pc : Nat} (hA : ∀ a, a < A → sm 113 a < (a : Int)) (h1 : ∀ c a, 106 ≤ c → c ≤ 113 → a < A → sm' c a = sm c a) (h2 : ∀ p, p < P → sm' 104 p = sm 104 p) (h98 : sm 98 s = (p0 : Int)) (h99 : sm 99 s = (pc : Int)) (hP : p0 + pc ≤ P) (e98 : sm' 98 s = sm 98 s) (e99 : sm' 99 s = sm 99 s) (hr : r < (A : Int)) : OWN T sm' s r id ↔ OWN T sm s r id := by
  unfold OWN PIN
  rw [e98, e99, rin_congr hA h1 _ _ hr, h98, h99, Int.toNat_natCast, Int.toNat_natCast]
  constructor
  · intro y
    rcases y with ⟨p, p1, p2, p3, p4⟩ | y
    · rw [h2 p (by omega)] at p3 p4
      exact Or.inl ⟨p, p1, p2, p3, p4⟩
    · exact Or.inr y
  · intro y
    rcases y with ⟨p, p1, p2, p3, p4⟩ | y
    · rw [← h2 p (by omega)] at p3 p4
      exact Or.inl ⟨p, p1, p2, p3, p4⟩
    · exact Or.inr y
end OWNS
