/-! RINGS: counting, ways. -/
noncomputable def cnt (p : Nat → Prop) : Nat → Nat
  | 0 => 0
  | n + 1 => cnt p n + (p01 (p n)).toNat
section CNT
variable {p p' : Nat → Prop} {n x : Nat}
theorem cnt_y (h : p n) : cnt p (n + 1) = cnt p n + 1 := by
  show cnt p n + (p01 (p n)).toNat = _
  rw [p01_y h]
  rfl
theorem cnt_n (h : ¬ p n) : cnt p (n + 1) = cnt p n := by
  show cnt p n + (p01 (p n)).toNat = _
  rw [p01_n h]
  rfl
theorem cnt_le : ∀ n, cnt p n ≤ n := by
  intro n
  induction n with
  | zero => exact Nat.le_refl _
  | succ n ih =>
    by_cases h : p n
    · rw [cnt_y h]; omega
    · rw [cnt_n h]; omega
theorem cnt_c : ∀ n, (∀ i, i < n → (p i ↔ p' i)) → cnt p n = cnt p' n := by
  intro n
  induction n with
  | zero => intro _; rfl
  | succ n ih =>
    intro h
    have a := ih (fun i hi => h i (by omega))
    by_cases c : p n
    · rw [cnt_y c, cnt_y ((h n (by omega)).mp c), a]
    · rw [cnt_n c, cnt_n (fun y => c ((h n (by omega)).mpr y)), a]
theorem cnt_u : ∀ n, x < n → ¬ p x → p' x → (∀ i, i < n → i ≠ x → (p i ↔ p' i)) → cnt p' n = cnt p n + 1 := by
  intro n
  induction n with
  | zero => intro h; omega
  | succ n ih =>
    intro hx h1 h2 h
    by_cases e : x = n
    · subst e
      rw [cnt_y h2, cnt_n h1, cnt_c x (p := p) (p' := p') (fun i hi => h i (by omega) (by omega))]
    · have a := ih (by omega) h1 h2 (fun i hi hi2 => h i (by omega) hi2)
      by_cases c : p n
      · rw [cnt_y c, cnt_y ((h n (by omega) (by omega)).mp c), a]
      · rw [cnt_n c, cnt_n (fun y => c ((h n (by omega) (by omega)).mpr y)), a]
theorem cnt_all : ∀ n, cnt p n = n → ∀ i, i < n → p i := by
  intro n
  induction n with
  | zero => intro _ i hi; omega
  | succ n ih =>
    intro h i hi
    have l := cnt_le (p := p) n
    by_cases c : p n
    · rw [cnt_y c] at h
      by_cases e : i = n
      · rw [e]; exact c
      · exact ih (by omega) i (by omega)
    · rw [cnt_n c] at h
      omega
theorem cnt_lt (hx : x < n) (h : ¬ p x) : cnt p n < n := by
  have l := cnt_le (p := p) n
  by_cases e : cnt p n = n
  · exact absurd (cnt_all n e x hx) h
  · omega
theorem cnt_0 : ∀ n, cnt p n = 0 → ∀ i, i < n → ¬ p i := by
  intro n
  induction n with
  | zero => intro _ i hi; omega
  | succ n ih =>
    intro h i hi
    by_cases c : p n
    · rw [cnt_y c] at h; omega
    · rw [cnt_n c] at h
      by_cases e : i = n
      · rw [e]; exact c
      · exact ih h i (by omega)
theorem cnt_z : ∀ n, (∀ i, i < n → ¬ p i) → cnt p n = 0 := by
  intro n
  induction n with
  | zero => intro _; rfl
  | succ n ih =>
    intro h
    rw [cnt_n (h n (by omega))]
    exact ih (fun i hi => h i (by omega))
end CNT
/-- a way of k calls from a to b -/
def WYK (E : Nat → Nat → Prop) : Nat → Nat → Nat → Prop
  | 0, a, b => a = b
  | k + 1, a, b => ∃ c, E a c ∧ WYK E k c b
def WAY (E : Nat → Nat → Prop) (a b : Nat) : Prop := ∃ k, WYK E k a b
/-- a calls itself by way of any -/
def CYC (E : Nat → Nat → Prop) (a : Nat) : Prop := ∃ b, E a b ∧ WAY E b a
section RPS
variable {E : Nat → Nat → Prop} {a b c : Nat}
theorem WAY.refl (a : Nat) : WAY E a a := ⟨0, rfl⟩
theorem WAY.step (h : E a c) (k : WAY E c b) : WAY E a b := by
  obtain ⟨n, k⟩ := k
  exact ⟨n + 1, c, h, k⟩
/-- what is closed under callers has all that come there -/
theorem WAY.clos {P : Nat → Prop} (h : WAY E a b) (hb : P b) (hc : ∀ x y, E x y → P y → P x) : P a := by
  obtain ⟨n, h⟩ := h
  induction n generalizing a with
  | zero => rw [show a = b from h]; exact hb
  | succ n ih =>
    obtain ⟨c, h1, h2⟩ := h
    exact hc a c h1 (ih h2)
/-- what each call leads further down has no ring -/
theorem CYC.no {f : Nat → Nat} (hf : ∀ x y, E x y → f y < f x) : ¬ CYC E a := by
  intro ⟨b, h1, n, h2⟩
  have key : ∀ n x y, WYK E n x y → f y ≤ f x := by
    intro n
    induction n with
    | zero => intro x y h; rw [show x = y from h]; exact Nat.le_refl _
    | succ n ih =>
      intro x y ⟨z, g1, g2⟩
      have := hf x z g1
      have := ih z y g2
      omega
  have := hf a b h1
  have := key n b a h2
  omega
end RPS
/-- the last one below lo with a mark -/
def LN (tr : Nat → Nat) (b lo : Nat) (q : Int) : Prop := (q = -1 ∧ ∀ c, c < lo → tr c ≠ b) ∨ (∃ c : Nat, c < lo ∧ q = (c : Int) ∧ tr c = b ∧ ∀ d, c < d → d < lo → tr d ≠ b)
theorem LN.put {tr : Nat → Nat} {b : Nat} (lo : Nat) (h : tr lo = b) : LN tr b (lo + 1) (lo : Int) := Or.inr ⟨lo, by omega, rfl, h, fun d h1 h2 => by omega⟩
theorem LN.keep {tr tr' : Nat → Nat} {b lo : Nat} {q : Int} (h : LN tr b lo q) (h1 : ∀ c, c < lo → tr' c = tr c) : LN tr' b lo q := by
  rcases h with ⟨h2, h3⟩ | ⟨c, h2, h3, h4, h5⟩
  · exact Or.inl ⟨h2, fun c hc => by rw [h1 c hc]; exact h3 c hc⟩
  · exact Or.inr ⟨c, h2, h3, by rw [h1 c h2]; exact h4, fun d y z => by rw [h1 d z]; exact h5 d y z⟩
theorem LN.up {tr : Nat → Nat} {b lo : Nat} {q : Int} (h : LN tr b lo q) (h1 : tr lo ≠ b) : LN tr b (lo + 1) q := by
  rcases h with ⟨h2, h3⟩ | ⟨c, h2, h3, h4, h5⟩
  · exact Or.inl ⟨h2, fun c hc => by
      by_cases e : c = lo
      · rw [e]; exact h1
      · exact h3 c (by omega)⟩
  · exact Or.inr ⟨c, by omega, h3, h4, fun d y z => by
      by_cases e : d = lo
      · rw [e]; exact h1
      · exact h5 d y (by omega)⟩
