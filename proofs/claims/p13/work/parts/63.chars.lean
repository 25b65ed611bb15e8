/-! LETTERS, DIGITS, RUNS. -/
def isL (c : Int) : Bool := decide (97 ≤ c ∧ c ≤ 122 ∨ 65 ≤ c ∧ c ≤ 90 ∨ c = 95)
def isD (c : Int) : Bool := decide (48 ≤ c ∧ c ≤ 57)
def isH (c : Int) : Bool := decide (48 ≤ c ∧ c ≤ 57 ∨ 97 ≤ c ∧ c ≤ 102)
def isLD (c : Int) : Bool := isL c || isD c
def b01 (b : Bool) : Int := if b then 1 else 0
theorem b01_t : b01 true = 1 := rfl
theorem b01_f : b01 false = 0 := rfl
theorem b01_0 {b : Bool} : b01 b = 0 ↔ b = false := by cases b <;> decide
theorem b01_dec {p : Prop} [Decidable p] : b01 (decide p) = if p then 1 else 0 := by
  unfold b01
  by_cases h : p <;> simp [h]
theorem c85 (c : Int) (s : Sg) : f_85 c s = b01 (isL c) := by
  unfold f_85 isL
  rw [b01_dec]
  repeat' split
  all_goals first | rfl | (exfalso; omega)
theorem c87 (c : Int) (s : Sg) : f_87 c s = b01 (isD c) := by
  unfold f_87 isD
  rw [b01_dec]
  repeat' split
  all_goals first | rfl | (exfalso; omega)
theorem m225 (c : Int) (s : Sg) : f_225 c s = b01 (isL c) := by
  unfold f_225 isL
  rw [b01_dec]
  simp only [within_eq]
  repeat' split
  all_goals first | rfl | (exfalso; omega)
theorem m226 (c : Int) (s : Sg) : f_226 c s = b01 (isD c) := by
  unfold f_226 isD
  rw [b01_dec, within_eq]
theorem m251 (c : Int) (s : Sg) : f_251 c s = b01 (isH c) := by
  unfold f_251 isH
  rw [b01_dec, m226]
  simp only [within_eq, isD, b01_dec]
  repeat' split
  all_goals first | rfl | (exfalso; omega)
/-- a hex digit's value -/
def hxv (c : Int) : Int := if c ≤ 57 then c - 48 else c - 87
theorem c89 (c : Int) (s : Sg) : f_89 c s = if isH c then hxv c else -1 := by
  unfold f_89 isH hxv
  rw [c87]
  simp only [isD, b01_dec, decide_eq_true_eq]
  repeat' split
  all_goals first | rfl | (exfalso; omega) | (rw [w32_id (by omega) (by omega)] <;> omega) | (rw [w32_id (z := c - 97) (by omega) (by omega), w32_id (by omega) (by omega)]; omega)
theorem hxv_b {c : Int} (h : isH c = true) : 0 ≤ hxv c ∧ hxv c < 16 := by
  have := of_decide_eq_true h
  unfold hxv
  split <;> omega
def rn (p : Int → Bool) (t : Nat → Int) : Nat → Nat → Nat
  | 0, i => i
  | k + 1, i => if p (t i) then rn p t k (i + 1) else i
theorem rn_ge (p : Int → Bool) (t : Nat → Int) : ∀ k i, i ≤ rn p t k i ∧ rn p t k i ≤ i + k := by
  intro k
  induction k with
  | zero => intro i; exact ⟨Nat.le_refl _, Nat.le_refl _⟩
  | succ k ih =>
    intro i
    simp only [rn]
    split
    · have := ih (i + 1); omega
    · omega
theorem rn_all (p : Int → Bool) (t : Nat → Int) : ∀ k i e, i ≤ e → e < rn p t k i → p (t e) = true := by
  intro k
  induction k with
  | zero => intro i e h1 h2; simp only [rn] at h2; omega
  | succ k ih =>
    intro i e h1 h2
    simp only [rn] at h2
    split at h2
    · by_cases x : e = i
      · subst x; assumption
      · exact ih (i + 1) e (by omega) h2
    · omega
theorem rn_stop (p : Int → Bool) (t : Nat → Int) : ∀ k i, rn p t k i < i + k → p (t (rn p t k i)) = false := by
  intro k
  induction k with
  | zero => intro i h; simp only [rn] at h; omega
  | succ k ih =>
    intro i h
    simp only [rn] at h ⊢
    split at h
    · rename_i c
      rw [if_pos c]
      exact ih (i + 1) (by omega)
    · rename_i c
      rw [if_neg c]
      simpa using c
/-- numbers, as long as they are told apart -/
def cap (x : Int) : Int := if 1099511627776 < x then 1099511627776 else x
def dvl (t : Nat → Int) : Nat → Nat → Int → Int
  | 0, _, v => v
  | k + 1, i, v => dvl t k (i + 1) (cap (v * 10 + (t i - 48)))
def hvl (t : Nat → Int) : Nat → Nat → Int → Int
  | 0, _, v => v
  | k + 1, i, v => hvl t k (i + 1) (cap (v * 16 + hxv (t i)))
theorem cap_b {x : Int} (h : 0 ≤ x) : 0 ≤ cap x ∧ cap x ≤ 1099511627776 := by unfold cap; split <;> omega
theorem dvl_b (t : Nat → Int) : ∀ k i v, (∀ e, i ≤ e → e < i + k → isD (t e) = true) → 0 ≤ v → v ≤ 1099511627776 → 0 ≤ dvl t k i v ∧ dvl t k i v ≤ 1099511627776 := by
  intro k
  induction k with
  | zero => intro i v _ h0 h1; exact ⟨h0, h1⟩
  | succ k ih =>
    intro i v h h0 h1
    have a := of_decide_eq_true (h i (by omega) (by omega))
    have b := cap_b (x := v * 10 + (t i - 48)) (by omega)
    exact ih (i + 1) _ (fun e he he2 => h e (by omega) (by omega)) b.1 b.2
theorem hvl_b (t : Nat → Int) : ∀ k i v, (∀ e, i ≤ e → e < i + k → isH (t e) = true) → 0 ≤ v → v ≤ 1099511627776 → 0 ≤ hvl t k i v ∧ hvl t k i v ≤ 1099511627776 := by
  intro k
  induction k with
  | zero => intro i v _ h0 h1; exact ⟨h0, h1⟩
  | succ k ih =>
    intro i v h h0 h1
    have a := hxv_b (h i (by omega) (by omega))
    have b := cap_b (x := v * 16 + hxv (t i)) (by omega)
    exact ih (i + 1) _ (fun e he he2 => h e (by omega) (by omega)) b.1 b.2
theorem cap_293 (x : Int) (s : Sg) : f_293 x 1099511627776 s = cap x := by
  unfold f_293 cap
  simp only [cmp_gt]
section CN
variable {s : Sg} {n : Nat} {t : Nat → Int}
/-- the class's text -/
def CT (s : Sg) (n : Nat) (t : Nat → Int) : Prop := s 39 8 = (n : Int) ∧ n ≤ 8192 ∧ ∀ i, i < n → s 40 i % 256 = t i ∧ 0 ≤ t i ∧ t i < 256
theorem CT.at (h : CT s n t) (i : Nat) : f_83 (i : Int) s = chs t n i ∧ g_83 (i : Int) s := by
  obtain ⟨a, b⟩ := c83 h.1 h.2.1 i
  refine ⟨a.trans ?_, b⟩
  unfold chs
  split
  · exact (h.2.2 i (by assumption)).1
  · rfl
theorem CT.ch {i : Nat} (_ : CT s n t) (hi : i < n) : chs t n i = t i := if_pos hi
theorem CT.congr {s' : Sg} (h : CT s n t) (h1 : s' 39 8 = s 39 8) (h2 : s' 40 = s 40) : CT s' n t := by
  unfold CT
  rw [h1, h2]
  exact h
theorem c91l (h : CT s n t) (i0 : Nat) : ∀ (k i F : Nat) (v : Int), i + k = n → i0 ≤ i → 0 ≤ v → v ≤ 1099511627776 →
    j_91_4 (F + k + 1) (i0 : Int) (i : Int) v s = j_91_51 (i0 : Int) ((rn isD t k i : Nat) : Int) (dvl t (rn isD t k i - i) i v) s := by
  intro k
  induction k with
  | zero =>
    intro i F v hi h0 h1 h2
    rw [j_91_4, if_pos (by have := h.1; omega)]
    simp only [rn, Nat.sub_self, dvl]
  | succ k ih =>
    intro i F v hi h0 h1 h2
    have h8 := h.2.1
    obtain ⟨e, g⟩ := h.at i
    rw [h.ch (by omega)] at e
    rw [j_91_4, if_neg (by have := h.1; omega), gd_pos g, gd_pos g, e, c87]
    cases c : isD (t i) with
    | false =>
      rw [if_pos (show b01 false = 0 from rfl)]
      simp only [rn, c, Bool.false_eq_true, if_false, Nat.sub_self, dvl]
    | true =>
      have a := of_decide_eq_true c
      have b := cap_b (x := v * 10 + (t i - 48)) (by omega)
      have hr := rn_ge isD t k (i + 1)
      rw [if_neg (by decide), w32_id (z := t i - 48) (by omega) (by omega), w64_id (z := v * 10) (by omega) (by omega), w64_id (by omega) (by omega), cap_293, w32_nat (by omega), show F + (k + 1) = F + k + 1 by omega, ih (i + 1) F _ (by omega) (by omega) b.1 b.2]
      have er : rn isD t (k + 1) i = rn isD t k (i + 1) := by simp only [rn, c, if_true]
      rw [er, show rn isD t k (i + 1) - i = (rn isD t k (i + 1) - (i + 1)) + 1 by omega]
      simp only [dvl]
theorem c91 (h : CT s n t) (i : Nat) (hi : i ≤ n) : f_91 (i : Int) s = j_91_51 (i : Int) ((rn isD t (n - i) i : Nat) : Int) (dvl t (rn isD t (n - i) i - i) i 0) s := by
  obtain ⟨F, hF⟩ := FU_split (k := n - i + 1) (by have := h.2.1; omega)
  unfold f_91
  rw [hF, show F + (n - i + 1) = F + (n - i) + 1 by omega]
  exact c91l h i (n - i) i F 0 (by omega) (by omega) (by omega) (by omega)
theorem c90l (h : CT s n t) (i0 : Nat) : ∀ (k i F : Nat) (v : Int), i + k = n → i0 ≤ i → 0 ≤ v → v ≤ 1099511627776 →
    j_90_6 (F + k + 1) (i0 : Int) (i : Int) v s = j_90_54 (i0 : Int) ((rn isH t k i : Nat) : Int) (hvl t (rn isH t k i - i) i v) s := by
  intro k
  induction k with
  | zero =>
    intro i F v hi h0 h1 h2
    rw [j_90_6, if_pos (by have := h.1; omega)]
    simp only [rn, Nat.sub_self, hvl]
  | succ k ih =>
    intro i F v hi h0 h1 h2
    have h8 := h.2.1
    obtain ⟨e, g⟩ := h.at i
    rw [h.ch (by omega)] at e
    rw [j_90_6, if_neg (by have := h.1; omega), gd_pos g, gd_pos g, e, c89]
    cases c : isH (t i) with
    | false =>
      rw [if_pos (show (if false = true then hxv (t i) else -1) = -1 from rfl)]
      simp only [rn, c, Bool.false_eq_true, if_false, Nat.sub_self, hvl]
    | true =>
      have a := hxv_b c
      have b := cap_b (x := v * 16 + hxv (t i)) (by omega)
      have hr := rn_ge isH t k (i + 1)
      rw [show (if true = true then hxv (t i) else -1) = hxv (t i) from rfl, if_neg (by omega), w64_id (z := v * 16) (by omega) (by omega), w64_id (by omega) (by omega), cap_293, w32_nat (by omega), show F + (k + 1) = F + k + 1 by omega, ih (i + 1) F _ (by omega) (by omega) b.1 b.2]
      have er : rn isH t (k + 1) i = rn isH t k (i + 1) := by simp only [rn, c, if_true]
      rw [er, show rn isH t k (i + 1) - i = (rn isH t k (i + 1) - (i + 1)) + 1 by omega]
      simp only [hvl]
theorem c90 (h : CT s n t) (i : Nat) (hi : i + 2 ≤ n) : f_90 (i : Int) s = j_90_54 (i : Int) ((rn isH t (n - (i + 2)) (i + 2) : Nat) : Int) (hvl t (rn isH t (n - (i + 2)) (i + 2) - (i + 2)) (i + 2) 0) s := by
  have h8 := h.2.1
  obtain ⟨F, hF⟩ := FU_split (k := n - (i + 2) + 1) (by omega)
  unfold f_90
  rw [hF, show F + (n - (i + 2) + 1) = F + (n - (i + 2)) + 1 by omega, w32_id (z := (i : Int) + 2) (by omega) (by omega), show (i : Int) + 2 = ((i + 2 : Nat) : Int) by omega]
  exact c90l h i (n - (i + 2)) (i + 2) F 0 (by omega) (by omega) (by omega) (by omega)
end CN
