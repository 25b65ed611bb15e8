/-! THE REFERENCE's names, numbers, values. -/
theorem lor8 {v c : Nat} (hv : v < 36028797018963968) (hc : c < 256) : ax_lor (ax_lshl (v : Int) 8) (c : Int) = ((v * 256 + c : Nat) : Int) := by
  refine inl64_inj (inl64_or _ _) ?_ ?_
  · unfold inl64
    rw [BitVec.toInt_ofInt, Int.bmod_eq_of_le] <;> omega
  · rw [or_lo (by omega) (by omega), u64_nat (by omega), u64_nat (by omega)]
    omega
section ML
variable {s : Sg} {n : Nat} {t : Nat → Int}
theorem m39l (h : MT s n t) {k11 : Int → Sg → Option Sg} (i0 : Nat) : ∀ (k i F : Nat), i + k = n → j_208_39 k11 (F + k + 1) (i0 : Int) (i : Int) s = j_208_67 k11 (i0 : Int) ((rn isLD t k i : Nat) : Int) s := by
  intro k
  induction k with
  | zero =>
    intro i F hi
    obtain ⟨e, g⟩ := h.at i
    have e2 : chs t n i = -1 := if_neg (by omega)
    rw [j_208_39, gd_pos g, gd_pos g, e, e2, m225, m226, if_neg (by decide), if_pos (by decide)]
    simp only [rn]
  | succ k ih =>
    intro i F hi
    have h8 := h.2.1
    obtain ⟨e, g⟩ := h.at i
    have e2 : chs t n i = t i := if_pos (by omega)
    have nx : isLD (t i) = true → j_208_61 k11 (j_208_39 k11 (F + (k + 1))) (i0 : Int) (i : Int) s = j_208_67 k11 (i0 : Int) ((rn isLD t (k + 1) i : Nat) : Int) s := by
      intro c
      unfold j_208_61
      rw [w32_nat (by omega), show F + (k + 1) = F + k + 1 by omega, ih (i + 1) F (by omega)]
      simp only [rn, c, if_true]
    rw [j_208_39, gd_pos g, gd_pos g, e, e2, m225, m226]
    cases c : isL (t i) with
    | true =>
      rw [if_pos (by decide)]
      exact nx (by simp [isLD, c])
    | false =>
      rw [if_neg (by decide)]
      cases d : isD (t i) with
      | true =>
        rw [if_neg (by decide)]
        exact nx (by simp [isLD, d])
      | false =>
        rw [if_pos (by decide)]
        simp only [rn, isLD, c, d, Bool.or_self, Bool.false_eq_true, if_false]
theorem m73l (h : MT s n t) (i0 : Nat) : ∀ (k i F : Nat), i + k = n → j_229_73 (F + k + 1) (i0 : Int) (i : Int) s = j_229_90 (i0 : Int) ((rn isD t k i : Nat) : Int) s := by
  intro k
  induction k with
  | zero =>
    intro i F hi
    obtain ⟨e, g⟩ := h.at i
    have e2 : chs t n i = -1 := if_neg (by omega)
    rw [j_229_73, gd_pos g, e, e2, m226, if_pos (by decide)]
    simp only [rn]
  | succ k ih =>
    intro i F hi
    have h8 := h.2.1
    obtain ⟨e, g⟩ := h.at i
    have e2 : chs t n i = t i := if_pos (by omega)
    rw [j_229_73, gd_pos g, e, e2, m226]
    cases c : isD (t i) with
    | true =>
      rw [if_neg (by decide), w32_nat (by omega), show F + (k + 1) = F + k + 1 by omega, ih (i + 1) F (by omega)]
      simp only [rn, c, if_true]
    | false =>
      rw [if_pos (by decide)]
      simp only [rn, c, Bool.false_eq_true, if_false]
theorem m40l (h : MT s n t) (i0 : Nat) : ∀ (k i F : Nat), i + k = n → j_229_40 (F + k + 1) (i0 : Int) (i : Int) s = j_229_57 (i0 : Int) ((rn isH t k i : Nat) : Int) s := by
  intro k
  induction k with
  | zero =>
    intro i F hi
    obtain ⟨e, g⟩ := h.at i
    have e2 : chs t n i = -1 := if_neg (by omega)
    rw [j_229_40, gd_pos g, e, e2, m251, if_pos (by decide)]
    simp only [rn]
  | succ k ih =>
    intro i F hi
    have h8 := h.2.1
    obtain ⟨e, g⟩ := h.at i
    have e2 : chs t n i = t i := if_pos (by omega)
    rw [j_229_40, gd_pos g, e, e2, m251]
    cases c : isH (t i) with
    | true =>
      rw [if_neg (by decide), w32_nat (by omega), show F + (k + 1) = F + k + 1 by omega, ih (i + 1) F (by omega)]
      simp only [rn, c, if_true]
    | false =>
      rw [if_pos (by decide)]
      simp only [rn, c, Bool.false_eq_true, if_false]
/-- does a hex number begin there -/
def hxq (t : Nat → Int) (n i : Nat) : Bool := decide (chs t n i = 48 ∧ chs t n (i + 1) = 120) && isH (chs t n (i + 2))
theorem hxq_len {i : Nat} (c : hxq t n i = true) : i + 3 ≤ n := by
  unfold hxq at c
  simp only [Bool.and_eq_true] at c
  apply Decidable.byContradiction
  intro hn
  have : chs t n (i + 2) = -1 := if_neg (by omega)
  rw [this] at c
  exact absurd c.2 (by decide)
/-- where a number ends -/
def nmE (t : Nat → Int) (n i : Nat) : Nat := if hxq t n i then rn isH t (n - (i + 2)) (i + 2) else rn isD t (n - i) i
def nmOk (t : Nat → Int) (n i : Nat) : Bool := if hxq t n i then decide (nmE t n i - i ≤ 10) else decide (nmE t n i - i ≤ 32)
def nmV (t : Nat → Int) (n i : Nat) : Int := if hxq t n i then hvl t (nmE t n i - (i + 2)) (i + 2) 0 else dvl t (nmE t n i - i) i 0
theorem nmE_b {i : Nat} (hi : i < n) (hd : isD (t i) = true) : i < nmE t n i ∧ nmE t n i ≤ n := by
  unfold nmE
  split
  · rename_i c
    have := hxq_len c
    have := rn_ge isH t (n - (i + 2)) (i + 2)
    omega
  · have := rn_ge isD t (n - i) i
    have h2 : i + 1 ≤ rn isD t (n - i) i := by
      rw [show n - i = (n - i - 1) + 1 by omega]
      simp only [rn, hd, if_true]
      exact (rn_ge isD t _ _).1
    omega
theorem m229 (h : MT s n t) (i : Nat) (hi : i < n) : f_229 (i : Int) s = some (((nmE t n i : Nat) : Int), if nmOk t n i then s else f_227 1 (i : Int) s) := by
  have h8 := h.2.1
  obtain ⟨e0, g0⟩ := h.at i
  obtain ⟨e1, g1⟩ := h.at (i + 1)
  obtain ⟨e2, g2⟩ := h.at (i + 2)
  have w2 : ax_w32 ((i : Int) + 2) = ((i + 2 : Nat) : Int) := by rw [w32_id (by omega) (by omega)]; omega
  unfold f_229
  rw [w2, w32_nat (i := i) (by omega), gd_pos g0, gd_pos g1, gd_pos g2, e0, e1, e2, m251]
  have dec : hxq t n i = false → j_229_73 FU (i : Int) (i : Int) s = some (((nmE t n i : Nat) : Int), if nmOk t n i then s else f_227 1 (i : Int) s) := by
    intro c
    obtain ⟨F, hF⟩ := FU_split (k := n - i + 1) (by omega)
    rw [hF, show F + (n - i + 1) = F + (n - i) + 1 by omega, m73l h i (n - i) i F (by omega)]
    have hr := rn_ge isD t (n - i) i
    unfold j_229_90 nmOk nmE
    simp only [c, Bool.false_eq_true, if_false]
    rw [w32_id (by omega) (by omega)]
    by_cases d : rn isD t (n - i) i - i ≤ 32
    · rw [if_pos (by omega), if_pos (decide_eq_true d)]
    · rw [if_neg (by omega), if_neg (by simpa using d)]
      rfl
  by_cases c0 : chs t n i = 48
  · by_cases c1 : chs t n (i + 1) = 120
    · cases c2 : isH (chs t n (i + 2)) with
      | true =>
        have c : hxq t n i = true := by simp [hxq, c0, c1, c2]
        have hl := hxq_len c
        rw [if_neg (by simp [c0]), if_neg (by simp [c1]), if_neg (by decide)]
        obtain ⟨F, hF⟩ := FU_split (k := n - (i + 2) + 1) (by omega)
        rw [hF, show F + (n - (i + 2) + 1) = F + (n - (i + 2)) + 1 by omega, m40l h i (n - (i + 2)) (i + 2) F (by omega)]
        have hr := rn_ge isH t (n - (i + 2)) (i + 2)
        unfold j_229_57 nmOk nmE
        simp only [c, if_true]
        rw [w32_id (by omega) (by omega)]
        by_cases d : rn isH t (n - (i + 2)) (i + 2) - i ≤ 10
        · rw [if_pos (by omega), if_pos (decide_eq_true d)]
        · rw [if_neg (by omega), if_neg (by simpa using d)]
          rfl
      | false =>
        rw [if_neg (by simp [c0]), if_neg (by simp [c1]), if_pos (by decide)]
        exact dec (by simp [hxq, c2])
    · rw [if_neg (by simp [c0]), if_pos c1]
      exact dec (by simp [hxq, c1])
  · rw [if_pos c0]
    exact dec (by simp [hxq, c0])
theorem m228l (h : MT s n t) (j i0 : Nat) : ∀ (k i F : Nat), i + k = j → i0 ≤ i → j ≤ n → j - i0 ≤ 6 → j_228_14 (F + k + 1) (j : Int) ((pk t (i - i0) i0 : Nat) : Int) (i : Int) s = j_228_40 ((pk t (j - i0) i0 : Nat) : Int) s := by
  intro k
  induction k with
  | zero =>
    intro i F hi h0 hj h6
    rw [j_228_14, if_pos (by omega), show i = j by omega]
  | succ k ih =>
    intro i F hi h0 hj h6
    have h8 := h.2.1
    obtain ⟨b1, b2, b3⟩ := h.2.2 i (by omega)
    have lt : pk t (i - i0) i0 < 256 ^ (i - i0) ∨ True := Or.inr trivial
    rw [j_228_14, if_neg (by omega), gd_pos (by omega), Int.toNat_natCast, b1, w32_nat (by omega), show F + (k + 1) = F + k + 1 by omega]
    have hpk : pk t (i - i0) i0 < 36028797018963968 := by
      have gen : ∀ k i, i + k ≤ n → pk t k i < 256 ^ k := by
        intro k
        induction k with
        | zero => intro i _; exact Nat.one_pos
        | succ k ih2 =>
          intro i hi
          have a := ih2 i (by omega)
          have b := (h.2.2 (i + k) (by omega)).2
          simp only [pk]
          rw [Nat.pow_succ]
          omega
      have a := gen (i - i0) i0 (by omega)
      have b : 256 ^ (i - i0) ≤ 256 ^ 5 := Nat.pow_le_pow_right (by decide) (by omega)
      have c : (256 : Nat) ^ 5 = 1099511627776 := by decide
      omega
    have step : ax_lor (ax_lshl ((pk t (i - i0) i0 : Nat) : Int) 8) (t i) = ((pk t (i + 1 - i0) i0 : Nat) : Int) := by
      have e := lor8 hpk (show (t i).toNat < 256 by omega)
      rw [Int.toNat_of_nonneg b2] at e
      rw [e, show i + 1 - i0 = (i - i0) + 1 by omega]
      simp only [pk]
      rw [show i0 + (i - i0) = i by omega]
    rw [step]
    exact ih (i + 1) F (by omega) (by omega) hj h6
theorem m228 (h : MT s n t) {i j : Nat} (hij : i ≤ j) (hj : j ≤ n) (hb : ∀ e, i ≤ e → e < j → isLD (t e) = true) : f_228 (i : Int) (j : Int) s = some (km (wkc (pk t (j - i) i))) := by
  have h8 := h.2.1
  have hp : ∀ e, e < j - i → 0 < t (i + e) ∧ t (i + e) < 256 := by
    intro e he
    have a := hb (i + e) (by omega) (by omega)
    have b := (h.2.2 (i + e) (by omega)).2
    unfold isLD isL isD at a
    simp only [Bool.or_eq_true, decide_eq_true_eq] at a
    omega
  unfold f_228
  rw [w32_id (by omega) (by omega)]
  by_cases c : j - i ≤ 5
  · rw [if_pos (by omega)]
    obtain ⟨F, hF⟩ := FU_split (k := j - i + 1) (by omega)
    have e := m228l h j i (j - i) i F (by omega) (by omega) hj (by omega)
    rw [show i - i = 0 by omega] at e
    rw [hF, show F + (j - i + 1) = F + (j - i) + 1 by omega]
    refine (show j_228_14 (F + (j - i) + 1) (j : Int) 0 (i : Int) s = _ from e).trans ?_
    generalize pk t (j - i) i = v
    unfold j_228_40 wkc
    simp only [cmp_eq]
    have hv : ∀ a : Nat, ((v : Int) = (a : Int)) = (v = a) := fun a => propext (by omega)
    by_cases w0 : v = 2003792484
    · subst w0; rfl
    by_cases w1 : v = 7497063
    · subst w1; rfl
    by_cases w2 : v = 7169389
    · subst w2; rfl
    by_cases w3 : v = 6579558
    · subst w3; rfl
    by_cases w4 : v = 6909555
    · subst w4; rfl
    by_cases w5 : v = 26982
    · subst w5; rfl
    by_cases w6 : v = 1701606245
    · subst w6; rfl
    by_cases w7 : v = 7497072
    · subst w7; rfl
    by_cases w8 : v = 491260572517
    · subst w8; rfl
    by_cases w9 : v = 29560
    · subst w9; rfl
    by_cases w10 : v = 31352
    · subst w10; rfl
    by_cases w11 : v = 6513012
    · subst w11; rfl
    rw [if_pos (by omega), if_pos (by omega), if_pos (by omega), if_pos (by omega), if_pos (by omega), if_pos (by omega), if_pos (by omega), if_pos (by omega), if_pos (by omega), if_pos (by omega), if_pos (by omega), if_pos (by omega),
      if_neg w0, if_neg w1, if_neg w2, if_neg w3, if_neg w4, if_neg w5, if_neg w6, if_neg w7, if_neg w8, if_neg w9, if_neg w10, if_neg w11]
    rfl
  · rw [if_neg (by omega)]
    have big : ∀ k, 6 ≤ k → k ≤ j - i → 1099511627776 ≤ pk t k i := by
      intro k
      induction k with
      | zero => intro h; omega
      | succ k ih =>
        intro h1 h2
        simp only [pk]
        by_cases x : k = 5
        · subst x
          have p0 := hp 0 (by omega)
          simp only [pk]
          omega
        · have := ih (by omega) (by omega)
          omega
    have := big (j - i) (by omega) (by omega)
    generalize pk t (j - i) i = v at *
    have : wkc v = 1 := by
      unfold wkc
      rw [if_neg (by omega), if_neg (by omega), if_neg (by omega), if_neg (by omega), if_neg (by omega), if_neg (by omega), if_neg (by omega), if_neg (by omega), if_neg (by omega), if_neg (by omega), if_neg (by omega), if_neg (by omega)]
    rw [this]
    rfl
end ML
