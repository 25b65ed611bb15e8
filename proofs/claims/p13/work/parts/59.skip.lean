/-! WHITE: behindWhite and skip. -/
def chs (t : Nat → Int) (n i : Nat) : Int := if i < n then t i else -1
def wht (c : Int) : Bool := c == 9 || c == 10 || c == 13 || c == 32
def wsk (t : Nat → Int) : Nat → Bool → Nat → Nat
  | 0, _, i => i
  | k + 1, cm, i => if wht (t i) || (t i == 35 || (cm && t i != 10)) then wsk t k (t i == 35 || (cm && t i != 10)) (i + 1) else i
def nlk (t : Nat → Int) : Nat → Nat → Nat
  | 0, i => i
  | k + 1, i => if t i = 10 then i else nlk t k (i + 1)
theorem nlk_ge (t : Nat → Int) : ∀ k i, i ≤ nlk t k i ∧ nlk t k i ≤ i + k := by
  intro k
  induction k with
  | zero => intro i; exact ⟨Nat.le_refl _, Nat.le_refl _⟩
  | succ k ih =>
    intro i
    simp only [nlk]
    split
    · omega
    · have := ih (i + 1); omega
theorem wsk_ge (t : Nat → Int) : ∀ k cm i, i ≤ wsk t k cm i ∧ wsk t k cm i ≤ i + k := by
  intro k
  induction k with
  | zero => intro cm i; exact ⟨Nat.le_refl _, Nat.le_refl _⟩
  | succ k ih =>
    intro cm i
    simp only [wsk]
    split
    · have := ih (t i == 35 || (cm && t i != 10)) (i + 1); omega
    · omega
theorem wsk_true (t : Nat → Int) : ∀ k i, wsk t k true i = wsk t (k - (nlk t k i - i)) false (nlk t k i) := by
  intro k
  induction k with
  | zero => intro i; simp [wsk, nlk]
  | succ k ih =>
    intro i
    by_cases h : t i = 10
    · simp [wsk, nlk, h, wht]
    · have hg := nlk_ge t k (i + 1)
      have e : nlk t (k + 1) i = nlk t k (i + 1) := by simp [nlk, h]
      rw [e, show k + 1 - (nlk t k (i + 1) - i) = k - (nlk t k (i + 1) - (i + 1)) by omega, ← ih]
      have b : (t i != 10) = true := by simp [h]
      simp [wsk, b]
section SK
variable {s : Sg} {n : Nat}
theorem c83 (hn : s 39 8 = (n : Int)) (h8 : n ≤ 8192) (i : Nat) : f_83 (i : Int) s = chs (fun i => s 40 i % 256) n i ∧ g_83 (i : Int) s := by
  unfold f_83 g_83 chs
  rw [hn]
  have h0 : ¬ (i : Int) < 0 := by omega
  rw [if_neg h0]
  by_cases h : i < n
  · rw [if_neg (by omega), if_pos h, iand255, Int.toNat_natCast]
    exact ⟨rfl, fun h1 => absurd h1 h0, fun _ => ⟨fun _ => trivial, fun _ => ⟨⟨by omega, by omega⟩, trivial⟩⟩⟩
  · rw [if_pos (by omega), if_neg h]
    exact ⟨rfl, fun h1 => absurd h1 h0, fun _ => ⟨fun _ => trivial, fun h2 => absurd (show (n : Int) ≤ i by omega) h2⟩⟩
theorem m224 (hn : s 84 3 = (n : Int)) (h8 : n ≤ 8192) (i : Nat) : f_224 (i : Int) s = chs (s 86) n i ∧ g_224 (i : Int) s := by
  unfold f_224 g_224 chs
  rw [hn]
  by_cases h : i < n
  · rw [if_neg (by omega), if_pos h, Int.toNat_natCast]
    exact ⟨rfl, fun _ => trivial, fun _ => ⟨⟨by omega, by omega⟩, trivial⟩⟩
  · rw [if_pos (by omega), if_neg h]
    exact ⟨rfl, fun _ => trivial, fun h2 => absurd (show (n : Int) ≤ i by omega) h2⟩
theorem w32_nat {i : Nat} (h : i ≤ 100000) : ax_w32 ((i : Int) + 1) = ((i + 1 : Nat) : Int) := by rw [w32_id (by omega) (by omega)]; omega
theorem c76l (hn : s 39 8 = (n : Int)) (h8 : n ≤ 8192) : ∀ (k i F : Nat) (cm : Bool), i + k = n → j_76_4 (F + k + 1) (if cm then 1 else 0) (i : Int) s = some ((wsk (fun i => s 40 i % 256) k cm i : Nat) : Int) := by
  intro k
  induction k with
  | zero =>
    intro i F cm h
    rw [j_76_4, if_pos (by omega)]
    simp only [wsk]
    rw [hn, show n = i by omega]
  | succ k ih =>
    intro i F cm h
    obtain ⟨e, g⟩ := c83 hn h8 i
    have hi : chs (fun i => s 40 i % 256) n i = s 40 i % 256 := if_pos (by omega)
    rw [j_76_4, if_neg (by omega), gd_pos g, e, hi]
    generalize hc : s 40 i % 256 = c
    have e1 : ((if c = 9 then 1 else (if c = 10 then 1 else (if c = 13 then 1 else (if ¬ c = 32 then 0 else 1)))) : Int) = if wht c then 1 else 0 := by
      unfold wht
      by_cases h1 : c = 9
      · simp [h1]
      by_cases h2 : c = 10
      · simp [h2]
      by_cases h3 : c = 13
      · simp [h3]
      by_cases h4 : c = 32
      · simp [h4]
      simp [h1, h2, h3, h4]
    have e2 : ((if c = 35 then 1 else (if ((if cm then 1 else 0) : Int) = 0 then 0 else (if c = 10 then 0 else 1))) : Int) = if (c == 35 || (cm && c != 10)) then 1 else 0 := by
      by_cases h1 : c = 35
      · simp [h1]
      by_cases h2 : c = 10
      · cases cm <;> simp [h2]
      cases cm <;> simp [h1, h2]
    rw [e1, e2]
    have step := ih (i + 1) F (c == 35 || (cm && c != 10)) (by omega)
    have w : wsk (fun i => s 40 i % 256) (k + 1) cm i = if wht c || (c == 35 || (cm && c != 10)) then wsk (fun i => s 40 i % 256) k (c == 35 || (cm && c != 10)) (i + 1) else i := by
      simp only [wsk, hc]
    rw [w]
    unfold j_76_89
    rw [w32_nat (by omega)]
    have hF : F + (k + 1) = F + k + 1 := by omega
    rw [hF]
    by_cases q1 : wht c = true
    · rw [if_pos (by simp [q1]), step]
      simp [q1]
    · by_cases q2 : (c == 35 || (cm && c != 10)) = true
      · rw [if_neg (by simp [q1]), if_pos (by simp [q2]), step]
        simp [q2]
      · rw [if_neg (by simp [q1]), if_neg (by simp [q2])]
        simp [q1, q2]
theorem c76 (hn : s 39 8 = (n : Int)) (h8 : n ≤ 8192) (i : Nat) (hi : i ≤ n) : f_76 (i : Int) s = some ((wsk (fun i => s 40 i % 256) (n - i) false i : Nat) : Int) := by
  obtain ⟨F, hF⟩ := FU_split (k := n - i + 1) (by omega)
  unfold f_76
  rw [hF, show F + (n - i + 1) = F + (n - i) + 1 by omega]
  exact c76l hn h8 (n - i) i F false (by omega)
theorem m223n (hn : s 84 3 = (n : Int)) (h8 : n ≤ 8192) {k4 : Int → Int → Sg → Option Int} : ∀ (k i F : Nat), i + k = n → j_223_64 k4 (F + k + 1) (i : Int) 1 s = k4 ((nlk (s 86) k i : Nat) : Int) 1 s := by
  intro k
  induction k with
  | zero =>
    intro i F h
    rw [j_223_64, if_pos (by omega)]
    simp only [nlk]
  | succ k ih =>
    intro i F h
    obtain ⟨e, g⟩ := m224 hn h8 i
    have hi : chs (s 86) n i = s 86 i := if_pos (by omega)
    rw [j_223_64, if_neg (by omega), gd_pos g, e, hi]
    simp only [nlk]
    split
    · rfl
    · rw [w32_nat (by omega), show F + (k + 1) = F + k + 1 by omega]
      exact ih (i + 1) F (by omega)
theorem m223l (hn : s 84 3 = (n : Int)) (h8 : n ≤ 8192) : ∀ (k i F : Nat), i + k = n → j_223_4 (F + 2 * k + 2) (i : Int) 1 s = some ((wsk (s 86) k false i : Nat) : Int) := by
  intro k
  induction k using Nat.strongRecOn with
  | ind k ih =>
    intro i F h
    obtain ⟨e, g⟩ := m224 hn h8 i
    have fin : ∀ G, j_223_4 (G + 1) (i : Int) 0 s = some ((i : Nat) : Int) := fun G => by rw [j_223_4, if_pos rfl]
    rw [j_223_4, if_neg (by decide), gd_pos g, gd_pos g, gd_pos g, gd_pos g, gd_pos g, e]
    cases k with
    | zero =>
      have hi : chs (s 86) n i = -1 := if_neg (by omega)
      rw [hi]
      simp only [wsk]
      simp only [show ¬ (-1 : Int) = 9 by decide, show ¬ (-1 : Int) = 10 by decide, show ¬ (-1 : Int) = 13 by decide, show ¬ (-1 : Int) = 32 by decide, show ¬ (-1 : Int) = 35 by decide, if_false, not_false_eq_true, if_true]
      exact fin F
    | succ k =>
      have hi : chs (s 86) n i = s 86 i := if_pos (by omega)
      rw [hi]
      have nx : j_223_48 (j_223_4 (F + 2 * (k + 1) + 1)) (i : Int) 1 s = some ((wsk (s 86) k false (i + 1) : Nat) : Int) := by
        unfold j_223_48
        rw [w32_nat (by omega), show F + 2 * (k + 1) + 1 = F + 1 + 2 * k + 2 by omega]
        exact ih k (by omega) (i + 1) (F + 1) (by omega)
      have w : wsk (s 86) (k + 1) false i = if wht (s 86 i) || (s 86 i == 35) then wsk (s 86) k (s 86 i == 35) (i + 1) else i := by
        simp only [wsk, Bool.false_and, Bool.or_false]
      rw [w]
      by_cases h1 : s 86 i = 9
      · rw [if_pos h1, nx]; simp [h1, wht]
      by_cases h2 : s 86 i = 10
      · rw [if_neg h1, if_pos h2, nx]; simp [h2, wht]
      by_cases h3 : s 86 i = 13
      · rw [if_neg h1, if_neg h2, if_pos h3, nx]; simp [h3, wht]
      by_cases h4 : s 86 i = 32
      · rw [if_neg h1, if_neg h2, if_neg h3, if_neg (by simp [h4]), nx]; simp [h4, wht]
      by_cases h5 : s 86 i = 35
      · rw [if_neg h1, if_neg h2, if_neg h3, if_pos h4, if_neg (by simp [h5])]
        obtain ⟨G, hG⟩ := FU_split (k := k + 1 + 1) (by omega)
        rw [hG, show G + (k + 1 + 1) = G + (k + 1) + 1 by omega, m223n hn h8 (k + 1) i G (by omega)]
        have hg := nlk_ge (s 86) k (i + 1)
        have en : nlk (s 86) (k + 1) i = nlk (s 86) k (i + 1) := by simp [nlk, h5]
        rw [en]
        have := ih (k - (nlk (s 86) k (i + 1) - (i + 1))) (by omega) (nlk (s 86) k (i + 1)) (F + 1 + 2 * k - 2 * (k - (nlk (s 86) k (i + 1) - (i + 1)))) (by omega)
        rw [show F + 2 * (k + 1) + 1 = F + 1 + 2 * k - 2 * (k - (nlk (s 86) k (i + 1) - (i + 1))) + 2 * (k - (nlk (s 86) k (i + 1) - (i + 1))) + 2 by omega, this, ← wsk_true]
        simp [h5]
      · rw [if_neg h1, if_neg h2, if_neg h3, if_pos h4, if_pos h5]
        simp only [wht, h1, h2, h3, h4, h5, beq_iff_eq, Bool.or_eq_true, or_self, if_false]
        exact fin _
theorem m223 (hn : s 84 3 = (n : Int)) (h8 : n ≤ 8192) (i : Nat) (hi : i ≤ n) : f_223 (i : Int) s = some ((wsk (s 86) (n - i) false i : Nat) : Int) := by
  obtain ⟨F, hF⟩ := FU_split (k := 2 * (n - i) + 2) (by omega)
  unfold f_223
  rw [hF, show F + (2 * (n - i) + 2) = F + 2 * (n - i) + 2 by omega]
  exact m223l hn h8 (n - i) i F (by omega)
end SK
