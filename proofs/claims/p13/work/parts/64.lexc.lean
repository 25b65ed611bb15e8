/-! ONE LEXEME: names and signs. -/
def AD (s : Sg) (z : Nat) (k i j v : Int) : Sg := ax_u2 (ax_u2 (ax_u2 (ax_u2 (ax_u2 (ax_u2 s 41 z k) 42 z i) 43 z (j - i)) 44 z v) 45 z 0) 39 9 ((z : Int) + 1)
theorem c78 {s : Sg} {z : Nat} (hz : s 39 9 = (z : Int)) (h8 : z < 8193) {i j : Nat} (hi : i ≤ j) (hj : j ≤ 8192) (k v : Int) : f_78 k (i : Int) (j : Int) v s = AD s z k (i : Int) (j : Int) v ∧ g_78 k (i : Int) (j : Int) v s := by
  unfold f_78 g_78 AD
  rw [hz, if_pos (by omega), w32_id (z := (j : Int) - i) (by omega) (by omega), w32_id (by omega) (by omega), Int.toNat_natCast]
  have : 0 ≤ (z : Int) ∧ (z : Int) < 8193 := by omega
  exact ⟨rfl, fun _ => ⟨this, this, this, this, this, trivial⟩, fun _ => trivial⟩
theorem u2_self (s : Sg) {a j : Nat} {z : Int} (h : s a j = z) : ax_u2 s a j z = s := by
  funext b k
  simp only [ax_u2]
  split
  · split
    · rename_i e1 e2
      rw [e1, e2, h]
    · rfl
  · rfl
theorem sp_over (s : Sg) (a b c d : Int) : ax_u2 (ax_u2 (ax_u2 (ax_u2 s 31 9 a) 31 10 b) 31 9 c) 31 10 d = ax_u2 (ax_u2 s 31 9 c) 31 10 d := by
  funext x k
  simp only [ax_u2]
  by_cases h1 : x = 31
  · by_cases h2 : k = 10
    · simp [h1, h2]
    · by_cases h3 : k = 9
      · simp [h1, h3]
      · simp [h1, h2, h3]
  · simp [h1]
theorem NI.congr {s s' : Sg} {m : Nat} (h : NI s m) (h1 : s' 31 7 = s 31 7) (h2 : s' 32 = s 32) (h3 : s' 33 = s 33) (h4 : s' 34 = s 34) (h5 : s' 35 = s 35) : NI s' m := by
  unfold NI
  rw [h1, h2, h3, h4, h5]
  exact h
theorem c104 {s : Sg} {m : Nat} (h : NI s m) (hm : m < 4112) (h9 : s 31 9 = 0) (h10 : s 31 10 = 0) (hi lo : Int) :
    ∃ (id : Nat) (s1 : Sg), f_104 (ax_u2 (ax_u2 s 31 9 hi) 31 10 lo) = some ((id : Int), s1) ∧ ((id < m ∧ s 34 id = hi ∧ s 35 id = lo ∧ s1 = s) ∨ (id = m ∧ NNew s s1 m hi lo ∧ ∀ k, k < m → ¬ (s 34 k = hi ∧ s 35 k = lo))) := by
  have a1 : (ax_u2 (ax_u2 s 31 9 hi) 31 10 lo) 31 9 = hi := by simp [ax_u2]
  have a2 : (ax_u2 (ax_u2 s 31 9 hi) 31 10 lo) 31 10 = lo := by simp [ax_u2]
  have hS : NI (ax_u2 (ax_u2 s 31 9 hi) 31 10 lo) m := h.congr (by simp [ax_u2]) (by funext x; simp [ax_u2]) (by funext x; simp [ax_u2]) (by funext x; simp [ax_u2]) (by funext x; simp [ax_u2])
  have r34 : (ax_u2 (ax_u2 s 31 9 hi) 31 10 lo) 34 = s 34 := by funext x; simp [ax_u2]
  have r35 : (ax_u2 (ax_u2 s 31 9 hi) 31 10 lo) 35 = s 35 := by funext x; simp [ax_u2]
  unfold f_104
  rw [a1, a2]
  rcases idOf_ok hS hm hi lo with ⟨k, hk, b1, b2, e⟩ | ⟨s', b, no, e⟩
  · refine ⟨k, s, ?_, Or.inl ⟨hk, by rw [← r34]; exact b1, by rw [← r35]; exact b2, rfl⟩⟩
    rw [e]
    show some ((k : Int), ax_u2 (ax_u2 (ax_u2 (ax_u2 s 31 9 hi) 31 10 lo) 31 9 0) 31 10 0) = _
    rw [sp_over, u2_self s h9, u2_self s h10]
  · refine ⟨m, ax_u2 (ax_u2 s' 31 9 0) 31 10 0, ?_, Or.inr ⟨rfl, ?_, ?_⟩⟩
    · rw [e]
      rfl
    · obtain ⟨c1, c2, c3, c4, c5, c6, c7, c8⟩ := b
      refine ⟨c1.congr (by simp [ax_u2]) (by funext x; simp [ax_u2]) (by funext x; simp [ax_u2]) (by funext x; simp [ax_u2]) (by funext x; simp [ax_u2]), ?_, ?_, ?_, ?_, ?_, ?_, ?_⟩
      · intro k hk
        have := c2 k hk
        simp [ax_u2] at this ⊢
        exact this
      · simpa [ax_u2] using c3
      · simpa [ax_u2] using c4
      · simpa [ax_u2] using c5
      · simpa [ax_u2] using c6
      · intro j hj
        have := c7 j hj
        simp only [ax_u2] at this ⊢
        by_cases x9 : j = 9
        · simp [x9, h9]
        · by_cases x10 : j = 10
          · simp [x10, h10]
          · simp [x9, x10] at this ⊢
            exact this
      · intro a ha
        have := c8 a ha
        funext k
        have := congrFun this k
        simp only [ax_u2] at this ⊢
        rw [if_neg (by omega), if_neg (by omega)] at this
        rw [if_neg (by omega), if_neg (by omega)]
        exact this
    · intro k hk
      have := no k hk
      rw [r34, r35] at this
      exact this
section CL
variable {s : Sg} {n : Nat} {t : Nat → Int}
theorem c86l (h : CT s n t) (i0 : Nat) : ∀ (k i F : Nat), i + k = n → i0 ≤ i →
    j_86_2 (F + k + 1) (i0 : Int) (i : Int) (ax_u2 (ax_u2 s 31 9 (spl t (i - i0) i0).1) 31 10 (spl t (i - i0) i0).2) = j_86_50 (i0 : Int) ((rn isLD t k i : Nat) : Int) (ax_u2 (ax_u2 s 31 9 (spl t (rn isLD t k i - i0) i0).1) 31 10 (spl t (rn isLD t k i - i0) i0).2) := by
  intro k
  induction k with
  | zero =>
    intro i F hi h0
    have hS : CT (ax_u2 (ax_u2 s 31 9 (spl t (i - i0) i0).1) 31 10 (spl t (i - i0) i0).2) n t := h.congr (by simp [ax_u2]) (by funext x; simp [ax_u2])
    rw [j_86_2, if_pos (by have := hS.1; omega)]
    simp only [rn]
  | succ k ih =>
    intro i F hi h0
    have h8 := h.2.1
    have hS : CT (ax_u2 (ax_u2 s 31 9 (spl t (i - i0) i0).1) 31 10 (spl t (i - i0) i0).2) n t := h.congr (by simp [ax_u2]) (by funext x; simp [ax_u2])
    obtain ⟨e, g⟩ := hS.at i
    rw [hS.ch (by omega)] at e
    have nx : isLD (t i) = true → j_86_32 (j_86_2 (F + (k + 1))) (i0 : Int) (i : Int) (ax_u2 (ax_u2 s 31 9 (spl t (i - i0) i0).1) 31 10 (spl t (i - i0) i0).2) = j_86_50 (i0 : Int) ((rn isLD t (k + 1) i : Nat) : Int) (ax_u2 (ax_u2 s 31 9 (spl t (rn isLD t (k + 1) i - i0) i0).1) 31 10 (spl t (rn isLD t (k + 1) i - i0) i0).2) := by
      intro c
      have er : rn isLD t (k + 1) i = rn isLD t k (i + 1) := by simp only [rn, c, if_true]
      rw [er, ← ih (i + 1) F (by omega) (by omega)]
      unfold j_86_32
      rw [gd_pos g, e, w32_nat (by omega)]
      show j_86_2 (F + (k + 1)) (i0 : Int) ((i + 1 : Nat) : Int) (f_105 (t i) _) = _
      rw [show F + (k + 1) = F + k + 1 by omega]
      congr 1
      unfold f_105
      rw [sp_over, show i + 1 - i0 = (i - i0) + 1 by omega]
      simp only [spl]
      rw [show i0 + (i - i0) = i by omega]
      simp only [ax_u2]
      rfl
    rw [j_86_2, if_neg (by have := hS.1; omega), gd_pos g, gd_pos g, e, c85, c87]
    cases c : isL (t i) with
    | true =>
      rw [if_pos (by decide)]
      exact nx (by simp [isLD, c])
    | false =>
      rw [if_neg (by decide)]
      cases d : isD (t i) with
      | true =>
        rw [if_neg (by decide)]
        exact nx (by simp [isLD, d])
      | false =>
        rw [if_pos (show b01 false = 0 from rfl)]
        have er : rn isLD t (k + 1) i = i := by simp only [rn, isLD, c, d, Bool.or_self, Bool.false_eq_true, if_false]
        rw [er]
/-- a name: its id, and the state with it -/
theorem c86 {m z : Nat} (h : CT s n t) (hN : NI s m) (hm : m < 4112) (h9 : s 31 9 = 0) (h10 : s 31 10 = 0) (hz : s 39 9 = (z : Int)) (hz8 : z < 8193) (i : Nat) (hi : i ≤ n) :
    ∃ (id : Nat) (s1 : Sg), f_86 (i : Int) s = (if rn isLD t (n - i) i - i ≤ 16 then some (((rn isLD t (n - i) i : Nat) : Int), AD s1 z (if 12 ≤ id then 1 else 16 + (id : Int)) (i : Int) ((rn isLD t (n - i) i : Nat) : Int) (id : Int)) else some (-1, s1)) ∧
      ((id < m ∧ s 34 id = (spl t (rn isLD t (n - i) i - i) i).1 ∧ s 35 id = (spl t (rn isLD t (n - i) i - i) i).2 ∧ s1 = s) ∨ (id = m ∧ NNew s s1 m (spl t (rn isLD t (n - i) i - i) i).1 (spl t (rn isLD t (n - i) i - i) i).2 ∧ ∀ k, k < m → ¬ (s 34 k = (spl t (rn isLD t (n - i) i - i) i).1 ∧ s 35 k = (spl t (rn isLD t (n - i) i - i) i).2))) := by
  have h8 := h.2.1
  have hr := rn_ge isLD t (n - i) i
  obtain ⟨F, hF⟩ := FU_split (k := n - i + 1) (by omega)
  have e0 := c86l h i (n - i) i F (by omega) (by omega)
  rw [show i - i = 0 by omega] at e0
  have z0 : ax_u2 (ax_u2 s 31 9 (spl t 0 i).1) 31 10 (spl t 0 i).2 = s := by
    show ax_u2 (ax_u2 s 31 9 0) 31 10 0 = s
    rw [u2_self s h9, u2_self s h10]
  rw [z0] at e0
  have e1 : f_86 (i : Int) s = j_86_50 (i : Int) ((rn isLD t (n - i) i : Nat) : Int) (ax_u2 (ax_u2 s 31 9 (spl t (rn isLD t (n - i) i - i) i).1) 31 10 (spl t (rn isLD t (n - i) i - i) i).2) := by
    unfold f_86
    rw [hF, show F + (n - i + 1) = F + (n - i) + 1 by omega]
    exact e0
  generalize rn isLD t (n - i) i = j at *
  obtain ⟨id, s1, e2, hc⟩ := c104 hN hm h9 h10 (spl t (j - i) i).1 (spl t (j - i) i).2
  refine ⟨id, s1, ?_, hc⟩
  rw [e1]
  unfold j_86_50
  rw [e2]
  show (if ax_w32 ((j : Int) - i) ≤ 16 then _ else some (-1, s1)) = _
  have hz1 : s1 39 9 = (z : Int) := by
    rcases hc with ⟨-, -, -, e⟩ | ⟨-, e, -⟩
    · rw [e]; exact hz
    · rw [e.2.2.2.2.2.2.2 39 (by omega)]; exact hz
  have hid : id < 4112 := by
    rcases hc with ⟨e, -⟩ | ⟨e, -⟩ <;> omega
  rw [w32_id (by omega) (by omega)]
  have ek : (if (id : Int) < 0 then (1 : Int) else (if 12 ≤ (id : Int) then 1 else ax_w32 (16 + (id : Int)))) = (if 12 ≤ id then 1 else 16 + (id : Int)) := by
    rw [if_neg (by omega)]
    by_cases c : 12 ≤ id
    · rw [if_pos (by omega), if_pos c]
    · rw [if_neg (by omega), if_neg c, w32_id (by omega) (by omega)]
  by_cases c : j - i ≤ 16
  · rw [if_pos (by omega), if_pos c]
    obtain ⟨q1, q2⟩ := c78 hz1 hz8 (i := i) (j := j) (by omega) (by omega) (if 12 ≤ id then 1 else 16 + (id : Int)) (id : Int)
    show gd (g_78 (if (id : Int) < 0 then (1 : Int) else (if 12 ≤ (id : Int) then 1 else ax_w32 (16 + (id : Int)))) _ _ _ _) _ = _
    rw [ek, gd_pos q2]
    show some ((j : Int), f_78 _ _ _ _ _) = _
    rw [q1]
  · rw [if_neg (by omega), if_neg c]
end CL
