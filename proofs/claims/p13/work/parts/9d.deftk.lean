/-! A HELPER on both sides. -/
theorem PRX.q {p q : Int} (h : PRX p q) : q ≠ 59 ∧ q ≠ 123 ∧ q ≠ 125 ∧ ¬ (17 ≤ q ∧ q ≤ 20) := by
  unfold PRX at h
  rcases h with ⟨_, h⟩ | ⟨_, h⟩ | ⟨_, h⟩ | ⟨_, h⟩ | ⟨_, h⟩ | ⟨_, h⟩
  · simp [opS] at h; omega
  · simp [opF] at h; omega
  all_goals omega
section HSM
variable {T : TT} {sc0 sm0 sc sm s1 scp mp sc2 sc3 m3 sc4 : Sg} {a S P A N K C w J b a' N' K' : Nat}
/-- its lexemes -/
theorem HRN.tks (h : HRN T sc sm a S P N K C J b a' N' K' s1 scp mp sc2 sc3 m3 sc4) : (∀ k, a + 2 ≤ k → k ≤ a' → PRQ (T.tk (k - 1)) (T.tk k) ∧ T.tk k ≠ 123 ∧ T.tk k ≠ 125 ∧ ¬ (17 ≤ T.tk k ∧ T.tk k ≤ 20)) ∧ (∀ k, a + 1 ≤ k → k < a' → T.tk k ≠ 59) ∧ (∀ k, a + 1 < k → k < b + 3 → ¬ (T.tk k = 1 ∧ T.tk (k + 1) = 40)) ∧ a + 3 ≤ b ∧ b + 3 < a' ∧ T.tk (a' - 1) ∈ opB := by
  obtain ⟨_, hpar⟩ := h.par
  obtain ⟨t1, t2, hd, hcn, pl, hb, hk, t3, t4, t5, t6, hw, tp, he, cu⟩ := h
  obtain ⟨-, -, -, -, -, -, -, -, -, -, -, -, -, sg, -, -, -, -, la, oS, oB⟩ := tp
  have px := sg.2.2.2.2.2.2.2.2.1
  have pi : ∀ k, a + 3 ≤ k → k < b → ∃ i, i < J ∧ (k = a + 1 + 2 + 3 * i ∨ k = a + 1 + 3 + 3 * i ∨ (k = a + 5 + 3 * i ∧ i + 1 < J)) := fun k x y => ⟨(k - (a + 3)) / 3, by omega, by omega⟩
  have c2 : ∀ p q : Int, PRX p q → PRQ p q := fun p q y => Or.inl y
  have bp : T.tk (b - 1) = 40 ∨ T.tk (b - 1) = 2 := by
    rcases hb with ⟨_, e⟩ | ⟨j1, e⟩
    · left; rw [e]; exact t2
    · right
      have := (hpar (J - 1) (by omega)).2.2.2.2
      rw [show a + 1 + 3 + 3 * (J - 1) = b - 1 by omega] at this
      exact this
  refine ⟨fun k x y => ?_, fun k x y => ?_, fun k x y => ?_, by omega, la, oB⟩
  · by_cases k1 : k = a'
    · subst k1
      rw [t6]
      exact ⟨Or.inr (Or.inl ⟨oB, Or.inl rfl⟩), by decide, by decide, by decide⟩
    by_cases k2 : b + 3 ≤ k
    · have p := px k k2 (by omega)
      exact ⟨c2 _ _ p, p.q.2.1, p.q.2.2.1, p.q.2.2.2⟩
    by_cases k3 : k = b + 2
    · subst k3
      rw [show b + 2 - 1 = b + 1 by omega, t4, t5]
      exact ⟨Or.inr (Or.inr (Or.inl (by decide))), by decide, by decide, by decide⟩
    by_cases k4 : k = b + 1
    · subst k4
      rw [show b + 1 - 1 = b by omega, t3, t4]
      exact ⟨Or.inr (Or.inr (Or.inl (by decide))), by decide, by decide, by decide⟩
    by_cases k5 : k = b
    · subst k5
      rw [t3]
      refine ⟨?_, by decide, by decide, by decide⟩
      rcases bp with e | e <;> rw [e]
      · exact Or.inl (Or.inr (Or.inr (Or.inr (Or.inr (Or.inl (by decide))))))
      · exact Or.inl (Or.inr (Or.inl (by decide)))
    by_cases k6 : k = a + 2
    · subst k6
      rw [show a + 2 - 1 = a + 1 by omega, t1, t2]
      exact ⟨Or.inl (Or.inr (Or.inr (Or.inl (by decide)))), by decide, by decide, by decide⟩
    obtain ⟨i, hi, e | e | ⟨e, ei⟩⟩ := pi k (by omega) (by omega)
    · have tk0 := (hpar i hi).2.2.2.1
      rw [← e] at tk0
      rw [tk0]
      refine ⟨?_, by decide, by decide, by decide⟩
      have : T.tk (k - 1) = 40 ∨ T.tk (k - 1) = 44 := by
        by_cases i0 : i = 0
        · left; rw [show k - 1 = a + 2 by omega]; exact t2
        · right; rw [show k - 1 = a + 5 + 3 * (i - 1) by omega]; exact hk (i - 1) (by omega)
      rcases this with e | e <;> rw [e] <;> exact Or.inl (Or.inl (by decide))
    · have tk0 := (hpar i hi).2.2.2.2
      have tk1 := (hpar i hi).2.2.2.1
      rw [← e] at tk0
      rw [show a + 1 + 2 + 3 * i = k - 1 by omega] at tk1
      rw [tk0, tk1]
      exact ⟨Or.inr (Or.inr (Or.inl (by decide))), by decide, by decide, by decide⟩
    · have tk0 := hk i ei
      have tk1 := (hpar i hi).2.2.2.2
      rw [← e] at tk0
      rw [show a + 1 + 3 + 3 * i = k - 1 by omega] at tk1
      rw [tk0, tk1]
      exact ⟨Or.inl (Or.inr (Or.inl (by decide))), by decide, by decide, by decide⟩
  · by_cases k2 : b + 3 ≤ k
    · exact (px k k2 (by omega)).q.1
    by_cases k3 : k = b + 2
    · subst k3; rw [t5]; decide
    by_cases k4 : k = b + 1
    · subst k4; rw [t4]; decide
    by_cases k5 : k = b
    · subst k5; rw [t3]; decide
    by_cases k6 : k = a + 2
    · subst k6; rw [t2]; decide
    by_cases k7 : k = a + 1
    · subst k7; rw [t1]; decide
    obtain ⟨i, hi, e | e | ⟨e, ei⟩⟩ := pi k (by omega) (by omega)
    · rw [e, (hpar i hi).2.2.2.1]; decide
    · rw [e, (hpar i hi).2.2.2.2]; decide
    · rw [e, hk i ei]; decide
  · rintro ⟨u1, u2⟩
    by_cases k3 : k = b + 2
    · subst k3; rw [t5] at u1; exact absurd u1 (by decide)
    by_cases k4 : k = b + 1
    · subst k4; rw [t4] at u1; exact absurd u1 (by decide)
    by_cases k5 : k = b
    · subst k5; rw [t3] at u1; exact absurd u1 (by decide)
    by_cases k6 : k = a + 2
    · subst k6; rw [t2] at u1; exact absurd u1 (by decide)
    obtain ⟨i, hi, e | e | ⟨e, ei⟩⟩ := pi k (by omega) (by omega)
    · rw [show k + 1 = a + 1 + 3 + 3 * i by omega, (hpar i hi).2.2.2.2] at u2; exact absurd u2 (by decide)
    · rw [e, (hpar i hi).2.2.2.2] at u1; exact absurd u1 (by decide)
    · rw [e, hk i ei] at u1; exact absurd u1 (by decide)
/-- the reference ends it -/
theorem HRN.end (h : HRN T sc sm a S P N K C J b a' N' K' s1 scp mp sc2 sc3 m3 sc4) (h19 : sm 84 19 = (S : Int)) (hS : S < 4100) (hN : N' ≤ 1000000) : j_233_359 (S : Int) (adv (ax_u2 m3 100 S ((N' : Int) - 1)) (a' + 1)) = some (HMm m3 S N a' N') := by
  obtain ⟨t1, t2, hd, hcn, pl, hb, hk, t3, t4, t5, t6, hw, tp, he, cu⟩ := h
  obtain ⟨-, -, -, -, f6, nd, -, -, -, -, ef, -, -, -, -, lN, -, -, -, -, -⟩ := tp
  obtain ⟨-, -, -, -, -, -, -, k1, k2, -, -, -, -, -, -, -⟩ := pl
  have e6 : (adv (ax_u2 m3 100 S ((N' : Int) - 1)) (a' + 1)) 84 6 = 0 := by rw [adv_col (by decide), u2_row _ _ _ (by decide)]; exact f6
  have e47 : (adv (ax_u2 m3 100 S ((N' : Int) - 1)) (a' + 1)) 84 47 = (N' : Int) := by rw [adv_col (by decide), u2_row _ _ _ (by decide)]; exact nd.2.1
  have e19 : (adv (ax_u2 m3 100 S ((N' : Int) - 1)) (a' + 1)) 84 19 = (S : Int) := by rw [adv_col (by decide), u2_row _ _ _ (by decide), ef.2 19 (by decide), HWm_col (by decide), k2 19 (by decide) (by decide), adv_col (by decide), HDm_84 (by decide) (by decide)]; exact h19
  have e103 : (adv (ax_u2 m3 100 S ((N' : Int) - 1)) (a' + 1)) 103 S = (N : Int) := by rw [adv_row (by decide), u2_row _ _ _ (by decide), ef.1 103 (by decide), HWm_row (by decide), k1 103 (by decide), adv_row (by decide)]; exact HDm_S.2.2.2.2.2.2.2
  unfold j_233_359
  rw [e6, e47, e19, Int.toNat_natCast, e103, if_pos (by decide), gd_pos (by omega), gd_pos (by omega), w32_id (by omega) (by omega), w32_id (by omega) (by omega)]
  rfl
end HSM
