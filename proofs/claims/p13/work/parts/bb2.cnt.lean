/-! COUNT: both sides tell the same (for p13). -/
section CNT
variable {s : Sg} {a : Int}
theorem count13 (g : GIV s) : (f_205 a s).1 = f_1 a s ∧ GIV (f_205 a s).2 := by
  obtain ⟨-, ⟨n, t1, -, t3, -⟩, ⟨L, l1, -, l3, -⟩, gk, -, -⟩ := id g
  have q : ∀ v : Int, GIV (v, ax_u2 s 84 0 0).2 := fun v => (QF.a84 s 0).gi g
  have e : ∃ z S N : Int, s 39 9 = z ∧ s 54 6 = S ∧ s 46 7 = N ∧ ((s 84 5 = 0 ∧ z = 0 ∧ S = 0 ∧ N = 0) ∨ (s 84 5 = 1 ∧ s 84 11 = z ∧ s 84 19 = S ∧ s 84 47 = N)) := by
    rcases gk with ⟨k1, k2, k3, k4, k5⟩ | ⟨k1, k2, kn⟩
    · exact ⟨0, 0, 0, k5, k3, k4, Or.inl ⟨k2, rfl, rfl, rfl⟩⟩
    · obtain ⟨T, t, n, sc, S, P, A, N, K, C, ck, gd, q1, hS, hK, h54, -⟩ := kn.ck
      obtain ⟨hT, hX, hC, hD, hN, h19, -⟩ := id ck
      obtain ⟨T', n', t', hp⟩ := kn.pri
      obtain ⟨-, -, -, -, c5, c6, -⟩ := hp
      refine ⟨s 39 9, s 54 6, s 46 7, rfl, rfl, rfl, Or.inr ⟨k2, by rw [c6.1, c5.1], by rw [h19, h54], ?_⟩⟩
      rw [hN.2.1, ← q1 46 (by decide), hN.1]
  obtain ⟨z, S, N, e1, e2, e3, e4⟩ := e
  unfold f_205 f_1
  rw [f207]
  by_cases c : 0 ≤ a ∧ a ≤ 4
  · rw [if_pos c, if_pos (by decide)]
    have cas : a = 0 ∨ a = 1 ∨ a = 2 ∨ a = 3 ∨ a = 4 := by omega
    rcases cas with u | u | u | u | u <;> subst u
    · exact ⟨t3.trans t1.symm, q _⟩
    · rcases e4 with ⟨k, z0, s0, n0⟩ | ⟨k, k11, k19, k47⟩
      · rw [k]
        exact ⟨show (0 : Int) = s 39 9 by rw [e1, z0], q _⟩
      · rw [k]
        exact ⟨show s 84 11 = s 39 9 by rw [e1, k11], q _⟩
    · rcases e4 with ⟨k, z0, s0, n0⟩ | ⟨k, k11, k19, k47⟩
      · rw [k]
        exact ⟨show (0 : Int) = s 54 6 by rw [e2, s0], q _⟩
      · rw [k]
        exact ⟨show s 84 19 = s 54 6 by rw [e2, k19], q _⟩
    · rcases e4 with ⟨k, z0, s0, n0⟩ | ⟨k, k11, k19, k47⟩
      · rw [k]
        exact ⟨show (0 : Int) = s 46 7 by rw [e3, n0], q _⟩
      · rw [k]
        exact ⟨show s 84 47 = s 46 7 by rw [e3, k47], q _⟩
    · exact ⟨show s 84 9 = s 82 2 by rw [l1, l3], q _⟩
  · rw [if_neg c, if_neg (by decide), if_neg (show ¬ a = 0 by omega), if_neg (show ¬ a = 1 by omega), if_neg (show ¬ a = 2 by omega), if_neg (show ¬ a = 3 by omega), if_neg (show ¬ a = 4 by omega)]
    exact ⟨rfl, q _⟩
end CNT
