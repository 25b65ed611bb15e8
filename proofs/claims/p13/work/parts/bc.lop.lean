/-! THE LAW'S LOOP. -/
section LOP
variable {s : Sg} {L : Nat}
theorem count_ (g : GIV s) (a : Int) : GIV (f_205 a s).2 := by
  have q : ∀ v : Int, GIV (v, ax_u2 s 84 0 0).2 := fun v => (QF.a84 s 0).gi g
  unfold f_205
  split
  · split
    · split
      · split
        · split
          · split
            · exact q _
            · exact q _
          · exact q _
        · exact q _
      · exact q _
    · exact q _
  · exact q _
theorem lop (hL : L ≤ 2560) : ∀ (r l F : Nat) (s : Sg), L < l + 5 * r + 5 → GIV s → j_279_23 L (F + r + 1) (l : Int) s = some 1 := by
  have w5 : ax_w32 ((L : Int) - 5) = (L : Int) - 5 := w32_id (by omega) (by omega)
  intro r
  induction r with
  | zero =>
    intro l F s hl g
    rw [j_279_23, if_pos (by rw [w5]; omega)]
  | succ r ih =>
    intro l F s hl g
    rw [show F + (r + 1) + 1 = (F + r + 1) + 1 by omega, j_279_23]
    by_cases c : ax_w32 ((L : Int) - 5) < (l : Int)
    · rw [if_pos c]
    · rw [w5] at c
      have wk : ∀ k : Int, 0 ≤ k → k ≤ 5 → ax_w32 ((l : Int) + k) = (l : Int) + k := fun k a b => w32_id (by omega) (by omega)
      have nx : ∀ s2 : Sg, GIV s2 → j_279_469 L (j_279_23 L (F + r + 1)) (l : Int) s2 = some 1 := fun s2 g2 => by
        unfold j_279_469
        rw [wk 5 (by decide) (by decide)]
        have := ih (l + 5) F s2 (by omega) g2
        rw [show ((l + 5 : Nat) : Int) = (l : Int) + 5 by omega] at this
        exact this
      rw [w5, if_neg c, gd_pos (by omega)]
      simp only [wk 1 (by decide) (by decide), wk 2 (by decide) (by decide), wk 3 (by decide) (by decide), wk 4 (by decide) (by decide), gd_pos (show 0 ≤ (l : Int) + 1 ∧ (l : Int) + 1 < (L : Int) by omega), gd_pos (show 0 ≤ (l : Int) + 2 ∧ (l : Int) + 2 < (L : Int) by omega), gd_pos (show 0 ≤ (l : Int) + 3 ∧ (l : Int) + 3 < (L : Int) by omega), gd_pos (show 0 ≤ (l : Int) + 4 ∧ (l : Int) + 4 < (L : Int) by omega)]
      have dn : ∀ {E : Prop} {rc : Option (Int × Sg)} {rm : Sg → Option (Int × Sg)} (K : Int → Sg → Option Int), RES s rc rm GIV E → (∀ t0 s1, s1 0 = s 0 → K t0 s1 = (rm s1).bind fun q => j_279_469 L (j_279_23 L (F + r + 1)) (l : Int) q.2) → (rc.bind fun q => K q.1 q.2) = some 1 := fun {E} {rc} {rm} K h hK => by
        obtain ⟨t0, v, s1, s2, h1, h2, h3, -, h5⟩ := h
        rw [h1, Option.bind_some, hK t0 s1 h5, h2, Option.bind_some]
        exact nx s2 h3
      have g1 : ∀ o : Option Int, gd (0 ≤ (l : Int) + 1 ∧ (l : Int) + 1 < (L : Int)) o = o := fun o => gd_pos (by omega)
      have w1 := wk 1 (by decide) (by decide)
      have w2 := wk 2 (by decide) (by decide)
      have w3 := wk 3 (by decide) (by decide)
      have w4 := wk 4 (by decide) (by decide)
      have g2 : ∀ o : Option Int, gd (0 ≤ (l : Int) + 2 ∧ (l : Int) + 2 < (L : Int)) o = o := fun o => gd_pos (by omega)
      have g3 : ∀ o : Option Int, gd (0 ≤ (l : Int) + 3 ∧ (l : Int) + 3 < (L : Int)) o = o := fun o => gd_pos (by omega)
      have g4 : ∀ o : Option Int, gd (0 ≤ (l : Int) + 4 ∧ (l : Int) + 4 < (L : Int)) o = o := fun o => gd_pos (by omega)
      by_cases c0 : ax_iand (s 0 (l : Int).toNat) 15 = 0
      · rw [if_pos c0]
        refine dn (fun t0 s1 => j_279_129 L (j_279_23 L (F + r + 1)) (l : Int) t0 s1) (feed g) (fun t0 s1 h5 => ?_)
        unfold j_279_129
        rw [w1, w2, w3, w4, g1, g2, g3, g4, h5]
      rw [if_neg c0]
      by_cases c1 : ax_iand (s 0 (l : Int).toNat) 15 = 1
      · rw [if_pos c1]
        refine dn (fun t0 s1 => j_279_175 L (j_279_23 L (F + r + 1)) (l : Int) t0 s1) (end_ g) (fun t0 s1 h5 => ?_)
        unfold j_279_175
        rw [w1, g1, h5]
      rw [if_neg c1]
      by_cases c2 : ax_iand (s 0 (l : Int).toNat) 15 = 2
      · rw [if_pos c2]
        exact dn (fun t0 s1 => j_279_197 L (j_279_23 L (F + r + 1)) (l : Int) t0 s1) (read_ g) (fun t0 s1 h5 => rfl)
      rw [if_neg c2]
      by_cases c3 : ax_iand (s 0 (l : Int).toNat) 15 = 3
      · rw [if_pos c3]
        refine dn (fun t0 s1 => j_279_219 L (j_279_23 L (F + r + 1)) (l : Int) t0 s1) (fault_ g) (fun t0 s1 h5 => ?_)
        unfold j_279_219
        rw [w1, g1, h5]
      rw [if_neg c3]
      by_cases c4 : ax_iand (s 0 (l : Int).toNat) 15 = 4
      · rw [if_pos c4]
        refine dn (fun t0 s1 => j_279_253 L (j_279_23 L (F + r + 1)) (l : Int) t0 s1) (statement_ g) (fun t0 s1 h5 => ?_)
        unfold j_279_253
        rw [w1, w2, g1, g2, h5]
      rw [if_neg c4]
      by_cases c5 : ax_iand (s 0 (l : Int).toNat) 15 = 5
      · rw [if_pos c5]
        refine dn (fun t0 s1 => j_279_293 L (j_279_23 L (F + r + 1)) (l : Int) t0 s1) (bits_ g) (fun t0 s1 h5 => ?_)
        unfold j_279_293
        rw [w1, w2, g1, g2, h5]
      rw [if_neg c5]
      by_cases c6 : ax_iand (s 0 (l : Int).toNat) 15 = 6
      · rw [if_pos c6]
        refine dn (fun t0 s1 => j_279_333 L (j_279_23 L (F + r + 1)) (l : Int) t0 s1) (node_ g) (fun t0 s1 h5 => ?_)
        unfold j_279_333
        rw [w1, w2, g1, g2, h5]
      rw [if_neg c6]
      by_cases c7 : ax_iand (s 0 (l : Int).toNat) 15 = 7
      · rw [if_pos c7]
        refine dn (fun t0 s1 => j_279_367 L (j_279_23 L (F + r + 1)) (l : Int) t0 s1) (ring_ g) (fun t0 s1 h5 => ?_)
        unfold j_279_367
        rw [w1, g1, h5]
      rw [if_neg c7]
      by_cases c8 : ax_iand (s 0 (l : Int).toNat) 15 = 8
      · rw [if_pos c8]
        exact dn (fun t0 s1 => j_279_389 L (j_279_23 L (F + r + 1)) (l : Int) t0 s1) (print_ g) (fun t0 s1 h5 => rfl)
      rw [if_neg c8]
      by_cases c9 : ax_iand (s 0 (l : Int).toNat) 15 = 9
      · rw [if_pos c9]
        refine dn (fun t0 s1 => j_279_411 L (j_279_23 L (F + r + 1)) (l : Int) t0 s1) (out_ g) (fun t0 s1 h5 => ?_)
        unfold j_279_411
        rw [w1, g1, h5]
      rw [if_neg c9]
      by_cases c10 : ax_iand (s 0 (l : Int).toNat) 15 = 10
      · rw [if_pos c10]
        exact dn (fun t0 s1 => j_279_433 L (j_279_23 L (F + r + 1)) (l : Int) t0 s1) (again_ g) (fun t0 s1 h5 => rfl)
      rw [if_neg c10]
      by_cases c11 : ax_iand (s 0 (l : Int).toNat) 15 = 11
      · obtain ⟨d1, d2⟩ := count13 (a := s 0 ((l : Int) + 1).toNat) g
        rw [if_pos c11, Option.bind_some, if_pos d1.symm]
        exact nx _ d2
      rw [if_neg c11]
      exact nx s g
end LOP
