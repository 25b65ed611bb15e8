/-! METHODS, second form, by program. -/
/-- MachineTextModel.expression(II)I -/
noncomputable def j_257_136 (s : Sg) : Option (Int × Sg) :=
  (if s 84 6 ≤ 0 then
    some (s 126 ((0 : Int).toNat), s)
  else
    some (0, s))
theorem bl_257_136 {L c : Nat} {e : Nat → Nat} : ∀ (d5 : Option ax_V) (z1 z2 z3 z4 : Int) (s : Sg) (q : Int × Sg), j_257_136 s = some q → RuP 5 tb_m257 136 [some (.inr (.inr (some 84))), some (.inl z1), some (.inl z2), some (.inl z3), some (.inl z4), d5] [] (hp L s c e) (oI L c e q) := by
  intro d5 z1 z2 z3 z4 s q h
  unfold j_257_136 at h
  refine RuP.step (pc' := 137) (ls' := [some (.inr (.inr (some 84))), some (.inl z1), some (.inl z2), some (.inl z3), some (.inl z4), d5]) (st' := [.inr (.inr (some 84))]) (h1 := hp L s c e) rfl ?_
  refine RuP.step (pc' := 140) (ls' := [some (.inr (.inr (some 84))), some (.inl z1), some (.inl z2), some (.inl z3), some (.inl z4), d5]) (st' := [.inl (s 84 6)]) (h1 := hp L s c e) rfl ?_
  by_cases h0 : s 84 6 ≤ 0
  · rw [if_pos h0] at h
    refine RuP.jy rfl h0 ?_
    refine RuP.step (pc' := 148) (ls' := [some (.inr (.inr (some 84))), some (.inl z1), some (.inl z2), some (.inl z3), some (.inl z4), d5]) (st' := [.inr (.inr (some 84))]) (h1 := hp L s c e) rfl ?_
    refine RuP.step (pc' := 151) (ls' := [some (.inr (.inr (some 84))), some (.inl z1), some (.inl z2), some (.inl z3), some (.inl z4), d5]) (st' := [.inr (.inr (some 126))]) (h1 := hp L s c e) rfl ?_
    refine RuP.step (pc' := 152) (ls' := [some (.inr (.inr (some 84))), some (.inl z1), some (.inl z2), some (.inl z3), some (.inl z4), d5]) (st' := [.inl 0, .inr (.inr (some 126))]) (h1 := hp L s c e) rfl ?_
    refine RuP.ald (f := fun t => t == 0) (j := (0 : Int)) (a := 126) rfl rfl (by decide) (show ((0 : Int) : Int) < (8200 : Int) by decide) ?_
    cases h
    exact RuP.dI rfl
  · rw [if_neg h0] at h
    refine RuP.jn rfl h0 ?_
    refine RuP.step (pc' := 144) (ls' := [some (.inr (.inr (some 84))), some (.inl z1), some (.inl z2), some (.inl z3), some (.inl z4), d5]) (st' := [.inl 0]) (h1 := hp L s c e) rfl ?_
    refine RuP.step (pc' := 153) (ls' := [some (.inr (.inr (some 84))), some (.inl z1), some (.inl z2), some (.inl z3), some (.inl z4), d5]) (st' := [.inl 0]) (h1 := hp L s c e) rfl ?_
    cases h
    exact RuP.dI rfl
noncomputable def j_257_105 (k25 : (Int → Int → Int → Sg → Option (Int × Sg))) : Nat → Int → Int → Int → Sg → Option (Int × Sg)
  | 0, _, _, _, _ => none
  | F + 1, l2, l3, l4, s =>
    (if ¬ (s 84 6) = 0 then
      k25 l2 l3 l4 s
    else
      (if l3 = 0 then
        k25 l2 l3 l4 s
      else
        (if s 84 70 = 0 then
          k25 l2 l3 l4 s
        else
          ((f_260 (ax_u2 s 84 70 0)).bind fun q2 =>
          (j_257_105 k25 F) l2 q2.1 l4 q2.2))))
theorem bl_257_105 {L c : Nat} {e : Nat → Nat} {k25 : (Int → Int → Int → Sg → Option (Int × Sg))} (hk25 : ∀ (d5 : Option ax_V) (z1 : Int) (l2 l3 l4 : Int) (s : Sg) (q : Int × Sg), k25 l2 l3 l4 s = some q → RuP 5 tb_m257 25 [some (.inr (.inr (some 84))), some (.inl z1), some (.inl l2), some (.inl l3), some (.inl l4), d5] [] (hp L s c e) (oI L c e q)) : ∀ (F : Nat) (d5 : Option ax_V) (z1 : Int) (l2 l3 l4 : Int) (s : Sg) (q : Int × Sg), j_257_105 k25 F l2 l3 l4 s = some q → RuP 5 tb_m257 105 [some (.inr (.inr (some 84))), some (.inl z1), some (.inl l2), some (.inl l3), some (.inl l4), d5] [] (hp L s c e) (oI L c e q) := by
  intro F
  induction F with
  | zero =>
    intro d5 z1 l2 l3 l4 s q h
    rw [j_257_105] at h
    cases h
  | succ F ih =>
    intro d5 z1 l2 l3 l4 s q h
    rw [j_257_105] at h
    refine RuP.step (pc' := 106) (ls' := [some (.inr (.inr (some 84))), some (.inl z1), some (.inl l2), some (.inl l3), some (.inl l4), d5]) (st' := [.inr (.inr (some 84))]) (h1 := hp L s c e) rfl ?_
    refine RuP.step (pc' := 109) (ls' := [some (.inr (.inr (some 84))), some (.inl z1), some (.inl l2), some (.inl l3), some (.inl l4), d5]) (st' := [.inl (s 84 6)]) (h1 := hp L s c e) rfl ?_
    by_cases h0 : ¬ (s 84 6) = 0
    · rw [if_pos h0] at h
      refine RuP.jy rfl h0 ?_
      exact hk25 _ _ _ _ _ _ _ h
    · rw [if_neg h0] at h
      refine RuP.jn rfl h0 ?_
      refine RuP.step (pc' := 113) (ls' := [some (.inr (.inr (some 84))), some (.inl z1), some (.inl l2), some (.inl l3), some (.inl l4), d5]) (st' := [.inl l3]) (h1 := hp L s c e) rfl ?_
      by_cases h1 : l3 = 0
      · rw [if_pos h1] at h
        refine RuP.jy rfl h1 ?_
        exact hk25 _ _ _ _ _ _ _ h
      · rw [if_neg h1] at h
        refine RuP.jn rfl h1 ?_
        refine RuP.step (pc' := 117) (ls' := [some (.inr (.inr (some 84))), some (.inl z1), some (.inl l2), some (.inl l3), some (.inl l4), d5]) (st' := [.inr (.inr (some 84))]) (h1 := hp L s c e) rfl ?_
        refine RuP.step (pc' := 120) (ls' := [some (.inr (.inr (some 84))), some (.inl z1), some (.inl l2), some (.inl l3), some (.inl l4), d5]) (st' := [.inl (s 84 70)]) (h1 := hp L s c e) rfl ?_
        by_cases h2 : s 84 70 = 0
        · rw [if_pos h2] at h
          refine RuP.jy rfl h2 ?_
          exact hk25 _ _ _ _ _ _ _ h
        · rw [if_neg h2] at h
          refine RuP.jn rfl h2 ?_
          refine RuP.step (pc' := 124) (ls' := [some (.inr (.inr (some 84))), some (.inl z1), some (.inl l2), some (.inl l3), some (.inl l4), d5]) (st' := [.inr (.inr (some 84))]) (h1 := hp L s c e) rfl ?_
          refine RuP.step (pc' := 125) (ls' := [some (.inr (.inr (some 84))), some (.inl z1), some (.inl l2), some (.inl l3), some (.inl l4), d5]) (st' := [.inl 0, .inr (.inr (some 84))]) (h1 := hp L s c e) rfl ?_
          refine RuP.step (pc' := 128) (ls' := [some (.inr (.inr (some 84))), some (.inl z1), some (.inl l2), some (.inl l3), some (.inl l4), d5]) (st' := []) (h1 := hp L (ax_u2 s 84 70 0) c e) rfl ?_
          refine RuP.step (pc' := 129) (ls' := [some (.inr (.inr (some 84))), some (.inl z1), some (.inl l2), some (.inl l3), some (.inl l4), d5]) (st' := [.inr (.inr (some 84))]) (h1 := hp L (ax_u2 s 84 70 0) c e) rfl ?_
          obtain ⟨q2, h1, h⟩ := bd_some h
          refine RuP.cI rfl ((ev_260 h1).up (by decide)) ?_
          refine RuP.step (pc' := 133) (ls' := [some (.inr (.inr (some 84))), some (.inl z1), some (.inl l2), some (.inl q2.1), some (.inl l4), d5]) (st' := []) (h1 := hp L q2.2 c e) rfl ?_
          refine RuP.step (pc' := 105) (ls' := [some (.inr (.inr (some 84))), some (.inl z1), some (.inl l2), some (.inl q2.1), some (.inl l4), d5]) (st' := []) (h1 := hp L q2.2 c e) rfl ?_
          exact ih _ _ _ _ _ _ _ h
noncomputable def j_257_66 (k25 : (Int → Int → Int → Sg → Option (Int × Sg))) (l2 l4 : Int) (s : Sg) : Option (Int × Sg) :=
  ((f_260 s).bind fun q3 =>
  j_257_105 k25 FU l2 q3.1 l4 q3.2)
theorem bl_257_66 {L c : Nat} {e : Nat → Nat} {k25 : (Int → Int → Int → Sg → Option (Int × Sg))} (hk25 : ∀ (d5 : Option ax_V) (z1 : Int) (l2 l3 l4 : Int) (s : Sg) (q : Int × Sg), k25 l2 l3 l4 s = some q → RuP 5 tb_m257 25 [some (.inr (.inr (some 84))), some (.inl z1), some (.inl l2), some (.inl l3), some (.inl l4), d5] [] (hp L s c e) (oI L c e q)) : ∀ (d5 : Option ax_V) (z1 z3 : Int) (l2 l4 : Int) (s : Sg) (q : Int × Sg), j_257_66 k25 l2 l4 s = some q → RuP 5 tb_m257 66 [some (.inr (.inr (some 84))), some (.inl z1), some (.inl l2), some (.inl z3), some (.inl l4), d5] [] (hp L s c e) (oI L c e q) := by
  intro d5 z1 z3 l2 l4 s q h
  unfold j_257_66 at h
  refine RuP.step (pc' := 67) (ls' := [some (.inr (.inr (some 84))), some (.inl z1), some (.inl l2), some (.inl z3), some (.inl l4), d5]) (st' := [.inr (.inr (some 84))]) (h1 := hp L s c e) rfl ?_
  obtain ⟨q3, h1, h⟩ := bd_some h
  refine RuP.cI rfl ((ev_260 h1).up (by decide)) ?_
  refine RuP.step (pc' := 71) (ls' := [some (.inr (.inr (some 84))), some (.inl z1), some (.inl l2), some (.inl q3.1), some (.inl l4), d5]) (st' := []) (h1 := hp L q3.2 c e) rfl ?_
  refine RuP.step (pc' := 105) (ls' := [some (.inr (.inr (some 84))), some (.inl z1), some (.inl l2), some (.inl q3.1), some (.inl l4), d5]) (st' := []) (h1 := hp L q3.2 c e) rfl ?_
  exact bl_257_105 hk25 FU _ _ _ _ _ _ _ h
noncomputable def j_257_25 : Nat → Int → Int → Int → Sg → Option (Int × Sg)
  | 0, _, _, _, _ => none
  | F + 1, l2, l3, l4, s =>
    (if ¬ (s 84 6) = 0 then
      j_257_136 s
    else
      (if ¬ l4 = 0 then
        j_257_136 s
      else
        (if l3 = 0 then
          ((f_261 s).bind fun q1 =>
          j_257_105 (j_257_25 F) FU l2 ((if ¬ q1.1 = 1 then 0 else 1) : Int) ((if ¬ q1.1 = 2 then 0 else 1) : Int) q1.2)
        else
          (if ax_w32 (l2 + (s 84 67)) < 80 then
            j_257_66 (j_257_25 F) l2 l4 s
          else
            (gd (0 ≤ s 84 18 ∧ s 84 18 < 8200) (
            ((some (f_227 3 (s 89 ((s 84 18).toNat)) s)).bind fun q4 =>
            j_257_66 (j_257_25 F) l2 l4 q4)))))))
theorem bl_257_25 {L c : Nat} {e : Nat → Nat} : ∀ (F : Nat) (d5 : Option ax_V) (z1 : Int) (l2 l3 l4 : Int) (s : Sg) (q : Int × Sg), j_257_25 F l2 l3 l4 s = some q → RuP 5 tb_m257 25 [some (.inr (.inr (some 84))), some (.inl z1), some (.inl l2), some (.inl l3), some (.inl l4), d5] [] (hp L s c e) (oI L c e q) := by
  intro F
  induction F with
  | zero =>
    intro d5 z1 l2 l3 l4 s q h
    rw [j_257_25] at h
    cases h
  | succ F ih =>
    intro d5 z1 l2 l3 l4 s q h
    rw [j_257_25] at h
    refine RuP.step (pc' := 26) (ls' := [some (.inr (.inr (some 84))), some (.inl z1), some (.inl l2), some (.inl l3), some (.inl l4), d5]) (st' := [.inr (.inr (some 84))]) (h1 := hp L s c e) rfl ?_
    refine RuP.step (pc' := 29) (ls' := [some (.inr (.inr (some 84))), some (.inl z1), some (.inl l2), some (.inl l3), some (.inl l4), d5]) (st' := [.inl (s 84 6)]) (h1 := hp L s c e) rfl ?_
    by_cases h0 : ¬ (s 84 6) = 0
    · rw [if_pos h0] at h
      refine RuP.jy rfl h0 ?_
      exact bl_257_136 _ _ _ _ _ _ _ h
    · rw [if_neg h0] at h
      refine RuP.jn rfl h0 ?_
      refine RuP.step (pc' := 34) (ls' := [some (.inr (.inr (some 84))), some (.inl z1), some (.inl l2), some (.inl l3), some (.inl l4), d5]) (st' := [.inl l4]) (h1 := hp L s c e) rfl ?_
      by_cases h1 : ¬ l4 = 0
      · rw [if_pos h1] at h
        refine RuP.jy rfl h1 ?_
        exact bl_257_136 _ _ _ _ _ _ _ h
      · rw [if_neg h1] at h
        refine RuP.jn rfl h1 ?_
        refine RuP.step (pc' := 38) (ls' := [some (.inr (.inr (some 84))), some (.inl z1), some (.inl l2), some (.inl l3), some (.inl l4), d5]) (st' := [.inl l3]) (h1 := hp L s c e) rfl ?_
        by_cases h2 : l3 = 0
        · rw [if_pos h2] at h
          refine RuP.jy rfl h2 ?_
          refine RuP.step (pc' := 75) (ls' := [some (.inr (.inr (some 84))), some (.inl z1), some (.inl l2), some (.inl l3), some (.inl l4), d5]) (st' := [.inr (.inr (some 84))]) (h1 := hp L s c e) rfl ?_
          obtain ⟨q1, h1, h⟩ := bd_some h
          refine RuP.cI rfl ((ev_261 h1).up (by decide)) ?_
          refine RuP.step (pc' := 80) (ls' := [some (.inr (.inr (some 84))), some (.inl z1), some (.inl l2), some (.inl l3), some (.inl l4), some (.inl q1.1)]) (st' := []) (h1 := hp L q1.2 c e) rfl ?_
          refine RuP.step (pc' := 82) (ls' := [some (.inr (.inr (some 84))), some (.inl z1), some (.inl l2), some (.inl l3), some (.inl l4), some (.inl q1.1)]) (st' := [.inl q1.1]) (h1 := hp L q1.2 c e) rfl ?_
          refine RuP.step (pc' := 83) (ls' := [some (.inr (.inr (some 84))), some (.inl z1), some (.inl l2), some (.inl l3), some (.inl l4), some (.inl q1.1)]) (st' := [.inl 1, .inl q1.1]) (h1 := hp L q1.2 c e) rfl ?_
          have J4 : ∀ v3_0 : Int, v3_0 = ((if ¬ q1.1 = 1 then 0 else 1) : Int) → RuP 5 tb_m257 91 [some (.inr (.inr (some 84))), some (.inl z1), some (.inl l2), some (.inl l3), some (.inl l4), some (.inl q1.1)] [.inl v3_0] (hp L q1.2 c e) (oI L c e q) := by
            intro v3_0 ev3_0
            subst ev3_0
            refine RuP.step (pc' := 92) (ls' := [some (.inr (.inr (some 84))), some (.inl z1), some (.inl l2), some (.inl ((if ¬ q1.1 = 1 then 0 else 1) : Int)), some (.inl l4), some (.inl q1.1)]) (st' := []) (h1 := hp L q1.2 c e) rfl ?_
            refine RuP.step (pc' := 94) (ls' := [some (.inr (.inr (some 84))), some (.inl z1), some (.inl l2), some (.inl ((if ¬ q1.1 = 1 then 0 else 1) : Int)), some (.inl l4), some (.inl q1.1)]) (st' := [.inl q1.1]) (h1 := hp L q1.2 c e) rfl ?_
            refine RuP.step (pc' := 95) (ls' := [some (.inr (.inr (some 84))), some (.inl z1), some (.inl l2), some (.inl ((if ¬ q1.1 = 1 then 0 else 1) : Int)), some (.inl l4), some (.inl q1.1)]) (st' := [.inl 2, .inl q1.1]) (h1 := hp L q1.2 c e) rfl ?_
            have J5 : ∀ v4_0 : Int, v4_0 = ((if ¬ q1.1 = 2 then 0 else 1) : Int) → RuP 5 tb_m257 103 [some (.inr (.inr (some 84))), some (.inl z1), some (.inl l2), some (.inl ((if ¬ q1.1 = 1 then 0 else 1) : Int)), some (.inl l4), some (.inl q1.1)] [.inl v4_0] (hp L q1.2 c e) (oI L c e q) := by
              intro v4_0 ev4_0
              subst ev4_0
              refine RuP.step (pc' := 105) (ls' := [some (.inr (.inr (some 84))), some (.inl z1), some (.inl l2), some (.inl ((if ¬ q1.1 = 1 then 0 else 1) : Int)), some (.inl ((if ¬ q1.1 = 2 then 0 else 1) : Int)), some (.inl q1.1)]) (st' := []) (h1 := hp L q1.2 c e) rfl ?_
              exact bl_257_105 ih FU _ _ _ _ _ _ _ h
            by_cases h5 : ¬ q1.1 = 2
            · refine RuP.jy rfl h5 ?_
              refine RuP.step (pc' := 103) (ls' := [some (.inr (.inr (some 84))), some (.inl z1), some (.inl l2), some (.inl ((if ¬ q1.1 = 1 then 0 else 1) : Int)), some (.inl l4), some (.inl q1.1)]) (st' := [.inl 0]) (h1 := hp L q1.2 c e) rfl ?_
              exact J5 _ (by simp only [if_pos h5])
            · refine RuP.jn rfl h5 ?_
              refine RuP.step (pc' := 99) (ls' := [some (.inr (.inr (some 84))), some (.inl z1), some (.inl l2), some (.inl ((if ¬ q1.1 = 1 then 0 else 1) : Int)), some (.inl l4), some (.inl q1.1)]) (st' := [.inl 1]) (h1 := hp L q1.2 c e) rfl ?_
              refine RuP.step (pc' := 103) (ls' := [some (.inr (.inr (some 84))), some (.inl z1), some (.inl l2), some (.inl ((if ¬ q1.1 = 1 then 0 else 1) : Int)), some (.inl l4), some (.inl q1.1)]) (st' := [.inl 1]) (h1 := hp L q1.2 c e) rfl ?_
              exact J5 _ (by simp only [if_neg h5])
          by_cases h6 : ¬ q1.1 = 1
          · refine RuP.jy rfl h6 ?_
            refine RuP.step (pc' := 91) (ls' := [some (.inr (.inr (some 84))), some (.inl z1), some (.inl l2), some (.inl l3), some (.inl l4), some (.inl q1.1)]) (st' := [.inl 0]) (h1 := hp L q1.2 c e) rfl ?_
            exact J4 _ (by simp only [if_pos h6])
          · refine RuP.jn rfl h6 ?_
            refine RuP.step (pc' := 87) (ls' := [some (.inr (.inr (some 84))), some (.inl z1), some (.inl l2), some (.inl l3), some (.inl l4), some (.inl q1.1)]) (st' := [.inl 1]) (h1 := hp L q1.2 c e) rfl ?_
            refine RuP.step (pc' := 91) (ls' := [some (.inr (.inr (some 84))), some (.inl z1), some (.inl l2), some (.inl l3), some (.inl l4), some (.inl q1.1)]) (st' := [.inl 1]) (h1 := hp L q1.2 c e) rfl ?_
            exact J4 _ (by simp only [if_neg h6])
        · rw [if_neg h2] at h
          refine RuP.jn rfl h2 ?_
          refine RuP.step (pc' := 42) (ls' := [some (.inr (.inr (some 84))), some (.inl z1), some (.inl l2), some (.inl l3), some (.inl l4), d5]) (st' := [.inl l2]) (h1 := hp L s c e) rfl ?_
          refine RuP.step (pc' := 43) (ls' := [some (.inr (.inr (some 84))), some (.inl z1), some (.inl l2), some (.inl l3), some (.inl l4), d5]) (st' := [.inr (.inr (some 84)), .inl l2]) (h1 := hp L s c e) rfl ?_
          refine RuP.step (pc' := 46) (ls' := [some (.inr (.inr (some 84))), some (.inl z1), some (.inl l2), some (.inl l3), some (.inl l4), d5]) (st' := [.inl (s 84 67), .inl l2]) (h1 := hp L s c e) rfl ?_
          refine RuP.step (pc' := 47) (ls' := [some (.inr (.inr (some 84))), some (.inl z1), some (.inl l2), some (.inl l3), some (.inl l4), d5]) (st' := [.inl (ax_w32 (l2 + (s 84 67)))]) (h1 := hp L s c e) rfl ?_
          refine RuP.step (pc' := 49) (ls' := [some (.inr (.inr (some 84))), some (.inl z1), some (.inl l2), some (.inl l3), some (.inl l4), d5]) (st' := [.inl 80, .inl (ax_w32 (l2 + (s 84 67)))]) (h1 := hp L s c e) rfl ?_
          by_cases h7 : ax_w32 (l2 + (s 84 67)) < 80
          · rw [if_pos h7] at h
            refine RuP.jy rfl h7 ?_
            exact bl_257_66 ih _ _ _ _ _ _ _ h
          · rw [if_neg h7] at h
            refine RuP.jn rfl h7 ?_
            refine RuP.step (pc' := 53) (ls' := [some (.inr (.inr (some 84))), some (.inl z1), some (.inl l2), some (.inl l3), some (.inl l4), d5]) (st' := [.inr (.inr (some 84))]) (h1 := hp L s c e) rfl ?_
            refine RuP.step (pc' := 54) (ls' := [some (.inr (.inr (some 84))), some (.inl z1), some (.inl l2), some (.inl l3), some (.inl l4), d5]) (st' := [.inl 3, .inr (.inr (some 84))]) (h1 := hp L s c e) rfl ?_
            refine RuP.step (pc' := 55) (ls' := [some (.inr (.inr (some 84))), some (.inl z1), some (.inl l2), some (.inl l3), some (.inl l4), d5]) (st' := [.inr (.inr (some 84)), .inl 3, .inr (.inr (some 84))]) (h1 := hp L s c e) rfl ?_
            refine RuP.step (pc' := 58) (ls' := [some (.inr (.inr (some 84))), some (.inl z1), some (.inl l2), some (.inl l3), some (.inl l4), d5]) (st' := [.inr (.inr (some 89)), .inl 3, .inr (.inr (some 84))]) (h1 := hp L s c e) rfl ?_
            refine RuP.step (pc' := 59) (ls' := [some (.inr (.inr (some 84))), some (.inl z1), some (.inl l2), some (.inl l3), some (.inl l4), d5]) (st' := [.inr (.inr (some 84)), .inr (.inr (some 89)), .inl 3, .inr (.inr (some 84))]) (h1 := hp L s c e) rfl ?_
            refine RuP.step (pc' := 62) (ls' := [some (.inr (.inr (some 84))), some (.inl z1), some (.inl l2), some (.inl l3), some (.inl l4), d5]) (st' := [.inl (s 84 18), .inr (.inr (some 89)), .inl 3, .inr (.inr (some 84))]) (h1 := hp L s c e) rfl ?_
            obtain ⟨b8, h⟩ := gd_some h
            refine RuP.ald (f := fun t => t == 0) (j := s 84 18) (a := 89) rfl rfl b8.1 b8.2 ?_
            obtain ⟨q4, h1, h⟩ := bd_some h
            refine RuP.cVe h1 rfl (EvP.v ((ev_227 3 (s 89 ((s 84 18).toNat))).up (by decide))) ?_
            exact bl_257_66 ih _ _ _ _ _ _ _ h
noncomputable def f_257 (x0 x1 : Int) (s : Sg) : Option (Int × Sg) :=
  j_257_25 FU x1 1 0 (ax_u2 (ax_u2 (ax_u2 (ax_u2 s 84 59 0) 84 63 0) 84 67 0) 84 68 x0)
theorem ev_257 {L c : Nat} {e : Nat → Nat} {s : Sg} {x0 x1 : Int} {q : Int × Sg} (h : f_257 x0 x1 s = some q) : EvP 6 257 [.inr (.inr (some 84)), .inl x0, .inl x1] (hp L s c e) (oI L c e q) := by
  unfold f_257 at h
  refine EvP.of (μ := tb_m257) (ls := [some (.inr (.inr (some 84))), some (.inl x0), some (.inl x1), none, none, none]) rfl (Nat.le_of_ble_eq_true rfl) rfl ?_
  refine RuP.step (pc' := 1) (ls' := [some (.inr (.inr (some 84))), some (.inl x0), some (.inl x1), none, none, none]) (st' := [.inr (.inr (some 84))]) (h1 := hp L s c e) rfl ?_
  refine RuP.step (pc' := 2) (ls' := [some (.inr (.inr (some 84))), some (.inl x0), some (.inl x1), none, none, none]) (st' := [.inl 0, .inr (.inr (some 84))]) (h1 := hp L s c e) rfl ?_
  refine RuP.step (pc' := 5) (ls' := [some (.inr (.inr (some 84))), some (.inl x0), some (.inl x1), none, none, none]) (st' := []) (h1 := hp L (ax_u2 s 84 59 0) c e) rfl ?_
  refine RuP.step (pc' := 6) (ls' := [some (.inr (.inr (some 84))), some (.inl x0), some (.inl x1), none, none, none]) (st' := [.inr (.inr (some 84))]) (h1 := hp L (ax_u2 s 84 59 0) c e) rfl ?_
  refine RuP.step (pc' := 7) (ls' := [some (.inr (.inr (some 84))), some (.inl x0), some (.inl x1), none, none, none]) (st' := [.inl 0, .inr (.inr (some 84))]) (h1 := hp L (ax_u2 s 84 59 0) c e) rfl ?_
  refine RuP.step (pc' := 10) (ls' := [some (.inr (.inr (some 84))), some (.inl x0), some (.inl x1), none, none, none]) (st' := []) (h1 := hp L (ax_u2 (ax_u2 s 84 59 0) 84 63 0) c e) rfl ?_
  refine RuP.step (pc' := 11) (ls' := [some (.inr (.inr (some 84))), some (.inl x0), some (.inl x1), none, none, none]) (st' := [.inr (.inr (some 84))]) (h1 := hp L (ax_u2 (ax_u2 s 84 59 0) 84 63 0) c e) rfl ?_
  refine RuP.step (pc' := 12) (ls' := [some (.inr (.inr (some 84))), some (.inl x0), some (.inl x1), none, none, none]) (st' := [.inl 0, .inr (.inr (some 84))]) (h1 := hp L (ax_u2 (ax_u2 s 84 59 0) 84 63 0) c e) rfl ?_
  refine RuP.step (pc' := 15) (ls' := [some (.inr (.inr (some 84))), some (.inl x0), some (.inl x1), none, none, none]) (st' := []) (h1 := hp L (ax_u2 (ax_u2 (ax_u2 s 84 59 0) 84 63 0) 84 67 0) c e) rfl ?_
  refine RuP.step (pc' := 16) (ls' := [some (.inr (.inr (some 84))), some (.inl x0), some (.inl x1), none, none, none]) (st' := [.inr (.inr (some 84))]) (h1 := hp L (ax_u2 (ax_u2 (ax_u2 s 84 59 0) 84 63 0) 84 67 0) c e) rfl ?_
  refine RuP.step (pc' := 17) (ls' := [some (.inr (.inr (some 84))), some (.inl x0), some (.inl x1), none, none, none]) (st' := [.inl x0, .inr (.inr (some 84))]) (h1 := hp L (ax_u2 (ax_u2 (ax_u2 s 84 59 0) 84 63 0) 84 67 0) c e) rfl ?_
  refine RuP.step (pc' := 20) (ls' := [some (.inr (.inr (some 84))), some (.inl x0), some (.inl x1), none, none, none]) (st' := []) (h1 := hp L (ax_u2 (ax_u2 (ax_u2 (ax_u2 s 84 59 0) 84 63 0) 84 67 0) 84 68 x0) c e) rfl ?_
  refine RuP.step (pc' := 21) (ls' := [some (.inr (.inr (some 84))), some (.inl x0), some (.inl x1), none, none, none]) (st' := [.inl 1]) (h1 := hp L (ax_u2 (ax_u2 (ax_u2 (ax_u2 s 84 59 0) 84 63 0) 84 67 0) 84 68 x0) c e) rfl ?_
  refine RuP.step (pc' := 22) (ls' := [some (.inr (.inr (some 84))), some (.inl x0), some (.inl x1), some (.inl 1), none, none]) (st' := []) (h1 := hp L (ax_u2 (ax_u2 (ax_u2 (ax_u2 s 84 59 0) 84 63 0) 84 67 0) 84 68 x0) c e) rfl ?_
  refine RuP.step (pc' := 23) (ls' := [some (.inr (.inr (some 84))), some (.inl x0), some (.inl x1), some (.inl 1), none, none]) (st' := [.inl 0]) (h1 := hp L (ax_u2 (ax_u2 (ax_u2 (ax_u2 s 84 59 0) 84 63 0) 84 67 0) 84 68 x0) c e) rfl ?_
  refine RuP.step (pc' := 25) (ls' := [some (.inr (.inr (some 84))), some (.inl x0), some (.inl x1), some (.inl 1), some (.inl 0), none]) (st' := []) (h1 := hp L (ax_u2 (ax_u2 (ax_u2 (ax_u2 s 84 59 0) 84 63 0) 84 67 0) 84 68 x0) c e) rfl ?_
  exact bl_257_25 FU _ _ _ _ _ _ _ h
/-- MachineTextModel.action(I)V -/
noncomputable def j_259_257 (l1 l2 l3 : Int) (s : Sg) : Option Sg :=
  ((f_231 10 s).bind fun q6 =>
  (gd (0 ≤ l2 ∧ l2 < 8200) (
  ((f_257 l1 l3 (ax_u2 q6.2 111 l2.toNat (q6.2 84 18))).bind fun q7 =>
  (gd (0 ≤ l2 ∧ l2 < 8200) (
  ((f_231 7 (ax_u2 q7.2 110 l2.toNat q7.1)).bind fun q8 =>
  some q8.2)))))))
set_option maxRecDepth 20000 in
theorem bl_259_257 {L c : Nat} {e : Nat → Nat} : ∀ (l1 l2 l3 : Int) (s : Sg) (q : Sg), j_259_257 l1 l2 l3 s = some q → RuP 6 tb_m259 257 [some (.inr (.inr (some 84))), some (.inl l1), some (.inl l2), some (.inl l3)] [] (hp L s c e) (oV L c e q) := by
  intro l1 l2 l3 s q h
  unfold j_259_257 at h
  refine RuP.step (pc' := 258) (ls' := [some (.inr (.inr (some 84))), some (.inl l1), some (.inl l2), some (.inl l3)]) (st' := [.inr (.inr (some 84))]) (h1 := hp L s c e) rfl ?_
  refine RuP.step (pc' := 260) (ls' := [some (.inr (.inr (some 84))), some (.inl l1), some (.inl l2), some (.inl l3)]) (st' := [.inl 10, .inr (.inr (some 84))]) (h1 := hp L s c e) rfl ?_
  obtain ⟨q6, h1, h⟩ := bd_some h
  refine RuP.cI rfl ((ev_231 h1).up (by decide)) ?_
  refine RuP.step (pc' := 264) (ls' := [some (.inr (.inr (some 84))), some (.inl l1), some (.inl l2), some (.inl l3)]) (st' := []) (h1 := hp L q6.2 c e) rfl ?_
  refine RuP.step (pc' := 265) (ls' := [some (.inr (.inr (some 84))), some (.inl l1), some (.inl l2), some (.inl l3)]) (st' := [.inr (.inr (some 84))]) (h1 := hp L q6.2 c e) rfl ?_
  refine RuP.step (pc' := 268) (ls' := [some (.inr (.inr (some 84))), some (.inl l1), some (.inl l2), some (.inl l3)]) (st' := [.inr (.inr (some 111))]) (h1 := hp L q6.2 c e) rfl ?_
  refine RuP.step (pc' := 269) (ls' := [some (.inr (.inr (some 84))), some (.inl l1), some (.inl l2), some (.inl l3)]) (st' := [.inl l2, .inr (.inr (some 111))]) (h1 := hp L q6.2 c e) rfl ?_
  refine RuP.step (pc' := 270) (ls' := [some (.inr (.inr (some 84))), some (.inl l1), some (.inl l2), some (.inl l3)]) (st' := [.inr (.inr (some 84)), .inl l2, .inr (.inr (some 111))]) (h1 := hp L q6.2 c e) rfl ?_
  refine RuP.step (pc' := 273) (ls' := [some (.inr (.inr (some 84))), some (.inl l1), some (.inl l2), some (.inl l3)]) (st' := [.inl (q6.2 84 18), .inl l2, .inr (.inr (some 111))]) (h1 := hp L q6.2 c e) rfl ?_
  obtain ⟨b0, h⟩ := gd_some h
  refine RuP.ast (f := fun t => t == 0) (j := l2) (a := 111) rfl rfl (by decide) rfl rfl b0.1 b0.2 ?_
  refine RuP.step (pc' := 275) (ls' := [some (.inr (.inr (some 84))), some (.inl l1), some (.inl l2), some (.inl l3)]) (st' := [.inr (.inr (some 84))]) (h1 := hp L (ax_u2 q6.2 111 l2.toNat (q6.2 84 18)) c e) rfl ?_
  refine RuP.step (pc' := 278) (ls' := [some (.inr (.inr (some 84))), some (.inl l1), some (.inl l2), some (.inl l3)]) (st' := [.inr (.inr (some 110))]) (h1 := hp L (ax_u2 q6.2 111 l2.toNat (q6.2 84 18)) c e) rfl ?_
  refine RuP.step (pc' := 279) (ls' := [some (.inr (.inr (some 84))), some (.inl l1), some (.inl l2), some (.inl l3)]) (st' := [.inl l2, .inr (.inr (some 110))]) (h1 := hp L (ax_u2 q6.2 111 l2.toNat (q6.2 84 18)) c e) rfl ?_
  refine RuP.step (pc' := 280) (ls' := [some (.inr (.inr (some 84))), some (.inl l1), some (.inl l2), some (.inl l3)]) (st' := [.inr (.inr (some 84)), .inl l2, .inr (.inr (some 110))]) (h1 := hp L (ax_u2 q6.2 111 l2.toNat (q6.2 84 18)) c e) rfl ?_
  refine RuP.step (pc' := 281) (ls' := [some (.inr (.inr (some 84))), some (.inl l1), some (.inl l2), some (.inl l3)]) (st' := [.inl l1, .inr (.inr (some 84)), .inl l2, .inr (.inr (some 110))]) (h1 := hp L (ax_u2 q6.2 111 l2.toNat (q6.2 84 18)) c e) rfl ?_
  refine RuP.step (pc' := 282) (ls' := [some (.inr (.inr (some 84))), some (.inl l1), some (.inl l2), some (.inl l3)]) (st' := [.inl l3, .inl l1, .inr (.inr (some 84)), .inl l2, .inr (.inr (some 110))]) (h1 := hp L (ax_u2 q6.2 111 l2.toNat (q6.2 84 18)) c e) rfl ?_
  obtain ⟨q7, h1, h⟩ := bd_some h
  refine RuP.cI rfl ((ev_257 h1).up (by decide)) ?_
  obtain ⟨b1, h⟩ := gd_some h
  refine RuP.ast (f := fun t => t == 0) (j := l2) (a := 110) rfl rfl (by decide) rfl rfl b1.1 b1.2 ?_
  refine RuP.step (pc' := 287) (ls' := [some (.inr (.inr (some 84))), some (.inl l1), some (.inl l2), some (.inl l3)]) (st' := [.inr (.inr (some 84))]) (h1 := hp L (ax_u2 q7.2 110 l2.toNat q7.1) c e) rfl ?_
  refine RuP.step (pc' := 289) (ls' := [some (.inr (.inr (some 84))), some (.inl l1), some (.inl l2), some (.inl l3)]) (st' := [.inl 7, .inr (.inr (some 84))]) (h1 := hp L (ax_u2 q7.2 110 l2.toNat q7.1) c e) rfl ?_
  obtain ⟨q8, h1, h⟩ := bd_some h
  refine RuP.cI rfl ((ev_231 h1).up (by decide)) ?_
  refine RuP.step (pc' := 293) (ls' := [some (.inr (.inr (some 84))), some (.inl l1), some (.inl l2), some (.inl l3)]) (st' := []) (h1 := hp L q8.2 c e) rfl ?_
  cases h
  exact RuP.dV rfl
noncomputable def f_259 (x0 : Int) (s : Sg) : Option Sg :=
  (gd (0 ≤ s 84 34 ∧ s 84 34 < 8200) (
  (gd (0 ≤ s 84 34 ∧ s 84 34 < 8200) (
  (gd (0 ≤ s 84 34 ∧ s 84 34 < 8200) (
  (gd (0 ≤ s 84 34 ∧ s 84 34 < 8200) (
  (gd (0 ≤ s 84 34 ∧ s 84 34 < 8200) (
  (gd (0 ≤ s 84 34 ∧ s 84 34 < 8200) (
  (gd (0 ≤ x0 ∧ x0 < 4100) (
  (gd (0 ≤ x0 ∧ x0 < 4100) (
  (gd (g_252 35 (ax_u2 (ax_u2 (ax_u2 (ax_u2 (ax_u2 (ax_u2 (ax_u2 (ax_u2 s 112 ((s 84 34).toNat) x0) 113 ((s 84 34).toNat) (s 84 46)) 109 ((s 84 34).toNat) (-1)) 110 ((s 84 34).toNat) (-1)) 107 ((s 84 34).toNat) (-1)) 108 ((s 84 34).toNat) (-1)) 84 34 (ax_w32 ((s 84 34) + 1))) 102 x0.toNat (ax_w32 ((s 102 x0.toNat) + 1)))) (
  ((some (f_252 35 (ax_u2 (ax_u2 (ax_u2 (ax_u2 (ax_u2 (ax_u2 (ax_u2 (ax_u2 s 112 ((s 84 34).toNat) x0) 113 ((s 84 34).toNat) (s 84 46)) 109 ((s 84 34).toNat) (-1)) 110 ((s 84 34).toNat) (-1)) 107 ((s 84 34).toNat) (-1)) 108 ((s 84 34).toNat) (-1)) 84 34 (ax_w32 ((s 84 34) + 1))) 102 x0.toNat (ax_w32 ((s 102 x0.toNat) + 1))))).bind fun q1 =>
  (if q1.1 = 0 then
    (gd (g_252 37 q1.2) (
    ((some (f_252 37 q1.2)).bind fun q2 =>
    (if q2.1 = 0 then
      (gd (g_252 38 q2.2) (
      ((some (f_252 38 q2.2)).bind fun q3 =>
      (if q3.1 = 0 then
        (gd (0 ≤ s 84 34 ∧ s 84 34 < 8200) (
        ((f_231 1 (ax_u2 q3.2 106 ((s 84 34).toNat) 0)).bind fun q4 =>
        (gd (0 ≤ s 84 34 ∧ s 84 34 < 8200) (
        (gd (g_252 15 (ax_u2 q4.2 107 ((s 84 34).toNat) q4.1)) (
        ((some (f_252 15 (ax_u2 q4.2 107 ((s 84 34).toNat) q4.1))).bind fun q5 =>
        (if q5.1 = 0 then
          j_259_257 x0 (s 84 34) (ax_w32 ((s 84 43) - 1)) q5.2
        else
          ((f_257 x0 (ax_w32 ((s 84 43) - 1)) q5.2).bind fun q9 =>
          (gd (0 ≤ s 84 34 ∧ s 84 34 < 8200) (
          ((f_231 16 (ax_u2 q9.2 109 ((s 84 34).toNat) q9.1)).bind fun q10 =>
          j_259_257 x0 (s 84 34) (ax_w32 ((s 84 43) - 1)) q10.2)))))))))))))
      else
        (gd (0 ≤ s 84 34 ∧ s 84 34 < 8200) (
        ((f_231 2 (ax_u2 q3.2 106 ((s 84 34).toNat) 3)).bind fun q11 =>
        (gd (0 ≤ s 84 34 ∧ s 84 34 < 8200) (
        ((f_231 7 (ax_u2 q11.2 108 ((s 84 34).toNat) q11.1)).bind fun q12 =>
        some q12.2))))))))))
    else
      (gd (0 ≤ s 84 34 ∧ s 84 34 < 8200) (
      ((f_231 1 (ax_u2 q2.2 106 ((s 84 34).toNat) 2)).bind fun q13 =>
      (gd (0 ≤ s 84 34 ∧ s 84 34 < 8200) (
      ((f_231 2 (ax_u2 q13.2 107 ((s 84 34).toNat) q13.1)).bind fun q14 =>
      (gd (0 ≤ s 84 34 ∧ s 84 34 < 8200) (
      ((f_258 0 (ax_u2 (ax_u2 q14.2 108 ((s 84 34).toNat) q14.1) 84 46 (s 84 34))).bind fun q15 =>
      some q15)))))))))))))
  else
    (gd (0 ≤ s 84 34 ∧ s 84 34 < 8200) (
    (gd (0 ≤ s 84 34 ∧ s 84 34 < 8200) (
    ((f_257 x0 (ax_w32 ((s 84 43) - 1)) (ax_u2 (ax_u2 q1.2 106 ((s 84 34).toNat) 1) 111 ((s 84 34).toNat) (q1.2 84 18))).bind fun q16 =>
    (gd (0 ≤ s 84 34 ∧ s 84 34 < 8200) (
    ((f_258 1 (ax_u2 q16.2 110 ((s 84 34).toNat) q16.1)).bind fun q17 =>
    some q17))))))))))))))))))))))))))))
set_option maxRecDepth 20000 in
theorem ev_259 {L c : Nat} {e : Nat → Nat} {s : Sg} {x0 : Int} {q : Sg} (h : f_259 x0 s = some q) : EvP 7 259 [.inr (.inr (some 84)), .inl x0] (hp L s c e) (oV L c e q) := by
  unfold f_259 at h
  refine EvP.of (μ := tb_m259) (ls := [some (.inr (.inr (some 84))), some (.inl x0), none, none]) rfl (Nat.le_of_ble_eq_true rfl) rfl ?_
  refine RuP.step (pc' := 1) (ls' := [some (.inr (.inr (some 84))), some (.inl x0), none, none]) (st' := [.inr (.inr (some 84))]) (h1 := hp L s c e) rfl ?_
  refine RuP.step (pc' := 4) (ls' := [some (.inr (.inr (some 84))), some (.inl x0), none, none]) (st' := [.inl (s 84 34)]) (h1 := hp L s c e) rfl ?_
  refine RuP.step (pc' := 5) (ls' := [some (.inr (.inr (some 84))), some (.inl x0), some (.inl (s 84 34)), none]) (st' := []) (h1 := hp L s c e) rfl ?_
  refine RuP.step (pc' := 6) (ls' := [some (.inr (.inr (some 84))), some (.inl x0), some (.inl (s 84 34)), none]) (st' := [.inr (.inr (some 84))]) (h1 := hp L s c e) rfl ?_
  refine RuP.step (pc' := 9) (ls' := [some (.inr (.inr (some 84))), some (.inl x0), some (.inl (s 84 34)), none]) (st' := [.inr (.inr (some 112))]) (h1 := hp L s c e) rfl ?_
  refine RuP.step (pc' := 10) (ls' := [some (.inr (.inr (some 84))), some (.inl x0), some (.inl (s 84 34)), none]) (st' := [.inl (s 84 34), .inr (.inr (some 112))]) (h1 := hp L s c e) rfl ?_
  refine RuP.step (pc' := 11) (ls' := [some (.inr (.inr (some 84))), some (.inl x0), some (.inl (s 84 34)), none]) (st' := [.inl x0, .inl (s 84 34), .inr (.inr (some 112))]) (h1 := hp L s c e) rfl ?_
  obtain ⟨b0, h⟩ := gd_some h
  refine RuP.ast (f := fun t => t == 0) (j := s 84 34) (a := 112) rfl rfl (by decide) rfl rfl b0.1 b0.2 ?_
  refine RuP.step (pc' := 13) (ls' := [some (.inr (.inr (some 84))), some (.inl x0), some (.inl (s 84 34)), none]) (st' := [.inr (.inr (some 84))]) (h1 := hp L (ax_u2 s 112 ((s 84 34).toNat) x0) c e) rfl ?_
  refine RuP.step (pc' := 16) (ls' := [some (.inr (.inr (some 84))), some (.inl x0), some (.inl (s 84 34)), none]) (st' := [.inr (.inr (some 113))]) (h1 := hp L (ax_u2 s 112 ((s 84 34).toNat) x0) c e) rfl ?_
  refine RuP.step (pc' := 17) (ls' := [some (.inr (.inr (some 84))), some (.inl x0), some (.inl (s 84 34)), none]) (st' := [.inl (s 84 34), .inr (.inr (some 113))]) (h1 := hp L (ax_u2 s 112 ((s 84 34).toNat) x0) c e) rfl ?_
  refine RuP.step (pc' := 18) (ls' := [some (.inr (.inr (some 84))), some (.inl x0), some (.inl (s 84 34)), none]) (st' := [.inr (.inr (some 84)), .inl (s 84 34), .inr (.inr (some 113))]) (h1 := hp L (ax_u2 s 112 ((s 84 34).toNat) x0) c e) rfl ?_
  refine RuP.step (pc' := 21) (ls' := [some (.inr (.inr (some 84))), some (.inl x0), some (.inl (s 84 34)), none]) (st' := [.inl (s 84 46), .inl (s 84 34), .inr (.inr (some 113))]) (h1 := hp L (ax_u2 s 112 ((s 84 34).toNat) x0) c e) rfl ?_
  obtain ⟨b1, h⟩ := gd_some h
  refine RuP.ast (f := fun t => t == 0) (j := s 84 34) (a := 113) rfl rfl (by decide) rfl rfl b1.1 b1.2 ?_
  refine RuP.step (pc' := 23) (ls' := [some (.inr (.inr (some 84))), some (.inl x0), some (.inl (s 84 34)), none]) (st' := [.inr (.inr (some 84))]) (h1 := hp L (ax_u2 (ax_u2 s 112 ((s 84 34).toNat) x0) 113 ((s 84 34).toNat) (s 84 46)) c e) rfl ?_
  refine RuP.step (pc' := 26) (ls' := [some (.inr (.inr (some 84))), some (.inl x0), some (.inl (s 84 34)), none]) (st' := [.inr (.inr (some 109))]) (h1 := hp L (ax_u2 (ax_u2 s 112 ((s 84 34).toNat) x0) 113 ((s 84 34).toNat) (s 84 46)) c e) rfl ?_
  refine RuP.step (pc' := 27) (ls' := [some (.inr (.inr (some 84))), some (.inl x0), some (.inl (s 84 34)), none]) (st' := [.inl (s 84 34), .inr (.inr (some 109))]) (h1 := hp L (ax_u2 (ax_u2 s 112 ((s 84 34).toNat) x0) 113 ((s 84 34).toNat) (s 84 46)) c e) rfl ?_
  refine RuP.step (pc' := 28) (ls' := [some (.inr (.inr (some 84))), some (.inl x0), some (.inl (s 84 34)), none]) (st' := [.inl (-1), .inl (s 84 34), .inr (.inr (some 109))]) (h1 := hp L (ax_u2 (ax_u2 s 112 ((s 84 34).toNat) x0) 113 ((s 84 34).toNat) (s 84 46)) c e) rfl ?_
  obtain ⟨b2, h⟩ := gd_some h
  refine RuP.ast (f := fun t => t == 0) (j := s 84 34) (a := 109) rfl rfl (by decide) rfl rfl b2.1 b2.2 ?_
  refine RuP.step (pc' := 30) (ls' := [some (.inr (.inr (some 84))), some (.inl x0), some (.inl (s 84 34)), none]) (st' := [.inr (.inr (some 84))]) (h1 := hp L (ax_u2 (ax_u2 (ax_u2 s 112 ((s 84 34).toNat) x0) 113 ((s 84 34).toNat) (s 84 46)) 109 ((s 84 34).toNat) (-1)) c e) rfl ?_
  refine RuP.step (pc' := 33) (ls' := [some (.inr (.inr (some 84))), some (.inl x0), some (.inl (s 84 34)), none]) (st' := [.inr (.inr (some 110))]) (h1 := hp L (ax_u2 (ax_u2 (ax_u2 s 112 ((s 84 34).toNat) x0) 113 ((s 84 34).toNat) (s 84 46)) 109 ((s 84 34).toNat) (-1)) c e) rfl ?_
  refine RuP.step (pc' := 34) (ls' := [some (.inr (.inr (some 84))), some (.inl x0), some (.inl (s 84 34)), none]) (st' := [.inl (s 84 34), .inr (.inr (some 110))]) (h1 := hp L (ax_u2 (ax_u2 (ax_u2 s 112 ((s 84 34).toNat) x0) 113 ((s 84 34).toNat) (s 84 46)) 109 ((s 84 34).toNat) (-1)) c e) rfl ?_
  refine RuP.step (pc' := 35) (ls' := [some (.inr (.inr (some 84))), some (.inl x0), some (.inl (s 84 34)), none]) (st' := [.inl (-1), .inl (s 84 34), .inr (.inr (some 110))]) (h1 := hp L (ax_u2 (ax_u2 (ax_u2 s 112 ((s 84 34).toNat) x0) 113 ((s 84 34).toNat) (s 84 46)) 109 ((s 84 34).toNat) (-1)) c e) rfl ?_
  obtain ⟨b3, h⟩ := gd_some h
  refine RuP.ast (f := fun t => t == 0) (j := s 84 34) (a := 110) rfl rfl (by decide) rfl rfl b3.1 b3.2 ?_
  refine RuP.step (pc' := 37) (ls' := [some (.inr (.inr (some 84))), some (.inl x0), some (.inl (s 84 34)), none]) (st' := [.inr (.inr (some 84))]) (h1 := hp L (ax_u2 (ax_u2 (ax_u2 (ax_u2 s 112 ((s 84 34).toNat) x0) 113 ((s 84 34).toNat) (s 84 46)) 109 ((s 84 34).toNat) (-1)) 110 ((s 84 34).toNat) (-1)) c e) rfl ?_
  refine RuP.step (pc' := 40) (ls' := [some (.inr (.inr (some 84))), some (.inl x0), some (.inl (s 84 34)), none]) (st' := [.inr (.inr (some 107))]) (h1 := hp L (ax_u2 (ax_u2 (ax_u2 (ax_u2 s 112 ((s 84 34).toNat) x0) 113 ((s 84 34).toNat) (s 84 46)) 109 ((s 84 34).toNat) (-1)) 110 ((s 84 34).toNat) (-1)) c e) rfl ?_
  refine RuP.step (pc' := 41) (ls' := [some (.inr (.inr (some 84))), some (.inl x0), some (.inl (s 84 34)), none]) (st' := [.inl (s 84 34), .inr (.inr (some 107))]) (h1 := hp L (ax_u2 (ax_u2 (ax_u2 (ax_u2 s 112 ((s 84 34).toNat) x0) 113 ((s 84 34).toNat) (s 84 46)) 109 ((s 84 34).toNat) (-1)) 110 ((s 84 34).toNat) (-1)) c e) rfl ?_
  refine RuP.step (pc' := 42) (ls' := [some (.inr (.inr (some 84))), some (.inl x0), some (.inl (s 84 34)), none]) (st' := [.inl (-1), .inl (s 84 34), .inr (.inr (some 107))]) (h1 := hp L (ax_u2 (ax_u2 (ax_u2 (ax_u2 s 112 ((s 84 34).toNat) x0) 113 ((s 84 34).toNat) (s 84 46)) 109 ((s 84 34).toNat) (-1)) 110 ((s 84 34).toNat) (-1)) c e) rfl ?_
  obtain ⟨b4, h⟩ := gd_some h
  refine RuP.ast (f := fun t => t == 0) (j := s 84 34) (a := 107) rfl rfl (by decide) rfl rfl b4.1 b4.2 ?_
  refine RuP.step (pc' := 44) (ls' := [some (.inr (.inr (some 84))), some (.inl x0), some (.inl (s 84 34)), none]) (st' := [.inr (.inr (some 84))]) (h1 := hp L (ax_u2 (ax_u2 (ax_u2 (ax_u2 (ax_u2 s 112 ((s 84 34).toNat) x0) 113 ((s 84 34).toNat) (s 84 46)) 109 ((s 84 34).toNat) (-1)) 110 ((s 84 34).toNat) (-1)) 107 ((s 84 34).toNat) (-1)) c e) rfl ?_
  refine RuP.step (pc' := 47) (ls' := [some (.inr (.inr (some 84))), some (.inl x0), some (.inl (s 84 34)), none]) (st' := [.inr (.inr (some 108))]) (h1 := hp L (ax_u2 (ax_u2 (ax_u2 (ax_u2 (ax_u2 s 112 ((s 84 34).toNat) x0) 113 ((s 84 34).toNat) (s 84 46)) 109 ((s 84 34).toNat) (-1)) 110 ((s 84 34).toNat) (-1)) 107 ((s 84 34).toNat) (-1)) c e) rfl ?_
  refine RuP.step (pc' := 48) (ls' := [some (.inr (.inr (some 84))), some (.inl x0), some (.inl (s 84 34)), none]) (st' := [.inl (s 84 34), .inr (.inr (some 108))]) (h1 := hp L (ax_u2 (ax_u2 (ax_u2 (ax_u2 (ax_u2 s 112 ((s 84 34).toNat) x0) 113 ((s 84 34).toNat) (s 84 46)) 109 ((s 84 34).toNat) (-1)) 110 ((s 84 34).toNat) (-1)) 107 ((s 84 34).toNat) (-1)) c e) rfl ?_
  refine RuP.step (pc' := 49) (ls' := [some (.inr (.inr (some 84))), some (.inl x0), some (.inl (s 84 34)), none]) (st' := [.inl (-1), .inl (s 84 34), .inr (.inr (some 108))]) (h1 := hp L (ax_u2 (ax_u2 (ax_u2 (ax_u2 (ax_u2 s 112 ((s 84 34).toNat) x0) 113 ((s 84 34).toNat) (s 84 46)) 109 ((s 84 34).toNat) (-1)) 110 ((s 84 34).toNat) (-1)) 107 ((s 84 34).toNat) (-1)) c e) rfl ?_
  obtain ⟨b5, h⟩ := gd_some h
  refine RuP.ast (f := fun t => t == 0) (j := s 84 34) (a := 108) rfl rfl (by decide) rfl rfl b5.1 b5.2 ?_
  refine RuP.step (pc' := 51) (ls' := [some (.inr (.inr (some 84))), some (.inl x0), some (.inl (s 84 34)), none]) (st' := [.inr (.inr (some 84))]) (h1 := hp L (ax_u2 (ax_u2 (ax_u2 (ax_u2 (ax_u2 (ax_u2 s 112 ((s 84 34).toNat) x0) 113 ((s 84 34).toNat) (s 84 46)) 109 ((s 84 34).toNat) (-1)) 110 ((s 84 34).toNat) (-1)) 107 ((s 84 34).toNat) (-1)) 108 ((s 84 34).toNat) (-1)) c e) rfl ?_
  refine RuP.step (pc' := 54) (ls' := [some (.inr (.inr (some 84))), some (.inl x0), some (.inl (s 84 34)), none]) (st' := [.inl (s 84 43)]) (h1 := hp L (ax_u2 (ax_u2 (ax_u2 (ax_u2 (ax_u2 (ax_u2 s 112 ((s 84 34).toNat) x0) 113 ((s 84 34).toNat) (s 84 46)) 109 ((s 84 34).toNat) (-1)) 110 ((s 84 34).toNat) (-1)) 107 ((s 84 34).toNat) (-1)) 108 ((s 84 34).toNat) (-1)) c e) rfl ?_
  refine RuP.step (pc' := 55) (ls' := [some (.inr (.inr (some 84))), some (.inl x0), some (.inl (s 84 34)), none]) (st' := [.inl 1, .inl (s 84 43)]) (h1 := hp L (ax_u2 (ax_u2 (ax_u2 (ax_u2 (ax_u2 (ax_u2 s 112 ((s 84 34).toNat) x0) 113 ((s 84 34).toNat) (s 84 46)) 109 ((s 84 34).toNat) (-1)) 110 ((s 84 34).toNat) (-1)) 107 ((s 84 34).toNat) (-1)) 108 ((s 84 34).toNat) (-1)) c e) rfl ?_
  refine RuP.step (pc' := 56) (ls' := [some (.inr (.inr (some 84))), some (.inl x0), some (.inl (s 84 34)), none]) (st' := [.inl (ax_w32 ((s 84 43) - 1))]) (h1 := hp L (ax_u2 (ax_u2 (ax_u2 (ax_u2 (ax_u2 (ax_u2 s 112 ((s 84 34).toNat) x0) 113 ((s 84 34).toNat) (s 84 46)) 109 ((s 84 34).toNat) (-1)) 110 ((s 84 34).toNat) (-1)) 107 ((s 84 34).toNat) (-1)) 108 ((s 84 34).toNat) (-1)) c e) rfl ?_
  refine RuP.step (pc' := 57) (ls' := [some (.inr (.inr (some 84))), some (.inl x0), some (.inl (s 84 34)), some (.inl (ax_w32 ((s 84 43) - 1)))]) (st' := []) (h1 := hp L (ax_u2 (ax_u2 (ax_u2 (ax_u2 (ax_u2 (ax_u2 s 112 ((s 84 34).toNat) x0) 113 ((s 84 34).toNat) (s 84 46)) 109 ((s 84 34).toNat) (-1)) 110 ((s 84 34).toNat) (-1)) 107 ((s 84 34).toNat) (-1)) 108 ((s 84 34).toNat) (-1)) c e) rfl ?_
  refine RuP.step (pc' := 58) (ls' := [some (.inr (.inr (some 84))), some (.inl x0), some (.inl (s 84 34)), some (.inl (ax_w32 ((s 84 43) - 1)))]) (st' := [.inr (.inr (some 84))]) (h1 := hp L (ax_u2 (ax_u2 (ax_u2 (ax_u2 (ax_u2 (ax_u2 s 112 ((s 84 34).toNat) x0) 113 ((s 84 34).toNat) (s 84 46)) 109 ((s 84 34).toNat) (-1)) 110 ((s 84 34).toNat) (-1)) 107 ((s 84 34).toNat) (-1)) 108 ((s 84 34).toNat) (-1)) c e) rfl ?_
  refine RuP.step (pc' := 59) (ls' := [some (.inr (.inr (some 84))), some (.inl x0), some (.inl (s 84 34)), some (.inl (ax_w32 ((s 84 43) - 1)))]) (st' := [.inr (.inr (some 84)), .inr (.inr (some 84))]) (h1 := hp L (ax_u2 (ax_u2 (ax_u2 (ax_u2 (ax_u2 (ax_u2 s 112 ((s 84 34).toNat) x0) 113 ((s 84 34).toNat) (s 84 46)) 109 ((s 84 34).toNat) (-1)) 110 ((s 84 34).toNat) (-1)) 107 ((s 84 34).toNat) (-1)) 108 ((s 84 34).toNat) (-1)) c e) rfl ?_
  refine RuP.step (pc' := 62) (ls' := [some (.inr (.inr (some 84))), some (.inl x0), some (.inl (s 84 34)), some (.inl (ax_w32 ((s 84 43) - 1)))]) (st' := [.inl (s 84 34), .inr (.inr (some 84))]) (h1 := hp L (ax_u2 (ax_u2 (ax_u2 (ax_u2 (ax_u2 (ax_u2 s 112 ((s 84 34).toNat) x0) 113 ((s 84 34).toNat) (s 84 46)) 109 ((s 84 34).toNat) (-1)) 110 ((s 84 34).toNat) (-1)) 107 ((s 84 34).toNat) (-1)) 108 ((s 84 34).toNat) (-1)) c e) rfl ?_
  refine RuP.step (pc' := 63) (ls' := [some (.inr (.inr (some 84))), some (.inl x0), some (.inl (s 84 34)), some (.inl (ax_w32 ((s 84 43) - 1)))]) (st' := [.inl 1, .inl (s 84 34), .inr (.inr (some 84))]) (h1 := hp L (ax_u2 (ax_u2 (ax_u2 (ax_u2 (ax_u2 (ax_u2 s 112 ((s 84 34).toNat) x0) 113 ((s 84 34).toNat) (s 84 46)) 109 ((s 84 34).toNat) (-1)) 110 ((s 84 34).toNat) (-1)) 107 ((s 84 34).toNat) (-1)) 108 ((s 84 34).toNat) (-1)) c e) rfl ?_
  refine RuP.step (pc' := 64) (ls' := [some (.inr (.inr (some 84))), some (.inl x0), some (.inl (s 84 34)), some (.inl (ax_w32 ((s 84 43) - 1)))]) (st' := [.inl (ax_w32 ((s 84 34) + 1)), .inr (.inr (some 84))]) (h1 := hp L (ax_u2 (ax_u2 (ax_u2 (ax_u2 (ax_u2 (ax_u2 s 112 ((s 84 34).toNat) x0) 113 ((s 84 34).toNat) (s 84 46)) 109 ((s 84 34).toNat) (-1)) 110 ((s 84 34).toNat) (-1)) 107 ((s 84 34).toNat) (-1)) 108 ((s 84 34).toNat) (-1)) c e) rfl ?_
  refine RuP.step (pc' := 67) (ls' := [some (.inr (.inr (some 84))), some (.inl x0), some (.inl (s 84 34)), some (.inl (ax_w32 ((s 84 43) - 1)))]) (st' := []) (h1 := hp L (ax_u2 (ax_u2 (ax_u2 (ax_u2 (ax_u2 (ax_u2 (ax_u2 s 112 ((s 84 34).toNat) x0) 113 ((s 84 34).toNat) (s 84 46)) 109 ((s 84 34).toNat) (-1)) 110 ((s 84 34).toNat) (-1)) 107 ((s 84 34).toNat) (-1)) 108 ((s 84 34).toNat) (-1)) 84 34 (ax_w32 ((s 84 34) + 1))) c e) rfl ?_
  refine RuP.step (pc' := 68) (ls' := [some (.inr (.inr (some 84))), some (.inl x0), some (.inl (s 84 34)), some (.inl (ax_w32 ((s 84 43) - 1)))]) (st' := [.inr (.inr (some 84))]) (h1 := hp L (ax_u2 (ax_u2 (ax_u2 (ax_u2 (ax_u2 (ax_u2 (ax_u2 s 112 ((s 84 34).toNat) x0) 113 ((s 84 34).toNat) (s 84 46)) 109 ((s 84 34).toNat) (-1)) 110 ((s 84 34).toNat) (-1)) 107 ((s 84 34).toNat) (-1)) 108 ((s 84 34).toNat) (-1)) 84 34 (ax_w32 ((s 84 34) + 1))) c e) rfl ?_
  refine RuP.step (pc' := 71) (ls' := [some (.inr (.inr (some 84))), some (.inl x0), some (.inl (s 84 34)), some (.inl (ax_w32 ((s 84 43) - 1)))]) (st' := [.inr (.inr (some 102))]) (h1 := hp L (ax_u2 (ax_u2 (ax_u2 (ax_u2 (ax_u2 (ax_u2 (ax_u2 s 112 ((s 84 34).toNat) x0) 113 ((s 84 34).toNat) (s 84 46)) 109 ((s 84 34).toNat) (-1)) 110 ((s 84 34).toNat) (-1)) 107 ((s 84 34).toNat) (-1)) 108 ((s 84 34).toNat) (-1)) 84 34 (ax_w32 ((s 84 34) + 1))) c e) rfl ?_
  refine RuP.step (pc' := 72) (ls' := [some (.inr (.inr (some 84))), some (.inl x0), some (.inl (s 84 34)), some (.inl (ax_w32 ((s 84 43) - 1)))]) (st' := [.inl x0, .inr (.inr (some 102))]) (h1 := hp L (ax_u2 (ax_u2 (ax_u2 (ax_u2 (ax_u2 (ax_u2 (ax_u2 s 112 ((s 84 34).toNat) x0) 113 ((s 84 34).toNat) (s 84 46)) 109 ((s 84 34).toNat) (-1)) 110 ((s 84 34).toNat) (-1)) 107 ((s 84 34).toNat) (-1)) 108 ((s 84 34).toNat) (-1)) 84 34 (ax_w32 ((s 84 34) + 1))) c e) rfl ?_
  refine RuP.step (pc' := 73) (ls' := [some (.inr (.inr (some 84))), some (.inl x0), some (.inl (s 84 34)), some (.inl (ax_w32 ((s 84 43) - 1)))]) (st' := [.inl x0, .inr (.inr (some 102)), .inl x0, .inr (.inr (some 102))]) (h1 := hp L (ax_u2 (ax_u2 (ax_u2 (ax_u2 (ax_u2 (ax_u2 (ax_u2 s 112 ((s 84 34).toNat) x0) 113 ((s 84 34).toNat) (s 84 46)) 109 ((s 84 34).toNat) (-1)) 110 ((s 84 34).toNat) (-1)) 107 ((s 84 34).toNat) (-1)) 108 ((s 84 34).toNat) (-1)) 84 34 (ax_w32 ((s 84 34) + 1))) c e) rfl ?_
  obtain ⟨b6, h⟩ := gd_some h
  refine RuP.ald (f := fun t => t == 0) (j := x0) (a := 102) rfl rfl b6.1 b6.2 ?_
  refine RuP.step (pc' := 75) (ls' := [some (.inr (.inr (some 84))), some (.inl x0), some (.inl (s 84 34)), some (.inl (ax_w32 ((s 84 43) - 1)))]) (st' := [.inl 1, .inl (s 102 x0.toNat), .inl x0, .inr (.inr (some 102))]) (h1 := hp L (ax_u2 (ax_u2 (ax_u2 (ax_u2 (ax_u2 (ax_u2 (ax_u2 s 112 ((s 84 34).toNat) x0) 113 ((s 84 34).toNat) (s 84 46)) 109 ((s 84 34).toNat) (-1)) 110 ((s 84 34).toNat) (-1)) 107 ((s 84 34).toNat) (-1)) 108 ((s 84 34).toNat) (-1)) 84 34 (ax_w32 ((s 84 34) + 1))) c e) rfl ?_
  refine RuP.step (pc' := 76) (ls' := [some (.inr (.inr (some 84))), some (.inl x0), some (.inl (s 84 34)), some (.inl (ax_w32 ((s 84 43) - 1)))]) (st' := [.inl (ax_w32 ((s 102 x0.toNat) + 1)), .inl x0, .inr (.inr (some 102))]) (h1 := hp L (ax_u2 (ax_u2 (ax_u2 (ax_u2 (ax_u2 (ax_u2 (ax_u2 s 112 ((s 84 34).toNat) x0) 113 ((s 84 34).toNat) (s 84 46)) 109 ((s 84 34).toNat) (-1)) 110 ((s 84 34).toNat) (-1)) 107 ((s 84 34).toNat) (-1)) 108 ((s 84 34).toNat) (-1)) 84 34 (ax_w32 ((s 84 34) + 1))) c e) rfl ?_
  obtain ⟨b7, h⟩ := gd_some h
  refine RuP.ast (f := fun t => t == 0) (j := x0) (a := 102) rfl rfl (by decide) rfl rfl b7.1 b7.2 ?_
  refine RuP.step (pc' := 78) (ls' := [some (.inr (.inr (some 84))), some (.inl x0), some (.inl (s 84 34)), some (.inl (ax_w32 ((s 84 43) - 1)))]) (st' := [.inr (.inr (some 84))]) (h1 := hp L (ax_u2 (ax_u2 (ax_u2 (ax_u2 (ax_u2 (ax_u2 (ax_u2 (ax_u2 s 112 ((s 84 34).toNat) x0) 113 ((s 84 34).toNat) (s 84 46)) 109 ((s 84 34).toNat) (-1)) 110 ((s 84 34).toNat) (-1)) 107 ((s 84 34).toNat) (-1)) 108 ((s 84 34).toNat) (-1)) 84 34 (ax_w32 ((s 84 34) + 1))) 102 x0.toNat (ax_w32 ((s 102 x0.toNat) + 1))) c e) rfl ?_
  refine RuP.step (pc' := 80) (ls' := [some (.inr (.inr (some 84))), some (.inl x0), some (.inl (s 84 34)), some (.inl (ax_w32 ((s 84 43) - 1)))]) (st' := [.inl 35, .inr (.inr (some 84))]) (h1 := hp L (ax_u2 (ax_u2 (ax_u2 (ax_u2 (ax_u2 (ax_u2 (ax_u2 (ax_u2 s 112 ((s 84 34).toNat) x0) 113 ((s 84 34).toNat) (s 84 46)) 109 ((s 84 34).toNat) (-1)) 110 ((s 84 34).toNat) (-1)) 107 ((s 84 34).toNat) (-1)) 108 ((s 84 34).toNat) (-1)) 84 34 (ax_w32 ((s 84 34) + 1))) 102 x0.toNat (ax_w32 ((s 102 x0.toNat) + 1))) c e) rfl ?_
  obtain ⟨b8, h⟩ := gd_some h
  obtain ⟨q1, h1, h⟩ := bd_some h
  refine RuP.cIe h1 rfl (EvP.ip ((ev_252 35 b8).up (by decide))) ?_
  by_cases h9 : q1.1 = 0
  · rw [if_pos h9] at h
    refine RuP.jy rfl h9 ?_
    refine RuP.step (pc' := 124) (ls' := [some (.inr (.inr (some 84))), some (.inl x0), some (.inl (s 84 34)), some (.inl (ax_w32 ((s 84 43) - 1)))]) (st' := [.inr (.inr (some 84))]) (h1 := hp L q1.2 c e) rfl ?_
    refine RuP.step (pc' := 126) (ls' := [some (.inr (.inr (some 84))), some (.inl x0), some (.inl (s 84 34)), some (.inl (ax_w32 ((s 84 43) - 1)))]) (st' := [.inl 37, .inr (.inr (some 84))]) (h1 := hp L q1.2 c e) rfl ?_
    obtain ⟨b10, h⟩ := gd_some h
    obtain ⟨q2, h1, h⟩ := bd_some h
    refine RuP.cIe h1 rfl (EvP.ip ((ev_252 37 b10).up (by decide))) ?_
    by_cases h11 : q2.1 = 0
    · rw [if_pos h11] at h
      refine RuP.jy rfl h11 ?_
      refine RuP.step (pc' := 175) (ls' := [some (.inr (.inr (some 84))), some (.inl x0), some (.inl (s 84 34)), some (.inl (ax_w32 ((s 84 43) - 1)))]) (st' := [.inr (.inr (some 84))]) (h1 := hp L q2.2 c e) rfl ?_
      refine RuP.step (pc' := 177) (ls' := [some (.inr (.inr (some 84))), some (.inl x0), some (.inl (s 84 34)), some (.inl (ax_w32 ((s 84 43) - 1)))]) (st' := [.inl 38, .inr (.inr (some 84))]) (h1 := hp L q2.2 c e) rfl ?_
      obtain ⟨b12, h⟩ := gd_some h
      obtain ⟨q3, h1, h⟩ := bd_some h
      refine RuP.cIe h1 rfl (EvP.ip ((ev_252 38 b12).up (by decide))) ?_
      by_cases h13 : q3.1 = 0
      · rw [if_pos h13] at h
        refine RuP.jy rfl h13 ?_
        refine RuP.step (pc' := 212) (ls' := [some (.inr (.inr (some 84))), some (.inl x0), some (.inl (s 84 34)), some (.inl (ax_w32 ((s 84 43) - 1)))]) (st' := [.inr (.inr (some 84))]) (h1 := hp L q3.2 c e) rfl ?_
        refine RuP.step (pc' := 215) (ls' := [some (.inr (.inr (some 84))), some (.inl x0), some (.inl (s 84 34)), some (.inl (ax_w32 ((s 84 43) - 1)))]) (st' := [.inr (.inr (some 106))]) (h1 := hp L q3.2 c e) rfl ?_
        refine RuP.step (pc' := 216) (ls' := [some (.inr (.inr (some 84))), some (.inl x0), some (.inl (s 84 34)), some (.inl (ax_w32 ((s 84 43) - 1)))]) (st' := [.inl (s 84 34), .inr (.inr (some 106))]) (h1 := hp L q3.2 c e) rfl ?_
        refine RuP.step (pc' := 217) (ls' := [some (.inr (.inr (some 84))), some (.inl x0), some (.inl (s 84 34)), some (.inl (ax_w32 ((s 84 43) - 1)))]) (st' := [.inl 0, .inl (s 84 34), .inr (.inr (some 106))]) (h1 := hp L q3.2 c e) rfl ?_
        obtain ⟨b14, h⟩ := gd_some h
        refine RuP.ast (f := fun t => t == 0) (j := s 84 34) (a := 106) rfl rfl (by decide) rfl rfl b14.1 b14.2 ?_
        refine RuP.step (pc' := 219) (ls' := [some (.inr (.inr (some 84))), some (.inl x0), some (.inl (s 84 34)), some (.inl (ax_w32 ((s 84 43) - 1)))]) (st' := [.inr (.inr (some 84))]) (h1 := hp L (ax_u2 q3.2 106 ((s 84 34).toNat) 0) c e) rfl ?_
        refine RuP.step (pc' := 222) (ls' := [some (.inr (.inr (some 84))), some (.inl x0), some (.inl (s 84 34)), some (.inl (ax_w32 ((s 84 43) - 1)))]) (st' := [.inr (.inr (some 107))]) (h1 := hp L (ax_u2 q3.2 106 ((s 84 34).toNat) 0) c e) rfl ?_
        refine RuP.step (pc' := 223) (ls' := [some (.inr (.inr (some 84))), some (.inl x0), some (.inl (s 84 34)), some (.inl (ax_w32 ((s 84 43) - 1)))]) (st' := [.inl (s 84 34), .inr (.inr (some 107))]) (h1 := hp L (ax_u2 q3.2 106 ((s 84 34).toNat) 0) c e) rfl ?_
        refine RuP.step (pc' := 224) (ls' := [some (.inr (.inr (some 84))), some (.inl x0), some (.inl (s 84 34)), some (.inl (ax_w32 ((s 84 43) - 1)))]) (st' := [.inr (.inr (some 84)), .inl (s 84 34), .inr (.inr (some 107))]) (h1 := hp L (ax_u2 q3.2 106 ((s 84 34).toNat) 0) c e) rfl ?_
        refine RuP.step (pc' := 225) (ls' := [some (.inr (.inr (some 84))), some (.inl x0), some (.inl (s 84 34)), some (.inl (ax_w32 ((s 84 43) - 1)))]) (st' := [.inl 1, .inr (.inr (some 84)), .inl (s 84 34), .inr (.inr (some 107))]) (h1 := hp L (ax_u2 q3.2 106 ((s 84 34).toNat) 0) c e) rfl ?_
        obtain ⟨q4, h1, h⟩ := bd_some h
        refine RuP.cI rfl ((ev_231 h1).up (by decide)) ?_
        obtain ⟨b15, h⟩ := gd_some h
        refine RuP.ast (f := fun t => t == 0) (j := s 84 34) (a := 107) rfl rfl (by decide) rfl rfl b15.1 b15.2 ?_
        refine RuP.step (pc' := 230) (ls' := [some (.inr (.inr (some 84))), some (.inl x0), some (.inl (s 84 34)), some (.inl (ax_w32 ((s 84 43) - 1)))]) (st' := [.inr (.inr (some 84))]) (h1 := hp L (ax_u2 q4.2 107 ((s 84 34).toNat) q4.1) c e) rfl ?_
        refine RuP.step (pc' := 232) (ls' := [some (.inr (.inr (some 84))), some (.inl x0), some (.inl (s 84 34)), some (.inl (ax_w32 ((s 84 43) - 1)))]) (st' := [.inl 15, .inr (.inr (some 84))]) (h1 := hp L (ax_u2 q4.2 107 ((s 84 34).toNat) q4.1) c e) rfl ?_
        obtain ⟨b16, h⟩ := gd_some h
        obtain ⟨q5, h1, h⟩ := bd_some h
        refine RuP.cIe h1 rfl (EvP.ip ((ev_252 15 b16).up (by decide))) ?_
        by_cases h17 : q5.1 = 0
        · rw [if_pos h17] at h
          refine RuP.jy rfl h17 ?_
          exact bl_259_257 _ _ _ _ _ h
        · rw [if_neg h17] at h
          refine RuP.jn rfl h17 ?_
          refine RuP.step (pc' := 239) (ls' := [some (.inr (.inr (some 84))), some (.inl x0), some (.inl (s 84 34)), some (.inl (ax_w32 ((s 84 43) - 1)))]) (st' := [.inr (.inr (some 84))]) (h1 := hp L q5.2 c e) rfl ?_
          refine RuP.step (pc' := 242) (ls' := [some (.inr (.inr (some 84))), some (.inl x0), some (.inl (s 84 34)), some (.inl (ax_w32 ((s 84 43) - 1)))]) (st' := [.inr (.inr (some 109))]) (h1 := hp L q5.2 c e) rfl ?_
          refine RuP.step (pc' := 243) (ls' := [some (.inr (.inr (some 84))), some (.inl x0), some (.inl (s 84 34)), some (.inl (ax_w32 ((s 84 43) - 1)))]) (st' := [.inl (s 84 34), .inr (.inr (some 109))]) (h1 := hp L q5.2 c e) rfl ?_
          refine RuP.step (pc' := 244) (ls' := [some (.inr (.inr (some 84))), some (.inl x0), some (.inl (s 84 34)), some (.inl (ax_w32 ((s 84 43) - 1)))]) (st' := [.inr (.inr (some 84)), .inl (s 84 34), .inr (.inr (some 109))]) (h1 := hp L q5.2 c e) rfl ?_
          refine RuP.step (pc' := 245) (ls' := [some (.inr (.inr (some 84))), some (.inl x0), some (.inl (s 84 34)), some (.inl (ax_w32 ((s 84 43) - 1)))]) (st' := [.inl x0, .inr (.inr (some 84)), .inl (s 84 34), .inr (.inr (some 109))]) (h1 := hp L q5.2 c e) rfl ?_
          refine RuP.step (pc' := 246) (ls' := [some (.inr (.inr (some 84))), some (.inl x0), some (.inl (s 84 34)), some (.inl (ax_w32 ((s 84 43) - 1)))]) (st' := [.inl (ax_w32 ((s 84 43) - 1)), .inl x0, .inr (.inr (some 84)), .inl (s 84 34), .inr (.inr (some 109))]) (h1 := hp L q5.2 c e) rfl ?_
          obtain ⟨q9, h1, h⟩ := bd_some h
          refine RuP.cI rfl ((ev_257 h1).up (by decide)) ?_
          obtain ⟨b18, h⟩ := gd_some h
          refine RuP.ast (f := fun t => t == 0) (j := s 84 34) (a := 109) rfl rfl (by decide) rfl rfl b18.1 b18.2 ?_
          refine RuP.step (pc' := 251) (ls' := [some (.inr (.inr (some 84))), some (.inl x0), some (.inl (s 84 34)), some (.inl (ax_w32 ((s 84 43) - 1)))]) (st' := [.inr (.inr (some 84))]) (h1 := hp L (ax_u2 q9.2 109 ((s 84 34).toNat) q9.1) c e) rfl ?_
          refine RuP.step (pc' := 253) (ls' := [some (.inr (.inr (some 84))), some (.inl x0), some (.inl (s 84 34)), some (.inl (ax_w32 ((s 84 43) - 1)))]) (st' := [.inl 16, .inr (.inr (some 84))]) (h1 := hp L (ax_u2 q9.2 109 ((s 84 34).toNat) q9.1) c e) rfl ?_
          obtain ⟨q10, h1, h⟩ := bd_some h
          refine RuP.cI rfl ((ev_231 h1).up (by decide)) ?_
          refine RuP.step (pc' := 257) (ls' := [some (.inr (.inr (some 84))), some (.inl x0), some (.inl (s 84 34)), some (.inl (ax_w32 ((s 84 43) - 1)))]) (st' := []) (h1 := hp L q10.2 c e) rfl ?_
          exact bl_259_257 _ _ _ _ _ h
      · rw [if_neg h13] at h
        refine RuP.jn rfl h13 ?_
        refine RuP.step (pc' := 184) (ls' := [some (.inr (.inr (some 84))), some (.inl x0), some (.inl (s 84 34)), some (.inl (ax_w32 ((s 84 43) - 1)))]) (st' := [.inr (.inr (some 84))]) (h1 := hp L q3.2 c e) rfl ?_
        refine RuP.step (pc' := 187) (ls' := [some (.inr (.inr (some 84))), some (.inl x0), some (.inl (s 84 34)), some (.inl (ax_w32 ((s 84 43) - 1)))]) (st' := [.inr (.inr (some 106))]) (h1 := hp L q3.2 c e) rfl ?_
        refine RuP.step (pc' := 188) (ls' := [some (.inr (.inr (some 84))), some (.inl x0), some (.inl (s 84 34)), some (.inl (ax_w32 ((s 84 43) - 1)))]) (st' := [.inl (s 84 34), .inr (.inr (some 106))]) (h1 := hp L q3.2 c e) rfl ?_
        refine RuP.step (pc' := 189) (ls' := [some (.inr (.inr (some 84))), some (.inl x0), some (.inl (s 84 34)), some (.inl (ax_w32 ((s 84 43) - 1)))]) (st' := [.inl 3, .inl (s 84 34), .inr (.inr (some 106))]) (h1 := hp L q3.2 c e) rfl ?_
        obtain ⟨b19, h⟩ := gd_some h
        refine RuP.ast (f := fun t => t == 0) (j := s 84 34) (a := 106) rfl rfl (by decide) rfl rfl b19.1 b19.2 ?_
        refine RuP.step (pc' := 191) (ls' := [some (.inr (.inr (some 84))), some (.inl x0), some (.inl (s 84 34)), some (.inl (ax_w32 ((s 84 43) - 1)))]) (st' := [.inr (.inr (some 84))]) (h1 := hp L (ax_u2 q3.2 106 ((s 84 34).toNat) 3) c e) rfl ?_
        refine RuP.step (pc' := 194) (ls' := [some (.inr (.inr (some 84))), some (.inl x0), some (.inl (s 84 34)), some (.inl (ax_w32 ((s 84 43) - 1)))]) (st' := [.inr (.inr (some 108))]) (h1 := hp L (ax_u2 q3.2 106 ((s 84 34).toNat) 3) c e) rfl ?_
        refine RuP.step (pc' := 195) (ls' := [some (.inr (.inr (some 84))), some (.inl x0), some (.inl (s 84 34)), some (.inl (ax_w32 ((s 84 43) - 1)))]) (st' := [.inl (s 84 34), .inr (.inr (some 108))]) (h1 := hp L (ax_u2 q3.2 106 ((s 84 34).toNat) 3) c e) rfl ?_
        refine RuP.step (pc' := 196) (ls' := [some (.inr (.inr (some 84))), some (.inl x0), some (.inl (s 84 34)), some (.inl (ax_w32 ((s 84 43) - 1)))]) (st' := [.inr (.inr (some 84)), .inl (s 84 34), .inr (.inr (some 108))]) (h1 := hp L (ax_u2 q3.2 106 ((s 84 34).toNat) 3) c e) rfl ?_
        refine RuP.step (pc' := 197) (ls' := [some (.inr (.inr (some 84))), some (.inl x0), some (.inl (s 84 34)), some (.inl (ax_w32 ((s 84 43) - 1)))]) (st' := [.inl 2, .inr (.inr (some 84)), .inl (s 84 34), .inr (.inr (some 108))]) (h1 := hp L (ax_u2 q3.2 106 ((s 84 34).toNat) 3) c e) rfl ?_
        obtain ⟨q11, h1, h⟩ := bd_some h
        refine RuP.cI rfl ((ev_231 h1).up (by decide)) ?_
        obtain ⟨b20, h⟩ := gd_some h
        refine RuP.ast (f := fun t => t == 0) (j := s 84 34) (a := 108) rfl rfl (by decide) rfl rfl b20.1 b20.2 ?_
        refine RuP.step (pc' := 202) (ls' := [some (.inr (.inr (some 84))), some (.inl x0), some (.inl (s 84 34)), some (.inl (ax_w32 ((s 84 43) - 1)))]) (st' := [.inr (.inr (some 84))]) (h1 := hp L (ax_u2 q11.2 108 ((s 84 34).toNat) q11.1) c e) rfl ?_
        refine RuP.step (pc' := 204) (ls' := [some (.inr (.inr (some 84))), some (.inl x0), some (.inl (s 84 34)), some (.inl (ax_w32 ((s 84 43) - 1)))]) (st' := [.inl 7, .inr (.inr (some 84))]) (h1 := hp L (ax_u2 q11.2 108 ((s 84 34).toNat) q11.1) c e) rfl ?_
        obtain ⟨q12, h1, h⟩ := bd_some h
        refine RuP.cI rfl ((ev_231 h1).up (by decide)) ?_
        refine RuP.step (pc' := 208) (ls' := [some (.inr (.inr (some 84))), some (.inl x0), some (.inl (s 84 34)), some (.inl (ax_w32 ((s 84 43) - 1)))]) (st' := []) (h1 := hp L q12.2 c e) rfl ?_
        refine RuP.step (pc' := 293) (ls' := [some (.inr (.inr (some 84))), some (.inl x0), some (.inl (s 84 34)), some (.inl (ax_w32 ((s 84 43) - 1)))]) (st' := []) (h1 := hp L q12.2 c e) rfl ?_
        cases h
        exact RuP.dV rfl
    · rw [if_neg h11] at h
      refine RuP.jn rfl h11 ?_
      refine RuP.step (pc' := 133) (ls' := [some (.inr (.inr (some 84))), some (.inl x0), some (.inl (s 84 34)), some (.inl (ax_w32 ((s 84 43) - 1)))]) (st' := [.inr (.inr (some 84))]) (h1 := hp L q2.2 c e) rfl ?_
      refine RuP.step (pc' := 136) (ls' := [some (.inr (.inr (some 84))), some (.inl x0), some (.inl (s 84 34)), some (.inl (ax_w32 ((s 84 43) - 1)))]) (st' := [.inr (.inr (some 106))]) (h1 := hp L q2.2 c e) rfl ?_
      refine RuP.step (pc' := 137) (ls' := [some (.inr (.inr (some 84))), some (.inl x0), some (.inl (s 84 34)), some (.inl (ax_w32 ((s 84 43) - 1)))]) (st' := [.inl (s 84 34), .inr (.inr (some 106))]) (h1 := hp L q2.2 c e) rfl ?_
      refine RuP.step (pc' := 138) (ls' := [some (.inr (.inr (some 84))), some (.inl x0), some (.inl (s 84 34)), some (.inl (ax_w32 ((s 84 43) - 1)))]) (st' := [.inl 2, .inl (s 84 34), .inr (.inr (some 106))]) (h1 := hp L q2.2 c e) rfl ?_
      obtain ⟨b21, h⟩ := gd_some h
      refine RuP.ast (f := fun t => t == 0) (j := s 84 34) (a := 106) rfl rfl (by decide) rfl rfl b21.1 b21.2 ?_
      refine RuP.step (pc' := 140) (ls' := [some (.inr (.inr (some 84))), some (.inl x0), some (.inl (s 84 34)), some (.inl (ax_w32 ((s 84 43) - 1)))]) (st' := [.inr (.inr (some 84))]) (h1 := hp L (ax_u2 q2.2 106 ((s 84 34).toNat) 2) c e) rfl ?_
      refine RuP.step (pc' := 143) (ls' := [some (.inr (.inr (some 84))), some (.inl x0), some (.inl (s 84 34)), some (.inl (ax_w32 ((s 84 43) - 1)))]) (st' := [.inr (.inr (some 107))]) (h1 := hp L (ax_u2 q2.2 106 ((s 84 34).toNat) 2) c e) rfl ?_
      refine RuP.step (pc' := 144) (ls' := [some (.inr (.inr (some 84))), some (.inl x0), some (.inl (s 84 34)), some (.inl (ax_w32 ((s 84 43) - 1)))]) (st' := [.inl (s 84 34), .inr (.inr (some 107))]) (h1 := hp L (ax_u2 q2.2 106 ((s 84 34).toNat) 2) c e) rfl ?_
      refine RuP.step (pc' := 145) (ls' := [some (.inr (.inr (some 84))), some (.inl x0), some (.inl (s 84 34)), some (.inl (ax_w32 ((s 84 43) - 1)))]) (st' := [.inr (.inr (some 84)), .inl (s 84 34), .inr (.inr (some 107))]) (h1 := hp L (ax_u2 q2.2 106 ((s 84 34).toNat) 2) c e) rfl ?_
      refine RuP.step (pc' := 146) (ls' := [some (.inr (.inr (some 84))), some (.inl x0), some (.inl (s 84 34)), some (.inl (ax_w32 ((s 84 43) - 1)))]) (st' := [.inl 1, .inr (.inr (some 84)), .inl (s 84 34), .inr (.inr (some 107))]) (h1 := hp L (ax_u2 q2.2 106 ((s 84 34).toNat) 2) c e) rfl ?_
      obtain ⟨q13, h1, h⟩ := bd_some h
      refine RuP.cI rfl ((ev_231 h1).up (by decide)) ?_
      obtain ⟨b22, h⟩ := gd_some h
      refine RuP.ast (f := fun t => t == 0) (j := s 84 34) (a := 107) rfl rfl (by decide) rfl rfl b22.1 b22.2 ?_
      refine RuP.step (pc' := 151) (ls' := [some (.inr (.inr (some 84))), some (.inl x0), some (.inl (s 84 34)), some (.inl (ax_w32 ((s 84 43) - 1)))]) (st' := [.inr (.inr (some 84))]) (h1 := hp L (ax_u2 q13.2 107 ((s 84 34).toNat) q13.1) c e) rfl ?_
      refine RuP.step (pc' := 154) (ls' := [some (.inr (.inr (some 84))), some (.inl x0), some (.inl (s 84 34)), some (.inl (ax_w32 ((s 84 43) - 1)))]) (st' := [.inr (.inr (some 108))]) (h1 := hp L (ax_u2 q13.2 107 ((s 84 34).toNat) q13.1) c e) rfl ?_
      refine RuP.step (pc' := 155) (ls' := [some (.inr (.inr (some 84))), some (.inl x0), some (.inl (s 84 34)), some (.inl (ax_w32 ((s 84 43) - 1)))]) (st' := [.inl (s 84 34), .inr (.inr (some 108))]) (h1 := hp L (ax_u2 q13.2 107 ((s 84 34).toNat) q13.1) c e) rfl ?_
      refine RuP.step (pc' := 156) (ls' := [some (.inr (.inr (some 84))), some (.inl x0), some (.inl (s 84 34)), some (.inl (ax_w32 ((s 84 43) - 1)))]) (st' := [.inr (.inr (some 84)), .inl (s 84 34), .inr (.inr (some 108))]) (h1 := hp L (ax_u2 q13.2 107 ((s 84 34).toNat) q13.1) c e) rfl ?_
      refine RuP.step (pc' := 157) (ls' := [some (.inr (.inr (some 84))), some (.inl x0), some (.inl (s 84 34)), some (.inl (ax_w32 ((s 84 43) - 1)))]) (st' := [.inl 2, .inr (.inr (some 84)), .inl (s 84 34), .inr (.inr (some 108))]) (h1 := hp L (ax_u2 q13.2 107 ((s 84 34).toNat) q13.1) c e) rfl ?_
      obtain ⟨q14, h1, h⟩ := bd_some h
      refine RuP.cI rfl ((ev_231 h1).up (by decide)) ?_
      obtain ⟨b23, h⟩ := gd_some h
      refine RuP.ast (f := fun t => t == 0) (j := s 84 34) (a := 108) rfl rfl (by decide) rfl rfl b23.1 b23.2 ?_
      refine RuP.step (pc' := 162) (ls' := [some (.inr (.inr (some 84))), some (.inl x0), some (.inl (s 84 34)), some (.inl (ax_w32 ((s 84 43) - 1)))]) (st' := [.inr (.inr (some 84))]) (h1 := hp L (ax_u2 q14.2 108 ((s 84 34).toNat) q14.1) c e) rfl ?_
      refine RuP.step (pc' := 163) (ls' := [some (.inr (.inr (some 84))), some (.inl x0), some (.inl (s 84 34)), some (.inl (ax_w32 ((s 84 43) - 1)))]) (st' := [.inl (s 84 34), .inr (.inr (some 84))]) (h1 := hp L (ax_u2 q14.2 108 ((s 84 34).toNat) q14.1) c e) rfl ?_
      refine RuP.step (pc' := 166) (ls' := [some (.inr (.inr (some 84))), some (.inl x0), some (.inl (s 84 34)), some (.inl (ax_w32 ((s 84 43) - 1)))]) (st' := []) (h1 := hp L (ax_u2 (ax_u2 q14.2 108 ((s 84 34).toNat) q14.1) 84 46 (s 84 34)) c e) rfl ?_
      refine RuP.step (pc' := 167) (ls' := [some (.inr (.inr (some 84))), some (.inl x0), some (.inl (s 84 34)), some (.inl (ax_w32 ((s 84 43) - 1)))]) (st' := [.inr (.inr (some 84))]) (h1 := hp L (ax_u2 (ax_u2 q14.2 108 ((s 84 34).toNat) q14.1) 84 46 (s 84 34)) c e) rfl ?_
      refine RuP.step (pc' := 168) (ls' := [some (.inr (.inr (some 84))), some (.inl x0), some (.inl (s 84 34)), some (.inl (ax_w32 ((s 84 43) - 1)))]) (st' := [.inl 0, .inr (.inr (some 84))]) (h1 := hp L (ax_u2 (ax_u2 q14.2 108 ((s 84 34).toNat) q14.1) 84 46 (s 84 34)) c e) rfl ?_
      obtain ⟨q15, h1, h⟩ := bd_some h
      refine RuP.cV rfl ((ev_258 h1).up (by decide)) ?_
      refine RuP.step (pc' := 293) (ls' := [some (.inr (.inr (some 84))), some (.inl x0), some (.inl (s 84 34)), some (.inl (ax_w32 ((s 84 43) - 1)))]) (st' := []) (h1 := hp L q15 c e) rfl ?_
      cases h
      exact RuP.dV rfl
  · rw [if_neg h9] at h
    refine RuP.jn rfl h9 ?_
    refine RuP.step (pc' := 87) (ls' := [some (.inr (.inr (some 84))), some (.inl x0), some (.inl (s 84 34)), some (.inl (ax_w32 ((s 84 43) - 1)))]) (st' := [.inr (.inr (some 84))]) (h1 := hp L q1.2 c e) rfl ?_
    refine RuP.step (pc' := 90) (ls' := [some (.inr (.inr (some 84))), some (.inl x0), some (.inl (s 84 34)), some (.inl (ax_w32 ((s 84 43) - 1)))]) (st' := [.inr (.inr (some 106))]) (h1 := hp L q1.2 c e) rfl ?_
    refine RuP.step (pc' := 91) (ls' := [some (.inr (.inr (some 84))), some (.inl x0), some (.inl (s 84 34)), some (.inl (ax_w32 ((s 84 43) - 1)))]) (st' := [.inl (s 84 34), .inr (.inr (some 106))]) (h1 := hp L q1.2 c e) rfl ?_
    refine RuP.step (pc' := 92) (ls' := [some (.inr (.inr (some 84))), some (.inl x0), some (.inl (s 84 34)), some (.inl (ax_w32 ((s 84 43) - 1)))]) (st' := [.inl 1, .inl (s 84 34), .inr (.inr (some 106))]) (h1 := hp L q1.2 c e) rfl ?_
    obtain ⟨b24, h⟩ := gd_some h
    refine RuP.ast (f := fun t => t == 0) (j := s 84 34) (a := 106) rfl rfl (by decide) rfl rfl b24.1 b24.2 ?_
    refine RuP.step (pc' := 94) (ls' := [some (.inr (.inr (some 84))), some (.inl x0), some (.inl (s 84 34)), some (.inl (ax_w32 ((s 84 43) - 1)))]) (st' := [.inr (.inr (some 84))]) (h1 := hp L (ax_u2 q1.2 106 ((s 84 34).toNat) 1) c e) rfl ?_
    refine RuP.step (pc' := 97) (ls' := [some (.inr (.inr (some 84))), some (.inl x0), some (.inl (s 84 34)), some (.inl (ax_w32 ((s 84 43) - 1)))]) (st' := [.inr (.inr (some 111))]) (h1 := hp L (ax_u2 q1.2 106 ((s 84 34).toNat) 1) c e) rfl ?_
    refine RuP.step (pc' := 98) (ls' := [some (.inr (.inr (some 84))), some (.inl x0), some (.inl (s 84 34)), some (.inl (ax_w32 ((s 84 43) - 1)))]) (st' := [.inl (s 84 34), .inr (.inr (some 111))]) (h1 := hp L (ax_u2 q1.2 106 ((s 84 34).toNat) 1) c e) rfl ?_
    refine RuP.step (pc' := 99) (ls' := [some (.inr (.inr (some 84))), some (.inl x0), some (.inl (s 84 34)), some (.inl (ax_w32 ((s 84 43) - 1)))]) (st' := [.inr (.inr (some 84)), .inl (s 84 34), .inr (.inr (some 111))]) (h1 := hp L (ax_u2 q1.2 106 ((s 84 34).toNat) 1) c e) rfl ?_
    refine RuP.step (pc' := 102) (ls' := [some (.inr (.inr (some 84))), some (.inl x0), some (.inl (s 84 34)), some (.inl (ax_w32 ((s 84 43) - 1)))]) (st' := [.inl (q1.2 84 18), .inl (s 84 34), .inr (.inr (some 111))]) (h1 := hp L (ax_u2 q1.2 106 ((s 84 34).toNat) 1) c e) rfl ?_
    obtain ⟨b25, h⟩ := gd_some h
    refine RuP.ast (f := fun t => t == 0) (j := s 84 34) (a := 111) rfl rfl (by decide) rfl rfl b25.1 b25.2 ?_
    refine RuP.step (pc' := 104) (ls' := [some (.inr (.inr (some 84))), some (.inl x0), some (.inl (s 84 34)), some (.inl (ax_w32 ((s 84 43) - 1)))]) (st' := [.inr (.inr (some 84))]) (h1 := hp L (ax_u2 (ax_u2 q1.2 106 ((s 84 34).toNat) 1) 111 ((s 84 34).toNat) (q1.2 84 18)) c e) rfl ?_
    refine RuP.step (pc' := 107) (ls' := [some (.inr (.inr (some 84))), some (.inl x0), some (.inl (s 84 34)), some (.inl (ax_w32 ((s 84 43) - 1)))]) (st' := [.inr (.inr (some 110))]) (h1 := hp L (ax_u2 (ax_u2 q1.2 106 ((s 84 34).toNat) 1) 111 ((s 84 34).toNat) (q1.2 84 18)) c e) rfl ?_
    refine RuP.step (pc' := 108) (ls' := [some (.inr (.inr (some 84))), some (.inl x0), some (.inl (s 84 34)), some (.inl (ax_w32 ((s 84 43) - 1)))]) (st' := [.inl (s 84 34), .inr (.inr (some 110))]) (h1 := hp L (ax_u2 (ax_u2 q1.2 106 ((s 84 34).toNat) 1) 111 ((s 84 34).toNat) (q1.2 84 18)) c e) rfl ?_
    refine RuP.step (pc' := 109) (ls' := [some (.inr (.inr (some 84))), some (.inl x0), some (.inl (s 84 34)), some (.inl (ax_w32 ((s 84 43) - 1)))]) (st' := [.inr (.inr (some 84)), .inl (s 84 34), .inr (.inr (some 110))]) (h1 := hp L (ax_u2 (ax_u2 q1.2 106 ((s 84 34).toNat) 1) 111 ((s 84 34).toNat) (q1.2 84 18)) c e) rfl ?_
    refine RuP.step (pc' := 110) (ls' := [some (.inr (.inr (some 84))), some (.inl x0), some (.inl (s 84 34)), some (.inl (ax_w32 ((s 84 43) - 1)))]) (st' := [.inl x0, .inr (.inr (some 84)), .inl (s 84 34), .inr (.inr (some 110))]) (h1 := hp L (ax_u2 (ax_u2 q1.2 106 ((s 84 34).toNat) 1) 111 ((s 84 34).toNat) (q1.2 84 18)) c e) rfl ?_
    refine RuP.step (pc' := 111) (ls' := [some (.inr (.inr (some 84))), some (.inl x0), some (.inl (s 84 34)), some (.inl (ax_w32 ((s 84 43) - 1)))]) (st' := [.inl (ax_w32 ((s 84 43) - 1)), .inl x0, .inr (.inr (some 84)), .inl (s 84 34), .inr (.inr (some 110))]) (h1 := hp L (ax_u2 (ax_u2 q1.2 106 ((s 84 34).toNat) 1) 111 ((s 84 34).toNat) (q1.2 84 18)) c e) rfl ?_
    obtain ⟨q16, h1, h⟩ := bd_some h
    refine RuP.cI rfl ((ev_257 h1).up (by decide)) ?_
    obtain ⟨b26, h⟩ := gd_some h
    refine RuP.ast (f := fun t => t == 0) (j := s 84 34) (a := 110) rfl rfl (by decide) rfl rfl b26.1 b26.2 ?_
    refine RuP.step (pc' := 116) (ls' := [some (.inr (.inr (some 84))), some (.inl x0), some (.inl (s 84 34)), some (.inl (ax_w32 ((s 84 43) - 1)))]) (st' := [.inr (.inr (some 84))]) (h1 := hp L (ax_u2 q16.2 110 ((s 84 34).toNat) q16.1) c e) rfl ?_
    refine RuP.step (pc' := 117) (ls' := [some (.inr (.inr (some 84))), some (.inl x0), some (.inl (s 84 34)), some (.inl (ax_w32 ((s 84 43) - 1)))]) (st' := [.inl 1, .inr (.inr (some 84))]) (h1 := hp L (ax_u2 q16.2 110 ((s 84 34).toNat) q16.1) c e) rfl ?_
    obtain ⟨q17, h1, h⟩ := bd_some h
    refine RuP.cV rfl ((ev_258 h1).up (by decide)) ?_
    refine RuP.step (pc' := 293) (ls' := [some (.inr (.inr (some 84))), some (.inl x0), some (.inl (s 84 34)), some (.inl (ax_w32 ((s 84 43) - 1)))]) (st' := []) (h1 := hp L q17 c e) rfl ?_
    cases h
    exact RuP.dV rfl
/-- java/lang/String.length()I -/
noncomputable def f_272_2 (s : Sg) : Option Int :=
  ((f_275_2 s).bind fun q1 =>
  some (ax_ishr 49 q1))
theorem ev_272_2 {L c : Nat} {e : Nat → Nat} {s : Sg} {q : Int} (h : f_272_2 s = some q) : EvP 2 272 [.inr (.inr (some 2))] (hp L s c e) (oI L c e (q, s)) := by
  unfold f_272_2 at h
  refine EvP.of (μ := tb_m272) (ls := [some (.inr (.inr (some 2)))]) rfl (Nat.le_of_ble_eq_true rfl) rfl ?_
  refine RuP.step (pc' := 1) (ls' := [some (.inr (.inr (some 2)))]) (st' := [.inr (.inr (some 2))]) (h1 := hp L s c e) rfl ?_
  refine RuP.step (pc' := 4) (ls' := [some (.inr (.inr (some 2)))]) (st' := [.inr (.inr (some 3))]) (h1 := hp L s c e) rfl ?_
  refine RuP.step (pc' := 5) (ls' := [some (.inr (.inr (some 2)))]) (st' := [.inl 49]) (h1 := hp L s c e) rfl ?_
  refine RuP.step (pc' := 6) (ls' := [some (.inr (.inr (some 2)))]) (st' := [.inr (.inr (some 2)), .inl 49]) (h1 := hp L s c e) rfl ?_
  obtain ⟨q1, h1, h⟩ := bd_some h
  refine RuP.cI rfl ((ev_275_2 h1).up (by decide)) ?_
  refine RuP.step (pc' := 10) (ls' := [some (.inr (.inr (some 2)))]) (st' := [.inl (ax_ishr 49 q1)]) (h1 := hp L s c e) rfl ?_
  cases h
  exact RuP.dI rfl
/-- java/lang/String.isLatin1()Z -/
def f_276_4 (s : Sg) : Int :=
  (if ¬ (s 4 1) = 0 then
    0
  else
    1)
theorem ev_276_4 {L c : Nat} {e : Nat → Nat} {s : Sg} : EvP 1 276 [.inr (.inr (some 4))] (hp L s c e) (oI L c e (f_276_4 s, s)) := by
  have key : ∀ q, f_276_4 s = q → RuP 0 tb_m276 0 [some (.inr (.inr (some 4)))] [] (hp L s c e) (oI L c e (q, s)) := by
    intro q h
    unfold f_276_4 at h
    refine RuP.step (pc' := 3) (ls' := [some (.inr (.inr (some 4)))]) (st' := [.inl 1]) (h1 := hp L s c e) rfl ?_
    refine RuP.step (pc' := 6) (ls' := [some (.inr (.inr (some 4)))]) (st' := []) (h1 := hp L s c e) rfl ?_
    refine RuP.step (pc' := 7) (ls' := [some (.inr (.inr (some 4)))]) (st' := [.inr (.inr (some 4))]) (h1 := hp L s c e) rfl ?_
    refine RuP.step (pc' := 10) (ls' := [some (.inr (.inr (some 4)))]) (st' := [.inl (s 4 1)]) (h1 := hp L s c e) rfl ?_
    by_cases h0 : ¬ (s 4 1) = 0
    · rw [if_pos h0] at h
      refine RuP.jy rfl h0 ?_
      refine RuP.step (pc' := 18) (ls' := [some (.inr (.inr (some 4)))]) (st' := [.inl 0]) (h1 := hp L s c e) rfl ?_
      subst h
      exact RuP.dI rfl
    · rw [if_neg h0] at h
      refine RuP.jn rfl h0 ?_
      refine RuP.step (pc' := 14) (ls' := [some (.inr (.inr (some 4)))]) (st' := [.inl 1]) (h1 := hp L s c e) rfl ?_
      refine RuP.step (pc' := 18) (ls' := [some (.inr (.inr (some 4)))]) (st' := [.inl 1]) (h1 := hp L s c e) rfl ?_
      subst h
      exact RuP.dI rfl
  exact EvP.of (μ := tb_m276) (ls := [some (.inr (.inr (some 4)))]) rfl (Nat.le_of_ble_eq_true rfl) rfl (key _ rfl)
/-- MachineText.check()V -/
noncomputable def j_16_58 (s : Sg) : Option Sg :=
  ((f_68 s).bind fun q5 =>
  (if ¬ q5 = 0 then
    some s
  else
    ((f_20 s).bind fun q6 =>
    some q6)))
theorem bl_16_58 {L c : Nat} {e : Nat → Nat} : ∀ (z1 : Int) (s : Sg) (q : Sg), j_16_58 s = some q → RuP 6 tb_m16 58 [some (.inr (.inr (some 27))), some (.inl z1)] [] (hp L s c e) (oV L c e q) := by
  intro z1 s q h
  unfold j_16_58 at h
  refine RuP.step (pc' := 59) (ls' := [some (.inr (.inr (some 27))), some (.inl z1)]) (st' := [.inr (.inr (some 27))]) (h1 := hp L s c e) rfl ?_
  refine RuP.step (pc' := 62) (ls' := [some (.inr (.inr (some 27))), some (.inl z1)]) (st' := [.inr (.inr (some 29))]) (h1 := hp L s c e) rfl ?_
  obtain ⟨q5, h1, h⟩ := bd_some h
  refine RuP.cI rfl ((ev_68 h1).up (by decide)) ?_
  by_cases h0 : ¬ q5 = 0
  · rw [if_pos h0] at h
    refine RuP.jy rfl h0 ?_
    cases h
    exact RuP.dV rfl
  · rw [if_neg h0] at h
    refine RuP.jn rfl h0 ?_
    refine RuP.step (pc' := 69) (ls' := [some (.inr (.inr (some 27))), some (.inl z1)]) (st' := [.inr (.inr (some 27))]) (h1 := hp L s c e) rfl ?_
    refine RuP.step (pc' := 72) (ls' := [some (.inr (.inr (some 27))), some (.inl z1)]) (st' := [.inr (.inr (some 73))]) (h1 := hp L s c e) rfl ?_
    obtain ⟨q6, h1, h⟩ := bd_some h
    refine RuP.cV rfl ((ev_20 h1).up (by decide)) ?_
    cases h
    exact RuP.dV rfl
noncomputable def j_16_41 (s : Sg) : Option Sg :=
  ((f_68 s).bind fun q4 =>
  (if ¬ q4 = 0 then
    j_16_58 s
  else
    ((f_19 s).bind fun q7 =>
    j_16_58 q7)))
theorem bl_16_41 {L c : Nat} {e : Nat → Nat} : ∀ (z1 : Int) (s : Sg) (q : Sg), j_16_41 s = some q → RuP 6 tb_m16 41 [some (.inr (.inr (some 27))), some (.inl z1)] [] (hp L s c e) (oV L c e q) := by
  intro z1 s q h
  unfold j_16_41 at h
  refine RuP.step (pc' := 42) (ls' := [some (.inr (.inr (some 27))), some (.inl z1)]) (st' := [.inr (.inr (some 27))]) (h1 := hp L s c e) rfl ?_
  refine RuP.step (pc' := 45) (ls' := [some (.inr (.inr (some 27))), some (.inl z1)]) (st' := [.inr (.inr (some 29))]) (h1 := hp L s c e) rfl ?_
  obtain ⟨q4, h1, h⟩ := bd_some h
  refine RuP.cI rfl ((ev_68 h1).up (by decide)) ?_
  by_cases h0 : ¬ q4 = 0
  · rw [if_pos h0] at h
    refine RuP.jy rfl h0 ?_
    exact bl_16_58 _ _ _ h
  · rw [if_neg h0] at h
    refine RuP.jn rfl h0 ?_
    refine RuP.step (pc' := 52) (ls' := [some (.inr (.inr (some 27))), some (.inl z1)]) (st' := [.inr (.inr (some 27))]) (h1 := hp L s c e) rfl ?_
    refine RuP.step (pc' := 55) (ls' := [some (.inr (.inr (some 27))), some (.inl z1)]) (st' := [.inr (.inr (some 73))]) (h1 := hp L s c e) rfl ?_
    obtain ⟨q7, h1, h⟩ := bd_some h
    refine RuP.cV rfl ((ev_19 h1).up (by decide)) ?_
    exact bl_16_58 _ _ _ h
noncomputable def j_16_24 (s : Sg) : Option Sg :=
  ((f_68 s).bind fun q3 =>
  (if ¬ q3 = 0 then
    j_16_41 s
  else
    ((f_164 s).bind fun q8 =>
    j_16_41 q8)))
theorem bl_16_24 {L c : Nat} {e : Nat → Nat} : ∀ (z1 : Int) (s : Sg) (q : Sg), j_16_24 s = some q → RuP 6 tb_m16 24 [some (.inr (.inr (some 27))), some (.inl z1)] [] (hp L s c e) (oV L c e q) := by
  intro z1 s q h
  unfold j_16_24 at h
  refine RuP.step (pc' := 25) (ls' := [some (.inr (.inr (some 27))), some (.inl z1)]) (st' := [.inr (.inr (some 27))]) (h1 := hp L s c e) rfl ?_
  refine RuP.step (pc' := 28) (ls' := [some (.inr (.inr (some 27))), some (.inl z1)]) (st' := [.inr (.inr (some 29))]) (h1 := hp L s c e) rfl ?_
  obtain ⟨q3, h1, h⟩ := bd_some h
  refine RuP.cI rfl ((ev_68 h1).up (by decide)) ?_
  by_cases h0 : ¬ q3 = 0
  · rw [if_pos h0] at h
    refine RuP.jy rfl h0 ?_
    exact bl_16_41 _ _ _ h
  · rw [if_neg h0] at h
    refine RuP.jn rfl h0 ?_
    refine RuP.step (pc' := 35) (ls' := [some (.inr (.inr (some 27))), some (.inl z1)]) (st' := [.inr (.inr (some 27))]) (h1 := hp L s c e) rfl ?_
    refine RuP.step (pc' := 38) (ls' := [some (.inr (.inr (some 27))), some (.inl z1)]) (st' := [.inr (.inr (some 74))]) (h1 := hp L s c e) rfl ?_
    obtain ⟨q8, h1, h⟩ := bd_some h
    refine RuP.cV rfl ((ev_164 h1).up (by decide)) ?_
    exact bl_16_41 _ _ _ h
noncomputable def j_16_17 (s : Sg) : Option Sg :=
  ((f_18 s).bind fun q2 =>
  j_16_24 q2)
theorem bl_16_17 {L c : Nat} {e : Nat → Nat} : ∀ (z1 : Int) (s : Sg) (q : Sg), j_16_17 s = some q → RuP 6 tb_m16 17 [some (.inr (.inr (some 27))), some (.inl z1)] [] (hp L s c e) (oV L c e q) := by
  intro z1 s q h
  unfold j_16_17 at h
  refine RuP.step (pc' := 18) (ls' := [some (.inr (.inr (some 27))), some (.inl z1)]) (st' := [.inr (.inr (some 27))]) (h1 := hp L s c e) rfl ?_
  refine RuP.step (pc' := 21) (ls' := [some (.inr (.inr (some 27))), some (.inl z1)]) (st' := [.inr (.inr (some 73))]) (h1 := hp L s c e) rfl ?_
  obtain ⟨q2, h1, h⟩ := bd_some h
  refine RuP.cV rfl ((ev_18 h1).up (by decide)) ?_
  exact bl_16_24 _ _ _ h
noncomputable def f_16 (s : Sg) : Option Sg :=
  ((f_68 s).bind fun q1 =>
  (if q1 = 0 then
    j_16_17 s
  else
    (if q1 ≤ 3 then
      j_16_24 s
    else
      j_16_17 s)))
theorem ev_16 {L c : Nat} {e : Nat → Nat} {s : Sg} {q : Sg} (h : f_16 s = some q) : EvP 7 16 [.inr (.inr (some 27))] (hp L s c e) (oV L c e q) := by
  unfold f_16 at h
  refine EvP.of (μ := tb_m16) (ls := [some (.inr (.inr (some 27))), none]) rfl (Nat.le_of_ble_eq_true rfl) rfl ?_
  refine RuP.step (pc' := 1) (ls' := [some (.inr (.inr (some 27))), none]) (st' := [.inr (.inr (some 27))]) (h1 := hp L s c e) rfl ?_
  refine RuP.step (pc' := 4) (ls' := [some (.inr (.inr (some 27))), none]) (st' := [.inr (.inr (some 29))]) (h1 := hp L s c e) rfl ?_
  obtain ⟨q1, h1, h⟩ := bd_some h
  refine RuP.cI rfl ((ev_68 h1).up (by decide)) ?_
  refine RuP.step (pc' := 8) (ls' := [some (.inr (.inr (some 27))), some (.inl q1)]) (st' := []) (h1 := hp L s c e) rfl ?_
  refine RuP.step (pc' := 9) (ls' := [some (.inr (.inr (some 27))), some (.inl q1)]) (st' := [.inl q1]) (h1 := hp L s c e) rfl ?_
  by_cases h0 : q1 = 0
  · rw [if_pos h0] at h
    refine RuP.jy rfl h0 ?_
    exact bl_16_17 _ _ _ h
  · rw [if_neg h0] at h
    refine RuP.jn rfl h0 ?_
    refine RuP.step (pc' := 13) (ls' := [some (.inr (.inr (some 27))), some (.inl q1)]) (st' := [.inl q1]) (h1 := hp L s c e) rfl ?_
    refine RuP.step (pc' := 14) (ls' := [some (.inr (.inr (some 27))), some (.inl q1)]) (st' := [.inl 3, .inl q1]) (h1 := hp L s c e) rfl ?_
    by_cases h1 : q1 ≤ 3
    · rw [if_pos h1] at h
      refine RuP.jy rfl h1 ?_
      exact bl_16_24 _ _ _ h
    · rw [if_neg h1] at h
      refine RuP.jn rfl h1 ?_
      exact bl_16_17 _ _ _ h
/-- MachineTextModel.helper(I)V -/
noncomputable def j_253_116 (l1 : Int) (s : Sg) : Option Sg :=
  ((f_231 12 s).bind fun q3 =>
  ((f_231 2 q3.2).bind fun q4 =>
  (gd (0 ≤ l1 ∧ l1 < 4100) (
  ((f_231 10 (ax_u2 q4.2 97 l1.toNat q4.1)).bind fun q5 =>
  (gd (0 ≤ l1 ∧ l1 < 4100) (
  ((f_257 l1 0 (ax_u2 q5.2 101 l1.toNat (q5.2 84 18))).bind fun q6 =>
  (gd (0 ≤ l1 ∧ l1 < 4100) (
  ((f_231 7 (ax_u2 q6.2 100 l1.toNat q6.1)).bind fun q7 =>
  some q7.2)))))))))))
theorem bl_253_116 {L c : Nat} {e : Nat → Nat} : ∀ (z2 : Int) (l1 : Int) (s : Sg) (q : Sg), j_253_116 l1 s = some q → RuP 6 tb_m253 116 [some (.inr (.inr (some 84))), some (.inl l1), some (.inl z2)] [] (hp L s c e) (oV L c e q) := by
  intro z2 l1 s q h
  unfold j_253_116 at h
  refine RuP.step (pc' := 117) (ls' := [some (.inr (.inr (some 84))), some (.inl l1), some (.inl z2)]) (st' := [.inr (.inr (some 84))]) (h1 := hp L s c e) rfl ?_
  refine RuP.step (pc' := 119) (ls' := [some (.inr (.inr (some 84))), some (.inl l1), some (.inl z2)]) (st' := [.inl 12, .inr (.inr (some 84))]) (h1 := hp L s c e) rfl ?_
  obtain ⟨q3, h1, h⟩ := bd_some h
  refine RuP.cI rfl ((ev_231 h1).up (by decide)) ?_
  refine RuP.step (pc' := 123) (ls' := [some (.inr (.inr (some 84))), some (.inl l1), some (.inl z2)]) (st' := []) (h1 := hp L q3.2 c e) rfl ?_
  refine RuP.step (pc' := 124) (ls' := [some (.inr (.inr (some 84))), some (.inl l1), some (.inl z2)]) (st' := [.inr (.inr (some 84))]) (h1 := hp L q3.2 c e) rfl ?_
  refine RuP.step (pc' := 127) (ls' := [some (.inr (.inr (some 84))), some (.inl l1), some (.inl z2)]) (st' := [.inr (.inr (some 97))]) (h1 := hp L q3.2 c e) rfl ?_
  refine RuP.step (pc' := 128) (ls' := [some (.inr (.inr (some 84))), some (.inl l1), some (.inl z2)]) (st' := [.inl l1, .inr (.inr (some 97))]) (h1 := hp L q3.2 c e) rfl ?_
  refine RuP.step (pc' := 129) (ls' := [some (.inr (.inr (some 84))), some (.inl l1), some (.inl z2)]) (st' := [.inr (.inr (some 84)), .inl l1, .inr (.inr (some 97))]) (h1 := hp L q3.2 c e) rfl ?_
  refine RuP.step (pc' := 130) (ls' := [some (.inr (.inr (some 84))), some (.inl l1), some (.inl z2)]) (st' := [.inl 2, .inr (.inr (some 84)), .inl l1, .inr (.inr (some 97))]) (h1 := hp L q3.2 c e) rfl ?_
  obtain ⟨q4, h1, h⟩ := bd_some h
  refine RuP.cI rfl ((ev_231 h1).up (by decide)) ?_
  obtain ⟨b0, h⟩ := gd_some h
  refine RuP.ast (f := fun t => t == 0) (j := l1) (a := 97) rfl rfl (by decide) rfl rfl b0.1 b0.2 ?_
  refine RuP.step (pc' := 135) (ls' := [some (.inr (.inr (some 84))), some (.inl l1), some (.inl z2)]) (st' := [.inr (.inr (some 84))]) (h1 := hp L (ax_u2 q4.2 97 l1.toNat q4.1) c e) rfl ?_
  refine RuP.step (pc' := 137) (ls' := [some (.inr (.inr (some 84))), some (.inl l1), some (.inl z2)]) (st' := [.inl 10, .inr (.inr (some 84))]) (h1 := hp L (ax_u2 q4.2 97 l1.toNat q4.1) c e) rfl ?_
  obtain ⟨q5, h1, h⟩ := bd_some h
  refine RuP.cI rfl ((ev_231 h1).up (by decide)) ?_
  refine RuP.step (pc' := 141) (ls' := [some (.inr (.inr (some 84))), some (.inl l1), some (.inl z2)]) (st' := []) (h1 := hp L q5.2 c e) rfl ?_
  refine RuP.step (pc' := 142) (ls' := [some (.inr (.inr (some 84))), some (.inl l1), some (.inl z2)]) (st' := [.inr (.inr (some 84))]) (h1 := hp L q5.2 c e) rfl ?_
  refine RuP.step (pc' := 145) (ls' := [some (.inr (.inr (some 84))), some (.inl l1), some (.inl z2)]) (st' := [.inr (.inr (some 101))]) (h1 := hp L q5.2 c e) rfl ?_
  refine RuP.step (pc' := 146) (ls' := [some (.inr (.inr (some 84))), some (.inl l1), some (.inl z2)]) (st' := [.inl l1, .inr (.inr (some 101))]) (h1 := hp L q5.2 c e) rfl ?_
  refine RuP.step (pc' := 147) (ls' := [some (.inr (.inr (some 84))), some (.inl l1), some (.inl z2)]) (st' := [.inr (.inr (some 84)), .inl l1, .inr (.inr (some 101))]) (h1 := hp L q5.2 c e) rfl ?_
  refine RuP.step (pc' := 150) (ls' := [some (.inr (.inr (some 84))), some (.inl l1), some (.inl z2)]) (st' := [.inl (q5.2 84 18), .inl l1, .inr (.inr (some 101))]) (h1 := hp L q5.2 c e) rfl ?_
  obtain ⟨b1, h⟩ := gd_some h
  refine RuP.ast (f := fun t => t == 0) (j := l1) (a := 101) rfl rfl (by decide) rfl rfl b1.1 b1.2 ?_
  refine RuP.step (pc' := 152) (ls' := [some (.inr (.inr (some 84))), some (.inl l1), some (.inl z2)]) (st' := [.inr (.inr (some 84))]) (h1 := hp L (ax_u2 q5.2 101 l1.toNat (q5.2 84 18)) c e) rfl ?_
  refine RuP.step (pc' := 155) (ls' := [some (.inr (.inr (some 84))), some (.inl l1), some (.inl z2)]) (st' := [.inr (.inr (some 100))]) (h1 := hp L (ax_u2 q5.2 101 l1.toNat (q5.2 84 18)) c e) rfl ?_
  refine RuP.step (pc' := 156) (ls' := [some (.inr (.inr (some 84))), some (.inl l1), some (.inl z2)]) (st' := [.inl l1, .inr (.inr (some 100))]) (h1 := hp L (ax_u2 q5.2 101 l1.toNat (q5.2 84 18)) c e) rfl ?_
  refine RuP.step (pc' := 157) (ls' := [some (.inr (.inr (some 84))), some (.inl l1), some (.inl z2)]) (st' := [.inr (.inr (some 84)), .inl l1, .inr (.inr (some 100))]) (h1 := hp L (ax_u2 q5.2 101 l1.toNat (q5.2 84 18)) c e) rfl ?_
  refine RuP.step (pc' := 158) (ls' := [some (.inr (.inr (some 84))), some (.inl l1), some (.inl z2)]) (st' := [.inl l1, .inr (.inr (some 84)), .inl l1, .inr (.inr (some 100))]) (h1 := hp L (ax_u2 q5.2 101 l1.toNat (q5.2 84 18)) c e) rfl ?_
  refine RuP.step (pc' := 159) (ls' := [some (.inr (.inr (some 84))), some (.inl l1), some (.inl z2)]) (st' := [.inl 0, .inl l1, .inr (.inr (some 84)), .inl l1, .inr (.inr (some 100))]) (h1 := hp L (ax_u2 q5.2 101 l1.toNat (q5.2 84 18)) c e) rfl ?_
  obtain ⟨q6, h1, h⟩ := bd_some h
  refine RuP.cI rfl ((ev_257 h1).up (by decide)) ?_
  obtain ⟨b2, h⟩ := gd_some h
  refine RuP.ast (f := fun t => t == 0) (j := l1) (a := 100) rfl rfl (by decide) rfl rfl b2.1 b2.2 ?_
  refine RuP.step (pc' := 164) (ls' := [some (.inr (.inr (some 84))), some (.inl l1), some (.inl z2)]) (st' := [.inr (.inr (some 84))]) (h1 := hp L (ax_u2 q6.2 100 l1.toNat q6.1) c e) rfl ?_
  refine RuP.step (pc' := 166) (ls' := [some (.inr (.inr (some 84))), some (.inl l1), some (.inl z2)]) (st' := [.inl 7, .inr (.inr (some 84))]) (h1 := hp L (ax_u2 q6.2 100 l1.toNat q6.1) c e) rfl ?_
  obtain ⟨q7, h1, h⟩ := bd_some h
  refine RuP.cI rfl ((ev_231 h1).up (by decide)) ?_
  refine RuP.step (pc' := 170) (ls' := [some (.inr (.inr (some 84))), some (.inl l1), some (.inl z2)]) (st' := []) (h1 := hp L q7.2 c e) rfl ?_
  cases h
  exact RuP.dV rfl
noncomputable def j_253_47 : Nat → Int → Int → Sg → Option Sg
  | 0, _, _, _ => none
  | F + 1, l1, l2, s =>
    (if ¬ (s 84 6) = 0 then
      j_253_116 l1 s
    else
      (if l2 = 0 then
        j_253_116 l1 s
      else
        ((f_231 1 s).bind fun q8 =>
        (gd (0 ≤ s 84 31 ∧ s 84 31 < 8200) (
        ((f_231 2 (ax_u2 q8.2 104 ((s 84 31).toNat) q8.1)).bind fun q9 =>
        (gd (0 ≤ q8.2 84 31 ∧ q8.2 84 31 < 8200) (
        (gd (0 ≤ l1 ∧ l1 < 4100) (
        (gd (0 ≤ l1 ∧ l1 < 4100) (
        (gd (g_252 8 (ax_u2 (ax_u2 (ax_u2 q9.2 105 ((q8.2 84 31).toNat) q9.1) 84 31 (ax_w32 ((q9.2 84 31) + 1))) 99 l1.toNat (ax_w32 ((q9.2 99 l1.toNat) + 1)))) (
        ((some (f_252 8 (ax_u2 (ax_u2 (ax_u2 q9.2 105 ((q8.2 84 31).toNat) q9.1) 84 31 (ax_w32 ((q9.2 84 31) + 1))) 99 l1.toNat (ax_w32 ((q9.2 99 l1.toNat) + 1))))).bind fun q10 =>
        (j_253_47 F) l1 q10.1 q10.2)))))))))))))))
theorem bl_253_47 {L c : Nat} {e : Nat → Nat} : ∀ (F : Nat) (l1 l2 : Int) (s : Sg) (q : Sg), j_253_47 F l1 l2 s = some q → RuP 6 tb_m253 47 [some (.inr (.inr (some 84))), some (.inl l1), some (.inl l2)] [] (hp L s c e) (oV L c e q) := by
  intro F
  induction F with
  | zero =>
    intro l1 l2 s q h
    rw [j_253_47] at h
    cases h
  | succ F ih =>
    intro l1 l2 s q h
    rw [j_253_47] at h
    refine RuP.step (pc' := 48) (ls' := [some (.inr (.inr (some 84))), some (.inl l1), some (.inl l2)]) (st' := [.inr (.inr (some 84))]) (h1 := hp L s c e) rfl ?_
    refine RuP.step (pc' := 51) (ls' := [some (.inr (.inr (some 84))), some (.inl l1), some (.inl l2)]) (st' := [.inl (s 84 6)]) (h1 := hp L s c e) rfl ?_
    by_cases h0 : ¬ (s 84 6) = 0
    · rw [if_pos h0] at h
      refine RuP.jy rfl h0 ?_
      exact bl_253_116 _ _ _ _ h
    · rw [if_neg h0] at h
      refine RuP.jn rfl h0 ?_
      refine RuP.step (pc' := 55) (ls' := [some (.inr (.inr (some 84))), some (.inl l1), some (.inl l2)]) (st' := [.inl l2]) (h1 := hp L s c e) rfl ?_
      by_cases h1 : l2 = 0
      · rw [if_pos h1] at h
        refine RuP.jy rfl h1 ?_
        exact bl_253_116 _ _ _ _ h
      · rw [if_neg h1] at h
        refine RuP.jn rfl h1 ?_
        refine RuP.step (pc' := 59) (ls' := [some (.inr (.inr (some 84))), some (.inl l1), some (.inl l2)]) (st' := [.inr (.inr (some 84))]) (h1 := hp L s c e) rfl ?_
        refine RuP.step (pc' := 62) (ls' := [some (.inr (.inr (some 84))), some (.inl l1), some (.inl l2)]) (st' := [.inr (.inr (some 104))]) (h1 := hp L s c e) rfl ?_
        refine RuP.step (pc' := 63) (ls' := [some (.inr (.inr (some 84))), some (.inl l1), some (.inl l2)]) (st' := [.inr (.inr (some 84)), .inr (.inr (some 104))]) (h1 := hp L s c e) rfl ?_
        refine RuP.step (pc' := 66) (ls' := [some (.inr (.inr (some 84))), some (.inl l1), some (.inl l2)]) (st' := [.inl (s 84 31), .inr (.inr (some 104))]) (h1 := hp L s c e) rfl ?_
        refine RuP.step (pc' := 67) (ls' := [some (.inr (.inr (some 84))), some (.inl l1), some (.inl l2)]) (st' := [.inr (.inr (some 84)), .inl (s 84 31), .inr (.inr (some 104))]) (h1 := hp L s c e) rfl ?_
        refine RuP.step (pc' := 68) (ls' := [some (.inr (.inr (some 84))), some (.inl l1), some (.inl l2)]) (st' := [.inl 1, .inr (.inr (some 84)), .inl (s 84 31), .inr (.inr (some 104))]) (h1 := hp L s c e) rfl ?_
        obtain ⟨q8, h1, h⟩ := bd_some h
        refine RuP.cI rfl ((ev_231 h1).up (by decide)) ?_
        obtain ⟨b2, h⟩ := gd_some h
        refine RuP.ast (f := fun t => t == 0) (j := s 84 31) (a := 104) rfl rfl (by decide) rfl rfl b2.1 b2.2 ?_
        refine RuP.step (pc' := 73) (ls' := [some (.inr (.inr (some 84))), some (.inl l1), some (.inl l2)]) (st' := [.inr (.inr (some 84))]) (h1 := hp L (ax_u2 q8.2 104 ((s 84 31).toNat) q8.1) c e) rfl ?_
        refine RuP.step (pc' := 76) (ls' := [some (.inr (.inr (some 84))), some (.inl l1), some (.inl l2)]) (st' := [.inr (.inr (some 105))]) (h1 := hp L (ax_u2 q8.2 104 ((s 84 31).toNat) q8.1) c e) rfl ?_
        refine RuP.step (pc' := 77) (ls' := [some (.inr (.inr (some 84))), some (.inl l1), some (.inl l2)]) (st' := [.inr (.inr (some 84)), .inr (.inr (some 105))]) (h1 := hp L (ax_u2 q8.2 104 ((s 84 31).toNat) q8.1) c e) rfl ?_
        refine RuP.step (pc' := 80) (ls' := [some (.inr (.inr (some 84))), some (.inl l1), some (.inl l2)]) (st' := [.inl (q8.2 84 31), .inr (.inr (some 105))]) (h1 := hp L (ax_u2 q8.2 104 ((s 84 31).toNat) q8.1) c e) rfl ?_
        refine RuP.step (pc' := 81) (ls' := [some (.inr (.inr (some 84))), some (.inl l1), some (.inl l2)]) (st' := [.inr (.inr (some 84)), .inl (q8.2 84 31), .inr (.inr (some 105))]) (h1 := hp L (ax_u2 q8.2 104 ((s 84 31).toNat) q8.1) c e) rfl ?_
        refine RuP.step (pc' := 82) (ls' := [some (.inr (.inr (some 84))), some (.inl l1), some (.inl l2)]) (st' := [.inl 2, .inr (.inr (some 84)), .inl (q8.2 84 31), .inr (.inr (some 105))]) (h1 := hp L (ax_u2 q8.2 104 ((s 84 31).toNat) q8.1) c e) rfl ?_
        obtain ⟨q9, h1, h⟩ := bd_some h
        refine RuP.cI rfl ((ev_231 h1).up (by decide)) ?_
        obtain ⟨b3, h⟩ := gd_some h
        refine RuP.ast (f := fun t => t == 0) (j := q8.2 84 31) (a := 105) rfl rfl (by decide) rfl rfl b3.1 b3.2 ?_
        refine RuP.step (pc' := 87) (ls' := [some (.inr (.inr (some 84))), some (.inl l1), some (.inl l2)]) (st' := [.inr (.inr (some 84))]) (h1 := hp L (ax_u2 q9.2 105 ((q8.2 84 31).toNat) q9.1) c e) rfl ?_
        refine RuP.step (pc' := 88) (ls' := [some (.inr (.inr (some 84))), some (.inl l1), some (.inl l2)]) (st' := [.inr (.inr (some 84)), .inr (.inr (some 84))]) (h1 := hp L (ax_u2 q9.2 105 ((q8.2 84 31).toNat) q9.1) c e) rfl ?_
        refine RuP.step (pc' := 91) (ls' := [some (.inr (.inr (some 84))), some (.inl l1), some (.inl l2)]) (st' := [.inl (q9.2 84 31), .inr (.inr (some 84))]) (h1 := hp L (ax_u2 q9.2 105 ((q8.2 84 31).toNat) q9.1) c e) rfl ?_
        refine RuP.step (pc' := 92) (ls' := [some (.inr (.inr (some 84))), some (.inl l1), some (.inl l2)]) (st' := [.inl 1, .inl (q9.2 84 31), .inr (.inr (some 84))]) (h1 := hp L (ax_u2 q9.2 105 ((q8.2 84 31).toNat) q9.1) c e) rfl ?_
        refine RuP.step (pc' := 93) (ls' := [some (.inr (.inr (some 84))), some (.inl l1), some (.inl l2)]) (st' := [.inl (ax_w32 ((q9.2 84 31) + 1)), .inr (.inr (some 84))]) (h1 := hp L (ax_u2 q9.2 105 ((q8.2 84 31).toNat) q9.1) c e) rfl ?_
        refine RuP.step (pc' := 96) (ls' := [some (.inr (.inr (some 84))), some (.inl l1), some (.inl l2)]) (st' := []) (h1 := hp L (ax_u2 (ax_u2 q9.2 105 ((q8.2 84 31).toNat) q9.1) 84 31 (ax_w32 ((q9.2 84 31) + 1))) c e) rfl ?_
        refine RuP.step (pc' := 97) (ls' := [some (.inr (.inr (some 84))), some (.inl l1), some (.inl l2)]) (st' := [.inr (.inr (some 84))]) (h1 := hp L (ax_u2 (ax_u2 q9.2 105 ((q8.2 84 31).toNat) q9.1) 84 31 (ax_w32 ((q9.2 84 31) + 1))) c e) rfl ?_
        refine RuP.step (pc' := 100) (ls' := [some (.inr (.inr (some 84))), some (.inl l1), some (.inl l2)]) (st' := [.inr (.inr (some 99))]) (h1 := hp L (ax_u2 (ax_u2 q9.2 105 ((q8.2 84 31).toNat) q9.1) 84 31 (ax_w32 ((q9.2 84 31) + 1))) c e) rfl ?_
        refine RuP.step (pc' := 101) (ls' := [some (.inr (.inr (some 84))), some (.inl l1), some (.inl l2)]) (st' := [.inl l1, .inr (.inr (some 99))]) (h1 := hp L (ax_u2 (ax_u2 q9.2 105 ((q8.2 84 31).toNat) q9.1) 84 31 (ax_w32 ((q9.2 84 31) + 1))) c e) rfl ?_
        refine RuP.step (pc' := 102) (ls' := [some (.inr (.inr (some 84))), some (.inl l1), some (.inl l2)]) (st' := [.inl l1, .inr (.inr (some 99)), .inl l1, .inr (.inr (some 99))]) (h1 := hp L (ax_u2 (ax_u2 q9.2 105 ((q8.2 84 31).toNat) q9.1) 84 31 (ax_w32 ((q9.2 84 31) + 1))) c e) rfl ?_
        obtain ⟨b4, h⟩ := gd_some h
        refine RuP.ald (f := fun t => t == 0) (j := l1) (a := 99) rfl rfl b4.1 b4.2 ?_
        refine RuP.step (pc' := 104) (ls' := [some (.inr (.inr (some 84))), some (.inl l1), some (.inl l2)]) (st' := [.inl 1, .inl (q9.2 99 l1.toNat), .inl l1, .inr (.inr (some 99))]) (h1 := hp L (ax_u2 (ax_u2 q9.2 105 ((q8.2 84 31).toNat) q9.1) 84 31 (ax_w32 ((q9.2 84 31) + 1))) c e) rfl ?_
        refine RuP.step (pc' := 105) (ls' := [some (.inr (.inr (some 84))), some (.inl l1), some (.inl l2)]) (st' := [.inl (ax_w32 ((q9.2 99 l1.toNat) + 1)), .inl l1, .inr (.inr (some 99))]) (h1 := hp L (ax_u2 (ax_u2 q9.2 105 ((q8.2 84 31).toNat) q9.1) 84 31 (ax_w32 ((q9.2 84 31) + 1))) c e) rfl ?_
        obtain ⟨b5, h⟩ := gd_some h
        refine RuP.ast (f := fun t => t == 0) (j := l1) (a := 99) rfl rfl (by decide) rfl rfl b5.1 b5.2 ?_
        refine RuP.step (pc' := 107) (ls' := [some (.inr (.inr (some 84))), some (.inl l1), some (.inl l2)]) (st' := [.inr (.inr (some 84))]) (h1 := hp L (ax_u2 (ax_u2 (ax_u2 q9.2 105 ((q8.2 84 31).toNat) q9.1) 84 31 (ax_w32 ((q9.2 84 31) + 1))) 99 l1.toNat (ax_w32 ((q9.2 99 l1.toNat) + 1))) c e) rfl ?_
        refine RuP.step (pc' := 109) (ls' := [some (.inr (.inr (some 84))), some (.inl l1), some (.inl l2)]) (st' := [.inl 8, .inr (.inr (some 84))]) (h1 := hp L (ax_u2 (ax_u2 (ax_u2 q9.2 105 ((q8.2 84 31).toNat) q9.1) 84 31 (ax_w32 ((q9.2 84 31) + 1))) 99 l1.toNat (ax_w32 ((q9.2 99 l1.toNat) + 1))) c e) rfl ?_
        obtain ⟨b6, h⟩ := gd_some h
        obtain ⟨q10, h1, h⟩ := bd_some h
        refine RuP.cIe h1 rfl (EvP.ip ((ev_252 8 b6).up (by decide))) ?_
        refine RuP.step (pc' := 113) (ls' := [some (.inr (.inr (some 84))), some (.inl l1), some (.inl q10.1)]) (st' := []) (h1 := hp L q10.2 c e) rfl ?_
        refine RuP.step (pc' := 47) (ls' := [some (.inr (.inr (some 84))), some (.inl l1), some (.inl q10.1)]) (st' := []) (h1 := hp L q10.2 c e) rfl ?_
        exact ih _ _ _ _ h
noncomputable def j_253_46 (l1 t0 : Int) (s : Sg) : Option Sg :=
  j_253_47 FU l1 t0 s
theorem bl_253_46 {L c : Nat} {e : Nat → Nat} : ∀ (d2 : Option ax_V) (l1 t0 : Int) (s : Sg) (q : Sg), j_253_46 l1 t0 s = some q → RuP 6 tb_m253 46 [some (.inr (.inr (some 84))), some (.inl l1), d2] [.inl t0] (hp L s c e) (oV L c e q) := by
  intro d2 l1 t0 s q h
  unfold j_253_46 at h
  refine RuP.step (pc' := 47) (ls' := [some (.inr (.inr (some 84))), some (.inl l1), some (.inl t0)]) (st' := []) (h1 := hp L s c e) rfl ?_
  exact bl_253_47 FU _ _ _ _ h
noncomputable def j_253_45 (l1 : Int) (s : Sg) : Option Sg :=
  j_253_46 l1 0 s
theorem bl_253_45 {L c : Nat} {e : Nat → Nat} : ∀ (d2 : Option ax_V) (l1 : Int) (s : Sg) (q : Sg), j_253_45 l1 s = some q → RuP 6 tb_m253 45 [some (.inr (.inr (some 84))), some (.inl l1), d2] [] (hp L s c e) (oV L c e q) := by
  intro d2 l1 s q h
  unfold j_253_45 at h
  refine RuP.step (pc' := 46) (ls' := [some (.inr (.inr (some 84))), some (.inl l1), d2]) (st' := [.inl 0]) (h1 := hp L s c e) rfl ?_
  exact bl_253_46 _ _ _ _ _ h
noncomputable def f_253 (x0 : Int) (s : Sg) : Option Sg :=
  (gd (0 ≤ x0 ∧ x0 < 4100) (
  ((f_231 1 (ax_u2 s 94 x0.toNat 2)).bind fun q1 =>
  (gd (0 ≤ x0 ∧ x0 < 4100) (
  ((f_231 11 (ax_u2 q1.2 95 x0.toNat q1.1)).bind fun q2 =>
  (if ¬ (q2.2 84 6) = 0 then
    j_253_45 x0 q2.2
  else
    (gd (g_232 12 q2.2) (
    j_253_46 x0 ((if ¬ (f_232 12 q2.2) = 0 then 0 else 1) : Int) q2.2)))))))))
theorem ev_253 {L c : Nat} {e : Nat → Nat} {s : Sg} {x0 : Int} {q : Sg} (h : f_253 x0 s = some q) : EvP 7 253 [.inr (.inr (some 84)), .inl x0] (hp L s c e) (oV L c e q) := by
  unfold f_253 at h
  refine EvP.of (μ := tb_m253) (ls := [some (.inr (.inr (some 84))), some (.inl x0), none]) rfl (Nat.le_of_ble_eq_true rfl) rfl ?_
  refine RuP.step (pc' := 1) (ls' := [some (.inr (.inr (some 84))), some (.inl x0), none]) (st' := [.inr (.inr (some 84))]) (h1 := hp L s c e) rfl ?_
  refine RuP.step (pc' := 4) (ls' := [some (.inr (.inr (some 84))), some (.inl x0), none]) (st' := [.inr (.inr (some 94))]) (h1 := hp L s c e) rfl ?_
  refine RuP.step (pc' := 5) (ls' := [some (.inr (.inr (some 84))), some (.inl x0), none]) (st' := [.inl x0, .inr (.inr (some 94))]) (h1 := hp L s c e) rfl ?_
  refine RuP.step (pc' := 6) (ls' := [some (.inr (.inr (some 84))), some (.inl x0), none]) (st' := [.inl 2, .inl x0, .inr (.inr (some 94))]) (h1 := hp L s c e) rfl ?_
  obtain ⟨b0, h⟩ := gd_some h
  refine RuP.ast (f := fun t => t == 0) (j := x0) (a := 94) rfl rfl (by decide) rfl rfl b0.1 b0.2 ?_
  refine RuP.step (pc' := 8) (ls' := [some (.inr (.inr (some 84))), some (.inl x0), none]) (st' := [.inr (.inr (some 84))]) (h1 := hp L (ax_u2 s 94 x0.toNat 2) c e) rfl ?_
  refine RuP.step (pc' := 11) (ls' := [some (.inr (.inr (some 84))), some (.inl x0), none]) (st' := [.inr (.inr (some 95))]) (h1 := hp L (ax_u2 s 94 x0.toNat 2) c e) rfl ?_
  refine RuP.step (pc' := 12) (ls' := [some (.inr (.inr (some 84))), some (.inl x0), none]) (st' := [.inl x0, .inr (.inr (some 95))]) (h1 := hp L (ax_u2 s 94 x0.toNat 2) c e) rfl ?_
  refine RuP.step (pc' := 13) (ls' := [some (.inr (.inr (some 84))), some (.inl x0), none]) (st' := [.inr (.inr (some 84)), .inl x0, .inr (.inr (some 95))]) (h1 := hp L (ax_u2 s 94 x0.toNat 2) c e) rfl ?_
  refine RuP.step (pc' := 14) (ls' := [some (.inr (.inr (some 84))), some (.inl x0), none]) (st' := [.inl 1, .inr (.inr (some 84)), .inl x0, .inr (.inr (some 95))]) (h1 := hp L (ax_u2 s 94 x0.toNat 2) c e) rfl ?_
  obtain ⟨q1, h1, h⟩ := bd_some h
  refine RuP.cI rfl ((ev_231 h1).up (by decide)) ?_
  obtain ⟨b1, h⟩ := gd_some h
  refine RuP.ast (f := fun t => t == 0) (j := x0) (a := 95) rfl rfl (by decide) rfl rfl b1.1 b1.2 ?_
  refine RuP.step (pc' := 19) (ls' := [some (.inr (.inr (some 84))), some (.inl x0), none]) (st' := [.inr (.inr (some 84))]) (h1 := hp L (ax_u2 q1.2 95 x0.toNat q1.1) c e) rfl ?_
  refine RuP.step (pc' := 21) (ls' := [some (.inr (.inr (some 84))), some (.inl x0), none]) (st' := [.inl 11, .inr (.inr (some 84))]) (h1 := hp L (ax_u2 q1.2 95 x0.toNat q1.1) c e) rfl ?_
  obtain ⟨q2, h1, h⟩ := bd_some h
  refine RuP.cI rfl ((ev_231 h1).up (by decide)) ?_
  refine RuP.step (pc' := 25) (ls' := [some (.inr (.inr (some 84))), some (.inl x0), none]) (st' := []) (h1 := hp L q2.2 c e) rfl ?_
  refine RuP.step (pc' := 26) (ls' := [some (.inr (.inr (some 84))), some (.inl x0), none]) (st' := [.inr (.inr (some 84))]) (h1 := hp L q2.2 c e) rfl ?_
  refine RuP.step (pc' := 29) (ls' := [some (.inr (.inr (some 84))), some (.inl x0), none]) (st' := [.inl (q2.2 84 6)]) (h1 := hp L q2.2 c e) rfl ?_
  by_cases h2 : ¬ (q2.2 84 6) = 0
  · rw [if_pos h2] at h
    refine RuP.jy rfl h2 ?_
    exact bl_253_45 _ _ _ _ h
  · rw [if_neg h2] at h
    refine RuP.jn rfl h2 ?_
    refine RuP.step (pc' := 33) (ls' := [some (.inr (.inr (some 84))), some (.inl x0), none]) (st' := [.inr (.inr (some 84))]) (h1 := hp L q2.2 c e) rfl ?_
    refine RuP.step (pc' := 35) (ls' := [some (.inr (.inr (some 84))), some (.inl x0), none]) (st' := [.inl 12, .inr (.inr (some 84))]) (h1 := hp L q2.2 c e) rfl ?_
    obtain ⟨b3, h⟩ := gd_some h
    refine RuP.cI rfl (EvP.i ((ev_232 12 b3).up (by decide))) ?_
    have J5 : ∀ v4_0 : Int, v4_0 = ((if ¬ (f_232 12 q2.2) = 0 then 0 else 1) : Int) → RuP 6 tb_m253 46 [some (.inr (.inr (some 84))), some (.inl x0), none] [.inl v4_0] (hp L q2.2 c e) (oV L c e q) := by
      intro v4_0 ev4_0
      subst ev4_0
      exact bl_253_46 _ _ _ _ _ h
    by_cases h5 : ¬ (f_232 12 q2.2) = 0
    · refine RuP.jy rfl h5 ?_
      refine RuP.step (pc' := 46) (ls' := [some (.inr (.inr (some 84))), some (.inl x0), none]) (st' := [.inl 0]) (h1 := hp L q2.2 c e) rfl ?_
      exact J5 _ (by simp only [if_pos h5])
    · refine RuP.jn rfl h5 ?_
      refine RuP.step (pc' := 42) (ls' := [some (.inr (.inr (some 84))), some (.inl x0), none]) (st' := [.inl 1]) (h1 := hp L q2.2 c e) rfl ?_
      refine RuP.step (pc' := 46) (ls' := [some (.inr (.inr (some 84))), some (.inl x0), none]) (st' := [.inl 1]) (h1 := hp L q2.2 c e) rfl ?_
      exact J5 _ (by simp only [if_neg h5])
/-- MachineTextModel.body(I)V -/
noncomputable def j_254_97 (k10 : (Int → Sg → Option Sg)) (l1 : Int) (s : Sg) : Option Sg :=
  k10 l1 s
theorem bl_254_97 {L c : Nat} {e : Nat → Nat} {k10 : (Int → Sg → Option Sg)} (hk10 : ∀ (d2 : Option ax_V) (l1 : Int) (s : Sg) (q : Sg), k10 l1 s = some q → RuP 7 tb_m254 10 [some (.inr (.inr (some 84))), some (.inl l1), d2] [] (hp L s c e) (oV L c e q)) : ∀ (z2 : Int) (l1 : Int) (s : Sg) (q : Sg), j_254_97 k10 l1 s = some q → RuP 7 tb_m254 97 [some (.inr (.inr (some 84))), some (.inl l1), some (.inl z2)] [] (hp L s c e) (oV L c e q) := by
  intro z2 l1 s q h
  unfold j_254_97 at h
  refine RuP.step (pc' := 10) (ls' := [some (.inr (.inr (some 84))), some (.inl l1), some (.inl z2)]) (st' := []) (h1 := hp L s c e) rfl ?_
  exact hk10 _ _ _ _ h
noncomputable def j_254_76 (k10 : (Int → Sg → Option Sg)) (l1 l2 t0 : Int) (s : Sg) : Option Sg :=
  (if l2 = 0 then
    j_254_97 k10 l1 (ax_u2 s 84 46 t0)
  else
    (gd (g_252 36 (ax_u2 s 84 46 t0)) (
    ((some (f_252 36 (ax_u2 s 84 46 t0))).bind fun q4 =>
    (if q4.1 = 0 then
      j_254_97 k10 l1 q4.2
    else
      ((f_258 0 q4.2).bind fun q5 =>
      j_254_97 k10 l1 q5))))))
theorem bl_254_76 {L c : Nat} {e : Nat → Nat} {k10 : (Int → Sg → Option Sg)} (hk10 : ∀ (d2 : Option ax_V) (l1 : Int) (s : Sg) (q : Sg), k10 l1 s = some q → RuP 7 tb_m254 10 [some (.inr (.inr (some 84))), some (.inl l1), d2] [] (hp L s c e) (oV L c e q)) : ∀ (l1 l2 t0 : Int) (s : Sg) (q : Sg), j_254_76 k10 l1 l2 t0 s = some q → RuP 7 tb_m254 76 [some (.inr (.inr (some 84))), some (.inl l1), some (.inl l2)] [.inl t0, .inr (.inr (some 84))] (hp L s c e) (oV L c e q) := by
  intro l1 l2 t0 s q h
  unfold j_254_76 at h
  refine RuP.step (pc' := 79) (ls' := [some (.inr (.inr (some 84))), some (.inl l1), some (.inl l2)]) (st' := []) (h1 := hp L (ax_u2 s 84 46 t0) c e) rfl ?_
  refine RuP.step (pc' := 80) (ls' := [some (.inr (.inr (some 84))), some (.inl l1), some (.inl l2)]) (st' := [.inl l2]) (h1 := hp L (ax_u2 s 84 46 t0) c e) rfl ?_
  by_cases h0 : l2 = 0
  · rw [if_pos h0] at h
    refine RuP.jy rfl h0 ?_
    exact bl_254_97 hk10 _ _ _ _ h
  · rw [if_neg h0] at h
    refine RuP.jn rfl h0 ?_
    refine RuP.step (pc' := 84) (ls' := [some (.inr (.inr (some 84))), some (.inl l1), some (.inl l2)]) (st' := [.inr (.inr (some 84))]) (h1 := hp L (ax_u2 s 84 46 t0) c e) rfl ?_
    refine RuP.step (pc' := 86) (ls' := [some (.inr (.inr (some 84))), some (.inl l1), some (.inl l2)]) (st' := [.inl 36, .inr (.inr (some 84))]) (h1 := hp L (ax_u2 s 84 46 t0) c e) rfl ?_
    obtain ⟨b1, h⟩ := gd_some h
    obtain ⟨q4, h1, h⟩ := bd_some h
    refine RuP.cIe h1 rfl (EvP.ip ((ev_252 36 b1).up (by decide))) ?_
    by_cases h2 : q4.1 = 0
    · rw [if_pos h2] at h
      refine RuP.jy rfl h2 ?_
      exact bl_254_97 hk10 _ _ _ _ h
    · rw [if_neg h2] at h
      refine RuP.jn rfl h2 ?_
      refine RuP.step (pc' := 93) (ls' := [some (.inr (.inr (some 84))), some (.inl l1), some (.inl l2)]) (st' := [.inr (.inr (some 84))]) (h1 := hp L q4.2 c e) rfl ?_
      refine RuP.step (pc' := 94) (ls' := [some (.inr (.inr (some 84))), some (.inl l1), some (.inl l2)]) (st' := [.inl 0, .inr (.inr (some 84))]) (h1 := hp L q4.2 c e) rfl ?_
      obtain ⟨q5, h1, h⟩ := bd_some h
      refine RuP.cV rfl ((ev_258 h1).up (by decide)) ?_
      exact bl_254_97 hk10 _ _ _ _ h
noncomputable def j_254_10 : Nat → Int → Sg → Option Sg
  | 0, _, _ => none
  | F + 1, l1, s =>
    (if ¬ (s 84 6) = 0 then
      some s
    else
      (if s 84 43 ≤ 0 then
        some s
      else
        (gd (g_252 14 s) (
        ((some (f_252 14 s)).bind fun q2 =>
        (if q2.1 = 0 then
          ((f_259 l1 q2.2).bind fun q3 =>
          (j_254_10 F) l1 q3)
        else
          (gd (0 ≤ ax_w32 ((q2.2 84 43) - 1) ∧ ax_w32 ((q2.2 84 43) - 1) < 100) (
          (if ax_w32 ((q2.2 84 43) - 1) ≤ 0 then
            j_254_76 (j_254_10 F) l1 (q2.2 114 ((ax_w32 ((q2.2 84 43) - 1)).toNat)) (-1) (ax_u2 q2.2 84 43 (ax_w32 ((q2.2 84 43) - 1)))
          else
            (gd (0 ≤ ax_w32 ((ax_w32 ((q2.2 84 43) - 1)) - 1) ∧ ax_w32 ((ax_w32 ((q2.2 84 43) - 1)) - 1) < 100) (
            j_254_76 (j_254_10 F) l1 (q2.2 114 ((ax_w32 ((q2.2 84 43) - 1)).toNat)) (q2.2 115 ((ax_w32 ((ax_w32 ((q2.2 84 43) - 1)) - 1)).toNat)) (ax_u2 q2.2 84 43 (ax_w32 ((q2.2 84 43) - 1))))))))))))))
theorem bl_254_10 {L c : Nat} {e : Nat → Nat} : ∀ (F : Nat) (d2 : Option ax_V) (l1 : Int) (s : Sg) (q : Sg), j_254_10 F l1 s = some q → RuP 7 tb_m254 10 [some (.inr (.inr (some 84))), some (.inl l1), d2] [] (hp L s c e) (oV L c e q) := by
  intro F
  induction F with
  | zero =>
    intro d2 l1 s q h
    rw [j_254_10] at h
    cases h
  | succ F ih =>
    intro d2 l1 s q h
    rw [j_254_10] at h
    refine RuP.step (pc' := 11) (ls' := [some (.inr (.inr (some 84))), some (.inl l1), d2]) (st' := [.inr (.inr (some 84))]) (h1 := hp L s c e) rfl ?_
    refine RuP.step (pc' := 14) (ls' := [some (.inr (.inr (some 84))), some (.inl l1), d2]) (st' := [.inl (s 84 6)]) (h1 := hp L s c e) rfl ?_
    by_cases h0 : ¬ (s 84 6) = 0
    · rw [if_pos h0] at h
      refine RuP.jy rfl h0 ?_
      cases h
      exact RuP.dV rfl
    · rw [if_neg h0] at h
      refine RuP.jn rfl h0 ?_
      refine RuP.step (pc' := 18) (ls' := [some (.inr (.inr (some 84))), some (.inl l1), d2]) (st' := [.inr (.inr (some 84))]) (h1 := hp L s c e) rfl ?_
      refine RuP.step (pc' := 21) (ls' := [some (.inr (.inr (some 84))), some (.inl l1), d2]) (st' := [.inl (s 84 43)]) (h1 := hp L s c e) rfl ?_
      by_cases h1 : s 84 43 ≤ 0
      · rw [if_pos h1] at h
        refine RuP.jy rfl h1 ?_
        cases h
        exact RuP.dV rfl
      · rw [if_neg h1] at h
        refine RuP.jn rfl h1 ?_
        refine RuP.step (pc' := 25) (ls' := [some (.inr (.inr (some 84))), some (.inl l1), d2]) (st' := [.inr (.inr (some 84))]) (h1 := hp L s c e) rfl ?_
        refine RuP.step (pc' := 27) (ls' := [some (.inr (.inr (some 84))), some (.inl l1), d2]) (st' := [.inl 14, .inr (.inr (some 84))]) (h1 := hp L s c e) rfl ?_
        obtain ⟨b2, h⟩ := gd_some h
        obtain ⟨q2, h1, h⟩ := bd_some h
        refine RuP.cIe h1 rfl (EvP.ip ((ev_252 14 b2).up (by decide))) ?_
        by_cases h3 : q2.1 = 0
        · rw [if_pos h3] at h
          refine RuP.jy rfl h3 ?_
          refine RuP.step (pc' := 101) (ls' := [some (.inr (.inr (some 84))), some (.inl l1), d2]) (st' := [.inr (.inr (some 84))]) (h1 := hp L q2.2 c e) rfl ?_
          refine RuP.step (pc' := 102) (ls' := [some (.inr (.inr (some 84))), some (.inl l1), d2]) (st' := [.inl l1, .inr (.inr (some 84))]) (h1 := hp L q2.2 c e) rfl ?_
          obtain ⟨q3, h1, h⟩ := bd_some h
          refine RuP.cV rfl ((ev_259 h1).up (by decide)) ?_
          refine RuP.step (pc' := 10) (ls' := [some (.inr (.inr (some 84))), some (.inl l1), d2]) (st' := []) (h1 := hp L q3 c e) rfl ?_
          exact ih _ _ _ _ h
        · rw [if_neg h3] at h
          refine RuP.jn rfl h3 ?_
          refine RuP.step (pc' := 34) (ls' := [some (.inr (.inr (some 84))), some (.inl l1), d2]) (st' := [.inr (.inr (some 84))]) (h1 := hp L q2.2 c e) rfl ?_
          refine RuP.step (pc' := 35) (ls' := [some (.inr (.inr (some 84))), some (.inl l1), d2]) (st' := [.inr (.inr (some 84)), .inr (.inr (some 84))]) (h1 := hp L q2.2 c e) rfl ?_
          refine RuP.step (pc' := 38) (ls' := [some (.inr (.inr (some 84))), some (.inl l1), d2]) (st' := [.inl (q2.2 84 43), .inr (.inr (some 84))]) (h1 := hp L q2.2 c e) rfl ?_
          refine RuP.step (pc' := 39) (ls' := [some (.inr (.inr (some 84))), some (.inl l1), d2]) (st' := [.inl 1, .inl (q2.2 84 43), .inr (.inr (some 84))]) (h1 := hp L q2.2 c e) rfl ?_
          refine RuP.step (pc' := 40) (ls' := [some (.inr (.inr (some 84))), some (.inl l1), d2]) (st' := [.inl (ax_w32 ((q2.2 84 43) - 1)), .inr (.inr (some 84))]) (h1 := hp L q2.2 c e) rfl ?_
          refine RuP.step (pc' := 43) (ls' := [some (.inr (.inr (some 84))), some (.inl l1), d2]) (st' := []) (h1 := hp L (ax_u2 q2.2 84 43 (ax_w32 ((q2.2 84 43) - 1))) c e) rfl ?_
          refine RuP.step (pc' := 44) (ls' := [some (.inr (.inr (some 84))), some (.inl l1), d2]) (st' := [.inr (.inr (some 84))]) (h1 := hp L (ax_u2 q2.2 84 43 (ax_w32 ((q2.2 84 43) - 1))) c e) rfl ?_
          refine RuP.step (pc' := 47) (ls' := [some (.inr (.inr (some 84))), some (.inl l1), d2]) (st' := [.inr (.inr (some 114))]) (h1 := hp L (ax_u2 q2.2 84 43 (ax_w32 ((q2.2 84 43) - 1))) c e) rfl ?_
          refine RuP.step (pc' := 48) (ls' := [some (.inr (.inr (some 84))), some (.inl l1), d2]) (st' := [.inr (.inr (some 84)), .inr (.inr (some 114))]) (h1 := hp L (ax_u2 q2.2 84 43 (ax_w32 ((q2.2 84 43) - 1))) c e) rfl ?_
          refine RuP.step (pc' := 51) (ls' := [some (.inr (.inr (some 84))), some (.inl l1), d2]) (st' := [.inl (ax_w32 ((q2.2 84 43) - 1)), .inr (.inr (some 114))]) (h1 := hp L (ax_u2 q2.2 84 43 (ax_w32 ((q2.2 84 43) - 1))) c e) rfl ?_
          obtain ⟨b4, h⟩ := gd_some h
          refine RuP.ald (f := fun t => t == 1 || t == 3) (j := ax_w32 ((q2.2 84 43) - 1)) (a := 114) rfl rfl b4.1 b4.2 ?_
          refine RuP.step (pc' := 53) (ls' := [some (.inr (.inr (some 84))), some (.inl l1), some (.inl (q2.2 114 ((ax_w32 ((q2.2 84 43) - 1)).toNat)))]) (st' := []) (h1 := hp L (ax_u2 q2.2 84 43 (ax_w32 ((q2.2 84 43) - 1))) c e) rfl ?_
          refine RuP.step (pc' := 54) (ls' := [some (.inr (.inr (some 84))), some (.inl l1), some (.inl (q2.2 114 ((ax_w32 ((q2.2 84 43) - 1)).toNat)))]) (st' := [.inr (.inr (some 84))]) (h1 := hp L (ax_u2 q2.2 84 43 (ax_w32 ((q2.2 84 43) - 1))) c e) rfl ?_
          refine RuP.step (pc' := 55) (ls' := [some (.inr (.inr (some 84))), some (.inl l1), some (.inl (q2.2 114 ((ax_w32 ((q2.2 84 43) - 1)).toNat)))]) (st' := [.inr (.inr (some 84)), .inr (.inr (some 84))]) (h1 := hp L (ax_u2 q2.2 84 43 (ax_w32 ((q2.2 84 43) - 1))) c e) rfl ?_
          refine RuP.step (pc' := 58) (ls' := [some (.inr (.inr (some 84))), some (.inl l1), some (.inl (q2.2 114 ((ax_w32 ((q2.2 84 43) - 1)).toNat)))]) (st' := [.inl (ax_w32 ((q2.2 84 43) - 1)), .inr (.inr (some 84))]) (h1 := hp L (ax_u2 q2.2 84 43 (ax_w32 ((q2.2 84 43) - 1))) c e) rfl ?_
          by_cases h5 : ax_w32 ((q2.2 84 43) - 1) ≤ 0
          · rw [if_pos h5] at h
            refine RuP.jy rfl h5 ?_
            refine RuP.step (pc' := 76) (ls' := [some (.inr (.inr (some 84))), some (.inl l1), some (.inl (q2.2 114 ((ax_w32 ((q2.2 84 43) - 1)).toNat)))]) (st' := [.inl (-1), .inr (.inr (some 84))]) (h1 := hp L (ax_u2 q2.2 84 43 (ax_w32 ((q2.2 84 43) - 1))) c e) rfl ?_
            exact bl_254_76 ih _ _ _ _ _ h
          · rw [if_neg h5] at h
            refine RuP.jn rfl h5 ?_
            refine RuP.step (pc' := 62) (ls' := [some (.inr (.inr (some 84))), some (.inl l1), some (.inl (q2.2 114 ((ax_w32 ((q2.2 84 43) - 1)).toNat)))]) (st' := [.inr (.inr (some 84)), .inr (.inr (some 84))]) (h1 := hp L (ax_u2 q2.2 84 43 (ax_w32 ((q2.2 84 43) - 1))) c e) rfl ?_
            refine RuP.step (pc' := 65) (ls' := [some (.inr (.inr (some 84))), some (.inl l1), some (.inl (q2.2 114 ((ax_w32 ((q2.2 84 43) - 1)).toNat)))]) (st' := [.inr (.inr (some 115)), .inr (.inr (some 84))]) (h1 := hp L (ax_u2 q2.2 84 43 (ax_w32 ((q2.2 84 43) - 1))) c e) rfl ?_
            refine RuP.step (pc' := 66) (ls' := [some (.inr (.inr (some 84))), some (.inl l1), some (.inl (q2.2 114 ((ax_w32 ((q2.2 84 43) - 1)).toNat)))]) (st' := [.inr (.inr (some 84)), .inr (.inr (some 115)), .inr (.inr (some 84))]) (h1 := hp L (ax_u2 q2.2 84 43 (ax_w32 ((q2.2 84 43) - 1))) c e) rfl ?_
            refine RuP.step (pc' := 69) (ls' := [some (.inr (.inr (some 84))), some (.inl l1), some (.inl (q2.2 114 ((ax_w32 ((q2.2 84 43) - 1)).toNat)))]) (st' := [.inl (ax_w32 ((q2.2 84 43) - 1)), .inr (.inr (some 115)), .inr (.inr (some 84))]) (h1 := hp L (ax_u2 q2.2 84 43 (ax_w32 ((q2.2 84 43) - 1))) c e) rfl ?_
            refine RuP.step (pc' := 70) (ls' := [some (.inr (.inr (some 84))), some (.inl l1), some (.inl (q2.2 114 ((ax_w32 ((q2.2 84 43) - 1)).toNat)))]) (st' := [.inl 1, .inl (ax_w32 ((q2.2 84 43) - 1)), .inr (.inr (some 115)), .inr (.inr (some 84))]) (h1 := hp L (ax_u2 q2.2 84 43 (ax_w32 ((q2.2 84 43) - 1))) c e) rfl ?_
            refine RuP.step (pc' := 71) (ls' := [some (.inr (.inr (some 84))), some (.inl l1), some (.inl (q2.2 114 ((ax_w32 ((q2.2 84 43) - 1)).toNat)))]) (st' := [.inl (ax_w32 ((ax_w32 ((q2.2 84 43) - 1)) - 1)), .inr (.inr (some 115)), .inr (.inr (some 84))]) (h1 := hp L (ax_u2 q2.2 84 43 (ax_w32 ((q2.2 84 43) - 1))) c e) rfl ?_
            obtain ⟨b6, h⟩ := gd_some h
            refine RuP.ald (f := fun t => t == 0) (j := ax_w32 ((ax_w32 ((q2.2 84 43) - 1)) - 1)) (a := 115) rfl rfl b6.1 b6.2 ?_
            refine RuP.step (pc' := 76) (ls' := [some (.inr (.inr (some 84))), some (.inl l1), some (.inl (q2.2 114 ((ax_w32 ((q2.2 84 43) - 1)).toNat)))]) (st' := [.inl (q2.2 115 ((ax_w32 ((ax_w32 ((q2.2 84 43) - 1)) - 1)).toNat)), .inr (.inr (some 84))]) (h1 := hp L (ax_u2 q2.2 84 43 (ax_w32 ((q2.2 84 43) - 1))) c e) rfl ?_
            exact bl_254_76 ih _ _ _ _ _ h
noncomputable def f_254 (x0 : Int) (s : Sg) : Option Sg :=
  ((f_258 0 (ax_u2 s 84 43 0)).bind fun q1 =>
  j_254_10 FU x0 q1)
theorem ev_254 {L c : Nat} {e : Nat → Nat} {s : Sg} {x0 : Int} {q : Sg} (h : f_254 x0 s = some q) : EvP 8 254 [.inr (.inr (some 84)), .inl x0] (hp L s c e) (oV L c e q) := by
  unfold f_254 at h
  refine EvP.of (μ := tb_m254) (ls := [some (.inr (.inr (some 84))), some (.inl x0), none]) rfl (Nat.le_of_ble_eq_true rfl) rfl ?_
  refine RuP.step (pc' := 1) (ls' := [some (.inr (.inr (some 84))), some (.inl x0), none]) (st' := [.inr (.inr (some 84))]) (h1 := hp L s c e) rfl ?_
  refine RuP.step (pc' := 2) (ls' := [some (.inr (.inr (some 84))), some (.inl x0), none]) (st' := [.inl 0, .inr (.inr (some 84))]) (h1 := hp L s c e) rfl ?_
  refine RuP.step (pc' := 5) (ls' := [some (.inr (.inr (some 84))), some (.inl x0), none]) (st' := []) (h1 := hp L (ax_u2 s 84 43 0) c e) rfl ?_
  refine RuP.step (pc' := 6) (ls' := [some (.inr (.inr (some 84))), some (.inl x0), none]) (st' := [.inr (.inr (some 84))]) (h1 := hp L (ax_u2 s 84 43 0) c e) rfl ?_
  refine RuP.step (pc' := 7) (ls' := [some (.inr (.inr (some 84))), some (.inl x0), none]) (st' := [.inl 0, .inr (.inr (some 84))]) (h1 := hp L (ax_u2 s 84 43 0) c e) rfl ?_
  obtain ⟨q1, h1, h⟩ := bd_some h
  refine RuP.cV rfl ((ev_258 h1).up (by decide)) ?_
  exact bl_254_10 FU _ _ _ _ h
/-- MachineTextModel.statement()V -/
noncomputable def j_233_359 (l1 : Int) (s : Sg) : Option Sg :=
  (if s 84 6 ≤ 0 then
    (gd (0 ≤ l1 ∧ l1 < 4100) (
    (gd (0 ≤ l1 ∧ l1 < 4100) (
    some (ax_u2 (ax_u2 s 103 l1.toNat (ax_w32 ((s 84 47) - (s 103 l1.toNat)))) 84 19 (ax_w32 ((s 84 19) + 1)))))))
  else
    some s)
set_option maxRecDepth 20000 in
theorem bl_233_359 {L c : Nat} {e : Nat → Nat} : ∀ (l1 : Int) (s : Sg) (q : Sg), j_233_359 l1 s = some q → RuP 8 tb_m233 359 [some (.inr (.inr (some 84))), some (.inl l1)] [] (hp L s c e) (oV L c e q) := by
  intro l1 s q h
  unfold j_233_359 at h
  refine RuP.step (pc' := 360) (ls' := [some (.inr (.inr (some 84))), some (.inl l1)]) (st' := [.inr (.inr (some 84))]) (h1 := hp L s c e) rfl ?_
  refine RuP.step (pc' := 363) (ls' := [some (.inr (.inr (some 84))), some (.inl l1)]) (st' := [.inl (s 84 6)]) (h1 := hp L s c e) rfl ?_
  by_cases h0 : s 84 6 ≤ 0
  · rw [if_pos h0] at h
    refine RuP.jy rfl h0 ?_
    refine RuP.step (pc' := 368) (ls' := [some (.inr (.inr (some 84))), some (.inl l1)]) (st' := [.inr (.inr (some 84))]) (h1 := hp L s c e) rfl ?_
    refine RuP.step (pc' := 371) (ls' := [some (.inr (.inr (some 84))), some (.inl l1)]) (st' := [.inr (.inr (some 103))]) (h1 := hp L s c e) rfl ?_
    refine RuP.step (pc' := 372) (ls' := [some (.inr (.inr (some 84))), some (.inl l1)]) (st' := [.inl l1, .inr (.inr (some 103))]) (h1 := hp L s c e) rfl ?_
    refine RuP.step (pc' := 373) (ls' := [some (.inr (.inr (some 84))), some (.inl l1)]) (st' := [.inr (.inr (some 84)), .inl l1, .inr (.inr (some 103))]) (h1 := hp L s c e) rfl ?_
    refine RuP.step (pc' := 376) (ls' := [some (.inr (.inr (some 84))), some (.inl l1)]) (st' := [.inl (s 84 47), .inl l1, .inr (.inr (some 103))]) (h1 := hp L s c e) rfl ?_
    refine RuP.step (pc' := 377) (ls' := [some (.inr (.inr (some 84))), some (.inl l1)]) (st' := [.inr (.inr (some 84)), .inl (s 84 47), .inl l1, .inr (.inr (some 103))]) (h1 := hp L s c e) rfl ?_
    refine RuP.step (pc' := 380) (ls' := [some (.inr (.inr (some 84))), some (.inl l1)]) (st' := [.inr (.inr (some 103)), .inl (s 84 47), .inl l1, .inr (.inr (some 103))]) (h1 := hp L s c e) rfl ?_
    refine RuP.step (pc' := 381) (ls' := [some (.inr (.inr (some 84))), some (.inl l1)]) (st' := [.inl l1, .inr (.inr (some 103)), .inl (s 84 47), .inl l1, .inr (.inr (some 103))]) (h1 := hp L s c e) rfl ?_
    obtain ⟨b1, h⟩ := gd_some h
    refine RuP.ald (f := fun t => t == 0) (j := l1) (a := 103) rfl rfl b1.1 b1.2 ?_
    refine RuP.step (pc' := 383) (ls' := [some (.inr (.inr (some 84))), some (.inl l1)]) (st' := [.inl (ax_w32 ((s 84 47) - (s 103 l1.toNat))), .inl l1, .inr (.inr (some 103))]) (h1 := hp L s c e) rfl ?_
    obtain ⟨b2, h⟩ := gd_some h
    refine RuP.ast (f := fun t => t == 0) (j := l1) (a := 103) rfl rfl (by decide) rfl rfl b2.1 b2.2 ?_
    refine RuP.step (pc' := 385) (ls' := [some (.inr (.inr (some 84))), some (.inl l1)]) (st' := [.inr (.inr (some 84))]) (h1 := hp L (ax_u2 s 103 l1.toNat (ax_w32 ((s 84 47) - (s 103 l1.toNat)))) c e) rfl ?_
    refine RuP.step (pc' := 386) (ls' := [some (.inr (.inr (some 84))), some (.inl l1)]) (st' := [.inr (.inr (some 84)), .inr (.inr (some 84))]) (h1 := hp L (ax_u2 s 103 l1.toNat (ax_w32 ((s 84 47) - (s 103 l1.toNat)))) c e) rfl ?_
    refine RuP.step (pc' := 389) (ls' := [some (.inr (.inr (some 84))), some (.inl l1)]) (st' := [.inl (s 84 19), .inr (.inr (some 84))]) (h1 := hp L (ax_u2 s 103 l1.toNat (ax_w32 ((s 84 47) - (s 103 l1.toNat)))) c e) rfl ?_
    refine RuP.step (pc' := 390) (ls' := [some (.inr (.inr (some 84))), some (.inl l1)]) (st' := [.inl 1, .inl (s 84 19), .inr (.inr (some 84))]) (h1 := hp L (ax_u2 s 103 l1.toNat (ax_w32 ((s 84 47) - (s 103 l1.toNat)))) c e) rfl ?_
    refine RuP.step (pc' := 391) (ls' := [some (.inr (.inr (some 84))), some (.inl l1)]) (st' := [.inl (ax_w32 ((s 84 19) + 1)), .inr (.inr (some 84))]) (h1 := hp L (ax_u2 s 103 l1.toNat (ax_w32 ((s 84 47) - (s 103 l1.toNat)))) c e) rfl ?_
    refine RuP.step (pc' := 394) (ls' := [some (.inr (.inr (some 84))), some (.inl l1)]) (st' := []) (h1 := hp L (ax_u2 (ax_u2 s 103 l1.toNat (ax_w32 ((s 84 47) - (s 103 l1.toNat)))) 84 19 (ax_w32 ((s 84 19) + 1))) c e) rfl ?_
    cases h
    exact RuP.dV rfl
  · rw [if_neg h0] at h
    refine RuP.jn rfl h0 ?_
    cases h
    exact RuP.dV rfl
noncomputable def j_233_158 (l1 : Int) (s : Sg) : Option Sg :=
  ((f_231 2 s).bind fun q6 =>
  (gd (0 ≤ l1 ∧ l1 < 4100) (
  ((f_231 7 (ax_u2 q6.2 97 l1.toNat q6.1)).bind fun q7 =>
  j_233_359 l1 q7.2))))
set_option maxRecDepth 20000 in
theorem bl_233_158 {L c : Nat} {e : Nat → Nat} : ∀ (l1 : Int) (s : Sg) (q : Sg), j_233_158 l1 s = some q → RuP 8 tb_m233 158 [some (.inr (.inr (some 84))), some (.inl l1)] [] (hp L s c e) (oV L c e q) := by
  intro l1 s q h
  unfold j_233_158 at h
  refine RuP.step (pc' := 159) (ls' := [some (.inr (.inr (some 84))), some (.inl l1)]) (st' := [.inr (.inr (some 84))]) (h1 := hp L s c e) rfl ?_
  refine RuP.step (pc' := 162) (ls' := [some (.inr (.inr (some 84))), some (.inl l1)]) (st' := [.inr (.inr (some 97))]) (h1 := hp L s c e) rfl ?_
  refine RuP.step (pc' := 163) (ls' := [some (.inr (.inr (some 84))), some (.inl l1)]) (st' := [.inl l1, .inr (.inr (some 97))]) (h1 := hp L s c e) rfl ?_
  refine RuP.step (pc' := 164) (ls' := [some (.inr (.inr (some 84))), some (.inl l1)]) (st' := [.inr (.inr (some 84)), .inl l1, .inr (.inr (some 97))]) (h1 := hp L s c e) rfl ?_
  refine RuP.step (pc' := 165) (ls' := [some (.inr (.inr (some 84))), some (.inl l1)]) (st' := [.inl 2, .inr (.inr (some 84)), .inl l1, .inr (.inr (some 97))]) (h1 := hp L s c e) rfl ?_
  obtain ⟨q6, h1, h⟩ := bd_some h
  refine RuP.cI rfl ((ev_231 h1).up (by decide)) ?_
  obtain ⟨b0, h⟩ := gd_some h
  refine RuP.ast (f := fun t => t == 0) (j := l1) (a := 97) rfl rfl (by decide) rfl rfl b0.1 b0.2 ?_
  refine RuP.step (pc' := 170) (ls' := [some (.inr (.inr (some 84))), some (.inl l1)]) (st' := [.inr (.inr (some 84))]) (h1 := hp L (ax_u2 q6.2 97 l1.toNat q6.1) c e) rfl ?_
  refine RuP.step (pc' := 172) (ls' := [some (.inr (.inr (some 84))), some (.inl l1)]) (st' := [.inl 7, .inr (.inr (some 84))]) (h1 := hp L (ax_u2 q6.2 97 l1.toNat q6.1) c e) rfl ?_
  obtain ⟨q7, h1, h⟩ := bd_some h
  refine RuP.cI rfl ((ev_231 h1).up (by decide)) ?_
  refine RuP.step (pc' := 176) (ls' := [some (.inr (.inr (some 84))), some (.inl l1)]) (st' := []) (h1 := hp L q7.2 c e) rfl ?_
  refine RuP.step (pc' := 359) (ls' := [some (.inr (.inr (some 84))), some (.inl l1)]) (st' := []) (h1 := hp L q7.2 c e) rfl ?_
  exact bl_233_359 _ _ _ h
noncomputable def j_233_133 (l1 : Int) (s : Sg) : Option Sg :=
  ((f_231 15 s).bind fun q3 =>
  ((f_231 2 q3.2).bind fun q4 =>
  (gd (0 ≤ l1 ∧ l1 < 4100) (
  ((f_231 16 (ax_u2 q4.2 96 l1.toNat q4.1)).bind fun q5 =>
  j_233_158 l1 q5.2)))))
set_option maxRecDepth 20000 in
theorem bl_233_133 {L c : Nat} {e : Nat → Nat} : ∀ (l1 : Int) (s : Sg) (q : Sg), j_233_133 l1 s = some q → RuP 8 tb_m233 133 [some (.inr (.inr (some 84))), some (.inl l1)] [] (hp L s c e) (oV L c e q) := by
  intro l1 s q h
  unfold j_233_133 at h
  refine RuP.step (pc' := 134) (ls' := [some (.inr (.inr (some 84))), some (.inl l1)]) (st' := [.inr (.inr (some 84))]) (h1 := hp L s c e) rfl ?_
  refine RuP.step (pc' := 136) (ls' := [some (.inr (.inr (some 84))), some (.inl l1)]) (st' := [.inl 15, .inr (.inr (some 84))]) (h1 := hp L s c e) rfl ?_
  obtain ⟨q3, h1, h⟩ := bd_some h
  refine RuP.cI rfl ((ev_231 h1).up (by decide)) ?_
  refine RuP.step (pc' := 140) (ls' := [some (.inr (.inr (some 84))), some (.inl l1)]) (st' := []) (h1 := hp L q3.2 c e) rfl ?_
  refine RuP.step (pc' := 141) (ls' := [some (.inr (.inr (some 84))), some (.inl l1)]) (st' := [.inr (.inr (some 84))]) (h1 := hp L q3.2 c e) rfl ?_
  refine RuP.step (pc' := 144) (ls' := [some (.inr (.inr (some 84))), some (.inl l1)]) (st' := [.inr (.inr (some 96))]) (h1 := hp L q3.2 c e) rfl ?_
  refine RuP.step (pc' := 145) (ls' := [some (.inr (.inr (some 84))), some (.inl l1)]) (st' := [.inl l1, .inr (.inr (some 96))]) (h1 := hp L q3.2 c e) rfl ?_
  refine RuP.step (pc' := 146) (ls' := [some (.inr (.inr (some 84))), some (.inl l1)]) (st' := [.inr (.inr (some 84)), .inl l1, .inr (.inr (some 96))]) (h1 := hp L q3.2 c e) rfl ?_
  refine RuP.step (pc' := 147) (ls' := [some (.inr (.inr (some 84))), some (.inl l1)]) (st' := [.inl 2, .inr (.inr (some 84)), .inl l1, .inr (.inr (some 96))]) (h1 := hp L q3.2 c e) rfl ?_
  obtain ⟨q4, h1, h⟩ := bd_some h
  refine RuP.cI rfl ((ev_231 h1).up (by decide)) ?_
  obtain ⟨b0, h⟩ := gd_some h
  refine RuP.ast (f := fun t => t == 0) (j := l1) (a := 96) rfl rfl (by decide) rfl rfl b0.1 b0.2 ?_
  refine RuP.step (pc' := 152) (ls' := [some (.inr (.inr (some 84))), some (.inl l1)]) (st' := [.inr (.inr (some 84))]) (h1 := hp L (ax_u2 q4.2 96 l1.toNat q4.1) c e) rfl ?_
  refine RuP.step (pc' := 154) (ls' := [some (.inr (.inr (some 84))), some (.inl l1)]) (st' := [.inl 16, .inr (.inr (some 84))]) (h1 := hp L (ax_u2 q4.2 96 l1.toNat q4.1) c e) rfl ?_
  obtain ⟨q5, h1, h⟩ := bd_some h
  refine RuP.cI rfl ((ev_231 h1).up (by decide)) ?_
  refine RuP.step (pc' := 158) (ls' := [some (.inr (.inr (some 84))), some (.inl l1)]) (st' := []) (h1 := hp L q5.2 c e) rfl ?_
  exact bl_233_158 _ _ _ h
noncomputable def j_233_76 (l1 : Int) (s : Sg) : Option Sg :=
  (gd (0 ≤ ax_w32 ((s 84 18) - 1) ∧ ax_w32 ((s 84 18) - 1) < 8200) (
  (gd (0 ≤ l1 ∧ l1 < 4100) (
  ((f_231 1 (ax_u2 s 94 l1.toNat ((if ¬ (s 88 ((ax_w32 ((s 84 18) - 1)).toNat)) = 31 then 1 else 0) : Int))).bind fun q2 =>
  (gd (0 ≤ l1 ∧ l1 < 4100) (
  (gd (0 ≤ l1 ∧ l1 < 4100) (
  (if q2.2 94 l1.toNat = 1 then
    j_233_133 l1 (ax_u2 q2.2 95 l1.toNat q2.1)
  else
    (gd (g_232 15 (ax_u2 q2.2 95 l1.toNat q2.1)) (
    (if f_232 15 (ax_u2 q2.2 95 l1.toNat q2.1) = 0 then
      j_233_158 l1 (ax_u2 q2.2 95 l1.toNat q2.1)
    else
      j_233_133 l1 (ax_u2 q2.2 95 l1.toNat q2.1))))))))))))))
set_option maxRecDepth 20000 in
theorem bl_233_76 {L c : Nat} {e : Nat → Nat} : ∀ (l1 : Int) (s : Sg) (q : Sg), j_233_76 l1 s = some q → RuP 8 tb_m233 76 [some (.inr (.inr (some 84))), some (.inl l1)] [] (hp L s c e) (oV L c e q) := by
  intro l1 s q h
  unfold j_233_76 at h
  refine RuP.step (pc' := 77) (ls' := [some (.inr (.inr (some 84))), some (.inl l1)]) (st' := [.inr (.inr (some 84))]) (h1 := hp L s c e) rfl ?_
  refine RuP.step (pc' := 80) (ls' := [some (.inr (.inr (some 84))), some (.inl l1)]) (st' := [.inr (.inr (some 94))]) (h1 := hp L s c e) rfl ?_
  refine RuP.step (pc' := 81) (ls' := [some (.inr (.inr (some 84))), some (.inl l1)]) (st' := [.inl l1, .inr (.inr (some 94))]) (h1 := hp L s c e) rfl ?_
  refine RuP.step (pc' := 82) (ls' := [some (.inr (.inr (some 84))), some (.inl l1)]) (st' := [.inr (.inr (some 84)), .inl l1, .inr (.inr (some 94))]) (h1 := hp L s c e) rfl ?_
  refine RuP.step (pc' := 85) (ls' := [some (.inr (.inr (some 84))), some (.inl l1)]) (st' := [.inr (.inr (some 88)), .inl l1, .inr (.inr (some 94))]) (h1 := hp L s c e) rfl ?_
  refine RuP.step (pc' := 86) (ls' := [some (.inr (.inr (some 84))), some (.inl l1)]) (st' := [.inr (.inr (some 84)), .inr (.inr (some 88)), .inl l1, .inr (.inr (some 94))]) (h1 := hp L s c e) rfl ?_
  refine RuP.step (pc' := 89) (ls' := [some (.inr (.inr (some 84))), some (.inl l1)]) (st' := [.inl (s 84 18), .inr (.inr (some 88)), .inl l1, .inr (.inr (some 94))]) (h1 := hp L s c e) rfl ?_
  refine RuP.step (pc' := 90) (ls' := [some (.inr (.inr (some 84))), some (.inl l1)]) (st' := [.inl 1, .inl (s 84 18), .inr (.inr (some 88)), .inl l1, .inr (.inr (some 94))]) (h1 := hp L s c e) rfl ?_
  refine RuP.step (pc' := 91) (ls' := [some (.inr (.inr (some 84))), some (.inl l1)]) (st' := [.inl (ax_w32 ((s 84 18) - 1)), .inr (.inr (some 88)), .inl l1, .inr (.inr (some 94))]) (h1 := hp L s c e) rfl ?_
  obtain ⟨b0, h⟩ := gd_some h
  refine RuP.ald (f := fun t => t == 0) (j := ax_w32 ((s 84 18) - 1)) (a := 88) rfl rfl b0.1 b0.2 ?_
  refine RuP.step (pc' := 94) (ls' := [some (.inr (.inr (some 84))), some (.inl l1)]) (st' := [.inl 31, .inl (s 88 ((ax_w32 ((s 84 18) - 1)).toNat)), .inl l1, .inr (.inr (some 94))]) (h1 := hp L s c e) rfl ?_
  have J2 : ∀ v1_0 : Int, v1_0 = ((if ¬ (s 88 ((ax_w32 ((s 84 18) - 1)).toNat)) = 31 then 1 else 0) : Int) → RuP 8 tb_m233 102 [some (.inr (.inr (some 84))), some (.inl l1)] [.inl v1_0, .inl l1, .inr (.inr (some 94))] (hp L s c e) (oV L c e q) := by
    intro v1_0 ev1_0
    subst ev1_0
    obtain ⟨b2, h⟩ := gd_some h
    refine RuP.ast (f := fun t => t == 0) (j := l1) (a := 94) rfl rfl (by decide) rfl rfl b2.1 b2.2 ?_
    refine RuP.step (pc' := 104) (ls' := [some (.inr (.inr (some 84))), some (.inl l1)]) (st' := [.inr (.inr (some 84))]) (h1 := hp L (ax_u2 s 94 l1.toNat ((if ¬ (s 88 ((ax_w32 ((s 84 18) - 1)).toNat)) = 31 then 1 else 0) : Int)) c e) rfl ?_
    refine RuP.step (pc' := 107) (ls' := [some (.inr (.inr (some 84))), some (.inl l1)]) (st' := [.inr (.inr (some 95))]) (h1 := hp L (ax_u2 s 94 l1.toNat ((if ¬ (s 88 ((ax_w32 ((s 84 18) - 1)).toNat)) = 31 then 1 else 0) : Int)) c e) rfl ?_
    refine RuP.step (pc' := 108) (ls' := [some (.inr (.inr (some 84))), some (.inl l1)]) (st' := [.inl l1, .inr (.inr (some 95))]) (h1 := hp L (ax_u2 s 94 l1.toNat ((if ¬ (s 88 ((ax_w32 ((s 84 18) - 1)).toNat)) = 31 then 1 else 0) : Int)) c e) rfl ?_
    refine RuP.step (pc' := 109) (ls' := [some (.inr (.inr (some 84))), some (.inl l1)]) (st' := [.inr (.inr (some 84)), .inl l1, .inr (.inr (some 95))]) (h1 := hp L (ax_u2 s 94 l1.toNat ((if ¬ (s 88 ((ax_w32 ((s 84 18) - 1)).toNat)) = 31 then 1 else 0) : Int)) c e) rfl ?_
    refine RuP.step (pc' := 110) (ls' := [some (.inr (.inr (some 84))), some (.inl l1)]) (st' := [.inl 1, .inr (.inr (some 84)), .inl l1, .inr (.inr (some 95))]) (h1 := hp L (ax_u2 s 94 l1.toNat ((if ¬ (s 88 ((ax_w32 ((s 84 18) - 1)).toNat)) = 31 then 1 else 0) : Int)) c e) rfl ?_
    obtain ⟨q2, h1, h⟩ := bd_some h
    refine RuP.cI rfl ((ev_231 h1).up (by decide)) ?_
    obtain ⟨b3, h⟩ := gd_some h
    refine RuP.ast (f := fun t => t == 0) (j := l1) (a := 95) rfl rfl (by decide) rfl rfl b3.1 b3.2 ?_
    refine RuP.step (pc' := 115) (ls' := [some (.inr (.inr (some 84))), some (.inl l1)]) (st' := [.inr (.inr (some 84))]) (h1 := hp L (ax_u2 q2.2 95 l1.toNat q2.1) c e) rfl ?_
    refine RuP.step (pc' := 118) (ls' := [some (.inr (.inr (some 84))), some (.inl l1)]) (st' := [.inr (.inr (some 94))]) (h1 := hp L (ax_u2 q2.2 95 l1.toNat q2.1) c e) rfl ?_
    refine RuP.step (pc' := 119) (ls' := [some (.inr (.inr (some 84))), some (.inl l1)]) (st' := [.inl l1, .inr (.inr (some 94))]) (h1 := hp L (ax_u2 q2.2 95 l1.toNat q2.1) c e) rfl ?_
    obtain ⟨b4, h⟩ := gd_some h
    refine RuP.ald (f := fun t => t == 0) (j := l1) (a := 94) rfl rfl b4.1 b4.2 ?_
    refine RuP.step (pc' := 121) (ls' := [some (.inr (.inr (some 84))), some (.inl l1)]) (st' := [.inl 1, .inl (q2.2 94 l1.toNat)]) (h1 := hp L (ax_u2 q2.2 95 l1.toNat q2.1) c e) rfl ?_
    by_cases h5 : q2.2 94 l1.toNat = 1
    · rw [if_pos h5] at h
      refine RuP.jy rfl h5 ?_
      exact bl_233_133 _ _ _ h
    · rw [if_neg h5] at h
      refine RuP.jn rfl h5 ?_
      refine RuP.step (pc' := 125) (ls' := [some (.inr (.inr (some 84))), some (.inl l1)]) (st' := [.inr (.inr (some 84))]) (h1 := hp L (ax_u2 q2.2 95 l1.toNat q2.1) c e) rfl ?_
      refine RuP.step (pc' := 127) (ls' := [some (.inr (.inr (some 84))), some (.inl l1)]) (st' := [.inl 15, .inr (.inr (some 84))]) (h1 := hp L (ax_u2 q2.2 95 l1.toNat q2.1) c e) rfl ?_
      obtain ⟨b6, h⟩ := gd_some h
      refine RuP.cI rfl (EvP.i ((ev_232 15 b6).up (by decide))) ?_
      by_cases h7 : f_232 15 (ax_u2 q2.2 95 l1.toNat q2.1) = 0
      · rw [if_pos h7] at h
        refine RuP.jy rfl h7 ?_
        exact bl_233_158 _ _ _ h
      · rw [if_neg h7] at h
        refine RuP.jn rfl h7 ?_
        exact bl_233_133 _ _ _ h
  by_cases h8 : ¬ (s 88 ((ax_w32 ((s 84 18) - 1)).toNat)) = 31
  · refine RuP.jy rfl h8 ?_
    refine RuP.step (pc' := 102) (ls' := [some (.inr (.inr (some 84))), some (.inl l1)]) (st' := [.inl 1, .inl l1, .inr (.inr (some 94))]) (h1 := hp L s c e) rfl ?_
    exact J2 _ (by simp only [if_pos h8])
  · refine RuP.jn rfl h8 ?_
    refine RuP.step (pc' := 98) (ls' := [some (.inr (.inr (some 84))), some (.inl l1)]) (st' := [.inl 0, .inl l1, .inr (.inr (some 94))]) (h1 := hp L s c e) rfl ?_
    refine RuP.step (pc' := 102) (ls' := [some (.inr (.inr (some 84))), some (.inl l1)]) (st' := [.inl 0, .inl l1, .inr (.inr (some 94))]) (h1 := hp L s c e) rfl ?_
    exact J2 _ (by simp only [if_neg h8])
noncomputable def j_233_354 (l1 : Int) (s : Sg) : Option Sg :=
  ((f_254 l1 s).bind fun q12 =>
  j_233_359 l1 q12)
set_option maxRecDepth 20000 in
theorem bl_233_354 {L c : Nat} {e : Nat → Nat} : ∀ (l1 : Int) (s : Sg) (q : Sg), j_233_354 l1 s = some q → RuP 8 tb_m233 354 [some (.inr (.inr (some 84))), some (.inl l1)] [] (hp L s c e) (oV L c e q) := by
  intro l1 s q h
  unfold j_233_354 at h
  refine RuP.step (pc' := 355) (ls' := [some (.inr (.inr (some 84))), some (.inl l1)]) (st' := [.inr (.inr (some 84))]) (h1 := hp L s c e) rfl ?_
  refine RuP.step (pc' := 356) (ls' := [some (.inr (.inr (some 84))), some (.inl l1)]) (st' := [.inl l1, .inr (.inr (some 84))]) (h1 := hp L s c e) rfl ?_
  obtain ⟨q12, h1, h⟩ := bd_some h
  refine RuP.cV rfl ((ev_254 h1).up (by decide)) ?_
  exact bl_233_359 _ _ _ h
noncomputable def j_233_331 (k221 : (Int → Sg → Option Sg)) (l1 : Int) (s : Sg) : Option Sg :=
  (gd (0 ≤ l1 ∧ l1 < 4100) (
  (gd (0 ≤ l1 ∧ l1 < 4100) (
  k221 l1 (ax_u2 (ax_u2 s 84 31 (ax_w32 ((s 84 31) + 1))) 99 l1.toNat (ax_w32 ((s 99 l1.toNat) + 1)))))))
set_option maxRecDepth 20000 in
theorem bl_233_331 {L c : Nat} {e : Nat → Nat} {k221 : (Int → Sg → Option Sg)} (hk221 : ∀ (l1 : Int) (s : Sg) (q : Sg), k221 l1 s = some q → RuP 8 tb_m233 221 [some (.inr (.inr (some 84))), some (.inl l1)] [] (hp L s c e) (oV L c e q)) : ∀ (l1 : Int) (s : Sg) (q : Sg), j_233_331 k221 l1 s = some q → RuP 8 tb_m233 331 [some (.inr (.inr (some 84))), some (.inl l1)] [] (hp L s c e) (oV L c e q) := by
  intro l1 s q h
  unfold j_233_331 at h
  refine RuP.step (pc' := 332) (ls' := [some (.inr (.inr (some 84))), some (.inl l1)]) (st' := [.inr (.inr (some 84))]) (h1 := hp L s c e) rfl ?_
  refine RuP.step (pc' := 333) (ls' := [some (.inr (.inr (some 84))), some (.inl l1)]) (st' := [.inr (.inr (some 84)), .inr (.inr (some 84))]) (h1 := hp L s c e) rfl ?_
  refine RuP.step (pc' := 336) (ls' := [some (.inr (.inr (some 84))), some (.inl l1)]) (st' := [.inl (s 84 31), .inr (.inr (some 84))]) (h1 := hp L s c e) rfl ?_
  refine RuP.step (pc' := 337) (ls' := [some (.inr (.inr (some 84))), some (.inl l1)]) (st' := [.inl 1, .inl (s 84 31), .inr (.inr (some 84))]) (h1 := hp L s c e) rfl ?_
  refine RuP.step (pc' := 338) (ls' := [some (.inr (.inr (some 84))), some (.inl l1)]) (st' := [.inl (ax_w32 ((s 84 31) + 1)), .inr (.inr (some 84))]) (h1 := hp L s c e) rfl ?_
  refine RuP.step (pc' := 341) (ls' := [some (.inr (.inr (some 84))), some (.inl l1)]) (st' := []) (h1 := hp L (ax_u2 s 84 31 (ax_w32 ((s 84 31) + 1))) c e) rfl ?_
  refine RuP.step (pc' := 342) (ls' := [some (.inr (.inr (some 84))), some (.inl l1)]) (st' := [.inr (.inr (some 84))]) (h1 := hp L (ax_u2 s 84 31 (ax_w32 ((s 84 31) + 1))) c e) rfl ?_
  refine RuP.step (pc' := 345) (ls' := [some (.inr (.inr (some 84))), some (.inl l1)]) (st' := [.inr (.inr (some 99))]) (h1 := hp L (ax_u2 s 84 31 (ax_w32 ((s 84 31) + 1))) c e) rfl ?_
  refine RuP.step (pc' := 346) (ls' := [some (.inr (.inr (some 84))), some (.inl l1)]) (st' := [.inl l1, .inr (.inr (some 99))]) (h1 := hp L (ax_u2 s 84 31 (ax_w32 ((s 84 31) + 1))) c e) rfl ?_
  refine RuP.step (pc' := 347) (ls' := [some (.inr (.inr (some 84))), some (.inl l1)]) (st' := [.inl l1, .inr (.inr (some 99)), .inl l1, .inr (.inr (some 99))]) (h1 := hp L (ax_u2 s 84 31 (ax_w32 ((s 84 31) + 1))) c e) rfl ?_
  obtain ⟨b0, h⟩ := gd_some h
  refine RuP.ald (f := fun t => t == 0) (j := l1) (a := 99) rfl rfl b0.1 b0.2 ?_
  refine RuP.step (pc' := 349) (ls' := [some (.inr (.inr (some 84))), some (.inl l1)]) (st' := [.inl 1, .inl (s 99 l1.toNat), .inl l1, .inr (.inr (some 99))]) (h1 := hp L (ax_u2 s 84 31 (ax_w32 ((s 84 31) + 1))) c e) rfl ?_
  refine RuP.step (pc' := 350) (ls' := [some (.inr (.inr (some 84))), some (.inl l1)]) (st' := [.inl (ax_w32 ((s 99 l1.toNat) + 1)), .inl l1, .inr (.inr (some 99))]) (h1 := hp L (ax_u2 s 84 31 (ax_w32 ((s 84 31) + 1))) c e) rfl ?_
  obtain ⟨b1, h⟩ := gd_some h
  refine RuP.ast (f := fun t => t == 0) (j := l1) (a := 99) rfl rfl (by decide) rfl rfl b1.1 b1.2 ?_
  refine RuP.step (pc' := 221) (ls' := [some (.inr (.inr (some 84))), some (.inl l1)]) (st' := []) (h1 := hp L (ax_u2 (ax_u2 s 84 31 (ax_w32 ((s 84 31) + 1))) 99 l1.toNat (ax_w32 ((s 99 l1.toNat) + 1))) c e) rfl ?_
  exact hk221 _ _ _ h
noncomputable def j_233_290 (k221 : (Int → Sg → Option Sg)) (l1 : Int) (s : Sg) : Option Sg :=
  ((f_231 2 s).bind fun q14 =>
  (gd (0 ≤ s 84 31 ∧ s 84 31 < 8200) (
  (gd (0 ≤ q14.2 84 31 ∧ q14.2 84 31 < 8200) (
  (if 0 ≤ q14.2 104 ((q14.2 84 31).toNat) then
    j_233_331 k221 l1 (ax_u2 q14.2 105 ((s 84 31).toNat) q14.1)
  else
    (gd (0 ≤ q14.2 84 31 ∧ q14.2 84 31 < 8200) (
    (gd (0 ≤ (ax_u2 q14.2 105 ((s 84 31).toNat) q14.1) 105 ((q14.2 84 31).toNat) ∧ (ax_u2 q14.2 105 ((s 84 31).toNat) q14.1) 105 ((q14.2 84 31).toNat) < 8200) (
    j_233_331 k221 l1 (ax_u2 (ax_u2 q14.2 105 ((s 84 31).toNat) q14.1) 93 (((ax_u2 q14.2 105 ((s 84 31).toNat) q14.1) 105 ((q14.2 84 31).toNat)).toNat) 1)))))))))))
set_option maxRecDepth 20000 in
theorem bl_233_290 {L c : Nat} {e : Nat → Nat} {k221 : (Int → Sg → Option Sg)} (hk221 : ∀ (l1 : Int) (s : Sg) (q : Sg), k221 l1 s = some q → RuP 8 tb_m233 221 [some (.inr (.inr (some 84))), some (.inl l1)] [] (hp L s c e) (oV L c e q)) : ∀ (l1 : Int) (s : Sg) (q : Sg), j_233_290 k221 l1 s = some q → RuP 8 tb_m233 290 [some (.inr (.inr (some 84))), some (.inl l1)] [] (hp L s c e) (oV L c e q) := by
  intro l1 s q h
  unfold j_233_290 at h
  refine RuP.step (pc' := 291) (ls' := [some (.inr (.inr (some 84))), some (.inl l1)]) (st' := [.inr (.inr (some 84))]) (h1 := hp L s c e) rfl ?_
  refine RuP.step (pc' := 294) (ls' := [some (.inr (.inr (some 84))), some (.inl l1)]) (st' := [.inr (.inr (some 105))]) (h1 := hp L s c e) rfl ?_
  refine RuP.step (pc' := 295) (ls' := [some (.inr (.inr (some 84))), some (.inl l1)]) (st' := [.inr (.inr (some 84)), .inr (.inr (some 105))]) (h1 := hp L s c e) rfl ?_
  refine RuP.step (pc' := 298) (ls' := [some (.inr (.inr (some 84))), some (.inl l1)]) (st' := [.inl (s 84 31), .inr (.inr (some 105))]) (h1 := hp L s c e) rfl ?_
  refine RuP.step (pc' := 299) (ls' := [some (.inr (.inr (some 84))), some (.inl l1)]) (st' := [.inr (.inr (some 84)), .inl (s 84 31), .inr (.inr (some 105))]) (h1 := hp L s c e) rfl ?_
  refine RuP.step (pc' := 300) (ls' := [some (.inr (.inr (some 84))), some (.inl l1)]) (st' := [.inl 2, .inr (.inr (some 84)), .inl (s 84 31), .inr (.inr (some 105))]) (h1 := hp L s c e) rfl ?_
  obtain ⟨q14, h1, h⟩ := bd_some h
  refine RuP.cI rfl ((ev_231 h1).up (by decide)) ?_
  obtain ⟨b0, h⟩ := gd_some h
  refine RuP.ast (f := fun t => t == 0) (j := s 84 31) (a := 105) rfl rfl (by decide) rfl rfl b0.1 b0.2 ?_
  refine RuP.step (pc' := 305) (ls' := [some (.inr (.inr (some 84))), some (.inl l1)]) (st' := [.inr (.inr (some 84))]) (h1 := hp L (ax_u2 q14.2 105 ((s 84 31).toNat) q14.1) c e) rfl ?_
  refine RuP.step (pc' := 308) (ls' := [some (.inr (.inr (some 84))), some (.inl l1)]) (st' := [.inr (.inr (some 104))]) (h1 := hp L (ax_u2 q14.2 105 ((s 84 31).toNat) q14.1) c e) rfl ?_
  refine RuP.step (pc' := 309) (ls' := [some (.inr (.inr (some 84))), some (.inl l1)]) (st' := [.inr (.inr (some 84)), .inr (.inr (some 104))]) (h1 := hp L (ax_u2 q14.2 105 ((s 84 31).toNat) q14.1) c e) rfl ?_
  refine RuP.step (pc' := 312) (ls' := [some (.inr (.inr (some 84))), some (.inl l1)]) (st' := [.inl (q14.2 84 31), .inr (.inr (some 104))]) (h1 := hp L (ax_u2 q14.2 105 ((s 84 31).toNat) q14.1) c e) rfl ?_
  obtain ⟨b1, h⟩ := gd_some h
  refine RuP.ald (f := fun t => t == 0) (j := q14.2 84 31) (a := 104) rfl rfl b1.1 b1.2 ?_
  by_cases h2 : 0 ≤ q14.2 104 ((q14.2 84 31).toNat)
  · rw [if_pos h2] at h
    refine RuP.jy rfl h2 ?_
    exact bl_233_331 hk221 _ _ _ h
  · rw [if_neg h2] at h
    refine RuP.jn rfl h2 ?_
    refine RuP.step (pc' := 317) (ls' := [some (.inr (.inr (some 84))), some (.inl l1)]) (st' := [.inr (.inr (some 84))]) (h1 := hp L (ax_u2 q14.2 105 ((s 84 31).toNat) q14.1) c e) rfl ?_
    refine RuP.step (pc' := 320) (ls' := [some (.inr (.inr (some 84))), some (.inl l1)]) (st' := [.inr (.inr (some 93))]) (h1 := hp L (ax_u2 q14.2 105 ((s 84 31).toNat) q14.1) c e) rfl ?_
    refine RuP.step (pc' := 321) (ls' := [some (.inr (.inr (some 84))), some (.inl l1)]) (st' := [.inr (.inr (some 84)), .inr (.inr (some 93))]) (h1 := hp L (ax_u2 q14.2 105 ((s 84 31).toNat) q14.1) c e) rfl ?_
    refine RuP.step (pc' := 324) (ls' := [some (.inr (.inr (some 84))), some (.inl l1)]) (st' := [.inr (.inr (some 105)), .inr (.inr (some 93))]) (h1 := hp L (ax_u2 q14.2 105 ((s 84 31).toNat) q14.1) c e) rfl ?_
    refine RuP.step (pc' := 325) (ls' := [some (.inr (.inr (some 84))), some (.inl l1)]) (st' := [.inr (.inr (some 84)), .inr (.inr (some 105)), .inr (.inr (some 93))]) (h1 := hp L (ax_u2 q14.2 105 ((s 84 31).toNat) q14.1) c e) rfl ?_
    refine RuP.step (pc' := 328) (ls' := [some (.inr (.inr (some 84))), some (.inl l1)]) (st' := [.inl (q14.2 84 31), .inr (.inr (some 105)), .inr (.inr (some 93))]) (h1 := hp L (ax_u2 q14.2 105 ((s 84 31).toNat) q14.1) c e) rfl ?_
    obtain ⟨b3, h⟩ := gd_some h
    refine RuP.ald (f := fun t => t == 0) (j := q14.2 84 31) (a := 105) rfl rfl b3.1 b3.2 ?_
    refine RuP.step (pc' := 330) (ls' := [some (.inr (.inr (some 84))), some (.inl l1)]) (st' := [.inl 1, .inl ((ax_u2 q14.2 105 ((s 84 31).toNat) q14.1) 105 ((q14.2 84 31).toNat)), .inr (.inr (some 93))]) (h1 := hp L (ax_u2 q14.2 105 ((s 84 31).toNat) q14.1) c e) rfl ?_
    obtain ⟨b4, h⟩ := gd_some h
    refine RuP.ast (f := fun t => t == 1 || t == 3) (j := (ax_u2 q14.2 105 ((s 84 31).toNat) q14.1) 105 ((q14.2 84 31).toNat)) (a := 93) rfl rfl (by decide) rfl rfl b4.1 b4.2 ?_
    exact bl_233_331 hk221 _ _ _ h
noncomputable def j_233_244 (k221 : (Int → Sg → Option Sg)) (l1 : Int) (s : Sg) : Option Sg :=
  (gd (g_252 1 s) (
  ((some (f_252 1 s)).bind fun q13 =>
  (gd (0 ≤ s 84 31 ∧ s 84 31 < 8200) (
  (gd (0 ≤ q13.2 84 31 ∧ q13.2 84 31 < 8200) (
  (if (ax_u2 q13.2 104 ((s 84 31).toNat) ((if q13.1 = 0 then (-1) else ax_w32 ((q13.2 84 18) - 1)) : Int)) 104 ((q13.2 84 31).toNat) < 0 then
    j_233_290 k221 l1 (ax_u2 q13.2 104 ((s 84 31).toNat) ((if q13.1 = 0 then (-1) else ax_w32 ((q13.2 84 18) - 1)) : Int))
  else
    ((f_231 17 (ax_u2 q13.2 104 ((s 84 31).toNat) ((if q13.1 = 0 then (-1) else ax_w32 ((q13.2 84 18) - 1)) : Int))).bind fun q15 =>
    j_233_290 k221 l1 q15.2)))))))))
set_option maxRecDepth 20000 in
theorem bl_233_244 {L c : Nat} {e : Nat → Nat} {k221 : (Int → Sg → Option Sg)} (hk221 : ∀ (l1 : Int) (s : Sg) (q : Sg), k221 l1 s = some q → RuP 8 tb_m233 221 [some (.inr (.inr (some 84))), some (.inl l1)] [] (hp L s c e) (oV L c e q)) : ∀ (l1 : Int) (s : Sg) (q : Sg), j_233_244 k221 l1 s = some q → RuP 8 tb_m233 244 [some (.inr (.inr (some 84))), some (.inl l1)] [] (hp L s c e) (oV L c e q) := by
  intro l1 s q h
  unfold j_233_244 at h
  refine RuP.step (pc' := 245) (ls' := [some (.inr (.inr (some 84))), some (.inl l1)]) (st' := [.inr (.inr (some 84))]) (h1 := hp L s c e) rfl ?_
  refine RuP.step (pc' := 248) (ls' := [some (.inr (.inr (some 84))), some (.inl l1)]) (st' := [.inr (.inr (some 104))]) (h1 := hp L s c e) rfl ?_
  refine RuP.step (pc' := 249) (ls' := [some (.inr (.inr (some 84))), some (.inl l1)]) (st' := [.inr (.inr (some 84)), .inr (.inr (some 104))]) (h1 := hp L s c e) rfl ?_
  refine RuP.step (pc' := 252) (ls' := [some (.inr (.inr (some 84))), some (.inl l1)]) (st' := [.inl (s 84 31), .inr (.inr (some 104))]) (h1 := hp L s c e) rfl ?_
  refine RuP.step (pc' := 253) (ls' := [some (.inr (.inr (some 84))), some (.inl l1)]) (st' := [.inr (.inr (some 84)), .inl (s 84 31), .inr (.inr (some 104))]) (h1 := hp L s c e) rfl ?_
  refine RuP.step (pc' := 254) (ls' := [some (.inr (.inr (some 84))), some (.inl l1)]) (st' := [.inl 1, .inr (.inr (some 84)), .inl (s 84 31), .inr (.inr (some 104))]) (h1 := hp L s c e) rfl ?_
  obtain ⟨b0, h⟩ := gd_some h
  obtain ⟨q13, h1, h⟩ := bd_some h
  refine RuP.cIe h1 rfl (EvP.ip ((ev_252 1 b0).up (by decide))) ?_
  have J2 : ∀ v1_0 : Int, v1_0 = ((if q13.1 = 0 then (-1) else ax_w32 ((q13.2 84 18) - 1)) : Int) → RuP 8 tb_m233 270 [some (.inr (.inr (some 84))), some (.inl l1)] [.inl v1_0, .inl (s 84 31), .inr (.inr (some 104))] (hp L q13.2 c e) (oV L c e q) := by
    intro v1_0 ev1_0
    subst ev1_0
    obtain ⟨b2, h⟩ := gd_some h
    refine RuP.ast (f := fun t => t == 0) (j := s 84 31) (a := 104) rfl rfl (by decide) rfl rfl b2.1 b2.2 ?_
    refine RuP.step (pc' := 272) (ls' := [some (.inr (.inr (some 84))), some (.inl l1)]) (st' := [.inr (.inr (some 84))]) (h1 := hp L (ax_u2 q13.2 104 ((s 84 31).toNat) ((if q13.1 = 0 then (-1) else ax_w32 ((q13.2 84 18) - 1)) : Int)) c e) rfl ?_
    refine RuP.step (pc' := 275) (ls' := [some (.inr (.inr (some 84))), some (.inl l1)]) (st' := [.inr (.inr (some 104))]) (h1 := hp L (ax_u2 q13.2 104 ((s 84 31).toNat) ((if q13.1 = 0 then (-1) else ax_w32 ((q13.2 84 18) - 1)) : Int)) c e) rfl ?_
    refine RuP.step (pc' := 276) (ls' := [some (.inr (.inr (some 84))), some (.inl l1)]) (st' := [.inr (.inr (some 84)), .inr (.inr (some 104))]) (h1 := hp L (ax_u2 q13.2 104 ((s 84 31).toNat) ((if q13.1 = 0 then (-1) else ax_w32 ((q13.2 84 18) - 1)) : Int)) c e) rfl ?_
    refine RuP.step (pc' := 279) (ls' := [some (.inr (.inr (some 84))), some (.inl l1)]) (st' := [.inl (q13.2 84 31), .inr (.inr (some 104))]) (h1 := hp L (ax_u2 q13.2 104 ((s 84 31).toNat) ((if q13.1 = 0 then (-1) else ax_w32 ((q13.2 84 18) - 1)) : Int)) c e) rfl ?_
    obtain ⟨b3, h⟩ := gd_some h
    refine RuP.ald (f := fun t => t == 0) (j := q13.2 84 31) (a := 104) rfl rfl b3.1 b3.2 ?_
    by_cases h4 : (ax_u2 q13.2 104 ((s 84 31).toNat) ((if q13.1 = 0 then (-1) else ax_w32 ((q13.2 84 18) - 1)) : Int)) 104 ((q13.2 84 31).toNat) < 0
    · rw [if_pos h4] at h
      refine RuP.jy rfl h4 ?_
      exact bl_233_290 hk221 _ _ _ h
    · rw [if_neg h4] at h
      refine RuP.jn rfl h4 ?_
      refine RuP.step (pc' := 284) (ls' := [some (.inr (.inr (some 84))), some (.inl l1)]) (st' := [.inr (.inr (some 84))]) (h1 := hp L (ax_u2 q13.2 104 ((s 84 31).toNat) ((if q13.1 = 0 then (-1) else ax_w32 ((q13.2 84 18) - 1)) : Int)) c e) rfl ?_
      refine RuP.step (pc' := 286) (ls' := [some (.inr (.inr (some 84))), some (.inl l1)]) (st' := [.inl 17, .inr (.inr (some 84))]) (h1 := hp L (ax_u2 q13.2 104 ((s 84 31).toNat) ((if q13.1 = 0 then (-1) else ax_w32 ((q13.2 84 18) - 1)) : Int)) c e) rfl ?_
      obtain ⟨q15, h1, h⟩ := bd_some h
      refine RuP.cI rfl ((ev_231 h1).up (by decide)) ?_
      refine RuP.step (pc' := 290) (ls' := [some (.inr (.inr (some 84))), some (.inl l1)]) (st' := []) (h1 := hp L q15.2 c e) rfl ?_
      exact bl_233_290 hk221 _ _ _ h
  by_cases h5 : q13.1 = 0
  · refine RuP.jy rfl h5 ?_
    refine RuP.step (pc' := 270) (ls' := [some (.inr (.inr (some 84))), some (.inl l1)]) (st' := [.inl (-1), .inl (s 84 31), .inr (.inr (some 104))]) (h1 := hp L q13.2 c e) rfl ?_
    exact J2 _ (by simp only [if_pos h5])
  · refine RuP.jn rfl h5 ?_
    refine RuP.step (pc' := 261) (ls' := [some (.inr (.inr (some 84))), some (.inl l1)]) (st' := [.inr (.inr (some 84)), .inl (s 84 31), .inr (.inr (some 104))]) (h1 := hp L q13.2 c e) rfl ?_
    refine RuP.step (pc' := 264) (ls' := [some (.inr (.inr (some 84))), some (.inl l1)]) (st' := [.inl (q13.2 84 18), .inl (s 84 31), .inr (.inr (some 104))]) (h1 := hp L q13.2 c e) rfl ?_
    refine RuP.step (pc' := 265) (ls' := [some (.inr (.inr (some 84))), some (.inl l1)]) (st' := [.inl 1, .inl (q13.2 84 18), .inl (s 84 31), .inr (.inr (some 104))]) (h1 := hp L q13.2 c e) rfl ?_
    refine RuP.step (pc' := 266) (ls' := [some (.inr (.inr (some 84))), some (.inl l1)]) (st' := [.inl (ax_w32 ((q13.2 84 18) - 1)), .inl (s 84 31), .inr (.inr (some 104))]) (h1 := hp L q13.2 c e) rfl ?_
    refine RuP.step (pc' := 270) (ls' := [some (.inr (.inr (some 84))), some (.inl l1)]) (st' := [.inl (ax_w32 ((q13.2 84 18) - 1)), .inl (s 84 31), .inr (.inr (some 104))]) (h1 := hp L q13.2 c e) rfl ?_
    exact J2 _ (by simp only [if_neg h5])
noncomputable def j_233_221 : Nat → Int → Sg → Option Sg
  | 0, _, _ => none
  | F + 1, l1, s =>
    (if ¬ (s 84 6) = 0 then
      j_233_354 l1 s
    else
      (gd (g_232 2 s) (
      (if ¬ (f_232 2 s) = 0 then
        j_233_244 (j_233_221 F) l1 s
      else
        (gd (g_232 1 s) (
        (if f_232 1 s = 0 then
          j_233_354 l1 s
        else
          j_233_244 (j_233_221 F) l1 s)))))))
set_option maxRecDepth 20000 in
theorem bl_233_221 {L c : Nat} {e : Nat → Nat} : ∀ (F : Nat) (l1 : Int) (s : Sg) (q : Sg), j_233_221 F l1 s = some q → RuP 8 tb_m233 221 [some (.inr (.inr (some 84))), some (.inl l1)] [] (hp L s c e) (oV L c e q) := by
  intro F
  induction F with
  | zero =>
    intro l1 s q h
    rw [j_233_221] at h
    cases h
  | succ F ih =>
    intro l1 s q h
    rw [j_233_221] at h
    refine RuP.step (pc' := 222) (ls' := [some (.inr (.inr (some 84))), some (.inl l1)]) (st' := [.inr (.inr (some 84))]) (h1 := hp L s c e) rfl ?_
    refine RuP.step (pc' := 225) (ls' := [some (.inr (.inr (some 84))), some (.inl l1)]) (st' := [.inl (s 84 6)]) (h1 := hp L s c e) rfl ?_
    by_cases h0 : ¬ (s 84 6) = 0
    · rw [if_pos h0] at h
      refine RuP.jy rfl h0 ?_
      exact bl_233_354 _ _ _ h
    · rw [if_neg h0] at h
      refine RuP.jn rfl h0 ?_
      refine RuP.step (pc' := 229) (ls' := [some (.inr (.inr (some 84))), some (.inl l1)]) (st' := [.inr (.inr (some 84))]) (h1 := hp L s c e) rfl ?_
      refine RuP.step (pc' := 230) (ls' := [some (.inr (.inr (some 84))), some (.inl l1)]) (st' := [.inl 2, .inr (.inr (some 84))]) (h1 := hp L s c e) rfl ?_
      obtain ⟨b1, h⟩ := gd_some h
      refine RuP.cI rfl (EvP.i ((ev_232 2 b1).up (by decide))) ?_
      by_cases h2 : ¬ (f_232 2 s) = 0
      · rw [if_pos h2] at h
        refine RuP.jy rfl h2 ?_
        exact bl_233_244 ih _ _ _ h
      · rw [if_neg h2] at h
        refine RuP.jn rfl h2 ?_
        refine RuP.step (pc' := 237) (ls' := [some (.inr (.inr (some 84))), some (.inl l1)]) (st' := [.inr (.inr (some 84))]) (h1 := hp L s c e) rfl ?_
        refine RuP.step (pc' := 238) (ls' := [some (.inr (.inr (some 84))), some (.inl l1)]) (st' := [.inl 1, .inr (.inr (some 84))]) (h1 := hp L s c e) rfl ?_
        obtain ⟨b3, h⟩ := gd_some h
        refine RuP.cI rfl (EvP.i ((ev_232 1 b3).up (by decide))) ?_
        by_cases h4 : f_232 1 s = 0
        · rw [if_pos h4] at h
          refine RuP.jy rfl h4 ?_
          exact bl_233_354 _ _ _ h
        · rw [if_neg h4] at h
          refine RuP.jn rfl h4 ?_
          exact bl_233_244 ih _ _ _ h
noncomputable def f_233 (s : Sg) : Option Sg :=
  (gd (0 ≤ s 84 19 ∧ s 84 19 < 4100) (
  (gd (0 ≤ s 84 19 ∧ s 84 19 < 4100) (
  (gd (0 ≤ s 84 19 ∧ s 84 19 < 4100) (
  (gd (0 ≤ s 84 19 ∧ s 84 19 < 4100) (
  (gd (0 ≤ s 84 19 ∧ s 84 19 < 4100) (
  (gd (0 ≤ s 84 19 ∧ s 84 19 < 4100) (
  (gd (g_252 31 (ax_u2 (ax_u2 (ax_u2 (ax_u2 (ax_u2 (ax_u2 (ax_u2 s 96 ((s 84 19).toNat) (-1)) 98 ((s 84 19).toNat) (s 84 31)) 99 ((s 84 19).toNat) 0) 100 ((s 84 19).toNat) (-1)) 102 ((s 84 19).toNat) 0) 103 ((s 84 19).toNat) (s 84 47)) 84 46 (-1))) (
  ((some (f_252 31 (ax_u2 (ax_u2 (ax_u2 (ax_u2 (ax_u2 (ax_u2 (ax_u2 s 96 ((s 84 19).toNat) (-1)) 98 ((s 84 19).toNat) (s 84 31)) 99 ((s 84 19).toNat) 0) 100 ((s 84 19).toNat) (-1)) 102 ((s 84 19).toNat) 0) 103 ((s 84 19).toNat) (s 84 47)) 84 46 (-1)))).bind fun q1 =>
  (if ¬ q1.1 = 0 then
    j_233_76 (s 84 19) q1.2
  else
    (gd (g_252 32 q1.2) (
    ((some (f_252 32 q1.2)).bind fun q8 =>
    (if q8.1 = 0 then
      (gd (g_252 33 q8.2) (
      ((some (f_252 33 q8.2)).bind fun q9 =>
      (if q9.1 = 0 then
        ((f_231 34 q9.2).bind fun q10 =>
        (gd (0 ≤ s 84 19 ∧ s 84 19 < 4100) (
        ((f_231 1 (ax_u2 q10.2 94 ((s 84 19).toNat) 3)).bind fun q11 =>
        (gd (0 ≤ s 84 19 ∧ s 84 19 < 4100) (
        j_233_221 FU (s 84 19) (ax_u2 q11.2 95 ((s 84 19).toNat) q11.1)))))))
      else
        ((f_253 (s 84 19) q9.2).bind fun q16 =>
        j_233_359 (s 84 19) q16)))))
    else
      j_233_76 (s 84 19) q8.2))))))))))))))))))))
set_option maxRecDepth 20000 in
theorem ev_233 {L c : Nat} {e : Nat → Nat} {s : Sg} {q : Sg} (h : f_233 s = some q) : EvP 9 233 [.inr (.inr (some 84))] (hp L s c e) (oV L c e q) := by
  unfold f_233 at h
  refine EvP.of (μ := tb_m233) (ls := [some (.inr (.inr (some 84))), none]) rfl (Nat.le_of_ble_eq_true rfl) rfl ?_
  refine RuP.step (pc' := 1) (ls' := [some (.inr (.inr (some 84))), none]) (st' := [.inr (.inr (some 84))]) (h1 := hp L s c e) rfl ?_
  refine RuP.step (pc' := 4) (ls' := [some (.inr (.inr (some 84))), none]) (st' := [.inl (s 84 19)]) (h1 := hp L s c e) rfl ?_
  refine RuP.step (pc' := 5) (ls' := [some (.inr (.inr (some 84))), some (.inl (s 84 19))]) (st' := []) (h1 := hp L s c e) rfl ?_
  refine RuP.step (pc' := 6) (ls' := [some (.inr (.inr (some 84))), some (.inl (s 84 19))]) (st' := [.inr (.inr (some 84))]) (h1 := hp L s c e) rfl ?_
  refine RuP.step (pc' := 9) (ls' := [some (.inr (.inr (some 84))), some (.inl (s 84 19))]) (st' := [.inr (.inr (some 96))]) (h1 := hp L s c e) rfl ?_
  refine RuP.step (pc' := 10) (ls' := [some (.inr (.inr (some 84))), some (.inl (s 84 19))]) (st' := [.inl (s 84 19), .inr (.inr (some 96))]) (h1 := hp L s c e) rfl ?_
  refine RuP.step (pc' := 11) (ls' := [some (.inr (.inr (some 84))), some (.inl (s 84 19))]) (st' := [.inl (-1), .inl (s 84 19), .inr (.inr (some 96))]) (h1 := hp L s c e) rfl ?_
  obtain ⟨b0, h⟩ := gd_some h
  refine RuP.ast (f := fun t => t == 0) (j := s 84 19) (a := 96) rfl rfl (by decide) rfl rfl b0.1 b0.2 ?_
  refine RuP.step (pc' := 13) (ls' := [some (.inr (.inr (some 84))), some (.inl (s 84 19))]) (st' := [.inr (.inr (some 84))]) (h1 := hp L (ax_u2 s 96 ((s 84 19).toNat) (-1)) c e) rfl ?_
  refine RuP.step (pc' := 16) (ls' := [some (.inr (.inr (some 84))), some (.inl (s 84 19))]) (st' := [.inr (.inr (some 98))]) (h1 := hp L (ax_u2 s 96 ((s 84 19).toNat) (-1)) c e) rfl ?_
  refine RuP.step (pc' := 17) (ls' := [some (.inr (.inr (some 84))), some (.inl (s 84 19))]) (st' := [.inl (s 84 19), .inr (.inr (some 98))]) (h1 := hp L (ax_u2 s 96 ((s 84 19).toNat) (-1)) c e) rfl ?_
  refine RuP.step (pc' := 18) (ls' := [some (.inr (.inr (some 84))), some (.inl (s 84 19))]) (st' := [.inr (.inr (some 84)), .inl (s 84 19), .inr (.inr (some 98))]) (h1 := hp L (ax_u2 s 96 ((s 84 19).toNat) (-1)) c e) rfl ?_
  refine RuP.step (pc' := 21) (ls' := [some (.inr (.inr (some 84))), some (.inl (s 84 19))]) (st' := [.inl (s 84 31), .inl (s 84 19), .inr (.inr (some 98))]) (h1 := hp L (ax_u2 s 96 ((s 84 19).toNat) (-1)) c e) rfl ?_
  obtain ⟨b1, h⟩ := gd_some h
  refine RuP.ast (f := fun t => t == 0) (j := s 84 19) (a := 98) rfl rfl (by decide) rfl rfl b1.1 b1.2 ?_
  refine RuP.step (pc' := 23) (ls' := [some (.inr (.inr (some 84))), some (.inl (s 84 19))]) (st' := [.inr (.inr (some 84))]) (h1 := hp L (ax_u2 (ax_u2 s 96 ((s 84 19).toNat) (-1)) 98 ((s 84 19).toNat) (s 84 31)) c e) rfl ?_
  refine RuP.step (pc' := 26) (ls' := [some (.inr (.inr (some 84))), some (.inl (s 84 19))]) (st' := [.inr (.inr (some 99))]) (h1 := hp L (ax_u2 (ax_u2 s 96 ((s 84 19).toNat) (-1)) 98 ((s 84 19).toNat) (s 84 31)) c e) rfl ?_
  refine RuP.step (pc' := 27) (ls' := [some (.inr (.inr (some 84))), some (.inl (s 84 19))]) (st' := [.inl (s 84 19), .inr (.inr (some 99))]) (h1 := hp L (ax_u2 (ax_u2 s 96 ((s 84 19).toNat) (-1)) 98 ((s 84 19).toNat) (s 84 31)) c e) rfl ?_
  refine RuP.step (pc' := 28) (ls' := [some (.inr (.inr (some 84))), some (.inl (s 84 19))]) (st' := [.inl 0, .inl (s 84 19), .inr (.inr (some 99))]) (h1 := hp L (ax_u2 (ax_u2 s 96 ((s 84 19).toNat) (-1)) 98 ((s 84 19).toNat) (s 84 31)) c e) rfl ?_
  obtain ⟨b2, h⟩ := gd_some h
  refine RuP.ast (f := fun t => t == 0) (j := s 84 19) (a := 99) rfl rfl (by decide) rfl rfl b2.1 b2.2 ?_
  refine RuP.step (pc' := 30) (ls' := [some (.inr (.inr (some 84))), some (.inl (s 84 19))]) (st' := [.inr (.inr (some 84))]) (h1 := hp L (ax_u2 (ax_u2 (ax_u2 s 96 ((s 84 19).toNat) (-1)) 98 ((s 84 19).toNat) (s 84 31)) 99 ((s 84 19).toNat) 0) c e) rfl ?_
  refine RuP.step (pc' := 33) (ls' := [some (.inr (.inr (some 84))), some (.inl (s 84 19))]) (st' := [.inr (.inr (some 100))]) (h1 := hp L (ax_u2 (ax_u2 (ax_u2 s 96 ((s 84 19).toNat) (-1)) 98 ((s 84 19).toNat) (s 84 31)) 99 ((s 84 19).toNat) 0) c e) rfl ?_
  refine RuP.step (pc' := 34) (ls' := [some (.inr (.inr (some 84))), some (.inl (s 84 19))]) (st' := [.inl (s 84 19), .inr (.inr (some 100))]) (h1 := hp L (ax_u2 (ax_u2 (ax_u2 s 96 ((s 84 19).toNat) (-1)) 98 ((s 84 19).toNat) (s 84 31)) 99 ((s 84 19).toNat) 0) c e) rfl ?_
  refine RuP.step (pc' := 35) (ls' := [some (.inr (.inr (some 84))), some (.inl (s 84 19))]) (st' := [.inl (-1), .inl (s 84 19), .inr (.inr (some 100))]) (h1 := hp L (ax_u2 (ax_u2 (ax_u2 s 96 ((s 84 19).toNat) (-1)) 98 ((s 84 19).toNat) (s 84 31)) 99 ((s 84 19).toNat) 0) c e) rfl ?_
  obtain ⟨b3, h⟩ := gd_some h
  refine RuP.ast (f := fun t => t == 0) (j := s 84 19) (a := 100) rfl rfl (by decide) rfl rfl b3.1 b3.2 ?_
  refine RuP.step (pc' := 37) (ls' := [some (.inr (.inr (some 84))), some (.inl (s 84 19))]) (st' := [.inr (.inr (some 84))]) (h1 := hp L (ax_u2 (ax_u2 (ax_u2 (ax_u2 s 96 ((s 84 19).toNat) (-1)) 98 ((s 84 19).toNat) (s 84 31)) 99 ((s 84 19).toNat) 0) 100 ((s 84 19).toNat) (-1)) c e) rfl ?_
  refine RuP.step (pc' := 40) (ls' := [some (.inr (.inr (some 84))), some (.inl (s 84 19))]) (st' := [.inr (.inr (some 102))]) (h1 := hp L (ax_u2 (ax_u2 (ax_u2 (ax_u2 s 96 ((s 84 19).toNat) (-1)) 98 ((s 84 19).toNat) (s 84 31)) 99 ((s 84 19).toNat) 0) 100 ((s 84 19).toNat) (-1)) c e) rfl ?_
  refine RuP.step (pc' := 41) (ls' := [some (.inr (.inr (some 84))), some (.inl (s 84 19))]) (st' := [.inl (s 84 19), .inr (.inr (some 102))]) (h1 := hp L (ax_u2 (ax_u2 (ax_u2 (ax_u2 s 96 ((s 84 19).toNat) (-1)) 98 ((s 84 19).toNat) (s 84 31)) 99 ((s 84 19).toNat) 0) 100 ((s 84 19).toNat) (-1)) c e) rfl ?_
  refine RuP.step (pc' := 42) (ls' := [some (.inr (.inr (some 84))), some (.inl (s 84 19))]) (st' := [.inl 0, .inl (s 84 19), .inr (.inr (some 102))]) (h1 := hp L (ax_u2 (ax_u2 (ax_u2 (ax_u2 s 96 ((s 84 19).toNat) (-1)) 98 ((s 84 19).toNat) (s 84 31)) 99 ((s 84 19).toNat) 0) 100 ((s 84 19).toNat) (-1)) c e) rfl ?_
  obtain ⟨b4, h⟩ := gd_some h
  refine RuP.ast (f := fun t => t == 0) (j := s 84 19) (a := 102) rfl rfl (by decide) rfl rfl b4.1 b4.2 ?_
  refine RuP.step (pc' := 44) (ls' := [some (.inr (.inr (some 84))), some (.inl (s 84 19))]) (st' := [.inr (.inr (some 84))]) (h1 := hp L (ax_u2 (ax_u2 (ax_u2 (ax_u2 (ax_u2 s 96 ((s 84 19).toNat) (-1)) 98 ((s 84 19).toNat) (s 84 31)) 99 ((s 84 19).toNat) 0) 100 ((s 84 19).toNat) (-1)) 102 ((s 84 19).toNat) 0) c e) rfl ?_
  refine RuP.step (pc' := 47) (ls' := [some (.inr (.inr (some 84))), some (.inl (s 84 19))]) (st' := [.inr (.inr (some 103))]) (h1 := hp L (ax_u2 (ax_u2 (ax_u2 (ax_u2 (ax_u2 s 96 ((s 84 19).toNat) (-1)) 98 ((s 84 19).toNat) (s 84 31)) 99 ((s 84 19).toNat) 0) 100 ((s 84 19).toNat) (-1)) 102 ((s 84 19).toNat) 0) c e) rfl ?_
  refine RuP.step (pc' := 48) (ls' := [some (.inr (.inr (some 84))), some (.inl (s 84 19))]) (st' := [.inl (s 84 19), .inr (.inr (some 103))]) (h1 := hp L (ax_u2 (ax_u2 (ax_u2 (ax_u2 (ax_u2 s 96 ((s 84 19).toNat) (-1)) 98 ((s 84 19).toNat) (s 84 31)) 99 ((s 84 19).toNat) 0) 100 ((s 84 19).toNat) (-1)) 102 ((s 84 19).toNat) 0) c e) rfl ?_
  refine RuP.step (pc' := 49) (ls' := [some (.inr (.inr (some 84))), some (.inl (s 84 19))]) (st' := [.inr (.inr (some 84)), .inl (s 84 19), .inr (.inr (some 103))]) (h1 := hp L (ax_u2 (ax_u2 (ax_u2 (ax_u2 (ax_u2 s 96 ((s 84 19).toNat) (-1)) 98 ((s 84 19).toNat) (s 84 31)) 99 ((s 84 19).toNat) 0) 100 ((s 84 19).toNat) (-1)) 102 ((s 84 19).toNat) 0) c e) rfl ?_
  refine RuP.step (pc' := 52) (ls' := [some (.inr (.inr (some 84))), some (.inl (s 84 19))]) (st' := [.inl (s 84 47), .inl (s 84 19), .inr (.inr (some 103))]) (h1 := hp L (ax_u2 (ax_u2 (ax_u2 (ax_u2 (ax_u2 s 96 ((s 84 19).toNat) (-1)) 98 ((s 84 19).toNat) (s 84 31)) 99 ((s 84 19).toNat) 0) 100 ((s 84 19).toNat) (-1)) 102 ((s 84 19).toNat) 0) c e) rfl ?_
  obtain ⟨b5, h⟩ := gd_some h
  refine RuP.ast (f := fun t => t == 0) (j := s 84 19) (a := 103) rfl rfl (by decide) rfl rfl b5.1 b5.2 ?_
  refine RuP.step (pc' := 54) (ls' := [some (.inr (.inr (some 84))), some (.inl (s 84 19))]) (st' := [.inr (.inr (some 84))]) (h1 := hp L (ax_u2 (ax_u2 (ax_u2 (ax_u2 (ax_u2 (ax_u2 s 96 ((s 84 19).toNat) (-1)) 98 ((s 84 19).toNat) (s 84 31)) 99 ((s 84 19).toNat) 0) 100 ((s 84 19).toNat) (-1)) 102 ((s 84 19).toNat) 0) 103 ((s 84 19).toNat) (s 84 47)) c e) rfl ?_
  refine RuP.step (pc' := 55) (ls' := [some (.inr (.inr (some 84))), some (.inl (s 84 19))]) (st' := [.inl (-1), .inr (.inr (some 84))]) (h1 := hp L (ax_u2 (ax_u2 (ax_u2 (ax_u2 (ax_u2 (ax_u2 s 96 ((s 84 19).toNat) (-1)) 98 ((s 84 19).toNat) (s 84 31)) 99 ((s 84 19).toNat) 0) 100 ((s 84 19).toNat) (-1)) 102 ((s 84 19).toNat) 0) 103 ((s 84 19).toNat) (s 84 47)) c e) rfl ?_
  refine RuP.step (pc' := 58) (ls' := [some (.inr (.inr (some 84))), some (.inl (s 84 19))]) (st' := []) (h1 := hp L (ax_u2 (ax_u2 (ax_u2 (ax_u2 (ax_u2 (ax_u2 (ax_u2 s 96 ((s 84 19).toNat) (-1)) 98 ((s 84 19).toNat) (s 84 31)) 99 ((s 84 19).toNat) 0) 100 ((s 84 19).toNat) (-1)) 102 ((s 84 19).toNat) 0) 103 ((s 84 19).toNat) (s 84 47)) 84 46 (-1)) c e) rfl ?_
  refine RuP.step (pc' := 59) (ls' := [some (.inr (.inr (some 84))), some (.inl (s 84 19))]) (st' := [.inr (.inr (some 84))]) (h1 := hp L (ax_u2 (ax_u2 (ax_u2 (ax_u2 (ax_u2 (ax_u2 (ax_u2 s 96 ((s 84 19).toNat) (-1)) 98 ((s 84 19).toNat) (s 84 31)) 99 ((s 84 19).toNat) 0) 100 ((s 84 19).toNat) (-1)) 102 ((s 84 19).toNat) 0) 103 ((s 84 19).toNat) (s 84 47)) 84 46 (-1)) c e) rfl ?_
  refine RuP.step (pc' := 61) (ls' := [some (.inr (.inr (some 84))), some (.inl (s 84 19))]) (st' := [.inl 31, .inr (.inr (some 84))]) (h1 := hp L (ax_u2 (ax_u2 (ax_u2 (ax_u2 (ax_u2 (ax_u2 (ax_u2 s 96 ((s 84 19).toNat) (-1)) 98 ((s 84 19).toNat) (s 84 31)) 99 ((s 84 19).toNat) 0) 100 ((s 84 19).toNat) (-1)) 102 ((s 84 19).toNat) 0) 103 ((s 84 19).toNat) (s 84 47)) 84 46 (-1)) c e) rfl ?_
  obtain ⟨b6, h⟩ := gd_some h
  obtain ⟨q1, h1, h⟩ := bd_some h
  refine RuP.cIe h1 rfl (EvP.ip ((ev_252 31 b6).up (by decide))) ?_
  by_cases h7 : ¬ q1.1 = 0
  · rw [if_pos h7] at h
    refine RuP.jy rfl h7 ?_
    exact bl_233_76 _ _ _ h
  · rw [if_neg h7] at h
    refine RuP.jn rfl h7 ?_
    refine RuP.step (pc' := 68) (ls' := [some (.inr (.inr (some 84))), some (.inl (s 84 19))]) (st' := [.inr (.inr (some 84))]) (h1 := hp L q1.2 c e) rfl ?_
    refine RuP.step (pc' := 70) (ls' := [some (.inr (.inr (some 84))), some (.inl (s 84 19))]) (st' := [.inl 32, .inr (.inr (some 84))]) (h1 := hp L q1.2 c e) rfl ?_
    obtain ⟨b8, h⟩ := gd_some h
    obtain ⟨q8, h1, h⟩ := bd_some h
    refine RuP.cIe h1 rfl (EvP.ip ((ev_252 32 b8).up (by decide))) ?_
    by_cases h9 : q8.1 = 0
    · rw [if_pos h9] at h
      refine RuP.jy rfl h9 ?_
      refine RuP.step (pc' := 180) (ls' := [some (.inr (.inr (some 84))), some (.inl (s 84 19))]) (st' := [.inr (.inr (some 84))]) (h1 := hp L q8.2 c e) rfl ?_
      refine RuP.step (pc' := 182) (ls' := [some (.inr (.inr (some 84))), some (.inl (s 84 19))]) (st' := [.inl 33, .inr (.inr (some 84))]) (h1 := hp L q8.2 c e) rfl ?_
      obtain ⟨b10, h⟩ := gd_some h
      obtain ⟨q9, h1, h⟩ := bd_some h
      refine RuP.cIe h1 rfl (EvP.ip ((ev_252 33 b10).up (by decide))) ?_
      by_cases h11 : q9.1 = 0
      · rw [if_pos h11] at h
        refine RuP.jy rfl h11 ?_
        refine RuP.step (pc' := 197) (ls' := [some (.inr (.inr (some 84))), some (.inl (s 84 19))]) (st' := [.inr (.inr (some 84))]) (h1 := hp L q9.2 c e) rfl ?_
        refine RuP.step (pc' := 199) (ls' := [some (.inr (.inr (some 84))), some (.inl (s 84 19))]) (st' := [.inl 34, .inr (.inr (some 84))]) (h1 := hp L q9.2 c e) rfl ?_
        obtain ⟨q10, h1, h⟩ := bd_some h
        refine RuP.cI rfl ((ev_231 h1).up (by decide)) ?_
        refine RuP.step (pc' := 203) (ls' := [some (.inr (.inr (some 84))), some (.inl (s 84 19))]) (st' := []) (h1 := hp L q10.2 c e) rfl ?_
        refine RuP.step (pc' := 204) (ls' := [some (.inr (.inr (some 84))), some (.inl (s 84 19))]) (st' := [.inr (.inr (some 84))]) (h1 := hp L q10.2 c e) rfl ?_
        refine RuP.step (pc' := 207) (ls' := [some (.inr (.inr (some 84))), some (.inl (s 84 19))]) (st' := [.inr (.inr (some 94))]) (h1 := hp L q10.2 c e) rfl ?_
        refine RuP.step (pc' := 208) (ls' := [some (.inr (.inr (some 84))), some (.inl (s 84 19))]) (st' := [.inl (s 84 19), .inr (.inr (some 94))]) (h1 := hp L q10.2 c e) rfl ?_
        refine RuP.step (pc' := 209) (ls' := [some (.inr (.inr (some 84))), some (.inl (s 84 19))]) (st' := [.inl 3, .inl (s 84 19), .inr (.inr (some 94))]) (h1 := hp L q10.2 c e) rfl ?_
        obtain ⟨b12, h⟩ := gd_some h
        refine RuP.ast (f := fun t => t == 0) (j := s 84 19) (a := 94) rfl rfl (by decide) rfl rfl b12.1 b12.2 ?_
        refine RuP.step (pc' := 211) (ls' := [some (.inr (.inr (some 84))), some (.inl (s 84 19))]) (st' := [.inr (.inr (some 84))]) (h1 := hp L (ax_u2 q10.2 94 ((s 84 19).toNat) 3) c e) rfl ?_
        refine RuP.step (pc' := 214) (ls' := [some (.inr (.inr (some 84))), some (.inl (s 84 19))]) (st' := [.inr (.inr (some 95))]) (h1 := hp L (ax_u2 q10.2 94 ((s 84 19).toNat) 3) c e) rfl ?_
        refine RuP.step (pc' := 215) (ls' := [some (.inr (.inr (some 84))), some (.inl (s 84 19))]) (st' := [.inl (s 84 19), .inr (.inr (some 95))]) (h1 := hp L (ax_u2 q10.2 94 ((s 84 19).toNat) 3) c e) rfl ?_
        refine RuP.step (pc' := 216) (ls' := [some (.inr (.inr (some 84))), some (.inl (s 84 19))]) (st' := [.inr (.inr (some 84)), .inl (s 84 19), .inr (.inr (some 95))]) (h1 := hp L (ax_u2 q10.2 94 ((s 84 19).toNat) 3) c e) rfl ?_
        refine RuP.step (pc' := 217) (ls' := [some (.inr (.inr (some 84))), some (.inl (s 84 19))]) (st' := [.inl 1, .inr (.inr (some 84)), .inl (s 84 19), .inr (.inr (some 95))]) (h1 := hp L (ax_u2 q10.2 94 ((s 84 19).toNat) 3) c e) rfl ?_
        obtain ⟨q11, h1, h⟩ := bd_some h
        refine RuP.cI rfl ((ev_231 h1).up (by decide)) ?_
        obtain ⟨b13, h⟩ := gd_some h
        refine RuP.ast (f := fun t => t == 0) (j := s 84 19) (a := 95) rfl rfl (by decide) rfl rfl b13.1 b13.2 ?_
        exact bl_233_221 FU _ _ _ h
      · rw [if_neg h11] at h
        refine RuP.jn rfl h11 ?_
        refine RuP.step (pc' := 189) (ls' := [some (.inr (.inr (some 84))), some (.inl (s 84 19))]) (st' := [.inr (.inr (some 84))]) (h1 := hp L q9.2 c e) rfl ?_
        refine RuP.step (pc' := 190) (ls' := [some (.inr (.inr (some 84))), some (.inl (s 84 19))]) (st' := [.inl (s 84 19), .inr (.inr (some 84))]) (h1 := hp L q9.2 c e) rfl ?_
        obtain ⟨q16, h1, h⟩ := bd_some h
        refine RuP.cV rfl ((ev_253 h1).up (by decide)) ?_
        refine RuP.step (pc' := 359) (ls' := [some (.inr (.inr (some 84))), some (.inl (s 84 19))]) (st' := []) (h1 := hp L q16 c e) rfl ?_
        exact bl_233_359 _ _ _ h
    · rw [if_neg h9] at h
      refine RuP.jn rfl h9 ?_
      exact bl_233_76 _ _ _ h
/-- MachineTextModel.readAll()V -/
noncomputable def j_209_28 : Nat → Sg → Option Sg
  | 0, _ => none
  | F + 1, s =>
    (if ¬ (s 84 6) = 0 then
      some s
    else
      (gd (g_232 0 s) (
      (if ¬ (f_232 0 s) = 0 then
        some s
      else
        ((f_233 s).bind fun q4 =>
        (j_209_28 F) q4)))))
theorem bl_209_28 {L c : Nat} {e : Nat → Nat} : ∀ (F : Nat) (s : Sg) (q : Sg), j_209_28 F s = some q → RuP 9 tb_m209 28 [some (.inr (.inr (some 84)))] [] (hp L s c e) (oV L c e q) := by
  intro F
  induction F with
  | zero =>
    intro s q h
    rw [j_209_28] at h
    cases h
  | succ F ih =>
    intro s q h
    rw [j_209_28] at h
    refine RuP.step (pc' := 29) (ls' := [some (.inr (.inr (some 84)))]) (st' := [.inr (.inr (some 84))]) (h1 := hp L s c e) rfl ?_
    refine RuP.step (pc' := 32) (ls' := [some (.inr (.inr (some 84)))]) (st' := [.inl (s 84 6)]) (h1 := hp L s c e) rfl ?_
    by_cases h0 : ¬ (s 84 6) = 0
    · rw [if_pos h0] at h
      refine RuP.jy rfl h0 ?_
      cases h
      exact RuP.dV rfl
    · rw [if_neg h0] at h
      refine RuP.jn rfl h0 ?_
      refine RuP.step (pc' := 36) (ls' := [some (.inr (.inr (some 84)))]) (st' := [.inr (.inr (some 84))]) (h1 := hp L s c e) rfl ?_
      refine RuP.step (pc' := 37) (ls' := [some (.inr (.inr (some 84)))]) (st' := [.inl 0, .inr (.inr (some 84))]) (h1 := hp L s c e) rfl ?_
      obtain ⟨b1, h⟩ := gd_some h
      refine RuP.cI rfl (EvP.i ((ev_232 0 b1).up (by decide))) ?_
      by_cases h2 : ¬ (f_232 0 s) = 0
      · rw [if_pos h2] at h
        refine RuP.jy rfl h2 ?_
        cases h
        exact RuP.dV rfl
      · rw [if_neg h2] at h
        refine RuP.jn rfl h2 ?_
        refine RuP.step (pc' := 44) (ls' := [some (.inr (.inr (some 84)))]) (st' := [.inr (.inr (some 84))]) (h1 := hp L s c e) rfl ?_
        obtain ⟨q4, h1, h⟩ := bd_some h
        refine RuP.cV rfl ((ev_233 h1).up (by decide)) ?_
        refine RuP.step (pc' := 28) (ls' := [some (.inr (.inr (some 84)))]) (st' := []) (h1 := hp L q4 c e) rfl ?_
        exact ih _ _ h
noncomputable def f_209 (s : Sg) : Option Sg :=
  ((f_231 30 (ax_u2 s 84 18 0)).bind fun q1 =>
  ((f_231 2 q1.2).bind fun q2 =>
  ((f_231 7 (ax_u2 q2.2 84 30 q2.1)).bind fun q3 =>
  j_209_28 FU q3.2)))
theorem ev_209 {L c : Nat} {e : Nat → Nat} {s : Sg} {q : Sg} (h : f_209 s = some q) : EvP 10 209 [.inr (.inr (some 84))] (hp L s c e) (oV L c e q) := by
  unfold f_209 at h
  refine EvP.of (μ := tb_m209) (ls := [some (.inr (.inr (some 84)))]) rfl (Nat.le_of_ble_eq_true rfl) rfl ?_
  refine RuP.step (pc' := 1) (ls' := [some (.inr (.inr (some 84)))]) (st' := [.inr (.inr (some 84))]) (h1 := hp L s c e) rfl ?_
  refine RuP.step (pc' := 2) (ls' := [some (.inr (.inr (some 84)))]) (st' := [.inl 0, .inr (.inr (some 84))]) (h1 := hp L s c e) rfl ?_
  refine RuP.step (pc' := 5) (ls' := [some (.inr (.inr (some 84)))]) (st' := []) (h1 := hp L (ax_u2 s 84 18 0) c e) rfl ?_
  refine RuP.step (pc' := 6) (ls' := [some (.inr (.inr (some 84)))]) (st' := [.inr (.inr (some 84))]) (h1 := hp L (ax_u2 s 84 18 0) c e) rfl ?_
  refine RuP.step (pc' := 8) (ls' := [some (.inr (.inr (some 84)))]) (st' := [.inl 30, .inr (.inr (some 84))]) (h1 := hp L (ax_u2 s 84 18 0) c e) rfl ?_
  obtain ⟨q1, h1, h⟩ := bd_some h
  refine RuP.cI rfl ((ev_231 h1).up (by decide)) ?_
  refine RuP.step (pc' := 12) (ls' := [some (.inr (.inr (some 84)))]) (st' := []) (h1 := hp L q1.2 c e) rfl ?_
  refine RuP.step (pc' := 13) (ls' := [some (.inr (.inr (some 84)))]) (st' := [.inr (.inr (some 84))]) (h1 := hp L q1.2 c e) rfl ?_
  refine RuP.step (pc' := 14) (ls' := [some (.inr (.inr (some 84)))]) (st' := [.inr (.inr (some 84)), .inr (.inr (some 84))]) (h1 := hp L q1.2 c e) rfl ?_
  refine RuP.step (pc' := 15) (ls' := [some (.inr (.inr (some 84)))]) (st' := [.inl 2, .inr (.inr (some 84)), .inr (.inr (some 84))]) (h1 := hp L q1.2 c e) rfl ?_
  obtain ⟨q2, h1, h⟩ := bd_some h
  refine RuP.cI rfl ((ev_231 h1).up (by decide)) ?_
  refine RuP.step (pc' := 21) (ls' := [some (.inr (.inr (some 84)))]) (st' := []) (h1 := hp L (ax_u2 q2.2 84 30 q2.1) c e) rfl ?_
  refine RuP.step (pc' := 22) (ls' := [some (.inr (.inr (some 84)))]) (st' := [.inr (.inr (some 84))]) (h1 := hp L (ax_u2 q2.2 84 30 q2.1) c e) rfl ?_
  refine RuP.step (pc' := 24) (ls' := [some (.inr (.inr (some 84)))]) (st' := [.inl 7, .inr (.inr (some 84))]) (h1 := hp L (ax_u2 q2.2 84 30 q2.1) c e) rfl ?_
  obtain ⟨q3, h1, h⟩ := bd_some h
  refine RuP.cI rfl ((ev_231 h1).up (by decide)) ?_
  refine RuP.step (pc' := 28) (ls' := [some (.inr (.inr (some 84)))]) (st' := []) (h1 := hp L q3.2 c e) rfl ?_
  exact bl_209_28 FU _ _ h
/-- java/lang/String.isLatin1()Z -/
def f_276_2 (s : Sg) : Int :=
  (if ¬ (s 2 1) = 0 then
    0
  else
    1)
theorem ev_276_2 {L c : Nat} {e : Nat → Nat} {s : Sg} : EvP 1 276 [.inr (.inr (some 2))] (hp L s c e) (oI L c e (f_276_2 s, s)) := by
  have key : ∀ q, f_276_2 s = q → RuP 0 tb_m276 0 [some (.inr (.inr (some 2)))] [] (hp L s c e) (oI L c e (q, s)) := by
    intro q h
    unfold f_276_2 at h
    refine RuP.step (pc' := 3) (ls' := [some (.inr (.inr (some 2)))]) (st' := [.inl 1]) (h1 := hp L s c e) rfl ?_
    refine RuP.step (pc' := 6) (ls' := [some (.inr (.inr (some 2)))]) (st' := []) (h1 := hp L s c e) rfl ?_
    refine RuP.step (pc' := 7) (ls' := [some (.inr (.inr (some 2)))]) (st' := [.inr (.inr (some 2))]) (h1 := hp L s c e) rfl ?_
    refine RuP.step (pc' := 10) (ls' := [some (.inr (.inr (some 2)))]) (st' := [.inl (s 2 1)]) (h1 := hp L s c e) rfl ?_
    by_cases h0 : ¬ (s 2 1) = 0
    · rw [if_pos h0] at h
      refine RuP.jy rfl h0 ?_
      refine RuP.step (pc' := 18) (ls' := [some (.inr (.inr (some 2)))]) (st' := [.inl 0]) (h1 := hp L s c e) rfl ?_
      subst h
      exact RuP.dI rfl
    · rw [if_neg h0] at h
      refine RuP.jn rfl h0 ?_
      refine RuP.step (pc' := 14) (ls' := [some (.inr (.inr (some 2)))]) (st' := [.inl 1]) (h1 := hp L s c e) rfl ?_
      refine RuP.step (pc' := 18) (ls' := [some (.inr (.inr (some 2)))]) (st' := [.inl 1]) (h1 := hp L s c e) rfl ?_
      subst h
      exact RuP.dI rfl
  exact EvP.of (μ := tb_m276) (ls := [some (.inr (.inr (some 2)))]) rfl (Nat.le_of_ble_eq_true rfl) rfl (key _ rfl)
/-- java/lang/String.coder()B -/
noncomputable def f_275_4 (s : Sg) : Option Int :=
  (gd (-128 ≤ s 4 1 ∧ s 4 1 < 128) (
  some (s 4 1)))
theorem ev_275_4 {L c : Nat} {e : Nat → Nat} {s : Sg} {q : Int} (h : f_275_4 s = some q) : EvP 1 275 [.inr (.inr (some 4))] (hp L s c e) (oI L c e (q, s)) := by
  unfold f_275_4 at h
  refine EvP.of (μ := tb_m275) (ls := [some (.inr (.inr (some 4)))]) rfl (Nat.le_of_ble_eq_true rfl) rfl ?_
  refine RuP.step (pc' := 3) (ls' := [some (.inr (.inr (some 4)))]) (st' := [.inl 1]) (h1 := hp L s c e) rfl ?_
  refine RuP.step (pc' := 6) (ls' := [some (.inr (.inr (some 4)))]) (st' := []) (h1 := hp L s c e) rfl ?_
  refine RuP.step (pc' := 7) (ls' := [some (.inr (.inr (some 4)))]) (st' := [.inr (.inr (some 4))]) (h1 := hp L s c e) rfl ?_
  refine RuP.step (pc' := 10) (ls' := [some (.inr (.inr (some 4)))]) (st' := [.inl (s 4 1)]) (h1 := hp L s c e) rfl ?_
  refine RuP.step (pc' := 14) (ls' := [some (.inr (.inr (some 4)))]) (st' := [.inl (s 4 1)]) (h1 := hp L s c e) rfl ?_
  obtain ⟨b0, h⟩ := gd_some h
  cases h
  exact RuP.dY rfl b0
/-- MachineTextModel.read()I -/
noncomputable def j_196_188 (s : Sg) : Option (Int × Sg) :=
  (if s 84 6 ≤ 0 then
    some (s 84 19, (ax_u2 s 84 5 1))
  else
    ((some (f_206 1 s)).bind fun q2 =>
    some (q2.1, q2.2)))
theorem bl_196_188 {L c : Nat} {e : Nat → Nat} : ∀ (z1 : Int) (s : Sg) (q : Int × Sg), j_196_188 s = some q → RuP 10 tb_m196 188 [some (.inr (.inr (some 84))), some (.inl z1)] [] (hp L s c e) (oI L c e q) := by
  intro z1 s q h
  unfold j_196_188 at h
  refine RuP.step (pc' := 189) (ls' := [some (.inr (.inr (some 84))), some (.inl z1)]) (st' := [.inr (.inr (some 84))]) (h1 := hp L s c e) rfl ?_
  refine RuP.step (pc' := 192) (ls' := [some (.inr (.inr (some 84))), some (.inl z1)]) (st' := [.inl (s 84 6)]) (h1 := hp L s c e) rfl ?_
  by_cases h0 : s 84 6 ≤ 0
  · rw [if_pos h0] at h
    refine RuP.jy rfl h0 ?_
    refine RuP.step (pc' := 202) (ls' := [some (.inr (.inr (some 84))), some (.inl z1)]) (st' := [.inr (.inr (some 84))]) (h1 := hp L s c e) rfl ?_
    refine RuP.step (pc' := 203) (ls' := [some (.inr (.inr (some 84))), some (.inl z1)]) (st' := [.inl 1, .inr (.inr (some 84))]) (h1 := hp L s c e) rfl ?_
    refine RuP.step (pc' := 206) (ls' := [some (.inr (.inr (some 84))), some (.inl z1)]) (st' := []) (h1 := hp L (ax_u2 s 84 5 1) c e) rfl ?_
    refine RuP.step (pc' := 207) (ls' := [some (.inr (.inr (some 84))), some (.inl z1)]) (st' := [.inr (.inr (some 84))]) (h1 := hp L (ax_u2 s 84 5 1) c e) rfl ?_
    refine RuP.step (pc' := 210) (ls' := [some (.inr (.inr (some 84))), some (.inl z1)]) (st' := [.inl (s 84 19)]) (h1 := hp L (ax_u2 s 84 5 1) c e) rfl ?_
    cases h
    exact RuP.dI rfl
  · rw [if_neg h0] at h
    refine RuP.jn rfl h0 ?_
    refine RuP.step (pc' := 196) (ls' := [some (.inr (.inr (some 84))), some (.inl z1)]) (st' := [.inr (.inr (some 84))]) (h1 := hp L s c e) rfl ?_
    refine RuP.step (pc' := 197) (ls' := [some (.inr (.inr (some 84))), some (.inl z1)]) (st' := [.inl 1, .inr (.inr (some 84))]) (h1 := hp L s c e) rfl ?_
    obtain ⟨q2, h1, h⟩ := bd_some h
    refine RuP.cIe h1 rfl (EvP.ip ((ev_206 1).up (by decide))) ?_
    cases h
    exact RuP.dI rfl
noncomputable def j_196_177 (s : Sg) : Option (Int × Sg) :=
  (if ¬ (s 84 6) = 0 then
    j_196_188 s
  else
    ((f_216 s).bind fun q3 =>
    j_196_188 q3))
theorem bl_196_177 {L c : Nat} {e : Nat → Nat} : ∀ (z1 : Int) (s : Sg) (q : Int × Sg), j_196_177 s = some q → RuP 10 tb_m196 177 [some (.inr (.inr (some 84))), some (.inl z1)] [] (hp L s c e) (oI L c e q) := by
  intro z1 s q h
  unfold j_196_177 at h
  refine RuP.step (pc' := 178) (ls' := [some (.inr (.inr (some 84))), some (.inl z1)]) (st' := [.inr (.inr (some 84))]) (h1 := hp L s c e) rfl ?_
  refine RuP.step (pc' := 181) (ls' := [some (.inr (.inr (some 84))), some (.inl z1)]) (st' := [.inl (s 84 6)]) (h1 := hp L s c e) rfl ?_
  by_cases h0 : ¬ (s 84 6) = 0
  · rw [if_pos h0] at h
    refine RuP.jy rfl h0 ?_
    exact bl_196_188 _ _ _ h
  · rw [if_neg h0] at h
    refine RuP.jn rfl h0 ?_
    refine RuP.step (pc' := 185) (ls' := [some (.inr (.inr (some 84))), some (.inl z1)]) (st' := [.inr (.inr (some 84))]) (h1 := hp L s c e) rfl ?_
    obtain ⟨q3, h1, h⟩ := bd_some h
    refine RuP.cV rfl ((ev_216 h1).up (by decide)) ?_
    exact bl_196_188 _ _ _ h
noncomputable def j_196_166 (s : Sg) : Option (Int × Sg) :=
  (if ¬ (s 84 6) = 0 then
    j_196_177 s
  else
    ((f_215 s).bind fun q4 =>
    j_196_177 q4))
theorem bl_196_166 {L c : Nat} {e : Nat → Nat} : ∀ (z1 : Int) (s : Sg) (q : Int × Sg), j_196_166 s = some q → RuP 10 tb_m196 166 [some (.inr (.inr (some 84))), some (.inl z1)] [] (hp L s c e) (oI L c e q) := by
  intro z1 s q h
  unfold j_196_166 at h
  refine RuP.step (pc' := 167) (ls' := [some (.inr (.inr (some 84))), some (.inl z1)]) (st' := [.inr (.inr (some 84))]) (h1 := hp L s c e) rfl ?_
  refine RuP.step (pc' := 170) (ls' := [some (.inr (.inr (some 84))), some (.inl z1)]) (st' := [.inl (s 84 6)]) (h1 := hp L s c e) rfl ?_
  by_cases h0 : ¬ (s 84 6) = 0
  · rw [if_pos h0] at h
    refine RuP.jy rfl h0 ?_
    exact bl_196_177 _ _ _ h
  · rw [if_neg h0] at h
    refine RuP.jn rfl h0 ?_
    refine RuP.step (pc' := 174) (ls' := [some (.inr (.inr (some 84))), some (.inl z1)]) (st' := [.inr (.inr (some 84))]) (h1 := hp L s c e) rfl ?_
    obtain ⟨q4, h1, h⟩ := bd_some h
    refine RuP.cV rfl ((ev_215 h1).up (by decide)) ?_
    exact bl_196_177 _ _ _ h
noncomputable def j_196_155 (s : Sg) : Option (Int × Sg) :=
  (if ¬ (s 84 6) = 0 then
    j_196_166 s
  else
    ((f_214 s).bind fun q5 =>
    j_196_166 q5))
theorem bl_196_155 {L c : Nat} {e : Nat → Nat} : ∀ (z1 : Int) (s : Sg) (q : Int × Sg), j_196_155 s = some q → RuP 10 tb_m196 155 [some (.inr (.inr (some 84))), some (.inl z1)] [] (hp L s c e) (oI L c e q) := by
  intro z1 s q h
  unfold j_196_155 at h
  refine RuP.step (pc' := 156) (ls' := [some (.inr (.inr (some 84))), some (.inl z1)]) (st' := [.inr (.inr (some 84))]) (h1 := hp L s c e) rfl ?_
  refine RuP.step (pc' := 159) (ls' := [some (.inr (.inr (some 84))), some (.inl z1)]) (st' := [.inl (s 84 6)]) (h1 := hp L s c e) rfl ?_
  by_cases h0 : ¬ (s 84 6) = 0
  · rw [if_pos h0] at h
    refine RuP.jy rfl h0 ?_
    exact bl_196_166 _ _ _ h
  · rw [if_neg h0] at h
    refine RuP.jn rfl h0 ?_
    refine RuP.step (pc' := 163) (ls' := [some (.inr (.inr (some 84))), some (.inl z1)]) (st' := [.inr (.inr (some 84))]) (h1 := hp L s c e) rfl ?_
    obtain ⟨q5, h1, h⟩ := bd_some h
    refine RuP.cV rfl ((ev_214 h1).up (by decide)) ?_
    exact bl_196_166 _ _ _ h
noncomputable def j_196_144 (s : Sg) : Option (Int × Sg) :=
  (if ¬ (s 84 6) = 0 then
    j_196_155 s
  else
    ((f_213 s).bind fun q6 =>
    j_196_155 q6))
theorem bl_196_144 {L c : Nat} {e : Nat → Nat} : ∀ (z1 : Int) (s : Sg) (q : Int × Sg), j_196_144 s = some q → RuP 10 tb_m196 144 [some (.inr (.inr (some 84))), some (.inl z1)] [] (hp L s c e) (oI L c e q) := by
  intro z1 s q h
  unfold j_196_144 at h
  refine RuP.step (pc' := 145) (ls' := [some (.inr (.inr (some 84))), some (.inl z1)]) (st' := [.inr (.inr (some 84))]) (h1 := hp L s c e) rfl ?_
  refine RuP.step (pc' := 148) (ls' := [some (.inr (.inr (some 84))), some (.inl z1)]) (st' := [.inl (s 84 6)]) (h1 := hp L s c e) rfl ?_
  by_cases h0 : ¬ (s 84 6) = 0
  · rw [if_pos h0] at h
    refine RuP.jy rfl h0 ?_
    exact bl_196_155 _ _ _ h
  · rw [if_neg h0] at h
    refine RuP.jn rfl h0 ?_
    refine RuP.step (pc' := 152) (ls' := [some (.inr (.inr (some 84))), some (.inl z1)]) (st' := [.inr (.inr (some 84))]) (h1 := hp L s c e) rfl ?_
    obtain ⟨q6, h1, h⟩ := bd_some h
    refine RuP.cV rfl ((ev_213 h1).up (by decide)) ?_
    exact bl_196_155 _ _ _ h
noncomputable def j_196_133 (s : Sg) : Option (Int × Sg) :=
  (if ¬ (s 84 6) = 0 then
    j_196_144 s
  else
    ((f_212 s).bind fun q7 =>
    j_196_144 q7))
theorem bl_196_133 {L c : Nat} {e : Nat → Nat} : ∀ (z1 : Int) (s : Sg) (q : Int × Sg), j_196_133 s = some q → RuP 10 tb_m196 133 [some (.inr (.inr (some 84))), some (.inl z1)] [] (hp L s c e) (oI L c e q) := by
  intro z1 s q h
  unfold j_196_133 at h
  refine RuP.step (pc' := 134) (ls' := [some (.inr (.inr (some 84))), some (.inl z1)]) (st' := [.inr (.inr (some 84))]) (h1 := hp L s c e) rfl ?_
  refine RuP.step (pc' := 137) (ls' := [some (.inr (.inr (some 84))), some (.inl z1)]) (st' := [.inl (s 84 6)]) (h1 := hp L s c e) rfl ?_
  by_cases h0 : ¬ (s 84 6) = 0
  · rw [if_pos h0] at h
    refine RuP.jy rfl h0 ?_
    exact bl_196_144 _ _ _ h
  · rw [if_neg h0] at h
    refine RuP.jn rfl h0 ?_
    refine RuP.step (pc' := 141) (ls' := [some (.inr (.inr (some 84))), some (.inl z1)]) (st' := [.inr (.inr (some 84))]) (h1 := hp L s c e) rfl ?_
    obtain ⟨q7, h1, h⟩ := bd_some h
    refine RuP.cV rfl ((ev_212 h1).up (by decide)) ?_
    exact bl_196_144 _ _ _ h
noncomputable def j_196_122 (s : Sg) : Option (Int × Sg) :=
  (if ¬ (s 84 6) = 0 then
    j_196_133 s
  else
    ((f_211 s).bind fun q8 =>
    j_196_133 q8))
theorem bl_196_122 {L c : Nat} {e : Nat → Nat} : ∀ (z1 : Int) (s : Sg) (q : Int × Sg), j_196_122 s = some q → RuP 10 tb_m196 122 [some (.inr (.inr (some 84))), some (.inl z1)] [] (hp L s c e) (oI L c e q) := by
  intro z1 s q h
  unfold j_196_122 at h
  refine RuP.step (pc' := 123) (ls' := [some (.inr (.inr (some 84))), some (.inl z1)]) (st' := [.inr (.inr (some 84))]) (h1 := hp L s c e) rfl ?_
  refine RuP.step (pc' := 126) (ls' := [some (.inr (.inr (some 84))), some (.inl z1)]) (st' := [.inl (s 84 6)]) (h1 := hp L s c e) rfl ?_
  by_cases h0 : ¬ (s 84 6) = 0
  · rw [if_pos h0] at h
    refine RuP.jy rfl h0 ?_
    exact bl_196_133 _ _ _ h
  · rw [if_neg h0] at h
    refine RuP.jn rfl h0 ?_
    refine RuP.step (pc' := 130) (ls' := [some (.inr (.inr (some 84))), some (.inl z1)]) (st' := [.inr (.inr (some 84))]) (h1 := hp L s c e) rfl ?_
    obtain ⟨q8, h1, h⟩ := bd_some h
    refine RuP.cV rfl ((ev_211 h1).up (by decide)) ?_
    exact bl_196_133 _ _ _ h
noncomputable def j_196_111 (s : Sg) : Option (Int × Sg) :=
  (if ¬ (s 84 6) = 0 then
    j_196_122 s
  else
    ((f_210 s).bind fun q9 =>
    j_196_122 q9))
theorem bl_196_111 {L c : Nat} {e : Nat → Nat} : ∀ (z1 : Int) (s : Sg) (q : Int × Sg), j_196_111 s = some q → RuP 10 tb_m196 111 [some (.inr (.inr (some 84))), some (.inl z1)] [] (hp L s c e) (oI L c e q) := by
  intro z1 s q h
  unfold j_196_111 at h
  refine RuP.step (pc' := 112) (ls' := [some (.inr (.inr (some 84))), some (.inl z1)]) (st' := [.inr (.inr (some 84))]) (h1 := hp L s c e) rfl ?_
  refine RuP.step (pc' := 115) (ls' := [some (.inr (.inr (some 84))), some (.inl z1)]) (st' := [.inl (s 84 6)]) (h1 := hp L s c e) rfl ?_
  by_cases h0 : ¬ (s 84 6) = 0
  · rw [if_pos h0] at h
    refine RuP.jy rfl h0 ?_
    exact bl_196_122 _ _ _ h
  · rw [if_neg h0] at h
    refine RuP.jn rfl h0 ?_
    refine RuP.step (pc' := 119) (ls' := [some (.inr (.inr (some 84))), some (.inl z1)]) (st' := [.inr (.inr (some 84))]) (h1 := hp L s c e) rfl ?_
    obtain ⟨q9, h1, h⟩ := bd_some h
    refine RuP.cV rfl ((ev_210 h1).up (by decide)) ?_
    exact bl_196_122 _ _ _ h
noncomputable def j_196_66 (s : Sg) : Option (Int × Sg) :=
  ((f_208 (ax_u2 (ax_u2 (ax_u2 (ax_u2 (ax_u2 (ax_u2 s 84 1 0) 84 19 0) 84 31 0) 84 34 0) 84 47 0) 84 57 0)).bind fun q1 =>
  (if ¬ (q1 84 6) = 0 then
    j_196_111 q1
  else
    ((f_209 q1).bind fun q10 =>
    j_196_111 q10)))
theorem bl_196_66 {L c : Nat} {e : Nat → Nat} : ∀ (z1 : Int) (s : Sg) (q : Int × Sg), j_196_66 s = some q → RuP 10 tb_m196 66 [some (.inr (.inr (some 84))), some (.inl z1)] [] (hp L s c e) (oI L c e q) := by
  intro z1 s q h
  unfold j_196_66 at h
  refine RuP.step (pc' := 67) (ls' := [some (.inr (.inr (some 84))), some (.inl z1)]) (st' := [.inr (.inr (some 84))]) (h1 := hp L s c e) rfl ?_
  refine RuP.step (pc' := 68) (ls' := [some (.inr (.inr (some 84))), some (.inl z1)]) (st' := [.inl 0, .inr (.inr (some 84))]) (h1 := hp L s c e) rfl ?_
  refine RuP.step (pc' := 71) (ls' := [some (.inr (.inr (some 84))), some (.inl z1)]) (st' := []) (h1 := hp L (ax_u2 s 84 1 0) c e) rfl ?_
  refine RuP.step (pc' := 72) (ls' := [some (.inr (.inr (some 84))), some (.inl z1)]) (st' := [.inr (.inr (some 84))]) (h1 := hp L (ax_u2 s 84 1 0) c e) rfl ?_
  refine RuP.step (pc' := 73) (ls' := [some (.inr (.inr (some 84))), some (.inl z1)]) (st' := [.inl 0, .inr (.inr (some 84))]) (h1 := hp L (ax_u2 s 84 1 0) c e) rfl ?_
  refine RuP.step (pc' := 76) (ls' := [some (.inr (.inr (some 84))), some (.inl z1)]) (st' := []) (h1 := hp L (ax_u2 (ax_u2 s 84 1 0) 84 19 0) c e) rfl ?_
  refine RuP.step (pc' := 77) (ls' := [some (.inr (.inr (some 84))), some (.inl z1)]) (st' := [.inr (.inr (some 84))]) (h1 := hp L (ax_u2 (ax_u2 s 84 1 0) 84 19 0) c e) rfl ?_
  refine RuP.step (pc' := 78) (ls' := [some (.inr (.inr (some 84))), some (.inl z1)]) (st' := [.inl 0, .inr (.inr (some 84))]) (h1 := hp L (ax_u2 (ax_u2 s 84 1 0) 84 19 0) c e) rfl ?_
  refine RuP.step (pc' := 81) (ls' := [some (.inr (.inr (some 84))), some (.inl z1)]) (st' := []) (h1 := hp L (ax_u2 (ax_u2 (ax_u2 s 84 1 0) 84 19 0) 84 31 0) c e) rfl ?_
  refine RuP.step (pc' := 82) (ls' := [some (.inr (.inr (some 84))), some (.inl z1)]) (st' := [.inr (.inr (some 84))]) (h1 := hp L (ax_u2 (ax_u2 (ax_u2 s 84 1 0) 84 19 0) 84 31 0) c e) rfl ?_
  refine RuP.step (pc' := 83) (ls' := [some (.inr (.inr (some 84))), some (.inl z1)]) (st' := [.inl 0, .inr (.inr (some 84))]) (h1 := hp L (ax_u2 (ax_u2 (ax_u2 s 84 1 0) 84 19 0) 84 31 0) c e) rfl ?_
  refine RuP.step (pc' := 86) (ls' := [some (.inr (.inr (some 84))), some (.inl z1)]) (st' := []) (h1 := hp L (ax_u2 (ax_u2 (ax_u2 (ax_u2 s 84 1 0) 84 19 0) 84 31 0) 84 34 0) c e) rfl ?_
  refine RuP.step (pc' := 87) (ls' := [some (.inr (.inr (some 84))), some (.inl z1)]) (st' := [.inr (.inr (some 84))]) (h1 := hp L (ax_u2 (ax_u2 (ax_u2 (ax_u2 s 84 1 0) 84 19 0) 84 31 0) 84 34 0) c e) rfl ?_
  refine RuP.step (pc' := 88) (ls' := [some (.inr (.inr (some 84))), some (.inl z1)]) (st' := [.inl 0, .inr (.inr (some 84))]) (h1 := hp L (ax_u2 (ax_u2 (ax_u2 (ax_u2 s 84 1 0) 84 19 0) 84 31 0) 84 34 0) c e) rfl ?_
  refine RuP.step (pc' := 91) (ls' := [some (.inr (.inr (some 84))), some (.inl z1)]) (st' := []) (h1 := hp L (ax_u2 (ax_u2 (ax_u2 (ax_u2 (ax_u2 s 84 1 0) 84 19 0) 84 31 0) 84 34 0) 84 47 0) c e) rfl ?_
  refine RuP.step (pc' := 92) (ls' := [some (.inr (.inr (some 84))), some (.inl z1)]) (st' := [.inr (.inr (some 84))]) (h1 := hp L (ax_u2 (ax_u2 (ax_u2 (ax_u2 (ax_u2 s 84 1 0) 84 19 0) 84 31 0) 84 34 0) 84 47 0) c e) rfl ?_
  refine RuP.step (pc' := 93) (ls' := [some (.inr (.inr (some 84))), some (.inl z1)]) (st' := [.inl 0, .inr (.inr (some 84))]) (h1 := hp L (ax_u2 (ax_u2 (ax_u2 (ax_u2 (ax_u2 s 84 1 0) 84 19 0) 84 31 0) 84 34 0) 84 47 0) c e) rfl ?_
  refine RuP.step (pc' := 96) (ls' := [some (.inr (.inr (some 84))), some (.inl z1)]) (st' := []) (h1 := hp L (ax_u2 (ax_u2 (ax_u2 (ax_u2 (ax_u2 (ax_u2 s 84 1 0) 84 19 0) 84 31 0) 84 34 0) 84 47 0) 84 57 0) c e) rfl ?_
  refine RuP.step (pc' := 97) (ls' := [some (.inr (.inr (some 84))), some (.inl z1)]) (st' := [.inr (.inr (some 84))]) (h1 := hp L (ax_u2 (ax_u2 (ax_u2 (ax_u2 (ax_u2 (ax_u2 s 84 1 0) 84 19 0) 84 31 0) 84 34 0) 84 47 0) 84 57 0) c e) rfl ?_
  obtain ⟨q1, h1, h⟩ := bd_some h
  refine RuP.cV rfl ((ev_208 h1).up (by decide)) ?_
  refine RuP.step (pc' := 101) (ls' := [some (.inr (.inr (some 84))), some (.inl z1)]) (st' := [.inr (.inr (some 84))]) (h1 := hp L q1 c e) rfl ?_
  refine RuP.step (pc' := 104) (ls' := [some (.inr (.inr (some 84))), some (.inl z1)]) (st' := [.inl (q1 84 6)]) (h1 := hp L q1 c e) rfl ?_
  by_cases h0 : ¬ (q1 84 6) = 0
  · rw [if_pos h0] at h
    refine RuP.jy rfl h0 ?_
    exact bl_196_111 _ _ _ h
  · rw [if_neg h0] at h
    refine RuP.jn rfl h0 ?_
    refine RuP.step (pc' := 108) (ls' := [some (.inr (.inr (some 84))), some (.inl z1)]) (st' := [.inr (.inr (some 84))]) (h1 := hp L q1 c e) rfl ?_
    obtain ⟨q10, h1, h⟩ := bd_some h
    refine RuP.cV rfl ((ev_209 h1).up (by decide)) ?_
    exact bl_196_111 _ _ _ h
noncomputable def j_196_40 : Nat → Int → Sg → Option (Int × Sg)
  | 0, _, _ => none
  | F + 1, l1, s =>
    (if s 84 1 ≤ l1 then
      j_196_66 s
    else
      (gd (0 ≤ l1 ∧ l1 < 8192) (
      (gd (0 ≤ l1 ∧ l1 < 8192) (
      (j_196_40 F) (ax_w32 (l1 + 1)) (ax_u2 s 86 l1.toNat (s 85 l1.toNat)))))))
theorem bl_196_40 {L c : Nat} {e : Nat → Nat} : ∀ (F : Nat) (l1 : Int) (s : Sg) (q : Int × Sg), j_196_40 F l1 s = some q → RuP 10 tb_m196 40 [some (.inr (.inr (some 84))), some (.inl l1)] [] (hp L s c e) (oI L c e q) := by
  intro F
  induction F with
  | zero =>
    intro l1 s q h
    rw [j_196_40] at h
    cases h
  | succ F ih =>
    intro l1 s q h
    rw [j_196_40] at h
    refine RuP.step (pc' := 41) (ls' := [some (.inr (.inr (some 84))), some (.inl l1)]) (st' := [.inl l1]) (h1 := hp L s c e) rfl ?_
    refine RuP.step (pc' := 42) (ls' := [some (.inr (.inr (some 84))), some (.inl l1)]) (st' := [.inr (.inr (some 84)), .inl l1]) (h1 := hp L s c e) rfl ?_
    refine RuP.step (pc' := 45) (ls' := [some (.inr (.inr (some 84))), some (.inl l1)]) (st' := [.inl (s 84 1), .inl l1]) (h1 := hp L s c e) rfl ?_
    by_cases h0 : s 84 1 ≤ l1
    · rw [if_pos h0] at h
      refine RuP.jy rfl h0 ?_
      exact bl_196_66 _ _ _ h
    · rw [if_neg h0] at h
      refine RuP.jn rfl h0 ?_
      refine RuP.step (pc' := 49) (ls' := [some (.inr (.inr (some 84))), some (.inl l1)]) (st' := [.inr (.inr (some 84))]) (h1 := hp L s c e) rfl ?_
      refine RuP.step (pc' := 52) (ls' := [some (.inr (.inr (some 84))), some (.inl l1)]) (st' := [.inr (.inr (some 86))]) (h1 := hp L s c e) rfl ?_
      refine RuP.step (pc' := 53) (ls' := [some (.inr (.inr (some 84))), some (.inl l1)]) (st' := [.inl l1, .inr (.inr (some 86))]) (h1 := hp L s c e) rfl ?_
      refine RuP.step (pc' := 54) (ls' := [some (.inr (.inr (some 84))), some (.inl l1)]) (st' := [.inr (.inr (some 84)), .inl l1, .inr (.inr (some 86))]) (h1 := hp L s c e) rfl ?_
      refine RuP.step (pc' := 57) (ls' := [some (.inr (.inr (some 84))), some (.inl l1)]) (st' := [.inr (.inr (some 85)), .inl l1, .inr (.inr (some 86))]) (h1 := hp L s c e) rfl ?_
      refine RuP.step (pc' := 58) (ls' := [some (.inr (.inr (some 84))), some (.inl l1)]) (st' := [.inl l1, .inr (.inr (some 85)), .inl l1, .inr (.inr (some 86))]) (h1 := hp L s c e) rfl ?_
      obtain ⟨b1, h⟩ := gd_some h
      refine RuP.ald (f := fun t => t == 0) (j := l1) (a := 85) rfl rfl b1.1 b1.2 ?_
      obtain ⟨b2, h⟩ := gd_some h
      refine RuP.ast (f := fun t => t == 0) (j := l1) (a := 86) rfl rfl (by decide) rfl rfl b2.1 b2.2 ?_
      refine RuP.step (pc' := 63) (ls' := [some (.inr (.inr (some 84))), some (.inl (ax_w32 (l1 + 1)))]) (st' := []) (h1 := hp L (ax_u2 s 86 l1.toNat (s 85 l1.toNat)) c e) rfl ?_
      refine RuP.step (pc' := 40) (ls' := [some (.inr (.inr (some 84))), some (.inl (ax_w32 (l1 + 1)))]) (st' := []) (h1 := hp L (ax_u2 s 86 l1.toNat (s 85 l1.toNat)) c e) rfl ?_
      exact ih _ _ _ h
noncomputable def f_196 (s : Sg) : Option (Int × Sg) :=
  j_196_40 FU 0 (ax_u2 (ax_u2 (ax_u2 (ax_u2 (ax_u2 (ax_u2 (ax_u2 s 84 0 0) 84 5 0) 84 6 0) 84 7 0) 84 8 (-1)) 84 72 0) 84 3 (s 84 1))
theorem ev_196 {L c : Nat} {e : Nat → Nat} {s : Sg} {q : Int × Sg} (h : f_196 s = some q) : EvP 11 196 [.inr (.inr (some 84))] (hp L s c e) (oI L c e q) := by
  unfold f_196 at h
  refine EvP.of (μ := tb_m196) (ls := [some (.inr (.inr (some 84))), none]) rfl (Nat.le_of_ble_eq_true rfl) rfl ?_
  refine RuP.step (pc' := 1) (ls' := [some (.inr (.inr (some 84))), none]) (st' := [.inr (.inr (some 84))]) (h1 := hp L s c e) rfl ?_
  refine RuP.step (pc' := 2) (ls' := [some (.inr (.inr (some 84))), none]) (st' := [.inl 0, .inr (.inr (some 84))]) (h1 := hp L s c e) rfl ?_
  refine RuP.step (pc' := 5) (ls' := [some (.inr (.inr (some 84))), none]) (st' := []) (h1 := hp L (ax_u2 s 84 0 0) c e) rfl ?_
  refine RuP.step (pc' := 6) (ls' := [some (.inr (.inr (some 84))), none]) (st' := [.inr (.inr (some 84))]) (h1 := hp L (ax_u2 s 84 0 0) c e) rfl ?_
  refine RuP.step (pc' := 7) (ls' := [some (.inr (.inr (some 84))), none]) (st' := [.inl 0, .inr (.inr (some 84))]) (h1 := hp L (ax_u2 s 84 0 0) c e) rfl ?_
  refine RuP.step (pc' := 10) (ls' := [some (.inr (.inr (some 84))), none]) (st' := []) (h1 := hp L (ax_u2 (ax_u2 s 84 0 0) 84 5 0) c e) rfl ?_
  refine RuP.step (pc' := 11) (ls' := [some (.inr (.inr (some 84))), none]) (st' := [.inr (.inr (some 84))]) (h1 := hp L (ax_u2 (ax_u2 s 84 0 0) 84 5 0) c e) rfl ?_
  refine RuP.step (pc' := 12) (ls' := [some (.inr (.inr (some 84))), none]) (st' := [.inl 0, .inr (.inr (some 84))]) (h1 := hp L (ax_u2 (ax_u2 s 84 0 0) 84 5 0) c e) rfl ?_
  refine RuP.step (pc' := 15) (ls' := [some (.inr (.inr (some 84))), none]) (st' := []) (h1 := hp L (ax_u2 (ax_u2 (ax_u2 s 84 0 0) 84 5 0) 84 6 0) c e) rfl ?_
  refine RuP.step (pc' := 16) (ls' := [some (.inr (.inr (some 84))), none]) (st' := [.inr (.inr (some 84))]) (h1 := hp L (ax_u2 (ax_u2 (ax_u2 s 84 0 0) 84 5 0) 84 6 0) c e) rfl ?_
  refine RuP.step (pc' := 17) (ls' := [some (.inr (.inr (some 84))), none]) (st' := [.inl 0, .inr (.inr (some 84))]) (h1 := hp L (ax_u2 (ax_u2 (ax_u2 s 84 0 0) 84 5 0) 84 6 0) c e) rfl ?_
  refine RuP.step (pc' := 20) (ls' := [some (.inr (.inr (some 84))), none]) (st' := []) (h1 := hp L (ax_u2 (ax_u2 (ax_u2 (ax_u2 s 84 0 0) 84 5 0) 84 6 0) 84 7 0) c e) rfl ?_
  refine RuP.step (pc' := 21) (ls' := [some (.inr (.inr (some 84))), none]) (st' := [.inr (.inr (some 84))]) (h1 := hp L (ax_u2 (ax_u2 (ax_u2 (ax_u2 s 84 0 0) 84 5 0) 84 6 0) 84 7 0) c e) rfl ?_
  refine RuP.step (pc' := 22) (ls' := [some (.inr (.inr (some 84))), none]) (st' := [.inl (-1), .inr (.inr (some 84))]) (h1 := hp L (ax_u2 (ax_u2 (ax_u2 (ax_u2 s 84 0 0) 84 5 0) 84 6 0) 84 7 0) c e) rfl ?_
  refine RuP.step (pc' := 25) (ls' := [some (.inr (.inr (some 84))), none]) (st' := []) (h1 := hp L (ax_u2 (ax_u2 (ax_u2 (ax_u2 (ax_u2 s 84 0 0) 84 5 0) 84 6 0) 84 7 0) 84 8 (-1)) c e) rfl ?_
  refine RuP.step (pc' := 26) (ls' := [some (.inr (.inr (some 84))), none]) (st' := [.inr (.inr (some 84))]) (h1 := hp L (ax_u2 (ax_u2 (ax_u2 (ax_u2 (ax_u2 s 84 0 0) 84 5 0) 84 6 0) 84 7 0) 84 8 (-1)) c e) rfl ?_
  refine RuP.step (pc' := 27) (ls' := [some (.inr (.inr (some 84))), none]) (st' := [.inl 0, .inr (.inr (some 84))]) (h1 := hp L (ax_u2 (ax_u2 (ax_u2 (ax_u2 (ax_u2 s 84 0 0) 84 5 0) 84 6 0) 84 7 0) 84 8 (-1)) c e) rfl ?_
  refine RuP.step (pc' := 30) (ls' := [some (.inr (.inr (some 84))), none]) (st' := []) (h1 := hp L (ax_u2 (ax_u2 (ax_u2 (ax_u2 (ax_u2 (ax_u2 s 84 0 0) 84 5 0) 84 6 0) 84 7 0) 84 8 (-1)) 84 72 0) c e) rfl ?_
  refine RuP.step (pc' := 31) (ls' := [some (.inr (.inr (some 84))), none]) (st' := [.inr (.inr (some 84))]) (h1 := hp L (ax_u2 (ax_u2 (ax_u2 (ax_u2 (ax_u2 (ax_u2 s 84 0 0) 84 5 0) 84 6 0) 84 7 0) 84 8 (-1)) 84 72 0) c e) rfl ?_
  refine RuP.step (pc' := 32) (ls' := [some (.inr (.inr (some 84))), none]) (st' := [.inr (.inr (some 84)), .inr (.inr (some 84))]) (h1 := hp L (ax_u2 (ax_u2 (ax_u2 (ax_u2 (ax_u2 (ax_u2 s 84 0 0) 84 5 0) 84 6 0) 84 7 0) 84 8 (-1)) 84 72 0) c e) rfl ?_
  refine RuP.step (pc' := 35) (ls' := [some (.inr (.inr (some 84))), none]) (st' := [.inl (s 84 1), .inr (.inr (some 84))]) (h1 := hp L (ax_u2 (ax_u2 (ax_u2 (ax_u2 (ax_u2 (ax_u2 s 84 0 0) 84 5 0) 84 6 0) 84 7 0) 84 8 (-1)) 84 72 0) c e) rfl ?_
  refine RuP.step (pc' := 38) (ls' := [some (.inr (.inr (some 84))), none]) (st' := []) (h1 := hp L (ax_u2 (ax_u2 (ax_u2 (ax_u2 (ax_u2 (ax_u2 (ax_u2 s 84 0 0) 84 5 0) 84 6 0) 84 7 0) 84 8 (-1)) 84 72 0) 84 3 (s 84 1)) c e) rfl ?_
  refine RuP.step (pc' := 39) (ls' := [some (.inr (.inr (some 84))), none]) (st' := [.inl 0]) (h1 := hp L (ax_u2 (ax_u2 (ax_u2 (ax_u2 (ax_u2 (ax_u2 (ax_u2 s 84 0 0) 84 5 0) 84 6 0) 84 7 0) 84 8 (-1)) 84 72 0) 84 3 (s 84 1)) c e) rfl ?_
  refine RuP.step (pc' := 40) (ls' := [some (.inr (.inr (some 84))), some (.inl 0)]) (st' := []) (h1 := hp L (ax_u2 (ax_u2 (ax_u2 (ax_u2 (ax_u2 (ax_u2 (ax_u2 s 84 0 0) 84 5 0) 84 6 0) 84 7 0) 84 8 (-1)) 84 72 0) 84 3 (s 84 1)) c e) rfl ?_
  exact bl_196_40 FU _ _ _ h
/-- java/lang/String.length()I -/
noncomputable def f_272_4 (s : Sg) : Option Int :=
  ((f_275_4 s).bind fun q1 =>
  some (ax_ishr 20 q1))
theorem ev_272_4 {L c : Nat} {e : Nat → Nat} {s : Sg} {q : Int} (h : f_272_4 s = some q) : EvP 2 272 [.inr (.inr (some 4))] (hp L s c e) (oI L c e (q, s)) := by
  unfold f_272_4 at h
  refine EvP.of (μ := tb_m272) (ls := [some (.inr (.inr (some 4)))]) rfl (Nat.le_of_ble_eq_true rfl) rfl ?_
  refine RuP.step (pc' := 1) (ls' := [some (.inr (.inr (some 4)))]) (st' := [.inr (.inr (some 4))]) (h1 := hp L s c e) rfl ?_
  refine RuP.step (pc' := 4) (ls' := [some (.inr (.inr (some 4)))]) (st' := [.inr (.inr (some 5))]) (h1 := hp L s c e) rfl ?_
  refine RuP.step (pc' := 5) (ls' := [some (.inr (.inr (some 4)))]) (st' := [.inl 20]) (h1 := hp L s c e) rfl ?_
  refine RuP.step (pc' := 6) (ls' := [some (.inr (.inr (some 4)))]) (st' := [.inr (.inr (some 4)), .inl 20]) (h1 := hp L s c e) rfl ?_
  obtain ⟨q1, h1, h⟩ := bd_some h
  refine RuP.cI rfl ((ev_275_4 h1).up (by decide)) ?_
  refine RuP.step (pc' := 10) (ls' := [some (.inr (.inr (some 4)))]) (st' := [.inl (ax_ishr 20 q1)]) (h1 := hp L s c e) rfl ?_
  cases h
  exact RuP.dI rfl
/-- java/lang/StringLatin1.charAt([BI)C -/
noncomputable def f_296_3 (x1 : Int) (s : Sg) : Option (Int × Sg) :=
  ((f_278 x1 49 s).bind fun q1 =>
  (gd (0 ≤ x1 ∧ x1 < 49) (
  some (ax_u16 (ax_iand (q1 3 x1.toNat) 255), q1))))
theorem ev_296_3 {L c : Nat} {e : Nat → Nat} {s : Sg} {x1 : Int} {q : Int × Sg} (h : f_296_3 x1 s = some q) : EvP 3 296 [.inr (.inr (some 3)), .inl x1] (hp L s c e) (oI L c e q) := by
  unfold f_296_3 at h
  refine EvP.of (μ := tb_m296) (ls := [some (.inr (.inr (some 3))), some (.inl x1)]) rfl (Nat.le_of_ble_eq_true rfl) rfl ?_
  refine RuP.step (pc' := 1) (ls' := [some (.inr (.inr (some 3))), some (.inl x1)]) (st' := [.inl x1]) (h1 := hp L s c e) rfl ?_
  refine RuP.step (pc' := 2) (ls' := [some (.inr (.inr (some 3))), some (.inl x1)]) (st' := [.inr (.inr (some 3)), .inl x1]) (h1 := hp L s c e) rfl ?_
  refine RuP.step (pc' := 3) (ls' := [some (.inr (.inr (some 3))), some (.inl x1)]) (st' := [.inl 49, .inl x1]) (h1 := hp L s c e) rfl ?_
  obtain ⟨q1, h1, h⟩ := bd_some h
  refine RuP.cV rfl ((ev_278 h1).up (by decide)) ?_
  refine RuP.step (pc' := 7) (ls' := [some (.inr (.inr (some 3))), some (.inl x1)]) (st' := [.inr (.inr (some 3))]) (h1 := hp L q1 c e) rfl ?_
  refine RuP.step (pc' := 8) (ls' := [some (.inr (.inr (some 3))), some (.inl x1)]) (st' := [.inl x1, .inr (.inr (some 3))]) (h1 := hp L q1 c e) rfl ?_
  obtain ⟨b0, h⟩ := gd_some h
  refine RuP.ald (f := fun t => t == 1 || t == 3) (j := x1) (a := 3) rfl rfl b0.1 b0.2 ?_
  refine RuP.step (pc' := 12) (ls' := [some (.inr (.inr (some 3))), some (.inl x1)]) (st' := [.inl 255, .inl (q1 3 x1.toNat)]) (h1 := hp L q1 c e) rfl ?_
  refine RuP.step (pc' := 13) (ls' := [some (.inr (.inr (some 3))), some (.inl x1)]) (st' := [.inl (ax_iand (q1 3 x1.toNat) 255)]) (h1 := hp L q1 c e) rfl ?_
  refine RuP.step (pc' := 14) (ls' := [some (.inr (.inr (some 3))), some (.inl x1)]) (st' := [.inl (ax_u16 (ax_iand (q1 3 x1.toNat) 255))]) (h1 := hp L q1 c e) rfl ?_
  cases h
  exact RuP.dC rfl (u16_ok _)
/-- java/lang/String.charAt(I)C -/
noncomputable def f_273_2 (x0 : Int) (s : Sg) : Option (Int × Sg) :=
  (if f_276_2 s = 0 then
    none
  else
    ((f_296_3 x0 s).bind fun q1 =>
    (gd (0 ≤ q1.1 ∧ q1.1 < 65536) (
    some (q1.1, q1.2)))))
theorem ev_273_2 {L c : Nat} {e : Nat → Nat} {s : Sg} {x0 : Int} {q : Int × Sg} (h : f_273_2 x0 s = some q) : EvP 4 273 [.inr (.inr (some 2)), .inl x0] (hp L s c e) (oI L c e q) := by
  unfold f_273_2 at h
  refine EvP.of (μ := tb_m273) (ls := [some (.inr (.inr (some 2))), some (.inl x0)]) rfl (Nat.le_of_ble_eq_true rfl) rfl ?_
  refine RuP.step (pc' := 1) (ls' := [some (.inr (.inr (some 2))), some (.inl x0)]) (st' := [.inr (.inr (some 2))]) (h1 := hp L s c e) rfl ?_
  refine RuP.cI rfl ((ev_276_2 ).up (by decide)) ?_
  by_cases h0 : f_276_2 s = 0
  · rw [if_pos h0] at h
    refine RuP.jy rfl h0 ?_
    refine RuP.step (pc' := 17) (ls' := [some (.inr (.inr (some 2))), some (.inl x0)]) (st' := [.inr (.inr (some 2))]) (h1 := hp L s c e) rfl ?_
    refine RuP.step (pc' := 20) (ls' := [some (.inr (.inr (some 2))), some (.inl x0)]) (st' := [.inr (.inr (some 3))]) (h1 := hp L s c e) rfl ?_
    refine RuP.step (pc' := 21) (ls' := [some (.inr (.inr (some 2))), some (.inl x0)]) (st' := [.inl x0, .inr (.inr (some 3))]) (h1 := hp L s c e) rfl ?_
    cases h
  · rw [if_neg h0] at h
    refine RuP.jn rfl h0 ?_
    refine RuP.step (pc' := 8) (ls' := [some (.inr (.inr (some 2))), some (.inl x0)]) (st' := [.inr (.inr (some 2))]) (h1 := hp L s c e) rfl ?_
    refine RuP.step (pc' := 11) (ls' := [some (.inr (.inr (some 2))), some (.inl x0)]) (st' := [.inr (.inr (some 3))]) (h1 := hp L s c e) rfl ?_
    refine RuP.step (pc' := 12) (ls' := [some (.inr (.inr (some 2))), some (.inl x0)]) (st' := [.inl x0, .inr (.inr (some 3))]) (h1 := hp L s c e) rfl ?_
    obtain ⟨q1, h1, h⟩ := bd_some h
    refine RuP.cI rfl ((ev_296_3 h1).up (by decide)) ?_
    obtain ⟨b1, h⟩ := gd_some h
    cases h
    exact RuP.dC rfl b1
/-- MachineText$Names.addWords()V -/
noncomputable def j_103_40 (k2 : (Int → Sg → Option Sg)) (l1 : Int) (s : Sg) : Option Sg :=
  k2 (ax_w32 (l1 + 1)) s
theorem bl_103_40 {L c : Nat} {e : Nat → Nat} {k2 : (Int → Sg → Option Sg)} (hk2 : ∀ (l1 : Int) (s : Sg) (q : Sg), k2 l1 s = some q → RuP 4 tb_m103 2 [some (.inr (.inr (some 31))), some (.inl l1)] [] (hp L s c e) (oV L c e q)) : ∀ (l1 : Int) (s : Sg) (q : Sg), j_103_40 k2 l1 s = some q → RuP 4 tb_m103 40 [some (.inr (.inr (some 31))), some (.inl l1)] [] (hp L s c e) (oV L c e q) := by
  intro l1 s q h
  unfold j_103_40 at h
  refine RuP.step (pc' := 43) (ls' := [some (.inr (.inr (some 31))), some (.inl (ax_w32 (l1 + 1)))]) (st' := []) (h1 := hp L s c e) rfl ?_
  refine RuP.step (pc' := 2) (ls' := [some (.inr (.inr (some 31))), some (.inl (ax_w32 (l1 + 1)))]) (st' := []) (h1 := hp L s c e) rfl ?_
  exact hk2 _ _ _ h
noncomputable def j_103_2 : Nat → Int → Sg → Option Sg
  | 0, _, _ => none
  | F + 1, l1, s =>
    ((f_272_2 s).bind fun q1 =>
    (if q1 ≤ l1 then
      some s
    else
      ((f_273_2 l1 s).bind fun q2 =>
      (if ¬ q2.1 = 32 then
        ((f_273_2 l1 q2.2).bind fun q3 =>
        ((some (f_105 q3.1 q3.2)).bind fun q4 =>
        j_103_40 (j_103_2 F) l1 q4))
      else
        ((f_104 q2.2).bind fun q5 =>
        j_103_40 (j_103_2 F) l1 q5.2)))))
theorem bl_103_2 {L c : Nat} {e : Nat → Nat} : ∀ (F : Nat) (l1 : Int) (s : Sg) (q : Sg), j_103_2 F l1 s = some q → RuP 4 tb_m103 2 [some (.inr (.inr (some 31))), some (.inl l1)] [] (hp L s c e) (oV L c e q) := by
  intro F
  induction F with
  | zero =>
    intro l1 s q h
    rw [j_103_2] at h
    cases h
  | succ F ih =>
    intro l1 s q h
    rw [j_103_2] at h
    refine RuP.step (pc' := 3) (ls' := [some (.inr (.inr (some 31))), some (.inl l1)]) (st' := [.inl l1]) (h1 := hp L s c e) rfl ?_
    refine RuP.step (pc' := 5) (ls' := [some (.inr (.inr (some 31))), some (.inl l1)]) (st' := [.inr (.inr (some 2)), .inl l1]) (h1 := hp L s c e) rfl ?_
    obtain ⟨q1, h1, h⟩ := bd_some h
    refine RuP.cI rfl ((ev_272_2 h1).up (by decide)) ?_
    by_cases h0 : q1 ≤ l1
    · rw [if_pos h0] at h
      refine RuP.jy rfl h0 ?_
      cases h
      exact RuP.dV rfl
    · rw [if_neg h0] at h
      refine RuP.jn rfl h0 ?_
      refine RuP.step (pc' := 13) (ls' := [some (.inr (.inr (some 31))), some (.inl l1)]) (st' := [.inr (.inr (some 2))]) (h1 := hp L s c e) rfl ?_
      refine RuP.step (pc' := 14) (ls' := [some (.inr (.inr (some 31))), some (.inl l1)]) (st' := [.inl l1, .inr (.inr (some 2))]) (h1 := hp L s c e) rfl ?_
      obtain ⟨q2, h1, h⟩ := bd_some h
      refine RuP.cI rfl ((ev_273_2 h1).up (by decide)) ?_
      refine RuP.step (pc' := 19) (ls' := [some (.inr (.inr (some 31))), some (.inl l1)]) (st' := [.inl 32, .inl q2.1]) (h1 := hp L q2.2 c e) rfl ?_
      by_cases h1 : ¬ q2.1 = 32
      · rw [if_pos h1] at h
        refine RuP.jy rfl h1 ?_
        refine RuP.step (pc' := 31) (ls' := [some (.inr (.inr (some 31))), some (.inl l1)]) (st' := [.inr (.inr (some 31))]) (h1 := hp L q2.2 c e) rfl ?_
        refine RuP.step (pc' := 33) (ls' := [some (.inr (.inr (some 31))), some (.inl l1)]) (st' := [.inr (.inr (some 2)), .inr (.inr (some 31))]) (h1 := hp L q2.2 c e) rfl ?_
        refine RuP.step (pc' := 34) (ls' := [some (.inr (.inr (some 31))), some (.inl l1)]) (st' := [.inl l1, .inr (.inr (some 2)), .inr (.inr (some 31))]) (h1 := hp L q2.2 c e) rfl ?_
        obtain ⟨q3, h1, h⟩ := bd_some h
        refine RuP.cI rfl ((ev_273_2 h1).up (by decide)) ?_
        obtain ⟨q4, h1, h⟩ := bd_some h
        refine RuP.cVe h1 rfl (EvP.v ((ev_105 q3.1).up (by decide))) ?_
        exact bl_103_40 ih _ _ _ h
      · rw [if_neg h1] at h
        refine RuP.jn rfl h1 ?_
        refine RuP.step (pc' := 23) (ls' := [some (.inr (.inr (some 31))), some (.inl l1)]) (st' := [.inr (.inr (some 31))]) (h1 := hp L q2.2 c e) rfl ?_
        obtain ⟨q5, h1, h⟩ := bd_some h
        refine RuP.cI rfl ((ev_104 h1).up (by decide)) ?_
        refine RuP.step (pc' := 27) (ls' := [some (.inr (.inr (some 31))), some (.inl l1)]) (st' := []) (h1 := hp L q5.2 c e) rfl ?_
        refine RuP.step (pc' := 40) (ls' := [some (.inr (.inr (some 31))), some (.inl l1)]) (st' := []) (h1 := hp L q5.2 c e) rfl ?_
        exact bl_103_40 ih _ _ _ h
noncomputable def f_103 (s : Sg) : Option Sg :=
  j_103_2 FU 0 s
theorem ev_103 {L c : Nat} {e : Nat → Nat} {s : Sg} {q : Sg} (h : f_103 s = some q) : EvP 5 103 [.inr (.inr (some 31))] (hp L s c e) (oV L c e q) := by
  unfold f_103 at h
  refine EvP.of (μ := tb_m103) (ls := [some (.inr (.inr (some 31))), none]) rfl (Nat.le_of_ble_eq_true rfl) rfl ?_
  refine RuP.step (pc' := 1) (ls' := [some (.inr (.inr (some 31))), none]) (st' := [.inl 0]) (h1 := hp L s c e) rfl ?_
  refine RuP.step (pc' := 2) (ls' := [some (.inr (.inr (some 31))), some (.inl 0)]) (st' := []) (h1 := hp L s c e) rfl ?_
  exact bl_103_2 FU _ _ _ h
/-- java/lang/StringLatin1.indexOfChar([BIII)I -/
noncomputable def j_299_5_7 : Nat → Int → Int → Int → Sg → Option Int
  | 0, _, _, _, _ => none
  | F + 1, l3, l4, l5, s =>
    (if l3 ≤ l5 then
      some (-1)
    else
      (gd (0 ≤ l5 ∧ l5 < 20) (
      (if ¬ (s 5 l5.toNat) = l4 then
        (j_299_5_7 F) l3 l4 (ax_w32 (l5 + 1)) s
      else
        some l5))))
theorem bl_299_5_7 {L c : Nat} {e : Nat → Nat} : ∀ (F : Nat) (z1 z2 : Int) (l3 l4 l5 : Int) (s : Sg) (q : Int), j_299_5_7 F l3 l4 l5 s = some q → RuP 0 tb_m299 7 [some (.inr (.inr (some 5))), some (.inl z1), some (.inl z2), some (.inl l3), some (.inl l4), some (.inl l5)] [] (hp L s c e) (oI L c e (q, s)) := by
  intro F
  induction F with
  | zero =>
    intro z1 z2 l3 l4 l5 s q h
    rw [j_299_5_7] at h
    cases h
  | succ F ih =>
    intro z1 z2 l3 l4 l5 s q h
    rw [j_299_5_7] at h
    refine RuP.step (pc' := 9) (ls' := [some (.inr (.inr (some 5))), some (.inl z1), some (.inl z2), some (.inl l3), some (.inl l4), some (.inl l5)]) (st' := [.inl l5]) (h1 := hp L s c e) rfl ?_
    refine RuP.step (pc' := 10) (ls' := [some (.inr (.inr (some 5))), some (.inl z1), some (.inl z2), some (.inl l3), some (.inl l4), some (.inl l5)]) (st' := [.inl l3, .inl l5]) (h1 := hp L s c e) rfl ?_
    by_cases h0 : l3 ≤ l5
    · rw [if_pos h0] at h
      refine RuP.jy rfl h0 ?_
      refine RuP.step (pc' := 32) (ls' := [some (.inr (.inr (some 5))), some (.inl z1), some (.inl z2), some (.inl l3), some (.inl l4), some (.inl l5)]) (st' := [.inl (-1)]) (h1 := hp L s c e) rfl ?_
      cases h
      exact RuP.dI rfl
    · rw [if_neg h0] at h
      refine RuP.jn rfl h0 ?_
      refine RuP.step (pc' := 14) (ls' := [some (.inr (.inr (some 5))), some (.inl z1), some (.inl z2), some (.inl l3), some (.inl l4), some (.inl l5)]) (st' := [.inr (.inr (some 5))]) (h1 := hp L s c e) rfl ?_
      refine RuP.step (pc' := 16) (ls' := [some (.inr (.inr (some 5))), some (.inl z1), some (.inl z2), some (.inl l3), some (.inl l4), some (.inl l5)]) (st' := [.inl l5, .inr (.inr (some 5))]) (h1 := hp L s c e) rfl ?_
      obtain ⟨b1, h⟩ := gd_some h
      refine RuP.ald (f := fun t => t == 1 || t == 3) (j := l5) (a := 5) rfl rfl b1.1 b1.2 ?_
      refine RuP.step (pc' := 19) (ls' := [some (.inr (.inr (some 5))), some (.inl z1), some (.inl z2), some (.inl l3), some (.inl l4), some (.inl l5)]) (st' := [.inl l4, .inl (s 5 l5.toNat)]) (h1 := hp L s c e) rfl ?_
      by_cases h2 : ¬ (s 5 l5.toNat) = l4
      · rw [if_pos h2] at h
        refine RuP.jy rfl h2 ?_
        refine RuP.step (pc' := 28) (ls' := [some (.inr (.inr (some 5))), some (.inl z1), some (.inl z2), some (.inl l3), some (.inl l4), some (.inl (ax_w32 (l5 + 1)))]) (st' := []) (h1 := hp L s c e) rfl ?_
        refine RuP.step (pc' := 7) (ls' := [some (.inr (.inr (some 5))), some (.inl z1), some (.inl z2), some (.inl l3), some (.inl l4), some (.inl (ax_w32 (l5 + 1)))]) (st' := []) (h1 := hp L s c e) rfl ?_
        exact ih _ _ _ _ _ _ _ h
      · rw [if_neg h2] at h
        refine RuP.jn rfl h2 ?_
        refine RuP.step (pc' := 24) (ls' := [some (.inr (.inr (some 5))), some (.inl z1), some (.inl z2), some (.inl l3), some (.inl l4), some (.inl l5)]) (st' := [.inl l5]) (h1 := hp L s c e) rfl ?_
        cases h
        exact RuP.dI rfl
noncomputable def f_299_5 (x1 x2 x3 : Int) (s : Sg) : Option Int :=
  j_299_5_7 FU x3 (ax_w8 x1) x2 s
theorem ev_299_5 {L c : Nat} {e : Nat → Nat} {s : Sg} {x1 x2 x3 : Int} {q : Int} (h : f_299_5 x1 x2 x3 s = some q) : EvP 1 299 [.inr (.inr (some 5)), .inl x1, .inl x2, .inl x3] (hp L s c e) (oI L c e (q, s)) := by
  unfold f_299_5 at h
  refine EvP.of (μ := tb_m299) (ls := [some (.inr (.inr (some 5))), some (.inl x1), some (.inl x2), some (.inl x3), none, none]) rfl (Nat.le_of_ble_eq_true rfl) rfl ?_
  refine RuP.step (pc' := 1) (ls' := [some (.inr (.inr (some 5))), some (.inl x1), some (.inl x2), some (.inl x3), none, none]) (st' := [.inl x1]) (h1 := hp L s c e) rfl ?_
  refine RuP.step (pc' := 2) (ls' := [some (.inr (.inr (some 5))), some (.inl x1), some (.inl x2), some (.inl x3), none, none]) (st' := [.inl (ax_w8 x1)]) (h1 := hp L s c e) rfl ?_
  refine RuP.step (pc' := 4) (ls' := [some (.inr (.inr (some 5))), some (.inl x1), some (.inl x2), some (.inl x3), some (.inl (ax_w8 x1)), none]) (st' := []) (h1 := hp L s c e) rfl ?_
  refine RuP.step (pc' := 5) (ls' := [some (.inr (.inr (some 5))), some (.inl x1), some (.inl x2), some (.inl x3), some (.inl (ax_w8 x1)), none]) (st' := [.inl x2]) (h1 := hp L s c e) rfl ?_
  refine RuP.step (pc' := 7) (ls' := [some (.inr (.inr (some 5))), some (.inl x1), some (.inl x2), some (.inl x3), some (.inl (ax_w8 x1)), some (.inl x2)]) (st' := []) (h1 := hp L s c e) rfl ?_
  exact bl_299_5_7 FU _ _ _ _ _ _ _ h
/-- MachineText$Names.clear()V -/
noncomputable def j_101_49 (s : Sg) : Option Sg :=
  ((f_102 0 (ax_u2 s 31 7 (f_291 (s 31 7) 12 s))).bind fun q1 =>
  (if ¬ (q1 31 7) = 0 then
    some q1
  else
    ((f_103 q1).bind fun q2 =>
    some q2)))
theorem bl_101_49 {L c : Nat} {e : Nat → Nat} : ∀ (d2 : Option ax_V) (z1 : Int) (s : Sg) (q : Sg), j_101_49 s = some q → RuP 5 tb_m101 49 [some (.inr (.inr (some 31))), some (.inl z1), d2] [] (hp L s c e) (oV L c e q) := by
  intro d2 z1 s q h
  unfold j_101_49 at h
  refine RuP.step (pc' := 50) (ls' := [some (.inr (.inr (some 31))), some (.inl z1), d2]) (st' := [.inr (.inr (some 31))]) (h1 := hp L s c e) rfl ?_
  refine RuP.step (pc' := 51) (ls' := [some (.inr (.inr (some 31))), some (.inl z1), d2]) (st' := [.inr (.inr (some 31)), .inr (.inr (some 31))]) (h1 := hp L s c e) rfl ?_
  refine RuP.step (pc' := 54) (ls' := [some (.inr (.inr (some 31))), some (.inl z1), d2]) (st' := [.inl (s 31 7), .inr (.inr (some 31))]) (h1 := hp L s c e) rfl ?_
  refine RuP.step (pc' := 56) (ls' := [some (.inr (.inr (some 31))), some (.inl z1), d2]) (st' := [.inl 12, .inl (s 31 7), .inr (.inr (some 31))]) (h1 := hp L s c e) rfl ?_
  refine RuP.cI rfl (EvP.i ((ev_291 (s 31 7) 12).up (by decide))) ?_
  refine RuP.step (pc' := 62) (ls' := [some (.inr (.inr (some 31))), some (.inl z1), d2]) (st' := []) (h1 := hp L (ax_u2 s 31 7 (f_291 (s 31 7) 12 s)) c e) rfl ?_
  refine RuP.step (pc' := 63) (ls' := [some (.inr (.inr (some 31))), some (.inl z1), d2]) (st' := [.inr (.inr (some 31))]) (h1 := hp L (ax_u2 s 31 7 (f_291 (s 31 7) 12 s)) c e) rfl ?_
  refine RuP.step (pc' := 64) (ls' := [some (.inr (.inr (some 31))), some (.inl z1), d2]) (st' := [.inl 0, .inr (.inr (some 31))]) (h1 := hp L (ax_u2 s 31 7 (f_291 (s 31 7) 12 s)) c e) rfl ?_
  obtain ⟨q1, h1, h⟩ := bd_some h
  refine RuP.cV rfl ((ev_102 h1).up (by decide)) ?_
  refine RuP.step (pc' := 68) (ls' := [some (.inr (.inr (some 31))), some (.inl z1), d2]) (st' := [.inr (.inr (some 31))]) (h1 := hp L q1 c e) rfl ?_
  refine RuP.step (pc' := 71) (ls' := [some (.inr (.inr (some 31))), some (.inl z1), d2]) (st' := [.inl (q1 31 7)]) (h1 := hp L q1 c e) rfl ?_
  by_cases h0 : ¬ (q1 31 7) = 0
  · rw [if_pos h0] at h
    refine RuP.jy rfl h0 ?_
    cases h
    exact RuP.dV rfl
  · rw [if_neg h0] at h
    refine RuP.jn rfl h0 ?_
    refine RuP.step (pc' := 75) (ls' := [some (.inr (.inr (some 31))), some (.inl z1), d2]) (st' := [.inr (.inr (some 31))]) (h1 := hp L q1 c e) rfl ?_
    obtain ⟨q2, h1, h⟩ := bd_some h
    refine RuP.cV rfl ((ev_103 h1).up (by decide)) ?_
    cases h
    exact RuP.dV rfl
noncomputable def j_101_43 (k3 : (Int → Sg → Option Sg)) (l1 : Int) (s : Sg) : Option Sg :=
  k3 (ax_w32 (l1 + 1)) s
theorem bl_101_43 {L c : Nat} {e : Nat → Nat} {k3 : (Int → Sg → Option Sg)} (hk3 : ∀ (d2 : Option ax_V) (l1 : Int) (s : Sg) (q : Sg), k3 l1 s = some q → RuP 5 tb_m101 3 [some (.inr (.inr (some 31))), some (.inl l1), d2] [] (hp L s c e) (oV L c e q)) : ∀ (z2 : Int) (l1 : Int) (s : Sg) (q : Sg), j_101_43 k3 l1 s = some q → RuP 5 tb_m101 43 [some (.inr (.inr (some 31))), some (.inl l1), some (.inl z2)] [] (hp L s c e) (oV L c e q) := by
  intro z2 l1 s q h
  unfold j_101_43 at h
  refine RuP.step (pc' := 46) (ls' := [some (.inr (.inr (some 31))), some (.inl (ax_w32 (l1 + 1))), some (.inl z2)]) (st' := []) (h1 := hp L s c e) rfl ?_
  refine RuP.step (pc' := 3) (ls' := [some (.inr (.inr (some 31))), some (.inl (ax_w32 (l1 + 1))), some (.inl z2)]) (st' := []) (h1 := hp L s c e) rfl ?_
  exact hk3 _ _ _ _ h
noncomputable def j_101_3 : Nat → Int → Sg → Option Sg
  | 0, _, _ => none
  | F + 1, l1, s =>
    (if s 31 7 ≤ l1 then
      j_101_49 s
    else
      (if 4112 ≤ l1 then
        j_101_49 s
      else
        (gd (0 ≤ l1 ∧ l1 < 4112) (
        (if s 33 l1.toNat < 0 then
          j_101_43 (j_101_3 F) l1 s
        else
          (if 8192 ≤ s 33 l1.toNat then
            j_101_43 (j_101_3 F) l1 s
          else
            (gd (0 ≤ s 33 l1.toNat ∧ s 33 l1.toNat < 8192) (
            j_101_43 (j_101_3 F) l1 (ax_u2 s 32 ((s 33 l1.toNat).toNat) 0)))))))))
theorem bl_101_3 {L c : Nat} {e : Nat → Nat} : ∀ (F : Nat) (d2 : Option ax_V) (l1 : Int) (s : Sg) (q : Sg), j_101_3 F l1 s = some q → RuP 5 tb_m101 3 [some (.inr (.inr (some 31))), some (.inl l1), d2] [] (hp L s c e) (oV L c e q) := by
  intro F
  induction F with
  | zero =>
    intro d2 l1 s q h
    rw [j_101_3] at h
    cases h
  | succ F ih =>
    intro d2 l1 s q h
    rw [j_101_3] at h
    refine RuP.step (pc' := 4) (ls' := [some (.inr (.inr (some 31))), some (.inl l1), d2]) (st' := [.inl l1]) (h1 := hp L s c e) rfl ?_
    refine RuP.step (pc' := 5) (ls' := [some (.inr (.inr (some 31))), some (.inl l1), d2]) (st' := [.inr (.inr (some 31)), .inl l1]) (h1 := hp L s c e) rfl ?_
    refine RuP.step (pc' := 8) (ls' := [some (.inr (.inr (some 31))), some (.inl l1), d2]) (st' := [.inl (s 31 7), .inl l1]) (h1 := hp L s c e) rfl ?_
    by_cases h0 : s 31 7 ≤ l1
    · rw [if_pos h0] at h
      refine RuP.jy rfl h0 ?_
      exact bl_101_49 _ _ _ _ h
    · rw [if_neg h0] at h
      refine RuP.jn rfl h0 ?_
      refine RuP.step (pc' := 12) (ls' := [some (.inr (.inr (some 31))), some (.inl l1), d2]) (st' := [.inl l1]) (h1 := hp L s c e) rfl ?_
      refine RuP.step (pc' := 15) (ls' := [some (.inr (.inr (some 31))), some (.inl l1), d2]) (st' := [.inl 4112, .inl l1]) (h1 := hp L s c e) rfl ?_
      by_cases h1 : 4112 ≤ l1
      · rw [if_pos h1] at h
        refine RuP.jy rfl h1 ?_
        exact bl_101_49 _ _ _ _ h
      · rw [if_neg h1] at h
        refine RuP.jn rfl h1 ?_
        refine RuP.step (pc' := 19) (ls' := [some (.inr (.inr (some 31))), some (.inl l1), d2]) (st' := [.inr (.inr (some 31))]) (h1 := hp L s c e) rfl ?_
        refine RuP.step (pc' := 22) (ls' := [some (.inr (.inr (some 31))), some (.inl l1), d2]) (st' := [.inr (.inr (some 33))]) (h1 := hp L s c e) rfl ?_
        refine RuP.step (pc' := 23) (ls' := [some (.inr (.inr (some 31))), some (.inl l1), d2]) (st' := [.inl l1, .inr (.inr (some 33))]) (h1 := hp L s c e) rfl ?_
        obtain ⟨b2, h⟩ := gd_some h
        refine RuP.ald (f := fun t => t == 0) (j := l1) (a := 33) rfl rfl b2.1 b2.2 ?_
        refine RuP.step (pc' := 25) (ls' := [some (.inr (.inr (some 31))), some (.inl l1), some (.inl (s 33 l1.toNat))]) (st' := []) (h1 := hp L s c e) rfl ?_
        refine RuP.step (pc' := 26) (ls' := [some (.inr (.inr (some 31))), some (.inl l1), some (.inl (s 33 l1.toNat))]) (st' := [.inl (s 33 l1.toNat)]) (h1 := hp L s c e) rfl ?_
        by_cases h3 : s 33 l1.toNat < 0
        · rw [if_pos h3] at h
          refine RuP.jy rfl h3 ?_
          exact bl_101_43 ih _ _ _ _ h
        · rw [if_neg h3] at h
          refine RuP.jn rfl h3 ?_
          refine RuP.step (pc' := 30) (ls' := [some (.inr (.inr (some 31))), some (.inl l1), some (.inl (s 33 l1.toNat))]) (st' := [.inl (s 33 l1.toNat)]) (h1 := hp L s c e) rfl ?_
          refine RuP.step (pc' := 33) (ls' := [some (.inr (.inr (some 31))), some (.inl l1), some (.inl (s 33 l1.toNat))]) (st' := [.inl 8192, .inl (s 33 l1.toNat)]) (h1 := hp L s c e) rfl ?_
          by_cases h4 : 8192 ≤ s 33 l1.toNat
          · rw [if_pos h4] at h
            refine RuP.jy rfl h4 ?_
            exact bl_101_43 ih _ _ _ _ h
          · rw [if_neg h4] at h
            refine RuP.jn rfl h4 ?_
            refine RuP.step (pc' := 37) (ls' := [some (.inr (.inr (some 31))), some (.inl l1), some (.inl (s 33 l1.toNat))]) (st' := [.inr (.inr (some 31))]) (h1 := hp L s c e) rfl ?_
            refine RuP.step (pc' := 40) (ls' := [some (.inr (.inr (some 31))), some (.inl l1), some (.inl (s 33 l1.toNat))]) (st' := [.inr (.inr (some 32))]) (h1 := hp L s c e) rfl ?_
            refine RuP.step (pc' := 41) (ls' := [some (.inr (.inr (some 31))), some (.inl l1), some (.inl (s 33 l1.toNat))]) (st' := [.inl (s 33 l1.toNat), .inr (.inr (some 32))]) (h1 := hp L s c e) rfl ?_
            refine RuP.step (pc' := 42) (ls' := [some (.inr (.inr (some 31))), some (.inl l1), some (.inl (s 33 l1.toNat))]) (st' := [.inl 0, .inl (s 33 l1.toNat), .inr (.inr (some 32))]) (h1 := hp L s c e) rfl ?_
            obtain ⟨b5, h⟩ := gd_some h
            refine RuP.ast (f := fun t => t == 0) (j := s 33 l1.toNat) (a := 32) rfl rfl (by decide) rfl rfl b5.1 b5.2 ?_
            exact bl_101_43 ih _ _ _ _ h
noncomputable def f_101 (s : Sg) : Option Sg :=
  j_101_3 FU 12 s
theorem ev_101 {L c : Nat} {e : Nat → Nat} {s : Sg} {q : Sg} (h : f_101 s = some q) : EvP 6 101 [.inr (.inr (some 31))] (hp L s c e) (oV L c e q) := by
  unfold f_101 at h
  refine EvP.of (μ := tb_m101) (ls := [some (.inr (.inr (some 31))), none, none]) rfl (Nat.le_of_ble_eq_true rfl) rfl ?_
  refine RuP.step (pc' := 2) (ls' := [some (.inr (.inr (some 31))), none, none]) (st' := [.inl 12]) (h1 := hp L s c e) rfl ?_
  refine RuP.step (pc' := 3) (ls' := [some (.inr (.inr (some 31))), some (.inl 12), none]) (st' := []) (h1 := hp L s c e) rfl ?_
  exact bl_101_3 FU _ _ _ _ h
/-- java/lang/StringLatin1.indexOf([BIII)I -/
noncomputable def f_297_5 (x1 x2 x3 : Int) (s : Sg) : Option Int :=
  (if ¬ (f_298 x1 s) = 0 then
    (if f_292 x2 0 s < f_291 x3 20 s then
      ((f_299_5 x1 (f_292 x2 0 s) (f_291 x3 20 s) s).bind fun q1 =>
      some q1)
    else
      some (-1))
  else
    some (-1))
theorem ev_297_5 {L c : Nat} {e : Nat → Nat} {s : Sg} {x1 x2 x3 : Int} {q : Int} (h : f_297_5 x1 x2 x3 s = some q) : EvP 2 297 [.inr (.inr (some 5)), .inl x1, .inl x2, .inl x3] (hp L s c e) (oI L c e (q, s)) := by
  unfold f_297_5 at h
  refine EvP.of (μ := tb_m297) (ls := [some (.inr (.inr (some 5))), some (.inl x1), some (.inl x2), some (.inl x3)]) rfl (Nat.le_of_ble_eq_true rfl) rfl ?_
  refine RuP.step (pc' := 1) (ls' := [some (.inr (.inr (some 5))), some (.inl x1), some (.inl x2), some (.inl x3)]) (st' := [.inl x1]) (h1 := hp L s c e) rfl ?_
  refine RuP.cI rfl ((ev_298 x1).up (by decide)) ?_
  by_cases h0 : ¬ (f_298 x1 s) = 0
  · rw [if_pos h0] at h
    refine RuP.jy rfl h0 ?_
    refine RuP.step (pc' := 10) (ls' := [some (.inr (.inr (some 5))), some (.inl x1), some (.inl x2), some (.inl x3)]) (st' := [.inl x2]) (h1 := hp L s c e) rfl ?_
    refine RuP.step (pc' := 11) (ls' := [some (.inr (.inr (some 5))), some (.inl x1), some (.inl x2), some (.inl x3)]) (st' := [.inl 0, .inl x2]) (h1 := hp L s c e) rfl ?_
    refine RuP.cI rfl (EvP.i ((ev_292 x2 0).up (by decide))) ?_
    refine RuP.step (pc' := 15) (ls' := [some (.inr (.inr (some 5))), some (.inl x1), some (.inl (f_292 x2 0 s)), some (.inl x3)]) (st' := []) (h1 := hp L s c e) rfl ?_
    refine RuP.step (pc' := 16) (ls' := [some (.inr (.inr (some 5))), some (.inl x1), some (.inl (f_292 x2 0 s)), some (.inl x3)]) (st' := [.inl x3]) (h1 := hp L s c e) rfl ?_
    refine RuP.step (pc' := 17) (ls' := [some (.inr (.inr (some 5))), some (.inl x1), some (.inl (f_292 x2 0 s)), some (.inl x3)]) (st' := [.inr (.inr (some 5)), .inl x3]) (h1 := hp L s c e) rfl ?_
    refine RuP.step (pc' := 18) (ls' := [some (.inr (.inr (some 5))), some (.inl x1), some (.inl (f_292 x2 0 s)), some (.inl x3)]) (st' := [.inl 20, .inl x3]) (h1 := hp L s c e) rfl ?_
    refine RuP.cI rfl (EvP.i ((ev_291 x3 20).up (by decide))) ?_
    refine RuP.step (pc' := 22) (ls' := [some (.inr (.inr (some 5))), some (.inl x1), some (.inl (f_292 x2 0 s)), some (.inl (f_291 x3 20 s))]) (st' := []) (h1 := hp L s c e) rfl ?_
    refine RuP.step (pc' := 23) (ls' := [some (.inr (.inr (some 5))), some (.inl x1), some (.inl (f_292 x2 0 s)), some (.inl (f_291 x3 20 s))]) (st' := [.inl (f_292 x2 0 s)]) (h1 := hp L s c e) rfl ?_
    refine RuP.step (pc' := 24) (ls' := [some (.inr (.inr (some 5))), some (.inl x1), some (.inl (f_292 x2 0 s)), some (.inl (f_291 x3 20 s))]) (st' := [.inl (f_291 x3 20 s), .inl (f_292 x2 0 s)]) (h1 := hp L s c e) rfl ?_
    by_cases h1 : f_292 x2 0 s < f_291 x3 20 s
    · rw [if_pos h1] at h
      refine RuP.jy rfl h1 ?_
      refine RuP.step (pc' := 30) (ls' := [some (.inr (.inr (some 5))), some (.inl x1), some (.inl (f_292 x2 0 s)), some (.inl (f_291 x3 20 s))]) (st' := [.inr (.inr (some 5))]) (h1 := hp L s c e) rfl ?_
      refine RuP.step (pc' := 31) (ls' := [some (.inr (.inr (some 5))), some (.inl x1), some (.inl (f_292 x2 0 s)), some (.inl (f_291 x3 20 s))]) (st' := [.inl x1, .inr (.inr (some 5))]) (h1 := hp L s c e) rfl ?_
      refine RuP.step (pc' := 32) (ls' := [some (.inr (.inr (some 5))), some (.inl x1), some (.inl (f_292 x2 0 s)), some (.inl (f_291 x3 20 s))]) (st' := [.inl (f_292 x2 0 s), .inl x1, .inr (.inr (some 5))]) (h1 := hp L s c e) rfl ?_
      refine RuP.step (pc' := 33) (ls' := [some (.inr (.inr (some 5))), some (.inl x1), some (.inl (f_292 x2 0 s)), some (.inl (f_291 x3 20 s))]) (st' := [.inl (f_291 x3 20 s), .inl (f_292 x2 0 s), .inl x1, .inr (.inr (some 5))]) (h1 := hp L s c e) rfl ?_
      obtain ⟨q1, h1, h⟩ := bd_some h
      refine RuP.cI rfl ((ev_299_5 h1).up (by decide)) ?_
      cases h
      exact RuP.dI rfl
    · rw [if_neg h1] at h
      refine RuP.jn rfl h1 ?_
      refine RuP.step (pc' := 28) (ls' := [some (.inr (.inr (some 5))), some (.inl x1), some (.inl (f_292 x2 0 s)), some (.inl (f_291 x3 20 s))]) (st' := [.inl (-1)]) (h1 := hp L s c e) rfl ?_
      cases h
      exact RuP.dI rfl
  · rw [if_neg h0] at h
    refine RuP.jn rfl h0 ?_
    refine RuP.step (pc' := 8) (ls' := [some (.inr (.inr (some 5))), some (.inl x1), some (.inl x2), some (.inl x3)]) (st' := [.inl (-1)]) (h1 := hp L s c e) rfl ?_
    cases h
    exact RuP.dI rfl
/-- MachineText.forget()V -/
noncomputable def f_14 (s : Sg) : Option Sg :=
  ((f_70 s).bind fun q1 =>
  ((f_101 q1).bind fun q2 =>
  ((some (f_74 q2)).bind fun q3 =>
  ((some (f_113 q3)).bind fun q4 =>
  ((some (f_180 q4)).bind fun q5 =>
  ((some (f_33 q5)).bind fun q6 =>
  ((some (f_44 q6)).bind fun q7 =>
  ((some (f_140 q7)).bind fun q8 =>
  ((some (f_163 q8)).bind fun q9 =>
  some q9)))))))))
theorem ev_14 {L c : Nat} {e : Nat → Nat} {s : Sg} {q : Sg} (h : f_14 s = some q) : EvP 7 14 [.inr (.inr (some 27))] (hp L s c e) (oV L c e q) := by
  unfold f_14 at h
  refine EvP.of (μ := tb_m14) (ls := [some (.inr (.inr (some 27)))]) rfl (Nat.le_of_ble_eq_true rfl) rfl ?_
  refine RuP.step (pc' := 1) (ls' := [some (.inr (.inr (some 27)))]) (st' := [.inr (.inr (some 27))]) (h1 := hp L s c e) rfl ?_
  refine RuP.step (pc' := 4) (ls' := [some (.inr (.inr (some 27)))]) (st' := [.inr (.inr (some 29))]) (h1 := hp L s c e) rfl ?_
  obtain ⟨q1, h1, h⟩ := bd_some h
  refine RuP.cV rfl ((ev_70 h1).up (by decide)) ?_
  refine RuP.step (pc' := 8) (ls' := [some (.inr (.inr (some 27)))]) (st' := [.inr (.inr (some 27))]) (h1 := hp L q1 c e) rfl ?_
  refine RuP.step (pc' := 11) (ls' := [some (.inr (.inr (some 27)))]) (st' := [.inr (.inr (some 31))]) (h1 := hp L q1 c e) rfl ?_
  obtain ⟨q2, h1, h⟩ := bd_some h
  refine RuP.cV rfl ((ev_101 h1).up (by decide)) ?_
  refine RuP.step (pc' := 15) (ls' := [some (.inr (.inr (some 27)))]) (st' := [.inr (.inr (some 27))]) (h1 := hp L q2 c e) rfl ?_
  refine RuP.step (pc' := 18) (ls' := [some (.inr (.inr (some 27)))]) (st' := [.inr (.inr (some 39))]) (h1 := hp L q2 c e) rfl ?_
  obtain ⟨q3, h1, h⟩ := bd_some h
  refine RuP.cVe h1 rfl (EvP.v ((ev_74 ).up (by decide))) ?_
  refine RuP.step (pc' := 22) (ls' := [some (.inr (.inr (some 27)))]) (st' := [.inr (.inr (some 27))]) (h1 := hp L q3 c e) rfl ?_
  refine RuP.step (pc' := 25) (ls' := [some (.inr (.inr (some 27)))]) (st' := [.inr (.inr (some 46))]) (h1 := hp L q3 c e) rfl ?_
  obtain ⟨q4, h1, h⟩ := bd_some h
  refine RuP.cVe h1 rfl (EvP.v ((ev_113 ).up (by decide))) ?_
  refine RuP.step (pc' := 29) (ls' := [some (.inr (.inr (some 27)))]) (st' := [.inr (.inr (some 27))]) (h1 := hp L q4 c e) rfl ?_
  refine RuP.step (pc' := 32) (ls' := [some (.inr (.inr (some 27)))]) (st' := [.inr (.inr (some 54))]) (h1 := hp L q4 c e) rfl ?_
  obtain ⟨q5, h1, h⟩ := bd_some h
  refine RuP.cVe h1 rfl (EvP.v ((ev_180 ).up (by decide))) ?_
  refine RuP.step (pc' := 36) (ls' := [some (.inr (.inr (some 27)))]) (st' := [.inr (.inr (some 27))]) (h1 := hp L q5 c e) rfl ?_
  refine RuP.step (pc' := 39) (ls' := [some (.inr (.inr (some 27)))]) (st' := [.inr (.inr (some 61))]) (h1 := hp L q5 c e) rfl ?_
  obtain ⟨q6, h1, h⟩ := bd_some h
  refine RuP.cVe h1 rfl (EvP.v ((ev_33 ).up (by decide))) ?_
  refine RuP.step (pc' := 43) (ls' := [some (.inr (.inr (some 27)))]) (st' := [.inr (.inr (some 27))]) (h1 := hp L q6 c e) rfl ?_
  refine RuP.step (pc' := 46) (ls' := [some (.inr (.inr (some 27)))]) (st' := [.inr (.inr (some 66))]) (h1 := hp L q6 c e) rfl ?_
  obtain ⟨q7, h1, h⟩ := bd_some h
  refine RuP.cVe h1 rfl (EvP.v ((ev_44 ).up (by decide))) ?_
  refine RuP.step (pc' := 50) (ls' := [some (.inr (.inr (some 27)))]) (st' := [.inr (.inr (some 27))]) (h1 := hp L q7 c e) rfl ?_
  refine RuP.step (pc' := 53) (ls' := [some (.inr (.inr (some 27)))]) (st' := [.inr (.inr (some 70))]) (h1 := hp L q7 c e) rfl ?_
  obtain ⟨q8, h1, h⟩ := bd_some h
  refine RuP.cVe h1 rfl (EvP.v ((ev_140 ).up (by decide))) ?_
  refine RuP.step (pc' := 57) (ls' := [some (.inr (.inr (some 27)))]) (st' := [.inr (.inr (some 27))]) (h1 := hp L q8 c e) rfl ?_
  refine RuP.step (pc' := 60) (ls' := [some (.inr (.inr (some 27)))]) (st' := [.inr (.inr (some 74))]) (h1 := hp L q8 c e) rfl ?_
  obtain ⟨q9, h1, h⟩ := bd_some h
  refine RuP.cVe h1 rfl (EvP.v ((ev_163 ).up (by decide))) ?_
  cases h
  exact RuP.dV rfl
/-- java/lang/String.indexOf(II)I -/
noncomputable def f_277_4 (x0 x1 : Int) (s : Sg) : Option Int :=
  (if f_276_4 s = 0 then
    ((f_272_4 s).bind fun q1 =>
    none)
  else
    ((f_272_4 s).bind fun q2 =>
    ((f_297_5 x0 x1 q2 s).bind fun q3 =>
    some q3)))
theorem ev_277_4 {L c : Nat} {e : Nat → Nat} {s : Sg} {x0 x1 : Int} {q : Int} (h : f_277_4 x0 x1 s = some q) : EvP 3 277 [.inr (.inr (some 4)), .inl x0, .inl x1] (hp L s c e) (oI L c e (q, s)) := by
  unfold f_277_4 at h
  refine EvP.of (μ := tb_m277) (ls := [some (.inr (.inr (some 4))), some (.inl x0), some (.inl x1)]) rfl (Nat.le_of_ble_eq_true rfl) rfl ?_
  refine RuP.step (pc' := 1) (ls' := [some (.inr (.inr (some 4))), some (.inl x0), some (.inl x1)]) (st' := [.inr (.inr (some 4))]) (h1 := hp L s c e) rfl ?_
  refine RuP.cI rfl ((ev_276_4 ).up (by decide)) ?_
  by_cases h0 : f_276_4 s = 0
  · rw [if_pos h0] at h
    refine RuP.jy rfl h0 ?_
    refine RuP.step (pc' := 24) (ls' := [some (.inr (.inr (some 4))), some (.inl x0), some (.inl x1)]) (st' := [.inr (.inr (some 4))]) (h1 := hp L s c e) rfl ?_
    refine RuP.step (pc' := 27) (ls' := [some (.inr (.inr (some 4))), some (.inl x0), some (.inl x1)]) (st' := [.inr (.inr (some 5))]) (h1 := hp L s c e) rfl ?_
    refine RuP.step (pc' := 28) (ls' := [some (.inr (.inr (some 4))), some (.inl x0), some (.inl x1)]) (st' := [.inl x0, .inr (.inr (some 5))]) (h1 := hp L s c e) rfl ?_
    refine RuP.step (pc' := 29) (ls' := [some (.inr (.inr (some 4))), some (.inl x0), some (.inl x1)]) (st' := [.inl x1, .inl x0, .inr (.inr (some 5))]) (h1 := hp L s c e) rfl ?_
    refine RuP.step (pc' := 30) (ls' := [some (.inr (.inr (some 4))), some (.inl x0), some (.inl x1)]) (st' := [.inr (.inr (some 4)), .inl x1, .inl x0, .inr (.inr (some 5))]) (h1 := hp L s c e) rfl ?_
    obtain ⟨q1, h1, h⟩ := bd_some h
    refine RuP.cI rfl ((ev_272_4 h1).up (by decide)) ?_
    cases h
  · rw [if_neg h0] at h
    refine RuP.jn rfl h0 ?_
    refine RuP.step (pc' := 8) (ls' := [some (.inr (.inr (some 4))), some (.inl x0), some (.inl x1)]) (st' := [.inr (.inr (some 4))]) (h1 := hp L s c e) rfl ?_
    refine RuP.step (pc' := 11) (ls' := [some (.inr (.inr (some 4))), some (.inl x0), some (.inl x1)]) (st' := [.inr (.inr (some 5))]) (h1 := hp L s c e) rfl ?_
    refine RuP.step (pc' := 12) (ls' := [some (.inr (.inr (some 4))), some (.inl x0), some (.inl x1)]) (st' := [.inl x0, .inr (.inr (some 5))]) (h1 := hp L s c e) rfl ?_
    refine RuP.step (pc' := 13) (ls' := [some (.inr (.inr (some 4))), some (.inl x0), some (.inl x1)]) (st' := [.inl x1, .inl x0, .inr (.inr (some 5))]) (h1 := hp L s c e) rfl ?_
    refine RuP.step (pc' := 14) (ls' := [some (.inr (.inr (some 4))), some (.inl x0), some (.inl x1)]) (st' := [.inr (.inr (some 4)), .inl x1, .inl x0, .inr (.inr (some 5))]) (h1 := hp L s c e) rfl ?_
    obtain ⟨q2, h1, h⟩ := bd_some h
    refine RuP.cI rfl ((ev_272_4 h1).up (by decide)) ?_
    obtain ⟨q3, h1, h⟩ := bd_some h
    refine RuP.cI rfl ((ev_297_5 h1).up (by decide)) ?_
    refine RuP.step (pc' := 36) (ls' := [some (.inr (.inr (some 4))), some (.inl x0), some (.inl x1)]) (st' := [.inl q3]) (h1 := hp L s c e) rfl ?_
    cases h
    exact RuP.dI rfl
/-- java/lang/String.indexOf(I)I -/
noncomputable def f_274_4 (x0 : Int) (s : Sg) : Option Int :=
  ((f_277_4 x0 0 s).bind fun q1 =>
  some q1)
theorem ev_274_4 {L c : Nat} {e : Nat → Nat} {s : Sg} {x0 : Int} {q : Int} (h : f_274_4 x0 s = some q) : EvP 4 274 [.inr (.inr (some 4)), .inl x0] (hp L s c e) (oI L c e (q, s)) := by
  unfold f_274_4 at h
  refine EvP.of (μ := tb_m274) (ls := [some (.inr (.inr (some 4))), some (.inl x0)]) rfl (Nat.le_of_ble_eq_true rfl) rfl ?_
  refine RuP.step (pc' := 1) (ls' := [some (.inr (.inr (some 4))), some (.inl x0)]) (st' := [.inr (.inr (some 4))]) (h1 := hp L s c e) rfl ?_
  refine RuP.step (pc' := 2) (ls' := [some (.inr (.inr (some 4))), some (.inl x0)]) (st' := [.inl x0, .inr (.inr (some 4))]) (h1 := hp L s c e) rfl ?_
  refine RuP.step (pc' := 3) (ls' := [some (.inr (.inr (some 4))), some (.inl x0)]) (st' := [.inl 0, .inl x0, .inr (.inr (some 4))]) (h1 := hp L s c e) rfl ?_
  obtain ⟨q1, h1, h⟩ := bd_some h
  refine RuP.cI rfl ((ev_277_4 h1).up (by decide)) ?_
  cases h
  exact RuP.dI rfl
/-- MachineText$Lexemes.cutSign(I)I -/
noncomputable def f_88 (x0 : Int) (s : Sg) : Option (Int × Sg) :=
  (gd (g_83 x0 s) (
  (gd (g_83 (ax_w32 (x0 + 1)) s) (
  (if f_95 (f_83 x0 s) (f_83 (ax_w32 (x0 + 1)) s) s = (-1) then
    ((f_274_4 (ax_u16 (f_83 x0 s)) s).bind fun q1 =>
    (if 0 ≤ q1 then
      (gd (g_78 (f_83 x0 s) x0 (ax_w32 (x0 + 1)) 0 s) (
      ((some (f_78 (f_83 x0 s) x0 (ax_w32 (x0 + 1)) 0 s)).bind fun q2 =>
      some (ax_w32 (x0 + 1), q2))))
    else
      some ((-1), s)))
  else
    (gd (g_78 (f_95 (f_83 x0 s) (f_83 (ax_w32 (x0 + 1)) s) s) x0 (ax_w32 (x0 + 2)) 0 s) (
    ((some (f_78 (f_95 (f_83 x0 s) (f_83 (ax_w32 (x0 + 1)) s) s) x0 (ax_w32 (x0 + 2)) 0 s)).bind fun q3 =>
    some (ax_w32 (x0 + 2), q3)))))))))
theorem ev_88 {L c : Nat} {e : Nat → Nat} {s : Sg} {x0 : Int} {q : Int × Sg} (h : f_88 x0 s = some q) : EvP 5 88 [.inr (.inr (some 39)), .inl x0] (hp L s c e) (oI L c e q) := by
  unfold f_88 at h
  refine EvP.of (μ := tb_m88) (ls := [some (.inr (.inr (some 39))), some (.inl x0), none, none]) rfl (Nat.le_of_ble_eq_true rfl) rfl ?_
  refine RuP.step (pc' := 1) (ls' := [some (.inr (.inr (some 39))), some (.inl x0), none, none]) (st' := [.inr (.inr (some 39))]) (h1 := hp L s c e) rfl ?_
  refine RuP.step (pc' := 2) (ls' := [some (.inr (.inr (some 39))), some (.inl x0), none, none]) (st' := [.inl x0, .inr (.inr (some 39))]) (h1 := hp L s c e) rfl ?_
  obtain ⟨b0, h⟩ := gd_some h
  refine RuP.cI rfl (EvP.i ((ev_83 x0 b0).up (by decide))) ?_
  refine RuP.step (pc' := 6) (ls' := [some (.inr (.inr (some 39))), some (.inl x0), some (.inl (f_83 x0 s)), none]) (st' := []) (h1 := hp L s c e) rfl ?_
  refine RuP.step (pc' := 7) (ls' := [some (.inr (.inr (some 39))), some (.inl x0), some (.inl (f_83 x0 s)), none]) (st' := [.inl (f_83 x0 s)]) (h1 := hp L s c e) rfl ?_
  refine RuP.step (pc' := 8) (ls' := [some (.inr (.inr (some 39))), some (.inl x0), some (.inl (f_83 x0 s)), none]) (st' := [.inr (.inr (some 39)), .inl (f_83 x0 s)]) (h1 := hp L s c e) rfl ?_
  refine RuP.step (pc' := 9) (ls' := [some (.inr (.inr (some 39))), some (.inl x0), some (.inl (f_83 x0 s)), none]) (st' := [.inl x0, .inr (.inr (some 39)), .inl (f_83 x0 s)]) (h1 := hp L s c e) rfl ?_
  refine RuP.step (pc' := 10) (ls' := [some (.inr (.inr (some 39))), some (.inl x0), some (.inl (f_83 x0 s)), none]) (st' := [.inl 1, .inl x0, .inr (.inr (some 39)), .inl (f_83 x0 s)]) (h1 := hp L s c e) rfl ?_
  refine RuP.step (pc' := 11) (ls' := [some (.inr (.inr (some 39))), some (.inl x0), some (.inl (f_83 x0 s)), none]) (st' := [.inl (ax_w32 (x0 + 1)), .inr (.inr (some 39)), .inl (f_83 x0 s)]) (h1 := hp L s c e) rfl ?_
  obtain ⟨b1, h⟩ := gd_some h
  refine RuP.cI rfl (EvP.i ((ev_83 (ax_w32 (x0 + 1)) b1).up (by decide))) ?_
  refine RuP.cI rfl (EvP.i ((ev_95 (f_83 x0 s) (f_83 (ax_w32 (x0 + 1)) s)).up (by decide))) ?_
  refine RuP.step (pc' := 18) (ls' := [some (.inr (.inr (some 39))), some (.inl x0), some (.inl (f_83 x0 s)), some (.inl (f_95 (f_83 x0 s) (f_83 (ax_w32 (x0 + 1)) s) s))]) (st' := []) (h1 := hp L s c e) rfl ?_
  refine RuP.step (pc' := 19) (ls' := [some (.inr (.inr (some 39))), some (.inl x0), some (.inl (f_83 x0 s)), some (.inl (f_95 (f_83 x0 s) (f_83 (ax_w32 (x0 + 1)) s) s))]) (st' := [.inl (f_95 (f_83 x0 s) (f_83 (ax_w32 (x0 + 1)) s) s)]) (h1 := hp L s c e) rfl ?_
  refine RuP.step (pc' := 20) (ls' := [some (.inr (.inr (some 39))), some (.inl x0), some (.inl (f_83 x0 s)), some (.inl (f_95 (f_83 x0 s) (f_83 (ax_w32 (x0 + 1)) s) s))]) (st' := [.inl (-1), .inl (f_95 (f_83 x0 s) (f_83 (ax_w32 (x0 + 1)) s) s)]) (h1 := hp L s c e) rfl ?_
  by_cases h2 : f_95 (f_83 x0 s) (f_83 (ax_w32 (x0 + 1)) s) s = (-1)
  · rw [if_pos h2] at h
    refine RuP.jy rfl h2 ?_
    refine RuP.step (pc' := 39) (ls' := [some (.inr (.inr (some 39))), some (.inl x0), some (.inl (f_83 x0 s)), some (.inl (f_95 (f_83 x0 s) (f_83 (ax_w32 (x0 + 1)) s) s))]) (st' := [.inr (.inr (some 4))]) (h1 := hp L s c e) rfl ?_
    refine RuP.step (pc' := 40) (ls' := [some (.inr (.inr (some 39))), some (.inl x0), some (.inl (f_83 x0 s)), some (.inl (f_95 (f_83 x0 s) (f_83 (ax_w32 (x0 + 1)) s) s))]) (st' := [.inl (f_83 x0 s), .inr (.inr (some 4))]) (h1 := hp L s c e) rfl ?_
    refine RuP.step (pc' := 41) (ls' := [some (.inr (.inr (some 39))), some (.inl x0), some (.inl (f_83 x0 s)), some (.inl (f_95 (f_83 x0 s) (f_83 (ax_w32 (x0 + 1)) s) s))]) (st' := [.inl (ax_u16 (f_83 x0 s)), .inr (.inr (some 4))]) (h1 := hp L s c e) rfl ?_
    obtain ⟨q1, h1, h⟩ := bd_some h
    refine RuP.cI rfl ((ev_274_4 h1).up (by decide)) ?_
    by_cases h3 : 0 ≤ q1
    · rw [if_pos h3] at h
      refine RuP.jy rfl h3 ?_
      refine RuP.step (pc' := 50) (ls' := [some (.inr (.inr (some 39))), some (.inl x0), some (.inl (f_83 x0 s)), some (.inl (f_95 (f_83 x0 s) (f_83 (ax_w32 (x0 + 1)) s) s))]) (st' := [.inr (.inr (some 39))]) (h1 := hp L s c e) rfl ?_
      refine RuP.step (pc' := 51) (ls' := [some (.inr (.inr (some 39))), some (.inl x0), some (.inl (f_83 x0 s)), some (.inl (f_95 (f_83 x0 s) (f_83 (ax_w32 (x0 + 1)) s) s))]) (st' := [.inl (f_83 x0 s), .inr (.inr (some 39))]) (h1 := hp L s c e) rfl ?_
      refine RuP.step (pc' := 52) (ls' := [some (.inr (.inr (some 39))), some (.inl x0), some (.inl (f_83 x0 s)), some (.inl (f_95 (f_83 x0 s) (f_83 (ax_w32 (x0 + 1)) s) s))]) (st' := [.inl x0, .inl (f_83 x0 s), .inr (.inr (some 39))]) (h1 := hp L s c e) rfl ?_
      refine RuP.step (pc' := 53) (ls' := [some (.inr (.inr (some 39))), some (.inl x0), some (.inl (f_83 x0 s)), some (.inl (f_95 (f_83 x0 s) (f_83 (ax_w32 (x0 + 1)) s) s))]) (st' := [.inl x0, .inl x0, .inl (f_83 x0 s), .inr (.inr (some 39))]) (h1 := hp L s c e) rfl ?_
      refine RuP.step (pc' := 54) (ls' := [some (.inr (.inr (some 39))), some (.inl x0), some (.inl (f_83 x0 s)), some (.inl (f_95 (f_83 x0 s) (f_83 (ax_w32 (x0 + 1)) s) s))]) (st' := [.inl 1, .inl x0, .inl x0, .inl (f_83 x0 s), .inr (.inr (some 39))]) (h1 := hp L s c e) rfl ?_
      refine RuP.step (pc' := 55) (ls' := [some (.inr (.inr (some 39))), some (.inl x0), some (.inl (f_83 x0 s)), some (.inl (f_95 (f_83 x0 s) (f_83 (ax_w32 (x0 + 1)) s) s))]) (st' := [.inl (ax_w32 (x0 + 1)), .inl x0, .inl (f_83 x0 s), .inr (.inr (some 39))]) (h1 := hp L s c e) rfl ?_
      refine RuP.step (pc' := 56) (ls' := [some (.inr (.inr (some 39))), some (.inl x0), some (.inl (f_83 x0 s)), some (.inl (f_95 (f_83 x0 s) (f_83 (ax_w32 (x0 + 1)) s) s))]) (st' := [.inr (.inl 0), .inl (ax_w32 (x0 + 1)), .inl x0, .inl (f_83 x0 s), .inr (.inr (some 39))]) (h1 := hp L s c e) rfl ?_
      obtain ⟨b4, h⟩ := gd_some h
      obtain ⟨q2, h1, h⟩ := bd_some h
      refine RuP.cVe h1 rfl (EvP.v ((ev_78 (f_83 x0 s) x0 (ax_w32 (x0 + 1)) 0 b4).up (by decide))) ?_
      refine RuP.step (pc' := 60) (ls' := [some (.inr (.inr (some 39))), some (.inl x0), some (.inl (f_83 x0 s)), some (.inl (f_95 (f_83 x0 s) (f_83 (ax_w32 (x0 + 1)) s) s))]) (st' := [.inl x0]) (h1 := hp L q2 c e) rfl ?_
      refine RuP.step (pc' := 61) (ls' := [some (.inr (.inr (some 39))), some (.inl x0), some (.inl (f_83 x0 s)), some (.inl (f_95 (f_83 x0 s) (f_83 (ax_w32 (x0 + 1)) s) s))]) (st' := [.inl 1, .inl x0]) (h1 := hp L q2 c e) rfl ?_
      refine RuP.step (pc' := 62) (ls' := [some (.inr (.inr (some 39))), some (.inl x0), some (.inl (f_83 x0 s)), some (.inl (f_95 (f_83 x0 s) (f_83 (ax_w32 (x0 + 1)) s) s))]) (st' := [.inl (ax_w32 (x0 + 1))]) (h1 := hp L q2 c e) rfl ?_
      cases h
      exact RuP.dI rfl
    · rw [if_neg h3] at h
      refine RuP.jn rfl h3 ?_
      refine RuP.step (pc' := 48) (ls' := [some (.inr (.inr (some 39))), some (.inl x0), some (.inl (f_83 x0 s)), some (.inl (f_95 (f_83 x0 s) (f_83 (ax_w32 (x0 + 1)) s) s))]) (st' := [.inl (-1)]) (h1 := hp L s c e) rfl ?_
      cases h
      exact RuP.dI rfl
  · rw [if_neg h2] at h
    refine RuP.jn rfl h2 ?_
    refine RuP.step (pc' := 24) (ls' := [some (.inr (.inr (some 39))), some (.inl x0), some (.inl (f_83 x0 s)), some (.inl (f_95 (f_83 x0 s) (f_83 (ax_w32 (x0 + 1)) s) s))]) (st' := [.inr (.inr (some 39))]) (h1 := hp L s c e) rfl ?_
    refine RuP.step (pc' := 25) (ls' := [some (.inr (.inr (some 39))), some (.inl x0), some (.inl (f_83 x0 s)), some (.inl (f_95 (f_83 x0 s) (f_83 (ax_w32 (x0 + 1)) s) s))]) (st' := [.inl (f_95 (f_83 x0 s) (f_83 (ax_w32 (x0 + 1)) s) s), .inr (.inr (some 39))]) (h1 := hp L s c e) rfl ?_
    refine RuP.step (pc' := 26) (ls' := [some (.inr (.inr (some 39))), some (.inl x0), some (.inl (f_83 x0 s)), some (.inl (f_95 (f_83 x0 s) (f_83 (ax_w32 (x0 + 1)) s) s))]) (st' := [.inl x0, .inl (f_95 (f_83 x0 s) (f_83 (ax_w32 (x0 + 1)) s) s), .inr (.inr (some 39))]) (h1 := hp L s c e) rfl ?_
    refine RuP.step (pc' := 27) (ls' := [some (.inr (.inr (some 39))), some (.inl x0), some (.inl (f_83 x0 s)), some (.inl (f_95 (f_83 x0 s) (f_83 (ax_w32 (x0 + 1)) s) s))]) (st' := [.inl x0, .inl x0, .inl (f_95 (f_83 x0 s) (f_83 (ax_w32 (x0 + 1)) s) s), .inr (.inr (some 39))]) (h1 := hp L s c e) rfl ?_
    refine RuP.step (pc' := 28) (ls' := [some (.inr (.inr (some 39))), some (.inl x0), some (.inl (f_83 x0 s)), some (.inl (f_95 (f_83 x0 s) (f_83 (ax_w32 (x0 + 1)) s) s))]) (st' := [.inl 2, .inl x0, .inl x0, .inl (f_95 (f_83 x0 s) (f_83 (ax_w32 (x0 + 1)) s) s), .inr (.inr (some 39))]) (h1 := hp L s c e) rfl ?_
    refine RuP.step (pc' := 29) (ls' := [some (.inr (.inr (some 39))), some (.inl x0), some (.inl (f_83 x0 s)), some (.inl (f_95 (f_83 x0 s) (f_83 (ax_w32 (x0 + 1)) s) s))]) (st' := [.inl (ax_w32 (x0 + 2)), .inl x0, .inl (f_95 (f_83 x0 s) (f_83 (ax_w32 (x0 + 1)) s) s), .inr (.inr (some 39))]) (h1 := hp L s c e) rfl ?_
    refine RuP.step (pc' := 30) (ls' := [some (.inr (.inr (some 39))), some (.inl x0), some (.inl (f_83 x0 s)), some (.inl (f_95 (f_83 x0 s) (f_83 (ax_w32 (x0 + 1)) s) s))]) (st' := [.inr (.inl 0), .inl (ax_w32 (x0 + 2)), .inl x0, .inl (f_95 (f_83 x0 s) (f_83 (ax_w32 (x0 + 1)) s) s), .inr (.inr (some 39))]) (h1 := hp L s c e) rfl ?_
    obtain ⟨b5, h⟩ := gd_some h
    obtain ⟨q3, h1, h⟩ := bd_some h
    refine RuP.cVe h1 rfl (EvP.v ((ev_78 (f_95 (f_83 x0 s) (f_83 (ax_w32 (x0 + 1)) s) s) x0 (ax_w32 (x0 + 2)) 0 b5).up (by decide))) ?_
    refine RuP.step (pc' := 34) (ls' := [some (.inr (.inr (some 39))), some (.inl x0), some (.inl (f_83 x0 s)), some (.inl (f_95 (f_83 x0 s) (f_83 (ax_w32 (x0 + 1)) s) s))]) (st' := [.inl x0]) (h1 := hp L q3 c e) rfl ?_
    refine RuP.step (pc' := 35) (ls' := [some (.inr (.inr (some 39))), some (.inl x0), some (.inl (f_83 x0 s)), some (.inl (f_95 (f_83 x0 s) (f_83 (ax_w32 (x0 + 1)) s) s))]) (st' := [.inl 2, .inl x0]) (h1 := hp L q3 c e) rfl ?_
    refine RuP.step (pc' := 36) (ls' := [some (.inr (.inr (some 39))), some (.inl x0), some (.inl (f_83 x0 s)), some (.inl (f_95 (f_83 x0 s) (f_83 (ax_w32 (x0 + 1)) s) s))]) (st' := [.inl (ax_w32 (x0 + 2))]) (h1 := hp L q3 c e) rfl ?_
    cases h
    exact RuP.dI rfl
/-- MachineText$Lexemes.cutOne(I)I -/
noncomputable def j_77_69 (l1 t0 : Int) (s : Sg) : Option (Int × Sg) :=
  (if t0 = 0 then
    ((f_91 l1 s).bind fun q1 =>
    some (q1.1, q1.2))
  else
    ((f_90 l1 s).bind fun q2 =>
    some (q2.1, q2.2)))
theorem bl_77_69 {L c : Nat} {e : Nat → Nat} : ∀ (d3 : Option ax_V) (z2 : Int) (l1 t0 : Int) (s : Sg) (q : Int × Sg), j_77_69 l1 t0 s = some q → RuP 5 tb_m77 69 [some (.inr (.inr (some 39))), some (.inl l1), some (.inl z2), d3] [.inl t0] (hp L s c e) (oI L c e q) := by
  intro d3 z2 l1 t0 s q h
  unfold j_77_69 at h
  refine RuP.step (pc' := 70) (ls' := [some (.inr (.inr (some 39))), some (.inl l1), some (.inl z2), some (.inl t0)]) (st' := []) (h1 := hp L s c e) rfl ?_
  refine RuP.step (pc' := 71) (ls' := [some (.inr (.inr (some 39))), some (.inl l1), some (.inl z2), some (.inl t0)]) (st' := [.inl t0]) (h1 := hp L s c e) rfl ?_
  by_cases h0 : t0 = 0
  · rw [if_pos h0] at h
    refine RuP.jy rfl h0 ?_
    refine RuP.step (pc' := 83) (ls' := [some (.inr (.inr (some 39))), some (.inl l1), some (.inl z2), some (.inl t0)]) (st' := [.inr (.inr (some 39))]) (h1 := hp L s c e) rfl ?_
    refine RuP.step (pc' := 84) (ls' := [some (.inr (.inr (some 39))), some (.inl l1), some (.inl z2), some (.inl t0)]) (st' := [.inl l1, .inr (.inr (some 39))]) (h1 := hp L s c e) rfl ?_
    obtain ⟨q1, h1, h⟩ := bd_some h
    refine RuP.cI rfl ((ev_91 h1).up (by decide)) ?_
    cases h
    exact RuP.dI rfl
  · rw [if_neg h0] at h
    refine RuP.jn rfl h0 ?_
    refine RuP.step (pc' := 75) (ls' := [some (.inr (.inr (some 39))), some (.inl l1), some (.inl z2), some (.inl t0)]) (st' := [.inr (.inr (some 39))]) (h1 := hp L s c e) rfl ?_
    refine RuP.step (pc' := 76) (ls' := [some (.inr (.inr (some 39))), some (.inl l1), some (.inl z2), some (.inl t0)]) (st' := [.inl l1, .inr (.inr (some 39))]) (h1 := hp L s c e) rfl ?_
    obtain ⟨q2, h1, h⟩ := bd_some h
    refine RuP.cI rfl ((ev_90 h1).up (by decide)) ?_
    refine RuP.step (pc' := 87) (ls' := [some (.inr (.inr (some 39))), some (.inl l1), some (.inl z2), some (.inl t0)]) (st' := [.inl q2.1]) (h1 := hp L q2.2 c e) rfl ?_
    cases h
    exact RuP.dI rfl
noncomputable def j_77_68 (l1 : Int) (s : Sg) : Option (Int × Sg) :=
  j_77_69 l1 0 s
theorem bl_77_68 {L c : Nat} {e : Nat → Nat} : ∀ (d3 : Option ax_V) (z2 : Int) (l1 : Int) (s : Sg) (q : Int × Sg), j_77_68 l1 s = some q → RuP 5 tb_m77 68 [some (.inr (.inr (some 39))), some (.inl l1), some (.inl z2), d3] [] (hp L s c e) (oI L c e q) := by
  intro d3 z2 l1 s q h
  unfold j_77_68 at h
  refine RuP.step (pc' := 69) (ls' := [some (.inr (.inr (some 39))), some (.inl l1), some (.inl z2), d3]) (st' := [.inl 0]) (h1 := hp L s c e) rfl ?_
  exact bl_77_69 _ _ _ _ _ _ h
noncomputable def f_77 (x0 : Int) (s : Sg) : Option (Int × Sg) :=
  (gd (g_83 x0 s) (
  (if f_85 (f_83 x0 s) s = 0 then
    (if ¬ (f_87 (f_83 x0 s) s) = 0 then
      (if ¬ (f_83 x0 s) = 48 then
        j_77_68 x0 s
      else
        (gd (g_83 (ax_w32 (x0 + 1)) s) (
        (if ¬ (f_83 (ax_w32 (x0 + 1)) s) = 120 then
          j_77_68 x0 s
        else
          (gd (g_83 (ax_w32 (x0 + 2)) s) (
          j_77_69 x0 ((if f_89 (f_83 (ax_w32 (x0 + 2)) s) s = (-1) then 0 else 1) : Int) s))))))
    else
      ((f_88 x0 s).bind fun q3 =>
      some (q3.1, q3.2)))
  else
    ((f_86 x0 s).bind fun q4 =>
    some (q4.1, q4.2)))))
theorem ev_77 {L c : Nat} {e : Nat → Nat} {s : Sg} {x0 : Int} {q : Int × Sg} (h : f_77 x0 s = some q) : EvP 6 77 [.inr (.inr (some 39)), .inl x0] (hp L s c e) (oI L c e q) := by
  unfold f_77 at h
  refine EvP.of (μ := tb_m77) (ls := [some (.inr (.inr (some 39))), some (.inl x0), none, none]) rfl (Nat.le_of_ble_eq_true rfl) rfl ?_
  refine RuP.step (pc' := 1) (ls' := [some (.inr (.inr (some 39))), some (.inl x0), none, none]) (st' := [.inr (.inr (some 39))]) (h1 := hp L s c e) rfl ?_
  refine RuP.step (pc' := 2) (ls' := [some (.inr (.inr (some 39))), some (.inl x0), none, none]) (st' := [.inl x0, .inr (.inr (some 39))]) (h1 := hp L s c e) rfl ?_
  obtain ⟨b0, h⟩ := gd_some h
  refine RuP.cI rfl (EvP.i ((ev_83 x0 b0).up (by decide))) ?_
  refine RuP.step (pc' := 6) (ls' := [some (.inr (.inr (some 39))), some (.inl x0), some (.inl (f_83 x0 s)), none]) (st' := []) (h1 := hp L s c e) rfl ?_
  refine RuP.step (pc' := 7) (ls' := [some (.inr (.inr (some 39))), some (.inl x0), some (.inl (f_83 x0 s)), none]) (st' := [.inl (f_83 x0 s)]) (h1 := hp L s c e) rfl ?_
  refine RuP.cI rfl (EvP.i ((ev_85 (f_83 x0 s)).up (by decide))) ?_
  by_cases h1 : f_85 (f_83 x0 s) s = 0
  · rw [if_pos h1] at h
    refine RuP.jy rfl h1 ?_
    refine RuP.step (pc' := 20) (ls' := [some (.inr (.inr (some 39))), some (.inl x0), some (.inl (f_83 x0 s)), none]) (st' := [.inl (f_83 x0 s)]) (h1 := hp L s c e) rfl ?_
    refine RuP.cI rfl (EvP.i ((ev_87 (f_83 x0 s)).up (by decide))) ?_
    by_cases h2 : ¬ (f_87 (f_83 x0 s) s) = 0
    · rw [if_pos h2] at h
      refine RuP.jy rfl h2 ?_
      refine RuP.step (pc' := 33) (ls' := [some (.inr (.inr (some 39))), some (.inl x0), some (.inl (f_83 x0 s)), none]) (st' := [.inl (f_83 x0 s)]) (h1 := hp L s c e) rfl ?_
      refine RuP.step (pc' := 35) (ls' := [some (.inr (.inr (some 39))), some (.inl x0), some (.inl (f_83 x0 s)), none]) (st' := [.inl 48, .inl (f_83 x0 s)]) (h1 := hp L s c e) rfl ?_
      by_cases h3 : ¬ (f_83 x0 s) = 48
      · rw [if_pos h3] at h
        refine RuP.jy rfl h3 ?_
        exact bl_77_68 _ _ _ _ _ h
      · rw [if_neg h3] at h
        refine RuP.jn rfl h3 ?_
        refine RuP.step (pc' := 39) (ls' := [some (.inr (.inr (some 39))), some (.inl x0), some (.inl (f_83 x0 s)), none]) (st' := [.inr (.inr (some 39))]) (h1 := hp L s c e) rfl ?_
        refine RuP.step (pc' := 40) (ls' := [some (.inr (.inr (some 39))), some (.inl x0), some (.inl (f_83 x0 s)), none]) (st' := [.inl x0, .inr (.inr (some 39))]) (h1 := hp L s c e) rfl ?_
        refine RuP.step (pc' := 41) (ls' := [some (.inr (.inr (some 39))), some (.inl x0), some (.inl (f_83 x0 s)), none]) (st' := [.inl 1, .inl x0, .inr (.inr (some 39))]) (h1 := hp L s c e) rfl ?_
        refine RuP.step (pc' := 42) (ls' := [some (.inr (.inr (some 39))), some (.inl x0), some (.inl (f_83 x0 s)), none]) (st' := [.inl (ax_w32 (x0 + 1)), .inr (.inr (some 39))]) (h1 := hp L s c e) rfl ?_
        obtain ⟨b4, h⟩ := gd_some h
        refine RuP.cI rfl (EvP.i ((ev_83 (ax_w32 (x0 + 1)) b4).up (by decide))) ?_
        refine RuP.step (pc' := 47) (ls' := [some (.inr (.inr (some 39))), some (.inl x0), some (.inl (f_83 x0 s)), none]) (st' := [.inl 120, .inl (f_83 (ax_w32 (x0 + 1)) s)]) (h1 := hp L s c e) rfl ?_
        by_cases h5 : ¬ (f_83 (ax_w32 (x0 + 1)) s) = 120
        · rw [if_pos h5] at h
          refine RuP.jy rfl h5 ?_
          exact bl_77_68 _ _ _ _ _ h
        · rw [if_neg h5] at h
          refine RuP.jn rfl h5 ?_
          refine RuP.step (pc' := 51) (ls' := [some (.inr (.inr (some 39))), some (.inl x0), some (.inl (f_83 x0 s)), none]) (st' := [.inr (.inr (some 39))]) (h1 := hp L s c e) rfl ?_
          refine RuP.step (pc' := 52) (ls' := [some (.inr (.inr (some 39))), some (.inl x0), some (.inl (f_83 x0 s)), none]) (st' := [.inl x0, .inr (.inr (some 39))]) (h1 := hp L s c e) rfl ?_
          refine RuP.step (pc' := 53) (ls' := [some (.inr (.inr (some 39))), some (.inl x0), some (.inl (f_83 x0 s)), none]) (st' := [.inl 2, .inl x0, .inr (.inr (some 39))]) (h1 := hp L s c e) rfl ?_
          refine RuP.step (pc' := 54) (ls' := [some (.inr (.inr (some 39))), some (.inl x0), some (.inl (f_83 x0 s)), none]) (st' := [.inl (ax_w32 (x0 + 2)), .inr (.inr (some 39))]) (h1 := hp L s c e) rfl ?_
          obtain ⟨b6, h⟩ := gd_some h
          refine RuP.cI rfl (EvP.i ((ev_83 (ax_w32 (x0 + 2)) b6).up (by decide))) ?_
          refine RuP.cI rfl (EvP.i ((ev_89 (f_83 (ax_w32 (x0 + 2)) s)).up (by decide))) ?_
          refine RuP.step (pc' := 61) (ls' := [some (.inr (.inr (some 39))), some (.inl x0), some (.inl (f_83 x0 s)), none]) (st' := [.inl (-1), .inl (f_89 (f_83 (ax_w32 (x0 + 2)) s) s)]) (h1 := hp L s c e) rfl ?_
          have J8 : ∀ v7_0 : Int, v7_0 = ((if f_89 (f_83 (ax_w32 (x0 + 2)) s) s = (-1) then 0 else 1) : Int) → RuP 5 tb_m77 69 [some (.inr (.inr (some 39))), some (.inl x0), some (.inl (f_83 x0 s)), none] [.inl v7_0] (hp L s c e) (oI L c e q) := by
            intro v7_0 ev7_0
            subst ev7_0
            exact bl_77_69 _ _ _ _ _ _ h
          by_cases h8 : f_89 (f_83 (ax_w32 (x0 + 2)) s) s = (-1)
          · refine RuP.jy rfl h8 ?_
            refine RuP.step (pc' := 69) (ls' := [some (.inr (.inr (some 39))), some (.inl x0), some (.inl (f_83 x0 s)), none]) (st' := [.inl 0]) (h1 := hp L s c e) rfl ?_
            exact J8 _ (by simp only [if_pos h8])
          · refine RuP.jn rfl h8 ?_
            refine RuP.step (pc' := 65) (ls' := [some (.inr (.inr (some 39))), some (.inl x0), some (.inl (f_83 x0 s)), none]) (st' := [.inl 1]) (h1 := hp L s c e) rfl ?_
            refine RuP.step (pc' := 69) (ls' := [some (.inr (.inr (some 39))), some (.inl x0), some (.inl (f_83 x0 s)), none]) (st' := [.inl 1]) (h1 := hp L s c e) rfl ?_
            exact J8 _ (by simp only [if_neg h8])
    · rw [if_neg h2] at h
      refine RuP.jn rfl h2 ?_
      refine RuP.step (pc' := 27) (ls' := [some (.inr (.inr (some 39))), some (.inl x0), some (.inl (f_83 x0 s)), none]) (st' := [.inr (.inr (some 39))]) (h1 := hp L s c e) rfl ?_
      refine RuP.step (pc' := 28) (ls' := [some (.inr (.inr (some 39))), some (.inl x0), some (.inl (f_83 x0 s)), none]) (st' := [.inl x0, .inr (.inr (some 39))]) (h1 := hp L s c e) rfl ?_
      obtain ⟨q3, h1, h⟩ := bd_some h
      refine RuP.cI rfl ((ev_88 h1).up (by decide)) ?_
      cases h
      exact RuP.dI rfl
  · rw [if_neg h1] at h
    refine RuP.jn rfl h1 ?_
    refine RuP.step (pc' := 14) (ls' := [some (.inr (.inr (some 39))), some (.inl x0), some (.inl (f_83 x0 s)), none]) (st' := [.inr (.inr (some 39))]) (h1 := hp L s c e) rfl ?_
    refine RuP.step (pc' := 15) (ls' := [some (.inr (.inr (some 39))), some (.inl x0), some (.inl (f_83 x0 s)), none]) (st' := [.inl x0, .inr (.inr (some 39))]) (h1 := hp L s c e) rfl ?_
    obtain ⟨q4, h1, h⟩ := bd_some h
    refine RuP.cI rfl ((ev_86 h1).up (by decide)) ?_
    cases h
    exact RuP.dI rfl
/-- MachineText$Lexemes.cut([BI)Z -/
noncomputable def j_73_28_101 (s : Sg) : Option (Int × Sg) :=
  (gd (g_78 0 (s 39 8) (s 39 8) 0 s) (
  ((some (f_78 0 (s 39 8) (s 39 8) 0 s)).bind fun q2 =>
  (gd (g_79 0 (ax_u2 (ax_u2 q2 39 9 (ax_w32 ((q2 39 9) - 1))) 39 10 0)) (
  some (1, (ax_u2 (ax_u2 (ax_u2 q2 39 9 (ax_w32 ((q2 39 9) - 1))) 39 10 0) 39 11 (f_79 0 (ax_u2 (ax_u2 q2 39 9 (ax_w32 ((q2 39 9) - 1))) 39 10 0)))))))))
theorem bl_73_28_101 {L c : Nat} {e : Nat → Nat} : ∀ (d1 d5 : Option ax_V) (z2 z3 z4 : Int) (s : Sg) (q : Int × Sg), j_73_28_101 s = some q → RuP 6 tb_m73 101 [some (.inr (.inr (some 39))), d1, some (.inl z2), some (.inl z3), some (.inl z4), d5] [] (hp L s c e) (oI L c e q) := by
  intro d1 d5 z2 z3 z4 s q h
  unfold j_73_28_101 at h
  refine RuP.step (pc' := 102) (ls' := [some (.inr (.inr (some 39))), d1, some (.inl z2), some (.inl z3), some (.inl z4), d5]) (st' := [.inr (.inr (some 39))]) (h1 := hp L s c e) rfl ?_
  refine RuP.step (pc' := 103) (ls' := [some (.inr (.inr (some 39))), d1, some (.inl z2), some (.inl z3), some (.inl z4), d5]) (st' := [.inl 0, .inr (.inr (some 39))]) (h1 := hp L s c e) rfl ?_
  refine RuP.step (pc' := 104) (ls' := [some (.inr (.inr (some 39))), d1, some (.inl z2), some (.inl z3), some (.inl z4), d5]) (st' := [.inr (.inr (some 39)), .inl 0, .inr (.inr (some 39))]) (h1 := hp L s c e) rfl ?_
  refine RuP.step (pc' := 107) (ls' := [some (.inr (.inr (some 39))), d1, some (.inl z2), some (.inl z3), some (.inl z4), d5]) (st' := [.inl (s 39 8), .inl 0, .inr (.inr (some 39))]) (h1 := hp L s c e) rfl ?_
  refine RuP.step (pc' := 108) (ls' := [some (.inr (.inr (some 39))), d1, some (.inl z2), some (.inl z3), some (.inl z4), d5]) (st' := [.inr (.inr (some 39)), .inl (s 39 8), .inl 0, .inr (.inr (some 39))]) (h1 := hp L s c e) rfl ?_
  refine RuP.step (pc' := 111) (ls' := [some (.inr (.inr (some 39))), d1, some (.inl z2), some (.inl z3), some (.inl z4), d5]) (st' := [.inl (s 39 8), .inl (s 39 8), .inl 0, .inr (.inr (some 39))]) (h1 := hp L s c e) rfl ?_
  refine RuP.step (pc' := 112) (ls' := [some (.inr (.inr (some 39))), d1, some (.inl z2), some (.inl z3), some (.inl z4), d5]) (st' := [.inr (.inl 0), .inl (s 39 8), .inl (s 39 8), .inl 0, .inr (.inr (some 39))]) (h1 := hp L s c e) rfl ?_
  obtain ⟨b0, h⟩ := gd_some h
  obtain ⟨q2, h1, h⟩ := bd_some h
  refine RuP.cVe h1 rfl (EvP.v ((ev_78 0 (s 39 8) (s 39 8) 0 b0).up (by decide))) ?_
  refine RuP.step (pc' := 116) (ls' := [some (.inr (.inr (some 39))), d1, some (.inl z2), some (.inl z3), some (.inl z4), d5]) (st' := [.inr (.inr (some 39))]) (h1 := hp L q2 c e) rfl ?_
  refine RuP.step (pc' := 117) (ls' := [some (.inr (.inr (some 39))), d1, some (.inl z2), some (.inl z3), some (.inl z4), d5]) (st' := [.inr (.inr (some 39)), .inr (.inr (some 39))]) (h1 := hp L q2 c e) rfl ?_
  refine RuP.step (pc' := 120) (ls' := [some (.inr (.inr (some 39))), d1, some (.inl z2), some (.inl z3), some (.inl z4), d5]) (st' := [.inl (q2 39 9), .inr (.inr (some 39))]) (h1 := hp L q2 c e) rfl ?_
  refine RuP.step (pc' := 121) (ls' := [some (.inr (.inr (some 39))), d1, some (.inl z2), some (.inl z3), some (.inl z4), d5]) (st' := [.inl 1, .inl (q2 39 9), .inr (.inr (some 39))]) (h1 := hp L q2 c e) rfl ?_
  refine RuP.step (pc' := 122) (ls' := [some (.inr (.inr (some 39))), d1, some (.inl z2), some (.inl z3), some (.inl z4), d5]) (st' := [.inl (ax_w32 ((q2 39 9) - 1)), .inr (.inr (some 39))]) (h1 := hp L q2 c e) rfl ?_
  refine RuP.step (pc' := 125) (ls' := [some (.inr (.inr (some 39))), d1, some (.inl z2), some (.inl z3), some (.inl z4), d5]) (st' := []) (h1 := hp L (ax_u2 q2 39 9 (ax_w32 ((q2 39 9) - 1))) c e) rfl ?_
  refine RuP.step (pc' := 126) (ls' := [some (.inr (.inr (some 39))), d1, some (.inl z2), some (.inl z3), some (.inl z4), d5]) (st' := [.inr (.inr (some 39))]) (h1 := hp L (ax_u2 q2 39 9 (ax_w32 ((q2 39 9) - 1))) c e) rfl ?_
  refine RuP.step (pc' := 127) (ls' := [some (.inr (.inr (some 39))), d1, some (.inl z2), some (.inl z3), some (.inl z4), d5]) (st' := [.inl 0, .inr (.inr (some 39))]) (h1 := hp L (ax_u2 q2 39 9 (ax_w32 ((q2 39 9) - 1))) c e) rfl ?_
  refine RuP.step (pc' := 130) (ls' := [some (.inr (.inr (some 39))), d1, some (.inl z2), some (.inl z3), some (.inl z4), d5]) (st' := []) (h1 := hp L (ax_u2 (ax_u2 q2 39 9 (ax_w32 ((q2 39 9) - 1))) 39 10 0) c e) rfl ?_
  refine RuP.step (pc' := 131) (ls' := [some (.inr (.inr (some 39))), d1, some (.inl z2), some (.inl z3), some (.inl z4), d5]) (st' := [.inr (.inr (some 39))]) (h1 := hp L (ax_u2 (ax_u2 q2 39 9 (ax_w32 ((q2 39 9) - 1))) 39 10 0) c e) rfl ?_
  refine RuP.step (pc' := 132) (ls' := [some (.inr (.inr (some 39))), d1, some (.inl z2), some (.inl z3), some (.inl z4), d5]) (st' := [.inr (.inr (some 39)), .inr (.inr (some 39))]) (h1 := hp L (ax_u2 (ax_u2 q2 39 9 (ax_w32 ((q2 39 9) - 1))) 39 10 0) c e) rfl ?_
  refine RuP.step (pc' := 133) (ls' := [some (.inr (.inr (some 39))), d1, some (.inl z2), some (.inl z3), some (.inl z4), d5]) (st' := [.inl 0, .inr (.inr (some 39)), .inr (.inr (some 39))]) (h1 := hp L (ax_u2 (ax_u2 q2 39 9 (ax_w32 ((q2 39 9) - 1))) 39 10 0) c e) rfl ?_
  obtain ⟨b1, h⟩ := gd_some h
  refine RuP.cI rfl (EvP.i ((ev_79 0 b1).up (by decide))) ?_
  refine RuP.step (pc' := 139) (ls' := [some (.inr (.inr (some 39))), d1, some (.inl z2), some (.inl z3), some (.inl z4), d5]) (st' := []) (h1 := hp L (ax_u2 (ax_u2 (ax_u2 q2 39 9 (ax_w32 ((q2 39 9) - 1))) 39 10 0) 39 11 (f_79 0 (ax_u2 (ax_u2 q2 39 9 (ax_w32 ((q2 39 9) - 1))) 39 10 0))) c e) rfl ?_
  refine RuP.step (pc' := 140) (ls' := [some (.inr (.inr (some 39))), d1, some (.inl z2), some (.inl z3), some (.inl z4), d5]) (st' := [.inl 1]) (h1 := hp L (ax_u2 (ax_u2 (ax_u2 q2 39 9 (ax_w32 ((q2 39 9) - 1))) 39 10 0) 39 11 (f_79 0 (ax_u2 (ax_u2 q2 39 9 (ax_w32 ((q2 39 9) - 1))) 39 10 0))) c e) rfl ?_
  cases h
  exact RuP.dI rfl
noncomputable def j_73_28_77 (l3 : Int) (s : Sg) : Option (Int × Sg) :=
  (gd (g_71 1 l3 s) (
  ((some (f_71 1 l3 s)).bind fun q5 =>
  some (0, q5))))
theorem bl_73_28_77 {L c : Nat} {e : Nat → Nat} : ∀ (d1 : Option ax_V) (z2 z4 z5 : Int) (l3 : Int) (s : Sg) (q : Int × Sg), j_73_28_77 l3 s = some q → RuP 6 tb_m73 77 [some (.inr (.inr (some 39))), d1, some (.inl z2), some (.inl l3), some (.inl z4), some (.inl z5)] [] (hp L s c e) (oI L c e q) := by
  intro d1 z2 z4 z5 l3 s q h
  unfold j_73_28_77 at h
  refine RuP.step (pc' := 78) (ls' := [some (.inr (.inr (some 39))), d1, some (.inl z2), some (.inl l3), some (.inl z4), some (.inl z5)]) (st' := [.inr (.inr (some 39))]) (h1 := hp L s c e) rfl ?_
  refine RuP.step (pc' := 81) (ls' := [some (.inr (.inr (some 39))), d1, some (.inl z2), some (.inl l3), some (.inl z4), some (.inl z5)]) (st' := [.inr (.inr (some 29))]) (h1 := hp L s c e) rfl ?_
  refine RuP.step (pc' := 82) (ls' := [some (.inr (.inr (some 39))), d1, some (.inl z2), some (.inl l3), some (.inl z4), some (.inl z5)]) (st' := [.inl 1, .inr (.inr (some 29))]) (h1 := hp L s c e) rfl ?_
  refine RuP.step (pc' := 83) (ls' := [some (.inr (.inr (some 39))), d1, some (.inl z2), some (.inl l3), some (.inl z4), some (.inl z5)]) (st' := [.inl l3, .inl 1, .inr (.inr (some 29))]) (h1 := hp L s c e) rfl ?_
  obtain ⟨b0, h⟩ := gd_some h
  obtain ⟨q5, h1, h⟩ := bd_some h
  refine RuP.cVe h1 rfl (EvP.v ((ev_71 1 l3 b0).up (by decide))) ?_
  refine RuP.step (pc' := 87) (ls' := [some (.inr (.inr (some 39))), d1, some (.inl z2), some (.inl l3), some (.inl z4), some (.inl z5)]) (st' := [.inl 0]) (h1 := hp L q5 c e) rfl ?_
  cases h
  exact RuP.dI rfl
noncomputable def j_73_28_48 : Nat → Int → Int → Sg → Option (Int × Sg)
  | 0, _, _, _ => none
  | F + 1, l3, l4, s =>
    (if s 39 8 ≤ l3 then
      j_73_28_101 s
    else
      (if 8192 ≤ l4 then
        j_73_28_101 s
      else
        ((f_77 l3 s).bind fun q3 =>
        (if l3 < q3.1 then
          ((f_76 q3.1 q3.2).bind fun q4 =>
          (j_73_28_48 F) q4 (ax_w32 (l4 + 1)) q3.2)
        else
          j_73_28_77 l3 q3.2))))
theorem bl_73_28_48 {L c : Nat} {e : Nat → Nat} : ∀ (F : Nat) (d1 d5 : Option ax_V) (z2 : Int) (l3 l4 : Int) (s : Sg) (q : Int × Sg), j_73_28_48 F l3 l4 s = some q → RuP 6 tb_m73 48 [some (.inr (.inr (some 39))), d1, some (.inl z2), some (.inl l3), some (.inl l4), d5] [] (hp L s c e) (oI L c e q) := by
  intro F
  induction F with
  | zero =>
    intro d1 d5 z2 l3 l4 s q h
    rw [j_73_28_48] at h
    cases h
  | succ F ih =>
    intro d1 d5 z2 l3 l4 s q h
    rw [j_73_28_48] at h
    refine RuP.step (pc' := 49) (ls' := [some (.inr (.inr (some 39))), d1, some (.inl z2), some (.inl l3), some (.inl l4), d5]) (st' := [.inl l3]) (h1 := hp L s c e) rfl ?_
    refine RuP.step (pc' := 50) (ls' := [some (.inr (.inr (some 39))), d1, some (.inl z2), some (.inl l3), some (.inl l4), d5]) (st' := [.inr (.inr (some 39)), .inl l3]) (h1 := hp L s c e) rfl ?_
    refine RuP.step (pc' := 53) (ls' := [some (.inr (.inr (some 39))), d1, some (.inl z2), some (.inl l3), some (.inl l4), d5]) (st' := [.inl (s 39 8), .inl l3]) (h1 := hp L s c e) rfl ?_
    by_cases h0 : s 39 8 ≤ l3
    · rw [if_pos h0] at h
      refine RuP.jy rfl h0 ?_
      exact bl_73_28_101 _ _ _ _ _ _ _ h
    · rw [if_neg h0] at h
      refine RuP.jn rfl h0 ?_
      refine RuP.step (pc' := 58) (ls' := [some (.inr (.inr (some 39))), d1, some (.inl z2), some (.inl l3), some (.inl l4), d5]) (st' := [.inl l4]) (h1 := hp L s c e) rfl ?_
      refine RuP.step (pc' := 61) (ls' := [some (.inr (.inr (some 39))), d1, some (.inl z2), some (.inl l3), some (.inl l4), d5]) (st' := [.inl 8192, .inl l4]) (h1 := hp L s c e) rfl ?_
      by_cases h1 : 8192 ≤ l4
      · rw [if_pos h1] at h
        refine RuP.jy rfl h1 ?_
        exact bl_73_28_101 _ _ _ _ _ _ _ h
      · rw [if_neg h1] at h
        refine RuP.jn rfl h1 ?_
        refine RuP.step (pc' := 65) (ls' := [some (.inr (.inr (some 39))), d1, some (.inl z2), some (.inl l3), some (.inl l4), d5]) (st' := [.inr (.inr (some 39))]) (h1 := hp L s c e) rfl ?_
        refine RuP.step (pc' := 66) (ls' := [some (.inr (.inr (some 39))), d1, some (.inl z2), some (.inl l3), some (.inl l4), d5]) (st' := [.inl l3, .inr (.inr (some 39))]) (h1 := hp L s c e) rfl ?_
        obtain ⟨q3, h1, h⟩ := bd_some h
        refine RuP.cI rfl ((ev_77 h1).up (by decide)) ?_
        refine RuP.step (pc' := 71) (ls' := [some (.inr (.inr (some 39))), d1, some (.inl z2), some (.inl l3), some (.inl l4), some (.inl q3.1)]) (st' := []) (h1 := hp L q3.2 c e) rfl ?_
        refine RuP.step (pc' := 73) (ls' := [some (.inr (.inr (some 39))), d1, some (.inl z2), some (.inl l3), some (.inl l4), some (.inl q3.1)]) (st' := [.inl q3.1]) (h1 := hp L q3.2 c e) rfl ?_
        refine RuP.step (pc' := 74) (ls' := [some (.inr (.inr (some 39))), d1, some (.inl z2), some (.inl l3), some (.inl l4), some (.inl q3.1)]) (st' := [.inl l3, .inl q3.1]) (h1 := hp L q3.2 c e) rfl ?_
        by_cases h2 : l3 < q3.1
        · rw [if_pos h2] at h
          refine RuP.jy rfl h2 ?_
          refine RuP.step (pc' := 89) (ls' := [some (.inr (.inr (some 39))), d1, some (.inl z2), some (.inl l3), some (.inl l4), some (.inl q3.1)]) (st' := [.inr (.inr (some 39))]) (h1 := hp L q3.2 c e) rfl ?_
          refine RuP.step (pc' := 91) (ls' := [some (.inr (.inr (some 39))), d1, some (.inl z2), some (.inl l3), some (.inl l4), some (.inl q3.1)]) (st' := [.inl q3.1, .inr (.inr (some 39))]) (h1 := hp L q3.2 c e) rfl ?_
          obtain ⟨q4, h1, h⟩ := bd_some h
          refine RuP.cI rfl ((ev_76 h1).up (by decide)) ?_
          refine RuP.step (pc' := 95) (ls' := [some (.inr (.inr (some 39))), d1, some (.inl z2), some (.inl q4), some (.inl l4), some (.inl q3.1)]) (st' := []) (h1 := hp L q3.2 c e) rfl ?_
          refine RuP.step (pc' := 98) (ls' := [some (.inr (.inr (some 39))), d1, some (.inl z2), some (.inl q4), some (.inl (ax_w32 (l4 + 1))), some (.inl q3.1)]) (st' := []) (h1 := hp L q3.2 c e) rfl ?_
          refine RuP.step (pc' := 48) (ls' := [some (.inr (.inr (some 39))), d1, some (.inl z2), some (.inl q4), some (.inl (ax_w32 (l4 + 1))), some (.inl q3.1)]) (st' := []) (h1 := hp L q3.2 c e) rfl ?_
          exact ih _ _ _ _ _ _ _ h
        · rw [if_neg h2] at h
          refine RuP.jn rfl h2 ?_
          exact bl_73_28_77 _ _ _ _ _ _ _ h
noncomputable def f_73_28 (x1 : Int) (s : Sg) : Option (Int × Sg) :=
  (gd (0 ≤ f_292 0 (f_291 x1 (f_291 8192 8192 s) s) s ∧ 0 ≤ (0 : Int) ∧ 0 ≤ (0 : Int) ∧ 0 + f_292 0 (f_291 x1 (f_291 8192 8192 s) s) s ≤ 8192 ∧ 0 + f_292 0 (f_291 x1 (f_291 8192 8192 s) s) s ≤ 8192) (
  ((f_76 0 (ax_u2 (cpy (ax_u2 s 39 8 (f_292 0 (f_291 x1 (f_291 8192 8192 s) s) s)) 28 40 (0 : Int).toNat (0 : Int).toNat (f_292 0 (f_291 x1 (f_291 8192 8192 s) s) s : Int).toNat) 39 9 0)).bind fun q1 =>
  j_73_28_48 FU q1 0 (ax_u2 (cpy (ax_u2 s 39 8 (f_292 0 (f_291 x1 (f_291 8192 8192 s) s) s)) 28 40 (0 : Int).toNat (0 : Int).toNat (f_292 0 (f_291 x1 (f_291 8192 8192 s) s) s : Int).toNat) 39 9 0))))
theorem ev_73_28 {L c : Nat} {e : Nat → Nat} {s : Sg} {x1 : Int} {q : Int × Sg} (h : f_73_28 x1 s = some q) : EvP 7 73 [.inr (.inr (some 39)), .inr (.inr (some 28)), .inl x1] (hp L s c e) (oI L c e q) := by
  unfold f_73_28 at h
  refine EvP.of (μ := tb_m73) (ls := [some (.inr (.inr (some 39))), some (.inr (.inr (some 28))), some (.inl x1), none, none, none]) rfl (Nat.le_of_ble_eq_true rfl) rfl ?_
  refine RuP.step (pc' := 1) (ls' := [some (.inr (.inr (some 39))), some (.inr (.inr (some 28))), some (.inl x1), none, none, none]) (st' := [.inr (.inr (some 39))]) (h1 := hp L s c e) rfl ?_
  refine RuP.step (pc' := 2) (ls' := [some (.inr (.inr (some 39))), some (.inr (.inr (some 28))), some (.inl x1), none, none, none]) (st' := [.inl 0, .inr (.inr (some 39))]) (h1 := hp L s c e) rfl ?_
  refine RuP.step (pc' := 3) (ls' := [some (.inr (.inr (some 39))), some (.inr (.inr (some 28))), some (.inl x1), none, none, none]) (st' := [.inl x1, .inl 0, .inr (.inr (some 39))]) (h1 := hp L s c e) rfl ?_
  refine RuP.step (pc' := 4) (ls' := [some (.inr (.inr (some 39))), some (.inr (.inr (some 28))), some (.inl x1), none, none, none]) (st' := [.inr (.inr (some 28)), .inl x1, .inl 0, .inr (.inr (some 39))]) (h1 := hp L s c e) rfl ?_
  refine RuP.step (pc' := 5) (ls' := [some (.inr (.inr (some 39))), some (.inr (.inr (some 28))), some (.inl x1), none, none, none]) (st' := [.inl 8192, .inl x1, .inl 0, .inr (.inr (some 39))]) (h1 := hp L s c e) rfl ?_
  refine RuP.step (pc' := 8) (ls' := [some (.inr (.inr (some 39))), some (.inr (.inr (some 28))), some (.inl x1), none, none, none]) (st' := [.inl 8192, .inl 8192, .inl x1, .inl 0, .inr (.inr (some 39))]) (h1 := hp L s c e) rfl ?_
  refine RuP.cI rfl (EvP.i ((ev_291 8192 8192).up (by decide))) ?_
  refine RuP.cI rfl (EvP.i ((ev_291 x1 (f_291 8192 8192 s)).up (by decide))) ?_
  refine RuP.cI rfl (EvP.i ((ev_292 0 (f_291 x1 (f_291 8192 8192 s) s)).up (by decide))) ?_
  refine RuP.step (pc' := 20) (ls' := [some (.inr (.inr (some 39))), some (.inr (.inr (some 28))), some (.inl x1), none, none, none]) (st' := []) (h1 := hp L (ax_u2 s 39 8 (f_292 0 (f_291 x1 (f_291 8192 8192 s) s) s)) c e) rfl ?_
  refine RuP.step (pc' := 21) (ls' := [some (.inr (.inr (some 39))), some (.inr (.inr (some 28))), some (.inl x1), none, none, none]) (st' := [.inr (.inr (some 28))]) (h1 := hp L (ax_u2 s 39 8 (f_292 0 (f_291 x1 (f_291 8192 8192 s) s) s)) c e) rfl ?_
  refine RuP.step (pc' := 22) (ls' := [some (.inr (.inr (some 39))), some (.inr (.inr (some 28))), some (.inl x1), none, none, none]) (st' := [.inl 0, .inr (.inr (some 28))]) (h1 := hp L (ax_u2 s 39 8 (f_292 0 (f_291 x1 (f_291 8192 8192 s) s) s)) c e) rfl ?_
  refine RuP.step (pc' := 23) (ls' := [some (.inr (.inr (some 39))), some (.inr (.inr (some 28))), some (.inl x1), none, none, none]) (st' := [.inr (.inr (some 39)), .inl 0, .inr (.inr (some 28))]) (h1 := hp L (ax_u2 s 39 8 (f_292 0 (f_291 x1 (f_291 8192 8192 s) s) s)) c e) rfl ?_
  refine RuP.step (pc' := 26) (ls' := [some (.inr (.inr (some 39))), some (.inr (.inr (some 28))), some (.inl x1), none, none, none]) (st' := [.inr (.inr (some 40)), .inl 0, .inr (.inr (some 28))]) (h1 := hp L (ax_u2 s 39 8 (f_292 0 (f_291 x1 (f_291 8192 8192 s) s) s)) c e) rfl ?_
  refine RuP.step (pc' := 27) (ls' := [some (.inr (.inr (some 39))), some (.inr (.inr (some 28))), some (.inl x1), none, none, none]) (st' := [.inl 0, .inr (.inr (some 40)), .inl 0, .inr (.inr (some 28))]) (h1 := hp L (ax_u2 s 39 8 (f_292 0 (f_291 x1 (f_291 8192 8192 s) s) s)) c e) rfl ?_
  refine RuP.step (pc' := 28) (ls' := [some (.inr (.inr (some 39))), some (.inr (.inr (some 28))), some (.inl x1), none, none, none]) (st' := [.inr (.inr (some 39)), .inl 0, .inr (.inr (some 40)), .inl 0, .inr (.inr (some 28))]) (h1 := hp L (ax_u2 s 39 8 (f_292 0 (f_291 x1 (f_291 8192 8192 s) s) s)) c e) rfl ?_
  refine RuP.step (pc' := 31) (ls' := [some (.inr (.inr (some 39))), some (.inr (.inr (some 28))), some (.inl x1), none, none, none]) (st' := [.inl (f_292 0 (f_291 x1 (f_291 8192 8192 s) s) s), .inl 0, .inr (.inr (some 40)), .inl 0, .inr (.inr (some 28))]) (h1 := hp L (ax_u2 s 39 8 (f_292 0 (f_291 x1 (f_291 8192 8192 s) s) s)) c e) rfl ?_
  obtain ⟨b0, h⟩ := gd_some h
  refine RuP.cp rfl rfl rfl (by decide) (Nat.le_of_ble_eq_true rfl) b0 ?_
  refine RuP.step (pc' := 35) (ls' := [some (.inr (.inr (some 39))), some (.inr (.inr (some 28))), some (.inl x1), none, none, none]) (st' := [.inr (.inr (some 39))]) (h1 := hp L (cpy (ax_u2 s 39 8 (f_292 0 (f_291 x1 (f_291 8192 8192 s) s) s)) 28 40 (0 : Int).toNat (0 : Int).toNat (f_292 0 (f_291 x1 (f_291 8192 8192 s) s) s : Int).toNat) c e) rfl ?_
  refine RuP.step (pc' := 36) (ls' := [some (.inr (.inr (some 39))), some (.inr (.inr (some 28))), some (.inl x1), none, none, none]) (st' := [.inl 0, .inr (.inr (some 39))]) (h1 := hp L (cpy (ax_u2 s 39 8 (f_292 0 (f_291 x1 (f_291 8192 8192 s) s) s)) 28 40 (0 : Int).toNat (0 : Int).toNat (f_292 0 (f_291 x1 (f_291 8192 8192 s) s) s : Int).toNat) c e) rfl ?_
  refine RuP.step (pc' := 39) (ls' := [some (.inr (.inr (some 39))), some (.inr (.inr (some 28))), some (.inl x1), none, none, none]) (st' := []) (h1 := hp L (ax_u2 (cpy (ax_u2 s 39 8 (f_292 0 (f_291 x1 (f_291 8192 8192 s) s) s)) 28 40 (0 : Int).toNat (0 : Int).toNat (f_292 0 (f_291 x1 (f_291 8192 8192 s) s) s : Int).toNat) 39 9 0) c e) rfl ?_
  refine RuP.step (pc' := 40) (ls' := [some (.inr (.inr (some 39))), some (.inr (.inr (some 28))), some (.inl x1), none, none, none]) (st' := [.inr (.inr (some 39))]) (h1 := hp L (ax_u2 (cpy (ax_u2 s 39 8 (f_292 0 (f_291 x1 (f_291 8192 8192 s) s) s)) 28 40 (0 : Int).toNat (0 : Int).toNat (f_292 0 (f_291 x1 (f_291 8192 8192 s) s) s : Int).toNat) 39 9 0) c e) rfl ?_
  refine RuP.step (pc' := 41) (ls' := [some (.inr (.inr (some 39))), some (.inr (.inr (some 28))), some (.inl x1), none, none, none]) (st' := [.inl 0, .inr (.inr (some 39))]) (h1 := hp L (ax_u2 (cpy (ax_u2 s 39 8 (f_292 0 (f_291 x1 (f_291 8192 8192 s) s) s)) 28 40 (0 : Int).toNat (0 : Int).toNat (f_292 0 (f_291 x1 (f_291 8192 8192 s) s) s : Int).toNat) 39 9 0) c e) rfl ?_
  obtain ⟨q1, h1, h⟩ := bd_some h
  refine RuP.cI rfl ((ev_76 h1).up (by decide)) ?_
  refine RuP.step (pc' := 45) (ls' := [some (.inr (.inr (some 39))), some (.inr (.inr (some 28))), some (.inl x1), some (.inl q1), none, none]) (st' := []) (h1 := hp L (ax_u2 (cpy (ax_u2 s 39 8 (f_292 0 (f_291 x1 (f_291 8192 8192 s) s) s)) 28 40 (0 : Int).toNat (0 : Int).toNat (f_292 0 (f_291 x1 (f_291 8192 8192 s) s) s : Int).toNat) 39 9 0) c e) rfl ?_
  refine RuP.step (pc' := 46) (ls' := [some (.inr (.inr (some 39))), some (.inr (.inr (some 28))), some (.inl x1), some (.inl q1), none, none]) (st' := [.inl 0]) (h1 := hp L (ax_u2 (cpy (ax_u2 s 39 8 (f_292 0 (f_291 x1 (f_291 8192 8192 s) s) s)) 28 40 (0 : Int).toNat (0 : Int).toNat (f_292 0 (f_291 x1 (f_291 8192 8192 s) s) s : Int).toNat) 39 9 0) c e) rfl ?_
  refine RuP.step (pc' := 48) (ls' := [some (.inr (.inr (some 39))), some (.inr (.inr (some 28))), some (.inl x1), some (.inl q1), some (.inl 0), none]) (st' := []) (h1 := hp L (ax_u2 (cpy (ax_u2 s 39 8 (f_292 0 (f_291 x1 (f_291 8192 8192 s) s) s)) 28 40 (0 : Int).toNat (0 : Int).toNat (f_292 0 (f_291 x1 (f_291 8192 8192 s) s) s : Int).toNat) 39 9 0) c e) rfl ?_
  exact bl_73_28_48 FU _ _ _ _ _ _ _ h
