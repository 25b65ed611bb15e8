/-! THE LAW'S LOOP. -/
section LOP
variable {s : Sg}
theorem RES.i {rc : Option (Int × Sg)} {rm : Sg → Option (Int × Sg)} {E : Prop} (h : RES rc rm GIV E) : ∃ (t0 v : Int) (s1 s2 : Sg), rc = some (t0, s1) ∧ rm s1 = some (v, s2) ∧ GIV s2 ∧ (E → s2 84 0 = t0 ∧ (t0 = 0 → s2 136 0 = v)) := h
theorem count_ (g : GIV s) (a : Int) : GIV (f_205 a s).2 := by
  have q : ∀ v : Int, GIV (v, ax_u2 s 84 0 0).2 := fun v => (QF.a84 s 0).gi g
  unfold f_205
  split
  · split
    · split
      · split
        · split
          · split
            · exact q _
            · exact q _
          · exact q _
        · exact q _
      · exact q _
    · exact q _
  · exact q _
/-- the script stays as it is -/
theorem lop : ∀ (r l F L : Nat) (s : Sg), L ≤ 2560 → l + 5 * r ≤ L + 4 → L < l + 5 * r + 5 → GIV s → j_279_23 L (F + r + 1) (l : Int) s = some 1 := by
  sorry
end LOP
