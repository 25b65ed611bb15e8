/-! AN INSTRUCTION's parts, the reference: what a part changes; a fault stays one. -/
def MPF (m m' : Sg) (S P a' : Nat) (v x : Int) : Prop := (∀ c, ¬ (c = 84 ∨ c = 93 ∨ c = 99 ∨ c = 104 ∨ c = 105) → m' c = m c) ∧ (∀ j, j ≠ 18 → j ≠ 31 → m' 84 j = m 84 j) ∧ m' 84 18 = (a' : Int) ∧ m' 84 31 = ((P + 1 : Nat) : Int) ∧ m' 99 S = ax_w32 (m 99 S + 1) ∧ (∀ i, i ≠ S → m' 99 i = m 99 i) ∧ m' 104 P = v ∧ m' 105 P = x ∧ (∀ i, i ≠ P → m' 104 i = m 104 i ∧ m' 105 i = m 105 i)
section MPFS
variable {T : TT} {s m : Sg} {a S P F : Nat}
theorem mpfB : MPF m (PBm m S P a) S P (a + 1) (-1) (a : Int) ∧ (PBm m S P a) 93 a = 1 ∧ (∀ k, k ≠ a → (PBm m S P a) 93 k = m 93 k) := by
  unfold PBm
  refine ⟨⟨?_, ?_, ?_, ?_, u2_same _ _ _ _, ?_, ?_, ?_, ?_⟩, ?_, ?_⟩
  · intro c x
    rw [u2_row _ _ _ (by omega), u2_row _ _ _ (by omega), u2_row _ _ _ (by omega), u2_row _ _ _ (by omega), adv_row (by omega), u2_row _ _ _ (by omega)]
  · intro j x y
    rw [u2_row _ _ _ (by decide), u2_col _ _ _ y, u2_row _ _ _ (by decide), u2_row _ _ _ (by decide), adv_col x, u2_row _ _ _ (by decide)]
  · rw [u2_row _ _ _ (by decide), u2_col _ _ _ (by decide), u2_row _ _ _ (by decide), u2_row _ _ _ (by decide), adv_at]
  · rw [u2_row _ _ _ (by decide)]; exact u2_same _ _ _ _
  · intro i hi
    rw [u2_col _ _ _ hi, u2_row _ _ _ (by decide), u2_row _ _ _ (by decide), u2_row _ _ _ (by decide), adv_row (by decide), u2_row _ _ _ (by decide)]
  · rw [u2_row _ _ _ (by decide), u2_row _ _ _ (by decide), u2_row _ _ _ (by decide), u2_row _ _ _ (by decide), adv_row (by decide)]; exact u2_same _ _ _ _
  · rw [u2_row _ _ _ (by decide), u2_row _ _ _ (by decide), u2_row _ _ _ (by decide)]; exact u2_same _ _ _ _
  · intro i hi
    constructor
    · rw [u2_row _ _ _ (by decide), u2_row _ _ _ (by decide), u2_row _ _ _ (by decide), u2_row _ _ _ (by decide), adv_row (by decide), u2_col _ _ _ hi]
    · rw [u2_row _ _ _ (by decide), u2_row _ _ _ (by decide), u2_row _ _ _ (by decide), u2_col _ _ _ hi, adv_row (by decide), u2_row _ _ _ (by decide)]
  · rw [u2_row _ _ _ (by decide), u2_row _ _ _ (by decide)]; exact u2_same _ _ _ _
  · intro k hk
    rw [u2_row _ _ _ (by decide), u2_row _ _ _ (by decide), u2_col _ _ _ hk, u2_row _ _ _ (by decide), adv_row (by decide), u2_row _ _ _ (by decide)]
theorem mpfN : MPF m (PNm m S P a) S P (a + 3) (a : Int) ((a + 2 : Nat) : Int) ∧ (PNm m S P a) 93 = m 93 := by
  unfold PNm
  refine ⟨⟨?_, ?_, ?_, ?_, u2_same _ _ _ _, ?_, ?_, ?_, ?_⟩, ?_⟩
  · intro c x
    rw [u2_row _ _ _ (by omega), u2_row _ _ _ (by omega), u2_row _ _ _ (by omega), adv_row (by omega), adv_row (by omega), u2_row _ _ _ (by omega), adv_row (by omega)]
  · intro j x y
    rw [u2_row _ _ _ (by decide), u2_col _ _ _ y, u2_row _ _ _ (by decide), adv_col x, adv_col x, u2_row _ _ _ (by decide), adv_col x]
  · rw [u2_row _ _ _ (by decide), u2_col _ _ _ (by decide), u2_row _ _ _ (by decide), adv_at]
  · rw [u2_row _ _ _ (by decide)]; exact u2_same _ _ _ _
  · intro i hi
    rw [u2_col _ _ _ hi, u2_row _ _ _ (by decide), u2_row _ _ _ (by decide), adv_row (by decide), adv_row (by decide), u2_row _ _ _ (by decide), adv_row (by decide)]
  · rw [u2_row _ _ _ (by decide), u2_row _ _ _ (by decide), u2_row _ _ _ (by decide), adv_row (by decide), adv_row (by decide)]; exact u2_same _ _ _ _
  · rw [u2_row _ _ _ (by decide), u2_row _ _ _ (by decide)]; exact u2_same _ _ _ _
  · intro i hi
    constructor
    · rw [u2_row _ _ _ (by decide), u2_row _ _ _ (by decide), u2_row _ _ _ (by decide), adv_row (by decide), adv_row (by decide), u2_col _ _ _ hi, adv_row (by decide)]
    · rw [u2_row _ _ _ (by decide), u2_row _ _ _ (by decide), u2_col _ _ _ hi, adv_row (by decide), adv_row (by decide), u2_row _ _ _ (by decide), adv_row (by decide)]
  · rw [u2_row _ _ _ (by decide), u2_row _ _ _ (by decide), u2_row _ _ _ (by decide), adv_row (by decide), adv_row (by decide), u2_row _ _ _ (by decide), adv_row (by decide)]
/-- faults -/
theorem fl258 (hf : 0 < m 84 6) (x : Int) : f_258 x m = some m := by
  unfold f_258
  rw [if_neg (by omega)]
theorem fl254 (hf : 0 < m 84 6) (x : Int) : ∃ m' : Sg, f_254 x m = some m' ∧ BSm m m' := by
  have e : 0 < (ax_u2 m 84 43 0) 84 6 := by rw [u2_col _ _ _ (by decide)]; exact hf
  refine ⟨ax_u2 m 84 43 0, ?_, slot_sf (by decide), e⟩
  obtain ⟨F, hF⟩ := FU_split (k := 1) (by omega)
  unfold f_254
  rw [fl258 e, Option.bind_some, hF, j_254_10, if_pos (by omega)]
theorem fl354 (hf : 0 < m 84 6) (x : Int) : ∃ m' : Sg, j_233_354 x m = some m' ∧ BSm m m' := by
  obtain ⟨m', k1, k2⟩ := fl254 hf x
  refine ⟨m', ?_, k2⟩
  unfold j_233_354
  rw [k1, Option.bind_some]
  exact fl359 k2.2 x
theorem fl221 (hF : 1 ≤ F) (hf : 0 < m 84 6) (x : Int) : ∃ m' : Sg, j_233_221 F x m = some m' ∧ BSm m m' := by
  obtain ⟨F, rfl⟩ : ∃ k, F = k + 1 := ⟨F - 1, by omega⟩
  rw [j_233_221, if_pos (by omega)]
  exact fl354 hf x
end MPFS
