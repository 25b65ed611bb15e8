/-! READING as a whole: how it begins. -/
section RDB
variable {T : TT} {sc sm sc0 sm0 s1 m1 : Sg} {n id : Nat} {t : Nat → Int}
theorem IDN.ge (hX : TX T sc sm n t) (h : IDN T id) : 12 ≤ id := by
  obtain ⟨x, h1, h2, h3⟩ := h
  obtain ⟨i, j, -, -, -, -, -, -, -, id', e1, e2, -, -, e5⟩ := hX.nm h1 h2
  by_cases c : 12 ≤ id'
  · omega
  · rw [if_neg c] at e5
    omega
/-- behind cutting, all is ready to be read -/
theorem in0 (hX : TX T sc0 sm0 n t) (c1 : CC T sc0) (c2 : MC T sm0) (c3 : CU T sc0 0) (c4 : CX T sc0) (c5 : ∀ k, k < T.z → FRS T sc0 sm0 k) (c6 : sm0 84 6 = 0) (cw : CWc s1 sc0 T.m) (c30 : sc0 30 = s1 30) (mw : CWm m1 sm0) (hT : TWF T)
    (f30 : ∀ j, j < 11 → s1 30 j = -1) (a31 : s1 31 8 = 0) (a46 : s1 46 7 = 0) (a54 : s1 54 6 = 0) (a61 : s1 61 4 = 0) (a66 : s1 66 7 = 0) (a70 : s1 70 9 = 0) (b19 : m1 84 19 = 0) (b31 : m1 84 31 = 0) (b34 : m1 84 34 = 0) (b47 : m1 84 47 = 0) (b57 : m1 84 57 = 0) : IN0 T sc0 sm0 := by
  obtain ⟨w1, w2, w3, w4, w5, w6, w7, w8, w9, w10, w11⟩ := cw
  refine ⟨c1, c2, c3, c6, by rw [w10 46 (by decide)]; exact a46, by rw [mw.2 47 (by decide) (by decide) (by decide)]; exact b47, by rw [mw.2 57 (by decide) (by decide) (by decide)]; exact b57, by rw [w10 66 (by decide)]; exact a66, c5, by rw [w10 54 (by decide)]; exact a54, by rw [mw.2 19 (by decide) (by decide) (by decide)]; exact b19, by rw [mw.2 31 (by decide) (by decide) (by decide)]; exact b31, by rw [mw.2 34 (by decide) (by decide) (by decide)]; exact b34, by rw [w10 61 (by decide)]; exact a61, by rw [w7]; exact a31, by rw [w10 70 (by decide)]; exact a70, ?_, fun id hid => w9 id (hid.ge hX) (hid.lt hT), c4⟩
  unfold CN
  rw [c30]
  exact ⟨f30 4 (by decide), f30 5 (by decide), f30 6 (by decide), f30 7 (by decide)⟩
/-- the reference takes the text -/
theorem m196b (h1 : sm 84 1 = (n : Int)) (hn : n ≤ 8192) : ∃ m2 : Sg, f_196 sm = j_196_66 m2 ∧ (∀ c, c ≠ 84 → c ≠ 86 → m2 c = sm c) ∧ (∀ i, i < n → m2 86 i = sm 85 i) ∧ m2 84 3 = (n : Int) ∧ m2 84 0 = 0 ∧ m2 84 5 = 0 ∧ m2 84 6 = 0 ∧ m2 84 8 = -1 ∧ m2 84 72 = 0 ∧ (∀ j, j ≠ 0 → j ≠ 3 → j ≠ 5 → j ≠ 6 → j ≠ 7 → j ≠ 8 → j ≠ 72 → m2 84 j = sm 84 j) := by
  obtain ⟨m0, hm0⟩ : ∃ s : Sg, s = ax_u2 (ax_u2 (ax_u2 (ax_u2 (ax_u2 (ax_u2 (ax_u2 sm 84 0 0) 84 5 0) 84 6 0) 84 7 0) 84 8 (-1)) 84 72 0) 84 3 (sm 84 1) := ⟨_, rfl⟩
  have r0 : ∀ c, c ≠ 84 → m0 c = sm c := fun c x => by rw [hm0, u2_row _ _ _ x, u2_row _ _ _ x, u2_row _ _ _ x, u2_row _ _ _ x, u2_row _ _ _ x, u2_row _ _ _ x, u2_row _ _ _ x]
  have rj : ∀ j, j ≠ 0 → j ≠ 3 → j ≠ 5 → j ≠ 6 → j ≠ 7 → j ≠ 8 → j ≠ 72 → m0 84 j = sm 84 j := fun j x0 x3 x5 x6 x7 x8 x72 => by rw [hm0, u2_col _ _ _ x3, u2_col _ _ _ x72, u2_col _ _ _ x8, u2_col _ _ _ x7, u2_col _ _ _ x6, u2_col _ _ _ x5, u2_col _ _ _ x0]
  have g1 : m0 84 1 = (n : Int) := by rw [rj 1 (by decide) (by decide) (by decide) (by decide) (by decide) (by decide) (by decide)]; exact h1
  have go : ∀ (r l F : Nat) (z : Sg), l + r = n → (∀ c, c ≠ 86 → z c = m0 c) → (∀ i, i < l → z 86 i = sm 85 i) → ∃ m2 : Sg, j_196_40 (F + r + 1) (l : Int) z = j_196_66 m2 ∧ (∀ c, c ≠ 86 → m2 c = m0 c) ∧ (∀ i, i < n → m2 86 i = sm 85 i) := by
    intro r
    induction r with
    | zero =>
      intro l F z hl p1 p2
      exact ⟨z, by rw [j_196_40, p1 84 (by decide), g1, if_pos (by omega)], p1, fun i hi => p2 i (by omega)⟩
    | succ r ih =>
      intro l F z hl p1 p2
      rw [show F + (r + 1) + 1 = (F + r + 1) + 1 by omega, j_196_40, p1 84 (by decide), g1, if_neg (by omega), gd_pos (by omega), gd_pos (by omega), w32_nat (by omega), Int.toNat_natCast]
      refine ih (l + 1) F _ (by omega) (fun c x => by rw [u2_row _ _ _ x]; exact p1 c x) (fun i hi => ?_)
      by_cases e : i = l
      · rw [e, u2_same, p1 85 (by decide), r0 85 (by decide)]
      · rw [u2_col _ _ _ e]; exact p2 i (by omega)
  obtain ⟨F, hF⟩ := FU_split (k := n + 1) (by omega)
  obtain ⟨m2, e1, e2, e3⟩ := go n 0 F m0 (by omega) (fun _ _ => rfl) (fun i hi => absurd hi (by omega))
  rw [show F + n + 1 = FU by omega] at e1
  refine ⟨m2, ?_, fun c x y => by rw [e2 c y, r0 c x], e3, ?_, ?_, ?_, ?_, ?_, ?_, fun j x0 x3 x5 x6 x7 x8 x72 => by rw [e2 84 (by decide)]; exact rj j x0 x3 x5 x6 x7 x8 x72⟩
  · unfold f_196
    rw [← hm0]
    exact e1
  · rw [e2 84 (by decide), hm0, u2_same]; exact h1
  · rw [e2 84 (by decide), hm0]; simp [ax_u2]
  · rw [e2 84 (by decide), hm0]; simp [ax_u2]
  · rw [e2 84 (by decide), hm0]; simp [ax_u2]
  · rw [e2 84 (by decide), hm0]; simp [ax_u2]
  · rw [e2 84 (by decide), hm0]; simp [ax_u2]
end RDB
