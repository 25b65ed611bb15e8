/-! FROM READING to the checks. -/
section CKI
variable {T : TT} {sc sm sc0 sm0 : Sg} {n' S P A N K C w : Nat} {t : Nat → Int}
theorem ckx_in (hT : TWF T) (hp : POS T) (h : PS0 T sc0 sm0 sc sm T.z S P A N K C w) (hX : TX T sc0 sm0 n' t) : CKX T sc sm n' t S P A N K C w ∧ S ≤ 1171 ∧ C ≤ 2049 ∧ K ≤ 8192 ∧ (∀ i, i < S → sm 94 i = 2 → 1 ≤ sm 103 i ∧ sm 103 i ≤ 8192) := by
  obtain ⟨hB, h70, h19, h7, h37, hnc, htl, hdp⟩ := h
  obtain ⟨e1, e2, e3, e4, e5, e6, e7, e8, e9, e10, e11, e12, e13, e14, e15, e16, e17, e18, e19, e20, e21, e22, e23, e24, e25, e26, e27, e28, e29, e30, e31⟩ := hB
  have z8 := hT.1
  have p8 := hp.2.2.2
  refine ⟨⟨hT, hX.sf e15 e16, e1, e17, e6, h19, e11, e12, e28, e30, e31, by omega, by omega, by omega, by omega⟩, by omega, by omega, by omega, fun i hi h2 => ?_⟩
  obtain ⟨hd, p0, pc, n0, b1, b2, b3, b4, b5, b6, b7, b8, b9, b10, b11⟩ := e17.1 i hi
  have dx : DEFX T sc sm N i hd p0 pc := by
    rcases b11 with ⟨u, -⟩ | ⟨u, -⟩ | ⟨_, _, _, u⟩ | ⟨u, -⟩
    · omega
    · omega
    · exact u
    · omega
  obtain ⟨st, e, m0, m1, d1, d2, d3, d4, -⟩ := dx
  obtain ⟨q1, q2⟩ := e17.2.2.2.2.2.2.2.1.2 i hi h2
  have q := hnc i hi
  by_cases c : i + 1 < S
  · rw [if_pos c] at q
    have := q1 c
    omega
  · rw [if_neg c] at q
    have := q2 (by omega)
    omega
theorem chk_in (hT : TWF T) (hp : POS T) (h : PS0 T sc0 sm0 sc sm T.z S P A N K C w) (hX : TX T sc0 sm0 n' t) (f0 : ∀ j : Nat, 1 ≤ j → j ≤ 10 → sc0 30 j = -1) (h8 : sm0 84 8 = -1) : ∃ x y : Sg, f_16 sc = some x ∧ j_196_111 sm = j_196_188 y ∧ CHO sc sm x y N := by
  obtain ⟨hk, hS, hC, hK, h103⟩ := ckx_in hT hp h hX
  obtain ⟨hB, -⟩ := h
  obtain ⟨e1, e2, e3, e4, e5, e6, e7, e8, e9, e10, e11, e12, e13, e14, e15, e16, e17, e18, e19, e20, e21, e22, e23, e24, e25, e26, e27, e28, e29, e30, e31⟩ := hB
  exact chk hk e10 e29 hS e13 hC hK (fun j a b c => by rw [e15.2.2.1 j c]; exact f0 j a b) (by rw [e16.2 8 (by omega)]; exact h8) e5 e2.1 h103
end CKI
