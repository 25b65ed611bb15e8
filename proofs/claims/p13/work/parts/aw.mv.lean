/-! THE CHECKS: what they leave alone. -/
/-- rows that no check touches -/
def MVr (sc sm sc' sm' : Sg) : Prop := (∀ c, c ≠ 30 → (c = 1 ∨ 31 ≤ c ∧ c < 74) → sc' c = sc c) ∧ (CN sc' ↔ CN sc) ∧ (∀ c, c ≠ 84 → c ≠ 122 → (c = 86 ∨ 88 ≤ c ∧ c < 133) → sm' c = sm c) ∧ (∀ j, j ≠ 6 → j ≠ 7 → j ≠ 8 → (j ≠ 72 ∧ j ≠ 0 ∧ j ≠ 1 ∧ j ≠ 5 ∧ j ≠ 9) → sm' 84 j = sm 84 j)
section MV
variable {T : TT} {sc sm sc' sm' : Sg} {n' S P A N K C w : Nat} {t : Nat → Int}
theorem bsm_mv (h : MVr sc sm sc' sm') : bsm T sc' sm' = bsm T sc sm := by
  funext p0 j
  induction j with
  | zero => rfl
  | succ j ih => simp only [bsm]; rw [ih, h.1 43 (by decide) (by decide), h.2.2.1 104 (by decide) (by decide) (by decide), h.2.2.1 105 (by decide) (by decide) (by decide)]
theorem rin_mv (h : MVr sc sm sc' sm') : rin T sm' = rin T sm := by
  funext id k
  induction k with
  | zero => rfl
  | succ k ih =>
    funext r
    simp only [rin]
    rw [ih, h.2.2.1 107 (by decide) (by decide) (by decide), h.2.2.1 113 (by decide) (by decide) (by decide)]
theorem OWN_mv (h : MVr sc sm sc' sm') : OWN T sm' = OWN T sm := by
  have o1 := rin_mv (T := T) h
  obtain ⟨r, cn, m, mj⟩ := h
  funext s q id
  unfold OWN PIN
  rw [o1, m 98 (by decide) (by decide) (by decide), m 99 (by decide) (by decide) (by decide), m 104 (by decide) (by decide) (by decide)]
theorem OWW_mv (h : MVr sc sm sc' sm') : OWW T sm' = OWW T sm := by
  have o1 := rin_mv (T := T) h
  obtain ⟨r, cn, m, mj⟩ := h
  funext s q id v
  unfold OWW
  rw [o1, m 98 (by decide) (by decide) (by decide), m 99 (by decide) (by decide) (by decide), m 104 (by decide) (by decide) (by decide), m 105 (by decide) (by decide) (by decide)]
theorem SRL_mv (h : MVr sc sm sc' sm') : SRL T sc' sm' = SRL T sc sm := by
  have o1 := bsm_mv (T := T) h
  obtain ⟨r, cn, m, mj⟩ := h
  funext P N i
  unfold SRL SKW SKC DEFX CSG INSX
  rw [o1, r 56 (by decide) (by decide), r 55 (by decide) (by decide), r 60 (by decide) (by decide), r 58 (by decide) (by decide), r 57 (by decide) (by decide), m 95 (by decide) (by decide) (by decide), m 94 (by decide) (by decide) (by decide), m 98 (by decide) (by decide) (by decide), m 99 (by decide) (by decide) (by decide), m 97 (by decide) (by decide) (by decide), m 96 (by decide) (by decide) (by decide), m 100 (by decide) (by decide) (by decide), m 101 (by decide) (by decide) (by decide), m 123 (by decide) (by decide) (by decide), m 116 (by decide) (by decide) (by decide), m 118 (by decide) (by decide) (by decide), m 104 (by decide) (by decide) (by decide), m 105 (by decide) (by decide) (by decide)]
theorem ARL_mv (h : MVr sc sm sc' sm') : ARL T sm' = ARL T sm := by
  obtain ⟨r, cn, m, mj⟩ := h
  funext S N a
  unfold ARL
  rw [m 112 (by decide) (by decide) (by decide), m 94 (by decide) (by decide) (by decide), m 113 (by decide) (by decide) (by decide), m 106 (by decide) (by decide) (by decide), m 107 (by decide) (by decide) (by decide), m 109 (by decide) (by decide) (by decide), m 110 (by decide) (by decide) (by decide), m 111 (by decide) (by decide) (by decide), m 108 (by decide) (by decide) (by decide)]
theorem CLA_mv (h : MVr sc sm sc' sm') : CLA sc' sm' = CLA sc sm := by
  obtain ⟨r, cn, m, mj⟩ := h
  funext S A C
  unfold CLA CLc
  rw [propext cn, r 62 (by decide) (by decide), r 63 (by decide) (by decide), r 64 (by decide) (by decide), r 65 (by decide) (by decide), r 57 (by decide) (by decide), m 106 (by decide) (by decide) (by decide), m 107 (by decide) (by decide) (by decide), m 109 (by decide) (by decide) (by decide), m 110 (by decide) (by decide) (by decide), m 111 (by decide) (by decide) (by decide), m 94 (by decide) (by decide) (by decide), m 101 (by decide) (by decide) (by decide), m 100 (by decide) (by decide) (by decide)]
theorem NOW_mv (h : MVr sc sm sc' sm') : NOW sc' sm' = NOW sc sm := by
  obtain ⟨r, cn, m, mj⟩ := h
  funext S A n
  unfold NOW
  rw [r 60 (by decide) (by decide), m 123 (by decide) (by decide) (by decide), m 124 (by decide) (by decide) (by decide), m 106 (by decide) (by decide) (by decide)]
theorem NEV_mv (h : MVr sc sm sc' sm') : NEV T sc' sm' = NEV T sc sm := by
  have o1 := OWN_mv (T := T) h
  have o2 := OWW_mv (T := T) h
  obtain ⟨r, cn, m, mj⟩ := h
  funext n
  unfold NEV
  rw [o1, o2, r 48 (by decide) (by decide), m 116 (by decide) (by decide) (by decide), m 123 (by decide) (by decide) (by decide), m 124 (by decide) (by decide) (by decide), m 118 (by decide) (by decide) (by decide)]
theorem OWR_mv (h : MVr sc sm sc' sm') : OWR T sc' sm' = OWR T sc sm := by
  obtain ⟨r, cn, m, mj⟩ := h
  funext S
  unfold OWR
  rw [r 36 (by decide) (by decide), m 95 (by decide) (by decide) (by decide)]
theorem BIN_mv (h : MVr sc sm sc' sm') : BIN sc' = BIN sc := by
  obtain ⟨r, cn, m, mj⟩ := h
  funext k
  unfold BIN
  rw [r 43 (by decide) (by decide), r 40 (by decide) (by decide), r 42 (by decide) (by decide)]
theorem GST_mv (h : MVr sc sm sc' sm') : GST T sc' sm' = GST T sc sm := by
  have o1 := BIN_mv h
  obtain ⟨r, cn, m, mj⟩ := h
  funext i
  unfold GST GPT
  rw [o1, m 94 (by decide) (by decide) (by decide), m 97 (by decide) (by decide) (by decide), m 96 (by decide) (by decide) (by decide), m 95 (by decide) (by decide) (by decide), m 98 (by decide) (by decide) (by decide), m 99 (by decide) (by decide) (by decide), m 104 (by decide) (by decide) (by decide), m 105 (by decide) (by decide) (by decide)]
theorem GAC_mv (h : MVr sc sm sc' sm') : GAC T sm' = GAC T sm := by
  have o1 := OWN_mv (T := T) h
  obtain ⟨r, cn, m, mj⟩ := h
  funext a
  unfold GAC
  rw [o1, m 106 (by decide) (by decide) (by decide), m 108 (by decide) (by decide) (by decide), m 112 (by decide) (by decide) (by decide), m 113 (by decide) (by decide) (by decide), m 107 (by decide) (by decide) (by decide)]
theorem GNO_mv (h : MVr sc sm sc' sm') : GNO T sm' = GNO T sm := by
  have o1 := OWN_mv (T := T) h
  obtain ⟨r, cn, m, mj⟩ := h
  funext n
  unfold GNO
  rw [o1, m 116 (by decide) (by decide) (by decide), m 119 (by decide) (by decide) (by decide), m 118 (by decide) (by decide) (by decide), m 123 (by decide) (by decide) (by decide), m 124 (by decide) (by decide) (by decide)]
theorem GOOD_mv (h : MVr sc sm sc' sm') : GOOD T sc' sm' = GOOD T sc sm := by
  have o1 := GST_mv (T := T) h
  have o2 := GAC_mv (T := T) h
  have o3 := GNO_mv (T := T) h
  obtain ⟨r, cn, m, mj⟩ := h
  funext S A N w
  unfold GOOD
  rw [o1, o2, o3]
theorem PHX_mv (h : MVr sc sm sc' sm') : PHX sc' sm' = PHX sc sm := by
  obtain ⟨r, cn, m, mj⟩ := h
  funext S P N
  unfold PHX
  rw [r 60 (by decide) (by decide), m 98 (by decide) (by decide) (by decide), m 99 (by decide) (by decide) (by decide), m 94 (by decide) (by decide) (by decide), m 100 (by decide) (by decide) (by decide)]
theorem CLX_mv (h : MVr sc sm sc' sm') : CLX sm' = CLX sm := by
  obtain ⟨r, cn, m, mj⟩ := h
  funext N
  unfold CLX
  rw [m 116 (by decide) (by decide) (by decide), m 118 (by decide) (by decide) (by decide), mj 18 (by decide) (by decide) (by decide) (by decide)]
theorem LOR_mv (h : MVr sc sm sc' sm') : LOR T sm' = LOR T sm := by
  obtain ⟨r, cn, m, mj⟩ := h
  funext S
  unfold LOR
  rw [m 94 (by decide) (by decide) (by decide), m 95 (by decide) (by decide) (by decide), mj 18 (by decide) (by decide) (by decide) (by decide)]
theorem DAT_mv (h : MVr sc sm sc' sm') : DAT T sc' sm' = DAT T sc sm := by
  have o1 := SRL_mv (T := T) h
  have o2 := ARL_mv (T := T) h
  have o3 := CLA_mv h
  have o4 := NOW_mv h
  have o5 := NEV_mv (T := T) h
  have o6 := OWR_mv (T := T) h
  have o7 := GOOD_mv (T := T) h
  have o8 := PHX_mv h
  have o9 := CLX_mv h
  have o10 := LOR_mv (T := T) h
  obtain ⟨r, cn, m, mj⟩ := h
  funext S P A N C w
  unfold DAT
  rw [o1, o2, o3, o4, o5, o6, o7, o8, o9, o10, propext cn]
theorem NV_mv (h : MVr sc sm sc' sm') : NV T sc' sm' = NV T sc sm := by
  obtain ⟨r, cn, m, mj⟩ := h
  funext n
  unfold NV
  rw [r 49 (by decide) (by decide), r 48 (by decide) (by decide), m 116 (by decide) (by decide) (by decide), m 118 (by decide) (by decide) (by decide), m 119 (by decide) (by decide) (by decide), m 117 (by decide) (by decide) (by decide)]
theorem NR_mv (h : MVr sc sm sc' sm') : NR T sc' sm' = NR T sc sm := by
  have o1 := NV_mv (T := T) h
  obtain ⟨r, cn, m, mj⟩ := h
  funext K n
  unfold NR
  rw [o1, r 53 (by decide) (by decide), r 47 (by decide) (by decide), r 50 (by decide) (by decide), r 51 (by decide) (by decide), r 52 (by decide) (by decide), m 120 (by decide) (by decide) (by decide), m 121 (by decide) (by decide) (by decide), m 116 (by decide) (by decide) (by decide), m 117 (by decide) (by decide) (by decide), m 125 (by decide) (by decide) (by decide)]
theorem ND_mv (h : MVr sc sm sc' sm') : ND T sc' sm' = ND T sc sm := by
  have o1 := NR_mv (T := T) h
  obtain ⟨r, cn, m, mj⟩ := h
  funext N K
  unfold ND
  rw [o1, r 46 (by decide) (by decide), mj 47 (by decide) (by decide) (by decide) (by decide), mj 57 (by decide) (by decide) (by decide) (by decide)]
theorem TX_mv (h : MVr sc sm sc' sm') : TX T sc' sm' = TX T sc sm := by
  obtain ⟨r, cn, m, mj⟩ := h
  funext n t
  unfold TX CT MT NI LXn
  rw [r 39 (by decide) (by decide), r 40 (by decide) (by decide), r 31 (by decide) (by decide), r 32 (by decide) (by decide), r 33 (by decide) (by decide), r 34 (by decide) (by decide), r 35 (by decide) (by decide), r 43 (by decide) (by decide), mj 3 (by decide) (by decide) (by decide) (by decide), m 86 (by decide) (by decide) (by decide), m 89 (by decide) (by decide) (by decide), m 90 (by decide) (by decide) (by decide)]
theorem CC_mv (h : MVr sc sm sc' sm') : CC T sc' = CC T sc := by
  obtain ⟨r, cn, m, mj⟩ := h
  unfold CC
  rw [r 39 (by decide) (by decide), r 41 (by decide) (by decide), r 42 (by decide) (by decide), r 44 (by decide) (by decide), r 31 (by decide) (by decide), r 1 (by decide) (by decide)]
theorem CKX_mv (h : MVr sc sm sc' sm') : CKX T sc' sm' = CKX T sc sm := by
  have o1 := TX_mv (T := T) h
  have o2 := CC_mv (T := T) h
  have o3 := DAT_mv (T := T) h
  have o4 := ND_mv (T := T) h
  obtain ⟨r, cn, m, mj⟩ := h
  funext n t S P A N K C w
  unfold CKX
  rw [o1, o2, o3, o4, mj 19 (by decide) (by decide) (by decide) (by decide), mj 31 (by decide) (by decide) (by decide) (by decide), mj 34 (by decide) (by decide) (by decide) (by decide), mj 30 (by decide) (by decide) (by decide) (by decide)]
theorem SO1_mv (h : MVr sc sm sc' sm') : SO1 T sm' = SO1 T sm := by
  obtain ⟨r, cn, m, mj⟩ := h
  funext S v i
  unfold SO1
  rw [m 95 (by decide) (by decide) (by decide)]
theorem FIT_mv (h : MVr sc sm sc' sm') : FIT sm' = FIT sm := by
  obtain ⟨r, cn, m, mj⟩ := h
  funext k i c
  unfold FIT
  rw [m 94 (by decide) (by decide) (by decide), m 96 (by decide) (by decide) (by decide), m 99 (by decide) (by decide) (by decide)]
theorem BD6_mv (h : MVr sc sm sc' sm') : BD6 T sm' = BD6 T sm := by
  have o1 := OWN_mv (T := T) h
  obtain ⟨r, cn, m, mj⟩ := h
  funext S A N
  unfold BD6 bd6n bd6a NOS
  rw [o1, m 116 (by decide) (by decide) (by decide), m 123 (by decide) (by decide) (by decide), m 124 (by decide) (by decide) (by decide), m 118 (by decide) (by decide) (by decide), m 95 (by decide) (by decide) (by decide), m 106 (by decide) (by decide) (by decide), m 112 (by decide) (by decide) (by decide), m 113 (by decide) (by decide) (by decide), m 107 (by decide) (by decide) (by decide)]
theorem BD7_mv (h : MVr sc sm sc' sm') : BD7 T sm' = BD7 T sm := by
  have o1 := OWN_mv (T := T) h
  have o2 := SO1_mv (T := T) h
  have o3 := FIT_mv h
  obtain ⟨r, cn, m, mj⟩ := h
  funext S A N
  unfold BD7 bd7n bd7a
  rw [o1, o2, o3, m 116 (by decide) (by decide) (by decide), m 123 (by decide) (by decide) (by decide), m 124 (by decide) (by decide) (by decide), m 118 (by decide) (by decide) (by decide), m 120 (by decide) (by decide) (by decide), m 106 (by decide) (by decide) (by decide), m 112 (by decide) (by decide) (by decide), m 113 (by decide) (by decide) (by decide), m 107 (by decide) (by decide) (by decide), m 109 (by decide) (by decide) (by decide)]
theorem bdB_mv (h : MVr sc sm sc' sm') : bdB T sc' sm' = bdB T sc sm := by
  obtain ⟨r, cn, m, mj⟩ := h
  funext w i
  unfold bdB
  rw [m 94 (by decide) (by decide) (by decide), r 57 (by decide) (by decide)]
end MV
