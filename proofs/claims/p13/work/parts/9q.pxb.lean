/-! INSIDE a statement: the state at any lexeme of an action. -/
def PXB (T : TT) (sc0 sm0 sc sm : Sg) (a S P A Q N K C B w : Nat) : Prop :=
  CC T sc ∧ MC T sm ∧ CU T sc a ∧ sm 84 18 = (a : Int) ∧ sm 84 6 = 0 ∧ ND T sc sm N K ∧ sc 66 7 = 0 ∧ (∀ k, a ≤ k → k < T.z → FRS T sc sm k) ∧ (∀ k, k < a → LF T sc sm k) ∧ sc 54 6 = (S : Int) ∧ sm 84 31 = (P : Int) ∧ sm 84 34 = (Q : Int) ∧ sc 61 4 = (C : Int) ∧ sc 31 8 = (B : Int) ∧ SFc sc0 sc ∧ SFm sm0 sm ∧
  DAT T sc sm S P A N C w ∧ (∀ i, i < S → sc 59 i = sm 102 i) ∧ (∀ k, 1 ≤ k → k < a → PRQ (T.tk (k - 1)) (T.tk k)) ∧ (∀ k, k < a → STT T k) ∧ 4 * (C : Int) ≤ T.fm a ∧ 2 * B ≤ a ∧ P ≤ a ∧ A ≤ a ∧ N ≤ a ∧ K ≤ N ∧ 3 ≤ a ∧ sm 84 30 = (w : Int) ∧ sc 54 7 = mn (T.vl w) ∧ w < T.z ∧ T.tk w = 2
section PXS
variable {T : TT} {sc0 sm0 sc sm sc' sm' : Sg} {a a' S P A A' Q Q' N K C C' B B' w s np : Nat} {r : Int}
theorem PSB.px (h : PSB T sc0 sm0 sc sm a S P A N K C B w) : PXB T sc0 sm0 sc sm a S P A A N K C B w := h
theorem PXB.ps (h : PXB T sc0 sm0 sc sm a S P A A N K C B w) : PSB T sc0 sm0 sc sm a S P A N K C B w := h
theorem RST.cg (h7 : ∀ i, i < A → sm' 107 i = sm 107 i ∧ sm' 113 i = sm 113 i) : ∀ (j : Nat) (r : Int), (∀ i, i < j → sc' 38 (np + i) = sc 38 (np + i) ∧ sc' 37 (sc 38 (np + i)).toNat = sc 37 (sc 38 (np + i)).toNat) → r < (A : Int) → RST T sc sm np j r → RST T sc' sm' np j r := by
  intro j
  induction j with
  | zero => intro r _ _ h; exact h
  | succ j ih =>
    intro r hc hr ⟨a, h1, h2, h3, h4, h5, h6⟩
    obtain ⟨u1, u2⟩ := h7 a (by omega)
    obtain ⟨v1, v2⟩ := hc j (by omega)
    exact ⟨a, h1, h2, by rw [u1, v1]; exact h3, by rw [v1, v2]; exact h4, by rw [u2]; exact h5, by rw [u2]; exact ih _ (fun i hi => hc i (by omega)) (by omega) h6⟩
theorem BND.rows (h : BND T sc sm s r B np) (h31 : sc' 31 8 = sc 31 8) (h38 : sc' 38 = sc 38) (h37 : sc' 37 = sc 37) (h98 : sm' 98 s = sm 98 s) (h99 : sm' 99 s = sm 99 s) (h4 : sm' 104 = sm 104) (h5 : sm' 105 = sm 105) (h7 : ∀ i, i < A → sm' 107 i = sm 107 i ∧ sm' 113 i = sm 113 i) (hr : r < (A : Int)) : BND T sc' sm' s r B np := by
  obtain ⟨b1, b2, b3, b4, b5, b6, b7, b8⟩ := h
  unfold BND
  have b9 := RST.cg (sc' := sc') h7 _ _ (fun i _ => ⟨by rw [h38], by rw [h37]⟩) hr b8
  rw [h31, h38, h37, h98, h99, h4, h5]
  exact ⟨b1, b2, b3, b4, b5, b6, b7, b9⟩
/-- a step that reads no expression -/
theorem PXB.gen (h : PXB T sc0 sm0 sc sm a S P A Q N K C B w)
    (r1 : ∀ c, ¬ (c = 30 ∨ c = 31 ∨ 37 ≤ c ∧ c ≤ 39 ∨ c = 59 ∨ 61 ≤ c ∧ c ≤ 65 ∨ 70 ≤ c ∧ c ≤ 72) → sc' c = sc c) (r2 : ∀ j, j ≠ 10 → j ≠ 11 → sc' 39 j = sc 39 j) (r3 : ∀ j, j < 4 ∨ 7 < j → sc' 30 j = sc 30 j) (r4 : ∀ j, j ≠ 8 → sc' 31 j = sc 31 j) (r5 : sc' 31 8 = (B' : Int)) (r6 : sc' 61 4 = (C' : Int)) (r7 : ∀ c j, 62 ≤ c → c ≤ 65 → j < C → sc' c j = sc c j) (r8 : ∀ i, i < S → sc' 59 i = sm' 102 i) (hu : CU T sc' a')
    (m1 : ∀ c, ¬ (c = 84 ∨ c = 102 ∨ 106 ≤ c ∧ c ≤ 115) → sm' c = sm c) (m2 : ∀ c i, 106 ≤ c → c ≤ 113 → i < A → sm' c i = sm c i) (m3 : ∀ j, j ≠ 18 → j ≠ 34 → j ≠ 43 → j ≠ 46 → sm' 84 j = sm 84 j) (m4 : sm' 84 18 = (a' : Int)) (m5 : sm' 84 34 = (Q' : Int))
    (hA : A ≤ A') (hC : C ≤ C') (nA : ∀ i, A ≤ i → i < A' → ARL T sm' S N i)
    (nC1 : ∀ c, C ≤ c → c < C' → CLc sc' sm' S A' c) (nC2 : CN sc' → ∀ i, A ≤ i → i < A' → sm' 106 i = 0 → ∃ c, c < C' ∧ sc' 62 c = sm' 107 i ∧ sc' 63 c = sm' 109 i ∧ sc' 64 c = sm' 110 i ∧ sc' 65 c = 0) (nC3 : ∀ i, A ≤ i → i < A' → sm' 106 i = 1 → ∃ c, c < C' ∧ sc' 62 c = sm' 111 i ∧ sc' 63 c = -1 ∧ sc' 64 c = sm' 110 i ∧ sc' 65 c = 1)
    (nG : CN sc' ↔ CN sc ∧ ∀ i, A ≤ i → i < A' → GAC T sm' i) (ha : a ≤ a') (pq : ∀ k, a ≤ k → k < a' → PRQ (T.tk (k - 1)) (T.tk k) ∧ STT T k) (b1 : 4 * (C' : Int) ≤ T.fm a') (b2 : 2 * B' ≤ a') (b3 : A' ≤ a') (b8 : B' ≤ B ∨ B' ≤ 4112 := by omega) : PXB T sc0 sm0 sc' sm' a' S P A' Q' N K C' B' w := by
  obtain ⟨e1, e2, e3, e4, e5, e6, e7, e8, e9, e10, e11, e12, e13, e14, e15, e16, e17, e18, e19, e20, e21, e22, e23, e24, e25, e26, e27, e28, e29, e30, e31⟩ := h
  have sfc : SFc sc sc' := ⟨fun c x => r1 c (by omega), r2, r3, r4, fun y => by omega⟩
  have sfm : SFm sm sm' := ⟨fun c x => m1 c (by omega), fun j x => m3 j (by omega) (by omega) (by omega) (by omega)⟩
  have rx : RXF sc sm sc' sm' S P A N C := ⟨fun c i x y z => by rw [r1 c (by omega)], fun c i x y z => by rw [m1 c (by omega)], fun c p x y _ => by rw [m1 c (by omega)], m2, r7, fun n _ => by rw [r1 48 (by omega)], fun c n x y _ => by rw [m1 c (by omega)], fun c x => r1 c (by omega)⟩
  have hz := hu.2.2
  have owr : OWR T sc' sm' S := by
    intro id hid
    rw [r1 36 (by omega), m1 95 (by omega)]
    exact e17.2.2.2.2.2.1 id hid
  have dat : DAT T sc' sm' S P A' N C' w := by
    refine e17.ext rx (Nat.le_refl _) (Nat.le_refl _) hA (Nat.le_refl _) hC (fun _ y z => absurd z (by omega)) nA nC1 nC2 nC3 (fun _ y z => absurd z (by omega)) (fun _ y z => absurd z (by omega)) (fun _ _ y z => absurd z (by omega)) owr (PHE.same _ _ _ _ _) (CLE.same _ (by rw [e4, m4]; omega)) (LOE.same _ _ _ _) ?_
    rw [nG]
    exact ⟨fun y => ⟨y.1, fun _ y z => absurd z (by omega), y.2, fun _ y z => absurd z (by omega)⟩, fun y => ⟨y.1, y.2.2.1⟩⟩
  refine ⟨sfc.cc e1, sfm.mc e2, hu, m4, by rw [m3 6 (by decide) (by decide) (by decide) (by decide)]; exact e5, ?_, by rw [r1 66 (by omega)]; exact e7, ?_, ?_, by rw [r1 54 (by omega)]; exact e10, by rw [m3 31 (by decide) (by decide) (by decide) (by decide)]; exact e11, m5, r6, r5, e15.trans sfc, e16.trans sfm, dat, r8, ?_, ?_, b1, b2, by omega, b3, by omega, e26, by omega, by rw [m3 30 (by decide) (by decide) (by decide) (by decide)]; exact e28, by rw [r1 54 (by omega)]; exact e29, e30, e31⟩
  · exact e6.congr (by rw [r1 46 (by omega)]) (m3 47 (by decide) (by decide) (by decide) (by decide)) (m3 57 (by decide) (by decide) (by decide) (by decide)) (fun c n x y _ => by rw [r1 c (by omega)]) (fun c n x y _ => by rw [m1 c (by omega)]) (fun j _ => by rw [m1 125 (by omega)])
  · intro k x y
    obtain ⟨f1, f2, f3, f4⟩ := e8 k (by omega) y
    exact ⟨by rw [r1 45 (by omega)]; exact f1, by rw [m1 91 (by omega)]; exact f2, by rw [m1 92 (by omega)]; exact f3, by rw [m1 93 (by omega)]; exact f4⟩
  · intro k x
    have : LF T sc sm k := by
      by_cases e : k < a
      · exact e9 k e
      · exact (e8 k (by omega) (by omega)).lf
    exact this.congr (by rw [r1 45 (by omega)]) (by rw [m1 91 (by omega)]) (by rw [m1 92 (by omega)]) (by rw [m1 93 (by omega)])
  · intro k x y
    by_cases c1 : k < a
    · exact e19 k x c1
    · exact (pq k (by omega) y).1
  · intro k x
    by_cases c1 : k < a
    · exact e20 k c1
    · exact (pq k (by omega) x).2
/-- a lexeme is passed -/
theorem PXB.tok (hp : POS T) (h : PXB T sc0 sm0 sc sm a S P A Q N K C B w) (hz : a < T.z) (pq : PRQ (T.tk (a - 1)) (T.tk a)) (st : STT T a) : PXB T sc0 sm0 (cur T sc (a + 1)) (adv sm (a + 1)) (a + 1) S P A Q N K C B w := by
  obtain ⟨e1, e2, e3, e4, e5, e6, e7, e8, e9, e10, e11, e12, e13, e14, e15, e16, e17, e18, e19, e20, e21, e22, e23, e24, e25, e26, e27, e28, e29, e30, e31⟩ := id h
  have pz := hp.1 a hz
  refine h.gen (fun c x => cur_row (by omega)) (fun j x y => cur_col x y) (fun j _ => by rw [cur_row (by decide)]) (fun j _ => by rw [cur_row (by decide)]) (by rw [cur_row (by decide)]; exact e14) (by rw [cur_row (by decide)]; exact e13) (fun c j x y _ => by rw [cur_row (by omega)]) (fun i hi => by rw [cur_row (by decide), adv_row (by decide)]; exact e18 i hi) (cur_cu (by omega)) (fun c x => adv_row (by omega)) (fun c i x y _ => by rw [adv_row (by omega)]) (fun j x _ _ _ => adv_col x) adv_at (by rw [adv_col (by decide)]; exact e12) (Nat.le_refl _) (Nat.le_refl _) (fun _ y z => absurd z (by omega)) (fun _ y z => absurd z (by omega)) (fun _ _ y z => absurd z (by omega)) (fun _ y z => absurd z (by omega)) ?_ (by omega) (fun k x y => by rw [show k = a by omega]; exact ⟨pq, st⟩) (by omega) (by omega) (by omega)
  have : CN (cur T sc (a + 1)) ↔ CN sc := by unfold CN; rw [cur_row (by decide)]
  rw [this]
  exact ⟨fun y => ⟨y, fun _ y z => absurd z (by omega)⟩, fun y => y.1⟩
/-- the reference writes into an action's row -/
theorem PXB.row (h : PXB T sc0 sm0 sc sm a S P A Q N K C B w) {c i : Nat} {v : Int} (hc : 106 ≤ c ∧ c ≤ 113) (hi : A ≤ i) : PXB T sc0 sm0 sc (ax_u2 sm c i v) a S P A Q N K C B w := by
  obtain ⟨e1, e2, e3, e4, e5, e6, e7, e8, e9, e10, e11, e12, e13, e14, e15, e16, e17, e18, e19, e20, e21, e22, e23, e24, e25, e26, e27, e28, e29, e30, e31⟩ := id h
  have u : ∀ b j, j < A → (ax_u2 sm c i v) b j = sm b j := fun b j x => by
    have : j ≠ i := by omega
    simp [ax_u2, this]
  exact h.gen (fun _ _ => rfl) (fun _ _ _ => rfl) (fun _ _ => rfl) (fun _ _ => rfl) e14 e13 (fun _ _ _ _ _ => rfl) (fun j hj => by rw [u2_row _ _ _ (by omega)]; exact e18 j hj) e3 (fun b x => u2_row _ _ _ (by omega)) (fun b j _ _ x => u b j x) (fun j _ _ _ _ => by rw [u2_row _ _ _ (by omega)]) (by rw [u2_row _ _ _ (by omega)]; exact e4) (by rw [u2_row _ _ _ (by omega)]; exact e12) (Nat.le_refl _) (Nat.le_refl _) (fun _ y z => absurd z (by omega)) (fun _ y z => absurd z (by omega)) (fun _ _ y z => absurd z (by omega)) (fun _ y z => absurd z (by omega)) ⟨fun y => ⟨y, fun _ y z => absurd z (by omega)⟩, fun y => y.1⟩ (by omega) (fun k x y => absurd y (by omega)) e21 e22 e24
end PXS
