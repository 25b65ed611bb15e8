/-! READING: between two statements; one more of the simple ones. -/
def BSc (T : TT) (s s' : Sg) : Prop := SFc s s' ∧ ∃ a, CU T s' a
def BSm (s s' : Sg) : Prop := SFm s s' ∧ 0 < s' 84 6
/-- what holds at every step -/
def PSB (T : TT) (sc0 sm0 sc sm : Sg) (a S P A N K C B w : Nat) : Prop :=
  CC T sc ∧ MC T sm ∧ CU T sc a ∧ sm 84 18 = (a : Int) ∧ sm 84 6 = 0 ∧ ND T sc sm N K ∧ sc 66 7 = 0 ∧ (∀ k, a ≤ k → k < T.z → FRS T sc sm k) ∧ (∀ k, k < a → LF T sc sm k) ∧ sc 54 6 = (S : Int) ∧ sm 84 31 = (P : Int) ∧ sm 84 34 = (A : Int) ∧ sc 61 4 = (C : Int) ∧ sc 31 8 = (B : Int) ∧ SFc sc0 sc ∧ SFm sm0 sm ∧
  DAT T sc sm S P A N C w ∧ (∀ i, i < S → sc 59 i = sm 102 i) ∧ (∀ k, 1 ≤ k → k < a → PRQ (T.tk (k - 1)) (T.tk k)) ∧ (∀ k, k < a → STT T k) ∧ 4 * (C : Int) ≤ T.fm a ∧ 2 * B ≤ a ∧ P ≤ a ∧ A ≤ a ∧ N ≤ a ∧ K ≤ N ∧ 3 ≤ a ∧ sm 84 30 = (w : Int) ∧ sc 54 7 = mn (T.vl w) ∧ w < T.z ∧ T.tk w = 2
/-- between two statements -/
def PS0 (T : TT) (sc0 sm0 sc sm : Sg) (a S P A N K C w : Nat) : Prop := PSB T sc0 sm0 sc sm a S P A N K C 0 w ∧ sc 70 9 = 0 ∧ sm 84 19 = (S : Int) ∧ 7 * (S : Int) ≤ T.fm a ∧ (CN sc → ∀ id, IDN T id → sc 37 id = 0) ∧ (∀ i, i < S → sc 60 i + sm 103 i = (if i + 1 < S then sc 60 (i + 1) else (N : Int))) ∧ (T.tk (a - 1) = 59 ∨ T.tk (a - 1) = 125) ∧ dpt T a = 0
section PZ0
variable {T : TT} {sc0 sm0 sc sm sc' sm' : Sg} {a a' S P A N K C w : Nat} {kd : Int}
theorem POS.add (h : POS T) {k : Nat} : ∀ j, k + j ≤ T.z → T.fm k + (j : Int) ≤ T.fm (k + j) := by
  intro j
  induction j with
  | zero => intro _; simp
  | succ j ih =>
    intro hj
    have := ih (by omega)
    have h1 := h.1 (k + j) (by omega)
    rw [show k + (j + 1) = k + j + 1 by omega]
    omega
theorem dpt_n {k : Nat} (h1 : T.tk k ≠ 123) (h2 : T.tk k ≠ 125) : dpt T (k + 1) = dpt T k := by
  simp only [dpt]
  rw [if_neg h1, if_neg h2]
  omega
theorem STT.inn {k : Nat} (h : ¬ (17 ≤ T.tk k ∧ T.tk k ≤ 20)) (h1 : T.tk (k - 1) ≠ 59) (h2 : T.tk (k - 1) ≠ 125) : STT T k := ⟨fun y => absurd y h, fun y => by rcases y.2.1 with z | z; exact absurd z h1; exact absurd z h2⟩
/-- a simple statement has been read -/
theorem PS0.simple (hT : TWF T) (hp : POS T) (h : PS0 T sc0 sm0 sc sm a S P A N K C w) (ha : a + 4 ≤ a') (hz : a' ≤ T.z) (t0 : 17 ≤ T.tk a ∧ T.tk a ≤ 20) (t1 : T.tk (a + 1) = 1)
    (r1 : ∀ c, ¬ (c = 30 ∨ c = 36 ∨ c = 39 ∨ 54 ≤ c ∧ c ≤ 60) → sc' c = sc c) (r2 : ∀ j, j ≠ 10 → j ≠ 11 → sc' 39 j = sc 39 j) (r3 : ∀ j, j < 4 ∨ 7 < j → sc' 30 j = sc 30 j) (r4 : sc' 54 6 = ((S + 1 : Nat) : Int)) (r5 : ∀ j, j ≠ 6 → sc' 54 j = sc 54 j) (r6 : ∀ c i, 55 ≤ c → c ≤ 60 → i ≠ S → sc' c i = sc c i) (r7 : sc' 55 S = kd) (r8 : sc' 56 S = ((a + 1 : Nat) : Int)) (r9 : sc' 59 S = 0) (r10 : sc' 60 S = (N : Int)) (r11 : sc' 36 (T.vl (a + 1)).toNat = (S : Int)) (r12 : ∀ i, i ≠ (T.vl (a + 1)).toNat → sc' 36 i = sc 36 i) (hu : CU T sc' a')
    (m1 : ∀ c, ¬ (c = 84 ∨ 94 ≤ c ∧ c ≤ 103) → sm' c = sm c) (m2 : ∀ c i, 94 ≤ c → c ≤ 103 → i ≠ S → sm' c i = sm c i) (m3 : ∀ j, j ≠ 18 → j ≠ 19 → j ≠ 46 → sm' 84 j = sm 84 j) (m4 : sm' 84 18 = (a' : Int)) (m5 : sm' 84 19 = ((S + 1 : Nat) : Int)) (m6 : sm' 94 S = kd) (m7 : sm' 95 S = ((a + 1 : Nat) : Int)) (m8 : sm' 98 S = (P : Int)) (m9 : sm' 99 S = 0) (m10 : sm' 102 S = 0) (m11 : sm' 103 S = 0)
    (hk : kd = 0 ∨ kd = 1) (hS : (kd = 0 ∧ SKW T sc' sm' S ∧ ((sm' 96 S = -1 ∧ sc' 58 S = 0) ∨ SKC T sc' sm' S)) ∨ (kd = 1 ∧ SKW T sc' sm' S ∧ SKC T sc' sm' S)) (hcn : CN sc' ↔ CN sc ∧ GST T sc' sm' S)
    (pq : ∀ k, a + 2 ≤ k → k < a' → PRQ (T.tk (k - 1)) (T.tk k) ∧ T.tk k ≠ 123 ∧ T.tk k ≠ 125 ∧ ¬ (17 ≤ T.tk k ∧ T.tk k ≤ 20) ∧ T.tk (k - 1) ≠ 59) (tl : T.tk (a' - 1) = 59) : PS0 T sc0 sm0 sc' sm' a' (S + 1) P A N K C w := by
  obtain ⟨hB, h70, h19, h7, h37, hnc, htl, hdp⟩ := h
  obtain ⟨e1, e2, e3, e4, e5, e6, e7, e8, e9, e10, e11, e12, e13, e14, e15, e16, e17, e18, e19, e20, e21, e22, e23, e24, e25, e26, e27, e28, e29, e30, e31⟩ := hB
  have hv := hT.2.2.2.2.1 (a + 1) (by omega)
  have hvm := hT.2.2.2.2.2.1 (a + 1) (by omega) t1
  have sfc : SFc sc sc' := ⟨fun c x => r1 c (by omega), r2, r3, fun j _ => by rw [r1 31 (by omega)], W8.same (r1 31 (by omega))⟩
  have sfm : SFm sm sm' := ⟨fun c x => m1 c (by omega), fun j x => m3 j (by omega) (by omega) (by omega)⟩
  have rx : RXF sc sm sc' sm' S P A N C := ⟨fun c i x y z => r6 c i x (by omega) (by omega), fun c i x y z => m2 c i x (by omega) (by omega), fun c p x y _ => by rw [m1 c (by omega)], fun c a x y _ => by rw [m1 c (by omega)], fun c j x y _ => by rw [r1 c (by omega)], fun n _ => by rw [r1 48 (by omega)], fun c n x y _ => by rw [m1 c (by omega)], fun c x => r1 c (by omega)⟩
  have pa := hp.add (k := a) (a' - a) (by omega)
  rw [show a + (a' - a) = a' by omega] at pa
  have p4 := hp.2.1 a (by omega) t0.1 t0.2 t1
  have pb := hp.add (k := a + 1) (a' - (a + 1)) (by omega)
  rw [show a + 1 + (a' - (a + 1)) = a' by omega] at pb
  have dd : ∀ j, a + j ≤ a' → dpt T (a + j) = 0 := by
    intro j
    induction j with
    | zero => intro _; exact hdp
    | succ j ih =>
      intro hj
      rw [show a + (j + 1) = a + j + 1 by omega, dpt_n, ih (by omega)]
      · by_cases j0 : j = 0
        · subst j0; rw [Nat.add_zero]; omega
        · by_cases j1 : j = 1
          · subst j1; rw [t1]; decide
          · exact (pq (a + j) (by omega) (by omega)).2.1
      · by_cases j0 : j = 0
        · subst j0; rw [Nat.add_zero]; omega
        · by_cases j1 : j = 1
          · subst j1; rw [t1]; decide
          · exact (pq (a + j) (by omega) (by omega)).2.2.1
  have srl : SRL T sc' sm' P N S := by
    refine ⟨a + 1, P, 0, N, r8, m7, by omega, t1, by rw [r7, m6], m8, m9, Nat.le_refl _, r10, Nat.le_refl _, ?_⟩
    rw [m6]
    rcases hS with ⟨y1, y2, y3⟩ | ⟨y1, y2, y3⟩
    · exact Or.inl ⟨y1, rfl, y2, y3⟩
    · exact Or.inr (Or.inl ⟨y1, rfl, y2, y3⟩)
  have owr : OWR T sc' sm' (S + 1) := by
    intro id hid
    by_cases e : id = (T.vl (a + 1)).toNat
    · right
      refine ⟨S, by omega, by rw [e]; exact r11, ?_⟩
      rw [m7, Int.toNat_natCast, e]
      omega
    · rw [r12 id e]
      rcases e17.2.2.2.2.2.1 id hid with ⟨y1, y2⟩ | ⟨i, y1, y2, y3⟩
      · left
        refine ⟨y1, fun i hi => ?_⟩
        by_cases e2 : i = S
        · rw [e2, m7, Int.toNat_natCast]
          omega
        · rw [m2 95 i (by decide) (by decide) e2]
          exact y2 i (by omega)
      · right
        exact ⟨i, by omega, y2, by rw [m2 95 i (by decide) (by decide) (by omega)]; exact y3⟩
  have dat : DAT T sc' sm' (S + 1) P A N C w := by
    refine e17.ext rx (by omega) (Nat.le_refl _) (Nat.le_refl _) (Nat.le_refl _) (Nat.le_refl _) (fun i y z => by rw [show i = S by omega]; exact srl) (fun _ y z => absurd z (by omega)) (fun _ y z => absurd z (by omega)) (fun _ _ y z => absurd z (by omega)) (fun _ y z => absurd z (by omega)) (fun s y z u => ?_) (fun _ y z => absurd z (by omega)) (fun _ _ y z => absurd z (by omega)) owr ⟨by omega, fun i y z => by rw [show i = S by omega]; exact r10, fun _ y z => absurd z (by omega), fun i y z u => by rw [show i = S by omega, m6] at u; omega, fun y => absurd y (by omega)⟩ (CLE.same _ (by rw [e4, m4]; omega)) ⟨fun i y z => by rw [show i = S by omega, m7, e4]; omega, fun i y z u => by rw [show i = S by omega, m6] at u; omega⟩ ?_
    · rw [show s = S by omega, m6] at u
      omega
    · rw [hcn]
      exact ⟨fun y => ⟨y.1, fun i z1 z2 => by rw [show i = S by omega]; exact y.2, fun _ y z => absurd z (by omega), fun _ y z => absurd z (by omega)⟩, fun y => ⟨y.1, y.2.1 S (Nat.le_refl _) (by omega)⟩⟩
  refine ⟨⟨sfc.cc e1, sfm.mc e2, hu, m4, by rw [m3 6 (by decide) (by decide) (by decide)]; exact e5, ?_, by rw [r1 66 (by omega)]; exact e7, ?_, ?_, r4, by rw [m3 31 (by decide) (by decide) (by decide)]; exact e11, by rw [m3 34 (by decide) (by decide) (by decide)]; exact e12, by rw [r1 61 (by omega)]; exact e13, by rw [r1 31 (by omega)]; exact e14, e15.trans sfc, e16.trans sfm, dat, ?_, ?_, ?_, by omega, by omega, by omega, by omega, by omega, e26, by omega, by rw [m3 30 (by decide) (by decide) (by decide)]; exact e28, by rw [r5 7 (by decide)]; exact e29, e30, e31⟩, by rw [r1 70 (by omega)]; exact h70, m5, by omega, ?_, ?_, Or.inl tl, ?_⟩
  · exact e6.congr (by rw [r1 46 (by omega)]) (m3 47 (by decide) (by decide) (by decide)) (m3 57 (by decide) (by decide) (by decide)) (fun c n x y _ => by rw [r1 c (by omega)]) (fun c n x y _ => by rw [m1 c (by omega)]) (fun j _ => by rw [m1 125 (by omega)])
  · intro k x y
    obtain ⟨f1, f2, f3, f4⟩ := e8 k (by omega) y
    exact ⟨by rw [r1 45 (by omega)]; exact f1, by rw [m1 91 (by omega)]; exact f2, by rw [m1 92 (by omega)]; exact f3, by rw [m1 93 (by omega)]; exact f4⟩
  · intro k x
    have : LF T sc sm k := by
      by_cases e : k < a
      · exact e9 k e
      · exact (e8 k (by omega) (by omega)).lf
    exact this.congr (by rw [r1 45 (by omega)]) (by rw [m1 91 (by omega)]) (by rw [m1 92 (by omega)]) (by rw [m1 93 (by omega)])
  · intro i hi
    by_cases e : i = S
    · subst e; rw [r9, m10]
    · rw [r6 59 i (by decide) (by decide) e, m2 102 i (by decide) (by decide) e]
      exact e18 i (by omega)
  · intro k x y
    by_cases c1 : k < a
    · exact e19 k x c1
    · by_cases c2 : k = a
      · subst c2
        exact Or.inr (Or.inr (Or.inr (Or.inl ⟨htl, t0⟩)))
      · by_cases c3 : k = a + 1
        · subst c3
          rw [show a + 1 - 1 = a by omega]
          exact Or.inr (Or.inr (Or.inr (Or.inr (Or.inl ⟨t0.1, t0.2, t1⟩))))
        · exact (pq k (by omega) y).1
  · intro k x
    by_cases c1 : k < a
    · exact e20 k c1
    · by_cases c2 : k = a
      · subst c2
        exact ⟨fun _ => ⟨by omega, htl, hdp⟩, fun _ => t0⟩
      · by_cases c3 : k = a + 1
        · subst c3
          exact STT.inn (by rw [t1]; decide) (by rw [show a + 1 - 1 = a by omega]; omega) (by rw [show a + 1 - 1 = a by omega]; omega)
        · have q := pq k (by omega) x
          refine STT.inn q.2.2.2.1 q.2.2.2.2 ?_
          by_cases c4 : k = a + 2
          · subst c4
            rw [show a + 2 - 1 = a + 1 by omega, t1]; decide
          · exact (pq (k - 1) (by omega) (by omega)).2.2.1
  · intro cn id hid
    rw [r1 37 (by omega)]
    exact h37 (hcn.mp cn).1 id hid
  · intro i hi
    by_cases e : i = S
    · subst e
      rw [r10, m11, if_neg (by omega)]
      omega
    · rw [r6 60 i (by decide) (by decide) e, m2 103 i (by decide) (by decide) e, hnc i (by omega), if_pos (show i + 1 < S + 1 by omega)]
      by_cases e2 : i + 1 = S
      · rw [if_neg (by omega), e2, r10]
      · rw [if_pos (by omega), r6 60 (i + 1) (by decide) (by decide) e2]
  · have := dd (a' - a) (by omega)
    rw [show a + (a' - a) = a' by omega] at this
    exact this
end PZ0
