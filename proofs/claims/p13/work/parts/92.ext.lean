/-! READING: what has been read stays; new things come. -/
section DT
variable {T : TT} {sc sm sc' sm' : Sg} {S P A N C w S' P' A' N' C' : Nat} {r id : Int}
theorem DAT.own (h : DAT T sc sm S P A N C w) (x : RXF sc sm sc' sm' S P A N C) {s : Nat} (hs : s < S) (hr : r < (A : Int)) : OWN T sm' s r id ↔ OWN T sm s r id := by
  obtain ⟨hd, p0, pc, n0, b1, b2, b3, b4, b5, b6, b7, b8, b9, b10, b11⟩ := h.1 s hs
  refine OWN.congr (P := P) (fun a ha => ?_) (fun c a y z u => x.2.2.2.1 c a y z u) (fun p hp => x.2.2.1 104 p (by decide) (by decide) hp) b6 b7 b8 (x.2.1 98 s (by decide) (by decide) hs) (x.2.1 99 s (by decide) (by decide) hs) hr
  obtain ⟨s, _, _, _, _, c5, _⟩ := h.2.1 a ha
  exact c5
theorem DAT.oww (h : DAT T sc sm S P A N C w) (x : RXF sc sm sc' sm' S P A N C) {s : Nat} (hs : s < S) (hr : r < (A : Int)) {v : Int} (y : OWW T sm s r id v) : OWW T sm' s r id v := by
  obtain ⟨hd, p0, pc, n0, b1, b2, b3, b4, b5, b6, b7, b8, b9, b10, b11⟩ := h.1 s hs
  unfold OWW at *
  rw [x.2.1 98 s (by decide) (by decide) hs, x.2.1 99 s (by decide) (by decide) hs, b6, b7, Int.toNat_natCast, Int.toNat_natCast]
  rw [b6, b7, Int.toNat_natCast, Int.toNat_natCast] at y
  rcases y with ⟨y1, y2⟩ | ⟨y0, p, y1, y2, y3, y4, y5⟩
  · refine Or.inl ⟨(rin_congr (fun a ha => ?_) (fun c a y z u => x.2.2.2.1 c a y z u) _ _ hr).mpr y1, y2⟩
    obtain ⟨s, _, _, _, _, c5, _⟩ := h.2.1 a ha
    exact c5
  · refine Or.inr ⟨fun z => y0 ((rin_congr (fun a ha => ?_) (fun c a y z u => x.2.2.2.1 c a y z u) _ _ hr).mp z), p, y1, y2, ?_, ?_, ?_⟩
    · obtain ⟨s, _, _, _, _, c5, _⟩ := h.2.1 a ha
      exact c5
    · rw [x.2.2.1 104 p (by decide) (by decide) (by omega)]; exact y3
    · rw [x.2.2.1 104 p (by decide) (by decide) (by omega)]; exact y4
    · rw [x.2.2.1 105 p (by decide) (by decide) (by omega)]; exact y5
theorem BIN.congr {k : Nat} (h : ∀ c, c = 40 ∨ c = 42 ∨ c = 43 → sc' c = sc c) : BIN sc' k ↔ BIN sc k := by
  unfold BIN
  rw [h 40 (by decide), h 42 (by decide), h 43 (by decide)]
theorem DAT.gst (h : DAT T sc sm S P A N C w) (x : RXF sc sm sc' sm' S P A N C) {i : Nat} (hi : i < S) : GST T sc' sm' i ↔ GST T sc sm i := by
  obtain ⟨hd, p0, pc, n0, b1, b2, b3, b4, b5, b6, b7, b8, b9, b10, b11⟩ := h.1 i hi
  obtain ⟨x1, x2, x3, x4, x5, x6, x7, x8⟩ := x
  have key : GPT T sc' sm' p0 pc ↔ GPT T sc sm p0 pc := by
    unfold GPT
    constructor
    · intro y p k1 k2
      have := y p k1 k2
      rw [x3 104 p (by decide) (by decide) (by omega), x3 105 p (by decide) (by decide) (by omega), BIN.congr x8] at this
      refine ⟨this.1, this.2.1, fun q q1 q2 => ?_⟩
      have := this.2.2 q q1 q2
      rw [x3 104 q (by decide) (by decide) (by omega)] at this
      exact this
    · intro y p k1 k2
      have := y p k1 k2
      rw [x3 104 p (by decide) (by decide) (by omega), x3 105 p (by decide) (by decide) (by omega), BIN.congr x8]
      refine ⟨this.1, this.2.1, fun q q1 q2 => ?_⟩
      rw [x3 104 q (by decide) (by decide) (by omega)]
      exact this.2.2 q q1 q2
  unfold GST
  rw [x2 94 i (by decide) (by decide) hi, x2 97 i (by decide) (by decide) hi, x2 96 i (by decide) (by decide) hi, x2 95 i (by decide) (by decide) hi, x2 98 i (by decide) (by decide) hi, x2 99 i (by decide) (by decide) hi, b6, b7, Int.toNat_natCast, Int.toNat_natCast, key]
  constructor
  · intro ⟨y1, y2, y3, y4, y5⟩
    exact ⟨y1, y2, y3, fun j hj => by have := y4 j hj; rw [x2 95 j (by decide) (by decide) (by omega)] at this; exact this, y5⟩
  · intro ⟨y1, y2, y3, y4, y5⟩
    exact ⟨y1, y2, y3, fun j hj => by rw [x2 95 j (by decide) (by decide) (by omega)]; exact y4 j hj, y5⟩
theorem DAT.gac (h : DAT T sc sm S P A N C w) (x : RXF sc sm sc' sm' S P A N C) {a : Nat} (ha : a < A) : GAC T sm' a ↔ GAC T sm a := by
  obtain ⟨s, b1, b2, b3, b4, b5, b6, b7⟩ := h.2.1 a ha
  have r : ∀ c, 106 ≤ c → c ≤ 113 → sm' c a = sm c a := fun c y z => x.2.2.2.1 c a y z ha
  unfold GAC
  rw [r 106 (by decide) (by decide), r 107 (by decide) (by decide), r 108 (by decide) (by decide), r 112 (by decide) (by decide), r 113 (by decide) (by decide), b1, Int.toNat_natCast, h.own x b2 (by omega)]
theorem DAT.gno (h : DAT T sc sm S P A N C w) (x : RXF sc sm sc' sm' S P A N C) {n : Nat} (hn : n < N) : GNO T sm' n ↔ GNO T sm n := by
  obtain ⟨s, b1, b2, b3, b4, -⟩ := h.2.2.2.1 n hn
  have r : ∀ c, 116 ≤ c → c ≤ 124 → sm' c n = sm c n := fun c y z => x.2.2.2.2.2.2.1 c n y z hn
  unfold GNO
  rw [r 116 (by decide) (by decide), r 118 (by decide) (by decide), r 119 (by decide) (by decide), r 123 (by decide) (by decide), r 124 (by decide) (by decide), b1, Int.toNat_natCast, h.own x b2 b4]
theorem DAT.nev (h : DAT T sc sm S P A N C w) (x : RXF sc sm sc' sm' S P A N C) {n : Nat} (hn : n < N) (y : NEV T sc sm n) : NEV T sc' sm' n := by
  obtain ⟨s, b1, b2, b3, b4, -⟩ := h.2.2.2.1 n hn
  have r : ∀ c, 116 ≤ c → c ≤ 124 → sm' c n = sm c n := fun c y z => x.2.2.2.2.2.2.1 c n y z hn
  unfold NEV at *
  rw [r 116 (by decide) (by decide), r 118 (by decide) (by decide), r 123 (by decide) (by decide), r 124 (by decide) (by decide), x.2.2.2.2.2.1 n hn, b1, Int.toNat_natCast, h.own x b2 b4]
  rw [b1, Int.toNat_natCast] at y
  intro k1 k2
  exact ⟨(y k1 k2).1, fun k3 => h.oww x b2 b4 ((y k1 k2).2 k3)⟩
/-- new things come -/
theorem DAT.ext (h : DAT T sc sm S P A N C w) (x : RXF sc sm sc' sm' S P A N C) (hS : S ≤ S') (hP : P ≤ P') (hA : A ≤ A') (hN : N ≤ N') (hC : C ≤ C')
    (nS : ∀ i, S ≤ i → i < S' → SRL T sc' sm' P' N' i) (nA : ∀ a, A ≤ a → a < A' → ARL T sm' S' N' a)
    (nC1 : ∀ c, C ≤ c → c < C' → CLc sc' sm' S' A' c) (nC2 : CN sc' → ∀ a, A ≤ a → a < A' → sm' 106 a = 0 → ∃ c, c < C' ∧ sc' 62 c = sm' 107 a ∧ sc' 63 c = sm' 109 a ∧ sc' 64 c = sm' 110 a ∧ sc' 65 c = 0) (nC3 : ∀ a, A ≤ a → a < A' → sm' 106 a = 1 → ∃ c, c < C' ∧ sc' 62 c = sm' 111 a ∧ sc' 63 c = -1 ∧ sc' 64 c = sm' 110 a ∧ sc' 65 c = 1) (nC4 : ∀ s, S ≤ s → s < S' → sm' 94 s = 2 → ∃ c, c < C' ∧ sc' 62 c = sm' 101 s ∧ sc' 63 c = -1 ∧ sc' 64 c = sm' 100 s ∧ sc' 65 c = (if sc' 57 s < 1 then 1 else sc' 57 s))
    (nN : ∀ n, N ≤ n → n < N' → NOW sc' sm' S' A' n) (nE : CN sc' → ∀ n, N ≤ n → n < N' → NEV T sc' sm' n) (nO : OWR T sc' sm' S') (nX : PHE sc' sm' S S' P P' N N') (nZ : CLE sm sm' N N') (nW : LOE T sm sm' S S')
    (nG : CN sc' ↔ CN sc ∧ (∀ i, S ≤ i → i < S' → GST T sc' sm' i) ∧ (∀ a, A ≤ a → a < A' → GAC T sm' a) ∧ (∀ n, N ≤ n → n < N' → GNO T sm' n)) : DAT T sc' sm' S' P' A' N' C' w := by
  obtain ⟨d1, d2, d3, d4, d5, d6, d7, ⟨d8, d9⟩, ⟨d10, d11⟩, d12⟩ := id h
  obtain ⟨z1, z2, z3⟩ := nZ
  obtain ⟨n1, n2, n3, n4, n5⟩ := nX
  have x0 := x
  obtain ⟨x1, x2, x3, x4, x5, x6, x7, x8⟩ := x
  refine ⟨fun i hi => ?_, fun a ha => ?_, ⟨fun c hc => ?_, fun cn a ha k0 => ?_, fun a ha k1 => ?_, fun s hs k2 => ?_⟩, fun n hn => ?_, fun cn n hn => ?_, nO, ?_, ⟨fun p hp => ?_, fun i hi h2 => ?_⟩, ⟨fun n hn h3 => ?_, fun n m hn hm h3 h4 e => ?_⟩, fun i hi h2 e he => ?_⟩
  · by_cases e : i < S
    · exact (d1 i e).xf x0 e hP hN
    · exact nS i (by omega) hi
  · by_cases e : a < A
    · exact (d2 a e).xf x0 e hS hN
    · exact nA a (by omega) ha
  · by_cases e : c < C
    · have r : ∀ b, 62 ≤ b → b ≤ 65 → sc' b c = sc b c := fun b y z => x5 b c y z e
      unfold CLc
      rw [r 62 (by decide) (by decide), r 63 (by decide) (by decide), r 64 (by decide) (by decide), r 65 (by decide) (by decide)]
      rcases d3.1 c e with ⟨a, k1, k2, k3⟩ | ⟨a, k1, k2, k3⟩ | ⟨s, k1, k2, k3⟩
      · exact Or.inl ⟨a, by omega, by rw [x4 106 a (by decide) (by decide) k1]; exact k2, by rw [x4 107 a (by decide) (by decide) k1, x4 109 a (by decide) (by decide) k1, x4 110 a (by decide) (by decide) k1]; exact k3⟩
      · exact Or.inr (Or.inl ⟨a, by omega, by rw [x4 106 a (by decide) (by decide) k1]; exact k2, by rw [x4 111 a (by decide) (by decide) k1, x4 110 a (by decide) (by decide) k1]; exact k3⟩)
      · exact Or.inr (Or.inr ⟨s, by omega, by rw [x2 94 s (by decide) (by decide) k1]; exact k2, by rw [x2 101 s (by decide) (by decide) k1, x2 100 s (by decide) (by decide) k1, x1 57 s (by decide) (by decide) k1]; exact k3⟩)
    · exact nC1 c (by omega) hc
  · by_cases e : a < A
    · rw [x4 106 a (by decide) (by decide) e] at k0
      obtain ⟨c, c1, c2⟩ := d3.2.1 (nG.mp cn).1 a e k0
      refine ⟨c, by omega, ?_⟩
      rw [x4 107 a (by decide) (by decide) e, x4 109 a (by decide) (by decide) e, x4 110 a (by decide) (by decide) e, x5 62 c (by decide) (by decide) c1, x5 63 c (by decide) (by decide) c1, x5 64 c (by decide) (by decide) c1, x5 65 c (by decide) (by decide) c1]
      exact c2
    · exact nC2 cn a (by omega) ha k0
  · by_cases e : a < A
    · rw [x4 106 a (by decide) (by decide) e] at k1
      obtain ⟨c, c1, c2⟩ := d3.2.2.1 a e k1
      refine ⟨c, by omega, ?_⟩
      rw [x4 111 a (by decide) (by decide) e, x4 110 a (by decide) (by decide) e, x5 62 c (by decide) (by decide) c1, x5 63 c (by decide) (by decide) c1, x5 64 c (by decide) (by decide) c1, x5 65 c (by decide) (by decide) c1]
      exact c2
    · exact nC3 a (by omega) ha k1
  · by_cases e : s < S
    · rw [x2 94 s (by decide) (by decide) e] at k2
      obtain ⟨c, c1, c2⟩ := d3.2.2.2 s e k2
      refine ⟨c, by omega, ?_⟩
      rw [x2 101 s (by decide) (by decide) e, x2 100 s (by decide) (by decide) e, x1 57 s (by decide) (by decide) e, x5 62 c (by decide) (by decide) c1, x5 63 c (by decide) (by decide) c1, x5 64 c (by decide) (by decide) c1, x5 65 c (by decide) (by decide) c1]
      exact c2
    · exact nC4 s (by omega) hs k2
  · by_cases e : n < N
    · obtain ⟨s, k1, k2, k3, k4, k5, k6, k7⟩ := d4 n e
      refine ⟨s, by rw [x7 123 n (by decide) (by decide) e]; exact k1, by omega, by rw [x7 124 n (by decide) (by decide) e]; exact k3, by rw [x7 124 n (by decide) (by decide) e]; omega, ?_, by rw [x1 60 s (by decide) (by decide) k2]; exact k6, fun s' y z => ?_⟩
      · rw [x7 124 n (by decide) (by decide) e]
        intro y
        rw [x4 106 _ (by decide) (by decide) (by omega)]
        exact k5 y
      · by_cases e2 : s' < S
        · rw [x1 60 s' (by decide) (by decide) e2]; exact k7 s' y e2
        · rw [n2 s' (by omega) z]; omega
    · exact nN n (by omega) hn
  · by_cases e : n < N
    · exact h.nev x0 e (d5 (nG.mp cn).1 n e)
    · exact nE cn n (by omega) hn
  · rw [nG, d7]
    unfold GOOD
    constructor
    · intro ⟨⟨y1, y2, y3, y4⟩, y5, y6, y7⟩
      refine ⟨y1, fun i hi => ?_, fun a ha => ?_, fun n hn => ?_⟩
      · by_cases e : i < S
        · exact (h.gst x0 e).mpr (y2 i e)
        · exact y5 i (by omega) hi
      · by_cases e : a < A
        · exact (h.gac x0 e).mpr (y3 a e)
        · exact y6 a (by omega) ha
      · by_cases e : n < N
        · exact (h.gno x0 e).mpr (y4 n e)
        · exact y7 n (by omega) hn
    · intro ⟨y1, y2, y3, y4⟩
      exact ⟨⟨y1, fun i hi => (h.gst x0 hi).mp (y2 i (by omega)), fun a ha => (h.gac x0 ha).mp (y3 a (by omega)), fun n hn => (h.gno x0 hn).mp (y4 n (by omega))⟩, fun i _ hi => y2 i hi, fun a _ ha => y3 a ha, fun n _ hn => y4 n hn⟩
  · by_cases e : p < P
    · obtain ⟨i, k1, k2, k3⟩ := d8 p e
      exact ⟨i, by omega, by rw [x2 98 i (by decide) (by decide) k1]; exact k2, by rw [x2 98 i (by decide) (by decide) k1, x2 99 i (by decide) (by decide) k1]; exact k3⟩
    · exact n3 p (by omega) hp
  · by_cases e : i < S
    · rw [x2 94 i (by decide) (by decide) e] at h2
      obtain ⟨k1, k2⟩ := d9 i e h2
      rw [x2 100 i (by decide) (by decide) e]
      refine ⟨fun y => ?_, fun y => ?_⟩
      · by_cases e2 : i + 1 < S
        · rw [x1 60 (i + 1) (by decide) (by decide) e2]; exact k1 e2
        · rw [n2 (i + 1) (by omega) y]; exact (k2 (by omega)).symm
      · have e3 : S' = S := by omega
        by_cases e4 : N < N'
        · exact absurd (by rw [x2 94 i (by decide) (by decide) e]; exact h2) (n5 e3 e4 i (by omega))
        · rw [show N' = N by omega]; exact k2 (by omega)
    · exact ⟨fun y => absurd y (by omega), fun y => n4 i (by omega) hi h2⟩
  · by_cases e : n < N
    · rw [x7 116 n (by decide) (by decide) e] at h3
      have := d10 n e h3
      rw [x7 118 n (by decide) (by decide) e]
      omega
    · exact (z2 n (by omega) hn h3).2
  · by_cases e1 : n < N
    · rw [x7 116 n (by decide) (by decide) e1] at h3
      rw [x7 118 n (by decide) (by decide) e1] at e
      have b1 := d10 n e1 h3
      by_cases e2 : m < N
      · rw [x7 116 m (by decide) (by decide) e2] at h4
        rw [x7 118 m (by decide) (by decide) e2] at e
        exact d11 n m e1 e2 h3 h4 e
      · have b2 := (z2 m (by omega) hm h4).1
        omega
    · have b1 := (z2 n (by omega) hn h3).1
      by_cases e2 : m < N
      · rw [x7 116 m (by decide) (by decide) e2] at h4
        rw [x7 118 m (by decide) (by decide) e2] at e
        have b2 := d10 m e2 h4
        omega
      · exact z3 n m (by omega) hn (by omega) hm h3 h4 e
  · by_cases e1 : i < S
    · rw [x2 94 i (by decide) (by decide) e1] at h2
      rw [x2 95 i (by decide) (by decide) e1] at he
      obtain ⟨k1, k2⟩ := d12 i e1 h2 e he
      refine ⟨by omega, fun j y z => ?_⟩
      by_cases e2 : j < S
      · rw [x2 95 j (by decide) (by decide) e2]; exact k2 j y e2
      · have := nW.1 j (by omega) z
        omega
    · refine ⟨nW.2 i (by omega) hi h2 e he, fun j y z => ?_⟩
      omega
end DT
