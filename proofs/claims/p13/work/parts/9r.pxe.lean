/-! INSIDE a statement: an expression has been read. -/
section PXE
variable {T : TT} {sc0 sm0 sc sm sc' sm' : Sg} {a a' S P A Q N N' K K' C B w s np : Nat}
theorem TPOST.bnd (h : TPOST T sc sm (s : Int) a N K sc' sm' a' N' K') {r : Int} (b : BND T sc sm s r B np) : BND T sc' sm' s r B np := by
  obtain ⟨p1, p2, p3, p4, p5, p6, p7, p8, p9, p10, p11, -⟩ := h
  exact b.rows (A := 8200) (by rw [p10.1 31 (by decide)]) (p10.1 38 (by decide)) (p10.1 37 (by decide)) (by rw [p11.1 98 (by decide)]) (by rw [p11.1 99 (by decide)]) (p11.1 104 (by decide)) (p11.1 105 (by decide)) (fun i _ => ⟨by rw [p11.1 107 (by decide)], by rw [p11.1 113 (by decide)]⟩) (rst_r _ _ b.2.2.2.2.2.2.2)
theorem TPOST.nd (hT : TWF T) (h : TPOST T sc sm (s : Int) a N K sc' sm' a' N' K') {n : Nat} (h1 : N ≤ n) (h2 : n < N') : sm' 123 n = (s : Int) ∧ sm' 124 n = sm 84 46 ∧ (1 ≤ sm' 116 n → sm' 116 n ≤ 3 → ∃ x : Nat, sm' 118 n = (x : Int) ∧ x < T.z ∧ T.tk x = 1 ∧ sc' 48 n = sc' 37 (T.vl x).toNat) := by
  obtain ⟨-, -, -, -, -, nd, -, -, xf, ec, ef, -, -, sg, -, -, -, -, -, -, -⟩ := h
  have sn := sg.2.2.2.2.1 n h1 h2
  refine ⟨sn.1, sn.2.1, fun y z => ?_⟩
  obtain ⟨c, q, -, -, -, -, -, -, -, -, -, -, -, -, nv⟩ := nd.2.2.2 n h2
  obtain ⟨x, x1, x2, x3, x4, x5⟩ := nv.2.2.2.1 y z
  have e := sn.2.2 y z
  rw [x1, Int.toNat_natCast] at e
  exact ⟨x, x1, x3, x4, e⟩
theorem TPOST.nev (hT : TWF T) (h : TPOST T sc sm (s : Int) a N K sc' sm' a' N' K') (b : BND T sc sm s (sm 84 46) B np) {n : Nat} (h1 : N ≤ n) (h2 : n < N') : NEV T sc' sm' n := by
  obtain ⟨n1, n2, n3⟩ := h.nd hT h1 h2
  have bn := h.bnd b
  intro y z
  obtain ⟨x, x1, x2, x3, x4⟩ := n3 y z
  have v1 := hT.2.2.2.2.1 x x2
  have v2 := hT.2.2.2.2.2.1 x x2 x3
  have vi : (((T.vl x).toNat : Nat) : Int) = T.vl x := by omega
  have o := bn.own (i := (T.vl x).toNat) (IDN.at hT x2 x3)
  rw [vi] at o
  rw [n1, n2, x1, Int.toNat_natCast, Int.toNat_natCast, x4]
  refine ⟨o, fun u => ?_⟩
  have := bn.oww (i := (T.vl x).toNat) (IDN.at hT x2 x3) u
  rw [vi] at this
  exact this
theorem TPOST.gno (hT : TWF T) (h : TPOST T sc sm (s : Int) a N K sc' sm' a' N' K') (b : BND T sc sm s (sm 84 46) B np) {n : Nat} (h1 : N ≤ n) (h2 : n < N') : NOK T (sc 37) sm' n ↔ GNO T sm' n := by
  obtain ⟨n1, n2, n3⟩ := h.nd hT h1 h2
  have bn := h.bnd b
  have r37 : sc' 37 = sc 37 := h.2.2.2.2.2.2.2.2.2.1.1 37 (by decide)
  unfold NOK GNO
  rw [n1, n2, Int.toNat_natCast, ← r37]
  have key : sm' 116 n = 2 ∨ sm' 116 n = 3 → (sc' 37 (T.vl (sm' 118 n).toNat).toNat = 0 ↔ ¬ OWN T sm' s (sm 84 46) (T.vl (sm' 118 n).toNat)) := by
    intro y
    obtain ⟨x, x1, x2, x3, x4⟩ := n3 (by omega) (by omega)
    have v1 := hT.2.2.2.2.1 x x2
    have v2 := hT.2.2.2.2.2.1 x x2 x3
    have vi : (((T.vl x).toNat : Nat) : Int) = T.vl x := by omega
    have o := bn.own (i := (T.vl x).toNat) (IDN.at hT x2 x3)
    rw [vi] at o
    rw [x1, Int.toNat_natCast, ← o]
    exact ⟨fun u v => v u, fun u => Decidable.byContradiction u⟩
  exact ⟨fun ⟨p1, p2, p3, p4⟩ => ⟨p1, p2, p3, fun y => (key y).mp (p4 y)⟩, fun ⟨p1, p2, p3, p4⟩ => ⟨p1, p2, p3, fun y => (key y).mpr (p4 y)⟩⟩
theorem PXB.post (hT : TWF T) (hp : POS T) (h : PXB T sc0 sm0 sc sm a S P A Q N K C B w) (hs : s < S) (h94 : s + 1 = S ∧ sm 94 s = 3) (hr : -1 ≤ sm 84 46 ∧ sm 84 46 < (A : Int) ∧ (0 ≤ sm 84 46 → sm 106 (sm 84 46).toNat = 2)) (hb : CN sc → BND T sc sm s (sm 84 46) B np) (ht : T.tk (a - 1) ∈ opA) (tp : TPOST T sc sm (s : Int) a N K sc' sm' a' N' K') : PXB T sc0 sm0 sc' sm' a' S P A Q N' K' C B w := by
  have gno := fun (cn : CN sc) (n : Nat) (y : N ≤ n) (z : n < N') => tp.gno hT (hb cn) y z
  have nev := fun (cn : CN sc) (n : Nat) (y : N ≤ n) (z : n < N') => tp.nev hT (hb cn) y z
  have nds := fun (n : Nat) (y : N ≤ n) (z : n < N') => tp.nd hT y z
  obtain ⟨e1, e2, e3, e4, e5, e6, e7, e8, e9, e10, e11, e12, e13, e14, e15, e16, e17, e18, e19, e20, e21, e22, e23, e24, e25, e26, e27, e28, e29, e30, e31⟩ := h
  obtain ⟨p1, p2, p3, p4, p5, p6, p7, p8, p9, p10, p11, p12, p13, p14, p15, p16, p17, p18, p19, p20, p21⟩ := tp
  have hz := p3.2.2
  have pz := hp.add (k := a) (a' - a) (by omega)
  rw [show a + (a' - a) = a' by omega] at pz
  have hsg := p14.2.2.1
  have rx : RXF sc sm sc' sm' S P A N C := ⟨fun c i x y z => by rw [p10.1 c (by omega)], fun c i x y z => by rw [p11.1 c (by omega)], fun c p x y _ => by rw [p11.1 c (by omega)], fun c i x y z => by rw [p11.1 c (by omega)], fun c i x y z => by rw [p10.1 c (by omega)], fun n x => p9.2.1 48 n (by decide) (by decide) x, p9.2.2.1, fun c x => p10.1 c (by omega)⟩
  have owr : OWR T sc' sm' S := by
    intro id hid
    rw [p10.1 36 (by decide), p11.1 95 (by decide)]
    exact e17.2.2.2.2.2.1 id hid
  have dat : DAT T sc' sm' S P A N' C w := by
    refine e17.ext rx (Nat.le_refl _) (Nat.le_refl _) (Nat.le_refl _) (by omega) (Nat.le_refl _) (fun _ y z => absurd z (by omega)) (fun _ y z => absurd z (by omega)) (fun _ y z => absurd z (by omega)) (fun _ _ y z => absurd z (by omega)) (fun _ y z => absurd z (by omega)) (fun _ y z => absurd z (by omega)) (fun n y z => ?_) (fun cn n y z => nev (p12.mp cn).1 n y z) owr ⟨by omega, fun _ y z => absurd z (by omega), fun _ y z => absurd z (by omega), fun _ y z => absurd z (by omega), fun _ _ i y => by rw [p11.1 94 (by decide), show i = s by omega, h94.2]; decide⟩ ⟨by rw [e4, p4]; omega, fun m u v z => by
        obtain ⟨k, k1, k2, k3, -⟩ := p14.2.2.2.2.2.1 m u v z
        rw [e4, p4, k3]
        omega, p14.2.2.2.2.2.2.2.1⟩ (LOE.same _ _ _ _) ?_
    · obtain ⟨n1, n2, -⟩ := nds n y z
      obtain ⟨_, _, _, n0, _, _, _, _, _, _, _, _, s60, sN, _⟩ := e17.1 s hs
      exact ⟨s, n1, hs, by rw [n2]; exact hr.1, by rw [n2]; exact hr.2.1, by rw [n2, p11.1 106 (by decide)]; exact hr.2.2, by rw [p10.1 60 (by decide), s60]; omega, fun s' u v => absurd v (by omega)⟩
    · rw [p12]
      exact ⟨fun y => ⟨y.1, fun _ y z => absurd z (by omega), fun _ y z => absurd z (by omega), fun n u v => (gno y.1 n u v).mp (y.2 n u v)⟩, fun y => ⟨y.1, fun n u v => (gno y.1 n u v).mpr (y.2.2.2 n u v)⟩⟩
  have px := p14.2.2.2.2.2.2.2.2.1
  have oA : T.tk (a - 1) ≠ 59 ∧ T.tk (a - 1) ≠ 125 := by
    simp [opA] at ht
    omega
  refine ⟨p1, p2, p3, p4, p5, p6, p7, p8, ?_, by rw [p10.1 54 (by decide)]; exact e10, by rw [p11.2 31 (by decide)]; exact e11, by rw [p11.2 34 (by decide)]; exact e12, by rw [p10.1 61 (by decide)]; exact e13, by rw [p10.1 31 (by decide)]; exact e14, e15.trans p10.sf, e16.trans p11.sf, dat, ?_, ?_, ?_, by omega, by omega, by omega, by omega, by omega, p17, by omega, by rw [p11.2 30 (by decide)]; exact e28, by rw [p10.1 54 (by decide)]; exact e29, e30, e31⟩
  · intro k x
    by_cases c : k < a
    · obtain ⟨q1, q2, q3⟩ := p9.1 k (Or.inl c)
      exact (e9 k c).congr q1 q2 q3 (by rw [p11.1 93 (by decide)])
    · exact p13 k (by omega) x
  · intro i hi
    rw [p10.1 59 (by decide), p11.1 102 (by decide)]
    exact e18 i hi
  · intro k x y
    by_cases c1 : k < a
    · exact e19 k x c1
    · exact Or.inl (px k (by omega) y)
  · intro k x
    by_cases c1 : k < a
    · exact e20 k c1
    · have q := (px k (by omega) x).q
      by_cases c2 : k = a
      · subst c2
        exact STT.inn q.2.2.2 oA.1 oA.2
      · have q' := (px (k - 1) (by omega) (by omega)).q
        exact STT.inn q.2.2.2 q'.1 q'.2.2.1
/-- an expression of an action, on both sides -/
theorem PXB.expr {d : Nat} (hT : TWF T) (hp : POS T) (h : PXB T sc0 sm0 sc sm a S P A Q N K C B w) (hs : s < S) (h94 : s + 1 = S ∧ sm 94 s = 3) (hr : -1 ≤ sm 84 46 ∧ sm 84 46 < (A : Int) ∧ (0 ≤ sm 84 46 → sm 106 (sm 84 46).toNat = 2)) (hb : CN sc → BND T sc sm s (sm 84 46) B np) (ht : T.tk (a - 1) ∈ opA) (hd : d ≤ 80) :
    (∃ (sc' sm' : Sg) (a' N' K' : Nat), f_45 100 (d : Int) sc = some (.inl sc') ∧ f_257 (s : Int) (d : Int) sm = some ((N' : Int) - 1, sm') ∧ TPOST T sc sm (s : Int) a N K sc' sm' a' N' K' ∧ PXB T sc0 sm0 sc' sm' a' S P A Q N' K' C B w) ∨
    (∃ (sc' mF : Sg) (a' : Nat), f_45 100 (d : Int) sc = some (.inl sc') ∧ EFc sc sc' ∧ CU T sc' a' ∧ (T.tk a' = 60 ∨ T.tk a' = 128 ∨ T.tk a' = 129) ∧ f_257 (s : Int) (d : Int) sm = some (0, mF) ∧ EFt sm mF ∧ 0 < mF 84 6) ∨
    (∃ (x : Nat) (sc' mF : Sg), f_45 100 (d : Int) sc = some (.inr (x, sc')) ∧ (x = 14 ∨ x = 15) ∧ BDc T sc sc' ∧ f_257 (s : Int) (d : Int) sm = some (0, mF) ∧ EFt sm mF ∧ 0 < mF 84 6) := by
  obtain ⟨e1, e2, e3, e4, e5, e6, e7, e8, e9, e10, e11, e12, e13, e14, e15, e16, e17, e18, e19, e20, e21, e22, e23, e24, e25, e26, e27, e28, e29, e30, e31⟩ := id h
  rcases top_sim (d := d) hT ⟨e1, e2, e3, e4, e5, e6, e7, e8, e25, e26, by omega, ht⟩ hd (s : Int) with ⟨sc', sm', a', N', K', h1, h2, h3⟩ | h1
  · rcases h3 with h3 | ⟨h3, mF, h4, h5, h6⟩
    · exact Or.inl ⟨sc', sm', a', N', K', h1, h3, h2, h.post hT hp hs h94 hr hb ht h2⟩
    · obtain ⟨p1, p2, p3, p4, p5, p6, p7, p8, p9, p10, -⟩ := h2
      exact Or.inr (Or.inl ⟨sc', mF, a', h1, p10, p3, h3, h4, h5, h6⟩)
  · exact Or.inr (Or.inr h1)
end PXE
