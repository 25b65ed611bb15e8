/-! A HELPER has been read, alike on both sides. -/
section HPS
variable {T : TT} {sc0 sm0 sc sm s1 scp mp sc2 sc3 m3 sc4 : Sg} {a S P A N K C w J b a' N' K' : Nat}
theorem HRN.ps (hT : TWF T) (hp : POS T) (h : PS0 T sc0 sm0 sc sm a S P A N K C w) (t0 : T.tk a = 19) (H : HRN T sc sm a S P N K C J b a' N' K' s1 scp mp sc2 sc3 m3 sc4) : PS0 T sc0 sm0 sc4 (HMm m3 S N a' N') (a' + 1) (S + 1) (P + J) A N' K' (C + 1) w := by
  obtain ⟨hB, h70, h19, h7, h37, hnc, htl, hdp⟩ := h
  obtain ⟨e1, e2, e3, e4, e5, e6, e7, e8, e9, e10, e11, e12, e13, e14, e15, e16, e17, e18, e19, e20, e21, e22, e23, e24, e25, e26, e27, e28, e29, e30, e31⟩ := hB
  obtain ⟨pq, n59, ncl, lb, la, oB⟩ := H.tks
  obtain ⟨c1, c2, c3, c4, c5, c6, c7, c8, c9, c10, c11, c12, c13, c14, c15, c16, c17, c18, c19, c20, c21, c22, c23, c24⟩ := H.hcf
  obtain ⟨d1, d2, d3, d4, d5, d6, d7, d8, d9, d10, d11, d12, d13, d14, d15, d16, d17, d18, d19⟩ := H.hmf
  obtain ⟨hcn, hcp⟩ := H.cn hT e17.2.2.2.2.2.1
  have hpar := H.par.2
  have nds := fun (n : Nat) (y : N ≤ n) (z : n < N') => H.nds hT y z
  have nev := fun (cn : CN scp) (n : Nat) (y : N ≤ n) (z : n < N') => H.nev hT cn y z
  obtain ⟨t1, t2, hd, hcs, pl, hb, hk, t3, t4, t5, t6, hw, tp, he, cu⟩ := H
  obtain ⟨p1, p2, p3, p4, p5, p6, p7, p8, p9, p10, p11, p12, p13, p14, p15, p16, p17, p18, p19, p20, p21⟩ := tp
  obtain ⟨y1, y2, y3, y4, y5, y6, y7, k1, k2, k3, k4, k5, k6, g1, g2, g3⟩ := pl
  obtain ⟨w1, w2, w3, w4, w5, w6⟩ := hw
  obtain ⟨r1, r2, r3, r4, r5, r6, r7, r8, r9, r10, r11, r12, r13⟩ := he
  have hz := cu.2.2
  have v1 := hT.2.2.2.2.1 (a + 1) (by omega)
  have vm := hT.2.2.2.2.2.1 (a + 1) (by omega) t1
  have sfc : SFc sc sc4 := ⟨fun c x => c1 c (by omega), c2, c3, c4, W8.of (B := 0) c5 (by decide)⟩
  have sfm : SFm sm (HMm m3 S N a' N') := ⟨fun c x => d1 c (by omega), fun j x => d2 j (by omega)⟩
  have rx : RXF sc sm sc4 (HMm m3 S N a' N') S P A N C := ⟨fun c i x y z => c8 c i x (by omega) (by omega), fun c i x y z => d7 c i x (by omega) (by omega), fun c p x y z => d17 c p x y z, fun c i x y _ => by rw [d1 c (by omega)], fun c j x y z => c22 c j x y (by omega), fun n z => c23 n z, fun c n x y z => d18 c n x y z, fun c x => c1 c (by omega)⟩
  have pa := hp.2.1 a (by omega) (by omega) (by omega) t1
  have pb := hp.add (k := a + 1) (a' + 1 - (a + 1)) (by omega)
  rw [show a + 1 + (a' + 1 - (a + 1)) = a' + 1 by omega] at pb
  have hN := p14.2.2.1
  have srl : SRL T sc4 (HMm m3 S N a' N') (P + J) N' S := by
    refine ⟨a + 1, P, J, N, c10, d9, by omega, t1, by rw [c9, d8], d11, d12, Nat.le_refl _, c14, by omega, Or.inr (Or.inr (Or.inl ⟨d8, c12, ⟨b + 1, d10, by omega, t4, c11⟩, ?_⟩))⟩
    refine ⟨b + 3, a', N, N', d13, p16, Nat.le_refl _, c14, d14, by omega, by omega, by omega, t6, fun k x y => n59 k x y, fun k x y => ncl k x y, ⟨?_, ?_, ?_, ?_, p14.2.2.2.2.2.2.2.2.2⟩, fun j hj => ?_⟩
    · intro m x y
      exact (nds m x y).1
    · intro m x y z
      rw [HMm_row (by decide)] at z
      obtain ⟨i, i1, i2, i3, i4, i5⟩ := p14.2.2.2.2.2.1 m x y z
      exact ⟨i, i1, i2, by rw [HMm_row (by decide)]; exact i3, i4, i5⟩
    · intro k x y z u
      obtain ⟨m, i1, i2, i3, i4⟩ := p14.2.2.2.2.2.2.1 k x y z u
      exact ⟨m, i1, i2, by rw [HMm_row (by decide)]; exact i3, by rw [HMm_row (by decide)]; exact i4⟩
    · intro m m' x y x' y'
      rw [HMm_row (show ¬ (116 = 84 ∨ 116 = 100 ∨ 116 = 103) by decide), HMm_row (show ¬ (118 = 84 ∨ 118 = 100 ∨ 118 = 103) by decide)]
      exact p14.2.2.2.2.2.2.2.1 m m' x y x' y'
    · exact hpar j hj
  have owr : OWR T sc4 (HMm m3 S N a' N') (S + 1) := by
    intro id hid
    by_cases e : id = (T.vl (a + 1)).toNat
    · right
      refine ⟨S, by omega, by rw [e]; exact c15, ?_⟩
      rw [d9, Int.toNat_natCast, e]
      omega
    · rw [c16 id e]
      rcases e17.2.2.2.2.2.1 id hid with ⟨z1, z2⟩ | ⟨i, z1, z2, z3⟩
      · left
        refine ⟨z1, fun i hi => ?_⟩
        by_cases e2 : i = S
        · rw [e2, d9, Int.toNat_natCast]
          omega
        · rw [d7 95 i (by decide) (by decide) e2]
          exact z2 i (by omega)
      · right
        exact ⟨i, by omega, z2, by rw [d7 95 i (by decide) (by decide) (by omega)]; exact z3⟩
  have clm : sc4 62 C = HMm m3 S N a' N' 101 S ∧ sc4 63 C = -1 ∧ sc4 64 C = HMm m3 S N a' N' 100 S ∧ sc4 65 C = (if sc4 57 S < 1 then 1 else sc4 57 S) := ⟨by rw [c18, d14], c19, by rw [c20, d13], by rw [c21, c11]⟩
  have dat : DAT T sc4 (HMm m3 S N a' N') (S + 1) (P + J) A N' (C + 1) w := by
    refine e17.ext rx (by omega) (by omega) (Nat.le_refl _) (by omega) (by omega) (fun i y z => by rw [show i = S by omega]; exact srl) (fun _ y z => absurd z (by omega)) (fun c y z => ?_) (fun _ _ y z => absurd z (by omega)) (fun _ y z => absurd z (by omega)) (fun s y z u => ?_) (fun n y z => ?_) (fun cn n y z => nev (hcp cn) n y z) owr ⟨by omega, fun i y z => by rw [show i = S by omega]; exact c14, fun p y z => ⟨S, by omega, by rw [d11, Int.toNat_natCast]; exact y, by rw [d11, d12, Int.toNat_natCast, Int.toNat_natCast]; exact z⟩, fun i y z _ => by rw [show i = S by omega, d13]; omega, fun y => absurd y (by omega)⟩ ⟨by rw [e4, d3]; omega, fun m u v z => by
        rw [HMm_row (by decide)] at z
        obtain ⟨k, k1, k2, k3, -⟩ := p14.2.2.2.2.2.1 m u v z
        rw [e4, d3, HMm_row (by decide), k3]
        omega, fun m m' u v u' v' z z' e => by
        rw [HMm_row (by decide)] at z z' e
        exact p14.2.2.2.2.2.2.2.1 m m' u v u' v' z z' e⟩ ⟨fun i y z => by rw [show i = S by omega, d9, e4]; omega, fun i y z _ e he => by
        rw [show i = S by omega, d9, Int.toNat_natCast] at he
        rw [d3]
        have : e ≤ a' := by
          apply Decidable.byContradiction
          intro hn
          exact he.2.2 a' (by omega) (by omega) t6
        omega⟩ ?_
    · rw [show c = C by omega]
      exact Or.inr (Or.inr ⟨S, by omega, d8, clm⟩)
    · rw [show s = S by omega]
      exact ⟨C, by omega, clm⟩
    · obtain ⟨n1, n2, _⟩ := nds n y z
      exact ⟨S, n1, by omega, by rw [n2]; decide, by rw [n2]; omega, fun u => absurd u (by rw [n2]; decide), by rw [c14]; omega, fun s' u v => absurd v (by omega)⟩
    · rw [hcn]
      exact ⟨fun y => ⟨y.1, fun i z1 z2 => by rw [show i = S by omega]; exact y.2.1, fun _ y z => absurd z (by omega), y.2.2⟩, fun y => ⟨y.1, y.2.1 S (Nat.le_refl _) (by omega), y.2.2.2⟩⟩
  have dd : ∀ j, a + j ≤ a' + 1 → dpt T (a + j) = 0 := by
    intro j
    induction j with
    | zero => intro _; exact hdp
    | succ j ih =>
      intro hj
      rw [show a + (j + 1) = a + j + 1 by omega, dpt_n, ih (by omega)]
      · by_cases j0 : j = 0
        · subst j0; rw [Nat.add_zero, t0]; decide
        · by_cases j1 : j = 1
          · subst j1; rw [t1]; decide
          · exact (pq (a + j) (by omega) (by omega)).2.1
      · by_cases j0 : j = 0
        · subst j0; rw [Nat.add_zero, t0]; decide
        · by_cases j1 : j = 1
          · subst j1; rw [t1]; decide
          · exact (pq (a + j) (by omega) (by omega)).2.2.1
  refine ⟨⟨sfc.cc e1, sfm.mc e2, cu, d3, d6, ?_, ?_, ?_, ?_, c6, d5, by rw [d2 34 (by decide)]; exact e12, c17, c5, e15.trans sfc, e16.trans sfm, dat, ?_, ?_, ?_, by omega, by omega, by omega, by omega, by omega, p17, by omega, by rw [d2 30 (by decide)]; exact e28, by rw [c7 7 (by decide)]; exact e29, e30, e31⟩, by rw [c1 70 (by decide)]; exact h70, d4, by omega, ?_, ?_, Or.inl (by rw [show a' + 1 - 1 = a' by omega]; exact t6), ?_⟩
  · exact p6.congr (by rw [r10 46 (by decide)]) (HMm_84 (by decide) (by decide)) (HMm_84 (by decide) (by decide)) (fun c n x y _ => by rw [r10 c (by omega)]) (fun c n x y _ => by rw [HMm_row (by omega)]) (fun j _ => by rw [HMm_row (by decide)])
  · rw [r10 66 (by decide)]; exact p7
  · intro k x y
    obtain ⟨f1, f2, f3, f4⟩ := p8 k (by omega) y
    exact ⟨by rw [r10 45 (by decide)]; exact f1, by rw [HMm_row (by decide)]; exact f2, by rw [HMm_row (by decide)]; exact f3, by rw [HMm_row (by decide)]; exact f4⟩
  · intro k x
    by_cases c : k < b + 3
    · have : LF T sc sm k := by
        by_cases e : k < a
        · exact e9 k e
        · exact (e8 k (by omega) (by omega)).lf
      have dk := d19 k (Or.inl c)
      exact this.congr (c24 k (Or.inl c)) dk.1 dk.2 (by rw [d1 93 (by decide)])
    · have : LF T sc3 m3 k := by
        by_cases e : k < a'
        · exact p13 k (by omega) e
        · exact (p8 k (by omega) (by omega)).lf
      exact this.congr (by rw [r10 45 (by decide)]) (by rw [HMm_row (by decide)]) (by rw [HMm_row (by decide)]) (by rw [HMm_row (by decide)])
  · intro i hi
    by_cases e : i = S
    · subst e; rw [c13, d15]
    · rw [c8 59 i (by decide) (by decide) e, d7 102 i (by decide) (by decide) e]
      exact e18 i (by omega)
  · intro k x y
    by_cases q1 : k < a
    · exact e19 k x q1
    · by_cases q2 : k = a
      · subst q2
        exact Or.inr (Or.inr (Or.inr (Or.inl ⟨htl, by omega, by omega⟩)))
      · by_cases q3 : k = a + 1
        · subst q3
          rw [show a + 1 - 1 = a by omega]
          exact Or.inr (Or.inr (Or.inr (Or.inr (Or.inl ⟨by omega, by omega, t1⟩))))
        · exact (pq k (by omega) (by omega)).1
  · intro k x
    by_cases q1 : k < a
    · exact e20 k q1
    · by_cases q2 : k = a
      · subst q2
        exact ⟨fun _ => ⟨by omega, htl, hdp⟩, fun _ => by omega⟩
      · by_cases q3 : k = a + 1
        · subst q3
          exact STT.inn (by rw [t1]; decide) (by rw [show a + 1 - 1 = a by omega]; omega) (by rw [show a + 1 - 1 = a by omega]; omega)
        · have q := pq k (by omega) (by omega)
          refine STT.inn q.2.2.2 (n59 (k - 1) (by omega) (by omega)) ?_
          by_cases q4 : k = a + 2
          · subst q4
            rw [show a + 2 - 1 = a + 1 by omega, t1]; decide
          · exact (pq (k - 1) (by omega) (by omega)).2.2.1
  · intro cn id hid
    have hid' := hid.lt hT
    have cp := hcp cn
    obtain ⟨i1, i2, i3⟩ := g3 cp
    have r38 : sc3 38 = scp 38 := by rw [p10.1 38 (by decide), w3 38 (by decide)]
    have r37 : sc3 37 = scp 37 := by rw [p10.1 37 (by decide), w3 37 (by decide)]
    by_cases z : scp 37 id = 0
    · by_cases u : ∃ i, i < J ∧ sc3 38 i = (id : Int)
      · obtain ⟨i, u1, u2⟩ := u
        have hm := hT.2.2.2.2.2.2
        have := r12 i u1 (by omega) (by omega)
        rw [u2, Int.toNat_natCast] at this
        exact this
      · rw [r13 id (fun i hi e => u ⟨i, hi, e⟩), r37]
        exact z
    · obtain ⟨i, u1, u2⟩ := i3 id hid z
      have u3 : sc3 38 i = (id : Int) := by rw [r38, i1 i u1]; exact u2
      have hm := hT.2.2.2.2.2.2
      have := r12 i u1 (by omega) (by omega)
      rw [u3, Int.toNat_natCast] at this
      exact this
  · intro i hi
    by_cases e : i = S
    · subst e
      rw [c14, d16, if_neg (by omega)]
      omega
    · rw [c8 60 i (by decide) (by decide) e, d7 103 i (by decide) (by decide) e, hnc i (by omega), if_pos (show i + 1 < S + 1 by omega)]
      by_cases e2 : i + 1 = S
      · rw [if_neg (by omega), e2, c14]
      · rw [if_pos (by omega), c8 60 (i + 1) (by decide) (by decide) e2]
  · have := dd (a' + 1 - a) (by omega)
    rw [show a + (a' + 1 - a) = a' + 1 by omega] at this
    exact this
theorem def_sim (hT : TWF T) (hp : POS T) (h : PS0 T sc0 sm0 sc sm a S P A N K C w) (t0 : T.tk a = 19) :
    (∃ (sc' sm' : Sg) (a' P' N' K' : Nat), f_145 sc = some (.inl sc') ∧ f_233 sm = some sm' ∧ a < a' ∧ PS0 T sc0 sm0 sc' sm' a' (S + 1) P' A N' K' (C + 1) w) ∨ (∃ (x : Nat) (s' mF : Sg), f_145 sc = some (.inr (x, s')) ∧ (x = 14 ∨ x = 15) ∧ BSc T sc s' ∧ f_233 sm = some mF ∧ BSm sm mF) := by
  rcases def_run hT hp h t0 with ⟨s1, scp, mp, sc2, sc3, m3, sc4, J, b, a', N', K', H, h1, h2⟩ | h1
  · left
    have ps := H.ps hT hp h t0
    have h8 := hT.1
    have hz := ps.1.2.2.1.2.2
    have hN : N' ≤ a' + 1 := by
      obtain ⟨⟨e1, e2, e3, e4, e5, e6, e7, e8, e9, e10, e11, e12, e13, e14, e15, e16, e17, e18, e19, e20, e21, e22, e23, e24, e25, -⟩, -⟩ := ps
      exact e25
    obtain ⟨pq, n59, ncl, lb, la, oB⟩ := H.tks
    have hS : S < 4100 := by
      have := ps.2.2.2.1
      have p8 := hp.2.2.2
      have pz := hp.add (k := a' + 1) (T.z - (a' + 1)) (by omega)
      rw [show a' + 1 + (T.z - (a' + 1)) = T.z by omega] at pz
      omega
    exact ⟨sc4, HMm m3 S N a' N', a' + 1, P + J, N', K', h1, by rw [h2]; exact H.end h.2.2.1 hS (by omega), by omega, ps⟩
  · exact Or.inr h1
end HPS
