/-! A HELPER: what is bound in it; when it is a good one. -/
section HBN
variable {T : TT} {sc0 sm0 sc sm s1 scp mp sc2 sc3 m3 sc4 : Sg} {a S P A N K C w J b a' N' K' : Nat}
theorem HRN.par (h : HRN T sc sm a S P N K C J b a' N' K' s1 scp mp sc2 sc3 m3 sc4) : (HMm m3 S N a' N' 104 = mp 104 ∧ HMm m3 S N a' N' 105 = mp 105) ∧ ∀ i, i < J → HMm m3 S N a' N' 104 (P + i) = ((a + 1 + 2 + 3 * i : Nat) : Int) ∧ HMm m3 S N a' N' 105 (P + i) = ((a + 1 + 3 + 3 * i : Nat) : Int) ∧ a + 1 + 3 + 3 * i < T.z ∧ T.tk (a + 1 + 2 + 3 * i) = 1 ∧ T.tk (a + 1 + 3 + 3 * i) = 2 := by
  obtain ⟨t1, t2, hd, hcn, pl, hb, hk, t3, t4, t5, t6, hw, tp, he, cu⟩ := h
  obtain ⟨-, -, -, -, -, -, -, k1, k2, k3, k4, k5, k6, g1, -, -⟩ := pl
  obtain ⟨-, -, -, -, f6, -, -, -, xf, -, ef, -, -, -, -, -, -, -, -, -, -⟩ := tp
  have x4 : HMm m3 S N a' N' 104 = mp 104 := by rw [HMm_row (by decide), ef.1 104 (by decide), HWm_row (by decide)]
  have x5 : HMm m3 S N a' N' 105 = mp 105 := by rw [HMm_row (by decide), ef.1 105 (by decide), HWm_row (by decide)]
  refine ⟨⟨x4, x5⟩, fun i hi => ?_⟩
  rw [x4, x5]
  exact g1 i hi
theorem HRN.bnd (hT : TWF T) (h : HRN T sc sm a S P N K C J b a' N' K' s1 scp mp sc2 sc3 m3 sc4) (cn : CN scp) : BND T sc3 (HMm m3 S N a' N') S (-1) J J := by
  obtain ⟨⟨x4, x5⟩, hpar⟩ := h.par
  obtain ⟨m1, m2, m3', m4, m5, m6, m7, m8, m9, m10, m11, m12, -⟩ := h.hmf
  obtain ⟨t1, t2, hd, hcn, pl, hb, hk, t3, t4, t5, t6, hw, tp, he, cu⟩ := h
  obtain ⟨y1, y2, y3, y4, y5, y6, y7, k1, k2, k3, k4, k5, k6, g1, g2, g3⟩ := pl
  obtain ⟨-, -, -, -, f6, -, -, -, xf, ec, ef, -, -, -, -, -, -, -, -, -, -⟩ := tp
  obtain ⟨w1, w2, w3, w4, w5, w6⟩ := hw
  have r31 : sc3 31 = scp 31 := by rw [ec.1 31 (by decide), w3 31 (by decide)]
  have r37 : sc3 37 = scp 37 := by rw [ec.1 37 (by decide), w3 37 (by decide)]
  have r38 : sc3 38 = scp 38 := by rw [ec.1 38 (by decide), w3 38 (by decide)]
  obtain ⟨h1, h2, h3⟩ := g3 cn
  have gp := (g2.mp cn).2
  have nm : ∀ i, i < J → 0 ≤ T.vl (a + 1 + 2 + 3 * i) ∧ T.vl (a + 1 + 2 + 3 * i) < (T.m : Int) := fun i hi => by
    obtain ⟨p1, p2, p3, p4, p5⟩ := g1 i hi
    exact ⟨(hT.2.2.2.2.1 _ (by omega)).1, hT.2.2.2.2.2.1 _ (by omega) p4⟩
  have i1 : ∀ v : Int, (if mn v < 1 then 1 else mn v) ≠ 0 := fun v => by split <;> omega
  unfold BND
  rw [r31, r37, r38, m11, m12, Int.toNat_natCast, Int.toNat_natCast, Nat.sub_self]
  refine ⟨y6, Nat.le_refl _, ?_, ?_, ?_, ?_, ?_, rfl⟩
  · intro i hi
    obtain ⟨n1, n2⟩ := nm i hi
    refine ⟨(T.vl (a + 1 + 2 + 3 * i)).toNat, by rw [h1 i hi]; omega, by omega, ?_⟩
    rw [h2 i hi]
    exact i1 _
  · intro i j hi hj e
    rw [h1 i hi, h1 j hj] at e
    have key : ∀ u v : Nat, u < v → v < J → T.vl (a + 1 + 2 + 3 * u) = T.vl (a + 1 + 2 + 3 * v) → False := by
      intro u v huv hv e
      have gv := (gp (P + v) (by omega) (by omega)).2.2 (P + u) (by omega) (by omega)
      rw [(g1 v hv).1, (g1 u (by omega)).1, Int.toNat_natCast, Int.toNat_natCast] at gv
      exact gv (by omega) (by omega) e.symm
    by_cases c1 : i < j
    · exact (key i j c1 hj e).elim
    · by_cases c2 : j < i
      · exact (key j i c2 hi e.symm).elim
      · omega
  · intro id hid z
    obtain ⟨i, z1, z2⟩ := h3 id hid z
    exact ⟨i, z1, by rw [h1 i z1]; exact z2⟩
  · intro i hi
    obtain ⟨p1, p2, p3, p4, p5⟩ := hpar i hi
    refine ⟨P + i, by omega, by omega, by rw [p1]; omega, by rw [p1, Int.toNat_natCast, h1 i hi], ?_⟩
    rw [h1 i hi, h2 i hi, p2, Int.toNat_natCast]
  · intro p p1 p2 p3
    refine ⟨p - P, by omega, ?_⟩
    obtain ⟨u1, u2, u3, u4, u5⟩ := hpar (p - P) (by omega)
    rw [show P + (p - P) = p by omega] at u1
    rw [h1 (p - P) (by omega), u1, Int.toNat_natCast]
/-- its nodes -/
theorem HRN.nds (hT : TWF T) (h : HRN T sc sm a S P N K C J b a' N' K' s1 scp mp sc2 sc3 m3 sc4) {n : Nat} (h1 : N ≤ n) (h2 : n < N') : HMm m3 S N a' N' 123 n = (S : Int) ∧ HMm m3 S N a' N' 124 n = -1 ∧ (1 ≤ HMm m3 S N a' N' 116 n → HMm m3 S N a' N' 116 n ≤ 3 → ∃ x : Nat, HMm m3 S N a' N' 118 n = (x : Int) ∧ x < T.z ∧ T.tk x = 1 ∧ sc4 48 n = sc3 37 (T.vl x).toNat) := by
  obtain ⟨t1, t2, hd, hcn, pl, hb, hk, t3, t4, t5, t6, hw, tp, he, cu⟩ := h
  obtain ⟨-, -, -, -, -, nd, -, -, xf, ec, ef, -, -, sg, -, -, -, -, -, -, -⟩ := tp
  obtain ⟨-, -, -, -, -, -, -, k1, k2, k3, k4, k5, k6, g1, g2, g3⟩ := pl
  have r46 : HWm mp S b 84 46 = -1 := by rw [HWm_col (by decide), k2 46 (by decide) (by decide), adv_col (by decide)]; exact HDm_S.1
  rw [r46] at sg
  have sn := sg.2.2.2.2.1 n h1 h2
  rw [HMm_row (show ¬ (123 = 84 ∨ 123 = 100 ∨ 123 = 103) by decide), HMm_row (show ¬ (124 = 84 ∨ 124 = 100 ∨ 124 = 103) by decide), HMm_row (show ¬ (116 = 84 ∨ 116 = 100 ∨ 116 = 103) by decide), HMm_row (show ¬ (118 = 84 ∨ 118 = 100 ∨ 118 = 103) by decide)]
  refine ⟨sn.1, sn.2.1, fun y z => ?_⟩
  obtain ⟨c, q, -, -, -, -, -, -, -, -, -, -, -, -, nv⟩ := nd.2.2.2 n h2
  obtain ⟨x, x1, x2, x3, x4, x5⟩ := nv.2.2.2.1 y z
  have e := sn.2.2 y z
  rw [x1, Int.toNat_natCast] at e
  exact ⟨x, x1, x3, x4, by rw [he.2.2.2.2.2.2.2.2.2.1 48 (by decide)]; exact e⟩
theorem HRN.nev (hT : TWF T) (h : HRN T sc sm a S P N K C J b a' N' K' s1 scp mp sc2 sc3 m3 sc4) (cn : CN scp) {n : Nat} (h1 : N ≤ n) (h2 : n < N') : NEV T sc4 (HMm m3 S N a' N') n := by
  obtain ⟨n1, n2, n3⟩ := h.nds hT h1 h2
  have bn := h.bnd hT cn
  intro y z
  obtain ⟨x, x1, x2, x3, x4⟩ := n3 y z
  have v1 := hT.2.2.2.2.1 x x2
  have v2 := hT.2.2.2.2.2.1 x x2 x3
  have vi : (((T.vl x).toNat : Nat) : Int) = T.vl x := by omega
  have o := bn.own (i := (T.vl x).toNat) (IDN.at hT x2 x3)
  rw [vi] at o
  rw [n1, n2, x1, Int.toNat_natCast, Int.toNat_natCast, x4]
  refine ⟨o, fun u => ?_⟩
  have := bn.oww (i := (T.vl x).toNat) (IDN.at hT x2 x3) u
  rw [vi] at this
  exact this
theorem HRN.gno (hT : TWF T) (h : HRN T sc sm a S P N K C J b a' N' K' s1 scp mp sc2 sc3 m3 sc4) (cn : CN scp) {n : Nat} (h1 : N ≤ n) (h2 : n < N') : NOK T (sc2 37) m3 n ↔ GNO T (HMm m3 S N a' N') n := by
  obtain ⟨n1, n2, n3⟩ := h.nds hT h1 h2
  have bn := h.bnd hT cn
  have r37 : sc3 37 = sc2 37 := by
    obtain ⟨t1, t2, hd, hcn, pl, hb, hk, t3, t4, t5, t6, hw, tp, he, cu⟩ := h
    obtain ⟨-, -, -, -, -, nd, -, -, xf, ec, -, -, -, -, -, -, -, -, -, -, -⟩ := tp
    exact ec.1 37 (by decide)
  have e6 : HMm m3 S N a' N' 116 = m3 116 := HMm_row (by decide)
  have e8 : HMm m3 S N a' N' 118 = m3 118 := HMm_row (by decide)
  have e9 : HMm m3 S N a' N' 119 = m3 119 := HMm_row (by decide)
  rw [e6, e8] at n3
  unfold NOK GNO
  rw [e6, e8, e9, n1, n2, Int.toNat_natCast, ← r37]
  have key : m3 116 n = 2 ∨ m3 116 n = 3 → (sc3 37 (T.vl (m3 118 n).toNat).toNat = 0 ↔ ¬ OWN T (HMm m3 S N a' N') S (-1) (T.vl (m3 118 n).toNat)) := by
    intro y
    obtain ⟨x, x1, x2, x3, x4⟩ := n3 (by omega) (by omega)
    have v1 := hT.2.2.2.2.1 x x2
    have v2 := hT.2.2.2.2.2.1 x x2 x3
    have vi : (((T.vl x).toNat : Nat) : Int) = T.vl x := by omega
    have o := bn.own (i := (T.vl x).toNat) (IDN.at hT x2 x3)
    rw [vi] at o
    rw [x1, Int.toNat_natCast, ← o]
    exact ⟨fun u v => v u, fun u => Decidable.byContradiction u⟩
  exact ⟨fun ⟨p1, p2, p3, p4⟩ => ⟨p1, p2, p3, fun y => (key y).mp (p4 y)⟩, fun ⟨p1, p2, p3, p4⟩ => ⟨p1, p2, p3, fun y => (key y).mpr (p4 y)⟩⟩
/-- all is well with it -/
theorem HRN.cn (hT : TWF T) (h : HRN T sc sm a S P N K C J b a' N' K' s1 scp mp sc2 sc3 m3 sc4) (ow : OWR T sc sm S) : (CN sc4 ↔ CN sc ∧ GST T sc4 (HMm m3 S N a' N') S ∧ ∀ n, N ≤ n → n < N' → GNO T (HMm m3 S N a' N') n) ∧ (CN sc4 → CN scp) := by
  obtain ⟨⟨x4, x5⟩, hpar⟩ := h.par
  obtain ⟨m1, m2, m3', m4, m5, m6, m7, m8, m9, m10, m11, m12, -⟩ := h.hmf
  obtain ⟨c1, c2, c3, c4, c5, -⟩ := h.hcf
  have gno := fun (cn : CN scp) (n : Nat) (y : N ≤ n) (z : n < N') => h.gno hT cn y z
  obtain ⟨t1, t2, hd, hcn, pl, hb, hk, t3, t4, t5, t6, hw, tp, he, cu⟩ := h
  obtain ⟨y1, y2, y3, y4, y5, y6, y7, k1, k2, k3, k4, k5, k6, g1, g2, g3⟩ := pl
  obtain ⟨-, -, -, -, f6, -, -, -, xf, ec, ef, nk, -, -, -, -, -, -, la, -, -⟩ := tp
  obtain ⟨w1, w2, w3, w4, w5, w6⟩ := hw
  obtain ⟨q1, q2, q3, q4, q5, q6, q7, q8, q9, q10, q11, q12, q13, q14⟩ := hd
  have z1 : a + 1 < T.z := by
    have := cu.2.2
    omega
  have v1 := hT.2.2.2.2.1 (a + 1) z1
  have v2 := hT.2.2.2.2.2.1 (a + 1) z1 t1
  have a4 : CN sc4 ↔ CN sc3 := by unfold CN; rw [he.2.2.2.2.2.2.2.2.2.1 30 (by decide)]
  have a1 : CN (cur T s1 (a + 3)) ↔ CN s1 := by unfold CN; rw [cur_row (by decide)]
  have gpt : GPT T (cur T s1 (a + 3)) mp P J ↔ GPT T sc4 (HMm m3 S N a' N') P J := by
    unfold GPT BIN
    rw [x4, x5, c1 40 (by decide), c1 42 (by decide), c1 43 (by decide), cur_row (show 40 ≠ 39 by decide), cur_row (show 42 ≠ 39 by decide), cur_row (show 43 ≠ 39 by decide), q12 40 (by decide), q12 42 (by decide), q12 43 (by decide)]
  have dup : sc 36 (T.vl (a + 1)).toNat = -1 ↔ ∀ j, j < S → T.vl (HMm m3 S N a' N' 95 j).toNat ≠ T.vl (HMm m3 S N a' N' 95 S).toNat := by
    rw [m9, Int.toNat_natCast]
    rcases ow (T.vl (a + 1)).toNat (IDN.at hT (x := a + 1) z1 t1) with ⟨u1, u2⟩ | ⟨i, u1, u2, u3⟩
    · refine ⟨fun _ j hj e => u2 j hj ?_, fun _ => u1⟩
      rw [m7 95 j (by decide) (by decide) (by omega)] at e
      omega
    · refine ⟨fun e => absurd e (by omega), fun e => absurd ?_ (e i u1)⟩
      rw [m7 95 i (by decide) (by decide) (by omega)]
      omega
  have gst : GST T sc4 (HMm m3 S N a' N') S ↔ sc 36 (T.vl (a + 1)).toNat = -1 ∧ GPT T (cur T s1 (a + 3)) mp P J ∧ 1 ≤ T.vl (b + 1) ∧ T.vl (b + 1) ≤ 32 := by
    unfold GST
    rw [m8, m10, m11, m12, dup, gpt, Int.toNat_natCast, Int.toNat_natCast, Int.toNat_natCast]
    exact ⟨fun ⟨u1, u2, u3, u4, u5⟩ => ⟨u4, u5, u1 (by decide)⟩, fun ⟨u4, u5, u1⟩ => ⟨fun _ => u1, fun y => absurd y (by decide), fun y => absurd y (by decide), u4, u5⟩⟩
  rw [a4, nk, w6, g2, a1, hcn, gst]
  have mk : CN sc ∧ sc 36 (T.vl (a + 1)).toNat = -1 → GPT T (cur T s1 (a + 3)) mp P J → CN scp := fun u v => g2.mpr ⟨a1.mpr (hcn.mpr u), v⟩
  refine ⟨⟨fun ⟨⟨⟨u1, u2⟩, u3⟩, u4⟩ => ⟨u1.1, ⟨u1.2, u2, u3⟩, fun n y z => (gno (mk u1 u2) n y z).mp (u4 n y z)⟩, fun ⟨u1, ⟨u2, u3, u4⟩, u5⟩ => ⟨⟨⟨⟨u1, u2⟩, u3⟩, u4⟩, fun n y z => (gno (mk ⟨u1, u2⟩ u3) n y z).mpr (u5 n y z)⟩⟩, fun ⟨⟨⟨u1, u2⟩, u3⟩, u4⟩ => ⟨u1, u2⟩⟩
end HBN
