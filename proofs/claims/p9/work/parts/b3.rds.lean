/-! READING as a whole. -/
section RDS
variable {T : TT} {sc sm s s' x s1 sc0 : Sg} {n m : Nat} {t : Nat → Int}
theorem c4_30n (h : ∀ j : Nat, 1 ≤ j → j ≤ 10 → x 30 j = -1) : j_4_30 x = some (.inl (x 54 6, ax_u2 (ax_u2 x 27 1 0) 27 2 1)) := by
  have e : f_68 (ax_u2 x 27 1 0) = some 0 := c68n (fun j a b => by rw [u2_row _ _ _ (by decide)]; exact h j a b)
  have v : ((if ¬ (0 : Int) = 0 then 0 else 1) : Int) = 1 := if_neg (fun u => u rfl)
  unfold j_4_30
  rw [e, Option.bind_some, v, gd_pos (Or.inr rfl), if_pos (by decide)]
theorem c4_30f {j : Nat} (h1 : 1 ≤ j) (h2 : j ≤ 10) (h3 : x 30 j ≠ -1) : j_4_30 x = some (.inr (15, f_180 (f_113 (f_74 (ax_u2 (ax_u2 x 27 1 0) 27 2 0))))) := by
  obtain ⟨r, e, z⟩ := c68f (s := ax_u2 x 27 1 0) h1 h2 (by rw [u2_row _ _ _ (by decide)]; exact h3)
  have v : ((if ¬ r = 0 then 0 else 1) : Int) = 0 := if_pos z
  unfold j_4_30
  rw [e, Option.bind_some, v, gd_pos (Or.inl rfl), if_neg (fun u => u rfl), Option.bind_some, Option.bind_some, Option.bind_some]
theorem NMI.mk (hK : KO s1) (h8 : s1 31 8 = 0) (cw : CWc s1 sc0 m) (r1 : ∀ c, c < 30 ∨ c = 32 ∨ c = 33 ∨ c = 34 ∨ c = 35 → x c = sc0 c) (r2 : ∀ j, j ≠ 8 → x 31 j = sc0 31 j) (w8 : W8 sc0 x) : NMI x := by
  obtain ⟨w1, w2, w3, w4, w5, w6, w7, -, -, w10, -⟩ := cw
  have rk : ∀ c, c < 30 → x c = s1 c := fun c a => by rw [r1 c (Or.inl a), w10 c (Or.inl a)]
  have b := w8 (by rw [w7, h8]; decide)
  refine ⟨hK.row (rk 1 (by decide)) (rk 2 (by decide)) (rk 3 (by decide)) (rk 4 (by decide)) (rk 5 (by decide)), by rw [r2 9 (by decide)]; exact w5, by rw [r2 10 (by decide)]; exact w6, ⟨(x 31 8).toNat, by omega, by omega⟩, Or.inr ⟨m, w1.congr (r2 7 (by decide)) (r1 32 (by decide)) (r1 33 (by decide)) (r1 34 (by decide)) (r1 35 (by decide)), w2, w3, ?_⟩⟩
  unfold WD
  rw [r1 34 (by decide), r1 35 (by decide)]
  exact w4
/-- what reading leaves alone -/
def RGS (x y : Sg) : Prop := (y 84 6 = 8 → ∃ L : Nat, x 74 13 = (L : Int) ∧ y 84 72 = (L : Int) ∧ ∀ i, i < L → x 81 i = y 134 i) ∧ (y 84 6 ≠ 8 → x 74 13 = 0)
def RFc (s x : Sg) : Prop := (∀ a, a < 30 ∨ 81 < a → x a = s a) ∧ RB x
def RFm (s y : Sg) : Prop := (∀ a, a < 84 ∨ a = 85 ∨ a = 87 ∨ 135 < a → y a = s a) ∧ y 84 0 = 0 ∧ y 84 1 = 0 ∧ y 84 5 = 0 ∧ (∀ j, j = 2 ∨ j = 4 ∨ j = 9 ∨ 72 < j → y 84 j = s 84 j) ∧ RM y
/-- reading: the same number of statements, or a fault on both sides -/
theorem read_sim (hN : NMI sc) (h27 : sc 27 1 = (n : Int)) (hn : n ≤ 8192) (h84 : sm 84 1 = (n : Int)) (ht : ∀ i, i < n → sc 28 i % 256 = sm 85 i ∧ 0 ≤ sm 85 i ∧ sm 85 i < 256) :
    (∃ (T : TT) (t : Nat → Int) (sc0 sm0 sc1 sm1 x y : Sg) (S P A N K C : Nat), f_4 sc = some (.inl ((S : Int), ax_u2 (ax_u2 x 27 1 0) 27 2 1)) ∧ f_196 sm = some ((S : Int), ax_u2 y 84 5 1) ∧ TWF T ∧ POS T ∧ TX T sc0 sm0 n t ∧ PS0 T sc0 sm0 sc1 sm1 T.z S P A N K C 1 ∧ CHO sc1 sm1 x y N ∧ y 84 6 = 0 ∧ NMI x ∧ RFc sc x ∧ RFm sm y ∧ XO T sc0 ∧ t = sm 85 ∧ RGS x y) ∨
    (∃ x y : Sg, f_4 sc = some (.inr (15, f_180 (f_113 (f_74 (ax_u2 (ax_u2 x 27 1 0) 27 2 0))))) ∧ f_196 sm = some (0, ax_u2 y 84 0 1) ∧ 0 < y 84 6 ∧ NMI x ∧ RFc sc x ∧ RFm sm y ∧ RGS x y) := by
  obtain ⟨s1, e14, n1, n2, n3, n4, n5, n6, n7, n8, n9, n10, n11, n12, n13, n14, n15⟩ := c14 hN
  obtain ⟨m2, f1, f2, f3, f4, f5, f6, f7, f8, f9, f10⟩ := m196b h84 hn
  have r30 : ∀ c, c < 30 → s1 c = sc c := fun c x => n14 c (Or.inl x) (by omega) (by omega) (by omega) (by omega) (by omega) (by omega) (by omega)
  have r82 : ∀ c, 81 < c → s1 c = sc c := fun c x => n14 c (Or.inr (by omega)) (by omega) (by omega) (by omega) (by omega) (by omega) (by omega) (by omega)
  have hK : KO s1 := hN.1.row (r30 1 (by decide)) (r30 2 (by decide)) (r30 3 (by decide)) (r30 4 (by decide)) (r30 5 (by decide))
  obtain ⟨m1, hm1⟩ : ∃ z : Sg, z = ax_u2 (ax_u2 (ax_u2 (ax_u2 (ax_u2 (ax_u2 m2 84 1 0) 84 19 0) 84 31 0) 84 34 0) 84 47 0) 84 57 0 := ⟨_, rfl⟩
  have mr : ∀ c, c ≠ 84 → m1 c = m2 c := fun c a => by rw [hm1, u2_row _ _ _ a, u2_row _ _ _ a, u2_row _ _ _ a, u2_row _ _ _ a, u2_row _ _ _ a, u2_row _ _ _ a]
  have mj : ∀ j, j ≠ 1 → j ≠ 19 → j ≠ 31 → j ≠ 34 → j ≠ 47 → j ≠ 57 → m1 84 j = m2 84 j := fun j a b c d e f => by rw [hm1, u2_col _ _ _ f, u2_col _ _ _ e, u2_col _ _ _ d, u2_col _ _ _ c, u2_col _ _ _ b, u2_col _ _ _ a]
  have z1 : m1 84 1 = 0 := by rw [hm1]; simp [ax_u2]
  have z19 : m1 84 19 = 0 := by rw [hm1]; simp [ax_u2]
  have z31 : m1 84 31 = 0 := by rw [hm1]; simp [ax_u2]
  have z34 : m1 84 34 = 0 := by rw [hm1]; simp [ax_u2]
  have z47 : m1 84 47 = 0 := by rw [hm1]; simp [ax_u2]
  have z57 : m1 84 57 = 0 := by rw [hm1]; simp [ax_u2]
  have q : ∀ j, j < 19 → j ≠ 1 → m1 84 j = m2 84 j := fun j a b => mj j b (by omega) (by omega) (by omega) (by omega) (by omega)
  have hM : MT m1 n (sm 85) := ⟨by rw [q 3 (by decide) (by decide)]; exact f4, hn, fun i hi => ⟨by rw [mr 86 (by decide)]; exact f3 i hi, (ht i hi).2⟩⟩
  have s27 : s1 27 1 = (n : Int) := by rw [r30 27 (by decide)]; exact h27
  -- what is left alone
  have rfm : ∀ sm0 y : Sg, CWm m1 sm0 → (∀ a, a < 84 ∨ a = 85 ∨ a = 87 ∨ 135 < a → y a = sm0 a) → (∀ j, j < 6 ∨ j = 9 ∨ 72 < j → y 84 j = sm0 84 j) → (RM sm0 → RM y) → RFm sm y := fun sm0 y cw a1 a2 a3 => by
    have w : ∀ j, j < 6 ∨ j = 9 ∨ 72 < j → y 84 j = m1 84 j := fun j u => by rw [a2 j u, cw.2 j (by omega) (by omega) (by omega)]
    refine ⟨fun a u => by rw [a1 a u, cw.1 a (by omega), mr a (by omega), f2 a (by omega) (by omega)], by rw [w 0 (by decide), q 0 (by decide) (by decide)]; exact f5, by rw [w 1 (by decide)]; exact z1, by rw [w 5 (by decide), q 5 (by decide) (by decide)]; exact f6, fun j u => ?_, a3 (by unfold RM; rw [cw.2 72 (by decide) (by decide) (by decide), mj 72 (by decide) (by decide) (by decide) (by decide) (by decide) (by decide), f9]; decide)⟩
    rw [w j (by omega), mj j (by omega) (by omega) (by omega) (by omega) (by omega) (by omega), f10 j (by omega) (by omega) (by omega) (by omega) (by omega) (by omega) (by omega)]
  have rfc : ∀ (sc0 x : Sg) (m : Nat), CWc s1 sc0 m → (∀ a, a < 30 ∨ 81 < a → x a = sc0 a) → (RB sc0 → RB x) → RFc sc x := fun sc0 x m cw a1 a3 => by
    refine ⟨fun a u => ?_, a3 (by unfold RB; rw [cw.2.2.2.2.2.2.2.2.2.1 74 (by decide), n15]; decide)⟩
    rw [a1 a u, cw.2.2.2.2.2.2.2.2.2.1 a (by omega)]
    rcases u with u | u
    · exact r30 a u
    · exact r82 a u
  have rg0 : ∀ x y : Sg, x 74 13 = 0 → y 84 72 = 0 → RGS x y := fun x y a1 a2 => ⟨fun _ => ⟨0, a1, a2, fun i hi => absurd hi (by omega)⟩, fun _ => a1⟩
  -- a fault
  have flt : ∀ (sc0 sm0 x y : Sg) (m j : Nat), 1 ≤ j → j ≤ 10 → x 30 j ≠ -1 → f_4 sc = j_4_30 x → f_196 sm = j_196_188 y → 0 < y 84 6 → NMI x → RFc sc x → RFm sm y → RGS x y → (∃ x y : Sg, f_4 sc = some (.inr (15, f_180 (f_113 (f_74 (ax_u2 (ax_u2 x 27 1 0) 27 2 0))))) ∧ f_196 sm = some (0, ax_u2 y 84 0 1) ∧ 0 < y 84 6 ∧ NMI x ∧ RFc sc x ∧ RFm sm y ∧ RGS x y) := fun sc0 sm0 x y m j j1 j2 j3 a1 a2 a3 a4 a5 a6 a7 => by
    refine ⟨x, y, by rw [a1, c4_30f j1 j2 j3], ?_, a3, a4, a5, a6, a7⟩
    rw [a2]
    unfold j_196_188
    rw [if_neg (by omega), Option.bind_some]
    rfl
  rcases cut_sim n1 n2 hK n4 n5 s27 hn (fun i hi => by rw [r30 28 (by decide)]; exact (ht i hi).1) hM (by rw [q 6 (by decide) (by decide)]; exact f7) with ⟨T, sc0, sm0, a1, a2, a3, a4, a5, a6, a7, a8, a9, a10, a11, a12, a13, a14, a15⟩ | ⟨sc0, sm0, m, a1, a2, a3, a4, a5, a6, a7⟩
  · have hi := in0 a9 a5 a6 a7 a8 a10 a11 a12 a13 a14 a3 n6 n3 n8 n9 n10 n11 n12 z19 z31 z34 z47 z57
    have c0 : f_4 sc = (f_15 sc0).bind fun q3 => j_4_26 q3 := by
      unfold f_4
      rw [e14, Option.bind_some, a1, Option.bind_some]
      rfl
    have d0 : f_196 sm = (f_209 sm0).bind fun q10 => j_196_111 q10 := by
      rw [f1]
      unfold j_196_66
      rw [← hm1, a2, Option.bind_some, if_neg (fun u => u a11)]
    have g8 : sm0 84 8 = -1 := by rw [a14.2 8 (by decide) (by decide) (by decide), q 8 (by decide) (by decide)]; exact f8
    have g30 : ∀ j : Nat, 1 ≤ j → j ≤ 10 → sc0 30 j = -1 := fun j _ v => by rw [a13]; exact n6 j (by omega)
    rcases all_sim a3 a4 hi with ⟨sc1, sm1, S, P, A, N, K, C, b1, b2, b3, ps⟩ | ⟨sc1, mF, b1, b2, b3, b4, b5, b6⟩
    · obtain ⟨x, y, k1, k2, cho⟩ := chk_in a3 a4 ps a9 g30 g8
      have c1 : f_4 sc = j_4_30 x := by
        rw [c0, b1, Option.bind_some]
        unfold j_4_26
        rw [k1, Option.bind_some]
      have d1 : f_196 sm = j_196_188 y := by rw [d0, b2, Option.bind_some, k2]
      obtain ⟨hB, h70, h19, -⟩ := id ps
      obtain ⟨e1, e2, e3, e4, e5, e6, e7, e8, e9, e10, e11, e12, e13, e14', e15, e16, -⟩ := hB
      obtain ⟨o1, o2, o3, o4, o5, o6, o7, o8, o9, o10, o11, o12, o13, o14⟩ := id cho
      have nmi : NMI x := NMI.mk hK n3 a12 (fun c u => by rw [o1 c (by omega) (by omega) (by omega), e15.1 c (by omega)]) (fun j u => by rw [o1 31 (by decide) (by decide) (by decide), e15.2.2.2.1 j u]) (fun u => by rw [o1 31 (by decide) (by decide) (by decide)]; exact e15.2.2.2.2 u)
      have fc : RFc sc x := rfc sc0 x T.m a12 (fun a u => by rw [o1 a (by omega) (by omega) (by omega), e15.1 a (by omega)]) (fun u => o10 (by unfold RB at *; rw [e15.1 74 (by decide)]; exact u))
      have fm : RFm sm y := rfm sm0 y a14 (fun a u => by rw [o3 a (by omega) (by omega) (by omega), e16.1 a (by omega)]) (fun j u => by rw [o4 j (by omega) (by omega) (by omega) (by omega), e16.2 j (by omega)]) (fun u => o11 (by unfold RM at *; rw [e16.2 72 (by decide)]; exact u))
      have sc74 : sc1 74 13 = 0 := by rw [e15.1 74 (by decide), a12.2.2.2.2.2.2.2.2.2.1 74 (by decide), n15]
      have rgs : RGS x y := ⟨o14.1, fun u => by rw [o14.2 u, sc74]⟩
      by_cases z : y 84 6 = 0
      · left
        refine ⟨T, sm 85, sc0, sm0, sc1, sm1, x, y, S, P, A, N, K, C, ?_, ?_, a3, a4, a9, ps, cho, z, nmi, fc, fm, a15, rfl, rgs⟩
        · rw [c1, c4_30n (o8.mpr z), o1 54 (by decide) (by decide) (by decide), e10]
        · rw [d1]
          unfold j_196_188
          rw [if_pos (by omega), o4 19 (by decide) (by decide) (by decide) (by decide), h19]
      · right
        obtain ⟨j, j1, j2, j3⟩ : ∃ j : Nat, 1 ≤ j ∧ j ≤ 10 ∧ x 30 j ≠ -1 := by
          apply Classical.byContradiction
          intro hn
          exact z (o8.mp (fun j u v => Decidable.byContradiction (fun w => hn ⟨j, u, v, w⟩)))
        exact flt sc0 sm0 x y T.m j j1 j2 j3 c1 d1 (by omega) nmi fc fm rgs
    · right
      obtain ⟨j, j1, j2, j3⟩ : ∃ j : Nat, 1 ≤ j ∧ j ≤ 3 ∧ sc1 30 j ≠ -1 := by
        rcases b4 with u | u
        · exact ⟨2, by decide, by decide, u⟩
        · exact ⟨3, by decide, by decide, u⟩
      refine flt sc0 sm0 sc1 mF T.m j j1 (by omega) j3 ?_ ?_ b6 (NMI.mk hK n3 a12 (fun c u => b3.1 c (by omega)) (fun j u => b3.2.2.2.1 j u) b3.2.2.2.2) (rfc sc0 sc1 T.m a12 (fun a u => b3.1 a (by omega)) (fun u => by unfold RB at *; rw [b3.1 74 (by decide)]; exact u)) (rfm sm0 mF a14 (fun a u => b5.1 a (by omega)) (fun j u => b5.2 j (by omega)) (fun u => by unfold RM at *; rw [b5.2 72 (by decide)]; exact u)) (rg0 _ _ (by rw [b3.1 74 (by decide), a12.2.2.2.2.2.2.2.2.2.1 74 (by decide), n15]) (by rw [b5.2 72 (by decide), a14.2 72 (by decide) (by decide) (by decide), mj 72 (by decide) (by decide) (by decide) (by decide) (by decide) (by decide), f9]))
      · rw [c0, b1, Option.bind_some]
        unfold j_4_26
        rw [c16_0 j1 j2 j3, Option.bind_some]
      · rw [d0, b2, Option.bind_some, (m196f (by omega)).2.2.2.2.2.2]
  · right
    refine flt sc0 sm0 sc0 sm0 m 1 (by decide) (by decide) a3 ?_ ?_ (by omega) (NMI.mk hK n3 a6 (fun _ _ => rfl) (fun _ _ => rfl) (fun u => u)) (rfc sc0 sc0 m a6 (fun _ _ => rfl) id) (rfm sm0 sm0 a7 (fun _ _ => rfl) (fun _ _ => rfl) id) (rg0 _ _ (by rw [a6.2.2.2.2.2.2.2.2.2.1 74 (by decide), n15]) (by rw [a7.2 72 (by decide) (by decide) (by decide), mj 72 (by decide) (by decide) (by decide) (by decide) (by decide) (by decide), f9]))
    · unfold f_4
      rw [e14, Option.bind_some, a1, Option.bind_some]
      rfl
    · rw [f1]
      unfold j_196_66
      rw [← hm1, a2, Option.bind_some, if_pos (by omega), (m196f (by omega)).2.2.2.2.2.2]
end RDS
/-! PRINTING: gaps. -/
def prqb (p q : Int) : Bool := decide ((((p ∈ opA ∧ q ∈ opS) ∨ (p ∈ opB ∧ q ∈ opF) ∨ (p = 1 ∧ (q = 91 ∨ q = 40)) ∨ ((p = 25 ∨ p = 26 ∨ p = 27) ∧ q = 40) ∨ (p = 40 ∧ q = 41) ∨ (p = 46 ∧ q = 2))) ∨ (p ∈ opB ∧ (q = 59 ∨ q = 123)) ∨ (p, q) ∈ psl ∨ ((p = 59 ∨ p = 125) ∧ 17 ≤ q ∧ q ≤ 20) ∨ (17 ≤ p ∧ p ≤ 20 ∧ q = 1) ∨ ((p = 123 ∨ p = 59 ∨ p = 125) ∧ (q = 1 ∨ q = 21 ∨ q = 23 ∨ q = 24 ∨ q = 125)) ∨ (p = 125 ∧ q = 22))
theorem prqb_of {p q : Int} (h : PRQ p q) : prqb p q = true := decide_eq_true h
/-- kinds that may come next to each other once brackets are dropped -/
def gpb (p q : Int) : Bool := prqb p q || (decide (p ∈ opA) && prqb 40 q && decide (q ≠ 41)) || (decide (p ≠ 40) && prqb p 41 && prqb 41 q)
/-- the class's gap -/
def gpC (a b : Bool) (p q : Int) : Bool := a || decide (p = 61) || b || decide (q = 61) || decide (f_136 p q (fun _ _ => 0) ≠ 0)
/-- the reference's -/
def gj (q : Int) : Bool := decide (q ≠ 7 ∧ q ≠ 8)
def gpR (a b : Bool) (p q : Int) : Bool := if a || decide (p = 61) || b || decide (q = 61) then gj (km q) else if km p = 8 ∨ km p = 7 ∨ km p = 13 ∨ km p = 14 then gj (km q) else if km q = 14 then gj (km q) else if km q = 13 then true else if f_250 (km p) (fun _ _ => 0) ≠ 0 ∨ km p = 16 ∨ km p = 12 then decide (f_250 (km q) (fun _ _ => 0) ≠ 0) else false
def gok (p q : Int) : Bool := !gpb p q || decide (17 ≤ q ∧ q ≤ 20) || ((gpC false false p q == gpR false false p q) && (!decide (p ∈ opI) || (gpC true false p q == gpR true false p q)) && (!decide (q ∈ opI) || (gpC false true p q == gpR false true p q)) && (!decide (p ∈ opI) || !decide (q ∈ opI) || (gpC true true p q == gpR true true p q)))
theorem gap_d : ∀ p ∈ kvl, ∀ q ∈ kvl, gok p q = true := by decide +kernel
theorem gap_eq {a b : Bool} {p q : Int} (hp : p ∈ kvl) (hq : q ∈ kvl) (h : gpb p q = true) (hs : ¬ (17 ≤ q ∧ q ≤ 20)) (ha : a = true → p ∈ opI) (hb : b = true → q ∈ opI) : gpC a b p q = gpR a b p q := by
  have d := gap_d p hp q hq
  unfold gok at d
  rw [h, decide_eq_false hs] at d
  simp only [Bool.not_true, Bool.false_or, Bool.and_eq_true, Bool.or_eq_true, beq_iff_eq, Bool.not_eq_true', decide_eq_false_iff_not] at d
  obtain ⟨⟨⟨d1, d2⟩, d3⟩, d4⟩ := d
  cases a <;> cases b
  · exact d1
  · exact d3.resolve_left (fun u => u (hb rfl))
  · exact d2.resolve_left (fun u => u (ha rfl))
  · rcases d4 with (u | u) | u
    · exact absurd (ha rfl) u
    · exact absurd (hb rfl) u
    · exact u
/-! PRINTING: bytes written, decimals. -/
section WRI
variable {s sc sm : Sg} {v w : Int} {n : Nat} {t : Nat → Int}
def cwr (s : Sg) (B : List Int) : Sg := B.foldl (fun s b => f_134 b s) s
def mwr (s : Sg) (B : List Int) : Sg := B.foldl (fun s b => f_221 b s) s
theorem cwr_nil (s : Sg) : cwr s [] = s := rfl
theorem mwr_nil (s : Sg) : mwr s [] = s := rfl
theorem cwr_cons (s : Sg) (b : Int) (B : List Int) : cwr s (b :: B) = cwr (f_134 b s) B := rfl
theorem mwr_cons (s : Sg) (b : Int) (B : List Int) : mwr s (b :: B) = mwr (f_221 b s) B := rfl
theorem cwr_app (s : Sg) (A B : List Int) : cwr s (A ++ B) = cwr (cwr s A) B := List.foldl_append
theorem mwr_app (s : Sg) (A B : List Int) : mwr s (A ++ B) = mwr (mwr s A) B := List.foldl_append
def WC (s : Sg) : Prop := 0 ≤ s 82 2 ∧ s 82 2 ≤ 16384
theorem WC.g (h : WC s) (b : Int) : g_134 b s := by
  unfold g_134
  exact ⟨fun _ => trivial, fun a => ⟨⟨h.1, by omega⟩, trivial⟩⟩
theorem c134_row (b : Int) (s : Sg) {c : Nat} (h : c ≠ 82) (h' : c ≠ 83) : f_134 b s c = s c := by
  unfold f_134
  split
  · rfl
  · rw [u2_row _ _ _ h, u2_row _ _ _ h']
theorem c134_j (b : Int) (s : Sg) {j : Nat} (h : j ≠ 2) : f_134 b s 82 j = s 82 j := by
  unfold f_134
  split
  · rfl
  · rw [u2_col _ _ _ h, u2_row _ _ _ (by decide)]
theorem c134_len (b : Int) (h : WC s) : f_134 b s 82 2 = (if 16384 ≤ s 82 2 then s 82 2 else s 82 2 + 1) := by
  unfold f_134
  split
  · rfl
  · rw [u2_at, if_pos rfl, w32_id (by have := h.1; omega) (by omega)]
theorem WC.put (h : WC s) (b : Int) : WC (f_134 b s) := by
  unfold WC
  rw [c134_len b h]
  have := h.1
  have := h.2
  split <;> omega
theorem WC.wr : ∀ (B : List Int) (s : Sg), WC s → WC (cwr s B) := by
  intro B
  induction B with
  | nil => intro s h; exact h
  | cons b B ih => intro s h; exact ih _ (h.put b)
theorem cwr_row {c : Nat} (h : c ≠ 82) (h' : c ≠ 83) : ∀ (B : List Int) (s : Sg), cwr s B c = s c := by
  intro B
  induction B with
  | nil => intro s; rfl
  | cons b B ih => intro s; rw [cwr_cons, ih, c134_row b s h h']
theorem cwr_j {j : Nat} (h : j ≠ 2) : ∀ (B : List Int) (s : Sg), cwr s B 82 j = s 82 j := by
  intro B
  induction B with
  | nil => intro s; rfl
  | cons b B ih => intro s; rw [cwr_cons, ih, c134_j b s h]
theorem cwr_len : ∀ (B : List Int) (s : Sg), 0 ≤ s 82 2 → s 82 2 + (B.length : Int) ≤ 16384 → cwr s B 82 2 = s 82 2 + (B.length : Int) := by
  intro B
  induction B with
  | nil => intro s _ _; simp [cwr_nil]
  | cons b B ih =>
    intro s h1 h2
    rw [List.length_cons] at h2 ⊢
    have e := c134_len b (s := s) ⟨h1, by omega⟩
    rw [if_neg (by omega)] at e
    rw [cwr_cons, ih _ (by rw [e]; omega) (by rw [e]; omega), e]
    omega
theorem cwr_at : ∀ (B : List Int) (s : Sg) (L : Nat), s 82 2 = (L : Int) → L + B.length ≤ 16384 → (∀ i, i < L → cwr s B 83 i = s 83 i) ∧ (∀ i, i < B.length → cwr s B 83 (L + i) % 256 = B.getD i 0 % 256) := by
  intro B
  induction B with
  | nil => intro s L _ _; exact ⟨fun _ _ => rfl, fun i hi => absurd hi (by simp)⟩
  | cons b B ih =>
    intro s L h1 h2
    rw [List.length_cons] at h2
    have e := c134_len b (s := s) ⟨by omega, by omega⟩
    rw [if_neg (by omega)] at e
    have r : f_134 b s 83 = ax_u2 s 83 L (ax_w8 (ax_w8 b)) 83 := by
      unfold f_134
      rw [if_neg (by omega), u2_row _ _ _ (by decide), h1, Int.toNat_natCast]
    obtain ⟨i1, i2⟩ := ih (f_134 b s) (L + 1) (by rw [e, h1]; omega) (by omega)
    refine ⟨fun i hi => ?_, fun i hi => ?_⟩
    · rw [cwr_cons, i1 i (by omega), r, u2_col _ _ _ (by omega)]
    · rw [List.length_cons] at hi
      cases i with
      | zero => rw [cwr_cons, Nat.add_zero, i1 L (by omega), r, u2_at, if_pos rfl, w8_mod, w8_mod]; rfl
      | succ i =>
        have := i2 i (by omega)
        rw [cwr_cons, show L + (i + 1) = L + 1 + i by omega, this]
        rfl
theorem m221_row (b : Int) (s : Sg) {c : Nat} (h : c ≠ 84) (h' : c ≠ 87) : f_221 b s c = s c := by
  unfold f_221
  rw [u2_row _ _ _ h, u2_row _ _ _ h']
theorem m221_j (b : Int) (s : Sg) {j : Nat} (h : j ≠ 9) : f_221 b s 84 j = s 84 j := by
  unfold f_221
  rw [u2_col _ _ _ h, u2_row _ _ _ (by decide)]
theorem m221_len (b : Int) (h : 0 ≤ s 84 9) (h' : s 84 9 < 25000) : f_221 b s 84 9 = s 84 9 + 1 := by
  unfold f_221
  rw [u2_at, if_pos rfl, w32_id (by omega) (by omega)]
theorem mwr_row {c : Nat} (h : c ≠ 84) (h' : c ≠ 87) : ∀ (B : List Int) (s : Sg), mwr s B c = s c := by
  intro B
  induction B with
  | nil => intro s; rfl
  | cons b B ih => intro s; rw [mwr_cons, ih, m221_row b s h h']
theorem mwr_j {j : Nat} (h : j ≠ 9) : ∀ (B : List Int) (s : Sg), mwr s B 84 j = s 84 j := by
  intro B
  induction B with
  | nil => intro s; rfl
  | cons b B ih => intro s; rw [mwr_cons, ih, m221_j b s h]
theorem mwr_len : ∀ (B : List Int) (s : Sg), 0 ≤ s 84 9 → s 84 9 + (B.length : Int) ≤ 25000 → mwr s B 84 9 = s 84 9 + (B.length : Int) := by
  intro B
  induction B with
  | nil => intro s _ _; simp [mwr_nil]
  | cons b B ih =>
    intro s h1 h2
    rw [List.length_cons] at h2 ⊢
    have e := m221_len b (s := s) h1 (by omega)
    rw [mwr_cons, ih _ (by rw [e]; omega) (by rw [e]; omega), e]
    omega
theorem mwr_at : ∀ (B : List Int) (s : Sg) (L : Nat), s 84 9 = (L : Int) → L + B.length ≤ 25000 → (∀ i, i < L → mwr s B 87 i = s 87 i) ∧ (∀ i, i < B.length → mwr s B 87 (L + i) = B.getD i 0) := by
  intro B
  induction B with
  | nil => intro s L _ _; exact ⟨fun _ _ => rfl, fun i hi => absurd hi (by simp)⟩
  | cons b B ih =>
    intro s L h1 h2
    rw [List.length_cons] at h2
    have e := m221_len b (s := s) (by omega) (by omega)
    have r : f_221 b s 87 = ax_u2 s 87 L b 87 := by
      unfold f_221
      rw [u2_row _ _ _ (by decide), h1, Int.toNat_natCast]
    obtain ⟨i1, i2⟩ := ih (f_221 b s) (L + 1) (by rw [e, h1]; omega) (by omega)
    refine ⟨fun i hi => ?_, fun i hi => ?_⟩
    · rw [mwr_cons, i1 i (by omega), r, u2_col _ _ _ (by omega)]
    · rw [List.length_cons] at hi
      cases i with
      | zero => rw [mwr_cons, Nat.add_zero, i1 L (by omega), r, u2_at, if_pos rfl]; rfl
      | succ i =>
        have := i2 i (by omega)
        rw [mwr_cons, show L + (i + 1) = L + 1 + i by omega, this]
        rfl
/-- division -/
theorem ldiv_p (h0 : 0 ≤ v) (h1 : v < 9223372036854775808) (w0 : 0 < w) (w1 : w < 9223372036854775808) : ax_ldiv v w = v / w := by
  unfold ax_ldiv
  rw [Int64.toInt_div, Int64.toInt_ofInt, Int64.toInt_ofInt, Int.bmod_eq_of_le (n := v) (by simp only [Int64.size]; omega) (by simp only [Int64.size]; omega), Int.bmod_eq_of_le (n := w) (by simp only [Int64.size]; omega) (by simp only [Int64.size]; omega), Int.tdiv_eq_ediv_of_nonneg h0]
  have a := Int.ediv_nonneg h0 (Int.le_of_lt w0)
  have b : v / w ≤ v := Int.ediv_le_self _ h0
  rw [Int.bmod_eq_of_le] <;> omega
theorem lrem_p (h0 : 0 ≤ v) (h1 : v < 9223372036854775808) : ax_lrem v 10 = v % 10 := by
  unfold ax_lrem
  rw [Int64.toInt_sub, Int64.toInt_mul, Int64.toInt_div, Int64.toInt_ofInt, Int64.toInt_ofInt, Int.bmod_eq_of_le (n := v) (by simp only [Int64.size]; omega) (by simp only [Int64.size]; omega), Int.bmod_eq_of_le (n := 10) (by decide) (by decide), Int.tdiv_eq_ediv_of_nonneg h0]
  have : (v / 10).bmod (2 ^ 64) = v / 10 := by rw [Int.bmod_eq_of_le] <;> omega
  rw [this]
  have : (v / 10 * 10).bmod (2 ^ 64) = v / 10 * 10 := by rw [Int.bmod_eq_of_le] <;> omega
  rw [this, Int.bmod_eq_of_le] <;> omega
/-- digits -/
def tn (e : Nat) : Int := ((10 ^ e : Nat) : Int)
theorem tn_s (e : Nat) : tn (e + 1) = tn e * 10 := by unfold tn; rw [Nat.pow_succ]; omega
theorem tn_b {e : Nat} (h : e ≤ 13) : 1 ≤ tn e ∧ tn e ≤ 10000000000000 := by
  unfold tn
  have a : 10 ^ e ≤ 10 ^ 13 := Nat.pow_le_pow_right (by decide) h
  have b : 0 < 10 ^ e := Nat.pow_pos (by decide)
  have c : (10 ^ 13 : Nat) = 10000000000000 := by decide
  rw [c] at a
  omega
def dgl (v : Int) : Nat → List Int
  | 0 => [48 + v % 10]
  | e + 1 => (48 + v / tn (e + 1) % 10) :: dgl v e
theorem dgl_len (v : Int) (e : Nat) : (dgl v e).length = e + 1 := by
  induction e with
  | zero => rfl
  | succ e ih => rw [dgl, List.length_cons, ih]
def dxp (v : Int) : Nat → Nat → Nat
  | 0, e => e
  | k + 1, e => if v / tn e < 10 then e else dxp v k (e + 1)
theorem dxp_le {M : Nat} (h : v / tn M < 10) : ∀ k e, e ≤ M → dxp v k e ≤ M := by
  intro k
  induction k with
  | zero => intro e he; exact he
  | succ k ih =>
    intro e he
    rw [dxp]
    split
    · exact he
    · rename_i c
      have : e ≠ M := fun u => c (by rw [u]; exact h)
      exact ih (e + 1) (by omega)
theorem dxp_b : ∀ k e, dxp v k e ≤ e + k := by
  intro k
  induction k with
  | zero => intro e; exact Nat.le_refl _
  | succ k ih =>
    intro e
    rw [dxp]
    split
    · omega
    · have := ih (e + 1); omega
theorem dig_b (h0 : 0 ≤ v) (h1 : v ≤ 1099511627776) {e : Nat} (he : e ≤ 13) : 0 ≤ v / tn e ∧ v / tn e ≤ 1099511627776 ∧ 0 ≤ v / tn e % 10 ∧ v / tn e % 10 < 10 := by
  have a := (tn_b he).1
  have b := Int.ediv_nonneg h0 (show 0 ≤ tn e by omega)
  have c : v / tn e ≤ v := Int.ediv_le_self _ h0
  omega
theorem c137a (h0 : 0 ≤ v) (h1 : v ≤ 1099511627776) : ∀ (e : Nat) (F : Nat) (l5 : Int) (s : Sg), WC s → 0 ≤ l5 → l5 + (e : Int) + 1 ≤ 13 → j_137_37 (F + e + 2) v (tn e) l5 s = some (cwr s (dgl v e)) := by
  intro e
  induction e with
  | zero =>
    intro F l5 s hw hl hb
    have b := tn_b (e := 0) (by omega)
    have d := dig_b h0 h1 (e := 0) (by omega)
    have t0 : tn 0 = 1 := rfl
    rw [show F + 0 + 2 = F + 1 + 1 by omega, j_137_37, if_neg (by omega), if_neg (by rw [cmp_le]; omega), gd_pos (by omega), ldiv_p h0 (by omega) (by omega) (by omega), lrem_p d.1 (by omega), w32_id (z := v / tn 0 % 10) (by omega) (by omega), w32_id (z := 48 + v / tn 0 % 10) (by omega) (by omega), gd_pos (hw.g _), Option.bind_some, ldiv_p (by omega) (by omega) (by omega) (by omega), j_137_37]
    have z : tn 0 / 10 = 0 := rfl
    rw [z]
    by_cases c : 13 ≤ ax_w32 (l5 + 1)
    · rw [if_pos c, t0, Int.ediv_one]; rfl
    · rw [if_neg c, if_pos (by decide), t0, Int.ediv_one]; rfl
  | succ e ih =>
    intro F l5 s hw hl hb
    have b := tn_b (e := e + 1) (by omega)
    have d := dig_b h0 h1 (e := e + 1) (by omega)
    have q : tn (e + 1) / 10 = tn e := by rw [tn_s]; omega
    rw [show F + (e + 1) + 2 = (F + e + 2) + 1 by omega, j_137_37, if_neg (by omega), if_neg (by rw [cmp_le]; omega), gd_pos (by omega), ldiv_p h0 (by omega) (by omega) (by omega), lrem_p d.1 (by omega), w32_id (z := v / tn (e + 1) % 10) (by omega) (by omega), w32_id (z := 48 + v / tn (e + 1) % 10) (by omega) (by omega), gd_pos (hw.g _), Option.bind_some, ldiv_p (by omega) (by omega) (by omega) (by omega), q, w32_id (by omega) (by omega), ih F (l5 + 1) _ (hw.put _) (by omega) (by omega)]
    rfl
theorem c137b (h0 : 0 ≤ v) (h1 : v ≤ 1099511627776) (hw : WC s) : ∀ (k e F : Nat), e + k = 12 → j_137_5 (F + k + 1) v (tn e) (e : Int) s = some (cwr s (dgl v (dxp v k e))) := by
  have fin : ∀ e, e ≤ 12 → j_137_34 v (tn e) s = some (cwr s (dgl v e)) := fun e he => by
    unfold j_137_34
    obtain ⟨F, hF⟩ := FU_split (k := e + 2) (by omega)
    rw [hF]
    exact c137a h0 h1 e F 0 s hw (by omega) (by omega)
  intro k
  induction k with
  | zero =>
    intro e F he
    rw [j_137_5, if_pos (by omega), dxp]
    exact fin e (by omega)
  | succ k ih =>
    intro e F he
    have b := tn_b (e := e) (by omega)
    rw [show F + (k + 1) + 1 = (F + k + 1) + 1 by omega, j_137_5, if_neg (by omega), gd_pos (by omega), ldiv_p h0 (by omega) (by omega) (by omega), dxp]
    by_cases c : v / tn e < 10
    · rw [if_pos (by rw [cmp_lt]; omega), if_pos c]
      exact fin e (by omega)
    · rw [if_neg (by rw [cmp_lt]; omega), if_neg c, w64_id (by omega) (by omega), ← tn_s, w32_nat (by omega)]
      exact ih (e + 1) F (by omega)
theorem c137 (h0 : 0 ≤ v) (h1 : v ≤ 1099511627776) (hw : WC s) : f_137 v s = some (cwr s (dgl v (dxp v 12 0))) := by
  unfold f_137
  obtain ⟨F, hF⟩ := FU_split (k := 13) (by omega)
  rw [hF]
  exact c137b h0 h1 hw 12 0 F rfl
theorem m222a (h0 : 0 ≤ v) (h1 : v ≤ 1099511627776) : ∀ (e : Nat) (F : Nat) (s : Sg), e ≤ 12 → 0 ≤ s 84 9 → s 84 9 + (e : Int) + 1 ≤ 25000 → j_222_54 (F + e + 2) v (tn e) s = some (mwr s (dgl v e)) := by
  intro e
  induction e with
  | zero =>
    intro F s he hl hb
    have b := tn_b (e := 0) (by omega)
    have d := dig_b h0 h1 (e := 0) (by omega)
    have t0 : tn 0 = 1 := rfl
    rw [show F + 0 + 2 = F + 1 + 1 by omega, j_222_54, if_neg (by rw [cmp_le]; omega), gd_pos (by omega), ldiv_p h0 (by omega) (by omega) (by omega), lrem_p d.1 (by omega), w64_id (z := 48 + v / tn 0 % 10) (by omega) (by omega), w32_id (z := 48 + v / tn 0 % 10) (by omega) (by omega), gd_pos (by unfold g_221; exact ⟨⟨by omega, by omega⟩, trivial⟩), Option.bind_some, ldiv_p (by omega) (by omega) (by omega) (by omega), j_222_54]
    have z : tn 0 / 10 = 0 := rfl
    rw [z, if_pos (by decide), t0, Int.ediv_one]
    rfl
  | succ e ih =>
    intro F s he hl hb
    have b := tn_b (e := e + 1) (by omega)
    have d := dig_b h0 h1 (e := e + 1) (by omega)
    have q : tn (e + 1) / 10 = tn e := by rw [tn_s]; omega
    have l := m221_len (48 + v / tn (e + 1) % 10) (s := s) hl (by omega)
    rw [show F + (e + 1) + 2 = (F + e + 2) + 1 by omega, j_222_54, if_neg (by rw [cmp_le]; omega), gd_pos (by omega), ldiv_p h0 (by omega) (by omega) (by omega), lrem_p d.1 (by omega), w64_id (z := 48 + v / tn (e + 1) % 10) (by omega) (by omega), w32_id (z := 48 + v / tn (e + 1) % 10) (by omega) (by omega), gd_pos (by unfold g_221; exact ⟨⟨by omega, by omega⟩, trivial⟩), Option.bind_some, ldiv_p (by omega) (by omega) (by omega) (by omega), q, ih F _ (by omega) (by omega) (by omega)]
    rfl
theorem m222b (h0 : 0 ≤ v) (h1 : v ≤ 1099511627776) (hl : 0 ≤ s 84 9) (hb : s 84 9 + 13 ≤ 25000) : ∀ (k e F : Nat), e + k = 12 → j_222_28 (F + k + 1) v (tn e) s = some (mwr s (dgl v (dxp v k e))) := by
  have fin : ∀ e, e ≤ 12 → j_222_50 v (tn e) s = some (mwr s (dgl v e)) := fun e he => by
    unfold j_222_50
    obtain ⟨F, hF⟩ := FU_split (k := e + 2) (by omega)
    rw [hF]
    exact m222a h0 h1 e F s he hl (by omega)
  intro k
  induction k with
  | zero =>
    intro e F he
    have e12 : e = 12 := by omega
    subst e12
    have t12 : tn 12 = 1000000000000 := by decide
    have q9 : v / tn 12 ≤ 9 := by rw [t12]; omega
    rw [j_222_28, gd_pos (by omega), ldiv_p h0 (by omega) (by omega) (by omega), if_pos (by rw [cmp_le]; omega), dxp]
    exact fin 12 (by omega)
  | succ k ih =>
    intro e F he
    have b := tn_b (e := e) (by omega)
    rw [show F + (k + 1) + 1 = (F + k + 1) + 1 by omega, j_222_28, gd_pos (by omega), ldiv_p h0 (by omega) (by omega) (by omega), dxp]
    by_cases c : v / tn e < 10
    · rw [if_pos (by rw [cmp_le]; omega), if_pos c]
      exact fin e (by omega)
    · rw [if_neg (by rw [cmp_le]; omega), if_neg c, w64_id (by omega) (by omega), ← tn_s]
      exact ih (e + 1) F (by omega)
theorem m222d (h0 : 0 ≤ v) (h1 : v ≤ 1099511627776) (hl : 0 ≤ s 84 9) (hb : s 84 9 + 13 ≤ 25000) : j_222_28 FU v 1 s = some (mwr s (dgl v (dxp v 12 0))) := by
  obtain ⟨F, hF⟩ := FU_split (k := 13) (by omega)
  rw [hF]
  exact m222b h0 h1 hl hb 12 0 F rfl
/-- a number takes no more digits than it had -/
theorem cap_le (x : Int) : cap x ≤ x := by unfold cap; split <;> omega
theorem dvl_lt (t : Nat → Int) : ∀ k i v, (∀ e, i ≤ e → e < i + k → isD (t e) = true) → 0 ≤ v → dvl t k i v < (v + 1) * tn k := by
  intro k
  induction k with
  | zero => intro i v _ _; rw [dvl]; have : tn 0 = 1 := rfl; rw [this]; omega
  | succ k ih =>
    intro i v hd hv
    have h := hd i (Nat.le_refl _) (by omega)
    unfold isD at h
    rw [decide_eq_true_eq] at h
    have cb := cap_b (x := v * 10 + (t i - 48)) (by omega)
    have := ih (i + 1) (cap (v * 10 + (t i - 48))) (fun e a b => hd e (by omega) (by omega)) cb.1
    rw [dvl]
    refine Int.lt_of_lt_of_le this ?_
    rw [tn_s, Int.mul_comm (tn k), ← Int.mul_assoc]
    have cl := cap_le (v * 10 + (t i - 48))
    have p : 0 < 10 ^ k := Nat.pow_pos (by decide)
    exact Int.mul_le_mul_of_nonneg_right (by omega) (by unfold tn; omega)
theorem hvl_lt (t : Nat → Int) : ∀ k i v, (∀ e, i ≤ e → e < i + k → isH (t e) = true) → 0 ≤ v → hvl t k i v < (v + 1) * ((16 ^ k : Nat) : Int) := by
  intro k
  induction k with
  | zero => intro i v _ _; rw [hvl]; omega
  | succ k ih =>
    intro i v hd hv
    have h := hd i (Nat.le_refl _) (by omega)
    unfold isH at h
    rw [decide_eq_true_eq] at h
    have hb : 0 ≤ hxv (t i) ∧ hxv (t i) ≤ 15 := by unfold hxv; split <;> omega
    have cb := cap_b (x := v * 16 + hxv (t i)) (by omega)
    have := ih (i + 1) (cap (v * 16 + hxv (t i))) (fun e a b => hd e (by omega) (by omega)) cb.1
    rw [hvl]
    refine Int.lt_of_lt_of_le this ?_
    have e : ((16 ^ (k + 1) : Nat) : Int) = 16 * ((16 ^ k : Nat) : Int) := by rw [Nat.pow_succ]; omega
    rw [e, ← Int.mul_assoc]
    have cl := cap_le (v * 16 + hxv (t i))
    have p : 0 < 16 ^ k := Nat.pow_pos (by decide)
    exact Int.mul_le_mul_of_nonneg_right (by omega) (by omega)
theorem tn_16 : ∀ k, k ≤ 8 → 16 ^ k ≤ 10 ^ (k + 2) := by decide
theorem num_len {i j : Nat} {k : Int} (h : LXv t n i j k v) (hi : i < j) (hj : j ≤ n) : dxp v 12 0 + 1 ≤ j - i := by
  obtain ⟨h1, h2, h3, h4, h5⟩ := h
  have key : ∀ M : Nat, v < tn (M + 1) → dxp v 12 0 ≤ M := fun M hM => by
    refine dxp_le ?_ 12 0 (by omega)
    have p : 0 < 10 ^ M := Nat.pow_pos (by decide)
    rw [tn_s] at hM
    exact Int.ediv_lt_of_lt_mul (by unfold tn; omega) (by rw [Int.mul_comm]; exact hM)
  unfold nmV at h5
  rw [← h3] at h5
  unfold nmE at h3
  unfold nmOk nmE at h2
  by_cases c : hxq t n i = true
  · rw [if_pos c] at h3 h5 h2
    rw [if_pos c, ← h3, decide_eq_true_eq] at h2
    have l3 := hxq_len c
    have g := rn_ge isH t (n - (i + 2)) (i + 2)
    have b := hvl_lt t (j - (i + 2)) (i + 2) 0 (fun e x y => rn_all isH t (n - (i + 2)) (i + 2) e x (by omega)) (by decide)
    have u := tn_16 (j - (i + 2)) (by omega)
    have := key (j - (i + 2) + 1) (by rw [show j - (i + 2) + 1 + 1 = j - (i + 2) + 2 by omega]; unfold tn; omega)
    omega
  · rw [if_neg c] at h3 h5
    have g := rn_ge isD t (n - i) i
    have b := dvl_lt t (j - i) i 0 (fun e x y => rn_all isD t (n - i) i e x (by omega)) (by decide)
    have := key (j - i - 1) (by rw [show j - i - 1 + 1 = j - i by omega]; omega)
    omega
end WRI
/-! PRINTING: lexemes and gaps. -/
section LXM
variable {T : TT} {sc sm x y : Sg} {n k p : Nat} {t : Nat → Int}
def tbl (t : Nat → Int) : Nat → Nat → List Int
  | 0, _ => []
  | d + 1, i => t i :: tbl t d (i + 1)
theorem tbl_len (t : Nat → Int) : ∀ d i, (tbl t d i).length = d := by
  intro d
  induction d with
  | zero => intro i; rfl
  | succ d ih => intro i; rw [tbl, List.length_cons, ih]
def lxb (T : TT) (sc : Sg) (t : Nat → Int) (k : Nat) : List Int := if T.tk k = 2 ∧ sc 45 k ≠ 3 then dgl (T.vl k) (dxp (T.vl k) 12 0) else tbl t (sc 43 k).toNat (T.fm k).toNat
def AC (sc x : Sg) : Prop := (∀ c, c ≠ 82 → c ≠ 83 → x c = sc c) ∧ WC x
def AM (sm y : Sg) : Prop := (∀ c, c ≠ 84 → c ≠ 87 → y c = sm c) ∧ (∀ j, j ≠ 0 → j ≠ 9 → y 84 j = sm 84 j)
theorem AC.wr (h : AC sc x) (B : List Int) : AC sc (cwr x B) := ⟨fun c a b => by rw [cwr_row a b]; exact h.1 c a b, WC.wr B x h.2⟩
theorem AM.wr (h : AM sm y) (B : List Int) : AM sm (mwr y B) := ⟨fun c a b => by rw [mwr_row a b]; exact h.1 c a b, fun j a b => by rw [mwr_j b]; exact h.2 j a b⟩
theorem AC.cc (h : AC sc x) (hc : CC T sc) : CC T x := by
  unfold CC at *
  rw [h.1 39 (by decide) (by decide), h.1 41 (by decide) (by decide), h.1 42 (by decide) (by decide), h.1 44 (by decide) (by decide), h.1 31 (by decide) (by decide), h.1 1 (by decide) (by decide)]
  exact hc
theorem AC.ct (h : AC sc x) (hc : CT sc n t) : CT x n t := hc.congr (by rw [h.1 39 (by decide) (by decide)]) (h.1 40 (by decide) (by decide))
theorem AM.mc (h : AM sm y) (hc : MC T sm) : MC T y := by
  unfold MC at *
  rw [h.2 11 (by decide) (by decide), h.1 88 (by decide) (by decide)]
  exact hc
theorem AM.mt (h : AM sm y) (hc : MT sm n t) : MT y n t := hc.congr (h.2 3 (by decide) (by decide)) (h.1 86 (by decide) (by decide))
theorem AM.tx (h : AM sm y) (hx : TX T sc sm n t) : TX T sc y n t := by
  obtain ⟨h1, h2, h3, h4⟩ := hx
  refine ⟨h1, h.mt h2, h3, ?_⟩
  rw [h.1 89 (by decide) (by decide), h.1 90 (by decide) (by decide)]
  exact h4
theorem c84 (hT : TWF T) (hc : CC T x) (hk : k < T.z) : f_84 (k : Int) x = x 45 k ∧ g_84 (k : Int) x := by
  have h8 := hT.1
  unfold f_84 g_84
  rw [hc.1, Int.toNat_natCast, if_neg (by omega), if_neg (by omega)]
  exact ⟨rfl, fun _ => trivial, fun _ => ⟨fun _ => trivial, fun _ => ⟨by omega, trivial⟩⟩⟩
theorem c133l {i j : Nat} (hT : TWF T) (hc : CC T sc) (hC : CT sc n t) (hk : k < T.z) (h43 : sc 43 k = (j : Int) - i) (hij : i ≤ j) (hjn : j ≤ n) : ∀ (d e F : Nat) (x : Sg), AC sc x → i + e + d = j → j_133_48 (F + d + 1) (k : Int) (i : Int) (e : Int) x = some (cwr x (tbl t d (i + e))) := by
  intro d
  induction d with
  | zero =>
    intro e F x hx he
    obtain ⟨a1, a2⟩ := c82 hT (hx.cc hc) hk
    rw [j_133_48, gd_pos a2, a1, hx.1 43 (by decide) (by decide), h43, if_pos (by omega)]
    rfl
  | succ d ih =>
    intro e F x hx he
    have n8 := hC.2.1
    obtain ⟨a1, a2⟩ := c82 hT (hx.cc hc) hk
    obtain ⟨b1, b2⟩ := (hx.ct hC).at (i + e)
    rw [show F + (d + 1) + 1 = (F + d + 1) + 1 by omega, j_133_48, gd_pos a2, a1, hx.1 43 (by decide) (by decide), h43, if_neg (by omega), w32_add (by omega), b1, gd_pos b2, gd_pos (hx.2.g _), Option.bind_some, w32_nat (by omega), (hx.ct hC).ch (by omega)]
    have q : AC sc (f_134 (t (i + e)) x) := hx.wr [t (i + e)]
    rw [ih (e + 1) F _ q (by omega)]
    rfl
theorem c133 (hT : TWF T) (hc : CC T sc) (hX : TX T sc sm n t) (hk : k < T.z) (hx : AC sc x) : f_133 (k : Int) x = some (cwr x (lxb T sc t k)) := by
  obtain ⟨i, j, a1, a2, a3, a4, a5, a6, -⟩ := hX.2.2.2 k hk
  have n8 := hX.1.2.1
  have by1 : j_133_37 (k : Int) x = some (cwr x (tbl t (sc 43 k).toNat (T.fm k).toNat)) := by
    obtain ⟨b1, b2⟩ := c80 (hx.cc hc) hT (a := k) (by omega)
    unfold j_133_37
    rw [gd_pos b2, b1, a1]
    obtain ⟨F, hF⟩ := FU_split (k := j - i + 1) (by omega)
    have := c133l hT hc hX.1 hk a2 (by omega) a6 (j - i) 0 F x hx (by omega)
    rw [show F + (j - i) + 1 = FU by omega] at this
    have e0 : ((0 : Nat) : Int) = 0 := rfl
    rw [e0] at this
    rw [this, Int.toNat_natCast, a2, show ((j : Int) - i).toNat = j - i by omega]
    rfl
  obtain ⟨c1, c2⟩ := c79 (hx.cc hc) hT (a := k) (by omega)
  obtain ⟨d1, d2⟩ := c84 hT (hx.cc hc) hk
  obtain ⟨e1, e2⟩ := c81 (hx.cc hc) hT hk
  have vb := hT.2.2.2.2.1 k hk
  unfold f_133 lxb
  rw [gd_pos c2, c1]
  by_cases c : T.tk k = 2
  · rw [if_neg (fun u => u c), gd_pos d2, d1, hx.1 45 (by decide) (by decide)]
    by_cases d : sc 45 k = 3
    · rw [if_pos d, by1, if_neg (fun u => u.2 d)]
    · rw [if_neg d, gd_pos e2, e1, c137 vb.1 vb.2 hx.2, Option.bind_some, if_pos ⟨c, d⟩]
  · rw [if_pos c, by1, if_neg (fun u => c u.1)]
theorem m222l {j : Nat} (hM : MT sm n t) (ha : k < 8200) (a2 : sm 90 k = (j : Int)) (hjn : j ≤ n) : ∀ (d l F : Nat) (y : Sg), AM sm y → l + d = j → 0 ≤ y 84 9 → y 84 9 + (d : Int) ≤ 25000 → j_222_97 (F + d + 1) (k : Int) (l : Int) y = some (mwr y (tbl t d l)) := by
  intro d
  induction d with
  | zero =>
    intro l F y hy he hl hb
    rw [j_222_97, gd_pos (by omega), Int.toNat_natCast, hy.1 90 (by decide) (by decide), a2, if_pos (by omega)]
    rfl
  | succ d ih =>
    intro l F y hy he hl hb
    have n8 := hM.2.1
    have q : AM sm (f_221 (t l) y) := hy.wr [t l]
    have ln := m221_len (t l) (s := y) hl (by omega)
    rw [show F + (d + 1) + 1 = (F + d + 1) + 1 by omega, j_222_97, gd_pos (by omega), Int.toNat_natCast, hy.1 90 (by decide) (by decide), a2, if_neg (by omega), gd_pos (by omega), Int.toNat_natCast, ((hy.mt hM).2.2 l (by omega)).1, gd_pos (by unfold g_221; exact ⟨⟨by omega, by omega⟩, trivial⟩), Option.bind_some, w32_nat (by omega), ih (l + 1) F _ q (by omega) (by omega) (by omega)]
    rfl
theorem lxb_len (hT : TWF T) (hX : TX T sc sm n t) (hO : XO T sc) (hk : k < T.z) : T.fm k + ((lxb T sc t k).length : Int) ≤ T.fm (k + 1) := by
  have o := hO k hk
  unfold lxb
  by_cases c : T.tk k = 2
  · obtain ⟨i, j, a1, a2, a3, a4, a5, a6, aL⟩ := hX.nu hk c
    have nl := num_len aL a5 a6
    split
    · rw [dgl_len]; omega
    · rw [tbl_len]; omega
  · obtain ⟨i, j, a1, a2, a3, a4, a5, a6, -⟩ := hX.2.2.2 k hk
    rw [if_neg (fun u => c u.1), tbl_len]
    omega
theorem m222 (hT : TWF T) (hm : MC T sm) (hX : TX T sc sm n t) (hO : XO T sc) (hL : LF T sc sm k) (hP : POS T) (hk : k < T.z) (hy : AM sm y) (hl : 0 ≤ y 84 9) (hb : y 84 9 ≤ 16400) : f_222 (k : Int) y = some (mwr y (lxb T sc t k)) := by
  obtain ⟨i, j, a1, a2, a3, a4, a5, a6, -⟩ := hX.2.2.2 k hk
  have n8 := hX.1.2.1
  have h8 := hT.1
  have by1 : j_222_90 (k : Int) y = some (mwr y (tbl t (sc 43 k).toNat (T.fm k).toNat)) := by
    unfold j_222_90
    rw [gd_pos (by omega), Int.toNat_natCast, hy.1 89 (by decide) (by decide), a3]
    obtain ⟨F, hF⟩ := FU_split (k := j - i + 1) (by omega)
    have := m222l hX.2.1 (k := k) (by omega) a4 a6 (j - i) i F y hy (by omega) hl (by omega)
    rw [show F + (j - i) + 1 = FU by omega] at this
    rw [this, a1, Int.toNat_natCast, a2, show ((j : Int) - i).toNat = j - i by omega]
  have vb := hT.2.2.2.2.1 k hk
  have k2 : km (T.tk k) = 2 ↔ T.tk k = 2 := ⟨fun u => km_inj _ (hT.2.2.1 k hk).1 2 (by decide) (by rw [u]; decide), fun u => by rw [u]; decide⟩
  unfold f_222 lxb
  rw [gd_pos (by omega), Int.toNat_natCast, hy.1 88 (by decide) (by decide), hm.2 k (by omega)]
  by_cases c : T.tk k = 2
  · rw [if_neg (fun u => u (k2.mpr c)), gd_pos (by omega), hy.1 93 (by decide) (by decide), hL.2.2.1]
    by_cases d : sc 45 k = 3
    · rw [if_pos d, if_pos (by decide), by1, if_neg (fun u => u.2 d)]
    · rw [if_neg d, if_neg (by decide), m218 hT (hy.tx hX) hk c, Option.bind_some, m222d vb.1 vb.2 hl (by omega), if_pos ⟨c, d⟩]
  · rw [if_pos (fun u => c (k2.mp u)), by1, if_neg (fun u => c u.1)]
/-- a gap -/
theorem f136_s (p q : Int) (s s' : Sg) : f_136 p q s = f_136 p q s' := rfl
def gpl (b : Bool) : List Int := if b then [32] else []
theorem c132 (hT : TWF T) (hc : CC T sc) (hp : p < T.z) (hk : k < T.z) (hs : ¬ (17 ≤ T.tk k ∧ T.tk k ≤ 20)) (hx : AC sc x) : f_132 (p : Int) (k : Int) x = some (cwr x (gpl (gpC (decide (sc 45 p = 1)) (decide (sc 45 k = 1)) (T.tk p) (T.tk k)))) := by
  obtain ⟨c1, c2⟩ := c79 (hx.cc hc) hT (a := k) (by omega)
  obtain ⟨d1, d2⟩ := c79 (hx.cc hc) hT (a := p) (by omega)
  obtain ⟨e1, e2⟩ := c84 hT (hx.cc hc) hk
  obtain ⟨f1, f2⟩ := c84 hT (hx.cc hc) hp
  rw [hx.1 45 (by decide) (by decide)] at e1 f1
  have g135 : ∀ a : Int, g_84 a x → g_79 a x → g_135 a x := fun a u v => ⟨u, fun _ => trivial, fun _ => ⟨v, trivial⟩⟩
  have e135 : ∀ a : Nat, f_84 (a : Int) x = sc 45 a → f_79 (a : Int) x = T.tk a → (f_135 (a : Int) x = 0 ↔ ¬ (sc 45 a = 1 ∨ T.tk a = 61)) := fun a u v => by
    unfold f_135
    rw [u, v]
    by_cases q1 : sc 45 a = 1
    · rw [if_pos q1]; simp [q1]
    · rw [if_neg q1]
      by_cases q2 : T.tk a = 61
      · rw [if_neg (fun w => w q2)]; simp [q2]
      · rw [if_pos q2]; simp [q1, q2]
  have put : j_132_67 x = some (cwr x [32]) := by
    unfold j_132_67
    rw [gd_pos (hx.2.g _), Option.bind_some]
    rfl
  have main : j_132_36 (p : Int) (k : Int) (T.tk k) x = some (cwr x (gpl (gpC (decide (sc 45 p = 1)) (decide (sc 45 k = 1)) (T.tk p) (T.tk k)))) := by
    have ep := e135 p f1 d1
    have ek := e135 k e1 c1
    unfold j_132_36 gpC gpl
    rw [gd_pos (g135 _ f2 d2)]
    by_cases q1 : sc 45 p = 1 ∨ T.tk p = 61
    · rw [if_pos (fun u => (ep.mp u) q1), put]
      rcases q1 with u | u <;> simp [u]
    · rw [if_neg (fun u => u (ep.mpr q1)), gd_pos (g135 _ e2 c2)]
      by_cases q2 : sc 45 k = 1 ∨ T.tk k = 61
      · rw [if_pos (fun u => (ek.mp u) q2), put]
        rcases q2 with u | u <;> simp [u]
      · rw [if_neg (fun u => u (ek.mpr q2)), gd_pos d2, d1, f136_s _ _ x (fun _ _ => 0)]
        have q1' := not_or.mp q1
        have q2' := not_or.mp q2
        by_cases q3 : f_136 (T.tk p) (T.tk k) (fun _ _ => 0) = 0
        · rw [if_pos q3]; simp [q1'.1, q1'.2, q2'.1, q2'.2, q3, cwr_nil]
        · rw [if_neg q3, put]; simp [q3]
  unfold f_132
  rw [if_pos (by omega), gd_pos c2, c1]
  by_cases a : T.tk k < 17
  · rw [if_pos a, main]
  · rw [if_neg a, if_pos (by omega), main]
theorem c132n (hT : TWF T) (hc : CC T sc) (hk : k < T.z) (hs : 17 ≤ T.tk k ∧ T.tk k ≤ 20) (hx : AC sc x) : f_132 (p : Int) (k : Int) x = some (cwr x [10]) := by
  obtain ⟨c1, c2⟩ := c79 (hx.cc hc) hT (a := k) (by omega)
  unfold f_132
  rw [if_pos (by omega), gd_pos c2, c1, if_neg (by omega), if_neg (by omega), gd_pos (hx.2.g _), Option.bind_some]
  rfl
theorem f250_s (p : Int) (s s' : Sg) : f_250 p s = f_250 p s' := rfl
theorem m220 (hT : TWF T) (hm : MC T sm) (hp : p < T.z) (hk : k < T.z) (hLp : LF T sc sm p) (hLk : LF T sc sm k) (hy : AM sm y) : f_220 (p : Int) (k : Int) y = some (if gpR (decide (sc 45 p = 1)) (decide (sc 45 k = 1)) (T.tk p) (T.tk k) then 1 else 0) := by
  have h8 := hT.1
  have j64 : ∀ q : Int, j_220_64 q y = some (if gj q then 1 else 0) := fun q => by
    unfold j_220_64 gj
    by_cases a : q = 7
    · simp [a]
    · by_cases b : q = 8
      · simp [b]
      · simp [a, b]
  have j112 : ∀ q : Int, j_220_112 q y = some (if decide (f_250 q (fun _ _ => 0) ≠ 0) then 1 else 0) := fun q => by
    unfold j_220_112
    rw [f250_s _ y (fun _ _ => 0)]
    by_cases a : f_250 q (fun _ _ => 0) = 0
    · simp [a]
    · simp [a]
  unfold f_220 gpR
  simp only [gd_pos (show (0 : Int) ≤ (p : Int) ∧ (p : Int) < 8200 by omega), gd_pos (show (0 : Int) ≤ (k : Int) ∧ (k : Int) < 8200 by omega), Int.toNat_natCast, hy.1 88 (by decide) (by decide), hy.1 92 (by decide) (by decide), hm.2 p (by omega), hm.2 k (by omega), hLp.2.1, hLk.2.1, j64, j112, f250_s _ y (fun _ _ => 0)]
  have hA : (decide (sc 45 p = 1) || decide (T.tk p = 61) || decide (sc 45 k = 1) || decide (T.tk k = 61)) = true ↔ ((sc 45 p = 1 ∨ T.tk p = 61) ∨ (sc 45 k = 1 ∨ T.tk k = 61)) := by simp [or_assoc]
  by_cases A : sc 45 p = 1 ∨ T.tk p = 61
  · rw [if_pos A, if_pos (by decide), if_pos (hA.mpr (Or.inl A))]
  · rw [if_neg A, if_neg (by decide)]
    by_cases B : sc 45 k = 1 ∨ T.tk k = 61
    · rw [if_pos B, if_pos (by decide), if_pos (hA.mpr (Or.inr B))]
    · rw [if_neg B, if_neg (by decide), if_neg (fun u => (hA.mp u).elim A B)]
      generalize f_250 (km (T.tk p)) (fun _ _ => 0) = e
      generalize f_250 (km (T.tk k)) (fun _ _ => 0) = d
      generalize gj (km (T.tk k)) = g
      generalize km (T.tk p) = P
      generalize km (T.tk k) = Q
      by_cases p8 : P = 8
      · simp [p8]
      · by_cases p7 : P = 7
        · simp [p7]
        · by_cases p13 : P = 13
          · simp [p13]
          · by_cases p14 : P = 14
            · simp [p14]
            · rw [if_neg p8, if_neg p7, if_neg p13, if_neg p14, if_neg (show ¬ (P = 8 ∨ P = 7 ∨ P = 13 ∨ P = 14) by omega)]
              by_cases q14 : Q = 14
              · simp [q14]
              · by_cases q13 : Q = 13
                · simp [q13]
                · rw [if_pos q14, if_pos q13, if_neg q14, if_neg q13]
                  by_cases e0 : e = 0
                  · by_cases p16 : P = 16
                    · simp [e0, p16]
                    · by_cases p12 : P = 12
                      · simp [e0, p12]
                      · simp [e0, p16, p12]
                  · simp [e0]
end LXM
/-! PRINTING: the whole text. -/
section PRN
variable {T : TT} {sc sm x y : Sg} {n k p : Nat} {t : Nat → Int}
def ENd (T : TT) (k : Nat) : Prop := 1 ≤ k ∧ (T.tk (k - 1) = 59 ∨ T.tk (k - 1) = 125) ∧ dpt T k = 0
/-- p is the last lexeme before k that stays -/
def PV (T : TT) (p k : Nat) : Prop := p + 1 = k ∨ (p < k ∧ T.tk p ∈ opA ∧ T.tk (k - 1) = 40 ∧ T.tk k ≠ 41) ∨ (p < k ∧ T.tk p ≠ 40 ∧ PRQ (T.tk p) 41 ∧ T.tk (k - 1) = 41)
theorem PV.lt (h : PV T p k) : p < k := by
  rcases h with h | h | h
  · omega
  · exact h.1
  · exact h.1
theorem PV.drop (h : PV T p k) (hd : DR T k) (hq : PRQ (T.tk (k - 1)) (T.tk k)) : PV T p (k + 1) := by
  have lt := h.lt
  have e1 : k + 1 - 1 = k := by omega
  unfold PV
  rw [e1]
  rcases h with h | h | h
  · have e : k - 1 = p := by omega
    unfold DR at hd
    rw [e] at hd hq
    rcases hd with ⟨d1, d2, d3⟩ | ⟨d1, d2⟩
    · exact Or.inr (Or.inl ⟨by omega, d2, d1, d3⟩)
    · rw [d1] at hq
      exact Or.inr (Or.inr ⟨by omega, d2, hq, d1⟩)
  · obtain ⟨h1, h2, h3, h4⟩ := h
    rcases hd with ⟨d1, d2, d3⟩ | ⟨d1, d2⟩
    · exact Or.inr (Or.inl ⟨by omega, h2, d1, d3⟩)
    · exact absurd d1 h4
  · obtain ⟨h1, h2, h3, h4⟩ := h
    rcases hd with ⟨d1, d2, d3⟩ | ⟨d1, d2⟩
    · rw [h4] at d2
      exact absurd d2 (by decide)
    · exact Or.inr (Or.inr ⟨by omega, h2, h3, d1⟩)
theorem PV.gp (h : PV T p k) (hq : PRQ (T.tk (k - 1)) (T.tk k)) : gpb (T.tk p) (T.tk k) = true := by
  have hb := prqb_of hq
  unfold gpb
  rcases h with h | ⟨h1, h2, h3, h4⟩ | ⟨h1, h2, h3, h4⟩
  · rw [show k - 1 = p by omega] at hb
    rw [hb]; rfl
  · rw [h3] at hb
    simp [hb, h2, h4]
  · rw [h4] at hb
    simp [hb, h2, prqb_of h3]
theorem dpt_b (T : TT) (k : Nat) : -(k : Int) ≤ dpt T k ∧ dpt T k ≤ (k : Int) := by
  induction k with
  | zero => exact ⟨by simp [dpt], by simp [dpt]⟩
  | succ k ih =>
    rw [dpt]
    split
    · omega
    · split <;> omega
/-- all that printing asks of what was read -/
def PRI (T : TT) (sc sm : Sg) (n : Nat) (t : Nat → Int) : Prop := TWF T ∧ POS T ∧ XO T sc ∧ TX T sc sm n t ∧ CC T sc ∧ MC T sm ∧ (∀ k, k < T.z → LF T sc sm k) ∧ (∀ k, 1 ≤ k → k < T.z → PRQ (T.tk (k - 1)) (T.tk k)) ∧ (∀ k, k < T.z → STT T k) ∧ ENd T T.z
theorem km_7 : ∀ q ∈ kvl, (km q = 7 ↔ q = 59) ∧ (km q = 13 ↔ q = 123) ∧ (km q = 14 ↔ q = 125) := by decide +kernel
theorem m202s (H : PRI T sc sm n t) (hk : k < T.z) (hy : AM sm y) (hl : 0 ≤ y 84 9) (hb : y 84 9 + ((lxb T sc t k).length : Int) ≤ 16384) (K : Int → Int → Int → Sg → Option (Int × Sg)) :
    (ENd T (k + 1) → j_202_65 K (dpt T k) (k : Int) y = K (-1) (dpt T (k + 1)) ((k + 1 : Nat) : Int) (mwr y (lxb T sc t k ++ [10]))) ∧
    (¬ ENd T (k + 1) → j_202_65 K (dpt T k) (k : Int) y = K (k : Int) (dpt T (k + 1)) ((k + 1 : Nat) : Int) (mwr y (lxb T sc t k))) := by
  obtain ⟨hT, hP, hO, hX, hc, hm, hL, hQ, hS, hE⟩ := H
  have h8 := hT.1
  have db := dpt_b T k
  obtain ⟨k7, k13, k14⟩ := km_7 (T.tk k) (hT.2.2.1 k hk).1
  have hy1 := hy.wr (lxb T sc t k)
  have l1 := mwr_len (lxb T sc t k) y hl (by omega)
  have e0 : j_202_65 K (dpt T k) (k : Int) y = j_202_104 K (k : Int) (k : Int) (if T.tk k = 123 then 1 else if T.tk k = 125 then -1 else 0) (dpt T k) (mwr y (lxb T sc t k)) := by
    unfold j_202_65
    rw [m222 hT hm hX hO (hL k hk) hP hk hy hl (by omega), Option.bind_some, gd_pos (by omega), Int.toNat_natCast, hy1.1 88 (by decide) (by decide), hm.2 k (by omega)]
    by_cases a : T.tk k = 123
    · rw [if_neg (fun u => u (k13.mpr a)), if_pos a]
    · rw [if_pos (fun u => a (k13.mp u)), if_neg a, gd_pos (by omega)]
      by_cases b : T.tk k = 125
      · rw [if_neg (fun u => u (k14.mpr b)), if_pos b]
      · rw [if_pos (fun u => b (k14.mp u)), if_neg b]
  have e1 : ax_w32 (dpt T k + (if T.tk k = 123 then 1 else if T.tk k = 125 then -1 else 0)) = dpt T (k + 1) := by
    rw [dpt]
    split
    · rw [w32_id] <;> omega
    · split
      · rw [w32_id] <;> omega
      · rw [w32_id] <;> omega
  have pt : ∀ l2, j_202_137 K (k : Int) l2 (k : Int) 1 (mwr y (lxb T sc t k)) = K (-1) l2 ((k + 1 : Nat) : Int) (mwr y (lxb T sc t k ++ [10])) := fun l2 => by
    unfold j_202_137 j_202_152
    rw [if_neg (by decide), gd_pos (by unfold g_221; exact ⟨⟨by omega, by omega⟩, trivial⟩), Option.bind_some, w32_nat (by omega), mwr_app]
    rfl
  have np : ∀ l2, j_202_137 K (k : Int) l2 (k : Int) 0 (mwr y (lxb T sc t k)) = K (k : Int) l2 ((k + 1 : Nat) : Int) (mwr y (lxb T sc t k)) := fun l2 => by
    unfold j_202_137 j_202_152
    rw [if_pos rfl, w32_nat (by omega)]
  rw [e0]
  unfold j_202_104
  rw [e1, hy1.1 88 (by decide) (by decide), Int.toNat_natCast, hm.2 k (by omega)]
  have en : ENd T (k + 1) ↔ ((T.tk k = 59 ∨ T.tk k = 125) ∧ dpt T (k + 1) = 0) := by
    unfold ENd
    rw [show k + 1 - 1 = k by omega]
    exact ⟨fun u => u.2, fun u => ⟨by omega, u⟩⟩
  rw [en]
  refine ⟨fun u => ?_, fun u => ?_⟩
  · rw [if_neg (fun v => v u.2), gd_pos (by omega)]
    by_cases a : T.tk k = 59
    · rw [if_pos (k7.mpr a)]
      unfold j_202_132
      exact pt _
    · rw [if_neg (fun v => a (k7.mp v)), gd_pos (by omega), if_neg (fun v => v (k14.mpr (u.1.resolve_left a)))]
      exact pt _
  · by_cases d : dpt T (k + 1) = 0
    · have a : ¬ T.tk k = 59 := fun v => u ⟨Or.inl v, d⟩
      have b : ¬ T.tk k = 125 := fun v => u ⟨Or.inr v, d⟩
      rw [if_neg (fun v => v d), gd_pos (by omega), if_neg (fun v => a (k7.mp v)), gd_pos (by omega), if_pos (fun v => b (k14.mp v))]
      exact np _
    · rw [if_pos d]
      unfold j_202_136
      exact np _
def byl (B : List Int) : Prop := ∀ b ∈ B, 0 ≤ b ∧ b < 256
theorem byl.app {A B : List Int} (h : byl A) (k : byl B) : byl (A ++ B) := fun b hb => (List.mem_append.mp hb).elim (h b) (k b)
theorem byl_dgl (v : Int) : ∀ e, byl (dgl v e) := by
  intro e
  induction e with
  | zero => intro b hb; rw [dgl, List.mem_singleton] at hb; omega
  | succ e ih =>
    intro b hb
    rw [dgl, List.mem_cons] at hb
    rcases hb with u | u
    · omega
    · exact ih b u
theorem byl_tbl {sc : Sg} (h : CT sc n t) : ∀ d i, i + d ≤ n → byl (tbl t d i) := by
  intro d
  induction d with
  | zero => intro i _ b hb; rw [tbl] at hb; cases hb
  | succ d ih =>
    intro i hi b hb
    rw [tbl, List.mem_cons] at hb
    rcases hb with u | u
    · rw [u]; exact (h.2.2 i (by omega)).2
    · exact ih (i + 1) (by omega) b u
theorem byl_lxb (hX : TX T sc sm n t) (hk : k < T.z) : byl (lxb T sc t k) := by
  unfold lxb
  obtain ⟨i, j, a1, a2, a3, a4, a5, a6, -⟩ := hX.2.2.2 k hk
  split
  · exact byl_dgl _ _
  · rw [a1, a2, Int.toNat_natCast]
    exact byl_tbl hX.1 _ _ (by omega)
theorem byl_1 {v : Int} (h : 0 ≤ v ∧ v < 256) : byl [v] := fun b hb => by rw [List.mem_singleton] at hb; omega
theorem byl_gpl (b : Bool) : byl (gpl b) := by
  unfold gpl
  split
  · exact byl_1 (by decide)
  · intro b hb; cases hb
theorem prn (H : PRI T sc sm n t) {x0 y0 : Sg} (hx0 : AC sc x0) (hx2 : x0 82 2 = 0) (hy0 : AM sm y0) (hy2 : y0 84 9 = 0) : ∀ (d k Fc Fm : Nat) (B B' : List Int) (l l' : Int), k + d = T.z → byl B → (B.length : Int) ≤ T.fm k + ((k - 1 : Nat) : Int) →
    ((ENd T k ∧ B' = B ++ [10] ∧ l = ((k - 1 : Nat) : Int) ∧ l' = -1) ∨ (¬ ENd T k ∧ B' = B ∧ l' = l ∧ (l = -1 ∨ ∃ p : Nat, l = (p : Int) ∧ PV T p k))) →
    ∃ R : List Int, j_128_9 (Fc + d + 1) l (k : Int) (cwr x0 B) = some (cwr x0 R) ∧ j_202_29 (Fm + d + 1) l' (dpt T k) (k : Int) (mwr y0 B') = some ((R.length : Int), mwr y0 R) ∧ R.length ≤ 16384 ∧ byl R := by
  obtain ⟨hT, hP, hO, hX, hc, hm, hL, hQ, hS, hE⟩ := id H
  have h8 := hT.1
  have fz := hP.2.2.2
  have fmz : ∀ k, k ≤ T.z → T.fm k + ((T.z - k : Nat) : Int) ≤ T.fm T.z := fun k hk => by
    have := hP.add (T.z - k) (k := k) (by omega)
    rw [show k + (T.z - k) = T.z by omega] at this
    exact this
  intro d
  induction d with
  | zero =>
    intro k Fc Fm B B' l l' hk hy hB hI
    have kz : k = T.z := by omega
    subst kz
    rcases hI with ⟨i1, i2, i3, i4⟩ | ⟨i1, -⟩
    · have hxB := hx0.wr B
      have hyB := hy0.wr B'
      have z1 := hE.1
      have len : (B'.length : Int) = (B.length : Int) + 1 := by rw [i2, List.length_append]; simp
      refine ⟨B ++ [10], ?_, ?_, ?_, hy.app (byl_1 (by decide))⟩
      · rw [j_128_9, hxB.1 39 (by decide) (by decide), hc.1, if_pos (by omega)]
        unfold j_128_51
        rw [gd_pos (hxB.2.g _), Option.bind_some, cwr_app]
        rfl
      · rw [j_202_29, hyB.2 11 (by decide) (by decide), hm.1, if_pos (by omega), mwr_len B' y0 (by omega) (by omega), hy2, i2]
        simp
      · rw [List.length_append]
        simp only [List.length_cons, List.length_nil]
        omega
    · exact absurd hE i1
  | succ d ih =>
    intro k Fc Fm B B' l l' hk hy hB hI
    have kz : k < T.z := by omega
    have hLk := hL k kz
    have hSk := hS k kz
    have f1 := hP.1 k kz
    have f2 := fmz (k + 1) (by omega)
    have hxB := hx0.wr B
    obtain ⟨s1, s2⟩ := c84 hT (hxB.cc hc) kz
    rw [hxB.1 45 (by decide) (by decide)] at s1
    have stk : ENd T k ↔ 17 ≤ T.tk k ∧ T.tk k ≤ 20 := ⟨fun u => hSk.mpr u, fun u => hSk.mp u⟩
    have lB' : (B'.length : Int) ≤ (B.length : Int) + 1 := by
      rcases hI with ⟨-, i2, -⟩ | ⟨-, i2, -⟩
      · rw [i2, List.length_append]; simp
      · rw [i2]; omega
    have bl1 : y0 84 9 + (B'.length : Int) ≤ 25000 := by clear hI; omega
    have ylen := mwr_len B' y0 (by clear hI; omega) bl1
    rw [hy2] at ylen
    have hyB := hy0.wr B'
    have EC : j_128_9 ((Fc + d + 1) + 1) l (k : Int) (cwr x0 B) = if sc 45 k = 2 then j_128_45 (j_128_9 (Fc + d + 1)) l (k : Int) (cwr x0 B) else (f_132 l (k : Int) (cwr x0 B)).bind fun q2 => (f_133 (k : Int) q2).bind fun q3 => j_128_45 (j_128_9 (Fc + d + 1)) (k : Int) (k : Int) q3 := by
      clear hI
      rw [j_128_9, hxB.1 39 (by decide) (by decide), hc.1, if_neg (by omega), gd_pos s2, s1]
    have EM : j_202_29 ((Fm + d + 1) + 1) l' (dpt T k) (k : Int) (mwr y0 B') = if ¬ ((if sc 45 k = 2 then 1 else 0 : Int) = 0) then j_202_152 (j_202_29 (Fm + d + 1)) l' (dpt T k) (k : Int) (mwr y0 B') else (if l' < 0 then j_202_65 (j_202_29 (Fm + d + 1)) (dpt T k) (k : Int) (mwr y0 B') else (f_220 l' (k : Int) (mwr y0 B')).bind fun q3 => if q3 = 0 then j_202_65 (j_202_29 (Fm + d + 1)) (dpt T k) (k : Int) (mwr y0 B') else gd (g_221 32 (mwr y0 B')) ((some (f_221 32 (mwr y0 B'))).bind fun q4 => j_202_65 (j_202_29 (Fm + d + 1)) (dpt T k) (k : Int) q4)) := by
      clear hI
      rw [j_202_29, hyB.2 11 (by decide) (by decide), hm.1, if_neg (by omega), gd_pos (by omega), Int.toNat_natCast, hyB.1 91 (by decide) (by decide), hLk.1]
    rw [show Fc + (d + 1) + 1 = (Fc + d + 1) + 1 by omega, show Fm + (d + 1) + 1 = (Fm + d + 1) + 1 by omega, EC, EM]
    by_cases dr : sc 45 k = 2
    · -- dropped
      have hD := hLk.2.2.2.1 dr
      have tk4 : T.tk k = 40 ∨ T.tk k = 41 := by
        rcases hD with u | u
        · exact Or.inl u.1
        · exact Or.inr u.1
      rw [if_pos dr, if_pos dr, if_pos (by decide)]
      unfold j_128_45 j_202_152
      rw [w32_nat (by omega)]
      rcases hI with ⟨i1, -⟩ | ⟨i1, i2, i3, i4⟩
      · have := stk.mp i1
        omega
      · have de : dpt T (k + 1) = dpt T k := by rw [dpt, if_neg (by omega), if_neg (by omega)]; omega
        rw [← de]
        refine ih (k + 1) Fc Fm B B' l l' (by omega) hy (by omega) (Or.inr ⟨?_, i2, i3, ?_⟩)
        · intro u
          have := u.2.1
          rw [show k + 1 - 1 = k by clear i4; omega] at this
          clear i4
          omega
        · rcases i4 with u | ⟨p, u, v⟩
          · exact Or.inl u
          · have := v.lt
            exact Or.inr ⟨p, u, v.drop hD (hQ k (by omega) kz)⟩
    · rw [if_neg dr, if_neg dr, if_neg (by decide)]
      -- the gap
      have gap : ∃ C : List Int, f_132 l (k : Int) (cwr x0 B) = some (cwr x0 C) ∧ (if l' < 0 then j_202_65 (j_202_29 (Fm + d + 1)) (dpt T k) (k : Int) (mwr y0 B') else (f_220 l' (k : Int) (mwr y0 B')).bind fun q3 => if q3 = 0 then j_202_65 (j_202_29 (Fm + d + 1)) (dpt T k) (k : Int) (mwr y0 B') else gd (g_221 32 (mwr y0 B')) ((some (f_221 32 (mwr y0 B'))).bind fun q4 => j_202_65 (j_202_29 (Fm + d + 1)) (dpt T k) (k : Int) q4)) = j_202_65 (j_202_29 (Fm + d + 1)) (dpt T k) (k : Int) (mwr y0 C) ∧ (C.length : Int) ≤ T.fm k + (k : Int) ∧ byl C := by
        rcases hI with ⟨i1, i2, i3, i4⟩ | ⟨i1, i2, i3, i4⟩
        · refine ⟨B ++ [10], ?_, ?_, ?_, hy.app (byl_1 (by decide))⟩
          · rw [i3, c132n hT hc kz (stk.mp i1) hxB, cwr_app]
          · rw [i4, if_pos (by decide), i2]
          · rw [List.length_append]
            simp only [List.length_cons, List.length_nil]
            have := i1.1
            omega
        · rcases i4 with u | ⟨p, u, v⟩
          · refine ⟨B, ?_, ?_, by omega, hy⟩
            · rw [u]
              unfold f_132
              rw [if_neg (by decide)]
            · rw [i3, u, if_pos (by decide), i2]
          · have plt := v.lt
            have hs : ¬ (17 ≤ T.tk k ∧ T.tk k ≤ 20) := fun w => i1 (stk.mpr w)
            have hLp := hL p (by omega)
            have ge := gap_eq (a := decide (sc 45 p = 1)) (b := decide (sc 45 k = 1)) (hT.2.2.1 p (by omega)).1 (hT.2.2.1 k kz).1 (v.gp (hQ k (by omega) kz)) hs (fun w => hLp.2.2.2.2 (of_decide_eq_true w)) (fun w => hLk.2.2.2.2 (of_decide_eq_true w))
            have e1 := c132 (p := p) hT hc (by omega) kz hs hxB
            have e2 := m220 (p := p) (sc := sc) hT hm (by omega) kz hLp hLk hyB
            rw [← ge] at e2
            refine ⟨B ++ gpl (gpC (decide (sc 45 p = 1)) (decide (sc 45 k = 1)) (T.tk p) (T.tk k)), ?_, ?_, ?_, hy.app (byl_gpl _)⟩
            · rw [u, e1, cwr_app]
            · rw [i3, u, if_neg (by omega), e2, Option.bind_some, mwr_app, i2]
              unfold gpl
              cases gpC (decide (sc 45 p = 1)) (decide (sc 45 k = 1)) (T.tk p) (T.tk k) with
              | true =>
                rw [if_pos rfl, if_neg (by decide), if_pos rfl, gd_pos (by rw [← i2]; unfold g_221; exact ⟨⟨by omega, by omega⟩, trivial⟩), Option.bind_some]
                rfl
              | false =>
                rfl
            · rw [List.length_append]
              have : (gpl (gpC (decide (sc 45 p = 1)) (decide (sc 45 k = 1)) (T.tk p) (T.tk k))).length ≤ 1 := by
                unfold gpl
                split <;> simp
              omega
      obtain ⟨C, g1, g2, g3, g4⟩ := gap
      have hyC2 := g4.app (byl_lxb hX kz)
      have hxC := hx0.wr C
      have hyC := hy0.wr C
      have ll := lxb_len hT hX hO kz
      have clen := mwr_len C y0 (by omega) (by omega)
      rw [hy2] at clen
      rw [g1, Option.bind_some, c133 hT hc hX kz hxC, Option.bind_some, g2, ← cwr_app]
      unfold j_128_45
      rw [w32_nat (by omega)]
      obtain ⟨m1, m2⟩ := m202s H kz hyC (by omega) (by omega) (j_202_29 (Fm + d + 1))
      have le : ((C ++ lxb T sc t k).length : Int) ≤ T.fm (k + 1) + ((k + 1 - 1 : Nat) : Int) := by
        rw [List.length_append, show k + 1 - 1 = k by omega]
        omega
      by_cases en : ENd T (k + 1)
      · rw [m1 en, ← mwr_app, ← List.append_assoc]
        exact ih (k + 1) Fc Fm (C ++ lxb T sc t k) (C ++ lxb T sc t k ++ [10]) (k : Int) (-1) (by omega) hyC2 le (Or.inl ⟨en, rfl, by rw [show k + 1 - 1 = k by omega], rfl⟩)
      · rw [m2 en, ← mwr_app]
        exact ih (k + 1) Fc Fm (C ++ lxb T sc t k) (C ++ lxb T sc t k) (k : Int) (k : Int) (by omega) hyC2 le (Or.inr ⟨en, rfl, rfl, Or.inr ⟨k, rfl, Or.inl rfl⟩⟩)
/-- both print the same bytes -/
theorem print_sim (H : PRI T sc sm n t) : ∃ R : List Int, f_128 sc = some (cwr (ax_u2 sc 82 2 0) R) ∧ (sm 84 5 ≠ 0 → f_202 sm = some ((R.length : Int), mwr (ax_u2 (ax_u2 sm 84 0 0) 84 9 0) R)) ∧ R.length ≤ 16384 ∧ byl R := by
  have h8 := H.1.1
  obtain ⟨F, hF⟩ := FU_split (k := T.z + 1) (by omega)
  have ac : AC sc (ax_u2 sc 82 2 0) := ⟨fun c a b => u2_row _ _ _ a, by unfold WC; rw [u2_at, if_pos rfl]; exact ⟨by decide, by decide⟩⟩
  have am : AM sm (ax_u2 (ax_u2 sm 84 0 0) 84 9 0) := ⟨fun c a b => by rw [u2_row _ _ _ a, u2_row _ _ _ a], fun j a b => by rw [u2_col _ _ _ b, u2_col _ _ _ a]⟩
  have f0 := H.1.2.2.2.1 0 (by omega)
  obtain ⟨R, r1, r2, r3⟩ := prn H ac (by rw [u2_at, if_pos rfl]) am (by rw [u2_at, if_pos rfl]) T.z 0 F F [] [] (-1) (-1) (by omega) (fun b hb => by cases hb) (by simpa using f0) (Or.inr ⟨fun u => absurd u.1 (by omega), rfl, rfl, Or.inl rfl⟩)
  rw [show F + T.z + 1 = FU by omega] at r1 r2
  refine ⟨R, ?_, fun h5 => ?_, r3⟩
  · unfold f_128
    exact r1
  · unfold f_202
    rw [if_pos h5]
    exact r2
end PRN
/-! BETWEEN TWO CALLS. -/
section GII
variable {s s' : Sg} {n : Nat} {a b c d : Int}
/-- all that was read, when nothing was wrong -/
def KN (s : Sg) : Prop := ∃ (T : TT) (t : Nat → Int) (n : Nat) (sc0 sm0 sc1 sm1 x y : Sg) (S P A N K C : Nat), TWF T ∧ POS T ∧ TX T sc0 sm0 n t ∧ XO T sc0 ∧ PS0 T sc0 sm0 sc1 sm1 T.z S P A N K C 1 ∧ CHO sc1 sm1 x y N ∧ y 84 6 = 0 ∧ (∀ c, c = 1 ∨ 30 ≤ c ∧ c ≤ 81 → s c = x c) ∧ (∀ c, c = 86 ∨ 88 ≤ c ∧ c ≤ 135 → s c = y c) ∧ (∀ j, j ≠ 0 → j ≠ 1 → j ≠ 5 → j ≠ 9 → s 84 j = y 84 j)
def GT (s : Sg) : Prop := ∃ n : Nat, s 27 1 = (n : Int) ∧ n ≤ 8192 ∧ s 84 1 = (n : Int) ∧ ∀ i, i < n → s 28 i % 256 = s 85 i ∧ 0 ≤ s 85 i ∧ s 85 i < 256
def GP (s : Sg) : Prop := ∃ L : Nat, s 82 2 = (L : Int) ∧ L ≤ 16384 ∧ s 84 9 = (L : Int) ∧ ∀ i, i < L → s 83 i % 256 = s 87 i ∧ 0 ≤ s 87 i ∧ s 87 i < 256
def GK (s : Sg) : Prop := (s 27 2 = 0 ∧ s 84 5 = 0 ∧ s 54 6 = 0 ∧ s 46 7 = 0 ∧ s 39 9 = 0) ∨ (s 27 2 = 1 ∧ s 84 5 = 1 ∧ KN s)
def GIV (s : Sg) : Prop := NMI s ∧ GT s ∧ GP s ∧ GK s ∧ RB s ∧ RM s ∧ RGS s s
theorem RGS.cg (h : RGS s s) (h1 : s' 74 = s 74) (h2 : s' 81 = s 81) (h3 : s' 134 = s 134) (h4 : s' 84 6 = s 84 6) (h5 : s' 84 72 = s 84 72) : RGS s' s' := by
  unfold RGS at *
  rw [h1, h2, h3, h4, h5]
  exact h
theorem GT.cg (h : GT s) (h1 : s' 27 1 = s 27 1) (h2 : s' 28 = s 28) (h3 : s' 84 1 = s 84 1) (h4 : s' 85 = s 85) : GT s' := by
  unfold GT at *
  rw [h1, h2, h3, h4]
  exact h
theorem GP.cg (h : GP s) (h1 : s' 82 2 = s 82 2) (h2 : s' 83 = s 83) (h3 : s' 84 9 = s 84 9) (h4 : s' 87 = s 87) : GP s' := by
  unfold GP at *
  rw [h1, h2, h3, h4]
  exact h
theorem KN.cg (h : KN s) (h1 : ∀ c, c = 1 ∨ 30 ≤ c ∧ c ≤ 81 → s' c = s c) (h2 : ∀ c, c = 86 ∨ 88 ≤ c ∧ c ≤ 135 → s' c = s c) (h3 : ∀ j, j ≠ 0 → j ≠ 1 → j ≠ 5 → j ≠ 9 → s' 84 j = s 84 j) : KN s' := by
  obtain ⟨T, t, n, sc0, sm0, sc1, sm1, x, y, S, P, A, N, K, C, a1, a2, a3, a4, a5, a6, a7, a8, a9, a10⟩ := h
  exact ⟨T, t, n, sc0, sm0, sc1, sm1, x, y, S, P, A, N, K, C, a1, a2, a3, a4, a5, a6, a7, fun c u => (h1 c u).trans (a8 c u), fun c u => (h2 c u).trans (a9 c u), fun j u1 u2 u3 u4 => (h3 j u1 u2 u3 u4).trans (a10 j u1 u2 u3 u4)⟩
theorem GK.cg (h : GK s) (h0 : s' 27 2 = s 27 2) (h5 : s' 84 5 = s 84 5) (h1 : ∀ c, c = 1 ∨ 30 ≤ c ∧ c ≤ 81 → s' c = s c) (h2 : ∀ c, c = 86 ∨ 88 ≤ c ∧ c ≤ 135 → s' c = s c) (h3 : ∀ j, j ≠ 0 → j ≠ 1 → j ≠ 5 → j ≠ 9 → s' 84 j = s 84 j) : GK s' := by
  rcases h with ⟨a1, a2, a3, a4, a5⟩ | ⟨a1, a2, a3⟩
  · exact Or.inl ⟨h0.trans a1, h5.trans a2, by rw [h1 54 (by decide)]; exact a3, by rw [h1 46 (by decide)]; exact a4, by rw [h1 39 (by decide)]; exact a5⟩
  · exact Or.inr ⟨h0.trans a1, h5.trans a2, a3.cg h1 h2 h3⟩
theorem NMI.cg (h : NMI s) (h0 : ∀ c, 1 ≤ c ∧ c ≤ 5 ∨ 31 ≤ c ∧ c ≤ 35 → s' c = s c) : NMI s' := by
  obtain ⟨h1, h2, h3, h4, h5⟩ := h
  refine ⟨h1.row (h0 1 (by decide)) (h0 2 (by decide)) (h0 3 (by decide)) (h0 4 (by decide)) (h0 5 (by decide)), by rw [h0 31 (by decide)]; exact h2, by rw [h0 31 (by decide)]; exact h3, by rw [h0 31 (by decide)]; exact h4, ?_⟩
  have ni : ∀ m, NI s m → NI s' m := fun m u => u.congr (by rw [h0 31 (by decide)]) (h0 32 (by decide)) (h0 33 (by decide)) (h0 34 (by decide)) (h0 35 (by decide))
  rcases h5 with u | ⟨m, u1, u2, u3, u4⟩
  · exact Or.inl (ni 0 u)
  · refine Or.inr ⟨m, ni m u1, u2, u3, ?_⟩
    unfold WD at *
    rw [h0 34 (by decide), h0 35 (by decide)]
    exact u4
/-- rows that the class keeps its answer and the reference its mark in -/
def QF (s s' : Sg) : Prop := (∀ c, c ≠ 84 → c ≠ 136 → s' c = s c) ∧ (∀ j, j ≠ 0 → s' 84 j = s 84 j)
theorem QF.refl (s : Sg) : QF s s := ⟨fun _ _ _ => rfl, fun _ _ => rfl⟩
theorem QF.trans {s2 : Sg} (h : QF s s') (k : QF s' s2) : QF s s2 := ⟨fun c u v => (k.1 c u v).trans (h.1 c u v), fun j u => (k.2 j u).trans (h.2 j u)⟩
theorem QF.a136 (s : Sg) (v : Int) : QF s (ax_u2 s 136 (0 : Int).toNat v) := ⟨fun c _ v => u2_row _ _ _ v, fun j _ => by rw [u2_row _ _ _ (by decide)]⟩
theorem QF.a84 (s : Sg) (v : Int) : QF s (ax_u2 s 84 0 v) := ⟨fun c u _ => u2_row _ _ _ u, fun j u => u2_col _ _ _ u⟩
theorem QF.gi (h : QF s s') (g : GIV s) : GIV s' := by
  obtain ⟨g1, g2, g3, g4, g5, g6, g7⟩ := g
  have r : ∀ c, c < 84 ∨ 84 < c ∧ c < 136 → s' c = s c := fun c u => h.1 c (by omega) (by omega)
  refine ⟨g1.cg (fun c u => r c (by omega)), g2.cg (by rw [r 27 (by decide)]) (r 28 (by decide)) (h.2 1 (by decide)) (r 85 (by decide)), g3.cg (by rw [r 82 (by decide)]) (r 83 (by decide)) (h.2 9 (by decide)) (r 87 (by decide)), g4.cg (by rw [r 27 (by decide)]) (h.2 5 (by decide)) (fun c u => r c (by omega)) (fun c u => r c (by omega)) (fun j u _ _ _ => h.2 j u), ?_, ?_, g7.cg (r 74 (by decide)) (r 81 (by decide)) (r 134 (by decide)) (h.2 6 (by decide)) (h.2 72 (by decide))⟩
  · unfold RB at *
    rw [r 74 (by decide)]; exact g5
  · unfold RM at *
    rw [h.2 72 (by decide)]; exact g6
/-- FEED -/
theorem byt {k : Int} (hk : k = 24 ∨ k = 16 ∨ k = 8 ∨ k = 0) (a : Int) : ax_w8 (ax_w8 (ax_iushr a k)) % 256 = ax_iand (ax_ishr a k) 255 := by
  rw [w8_mod, w8_mod, iand255]
  have key : ∀ m : Nat, m = 24 ∨ m = 16 ∨ m = 8 ∨ m = 0 → (BitVec.ofInt 32 a >>> m).toInt % 256 = ((BitVec.ofInt 32 a).sshiftRight m).toInt % 256 := by
    intro m hm
    generalize BitVec.ofInt 32 a = v
    have lt : v.toNat < 4294967296 := v.isLt
    rw [BitVec.toInt_sshiftRight, BitVec.toInt_eq_toNat_bmod, BitVec.toNat_ushiftRight, BitVec.toInt_eq_toNat_bmod, Nat.shiftRight_eq_div_pow, Int.shiftRight_eq_div_pow]
    unfold Int.bmod
    rcases hm with e | e | e | e <;> subst e <;> simp only [Nat.reducePow, Int.natCast_ediv] <;> split <;> split <;> omega
  rcases hk with e | e | e | e <;> subst e
  · exact key 24 (by decide)
  · exact key 16 (by decide)
  · exact key 8 (by decide)
  · exact key 0 (by decide)
def pt1 (s : Sg) (n : Nat) (b : Int) : Sg := ax_u2 (ax_u2 s 28 n b) 27 1 ((n + 1 : Nat) : Int)
def ptl : Sg → Nat → List Int → Sg
  | s, _, [] => s
  | s, n, b :: L => ptl (pt1 s n b) (n + 1) L
theorem ptl_row {q : Nat} (h : q ≠ 27) (h' : q ≠ 28) : ∀ (L : List Int) (s : Sg) (n : Nat), ptl s n L q = s q := by
  intro L
  induction L with
  | nil => intro s n; rfl
  | cons b L ih => intro s n; rw [ptl, ih]; unfold pt1; rw [u2_row _ _ _ h, u2_row _ _ _ h']
theorem ptl_j {j : Nat} (h : j ≠ 1) : ∀ (L : List Int) (s : Sg) (n : Nat), ptl s n L 27 j = s 27 j := by
  intro L
  induction L with
  | nil => intro s n; rfl
  | cons b L ih => intro s n; rw [ptl, ih]; unfold pt1; rw [u2_col _ _ _ h, u2_row _ _ _ (by decide)]
theorem ptl_len : ∀ (L : List Int) (s : Sg) (n : Nat), s 27 1 = (n : Int) → ptl s n L 27 1 = ((n + L.length : Nat) : Int) := by
  intro L
  induction L with
  | nil => intro s n h; rw [ptl, h]; rfl
  | cons b L ih =>
    intro s n h
    rw [ptl, ih _ (n + 1) (by unfold pt1; rw [u2_at, if_pos rfl]), List.length_cons]
    congr 1
    omega
theorem ptl_at : ∀ (L : List Int) (s : Sg) (n : Nat), (∀ i, i < n → ptl s n L 28 i = s 28 i) ∧ (∀ i, i < L.length → ptl s n L 28 (n + i) = L.getD i 0) := by
  intro L
  induction L with
  | nil => intro s n; exact ⟨fun _ _ => rfl, fun i hi => absurd hi (by simp)⟩
  | cons b L ih =>
    intro s n
    obtain ⟨i1, i2⟩ := ih (pt1 s n b) (n + 1)
    have r : ∀ i, pt1 s n b 28 i = if i = n then b else s 28 i := fun i => by unfold pt1; rw [u2_row _ _ _ (by decide), u2_at]
    refine ⟨fun i hi => ?_, fun i hi => ?_⟩
    · rw [ptl, i1 i (by omega), r, if_neg (by omega)]
    · rw [List.length_cons] at hi
      rw [ptl]
      cases i with
      | zero =>
        show ptl (pt1 s n b) (n + 1) L 28 n = b
        rw [i1 n (by omega), r, if_pos rfl]
      | succ i => rw [show n + (i + 1) = n + 1 + i by omega, i2 i (by omega)]; rfl
def ba (a k : Int) : Int := ax_w8 (ax_w8 (ax_iushr a k))
theorem c13s {F : Nat} {k : Int} (h1 : s 27 1 = (n : Int)) (hn : n < 8192) (k0 : 0 ≤ k) (k1 : k ≤ 24) : j_13_3 (F + 1) a k s = j_13_3 F a (k - 8) (pt1 s n (ba a k)) := by
  rw [j_13_3, if_neg (by omega), h1, if_neg (by omega), gd_pos (by omega), Int.toNat_natCast, w32_nat (by omega)]
  unfold j_13_42
  rw [w32_id (by omega) (by omega)]
  rfl
theorem c13 (h1 : s 27 1 = (n : Int)) (hn : n + 4 ≤ 8192) : f_13 a s = some (ptl s n [ba a 24, ba a 16, ba a 8, ba a 0]) := by
  have p1 : ∀ (s : Sg) (m : Nat) (b : Int), pt1 s m b 27 1 = ((m + 1 : Nat) : Int) := fun s m b => by unfold pt1; rw [u2_at, if_pos rfl]
  obtain ⟨F, hF⟩ := FU_split (k := 5) (by omega)
  unfold f_13
  rw [show FU = ((((F + 1) + 1) + 1) + 1) + 1 by omega, c13s h1 (by omega) (by decide) (by decide), c13s (p1 _ _ _) (by omega) (by decide) (by decide), c13s (p1 _ _ _) (by omega) (by decide) (by decide), c13s (p1 _ _ _) (by omega) (by decide) (by decide), j_13_3, if_pos (by decide)]
  rfl
def rby (a b c d e : Int) : Int := ax_iand (ax_ishr ((if 4 ≤ e then (if 8 ≤ e then (if 12 ≤ e then d else c) else b) else a) : Int) (ax_w32 (24 - (ax_w32 (8 * (ax_irem e 4)))))) 255
theorem m193l : ∀ (r l F : Nat) (s : Sg), l + r = 16 → s 84 1 = (n : Int) → n + 16 ≤ 8192 → ∃ s' : Sg, j_193_27 (F + r + 1) a b c d (l : Int) s = j_193_101 s' ∧ (∀ q, q ≠ 85 → s' q = s q) ∧ (∀ i, i < n + l → s' 85 i = s 85 i) ∧ (∀ e : Nat, l ≤ e → e < 16 → s' 85 (n + e) = rby a b c d (e : Int)) := by
  intro r
  induction r with
  | zero =>
    intro l F s hl h1 hn
    exact ⟨s, by rw [j_193_27, if_pos (by omega)], fun _ _ => rfl, fun _ _ => rfl, fun e x y => absurd y (by omega)⟩
  | succ r ih =>
    intro l F s hl h1 hn
    obtain ⟨s', e1, e2, e3, e4⟩ := ih (l + 1) F (ax_u2 s 85 (n + l) (rby a b c d (l : Int))) (by omega) (by rw [u2_row _ _ _ (by decide)]; exact h1) hn
    refine ⟨s', ?_, fun q u => by rw [e2 q u, u2_row _ _ _ u], fun i hi => by rw [e3 i (by omega), u2_col _ _ _ (by omega)], fun e x y => ?_⟩
    · rw [show F + (r + 1) + 1 = (F + r + 1) + 1 by omega, j_193_27, if_neg (by omega), h1, w32_add (by omega), gd_pos (by omega), Int.toNat_natCast, w32_nat (by omega)]
      exact e1
    · by_cases q : e = l
      · rw [q, e3 (n + l) (by omega), u2_at, if_pos rfl]
      · exact e4 e (by omega) y
theorem irem4 {x : Int} (h0 : 0 ≤ x) (h1 : x < 100) : ax_irem x 4 = x % 4 := by
  unfold ax_irem
  rw [Int32.toInt_sub, Int32.toInt_mul, Int32.toInt_div, Int32.toInt_ofInt, Int32.toInt_ofInt, Int.bmod_eq_of_le (n := x) (by simp only [Int32.size]; omega) (by simp only [Int32.size]; omega), Int.bmod_eq_of_le (n := 4) (by decide) (by decide), Int.tdiv_eq_ediv_of_nonneg h0]
  have : (x / 4).bmod (2 ^ 32) = x / 4 := by rw [Int.bmod_eq_of_le] <;> omega
  rw [this]
  have : (x / 4 * 4).bmod (2 ^ 32) = x / 4 * 4 := by rw [Int.bmod_eq_of_le] <;> omega
  rw [this, Int.bmod_eq_of_le] <;> omega
theorem rby_sh {e : Nat} (h : e < 16) : ax_w32 (24 - (ax_w32 (8 * (ax_irem (e : Int) 4)))) = 24 - 8 * ((e % 4 : Nat) : Int) := by
  rw [irem4 (by omega) (by omega), w32_id (z := 8 * ((e : Int) % 4)) (by omega) (by omega), w32_id (by omega) (by omega)]
  omega
theorem rby_e {e : Nat} (h : e < 16) {v k : Int} (hv : ((if 4 ≤ (e : Int) then (if 8 ≤ (e : Int) then (if 12 ≤ (e : Int) then d else c) else b) else a) : Int) = v) (hk : 24 - 8 * ((e % 4 : Nat) : Int) = k) : rby a b c d (e : Int) = ax_iand (ax_ishr v k) 255 := by
  unfold rby
  rw [rby_sh h, hv, hk]
theorem fd16 {L : List Int} (hL : [ba a 24, ba a 16, ba a 8, ba a 0, ba b 24, ba b 16, ba b 8, ba b 0, ba c 24, ba c 16, ba c 8, ba c 0, ba d 24, ba d 16, ba d 8, ba d 0] = L) : ∀ e : Nat, e < 16 → L.getD e 0 % 256 = rby a b c d (e : Int) ∧ 0 ≤ rby a b c d (e : Int) ∧ rby a b c d (e : Int) < 256 := by
  intro e he
  have rb : 0 ≤ rby a b c d (e : Int) ∧ rby a b c d (e : Int) < 256 := by
    unfold rby
    rw [iand255]
    omega
  refine ⟨?_, rb⟩
  rw [← hL]
  have : e = 0 ∨ e = 1 ∨ e = 2 ∨ e = 3 ∨ e = 4 ∨ e = 5 ∨ e = 6 ∨ e = 7 ∨ e = 8 ∨ e = 9 ∨ e = 10 ∨ e = 11 ∨ e = 12 ∨ e = 13 ∨ e = 14 ∨ e = 15 := by omega
  rcases this with u | u | u | u | u | u | u | u | u | u | u | u | u | u | u | u <;> subst u
  · rw [rby_e (e := 0) he (v := a) (k := 24) (by simp) (by decide)]; exact byt (k := 24) (by decide) a
  · rw [rby_e (e := 1) he (v := a) (k := 16) (by simp) (by decide)]; exact byt (k := 16) (by decide) a
  · rw [rby_e (e := 2) he (v := a) (k := 8) (by simp) (by decide)]; exact byt (k := 8) (by decide) a
  · rw [rby_e (e := 3) he (v := a) (k := 0) (by simp) (by decide)]; exact byt (k := 0) (by decide) a
  · rw [rby_e (e := 4) he (v := b) (k := 24) (by simp) (by decide)]; exact byt (k := 24) (by decide) b
  · rw [rby_e (e := 5) he (v := b) (k := 16) (by simp) (by decide)]; exact byt (k := 16) (by decide) b
  · rw [rby_e (e := 6) he (v := b) (k := 8) (by simp) (by decide)]; exact byt (k := 8) (by decide) b
  · rw [rby_e (e := 7) he (v := b) (k := 0) (by simp) (by decide)]; exact byt (k := 0) (by decide) b
  · rw [rby_e (e := 8) he (v := c) (k := 24) (by simp) (by decide)]; exact byt (k := 24) (by decide) c
  · rw [rby_e (e := 9) he (v := c) (k := 16) (by simp) (by decide)]; exact byt (k := 16) (by decide) c
  · rw [rby_e (e := 10) he (v := c) (k := 8) (by simp) (by decide)]; exact byt (k := 8) (by decide) c
  · rw [rby_e (e := 11) he (v := c) (k := 0) (by simp) (by decide)]; exact byt (k := 0) (by decide) c
  · rw [rby_e (e := 12) he (v := d) (k := 24) (by simp) (by decide)]; exact byt (k := 24) (by decide) d
  · rw [rby_e (e := 13) he (v := d) (k := 16) (by simp) (by decide)]; exact byt (k := 16) (by decide) d
  · rw [rby_e (e := 14) he (v := d) (k := 8) (by simp) (by decide)]; exact byt (k := 8) (by decide) d
  · rw [rby_e (e := 15) he (v := d) (k := 0) (by simp) (by decide)]; exact byt (k := 0) (by decide) d
theorem ptl_app : ∀ (A : List Int) (s : Sg) (n m : Nat) (B : List Int), m = n + A.length → ptl (ptl s n A) m B = ptl s n (A ++ B) := by
  intro A
  induction A with
  | nil => intro s n m B h; rw [h]; rfl
  | cons b A ih =>
    intro s n m B h
    rw [List.length_cons] at h
    exact ih (pt1 s n b) (n + 1) m B (by omega)
theorem fd2 (t1 : s 27 1 = (n : Int)) (h : n + 16 ≤ 8192) : f_2 a b c d s = some (.inl (((n + 16 : Nat) : Int), ptl s n [ba a 24, ba a 16, ba a 8, ba a 0, ba b 24, ba b 16, ba b 8, ba b 0, ba c 24, ba c 16, ba c 8, ba c 0, ba d 24, ba d 16, ba d 8, ba d 0])) := by
  have q : ∀ (x : Int) (A : List Int) (m : Nat), m = n + A.length → m + 4 ≤ 8192 → f_13 x (ptl s n A) = some (ptl s n (A ++ [ba x 24, ba x 16, ba x 8, ba x 0])) := fun x A m hm h8 => by
    rw [c13 (a := x) (n := m) (by rw [hm]; exact ptl_len A s n t1) h8, ptl_app A s n m _ hm]
  have q1 := q a [] n rfl (by omega)
  rw [List.nil_append] at q1
  have q1' : f_13 a s = _ := q1
  unfold f_2
  rw [t1, if_pos (by rw [w32_id (by omega) (by omega)]; omega), q1', Option.bind_some, q b _ (n + 4) rfl (by omega), Option.bind_some, q c _ (n + 8) rfl (by omega), Option.bind_some, q d _ (n + 12) rfl (by omega), Option.bind_some, ptl_len _ s n t1]
  simp only [List.cons_append, List.nil_append, List.length_cons, List.length_nil]
/-- what a call leaves: its answer or its mark on both sides -/
def RES (s : Sg) (rc : Option (Int × Sg)) (rm : Sg → Option (Int × Sg)) (G : Sg → Prop) (E : Prop) : Prop := ∃ (t0 v : Int) (s1 s2 : Sg), rc = some (t0, s1) ∧ rm s1 = some (v, s2) ∧ G s2 ∧ (E → s2 84 0 = t0 ∧ (t0 = 0 → s2 136 0 = v)) ∧ s1 0 = s 0
theorem feed (g : GIV s) : RES s (f_280 a b c d s) (f_193 a b c d) GIV True := by
  obtain ⟨g1, ⟨n, t1, t2, t3, t4⟩, g3, g4, g5, g6, g7⟩ := id g
  by_cases h : n + 16 ≤ 8192
  · -- there is room
    have ec := fd2 (a := a) (b := b) (c := c) (d := d) t1 h
    generalize hL : [ba a 24, ba a 16, ba a 8, ba a 0, ba b 24, ba b 16, ba b 8, ba b 0, ba c 24, ba c 16, ba c 8, ba c 0, ba d 24, ba d 16, ba d 8, ba d 0] = L at ec
    have hL16 : L.length = 16 := by rw [← hL]; rfl
    have by16 := fd16 (a := a) (b := b) (c := c) (d := d) hL
    obtain ⟨s1, hs1⟩ : ∃ z : Sg, z = ax_u2 (ptl s n L) 136 (0 : Int).toNat ((n + 16 : Nat) : Int) := ⟨_, rfl⟩
    have r1 : ∀ q, q ≠ 27 → q ≠ 28 → q ≠ 136 → s1 q = s q := fun q u v w => by rw [hs1, u2_row _ _ _ w, ptl_row u v]
    have r27 : s1 27 = ptl s n L 27 := by rw [hs1, u2_row _ _ _ (by decide)]
    have r28 : s1 28 = ptl s n L 28 := by rw [hs1, u2_row _ _ _ (by decide)]
    obtain ⟨F, hF⟩ := FU_split (k := 17) (by omega)
    obtain ⟨s2, e1, e2, e3, e4⟩ := m193l (a := a) (b := b) (c := c) (d := d) (n := n) 16 0 F (ax_u2 s1 84 0 0) (by omega) (by rw [u2_col _ _ _ (by decide), r1 84 (by decide) (by decide) (by decide)]; exact t3) h
    have e84 : s2 84 1 = (n : Int) := by rw [e2 84 (by decide), u2_col _ _ _ (by decide), r1 84 (by decide) (by decide) (by decide)]; exact t3
    refine ⟨0, ((n + 16 : Nat) : Int), s1, ax_u2 s2 84 1 ((n + 16 : Nat) : Int), ?_, ?_, ?_, fun _ => ⟨?_, fun _ => ?_⟩, r1 0 (by decide) (by decide) (by decide)⟩
    · unfold f_280
      rw [ec, hs1]
      rfl
    · unfold f_193
      rw [r1 84 (by decide) (by decide) (by decide), t3, if_pos (by rw [w32_id (by omega) (by omega)]; omega)]
      have e1' : j_193_27 FU a b c d 0 (ax_u2 s1 84 0 0) = j_193_101 s2 := by rw [show FU = F + 16 + 1 by omega]; exact e1
      rw [e1']
      unfold j_193_101
      rw [e84, w32_id (by omega) (by omega)]
      rfl
    · have r2 : ∀ q, q ≠ 27 → q ≠ 28 → q ≠ 136 → q ≠ 84 → q ≠ 85 → ax_u2 s2 84 1 ((n + 16 : Nat) : Int) q = s q := fun q u1 u2 u3 u4 u5 => by rw [u2_row _ _ _ u4, e2 q u5, u2_row _ _ _ u4, r1 q u1 u2 u3]
      have r84 : ∀ j, j ≠ 0 → j ≠ 1 → ax_u2 s2 84 1 ((n + 16 : Nat) : Int) 84 j = s 84 j := fun j u v => by rw [u2_col _ _ _ v, e2 84 (by decide), u2_col _ _ _ u, r1 84 (by decide) (by decide) (by decide)]
      have q27 : ∀ j, ax_u2 s2 84 1 ((n + 16 : Nat) : Int) 27 j = ptl s n L 27 j := fun j => by rw [u2_row _ _ _ (by decide), e2 27 (by decide), u2_row _ _ _ (by decide), r27]
      have q28 : ∀ j, ax_u2 s2 84 1 ((n + 16 : Nat) : Int) 28 j = ptl s n L 28 j := fun j => by rw [u2_row _ _ _ (by decide), e2 28 (by decide), u2_row _ _ _ (by decide), r28]
      refine ⟨g1.cg (fun q u => r2 q (by omega) (by omega) (by omega) (by omega) (by omega)), ⟨n + 16, by rw [q27, ptl_len L s n t1, hL16], h, by rw [u2_at, if_pos rfl], fun i hi => ?_⟩, g3.cg (by rw [r2 82 (by decide) (by decide) (by decide) (by decide) (by decide)]) (r2 83 (by decide) (by decide) (by decide) (by decide) (by decide)) (r84 9 (by decide) (by decide)) (r2 87 (by decide) (by decide) (by decide) (by decide) (by decide)), g4.cg (by rw [q27, ptl_j (by decide)]) (r84 5 (by decide) (by decide)) (fun q u => r2 q (by omega) (by omega) (by omega) (by omega) (by omega)) (fun q u => r2 q (by omega) (by omega) (by omega) (by omega) (by omega)) (fun j u1 u2 _ _ => r84 j u1 u2), ?_, ?_, g7.cg (r2 74 (by decide) (by decide) (by decide) (by decide) (by decide)) (r2 81 (by decide) (by decide) (by decide) (by decide) (by decide)) (r2 134 (by decide) (by decide) (by decide) (by decide) (by decide)) (r84 6 (by decide) (by decide)) (r84 72 (by decide) (by decide))⟩
      · rw [q28, u2_row _ _ _ (show (85 : Nat) ≠ 84 by decide)]
        obtain ⟨p1, p2⟩ := ptl_at L s n
        by_cases c1 : i < n
        · rw [p1 i c1, e3 i (by omega), u2_row _ _ _ (by decide), r1 85 (by decide) (by decide) (by decide)]
          exact t4 i c1
        · have := by16 (i - n) (by omega)
          have pe := p2 (i - n) (by omega)
          have ee := e4 (i - n) (by omega) (by omega)
          rw [show n + (i - n) = i by omega] at pe ee
          rw [pe, ee]
          exact this
      · unfold RB at *
        rw [r2 74 (by decide) (by decide) (by decide) (by decide) (by decide)]; exact g5
      · unfold RM at *
        rw [r84 72 (by decide) (by decide)]; exact g6
    · rw [u2_col _ _ _ (by decide), e2 84 (by decide), u2_at, if_pos rfl]
    · rw [u2_row _ _ _ (by decide), e2 136 (by decide), u2_row _ _ _ (by decide), hs1, show (0 : Int).toNat = 0 from rfl, u2_at, if_pos rfl]
  · -- there is none
    refine ⟨1, 0, s, ax_u2 (ax_u2 s 84 0 0) 84 0 1, ?_, ?_, ?_, fun _ => ⟨by rw [u2_at, if_pos rfl], fun u => absurd u (by decide)⟩, rfl⟩
    · unfold f_280 f_2
      rw [t1, if_neg (by rw [w32_id (by omega) (by omega)]; omega)]
      rfl
    · unfold f_193
      rw [t3, if_neg (by rw [w32_id (by omega) (by omega)]; omega)]
      rfl
    · exact ((QF.a84 s 0).trans (QF.a84 _ 1)).gi g
end GII
/-! CALLS: end, read, print, out, again. -/
section CAL
variable {s s' sc sm x y : Sg} {T : TT} {n : Nat} {t : Nat → Int} {a : Int}
theorem f207 (x lo hi : Int) (s : Sg) : f_207 x lo hi s = if lo ≤ x ∧ x ≤ hi then 1 else 0 := by
  unfold f_207
  by_cases c1 : x < lo
  · rw [if_pos (by rw [cmp_lt]; exact c1), if_neg (by omega)]
  · rw [if_neg (by rw [cmp_lt]; exact c1)]
    by_cases c2 : hi < x
    · rw [if_pos (by rw [cmp_gt]; exact c2), if_neg (by omega)]
    · rw [if_neg (by rw [cmp_gt]; exact c2), if_pos (by omega)]
/-- END -/
theorem end_ (g : GIV s) : RES s (f_281 a s) (f_195 a) GIV True := by
  obtain ⟨g1, ⟨n, t1, t2, t3, t4⟩, g3, g4, g5, g6, g7⟩ := id g
  by_cases c : 0 ≤ a ∧ a ≤ 16
  · by_cases d : 16 ≤ n
    · obtain ⟨m, hm⟩ : ∃ m : Nat, (n : Int) - (16 - a) = (m : Int) := ⟨((n : Int) - (16 - a)).toNat, by omega⟩
      have w : ax_w32 ((n : Int) - ax_w32 (16 - a)) = (m : Int) := by rw [w32_id (z := 16 - a) (by omega) (by omega), w32_id (by omega) (by omega)]; exact hm
      refine ⟨0, (m : Int), ax_u2 (ax_u2 s 27 1 (m : Int)) 136 (0 : Int).toNat (m : Int), ax_u2 (ax_u2 (ax_u2 (ax_u2 s 27 1 (m : Int)) 136 (0 : Int).toNat (m : Int)) 84 0 0) 84 1 (m : Int), ?_, ?_, ?_, fun _ => ⟨?_, fun _ => ?_⟩, by rw [u2_row _ _ _ (by decide), u2_row _ _ _ (by decide)]⟩
      · unfold f_281 f_3
        rw [if_neg (by omega), if_pos c.2, t1, if_pos (by omega), w]
        rfl
      · unfold f_195
        rw [f207, if_pos c, if_pos (by decide), u2_row _ _ _ (show (84 : Nat) ≠ 136 by decide), u2_row _ _ _ (show (84 : Nat) ≠ 27 by decide), t3, if_pos (by omega), w]
      · have r : ∀ q, q ≠ 27 → q ≠ 84 → q ≠ 136 → ax_u2 (ax_u2 (ax_u2 (ax_u2 s 27 1 (m : Int)) 136 (0 : Int).toNat (m : Int)) 84 0 0) 84 1 (m : Int) q = s q := fun q u1 u2 u3 => by rw [u2_row _ _ _ u2, u2_row _ _ _ u2, u2_row _ _ _ u3, u2_row _ _ _ u1]
        have r84 : ∀ j, j ≠ 0 → j ≠ 1 → ax_u2 (ax_u2 (ax_u2 (ax_u2 s 27 1 (m : Int)) 136 (0 : Int).toNat (m : Int)) 84 0 0) 84 1 (m : Int) 84 j = s 84 j := fun j u v => by rw [u2_col _ _ _ v, u2_col _ _ _ u, u2_row _ _ _ (by decide), u2_row _ _ _ (by decide)]
        have r27 : ∀ j, ax_u2 (ax_u2 (ax_u2 (ax_u2 s 27 1 (m : Int)) 136 (0 : Int).toNat (m : Int)) 84 0 0) 84 1 (m : Int) 27 j = if j = 1 then (m : Int) else s 27 j := fun j => by rw [u2_row _ _ _ (by decide), u2_row _ _ _ (by decide), u2_row _ _ _ (by decide), u2_at]
        refine ⟨g1.cg (fun q u => r q (by omega) (by omega) (by omega)), ⟨m, by rw [r27, if_pos rfl], by omega, by rw [u2_at, if_pos rfl], fun i hi => ?_⟩, g3.cg (by rw [r 82 (by decide) (by decide) (by decide)]) (r 83 (by decide) (by decide) (by decide)) (r84 9 (by decide) (by decide)) (r 87 (by decide) (by decide) (by decide)), g4.cg (by rw [r27, if_neg (by decide)]) (r84 5 (by decide) (by decide)) (fun q u => r q (by omega) (by omega) (by omega)) (fun q u => r q (by omega) (by omega) (by omega)) (fun j u1 u2 _ _ => r84 j u1 u2), ?_, ?_, g7.cg (r 74 (by decide) (by decide) (by decide)) (r 81 (by decide) (by decide) (by decide)) (r 134 (by decide) (by decide) (by decide)) (r84 6 (by decide) (by decide)) (r84 72 (by decide) (by decide))⟩
        · rw [r 28 (by decide) (by decide) (by decide), r 85 (by decide) (by decide) (by decide)]
          exact t4 i (by omega)
        · unfold RB at *
          rw [r 74 (by decide) (by decide) (by decide)]; exact g5
        · unfold RM at *
          rw [r84 72 (by decide) (by decide)]; exact g6
      · rw [u2_col _ _ _ (by decide), u2_at, if_pos rfl]
      · rw [u2_row _ _ _ (by decide), u2_row _ _ _ (by decide), show (0 : Int).toNat = 0 from rfl, u2_at, if_pos rfl]
    · refine ⟨2, 0, s, ax_u2 (ax_u2 s 84 0 0) 84 0 2, ?_, ?_, ((QF.a84 s 0).trans (QF.a84 _ 2)).gi g, fun _ => ⟨by rw [u2_at, if_pos rfl], fun u => absurd u (by decide)⟩, rfl⟩
      · unfold f_281 f_3
        rw [if_neg (by omega), if_pos c.2, t1, if_neg (by omega)]
        rfl
      · unfold f_195
        rw [f207, if_pos c, if_pos (by decide), t3, if_neg (by omega)]
        rfl
  · refine ⟨1, 0, s, ax_u2 (ax_u2 s 84 0 0) 84 0 1, ?_, ?_, ((QF.a84 s 0).trans (QF.a84 _ 1)).gi g, fun _ => ⟨by rw [u2_at, if_pos rfl], fun u => absurd u (by decide)⟩, rfl⟩
    · unfold f_281 f_3
      by_cases d : a < 0
      · rw [if_pos d]
        rfl
      · rw [if_neg d, if_neg (by omega)]
        rfl
    · unfold f_195
      rw [f207, if_neg c, if_neg (by decide)]
      rfl
/-- READ -/
theorem read_ (g : GIV s) : RES s (f_282 s) f_196 GIV True := by
  obtain ⟨g1, ⟨n, t1, t2, t3, t4⟩, ⟨L, l1, l2, l3, l4⟩, -, -, -, -⟩ := id g
  have key : ∀ s1 : Sg, (∀ c, c = 84 ∨ c = 85 → s1 c = s c) → _ := fun s1 h1 => read_sim (sc := s) (sm := s1) g1 t1 t2 (by rw [h1 84 (by decide)]; exact t3) (by rw [h1 85 (by decide)]; exact t4)
  rcases key s (fun _ _ => rfl) with ⟨-, -, -, -, -, -, x, -, S, -, -, -, -, -, e1, -, -, -, -, -, -, -, -, fc, -⟩ | ⟨x, -, e1, -, -, -, fc, -⟩
  · -- nothing wrong
    obtain ⟨s1, hs1⟩ : ∃ z : Sg, z = ax_u2 (ax_u2 (ax_u2 x 27 1 0) 27 2 1) 136 (0 : Int).toNat (S : Int) := ⟨_, rfl⟩
    have q1 : ∀ c, c ≠ 27 → c ≠ 136 → s1 c = x c := fun c u v => by rw [hs1, u2_row _ _ _ v, u2_row _ _ _ u, u2_row _ _ _ u]
    rcases key s1 (fun c u => by rw [q1 c (by omega) (by omega), fc.1 c (by omega)]) with ⟨T, t, sc0, sm0, sc1, sm1, x', y, S', P, A, N, K, C, e2, e3, b1, b2, b3, b4, b5, b6, b7, fc', fm, b8, -, rgs⟩ | ⟨x', y', e2, e3, e4, e5, e6, e7⟩
    · rw [e1] at e2
      have ee := Sum.inl.inj (Option.some.inj e2)
      have eS : S' = S := by
        have := congrArg Prod.fst ee
        simp only at this
        omega
      have eX : ax_u2 (ax_u2 x 27 1 0) 27 2 1 = ax_u2 (ax_u2 x' 27 1 0) 27 2 1 := congrArg Prod.snd ee
      have q2 : ∀ c, c ≠ 27 → c ≠ 136 → s1 c = x' c := fun c u v => by rw [hs1, u2_row _ _ _ v, eX, u2_row _ _ _ u, u2_row _ _ _ u]
      obtain ⟨m1, m2, m3, m4, m5, m6⟩ := fm
      have w : ∀ c, c < 84 → c ≠ 27 → ax_u2 y 84 5 1 c = x' c := fun c u v => by rw [u2_row _ _ _ (by omega), m1 c (Or.inl u), q2 c v (by omega)]
      have wo : ∀ c, c = 82 ∨ c = 83 ∨ c = 85 ∨ c = 87 → ax_u2 y 84 5 1 c = s c := fun c u => by rw [u2_row _ _ _ (by omega), m1 c (by omega), q2 c (by omega) (by omega), fc'.1 c (by omega)]
      have w84 : ∀ j, j ≠ 5 → ax_u2 y 84 5 1 84 j = y 84 j := fun j u => u2_col _ _ _ u
      have w27 : ∀ j, ax_u2 y 84 5 1 27 j = s1 27 j := fun j => by rw [u2_row _ _ _ (by decide), m1 27 (by decide)]
      have v27 : s1 27 1 = 0 ∧ s1 27 2 = 1 := by rw [hs1]; simp [ax_u2]
      have p9 : y 84 9 = s 84 9 := by rw [m5 9 (by decide), q2 84 (by decide) (by decide), fc'.1 84 (by decide)]
      refine ⟨0, (S : Int), s1, ax_u2 y 84 5 1, ?_, by rw [← eS]; exact e3, ?_, fun _ => ⟨by rw [w84 0 (by decide)]; exact m2, fun _ => ?_⟩, by rw [q2 0 (by decide) (by decide), fc'.1 0 (by decide)]⟩
      · unfold f_282
        rw [e1, hs1]
        rfl
      · refine ⟨b7.cg (fun c u => w c (by omega) (by omega)), ⟨0, by rw [w27]; exact v27.1, by omega, by rw [w84 1 (by decide)]; exact m3, fun i hi => absurd hi (by omega)⟩, ⟨L, by rw [wo 82 (by decide)]; exact l1, l2, by rw [w84 9 (by decide), p9]; exact l3, by rw [wo 83 (by decide), wo 87 (by decide)]; exact l4⟩, Or.inr ⟨by rw [w27]; exact v27.2, by rw [u2_at, if_pos rfl], T, t, n, sc0, sm0, sc1, sm1, x', y, S', P, A, N, K, C, b1, b2, b3, b8, b4, b5, b6, fun c u => w c (by omega) (by omega), fun c u => u2_row _ _ _ (by omega), fun j _ _ u _ => w84 j u⟩, ?_, ?_, ?_⟩
        · unfold RB
          rw [w 74 (by decide) (by decide)]
          exact fc'.2
        · unfold RM
          rw [w84 72 (by decide)]
          exact m6
        · unfold RGS at *
          rw [w84 6 (by decide), w84 72 (by decide), w 74 (by decide) (by decide), w 81 (by decide) (by decide), u2_row _ _ _ (show (134 : Nat) ≠ 84 by decide)]
          exact rgs
      · rw [u2_row _ _ _ (by decide), m1 136 (by decide), hs1, show (0 : Int).toNat = 0 from rfl, u2_at, if_pos rfl]
    · rw [e1] at e2
      cases e2
  · -- a fault
    obtain ⟨s1, hs1⟩ : ∃ z : Sg, z = f_180 (f_113 (f_74 (ax_u2 (ax_u2 x 27 1 0) 27 2 0))) := ⟨_, rfl⟩
    have fr : ∀ (x : Sg) (c : Nat), c ≠ 27 → c ≠ 39 → c ≠ 46 → c ≠ 54 → f_180 (f_113 (f_74 (ax_u2 (ax_u2 x 27 1 0) 27 2 0))) c = x c := fun x c u1 u2 u3 u4 => by
      unfold f_180 f_113 f_74
      rw [u2_row _ _ _ u4, u2_row _ _ _ u4, u2_row _ _ _ u3, u2_row _ _ _ u2, u2_row _ _ _ u2, u2_row _ _ _ u2, u2_row _ _ _ u1, u2_row _ _ _ u1]
    rcases key s1 (fun c u => by rw [hs1, fr x c (by omega) (by omega) (by omega) (by omega), fc.1 c (by omega)]) with ⟨z1, z2, z3, z4, z5, z6, x', z7, z8, z9, z10, z11, z12, z13, e2, z14⟩ | ⟨x', y, e2, e3, b6, b7, fc', fm, rgs⟩
    · rw [e1] at e2
      cases e2
    · rw [e1] at e2
      have eX : f_180 (f_113 (f_74 (ax_u2 (ax_u2 x 27 1 0) 27 2 0))) = f_180 (f_113 (f_74 (ax_u2 (ax_u2 x' 27 1 0) 27 2 0))) := congrArg Prod.snd (Sum.inr.inj (Option.some.inj e2))
      have q2 : ∀ c, c ≠ 27 → c ≠ 39 → c ≠ 46 → c ≠ 54 → s1 c = x' c := fun c u1 u2 u3 u4 => by rw [hs1, eX, fr x' c u1 u2 u3 u4]
      obtain ⟨m1, m2, m3, m4, m5, m6⟩ := fm
      have w : ∀ c, c < 84 → ax_u2 y 84 0 1 c = s1 c := fun c u => by rw [u2_row _ _ _ (by omega), m1 c (Or.inl u)]
      have wo : ∀ c, c = 82 ∨ c = 83 ∨ c = 85 ∨ c = 87 → ax_u2 y 84 0 1 c = s c := fun c u => by rw [u2_row _ _ _ (by omega), m1 c (by omega), q2 c (by omega) (by omega) (by omega) (by omega), fc'.1 c (by omega)]
      have w84 : ∀ j, j ≠ 0 → ax_u2 y 84 0 1 84 j = y 84 j := fun j u => u2_col _ _ _ u
      have v27 : s1 27 1 = 0 ∧ s1 27 2 = 0 ∧ s1 54 6 = 0 ∧ s1 46 7 = 0 ∧ s1 39 9 = 0 := by rw [hs1]; simp [f_180, f_113, f_74, ax_u2]
      have p9 : y 84 9 = s 84 9 := by rw [m5 9 (by decide), q2 84 (by decide) (by decide) (by decide) (by decide), fc'.1 84 (by decide)]
      refine ⟨1, 0, s1, ax_u2 y 84 0 1, ?_, e3, ?_, fun _ => ⟨by rw [u2_at, if_pos rfl], fun u => absurd u (by decide)⟩, by rw [q2 0 (by decide) (by decide) (by decide) (by decide), fc'.1 0 (by decide)]⟩
      · unfold f_282
        rw [e1, hs1]
        rfl
      · refine ⟨b7.cg (fun c u => by rw [w c (by omega), q2 c (by omega) (by omega) (by omega) (by omega)]), ⟨0, by rw [w 27 (by decide)]; exact v27.1, by omega, by rw [w84 1 (by decide)]; exact m3, fun i hi => absurd hi (by omega)⟩, ⟨L, by rw [wo 82 (by decide)]; exact l1, l2, by rw [w84 9 (by decide), p9]; exact l3, by rw [wo 83 (by decide), wo 87 (by decide)]; exact l4⟩, Or.inl ⟨by rw [w 27 (by decide)]; exact v27.2.1, by rw [w84 5 (by decide)]; exact m4, by rw [w 54 (by decide)]; exact v27.2.2.1, by rw [w 46 (by decide)]; exact v27.2.2.2.1, by rw [w 39 (by decide)]; exact v27.2.2.2.2⟩, ?_, ?_, ?_⟩
        · unfold RB
          rw [w 74 (by decide), q2 74 (by decide) (by decide) (by decide) (by decide)]
          exact fc'.2
        · unfold RM
          rw [w84 72 (by decide)]
          exact m6
        · unfold RGS at *
          rw [w84 6 (by decide), w84 72 (by decide), w 74 (by decide), w 81 (by decide), q2 74 (by decide) (by decide) (by decide) (by decide), q2 81 (by decide) (by decide) (by decide) (by decide), u2_row _ _ _ (show (134 : Nat) ≠ 84 by decide)]
          exact rgs
/-- what was read stands there still -/
theorem TX.cg (h : TX T sc sm n t) (h1 : ∀ c, c = 31 ∨ c = 32 ∨ c = 33 ∨ c = 34 ∨ c = 35 ∨ c = 39 ∨ c = 40 ∨ c = 43 → x c = sc c) (h2 : ∀ c, c = 86 ∨ c = 89 ∨ c = 90 → y c = sm c) (h3 : y 84 3 = sm 84 3) : TX T x y n t := by
  unfold TX CT MT NI LXn at *
  rw [h1 31 (by decide), h1 32 (by decide), h1 33 (by decide), h1 34 (by decide), h1 35 (by decide), h1 39 (by decide), h1 40 (by decide), h1 43 (by decide), h2 86 (by decide), h2 89 (by decide), h2 90 (by decide), h3]
  exact h
/-- what a state holds of a text that was read: rows are those of the checks' end -/
theorem kn_rows {sc1 sm1 : Sg} {N : Nat} (cho : CHO sc1 sm1 x y N) (a8 : ∀ c, c = 1 ∨ 30 ≤ c ∧ c ≤ 81 → s c = x c) (a9 : ∀ c, c = 86 ∨ 88 ≤ c ∧ c ≤ 135 → s c = y c) (a10 : ∀ j, j ≠ 0 → j ≠ 1 → j ≠ 5 → j ≠ 9 → s 84 j = y 84 j) :
    (∀ c, c = 1 ∨ 31 ≤ c ∧ c < 74 → c ≠ 48 → s c = sc1 c) ∧ (∀ c, c = 86 ∨ 88 ≤ c ∧ c < 133 → c ≠ 122 → s c = sm1 c) ∧ (∀ j, j ≠ 0 → j ≠ 1 → j ≠ 5 → j ≠ 6 → j ≠ 7 → j ≠ 8 → j ≠ 9 → j ≠ 72 → s 84 j = sm1 84 j) := by
  obtain ⟨o1, o2, o3, o4, -⟩ := cho
  exact ⟨fun c u v => by rw [a8 c (by omega), o1 c (by omega) v (by omega)], fun c u v => by rw [a9 c (by omega), o3 c (by omega) v (by omega)], fun j u0 u1 u5 u6 u7 u8 u9 u72 => by rw [a10 j u0 u1 u5 u9, o4 j u6 u7 u8 u72]⟩
theorem KN.pri (h : KN s) : ∃ (T : TT) (n : Nat) (t : Nat → Int), PRI T s s n t := by
  obtain ⟨T, t, n, sc0, sm0, sc1, sm1, x, y, S, P, A, N, K, C, a1, a2, a3, a4, a5, a6, a7, a8, a9, a10⟩ := h
  obtain ⟨r1, r2, r3⟩ := kn_rows a6 a8 a9 a10
  obtain ⟨hB, h70, h19, h7, h37, hnc, htl, hdp⟩ := a5
  obtain ⟨e1, e2, e3, e4, e5, e6, e7, e8, e9, e10, e11, e12, e13, e14, e15, e16, e17, e18, e19, e20, e21, e22, e23, e24, e25, e26, e27, e28, e29, e30, e31⟩ := hB
  have tx1 := a3.sf e15 e16
  have z3 : 3 ≤ T.z := e27
  refine ⟨T, n, t, a1, a2, fun k hk => ?_, tx1.cg (fun c u => r1 c (by omega) (by omega)) (fun c u => r2 c (by omega) (by omega)) (r3 3 (by decide) (by decide) (by decide) (by decide) (by decide) (by decide) (by decide) (by decide)), e1.row (by rw [r1 39 (by decide) (by decide)]) (r1 41 (by decide) (by decide)) (r1 42 (by decide) (by decide)) (r1 44 (by decide) (by decide)) (by rw [r1 31 (by decide) (by decide)]) (r1 1 (by decide) (by decide)), ?_, fun k hk => ?_, fun k u v => e19 k u v, fun k hk => e20 k hk, by omega, htl, hdp⟩
  · rw [r1 43 (by decide) (by decide), e15.1 43 (by decide)]
    exact a4 k hk
  · unfold MC at *
    rw [r3 11 (by decide) (by decide) (by decide) (by decide) (by decide) (by decide) (by decide) (by decide), r2 88 (by decide) (by decide)]
    exact e2
  · have := e9 k hk
    unfold LF at *
    rw [r1 45 (by decide) (by decide), r2 91 (by decide) (by decide), r2 92 (by decide) (by decide), r2 93 (by decide) (by decide)]
    exact this
theorem PRI.cg (h : PRI T s s n t) (h1 : ∀ c, c = 86 ∨ 88 ≤ c ∧ c ≤ 93 → y c = s c) (h3 : ∀ j, j = 3 ∨ j = 11 → y 84 j = s 84 j) : PRI T s y n t := by
  obtain ⟨a1, a2, a3, a4, a5, a6, a7, a8⟩ := h
  refine ⟨a1, a2, a3, a4.cg (fun _ _ => rfl) (fun c u => h1 c (by omega)) (h3 3 (by decide)), a5, ?_, fun k hk => ?_, a8⟩
  · unfold MC at *
    rw [h3 11 (by decide), h1 88 (by decide)]
    exact a6
  · have := a7 k hk
    unfold LF at *
    rw [h1 91 (by decide), h1 92 (by decide), h1 93 (by decide)]
    exact this
theorem byl_getD : ∀ (B : List Int) (i : Nat), i < B.length → byl B → 0 ≤ B.getD i 0 ∧ B.getD i 0 < 256 := by
  intro B
  induction B with
  | nil => intro i hi _; exact absurd hi (by simp)
  | cons b B ih =>
    intro i hi h
    rw [List.length_cons] at hi
    cases i with
    | zero => exact h b List.mem_cons_self
    | succ i => exact ih i (by omega) (fun c hc => h c (List.mem_cons_of_mem _ hc))
/-- PRINT -/
theorem print_ (g : GIV s) : RES s (f_288 s) f_202 GIV True := by
  obtain ⟨g1, g2, g3, g4, g5, g6, g7⟩ := id g
  rcases g4 with ⟨k1, k2, -⟩ | ⟨k1, k2, kn⟩
  · refine ⟨1, 0, s, ax_u2 (ax_u2 s 84 0 0) 84 0 1, ?_, ?_, ((QF.a84 s 0).trans (QF.a84 _ 1)).gi g, fun _ => ⟨by rw [u2_at, if_pos rfl], fun u => absurd u (by decide)⟩, rfl⟩
    · unfold f_288 f_10
      rw [k1, if_neg (by decide)]
      rfl
    · unfold f_202
      rw [k2, if_neg (by decide)]
      rfl
  · obtain ⟨T, n, t, hp⟩ := kn.pri
    obtain ⟨R0, p1, -⟩ := print_sim hp
    obtain ⟨s1, hs1⟩ : ∃ z : Sg, z = ax_u2 (cwr (ax_u2 s 82 2 0) R0) 136 (0 : Int).toNat (cwr (ax_u2 s 82 2 0) R0 82 2) := ⟨_, rfl⟩
    have q1 : ∀ c, c ≠ 82 → c ≠ 83 → c ≠ 136 → s1 c = s c := fun c u v w => by rw [hs1, u2_row _ _ _ w, cwr_row u v, u2_row _ _ _ u]
    obtain ⟨R, p2, p3, p4, p5⟩ := print_sim (hp.cg (y := s1) (fun c u => q1 c (by omega) (by omega) (by omega)) (fun j _ => by rw [q1 84 (by decide) (by decide) (by decide)]))
    rw [p1] at p2
    have eR : cwr (ax_u2 s 82 2 0) R0 = cwr (ax_u2 s 82 2 0) R := Option.some.inj p2
    have z0 : (ax_u2 s 82 2 0) 82 2 = 0 := by rw [u2_at, if_pos rfl]
    have len := cwr_len R (ax_u2 s 82 2 0) (by rw [z0]; decide) (by rw [z0]; omega)
    rw [z0, Int.zero_add] at len
    obtain ⟨-, at1⟩ := cwr_at R (ax_u2 s 82 2 0) 0 z0 (by omega)
    have y0 : (ax_u2 (ax_u2 s1 84 0 0) 84 9 0) 84 9 = 0 := by rw [u2_at, if_pos rfl]
    have mlen := mwr_len R (ax_u2 (ax_u2 s1 84 0 0) 84 9 0) (by rw [y0]; decide) (by rw [y0]; omega)
    rw [y0, Int.zero_add] at mlen
    obtain ⟨-, at2⟩ := mwr_at R (ax_u2 (ax_u2 s1 84 0 0) 84 9 0) 0 y0 (by omega)
    obtain ⟨s2, hs2⟩ : ∃ z : Sg, z = mwr (ax_u2 (ax_u2 s1 84 0 0) 84 9 0) R := ⟨_, rfl⟩
    have q2 : ∀ c, c ≠ 84 → c ≠ 87 → s2 c = s1 c := fun c u v => by rw [hs2, mwr_row u v, u2_row _ _ _ u, u2_row _ _ _ u]
    have q84 : ∀ j, j ≠ 0 → j ≠ 9 → s2 84 j = s 84 j := fun j u v => by rw [hs2, mwr_j v, u2_col _ _ _ v, u2_col _ _ _ u, q1 84 (by decide) (by decide) (by decide)]
    have qq : ∀ c, c ≠ 82 → c ≠ 83 → c ≠ 84 → c ≠ 87 → c ≠ 136 → s2 c = s c := fun c u1 u2 u3 u4 u5 => by rw [q2 c u3 u4, q1 c u1 u2 u5]
    have l82 : s2 82 2 = (R.length : Int) := by rw [q2 82 (by decide) (by decide), hs1, u2_row _ _ _ (by decide), eR, len]
    rw [← hs2] at mlen at2
    refine ⟨0, (R.length : Int), s1, s2, ?_, ?_, ?_, fun _ => ⟨?_, fun _ => ?_⟩, q1 0 (by decide) (by decide) (by decide)⟩
    · unfold f_288 f_10
      rw [k1, if_pos (by decide), p1, Option.bind_some, hs1]
      rfl
    · rw [hs2]
      exact p3 (by rw [q1 84 (by decide) (by decide) (by decide), k2]; decide)
    · refine ⟨g1.cg (fun c u => qq c (by omega) (by omega) (by omega) (by omega) (by omega)), g2.cg (by rw [qq 27 (by decide) (by decide) (by decide) (by decide) (by decide)]) (qq 28 (by decide) (by decide) (by decide) (by decide) (by decide)) (q84 1 (by decide) (by decide)) (qq 85 (by decide) (by decide) (by decide) (by decide) (by decide)), ⟨R.length, l82, p4, mlen, fun i hi => ?_⟩, GK.cg (Or.inr ⟨k1, k2, kn⟩) (by rw [qq 27 (by decide) (by decide) (by decide) (by decide) (by decide)]) (q84 5 (by decide) (by decide)) (fun c u => qq c (by omega) (by omega) (by omega) (by omega) (by omega)) (fun c u => qq c (by omega) (by omega) (by omega) (by omega) (by omega)) (fun j u0 _ _ u9 => q84 j u0 u9), ?_, ?_, g7.cg (qq 74 (by decide) (by decide) (by decide) (by decide) (by decide)) (qq 81 (by decide) (by decide) (by decide) (by decide) (by decide)) (qq 134 (by decide) (by decide) (by decide) (by decide) (by decide)) (q84 6 (by decide) (by decide)) (q84 72 (by decide) (by decide))⟩
      · have b1 := at1 i hi
        have b2 := at2 i hi
        rw [Nat.zero_add] at b1 b2
        have b3 : 0 ≤ R.getD i 0 ∧ R.getD i 0 < 256 := by
          exact byl_getD R i hi p5
        rw [q2 83 (by decide) (by decide), hs1, u2_row _ _ _ (by decide), eR, b1, b2]
        omega
      · unfold RB at *
        rw [qq 74 (by decide) (by decide) (by decide) (by decide) (by decide)]; exact g5
      · unfold RM at *
        rw [q84 72 (by decide) (by decide)]; exact g6
    · rw [hs2, mwr_j (by decide), u2_col _ _ _ (by decide), u2_at, if_pos rfl]
    · rw [q2 136 (by decide) (by decide), hs1, show (0 : Int).toNat = 0 from rfl, u2_at, if_pos rfl, eR, len]
/-- OUT -/
theorem out_ (g : GIV s) : RES s (f_289 a s) (f_203 a) GIV True := by
  obtain ⟨-, -, ⟨L, l1, l2, l3, l4⟩, -⟩ := id g
  have w : ax_w32 ((L : Int) - 1) = (L : Int) - 1 := w32_id (by omega) (by omega)
  by_cases c : 0 ≤ a ∧ a < (L : Int)
  · obtain ⟨i, hi⟩ : ∃ i : Nat, a = (i : Int) := ⟨a.toNat, by omega⟩
    have e129 : f_129 a s = 1 := by unfold f_129; rw [if_neg (by omega), l1, if_neg (by omega)]
    have e130 : f_130 a s = s 83 i % 256 := by unfold f_130; rw [e129, if_neg (by decide), hi, Int.toNat_natCast, iand255]
    have b := l4 i (by omega)
    refine ⟨0, s 87 i, ax_u2 s 136 (0 : Int).toNat (s 87 i), ax_u2 (ax_u2 s 136 (0 : Int).toNat (s 87 i)) 84 0 0, ?_, ?_, ((QF.a136 s _).trans (QF.a84 _ 0)).gi g, fun _ => ⟨by rw [u2_at, if_pos rfl], fun _ => ?_⟩, u2_row _ _ _ (by decide)⟩
    · unfold f_289 f_11
      rw [e129, if_pos (by decide), gd_pos (by unfold g_130; exact ⟨fun _ => trivial, fun _ => ⟨by omega, trivial⟩⟩), e130, b.1]
      rfl
    · unfold f_203
      rw [f207, u2_row _ _ _ (show (84 : Nat) ≠ 136 by decide), l3, w, if_pos (show 0 ≤ a ∧ a ≤ (L : Int) - 1 by omega), if_neg (by decide), gd_pos (by omega), u2_row _ _ _ (show (87 : Nat) ≠ 136 by decide), hi, Int.toNat_natCast]
    · rw [u2_row _ _ _ (by decide), show (0 : Int).toNat = 0 from rfl, u2_at, if_pos rfl]
  · have e129 : f_129 a s = 0 := by
      unfold f_129
      by_cases d : a < 0
      · rw [if_pos d]
      · rw [if_neg d, l1, if_pos (by omega)]
    refine ⟨1, 0, s, ax_u2 (ax_u2 s 84 0 0) 84 0 1, ?_, ?_, ((QF.a84 s 0).trans (QF.a84 _ 1)).gi g, fun _ => ⟨by rw [u2_at, if_pos rfl], fun u => absurd u (by decide)⟩, rfl⟩
    · unfold f_289 f_11
      rw [e129, if_neg (by decide)]
      rfl
    · unfold f_203
      rw [f207, l3, w, if_neg (show ¬ (0 ≤ a ∧ a ≤ (L : Int) - 1) by omega), if_pos rfl]
      rfl
/-- AGAIN -/
theorem m204l {L : Nat} : ∀ (r l F : Nat) (s : Sg), l + r = L → L ≤ 8192 → s 84 9 = (L : Int) → ∃ s' : Sg, j_204_23 (F + r + 1) (l : Int) s = j_204_49 s' ∧ (∀ c, c ≠ 85 → s' c = s c) ∧ (∀ i, i < l → s' 85 i = s 85 i) ∧ (∀ i, l ≤ i → i < L → s' 85 i = s 87 i) := by
  intro r
  induction r with
  | zero =>
    intro l F s hl h8 h9
    exact ⟨s, by rw [j_204_23, h9, if_pos (by omega)], fun _ _ => rfl, fun _ _ => rfl, fun i u v => absurd v (by omega)⟩
  | succ r ih =>
    intro l F s hl h8 h9
    obtain ⟨s', e1, e2, e3, e4⟩ := ih (l + 1) F (ax_u2 s 85 l (s 87 l)) (by omega) h8 (by rw [u2_row _ _ _ (by decide)]; exact h9)
    refine ⟨s', ?_, fun c u => by rw [e2 c u, u2_row _ _ _ u], fun i hi => by rw [e3 i (by omega), u2_col _ _ _ (by omega)], fun i u v => ?_⟩
    · rw [show F + (r + 1) + 1 = (F + r + 1) + 1 by omega, j_204_23, h9, if_neg (by omega), gd_pos (by omega), gd_pos (by omega), w32_nat (by omega), Int.toNat_natCast]
      exact e1
    · by_cases q : i = l
      · rw [q, e3 l (by omega), u2_at, if_pos rfl]
      · rw [e4 i (by omega) v, u2_row _ _ _ (by decide)]
theorem again_ (g : GIV s) : RES s (f_290 s) f_204 GIV True := by
  obtain ⟨g1, ⟨n, t1, t2, t3, t4⟩, ⟨L, l1, l2, l3, l4⟩, g4, g5, g6, g7⟩ := id g
  by_cases c : L ≤ 8192
  · have e291 : f_291 (L : Int) 8192 s = (L : Int) := by unfold f_291; rw [if_neg (by omega)]
    obtain ⟨s1, hs1⟩ : ∃ z : Sg, z = ax_u2 (ax_u2 (cpy s 83 28 0 0 L) 27 1 (L : Int)) 136 (0 : Int).toNat (L : Int) := ⟨_, rfl⟩
    have q1 : ∀ c, c ≠ 27 → c ≠ 28 → c ≠ 136 → s1 c = s c := fun c u v w => by rw [hs1, u2_row _ _ _ w, u2_row _ _ _ u]; unfold cpy; rw [if_neg v]
    have q28 : ∀ i, i < L → s1 28 i = s 83 i := fun i hi => by
      rw [hs1, u2_row _ _ _ (by decide), u2_row _ _ _ (by decide)]
      unfold cpy
      rw [if_pos rfl]
      unfold ax_cpy
      rw [if_pos (by omega)]
      congr 1
      omega
    have q27 : ∀ j, s1 27 j = if j = 1 then (L : Int) else s 27 j := fun j => by
      rw [hs1, u2_row _ _ _ (by decide), u2_at, show cpy s 83 28 0 0 L 27 = s 27 from rfl]
    obtain ⟨F, hF⟩ := FU_split (k := L + 1) (by omega)
    obtain ⟨s2, e1, e2, e3, e4⟩ := m204l (L := L) L 0 F (ax_u2 s1 84 0 0) (by omega) c (by rw [u2_col _ _ _ (by decide), q1 84 (by decide) (by decide) (by decide)]; exact l3)
    have e84 : s2 84 9 = (L : Int) := by rw [e2 84 (by decide), u2_col _ _ _ (by decide), q1 84 (by decide) (by decide) (by decide)]; exact l3
    have r2 : ∀ q, q ≠ 27 → q ≠ 28 → q ≠ 136 → q ≠ 84 → q ≠ 85 → ax_u2 s2 84 1 (L : Int) q = s q := fun q u1 u2 u3 u4 u5 => by rw [u2_row _ _ _ u4, e2 q u5, u2_row _ _ _ u4, q1 q u1 u2 u3]
    have r84 : ∀ j, j ≠ 0 → j ≠ 1 → ax_u2 s2 84 1 (L : Int) 84 j = s 84 j := fun j u v => by rw [u2_col _ _ _ v, e2 84 (by decide), u2_col _ _ _ u, q1 84 (by decide) (by decide) (by decide)]
    have v27 : ∀ j, ax_u2 s2 84 1 (L : Int) 27 j = if j = 1 then (L : Int) else s 27 j := fun j => by rw [u2_row _ _ _ (by decide), e2 27 (by decide), u2_row _ _ _ (by decide), q27]
    refine ⟨0, (L : Int), s1, ax_u2 s2 84 1 (L : Int), ?_, ?_, ?_, fun _ => ⟨?_, fun _ => ?_⟩, q1 0 (by decide) (by decide) (by decide)⟩
    · unfold f_290 f_12 f_131_28
      rw [l1, if_pos (by omega), e291, gd_pos (by omega), Option.bind_some, Int.toNat_natCast, hs1]
      rfl
    · unfold f_204
      rw [q1 84 (by decide) (by decide) (by decide), l3, if_pos (by omega)]
      have e1' : j_204_23 FU 0 (ax_u2 s1 84 0 0) = j_204_49 s2 := by rw [show FU = F + L + 1 by omega]; exact e1
      rw [e1']
      unfold j_204_49
      rw [e84]
    · refine ⟨g1.cg (fun q u => r2 q (by omega) (by omega) (by omega) (by omega) (by omega)), ⟨L, by rw [v27, if_pos rfl], c, by rw [u2_at, if_pos rfl], fun i hi => ?_⟩, ⟨L, by rw [r2 82 (by decide) (by decide) (by decide) (by decide) (by decide)]; exact l1, l2, by rw [r84 9 (by decide) (by decide)]; exact l3, by rw [r2 83 (by decide) (by decide) (by decide) (by decide) (by decide), r2 87 (by decide) (by decide) (by decide) (by decide) (by decide)]; exact l4⟩, g4.cg (by rw [v27, if_neg (by decide)]) (r84 5 (by decide) (by decide)) (fun q u => r2 q (by omega) (by omega) (by omega) (by omega) (by omega)) (fun q u => r2 q (by omega) (by omega) (by omega) (by omega) (by omega)) (fun j u1 u2 _ _ => r84 j u1 u2), ?_, ?_, g7.cg (r2 74 (by decide) (by decide) (by decide) (by decide) (by decide)) (r2 81 (by decide) (by decide) (by decide) (by decide) (by decide)) (r2 134 (by decide) (by decide) (by decide) (by decide) (by decide)) (r84 6 (by decide) (by decide)) (r84 72 (by decide) (by decide))⟩
      · rw [u2_row _ _ _ (show (28 : Nat) ≠ 84 by decide), e2 28 (by decide), u2_row _ _ _ (show (28 : Nat) ≠ 84 by decide), q28 i hi, u2_row _ _ _ (show (85 : Nat) ≠ 84 by decide), e4 i (by omega) hi, u2_row _ _ _ (show (87 : Nat) ≠ 84 by decide), q1 87 (by decide) (by decide) (by decide)]
        exact l4 i hi
      · unfold RB at *
        rw [r2 74 (by decide) (by decide) (by decide) (by decide) (by decide)]; exact g5
      · unfold RM at *
        rw [r84 72 (by decide) (by decide)]; exact g6
    · rw [u2_col _ _ _ (by decide), e2 84 (by decide), u2_at, if_pos rfl]
    · rw [u2_row _ _ _ (by decide), e2 136 (by decide), u2_row _ _ _ (by decide), hs1, show (0 : Int).toNat = 0 from rfl, u2_at, if_pos rfl]
  · refine ⟨1, 0, s, ax_u2 (ax_u2 s 84 0 0) 84 0 1, ?_, ?_, ((QF.a84 s 0).trans (QF.a84 _ 1)).gi g, fun _ => ⟨by rw [u2_at, if_pos rfl], fun u => absurd u (by decide)⟩, rfl⟩
    · unfold f_290 f_12
      rw [l1, if_neg (by omega)]
      rfl
    · unfold f_204
      rw [l3, if_neg (by omega)]
      rfl
end CAL
/-! CALLS: fault, statement, bits, node, ring. -/
section QRY
variable {s s' sc sm x y : Sg} {T : TT} {n S P A N K C w : Nat} {t : Nat → Int} {a b : Int}
/-- FAULT -/
theorem c69 (s : Sg) : ∃ r : Int, f_69 s = some r := by
  have go : ∀ (r l F : Nat), l + r = 11 → ∃ q : Int, j_69_2 (F + r + 1) (l : Int) s = some q := by
    intro r
    induction r with
    | zero =>
      intro l F hl
      exact ⟨0, by rw [j_69_2, if_pos (by omega)]⟩
    | succ r ih =>
      intro l F hl
      rw [show F + (r + 1) + 1 = (F + r + 1) + 1 by omega, j_69_2, if_neg (by omega), gd_pos (by omega)]
      by_cases c : s 30 (l : Int).toNat = -1
      · rw [if_pos c, w32_nat (by omega)]
        exact ih (l + 1) F (by omega)
      · rw [if_neg c]
        unfold j_69_21
        exact ⟨_, gd_pos (by omega)⟩
  obtain ⟨F, hF⟩ := FU_split (k := 11) (by omega)
  obtain ⟨q, e⟩ := go 10 1 F (by omega)
  unfold f_69
  rw [show FU = F + 10 + 1 by omega]
  exact ⟨q, e⟩
theorem fault_ (g : GIV s) : RES s (f_283 a s) (f_197 a) GIV False := by
  have m : ∀ s1 : Sg, GIV s1 → ∃ (v : Int) (s2 : Sg), f_197 a s1 = some (v, s2) ∧ GIV s2 := fun s1 g1 => by
    unfold f_197
    by_cases c : a = 0
    · rw [if_neg (fun u => u c)]
      exact ⟨_, _, rfl, (QF.a84 _ 0).gi g1⟩
    · rw [if_pos c]
      by_cases d : a = 1
      · rw [if_neg (fun u => u d)]
        exact ⟨_, _, rfl, (QF.a84 _ 0).gi g1⟩
      · rw [if_pos d]
        exact ⟨_, _, rfl, ((QF.a84 _ 0).trans (QF.a84 _ 1)).gi g1⟩
  have c : ∃ (t0 : Int) (s1 : Sg), f_283 a s = some (t0, s1) ∧ GIV s1 ∧ s1 0 = s 0 := by
    unfold f_283 f_5
    by_cases c : a = 0
    · obtain ⟨r, e, -⟩ := c68 s
      rw [if_neg (fun u => u c), e]
      exact ⟨0, _, rfl, (QF.a136 s _).gi g, u2_row _ _ _ (by decide)⟩
    · rw [if_pos c]
      by_cases d : a = 1
      · obtain ⟨r, e⟩ := c69 s
        rw [if_neg (fun u => u d), e]
        exact ⟨0, _, rfl, (QF.a136 s _).gi g, u2_row _ _ _ (by decide)⟩
      · rw [if_pos d]
        exact ⟨1, _, rfl, g, rfl⟩
  obtain ⟨t0, s1, e1, g1, z1⟩ := c
  obtain ⟨v, s2, e2, g2⟩ := m s1 g1
  exact ⟨t0, v, s1, s2, e1, e2, g2, fun u => u.elim, z1⟩
/-- RING -/
theorem ring_ (g : GIV s) : RES s (f_287 a s) (f_201 a) GIV True := by
  obtain ⟨-, -, -, -, ⟨r0, r1⟩, ⟨r2, r3⟩, rg⟩ := id g
  by_cases c8 : s 84 6 = 8
  · obtain ⟨L, l1, l2, l3⟩ := rg.1 c8
    by_cases c : 0 ≤ a ∧ a < (L : Int)
    · obtain ⟨i, hi⟩ : ∃ i : Nat, a = (i : Int) := ⟨a.toNat, by omega⟩
      have e161 : f_161 a s = 1 := by unfold f_161; rw [if_neg (by omega), l1, if_neg (by omega)]
      refine ⟨0, s 134 i, ax_u2 s 136 (0 : Int).toNat (s 134 i), ax_u2 (ax_u2 s 136 (0 : Int).toNat (s 134 i)) 84 0 0, ?_, ?_, ((QF.a136 s _).trans (QF.a84 _ 0)).gi g, fun _ => ⟨by rw [u2_at, if_pos rfl], fun _ => by rw [u2_row _ _ _ (by decide), show (0 : Int).toNat = 0 from rfl, u2_at, if_pos rfl]⟩, u2_row _ _ _ (by decide)⟩
      · unfold f_287 f_9
        rw [e161, if_pos (by decide), gd_pos (by unfold g_162; exact ⟨fun _ => trivial, fun _ => ⟨by omega, trivial⟩⟩)]
        unfold f_162
        rw [e161, if_neg (by decide), hi, Int.toNat_natCast, l3 i (by omega)]
        rfl
      · unfold f_201
        rw [u2_row _ _ _ (show (84 : Nat) ≠ 136 by decide), c8, if_neg (fun u => u rfl), f207, l2, w32_id (z := (L : Int) - 1) (by omega) (by omega), if_pos (show 0 ≤ a ∧ a ≤ (L : Int) - 1 by omega), if_neg (by decide), gd_pos (by omega), u2_row _ _ _ (show (134 : Nat) ≠ 136 by decide), hi, Int.toNat_natCast]
    · have e161 : f_161 a s = 0 := by
        unfold f_161
        by_cases d : a < 0
        · rw [if_pos d]
        · rw [if_neg d, l1, if_pos (by omega)]
      refine ⟨1, 0, s, ax_u2 (ax_u2 s 84 0 0) 84 0 1, ?_, ?_, ((QF.a84 s 0).trans (QF.a84 _ 1)).gi g, fun _ => ⟨by rw [u2_at, if_pos rfl], fun u => absurd u (by decide)⟩, rfl⟩
      · unfold f_287 f_9
        rw [e161, if_neg (by decide)]
        rfl
      · unfold f_201
        rw [c8, if_neg (fun u => u rfl), f207, l2, w32_id (z := (L : Int) - 1) (by omega) (by omega), if_neg (show ¬ (0 ≤ a ∧ a ≤ (L : Int) - 1) by omega), if_pos rfl]
        rfl
  · have e161 : f_161 a s = 0 := by
      have z := rg.2 c8
      unfold f_161
      by_cases d : a < 0
      · rw [if_pos d]
      · rw [if_neg d, z, if_pos (by omega)]
    refine ⟨1, 0, s, ax_u2 (ax_u2 s 84 0 0) 84 0 1, ?_, ?_, ((QF.a84 s 0).trans (QF.a84 _ 1)).gi g, fun _ => ⟨by rw [u2_at, if_pos rfl], fun u => absurd u (by decide)⟩, rfl⟩
    · unfold f_287 f_9
      rw [e161, if_neg (by decide)]
      rfl
    · unfold f_201
      rw [if_pos c8]
      rfl
/-- what was read, told of one state: sc has the widths as they were before the checks -/
theorem KN.ck (h : KN s) : ∃ (T : TT) (t : Nat → Int) (n : Nat) (sc : Sg) (S P A N K C : Nat), CKX T sc s n t S P A N K C 1 ∧ GOOD T sc s S A N 1 ∧ (∀ c, c ≠ 48 → sc c = s c) ∧ S ≤ 1171 ∧ K ≤ N ∧ s 54 6 = (S : Int) ∧ (∀ i, i < S → s 59 i = s 102 i) ∧ (∀ i, i < S → s 60 i + s 103 i = (if i + 1 < S then s 60 (i + 1) else (N : Int))) ∧ (∀ i : Nat, i < S → s 94 i = 3 → s 57 i = T.vl 1) ∧ (∀ k, k < N → (s 122 k = -2 ∧ s 48 k = 0) ∨ (1 ≤ s 122 k ∧ s 122 k ≤ 32 ∧ s 48 k = s 122 k)) := by
  obtain ⟨T, t, n, sc0, sm0, sc1, sm1, x, y, S, P, A, N, K, C, a1, a2, a3, a4, a5, a6, a7, a8, a9, a10⟩ := h
  obtain ⟨r1, r2, r3⟩ := kn_rows a6 a8 a9 a10
  obtain ⟨hk, hS, hC, hK, h103⟩ := ckx_in a1 a2 a5 a3
  obtain ⟨o1, o2, o3, o4, o5, o6, o7, o8, o9, o10, o11, o12, o13, -⟩ := id a6
  obtain ⟨hB, h70, h19, h7, h37, hnc, htl, hdp⟩ := a5
  obtain ⟨e1, e2, e3, e4, e5, e6, e7, e8, e9, e10, e11, e12, e13, e14, e15, e16, e17, e18, e19, e20, e21, e22, e23, e24, e25, e26, e27, e28, e29, e30, e31⟩ := hB
  obtain ⟨sc, hsc⟩ : ∃ z : Sg, z = fun c => if c = 48 then sc1 48 else s c := ⟨_, rfl⟩
  have q1 : ∀ c, c ≠ 48 → sc c = s c := fun c u => by rw [hsc]; simp only [if_neg u]
  have q48 : sc 48 = sc1 48 := by rw [hsc]; simp only [if_true]
  have cn1 : CN sc1 := o12 a7
  have cn : CN sc := by
    have f := o8.mpr a7
    unfold CN
    rw [q1 30 (by decide), a8 30 (by decide)]
    exact ⟨f 4 (by decide) (by decide), f 5 (by decide) (by decide), f 6 (by decide) (by decide), f 7 (by decide) (by decide)⟩
  have mv : MVr sc1 sm1 sc s := by
    refine ⟨fun c u v => ?_, ⟨fun _ => cn1, fun _ => cn⟩, fun c u v w => r2 c w v, fun j u6 u7 u8 u => r3 j u.2.1 u.2.2.1 u.2.2.2.1 u6 u7 u8 u.2.2.2.2 u.1⟩
    by_cases c48 : c = 48
    · rw [c48]; exact q48
    · rw [q1 c c48, r1 c v c48]
  have ck : CKX T sc s n t S P A N K C 1 := by rw [CKX_mv mv]; exact hk
  have gd : GOOD T sc s S A N 1 := ck.2.2.2.1.2.2.2.2.2.2.1.mp cn
  have h54 : s 54 = sc1 54 := r1 54 (by decide) (by decide)
  refine ⟨T, t, n, sc, S, P, A, N, K, C, ck, gd, q1, hS, e26, by rw [h54]; exact e10, fun i hi => ?_, fun i hi => ?_, fun i hi h3 => ?_, fun k hk => ?_⟩
  · rw [r1 59 (by decide) (by decide), r2 102 (by decide) (by decide)]
    exact e18 i hi
  · rw [r1 60 (by decide) (by decide), r2 103 (by decide) (by decide)]
    exact hnc i hi
  · rw [r2 94 (by decide) (by decide)] at h3
    have wb := gd.1.2
    rw [r1 57 (by decide) (by decide), o13 a7 i (by rw [e10]; omega) h3, e29]
    unfold mn
    rw [if_neg (by omega)]
  · rw [a8 48 (by decide), a9 122 (by decide)]
    exact o9 a7 k hk
/-- STATEMENT -/
theorem f217 (s : Sg) (h5 : s 84 5 = 1) (h19 : s 84 19 = (S : Int)) (hS : S ≤ 4100) : f_217 a s = if 0 ≤ a ∧ a < (S : Int) then 1 else 0 := by
  unfold f_217
  rw [h5, if_neg (by decide), f207, h19, w32_id (by omega) (by omega)]
  by_cases c : 0 ≤ a ∧ a < (S : Int)
  · rw [if_pos (show 0 ≤ a ∧ a ≤ (S : Int) - 1 by omega), if_neg (by decide), if_pos c]
  · rw [if_neg (show ¬ (0 ≤ a ∧ a ≤ (S : Int) - 1) by omega), if_pos rfl, if_neg c]
theorem f181 (s : Sg) (h : s 54 6 = (S : Int)) : f_181 a s = if 0 ≤ a ∧ a < (S : Int) then 1 else 0 := by
  unfold f_181
  by_cases c : a < 0
  · rw [if_pos c, if_neg (by omega)]
  · rw [if_neg c, h]
    by_cases d : (S : Int) ≤ a
    · rw [if_pos d, if_neg (by omega)]
    · rw [if_neg d, if_pos (by omega)]
/-- both answer v -/
theorem RES.ok {rc : Option (Int × Sg)} {rm : Sg → Option (Int × Sg)} {v : Int} (g : GIV s) (h1 : rc = some (0, ax_u2 s 136 (0 : Int).toNat v)) (h2 : ∀ s1 : Sg, QF s s1 → rm s1 = some (v, ax_u2 s1 84 0 0)) : RES s rc rm GIV True :=
  ⟨0, v, _, _, h1, h2 _ (QF.a136 s v), ((QF.a136 s v).trans (QF.a84 _ 0)).gi g, fun _ => ⟨by rw [u2_at, if_pos rfl], fun _ => by rw [u2_row _ _ _ (by decide), show (0 : Int).toNat = 0 from rfl, u2_at, if_pos rfl]⟩, u2_row _ _ _ (by decide)⟩
/-- both tell a mark -/
theorem RES.no {rc : Option (Int × Sg)} {rm : Sg → Option (Int × Sg)} {v : Int} (g : GIV s) (hv : v ≠ 0) (h1 : rc = some (v, s)) (h2 : rm s = some (0, ax_u2 (ax_u2 s 84 0 0) 84 0 v)) : RES s rc rm GIV True :=
  ⟨v, 0, _, _, h1, h2, ((QF.a84 s 0).trans (QF.a84 _ v)).gi g, fun _ => ⟨by rw [u2_at, if_pos rfl], fun u => absurd u hv⟩, rfl⟩
theorem RES.wk {rc : Option (Int × Sg)} {rm : Sg → Option (Int × Sg)} {E E' : Prop} (h : RES s rc rm GIV E) (k : E' → E) : RES s rc rm GIV E' := by
  obtain ⟨t0, v, s1, s2, h1, h2, h3, h4, h5⟩ := h
  exact ⟨t0, v, s1, s2, h1, h2, h3, fun u => h4 (k u), h5⟩
theorem QF.tx (h : QF s s') (hX : TX T sc s n t) : TX T sc (ax_u2 s' 84 0 0) n t := hX.cg (fun _ _ => rfl) (fun c u => by rw [u2_row _ _ _ (by omega), h.1 c (by omega) (by omega)]) (by rw [u2_col _ _ _ (by decide), h.2 3 (by decide)])
theorem statement_ (g : GIV s) : RES s (f_284 a b s) (f_198 a b) GIV True := by
  obtain ⟨-, -, -, gk, -⟩ := id g
  rcases gk with ⟨k1, k2, k3, k4, k5⟩ | ⟨k1, k2, kn⟩
  · refine RES.no (v := 1) g (by decide) ?_ ?_
    · unfold f_284 f_6
      rw [show f_181 a s = 0 from by rw [f181 (S := 0) s k3, if_neg (by omega)], if_pos rfl]
      rfl
    · unfold f_198 f_217
      rw [u2_col _ _ _ (by decide), k2, if_pos rfl, if_pos rfl]
      rfl
  · obtain ⟨T, t, n, sc, S, P, A, N, K, C, ck, gd, q1, hS, hK, h54, h59, h60, h57, -⟩ := kn.ck
    obtain ⟨hT, hX, hC, hD, hN, h19, h31, h34, h30, wz, tw, S8, P8, A8, N8⟩ := id ck
    by_cases c : (0 ≤ a ∧ a < (S : Int)) ∧ (0 ≤ b ∧ b ≤ 4)
    · obtain ⟨c1, c2⟩ := c
      obtain ⟨i, hi⟩ : ∃ i : Nat, a = (i : Int) := ⟨a.toNat, by omega⟩
      have iS : i < S := by omega
      have e181 : ∀ q : Int, f_181 q s = if 0 ≤ q ∧ q < (S : Int) then 1 else 0 := fun q => f181 s h54
      have a181 : f_181 a s = 1 := by rw [e181, if_pos c1]
      have m217 : ∀ s1 : Sg, QF s s1 → f_217 a (ax_u2 s1 84 0 0) = 1 := fun s1 q => by rw [f217 (S := S) _ (by rw [u2_col _ _ _ (by decide), q.2 5 (by decide)]; exact k2) (by rw [u2_col _ _ _ (by decide), q.2 19 (by decide)]; exact h19) (by omega), if_pos c1]
      obtain ⟨hd, p0, pc, n0, b1, b2, b3, b4, b5, b6, b7, b8, b9, b10, b11⟩ := hD.1 i iS
      have gs := gd.2.1 i iS
      have r : ∀ s1 : Sg, QF s s1 → ∀ c, 88 ≤ c → c ≤ 135 → s1 c = s c := fun s1 q c u v => q.1 c (by omega) (by omega)
      rw [q1 55 (by decide)] at b5
      have gc : (f_181 a s = 0 → True) ∧ (¬ (f_181 a s = 0) → ((0 ≤ a ∧ a < 1171) ∧ True)) := ⟨fun _ => trivial, fun _ => ⟨by omega, trivial⟩⟩
      have cas : b = 0 ∨ b = 1 ∨ b = 2 ∨ b = 3 ∨ b = 4 := by omega
      rcases cas with e | e | e | e | e
      · -- what it is
        refine RES.ok (v := s 94 i) g ?_ (fun s1 q => ?_)
        · unfold f_284 f_6
          rw [a181, if_neg (by decide), if_neg (by omega), if_pos (by omega), if_pos e, gd_pos (p := g_182 a s) gc]
          unfold f_182
          rw [a181, if_neg (by decide), hi, Int.toNat_natCast, b5]
          rfl
        · unfold f_198
          rw [m217 s1 q, if_neg (by decide), f207, if_pos c2, if_pos (by decide), if_neg (fun u => u e), gd_pos (by omega), hi, Int.toNat_natCast, r s1 q 94 (by decide) (by decide)]
      · -- its width
        have key : ∃ v : Int, s 57 i = v ∧ ∀ s1 : Sg, QF s s1 → (if ¬ (s1 94 i) = 3 then j_198_71 (s1 97 i) (ax_u2 s1 84 0 0) else j_198_71 (s1 84 30) (ax_u2 s1 84 0 0)) = some (v, ax_u2 s1 84 0 0) := by
          by_cases c3 : s 94 i = 3
          · have wb := gd.1
            refine ⟨T.vl 1, h57 i iS c3, fun s1 q => ?_⟩
            rw [r s1 q 94 (by decide) (by decide), if_neg (fun u => u c3), q.2 30 (by decide), h30]
            unfold j_198_71
            rw [m218 hT (q.tx hX) wz tw, Option.bind_some, w32_id (by omega) (by omega)]
          · have sk : SKW T sc s i := by
              rcases b11 with u | u | u | u
              · exact u.2.2.1
              · exact u.2.2.1
              · exact u.2.2.1
              · exact absurd u.1 c3
            obtain ⟨w, w1, w2, w3, w4⟩ := sk
            have lt : s 94 i < 3 := by
              rcases b11 with u | u | u | u
              · omega
              · omega
              · omega
              · exact absurd u.1 c3
            have gw := gs.1 lt
            rw [w1, Int.toNat_natCast] at gw
            refine ⟨T.vl w, ?_, fun s1 q => ?_⟩
            · rw [← q1 57 (by decide), w4]
              unfold mn
              rw [if_neg (by omega)]
            · rw [r s1 q 94 (by decide) (by decide), if_pos c3, r s1 q 97 (by decide) (by decide), w1]
              unfold j_198_71
              rw [m218 hT (q.tx hX) w2 w3, Option.bind_some, w32_id (by omega) (by omega)]
        obtain ⟨v, v1, v2⟩ := key
        refine RES.ok (v := v) g ?_ (fun s1 q => ?_)
        · unfold f_284 f_6
          rw [a181, if_neg (by decide), if_neg (by omega), if_pos (by omega), if_neg (by omega), if_pos e, gd_pos (p := g_183 a s) gc]
          unfold f_183
          rw [a181, if_neg (by decide), hi, Int.toNat_natCast, v1]
          rfl
        · have := v2 s1 q
          unfold f_198
          rw [m217 s1 q, if_neg (by decide), f207, if_pos c2, if_pos (by decide), if_pos (by omega), if_neg (fun u => u e), gd_pos (by omega), hi, Int.toNat_natCast]
          rw [gd_pos (by omega)]
          exact this
      · -- registers, address bits, parameters, parts
        have key : ∃ v : Int, s 58 i = v ∧ ∀ s1 : Sg, QF s s1 → (if s1 94 i ≤ 1 then (if 0 ≤ s1 96 i then (f_218 (s1 96 i) (ax_u2 s1 84 0 0)).bind fun q2 => some (ax_w32 q2, (ax_u2 s1 84 0 0)) else some (0, (ax_u2 s1 84 0 0))) else some (s1 99 i, (ax_u2 s1 84 0 0))) = some (v, ax_u2 s1 84 0 0) := by
          have skc : s 94 i ≤ 1 → SKC T sc s i → ∃ v : Int, s 58 i = v ∧ ∀ s1 : Sg, QF s s1 → (if s1 94 i ≤ 1 then (if 0 ≤ s1 96 i then (f_218 (s1 96 i) (ax_u2 s1 84 0 0)).bind fun q2 => some (ax_w32 q2, (ax_u2 s1 84 0 0)) else some (0, (ax_u2 s1 84 0 0))) else some (s1 99 i, (ax_u2 s1 84 0 0))) = some (v, ax_u2 s1 84 0 0) := fun l1 sk => by
            obtain ⟨w, w1, w2, w3, w4⟩ := sk
            have gv : 0 ≤ T.vl w ∧ T.vl w ≤ 64 := by
              have v0 := (hT.2.2.2.2.1 w w2).1
              by_cases z : s 94 i = 0
              · have := gs.2.2.1 z (by omega)
                rw [w1, Int.toNat_natCast] at this
                unfold pw2 at this
                omega
              · have z1 : s 94 i = 1 := by
                  rcases b11 with u | u | u | u
                  · exact absurd u.1 z
                  · exact u.1
                  · omega
                  · omega
                have := gs.2.1 z1
                rw [w1, Int.toNat_natCast] at this
                omega
            refine ⟨T.vl w, ?_, fun s1 q => ?_⟩
            · rw [← q1 58 (by decide), w4]
              unfold mn
              rw [if_neg (by omega)]
            · rw [r s1 q 94 (by decide) (by decide), if_pos l1, r s1 q 96 (by decide) (by decide), w1, if_pos (by omega), m218 hT (q.tx hX) w2 w3, Option.bind_some, w32_id (by omega) (by omega)]
          have prt : 1 < s 94 i → sc 58 i = (pc : Int) → ∃ v : Int, s 58 i = v ∧ ∀ s1 : Sg, QF s s1 → (if s1 94 i ≤ 1 then (if 0 ≤ s1 96 i then (f_218 (s1 96 i) (ax_u2 s1 84 0 0)).bind fun q2 => some (ax_w32 q2, (ax_u2 s1 84 0 0)) else some (0, (ax_u2 s1 84 0 0))) else some (s1 99 i, (ax_u2 s1 84 0 0))) = some (v, ax_u2 s1 84 0 0) := fun l1 sk => by
            refine ⟨(pc : Int), by rw [← q1 58 (by decide), sk], fun s1 q => ?_⟩
            rw [r s1 q 94 (by decide) (by decide), if_neg (by omega), r s1 q 99 (by decide) (by decide), b7]
          rcases b11 with u | u | u | u
          · rcases u.2.2.2 with ⟨v1, v2⟩ | v
            · refine ⟨0, by rw [← q1 58 (by decide), v2], fun s1 q => ?_⟩
              rw [r s1 q 94 (by decide) (by decide), if_pos (by omega), r s1 q 96 (by decide) (by decide), v1, if_neg (by decide)]
            · exact skc (by omega) v
          · exact skc (by omega) u.2.2.2
          · exact prt (by omega) u.2.1
          · exact prt (by omega) u.2.1
        obtain ⟨v, v1, v2⟩ := key
        refine RES.ok (v := v) g ?_ (fun s1 q => ?_)
        · unfold f_284 f_6
          rw [a181, if_neg (by decide), if_neg (by omega), if_pos (by omega), if_neg (by omega), if_neg (by omega), if_pos e, gd_pos (p := g_184 a s) gc]
          unfold f_184
          rw [a181, if_neg (by decide), hi, Int.toNat_natCast, v1]
          rfl
        · have := v2 s1 q
          unfold f_198
          rw [m217 s1 q, if_neg (by decide), f207, if_pos c2, if_pos (by decide), if_pos (by omega), if_pos (by omega), if_neg (fun u => u e), gd_pos (by omega), gd_pos (by omega), gd_pos (by omega), gd_pos (by omega), hi, Int.toNat_natCast]
          exact this
      · -- actions
        refine RES.ok (v := s 102 i) g ?_ (fun s1 q => ?_)
        · unfold f_284 f_6
          rw [a181, if_neg (by decide), if_neg (by omega), if_pos (by omega), if_neg (by omega), if_neg (by omega), if_neg (by omega), if_pos e, gd_pos (p := g_185 a s) gc]
          unfold f_185
          rw [a181, if_neg (by decide), hi, Int.toNat_natCast, h59 i iS]
          rfl
        · unfold f_198
          rw [m217 s1 q, if_neg (by decide), f207, if_pos c2, if_pos (by decide), if_pos (by omega), if_pos (by omega), if_pos (by omega), if_neg (fun u => u e), gd_pos (by omega), hi, Int.toNat_natCast, r s1 q 102 (by decide) (by decide)]
      · -- nodes
        have h6 := h60 i iS
        have n0' : s 60 i = (n0 : Int) := by rw [← q1 60 (by decide)]; exact b9
        have a186 : f_186 a s = (n0 : Int) := by unfold f_186; rw [a181, if_neg (by decide), hi, Int.toNat_natCast, n0']
        refine RES.ok (v := s 103 i) g ?_ (fun s1 q => ?_)
        · have j129 : ∀ z : Int, 0 ≤ z → z ≤ 8192 → s 103 i = z - (n0 : Int) → j_6_129 a z s = some (.inl (s 103 i, s)) := fun z z0 z1 z2 => by
            unfold j_6_129
            rw [gd_pos (p := g_186 a s) gc, a186, w32_id (by omega) (by omega), z2]
          have fin : f_6 a b s = some (.inl (s 103 i, s)) := by
            unfold f_6
            rw [a181, if_neg (by decide), if_neg (by omega), if_pos (by omega), if_neg (by omega), if_neg (by omega), if_neg (by omega), if_neg (by omega), hi, w32_nat (by omega)]
            by_cases l : i + 1 < S
            · rw [if_pos l] at h6
              obtain ⟨_, _, _, n1, _, _, _, _, _, _, _, _, d9, d10, _⟩ := hD.1 (i + 1) l
              rw [q1 60 (by decide)] at d9
              have i181 : f_181 ((i + 1 : Nat) : Int) s = 1 := by rw [e181, if_pos (by omega)]
              have e186 : f_186 ((i + 1 : Nat) : Int) s = (n1 : Int) := by unfold f_186; rw [i181, if_neg (by decide), Int.toNat_natCast, d9]
              rw [i181, if_neg (by decide), gd_pos (p := g_186 ((i + 1 : Nat) : Int) s) ⟨fun _ => trivial, fun _ => ⟨by omega, trivial⟩⟩, e186, ← hi]
              exact j129 _ (by omega) (by omega) (by omega)
            · rw [if_neg l] at h6
              have e46 : s 46 7 = (N : Int) := by rw [← q1 46 (by decide)]; exact hN.1
              have i181 : f_181 ((i + 1 : Nat) : Int) s = 0 := by rw [e181, if_neg (by omega)]
              rw [i181, if_pos rfl, e46, ← hi]
              exact j129 _ (by omega) (by omega) (by omega)
          unfold f_284
          rw [fin]
          rfl
        · unfold f_198
          rw [m217 s1 q, if_neg (by decide), f207, if_pos c2, if_pos (by decide), if_pos (by omega), if_pos (by omega), if_pos (by omega), if_pos (by omega), gd_pos (by omega), hi, Int.toNat_natCast, r s1 q 103 (by decide) (by decide)]
    · refine RES.no (v := 1) g (by decide) ?_ ?_
      · unfold f_284 f_6
        rw [f181 (S := S) s h54]
        by_cases c1 : 0 ≤ a ∧ a < (S : Int)
        · rw [if_pos c1, if_neg (by decide)]
          by_cases d : b < 0
          · rw [if_pos d]; rfl
          · rw [if_neg d, if_neg (by omega)]; rfl
        · rw [if_neg c1, if_pos rfl]; rfl
      · unfold f_198
        rw [f217 (S := S) _ (by rw [u2_col _ _ _ (by decide)]; exact k2) (by rw [u2_col _ _ _ (by decide)]; exact h19) (by omega)]
        by_cases c1 : 0 ≤ a ∧ a < (S : Int)
        · rw [if_pos c1, if_neg (by decide), f207, if_neg (fun u => c ⟨c1, u⟩), if_neg (by decide)]; rfl
        · rw [if_neg c1, if_pos rfl]; rfl
end QRY
/-! CALLS: node, bits. -/
section NOB
variable {s s' sc sm x y : Sg} {T : TT} {n S P A N K C w : Nat} {t : Nat → Int} {a b : Int}
theorem f114 (s : Sg) (h : s 46 7 = (N : Int)) : f_114 a s = if 0 ≤ a ∧ a < (N : Int) then 1 else 0 := by
  unfold f_114
  by_cases c : a < 0
  · rw [if_pos c, if_neg (by omega)]
  · rw [if_neg c, h]
    by_cases d : (N : Int) ≤ a
    · rw [if_pos d, if_neg (by omega)]
    · rw [if_neg d, if_pos (by omega)]
/-- a node's parts, one after another -/
theorem c119n (hN : ND T sc sm N K) (h8 : N ≤ 8192) (r46 : s 46 = sc 46) (r51 : s 51 = sc 51) (r52 : s 52 = sc 52) {m c q : Nat} (hm : m < N) (e1 : sm 120 m = (c : Int)) (e2 : sm 121 m = (q : Int)) {i : Nat} (hi : i ≤ 3) : f_119 (m : Int) (i : Int) s = some (if i < c then sm 125 (q + i) else -1) := by
  have h46 : s 46 7 = (N : Int) := by rw [r46]; exact hN.1
  have f14 : ∀ z : Int, f_114 z s = if 0 ≤ z ∧ z < (N : Int) then 1 else 0 := fun z => f114 s h46
  obtain ⟨c', q', d1, d2, d3, d4, d5, d6, d7, d8, d9, d10, d11, d12, -⟩ := hN.2.2.2 m hm
  have ec : c' = c := by omega
  have eq' : q' = q := by omega
  subst ec eq'
  have st : ∀ e : Nat, f_121 (if e < c' then sm 125 (q' + e) else -1) s = (if e + 1 < c' then sm 125 (q' + (e + 1)) else -1) ∧ g_121 (if e < c' then sm 125 (q' + e) else -1) s := fun e => by
    by_cases u : e < c'
    · obtain ⟨x, x1, x2, x3⟩ := d12 e u
      rw [if_pos u, x1]
      unfold f_121 g_121
      rw [show f_114 (x : Int) s = 1 from by rw [f14, if_pos (by omega)], if_neg (by decide), Int.toNat_natCast, r52]
      exact ⟨x3, fun _ => trivial, fun _ => ⟨by omega, trivial⟩⟩
    · rw [if_neg u, if_neg (by omega)]
      unfold f_121 g_121
      rw [show f_114 (-1) s = 0 from by rw [f14, if_neg (by omega)], if_pos rfl]
      exact ⟨rfl, fun _ => trivial, fun v => absurd rfl v⟩
  have go : ∀ (r e F : Nat), e + r = i → j_119_9 (F + r + 1) (i : Int) (if e < c' then sm 125 (q' + e) else -1) (e : Int) s = some (if i < c' then sm 125 (q' + i) else -1) := by
    intro r
    induction r with
    | zero =>
      intro e F he
      rw [j_119_9, if_pos (by omega), show e = i by omega]
    | succ r ih =>
      intro e F he
      obtain ⟨s1, s2⟩ := st e
      rw [show F + (r + 1) + 1 = (F + r + 1) + 1 by omega, j_119_9, if_neg (by omega), gd_pos s2, s1, w32_nat (by omega)]
      exact ih (e + 1) F (by omega)
  unfold f_119
  have e120 : f_120 (m : Int) s = (if 0 < c' then sm 125 (q' + 0) else -1) := by
    unfold f_120
    rw [show f_114 (m : Int) s = 1 from by rw [f14, if_pos (by omega)], if_neg (by decide), Int.toNat_natCast, r51, d11]
    rfl
  obtain ⟨F, hF⟩ := FU_split (k := i + 1) (by omega)
  rw [gd_pos (by unfold g_120; exact ⟨fun _ => trivial, fun _ => ⟨by omega, trivial⟩⟩), e120, show FU = F + i + 1 by omega]
  exact go i 0 F (by omega)
theorem node_ (g : GIV s) : RES s (f_286 a b s) (f_200 a b) GIV (b ≠ 1) := by
  obtain ⟨-, -, -, gk, -⟩ := id g
  rcases gk with ⟨k1, k2, k3, k4, k5⟩ | ⟨k1, k2, kn⟩
  · refine (RES.no (v := 1) g (by decide) ?_ ?_).wk (fun _ => trivial)
    · unfold f_286 f_8
      rw [show f_114 a s = 0 from by rw [f114 (N := 0) s k4, if_neg (by omega)], if_pos rfl]
      rfl
    · unfold f_200
      rw [k2, if_pos rfl]
      rfl
  · obtain ⟨T, t, n, sc, S, P, A, N, K, C, ck, gd, q1, hS, hK, h54, h59, h60, h57, h48⟩ := kn.ck
    obtain ⟨hT, hX, hC, hD, hN, h19, h31, h34, h30, wz, tw, S8, P8, A8, N8⟩ := id ck
    have h46 : s 46 7 = (N : Int) := by rw [← q1 46 (by decide)]; exact hN.1
    have h47 := hN.2.1
    by_cases c : (0 ≤ a ∧ a < (N : Int)) ∧ (-1 ≤ b ∧ b ≤ 6)
    · obtain ⟨c1, c2⟩ := c
      obtain ⟨m, hm⟩ : ∃ m : Nat, a = (m : Int) := ⟨a.toNat, by omega⟩
      have mN : m < N := by omega
      have a114 : f_114 a s = 1 := by rw [f114 s h46, if_pos c1]
      have gc : (f_114 a s = 0 → True) ∧ (¬ (f_114 a s = 0) → ((0 ≤ a ∧ a < 8192) ∧ True)) := ⟨fun _ => trivial, fun _ => ⟨by omega, trivial⟩⟩
      obtain ⟨cc, q, d1, d2, d3, d4, d5, d6, d7, d8, d9, d10, d11, d12, nv⟩ := hN.2.2.2 m mN
      have r : ∀ s1 : Sg, QF s s1 → ∀ c, 88 ≤ c → c ≤ 135 → s1 c = s c := fun s1 q c u v => q.1 c (by omega) (by omega)
      have w47 : ax_w32 ((N : Int) - 1) = (N : Int) - 1 := w32_id (by omega) (by omega)
      have m1 : ∀ s1 : Sg, QF s s1 → ¬ (s1 84 5 = 0) ∧ ¬ (f_207 a 0 (ax_w32 (s1 84 47 - 1)) (ax_u2 s1 84 0 0) = 0) ∧ ¬ (f_207 b (-1) 6 (ax_u2 s1 84 0 0) = 0) := fun s1 q => by
        rw [q.2 5 (by decide), k2, q.2 47 (by decide), h47, w47, f207, f207, if_pos (by omega), if_pos c2]
        decide
      have cas : b = -1 ∨ b = 0 ∨ b = 1 ∨ b = 2 ∨ 3 ≤ b := by omega
      rcases cas with e | e | e | e | e
      · -- its number
        have key : ∃ v : Int, s 49 m = v ∧ ∀ s1 : Sg, QF s s1 → (if ¬ (s1 116 m) = 0 then (if ¬ (s1 116 m) = 7 then some ((-1), (ax_u2 s1 84 0 0)) else (f_218 (s1 119 m) (ax_u2 s1 84 0 0)).bind fun q2 => some (ax_w32 q2, (ax_u2 s1 84 0 0))) else (f_218 (s1 118 m) (ax_u2 s1 84 0 0)).bind fun q3 => some (ax_w32 q3, (ax_u2 s1 84 0 0))) = some (v, ax_u2 s1 84 0 0) := by
          obtain ⟨v1, v2, v3, v4, v5⟩ := nv
          rw [q1 49 (by decide)] at v1 v2 v3 v4 v5
          by_cases z0 : s 116 m = 0
          · obtain ⟨x, w, u1, u2, u3, u4, u5, u6, u7, u8⟩ := v1 z0
            refine ⟨ax_w32 (T.vl x), u7, fun s1 q => ?_⟩
            rw [r s1 q 116 (by decide) (by decide), if_neg (fun u => u z0), r s1 q 118 (by decide) (by decide), u1, m218 hT (q.tx hX) u3 u5, Option.bind_some]
          · by_cases z7 : s 116 m = 7
            · obtain ⟨x, w, u1, u2, u3, u4, u5, u6, u7, u8⟩ := v3 z7
              have gw := (gd.2.2.2 m mN).2.2.1 z7
              rw [u1, u2, Int.toNat_natCast, Int.toNat_natCast] at gw
              have w0 := (hT.2.2.2.2.1 w u4).1
              refine ⟨T.vl w, ?_, fun s1 q => ?_⟩
              · rw [u7]
                unfold mn
                rw [if_neg (by omega)]
              · rw [r s1 q 116 (by decide) (by decide), if_pos z0, if_neg (fun u => u z7), r s1 q 119 (by decide) (by decide), u2, m218 hT (q.tx hX) u4 u6, Option.bind_some, w32_id (by omega) (by omega)]
            · refine ⟨-1, ?_, fun s1 q => ?_⟩
              · by_cases z3 : s 116 m ≤ 3
                · obtain ⟨x, _, _, _, _, u⟩ := v4 (by omega) z3
                  exact u
                · by_cases z5 : s 116 m = 4 ∨ s 116 m = 5
                  · obtain ⟨w, _, _, _, u, _⟩ := v2 z5
                    exact u
                  · exact (v5 (by omega)).1
              · rw [r s1 q 116 (by decide) (by decide), if_pos z0, if_pos z7]
        obtain ⟨v, v1, v2⟩ := key
        refine (RES.ok (v := v) g ?_ (fun s1 q => ?_)).wk (fun _ => trivial)
        · unfold f_286 f_8
          rw [a114, if_neg (by decide), if_neg (by omega), if_pos (by omega), if_pos e, gd_pos (p := g_115 a s) gc]
          unfold f_115
          rw [a114, if_neg (by decide), hm, Int.toNat_natCast, v1]
          rfl
        · have := v2 s1 q
          obtain ⟨x1, x2, x3⟩ := m1 s1 q
          unfold f_200
          rw [if_neg x1, if_neg x2, if_pos x3, if_neg (fun u => u e), gd_pos (by omega), gd_pos (by omega), gd_pos (by omega), gd_pos (by omega), hm, Int.toNat_natCast]
          exact this
      · -- its kind
        refine (RES.ok (v := s 116 m) g ?_ (fun s1 q => ?_)).wk (fun _ => trivial)
        · unfold f_286 f_8
          rw [a114, if_neg (by decide), if_neg (by omega), if_pos (by omega), if_neg (by omega), if_pos e, gd_pos (p := g_116 a s) gc]
          unfold f_116
          rw [a114, if_neg (by decide), hm, Int.toNat_natCast, ← q1 47 (by decide), d5]
          rfl
        · obtain ⟨x1, x2, x3⟩ := m1 s1 q
          unfold f_200
          rw [if_neg x1, if_neg x2, if_pos x3, if_pos (by omega), if_neg (by omega), if_neg (fun u => u e), gd_pos (by omega), hm, Int.toNat_natCast, r s1 q 116 (by decide) (by decide)]
      · -- its width
        refine ⟨0, s 122 m, ax_u2 s 136 (0 : Int).toNat (s 48 m), ax_u2 (ax_u2 s 136 (0 : Int).toNat (s 48 m)) 84 0 0, ?_, ?_, ((QF.a136 s _).trans (QF.a84 _ 0)).gi g, fun u => absurd e u, u2_row _ _ _ (by decide)⟩
        · unfold f_286 f_8
          rw [a114, if_neg (by decide), if_neg (by omega), if_pos (by omega), if_neg (by omega), if_neg (by omega), if_pos e, gd_pos (p := g_117 a s) gc]
          unfold f_117
          rw [a114, if_neg (by decide), hm, Int.toNat_natCast]
          rfl
        · have q := QF.a136 s (s 48 m)
          obtain ⟨x1, x2, x3⟩ := m1 _ q
          unfold f_200
          rw [if_neg x1, if_neg x2, if_pos x3, if_pos (by omega), if_neg (by omega), if_pos (by omega), if_neg (fun u => u e), gd_pos (by omega), hm, Int.toNat_natCast, r _ q 122 (by decide) (by decide)]
      · -- how many
        refine (RES.ok (v := s 120 m) g ?_ (fun s1 q => ?_)).wk (fun _ => trivial)
        · unfold f_286 f_8
          rw [a114, if_neg (by decide), if_neg (by omega), if_pos (by omega), if_neg (by omega), if_neg (by omega), if_neg (by omega), if_pos e, gd_pos (p := g_118 a s) gc]
          unfold f_118
          rw [a114, if_neg (by decide), hm, Int.toNat_natCast, ← q1 53 (by decide), d4, d1]
          rfl
        · obtain ⟨x1, x2, x3⟩ := m1 s1 q
          unfold f_200
          rw [if_neg x1, if_neg x2, if_pos x3, if_pos (by omega), if_neg (by omega), if_pos (by omega), if_pos (by omega), gd_pos (by omega), hm, Int.toNat_natCast, r s1 q 120 (by decide) (by decide)]
      · -- one of them
        obtain ⟨i, hi⟩ : ∃ i : Nat, b = (i : Int) + 3 := ⟨(b - 3).toNat, by omega⟩
        have wb : ax_w32 (b - 3) = (i : Int) := by rw [w32_id (by omega) (by omega)]; omega
        have e119 := c119n hN N8 (s := s) (q1 46 (by decide)).symm (q1 51 (by decide)).symm (q1 52 (by decide)).symm mN d1 d2 (i := i) (by omega)
        refine (RES.ok (v := if i < cc then s 125 (q + i) else -1) g ?_ (fun s1 q' => ?_)).wk (fun _ => trivial)
        · unfold f_286 f_8
          rw [a114, if_neg (by decide), if_neg (by omega), if_pos (by omega), if_neg (by omega), if_neg (by omega), if_neg (by omega), if_neg (by omega), wb, hm, e119]
          rfl
        · obtain ⟨x1, x2, x3⟩ := m1 s1 q'
          unfold f_200
          rw [if_neg x1, if_neg x2, if_pos x3, if_pos (by omega), if_pos e, gd_pos (by omega), wb, hm, Int.toNat_natCast, r s1 q' 120 (by decide) (by decide), d1]
          by_cases u : i < cc
          · have w2 : ax_w32 (ax_w32 ((q : Int) + b) - 3) = ((q + i : Nat) : Int) := by rw [w32_id (z := (q : Int) + b) (by omega) (by omega), w32_id (by omega) (by omega)]; omega
            rw [if_neg (by omega), gd_pos (by omega), r s1 q' 121 (by decide) (by decide), d2, w2, gd_pos (by omega), r s1 q' 125 (by decide) (by decide), Int.toNat_natCast, if_pos u]
          · rw [if_pos (by omega), if_neg u]
    · refine (RES.no (v := 1) g (by decide) ?_ ?_).wk (fun _ => trivial)
      · unfold f_286 f_8
        rw [f114 (N := N) s h46]
        by_cases c1 : 0 ≤ a ∧ a < (N : Int)
        · rw [if_pos c1, if_neg (by decide)]
          by_cases d : b < -1
          · rw [if_pos d]; rfl
          · rw [if_neg d, if_neg (by omega)]; rfl
        · rw [if_neg c1, if_pos rfl]; rfl
      · unfold f_200
        rw [k2, if_neg (by decide), f207, h47, w32_id (z := (N : Int) - 1) (by omega) (by omega)]
        by_cases c1 : 0 ≤ a ∧ a < (N : Int)
        · rw [if_pos (show 0 ≤ a ∧ a ≤ (N : Int) - 1 by omega), if_neg (by decide), f207, if_neg (fun u => c ⟨c1, u⟩), if_neg (by decide)]; rfl
        · rw [if_neg (show ¬ (0 ≤ a ∧ a ≤ (N : Int) - 1) by omega), if_pos rfl]; rfl
/-- BITS: it comes to an end -/
theorem c75t (hT : TWF T) (hc : CC T s) (hX : TX T s sm n t) (b : Int) : ∀ (r l F : Nat) (v : Int), l + r = T.z → 1 ≤ l → ∃ q : Int, j_75_5 (F + r + 1) b v (l : Int) s = some q := by
  have h8 := hT.1
  have n8 := hX.1.2.1
  have inn : ∀ (k5 : Int → Int → Int → Sg → Option Int) (l : Nat), l < T.z → ∀ v : Int, ∃ v', j_75_67 k5 FU b v (l : Int) 0 s = k5 b v' ((l + 1 : Nat) : Int) s := fun k5 l hl v => by
    obtain ⟨i, j, a1, a2, a3, a4, a5, a6, -⟩ := hX.2.2.2 l hl
    obtain ⟨u1, u2⟩ := c82 hT hc hl
    obtain ⟨w1, w2⟩ := c80 hc hT (a := l) (by omega)
    have go : ∀ (d e F : Nat) (v : Int), i + e + d = j → ∃ v', j_75_67 k5 (F + d + 1) b v (l : Int) (e : Int) s = k5 b v' ((l + 1 : Nat) : Int) s := by
      intro d
      induction d with
      | zero =>
        intro e F v he
        refine ⟨v, ?_⟩
        rw [j_75_67, gd_pos u2, u1, a2, if_pos (by omega)]
        unfold j_75_129
        rw [w32_nat (by omega)]
      | succ d ih =>
        intro e F v he
        obtain ⟨y1, y2⟩ := hX.1.at (i + e)
        rw [show F + (d + 1) + 1 = (F + d + 1) + 1 by omega, j_75_67, gd_pos u2, u1, a2, if_neg (by omega), gd_pos w2, w1, a1, w32_add (by omega), gd_pos y2, w32_nat (by omega)]
        exact ih (e + 1) F _ (by omega)
    obtain ⟨F, hF⟩ := FU_split (k := j - i + 1) (by omega)
    rw [show FU = F + (j - i) + 1 by omega]
    exact go (j - i) 0 F v (by omega)
  intro r
  induction r with
  | zero =>
    intro l F v hl h1
    exact ⟨v, by rw [j_75_5, hc.1, if_pos (by omega)]⟩
  | succ r ih =>
    intro l F v hl h1
    obtain ⟨u1, u2⟩ := c79 hc hT (a := l) (by omega)
    obtain ⟨w1, w2⟩ := c79 hc hT (a := l - 1) (by omega)
    obtain ⟨x1, x2⟩ := c81 hc hT (a := l) (by omega)
    have el : ax_w32 ((l : Int) - 1) = ((l - 1 : Nat) : Int) := by rw [w32_id (by omega) (by omega)]; omega
    rw [show F + (r + 1) + 1 = (F + r + 1) + 1 by omega, j_75_5, hc.1, if_neg (by omega), gd_pos u2, u1]
    by_cases c1 : T.tk l = 123
    · rw [if_pos c1]
      exact ⟨v, rfl⟩
    · rw [if_neg c1, gd_pos u2]
      by_cases c2 : T.tk l = 2
      · rw [if_pos c2, el, gd_pos w2, w1]
        by_cases c3 : T.tk (l - 1) = 58
        · rw [if_neg (fun u => u c3), gd_pos x2]
          unfold j_75_129
          rw [w32_nat (by omega)]
          exact ih (l + 1) F _ (by omega) (by omega)
        · rw [if_pos c3]
          obtain ⟨v', e⟩ := inn (j_75_5 (F + r + 1)) l (by omega) v
          rw [e]
          exact ih (l + 1) F _ (by omega) (by omega)
      · rw [if_neg c2]
        unfold j_75_129
        rw [w32_nat (by omega)]
        exact ih (l + 1) F _ (by omega) (by omega)
theorem m199t (h : CKX T sc s n t S P A N K C w) (g : GOOD T sc s S A N w) (b : Int) {i p0 pc : Nat} (hi : i < S) (e98 : s 98 i = (p0 : Int)) (e99 : s 99 i = (pc : Int)) (hP : p0 + pc ≤ P) : ∀ (r l F : Nat) (v : Int), l + r = p0 + pc → p0 ≤ l → ∃ q : Int, j_199_57 (F + r + 1) (i : Int) b v (l : Int) s = some (q, s) := by
  obtain ⟨hT, hX, hC, hD, hN, h19, h31, h34, h30, wz, tw, S8, P8, A8, N8⟩ := id h
  have h8 := hT.1
  have n8 := hX.1.2.1
  have inn : ∀ (k57 : Int → Int → Int → Int → Sg → Option (Int × Sg)) (l : Nat), p0 ≤ l → l < p0 + pc → ∀ v : Int, ∃ v', j_199_78 k57 FU (i : Int) b v (l : Int) 0 s = k57 (i : Int) b v' ((l + 1 : Nat) : Int) s := fun k57 l l1 l2 v => by
    have e219 := m219 h g hi (q := l) (by rw [e98, Int.toNat_natCast]; exact l1) (by rw [e98, e99, Int.toNat_natCast, Int.toNat_natCast]; exact l2) (AG.refl s)
    have gp := (g.2.1 i hi).2.2.2.2 l (by rw [e98, Int.toNat_natCast]; exact l1) (by rw [e98, e99, Int.toNat_natCast, Int.toNat_natCast]; exact l2)
    obtain ⟨x, g1, g2, g3, g4⟩ := hD.prt (p := l) (by omega)
    obtain ⟨i1, j1, e1, e2, e3, e4, e5, e6, -⟩ := hX.nu g2 g3
    obtain ⟨W, hW, hWb, hWe⟩ : ∃ W : Nat, f_219 (l : Int) s = some (W : Int) ∧ W ≤ 8192 ∧ (s 104 l < 0 → W = j1 - i1) := by
      by_cases c : s 104 l < 0
      · refine ⟨j1 - i1, ?_, by omega, fun _ => rfl⟩
        rw [e219, if_pos c, g1, Int.toNat_natCast, e2]
        congr 1
        omega
      · have gv := gp.1 (by omega)
        rw [g1, Int.toNat_natCast] at gv
        refine ⟨(T.vl x).toNat, ?_, by omega, fun u => absurd u c⟩
        rw [e219, if_neg c, g1, Int.toNat_natCast]
        congr 1
        unfold mn
        rw [if_neg (by omega)]
        omega
    have go : ∀ (d e F : Nat) (v : Int), e + d = W → ∃ v', j_199_78 k57 (F + d + 1) (i : Int) b v (l : Int) (e : Int) s = k57 (i : Int) b v' ((l + 1 : Nat) : Int) s := by
      intro d
      induction d with
      | zero =>
        intro e F v he
        refine ⟨v, ?_⟩
        rw [j_199_78, hW, Option.bind_some, if_pos (by omega)]
        unfold j_199_157
        rw [w32_nat (by omega)]
      | succ d ih =>
        intro e F v he
        rw [show F + (d + 1) + 1 = (F + d + 1) + 1 by omega, j_199_78, hW, Option.bind_some, if_neg (by omega), gd_pos (by omega), Int.toNat_natCast]
        by_cases c : 0 ≤ s 104 l
        · rw [if_pos c]
          unfold j_199_133 j_199_134
          rw [w32_nat (by omega)]
          exact ih (e + 1) F _ (by omega)
        · rw [if_neg c]
          have := hWe (by omega)
          by_cases c1 : b = 1
          · rw [if_pos c1]
            unfold j_199_129 j_199_134
            rw [w32_nat (by omega)]
            exact ih (e + 1) F _ (by omega)
          · rw [if_neg c1, gd_pos (by omega), g1, gd_pos (by omega), Int.toNat_natCast, e3, w32_add (by omega), gd_pos (by omega)]
            unfold j_199_134
            rw [w32_nat (by omega)]
            exact ih (e + 1) F _ (by omega)
    obtain ⟨F, hF⟩ := FU_split (k := W + 1) (by omega)
    rw [show FU = F + W + 1 by omega]
    exact go W 0 F v (by omega)
  intro r
  induction r with
  | zero =>
    intro l F v hl h1
    refine ⟨v, ?_⟩
    rw [j_199_57, gd_pos (by omega), gd_pos (by omega), Int.toNat_natCast, e98, e99, w32_add (by omega), if_pos (by omega)]
  | succ r ih =>
    intro l F v hl h1
    obtain ⟨v', e⟩ := inn (j_199_57 (F + r + 1)) l h1 (by omega) v
    rw [show F + (r + 1) + 1 = (F + r + 1) + 1 by omega, j_199_57, gd_pos (by omega), gd_pos (by omega), Int.toNat_natCast, e98, e99, w32_add (by omega), if_neg (by omega), e]
    exact ih (l + 1) F v' (by omega) (by omega)
theorem bits_ (g : GIV s) : RES s (f_285 a b s) (f_199 a b) GIV False := by
  obtain ⟨-, -, -, gk, -⟩ := id g
  rcases gk with ⟨k1, k2, k3, k4, k5⟩ | ⟨k1, k2, kn⟩
  · refine (RES.no (v := 1) g (by decide) ?_ ?_).wk (fun u => u.elim)
    · unfold f_285 f_7
      rw [show f_181 a s = 0 from by rw [f181 (S := 0) s k3, if_neg (by omega)], if_pos rfl]
      rfl
    · unfold f_199 f_217
      rw [u2_col _ _ _ (by decide), k2, if_pos rfl, if_pos rfl]
      rfl
  · obtain ⟨T, t, n, sc, S, P, A, N, K, C, ck, gd, q1, hS, hK, h54, -⟩ := kn.ck
    obtain ⟨hT, hX, hC, hD, hN, h19, h31, h34, h30, wz, tw, S8, P8, A8, N8⟩ := id ck
    by_cases c : (0 ≤ a ∧ a < (S : Int)) ∧ (0 ≤ b ∧ b ≤ 1)
    · obtain ⟨c1, c2⟩ := c
      obtain ⟨i, hi⟩ : ∃ i : Nat, a = (i : Int) := ⟨a.toNat, by omega⟩
      have iS : i < S := by omega
      have a181 : f_181 a s = 1 := by rw [f181 (S := S) s h54, if_pos c1]
      have m217 : ∀ s1 : Sg, QF s s1 → f_217 a (ax_u2 s1 84 0 0) = 1 := fun s1 q => by rw [f217 (S := S) _ (by rw [u2_col _ _ _ (by decide), q.2 5 (by decide)]; exact k2) (by rw [u2_col _ _ _ (by decide), q.2 19 (by decide)]; exact h19) (by omega), if_pos c1]
      have gc : (f_181 a s = 0 → True) ∧ (¬ (f_181 a s = 0) → ((0 ≤ a ∧ a < 1171) ∧ True)) := ⟨fun _ => trivial, fun _ => ⟨by omega, trivial⟩⟩
      obtain ⟨hd, p0, pc, n0, b1, b2, b3, b4, b5, b6, b7, b8, b9, b10, b11⟩ := hD.1 i iS
      have e182 : f_182 a s = s 94 i := by unfold f_182; rw [a181, if_neg (by decide), hi, Int.toNat_natCast, ← q1 55 (by decide), b5]
      have e187 : f_187 a s = (hd : Int) := by unfold f_187; rw [a181, if_neg (by decide), hi, Int.toNat_natCast, ← q1 56 (by decide), b1]
      by_cases d : s 94 i = 3
      · have hcs : CC T s := hC.row (by rw [q1 39 (by decide)]) (q1 41 (by decide)).symm (q1 42 (by decide)).symm (q1 44 (by decide)).symm (by rw [q1 31 (by decide)]) (q1 1 (by decide)).symm
        have hXs : TX T s s n t := hX.cg (fun c u => (q1 c (by omega)).symm) (fun _ _ => rfl) rfl
        obtain ⟨F, hF⟩ := FU_split (k := T.z - (hd + 1) + 1) (by have := hT.1; omega)
        obtain ⟨v, ev⟩ := c75t hT hcs hXs ((if ¬ b = 0 then 0 else 1) : Int) (T.z - (hd + 1)) (hd + 1) F 0 (by omega) (by omega)
        have e75 : f_75 ((hd + 1 : Nat) : Int) ((if ¬ b = 0 then 0 else 1) : Int) s = some v := by
          unfold f_75
          rw [show FU = F + (T.z - (hd + 1)) + 1 by omega]
          exact ev
        obtain ⟨s1, hs1⟩ : ∃ z : Sg, z = ax_u2 s 136 (0 : Int).toNat v := ⟨_, rfl⟩
        have qf : QF s s1 := by rw [hs1]; exact QF.a136 s v
        have qf2 : QF s (ax_u2 s1 84 0 0) := qf.trans (QF.a84 _ 0)
        have mv : MVr sc s sc (ax_u2 s1 84 0 0) := ⟨fun _ _ _ => rfl, Iff.rfl, fun c u _ w => qf2.1 c u (by omega), fun j _ _ _ u => qf2.2 j u.2.1⟩
        have ck2 : CKX T sc (ax_u2 s1 84 0 0) n t S P A N K C 1 := by rw [CKX_mv mv]; exact ck
        have gd2 : GOOD T sc (ax_u2 s1 84 0 0) S A N 1 := by rw [GOOD_mv mv]; exact gd
        obtain ⟨F2, hF2⟩ := FU_split (k := pc + 1) (by omega)
        obtain ⟨v2, ev2⟩ := m199t ck2 gd2 b iS (by rw [qf2.1 98 (by decide) (by decide)]; exact b6) (by rw [qf2.1 99 (by decide) (by decide)]; exact b7) b8 pc p0 F2 0 (by omega) (by omega)
        refine ⟨0, v2, s1, ax_u2 s1 84 0 0, ?_, ?_, qf2.gi g, fun u => u.elim, by rw [hs1]; exact u2_row _ _ _ (by decide)⟩
        · unfold f_285 f_7
          rw [a181, if_neg (by decide), if_neg (by omega), if_pos (by omega), gd_pos (p := g_182 a s) gc, e182, if_pos d, gd_pos (p := g_187 a s) gc, e187, w32_nat (by have := hT.1; omega), e75, hs1]
          rfl
        · unfold f_199
          rw [m217 s1 qf, if_neg (by decide), f207, if_pos c2, if_pos (by decide), gd_pos (by omega), hi, Int.toNat_natCast, qf.1 94 (by decide) (by decide), if_pos d, gd_pos (by omega), qf.1 98 (by decide) (by decide), b6, show FU = F2 + pc + 1 by omega]
          exact ev2
      · refine (RES.no (v := 2) g (by decide) ?_ ?_).wk (fun u => u.elim)
        · unfold f_285 f_7
          rw [a181, if_neg (by decide), if_neg (by omega), if_pos (by omega), gd_pos (p := g_182 a s) gc, e182, if_neg d]
          rfl
        · unfold f_199
          rw [m217 s (QF.refl s), if_neg (by decide), f207, if_pos c2, if_pos (by decide), gd_pos (by omega), hi, Int.toNat_natCast, if_neg d]
          rfl
    · refine (RES.no (v := 1) g (by decide) ?_ ?_).wk (fun u => u.elim)
      · unfold f_285 f_7
        rw [f181 (S := S) s h54]
        by_cases c1 : 0 ≤ a ∧ a < (S : Int)
        · rw [if_pos c1, if_neg (by decide)]
          by_cases d : b < 0
          · rw [if_pos d]; rfl
          · rw [if_neg d, if_neg (by omega)]; rfl
        · rw [if_neg c1, if_pos rfl]; rfl
      · unfold f_199
        rw [f217 (S := S) _ (by rw [u2_col _ _ _ (by decide)]; exact k2) (by rw [u2_col _ _ _ (by decide)]; exact h19) (by omega)]
        by_cases c1 : 0 ≤ a ∧ a < (S : Int)
        · rw [if_pos c1, if_neg (by decide), f207, if_neg (fun u => c ⟨c1, u⟩), if_neg (by decide)]; rfl
        · rw [if_neg c1, if_pos rfl]; rfl
end NOB
/-! THE LAW'S LOOP. -/
section LOP
variable {s : Sg} {L : Nat}
theorem count_ (g : GIV s) (a : Int) : GIV (f_205 a s).2 := by
  have q : ∀ v : Int, GIV (v, ax_u2 s 84 0 0).2 := fun v => (QF.a84 s 0).gi g
  unfold f_205
  split
  · split
    · split
      · split
        · split
          · split
            · exact q _
            · exact q _
          · exact q _
        · exact q _
      · exact q _
    · exact q _
  · exact q _
theorem lop (hL : L ≤ 2560) : ∀ (r l F : Nat) (s : Sg), L < l + 5 * r + 5 → GIV s → j_279_23 L (F + r + 1) (l : Int) s = some 1 := by
  have w5 : ax_w32 ((L : Int) - 5) = (L : Int) - 5 := w32_id (by omega) (by omega)
  intro r
  induction r with
  | zero =>
    intro l F s hl g
    rw [j_279_23, if_pos (by rw [w5]; omega)]
  | succ r ih =>
    intro l F s hl g
    rw [show F + (r + 1) + 1 = (F + r + 1) + 1 by omega, j_279_23]
    by_cases c : ax_w32 ((L : Int) - 5) < (l : Int)
    · rw [if_pos c]
    · rw [w5] at c
      have wk : ∀ k : Int, 0 ≤ k → k ≤ 5 → ax_w32 ((l : Int) + k) = (l : Int) + k := fun k a b => w32_id (by omega) (by omega)
      have nx : ∀ s2 : Sg, GIV s2 → j_279_497 L (j_279_23 L (F + r + 1)) (l : Int) s2 = some 1 := fun s2 g2 => by
        unfold j_279_497
        rw [wk 5 (by decide) (by decide)]
        have := ih (l + 5) F s2 (by omega) g2
        rw [show ((l + 5 : Nat) : Int) = (l : Int) + 5 by omega] at this
        exact this
      rw [w5, if_neg c, gd_pos (by omega)]
      simp only [wk 1 (by decide) (by decide), wk 2 (by decide) (by decide), wk 3 (by decide) (by decide), wk 4 (by decide) (by decide), gd_pos (show 0 ≤ (l : Int) + 1 ∧ (l : Int) + 1 < (L : Int) by omega), gd_pos (show 0 ≤ (l : Int) + 2 ∧ (l : Int) + 2 < (L : Int) by omega), gd_pos (show 0 ≤ (l : Int) + 3 ∧ (l : Int) + 3 < (L : Int) by omega), gd_pos (show 0 ≤ (l : Int) + 4 ∧ (l : Int) + 4 < (L : Int) by omega)]
      have dn : ∀ {E : Prop} {rc : Option (Int × Sg)} {rm : Sg → Option (Int × Sg)} (K : Int → Sg → Option Int), RES s rc rm GIV E → (∀ t0 s1, s1 0 = s 0 → K t0 s1 = (rm s1).bind fun q => j_279_497 L (j_279_23 L (F + r + 1)) (l : Int) q.2) → (rc.bind fun q => K q.1 q.2) = some 1 := fun {E} {rc} {rm} K h hK => by
        obtain ⟨t0, v, s1, s2, h1, h2, h3, -, h5⟩ := h
        rw [h1, Option.bind_some, hK t0 s1 h5, h2, Option.bind_some]
        exact nx s2 h3
      have g1 : ∀ o : Option Int, gd (0 ≤ (l : Int) + 1 ∧ (l : Int) + 1 < (L : Int)) o = o := fun o => gd_pos (by omega)
      have w1 := wk 1 (by decide) (by decide)
      have w2 := wk 2 (by decide) (by decide)
      have w3 := wk 3 (by decide) (by decide)
      have w4 := wk 4 (by decide) (by decide)
      have g2 : ∀ o : Option Int, gd (0 ≤ (l : Int) + 2 ∧ (l : Int) + 2 < (L : Int)) o = o := fun o => gd_pos (by omega)
      have g3 : ∀ o : Option Int, gd (0 ≤ (l : Int) + 3 ∧ (l : Int) + 3 < (L : Int)) o = o := fun o => gd_pos (by omega)
      have g4 : ∀ o : Option Int, gd (0 ≤ (l : Int) + 4 ∧ (l : Int) + 4 < (L : Int)) o = o := fun o => gd_pos (by omega)
      by_cases c0 : ax_iand (s 0 (l : Int).toNat) 15 = 0
      · rw [if_pos c0]
        refine dn (fun t0 s1 => j_279_129 L (j_279_23 L (F + r + 1)) (l : Int) t0 s1) (feed g) (fun t0 s1 h5 => ?_)
        unfold j_279_129
        rw [w1, w2, w3, w4, g1, g2, g3, g4, h5]
      rw [if_neg c0]
      by_cases c1 : ax_iand (s 0 (l : Int).toNat) 15 = 1
      · rw [if_pos c1]
        refine dn (fun t0 s1 => j_279_175 L (j_279_23 L (F + r + 1)) (l : Int) t0 s1) (end_ g) (fun t0 s1 h5 => ?_)
        unfold j_279_175
        rw [w1, g1, h5]
      rw [if_neg c1]
      by_cases c2 : ax_iand (s 0 (l : Int).toNat) 15 = 2
      · rw [if_pos c2]
        exact dn (fun t0 s1 => j_279_197 L (j_279_23 L (F + r + 1)) (l : Int) t0 s1) (read_ g) (fun t0 s1 h5 => rfl)
      rw [if_neg c2]
      by_cases c3 : ax_iand (s 0 (l : Int).toNat) 15 = 3
      · rw [if_pos c3]
        refine dn (fun t0 s1 => j_279_219 L (j_279_23 L (F + r + 1)) (l : Int) t0 s1) (fault_ g) (fun t0 s1 h5 => ?_)
        unfold j_279_219
        rw [w1, g1, h5]
      rw [if_neg c3]
      by_cases c4 : ax_iand (s 0 (l : Int).toNat) 15 = 4
      · rw [if_pos c4]
        refine dn (fun t0 s1 => j_279_253 L (j_279_23 L (F + r + 1)) (l : Int) t0 s1) (statement_ g) (fun t0 s1 h5 => ?_)
        unfold j_279_253
        rw [w1, w2, g1, g2, h5]
      rw [if_neg c4]
      by_cases c5 : ax_iand (s 0 (l : Int).toNat) 15 = 5
      · rw [if_pos c5]
        refine dn (fun t0 s1 => j_279_293 L (j_279_23 L (F + r + 1)) (l : Int) t0 s1) (bits_ g) (fun t0 s1 h5 => ?_)
        unfold j_279_293
        rw [w1, w2, g1, g2, h5]
      rw [if_neg c5]
      by_cases c6 : ax_iand (s 0 (l : Int).toNat) 15 = 6
      · rw [if_pos c6]
        refine dn (fun t0 s1 => j_279_333 L (j_279_23 L (F + r + 1)) (l : Int) t0 s1) (node_ g) (fun t0 s1 h5 => ?_)
        unfold j_279_333
        rw [w1, w2, g1, g2, h5]
      rw [if_neg c6]
      by_cases c7 : ax_iand (s 0 (l : Int).toNat) 15 = 7
      · rw [if_pos c7]
        obtain ⟨t0, v, s1, s2, h1, h2, h3, h4, h5⟩ := ring_ g (a := s 0 ((l : Int) + 1).toNat)
        rw [h1, Option.bind_some]
        unfold j_279_367
        obtain ⟨k1, k2⟩ := h4 trivial
        dsimp only
        rw [w1, g1, h5, h2, Option.bind_some]
        show (if s2 84 0 = t0 then _ else _) = _
        rw [if_pos k1]
        by_cases t : t0 = 0
        · rw [if_neg (fun u => u t), if_pos (by rw [cmp_eq]; exact k2 t)]
          exact nx s2 h3
        · rw [if_pos t]
          exact nx s2 h3
      rw [if_neg c7]
      by_cases c8 : ax_iand (s 0 (l : Int).toNat) 15 = 8
      · rw [if_pos c8]
        exact dn (fun t0 s1 => j_279_417 L (j_279_23 L (F + r + 1)) (l : Int) t0 s1) (print_ g) (fun t0 s1 h5 => rfl)
      rw [if_neg c8]
      by_cases c9 : ax_iand (s 0 (l : Int).toNat) 15 = 9
      · rw [if_pos c9]
        refine dn (fun t0 s1 => j_279_439 L (j_279_23 L (F + r + 1)) (l : Int) t0 s1) (out_ g) (fun t0 s1 h5 => ?_)
        unfold j_279_439
        rw [w1, g1, h5]
      rw [if_neg c9]
      by_cases c10 : ax_iand (s 0 (l : Int).toNat) 15 = 10
      · rw [if_pos c10]
        exact dn (fun t0 s1 => j_279_461 L (j_279_23 L (F + r + 1)) (l : Int) t0 s1) (again_ g) (fun t0 s1 h5 => rfl)
      rw [if_neg c10]
      by_cases c11 : ax_iand (s 0 (l : Int).toNat) 15 = 11
      · rw [if_pos c11, Option.bind_some]
        exact nx _ (count_ g _)
      rw [if_neg c11]
      exact nx s g
end LOP
