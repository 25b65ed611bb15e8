/-! READING as a whole. -/
section RDS
variable {T : TT} {sc sm s s' x s1 sc0 : Sg} {n m : Nat} {t : Nat → Int}
theorem c4_30n (h : ∀ j : Nat, 1 ≤ j → j ≤ 10 → x 30 j = -1) : j_4_30 x = some (.inl (x 54 6, ax_u2 (ax_u2 x 27 1 0) 27 2 1)) := by
  have e : f_68 (ax_u2 x 27 1 0) = some 0 := c68n (fun j a b => by rw [u2_row _ _ _ (by decide)]; exact h j a b)
  have v : ((if ¬ (0 : Int) = 0 then 0 else 1) : Int) = 1 := if_neg (fun u => u rfl)
  unfold j_4_30
  rw [e, Option.bind_some, v, gd_pos (Or.inr rfl), if_pos (by decide)]
theorem c4_30f {j : Nat} (h1 : 1 ≤ j) (h2 : j ≤ 10) (h3 : x 30 j ≠ -1) : j_4_30 x = some (.inr (15, f_180 (f_113 (f_74 (ax_u2 (ax_u2 x 27 1 0) 27 2 0))))) := by
  obtain ⟨r, e, z⟩ := c68f (s := ax_u2 x 27 1 0) h1 h2 (by rw [u2_row _ _ _ (by decide)]; exact h3)
  have v : ((if ¬ r = 0 then 0 else 1) : Int) = 0 := if_pos z
  unfold j_4_30
  rw [e, Option.bind_some, v, gd_pos (Or.inl rfl), if_neg (fun u => u rfl), Option.bind_some, Option.bind_some, Option.bind_some]
theorem NMI.mk (hK : KO s1) (h8 : s1 31 8 = 0) (cw : CWc s1 sc0 m) (r1 : ∀ c, c < 30 ∨ c = 32 ∨ c = 33 ∨ c = 34 ∨ c = 35 → x c = sc0 c) (r2 : ∀ j, j ≠ 8 → x 31 j = sc0 31 j) (w8 : W8 sc0 x) : NMI x := by
  obtain ⟨w1, w2, w3, w4, w5, w6, w7, -, -, w10, -⟩ := cw
  have rk : ∀ c, c < 30 → x c = s1 c := fun c a => by rw [r1 c (Or.inl a), w10 c (Or.inl a)]
  have b := w8 (by rw [w7, h8]; decide)
  refine ⟨hK.row (rk 1 (by decide)) (rk 2 (by decide)) (rk 3 (by decide)) (rk 4 (by decide)) (rk 5 (by decide)), by rw [r2 9 (by decide)]; exact w5, by rw [r2 10 (by decide)]; exact w6, ⟨(x 31 8).toNat, by omega, by omega⟩, Or.inr ⟨m, w1.congr (r2 7 (by decide)) (r1 32 (by decide)) (r1 33 (by decide)) (r1 34 (by decide)) (r1 35 (by decide)), w2, w3, ?_⟩⟩
  unfold WD
  rw [r1 34 (by decide), r1 35 (by decide)]
  exact w4
/-- what reading leaves alone -/
def RFc (s x : Sg) : Prop := (∀ a, a < 30 ∨ 81 < a → x a = s a) ∧ RB x
def RFm (s y : Sg) : Prop := (∀ a, a < 84 ∨ a = 85 ∨ a = 87 ∨ 135 < a → y a = s a) ∧ y 84 0 = 0 ∧ y 84 1 = 0 ∧ y 84 5 = 0 ∧ (∀ j, j = 2 ∨ j = 4 ∨ j = 9 ∨ 72 < j → y 84 j = s 84 j) ∧ RM y
/-- reading: the same number of statements, or a fault on both sides -/
theorem read_sim (hN : NMI sc) (h27 : sc 27 1 = (n : Int)) (hn : n ≤ 8192) (h84 : sm 84 1 = (n : Int)) (ht : ∀ i, i < n → sc 28 i % 256 = sm 85 i ∧ 0 ≤ sm 85 i ∧ sm 85 i < 256) :
    (∃ (T : TT) (t : Nat → Int) (sc0 sm0 sc1 sm1 x y : Sg) (S P A N K C : Nat), f_4 sc = some (.inl ((S : Int), ax_u2 (ax_u2 x 27 1 0) 27 2 1)) ∧ f_196 sm = some ((S : Int), ax_u2 y 84 5 1) ∧ TWF T ∧ POS T ∧ TX T sc0 sm0 n t ∧ PS0 T sc0 sm0 sc1 sm1 T.z S P A N K C 1 ∧ CHO sc1 sm1 x y N ∧ y 84 6 = 0 ∧ NMI x ∧ RFc sc x ∧ RFm sm y ∧ XO T sc0 ∧ t = sm 85) ∨
    (∃ x y : Sg, f_4 sc = some (.inr (15, f_180 (f_113 (f_74 (ax_u2 (ax_u2 x 27 1 0) 27 2 0))))) ∧ f_196 sm = some (0, ax_u2 y 84 0 1) ∧ 0 < y 84 6 ∧ NMI x ∧ RFc sc x ∧ RFm sm y) := by
  obtain ⟨s1, e14, n1, n2, n3, n4, n5, n6, n7, n8, n9, n10, n11, n12, n13, n14, n15⟩ := c14 hN
  obtain ⟨m2, f1, f2, f3, f4, f5, f6, f7, f8, f9, f10⟩ := m196b h84 hn
  have r30 : ∀ c, c < 30 → s1 c = sc c := fun c x => n14 c (Or.inl x) (by omega) (by omega) (by omega) (by omega) (by omega) (by omega) (by omega)
  have r82 : ∀ c, 81 < c → s1 c = sc c := fun c x => n14 c (Or.inr (by omega)) (by omega) (by omega) (by omega) (by omega) (by omega) (by omega) (by omega)
  have hK : KO s1 := hN.1.row (r30 1 (by decide)) (r30 2 (by decide)) (r30 3 (by decide)) (r30 4 (by decide)) (r30 5 (by decide))
  obtain ⟨m1, hm1⟩ : ∃ z : Sg, z = ax_u2 (ax_u2 (ax_u2 (ax_u2 (ax_u2 (ax_u2 m2 84 1 0) 84 19 0) 84 31 0) 84 34 0) 84 47 0) 84 57 0 := ⟨_, rfl⟩
  have mr : ∀ c, c ≠ 84 → m1 c = m2 c := fun c a => by rw [hm1, u2_row _ _ _ a, u2_row _ _ _ a, u2_row _ _ _ a, u2_row _ _ _ a, u2_row _ _ _ a, u2_row _ _ _ a]
  have mj : ∀ j, j ≠ 1 → j ≠ 19 → j ≠ 31 → j ≠ 34 → j ≠ 47 → j ≠ 57 → m1 84 j = m2 84 j := fun j a b c d e f => by rw [hm1, u2_col _ _ _ f, u2_col _ _ _ e, u2_col _ _ _ d, u2_col _ _ _ c, u2_col _ _ _ b, u2_col _ _ _ a]
  have z1 : m1 84 1 = 0 := by rw [hm1]; simp [ax_u2]
  have z19 : m1 84 19 = 0 := by rw [hm1]; simp [ax_u2]
  have z31 : m1 84 31 = 0 := by rw [hm1]; simp [ax_u2]
  have z34 : m1 84 34 = 0 := by rw [hm1]; simp [ax_u2]
  have z47 : m1 84 47 = 0 := by rw [hm1]; simp [ax_u2]
  have z57 : m1 84 57 = 0 := by rw [hm1]; simp [ax_u2]
  have q : ∀ j, j < 19 → j ≠ 1 → m1 84 j = m2 84 j := fun j a b => mj j b (by omega) (by omega) (by omega) (by omega) (by omega)
  have hM : MT m1 n (sm 85) := ⟨by rw [q 3 (by decide) (by decide)]; exact f4, hn, fun i hi => ⟨by rw [mr 86 (by decide)]; exact f3 i hi, (ht i hi).2⟩⟩
  have s27 : s1 27 1 = (n : Int) := by rw [r30 27 (by decide)]; exact h27
  -- what is left alone
  have rfm : ∀ sm0 y : Sg, CWm m1 sm0 → (∀ a, a < 84 ∨ a = 85 ∨ a = 87 ∨ 135 < a → y a = sm0 a) → (∀ j, j < 6 ∨ j = 9 ∨ 72 < j → y 84 j = sm0 84 j) → (RM sm0 → RM y) → RFm sm y := fun sm0 y cw a1 a2 a3 => by
    have w : ∀ j, j < 6 ∨ j = 9 ∨ 72 < j → y 84 j = m1 84 j := fun j u => by rw [a2 j u, cw.2 j (by omega) (by omega) (by omega)]
    refine ⟨fun a u => by rw [a1 a u, cw.1 a (by omega), mr a (by omega), f2 a (by omega) (by omega)], by rw [w 0 (by decide), q 0 (by decide) (by decide)]; exact f5, by rw [w 1 (by decide)]; exact z1, by rw [w 5 (by decide), q 5 (by decide) (by decide)]; exact f6, fun j u => ?_, a3 (by unfold RM; rw [cw.2 72 (by decide) (by decide) (by decide), mj 72 (by decide) (by decide) (by decide) (by decide) (by decide) (by decide), f9]; decide)⟩
    rw [w j (by omega), mj j (by omega) (by omega) (by omega) (by omega) (by omega) (by omega), f10 j (by omega) (by omega) (by omega) (by omega) (by omega) (by omega) (by omega)]
  have rfc : ∀ (sc0 x : Sg) (m : Nat), CWc s1 sc0 m → (∀ a, a < 30 ∨ 81 < a → x a = sc0 a) → (RB sc0 → RB x) → RFc sc x := fun sc0 x m cw a1 a3 => by
    refine ⟨fun a u => ?_, a3 (by unfold RB; rw [cw.2.2.2.2.2.2.2.2.2.1 74 (by decide), n15]; decide)⟩
    rw [a1 a u, cw.2.2.2.2.2.2.2.2.2.1 a (by omega)]
    rcases u with u | u
    · exact r30 a u
    · exact r82 a u
  -- a fault
  have flt : ∀ (sc0 sm0 x y : Sg) (m j : Nat), 1 ≤ j → j ≤ 10 → x 30 j ≠ -1 → f_4 sc = j_4_30 x → f_196 sm = j_196_188 y → 0 < y 84 6 → NMI x → RFc sc x → RFm sm y → (∃ x y : Sg, f_4 sc = some (.inr (15, f_180 (f_113 (f_74 (ax_u2 (ax_u2 x 27 1 0) 27 2 0))))) ∧ f_196 sm = some (0, ax_u2 y 84 0 1) ∧ 0 < y 84 6 ∧ NMI x ∧ RFc sc x ∧ RFm sm y) := fun sc0 sm0 x y m j j1 j2 j3 a1 a2 a3 a4 a5 a6 => by
    refine ⟨x, y, by rw [a1, c4_30f j1 j2 j3], ?_, a3, a4, a5, a6⟩
    rw [a2]
    unfold j_196_188
    rw [if_neg (by omega), Option.bind_some]
    rfl
  rcases cut_sim n1 n2 hK n4 n5 s27 hn (fun i hi => by rw [r30 28 (by decide)]; exact (ht i hi).1) hM (by rw [q 6 (by decide) (by decide)]; exact f7) with ⟨T, sc0, sm0, a1, a2, a3, a4, a5, a6, a7, a8, a9, a10, a11, a12, a13, a14, a15⟩ | ⟨sc0, sm0, m, a1, a2, a3, a4, a5, a6, a7⟩
  · have hi := in0 a9 a5 a6 a7 a8 a10 a11 a12 a13 a14 a3 n6 n3 n8 n9 n10 n11 n12 z19 z31 z34 z47 z57
    have c0 : f_4 sc = (f_15 sc0).bind fun q3 => j_4_26 q3 := by
      unfold f_4
      rw [e14, Option.bind_some, a1, Option.bind_some]
      rfl
    have d0 : f_196 sm = (f_209 sm0).bind fun q10 => j_196_111 q10 := by
      rw [f1]
      unfold j_196_66
      rw [← hm1, a2, Option.bind_some, if_neg (fun u => u a11)]
    have g8 : sm0 84 8 = -1 := by rw [a14.2 8 (by decide) (by decide) (by decide), q 8 (by decide) (by decide)]; exact f8
    have g30 : ∀ j : Nat, 1 ≤ j → j ≤ 10 → sc0 30 j = -1 := fun j _ v => by rw [a13]; exact n6 j (by omega)
    rcases all_sim a3 a4 hi with ⟨sc1, sm1, S, P, A, N, K, C, b1, b2, b3, ps⟩ | ⟨sc1, mF, b1, b2, b3, b4, b5, b6⟩
    · obtain ⟨x, y, k1, k2, cho⟩ := chk_in a3 a4 ps a9 g30 g8
      have c1 : f_4 sc = j_4_30 x := by
        rw [c0, b1, Option.bind_some]
        unfold j_4_26
        rw [k1, Option.bind_some]
      have d1 : f_196 sm = j_196_188 y := by rw [d0, b2, Option.bind_some, k2]
      obtain ⟨hB, h70, h19, -⟩ := id ps
      obtain ⟨e1, e2, e3, e4, e5, e6, e7, e8, e9, e10, e11, e12, e13, e14', e15, e16, -⟩ := hB
      obtain ⟨o1, o2, o3, o4, o5, o6, o7, o8, o9, o10⟩ := id cho
      have nmi : NMI x := NMI.mk hK n3 a12 (fun c u => by rw [o1 c (by omega) (by omega) (by omega), e15.1 c (by omega)]) (fun j u => by rw [o1 31 (by decide) (by decide) (by decide), e15.2.2.2.1 j u]) (fun u => by rw [o1 31 (by decide) (by decide) (by decide)]; exact e15.2.2.2.2 u)
      have fc : RFc sc x := rfc sc0 x T.m a12 (fun a u => by rw [o1 a (by omega) (by omega) (by omega), e15.1 a (by omega)]) (fun u => o10.1 (by unfold RB at *; rw [e15.1 74 (by decide)]; exact u))
      have fm : RFm sm y := rfm sm0 y a14 (fun a u => by rw [o3 a (by omega) (by omega) (by omega), e16.1 a (by omega)]) (fun j u => by rw [o4 j (by omega) (by omega) (by omega) (by omega), e16.2 j (by omega)]) (fun u => o10.2.1 (by unfold RM at *; rw [e16.2 72 (by decide)]; exact u))
      by_cases z : y 84 6 = 0
      · left
        refine ⟨T, sm 85, sc0, sm0, sc1, sm1, x, y, S, P, A, N, K, C, ?_, ?_, a3, a4, a9, ps, cho, z, nmi, fc, fm, a15, rfl⟩
        · rw [c1, c4_30n (o8.mpr z), o1 54 (by decide) (by decide) (by decide), e10]
        · rw [d1]
          unfold j_196_188
          rw [if_pos (by omega), o4 19 (by decide) (by decide) (by decide) (by decide), h19]
      · right
        obtain ⟨j, j1, j2, j3⟩ : ∃ j : Nat, 1 ≤ j ∧ j ≤ 10 ∧ x 30 j ≠ -1 := by
          apply Classical.byContradiction
          intro hn
          exact z (o8.mp (fun j u v => Decidable.byContradiction (fun w => hn ⟨j, u, v, w⟩)))
        exact flt sc0 sm0 x y T.m j j1 j2 j3 c1 d1 (by omega) nmi fc fm
    · right
      obtain ⟨j, j1, j2, j3⟩ : ∃ j : Nat, 1 ≤ j ∧ j ≤ 3 ∧ sc1 30 j ≠ -1 := by
        rcases b4 with u | u
        · exact ⟨2, by decide, by decide, u⟩
        · exact ⟨3, by decide, by decide, u⟩
      refine flt sc0 sm0 sc1 mF T.m j j1 (by omega) j3 ?_ ?_ b6 (NMI.mk hK n3 a12 (fun c u => b3.1 c (by omega)) (fun j u => b3.2.2.2.1 j u) b3.2.2.2.2) (rfc sc0 sc1 T.m a12 (fun a u => b3.1 a (by omega)) (fun u => by unfold RB at *; rw [b3.1 74 (by decide)]; exact u)) (rfm sm0 mF a14 (fun a u => b5.1 a (by omega)) (fun j u => b5.2 j (by omega)) (fun u => by unfold RM at *; rw [b5.2 72 (by decide)]; exact u))
      · rw [c0, b1, Option.bind_some]
        unfold j_4_26
        rw [c16_0 j1 j2 j3, Option.bind_some]
      · rw [d0, b2, Option.bind_some, (m196f (by omega)).2.2.2.2.2.2]
  · right
    refine flt sc0 sm0 sc0 sm0 m 1 (by decide) (by decide) a3 ?_ ?_ (by omega) (NMI.mk hK n3 a6 (fun _ _ => rfl) (fun _ _ => rfl) (fun u => u)) (rfc sc0 sc0 m a6 (fun _ _ => rfl) id) (rfm sm0 sm0 a7 (fun _ _ => rfl) (fun _ _ => rfl) id)
    · unfold f_4
      rw [e14, Option.bind_some, a1, Option.bind_some]
      rfl
    · rw [f1]
      unfold j_196_66
      rw [← hm1, a2, Option.bind_some, if_pos (by omega), (m196f (by omega)).2.2.2.2.2.2]
end RDS
