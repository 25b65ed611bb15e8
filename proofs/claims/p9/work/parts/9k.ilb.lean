/-! AN INSTRUCTION's parts on both sides: bits. -/
section ILB
variable {T : TT} {sc1 m1 sc m : Sg} {h S P j B a : Nat}
theorem ILS.bit (hT : TWF T) (hx : CX T sc1) (hc : CC T sc1) (hM : MC T m1) (hf : m1 84 6 = 0) (h54 : sc1 54 6 = ((S + 1 : Nat) : Int)) (hS : S < 1171) (hP8 : P + j < 8200) (hj : j ≤ 8192) (m98 : m1 98 S = (P : Int)) (fr : ∀ k, h < k → k < T.z → FRS T sc1 m1 k) (H : ILS T sc1 m1 sc m h S P j B a) (hu : CU T sc a) (hm : m 84 18 = (a : Int)) (t : T.tk a = 2) :
    ∃ sc' m' : Sg, (∀ Fc l : Nat, l ≤ 8192 → j_153_7 (Fc + 1) (l : Int) sc = j_153_7 Fc ((l + 1 : Nat) : Int) sc') ∧ CU T sc' (a + 1) ∧ (∀ F, j_233_221 (F + 1) (S : Int) m = j_233_221 F (S : Int) m') ∧ m' 84 18 = ((a + 1 : Nat) : Int) ∧ ILS T sc1 m1 sc' m' h S P (j + 1) B (a + 1) := by
  obtain ⟨r1, r2, r3, r4, r5, r6, r7, r8, k1, k2, k3, k4, k5, k6, g1, g2, ⟨f, f0, fj, ff⟩, g4, g5, g6⟩ := H
  have hz := hT.lt hu.2.2 (by rw [t]; decide)
  have sf : SFc sc1 sc := ⟨fun c x => r1 c (by omega), r2, r3, r4, W8.of r6 (by have := hu.2.2; have := hT.1; omega)⟩
  have sfm : SFm m1 m := ⟨fun c x => k1 c (by omega), fun k x => k2 k (by omega) (by omega)⟩
  have s54 : sc 54 6 = ((S + 1 : Nat) : Int) := by rw [r1 54 (by decide)]; exact h54
  obtain ⟨s', z1, z2, z3, z4, z5, z6, z7, z8, z9, z10⟩ := c158 hT (sf.cc hc) (sf.cx hx) hu t s54 hS
  obtain ⟨⟨e1, e2⟩, _, _⟩ := c181 (s := s') (S := S) (by rw [z7 54 (by decide)]; exact s54) hS 1
  rw [z7 58 (by decide), r7, w32_nat (by omega)] at e2
  obtain ⟨sc', hsc'⟩ : ∃ sc' : Sg, sc' = ax_u2 s' 58 S ((j + 1 : Nat) : Int) := ⟨_, rfl⟩
  have q1 : ∀ c, c ≠ 58 → sc' c = s' c := fun c x => by rw [hsc']; exact u2_row _ _ _ x
  obtain ⟨⟨d1, d2, d3, d4, d5, d6, d7, d8, d9⟩, d10, d11⟩ := mpfB (m := m) (S := S) (P := P + j) (a := a)
  refine ⟨sc', PBm m S (P + j) a, ?_, ?_, ?_, d3, ?_⟩
  · intro Fc l hl
    rw [j_153_7, if_neg (by omega), if_neg (by rw [hu.2.1]; simp [t]), z1, Option.bind_some]
    unfold j_153_47
    rw [gd_pos e1, e2, Option.bind_some, ← hsc', w32_nat (by omega)]
  · unfold CU at *
    rw [q1 39 (by decide)]
    exact z2
  · intro F
    exact mprB hT (sfm.mc hM) (by rw [k2 6 (by decide) (by decide)]; exact hf) hm hu.2.2 t (by omega) k5 hP8
  · have x98 : m 98 S = (P : Int) := by rw [k1 98 (by decide)]; exact m98
    have bin : BIN sc a ↔ BIN sc1 a := BIN.congr (fun c x => r1 c (by omega))
    refine ⟨?_, ?_, ?_, ?_, ?_, ?_, ?_, ?_, ?_, ?_, ?_, ?_, ?_, ?_, ?_, ?_, ?_, ?_, ?_, by omega⟩
    · intro c x; rw [q1 c (by omega), z7 c (by omega), r1 c (by omega)]
    · intro k x y; rw [q1 39 (by decide), z8 k x y, r2 k x y]
    · intro k x; rw [q1 30 (by decide), z9 k x, r3 k x]
    · intro k x; rw [q1 31 (by decide), z7 31 (by decide), r4 k x]
    · intro c i x y z
      by_cases e : c = 57
      · subst e; rw [q1 57 (by decide), z6 i z, r5 57 i x y z]
      · rw [show c = 58 by omega, hsc', u2_col _ _ _ z, z7 58 (by decide), r5 58 i (by decide) (by decide) z]
    · rw [q1 31 (by decide), z7 31 (by decide)]; exact r6
    · rw [hsc']; exact u2_same _ _ _ _
    · rw [q1 57 (by decide), z5, bsm_succ (m := m) d9, d7, d8, if_pos (by decide), Int.toNat_natCast, r8, r1 43 (by decide)]
    · intro c x; rw [d1 c x, k1 c x]
    · intro k x y; rw [d2 k x y, k2 k x y]
    · intro i x; rw [d6 i x, k3 i x]
    · intro c p x y z
      by_cases e : c = 104
      · subst e; rw [(d9 p (by omega)).1]; exact k4 104 p x y z
      · rw [show c = 105 by omega, (d9 p (by omega)).2]; exact k4 105 p (by decide) (by decide) z
    · rw [d4]; rfl
    · rw [d5, k6, w32_nat (by omega)]
    · intro k x
      rw [q1 45 (by decide), z4 k (by omega), d11 k (by omega)]
      exact g1 k (by omega)
    · intro k x y
      by_cases e : k = a
      · subst e
        obtain ⟨a1, a2, a3, a4⟩ := fr k x hz
        unfold LF
        rw [q1 45 (by decide), z3, d1 91 (by decide), d1 92 (by decide), d10, k1 91 (by decide), k1 92 (by decide), a2, a3, t]
        exact ⟨rfl, rfl, rfl, fun y => absurd y (by decide), fun y => absurd y (by decide)⟩
      · exact (g2 k x (by omega)).congr (by rw [q1 45 (by decide)]; exact z4 k e) (by rw [d1 91 (by decide)]) (by rw [d1 92 (by decide)]) (d11 k e)
    · refine ⟨fun i => if i = j + 1 then a + 1 else f i, (if_neg (by omega)).trans f0, if_pos rfl, fun i hi => ?_⟩
      show (T.tk (if i = j + 1 then a + 1 else f i) = 2 ∧ _ ∧ _ = ((if i = j + 1 then a + 1 else f i : Nat) : Int) ∧ (if i + 1 = j + 1 then a + 1 else f (i + 1)) = (if i = j + 1 then a + 1 else f i) + 1) ∨ (T.tk (if i = j + 1 then a + 1 else f i) = 1 ∧ T.tk ((if i = j + 1 then a + 1 else f i) + 1) = 58 ∧ T.tk ((if i = j + 1 then a + 1 else f i) + 2) = 2 ∧ _ = ((if i = j + 1 then a + 1 else f i : Nat) : Int) ∧ _ = (((if i = j + 1 then a + 1 else f i) + 2 : Nat) : Int) ∧ (if i + 1 = j + 1 then a + 1 else f (i + 1)) = (if i = j + 1 then a + 1 else f i) + 3)
      rw [if_neg (show ¬ i = j + 1 by omega)]
      by_cases e : i = j
      · subst e
        rw [fj, if_pos rfl]
        exact Or.inl ⟨t, d7, d8, rfl⟩
      · rw [if_neg (show ¬ i + 1 = j + 1 by omega), (d9 (P + i) (by omega)).1, (d9 (P + i) (by omega)).2]
        exact ff i (by omega)
    · have e : CN sc' ↔ CN s' := by unfold CN; rw [q1 30 (by decide)]
      rw [e, z10, g4, gpt_succ (m := m) d9, d7, d8, Int.toNat_natCast, bin]
      exact ⟨fun ⟨⟨u1, u2⟩, u3⟩ => ⟨u1, u2, fun y => absurd y (by decide), fun _ => u3, fun q _ _ y => absurd y (by decide)⟩, fun ⟨u1, u2, _, u3, _⟩ => ⟨⟨u1, u2⟩, u3 (by decide)⟩⟩
    · intro y
      have y1 : CN sc := by
        unfold CN at *
        rw [q1 30 (by decide)] at y
        exact (z10.mp y).1
      obtain ⟨b1, b2, b3, b4, b5, b6, b7, b8⟩ := g5 y1
      rw [x98, k6, Int.toNat_natCast, Int.toNat_natCast] at b6 b7
      have c37 : sc' 37 = sc 37 := by rw [q1 37 (by decide), z7 37 (by decide)]
      have c38 : sc' 38 = sc 38 := by rw [q1 38 (by decide), z7 38 (by decide)]
      unfold BND
      rw [q1 31 (by decide), z7 31 (by decide), c37, c38, d1 98 (by decide), x98, d5, k6, w32_nat (by omega), Int.toNat_natCast, Int.toNat_natCast, Nat.sub_self]
      refine ⟨b1, b2, b3, b4, b5, fun i hi => ?_, fun p p1 p2 p3 => ?_, rfl⟩
      · obtain ⟨p, u1, u2, u3, u4, u5⟩ := b6 i hi
        have hp := d9 p (by omega)
        exact ⟨p, u1, by omega, by rw [hp.1]; exact u3, by rw [hp.1]; exact u4, by rw [hp.2]; exact u5⟩
      · by_cases e : p = P + j
        · rw [e, d7] at p3; exact absurd p3 (by decide)
        · have hp := d9 p e
          rw [hp.1] at p3 ⊢
          exact b7 p p1 (by omega) p3
end ILB
/-! AN INSTRUCTION's parts on both sides: named ones. -/
section ILN
variable {T : TT} {sc1 m1 sc m : Sg} {h S P j B a : Nat}
theorem ILS.nam (hT : TWF T) (hc : CC T sc1) (hM : MC T m1) (hf : m1 84 6 = 0) (h54 : sc1 54 6 = ((S + 1 : Nat) : Int)) (hS : S < 1171) (hP8 : P + j < 8200) (hj : j ≤ 8192) (hB8 : B < 4112) (m98 : m1 98 S = (P : Int)) (fr : ∀ k, h < k → k < T.z → FRS T sc1 m1 k) (H : ILS T sc1 m1 sc m h S P j B a) (hu : CU T sc a) (hm : m 84 18 = (a : Int)) (t0 : T.tk a = 1) (t1 : T.tk (a + 1) = 58) (t2 : T.tk (a + 2) = 2) :
    ∃ sc' m' : Sg, (∀ Fc l : Nat, l ≤ 8192 → j_153_7 (Fc + 1) (l : Int) sc = j_153_7 Fc ((l + 1 : Nat) : Int) sc') ∧ CU T sc' (a + 3) ∧ (∀ F, j_233_221 (F + 1) (S : Int) m = j_233_221 F (S : Int) m') ∧ m' 84 18 = ((a + 3 : Nat) : Int) ∧ ILS T sc1 m1 sc' m' h S P (j + 1) (B + 1) (a + 3) := by
  obtain ⟨r1, r2, r3, r4, r5, r6, r7, r8, k1, k2, k3, k4, k5, k6, g1, g2, ⟨f, f0, fj, ff⟩, g4, g5, g6⟩ := H
  have hz := hT.lt hu.2.2 (by rw [t0]; decide)
  have hz1 := hT.lt (show a + 1 ≤ T.z by omega) (by rw [t1]; decide)
  have hz2 := hT.lt (show a + 2 ≤ T.z by omega) (by rw [t2]; decide)
  have hv := hT.2.2.2.2.1 a hz
  have hvm := hT.2.2.2.2.2.1 a hz t0
  have sf : SFc sc1 sc := ⟨fun c x => r1 c (by omega), r2, r3, r4, W8.of r6 (by have := hu.2.2; have := hT.1; omega)⟩
  have sfm : SFm m1 m := ⟨fun c x => k1 c (by omega), fun k x => k2 k (by omega) (by omega)⟩
  have s54 : sc 54 6 = ((S + 1 : Nat) : Int) := by rw [r1 54 (by decide)]; exact h54
  obtain ⟨s', z1, z2, y1, y2, y3, y4, y5, y6, z5, z6, z7, z8, z9, z10⟩ := c159 hT (sf.cc hc) hu t0 t1 t2 s54 hS r6 hB8
  obtain ⟨⟨e1, e2⟩, _, _⟩ := c181 (s := s') (S := S) (by rw [z7 54 (by decide)]; exact s54) hS 1
  rw [z7 58 (by decide), r7, w32_nat (by omega)] at e2
  obtain ⟨sc', hsc'⟩ : ∃ sc' : Sg, sc' = ax_u2 s' 58 S ((j + 1 : Nat) : Int) := ⟨_, rfl⟩
  have q1 : ∀ c, c ≠ 58 → sc' c = s' c := fun c x => by rw [hsc']; exact u2_row _ _ _ x
  obtain ⟨⟨d1, d2, d3, d4, d5, d6, d7, d8, d9⟩, d10⟩ := mpfN (m := m) (S := S) (P := P + j) (a := a)
  have x98 : m 98 S = (P : Int) := by rw [k1 98 (by decide)]; exact m98
  have vi : (((T.vl a).toNat : Nat) : Int) = T.vl a := by omega
  refine ⟨sc', PNm m S (P + j) a, ?_, ?_, ?_, d3, ?_⟩
  · intro Fc l hl
    rw [j_153_7, if_neg (by omega), if_pos (by rw [hu.2.1, t0]; decide), if_neg (by rw [hu.2.1]; simp [t0]), z1, xb_inl]
    unfold j_153_47
    rw [gd_pos e1, e2, Option.bind_some, ← hsc', w32_nat (by omega)]
  · unfold CU at *
    rw [q1 39 (by decide)]
    exact z2
  · intro F
    exact mprN hT (sfm.mc hM) (by rw [k2 6 (by decide) (by decide)]; exact hf) hm hu.2.2 t0 t1 t2 (by omega) k5 hP8
  · have ecn : CN sc' ↔ CN s' := by unfold CN; rw [q1 30 (by decide)]
    have dup : CN sc → (sc 37 (T.vl a).toNat = 0 ↔ ∀ q, P ≤ q → q < P + j → 0 ≤ m 104 q → T.vl a ≠ T.vl (m 104 q).toNat) := by
      intro cn
      obtain ⟨b1, b2, b3, b4, b5, b6, b7, b8⟩ := g5 cn
      rw [x98, k6, Int.toNat_natCast, Int.toNat_natCast] at b6 b7
      constructor
      · intro u q u1 u2 u3 u4
        obtain ⟨i, i1, i2⟩ := b7 q u1 u2 u3
        obtain ⟨id, w1, w2, w3⟩ := b3 i i1
        have : id = (T.vl a).toNat := by omega
        rw [this] at w3
        exact w3 u
      · intro u
        apply Decidable.byContradiction
        intro v
        obtain ⟨i, i1, i2⟩ := b5 (T.vl a).toNat (IDN.at hT (x := a) (by omega) t0) v
        obtain ⟨p, u1, u2, u3, u4, u5⟩ := b6 i i1
        exact u p u1 u2 u3 (by rw [u4, i2]; omega)
    refine ⟨?_, ?_, ?_, ?_, ?_, ?_, ?_, ?_, ?_, ?_, ?_, ?_, ?_, ?_, ?_, ?_, ?_, ?_, ?_, by omega⟩
    · intro c x; rw [q1 c (by omega), z7 c (by omega), r1 c (by omega)]
    · intro k x y; rw [q1 39 (by decide), z8 k x y, r2 k x y]
    · intro k x; rw [q1 30 (by decide), z9 k x, r3 k x]
    · intro k x; rw [q1 31 (by decide), y6 k x, r4 k x]
    · intro c i x y z
      by_cases e : c = 57
      · subst e; rw [q1 57 (by decide), z6 i z, r5 57 i x y z]
      · rw [show c = 58 by omega, hsc', u2_col _ _ _ z, z7 58 (by decide), r5 58 i (by decide) (by decide) z]
    · rw [q1 31 (by decide)]; exact y1
    · rw [hsc']; exact u2_same _ _ _ _
    · rw [q1 57 (by decide), z5, bsm_succ (m := m) d9, d7, d8, if_neg (by omega), Int.toNat_natCast, r8]
    · intro c x; rw [d1 c x, k1 c x]
    · intro k x y; rw [d2 k x y, k2 k x y]
    · intro i x; rw [d6 i x, k3 i x]
    · intro c p x y z
      by_cases e : c = 104
      · subst e; rw [(d9 p (by omega)).1]; exact k4 104 p x y z
      · rw [show c = 105 by omega, (d9 p (by omega)).2]; exact k4 105 p (by decide) (by decide) z
    · rw [d4]; rfl
    · rw [d5, k6, w32_nat (by omega)]
    · intro k x
      rw [q1 45 (by decide), z7 45 (by decide), d10]
      exact g1 k (by omega)
    · intro k x y
      by_cases e : k < a
      · exact (g2 k x e).congr (by rw [q1 45 (by decide), z7 45 (by decide)]) (by rw [d1 91 (by decide)]) (by rw [d1 92 (by decide)]) (by rw [d10])
      · have gk := g1 k (by omega)
        exact (fr k x (by omega)).lf.congr (by rw [q1 45 (by decide), z7 45 (by decide)]; exact gk.1) (by rw [d1 91 (by decide), k1 91 (by decide)]) (by rw [d1 92 (by decide), k1 92 (by decide)]) (by rw [d10]; exact gk.2)
    · refine ⟨fun i => if i = j + 1 then a + 3 else f i, (if_neg (by omega)).trans f0, if_pos rfl, fun i hi => ?_⟩
      show (T.tk (if i = j + 1 then a + 3 else f i) = 2 ∧ _ ∧ _ = ((if i = j + 1 then a + 3 else f i : Nat) : Int) ∧ (if i + 1 = j + 1 then a + 3 else f (i + 1)) = (if i = j + 1 then a + 3 else f i) + 1) ∨ (T.tk (if i = j + 1 then a + 3 else f i) = 1 ∧ T.tk ((if i = j + 1 then a + 3 else f i) + 1) = 58 ∧ T.tk ((if i = j + 1 then a + 3 else f i) + 2) = 2 ∧ _ = ((if i = j + 1 then a + 3 else f i : Nat) : Int) ∧ _ = (((if i = j + 1 then a + 3 else f i) + 2 : Nat) : Int) ∧ (if i + 1 = j + 1 then a + 3 else f (i + 1)) = (if i = j + 1 then a + 3 else f i) + 3)
      rw [if_neg (show ¬ i = j + 1 by omega)]
      by_cases e : i = j
      · subst e
        rw [fj, if_pos rfl]
        exact Or.inr ⟨t0, t1, t2, d7, d8, rfl⟩
      · rw [if_neg (show ¬ i + 1 = j + 1 by omega), (d9 (P + i) (by omega)).1, (d9 (P + i) (by omega)).2]
        exact ff i (by omega)
    · rw [ecn, z10, gpt_succ (m := m) d9, d7, d8, Int.toNat_natCast, Int.toNat_natCast]
      constructor
      · rintro ⟨u1, u2, u3⟩
        exact ⟨(g4.mp u1).1, (g4.mp u1).2, fun _ => u2, fun y => absurd y (by omega), fun q q1 q2 _ q3 => (dup u1).mp u3 q q1 q2 q3⟩
      · rintro ⟨u1, u2, u3, _, u4⟩
        have cn := g4.mpr ⟨u1, u2⟩
        exact ⟨cn, u3 (by omega), (dup cn).mpr (fun q q1 q2 q3 => u4 q q1 q2 (by omega) q3)⟩
    · intro y
      obtain ⟨cn, v1, v2⟩ := z10.mp (ecn.mp y)
      obtain ⟨b1, b2, b3, b4, b5, b6, b7, b8⟩ := g5 cn
      rw [x98, k6, Int.toNat_natCast, Int.toNat_natCast] at b6 b7
      have n38 : ∀ i, i < B → sc 38 i ≠ T.vl a := fun i hi e => by
        obtain ⟨id, w1, w2, w3⟩ := b3 i hi
        have : id = (T.vl a).toNat := by omega
        rw [this] at w3
        exact w3 v2
      have o38 : ∀ i, i < B → s' 38 i = sc 38 i := fun i hi => y4 i (by omega)
      have o37 : ∀ i, i < B → s' 37 (sc 38 i).toNat = sc 37 (sc 38 i).toNat := fun i hi => y5 _ (fun e => by
        obtain ⟨id, w1, w2, w3⟩ := b3 i hi
        exact n38 i hi (by omega))
      have n0 : s' 37 (T.vl a).toNat ≠ 0 := by rw [y3]; split <;> omega
      unfold BND
      rw [q1 31 (by decide), q1 37 (by decide), q1 38 (by decide), d1 98 (by decide), x98, d5, k6, w32_nat (by omega), Int.toNat_natCast, Int.toNat_natCast, Nat.sub_self]
      refine ⟨y1, Nat.le_refl _, fun i hi => ?_, fun i i' hi hi' e => ?_, fun id hid u => ?_, fun i hi => ?_, fun p p1 p2 p3 => ?_, rfl⟩
      · by_cases e : i = B
        · subst e
          exact ⟨(T.vl a).toNat, by rw [y2]; omega, by omega, n0⟩
        · obtain ⟨id, w1, w2, w3⟩ := b3 i (by omega)
          refine ⟨id, by rw [o38 i (by omega)]; exact w1, w2, ?_⟩
          have := o37 i (by omega)
          rw [w1, Int.toNat_natCast] at this
          rw [this]; exact w3
      · by_cases e1 : i = B
        · by_cases e2 : i' = B
          · omega
          · rw [e1, y2, o38 i' (by omega)] at e
            exact absurd e.symm (n38 i' (by omega))
        · by_cases e2 : i' = B
          · rw [e2, y2, o38 i (by omega)] at e
            exact absurd e (n38 i (by omega))
          · rw [o38 i (by omega), o38 i' (by omega)] at e
            exact b4 i i' (by omega) (by omega) e
      · by_cases e : id = (T.vl a).toNat
        · exact ⟨B, by omega, by rw [y2]; omega⟩
        · rw [y5 id e] at u
          obtain ⟨i, i1, i2⟩ := b5 id hid u
          exact ⟨i, by omega, by rw [o38 i i1]; exact i2⟩
      · by_cases e : i = B
        · subst e
          exact ⟨P + j, by omega, by omega, by rw [d7]; omega, by rw [d7, Int.toNat_natCast, y2], by rw [y2, y3, d8, Int.toNat_natCast]⟩
        · obtain ⟨p, u1, u2, u3, u4, u5⟩ := b6 i (by omega)
          have hp := d9 p (by omega)
          exact ⟨p, u1, by omega, by rw [hp.1]; exact u3, by rw [hp.1, o38 i (by omega)]; exact u4, by rw [hp.2, o38 i (by omega), o37 i (by omega)]; exact u5⟩
      · by_cases e : p = P + j
        · exact ⟨B, by omega, by rw [e, d7, Int.toNat_natCast, y2]⟩
        · have hp := d9 p e
          rw [hp.1] at p3 ⊢
          obtain ⟨i, i1, i2⟩ := b7 p p1 (by omega) p3
          exact ⟨i, by omega, by rw [o38 i i1]; exact i2⟩
end ILN
/-! AN INSTRUCTION's parts: a bad one, the reference. -/
section MBAD
variable {T : TT} {m : Sg} {a S P F : Nat}
theorem fl290 (hF : 1 ≤ F) (hf : 0 < m 84 6) (hS : S < 4100) (hP : m 84 31 = (P : Int)) (hP8 : P < 8200) (h104 : 0 ≤ m 104 P) : ∃ m' : Sg, j_233_290 (j_233_221 F) (S : Int) m = some m' ∧ BSm m m' := by
  obtain ⟨M, hM⟩ : ∃ M : Sg, M = ax_u2 (ax_u2 (ax_u2 m 105 P 0) 84 31 ((P + 1 : Nat) : Int)) 99 S (ax_w32 ((ax_u2 m 105 P 0) 99 S + 1)) := ⟨_, rfl⟩
  have sf : SFm m M := by rw [hM]; exact ((ro_sf (by decide)).trans (slot_sf (by decide))).trans (ro_sf (by decide))
  have fM : 0 < M 84 6 := by rw [hM, u2_row _ _ _ (by decide), u2_col _ _ _ (by decide), u2_row _ _ _ (by decide)]; exact hf
  obtain ⟨m', k1, k2⟩ := fl221 hF fM (S : Int)
  refine ⟨m', ?_, sf.trans k2.1, k2.2⟩
  unfold j_233_290
  rw [takeF hf, Option.bind_some]
  show gd (0 ≤ m 84 31 ∧ m 84 31 < 8200) (gd (0 ≤ m 84 31 ∧ m 84 31 < 8200) (if 0 ≤ m 104 ((m 84 31).toNat) then j_233_331 (j_233_221 F) (S : Int) (ax_u2 m 105 ((m 84 31).toNat) 0) else _)) = _
  rw [hP, Int.toNat_natCast, gd_pos (by omega), gd_pos (by omega), if_pos h104, m331 hS (P := P) (by rw [u2_row _ _ _ (by decide)]; exact hP) hP8, ← hM]
  exact k1
theorem mbadN (hT : TWF T) (hM : MC T m) (hF : 1 ≤ F) (hf : m 84 6 = 0) (hu : m 84 18 = (a : Int)) (ha : a ≤ T.z) (t0 : T.tk a = 1) (t : ¬ (T.tk (a + 1) = 58 ∧ T.tk (a + 2) = 2)) (hS : S < 4100) (hP : m 84 31 = (P : Int)) (hP8 : P < 8200) : ∃ m' : Sg, j_233_221 (F + 1) (S : Int) m = some m' ∧ BSm m m' := by
  have h8 := hT.1
  have z0 := hT.lt ha (by rw [t0]; decide)
  obtain ⟨x1, x2⟩ := is_n hM hT hu ha (k := 2) (K := 2) (by decide) (by decide) (by rw [t0]; decide)
  obtain ⟨x3, x4⟩ := is_y hM hT hu ha (k := 1) (K := 1) (by decide) t0
  obtain ⟨M, hMM⟩ : ∃ M : Sg, M = ax_u2 (adv m (a + 1)) 104 P (a : Int) := ⟨_, rfl⟩
  have sf : SFm m M := by rw [hMM]; exact adv_sf.trans (ro_sf (by decide))
  have e31 : (adv m (a + 1)) 84 31 = (P : Int) := by rw [adv_col (by decide)]; exact hP
  have f1 : M 84 6 = 0 := by rw [hMM, u2_row _ _ _ (by decide), adv_col (by decide)]; exact hf
  have u1 : M 84 18 = ((a + 1 : Nat) : Int) := by rw [hMM, u2_row _ _ _ (by decide)]; exact adv_at
  have p1 : M 84 31 = (P : Int) := by rw [hMM, u2_row _ _ _ (by decide)]; exact e31
  have q1 : M 104 P = (a : Int) := by rw [hMM]; exact u2_same _ _ _ _
  have run : j_233_221 (F + 1) (S : Int) m = ((f_231 17 M).bind fun q15 => j_233_290 (j_233_221 F) (S : Int) q15.2) := by
    rw [j_233_221, if_neg (by simp [hf]), gd_pos x2, x1, if_neg (by decide), gd_pos x4, x3, if_neg (by decide)]
    unfold j_233_244
    rw [eatY hM hT hf hu ha (k := 1) (by decide) t0]
    have w1 : ax_w32 ((adv m (a + 1)) 84 18 - 1) = (a : Int) := by rw [adv_at, w32_id (by omega) (by omega)]; omega
    show gd (0 ≤ m 84 31 ∧ m 84 31 < 8200) (gd (0 ≤ (adv m (a + 1)) 84 31 ∧ (adv m (a + 1)) 84 31 < 8200) (if (ax_u2 (adv m (a + 1)) 104 ((m 84 31).toNat) (ax_w32 ((adv m (a + 1)) 84 18 - 1))) 104 (((adv m (a + 1)) 84 31).toNat) < 0 then _ else ((f_231 17 (ax_u2 (adv m (a + 1)) 104 ((m 84 31).toNat) (ax_w32 ((adv m (a + 1)) 84 18 - 1)))).bind fun q15 => j_233_290 (j_233_221 F) (S : Int) q15.2))) = _
    rw [w1, e31, hP, Int.toNat_natCast, gd_pos (by omega), gd_pos (by omega), ← hMM, if_neg (by rw [q1]; omega)]
  rw [run]
  by_cases t1 : T.tk (a + 1) = 58
  · have z1 := hT.lt (show a + 1 ≤ T.z by omega) (by rw [t1]; decide)
    rw [takeY (sf.mc hM) hT f1 u1 (by omega) (k := 58) (by decide) t1, Option.bind_some]
    have t2 : T.tk (a + 2) ≠ 2 := fun y => t ⟨t1, y⟩
    have mc2 := (sf.trans (adv_sf (a := a + 2))).mc hM
    have f2 : (adv M (a + 2)) 84 6 = 0 := by rw [adv_col (by decide)]; exact f1
    obtain ⟨M2, hM2⟩ : ∃ M2 : Sg, M2 = tel (adv M (a + 2)) 2 (a + 2) := ⟨_, rfl⟩
    have s2 : SFm m M2 := by rw [hM2]; exact (sf.trans adv_sf).trans tel_sf
    have b31 : M2 84 31 = (P : Int) := by rw [hM2, tel_col (by decide) (by decide), adv_col (by decide)]; exact p1
    have b104 : 0 ≤ M2 104 P := by rw [hM2, tel_row (by decide), adv_row (by decide), q1]; omega
    have bf : 0 < M2 84 6 := by rw [hM2, tel_at]; decide
    obtain ⟨M3, hM3⟩ : ∃ M3 : Sg, M3 = ax_u2 (ax_u2 (ax_u2 M2 105 P 0) 84 31 ((P + 1 : Nat) : Int)) 99 S (ax_w32 ((ax_u2 M2 105 P 0) 99 S + 1)) := ⟨_, rfl⟩
    have s3 : SFm M2 M3 := by rw [hM3]; exact ((ro_sf (by decide)).trans (slot_sf (by decide))).trans (ro_sf (by decide))
    have f3 : 0 < M3 84 6 := by rw [hM3, u2_row _ _ _ (by decide), u2_col _ _ _ (by decide), u2_row _ _ _ (by decide)]; exact bf
    obtain ⟨m', k1, k2⟩ := fl221 hF f3 (S : Int)
    refine ⟨m', ?_, (s2.trans s3).trans k2.1, k2.2⟩
    show j_233_290 (j_233_221 F) (S : Int) (adv M (a + 2)) = _
    unfold j_233_290
    rw [takeN mc2 hT f2 adv_at (by omega) (k := 2) (by decide) (by decide) t2, Option.bind_some]
    show gd (0 ≤ (adv M (a + 2)) 84 31 ∧ (adv M (a + 2)) 84 31 < 8200) (gd (0 ≤ (tel (adv M (a + 2)) 2 (a + 2)) 84 31 ∧ (tel (adv M (a + 2)) 2 (a + 2)) 84 31 < 8200) (if 0 ≤ (tel (adv M (a + 2)) 2 (a + 2)) 104 (((tel (adv M (a + 2)) 2 (a + 2)) 84 31).toNat) then j_233_331 (j_233_221 F) (S : Int) (ax_u2 (tel (adv M (a + 2)) 2 (a + 2)) 105 (((adv M (a + 2)) 84 31).toNat) 0) else _)) = _
    rw [← hM2, b31, show (adv M (a + 2)) 84 31 = (P : Int) by rw [adv_col (by decide)]; exact p1, Int.toNat_natCast, gd_pos (by omega), gd_pos (by omega), if_pos b104, m331 hS (P := P) (by rw [u2_row _ _ _ (by decide)]; exact b31) hP8, ← hM3]
    exact k1
  · obtain ⟨m', k1, k2⟩ := fl290 (m := tel M 2 (a + 1)) (P := P) hF (by rw [tel_at]; decide) hS (by rw [tel_col (by decide) (by decide)]; exact p1) hP8 (by rw [tel_row (by decide), q1]; omega)
    rw [takeN (sf.mc hM) hT f1 u1 (by omega) (k := 58) (by decide) (by decide) t1, Option.bind_some]
    exact ⟨m', k1, (sf.trans tel_sf).trans k2.1, k2.2⟩
end MBAD
/-! ALL PARTS of an instruction on both sides. -/
section ILA
variable {T : TT} {sc1 m1 : Sg} {h S P : Nat}
theorem ils_all (hT : TWF T) (hx : CX T sc1) (hc : CC T sc1) (hM : MC T m1) (hf : m1 84 6 = 0) (h54 : sc1 54 6 = ((S + 1 : Nat) : Int)) (hS : S < 1171) (hPh : P ≤ h) (m98 : m1 98 S = (P : Int)) (fr : ∀ k, h < k → k < T.z → FRS T sc1 m1 k) : ∀ (r : Nat) {sc m : Sg} {j B a : Nat} (Fc F : Nat), a + r = T.z → ILS T sc1 m1 sc m h S P j B a → CU T sc a → m 84 18 = (a : Int) →
    (∃ (sc' m' : Sg) (J B' a' : Nat), j_153_7 (Fc + r + 2) (j : Int) sc = j_153_61 sc' ∧ j_233_221 (F + r + 2) (S : Int) m = j_233_354 (S : Int) m' ∧ ILS T sc1 m1 sc' m' h S P J B' a' ∧ CU T sc' a' ∧ m' 84 18 = (a' : Int) ∧ a ≤ a' ∧ T.tk a' ≠ 1 ∧ T.tk a' ≠ 2) ∨
    (∃ s' mF : Sg, j_153_7 (Fc + r + 2) (j : Int) sc = some (.inr (15, s')) ∧ BSc T sc1 s' ∧ j_233_221 (F + r + 2) (S : Int) m = some mF ∧ BSm m1 mF) := by
  intro r
  induction r using Nat.strongRecOn with
  | ind r ih =>
  intro sc m j B a Fc F hr H hu hm
  have h8 := hT.1
  have hz := hu.2.2
  obtain ⟨r1, r2, r3, r4, r5, r6, r7, r8, k1, k2, k3, k4, k5, k6, g1, g2, g3, g4, g5, g6⟩ := id H
  have sf : SFc sc1 sc := ⟨fun c x => r1 c (by omega), r2, r3, r4, W8.of r6 (by have := hu.2.2; have := hT.1; omega)⟩
  have sfm : SFm m1 m := ⟨fun c x => k1 c (by omega), fun k x => k2 k (by omega) (by omega)⟩
  have mc := sfm.mc hM
  have fm : m 84 6 = 0 := by rw [k2 6 (by decide) (by decide)]; exact hf
  by_cases t2 : T.tk a = 2
  · have z0 := hT.lt hz (by rw [t2]; decide)
    obtain ⟨sc', m', x1, x2, x3, x4, x5⟩ := H.bit hT hx hc hM hf h54 hS (by omega) (by omega) m98 fr hu hm t2
    rw [show Fc + r + 2 = Fc + r + 1 + 1 by omega, show F + r + 2 = F + r + 1 + 1 by omega, x1 _ j (by omega), x3]
    have nx := ih (r - 1) (by omega) Fc F (by omega) x5 x2 x4
    rw [show Fc + (r - 1) + 2 = Fc + r + 1 by omega, show F + (r - 1) + 2 = F + r + 1 by omega] at nx
    rcases nx with ⟨s2, m2, J, B', a', n1, n2, n3, n4, n5, n6, n7⟩ | nx
    · exact Or.inl ⟨s2, m2, J, B', a', n1, n2, n3, n4, n5, by omega, n7⟩
    · exact Or.inr nx
  by_cases t1 : T.tk a = 1
  · have z0 := hT.lt hz (by rw [t1]; decide)
    by_cases t : T.tk (a + 1) = 58 ∧ T.tk (a + 2) = 2
    · have z1 := hT.lt (show a + 1 ≤ T.z by omega) (by rw [t.1]; decide)
      have z2 := hT.lt (show a + 2 ≤ T.z by omega) (by rw [t.2]; decide)
      obtain ⟨sc', m', x1, x2, x3, x4, x5⟩ := H.nam hT hc hM hf h54 hS (by omega) (by omega) (by omega) m98 fr hu hm t1 t.1 t.2
      rw [show Fc + r + 2 = Fc + r + 1 + 1 by omega, show F + r + 2 = F + r + 1 + 1 by omega, x1 _ j (by omega), x3]
      have nx := ih (r - 3) (by omega) (Fc + 2) (F + 2) (by omega) x5 x2 x4
      rw [show Fc + 2 + (r - 3) + 2 = Fc + r + 1 by omega, show F + 2 + (r - 3) + 2 = F + r + 1 by omega] at nx
      rcases nx with ⟨s2, m2, J, B', a', n1, n2, n3, n4, n5, n6, n7⟩ | nx
      · exact Or.inl ⟨s2, m2, J, B', a', n1, n2, n3, n4, n5, by omega, n7⟩
      · exact Or.inr nx
    · right
      obtain ⟨s', x1, x2⟩ := c159n hT (sf.cc hc) hu t1 t
      obtain ⟨mF, x3, x4⟩ := mbadN (F := F + r + 1) (P := P + j) hT mc (by omega) fm hm hz t1 t (show S < 4100 by omega) k5 (by omega)
      refine ⟨s', mF, ?_, ⟨sf.trans x2.1, x2.2⟩, x3, sfm.trans x4.1, x4.2⟩
      rw [show Fc + r + 2 = Fc + r + 1 + 1 by omega, j_153_7, if_neg (by omega), if_pos (by rw [hu.2.1]; exact t2), if_neg (by rw [hu.2.1]; simp [t1]), x1, xb_err]
  · left
    obtain ⟨x1, x2⟩ := is_n mc hT hm hz (k := 2) (K := 2) (by decide) (by decide) t2
    obtain ⟨x3, x4⟩ := is_n mc hT hm hz (k := 1) (K := 1) (by decide) (by decide) t1
    refine ⟨sc, m, j, B, a, ?_, ?_, H, hu, hm, Nat.le_refl _, t1, t2⟩
    · rw [show Fc + r + 2 = Fc + r + 1 + 1 by omega, j_153_7, if_neg (by omega), if_pos (by rw [hu.2.1]; exact t2), if_pos (by rw [hu.2.1]; exact t1)]
    · rw [show F + r + 2 = F + r + 1 + 1 by omega, j_233_221, if_neg (by simp [fm]), gd_pos x2, x1, if_neg (by decide), gd_pos x4, x3, if_pos rfl]
end ILA
/-! A BODY is opened, the reference. -/
def OBm (m : Sg) (b : Nat) (x : Int) (a : Nat) : Sg := ax_u2 (ax_u2 (ax_u2 (adv m (a + 1)) 114 b x) 115 b (m 84 46)) 84 43 ((b + 1 : Nat) : Int)
section OBD
variable {T : TT} {m : Sg} {a b : Nat} {x : Int}
theorem m258y (hT : TWF T) (hM : MC T m) (hf : m 84 6 = 0) (hu : m 84 18 = (a : Int)) (ha : a ≤ T.z) (t : T.tk a = 123) (hb : m 84 43 = (b : Int)) (hb8 : b < 80) (hx : x = 0 ∨ x = 1) : f_258 x m = some (OBm m b x a) := by
  have e43 : (adv m (a + 1)) 84 43 = (b : Int) := by rw [adv_col (by decide)]; exact hb
  have e46 : (adv m (a + 1)) 84 46 = m 84 46 := adv_col (by decide)
  unfold f_258
  rw [if_pos (by omega), if_pos (by omega), takeY hM hT hf hu ha (k := 123) (by decide) t, Option.bind_some]
  dsimp only
  rw [e43, e46, gd_pos ⟨by omega, hx⟩, gd_pos (by omega), Int.toNat_natCast, w32_nat (by omega)]
  rfl
theorem m258n (hT : TWF T) (hM : MC T m) (hf : m 84 6 = 0) (hu : m 84 18 = (a : Int)) (ha : a ≤ T.z) (t : T.tk a ≠ 123) (hb : m 84 43 = (b : Int)) (hb8 : b < 80) (hx : x = 0 ∨ x = 1) : ∃ m' : Sg, f_258 x m = some m' ∧ BSm m m' := by
  have e43 : (tel m 2 a) 84 43 = (b : Int) := by rw [tel_col (by decide) (by decide)]; exact hb
  refine ⟨ax_u2 (ax_u2 (ax_u2 (tel m 2 a) 114 b x) 115 b ((tel m 2 a) 84 46)) 84 43 ((b + 1 : Nat) : Int), ?_, ((tel_sf.trans (ro_sf (by decide))).trans (ro_sf (by decide))).trans (slot_sf (by decide)), ?_⟩
  · unfold f_258
    rw [if_pos (by omega), if_pos (by omega), takeN hM hT hf hu ha (k := 123) (by decide) (by decide) t, Option.bind_some]
    dsimp only
    rw [e43, gd_pos ⟨by omega, hx⟩, gd_pos (by omega), Int.toNat_natCast, w32_nat (by omega)]
  · rw [u2_col _ _ _ (by decide), u2_row _ _ _ (by decide), u2_row _ _ _ (by decide), tel_at]
    decide
theorem m258d (hT : TWF T) (hf : m 84 6 = 0) (hu : m 84 18 = (a : Int)) (ha : a ≤ T.z) (hb : m 84 43 = (b : Int)) (hb8 : 80 ≤ b) : f_258 x m = some (tel m 3 a) := by
  have h8 := hT.1
  have e : f_227 3 (m 89 a) m = tel m 3 a := by unfold f_227; rw [if_pos (by omega)]; rfl
  unfold f_258
  rw [if_pos (by omega), if_neg (by omega), hu, gd_pos (by omega), Int.toNat_natCast, e, Option.bind_some]
end OBD
/-! AN INSTRUCTION's header on both sides. -/
section INSR
variable {T : TT} {sc0 sm0 sc sm : Sg} {a S P A N K C w : Nat}
theorem ins_run (hT : TWF T) (hp : POS T) (hx : CX T sc) (h : PS0 T sc0 sm0 sc sm a S P A N K C w) (t0 : T.tk a = 20) :
    (∃ (s1 scp mp : Sg) (J B b : Nat), T.tk (a + 1) = 1 ∧ HDd sc s1 S (a + 1) N (T.vl (a + 1)).toNat 3 ∧ (CN s1 ↔ CN sc ∧ sc 36 (T.vl (a + 1)).toNat = -1) ∧ ILS T s1 (HDm sm S P N a 3) scp mp (a + 1) S P J B b ∧ CU T scp b ∧ mp 84 18 = (b : Int) ∧ T.tk b = 123 ∧ f_145 sc = some (.inl (ax_u2 (ax_u2 (ax_u2 (cur T scp (b + 1)) 71 0 20) 72 0 0) 70 9 ((0 + 1 : Nat) : Int))) ∧ f_233 sm = ((j_254_10 FU (S : Int) (OBm (ax_u2 mp 84 43 0) 0 0 b)).bind fun q12 => j_233_359 (S : Int) q12)) ∨
    (∃ (x : Nat) (s' mF : Sg), f_145 sc = some (.inr (x, s')) ∧ (x = 14 ∨ x = 15) ∧ BSc T sc s' ∧ f_233 sm = some mF ∧ BSm sm mF) := by
  obtain ⟨hB, h70, h19, h7, h37, hnc, htl, hdp⟩ := id h
  obtain ⟨e1, e2, e3, e4, e5, e6, e7, e8, e9, e10, e11, e12, e13, e14, e15, e16, e17, e18, e19, e20, e21, e22, e23, e24, e25, e26, e27, e28, e29, e30, e31⟩ := id hB
  have h8 := hT.1
  have n0 : T.tk a ≠ 0 := by rw [t0]; decide
  have hz := hT.lt e3.2.2 n0
  have pz := hp.add (k := a) (T.z - a) (by omega)
  rw [show a + (T.z - a) = T.z by omega] at pz
  have p8 := hp.2.2.2
  have hS1 : S < 1171 := by omega
  have hM0 : MC T (HD0 sm S P N) := HD0_sf.mc e2
  have f0 : (HD0 sm S P N) 84 6 = 0 := by rw [HD0_84 (by decide)]; exact e5
  have u0 : (HD0 sm S P N) 84 18 = (a : Int) := by rw [HD0_84 (by decide)]; exact e4
  have r233 : f_233 sm = (f_231 1 (ax_u2 (adv (HD0 sm S P N) (a + 1)) 94 S 3)).bind fun q11 => j_233_221 FU (S : Int) (ax_u2 q11.2 95 S q11.1) := by
    unfold f_233
    rw [h19, gd_pos (by omega), gd_pos (by omega), gd_pos (by omega), gd_pos (by omega), gd_pos (by omega), gd_pos (by omega), Int.toNat_natCast, e11, e6.2.1]
    show gd (g_252 31 (HD0 sm S P N)) ((some (f_252 31 (HD0 sm S P N))).bind _) = _
    rw [eatN hM0 hT u0 e3.2.2 (k := 17) (by decide) (by decide) (by rw [t0]; decide)]
    rw [if_neg (by simp), eatN hM0 hT u0 e3.2.2 (k := 18) (by decide) (by decide) (by rw [t0]; decide)]
    rw [if_pos rfl, eatN hM0 hT u0 e3.2.2 (k := 19) (by decide) (by decide) (by rw [t0]; decide)]
    rw [if_pos rfl, takeY hM0 hT f0 u0 e3.2.2 (k := 20) (by decide) t0, Option.bind_some, gd_pos (by omega)]
    congr 1
    funext q11
    rw [gd_pos (by omega)]
  have eta : ∀ o : Option (Sum Sg (Nat × Sg)), (xb o fun q => some (.inl q)) = o := fun o => by
    cases o with
    | none => rfl
    | some o => cases o <;> rfl
  have r145 : f_145 sc = f_153 sc := by
    unfold f_145
    rw [e3.2.1, if_neg (by rw [t0]; decide), if_neg (by rw [t0]; decide), if_neg (by rw [t0]; decide), if_pos t0, eta]
  have sA : SFm sm (ax_u2 (adv (HD0 sm S P N) (a + 1)) 94 S 3) := (HD0_sf.trans adv_sf).trans (ro_sf (by decide))
  have fA : (ax_u2 (adv (HD0 sm S P N) (a + 1)) 94 S 3) 84 6 = 0 := by rw [u2_row _ _ _ (by decide), adv_col (by decide)]; exact f0
  have uA : (ax_u2 (adv (HD0 sm S P N) (a + 1)) 94 S 3) 84 18 = ((a + 1 : Nat) : Int) := by rw [u2_row _ _ _ (by decide)]; exact adv_at
  rw [r145]
  by_cases t1 : T.tk (a + 1) = 1
  rotate_left
  · right
    have e2' : 0 < (ax_u2 (tel (ax_u2 (adv (HD0 sm S P N) (a + 1)) 94 S 3) 2 (a + 1)) 95 S 0) 84 6 := by rw [u2_row _ _ _ (by decide), tel_at]; decide
    obtain ⟨mF, k1, k2⟩ := fl221 (F := FU) FU1 e2' (S : Int)
    refine ⟨15, cur T sc (a + 1), mF, ?_, Or.inr rfl, ⟨cur_sf, _, cur_cu (by omega)⟩, ?_, ((sA.trans tel_sf).trans (ro_sf (by decide))).trans k2.1, k2.2⟩
    · unfold f_153
      rw [c156n hT e1 e3 n0 t1, xb_err]
    · rw [r233, takeN (sA.mc e2) hT fA uA (by omega) (k := 1) (by decide) (by decide) t1, Option.bind_some]
      exact k1
  have z1 := hT.lt (show a + 1 ≤ T.z by omega) (by rw [t1]; decide)
  obtain ⟨s1, hd1, hd2, hd3, hd4⟩ := c156 (kd := 3) hT e1 e3 n0 t1 e10 hS1 e6.1
  obtain ⟨q1, q2, q3, q4, q5, q6, q7, q8, q9, q10, q11, q12, q13, q14⟩ := id hd3
  have sf1 : SFc sc s1 := ⟨fun c x => q12 c (by omega), q13, q14, fun j _ => by rw [q12 31 (by omega)], W8.same (q12 31 (by omega))⟩
  obtain ⟨m1, hm1⟩ : ∃ m1 : Sg, m1 = HDm sm S P N a 3 := ⟨_, rfl⟩
  have sfm1 : SFm sm m1 := by rw [hm1]; exact HDm_sf
  have fm1 : m1 84 6 = 0 := by rw [hm1, HDm_84 (by decide) (by decide)]; exact e5
  have um1 : m1 84 18 = ((a + 2 : Nat) : Int) := by rw [hm1]; exact HDm_at
  have r233' : f_233 sm = j_233_221 FU (S : Int) m1 := by
    rw [r233, takeY (sA.mc e2) hT fA uA (by omega) (k := 1) (by decide) t1, Option.bind_some, hm1]
    rfl
  have hs := HDm_S (sm := sm) (S := S) (P := P) (N := N) (a := a) (kd := 3)
  have il0 : ILS T s1 m1 s1 m1 (a + 1) S P 0 0 (a + 2) := by
    refine ⟨fun _ _ => rfl, fun _ _ _ => rfl, fun _ _ => rfl, fun _ _ => rfl, fun _ _ _ _ _ => rfl, by rw [q12 31 (by decide)]; exact e14, q5, q4, fun _ _ => rfl, fun _ _ _ => rfl, fun _ _ => rfl, fun _ _ _ _ _ => rfl, by rw [hm1, HDm_84 (by decide) (by decide)]; exact e11, by rw [hm1]; exact hs.2.2.2.2.2.1, fun _ _ => ⟨rfl, rfl⟩, fun k x y => absurd y (by omega), ⟨fun _ => a + 2, rfl, rfl, fun i hi => absurd hi (by omega)⟩, ⟨fun y => ⟨y, fun p y z => absurd z (by omega)⟩, fun y => y.1⟩, fun y => ?_, by omega⟩
    have z37 : ∀ id, IDN T id → s1 37 id = 0 := fun id hid => by rw [q12 37 (by decide)]; exact h37 (hd4.mp y).1 id hid
    unfold BND
    rw [hm1, hs.2.2.2.2.1, hs.2.2.2.2.2.1]
    refine ⟨by rw [q12 31 (by decide)]; exact e14, Nat.le_refl _, fun i hi => absurd hi (by omega), fun i j hi => absurd hi (by omega), fun id hid u => absurd (z37 id hid) u, fun i hi => absurd hi (by omega), fun p p1 p2 => absurd p2 (by rw [Int.toNat_natCast] at *; simp; omega), rfl⟩
  obtain ⟨F, hF⟩ := FU_split (k := T.z - (a + 2) + 2) (by omega)
  have hF' : FU = F + (T.z - (a + 2)) + 2 := by omega
  have r153 : f_153 sc = j_153_7 FU 0 s1 := by
    unfold f_153
    rw [hd1, xb_inl]
  rcases ils_all (h := a + 1) (P := P) hT (sf1.cx hx) (sf1.cc e1) (sfm1.mc e2) fm1 q1 hS1 (by omega) (by rw [hm1]; exact hs.2.2.2.2.1) (fun k x y => by
      obtain ⟨b1, b2, b3, b4⟩ := e8 k (by omega) y
      exact ⟨by rw [q12 45 (by decide)]; exact b1, by rw [hm1, HDm_row (by decide)]; exact b2, by rw [hm1, HDm_row (by decide)]; exact b3, by rw [hm1, HDm_row (by decide)]; exact b4⟩) (T.z - (a + 2)) F F (by omega) il0 hd2 um1 with ⟨scp, mp, J, B, b, x1, x2, x3, x4, x5, x6, x7, x8⟩ | ⟨s', mF, x1, x2, x3, x4⟩
  rotate_left
  · right
    exact ⟨15, s', mF, by rw [r153, hF']; exact x1, Or.inr rfl, ⟨sf1.trans x2.1, x2.2⟩, by rw [r233', hF']; exact x3, sfm1.trans x4.1, x4.2⟩
  rw [← hF'] at x1 x2
  obtain ⟨r1, r2, r3, r4, r5, r6, r7, r8, k1, k2, -, -, -, -, -, -, -, -, -, g6'⟩ := id x3
  have sfp : SFc sc scp := sf1.trans ⟨fun c x => r1 c (by omega), r2, r3, r4, W8.of r6 (by have := x4.2.2; have := hT.1; omega)⟩
  have sfq : SFm sm mp := sfm1.trans ⟨fun c x => k1 c (by omega), fun k x => k2 k (by omega) (by omega)⟩
  have b70 : scp 70 9 = ((0 : Nat) : Int) := by rw [r1 70 (by decide), q12 70 (by decide)]; exact h70
  have sB : SFm sm (ax_u2 mp 84 43 0) := sfq.trans (slot_sf (by decide))
  have fB : (ax_u2 mp 84 43 0) 84 6 = 0 := by rw [u2_col _ _ _ (by decide), k2 6 (by decide) (by decide)]; exact fm1
  have uB : (ax_u2 mp 84 43 0) 84 18 = (b : Int) := by rw [u2_col _ _ _ (by decide)]; exact x5
  have cB : (ax_u2 mp 84 43 0) 84 43 = ((0 : Nat) : Int) := u2_same _ _ _ _
  have r1' : f_153 sc = xb (f_154 20 0 scp) fun q2 => some (.inl q2) := by
    rw [r153]
    exact x1
  have r2' : f_233 sm = (((f_258 0 (ax_u2 mp 84 43 0)).bind fun q1 => j_254_10 FU (S : Int) q1).bind fun q12 => j_233_359 (S : Int) q12) := by
    rw [r233', x2]
    rfl
  by_cases t2 : T.tk b = 123
  · left
    refine ⟨s1, scp, mp, J, B, b, t1, hd3, hd4, by rw [← hm1]; exact x3, x4, x5, t2, ?_, ?_⟩
    · rw [r1', c154y hT (sfp.cc e1) x4 t2 b70 (by omega), xb_inl]
    · rw [r2', m258y hT (sB.mc e2) fB uB x4.2.2 t2 cB (by omega) (Or.inl rfl), Option.bind_some]
  · right
    obtain ⟨x, y1, y2⟩ := c154n (w := 20) (m := 0) x4 b70 (Or.inl t2)
    obtain ⟨mF, y3, y4⟩ := m258n hT (sB.mc e2) fB uB x4.2.2 t2 cB (by omega) (x := 0) (Or.inl rfl)
    obtain ⟨G, hG⟩ := FU_split (k := 1) (by omega)
    have f4 := y4.2
    refine ⟨x, scp, mF, by rw [r1', y2, xb_err], y1, ⟨sfp, _, x4⟩, ?_, sB.trans y4.1, y4.2⟩
    rw [r2', y3, Option.bind_some, hG, j_254_10, if_pos (by omega), Option.bind_some]
    exact fl359 f4 _
end INSR
/-! INSIDE a statement: the state at any lexeme of an action. -/
def PXB (T : TT) (sc0 sm0 sc sm : Sg) (a S P A Q N K C B w : Nat) : Prop :=
  CC T sc ∧ MC T sm ∧ CU T sc a ∧ sm 84 18 = (a : Int) ∧ sm 84 6 = 0 ∧ ND T sc sm N K ∧ sc 66 7 = 0 ∧ (∀ k, a ≤ k → k < T.z → FRS T sc sm k) ∧ (∀ k, k < a → LF T sc sm k) ∧ sc 54 6 = (S : Int) ∧ sm 84 31 = (P : Int) ∧ sm 84 34 = (Q : Int) ∧ sc 61 4 = (C : Int) ∧ sc 31 8 = (B : Int) ∧ SFc sc0 sc ∧ SFm sm0 sm ∧
  DAT T sc sm S P A N C w ∧ (∀ i, i < S → sc 59 i = sm 102 i) ∧ (∀ k, 1 ≤ k → k < a → PRQ (T.tk (k - 1)) (T.tk k)) ∧ (∀ k, k < a → STT T k) ∧ 4 * (C : Int) ≤ T.fm a ∧ 2 * B ≤ a ∧ P ≤ a ∧ A ≤ a ∧ N ≤ a ∧ K ≤ N ∧ 3 ≤ a ∧ sm 84 30 = (w : Int) ∧ sc 54 7 = mn (T.vl w) ∧ w < T.z ∧ T.tk w = 2
section PXS
variable {T : TT} {sc0 sm0 sc sm sc' sm' : Sg} {a a' S P A A' Q Q' N K C C' B B' w s np : Nat} {r : Int}
theorem PSB.px (h : PSB T sc0 sm0 sc sm a S P A N K C B w) : PXB T sc0 sm0 sc sm a S P A A N K C B w := h
theorem PXB.ps (h : PXB T sc0 sm0 sc sm a S P A A N K C B w) : PSB T sc0 sm0 sc sm a S P A N K C B w := h
theorem RST.cg (h7 : ∀ i, i < A → sm' 107 i = sm 107 i ∧ sm' 113 i = sm 113 i) : ∀ (j : Nat) (r : Int), (∀ i, i < j → sc' 38 (np + i) = sc 38 (np + i) ∧ sc' 37 (sc 38 (np + i)).toNat = sc 37 (sc 38 (np + i)).toNat) → r < (A : Int) → RST T sc sm np j r → RST T sc' sm' np j r := by
  intro j
  induction j with
  | zero => intro r _ _ h; exact h
  | succ j ih =>
    intro r hc hr ⟨a, h1, h2, h3, h4, h5, h6⟩
    obtain ⟨u1, u2⟩ := h7 a (by omega)
    obtain ⟨v1, v2⟩ := hc j (by omega)
    exact ⟨a, h1, h2, by rw [u1, v1]; exact h3, by rw [v1, v2]; exact h4, by rw [u2]; exact h5, by rw [u2]; exact ih _ (fun i hi => hc i (by omega)) (by omega) h6⟩
theorem BND.rows (h : BND T sc sm s r B np) (h31 : sc' 31 8 = sc 31 8) (h38 : sc' 38 = sc 38) (h37 : sc' 37 = sc 37) (h98 : sm' 98 s = sm 98 s) (h99 : sm' 99 s = sm 99 s) (h4 : sm' 104 = sm 104) (h5 : sm' 105 = sm 105) (h7 : ∀ i, i < A → sm' 107 i = sm 107 i ∧ sm' 113 i = sm 113 i) (hr : r < (A : Int)) : BND T sc' sm' s r B np := by
  obtain ⟨b1, b2, b3, b4, b5, b6, b7, b8⟩ := h
  unfold BND
  have b9 := RST.cg (sc' := sc') h7 _ _ (fun i _ => ⟨by rw [h38], by rw [h37]⟩) hr b8
  rw [h31, h38, h37, h98, h99, h4, h5]
  exact ⟨b1, b2, b3, b4, b5, b6, b7, b9⟩
/-- a step that reads no expression -/
theorem PXB.gen (h : PXB T sc0 sm0 sc sm a S P A Q N K C B w)
    (r1 : ∀ c, ¬ (c = 30 ∨ c = 31 ∨ 37 ≤ c ∧ c ≤ 39 ∨ c = 59 ∨ 61 ≤ c ∧ c ≤ 65 ∨ 70 ≤ c ∧ c ≤ 72) → sc' c = sc c) (r2 : ∀ j, j ≠ 10 → j ≠ 11 → sc' 39 j = sc 39 j) (r3 : ∀ j, j < 4 ∨ 7 < j → sc' 30 j = sc 30 j) (r4 : ∀ j, j ≠ 8 → sc' 31 j = sc 31 j) (r5 : sc' 31 8 = (B' : Int)) (r6 : sc' 61 4 = (C' : Int)) (r7 : ∀ c j, 62 ≤ c → c ≤ 65 → j < C → sc' c j = sc c j) (r8 : ∀ i, i < S → sc' 59 i = sm' 102 i) (hu : CU T sc' a')
    (m1 : ∀ c, ¬ (c = 84 ∨ c = 102 ∨ 106 ≤ c ∧ c ≤ 115) → sm' c = sm c) (m2 : ∀ c i, 106 ≤ c → c ≤ 113 → i < A → sm' c i = sm c i) (m3 : ∀ j, j ≠ 18 → j ≠ 34 → j ≠ 43 → j ≠ 46 → sm' 84 j = sm 84 j) (m4 : sm' 84 18 = (a' : Int)) (m5 : sm' 84 34 = (Q' : Int))
    (hA : A ≤ A') (hC : C ≤ C') (nA : ∀ i, A ≤ i → i < A' → ARL T sm' S N i)
    (nC1 : ∀ c, C ≤ c → c < C' → CLc sc' sm' S A' c) (nC2 : CN sc' → ∀ i, A ≤ i → i < A' → sm' 106 i = 0 → ∃ c, c < C' ∧ sc' 62 c = sm' 107 i ∧ sc' 63 c = sm' 109 i ∧ sc' 64 c = sm' 110 i ∧ sc' 65 c = 0) (nC3 : ∀ i, A ≤ i → i < A' → sm' 106 i = 1 → ∃ c, c < C' ∧ sc' 62 c = sm' 111 i ∧ sc' 63 c = -1 ∧ sc' 64 c = sm' 110 i ∧ sc' 65 c = 1)
    (nG : CN sc' ↔ CN sc ∧ ∀ i, A ≤ i → i < A' → GAC T sm' i) (ha : a ≤ a') (pq : ∀ k, a ≤ k → k < a' → PRQ (T.tk (k - 1)) (T.tk k) ∧ STT T k) (b1 : 4 * (C' : Int) ≤ T.fm a') (b2 : 2 * B' ≤ a') (b3 : A' ≤ a') (b8 : B' ≤ B ∨ B' ≤ 4112 := by omega) : PXB T sc0 sm0 sc' sm' a' S P A' Q' N K C' B' w := by
  obtain ⟨e1, e2, e3, e4, e5, e6, e7, e8, e9, e10, e11, e12, e13, e14, e15, e16, e17, e18, e19, e20, e21, e22, e23, e24, e25, e26, e27, e28, e29, e30, e31⟩ := h
  have sfc : SFc sc sc' := ⟨fun c x => r1 c (by omega), r2, r3, r4, fun y => by omega⟩
  have sfm : SFm sm sm' := ⟨fun c x => m1 c (by omega), fun j x => m3 j (by omega) (by omega) (by omega) (by omega)⟩
  have rx : RXF sc sm sc' sm' S P A N C := ⟨fun c i x y z => by rw [r1 c (by omega)], fun c i x y z => by rw [m1 c (by omega)], fun c p x y _ => by rw [m1 c (by omega)], m2, r7, fun n _ => by rw [r1 48 (by omega)], fun c n x y _ => by rw [m1 c (by omega)], fun c x => r1 c (by omega)⟩
  have hz := hu.2.2
  have owr : OWR T sc' sm' S := by
    intro id hid
    rw [r1 36 (by omega), m1 95 (by omega)]
    exact e17.2.2.2.2.2.1 id hid
  have dat : DAT T sc' sm' S P A' N C' w := by
    refine e17.ext rx (Nat.le_refl _) (Nat.le_refl _) hA (Nat.le_refl _) hC (fun _ y z => absurd z (by omega)) nA nC1 nC2 nC3 (fun _ y z => absurd z (by omega)) (fun _ y z => absurd z (by omega)) (fun _ _ y z => absurd z (by omega)) owr (PHE.same _ _ _ _ _) (CLE.same _ (by rw [e4, m4]; omega)) (LOE.same _ _ _ _) ?_
    rw [nG]
    exact ⟨fun y => ⟨y.1, fun _ y z => absurd z (by omega), y.2, fun _ y z => absurd z (by omega)⟩, fun y => ⟨y.1, y.2.2.1⟩⟩
  refine ⟨sfc.cc e1, sfm.mc e2, hu, m4, by rw [m3 6 (by decide) (by decide) (by decide) (by decide)]; exact e5, ?_, by rw [r1 66 (by omega)]; exact e7, ?_, ?_, by rw [r1 54 (by omega)]; exact e10, by rw [m3 31 (by decide) (by decide) (by decide) (by decide)]; exact e11, m5, r6, r5, e15.trans sfc, e16.trans sfm, dat, r8, ?_, ?_, b1, b2, by omega, b3, by omega, e26, by omega, by rw [m3 30 (by decide) (by decide) (by decide) (by decide)]; exact e28, by rw [r1 54 (by omega)]; exact e29, e30, e31⟩
  · exact e6.congr (by rw [r1 46 (by omega)]) (m3 47 (by decide) (by decide) (by decide) (by decide)) (m3 57 (by decide) (by decide) (by decide) (by decide)) (fun c n x y _ => by rw [r1 c (by omega)]) (fun c n x y _ => by rw [m1 c (by omega)]) (fun j _ => by rw [m1 125 (by omega)])
  · intro k x y
    obtain ⟨f1, f2, f3, f4⟩ := e8 k (by omega) y
    exact ⟨by rw [r1 45 (by omega)]; exact f1, by rw [m1 91 (by omega)]; exact f2, by rw [m1 92 (by omega)]; exact f3, by rw [m1 93 (by omega)]; exact f4⟩
  · intro k x
    have : LF T sc sm k := by
      by_cases e : k < a
      · exact e9 k e
      · exact (e8 k (by omega) (by omega)).lf
    exact this.congr (by rw [r1 45 (by omega)]) (by rw [m1 91 (by omega)]) (by rw [m1 92 (by omega)]) (by rw [m1 93 (by omega)])
  · intro k x y
    by_cases c1 : k < a
    · exact e19 k x c1
    · exact (pq k (by omega) y).1
  · intro k x
    by_cases c1 : k < a
    · exact e20 k c1
    · exact (pq k (by omega) x).2
/-- a lexeme is passed -/
theorem PXB.tok (hp : POS T) (h : PXB T sc0 sm0 sc sm a S P A Q N K C B w) (hz : a < T.z) (pq : PRQ (T.tk (a - 1)) (T.tk a)) (st : STT T a) : PXB T sc0 sm0 (cur T sc (a + 1)) (adv sm (a + 1)) (a + 1) S P A Q N K C B w := by
  obtain ⟨e1, e2, e3, e4, e5, e6, e7, e8, e9, e10, e11, e12, e13, e14, e15, e16, e17, e18, e19, e20, e21, e22, e23, e24, e25, e26, e27, e28, e29, e30, e31⟩ := id h
  have pz := hp.1 a hz
  refine h.gen (fun c x => cur_row (by omega)) (fun j x y => cur_col x y) (fun j _ => by rw [cur_row (by decide)]) (fun j _ => by rw [cur_row (by decide)]) (by rw [cur_row (by decide)]; exact e14) (by rw [cur_row (by decide)]; exact e13) (fun c j x y _ => by rw [cur_row (by omega)]) (fun i hi => by rw [cur_row (by decide), adv_row (by decide)]; exact e18 i hi) (cur_cu (by omega)) (fun c x => adv_row (by omega)) (fun c i x y _ => by rw [adv_row (by omega)]) (fun j x _ _ _ => adv_col x) adv_at (by rw [adv_col (by decide)]; exact e12) (Nat.le_refl _) (Nat.le_refl _) (fun _ y z => absurd z (by omega)) (fun _ y z => absurd z (by omega)) (fun _ _ y z => absurd z (by omega)) (fun _ y z => absurd z (by omega)) ?_ (by omega) (fun k x y => by rw [show k = a by omega]; exact ⟨pq, st⟩) (by omega) (by omega) (by omega)
  have : CN (cur T sc (a + 1)) ↔ CN sc := by unfold CN; rw [cur_row (by decide)]
  rw [this]
  exact ⟨fun y => ⟨y, fun _ y z => absurd z (by omega)⟩, fun y => y.1⟩
/-- the reference writes into an action's row -/
theorem PXB.row (h : PXB T sc0 sm0 sc sm a S P A Q N K C B w) {c i : Nat} {v : Int} (hc : 106 ≤ c ∧ c ≤ 113) (hi : A ≤ i) : PXB T sc0 sm0 sc (ax_u2 sm c i v) a S P A Q N K C B w := by
  obtain ⟨e1, e2, e3, e4, e5, e6, e7, e8, e9, e10, e11, e12, e13, e14, e15, e16, e17, e18, e19, e20, e21, e22, e23, e24, e25, e26, e27, e28, e29, e30, e31⟩ := id h
  have u : ∀ b j, j < A → (ax_u2 sm c i v) b j = sm b j := fun b j x => by
    have : j ≠ i := by omega
    simp [ax_u2, this]
  exact h.gen (fun _ _ => rfl) (fun _ _ _ => rfl) (fun _ _ => rfl) (fun _ _ => rfl) e14 e13 (fun _ _ _ _ _ => rfl) (fun j hj => by rw [u2_row _ _ _ (by omega)]; exact e18 j hj) e3 (fun b x => u2_row _ _ _ (by omega)) (fun b j _ _ x => u b j x) (fun j _ _ _ _ => by rw [u2_row _ _ _ (by omega)]) (by rw [u2_row _ _ _ (by omega)]; exact e4) (by rw [u2_row _ _ _ (by omega)]; exact e12) (Nat.le_refl _) (Nat.le_refl _) (fun _ y z => absurd z (by omega)) (fun _ y z => absurd z (by omega)) (fun _ _ y z => absurd z (by omega)) (fun _ y z => absurd z (by omega)) ⟨fun y => ⟨y, fun _ y z => absurd z (by omega)⟩, fun y => y.1⟩ (by omega) (fun k x y => absurd y (by omega)) e21 e22 e24
end PXS
/-! INSIDE a statement: an expression has been read. -/
section PXE
variable {T : TT} {sc0 sm0 sc sm sc' sm' : Sg} {a a' S P A Q N N' K K' C B w s np : Nat}
theorem TPOST.bnd (h : TPOST T sc sm (s : Int) a N K sc' sm' a' N' K') {r : Int} (b : BND T sc sm s r B np) : BND T sc' sm' s r B np := by
  obtain ⟨p1, p2, p3, p4, p5, p6, p7, p8, p9, p10, p11, -⟩ := h
  exact b.rows (A := 8200) (by rw [p10.1 31 (by decide)]) (p10.1 38 (by decide)) (p10.1 37 (by decide)) (by rw [p11.1 98 (by decide)]) (by rw [p11.1 99 (by decide)]) (p11.1 104 (by decide)) (p11.1 105 (by decide)) (fun i _ => ⟨by rw [p11.1 107 (by decide)], by rw [p11.1 113 (by decide)]⟩) (rst_r _ _ b.2.2.2.2.2.2.2)
theorem TPOST.nd (hT : TWF T) (h : TPOST T sc sm (s : Int) a N K sc' sm' a' N' K') {n : Nat} (h1 : N ≤ n) (h2 : n < N') : sm' 123 n = (s : Int) ∧ sm' 124 n = sm 84 46 ∧ (1 ≤ sm' 116 n → sm' 116 n ≤ 3 → ∃ x : Nat, sm' 118 n = (x : Int) ∧ x < T.z ∧ T.tk x = 1 ∧ sc' 48 n = sc' 37 (T.vl x).toNat) := by
  obtain ⟨-, -, -, -, -, nd, -, -, xf, ec, ef, -, -, sg, -, -, -, -, -, -, -⟩ := h
  have sn := sg.2.2.2.2.1 n h1 h2
  refine ⟨sn.1, sn.2.1, fun y z => ?_⟩
  obtain ⟨c, q, -, -, -, -, -, -, -, -, -, -, -, -, nv⟩ := nd.2.2.2 n h2
  obtain ⟨x, x1, x2, x3, x4, x5⟩ := nv.2.2.2.1 y z
  have e := sn.2.2 y z
  rw [x1, Int.toNat_natCast] at e
  exact ⟨x, x1, x3, x4, e⟩
theorem TPOST.nev (hT : TWF T) (h : TPOST T sc sm (s : Int) a N K sc' sm' a' N' K') (b : BND T sc sm s (sm 84 46) B np) {n : Nat} (h1 : N ≤ n) (h2 : n < N') : NEV T sc' sm' n := by
  obtain ⟨n1, n2, n3⟩ := h.nd hT h1 h2
  have bn := h.bnd b
  intro y z
  obtain ⟨x, x1, x2, x3, x4⟩ := n3 y z
  have v1 := hT.2.2.2.2.1 x x2
  have v2 := hT.2.2.2.2.2.1 x x2 x3
  have vi : (((T.vl x).toNat : Nat) : Int) = T.vl x := by omega
  have o := bn.own (i := (T.vl x).toNat) (IDN.at hT x2 x3)
  rw [vi] at o
  rw [n1, n2, x1, Int.toNat_natCast, Int.toNat_natCast, x4]
  refine ⟨o, fun u => ?_⟩
  have := bn.oww (i := (T.vl x).toNat) (IDN.at hT x2 x3) u
  rw [vi] at this
  exact this
theorem TPOST.gno (hT : TWF T) (h : TPOST T sc sm (s : Int) a N K sc' sm' a' N' K') (b : BND T sc sm s (sm 84 46) B np) {n : Nat} (h1 : N ≤ n) (h2 : n < N') : NOK T (sc 37) sm' n ↔ GNO T sm' n := by
  obtain ⟨n1, n2, n3⟩ := h.nd hT h1 h2
  have bn := h.bnd b
  have r37 : sc' 37 = sc 37 := h.2.2.2.2.2.2.2.2.2.1.1 37 (by decide)
  unfold NOK GNO
  rw [n1, n2, Int.toNat_natCast, ← r37]
  have key : sm' 116 n = 2 ∨ sm' 116 n = 3 → (sc' 37 (T.vl (sm' 118 n).toNat).toNat = 0 ↔ ¬ OWN T sm' s (sm 84 46) (T.vl (sm' 118 n).toNat)) := by
    intro y
    obtain ⟨x, x1, x2, x3, x4⟩ := n3 (by omega) (by omega)
    have v1 := hT.2.2.2.2.1 x x2
    have v2 := hT.2.2.2.2.2.1 x x2 x3
    have vi : (((T.vl x).toNat : Nat) : Int) = T.vl x := by omega
    have o := bn.own (i := (T.vl x).toNat) (IDN.at hT x2 x3)
    rw [vi] at o
    rw [x1, Int.toNat_natCast, ← o]
    exact ⟨fun u v => v u, fun u => Decidable.byContradiction u⟩
  exact ⟨fun ⟨p1, p2, p3, p4⟩ => ⟨p1, p2, p3, fun y => (key y).mp (p4 y)⟩, fun ⟨p1, p2, p3, p4⟩ => ⟨p1, p2, p3, fun y => (key y).mpr (p4 y)⟩⟩
theorem PXB.post (hT : TWF T) (hp : POS T) (h : PXB T sc0 sm0 sc sm a S P A Q N K C B w) (hs : s < S) (h94 : s + 1 = S ∧ sm 94 s = 3) (hr : -1 ≤ sm 84 46 ∧ sm 84 46 < (A : Int) ∧ (0 ≤ sm 84 46 → sm 106 (sm 84 46).toNat = 2)) (hb : CN sc → BND T sc sm s (sm 84 46) B np) (ht : T.tk (a - 1) ∈ opA) (tp : TPOST T sc sm (s : Int) a N K sc' sm' a' N' K') : PXB T sc0 sm0 sc' sm' a' S P A Q N' K' C B w := by
  have gno := fun (cn : CN sc) (n : Nat) (y : N ≤ n) (z : n < N') => tp.gno hT (hb cn) y z
  have nev := fun (cn : CN sc) (n : Nat) (y : N ≤ n) (z : n < N') => tp.nev hT (hb cn) y z
  have nds := fun (n : Nat) (y : N ≤ n) (z : n < N') => tp.nd hT y z
  obtain ⟨e1, e2, e3, e4, e5, e6, e7, e8, e9, e10, e11, e12, e13, e14, e15, e16, e17, e18, e19, e20, e21, e22, e23, e24, e25, e26, e27, e28, e29, e30, e31⟩ := h
  obtain ⟨p1, p2, p3, p4, p5, p6, p7, p8, p9, p10, p11, p12, p13, p14, p15, p16, p17, p18, p19, p20, p21⟩ := tp
  have hz := p3.2.2
  have pz := hp.add (k := a) (a' - a) (by omega)
  rw [show a + (a' - a) = a' by omega] at pz
  have hsg := p14.2.2.1
  have rx : RXF sc sm sc' sm' S P A N C := ⟨fun c i x y z => by rw [p10.1 c (by omega)], fun c i x y z => by rw [p11.1 c (by omega)], fun c p x y _ => by rw [p11.1 c (by omega)], fun c i x y z => by rw [p11.1 c (by omega)], fun c i x y z => by rw [p10.1 c (by omega)], fun n x => p9.2.1 48 n (by decide) (by decide) x, p9.2.2.1, fun c x => p10.1 c (by omega)⟩
  have owr : OWR T sc' sm' S := by
    intro id hid
    rw [p10.1 36 (by decide), p11.1 95 (by decide)]
    exact e17.2.2.2.2.2.1 id hid
  have dat : DAT T sc' sm' S P A N' C w := by
    refine e17.ext rx (Nat.le_refl _) (Nat.le_refl _) (Nat.le_refl _) (by omega) (Nat.le_refl _) (fun _ y z => absurd z (by omega)) (fun _ y z => absurd z (by omega)) (fun _ y z => absurd z (by omega)) (fun _ _ y z => absurd z (by omega)) (fun _ y z => absurd z (by omega)) (fun _ y z => absurd z (by omega)) (fun n y z => ?_) (fun cn n y z => nev (p12.mp cn).1 n y z) owr ⟨by omega, fun _ y z => absurd z (by omega), fun _ y z => absurd z (by omega), fun _ y z => absurd z (by omega), fun _ _ i y => by rw [p11.1 94 (by decide), show i = s by omega, h94.2]; decide⟩ ⟨by rw [e4, p4]; omega, fun m u v z => by
        obtain ⟨k, k1, k2, k3, -⟩ := p14.2.2.2.2.2.1 m u v z
        rw [e4, p4, k3]
        omega, p14.2.2.2.2.2.2.2.1⟩ (LOE.same _ _ _ _) ?_
    · obtain ⟨n1, n2, -⟩ := nds n y z
      obtain ⟨_, _, _, n0, _, _, _, _, _, _, _, _, s60, sN, _⟩ := e17.1 s hs
      exact ⟨s, n1, hs, by rw [n2]; exact hr.1, by rw [n2]; exact hr.2.1, by rw [n2, p11.1 106 (by decide)]; exact hr.2.2, by rw [p10.1 60 (by decide), s60]; omega, fun s' u v => absurd v (by omega)⟩
    · rw [p12]
      exact ⟨fun y => ⟨y.1, fun _ y z => absurd z (by omega), fun _ y z => absurd z (by omega), fun n u v => (gno y.1 n u v).mp (y.2 n u v)⟩, fun y => ⟨y.1, fun n u v => (gno y.1 n u v).mpr (y.2.2.2 n u v)⟩⟩
  have px := p14.2.2.2.2.2.2.2.2.1
  have oA : T.tk (a - 1) ≠ 59 ∧ T.tk (a - 1) ≠ 125 := by
    simp [opA] at ht
    omega
  refine ⟨p1, p2, p3, p4, p5, p6, p7, p8, ?_, by rw [p10.1 54 (by decide)]; exact e10, by rw [p11.2 31 (by decide)]; exact e11, by rw [p11.2 34 (by decide)]; exact e12, by rw [p10.1 61 (by decide)]; exact e13, by rw [p10.1 31 (by decide)]; exact e14, e15.trans p10.sf, e16.trans p11.sf, dat, ?_, ?_, ?_, by omega, by omega, by omega, by omega, by omega, p17, by omega, by rw [p11.2 30 (by decide)]; exact e28, by rw [p10.1 54 (by decide)]; exact e29, e30, e31⟩
  · intro k x
    by_cases c : k < a
    · obtain ⟨q1, q2, q3⟩ := p9.1 k (Or.inl c)
      exact (e9 k c).congr q1 q2 q3 (by rw [p11.1 93 (by decide)])
    · exact p13 k (by omega) x
  · intro i hi
    rw [p10.1 59 (by decide), p11.1 102 (by decide)]
    exact e18 i hi
  · intro k x y
    by_cases c1 : k < a
    · exact e19 k x c1
    · exact Or.inl (px k (by omega) y)
  · intro k x
    by_cases c1 : k < a
    · exact e20 k c1
    · have q := (px k (by omega) x).q
      by_cases c2 : k = a
      · subst c2
        exact STT.inn q.2.2.2 oA.1 oA.2
      · have q' := (px (k - 1) (by omega) (by omega)).q
        exact STT.inn q.2.2.2 q'.1 q'.2.2.1
/-- an expression of an action, on both sides -/
theorem PXB.expr {d : Nat} (hT : TWF T) (hp : POS T) (h : PXB T sc0 sm0 sc sm a S P A Q N K C B w) (hs : s < S) (h94 : s + 1 = S ∧ sm 94 s = 3) (hr : -1 ≤ sm 84 46 ∧ sm 84 46 < (A : Int) ∧ (0 ≤ sm 84 46 → sm 106 (sm 84 46).toNat = 2)) (hb : CN sc → BND T sc sm s (sm 84 46) B np) (ht : T.tk (a - 1) ∈ opA) (hd : d ≤ 80) :
    (∃ (sc' sm' : Sg) (a' N' K' : Nat), f_45 100 (d : Int) sc = some (.inl sc') ∧ f_257 (s : Int) (d : Int) sm = some ((N' : Int) - 1, sm') ∧ TPOST T sc sm (s : Int) a N K sc' sm' a' N' K' ∧ PXB T sc0 sm0 sc' sm' a' S P A Q N' K' C B w) ∨
    (∃ (sc' mF : Sg) (a' : Nat), f_45 100 (d : Int) sc = some (.inl sc') ∧ EFc sc sc' ∧ CU T sc' a' ∧ (T.tk a' = 60 ∨ T.tk a' = 128 ∨ T.tk a' = 129) ∧ f_257 (s : Int) (d : Int) sm = some (0, mF) ∧ EFt sm mF ∧ 0 < mF 84 6) ∨
    (∃ (x : Nat) (sc' mF : Sg), f_45 100 (d : Int) sc = some (.inr (x, sc')) ∧ (x = 14 ∨ x = 15) ∧ BDc T sc sc' ∧ f_257 (s : Int) (d : Int) sm = some (0, mF) ∧ EFt sm mF ∧ 0 < mF 84 6) := by
  obtain ⟨e1, e2, e3, e4, e5, e6, e7, e8, e9, e10, e11, e12, e13, e14, e15, e16, e17, e18, e19, e20, e21, e22, e23, e24, e25, e26, e27, e28, e29, e30, e31⟩ := id h
  rcases top_sim (d := d) hT ⟨e1, e2, e3, e4, e5, e6, e7, e8, e25, e26, by omega, ht⟩ hd (s : Int) with ⟨sc', sm', a', N', K', h1, h2, h3⟩ | h1
  · rcases h3 with h3 | ⟨h3, mF, h4, h5, h6⟩
    · exact Or.inl ⟨sc', sm', a', N', K', h1, h3, h2, h.post hT hp hs h94 hr hb ht h2⟩
    · obtain ⟨p1, p2, p3, p4, p5, p6, p7, p8, p9, p10, -⟩ := h2
      exact Or.inr (Or.inl ⟨sc', mF, a', h1, p10, p3, h3, h4, h5, h6⟩)
  · exact Or.inr (Or.inr h1)
end PXE
/-! BODIES that are open, on both sides. -/
def BST (T : TT) (sc sm : Sg) (S A B D np : Nat) : Prop :=
  sc 70 9 = (D : Int) ∧ sm 84 43 = (D : Int) ∧ 1 ≤ D ∧ D ≤ 80 ∧ (∀ i, i < D → (sm 114 i = 0 ∨ sm 114 i = 1) ∧ (sc 71 i = 21 ↔ sm 114 i = 1) ∧ -1 ≤ sm 115 i ∧ sm 115 i < (A : Int) ∧ (0 ≤ sm 115 i → sm 106 (sm 115 i).toNat = 2)) ∧ (∀ i, i < D → 0 ≤ sc 72 i ∧ sc 72 i ≤ (B : Int) ∧ (1 ≤ i → (np : Int) ≤ sc 72 i)) ∧ (∀ i j, i ≤ j → j < D → sc 72 i ≤ sc 72 j) ∧ sm 84 46 = sm 115 (D - 1) ∧ sc 72 0 = 0 ∧ sm 114 0 = 0 ∧ np ≤ B ∧ (CN sc → BND T sc sm S (sm 84 46) B np ∧ ∀ i, 1 ≤ i → i < D → RST T sc sm np ((sc 72 i).toNat - np) (sm 115 (i - 1)))
section BSTS
variable {T : TT} {sc sm sc' sm' : Sg} {S A A' B D np : Nat}
theorem BST.rep (h : BST T sc sm S A B D np) : -1 ≤ sm 84 46 ∧ sm 84 46 < (A : Int) ∧ (0 ≤ sm 84 46 → sm 106 (sm 84 46).toNat = 2) := by
  obtain ⟨b1, b2, b3, b4, b5, b6, b7, b8, b9, b10, b11, b12⟩ := h
  obtain ⟨c1, c2, c3, c4, c5⟩ := b5 (D - 1) (by omega)
  rw [b8]
  exact ⟨c3, c4, c5⟩
/-- nothing of it is touched -/
theorem BST.cg (h : BST T sc sm S A B D np) (hA : A ≤ A') (r1 : sc' 70 9 = sc 70 9) (r2 : sc' 71 = sc 71) (r3 : sc' 72 = sc 72) (r4 : sc' 31 8 = sc 31 8) (r5 : sc' 38 = sc 38) (r6 : sc' 37 = sc 37) (m1 : sm' 84 43 = sm 84 43) (m2 : sm' 84 46 = sm 84 46) (m3 : sm' 114 = sm 114) (m4 : sm' 115 = sm 115) (m5 : sm' 98 S = sm 98 S) (m6 : sm' 99 S = sm 99 S) (m7 : sm' 104 = sm 104) (m8 : sm' 105 = sm 105) (m9 : ∀ i, i < A → sm' 107 i = sm 107 i ∧ sm' 113 i = sm 113 i) (m10 : ∀ i, i < A → sm' 106 i = sm 106 i) (cn : CN sc' → CN sc) : BST T sc' sm' S A' B D np := by
  obtain ⟨b1, b2, b3, b4, b5, b6, b7, b8, b9, b10, b11, b12⟩ := id h
  unfold BST
  rw [r1, r2, r3, m1, m2, m3, m4]
  refine ⟨b1, b2, b3, b4, fun i hi => ?_, b6, b7, b8, b9, b10, b11, fun y => ?_⟩
  · obtain ⟨c1, c2, c3, c4, c5⟩ := b5 i hi
    exact ⟨c1, c2, c3, by omega, fun z => by rw [m10 _ (by omega)]; exact c5 z⟩
  · obtain ⟨d1, d2⟩ := b12 (cn y)
    refine ⟨d1.rows r4 r5 r6 m5 m6 m7 m8 m9 h.rep.2.1, fun i x z => ?_⟩
    obtain ⟨c1, c2, c3, c4, c5⟩ := b5 (i - 1) (by omega)
    exact RST.cg m9 _ _ (fun i _ => ⟨by rw [r5], by rw [r6]⟩) c4 (d2 i x z)
/-- a body of an if or an else is opened -/
theorem BST.push (h : BST T sc sm S A B D np) {wd x : Int} (hA : A ≤ A') (hD : D < 80) (r1 : sc' 70 9 = ((D + 1 : Nat) : Int)) (r2 : ∀ i, i ≠ D → sc' 71 i = sc 71 i) (r2' : sc' 71 D = wd) (r3 : ∀ i, i ≠ D → sc' 72 i = sc 72 i) (r3' : sc' 72 D = (B : Int)) (r4 : sc' 31 8 = sc 31 8) (r5 : sc' 38 = sc 38) (r6 : sc' 37 = sc 37) (m1 : sm' 84 43 = ((D + 1 : Nat) : Int)) (m2 : sm' 84 46 = sm 84 46) (m3 : ∀ i, i ≠ D → sm' 114 i = sm 114 i) (m3' : sm' 114 D = x) (m4 : ∀ i, i ≠ D → sm' 115 i = sm 115 i) (m4' : sm' 115 D = sm 84 46) (m5 : sm' 98 S = sm 98 S) (m6 : sm' 99 S = sm 99 S) (m7 : sm' 104 = sm 104) (m8 : sm' 105 = sm 105) (m9 : ∀ i, i < A → sm' 107 i = sm 107 i ∧ sm' 113 i = sm 113 i) (m10 : ∀ i, i < A → sm' 106 i = sm 106 i) (hx : x = 0 ∨ x = 1) (hw : wd = 21 ↔ x = 1) (cn : CN sc' → CN sc) : BST T sc' sm' S A' B (D + 1) np := by
  obtain ⟨b1, b2, b3, b4, b5, b6, b7, b8, b9, b10, b11, b12⟩ := id h
  have hr := h.rep
  refine ⟨r1, m1, by omega, by omega, fun i hi => ?_, fun i hi => ?_, fun i j hi hj => ?_, ?_, by rw [r3 0 (by omega)]; exact b9, by rw [m3 0 (by omega)]; exact b10, b11, fun y => ?_⟩
  · by_cases e : i = D
    · subst e
      rw [m3', r2', m4']
      exact ⟨hx, hw, hr.1, by omega, fun z => by rw [m10 _ (by omega)]; exact hr.2.2 z⟩
    · rw [m3 i e, r2 i e, m4 i e]
      obtain ⟨c1, c2, c3, c4, c5⟩ := b5 i (by omega)
      exact ⟨c1, c2, c3, by omega, fun z => by rw [m10 _ (by omega)]; exact c5 z⟩
  · by_cases e : i = D
    · subst e
      rw [r3']
      exact ⟨by omega, by omega, fun _ => by omega⟩
    · rw [r3 i e]
      exact b6 i (by omega)
  · by_cases e : j = D
    · by_cases e2 : i = D
      · subst e; subst e2; exact Int.le_refl _
      · subst e
        rw [r3', r3 i e2]
        exact (b6 i (by omega)).2.1
    · rw [r3 i (by omega), r3 j e]
      exact b7 i j hi (by omega)
  · rw [m2, show D + 1 - 1 = D by omega, m4']
  · obtain ⟨d1, d2⟩ := b12 (cn y)
    rw [m2]
    refine ⟨d1.rows r4 r5 r6 m5 m6 m7 m8 m9 hr.2.1, fun i x z => ?_⟩
    by_cases e : i = D
    · subst e
      rw [r3', m4 (i - 1) (by omega), Int.toNat_natCast, ← b8]
      exact RST.cg m9 _ _ (fun i _ => ⟨by rw [r5], by rw [r6]⟩) hr.2.1 d1.2.2.2.2.2.2.2
    · obtain ⟨c1, c2, c3, c4, c5⟩ := b5 (i - 1) (by omega)
      rw [r3 i e, m4 (i - 1) (by omega)]
      exact RST.cg m9 _ _ (fun i _ => ⟨by rw [r5], by rw [r6]⟩) c4 (d2 i x (by omega))
/-- a body of a rep is opened -/
theorem BST.pushr (hT : TWF T) (h : BST T sc sm S A B D np) {x : Nat} (hx : x < T.z) (tx : T.tk x = 1) (hA8 : A < 8200) (hD : D < 80) (r1 : sc' 70 9 = ((D + 1 : Nat) : Int)) (r2 : ∀ i, i ≠ D → sc' 71 i = sc 71 i) (r2' : sc' 71 D = 23) (r3 : ∀ i, i ≠ D → sc' 72 i = sc 72 i) (r3' : sc' 72 D = (B : Int)) (r4 : sc' 31 8 = ((B + 1 : Nat) : Int)) (r5 : ∀ i, i ≠ B → sc' 38 i = sc 38 i) (r5' : sc' 38 B = (((T.vl x).toNat : Nat) : Int)) (r6 : ∀ i, i ≠ (T.vl x).toNat → sc' 37 i = sc 37 i) (r6' : sc' 37 (T.vl x).toNat = 8) (m1 : sm' 84 43 = ((D + 1 : Nat) : Int)) (m2 : sm' 84 46 = (A : Int)) (m3 : ∀ i, i ≠ D → sm' 114 i = sm 114 i) (m3' : sm' 114 D = 0) (m4 : ∀ i, i ≠ D → sm' 115 i = sm 115 i) (m4' : sm' 115 D = (A : Int)) (m5 : sm' 98 S = sm 98 S) (m6 : sm' 99 S = sm 99 S) (m7 : sm' 104 = sm 104) (m8 : sm' 105 = sm 105) (m9 : ∀ i, i < A → sm' 107 i = sm 107 i ∧ sm' 113 i = sm 113 i) (m10 : ∀ i, i < A → sm' 106 i = sm 106 i) (n6 : sm' 106 A = 2) (n7 : sm' 107 A = (x : Int)) (n13 : sm' 113 A = sm 84 46) (cn : CN sc' → CN sc ∧ sc 37 (T.vl x).toNat = 0) : BST T sc' sm' S (A + 1) (B + 1) (D + 1) np := by
  obtain ⟨b1, b2, b3, b4, b5, b6, b7, b8, b9, b10, b11, b12⟩ := id h
  have hr := h.rep
  have v1 := hT.2.2.2.2.1 x hx
  have v2 := hT.2.2.2.2.2.1 x hx tx
  refine ⟨r1, m1, by omega, by omega, fun i hi => ?_, fun i hi => ?_, fun i j hi hj => ?_, ?_, by rw [r3 0 (by omega)]; exact b9, by rw [m3 0 (by omega)]; exact b10, by omega, fun y => ?_⟩
  · by_cases e : i = D
    · subst e
      rw [m3', r2', m4', Int.toNat_natCast]
      exact ⟨Or.inl rfl, by decide, by omega, by omega, fun z => n6⟩
    · rw [m3 i e, r2 i e, m4 i e]
      obtain ⟨c1, c2, c3, c4, c5⟩ := b5 i (by omega)
      exact ⟨c1, c2, c3, by omega, fun z => by rw [m10 _ (by omega)]; exact c5 z⟩
  · by_cases e : i = D
    · subst e
      rw [r3']
      exact ⟨by omega, by omega, fun _ => by omega⟩
    · rw [r3 i e]
      obtain ⟨c1, c2, c3⟩ := b6 i (by omega)
      exact ⟨c1, by omega, c3⟩
  · by_cases e : j = D
    · by_cases e2 : i = D
      · subst e; subst e2; exact Int.le_refl _
      · subst e
        rw [r3', r3 i e2]
        exact (b6 i (by omega)).2.1
    · rw [r3 i (by omega), r3 j e]
      exact b7 i j hi (by omega)
  · rw [m2, show D + 1 - 1 = D by omega, m4']
  · obtain ⟨cn1, cn2⟩ := cn y
    obtain ⟨d1, d2⟩ := b12 cn1
    obtain ⟨f1, f2, f3, f4, f5, f6, f7, f8⟩ := id d1
    have nb : ∀ i, i < B → sc 38 i ≠ (((T.vl x).toNat : Nat) : Int) := fun i hi e => by
      obtain ⟨id, g1, g2, g3⟩ := f3 i hi
      have : id = (T.vl x).toNat := by omega
      rw [this] at g3
      exact g3 cn2
    have k38 : ∀ i, i < B → sc' 38 i = sc 38 i := fun i hi => r5 i (by omega)
    have k37 : ∀ i, i < B → sc' 37 (sc 38 i).toNat = sc 37 (sc 38 i).toNat := fun i hi => by
      obtain ⟨id, g1, g2, g3⟩ := f3 i hi
      exact r6 _ (by have := nb i hi; omega)
    rw [m2]
    refine ⟨?_, fun i x z => ?_⟩
    · unfold BND
      rw [m5, m6, m7, m8]
      refine ⟨r4, by omega, fun i hi => ?_, fun i j hi hj e => ?_, fun id hid z => ?_, fun i hi => ?_, fun p p1 p2 p3 => ?_, ?_⟩
      · by_cases e : i = B
        · subst e
          exact ⟨(T.vl x).toNat, r5', by omega, by rw [r6']; decide⟩
        · obtain ⟨id, g1, g2, g3⟩ := f3 i (by omega)
          have := k37 i (by omega)
          rw [g1, Int.toNat_natCast] at this
          exact ⟨id, by rw [k38 i (by omega)]; exact g1, g2, by rw [this]; exact g3⟩
      · by_cases e1 : i = B
        · by_cases e2 : j = B
          · omega
          · rw [e1, r5', k38 j (by omega)] at e
            exact absurd e.symm (nb j (by omega))
        · by_cases e2 : j = B
          · rw [e2, r5', k38 i (by omega)] at e
            exact absurd e (nb i (by omega))
          · rw [k38 i (by omega), k38 j (by omega)] at e
            exact f4 i j (by omega) (by omega) e
      · by_cases e : id = (T.vl x).toNat
        · exact ⟨B, by omega, by rw [r5', e]⟩
        · rw [r6 id e] at z
          obtain ⟨i, g1, g2⟩ := f5 id hid z
          exact ⟨i, by omega, by rw [k38 i g1]; exact g2⟩
      · obtain ⟨p, g1, g2, g3, g4, g5⟩ := f6 i hi
        exact ⟨p, g1, g2, g3, by rw [k38 i (by omega)]; exact g4, by rw [k38 i (by omega), k37 i (by omega)]; exact g5⟩
      · obtain ⟨i, g1, g2⟩ := f7 p p1 p2 p3
        exact ⟨i, g1, by rw [k38 i (by omega)]; exact g2⟩
      · rw [show B + 1 - np = (B - np) + 1 by omega]
        refine ⟨A, rfl, hA8, ?_, ?_, by rw [n13]; exact hr.2.1, ?_⟩
        · rw [n7, Int.toNat_natCast, show np + (B - np) = B by omega, r5']
          omega
        · rw [show np + (B - np) = B by omega, r5', Int.toNat_natCast]
          exact r6'
        · rw [n13]
          exact RST.cg m9 _ _ (fun i hi => ⟨k38 _ (by omega), k37 _ (by omega)⟩) hr.2.1 f8
    · by_cases e : i = D
      · subst e
        rw [r3', m4 (i - 1) (by omega), Int.toNat_natCast, ← b8]
        exact RST.cg m9 _ _ (fun i hi => ⟨k38 _ (by omega), k37 _ (by omega)⟩) hr.2.1 f8
      · obtain ⟨c1, c2, c3, c4, c5⟩ := b5 (i - 1) (by omega)
        obtain ⟨g1, g2, g3⟩ := b6 i (by omega)
        rw [r3 i e, m4 (i - 1) (by omega)]
        exact RST.cg m9 _ _ (fun j hj => ⟨k38 _ (by omega), k37 _ (by omega)⟩) c4 (d2 i x (by omega))
/-- a body is closed -/
theorem BST.pop (hT : TWF T) (h : BST T sc sm S A B D np) (hD : 2 ≤ D) {M : Nat} (hM : sc 72 (D - 1) = (M : Int)) (r1 : sc' 70 9 = ((D - 1 : Nat) : Int)) (r2 : sc' 71 = sc 71) (r3 : sc' 72 = sc 72) (r4 : sc' 31 8 = (M : Int)) (r5 : sc' 38 = sc 38) (r6 : ∀ i, M ≤ i → i < B → 0 ≤ sc 38 i → sc 38 i < 4112 → sc' 37 (sc 38 i).toNat = 0) (r7 : ∀ id : Nat, (∀ i, M ≤ i → i < B → sc 38 i ≠ (id : Int)) → sc' 37 id = sc 37 id) (m1 : sm' 84 43 = ((D - 1 : Nat) : Int)) (m2 : sm' 84 46 = sm 115 (D - 2)) (mr : ∀ c, c ≠ 84 → sm' c = sm c) (cn : CN sc' → CN sc) : BST T sc' sm' S A M (D - 1) np := by
  obtain ⟨b1, b2, b3, b4, b5, b6, b7, b8, b9, b10, b11, b12⟩ := id h
  have hMB := b6 (D - 1) (by omega)
  have r37 : ∀ (x : Nat), ∀ i, i < M → True := fun _ _ _ => trivial
  unfold BST
  rw [r2, r3, mr 114 (by decide), mr 115 (by decide), mr 106 (by decide)]
  refine ⟨r1, m1, by omega, by omega, fun i hi => b5 i (by omega), fun i hi => ?_, fun i j hi hj => b7 i j hi (by omega), by rw [m2, show D - 1 - 1 = D - 2 by omega], b9, b10, by omega, fun y => ?_⟩
  · obtain ⟨g1, g2, g3⟩ := b6 i (by omega)
    have := b7 i (D - 1) (by omega) (by omega)
    exact ⟨g1, by omega, g3⟩
  · obtain ⟨d1, d2⟩ := b12 (cn y)
    obtain ⟨f1, f2, f3, f4, f5, f6, f7, f8⟩ := id d1
    have hm := hT.2.2.2.2.2.2
    have k37 : ∀ i, i < M → sc' 37 (sc 38 i).toNat = sc 37 (sc 38 i).toNat := fun i hi => by
      obtain ⟨id, g1, g2, g3⟩ := f3 i (by omega)
      refine r7 _ (fun j h1 h2 e => ?_)
      rw [g1, Int.toNat_natCast] at e
      have := f4 i j (by omega) h2 (by rw [g1, e])
      omega
    have h7 : ∀ i, i < 8200 → sm' 107 i = sm 107 i ∧ sm' 113 i = sm 113 i := fun i _ => ⟨by rw [mr 107 (by decide)], by rw [mr 113 (by decide)]⟩
    have hr0 : RST T sc sm np (M - np) (sm 115 (D - 2)) := by
      have := d2 (D - 1) (by omega) (by omega)
      rw [hM, Int.toNat_natCast, show D - 1 - 1 = D - 2 by omega] at this
      exact this
    rw [m2]
    refine ⟨?_, fun i x z => ?_⟩
    · unfold BND
      rw [r5, mr 98 (by decide), mr 99 (by decide), mr 104 (by decide), mr 105 (by decide)]
      refine ⟨r4, by omega, fun i hi => ?_, fun i j hi hj e => f4 i j (by omega) (by omega) e, fun id hid z => ?_, fun i hi => ?_, f7, ?_⟩
      · obtain ⟨id, g1, g2, g3⟩ := f3 i (by omega)
        have := k37 i hi
        rw [g1, Int.toNat_natCast] at this
        exact ⟨id, g1, g2, by rw [this]; exact g3⟩
      · by_cases u : ∃ i, M ≤ i ∧ i < B ∧ sc 38 i = (id : Int)
        · obtain ⟨i, u1, u2, u3⟩ := u
          have hid' := hid.lt hT
          have := r6 i u1 u2 (by omega) (by omega)
          rw [u3, Int.toNat_natCast] at this
          exact absurd this z
        · rw [r7 id (fun i h1 h2 e => u ⟨i, h1, h2, e⟩)] at z
          obtain ⟨i, g1, g2⟩ := f5 id hid z
          refine ⟨i, ?_, g2⟩
          apply Decidable.byContradiction
          intro hn
          exact u ⟨i, by omega, g1, g2⟩
      · obtain ⟨p, g1, g2, g3, g4, g5⟩ := f6 i hi
        exact ⟨p, g1, g2, g3, g4, by rw [k37 i (by omega)]; exact g5⟩
      · exact RST.cg h7 _ _ (fun i hi => ⟨by rw [r5], k37 _ (by omega)⟩) (rst_r _ _ hr0) hr0
    · obtain ⟨g1, g2, g3⟩ := b6 i (by omega)
      have g4 := b7 i (D - 1) (by omega) (by omega)
      have := d2 i x (by omega)
      exact RST.cg h7 _ _ (fun j hj => ⟨by rw [r5], k37 _ (by omega)⟩) (rst_r _ _ this) this
end BSTS
/-! INSIDE an instruction: between two actions; inside one. -/
def REST (T : TT) (sc sm : Sg) (a S D : Nat) : Prop := sm 84 19 = (S : Int) ∧ 7 * (S : Int) + 6 ≤ T.fm a ∧ (∀ i, i < S → sc 60 i + sm 103 i = sc 60 (i + 1)) ∧ sm 103 S = sc 60 S ∧ sm 94 S = 3 ∧ dpt T a = (D : Int)
def PS1 (T : TT) (sc0 sm0 sc sm : Sg) (a S P A N K C B D np w : Nat) : Prop := PSB T sc0 sm0 sc sm a (S + 1) P A N K C B w ∧ BST T sc sm S A B D np ∧ REST T sc sm a S D ∧ (T.tk (a - 1) = 123 ∨ T.tk (a - 1) = 59 ∨ T.tk (a - 1) = 125)
def PIA (T : TT) (sc0 sm0 sc sm : Sg) (a S P A N K C B D np w : Nat) : Prop := PXB T sc0 sm0 sc sm a (S + 1) P A (A + 1) N K C B w ∧ BST T sc sm S A B D np ∧ REST T sc sm a S D ∧ sm 112 A = (S : Int) ∧ sm 113 A = sm 84 46
/-- an action's row is begun -/
def ACm (m : Sg) (S A : Nat) : Sg := ax_u2 (ax_u2 (ax_u2 (ax_u2 (ax_u2 (ax_u2 (ax_u2 (ax_u2 m 112 A (S : Int)) 113 A (m 84 46)) 109 A (-1)) 110 A (-1)) 107 A (-1)) 108 A (-1)) 84 34 ((A + 1 : Nat) : Int)) 102 S (ax_w32 (m 102 S + 1))
def ACc (s : Sg) (S : Nat) : Sg := ax_u2 s 59 S (ax_w32 (s 59 S + 1))
section PIS
variable {T : TT} {sc0 sm0 sc sm sc' sm' m : Sg} {a a' S P A N N' K K' C C' B B' D D' np w c i : Nat} {v : Int}
theorem REST.cg (hp : POS T) (h : REST T sc sm a S D) (r : sc' 60 = sc 60) (m1 : sm' 103 = sm 103) (m2 : sm' 94 = sm 94) (m3 : sm' 84 19 = sm 84 19) (ha : a ≤ a') (hz : a' ≤ T.z) (hd : dpt T a' = (D' : Int)) : REST T sc' sm' a' S D' := by
  obtain ⟨h1, h2, h3, h4, h5, h6⟩ := h
  have pz := hp.add (k := a) (a' - a) (by omega)
  rw [show a + (a' - a) = a' by omega] at pz
  unfold REST
  rw [r, m1, m2, m3]
  exact ⟨h1, by omega, h3, h4, h5, hd⟩
theorem STT.deep {k : Nat} (h : ¬ (17 ≤ T.tk k ∧ T.tk k ≤ 20)) (h1 : dpt T k ≠ 0) : STT T k := ⟨fun y => absurd y h, fun y => absurd y.2.2 h1⟩
theorem ACm_row (h : ¬ (c = 84 ∨ c = 102 ∨ 107 ≤ c ∧ c ≤ 110 ∨ c = 112 ∨ c = 113)) : ACm m S A c = m c := by
  unfold ACm
  rw [u2_row _ _ _ (by omega), u2_row _ _ _ (by omega), u2_row _ _ _ (by omega), u2_row _ _ _ (by omega), u2_row _ _ _ (by omega), u2_row _ _ _ (by omega), u2_row _ _ _ (by omega), u2_row _ _ _ (by omega)]
theorem ACm_84 (h : i ≠ 34) : ACm m S A 84 i = m 84 i := by
  unfold ACm
  rw [u2_row _ _ _ (by decide), u2_col _ _ _ h, u2_row _ _ _ (by decide), u2_row _ _ _ (by decide), u2_row _ _ _ (by decide), u2_row _ _ _ (by decide), u2_row _ _ _ (by decide), u2_row _ _ _ (by decide)]
theorem ACm_col (h : c ≠ 84) (h2 : c ≠ 102) (hi : i ≠ A) : ACm m S A c i = m c i := by
  unfold ACm
  have u : ∀ (s : Sg) (d : Nat) (v : Int), (ax_u2 s d A v) c i = s c i := fun s d v => by simp [ax_u2, hi]
  rw [u2_row _ _ _ h2, u2_row _ _ _ h, u, u, u, u, u, u]
theorem ACm_A : ACm m S A 84 34 = ((A + 1 : Nat) : Int) ∧ ACm m S A 112 A = (S : Int) ∧ ACm m S A 113 A = m 84 46 ∧ ACm m S A 109 A = -1 ∧ ACm m S A 110 A = -1 ∧ ACm m S A 107 A = -1 ∧ ACm m S A 108 A = -1 ∧ ACm m S A 102 S = ax_w32 (m 102 S + 1) ∧ (∀ i, i ≠ S → ACm m S A 102 i = m 102 i) := by
  unfold ACm
  refine ⟨?_, ?_, ?_, ?_, ?_, ?_, ?_, u2_same _ _ _ _, fun i hi => ?_⟩
  · rw [u2_row _ _ _ (by decide)]; exact u2_same _ _ _ _
  · simp [ax_u2]
  · simp [ax_u2]
  · simp [ax_u2]
  · simp [ax_u2]
  · simp [ax_u2]
  · simp [ax_u2]
  · rw [u2_col _ _ _ hi, u2_row _ _ _ (by decide), u2_row _ _ _ (by decide), u2_row _ _ _ (by decide), u2_row _ _ _ (by decide), u2_row _ _ _ (by decide), u2_row _ _ _ (by decide), u2_row _ _ _ (by decide)]
theorem ACm_sf : SFm m (ACm m S A) := ⟨fun c x => ACm_row (by omega), fun j x => ACm_84 (by omega)⟩
theorem ACc_row (h : c ≠ 59) : ACc sc S c = sc c := by unfold ACc; exact u2_row _ _ _ h
theorem ACc_sf : SFc sc (ACc sc S) := ⟨fun c x => ACc_row (by omega), fun j _ _ => by rw [ACc_row (by decide)], fun j _ => by rw [ACc_row (by decide)], fun j _ => by rw [ACc_row (by decide)], W8.same (ACc_row (by decide))⟩
theorem PS1.begin (h : PS1 T sc0 sm0 sc sm a S P A N K C B D np w) : PIA T sc0 sm0 (ACc sc S) (ACm sm S A) a S P A N K C B D np w := by
  obtain ⟨h1, h2, ⟨q1, q2, q3, q4, q5, q6⟩, h4⟩ := h
  obtain ⟨e1, e2, e3, e4, e5, e6, e7, e8, e9, e10, e11, e12, e13, e14, e15, e16, e17, e18, e19, e20, e21, e22, e23, e24, e25, e26, e27, e28, e29, e30, e31⟩ := id h1
  obtain ⟨s34, s112, s113, s109, s110, s107, s108, s102, s102'⟩ := ACm_A (m := sm) (S := S) (A := A)
  have cn : CN (ACc sc S) ↔ CN sc := by unfold CN; rw [ACc_row (by decide)]
  refine ⟨?_, ?_, ?_, s112, by rw [s113, ACm_84 (by decide)]⟩
  · refine h1.px.gen (fun c x => ACc_row (by omega)) (fun j _ _ => by rw [ACc_row (by decide)]) (fun j _ => by rw [ACc_row (by decide)]) (fun j _ => by rw [ACc_row (by decide)]) (by rw [ACc_row (by decide)]; exact e14) (by rw [ACc_row (by decide)]; exact e13) (fun c j x y _ => by rw [ACc_row (by omega)]) (fun i hi => ?_) ⟨by rw [ACc_row (by decide)]; exact e3.1, by rw [ACc_row (by decide)]; exact e3.2.1, e3.2.2⟩ (fun c x => ACm_row (by omega)) (fun c i x y z => ACm_col (by omega) (by omega) (by omega)) (fun j _ x _ _ => ACm_84 x) (by rw [ACm_84 (by decide)]; exact e4) s34 (Nat.le_refl _) (Nat.le_refl _) (fun _ y z => absurd z (by omega)) (fun _ y z => absurd z (by omega)) (fun _ _ y z => absurd z (by omega)) (fun _ y z => absurd z (by omega)) ⟨fun y => ⟨cn.mp y, fun _ y z => absurd z (by omega)⟩, fun y => cn.mpr y.1⟩ (Nat.le_refl _) (fun k x y => absurd y (by omega)) e21 e22 e24
    by_cases e : i = S
    · subst e
      rw [s102, ← e18 i hi]
      exact u2_same _ _ _ _
    · rw [s102' i e, ← e18 i hi]
      exact u2_col _ _ _ e
  · exact h2.cg (Nat.le_refl _) (by rw [ACc_row (by decide)]) (ACc_row (by decide)) (ACc_row (by decide)) (by rw [ACc_row (by decide)]) (ACc_row (by decide)) (ACc_row (by decide)) (ACm_84 (by decide)) (ACm_84 (by decide)) (ACm_row (by decide)) (ACm_row (by decide)) (by rw [ACm_row (by decide)]) (by rw [ACm_row (by decide)]) (ACm_row (by decide)) (ACm_row (by decide)) (fun i hi => ⟨ACm_col (by decide) (by decide) (by omega), ACm_col (by decide) (by decide) (by omega)⟩) (fun i hi => ACm_col (by decide) (by decide) (by omega)) cn.mp
  · unfold REST
    rw [ACc_row (by decide), ACm_row (show ¬ (103 = 84 ∨ 103 = 102 ∨ 107 ≤ 103 ∧ 103 ≤ 110 ∨ 103 = 112 ∨ 103 = 113) by decide), ACm_row (show ¬ (94 = 84 ∨ 94 = 102 ∨ 107 ≤ 94 ∧ 94 ≤ 110 ∨ 94 = 112 ∨ 94 = 113) by decide), ACm_84 (by decide)]
    exact ⟨q1, q2, q3, q4, q5, q6⟩
/-- a lexeme of an action is passed -/
theorem PIA.tok (hp : POS T) (h : PIA T sc0 sm0 sc sm a S P A N K C B D np w) (hz : a < T.z) (pq : PRQ (T.tk (a - 1)) (T.tk a)) (t1 : ¬ (17 ≤ T.tk a ∧ T.tk a ≤ 20)) (t2 : T.tk a ≠ 123) (t3 : T.tk a ≠ 125) : PIA T sc0 sm0 (cur T sc (a + 1)) (adv sm (a + 1)) (a + 1) S P A N K C B D np w := by
  obtain ⟨h1, h2, h3, h4, h5⟩ := h
  have hd := h3.2.2.2.2.2
  have d1 := h2.2.2.1
  refine ⟨h1.tok hp hz pq (STT.deep t1 (by omega)), ?_, ?_, by rw [adv_row (by decide)]; exact h4, by rw [adv_row (by decide), adv_col (by decide)]; exact h5⟩
  · refine h2.cg (Nat.le_refl _) (by rw [cur_row (by decide)]) (cur_row (by decide)) (cur_row (by decide)) (by rw [cur_row (by decide)]) (cur_row (by decide)) (cur_row (by decide)) (adv_col (by decide)) (adv_col (by decide)) (adv_row (by decide)) (adv_row (by decide)) (by rw [adv_row (by decide)]) (by rw [adv_row (by decide)]) (adv_row (by decide)) (adv_row (by decide)) (fun i _ => ⟨by rw [adv_row (by decide)], by rw [adv_row (by decide)]⟩) (fun i _ => by rw [adv_row (by decide)]) (fun y => ?_)
    unfold CN at *
    rw [cur_row (by decide)] at y
    exact y
  · exact h3.cg hp (cur_row (by decide)) (adv_row (by decide)) (adv_row (by decide)) (adv_col (by decide)) (by omega) (by omega) (by rw [dpt_n t2 t3]; exact hd)
theorem PIA.row (hp : POS T) (h : PIA T sc0 sm0 sc sm a S P A N K C B D np w) (hc : 106 ≤ c ∧ c ≤ 111) : PIA T sc0 sm0 sc (ax_u2 sm c A v) a S P A N K C B D np w := by
  obtain ⟨h1, h2, h3, h4, h5⟩ := h
  have hz := h1.2.2.1.2.2
  have u : ∀ b j, j < A → (ax_u2 sm c A v) b j = sm b j := fun b j x => by
    have : j ≠ A := by omega
    simp [ax_u2, this]
  have r : ∀ b, b < 106 ∨ 111 < b → (ax_u2 sm c A v) b = sm b := fun b x => u2_row _ _ _ (by omega)
  refine ⟨h1.row (by omega) (Nat.le_refl _), ?_, ?_, by rw [r 112 (by decide)]; exact h4, by rw [r 113 (by decide), r 84 (by decide)]; exact h5⟩
  · exact h2.cg (Nat.le_refl _) rfl rfl rfl rfl rfl rfl (by rw [r 84 (by decide)]) (by rw [r 84 (by decide)]) (r 114 (by decide)) (r 115 (by decide)) (by rw [r 98 (by decide)]) (by rw [r 99 (by decide)]) (r 104 (by decide)) (r 105 (by decide)) (fun i hi => ⟨u 107 i hi, u 113 i hi⟩) (fun i hi => u 106 i hi) (fun y => y)
  · exact h3.cg hp rfl (r 103 (by decide)) (r 94 (by decide)) (by rw [r 84 (by decide)]) (Nat.le_refl _) hz h3.2.2.2.2.2
theorem dpt_in : ∀ (j : Nat), (∀ k, a ≤ k → k < a + j → T.tk k ≠ 123 ∧ T.tk k ≠ 125) → dpt T (a + j) = dpt T a := by
  intro j
  induction j with
  | zero => intro _; rfl
  | succ j ih =>
    intro h
    have := h (a + j) (by omega) (by omega)
    rw [show a + (j + 1) = a + j + 1 by omega, dpt_n this.1 this.2]
    exact ih (fun k x y => h k x (by omega))
/-- an expression of an action has been read -/
theorem PIA.post (hT : TWF T) (hp : POS T) (h : PIA T sc0 sm0 sc sm a S P A N K C B D np w) (ht : T.tk (a - 1) ∈ opA) (tp : TPOST T sc sm (S : Int) a N K sc' sm' a' N' K') : PIA T sc0 sm0 sc' sm' a' S P A N' K' C B D np w := by
  obtain ⟨h1, h2, h3, h4, h5⟩ := h
  have hr := h2.rep
  have x1 := h1.post hT hp (s := S) (by omega) ⟨rfl, h3.2.2.2.2.1⟩ hr (fun cn => (h2.2.2.2.2.2.2.2.2.2.2.2 cn).1) ht tp
  obtain ⟨p1, p2, p3, p4, p5, p6, p7, p8, p9, p10, p11, p12, p13, p14, p15, p16, p17, p18, p19, p20, p21⟩ := tp
  have px := p14.2.2.2.2.2.2.2.2.1
  have hz := p3.2.2
  refine ⟨x1, ?_, ?_, by rw [p11.1 112 (by decide)]; exact h4, by rw [p11.1 113 (by decide), p11.2 46 (by decide)]; exact h5⟩
  · exact h2.cg (Nat.le_refl _) (by rw [p10.1 70 (by decide)]) (p10.1 71 (by decide)) (p10.1 72 (by decide)) (by rw [p10.1 31 (by decide)]) (p10.1 38 (by decide)) (p10.1 37 (by decide)) (p11.2 43 (by decide)) (p11.2 46 (by decide)) (p11.1 114 (by decide)) (p11.1 115 (by decide)) (by rw [p11.1 98 (by decide)]) (by rw [p11.1 99 (by decide)]) (p11.1 104 (by decide)) (p11.1 105 (by decide)) (fun i _ => ⟨by rw [p11.1 107 (by decide)], by rw [p11.1 113 (by decide)]⟩) (fun i _ => by rw [p11.1 106 (by decide)]) (fun y => (p12.mp y).1)
  · refine h3.cg hp (p10.1 60 (by decide)) (p11.1 103 (by decide)) (p11.1 94 (by decide)) (p11.2 19 (by decide)) (by omega) hz ?_
    have := dpt_in (T := T) (a := a) (a' - a) (fun k x y => by
      have q := (px k x (by omega)).q
      exact ⟨q.2.1, q.2.2.1⟩)
    rw [show a + (a' - a) = a' by omega] at this
    rw [this]
    exact h3.2.2.2.2.2
end PIS
/-! AN ACTION has been read. -/
/-- how an action comes out -/
def AOUT (T : TT) (sc0 sm0 sc sm : Sg) (a S P np w : Nat) (rc : Option (Sum Sg (Nat × Sg))) (rm : Option Sg) : Prop :=
  (∃ (sc' sm' : Sg) (a' A' N' K' C' B' D' : Nat), rc = some (.inl sc') ∧ rm = some sm' ∧ a < a' ∧ PS1 T sc0 sm0 sc' sm' a' S P A' N' K' C' B' D' np w) ∨ (∃ (x : Nat) (s' mF : Sg), rc = some (.inr (x, s')) ∧ (x = 14 ∨ x = 15) ∧ BSc T sc s' ∧ rm = some mF ∧ BSm sm mF)
/-- what an action's row says -/
def AKD (T : TT) (sm : Sg) (N A : Nat) : Prop :=
  (sm 106 A = 0 ∧ (∃ x : Nat, sm 107 A = (x : Int) ∧ x < T.z ∧ T.tk x = 1) ∧ (sm 109 A = -1 ∨ ∃ n : Nat, sm 109 A = (n : Int) ∧ n < N) ∧ (∃ n : Nat, sm 110 A = (n : Int) ∧ n < N)) ∨
   (sm 106 A = 1 ∧ (∃ n : Nat, sm 110 A = (n : Int) ∧ n < N) ∧ (∃ x : Nat, sm 111 A = (x : Int) ∧ x < T.z)) ∨
   (sm 106 A = 2 ∧ (∃ x : Nat, sm 107 A = (x : Int) ∧ x < T.z ∧ T.tk x = 1) ∧ (∃ x : Nat, sm 108 A = (x : Int) ∧ x < T.z ∧ T.tk x = 2)) ∨
   (sm 106 A = 3 ∧ (∃ x : Nat, sm 108 A = (x : Int) ∧ x < T.z ∧ T.tk x = 2))
noncomputable def at1 (x0 l2 l3 : Int) (q1 : Int × Sg) : Option Sg :=
  (if q1.1 = 0 then
    (gd (g_252 37 q1.2) (
    ((some (f_252 37 q1.2)).bind fun q2 =>
    (if q2.1 = 0 then
      (gd (g_252 38 q2.2) (
      ((some (f_252 38 q2.2)).bind fun q3 =>
      (if q3.1 = 0 then
        (gd (0 ≤ l2 ∧ l2 < 8200) (
        ((f_231 1 (ax_u2 q3.2 106 (l2.toNat) 0)).bind fun q4 =>
        (gd (0 ≤ l2 ∧ l2 < 8200) (
        (gd (g_252 15 (ax_u2 q4.2 107 (l2.toNat) q4.1)) (
        ((some (f_252 15 (ax_u2 q4.2 107 (l2.toNat) q4.1))).bind fun q5 =>
        (if q5.1 = 0 then
          j_259_257 x0 l2 l3 q5.2
        else
          ((f_257 x0 l3 q5.2).bind fun q9 =>
          (gd (0 ≤ l2 ∧ l2 < 8200) (
          ((f_231 16 (ax_u2 q9.2 109 (l2.toNat) q9.1)).bind fun q10 =>
          j_259_257 x0 l2 l3 q10.2)))))))))))))
      else
        (gd (0 ≤ l2 ∧ l2 < 8200) (
        ((f_231 2 (ax_u2 q3.2 106 (l2.toNat) 3)).bind fun q11 =>
        (gd (0 ≤ l2 ∧ l2 < 8200) (
        ((f_231 7 (ax_u2 q11.2 108 (l2.toNat) q11.1)).bind fun q12 =>
        some q12.2))))))))))
    else
      (gd (0 ≤ l2 ∧ l2 < 8200) (
      ((f_231 1 (ax_u2 q2.2 106 (l2.toNat) 2)).bind fun q13 =>
      (gd (0 ≤ l2 ∧ l2 < 8200) (
      ((f_231 2 (ax_u2 q13.2 107 (l2.toNat) q13.1)).bind fun q14 =>
      (gd (0 ≤ l2 ∧ l2 < 8200) (
      ((f_258 0 (ax_u2 (ax_u2 q14.2 108 (l2.toNat) q14.1) 84 46 l2)).bind fun q15 =>
      some q15)))))))))))))
  else
    (gd (0 ≤ l2 ∧ l2 < 8200) (
    (gd (0 ≤ l2 ∧ l2 < 8200) (
    ((f_257 x0 l3 (ax_u2 (ax_u2 q1.2 106 (l2.toNat) 1) 111 (l2.toNat) (q1.2 84 18))).bind fun q16 =>
    (gd (0 ≤ l2 ∧ l2 < 8200) (
    ((f_258 1 (ax_u2 q16.2 110 (l2.toNat) q16.1)).bind fun q17 =>
    some q17)))))))))
section ACT
variable {T : TT} {sc0 sm0 sc sm sc' sm' m : Sg} {a a' S P A N N' K K' C C' B B' D D' np w : Nat}
theorem m259 (hS : S < 4100) (h34 : m 84 34 = (A : Int)) (hA : A < 8200) (h43 : m 84 43 = (D : Int)) (hD : 1 ≤ D) (hD8 : D ≤ 80) : f_259 (S : Int) m = gd (g_252 35 (ACm m S A)) ((some (f_252 35 (ACm m S A))).bind fun q1 => at1 (S : Int) (A : Int) ((D - 1 : Nat) : Int) q1) := by
  have e : f_259 (S : Int) m = gd (0 ≤ m 84 34 ∧ m 84 34 < 8200) (gd (0 ≤ m 84 34 ∧ m 84 34 < 8200) (gd (0 ≤ m 84 34 ∧ m 84 34 < 8200) (gd (0 ≤ m 84 34 ∧ m 84 34 < 8200) (gd (0 ≤ m 84 34 ∧ m 84 34 < 8200) (gd (0 ≤ m 84 34 ∧ m 84 34 < 8200) (gd (0 ≤ (S : Int) ∧ (S : Int) < 4100) (gd (0 ≤ (S : Int) ∧ (S : Int) < 4100) (gd (g_252 35 (ax_u2 (ax_u2 (ax_u2 (ax_u2 (ax_u2 (ax_u2 (ax_u2 (ax_u2 m 112 ((m 84 34).toNat) (S : Int)) 113 ((m 84 34).toNat) (m 84 46)) 109 ((m 84 34).toNat) (-1)) 110 ((m 84 34).toNat) (-1)) 107 ((m 84 34).toNat) (-1)) 108 ((m 84 34).toNat) (-1)) 84 34 (ax_w32 ((m 84 34) + 1))) 102 (S : Int).toNat (ax_w32 ((m 102 (S : Int).toNat) + 1)))) ((some (f_252 35 (ax_u2 (ax_u2 (ax_u2 (ax_u2 (ax_u2 (ax_u2 (ax_u2 (ax_u2 m 112 ((m 84 34).toNat) (S : Int)) 113 ((m 84 34).toNat) (m 84 46)) 109 ((m 84 34).toNat) (-1)) 110 ((m 84 34).toNat) (-1)) 107 ((m 84 34).toNat) (-1)) 108 ((m 84 34).toNat) (-1)) 84 34 (ax_w32 ((m 84 34) + 1))) 102 (S : Int).toNat (ax_w32 ((m 102 (S : Int).toNat) + 1))))).bind fun q1 => at1 (S : Int) (m 84 34) (ax_w32 ((m 84 43) - 1)) q1))))))))) := by
    unfold f_259
    rfl
  rw [e, h34, h43, gd_pos (by omega), gd_pos (by omega), gd_pos (by omega), gd_pos (by omega), gd_pos (by omega), gd_pos (by omega), gd_pos (by omega), gd_pos (by omega), Int.toNat_natCast, Int.toNat_natCast, w32_nat (by omega), show ax_w32 ((D : Int) - 1) = ((D - 1 : Nat) : Int) from by rw [w32_id (by omega) (by omega)]; omega]
  rfl
/-- an action that opens no body is complete -/
theorem PIA.fin (hp : POS T) (h : PIA T sc0 sm0 sc sm a S P A N K C B D np w)
    (r1 : ∀ c, ¬ (c = 30 ∨ c = 39 ∨ 61 ≤ c ∧ c ≤ 65) → sc' c = sc c) (r2 : ∀ j, j ≠ 10 → j ≠ 11 → sc' 39 j = sc 39 j) (r3 : ∀ j, j < 4 ∨ 7 < j → sc' 30 j = sc 30 j) (r6 : sc' 61 4 = (C' : Int)) (r7 : ∀ c j, 62 ≤ c → c ≤ 65 → j < C → sc' c j = sc c j) (hu : CU T sc' a')
    (m1 : ∀ c, ¬ (c = 84 ∨ 106 ≤ c ∧ c ≤ 111) → sm' c = sm c) (m2 : ∀ c i, 106 ≤ c → c ≤ 111 → i < A → sm' c i = sm c i) (m3 : ∀ j, j ≠ 18 → sm' 84 j = sm 84 j) (m4 : sm' 84 18 = (a' : Int)) (hC : C ≤ C')
    (nC1 : ∀ c, C ≤ c → c < C' → CLc sc' sm' (S + 1) (A + 1) c) (nC2 : CN sc' → sm' 106 A = 0 → ∃ c, c < C' ∧ sc' 62 c = sm' 107 A ∧ sc' 63 c = sm' 109 A ∧ sc' 64 c = sm' 110 A ∧ sc' 65 c = 0) (nk : sm' 106 A ≠ 1) (ak : AKD T sm' N A) (nG : CN sc' ↔ CN sc ∧ GAC T sm' A) (ha : a ≤ a') (hA' : A < a') (pq : ∀ k, a ≤ k → k < a' → PRQ (T.tk (k - 1)) (T.tk k) ∧ ¬ (17 ≤ T.tk k ∧ T.tk k ≤ 20) ∧ T.tk k ≠ 123 ∧ T.tk k ≠ 125) (b1 : 4 * (C' : Int) ≤ T.fm a') (tl : T.tk (a' - 1) = 59) : PS1 T sc0 sm0 sc' sm' a' S P (A + 1) N K C' B D np w := by
  obtain ⟨h1, h2, h3, h4, h5⟩ := h
  obtain ⟨e1, e2, e3, e4, e5, e6, e7, e8, e9, e10, e11, e12, e13, e14, e15, e16, e17, e18, e19, e20, e21, e22, e23, e24, e25, e26, e27, e28, e29, e30, e31⟩ := id h1
  have hd := h3.2.2.2.2.2
  have d1 := h2.2.2.1
  have hr := h2.rep
  have hz := hu.2.2
  have dd : ∀ k, a ≤ k → k ≤ a' → dpt T k = dpt T a := fun k x y => by
    have := dpt_in (T := T) (a := a) (k - a) (fun j u v => (pq j u (by omega)).2.2)
    rw [show a + (k - a) = k by omega] at this
    exact this
  have r113 : sm' 113 A = sm 84 46 := by rw [m1 113 (by decide)]; exact h5
  have arl : ARL T sm' (S + 1) N A := by
    refine ⟨S, by rw [m1 112 (by decide)]; exact h4, by omega, by rw [m1 94 (by decide)]; exact h3.2.2.2.2.1, by rw [r113]; exact hr.1, by rw [r113]; exact hr.2.1, ?_, ak⟩
    rw [r113]
    intro y
    rw [m2 106 _ (by decide) (by decide) (by omega)]
    exact hr.2.2 y
  refine ⟨?_, ?_, ?_, Or.inr (Or.inl tl)⟩
  · refine PXB.ps (h1.gen (B' := B) (fun c x => r1 c (by omega)) r2 r3 (fun j _ => by rw [r1 31 (by decide)]) (by rw [r1 31 (by decide)]; exact e14) r6 r7 (fun i hi => by rw [r1 59 (by decide), m1 102 (by decide)]; exact e18 i hi) hu (fun c x => m1 c (by omega)) (fun c i x y z => ?_) (fun j x _ _ _ => m3 j x) m4 (by rw [m3 34 (by decide)]; exact e12) (by omega) hC (fun i x y => by rw [show i = A by omega]; exact arl) nC1 (fun cn i x y => by rw [show i = A by omega]; exact nC2 cn) (fun i x y z => by rw [show i = A by omega] at z; exact absurd z nk) ?_ ha (fun k x y => ?_) b1 (by omega) (by omega))
    · by_cases c1 : c ≤ 111
      · exact m2 c i x c1 z
      · rw [m1 c (by omega)]
    · rw [nG]
      exact ⟨fun y => ⟨y.1, fun i x z => by rw [show i = A by omega]; exact y.2⟩, fun y => ⟨y.1, y.2 A (Nat.le_refl _) (by omega)⟩⟩
    · have q := pq k x y
      exact ⟨q.1, STT.deep q.2.1 (by rw [dd k x (by omega)]; omega)⟩
  · exact h2.cg (by omega) (by rw [r1 70 (by decide)]) (r1 71 (by decide)) (r1 72 (by decide)) (by rw [r1 31 (by decide)]) (r1 38 (by decide)) (r1 37 (by decide)) (m3 43 (by decide)) (m3 46 (by decide)) (m1 114 (by decide)) (m1 115 (by decide)) (by rw [m1 98 (by decide)]) (by rw [m1 99 (by decide)]) (m1 104 (by decide)) (m1 105 (by decide)) (fun i hi => ⟨m2 107 i (by decide) (by decide) hi, by rw [m1 113 (by decide)]⟩) (fun i hi => m2 106 i (by decide) (by decide) hi) (fun y => (nG.mp y).1)
  · exact h3.cg hp (r1 60 (by decide)) (m1 103 (by decide)) (m1 94 (by decide)) (m3 19 (by decide)) ha hz (by rw [dd a' ha (Nat.le_refl _)]; exact hd)
end ACT
/-! AN ACTION: raise. -/
section RAI
variable {T : TT} {sc0 sm0 sc sm sc' sm' sc1 sm1 m : Sg} {a a1 a' S P A N N' K K' C C' B B' D D' np w : Nat}
theorem AOUT.mono {rc : Option (Sum Sg (Nat × Sg))} {rm : Option Sg} (h : AOUT T sc0 sm0 sc1 sm1 a1 S P np w rc rm) (hc : SFc sc sc1) (hm : SFm sm sm1) (ha : a ≤ a1) : AOUT T sc0 sm0 sc sm a S P np w rc rm := by
  rcases h with ⟨sc', sm', a', A', N', K', C', B', D', h1, h2, h3, h4⟩ | ⟨x, s', mF, h1, h2, h3, h4, h5⟩
  · exact Or.inl ⟨sc', sm', a', A', N', K', C', B', D', h1, h2, by omega, h4⟩
  · exact Or.inr ⟨x, s', mF, h1, h2, ⟨hc.trans h3.1, h3.2⟩, h4, hm.trans h5.1, h5.2⟩
/-- what all actions begin with -/
theorem PS1.sz (hT : TWF T) (hp : POS T) (h : PS1 T sc0 sm0 sc sm a S P A N K C B D np w) : S < 1171 ∧ A < 8200 ∧ a ≤ T.z ∧ T.z ≤ 8192 ∧ C < 2049 ∧ B < 4112 ∧ sc 39 11 = T.tk a ∧ (T.tk a ≠ 125 → f_144 sc = (if (ACc sc S) 39 11 = 1 then f_147 (ACc sc S) else if (ACc sc S) 39 11 = 21 then f_148 (ACc sc S) else if (ACc sc S) 39 11 = 23 then f_149 (ACc sc S) else if (ACc sc S) 39 11 = 24 then gd (g_94 (ACc sc S)) ((some (f_94 (ACc sc S))).bind fun q5 => (xb (f_93 0 255 q5) fun q6 => (xb (f_92 59 q6.2) fun q7 => some (.inl q7)))) else some (.inr (15, ACc sc S)))) ∧ f_259 (S : Int) sm = gd (g_252 35 (ACm sm S A)) ((some (f_252 35 (ACm sm S A))).bind fun q1 => at1 (S : Int) (A : Int) ((D - 1 : Nat) : Int) q1) := by
  obtain ⟨h1, h2, ⟨q1, q2, q3, q4, q5, q6⟩, h4⟩ := h
  obtain ⟨e1, e2, e3, e4, e5, e6, e7, e8, e9, e10, e11, e12, e13, e14, e15, e16, e17, e18, e19, e20, e21, e22, e23, e24, e25, e26, e27, e28, e29, e30, e31⟩ := id h1
  have hz := e3.2.2
  have h8 := hT.1
  have p8 := hp.2.2.2
  have pz := hp.add (k := a) (T.z - a) (by omega)
  rw [show a + (T.z - a) = T.z by omega] at pz
  have hS : S < 1171 := by omega
  have c8 := (c181 (S := S) e10 hS 0).2.2
  have eta : ∀ o : Option (Sum Sg (Nat × Sg)), (xb o fun q => some (.inl q)) = o := fun o => by
    cases o with
    | none => rfl
    | some o => cases o <;> rfl
  refine ⟨hS, by omega, hz, h8, by omega, by omega, e3.2.1, fun t => ?_, ?_⟩
  · unfold f_144
    rw [if_pos (by rw [e3.2.1]; exact t), gd_pos c8.1, c8.2, Option.bind_some, eta, eta, eta]
    rfl
  · exact m259 (by omega) e12 (by omega) h2.2.1 h2.2.2.1 h2.2.2.2.1
theorem act_raise (hT : TWF T) (hp : POS T) (h : PS1 T sc0 sm0 sc sm a S P A N K C B D np w) (t0 : T.tk a = 24) : AOUT T sc0 sm0 sc sm a S P np w (f_144 sc) (f_259 (S : Int) sm) := by
  obtain ⟨hS, hA, hz, h8, hC8, hB8, h39, r144, r259⟩ := h.sz hT hp
  have hb := h.begin
  have htl := h.2.2.2
  obtain ⟨sc1, hsc1⟩ : ∃ s : Sg, s = ACc sc S := ⟨_, rfl⟩
  obtain ⟨m1, hm1⟩ : ∃ s : Sg, s = ACm sm S A := ⟨_, rfl⟩
  have sf1 : SFc sc sc1 := by rw [hsc1]; exact ACc_sf
  have sg1 : SFm sm m1 := by rw [hm1]; exact ACm_sf
  rw [← hsc1, ← hm1] at hb
  rw [← hsc1] at r144
  rw [← hm1] at r259
  rw [r144 (by rw [t0]; decide), r259]
  obtain ⟨e1, e2, e3, e4, e5, -⟩ := id hb.1
  have z0 := hT.lt hz (by rw [t0]; decide)
  rw [if_neg (by rw [e3.2.1, t0]; decide), if_neg (by rw [e3.2.1, t0]; decide), if_neg (by rw [e3.2.1, t0]; decide), if_pos (by rw [e3.2.1, t0]), nxt hT e1 e3 (by rw [t0]; decide)]
  rw [eatN e2 hT e4 hz (k := 21) (by decide) (by decide) (by rw [t0]; decide)]
  have rm : at1 (S : Int) (A : Int) ((D - 1 : Nat) : Int) ((0 : Int), m1) = (f_231 2 (ax_u2 (adv m1 (a + 1)) 106 A 3)).bind fun q11 => gd (0 ≤ (A : Int) ∧ (A : Int) < 8200) ((f_231 7 (ax_u2 q11.2 108 A q11.1)).bind fun q12 => some q12.2) := by
    unfold at1
    rw [if_pos rfl, eatN e2 hT e4 hz (k := 23) (by decide) (by decide) (by rw [t0]; decide)]
    rw [if_pos rfl, eatY e2 hT e5 e4 hz (k := 24) (by decide) t0]
    rw [if_neg (by simp), gd_pos (by omega), Int.toNat_natCast]
  rw [rm]
  have h2 := (hb.tok hp z0 (Or.inr (Or.inr (Or.inr (Or.inr (Or.inr (Or.inl ⟨by rcases htl with x | x | x <;> simp [x], by simp [t0]⟩)))))) (by rw [t0]; decide) (by rw [t0]; decide) (by rw [t0]; decide)).row (c := 106) (v := 3) hp (by decide)
  obtain ⟨sc2, hsc2⟩ : ∃ s : Sg, s = cur T sc1 (a + 1) := ⟨_, rfl⟩
  obtain ⟨m2, hm2⟩ : ∃ s : Sg, s = ax_u2 (adv m1 (a + 1)) 106 A 3 := ⟨_, rfl⟩
  have sf2 : SFc sc sc2 := by rw [hsc2]; exact sf1.trans cur_sf
  have sg2 : SFm sm m2 := by rw [hm2]; exact (sg1.trans adv_sf).trans (ro_sf (by decide))
  rw [← hsc2, ← hm2] at h2
  rw [← hsc2, ← hm2]
  obtain ⟨i1, i2, i3, i4, i5, -⟩ := id h2.1
  by_cases t1 : T.tk (a + 1) = 2
  rotate_left
  · right
    refine ⟨15, sc2, ax_u2 (tel m2 2 (a + 1)) 108 A 0, by rw [c93n i3 t1, xb_err], Or.inr rfl, ⟨sf2, _, i3⟩, ?_, (sg2.trans tel_sf).trans (ro_sf (by decide)), by rw [u2_row _ _ _ (by decide), tel_at]; decide⟩
    rw [takeN i2 hT i5 i4 (by omega) (k := 2) (by decide) (by decide) t1, Option.bind_some, gd_pos (by omega)]
    show ((f_231 7 (ax_u2 (tel m2 2 (a + 1)) 108 A 0)).bind fun q12 => some q12.2) = _
    rw [takeF (by rw [u2_row _ _ _ (by decide), tel_at]; decide), Option.bind_some]
  have z1 := hT.lt (show a + 1 ≤ T.z by omega) (by rw [t1]; decide)
  obtain ⟨s3, k1, k2, k3, k4⟩ := c93 (lo := 0) (hi := 255) hT i1 i3 t1
  rw [k1, xb_inl, takeY i2 hT i5 i4 (by omega) (k := 2) (by decide) t1, Option.bind_some, gd_pos (by omega)]
  show AOUT T sc0 sm0 sc sm a S P np w (xb (f_92 59 (cur T s3 (a + 1 + 1))) fun q7 => some (.inl q7)) ((f_231 7 (ax_u2 (adv m2 (a + 1 + 1)) 108 A ((a + 1 : Nat) : Int))).bind fun q12 => some q12.2)
  have sf3 : SFc sc2 s3 := ⟨fun c x => k3 c (by omega), fun j _ _ => by rw [k3 39 (by decide)], k4, fun j _ => by rw [k3 31 (by decide)], W8.same (k3 31 (by decide))⟩
  have cu3 : CU T (cur T s3 (a + 1 + 1)) (a + 1 + 1) := cur_cu (by omega)
  have cc3 : CC T (cur T s3 (a + 1 + 1)) := (sf3.trans cur_sf).cc i1
  obtain ⟨m3, hm3⟩ : ∃ s : Sg, s = ax_u2 (adv m2 (a + 1 + 1)) 108 A ((a + 1 : Nat) : Int) := ⟨_, rfl⟩
  have sg3 : SFm m2 m3 := by rw [hm3]; exact adv_sf.trans (ro_sf (by decide))
  have f3 : m3 84 6 = 0 := by rw [hm3, u2_row _ _ _ (by decide), adv_col (by decide)]; exact i5
  have u3 : m3 84 18 = ((a + 1 + 1 : Nat) : Int) := by rw [hm3, u2_row _ _ _ (by decide)]; exact adv_at
  rw [← hm3]
  by_cases t2 : T.tk (a + 1 + 1) = 59
  rotate_left
  · right
    refine ⟨15, cur T s3 (a + 1 + 1), tel m3 2 (a + 1 + 1), by rw [c92n cu3 t2, xb_err], Or.inr rfl, ⟨(sf2.trans sf3).trans cur_sf, _, cu3⟩, ?_, (sg2.trans sg3).trans tel_sf, by rw [tel_at]; decide⟩
    rw [takeN (sg3.mc i2) hT f3 u3 (by omega) (k := 59) (by decide) (by decide) t2, Option.bind_some]
  have z2 := hT.lt (show a + 1 + 1 ≤ T.z by omega) (by rw [t2]; decide)
  left
  have v1 := hT.2.2.2.2.1 (a + 1) z1
  have e106 : (adv m3 (a + 1 + 1 + 1)) 106 A = 3 := by rw [adv_row (by decide), hm3, u2_row _ _ _ (by decide), adv_row (by decide), hm2]; exact u2_same _ _ _ _
  have e108 : (adv m3 (a + 1 + 1 + 1)) 108 A = ((a + 1 : Nat) : Int) := by rw [adv_row (by decide), hm3]; exact u2_same _ _ _ _
  obtain ⟨e1, e2, e3, e4, e5, e6, e7, e8, e9, e10, e11, e12, e13, e14, e15, e16, e17, e18, e19, e20, e21, e22, e23, e24, e25, e26, e27, e28, e29, e30, e31⟩ := id h2.1
  have pz := hp.add (k := a + 1) 2 (by omega)
  rw [show a + 1 + 2 = a + 1 + 1 + 1 by omega] at pz
  refine ⟨cur T (cur T s3 (a + 1 + 1)) (a + 1 + 1 + 1), adv m3 (a + 1 + 1 + 1), a + 1 + 1 + 1, A + 1, N, K, C, B, D, by rw [c92y hT cc3 cu3 t2 (by decide), xb_inl], by rw [takeY (sg3.mc i2) hT f3 u3 (by omega) (k := 59) (by decide) t2, Option.bind_some], by omega, ?_⟩
  refine h2.fin hp (fun c x => by rw [cur_row (by omega), cur_row (by omega), k3 c (by omega)]) (fun j x y => by rw [cur_col x y, cur_col x y, k3 39 (by decide)]) (fun j x => by rw [cur_row (by decide), cur_row (by decide)]; exact k4 j x) (by rw [cur_row (by decide), cur_row (by decide), k3 61 (by decide)]; exact e13) (fun c j x y _ => by rw [cur_row (by omega), cur_row (by omega), k3 c (by omega)]) (cur_cu (by omega)) (fun c x => by rw [adv_row (by omega), hm3, u2_row _ _ _ (by omega), adv_row (by omega)]) (fun c i x y z => ?_) (fun j x => by rw [adv_col x, hm3, u2_row _ _ _ (by decide), adv_col x]) adv_at (Nat.le_refl _) (fun c x y => absurd y (by omega)) (fun _ y => absurd y (by rw [e106]; decide)) (by rw [e106]; decide) ?_ ?_ (by omega) (by omega) (fun k x y => ?_) (by omega) (by rw [show a + 1 + 1 + 1 - 1 = a + 1 + 1 by omega]; exact t2)
  · rw [adv_row (by omega), hm3]
    have : i ≠ A := by omega
    rw [show (ax_u2 (adv m2 (a + 1 + 1)) 108 A ((a + 1 : Nat) : Int)) c i = (adv m2 (a + 1 + 1)) c i by simp [ax_u2, this], adv_row (by omega)]
  · exact Or.inr (Or.inr (Or.inr ⟨e106, a + 1, e108, z1, t1⟩))
  · have c1 : CN (cur T (cur T s3 (a + 1 + 1)) (a + 1 + 1 + 1)) ↔ CN s3 := by unfold CN; rw [cur_row (by decide), cur_row (by decide)]
    rw [c1, k2]
    unfold GAC
    rw [e106, e108, Int.toNat_natCast]
    exact ⟨fun y => ⟨y.1, fun z => absurd z (by decide), fun _ => y.2.2, fun z => absurd z (by decide)⟩, fun y => ⟨y.1, v1.1, y.2.2.1 rfl⟩⟩
  · by_cases c1 : k = a + 1
    · subst c1
      rw [show a + 1 - 1 = a by omega, t0, t1]
      exact ⟨Or.inr (Or.inr (Or.inl (by decide))), by decide, by decide, by decide⟩
    · rw [show k = a + 1 + 1 by omega, show a + 1 + 1 - 1 = a + 1 by omega, t1, t2]
      exact ⟨Or.inr (Or.inl ⟨by decide, Or.inl rfl⟩), by decide, by decide, by decide⟩
end RAI
