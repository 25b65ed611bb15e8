/-! AN INSTRUCTION's parts on both sides: named ones. -/
section ILN
variable {T : TT} {sc1 m1 sc m : Sg} {h S P j B a : Nat}
theorem ILS.nam (hT : TWF T) (hc : CC T sc1) (hM : MC T m1) (hf : m1 84 6 = 0) (h54 : sc1 54 6 = ((S + 1 : Nat) : Int)) (hS : S < 1171) (hP8 : P + j < 8200) (hj : j ≤ 8192) (hB8 : B < 4112) (m98 : m1 98 S = (P : Int)) (fr : ∀ k, h < k → k < T.z → FRS T sc1 m1 k) (H : ILS T sc1 m1 sc m h S P j B a) (hu : CU T sc a) (hm : m 84 18 = (a : Int)) (t0 : T.tk a = 1) (t1 : T.tk (a + 1) = 58) (t2 : T.tk (a + 2) = 2) :
    ∃ sc' m' : Sg, (∀ Fc l : Nat, l ≤ 8192 → j_153_7 (Fc + 1) (l : Int) sc = j_153_7 Fc ((l + 1 : Nat) : Int) sc') ∧ CU T sc' (a + 3) ∧ (∀ F, j_233_221 (F + 1) (S : Int) m = j_233_221 F (S : Int) m') ∧ m' 84 18 = ((a + 3 : Nat) : Int) ∧ ILS T sc1 m1 sc' m' h S P (j + 1) (B + 1) (a + 3) := by
  obtain ⟨r1, r2, r3, r4, r5, r6, r7, r8, k1, k2, k3, k4, k5, k6, g1, g2, ⟨f, f0, fj, ff⟩, g4, g5, g6⟩ := H
  have hz := hT.lt hu.2.2 (by rw [t0]; decide)
  have hz1 := hT.lt (show a + 1 ≤ T.z by omega) (by rw [t1]; decide)
  have hz2 := hT.lt (show a + 2 ≤ T.z by omega) (by rw [t2]; decide)
  have hv := hT.2.2.2.2.1 a hz
  have hvm := hT.2.2.2.2.2.1 a hz t0
  have sf : SFc sc1 sc := ⟨fun c x => r1 c (by omega), r2, r3, r4, W8.of r6 (by have := hu.2.2; have := hT.1; omega)⟩
  have sfm : SFm m1 m := ⟨fun c x => k1 c (by omega), fun k x => k2 k (by omega) (by omega)⟩
  have s54 : sc 54 6 = ((S + 1 : Nat) : Int) := by rw [r1 54 (by decide)]; exact h54
  obtain ⟨s', z1, z2, y1, y2, y3, y4, y5, y6, z5, z6, z7, z8, z9, z10⟩ := c159 hT (sf.cc hc) hu t0 t1 t2 s54 hS r6 hB8
  obtain ⟨⟨e1, e2⟩, _, _⟩ := c181 (s := s') (S := S) (by rw [z7 54 (by decide)]; exact s54) hS 1
  rw [z7 58 (by decide), r7, w32_nat (by omega)] at e2
  obtain ⟨sc', hsc'⟩ : ∃ sc' : Sg, sc' = ax_u2 s' 58 S ((j + 1 : Nat) : Int) := ⟨_, rfl⟩
  have q1 : ∀ c, c ≠ 58 → sc' c = s' c := fun c x => by rw [hsc']; exact u2_row _ _ _ x
  obtain ⟨⟨d1, d2, d3, d4, d5, d6, d7, d8, d9⟩, d10⟩ := mpfN (m := m) (S := S) (P := P + j) (a := a)
  have x98 : m 98 S = (P : Int) := by rw [k1 98 (by decide)]; exact m98
  have vi : (((T.vl a).toNat : Nat) : Int) = T.vl a := by omega
  refine ⟨sc', PNm m S (P + j) a, ?_, ?_, ?_, d3, ?_⟩
  · intro Fc l hl
    rw [j_153_7, if_neg (by omega), if_pos (by rw [hu.2.1, t0]; decide), if_neg (by rw [hu.2.1]; simp [t0]), z1, xb_inl]
    unfold j_153_47
    rw [gd_pos e1, e2, Option.bind_some, ← hsc', w32_nat (by omega)]
  · unfold CU at *
    rw [q1 39 (by decide)]
    exact z2
  · intro F
    exact mprN hT (sfm.mc hM) (by rw [k2 6 (by decide) (by decide)]; exact hf) hm hu.2.2 t0 t1 t2 (by omega) k5 hP8
  · have ecn : CN sc' ↔ CN s' := by unfold CN; rw [q1 30 (by decide)]
    have dup : CN sc → (sc 37 (T.vl a).toNat = 0 ↔ ∀ q, P ≤ q → q < P + j → 0 ≤ m 104 q → T.vl a ≠ T.vl (m 104 q).toNat) := by
      intro cn
      obtain ⟨b1, b2, b3, b4, b5, b6, b7, b8⟩ := g5 cn
      rw [x98, k6, Int.toNat_natCast, Int.toNat_natCast] at b6 b7
      constructor
      · intro u q u1 u2 u3 u4
        obtain ⟨i, i1, i2⟩ := b7 q u1 u2 u3
        obtain ⟨id, w1, w2, w3⟩ := b3 i i1
        have : id = (T.vl a).toNat := by omega
        rw [this] at w3
        exact w3 u
      · intro u
        apply Decidable.byContradiction
        intro v
        obtain ⟨i, i1, i2⟩ := b5 (T.vl a).toNat (IDN.at hT (x := a) (by omega) t0) v
        obtain ⟨p, u1, u2, u3, u4, u5⟩ := b6 i i1
        exact u p u1 u2 u3 (by rw [u4, i2]; omega)
    refine ⟨?_, ?_, ?_, ?_, ?_, ?_, ?_, ?_, ?_, ?_, ?_, ?_, ?_, ?_, ?_, ?_, ?_, ?_, ?_, by omega⟩
    · intro c x; rw [q1 c (by omega), z7 c (by omega), r1 c (by omega)]
    · intro k x y; rw [q1 39 (by decide), z8 k x y, r2 k x y]
    · intro k x; rw [q1 30 (by decide), z9 k x, r3 k x]
    · intro k x; rw [q1 31 (by decide), y6 k x, r4 k x]
    · intro c i x y z
      by_cases e : c = 57
      · subst e; rw [q1 57 (by decide), z6 i z, r5 57 i x y z]
      · rw [show c = 58 by omega, hsc', u2_col _ _ _ z, z7 58 (by decide), r5 58 i (by decide) (by decide) z]
    · rw [q1 31 (by decide)]; exact y1
    · rw [hsc']; exact u2_same _ _ _ _
    · rw [q1 57 (by decide), z5, bsm_succ (m := m) d9, d7, d8, if_neg (by omega), Int.toNat_natCast, r8]
    · intro c x; rw [d1 c x, k1 c x]
    · intro k x y; rw [d2 k x y, k2 k x y]
    · intro i x; rw [d6 i x, k3 i x]
    · intro c p x y z
      by_cases e : c = 104
      · subst e; rw [(d9 p (by omega)).1]; exact k4 104 p x y z
      · rw [show c = 105 by omega, (d9 p (by omega)).2]; exact k4 105 p (by decide) (by decide) z
    · rw [d4]; rfl
    · rw [d5, k6, w32_nat (by omega)]
    · intro k x
      rw [q1 45 (by decide), z7 45 (by decide), d10]
      exact g1 k (by omega)
    · intro k x y
      by_cases e : k < a
      · exact (g2 k x e).congr (by rw [q1 45 (by decide), z7 45 (by decide)]) (by rw [d1 91 (by decide)]) (by rw [d1 92 (by decide)]) (by rw [d10])
      · have gk := g1 k (by omega)
        exact (fr k x (by omega)).lf.congr (by rw [q1 45 (by decide), z7 45 (by decide)]; exact gk.1) (by rw [d1 91 (by decide), k1 91 (by decide)]) (by rw [d1 92 (by decide), k1 92 (by decide)]) (by rw [d10]; exact gk.2)
    · refine ⟨fun i => if i = j + 1 then a + 3 else f i, (if_neg (by omega)).trans f0, if_pos rfl, fun i hi => ?_⟩
      show (T.tk (if i = j + 1 then a + 3 else f i) = 2 ∧ _ ∧ _ = ((if i = j + 1 then a + 3 else f i : Nat) : Int) ∧ (if i + 1 = j + 1 then a + 3 else f (i + 1)) = (if i = j + 1 then a + 3 else f i) + 1) ∨ (T.tk (if i = j + 1 then a + 3 else f i) = 1 ∧ T.tk ((if i = j + 1 then a + 3 else f i) + 1) = 58 ∧ T.tk ((if i = j + 1 then a + 3 else f i) + 2) = 2 ∧ _ = ((if i = j + 1 then a + 3 else f i : Nat) : Int) ∧ _ = (((if i = j + 1 then a + 3 else f i) + 2 : Nat) : Int) ∧ (if i + 1 = j + 1 then a + 3 else f (i + 1)) = (if i = j + 1 then a + 3 else f i) + 3)
      rw [if_neg (show ¬ i = j + 1 by omega)]
      by_cases e : i = j
      · subst e
        rw [fj, if_pos rfl]
        exact Or.inr ⟨t0, t1, t2, d7, d8, rfl⟩
      · rw [if_neg (show ¬ i + 1 = j + 1 by omega), (d9 (P + i) (by omega)).1, (d9 (P + i) (by omega)).2]
        exact ff i (by omega)
    · rw [ecn, z10, gpt_succ (m := m) d9, d7, d8, Int.toNat_natCast, Int.toNat_natCast]
      constructor
      · rintro ⟨u1, u2, u3⟩
        exact ⟨(g4.mp u1).1, (g4.mp u1).2, fun _ => u2, fun y => absurd y (by omega), fun q q1 q2 _ q3 => (dup u1).mp u3 q q1 q2 q3⟩
      · rintro ⟨u1, u2, u3, _, u4⟩
        have cn := g4.mpr ⟨u1, u2⟩
        exact ⟨cn, u3 (by omega), (dup cn).mpr (fun q q1 q2 q3 => u4 q q1 q2 (by omega) q3)⟩
    · intro y
      obtain ⟨cn, v1, v2⟩ := z10.mp (ecn.mp y)
      obtain ⟨b1, b2, b3, b4, b5, b6, b7, b8⟩ := g5 cn
      rw [x98, k6, Int.toNat_natCast, Int.toNat_natCast] at b6 b7
      have n38 : ∀ i, i < B → sc 38 i ≠ T.vl a := fun i hi e => by
        obtain ⟨id, w1, w2, w3⟩ := b3 i hi
        have : id = (T.vl a).toNat := by omega
        rw [this] at w3
        exact w3 v2
      have o38 : ∀ i, i < B → s' 38 i = sc 38 i := fun i hi => y4 i (by omega)
      have o37 : ∀ i, i < B → s' 37 (sc 38 i).toNat = sc 37 (sc 38 i).toNat := fun i hi => y5 _ (fun e => by
        obtain ⟨id, w1, w2, w3⟩ := b3 i hi
        exact n38 i hi (by omega))
      have n0 : s' 37 (T.vl a).toNat ≠ 0 := by rw [y3]; split <;> omega
      unfold BND
      rw [q1 31 (by decide), q1 37 (by decide), q1 38 (by decide), d1 98 (by decide), x98, d5, k6, w32_nat (by omega), Int.toNat_natCast, Int.toNat_natCast, Nat.sub_self]
      refine ⟨y1, Nat.le_refl _, fun i hi => ?_, fun i i' hi hi' e => ?_, fun id hid u => ?_, fun i hi => ?_, fun p p1 p2 p3 => ?_, rfl⟩
      · by_cases e : i = B
        · subst e
          exact ⟨(T.vl a).toNat, by rw [y2]; omega, by omega, n0⟩
        · obtain ⟨id, w1, w2, w3⟩ := b3 i (by omega)
          refine ⟨id, by rw [o38 i (by omega)]; exact w1, w2, ?_⟩
          have := o37 i (by omega)
          rw [w1, Int.toNat_natCast] at this
          rw [this]; exact w3
      · by_cases e1 : i = B
        · by_cases e2 : i' = B
          · omega
          · rw [e1, y2, o38 i' (by omega)] at e
            exact absurd e.symm (n38 i' (by omega))
        · by_cases e2 : i' = B
          · rw [e2, y2, o38 i (by omega)] at e
            exact absurd e (n38 i (by omega))
          · rw [o38 i (by omega), o38 i' (by omega)] at e
            exact b4 i i' (by omega) (by omega) e
      · by_cases e : id = (T.vl a).toNat
        · exact ⟨B, by omega, by rw [y2]; omega⟩
        · rw [y5 id e] at u
          obtain ⟨i, i1, i2⟩ := b5 id hid u
          exact ⟨i, by omega, by rw [o38 i i1]; exact i2⟩
      · by_cases e : i = B
        · subst e
          exact ⟨P + j, by omega, by omega, by rw [d7]; omega, by rw [d7, Int.toNat_natCast, y2], by rw [y2, y3, d8, Int.toNat_natCast]⟩
        · obtain ⟨p, u1, u2, u3, u4, u5⟩ := b6 i (by omega)
          have hp := d9 p (by omega)
          exact ⟨p, u1, by omega, by rw [hp.1]; exact u3, by rw [hp.1, o38 i (by omega)]; exact u4, by rw [hp.2, o38 i (by omega), o37 i (by omega)]; exact u5⟩
      · by_cases e : p = P + j
        · exact ⟨B, by omega, by rw [e, d7, Int.toNat_natCast, y2]⟩
        · have hp := d9 p e
          rw [hp.1] at p3 ⊢
          obtain ⟨i, i1, i2⟩ := b7 p p1 (by omega) p3
          exact ⟨i, by omega, by rw [o38 i i1]; exact i2⟩
end ILN
