/-! AN INSTRUCTION's parts on both sides: bits. -/
section ILB
variable {T : TT} {sc1 m1 sc m : Sg} {h S P j B a : Nat}
theorem ILS.bit (hT : TWF T) (hx : CX T sc1) (hc : CC T sc1) (hM : MC T m1) (hf : m1 84 6 = 0) (h54 : sc1 54 6 = ((S + 1 : Nat) : Int)) (hS : S < 1171) (hP8 : P + j < 8200) (hj : j ≤ 8192) (m98 : m1 98 S = (P : Int)) (fr : ∀ k, h < k → k < T.z → FRS T sc1 m1 k) (H : ILS T sc1 m1 sc m h S P j B a) (hu : CU T sc a) (hm : m 84 18 = (a : Int)) (t : T.tk a = 2) :
    ∃ sc' m' : Sg, (∀ Fc l : Nat, l ≤ 8192 → j_153_7 (Fc + 1) (l : Int) sc = j_153_7 Fc ((l + 1 : Nat) : Int) sc') ∧ CU T sc' (a + 1) ∧ (∀ F, j_233_221 (F + 1) (S : Int) m = j_233_221 F (S : Int) m') ∧ m' 84 18 = ((a + 1 : Nat) : Int) ∧ ILS T sc1 m1 sc' m' h S P (j + 1) B (a + 1) := by
  obtain ⟨r1, r2, r3, r4, r5, r6, r7, r8, k1, k2, k3, k4, k5, k6, g1, g2, ⟨f, f0, fj, ff⟩, g4, g5, g6⟩ := H
  have hz := hT.lt hu.2.2 (by rw [t]; decide)
  have sf : SFc sc1 sc := ⟨fun c x => r1 c (by omega), r2, r3, r4, W8.of r6 (by have := hu.2.2; have := hT.1; omega)⟩
  have sfm : SFm m1 m := ⟨fun c x => k1 c (by omega), fun k x => k2 k (by omega) (by omega)⟩
  have s54 : sc 54 6 = ((S + 1 : Nat) : Int) := by rw [r1 54 (by decide)]; exact h54
  obtain ⟨s', z1, z2, z3, z4, z5, z6, z7, z8, z9, z10⟩ := c158 hT (sf.cc hc) (sf.cx hx) hu t s54 hS
  obtain ⟨⟨e1, e2⟩, _, _⟩ := c181 (s := s') (S := S) (by rw [z7 54 (by decide)]; exact s54) hS 1
  rw [z7 58 (by decide), r7, w32_nat (by omega)] at e2
  obtain ⟨sc', hsc'⟩ : ∃ sc' : Sg, sc' = ax_u2 s' 58 S ((j + 1 : Nat) : Int) := ⟨_, rfl⟩
  have q1 : ∀ c, c ≠ 58 → sc' c = s' c := fun c x => by rw [hsc']; exact u2_row _ _ _ x
  obtain ⟨⟨d1, d2, d3, d4, d5, d6, d7, d8, d9⟩, d10, d11⟩ := mpfB (m := m) (S := S) (P := P + j) (a := a)
  refine ⟨sc', PBm m S (P + j) a, ?_, ?_, ?_, d3, ?_⟩
  · intro Fc l hl
    rw [j_153_7, if_neg (by omega), if_neg (by rw [hu.2.1]; simp [t]), z1, Option.bind_some]
    unfold j_153_47
    rw [gd_pos e1, e2, Option.bind_some, ← hsc', w32_nat (by omega)]
  · unfold CU at *
    rw [q1 39 (by decide)]
    exact z2
  · intro F
    exact mprB hT (sfm.mc hM) (by rw [k2 6 (by decide) (by decide)]; exact hf) hm hu.2.2 t (by omega) k5 hP8
  · have x98 : m 98 S = (P : Int) := by rw [k1 98 (by decide)]; exact m98
    have bin : BIN sc a ↔ BIN sc1 a := BIN.congr (fun c x => r1 c (by omega))
    refine ⟨?_, ?_, ?_, ?_, ?_, ?_, ?_, ?_, ?_, ?_, ?_, ?_, ?_, ?_, ?_, ?_, ?_, ?_, ?_, by omega⟩
    · intro c x; rw [q1 c (by omega), z7 c (by omega), r1 c (by omega)]
    · intro k x y; rw [q1 39 (by decide), z8 k x y, r2 k x y]
    · intro k x; rw [q1 30 (by decide), z9 k x, r3 k x]
    · intro k x; rw [q1 31 (by decide), z7 31 (by decide), r4 k x]
    · intro c i x y z
      by_cases e : c = 57
      · subst e; rw [q1 57 (by decide), z6 i z, r5 57 i x y z]
      · rw [show c = 58 by omega, hsc', u2_col _ _ _ z, z7 58 (by decide), r5 58 i (by decide) (by decide) z]
    · rw [q1 31 (by decide), z7 31 (by decide)]; exact r6
    · rw [hsc']; exact u2_same _ _ _ _
    · rw [q1 57 (by decide), z5, bsm_succ (m := m) d9, d7, d8, if_pos (by decide), Int.toNat_natCast, r8, r1 43 (by decide)]
    · intro c x; rw [d1 c x, k1 c x]
    · intro k x y; rw [d2 k x y, k2 k x y]
    · intro i x; rw [d6 i x, k3 i x]
    · intro c p x y z
      by_cases e : c = 104
      · subst e; rw [(d9 p (by omega)).1]; exact k4 104 p x y z
      · rw [show c = 105 by omega, (d9 p (by omega)).2]; exact k4 105 p (by decide) (by decide) z
    · rw [d4]; rfl
    · rw [d5, k6, w32_nat (by omega)]
    · intro k x
      rw [q1 45 (by decide), z4 k (by omega), d11 k (by omega)]
      exact g1 k (by omega)
    · intro k x y
      by_cases e : k = a
      · subst e
        obtain ⟨a1, a2, a3, a4⟩ := fr k x hz
        unfold LF
        rw [q1 45 (by decide), z3, d1 91 (by decide), d1 92 (by decide), d10, k1 91 (by decide), k1 92 (by decide), a2, a3, t]
        exact ⟨rfl, rfl, rfl, fun y => absurd y (by decide), fun y => absurd y (by decide)⟩
      · exact (g2 k x (by omega)).congr (by rw [q1 45 (by decide)]; exact z4 k e) (by rw [d1 91 (by decide)]) (by rw [d1 92 (by decide)]) (d11 k e)
    · refine ⟨fun i => if i = j + 1 then a + 1 else f i, (if_neg (by omega)).trans f0, if_pos rfl, fun i hi => ?_⟩
      show (T.tk (if i = j + 1 then a + 1 else f i) = 2 ∧ _ ∧ _ = ((if i = j + 1 then a + 1 else f i : Nat) : Int) ∧ (if i + 1 = j + 1 then a + 1 else f (i + 1)) = (if i = j + 1 then a + 1 else f i) + 1) ∨ (T.tk (if i = j + 1 then a + 1 else f i) = 1 ∧ T.tk ((if i = j + 1 then a + 1 else f i) + 1) = 58 ∧ T.tk ((if i = j + 1 then a + 1 else f i) + 2) = 2 ∧ _ = ((if i = j + 1 then a + 1 else f i : Nat) : Int) ∧ _ = (((if i = j + 1 then a + 1 else f i) + 2 : Nat) : Int) ∧ (if i + 1 = j + 1 then a + 1 else f (i + 1)) = (if i = j + 1 then a + 1 else f i) + 3)
      rw [if_neg (show ¬ i = j + 1 by omega)]
      by_cases e : i = j
      · subst e
        rw [fj, if_pos rfl]
        exact Or.inl ⟨t, d7, d8, rfl⟩
      · rw [if_neg (show ¬ i + 1 = j + 1 by omega), (d9 (P + i) (by omega)).1, (d9 (P + i) (by omega)).2]
        exact ff i (by omega)
    · have e : CN sc' ↔ CN s' := by unfold CN; rw [q1 30 (by decide)]
      rw [e, z10, g4, gpt_succ (m := m) d9, d7, d8, Int.toNat_natCast, bin]
      exact ⟨fun ⟨⟨u1, u2⟩, u3⟩ => ⟨u1, u2, fun y => absurd y (by decide), fun _ => u3, fun q _ _ y => absurd y (by decide)⟩, fun ⟨u1, u2, _, u3, _⟩ => ⟨⟨u1, u2⟩, u3 (by decide)⟩⟩
    · intro y
      have y1 : CN sc := by
        unfold CN at *
        rw [q1 30 (by decide)] at y
        exact (z10.mp y).1
      obtain ⟨b1, b2, b3, b4, b5, b6, b7, b8⟩ := g5 y1
      rw [x98, k6, Int.toNat_natCast, Int.toNat_natCast] at b6 b7
      have c37 : sc' 37 = sc 37 := by rw [q1 37 (by decide), z7 37 (by decide)]
      have c38 : sc' 38 = sc 38 := by rw [q1 38 (by decide), z7 38 (by decide)]
      unfold BND
      rw [q1 31 (by decide), z7 31 (by decide), c37, c38, d1 98 (by decide), x98, d5, k6, w32_nat (by omega), Int.toNat_natCast, Int.toNat_natCast, Nat.sub_self]
      refine ⟨b1, b2, b3, b4, b5, fun i hi => ?_, fun p p1 p2 p3 => ?_, rfl⟩
      · obtain ⟨p, u1, u2, u3, u4, u5⟩ := b6 i hi
        have hp := d9 p (by omega)
        exact ⟨p, u1, by omega, by rw [hp.1]; exact u3, by rw [hp.1]; exact u4, by rw [hp.2]; exact u5⟩
      · by_cases e : p = P + j
        · rw [e, d7] at p3; exact absurd p3 (by decide)
        · have hp := d9 p e
          rw [hp.1] at p3 ⊢
          exact b7 p p1 (by omega) p3
end ILB
