/-! ALL PARTS of an instruction on both sides. -/
section ILA
variable {T : TT} {sc1 m1 : Sg} {h S P : Nat}
theorem ils_all (hT : TWF T) (hx : CX T sc1) (hc : CC T sc1) (hM : MC T m1) (hf : m1 84 6 = 0) (h54 : sc1 54 6 = ((S + 1 : Nat) : Int)) (hS : S < 1171) (hPh : P ≤ h) (m98 : m1 98 S = (P : Int)) (fr : ∀ k, h < k → k < T.z → FRS T sc1 m1 k) : ∀ (r : Nat) {sc m : Sg} {j B a : Nat} (Fc F : Nat), a + r = T.z → ILS T sc1 m1 sc m h S P j B a → CU T sc a → m 84 18 = (a : Int) →
    (∃ (sc' m' : Sg) (J B' a' : Nat), j_153_7 (Fc + r + 2) (j : Int) sc = j_153_61 sc' ∧ j_233_221 (F + r + 2) (S : Int) m = j_233_354 (S : Int) m' ∧ ILS T sc1 m1 sc' m' h S P J B' a' ∧ CU T sc' a' ∧ m' 84 18 = (a' : Int) ∧ a ≤ a' ∧ T.tk a' ≠ 1 ∧ T.tk a' ≠ 2) ∨
    (∃ s' mF : Sg, j_153_7 (Fc + r + 2) (j : Int) sc = some (.inr (15, s')) ∧ BSc T sc1 s' ∧ j_233_221 (F + r + 2) (S : Int) m = some mF ∧ BSm m1 mF) := by
  intro r
  induction r using Nat.strongRecOn with
  | ind r ih =>
  intro sc m j B a Fc F hr H hu hm
  have h8 := hT.1
  have hz := hu.2.2
  obtain ⟨r1, r2, r3, r4, r5, r6, r7, r8, k1, k2, k3, k4, k5, k6, g1, g2, g3, g4, g5, g6⟩ := id H
  have sf : SFc sc1 sc := ⟨fun c x => r1 c (by omega), r2, r3, r4, W8.of r6 (by have := hu.2.2; have := hT.1; omega)⟩
  have sfm : SFm m1 m := ⟨fun c x => k1 c (by omega), fun k x => k2 k (by omega) (by omega)⟩
  have mc := sfm.mc hM
  have fm : m 84 6 = 0 := by rw [k2 6 (by decide) (by decide)]; exact hf
  by_cases t2 : T.tk a = 2
  · have z0 := hT.lt hz (by rw [t2]; decide)
    obtain ⟨sc', m', x1, x2, x3, x4, x5⟩ := H.bit hT hx hc hM hf h54 hS (by omega) (by omega) m98 fr hu hm t2
    rw [show Fc + r + 2 = Fc + r + 1 + 1 by omega, show F + r + 2 = F + r + 1 + 1 by omega, x1 _ j (by omega), x3]
    have nx := ih (r - 1) (by omega) Fc F (by omega) x5 x2 x4
    rw [show Fc + (r - 1) + 2 = Fc + r + 1 by omega, show F + (r - 1) + 2 = F + r + 1 by omega] at nx
    rcases nx with ⟨s2, m2, J, B', a', n1, n2, n3, n4, n5, n6, n7⟩ | nx
    · exact Or.inl ⟨s2, m2, J, B', a', n1, n2, n3, n4, n5, by omega, n7⟩
    · exact Or.inr nx
  by_cases t1 : T.tk a = 1
  · have z0 := hT.lt hz (by rw [t1]; decide)
    by_cases t : T.tk (a + 1) = 58 ∧ T.tk (a + 2) = 2
    · have z1 := hT.lt (show a + 1 ≤ T.z by omega) (by rw [t.1]; decide)
      have z2 := hT.lt (show a + 2 ≤ T.z by omega) (by rw [t.2]; decide)
      obtain ⟨sc', m', x1, x2, x3, x4, x5⟩ := H.nam hT hc hM hf h54 hS (by omega) (by omega) (by omega) m98 fr hu hm t1 t.1 t.2
      rw [show Fc + r + 2 = Fc + r + 1 + 1 by omega, show F + r + 2 = F + r + 1 + 1 by omega, x1 _ j (by omega), x3]
      have nx := ih (r - 3) (by omega) (Fc + 2) (F + 2) (by omega) x5 x2 x4
      rw [show Fc + 2 + (r - 3) + 2 = Fc + r + 1 by omega, show F + 2 + (r - 3) + 2 = F + r + 1 by omega] at nx
      rcases nx with ⟨s2, m2, J, B', a', n1, n2, n3, n4, n5, n6, n7⟩ | nx
      · exact Or.inl ⟨s2, m2, J, B', a', n1, n2, n3, n4, n5, by omega, n7⟩
      · exact Or.inr nx
    · right
      obtain ⟨s', x1, x2⟩ := c159n hT (sf.cc hc) hu t1 t
      obtain ⟨mF, x3, x4⟩ := mbadN (F := F + r + 1) (P := P + j) hT mc (by omega) fm hm hz t1 t (show S < 4100 by omega) k5 (by omega)
      refine ⟨s', mF, ?_, ⟨sf.trans x2.1, x2.2⟩, x3, sfm.trans x4.1, x4.2⟩
      rw [show Fc + r + 2 = Fc + r + 1 + 1 by omega, j_153_7, if_neg (by omega), if_pos (by rw [hu.2.1]; exact t2), if_neg (by rw [hu.2.1]; simp [t1]), x1, xb_err]
  · left
    obtain ⟨x1, x2⟩ := is_n mc hT hm hz (k := 2) (K := 2) (by decide) (by decide) t2
    obtain ⟨x3, x4⟩ := is_n mc hT hm hz (k := 1) (K := 1) (by decide) (by decide) t1
    refine ⟨sc, m, j, B, a, ?_, ?_, H, hu, hm, Nat.le_refl _, t1, t2⟩
    · rw [show Fc + r + 2 = Fc + r + 1 + 1 by omega, j_153_7, if_neg (by omega), if_pos (by rw [hu.2.1]; exact t2), if_pos (by rw [hu.2.1]; exact t1)]
    · rw [show F + r + 2 = F + r + 1 + 1 by omega, j_233_221, if_neg (by simp [fm]), gd_pos x2, x1, if_neg (by decide), gd_pos x4, x3, if_pos rfl]
end ILA
