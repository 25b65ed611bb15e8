/-! ALL PARAMETERS of a helper. -/
section PA
variable {T : TT} {sc1 m1 sc m : Sg} {h S P j a : Nat}
theorem slot_sf {k : Nat} {v : Int} (hk : ¬ (k < 6 ∨ 7 < k ∧ k < 18 ∨ 70 < k)) : SFm m (ax_u2 m 84 k v) := ⟨fun c x => u2_row _ _ _ (by omega), fun j x => u2_col _ _ _ (by omega)⟩
theorem fl257 (hf : 0 < m 84 6) (x y : Int) : ∃ m' : Sg, f_257 x y m = some (0, m') ∧ BSm m m' := by
  have e : 0 < (ax_u2 (ax_u2 (ax_u2 (ax_u2 m 84 59 0) 84 63 0) 84 67 0) 84 68 x) 84 6 := by rw [u2_col _ _ _ (by decide), u2_col _ _ _ (by decide), u2_col _ _ _ (by decide), u2_col _ _ _ (by decide)]; exact hf
  refine ⟨_, ?_, (((slot_sf (by decide)).trans (slot_sf (by decide))).trans (slot_sf (by decide))).trans (slot_sf (by decide)), e⟩
  unfold f_257
  exact flt_25 FU1 e
theorem fl116 (hf : 0 < m 84 6) (hS : S < 4100) : ∃ m' : Sg, j_253_116 (S : Int) m = some m' ∧ BSm m m' := by
  have e1 : 0 < (ax_u2 m 97 S 0) 84 6 := by rw [u2_row _ _ _ (by decide)]; exact hf
  have e2 : 0 < (ax_u2 (ax_u2 m 97 S 0) 101 S ((ax_u2 m 97 S 0) 84 18)) 84 6 := by rw [u2_row _ _ _ (by decide)]; exact e1
  obtain ⟨m3, k1, k2⟩ := fl257 e2 (S : Int) 0
  have e3 : 0 < (ax_u2 m3 100 S 0) 84 6 := by rw [u2_row _ _ _ (by decide)]; exact k2.2
  refine ⟨ax_u2 m3 100 S 0, ?_, (((ro_sf (by decide)).trans (ro_sf (by decide))).trans k2.1).trans (ro_sf (by decide)), e3⟩
  unfold j_253_116
  rw [takeF hf, Option.bind_some]
  dsimp only
  rw [takeF hf, Option.bind_some, gd_pos (by omega), Int.toNat_natCast]
  dsimp only
  rw [takeF e1, Option.bind_some, gd_pos (by omega)]
  dsimp only
  rw [k1, Option.bind_some, gd_pos (by omega)]
  dsimp only
  rw [takeF e3, Option.bind_some]
theorem eat_f {K : Int} (hf : 0 < m 84 6) : f_252 K m = (0, m) ∧ g_252 K m := by
  unfold f_252 g_252
  rw [if_pos hf]
  exact ⟨rfl, fun _ => trivial, fun y => absurd hf y⟩
theorem fl47 {F : Nat} {v : Int} (hF : 1 ≤ F) (hf : 0 < m 84 6) (hS : S < 4100) : ∃ m' : Sg, j_253_47 F (S : Int) v m = some m' ∧ BSm m m' := by
  obtain ⟨F, rfl⟩ : ∃ k, F = k + 1 := ⟨F - 1, by omega⟩
  rw [j_253_47, if_pos (by omega)]
  exact fl116 hf hS
/-- a parameter that is none -/
theorem par_bad (hT : TWF T) (hS : S < 1171) (hP : P + j < 8200) (hc : CC T sc1) (hM : MC T m1) (hf : m1 84 6 = 0) (H : PLS T sc1 m1 sc m h S P j) (hu : CU T sc a) (hm : m 84 18 = (a : Int)) (t : ¬ (T.tk a = 1 ∧ T.tk (a + 1) = 2)) (hj : j ≤ 4112) :
    ∃ s' : Sg, f_157 sc = some (.inr (15, s')) ∧ BSc T sc s' ∧ ∀ F : Nat, 2 ≤ F → ∃ mF : Sg, j_253_47 F (S : Int) 1 m = some mF ∧ BSm m mF := by
  obtain ⟨r1, r2, r3, r4, r5, r6, r7, k1, k2, k3, k4, k5, k6, g1, g2, g3⟩ := id H
  have sf : SFc sc1 sc := ⟨fun c x => r1 c (by omega), r2, r3, r4, W8.of r6 hj⟩
  have cc := sf.cc hc
  have sfm : SFm m1 m := ⟨fun c x => k1 c (by omega), fun k x => k2 k (by omega) (by omega)⟩
  have mc := sfm.mc hM
  have fm : m 84 6 = 0 := by rw [k2 6 (by decide) (by decide)]; exact hf
  have finX : ∀ X : Sg, SFm m X → 0 < X 84 6 → ∀ F : Nat, 1 ≤ F → ∃ mF : Sg, gd (g_252 8 X) ((some (f_252 8 X)).bind fun q10 => (j_253_47 F) (S : Int) q10.1 q10.2) = some mF ∧ BSm m mF := by
    intro X q1 q2 F hF
    obtain ⟨e, g⟩ := eat_f (K := 8) q2
    obtain ⟨mF, k1, k2⟩ := fl47 (S := S) (F := F) (v := 0) hF q2 (by omega)
    exact ⟨mF, by rw [gd_pos g, e]; exact k1, q1.trans k2.1, k2.2⟩
  by_cases t1 : T.tk a = 1
  · have hz0 := hT.lt hu.2.2 (by rw [t1]; decide)
    have t2 : T.tk (a + 1) ≠ 2 := fun y => t ⟨t1, y⟩
    have cu1 : CU T (cur T sc (a + 1)) (a + 1) := cur_cu (by omega)
    refine ⟨cur T sc (a + 1), ?_, ⟨cur_sf, _, cu1⟩, fun F hF => ?_⟩
    · unfold f_157
      rw [c96y hT cc hu t1]
      show xb (f_93 1 32 (cur T sc (a + 1))) _ = _
      rw [c93n cu1 t2]
      rfl
    · obtain ⟨F, rfl⟩ : ∃ k, F = k + 1 := ⟨F - 1, by omega⟩
      have mA : MC T (ax_u2 (adv m (a + 1)) 104 (P + j) (a : Int)) := (adv_mc mc).row (by simp [ax_u2]) (u2_row _ _ _ (by decide))
      have x31 : (adv m (a + 1)) 84 31 = ((P + j : Nat) : Int) := by rw [adv_col (by decide)]; exact k5
      rw [j_253_47, if_neg (by simp [fm]), if_neg (by decide), takeY mc hT fm hm hu.2.2 (k := 1) (by decide) t1, Option.bind_some, k5, gd_pos (by omega), Int.toNat_natCast]
      dsimp only
      rw [takeN mA hT (by rw [u2_row _ _ _ (by decide), adv_col (by decide)]; exact fm) (by rw [u2_row _ _ _ (by decide)]; exact adv_at) (by omega) (k := 2) (by decide) (by decide) t2, Option.bind_some]
      dsimp only
      rw [x31, gd_pos (by omega), gd_pos (by omega), gd_pos (by omega)]
      refine finX _ (((((adv_sf.trans (ro_sf (by decide))).trans tel_sf).trans (ro_sf (by decide))).trans (slot_sf (by decide))).trans (ro_sf (by decide))) ?_ F (by omega)
      rw [u2_row _ _ _ (by decide), u2_col _ _ _ (by decide), u2_row _ _ _ (by decide), tel_at]
      decide
  · refine ⟨sc, ?_, ⟨SFc.refl _, _, hu⟩, fun F hF => ?_⟩
    · unfold f_157
      rw [c96n hu t1]
      rfl
    · obtain ⟨F, rfl⟩ : ∃ k, F = k + 1 := ⟨F - 1, by omega⟩
      have e1 : 0 < (ax_u2 (tel m 2 a) 104 (P + j) 0) 84 6 := by rw [u2_row _ _ _ (by decide), tel_at]; decide
      have x31 : (tel m 2 a) 84 31 = ((P + j : Nat) : Int) := by rw [tel_col (by decide) (by decide)]; exact k5
      rw [j_253_47, if_neg (by simp [fm]), if_neg (by decide), takeN mc hT fm hm hu.2.2 (k := 1) (by decide) (by decide) t1, Option.bind_some, k5, gd_pos (by omega), Int.toNat_natCast]
      dsimp only
      rw [takeF e1, Option.bind_some]
      dsimp only
      rw [x31, gd_pos (by omega), gd_pos (by omega), gd_pos (by omega)]
      refine finX _ ((((tel_sf.trans (ro_sf (by decide))).trans (ro_sf (by decide))).trans (slot_sf (by decide))).trans (ro_sf (by decide))) ?_ F (by omega)
      rw [u2_row _ _ _ (by decide), u2_col _ _ _ (by decide), u2_row _ _ _ (by decide)]
      exact e1
theorem PLS.mv (H : PLS T sc1 m1 sc m h S P j) (b : Nat) : PLS T sc1 m1 (cur T sc b) (adv m b) h S P j := by
  obtain ⟨r1, r2, r3, r4, r5, r6, r7, k1, k2, k3, k4, k5, k6, g1, g2, g3⟩ := H
  have c1 : CN (cur T sc b) ↔ CN sc := by unfold CN; rw [cur_row (by decide)]
  refine ⟨fun c x => by rw [cur_row (by omega)]; exact r1 c x, fun k x y => by rw [cur_col x y]; exact r2 k x y, fun k x => by rw [cur_row (by decide)]; exact r3 k x, fun k x => by rw [cur_row (by decide)]; exact r4 k x, fun i x => by rw [cur_row (by decide)]; exact r5 i x, by rw [cur_row (by decide)]; exact r6, by rw [cur_row (by decide)]; exact r7, fun c x => by rw [adv_row (by omega)]; exact k1 c x, fun k x y => by rw [adv_col x]; exact k2 k x y, fun i x => by rw [adv_row (by decide)]; exact k3 i x, fun c p x y z => by rw [adv_row (by omega)]; exact k4 c p x y z, by rw [adv_col (by decide)]; exact k5, by rw [adv_row (by decide)]; exact k6, fun i hi => by rw [adv_row (by decide), adv_row (by decide)]; exact g1 i hi, ?_, fun y => by rw [cur_row (by decide), cur_row (by decide)]; exact g3 (c1.mp y)⟩
  rw [c1, g2]
  unfold GPT
  rw [adv_row (by decide), adv_row (by decide)]
theorem par_all (hT : TWF T) (hS : S < 1171) (h54 : sc1 54 6 = ((S + 1 : Nat) : Int)) (hc : CC T sc1) (hM : MC T m1) (hf : m1 84 6 = 0) (hh : 1 ≤ h) (hPz : P ≤ h) : ∀ (r : Nat) {sc m : Sg} {j a l : Nat} (Fc F : Nat), a + r = T.z → a = h + 2 + 3 * j → l ≤ a → PLS T sc1 m1 sc m h S P j → CU T sc a → m 84 18 = (a : Int) → (∀ i, i < j → T.tk (h + 4 + 3 * i) = 44) →
    (∃ (sc' m' : Sg) (J : Nat), j_152_34 (Fc + r + 2) 1 (l : Int) sc = j_152_84 sc' ∧ j_253_47 (F + r + 2) (S : Int) 1 m = j_253_116 (S : Int) m' ∧ PLS T sc1 m1 sc' m' h S P J ∧ CU T sc' (h + 1 + 3 * J) ∧ m' 84 18 = ((h + 1 + 3 * J : Nat) : Int) ∧ 1 ≤ J ∧ (∀ i, i + 1 < J → T.tk (h + 4 + 3 * i) = 44)) ∨
    (∃ s' mF : Sg, j_152_34 (Fc + r + 2) 1 (l : Int) sc = some (.inr (15, s')) ∧ BSc T sc1 s' ∧ j_253_47 (F + r + 2) (S : Int) 1 m = some mF ∧ BSm m1 mF) := by
  intro r
  induction r using Nat.strongRecOn with
  | ind r ih =>
  intro sc m j a l Fc F hr ha hl H hu hm hk
  have h8 := hT.1
  have hz := hu.2.2
  obtain ⟨r1, r2, r3, r4, r5, r6, r7, k1, k2, k3, k4, k5, k6, g1, g2, g3⟩ := id H
  have hz := hu.2.2
  have h8' := hT.1
  have sf : SFc sc1 sc := ⟨fun c x => r1 c (by omega), r2, r3, r4, W8.of r6 (by omega)⟩
  have sfm : SFm m1 m := ⟨fun c x => k1 c (by omega), fun k x => k2 k (by omega) (by omega)⟩
  rw [show Fc + r + 2 = Fc + r + 1 + 1 by omega, j_152_34, if_neg (by decide), if_neg (by omega)]
  by_cases t : T.tk a = 1 ∧ T.tk (a + 1) = 2
  · obtain ⟨sc', m', x1, x2, x3, x4, x5⟩ := par_step hT h8 hS (by omega) h54 hc hM hf hh H ha hu hm t.1 t.2
    obtain ⟨y1, y2, y3, y4, y5, y6, y7, y8, y9, y10, y11, y12, y13, y14, y15, y16⟩ := id x5
    have sf' : SFc sc1 sc' := ⟨fun c x => y1 c (by omega), y2, y3, y4, W8.of y6 (by omega)⟩
    have sfm' : SFm m1 m' := ⟨fun c x => y8 c (by omega), fun k x => y9 k (by omega) (by omega)⟩
    have cc' := sf'.cc hc
    have mc' := sfm'.mc hM
    have fm' : m' 84 6 = 0 := by rw [y9 6 (by decide) (by decide)]; exact hf
    have z2 := x2.2.2
    rw [x1, show F + r + 2 = F + r + 1 + 1 by omega, x3]
    by_cases tc : T.tk (a + 2) = 44
    · have z3 := hT.lt z2 (by rw [tc]; decide)
      rw [xb_inl, x2.2.1, if_neg (by simp [tc]), nxt hT cc' x2 (by rw [tc]; decide), eatY mc' hT fm' x4 z2 (k := 44) (by decide) tc]
      unfold j_152_78
      have l1 : ((if ¬ T.tk (a + 2) = 44 then 0 else 1) : Int) = 1 := by rw [if_neg (fun y => y tc)]
      rw [l1, w32_nat (i := l) (by omega)]
      have nx := ih (r - 3) (by omega) (j := j + 1) (a := a + 3) (l := l + 1) (Fc + 2) (F + 2) (by omega) (by omega) (by omega) (x5.mv (a + 3)) (cur_cu (by omega)) adv_at (fun i hi => by
        by_cases e : i = j
        · rw [e, show h + 4 + 3 * j = a + 2 by omega]; exact tc
        · exact hk i (by omega))
      rw [show Fc + 2 + (r - 3) + 2 = Fc + r + 1 by omega, show F + 2 + (r - 3) + 2 = F + r + 1 by omega] at nx
      exact nx
    · rw [xb_inl, x2.2.1, if_pos (by simp [tc]), eatN mc' hT x4 z2 (k := 44) (by decide) (by decide) tc]
      unfold j_152_78
      have l0 : ((if ¬ T.tk (a + 2) = 44 then 0 else 1) : Int) = 0 := by rw [if_pos tc]
      rw [l0, j_152_34, if_pos rfl, j_253_47, if_neg (by simp [fm']), if_pos rfl]
      exact Or.inl ⟨sc', m', j + 1, rfl, rfl, x5, by rw [show h + 1 + 3 * (j + 1) = a + 2 by omega]; exact x2, by rw [x4]; omega, by omega, fun i hi => hk i (by omega)⟩
  · obtain ⟨s', x1, x2, x3⟩ := par_bad hT hS (by omega) hc hM hf H hu hm t (by omega)
    obtain ⟨mF, x4, x5⟩ := x3 (F + r + 2) (by omega)
    rw [x1, x4]
    exact Or.inr ⟨s', mF, rfl, ⟨sf.trans x2.1, x2.2⟩, rfl, sfm.trans x5.1, x5.2⟩
end PA
