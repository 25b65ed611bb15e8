/-! THE REST of a helper, on both sides. -/
/-- its width is read -/
def HWc (T : TT) (s s' : Sg) (S a : Nat) : Prop := s' 57 S = mn (T.vl (a + 1)) ∧ (∀ i, i ≠ S → s' 57 i = s 57 i) ∧ (∀ c, ¬ (c = 30 ∨ c = 39 ∨ c = 57) → s' c = s c) ∧ (∀ j, j ≠ 10 → j ≠ 11 → s' 39 j = s 39 j) ∧ (∀ j, j < 4 ∨ 7 < j → s' 30 j = s 30 j) ∧ (CN s' ↔ CN s ∧ 1 ≤ T.vl (a + 1) ∧ T.vl (a + 1) ≤ 32)
def HWm (m : Sg) (S a : Nat) : Sg := ax_u2 (adv (ax_u2 (adv (adv m (a + 1)) (a + 2)) 97 S ((a + 1 : Nat) : Int)) (a + 3)) 101 S ((a + 3 : Nat) : Int)
section TS
variable {T : TT} {sc m s s' : Sg} {S a N K C B : Nat}
theorem HWc.sf (h : HWc T s s' S a) : SFc s s' := ⟨fun c x => h.2.2.1 c (by omega), h.2.2.2.1, h.2.2.2.2.1, fun j _ => by rw [h.2.2.1 31 (by decide)], W8.same (h.2.2.1 31 (by decide))⟩
theorem HWm_sf : SFm m (HWm m S a) := (((adv_sf.trans adv_sf).trans (ro_sf (by decide))).trans adv_sf).trans (ro_sf (by decide))
theorem HWm_row {c : Nat} (h : ¬ (c = 84 ∨ c = 97 ∨ c = 101)) : HWm m S a c = m c := by
  unfold HWm
  rw [u2_row _ _ _ (by omega), adv_row (by omega), u2_row _ _ _ (by omega), adv_row (by omega), adv_row (by omega)]
theorem HWm_col {j : Nat} (h : j ≠ 18) : HWm m S a 84 j = m 84 j := by
  unfold HWm
  rw [u2_row _ _ _ (by decide), adv_col h, u2_row _ _ _ (by decide), adv_col h, adv_col h]
theorem HWm_at : HWm m S a 84 18 = ((a + 3 : Nat) : Int) := by
  unfold HWm
  rw [u2_row _ _ _ (by decide), adv_at]
theorem tail_sim (hT : TWF T) (hS : S < 1171) (hC8 : C < 2049) (hB8 : B ≤ 4112) (h54 : sc 54 6 = ((S + 1 : Nat) : Int)) (h57 : sc 57 S = 0) (hc : CC T sc) (hM : MC T m) (hu : CU T sc a) (hm : m 84 18 = (a : Int)) (hf : m 84 6 = 0) (nd : ND T sc m N K) (h66 : sc 66 7 = 0) (fr : ∀ k, a ≤ k → k < T.z → FRS T sc m k) (hN : N ≤ a) (hK : K ≤ N) (hC : sc 61 4 = (C : Int)) (hB : sc 31 8 = (B : Int)) :
    (∃ (sc2 sc3 m3 sc' : Sg) (a' N' K' : Nat), T.tk a = 41 ∧ T.tk (a + 1) = 2 ∧ T.tk (a + 2) = 61 ∧ T.tk a' = 59 ∧ HWc T sc sc2 S a ∧ TPOST T sc2 (HWm m S a) (S : Int) (a + 3) N K sc3 m3 a' N' K' ∧ HEc sc3 sc' B C ((a + 3 : Nat) : Int) ((N' : Int) - 1) (mn (T.vl (a + 1))) ∧ CU T sc' (a' + 1) ∧ j_152_84 sc = some (.inl sc') ∧ j_253_116 (S : Int) m = some (adv (ax_u2 m3 100 S ((N' : Int) - 1)) (a' + 1))) ∨
    (∃ (x : Nat) (s' mF : Sg), j_152_84 sc = some (.inr (x, s')) ∧ (x = 14 ∨ x = 15) ∧ BSc T sc s' ∧ j_253_116 (S : Int) m = some mF ∧ BSm m mF) := by
  have h8 := hT.1
  have hz := hu.2.2
  rw [hd_eq, ht_eq]
  by_cases t1 : T.tk a = 41
  rotate_left
  · right
    obtain ⟨mF, k1, k2⟩ := fht1 (m := tel m 2 a) (S := S) (by rw [tel_at]; decide) (by omega)
    rw [c92n hu t1, xb_err, takeN hM hT hf hm hz (k := 41) (by decide) (by decide) t1, Option.bind_some]
    exact ⟨15, sc, mF, rfl, Or.inr rfl, ⟨SFc.refl _, _, hu⟩, k1, tel_sf.trans k2.1, k2.2⟩
  have hz0 := hT.lt hz (by rw [t1]; decide)
  have cc1 := cur_cc (a := a + 1) hc
  have cu1 : CU T (cur T sc (a + 1)) (a + 1) := cur_cu (by omega)
  have mc1 : MC T (adv m (a + 1)) := (adv_sf (a := a + 1)).mc hM
  have f1 : (adv m (a + 1)) 84 6 = 0 := by rw [adv_col (by decide)]; exact hf
  rw [c92y hT hc hu t1 (by decide), xb_inl, takeY hM hT hf hm hz (k := 41) (by decide) t1, Option.bind_some]
  show _ ∨ _
  unfold hd1 ht1
  by_cases t2 : T.tk (a + 1) = 2
  rotate_left
  · right
    obtain ⟨mF, k1, k2⟩ := fht2 (m := tel (adv m (a + 1)) 2 (a + 1)) (S := S) (by rw [tel_at]; decide) (by omega) 0
    rw [c93n cu1 t2, xb_err, takeN mc1 hT f1 adv_at (by omega) (k := 2) (by decide) (by decide) t2, Option.bind_some]
    exact ⟨15, _, mF, rfl, Or.inr rfl, ⟨cur_sf, _, cu1⟩, k1, (adv_sf.trans tel_sf).trans k2.1, k2.2⟩
  have hz1 := hT.lt (show a + 1 ≤ T.z by omega) (by rw [t2]; decide)
  have hv1 := hT.2.2.2.2.1 (a + 1) hz1
  obtain ⟨s1, n1, n2, n3, n4⟩ := c93 (lo := 1) (hi := 32) hT cc1 cu1 t2
  have cc2 : CC T (cur T s1 (a + 2)) := cur_cc ((ef30 n3 n4).cc cc1)
  have rc : ∀ c, c ≠ 39 → c ≠ 30 → (cur T s1 (a + 2)) c = sc c := fun c x y => by rw [cur_row x, n3 c y, cur_row x]
  obtain ⟨_, ⟨g1, g2⟩, _⟩ := c181 (s := cur T s1 (a + 2)) (S := S) (by rw [rc 54 (by decide) (by decide)]; exact h54) hS (mn (T.vl (a + 1)))
  have mnb : 0 ≤ mn (T.vl (a + 1)) ∧ mn (T.vl (a + 1)) ≤ 1073741824 := by unfold mn; split <;> omega
  rw [rc 57 (by decide) (by decide), h57, Int.zero_add, w32_id (by omega) (by omega)] at g2
  obtain ⟨s2, hs2⟩ : ∃ s2 : Sg, s2 = ax_u2 (cur T s1 (a + 2)) 57 S (mn (T.vl (a + 1))) := ⟨_, rfl⟩
  have r2 : ∀ c, c ≠ 57 → s2 c = (cur T s1 (a + 2)) c := fun c x => by rw [hs2]; exact u2_row _ _ _ x
  have cc3 : CC T s2 := cc2.row (by rw [r2 39 (by decide)]) (r2 41 (by decide)) (r2 42 (by decide)) (r2 44 (by decide)) (by rw [r2 31 (by decide)]) (r2 1 (by decide))
  have cu2 : CU T s2 (a + 2) := by
    have := cur_cu (T := T) (s := s1) (a := a + 2) (by omega)
    unfold CU at *
    rw [r2 39 (by decide)]
    exact this
  have hw2 : HWc T sc s2 S a := by
    refine ⟨by rw [hs2]; exact u2_same _ _ _ _, fun i hi => by rw [hs2, u2_col _ _ _ hi, rc 57 (by decide) (by decide)], fun c x => by rw [r2 c (by omega), rc c (by omega) (by omega)], fun j x y => ?_, fun j x => ?_, ?_⟩
    · rw [r2 39 (by decide), cur_col x y, n3 39 (by decide), cur_col x y]
    · rw [r2 30 (by decide), cur_row (by decide), n4 j x, cur_row (by decide)]
    · have e1 : CN s2 ↔ CN s1 := by unfold CN; rw [r2 30 (by decide), cur_row (by decide)]
      have e2 : CN (cur T sc (a + 1)) ↔ CN sc := by unfold CN; rw [cur_row (by decide)]
      rw [e1, n2, e2]
  obtain ⟨m2, hm2⟩ : ∃ m2 : Sg, m2 = ax_u2 (adv (adv m (a + 1)) (a + 2)) 97 S ((a + 1 : Nat) : Int) := ⟨_, rfl⟩
  have sfm2 : SFm m m2 := by rw [hm2]; exact (adv_sf.trans adv_sf).trans (ro_sf (by decide))
  have mc2 := sfm2.mc hM
  have f2 : m2 84 6 = 0 := by rw [hm2, u2_row _ _ _ (by decide), adv_col (by decide), adv_col (by decide)]; exact hf
  have u2' : m2 84 18 = ((a + 2 : Nat) : Int) := by rw [hm2, u2_row _ _ _ (by decide)]; exact adv_at
  rw [n1, xb_inl, takeY mc1 hT f1 adv_at (by omega) (k := 2) (by decide) t2, Option.bind_some]
  dsimp only
  rw [gd_pos g1, g2, Option.bind_some, ← hs2]
  unfold hd2 ht2
  rw [gd_pos (by omega), Int.toNat_natCast, ← hm2]
  by_cases t3 : T.tk (a + 2) = 61
  rotate_left
  · right
    obtain ⟨mF, k1, k2⟩ := fht3 (m := tel m2 2 (a + 2)) (S := S) (by rw [tel_at]; decide) (by omega)
    rw [c92n cu2 t3, xb_err, takeN mc2 hT f2 u2' (by omega) (k := 61) (by decide) (by decide) t3, Option.bind_some]
    exact ⟨15, s2, mF, rfl, Or.inr rfl, ⟨hw2.sf, _, cu2⟩, k1, (sfm2.trans tel_sf).trans k2.1, k2.2⟩
  have hz2 := hT.lt (show a + 2 ≤ T.z by omega) (by rw [t3]; decide)
  rw [c92y hT cc3 cu2 t3 (by decide), xb_inl, takeY mc2 hT f2 u2' (by omega) (k := 61) (by decide) t3, Option.bind_some]
  show _ ∨ _
  obtain ⟨s3, hs3⟩ : ∃ s3 : Sg, s3 = cur T s2 (a + 3) := ⟨_, rfl⟩
  have hw3 : HWc T sc s3 S a := by
    obtain ⟨w1, w2, w3, w4, w5, w6⟩ := hw2
    refine ⟨by rw [hs3, cur_row (by decide)]; exact w1, fun i hi => by rw [hs3, cur_row (by decide)]; exact w2 i hi, fun c x => by rw [hs3, cur_row (by omega)]; exact w3 c x, fun j x y => by rw [hs3, cur_col x y]; exact w4 j x y, fun j x => by rw [hs3, cur_row (by decide)]; exact w5 j x, ?_⟩
    have : CN s3 ↔ CN s2 := by unfold CN; rw [hs3, cur_row (by decide)]
    rw [this]; exact w6
  have cu3 : CU T s3 (a + 3) := by rw [hs3]; exact cur_cu (by omega)
  have m3e : ax_u2 (adv m2 (a + 3)) 101 S ((adv m2 (a + 3)) 84 18) = HWm m S a := by rw [adv_at, hm2]; rfl
  unfold hd3 ht3
  rw [gd_pos (by omega), Int.toNat_natCast]
  rw [show a + 2 + 1 = a + 3 by omega, m3e, ← hs3]
  have pre : TPRE T s3 (HWm m S a) (a + 3) N K := by
    refine ⟨hw3.sf.cc hc, HWm_sf.mc hM, cu3, HWm_at, by rw [HWm_col (by decide)]; exact hf, ?_, by rw [hw3.2.2.1 66 (by decide)]; exact h66, ?_, by omega, hK, by omega, ?_⟩
    · exact nd.congr (by rw [hw3.2.2.1 46 (by decide)]) (HWm_col (by decide)) (HWm_col (by decide)) (fun c n x y _ => by rw [hw3.2.2.1 c (by omega)]) (fun c n x y _ => by rw [HWm_row (by omega)]) (fun j _ => by rw [HWm_row (by decide)])
    · intro k x y
      obtain ⟨b1, b2, b3, b4⟩ := fr k (by omega) y
      exact ⟨by rw [hw3.2.2.1 45 (by decide)]; exact b1, by rw [HWm_row (by decide)]; exact b2, by rw [HWm_row (by decide)]; exact b3, by rw [HWm_row (by decide)]; exact b4⟩
    · rw [show a + 3 - 1 = a + 2 by omega, t3]; decide
  rcases top_sim (d := 0) hT pre (by omega) (S : Int) with ⟨sc3, m3, a', N', K', r1, r3, r4⟩ | ⟨x, s', mF, r1, r2', r3, r4, r5, r6⟩
  rotate_left
  · right
    obtain ⟨mG, k1, k2⟩ := fht4 r6 (S := S) (by omega) 0
    have r1' : f_45 100 0 s3 = some (.inr (x, s')) := r1
    have r4' : f_257 (S : Int) 0 (HWm m S a) = some (0, mF) := r4
    rw [r1', xb_err, r4', Option.bind_some]
    exact ⟨x, s', mG, rfl, r2', ⟨hw3.sf.trans r3.1.sf, r3.2⟩, k1, (HWm_sf.trans r5.sf).trans k2.1, k2.2⟩
  have r1' : f_45 100 0 s3 = some (.inl sc3) := r1
  rw [r1', xb_inl]
  obtain ⟨q1, q2, q3, q4, q5, q6, q7, q8, q9, q10, q11, q12, q13, q14, q15, q16, q17, q18, q19, q20, q21⟩ := id r3
  have hC3 : sc3 61 4 = (C : Int) := by rw [q10.1 61 (by decide), hw3.2.2.1 61 (by decide)]; exact hC
  have hB3 : sc3 31 8 = (B : Int) := by rw [q10.1 31 (by decide), hw3.2.2.1 31 (by decide)]; exact hB
  by_cases t4 : T.tk a' = 59
  · left
    have r4' : f_257 (S : Int) 0 (HWm m S a) = some ((N' : Int) - 1, m3) := by
      rcases r4 with y | ⟨y, _⟩
      · exact y
      · rw [t4] at y; exact absurd y (by decide)
    obtain ⟨sc', z1, z2, z3⟩ := hd4_y hT q1 q3 hC3 hC8 hB3 hB8 t4 (s3 39 10) (sc3 66 8) (mn (T.vl (a + 1)))
    rw [cu3.1, q15] at z3
    refine ⟨s3, sc3, m3, sc', a', N', K', t1, t2, t3, t4, hw3, r3, z3, z2, z1, ?_⟩
    rw [r4', Option.bind_some]
    unfold ht4
    have sf4 : SFm m3 (ax_u2 m3 100 S ((N' : Int) - 1)) := ro_sf (by decide)
    rw [gd_pos (by omega), Int.toNat_natCast, takeY (sf4.mc q2) hT (by rw [u2_row _ _ _ (by decide)]; exact q5) (by rw [u2_row _ _ _ (by decide)]; exact q4) q3.2.2 (k := 59) (by decide) t4, Option.bind_some]
  · right
    obtain ⟨s', z1, z2⟩ := hd4_n q3 hC3 hC8 t4 (s3 39 10) (sc3 66 8) (mn (T.vl (a + 1)))
    have sfa : SFc sc sc3 := hw3.sf.trans q10.sf
    rcases r4 with y | ⟨_, mF, y1, y2, y3⟩
    · have r4' : f_257 (S : Int) 0 (HWm m S a) = some ((N' : Int) - 1, m3) := y
      have sf4 : SFm m3 (ax_u2 m3 100 S ((N' : Int) - 1)) := ro_sf (by decide)
      rw [r4', Option.bind_some]
      unfold ht4
      rw [gd_pos (by omega), Int.toNat_natCast, takeN (sf4.mc q2) hT (by rw [u2_row _ _ _ (by decide)]; exact q5) (by rw [u2_row _ _ _ (by decide)]; exact q4) q3.2.2 (k := 59) (by decide) (by decide) t4, Option.bind_some]
      exact ⟨15, s', tel (ax_u2 m3 100 S ((N' : Int) - 1)) 2 a', z1, Or.inr rfl, ⟨sfa.trans z2.1, z2.2⟩, rfl, ((HWm_sf.trans q11.sf).trans sf4).trans tel_sf, by rw [tel_at]; decide⟩
    · have y1' : f_257 (S : Int) 0 (HWm m S a) = some (0, mF) := y1
      obtain ⟨mG, k1, k2⟩ := fht4 y3 (S := S) (by omega) 0
      rw [y1', Option.bind_some]
      exact ⟨15, s', mG, z1, Or.inr rfl, ⟨sfa.trans z2.1, z2.2⟩, k1, (HWm_sf.trans y2.sf).trans k2.1, k2.2⟩
end TS
