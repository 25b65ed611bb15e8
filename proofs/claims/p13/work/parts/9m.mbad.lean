/-! AN INSTRUCTION's parts: a bad one, the reference. -/
section MBAD
variable {T : TT} {m : Sg} {a S P F : Nat}
theorem fl290 (hF : 1 ≤ F) (hf : 0 < m 84 6) (hS : S < 4100) (hP : m 84 31 = (P : Int)) (hP8 : P < 8200) (h104 : 0 ≤ m 104 P) : ∃ m' : Sg, j_233_290 (j_233_221 F) (S : Int) m = some m' ∧ BSm m m' := by
  obtain ⟨M, hM⟩ : ∃ M : Sg, M = ax_u2 (ax_u2 (ax_u2 m 105 P 0) 84 31 ((P + 1 : Nat) : Int)) 99 S (ax_w32 ((ax_u2 m 105 P 0) 99 S + 1)) := ⟨_, rfl⟩
  have sf : SFm m M := by rw [hM]; exact ((ro_sf (by decide)).trans (slot_sf (by decide))).trans (ro_sf (by decide))
  have fM : 0 < M 84 6 := by rw [hM, u2_row _ _ _ (by decide), u2_col _ _ _ (by decide), u2_row _ _ _ (by decide)]; exact hf
  obtain ⟨m', k1, k2⟩ := fl221 hF fM (S : Int)
  refine ⟨m', ?_, sf.trans k2.1, k2.2⟩
  unfold j_233_290
  rw [takeF hf, Option.bind_some]
  show gd (0 ≤ m 84 31 ∧ m 84 31 < 8200) (gd (0 ≤ m 84 31 ∧ m 84 31 < 8200) (if 0 ≤ m 104 ((m 84 31).toNat) then j_233_331 (j_233_221 F) (S : Int) (ax_u2 m 105 ((m 84 31).toNat) 0) else _)) = _
  rw [hP, Int.toNat_natCast, gd_pos (by omega), gd_pos (by omega), if_pos h104, m331 hS (P := P) (by rw [u2_row _ _ _ (by decide)]; exact hP) hP8, ← hM]
  exact k1
theorem mbadN (hT : TWF T) (hM : MC T m) (hF : 1 ≤ F) (hf : m 84 6 = 0) (hu : m 84 18 = (a : Int)) (ha : a ≤ T.z) (t0 : T.tk a = 1) (t : ¬ (T.tk (a + 1) = 58 ∧ T.tk (a + 2) = 2)) (hS : S < 4100) (hP : m 84 31 = (P : Int)) (hP8 : P < 8200) : ∃ m' : Sg, j_233_221 (F + 1) (S : Int) m = some m' ∧ BSm m m' := by
  have h8 := hT.1
  have z0 := hT.lt ha (by rw [t0]; decide)
  obtain ⟨x1, x2⟩ := is_n hM hT hu ha (k := 2) (K := 2) (by decide) (by decide) (by rw [t0]; decide)
  obtain ⟨x3, x4⟩ := is_y hM hT hu ha (k := 1) (K := 1) (by decide) t0
  obtain ⟨M, hMM⟩ : ∃ M : Sg, M = ax_u2 (adv m (a + 1)) 104 P (a : Int) := ⟨_, rfl⟩
  have sf : SFm m M := by rw [hMM]; exact adv_sf.trans (ro_sf (by decide))
  have e31 : (adv m (a + 1)) 84 31 = (P : Int) := by rw [adv_col (by decide)]; exact hP
  have f1 : M 84 6 = 0 := by rw [hMM, u2_row _ _ _ (by decide), adv_col (by decide)]; exact hf
  have u1 : M 84 18 = ((a + 1 : Nat) : Int) := by rw [hMM, u2_row _ _ _ (by decide)]; exact adv_at
  have p1 : M 84 31 = (P : Int) := by rw [hMM, u2_row _ _ _ (by decide)]; exact e31
  have q1 : M 104 P = (a : Int) := by rw [hMM]; exact u2_same _ _ _ _
  have run : j_233_221 (F + 1) (S : Int) m = ((f_231 17 M).bind fun q15 => j_233_290 (j_233_221 F) (S : Int) q15.2) := by
    rw [j_233_221, if_neg (by simp [hf]), gd_pos x2, x1, if_neg (by decide), gd_pos x4, x3, if_neg (by decide)]
    unfold j_233_244
    rw [eatY hM hT hf hu ha (k := 1) (by decide) t0]
    have w1 : ax_w32 ((adv m (a + 1)) 84 18 - 1) = (a : Int) := by rw [adv_at, w32_id (by omega) (by omega)]; omega
    show gd (0 ≤ m 84 31 ∧ m 84 31 < 8200) (gd (0 ≤ (adv m (a + 1)) 84 31 ∧ (adv m (a + 1)) 84 31 < 8200) (if (ax_u2 (adv m (a + 1)) 104 ((m 84 31).toNat) (ax_w32 ((adv m (a + 1)) 84 18 - 1))) 104 (((adv m (a + 1)) 84 31).toNat) < 0 then _ else ((f_231 17 (ax_u2 (adv m (a + 1)) 104 ((m 84 31).toNat) (ax_w32 ((adv m (a + 1)) 84 18 - 1)))).bind fun q15 => j_233_290 (j_233_221 F) (S : Int) q15.2))) = _
    rw [w1, e31, hP, Int.toNat_natCast, gd_pos (by omega), gd_pos (by omega), ← hMM, if_neg (by rw [q1]; omega)]
  rw [run]
  by_cases t1 : T.tk (a + 1) = 58
  · have z1 := hT.lt (show a + 1 ≤ T.z by omega) (by rw [t1]; decide)
    rw [takeY (sf.mc hM) hT f1 u1 (by omega) (k := 58) (by decide) t1, Option.bind_some]
    have t2 : T.tk (a + 2) ≠ 2 := fun y => t ⟨t1, y⟩
    have mc2 := (sf.trans (adv_sf (a := a + 2))).mc hM
    have f2 : (adv M (a + 2)) 84 6 = 0 := by rw [adv_col (by decide)]; exact f1
    obtain ⟨M2, hM2⟩ : ∃ M2 : Sg, M2 = tel (adv M (a + 2)) 2 (a + 2) := ⟨_, rfl⟩
    have s2 : SFm m M2 := by rw [hM2]; exact (sf.trans adv_sf).trans tel_sf
    have b31 : M2 84 31 = (P : Int) := by rw [hM2, tel_col (by decide) (by decide), adv_col (by decide)]; exact p1
    have b104 : 0 ≤ M2 104 P := by rw [hM2, tel_row (by decide), adv_row (by decide), q1]; omega
    have bf : 0 < M2 84 6 := by rw [hM2, tel_at]; decide
    obtain ⟨M3, hM3⟩ : ∃ M3 : Sg, M3 = ax_u2 (ax_u2 (ax_u2 M2 105 P 0) 84 31 ((P + 1 : Nat) : Int)) 99 S (ax_w32 ((ax_u2 M2 105 P 0) 99 S + 1)) := ⟨_, rfl⟩
    have s3 : SFm M2 M3 := by rw [hM3]; exact ((ro_sf (by decide)).trans (slot_sf (by decide))).trans (ro_sf (by decide))
    have f3 : 0 < M3 84 6 := by rw [hM3, u2_row _ _ _ (by decide), u2_col _ _ _ (by decide), u2_row _ _ _ (by decide)]; exact bf
    obtain ⟨m', k1, k2⟩ := fl221 hF f3 (S : Int)
    refine ⟨m', ?_, (s2.trans s3).trans k2.1, k2.2⟩
    show j_233_290 (j_233_221 F) (S : Int) (adv M (a + 2)) = _
    unfold j_233_290
    rw [takeN mc2 hT f2 adv_at (by omega) (k := 2) (by decide) (by decide) t2, Option.bind_some]
    show gd (0 ≤ (adv M (a + 2)) 84 31 ∧ (adv M (a + 2)) 84 31 < 8200) (gd (0 ≤ (tel (adv M (a + 2)) 2 (a + 2)) 84 31 ∧ (tel (adv M (a + 2)) 2 (a + 2)) 84 31 < 8200) (if 0 ≤ (tel (adv M (a + 2)) 2 (a + 2)) 104 (((tel (adv M (a + 2)) 2 (a + 2)) 84 31).toNat) then j_233_331 (j_233_221 F) (S : Int) (ax_u2 (tel (adv M (a + 2)) 2 (a + 2)) 105 (((adv M (a + 2)) 84 31).toNat) 0) else _)) = _
    rw [← hM2, b31, show (adv M (a + 2)) 84 31 = (P : Int) by rw [adv_col (by decide)]; exact p1, Int.toNat_natCast, gd_pos (by omega), gd_pos (by omega), if_pos b104, m331 hS (P := P) (by rw [u2_row _ _ _ (by decide)]; exact b31) hP8, ← hM3]
    exact k1
  · obtain ⟨m', k1, k2⟩ := fl290 (m := tel M 2 (a + 1)) (P := P) hF (by rw [tel_at]; decide) hS (by rw [tel_col (by decide) (by decide)]; exact p1) hP8 (by rw [tel_row (by decide), q1]; omega)
    rw [takeN (sf.mc hM) hT f1 u1 (by omega) (k := 58) (by decide) (by decide) t1, Option.bind_some]
    exact ⟨m', k1, (sf.trans tel_sf).trans k2.1, k2.2⟩
end MBAD
