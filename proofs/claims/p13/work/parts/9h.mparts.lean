/-! AN INSTRUCTION's parts, the reference. -/
def PBm (m : Sg) (S P a : Nat) : Sg := ax_u2 (ax_u2 (ax_u2 (ax_u2 (adv (ax_u2 m 104 P (-1)) (a + 1)) 105 P (a : Int)) 93 a 1) 84 31 ((P + 1 : Nat) : Int)) 99 S (ax_w32 (m 99 S + 1))
def PNm (m : Sg) (S P a : Nat) : Sg := ax_u2 (ax_u2 (ax_u2 (adv (adv (ax_u2 (adv m (a + 1)) 104 P (a : Int)) (a + 2)) (a + 3)) 105 P ((a + 2 : Nat) : Int)) 84 31 ((P + 1 : Nat) : Int)) 99 S (ax_w32 (m 99 S + 1))
section MPT
variable {T : TT} {s m : Sg} {a S P F : Nat}
theorem m290b {k : Int → Sg → Option Sg} (hT : TWF T) (hM : MC T m) (hf : m 84 6 = 0) (hu : m 84 18 = (a : Int)) (ha : a ≤ T.z) (t : T.tk a = 2) (hS : S < 4100) (hP : m 84 31 = (P : Int)) (hP8 : P < 8200) (h104 : m 104 P = -1) : j_233_290 k (S : Int) m = k (S : Int) (ax_u2 (ax_u2 (ax_u2 (ax_u2 (adv m (a + 1)) 105 P (a : Int)) 93 a 1) 84 31 ((P + 1 : Nat) : Int)) 99 S (ax_w32 (m 99 S + 1))) := by
  have h8 := hT.1
  unfold j_233_290
  rw [takeY hM hT hf hu ha (k := 2) (by decide) t, Option.bind_some]
  have e31 : (adv m (a + 1)) 84 31 = (P : Int) := by rw [adv_col (by decide)]; exact hP
  have e104 : (adv m (a + 1)) 104 P = -1 := by rw [adv_row (by decide)]; exact h104
  show gd (0 ≤ m 84 31 ∧ m 84 31 < 8200) (gd (0 ≤ (adv m (a + 1)) 84 31 ∧ (adv m (a + 1)) 84 31 < 8200) (if 0 ≤ (adv m (a + 1)) 104 (((adv m (a + 1)) 84 31).toNat) then _ else gd (0 ≤ (adv m (a + 1)) 84 31 ∧ (adv m (a + 1)) 84 31 < 8200) (gd (0 ≤ (ax_u2 (adv m (a + 1)) 105 ((m 84 31).toNat) (a : Int)) 105 (((adv m (a + 1)) 84 31).toNat) ∧ (ax_u2 (adv m (a + 1)) 105 ((m 84 31).toNat) (a : Int)) 105 (((adv m (a + 1)) 84 31).toNat) < 8200) (j_233_331 k (S : Int) (ax_u2 (ax_u2 (adv m (a + 1)) 105 ((m 84 31).toNat) (a : Int)) 93 (((ax_u2 (adv m (a + 1)) 105 ((m 84 31).toNat) (a : Int)) 105 (((adv m (a + 1)) 84 31).toNat)).toNat) 1))))) = _
  rw [e31, hP, Int.toNat_natCast, gd_pos (by omega), gd_pos (by omega), if_neg (by rw [e104]; decide), gd_pos (by omega), u2_same, gd_pos (by omega), Int.toNat_natCast]
  rw [m331 hS (P := P) (by rw [u2_row _ _ _ (by decide), u2_row _ _ _ (by decide)]; exact e31) hP8]
  rw [u2_row _ _ _ (show 99 ≠ 93 by decide), u2_row _ _ _ (show 99 ≠ 105 by decide), adv_row (show 99 ≠ 84 by decide)]
theorem m290n {k : Int → Sg → Option Sg} (hT : TWF T) (hM : MC T m) (hf : m 84 6 = 0) (hu : m 84 18 = (a : Int)) (ha : a ≤ T.z) (t : T.tk a = 2) (hS : S < 4100) (hP : m 84 31 = (P : Int)) (hP8 : P < 8200) (h104 : 0 ≤ m 104 P) : j_233_290 k (S : Int) m = k (S : Int) (ax_u2 (ax_u2 (ax_u2 (adv m (a + 1)) 105 P (a : Int)) 84 31 ((P + 1 : Nat) : Int)) 99 S (ax_w32 (m 99 S + 1))) := by
  have h8 := hT.1
  unfold j_233_290
  rw [takeY hM hT hf hu ha (k := 2) (by decide) t, Option.bind_some]
  have e31 : (adv m (a + 1)) 84 31 = (P : Int) := by rw [adv_col (by decide)]; exact hP
  have e104 : 0 ≤ (adv m (a + 1)) 104 P := by rw [adv_row (by decide)]; exact h104
  show gd (0 ≤ m 84 31 ∧ m 84 31 < 8200) (gd (0 ≤ (adv m (a + 1)) 84 31 ∧ (adv m (a + 1)) 84 31 < 8200) (if 0 ≤ (adv m (a + 1)) 104 (((adv m (a + 1)) 84 31).toNat) then j_233_331 k (S : Int) (ax_u2 (adv m (a + 1)) 105 ((m 84 31).toNat) (a : Int)) else _)) = _
  rw [e31, hP, Int.toNat_natCast, gd_pos (by omega), gd_pos (by omega), if_pos e104]
  rw [m331 hS (P := P) (by rw [u2_row _ _ _ (by decide)]; exact e31) hP8]
  rw [u2_row _ _ _ (show 99 ≠ 105 by decide), adv_row (show 99 ≠ 84 by decide)]
/-- bits -/
theorem mprB (hT : TWF T) (hM : MC T m) (hf : m 84 6 = 0) (hu : m 84 18 = (a : Int)) (ha : a ≤ T.z) (t : T.tk a = 2) (hS : S < 4100) (hP : m 84 31 = (P : Int)) (hP8 : P < 8200) : j_233_221 (F + 1) (S : Int) m = j_233_221 F (S : Int) (PBm m S P a) := by
  obtain ⟨x1, x2⟩ := is_y hM hT hu ha (k := 2) (K := 2) (by decide) t
  rw [j_233_221, if_neg (by simp [hf]), gd_pos x2, x1, if_pos (by decide)]
  unfold j_233_244
  rw [eatN hM hT hu ha (k := 1) (by decide) (by decide) (by rw [t]; decide)]
  show gd (0 ≤ m 84 31 ∧ m 84 31 < 8200) (gd (0 ≤ m 84 31 ∧ m 84 31 < 8200) (if (ax_u2 m 104 ((m 84 31).toNat) (-1)) 104 ((m 84 31).toNat) < 0 then j_233_290 (j_233_221 F) (S : Int) (ax_u2 m 104 ((m 84 31).toNat) (-1)) else _)) = _
  have sf : SFm m (ax_u2 m 104 P (-1)) := ro_sf (by decide)
  rw [hP, Int.toNat_natCast, gd_pos (by omega), gd_pos (by omega), if_pos (by rw [u2_same]; decide)]
  rw [m290b hT (sf.mc hM) (by rw [u2_row _ _ _ (by decide)]; exact hf) (by rw [u2_row _ _ _ (by decide)]; exact hu) ha t hS (P := P) (by rw [u2_row _ _ _ (by decide)]; exact hP) hP8 (u2_same _ _ _ _)]
  rw [u2_row _ _ _ (show 99 ≠ 104 by decide)]
  rfl
/-- a name -/
theorem mprN (hT : TWF T) (hM : MC T m) (hf : m 84 6 = 0) (hu : m 84 18 = (a : Int)) (ha : a ≤ T.z) (t0 : T.tk a = 1) (t1 : T.tk (a + 1) = 58) (t2 : T.tk (a + 2) = 2) (hS : S < 4100) (hP : m 84 31 = (P : Int)) (hP8 : P < 8200) : j_233_221 (F + 1) (S : Int) m = j_233_221 F (S : Int) (PNm m S P a) := by
  have h8 := hT.1
  have z0 := hT.lt ha (by rw [t0]; decide)
  have z1 := hT.lt (show a + 1 ≤ T.z by omega) (by rw [t1]; decide)
  have z2 := hT.lt (show a + 2 ≤ T.z by omega) (by rw [t2]; decide)
  obtain ⟨x1, x2⟩ := is_n hM hT hu ha (k := 2) (K := 2) (by decide) (by decide) (by rw [t0]; decide)
  obtain ⟨x3, x4⟩ := is_y hM hT hu ha (k := 1) (K := 1) (by decide) t0
  rw [j_233_221, if_neg (by simp [hf]), gd_pos x2, x1, if_neg (by decide), gd_pos x4, x3, if_neg (by decide)]
  unfold j_233_244
  rw [eatY hM hT hf hu ha (k := 1) (by decide) t0]
  have w1 : ax_w32 ((adv m (a + 1)) 84 18 - 1) = (a : Int) := by rw [adv_at, w32_id (by omega) (by omega)]; omega
  have e31 : (adv m (a + 1)) 84 31 = (P : Int) := by rw [adv_col (by decide)]; exact hP
  show gd (0 ≤ m 84 31 ∧ m 84 31 < 8200) (gd (0 ≤ (adv m (a + 1)) 84 31 ∧ (adv m (a + 1)) 84 31 < 8200) (if (ax_u2 (adv m (a + 1)) 104 ((m 84 31).toNat) (ax_w32 ((adv m (a + 1)) 84 18 - 1))) 104 (((adv m (a + 1)) 84 31).toNat) < 0 then _ else ((f_231 17 (ax_u2 (adv m (a + 1)) 104 ((m 84 31).toNat) (ax_w32 ((adv m (a + 1)) 84 18 - 1)))).bind fun q15 => j_233_290 (j_233_221 F) (S : Int) q15.2))) = _
  obtain ⟨M, hMM⟩ : ∃ M : Sg, M = ax_u2 (adv m (a + 1)) 104 P (a : Int) := ⟨_, rfl⟩
  have sf : SFm m M := by rw [hMM]; exact adv_sf.trans (ro_sf (by decide))
  have f1 : M 84 6 = 0 := by rw [hMM, u2_row _ _ _ (by decide), adv_col (by decide)]; exact hf
  have u1 : M 84 18 = ((a + 1 : Nat) : Int) := by rw [hMM, u2_row _ _ _ (by decide)]; exact adv_at
  have p1 : M 84 31 = (P : Int) := by rw [hMM, u2_row _ _ _ (by decide)]; exact e31
  have q1 : M 104 P = (a : Int) := by rw [hMM]; exact u2_same _ _ _ _
  have r1 : M 99 S = m 99 S := by rw [hMM, u2_row _ _ _ (by decide), adv_row (by decide)]
  rw [w1, e31, hP, Int.toNat_natCast, gd_pos (by omega), gd_pos (by omega), ← hMM, if_neg (by rw [q1]; omega)]
  rw [takeY (sf.mc hM) hT f1 u1 (by omega) (k := 58) (by decide) t1, Option.bind_some]
  show j_233_290 (j_233_221 F) (S : Int) (adv M (a + 2)) = _
  rw [m290n hT ((sf.trans adv_sf).mc hM) (by rw [adv_col (by decide)]; exact f1) adv_at (by omega) t2 hS (P := P) (by rw [adv_col (by decide)]; exact p1) hP8 (by rw [adv_row (by decide), q1]; omega)]
  rw [adv_row (show 99 ≠ 84 by decide), r1, hMM]
  rfl
end MPT
