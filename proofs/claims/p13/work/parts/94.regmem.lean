/-! REGISTERS and MEMORIES. -/
section RM
variable {T : TT} {sc0 sm0 sc sm s m : Sg} {a a1 S P A N K C w : Nat}
theorem bc_2 (v : Int) (s : Sg) (h1 : 2 ≤ v) (h2 : v ≤ 64) : f_294 v s = 1 ↔ pw2 v := by
  have h : ∀ n : Nat, n < 65 → 2 ≤ n → (f_294 (n : Int) (fun _ _ => 0) = 1 ↔ ((n : Int) = 2 ∨ (n : Int) = 4 ∨ (n : Int) = 8 ∨ (n : Int) = 16 ∨ (n : Int) = 32 ∨ (n : Int) = 64)) := by decide +kernel
  have := h v.toNat (by omega) (by omega)
  rw [Int.toNat_of_nonneg (by omega)] at this
  exact this
theorem adv_sf : SFm s (adv s a) := ⟨fun c x => adv_row (by omega), fun j x => adv_col (by omega)⟩
theorem tel_sf {n : Int} : SFm s (tel s n a) := ⟨fun c x => tel_row (by omega), fun j x => tel_col (by omega) (by omega)⟩
theorem cur_sf : SFc s (cur T s a) := cur_ef.sf
theorem ro_sf {c j : Nat} {v : Int} (h : 91 ≤ c ∧ c ≤ 132) : SFm s (ax_u2 s c j v) := ⟨fun b x => u2_row _ _ _ (by omega), fun j _ => by rw [u2_row _ _ _ (by omega)]⟩
/-- the reference, once it has told a fault -/
theorem fl359 (hf : 0 < m 84 6) (x : Int) : j_233_359 x m = some m := by
  unfold j_233_359
  rw [if_neg (by omega)]
theorem fl158 (hf : 0 < m 84 6) (hS : S < 4100) : ∃ m' : Sg, j_233_158 (S : Int) m = some m' ∧ BSm m m' := by
  have e : 0 < (ax_u2 m 97 S 0) 84 6 := by rw [u2_row _ _ _ (by decide)]; exact hf
  refine ⟨ax_u2 m 97 S 0, ?_, ro_sf (by decide), e⟩
  unfold j_233_158
  rw [takeF hf, Option.bind_some, gd_pos (by omega), Int.toNat_natCast]
  dsimp only
  rw [takeF e, Option.bind_some]
  exact fl359 e _
theorem fl133 (hf : 0 < m 84 6) (hS : S < 4100) : ∃ m' : Sg, j_233_133 (S : Int) m = some m' ∧ BSm m m' := by
  have e : 0 < (ax_u2 m 96 S 0) 84 6 := by rw [u2_row _ _ _ (by decide)]; exact hf
  obtain ⟨m', k1, k2⟩ := fl158 (S := S) e hS
  refine ⟨m', ?_, (ro_sf (by decide)).trans k2.1, k2.2⟩
  unfold j_233_133
  rw [takeF hf, Option.bind_some]
  dsimp only
  rw [takeF hf, Option.bind_some, gd_pos (by omega), Int.toNat_natCast]
  dsimp only
  rw [takeF e, Option.bind_some]
  exact k1
/-- the width and the semicolon -/
theorem tl_c (hT : TWF T) (hc : CC T s) (hu : CU T s a) (hS : s 54 6 = ((S + 1 : Nat) : Int)) (hS8 : S < 1171) (h57 : s 57 S = 0) (t1 : T.tk a = 2) (t2 : T.tk (a + 1) = 59) :
    ∃ s' : Sg, j_150_84 s = some (.inl s') ∧ CU T s' (a + 2) ∧ s' 57 S = mn (T.vl a) ∧ (∀ i, i ≠ S → s' 57 i = s 57 i) ∧ (∀ c, ¬ (c = 30 ∨ c = 39 ∨ c = 57) → s' c = s c) ∧ (∀ j, j ≠ 10 → j ≠ 11 → s' 39 j = s 39 j) ∧ (∀ j, j < 4 ∨ 7 < j → s' 30 j = s 30 j) ∧ (CN s' ↔ CN s ∧ 1 ≤ T.vl a ∧ T.vl a ≤ 32) := by
  have hz := hT.lt hu.2.2 (by rw [t1]; decide)
  have hz1 := hT.lt (show a + 1 ≤ T.z by omega) (by rw [t2]; decide)
  have hv := hT.2.2.2.2.1 a hz
  obtain ⟨s1, n1, n2, n3, n4⟩ := c93 (lo := 1) (hi := 32) hT hc hu t1
  have cc1 : CC T (cur T s1 (a + 1)) := cur_cc ((ef30 n3 n4).cc hc)
  have h54 : (cur T s1 (a + 1)) 54 6 = ((S + 1 : Nat) : Int) := by rw [cur_row (by decide), n3 54 (by decide)]; exact hS
  obtain ⟨_, ⟨g1, g2⟩, _⟩ := c181 h54 hS8 (mn (T.vl a))
  have e57 : (cur T s1 (a + 1)) 57 S = 0 := by rw [cur_row (by decide), n3 57 (by decide)]; exact h57
  have mnb : 0 ≤ mn (T.vl a) ∧ mn (T.vl a) ≤ 1073741824 := by unfold mn; split <;> omega
  rw [e57, Int.zero_add, w32_id (by omega) (by omega)] at g2
  have cc2 : CC T (ax_u2 (cur T s1 (a + 1)) 57 S (mn (T.vl a))) := cc1.row (by simp [ax_u2]) (u2_row _ _ _ (by decide)) (u2_row _ _ _ (by decide)) (u2_row _ _ _ (by decide)) (by simp [ax_u2]) (u2_row _ _ _ (by decide))
  have cu2 : CU T (ax_u2 (cur T s1 (a + 1)) 57 S (mn (T.vl a))) (a + 1) := by
    have := cur_cu (T := T) (s := s1) (a := a + 1) (by omega)
    unfold CU at *
    rw [u2_row _ _ _ (by decide)]
    exact this
  refine ⟨cur T (ax_u2 (cur T s1 (a + 1)) 57 S (mn (T.vl a))) (a + 2), ?_, cur_cu (by omega), ?_, ?_, ?_, ?_, ?_, ?_⟩
  · unfold j_150_84
    rw [n1]
    show gd (g_190 (mn (T.vl a)) (cur T s1 (a + 1))) _ = _
    rw [gd_pos g1, g2, Option.bind_some, c92y hT cc2 cu2 t2 (by decide)]
    rfl
  · rw [cur_row (by decide)]; exact u2_same _ _ _ _
  · intro i hi
    rw [cur_row (by decide), u2_col _ _ _ hi, cur_row (by decide), n3 57 (by decide)]
  · intro c x
    rw [cur_row (by omega), u2_row _ _ _ (by omega), cur_row (by omega), n3 c (by omega)]
  · intro j x y
    rw [cur_col x y, u2_row _ _ _ (by decide), cur_col x y, n3 39 (by decide)]
  · intro j x
    rw [cur_row (by decide), u2_row _ _ _ (by decide), cur_row (by decide), n4 j x]
  · have : CN (cur T (ax_u2 (cur T s1 (a + 1)) 57 S (mn (T.vl a))) (a + 2)) ↔ CN s1 := by unfold CN; rw [cur_row (by decide), u2_row _ _ _ (by decide), cur_row (by decide)]
    rw [this, n2]
theorem tl_cn (hT : TWF T) (hc : CC T s) (hu : CU T s a) (hS : s 54 6 = ((S + 1 : Nat) : Int)) (hS8 : S < 1171) (t : ¬ (T.tk a = 2 ∧ T.tk (a + 1) = 59)) : ∃ s' : Sg, j_150_84 s = some (.inr (15, s')) ∧ BSc T s s' := by
  unfold j_150_84
  by_cases t1 : T.tk a = 2
  · have hz := hT.lt hu.2.2 (by rw [t1]; decide)
    obtain ⟨s1, n1, n2, n3, n4⟩ := c93 (lo := 1) (hi := 32) hT hc hu t1
    have h54 : (cur T s1 (a + 1)) 54 6 = ((S + 1 : Nat) : Int) := by rw [cur_row (by decide), n3 54 (by decide)]; exact hS
    obtain ⟨_, ⟨g1, g2⟩, _⟩ := c181 h54 hS8 (mn (T.vl a))
    have cu2 : CU T (f_190 (mn (T.vl a)) (cur T s1 (a + 1))) (a + 1) := by
      have := cur_cu (T := T) (s := s1) (a := a + 1) (by omega)
      rw [g2]
      unfold CU at *
      rw [u2_row _ _ _ (by decide)]
      exact this
    rw [n1]
    show ∃ s' : Sg, gd (g_190 (mn (T.vl a)) (cur T s1 (a + 1))) _ = _ ∧ _
    rw [gd_pos g1, Option.bind_some, c92n cu2 (fun y => t ⟨t1, y⟩)]
    refine ⟨_, rfl, ?_, _, cu2⟩
    rw [g2]
    refine ((ef30 n3 n4).sf.trans cur_sf).trans ⟨fun c x => u2_row _ _ _ (by omega), fun j _ _ => by rw [u2_row _ _ _ (by decide)], fun j _ => by rw [u2_row _ _ _ (by decide)], fun j _ => by rw [u2_row _ _ _ (by decide)], W8.same (u2_row _ _ _ (by decide))⟩
  · rw [c93n hu t1]
    exact ⟨s, rfl, SFc.refl _, a, hu⟩
/-- the reference's way of the same -/
theorem tl_m (hT : TWF T) (hM : MC T m) (hf : m 84 6 = 0) (hu : m 84 18 = (a : Int)) (ha : a ≤ T.z) (hS : S < 4100) (t1 : T.tk a = 2) (t2 : T.tk (a + 1) = 59) : j_233_158 (S : Int) m = j_233_359 (S : Int) (adv (ax_u2 (adv m (a + 1)) 97 S (a : Int)) (a + 2)) := by
  have hz := hT.lt ha (by rw [t1]; decide)
  unfold j_233_158
  rw [takeY hM hT hf hu ha (k := 2) (by decide) t1, Option.bind_some, gd_pos (by omega), Int.toNat_natCast]
  dsimp only
  rw [takeY ((adv_mc hM).row (by simp [ax_u2]) (u2_row _ _ _ (by decide))) hT (by rw [u2_row _ _ _ (by decide), adv_col (by decide)]; exact hf) (by rw [u2_row _ _ _ (by decide)]; exact adv_at) (by omega) (k := 59) (by decide) t2, Option.bind_some]
theorem tl_mn (hT : TWF T) (hM : MC T m) (hf : m 84 6 = 0) (hu : m 84 18 = (a : Int)) (ha : a ≤ T.z) (hS : S < 4100) (t : ¬ (T.tk a = 2 ∧ T.tk (a + 1) = 59)) : ∃ m' : Sg, j_233_158 (S : Int) m = some m' ∧ BSm m m' := by
  unfold j_233_158
  by_cases t1 : T.tk a = 2
  · have hz := hT.lt ha (by rw [t1]; decide)
    have e : 0 < (tel (ax_u2 (adv m (a + 1)) 97 S (a : Int)) 2 (a + 1)) 84 6 := by rw [tel_at]; decide
    refine ⟨_, ?_, (adv_sf.trans (ro_sf (by decide))).trans tel_sf, e⟩
    rw [takeY hM hT hf hu ha (k := 2) (by decide) t1, Option.bind_some, gd_pos (by omega), Int.toNat_natCast]
    dsimp only
    rw [takeN ((adv_mc hM).row (by simp [ax_u2]) (u2_row _ _ _ (by decide))) hT (by rw [u2_row _ _ _ (by decide), adv_col (by decide)]; exact hf) (by rw [u2_row _ _ _ (by decide)]; exact adv_at) (by omega) (k := 59) (by decide) (by decide) (fun y => t ⟨t1, y⟩), Option.bind_some]
    exact fl359 e _
  · have e : 0 < (ax_u2 (tel m 2 a) 97 S 0) 84 6 := by rw [u2_row _ _ _ (by decide), tel_at]; decide
    refine ⟨ax_u2 (tel m 2 a) 97 S 0, ?_, tel_sf.trans (ro_sf (by decide)), e⟩
    rw [takeN hM hT hf hu ha (k := 2) (by decide) (by decide) t1, Option.bind_some, gd_pos (by omega), Int.toNat_natCast]
    dsimp only
    rw [takeF e, Option.bind_some]
    exact fl359 e _
/-- the brackets -/
theorem br_m (hT : TWF T) (hM : MC T m) (hf : m 84 6 = 0) (hu : m 84 18 = (a : Int)) (ha : a ≤ T.z) (hS : S < 4100) (t1 : T.tk a = 91) (t2 : T.tk (a + 1) = 2) (t3 : T.tk (a + 2) = 93) : j_233_133 (S : Int) m = j_233_158 (S : Int) (adv (ax_u2 (adv (adv m (a + 1)) (a + 2)) 96 S ((a + 1 : Nat) : Int)) (a + 3)) := by
  have hz := hT.lt ha (by rw [t1]; decide)
  have hz1 := hT.lt (show a + 1 ≤ T.z by omega) (by rw [t2]; decide)
  unfold j_233_133
  rw [takeY hM hT hf hu ha (k := 91) (by decide) t1, Option.bind_some]
  dsimp only
  rw [takeY (adv_mc hM) hT (by rw [adv_col (by decide)]; exact hf) adv_at (by omega) (k := 2) (by decide) t2, Option.bind_some, gd_pos (by omega), Int.toNat_natCast]
  dsimp only
  rw [takeY ((adv_mc (adv_mc hM)).row (by simp [ax_u2]) (u2_row _ _ _ (by decide))) hT (by rw [u2_row _ _ _ (by decide), adv_col (by decide), adv_col (by decide)]; exact hf) (by rw [u2_row _ _ _ (by decide)]; exact adv_at) (by omega) (k := 93) (by decide) t3, Option.bind_some]
theorem br_mn (hT : TWF T) (hM : MC T m) (hf : m 84 6 = 0) (hu : m 84 18 = (a : Int)) (ha : a ≤ T.z) (hS : S < 4100) (t : ¬ (T.tk a = 91 ∧ T.tk (a + 1) = 2 ∧ T.tk (a + 2) = 93)) : ∃ m' : Sg, j_233_133 (S : Int) m = some m' ∧ BSm m m' := by
  unfold j_233_133
  by_cases t1 : T.tk a = 91
  · have hz := hT.lt ha (by rw [t1]; decide)
    rw [takeY hM hT hf hu ha (k := 91) (by decide) t1, Option.bind_some]
    dsimp only
    by_cases t2 : T.tk (a + 1) = 2
    · have hz1 := hT.lt (show a + 1 ≤ T.z by omega) (by rw [t2]; decide)
      have e : 0 < (tel (ax_u2 (adv (adv m (a + 1)) (a + 2)) 96 S ((a + 1 : Nat) : Int)) 2 (a + 2)) 84 6 := by rw [tel_at]; decide
      obtain ⟨m', k1, k2⟩ := fl158 (S := S) e hS
      refine ⟨m', ?_, (((adv_sf.trans adv_sf).trans (ro_sf (by decide))).trans tel_sf).trans k2.1, k2.2⟩
      rw [takeY (adv_mc hM) hT (by rw [adv_col (by decide)]; exact hf) adv_at (by omega) (k := 2) (by decide) t2, Option.bind_some, gd_pos (by omega), Int.toNat_natCast]
      dsimp only
      rw [takeN ((adv_mc (adv_mc hM)).row (by simp [ax_u2]) (u2_row _ _ _ (by decide))) hT (by rw [u2_row _ _ _ (by decide), adv_col (by decide), adv_col (by decide)]; exact hf) (by rw [u2_row _ _ _ (by decide)]; exact adv_at) (by omega) (k := 93) (by decide) (by decide) (fun y => t ⟨t1, t2, y⟩), Option.bind_some]
      exact k1
    · have e : 0 < (ax_u2 (tel (adv m (a + 1)) 2 (a + 1)) 96 S 0) 84 6 := by rw [u2_row _ _ _ (by decide), tel_at]; decide
      obtain ⟨m', k1, k2⟩ := fl158 (S := S) e hS
      refine ⟨m', ?_, ((adv_sf.trans tel_sf).trans (ro_sf (by decide))).trans k2.1, k2.2⟩
      rw [takeN (adv_mc hM) hT (by rw [adv_col (by decide)]; exact hf) adv_at (by omega) (k := 2) (by decide) (by decide) t2, Option.bind_some, gd_pos (by omega), Int.toNat_natCast]
      dsimp only
      rw [takeF e, Option.bind_some]
      exact k1
  · have e0 : 0 < (tel m 2 a) 84 6 := by rw [tel_at]; decide
    have e : 0 < (ax_u2 (tel m 2 a) 96 S 0) 84 6 := by rw [u2_row _ _ _ (by decide)]; exact e0
    obtain ⟨m', k1, k2⟩ := fl158 (S := S) e hS
    refine ⟨m', ?_, (tel_sf.trans (ro_sf (by decide))).trans k2.1, k2.2⟩
    rw [takeN hM hT hf hu ha (k := 91) (by decide) (by decide) t1, Option.bind_some]
    dsimp only
    rw [takeF e0, Option.bind_some, gd_pos (by omega), Int.toNat_natCast]
    dsimp only
    rw [takeF e, Option.bind_some]
    exact k1
end RM
