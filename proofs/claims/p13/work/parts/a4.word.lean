/-! THE WHOLE TEXT is read, on both sides. -/
/-- behind cutting -/
def IN0 (T : TT) (sc sm : Sg) : Prop := CC T sc ∧ MC T sm ∧ CU T sc 0 ∧ sm 84 6 = 0 ∧ sc 46 7 = 0 ∧ sm 84 47 = 0 ∧ sm 84 57 = 0 ∧ sc 66 7 = 0 ∧ (∀ k, k < T.z → FRS T sc sm k) ∧ sc 54 6 = 0 ∧ sm 84 19 = 0 ∧ sm 84 31 = 0 ∧ sm 84 34 = 0 ∧ sc 61 4 = 0 ∧ sc 31 8 = 0 ∧ sc 70 9 = 0 ∧ CN sc ∧ (∀ id, IDN T id → sc 36 id = -1 ∧ sc 37 id = 0) ∧ CX T sc
section WORDL
variable {T : TT} {sc sm : Sg}
theorem all_sim (hT : TWF T) (hp : POS T) (h : IN0 T sc sm) : POUT T sc sm 1 (f_15 sc) (f_209 sm) := by
  obtain ⟨h1, h2, h3, h4, h5, h6, h7, h8, h9, h10, h11, h12, h13, h14, h15', h16, h17, h18, h19⟩ := h
  have hz8 := hT.1
  obtain ⟨m0, hm0⟩ : ∃ s : Sg, s = adv sm 0 := ⟨_, rfl⟩
  have sg0 : SFm sm m0 := by rw [hm0]; exact adv_sf
  have f0 : m0 84 6 = 0 := by rw [hm0, adv_col (by decide)]; exact h4
  have u0 : m0 84 18 = ((0 : Nat) : Int) := by rw [hm0]; exact adv_at
  have rm : f_209 sm = (f_231 30 m0).bind fun q1 => (f_231 2 q1.2).bind fun q2 => (f_231 7 (ax_u2 q2.2 84 30 q2.1)).bind fun q3 => j_209_28 FU q3.2 := by rw [hm0]; rfl
  have fail : ∀ (s' mF : Sg), f_141 sc = some (.inr (15, s')) → BSc T sc s' → f_209 sm = some mF → BSm sm mF → POUT T sc sm 1 (f_15 sc) (f_209 sm) := by
    intro s' mF k1 k2 k3 k4
    obtain ⟨sc', q1, q2, q3⟩ := h15 (s := s') hT h1 (Or.inr rfl) k2
    exact Or.inr ⟨sc', mF, by unfold f_15; rw [k1, xc_inr]; exact q1, k3, q2, q3, k4.1, k4.2⟩
  have flt : ∀ (m : Sg), 0 < m 84 6 → ((f_231 7 (ax_u2 m 84 30 0)).bind fun q3 => j_209_28 FU q3.2) = some (ax_u2 m 84 30 0) ∧ BSm m (ax_u2 m 84 30 0) := fun m hf => by
    have e : 0 < (ax_u2 m 84 30 0) 84 6 := by rw [u2_col _ _ _ (by decide)]; exact hf
    refine ⟨?_, slot_sf (by decide), e⟩
    rw [takeF e, Option.bind_some]
    exact fl28 e FU1
  by_cases t0 : T.tk 0 = 16
  rotate_left
  · have e1 : 0 < (tel m0 2 0) 84 6 := by rw [tel_at]; decide
    obtain ⟨y1, y2⟩ := flt _ e1
    refine fail sc _ ?_ ⟨SFc.refl _, _, h3⟩ ?_ ⟨(sg0.trans tel_sf).trans y2.1, y2.2⟩
    · unfold f_141
      rw [c92n h3 t0, xb_err]
    · rw [rm, takeN (sg0.mc h2) hT f0 u0 h3.2.2 (k := 16) (by decide) (by decide) t0, Option.bind_some]
      dsimp only
      rw [takeF e1, Option.bind_some]
      exact y1
  have z0 := hT.lt h3.2.2 (by rw [t0]; decide)
  have cu1 : CU T (cur T sc 1) 1 := cur_cu (by omega)
  have cc1 : CC T (cur T sc 1) := cur_sf.cc h1
  obtain ⟨m1, hm1⟩ : ∃ s : Sg, s = adv m0 1 := ⟨_, rfl⟩
  have sg1 : SFm sm m1 := by rw [hm1]; exact sg0.trans adv_sf
  have f1 : m1 84 6 = 0 := by rw [hm1, adv_col (by decide)]; exact f0
  have u1 : m1 84 18 = ((1 : Nat) : Int) := by rw [hm1]; exact adv_at
  have rc1 : f_141 sc = xb (f_93 1 64 (cur T sc 1)) fun q2 => (xb (f_92 59 (ax_u2 q2.2 54 7 q2.1)) fun q3 => some (.inl q3)) := by
    unfold f_141
    rw [c92y hT h1 h3 t0 (by decide), xb_inl]
  have rm1 : f_209 sm = (f_231 2 m1).bind fun q2 => (f_231 7 (ax_u2 q2.2 84 30 q2.1)).bind fun q3 => j_209_28 FU q3.2 := by
    rw [rm, takeY (sg0.mc h2) hT f0 u0 h3.2.2 (k := 16) (by decide) t0, Option.bind_some, hm1]
  by_cases t1 : T.tk 1 = 2
  rotate_left
  · have e1 : 0 < (tel m1 2 1) 84 6 := by rw [tel_at]; decide
    obtain ⟨y1, y2⟩ := flt _ e1
    refine fail (cur T sc 1) _ ?_ ⟨cur_sf, _, cu1⟩ ?_ ⟨(sg1.trans tel_sf).trans y2.1, y2.2⟩
    · rw [rc1, c93n cu1 t1, xb_err]
    · rw [rm1, takeN (sg1.mc h2) hT f1 u1 cu1.2.2 (k := 2) (by decide) (by decide) t1, Option.bind_some]
      exact y1
  have z1 := hT.lt cu1.2.2 (by rw [t1]; decide)
  obtain ⟨s2, k1, k2, k3, k4⟩ := c93 (lo := 1) (hi := 64) hT cc1 cu1 t1
  obtain ⟨sc2, hsc2⟩ : ∃ s : Sg, s = ax_u2 (cur T s2 2) 54 7 (mn (T.vl 1)) := ⟨_, rfl⟩
  have r2 : ∀ c, c ≠ 30 → c ≠ 39 → c ≠ 54 → sc2 c = sc c := fun c x y z => by rw [hsc2, u2_row _ _ _ z, cur_row y, k3 c x, cur_row y]
  have r39 : sc2 39 = (cur T s2 2) 39 := by rw [hsc2, u2_row _ _ _ (by decide)]
  have sf2 : SFc sc sc2 := ⟨fun c x => r2 c (by omega) (by omega) (by omega), fun j x y => by rw [r39, cur_col x y, k3 39 (by decide), cur_col x y], fun j x => by rw [hsc2, u2_row _ _ _ (by decide), cur_row (by decide), k4 j x, cur_row (by decide)], fun j _ => by rw [r2 31 (by decide) (by decide) (by decide)], W8.same (r2 31 (by decide) (by decide) (by decide))⟩
  have cv2 := cur_cu (T := T) (s := s2) (a := 2) (by omega)
  have cu2 : CU T sc2 2 := ⟨by rw [r39]; exact cv2.1, by rw [r39]; exact cv2.2.1, cv2.2.2⟩
  obtain ⟨m2, hm2⟩ : ∃ s : Sg, s = ax_u2 (adv m1 2) 84 30 ((1 : Nat) : Int) := ⟨_, rfl⟩
  have sg2 : SFm sm m2 := by rw [hm2]; exact (sg1.trans adv_sf).trans (slot_sf (by decide))
  have f2 : m2 84 6 = 0 := by rw [hm2, u2_col _ _ _ (by decide), adv_col (by decide)]; exact f1
  have u2 : m2 84 18 = ((2 : Nat) : Int) := by rw [hm2, u2_col _ _ _ (by decide)]; exact adv_at
  have rc2 : f_141 sc = xb (f_92 59 sc2) fun q3 => some (.inl q3) := by
    rw [rc1, k1, xb_inl, hsc2]
  have rm2 : f_209 sm = (f_231 7 m2).bind fun q3 => j_209_28 FU q3.2 := by
    rw [rm1, takeY (sg1.mc h2) hT f1 u1 cu1.2.2 (k := 2) (by decide) t1, Option.bind_some, hm2]
  by_cases t2 : T.tk 2 = 59
  rotate_left
  · have e1 : 0 < (tel m2 2 2) 84 6 := by rw [tel_at]; decide
    refine fail sc2 (tel m2 2 2) ?_ ⟨sf2, _, cu2⟩ ?_ ⟨sg2.trans tel_sf, e1⟩
    · rw [rc2, c92n cu2 t2, xb_err]
    · rw [rm2, takeN (sg2.mc h2) hT f2 u2 cu2.2.2 (k := 59) (by decide) (by decide) t2, Option.bind_some]
      exact fl28 e1 FU1
  have z2 := hT.lt cu2.2.2 (by rw [t2]; decide)
  obtain ⟨sc3, hsc3⟩ : ∃ s : Sg, s = cur T sc2 3 := ⟨_, rfl⟩
  obtain ⟨m3, hm3⟩ : ∃ s : Sg, s = adv m2 3 := ⟨_, rfl⟩
  have rc3 : f_15 sc = j_15_9 FU ((0 : Nat) : Int) sc3 := by
    unfold f_15
    rw [rc2, c92y hT (sf2.cc h1) cu2 t2 (by decide), xb_inl, xc_inl, hsc3]
    rfl
  have rm3 : f_209 sm = j_209_28 FU m3 := by
    rw [rm2, takeY (sg2.mc h2) hT f2 u2 cu2.2.2 (k := 59) (by decide) t2, Option.bind_some, hm3]
  have r3 : ∀ c, c ≠ 30 → c ≠ 39 → c ≠ 54 → sc3 c = sc c := fun c x y z => by rw [hsc3, cur_row y, r2 c x y z]
  have q3 : ∀ c, c ≠ 84 → m3 c = sm c := fun c x => by rw [hm3, adv_row x, hm2, u2_row _ _ _ x, adv_row x, hm1, adv_row x, hm0, adv_row x]
  have q8 : ∀ j, j ≠ 18 → j ≠ 30 → m3 84 j = sm 84 j := fun j x y => by rw [hm3, adv_col x, hm2, u2_col _ _ _ y, adv_col x, hm1, adv_col x, hm0, adv_col x]
  have sf3 : SFc sc sc3 := by rw [hsc3]; exact sf2.trans cur_sf
  have sg3 : SFm sm m3 := by rw [hm3]; exact sg2.trans adv_sf
  have cn3 : CN sc3 ↔ 1 ≤ T.vl 1 ∧ T.vl 1 ≤ 64 := by
    have e1 : CN sc3 ↔ CN s2 := by unfold CN; rw [hsc3, cur_row (by decide), hsc2, u2_row _ _ _ (by decide), cur_row (by decide)]
    have e2 : CN (cur T sc 1) ↔ CN sc := by unfold CN; rw [cur_row (by decide)]
    rw [e1, k2, e2]
    exact ⟨fun y => y.2, fun y => ⟨h17, y⟩⟩
  have frs : ∀ k, k < T.z → FRS T sc3 m3 k := fun k hk => by
    obtain ⟨g1, g2, g3, g4⟩ := h9 k hk
    exact ⟨by rw [r3 45 (by decide) (by decide) (by decide)]; exact g1, by rw [q3 91 (by decide)]; exact g2, by rw [q3 92 (by decide)]; exact g3, by rw [q3 93 (by decide)]; exact g4⟩
  have no : ∀ {α : Prop} {i : Nat}, i < 0 → α := fun {_ _} hi => absurd hi (Nat.not_lt_zero _)
  have dat : DAT T sc3 m3 0 0 0 0 0 1 := by
    refine ⟨fun i hi => no hi, fun i hi => no hi, ⟨fun i hi => no hi, fun _ i hi => no hi, fun i hi => no hi, fun i hi => no hi⟩, fun i hi => no hi, fun _ i hi => no hi, fun id hid => Or.inl ⟨by rw [r3 36 (by decide) (by decide) (by decide)]; exact (h18 id hid).1, fun i hi => no hi⟩, ?_⟩
    rw [cn3]
    exact ⟨⟨fun y => ⟨y, fun i hi => no hi, fun i hi => no hi, fun i hi => no hi⟩, fun y => y.1⟩, ⟨fun i hi => no hi, fun i hi => no hi⟩, ⟨fun i hi => no hi, fun i _ hi => no hi⟩, fun i hi => no hi⟩
  have f3 := hT.2.2.2.1 3 (by omega)
  have tks : ∀ k, k < 3 → k = 0 ∨ k = 1 ∨ k = 2 := fun k hk => by omega
  have v54 : sc3 54 7 = mn (T.vl 1) := by rw [hsc3, cur_row (by decide), hsc2]; exact u2_same _ _ _ _
  have w54 : sc3 54 6 = 0 := by rw [hsc3, cur_row (by decide), hsc2, u2_col _ _ _ (by decide), cur_row (by decide), k3 54 (by decide), cur_row (by decide)]; exact h10
  have ps : PS0 T sc sm sc3 m3 3 0 0 0 0 0 0 1 := by
    refine ⟨⟨sf3.cc h1, sg3.mc h2, by rw [hsc3]; exact cur_cu (by omega), by rw [hm3]; exact adv_at, by rw [q8 6 (by decide) (by decide)]; exact h4, ⟨by rw [r3 46 (by decide) (by decide) (by decide)]; exact h5, by rw [q8 47 (by decide) (by decide)]; exact h6, by rw [q8 57 (by decide) (by decide)]; exact h7, fun i hi => no hi⟩, by rw [r3 66 (by decide) (by decide) (by decide)]; exact h8, fun k _ hk => frs k hk, fun k hk => (frs k (by omega)).lf, w54, by rw [q8 31 (by decide) (by decide)]; exact h12, by rw [q8 34 (by decide) (by decide)]; exact h13, by rw [r3 61 (by decide) (by decide) (by decide)]; exact h14, by rw [r3 31 (by decide) (by decide) (by decide)]; exact h15', sf3, sg3, dat, fun i hi => no hi, ?_, ?_, by omega, by omega, by omega, by omega, by omega, by omega, by omega, ?_, v54, by omega, t1⟩, by rw [r3 70 (by decide) (by decide) (by decide)]; exact h16, by rw [q8 19 (by decide) (by decide)]; exact h11, by omega, fun _ id hid => by rw [r3 37 (by decide) (by decide) (by decide)]; exact (h18 id hid).2, fun i hi => no hi, Or.inl t2, ?_⟩
    · intro k x y
      rcases tks k y with e | e | e
      · omega
      · rw [e]
        exact Or.inr (Or.inr (Or.inl (by rw [show 1 - 1 = 0 by omega, t0, t1]; decide)))
      · rw [e]
        exact Or.inr (Or.inl ⟨by rw [show 2 - 1 = 1 by omega, t1]; decide, Or.inl t2⟩)
    · intro k y
      rcases tks k y with e | e | e
      · rw [e]
        exact ⟨fun u => absurd u (by rw [t0]; decide), fun u => absurd u.1 (by omega)⟩
      · rw [e]
        exact STT.inn (by rw [t1]; decide) (by rw [show 1 - 1 = 0 by omega, t0]; decide) (by rw [show 1 - 1 = 0 by omega, t0]; decide)
      · rw [e]
        exact STT.inn (by rw [t2]; decide) (by rw [show 2 - 1 = 1 by omega, t1]; decide) (by rw [show 2 - 1 = 1 by omega, t1]; decide)
    · rw [hm3, adv_col (by decide), hm2]
      exact u2_same _ _ _ _
    · show dpt T 2 + _ = 0
      rw [show dpt T 2 = dpt T 1 + (if T.tk 1 = 123 then 1 else if T.tk 1 = 125 then -1 else 0) from rfl, show dpt T 1 = dpt T 0 + (if T.tk 0 = 123 then 1 else if T.tk 0 = 125 then -1 else 0) from rfl, show dpt T 0 = 0 from rfl, t0, t1, t2]
      decide
  rw [rc3, rm3]
  have zz : 3 ≤ T.z := by omega
  exact (stm_sim hT hp h1 h19 (T.z - 3)).1 FU FU 0 (by omega) ps (by omega) (by unfold FU; omega) (by unfold FU; omega)
end WORDL
