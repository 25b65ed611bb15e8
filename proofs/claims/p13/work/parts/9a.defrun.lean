/-! A HELPER on both sides: how both run. -/
/-- the reference's state before a statement's own word is taken; behind its NAME -/
def HD0 (sm : Sg) (S P N : Nat) : Sg := ax_u2 (ax_u2 (ax_u2 (ax_u2 (ax_u2 (ax_u2 (ax_u2 sm 96 S (-1)) 98 S (P : Int)) 99 S 0) 100 S (-1)) 102 S 0) 103 S (N : Int)) 84 46 (-1)
def HDm (sm : Sg) (S P N a : Nat) (kd : Int) : Sg := ax_u2 (adv (ax_u2 (adv (HD0 sm S P N) (a + 1)) 94 S kd) (a + 2)) 95 S ((a + 1 : Nat) : Int)
section HRUN
variable {T : TT} {sc0 sm0 sc sm m : Sg} {a S P A N K C w : Nat} {kd : Int}
theorem HD0_row {c : Nat} (h : ¬ (c = 84 ∨ c = 96 ∨ 98 ≤ c ∧ c ≤ 100 ∨ c = 102 ∨ c = 103)) : HD0 sm S P N c = sm c := by
  unfold HD0
  rw [u2_row _ _ _ (by omega), u2_row _ _ _ (by omega), u2_row _ _ _ (by omega), u2_row _ _ _ (by omega), u2_row _ _ _ (by omega), u2_row _ _ _ (by omega), u2_row _ _ _ (by omega)]
theorem HD0_84 {j : Nat} (h : j ≠ 46) : HD0 sm S P N 84 j = sm 84 j := by
  unfold HD0
  rw [u2_col _ _ _ h, u2_row _ _ _ (by decide), u2_row _ _ _ (by decide), u2_row _ _ _ (by decide), u2_row _ _ _ (by decide), u2_row _ _ _ (by decide), u2_row _ _ _ (by decide)]
theorem HD0_col {c i : Nat} (h : c ≠ 84) (hi : i ≠ S) : HD0 sm S P N c i = sm c i := by
  unfold HD0
  simp [ax_u2, h, hi]
theorem HD0_sf : SFm sm (HD0 sm S P N) := ⟨fun c x => HD0_row (by omega), fun j x => HD0_84 (by omega)⟩
theorem HDm_row {c : Nat} (h : ¬ (c = 84 ∨ 94 ≤ c ∧ c ≤ 103)) : HDm sm S P N a kd c = sm c := by
  unfold HDm
  rw [u2_row _ _ _ (by omega), adv_row (by omega), u2_row _ _ _ (by omega), adv_row (by omega), HD0_row (by omega)]
theorem HDm_84 {j : Nat} (h : j ≠ 46) (h2 : j ≠ 18) : HDm sm S P N a kd 84 j = sm 84 j := by
  unfold HDm
  rw [u2_row _ _ _ (by decide), adv_col h2, u2_row _ _ _ (by decide), adv_col h2, HD0_84 h]
theorem HDm_at : HDm sm S P N a kd 84 18 = ((a + 2 : Nat) : Int) := by
  unfold HDm
  rw [u2_row _ _ _ (by decide), adv_at]
theorem HDm_col {c i : Nat} (h : c ≠ 84) (hi : i ≠ S) : HDm sm S P N a kd c i = sm c i := by
  unfold HDm
  have u : ∀ (s : Sg) (d : Nat) (v : Int), (ax_u2 s d S v) c i = s c i := fun s d v => by simp [ax_u2, hi]
  rw [u, adv_row h, u, adv_row h, HD0_col h hi]
theorem HDm_S : HDm sm S P N a kd 84 46 = -1 ∧ HDm sm S P N a kd 94 S = kd ∧ HDm sm S P N a kd 95 S = ((a + 1 : Nat) : Int) ∧ HDm sm S P N a kd 96 S = -1 ∧ HDm sm S P N a kd 98 S = (P : Int) ∧ HDm sm S P N a kd 99 S = 0 ∧ HDm sm S P N a kd 102 S = 0 ∧ HDm sm S P N a kd 103 S = (N : Int) := by
  unfold HDm
  refine ⟨?_, ?_, ?_, ?_, ?_, ?_, ?_, ?_⟩
  · rw [u2_row _ _ _ (by decide), adv_col (by decide), u2_row _ _ _ (by decide), adv_col (by decide)]; simp [HD0, ax_u2]
  · rw [u2_row _ _ _ (by decide), adv_row (by decide)]; exact u2_same _ _ _ _
  · exact u2_same _ _ _ _
  all_goals rw [u2_row _ _ _ (by decide), adv_row (by decide), u2_row _ _ _ (by decide), adv_row (by decide)]; simp [HD0, ax_u2]
theorem HDm_sf : SFm sm (HDm sm S P N a kd) := ⟨fun c x => HDm_row (by omega), fun j x => HDm_84 (by omega) (by omega)⟩
theorem fl253 (hf : 0 < m 84 6) (hS : S < 4100) : ∃ m' : Sg, f_253 (S : Int) m = some m' ∧ BSm m m' := by
  have e1 : 0 < (ax_u2 m 94 S 2) 84 6 := by rw [u2_row _ _ _ (by decide)]; exact hf
  have e2 : 0 < (ax_u2 (ax_u2 m 94 S 2) 95 S 0) 84 6 := by rw [u2_row _ _ _ (by decide)]; exact e1
  obtain ⟨m', k1, k2⟩ := fl47 (F := FU) (v := 0) FU1 e2 hS
  refine ⟨m', ?_, ((ro_sf (by decide)).trans (ro_sf (by decide))).trans k2.1, k2.2⟩
  unfold f_253
  rw [gd_pos (by omega), Int.toNat_natCast, takeF e1, Option.bind_some, gd_pos (by omega)]
  dsimp only
  rw [takeF e2, Option.bind_some]
  dsimp only
  rw [if_pos (by omega)]
  exact k1
/-- the whole run -/
def HRN (T : TT) (sc sm : Sg) (a S P N K C J b a' N' K' : Nat) (s1 scp mp sc2 sc3 m3 sc4 : Sg) : Prop :=
  T.tk (a + 1) = 1 ∧ T.tk (a + 2) = 40 ∧ HDd sc s1 S (a + 1) N (T.vl (a + 1)).toNat 2 ∧ (CN s1 ↔ CN sc ∧ sc 36 (T.vl (a + 1)).toNat = -1) ∧ PLS T (cur T s1 (a + 3)) (adv (HDm sm S P N a 2) (a + 3)) scp mp (a + 1) S P J ∧ (J = 0 ∧ b = a + 3 ∨ 1 ≤ J ∧ b = a + 2 + 3 * J) ∧ (∀ i, i + 1 < J → T.tk (a + 5 + 3 * i) = 44) ∧
  T.tk b = 41 ∧ T.tk (b + 1) = 2 ∧ T.tk (b + 2) = 61 ∧ T.tk a' = 59 ∧ HWc T scp sc2 S b ∧ TPOST T sc2 (HWm mp S b) (S : Int) (b + 3) N K sc3 m3 a' N' K' ∧ HEc sc3 sc4 J C ((b + 3 : Nat) : Int) ((N' : Int) - 1) (mn (T.vl (b + 1))) ∧ CU T sc4 (a' + 1)
theorem def_run (hT : TWF T) (hp : POS T) (h : PS0 T sc0 sm0 sc sm a S P A N K C w) (t0 : T.tk a = 19) :
    (∃ (s1 scp mp sc2 sc3 m3 sc4 : Sg) (J b a' N' K' : Nat), HRN T sc sm a S P N K C J b a' N' K' s1 scp mp sc2 sc3 m3 sc4 ∧ f_145 sc = some (.inl sc4) ∧ f_233 sm = j_233_359 (S : Int) (adv (ax_u2 m3 100 S ((N' : Int) - 1)) (a' + 1))) ∨
    (∃ (x : Nat) (s' mF : Sg), f_145 sc = some (.inr (x, s')) ∧ (x = 14 ∨ x = 15) ∧ BSc T sc s' ∧ f_233 sm = some mF ∧ BSm sm mF) := by
  obtain ⟨hB, h70, h19, h7, h37, hnc, htl, hdp⟩ := id h
  obtain ⟨e1, e2, e3, e4, e5, e6, e7, e8, e9, e10, e11, e12, e13, e14, e15, e16, e17, e18, e19, e20, e21, e22, e23, e24, e25, e26, e27, e28, e29, e30, e31⟩ := id hB
  have h8 := hT.1
  have n0 : T.tk a ≠ 0 := by rw [t0]; decide
  have hz := hT.lt e3.2.2 n0
  have pz := hp.add (k := a) (T.z - a) (by omega)
  rw [show a + (T.z - a) = T.z by omega] at pz
  have p8 := hp.2.2.2
  have hS1 : S < 1171 := by omega
  have hC1 : C < 2049 := by omega
  have hM0 : MC T (HD0 sm S P N) := HD0_sf.mc e2
  have f0 : (HD0 sm S P N) 84 6 = 0 := by rw [HD0_84 (by decide)]; exact e5
  have u0 : (HD0 sm S P N) 84 18 = (a : Int) := by rw [HD0_84 (by decide)]; exact e4
  have r233 : f_233 sm = (f_253 (S : Int) (adv (HD0 sm S P N) (a + 1))).bind fun q16 => j_233_359 (S : Int) q16 := by
    unfold f_233
    rw [h19, gd_pos (by omega), gd_pos (by omega), gd_pos (by omega), gd_pos (by omega), gd_pos (by omega), gd_pos (by omega), Int.toNat_natCast, e11, e6.2.1]
    show gd (g_252 31 (HD0 sm S P N)) ((some (f_252 31 (HD0 sm S P N))).bind _) = _
    rw [eatN hM0 hT u0 e3.2.2 (k := 17) (by decide) (by decide) (by rw [t0]; decide)]
    rw [if_neg (by simp), eatN hM0 hT u0 e3.2.2 (k := 18) (by decide) (by decide) (by rw [t0]; decide)]
    rw [if_pos rfl, eatY hM0 hT f0 u0 e3.2.2 (k := 19) (by decide) t0]
    rw [if_neg (by simp)]
  have eta : ∀ o : Option (Sum Sg (Nat × Sg)), (xb o fun q => some (.inl q)) = o := fun o => by
    cases o with
    | none => rfl
    | some o => cases o <;> rfl
  have r145 : f_145 sc = f_152 sc := by
    unfold f_145
    rw [e3.2.1, if_neg (by rw [t0]; decide), if_neg (by rw [t0]; decide), if_pos t0, eta]
  have fin : ∀ mF : Sg, f_253 (S : Int) (adv (HD0 sm S P N) (a + 1)) = some mF → 0 < mF 84 6 → f_233 sm = some mF := fun mF k1 k2 => by rw [r233, k1, Option.bind_some]; exact fl359 k2 _
  have sA : SFm sm (ax_u2 (adv (HD0 sm S P N) (a + 1)) 94 S 2) := (HD0_sf.trans adv_sf).trans (ro_sf (by decide))
  have fA : (ax_u2 (adv (HD0 sm S P N) (a + 1)) 94 S 2) 84 6 = 0 := by rw [u2_row _ _ _ (by decide), adv_col (by decide)]; exact f0
  have uA : (ax_u2 (adv (HD0 sm S P N) (a + 1)) 94 S 2) 84 18 = ((a + 1 : Nat) : Int) := by rw [u2_row _ _ _ (by decide)]; exact adv_at
  rw [r145]
  by_cases t1 : T.tk (a + 1) = 1
  rotate_left
  · right
    have e1' : 0 < (tel (ax_u2 (adv (HD0 sm S P N) (a + 1)) 94 S 2) 2 (a + 1)) 84 6 := by rw [tel_at]; decide
    have e2' : 0 < (ax_u2 (tel (ax_u2 (adv (HD0 sm S P N) (a + 1)) 94 S 2) 2 (a + 1)) 95 S 0) 84 6 := by rw [u2_row _ _ _ (by decide)]; exact e1'
    obtain ⟨mF, k1, k2⟩ := fl47 (F := FU) (v := 0) (S := S) FU1 e2' (by omega)
    have r253 : f_253 (S : Int) (adv (HD0 sm S P N) (a + 1)) = some mF := by
      unfold f_253
      rw [gd_pos (by omega), Int.toNat_natCast, takeN (sA.mc e2) hT fA uA (by omega) (k := 1) (by decide) (by decide) t1, Option.bind_some, gd_pos (by omega)]
      dsimp only
      rw [takeF e2', Option.bind_some]
      dsimp only
      rw [if_pos (by omega)]
      exact k1
    refine ⟨15, cur T sc (a + 1), mF, ?_, Or.inr rfl, ⟨cur_sf, _, cur_cu (by omega)⟩, fin mF r253 k2.2, ((sA.trans tel_sf).trans (ro_sf (by decide))).trans k2.1, k2.2⟩
    unfold f_152
    rw [c156n hT e1 e3 n0 t1, xb_err]
  have z1 := hT.lt (show a + 1 ≤ T.z by omega) (by rw [t1]; decide)
  obtain ⟨s1, hd1, hd2, hd3, hd4⟩ := c156 (kd := 2) hT e1 e3 n0 t1 e10 hS1 e6.1
  obtain ⟨q1, q2, q3, q4, q5, q6, q7, q8, q9, q10, q11, q12, q13, q14⟩ := id hd3
  have sf1c : SFc sc s1 := ⟨fun c x => q12 c (by omega), q13, q14, fun j _ => by rw [q12 31 (by omega)], W8.same (q12 31 (by omega))⟩
  have cc1 := sf1c.cc e1
  have mcH : MC T (HDm sm S P N a 2) := HDm_sf.mc e2
  have fH : (HDm sm S P N a 2) 84 6 = 0 := by rw [HDm_84 (by decide) (by decide)]; exact e5
  have r253 : f_253 (S : Int) (adv (HD0 sm S P N) (a + 1)) = (f_231 11 (HDm sm S P N a 2)).bind fun q2 => (if ¬ (q2.2 84 6) = 0 then j_253_45 (S : Int) q2.2 else (gd (g_232 12 q2.2) (j_253_46 (S : Int) ((if ¬ (f_232 12 q2.2) = 0 then 0 else 1) : Int) q2.2))) := by
    unfold f_253
    rw [gd_pos (by omega), Int.toNat_natCast, takeY (sA.mc e2) hT fA uA (by omega) (k := 1) (by decide) t1, Option.bind_some, gd_pos (by omega)]
    rfl
  by_cases t2 : T.tk (a + 2) = 40
  rotate_left
  · right
    have e1' : 0 < (tel (HDm sm S P N a 2) 2 (a + 2)) 84 6 := by rw [tel_at]; decide
    obtain ⟨mF, k1, k2⟩ := fl47 (F := FU) (v := 0) (S := S) FU1 e1' (by omega)
    have r2 : f_253 (S : Int) (adv (HD0 sm S P N) (a + 1)) = some mF := by
      rw [r253, takeN mcH hT fH HDm_at (by omega) (k := 40) (by decide) (by decide) t2, Option.bind_some]
      dsimp only
      rw [if_pos (by omega)]
      exact k1
    refine ⟨15, s1, mF, ?_, Or.inr rfl, ⟨sf1c, _, hd2⟩, fin mF r2 k2.2, (HDm_sf.trans tel_sf).trans k2.1, k2.2⟩
    unfold f_152
    rw [hd1, xb_inl, c92n hd2 t2, xb_err]
  have z2 := hT.lt (show a + 2 ≤ T.z by omega) (by rw [t2]; decide)
  obtain ⟨sc1, hsc1⟩ : ∃ sc1 : Sg, sc1 = cur T s1 (a + 3) := ⟨_, rfl⟩
  obtain ⟨m1, hm1⟩ : ∃ m1 : Sg, m1 = adv (HDm sm S P N a 2) (a + 3) := ⟨_, rfl⟩
  have cu1 : CU T sc1 (a + 3) := by rw [hsc1]; exact cur_cu (by omega)
  have sfc1 : SFc sc sc1 := by rw [hsc1]; exact sf1c.trans cur_sf
  have sfm1 : SFm sm m1 := by rw [hm1]; exact HDm_sf.trans adv_sf
  have ccA := sfc1.cc e1
  have mcA := sfm1.mc e2
  have fm1 : m1 84 6 = 0 := by rw [hm1, adv_col (by decide)]; exact fH
  have um1 : m1 84 18 = ((a + 3 : Nat) : Int) := by rw [hm1]; exact adv_at
  have rA : ∀ c, c ≠ 39 → sc1 c = s1 c := fun c x => by rw [hsc1, cur_row x]
  have h54 : sc1 54 6 = ((S + 1 : Nat) : Int) := by rw [rA 54 (by decide)]; exact q1
  have pl0 : PLS T sc1 m1 sc1 m1 (a + 1) S P 0 := by
    refine ⟨fun _ _ => rfl, fun _ _ _ => rfl, fun _ _ => rfl, fun _ _ => rfl, fun _ _ => rfl, ?_, ?_, fun _ _ => rfl, fun _ _ _ => rfl, fun _ _ => rfl, fun _ _ _ _ _ => rfl, ?_, ?_, fun i hi => absurd hi (by omega), ?_, ?_⟩
    · rw [rA 31 (by decide), q12 31 (by decide)]; exact e14
    · rw [rA 58 (by decide)]; exact q5
    · rw [hm1, adv_col (by decide), HDm_84 (by decide) (by decide)]; exact e11
    · rw [hm1, adv_row (by decide)]; exact HDm_S.2.2.2.2.2.1
    · exact ⟨fun y => ⟨y, fun p y z => absurd z (by omega)⟩, fun y => y.1⟩
    · intro y
      have y1 : CN s1 := by unfold CN at *; rw [rA 30 (by decide)] at y; exact y
      refine ⟨fun i hi => absurd hi (by omega), fun i hi => absurd hi (by omega), fun id hid z => absurd ?_ z⟩
      rw [rA 37 (by decide), q12 37 (by decide)]
      exact h37 (hd4.mp y1).1 id hid
  have r152 : f_152 sc = j_152_34 FU ((if T.tk (a + 3) = 41 then 0 else 1) : Int) 0 sc1 := by
    unfold f_152
    rw [hd1, xb_inl, c92y hT cc1 hd2 t2 (by decide), xb_inl, ← hsc1, cu1.2.1]
  have r253' : f_253 (S : Int) (adv (HD0 sm S P N) (a + 1)) = j_253_47 FU (S : Int) ((if T.tk (a + 3) = 41 then 0 else 1) : Int) m1 := by
    rw [r253, takeY mcH hT fH HDm_at (by omega) (k := 40) (by decide) t2, Option.bind_some]
    show (if ¬ ((adv (HDm sm S P N a 2) (a + 3)) 84 6) = 0 then j_253_45 (S : Int) (adv (HDm sm S P N a 2) (a + 3)) else (gd (g_232 12 (adv (HDm sm S P N a 2) (a + 3))) (j_253_46 (S : Int) ((if ¬ (f_232 12 (adv (HDm sm S P N a 2) (a + 3))) = 0 then 0 else 1) : Int) (adv (HDm sm S P N a 2) (a + 3))))) = _
    rw [← hm1, if_neg (by rw [fm1]; decide)]
    by_cases t3 : T.tk (a + 3) = 41
    · obtain ⟨x1, x2⟩ := is_y mcA hT um1 cu1.2.2 (k := 41) (K := 12) (by decide) t3
      rw [gd_pos x2, x1, if_pos (by decide), if_pos t3]
      rfl
    · obtain ⟨x1, x2⟩ := is_n mcA hT um1 cu1.2.2 (k := 41) (K := 12) (by decide) (by decide) t3
      rw [gd_pos x2, x1, if_neg (by decide), if_neg t3]
      rfl
  -- behind the parameters
  have rest : ∀ (scp mp : Sg) (J b : Nat), PLS T sc1 m1 scp mp (a + 1) S P J → (J = 0 ∧ b = a + 3 ∨ 1 ≤ J ∧ b = a + 2 + 3 * J) → (∀ i, i + 1 < J → T.tk (a + 5 + 3 * i) = 44) → CU T scp b → mp 84 18 = (b : Int) → f_152 sc = j_152_84 scp → f_253 (S : Int) (adv (HD0 sm S P N) (a + 1)) = j_253_116 (S : Int) mp →
      ((∃ (s1 scp mp sc2 sc3 m3 sc4 : Sg) (J b a' N' K' : Nat), HRN T sc sm a S P N K C J b a' N' K' s1 scp mp sc2 sc3 m3 sc4 ∧ f_152 sc = some (.inl sc4) ∧ f_233 sm = j_233_359 (S : Int) (adv (ax_u2 m3 100 S ((N' : Int) - 1)) (a' + 1))) ∨
    (∃ (x : Nat) (s' mF : Sg), f_152 sc = some (.inr (x, s')) ∧ (x = 14 ∨ x = 15) ∧ BSc T sc s' ∧ f_233 sm = some mF ∧ BSm sm mF)) := by
    intro scp mp J b pl hb hk cub umb rc rm
    obtain ⟨y1, y2, y3, y4, y5, y6, y7, y8, y9, y10, y11, y12, y13, y14, y15, y16⟩ := id pl
    have sfp : SFc sc scp := sfc1.trans ⟨fun c x => y1 c (by omega), y2, y3, y4, W8.of y6 (by have := cub.2.2; have := hT.1; omega)⟩
    have sfq : SFm sm mp := sfm1.trans ⟨fun c x => y8 c (by omega), fun k x => y9 k (by omega) (by omega)⟩
    have rP : ∀ c, ¬ (c = 30 ∨ c = 31 ∨ 36 ≤ c ∧ c ≤ 39 ∨ 54 ≤ c ∧ c ≤ 60) → scp c = sc c := fun c x => by rw [y1 c (by omega), rA c (by omega), q12 c (by omega)]
    have rQ : ∀ c, ¬ (c = 84 ∨ 94 ≤ c ∧ c ≤ 105) → mp c = sm c := fun c x => by rw [y8 c (by omega), hm1, adv_row (by omega), HDm_row (by omega)]
    have cQ : ∀ k, k ≠ 18 → k ≠ 31 → k ≠ 46 → mp 84 k = sm 84 k := fun k x y z => by rw [y9 k x y, hm1, adv_col x, HDm_84 z x]
    have hzb := cub.2.2
    rcases tail_sim (S := S) (C := C) (B := J) (N := N) (K := K) hT hS1 hC1 (by omega) (by rw [y1 54 (by decide)]; exact h54) (by rw [y1 57 (by decide), rA 57 (by decide)]; exact q4) (sfp.cc e1) (sfq.mc e2) cub umb (by rw [cQ 6 (by decide) (by decide) (by decide)]; exact e5) (e6.congr (by rw [rP 46 (by decide)]) (cQ 47 (by decide) (by decide) (by decide)) (cQ 57 (by decide) (by decide) (by decide)) (fun c n x y _ => by rw [rP c (by omega)]) (fun c n x y _ => by rw [rQ c (by omega)]) (fun j _ => by rw [rQ 125 (by decide)])) (by rw [rP 66 (by decide)]; exact e7) (fun k x y => by
        obtain ⟨b1, b2, b3, b4⟩ := e8 k (by omega) y
        exact ⟨by rw [rP 45 (by decide)]; exact b1, by rw [rQ 91 (by decide)]; exact b2, by rw [rQ 92 (by decide)]; exact b3, by rw [rQ 93 (by decide)]; exact b4⟩) (by omega) e26 (by rw [rP 61 (by decide)]; exact e13) y6 with ⟨sc2, sc3, m3, sc4, a', N', K', x1, x2, x3, x4, x5, x6, x7, x8, x9, x10⟩ | ⟨x, s', mF, x1, x2, x3, x4, x5⟩
    · left
      refine ⟨s1, scp, mp, sc2, sc3, m3, sc4, J, b, a', N', K', ⟨t1, t2, hd3, hd4, by rw [← hsc1, ← hm1]; exact pl, hb, hk, x1, x2, x3, x4, x5, x6, x7, x8⟩, by rw [rc]; exact x9, ?_⟩
      rw [r233, rm, x10, Option.bind_some]
    · right
      exact ⟨x, s', mF, by rw [rc]; exact x1, x2, ⟨sfp.trans x3.1, x3.2⟩, fin mF (by rw [rm]; exact x4) x5.2, sfq.trans x5.1, x5.2⟩
  by_cases t3 : T.tk (a + 3) = 41
  · rw [if_pos t3] at r152 r253'
    obtain ⟨F, hF⟩ := FU_split (k := 1) (by omega)
    have r1' : f_152 sc = j_152_84 sc1 := by rw [r152, hF, j_152_34, if_pos rfl]
    have r2' : f_253 (S : Int) (adv (HD0 sm S P N) (a + 1)) = j_253_116 (S : Int) m1 := by rw [r253', hF, j_253_47, if_neg (by rw [fm1]; decide), if_pos rfl]
    exact rest sc1 m1 0 (a + 3) pl0 (Or.inl ⟨rfl, rfl⟩) (fun i hi => absurd hi (by omega)) cu1 um1 r1' r2'
  · rw [if_neg t3] at r152 r253'
    obtain ⟨F, hF⟩ := FU_split (k := T.z - (a + 3) + 2) (by omega)
    have hF' : FU = F + (T.z - (a + 3)) + 2 := by omega
    have zz := cu1.2.2
    rcases par_all (h := a + 1) (P := P) hT hS1 h54 ccA mcA fm1 (by omega) (by omega) (T.z - (a + 3)) (l := 0) F F (by omega) (by omega) (by omega) pl0 cu1 um1 (fun i hi => absurd hi (by omega)) with ⟨scp, mp, J, x1, x2, x3, x4, x5, x6, x7⟩ | ⟨s', mF, x1, x2, x3, x4⟩
    · have eb : a + 1 + 1 + 3 * J = a + 2 + 3 * J := by omega
      rw [eb] at x4 x5
      refine rest scp mp J (a + 2 + 3 * J) x3 (Or.inr ⟨x6, rfl⟩) (fun i hi => ?_) x4 x5 ?_ ?_
      · rw [show a + 5 + 3 * i = a + 1 + 4 + 3 * i by omega]; exact x7 i hi
      · rw [r152, hF']; exact x1
      · rw [r253', hF']; exact x2
    · right
      exact ⟨15, s', mF, by rw [r152, hF']; exact x1, Or.inr rfl, ⟨sfc1.trans x2.1, x2.2⟩, fin mF (by rw [r253', hF']; exact x3) x4.2, sfm1.trans x4.1, x4.2⟩
end HRUN
