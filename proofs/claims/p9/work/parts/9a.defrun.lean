/-! A HELPER on both sides: how both run. -/
/-- the reference's state before a statement's own word is taken; behind its NAME -/
def HD0 (sm : Sg) (S P N : Nat) : Sg := ax_u2 (ax_u2 (ax_u2 (ax_u2 (ax_u2 (ax_u2 (ax_u2 sm 96 S (-1)) 98 S (P : Int)) 99 S 0) 100 S (-1)) 102 S 0) 103 S (N : Int)) 84 46 (-1)
def HDm (sm : Sg) (S P N a : Nat) (kd : Int) : Sg := ax_u2 (adv (ax_u2 (adv (HD0 sm S P N) (a + 1)) 94 S kd) (a + 2)) 95 S ((a + 1 : Nat) : Int)
section HRUN
variable {T : TT} {sc0 sm0 sc sm m : Sg} {a S P A N K C w : Nat} {kd : Int}
theorem HD0_row {c : Nat} (h : ¬ (c = 84 ∨ c = 96 ∨ 98 ≤ c ∧ c ≤ 100 ∨ c = 102 ∨ c = 103)) : HD0 sm S P N c = sm c := by
  unfold HD0
  rw [u2_row _ _ _ (by omega), u2_row _ _ _ (by omega), u2_row _ _ _ (by omega), u2_row _ _ _ (by omega), u2_row _ _ _ (by omega), u2_row _ _ _ (by omega), u2_row _ _ _ (by omega)]
theorem HD0_84 {j : Nat} (h : j ≠ 46) : HD0 sm S P N 84 j = sm 84 j := by
  unfold HD0
  rw [u2_col _ _ _ h, u2_row _ _ _ (by decide), u2_row _ _ _ (by decide), u2_row _ _ _ (by decide), u2_row _ _ _ (by decide), u2_row _ _ _ (by decide), u2_row _ _ _ (by decide)]
theorem HD0_col {c i : Nat} (h : c ≠ 84) (hi : i ≠ S) : HD0 sm S P N c i = sm c i := by
  unfold HD0
  simp [ax_u2, h, hi]
theorem HD0_sf : SFm sm (HD0 sm S P N) := ⟨fun c x => HD0_row (by omega), fun j x => HD0_84 (by omega)⟩
theorem HDm_row {c : Nat} (h : ¬ (c = 84 ∨ 94 ≤ c ∧ c ≤ 103)) : HDm sm S P N a kd c = sm c := by
  unfold HDm
  rw [u2_row _ _ _ (by omega), adv_row (by omega), u2_row _ _ _ (by omega), adv_row (by omega), HD0_row (by omega)]
theorem HDm_84 {j : Nat} (h : j ≠ 46) (h2 : j ≠ 18) : HDm sm S P N a kd 84 j = sm 84 j := by
  unfold HDm
  rw [u2_row _ _ _ (by decide), adv_col h2, u2_row _ _ _ (by decide), adv_col h2, HD0_84 h]
theorem HDm_at : HDm sm S P N a kd 84 18 = ((a + 2 : Nat) : Int) := by
  unfold HDm
  rw [u2_row _ _ _ (by decide), adv_at]
theorem HDm_col {c i : Nat} (h : c ≠ 84) (hi : i ≠ S) : HDm sm S P N a kd c i = sm c i := by
  unfold HDm
  have u : ∀ (s : Sg) (d : Nat) (v : Int), (ax_u2 s d S v) c i = s c i := fun s d v => by simp [ax_u2, hi]
  rw [u, adv_row h, u, adv_row h, HD0_col h hi]
theorem HDm_S : HDm sm S P N a kd 84 46 = -1 ∧ HDm sm S P N a kd 94 S = kd ∧ HDm sm S P N a kd 95 S = ((a + 1 : Nat) : Int) ∧ HDm sm S P N a kd 96 S = -1 ∧ HDm sm S P N a kd 98 S = (P : Int) ∧ HDm sm S P N a kd 99 S = 0 ∧ HDm sm S P N a kd 102 S = 0 ∧ HDm sm S P N a kd 103 S = (N : Int) := by
  unfold HDm
  refine ⟨?_, ?_, ?_, ?_, ?_, ?_, ?_, ?_⟩
  · rw [u2_row _ _ _ (by decide), adv_col (by decide), u2_row _ _ _ (by decide), adv_col (by decide)]; simp [HD0, ax_u2]
  · rw [u2_row _ _ _ (by decide), adv_row (by decide)]; exact u2_same _ _ _ _
  · exact u2_same _ _ _ _
  all_goals rw [u2_row _ _ _ (by decide), adv_row (by decide), u2_row _ _ _ (by decide), adv_row (by decide)]; simp [HD0, ax_u2]
theorem HDm_sf : SFm sm (HDm sm S P N a kd) := ⟨fun c x => HDm_row (by omega), fun j x => HDm_84 (by omega) (by omega)⟩
theorem fl253 (hf : 0 < m 84 6) (hS : S < 4100) : ∃ m' : Sg, f_253 (S : Int) m = some m' ∧ BSm m m' := by
  have e1 : 0 < (ax_u2 m 94 S 2) 84 6 := by rw [u2_row _ _ _ (by decide)]; exact hf
  have e2 : 0 < (ax_u2 (ax_u2 m 94 S 2) 95 S 0) 84 6 := by rw [u2_row _ _ _ (by decide)]; exact e1
  obtain ⟨m', k1, k2⟩ := fl47 (F := FU) (v := 0) FU1 e2 hS
  refine ⟨m', ?_, ((ro_sf (by decide)).trans (ro_sf (by decide))).trans k2.1, k2.2⟩
  unfold f_253
  rw [gd_pos (by omega), Int.toNat_natCast, takeF e1, Option.bind_some, gd_pos (by omega)]
  dsimp only
  rw [takeF e2, Option.bind_some]
  dsimp only
  rw [if_pos (by omega)]
  exact k1
/-- the whole run -/
def HRN (T : TT) (sc sm : Sg) (a S P N K C J b a' N' K' : Nat) (s1 scp mp sc2 sc3 m3 sc4 : Sg) : Prop :=
  T.tk (a + 1) = 1 ∧ T.tk (a + 2) = 40 ∧ HDd sc s1 S (a + 1) N (T.vl (a + 1)).toNat 2 ∧ (CN s1 ↔ CN sc ∧ sc 36 (T.vl (a + 1)).toNat = -1) ∧ PLS T (cur T s1 (a + 3)) (adv (HDm sm S P N a 2) (a + 3)) scp mp (a + 1) S P J ∧ (J = 0 ∧ b = a + 3 ∨ 1 ≤ J ∧ b = a + 2 + 3 * J) ∧ (∀ i, i + 1 < J → T.tk (a + 5 + 3 * i) = 44) ∧
  T.tk b = 41 ∧ T.tk (b + 1) = 2 ∧ T.tk (b + 2) = 61 ∧ T.tk a' = 59 ∧ HWc T scp sc2 S b ∧ TPOST T sc2 (HWm mp S b) (S : Int) (b + 3) N K sc3 m3 a' N' K' ∧ HEc sc3 sc4 J C ((b + 3 : Nat) : Int) ((N' : Int) - 1) (mn (T.vl (b + 1))) ∧ CU T sc4 (a' + 1)
theorem def_run (hT : TWF T) (hp : POS T) (h : PS0 T sc0 sm0 sc sm a S P A N K C w) (t0 : T.tk a = 19) :
    (∃ (s1 scp mp sc2 sc3 m3 sc4 : Sg) (J b a' N' K' : Nat), HRN T sc sm a S P N K C J b a' N' K' s1 scp mp sc2 sc3 m3 sc4 ∧ f_145 sc = some (.inl sc4) ∧ f_233 sm = j_233_359 (S : Int) (adv (ax_u2 m3 100 S ((N' : Int) - 1)) (a' + 1))) ∨
    (∃ (x : Nat) (s' mF : Sg), f_145 sc = some (.inr (x, s')) ∧ (x = 14 ∨ x = 15) ∧ BSc T sc s' ∧ f_233 sm = some mF ∧ BSm sm mF) := by
  obtain ⟨hB, h70, h19, h7, h37, hnc, htl, hdp⟩ := id h
  obtain ⟨e1, e2, e3, e4, e5, e6, e7, e8, e9, e10, e11, e12, e13, e14, e15, e16, e17, e18, e19, e20, e21, e22, e23, e24, e25, e26, e27, e28, e29, e30, e31⟩ := id hB
  have h8 := hT.1
  have n0 : T.tk a ≠ 0 := by rw [t0]; decide
  have hz := hT.lt e3.2.2 n0
  have pz := hp.add (k := a) (T.z - a) (by omega)
  rw [show a + (T.z - a) = T.z by omega] at pz
  have p8 := hp.2.2.2
  have hS1 : S < 1171 := by omega
  have hC1 : C < 2049 := by omega
  have hM0 : MC T (HD0 sm S P N) := HD0_sf.mc e2
  have f0 : (HD0 sm S P N) 84 6 = 0 := by rw [HD0_84 (by decide)]; exact e5
  have u0 : (HD0 sm S P N) 84 18 = (a : Int) := by rw [HD0_84 (by decide)]; exact e4
  have r233 : f_233 sm = (f_253 (S : Int) (adv (HD0 sm S P N) (a + 1))).bind fun q16 => j_233_359 (S : Int) q16 := by
    unfold f_233
    rw [h19, gd_pos (by omega), gd_pos (by omega), gd_pos (by omega), gd_pos (by omega), gd_pos (by omega), gd_pos (by omega), Int.toNat_natCast, e11, e6.2.1]
    show gd (g_252 31 (HD0 sm S P N)) ((some (f_252 31 (HD0 sm S P N))).bind _) = _
    rw [eatN hM0 hT u0 e3.2.2 (k := 17) (by decide) (by decide) (by rw [t0]; decide)]
    rw [if_neg (by simp), eatN hM0 hT u0 e3.2.2 (k := 18) (by decide) (by decide) (by rw [t0]; decide)]
    rw [if_pos rfl, eatY hM0 hT f0 u0 e3.2.2 (k := 19) (by decide) t0]
    rw [if_neg (by simp)]
  have eta : ∀ o : Option (Sum Sg (Nat × Sg)), (xb o fun q => some (.inl q)) = o := fun o => by
    cases o with
    | none => rfl
    | some o => cases o <;> rfl
  have r145 : f_145 sc = f_152 sc := by
    unfold f_145
    rw [e3.2.1, if_neg (by rw [t0]; decide), if_neg (by rw [t0]; decide), if_pos t0, eta]
  have fin : ∀ mF : Sg, f_253 (S : Int) (adv (HD0 sm S P N) (a + 1)) = some mF → 0 < mF 84 6 → f_233 sm = some mF := fun mF k1 k2 => by rw [r233, k1, Option.bind_some]; exact fl359 k2 _
  have sA : SFm sm (ax_u2 (adv (HD0 sm S P N) (a + 1)) 94 S 2) := (HD0_sf.trans adv_sf).trans (ro_sf (by decide))
  have fA : (ax_u2 (adv (HD0 sm S P N) (a + 1)) 94 S 2) 84 6 = 0 := by rw [u2_row _ _ _ (by decide), adv_col (by decide)]; exact f0
  have uA : (ax_u2 (adv (HD0 sm S P N) (a + 1)) 94 S 2) 84 18 = ((a + 1 : Nat) : Int) := by rw [u2_row _ _ _ (by decide)]; exact adv_at
  rw [r145]
  by_cases t1 : T.tk (a + 1) = 1
  rotate_left
  · right
    have e1' : 0 < (tel (ax_u2 (adv (HD0 sm S P N) (a + 1)) 94 S 2) 2 (a + 1)) 84 6 := by rw [tel_at]; decide
    have e2' : 0 < (ax_u2 (tel (ax_u2 (adv (HD0 sm S P N) (a + 1)) 94 S 2) 2 (a + 1)) 95 S 0) 84 6 := by rw [u2_row _ _ _ (by decide)]; exact e1'
    obtain ⟨mF, k1, k2⟩ := fl47 (F := FU) (v := 0) (S := S) FU1 e2' (by omega)
    have r253 : f_253 (S : Int) (adv (HD0 sm S P N) (a + 1)) = some mF := by
      unfold f_253
      rw [gd_pos (by omega), Int.toNat_natCast, takeN (sA.mc e2) hT fA uA (by omega) (k := 1) (by decide) (by decide) t1, Option.bind_some, gd_pos (by omega)]
      dsimp only
      rw [takeF e2', Option.bind_some]
      dsimp only
      rw [if_pos (by omega)]
      exact k1
    refine ⟨15, cur T sc (a + 1), mF, ?_, Or.inr rfl, ⟨cur_sf, _, cur_cu (by omega)⟩, fin mF r253 k2.2, ((sA.trans tel_sf).trans (ro_sf (by decide))).trans k2.1, k2.2⟩
    unfold f_152
    rw [c156n hT e1 e3 n0 t1, xb_err]
  have z1 := hT.lt (show a + 1 ≤ T.z by omega) (by rw [t1]; decide)
  obtain ⟨s1, hd1, hd2, hd3, hd4⟩ := c156 (kd := 2) hT e1 e3 n0 t1 e10 hS1 e6.1
  obtain ⟨q1, q2, q3, q4, q5, q6, q7, q8, q9, q10, q11, q12, q13, q14⟩ := id hd3
  have sf1c : SFc sc s1 := ⟨fun c x => q12 c (by omega), q13, q14, fun j _ => by rw [q12 31 (by omega)], W8.same (q12 31 (by omega))⟩
  have cc1 := sf1c.cc e1
  have mcH : MC T (HDm sm S P N a 2) := HDm_sf.mc e2
  have fH : (HDm sm S P N a 2) 84 6 = 0 := by rw [HDm_84 (by decide) (by decide)]; exact e5
  have r253 : f_253 (S : Int) (adv (HD0 sm S P N) (a + 1)) = (f_231 11 (HDm sm S P N a 2)).bind fun q2 => (if ¬ (q2.2 84 6) = 0 then j_253_45 (S : Int) q2.2 else (gd (g_232 12 q2.2) (j_253_46 (S : Int) ((if ¬ (f_232 12 q2.2) = 0 then 0 else 1) : Int) q2.2))) := by
    unfold f_253
    rw [gd_pos (by omega), Int.toNat_natCast, takeY (sA.mc e2) hT fA uA (by omega) (k := 1) (by decide) t1, Option.bind_some, gd_pos (by omega)]
    rfl
  by_cases t2 : T.tk (a + 2) = 40
  rotate_left
  · right
    have e1' : 0 < (tel (HDm sm S P N a 2) 2 (a + 2)) 84 6 := by rw [tel_at]; decide
    obtain ⟨mF, k1, k2⟩ := fl47 (F := FU) (v := 0) (S := S) FU1 e1' (by omega)
    have r2 : f_253 (S : Int) (adv (HD0 sm S P N) (a + 1)) = some mF := by
      rw [r253, takeN mcH hT fH HDm_at (by omega) (k := 40) (by decide) (by decide) t2, Option.bind_some]
      dsimp only
      rw [if_pos (by omega)]
      exact k1
    refine ⟨15, s1, mF, ?_, Or.inr rfl, ⟨sf1c, _, hd2⟩, fin mF r2 k2.2, (HDm_sf.trans tel_sf).trans k2.1, k2.2⟩
    unfold f_152
    rw [hd1, xb_inl, c92n hd2 t2, xb_err]
  have z2 := hT.lt (show a + 2 ≤ T.z by omega) (by rw [t2]; decide)
  obtain ⟨sc1, hsc1⟩ : ∃ sc1 : Sg, sc1 = cur T s1 (a + 3) := ⟨_, rfl⟩
  obtain ⟨m1, hm1⟩ : ∃ m1 : Sg, m1 = adv (HDm sm S P N a 2) (a + 3) := ⟨_, rfl⟩
  have cu1 : CU T sc1 (a + 3) := by rw [hsc1]; exact cur_cu (by omega)
  have sfc1 : SFc sc sc1 := by rw [hsc1]; exact sf1c.trans cur_sf
  have sfm1 : SFm sm m1 := by rw [hm1]; exact HDm_sf.trans adv_sf
  have ccA := sfc1.cc e1
  have mcA := sfm1.mc e2
  have fm1 : m1 84 6 = 0 := by rw [hm1, adv_col (by decide)]; exact fH
  have um1 : m1 84 18 = ((a + 3 : Nat) : Int) := by rw [hm1]; exact adv_at
  have rA : ∀ c, c ≠ 39 → sc1 c = s1 c := fun c x => by rw [hsc1, cur_row x]
  have h54 : sc1 54 6 = ((S + 1 : Nat) : Int) := by rw [rA 54 (by decide)]; exact q1
  have pl0 : PLS T sc1 m1 sc1 m1 (a + 1) S P 0 := by
    refine ⟨fun _ _ => rfl, fun _ _ _ => rfl, fun _ _ => rfl, fun _ _ => rfl, fun _ _ => rfl, ?_, ?_, fun _ _ => rfl, fun _ _ _ => rfl, fun _ _ => rfl, fun _ _ _ _ _ => rfl, ?_, ?_, fun i hi => absurd hi (by omega), ?_, ?_⟩
    · rw [rA 31 (by decide), q12 31 (by decide)]; exact e14
    · rw [rA 58 (by decide)]; exact q5
    · rw [hm1, adv_col (by decide), HDm_84 (by decide) (by decide)]; exact e11
    · rw [hm1, adv_row (by decide)]; exact HDm_S.2.2.2.2.2.1
    · exact ⟨fun y => ⟨y, fun p y z => absurd z (by omega)⟩, fun y => y.1⟩
    · intro y
      have y1 : CN s1 := by unfold CN at *; rw [rA 30 (by decide)] at y; exact y
      refine ⟨fun i hi => absurd hi (by omega), fun i hi => absurd hi (by omega), fun id hid z => absurd ?_ z⟩
      rw [rA 37 (by decide), q12 37 (by decide)]
      exact h37 (hd4.mp y1).1 id hid
  have r152 : f_152 sc = j_152_34 FU ((if T.tk (a + 3) = 41 then 0 else 1) : Int) 0 sc1 := by
    unfold f_152
    rw [hd1, xb_inl, c92y hT cc1 hd2 t2 (by decide), xb_inl, ← hsc1, cu1.2.1]
  have r253' : f_253 (S : Int) (adv (HD0 sm S P N) (a + 1)) = j_253_47 FU (S : Int) ((if T.tk (a + 3) = 41 then 0 else 1) : Int) m1 := by
    rw [r253, takeY mcH hT fH HDm_at (by omega) (k := 40) (by decide) t2, Option.bind_some]
    show (if ¬ ((adv (HDm sm S P N a 2) (a + 3)) 84 6) = 0 then j_253_45 (S : Int) (adv (HDm sm S P N a 2) (a + 3)) else (gd (g_232 12 (adv (HDm sm S P N a 2) (a + 3))) (j_253_46 (S : Int) ((if ¬ (f_232 12 (adv (HDm sm S P N a 2) (a + 3))) = 0 then 0 else 1) : Int) (adv (HDm sm S P N a 2) (a + 3))))) = _
    rw [← hm1, if_neg (by rw [fm1]; decide)]
    by_cases t3 : T.tk (a + 3) = 41
    · obtain ⟨x1, x2⟩ := is_y mcA hT um1 cu1.2.2 (k := 41) (K := 12) (by decide) t3
      rw [gd_pos x2, x1, if_pos (by decide), if_pos t3]
      rfl
    · obtain ⟨x1, x2⟩ := is_n mcA hT um1 cu1.2.2 (k := 41) (K := 12) (by decide) (by decide) t3
      rw [gd_pos x2, x1, if_neg (by decide), if_neg t3]
      rfl
  -- behind the parameters
  have rest : ∀ (scp mp : Sg) (J b : Nat), PLS T sc1 m1 scp mp (a + 1) S P J → (J = 0 ∧ b = a + 3 ∨ 1 ≤ J ∧ b = a + 2 + 3 * J) → (∀ i, i + 1 < J → T.tk (a + 5 + 3 * i) = 44) → CU T scp b → mp 84 18 = (b : Int) → f_152 sc = j_152_84 scp → f_253 (S : Int) (adv (HD0 sm S P N) (a + 1)) = j_253_116 (S : Int) mp →
      ((∃ (s1 scp mp sc2 sc3 m3 sc4 : Sg) (J b a' N' K' : Nat), HRN T sc sm a S P N K C J b a' N' K' s1 scp mp sc2 sc3 m3 sc4 ∧ f_152 sc = some (.inl sc4) ∧ f_233 sm = j_233_359 (S : Int) (adv (ax_u2 m3 100 S ((N' : Int) - 1)) (a' + 1))) ∨
    (∃ (x : Nat) (s' mF : Sg), f_152 sc = some (.inr (x, s')) ∧ (x = 14 ∨ x = 15) ∧ BSc T sc s' ∧ f_233 sm = some mF ∧ BSm sm mF)) := by
    intro scp mp J b pl hb hk cub umb rc rm
    obtain ⟨y1, y2, y3, y4, y5, y6, y7, y8, y9, y10, y11, y12, y13, y14, y15, y16⟩ := id pl
    have sfp : SFc sc scp := sfc1.trans ⟨fun c x => y1 c (by omega), y2, y3, y4, W8.of y6 (by have := cub.2.2; have := hT.1; omega)⟩
    have sfq : SFm sm mp := sfm1.trans ⟨fun c x => y8 c (by omega), fun k x => y9 k (by omega) (by omega)⟩
    have rP : ∀ c, ¬ (c = 30 ∨ c = 31 ∨ 36 ≤ c ∧ c ≤ 39 ∨ 54 ≤ c ∧ c ≤ 60) → scp c = sc c := fun c x => by rw [y1 c (by omega), rA c (by omega), q12 c (by omega)]
    have rQ : ∀ c, ¬ (c = 84 ∨ 94 ≤ c ∧ c ≤ 105) → mp c = sm c := fun c x => by rw [y8 c (by omega), hm1, adv_row (by omega), HDm_row (by omega)]
    have cQ : ∀ k, k ≠ 18 → k ≠ 31 → k ≠ 46 → mp 84 k = sm 84 k := fun k x y z => by rw [y9 k x y, hm1, adv_col x, HDm_84 z x]
    have hzb := cub.2.2
    rcases tail_sim (S := S) (C := C) (B := J) (N := N) (K := K) hT hS1 hC1 (by omega) (by rw [y1 54 (by decide)]; exact h54) (by rw [y1 57 (by decide), rA 57 (by decide)]; exact q4) (sfp.cc e1) (sfq.mc e2) cub umb (by rw [cQ 6 (by decide) (by decide) (by decide)]; exact e5) (e6.congr (by rw [rP 46 (by decide)]) (cQ 47 (by decide) (by decide) (by decide)) (cQ 57 (by decide) (by decide) (by decide)) (fun c n x y _ => by rw [rP c (by omega)]) (fun c n x y _ => by rw [rQ c (by omega)]) (fun j _ => by rw [rQ 125 (by decide)])) (by rw [rP 66 (by decide)]; exact e7) (fun k x y => by
        obtain ⟨b1, b2, b3, b4⟩ := e8 k (by omega) y
        exact ⟨by rw [rP 45 (by decide)]; exact b1, by rw [rQ 91 (by decide)]; exact b2, by rw [rQ 92 (by decide)]; exact b3, by rw [rQ 93 (by decide)]; exact b4⟩) (by omega) e26 (by rw [rP 61 (by decide)]; exact e13) y6 with ⟨sc2, sc3, m3, sc4, a', N', K', x1, x2, x3, x4, x5, x6, x7, x8, x9, x10⟩ | ⟨x, s', mF, x1, x2, x3, x4, x5⟩
    · left
      refine ⟨s1, scp, mp, sc2, sc3, m3, sc4, J, b, a', N', K', ⟨t1, t2, hd3, hd4, by rw [← hsc1, ← hm1]; exact pl, hb, hk, x1, x2, x3, x4, x5, x6, x7, x8⟩, by rw [rc]; exact x9, ?_⟩
      rw [r233, rm, x10, Option.bind_some]
    · right
      exact ⟨x, s', mF, by rw [rc]; exact x1, x2, ⟨sfp.trans x3.1, x3.2⟩, fin mF (by rw [rm]; exact x4) x5.2, sfq.trans x5.1, x5.2⟩
  by_cases t3 : T.tk (a + 3) = 41
  · rw [if_pos t3] at r152 r253'
    obtain ⟨F, hF⟩ := FU_split (k := 1) (by omega)
    have r1' : f_152 sc = j_152_84 sc1 := by rw [r152, hF, j_152_34, if_pos rfl]
    have r2' : f_253 (S : Int) (adv (HD0 sm S P N) (a + 1)) = j_253_116 (S : Int) m1 := by rw [r253', hF, j_253_47, if_neg (by rw [fm1]; decide), if_pos rfl]
    exact rest sc1 m1 0 (a + 3) pl0 (Or.inl ⟨rfl, rfl⟩) (fun i hi => absurd hi (by omega)) cu1 um1 r1' r2'
  · rw [if_neg t3] at r152 r253'
    obtain ⟨F, hF⟩ := FU_split (k := T.z - (a + 3) + 2) (by omega)
    have hF' : FU = F + (T.z - (a + 3)) + 2 := by omega
    have zz := cu1.2.2
    rcases par_all (h := a + 1) (P := P) hT hS1 h54 ccA mcA fm1 (by omega) (by omega) (T.z - (a + 3)) (l := 0) F F (by omega) (by omega) (by omega) pl0 cu1 um1 (fun i hi => absurd hi (by omega)) with ⟨scp, mp, J, x1, x2, x3, x4, x5, x6, x7⟩ | ⟨s', mF, x1, x2, x3, x4⟩
    · have eb : a + 1 + 1 + 3 * J = a + 2 + 3 * J := by omega
      rw [eb] at x4 x5
      refine rest scp mp J (a + 2 + 3 * J) x3 (Or.inr ⟨x6, rfl⟩) (fun i hi => ?_) x4 x5 ?_ ?_
      · rw [show a + 5 + 3 * i = a + 1 + 4 + 3 * i by omega]; exact x7 i hi
      · rw [r152, hF']; exact x1
      · rw [r253', hF']; exact x2
    · right
      exact ⟨15, s', mF, by rw [r152, hF']; exact x1, Or.inr rfl, ⟨sfc1.trans x2.1, x2.2⟩, fin mF (by rw [r253', hF']; exact x3) x4.2, sfm1.trans x4.1, x4.2⟩
end HRUN
/-! A HELPER: what both runs have changed. -/
def HMm (m3 : Sg) (S N a' N' : Nat) : Sg := ax_u2 (ax_u2 (adv (ax_u2 m3 100 S ((N' : Int) - 1)) (a' + 1)) 103 S ((N' : Int) - (N : Int))) 84 19 ((S + 1 : Nat) : Int)
def HCF (T : TT) (sc sc4 : Sg) (a S N C J b a' : Nat) (y : Int) : Prop :=
  (∀ c, ¬ (c = 30 ∨ c = 31 ∨ 36 ≤ c ∧ c ≤ 39 ∨ 45 ≤ c ∧ c ≤ 69) → sc4 c = sc c) ∧ (∀ j, j ≠ 10 → j ≠ 11 → sc4 39 j = sc 39 j) ∧ (∀ j, j < 4 ∨ 7 < j → sc4 30 j = sc 30 j) ∧ (∀ j, j ≠ 8 → sc4 31 j = sc 31 j) ∧ sc4 31 8 = 0 ∧ sc4 54 6 = ((S + 1 : Nat) : Int) ∧ (∀ j, j ≠ 6 → sc4 54 j = sc 54 j) ∧ (∀ c i, 55 ≤ c → c ≤ 60 → i ≠ S → sc4 c i = sc c i) ∧
  sc4 55 S = 2 ∧ sc4 56 S = ((a + 1 : Nat) : Int) ∧ sc4 57 S = mn (T.vl (b + 1)) ∧ sc4 58 S = (J : Int) ∧ sc4 59 S = 0 ∧ sc4 60 S = (N : Int) ∧ sc4 36 (T.vl (a + 1)).toNat = (S : Int) ∧ (∀ i, i ≠ (T.vl (a + 1)).toNat → sc4 36 i = sc 36 i) ∧
  sc4 61 4 = ((C + 1 : Nat) : Int) ∧ sc4 62 C = ((b + 3 : Nat) : Int) ∧ sc4 63 C = -1 ∧ sc4 64 C = y ∧ sc4 65 C = (if mn (T.vl (b + 1)) < 1 then 1 else mn (T.vl (b + 1))) ∧ (∀ c i, 62 ≤ c → c ≤ 65 → i ≠ C → sc4 c i = sc c i) ∧ (∀ n, n < N → sc4 48 n = sc 48 n) ∧ (∀ k, k < b + 3 ∨ a' ≤ k → sc4 45 k = sc 45 k)
def HMF (sm m5 : Sg) (a S P N J b a' N' : Nat) : Prop :=
  (∀ c, ¬ (c = 84 ∨ c = 91 ∨ c = 92 ∨ 94 ≤ c ∧ c ≤ 105 ∨ 116 ≤ c ∧ c ≤ 121 ∨ 123 ≤ c ∧ c ≤ 132) → m5 c = sm c) ∧ (∀ j, j < 6 ∨ 7 < j ∧ j < 18 ∨ 19 < j ∧ j < 31 ∨ 31 < j ∧ j < 46 ∨ 70 < j → m5 84 j = sm 84 j) ∧ m5 84 18 = ((a' + 1 : Nat) : Int) ∧ m5 84 19 = ((S + 1 : Nat) : Int) ∧ m5 84 31 = ((P + J : Nat) : Int) ∧ m5 84 6 = 0 ∧
  (∀ c i, 94 ≤ c → c ≤ 103 → i ≠ S → m5 c i = sm c i) ∧ m5 94 S = 2 ∧ m5 95 S = ((a + 1 : Nat) : Int) ∧ m5 97 S = ((b + 1 : Nat) : Int) ∧ m5 98 S = (P : Int) ∧ m5 99 S = (J : Int) ∧ m5 100 S = (N' : Int) - 1 ∧ m5 101 S = ((b + 3 : Nat) : Int) ∧ m5 102 S = 0 ∧ m5 103 S = (N' : Int) - (N : Int) ∧ (∀ c p, 104 ≤ c → c ≤ 105 → p < P → m5 c p = sm c p) ∧ (∀ c n, 116 ≤ c → c ≤ 124 → n < N → m5 c n = sm c n) ∧ (∀ k, k < b + 3 ∨ a' ≤ k → m5 91 k = sm 91 k ∧ m5 92 k = sm 92 k)
section HFR
variable {T : TT} {sc0 sm0 sc sm s1 scp mp sc2 sc3 m3 sc4 : Sg} {a S P A N K C w J b a' N' K' : Nat}
theorem HMm_row {c : Nat} (h : ¬ (c = 84 ∨ c = 100 ∨ c = 103)) : HMm m3 S N a' N' c = m3 c := by
  unfold HMm
  rw [u2_row _ _ _ (by omega), u2_row _ _ _ (by omega), adv_row (by omega), u2_row _ _ _ (by omega)]
theorem HMm_84 {j : Nat} (h : j ≠ 18) (h2 : j ≠ 19) : HMm m3 S N a' N' 84 j = m3 84 j := by
  unfold HMm
  rw [u2_col _ _ _ h2, u2_row _ _ _ (by decide), adv_col h, u2_row _ _ _ (by decide)]
theorem HMm_col {c i : Nat} (h : c ≠ 84) (hi : i ≠ S) : HMm m3 S N a' N' c i = m3 c i := by
  unfold HMm
  have u : ∀ (s : Sg) (d : Nat) (v : Int), (ax_u2 s d S v) c i = s c i := fun s d v => by simp [ax_u2, hi]
  rw [u2_row _ _ _ h, u, adv_row h, u]
theorem HMm_S : HMm m3 S N a' N' 84 18 = ((a' + 1 : Nat) : Int) ∧ HMm m3 S N a' N' 84 19 = ((S + 1 : Nat) : Int) ∧ HMm m3 S N a' N' 100 S = (N' : Int) - 1 ∧ HMm m3 S N a' N' 103 S = (N' : Int) - (N : Int) := by
  unfold HMm
  refine ⟨?_, u2_same _ _ _ _, ?_, ?_⟩
  · rw [u2_col _ _ _ (by decide), u2_row _ _ _ (by decide), adv_at]
  · rw [u2_row _ _ _ (by decide), u2_row _ _ _ (by decide), adv_row (by decide)]; exact u2_same _ _ _ _
  · rw [u2_row _ _ _ (by decide)]; exact u2_same _ _ _ _
theorem HRN.hcf (h : HRN T sc sm a S P N K C J b a' N' K' s1 scp mp sc2 sc3 m3 sc4) : HCF T sc sc4 a S N C J b a' ((N' : Int) - 1) := by
  obtain ⟨t1, t2, hd, hcn, pl, hb, hk, t3, t4, t5, t6, hw, tp, he, cu⟩ := h
  obtain ⟨q1, q2, q3, q4, q5, q6, q7, q8, q9, q10, q11, q12, q13, q14⟩ := hd
  obtain ⟨y1, y2, y3, y4, y5, y6, y7, -, -, -, -, -, -, -, -, -⟩ := pl
  obtain ⟨w1, w2, w3, w4, w5, w6⟩ := hw
  obtain ⟨-, -, -, -, -, -, -, -, xf, ef, -, -, -, -, -, -, -, -, -, -, -⟩ := tp
  obtain ⟨g1, g2, g3, g4, g5, g6, g7, g8, g9, g10, g11, g12, g13⟩ := he
  have rA : ∀ c, c ≠ 39 → (cur T s1 (a + 3)) c = s1 c := fun c x => cur_row x
  have r5 : ∀ c, 54 ≤ c → c ≤ 60 → c ≠ 57 → c ≠ 58 → sc4 c = s1 c := fun c x y z u => by rw [g10 c (by omega), ef.1 c (by omega), w3 c (by omega), y1 c (by omega), rA c (by omega)]
  have r57 : ∀ i, sc4 57 i = sc2 57 i := fun i => by rw [g10 57 (by decide), ef.1 57 (by decide)]
  have r58 : ∀ i, sc4 58 i = scp 58 i := fun i => by rw [g10 58 (by decide), ef.1 58 (by decide), w3 58 (by decide)]
  have r36 : ∀ i, sc4 36 i = s1 36 i := fun i => by rw [g10 36 (by decide), ef.1 36 (by decide), w3 36 (by decide), y1 36 (by decide), rA 36 (by decide)]
  refine ⟨?_, ?_, ?_, ?_, g8, ?_, ?_, ?_, ?_, ?_, ?_, ?_, ?_, ?_, ?_, ?_, g1, g3, g4, g5, g6, ?_, ?_, ?_⟩
  · intro c x
    rw [g10 c (by omega), ef.1 c (by omega), w3 c (by omega), y1 c (by omega), rA c (by omega), q12 c (by omega)]
  · intro j x y
    rw [g11 j x y, ef.2.1 j x y, w4 j x y, y2 j x y, cur_col x y, q13 j x y]
  · intro j x
    rw [g10 30 (by decide), ef.2.2 j x, w5 j x, y3 j x, rA 30 (by decide), q14 j x]
  · intro j x
    rw [g9 j x, ef.1 31 (by decide), w3 31 (by decide), y4 j x, rA 31 (by decide), q12 31 (by decide)]
  · rw [r5 54 (by decide) (by decide) (by decide) (by decide)]; exact q1
  · intro j x
    rw [r5 54 (by decide) (by decide) (by decide) (by decide)]; exact q11 j x
  · intro c i x y z
    by_cases c1 : c = 57
    · subst c1
      rw [r57 i, w2 i z, y1 57 (by decide), rA 57 (by decide)]; exact q10 57 i x y z
    · by_cases c2 : c = 58
      · subst c2
        rw [r58 i, y5 i z, rA 58 (by decide)]; exact q10 58 i x y z
      · rw [r5 c (by omega) (by omega) c1 c2]; exact q10 c i x y z
  · rw [r5 55 (by decide) (by decide) (by decide) (by decide)]; exact q2
  · rw [r5 56 (by decide) (by decide) (by decide) (by decide)]; exact q3
  · rw [r57]; exact w1
  · rw [r58]; exact y7
  · rw [r5 59 (by decide) (by decide) (by decide) (by decide)]; exact q6
  · rw [r5 60 (by decide) (by decide) (by decide) (by decide)]; exact q7
  · rw [r36]; exact q8
  · intro i x
    rw [r36]; exact q9 i x
  · intro c i x y z
    rw [g7 c i x y z, ef.1 c (by omega), w3 c (by omega), y1 c (by omega), rA c (by omega), q12 c (by omega)]
  · intro n hn
    rw [g10 48 (by decide), xf.2.1 48 n (by decide) (by decide) hn, w3 48 (by decide), y1 48 (by decide), rA 48 (by decide), q12 48 (by decide)]
  · intro k hk
    rw [g10 45 (by decide), (xf.1 k hk).1, w3 45 (by decide), y1 45 (by decide), rA 45 (by decide), q12 45 (by decide)]
theorem HRN.hmf (h : HRN T sc sm a S P N K C J b a' N' K' s1 scp mp sc2 sc3 m3 sc4) : HMF sm (HMm m3 S N a' N') a S P N J b a' N' := by
  obtain ⟨t1, t2, hd, hcn, pl, hb, hk, t3, t4, t5, t6, hw, tp, he, cu⟩ := h
  obtain ⟨-, -, -, -, -, -, -, k1, k2, k3, k4, k5, k6, -, -, -⟩ := pl
  obtain ⟨-, -, -, -, f6, -, -, -, xf, -, ef, -, -, -, -, -, -, -, -, -, -⟩ := tp
  obtain ⟨s46, s94, s95, s96, s98, s99, s102, s103⟩ := HDm_S (sm := sm) (S := S) (P := P) (N := N) (a := a) (kd := 2)
  have rM : ∀ c, c ≠ 84 → (adv (HDm sm S P N a 2) (a + 3)) c = (HDm sm S P N a 2) c := fun c x => adv_row x
  have rc : ∀ c i, 94 ≤ c → c ≤ 105 → c ≠ 97 → c ≠ 101 → c ≠ 100 → c ≠ 103 → HMm m3 S N a' N' c i = mp c i := fun c i x y z u v w => by rw [HMm_row (by omega), ef.1 c (by omega), HWm_row (by omega)]
  have r84 : ∀ j, j < 6 ∨ 7 < j ∧ j < 18 ∨ 19 < j ∧ j < 47 ∨ 70 < j → HMm m3 S N a' N' 84 j = mp 84 j := fun j x => by rw [HMm_84 (by omega) (by omega), ef.2 j (by omega), HWm_col (by omega)]
  have hwS : HWm mp S b 97 S = ((b + 1 : Nat) : Int) ∧ HWm mp S b 101 S = ((b + 3 : Nat) : Int) := by
    unfold HWm
    refine ⟨?_, u2_same _ _ _ _⟩
    rw [u2_row _ _ _ (by decide), adv_row (by decide)]; exact u2_same _ _ _ _
  have hwi : ∀ c i, c ≠ 84 → i ≠ S → HWm mp S b c i = mp c i := fun c i x y => by
    unfold HWm
    have u : ∀ (s : Sg) (d : Nat) (v : Int), (ax_u2 s d S v) c i = s c i := fun s d v => by simp [ax_u2, y]
    rw [u, adv_row x, u, adv_row x, adv_row x]
  refine ⟨?_, ?_, HMm_S.1, HMm_S.2.1, ?_, ?_, ?_, ?_, ?_, ?_, ?_, ?_, HMm_S.2.2.1, ?_, ?_, HMm_S.2.2.2, ?_, ?_, ?_⟩
  · intro c x
    rw [HMm_row (by omega), ef.1 c (by omega), HWm_row (by omega), k1 c (by omega), rM c (by omega), HDm_row (by omega)]
  · intro j x
    rw [r84 j (by omega), k2 j (by omega) (by omega), adv_col (by omega), HDm_84 (by omega) (by omega)]
  · rw [r84 31 (by decide)]; exact k5
  · rw [HMm_84 (by decide) (by decide)]; exact f6
  · intro c i x y z
    rw [HMm_col (by omega) z, ef.1 c (by omega), hwi c i (by omega) z]
    by_cases c9 : c = 99
    · subst c9
      rw [k3 i z, rM 99 (by decide), HDm_col (by decide) z]
    · rw [k1 c (by omega), rM c (by omega), HDm_col (by omega) z]
  · rw [rc 94 S (by decide) (by decide) (by decide) (by decide) (by decide) (by decide), k1 94 (by decide), rM 94 (by decide)]; exact s94
  · rw [rc 95 S (by decide) (by decide) (by decide) (by decide) (by decide) (by decide), k1 95 (by decide), rM 95 (by decide)]; exact s95
  · rw [HMm_row (by decide), ef.1 97 (by decide)]; exact hwS.1
  · rw [rc 98 S (by decide) (by decide) (by decide) (by decide) (by decide) (by decide), k1 98 (by decide), rM 98 (by decide)]; exact s98
  · rw [rc 99 S (by decide) (by decide) (by decide) (by decide) (by decide) (by decide)]; exact k6
  · rw [HMm_row (by decide), ef.1 101 (by decide)]; exact hwS.2
  · rw [rc 102 S (by decide) (by decide) (by decide) (by decide) (by decide) (by decide), k1 102 (by decide), rM 102 (by decide)]; exact s102
  · intro c p x y z
    rw [rc c p (by omega) (by omega) (by omega) (by omega) (by omega) (by omega), k4 c p x y z, rM c (by omega), HDm_row (by omega)]
  · intro c n x y z
    rw [HMm_row (by omega), xf.2.2.1 c n x y z, HWm_row (by omega), k1 c (by omega), rM c (by omega), HDm_row (by omega)]
  · intro k hk
    have := xf.1 k hk
    rw [HMm_row (by decide), HMm_row (by decide), this.2.1, this.2.2, HWm_row (by decide), HWm_row (by decide), k1 91 (by decide), k1 92 (by decide), rM 91 (by decide), rM 92 (by decide), HDm_row (by decide), HDm_row (by decide)]
    exact ⟨rfl, rfl⟩
end HFR
/-! A HELPER: what is bound in it; when it is a good one. -/
section HBN
variable {T : TT} {sc0 sm0 sc sm s1 scp mp sc2 sc3 m3 sc4 : Sg} {a S P A N K C w J b a' N' K' : Nat}
theorem HRN.par (h : HRN T sc sm a S P N K C J b a' N' K' s1 scp mp sc2 sc3 m3 sc4) : (HMm m3 S N a' N' 104 = mp 104 ∧ HMm m3 S N a' N' 105 = mp 105) ∧ ∀ i, i < J → HMm m3 S N a' N' 104 (P + i) = ((a + 1 + 2 + 3 * i : Nat) : Int) ∧ HMm m3 S N a' N' 105 (P + i) = ((a + 1 + 3 + 3 * i : Nat) : Int) ∧ a + 1 + 3 + 3 * i < T.z ∧ T.tk (a + 1 + 2 + 3 * i) = 1 ∧ T.tk (a + 1 + 3 + 3 * i) = 2 := by
  obtain ⟨t1, t2, hd, hcn, pl, hb, hk, t3, t4, t5, t6, hw, tp, he, cu⟩ := h
  obtain ⟨-, -, -, -, -, -, -, k1, k2, k3, k4, k5, k6, g1, -, -⟩ := pl
  obtain ⟨-, -, -, -, f6, -, -, -, xf, -, ef, -, -, -, -, -, -, -, -, -, -⟩ := tp
  have x4 : HMm m3 S N a' N' 104 = mp 104 := by rw [HMm_row (by decide), ef.1 104 (by decide), HWm_row (by decide)]
  have x5 : HMm m3 S N a' N' 105 = mp 105 := by rw [HMm_row (by decide), ef.1 105 (by decide), HWm_row (by decide)]
  refine ⟨⟨x4, x5⟩, fun i hi => ?_⟩
  rw [x4, x5]
  exact g1 i hi
theorem HRN.bnd (hT : TWF T) (h : HRN T sc sm a S P N K C J b a' N' K' s1 scp mp sc2 sc3 m3 sc4) (cn : CN scp) : BND T sc3 (HMm m3 S N a' N') S (-1) J J := by
  obtain ⟨⟨x4, x5⟩, hpar⟩ := h.par
  obtain ⟨m1, m2, m3', m4, m5, m6, m7, m8, m9, m10, m11, m12, -⟩ := h.hmf
  obtain ⟨t1, t2, hd, hcn, pl, hb, hk, t3, t4, t5, t6, hw, tp, he, cu⟩ := h
  obtain ⟨y1, y2, y3, y4, y5, y6, y7, k1, k2, k3, k4, k5, k6, g1, g2, g3⟩ := pl
  obtain ⟨-, -, -, -, f6, -, -, -, xf, ec, ef, -, -, -, -, -, -, -, -, -, -⟩ := tp
  obtain ⟨w1, w2, w3, w4, w5, w6⟩ := hw
  have r31 : sc3 31 = scp 31 := by rw [ec.1 31 (by decide), w3 31 (by decide)]
  have r37 : sc3 37 = scp 37 := by rw [ec.1 37 (by decide), w3 37 (by decide)]
  have r38 : sc3 38 = scp 38 := by rw [ec.1 38 (by decide), w3 38 (by decide)]
  obtain ⟨h1, h2, h3⟩ := g3 cn
  have gp := (g2.mp cn).2
  have nm : ∀ i, i < J → 0 ≤ T.vl (a + 1 + 2 + 3 * i) ∧ T.vl (a + 1 + 2 + 3 * i) < (T.m : Int) := fun i hi => by
    obtain ⟨p1, p2, p3, p4, p5⟩ := g1 i hi
    exact ⟨(hT.2.2.2.2.1 _ (by omega)).1, hT.2.2.2.2.2.1 _ (by omega) p4⟩
  have i1 : ∀ v : Int, (if mn v < 1 then 1 else mn v) ≠ 0 := fun v => by split <;> omega
  unfold BND
  rw [r31, r37, r38, m11, m12, Int.toNat_natCast, Int.toNat_natCast, Nat.sub_self]
  refine ⟨y6, Nat.le_refl _, ?_, ?_, ?_, ?_, ?_, rfl⟩
  · intro i hi
    obtain ⟨n1, n2⟩ := nm i hi
    refine ⟨(T.vl (a + 1 + 2 + 3 * i)).toNat, by rw [h1 i hi]; omega, by omega, ?_⟩
    rw [h2 i hi]
    exact i1 _
  · intro i j hi hj e
    rw [h1 i hi, h1 j hj] at e
    have key : ∀ u v : Nat, u < v → v < J → T.vl (a + 1 + 2 + 3 * u) = T.vl (a + 1 + 2 + 3 * v) → False := by
      intro u v huv hv e
      have gv := (gp (P + v) (by omega) (by omega)).2.2 (P + u) (by omega) (by omega)
      rw [(g1 v hv).1, (g1 u (by omega)).1, Int.toNat_natCast, Int.toNat_natCast] at gv
      exact gv (by omega) (by omega) e.symm
    by_cases c1 : i < j
    · exact (key i j c1 hj e).elim
    · by_cases c2 : j < i
      · exact (key j i c2 hi e.symm).elim
      · omega
  · intro id hid z
    obtain ⟨i, z1, z2⟩ := h3 id hid z
    exact ⟨i, z1, by rw [h1 i z1]; exact z2⟩
  · intro i hi
    obtain ⟨p1, p2, p3, p4, p5⟩ := hpar i hi
    refine ⟨P + i, by omega, by omega, by rw [p1]; omega, by rw [p1, Int.toNat_natCast, h1 i hi], ?_⟩
    rw [h1 i hi, h2 i hi, p2, Int.toNat_natCast]
  · intro p p1 p2 p3
    refine ⟨p - P, by omega, ?_⟩
    obtain ⟨u1, u2, u3, u4, u5⟩ := hpar (p - P) (by omega)
    rw [show P + (p - P) = p by omega] at u1
    rw [h1 (p - P) (by omega), u1, Int.toNat_natCast]
/-- its nodes -/
theorem HRN.nds (hT : TWF T) (h : HRN T sc sm a S P N K C J b a' N' K' s1 scp mp sc2 sc3 m3 sc4) {n : Nat} (h1 : N ≤ n) (h2 : n < N') : HMm m3 S N a' N' 123 n = (S : Int) ∧ HMm m3 S N a' N' 124 n = -1 ∧ (1 ≤ HMm m3 S N a' N' 116 n → HMm m3 S N a' N' 116 n ≤ 3 → ∃ x : Nat, HMm m3 S N a' N' 118 n = (x : Int) ∧ x < T.z ∧ T.tk x = 1 ∧ sc4 48 n = sc3 37 (T.vl x).toNat) := by
  obtain ⟨t1, t2, hd, hcn, pl, hb, hk, t3, t4, t5, t6, hw, tp, he, cu⟩ := h
  obtain ⟨-, -, -, -, -, nd, -, -, xf, ec, ef, -, -, sg, -, -, -, -, -, -, -⟩ := tp
  obtain ⟨-, -, -, -, -, -, -, k1, k2, k3, k4, k5, k6, g1, g2, g3⟩ := pl
  have r46 : HWm mp S b 84 46 = -1 := by rw [HWm_col (by decide), k2 46 (by decide) (by decide), adv_col (by decide)]; exact HDm_S.1
  rw [r46] at sg
  have sn := sg.2.2.2.2.1 n h1 h2
  rw [HMm_row (show ¬ (123 = 84 ∨ 123 = 100 ∨ 123 = 103) by decide), HMm_row (show ¬ (124 = 84 ∨ 124 = 100 ∨ 124 = 103) by decide), HMm_row (show ¬ (116 = 84 ∨ 116 = 100 ∨ 116 = 103) by decide), HMm_row (show ¬ (118 = 84 ∨ 118 = 100 ∨ 118 = 103) by decide)]
  refine ⟨sn.1, sn.2.1, fun y z => ?_⟩
  obtain ⟨c, q, -, -, -, -, -, -, -, -, -, -, -, -, nv⟩ := nd.2.2.2 n h2
  obtain ⟨x, x1, x2, x3, x4, x5⟩ := nv.2.2.2.1 y z
  have e := sn.2.2 y z
  rw [x1, Int.toNat_natCast] at e
  exact ⟨x, x1, x3, x4, by rw [he.2.2.2.2.2.2.2.2.2.1 48 (by decide)]; exact e⟩
theorem HRN.nev (hT : TWF T) (h : HRN T sc sm a S P N K C J b a' N' K' s1 scp mp sc2 sc3 m3 sc4) (cn : CN scp) {n : Nat} (h1 : N ≤ n) (h2 : n < N') : NEV T sc4 (HMm m3 S N a' N') n := by
  obtain ⟨n1, n2, n3⟩ := h.nds hT h1 h2
  have bn := h.bnd hT cn
  intro y z
  obtain ⟨x, x1, x2, x3, x4⟩ := n3 y z
  have v1 := hT.2.2.2.2.1 x x2
  have v2 := hT.2.2.2.2.2.1 x x2 x3
  have vi : (((T.vl x).toNat : Nat) : Int) = T.vl x := by omega
  have o := bn.own (i := (T.vl x).toNat) (IDN.at hT x2 x3)
  rw [vi] at o
  rw [n1, n2, x1, Int.toNat_natCast, Int.toNat_natCast, x4]
  refine ⟨o, fun u => ?_⟩
  have := bn.oww (i := (T.vl x).toNat) (IDN.at hT x2 x3) u
  rw [vi] at this
  exact this
theorem HRN.gno (hT : TWF T) (h : HRN T sc sm a S P N K C J b a' N' K' s1 scp mp sc2 sc3 m3 sc4) (cn : CN scp) {n : Nat} (h1 : N ≤ n) (h2 : n < N') : NOK T (sc2 37) m3 n ↔ GNO T (HMm m3 S N a' N') n := by
  obtain ⟨n1, n2, n3⟩ := h.nds hT h1 h2
  have bn := h.bnd hT cn
  have r37 : sc3 37 = sc2 37 := by
    obtain ⟨t1, t2, hd, hcn, pl, hb, hk, t3, t4, t5, t6, hw, tp, he, cu⟩ := h
    obtain ⟨-, -, -, -, -, nd, -, -, xf, ec, -, -, -, -, -, -, -, -, -, -, -⟩ := tp
    exact ec.1 37 (by decide)
  have e6 : HMm m3 S N a' N' 116 = m3 116 := HMm_row (by decide)
  have e8 : HMm m3 S N a' N' 118 = m3 118 := HMm_row (by decide)
  have e9 : HMm m3 S N a' N' 119 = m3 119 := HMm_row (by decide)
  rw [e6, e8] at n3
  unfold NOK GNO
  rw [e6, e8, e9, n1, n2, Int.toNat_natCast, ← r37]
  have key : m3 116 n = 2 ∨ m3 116 n = 3 → (sc3 37 (T.vl (m3 118 n).toNat).toNat = 0 ↔ ¬ OWN T (HMm m3 S N a' N') S (-1) (T.vl (m3 118 n).toNat)) := by
    intro y
    obtain ⟨x, x1, x2, x3, x4⟩ := n3 (by omega) (by omega)
    have v1 := hT.2.2.2.2.1 x x2
    have v2 := hT.2.2.2.2.2.1 x x2 x3
    have vi : (((T.vl x).toNat : Nat) : Int) = T.vl x := by omega
    have o := bn.own (i := (T.vl x).toNat) (IDN.at hT x2 x3)
    rw [vi] at o
    rw [x1, Int.toNat_natCast, ← o]
    exact ⟨fun u v => v u, fun u => Decidable.byContradiction u⟩
  exact ⟨fun ⟨p1, p2, p3, p4⟩ => ⟨p1, p2, p3, fun y => (key y).mp (p4 y)⟩, fun ⟨p1, p2, p3, p4⟩ => ⟨p1, p2, p3, fun y => (key y).mpr (p4 y)⟩⟩
/-- all is well with it -/
theorem HRN.cn (hT : TWF T) (h : HRN T sc sm a S P N K C J b a' N' K' s1 scp mp sc2 sc3 m3 sc4) (ow : OWR T sc sm S) : (CN sc4 ↔ CN sc ∧ GST T sc4 (HMm m3 S N a' N') S ∧ ∀ n, N ≤ n → n < N' → GNO T (HMm m3 S N a' N') n) ∧ (CN sc4 → CN scp) := by
  obtain ⟨⟨x4, x5⟩, hpar⟩ := h.par
  obtain ⟨m1, m2, m3', m4, m5, m6, m7, m8, m9, m10, m11, m12, -⟩ := h.hmf
  obtain ⟨c1, c2, c3, c4, c5, -⟩ := h.hcf
  have gno := fun (cn : CN scp) (n : Nat) (y : N ≤ n) (z : n < N') => h.gno hT cn y z
  obtain ⟨t1, t2, hd, hcn, pl, hb, hk, t3, t4, t5, t6, hw, tp, he, cu⟩ := h
  obtain ⟨y1, y2, y3, y4, y5, y6, y7, k1, k2, k3, k4, k5, k6, g1, g2, g3⟩ := pl
  obtain ⟨-, -, -, -, f6, -, -, -, xf, ec, ef, nk, -, -, -, -, -, -, la, -, -⟩ := tp
  obtain ⟨w1, w2, w3, w4, w5, w6⟩ := hw
  obtain ⟨q1, q2, q3, q4, q5, q6, q7, q8, q9, q10, q11, q12, q13, q14⟩ := hd
  have z1 : a + 1 < T.z := by
    have := cu.2.2
    omega
  have v1 := hT.2.2.2.2.1 (a + 1) z1
  have v2 := hT.2.2.2.2.2.1 (a + 1) z1 t1
  have a4 : CN sc4 ↔ CN sc3 := by unfold CN; rw [he.2.2.2.2.2.2.2.2.2.1 30 (by decide)]
  have a1 : CN (cur T s1 (a + 3)) ↔ CN s1 := by unfold CN; rw [cur_row (by decide)]
  have gpt : GPT T (cur T s1 (a + 3)) mp P J ↔ GPT T sc4 (HMm m3 S N a' N') P J := by
    unfold GPT BIN
    rw [x4, x5, c1 40 (by decide), c1 42 (by decide), c1 43 (by decide), cur_row (show 40 ≠ 39 by decide), cur_row (show 42 ≠ 39 by decide), cur_row (show 43 ≠ 39 by decide), q12 40 (by decide), q12 42 (by decide), q12 43 (by decide)]
  have dup : sc 36 (T.vl (a + 1)).toNat = -1 ↔ ∀ j, j < S → T.vl (HMm m3 S N a' N' 95 j).toNat ≠ T.vl (HMm m3 S N a' N' 95 S).toNat := by
    rw [m9, Int.toNat_natCast]
    rcases ow (T.vl (a + 1)).toNat (IDN.at hT (x := a + 1) z1 t1) with ⟨u1, u2⟩ | ⟨i, u1, u2, u3⟩
    · refine ⟨fun _ j hj e => u2 j hj ?_, fun _ => u1⟩
      rw [m7 95 j (by decide) (by decide) (by omega)] at e
      omega
    · refine ⟨fun e => absurd e (by omega), fun e => absurd ?_ (e i u1)⟩
      rw [m7 95 i (by decide) (by decide) (by omega)]
      omega
  have gst : GST T sc4 (HMm m3 S N a' N') S ↔ sc 36 (T.vl (a + 1)).toNat = -1 ∧ GPT T (cur T s1 (a + 3)) mp P J ∧ 1 ≤ T.vl (b + 1) ∧ T.vl (b + 1) ≤ 32 := by
    unfold GST
    rw [m8, m10, m11, m12, dup, gpt, Int.toNat_natCast, Int.toNat_natCast, Int.toNat_natCast]
    exact ⟨fun ⟨u1, u2, u3, u4, u5⟩ => ⟨u4, u5, u1 (by decide)⟩, fun ⟨u4, u5, u1⟩ => ⟨fun _ => u1, fun y => absurd y (by decide), fun y => absurd y (by decide), u4, u5⟩⟩
  rw [a4, nk, w6, g2, a1, hcn, gst]
  have mk : CN sc ∧ sc 36 (T.vl (a + 1)).toNat = -1 → GPT T (cur T s1 (a + 3)) mp P J → CN scp := fun u v => g2.mpr ⟨a1.mpr (hcn.mpr u), v⟩
  refine ⟨⟨fun ⟨⟨⟨u1, u2⟩, u3⟩, u4⟩ => ⟨u1.1, ⟨u1.2, u2, u3⟩, fun n y z => (gno (mk u1 u2) n y z).mp (u4 n y z)⟩, fun ⟨u1, ⟨u2, u3, u4⟩, u5⟩ => ⟨⟨⟨⟨u1, u2⟩, u3⟩, u4⟩, fun n y z => (gno (mk ⟨u1, u2⟩ u3) n y z).mpr (u5 n y z)⟩⟩, fun ⟨⟨⟨u1, u2⟩, u3⟩, u4⟩ => ⟨u1, u2⟩⟩
end HBN
/-! A HELPER on both sides. -/
theorem PRX.q {p q : Int} (h : PRX p q) : q ≠ 59 ∧ q ≠ 123 ∧ q ≠ 125 ∧ ¬ (17 ≤ q ∧ q ≤ 20) := by
  unfold PRX at h
  rcases h with ⟨_, h⟩ | ⟨_, h⟩ | ⟨_, h⟩ | ⟨_, h⟩ | ⟨_, h⟩ | ⟨_, h⟩
  · simp [opS] at h; omega
  · simp [opF] at h; omega
  all_goals omega
section HSM
variable {T : TT} {sc0 sm0 sc sm s1 scp mp sc2 sc3 m3 sc4 : Sg} {a S P A N K C w J b a' N' K' : Nat}
/-- its lexemes -/
theorem HRN.tks (h : HRN T sc sm a S P N K C J b a' N' K' s1 scp mp sc2 sc3 m3 sc4) : (∀ k, a + 2 ≤ k → k ≤ a' → PRQ (T.tk (k - 1)) (T.tk k) ∧ T.tk k ≠ 123 ∧ T.tk k ≠ 125 ∧ ¬ (17 ≤ T.tk k ∧ T.tk k ≤ 20)) ∧ (∀ k, a + 1 ≤ k → k < a' → T.tk k ≠ 59) ∧ (∀ k, a + 1 < k → k < b + 3 → ¬ (T.tk k = 1 ∧ T.tk (k + 1) = 40)) ∧ a + 3 ≤ b ∧ b + 3 < a' ∧ T.tk (a' - 1) ∈ opB := by
  obtain ⟨_, hpar⟩ := h.par
  obtain ⟨t1, t2, hd, hcn, pl, hb, hk, t3, t4, t5, t6, hw, tp, he, cu⟩ := h
  obtain ⟨-, -, -, -, -, -, -, -, -, -, -, -, -, sg, -, -, -, -, la, oS, oB⟩ := tp
  have px := sg.2.2.2.2.2.2.2.2.1
  have pi : ∀ k, a + 3 ≤ k → k < b → ∃ i, i < J ∧ (k = a + 1 + 2 + 3 * i ∨ k = a + 1 + 3 + 3 * i ∨ (k = a + 5 + 3 * i ∧ i + 1 < J)) := fun k x y => ⟨(k - (a + 3)) / 3, by omega, by omega⟩
  have c2 : ∀ p q : Int, PRX p q → PRQ p q := fun p q y => Or.inl y
  have bp : T.tk (b - 1) = 40 ∨ T.tk (b - 1) = 2 := by
    rcases hb with ⟨_, e⟩ | ⟨j1, e⟩
    · left; rw [e]; exact t2
    · right
      have := (hpar (J - 1) (by omega)).2.2.2.2
      rw [show a + 1 + 3 + 3 * (J - 1) = b - 1 by omega] at this
      exact this
  refine ⟨fun k x y => ?_, fun k x y => ?_, fun k x y => ?_, by omega, la, oB⟩
  · by_cases k1 : k = a'
    · subst k1
      rw [t6]
      exact ⟨Or.inr (Or.inl ⟨oB, Or.inl rfl⟩), by decide, by decide, by decide⟩
    by_cases k2 : b + 3 ≤ k
    · have p := px k k2 (by omega)
      exact ⟨c2 _ _ p, p.q.2.1, p.q.2.2.1, p.q.2.2.2⟩
    by_cases k3 : k = b + 2
    · subst k3
      rw [show b + 2 - 1 = b + 1 by omega, t4, t5]
      exact ⟨Or.inr (Or.inr (Or.inl (by decide))), by decide, by decide, by decide⟩
    by_cases k4 : k = b + 1
    · subst k4
      rw [show b + 1 - 1 = b by omega, t3, t4]
      exact ⟨Or.inr (Or.inr (Or.inl (by decide))), by decide, by decide, by decide⟩
    by_cases k5 : k = b
    · subst k5
      rw [t3]
      refine ⟨?_, by decide, by decide, by decide⟩
      rcases bp with e | e <;> rw [e]
      · exact Or.inl (Or.inr (Or.inr (Or.inr (Or.inr (Or.inl (by decide))))))
      · exact Or.inl (Or.inr (Or.inl (by decide)))
    by_cases k6 : k = a + 2
    · subst k6
      rw [show a + 2 - 1 = a + 1 by omega, t1, t2]
      exact ⟨Or.inl (Or.inr (Or.inr (Or.inl (by decide)))), by decide, by decide, by decide⟩
    obtain ⟨i, hi, e | e | ⟨e, ei⟩⟩ := pi k (by omega) (by omega)
    · have tk0 := (hpar i hi).2.2.2.1
      rw [← e] at tk0
      rw [tk0]
      refine ⟨?_, by decide, by decide, by decide⟩
      have : T.tk (k - 1) = 40 ∨ T.tk (k - 1) = 44 := by
        by_cases i0 : i = 0
        · left; rw [show k - 1 = a + 2 by omega]; exact t2
        · right; rw [show k - 1 = a + 5 + 3 * (i - 1) by omega]; exact hk (i - 1) (by omega)
      rcases this with e | e <;> rw [e] <;> exact Or.inl (Or.inl (by decide))
    · have tk0 := (hpar i hi).2.2.2.2
      have tk1 := (hpar i hi).2.2.2.1
      rw [← e] at tk0
      rw [show a + 1 + 2 + 3 * i = k - 1 by omega] at tk1
      rw [tk0, tk1]
      exact ⟨Or.inr (Or.inr (Or.inl (by decide))), by decide, by decide, by decide⟩
    · have tk0 := hk i ei
      have tk1 := (hpar i hi).2.2.2.2
      rw [← e] at tk0
      rw [show a + 1 + 3 + 3 * i = k - 1 by omega] at tk1
      rw [tk0, tk1]
      exact ⟨Or.inl (Or.inr (Or.inl (by decide))), by decide, by decide, by decide⟩
  · by_cases k2 : b + 3 ≤ k
    · exact (px k k2 (by omega)).q.1
    by_cases k3 : k = b + 2
    · subst k3; rw [t5]; decide
    by_cases k4 : k = b + 1
    · subst k4; rw [t4]; decide
    by_cases k5 : k = b
    · subst k5; rw [t3]; decide
    by_cases k6 : k = a + 2
    · subst k6; rw [t2]; decide
    by_cases k7 : k = a + 1
    · subst k7; rw [t1]; decide
    obtain ⟨i, hi, e | e | ⟨e, ei⟩⟩ := pi k (by omega) (by omega)
    · rw [e, (hpar i hi).2.2.2.1]; decide
    · rw [e, (hpar i hi).2.2.2.2]; decide
    · rw [e, hk i ei]; decide
  · rintro ⟨u1, u2⟩
    by_cases k3 : k = b + 2
    · subst k3; rw [t5] at u1; exact absurd u1 (by decide)
    by_cases k4 : k = b + 1
    · subst k4; rw [t4] at u1; exact absurd u1 (by decide)
    by_cases k5 : k = b
    · subst k5; rw [t3] at u1; exact absurd u1 (by decide)
    by_cases k6 : k = a + 2
    · subst k6; rw [t2] at u1; exact absurd u1 (by decide)
    obtain ⟨i, hi, e | e | ⟨e, ei⟩⟩ := pi k (by omega) (by omega)
    · rw [show k + 1 = a + 1 + 3 + 3 * i by omega, (hpar i hi).2.2.2.2] at u2; exact absurd u2 (by decide)
    · rw [e, (hpar i hi).2.2.2.2] at u1; exact absurd u1 (by decide)
    · rw [e, hk i ei] at u1; exact absurd u1 (by decide)
/-- the reference ends it -/
theorem HRN.end (h : HRN T sc sm a S P N K C J b a' N' K' s1 scp mp sc2 sc3 m3 sc4) (h19 : sm 84 19 = (S : Int)) (hS : S < 4100) (hN : N' ≤ 1000000) : j_233_359 (S : Int) (adv (ax_u2 m3 100 S ((N' : Int) - 1)) (a' + 1)) = some (HMm m3 S N a' N') := by
  obtain ⟨t1, t2, hd, hcn, pl, hb, hk, t3, t4, t5, t6, hw, tp, he, cu⟩ := h
  obtain ⟨-, -, -, -, f6, nd, -, -, -, -, ef, -, -, -, -, lN, -, -, -, -, -⟩ := tp
  obtain ⟨-, -, -, -, -, -, -, k1, k2, -, -, -, -, -, -, -⟩ := pl
  have e6 : (adv (ax_u2 m3 100 S ((N' : Int) - 1)) (a' + 1)) 84 6 = 0 := by rw [adv_col (by decide), u2_row _ _ _ (by decide)]; exact f6
  have e47 : (adv (ax_u2 m3 100 S ((N' : Int) - 1)) (a' + 1)) 84 47 = (N' : Int) := by rw [adv_col (by decide), u2_row _ _ _ (by decide)]; exact nd.2.1
  have e19 : (adv (ax_u2 m3 100 S ((N' : Int) - 1)) (a' + 1)) 84 19 = (S : Int) := by rw [adv_col (by decide), u2_row _ _ _ (by decide), ef.2 19 (by decide), HWm_col (by decide), k2 19 (by decide) (by decide), adv_col (by decide), HDm_84 (by decide) (by decide)]; exact h19
  have e103 : (adv (ax_u2 m3 100 S ((N' : Int) - 1)) (a' + 1)) 103 S = (N : Int) := by rw [adv_row (by decide), u2_row _ _ _ (by decide), ef.1 103 (by decide), HWm_row (by decide), k1 103 (by decide), adv_row (by decide)]; exact HDm_S.2.2.2.2.2.2.2
  unfold j_233_359
  rw [e6, e47, e19, Int.toNat_natCast, e103, if_pos (by decide), gd_pos (by omega), gd_pos (by omega), w32_id (by omega) (by omega), w32_id (by omega) (by omega)]
  rfl
end HSM
/-! A HELPER has been read, alike on both sides. -/
section HPS
variable {T : TT} {sc0 sm0 sc sm s1 scp mp sc2 sc3 m3 sc4 : Sg} {a S P A N K C w J b a' N' K' : Nat}
theorem HRN.ps (hT : TWF T) (hp : POS T) (h : PS0 T sc0 sm0 sc sm a S P A N K C w) (t0 : T.tk a = 19) (H : HRN T sc sm a S P N K C J b a' N' K' s1 scp mp sc2 sc3 m3 sc4) : PS0 T sc0 sm0 sc4 (HMm m3 S N a' N') (a' + 1) (S + 1) (P + J) A N' K' (C + 1) w := by
  obtain ⟨hB, h70, h19, h7, h37, hnc, htl, hdp⟩ := h
  obtain ⟨e1, e2, e3, e4, e5, e6, e7, e8, e9, e10, e11, e12, e13, e14, e15, e16, e17, e18, e19, e20, e21, e22, e23, e24, e25, e26, e27, e28, e29, e30, e31⟩ := hB
  obtain ⟨pq, n59, ncl, lb, la, oB⟩ := H.tks
  obtain ⟨c1, c2, c3, c4, c5, c6, c7, c8, c9, c10, c11, c12, c13, c14, c15, c16, c17, c18, c19, c20, c21, c22, c23, c24⟩ := H.hcf
  obtain ⟨d1, d2, d3, d4, d5, d6, d7, d8, d9, d10, d11, d12, d13, d14, d15, d16, d17, d18, d19⟩ := H.hmf
  obtain ⟨hcn, hcp⟩ := H.cn hT e17.2.2.2.2.2.1
  have hpar := H.par.2
  have nds := fun (n : Nat) (y : N ≤ n) (z : n < N') => H.nds hT y z
  have nev := fun (cn : CN scp) (n : Nat) (y : N ≤ n) (z : n < N') => H.nev hT cn y z
  obtain ⟨t1, t2, hd, hcs, pl, hb, hk, t3, t4, t5, t6, hw, tp, he, cu⟩ := H
  obtain ⟨p1, p2, p3, p4, p5, p6, p7, p8, p9, p10, p11, p12, p13, p14, p15, p16, p17, p18, p19, p20, p21⟩ := tp
  obtain ⟨y1, y2, y3, y4, y5, y6, y7, k1, k2, k3, k4, k5, k6, g1, g2, g3⟩ := pl
  obtain ⟨w1, w2, w3, w4, w5, w6⟩ := hw
  obtain ⟨r1, r2, r3, r4, r5, r6, r7, r8, r9, r10, r11, r12, r13⟩ := he
  have hz := cu.2.2
  have v1 := hT.2.2.2.2.1 (a + 1) (by omega)
  have vm := hT.2.2.2.2.2.1 (a + 1) (by omega) t1
  have sfc : SFc sc sc4 := ⟨fun c x => c1 c (by omega), c2, c3, c4, W8.of (B := 0) c5 (by decide)⟩
  have sfm : SFm sm (HMm m3 S N a' N') := ⟨fun c x => d1 c (by omega), fun j x => d2 j (by omega)⟩
  have rx : RXF sc sm sc4 (HMm m3 S N a' N') S P A N C := ⟨fun c i x y z => c8 c i x (by omega) (by omega), fun c i x y z => d7 c i x (by omega) (by omega), fun c p x y z => d17 c p x y z, fun c i x y _ => by rw [d1 c (by omega)], fun c j x y z => c22 c j x y (by omega), fun n z => c23 n z, fun c n x y z => d18 c n x y z, fun c x => c1 c (by omega)⟩
  have pa := hp.2.1 a (by omega) (by omega) (by omega) t1
  have pb := hp.add (k := a + 1) (a' + 1 - (a + 1)) (by omega)
  rw [show a + 1 + (a' + 1 - (a + 1)) = a' + 1 by omega] at pb
  have hN := p14.2.2.1
  have srl : SRL T sc4 (HMm m3 S N a' N') (P + J) N' S := by
    refine ⟨a + 1, P, J, N, c10, d9, by omega, t1, by rw [c9, d8], d11, d12, Nat.le_refl _, c14, by omega, Or.inr (Or.inr (Or.inl ⟨d8, c12, ⟨b + 1, d10, by omega, t4, c11⟩, ?_⟩))⟩
    refine ⟨b + 3, a', N, N', d13, p16, Nat.le_refl _, c14, d14, by omega, by omega, by omega, t6, fun k x y => n59 k x y, fun k x y => ncl k x y, ⟨?_, ?_, ?_, ?_, p14.2.2.2.2.2.2.2.2.2⟩, fun j hj => ?_⟩
    · intro m x y
      exact (nds m x y).1
    · intro m x y z
      rw [HMm_row (by decide)] at z
      obtain ⟨i, i1, i2, i3, i4, i5⟩ := p14.2.2.2.2.2.1 m x y z
      exact ⟨i, i1, i2, by rw [HMm_row (by decide)]; exact i3, i4, i5⟩
    · intro k x y z u
      obtain ⟨m, i1, i2, i3, i4⟩ := p14.2.2.2.2.2.2.1 k x y z u
      exact ⟨m, i1, i2, by rw [HMm_row (by decide)]; exact i3, by rw [HMm_row (by decide)]; exact i4⟩
    · intro m m' x y x' y'
      rw [HMm_row (show ¬ (116 = 84 ∨ 116 = 100 ∨ 116 = 103) by decide), HMm_row (show ¬ (118 = 84 ∨ 118 = 100 ∨ 118 = 103) by decide)]
      exact p14.2.2.2.2.2.2.2.1 m m' x y x' y'
    · exact hpar j hj
  have owr : OWR T sc4 (HMm m3 S N a' N') (S + 1) := by
    intro id hid
    by_cases e : id = (T.vl (a + 1)).toNat
    · right
      refine ⟨S, by omega, by rw [e]; exact c15, ?_⟩
      rw [d9, Int.toNat_natCast, e]
      omega
    · rw [c16 id e]
      rcases e17.2.2.2.2.2.1 id hid with ⟨z1, z2⟩ | ⟨i, z1, z2, z3⟩
      · left
        refine ⟨z1, fun i hi => ?_⟩
        by_cases e2 : i = S
        · rw [e2, d9, Int.toNat_natCast]
          omega
        · rw [d7 95 i (by decide) (by decide) e2]
          exact z2 i (by omega)
      · right
        exact ⟨i, by omega, z2, by rw [d7 95 i (by decide) (by decide) (by omega)]; exact z3⟩
  have clm : sc4 62 C = HMm m3 S N a' N' 101 S ∧ sc4 63 C = -1 ∧ sc4 64 C = HMm m3 S N a' N' 100 S ∧ sc4 65 C = (if sc4 57 S < 1 then 1 else sc4 57 S) := ⟨by rw [c18, d14], c19, by rw [c20, d13], by rw [c21, c11]⟩
  have dat : DAT T sc4 (HMm m3 S N a' N') (S + 1) (P + J) A N' (C + 1) w := by
    refine e17.ext rx (by omega) (by omega) (Nat.le_refl _) (by omega) (by omega) (fun i y z => by rw [show i = S by omega]; exact srl) (fun _ y z => absurd z (by omega)) (fun c y z => ?_) (fun _ _ y z => absurd z (by omega)) (fun _ y z => absurd z (by omega)) (fun s y z u => ?_) (fun n y z => ?_) (fun cn n y z => nev (hcp cn) n y z) owr ⟨by omega, fun i y z => by rw [show i = S by omega]; exact c14, fun p y z => ⟨S, by omega, by rw [d11, Int.toNat_natCast]; exact y, by rw [d11, d12, Int.toNat_natCast, Int.toNat_natCast]; exact z⟩, fun i y z _ => by rw [show i = S by omega, d13]; omega, fun y => absurd y (by omega)⟩ ⟨by rw [e4, d3]; omega, fun m u v z => by
        rw [HMm_row (by decide)] at z
        obtain ⟨k, k1, k2, k3, -⟩ := p14.2.2.2.2.2.1 m u v z
        rw [e4, d3, HMm_row (by decide), k3]
        omega, fun m m' u v u' v' z z' e => by
        rw [HMm_row (by decide)] at z z' e
        exact p14.2.2.2.2.2.2.2.1 m m' u v u' v' z z' e⟩ ⟨fun i y z => by rw [show i = S by omega, d9, e4]; omega, fun i y z _ e he => by
        rw [show i = S by omega, d9, Int.toNat_natCast] at he
        rw [d3]
        have : e ≤ a' := by
          apply Decidable.byContradiction
          intro hn
          exact he.2.2 a' (by omega) (by omega) t6
        omega⟩ ?_
    · rw [show c = C by omega]
      exact Or.inr (Or.inr ⟨S, by omega, d8, clm⟩)
    · rw [show s = S by omega]
      exact ⟨C, by omega, clm⟩
    · obtain ⟨n1, n2, _⟩ := nds n y z
      exact ⟨S, n1, by omega, by rw [n2]; decide, by rw [n2]; omega, fun u => absurd u (by rw [n2]; decide), by rw [c14]; omega, fun s' u v => absurd v (by omega)⟩
    · rw [hcn]
      exact ⟨fun y => ⟨y.1, fun i z1 z2 => by rw [show i = S by omega]; exact y.2.1, fun _ y z => absurd z (by omega), y.2.2⟩, fun y => ⟨y.1, y.2.1 S (Nat.le_refl _) (by omega), y.2.2.2⟩⟩
  have dd : ∀ j, a + j ≤ a' + 1 → dpt T (a + j) = 0 := by
    intro j
    induction j with
    | zero => intro _; exact hdp
    | succ j ih =>
      intro hj
      rw [show a + (j + 1) = a + j + 1 by omega, dpt_n, ih (by omega)]
      · by_cases j0 : j = 0
        · subst j0; rw [Nat.add_zero, t0]; decide
        · by_cases j1 : j = 1
          · subst j1; rw [t1]; decide
          · exact (pq (a + j) (by omega) (by omega)).2.1
      · by_cases j0 : j = 0
        · subst j0; rw [Nat.add_zero, t0]; decide
        · by_cases j1 : j = 1
          · subst j1; rw [t1]; decide
          · exact (pq (a + j) (by omega) (by omega)).2.2.1
  refine ⟨⟨sfc.cc e1, sfm.mc e2, cu, d3, d6, ?_, ?_, ?_, ?_, c6, d5, by rw [d2 34 (by decide)]; exact e12, c17, c5, e15.trans sfc, e16.trans sfm, dat, ?_, ?_, ?_, by omega, by omega, by omega, by omega, by omega, p17, by omega, by rw [d2 30 (by decide)]; exact e28, by rw [c7 7 (by decide)]; exact e29, e30, e31⟩, by rw [c1 70 (by decide)]; exact h70, d4, by omega, ?_, ?_, Or.inl (by rw [show a' + 1 - 1 = a' by omega]; exact t6), ?_⟩
  · exact p6.congr (by rw [r10 46 (by decide)]) (HMm_84 (by decide) (by decide)) (HMm_84 (by decide) (by decide)) (fun c n x y _ => by rw [r10 c (by omega)]) (fun c n x y _ => by rw [HMm_row (by omega)]) (fun j _ => by rw [HMm_row (by decide)])
  · rw [r10 66 (by decide)]; exact p7
  · intro k x y
    obtain ⟨f1, f2, f3, f4⟩ := p8 k (by omega) y
    exact ⟨by rw [r10 45 (by decide)]; exact f1, by rw [HMm_row (by decide)]; exact f2, by rw [HMm_row (by decide)]; exact f3, by rw [HMm_row (by decide)]; exact f4⟩
  · intro k x
    by_cases c : k < b + 3
    · have : LF T sc sm k := by
        by_cases e : k < a
        · exact e9 k e
        · exact (e8 k (by omega) (by omega)).lf
      have dk := d19 k (Or.inl c)
      exact this.congr (c24 k (Or.inl c)) dk.1 dk.2 (by rw [d1 93 (by decide)])
    · have : LF T sc3 m3 k := by
        by_cases e : k < a'
        · exact p13 k (by omega) e
        · exact (p8 k (by omega) (by omega)).lf
      exact this.congr (by rw [r10 45 (by decide)]) (by rw [HMm_row (by decide)]) (by rw [HMm_row (by decide)]) (by rw [HMm_row (by decide)])
  · intro i hi
    by_cases e : i = S
    · subst e; rw [c13, d15]
    · rw [c8 59 i (by decide) (by decide) e, d7 102 i (by decide) (by decide) e]
      exact e18 i (by omega)
  · intro k x y
    by_cases q1 : k < a
    · exact e19 k x q1
    · by_cases q2 : k = a
      · subst q2
        exact Or.inr (Or.inr (Or.inr (Or.inl ⟨htl, by omega, by omega⟩)))
      · by_cases q3 : k = a + 1
        · subst q3
          rw [show a + 1 - 1 = a by omega]
          exact Or.inr (Or.inr (Or.inr (Or.inr (Or.inl ⟨by omega, by omega, t1⟩))))
        · exact (pq k (by omega) (by omega)).1
  · intro k x
    by_cases q1 : k < a
    · exact e20 k q1
    · by_cases q2 : k = a
      · subst q2
        exact ⟨fun _ => ⟨by omega, htl, hdp⟩, fun _ => by omega⟩
      · by_cases q3 : k = a + 1
        · subst q3
          exact STT.inn (by rw [t1]; decide) (by rw [show a + 1 - 1 = a by omega]; omega) (by rw [show a + 1 - 1 = a by omega]; omega)
        · have q := pq k (by omega) (by omega)
          refine STT.inn q.2.2.2 (n59 (k - 1) (by omega) (by omega)) ?_
          by_cases q4 : k = a + 2
          · subst q4
            rw [show a + 2 - 1 = a + 1 by omega, t1]; decide
          · exact (pq (k - 1) (by omega) (by omega)).2.2.1
  · intro cn id hid
    have hid' := hid.lt hT
    have cp := hcp cn
    obtain ⟨i1, i2, i3⟩ := g3 cp
    have r38 : sc3 38 = scp 38 := by rw [p10.1 38 (by decide), w3 38 (by decide)]
    have r37 : sc3 37 = scp 37 := by rw [p10.1 37 (by decide), w3 37 (by decide)]
    by_cases z : scp 37 id = 0
    · by_cases u : ∃ i, i < J ∧ sc3 38 i = (id : Int)
      · obtain ⟨i, u1, u2⟩ := u
        have hm := hT.2.2.2.2.2.2
        have := r12 i u1 (by omega) (by omega)
        rw [u2, Int.toNat_natCast] at this
        exact this
      · rw [r13 id (fun i hi e => u ⟨i, hi, e⟩), r37]
        exact z
    · obtain ⟨i, u1, u2⟩ := i3 id hid z
      have u3 : sc3 38 i = (id : Int) := by rw [r38, i1 i u1]; exact u2
      have hm := hT.2.2.2.2.2.2
      have := r12 i u1 (by omega) (by omega)
      rw [u3, Int.toNat_natCast] at this
      exact this
  · intro i hi
    by_cases e : i = S
    · subst e
      rw [c14, d16, if_neg (by omega)]
      omega
    · rw [c8 60 i (by decide) (by decide) e, d7 103 i (by decide) (by decide) e, hnc i (by omega), if_pos (show i + 1 < S + 1 by omega)]
      by_cases e2 : i + 1 = S
      · rw [if_neg (by omega), e2, c14]
      · rw [if_pos (by omega), c8 60 (i + 1) (by decide) (by decide) e2]
  · have := dd (a' + 1 - a) (by omega)
    rw [show a + (a' + 1 - a) = a' + 1 by omega] at this
    exact this
theorem def_sim (hT : TWF T) (hp : POS T) (h : PS0 T sc0 sm0 sc sm a S P A N K C w) (t0 : T.tk a = 19) :
    (∃ (sc' sm' : Sg) (a' P' N' K' : Nat), f_145 sc = some (.inl sc') ∧ f_233 sm = some sm' ∧ a < a' ∧ PS0 T sc0 sm0 sc' sm' a' (S + 1) P' A N' K' (C + 1) w) ∨ (∃ (x : Nat) (s' mF : Sg), f_145 sc = some (.inr (x, s')) ∧ (x = 14 ∨ x = 15) ∧ BSc T sc s' ∧ f_233 sm = some mF ∧ BSm sm mF) := by
  rcases def_run hT hp h t0 with ⟨s1, scp, mp, sc2, sc3, m3, sc4, J, b, a', N', K', H, h1, h2⟩ | h1
  · left
    have ps := H.ps hT hp h t0
    have h8 := hT.1
    have hz := ps.1.2.2.1.2.2
    have hN : N' ≤ a' + 1 := by
      obtain ⟨⟨e1, e2, e3, e4, e5, e6, e7, e8, e9, e10, e11, e12, e13, e14, e15, e16, e17, e18, e19, e20, e21, e22, e23, e24, e25, -⟩, -⟩ := ps
      exact e25
    obtain ⟨pq, n59, ncl, lb, la, oB⟩ := H.tks
    have hS : S < 4100 := by
      have := ps.2.2.2.1
      have p8 := hp.2.2.2
      have pz := hp.add (k := a' + 1) (T.z - (a' + 1)) (by omega)
      rw [show a' + 1 + (T.z - (a' + 1)) = T.z by omega] at pz
      omega
    exact ⟨sc4, HMm m3 S N a' N', a' + 1, P + J, N', K', h1, by rw [h2]; exact H.end h.2.2.1 hS (by omega), by omega, ps⟩
  · exact Or.inr h1
end HPS
/-! AN INSTRUCTION's parts: bits. -/
/-- where a lexeme's bytes are -/
def CX (T : TT) (s : Sg) : Prop := s 39 8 ≤ 8192 ∧ ∀ k, k < T.z → 0 ≤ s 43 k ∧ T.fm k + s 43 k ≤ s 39 8
section BITS
variable {T : TT} {s : Sg} {a k S : Nat}
theorem c82 (hT : TWF T) (hc : CC T s) (hk : k < T.z) : f_82 (k : Int) s = s 43 k ∧ g_82 (k : Int) s := by
  have h8 := hT.1
  unfold f_82 g_82
  rw [hc.1, Int.toNat_natCast]
  refine ⟨by rw [if_neg (by omega), if_neg (by omega)], fun h => absurd h (by omega), fun _ => ⟨fun _ => trivial, fun _ => ⟨⟨by omega, by omega⟩, trivial⟩⟩⟩
theorem c98l (hT : TWF T) (hc : CC T s) (hx : CX T s) (hk : k < T.z) : ∀ (r : Nat) (e F : Nat), (e : Int) + (r : Int) = s 43 k → (∀ i : Nat, i < e → s 40 ((s 42 k).toNat + i) % 256 = 48 ∨ s 40 ((s 42 k).toNat + i) % 256 = 49) →
    (j_98_8 (F + r + 1) (k : Int) (T.fm k) (e : Int) s = some 1 ∧ BIN s k) ∨ (j_98_8 (F + r + 1) (k : Int) (T.fm k) (e : Int) s = some 0 ∧ ¬ BIN s k) := by
  intro r
  have h8 := hT.1
  have hf := hT.2.2.2.1 k (by omega)
  obtain ⟨x1, x2⟩ := hx
  have x3 := x2 k hk
  obtain ⟨c1, c2⟩ := c82 hT hc hk
  have h42 : s 42 k = T.fm k := by rw [hc.2.2.1]
  induction r with
  | zero =>
    intro e F he hb
    left
    rw [j_98_8, gd_pos c2, c1, if_pos (by omega)]
    refine ⟨rfl, fun i hi => hb i (by omega)⟩
  | succ r ih =>
    intro e F he hb
    have w1 : ax_w32 (T.fm k + (e : Int)) = T.fm k + (e : Int) := w32_id (by omega) (by omega)
    have g83 : g_83 (T.fm k + (e : Int)) s := ⟨fun h => absurd h (by omega), fun _ => ⟨fun h => absurd h (by omega), fun _ => ⟨⟨by omega, by omega⟩, trivial⟩⟩⟩
    have ix : (T.fm k + (e : Int)).toNat = (s 42 k).toNat + e := by rw [h42]; omega
    have f83 : f_83 (T.fm k + (e : Int)) s = s 40 ((s 42 k).toNat + e) % 256 := by
      unfold f_83
      rw [if_neg (by omega), if_neg (by omega), ix, iand255]
    rw [show F + (r + 1) + 1 = (F + r + 1) + 1 by omega, j_98_8, gd_pos c2, c1, if_neg (by omega), w1, gd_pos g83, f83]
    have nx : (s 40 ((s 42 k).toNat + e) % 256 = 48 ∨ s 40 ((s 42 k).toNat + e) % 256 = 49) → (j_98_8 (F + r + 1) (k : Int) (T.fm k) (ax_w32 ((e : Int) + 1)) s = some 1 ∧ BIN s k) ∨ (j_98_8 (F + r + 1) (k : Int) (T.fm k) (ax_w32 ((e : Int) + 1)) s = some 0 ∧ ¬ BIN s k) := by
      intro y
      rw [w32_nat (i := e) (by omega)]
      refine ih (e + 1) F (by omega) (fun i hi => ?_)
      by_cases ie : i = e
      · rw [ie]; exact y
      · exact hb i (by omega)
    by_cases b0 : s 40 ((s 42 k).toNat + e) % 256 = 48
    · rw [if_pos b0]
      exact nx (Or.inl b0)
    · rw [if_neg b0]
      by_cases b1 : s 40 ((s 42 k).toNat + e) % 256 = 49
      · rw [if_pos b1]
        exact nx (Or.inr b1)
      · rw [if_neg b1]
        right
        refine ⟨rfl, fun y => ?_⟩
        rcases y e (by omega) with z | z
        · exact b0 z
        · exact b1 z
theorem c98 (hT : TWF T) (hc : CC T s) (hx : CX T s) (hk : k < T.z) : (f_98 (k : Int) s = some 1 ∧ BIN s k) ∨ (f_98 (k : Int) s = some 0 ∧ ¬ BIN s k) := by
  have x3 := hx.2 k hk
  have hf := hT.2.2.2.1 k (by omega)
  have x1 := hx.1
  obtain ⟨F, hF⟩ := FU_split (k := (s 43 k).toNat + 1) (by omega)
  have := c98l hT hc hx hk (s 43 k).toNat 0 F (by omega) (fun i hi => absurd hi (by omega))
  obtain ⟨c1, c2⟩ := c80 (a := k) hc hT (by omega)
  unfold f_98
  rw [gd_pos c2, c1, hF]
  exact this
/-- a part of bits -/
theorem c158 (hT : TWF T) (hc : CC T s) (hx : CX T s) (hu : CU T s a) (t : T.tk a = 2) (hS : s 54 6 = ((S + 1 : Nat) : Int)) (hS8 : S < 1171) :
    ∃ s' : Sg, f_158 s = some s' ∧ CU T s' (a + 1) ∧ s' 45 a = 3 ∧ (∀ i, i ≠ a → s' 45 i = s 45 i) ∧ s' 57 S = ax_w32 (s 57 S + s 43 a) ∧ (∀ i, i ≠ S → s' 57 i = s 57 i) ∧ (∀ c, ¬ (c = 30 ∨ c = 39 ∨ c = 45 ∨ c = 57) → s' c = s c) ∧ (∀ j, j ≠ 10 → j ≠ 11 → s' 39 j = s 39 j) ∧ (∀ j, j < 4 ∨ 7 < j → s' 30 j = s 30 j) ∧ (CN s' ↔ CN s ∧ BIN s a) := by
  have hz := hT.lt hu.2.2 (by rw [t]; decide)
  have h8 := hT.1
  -- behind the check
  have key : ∀ s1 : Sg, (∀ c, c ≠ 30 → s1 c = s c) → (∀ j, j < 4 ∨ 7 < j → s1 30 j = s 30 j) → ∃ s' : Sg, j_158_35 (a : Int) s1 = some s' ∧ CU T s' (a + 1) ∧ s' 45 a = 3 ∧ (∀ i, i ≠ a → s' 45 i = s 45 i) ∧ s' 57 S = ax_w32 (s 57 S + s 43 a) ∧ (∀ i, i ≠ S → s' 57 i = s 57 i) ∧ (∀ c, ¬ (c = 30 ∨ c = 39 ∨ c = 45 ∨ c = 57) → s' c = s c) ∧ (∀ j, j ≠ 10 → j ≠ 11 → s' 39 j = s 39 j) ∧ (∀ j, j < 4 ∨ 7 < j → s' 30 j = s 30 j) ∧ (CN s' ↔ CN s1) := by
    intro s1 n3 n4
    have cc1 : CC T s1 := (ef30 n3 n4).cc hc
    have g99 : g_99 (a : Int) 3 s1 ∧ f_99 (a : Int) 3 s1 = ax_u2 s1 45 a 3 := by
      unfold g_99 f_99
      rw [cc1.1, if_neg (by omega), if_neg (by omega), Int.toNat_natCast]
      exact ⟨⟨fun h => absurd h (by omega), fun _ => ⟨fun h => absurd h (by omega), fun _ => ⟨⟨by omega, by omega⟩, trivial⟩⟩⟩, rfl⟩
    obtain ⟨s2, hs2⟩ : ∃ s2 : Sg, s2 = ax_u2 s1 45 a 3 := ⟨_, rfl⟩
    have r2 : ∀ c, c ≠ 45 → s2 c = s1 c := fun c x => by rw [hs2]; exact u2_row _ _ _ x
    have cc2 : CC T s2 := cc1.row (by rw [r2 39 (by decide)]) (r2 41 (by decide)) (r2 42 (by decide)) (r2 44 (by decide)) (by rw [r2 31 (by decide)]) (r2 1 (by decide))
    obtain ⟨d1, d2⟩ := c82 hT cc2 hz
    obtain ⟨_, ⟨g1, g2⟩, _⟩ := c181 (s := s2) (S := S) (by rw [r2 54 (by decide), n3 54 (by decide)]; exact hS) hS8 (s2 43 a)
    obtain ⟨s3, hs3⟩ : ∃ s3 : Sg, s3 = ax_u2 s2 57 S (ax_w32 (s2 57 S + s2 43 a)) := ⟨_, rfl⟩
    have r3 : ∀ c, c ≠ 57 → s3 c = s2 c := fun c x => by rw [hs3]; exact u2_row _ _ _ x
    have cc3 : CC T s3 := cc2.row (by rw [r3 39 (by decide)]) (r3 41 (by decide)) (r3 42 (by decide)) (r3 44 (by decide)) (by rw [r3 31 (by decide)]) (r3 1 (by decide))
    have cu3 : CU T s3 a := by
      unfold CU at *
      rw [r3 39 (by decide), r2 39 (by decide), n3 39 (by decide)]
      exact hu
    refine ⟨cur T s3 (a + 1), ?_, cur_cu (by omega), ?_, ?_, ?_, ?_, ?_, ?_, ?_, ?_⟩
    · unfold j_158_35
      rw [gd_pos g99.1, g99.2, Option.bind_some, ← hs2, gd_pos d2, d1, gd_pos g1, g2, Option.bind_some, ← hs3, nxt hT cc3 cu3 (by rw [t]; decide)]
    · rw [cur_row (by decide), r3 45 (by decide), hs2]; exact u2_same _ _ _ _
    · intro i hi
      rw [cur_row (by decide), r3 45 (by decide), hs2, u2_col _ _ _ hi, n3 45 (by decide)]
    · rw [cur_row (by decide), hs3, u2_same, r2 57 (by decide), r2 43 (by decide), n3 57 (by decide), n3 43 (by decide)]
    · intro i hi
      rw [cur_row (by decide), hs3, u2_col _ _ _ hi, r2 57 (by decide), n3 57 (by decide)]
    · intro c x
      rw [cur_row (by omega), r3 c (by omega), r2 c (by omega), n3 c (by omega)]
    · intro j x y
      rw [cur_col x y, r3 39 (by decide), r2 39 (by decide), n3 39 (by decide)]
    · intro j x
      rw [cur_row (by decide), r3 30 (by decide), r2 30 (by decide), n4 j x]
    · unfold CN
      rw [cur_row (by decide), r3 30 (by decide), r2 30 (by decide)]
  unfold f_158
  rw [hu.1]
  rcases c98 hT hc hx hz with ⟨b1, b2⟩ | ⟨b1, b2⟩
  · obtain ⟨s', z1, z2, z3, z4, z5, z6, z7, z8, z9, z10⟩ := key s (fun _ _ => rfl) (fun _ _ => rfl)
    rw [b1, Option.bind_some, if_pos (by decide)]
    exact ⟨s', z1, z2, z3, z4, z5, z6, z7, z8, z9, by rw [z10]; exact ⟨fun y => ⟨y, b2⟩, fun y => y.1⟩⟩
  · obtain ⟨c1, c2⟩ := c80 (a := a) hc hT (by omega)
    obtain ⟨g, nc, n3, n4⟩ := c71 (s := s) (x := 4) (p := T.fm a) (Or.inl rfl) (hT.2.2.2.1 a (by omega))
    obtain ⟨s', z1, z2, z3, z4, z5, z6, z7, z8, z9, z10⟩ := key (f_71 4 (T.fm a) s) n3 n4
    rw [b1, Option.bind_some, if_neg (by decide), gd_pos c2, c1, gd_pos g, Option.bind_some]
    exact ⟨s', z1, z2, z3, z4, z5, z6, z7, z8, z9, by rw [z10]; exact ⟨fun y => absurd y nc, fun y => absurd y.2 b2⟩⟩
end BITS
/-! AN INSTRUCTION's parts: named ones; the reference's steps. -/
section NMD
variable {T : TT} {s m : Sg} {a S P j B : Nat}
theorem SFc.cx {s' : Sg} (h : SFc s s') (k : CX T s) : CX T s' := by
  unfold CX at *
  rw [h.2.1 8 (by decide) (by decide), h.1 43 (by decide)]
  exact k
/-- a named part, the class -/
theorem c159 (hT : TWF T) (hc : CC T s) (hu : CU T s a) (t0 : T.tk a = 1) (t1 : T.tk (a + 1) = 58) (t2 : T.tk (a + 2) = 2) (hS : s 54 6 = ((S + 1 : Nat) : Int)) (hS8 : S < 1171) (hB : s 31 8 = (B : Int)) (hB8 : B < 4112) :
    ∃ s' : Sg, f_159 s = some (.inl s') ∧ CU T s' (a + 3) ∧ s' 31 8 = ((B + 1 : Nat) : Int) ∧ s' 38 B = T.vl a ∧ s' 37 (T.vl a).toNat = (if mn (T.vl (a + 2)) < 1 then 1 else mn (T.vl (a + 2))) ∧ (∀ i, i ≠ B → s' 38 i = s 38 i) ∧ (∀ i, i ≠ (T.vl a).toNat → s' 37 i = s 37 i) ∧ (∀ j, j ≠ 8 → s' 31 j = s 31 j) ∧ s' 57 S = ax_w32 (s 57 S + mn (T.vl (a + 2))) ∧ (∀ i, i ≠ S → s' 57 i = s 57 i) ∧ (∀ c, ¬ (c = 30 ∨ c = 31 ∨ c = 37 ∨ c = 38 ∨ c = 39 ∨ c = 57) → s' c = s c) ∧ (∀ j, j ≠ 10 → j ≠ 11 → s' 39 j = s 39 j) ∧ (∀ j, j < 4 ∨ 7 < j → s' 30 j = s 30 j) ∧ (CN s' ↔ CN s ∧ (1 ≤ T.vl (a + 2) ∧ T.vl (a + 2) ≤ 32) ∧ s 37 (T.vl a).toNat = 0) := by
  have hz0 := hT.lt hu.2.2 (by rw [t0]; decide)
  have hz1 := hT.lt (show a + 1 ≤ T.z by omega) (by rw [t1]; decide)
  have hz2 := hT.lt (show a + 2 ≤ T.z by omega) (by rw [t2]; decide)
  have hv := hT.2.2.2.2.1 a hz0
  have cc1 := cur_cc (a := a + 1) hc
  have cu1 : CU T (cur T s (a + 1)) (a + 1) := cur_cu (by omega)
  have cc2 := cur_cc (a := a + 2) cc1
  have cu2 : CU T (cur T (cur T s (a + 1)) (a + 2)) (a + 2) := cur_cu (by omega)
  obtain ⟨s2, n1, n2, n3, n4⟩ := c93 (lo := 1) (hi := 32) hT cc2 cu2 t2
  have cc3 : CC T (cur T s2 (a + 3)) := cur_cc ((ef30 n3 n4).cc cc2)
  have rc : ∀ c, c ≠ 39 → c ≠ 30 → (cur T s2 (a + 3)) c = s c := fun c x y => by rw [cur_row x, n3 c y, cur_row x, cur_row x]
  obtain ⟨s3, b1, b2, b3⟩ := c155 (x := a) (w := mn (T.vl (a + 2))) (B := B) hT cc3 hz0 t0 (by rw [rc 31 (by decide) (by decide)]; exact hB) hB8
  obtain ⟨d1, d2, d3, d4, d5, d6, d7, d8⟩ := b2
  obtain ⟨_, ⟨g1, g2⟩, _⟩ := c181 (s := s3) (S := S) (by rw [d7 54 (by decide), rc 54 (by decide) (by decide)]; exact hS) hS8 (mn (T.vl (a + 2)))
  obtain ⟨s4, hs4⟩ : ∃ s4 : Sg, s4 = ax_u2 s3 57 S (ax_w32 (s3 57 S + mn (T.vl (a + 2)))) := ⟨_, rfl⟩
  have r4 : ∀ c, c ≠ 57 → s4 c = s3 c := fun c x => by rw [hs4]; exact u2_row _ _ _ x
  refine ⟨s4, ?_, ?_, ?_, ?_, ?_, ?_, ?_, ?_, ?_, ?_, ?_, ?_, ?_, ?_⟩
  · unfold f_159
    rw [c96y hT hc hu t0, xb_inl]
    show (xb (f_92 58 (cur T s (a + 1))) fun q2 => _) = _
    rw [c92y hT cc1 cu1 t1 (by decide), xb_inl, n1, xb_inl]
    show ((f_155 (T.vl a) (s 39 10) (mn (T.vl (a + 2))) (cur T s2 (a + 3))).bind fun q4 => _) = _
    rw [hu.1, b1, Option.bind_some]
    show gd (g_190 (mn (T.vl (a + 2))) s3) _ = _
    rw [gd_pos g1, g2, Option.bind_some, ← hs4]
  · have := cur_cu (T := T) (s := s2) (a := a + 3) (by omega)
    unfold CU at *
    rw [r4 39 (by decide), d7 39 (by decide)]
    exact this
  · rw [r4 31 (by decide)]; exact d1
  · rw [r4 38 (by decide), d2]; omega
  · rw [r4 37 (by decide)]; exact d3
  · intro i hi; rw [r4 38 (by decide), d4 i hi, rc 38 (by decide) (by decide)]
  · intro i hi; rw [r4 37 (by decide), d5 i hi, rc 37 (by decide) (by decide)]
  · intro j hj; rw [r4 31 (by decide), d6 j hj, rc 31 (by decide) (by decide)]
  · rw [hs4, u2_same, d7 57 (by decide), rc 57 (by decide) (by decide)]
  · intro i hi; rw [hs4, u2_col _ _ _ hi, d7 57 (by decide), rc 57 (by decide) (by decide)]
  · intro c x; rw [r4 c (by omega), d7 c (by omega), rc c (by omega) (by omega)]
  · intro j x y; rw [r4 39 (by decide), d7 39 (by decide), cur_col x y, n3 39 (by decide), cur_col x y, cur_col x y]
  · intro j x; rw [r4 30 (by decide), d8 j x, cur_row (by decide), n4 j x, cur_row (by decide), cur_row (by decide)]
  · have e1 : CN s4 ↔ CN s3 := by unfold CN; rw [r4 30 (by decide)]
    have e2 : CN (cur T s2 (a + 3)) ↔ CN s2 := by unfold CN; rw [cur_row (by decide)]
    have e3 : CN (cur T (cur T s (a + 1)) (a + 2)) ↔ CN s := by unfold CN; rw [cur_row (by decide), cur_row (by decide)]
    rw [e1, b3, e2, n2, e3, rc 37 (by decide) (by decide)]
    exact ⟨fun ⟨⟨x, y⟩, z⟩ => ⟨x, y, z⟩, fun ⟨x, y, z⟩ => ⟨⟨x, y⟩, z⟩⟩
theorem c159n (hT : TWF T) (hc : CC T s) (hu : CU T s a) (t0 : T.tk a = 1) (t : ¬ (T.tk (a + 1) = 58 ∧ T.tk (a + 2) = 2)) : ∃ s' : Sg, f_159 s = some (.inr (15, s')) ∧ BSc T s s' := by
  have hz0 := hT.lt hu.2.2 (by rw [t0]; decide)
  have cc1 := cur_cc (a := a + 1) hc
  have cu1 : CU T (cur T s (a + 1)) (a + 1) := cur_cu (by omega)
  have e : f_159 s = (xb (f_92 58 (cur T s (a + 1))) fun q2 => (xb (f_93 1 32 q2) fun q3 => ((f_155 (T.vl a) (s 39 10) q3.1 q3.2).bind fun q4 => (gd (g_190 q3.1 q4) ((some (f_190 q3.1 q4)).bind fun q5 => some (.inl q5)))))) := by
    unfold f_159
    rw [c96y hT hc hu t0, xb_inl]
  rw [e]
  by_cases t1 : T.tk (a + 1) = 58
  · have hz1 := hT.lt (show a + 1 ≤ T.z by omega) (by rw [t1]; decide)
    have cu2 : CU T (cur T (cur T s (a + 1)) (a + 2)) (a + 2) := cur_cu (by omega)
    refine ⟨_, ?_, cur_sf.trans cur_sf, _, cu2⟩
    rw [c92y hT cc1 cu1 t1 (by decide), xb_inl, c93n cu2 (fun y => t ⟨t1, y⟩), xb_err]
  · refine ⟨_, ?_, cur_sf, _, cu1⟩
    rw [c92n cu1 t1, xb_err]
/-- one part more, the reference -/
def PRT (m : Sg) (S P : Nat) (v x : Int) : Sg := ax_u2 (ax_u2 (ax_u2 (ax_u2 m 104 P v) 105 P x) 84 31 ((P + 1 : Nat) : Int)) 99 S (ax_w32 (m 99 S + 1))
theorem m331 {k : Int → Sg → Option Sg} (hS : S < 4100) (hP : m 84 31 = (P : Int)) (hP8 : P < 8200) : j_233_331 k (S : Int) m = k (S : Int) (ax_u2 (ax_u2 m 84 31 ((P + 1 : Nat) : Int)) 99 S (ax_w32 (m 99 S + 1))) := by
  unfold j_233_331
  rw [gd_pos (by omega), gd_pos (by omega), hP, w32_nat (by omega), Int.toNat_natCast]
end NMD
/-! AN INSTRUCTION's parts, the reference. -/
def PBm (m : Sg) (S P a : Nat) : Sg := ax_u2 (ax_u2 (ax_u2 (ax_u2 (adv (ax_u2 m 104 P (-1)) (a + 1)) 105 P (a : Int)) 93 a 1) 84 31 ((P + 1 : Nat) : Int)) 99 S (ax_w32 (m 99 S + 1))
def PNm (m : Sg) (S P a : Nat) : Sg := ax_u2 (ax_u2 (ax_u2 (adv (adv (ax_u2 (adv m (a + 1)) 104 P (a : Int)) (a + 2)) (a + 3)) 105 P ((a + 2 : Nat) : Int)) 84 31 ((P + 1 : Nat) : Int)) 99 S (ax_w32 (m 99 S + 1))
section MPT
variable {T : TT} {s m : Sg} {a S P F : Nat}
theorem m290b {k : Int → Sg → Option Sg} (hT : TWF T) (hM : MC T m) (hf : m 84 6 = 0) (hu : m 84 18 = (a : Int)) (ha : a ≤ T.z) (t : T.tk a = 2) (hS : S < 4100) (hP : m 84 31 = (P : Int)) (hP8 : P < 8200) (h104 : m 104 P = -1) : j_233_290 k (S : Int) m = k (S : Int) (ax_u2 (ax_u2 (ax_u2 (ax_u2 (adv m (a + 1)) 105 P (a : Int)) 93 a 1) 84 31 ((P + 1 : Nat) : Int)) 99 S (ax_w32 (m 99 S + 1))) := by
  have h8 := hT.1
  unfold j_233_290
  rw [takeY hM hT hf hu ha (k := 2) (by decide) t, Option.bind_some]
  have e31 : (adv m (a + 1)) 84 31 = (P : Int) := by rw [adv_col (by decide)]; exact hP
  have e104 : (adv m (a + 1)) 104 P = -1 := by rw [adv_row (by decide)]; exact h104
  show gd (0 ≤ m 84 31 ∧ m 84 31 < 8200) (gd (0 ≤ (adv m (a + 1)) 84 31 ∧ (adv m (a + 1)) 84 31 < 8200) (if 0 ≤ (adv m (a + 1)) 104 (((adv m (a + 1)) 84 31).toNat) then _ else gd (0 ≤ (adv m (a + 1)) 84 31 ∧ (adv m (a + 1)) 84 31 < 8200) (gd (0 ≤ (ax_u2 (adv m (a + 1)) 105 ((m 84 31).toNat) (a : Int)) 105 (((adv m (a + 1)) 84 31).toNat) ∧ (ax_u2 (adv m (a + 1)) 105 ((m 84 31).toNat) (a : Int)) 105 (((adv m (a + 1)) 84 31).toNat) < 8200) (j_233_331 k (S : Int) (ax_u2 (ax_u2 (adv m (a + 1)) 105 ((m 84 31).toNat) (a : Int)) 93 (((ax_u2 (adv m (a + 1)) 105 ((m 84 31).toNat) (a : Int)) 105 (((adv m (a + 1)) 84 31).toNat)).toNat) 1))))) = _
  rw [e31, hP, Int.toNat_natCast, gd_pos (by omega), gd_pos (by omega), if_neg (by rw [e104]; decide), gd_pos (by omega), u2_same, gd_pos (by omega), Int.toNat_natCast]
  rw [m331 hS (P := P) (by rw [u2_row _ _ _ (by decide), u2_row _ _ _ (by decide)]; exact e31) hP8]
  rw [u2_row _ _ _ (show 99 ≠ 93 by decide), u2_row _ _ _ (show 99 ≠ 105 by decide), adv_row (show 99 ≠ 84 by decide)]
theorem m290n {k : Int → Sg → Option Sg} (hT : TWF T) (hM : MC T m) (hf : m 84 6 = 0) (hu : m 84 18 = (a : Int)) (ha : a ≤ T.z) (t : T.tk a = 2) (hS : S < 4100) (hP : m 84 31 = (P : Int)) (hP8 : P < 8200) (h104 : 0 ≤ m 104 P) : j_233_290 k (S : Int) m = k (S : Int) (ax_u2 (ax_u2 (ax_u2 (adv m (a + 1)) 105 P (a : Int)) 84 31 ((P + 1 : Nat) : Int)) 99 S (ax_w32 (m 99 S + 1))) := by
  have h8 := hT.1
  unfold j_233_290
  rw [takeY hM hT hf hu ha (k := 2) (by decide) t, Option.bind_some]
  have e31 : (adv m (a + 1)) 84 31 = (P : Int) := by rw [adv_col (by decide)]; exact hP
  have e104 : 0 ≤ (adv m (a + 1)) 104 P := by rw [adv_row (by decide)]; exact h104
  show gd (0 ≤ m 84 31 ∧ m 84 31 < 8200) (gd (0 ≤ (adv m (a + 1)) 84 31 ∧ (adv m (a + 1)) 84 31 < 8200) (if 0 ≤ (adv m (a + 1)) 104 (((adv m (a + 1)) 84 31).toNat) then j_233_331 k (S : Int) (ax_u2 (adv m (a + 1)) 105 ((m 84 31).toNat) (a : Int)) else _)) = _
  rw [e31, hP, Int.toNat_natCast, gd_pos (by omega), gd_pos (by omega), if_pos e104]
  rw [m331 hS (P := P) (by rw [u2_row _ _ _ (by decide)]; exact e31) hP8]
  rw [u2_row _ _ _ (show 99 ≠ 105 by decide), adv_row (show 99 ≠ 84 by decide)]
/-- bits -/
theorem mprB (hT : TWF T) (hM : MC T m) (hf : m 84 6 = 0) (hu : m 84 18 = (a : Int)) (ha : a ≤ T.z) (t : T.tk a = 2) (hS : S < 4100) (hP : m 84 31 = (P : Int)) (hP8 : P < 8200) : j_233_221 (F + 1) (S : Int) m = j_233_221 F (S : Int) (PBm m S P a) := by
  obtain ⟨x1, x2⟩ := is_y hM hT hu ha (k := 2) (K := 2) (by decide) t
  rw [j_233_221, if_neg (by simp [hf]), gd_pos x2, x1, if_pos (by decide)]
  unfold j_233_244
  rw [eatN hM hT hu ha (k := 1) (by decide) (by decide) (by rw [t]; decide)]
  show gd (0 ≤ m 84 31 ∧ m 84 31 < 8200) (gd (0 ≤ m 84 31 ∧ m 84 31 < 8200) (if (ax_u2 m 104 ((m 84 31).toNat) (-1)) 104 ((m 84 31).toNat) < 0 then j_233_290 (j_233_221 F) (S : Int) (ax_u2 m 104 ((m 84 31).toNat) (-1)) else _)) = _
  have sf : SFm m (ax_u2 m 104 P (-1)) := ro_sf (by decide)
  rw [hP, Int.toNat_natCast, gd_pos (by omega), gd_pos (by omega), if_pos (by rw [u2_same]; decide)]
  rw [m290b hT (sf.mc hM) (by rw [u2_row _ _ _ (by decide)]; exact hf) (by rw [u2_row _ _ _ (by decide)]; exact hu) ha t hS (P := P) (by rw [u2_row _ _ _ (by decide)]; exact hP) hP8 (u2_same _ _ _ _)]
  rw [u2_row _ _ _ (show 99 ≠ 104 by decide)]
  rfl
/-- a name -/
theorem mprN (hT : TWF T) (hM : MC T m) (hf : m 84 6 = 0) (hu : m 84 18 = (a : Int)) (ha : a ≤ T.z) (t0 : T.tk a = 1) (t1 : T.tk (a + 1) = 58) (t2 : T.tk (a + 2) = 2) (hS : S < 4100) (hP : m 84 31 = (P : Int)) (hP8 : P < 8200) : j_233_221 (F + 1) (S : Int) m = j_233_221 F (S : Int) (PNm m S P a) := by
  have h8 := hT.1
  have z0 := hT.lt ha (by rw [t0]; decide)
  have z1 := hT.lt (show a + 1 ≤ T.z by omega) (by rw [t1]; decide)
  have z2 := hT.lt (show a + 2 ≤ T.z by omega) (by rw [t2]; decide)
  obtain ⟨x1, x2⟩ := is_n hM hT hu ha (k := 2) (K := 2) (by decide) (by decide) (by rw [t0]; decide)
  obtain ⟨x3, x4⟩ := is_y hM hT hu ha (k := 1) (K := 1) (by decide) t0
  rw [j_233_221, if_neg (by simp [hf]), gd_pos x2, x1, if_neg (by decide), gd_pos x4, x3, if_neg (by decide)]
  unfold j_233_244
  rw [eatY hM hT hf hu ha (k := 1) (by decide) t0]
  have w1 : ax_w32 ((adv m (a + 1)) 84 18 - 1) = (a : Int) := by rw [adv_at, w32_id (by omega) (by omega)]; omega
  have e31 : (adv m (a + 1)) 84 31 = (P : Int) := by rw [adv_col (by decide)]; exact hP
  show gd (0 ≤ m 84 31 ∧ m 84 31 < 8200) (gd (0 ≤ (adv m (a + 1)) 84 31 ∧ (adv m (a + 1)) 84 31 < 8200) (if (ax_u2 (adv m (a + 1)) 104 ((m 84 31).toNat) (ax_w32 ((adv m (a + 1)) 84 18 - 1))) 104 (((adv m (a + 1)) 84 31).toNat) < 0 then _ else ((f_231 17 (ax_u2 (adv m (a + 1)) 104 ((m 84 31).toNat) (ax_w32 ((adv m (a + 1)) 84 18 - 1)))).bind fun q15 => j_233_290 (j_233_221 F) (S : Int) q15.2))) = _
  obtain ⟨M, hMM⟩ : ∃ M : Sg, M = ax_u2 (adv m (a + 1)) 104 P (a : Int) := ⟨_, rfl⟩
  have sf : SFm m M := by rw [hMM]; exact adv_sf.trans (ro_sf (by decide))
  have f1 : M 84 6 = 0 := by rw [hMM, u2_row _ _ _ (by decide), adv_col (by decide)]; exact hf
  have u1 : M 84 18 = ((a + 1 : Nat) : Int) := by rw [hMM, u2_row _ _ _ (by decide)]; exact adv_at
  have p1 : M 84 31 = (P : Int) := by rw [hMM, u2_row _ _ _ (by decide)]; exact e31
  have q1 : M 104 P = (a : Int) := by rw [hMM]; exact u2_same _ _ _ _
  have r1 : M 99 S = m 99 S := by rw [hMM, u2_row _ _ _ (by decide), adv_row (by decide)]
  rw [w1, e31, hP, Int.toNat_natCast, gd_pos (by omega), gd_pos (by omega), ← hMM, if_neg (by rw [q1]; omega)]
  rw [takeY (sf.mc hM) hT f1 u1 (by omega) (k := 58) (by decide) t1, Option.bind_some]
  show j_233_290 (j_233_221 F) (S : Int) (adv M (a + 2)) = _
  rw [m290n hT ((sf.trans adv_sf).mc hM) (by rw [adv_col (by decide)]; exact f1) adv_at (by omega) t2 hS (P := P) (by rw [adv_col (by decide)]; exact p1) hP8 (by rw [adv_row (by decide), q1]; omega)]
  rw [adv_row (show 99 ≠ 84 by decide), r1, hMM]
  rfl
end MPT
/-! AN INSTRUCTION's parts, the reference: what a part changes; a fault stays one. -/
def MPF (m m' : Sg) (S P a' : Nat) (v x : Int) : Prop := (∀ c, ¬ (c = 84 ∨ c = 93 ∨ c = 99 ∨ c = 104 ∨ c = 105) → m' c = m c) ∧ (∀ j, j ≠ 18 → j ≠ 31 → m' 84 j = m 84 j) ∧ m' 84 18 = (a' : Int) ∧ m' 84 31 = ((P + 1 : Nat) : Int) ∧ m' 99 S = ax_w32 (m 99 S + 1) ∧ (∀ i, i ≠ S → m' 99 i = m 99 i) ∧ m' 104 P = v ∧ m' 105 P = x ∧ (∀ i, i ≠ P → m' 104 i = m 104 i ∧ m' 105 i = m 105 i)
section MPFS
variable {T : TT} {s m : Sg} {a S P F : Nat}
theorem mpfB : MPF m (PBm m S P a) S P (a + 1) (-1) (a : Int) ∧ (PBm m S P a) 93 a = 1 ∧ (∀ k, k ≠ a → (PBm m S P a) 93 k = m 93 k) := by
  unfold PBm
  refine ⟨⟨?_, ?_, ?_, ?_, u2_same _ _ _ _, ?_, ?_, ?_, ?_⟩, ?_, ?_⟩
  · intro c x
    rw [u2_row _ _ _ (by omega), u2_row _ _ _ (by omega), u2_row _ _ _ (by omega), u2_row _ _ _ (by omega), adv_row (by omega), u2_row _ _ _ (by omega)]
  · intro j x y
    rw [u2_row _ _ _ (by decide), u2_col _ _ _ y, u2_row _ _ _ (by decide), u2_row _ _ _ (by decide), adv_col x, u2_row _ _ _ (by decide)]
  · rw [u2_row _ _ _ (by decide), u2_col _ _ _ (by decide), u2_row _ _ _ (by decide), u2_row _ _ _ (by decide), adv_at]
  · rw [u2_row _ _ _ (by decide)]; exact u2_same _ _ _ _
  · intro i hi
    rw [u2_col _ _ _ hi, u2_row _ _ _ (by decide), u2_row _ _ _ (by decide), u2_row _ _ _ (by decide), adv_row (by decide), u2_row _ _ _ (by decide)]
  · rw [u2_row _ _ _ (by decide), u2_row _ _ _ (by decide), u2_row _ _ _ (by decide), u2_row _ _ _ (by decide), adv_row (by decide)]; exact u2_same _ _ _ _
  · rw [u2_row _ _ _ (by decide), u2_row _ _ _ (by decide), u2_row _ _ _ (by decide)]; exact u2_same _ _ _ _
  · intro i hi
    constructor
    · rw [u2_row _ _ _ (by decide), u2_row _ _ _ (by decide), u2_row _ _ _ (by decide), u2_row _ _ _ (by decide), adv_row (by decide), u2_col _ _ _ hi]
    · rw [u2_row _ _ _ (by decide), u2_row _ _ _ (by decide), u2_row _ _ _ (by decide), u2_col _ _ _ hi, adv_row (by decide), u2_row _ _ _ (by decide)]
  · rw [u2_row _ _ _ (by decide), u2_row _ _ _ (by decide)]; exact u2_same _ _ _ _
  · intro k hk
    rw [u2_row _ _ _ (by decide), u2_row _ _ _ (by decide), u2_col _ _ _ hk, u2_row _ _ _ (by decide), adv_row (by decide), u2_row _ _ _ (by decide)]
theorem mpfN : MPF m (PNm m S P a) S P (a + 3) (a : Int) ((a + 2 : Nat) : Int) ∧ (PNm m S P a) 93 = m 93 := by
  unfold PNm
  refine ⟨⟨?_, ?_, ?_, ?_, u2_same _ _ _ _, ?_, ?_, ?_, ?_⟩, ?_⟩
  · intro c x
    rw [u2_row _ _ _ (by omega), u2_row _ _ _ (by omega), u2_row _ _ _ (by omega), adv_row (by omega), adv_row (by omega), u2_row _ _ _ (by omega), adv_row (by omega)]
  · intro j x y
    rw [u2_row _ _ _ (by decide), u2_col _ _ _ y, u2_row _ _ _ (by decide), adv_col x, adv_col x, u2_row _ _ _ (by decide), adv_col x]
  · rw [u2_row _ _ _ (by decide), u2_col _ _ _ (by decide), u2_row _ _ _ (by decide), adv_at]
  · rw [u2_row _ _ _ (by decide)]; exact u2_same _ _ _ _
  · intro i hi
    rw [u2_col _ _ _ hi, u2_row _ _ _ (by decide), u2_row _ _ _ (by decide), adv_row (by decide), adv_row (by decide), u2_row _ _ _ (by decide), adv_row (by decide)]
  · rw [u2_row _ _ _ (by decide), u2_row _ _ _ (by decide), u2_row _ _ _ (by decide), adv_row (by decide), adv_row (by decide)]; exact u2_same _ _ _ _
  · rw [u2_row _ _ _ (by decide), u2_row _ _ _ (by decide)]; exact u2_same _ _ _ _
  · intro i hi
    constructor
    · rw [u2_row _ _ _ (by decide), u2_row _ _ _ (by decide), u2_row _ _ _ (by decide), adv_row (by decide), adv_row (by decide), u2_col _ _ _ hi, adv_row (by decide)]
    · rw [u2_row _ _ _ (by decide), u2_row _ _ _ (by decide), u2_col _ _ _ hi, adv_row (by decide), adv_row (by decide), u2_row _ _ _ (by decide), adv_row (by decide)]
  · rw [u2_row _ _ _ (by decide), u2_row _ _ _ (by decide), u2_row _ _ _ (by decide), adv_row (by decide), adv_row (by decide), u2_row _ _ _ (by decide), adv_row (by decide)]
/-- faults -/
theorem fl258 (hf : 0 < m 84 6) (x : Int) : f_258 x m = some m := by
  unfold f_258
  rw [if_neg (by omega)]
theorem fl254 (hf : 0 < m 84 6) (x : Int) : ∃ m' : Sg, f_254 x m = some m' ∧ BSm m m' := by
  have e : 0 < (ax_u2 m 84 43 0) 84 6 := by rw [u2_col _ _ _ (by decide)]; exact hf
  refine ⟨ax_u2 m 84 43 0, ?_, slot_sf (by decide), e⟩
  obtain ⟨F, hF⟩ := FU_split (k := 1) (by omega)
  unfold f_254
  rw [fl258 e, Option.bind_some, hF, j_254_10, if_pos (by omega)]
theorem fl354 (hf : 0 < m 84 6) (x : Int) : ∃ m' : Sg, j_233_354 x m = some m' ∧ BSm m m' := by
  obtain ⟨m', k1, k2⟩ := fl254 hf x
  refine ⟨m', ?_, k2⟩
  unfold j_233_354
  rw [k1, Option.bind_some]
  exact fl359 k2.2 x
theorem fl221 (hF : 1 ≤ F) (hf : 0 < m 84 6) (x : Int) : ∃ m' : Sg, j_233_221 F x m = some m' ∧ BSm m m' := by
  obtain ⟨F, rfl⟩ : ∃ k, F = k + 1 := ⟨F - 1, by omega⟩
  rw [j_233_221, if_pos (by omega)]
  exact fl354 hf x
end MPFS
/-! AN INSTRUCTION's parts on both sides. -/
/-- j parts have been read, B of them named; h is the instruction's NAME, a where it goes on -/
def ILS (T : TT) (sc1 m1 sc m : Sg) (h S P j B a : Nat) : Prop :=
  (∀ c, ¬ (c = 30 ∨ c = 31 ∨ c = 37 ∨ c = 38 ∨ c = 39 ∨ c = 45 ∨ c = 57 ∨ c = 58) → sc c = sc1 c) ∧ (∀ k, k ≠ 10 → k ≠ 11 → sc 39 k = sc1 39 k) ∧ (∀ k, k < 4 ∨ 7 < k → sc 30 k = sc1 30 k) ∧ (∀ k, k ≠ 8 → sc 31 k = sc1 31 k) ∧ (∀ c i, 57 ≤ c → c ≤ 58 → i ≠ S → sc c i = sc1 c i) ∧ sc 31 8 = (B : Int) ∧ sc 58 S = (j : Int) ∧ sc 57 S = bsm T sc1 m P j ∧
  (∀ c, ¬ (c = 84 ∨ c = 93 ∨ c = 99 ∨ c = 104 ∨ c = 105) → m c = m1 c) ∧ (∀ k, k ≠ 18 → k ≠ 31 → m 84 k = m1 84 k) ∧ (∀ i, i ≠ S → m 99 i = m1 99 i) ∧ (∀ c p, 104 ≤ c → c ≤ 105 → p < P → m c p = m1 c p) ∧ m 84 31 = ((P + j : Nat) : Int) ∧ m 99 S = (j : Int) ∧
  (∀ k, k ≤ h ∨ a ≤ k → sc 45 k = sc1 45 k ∧ m 93 k = m1 93 k) ∧ (∀ k, h < k → k < a → LF T sc m k) ∧
  (∃ f : Nat → Nat, f 0 = h + 1 ∧ f j = a ∧ ∀ i, i < j → (T.tk (f i) = 2 ∧ m 104 (P + i) = -1 ∧ m 105 (P + i) = (f i : Int) ∧ f (i + 1) = f i + 1) ∨ (T.tk (f i) = 1 ∧ T.tk (f i + 1) = 58 ∧ T.tk (f i + 2) = 2 ∧ m 104 (P + i) = (f i : Int) ∧ m 105 (P + i) = ((f i + 2 : Nat) : Int) ∧ f (i + 1) = f i + 3)) ∧
  (CN sc ↔ CN sc1 ∧ GPT T sc1 m P j) ∧ (CN sc → BND T sc m S (-1) B B) ∧ a = h + 1 + j + 2 * B
section ILSS
variable {T : TT} {sc1 m1 sc m : Sg} {h S P j B a : Nat}
theorem gpt_succ {m' : Sg} (h4 : ∀ i, i ≠ P + j → m' 104 i = m 104 i ∧ m' 105 i = m 105 i) : GPT T sc1 m' P (j + 1) ↔ GPT T sc1 m P j ∧ (0 ≤ m' 104 (P + j) → 1 ≤ T.vl (m' 105 (P + j)).toNat ∧ T.vl (m' 105 (P + j)).toNat ≤ 32) ∧ (m' 104 (P + j) < 0 → BIN sc1 (m' 105 (P + j)).toNat) ∧ (∀ q, P ≤ q → q < P + j → 0 ≤ m' 104 (P + j) → 0 ≤ m 104 q → T.vl (m' 104 (P + j)).toNat ≠ T.vl (m 104 q).toNat) := by
  unfold GPT
  constructor
  · intro g
    refine ⟨fun p p1 p2 => ?_, (g (P + j) (by omega) (by omega)).1, (g (P + j) (by omega) (by omega)).2.1, fun q q1 q2 => ?_⟩
    · have := g p p1 (by omega)
      rw [(h4 p (by omega)).1, (h4 p (by omega)).2] at this
      refine ⟨this.1, this.2.1, fun q q1 q2 => ?_⟩
      have t := this.2.2 q q1 q2
      rw [(h4 q (by omega)).1] at t
      exact t
    · have t := (g (P + j) (by omega) (by omega)).2.2 q q1 q2
      rw [(h4 q (by omega)).1] at t
      exact t
  · intro ⟨g, g1, g2, g3⟩ p p1 p2
    by_cases e : p = P + j
    · subst e
      refine ⟨g1, g2, fun q q1 q2 => ?_⟩
      rw [(h4 q (by omega)).1]
      exact g3 q q1 q2
    · have := g p p1 (by omega)
      rw [(h4 p e).1, (h4 p e).2]
      refine ⟨this.1, this.2.1, fun q q1 q2 => ?_⟩
      rw [(h4 q (by omega)).1]
      exact this.2.2 q q1 q2
theorem bsm_succ {m' : Sg} (h4 : ∀ i, i ≠ P + j → m' 104 i = m 104 i ∧ m' 105 i = m 105 i) : bsm T sc1 m' P (j + 1) = ax_w32 (bsm T sc1 m P j + (if m' 104 (P + j) < 0 then sc1 43 (m' 105 (P + j)).toNat else mn (T.vl (m' 105 (P + j)).toNat))) := by
  have : bsm T sc1 m' P j = bsm T sc1 m P j := bsm_congr rfl j (fun c p x y z => by
    by_cases e : c = 104
    · subst e; exact (h4 p (by omega)).1
    · rw [show c = 105 by omega]; exact (h4 p (by omega)).2)
  show ax_w32 (bsm T sc1 m' P j + _) = _
  rw [this]
end ILSS
