/-! AN INSTRUCTION's header on both sides. -/
section INSR
variable {T : TT} {sc0 sm0 sc sm : Sg} {a S P A N K C w : Nat}
theorem ins_run (hT : TWF T) (hp : POS T) (hx : CX T sc) (h : PS0 T sc0 sm0 sc sm a S P A N K C w) (t0 : T.tk a = 20) :
    (∃ (s1 scp mp : Sg) (J B b : Nat), T.tk (a + 1) = 1 ∧ HDd sc s1 S (a + 1) N (T.vl (a + 1)).toNat 3 ∧ (CN s1 ↔ CN sc ∧ sc 36 (T.vl (a + 1)).toNat = -1) ∧ ILS T s1 (HDm sm S P N a 3) scp mp (a + 1) S P J B b ∧ CU T scp b ∧ mp 84 18 = (b : Int) ∧ T.tk b = 123 ∧ f_145 sc = some (.inl (ax_u2 (ax_u2 (ax_u2 (cur T scp (b + 1)) 71 0 20) 72 0 0) 70 9 ((0 + 1 : Nat) : Int))) ∧ f_233 sm = ((j_254_10 FU (S : Int) (OBm (ax_u2 mp 84 43 0) 0 0 b)).bind fun q12 => j_233_359 (S : Int) q12)) ∨
    (∃ (x : Nat) (s' mF : Sg), f_145 sc = some (.inr (x, s')) ∧ (x = 14 ∨ x = 15) ∧ BSc T sc s' ∧ f_233 sm = some mF ∧ BSm sm mF) := by
  obtain ⟨hB, h70, h19, h7, h37, hnc, htl, hdp⟩ := id h
  obtain ⟨e1, e2, e3, e4, e5, e6, e7, e8, e9, e10, e11, e12, e13, e14, e15, e16, e17, e18, e19, e20, e21, e22, e23, e24, e25, e26, e27, e28, e29, e30, e31⟩ := id hB
  have h8 := hT.1
  have n0 : T.tk a ≠ 0 := by rw [t0]; decide
  have hz := hT.lt e3.2.2 n0
  have pz := hp.add (k := a) (T.z - a) (by omega)
  rw [show a + (T.z - a) = T.z by omega] at pz
  have p8 := hp.2.2.2
  have hS1 : S < 1171 := by omega
  have hM0 : MC T (HD0 sm S P N) := HD0_sf.mc e2
  have f0 : (HD0 sm S P N) 84 6 = 0 := by rw [HD0_84 (by decide)]; exact e5
  have u0 : (HD0 sm S P N) 84 18 = (a : Int) := by rw [HD0_84 (by decide)]; exact e4
  have r233 : f_233 sm = (f_231 1 (ax_u2 (adv (HD0 sm S P N) (a + 1)) 94 S 3)).bind fun q11 => j_233_221 FU (S : Int) (ax_u2 q11.2 95 S q11.1) := by
    unfold f_233
    rw [h19, gd_pos (by omega), gd_pos (by omega), gd_pos (by omega), gd_pos (by omega), gd_pos (by omega), gd_pos (by omega), Int.toNat_natCast, e11, e6.2.1]
    show gd (g_252 31 (HD0 sm S P N)) ((some (f_252 31 (HD0 sm S P N))).bind _) = _
    rw [eatN hM0 hT u0 e3.2.2 (k := 17) (by decide) (by decide) (by rw [t0]; decide)]
    rw [if_neg (by simp), eatN hM0 hT u0 e3.2.2 (k := 18) (by decide) (by decide) (by rw [t0]; decide)]
    rw [if_pos rfl, eatN hM0 hT u0 e3.2.2 (k := 19) (by decide) (by decide) (by rw [t0]; decide)]
    rw [if_pos rfl, takeY hM0 hT f0 u0 e3.2.2 (k := 20) (by decide) t0, Option.bind_some, gd_pos (by omega)]
    congr 1
    funext q11
    rw [gd_pos (by omega)]
  have eta : ∀ o : Option (Sum Sg (Nat × Sg)), (xb o fun q => some (.inl q)) = o := fun o => by
    cases o with
    | none => rfl
    | some o => cases o <;> rfl
  have r145 : f_145 sc = f_153 sc := by
    unfold f_145
    rw [e3.2.1, if_neg (by rw [t0]; decide), if_neg (by rw [t0]; decide), if_neg (by rw [t0]; decide), if_pos t0, eta]
  have sA : SFm sm (ax_u2 (adv (HD0 sm S P N) (a + 1)) 94 S 3) := (HD0_sf.trans adv_sf).trans (ro_sf (by decide))
  have fA : (ax_u2 (adv (HD0 sm S P N) (a + 1)) 94 S 3) 84 6 = 0 := by rw [u2_row _ _ _ (by decide), adv_col (by decide)]; exact f0
  have uA : (ax_u2 (adv (HD0 sm S P N) (a + 1)) 94 S 3) 84 18 = ((a + 1 : Nat) : Int) := by rw [u2_row _ _ _ (by decide)]; exact adv_at
  rw [r145]
  by_cases t1 : T.tk (a + 1) = 1
  rotate_left
  · right
    have e2' : 0 < (ax_u2 (tel (ax_u2 (adv (HD0 sm S P N) (a + 1)) 94 S 3) 2 (a + 1)) 95 S 0) 84 6 := by rw [u2_row _ _ _ (by decide), tel_at]; decide
    obtain ⟨mF, k1, k2⟩ := fl221 (F := FU) FU1 e2' (S : Int)
    refine ⟨15, cur T sc (a + 1), mF, ?_, Or.inr rfl, ⟨cur_sf, _, cur_cu (by omega)⟩, ?_, ((sA.trans tel_sf).trans (ro_sf (by decide))).trans k2.1, k2.2⟩
    · unfold f_153
      rw [c156n hT e1 e3 n0 t1, xb_err]
    · rw [r233, takeN (sA.mc e2) hT fA uA (by omega) (k := 1) (by decide) (by decide) t1, Option.bind_some]
      exact k1
  have z1 := hT.lt (show a + 1 ≤ T.z by omega) (by rw [t1]; decide)
  obtain ⟨s1, hd1, hd2, hd3, hd4⟩ := c156 (kd := 3) hT e1 e3 n0 t1 e10 hS1 e6.1
  obtain ⟨q1, q2, q3, q4, q5, q6, q7, q8, q9, q10, q11, q12, q13, q14⟩ := id hd3
  have sf1 : SFc sc s1 := ⟨fun c x => q12 c (by omega), q13, q14, fun j _ => by rw [q12 31 (by omega)], W8.same (q12 31 (by omega))⟩
  obtain ⟨m1, hm1⟩ : ∃ m1 : Sg, m1 = HDm sm S P N a 3 := ⟨_, rfl⟩
  have sfm1 : SFm sm m1 := by rw [hm1]; exact HDm_sf
  have fm1 : m1 84 6 = 0 := by rw [hm1, HDm_84 (by decide) (by decide)]; exact e5
  have um1 : m1 84 18 = ((a + 2 : Nat) : Int) := by rw [hm1]; exact HDm_at
  have r233' : f_233 sm = j_233_221 FU (S : Int) m1 := by
    rw [r233, takeY (sA.mc e2) hT fA uA (by omega) (k := 1) (by decide) t1, Option.bind_some, hm1]
    rfl
  have hs := HDm_S (sm := sm) (S := S) (P := P) (N := N) (a := a) (kd := 3)
  have il0 : ILS T s1 m1 s1 m1 (a + 1) S P 0 0 (a + 2) := by
    refine ⟨fun _ _ => rfl, fun _ _ _ => rfl, fun _ _ => rfl, fun _ _ => rfl, fun _ _ _ _ _ => rfl, by rw [q12 31 (by decide)]; exact e14, q5, q4, fun _ _ => rfl, fun _ _ _ => rfl, fun _ _ => rfl, fun _ _ _ _ _ => rfl, by rw [hm1, HDm_84 (by decide) (by decide)]; exact e11, by rw [hm1]; exact hs.2.2.2.2.2.1, fun _ _ => ⟨rfl, rfl⟩, fun k x y => absurd y (by omega), ⟨fun _ => a + 2, rfl, rfl, fun i hi => absurd hi (by omega)⟩, ⟨fun y => ⟨y, fun p y z => absurd z (by omega)⟩, fun y => y.1⟩, fun y => ?_, by omega⟩
    have z37 : ∀ id, IDN T id → s1 37 id = 0 := fun id hid => by rw [q12 37 (by decide)]; exact h37 (hd4.mp y).1 id hid
    unfold BND
    rw [hm1, hs.2.2.2.2.1, hs.2.2.2.2.2.1]
    refine ⟨by rw [q12 31 (by decide)]; exact e14, Nat.le_refl _, fun i hi => absurd hi (by omega), fun i j hi => absurd hi (by omega), fun id hid u => absurd (z37 id hid) u, fun i hi => absurd hi (by omega), fun p p1 p2 => absurd p2 (by rw [Int.toNat_natCast] at *; simp; omega), rfl⟩
  obtain ⟨F, hF⟩ := FU_split (k := T.z - (a + 2) + 2) (by omega)
  have hF' : FU = F + (T.z - (a + 2)) + 2 := by omega
  have r153 : f_153 sc = j_153_7 FU 0 s1 := by
    unfold f_153
    rw [hd1, xb_inl]
  rcases ils_all (h := a + 1) (P := P) hT (sf1.cx hx) (sf1.cc e1) (sfm1.mc e2) fm1 q1 hS1 (by omega) (by rw [hm1]; exact hs.2.2.2.2.1) (fun k x y => by
      obtain ⟨b1, b2, b3, b4⟩ := e8 k (by omega) y
      exact ⟨by rw [q12 45 (by decide)]; exact b1, by rw [hm1, HDm_row (by decide)]; exact b2, by rw [hm1, HDm_row (by decide)]; exact b3, by rw [hm1, HDm_row (by decide)]; exact b4⟩) (T.z - (a + 2)) F F (by omega) il0 hd2 um1 with ⟨scp, mp, J, B, b, x1, x2, x3, x4, x5, x6, x7, x8⟩ | ⟨s', mF, x1, x2, x3, x4⟩
  rotate_left
  · right
    exact ⟨15, s', mF, by rw [r153, hF']; exact x1, Or.inr rfl, ⟨sf1.trans x2.1, x2.2⟩, by rw [r233', hF']; exact x3, sfm1.trans x4.1, x4.2⟩
  rw [← hF'] at x1 x2
  obtain ⟨r1, r2, r3, r4, r5, r6, r7, r8, k1, k2, -, -, -, -, -, -, -, -, -, g6'⟩ := id x3
  have sfp : SFc sc scp := sf1.trans ⟨fun c x => r1 c (by omega), r2, r3, r4, W8.of r6 (by have := x4.2.2; have := hT.1; omega)⟩
  have sfq : SFm sm mp := sfm1.trans ⟨fun c x => k1 c (by omega), fun k x => k2 k (by omega) (by omega)⟩
  have b70 : scp 70 9 = ((0 : Nat) : Int) := by rw [r1 70 (by decide), q12 70 (by decide)]; exact h70
  have sB : SFm sm (ax_u2 mp 84 43 0) := sfq.trans (slot_sf (by decide))
  have fB : (ax_u2 mp 84 43 0) 84 6 = 0 := by rw [u2_col _ _ _ (by decide), k2 6 (by decide) (by decide)]; exact fm1
  have uB : (ax_u2 mp 84 43 0) 84 18 = (b : Int) := by rw [u2_col _ _ _ (by decide)]; exact x5
  have cB : (ax_u2 mp 84 43 0) 84 43 = ((0 : Nat) : Int) := u2_same _ _ _ _
  have r1' : f_153 sc = xb (f_154 20 0 scp) fun q2 => some (.inl q2) := by
    rw [r153]
    exact x1
  have r2' : f_233 sm = (((f_258 0 (ax_u2 mp 84 43 0)).bind fun q1 => j_254_10 FU (S : Int) q1).bind fun q12 => j_233_359 (S : Int) q12) := by
    rw [r233', x2]
    rfl
  by_cases t2 : T.tk b = 123
  · left
    refine ⟨s1, scp, mp, J, B, b, t1, hd3, hd4, by rw [← hm1]; exact x3, x4, x5, t2, ?_, ?_⟩
    · rw [r1', c154y hT (sfp.cc e1) x4 t2 b70 (by omega), xb_inl]
    · rw [r2', m258y hT (sB.mc e2) fB uB x4.2.2 t2 cB (by omega) (Or.inl rfl), Option.bind_some]
  · right
    obtain ⟨x, y1, y2⟩ := c154n (w := 20) (m := 0) x4 b70 (Or.inl t2)
    obtain ⟨mF, y3, y4⟩ := m258n hT (sB.mc e2) fB uB x4.2.2 t2 cB (by omega) (x := 0) (Or.inl rfl)
    obtain ⟨G, hG⟩ := FU_split (k := 1) (by omega)
    have f4 := y4.2
    refine ⟨x, scp, mF, by rw [r1', y2, xb_err], y1, ⟨sfp, _, x4⟩, ?_, sB.trans y4.1, y4.2⟩
    rw [r2', y3, Option.bind_some, hG, j_254_10, if_pos (by omega), Option.bind_some]
    exact fl359 f4 _
end INSR
