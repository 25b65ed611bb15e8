/-! EXPRESSIONS, whole: the class and the reference go alike. -/
section EXP
variable {T : TT} {sc0 sm0 sc sm s : Sg} {sn rp l2 k : Int} {a0 N0 K0 base W O op a N K q b nl ll : Nat}
/-- which operator comes next -/
theorem kind56 (hT : TWF T) (h : P2 T sc0 sm0 sn rp a0 N0 K0 base W O op sc sm a N K q b nl ll) :
    (f_56 (base : Int) sc = some (bin (T.tk a)) ∧ (10 ≤ bin (T.tk a) → lev (bin (T.tk a)) = 1 → ∀ i, i < q → 2 ≤ lev (sc 67 (base + i)))) ∨ (f_56 (base : Int) sc = some (-1) ∧ 1 ≤ q ∧ lev (sc 67 (base + 0)) = 1 ∧ lev (bin (T.tk a)) = 1 ∧ 10 ≤ bin (T.tk a)) := by
  obtain ⟨hE, h59, hS, hO, hTop, hK, hB, h70⟩ := id h
  obtain ⟨e1, e2, e3, -, -, -, e7, -, -, -, -, -, -, -, -, -, -, e18, e19, e20, e21, e22, e23⟩ := id hE
  have bd := STK.bd _ _ _ _ hS
  have bs := hO.2.2.2.2.2.2.2.1
  have h8 := hT.1
  have hz := e3.2.2
  have hb := bin_b (T.tk a)
  have lv := STK.lv _ _ _ _ hS
  unfold f_56
  rw [e7, e3.2.1, bin_eq]
  by_cases q0 : q = 0
  · left
    rw [if_pos (by omega)]
    refine ⟨?_, fun _ _ i hi => absurd hi (by omega)⟩
    unfold j_56_35 j_56_36
    rw [if_pos rfl]
  · have l0 := lv 0 (by omega)
    have e66 : f_66 (base : Int) sc = sc 67 base ∧ g_66 (base : Int) sc := by
      unfold f_66 g_66
      rw [e7, if_neg (by omega), if_neg (by omega), if_neg (by omega), Int.toNat_natCast]
      exact ⟨rfl, fun _ => trivial, fun _ => ⟨fun _ => trivial, fun _ => ⟨fun _ => trivial, fun _ => ⟨⟨by omega, by omega⟩, trivial⟩⟩⟩⟩
    have e5 := f57 e1 (k := sc 67 base) l0.2.2.1 l0.2.2.2
    rw [if_neg (by omega), gd_pos e66.2, e66.1, gd_pos e5.2, e5.1]
    unfold j_56_36
    by_cases d1 : lev (sc 67 base) = 1
    · rw [if_neg (by simp [d1])]
      rcases hb with hb | hb
      · left
        rw [hb]
        have g : g_57 (-1) sc ∧ f_57 (-1) sc = -1 := ⟨⟨fun _ => trivial, fun y => absurd (by decide) y⟩, if_pos (by decide)⟩
        rw [gd_pos g.1, g.2, if_pos (by decide)]
        exact ⟨rfl, fun y => absurd y (by decide)⟩
      · have e6 := f57 e1 (k := bin (T.tk a)) (by omega) (by omega)
        rw [gd_pos e6.2, e6.1]
        by_cases d2 : lev (bin (T.tk a)) = 1
        · right
          rw [if_neg (by simp [d2])]
          exact ⟨rfl, by omega, d1, d2, hb.1⟩
        · left
          rw [if_pos d2]
          exact ⟨rfl, fun _ y => absurd y d2⟩
    · left
      rw [if_pos (by simp [d1])]
      refine ⟨rfl, fun _ _ i hi => ?_⟩
      have := lv i hi
      by_cases i0 : i = 0
      · subst i0
        have : lev (sc 67 (base + 0)) ≠ 1 := d1
        omega
      · exact this.2.1 (by omega)
theorem xb_inl {α β : Type} {x : α} {k : α → Option (Sum β (Nat × Sg))} : xb (some (.inl x)) k = k x := rfl
/-- an operand comes out, in a leaf's way -/
theorem OOUT.leaf {rc : Option (Sum Sg (Nat × Sg))} {sN sH mD : Sg} {a' N' K' F G : Nat} (h1 : rc = some (.inl sN)) (h2 : f_54 (a : Int) sN = some sH) (h3 : f_260 sm = some (0, mD)) (h4 : P2 T sc0 sm0 sn rp a0 N0 K0 base W O op sH mD a' N' K' q b N a) (ha : a < a') (hF : T.z + 1 ≤ F + a) (hG : 1 ≤ G) :
    OOUT T sc0 sm0 sn rp a0 N0 K0 base W O op sc sm a N q b l2 rc (RP l2 F G sm) := by
  refine Or.inl ⟨sN, sH, mD, a', N', K', F, h1, h2, ?_, ha, by omega, h4⟩
  unfold RP
  rw [h3, Option.bind_some]
  exact go_25 hG h4.1.2.2.2.2.1
theorem cmp_tk : ∀ c ∈ kvl, 10 ≤ bin c → lev (bin c) = 1 → c = 60 ∨ c = 128 ∨ c = 129 := by decide +kernel
theorem bin_63 : ∀ c ∈ kvl, 10 ≤ bin c → c ≠ 46 ∧ c ≠ 63 := by decide +kernel
theorem b261n (hT : TWF T) (hM : MC T sm) (hu : sm 84 18 = (a : Int)) (hz : a ≤ T.z) (t46 : T.tk a ≠ 46) (hk : bin (T.tk a) = -1) : f_261 sm = ((f_269 1 sm).bind fun q2 => (gd (g_232 18 q2) ( (if f_232 18 q2 = 0 then ((f_270 q2).bind fun q3 => some (q3.1, q3.2)) else ((f_265 (ax_w32 ((q2 84 59) - 1)) 1 q2).bind fun q4 => (gd (0 ≤ q4 84 18 ∧ q4 84 18 < 8200) ( (gd (g_262 6 (q4 84 18) (ax_u2 q4 92 ((q4 84 18).toNat) 1)) ( ((some (f_262 6 (q4 84 18) (ax_u2 q4 92 ((q4 84 18).toNat) 1))).bind fun q5 => some (1, (ax_u2 q5 84 18 (ax_w32 ((q5 84 18) + 1)))))))))))))) := by
  have h8 := hT.1
  unfold f_261
  rw [eatN hM hT hu hz (K := 9) (k := 46) (by decide) (by decide) t46]
  rw [if_pos rfl]
  show gd (0 ≤ sm 84 18 ∧ sm 84 18 < 8200) (if f_267 (sm 88 ((sm 84 18).toNat)) sm < 0 then ((f_269 1 sm).bind fun q2 => (gd (g_232 18 q2) ( (if f_232 18 q2 = 0 then ((f_270 q2).bind fun q3 => some (q3.1, q3.2)) else ((f_265 (ax_w32 ((q2 84 59) - 1)) 1 q2).bind fun q4 => (gd (0 ≤ q4 84 18 ∧ q4 84 18 < 8200) ( (gd (g_262 6 (q4 84 18) (ax_u2 q4 92 ((q4 84 18).toNat) 1)) ( ((some (f_262 6 (q4 84 18) (ax_u2 q4 92 ((q4 84 18).toNat) 1))).bind fun q5 => some (1, (ax_u2 q5 84 18 (ax_w32 ((q5 84 18) + 1)))))))))))))) else ((f_269 ((if ¬ (f_268 (f_267 (sm 88 ((sm 84 18).toNat)) sm) sm) = 1 then f_268 (f_267 (sm 88 ((sm 84 18).toNat)) sm) sm else 2) : Int) sm).bind fun q6 => (if ¬ (f_268 (f_267 (sm 88 ((sm 84 18).toNat)) sm) sm) = 1 then j_261_161 (f_267 (sm 88 ((sm 84 18).toNat)) sm) q6 else (if q6 84 63 ≤ 0 then j_261_161 (f_267 (sm 88 ((sm 84 18).toNat)) sm) q6 else (gd (0 ≤ ax_w32 ((q6 84 63) - 1) ∧ ax_w32 ((q6 84 63) - 1) < 8200) ( (if 100 ≤ q6 129 ((ax_w32 ((q6 84 63) - 1)).toNat) then j_261_161 (f_267 (sm 88 ((sm 84 18).toNat)) sm) q6 else (gd (0 ≤ ax_w32 ((q6 84 63) - 1) ∧ ax_w32 ((q6 84 63) - 1) < 8200) ( (if ¬ (f_268 (q6 129 ((ax_w32 ((q6 84 63) - 1)).toNat)) q6) = 1 then j_261_161 (f_267 (sm 88 ((sm 84 18).toNat)) sm) q6 else (gd (0 ≤ q6 84 18 ∧ q6 84 18 < 8200) ( ((some (f_227 2 (q6 89 ((q6 84 18).toNat)) q6)).bind fun q7 => some (0, q7)))))))))))))) = _
  rw [hu, gd_pos (by omega), Int.toNat_natCast, hM.2 a hz, bin_m _ (hT.kv hz), hk, if_pos (by decide)]
theorem b261o {kk : Int} (hT : TWF T) (hM : MC T sm) (hu : sm 84 18 = (a : Int)) (hz : a ≤ T.z) (t46 : T.tk a ≠ 46) (hk : bin (T.tk a) = kk) (hk0 : 0 ≤ kk) : f_261 sm = ((f_269 ((if ¬ (f_268 kk sm) = 1 then f_268 kk sm else 2) : Int) sm).bind fun q6 => (if ¬ (f_268 kk sm) = 1 then j_261_161 kk q6 else (if q6 84 63 ≤ 0 then j_261_161 kk q6 else (gd (0 ≤ ax_w32 ((q6 84 63) - 1) ∧ ax_w32 ((q6 84 63) - 1) < 8200) ( (if 100 ≤ q6 129 ((ax_w32 ((q6 84 63) - 1)).toNat) then j_261_161 kk q6 else (gd (0 ≤ ax_w32 ((q6 84 63) - 1) ∧ ax_w32 ((q6 84 63) - 1) < 8200) ( (if ¬ (f_268 (q6 129 ((ax_w32 ((q6 84 63) - 1)).toNat)) q6) = 1 then j_261_161 kk q6 else (gd (0 ≤ q6 84 18 ∧ q6 84 18 < 8200) ( ((some (f_227 2 (q6 89 ((q6 84 18).toNat)) q6)).bind fun q7 => some (0, q7))))))))))))) := by
  have h8 := hT.1
  unfold f_261
  rw [eatN hM hT hu hz (K := 9) (k := 46) (by decide) (by decide) t46]
  rw [if_pos rfl]
  show gd (0 ≤ sm 84 18 ∧ sm 84 18 < 8200) (if f_267 (sm 88 ((sm 84 18).toNat)) sm < 0 then ((f_269 1 sm).bind fun q2 => (gd (g_232 18 q2) ( (if f_232 18 q2 = 0 then ((f_270 q2).bind fun q3 => some (q3.1, q3.2)) else ((f_265 (ax_w32 ((q2 84 59) - 1)) 1 q2).bind fun q4 => (gd (0 ≤ q4 84 18 ∧ q4 84 18 < 8200) ( (gd (g_262 6 (q4 84 18) (ax_u2 q4 92 ((q4 84 18).toNat) 1)) ( ((some (f_262 6 (q4 84 18) (ax_u2 q4 92 ((q4 84 18).toNat) 1))).bind fun q5 => some (1, (ax_u2 q5 84 18 (ax_w32 ((q5 84 18) + 1)))))))))))))) else ((f_269 ((if ¬ (f_268 (f_267 (sm 88 ((sm 84 18).toNat)) sm) sm) = 1 then f_268 (f_267 (sm 88 ((sm 84 18).toNat)) sm) sm else 2) : Int) sm).bind fun q6 => (if ¬ (f_268 (f_267 (sm 88 ((sm 84 18).toNat)) sm) sm) = 1 then j_261_161 (f_267 (sm 88 ((sm 84 18).toNat)) sm) q6 else (if q6 84 63 ≤ 0 then j_261_161 (f_267 (sm 88 ((sm 84 18).toNat)) sm) q6 else (gd (0 ≤ ax_w32 ((q6 84 63) - 1) ∧ ax_w32 ((q6 84 63) - 1) < 8200) ( (if 100 ≤ q6 129 ((ax_w32 ((q6 84 63) - 1)).toNat) then j_261_161 (f_267 (sm 88 ((sm 84 18).toNat)) sm) q6 else (gd (0 ≤ ax_w32 ((q6 84 63) - 1) ∧ ax_w32 ((q6 84 63) - 1) < 8200) ( (if ¬ (f_268 (q6 129 ((ax_w32 ((q6 84 63) - 1)).toNat)) q6) = 1 then j_261_161 (f_267 (sm 88 ((sm 84 18).toNat)) sm) q6 else (gd (0 ≤ q6 84 18 ∧ q6 84 18 < 8200) ( ((some (f_227 2 (q6 89 ((q6 84 18).toNat)) q6)).bind fun q7 => some (0, q7)))))))))))))) = _
  rw [hu, gd_pos (by omega), Int.toNat_natCast, hM.2 a hz, bin_m _ (hT.kv hz), hk, if_neg (by omega)]
theorem loop_sim {ex : Int → Sg → Option (Sum Sg (Nat × Sg))} {d : Nat} (hT : TWF T) (hd8 : d < 80) (hop : op ≤ 80)
    (IH : ∀ (sc1 sm1 : Sg) (a1 N1 K1 base1 W1 O1 F : Nat), EPRE T sc1 sm1 sn rp a1 N1 K1 base1 W1 O1 (op + 1) → T.z + 2 ≤ F + a1 → EOUT T sc1 sm1 sn rp a1 N1 K1 base1 W1 O1 (op + 1) l2 (ex ((d + 1 : Nat) : Int) sc1) (j_257_25 F l2 1 0 sm1)) :
    ∀ (r : Nat) {sc sm : Sg} {a N K q b l : Nat} (Fc F G : Nat), a + r = T.z → l ≤ a → T.z + 1 ≤ F + a → T.z + 1 ≤ G + a → P1 T sc0 sm0 sn rp a0 N0 K0 base W O op sc sm a N K q b → (a0 < a → T.tk a0 ∈ opS) →
    EOUT T sc0 sm0 sn rp a0 N0 K0 base W O op l2 (j_45_26 ex (Fc + r + 2) (d : Int) (base : Int) 1 (l : Int) sc) (RP l2 F G sm) := by
  intro r
  induction r using Nat.strongRecOn with
  | ind r ihr =>
  intro sc sm a N K q b l Fc F G hr hl hF hG h hS0
  have h8 := hT.1
  have e3 := h.1.2.2.1
  have ha0 := h.1.2.2.2.2.2.2.2.2.2.2.2.2.2.2.2.2.2.2.2.2.2.1
  have e14 := h.1.2.2.2.2.2.2.2.2.2.2.2.2.2.1
  have e15 := h.1.2.2.2.2.2.2.2.2.2.2.2.2.2.2.1
  rw [show Fc + r + 2 = Fc + r + 1 + 1 by omega, j_45_26, if_neg (by decide), if_neg (by omega)]
  obtain ⟨Fx, hFx⟩ := FU_split (k := r + 1) (by omega)
  have f46 : f_46 sc = j_46_2 (Fx + r + 1) ((0 : Nat) : Int) sc := by unfold f_46; rw [hFx]; rfl
  by_cases tS : T.tk a ∈ opS
  · have hS1 : T.tk a0 ∈ opS := by
      by_cases e : a0 < a
      · exact hS0 e
      · rw [show a0 = a by omega]; exact tS
    obtain ⟨sc1, sm1, a1, q1, G1, z1, z2, z3, z4, z5, z6, z7⟩ := pre_all (l2 := l2) (F := F) hT r (l := 0) Fx G hr (by omega) hG h
    rw [f46, z1, Option.bind_some, z2]
    obtain ⟨c1, -, c3, -, -, -, -, -, -, -, -, -, -, c14, c15, -, -, -, -, -, -, c22, -⟩ := id z3.1
    have z1z := c3.2.2
    have hG1 : 1 ≤ G1 := by omega
    have hF1 : T.z + 1 ≤ F + a1 := by omega
    -- what comes behind an operand
    have after : ∀ rc : Option (Sum Sg (Nat × Sg)), OOUT T sc0 sm0 sn rp a0 N0 K0 base W O op sc1 sm1 a1 N q1 b l2 rc (RP l2 F G1 sm1) → EOUT T sc0 sm0 sn rp a0 N0 K0 base W O op l2 (xb rc fun q4 => j_45_163 ex (j_45_26 ex (Fc + r + 1)) (d : Int) (base : Int) (l : Int) (a1 : Int) q4) (RP l2 F G1 sm1) := by
      intro rc ho
      rcases ho with ⟨sN, sH, mD, a2, N2, K2, F2, x1, x2, x3, x4, x5, x6⟩ | ⟨x, s', mF, x1, x2, x3, x4, x5⟩
      · rw [x1, x3]
        have z2z := x6.1.2.2.1.2.2
        show EOUT T sc0 sm0 sn rp a0 N0 K0 base W O op l2 (j_45_163 ex (j_45_26 ex (Fc + r + 1)) (d : Int) (base : Int) (l : Int) (a1 : Int) sN) _
        unfold j_45_163
        rw [x2, Option.bind_some]
        obtain ⟨Fy, hFy⟩ := FU_split (k := T.z - a2 + 1) (by omega)
        have f55 : f_55 sH = j_55_2 (Fy + (T.z - a2) + 1) ((0 : Nat) : Int) sH := by unfold f_55; rw [hFy]; rfl
        rw [f55]
        rcases slices_all (l2 := l2) hT (T.z - a2) (l := 0) Fy F2 (by omega) (by omega) x5 x6 with ⟨sc3, sm3, a3, N3, K3, F3, y1, y2, y3, y4, y5, y6⟩ | ⟨s', mF, y1, y2, y3, y4⟩
        · rw [y1, y2]
          show EOUT T sc0 sm0 sn rp a0 N0 K0 base W O op l2 ((f_56 (base : Int) sc3).bind _) _
          obtain ⟨i1, i2, i3, i4, i5, i6, i7, i8, -, -, -, -, -, i14, i15, -, i17, i18, i19, -, -, i22, -⟩ := id y3.1
          have hz3 := i3.2.2
          have hS3 := y3.2.2.1
          have bd3 := STK.bd _ _ _ _ hS3
          have lv3 := STK.lv _ _ _ _ hS3
          have bs3 := y3.2.2.2.1.2.2.2.2.2.2.2.1
          have hbb := bin_b (T.tk a3)
          obtain ⟨F4, rfl⟩ : ∃ k, F3 = k + 1 := ⟨F3 - 1, by omega⟩
          obtain ⟨Fz, hFz⟩ := FU_split (k := q1 + 1) (by omega)
          have r58 : ∀ v : Int, f_58 (base : Int) v sc3 = j_58_0 (Fz + q1 + 1) (base : Int) v sc3 := fun v => by unfold f_58; rw [hFz]; rfl
          have r269 : ∀ v : Int, f_269 v sm3 = j_269_0 (Fz + q1 + 1) v sm3 := fun v => by unfold f_269; rw [hFz]; rfl
          have m88 : sm3 88 a3 = km (T.tk a3) := i2.2 a3 hz3
          have b267 : f_267 (km (T.tk a3)) sm3 = bin (T.tk a3) := bin_m _ (hT.kv hz3) sm3
          have h9 : a0 < a3 := by omega
          rcases kind56 hT y3 with ⟨k1, k2⟩ | ⟨k1, k2, k3, k4, k5⟩
          · rw [k1, Option.bind_some]
            by_cases kb : 10 ≤ bin (T.tk a3)
            · -- an operator
              generalize hk : bin (T.tk a3) = kk at *
              have lvk := (lev_b kk (by omega) (by omega)).2.2.1 kb (by omega)
              have f5 := f57 i1 (k := kk) (by omega) (by omega)
              rw [if_pos (show ¬ kk = -1 by omega), gd_pos f5.2, f5.1]
              unfold j_45_197
              have tz := (bin_63 _ (hT.kv hz3) (by omega))
              have red : ∃ (sc4 sm4 : Sg) (N4 K4 q4 b4 nl4 ll4 : Nat), f_58 (base : Int) (lev kk) sc3 = some sc4 ∧ f_269 (wl kk) sm3 = some sm4 ∧ P2 T sc0 sm0 sn rp a0 N0 K0 base W O op sc4 sm4 a3 N4 K4 q4 b4 nl4 ll4 ∧ (lev kk = 1 → q4 = 0) := by
                by_cases l1 : lev kk = 1
                · obtain ⟨sc4, sm4, N4, K4, w1, w2, w3⟩ := red_zero (l := 1) (l' := 2) hT q1 y3 (fun i hi => ⟨(lv3 i hi).1, k2 kb l1 i hi⟩) Fz Fz
                  have ew : wl kk = 2 := by unfold wl; rw [if_pos l1]
                  exact ⟨sc4, sm4, N4, K4, 0, 0, N0, a0, by rw [r58, l1]; exact w1, by rw [r269, ew]; exact w2, w3, fun _ => rfl⟩
                · obtain ⟨sc4, sm4, N4, K4, q4, b4, nl4, ll4, w1, w2, w3, _⟩ := red_all (l := lev kk) hT (by omega) q1 y3 Fz Fz
                  have ew : wl kk = lev kk := by unfold wl; rw [if_neg l1]
                  exact ⟨sc4, sm4, N4, K4, q4, b4, nl4, ll4, by rw [r58]; exact w1, by rw [r269, ew]; exact w2, w3, fun y => absurd y l1⟩
              obtain ⟨sc4, sm4, N4, K4, q4, b4, nl4, ll4, w1, w2, w3, w4⟩ := red
              obtain ⟨sc5, sm5, v1, v2, v3, v4, v5⟩ := op_step hT w3 hk kb (fun y => by
                by_cases l1 : lev kk = 1
                · have := w4 l1; omega
                · omega)
              rw [w1, Option.bind_some, if_neg (show ¬ (if kk = -1 then 0 else 1 : Int) = 0 by rw [if_neg (by omega)]; decide), v1, Option.bind_some]
              unfold j_45_222
              rw [if_neg (show ¬ kk = -1 by omega), w32_nat (i := l) (by omega)]
              have r261 : f_261 sm3 = some (1, sm5) := by
                rw [b261o hT i2 i4 hz3 y6 hk (by omega), f268 kk (by omega) (by omega)]
                have ew : ((if ¬ lev kk = 1 then lev kk else 2) : Int) = wl kk := by
                  unfold wl
                  by_cases l1 : lev kk = 1
                  · rw [if_neg (fun y => y l1), if_pos l1]
                  · rw [if_pos l1, if_neg l1]
                rw [ew, w2, Option.bind_some]
                by_cases l1 : lev kk = 1
                · have hq4 := w4 l1
                  subst hq4
                  obtain ⟨-, -, -, -, -, -, -, p8, -, -, -, -, -, -, -, -, p17, -, p19, -, -, p22, -⟩ := id w3.1
                  rw [if_neg (fun y => y l1)]
                  by_cases W0 : W = 0
                  · rw [if_pos (by omega)]
                    exact v2
                  · have e63 : ax_w32 (sm4 84 63 - 1) = ((W - 1 : Nat) : Int) := by rw [p8, w32_id (by omega) (by omega)]; omega
                    have e100 : 100 ≤ sm4 129 (W - 1) := by rcases p17 with e | e; omega; exact e
                    rw [if_neg (by omega), e63, gd_pos (by omega), Int.toNat_natCast, if_pos e100]
                    exact v2
                · rw [if_pos l1]
                  exact v2
              have href : j_257_25 (F4 + 1) l2 0 0 sm3 = RP l2 F4 999999 (ax_u2 sm5 84 70 0) := by
                rw [RB_step i5 r261, if_neg (by decide), if_pos (by decide), show FU = 999999 + 1 from rfl, j_257_105, if_neg (by simp [v4]), if_neg (by decide), if_neg (by simp [v3])]
                rfl
              rw [href]
              have v3z := v5.1.2.2.1.2.2
              have nx := ihr (T.z - (a3 + 1)) (by omega) (l := l + 1) (Fc + r + 1 - (T.z - (a3 + 1)) - 2) F4 999999 (by omega) (by omega) (by omega) (by omega) v5 (fun _ => hS1)
              rw [show Fc + r + 1 - (T.z - (a3 + 1)) - 2 + (T.z - (a3 + 1)) + 2 = Fc + r + 1 by omega] at nx
              exact nx
            · -- the end
              have hk : bin (T.tk a3) = -1 := by omega
              rw [hk, if_neg (by decide)]
              unfold j_45_197
              obtain ⟨sc4, sm4, N4, K4, w1, w2, w3⟩ := red_zero (l := 1) (l' := 1) hT q1 y3 (fun i hi => ⟨(lv3 i hi).1, (lv3 i hi).1⟩) Fz Fz
              obtain ⟨p1, p2, p3, p4, p5, -, -, -, -, -, -, -, -, p14, p15, -, -, -, -, -, -, -, -⟩ := id w3.1
              rw [r58, w1, Option.bind_some, if_pos (by decide)]
              unfold j_45_222
              rw [show Fc + r + 1 = Fc + r + 1 from rfl, if_pos rfl, show (j_45_26 ex (Fc + r + 1)) (d : Int) (base : Int) 0 (ax_w32 ((l : Int) + 1)) sc4 = j_45_228 ex (d : Int) sc4 by rw [j_45_26, if_pos rfl]]
              unfold j_45_228
              rw [p3.2.1]
              by_cases t63 : T.tk a3 = 63
              · rw [if_neg (by simp [t63])]
                have ch := choice_sim (F := F4) hT w3 h9 hS1 t63 hd8 hop IH (by omega)
                have iy := is_y p2 hT p4 hz3 (K := 18) (k := 63) (by decide) t63
                have href : j_257_25 (F4 + 1) l2 0 0 sm3 = RQ l2 F4 sm4 := by
                  rw [j_257_25, if_neg (by simp [i5]), if_neg (by simp), if_pos rfl, b261n hT i2 i4 hz3 y6 hk, r269, w2, Option.bind_some, gd_pos iy.2, iy.1, if_neg (by decide)]
                  rfl
                rw [href]
                exact ch
              · rw [if_pos t63]
                have iy := is_n p2 hT p4 hz3 (K := 18) (k := 63) (by decide) (by decide) t63
                refine Or.inl ⟨sc4, sm4, a3, N4, K4, rfl, h9, w3, hS1, Or.inl ⟨F4, FU, ?_, by omega, by unfold FU; omega, hk, t63⟩⟩
                rw [j_257_25, if_neg (by simp [i5]), if_neg (by simp), if_pos rfl, b261n hT i2 i4 hz3 y6 hk, r269, w2, Option.bind_some, gd_pos iy.2, iy.1, if_pos rfl]
                unfold RC f_270
                cases j_270_0 FU sm4 <;> rfl
          · -- a second compare
            rw [k1, Option.bind_some, if_neg (by decide)]
            unfold j_45_197
            have tcc := cmp_tk _ (hT.kv hz3) k5 k4
            obtain ⟨sc4, sm4, N4, K4, w1, w2, w3⟩ := red_zero (l := 1) (l' := 1) hT q1 y3 (fun i hi => ⟨(lv3 i hi).1, (lv3 i hi).1⟩) Fz Fz
            obtain ⟨p1, p2, p3, p4, p5, -, -, -, -, -, -, -, -, p14, p15, -, -, -, -, -, -, -, -⟩ := id w3.1
            obtain ⟨sc6, sm6, N6, K6, q6, b6, nl6, ll6, u1, u2, u3, u4, u5, u6, u7⟩ := red_all (l := 2) hT (by decide) q1 y3 Fz Fz
            rw [r58, w1, Option.bind_some, if_pos (by decide)]
            unfold j_45_222
            rw [if_pos rfl, show (j_45_26 ex (Fc + r + 1)) (d : Int) (base : Int) 0 (ax_w32 ((l : Int) + 1)) sc4 = j_45_228 ex (d : Int) sc4 by rw [j_45_26, if_pos rfl]]
            unfold j_45_228
            rw [p3.2.1, if_pos (by omega)]
            refine Or.inl ⟨sc4, sm4, a3, N4, K4, rfl, h9, w3, hS1, Or.inr ⟨tcc, ?_⟩⟩
            have q6p : 1 ≤ q6 := by
              apply Decidable.byContradiction
              intro y
              have := u7 0 (by omega) (by omega)
              omega
            obtain ⟨-, o2, o3, o4, o5, -, -, o8, -, -, -, -, -, -, o15, -, -, -, o19, -, -, -, -⟩ := id u3.1
            have bd6 := STK.bd _ _ _ _ u3.2.2.1
            have lv6 := STK.lv _ _ _ _ u3.2.2.1 (q6 - 1) (by omega)
            have bs6 := u3.2.2.2.1.2.2.2.2.2.2.2.1
            have top6 : sm6 129 (W + (q6 - 1)) = sc6 67 (base + (q6 - 1)) := by
              have hS6 := u3.2.2.1
              obtain ⟨q7, rfl⟩ : ∃ k, q6 = k + 1 := ⟨q6 - 1, by omega⟩
              rw [show q7 + 1 - 1 = q7 by omega]
              rcases hS6 with ⟨p, _, b2, _⟩ | ⟨p, nl', ll', b', _, _, _, b4, _⟩
              · exact b2
              · exact b4
            have lev6 : lev (sc6 67 (base + (q6 - 1))) = 1 := by
              rcases u5 with y | y
              · omega
              · omega
            have e63 : ax_w32 (sm6 84 63 - 1) = ((W + (q6 - 1) : Nat) : Int) := by rw [o8, w32_id (by omega) (by omega)]; omega
            have f227 : f_227 2 (sm6 89 a3) sm6 = tel sm6 2 a3 := by unfold f_227; rw [if_pos (by omega)]; rfl
            have r261 : f_261 sm3 = some (0, tel sm6 2 a3) := by
              rw [b261o hT i2 i4 hz3 y6 rfl (by omega), f268 _ (by omega) (by omega), if_neg (fun y => y k4), r269, u2, Option.bind_some, if_neg (fun y => y k4), if_neg (by omega), e63, gd_pos (by omega), Int.toNat_natCast, top6, if_neg (by omega), gd_pos (by omega), f268 _ (by omega) (by omega), if_neg (fun y => y lev6), o4, gd_pos (by omega), Int.toNat_natCast, f227, Option.bind_some]
            refine ⟨tel sm6 2 a3, ?_, o15.trans tel_ef, by rw [tel_at]; decide⟩
            rw [RB_step i5 r261]
            exact flt_105 (by omega) FU1 (by rw [tel_at]; decide)
        · rw [y1]
          exact Or.inr ⟨15, s', mF, rfl, Or.inr rfl, y2, y3, y4⟩
      · rw [x1]
        exact Or.inr ⟨x, s', mF, rfl, x2, ⟨c14.trans x3.1, x3.2⟩, x4, c15.trans x5.1, x5.2⟩
    have hd1 : sc1 39 10 = (a1 : Int) := c3.1
    by_cases u1 : T.tk a1 = 2
    · have e47 : f_47 sc1 = some (.inl (0, sc1)) := by unfold f_47; rw [c3.2.1, u1]; rfl
      rw [e47, xb_inl, if_pos rfl]
      dsimp only
      rw [hd1]
      by_cases u2 : T.tk (a1 + 1) = 58 ∧ T.tk (a1 + 2) = 2
      · obtain ⟨sH, mD, x1, x2, x3, x4⟩ := leaf_value hT z3 u1 u2.1 u2.2
        exact after _ (OOUT.leaf x1 x2 x3 x4 (by omega) hF1 hG1)
      · obtain ⟨s', mD, x1, x2, x3, x4⟩ := leaf_value_bad hT z3 u1 (by
          by_cases y : T.tk (a1 + 1) = 58
          · exact Or.inr ⟨y, fun y2 => u2 ⟨y, y2⟩⟩
          · exact Or.inl y)
        refine after _ (Or.inr ⟨15, s', mD, x1, Or.inr rfl, x2, ?_, x4⟩)
        unfold RP
        rw [x3, Option.bind_some]
        exact flt_105 (by omega) hG1 x4.2
    · by_cases u2 : T.tk a1 = 1
      · have z1' := hT.lt z1z (by rw [u2]; decide)
        have k79 := c79 c1 hT (a := a1 + 1) (by omega)
        have w11 : ax_w32 (sc1 39 10 + 1) = ((a1 + 1 : Nat) : Int) := by rw [hd1]; exact w32_nat (by omega)
        by_cases u3 : T.tk (a1 + 1) = 91
        · have e47 : f_47 sc1 = some (.inl (2, sc1)) := by unfold f_47; rw [c3.2.1, u2, if_pos rfl, w11, gd_pos k79.2, k79.1, if_neg (by simp [u3])]
          rw [e47, xb_inl, if_neg (by simp), if_neg (by simp), if_pos rfl]
          dsimp only
          rw [hd1]
          exact after _ (op_element hT z3 u2 u3 hd8 hop IH F G1 hF1 hG1)
        · by_cases u4 : T.tk (a1 + 1) = 40
          · have e47 : f_47 sc1 = some (.inl (3, sc1)) := by unfold f_47; rw [c3.2.1, u2, if_pos rfl, w11, gd_pos k79.2, k79.1, if_pos u3, if_neg (by simp [u4])]
            rw [e47, xb_inl, if_neg (by simp), if_neg (by simp), if_neg (by simp), if_neg (by simp), if_neg (by simp)]
            dsimp only
            rw [hd1]
            by_cases u5 : T.tk (a1 + 2) = 41
            · obtain ⟨sN, sH, mD, x1, x2, x3, x4⟩ := leaf_call0 (ex := ex) (d := (d : Int)) hT z3 u2 u4 u5
              exact after _ (OOUT.leaf x1 x2 x3 x4 (by omega) hF1 hG1)
            · exact after _ (op_list hT z3 (Or.inl ⟨rfl, rfl, u2⟩) u4 (fun _ => u5) hd8 hop IH F G1 hF1 hG1)
          · have e47 : f_47 sc1 = some (.inl (1, sc1)) := by unfold f_47; rw [c3.2.1, u2, if_pos rfl, w11, gd_pos k79.2, k79.1, if_pos u3, if_pos u4]
            rw [e47, xb_inl, if_neg (by simp), if_pos rfl]
            dsimp only
            rw [hd1]
            obtain ⟨sN, sH, mD, x1, x2, x3, x4⟩ := leaf_name hT z3 u2 u3 u4
            exact after _ (OOUT.leaf x1 x2 x3 x4 (by omega) hF1 hG1)
      · by_cases u3 : T.tk a1 = 25 ∨ T.tk a1 = 26
        · have e47 : f_47 sc1 = some (.inl ((if T.tk a1 = 25 then 4 else 5), sc1)) := by
            unfold f_47
            rw [c3.2.1, if_neg u2, if_neg u1]
            rcases u3 with e | e
            · rw [if_pos e, if_pos e]
            · rw [if_neg (by rw [e]; decide), if_pos e, if_neg (by rw [e]; decide)]
          rw [e47]
          have k45 : (if T.tk a1 = 25 then 4 else 5 : Int) = 4 ∨ (if T.tk a1 = 25 then 4 else 5 : Int) = 5 := by split <;> simp
          generalize hkv : (if T.tk a1 = 25 then 4 else 5 : Int) = kv at *
          rw [xb_inl, if_neg (show ¬ (kv, sc1).1 = 0 by show ¬ kv = 0; omega), if_neg (show ¬ (kv, sc1).1 = 1 by show ¬ kv = 1; omega), if_neg (show ¬ (kv, sc1).1 = 2 by show ¬ kv = 2; omega), if_pos (show (kv, sc1).1 = 4 ∨ (kv, sc1).1 = 5 from k45)]
          dsimp only
          rw [hd1]
          by_cases u4 : T.tk (a1 + 1) = 40
          · exact after _ (op_ext hT z3 u3 u4 hkv.symm hd8 hop IH F G1 hF1 hG1)
          · obtain ⟨s', mF, x1, _, x3, x4, x5⟩ := word_bad (l2 := l2) (ex := ex) (d := (d : Int)) (k := kv) hT z3 (by omega) u4 hop F G1 hF1 hG1
            exact after _ (Or.inr ⟨15, s', mF, x1, Or.inr rfl, x3, x4, x5⟩)
        · by_cases u4 : T.tk a1 = 27
          · have e47 : f_47 sc1 = some (.inl (6, sc1)) := by
              unfold f_47
              rw [c3.2.1, u4]
              rfl
            rw [e47, xb_inl, if_neg (by simp), if_neg (by simp), if_neg (by simp), if_neg (by simp), if_neg (by simp)]
            dsimp only
            rw [hd1]
            by_cases u5 : T.tk (a1 + 1) = 40
            · exact after _ (op_list hT z3 (Or.inr ⟨rfl, rfl, u4⟩) u5 (fun y => absurd y (by decide)) hd8 hop IH F G1 hF1 hG1)
            · obtain ⟨s', mF, _, x2, x3, x4, x5⟩ := word_bad (l2 := l2) (ex := ex) (d := (d : Int)) (k := 6) hT z3 (by omega) u5 hop F G1 hF1 hG1
              exact after _ (Or.inr ⟨15, s', mF, x2, Or.inr rfl, x3, x4, x5⟩)
          · by_cases u5 : T.tk a1 = 40
            · have e47 : f_47 sc1 = some (.inl (22, sc1)) := by
                unfold f_47
                rw [c3.2.1, u5]
                rfl
              rw [e47, xb_inl, if_neg (by simp), if_neg (by simp), if_neg (by simp), if_neg (by simp), if_pos rfl]
              dsimp only
              rw [hd1]
              exact after _ (op_group hT z3 u5 hd8 hop IH F G1 hF1 hG1)
            · have nS : T.tk a1 ∉ opS := by
                intro y
                simp only [opS, List.mem_cons, List.not_mem_nil, or_false] at y
                omega
              obtain ⟨x1, mD, x2, x3⟩ := prim_bad hT z3 nS
              rw [x1]
              refine Or.inr ⟨15, sc1, mD, rfl, Or.inr rfl, ⟨c14, a1, c3⟩, ?_, c15.trans x3.1, x3.2⟩
              unfold RP
              rw [x2, Option.bind_some]
              exact flt_105 (by omega) hG1 x3.2
  · have n1 : T.tk a ≠ 126 ∧ T.tk a ≠ 45 := ⟨fun e => tS (by rw [e]; decide), fun e => tS (by rw [e]; decide)⟩
    have p46 : f_46 sc = some sc := by
      rw [f46, j_46_2, if_neg (by decide), e3.2.1, if_pos n1.1, if_pos n1.2]
    obtain ⟨x1, mD, x2, x3⟩ := prim_bad hT h tS
    rw [p46, Option.bind_some, x1]
    refine Or.inr ⟨15, sc, mD, rfl, Or.inr rfl, ⟨e14, a, e3⟩, ?_, e15.trans x3.1, x3.2⟩
    unfold RP
    rw [x2, Option.bind_some]
    exact flt_105 (by omega) (by omega) x3.2
/-- an expression, at its depth -/
theorem expr_sim {l : Nat} (hT : TWF T) : ∀ (r d : Nat), 81 ≤ d + r → d ≤ 80 → ∀ (sc sm : Sg) (a N K base W O op F : Nat), EPRE T sc sm sn rp a N K base W O op → l + op = d → T.z + 2 ≤ F + a → EOUT T sc sm sn rp a N K base W O op (l : Int) (f_45 r (d : Int) sc) (j_257_25 F (l : Int) 1 0 sm) := by
  intro r
  induction r with
  | zero => intro d h1 h2; omega
  | succ r ih =>
    intro d h1 h2 sc sm a N K base W O op F h ho hF
    have h8 := hT.1
    have e3 := h.2.2.1
    have hz := e3.2.2
    obtain ⟨F, rfl⟩ : ∃ k, F = k + 1 := ⟨F - 1, by omega⟩
    have e4 := h.2.2.2.1
    have e5 := h.2.2.2.2.1
    have e7 := h.2.2.2.2.2.2.1
    have e10 := h.2.2.2.2.2.2.2.2.2.1
    have hw : ax_w32 ((l : Int) + sm 84 67) = ((l + op : Nat) : Int) := by rw [e10, w32_id (by omega) (by omega)]; omega
    show EOUT T sc sm sn rp a N K base W O op (l : Int) (fb_45 (f_45 r) (d : Int) sc) _
    unfold fb_45
    by_cases hd : d < 80
    · have href : j_257_25 (F + 1) (l : Int) 1 0 sm = RP (l : Int) F FU sm := by
        rw [j_257_25, if_neg (by simp [e5]), if_neg (by simp), if_neg (by decide), hw, if_pos (by omega)]
        rfl
      rw [href, if_pos (by omega), e7]
      obtain ⟨Fc, hFc⟩ := FU_split (k := T.z - a + 2) (by omega)
      have lp := loop_sim (sc0 := sc) (sm0 := sm) (sn := sn) (rp := rp) (a0 := a) (N0 := N) (K0 := K) (base := base) (W := W) (O := O) (op := op) (l2 := (l : Int)) (ex := f_45 r) (d := d) hT hd (by omega) (fun sc1 sm1 a1 N1 K1 base1 W1 O1 F hp hF => ih (d + 1) (by omega) (by omega) sc1 sm1 a1 N1 K1 base1 W1 O1 (op + 1) F hp (by omega) hF) (T.z - a) (l := 0) Fc F FU (by omega) (by omega) (by omega) (by unfold FU; omega) h.p1 (fun y => absurd y (by omega))
      rw [show Fc + (T.z - a) + 2 = FU by omega] at lp
      exact lp
    · rw [if_neg (show ¬ (d : Int) < 80 by omega)]
      have f227 : f_227 3 (sm 89 a) sm = tel sm 3 a := by unfold f_227; rw [if_pos (by omega)]; rfl
      refine Or.inr ⟨14, sc, tel sm 3 a, rfl, Or.inl rfl, ⟨EFc.refl _, a, e3⟩, ?_, tel_ef, by rw [tel_at]; decide⟩
      rw [j_257_25, if_neg (by simp [e5]), if_neg (by simp), if_neg (by decide), hw, if_neg (by omega), e4, gd_pos (by omega), Int.toNat_natCast, f227, Option.bind_some]
      unfold j_257_66
      have f260 : f_260 (tel sm 3 a) = some (0, tel sm 3 a) := by unfold f_260; rw [if_neg (by rw [tel_at]; decide)]
      rw [f260, Option.bind_some]
      exact flt_105 (by omega) FU1 (show 0 < (tel sm 3 a) 84 6 by rw [tel_at]; decide)
end EXP
