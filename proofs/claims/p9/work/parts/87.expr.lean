/-! EXPRESSIONS, whole: the class and the reference go alike. -/
section EXP
variable {T : TT} {sc0 sm0 sc sm s : Sg} {sn rp l2 k : Int} {a0 N0 K0 base W O op a N K q b nl ll : Nat}
/-- which operator comes next -/
theorem kind56 (hT : TWF T) (h : P2 T sc0 sm0 sn rp a0 N0 K0 base W O op sc sm a N K q b nl ll) :
    (f_56 (base : Int) sc = some (bin (T.tk a)) ∧ (10 ≤ bin (T.tk a) → lev (bin (T.tk a)) = 1 → ∀ i, i < q → 2 ≤ lev (sc 67 (base + i)))) ∨ (f_56 (base : Int) sc = some (-1) ∧ 1 ≤ q ∧ lev (sc 67 (base + 0)) = 1 ∧ lev (bin (T.tk a)) = 1 ∧ 10 ≤ bin (T.tk a)) := by
  obtain ⟨hE, h59, hS, hO, hTop, hK, hB, h70⟩ := id h
  obtain ⟨e1, e2, e3, -, -, -, e7, -, -, -, -, -, -, -, -, -, -, e18, e19, e20, e21, e22, e23⟩ := id hE
  have bd := STK.bd _ _ _ _ hS
  have bs := hO.2.2.2.2.2.2.2.1
  have h8 := hT.1
  have hz := e3.2.2
  have hb := bin_b (T.tk a)
  have lv := STK.lv _ _ _ _ hS
  unfold f_56
  rw [e7, e3.2.1, bin_eq]
  by_cases q0 : q = 0
  · left
    rw [if_pos (by omega)]
    refine ⟨?_, fun _ _ i hi => absurd hi (by omega)⟩
    unfold j_56_35 j_56_36
    rw [if_pos rfl]
  · have l0 := lv 0 (by omega)
    have e66 : f_66 (base : Int) sc = sc 67 base ∧ g_66 (base : Int) sc := by
      unfold f_66 g_66
      rw [e7, if_neg (by omega), if_neg (by omega), if_neg (by omega), Int.toNat_natCast]
      exact ⟨rfl, fun _ => trivial, fun _ => ⟨fun _ => trivial, fun _ => ⟨fun _ => trivial, fun _ => ⟨⟨by omega, by omega⟩, trivial⟩⟩⟩⟩
    have e5 := f57 e1 (k := sc 67 base) l0.2.2.1 l0.2.2.2
    rw [if_neg (by omega), gd_pos e66.2, e66.1, gd_pos e5.2, e5.1]
    unfold j_56_36
    by_cases d1 : lev (sc 67 base) = 1
    · rw [if_neg (by simp [d1])]
      rcases hb with hb | hb
      · left
        rw [hb]
        have g : g_57 (-1) sc ∧ f_57 (-1) sc = -1 := ⟨⟨fun _ => trivial, fun y => absurd (by decide) y⟩, if_pos (by decide)⟩
        rw [gd_pos g.1, g.2, if_pos (by decide)]
        exact ⟨rfl, fun y => absurd y (by decide)⟩
      · have e6 := f57 e1 (k := bin (T.tk a)) (by omega) (by omega)
        rw [gd_pos e6.2, e6.1]
        by_cases d2 : lev (bin (T.tk a)) = 1
        · right
          rw [if_neg (by simp [d2])]
          exact ⟨rfl, by omega, d1, d2, hb.1⟩
        · left
          rw [if_pos d2]
          exact ⟨rfl, fun _ y => absurd y d2⟩
    · left
      rw [if_pos (by simp [d1])]
      refine ⟨rfl, fun _ _ i hi => ?_⟩
      have := lv i hi
      by_cases i0 : i = 0
      · subst i0
        have : lev (sc 67 (base + 0)) ≠ 1 := d1
        omega
      · exact this.2.1 (by omega)
theorem xb_inl {α β : Type} {x : α} {k : α → Option (Sum β (Nat × Sg))} : xb (some (.inl x)) k = k x := rfl
/-- an operand comes out, in a leaf's way -/
theorem OOUT.leaf {rc : Option (Sum Sg (Nat × Sg))} {sN sH mD : Sg} {a' N' K' F G : Nat} (h1 : rc = some (.inl sN)) (h2 : f_54 (a : Int) sN = some sH) (h3 : f_260 sm = some (0, mD)) (h4 : P2 T sc0 sm0 sn rp a0 N0 K0 base W O op sH mD a' N' K' q b N a) (ha : a < a') (hF : T.z + 1 ≤ F + a) (hG : 1 ≤ G) :
    OOUT T sc0 sm0 sn rp a0 N0 K0 base W O op sc sm a N q b l2 rc (RP l2 F G sm) := by
  refine Or.inl ⟨sN, sH, mD, a', N', K', F, h1, h2, ?_, ha, by omega, h4⟩
  unfold RP
  rw [h3, Option.bind_some]
  exact go_25 hG h4.1.2.2.2.2.1
theorem cmp_tk : ∀ c ∈ kvl, 10 ≤ bin c → lev (bin c) = 1 → c = 60 ∨ c = 128 ∨ c = 129 := by decide +kernel
theorem bin_63 : ∀ c ∈ kvl, 10 ≤ bin c → c ≠ 46 ∧ c ≠ 63 := by decide +kernel
theorem b261n (hT : TWF T) (hM : MC T sm) (hu : sm 84 18 = (a : Int)) (hz : a ≤ T.z) (t46 : T.tk a ≠ 46) (hk : bin (T.tk a) = -1) : f_261 sm = ((f_269 1 sm).bind fun q2 => (gd (g_232 18 q2) ( (if f_232 18 q2 = 0 then ((f_270 q2).bind fun q3 => some (q3.1, q3.2)) else ((f_265 (ax_w32 ((q2 84 59) - 1)) 1 q2).bind fun q4 => (gd (0 ≤ q4 84 18 ∧ q4 84 18 < 8200) ( (gd (g_262 6 (q4 84 18) (ax_u2 q4 92 ((q4 84 18).toNat) 1)) ( ((some (f_262 6 (q4 84 18) (ax_u2 q4 92 ((q4 84 18).toNat) 1))).bind fun q5 => some (1, (ax_u2 q5 84 18 (ax_w32 ((q5 84 18) + 1)))))))))))))) := by
  have h8 := hT.1
  unfold f_261
  rw [eatN hM hT hu hz (K := 9) (k := 46) (by decide) (by decide) t46]
  rw [if_pos rfl]
  show gd (0 ≤ sm 84 18 ∧ sm 84 18 < 8200) (if f_267 (sm 88 ((sm 84 18).toNat)) sm < 0 then ((f_269 1 sm).bind fun q2 => (gd (g_232 18 q2) ( (if f_232 18 q2 = 0 then ((f_270 q2).bind fun q3 => some (q3.1, q3.2)) else ((f_265 (ax_w32 ((q2 84 59) - 1)) 1 q2).bind fun q4 => (gd (0 ≤ q4 84 18 ∧ q4 84 18 < 8200) ( (gd (g_262 6 (q4 84 18) (ax_u2 q4 92 ((q4 84 18).toNat) 1)) ( ((some (f_262 6 (q4 84 18) (ax_u2 q4 92 ((q4 84 18).toNat) 1))).bind fun q5 => some (1, (ax_u2 q5 84 18 (ax_w32 ((q5 84 18) + 1)))))))))))))) else ((f_269 ((if ¬ (f_268 (f_267 (sm 88 ((sm 84 18).toNat)) sm) sm) = 1 then f_268 (f_267 (sm 88 ((sm 84 18).toNat)) sm) sm else 2) : Int) sm).bind fun q6 => (if ¬ (f_268 (f_267 (sm 88 ((sm 84 18).toNat)) sm) sm) = 1 then j_261_161 (f_267 (sm 88 ((sm 84 18).toNat)) sm) q6 else (if q6 84 63 ≤ 0 then j_261_161 (f_267 (sm 88 ((sm 84 18).toNat)) sm) q6 else (gd (0 ≤ ax_w32 ((q6 84 63) - 1) ∧ ax_w32 ((q6 84 63) - 1) < 8200) ( (if 100 ≤ q6 129 ((ax_w32 ((q6 84 63) - 1)).toNat) then j_261_161 (f_267 (sm 88 ((sm 84 18).toNat)) sm) q6 else (gd (0 ≤ ax_w32 ((q6 84 63) - 1) ∧ ax_w32 ((q6 84 63) - 1) < 8200) ( (if ¬ (f_268 (q6 129 ((ax_w32 ((q6 84 63) - 1)).toNat)) q6) = 1 then j_261_161 (f_267 (sm 88 ((sm 84 18).toNat)) sm) q6 else (gd (0 ≤ q6 84 18 ∧ q6 84 18 < 8200) ( ((some (f_227 2 (q6 89 ((q6 84 18).toNat)) q6)).bind fun q7 => some (0, q7)))))))))))))) = _
  rw [hu, gd_pos (by omega), Int.toNat_natCast, hM.2 a hz, bin_m _ (hT.kv hz), hk, if_pos (by decide)]
theorem b261o {kk : Int} (hT : TWF T) (hM : MC T sm) (hu : sm 84 18 = (a : Int)) (hz : a ≤ T.z) (t46 : T.tk a ≠ 46) (hk : bin (T.tk a) = kk) (hk0 : 0 ≤ kk) : f_261 sm = ((f_269 ((if ¬ (f_268 kk sm) = 1 then f_268 kk sm else 2) : Int) sm).bind fun q6 => (if ¬ (f_268 kk sm) = 1 then j_261_161 kk q6 else (if q6 84 63 ≤ 0 then j_261_161 kk q6 else (gd (0 ≤ ax_w32 ((q6 84 63) - 1) ∧ ax_w32 ((q6 84 63) - 1) < 8200) ( (if 100 ≤ q6 129 ((ax_w32 ((q6 84 63) - 1)).toNat) then j_261_161 kk q6 else (gd (0 ≤ ax_w32 ((q6 84 63) - 1) ∧ ax_w32 ((q6 84 63) - 1) < 8200) ( (if ¬ (f_268 (q6 129 ((ax_w32 ((q6 84 63) - 1)).toNat)) q6) = 1 then j_261_161 kk q6 else (gd (0 ≤ q6 84 18 ∧ q6 84 18 < 8200) ( ((some (f_227 2 (q6 89 ((q6 84 18).toNat)) q6)).bind fun q7 => some (0, q7))))))))))))) := by
  have h8 := hT.1
  unfold f_261
  rw [eatN hM hT hu hz (K := 9) (k := 46) (by decide) (by decide) t46]
  rw [if_pos rfl]
  show gd (0 ≤ sm 84 18 ∧ sm 84 18 < 8200) (if f_267 (sm 88 ((sm 84 18).toNat)) sm < 0 then ((f_269 1 sm).bind fun q2 => (gd (g_232 18 q2) ( (if f_232 18 q2 = 0 then ((f_270 q2).bind fun q3 => some (q3.1, q3.2)) else ((f_265 (ax_w32 ((q2 84 59) - 1)) 1 q2).bind fun q4 => (gd (0 ≤ q4 84 18 ∧ q4 84 18 < 8200) ( (gd (g_262 6 (q4 84 18) (ax_u2 q4 92 ((q4 84 18).toNat) 1)) ( ((some (f_262 6 (q4 84 18) (ax_u2 q4 92 ((q4 84 18).toNat) 1))).bind fun q5 => some (1, (ax_u2 q5 84 18 (ax_w32 ((q5 84 18) + 1)))))))))))))) else ((f_269 ((if ¬ (f_268 (f_267 (sm 88 ((sm 84 18).toNat)) sm) sm) = 1 then f_268 (f_267 (sm 88 ((sm 84 18).toNat)) sm) sm else 2) : Int) sm).bind fun q6 => (if ¬ (f_268 (f_267 (sm 88 ((sm 84 18).toNat)) sm) sm) = 1 then j_261_161 (f_267 (sm 88 ((sm 84 18).toNat)) sm) q6 else (if q6 84 63 ≤ 0 then j_261_161 (f_267 (sm 88 ((sm 84 18).toNat)) sm) q6 else (gd (0 ≤ ax_w32 ((q6 84 63) - 1) ∧ ax_w32 ((q6 84 63) - 1) < 8200) ( (if 100 ≤ q6 129 ((ax_w32 ((q6 84 63) - 1)).toNat) then j_261_161 (f_267 (sm 88 ((sm 84 18).toNat)) sm) q6 else (gd (0 ≤ ax_w32 ((q6 84 63) - 1) ∧ ax_w32 ((q6 84 63) - 1) < 8200) ( (if ¬ (f_268 (q6 129 ((ax_w32 ((q6 84 63) - 1)).toNat)) q6) = 1 then j_261_161 (f_267 (sm 88 ((sm 84 18).toNat)) sm) q6 else (gd (0 ≤ q6 84 18 ∧ q6 84 18 < 8200) ( ((some (f_227 2 (q6 89 ((q6 84 18).toNat)) q6)).bind fun q7 => some (0, q7)))))))))))))) = _
  rw [hu, gd_pos (by omega), Int.toNat_natCast, hM.2 a hz, bin_m _ (hT.kv hz), hk, if_neg (by omega)]
theorem loop_sim {ex : Int → Sg → Option (Sum Sg (Nat × Sg))} {d : Nat} (hT : TWF T) (hd8 : d < 80) (hop : op ≤ 80)
    (IH : ∀ (sc1 sm1 : Sg) (a1 N1 K1 base1 W1 O1 F : Nat), EPRE T sc1 sm1 sn rp a1 N1 K1 base1 W1 O1 (op + 1) → T.z + 2 ≤ F + a1 → EOUT T sc1 sm1 sn rp a1 N1 K1 base1 W1 O1 (op + 1) l2 (ex ((d + 1 : Nat) : Int) sc1) (j_257_25 F l2 1 0 sm1)) :
    ∀ (r : Nat) {sc sm : Sg} {a N K q b l : Nat} (Fc F G : Nat), a + r = T.z → l ≤ a → T.z + 1 ≤ F + a → T.z + 1 ≤ G + a → P1 T sc0 sm0 sn rp a0 N0 K0 base W O op sc sm a N K q b → (a0 < a → T.tk a0 ∈ opS) →
    EOUT T sc0 sm0 sn rp a0 N0 K0 base W O op l2 (j_45_26 ex (Fc + r + 2) (d : Int) (base : Int) 1 (l : Int) sc) (RP l2 F G sm) := by
  intro r
  induction r using Nat.strongRecOn with
  | ind r ihr =>
  intro sc sm a N K q b l Fc F G hr hl hF hG h hS0
  have h8 := hT.1
  have e3 := h.1.2.2.1
  have ha0 := h.1.2.2.2.2.2.2.2.2.2.2.2.2.2.2.2.2.2.2.2.2.2.1
  have e14 := h.1.2.2.2.2.2.2.2.2.2.2.2.2.2.1
  have e15 := h.1.2.2.2.2.2.2.2.2.2.2.2.2.2.2.1
  rw [show Fc + r + 2 = Fc + r + 1 + 1 by omega, j_45_26, if_neg (by decide), if_neg (by omega)]
  obtain ⟨Fx, hFx⟩ := FU_split (k := r + 1) (by omega)
  have f46 : f_46 sc = j_46_2 (Fx + r + 1) ((0 : Nat) : Int) sc := by unfold f_46; rw [hFx]; rfl
  by_cases tS : T.tk a ∈ opS
  · have hS1 : T.tk a0 ∈ opS := by
      by_cases e : a0 < a
      · exact hS0 e
      · rw [show a0 = a by omega]; exact tS
    obtain ⟨sc1, sm1, a1, q1, G1, z1, z2, z3, z4, z5, z6, z7⟩ := pre_all (l2 := l2) (F := F) hT r (l := 0) Fx G hr (by omega) hG h
    rw [f46, z1, Option.bind_some, z2]
    obtain ⟨c1, -, c3, -, -, -, -, -, -, -, -, -, -, c14, c15, -, -, -, -, -, -, c22, -⟩ := id z3.1
    have z1z := c3.2.2
    have hG1 : 1 ≤ G1 := by omega
    have hF1 : T.z + 1 ≤ F + a1 := by omega
    -- what comes behind an operand
    have after : ∀ rc : Option (Sum Sg (Nat × Sg)), OOUT T sc0 sm0 sn rp a0 N0 K0 base W O op sc1 sm1 a1 N q1 b l2 rc (RP l2 F G1 sm1) → EOUT T sc0 sm0 sn rp a0 N0 K0 base W O op l2 (xb rc fun q4 => j_45_163 ex (j_45_26 ex (Fc + r + 1)) (d : Int) (base : Int) (l : Int) (a1 : Int) q4) (RP l2 F G1 sm1) := by
      intro rc ho
      rcases ho with ⟨sN, sH, mD, a2, N2, K2, F2, x1, x2, x3, x4, x5, x6⟩ | ⟨x, s', mF, x1, x2, x3, x4, x5⟩
      · rw [x1, x3]
        have z2z := x6.1.2.2.1.2.2
        show EOUT T sc0 sm0 sn rp a0 N0 K0 base W O op l2 (j_45_163 ex (j_45_26 ex (Fc + r + 1)) (d : Int) (base : Int) (l : Int) (a1 : Int) sN) _
        unfold j_45_163
        rw [x2, Option.bind_some]
        obtain ⟨Fy, hFy⟩ := FU_split (k := T.z - a2 + 1) (by omega)
        have f55 : f_55 sH = j_55_2 (Fy + (T.z - a2) + 1) ((0 : Nat) : Int) sH := by unfold f_55; rw [hFy]; rfl
        rw [f55]
        rcases slices_all (l2 := l2) hT (T.z - a2) (l := 0) Fy F2 (by omega) (by omega) x5 x6 with ⟨sc3, sm3, a3, N3, K3, F3, y1, y2, y3, y4, y5, y6⟩ | ⟨s', mF, y1, y2, y3, y4⟩
        · rw [y1, y2]
          show EOUT T sc0 sm0 sn rp a0 N0 K0 base W O op l2 ((f_56 (base : Int) sc3).bind _) _
          obtain ⟨i1, i2, i3, i4, i5, i6, i7, i8, -, -, -, -, -, i14, i15, -, i17, i18, i19, -, -, i22, -⟩ := id y3.1
          have hz3 := i3.2.2
          have hS3 := y3.2.2.1
          have bd3 := STK.bd _ _ _ _ hS3
          have lv3 := STK.lv _ _ _ _ hS3
          have bs3 := y3.2.2.2.1.2.2.2.2.2.2.2.1
          have hbb := bin_b (T.tk a3)
          obtain ⟨F4, rfl⟩ : ∃ k, F3 = k + 1 := ⟨F3 - 1, by omega⟩
          obtain ⟨Fz, hFz⟩ := FU_split (k := q1 + 1) (by omega)
          have r58 : ∀ v : Int, f_58 (base : Int) v sc3 = j_58_0 (Fz + q1 + 1) (base : Int) v sc3 := fun v => by unfold f_58; rw [hFz]; rfl
          have r269 : ∀ v : Int, f_269 v sm3 = j_269_0 (Fz + q1 + 1) v sm3 := fun v => by unfold f_269; rw [hFz]; rfl
          have m88 : sm3 88 a3 = km (T.tk a3) := i2.2 a3 hz3
          have b267 : f_267 (km (T.tk a3)) sm3 = bin (T.tk a3) := bin_m _ (hT.kv hz3) sm3
          have h9 : a0 < a3 := by omega
          rcases kind56 hT y3 with ⟨k1, k2⟩ | ⟨k1, k2, k3, k4, k5⟩
          · rw [k1, Option.bind_some]
            by_cases kb : 10 ≤ bin (T.tk a3)
            · -- an operator
              generalize hk : bin (T.tk a3) = kk at *
              have lvk := (lev_b kk (by omega) (by omega)).2.2.1 kb (by omega)
              have f5 := f57 i1 (k := kk) (by omega) (by omega)
              rw [if_pos (show ¬ kk = -1 by omega), gd_pos f5.2, f5.1]
              unfold j_45_197
              have tz := (bin_63 _ (hT.kv hz3) (by omega))
              have red : ∃ (sc4 sm4 : Sg) (N4 K4 q4 b4 nl4 ll4 : Nat), f_58 (base : Int) (lev kk) sc3 = some sc4 ∧ f_269 (wl kk) sm3 = some sm4 ∧ P2 T sc0 sm0 sn rp a0 N0 K0 base W O op sc4 sm4 a3 N4 K4 q4 b4 nl4 ll4 ∧ (lev kk = 1 → q4 = 0) := by
                by_cases l1 : lev kk = 1
                · obtain ⟨sc4, sm4, N4, K4, w1, w2, w3⟩ := red_zero (l := 1) (l' := 2) hT q1 y3 (fun i hi => ⟨(lv3 i hi).1, k2 kb l1 i hi⟩) Fz Fz
                  have ew : wl kk = 2 := by unfold wl; rw [if_pos l1]
                  exact ⟨sc4, sm4, N4, K4, 0, 0, N0, a0, by rw [r58, l1]; exact w1, by rw [r269, ew]; exact w2, w3, fun _ => rfl⟩
                · obtain ⟨sc4, sm4, N4, K4, q4, b4, nl4, ll4, w1, w2, w3, _⟩ := red_all (l := lev kk) hT (by omega) q1 y3 Fz Fz
                  have ew : wl kk = lev kk := by unfold wl; rw [if_neg l1]
                  exact ⟨sc4, sm4, N4, K4, q4, b4, nl4, ll4, by rw [r58]; exact w1, by rw [r269, ew]; exact w2, w3, fun y => absurd y l1⟩
              obtain ⟨sc4, sm4, N4, K4, q4, b4, nl4, ll4, w1, w2, w3, w4⟩ := red
              obtain ⟨sc5, sm5, v1, v2, v3, v4, v5⟩ := op_step hT w3 hk kb (fun y => by
                by_cases l1 : lev kk = 1
                · have := w4 l1; omega
                · omega)
              rw [w1, Option.bind_some, if_neg (show ¬ (if kk = -1 then 0 else 1 : Int) = 0 by rw [if_neg (by omega)]; decide), v1, Option.bind_some]
              unfold j_45_222
              rw [if_neg (show ¬ kk = -1 by omega), w32_nat (i := l) (by omega)]
              have r261 : f_261 sm3 = some (1, sm5) := by
                rw [b261o hT i2 i4 hz3 y6 hk (by omega), f268 kk (by omega) (by omega)]
                have ew : ((if ¬ lev kk = 1 then lev kk else 2) : Int) = wl kk := by
                  unfold wl
                  by_cases l1 : lev kk = 1
                  · rw [if_neg (fun y => y l1), if_pos l1]
                  · rw [if_pos l1, if_neg l1]
                rw [ew, w2, Option.bind_some]
                by_cases l1 : lev kk = 1
                · have hq4 := w4 l1
                  subst hq4
                  obtain ⟨-, -, -, -, -, -, -, p8, -, -, -, -, -, -, -, -, p17, -, p19, -, -, p22, -⟩ := id w3.1
                  rw [if_neg (fun y => y l1)]
                  by_cases W0 : W = 0
                  · rw [if_pos (by omega)]
                    exact v2
                  · have e63 : ax_w32 (sm4 84 63 - 1) = ((W - 1 : Nat) : Int) := by rw [p8, w32_id (by omega) (by omega)]; omega
                    have e100 : 100 ≤ sm4 129 (W - 1) := by rcases p17 with e | e; omega; exact e
                    rw [if_neg (by omega), e63, gd_pos (by omega), Int.toNat_natCast, if_pos e100]
                    exact v2
                · rw [if_pos l1]
                  exact v2
              have href : j_257_25 (F4 + 1) l2 0 0 sm3 = RP l2 F4 999999 (ax_u2 sm5 84 70 0) := by
                rw [RB_step i5 r261, if_neg (by decide), if_pos (by decide), show FU = 999999 + 1 from rfl, j_257_105, if_neg (by simp [v4]), if_neg (by decide), if_neg (by simp [v3])]
                rfl
              rw [href]
              have v3z := v5.1.2.2.1.2.2
              have nx := ihr (T.z - (a3 + 1)) (by omega) (l := l + 1) (Fc + r + 1 - (T.z - (a3 + 1)) - 2) F4 999999 (by omega) (by omega) (by omega) (by omega) v5 (fun _ => hS1)
              rw [show Fc + r + 1 - (T.z - (a3 + 1)) - 2 + (T.z - (a3 + 1)) + 2 = Fc + r + 1 by omega] at nx
              exact nx
            · -- the end
              have hk : bin (T.tk a3) = -1 := by omega
              rw [hk, if_neg (by decide)]
              unfold j_45_197
              obtain ⟨sc4, sm4, N4, K4, w1, w2, w3⟩ := red_zero (l := 1) (l' := 1) hT q1 y3 (fun i hi => ⟨(lv3 i hi).1, (lv3 i hi).1⟩) Fz Fz
              obtain ⟨p1, p2, p3, p4, p5, -, -, -, -, -, -, -, -, p14, p15, -, -, -, -, -, -, -, -⟩ := id w3.1
              rw [r58, w1, Option.bind_some, if_pos (by decide)]
              unfold j_45_222
              rw [show Fc + r + 1 = Fc + r + 1 from rfl, if_pos rfl, show (j_45_26 ex (Fc + r + 1)) (d : Int) (base : Int) 0 (ax_w32 ((l : Int) + 1)) sc4 = j_45_228 ex (d : Int) sc4 by rw [j_45_26, if_pos rfl]]
              unfold j_45_228
              rw [p3.2.1]
              by_cases t63 : T.tk a3 = 63
              · rw [if_neg (by simp [t63])]
                have ch := choice_sim (F := F4) hT w3 h9 hS1 t63 hd8 hop IH (by omega)
                have iy := is_y p2 hT p4 hz3 (K := 18) (k := 63) (by decide) t63
                have href : j_257_25 (F4 + 1) l2 0 0 sm3 = RQ l2 F4 sm4 := by
                  rw [j_257_25, if_neg (by simp [i5]), if_neg (by simp), if_pos rfl, b261n hT i2 i4 hz3 y6 hk, r269, w2, Option.bind_some, gd_pos iy.2, iy.1, if_neg (by decide)]
                  rfl
                rw [href]
                exact ch
              · rw [if_pos t63]
                have iy := is_n p2 hT p4 hz3 (K := 18) (k := 63) (by decide) (by decide) t63
                refine Or.inl ⟨sc4, sm4, a3, N4, K4, rfl, h9, w3, hS1, Or.inl ⟨F4, FU, ?_, by omega, by unfold FU; omega, hk, t63⟩⟩
                rw [j_257_25, if_neg (by simp [i5]), if_neg (by simp), if_pos rfl, b261n hT i2 i4 hz3 y6 hk, r269, w2, Option.bind_some, gd_pos iy.2, iy.1, if_pos rfl]
                unfold RC f_270
                cases j_270_0 FU sm4 <;> rfl
          · -- a second compare
            rw [k1, Option.bind_some, if_neg (by decide)]
            unfold j_45_197
            have tcc := cmp_tk _ (hT.kv hz3) k5 k4
            obtain ⟨sc4, sm4, N4, K4, w1, w2, w3⟩ := red_zero (l := 1) (l' := 1) hT q1 y3 (fun i hi => ⟨(lv3 i hi).1, (lv3 i hi).1⟩) Fz Fz
            obtain ⟨p1, p2, p3, p4, p5, -, -, -, -, -, -, -, -, p14, p15, -, -, -, -, -, -, -, -⟩ := id w3.1
            obtain ⟨sc6, sm6, N6, K6, q6, b6, nl6, ll6, u1, u2, u3, u4, u5, u6, u7⟩ := red_all (l := 2) hT (by decide) q1 y3 Fz Fz
            rw [r58, w1, Option.bind_some, if_pos (by decide)]
            unfold j_45_222
            rw [if_pos rfl, show (j_45_26 ex (Fc + r + 1)) (d : Int) (base : Int) 0 (ax_w32 ((l : Int) + 1)) sc4 = j_45_228 ex (d : Int) sc4 by rw [j_45_26, if_pos rfl]]
            unfold j_45_228
            rw [p3.2.1, if_pos (by omega)]
            refine Or.inl ⟨sc4, sm4, a3, N4, K4, rfl, h9, w3, hS1, Or.inr ⟨tcc, ?_⟩⟩
            have q6p : 1 ≤ q6 := by
              apply Decidable.byContradiction
              intro y
              have := u7 0 (by omega) (by omega)
              omega
            obtain ⟨-, o2, o3, o4, o5, -, -, o8, -, -, -, -, -, -, o15, -, -, -, o19, -, -, -, -⟩ := id u3.1
            have bd6 := STK.bd _ _ _ _ u3.2.2.1
            have lv6 := STK.lv _ _ _ _ u3.2.2.1 (q6 - 1) (by omega)
            have bs6 := u3.2.2.2.1.2.2.2.2.2.2.2.1
            have top6 : sm6 129 (W + (q6 - 1)) = sc6 67 (base + (q6 - 1)) := by
              have hS6 := u3.2.2.1
              obtain ⟨q7, rfl⟩ : ∃ k, q6 = k + 1 := ⟨q6 - 1, by omega⟩
              rw [show q7 + 1 - 1 = q7 by omega]
              rcases hS6 with ⟨p, _, b2, _⟩ | ⟨p, nl', ll', b', _, _, _, b4, _⟩
              · exact b2
              · exact b4
            have lev6 : lev (sc6 67 (base + (q6 - 1))) = 1 := by
              rcases u5 with y | y
              · omega
              · omega
            have e63 : ax_w32 (sm6 84 63 - 1) = ((W + (q6 - 1) : Nat) : Int) := by rw [o8, w32_id (by omega) (by omega)]; omega
            have f227 : f_227 2 (sm6 89 a3) sm6 = tel sm6 2 a3 := by unfold f_227; rw [if_pos (by omega)]; rfl
            have r261 : f_261 sm3 = some (0, tel sm6 2 a3) := by
              rw [b261o hT i2 i4 hz3 y6 rfl (by omega), f268 _ (by omega) (by omega), if_neg (fun y => y k4), r269, u2, Option.bind_some, if_neg (fun y => y k4), if_neg (by omega), e63, gd_pos (by omega), Int.toNat_natCast, top6, if_neg (by omega), gd_pos (by omega), f268 _ (by omega) (by omega), if_neg (fun y => y lev6), o4, gd_pos (by omega), Int.toNat_natCast, f227, Option.bind_some]
            refine ⟨tel sm6 2 a3, ?_, o15.trans tel_ef, by rw [tel_at]; decide⟩
            rw [RB_step i5 r261]
            exact flt_105 (by omega) FU1 (by rw [tel_at]; decide)
        · rw [y1]
          exact Or.inr ⟨15, s', mF, rfl, Or.inr rfl, y2, y3, y4⟩
      · rw [x1]
        exact Or.inr ⟨x, s', mF, rfl, x2, ⟨c14.trans x3.1, x3.2⟩, x4, c15.trans x5.1, x5.2⟩
    have hd1 : sc1 39 10 = (a1 : Int) := c3.1
    by_cases u1 : T.tk a1 = 2
    · have e47 : f_47 sc1 = some (.inl (0, sc1)) := by unfold f_47; rw [c3.2.1, u1]; rfl
      rw [e47, xb_inl, if_pos rfl]
      dsimp only
      rw [hd1]
      by_cases u2 : T.tk (a1 + 1) = 58 ∧ T.tk (a1 + 2) = 2
      · obtain ⟨sH, mD, x1, x2, x3, x4⟩ := leaf_value hT z3 u1 u2.1 u2.2
        exact after _ (OOUT.leaf x1 x2 x3 x4 (by omega) hF1 hG1)
      · obtain ⟨s', mD, x1, x2, x3, x4⟩ := leaf_value_bad hT z3 u1 (by
          by_cases y : T.tk (a1 + 1) = 58
          · exact Or.inr ⟨y, fun y2 => u2 ⟨y, y2⟩⟩
          · exact Or.inl y)
        refine after _ (Or.inr ⟨15, s', mD, x1, Or.inr rfl, x2, ?_, x4⟩)
        unfold RP
        rw [x3, Option.bind_some]
        exact flt_105 (by omega) hG1 x4.2
    · by_cases u2 : T.tk a1 = 1
      · have z1' := hT.lt z1z (by rw [u2]; decide)
        have k79 := c79 c1 hT (a := a1 + 1) (by omega)
        have w11 : ax_w32 (sc1 39 10 + 1) = ((a1 + 1 : Nat) : Int) := by rw [hd1]; exact w32_nat (by omega)
        by_cases u3 : T.tk (a1 + 1) = 91
        · have e47 : f_47 sc1 = some (.inl (2, sc1)) := by unfold f_47; rw [c3.2.1, u2, if_pos rfl, w11, gd_pos k79.2, k79.1, if_neg (by simp [u3])]
          rw [e47, xb_inl, if_neg (by simp), if_neg (by simp), if_pos rfl]
          dsimp only
          rw [hd1]
          exact after _ (op_element hT z3 u2 u3 hd8 hop IH F G1 hF1 hG1)
        · by_cases u4 : T.tk (a1 + 1) = 40
          · have e47 : f_47 sc1 = some (.inl (3, sc1)) := by unfold f_47; rw [c3.2.1, u2, if_pos rfl, w11, gd_pos k79.2, k79.1, if_pos u3, if_neg (by simp [u4])]
            rw [e47, xb_inl, if_neg (by simp), if_neg (by simp), if_neg (by simp), if_neg (by simp), if_neg (by simp)]
            dsimp only
            rw [hd1]
            by_cases u5 : T.tk (a1 + 2) = 41
            · obtain ⟨sN, sH, mD, x1, x2, x3, x4⟩ := leaf_call0 (ex := ex) (d := (d : Int)) hT z3 u2 u4 u5
              exact after _ (OOUT.leaf x1 x2 x3 x4 (by omega) hF1 hG1)
            · exact after _ (op_list hT z3 (Or.inl ⟨rfl, rfl, u2⟩) u4 (fun _ => u5) hd8 hop IH F G1 hF1 hG1)
          · have e47 : f_47 sc1 = some (.inl (1, sc1)) := by unfold f_47; rw [c3.2.1, u2, if_pos rfl, w11, gd_pos k79.2, k79.1, if_pos u3, if_pos u4]
            rw [e47, xb_inl, if_neg (by simp), if_pos rfl]
            dsimp only
            rw [hd1]
            obtain ⟨sN, sH, mD, x1, x2, x3, x4⟩ := leaf_name hT z3 u2 u3 u4
            exact after _ (OOUT.leaf x1 x2 x3 x4 (by omega) hF1 hG1)
      · by_cases u3 : T.tk a1 = 25 ∨ T.tk a1 = 26
        · have e47 : f_47 sc1 = some (.inl ((if T.tk a1 = 25 then 4 else 5), sc1)) := by
            unfold f_47
            rw [c3.2.1, if_neg u2, if_neg u1]
            rcases u3 with e | e
            · rw [if_pos e, if_pos e]
            · rw [if_neg (by rw [e]; decide), if_pos e, if_neg (by rw [e]; decide)]
          rw [e47]
          have k45 : (if T.tk a1 = 25 then 4 else 5 : Int) = 4 ∨ (if T.tk a1 = 25 then 4 else 5 : Int) = 5 := by split <;> simp
          generalize hkv : (if T.tk a1 = 25 then 4 else 5 : Int) = kv at *
          rw [xb_inl, if_neg (show ¬ (kv, sc1).1 = 0 by show ¬ kv = 0; omega), if_neg (show ¬ (kv, sc1).1 = 1 by show ¬ kv = 1; omega), if_neg (show ¬ (kv, sc1).1 = 2 by show ¬ kv = 2; omega), if_pos (show (kv, sc1).1 = 4 ∨ (kv, sc1).1 = 5 from k45)]
          dsimp only
          rw [hd1]
          by_cases u4 : T.tk (a1 + 1) = 40
          · exact after _ (op_ext hT z3 u3 u4 hkv.symm hd8 hop IH F G1 hF1 hG1)
          · obtain ⟨s', mF, x1, _, x3, x4, x5⟩ := word_bad (l2 := l2) (ex := ex) (d := (d : Int)) (k := kv) hT z3 (by omega) u4 hop F G1 hF1 hG1
            exact after _ (Or.inr ⟨15, s', mF, x1, Or.inr rfl, x3, x4, x5⟩)
        · by_cases u4 : T.tk a1 = 27
          · have e47 : f_47 sc1 = some (.inl (6, sc1)) := by
              unfold f_47
              rw [c3.2.1, u4]
              rfl
            rw [e47, xb_inl, if_neg (by simp), if_neg (by simp), if_neg (by simp), if_neg (by simp), if_neg (by simp)]
            dsimp only
            rw [hd1]
            by_cases u5 : T.tk (a1 + 1) = 40
            · exact after _ (op_list hT z3 (Or.inr ⟨rfl, rfl, u4⟩) u5 (fun y => absurd y (by decide)) hd8 hop IH F G1 hF1 hG1)
            · obtain ⟨s', mF, _, x2, x3, x4, x5⟩ := word_bad (l2 := l2) (ex := ex) (d := (d : Int)) (k := 6) hT z3 (by omega) u5 hop F G1 hF1 hG1
              exact after _ (Or.inr ⟨15, s', mF, x2, Or.inr rfl, x3, x4, x5⟩)
          · by_cases u5 : T.tk a1 = 40
            · have e47 : f_47 sc1 = some (.inl (22, sc1)) := by
                unfold f_47
                rw [c3.2.1, u5]
                rfl
              rw [e47, xb_inl, if_neg (by simp), if_neg (by simp), if_neg (by simp), if_neg (by simp), if_pos rfl]
              dsimp only
              rw [hd1]
              exact after _ (op_group hT z3 u5 hd8 hop IH F G1 hF1 hG1)
            · have nS : T.tk a1 ∉ opS := by
                intro y
                simp only [opS, List.mem_cons, List.not_mem_nil, or_false] at y
                omega
              obtain ⟨x1, mD, x2, x3⟩ := prim_bad hT z3 nS
              rw [x1]
              refine Or.inr ⟨15, sc1, mD, rfl, Or.inr rfl, ⟨c14, a1, c3⟩, ?_, c15.trans x3.1, x3.2⟩
              unfold RP
              rw [x2, Option.bind_some]
              exact flt_105 (by omega) hG1 x3.2
  · have n1 : T.tk a ≠ 126 ∧ T.tk a ≠ 45 := ⟨fun e => tS (by rw [e]; decide), fun e => tS (by rw [e]; decide)⟩
    have p46 : f_46 sc = some sc := by
      rw [f46, j_46_2, if_neg (by decide), e3.2.1, if_pos n1.1, if_pos n1.2]
    obtain ⟨x1, mD, x2, x3⟩ := prim_bad hT h tS
    rw [p46, Option.bind_some, x1]
    refine Or.inr ⟨15, sc, mD, rfl, Or.inr rfl, ⟨e14, a, e3⟩, ?_, e15.trans x3.1, x3.2⟩
    unfold RP
    rw [x2, Option.bind_some]
    exact flt_105 (by omega) (by omega) x3.2
/-- an expression, at its depth -/
theorem expr_sim {l : Nat} (hT : TWF T) : ∀ (r d : Nat), 81 ≤ d + r → d ≤ 80 → ∀ (sc sm : Sg) (a N K base W O op F : Nat), EPRE T sc sm sn rp a N K base W O op → l + op = d → T.z + 2 ≤ F + a → EOUT T sc sm sn rp a N K base W O op (l : Int) (f_45 r (d : Int) sc) (j_257_25 F (l : Int) 1 0 sm) := by
  intro r
  induction r with
  | zero => intro d h1 h2; omega
  | succ r ih =>
    intro d h1 h2 sc sm a N K base W O op F h ho hF
    have h8 := hT.1
    have e3 := h.2.2.1
    have hz := e3.2.2
    obtain ⟨F, rfl⟩ : ∃ k, F = k + 1 := ⟨F - 1, by omega⟩
    have e4 := h.2.2.2.1
    have e5 := h.2.2.2.2.1
    have e7 := h.2.2.2.2.2.2.1
    have e10 := h.2.2.2.2.2.2.2.2.2.1
    have hw : ax_w32 ((l : Int) + sm 84 67) = ((l + op : Nat) : Int) := by rw [e10, w32_id (by omega) (by omega)]; omega
    show EOUT T sc sm sn rp a N K base W O op (l : Int) (fb_45 (f_45 r) (d : Int) sc) _
    unfold fb_45
    by_cases hd : d < 80
    · have href : j_257_25 (F + 1) (l : Int) 1 0 sm = RP (l : Int) F FU sm := by
        rw [j_257_25, if_neg (by simp [e5]), if_neg (by simp), if_neg (by decide), hw, if_pos (by omega)]
        rfl
      rw [href, if_pos (by omega), e7]
      obtain ⟨Fc, hFc⟩ := FU_split (k := T.z - a + 2) (by omega)
      have lp := loop_sim (sc0 := sc) (sm0 := sm) (sn := sn) (rp := rp) (a0 := a) (N0 := N) (K0 := K) (base := base) (W := W) (O := O) (op := op) (l2 := (l : Int)) (ex := f_45 r) (d := d) hT hd (by omega) (fun sc1 sm1 a1 N1 K1 base1 W1 O1 F hp hF => ih (d + 1) (by omega) (by omega) sc1 sm1 a1 N1 K1 base1 W1 O1 (op + 1) F hp (by omega) hF) (T.z - a) (l := 0) Fc F FU (by omega) (by omega) (by omega) (by unfold FU; omega) h.p1 (fun y => absurd y (by omega))
      rw [show Fc + (T.z - a) + 2 = FU by omega] at lp
      exact lp
    · rw [if_neg (show ¬ (d : Int) < 80 by omega)]
      have f227 : f_227 3 (sm 89 a) sm = tel sm 3 a := by unfold f_227; rw [if_pos (by omega)]; rfl
      refine Or.inr ⟨14, sc, tel sm 3 a, rfl, Or.inl rfl, ⟨EFc.refl _, a, e3⟩, ?_, tel_ef, by rw [tel_at]; decide⟩
      rw [j_257_25, if_neg (by simp [e5]), if_neg (by simp), if_neg (by decide), hw, if_neg (by omega), e4, gd_pos (by omega), Int.toNat_natCast, f227, Option.bind_some]
      unfold j_257_66
      have f260 : f_260 (tel sm 3 a) = some (0, tel sm 3 a) := by unfold f_260; rw [if_neg (by rw [tel_at]; decide)]
      rw [f260, Option.bind_some]
      exact flt_105 (by omega) FU1 (show 0 < (tel sm 3 a) 84 6 by rw [tel_at]; decide)
end EXP
/-! AN EXPRESSION of a statement or an action. -/
/-- how many names are bound stays within bounds -/
def W8 (s s' : Sg) : Prop := 0 ≤ s 31 8 ∧ s 31 8 ≤ 4112 → 0 ≤ s' 31 8 ∧ s' 31 8 ≤ 4112
theorem W8.same {s s' : Sg} (h : s' 31 = s 31) : W8 s s' := fun y => by rw [h]; exact y
theorem W8.of {s s' : Sg} {B : Nat} (h : s' 31 8 = (B : Int)) (hB : B ≤ 4112) : W8 s s' := fun _ => by omega
/-- rows that reading may change, on each side -/
def SFc (s s' : Sg) : Prop := (∀ c, ¬ (c = 30 ∨ c = 31 ∨ 36 ≤ c ∧ c ≤ 39 ∨ 45 ≤ c ∧ c ≤ 72) → s' c = s c) ∧ (∀ j, j ≠ 10 → j ≠ 11 → s' 39 j = s 39 j) ∧ (∀ j, j < 4 ∨ 7 < j → s' 30 j = s 30 j) ∧ (∀ j, j ≠ 8 → s' 31 j = s 31 j) ∧ W8 s s'
def SFm (s s' : Sg) : Prop := (∀ c, ¬ (c = 84 ∨ 91 ≤ c ∧ c ≤ 132) → s' c = s c) ∧ (∀ j, j < 6 ∨ 7 < j ∧ j < 18 ∨ 70 < j → s' 84 j = s 84 j)
/-- before an expression, after it -/
def TPRE (T : TT) (sc sm : Sg) (a N K : Nat) : Prop := CC T sc ∧ MC T sm ∧ CU T sc a ∧ sm 84 18 = (a : Int) ∧ sm 84 6 = 0 ∧ ND T sc sm N K ∧ sc 66 7 = 0 ∧ (∀ k, a ≤ k → k < T.z → FRS T sc sm k) ∧ N ≤ a ∧ K ≤ N ∧ 1 ≤ a ∧ T.tk (a - 1) ∈ opA
/-- what an expression may change of the reference -/
def EFt (s s' : Sg) : Prop := (∀ c, ¬ (c = 84 ∨ c = 91 ∨ c = 92 ∨ 116 ≤ c ∧ c ≤ 121 ∨ 123 ≤ c ∧ c ≤ 132) → s' c = s c) ∧ (∀ j, j < 6 ∨ 7 < j ∧ j < 18 ∨ 18 < j ∧ j < 47 ∨ 47 < j ∧ j < 57 ∨ j = 58 ∨ 59 < j ∧ j < 63 ∨ 63 < j ∧ j < 67 ∨ j = 69 ∨ 70 < j → s' 84 j = s 84 j)
def TPOST (T : TT) (sc sm : Sg) (sn : Int) (a N K : Nat) (sc' sm' : Sg) (a' N' K' : Nat) : Prop :=
  CC T sc' ∧ MC T sm' ∧ CU T sc' a' ∧ sm' 84 18 = (a' : Int) ∧ sm' 84 6 = 0 ∧ ND T sc' sm' N' K' ∧ sc' 66 7 = 0 ∧ (∀ k, a' ≤ k → k < T.z → FRS T sc' sm' k) ∧ XF sc sm sc' sm' a a' N K 0 0 0 ∧ EFc sc sc' ∧ EFt sm sm' ∧ (CN sc' ↔ CN sc ∧ ∀ n, N ≤ n → n < N' → NOK T (sc 37) sm' n) ∧
  (∀ k, a ≤ k → k < a' → LF T sc' sm' k) ∧ SEG T sc' sm' sn (sm 84 46) K' a a' N N' ∧ sc' 66 8 = (N' : Int) - 1 ∧ N < N' ∧ K' ≤ N' ∧ K ≤ K' ∧ a < a' ∧ T.tk a ∈ opS ∧ T.tk (a' - 1) ∈ opB
section TOP
variable {T : TT} {sc sm sc' sm' s s' s2 : Sg} {sn rp : Int} {a a' N N' K K' : Nat}
theorem SFc.refl (s : Sg) : SFc s s := ⟨fun _ _ => rfl, fun _ _ _ => rfl, fun _ _ => rfl, fun _ _ => rfl, fun y => y⟩
theorem SFm.refl (s : Sg) : SFm s s := ⟨fun _ _ => rfl, fun _ _ => rfl⟩
theorem SFc.trans (h : SFc s s') (k : SFc s' s2) : SFc s s2 := ⟨fun c x => (k.1 c x).trans (h.1 c x), fun j x y => (k.2.1 j x y).trans (h.2.1 j x y), fun j x => (k.2.2.1 j x).trans (h.2.2.1 j x), fun j x => (k.2.2.2.1 j x).trans (h.2.2.2.1 j x), fun y => k.2.2.2.2 (h.2.2.2.2 y)⟩
theorem SFm.trans (h : SFm s s') (k : SFm s' s2) : SFm s s2 := ⟨fun c x => (k.1 c x).trans (h.1 c x), fun j x => (k.2 j x).trans (h.2 j x)⟩
theorem EFc.sf (h : EFc s s') : SFc s s' := ⟨fun c x => h.1 c (by omega), h.2.1, h.2.2, fun j _ => by rw [h.1 31 (by omega)], W8.same (h.1 31 (by omega))⟩
theorem EFm.sf (h : EFm s s') : SFm s s' := ⟨fun c x => h.1 c (by omega), fun j x => h.2 j (by omega)⟩
theorem EFt.sf (h : EFt s s') : SFm s s' := ⟨fun c x => h.1 c (by omega), fun j x => h.2 j (by omega)⟩
theorem EFm.ft (h : EFm s s') : EFt s s' := ⟨h.1, fun j x => h.2 j (by omega)⟩
theorem EFt.trans (h : EFt s s') (k : EFt s' s2) : EFt s s2 := ⟨fun c x => (k.1 c x).trans (h.1 c x), fun j x => (k.2 j x).trans (h.2 j x)⟩
theorem SFc.cc (h : SFc sc sc') (k : CC T sc) : CC T sc' := k.row (h.2.1 9 (by decide) (by decide)) (h.1 41 (by omega)) (h.1 42 (by omega)) (h.1 44 (by omega)) (h.2.2.2.1 7 (by decide)) (h.1 1 (by omega))
theorem SFm.mc (h : SFm sm sm') (k : MC T sm) : MC T sm' := k.row (h.2 11 (by omega)) (h.1 88 (by omega))
theorem top_sim {d : Nat} (hT : TWF T) (h : TPRE T sc sm a N K) (hd : d ≤ 80) (sn : Int) :
    (∃ (sc' sm' : Sg) (a' N' K' : Nat), f_45 100 (d : Int) sc = some (.inl sc') ∧ TPOST T sc sm sn a N K sc' sm' a' N' K' ∧ (f_257 sn (d : Int) sm = some ((N' : Int) - 1, sm') ∨ ((T.tk a' = 60 ∨ T.tk a' = 128 ∨ T.tk a' = 129) ∧ ∃ mF : Sg, f_257 sn (d : Int) sm = some (0, mF) ∧ EFt sm mF ∧ 0 < mF 84 6))) ∨
    (∃ (x : Nat) (sc' mF : Sg), f_45 100 (d : Int) sc = some (.inr (x, sc')) ∧ (x = 14 ∨ x = 15) ∧ BDc T sc sc' ∧ f_257 sn (d : Int) sm = some (0, mF) ∧ EFt sm mF ∧ 0 < mF 84 6) := by
  obtain ⟨t1, t2, t3, t4, t5, t6, t7, t8, t9, t10, t11, t12⟩ := h
  have h8 := hT.1
  have hz := t3.2.2
  obtain ⟨m0, hm0⟩ : ∃ m0 : Sg, m0 = ax_u2 (ax_u2 (ax_u2 (ax_u2 sm 84 59 0) 84 63 0) 84 67 0) 84 68 sn := ⟨_, rfl⟩
  have r0 : ∀ c, c ≠ 84 → m0 c = sm c := fun c x => by rw [hm0, u2_row _ _ _ x, u2_row _ _ _ x, u2_row _ _ _ x, u2_row _ _ _ x]
  have c0 : ∀ j, j ≠ 59 → j ≠ 63 → j ≠ 67 → j ≠ 68 → m0 84 j = sm 84 j := fun j x y z w => by rw [hm0, u2_col _ _ _ w, u2_col _ _ _ z, u2_col _ _ _ y, u2_col _ _ _ x]
  have ef0 : EFt sm m0 := ⟨fun c x => r0 c (by omega), fun j x => c0 j (by omega) (by omega) (by omega) (by omega)⟩
  have f257 : f_257 sn (d : Int) sm = j_257_25 FU (d : Int) 1 0 m0 := by rw [hm0]; rfl
  have hp : EPRE T sc m0 sn (sm 84 46) a N K 0 0 0 0 := by
    refine ⟨t1, t2.row (c0 11 (by decide) (by decide) (by decide) (by decide)) (r0 88 (by decide)), t3, by rw [c0 18 (by decide) (by decide) (by decide) (by decide)]; exact t4, by rw [c0 6 (by decide) (by decide) (by decide) (by decide)]; exact t5, ?_, t7, by rw [hm0]; simp [ax_u2], by rw [hm0]; simp [ax_u2], by rw [hm0]; simp [ax_u2], by rw [hm0]; simp [ax_u2], c0 46 (by decide) (by decide) (by decide) (by decide), ?_, Or.inl rfl, by omega, by omega, by omega, t11, t12⟩
    · exact t6.congr rfl (c0 47 (by decide) (by decide) (by decide) (by decide)) (c0 57 (by decide) (by decide) (by decide) (by decide)) (fun _ _ _ _ _ => rfl) (fun c n x y _ => by rw [r0 c (by omega)]) (fun j _ => by rw [r0 125 (by decide)])
    · intro k x y
      obtain ⟨f1, f2, f3, f4⟩ := t8 k x y
      exact ⟨f1, by rw [r0 91 (by decide)]; exact f2, by rw [r0 92 (by decide)]; exact f3, by rw [r0 93 (by decide)]; exact f4⟩
  rw [f257]
  rcases expr_sim (l := d) hT 100 d (by omega) hd sc m0 a N K 0 0 0 0 FU hp (by omega) (by unfold FU; omega) with ⟨sc', sm', a', N', K', r1, r2, r3, rS, r4⟩ | ⟨x, sc', mF, r1, r2, r3, r4, r5⟩
  · left
    obtain ⟨i1, i2, i3, i4, i5, i6, i7, i8, i9, i10, i11, i12, i13, i14, i15, i16, i17, i18, i19, i20, i21, i22, i23⟩ := id r3.1
    obtain ⟨o1, o2, -, o6, o7, o8⟩ := id r3.2.2.2.1
    obtain ⟨vt1, _⟩ := id r3.2.2.2.2.1
    have hz' := i3.2.2
    have bs := o8.2.2.1
    have hK2 := r3.2.2.2.2.2.1
    obtain ⟨cx, qx, -, -, -, -, -, nr6, nr7, _⟩ := i6.2.2.2 (N' - 1) (by omega)
    have hlv := (lev_b _ nr6 nr7).1
    obtain ⟨mU, u1, u2, u3, u4⟩ := use_m (T := T) (sc := sc') (sm := sm') (o := 0) (l0 := a) (l1 := a') (w := 0) (n := N' - 1) (by rw [if_pos hlv]; exact o7) (o2.trans (by omega)) nr6 nr7 (by omega) (by omega) (by omega)
    have cU : ∀ j, mU 84 j = sm' 84 j := fun j => by rw [u4 84 (by decide)]
    refine ⟨sc', mU, a', N', K', r1, ⟨i1, i2.row (cU 11) (u4 88 (by decide)), i3, by rw [cU]; exact i4, by rw [cU]; exact i5, ?_, i7, ?_, ?_, i14, ?_, ?_, u2, ?_, vt1, o1, by omega, i20, r2, rS, r3.2.2.2.2.2.2.1⟩, ?_⟩
    · exact i6.congr rfl (cU 47) (cU 57) (fun _ _ _ _ _ => rfl) (fun c n x y _ => by rw [u4 c (by omega)]) (fun j _ => by rw [u4 125 (by decide)])
    · intro k x y
      obtain ⟨f1, f2, f3, f4⟩ := i12 k x y
      exact ⟨f1, by rw [u3 k (by omega)]; exact f2, by rw [u4 92 (by decide)]; exact f3, by rw [u4 93 (by decide)]; exact f4⟩
    · have xa : XF sc sm sc m0 a a N K 0 0 0 := ⟨fun k _ => ⟨rfl, by rw [r0 91 (by decide)], by rw [r0 92 (by decide)]⟩, fun _ _ _ _ _ => rfl, fun c n x y _ => by rw [r0 c (by omega)], fun j _ => by rw [r0 125 (by decide)], fun _ _ _ _ _ => rfl, fun c n x y _ => by rw [r0 c (by omega)], fun c n x y _ => by rw [r0 c (by omega)], fun k _ => by rw [r0 132 (by decide)]⟩
      have xb : XF sc' sm' sc' mU a a' N K 0 0 0 := ⟨fun k x => ⟨rfl, u3 k x, by rw [u4 92 (by decide)]⟩, fun _ _ _ _ _ => rfl, fun c n x y _ => by rw [u4 c (by omega)], fun j _ => by rw [u4 125 (by decide)], fun _ _ _ _ _ => rfl, fun c n x y _ => by rw [u4 c (by omega)], fun c n x y _ => by rw [u4 c (by omega)], fun k _ => by rw [u4 132 (by decide)]⟩
      exact (xa.trans i13 (Nat.le_refl _) i22 (Nat.le_refl _) (Nat.le_refl _) (Nat.le_refl _) (Nat.le_refl _) (Nat.le_refl _)).trans xb (Nat.le_refl _) (Nat.le_refl _) (Nat.le_refl _) (Nat.le_refl _) (Nat.le_refl _) (Nat.le_refl _) (Nat.le_refl _)
    · exact (ef0.trans i15.ft).trans ⟨fun c x => u4 c (by omega), fun j _ => cU j⟩
    · rw [i16]
      exact ⟨fun y => ⟨y.1, fun n z1 z2 => (NOK.congr (fun b x y => by rw [u4 b (by omega)])).mpr (y.2 n z1 z2)⟩, fun y => ⟨y.1, fun n z1 z2 => (NOK.congr (fun b x y => by rw [u4 b (by omega)])).mp (y.2 n z1 z2)⟩⟩
    · exact o8.rows (fun c x y => u4 c (by omega)) rfl rfl
    · rcases r4 with ⟨F', G', y1, y2, y3, y4, y5⟩ | ⟨y1, mF, y2, y3⟩
      · left
        rw [y1]
        unfold RC
        obtain ⟨G', rfl⟩ : ∃ k, G' = k + 1 := ⟨G' - 1, by omega⟩
        obtain ⟨F', rfl⟩ : ∃ k, F' = k + 1 := ⟨F' - 1, by omega⟩
        have u1' : f_265 0 0 sm' = some mU := u1
        rw [j_270_0, if_pos (by omega)]
        unfold j_270_85
        rw [if_neg (by rw [i8]; simp), u1', Option.bind_some, Option.bind_some]
        dsimp only
        rw [if_pos (by decide), if_neg (by decide), go_25 FU1 (by rw [cU]; exact i5), j_257_25, if_neg (by rw [cU, i5]; simp), if_pos (by decide)]
        unfold j_257_136
        rw [if_pos (by rw [cU, i5]; decide), u4 126 (by decide)]
        show some (sm' 126 0, mU) = _
        rw [show sm' 126 0 = (N' : Int) - 1 from o2]
      · exact Or.inr ⟨y1, mF, y2, ef0.trans y3.1.ft, y3.2⟩
  · exact Or.inr ⟨x, sc', mF, r1, r2, r3, r4, ef0.trans r5.1.ft, r5.2⟩
end TOP
/-! NAMES that hide others: parts, parameters, reps. -/
/-- is the name one of the parts from p0 on; one of the reps from r on -/
def PIN (T : TT) (sm : Sg) (id : Int) (p0 pc : Nat) : Prop := ∃ p, p0 ≤ p ∧ p < p0 + pc ∧ 0 ≤ sm 104 p ∧ T.vl (sm 104 p).toNat = id
def rin (T : TT) (sm : Sg) (id : Int) : Nat → Int → Prop
  | 0, _ => False
  | k + 1, r => 0 ≤ r ∧ (T.vl (sm 107 r.toNat).toNat = id ∨ rin T sm id k (sm 113 r.toNat))
def OWN (T : TT) (sm : Sg) (s : Nat) (r id : Int) : Prop := PIN T sm id (sm 98 s).toNat (sm 99 s).toNat ∨ rin T sm id 8200 r
/-- and how wide it is -/
def OWW (T : TT) (sm : Sg) (s : Nat) (r id w : Int) : Prop := (rin T sm id 8200 r ∧ w = 8) ∨ (¬ rin T sm id 8200 r ∧ ∃ p, (sm 98 s).toNat ≤ p ∧ p < (sm 98 s).toNat + (sm 99 s).toNat ∧ 0 ≤ sm 104 p ∧ T.vl (sm 104 p).toNat = id ∧ w = (if mn (T.vl (sm 105 p).toNat) < 1 then 1 else mn (T.vl (sm 105 p).toNat)))
/-- the reps in whose bodies one is, as the class has them bound above np -/
def RST (T : TT) (sc sm : Sg) (np : Nat) : Nat → Int → Prop
  | 0, r => r = -1
  | j + 1, r => ∃ a : Nat, r = (a : Int) ∧ a < 8200 ∧ T.vl (sm 107 a).toNat = sc 38 (np + j) ∧ sc 37 (sc 38 (np + j)).toNat = 8 ∧ sm 113 a < (a : Int) ∧ RST T sc sm np j (sm 113 a)
/-- the number of a name that stands in the text -/
def IDN (T : TT) (id : Nat) : Prop := ∃ x, x < T.z ∧ T.tk x = 1 ∧ T.vl x = (id : Int)
theorem IDN.lt {T : TT} {id : Nat} (hT : TWF T) (h : IDN T id) : id < T.m := by
  obtain ⟨x, h1, h2, h3⟩ := h
  have := hT.2.2.2.2.2.1 x h1 h2
  omega
theorem IDN.at {T : TT} {x : Nat} (hT : TWF T) (hx : x < T.z) (tx : T.tk x = 1) : IDN T (T.vl x).toNat := by
  have := hT.2.2.2.2.1 x hx
  exact ⟨x, hx, tx, by omega⟩
/-- what the class has bound: B names, np of them parts of s; behind the rep r -/
def BND (T : TT) (sc sm : Sg) (s : Nat) (r : Int) (B np : Nat) : Prop :=
  sc 31 8 = (B : Int) ∧ np ≤ B ∧ (∀ i, i < B → ∃ id : Nat, sc 38 i = (id : Int) ∧ id < T.m ∧ sc 37 id ≠ 0) ∧ (∀ i j, i < B → j < B → sc 38 i = sc 38 j → i = j) ∧ (∀ id, IDN T id → sc 37 id ≠ 0 → ∃ i, i < B ∧ sc 38 i = (id : Int)) ∧
  (∀ i, i < np → ∃ p, (sm 98 s).toNat ≤ p ∧ p < (sm 98 s).toNat + (sm 99 s).toNat ∧ 0 ≤ sm 104 p ∧ T.vl (sm 104 p).toNat = sc 38 i ∧ sc 37 (sc 38 i).toNat = (if mn (T.vl (sm 105 p).toNat) < 1 then 1 else mn (T.vl (sm 105 p).toNat))) ∧
  (∀ p, (sm 98 s).toNat ≤ p → p < (sm 98 s).toNat + (sm 99 s).toNat → 0 ≤ sm 104 p → ∃ i, i < np ∧ sc 38 i = T.vl (sm 104 p).toNat) ∧ RST T sc sm np (B - np) r
section OWNS
variable {T : TT} {sc sm sc' sm' : Sg} {s np B : Nat} {r id : Int}
theorem rst_rin : ∀ (j : Nat) (r : Int) (k : Nat), RST T sc sm np j r → r < (k : Int) → (rin T sm id k r ↔ ∃ i, i < j ∧ sc 38 (np + i) = id) := by
  intro j
  induction j with
  | zero =>
    intro r k h hk
    have h : r = -1 := h
    subst h
    constructor
    · intro y
      cases k with
      | zero => exact absurd y (fun z => z)
      | succ k => exact absurd y.1 (by decide)
    · intro ⟨i, hi, _⟩
      omega
  | succ j ih =>
    intro r k h hk
    obtain ⟨a, h1, h2, h3, h4, h5, h6⟩ := h
    subst h1
    obtain ⟨k, rfl⟩ : ∃ x, k = x + 1 := ⟨k - 1, by omega⟩
    have hi := ih (sm 113 a) k h6 (by omega)
    show (0 ≤ (a : Int) ∧ (T.vl (sm 107 (a : Int).toNat).toNat = id ∨ rin T sm id k (sm 113 (a : Int).toNat))) ↔ _
    rw [Int.toNat_natCast, hi, h3]
    constructor
    · intro ⟨_, y⟩
      rcases y with y | ⟨i, i1, i2⟩
      · exact ⟨j, by omega, y⟩
      · exact ⟨i, by omega, i2⟩
    · intro ⟨i, i1, i2⟩
      refine ⟨by omega, ?_⟩
      by_cases e : i = j
      · subst e; exact Or.inl i2
      · exact Or.inr ⟨i, by omega, i2⟩
theorem rst_w : ∀ (j : Nat) (r : Int), RST T sc sm np j r → ∀ i, i < j → sc 37 (sc 38 (np + i)).toNat = 8 := by
  intro j
  induction j with
  | zero => intro r _ i hi; omega
  | succ j ih =>
    intro r h i hi
    obtain ⟨a, h1, h2, h3, h4, h5, h6⟩ := h
    by_cases e : i = j
    · subst e; exact h4
    · exact ih _ h6 i (by omega)
theorem rst_r : ∀ (j : Nat) (r : Int), RST T sc sm np j r → r < 8200 := by
  intro j r h
  cases j with
  | zero => have h : r = -1 := h; omega
  | succ j => obtain ⟨a, h1, h2, _⟩ := h; omega
/-- a name is bound just when the reference finds it among its own -/
theorem BND.own (h : BND T sc sm s r B np) {i : Nat} (hi : IDN T i) : sc 37 i ≠ 0 ↔ OWN T sm s r (i : Int) := by
  obtain ⟨b1, b2, b3, b4, b5, b6, b7, b8⟩ := h
  have hr := rst_rin (id := (i : Int)) (B - np) r 8200 b8 (rst_r _ _ b8)
  constructor
  · intro y
    obtain ⟨k, k1, k2⟩ := b5 i hi y
    by_cases e : k < np
    · obtain ⟨p, p1, p2, p3, p4, p5⟩ := b6 k e
      exact Or.inl ⟨p, p1, p2, p3, by rw [p4, k2]⟩
    · exact Or.inr (hr.mpr ⟨k - np, by omega, by rw [show np + (k - np) = k by omega]; exact k2⟩)
  · intro y
    rcases y with ⟨p, p1, p2, p3, p4⟩ | y
    · obtain ⟨k, k1, k2⟩ := b7 p p1 p2 p3
      obtain ⟨id, d1, d2, d3⟩ := b3 k (by omega)
      rw [p4] at k2
      have : id = i := by omega
      rw [← this]; exact d3
    · obtain ⟨k, k1, k2⟩ := hr.mp y
      obtain ⟨id, d1, d2, d3⟩ := b3 (np + k) (by omega)
      have : id = i := by omega
      rw [← this]; exact d3
theorem BND.oww (h : BND T sc sm s r B np) {i : Nat} (hi : IDN T i) (h0 : sc 37 i ≠ 0) : OWW T sm s r (i : Int) (sc 37 i) := by
  obtain ⟨b1, b2, b3, b4, b5, b6, b7, b8⟩ := h
  have hr := rst_rin (id := (i : Int)) (B - np) r 8200 b8 (rst_r _ _ b8)
  obtain ⟨k, k1, k2⟩ := b5 i hi h0
  by_cases e : k < np
  · obtain ⟨p, p1, p2, p3, p4, p5⟩ := b6 k e
    rw [k2, Int.toNat_natCast] at p5
    refine Or.inr ⟨fun y => ?_, p, p1, p2, p3, by rw [p4, k2], p5⟩
    obtain ⟨j, j1, j2⟩ := hr.mp y
    have := b4 k (np + j) k1 (by omega) (by rw [k2, j2])
    omega
  · have hw := rst_w _ _ b8 (k - np) (by omega)
    rw [show np + (k - np) = k by omega, k2, Int.toNat_natCast] at hw
    exact Or.inl ⟨hr.mpr ⟨k - np, by omega, by rw [show np + (k - np) = k by omega]; exact k2⟩, hw⟩
/-- the chain of reps looks at what is below alone -/
theorem rin_congr {A : Nat} (hA : ∀ a, a < A → sm 113 a < (a : Int)) (h1 : ∀ c a, 106 ≤ c → c ≤ 113 → a < A → sm' c a = sm c a) : ∀ (k : Nat) (r : Int), r < (A : Int) → (rin T sm' id k r ↔ rin T sm id k r) := by
  intro k
  induction k with
  | zero => intro r _; exact Iff.rfl
  | succ k ih =>
    intro r hr
    show (0 ≤ r ∧ (T.vl (sm' 107 r.toNat).toNat = id ∨ rin T sm' id k (sm' 113 r.toNat))) ↔ (0 ≤ r ∧ (T.vl (sm 107 r.toNat).toNat = id ∨ rin T sm id k (sm 113 r.toNat)))
    by_cases h0 : 0 ≤ r
    · have ha : r.toNat < A := by omega
      have := hA r.toNat ha
      rw [h1 107 r.toNat (by decide) (by decide) ha, h1 113 r.toNat (by decide) (by decide) ha, ih _ (by omega)]
    · exact ⟨fun y => absurd y.1 h0, fun y => absurd y.1 h0⟩
theorem OWN.congr {A P : Nat} {p0 pc : Nat} (hA : ∀ a, a < A → sm 113 a < (a : Int)) (h1 : ∀ c a, 106 ≤ c → c ≤ 113 → a < A → sm' c a = sm c a) (h2 : ∀ p, p < P → sm' 104 p = sm 104 p) (h98 : sm 98 s = (p0 : Int)) (h99 : sm 99 s = (pc : Int)) (hP : p0 + pc ≤ P) (e98 : sm' 98 s = sm 98 s) (e99 : sm' 99 s = sm 99 s) (hr : r < (A : Int)) : OWN T sm' s r id ↔ OWN T sm s r id := by
  unfold OWN PIN
  rw [e98, e99, rin_congr hA h1 _ _ hr, h98, h99, Int.toNat_natCast, Int.toNat_natCast]
  constructor
  · intro y
    rcases y with ⟨p, p1, p2, p3, p4⟩ | y
    · rw [h2 p (by omega)] at p3 p4
      exact Or.inl ⟨p, p1, p2, p3, p4⟩
    · exact Or.inr y
  · intro y
    rcases y with ⟨p, p1, p2, p3, p4⟩ | y
    · rw [← h2 p (by omega)] at p3 p4
      exact Or.inl ⟨p, p1, p2, p3, p4⟩
    · exact Or.inr y
end OWNS
/-! THE CLASS's small steps in statements: heads, bound names, claims, bodies. -/
section CST
variable {T : TT} {s : Sg} {a S N C B b : Nat}
theorem c109 (hT : TWF T) (hc : CC T s) {x : Nat} (hx : x < T.z) (ht : T.tk x = 1) : g_109 (T.vl x) s ∧ f_109 (T.vl x) s = s 36 (T.vl x).toNat ∧ g_106 (T.vl x) s ∧ f_106 (T.vl x) s = s 37 (T.vl x).toNat ∧ (∀ y, g_110 (T.vl x) y s ∧ f_110 (T.vl x) y s = ax_u2 s 36 (T.vl x).toNat y) := by
  have hv := hT.2.2.2.2.1 x hx
  have hv2 := hT.2.2.2.2.2.1 x hx ht
  have hm := hT.2.2.2.2.2.2
  have h7 := hc.2.2.2.2.1
  refine ⟨⟨fun _ => trivial, fun _ => ⟨fun _ => trivial, fun _ => ⟨⟨by omega, by omega⟩, trivial⟩⟩⟩, ?_, ⟨fun _ => trivial, fun _ => ⟨fun _ => trivial, fun _ => ⟨⟨by omega, by omega⟩, trivial⟩⟩⟩, ?_, fun y => ⟨⟨fun _ => trivial, fun _ => ⟨fun _ => trivial, fun _ => ⟨⟨by omega, by omega⟩, trivial⟩⟩⟩, ?_⟩⟩
  · unfold f_109; rw [if_neg (by omega), if_neg (by omega)]
  · unfold f_106; rw [if_neg (by omega), if_neg (by omega)]
  · unfold f_110; rw [if_neg (by omega), if_neg (by omega)]
/-- a NAME -/
theorem c96y (hT : TWF T) (hc : CC T s) (hu : CU T s a) (h : T.tk a = 1) : f_96 s = some (.inl (T.vl a, cur T s (a + 1))) := by
  have c9 := c97 hc hT (a := a) hu.2.2
  rw [if_pos h] at c9
  unfold f_96
  rw [if_pos (by rw [hu.2.1, h]), hu.1, gd_pos c9.2, c9.1, nxt hT hc hu (by rw [h]; decide)]
theorem c96n (hu : CU T s a) (h : T.tk a ≠ 1) : f_96 s = some (.inr (15, s)) := by
  unfold f_96
  rw [if_neg (by rw [hu.2.1]; exact h)]
/-- what binding a name changes -/
def BDd (T : TT) (s s' : Sg) (B : Nat) (id : Nat) (w : Int) : Prop := s' 31 8 = ((B + 1 : Nat) : Int) ∧ s' 38 B = (id : Int) ∧ s' 37 id = w ∧ (∀ i, i ≠ B → s' 38 i = s 38 i) ∧ (∀ i, i ≠ id → s' 37 i = s 37 i) ∧ (∀ j, j ≠ 8 → s' 31 j = s 31 j) ∧ (∀ c, ¬ (c = 30 ∨ c = 31 ∨ c = 37 ∨ c = 38) → s' c = s c) ∧ (∀ j, j < 4 ∨ 7 < j → s' 30 j = s 30 j)
theorem c155 {x : Nat} {w : Int} (hT : TWF T) (hc : CC T s) (hx : x < T.z) (ht : T.tk x = 1) (hB : s 31 8 = (B : Int)) (hB8 : B < 4112) :
    ∃ s' : Sg, f_155 (T.vl x) (x : Int) w s = some s' ∧ BDd T s s' B (T.vl x).toNat (if w < 1 then 1 else w) ∧ (CN s' ↔ CN s ∧ s 37 (T.vl x).toNat = 0) := by
  obtain ⟨_, _, c1, c2, _⟩ := c109 hT hc hx ht
  have hv := hT.2.2.2.2.1 x hx
  have hv2 := hT.2.2.2.2.2.1 x hx ht
  have hm := hT.2.2.2.2.2.2
  have key : ∀ s1 : Sg, (∀ c, c ≠ 30 → s1 c = s c) → (∀ j, j < 4 ∨ 7 < j → s1 30 j = s 30 j) → ∃ s' : Sg, j_155_27 (T.vl x) w s1 = some s' ∧ BDd T s s' B (T.vl x).toNat (if w < 1 then 1 else w) ∧ s' 30 = s1 30 := by
    intro s1 h1 h2
    have h7 : s1 31 7 = (T.m : Int) := by rw [h1 31 (by decide)]; exact hc.2.2.2.2.1
    have h8 : s1 31 8 = (B : Int) := by rw [h1 31 (by decide)]; exact hB
    have e : f_108 (T.vl x) w s1 = ax_u2 (ax_u2 (ax_u2 s1 37 (T.vl x).toNat (if w < 1 then 1 else w)) 38 B (T.vl x)) 31 8 ((B + 1 : Nat) : Int) := by
      unfold f_108
      rw [h7, h8, if_neg (by omega), if_neg (by omega), if_neg (by omega), Int.toNat_natCast, w32_nat (by omega)]
      have : f_292 1 w s1 = (if w < 1 then 1 else w) := by unfold f_292; split <;> split <;> omega
      rw [this]
    have g : g_108 (T.vl x) w s1 := ⟨fun _ => trivial, fun _ => ⟨fun _ => trivial, fun _ => ⟨fun _ => trivial, fun _ => ⟨⟨by omega, by omega⟩, ⟨by omega, by omega⟩, trivial⟩⟩⟩⟩
    unfold j_155_27
    rw [gd_pos g, e]
    refine ⟨_, rfl, ⟨by simp [ax_u2], ?_, by simp [ax_u2], ?_, ?_, ?_, ?_, ?_⟩, ?_⟩
    · rw [u2_row _ _ _ (by decide), u2_same]; omega
    · intro i hi
      rw [u2_row _ _ _ (by decide), u2_col _ _ _ hi, u2_row _ _ _ (by decide), h1 38 (by decide)]
    · intro i hi
      rw [u2_row _ _ _ (by decide), u2_row _ _ _ (by decide), u2_col _ _ _ hi, h1 37 (by decide)]
    · intro j hj
      rw [u2_col _ _ _ hj, u2_row _ _ _ (by decide), u2_row _ _ _ (by decide), h1 31 (by decide)]
    · intro c hc
      rw [u2_row _ _ _ (by omega), u2_row _ _ _ (by omega), u2_row _ _ _ (by omega), h1 c (by omega)]
    · intro j hj
      rw [u2_row _ _ _ (by decide), u2_row _ _ _ (by decide), u2_row _ _ _ (by decide), h2 j hj]
    · rw [u2_row _ _ _ (by decide), u2_row _ _ _ (by decide), u2_row _ _ _ (by decide)]
  unfold f_155
  rw [gd_pos c1, c2]
  by_cases d : s 37 (T.vl x).toNat = 0
  · rw [if_pos d]
    obtain ⟨s', k1, k2, k3⟩ := key s (fun _ _ => rfl) (fun _ _ => rfl)
    refine ⟨s', k1, k2, ?_⟩
    have : CN s' ↔ CN s := by unfold CN; rw [k3]
    rw [this]
    exact ⟨fun y => ⟨y, d⟩, fun y => y.1⟩
  · rw [if_neg d]
    have c8 := c80 hc hT (a := x) (by omega)
    obtain ⟨n1, n2, n3, n4⟩ := c71 (s := s) (x := 5) (p := T.fm x) (Or.inr (Or.inl rfl)) (hT.2.2.2.1 x (by omega))
    rw [gd_pos c8.2, c8.1, gd_pos n1, Option.bind_some]
    obtain ⟨s', k1, k2, k3⟩ := key (f_71 5 (T.fm x) s) n3 n4
    refine ⟨s', k1, k2, ?_⟩
    have : CN s' ↔ CN (f_71 5 (T.fm x) s) := by unfold CN; rw [k3]
    rw [this]
    exact ⟨fun y => absurd y n2, fun y => absurd y.2 d⟩
/-- names are released -/
theorem c102l {M : Nat} : ∀ (r : Nat) {s : Sg} {B : Nat} (F : Nat), B = M + r → B ≤ 4112 → s 31 8 = (B : Int) →
    ∃ s' : Sg, j_102_0 (F + r + 1) (M : Int) s = some s' ∧ s' 31 8 = (M : Int) ∧ (∀ j, j ≠ 8 → s' 31 j = s 31 j) ∧ (∀ c, c ≠ 31 → c ≠ 37 → s' c = s c) ∧ (∀ i, M ≤ i → i < B → 0 ≤ s 38 i → s 38 i < 4112 → s' 37 (s 38 i).toNat = 0) ∧ (∀ id : Nat, (∀ i, M ≤ i → i < B → s 38 i ≠ (id : Int)) → s' 37 id = s 37 id) ∧ (∀ id : Nat, s' 37 id = s 37 id ∨ s' 37 id = 0) := by
  intro r
  induction r with
  | zero =>
    intro s B F hB h8 h
    refine ⟨s, ?_, by rw [h, hB]; rfl, fun _ _ => rfl, fun _ _ _ => rfl, fun i x y => absurd y (by omega), fun _ _ => rfl, fun _ => Or.inl rfl⟩
    rw [j_102_0, if_pos (by omega)]
  | succ r ih =>
    intro s B F hB h8 h
    have hw : ax_w32 (s 31 8 - 1) = ((B - 1 : Nat) : Int) := by rw [h, w32_id (by omega) (by omega)]; omega
    have step : ∀ s1 : Sg, s1 31 8 = ((B - 1 : Nat) : Int) → (∀ j, j ≠ 8 → s1 31 j = s 31 j) → (∀ c, c ≠ 31 → c ≠ 37 → s1 c = s c) → (∀ id : Nat, s 38 (B - 1) ≠ (id : Int) → s1 37 id = s 37 id) → (0 ≤ s 38 (B - 1) → s 38 (B - 1) < 4112 → s1 37 (s 38 (B - 1)).toNat = 0) → (∀ id : Nat, s1 37 id = s 37 id ∨ s1 37 id = 0) →
        ∃ s' : Sg, j_102_0 (F + r + 1) (M : Int) s1 = some s' ∧ s' 31 8 = (M : Int) ∧ (∀ j, j ≠ 8 → s' 31 j = s 31 j) ∧ (∀ c, c ≠ 31 → c ≠ 37 → s' c = s c) ∧ (∀ i, M ≤ i → i < B → 0 ≤ s 38 i → s 38 i < 4112 → s' 37 (s 38 i).toNat = 0) ∧ (∀ id : Nat, (∀ i, M ≤ i → i < B → s 38 i ≠ (id : Int)) → s' 37 id = s 37 id) ∧ (∀ id : Nat, s' 37 id = s 37 id ∨ s' 37 id = 0) := by
      intro s1 k1 k2 k3 k4 k5 k6
      obtain ⟨s', z1, z2, z3, z4, z5, z6, z7⟩ := ih (s := s1) (B := B - 1) F (by omega) (by omega) k1
      have e38 : s1 38 = s 38 := k3 38 (by decide) (by decide)
      rw [e38] at z5 z6
      refine ⟨s', z1, z2, fun j x => (z3 j x).trans (k2 j x), fun c x y => (z4 c x y).trans (k3 c x y), ?_, ?_, ?_⟩
      · intro i x y u v
        by_cases e : i = B - 1
        · subst e
          rcases z7 (s 38 (B - 1)).toNat with w | w
          · rw [w]; exact k5 u v
          · exact w
        · exact z5 i x (by omega) u v
      · intro id x
        rw [z6 id (fun i y z => x i y (by omega))]
        exact k4 id (x (B - 1) (by omega) (by omega))
      · intro id
        rcases z7 id with w | w
        · rw [w]; exact k6 id
        · exact Or.inr w
    rw [show F + (r + 1) + 1 = F + r + 1 + 1 by omega, j_102_0, if_neg (by omega), if_neg (by omega), hw, gd_pos (by omega), Int.toNat_natCast]
    by_cases d1 : s 38 (B - 1) < 0
    · rw [if_pos d1]
      exact step _ (u2_same _ _ _ _) (fun j x => u2_col _ _ _ x) (fun c x y => u2_row _ _ _ x) (fun id _ => by rw [u2_row _ _ _ (by decide)]) (fun y => absurd d1 (by omega)) (fun id => Or.inl (by rw [u2_row _ _ _ (by decide)]))
    · rw [if_neg d1]
      by_cases d2 : 4112 ≤ s 38 (B - 1)
      · rw [if_pos d2]
        exact step _ (u2_same _ _ _ _) (fun j x => u2_col _ _ _ x) (fun c x y => u2_row _ _ _ x) (fun id _ => by rw [u2_row _ _ _ (by decide)]) (fun _ y => absurd d2 (by omega)) (fun id => Or.inl (by rw [u2_row _ _ _ (by decide)]))
      · rw [if_neg d2, gd_pos (by omega)]
        refine step _ (by rw [u2_row _ _ _ (by decide)]; exact u2_same _ _ _ _) (fun j x => by rw [u2_row _ _ _ (by decide)]; exact u2_col _ _ _ x) (fun c x y => by rw [u2_row _ _ _ y, u2_row _ _ _ x]) (fun id x => ?_) (fun _ _ => u2_same _ _ _ _) (fun id => ?_)
        · rw [u2_col _ _ _ (by omega), u2_row _ _ _ (by decide)]
        · by_cases e : id = (s 38 (B - 1)).toNat
          · subst e; exact Or.inr (u2_same _ _ _ _)
          · left; rw [u2_col _ _ _ e, u2_row _ _ _ (by decide)]
theorem c102 {M : Nat} (hM : M ≤ B) (hB8 : B ≤ 4112) (hB : s 31 8 = (B : Int)) :
    ∃ s' : Sg, f_102 (M : Int) s = some s' ∧ s' 31 8 = (M : Int) ∧ (∀ j, j ≠ 8 → s' 31 j = s 31 j) ∧ (∀ c, c ≠ 31 → c ≠ 37 → s' c = s c) ∧ (∀ i, M ≤ i → i < B → 0 ≤ s 38 i → s 38 i < 4112 → s' 37 (s 38 i).toNat = 0) ∧ (∀ id : Nat, (∀ i, M ≤ i → i < B → s 38 i ≠ (id : Int)) → s' 37 id = s 37 id) := by
  obtain ⟨F, hF⟩ := FU_split (k := (B - M) + 1) (by omega)
  obtain ⟨s', z1, z2, z3, z4, z5, z6, _⟩ := c102l (M := M) (B - M) (s := s) (B := B) F (by omega) hB8 hB
  refine ⟨s', ?_, z2, z3, z4, z5, z6⟩
  unfold f_102
  rw [hF, show F + (B - M + 1) = F + (B - M) + 1 by omega]
  exact z1
/-- the head of a statement -/
def HDd (s s' : Sg) (S a N id : Nat) (kd : Int) : Prop := s' 54 6 = ((S + 1 : Nat) : Int) ∧ s' 55 S = kd ∧ s' 56 S = (a : Int) ∧ s' 57 S = 0 ∧ s' 58 S = 0 ∧ s' 59 S = 0 ∧ s' 60 S = (N : Int) ∧ s' 36 id = (S : Int) ∧ (∀ i, i ≠ id → s' 36 i = s 36 i) ∧ (∀ c i, 55 ≤ c → c ≤ 60 → i ≠ S → s' c i = s c i) ∧ (∀ j, j ≠ 6 → s' 54 j = s 54 j) ∧ (∀ c, ¬ (c = 30 ∨ c = 36 ∨ c = 39 ∨ 54 ≤ c ∧ c ≤ 60) → s' c = s c) ∧ (∀ j, j ≠ 10 → j ≠ 11 → s' 39 j = s 39 j) ∧ (∀ j, j < 4 ∨ 7 < j → s' 30 j = s 30 j)
theorem c156 {kd : Int} (hT : TWF T) (hc : CC T s) (hu : CU T s a) (h0 : T.tk a ≠ 0) (h1 : T.tk (a + 1) = 1) (hS : s 54 6 = (S : Int)) (hS8 : S < 1171) (hN : s 46 7 = (N : Int)) :
    ∃ s' : Sg, f_156 kd s = some (.inl s') ∧ CU T s' (a + 2) ∧ HDd s s' S (a + 1) N (T.vl (a + 1)).toNat kd ∧ (CN s' ↔ CN s ∧ s 36 (T.vl (a + 1)).toNat = -1) := by
  have hz := hT.lt hu.2.2 h0
  have hz1 := hT.lt (show a + 1 ≤ T.z by omega) (by rw [h1]; decide)
  have cc1 := cur_cc (a := a + 1) hc
  have cu1 : CU T (cur T s (a + 1)) (a + 1) := cur_cu (by omega)
  have cc2 := cur_cc (a := a + 2) cc1
  have cu2 : CU T (cur T (cur T s (a + 1)) (a + 2)) (a + 2) := cur_cu (by omega)
  obtain ⟨c1, c2, _⟩ := c109 hT cc2 hz1 h1
  have r36 : (cur T (cur T s (a + 1)) (a + 2)) 36 = s 36 := by rw [cur_row (by decide), cur_row (by decide)]
  have fin : ∀ s1 : Sg, (∀ c, c ≠ 30 → s1 c = (cur T (cur T s (a + 1)) (a + 2)) c) → (∀ j, j < 4 ∨ 7 < j → s1 30 j = s 30 j) → ∃ s' : Sg, j_156_51 kd ((a + 1 : Nat) : Int) (T.vl (a + 1)) s1 = some (.inl s') ∧ CU T s' (a + 2) ∧ HDd s s' S (a + 1) N (T.vl (a + 1)).toNat kd ∧ s' 30 = s1 30 := by
    intro s1 k1 k2
    have k54 : s1 54 6 = (S : Int) := by rw [k1 54 (by decide), cur_row (by decide), cur_row (by decide)]; exact hS
    have k46 : s1 46 7 = (N : Int) := by rw [k1 46 (by decide), cur_row (by decide), cur_row (by decide)]; exact hN
    have e : f_191 kd ((a + 1 : Nat) : Int) (s1 46 7) s1 = ((S : Int), (ax_u2 (ax_u2 (ax_u2 (ax_u2 (ax_u2 (ax_u2 (ax_u2 s1 55 S kd) 56 S ((a + 1 : Nat) : Int)) 57 S 0) 58 S 0) 59 S 0) 60 S (N : Int)) 54 6 ((S + 1 : Nat) : Int))) := by
      unfold f_191
      rw [k54, k46, if_pos (by omega), w32_nat (by omega), w32_id (by omega) (by omega), Int.toNat_natCast, show ((S + 1 : Nat) : Int) - 1 = (S : Int) by omega]
    have g : g_191 kd ((a + 1 : Nat) : Int) (s1 46 7) s1 := by
      unfold g_191
      rw [k54]
      have : 0 ≤ (S : Int) ∧ (S : Int) < 1171 := by omega
      exact ⟨fun _ => ⟨this, this, this, this, this, this, trivial⟩, fun _ => trivial⟩
    obtain ⟨s2, hs2⟩ : ∃ s2 : Sg, s2 = (ax_u2 (ax_u2 (ax_u2 (ax_u2 (ax_u2 (ax_u2 (ax_u2 s1 55 S kd) 56 S ((a + 1 : Nat) : Int)) 57 S 0) 58 S 0) 59 S 0) 60 S (N : Int)) 54 6 ((S + 1 : Nat) : Int)) := ⟨_, rfl⟩
    have r2 : ∀ c, ¬ (54 ≤ c ∧ c ≤ 60) → s2 c = s1 c := fun c x => by rw [hs2, u2_row _ _ _ (by omega), u2_row _ _ _ (by omega), u2_row _ _ _ (by omega), u2_row _ _ _ (by omega), u2_row _ _ _ (by omega), u2_row _ _ _ (by omega), u2_row _ _ _ (by omega)]
    have cc3 : CC T s2 := cc2.row (by rw [r2 39 (by omega), k1 39 (by decide)]) (by rw [r2 41 (by omega), k1 41 (by decide)]) (by rw [r2 42 (by omega), k1 42 (by decide)]) (by rw [r2 44 (by omega), k1 44 (by decide)]) (by rw [r2 31 (by omega), k1 31 (by decide)]) (by rw [r2 1 (by omega), k1 1 (by decide)])
    obtain ⟨_, _, _, _, d5⟩ := c109 hT cc3 hz1 h1
    obtain ⟨d1, d2⟩ := d5 (S : Int)
    unfold j_156_51
    rw [gd_pos g, e, ← hs2, Option.bind_some]
    dsimp only
    rw [gd_pos d1, d2, Option.bind_some]
    have r3 : ∀ c, c ≠ 30 → c ≠ 36 → c ≠ 39 → ¬ (54 ≤ c ∧ c ≤ 60) → (ax_u2 s2 36 (T.vl (a + 1)).toNat (S : Int)) c = s c := fun c x y z w => by rw [u2_row _ _ _ y, r2 c w, k1 c x, cur_row z, cur_row z]
    refine ⟨_, rfl, ?_, ⟨?_, ?_, ?_, ?_, ?_, ?_, ?_, u2_same _ _ _ _, ?_, ?_, ?_, ?_, ?_, ?_⟩, ?_⟩
    · unfold CU at *
      rw [u2_row _ _ _ (by decide), r2 39 (by omega), k1 39 (by decide)]
      exact cu2
    · rw [u2_row _ _ _ (by decide), hs2]; simp [ax_u2]
    · rw [u2_row _ _ _ (by decide), hs2]; simp [ax_u2]
    · rw [u2_row _ _ _ (by decide), hs2]; simp [ax_u2]
    · rw [u2_row _ _ _ (by decide), hs2]; simp [ax_u2]
    · rw [u2_row _ _ _ (by decide), hs2]; simp [ax_u2]
    · rw [u2_row _ _ _ (by decide), hs2]; simp [ax_u2]
    · rw [u2_row _ _ _ (by decide), hs2]; simp [ax_u2]
    · intro i hi
      rw [u2_col _ _ _ hi, r2 36 (by omega), k1 36 (by decide), r36]
    · intro c i x y z
      rw [u2_row _ _ _ (by omega), hs2]
      simp [ax_u2, z, show c ≠ 54 by omega]
      rw [k1 c (by omega), cur_row (by omega), cur_row (by omega)]
    · intro j hj
      rw [u2_row _ _ _ (by decide), hs2]
      simp [ax_u2, hj]
      rw [k1 54 (by decide), cur_row (by decide), cur_row (by decide)]
    · intro c x
      exact r3 c (by omega) (by omega) (by omega) (by omega)
    · intro j x y
      rw [u2_row _ _ _ (by decide), r2 39 (by omega), k1 39 (by decide), cur_col x y, cur_col x y]
    · intro j x
      rw [u2_row _ _ _ (by decide), r2 30 (by omega)]
      exact k2 j x
    · rw [u2_row _ _ _ (by decide), r2 30 (by omega)]
  unfold f_156
  rw [nxt hT hc hu h0, c96y hT cc1 cu1 h1]
  show ∃ s' : Sg, gd (g_109 (T.vl (a + 1)) (cur T (cur T s (a + 1)) (a + 2))) _ = _ ∧ _
  rw [gd_pos c1, c2, r36, cu1.1]
  have n30 : ∀ j, (cur T (cur T s (a + 1)) (a + 2)) 30 j = s 30 j := fun j => by rw [cur_row (by decide), cur_row (by decide)]
  by_cases d : s 36 (T.vl (a + 1)).toNat = -1
  · rw [if_pos d]
    obtain ⟨s', z1, z2, z3, z4⟩ := fin (cur T (cur T s (a + 1)) (a + 2)) (fun _ _ => rfl) (fun j _ => n30 j)
    refine ⟨s', z1, z2, z3, ?_⟩
    have : CN s' ↔ CN s := by unfold CN; rw [z4, n30, n30, n30, n30]
    rw [this]
    exact ⟨fun y => ⟨y, d⟩, fun y => y.1⟩
  · rw [if_neg d]
    have c8 := c80 cc2 hT (a := a + 1) (by omega)
    obtain ⟨n1, n2, n3, n4⟩ := c71 (s := cur T (cur T s (a + 1)) (a + 2)) (x := 5) (p := T.fm (a + 1)) (Or.inr (Or.inl rfl)) (hT.2.2.2.1 (a + 1) (by omega))
    rw [gd_pos c8.2, c8.1, gd_pos n1, Option.bind_some]
    obtain ⟨s', z1, z2, z3, z4⟩ := fin _ n3 (fun j x => by rw [n4 j x]; exact n30 j)
    refine ⟨s', z1, z2, z3, ?_⟩
    have : CN s' ↔ CN (f_71 5 (T.fm (a + 1)) (cur T (cur T s (a + 1)) (a + 2))) := by unfold CN; rw [z4]
    rw [this]
    exact ⟨fun y => absurd y n2, fun y => absurd y.2 d⟩
theorem c156n {kd : Int} (hT : TWF T) (hc : CC T s) (hu : CU T s a) (h0 : T.tk a ≠ 0) (h1 : T.tk (a + 1) ≠ 1) : f_156 kd s = some (.inr (15, cur T s (a + 1))) := by
  have hz := hT.lt hu.2.2 h0
  have cu1 : CU T (cur T s (a + 1)) (a + 1) := cur_cu (by omega)
  unfold f_156
  rw [nxt hT hc hu h0, c96n cu1 h1]
  rfl
/-- the last statement grows -/
theorem c181 (hS : s 54 6 = ((S + 1 : Nat) : Int)) (hS8 : S < 1171) (x : Int) : (g_189 x s ∧ f_189 x s = ax_u2 s 58 S (ax_w32 (s 58 S + x))) ∧ (g_190 x s ∧ f_190 x s = ax_u2 s 57 S (ax_w32 (s 57 S + x))) ∧ (g_188 s ∧ f_188 s = ax_u2 s 59 S (ax_w32 (s 59 S + 1))) := by
  have hw : ax_w32 (s 54 6 - 1) = (S : Int) := by rw [hS, w32_id (by omega) (by omega)]; omega
  have e : f_181 (S : Int) s = 1 := by unfold f_181; rw [hS, if_neg (by omega), if_neg (by omega)]
  have g : 0 ≤ (S : Int) ∧ (S : Int) < 1171 := by omega
  unfold g_189 f_189 g_190 f_190 g_188 f_188
  rw [hw, e, if_neg (by decide), if_neg (by decide), if_neg (by decide), Int.toNat_natCast]
  exact ⟨⟨⟨fun _ => trivial, fun _ => ⟨g, g, trivial⟩⟩, rfl⟩, ⟨⟨fun _ => trivial, fun _ => ⟨g, g, trivial⟩⟩, rfl⟩, ⟨⟨fun _ => trivial, fun _ => ⟨g, g, trivial⟩⟩, rfl⟩⟩
/-- a claim -/
theorem c42 (hC : s 61 4 = (C : Int)) (hC8 : C < 2049) (x y z w : Int) : g_42 x y z w s ∧ f_42 x y z w s = ax_u2 (ax_u2 (ax_u2 (ax_u2 (ax_u2 s 62 C x) 63 C y) 64 C z) 65 C w) 61 4 ((C + 1 : Nat) : Int) := by
  have g : 0 ≤ (C : Int) ∧ (C : Int) < 2049 := by omega
  unfold g_42 f_42
  rw [hC]
  refine ⟨⟨fun _ => trivial, fun _ => ⟨g, g, g, g, trivial⟩⟩, ?_⟩
  rw [if_neg (by omega), Int.toNat_natCast, w32_nat (by omega)]
/-- a body is opened -/
theorem c154y {w m : Int} (hT : TWF T) (hc : CC T s) (hu : CU T s a) (h : T.tk a = 123) (hb : s 70 9 = (b : Int)) (hb8 : b < 80) : f_154 w m s = some (.inl (ax_u2 (ax_u2 (ax_u2 (cur T s (a + 1)) 71 b w) 72 b m) 70 9 ((b + 1 : Nat) : Int))) := by
  unfold f_154
  have : (cur T s (a + 1)) 70 9 = (b : Int) := by rw [cur_row (by decide)]; exact hb
  rw [if_pos (by omega), c92y hT hc hu h (by decide)]
  show gd (0 ≤ (cur T s (a + 1)) 70 9 ∧ (cur T s (a + 1)) 70 9 < 80) _ = _
  rw [this, gd_pos (by omega), gd_pos (by omega), Int.toNat_natCast, w32_nat (by omega)]
theorem c154n {w m : Int} (hu : CU T s a) (hb : s 70 9 = (b : Int)) (h : T.tk a ≠ 123 ∨ 80 ≤ b) : ∃ x : Nat, (x = 14 ∨ x = 15) ∧ f_154 w m s = some (.inr (x, s)) := by
  unfold f_154
  by_cases d : s 70 9 < 80
  · rw [if_pos d, c92n hu (by rcases h with y | y; exact y; omega)]
    exact ⟨15, Or.inr rfl, rfl⟩
  · rw [if_neg d]
    exact ⟨14, Or.inl rfl, rfl⟩
end CST
/-! READING: what both sides hold between two statements or actions. -/
/-- places: lexemes take room -/
def POS (T : TT) : Prop := (∀ k, k < T.z → T.fm k + 1 ≤ T.fm (k + 1)) ∧ (∀ k, k + 1 < T.z → 17 ≤ T.tk k → T.tk k ≤ 20 → T.tk (k + 1) = 1 → T.fm k + 4 ≤ T.fm (k + 1)) ∧ (∀ k, k < T.z → T.tk k = 21 → T.fm k + 2 ≤ T.fm (k + 1)) ∧ T.fm T.z ≤ 8192
/-- neighbours -/
def psl : List (Int × Int) := [(16, 2), (93, 2), (1, 2), (41, 2), (2, 61), (1, 1), (2, 2), (2, 1), (22, 123), (23, 1), (24, 2), (1, 61), (93, 61)]
def PRQ (p q : Int) : Prop := PRX p q ∨ (p ∈ opB ∧ (q = 59 ∨ q = 123)) ∨ (p, q) ∈ psl ∨ ((p = 59 ∨ p = 125) ∧ 17 ≤ q ∧ q ≤ 20) ∨ (17 ≤ p ∧ p ≤ 20 ∧ q = 1) ∨ ((p = 123 ∨ p = 59 ∨ p = 125) ∧ (q = 1 ∨ q = 21 ∨ q = 23 ∨ q = 24 ∨ q = 125)) ∨ (p = 125 ∧ q = 22)
/-- how many bodies are open before a lexeme -/
def dpt (T : TT) : Nat → Int
  | 0 => 0
  | k + 1 => dpt T k + (if T.tk k = 123 then 1 else if T.tk k = 125 then -1 else 0)
/-- statements begin where they should -/
def STT (T : TT) (k : Nat) : Prop := (17 ≤ T.tk k ∧ T.tk k ≤ 20) ↔ (1 ≤ k ∧ (T.tk (k - 1) = 59 ∨ T.tk (k - 1) = 125) ∧ dpt T k = 0)
def SKW (T : TT) (sc sm : Sg) (i : Nat) : Prop := ∃ w : Nat, sm 97 i = (w : Int) ∧ w < T.z ∧ T.tk w = 2 ∧ sc 57 i = mn (T.vl w)
def SKC (T : TT) (sc sm : Sg) (i : Nat) : Prop := ∃ c : Nat, sm 96 i = (c : Int) ∧ c < T.z ∧ T.tk c = 2 ∧ sc 58 i = mn (T.vl c)
/-- the calls of a helper -/
def CSG (T : TT) (sm : Sg) (i l0 l1 n0 n1 : Nat) : Prop :=
  (∀ m, n0 ≤ m → m < n1 → sm 123 m = (i : Int)) ∧ (∀ m, n0 ≤ m → m < n1 → sm 116 m = 3 → ∃ k : Nat, l0 ≤ k ∧ k < l1 ∧ sm 118 m = (k : Int) ∧ T.tk k = 1 ∧ T.tk (k + 1) = 40) ∧ (∀ k, l0 ≤ k → k < l1 → T.tk k = 1 → T.tk (k + 1) = 40 → ∃ m, n0 ≤ m ∧ m < n1 ∧ sm 116 m = 3 ∧ sm 118 m = (k : Int)) ∧ (∀ m m', n0 ≤ m → m < n1 → n0 ≤ m' → m' < n1 → sm 116 m = 3 → sm 116 m' = 3 → sm 118 m = sm 118 m' → m = m') ∧ 3 * lcT T l0 (l1 - l0) ≤ l1 - l0
def DEFX (T : TT) (sc sm : Sg) (N i h p0 pc : Nat) : Prop := ∃ st e n0 n1 : Nat, sm 100 i = (n1 : Int) - 1 ∧ n0 < n1 ∧ n1 ≤ N ∧ sc 60 i = (n0 : Int) ∧ sm 101 i = (st : Int) ∧ h < st ∧ st < e ∧ e < T.z ∧ T.tk e = 59 ∧ (∀ k, h ≤ k → k < e → T.tk k ≠ 59) ∧ (∀ k, h < k → k < st → ¬ (T.tk k = 1 ∧ T.tk (k + 1) = 40)) ∧ CSG T sm i st e n0 n1 ∧ (∀ j, j < pc → sm 104 (p0 + j) = ((h + 2 + 3 * j : Nat) : Int) ∧ sm 105 (p0 + j) = ((h + 3 + 3 * j : Nat) : Int) ∧ h + 3 + 3 * j < T.z ∧ T.tk (h + 2 + 3 * j) = 1 ∧ T.tk (h + 3 + 3 * j) = 2)
/-- the bits of an instruction's parts -/
def bsm (T : TT) (sc sm : Sg) (p0 : Nat) : Nat → Int
  | 0 => 0
  | j + 1 => ax_w32 (bsm T sc sm p0 j + (if sm 104 (p0 + j) < 0 then sc 43 (sm 105 (p0 + j)).toNat else mn (T.vl (sm 105 (p0 + j)).toNat)))
def INSX (T : TT) (sc sm : Sg) (i h p0 pc : Nat) : Prop := (∃ f : Nat → Nat, f 0 = h + 1 ∧ f pc < T.z ∧ T.tk (f pc) = 123 ∧ ∀ j, j < pc → (T.tk (f j) = 2 ∧ sm 104 (p0 + j) = -1 ∧ sm 105 (p0 + j) = (f j : Int) ∧ f (j + 1) = f j + 1) ∨ (T.tk (f j) = 1 ∧ T.tk (f j + 1) = 58 ∧ T.tk (f j + 2) = 2 ∧ sm 104 (p0 + j) = (f j : Int) ∧ sm 105 (p0 + j) = ((f j + 2 : Nat) : Int) ∧ f (j + 1) = f j + 3)) ∧ sc 57 i = bsm T sc sm p0 pc
/-- a statement is alike -/
def SRL (T : TT) (sc sm : Sg) (P N i : Nat) : Prop := ∃ h p0 pc n0 : Nat, sc 56 i = (h : Int) ∧ sm 95 i = (h : Int) ∧ h < T.z ∧ T.tk h = 1 ∧ sc 55 i = sm 94 i ∧ sm 98 i = (p0 : Int) ∧ sm 99 i = (pc : Int) ∧ p0 + pc ≤ P ∧ sc 60 i = (n0 : Int) ∧ n0 ≤ N ∧
  ((sm 94 i = 0 ∧ pc = 0 ∧ SKW T sc sm i ∧ ((sm 96 i = -1 ∧ sc 58 i = 0) ∨ SKC T sc sm i)) ∨ (sm 94 i = 1 ∧ pc = 0 ∧ SKW T sc sm i ∧ SKC T sc sm i) ∨ (sm 94 i = 2 ∧ sc 58 i = (pc : Int) ∧ SKW T sc sm i ∧ DEFX T sc sm N i h p0 pc) ∨ (sm 94 i = 3 ∧ sc 58 i = (pc : Int) ∧ INSX T sc sm i h p0 pc))
/-- an action -/
def ARL (T : TT) (sm : Sg) (S N a : Nat) : Prop := ∃ s : Nat, sm 112 a = (s : Int) ∧ s < S ∧ sm 94 s = 3 ∧ -1 ≤ sm 113 a ∧ sm 113 a < (a : Int) ∧ (0 ≤ sm 113 a → sm 106 (sm 113 a).toNat = 2) ∧
  ((sm 106 a = 0 ∧ (∃ x : Nat, sm 107 a = (x : Int) ∧ x < T.z ∧ T.tk x = 1) ∧ (sm 109 a = -1 ∨ ∃ n : Nat, sm 109 a = (n : Int) ∧ n < N) ∧ (∃ n : Nat, sm 110 a = (n : Int) ∧ n < N)) ∨
   (sm 106 a = 1 ∧ (∃ n : Nat, sm 110 a = (n : Int) ∧ n < N) ∧ (∃ x : Nat, sm 111 a = (x : Int) ∧ x < T.z)) ∨
   (sm 106 a = 2 ∧ (∃ x : Nat, sm 107 a = (x : Int) ∧ x < T.z ∧ T.tk x = 1) ∧ (∃ x : Nat, sm 108 a = (x : Int) ∧ x < T.z ∧ T.tk x = 2)) ∨
   (sm 106 a = 3 ∧ (∃ x : Nat, sm 108 a = (x : Int) ∧ x < T.z ∧ T.tk x = 2)))
/-- what claims there are -/
def CLc (sc sm : Sg) (S A c : Nat) : Prop := (∃ a, a < A ∧ sm 106 a = 0 ∧ sc 62 c = sm 107 a ∧ sc 63 c = sm 109 a ∧ sc 64 c = sm 110 a ∧ sc 65 c = 0) ∨ (∃ a, a < A ∧ sm 106 a = 1 ∧ sc 62 c = sm 111 a ∧ sc 63 c = -1 ∧ sc 64 c = sm 110 a ∧ sc 65 c = 1) ∨ (∃ s, s < S ∧ sm 94 s = 2 ∧ sc 62 c = sm 101 s ∧ sc 63 c = -1 ∧ sc 64 c = sm 100 s ∧ sc 65 c = (if sc 57 s < 1 then 1 else sc 57 s))
def CLA (sc sm : Sg) (S A C : Nat) : Prop := (∀ c, c < C → CLc sc sm S A c) ∧ (CN sc → ∀ a, a < A → sm 106 a = 0 → ∃ c, c < C ∧ sc 62 c = sm 107 a ∧ sc 63 c = sm 109 a ∧ sc 64 c = sm 110 a ∧ sc 65 c = 0) ∧ (∀ a, a < A → sm 106 a = 1 → ∃ c, c < C ∧ sc 62 c = sm 111 a ∧ sc 63 c = -1 ∧ sc 64 c = sm 110 a ∧ sc 65 c = 1) ∧ (∀ s, s < S → sm 94 s = 2 → ∃ c, c < C ∧ sc 62 c = sm 101 s ∧ sc 63 c = -1 ∧ sc 64 c = sm 100 s ∧ sc 65 c = (if sc 57 s < 1 then 1 else sc 57 s))
/-- whose a node is, and what hides its name -/
def NOW (sc sm : Sg) (S A n : Nat) : Prop := ∃ s : Nat, sm 123 n = (s : Int) ∧ s < S ∧ -1 ≤ sm 124 n ∧ sm 124 n < (A : Int) ∧ (0 ≤ sm 124 n → sm 106 (sm 124 n).toNat = 2) ∧ sc 60 s ≤ (n : Int) ∧ (∀ s', s < s' → s' < S → (n : Int) < sc 60 s')
/-- every part is a statement's; a helper's nodes end at its own -/
def PHX (sc sm : Sg) (S P N : Nat) : Prop := (∀ p, p < P → ∃ i, i < S ∧ (sm 98 i).toNat ≤ p ∧ p < (sm 98 i).toNat + (sm 99 i).toNat) ∧ (∀ i, i < S → sm 94 i = 2 → (i + 1 < S → sc 60 (i + 1) = sm 100 i + 1) ∧ (i + 1 = S → sm 100 i + 1 = (N : Int)))
def PHE (sc sm : Sg) (S S' P P' N N' : Nat) : Prop := S' ≤ S + 1 ∧ (∀ i, S ≤ i → i < S' → sc 60 i = (N : Int)) ∧ (∀ p, P ≤ p → p < P' → ∃ i, i < S' ∧ (sm 98 i).toNat ≤ p ∧ p < (sm 98 i).toNat + (sm 99 i).toNat) ∧ (∀ i, S ≤ i → i < S' → sm 94 i = 2 → sm 100 i + 1 = (N' : Int)) ∧ (S' = S → N < N' → ∀ i, i + 1 = S → sm 94 i ≠ 2)
/-- where a helper ends; it does before what follows begins -/
def EOH (T : TT) (h e : Nat) : Prop := h ≤ e ∧ T.tk e = 59 ∧ ∀ k, h ≤ k → k < e → T.tk k ≠ 59
def LOR (T : TT) (sm : Sg) (S : Nat) : Prop := ∀ i, i < S → sm 94 i = 2 → ∀ e : Nat, EOH T (sm 95 i).toNat e → (e : Int) < sm 84 18 ∧ ∀ j, i < j → j < S → (e : Int) < sm 95 j
def LOE (T : TT) (sm sm' : Sg) (S S' : Nat) : Prop := (∀ i, S ≤ i → i < S' → sm 84 18 ≤ sm' 95 i) ∧ (∀ i, S ≤ i → i < S' → sm' 94 i = 2 → ∀ e : Nat, EOH T (sm' 95 i).toNat e → (e : Int) < sm' 84 18)
theorem LOE.same (T : TT) (sm sm' : Sg) (S : Nat) : LOE T sm sm' S S := ⟨fun _ x y => absurd y (by omega), fun _ x y => absurd y (by omega)⟩
/-- the calls' lexemes -/
def CLX (sm : Sg) (N : Nat) : Prop := (∀ n, n < N → sm 116 n = 3 → sm 118 n < sm 84 18) ∧ (∀ n m, n < N → m < N → sm 116 n = 3 → sm 116 m = 3 → sm 118 n = sm 118 m → n = m)
def CLE (sm sm' : Sg) (N N' : Nat) : Prop := sm 84 18 ≤ sm' 84 18 ∧ (∀ n, N ≤ n → n < N' → sm' 116 n = 3 → sm 84 18 ≤ sm' 118 n ∧ sm' 118 n < sm' 84 18) ∧ (∀ n m, N ≤ n → n < N' → N ≤ m → m < N' → sm' 116 n = 3 → sm' 116 m = 3 → sm' 118 n = sm' 118 m → n = m)
theorem CLE.same {sm sm' : Sg} (N : Nat) (h : sm 84 18 ≤ sm' 84 18) : CLE sm sm' N N := ⟨h, fun _ x y => absurd y (by omega), fun _ _ x y => absurd y (by omega)⟩
theorem PHE.same (sc sm : Sg) (S P N : Nat) : PHE sc sm S S P P N N := ⟨by omega, fun _ x y => absurd y (by omega), fun _ x y => absurd y (by omega), fun _ x y => absurd y (by omega), fun _ x => absurd x (by omega)⟩
def NEV (T : TT) (sc sm : Sg) (n : Nat) : Prop := 1 ≤ sm 116 n → sm 116 n ≤ 3 → (sc 48 n ≠ 0 ↔ OWN T sm (sm 123 n).toNat (sm 124 n) (T.vl (sm 118 n).toNat)) ∧ (sc 48 n ≠ 0 → OWW T sm (sm 123 n).toNat (sm 124 n) (T.vl (sm 118 n).toNat) (sc 48 n))
/-- the statement that has a name -/
def OWR (T : TT) (sc sm : Sg) (S : Nat) : Prop := ∀ id : Nat, IDN T id → (sc 36 id = -1 ∧ ∀ i, i < S → T.vl (sm 95 i).toNat ≠ (id : Int)) ∨ (∃ i : Nat, i < S ∧ sc 36 id = (i : Int) ∧ T.vl (sm 95 i).toNat = (id : Int))
/-- nothing wrong so far -/
def BIN (s : Sg) (k : Nat) : Prop := ∀ e : Nat, (e : Int) < s 43 k → (s 40 ((s 42 k).toNat + e) % 256 = 48 ∨ s 40 ((s 42 k).toNat + e) % 256 = 49)
def pw2 (v : Int) : Prop := v = 2 ∨ v = 4 ∨ v = 8 ∨ v = 16 ∨ v = 32 ∨ v = 64
def GPT (T : TT) (sc sm : Sg) (p0 pc : Nat) : Prop := ∀ p, p0 ≤ p → p < p0 + pc → (0 ≤ sm 104 p → 1 ≤ T.vl (sm 105 p).toNat ∧ T.vl (sm 105 p).toNat ≤ 32) ∧ (sm 104 p < 0 → BIN sc (sm 105 p).toNat) ∧ (∀ q, p0 ≤ q → q < p → 0 ≤ sm 104 p → 0 ≤ sm 104 q → T.vl (sm 104 p).toNat ≠ T.vl (sm 104 q).toNat)
def GST (T : TT) (sc sm : Sg) (i : Nat) : Prop := (sm 94 i < 3 → 1 ≤ T.vl (sm 97 i).toNat ∧ T.vl (sm 97 i).toNat ≤ 32) ∧ (sm 94 i = 1 → 1 ≤ T.vl (sm 96 i).toNat ∧ T.vl (sm 96 i).toNat ≤ 20) ∧ (sm 94 i = 0 → 0 ≤ sm 96 i → pw2 (T.vl (sm 96 i).toNat)) ∧ (∀ j, j < i → T.vl (sm 95 j).toNat ≠ T.vl (sm 95 i).toNat) ∧ GPT T sc sm (sm 98 i).toNat (sm 99 i).toNat
def GAC (T : TT) (sm : Sg) (a : Nat) : Prop := (sm 106 a = 2 → 1 ≤ T.vl (sm 108 a).toNat ∧ T.vl (sm 108 a).toNat ≤ 255 ∧ ¬ OWN T sm (sm 112 a).toNat (sm 113 a) (T.vl (sm 107 a).toNat)) ∧ (sm 106 a = 3 → T.vl (sm 108 a).toNat ≤ 255) ∧ (sm 106 a = 0 → ¬ OWN T sm (sm 112 a).toNat (sm 113 a) (T.vl (sm 107 a).toNat))
def GNO (T : TT) (sm : Sg) (n : Nat) : Prop :=
  (sm 116 n = 0 → 1 ≤ T.vl (sm 119 n).toNat ∧ T.vl (sm 119 n).toNat ≤ 32 ∧ T.vl (sm 118 n).toNat < 2 ^ (T.vl (sm 119 n).toNat).toNat) ∧
  (sm 116 n = 4 ∨ sm 116 n = 5 → 1 ≤ T.vl (sm 119 n).toNat ∧ T.vl (sm 119 n).toNat ≤ 32) ∧
  (sm 116 n = 7 → T.vl (sm 118 n).toNat ≤ 31 ∧ T.vl (sm 119 n).toNat ≤ 31 ∧ T.vl (sm 119 n).toNat ≤ T.vl (sm 118 n).toNat) ∧
  (sm 116 n = 2 ∨ sm 116 n = 3 → ¬ OWN T sm (sm 123 n).toNat (sm 124 n) (T.vl (sm 118 n).toNat))
def GOOD (T : TT) (sc sm : Sg) (S A N w : Nat) : Prop := (1 ≤ T.vl w ∧ T.vl w ≤ 64) ∧ (∀ i, i < S → GST T sc sm i) ∧ (∀ a, a < A → GAC T sm a) ∧ (∀ n, n < N → GNO T sm n)
/-- the data that have been read -/
def DAT (T : TT) (sc sm : Sg) (S P A N C w : Nat) : Prop := (∀ i, i < S → SRL T sc sm P N i) ∧ (∀ a, a < A → ARL T sm S N a) ∧ CLA sc sm S A C ∧ (∀ n, n < N → NOW sc sm S A n) ∧ (CN sc → ∀ n, n < N → NEV T sc sm n) ∧ OWR T sc sm S ∧ (CN sc ↔ GOOD T sc sm S A N w) ∧ PHX sc sm S P N ∧ CLX sm N ∧ LOR T sm S
/-- what is untouched below some bounds -/
def RXF (sc sm sc' sm' : Sg) (S P A N C : Nat) : Prop :=
  (∀ c i, 55 ≤ c → c ≤ 58 ∨ c = 60 → i < S → sc' c i = sc c i) ∧ (∀ c i, 94 ≤ c → c ≤ 101 → i < S → sm' c i = sm c i) ∧ (∀ c p, 104 ≤ c → c ≤ 105 → p < P → sm' c p = sm c p) ∧ (∀ c a, 106 ≤ c → c ≤ 113 → a < A → sm' c a = sm c a) ∧ (∀ c j, 62 ≤ c → c ≤ 65 → j < C → sc' c j = sc c j) ∧ (∀ n, n < N → sc' 48 n = sc 48 n) ∧ (∀ c n, 116 ≤ c → c ≤ 124 → n < N → sm' c n = sm c n) ∧ (∀ c, c = 40 ∨ c = 42 ∨ c = 43 → sc' c = sc c)
section RX
variable {T : TT} {sc sm sc' sm' sc2 sm2 : Sg} {S P A N C w : Nat}
theorem RXF.refl (sc sm : Sg) (S P A N C : Nat) : RXF sc sm sc sm S P A N C := ⟨fun _ _ _ _ _ => rfl, fun _ _ _ _ _ => rfl, fun _ _ _ _ _ => rfl, fun _ _ _ _ _ => rfl, fun _ _ _ _ _ => rfl, fun _ _ => rfl, fun _ _ _ _ _ => rfl, fun _ _ => rfl⟩
theorem RXF.trans {S' P' A' N' C' : Nat} (h : RXF sc sm sc' sm' S P A N C) (k : RXF sc' sm' sc2 sm2 S' P' A' N' C') (h1 : S ≤ S') (h2 : P ≤ P') (h3 : A ≤ A') (h4 : N ≤ N') (h5 : C ≤ C') : RXF sc sm sc2 sm2 S P A N C := by
  obtain ⟨a1, a2, a3, a4, a5, a6, a7, a8⟩ := h
  obtain ⟨b1, b2, b3, b4, b5, b6, b7, b8⟩ := k
  exact ⟨fun c i x y z => (b1 c i x y (by omega)).trans (a1 c i x y z), fun c i x y z => (b2 c i x y (by omega)).trans (a2 c i x y z), fun c i x y z => (b3 c i x y (by omega)).trans (a3 c i x y z), fun c i x y z => (b4 c i x y (by omega)).trans (a4 c i x y z), fun c i x y z => (b5 c i x y (by omega)).trans (a5 c i x y z), fun n z => (b6 n (by omega)).trans (a6 n z), fun c i x y z => (b7 c i x y (by omega)).trans (a7 c i x y z), fun c x => (b8 c x).trans (a8 c x)⟩
theorem bsm_congr {p0 : Nat} (h43 : sc' 43 = sc 43) : ∀ pc, (∀ c p, 104 ≤ c → c ≤ 105 → p < p0 + pc → sm' c p = sm c p) → bsm T sc' sm' p0 pc = bsm T sc sm p0 pc := by
  intro pc
  induction pc with
  | zero => intro _; rfl
  | succ j ih =>
    intro h
    simp only [bsm]
    rw [ih (fun c p x y z => h c p x y (by omega)), h 104 (p0 + j) (by decide) (by decide) (by omega), h 105 (p0 + j) (by decide) (by decide) (by omega), h43]
theorem SRL.xf {i P' N' : Nat} (h : SRL T sc sm P N i) (x : RXF sc sm sc' sm' S P A N C) (hi : i < S) (hP : P ≤ P') (hN : N ≤ N') : SRL T sc' sm' P' N' i := by
  obtain ⟨x1, x2, x3, x4, x5, x6, x7, x8⟩ := x
  obtain ⟨hd, p0, pc, n0, b1, b2, b3, b4, b5, b6, b7, b8, b9, b10, b11⟩ := h
  have e94 := x2 94 i (by decide) (by decide) hi
  have skw : SKW T sc sm i → SKW T sc' sm' i := fun ⟨w, a1, a2, a3, a4⟩ => ⟨w, by rw [x2 97 i (by decide) (by decide) hi]; exact a1, a2, a3, by rw [x1 57 i (by decide) (by decide) hi]; exact a4⟩
  have skc : SKC T sc sm i → SKC T sc' sm' i := fun ⟨w, a1, a2, a3, a4⟩ => ⟨w, by rw [x2 96 i (by decide) (by decide) hi]; exact a1, a2, a3, by rw [x1 58 i (by decide) (by decide) hi]; exact a4⟩
  refine ⟨hd, p0, pc, n0, by rw [x1 56 i (by decide) (by decide) hi]; exact b1, by rw [x2 95 i (by decide) (by decide) hi]; exact b2, b3, b4, by rw [x1 55 i (by decide) (by decide) hi, e94]; exact b5, by rw [x2 98 i (by decide) (by decide) hi]; exact b6, by rw [x2 99 i (by decide) (by decide) hi]; exact b7, by omega, by rw [x1 60 i (by decide) (by decide) hi]; exact b9, by omega, ?_⟩
  rw [e94]
  rcases b11 with ⟨c1, c2, c3, c4⟩ | ⟨c1, c2, c3, c4⟩ | ⟨c1, c2, c3, c4⟩ | ⟨c1, c2, ⟨f, c3, c4, c5, c6⟩, c7⟩
  · refine Or.inl ⟨c1, c2, skw c3, ?_⟩
    rcases c4 with c4 | c4
    · exact Or.inl ⟨by rw [x2 96 i (by decide) (by decide) hi]; exact c4.1, by rw [x1 58 i (by decide) (by decide) hi]; exact c4.2⟩
    · exact Or.inr (skc c4)
  · exact Or.inr (Or.inl ⟨c1, c2, skw c3, skc c4⟩)
  · refine Or.inr (Or.inr (Or.inl ⟨c1, by rw [x1 58 i (by decide) (by decide) hi]; exact c2, skw c3, ?_⟩))
    obtain ⟨st, e, m0, m1, d1, d2, d3, d4, d5, d6, d7, d8, d9, d10, d11, ⟨g1, g2, g3, g4, g5⟩, d13⟩ := c4
    refine ⟨st, e, m0, m1, by rw [x2 100 i (by decide) (by decide) hi]; exact d1, d2, by omega, by rw [x1 60 i (by decide) (by decide) hi]; exact d4, by rw [x2 101 i (by decide) (by decide) hi]; exact d5, d6, d7, d8, d9, d10, d11, ⟨?_, ?_, ?_, ?_, g5⟩, ?_⟩
    · intro m y z
      rw [x7 123 m (by decide) (by decide) (by omega)]
      exact g1 m y z
    · intro m y z
      rw [x7 116 m (by decide) (by decide) (by omega), x7 118 m (by decide) (by decide) (by omega)]
      exact g2 m y z
    · intro k y z u v
      obtain ⟨m, q1, q2, q3, q4⟩ := g3 k y z u v
      exact ⟨m, q1, q2, by rw [x7 116 m (by decide) (by decide) (by omega)]; exact q3, by rw [x7 118 m (by decide) (by decide) (by omega)]; exact q4⟩
    · intro m m' y z y' z'
      rw [x7 116 m (by decide) (by decide) (by omega), x7 118 m (by decide) (by decide) (by omega), x7 116 m' (by decide) (by decide) (by omega), x7 118 m' (by decide) (by decide) (by omega)]
      exact g4 m m' y z y' z'
    · intro j hj
      rw [x3 104 (p0 + j) (by decide) (by decide) (by omega), x3 105 (p0 + j) (by decide) (by decide) (by omega)]
      exact d13 j hj
  · refine Or.inr (Or.inr (Or.inr ⟨c1, by rw [x1 58 i (by decide) (by decide) hi]; exact c2, ⟨f, c3, c4, c5, fun j hj => ?_⟩, ?_⟩))
    · rw [x3 104 (p0 + j) (by decide) (by decide) (by omega), x3 105 (p0 + j) (by decide) (by decide) (by omega)]
      exact c6 j hj
    · rw [x1 57 i (by decide) (by decide) hi, c7]
      exact (bsm_congr (x8 43 (by decide)) pc (fun c p y z u => x3 c p y z (by omega))).symm
theorem ARL.xf {a S' N' : Nat} (h : ARL T sm S N a) (x : RXF sc sm sc' sm' S P A N C) (ha : a < A) (hS : S ≤ S') (hN : N ≤ N') : ARL T sm' S' N' a := by
  obtain ⟨x1, x2, x3, x4, x5, x6, x7, x8⟩ := x
  obtain ⟨s, b1, b2, b3, b4, b5, b6, b7⟩ := h
  have r : ∀ c, 106 ≤ c → c ≤ 113 → sm' c a = sm c a := fun c y z => x4 c a y z ha
  refine ⟨s, by rw [r 112 (by decide) (by decide)]; exact b1, by omega, by rw [x2 94 s (by decide) (by decide) b2]; exact b3, by rw [r 113 (by decide) (by decide)]; exact b4, by rw [r 113 (by decide) (by decide)]; exact b5, ?_, ?_⟩
  · rw [r 113 (by decide) (by decide)]
    intro y
    rw [x4 106 _ (by decide) (by decide) (by omega)]
    exact b6 y
  · rw [r 106 (by decide) (by decide), r 107 (by decide) (by decide), r 108 (by decide) (by decide), r 109 (by decide) (by decide), r 110 (by decide) (by decide), r 111 (by decide) (by decide)]
    rcases b7 with ⟨c1, c2, c3, n, c4, c5⟩ | ⟨c1, ⟨n, c2, c3⟩, c4⟩ | ⟨c1, c2, c3⟩ | ⟨c1, c2⟩
    · refine Or.inl ⟨c1, c2, ?_, n, c4, by omega⟩
      rcases c3 with c3 | ⟨m, c3, c6⟩
      · exact Or.inl c3
      · exact Or.inr ⟨m, c3, by omega⟩
    · exact Or.inr (Or.inl ⟨c1, ⟨n, c2, by omega⟩, c4⟩)
    · exact Or.inr (Or.inr (Or.inl ⟨c1, c2, c3⟩))
    · exact Or.inr (Or.inr (Or.inr ⟨c1, c2⟩))
end RX
/-! READING: what has been read stays; new things come. -/
section DT
variable {T : TT} {sc sm sc' sm' : Sg} {S P A N C w S' P' A' N' C' : Nat} {r id : Int}
theorem DAT.own (h : DAT T sc sm S P A N C w) (x : RXF sc sm sc' sm' S P A N C) {s : Nat} (hs : s < S) (hr : r < (A : Int)) : OWN T sm' s r id ↔ OWN T sm s r id := by
  obtain ⟨hd, p0, pc, n0, b1, b2, b3, b4, b5, b6, b7, b8, b9, b10, b11⟩ := h.1 s hs
  refine OWN.congr (P := P) (fun a ha => ?_) (fun c a y z u => x.2.2.2.1 c a y z u) (fun p hp => x.2.2.1 104 p (by decide) (by decide) hp) b6 b7 b8 (x.2.1 98 s (by decide) (by decide) hs) (x.2.1 99 s (by decide) (by decide) hs) hr
  obtain ⟨s, _, _, _, _, c5, _⟩ := h.2.1 a ha
  exact c5
theorem DAT.oww (h : DAT T sc sm S P A N C w) (x : RXF sc sm sc' sm' S P A N C) {s : Nat} (hs : s < S) (hr : r < (A : Int)) {v : Int} (y : OWW T sm s r id v) : OWW T sm' s r id v := by
  obtain ⟨hd, p0, pc, n0, b1, b2, b3, b4, b5, b6, b7, b8, b9, b10, b11⟩ := h.1 s hs
  unfold OWW at *
  rw [x.2.1 98 s (by decide) (by decide) hs, x.2.1 99 s (by decide) (by decide) hs, b6, b7, Int.toNat_natCast, Int.toNat_natCast]
  rw [b6, b7, Int.toNat_natCast, Int.toNat_natCast] at y
  rcases y with ⟨y1, y2⟩ | ⟨y0, p, y1, y2, y3, y4, y5⟩
  · refine Or.inl ⟨(rin_congr (fun a ha => ?_) (fun c a y z u => x.2.2.2.1 c a y z u) _ _ hr).mpr y1, y2⟩
    obtain ⟨s, _, _, _, _, c5, _⟩ := h.2.1 a ha
    exact c5
  · refine Or.inr ⟨fun z => y0 ((rin_congr (fun a ha => ?_) (fun c a y z u => x.2.2.2.1 c a y z u) _ _ hr).mp z), p, y1, y2, ?_, ?_, ?_⟩
    · obtain ⟨s, _, _, _, _, c5, _⟩ := h.2.1 a ha
      exact c5
    · rw [x.2.2.1 104 p (by decide) (by decide) (by omega)]; exact y3
    · rw [x.2.2.1 104 p (by decide) (by decide) (by omega)]; exact y4
    · rw [x.2.2.1 105 p (by decide) (by decide) (by omega)]; exact y5
theorem BIN.congr {k : Nat} (h : ∀ c, c = 40 ∨ c = 42 ∨ c = 43 → sc' c = sc c) : BIN sc' k ↔ BIN sc k := by
  unfold BIN
  rw [h 40 (by decide), h 42 (by decide), h 43 (by decide)]
theorem DAT.gst (h : DAT T sc sm S P A N C w) (x : RXF sc sm sc' sm' S P A N C) {i : Nat} (hi : i < S) : GST T sc' sm' i ↔ GST T sc sm i := by
  obtain ⟨hd, p0, pc, n0, b1, b2, b3, b4, b5, b6, b7, b8, b9, b10, b11⟩ := h.1 i hi
  obtain ⟨x1, x2, x3, x4, x5, x6, x7, x8⟩ := x
  have key : GPT T sc' sm' p0 pc ↔ GPT T sc sm p0 pc := by
    unfold GPT
    constructor
    · intro y p k1 k2
      have := y p k1 k2
      rw [x3 104 p (by decide) (by decide) (by omega), x3 105 p (by decide) (by decide) (by omega), BIN.congr x8] at this
      refine ⟨this.1, this.2.1, fun q q1 q2 => ?_⟩
      have := this.2.2 q q1 q2
      rw [x3 104 q (by decide) (by decide) (by omega)] at this
      exact this
    · intro y p k1 k2
      have := y p k1 k2
      rw [x3 104 p (by decide) (by decide) (by omega), x3 105 p (by decide) (by decide) (by omega), BIN.congr x8]
      refine ⟨this.1, this.2.1, fun q q1 q2 => ?_⟩
      rw [x3 104 q (by decide) (by decide) (by omega)]
      exact this.2.2 q q1 q2
  unfold GST
  rw [x2 94 i (by decide) (by decide) hi, x2 97 i (by decide) (by decide) hi, x2 96 i (by decide) (by decide) hi, x2 95 i (by decide) (by decide) hi, x2 98 i (by decide) (by decide) hi, x2 99 i (by decide) (by decide) hi, b6, b7, Int.toNat_natCast, Int.toNat_natCast, key]
  constructor
  · intro ⟨y1, y2, y3, y4, y5⟩
    exact ⟨y1, y2, y3, fun j hj => by have := y4 j hj; rw [x2 95 j (by decide) (by decide) (by omega)] at this; exact this, y5⟩
  · intro ⟨y1, y2, y3, y4, y5⟩
    exact ⟨y1, y2, y3, fun j hj => by rw [x2 95 j (by decide) (by decide) (by omega)]; exact y4 j hj, y5⟩
theorem DAT.gac (h : DAT T sc sm S P A N C w) (x : RXF sc sm sc' sm' S P A N C) {a : Nat} (ha : a < A) : GAC T sm' a ↔ GAC T sm a := by
  obtain ⟨s, b1, b2, b3, b4, b5, b6, b7⟩ := h.2.1 a ha
  have r : ∀ c, 106 ≤ c → c ≤ 113 → sm' c a = sm c a := fun c y z => x.2.2.2.1 c a y z ha
  unfold GAC
  rw [r 106 (by decide) (by decide), r 107 (by decide) (by decide), r 108 (by decide) (by decide), r 112 (by decide) (by decide), r 113 (by decide) (by decide), b1, Int.toNat_natCast, h.own x b2 (by omega)]
theorem DAT.gno (h : DAT T sc sm S P A N C w) (x : RXF sc sm sc' sm' S P A N C) {n : Nat} (hn : n < N) : GNO T sm' n ↔ GNO T sm n := by
  obtain ⟨s, b1, b2, b3, b4, -⟩ := h.2.2.2.1 n hn
  have r : ∀ c, 116 ≤ c → c ≤ 124 → sm' c n = sm c n := fun c y z => x.2.2.2.2.2.2.1 c n y z hn
  unfold GNO
  rw [r 116 (by decide) (by decide), r 118 (by decide) (by decide), r 119 (by decide) (by decide), r 123 (by decide) (by decide), r 124 (by decide) (by decide), b1, Int.toNat_natCast, h.own x b2 b4]
theorem DAT.nev (h : DAT T sc sm S P A N C w) (x : RXF sc sm sc' sm' S P A N C) {n : Nat} (hn : n < N) (y : NEV T sc sm n) : NEV T sc' sm' n := by
  obtain ⟨s, b1, b2, b3, b4, -⟩ := h.2.2.2.1 n hn
  have r : ∀ c, 116 ≤ c → c ≤ 124 → sm' c n = sm c n := fun c y z => x.2.2.2.2.2.2.1 c n y z hn
  unfold NEV at *
  rw [r 116 (by decide) (by decide), r 118 (by decide) (by decide), r 123 (by decide) (by decide), r 124 (by decide) (by decide), x.2.2.2.2.2.1 n hn, b1, Int.toNat_natCast, h.own x b2 b4]
  rw [b1, Int.toNat_natCast] at y
  intro k1 k2
  exact ⟨(y k1 k2).1, fun k3 => h.oww x b2 b4 ((y k1 k2).2 k3)⟩
/-- new things come -/
theorem DAT.ext (h : DAT T sc sm S P A N C w) (x : RXF sc sm sc' sm' S P A N C) (hS : S ≤ S') (hP : P ≤ P') (hA : A ≤ A') (hN : N ≤ N') (hC : C ≤ C')
    (nS : ∀ i, S ≤ i → i < S' → SRL T sc' sm' P' N' i) (nA : ∀ a, A ≤ a → a < A' → ARL T sm' S' N' a)
    (nC1 : ∀ c, C ≤ c → c < C' → CLc sc' sm' S' A' c) (nC2 : CN sc' → ∀ a, A ≤ a → a < A' → sm' 106 a = 0 → ∃ c, c < C' ∧ sc' 62 c = sm' 107 a ∧ sc' 63 c = sm' 109 a ∧ sc' 64 c = sm' 110 a ∧ sc' 65 c = 0) (nC3 : ∀ a, A ≤ a → a < A' → sm' 106 a = 1 → ∃ c, c < C' ∧ sc' 62 c = sm' 111 a ∧ sc' 63 c = -1 ∧ sc' 64 c = sm' 110 a ∧ sc' 65 c = 1) (nC4 : ∀ s, S ≤ s → s < S' → sm' 94 s = 2 → ∃ c, c < C' ∧ sc' 62 c = sm' 101 s ∧ sc' 63 c = -1 ∧ sc' 64 c = sm' 100 s ∧ sc' 65 c = (if sc' 57 s < 1 then 1 else sc' 57 s))
    (nN : ∀ n, N ≤ n → n < N' → NOW sc' sm' S' A' n) (nE : CN sc' → ∀ n, N ≤ n → n < N' → NEV T sc' sm' n) (nO : OWR T sc' sm' S') (nX : PHE sc' sm' S S' P P' N N') (nZ : CLE sm sm' N N') (nW : LOE T sm sm' S S')
    (nG : CN sc' ↔ CN sc ∧ (∀ i, S ≤ i → i < S' → GST T sc' sm' i) ∧ (∀ a, A ≤ a → a < A' → GAC T sm' a) ∧ (∀ n, N ≤ n → n < N' → GNO T sm' n)) : DAT T sc' sm' S' P' A' N' C' w := by
  obtain ⟨d1, d2, d3, d4, d5, d6, d7, ⟨d8, d9⟩, ⟨d10, d11⟩, d12⟩ := id h
  obtain ⟨z1, z2, z3⟩ := nZ
  obtain ⟨n1, n2, n3, n4, n5⟩ := nX
  have x0 := x
  obtain ⟨x1, x2, x3, x4, x5, x6, x7, x8⟩ := x
  refine ⟨fun i hi => ?_, fun a ha => ?_, ⟨fun c hc => ?_, fun cn a ha k0 => ?_, fun a ha k1 => ?_, fun s hs k2 => ?_⟩, fun n hn => ?_, fun cn n hn => ?_, nO, ?_, ⟨fun p hp => ?_, fun i hi h2 => ?_⟩, ⟨fun n hn h3 => ?_, fun n m hn hm h3 h4 e => ?_⟩, fun i hi h2 e he => ?_⟩
  · by_cases e : i < S
    · exact (d1 i e).xf x0 e hP hN
    · exact nS i (by omega) hi
  · by_cases e : a < A
    · exact (d2 a e).xf x0 e hS hN
    · exact nA a (by omega) ha
  · by_cases e : c < C
    · have r : ∀ b, 62 ≤ b → b ≤ 65 → sc' b c = sc b c := fun b y z => x5 b c y z e
      unfold CLc
      rw [r 62 (by decide) (by decide), r 63 (by decide) (by decide), r 64 (by decide) (by decide), r 65 (by decide) (by decide)]
      rcases d3.1 c e with ⟨a, k1, k2, k3⟩ | ⟨a, k1, k2, k3⟩ | ⟨s, k1, k2, k3⟩
      · exact Or.inl ⟨a, by omega, by rw [x4 106 a (by decide) (by decide) k1]; exact k2, by rw [x4 107 a (by decide) (by decide) k1, x4 109 a (by decide) (by decide) k1, x4 110 a (by decide) (by decide) k1]; exact k3⟩
      · exact Or.inr (Or.inl ⟨a, by omega, by rw [x4 106 a (by decide) (by decide) k1]; exact k2, by rw [x4 111 a (by decide) (by decide) k1, x4 110 a (by decide) (by decide) k1]; exact k3⟩)
      · exact Or.inr (Or.inr ⟨s, by omega, by rw [x2 94 s (by decide) (by decide) k1]; exact k2, by rw [x2 101 s (by decide) (by decide) k1, x2 100 s (by decide) (by decide) k1, x1 57 s (by decide) (by decide) k1]; exact k3⟩)
    · exact nC1 c (by omega) hc
  · by_cases e : a < A
    · rw [x4 106 a (by decide) (by decide) e] at k0
      obtain ⟨c, c1, c2⟩ := d3.2.1 (nG.mp cn).1 a e k0
      refine ⟨c, by omega, ?_⟩
      rw [x4 107 a (by decide) (by decide) e, x4 109 a (by decide) (by decide) e, x4 110 a (by decide) (by decide) e, x5 62 c (by decide) (by decide) c1, x5 63 c (by decide) (by decide) c1, x5 64 c (by decide) (by decide) c1, x5 65 c (by decide) (by decide) c1]
      exact c2
    · exact nC2 cn a (by omega) ha k0
  · by_cases e : a < A
    · rw [x4 106 a (by decide) (by decide) e] at k1
      obtain ⟨c, c1, c2⟩ := d3.2.2.1 a e k1
      refine ⟨c, by omega, ?_⟩
      rw [x4 111 a (by decide) (by decide) e, x4 110 a (by decide) (by decide) e, x5 62 c (by decide) (by decide) c1, x5 63 c (by decide) (by decide) c1, x5 64 c (by decide) (by decide) c1, x5 65 c (by decide) (by decide) c1]
      exact c2
    · exact nC3 a (by omega) ha k1
  · by_cases e : s < S
    · rw [x2 94 s (by decide) (by decide) e] at k2
      obtain ⟨c, c1, c2⟩ := d3.2.2.2 s e k2
      refine ⟨c, by omega, ?_⟩
      rw [x2 101 s (by decide) (by decide) e, x2 100 s (by decide) (by decide) e, x1 57 s (by decide) (by decide) e, x5 62 c (by decide) (by decide) c1, x5 63 c (by decide) (by decide) c1, x5 64 c (by decide) (by decide) c1, x5 65 c (by decide) (by decide) c1]
      exact c2
    · exact nC4 s (by omega) hs k2
  · by_cases e : n < N
    · obtain ⟨s, k1, k2, k3, k4, k5, k6, k7⟩ := d4 n e
      refine ⟨s, by rw [x7 123 n (by decide) (by decide) e]; exact k1, by omega, by rw [x7 124 n (by decide) (by decide) e]; exact k3, by rw [x7 124 n (by decide) (by decide) e]; omega, ?_, by rw [x1 60 s (by decide) (by decide) k2]; exact k6, fun s' y z => ?_⟩
      · rw [x7 124 n (by decide) (by decide) e]
        intro y
        rw [x4 106 _ (by decide) (by decide) (by omega)]
        exact k5 y
      · by_cases e2 : s' < S
        · rw [x1 60 s' (by decide) (by decide) e2]; exact k7 s' y e2
        · rw [n2 s' (by omega) z]; omega
    · exact nN n (by omega) hn
  · by_cases e : n < N
    · exact h.nev x0 e (d5 (nG.mp cn).1 n e)
    · exact nE cn n (by omega) hn
  · rw [nG, d7]
    unfold GOOD
    constructor
    · intro ⟨⟨y1, y2, y3, y4⟩, y5, y6, y7⟩
      refine ⟨y1, fun i hi => ?_, fun a ha => ?_, fun n hn => ?_⟩
      · by_cases e : i < S
        · exact (h.gst x0 e).mpr (y2 i e)
        · exact y5 i (by omega) hi
      · by_cases e : a < A
        · exact (h.gac x0 e).mpr (y3 a e)
        · exact y6 a (by omega) ha
      · by_cases e : n < N
        · exact (h.gno x0 e).mpr (y4 n e)
        · exact y7 n (by omega) hn
    · intro ⟨y1, y2, y3, y4⟩
      exact ⟨⟨y1, fun i hi => (h.gst x0 hi).mp (y2 i (by omega)), fun a ha => (h.gac x0 ha).mp (y3 a (by omega)), fun n hn => (h.gno x0 hn).mp (y4 n (by omega))⟩, fun i _ hi => y2 i hi, fun a _ ha => y3 a ha, fun n _ hn => y4 n hn⟩
  · by_cases e : p < P
    · obtain ⟨i, k1, k2, k3⟩ := d8 p e
      exact ⟨i, by omega, by rw [x2 98 i (by decide) (by decide) k1]; exact k2, by rw [x2 98 i (by decide) (by decide) k1, x2 99 i (by decide) (by decide) k1]; exact k3⟩
    · exact n3 p (by omega) hp
  · by_cases e : i < S
    · rw [x2 94 i (by decide) (by decide) e] at h2
      obtain ⟨k1, k2⟩ := d9 i e h2
      rw [x2 100 i (by decide) (by decide) e]
      refine ⟨fun y => ?_, fun y => ?_⟩
      · by_cases e2 : i + 1 < S
        · rw [x1 60 (i + 1) (by decide) (by decide) e2]; exact k1 e2
        · rw [n2 (i + 1) (by omega) y]; exact (k2 (by omega)).symm
      · have e3 : S' = S := by omega
        by_cases e4 : N < N'
        · exact absurd (by rw [x2 94 i (by decide) (by decide) e]; exact h2) (n5 e3 e4 i (by omega))
        · rw [show N' = N by omega]; exact k2 (by omega)
    · exact ⟨fun y => absurd y (by omega), fun y => n4 i (by omega) hi h2⟩
  · by_cases e : n < N
    · rw [x7 116 n (by decide) (by decide) e] at h3
      have := d10 n e h3
      rw [x7 118 n (by decide) (by decide) e]
      omega
    · exact (z2 n (by omega) hn h3).2
  · by_cases e1 : n < N
    · rw [x7 116 n (by decide) (by decide) e1] at h3
      rw [x7 118 n (by decide) (by decide) e1] at e
      have b1 := d10 n e1 h3
      by_cases e2 : m < N
      · rw [x7 116 m (by decide) (by decide) e2] at h4
        rw [x7 118 m (by decide) (by decide) e2] at e
        exact d11 n m e1 e2 h3 h4 e
      · have b2 := (z2 m (by omega) hm h4).1
        omega
    · have b1 := (z2 n (by omega) hn h3).1
      by_cases e2 : m < N
      · rw [x7 116 m (by decide) (by decide) e2] at h4
        rw [x7 118 m (by decide) (by decide) e2] at e
        have b2 := d10 m e2 h4
        omega
      · exact z3 n m (by omega) hn (by omega) hm h3 h4 e
  · by_cases e1 : i < S
    · rw [x2 94 i (by decide) (by decide) e1] at h2
      rw [x2 95 i (by decide) (by decide) e1] at he
      obtain ⟨k1, k2⟩ := d12 i e1 h2 e he
      refine ⟨by omega, fun j y z => ?_⟩
      by_cases e2 : j < S
      · rw [x2 95 j (by decide) (by decide) e2]; exact k2 j y e2
      · have := nW.1 j (by omega) z
        omega
    · refine ⟨nW.2 i (by omega) hi h2 e he, fun j y z => ?_⟩
      omega
end DT
/-! READING: between two statements; one more of the simple ones. -/
def BSc (T : TT) (s s' : Sg) : Prop := SFc s s' ∧ ∃ a, CU T s' a
def BSm (s s' : Sg) : Prop := SFm s s' ∧ 0 < s' 84 6
/-- what holds at every step -/
def PSB (T : TT) (sc0 sm0 sc sm : Sg) (a S P A N K C B w : Nat) : Prop :=
  CC T sc ∧ MC T sm ∧ CU T sc a ∧ sm 84 18 = (a : Int) ∧ sm 84 6 = 0 ∧ ND T sc sm N K ∧ sc 66 7 = 0 ∧ (∀ k, a ≤ k → k < T.z → FRS T sc sm k) ∧ (∀ k, k < a → LF T sc sm k) ∧ sc 54 6 = (S : Int) ∧ sm 84 31 = (P : Int) ∧ sm 84 34 = (A : Int) ∧ sc 61 4 = (C : Int) ∧ sc 31 8 = (B : Int) ∧ SFc sc0 sc ∧ SFm sm0 sm ∧
  DAT T sc sm S P A N C w ∧ (∀ i, i < S → sc 59 i = sm 102 i) ∧ (∀ k, 1 ≤ k → k < a → PRQ (T.tk (k - 1)) (T.tk k)) ∧ (∀ k, k < a → STT T k) ∧ 4 * (C : Int) ≤ T.fm a ∧ 2 * B ≤ a ∧ P ≤ a ∧ A ≤ a ∧ N ≤ a ∧ K ≤ N ∧ 3 ≤ a ∧ sm 84 30 = (w : Int) ∧ sc 54 7 = mn (T.vl w) ∧ w < T.z ∧ T.tk w = 2
/-- between two statements -/
def PS0 (T : TT) (sc0 sm0 sc sm : Sg) (a S P A N K C w : Nat) : Prop := PSB T sc0 sm0 sc sm a S P A N K C 0 w ∧ sc 70 9 = 0 ∧ sm 84 19 = (S : Int) ∧ 7 * (S : Int) ≤ T.fm a ∧ (CN sc → ∀ id, IDN T id → sc 37 id = 0) ∧ (∀ i, i < S → sc 60 i + sm 103 i = (if i + 1 < S then sc 60 (i + 1) else (N : Int))) ∧ (T.tk (a - 1) = 59 ∨ T.tk (a - 1) = 125) ∧ dpt T a = 0
section PZ0
variable {T : TT} {sc0 sm0 sc sm sc' sm' : Sg} {a a' S P A N K C w : Nat} {kd : Int}
theorem POS.add (h : POS T) {k : Nat} : ∀ j, k + j ≤ T.z → T.fm k + (j : Int) ≤ T.fm (k + j) := by
  intro j
  induction j with
  | zero => intro _; simp
  | succ j ih =>
    intro hj
    have := ih (by omega)
    have h1 := h.1 (k + j) (by omega)
    rw [show k + (j + 1) = k + j + 1 by omega]
    omega
theorem dpt_n {k : Nat} (h1 : T.tk k ≠ 123) (h2 : T.tk k ≠ 125) : dpt T (k + 1) = dpt T k := by
  simp only [dpt]
  rw [if_neg h1, if_neg h2]
  omega
theorem STT.inn {k : Nat} (h : ¬ (17 ≤ T.tk k ∧ T.tk k ≤ 20)) (h1 : T.tk (k - 1) ≠ 59) (h2 : T.tk (k - 1) ≠ 125) : STT T k := ⟨fun y => absurd y h, fun y => by rcases y.2.1 with z | z; exact absurd z h1; exact absurd z h2⟩
/-- a simple statement has been read -/
theorem PS0.simple (hT : TWF T) (hp : POS T) (h : PS0 T sc0 sm0 sc sm a S P A N K C w) (ha : a + 4 ≤ a') (hz : a' ≤ T.z) (t0 : 17 ≤ T.tk a ∧ T.tk a ≤ 20) (t1 : T.tk (a + 1) = 1)
    (r1 : ∀ c, ¬ (c = 30 ∨ c = 36 ∨ c = 39 ∨ 54 ≤ c ∧ c ≤ 60) → sc' c = sc c) (r2 : ∀ j, j ≠ 10 → j ≠ 11 → sc' 39 j = sc 39 j) (r3 : ∀ j, j < 4 ∨ 7 < j → sc' 30 j = sc 30 j) (r4 : sc' 54 6 = ((S + 1 : Nat) : Int)) (r5 : ∀ j, j ≠ 6 → sc' 54 j = sc 54 j) (r6 : ∀ c i, 55 ≤ c → c ≤ 60 → i ≠ S → sc' c i = sc c i) (r7 : sc' 55 S = kd) (r8 : sc' 56 S = ((a + 1 : Nat) : Int)) (r9 : sc' 59 S = 0) (r10 : sc' 60 S = (N : Int)) (r11 : sc' 36 (T.vl (a + 1)).toNat = (S : Int)) (r12 : ∀ i, i ≠ (T.vl (a + 1)).toNat → sc' 36 i = sc 36 i) (hu : CU T sc' a')
    (m1 : ∀ c, ¬ (c = 84 ∨ 94 ≤ c ∧ c ≤ 103) → sm' c = sm c) (m2 : ∀ c i, 94 ≤ c → c ≤ 103 → i ≠ S → sm' c i = sm c i) (m3 : ∀ j, j ≠ 18 → j ≠ 19 → j ≠ 46 → sm' 84 j = sm 84 j) (m4 : sm' 84 18 = (a' : Int)) (m5 : sm' 84 19 = ((S + 1 : Nat) : Int)) (m6 : sm' 94 S = kd) (m7 : sm' 95 S = ((a + 1 : Nat) : Int)) (m8 : sm' 98 S = (P : Int)) (m9 : sm' 99 S = 0) (m10 : sm' 102 S = 0) (m11 : sm' 103 S = 0)
    (hk : kd = 0 ∨ kd = 1) (hS : (kd = 0 ∧ SKW T sc' sm' S ∧ ((sm' 96 S = -1 ∧ sc' 58 S = 0) ∨ SKC T sc' sm' S)) ∨ (kd = 1 ∧ SKW T sc' sm' S ∧ SKC T sc' sm' S)) (hcn : CN sc' ↔ CN sc ∧ GST T sc' sm' S)
    (pq : ∀ k, a + 2 ≤ k → k < a' → PRQ (T.tk (k - 1)) (T.tk k) ∧ T.tk k ≠ 123 ∧ T.tk k ≠ 125 ∧ ¬ (17 ≤ T.tk k ∧ T.tk k ≤ 20) ∧ T.tk (k - 1) ≠ 59) (tl : T.tk (a' - 1) = 59) : PS0 T sc0 sm0 sc' sm' a' (S + 1) P A N K C w := by
  obtain ⟨hB, h70, h19, h7, h37, hnc, htl, hdp⟩ := h
  obtain ⟨e1, e2, e3, e4, e5, e6, e7, e8, e9, e10, e11, e12, e13, e14, e15, e16, e17, e18, e19, e20, e21, e22, e23, e24, e25, e26, e27, e28, e29, e30, e31⟩ := hB
  have hv := hT.2.2.2.2.1 (a + 1) (by omega)
  have hvm := hT.2.2.2.2.2.1 (a + 1) (by omega) t1
  have sfc : SFc sc sc' := ⟨fun c x => r1 c (by omega), r2, r3, fun j _ => by rw [r1 31 (by omega)], W8.same (r1 31 (by omega))⟩
  have sfm : SFm sm sm' := ⟨fun c x => m1 c (by omega), fun j x => m3 j (by omega) (by omega) (by omega)⟩
  have rx : RXF sc sm sc' sm' S P A N C := ⟨fun c i x y z => r6 c i x (by omega) (by omega), fun c i x y z => m2 c i x (by omega) (by omega), fun c p x y _ => by rw [m1 c (by omega)], fun c a x y _ => by rw [m1 c (by omega)], fun c j x y _ => by rw [r1 c (by omega)], fun n _ => by rw [r1 48 (by omega)], fun c n x y _ => by rw [m1 c (by omega)], fun c x => r1 c (by omega)⟩
  have pa := hp.add (k := a) (a' - a) (by omega)
  rw [show a + (a' - a) = a' by omega] at pa
  have p4 := hp.2.1 a (by omega) t0.1 t0.2 t1
  have pb := hp.add (k := a + 1) (a' - (a + 1)) (by omega)
  rw [show a + 1 + (a' - (a + 1)) = a' by omega] at pb
  have dd : ∀ j, a + j ≤ a' → dpt T (a + j) = 0 := by
    intro j
    induction j with
    | zero => intro _; exact hdp
    | succ j ih =>
      intro hj
      rw [show a + (j + 1) = a + j + 1 by omega, dpt_n, ih (by omega)]
      · by_cases j0 : j = 0
        · subst j0; rw [Nat.add_zero]; omega
        · by_cases j1 : j = 1
          · subst j1; rw [t1]; decide
          · exact (pq (a + j) (by omega) (by omega)).2.1
      · by_cases j0 : j = 0
        · subst j0; rw [Nat.add_zero]; omega
        · by_cases j1 : j = 1
          · subst j1; rw [t1]; decide
          · exact (pq (a + j) (by omega) (by omega)).2.2.1
  have srl : SRL T sc' sm' P N S := by
    refine ⟨a + 1, P, 0, N, r8, m7, by omega, t1, by rw [r7, m6], m8, m9, Nat.le_refl _, r10, Nat.le_refl _, ?_⟩
    rw [m6]
    rcases hS with ⟨y1, y2, y3⟩ | ⟨y1, y2, y3⟩
    · exact Or.inl ⟨y1, rfl, y2, y3⟩
    · exact Or.inr (Or.inl ⟨y1, rfl, y2, y3⟩)
  have owr : OWR T sc' sm' (S + 1) := by
    intro id hid
    by_cases e : id = (T.vl (a + 1)).toNat
    · right
      refine ⟨S, by omega, by rw [e]; exact r11, ?_⟩
      rw [m7, Int.toNat_natCast, e]
      omega
    · rw [r12 id e]
      rcases e17.2.2.2.2.2.1 id hid with ⟨y1, y2⟩ | ⟨i, y1, y2, y3⟩
      · left
        refine ⟨y1, fun i hi => ?_⟩
        by_cases e2 : i = S
        · rw [e2, m7, Int.toNat_natCast]
          omega
        · rw [m2 95 i (by decide) (by decide) e2]
          exact y2 i (by omega)
      · right
        exact ⟨i, by omega, y2, by rw [m2 95 i (by decide) (by decide) (by omega)]; exact y3⟩
  have dat : DAT T sc' sm' (S + 1) P A N C w := by
    refine e17.ext rx (by omega) (Nat.le_refl _) (Nat.le_refl _) (Nat.le_refl _) (Nat.le_refl _) (fun i y z => by rw [show i = S by omega]; exact srl) (fun _ y z => absurd z (by omega)) (fun _ y z => absurd z (by omega)) (fun _ _ y z => absurd z (by omega)) (fun _ y z => absurd z (by omega)) (fun s y z u => ?_) (fun _ y z => absurd z (by omega)) (fun _ _ y z => absurd z (by omega)) owr ⟨by omega, fun i y z => by rw [show i = S by omega]; exact r10, fun _ y z => absurd z (by omega), fun i y z u => by rw [show i = S by omega, m6] at u; omega, fun y => absurd y (by omega)⟩ (CLE.same _ (by rw [e4, m4]; omega)) ⟨fun i y z => by rw [show i = S by omega, m7, e4]; omega, fun i y z u => by rw [show i = S by omega, m6] at u; omega⟩ ?_
    · rw [show s = S by omega, m6] at u
      omega
    · rw [hcn]
      exact ⟨fun y => ⟨y.1, fun i z1 z2 => by rw [show i = S by omega]; exact y.2, fun _ y z => absurd z (by omega), fun _ y z => absurd z (by omega)⟩, fun y => ⟨y.1, y.2.1 S (Nat.le_refl _) (by omega)⟩⟩
  refine ⟨⟨sfc.cc e1, sfm.mc e2, hu, m4, by rw [m3 6 (by decide) (by decide) (by decide)]; exact e5, ?_, by rw [r1 66 (by omega)]; exact e7, ?_, ?_, r4, by rw [m3 31 (by decide) (by decide) (by decide)]; exact e11, by rw [m3 34 (by decide) (by decide) (by decide)]; exact e12, by rw [r1 61 (by omega)]; exact e13, by rw [r1 31 (by omega)]; exact e14, e15.trans sfc, e16.trans sfm, dat, ?_, ?_, ?_, by omega, by omega, by omega, by omega, by omega, e26, by omega, by rw [m3 30 (by decide) (by decide) (by decide)]; exact e28, by rw [r5 7 (by decide)]; exact e29, e30, e31⟩, by rw [r1 70 (by omega)]; exact h70, m5, by omega, ?_, ?_, Or.inl tl, ?_⟩
  · exact e6.congr (by rw [r1 46 (by omega)]) (m3 47 (by decide) (by decide) (by decide)) (m3 57 (by decide) (by decide) (by decide)) (fun c n x y _ => by rw [r1 c (by omega)]) (fun c n x y _ => by rw [m1 c (by omega)]) (fun j _ => by rw [m1 125 (by omega)])
  · intro k x y
    obtain ⟨f1, f2, f3, f4⟩ := e8 k (by omega) y
    exact ⟨by rw [r1 45 (by omega)]; exact f1, by rw [m1 91 (by omega)]; exact f2, by rw [m1 92 (by omega)]; exact f3, by rw [m1 93 (by omega)]; exact f4⟩
  · intro k x
    have : LF T sc sm k := by
      by_cases e : k < a
      · exact e9 k e
      · exact (e8 k (by omega) (by omega)).lf
    exact this.congr (by rw [r1 45 (by omega)]) (by rw [m1 91 (by omega)]) (by rw [m1 92 (by omega)]) (by rw [m1 93 (by omega)])
  · intro i hi
    by_cases e : i = S
    · subst e; rw [r9, m10]
    · rw [r6 59 i (by decide) (by decide) e, m2 102 i (by decide) (by decide) e]
      exact e18 i (by omega)
  · intro k x y
    by_cases c1 : k < a
    · exact e19 k x c1
    · by_cases c2 : k = a
      · subst c2
        exact Or.inr (Or.inr (Or.inr (Or.inl ⟨htl, t0⟩)))
      · by_cases c3 : k = a + 1
        · subst c3
          rw [show a + 1 - 1 = a by omega]
          exact Or.inr (Or.inr (Or.inr (Or.inr (Or.inl ⟨t0.1, t0.2, t1⟩))))
        · exact (pq k (by omega) y).1
  · intro k x
    by_cases c1 : k < a
    · exact e20 k c1
    · by_cases c2 : k = a
      · subst c2
        exact ⟨fun _ => ⟨by omega, htl, hdp⟩, fun _ => t0⟩
      · by_cases c3 : k = a + 1
        · subst c3
          exact STT.inn (by rw [t1]; decide) (by rw [show a + 1 - 1 = a by omega]; omega) (by rw [show a + 1 - 1 = a by omega]; omega)
        · have q := pq k (by omega) x
          refine STT.inn q.2.2.2.1 q.2.2.2.2 ?_
          by_cases c4 : k = a + 2
          · subst c4
            rw [show a + 2 - 1 = a + 1 by omega, t1]; decide
          · exact (pq (k - 1) (by omega) (by omega)).2.2.1
  · intro cn id hid
    rw [r1 37 (by omega)]
    exact h37 (hcn.mp cn).1 id hid
  · intro i hi
    by_cases e : i = S
    · subst e
      rw [r10, m11, if_neg (by omega)]
      omega
    · rw [r6 60 i (by decide) (by decide) e, m2 103 i (by decide) (by decide) e, hnc i (by omega), if_pos (show i + 1 < S + 1 by omega)]
      by_cases e2 : i + 1 = S
      · rw [if_neg (by omega), e2, r10]
      · rw [if_pos (by omega), r6 60 (i + 1) (by decide) (by decide) e2]
  · have := dd (a' - a) (by omega)
    rw [show a + (a' - a) = a' by omega] at this
    exact this
end PZ0
/-! REGISTERS and MEMORIES. -/
section RM
variable {T : TT} {sc0 sm0 sc sm s m : Sg} {a a1 S P A N K C w : Nat}
theorem bc_2 (v : Int) (s : Sg) (h1 : 2 ≤ v) (h2 : v ≤ 64) : f_294 v s = 1 ↔ pw2 v := by
  have h : ∀ n : Nat, n < 65 → 2 ≤ n → (f_294 (n : Int) (fun _ _ => 0) = 1 ↔ ((n : Int) = 2 ∨ (n : Int) = 4 ∨ (n : Int) = 8 ∨ (n : Int) = 16 ∨ (n : Int) = 32 ∨ (n : Int) = 64)) := by decide +kernel
  have := h v.toNat (by omega) (by omega)
  rw [Int.toNat_of_nonneg (by omega)] at this
  exact this
theorem adv_sf : SFm s (adv s a) := ⟨fun c x => adv_row (by omega), fun j x => adv_col (by omega)⟩
theorem tel_sf {n : Int} : SFm s (tel s n a) := ⟨fun c x => tel_row (by omega), fun j x => tel_col (by omega) (by omega)⟩
theorem cur_sf : SFc s (cur T s a) := cur_ef.sf
theorem ro_sf {c j : Nat} {v : Int} (h : 91 ≤ c ∧ c ≤ 132) : SFm s (ax_u2 s c j v) := ⟨fun b x => u2_row _ _ _ (by omega), fun j _ => by rw [u2_row _ _ _ (by omega)]⟩
/-- the reference, once it has told a fault -/
theorem fl359 (hf : 0 < m 84 6) (x : Int) : j_233_359 x m = some m := by
  unfold j_233_359
  rw [if_neg (by omega)]
theorem fl158 (hf : 0 < m 84 6) (hS : S < 4100) : ∃ m' : Sg, j_233_158 (S : Int) m = some m' ∧ BSm m m' := by
  have e : 0 < (ax_u2 m 97 S 0) 84 6 := by rw [u2_row _ _ _ (by decide)]; exact hf
  refine ⟨ax_u2 m 97 S 0, ?_, ro_sf (by decide), e⟩
  unfold j_233_158
  rw [takeF hf, Option.bind_some, gd_pos (by omega), Int.toNat_natCast]
  dsimp only
  rw [takeF e, Option.bind_some]
  exact fl359 e _
theorem fl133 (hf : 0 < m 84 6) (hS : S < 4100) : ∃ m' : Sg, j_233_133 (S : Int) m = some m' ∧ BSm m m' := by
  have e : 0 < (ax_u2 m 96 S 0) 84 6 := by rw [u2_row _ _ _ (by decide)]; exact hf
  obtain ⟨m', k1, k2⟩ := fl158 (S := S) e hS
  refine ⟨m', ?_, (ro_sf (by decide)).trans k2.1, k2.2⟩
  unfold j_233_133
  rw [takeF hf, Option.bind_some]
  dsimp only
  rw [takeF hf, Option.bind_some, gd_pos (by omega), Int.toNat_natCast]
  dsimp only
  rw [takeF e, Option.bind_some]
  exact k1
/-- the width and the semicolon -/
theorem tl_c (hT : TWF T) (hc : CC T s) (hu : CU T s a) (hS : s 54 6 = ((S + 1 : Nat) : Int)) (hS8 : S < 1171) (h57 : s 57 S = 0) (t1 : T.tk a = 2) (t2 : T.tk (a + 1) = 59) :
    ∃ s' : Sg, j_150_84 s = some (.inl s') ∧ CU T s' (a + 2) ∧ s' 57 S = mn (T.vl a) ∧ (∀ i, i ≠ S → s' 57 i = s 57 i) ∧ (∀ c, ¬ (c = 30 ∨ c = 39 ∨ c = 57) → s' c = s c) ∧ (∀ j, j ≠ 10 → j ≠ 11 → s' 39 j = s 39 j) ∧ (∀ j, j < 4 ∨ 7 < j → s' 30 j = s 30 j) ∧ (CN s' ↔ CN s ∧ 1 ≤ T.vl a ∧ T.vl a ≤ 32) := by
  have hz := hT.lt hu.2.2 (by rw [t1]; decide)
  have hz1 := hT.lt (show a + 1 ≤ T.z by omega) (by rw [t2]; decide)
  have hv := hT.2.2.2.2.1 a hz
  obtain ⟨s1, n1, n2, n3, n4⟩ := c93 (lo := 1) (hi := 32) hT hc hu t1
  have cc1 : CC T (cur T s1 (a + 1)) := cur_cc ((ef30 n3 n4).cc hc)
  have h54 : (cur T s1 (a + 1)) 54 6 = ((S + 1 : Nat) : Int) := by rw [cur_row (by decide), n3 54 (by decide)]; exact hS
  obtain ⟨_, ⟨g1, g2⟩, _⟩ := c181 h54 hS8 (mn (T.vl a))
  have e57 : (cur T s1 (a + 1)) 57 S = 0 := by rw [cur_row (by decide), n3 57 (by decide)]; exact h57
  have mnb : 0 ≤ mn (T.vl a) ∧ mn (T.vl a) ≤ 1073741824 := by unfold mn; split <;> omega
  rw [e57, Int.zero_add, w32_id (by omega) (by omega)] at g2
  have cc2 : CC T (ax_u2 (cur T s1 (a + 1)) 57 S (mn (T.vl a))) := cc1.row (by simp [ax_u2]) (u2_row _ _ _ (by decide)) (u2_row _ _ _ (by decide)) (u2_row _ _ _ (by decide)) (by simp [ax_u2]) (u2_row _ _ _ (by decide))
  have cu2 : CU T (ax_u2 (cur T s1 (a + 1)) 57 S (mn (T.vl a))) (a + 1) := by
    have := cur_cu (T := T) (s := s1) (a := a + 1) (by omega)
    unfold CU at *
    rw [u2_row _ _ _ (by decide)]
    exact this
  refine ⟨cur T (ax_u2 (cur T s1 (a + 1)) 57 S (mn (T.vl a))) (a + 2), ?_, cur_cu (by omega), ?_, ?_, ?_, ?_, ?_, ?_⟩
  · unfold j_150_84
    rw [n1]
    show gd (g_190 (mn (T.vl a)) (cur T s1 (a + 1))) _ = _
    rw [gd_pos g1, g2, Option.bind_some, c92y hT cc2 cu2 t2 (by decide)]
    rfl
  · rw [cur_row (by decide)]; exact u2_same _ _ _ _
  · intro i hi
    rw [cur_row (by decide), u2_col _ _ _ hi, cur_row (by decide), n3 57 (by decide)]
  · intro c x
    rw [cur_row (by omega), u2_row _ _ _ (by omega), cur_row (by omega), n3 c (by omega)]
  · intro j x y
    rw [cur_col x y, u2_row _ _ _ (by decide), cur_col x y, n3 39 (by decide)]
  · intro j x
    rw [cur_row (by decide), u2_row _ _ _ (by decide), cur_row (by decide), n4 j x]
  · have : CN (cur T (ax_u2 (cur T s1 (a + 1)) 57 S (mn (T.vl a))) (a + 2)) ↔ CN s1 := by unfold CN; rw [cur_row (by decide), u2_row _ _ _ (by decide), cur_row (by decide)]
    rw [this, n2]
theorem tl_cn (hT : TWF T) (hc : CC T s) (hu : CU T s a) (hS : s 54 6 = ((S + 1 : Nat) : Int)) (hS8 : S < 1171) (t : ¬ (T.tk a = 2 ∧ T.tk (a + 1) = 59)) : ∃ s' : Sg, j_150_84 s = some (.inr (15, s')) ∧ BSc T s s' := by
  unfold j_150_84
  by_cases t1 : T.tk a = 2
  · have hz := hT.lt hu.2.2 (by rw [t1]; decide)
    obtain ⟨s1, n1, n2, n3, n4⟩ := c93 (lo := 1) (hi := 32) hT hc hu t1
    have h54 : (cur T s1 (a + 1)) 54 6 = ((S + 1 : Nat) : Int) := by rw [cur_row (by decide), n3 54 (by decide)]; exact hS
    obtain ⟨_, ⟨g1, g2⟩, _⟩ := c181 h54 hS8 (mn (T.vl a))
    have cu2 : CU T (f_190 (mn (T.vl a)) (cur T s1 (a + 1))) (a + 1) := by
      have := cur_cu (T := T) (s := s1) (a := a + 1) (by omega)
      rw [g2]
      unfold CU at *
      rw [u2_row _ _ _ (by decide)]
      exact this
    rw [n1]
    show ∃ s' : Sg, gd (g_190 (mn (T.vl a)) (cur T s1 (a + 1))) _ = _ ∧ _
    rw [gd_pos g1, Option.bind_some, c92n cu2 (fun y => t ⟨t1, y⟩)]
    refine ⟨_, rfl, ?_, _, cu2⟩
    rw [g2]
    refine ((ef30 n3 n4).sf.trans cur_sf).trans ⟨fun c x => u2_row _ _ _ (by omega), fun j _ _ => by rw [u2_row _ _ _ (by decide)], fun j _ => by rw [u2_row _ _ _ (by decide)], fun j _ => by rw [u2_row _ _ _ (by decide)], W8.same (u2_row _ _ _ (by decide))⟩
  · rw [c93n hu t1]
    exact ⟨s, rfl, SFc.refl _, a, hu⟩
/-- the reference's way of the same -/
theorem tl_m (hT : TWF T) (hM : MC T m) (hf : m 84 6 = 0) (hu : m 84 18 = (a : Int)) (ha : a ≤ T.z) (hS : S < 4100) (t1 : T.tk a = 2) (t2 : T.tk (a + 1) = 59) : j_233_158 (S : Int) m = j_233_359 (S : Int) (adv (ax_u2 (adv m (a + 1)) 97 S (a : Int)) (a + 2)) := by
  have hz := hT.lt ha (by rw [t1]; decide)
  unfold j_233_158
  rw [takeY hM hT hf hu ha (k := 2) (by decide) t1, Option.bind_some, gd_pos (by omega), Int.toNat_natCast]
  dsimp only
  rw [takeY ((adv_mc hM).row (by simp [ax_u2]) (u2_row _ _ _ (by decide))) hT (by rw [u2_row _ _ _ (by decide), adv_col (by decide)]; exact hf) (by rw [u2_row _ _ _ (by decide)]; exact adv_at) (by omega) (k := 59) (by decide) t2, Option.bind_some]
theorem tl_mn (hT : TWF T) (hM : MC T m) (hf : m 84 6 = 0) (hu : m 84 18 = (a : Int)) (ha : a ≤ T.z) (hS : S < 4100) (t : ¬ (T.tk a = 2 ∧ T.tk (a + 1) = 59)) : ∃ m' : Sg, j_233_158 (S : Int) m = some m' ∧ BSm m m' := by
  unfold j_233_158
  by_cases t1 : T.tk a = 2
  · have hz := hT.lt ha (by rw [t1]; decide)
    have e : 0 < (tel (ax_u2 (adv m (a + 1)) 97 S (a : Int)) 2 (a + 1)) 84 6 := by rw [tel_at]; decide
    refine ⟨_, ?_, (adv_sf.trans (ro_sf (by decide))).trans tel_sf, e⟩
    rw [takeY hM hT hf hu ha (k := 2) (by decide) t1, Option.bind_some, gd_pos (by omega), Int.toNat_natCast]
    dsimp only
    rw [takeN ((adv_mc hM).row (by simp [ax_u2]) (u2_row _ _ _ (by decide))) hT (by rw [u2_row _ _ _ (by decide), adv_col (by decide)]; exact hf) (by rw [u2_row _ _ _ (by decide)]; exact adv_at) (by omega) (k := 59) (by decide) (by decide) (fun y => t ⟨t1, y⟩), Option.bind_some]
    exact fl359 e _
  · have e : 0 < (ax_u2 (tel m 2 a) 97 S 0) 84 6 := by rw [u2_row _ _ _ (by decide), tel_at]; decide
    refine ⟨ax_u2 (tel m 2 a) 97 S 0, ?_, tel_sf.trans (ro_sf (by decide)), e⟩
    rw [takeN hM hT hf hu ha (k := 2) (by decide) (by decide) t1, Option.bind_some, gd_pos (by omega), Int.toNat_natCast]
    dsimp only
    rw [takeF e, Option.bind_some]
    exact fl359 e _
/-- the brackets -/
theorem br_m (hT : TWF T) (hM : MC T m) (hf : m 84 6 = 0) (hu : m 84 18 = (a : Int)) (ha : a ≤ T.z) (hS : S < 4100) (t1 : T.tk a = 91) (t2 : T.tk (a + 1) = 2) (t3 : T.tk (a + 2) = 93) : j_233_133 (S : Int) m = j_233_158 (S : Int) (adv (ax_u2 (adv (adv m (a + 1)) (a + 2)) 96 S ((a + 1 : Nat) : Int)) (a + 3)) := by
  have hz := hT.lt ha (by rw [t1]; decide)
  have hz1 := hT.lt (show a + 1 ≤ T.z by omega) (by rw [t2]; decide)
  unfold j_233_133
  rw [takeY hM hT hf hu ha (k := 91) (by decide) t1, Option.bind_some]
  dsimp only
  rw [takeY (adv_mc hM) hT (by rw [adv_col (by decide)]; exact hf) adv_at (by omega) (k := 2) (by decide) t2, Option.bind_some, gd_pos (by omega), Int.toNat_natCast]
  dsimp only
  rw [takeY ((adv_mc (adv_mc hM)).row (by simp [ax_u2]) (u2_row _ _ _ (by decide))) hT (by rw [u2_row _ _ _ (by decide), adv_col (by decide), adv_col (by decide)]; exact hf) (by rw [u2_row _ _ _ (by decide)]; exact adv_at) (by omega) (k := 93) (by decide) t3, Option.bind_some]
theorem br_mn (hT : TWF T) (hM : MC T m) (hf : m 84 6 = 0) (hu : m 84 18 = (a : Int)) (ha : a ≤ T.z) (hS : S < 4100) (t : ¬ (T.tk a = 91 ∧ T.tk (a + 1) = 2 ∧ T.tk (a + 2) = 93)) : ∃ m' : Sg, j_233_133 (S : Int) m = some m' ∧ BSm m m' := by
  unfold j_233_133
  by_cases t1 : T.tk a = 91
  · have hz := hT.lt ha (by rw [t1]; decide)
    rw [takeY hM hT hf hu ha (k := 91) (by decide) t1, Option.bind_some]
    dsimp only
    by_cases t2 : T.tk (a + 1) = 2
    · have hz1 := hT.lt (show a + 1 ≤ T.z by omega) (by rw [t2]; decide)
      have e : 0 < (tel (ax_u2 (adv (adv m (a + 1)) (a + 2)) 96 S ((a + 1 : Nat) : Int)) 2 (a + 2)) 84 6 := by rw [tel_at]; decide
      obtain ⟨m', k1, k2⟩ := fl158 (S := S) e hS
      refine ⟨m', ?_, (((adv_sf.trans adv_sf).trans (ro_sf (by decide))).trans tel_sf).trans k2.1, k2.2⟩
      rw [takeY (adv_mc hM) hT (by rw [adv_col (by decide)]; exact hf) adv_at (by omega) (k := 2) (by decide) t2, Option.bind_some, gd_pos (by omega), Int.toNat_natCast]
      dsimp only
      rw [takeN ((adv_mc (adv_mc hM)).row (by simp [ax_u2]) (u2_row _ _ _ (by decide))) hT (by rw [u2_row _ _ _ (by decide), adv_col (by decide), adv_col (by decide)]; exact hf) (by rw [u2_row _ _ _ (by decide)]; exact adv_at) (by omega) (k := 93) (by decide) (by decide) (fun y => t ⟨t1, t2, y⟩), Option.bind_some]
      exact k1
    · have e : 0 < (ax_u2 (tel (adv m (a + 1)) 2 (a + 1)) 96 S 0) 84 6 := by rw [u2_row _ _ _ (by decide), tel_at]; decide
      obtain ⟨m', k1, k2⟩ := fl158 (S := S) e hS
      refine ⟨m', ?_, ((adv_sf.trans tel_sf).trans (ro_sf (by decide))).trans k2.1, k2.2⟩
      rw [takeN (adv_mc hM) hT (by rw [adv_col (by decide)]; exact hf) adv_at (by omega) (k := 2) (by decide) (by decide) t2, Option.bind_some, gd_pos (by omega), Int.toNat_natCast]
      dsimp only
      rw [takeF e, Option.bind_some]
      exact k1
  · have e0 : 0 < (tel m 2 a) 84 6 := by rw [tel_at]; decide
    have e : 0 < (ax_u2 (tel m 2 a) 96 S 0) 84 6 := by rw [u2_row _ _ _ (by decide)]; exact e0
    obtain ⟨m', k1, k2⟩ := fl158 (S := S) e hS
    refine ⟨m', ?_, (tel_sf.trans (ro_sf (by decide))).trans k2.1, k2.2⟩
    rw [takeN hM hT hf hu ha (k := 91) (by decide) (by decide) t1, Option.bind_some]
    dsimp only
    rw [takeF e0, Option.bind_some, gd_pos (by omega), Int.toNat_natCast]
    dsimp only
    rw [takeF e, Option.bind_some]
    exact k1
end RM
