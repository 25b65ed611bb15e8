/-! OPERANDS without others in them: values, calls of nothing; prefixes. -/
theorem lshr_eq (v : Int) (h0 : 0 ≤ v) (h1 : v ≤ 1099511627776) (w : Nat) (hw : w < 33) : ax_lshr v (w : Int) = v / 2 ^ w := by
  have key : ∀ w : Nat, w < 33 → (((Int32.ofInt (w : Int)).toInt64 &&& 63).toBitVec.smod 64).toNat = w := by decide +kernel
  have e : ax_lshr v (w : Int) = ((BitVec.ofInt 64 v).sshiftRight (((Int32.ofInt (w : Int)).toInt64 &&& 63).toBitVec.smod 64).toNat).toInt := rfl
  have hv : Int.bmod v (2 ^ 64) = v := by
    rw [Int.bmod_eq_of_le] <;> omega
  rw [e, key w hw, BitVec.toInt_sshiftRight, BitVec.toInt_ofInt, hv, Int.shiftRight_eq_div_pow]
  simp
theorem lshr_0 (v : Int) (h0 : 0 ≤ v) (h1 : v ≤ 1099511627776) (w : Int) (hw : 1 ≤ w) (hw2 : w ≤ 32) : ax_lshr v w = 0 ↔ v < 2 ^ w.toNat := by
  have e := lshr_eq v h0 h1 w.toNat (by omega)
  rw [Int.toNat_of_nonneg (by omega)] at e
  rw [e]
  have hp : (0 : Int) < 2 ^ w.toNat := Int.pow_pos (by decide)
  constructor
  · intro h
    have := Int.lt_ediv_add_one_mul_self v hp
    rw [h] at this
    omega
  · intro h
    exact Int.ediv_eq_zero_of_lt h0 h
/-- the class has thrown, the reference has told a fault -/
def BDc (T : TT) (s s' : Sg) : Prop := EFc s s' ∧ ∃ a, CU T s' a
def BDm (s s' : Sg) : Prop := EFm s s' ∧ 0 < s' 84 6
section LEAF2
variable {T : TT} {sc0 sm0 sc sm sB mB sD sH mD s : Sg} {sn rp : Int} {a0 N0 K0 base W O op a a' N K q b : Nat} {k st fi cnt wd nu lv lx nm : Int}
theorem cur_ef : EFc s (cur T s a) := ⟨fun c x => cur_row (by omega), fun j x y => cur_col x y, fun j _ => by rw [cur_row (by decide)]⟩
theorem adv_ef : EFm s (adv s a) := ⟨fun c x => adv_row (by omega), fun j x => adv_col (by omega)⟩
theorem tel_ef {n : Int} : EFm s (tel s n a) := ⟨fun c x => tel_row (by omega), fun j x => tel_col (by omega) (by omega)⟩
theorem s70_ef {v : Int} : EFm s (ax_u2 s 84 70 v) := ⟨fun c x => u2_row _ _ _ (by omega), fun j x => u2_col _ _ _ (by omega)⟩
theorem ef30 {s1 : Sg} (h1 : ∀ c, c ≠ 30 → s1 c = s c) (h2 : ∀ j, j < 4 ∨ 7 < j → s1 30 j = s 30 j) : EFc s s1 := ⟨fun c x => h1 c (by omega), fun j _ _ => by rw [h1 39 (by decide)], h2⟩
/-- a value -/
theorem leaf_value (hT : TWF T) (h : P1 T sc0 sm0 sn rp a0 N0 K0 base W O op sc sm a N K q b) (t1 : T.tk a = 2) (t2 : T.tk (a + 1) = 58) (t3 : T.tk (a + 2) = 2) :
    ∃ sH mD : Sg, f_48 sc = some (.inl sH) ∧ f_54 (a : Int) sH = some sH ∧ f_260 sm = some (0, mD) ∧ P2 T sc0 sm0 sn rp a0 N0 K0 base W O op sH mD (a + 3) (N + 1) (K + 0) q b N a := by
  obtain ⟨e1, e2, e3, e4, e5, e6, e7, e8, e9, e10, e11, e12, e13, e14, e15, e16, e17, e18, e19, e20, e21, e22, e23⟩ := id h.1
  have h59 := h.2.1
  have hA := h.2.2.2.2
  have hKN := h.2.2.2.1
  have hz := hT.lt e3.2.2 (by rw [t1]; decide)
  have h8 := hT.1
  have bd := STK.bd _ _ _ _ h.2.2.1
  have z1 := hT.lt (show a + 1 ≤ T.z by omega) (by rw [t2]; decide)
  have z2 := hT.lt (show a + 2 ≤ T.z by omega) (by rw [t3]; decide)
  have c1 := c81 e1 hT hz
  have cc1 := cur_cc (a := a + 1) e1
  have cu1 : CU T (cur T sc (a + 1)) (a + 1) := cur_cu (by omega)
  have cc2 := cur_cc (a := a + 2) cc1
  have cu2 : CU T (cur T (cur T sc (a + 1)) (a + 2)) (a + 2) := cur_cu (by omega)
  obtain ⟨s3, n1, n2, n3, n4⟩ := c93 (lo := 1) (hi := 32) hT cc2 cu2 t3
  have ef3 : EFc sc s3 := (cur_ef.trans cur_ef).trans (ef30 n3 n4)
  have hv := hT.2.2.2.2.1 a hz
  have hw := hT.2.2.2.2.1 (a + 2) z2
  have cc3 : CC T (cur T s3 (a + 3)) := cur_cc (ef3.cc e1)
  have cn2 : CN (cur T (cur T sc (a + 1)) (a + 2)) ↔ CN sc := by unfold CN; rw [cur_row (by decide), cur_row (by decide)]
  have mnv : mn (T.vl (a + 2)) = T.vl (a + 2) ∨ (mn (T.vl (a + 2)) = 1073741824 ∧ 1073741824 < T.vl (a + 2)) := by unfold mn; split <;> omega
  -- the state before the node
  have mid : ∃ sB : Sg, (∀ c, c ≠ 39 → c ≠ 30 → sB c = sc c) ∧ (∀ j, j ≠ 10 → j ≠ 11 → sB 39 j = sc 39 j) ∧ (∀ j, j < 4 ∨ 7 < j → sB 30 j = sc 30 j) ∧ CU T sB (a + 3) ∧ f_48 sc = j_48_84 (a : Int) (T.vl a) (mn (T.vl (a + 2))) sB ∧ (CN sB ↔ CN sc ∧ (1 ≤ T.vl (a + 2) ∧ T.vl (a + 2) ≤ 32 ∧ T.vl a < 2 ^ (T.vl (a + 2)).toNat)) := by
    have st : f_48 sc = (if mn (T.vl (a + 2)) < 1 then j_48_84 (a : Int) (T.vl a) (mn (T.vl (a + 2))) (cur T s3 (a + 3)) else (if 32 < mn (T.vl (a + 2)) then j_48_84 (a : Int) (T.vl a) (mn (T.vl (a + 2))) (cur T s3 (a + 3)) else (if ax_cmp (ax_lshr (T.vl a) (mn (T.vl (a + 2)))) 0 = 0 then j_48_84 (a : Int) (T.vl a) (mn (T.vl (a + 2))) (cur T s3 (a + 3)) else (gd (g_80 (a : Int) (cur T s3 (a + 3))) (gd (g_71 4 (f_80 (a : Int) (cur T s3 (a + 3))) (cur T s3 (a + 3))) ((some (f_71 4 (f_80 (a : Int) (cur T s3 (a + 3))) (cur T s3 (a + 3)))).bind fun q8 => j_48_84 (a : Int) (T.vl a) (mn (T.vl (a + 2))) q8)))))) := by
      unfold f_48
      rw [e3.1, gd_pos c1.2, c1.1, c92y hT e1 e3 t1 (by decide)]
      show xb (f_92 58 (cur T sc (a + 1))) _ = _
      rw [c92y hT cc1 cu1 t2 (by decide)]
      show xb (f_93 1 32 (cur T (cur T sc (a + 1)) (a + 2))) _ = _
      rw [n1]
      rfl
    have r3 : ∀ c, c ≠ 39 → c ≠ 30 → (cur T s3 (a + 3)) c = sc c := fun c x y => by rw [cur_row x, n3 c y, cur_row x, cur_row x]
    have r39 : ∀ j, j ≠ 10 → j ≠ 11 → (cur T s3 (a + 3)) 39 j = sc 39 j := fun j x y => by rw [cur_col x y, n3 39 (by decide), cur_col x y, cur_col x y]
    have r30 : ∀ j, j < 4 ∨ 7 < j → (cur T s3 (a + 3)) 30 j = sc 30 j := fun j x => by rw [cur_row (by decide), n4 j x, cur_row (by decide), cur_row (by decide)]
    have cn3 : CN (cur T s3 (a + 3)) ↔ CN sc ∧ 1 ≤ T.vl (a + 2) ∧ T.vl (a + 2) ≤ 32 := by
      have : CN (cur T s3 (a + 3)) ↔ CN s3 := by unfold CN; rw [cur_row (by decide)]
      rw [this, n2, cn2]
    rw [st]
    by_cases d1 : mn (T.vl (a + 2)) < 1
    · rw [if_pos d1]
      refine ⟨_, r3, r39, r30, cur_cu (by omega), rfl, ?_⟩
      rw [cn3]
      exact ⟨fun y => absurd y.2.1 (by omega), fun y => absurd y.2.1 (by omega)⟩
    · rw [if_neg d1]
      by_cases d2 : 32 < mn (T.vl (a + 2))
      · rw [if_pos d2]
        refine ⟨_, r3, r39, r30, cur_cu (by omega), rfl, ?_⟩
        rw [cn3]
        exact ⟨fun y => absurd y.2.2 (by omega), fun y => absurd y.2.2.1 (by omega)⟩
      · rw [if_neg d2]
        have em : mn (T.vl (a + 2)) = T.vl (a + 2) := by omega
        have l0 := lshr_0 (T.vl a) hv.1 hv.2 (T.vl (a + 2)) (by omega) (by omega)
        simp only [cmp_eq]
        by_cases d3 : ax_lshr (T.vl a) (mn (T.vl (a + 2))) = 0
        · rw [if_pos d3]
          refine ⟨_, r3, r39, r30, cur_cu (by omega), rfl, ?_⟩
          rw [cn3]
          rw [em] at d3
          exact ⟨fun y => ⟨y.1, y.2.1, y.2.2, l0.mp d3⟩, fun y => ⟨y.1, y.2.1, y.2.2.1⟩⟩
        · rw [if_neg d3]
          have c8 := c80 cc3 hT (a := a) (by omega)
          obtain ⟨y1, y2, y3, y4⟩ := c71 (s := cur T s3 (a + 3)) (x := 4) (p := T.fm a) (Or.inl rfl) (hT.2.2.2.1 a (by omega))
          rw [gd_pos c8.2, c8.1, gd_pos y1]
          refine ⟨_, fun c x y => by rw [y3 c y]; exact r3 c x y, fun j x y => by rw [y3 39 (by decide)]; exact r39 j x y, fun j x => by rw [y4 j x]; exact r30 j x, ?_, rfl, ⟨fun y => absurd y y2, fun y => ?_⟩⟩
          · have := cur_cu (T := T) (s := s3) (a := a + 3) (by omega)
            unfold CU at *
            rw [y3 39 (by decide)]
            exact this
          · rw [em] at d3
            exact absurd (l0.mpr y.2.2.2) d3
  obtain ⟨sB, rB, r39, r30, hu, fe, cnB⟩ := mid
  have sB46 : sB 46 7 = (N : Int) := by rw [rB 46 (by decide) (by decide)]; exact e6.1
  obtain ⟨g1, g2, g3, g4⟩ := c124 sB46 (by omega) 0 (a : Int) (-1) 0 10
  obtain ⟨g5, g6⟩ := g3.widen (by omega) (mn (T.vl (a + 2)))
  obtain ⟨g7, g8⟩ := g6.enum (by omega) (ax_w32 (T.vl a))
  have hM0 : MC T (ax_u2 sm 84 70 0) := e2.row (by simp [ax_u2]) (by funext x; simp [ax_u2])
  have u0 : (ax_u2 sm 84 70 0) 84 18 = (a : Int) := by simpa [ax_u2] using e4
  have f0 : (ax_u2 sm 84 70 0) 84 6 = 0 := by simpa [ax_u2] using e5
  have hM1 := adv_mc (a := a + 1) hM0
  have f1 : (adv (ax_u2 sm 84 70 0) (a + 1)) 84 6 = 0 := by rw [adv_col (by decide)]; exact f0
  have hM2 := adv_mc (a := a + 2) hM1
  have f2 : (adv (adv (ax_u2 sm 84 70 0) (a + 1)) (a + 2)) 84 6 = 0 := by rw [adv_col (by decide)]; exact f1
  have cA : ∀ j, j ≠ 18 → j ≠ 70 → (adv (adv (adv (ax_u2 sm 84 70 0) (a + 1)) (a + 2)) (a + 3)) 84 j = sm 84 j := fun j x y => by rw [adv_col x, adv_col x, adv_col x]; exact u2_col _ _ _ y
  obtain ⟨v1, v2, v3, v4⟩ := m263 (s := adv (adv (adv (ax_u2 sm 84 70 0) (a + 1)) (a + 2)) (a + 3)) (N := N) (K := K) (o := O + b) (by rw [cA 47 (by decide) (by decide)]; exact e6.2.1) (by rw [cA 57 (by decide) (by decide)]; exact e6.2.2.1) (by rw [cA 59 (by decide) (by decide)]; exact h59) (by omega) (by omega) 0 (a : Int) (a : Int) ((a + 2 : Nat) : Int)
  have kf : (f_125 (N : Int) (ax_w32 (T.vl a)) (f_123 (N : Int) (mn (T.vl (a + 2))) (f_64 (N : Int) (a : Int) 10 (f_124 0 (a : Int) (-1) 0 sB).2))) 39 = sB 39 := g8.2.2.2.2.2.2.2.2.2.2.2.2.2.2.2.1 39 (by omega)
  refine ⟨f_125 (N : Int) (ax_w32 (T.vl a)) (f_123 (N : Int) (mn (T.vl (a + 2))) (f_64 (N : Int) (a : Int) 10 (f_124 0 (a : Int) (-1) 0 sB).2)), _, ?_, ?_, ?_, LEAF hT h (sB := sB) (mB := adv (adv (adv (ax_u2 sm 84 70 0) (a + 1)) (a + 2)) (a + 3)) rB r39 r30 (fun c x => by rw [adv_row x, adv_row x, adv_row x]; exact u2_row _ _ _ x) cA hu adv_at (by omega) g8 v4 (Or.inl rfl) ?_ ?_ ?_ (by rw [show a + 3 - 1 = a + 2 by omega, t3]; decide) (by rw [adv_col (by decide), adv_col (by decide), adv_col (by decide)]; exact u2_same _ _ _ _)⟩
  · rw [fe]
    unfold j_48_84
    have e8a : (f_64 (N : Int) (a : Int) 10 (f_124 0 (a : Int) (-1) 0 sB).2) 66 8 = (N : Int) := g3.2.2.2.2.2.2.2.2.1
    have e8b : (f_123 (N : Int) (mn (T.vl (a + 2))) (f_64 (N : Int) (a : Int) 10 (f_124 0 (a : Int) (-1) 0 sB).2)) 66 8 = (N : Int) := g6.2.2.2.2.2.2.2.2.1
    rw [gd_pos g1, Option.bind_some, g2]
    unfold f_62
    rw [Option.bind_some, Option.bind_some, e8a, gd_pos g5, Option.bind_some, e8b, gd_pos g7, Option.bind_some]
  · exact hide_n hT (g8.ef.cc ((show EFc sc sB from ⟨fun c x => rB c (by omega) (by omega), r39, r30⟩).cc e1)) (by omega) (by rw [t1]; decide)
  · unfold f_260
    rw [if_pos (by omega), eatN hM0 hT u0 e3.2.2 (k := 126) (by decide) (by decide) (by rw [t1]; decide)]
    rw [if_neg (by simp), eatN hM0 hT u0 e3.2.2 (k := 45) (by decide) (by decide) (by rw [t1]; decide)]
    rw [if_pos rfl, eatN hM0 hT u0 e3.2.2 (k := 40) (by decide) (by decide) (by rw [t1]; decide)]
    rw [if_pos rfl, eatY hM0 hT f0 u0 e3.2.2 (k := 2) (by decide) t1]
    rw [if_neg (by simp), takeY hM1 hT f1 adv_at (by omega) (k := 58) (by decide) t2, Option.bind_some]
    dsimp only
    rw [takeY hM2 hT f2 adv_at (by omega) (k := 2) (by decide) t3, Option.bind_some]
    dsimp only
    rw [e4, gd_pos v1, Option.bind_some, v2, gd_pos v3, Option.bind_some]
  · unfold NV
    rw [v4.2.2.2.1, v4.2.2.2.2.1, v4.2.2.2.2.2.1, v4.2.2.2.2.2.2.1, g8.2.2.1, g8.2.2.2.1]
    refine ⟨fun _ => ⟨a, a + 2, rfl, rfl, hz, z2, t1, t3, rfl, rfl⟩, by simp, by simp, by simp, by simp⟩
  · have s0 := SEG.tok T sB (adv (adv (adv (ax_u2 sm 84 70 0) (a + 1)) (a + 2)) (a + 3)) sn rp K a N (Or.inl ⟨hA, by rw [t1]; decide⟩) (fun y => by rw [t1] at y; exact absurd y.1 (by decide))
    have s1 := SEG.tok T sB (adv (adv (adv (ax_u2 sm 84 70 0) (a + 1)) (a + 2)) (a + 3)) sn rp K (a + 1) N (Or.inr (Or.inl (by rw [show a + 1 - 1 = a by omega, t1, t2]; decide))) (fun y => by rw [t2] at y; exact absurd y.1 (by decide))
    have s2 := SEG.tok T sB (adv (adv (adv (ax_u2 sm 84 70 0) (a + 1)) (a + 2)) (a + 3)) sn rp K (a + 2) N (Or.inl (by rw [show a + 2 - 1 = a + 1 by omega, t2, t3]; decide)) (fun y => by rw [t3] at y; exact absurd y.1 (by decide))
    refine ((s0.merge s1).merge s2).addn v4 (fun n hn => g8.2.2.2.2.2.2.2.2.2.2.2.2.2.1 48 n (by decide) (by decide) (by omega)) (g8.2.2.2.2.2.2.2.2.2.2.2.2.2.2.2.1 37 (by omega)) (by decide) (by omega) (fun i hi => absurd hi (by omega)) (by rw [cA 68 (by decide) (by decide)]; exact e10) (by rw [cA 46 (by decide) (by decide)]; exact e11) (fun y => absurd y (by decide))
  · have nk : NOK T (sc0 37) (f_264 (N : Int) (a : Int) (-1) (f_263 0 (a : Int) (a : Int) ((a + 2 : Nat) : Int) (adv (adv (adv (ax_u2 sm 84 70 0) (a + 1)) (a + 2)) (a + 3))).2) N ↔ (1 ≤ T.vl (a + 2) ∧ T.vl (a + 2) ≤ 32 ∧ T.vl a < 2 ^ (T.vl (a + 2)).toNat) := by
      unfold NOK
      rw [v4.2.2.2.1, v4.2.2.2.2.2.1, v4.2.2.2.2.2.2.1, Int.toNat_natCast, Int.toNat_natCast]
      exact ⟨fun y => y.1 rfl, fun y => ⟨fun _ => y, by simp, by simp, by simp⟩⟩
    rw [nk, ← cnB]
    unfold CN
    rw [r125 (by decide), r123 (by decide), g4]
/-- a value that is none -/
theorem leaf_value_bad (hT : TWF T) (h : P1 T sc0 sm0 sn rp a0 N0 K0 base W O op sc sm a N K q b) (t1 : T.tk a = 2) (t : T.tk (a + 1) ≠ 58 ∨ (T.tk (a + 1) = 58 ∧ T.tk (a + 2) ≠ 2)) :
    ∃ s' mD : Sg, f_48 sc = some (.inr (15, s')) ∧ BDc T sc s' ∧ f_260 sm = some (0, mD) ∧ BDm sm mD := by
  obtain ⟨e1, e2, e3, e4, e5, e6, e7, e8, e9, e10, e11, e12, e13, e14, e15, e16, e17, e18, e19, e20, e21, e22, e23⟩ := id h.1
  have h59 := h.2.1
  have hA := h.2.2.2.2
  have hKN := h.2.2.2.1
  have hz := hT.lt e3.2.2 (by rw [t1]; decide)
  have h8 := hT.1
  have bd := STK.bd _ _ _ _ h.2.2.1
  have c1 := c81 e1 hT hz
  have cc1 := cur_cc (a := a + 1) e1
  have cu1 : CU T (cur T sc (a + 1)) (a + 1) := cur_cu (by omega)
  have hM0 : MC T (ax_u2 sm 84 70 0) := e2.row (by simp [ax_u2]) (by funext x; simp [ax_u2])
  have u0 : (ax_u2 sm 84 70 0) 84 18 = (a : Int) := by simpa [ax_u2] using e4
  have f0 : (ax_u2 sm 84 70 0) 84 6 = 0 := by simpa [ax_u2] using e5
  have hM1 := adv_mc (a := a + 1) hM0
  have f1 : (adv (ax_u2 sm 84 70 0) (a + 1)) 84 6 = 0 := by rw [adv_col (by decide)]; exact f0
  have fin : ∀ (mF : Sg) (x : Int), EFm sm mF → 0 < mF 84 6 → mF 84 47 = sm 84 47 → mF 84 57 = sm 84 57 → mF 84 59 = sm 84 59 → ∃ mD : Sg, (gd (g_263 0 (a : Int) (a : Int) x mF) ((some (f_263 0 (a : Int) (a : Int) x mF)).bind fun q22 => gd (g_264 q22.1 (a : Int) (-1) q22.2) ((some (f_264 q22.1 (a : Int) (-1) q22.2)).bind fun q23 => some ((0 : Int), q23)))) = some (0, mD) ∧ BDm sm mD := by
    intro mF x k1 k2 k3 k4 k5
    obtain ⟨v1, v2, v3, v4⟩ := m263 (s := mF) (N := N) (K := K) (o := O + b) (by rw [k3]; exact e6.2.1) (by rw [k4]; exact e6.2.2.1) (by rw [k5]; exact h59) (by omega) (by omega) 0 (a : Int) (a : Int) x
    refine ⟨_, ?_, k1.trans v4.ef, ?_⟩
    · rw [gd_pos v1, Option.bind_some, v2, gd_pos v3, Option.bind_some]
    · rw [v4.2.2.2.2.2.2.2.2.2.2.2.2.2.2.2.2.2.2.2 6 (by decide) (by decide) (by decide)]
      exact k2
  have pre : ∀ mF : Sg, ∀ x : Int, (f_231 17 (adv (ax_u2 sm 84 70 0) (a + 1))).bind (fun q20 => (f_231 2 q20.2).bind fun q21 => some q21) = some (x, mF) → f_260 sm = (gd (g_263 0 (a : Int) (a : Int) x mF) ((some (f_263 0 (a : Int) (a : Int) x mF)).bind fun q22 => gd (g_264 q22.1 (a : Int) (-1) q22.2) ((some (f_264 q22.1 (a : Int) (-1) q22.2)).bind fun q23 => some ((0 : Int), q23)))) := by
    intro mF x hx
    unfold f_260
    rw [if_pos (by omega), eatN hM0 hT u0 e3.2.2 (k := 126) (by decide) (by decide) (by rw [t1]; decide)]
    rw [if_neg (by simp), eatN hM0 hT u0 e3.2.2 (k := 45) (by decide) (by decide) (by rw [t1]; decide)]
    rw [if_pos rfl, eatN hM0 hT u0 e3.2.2 (k := 40) (by decide) (by decide) (by rw [t1]; decide)]
    rw [if_pos rfl, eatY hM0 hT f0 u0 e3.2.2 (k := 2) (by decide) t1]
    rw [if_neg (by simp)]
    obtain ⟨y1, y2, y3⟩ := bd_some hx
    obtain ⟨y4, y5, y6⟩ := bd_some y3
    cases y6
    rw [y2, Option.bind_some, y5, Option.bind_some, e4]
  unfold f_48
  rw [e3.1, gd_pos c1.2, c92y hT e1 e3 t1 (by decide)]
  show ∃ s' mD : Sg, xb (f_92 58 (cur T sc (a + 1))) _ = _ ∧ _
  rcases t with t | ⟨t, t'⟩
  · obtain ⟨mD, d1, d2⟩ := fin (tel (adv (ax_u2 sm 84 70 0) (a + 1)) 2 (a + 1)) 0 ((s70_ef.trans adv_ef).trans tel_ef) (by rw [tel_at]; decide) (by rw [tel_col (by decide) (by decide), adv_col (by decide)]; exact u2_col _ _ _ (by decide)) (by rw [tel_col (by decide) (by decide), adv_col (by decide)]; exact u2_col _ _ _ (by decide)) (by rw [tel_col (by decide) (by decide), adv_col (by decide)]; exact u2_col _ _ _ (by decide))
    refine ⟨cur T sc (a + 1), mD, ?_, ⟨cur_ef, _, cu1⟩, ?_, d2⟩
    · rw [c92n cu1 t]
      rfl
    · rw [← d1]
      apply pre
      rw [takeN hM1 hT f1 adv_at (by omega) (k := 58) (by decide) (by decide) t, Option.bind_some]
      dsimp only
      rw [takeF (by rw [tel_at]; decide)]
      rfl
  · have z1 := hT.lt (show a + 1 ≤ T.z by omega) (by rw [t]; decide)
    have hM2 := adv_mc (a := a + 2) hM1
    have f2 : (adv (adv (ax_u2 sm 84 70 0) (a + 1)) (a + 2)) 84 6 = 0 := by rw [adv_col (by decide)]; exact f1
    obtain ⟨mD, d1, d2⟩ := fin (tel (adv (adv (ax_u2 sm 84 70 0) (a + 1)) (a + 2)) 2 (a + 2)) 0 (((s70_ef.trans adv_ef).trans adv_ef).trans tel_ef) (by rw [tel_at]; decide) (by rw [tel_col (by decide) (by decide), adv_col (by decide), adv_col (by decide)]; exact u2_col _ _ _ (by decide)) (by rw [tel_col (by decide) (by decide), adv_col (by decide), adv_col (by decide)]; exact u2_col _ _ _ (by decide)) (by rw [tel_col (by decide) (by decide), adv_col (by decide), adv_col (by decide)]; exact u2_col _ _ _ (by decide))
    have cu2 : CU T (cur T (cur T sc (a + 1)) (a + 2)) (a + 2) := cur_cu (by omega)
    refine ⟨cur T (cur T sc (a + 1)) (a + 2), mD, ?_, ⟨cur_ef.trans cur_ef, _, cu2⟩, ?_, d2⟩
    · rw [c92y hT cc1 cu1 t (by decide)]
      show xb (f_93 1 32 (cur T (cur T sc (a + 1)) (a + 2))) _ = _
      rw [c93n cu2 t']
      rfl
    · rw [← d1]
      apply pre
      rw [takeY hM1 hT f1 adv_at (by omega) (k := 58) (by decide) t, Option.bind_some]
      dsimp only
      rw [takeN hM2 hT f2 adv_at (by omega) (k := 2) (by decide) (by decide) t']
      rfl
end LEAF2
