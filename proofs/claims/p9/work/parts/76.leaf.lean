/-! OPERANDS without others in them; prefixes. -/
/-- before an expression -/
def EPRE (T : TT) (sc sm : Sg) (sn rp : Int) (a N K base W O op : Nat) : Prop :=
  CC T sc ∧ MC T sm ∧ CU T sc a ∧ sm 84 18 = (a : Int) ∧ sm 84 6 = 0 ∧ ND T sc sm N K ∧ sc 66 7 = (base : Int) ∧ sm 84 63 = (W : Int) ∧ sm 84 59 = (O : Int) ∧ sm 84 67 = (op : Int) ∧ sm 84 68 = sn ∧ sm 84 46 = rp ∧
  (∀ k, a ≤ k → k < T.z → FRS T sc sm k) ∧ (W = 0 ∨ 100 ≤ sm 129 (W - 1)) ∧ N + base ≤ a ∧ W ≤ a ∧ K + O ≤ N ∧ 1 ≤ a ∧ T.tk (a - 1) ∈ opA
section LEAFS
variable {T : TT} {sc0 sm0 sc sm sB mB sD sH mD : Sg} {sn rp : Int} {a0 N0 K0 base W O op a a' N K q b : Nat} {k st fi cnt wd nu lv lx nm : Int}
theorem EPRE.p1 (h : EPRE T sc sm sn rp a N K base W O op) : P1 T sc sm sn rp a N K base W O op sc sm a N K 0 0 := by
  obtain ⟨e1, e2, e3, e4, e5, e6, e7, e8, e9, e10, e11, e12, e13, e14, e15, e16, e17, e18, e19⟩ := h
  exact ⟨⟨e1, e2, e3, e4, e5, e6, e7, e8, e10, e11, e12, e13, XF.refl _ _ _ _ _ _ _ _ _, EFc.refl _, EFm.refl _, ⟨fun x => ⟨x, fun n y1 y2 => absurd y2 (by omega)⟩, fun x => x.1⟩, e14, e15, e16, Nat.le_refl _, Nat.le_refl _, Nat.le_refl _, e18⟩, e9, ⟨rfl, rfl, rfl⟩, by omega, e19⟩
theorem LEAF (hT : TWF T) (h : P1 T sc0 sm0 sn rp a0 N0 K0 base W O op sc sm a N K q b) (rB : ∀ c, c ≠ 39 → c ≠ 30 → sB c = sc c) (r39 : ∀ j, j ≠ 10 → j ≠ 11 → sB 39 j = sc 39 j) (r30 : ∀ j, j < 4 ∨ 7 < j → sB 30 j = sc 30 j) (rM : ∀ c, c ≠ 84 → mB c = sm c) (cM : ∀ j, j ≠ 18 → j ≠ 70 → mB 84 j = sm 84 j)
    (hu : CU T sB a') (hm : mB 84 18 = (a' : Int)) (ha : a < a') (hC : MKC sB sH N k (a : Int) (-1) 0 wd nu 10) (hM : MKM mB mD N K (O + b) 0 k (a : Int) lx nm) (hk : k = 0 ∨ k = 1 ∨ k = 3) (hV : NV T sH mD N) (sg : SEG T sH mD sn rp (K + 0) a a' N (N + 1)) (hcn : CN sH ↔ CN sc ∧ NOK T (sc0 37) mD N) (hB : T.tk (a' - 1) ∈ opB) (h70 : mB 84 70 = 0) :
    P2 T sc0 sm0 sn rp a0 N0 K0 base W O op sH mD a' (N + 1) (K + 0) q b N a := by
  obtain ⟨hE, h59, hS, hK, hA⟩ := h
  obtain ⟨e1, e2, e3, e4, e5, e6, e7, e8, e9, e10, e11, e12, e13, e14, e15, e16, e17, e18, e19, e20, e21, e22, e23⟩ := id hE
  have hz := hu.2.2
  have xB : XF sc sm sB mB a a' N K (base + q) (W + q) (O + b) := ⟨fun k x => ⟨by rw [rB 45 (by decide) (by decide)], by rw [rM 91 (by decide)], by rw [rM 92 (by decide)]⟩, fun c n x y _ => by rw [rB c (by omega) (by omega)], fun c n x y _ => by rw [rM c (by omega)], fun j _ => by rw [rM 125 (by decide)], fun c n x y _ => by rw [rB c (by omega) (by omega)], fun c n x y _ => by rw [rM c (by omega)], fun c n x y _ => by rw [rM c (by omega)], fun k _ => by rw [rM 132 (by decide)]⟩
  have ecB : EFc sc sB := ⟨fun c x => rB c (by omega) (by omega), r39, r30⟩
  have emB : EFm sm mB := ⟨fun c x => rM c (by omega), fun j x => cM j (by omega) (by omega)⟩
  have ndB : ND T sB mB N K := e6.congr (by rw [rB 46 (by decide) (by decide)]) (cM 47 (by decide) (by decide)) (cM 57 (by decide) (by decide)) (fun c n x y _ => by rw [rB c (by omega) (by omega)]) (fun c n x y _ => by rw [rM c (by omega)]) (fun j _ => by rw [rM 125 (by decide)])
  have hl : lev k = 10 := by rcases hk with e | e | e <;> rw [e] <;> decide
  refine MKP2 hE hS xB ecB emB hu hm (by rw [cM 6 (by decide) (by decide)]; exact e5) ndB (by rw [rB 66 (by decide) (by decide)]; exact e7) (by rw [cM 63 (by decide) (by decide)]; exact e8) (by rw [cM 67 (by decide) (by decide)]; exact e9) (fun c n y1 y2 _ => by rw [rM c (by omega)]) (fun k y1 y2 => ?_) (by rw [hl]; exact hC) hM rfl rfl (Nat.le_refl _) ha (by omega) (by omega) ?_ (by rw [if_neg (by decide)]) (fun i hi => absurd hi (by omega)) hV sg ?_ (Nat.le_refl _) (by omega) hB (Nat.le_refl _) (Nat.le_refl _) (by omega) h70
  · exact (e12 k y1 (by omega)).lf.congr (by rw [rB 45 (by decide) (by decide)]) (by rw [rM 91 (by decide)]) (by rw [rM 92 (by decide)]) (by rw [rM 93 (by decide)])
  · rcases hk with e | e | e <;> rw [e] <;> simp [AR]
  · rw [hcn]
    exact ⟨fun h => ⟨h.1, fun n y1 y2 => by rw [show n = N by omega]; exact h.2⟩, fun h => ⟨h.1, h.2 N (Nat.le_refl _) (by omega)⟩⟩
/-- what hides a statement's name -/
theorem hide_c {x : Nat} (hT : TWF T) (hc : CC T sD) (hC : MKC sB sD N k st fi cnt 0 nu lv) (hN : N < 8192) (h30 : sD 30 = sB 30) (hx : x < T.z) (ht : T.tk x = 1) :
    ∃ sH : Sg, f_54 (x : Int) sD = some sH ∧ MKC sB sH N k st fi cnt (sB 37 (T.vl x).toNat) nu lv ∧ (CN sH ↔ CN sB ∧ (k = 1 ∨ sB 37 (T.vl x).toNat = 0)) := by
  have c9 := c97 hc hT (a := x) (by omega)
  rw [if_pos ht] at c9
  have hv := hT.2.2.2.2.1 x hx
  have hv2 := hT.2.2.2.2.2.1 x hx ht
  have hm := hT.2.2.2.2.2.2
  have r37 : sD 37 = sB 37 := hC.2.2.2.2.2.2.2.2.2.2.2.2.2.2.2.1 37 (by omega)
  have e106 : f_106 (T.vl x) sD = sB 37 (T.vl x).toNat ∧ g_106 (T.vl x) sD := by
    unfold f_106 g_106
    rw [hc.2.2.2.2.1, if_neg (by omega), if_neg (by omega), r37]
    exact ⟨rfl, fun _ => trivial, fun _ => ⟨fun _ => trivial, fun _ => ⟨⟨by omega, by omega⟩, trivial⟩⟩⟩
  have cnD : CN sD ↔ CN sB := by unfold CN; rw [h30]
  unfold f_54
  rw [gd_pos c9.2, c9.1, gd_pos e106.2, e106.1]
  by_cases d : sB 37 (T.vl x).toNat = 0
  · rw [if_neg (by simp [d])]
    refine ⟨sD, rfl, by rw [d]; exact hC, ?_⟩
    rw [cnD]
    exact ⟨fun h => ⟨h, Or.inr d⟩, fun h => h.1⟩
  · obtain ⟨w1, w2⟩ := hC.widen hN (sB 37 (T.vl x).toNat)
    have e8 : sD 66 8 = (N : Int) := hC.2.2.2.2.2.2.2.2.1
    have e8' : (f_123 (N : Int) (sB 37 (T.vl x).toNat) sD) 66 8 = (N : Int) := by rw [r123 (by decide)]; exact e8
    have r30 : (f_123 (N : Int) (sB 37 (T.vl x).toNat) sD) 30 = sB 30 := by rw [r123 (by decide)]; exact h30
    have hk : f_116 (N : Int) (f_123 (N : Int) (sB 37 (T.vl x).toNat) sD) = k ∧ g_116 (N : Int) (f_123 (N : Int) (sB 37 (T.vl x).toNat) sD) := by
      have e : f_114 (N : Int) (f_123 (N : Int) (sB 37 (T.vl x).toNat) sD) = 1 := by unfold f_114; rw [w2.1, if_neg (by omega), if_neg (by omega)]
      unfold f_116 g_116
      rw [e, if_neg (by decide), Int.toNat_natCast, w2.2.1]
      exact ⟨rfl, fun _ => trivial, fun _ => ⟨⟨by omega, by omega⟩, trivial⟩⟩
    rw [if_pos d, e8, gd_pos w1]
    simp only [Option.bind_some]
    rw [e8', gd_pos hk.2, hk.1]
    by_cases d1 : k = 1
    · rw [if_pos d1]
      refine ⟨_, rfl, w2, ?_⟩
      have : CN (f_123 (N : Int) (sB 37 (T.vl x).toNat) sD) ↔ CN sB := by unfold CN; rw [r30]
      rw [this]
      exact ⟨fun h => ⟨h, Or.inl d1⟩, fun h => h.1⟩
    · have hcc : CC T (f_123 (N : Int) (sB 37 (T.vl x).toNat) sD) := hc.row (by rw [r123 (by decide)]) (r123 (by decide)) (r123 (by decide)) (r123 (by decide)) (by rw [r123 (by decide)]) (r123 (by decide))
      have c8 := c80 hcc hT (a := x) (by omega)
      obtain ⟨n1, n2, n3, n4⟩ := c71 (s := f_123 (N : Int) (sB 37 (T.vl x).toNat) sD) (x := 7) (p := T.fm x) (Or.inr (Or.inr (Or.inr rfl))) (hT.2.2.2.1 x (by omega))
      rw [if_neg d1, gd_pos c8.2, c8.1, gd_pos n1]
      refine ⟨_, rfl, ?_, ⟨fun h => absurd h n2, fun h => absurd h.2 (by omega)⟩⟩
      obtain ⟨h1, h2, h3, h4, h5, h6, h7, h8, h9, h10, h11, h12, h13, h14, h15, h16, h17⟩ := w2
      refine ⟨by rw [n3 46 (by decide)]; exact h1, by rw [n3 47 (by decide)]; exact h2, by rw [n3 48 (by decide)]; exact h3, by rw [n3 49 (by decide)]; exact h4, by rw [n3 50 (by decide)]; exact h5, by rw [n3 51 (by decide)]; exact h6, by rw [n3 52 (by decide)]; exact h7, by rw [n3 53 (by decide)]; exact h8, by rw [n3 66 (by decide)]; exact h9, by rw [n3 66 (by decide)]; exact h10, by rw [n3 66 (by decide)]; exact h11, by rw [n3 66 (by decide)]; exact h12, by rw [n3 66 (by decide)]; exact h13, fun c n y1 y2 y3 => by rw [n3 c (by omega)]; exact h14 c n y1 y2 y3, by rw [n3 66 (by decide)]; exact h15, fun c y => by rw [n3 c (by omega)]; exact h16 c y, fun j y => by rw [n4 j y]; exact h17 j y⟩
/-- nothing hides what does not begin with a NAME -/
theorem hide_n {x : Nat} {s : Sg} (hT : TWF T) (hc : CC T s) (hx : x ≤ T.z) (ht : T.tk x ≠ 1) : f_54 (x : Int) s = some s := by
  have c9 := c97 hc hT (a := x) hx
  rw [if_neg ht] at c9
  have e106 : f_106 (-1) s = 0 ∧ g_106 (-1) s := ⟨if_pos (by decide), fun _ => trivial, fun h => absurd (by decide) h⟩
  unfold f_54
  rw [gd_pos c9.2, c9.1, gd_pos e106.2, e106.1, if_neg (by simp)]
/-- a name by itself -/
theorem leaf_name (hT : TWF T) (h : P1 T sc0 sm0 sn rp a0 N0 K0 base W O op sc sm a N K q b) (t1 : T.tk a = 1) (t2 : T.tk (a + 1) ≠ 91) (t3 : T.tk (a + 1) ≠ 40) :
    ∃ sN sH mD : Sg, f_49 sc = some (.inl sN) ∧ f_54 (a : Int) sN = some sH ∧ f_260 sm = some (0, mD) ∧ P2 T sc0 sm0 sn rp a0 N0 K0 base W O op sH mD (a + 1) (N + 1) (K + 0) q b N a := by
  obtain ⟨e1, e2, e3, e4, e5, e6, e7, e8, e9, e10, e11, e12, e13, e14, e15, e16, e17, e18, e19, e20, e21, e22, e23⟩ := id h.1
  have h59 := h.2.1
  have hA := h.2.2.2.2
  have hKN := h.2.2.2.1
  have hz := hT.lt e3.2.2 (by rw [t1]; decide)
  have h8 := hT.1
  have bd := STK.bd _ _ _ _ h.2.2.1
  have sB46 : (cur T sc (a + 1)) 46 7 = (N : Int) := by rw [cur_row (by decide)]; exact e6.1
  obtain ⟨g1, g2, g3, g4⟩ := c124 sB46 (by omega) 1 (a : Int) (-1) 0 10
  have hcD : CC T (f_64 (N : Int) (a : Int) 10 (f_124 1 (a : Int) (-1) 0 (cur T sc (a + 1))).2) := g3.ef.cc (cur_cc e1)
  obtain ⟨sH, k1, k2, k3⟩ := hide_c hT hcD g3 (by omega) g4 hz t1
  -- the reference
  have hM0 : MC T (ax_u2 sm 84 70 0) := e2.row (by simp [ax_u2]) (by funext x; simp [ax_u2])
  have u0 : (ax_u2 sm 84 70 0) 84 18 = (a : Int) := by simpa [ax_u2] using e4
  have f0 : (ax_u2 sm 84 70 0) 84 6 = 0 := by simpa [ax_u2] using e5
  have hM1 := adv_mc (a := a + 1) hM0
  have f1 : (adv (ax_u2 sm 84 70 0) (a + 1)) 84 6 = 0 := by rw [adv_col (by decide)]; exact f0
  have cA : ∀ j, j ≠ 18 → j ≠ 70 → (adv (ax_u2 sm 84 70 0) (a + 1)) 84 j = sm 84 j := fun j x y => by rw [adv_col x]; exact u2_col _ _ _ y
  obtain ⟨v1, v2, v3, v4⟩ := m263 (s := adv (ax_u2 sm 84 70 0) (a + 1)) (N := N) (K := K) (o := O + b) (by rw [cA 47 (by decide) (by decide)]; exact e6.2.1) (by rw [cA 57 (by decide) (by decide)]; exact e6.2.2.1) (by rw [cA 59 (by decide) (by decide)]; exact h59) (by omega) (by omega) 1 (a : Int) (a : Int) (-1)
  refine ⟨_, sH, _, ?_, k1, ?_, LEAF hT h (sB := cur T sc (a + 1)) (mB := adv (ax_u2 sm 84 70 0) (a + 1)) (fun c x _ => cur_row x) (fun j x y => cur_col x y) (fun j _ => by rw [cur_row (by decide)]) (fun c x => by rw [adv_row x]; exact u2_row _ _ _ x) cA (cur_cu (by omega)) adv_at (by omega) k2 v4 (Or.inr (Or.inl rfl)) ?_ ?_ ?_ (by rw [show a + 1 - 1 = a by omega, t1]; decide) (by rw [adv_col (by decide)]; exact u2_same _ _ _ _)⟩
  · unfold f_49
    rw [c92y hT e1 e3 t1 (by decide), e3.1]
    show gd _ _ = _
    rw [gd_pos g1]
    simp only [Option.bind_some]
    rw [g2]
    rfl
  · unfold f_260
    rw [if_pos (by omega), eatN hM0 hT u0 e3.2.2 (k := 126) (by decide) (by decide) (by rw [t1]; decide)]
    rw [if_neg (by simp), eatN hM0 hT u0 e3.2.2 (k := 45) (by decide) (by decide) (by rw [t1]; decide)]
    rw [if_pos rfl, eatN hM0 hT u0 e3.2.2 (k := 40) (by decide) (by decide) (by rw [t1]; decide)]
    rw [if_pos rfl, eatN hM0 hT u0 e3.2.2 (k := 2) (by decide) (by decide) (by rw [t1]; decide)]
    rw [if_pos rfl, eatN hM0 hT u0 e3.2.2 (k := 25) (by decide) (by decide) (by rw [t1]; decide)]
    rw [if_neg (by simp), eatN hM0 hT u0 e3.2.2 (k := 26) (by decide) (by decide) (by rw [t1]; decide)]
    rw [if_neg (by simp), eatN hM0 hT u0 e3.2.2 (k := 27) (by decide) (by decide) (by rw [t1]; decide)]
    rw [if_pos rfl, takeY hM0 hT f0 u0 e3.2.2 (k := 1) (by decide) t1]
    rw [Option.bind_some]
    dsimp only
    rw [if_pos (by omega), eatN hM1 hT adv_at (by omega) (k := 91) (by decide) (by decide) t2]
    rw [if_pos rfl, eatN hM1 hT adv_at (by omega) (k := 40) (by decide) (by decide) t3]
    rw [if_pos rfl, e4, gd_pos v1]
    simp only [Option.bind_some]
    rw [v2, gd_pos v3]
  · unfold NV
    rw [v4.2.2.2.1, v4.2.2.2.2.1, v4.2.2.2.2.2.1, k2.2.2.1, k2.2.2.2.1]
    refine ⟨by simp, by simp, by simp, fun _ _ => ⟨a, rfl, rfl, hz, t1, rfl⟩, by simp⟩
  · have s0 := SEG.tok T (cur T sc (a + 1)) (adv (ax_u2 sm 84 70 0) (a + 1)) sn rp K a N (Or.inl ⟨hA, by rw [t1]; decide⟩) (fun y => t3 y.2)
    refine s0.addn v4 (fun n hn => k2.2.2.2.2.2.2.2.2.2.2.2.2.2.1 48 n (by decide) (by decide) (by omega)) (k2.2.2.2.2.2.2.2.2.2.2.2.2.2.2.2.1 37 (by omega)) (by decide) (by omega) (fun i hi => absurd hi (by omega)) (by rw [cA 68 (by decide) (by decide)]; exact e10) (by rw [cA 46 (by decide) (by decide)]; exact e11) (fun _ _ => by rw [k2.2.2.1, Int.toNat_natCast])
  · have nk : NOK T (sc0 37) (f_264 (N : Int) (a : Int) (-1) (f_263 1 (a : Int) (a : Int) (-1) (adv (ax_u2 sm 84 70 0) (a + 1))).2) N := by
      unfold NOK
      rw [v4.2.2.2.1]
      simp
    rw [k3]
    have : CN (cur T sc (a + 1)) ↔ CN sc := by unfold CN; rw [cur_row (by decide)]
    rw [this]
    exact ⟨fun h => ⟨h.1, nk⟩, fun h => ⟨h.1, Or.inl rfl⟩⟩
end LEAFS
/-! OPERANDS without others in them: values, calls of nothing; prefixes. -/
theorem lshr_eq (v : Int) (h0 : 0 ≤ v) (h1 : v ≤ 1099511627776) (w : Nat) (hw : w < 33) : ax_lshr v (w : Int) = v / 2 ^ w := by
  have key : ∀ w : Nat, w < 33 → (((Int32.ofInt (w : Int)).toInt64 &&& 63).toBitVec.smod 64).toNat = w := by decide +kernel
  have e : ax_lshr v (w : Int) = ((BitVec.ofInt 64 v).sshiftRight (((Int32.ofInt (w : Int)).toInt64 &&& 63).toBitVec.smod 64).toNat).toInt := rfl
  have hv : Int.bmod v (2 ^ 64) = v := by
    rw [Int.bmod_eq_of_le] <;> omega
  rw [e, key w hw, BitVec.toInt_sshiftRight, BitVec.toInt_ofInt, hv, Int.shiftRight_eq_div_pow]
  simp
theorem lshr_0 (v : Int) (h0 : 0 ≤ v) (h1 : v ≤ 1099511627776) (w : Int) (hw : 1 ≤ w) (hw2 : w ≤ 32) : ax_lshr v w = 0 ↔ v < 2 ^ w.toNat := by
  have e := lshr_eq v h0 h1 w.toNat (by omega)
  rw [Int.toNat_of_nonneg (by omega)] at e
  rw [e]
  have hp : (0 : Int) < 2 ^ w.toNat := Int.pow_pos (by decide)
  constructor
  · intro h
    have := Int.lt_ediv_add_one_mul_self v hp
    rw [h] at this
    omega
  · intro h
    exact Int.ediv_eq_zero_of_lt h0 h
/-- the class has thrown, the reference has told a fault -/
def BDc (T : TT) (s s' : Sg) : Prop := EFc s s' ∧ ∃ a, CU T s' a
def BDm (s s' : Sg) : Prop := EFm s s' ∧ 0 < s' 84 6
section LEAF2
variable {T : TT} {sc0 sm0 sc sm sB mB sD sH mD s : Sg} {sn rp : Int} {a0 N0 K0 base W O op a a' N K q b : Nat} {k st fi cnt wd nu lv lx nm : Int}
theorem cur_ef : EFc s (cur T s a) := ⟨fun c x => cur_row (by omega), fun j x y => cur_col x y, fun j _ => by rw [cur_row (by decide)]⟩
theorem adv_ef : EFm s (adv s a) := ⟨fun c x => adv_row (by omega), fun j x => adv_col (by omega)⟩
theorem tel_ef {n : Int} : EFm s (tel s n a) := ⟨fun c x => tel_row (by omega), fun j x => tel_col (by omega) (by omega)⟩
theorem s70_ef {v : Int} : EFm s (ax_u2 s 84 70 v) := ⟨fun c x => u2_row _ _ _ (by omega), fun j x => u2_col _ _ _ (by omega)⟩
theorem ef30 {s1 : Sg} (h1 : ∀ c, c ≠ 30 → s1 c = s c) (h2 : ∀ j, j < 4 ∨ 7 < j → s1 30 j = s 30 j) : EFc s s1 := ⟨fun c x => h1 c (by omega), fun j _ _ => by rw [h1 39 (by decide)], h2⟩
/-- a value -/
theorem leaf_value (hT : TWF T) (h : P1 T sc0 sm0 sn rp a0 N0 K0 base W O op sc sm a N K q b) (t1 : T.tk a = 2) (t2 : T.tk (a + 1) = 58) (t3 : T.tk (a + 2) = 2) :
    ∃ sH mD : Sg, f_48 sc = some (.inl sH) ∧ f_54 (a : Int) sH = some sH ∧ f_260 sm = some (0, mD) ∧ P2 T sc0 sm0 sn rp a0 N0 K0 base W O op sH mD (a + 3) (N + 1) (K + 0) q b N a := by
  obtain ⟨e1, e2, e3, e4, e5, e6, e7, e8, e9, e10, e11, e12, e13, e14, e15, e16, e17, e18, e19, e20, e21, e22, e23⟩ := id h.1
  have h59 := h.2.1
  have hA := h.2.2.2.2
  have hKN := h.2.2.2.1
  have hz := hT.lt e3.2.2 (by rw [t1]; decide)
  have h8 := hT.1
  have bd := STK.bd _ _ _ _ h.2.2.1
  have z1 := hT.lt (show a + 1 ≤ T.z by omega) (by rw [t2]; decide)
  have z2 := hT.lt (show a + 2 ≤ T.z by omega) (by rw [t3]; decide)
  have c1 := c81 e1 hT hz
  have cc1 := cur_cc (a := a + 1) e1
  have cu1 : CU T (cur T sc (a + 1)) (a + 1) := cur_cu (by omega)
  have cc2 := cur_cc (a := a + 2) cc1
  have cu2 : CU T (cur T (cur T sc (a + 1)) (a + 2)) (a + 2) := cur_cu (by omega)
  obtain ⟨s3, n1, n2, n3, n4⟩ := c93 (lo := 1) (hi := 32) hT cc2 cu2 t3
  have ef3 : EFc sc s3 := (cur_ef.trans cur_ef).trans (ef30 n3 n4)
  have hv := hT.2.2.2.2.1 a hz
  have hw := hT.2.2.2.2.1 (a + 2) z2
  have cc3 : CC T (cur T s3 (a + 3)) := cur_cc (ef3.cc e1)
  have cn2 : CN (cur T (cur T sc (a + 1)) (a + 2)) ↔ CN sc := by unfold CN; rw [cur_row (by decide), cur_row (by decide)]
  have mnv : mn (T.vl (a + 2)) = T.vl (a + 2) ∨ (mn (T.vl (a + 2)) = 1073741824 ∧ 1073741824 < T.vl (a + 2)) := by unfold mn; split <;> omega
  -- the state before the node
  have mid : ∃ sB : Sg, (∀ c, c ≠ 39 → c ≠ 30 → sB c = sc c) ∧ (∀ j, j ≠ 10 → j ≠ 11 → sB 39 j = sc 39 j) ∧ (∀ j, j < 4 ∨ 7 < j → sB 30 j = sc 30 j) ∧ CU T sB (a + 3) ∧ f_48 sc = j_48_84 (a : Int) (T.vl a) (mn (T.vl (a + 2))) sB ∧ (CN sB ↔ CN sc ∧ (1 ≤ T.vl (a + 2) ∧ T.vl (a + 2) ≤ 32 ∧ T.vl a < 2 ^ (T.vl (a + 2)).toNat)) := by
    have st : f_48 sc = (if mn (T.vl (a + 2)) < 1 then j_48_84 (a : Int) (T.vl a) (mn (T.vl (a + 2))) (cur T s3 (a + 3)) else (if 32 < mn (T.vl (a + 2)) then j_48_84 (a : Int) (T.vl a) (mn (T.vl (a + 2))) (cur T s3 (a + 3)) else (if ax_cmp (ax_lshr (T.vl a) (mn (T.vl (a + 2)))) 0 = 0 then j_48_84 (a : Int) (T.vl a) (mn (T.vl (a + 2))) (cur T s3 (a + 3)) else (gd (g_80 (a : Int) (cur T s3 (a + 3))) (gd (g_71 4 (f_80 (a : Int) (cur T s3 (a + 3))) (cur T s3 (a + 3))) ((some (f_71 4 (f_80 (a : Int) (cur T s3 (a + 3))) (cur T s3 (a + 3)))).bind fun q8 => j_48_84 (a : Int) (T.vl a) (mn (T.vl (a + 2))) q8)))))) := by
      unfold f_48
      rw [e3.1, gd_pos c1.2, c1.1, c92y hT e1 e3 t1 (by decide)]
      show xb (f_92 58 (cur T sc (a + 1))) _ = _
      rw [c92y hT cc1 cu1 t2 (by decide)]
      show xb (f_93 1 32 (cur T (cur T sc (a + 1)) (a + 2))) _ = _
      rw [n1]
      rfl
    have r3 : ∀ c, c ≠ 39 → c ≠ 30 → (cur T s3 (a + 3)) c = sc c := fun c x y => by rw [cur_row x, n3 c y, cur_row x, cur_row x]
    have r39 : ∀ j, j ≠ 10 → j ≠ 11 → (cur T s3 (a + 3)) 39 j = sc 39 j := fun j x y => by rw [cur_col x y, n3 39 (by decide), cur_col x y, cur_col x y]
    have r30 : ∀ j, j < 4 ∨ 7 < j → (cur T s3 (a + 3)) 30 j = sc 30 j := fun j x => by rw [cur_row (by decide), n4 j x, cur_row (by decide), cur_row (by decide)]
    have cn3 : CN (cur T s3 (a + 3)) ↔ CN sc ∧ 1 ≤ T.vl (a + 2) ∧ T.vl (a + 2) ≤ 32 := by
      have : CN (cur T s3 (a + 3)) ↔ CN s3 := by unfold CN; rw [cur_row (by decide)]
      rw [this, n2, cn2]
    rw [st]
    by_cases d1 : mn (T.vl (a + 2)) < 1
    · rw [if_pos d1]
      refine ⟨_, r3, r39, r30, cur_cu (by omega), rfl, ?_⟩
      rw [cn3]
      exact ⟨fun y => absurd y.2.1 (by omega), fun y => absurd y.2.1 (by omega)⟩
    · rw [if_neg d1]
      by_cases d2 : 32 < mn (T.vl (a + 2))
      · rw [if_pos d2]
        refine ⟨_, r3, r39, r30, cur_cu (by omega), rfl, ?_⟩
        rw [cn3]
        exact ⟨fun y => absurd y.2.2 (by omega), fun y => absurd y.2.2.1 (by omega)⟩
      · rw [if_neg d2]
        have em : mn (T.vl (a + 2)) = T.vl (a + 2) := by omega
        have l0 := lshr_0 (T.vl a) hv.1 hv.2 (T.vl (a + 2)) (by omega) (by omega)
        simp only [cmp_eq]
        by_cases d3 : ax_lshr (T.vl a) (mn (T.vl (a + 2))) = 0
        · rw [if_pos d3]
          refine ⟨_, r3, r39, r30, cur_cu (by omega), rfl, ?_⟩
          rw [cn3]
          rw [em] at d3
          exact ⟨fun y => ⟨y.1, y.2.1, y.2.2, l0.mp d3⟩, fun y => ⟨y.1, y.2.1, y.2.2.1⟩⟩
        · rw [if_neg d3]
          have c8 := c80 cc3 hT (a := a) (by omega)
          obtain ⟨y1, y2, y3, y4⟩ := c71 (s := cur T s3 (a + 3)) (x := 4) (p := T.fm a) (Or.inl rfl) (hT.2.2.2.1 a (by omega))
          rw [gd_pos c8.2, c8.1, gd_pos y1]
          refine ⟨_, fun c x y => by rw [y3 c y]; exact r3 c x y, fun j x y => by rw [y3 39 (by decide)]; exact r39 j x y, fun j x => by rw [y4 j x]; exact r30 j x, ?_, rfl, ⟨fun y => absurd y y2, fun y => ?_⟩⟩
          · have := cur_cu (T := T) (s := s3) (a := a + 3) (by omega)
            unfold CU at *
            rw [y3 39 (by decide)]
            exact this
          · rw [em] at d3
            exact absurd (l0.mpr y.2.2.2) d3
  obtain ⟨sB, rB, r39, r30, hu, fe, cnB⟩ := mid
  have sB46 : sB 46 7 = (N : Int) := by rw [rB 46 (by decide) (by decide)]; exact e6.1
  obtain ⟨g1, g2, g3, g4⟩ := c124 sB46 (by omega) 0 (a : Int) (-1) 0 10
  obtain ⟨g5, g6⟩ := g3.widen (by omega) (mn (T.vl (a + 2)))
  obtain ⟨g7, g8⟩ := g6.enum (by omega) (ax_w32 (T.vl a))
  have hM0 : MC T (ax_u2 sm 84 70 0) := e2.row (by simp [ax_u2]) (by funext x; simp [ax_u2])
  have u0 : (ax_u2 sm 84 70 0) 84 18 = (a : Int) := by simpa [ax_u2] using e4
  have f0 : (ax_u2 sm 84 70 0) 84 6 = 0 := by simpa [ax_u2] using e5
  have hM1 := adv_mc (a := a + 1) hM0
  have f1 : (adv (ax_u2 sm 84 70 0) (a + 1)) 84 6 = 0 := by rw [adv_col (by decide)]; exact f0
  have hM2 := adv_mc (a := a + 2) hM1
  have f2 : (adv (adv (ax_u2 sm 84 70 0) (a + 1)) (a + 2)) 84 6 = 0 := by rw [adv_col (by decide)]; exact f1
  have cA : ∀ j, j ≠ 18 → j ≠ 70 → (adv (adv (adv (ax_u2 sm 84 70 0) (a + 1)) (a + 2)) (a + 3)) 84 j = sm 84 j := fun j x y => by rw [adv_col x, adv_col x, adv_col x]; exact u2_col _ _ _ y
  obtain ⟨v1, v2, v3, v4⟩ := m263 (s := adv (adv (adv (ax_u2 sm 84 70 0) (a + 1)) (a + 2)) (a + 3)) (N := N) (K := K) (o := O + b) (by rw [cA 47 (by decide) (by decide)]; exact e6.2.1) (by rw [cA 57 (by decide) (by decide)]; exact e6.2.2.1) (by rw [cA 59 (by decide) (by decide)]; exact h59) (by omega) (by omega) 0 (a : Int) (a : Int) ((a + 2 : Nat) : Int)
  have kf : (f_125 (N : Int) (ax_w32 (T.vl a)) (f_123 (N : Int) (mn (T.vl (a + 2))) (f_64 (N : Int) (a : Int) 10 (f_124 0 (a : Int) (-1) 0 sB).2))) 39 = sB 39 := g8.2.2.2.2.2.2.2.2.2.2.2.2.2.2.2.1 39 (by omega)
  refine ⟨f_125 (N : Int) (ax_w32 (T.vl a)) (f_123 (N : Int) (mn (T.vl (a + 2))) (f_64 (N : Int) (a : Int) 10 (f_124 0 (a : Int) (-1) 0 sB).2)), _, ?_, ?_, ?_, LEAF hT h (sB := sB) (mB := adv (adv (adv (ax_u2 sm 84 70 0) (a + 1)) (a + 2)) (a + 3)) rB r39 r30 (fun c x => by rw [adv_row x, adv_row x, adv_row x]; exact u2_row _ _ _ x) cA hu adv_at (by omega) g8 v4 (Or.inl rfl) ?_ ?_ ?_ (by rw [show a + 3 - 1 = a + 2 by omega, t3]; decide) (by rw [adv_col (by decide), adv_col (by decide), adv_col (by decide)]; exact u2_same _ _ _ _)⟩
  · rw [fe]
    unfold j_48_84
    have e8a : (f_64 (N : Int) (a : Int) 10 (f_124 0 (a : Int) (-1) 0 sB).2) 66 8 = (N : Int) := g3.2.2.2.2.2.2.2.2.1
    have e8b : (f_123 (N : Int) (mn (T.vl (a + 2))) (f_64 (N : Int) (a : Int) 10 (f_124 0 (a : Int) (-1) 0 sB).2)) 66 8 = (N : Int) := g6.2.2.2.2.2.2.2.2.1
    rw [gd_pos g1, Option.bind_some, g2]
    unfold f_62
    rw [Option.bind_some, Option.bind_some, e8a, gd_pos g5, Option.bind_some, e8b, gd_pos g7, Option.bind_some]
  · exact hide_n hT (g8.ef.cc ((show EFc sc sB from ⟨fun c x => rB c (by omega) (by omega), r39, r30⟩).cc e1)) (by omega) (by rw [t1]; decide)
  · unfold f_260
    rw [if_pos (by omega), eatN hM0 hT u0 e3.2.2 (k := 126) (by decide) (by decide) (by rw [t1]; decide)]
    rw [if_neg (by simp), eatN hM0 hT u0 e3.2.2 (k := 45) (by decide) (by decide) (by rw [t1]; decide)]
    rw [if_pos rfl, eatN hM0 hT u0 e3.2.2 (k := 40) (by decide) (by decide) (by rw [t1]; decide)]
    rw [if_pos rfl, eatY hM0 hT f0 u0 e3.2.2 (k := 2) (by decide) t1]
    rw [if_neg (by simp), takeY hM1 hT f1 adv_at (by omega) (k := 58) (by decide) t2, Option.bind_some]
    dsimp only
    rw [takeY hM2 hT f2 adv_at (by omega) (k := 2) (by decide) t3, Option.bind_some]
    dsimp only
    rw [e4, gd_pos v1, Option.bind_some, v2, gd_pos v3, Option.bind_some]
  · unfold NV
    rw [v4.2.2.2.1, v4.2.2.2.2.1, v4.2.2.2.2.2.1, v4.2.2.2.2.2.2.1, g8.2.2.1, g8.2.2.2.1]
    refine ⟨fun _ => ⟨a, a + 2, rfl, rfl, hz, z2, t1, t3, rfl, rfl⟩, by simp, by simp, by simp, by simp⟩
  · have s0 := SEG.tok T sB (adv (adv (adv (ax_u2 sm 84 70 0) (a + 1)) (a + 2)) (a + 3)) sn rp K a N (Or.inl ⟨hA, by rw [t1]; decide⟩) (fun y => by rw [t1] at y; exact absurd y.1 (by decide))
    have s1 := SEG.tok T sB (adv (adv (adv (ax_u2 sm 84 70 0) (a + 1)) (a + 2)) (a + 3)) sn rp K (a + 1) N (Or.inr (Or.inl (by rw [show a + 1 - 1 = a by omega, t1, t2]; decide))) (fun y => by rw [t2] at y; exact absurd y.1 (by decide))
    have s2 := SEG.tok T sB (adv (adv (adv (ax_u2 sm 84 70 0) (a + 1)) (a + 2)) (a + 3)) sn rp K (a + 2) N (Or.inl (by rw [show a + 2 - 1 = a + 1 by omega, t2, t3]; decide)) (fun y => by rw [t3] at y; exact absurd y.1 (by decide))
    refine ((s0.merge s1).merge s2).addn v4 (fun n hn => g8.2.2.2.2.2.2.2.2.2.2.2.2.2.1 48 n (by decide) (by decide) (by omega)) (g8.2.2.2.2.2.2.2.2.2.2.2.2.2.2.2.1 37 (by omega)) (by decide) (by omega) (fun i hi => absurd hi (by omega)) (by rw [cA 68 (by decide) (by decide)]; exact e10) (by rw [cA 46 (by decide) (by decide)]; exact e11) (fun y => absurd y (by decide))
  · have nk : NOK T (sc0 37) (f_264 (N : Int) (a : Int) (-1) (f_263 0 (a : Int) (a : Int) ((a + 2 : Nat) : Int) (adv (adv (adv (ax_u2 sm 84 70 0) (a + 1)) (a + 2)) (a + 3))).2) N ↔ (1 ≤ T.vl (a + 2) ∧ T.vl (a + 2) ≤ 32 ∧ T.vl a < 2 ^ (T.vl (a + 2)).toNat) := by
      unfold NOK
      rw [v4.2.2.2.1, v4.2.2.2.2.2.1, v4.2.2.2.2.2.2.1, Int.toNat_natCast, Int.toNat_natCast]
      exact ⟨fun y => y.1 rfl, fun y => ⟨fun _ => y, by simp, by simp, by simp⟩⟩
    rw [nk, ← cnB]
    unfold CN
    rw [r125 (by decide), r123 (by decide), g4]
/-- a value that is none -/
theorem leaf_value_bad (hT : TWF T) (h : P1 T sc0 sm0 sn rp a0 N0 K0 base W O op sc sm a N K q b) (t1 : T.tk a = 2) (t : T.tk (a + 1) ≠ 58 ∨ (T.tk (a + 1) = 58 ∧ T.tk (a + 2) ≠ 2)) :
    ∃ s' mD : Sg, f_48 sc = some (.inr (15, s')) ∧ BDc T sc s' ∧ f_260 sm = some (0, mD) ∧ BDm sm mD := by
  obtain ⟨e1, e2, e3, e4, e5, e6, e7, e8, e9, e10, e11, e12, e13, e14, e15, e16, e17, e18, e19, e20, e21, e22, e23⟩ := id h.1
  have h59 := h.2.1
  have hA := h.2.2.2.2
  have hKN := h.2.2.2.1
  have hz := hT.lt e3.2.2 (by rw [t1]; decide)
  have h8 := hT.1
  have bd := STK.bd _ _ _ _ h.2.2.1
  have c1 := c81 e1 hT hz
  have cc1 := cur_cc (a := a + 1) e1
  have cu1 : CU T (cur T sc (a + 1)) (a + 1) := cur_cu (by omega)
  have hM0 : MC T (ax_u2 sm 84 70 0) := e2.row (by simp [ax_u2]) (by funext x; simp [ax_u2])
  have u0 : (ax_u2 sm 84 70 0) 84 18 = (a : Int) := by simpa [ax_u2] using e4
  have f0 : (ax_u2 sm 84 70 0) 84 6 = 0 := by simpa [ax_u2] using e5
  have hM1 := adv_mc (a := a + 1) hM0
  have f1 : (adv (ax_u2 sm 84 70 0) (a + 1)) 84 6 = 0 := by rw [adv_col (by decide)]; exact f0
  have fin : ∀ (mF : Sg) (x : Int), EFm sm mF → 0 < mF 84 6 → mF 84 47 = sm 84 47 → mF 84 57 = sm 84 57 → mF 84 59 = sm 84 59 → ∃ mD : Sg, (gd (g_263 0 (a : Int) (a : Int) x mF) ((some (f_263 0 (a : Int) (a : Int) x mF)).bind fun q22 => gd (g_264 q22.1 (a : Int) (-1) q22.2) ((some (f_264 q22.1 (a : Int) (-1) q22.2)).bind fun q23 => some ((0 : Int), q23)))) = some (0, mD) ∧ BDm sm mD := by
    intro mF x k1 k2 k3 k4 k5
    obtain ⟨v1, v2, v3, v4⟩ := m263 (s := mF) (N := N) (K := K) (o := O + b) (by rw [k3]; exact e6.2.1) (by rw [k4]; exact e6.2.2.1) (by rw [k5]; exact h59) (by omega) (by omega) 0 (a : Int) (a : Int) x
    refine ⟨_, ?_, k1.trans v4.ef, ?_⟩
    · rw [gd_pos v1, Option.bind_some, v2, gd_pos v3, Option.bind_some]
    · rw [v4.2.2.2.2.2.2.2.2.2.2.2.2.2.2.2.2.2.2.2 6 (by decide) (by decide) (by decide)]
      exact k2
  have pre : ∀ mF : Sg, ∀ x : Int, (f_231 17 (adv (ax_u2 sm 84 70 0) (a + 1))).bind (fun q20 => (f_231 2 q20.2).bind fun q21 => some q21) = some (x, mF) → f_260 sm = (gd (g_263 0 (a : Int) (a : Int) x mF) ((some (f_263 0 (a : Int) (a : Int) x mF)).bind fun q22 => gd (g_264 q22.1 (a : Int) (-1) q22.2) ((some (f_264 q22.1 (a : Int) (-1) q22.2)).bind fun q23 => some ((0 : Int), q23)))) := by
    intro mF x hx
    unfold f_260
    rw [if_pos (by omega), eatN hM0 hT u0 e3.2.2 (k := 126) (by decide) (by decide) (by rw [t1]; decide)]
    rw [if_neg (by simp), eatN hM0 hT u0 e3.2.2 (k := 45) (by decide) (by decide) (by rw [t1]; decide)]
    rw [if_pos rfl, eatN hM0 hT u0 e3.2.2 (k := 40) (by decide) (by decide) (by rw [t1]; decide)]
    rw [if_pos rfl, eatY hM0 hT f0 u0 e3.2.2 (k := 2) (by decide) t1]
    rw [if_neg (by simp)]
    obtain ⟨y1, y2, y3⟩ := bd_some hx
    obtain ⟨y4, y5, y6⟩ := bd_some y3
    cases y6
    rw [y2, Option.bind_some, y5, Option.bind_some, e4]
  unfold f_48
  rw [e3.1, gd_pos c1.2, c92y hT e1 e3 t1 (by decide)]
  show ∃ s' mD : Sg, xb (f_92 58 (cur T sc (a + 1))) _ = _ ∧ _
  rcases t with t | ⟨t, t'⟩
  · obtain ⟨mD, d1, d2⟩ := fin (tel (adv (ax_u2 sm 84 70 0) (a + 1)) 2 (a + 1)) 0 ((s70_ef.trans adv_ef).trans tel_ef) (by rw [tel_at]; decide) (by rw [tel_col (by decide) (by decide), adv_col (by decide)]; exact u2_col _ _ _ (by decide)) (by rw [tel_col (by decide) (by decide), adv_col (by decide)]; exact u2_col _ _ _ (by decide)) (by rw [tel_col (by decide) (by decide), adv_col (by decide)]; exact u2_col _ _ _ (by decide))
    refine ⟨cur T sc (a + 1), mD, ?_, ⟨cur_ef, _, cu1⟩, ?_, d2⟩
    · rw [c92n cu1 t]
      rfl
    · rw [← d1]
      apply pre
      rw [takeN hM1 hT f1 adv_at (by omega) (k := 58) (by decide) (by decide) t, Option.bind_some]
      dsimp only
      rw [takeF (by rw [tel_at]; decide)]
      rfl
  · have z1 := hT.lt (show a + 1 ≤ T.z by omega) (by rw [t]; decide)
    have hM2 := adv_mc (a := a + 2) hM1
    have f2 : (adv (adv (ax_u2 sm 84 70 0) (a + 1)) (a + 2)) 84 6 = 0 := by rw [adv_col (by decide)]; exact f1
    obtain ⟨mD, d1, d2⟩ := fin (tel (adv (adv (ax_u2 sm 84 70 0) (a + 1)) (a + 2)) 2 (a + 2)) 0 (((s70_ef.trans adv_ef).trans adv_ef).trans tel_ef) (by rw [tel_at]; decide) (by rw [tel_col (by decide) (by decide), adv_col (by decide), adv_col (by decide)]; exact u2_col _ _ _ (by decide)) (by rw [tel_col (by decide) (by decide), adv_col (by decide), adv_col (by decide)]; exact u2_col _ _ _ (by decide)) (by rw [tel_col (by decide) (by decide), adv_col (by decide), adv_col (by decide)]; exact u2_col _ _ _ (by decide))
    have cu2 : CU T (cur T (cur T sc (a + 1)) (a + 2)) (a + 2) := cur_cu (by omega)
    refine ⟨cur T (cur T sc (a + 1)) (a + 2), mD, ?_, ⟨cur_ef.trans cur_ef, _, cu2⟩, ?_, d2⟩
    · rw [c92y hT cc1 cu1 t (by decide)]
      show xb (f_93 1 32 (cur T (cur T sc (a + 1)) (a + 2))) _ = _
      rw [c93n cu2 t']
      rfl
    · rw [← d1]
      apply pre
      rw [takeY hM1 hT f1 adv_at (by omega) (k := 58) (by decide) t, Option.bind_some]
      dsimp only
      rw [takeN hM2 hT f2 adv_at (by omega) (k := 2) (by decide) (by decide) t']
      rfl
end LEAF2
/-! OPERANDS without others in them: a call of nothing; none at all; prefixes. -/
section LEAF3
variable {T : TT} {sc0 sm0 sc sm sB mB sD sH mD s : Sg} {sn rp : Int} {a0 N0 K0 base W O op a a' N K q b : Nat}
theorem leaf_call0 {ex : Int → Sg → Option (Sum Sg (Nat × Sg))} {d : Int} (hT : TWF T) (h : P1 T sc0 sm0 sn rp a0 N0 K0 base W O op sc sm a N K q b) (t1 : T.tk a = 1) (t2 : T.tk (a + 1) = 40) (t3 : T.tk (a + 2) = 41) :
    ∃ sN sH mD : Sg, f_53 ex d 3 sc = some (.inl sN) ∧ f_54 (a : Int) sN = some sH ∧ f_260 sm = some (0, mD) ∧ P2 T sc0 sm0 sn rp a0 N0 K0 base W O op sH mD (a + 3) (N + 1) (K + 0) q b N a := by
  obtain ⟨e1, e2, e3, e4, e5, e6, e7, e8, e9, e10, e11, e12, e13, e14, e15, e16, e17, e18, e19, e20, e21, e22, e23⟩ := id h.1
  have h59 := h.2.1
  have hA := h.2.2.2.2
  have hKN := h.2.2.2.1
  have hz := hT.lt e3.2.2 (by rw [t1]; decide)
  have h8 := hT.1
  have bd := STK.bd _ _ _ _ h.2.2.1
  have z1 := hT.lt (show a + 1 ≤ T.z by omega) (by rw [t2]; decide)
  have z2 := hT.lt (show a + 2 ≤ T.z by omega) (by rw [t3]; decide)
  have cc1 := cur_cc (a := a + 1) e1
  have cu1 : CU T (cur T sc (a + 1)) (a + 1) := cur_cu (by omega)
  have cc2 := cur_cc (a := a + 2) cc1
  have cu2 : CU T (cur T (cur T sc (a + 1)) (a + 2)) (a + 2) := cur_cu (by omega)
  have rB : ∀ c, c ≠ 39 → (cur T (cur T (cur T sc (a + 1)) (a + 2)) (a + 3)) c = sc c := fun c x => by rw [cur_row x, cur_row x, cur_row x]
  have sB46 : (cur T (cur T (cur T sc (a + 1)) (a + 2)) (a + 3)) 46 7 = (N : Int) := by rw [rB 46 (by decide)]; exact e6.1
  obtain ⟨g1, g2, g3, g4⟩ := c124 sB46 (by omega) 3 (a : Int) (-1) 0 10
  have hcD := g3.ef.cc (cur_cc (a := a + 3) cc2)
  obtain ⟨sH, k1, k2, k3⟩ := hide_c hT hcD g3 (by omega) g4 hz t1
  have hM0 : MC T (ax_u2 sm 84 70 0) := e2.row (by simp [ax_u2]) (by funext x; simp [ax_u2])
  have u0 : (ax_u2 sm 84 70 0) 84 18 = (a : Int) := by simpa [ax_u2] using e4
  have f0 : (ax_u2 sm 84 70 0) 84 6 = 0 := by simpa [ax_u2] using e5
  have hM1 := adv_mc (a := a + 1) hM0
  have f1 : (adv (ax_u2 sm 84 70 0) (a + 1)) 84 6 = 0 := by rw [adv_col (by decide)]; exact f0
  have hM2 := adv_mc (a := a + 2) hM1
  have f2 : (adv (adv (ax_u2 sm 84 70 0) (a + 1)) (a + 2)) 84 6 = 0 := by rw [adv_col (by decide)]; exact f1
  have cA : ∀ j, j ≠ 18 → j ≠ 70 → (adv (adv (adv (ax_u2 sm 84 70 0) (a + 1)) (a + 2)) (a + 3)) 84 j = sm 84 j := fun j x y => by rw [adv_col x, adv_col x, adv_col x]; exact u2_col _ _ _ y
  obtain ⟨v1, v2, v3, v4⟩ := m263 (s := adv (adv (adv (ax_u2 sm 84 70 0) (a + 1)) (a + 2)) (a + 3)) (N := N) (K := K) (o := O + b) (by rw [cA 47 (by decide) (by decide)]; exact e6.2.1) (by rw [cA 57 (by decide) (by decide)]; exact e6.2.2.1) (by rw [cA 59 (by decide) (by decide)]; exact h59) (by omega) (by omega) 3 (a : Int) (a : Int) (-1)
  refine ⟨_, sH, _, ?_, k1, ?_, LEAF hT h (sB := cur T (cur T (cur T sc (a + 1)) (a + 2)) (a + 3)) (mB := adv (adv (adv (ax_u2 sm 84 70 0) (a + 1)) (a + 2)) (a + 3)) (fun c x _ => rB c x) (fun j x y => by rw [cur_col x y, cur_col x y, cur_col x y]) (fun j _ => by rw [rB 30 (by decide)]) (fun c x => by rw [adv_row x, adv_row x, adv_row x]; exact u2_row _ _ _ x) cA (cur_cu (by omega)) adv_at (by omega) k2 v4 (Or.inr (Or.inr rfl)) ?_ ?_ ?_ (by rw [show a + 3 - 1 = a + 2 by omega, t3]; decide) (by rw [adv_col (by decide), adv_col (by decide), adv_col (by decide)]; exact u2_same _ _ _ _)⟩
  · unfold f_53
    rw [nxt hT e1 e3 (by rw [t1]; decide), c92y hT cc1 cu1 t2 (by decide)]
    obtain ⟨F, hF⟩ := FU_split (k := 1) (by omega)
    show j_53_70 ex FU d 3 (sc 39 10) _ (-1) (-1) 0 _ (cur T (cur T sc (a + 1)) (a + 2)) = _
    have eL : ((if ¬ (3 : Int) = 6 then 0 else 2) : Int) = 0 := by decide
    rw [eL, cu2.2.1, t3, hF, j_53_70]
    rw [if_pos (by decide)]
    unfold j_53_171
    rw [c92y hT cc2 cu2 t3 (by decide), e3.1]
    show gd _ _ = _
    rw [gd_pos g1, Option.bind_some, g2]
    rfl
  · unfold f_260
    rw [if_pos (by omega), eatN hM0 hT u0 e3.2.2 (k := 126) (by decide) (by decide) (by rw [t1]; decide)]
    rw [if_neg (by simp), eatN hM0 hT u0 e3.2.2 (k := 45) (by decide) (by decide) (by rw [t1]; decide)]
    rw [if_pos rfl, eatN hM0 hT u0 e3.2.2 (k := 40) (by decide) (by decide) (by rw [t1]; decide)]
    rw [if_pos rfl, eatN hM0 hT u0 e3.2.2 (k := 2) (by decide) (by decide) (by rw [t1]; decide)]
    rw [if_pos rfl, eatN hM0 hT u0 e3.2.2 (k := 25) (by decide) (by decide) (by rw [t1]; decide)]
    rw [if_neg (by simp), eatN hM0 hT u0 e3.2.2 (k := 26) (by decide) (by decide) (by rw [t1]; decide)]
    rw [if_neg (by simp), eatN hM0 hT u0 e3.2.2 (k := 27) (by decide) (by decide) (by rw [t1]; decide)]
    rw [if_pos rfl, takeY hM0 hT f0 u0 e3.2.2 (k := 1) (by decide) t1, Option.bind_some]
    dsimp only
    rw [if_pos (by omega), eatN hM1 hT adv_at (by omega) (k := 91) (by decide) (by decide) (by rw [t2]; decide)]
    rw [if_pos rfl, eatY hM1 hT f1 adv_at (by omega) (k := 40) (by decide) t2]
    rw [if_neg (by simp), eatY hM2 hT f2 adv_at (by omega) (k := 41) (by decide) t3]
    rw [if_pos (by simp), e4, gd_pos v1, Option.bind_some, v2, gd_pos v3, Option.bind_some]
  · unfold NV
    rw [v4.2.2.2.1, v4.2.2.2.2.1, v4.2.2.2.2.2.1, k2.2.2.1, k2.2.2.2.1]
    refine ⟨by simp, by simp, by simp, fun _ _ => ⟨a, rfl, rfl, hz, t1, rfl⟩, by simp⟩
  · have s0 := SEG.nil T (cur T (cur T (cur T sc (a + 1)) (a + 2)) (a + 3)) (adv (adv (adv (ax_u2 sm 84 70 0) (a + 1)) (a + 2)) (a + 3)) sn rp K (a + 2) N
    exact s0.call v4 (fun n hn => k2.2.2.2.2.2.2.2.2.2.2.2.2.2.1 48 n (by decide) (by decide) (by omega)) (k2.2.2.2.2.2.2.2.2.2.2.2.2.2.2.2.1 37 (by omega)) (fun i hi => absurd hi (by omega)) (by rw [cA 68 (by decide) (by decide)]; exact e10) (by rw [cA 46 (by decide) (by decide)]; exact e11) k2.2.2.1 t1 t2 t3 (Or.inl ⟨hA, by rw [t1]; decide⟩) (Or.inr (Or.inr (Or.inl (by rw [t1, t2]; decide)))) (Or.inr (Or.inr (Or.inr (Or.inr (Or.inl (by rw [show a + 2 - 1 = a + 1 by omega, t2, t3]; decide))))))
  · have nk : NOK T (sc0 37) (f_264 (N : Int) (a : Int) (-1) (f_263 3 (a : Int) (a : Int) (-1) (adv (adv (adv (ax_u2 sm 84 70 0) (a + 1)) (a + 2)) (a + 3))).2) N ↔ sc0 37 (T.vl a).toNat = 0 := by
      unfold NOK
      rw [v4.2.2.2.1, v4.2.2.2.2.2.1, Int.toNat_natCast]
      simp
    rw [k3, nk, rB 37 (by decide), e14.1 37 (by omega)]
    have : CN (cur T (cur T (cur T sc (a + 1)) (a + 2)) (a + 3)) ↔ CN sc := by unfold CN; rw [rB 30 (by decide)]
    rw [this]
    exact ⟨fun h => ⟨h.1, by rcases h.2 with y | y; exact absurd y (by decide); exact y⟩, fun h => ⟨h.1, Or.inr h.2⟩⟩
/-- no operand -/
theorem prim_bad (hT : TWF T) (h : P1 T sc0 sm0 sn rp a0 N0 K0 base W O op sc sm a N K q b) (t1 : T.tk a ∉ opS) :
    f_47 sc = some (.inr (15, sc)) ∧ ∃ mD : Sg, f_260 sm = some (0, mD) ∧ BDm sm mD := by
  obtain ⟨e1, e2, e3, e4, e5, e6, e7, e8, e9, e10, e11, e12, e13, e14, e15, e16, e17, e18, e19, e20, e21, e22, e23⟩ := id h.1
  have n1 : ∀ c, c ∈ opS → T.tk a ≠ c := fun c hc e => t1 (by rw [e]; exact hc)
  have hM0 : MC T (ax_u2 sm 84 70 0) := e2.row (by simp [ax_u2]) (by funext x; simp [ax_u2])
  have u0 : (ax_u2 sm 84 70 0) 84 18 = (a : Int) := by simpa [ax_u2] using e4
  have f0 : (ax_u2 sm 84 70 0) 84 6 = 0 := by simpa [ax_u2] using e5
  refine ⟨?_, tel (ax_u2 sm 84 70 0) 2 a, ?_, s70_ef.trans tel_ef, by rw [tel_at]; decide⟩
  · unfold f_47
    rw [e3.2.1, if_neg (n1 1 (by decide)), if_neg (n1 2 (by decide)), if_neg (n1 25 (by decide)), if_neg (n1 26 (by decide)), if_neg (n1 27 (by decide)), if_neg (n1 40 (by decide))]
  · unfold f_260
    rw [if_pos (by omega), eatN hM0 hT u0 e3.2.2 (k := 126) (by decide) (by decide) (n1 _ (by decide))]
    rw [if_neg (by simp), eatN hM0 hT u0 e3.2.2 (k := 45) (by decide) (by decide) (n1 _ (by decide))]
    rw [if_pos rfl, eatN hM0 hT u0 e3.2.2 (k := 40) (by decide) (by decide) (n1 _ (by decide))]
    rw [if_pos rfl, eatN hM0 hT u0 e3.2.2 (k := 2) (by decide) (by decide) (n1 _ (by decide))]
    rw [if_pos rfl, eatN hM0 hT u0 e3.2.2 (k := 25) (by decide) (by decide) (n1 _ (by decide))]
    rw [if_neg (by simp), eatN hM0 hT u0 e3.2.2 (k := 26) (by decide) (by decide) (n1 _ (by decide))]
    rw [if_neg (by simp), eatN hM0 hT u0 e3.2.2 (k := 27) (by decide) (by decide) (n1 _ (by decide))]
    rw [if_pos rfl, takeN hM0 hT f0 u0 e3.2.2 (k := 1) (by decide) (by decide) (n1 _ (by decide)), Option.bind_some]
    dsimp only
    rw [if_neg (by rw [tel_at]; decide)]
/-- a prefix -/
theorem pre_step (hT : TWF T) (h : P1 T sc0 sm0 sn rp a0 N0 K0 base W O op sc sm a N K q b) (t1 : T.tk a = 126 ∨ T.tk a = 45) :
    ∃ sc' sm1 : Sg, (∀ F l : Nat, l ≤ 8192 → j_46_2 (F + 1) (l : Int) sc = j_46_2 F ((l + 1 : Nat) : Int) sc') ∧ f_260 sm = some (1, sm1) ∧ sm1 84 70 = 1 ∧ sm1 84 6 = 0 ∧ P1 T sc0 sm0 sn rp a0 N0 K0 base W O op sc' (ax_u2 sm1 84 70 0) (a + 1) N K (q + 1) b := by
  obtain ⟨e1, e2, e3, e4, e5, e6, e7, e8, e9, e10, e11, e12, e13, e14, e15, e16, e17, e18, e19, e20, e21, e22, e23⟩ := id h.1
  have h59 := h.2.1
  have hS := h.2.2.1
  have hA := h.2.2.2.2
  have hKN := h.2.2.2.1
  have hz := hT.lt e3.2.2 (by rcases t1 with e | e <;> rw [e] <;> decide)
  have h8 := hT.1
  have bd := STK.bd _ _ _ _ h.2.2.1
  have hM0 : MC T (ax_u2 sm 84 70 0) := e2.row (by simp [ax_u2]) (by funext x; simp [ax_u2])
  have u0 : (ax_u2 sm 84 70 0) 84 18 = (a : Int) := by simpa [ax_u2] using e4
  have f0 : (ax_u2 sm 84 70 0) 84 6 = 0 := by simpa [ax_u2] using e5
  obtain ⟨k, hk⟩ : ∃ k : Int, k = if T.tk a = 126 then 8 else 9 := ⟨_, rfl⟩
  have k89 : k = 8 ∨ k = 9 := by rw [hk]; split <;> simp
  have p61 : g_61 k (-1) (a : Int) sc ∧ f_61 k (-1) (a : Int) sc = ax_u2 (ax_u2 (ax_u2 (ax_u2 sc 67 (base + q) k) 68 (base + q) (-1)) 69 (base + q) (a : Int)) 66 7 ((base + q + 1 : Nat) : Int) := by
    unfold g_61 f_61
    rw [e7]
    refine ⟨⟨fun _ => trivial, fun _ => ⟨⟨by omega, by omega⟩, ⟨by omega, by omega⟩, ⟨by omega, by omega⟩, trivial⟩⟩, ?_⟩
    rw [if_neg (by omega), Int.toNat_natCast, w32_nat (by omega)]
  obtain ⟨sp, hsp⟩ : ∃ sp : Sg, sp = ax_u2 (ax_u2 (ax_u2 (ax_u2 sc 67 (base + q) k) 68 (base + q) (-1)) 69 (base + q) (a : Int)) 66 7 ((base + q + 1 : Nat) : Int) := ⟨_, rfl⟩
  obtain ⟨mp, hmp⟩ : ∃ mp : Sg, mp = ax_u2 (ax_u2 (ax_u2 (ax_u2 (adv (ax_u2 sm 84 70 0) (a + 1)) 129 (W + q) k) 130 (W + q) (a : Int)) 84 63 ((W + q + 1 : Nat) : Int)) 84 70 1 := ⟨_, rfl⟩
  have rS : ∀ c, ¬ (67 ≤ c ∧ c ≤ 69 ∨ c = 66) → sp c = sc c := fun c x => by
    rw [hsp, u2_row _ _ _ (by omega), u2_row _ _ _ (by omega), u2_row _ _ _ (by omega), u2_row _ _ _ (by omega)]
  have iS : ∀ c i, 67 ≤ c → c ≤ 69 → i ≠ base + q → sp c i = sc c i := fun c i x y w => by
    rw [hsp]; simp [ax_u2, w, show c ≠ 66 by omega]
  have rM : ∀ c, ¬ (c = 84 ∨ c = 129 ∨ c = 130) → mp c = sm c := fun c x => by
    rw [hmp, u2_row _ _ _ (by omega), u2_row _ _ _ (by omega), u2_row _ _ _ (by omega), u2_row _ _ _ (by omega), adv_row (by omega), u2_row _ _ _ (by omega)]
  have iM : ∀ c i, 129 ≤ c → c ≤ 131 → i ≠ W + q → mp c i = sm c i := fun c i x y w => by
    rw [hmp]; simp [ax_u2, adv, w, show c ≠ 84 by omega]
  have cM : ∀ j, j ≠ 18 → j ≠ 63 → j ≠ 70 → mp 84 j = sm 84 j := fun j x y w => by
    rw [hmp]; simp [ax_u2, adv, x, y, w]
  have ccp : CC T sp := e1.row (by rw [rS 39 (by omega)]) (rS 41 (by omega)) (rS 42 (by omega)) (rS 44 (by omega)) (by rw [rS 31 (by omega)]) (rS 1 (by omega))
  have cup : CU T sp a := by unfold CU at *; rw [rS 39 (by omega)]; exact e3
  have rC : ∀ c, c ≠ 39 → (cur T sp (a + 1)) c = sp c := fun c x => cur_row x
  refine ⟨cur T sp (a + 1), mp, ?_, ?_, by rw [hmp]; exact u2_same _ _ _ _, by rw [cM 6 (by decide) (by decide) (by decide)]; exact e5, ?_⟩
  · intro F l hl
    have fin : j_46_68 (j_46_2 F) (l : Int) sp = j_46_2 F ((l + 1 : Nat) : Int) (cur T sp (a + 1)) := by
      unfold j_46_68
      rw [nxt hT ccp cup (by rcases t1 with e | e <;> rw [e] <;> decide), w32_nat (by omega)]
    rw [j_46_2, if_neg (by omega), e3.2.1, e3.1]
    rcases t1 with e | e
    · rw [e, if_pos rfl] at hk
      rw [if_neg (by simp [e])]
      rw [hk] at p61
      rw [gd_pos p61.1, p61.2, Option.bind_some]
      rw [hk] at hsp
      rw [← hsp]
      exact fin
    · rw [e, if_neg (by decide)] at hk
      rw [if_pos (by rw [e]; decide), if_neg (by simp [e])]
      rw [hk] at p61
      rw [gd_pos p61.1, p61.2, Option.bind_some]
      rw [hk] at hsp
      rw [← hsp]
      exact fin
  · have fin : j_260_37 (a : Int) (adv (ax_u2 sm 84 70 0) (a + 1)) = some (1, mp) := by
      have a63 : (adv (ax_u2 sm 84 70 0) (a + 1)) 84 63 = ((W + q : Nat) : Int) := by rw [adv_col (by decide)]; simpa [ax_u2] using e8
      have a88 : (adv (ax_u2 sm 84 70 0) (a + 1)) 88 a = km (T.tk a) := by rw [adv_row (by decide)]; rw [u2_row _ _ _ (by decide)]; exact e2.2 a e3.2.2
      unfold j_260_37
      rw [gd_pos (by omega), a63, gd_pos (by omega), gd_pos (by omega), Int.toNat_natCast, Int.toNat_natCast, w32_nat (by omega), a88]
      have : ((if ¬ km (T.tk a) = 25 then 9 else 8) : Int) = k := by
        rw [hk]
        rcases t1 with e | e <;> rw [e] <;> decide
      rw [this, hmp]
    unfold f_260
    rw [if_pos (by omega), e4]
    rcases t1 with e | e
    · rw [eatY hM0 hT f0 u0 e3.2.2 (k := 126) (by decide) e]
      rw [if_pos (by simp)]
      exact fin
    · rw [eatN hM0 hT u0 e3.2.2 (k := 126) (by decide) (by decide) (by rw [e]; decide)]
      rw [if_neg (by simp), eatY hM0 hT f0 u0 e3.2.2 (k := 45) (by decide) e]
      rw [if_neg (by simp)]
      exact fin
  · have rM2 : ∀ c, ¬ (c = 84 ∨ c = 129 ∨ c = 130) → (ax_u2 mp 84 70 0) c = sm c := fun c x => by rw [u2_row _ _ _ (by omega)]; exact rM c x
    have iM2 : ∀ c i, 129 ≤ c → c ≤ 131 → i ≠ W + q → (ax_u2 mp 84 70 0) c i = sm c i := fun c i x y w => by rw [u2_row _ _ _ (by omega)]; exact iM c i x y w
    have cM2 : ∀ j, j ≠ 18 → j ≠ 63 → j ≠ 70 → (ax_u2 mp 84 70 0) 84 j = sm 84 j := fun j x y w => by rw [u2_col _ _ _ w]; exact cM j x y w
    have xB : XF sc sm (cur T sp (a + 1)) (ax_u2 mp 84 70 0) a (a + 1) N K (base + q) (W + q) (O + b) := ⟨fun k x => ⟨by rw [rC 45 (by decide), rS 45 (by omega)], by rw [rM2 91 (by omega)], by rw [rM2 92 (by omega)]⟩, fun c n x y _ => by rw [rC c (by omega), rS c (by omega)], fun c n x y _ => by rw [rM2 c (by omega)], fun j _ => by rw [rM2 125 (by omega)], fun c n x y _ => by rw [rC c (by omega), iS c n x y (by omega)], fun c n x y _ => by rw [rM2 c (by omega)], fun c n x y _ => iM2 c n x y (by omega), fun k _ => by rw [rM2 132 (by omega)]⟩
    have ec : EFc sc (cur T sp (a + 1)) := ⟨fun c x => by rw [rC c (by omega), rS c (by omega)], fun j x y => by rw [cur_col x y, rS 39 (by omega)], fun j _ => by rw [rC 30 (by decide), rS 30 (by omega)]⟩
    have em : EFm sm (ax_u2 mp 84 70 0) := ⟨fun c x => rM2 c (by omega), fun j x => cM2 j (by omega) (by omega) (by omega)⟩
    have nd : ND T (cur T sp (a + 1)) (ax_u2 mp 84 70 0) N K := e6.congr (by rw [rC 46 (by decide), rS 46 (by omega)]) (cM2 47 (by decide) (by decide) (by decide)) (cM2 57 (by decide) (by decide) (by decide)) (fun c n x y _ => by rw [rC c (by omega), rS c (by omega)]) (fun c n x y _ => by rw [rM2 c (by omega)]) (fun j _ => by rw [rM2 125 (by omega)])
    have s67 : (cur T sp (a + 1)) 67 (base + q) = k := by rw [rC 67 (by decide), hsp]; simp [ax_u2]
    have pk : T.tk a ∈ opA ∧ T.tk a ∈ opS ∧ T.tk a ≠ 1 := by rcases t1 with e | e <;> rw [e] <;> decide
    refine ⟨h.1.gen (xB.mono e22 (Nat.le_refl _) e21 e20 (by omega) (by omega) (by omega)) ec em (cur_cu (by omega)) ?_ ?_ nd ?_ ?_ ?_ ?_ (fun c n x y _ => by rw [rM2 c (by omega)]) (Nat.le_refl _) (Nat.le_refl _) (by omega), ?_, ?_, hKN, by rw [show a + 1 - 1 = a by omega]; exact pk.1⟩
    · rw [u2_col _ _ _ (by decide), hmp]; simp [ax_u2, adv]
    · rw [cM2 6 (by decide) (by decide) (by decide)]; exact e5
    · rw [rC 66 (by decide), hsp, u2_same]; omega
    · rw [u2_col _ _ _ (by decide), hmp]; simp [ax_u2, adv]; omega
    · rw [cM2 67 (by decide) (by decide) (by decide)]; exact e9
    · have : CN (cur T sp (a + 1)) ↔ CN sc := by unfold CN; rw [rC 30 (by decide), rS 30 (by omega)]
      rw [this]
      exact ⟨fun y => ⟨y, fun n y1 y2 => absurd y2 (by omega)⟩, fun y => y.1⟩
    · rw [cM2 59 (by decide) (by decide) (by decide)]; exact h59
    · refine Or.inl ⟨a, by rw [s67]; exact k89, ?_, ?_, ?_, rfl, ?_, SEG.tok T _ _ sn rp K a N (Or.inl ⟨hA, pk.2.1⟩) (fun y => pk.2.2 y.1), STK.xf (by rw [rC 37 (by decide), rS 37 (by omega)]) (rM2 93 (by omega)) _ _ _ _ hS xB⟩
      · rw [s67, u2_row _ _ _ (by decide), hmp]; simp [ax_u2]
      · rw [rC 69 (by decide), hsp]; simp [ax_u2]
      · rw [u2_row _ _ _ (by decide), hmp]; simp [ax_u2]
      · exact (e12 a (Nat.le_refl _) hz).lf.congr (by rw [rC 45 (by decide), rS 45 (by omega)]) (by rw [rM2 91 (by omega)]) (by rw [rM2 92 (by omega)]) (by rw [rM2 93 (by omega)])
/-- the reference, an operand being due -/
noncomputable def RP (l2 : Int) (F G : Nat) (sm : Sg) : Option (Int × Sg) := (f_260 sm).bind fun q => j_257_105 (j_257_25 F) G l2 q.1 0 q.2
/-- all prefixes -/
theorem pre_all {l2 : Int} {F : Nat} (hT : TWF T) : ∀ (r : Nat) {sc sm : Sg} {a q l : Nat} (Fc G : Nat), a + r = T.z → l ≤ a → T.z + 1 ≤ G + a → P1 T sc0 sm0 sn rp a0 N0 K0 base W O op sc sm a N K q b →
    ∃ (sc' sm' : Sg) (a' q' G' : Nat), j_46_2 (Fc + r + 1) (l : Int) sc = some sc' ∧ RP l2 F G sm = RP l2 F G' sm' ∧ P1 T sc0 sm0 sn rp a0 N0 K0 base W O op sc' sm' a' N K q' b ∧ a ≤ a' ∧ T.z + 1 ≤ G' + a' ∧ T.tk a' ≠ 126 ∧ T.tk a' ≠ 45 := by
  intro r
  induction r with
  | zero =>
    intro sc sm a q l Fc G ha hl hG h
    have h8 := hT.1
    have e3 := h.1.2.2.1
    have ta : T.tk a = 0 := by rw [show a = T.z by omega]; exact hT.2.1
    refine ⟨sc, sm, a, q, G, ?_, rfl, h, Nat.le_refl _, hG, by rw [ta]; decide, by rw [ta]; decide⟩
    rw [j_46_2, if_neg (by omega), e3.2.1, ta, if_pos (by decide), if_pos (by decide)]
  | succ r ih =>
    intro sc sm a q l Fc G ha hl hG h
    have h8 := hT.1
    have e3 := h.1.2.2.1
    by_cases t : T.tk a = 126 ∨ T.tk a = 45
    · obtain ⟨sc1, sm1, z1, z2, z3, z4, z5⟩ := pre_step hT h t
      obtain ⟨G, rfl⟩ : ∃ k, G = k + 1 := ⟨G - 1, by omega⟩
      obtain ⟨sc', sm', a', q', G', y1, y2, y3, y4, y5, y6, y7⟩ := ih (l := l + 1) Fc G (by omega) (by omega) (by omega) z5
      refine ⟨sc', sm', a', q', G', ?_, ?_, y3, by omega, y5, y6, y7⟩
      · rw [show Fc + (r + 1) + 1 = Fc + r + 1 + 1 by omega, z1 _ _ (by omega)]
        exact y1
      · rw [← y2]
        unfold RP
        rw [z2, Option.bind_some]
        dsimp only
        rw [j_257_105, if_neg (by simp [z4]), if_neg (by decide), if_neg (by simp [z3])]
    · refine ⟨sc, sm, a, q, G, ?_, rfl, h, Nat.le_refl _, hG, fun e => t (Or.inl e), fun e => t (Or.inr e)⟩
      rw [j_46_2, if_neg (by omega), e3.2.1, if_pos (fun e => t (Or.inl e)), if_pos (fun e => t (Or.inr e))]
end LEAF3
/-! OPERANDS with others in them: going in, coming out; elements. -/
/-- the reference, closing -/
noncomputable def RC (l2 : Int) (F G : Nat) (sm : Sg) : Option (Int × Sg) := (j_270_0 G sm).bind fun q3 => j_257_105 (j_257_25 F) FU l2 ((if ¬ q3.1 = 1 then 0 else 1) : Int) ((if ¬ q3.1 = 2 then 0 else 1) : Int) q3.2
/-- how an expression may come out -/
def EOUT (T : TT) (sc sm : Sg) (sn rp : Int) (a N K base W O op : Nat) (l2 : Int) (rc : Option (Sum Sg (Nat × Sg))) (rm : Option (Int × Sg)) : Prop :=
  (∃ (sc' sm' : Sg) (a' N' K' : Nat), rc = some (.inl sc') ∧ a < a' ∧ P2 T sc sm sn rp a N K base W O op sc' sm' a' N' K' 0 0 N a ∧ T.tk a ∈ opS ∧
    ((∃ F' G' : Nat, rm = RC l2 F' G' sm' ∧ T.z + 1 ≤ F' + a' ∧ 1000000 + op ≤ G' + 80 ∧ bin (T.tk a') = -1 ∧ T.tk a' ≠ 63) ∨ ((T.tk a' = 60 ∨ T.tk a' = 128 ∨ T.tk a' = 129) ∧ ∃ mF : Sg, rm = some (0, mF) ∧ BDm sm mF))) ∨
  (∃ (x : Nat) (sc' mF : Sg), rc = some (.inr (x, sc')) ∧ (x = 14 ∨ x = 15) ∧ BDc T sc sc' ∧ rm = some (0, mF) ∧ BDm sm mF)
section NEST
variable {T : TT} {sc0 sm0 sc sm sc1 sm1 sc' sm' sB mB : Sg} {sn rp : Int} {a0 N0 K0 base W O op a a1 a' a2 N N' K K' q b o : Nat}
/-- going in -/
theorem NEST.pre (hT : TWF T) (hE : EI T sc0 sm0 sn rp a0 N0 K0 base W O op sc sm a N K q) (h59 : sm 84 59 = (o : Int)) (hKo : K + o ≤ N) (hbd : N + base + q ≤ a) (hWq : W + q + 1 ≤ a1) (ha : a ≤ a1) (h1 : 1 ≤ a1)
    (rC : ∀ c, c ≠ 39 → c ≠ 45 → sc1 c = sc c) (r39 : ∀ j, j ≠ 10 → j ≠ 11 → sc1 39 j = sc 39 j) (r45 : ∀ k, k < a ∨ a1 ≤ k → sc1 45 k = sc 45 k) (hu : CU T sc1 a1)
    (rM : ∀ c, ¬ (c = 84 ∨ c = 91 ∨ c = 92 ∨ 129 ≤ c ∧ c ≤ 131) → sm1 c = sm c) (r91 : ∀ k, k < a ∨ a1 ≤ k → sm1 91 k = sm 91 k ∧ sm1 92 k = sm 92 k) (iM : ∀ c i, 129 ≤ c → c ≤ 131 → i ≠ W + q → sm1 c i = sm c i) (h100 : 100 ≤ sm1 129 (W + q)) (cM : ∀ j, j ≠ 18 → j ≠ 63 → j ≠ 67 → j ≠ 70 → sm1 84 j = sm 84 j)
    (hm : sm1 84 18 = (a1 : Int)) (h63 : sm1 84 63 = ((W + q + 1 : Nat) : Int)) (h67 : sm1 84 67 = ((op + 1 : Nat) : Int)) (hA : T.tk (a1 - 1) ∈ opA) :
    EPRE T sc1 sm1 sn rp a1 N K (base + q) (W + q + 1) o (op + 1) ∧ XF sc sm sc1 sm1 a a1 N K (base + q) (W + q) o ∧ EFc sc sc1 ∧ EFm sm sm1 := by
  obtain ⟨e1, e2, e3, e4, e5, e6, e7, e8, e9, e10, e11, e12, e13, e14, e15, e16, e17, e18, e19, e20, e21, e22, e23⟩ := id hE
  have ec : EFc sc sc1 := ⟨fun c x => rC c (by omega) (by omega), r39, fun j _ => by rw [rC 30 (by decide) (by decide)]⟩
  have em : EFm sm sm1 := ⟨fun c x => rM c (by omega), fun j x => cM j (by omega) (by omega) (by omega) (by omega)⟩
  refine ⟨⟨ec.cc e1, em.mc e2, hu, hm, by rw [cM 6 (by decide) (by decide) (by decide) (by decide)]; exact e5, ?_, by rw [rC 66 (by decide) (by decide)]; exact e7, h63, by rw [cM 59 (by decide) (by decide) (by decide) (by decide)]; exact h59, h67, by rw [cM 68 (by decide) (by decide) (by decide) (by decide)]; exact e10, by rw [cM 46 (by decide) (by decide) (by decide) (by decide)]; exact e11, ?_, Or.inr (by rw [show W + q + 1 - 1 = W + q by omega]; exact h100), by omega, hWq, hKo, h1, hA⟩, ?_, ec, em⟩
  · exact e6.congr (by rw [rC 46 (by decide) (by decide)]) (cM 47 (by decide) (by decide) (by decide) (by decide)) (cM 57 (by decide) (by decide) (by decide) (by decide)) (fun c n x y _ => by rw [rC c (by omega) (by omega)]) (fun c n x y _ => by rw [rM c (by omega)]) (fun j _ => by rw [rM 125 (by omega)])
  · intro k x y
    obtain ⟨f1, f2, f3, f4⟩ := e12 k (by omega) y
    exact ⟨by rw [r45 k (by omega)]; exact f1, by rw [(r91 k (by omega)).1]; exact f2, by rw [(r91 k (by omega)).2]; exact f3, by rw [rM 93 (by omega)]; exact f4⟩
  · exact ⟨fun k x => ⟨r45 k x, (r91 k x).1, (r91 k x).2⟩, fun c n x y _ => by rw [rC c (by omega) (by omega)], fun c n x y _ => by rw [rM c (by omega)], fun j _ => by rw [rM 125 (by omega)], fun c n x y _ => by rw [rC c (by omega) (by omega)], fun c n x y _ => by rw [rM c (by omega)], fun c n x y _ => iM c n x y (by omega), fun k _ => by rw [rM 132 (by omega)]⟩
/-- coming out -/
theorem NEST.mid (hx : XF sc sm sc1 sm1 a a1 N K (base + q) (W + q) o) (ec : EFc sc sc1) (em : EFm sm sm1) (ha : a ≤ a1) (hP : P2 T sc1 sm1 sn rp a1 N K (base + q) (W + q + 1) o (op + 1) sc' sm' a' N' K' 0 0 N a1) (ha2 : a' ≤ a2)
    (rC : ∀ c, c ≠ 39 → c ≠ 30 → c ≠ 45 → c ≠ 66 → sB c = sc' c) (r39 : ∀ j, j ≠ 10 → j ≠ 11 → sB 39 j = sc' 39 j) (r30 : ∀ j, j < 4 ∨ 7 < j → sB 30 j = sc' 30 j) (r45 : ∀ k, k < a ∨ a2 ≤ k → sB 45 k = sc' 45 k)
    (rM : ∀ c, ¬ (c = 84 ∨ c = 91 ∨ c = 92 ∨ 126 ≤ c ∧ c ≤ 128 ∨ c = 132 ∨ 129 ≤ c ∧ c ≤ 131) → mB c = sm' c) (r91 : ∀ k, k < a ∨ a2 ≤ k → mB 91 k = sm' 91 k ∧ mB 92 k = sm' 92 k) (r126 : ∀ c i, 126 ≤ c → c ≤ 128 → i < o → mB c i = sm' c i) (r129 : ∀ c i, 129 ≤ c → c ≤ 131 → i < W + q → mB c i = sm' c i) (r132 : ∀ k, k < a → mB 132 k = sm' 132 k) (cM : ∀ j, j ≠ 18 → j ≠ 63 → j ≠ 67 → mB 84 j = sm' 84 j) :
    XF sc sm sB mB a a2 N K (base + q) (W + q) o ∧ EFc sc sB ∧ EFm sm mB ∧ ND T sB mB N' K' ∧ (∀ c n, 116 ≤ c → c ≤ 124 → n < N → mB c n = sm c n) := by
  obtain ⟨e1, e2, e3, e4, e5, e6, e7, e8, e9, e10, e11, e12, e13, e14, e15, e16, e17, e18, e19, e20, e21, e22, e23⟩ := id hP.1
  have x2 : XF sc' sm' sB mB a a2 N K (base + q) (W + q) o := ⟨fun k x => ⟨r45 k x, (r91 k x).1, (r91 k x).2⟩, fun c n x y _ => by rw [rC c (by omega) (by omega) (by omega) (by omega)], fun c n x y _ => by rw [rM c (by omega)], fun j _ => by rw [rM 125 (by omega)], fun c n x y _ => by rw [rC c (by omega) (by omega) (by omega) (by omega)], r126, r129, r132⟩
  have ecB : EFc sc' sB := ⟨fun c x => rC c (by omega) (by omega) (by omega) (by omega), r39, r30⟩
  have emB : EFm sm' mB := ⟨fun c x => rM c (by omega), fun j x => cM j (by omega) (by omega) (by omega)⟩
  have x12 := hx.trans e13 ha e22 (Nat.le_refl _) (Nat.le_refl _) (Nat.le_refl _) (by omega) (Nat.le_refl _)
  have x13 := x12.trans x2 (Nat.le_refl _) ha2 (Nat.le_refl _) (Nat.le_refl _) (Nat.le_refl _) (Nat.le_refl _) (Nat.le_refl _)
  refine ⟨x13, (ec.trans e14).trans ecB, (em.trans e15).trans emB, ?_, fun c n x y w => ?_⟩
  · exact e6.congr (by rw [rC 46 (by decide) (by decide) (by decide) (by decide)]) (cM 47 (by decide) (by decide) (by decide)) (cM 57 (by decide) (by decide) (by decide)) (fun c n x y _ => by rw [rC c (by omega) (by omega) (by omega) (by omega)]) (fun c n x y _ => by rw [rM c (by omega)]) (fun j _ => by rw [rM 125 (by omega)])
  · exact x13.2.2.1 c n x y w
/-- what the reference does when it closes: what is left behind is closed first -/
theorem RC.use (hT : TWF T) (hP : P2 T sc1 sm1 sn rp a1 N K base W O op sc' sm' a' N' K' 0 0 N a1) (hw : sm' 129 (W - 1) ≠ 107) (hW : 1 ≤ W) (G : Nat) (hG : 1 ≤ G) :
    ∃ mU : Sg, j_270_0 G sm' = j_270_85 sm' ∧ f_265 (ax_w32 (sm' 84 59 - 1)) 0 sm' = some mU ∧ (∀ k, a1 ≤ k → k < a' → LF T sc' mU k) ∧ (∀ k, k < a1 ∨ a' ≤ k → mU 91 k = sm' 91 k) ∧ (∀ c, c ≠ 91 → mU c = sm' c) := by
  obtain ⟨hE, h59, hS, hO, hTop, hK, hB, h70⟩ := hP
  obtain ⟨e1, e2, e3, e4, e5, e6, e7, e8, e9, e10, e11, e12, e13, e14, e15, e16, e17, e18, e19, e20, e21, e22, e23⟩ := id hE
  obtain ⟨o1, o2, _, o6, o7, o8⟩ := id hO
  have h8 := hT.1
  have hz := e3.2.2
  have bs := o8.2.2.1
  obtain ⟨cx, qx, nx1, nx2, nx3, nx4, nx5, nr6, nr7, _⟩ := e6.2.2.2 (N' - 1) (by omega)
  have hlv := (lev_b _ nr6 nr7).1
  obtain ⟨mU, u1, u2, u3, u4⟩ := use_m (T := T) (sc := sc') (sm := sm') (o := O + 0) (l0 := a1) (l1 := a') (w := 0) (n := N' - 1) (by rw [if_pos hlv]; exact o7) (by rw [o2]; omega) nr6 nr7 (by omega) (by omega) (by omega)
  refine ⟨mU, ?_, ?_, u2, u3, u4⟩
  · obtain ⟨G, rfl⟩ : ∃ k, G = k + 1 := ⟨G - 1, by omega⟩
    have hwm : ax_w32 (sm' 84 63 - 1) = ((W - 1 : Nat) : Int) := by rw [e8, w32_id (by omega) (by omega)]; omega
    rw [j_270_0, if_neg (by omega), hwm, gd_pos (by omega), Int.toNat_natCast, if_pos hw]
  · rw [h59, w32_id (by omega) (by omega), show ((O + 0 + 1 : Nat) : Int) - 1 = ((O + 0 : Nat) : Int) by omega]
    exact u1
end NEST
/-! ELEMENTS. -/
/-- how an operand may come out -/
def OOUT (T : TT) (sc0 sm0 : Sg) (sn rp : Int) (a0 N0 K0 base W O op : Nat) (sc sm : Sg) (a N q b : Nat) (l2 : Int) (rc : Option (Sum Sg (Nat × Sg))) (rm : Option (Int × Sg)) : Prop :=
  (∃ (sN sH mD : Sg) (a' N' K' F' : Nat), rc = some (.inl sN) ∧ f_54 (a : Int) sN = some sH ∧ rm = j_257_25 F' l2 0 0 mD ∧ a < a' ∧ T.z + 2 ≤ F' + a' ∧ P2 T sc0 sm0 sn rp a0 N0 K0 base W O op sH mD a' N' K' q b N a) ∨
  (∃ (x : Nat) (s' mF : Sg), rc = some (.inr (x, s')) ∧ (x = 14 ∨ x = 15) ∧ BDc T sc s' ∧ rm = some (0, mF) ∧ BDm sm mF)
section EL
variable {T : TT} {sc0 sm0 sc sm sc1 sm1 sc' sm' sB mB s : Sg} {sn rp l2 : Int} {a0 N0 K0 base W O op a a1 a' a2 N N' K K' q b o : Nat}
theorem flt_25 {F : Nat} {v w : Int} (hF : 1 ≤ F) (hf : 0 < s 84 6) : j_257_25 F l2 v w s = some (0, s) := by
  obtain ⟨F, rfl⟩ : ∃ k, F = k + 1 := ⟨F - 1, by omega⟩
  rw [j_257_25, if_pos (by omega)]
  unfold j_257_136
  rw [if_neg (by omega)]
theorem flt_105 {F G : Nat} {v w : Int} (hF : 1 ≤ F) (hG : 1 ≤ G) (hf : 0 < s 84 6) : j_257_105 (j_257_25 F) G l2 v w s = some (0, s) := by
  obtain ⟨G, rfl⟩ : ∃ k, G = k + 1 := ⟨G - 1, by omega⟩
  rw [j_257_105, if_pos (by omega)]
  exact flt_25 hF hf
theorem go_25 {F G : Nat} {w : Int} (hG : 1 ≤ G) (hf : s 84 6 = 0) : j_257_105 (j_257_25 F) G l2 0 w s = j_257_25 F l2 0 w s := by
  obtain ⟨G, rfl⟩ : ∃ k, G = k + 1 := ⟨G - 1, by omega⟩
  rw [j_257_105, if_neg (by simp [hf]), if_pos rfl]
theorem go_25s {F G : Nat} {v w : Int} (hG : 1 ≤ G) (hf : s 84 6 = 0) (h70 : s 84 70 = 0) : j_257_105 (j_257_25 F) G l2 v w s = j_257_25 F l2 v w s := by
  obtain ⟨G, rfl⟩ : ∃ k, G = k + 1 := ⟨G - 1, by omega⟩
  rw [j_257_105, if_neg (by simp [hf])]
  split <;> first | rfl | rw [if_pos h70]
theorem FU1 : 1 ≤ FU := by unfold FU; omega
/-- the reference opens -/
theorem open_m {w x : Int} (h63 : s 84 63 = (W : Int)) (h59 : s 84 59 = (o : Int)) (h67 : s 84 67 = (op : Int)) (hW : W < 8200) (hop : op < 8200) (hw : 0 ≤ w) (hw2 : w ≤ 10) :
    g_262 w x s ∧ (f_262 w x s) 129 W = 100 + w ∧ (f_262 w x s) 130 W = x ∧ (f_262 w x s) 131 W = (o : Int) ∧ (f_262 w x s) 84 63 = ((W + 1 : Nat) : Int) ∧ (f_262 w x s) 84 67 = ((op + 1 : Nat) : Int) ∧ (∀ c, c ≠ 84 → c < 129 ∨ 131 < c → f_262 w x s c = s c) ∧ (∀ c i, c ≠ 84 → i ≠ W → f_262 w x s c i = s c i) ∧ (∀ j, j ≠ 63 → j ≠ 67 → f_262 w x s 84 j = s 84 j) := by
  have e : f_262 w x s = (ax_u2 (ax_u2 (ax_u2 (ax_u2 (ax_u2 s 129 W (100 + w)) 130 W x) 131 W (o : Int)) 84 63 ((W + 1 : Nat) : Int)) 84 67 ((op + 1 : Nat) : Int)) := by
    unfold f_262
    rw [h63, h59, h67, w32_nat (by omega), w32_nat (by omega), w32_id (by omega) (by omega), Int.toNat_natCast]
  rw [e]
  refine ⟨?_, by simp [ax_u2], by simp [ax_u2], by simp [ax_u2], by simp [ax_u2], by simp [ax_u2], ?_, ?_, ?_⟩
  · unfold g_262
    rw [h63]
    have : 0 ≤ (W : Int) ∧ (W : Int) < 8200 := by omega
    exact ⟨this, this, this, trivial⟩
  · intro c x y
    funext i
    simp [ax_u2, x, show c ≠ 129 by omega, show c ≠ 130 by omega, show c ≠ 131 by omega]
  · intro c i x y
    simp [ax_u2, x, y]
  · intro j x y
    simp [ax_u2, x, y]
theorem op_element {ex : Int → Sg → Option (Sum Sg (Nat × Sg))} {d : Nat} (hT : TWF T) (h : P1 T sc0 sm0 sn rp a0 N0 K0 base W O op sc sm a N K q b) (t1 : T.tk a = 1) (t2 : T.tk (a + 1) = 91) (hd8 : d < 80) (hop : op ≤ 80)
    (IH : ∀ (sc1 sm1 : Sg) (a1 N1 K1 base1 W1 O1 F : Nat), EPRE T sc1 sm1 sn rp a1 N1 K1 base1 W1 O1 (op + 1) → T.z + 2 ≤ F + a1 → EOUT T sc1 sm1 sn rp a1 N1 K1 base1 W1 O1 (op + 1) l2 (ex ((d + 1 : Nat) : Int) sc1) (j_257_25 F l2 1 0 sm1))
    (F G : Nat) (hF : T.z + 1 ≤ F + a) (hG : 1 ≤ G) :
    OOUT T sc0 sm0 sn rp a0 N0 K0 base W O op sc sm a N q b l2 (f_50 ex (d : Int) sc) (RP l2 F G sm) := by
  obtain ⟨e1, e2, e3, e4, e5, e6, e7, e8, e9, e10, e11, e12, e13, e14, e15, e16, e17, e18, e19, e20, e21, e22, e23⟩ := id h.1
  have h59 := h.2.1
  have hA := h.2.2.2.2
  have hKN := h.2.2.2.1
  have hz := hT.lt e3.2.2 (by rw [t1]; decide)
  have h8 := hT.1
  have bd := STK.bd _ _ _ _ h.2.2.1
  have hS := h.2.2.1
  have z1 := hT.lt (show a + 1 ≤ T.z by omega) (by rw [t2]; decide)
  have cc1 := cur_cc (a := a + 1) e1
  have cu1 : CU T (cur T sc (a + 1)) (a + 1) := cur_cu (by omega)
  have cc2 := cur_cc (a := a + 2) cc1
  have cu2 : CU T (cur T (cur T sc (a + 1)) (a + 2)) (a + 2) := cur_cu (by omega)
  have wd : ax_w32 ((d : Int) + 1) = ((d + 1 : Nat) : Int) := w32_nat (by omega)
  have hM0 : MC T (ax_u2 sm 84 70 0) := e2.row (by simp [ax_u2]) (by funext x; simp [ax_u2])
  have u0 : (ax_u2 sm 84 70 0) 84 18 = (a : Int) := by simpa [ax_u2] using e4
  have f0 : (ax_u2 sm 84 70 0) 84 6 = 0 := by simpa [ax_u2] using e5
  have hM1 := adv_mc (a := a + 1) hM0
  have f1 : (adv (ax_u2 sm 84 70 0) (a + 1)) 84 6 = 0 := by rw [adv_col (by decide)]; exact f0
  have cA : ∀ j, j ≠ 18 → j ≠ 70 → (adv (adv (ax_u2 sm 84 70 0) (a + 1)) (a + 2)) 84 j = sm 84 j := fun j x y => by rw [adv_col x, adv_col x]; exact u2_col _ _ _ y
  have rA : ∀ c, c ≠ 84 → (adv (adv (ax_u2 sm 84 70 0) (a + 1)) (a + 2)) c = sm c := fun c x => by rw [adv_row x, adv_row x]; exact u2_row _ _ _ x
  obtain ⟨p1, p2, p3, p4, p5, p6, p7, p8, p9⟩ := open_m (s := adv (adv (ax_u2 sm 84 70 0) (a + 1)) (a + 2)) (W := W + q) (o := O + b) (op := op) (w := 2) (x := (a : Int)) (by rw [cA 63 (by decide) (by decide)]; exact e8) (by rw [cA 59 (by decide) (by decide)]; exact h59) (by rw [cA 67 (by decide) (by decide)]; exact e9) (by omega) (by omega) (by decide) (by decide)
  generalize hs1 : f_262 2 (a : Int) (adv (adv (ax_u2 sm 84 70 0) (a + 1)) (a + 2)) = sm1 at *
  have hf260 : f_260 sm = some (1, sm1) := by
    unfold f_260
    rw [if_pos (by omega), eatN hM0 hT u0 e3.2.2 (k := 126) (by decide) (by decide) (by rw [t1]; decide)]
    rw [if_neg (by simp), eatN hM0 hT u0 e3.2.2 (k := 45) (by decide) (by decide) (by rw [t1]; decide)]
    rw [if_pos rfl, eatN hM0 hT u0 e3.2.2 (k := 40) (by decide) (by decide) (by rw [t1]; decide)]
    rw [if_pos rfl, eatN hM0 hT u0 e3.2.2 (k := 2) (by decide) (by decide) (by rw [t1]; decide)]
    rw [if_pos rfl, eatN hM0 hT u0 e3.2.2 (k := 25) (by decide) (by decide) (by rw [t1]; decide)]
    rw [if_neg (by simp), eatN hM0 hT u0 e3.2.2 (k := 26) (by decide) (by decide) (by rw [t1]; decide)]
    rw [if_neg (by simp), eatN hM0 hT u0 e3.2.2 (k := 27) (by decide) (by decide) (by rw [t1]; decide)]
    rw [if_pos rfl, takeY hM0 hT f0 u0 e3.2.2 (k := 1) (by decide) t1, Option.bind_some]
    dsimp only
    rw [if_pos (by omega), eatY hM1 hT f1 adv_at (by omega) (k := 91) (by decide) t2]
    rw [if_neg (by simp), e4, gd_pos p1, hs1, Option.bind_some]
  have sm1f : sm1 84 6 = 0 := by rw [p9 6 (by decide) (by decide), cA 6 (by decide) (by decide)]; exact e5
  have sm170 : sm1 84 70 = 0 := by rw [p9 70 (by decide) (by decide), adv_col (by decide), adv_col (by decide)]; exact u2_same _ _ _ _
  have hRP : RP l2 F G sm = j_257_25 F l2 1 0 sm1 := by
    unfold RP
    rw [hf260, Option.bind_some]
    exact go_25s hG sm1f sm170
  obtain ⟨hP, xx, ecx, emx⟩ := NEST.pre (o := O + b) (a1 := a + 2) (sc1 := cur T (cur T sc (a + 1)) (a + 2)) (sm1 := sm1) hT h.1 h59 (by omega) (by omega) (by omega) (by omega) (by omega) (fun c x _ => by rw [cur_row x, cur_row x]) (fun j x y => by rw [cur_col x y, cur_col x y]) (fun k _ => by rw [cur_row (by decide), cur_row (by decide)]) cu2 (fun c x => by rw [p7 c (by omega) (by omega)]; exact rA c (by omega)) (fun k _ => ⟨by rw [p7 91 (by decide) (by decide), rA 91 (by decide)], by rw [p7 92 (by decide) (by decide), rA 92 (by decide)]⟩) (fun c i x y w => by rw [p8 c i (by omega) w, rA c (by omega)]) (by rw [p2]; decide) (fun j x y w v => by rw [p9 j y w]; exact cA j x v) (by rw [p9 18 (by decide) (by decide)]; exact adv_at) p5 p6 (by rw [show a + 2 - 1 = a + 1 by omega, t2]; decide)
  have cls : f_50 ex (d : Int) sc = xb (ex ((d + 1 : Nat) : Int) (cur T (cur T sc (a + 1)) (a + 2))) fun q3 => (xb (f_92 93 q3) fun q4 => (gd (g_124 2 (a : Int) (q4 66 8) 1 q4) ((some (f_124 2 (a : Int) (q4 66 8) 1 q4)).bind fun q5 => ((f_62 q5.1 (a : Int) q5.2).bind fun q6 => some (.inl q6))))) := by
    unfold f_50
    rw [c92y hT e1 e3 t1 (by decide)]
    show xb (f_92 91 (cur T sc (a + 1))) _ = _
    rw [c92y hT cc1 cu1 t2 (by decide), e3.1, wd]
    rfl
  rw [hRP, cls]
  rcases IH _ _ _ _ _ _ _ _ F hP (by omega) with ⟨sc', sm', a', N', K', r1, r2, r3, rS', r4⟩ | ⟨x, sc', mF, r1, r2, r3, r4, r5⟩
  · rw [r1]
    obtain ⟨i1, i2, i3, i4, i5, i6, i7, i8, i9, i10, i11, i12, i13, i14, i15, i16, i17, i18, i19, i20, i21, i22, i23⟩ := id r3.1
    obtain ⟨o1, o2, ⟨st, o3, o4, o5⟩, o6, o7, o8⟩ := id r3.2.2.2.1
    obtain ⟨t1', _⟩ := id r3.2.2.2.2.1
    have hz' := i3.2.2
    have bs := o8.2.2.1
    have w129 : sm' 129 (W + q) = 102 := by rw [i13.2.2.2.2.2.2.1 129 (W + q) (by decide) (by decide) (by omega), p2]; rfl
    have w130 : sm' 130 (W + q) = (a : Int) := by rw [i13.2.2.2.2.2.2.1 130 (W + q) (by decide) (by decide) (by omega), p3]
    show OOUT T sc0 sm0 sn rp a0 N0 K0 base W O op sc sm a N q b l2 (xb (f_92 93 sc') _) _
    by_cases tc : T.tk a' = 93
    · have z3 := hT.lt hz' (by rw [tc]; decide)
      rw [c92y hT i1 i3 tc (by decide)]
      rcases r4 with ⟨F', G', y1, y2, y3, y4, y5⟩ | ⟨y1, _⟩
      · obtain ⟨mU, u0', u1, u2, u3, u4⟩ := RC.use hT r3 (by rw [show W + q + 1 - 1 = W + q by omega, w129]; decide) (by omega) G' (by omega)
        have rU : ∀ c, c ≠ 91 → c ≠ 84 → (ax_u2 (ax_u2 (adv mU (a' + 1)) 84 63 ((W + q : Nat) : Int)) 84 67 (op : Int)) c = sm' c := fun c x y => by rw [u2_row _ _ _ y, u2_row _ _ _ y, adv_row y]; exact u4 c x
        have cU : ∀ j, j ≠ 18 → j ≠ 63 → j ≠ 67 → (ax_u2 (ax_u2 (adv mU (a' + 1)) 84 63 ((W + q : Nat) : Int)) 84 67 (op : Int)) 84 j = sm' 84 j := fun j x y w => by rw [u2_col _ _ _ w, u2_col _ _ _ y, adv_col x, u4 84 (by decide)]
        obtain ⟨m1, m2, m3, m4, m5⟩ := NEST.mid (a2 := a' + 1) (sB := cur T sc' (a' + 1)) (mB := ax_u2 (ax_u2 (adv mU (a' + 1)) 84 63 ((W + q : Nat) : Int)) 84 67 (op : Int)) xx ecx emx (by omega) r3 (by omega) (fun c x _ _ _ => cur_row x) (fun j x y => cur_col x y) (fun j _ => by rw [cur_row (by decide)]) (fun k _ => by rw [cur_row (by decide)]) (fun c x => rU c (by omega) (by omega)) (fun k x => ⟨by rw [u2_row _ _ _ (by decide), u2_row _ _ _ (by decide), adv_row (by decide)]; exact u3 k (by omega), by rw [rU 92 (by decide) (by decide)]⟩) (fun c i x y _ => by rw [rU c (by omega) (by omega)]) (fun c i x y _ => by rw [rU c (by omega) (by omega)]) (fun k _ => by rw [rU 132 (by decide) (by decide)]) cU
        have sB46 : (cur T sc' (a' + 1)) 46 7 = (N' : Int) := m4.1
        obtain ⟨g1, g2, g3, g4⟩ := c124 sB46 (by omega) 2 (a : Int) ((N' : Int) - 1) 1 10
        obtain ⟨sH, k1, k2, k3⟩ := hide_c hT (g3.ef.cc (cur_cc (a := a' + 1) i1)) g3 (by omega) g4 hz t1
        obtain ⟨mD, v1, v2⟩ := m266 (s := ax_u2 (ax_u2 (adv mU (a' + 1)) 84 63 ((W + q : Nat) : Int)) 84 67 (op : Int)) (N := N') (K := K') (o := O + b) (c := 1) m4.2.1 m4.2.2.1 (by rw [cU 59 (by decide) (by decide) (by decide)]; exact r3.2.1) (by omega) (by have := r3.2.2.2.2.2.1; omega) (by have := r3.2.2.2.2.2.1; omega) (by have := r3.2.2.2.2.2.1; omega) 2 (a : Int) (a : Int) (-1)
        have hK2 := r3.2.2.2.2.2.1
        have kO : (ax_u2 (ax_u2 (adv mU (a' + 1)) 84 63 ((W + q : Nat) : Int)) 84 67 (op : Int)) 126 (O + b) = (N' : Int) - 1 := by rw [rU 126 (by decide) (by decide)]; exact o2
        refine Or.inl ⟨_, sH, mD, a' + 1, N' + 1, K' + 1, F', ?_, k1, ?_, by omega, by omega, MKP2 h.1 hS m1 m2 m3 (cur_cu (by omega)) ?_ ?_ m4 ?_ ?_ ?_ m5 ?_ k2 v2 rfl rfl (Nat.le_refl _) (by omega) (by decide) (by decide) (by simp [AR]) (by rw [if_pos (by decide), kO]) ?_ ?_ ?_ ?_ (by omega) (by omega) (by rw [show a' + 1 - 1 = a' by omega, tc]; decide) (by omega) (by omega) (by omega) ?_⟩
        · show gd _ _ = _
          rw [show (cur T sc' (a' + 1)) 66 8 = (N' : Int) - 1 by rw [cur_row (by decide)]; exact t1', gd_pos g1, Option.bind_some, g2]
          rfl
        · rw [y1]
          unfold RC
          rw [u0']
          unfold j_270_85
          have hwm : ax_w32 (sm' 84 63 - 1) = ((W + q : Nat) : Int) := by rw [i8, w32_id (by omega) (by omega)]; omega
          rw [if_pos (by omega), hwm, gd_pos (by omega), u1, Option.bind_some, gd_pos (by omega), Int.toNat_natCast, u4 129 (by decide), w129, w130, if_neg (by decide), if_pos (by decide)]
          rw [takeY (i2.row (by rw [u4 84 (by decide)]) (u4 88 (by decide))) hT (by rw [u4 84 (by decide)]; exact i5) (by rw [u4 84 (by decide)]; exact i4) hz' (k := 93) (by decide) tc, Option.bind_some]
          dsimp only
          have e63 : ax_w32 ((adv mU (a' + 1)) 84 63 - 1) = ((W + q : Nat) : Int) := by rw [adv_col (by decide), u4 84 (by decide)]; exact hwm
          have e67 : ax_w32 ((adv mU (a' + 1)) 84 67 - 1) = (op : Int) := by rw [adv_col (by decide), u4 84 (by decide), i9, w32_id (by omega) (by omega)]; omega
          rw [e63, e67]
          have v1' : f_266 2 (a : Int) (a : Int) (-1) 1 (ax_u2 (ax_u2 (adv mU (a' + 1)) 84 63 ((W + q : Nat) : Int)) 84 67 (op : Int)) = some mD := v1
          rw [v1', Option.bind_some, Option.bind_some]
          dsimp only
          rw [if_pos (by decide), if_pos (by decide)]
          exact go_25 FU1 (by rw [v2.2.2.2.2.2.2.2.2.2.2.2.2.2.2.2.2.2.2.2 6 (by decide) (by decide) (by decide), cU 6 (by decide) (by decide) (by decide)]; exact i5)
        · rw [u2_col _ _ _ (by decide), u2_col _ _ _ (by decide)]; exact adv_at
        · rw [cU 6 (by decide) (by decide) (by decide)]; exact i5
        · rw [cur_row (by decide)]; exact i7
        · rw [u2_col _ _ _ (by decide)]; exact u2_same _ _ _ _
        · exact u2_same _ _ _ _
        · intro k x y
          have fr : ∀ k, LF T sc' mU k → LF T (cur T sc' (a' + 1)) (ax_u2 (ax_u2 (adv mU (a' + 1)) 84 63 ((W + q : Nat) : Int)) 84 67 (op : Int)) k := fun k hl => hl.congr (by rw [cur_row (by decide)]) (by rw [u2_row _ _ _ (by decide), u2_row _ _ _ (by decide), adv_row (by decide)]) (by rw [u2_row _ _ _ (by decide), u2_row _ _ _ (by decide), adv_row (by decide)]) (by rw [u2_row _ _ _ (by decide), u2_row _ _ _ (by decide), adv_row (by decide)])
          apply fr
          by_cases c1 : k < a + 2
          · exact (e12 k x (by omega)).lf.congr (by rw [(i13.1 k (Or.inl c1)).1, cur_row (by decide), cur_row (by decide)]) (by rw [u3 k (Or.inl c1), (i13.1 k (Or.inl c1)).2.1, p7 91 (by decide) (by decide), rA 91 (by decide)]) (by rw [u4 92 (by decide), (i13.1 k (Or.inl c1)).2.2, p7 92 (by decide) (by decide), rA 92 (by decide)]) (by rw [u4 93 (by decide), i15.1 93 (by omega), p7 93 (by decide) (by decide), rA 93 (by decide)])
          · by_cases c2 : k < a'
            · exact u2 k (by omega) c2
            · exact (i12 k (by omega) (by omega)).lf.congr rfl (by rw [u3 k (by omega)]) (by rw [u4 92 (by decide)]) (by rw [u4 93 (by decide)])
        · intro i hi
          have : i = 0 := by omega
          subst this
          refine ⟨N' - 1, kO.trans (show (N' : Int) - 1 = ((N' - 1 : Nat) : Int) by omega), by omega, ?_⟩
          rw [if_neg (by omega), cur_row (by decide)]
          exact o6
        · unfold NV
          rw [v2.2.2.2.1, v2.2.2.2.2.1, v2.2.2.2.2.2.1, k2.2.2.1, k2.2.2.2.1]
          exact ⟨by simp, by simp, by simp, fun _ _ => ⟨a, rfl, rfl, hz, t1, rfl⟩, by simp⟩
        · have s0 := SEG.tok T (cur T sc' (a' + 1)) (ax_u2 (ax_u2 (adv mU (a' + 1)) 84 63 ((W + q : Nat) : Int)) 84 67 (op : Int)) sn rp K' a N (Or.inl ⟨hA, by rw [t1]; decide⟩) (fun y => by rw [t2] at y; exact absurd y.2 (by decide))
          have s1 := SEG.tok T (cur T sc' (a' + 1)) (ax_u2 (ax_u2 (adv mU (a' + 1)) 84 63 ((W + q : Nat) : Int)) 84 67 (op : Int)) sn rp K' (a + 1) N (Or.inr (Or.inr (Or.inl (by rw [show a + 1 - 1 = a by omega, t1, t2]; decide)))) (fun y => by rw [t2] at y; exact absurd y.1 (by decide))
          have s2 : SEG T (cur T sc' (a' + 1)) (ax_u2 (ax_u2 (adv mU (a' + 1)) 84 63 ((W + q : Nat) : Int)) 84 67 (op : Int)) sn rp K' (a + 2) a' N N' := o8.rows (fun c x y => rU c (by omega) (by omega)) (cur_row (by decide)) (cur_row (by decide))
          have s3 := SEG.tok T (cur T sc' (a' + 1)) (ax_u2 (ax_u2 (adv mU (a' + 1)) 84 63 ((W + q : Nat) : Int)) 84 67 (op : Int)) sn rp K' a' N' (Or.inr (Or.inl ⟨r3.2.2.2.2.2.2.1, by rw [tc]; decide⟩)) (fun y => by rw [tc] at y; exact absurd y.1 (by decide))
          refine (((s0.merge s1).merge s2).merge s3).addn v2 (fun n hn => k2.2.2.2.2.2.2.2.2.2.2.2.2.2.1 48 n (by decide) (by decide) (by omega)) (k2.2.2.2.2.2.2.2.2.2.2.2.2.2.2.2.1 37 (by omega)) (by decide) (by omega) (fun i hi => ?_) (by rw [cU 68 (by decide) (by decide) (by decide)]; exact i10) (by rw [cU 46 (by decide) (by decide) (by decide)]; exact i11) (fun _ _ => by rw [k2.2.2.1, Int.toNat_natCast])
          have : i = 0 := by omega
          subst this
          exact Int.le_trans (show (N : Int) ≤ (N' : Int) - 1 by omega) (Int.le_of_eq kO.symm)
        · have nk : NOK T (sc0 37) mD N' ↔ sc0 37 (T.vl a).toNat = 0 := by
            unfold NOK
            rw [v2.2.2.2.1, v2.2.2.2.2.2.1, Int.toNat_natCast]
            simp
          have lw : (cur T (cur T sc (a + 1)) (a + 2)) 37 = sc0 37 := by rw [cur_row (by decide), cur_row (by decide), e14.1 37 (by omega)]
          have lw2 : (cur T sc' (a' + 1)) 37 = sc0 37 := by rw [cur_row (by decide), i14.1 37 (by omega), lw]
          have c1 : CN (cur T sc' (a' + 1)) ↔ CN sc' := by unfold CN; rw [cur_row (by decide)]
          have c2 : CN (cur T (cur T sc (a + 1)) (a + 2)) ↔ CN sc := by unfold CN; rw [cur_row (by decide), cur_row (by decide)]
          rw [k3, c1, i16, c2, lw2, lw]
          have old : ∀ n, n < N' → (NOK T (sc0 37) mD n ↔ NOK T (sc0 37) sm' n) := fun n hn => NOK.congr (fun c x y => by rw [v2.2.2.2.2.2.2.2.2.2.2.2.2.2.2.2.1 c n x y (by omega), rU c (by omega) (by omega)])
          constructor
          · intro ⟨⟨y1, y2⟩, y3⟩
            refine ⟨y1, fun n z1 z2 => ?_⟩
            by_cases e : n = N'
            · rw [e, nk]; rcases y3 with y | y; exact absurd y (by decide); exact y
            · rw [old n (by omega)]; exact y2 n z1 (by omega)
          · intro ⟨y1, y2⟩
            exact ⟨⟨y1, fun n z1 z2 => (old n z2).mp (y2 n z1 (by omega))⟩, Or.inr (nk.mp (y2 N' (by omega) (by omega)))⟩
        · rw [cU 70 (by decide) (by decide) (by decide)]; exact r3.2.2.2.2.2.2.2
      · rw [tc] at y1; omega
    · rw [c92n i3 tc]
      refine Or.inr ⟨15, sc', ?_⟩
      rcases r4 with ⟨F', G', y1, y2, y3, y4, y5⟩ | ⟨_, mF, y2, y3⟩
      · obtain ⟨mU, u0', u1, u2, u3, u4⟩ := RC.use hT r3 (by rw [show W + q + 1 - 1 = W + q by omega, w129]; decide) (by omega) G' (by omega)
        have hK2 := r3.2.2.2.2.2.1
        have cU : ∀ j, j ≠ 6 → j ≠ 7 → j ≠ 63 → j ≠ 67 → (ax_u2 (ax_u2 (tel mU 2 a') 84 63 ((W + q : Nat) : Int)) 84 67 (op : Int)) 84 j = sm' 84 j := fun j x x' y w => by rw [u2_col _ _ _ w, u2_col _ _ _ y, tel_col x x', u4 84 (by decide)]
        obtain ⟨mD, v1, v2⟩ := m266 (s := ax_u2 (ax_u2 (tel mU 2 a') 84 63 ((W + q : Nat) : Int)) 84 67 (op : Int)) (N := N') (K := K') (o := O + b) (c := 1) (by rw [cU 47 (by decide) (by decide) (by decide) (by decide)]; exact i6.2.1) (by rw [cU 57 (by decide) (by decide) (by decide) (by decide)]; exact i6.2.2.1) (by rw [cU 59 (by decide) (by decide) (by decide) (by decide)]; exact r3.2.1) (by omega) (by omega) (by omega) (by omega) 2 (a : Int) (a : Int) (-1)
        have mDf : 0 < mD 84 6 := by
          rw [v2.2.2.2.2.2.2.2.2.2.2.2.2.2.2.2.2.2.2.2 6 (by decide) (by decide) (by decide), u2_col _ _ _ (by decide), u2_col _ _ _ (by decide), tel_at]
          decide
        refine ⟨mD, rfl, Or.inr rfl, ⟨ecx.trans i14, a', i3⟩, ?_, ?_, mDf⟩
        · rw [y1]
          unfold RC
          rw [u0']
          unfold j_270_85
          have hwm : ax_w32 (sm' 84 63 - 1) = ((W + q : Nat) : Int) := by rw [i8, w32_id (by omega) (by omega)]; omega
          rw [if_pos (by omega), hwm, gd_pos (by omega), u1, Option.bind_some, gd_pos (by omega), Int.toNat_natCast, u4 129 (by decide), w129, w130, if_neg (by decide), if_pos (by decide)]
          rw [takeN (i2.row (by rw [u4 84 (by decide)]) (u4 88 (by decide))) hT (by rw [u4 84 (by decide)]; exact i5) (by rw [u4 84 (by decide)]; exact i4) hz' (k := 93) (by decide) (by decide) tc, Option.bind_some]
          dsimp only
          have e63 : ax_w32 ((tel mU 2 a') 84 63 - 1) = ((W + q : Nat) : Int) := by rw [tel_col (by decide) (by decide), u4 84 (by decide)]; exact hwm
          have e67 : ax_w32 ((tel mU 2 a') 84 67 - 1) = (op : Int) := by rw [tel_col (by decide) (by decide), u4 84 (by decide), i9, w32_id (by omega) (by omega)]; omega
          rw [e63, e67]
          have v1' : f_266 2 (a : Int) (a : Int) (-1) 1 (ax_u2 (ax_u2 (tel mU 2 a') 84 63 ((W + q : Nat) : Int)) 84 67 (op : Int)) = some mD := v1
          rw [v1', Option.bind_some, Option.bind_some]
          dsimp only
          exact flt_105 (by omega) FU1 mDf
        · refine (emx.trans i15).trans (EFm.trans (sm' := ax_u2 (ax_u2 (tel mU 2 a') 84 63 ((W + q : Nat) : Int)) 84 67 (op : Int)) ⟨fun c x => ?_, fun j x => cU j (by omega) (by omega) (by omega) (by omega)⟩ v2.ef)
          rw [u2_row _ _ _ (by omega), u2_row _ _ _ (by omega), tel_row (by omega)]
          exact u4 c (by omega)
      · exact ⟨mF, rfl, Or.inr rfl, ⟨ecx.trans i14, a', i3⟩, y2, emx.trans y3.1, y3.2⟩
  · rw [r1]
    exact Or.inr ⟨x, sc', mF, rfl, r2, ⟨ecx.trans r3.1, r3.2⟩, r4, emx.trans r5.1, r5.2⟩
end EL
