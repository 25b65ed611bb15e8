/-! OPERANDS without others in them; prefixes. -/
/-- before an expression -/
def EPRE (T : TT) (sc sm : Sg) (sn rp : Int) (a N K base W O op : Nat) : Prop :=
  CC T sc ∧ MC T sm ∧ CU T sc a ∧ sm 84 18 = (a : Int) ∧ sm 84 6 = 0 ∧ ND T sc sm N K ∧ sc 66 7 = (base : Int) ∧ sm 84 63 = (W : Int) ∧ sm 84 59 = (O : Int) ∧ sm 84 67 = (op : Int) ∧ sm 84 68 = sn ∧ sm 84 46 = rp ∧
  (∀ k, a ≤ k → k < T.z → FRS T sc sm k) ∧ (W = 0 ∨ 100 ≤ sm 129 (W - 1)) ∧ N + base ≤ a ∧ W ≤ a ∧ K + O ≤ N ∧ 1 ≤ a ∧ T.tk (a - 1) ∈ opA
section LEAFS
variable {T : TT} {sc0 sm0 sc sm sB mB sD sH mD : Sg} {sn rp : Int} {a0 N0 K0 base W O op a a' N K q b : Nat} {k st fi cnt wd nu lv lx nm : Int}
theorem EPRE.p1 (h : EPRE T sc sm sn rp a N K base W O op) : P1 T sc sm sn rp a N K base W O op sc sm a N K 0 0 := by
  obtain ⟨e1, e2, e3, e4, e5, e6, e7, e8, e9, e10, e11, e12, e13, e14, e15, e16, e17, e18, e19⟩ := h
  exact ⟨⟨e1, e2, e3, e4, e5, e6, e7, e8, e10, e11, e12, e13, XF.refl _ _ _ _ _ _ _ _ _, EFc.refl _, EFm.refl _, ⟨fun x => ⟨x, fun n y1 y2 => absurd y2 (by omega)⟩, fun x => x.1⟩, e14, e15, e16, Nat.le_refl _, Nat.le_refl _, Nat.le_refl _, e18⟩, e9, ⟨rfl, rfl, rfl⟩, by omega, e19⟩
theorem LEAF (hT : TWF T) (h : P1 T sc0 sm0 sn rp a0 N0 K0 base W O op sc sm a N K q b) (rB : ∀ c, c ≠ 39 → c ≠ 30 → sB c = sc c) (r39 : ∀ j, j ≠ 10 → j ≠ 11 → sB 39 j = sc 39 j) (r30 : ∀ j, j < 4 ∨ 7 < j → sB 30 j = sc 30 j) (rM : ∀ c, c ≠ 84 → mB c = sm c) (cM : ∀ j, j ≠ 18 → j ≠ 70 → mB 84 j = sm 84 j)
    (hu : CU T sB a') (hm : mB 84 18 = (a' : Int)) (ha : a < a') (hC : MKC sB sH N k (a : Int) (-1) 0 wd nu 10) (hM : MKM mB mD N K (O + b) 0 k (a : Int) lx nm) (hk : k = 0 ∨ k = 1 ∨ k = 3) (hV : NV T sH mD N) (sg : SEG T sH mD sn rp (K + 0) a a' N (N + 1)) (hcn : CN sH ↔ CN sc ∧ NOK T (sc0 37) mD N) (hB : T.tk (a' - 1) ∈ opB) (h70 : mB 84 70 = 0) :
    P2 T sc0 sm0 sn rp a0 N0 K0 base W O op sH mD a' (N + 1) (K + 0) q b N a := by
  obtain ⟨hE, h59, hS, hK, hA⟩ := h
  obtain ⟨e1, e2, e3, e4, e5, e6, e7, e8, e9, e10, e11, e12, e13, e14, e15, e16, e17, e18, e19, e20, e21, e22, e23⟩ := id hE
  have hz := hu.2.2
  have xB : XF sc sm sB mB a a' N K (base + q) (W + q) (O + b) := ⟨fun k x => ⟨by rw [rB 45 (by decide) (by decide)], by rw [rM 91 (by decide)], by rw [rM 92 (by decide)]⟩, fun c n x y _ => by rw [rB c (by omega) (by omega)], fun c n x y _ => by rw [rM c (by omega)], fun j _ => by rw [rM 125 (by decide)], fun c n x y _ => by rw [rB c (by omega) (by omega)], fun c n x y _ => by rw [rM c (by omega)], fun c n x y _ => by rw [rM c (by omega)], fun k _ => by rw [rM 132 (by decide)]⟩
  have ecB : EFc sc sB := ⟨fun c x => rB c (by omega) (by omega), r39, r30⟩
  have emB : EFm sm mB := ⟨fun c x => rM c (by omega), fun j x => cM j (by omega) (by omega)⟩
  have ndB : ND T sB mB N K := e6.congr (by rw [rB 46 (by decide) (by decide)]) (cM 47 (by decide) (by decide)) (cM 57 (by decide) (by decide)) (fun c n x y _ => by rw [rB c (by omega) (by omega)]) (fun c n x y _ => by rw [rM c (by omega)]) (fun j _ => by rw [rM 125 (by decide)])
  have hl : lev k = 10 := by rcases hk with e | e | e <;> rw [e] <;> decide
  refine MKP2 hE hS xB ecB emB hu hm (by rw [cM 6 (by decide) (by decide)]; exact e5) ndB (by rw [rB 66 (by decide) (by decide)]; exact e7) (by rw [cM 63 (by decide) (by decide)]; exact e8) (by rw [cM 67 (by decide) (by decide)]; exact e9) (fun c n y1 y2 _ => by rw [rM c (by omega)]) (fun k y1 y2 => ?_) (by rw [hl]; exact hC) hM rfl rfl (Nat.le_refl _) ha (by omega) (by omega) ?_ (by rw [if_neg (by decide)]) (fun i hi => absurd hi (by omega)) hV sg ?_ (Nat.le_refl _) (by omega) hB (Nat.le_refl _) (Nat.le_refl _) (by omega) h70
  · exact (e12 k y1 (by omega)).lf.congr (by rw [rB 45 (by decide) (by decide)]) (by rw [rM 91 (by decide)]) (by rw [rM 92 (by decide)]) (by rw [rM 93 (by decide)])
  · rcases hk with e | e | e <;> rw [e] <;> simp [AR]
  · rw [hcn]
    exact ⟨fun h => ⟨h.1, fun n y1 y2 => by rw [show n = N by omega]; exact h.2⟩, fun h => ⟨h.1, h.2 N (Nat.le_refl _) (by omega)⟩⟩
/-- what hides a statement's name -/
theorem hide_c {x : Nat} (hT : TWF T) (hc : CC T sD) (hC : MKC sB sD N k st fi cnt 0 nu lv) (hN : N < 8192) (h30 : sD 30 = sB 30) (hx : x < T.z) (ht : T.tk x = 1) :
    ∃ sH : Sg, f_54 (x : Int) sD = some sH ∧ MKC sB sH N k st fi cnt (sB 37 (T.vl x).toNat) nu lv ∧ (CN sH ↔ CN sB ∧ (k = 1 ∨ sB 37 (T.vl x).toNat = 0)) := by
  have c9 := c97 hc hT (a := x) (by omega)
  rw [if_pos ht] at c9
  have hv := hT.2.2.2.2.1 x hx
  have hv2 := hT.2.2.2.2.2.1 x hx ht
  have hm := hT.2.2.2.2.2.2
  have r37 : sD 37 = sB 37 := hC.2.2.2.2.2.2.2.2.2.2.2.2.2.2.2.1 37 (by omega)
  have e106 : f_106 (T.vl x) sD = sB 37 (T.vl x).toNat ∧ g_106 (T.vl x) sD := by
    unfold f_106 g_106
    rw [hc.2.2.2.2.1, if_neg (by omega), if_neg (by omega), r37]
    exact ⟨rfl, fun _ => trivial, fun _ => ⟨fun _ => trivial, fun _ => ⟨⟨by omega, by omega⟩, trivial⟩⟩⟩
  have cnD : CN sD ↔ CN sB := by unfold CN; rw [h30]
  unfold f_54
  rw [gd_pos c9.2, c9.1, gd_pos e106.2, e106.1]
  by_cases d : sB 37 (T.vl x).toNat = 0
  · rw [if_neg (by simp [d])]
    refine ⟨sD, rfl, by rw [d]; exact hC, ?_⟩
    rw [cnD]
    exact ⟨fun h => ⟨h, Or.inr d⟩, fun h => h.1⟩
  · obtain ⟨w1, w2⟩ := hC.widen hN (sB 37 (T.vl x).toNat)
    have e8 : sD 66 8 = (N : Int) := hC.2.2.2.2.2.2.2.2.1
    have e8' : (f_123 (N : Int) (sB 37 (T.vl x).toNat) sD) 66 8 = (N : Int) := by rw [r123 (by decide)]; exact e8
    have r30 : (f_123 (N : Int) (sB 37 (T.vl x).toNat) sD) 30 = sB 30 := by rw [r123 (by decide)]; exact h30
    have hk : f_116 (N : Int) (f_123 (N : Int) (sB 37 (T.vl x).toNat) sD) = k ∧ g_116 (N : Int) (f_123 (N : Int) (sB 37 (T.vl x).toNat) sD) := by
      have e : f_114 (N : Int) (f_123 (N : Int) (sB 37 (T.vl x).toNat) sD) = 1 := by unfold f_114; rw [w2.1, if_neg (by omega), if_neg (by omega)]
      unfold f_116 g_116
      rw [e, if_neg (by decide), Int.toNat_natCast, w2.2.1]
      exact ⟨rfl, fun _ => trivial, fun _ => ⟨⟨by omega, by omega⟩, trivial⟩⟩
    rw [if_pos d, e8, gd_pos w1]
    simp only [Option.bind_some]
    rw [e8', gd_pos hk.2, hk.1]
    by_cases d1 : k = 1
    · rw [if_pos d1]
      refine ⟨_, rfl, w2, ?_⟩
      have : CN (f_123 (N : Int) (sB 37 (T.vl x).toNat) sD) ↔ CN sB := by unfold CN; rw [r30]
      rw [this]
      exact ⟨fun h => ⟨h, Or.inl d1⟩, fun h => h.1⟩
    · have hcc : CC T (f_123 (N : Int) (sB 37 (T.vl x).toNat) sD) := hc.row (by rw [r123 (by decide)]) (r123 (by decide)) (r123 (by decide)) (r123 (by decide)) (by rw [r123 (by decide)]) (r123 (by decide))
      have c8 := c80 hcc hT (a := x) (by omega)
      obtain ⟨n1, n2, n3, n4⟩ := c71 (s := f_123 (N : Int) (sB 37 (T.vl x).toNat) sD) (x := 7) (p := T.fm x) (Or.inr (Or.inr (Or.inr rfl))) (hT.2.2.2.1 x (by omega))
      rw [if_neg d1, gd_pos c8.2, c8.1, gd_pos n1]
      refine ⟨_, rfl, ?_, ⟨fun h => absurd h n2, fun h => absurd h.2 (by omega)⟩⟩
      obtain ⟨h1, h2, h3, h4, h5, h6, h7, h8, h9, h10, h11, h12, h13, h14, h15, h16, h17⟩ := w2
      refine ⟨by rw [n3 46 (by decide)]; exact h1, by rw [n3 47 (by decide)]; exact h2, by rw [n3 48 (by decide)]; exact h3, by rw [n3 49 (by decide)]; exact h4, by rw [n3 50 (by decide)]; exact h5, by rw [n3 51 (by decide)]; exact h6, by rw [n3 52 (by decide)]; exact h7, by rw [n3 53 (by decide)]; exact h8, by rw [n3 66 (by decide)]; exact h9, by rw [n3 66 (by decide)]; exact h10, by rw [n3 66 (by decide)]; exact h11, by rw [n3 66 (by decide)]; exact h12, by rw [n3 66 (by decide)]; exact h13, fun c n y1 y2 y3 => by rw [n3 c (by omega)]; exact h14 c n y1 y2 y3, by rw [n3 66 (by decide)]; exact h15, fun c y => by rw [n3 c (by omega)]; exact h16 c y, fun j y => by rw [n4 j y]; exact h17 j y⟩
/-- nothing hides what does not begin with a NAME -/
theorem hide_n {x : Nat} {s : Sg} (hT : TWF T) (hc : CC T s) (hx : x ≤ T.z) (ht : T.tk x ≠ 1) : f_54 (x : Int) s = some s := by
  have c9 := c97 hc hT (a := x) hx
  rw [if_neg ht] at c9
  have e106 : f_106 (-1) s = 0 ∧ g_106 (-1) s := ⟨if_pos (by decide), fun _ => trivial, fun h => absurd (by decide) h⟩
  unfold f_54
  rw [gd_pos c9.2, c9.1, gd_pos e106.2, e106.1, if_neg (by simp)]
/-- a name by itself -/
theorem leaf_name (hT : TWF T) (h : P1 T sc0 sm0 sn rp a0 N0 K0 base W O op sc sm a N K q b) (t1 : T.tk a = 1) (t2 : T.tk (a + 1) ≠ 91) (t3 : T.tk (a + 1) ≠ 40) :
    ∃ sN sH mD : Sg, f_49 sc = some (.inl sN) ∧ f_54 (a : Int) sN = some sH ∧ f_260 sm = some (0, mD) ∧ P2 T sc0 sm0 sn rp a0 N0 K0 base W O op sH mD (a + 1) (N + 1) (K + 0) q b N a := by
  obtain ⟨e1, e2, e3, e4, e5, e6, e7, e8, e9, e10, e11, e12, e13, e14, e15, e16, e17, e18, e19, e20, e21, e22, e23⟩ := id h.1
  have h59 := h.2.1
  have hA := h.2.2.2.2
  have hKN := h.2.2.2.1
  have hz := hT.lt e3.2.2 (by rw [t1]; decide)
  have h8 := hT.1
  have bd := STK.bd _ _ _ _ h.2.2.1
  have sB46 : (cur T sc (a + 1)) 46 7 = (N : Int) := by rw [cur_row (by decide)]; exact e6.1
  obtain ⟨g1, g2, g3, g4⟩ := c124 sB46 (by omega) 1 (a : Int) (-1) 0 10
  have hcD : CC T (f_64 (N : Int) (a : Int) 10 (f_124 1 (a : Int) (-1) 0 (cur T sc (a + 1))).2) := g3.ef.cc (cur_cc e1)
  obtain ⟨sH, k1, k2, k3⟩ := hide_c hT hcD g3 (by omega) g4 hz t1
  -- the reference
  have hM0 : MC T (ax_u2 sm 84 70 0) := e2.row (by simp [ax_u2]) (by funext x; simp [ax_u2])
  have u0 : (ax_u2 sm 84 70 0) 84 18 = (a : Int) := by simpa [ax_u2] using e4
  have f0 : (ax_u2 sm 84 70 0) 84 6 = 0 := by simpa [ax_u2] using e5
  have hM1 := adv_mc (a := a + 1) hM0
  have f1 : (adv (ax_u2 sm 84 70 0) (a + 1)) 84 6 = 0 := by rw [adv_col (by decide)]; exact f0
  have cA : ∀ j, j ≠ 18 → j ≠ 70 → (adv (ax_u2 sm 84 70 0) (a + 1)) 84 j = sm 84 j := fun j x y => by rw [adv_col x]; exact u2_col _ _ _ y
  obtain ⟨v1, v2, v3, v4⟩ := m263 (s := adv (ax_u2 sm 84 70 0) (a + 1)) (N := N) (K := K) (o := O + b) (by rw [cA 47 (by decide) (by decide)]; exact e6.2.1) (by rw [cA 57 (by decide) (by decide)]; exact e6.2.2.1) (by rw [cA 59 (by decide) (by decide)]; exact h59) (by omega) (by omega) 1 (a : Int) (a : Int) (-1)
  refine ⟨_, sH, _, ?_, k1, ?_, LEAF hT h (sB := cur T sc (a + 1)) (mB := adv (ax_u2 sm 84 70 0) (a + 1)) (fun c x _ => cur_row x) (fun j x y => cur_col x y) (fun j _ => by rw [cur_row (by decide)]) (fun c x => by rw [adv_row x]; exact u2_row _ _ _ x) cA (cur_cu (by omega)) adv_at (by omega) k2 v4 (Or.inr (Or.inl rfl)) ?_ ?_ ?_ (by rw [show a + 1 - 1 = a by omega, t1]; decide) (by rw [adv_col (by decide)]; exact u2_same _ _ _ _)⟩
  · unfold f_49
    rw [c92y hT e1 e3 t1 (by decide), e3.1]
    show gd _ _ = _
    rw [gd_pos g1]
    simp only [Option.bind_some]
    rw [g2]
    rfl
  · unfold f_260
    rw [if_pos (by omega), eatN hM0 hT u0 e3.2.2 (k := 126) (by decide) (by decide) (by rw [t1]; decide)]
    rw [if_neg (by simp), eatN hM0 hT u0 e3.2.2 (k := 45) (by decide) (by decide) (by rw [t1]; decide)]
    rw [if_pos rfl, eatN hM0 hT u0 e3.2.2 (k := 40) (by decide) (by decide) (by rw [t1]; decide)]
    rw [if_pos rfl, eatN hM0 hT u0 e3.2.2 (k := 2) (by decide) (by decide) (by rw [t1]; decide)]
    rw [if_pos rfl, eatN hM0 hT u0 e3.2.2 (k := 25) (by decide) (by decide) (by rw [t1]; decide)]
    rw [if_neg (by simp), eatN hM0 hT u0 e3.2.2 (k := 26) (by decide) (by decide) (by rw [t1]; decide)]
    rw [if_neg (by simp), eatN hM0 hT u0 e3.2.2 (k := 27) (by decide) (by decide) (by rw [t1]; decide)]
    rw [if_pos rfl, takeY hM0 hT f0 u0 e3.2.2 (k := 1) (by decide) t1]
    rw [Option.bind_some]
    dsimp only
    rw [if_pos (by omega), eatN hM1 hT adv_at (by omega) (k := 91) (by decide) (by decide) t2]
    rw [if_pos rfl, eatN hM1 hT adv_at (by omega) (k := 40) (by decide) (by decide) t3]
    rw [if_pos rfl, e4, gd_pos v1]
    simp only [Option.bind_some]
    rw [v2, gd_pos v3]
  · unfold NV
    rw [v4.2.2.2.1, v4.2.2.2.2.1, v4.2.2.2.2.2.1, k2.2.2.1, k2.2.2.2.1]
    refine ⟨by simp, by simp, by simp, fun _ _ => ⟨a, rfl, rfl, hz, t1, rfl⟩, by simp⟩
  · have s0 := SEG.tok T (cur T sc (a + 1)) (adv (ax_u2 sm 84 70 0) (a + 1)) sn rp K a N (Or.inl ⟨hA, by rw [t1]; decide⟩) (fun y => t3 y.2)
    refine s0.addn v4 (fun n hn => k2.2.2.2.2.2.2.2.2.2.2.2.2.2.1 48 n (by decide) (by decide) (by omega)) (k2.2.2.2.2.2.2.2.2.2.2.2.2.2.2.2.1 37 (by omega)) (by decide) (by omega) (fun i hi => absurd hi (by omega)) (by rw [cA 68 (by decide) (by decide)]; exact e10) (by rw [cA 46 (by decide) (by decide)]; exact e11) (fun _ _ => by rw [k2.2.2.1, Int.toNat_natCast])
  · have nk : NOK T (sc0 37) (f_264 (N : Int) (a : Int) (-1) (f_263 1 (a : Int) (a : Int) (-1) (adv (ax_u2 sm 84 70 0) (a + 1))).2) N := by
      unfold NOK
      rw [v4.2.2.2.1]
      simp
    rw [k3]
    have : CN (cur T sc (a + 1)) ↔ CN sc := by unfold CN; rw [cur_row (by decide)]
    rw [this]
    exact ⟨fun h => ⟨h.1, nk⟩, fun h => ⟨h.1, Or.inl rfl⟩⟩
end LEAFS
