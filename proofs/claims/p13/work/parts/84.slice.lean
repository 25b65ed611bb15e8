/-! LISTS begin; SLICES. -/
section LB
variable {T : TT} {sc0 sm0 sc sm sc1 sm1 sc' sm' sB mB s : Sg} {sn rp l2 w k : Int} {a0 N0 K0 base W O op a a1 a' a2 N N1 N' K K1 K' q b o nl ll : Nat}
theorem LI.start (hT : TWF T) (h : P1 T sc0 sm0 sn rp a0 N0 K0 base W O op sc sm a N K q b) (hz : a + 2 ≤ T.z) (t2 : T.tk (a + 1) = 40) (hop : op ≤ 80) (hw : 0 ≤ w) (hw2 : w ≤ 10) :
    g_262 w (a : Int) (adv (adv (ax_u2 sm 84 70 0) (a + 1)) (a + 2)) ∧ LI T sc sm sn rp a N K base W O op q b w (cur T (cur T sc (a + 1)) (a + 2)) (f_262 w (a : Int) (adv (adv (ax_u2 sm 84 70 0) (a + 1)) (a + 2))) (a + 2) N K 0 := by
  obtain ⟨e1, e2, e3, e4, e5, e6, e7, e8, e9, e10, e11, e12, e13, e14, e15, e16, e17, e18, e19, e20, e21, e22, e23⟩ := id h.1
  have h59 := h.2.1
  have hKN := h.2.2.2.1
  have h8 := hT.1
  have bd := STK.bd _ _ _ _ h.2.2.1
  have cA : ∀ j, j ≠ 18 → j ≠ 70 → (adv (adv (ax_u2 sm 84 70 0) (a + 1)) (a + 2)) 84 j = sm 84 j := fun j x y => by rw [adv_col x, adv_col x]; exact u2_col _ _ _ y
  have rA : ∀ c, c ≠ 84 → (adv (adv (ax_u2 sm 84 70 0) (a + 1)) (a + 2)) c = sm c := fun c x => by rw [adv_row x, adv_row x]; exact u2_row _ _ _ x
  obtain ⟨p1, p2, p3, p4, p5, p6, p7, p8, p9⟩ := open_m (s := adv (adv (ax_u2 sm 84 70 0) (a + 1)) (a + 2)) (W := W + q) (o := O + b) (op := op) (w := w) (x := (a : Int)) (by rw [cA 63 (by decide) (by decide)]; exact e8) (by rw [cA 59 (by decide) (by decide)]; exact h59) (by rw [cA 67 (by decide) (by decide)]; exact e9) (by omega) (by omega) hw hw2
  refine ⟨p1, ?_⟩
  generalize hs1 : f_262 w (a : Int) (adv (adv (ax_u2 sm 84 70 0) (a + 1)) (a + 2)) = sm1 at *
  have rC : ∀ c, c ≠ 39 → (cur T (cur T sc (a + 1)) (a + 2)) c = sc c := fun c x => by rw [cur_row x, cur_row x]
  have r1 : ∀ c, ¬ (c = 84 ∨ 129 ≤ c ∧ c ≤ 131) → sm1 c = sm c := fun c x => by rw [p7 c (by omega) (by omega)]; exact rA c (by omega)
  have c1 : ∀ j, j ≠ 18 → j ≠ 63 → j ≠ 67 → j ≠ 70 → sm1 84 j = sm 84 j := fun j x y w v => by rw [p9 j y w]; exact cA j x v
  refine ⟨cur_cc (cur_cc e1), e2.row (c1 11 (by decide) (by decide) (by decide) (by decide)) (r1 88 (by omega)), cur_cu hz, by rw [p9 18 (by decide) (by decide)]; exact adv_at, by rw [c1 6 (by decide) (by decide) (by decide) (by decide)]; exact e5, ?_, by rw [rC 66 (by decide)]; exact e7, p5, by rw [c1 59 (by decide) (by decide) (by decide) (by decide)]; exact h59, p6, by rw [c1 68 (by decide) (by decide) (by decide) (by decide)]; exact e10, by rw [c1 46 (by decide) (by decide) (by decide) (by decide)]; exact e11, by rw [p9 70 (by decide) (by decide), adv_col (by decide), adv_col (by decide)]; exact u2_same _ _ _ _, ?_, ?_, cur_ef.trans cur_ef, ⟨fun c x => r1 c (by omega), fun j x => c1 j (by omega) (by omega) (by omega) (by omega)⟩, p2, p3, p4, ?_, SEG.nil _ _ _ _ _ _ _ _, fun i hi => absurd hi (by omega), fun i hi => absurd hi (by omega), ?_, by omega, Nat.le_refl _, by omega, Nat.le_refl _, by rw [show a + 2 - 1 = a + 1 by omega, t2]; decide⟩
  · exact e6.congr (by rw [rC 46 (by decide)]) (c1 47 (by decide) (by decide) (by decide) (by decide)) (c1 57 (by decide) (by decide) (by decide) (by decide)) (fun c n x y _ => by rw [rC c (by omega)]) (fun c n x y _ => by rw [r1 c (by omega)]) (fun j _ => by rw [r1 125 (by omega)])
  · intro k x y
    obtain ⟨f1, f2, f3, f4⟩ := e12 k (by omega) y
    exact ⟨by rw [rC 45 (by decide)]; exact f1, by rw [r1 91 (by omega)]; exact f2, by rw [r1 92 (by omega)]; exact f3, by rw [r1 93 (by omega)]; exact f4⟩
  · exact ⟨fun k _ => ⟨by rw [rC 45 (by decide)], by rw [r1 91 (by omega)], by rw [r1 92 (by omega)]⟩, fun c n x y _ => by rw [rC c (by omega)], fun c n x y _ => by rw [r1 c (by omega)], fun j _ => by rw [r1 125 (by omega)], fun c n x y _ => by rw [rC c (by omega)], fun c n x y _ => by rw [r1 c (by omega)], fun c n x y z => by rw [p8 c n (by omega) (by omega), rA c (by omega)], fun k _ => by rw [r1 132 (by omega)]⟩
  · intro k x y
    exact (e12 k x (by omega)).lf.congr (by rw [rC 45 (by decide)]) (by rw [r1 91 (by omega)]) (by rw [r1 92 (by omega)]) (by rw [r1 93 (by omega)])
  · have : CN (cur T (cur T sc (a + 1)) (a + 2)) ↔ CN sc := by unfold CN; rw [rC 30 (by decide)]
    rw [this]
    exact ⟨fun y => ⟨y, fun n z1 z2 => absurd z2 (by omega)⟩, fun y => y.1⟩
theorem op_list {ex : Int → Sg → Option (Sum Sg (Nat × Sg))} {d : Nat} (hT : TWF T) (h : P1 T sc0 sm0 sn rp a0 N0 K0 base W O op sc sm a N K q b) (hk : KW T a k w) (t2 : T.tk (a + 1) = 40) (t3 : k = 3 → T.tk (a + 2) ≠ 41) (hd8 : d < 80) (hop : op ≤ 80)
    (IH : ∀ (sc1 sm1 : Sg) (a1 N1 K1 base1 W1 O1 F : Nat), EPRE T sc1 sm1 sn rp a1 N1 K1 base1 W1 O1 (op + 1) → T.z + 2 ≤ F + a1 → EOUT T sc1 sm1 sn rp a1 N1 K1 base1 W1 O1 (op + 1) l2 (ex ((d + 1 : Nat) : Int) sc1) (j_257_25 F l2 1 0 sm1))
    (F G : Nat) (hF : T.z + 1 ≤ F + a) (hG : 1 ≤ G) :
    OOUT T sc0 sm0 sn rp a0 N0 K0 base W O op sc sm a N q b l2 (f_53 ex (d : Int) k sc) (RP l2 F G sm) := by
  obtain ⟨e1, e2, e3, e4, e5, e6, e7, e8, e9, e10, e11, e12, e13, e14, e15, e16, e17, e18, e19, e20, e21, e22, e23⟩ := id h.1
  have n0 : T.tk a ≠ 0 := by rcases hk with ⟨_, _, e⟩ | ⟨_, _, e⟩ <;> rw [e] <;> decide
  have hz := hT.lt e3.2.2 n0
  have h8 := hT.1
  have z1 := hT.lt (show a + 1 ≤ T.z by omega) (by rw [t2]; decide)
  have cc1 := cur_cc (a := a + 1) e1
  have cu1 : CU T (cur T sc (a + 1)) (a + 1) := cur_cu (by omega)
  have cu2 : CU T (cur T (cur T sc (a + 1)) (a + 2)) (a + 2) := cur_cu (by omega)
  have hw3 : 3 ≤ w ∧ w ≤ 5 := by rcases hk with ⟨_, e, _⟩ | ⟨_, e, _⟩ <;> rw [e] <;> decide
  have hM0 : MC T (ax_u2 sm 84 70 0) := e2.row (by simp [ax_u2]) (by funext x; simp [ax_u2])
  have u0 : (ax_u2 sm 84 70 0) 84 18 = (a : Int) := by simpa [ax_u2] using e4
  have f0 : (ax_u2 sm 84 70 0) 84 6 = 0 := by simpa [ax_u2] using e5
  have hM1 := adv_mc (a := a + 1) hM0
  have f1 : (adv (ax_u2 sm 84 70 0) (a + 1)) 84 6 = 0 := by rw [adv_col (by decide)]; exact f0
  obtain ⟨p1, hL⟩ := LI.start (w := w) hT h (by omega) t2 hop (by omega) (by omega)
  have hf260 : f_260 sm = some (1, f_262 w (a : Int) (adv (adv (ax_u2 sm 84 70 0) (a + 1)) (a + 2))) := by
    rcases hk with ⟨y, yw, t1⟩ | ⟨y, yw, t1⟩
    · have t3 := t3 y
      subst yw
      have hM2 := adv_mc (a := a + 2) hM1
      unfold f_260
      rw [if_pos (by omega), eatN hM0 hT u0 e3.2.2 (k := 126) (by decide) (by decide) (by rw [t1]; decide)]
      rw [if_neg (by simp), eatN hM0 hT u0 e3.2.2 (k := 45) (by decide) (by decide) (by rw [t1]; decide)]
      rw [if_pos rfl, eatN hM0 hT u0 e3.2.2 (k := 40) (by decide) (by decide) (by rw [t1]; decide)]
      rw [if_pos rfl, eatN hM0 hT u0 e3.2.2 (k := 2) (by decide) (by decide) (by rw [t1]; decide)]
      rw [if_pos rfl, eatN hM0 hT u0 e3.2.2 (k := 25) (by decide) (by decide) (by rw [t1]; decide)]
      rw [if_neg (by simp), eatN hM0 hT u0 e3.2.2 (k := 26) (by decide) (by decide) (by rw [t1]; decide)]
      rw [if_neg (by simp), eatN hM0 hT u0 e3.2.2 (k := 27) (by decide) (by decide) (by rw [t1]; decide)]
      rw [if_pos rfl, takeY hM0 hT f0 u0 e3.2.2 (k := 1) (by decide) t1, Option.bind_some]
      dsimp only
      rw [if_pos (by omega), eatN hM1 hT adv_at (by omega) (k := 91) (by decide) (by decide) (by rw [t2]; decide)]
      rw [if_pos rfl, eatY hM1 hT f1 adv_at (by omega) (k := 40) (by decide) t2]
      rw [if_neg (by simp), eatN hM2 hT adv_at (by omega) (k := 41) (by decide) (by decide) t3]
      rw [if_neg (by simp), e4, gd_pos p1, Option.bind_some]
    · subst yw
      rw [prim_word hT h (Or.inr (Or.inr t1))]
      unfold j_260_172
      rw [takeY hM1 hT f1 adv_at (by omega) (k := 40) (by decide) t2, Option.bind_some, gd_pos (by omega)]
      dsimp only
      have e88 : (adv (adv (ax_u2 sm 84 70 0) (a + 1)) (a + 1 + 1)) 88 (a : Int).toNat = km (T.tk a) := by rw [adv_row (by decide), adv_row (by decide), u2_row _ _ _ (by decide), Int.toNat_natCast]; exact e2.2 a e3.2.2
      rw [if_neg (by rw [e88, t1]; decide), gd_pos p1, Option.bind_some]
  have hRP : RP l2 F G sm = j_257_25 F l2 1 0 (f_262 w (a : Int) (adv (adv (ax_u2 sm 84 70 0) (a + 1)) (a + 2))) := by
    unfold RP
    rw [hf260, Option.bind_some]
    exact go_25s hG hL.2.2.2.2.1 hL.2.2.2.2.2.2.2.2.2.2.2.2.1
  obtain ⟨Fc, hFc⟩ := FU_split (k := T.z - (a + 2) + 2) (by omega)
  have lp := list_loop hT h hk t2 hd8 hop IH (T.z - (a + 2)) Fc F (by omega) hL (by omega)
  rw [if_pos rfl, if_pos rfl] at lp
  rw [hRP]
  have cls : f_53 ex (d : Int) k sc = j_53_70 ex (Fc + (T.z - (a + 2)) + 2) (d : Int) k (a : Int) ((if ¬ k = 6 then 0 else 2) : Int) (-1) (-1) ((0 : Nat) : Int) 1 (cur T (cur T sc (a + 1)) (a + 2)) := by
    unfold f_53
    rw [nxt hT e1 e3 n0, c92y hT cc1 cu1 t2 (by decide), e3.1]
    show j_53_70 ex FU (d : Int) k (a : Int) _ (-1) (-1) 0 _ (cur T (cur T sc (a + 1)) (a + 2)) = _
    rw [hFc, show Fc + (T.z - (a + 2) + 2) = Fc + (T.z - (a + 2)) + 2 by omega, cu2.2.1]
    have more : ((if (0 : Int) < (if ¬ k = 6 then 0 else 2) then 1 else (if T.tk (a + 2) = 41 then 0 else 1)) : Int) = 1 := by
      rcases hk with ⟨y, _⟩ | ⟨y, _⟩
      · have := t3 y
        rw [y, if_neg (by decide), if_neg this]
      · rw [y, if_pos (by decide)]
    rw [more]
    rfl
  rw [cls]
  exact lp
/-- a slice -/
theorem slice_ok (hT : TWF T) (h : P2 T sc0 sm0 sn rp a0 N0 K0 base W O op sc sm a N K q b nl ll) (t1 : T.tk a = 46) (t2 : T.tk (a + 1) = 2) (t3 : T.tk (a + 2) = 58) (t4 : T.tk (a + 3) = 2) :
    ∃ sD mD : Sg, (∀ F l : Nat, l ≤ 8192 → j_55_2 (F + 1) (l : Int) sc = j_55_2 F ((l + 1 : Nat) : Int) sD) ∧ f_261 sm = some (0, mD) ∧ P2 T sc0 sm0 sn rp a0 N0 K0 base W O op sD mD (a + 4) (N + 1) (K + 1) q b nl ll := by
  obtain ⟨hE, h59, hS, hO, hTop, hK, hB, h70⟩ := id h
  obtain ⟨e1, e2, e3, e4, e5, e6, e7, e8, e9, e10, e11, e12, e13, e14, e15, e16, e17, e18, e19, e20, e21, e22, e23⟩ := id hE
  obtain ⟨tp1, tp2, tp3, tp4, tp5, tp6⟩ := hTop
  obtain ⟨o1, o2, ⟨st, o3, o4, o5⟩, o6, o7, o8⟩ := id hO
  have bd := STK.bd _ _ _ _ hS
  have bs := o8.2.2.1
  have h8 := hT.1
  have hz := hT.lt e3.2.2 (by rw [t1]; decide)
  have z1 := hT.lt (show a + 1 ≤ T.z by omega) (by rw [t2]; decide)
  have z2 := hT.lt (show a + 2 ≤ T.z by omega) (by rw [t3]; decide)
  have z3 := hT.lt (show a + 3 ≤ T.z by omega) (by rw [t4]; decide)
  have hv := hT.2.2.2.2.1 (a + 1) z1
  have hw := hT.2.2.2.2.1 (a + 3) z3
  obtain ⟨cx, qx, nx1, nx2, nx3, nx4, nx5, nr6, nr7, _⟩ := e6.2.2.2 (N - 1) (by omega)
  -- the class: tokens
  have cc1 := cur_cc (a := a + 1) e1
  have cu1 : CU T (cur T sc (a + 1)) (a + 1) := cur_cu (by omega)
  obtain ⟨s2, n1, n2, n3, n4⟩ := c93 (lo := 0) (hi := 31) hT cc1 cu1 t2
  have ef2 : EFc sc s2 := cur_ef.trans (ef30 n3 n4)
  have cc2 := cur_cc (a := a + 2) (ef2.cc e1)
  have cu2 : CU T (cur T s2 (a + 2)) (a + 2) := cur_cu (by omega)
  have cc3 := cur_cc (a := a + 3) cc2
  have cu3 : CU T (cur T (cur T s2 (a + 2)) (a + 3)) (a + 3) := cur_cu (by omega)
  have c8 := c80 cc3 hT (a := a + 3) (by omega)
  obtain ⟨s4, m1, m2, m3, m4⟩ := c93 (lo := 0) (hi := 31) hT cc3 cu3 t4
  have cc4 : CC T (cur T s4 (a + 4)) := cur_cc ((ef30 m3 m4).cc cc3)
  have r4 : ∀ c, c ≠ 39 → c ≠ 30 → (cur T s4 (a + 4)) c = sc c := fun c x y => by rw [cur_row x, m3 c y, cur_row x, cur_row x, n3 c y, cur_row x]
  have r39 : ∀ j, j ≠ 10 → j ≠ 11 → (cur T s4 (a + 4)) 39 j = sc 39 j := fun j x y => by rw [cur_col x y, m3 39 (by decide), cur_col x y, cur_col x y, n3 39 (by decide), cur_col x y]
  have r30 : ∀ j, j < 4 ∨ 7 < j → (cur T s4 (a + 4)) 30 j = sc 30 j := fun j x => by rw [cur_row (by decide), m4 j x, cur_row (by decide), cur_row (by decide), n4 j x, cur_row (by decide)]
  have cn4 : CN (cur T s4 (a + 4)) ↔ (CN sc ∧ 0 ≤ T.vl (a + 1) ∧ T.vl (a + 1) ≤ 31) ∧ 0 ≤ T.vl (a + 3) ∧ T.vl (a + 3) ≤ 31 := by
    have x1 : CN (cur T s4 (a + 4)) ↔ CN s4 := by unfold CN; rw [cur_row (by decide)]
    have x2 : CN (cur T (cur T s2 (a + 2)) (a + 3)) ↔ CN s2 := by unfold CN; rw [cur_row (by decide), cur_row (by decide)]
    have x3 : CN (cur T sc (a + 1)) ↔ CN sc := by unfold CN; rw [cur_row (by decide)]
    rw [x1, m2, x2, n2, x3]
  have mn1 : mn (T.vl (a + 1)) = T.vl (a + 1) ∨ (mn (T.vl (a + 1)) = 1073741824 ∧ 1073741824 < T.vl (a + 1)) := by unfold mn; split <;> omega
  have mn3 : mn (T.vl (a + 3)) = T.vl (a + 3) ∨ (mn (T.vl (a + 3)) = 1073741824 ∧ 1073741824 < T.vl (a + 3)) := by unfold mn; split <;> omega
  -- the state before the node
  obtain ⟨sX, rX, rX39, rX30, huX, cnX, feX⟩ : ∃ sX : Sg, (∀ c, c ≠ 39 → c ≠ 30 → sX c = sc c) ∧ (∀ j, j ≠ 10 → j ≠ 11 → sX 39 j = sc 39 j) ∧ (∀ j, j < 4 ∨ 7 < j → sX 30 j = sc 30 j) ∧ CU T sX (a + 4) ∧ (CN sX ↔ CN sc ∧ T.vl (a + 1) ≤ 31 ∧ T.vl (a + 3) ≤ 31 ∧ T.vl (a + 3) ≤ T.vl (a + 1)) ∧
      ∀ F l : Nat, l ≤ 8192 → j_55_2 (F + 1) (l : Int) sc = j_55_90 (j_55_2 F) (l : Int) (mn (T.vl (a + 1))) (mn (T.vl (a + 3))) sX := by
    have st : ∀ F l : Nat, l ≤ 8192 → j_55_2 (F + 1) (l : Int) sc = (if mn (T.vl (a + 3)) ≤ mn (T.vl (a + 1)) then j_55_90 (j_55_2 F) (l : Int) (mn (T.vl (a + 1))) (mn (T.vl (a + 3))) (cur T s4 (a + 4)) else (gd (g_71 4 (T.fm (a + 3)) (cur T s4 (a + 4))) ((some (f_71 4 (T.fm (a + 3)) (cur T s4 (a + 4)))).bind fun q10 => j_55_90 (j_55_2 F) (l : Int) (mn (T.vl (a + 1))) (mn (T.vl (a + 3))) q10))) := by
      intro F l hl
      rw [j_55_2, e3.2.1, if_neg (by simp [t1]), if_neg (by omega), nxt hT e1 e3 (by rw [t1]; decide), n1]
      show xb (f_92 58 (cur T s2 (a + 2))) _ = _
      rw [c92y hT cc2 cu2 t3 (by decide)]
      show gd (g_80 ((cur T (cur T s2 (a + 2)) (a + 3)) 39 10) (cur T (cur T s2 (a + 2)) (a + 3))) _ = _
      rw [cu3.1, gd_pos c8.2, c8.1, m1]
      rfl
    by_cases d : mn (T.vl (a + 3)) ≤ mn (T.vl (a + 1))
    · refine ⟨cur T s4 (a + 4), r4, r39, r30, cur_cu (by omega), ?_, fun F l hl => by rw [st F l hl, if_pos d]⟩
      rw [cn4]
      exact ⟨fun y => ⟨y.1.1, y.1.2.2, y.2.2, by omega⟩, fun y => ⟨⟨y.1, hv.1, y.2.1⟩, hw.1, y.2.2.1⟩⟩
    · obtain ⟨y1, y2, y3, y4⟩ := c71 (s := cur T s4 (a + 4)) (x := 4) (p := T.fm (a + 3)) (Or.inl rfl) (hT.2.2.2.1 (a + 3) (by omega))
      refine ⟨f_71 4 (T.fm (a + 3)) (cur T s4 (a + 4)), fun c x y => by rw [y3 c y]; exact r4 c x y, fun j x y => by rw [y3 39 (by decide)]; exact r39 j x y, fun j x => by rw [y4 j x]; exact r30 j x, ?_, ⟨fun y => absurd y y2, fun y => ?_⟩, fun F l hl => by rw [st F l hl, if_neg d, gd_pos y1, Option.bind_some]⟩
      · have := cur_cu (T := T) (s := s4) (a := a + 4) (by omega)
        unfold CU at *
        rw [y3 39 (by decide)]
        exact this
      · omega
  have ccX : CC T sX := (show EFc sc sX from ⟨fun c x => rX c (by omega) (by omega), rX39, rX30⟩).cc e1
  obtain ⟨sB, w1, w2, w3, w4⟩ := want_c (w := 9) ccX (o7.rows (fun k _ _ => by rw [rX 45 (by decide) (by decide)]) (fun _ _ _ => rfl) rfl rfl rfl rfl) e3.2.2 h8 (L := lev (sm 116 (N - 1))) (by rw [rX 66 (by decide) (by decide)]; exact tp3) (by rw [rX 66 (by decide) (by decide)]; exact tp4) (fun x => by rw [rX 66 (by decide) (by decide)]; exact tp5 x) (fun p x => by rw [rX 66 (by decide) (by decide)]; exact tp6 p x)
  have rB : ∀ c, c ≠ 39 → c ≠ 30 → c ≠ 45 → sB c = sc c := fun c x y z => by rw [w4 c z]; exact rX c x y
  have sB46 : sB 46 7 = (N : Int) := by rw [rB 46 (by decide) (by decide) (by decide)]; exact e6.1
  have sB8 : sB 66 8 = (N : Int) - 1 := by rw [rB 66 (by decide) (by decide) (by decide)]; exact tp1
  have sB9 : sB 66 9 = (st : Int) := by rw [rB 66 (by decide) (by decide) (by decide), tp2]; exact o3
  obtain ⟨g1, g2, g3, g4⟩ := c124 sB46 (by omega) 7 (st : Int) ((N : Int) - 1) 1 9
  obtain ⟨g5, g6⟩ := g3.widen (by omega) (ax_w32 (ax_w32 (mn (T.vl (a + 1)) - mn (T.vl (a + 3))) + 1))
  obtain ⟨g7, g8⟩ := g6.enum (by omega) (mn (T.vl (a + 3)))
  -- the reference
  have hM1 := adv_mc (a := a + 1) e2
  have hom : ax_w32 (sm 84 59 - 1) = ((O + b : Nat) : Int) := by rw [h59, w32_id (by omega) (by omega)]; omega
  have rv : ∀ c, c ≠ 84 → (adv sm (a + 1)) c = sm c := fun c x => adv_row x
  obtain ⟨mU, u1, u2, u3, u4⟩ := use_m (T := T) (sc := sB) (sm := adv sm (a + 1)) (o := O + b) (l0 := ll) (l1 := a) (w := 9) (n := N - 1) (by rw [rv 116 (by decide)]; exact w2.rows (fun _ _ _ => rfl) (fun k _ _ => by rw [rv 91 (by decide)]) (rv 92 (by decide)) (rv 93 (by decide)) (rv 128 (by decide)) (rv 132 (by decide))) (by rw [rv 126 (by decide), o2]; omega) (by rw [rv 116 (by decide)]; exact nr6) (by rw [rv 116 (by decide)]; exact nr7) (by omega) (by omega) (by omega)
  have rU : ∀ c, c ≠ 91 → c ≠ 84 → mU c = sm c := fun c x y => by rw [u4 c x]; exact rv c y
  have cU : ∀ j, j ≠ 18 → mU 84 j = sm 84 j := fun j x => by rw [u4 84 (by decide)]; exact adv_col x
  have mcU : MC T mU := e2.row (cU 11 (by decide)) (rU 88 (by decide) (by decide))
  have fU : mU 84 6 = 0 := by rw [cU 6 (by decide)]; exact e5
  have aU : mU 84 18 = ((a + 1 : Nat) : Int) := by rw [u4 84 (by decide)]; exact adv_at
  obtain ⟨mM, hmM⟩ : ∃ mM : Sg, mM = adv (adv (adv mU (a + 2)) (a + 3)) (a + 4) := ⟨_, rfl⟩
  have rM : ∀ c, c ≠ 91 → c ≠ 84 → mM c = sm c := fun c x y => by rw [hmM, adv_row y, adv_row y, adv_row y]; exact rU c x y
  have cM : ∀ j, j ≠ 18 → mM 84 j = sm 84 j := fun j x => by rw [hmM, adv_col x, adv_col x, adv_col x]; exact cU j x
  have rM9 : mM 91 = mU 91 := by rw [hmM, adv_row (by decide), adv_row (by decide), adv_row (by decide)]
  obtain ⟨mD, v1, v2⟩ := m266 (s := mM) (N := N) (K := K) (o := O + b) (c := 1) (by rw [cM 47 (by decide)]; exact e6.2.1) (by rw [cM 57 (by decide)]; exact e6.2.2.1) (by rw [cM 59 (by decide)]; exact h59) (by omega) (by omega) (by omega) (by omega) 7 (st : Int) ((a + 1 : Nat) : Int) ((a + 3 : Nat) : Int)
  have kO : mM 126 (O + b) = (N : Int) - 1 := by rw [rM 126 (by decide) (by decide)]; exact o2
  refine ⟨_, mD, fun F l hl => ?_, ?_, MKP2 hE hS (sc' := sB) (sm' := mM) ?_ ?_ ?_ ?_ ?_ ?_ ?_ ?_ ?_ ?_ ?_ ?_ g8 v2 rfl rfl o4 (by omega) (by decide) (by decide) (by simp [AR]) (by rw [if_pos (by decide), kO]) ?_ ?_ ?_ ?_ (by omega) (by omega) (by rw [show a + 4 - 1 = a + 3 by omega, t4]; decide) (Nat.le_refl _) (Nat.le_refl _) (by omega) ?_⟩
  · rw [feX F l hl]
    unfold j_55_90
    rw [w1, Option.bind_some, sB9, sB8, gd_pos g1, Option.bind_some, g2, c124i sB46 (by omega) _ _ _ _ (by omega), sB9, Option.bind_some, g3.2.2.2.2.2.2.2.2.1, gd_pos g5, Option.bind_some, g6.2.2.2.2.2.2.2.2.1, gd_pos g7, Option.bind_some, w32_nat (by omega)]
  · unfold f_261
    rw [eatY e2 hT e5 e4 e3.2.2 (k := 46) (by decide) t1]
    rw [if_neg (by simp)]
    dsimp only
    have h59' : ax_w32 ((adv sm (a + 1)) 84 59 - 1) = ((O + b : Nat) : Int) := by rw [adv_col (by decide)]; exact hom
    rw [h59', u1, Option.bind_some, takeY mcU hT fU aU (by omega) (k := 2) (by decide) t2, Option.bind_some]
    dsimp only
    rw [takeY (adv_mc mcU) hT (by rw [adv_col (by decide)]; exact fU) adv_at (by omega) (k := 58) (by decide) t3, Option.bind_some]
    dsimp only
    rw [takeY (adv_mc (adv_mc mcU)) hT (by rw [adv_col (by decide), adv_col (by decide)]; exact fU) adv_at (by omega) (k := 2) (by decide) t4, Option.bind_some]
    dsimp only
    rw [show adv (adv (adv mU (a + 1 + 1)) (a + 2 + 1)) (a + 3 + 1) = mM from hmM.symm, cM 59 (by decide), hom, gd_pos (by omega), Int.toNat_natCast, rM 127 (by decide) (by decide), o3]
    have v1' : f_266 7 (st : Int) ((a + 1 : Nat) : Int) ((a + 3 : Nat) : Int) 1 mM = some mD := v1
    rw [v1']
    rfl
  · exact ⟨fun k x => ⟨by rw [w3 k (by omega), rX 45 (by decide) (by decide)], by rw [rM9, u3 k (by omega), rv 91 (by decide)], by rw [rM 92 (by decide) (by decide)]⟩, fun c n x y _ => by rw [rB c (by omega) (by omega) (by omega)], fun c n x y _ => by rw [rM c (by omega) (by omega)], fun j _ => by rw [rM 125 (by decide) (by decide)], fun c n x y _ => by rw [rB c (by omega) (by omega) (by omega)], fun c n x y _ => by rw [rM c (by omega) (by omega)], fun c n x y _ => by rw [rM c (by omega) (by omega)], fun k _ => by rw [rM 132 (by decide) (by decide)]⟩
  · exact ⟨fun c x => rB c (by omega) (by omega) (by omega), fun j x y => by rw [w4 39 (by decide)]; exact rX39 j x y, fun j x => by rw [w4 30 (by decide)]; exact rX30 j x⟩
  · exact ⟨fun c x => rM c (by omega) (by omega), fun j x => cM j (by omega)⟩
  · unfold CU at *
    rw [w4 39 (by decide)]
    exact huX
  · rw [hmM]; exact adv_at
  · rw [cM 6 (by decide)]; exact e5
  · exact e6.congr (by rw [rB 46 (by decide) (by decide) (by decide)]) (cM 47 (by decide)) (cM 57 (by decide)) (fun c n x y _ => by rw [rB c (by omega) (by omega) (by omega)]) (fun c n x y _ => by rw [rM c (by omega) (by omega)]) (fun j _ => by rw [rM 125 (by decide) (by decide)])
  · rw [rB 66 (by decide) (by decide) (by decide)]; exact e7
  · rw [cM 63 (by decide)]; exact e8
  · rw [cM 67 (by decide)]; exact e9
  · intro c n y1 y2 _
    rw [rM c (by omega) (by omega)]
  · intro k x y
    by_cases d : k < a
    · exact (u2 k x d).congr rfl (by rw [rM9]) (by rw [rM 92 (by decide) (by decide), rU 92 (by decide) (by decide)]) (by rw [rM 93 (by decide) (by decide), rU 93 (by decide) (by decide)])
    · exact (e12 k (by omega) (by omega)).lf.congr (by rw [w3 k (by omega), rX 45 (by decide) (by decide)]) (by rw [rM9, u3 k (by omega), rv 91 (by decide)]) (by rw [rM 92 (by decide) (by decide)]) (by rw [rM 93 (by decide) (by decide)])
  · intro i hi
    have : i = 0 := by omega
    subst this
    refine ⟨N - 1, kO.trans (show (N : Int) - 1 = ((N - 1 : Nat) : Int) by omega), by omega, ?_⟩
    rw [if_neg (by omega), rB 52 (by decide) (by decide) (by decide)]
    exact o6
  · unfold NV
    rw [v2.2.2.2.1, v2.2.2.2.2.1, v2.2.2.2.2.2.1, v2.2.2.2.2.2.2.1, g8.2.2.1, g8.2.2.2.1]
    exact ⟨by simp, by simp, fun _ => ⟨a + 1, a + 3, rfl, rfl, z1, z3, t2, t4, rfl, rfl⟩, by simp, by simp⟩
  · have s0 : SEG T sB mM sn rp K ll a nl N := o8.rows (fun c x y => rM c (by omega) (by omega)) (rB 48 (by decide) (by decide) (by decide)) (rB 37 (by decide) (by decide) (by decide))
    have s1 := SEG.tok T sB mM sn rp K a N (Or.inr (Or.inl ⟨hB, by rw [t1]; decide⟩)) (fun y => by rw [t1] at y; exact absurd y.1 (by decide))
    have s2' := SEG.tok T sB mM sn rp K (a + 1) N (Or.inr (Or.inr (Or.inr (Or.inr (Or.inr (by rw [show a + 1 - 1 = a by omega, t1, t2]; decide)))))) (fun y => by rw [t2] at y; exact absurd y.1 (by decide))
    have s3 := SEG.tok T sB mM sn rp K (a + 2) N (Or.inr (Or.inl (by rw [show a + 2 - 1 = a + 1 by omega, t2, t3]; decide))) (fun y => by rw [t3] at y; exact absurd y.1 (by decide))
    have s4' := SEG.tok T sB mM sn rp K (a + 3) N (Or.inl (by rw [show a + 3 - 1 = a + 2 by omega, t3, t4]; decide)) (fun y => by rw [t4] at y; exact absurd y.1 (by decide))
    refine ((((s0.merge s1).merge s2').merge s3).merge s4').addn v2 (fun n hn => g8.2.2.2.2.2.2.2.2.2.2.2.2.2.1 48 n (by decide) (by decide) (by omega)) (g8.2.2.2.2.2.2.2.2.2.2.2.2.2.2.2.1 37 (by omega)) (by decide) (by omega) (fun i hi => ?_) (by rw [cM 68 (by decide)]; exact e10) (by rw [cM 46 (by decide)]; exact e11) (fun _ y => absurd y (by decide))
    have : i = 0 := by omega
    subst this
    exact Int.le_trans (show (nl : Int) ≤ (N : Int) - 1 by omega) (Int.le_of_eq kO.symm)
  · have nk : NOK T (sc0 37) mD N ↔ (T.vl (a + 1) ≤ 31 ∧ T.vl (a + 3) ≤ 31 ∧ T.vl (a + 3) ≤ T.vl (a + 1)) := by
      unfold NOK
      rw [v2.2.2.2.1, v2.2.2.2.2.2.1, v2.2.2.2.2.2.2.1, Int.toNat_natCast, Int.toNat_natCast]
      exact ⟨fun y => y.2.2.1 rfl, fun y => ⟨by simp, by simp, fun _ => y, by simp⟩⟩
    have c1 : CN (f_125 (N : Int) (mn (T.vl (a + 3))) (f_123 (N : Int) (ax_w32 (ax_w32 (mn (T.vl (a + 1)) - mn (T.vl (a + 3))) + 1)) (f_64 (N : Int) (st : Int) 9 (f_124 7 (st : Int) ((N : Int) - 1) 1 sB).2))) ↔ CN sX := by unfold CN; rw [r125 (by decide), r123 (by decide), g4, w4 30 (by decide)]
    rw [c1, cnX, ← nk]
    exact ⟨fun y => ⟨y.1, fun n z1 z2 => by rw [show n = N by omega]; exact y.2⟩, fun y => ⟨y.1, y.2 N (Nat.le_refl _) (by omega)⟩⟩
  · rw [cM 70 (by decide)]; exact h70
end LB
