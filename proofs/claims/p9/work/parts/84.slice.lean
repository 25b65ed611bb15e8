/-! LISTS begin; SLICES. -/
section LB
variable {T : TT} {sc0 sm0 sc sm sc1 sm1 sc' sm' sB mB s : Sg} {sn rp l2 w k : Int} {a0 N0 K0 base W O op a a1 a' a2 N N1 N' K K1 K' q b o nl ll : Nat}
theorem LI.start (hT : TWF T) (h : P1 T sc0 sm0 sn rp a0 N0 K0 base W O op sc sm a N K q b) (hz : a + 2 ≤ T.z) (t2 : T.tk (a + 1) = 40) (hop : op ≤ 80) (hw : 0 ≤ w) (hw2 : w ≤ 10) :
    g_262 w (a : Int) (adv (adv (ax_u2 sm 84 70 0) (a + 1)) (a + 2)) ∧ LI T sc sm sn rp a N K base W O op q b w (cur T (cur T sc (a + 1)) (a + 2)) (f_262 w (a : Int) (adv (adv (ax_u2 sm 84 70 0) (a + 1)) (a + 2))) (a + 2) N K 0 := by
  obtain ⟨e1, e2, e3, e4, e5, e6, e7, e8, e9, e10, e11, e12, e13, e14, e15, e16, e17, e18, e19, e20, e21, e22, e23⟩ := id h.1
  have h59 := h.2.1
  have hKN := h.2.2.2.1
  have h8 := hT.1
  have bd := STK.bd _ _ _ _ h.2.2.1
  have cA : ∀ j, j ≠ 18 → j ≠ 70 → (adv (adv (ax_u2 sm 84 70 0) (a + 1)) (a + 2)) 84 j = sm 84 j := fun j x y => by rw [adv_col x, adv_col x]; exact u2_col _ _ _ y
  have rA : ∀ c, c ≠ 84 → (adv (adv (ax_u2 sm 84 70 0) (a + 1)) (a + 2)) c = sm c := fun c x => by rw [adv_row x, adv_row x]; exact u2_row _ _ _ x
  obtain ⟨p1, p2, p3, p4, p5, p6, p7, p8, p9⟩ := open_m (s := adv (adv (ax_u2 sm 84 70 0) (a + 1)) (a + 2)) (W := W + q) (o := O + b) (op := op) (w := w) (x := (a : Int)) (by rw [cA 63 (by decide) (by decide)]; exact e8) (by rw [cA 59 (by decide) (by decide)]; exact h59) (by rw [cA 67 (by decide) (by decide)]; exact e9) (by omega) (by omega) hw hw2
  refine ⟨p1, ?_⟩
  generalize hs1 : f_262 w (a : Int) (adv (adv (ax_u2 sm 84 70 0) (a + 1)) (a + 2)) = sm1 at *
  have rC : ∀ c, c ≠ 39 → (cur T (cur T sc (a + 1)) (a + 2)) c = sc c := fun c x => by rw [cur_row x, cur_row x]
  have r1 : ∀ c, ¬ (c = 84 ∨ 129 ≤ c ∧ c ≤ 131) → sm1 c = sm c := fun c x => by rw [p7 c (by omega) (by omega)]; exact rA c (by omega)
  have c1 : ∀ j, j ≠ 18 → j ≠ 63 → j ≠ 67 → j ≠ 70 → sm1 84 j = sm 84 j := fun j x y w v => by rw [p9 j y w]; exact cA j x v
  refine ⟨cur_cc (cur_cc e1), e2.row (c1 11 (by decide) (by decide) (by decide) (by decide)) (r1 88 (by omega)), cur_cu hz, by rw [p9 18 (by decide) (by decide)]; exact adv_at, by rw [c1 6 (by decide) (by decide) (by decide) (by decide)]; exact e5, ?_, by rw [rC 66 (by decide)]; exact e7, p5, by rw [c1 59 (by decide) (by decide) (by decide) (by decide)]; exact h59, p6, by rw [c1 68 (by decide) (by decide) (by decide) (by decide)]; exact e10, by rw [c1 46 (by decide) (by decide) (by decide) (by decide)]; exact e11, by rw [p9 70 (by decide) (by decide), adv_col (by decide), adv_col (by decide)]; exact u2_same _ _ _ _, ?_, ?_, cur_ef.trans cur_ef, ⟨fun c x => r1 c (by omega), fun j x => c1 j (by omega) (by omega) (by omega) (by omega)⟩, p2, p3, p4, ?_, SEG.nil _ _ _ _ _ _ _ _, fun i hi => absurd hi (by omega), fun i hi => absurd hi (by omega), ?_, by omega, Nat.le_refl _, by omega, Nat.le_refl _, by rw [show a + 2 - 1 = a + 1 by omega, t2]; decide⟩
  · exact e6.congr (by rw [rC 46 (by decide)]) (c1 47 (by decide) (by decide) (by decide) (by decide)) (c1 57 (by decide) (by decide) (by decide) (by decide)) (fun c n x y _ => by rw [rC c (by omega)]) (fun c n x y _ => by rw [r1 c (by omega)]) (fun j _ => by rw [r1 125 (by omega)])
  · intro k x y
    obtain ⟨f1, f2, f3, f4⟩ := e12 k (by omega) y
    exact ⟨by rw [rC 45 (by decide)]; exact f1, by rw [r1 91 (by omega)]; exact f2, by rw [r1 92 (by omega)]; exact f3, by rw [r1 93 (by omega)]; exact f4⟩
  · exact ⟨fun k _ => ⟨by rw [rC 45 (by decide)], by rw [r1 91 (by omega)], by rw [r1 92 (by omega)]⟩, fun c n x y _ => by rw [rC c (by omega)], fun c n x y _ => by rw [r1 c (by omega)], fun j _ => by rw [r1 125 (by omega)], fun c n x y _ => by rw [rC c (by omega)], fun c n x y _ => by rw [r1 c (by omega)], fun c n x y z => by rw [p8 c n (by omega) (by omega), rA c (by omega)], fun k _ => by rw [r1 132 (by omega)]⟩
  · intro k x y
    exact (e12 k x (by omega)).lf.congr (by rw [rC 45 (by decide)]) (by rw [r1 91 (by omega)]) (by rw [r1 92 (by omega)]) (by rw [r1 93 (by omega)])
  · have : CN (cur T (cur T sc (a + 1)) (a + 2)) ↔ CN sc := by unfold CN; rw [rC 30 (by decide)]
    rw [this]
    exact ⟨fun y => ⟨y, fun n z1 z2 => absurd z2 (by omega)⟩, fun y => y.1⟩
theorem op_list {ex : Int → Sg → Option (Sum Sg (Nat × Sg))} {d : Nat} (hT : TWF T) (h : P1 T sc0 sm0 sn rp a0 N0 K0 base W O op sc sm a N K q b) (hk : KW T a k w) (t2 : T.tk (a + 1) = 40) (t3 : k = 3 → T.tk (a + 2) ≠ 41) (hd8 : d < 80) (hop : op ≤ 80)
    (IH : ∀ (sc1 sm1 : Sg) (a1 N1 K1 base1 W1 O1 F : Nat), EPRE T sc1 sm1 sn rp a1 N1 K1 base1 W1 O1 (op + 1) → T.z + 2 ≤ F + a1 → EOUT T sc1 sm1 sn rp a1 N1 K1 base1 W1 O1 (op + 1) l2 (ex ((d + 1 : Nat) : Int) sc1) (j_257_25 F l2 1 0 sm1))
    (F G : Nat) (hF : T.z + 1 ≤ F + a) (hG : 1 ≤ G) :
    OOUT T sc0 sm0 sn rp a0 N0 K0 base W O op sc sm a N q b l2 (f_53 ex (d : Int) k sc) (RP l2 F G sm) := by
  obtain ⟨e1, e2, e3, e4, e5, e6, e7, e8, e9, e10, e11, e12, e13, e14, e15, e16, e17, e18, e19, e20, e21, e22, e23⟩ := id h.1
  have n0 : T.tk a ≠ 0 := by rcases hk with ⟨_, _, e⟩ | ⟨_, _, e⟩ <;> rw [e] <;> decide
  have hz := hT.lt e3.2.2 n0
  have h8 := hT.1
  have z1 := hT.lt (show a + 1 ≤ T.z by omega) (by rw [t2]; decide)
  have cc1 := cur_cc (a := a + 1) e1
  have cu1 : CU T (cur T sc (a + 1)) (a + 1) := cur_cu (by omega)
  have cu2 : CU T (cur T (cur T sc (a + 1)) (a + 2)) (a + 2) := cur_cu (by omega)
  have hw3 : 3 ≤ w ∧ w ≤ 5 := by rcases hk with ⟨_, e, _⟩ | ⟨_, e, _⟩ <;> rw [e] <;> decide
  have hM0 : MC T (ax_u2 sm 84 70 0) := e2.row (by simp [ax_u2]) (by funext x; simp [ax_u2])
  have u0 : (ax_u2 sm 84 70 0) 84 18 = (a : Int) := by simpa [ax_u2] using e4
  have f0 : (ax_u2 sm 84 70 0) 84 6 = 0 := by simpa [ax_u2] using e5
  have hM1 := adv_mc (a := a + 1) hM0
  have f1 : (adv (ax_u2 sm 84 70 0) (a + 1)) 84 6 = 0 := by rw [adv_col (by decide)]; exact f0
  obtain ⟨p1, hL⟩ := LI.start (w := w) hT h (by omega) t2 hop (by omega) (by omega)
  have hf260 : f_260 sm = some (1, f_262 w (a : Int) (adv (adv (ax_u2 sm 84 70 0) (a + 1)) (a + 2))) := by
    rcases hk with ⟨y, yw, t1⟩ | ⟨y, yw, t1⟩
    · have t3 := t3 y
      subst yw
      have hM2 := adv_mc (a := a + 2) hM1
      unfold f_260
      rw [if_pos (by omega), eatN hM0 hT u0 e3.2.2 (k := 126) (by decide) (by decide) (by rw [t1]; decide)]
      rw [if_neg (by simp), eatN hM0 hT u0 e3.2.2 (k := 45) (by decide) (by decide) (by rw [t1]; decide)]
      rw [if_pos rfl, eatN hM0 hT u0 e3.2.2 (k := 40) (by decide) (by decide) (by rw [t1]; decide)]
      rw [if_pos rfl, eatN hM0 hT u0 e3.2.2 (k := 2) (by decide) (by decide) (by rw [t1]; decide)]
      rw [if_pos rfl, eatN hM0 hT u0 e3.2.2 (k := 25) (by decide) (by decide) (by rw [t1]; decide)]
      rw [if_neg (by simp), eatN hM0 hT u0 e3.2.2 (k := 26) (by decide) (by decide) (by rw [t1]; decide)]
      rw [if_neg (by simp), eatN hM0 hT u0 e3.2.2 (k := 27) (by decide) (by decide) (by rw [t1]; decide)]
      rw [if_pos rfl, takeY hM0 hT f0 u0 e3.2.2 (k := 1) (by decide) t1, Option.bind_some]
      dsimp only
      rw [if_pos (by omega), eatN hM1 hT adv_at (by omega) (k := 91) (by decide) (by decide) (by rw [t2]; decide)]
      rw [if_pos rfl, eatY hM1 hT f1 adv_at (by omega) (k := 40) (by decide) t2]
      rw [if_neg (by simp), eatN hM2 hT adv_at (by omega) (k := 41) (by decide) (by decide) t3]
      rw [if_neg (by simp), e4, gd_pos p1, Option.bind_some]
    · subst yw
      rw [prim_word hT h (Or.inr (Or.inr t1))]
      unfold j_260_172
      rw [takeY hM1 hT f1 adv_at (by omega) (k := 40) (by decide) t2, Option.bind_some, gd_pos (by omega)]
      dsimp only
      have e88 : (adv (adv (ax_u2 sm 84 70 0) (a + 1)) (a + 1 + 1)) 88 (a : Int).toNat = km (T.tk a) := by rw [adv_row (by decide), adv_row (by decide), u2_row _ _ _ (by decide), Int.toNat_natCast]; exact e2.2 a e3.2.2
      rw [if_neg (by rw [e88, t1]; decide), gd_pos p1, Option.bind_some]
  have hRP : RP l2 F G sm = j_257_25 F l2 1 0 (f_262 w (a : Int) (adv (adv (ax_u2 sm 84 70 0) (a + 1)) (a + 2))) := by
    unfold RP
    rw [hf260, Option.bind_some]
    exact go_25s hG hL.2.2.2.2.1 hL.2.2.2.2.2.2.2.2.2.2.2.2.1
  obtain ⟨Fc, hFc⟩ := FU_split (k := T.z - (a + 2) + 2) (by omega)
  have lp := list_loop hT h hk t2 hd8 hop IH (T.z - (a + 2)) Fc F (by omega) hL (by omega)
  rw [if_pos rfl, if_pos rfl] at lp
  rw [hRP]
  have cls : f_53 ex (d : Int) k sc = j_53_70 ex (Fc + (T.z - (a + 2)) + 2) (d : Int) k (a : Int) ((if ¬ k = 6 then 0 else 2) : Int) (-1) (-1) ((0 : Nat) : Int) 1 (cur T (cur T sc (a + 1)) (a + 2)) := by
    unfold f_53
    rw [nxt hT e1 e3 n0, c92y hT cc1 cu1 t2 (by decide), e3.1]
    show j_53_70 ex FU (d : Int) k (a : Int) _ (-1) (-1) 0 _ (cur T (cur T sc (a + 1)) (a + 2)) = _
    rw [hFc, show Fc + (T.z - (a + 2) + 2) = Fc + (T.z - (a + 2)) + 2 by omega, cu2.2.1]
    have more : ((if (0 : Int) < (if ¬ k = 6 then 0 else 2) then 1 else (if T.tk (a + 2) = 41 then 0 else 1)) : Int) = 1 := by
      rcases hk with ⟨y, _⟩ | ⟨y, _⟩
      · have := t3 y
        rw [y, if_neg (by decide), if_neg this]
      · rw [y, if_pos (by decide)]
    rw [more]
    rfl
  rw [cls]
  exact lp
/-- a slice -/
theorem slice_ok (hT : TWF T) (h : P2 T sc0 sm0 sn rp a0 N0 K0 base W O op sc sm a N K q b nl ll) (t1 : T.tk a = 46) (t2 : T.tk (a + 1) = 2) (t3 : T.tk (a + 2) = 58) (t4 : T.tk (a + 3) = 2) :
    ∃ sD mD : Sg, (∀ F l : Nat, l ≤ 8192 → j_55_2 (F + 1) (l : Int) sc = j_55_2 F ((l + 1 : Nat) : Int) sD) ∧ f_261 sm = some (0, mD) ∧ P2 T sc0 sm0 sn rp a0 N0 K0 base W O op sD mD (a + 4) (N + 1) (K + 1) q b nl ll := by
  obtain ⟨hE, h59, hS, hO, hTop, hK, hB, h70⟩ := id h
  obtain ⟨e1, e2, e3, e4, e5, e6, e7, e8, e9, e10, e11, e12, e13, e14, e15, e16, e17, e18, e19, e20, e21, e22, e23⟩ := id hE
  obtain ⟨tp1, tp2, tp3, tp4, tp5, tp6⟩ := hTop
  obtain ⟨o1, o2, ⟨st, o3, o4, o5⟩, o6, o7, o8⟩ := id hO
  have bd := STK.bd _ _ _ _ hS
  have bs := o8.2.2.1
  have h8 := hT.1
  have hz := hT.lt e3.2.2 (by rw [t1]; decide)
  have z1 := hT.lt (show a + 1 ≤ T.z by omega) (by rw [t2]; decide)
  have z2 := hT.lt (show a + 2 ≤ T.z by omega) (by rw [t3]; decide)
  have z3 := hT.lt (show a + 3 ≤ T.z by omega) (by rw [t4]; decide)
  have hv := hT.2.2.2.2.1 (a + 1) z1
  have hw := hT.2.2.2.2.1 (a + 3) z3
  obtain ⟨cx, qx, nx1, nx2, nx3, nx4, nx5, nr6, nr7, _⟩ := e6.2.2.2 (N - 1) (by omega)
  -- the class: tokens
  have cc1 := cur_cc (a := a + 1) e1
  have cu1 : CU T (cur T sc (a + 1)) (a + 1) := cur_cu (by omega)
  obtain ⟨s2, n1, n2, n3, n4⟩ := c93 (lo := 0) (hi := 31) hT cc1 cu1 t2
  have ef2 : EFc sc s2 := cur_ef.trans (ef30 n3 n4)
  have cc2 := cur_cc (a := a + 2) (ef2.cc e1)
  have cu2 : CU T (cur T s2 (a + 2)) (a + 2) := cur_cu (by omega)
  have cc3 := cur_cc (a := a + 3) cc2
  have cu3 : CU T (cur T (cur T s2 (a + 2)) (a + 3)) (a + 3) := cur_cu (by omega)
  have c8 := c80 cc3 hT (a := a + 3) (by omega)
  obtain ⟨s4, m1, m2, m3, m4⟩ := c93 (lo := 0) (hi := 31) hT cc3 cu3 t4
  have cc4 : CC T (cur T s4 (a + 4)) := cur_cc ((ef30 m3 m4).cc cc3)
  have r4 : ∀ c, c ≠ 39 → c ≠ 30 → (cur T s4 (a + 4)) c = sc c := fun c x y => by rw [cur_row x, m3 c y, cur_row x, cur_row x, n3 c y, cur_row x]
  have r39 : ∀ j, j ≠ 10 → j ≠ 11 → (cur T s4 (a + 4)) 39 j = sc 39 j := fun j x y => by rw [cur_col x y, m3 39 (by decide), cur_col x y, cur_col x y, n3 39 (by decide), cur_col x y]
  have r30 : ∀ j, j < 4 ∨ 7 < j → (cur T s4 (a + 4)) 30 j = sc 30 j := fun j x => by rw [cur_row (by decide), m4 j x, cur_row (by decide), cur_row (by decide), n4 j x, cur_row (by decide)]
  have cn4 : CN (cur T s4 (a + 4)) ↔ (CN sc ∧ 0 ≤ T.vl (a + 1) ∧ T.vl (a + 1) ≤ 31) ∧ 0 ≤ T.vl (a + 3) ∧ T.vl (a + 3) ≤ 31 := by
    have x1 : CN (cur T s4 (a + 4)) ↔ CN s4 := by unfold CN; rw [cur_row (by decide)]
    have x2 : CN (cur T (cur T s2 (a + 2)) (a + 3)) ↔ CN s2 := by unfold CN; rw [cur_row (by decide), cur_row (by decide)]
    have x3 : CN (cur T sc (a + 1)) ↔ CN sc := by unfold CN; rw [cur_row (by decide)]
    rw [x1, m2, x2, n2, x3]
  have mn1 : mn (T.vl (a + 1)) = T.vl (a + 1) ∨ (mn (T.vl (a + 1)) = 1073741824 ∧ 1073741824 < T.vl (a + 1)) := by unfold mn; split <;> omega
  have mn3 : mn (T.vl (a + 3)) = T.vl (a + 3) ∨ (mn (T.vl (a + 3)) = 1073741824 ∧ 1073741824 < T.vl (a + 3)) := by unfold mn; split <;> omega
  -- the state before the node
  obtain ⟨sX, rX, rX39, rX30, huX, cnX, feX⟩ : ∃ sX : Sg, (∀ c, c ≠ 39 → c ≠ 30 → sX c = sc c) ∧ (∀ j, j ≠ 10 → j ≠ 11 → sX 39 j = sc 39 j) ∧ (∀ j, j < 4 ∨ 7 < j → sX 30 j = sc 30 j) ∧ CU T sX (a + 4) ∧ (CN sX ↔ CN sc ∧ T.vl (a + 1) ≤ 31 ∧ T.vl (a + 3) ≤ 31 ∧ T.vl (a + 3) ≤ T.vl (a + 1)) ∧
      ∀ F l : Nat, l ≤ 8192 → j_55_2 (F + 1) (l : Int) sc = j_55_90 (j_55_2 F) (l : Int) (mn (T.vl (a + 1))) (mn (T.vl (a + 3))) sX := by
    have st : ∀ F l : Nat, l ≤ 8192 → j_55_2 (F + 1) (l : Int) sc = (if mn (T.vl (a + 3)) ≤ mn (T.vl (a + 1)) then j_55_90 (j_55_2 F) (l : Int) (mn (T.vl (a + 1))) (mn (T.vl (a + 3))) (cur T s4 (a + 4)) else (gd (g_71 4 (T.fm (a + 3)) (cur T s4 (a + 4))) ((some (f_71 4 (T.fm (a + 3)) (cur T s4 (a + 4)))).bind fun q10 => j_55_90 (j_55_2 F) (l : Int) (mn (T.vl (a + 1))) (mn (T.vl (a + 3))) q10))) := by
      intro F l hl
      rw [j_55_2, e3.2.1, if_neg (by simp [t1]), if_neg (by omega), nxt hT e1 e3 (by rw [t1]; decide), n1]
      show xb (f_92 58 (cur T s2 (a + 2))) _ = _
      rw [c92y hT cc2 cu2 t3 (by decide)]
      show gd (g_80 ((cur T (cur T s2 (a + 2)) (a + 3)) 39 10) (cur T (cur T s2 (a + 2)) (a + 3))) _ = _
      rw [cu3.1, gd_pos c8.2, c8.1, m1]
      rfl
    by_cases d : mn (T.vl (a + 3)) ≤ mn (T.vl (a + 1))
    · refine ⟨cur T s4 (a + 4), r4, r39, r30, cur_cu (by omega), ?_, fun F l hl => by rw [st F l hl, if_pos d]⟩
      rw [cn4]
      exact ⟨fun y => ⟨y.1.1, y.1.2.2, y.2.2, by omega⟩, fun y => ⟨⟨y.1, hv.1, y.2.1⟩, hw.1, y.2.2.1⟩⟩
    · obtain ⟨y1, y2, y3, y4⟩ := c71 (s := cur T s4 (a + 4)) (x := 4) (p := T.fm (a + 3)) (Or.inl rfl) (hT.2.2.2.1 (a + 3) (by omega))
      refine ⟨f_71 4 (T.fm (a + 3)) (cur T s4 (a + 4)), fun c x y => by rw [y3 c y]; exact r4 c x y, fun j x y => by rw [y3 39 (by decide)]; exact r39 j x y, fun j x => by rw [y4 j x]; exact r30 j x, ?_, ⟨fun y => absurd y y2, fun y => ?_⟩, fun F l hl => by rw [st F l hl, if_neg d, gd_pos y1, Option.bind_some]⟩
      · have := cur_cu (T := T) (s := s4) (a := a + 4) (by omega)
        unfold CU at *
        rw [y3 39 (by decide)]
        exact this
      · omega
  have ccX : CC T sX := (show EFc sc sX from ⟨fun c x => rX c (by omega) (by omega), rX39, rX30⟩).cc e1
  obtain ⟨sB, w1, w2, w3, w4⟩ := want_c (w := 9) ccX (o7.rows (fun k _ _ => by rw [rX 45 (by decide) (by decide)]) (fun _ _ _ => rfl) rfl rfl rfl rfl) e3.2.2 h8 (L := lev (sm 116 (N - 1))) (by rw [rX 66 (by decide) (by decide)]; exact tp3) (by rw [rX 66 (by decide) (by decide)]; exact tp4) (fun x => by rw [rX 66 (by decide) (by decide)]; exact tp5 x) (fun p x => by rw [rX 66 (by decide) (by decide)]; exact tp6 p x)
  have rB : ∀ c, c ≠ 39 → c ≠ 30 → c ≠ 45 → sB c = sc c := fun c x y z => by rw [w4 c z]; exact rX c x y
  have sB46 : sB 46 7 = (N : Int) := by rw [rB 46 (by decide) (by decide) (by decide)]; exact e6.1
  have sB8 : sB 66 8 = (N : Int) - 1 := by rw [rB 66 (by decide) (by decide) (by decide)]; exact tp1
  have sB9 : sB 66 9 = (st : Int) := by rw [rB 66 (by decide) (by decide) (by decide), tp2]; exact o3
  obtain ⟨g1, g2, g3, g4⟩ := c124 sB46 (by omega) 7 (st : Int) ((N : Int) - 1) 1 9
  obtain ⟨g5, g6⟩ := g3.widen (by omega) (ax_w32 (ax_w32 (mn (T.vl (a + 1)) - mn (T.vl (a + 3))) + 1))
  obtain ⟨g7, g8⟩ := g6.enum (by omega) (mn (T.vl (a + 3)))
  -- the reference
  have hM1 := adv_mc (a := a + 1) e2
  have hom : ax_w32 (sm 84 59 - 1) = ((O + b : Nat) : Int) := by rw [h59, w32_id (by omega) (by omega)]; omega
  have rv : ∀ c, c ≠ 84 → (adv sm (a + 1)) c = sm c := fun c x => adv_row x
  obtain ⟨mU, u1, u2, u3, u4⟩ := use_m (T := T) (sc := sB) (sm := adv sm (a + 1)) (o := O + b) (l0 := ll) (l1 := a) (w := 9) (n := N - 1) (by rw [rv 116 (by decide)]; exact w2.rows (fun _ _ _ => rfl) (fun k _ _ => by rw [rv 91 (by decide)]) (rv 92 (by decide)) (rv 93 (by decide)) (rv 128 (by decide)) (rv 132 (by decide))) (by rw [rv 126 (by decide), o2]; omega) (by rw [rv 116 (by decide)]; exact nr6) (by rw [rv 116 (by decide)]; exact nr7) (by omega) (by omega) (by omega)
  have rU : ∀ c, c ≠ 91 → c ≠ 84 → mU c = sm c := fun c x y => by rw [u4 c x]; exact rv c y
  have cU : ∀ j, j ≠ 18 → mU 84 j = sm 84 j := fun j x => by rw [u4 84 (by decide)]; exact adv_col x
  have mcU : MC T mU := e2.row (cU 11 (by decide)) (rU 88 (by decide) (by decide))
  have fU : mU 84 6 = 0 := by rw [cU 6 (by decide)]; exact e5
  have aU : mU 84 18 = ((a + 1 : Nat) : Int) := by rw [u4 84 (by decide)]; exact adv_at
  obtain ⟨mM, hmM⟩ : ∃ mM : Sg, mM = adv (adv (adv mU (a + 2)) (a + 3)) (a + 4) := ⟨_, rfl⟩
  have rM : ∀ c, c ≠ 91 → c ≠ 84 → mM c = sm c := fun c x y => by rw [hmM, adv_row y, adv_row y, adv_row y]; exact rU c x y
  have cM : ∀ j, j ≠ 18 → mM 84 j = sm 84 j := fun j x => by rw [hmM, adv_col x, adv_col x, adv_col x]; exact cU j x
  have rM9 : mM 91 = mU 91 := by rw [hmM, adv_row (by decide), adv_row (by decide), adv_row (by decide)]
  obtain ⟨mD, v1, v2⟩ := m266 (s := mM) (N := N) (K := K) (o := O + b) (c := 1) (by rw [cM 47 (by decide)]; exact e6.2.1) (by rw [cM 57 (by decide)]; exact e6.2.2.1) (by rw [cM 59 (by decide)]; exact h59) (by omega) (by omega) (by omega) (by omega) 7 (st : Int) ((a + 1 : Nat) : Int) ((a + 3 : Nat) : Int)
  have kO : mM 126 (O + b) = (N : Int) - 1 := by rw [rM 126 (by decide) (by decide)]; exact o2
  refine ⟨_, mD, fun F l hl => ?_, ?_, MKP2 hE hS (sc' := sB) (sm' := mM) ?_ ?_ ?_ ?_ ?_ ?_ ?_ ?_ ?_ ?_ ?_ ?_ g8 v2 rfl rfl o4 (by omega) (by decide) (by decide) (by simp [AR]) (by rw [if_pos (by decide), kO]) ?_ ?_ ?_ ?_ (by omega) (by omega) (by rw [show a + 4 - 1 = a + 3 by omega, t4]; decide) (Nat.le_refl _) (Nat.le_refl _) (by omega) ?_⟩
  · rw [feX F l hl]
    unfold j_55_90
    rw [w1, Option.bind_some, sB9, sB8, gd_pos g1, Option.bind_some, g2, c124i sB46 (by omega) _ _ _ _ (by omega), sB9, Option.bind_some, g3.2.2.2.2.2.2.2.2.1, gd_pos g5, Option.bind_some, g6.2.2.2.2.2.2.2.2.1, gd_pos g7, Option.bind_some, w32_nat (by omega)]
  · unfold f_261
    rw [eatY e2 hT e5 e4 e3.2.2 (k := 46) (by decide) t1]
    rw [if_neg (by simp)]
    dsimp only
    have h59' : ax_w32 ((adv sm (a + 1)) 84 59 - 1) = ((O + b : Nat) : Int) := by rw [adv_col (by decide)]; exact hom
    rw [h59', u1, Option.bind_some, takeY mcU hT fU aU (by omega) (k := 2) (by decide) t2, Option.bind_some]
    dsimp only
    rw [takeY (adv_mc mcU) hT (by rw [adv_col (by decide)]; exact fU) adv_at (by omega) (k := 58) (by decide) t3, Option.bind_some]
    dsimp only
    rw [takeY (adv_mc (adv_mc mcU)) hT (by rw [adv_col (by decide), adv_col (by decide)]; exact fU) adv_at (by omega) (k := 2) (by decide) t4, Option.bind_some]
    dsimp only
    rw [show adv (adv (adv mU (a + 1 + 1)) (a + 2 + 1)) (a + 3 + 1) = mM from hmM.symm, cM 59 (by decide), hom, gd_pos (by omega), Int.toNat_natCast, rM 127 (by decide) (by decide), o3]
    have v1' : f_266 7 (st : Int) ((a + 1 : Nat) : Int) ((a + 3 : Nat) : Int) 1 mM = some mD := v1
    rw [v1']
    rfl
  · exact ⟨fun k x => ⟨by rw [w3 k (by omega), rX 45 (by decide) (by decide)], by rw [rM9, u3 k (by omega), rv 91 (by decide)], by rw [rM 92 (by decide) (by decide)]⟩, fun c n x y _ => by rw [rB c (by omega) (by omega) (by omega)], fun c n x y _ => by rw [rM c (by omega) (by omega)], fun j _ => by rw [rM 125 (by decide) (by decide)], fun c n x y _ => by rw [rB c (by omega) (by omega) (by omega)], fun c n x y _ => by rw [rM c (by omega) (by omega)], fun c n x y _ => by rw [rM c (by omega) (by omega)], fun k _ => by rw [rM 132 (by decide) (by decide)]⟩
  · exact ⟨fun c x => rB c (by omega) (by omega) (by omega), fun j x y => by rw [w4 39 (by decide)]; exact rX39 j x y, fun j x => by rw [w4 30 (by decide)]; exact rX30 j x⟩
  · exact ⟨fun c x => rM c (by omega) (by omega), fun j x => cM j (by omega)⟩
  · unfold CU at *
    rw [w4 39 (by decide)]
    exact huX
  · rw [hmM]; exact adv_at
  · rw [cM 6 (by decide)]; exact e5
  · exact e6.congr (by rw [rB 46 (by decide) (by decide) (by decide)]) (cM 47 (by decide)) (cM 57 (by decide)) (fun c n x y _ => by rw [rB c (by omega) (by omega) (by omega)]) (fun c n x y _ => by rw [rM c (by omega) (by omega)]) (fun j _ => by rw [rM 125 (by decide) (by decide)])
  · rw [rB 66 (by decide) (by decide) (by decide)]; exact e7
  · rw [cM 63 (by decide)]; exact e8
  · rw [cM 67 (by decide)]; exact e9
  · intro c n y1 y2 _
    rw [rM c (by omega) (by omega)]
  · intro k x y
    by_cases d : k < a
    · exact (u2 k x d).congr rfl (by rw [rM9]) (by rw [rM 92 (by decide) (by decide), rU 92 (by decide) (by decide)]) (by rw [rM 93 (by decide) (by decide), rU 93 (by decide) (by decide)])
    · exact (e12 k (by omega) (by omega)).lf.congr (by rw [w3 k (by omega), rX 45 (by decide) (by decide)]) (by rw [rM9, u3 k (by omega), rv 91 (by decide)]) (by rw [rM 92 (by decide) (by decide)]) (by rw [rM 93 (by decide) (by decide)])
  · intro i hi
    have : i = 0 := by omega
    subst this
    refine ⟨N - 1, kO.trans (show (N : Int) - 1 = ((N - 1 : Nat) : Int) by omega), by omega, ?_⟩
    rw [if_neg (by omega), rB 52 (by decide) (by decide) (by decide)]
    exact o6
  · unfold NV
    rw [v2.2.2.2.1, v2.2.2.2.2.1, v2.2.2.2.2.2.1, v2.2.2.2.2.2.2.1, g8.2.2.1, g8.2.2.2.1]
    exact ⟨by simp, by simp, fun _ => ⟨a + 1, a + 3, rfl, rfl, z1, z3, t2, t4, rfl, rfl⟩, by simp, by simp⟩
  · have s0 : SEG T sB mM sn rp K ll a nl N := o8.rows (fun c x y => rM c (by omega) (by omega)) (rB 48 (by decide) (by decide) (by decide)) (rB 37 (by decide) (by decide) (by decide))
    have s1 := SEG.tok T sB mM sn rp K a N (Or.inr (Or.inl ⟨hB, by rw [t1]; decide⟩)) (fun y => by rw [t1] at y; exact absurd y.1 (by decide))
    have s2' := SEG.tok T sB mM sn rp K (a + 1) N (Or.inr (Or.inr (Or.inr (Or.inr (Or.inr (by rw [show a + 1 - 1 = a by omega, t1, t2]; decide)))))) (fun y => by rw [t2] at y; exact absurd y.1 (by decide))
    have s3 := SEG.tok T sB mM sn rp K (a + 2) N (Or.inr (Or.inl (by rw [show a + 2 - 1 = a + 1 by omega, t2, t3]; decide))) (fun y => by rw [t3] at y; exact absurd y.1 (by decide))
    have s4' := SEG.tok T sB mM sn rp K (a + 3) N (Or.inl (by rw [show a + 3 - 1 = a + 2 by omega, t3, t4]; decide)) (fun y => by rw [t4] at y; exact absurd y.1 (by decide))
    refine ((((s0.merge s1).merge s2').merge s3).merge s4').addn v2 (fun n hn => g8.2.2.2.2.2.2.2.2.2.2.2.2.2.1 48 n (by decide) (by decide) (by omega)) (g8.2.2.2.2.2.2.2.2.2.2.2.2.2.2.2.1 37 (by omega)) (by decide) (by omega) (fun i hi => ?_) (by rw [cM 68 (by decide)]; exact e10) (by rw [cM 46 (by decide)]; exact e11) (fun _ y => absurd y (by decide))
    have : i = 0 := by omega
    subst this
    exact Int.le_trans (show (nl : Int) ≤ (N : Int) - 1 by omega) (Int.le_of_eq kO.symm)
  · have nk : NOK T (sc0 37) mD N ↔ (T.vl (a + 1) ≤ 31 ∧ T.vl (a + 3) ≤ 31 ∧ T.vl (a + 3) ≤ T.vl (a + 1)) := by
      unfold NOK
      rw [v2.2.2.2.1, v2.2.2.2.2.2.1, v2.2.2.2.2.2.2.1, Int.toNat_natCast, Int.toNat_natCast]
      exact ⟨fun y => y.2.2.1 rfl, fun y => ⟨by simp, by simp, fun _ => y, by simp⟩⟩
    have c1 : CN (f_125 (N : Int) (mn (T.vl (a + 3))) (f_123 (N : Int) (ax_w32 (ax_w32 (mn (T.vl (a + 1)) - mn (T.vl (a + 3))) + 1)) (f_64 (N : Int) (st : Int) 9 (f_124 7 (st : Int) ((N : Int) - 1) 1 sB).2))) ↔ CN sX := by unfold CN; rw [r125 (by decide), r123 (by decide), g4, w4 30 (by decide)]
    rw [c1, cnX, ← nk]
    exact ⟨fun y => ⟨y.1, fun n z1 z2 => by rw [show n = N by omega]; exact y.2⟩, fun y => ⟨y.1, y.2 N (Nat.le_refl _) (by omega)⟩⟩
  · rw [cM 70 (by decide)]; exact h70
end LB
/-! SLICES that are none, all slices; all reduced; an operator. -/
section SB
variable {T : TT} {sc0 sm0 sc sm sc1 sm1 sc' sm' sB mB s : Sg} {sn rp l2 w k : Int} {a0 N0 K0 base W O op a a1 a' a2 N N1 N' K K1 K' q b o nl ll : Nat}
theorem slice_bad (hT : TWF T) (h : P2 T sc0 sm0 sn rp a0 N0 K0 base W O op sc sm a N K q b nl ll) (t1 : T.tk a = 46) (t : ¬ (T.tk (a + 1) = 2 ∧ T.tk (a + 2) = 58 ∧ T.tk (a + 3) = 2)) :
    ∃ s' mD : Sg, (∀ F l : Nat, l ≤ 8192 → j_55_2 (F + 1) (l : Int) sc = some (.inr (15, s'))) ∧ BDc T sc s' ∧ f_261 sm = some (0, mD) ∧ BDm sm mD := by
  obtain ⟨hE, h59, hS, hO, hTop, hK, hB, h70⟩ := id h
  obtain ⟨e1, e2, e3, e4, e5, e6, e7, e8, e9, e10, e11, e12, e13, e14, e15, e16, e17, e18, e19, e20, e21, e22, e23⟩ := id hE
  obtain ⟨o1, o2, ⟨st, o3, o4, o5⟩, o6, o7, o8⟩ := id hO
  have bd := STK.bd _ _ _ _ hS
  have bs := o8.2.2.1
  have h8 := hT.1
  have hz := hT.lt e3.2.2 (by rw [t1]; decide)
  obtain ⟨cx, qx, nx1, nx2, nx3, nx4, nx5, nr6, nr7, _⟩ := e6.2.2.2 (N - 1) (by omega)
  have cc1 := cur_cc (a := a + 1) e1
  have cu1 : CU T (cur T sc (a + 1)) (a + 1) := cur_cu (by omega)
  have hom : ax_w32 (sm 84 59 - 1) = ((O + b : Nat) : Int) := by rw [h59, w32_id (by omega) (by omega)]; omega
  have rv : ∀ c, c ≠ 84 → (adv sm (a + 1)) c = sm c := fun c x => adv_row x
  -- brackets as the reference sees them: whatever the class has made of its own
  obtain ⟨mU, u1, u4⟩ : ∃ mU : Sg, f_265 ((O + b : Nat) : Int) 9 (adv sm (a + 1)) = some mU ∧ (∀ c, c ≠ 91 → mU c = (adv sm (a + 1)) c) := by
    by_cases lv : 9 ≤ lev (sm 116 (N - 1))
    · obtain ⟨mU, u1, _, _, u4⟩ := use_m (T := T) (sc := sc) (sm := adv sm (a + 1)) (o := O + b) (l0 := ll) (l1 := a) (w := 9) (n := N - 1) (by rw [rv 116 (by decide), if_pos lv]; exact o7.rows (fun _ _ _ => rfl) (fun k _ _ => by rw [rv 91 (by decide)]) (rv 92 (by decide)) (rv 93 (by decide)) (rv 128 (by decide)) (rv 132 (by decide))) (by rw [rv 126 (by decide), o2]; omega) (by rw [rv 116 (by decide)]; exact nr6) (by rw [rv 116 (by decide)]; exact nr7) (by omega) (by omega) (by omega)
      exact ⟨mU, u1, u4⟩
    · refine ⟨adv sm (a + 1), ?_, fun _ _ => rfl⟩
      unfold f_265
      rw [gd_pos (by omega), Int.toNat_natCast]
      by_cases d : (adv sm (a + 1)) 128 (O + b) < 0
      · rw [if_pos d]
      · rw [if_neg d, gd_pos (by omega), rv 126 (by decide), o2, gd_pos (by omega), rv 116 (by decide), show ((N : Int) - 1).toNat = N - 1 by omega, f268 _ nr6 nr7, if_neg lv]
  have cU : ∀ j, j ≠ 18 → mU 84 j = sm 84 j := fun j x => by rw [u4 84 (by decide)]; exact adv_col x
  have rU : ∀ c, c ≠ 91 → c ≠ 84 → mU c = sm c := fun c x y => by rw [u4 c x]; exact rv c y
  have mcU : MC T mU := e2.row (cU 11 (by decide)) (rU 88 (by decide) (by decide))
  have fU : mU 84 6 = 0 := by rw [cU 6 (by decide)]; exact e5
  have aU : mU 84 18 = ((a + 1 : Nat) : Int) := by rw [u4 84 (by decide)]; exact adv_at
  have fin : ∀ (mF : Sg) (x y : Int), (∀ c, c ≠ 91 → c ≠ 84 → mF c = sm c) → (∀ j, j ≠ 6 → j ≠ 7 → j ≠ 18 → mF 84 j = sm 84 j) → 0 < mF 84 6 → (f_231 2 mU).bind (fun q9 => (f_231 17 q9.2).bind fun q10 => (f_231 2 q10.2).bind fun q11 => some (q9.1, q11)) = some (x, (y, mF)) → ∃ mD : Sg, f_261 sm = some (0, mD) ∧ BDm sm mD := by
    intro mF x y k1 k2 k3 k4
    obtain ⟨b1, c1, b2⟩ := bd_some k4
    obtain ⟨b3, c2, b4⟩ := bd_some b2
    obtain ⟨b5, c3, b6⟩ := bd_some b4
    obtain ⟨hb1, hb2⟩ := Prod.mk.inj (Option.some.inj b6)
    obtain ⟨mD, v1, v2⟩ := m266 (s := mF) (N := N) (K := K) (o := O + b) (c := 1) (by rw [k2 47 (by decide) (by decide) (by decide)]; exact e6.2.1) (by rw [k2 57 (by decide) (by decide) (by decide)]; exact e6.2.2.1) (by rw [k2 59 (by decide) (by decide) (by decide)]; exact h59) (by omega) (by omega) (by omega) (by omega) 7 (mF 127 (O + b)) b1.1 y
    refine ⟨mD, ?_, EFm.trans (sm' := mF) ⟨fun c x => k1 c (by omega) (by omega), fun j x => k2 j (by omega) (by omega) (by omega)⟩ v2.ef, ?_⟩
    · unfold f_261
      rw [eatY e2 hT e5 e4 e3.2.2 (k := 46) (by decide) t1]
      rw [if_neg (by simp)]
      dsimp only
      have h59' : ax_w32 ((adv sm (a + 1)) 84 59 - 1) = ((O + b : Nat) : Int) := by rw [adv_col (by decide)]; exact hom
      rw [h59', u1, Option.bind_some, c1, Option.bind_some, c2, Option.bind_some, c3, Option.bind_some, hb2]
      dsimp only
      rw [k2 59 (by decide) (by decide) (by decide), hom, gd_pos (by omega), Int.toNat_natCast]
      have v1' : f_266 7 (mF 127 (O + b)) b1.1 y 1 mF = some mD := v1
      rw [v1']
      rfl
    · rw [v2.2.2.2.2.2.2.2.2.2.2.2.2.2.2.2.2.2.2.2 6 (by decide) (by decide) (by decide)]
      exact k3
  by_cases t2 : T.tk (a + 1) = 2
  · have z1 := hT.lt (show a + 1 ≤ T.z by omega) (by rw [t2]; decide)
    obtain ⟨s2, n1, n2, n3, n4⟩ := c93 (lo := 0) (hi := 31) hT cc1 cu1 t2
    have ef2 : EFc sc s2 := cur_ef.trans (ef30 n3 n4)
    have cc2 := cur_cc (a := a + 2) (ef2.cc e1)
    have cu2 : CU T (cur T s2 (a + 2)) (a + 2) := cur_cu (by omega)
    by_cases t3 : T.tk (a + 2) = 58
    · have z2 := hT.lt (show a + 2 ≤ T.z by omega) (by rw [t3]; decide)
      have t4 : T.tk (a + 3) ≠ 2 := fun y => t ⟨t2, t3, y⟩
      have cc3 := cur_cc (a := a + 3) cc2
      have cu3 : CU T (cur T (cur T s2 (a + 2)) (a + 3)) (a + 3) := cur_cu (by omega)
      have c8 := c80 cc3 hT (a := a + 3) (by omega)
      obtain ⟨mD, d1, d2⟩ := fin (tel (adv (adv mU (a + 2)) (a + 3)) 2 (a + 3)) ((a + 1 : Nat) : Int) 0 (fun c x y => by rw [tel_row y, adv_row y, adv_row y]; exact rU c x y) (fun j x y z => by rw [tel_col x y, adv_col z, adv_col z]; exact cU j z) (by rw [tel_at]; decide) (by
        rw [takeY mcU hT fU aU (by omega) (k := 2) (by decide) t2, Option.bind_some]
        dsimp only
        rw [takeY (adv_mc mcU) hT (by rw [adv_col (by decide)]; exact fU) adv_at (by omega) (k := 58) (by decide) t3, Option.bind_some]
        dsimp only
        rw [takeN (adv_mc (adv_mc mcU)) hT (by rw [adv_col (by decide), adv_col (by decide)]; exact fU) adv_at (by omega) (k := 2) (by decide) (by decide) t4, Option.bind_some])
      refine ⟨cur T (cur T s2 (a + 2)) (a + 3), mD, fun F l hl => ?_, ⟨(ef2.trans cur_ef).trans cur_ef, _, cu3⟩, d1, d2⟩
      rw [j_55_2, e3.2.1, if_neg (by simp [t1]), if_neg (by omega), nxt hT e1 e3 (by rw [t1]; decide), n1]
      show xb (f_92 58 (cur T s2 (a + 2))) _ = _
      rw [c92y hT cc2 cu2 t3 (by decide)]
      show gd (g_80 ((cur T (cur T s2 (a + 2)) (a + 3)) 39 10) (cur T (cur T s2 (a + 2)) (a + 3))) _ = _
      rw [cu3.1, gd_pos c8.2, c93n cu3 t4]
      rfl
    · obtain ⟨mD, d1, d2⟩ := fin (tel (adv mU (a + 2)) 2 (a + 2)) ((a + 1 : Nat) : Int) 0 (fun c x y => by rw [tel_row y, adv_row y]; exact rU c x y) (fun j x y z => by rw [tel_col x y, adv_col z]; exact cU j z) (by rw [tel_at]; decide) (by
        rw [takeY mcU hT fU aU (by omega) (k := 2) (by decide) t2, Option.bind_some]
        dsimp only
        rw [takeN (adv_mc mcU) hT (by rw [adv_col (by decide)]; exact fU) adv_at (by omega) (k := 58) (by decide) (by decide) t3, Option.bind_some]
        dsimp only
        rw [takeF (by rw [tel_at]; decide), Option.bind_some])
      refine ⟨cur T s2 (a + 2), mD, fun F l hl => ?_, ⟨ef2.trans cur_ef, _, cu2⟩, d1, d2⟩
      rw [j_55_2, e3.2.1, if_neg (by simp [t1]), if_neg (by omega), nxt hT e1 e3 (by rw [t1]; decide), n1]
      show xb (f_92 58 (cur T s2 (a + 2))) _ = _
      rw [c92n cu2 t3]
      rfl
  · obtain ⟨mD, d1, d2⟩ := fin (tel mU 2 (a + 1)) 0 0 (fun c x y => by rw [tel_row y]; exact rU c x y) (fun j x y z => by rw [tel_col x y]; exact cU j z) (by rw [tel_at]; decide) (by
      rw [takeN mcU hT fU aU (by omega) (k := 2) (by decide) (by decide) t2, Option.bind_some]
      dsimp only
      rw [takeF (by rw [tel_at]; decide), Option.bind_some]
      dsimp only
      rw [takeF (by rw [tel_at]; decide), Option.bind_some])
    refine ⟨cur T sc (a + 1), mD, fun F l hl => ?_, ⟨cur_ef, _, cu1⟩, d1, d2⟩
    rw [j_55_2, e3.2.1, if_neg (by simp [t1]), if_neg (by omega), nxt hT e1 e3 (by rw [t1]; decide), c93n cu1 t2]
    rfl
/-- the reference behind an operand -/
theorem RB_step {F : Nat} {v : Int} {mD : Sg} (hf : sm 84 6 = 0) (h : f_261 sm = some (v, mD)) : j_257_25 (F + 1) l2 0 0 sm = j_257_105 (j_257_25 F) FU l2 ((if ¬ v = 1 then 0 else 1) : Int) ((if ¬ v = 2 then 0 else 1) : Int) mD := by
  rw [j_257_25, if_neg (by simp [hf]), if_neg (by simp), if_pos rfl, h, Option.bind_some]
/-- all slices -/
theorem slices_all (hT : TWF T) : ∀ (r : Nat) {sc sm : Sg} {a N K l : Nat} (Fc F : Nat), a + r = T.z → l ≤ a → T.z + 2 ≤ F + a → P2 T sc0 sm0 sn rp a0 N0 K0 base W O op sc sm a N K q b nl ll →
    (∃ (sc' sm' : Sg) (a' N' K' F' : Nat), j_55_2 (Fc + r + 1) (l : Int) sc = some (.inl sc') ∧ j_257_25 F l2 0 0 sm = j_257_25 F' l2 0 0 sm' ∧ P2 T sc0 sm0 sn rp a0 N0 K0 base W O op sc' sm' a' N' K' q b nl ll ∧ a ≤ a' ∧ T.z + 2 ≤ F' + a' ∧ T.tk a' ≠ 46) ∨
    (∃ s' mF : Sg, j_55_2 (Fc + r + 1) (l : Int) sc = some (.inr (15, s')) ∧ BDc T sc0 s' ∧ j_257_25 F l2 0 0 sm = some (0, mF) ∧ BDm sm0 mF) := by
  intro r
  induction r using Nat.strongRecOn with
  | ind r ih =>
    intro sc sm a N K l Fc F hr hl hF h
    have h8 := hT.1
    have e3 := h.1.2.2.1
    have e5 := h.1.2.2.2.2.1
    have e14 := h.1.2.2.2.2.2.2.2.2.2.2.2.2.2.1
    have e15 := h.1.2.2.2.2.2.2.2.2.2.2.2.2.2.2.1
    by_cases t1 : T.tk a = 46
    · have hz := hT.lt e3.2.2 (by rw [t1]; decide)
      obtain ⟨F, rfl⟩ : ∃ k, F = k + 1 := ⟨F - 1, by omega⟩
      by_cases t : T.tk (a + 1) = 2 ∧ T.tk (a + 2) = 58 ∧ T.tk (a + 3) = 2
      · obtain ⟨sD, mD, d1, d2, d3⟩ := slice_ok hT h t1 t.1 t.2.1 t.2.2
        have hz3 := d3.1.2.2.1.2.2
        have hfD := d3.1.2.2.2.2.1
        have st : j_257_25 (F + 1) l2 0 0 sm = j_257_25 F l2 0 0 mD := by
          rw [RB_step e5 d2, if_pos (by decide), if_pos (by decide)]
          exact go_25 FU1 hfD
        rw [st, show Fc + r + 1 = (Fc + 3) + (r - 4) + 1 + 1 by omega, d1 _ _ (by omega)]
        rcases ih (r - 4) (by omega) (l := l + 1) (Fc + 3) F (by omega) (by omega) (by omega) d3 with ⟨sc', sm', a', N', K', F', y1, y2, y3, y4, y5, y6⟩ | y
        · exact Or.inl ⟨sc', sm', a', N', K', F', y1, y2, y3, by omega, y5, y6⟩
        · exact Or.inr y
      · obtain ⟨s', mD, d1, d2, d3, d4⟩ := slice_bad hT h t1 t
        refine Or.inr ⟨s', mD, d1 _ _ (by omega), ⟨e14.trans d2.1, d2.2⟩, ?_, e15.trans d4.1, d4.2⟩
        rw [RB_step e5 d3]
        exact flt_105 (by omega) FU1 d4.2
    · refine Or.inl ⟨sc, sm, a, N, K, F, ?_, rfl, h, Nat.le_refl _, hF, t1⟩
      rw [j_55_2, e3.2.1, if_pos t1]
/-- all operators, by two bounds that none is below -/
theorem red_zero {l l' : Int} (hT : TWF T) : ∀ (q : Nat) {sc sm : Sg} {N K b nl ll : Nat}, P2 T sc0 sm0 sn rp a0 N0 K0 base W O op sc sm a N K q b nl ll → (∀ i, i < q → l ≤ lev (sc 67 (base + i)) ∧ l' ≤ lev (sc 67 (base + i))) → ∀ F G : Nat,
    ∃ (sc' sm' : Sg) (N' K' : Nat), j_58_0 (F + q + 1) (base : Int) l sc = some sc' ∧ j_269_0 (G + q + 1) l' sm = some sm' ∧ P2 T sc0 sm0 sn rp a0 N0 K0 base W O op sc' sm' a N' K' 0 0 N0 a0 := by
  intro q
  induction q with
  | zero =>
    intro sc sm N K b nl ll h hl F G
    obtain ⟨sc', sm', N', K', q', b', nl', ll', y1, y2, y3, y4, y5, y6, y7⟩ := red_all (l := 1) hT (by decide) 0 h F G
    have h1 : j_58_0 (F + 0 + 1) (base : Int) l sc = j_58_0 (F + 0 + 1) (base : Int) 1 sc := by
      have e7 := h.1.2.2.2.2.2.2.1
      rw [j_58_0, j_58_0, if_pos (by omega), if_pos (by omega)]
    have h2 : j_269_0 (G + 0 + 1) l' sm = j_269_0 (G + 0 + 1) 1 sm := by
      have e8 := h.1.2.2.2.2.2.2.2.1
      have e17 := h.1.2.2.2.2.2.2.2.2.2.2.2.2.2.2.2.2.1
      have hb := h.1.2.2.2.2.2.2.2.2.2.2.2.2.2.2.2.2.2.2.1
      have ha := h.1.2.2.1.2.2
      have ha2 := h.1.2.2.2.2.2.2.2.2.2.2.2.2.2.2.2.2.2.2.2.2.2.1
      have h8 := hT.1
      have side : ∀ x : Int, j_269_0 (G + 0 + 1) x sm = some sm := by
        intro x
        rw [j_269_0]
        by_cases d : W = 0
        · rw [if_pos (by omega)]
        · have : ax_w32 (sm 84 63 - 1) = ((W - 1 : Nat) : Int) := by rw [e8, w32_id (by omega) (by omega)]; omega
          have e17' : 100 ≤ sm 129 (W - 1) := by rcases e17 with e | e; omega; exact e
          rw [if_neg (by omega), this, gd_pos (by omega), Int.toNat_natCast, if_pos e17']
      rw [side, side]
    have hq : q' = 0 := by omega
    subst hq
    have hS := y3.2.2.1
    obtain ⟨z1, z2, z3⟩ := hS
    subst z1 z2 z3
    exact ⟨sc', sm', N', K', by rw [h1]; exact y1, by rw [h2]; exact y2, y3⟩
  | succ q ih =>
    intro sc sm N K b nl ll h hl F G
    have hS := h.2.2.1
    have hl0 := hl q (by omega)
    have step : ∃ (sc1 sm1 : Sg) (N1 K1 b1 nl1 ll1 : Nat), (∀ F, j_58_0 (F + 1) (base : Int) l sc = j_58_0 F (base : Int) l sc1) ∧ (∀ F, j_269_0 (F + 1) l' sm = j_269_0 F l' sm1) ∧ P2 T sc0 sm0 sn rp a0 N0 K0 base W O op sc1 sm1 a N1 K1 q b1 nl1 ll1 ∧ sc1 67 = sc 67 := by
      rcases hS with ⟨p, b1, b2, b3, b4, b5, b6, b7, b8⟩ | ⟨p, nl', ll', b', b1, b2, b3, b4, b5, b6, b7, b8, b9, b10, b11, b12, b13⟩
      · obtain ⟨sc1, sm1, z1, z2, z3, z4⟩ := red_pre hT h b1 b2 b3 b4 b5 b6 b7 b8
        have lv8 : lev (sc 67 (base + q)) = 8 := by rcases b1 with e | e <;> rw [e] <;> decide
        exact ⟨sc1, sm1, _, _, _, _, _, fun F => z1 F l (by omega), fun F => z2 F l' (by omega), z4, z3⟩
      · obtain ⟨sc1, sm1, z1, z2, z3, z4⟩ := red_bin hT h b1 b2 b3 b4 b6 b7 b8 b9 b10 b11 b12 b13
        exact ⟨sc1, sm1, _, _, _, _, _, fun F => z1 F l hl0.1, fun F => z2 F l' hl0.2, z4, z3⟩
    obtain ⟨sc1, sm1, N1, K1, b1, nl1, ll1, z1, z2, z3, z4⟩ := step
    obtain ⟨sc', sm', N', K', y1, y2, y3⟩ := ih z3 (fun i hi => by rw [z4]; exact hl i (by omega)) F G
    refine ⟨sc', sm', N', K', ?_, ?_, y3⟩
    · rw [show F + (q + 1) + 1 = F + q + 1 + 1 by omega, z1]
      exact y1
    · rw [show G + (q + 1) + 1 = G + q + 1 + 1 by omega, z2]
      exact y2
/-- every operator's level is one at least; two, if it isn't the first -/
theorem STK.lv : ∀ q b nl ll, STK T sc sm sn rp K base W O a0 N0 q b nl ll → ∀ i, i < q → 1 ≤ lev (sc 67 (base + i)) ∧ (1 ≤ i → 2 ≤ lev (sc 67 (base + i))) ∧ 0 ≤ sc 67 (base + i) ∧ sc 67 (base + i) ≤ 21 := by
  intro q
  induction q with
  | zero => intro b nl ll _ i hi; omega
  | succ q ih =>
    intro b nl ll h i hi
    by_cases d : i = q
    · subst d
      rcases h with ⟨p, b1, _⟩ | ⟨p, nl', ll', b', b1, b2, b3, b4, b5, _⟩
      · have : lev (sc 67 (base + i)) = 8 := by rcases b1 with e | e <;> rw [e] <;> decide
        exact ⟨by omega, fun _ => by omega, by omega, by omega⟩
      · have := (lev_b (sc 67 (base + i)) (by omega) (by omega)).2.2.1 b2 b3
        exact ⟨this.1, b5, by omega, by omega⟩
    · rcases h with ⟨p, b1, b2, b3, b4, b5, b6, b7, b8⟩ | ⟨p, nl', ll', b', b1, b2, b3, b4, b5, b6, b7, b8, b9, b10, b11, b12, b13⟩
      · exact ih _ _ _ b8 i (by omega)
      · exact ih _ _ _ b13 i (by omega)
/-- an operator -/
theorem op_step (hT : TWF T) (h : P2 T sc0 sm0 sn rp a0 N0 K0 base W O op sc sm a N K q b nl ll) (hk : bin (T.tk a) = k) (hk1 : 10 ≤ k) (hq : 1 ≤ q → 2 ≤ lev k) :
    ∃ sc' sm1 : Sg, f_59 k sc = some sc' ∧ j_261_161 k sm = some (1, sm1) ∧ sm1 84 70 = 1 ∧ sm1 84 6 = 0 ∧ P1 T sc0 sm0 sn rp a0 N0 K0 base W O op sc' (ax_u2 sm1 84 70 0) (a + 1) N K (q + 1) (b + 1) := by
  obtain ⟨hE, h59, hS, hO, hTop, hK, hB, h70⟩ := id h
  obtain ⟨e1, e2, e3, e4, e5, e6, e7, e8, e9, e10, e11, e12, e13, e14, e15, e16, e17, e18, e19, e20, e21, e22, e23⟩ := id hE
  obtain ⟨tp1, tp2, tp3, tp4, tp5, tp6⟩ := hTop
  obtain ⟨o1, o2, ⟨st, o3, o4, o5⟩, o6, o7, o8⟩ := id hO
  have bd := STK.bd _ _ _ _ hS
  have bs := o8.2.2.1
  have h8 := hT.1
  have hb := bin_b (T.tk a)
  have hk2 : k ≤ 20 := by omega
  have tk0 : T.tk a ∈ opA ∧ T.tk a ∈ opF ∧ T.tk a ≠ 0 ∧ T.tk a ≠ 1 ∧ T.tk a ≠ 61 := by
    have : ∀ c ∈ kvl, 10 ≤ bin c → c ∈ opA ∧ c ∈ opF ∧ c ≠ 0 ∧ c ≠ 1 ∧ c ≠ 61 := by decide +kernel
    exact this _ (hT.kv e3.2.2) (by omega)
  have hz := hT.lt e3.2.2 tk0.2.2.1
  have lvb := (lev_b k (by omega) (by omega)).2.2.1 hk1 hk2
  obtain ⟨cx, qx, nx1, nx2, nx3, nx4, nx5, nr6, nr7, _⟩ := e6.2.2.2 (N - 1) (by omega)
  -- the class
  have f5 := f57 e1 (k := k) (by omega) (by omega)
  obtain ⟨sB, w1, w2, w3, w4⟩ := want_c (w := wl k) e1 o7 e3.2.2 h8 (L := lev (sm 116 (N - 1))) tp3 tp4 tp5 tp6
  have p61 : g_61 k ((N : Int) - 1) (st : Int) sB ∧ f_61 k ((N : Int) - 1) (st : Int) sB = ax_u2 (ax_u2 (ax_u2 (ax_u2 sB 67 (base + q) k) 68 (base + q) ((N : Int) - 1)) 69 (base + q) (st : Int)) 66 7 ((base + q + 1 : Nat) : Int) := by
    have : sB 66 7 = ((base + q : Nat) : Int) := by rw [w4 66 (by decide)]; exact e7
    unfold g_61 f_61
    rw [this]
    refine ⟨⟨fun _ => trivial, fun _ => ⟨⟨by omega, by omega⟩, ⟨by omega, by omega⟩, ⟨by omega, by omega⟩, trivial⟩⟩, ?_⟩
    rw [if_neg (by omega), Int.toNat_natCast, w32_nat (by omega)]
  obtain ⟨sp, hsp⟩ : ∃ sp : Sg, sp = ax_u2 (ax_u2 (ax_u2 (ax_u2 (ax_u2 sB 67 (base + q) k) 68 (base + q) ((N : Int) - 1)) 69 (base + q) (st : Int)) 66 7 ((base + q + 1 : Nat) : Int)) 45 a 1 := ⟨_, rfl⟩
  have rS : ∀ c, ¬ (66 ≤ c ∧ c ≤ 69 ∨ c = 45) → sp c = sc c := fun c x => by
    rw [hsp, u2_row _ _ _ (by omega), u2_row _ _ _ (by omega), u2_row _ _ _ (by omega), u2_row _ _ _ (by omega), u2_row _ _ _ (by omega)]
    exact w4 c (by omega)
  have iS : ∀ c i, 67 ≤ c → c ≤ 69 → i ≠ base + q → sp c i = sc c i := fun c i x y w => by
    rw [← w4 c (by omega), hsp]; simp [ax_u2, w, show c ≠ 66 by omega, show c ≠ 45 by omega]
  have s45 : ∀ k, k ≠ a → sp 45 k = sB 45 k := fun k x => by rw [hsp, u2_col _ _ _ x]; simp [ax_u2]
  have ccp : CC T sp := e1.row (by rw [rS 39 (by omega)]) (rS 41 (by omega)) (rS 42 (by omega)) (rS 44 (by omega)) (by rw [rS 31 (by omega)]) (rS 1 (by omega))
  have cup : CU T sp a := by unfold CU at *; rw [rS 39 (by omega)]; exact e3
  have rC : ∀ c, c ≠ 39 → (cur T sp (a + 1)) c = sp c := fun c x => cur_row x
  -- the reference
  obtain ⟨mp, hmp⟩ : ∃ mp : Sg, mp = ax_u2 (ax_u2 (ax_u2 (ax_u2 (ax_u2 (ax_u2 sm 92 a 1) 129 (W + q) k) 130 (W + q) (a : Int)) 84 63 ((W + q + 1 : Nat) : Int)) 84 18 ((a + 1 : Nat) : Int)) 84 70 1 := ⟨_, rfl⟩
  have rM2 : ∀ c, ¬ (c = 84 ∨ c = 92 ∨ c = 129 ∨ c = 130) → (ax_u2 mp 84 70 0) c = sm c := fun c x => by
    rw [u2_row _ _ _ (by omega), hmp, u2_row _ _ _ (by omega), u2_row _ _ _ (by omega), u2_row _ _ _ (by omega), u2_row _ _ _ (by omega), u2_row _ _ _ (by omega), u2_row _ _ _ (by omega)]
  have iM2 : ∀ c i, 129 ≤ c → c ≤ 131 → i ≠ W + q → (ax_u2 mp 84 70 0) c i = sm c i := fun c i x y w => by
    rw [hmp]; simp [ax_u2, w, show c ≠ 84 by omega, show c ≠ 92 by omega]
  have m92 : ∀ k, k ≠ a → (ax_u2 mp 84 70 0) 92 k = sm 92 k := fun k x => by rw [hmp]; simp [ax_u2, x]
  have cM2 : ∀ j, j ≠ 18 → j ≠ 63 → j ≠ 70 → (ax_u2 mp 84 70 0) 84 j = sm 84 j := fun j x y w => by rw [hmp]; simp [ax_u2, x, y, w]
  refine ⟨cur T sp (a + 1), mp, ?_, ?_, by rw [hmp]; exact u2_same _ _ _ _, by rw [hmp]; simp [ax_u2, e5], ?_⟩
  · unfold f_59
    rw [gd_pos f5.2, f5.1]
    have ew : ((if ¬ lev k = 1 then lev k else ax_w32 (lev k + 1)) : Int) = wl k := by
      unfold wl
      by_cases d : lev k = 1
      · rw [if_neg (by simp [d]), if_pos d, d]; decide
      · rw [if_pos d, if_neg d]
    rw [ew, w1, Option.bind_some, show sB 66 8 = (N : Int) - 1 by rw [w4 66 (by decide)]; exact tp1, show sB 66 9 = (st : Int) by rw [w4 66 (by decide), tp2]; exact o3, gd_pos p61.1, p61.2, Option.bind_some]
    have cx : CC T (ax_u2 (ax_u2 (ax_u2 (ax_u2 sB 67 (base + q) k) 68 (base + q) ((N : Int) - 1)) 69 (base + q) (st : Int)) 66 7 ((base + q + 1 : Nat) : Int)) := e1.row (by simp [ax_u2]; rw [w4 39 (by decide)]) (by rw [u2_row _ _ _ (by decide), u2_row _ _ _ (by decide), u2_row _ _ _ (by decide), u2_row _ _ _ (by decide)]; exact w4 41 (by decide)) (by rw [u2_row _ _ _ (by decide), u2_row _ _ _ (by decide), u2_row _ _ _ (by decide), u2_row _ _ _ (by decide)]; exact w4 42 (by decide)) (by rw [u2_row _ _ _ (by decide), u2_row _ _ _ (by decide), u2_row _ _ _ (by decide), u2_row _ _ _ (by decide)]; exact w4 44 (by decide)) (by simp [ax_u2]; rw [w4 31 (by decide)]) (by rw [u2_row _ _ _ (by decide), u2_row _ _ _ (by decide), u2_row _ _ _ (by decide), u2_row _ _ _ (by decide)]; exact w4 1 (by decide))
    have c9 := c99 cx hT hz 1
    rw [show (ax_u2 (ax_u2 (ax_u2 (ax_u2 sB 67 (base + q) k) 68 (base + q) ((N : Int) - 1)) 69 (base + q) (st : Int)) 66 7 ((base + q + 1 : Nat) : Int)) 39 10 = (a : Int) by rw [u2_row _ _ _ (by decide), u2_row _ _ _ (by decide), u2_row _ _ _ (by decide), u2_row _ _ _ (by decide), w4 39 (by decide)]; exact e3.1, gd_pos c9.1, c9.2, Option.bind_some, ← hsp, nxt hT ccp cup tk0.2.2.1]
  · unfold j_261_161
    rw [e4, e8, gd_pos (by omega), gd_pos (by omega), gd_pos (by omega), Int.toNat_natCast, Int.toNat_natCast, w32_nat (by omega), w32_nat (by omega), hmp]
  · have xB : XF sc sm (cur T sp (a + 1)) (ax_u2 mp 84 70 0) ll (a + 1) N K (base + q) (W + q) (O + b + 1) := ⟨fun k x => ⟨by rw [rC 45 (by decide), s45 k (by omega)]; exact w3 k (by omega), by rw [rM2 91 (by omega)], m92 k (by omega)⟩, fun c n x y _ => by rw [rC c (by omega), rS c (by omega)], fun c n x y _ => by rw [rM2 c (by omega)], fun j _ => by rw [rM2 125 (by omega)], fun c n x y _ => by rw [rC c (by omega), iS c n x y (by omega)], fun c n x y _ => by rw [rM2 c (by omega)], fun c n x y _ => iM2 c n x y (by omega), fun k _ => by rw [rM2 132 (by omega)]⟩
    have ec : EFc sc (cur T sp (a + 1)) := ⟨fun c x => by rw [rC c (by omega), rS c (by omega)], fun j x y => by rw [cur_col x y, rS 39 (by omega)], fun j _ => by rw [rC 30 (by decide), rS 30 (by omega)]⟩
    have em : EFm sm (ax_u2 mp 84 70 0) := ⟨fun c x => rM2 c (by omega), fun j x => cM2 j (by omega) (by omega) (by omega)⟩
    have nd : ND T (cur T sp (a + 1)) (ax_u2 mp 84 70 0) N K := e6.congr (by rw [rC 46 (by decide), rS 46 (by omega)]) (cM2 47 (by decide) (by decide) (by decide)) (cM2 57 (by decide) (by decide) (by decide)) (fun c n x y _ => by rw [rC c (by omega), rS c (by omega)]) (fun c n x y _ => by rw [rM2 c (by omega)]) (fun j _ => by rw [rM2 125 (by omega)])
    have s67 : (cur T sp (a + 1)) 67 (base + q) = k := by rw [rC 67 (by decide), hsp]; simp [ax_u2]
    have m129 : (ax_u2 mp 84 70 0) 129 (W + q) = k := by rw [hmp]; simp [ax_u2]
    refine ⟨hE.gen (xB.mono (by omega) (Nat.le_refl _) e21 e20 (by omega) (by omega) (by omega)) ec em (cur_cu (by omega)) ?_ ?_ nd ?_ ?_ ?_ ?_ (fun c n x y _ => by rw [rM2 c (by omega)]) (Nat.le_refl _) (Nat.le_refl _) (by omega), ?_, ?_, by omega, by rw [show a + 1 - 1 = a by omega]; exact tk0.1⟩
    · rw [hmp]; simp [ax_u2]
    · rw [cM2 6 (by decide) (by decide) (by decide)]; exact e5
    · rw [rC 66 (by decide), hsp, u2_row _ _ _ (by decide), u2_same]; omega
    · rw [hmp]; simp [ax_u2]; omega
    · rw [cM2 67 (by decide) (by decide) (by decide)]; exact e9
    · have : CN (cur T sp (a + 1)) ↔ CN sc := by unfold CN; rw [rC 30 (by decide), rS 30 (by omega)]
      rw [this]
      exact ⟨fun y => ⟨y, fun n y1 y2 => absurd y2 (by omega)⟩, fun y => y.1⟩
    · rw [cM2 59 (by decide) (by decide) (by decide), h59]; omega
    · refine Or.inr ⟨a, nl, ll, b, rfl, by rw [s67]; exact hk1, by rw [s67]; exact hk2, by rw [s67, m129], by rw [s67]; exact hq, rfl, o1, ?_, ?_, ?_, SEG.tok T _ _ sn rp K a N (Or.inr (Or.inl ⟨hB, tk0.2.1⟩)) (fun y => tk0.2.2.2.1 y.1), ?_, STK.xf (by rw [rC 37 (by decide), rS 37 (by omega)]) (rM2 93 (by omega)) _ _ _ _ hS (xB.mono (Nat.le_refl _) (Nat.le_refl _) (by omega) (Nat.le_refl _) (Nat.le_refl _) (Nat.le_refl _) (by omega))⟩
      · rw [rC 68 (by decide), hsp]; simp [ax_u2]
      · rw [rC 69 (by decide), hsp, rM2 127 (by omega), o3]; simp [ax_u2]
      · have f := e12 a (Nat.le_refl _) hz
        refine ⟨?_, ?_, ?_, ?_⟩
        · rw [rC 45 (by decide), hsp, u2_same, rM2 91 (by omega), f.2.1]; simp
        · rw [rC 45 (by decide), hsp, u2_same, hmp]; simp [ax_u2]
        · rw [rC 45 (by decide), hsp, u2_same, rM2 93 (by omega), f.2.2.2]; simp
        · rw [rC 45 (by decide), hsp, u2_same]; exact ⟨fun y => absurd y (by decide), fun _ => bin_opI _ (hT.2.2.1 a hz).1 (by rw [hk]; exact hk1)⟩
      · rw [s67, rM2 116 (by omega)]
        refine ⟨o1, by rw [rM2 126 (by omega)]; exact o2, ⟨st, by rw [rM2 127 (by omega)]; exact o3, o4, o5⟩, by rw [rC 52 (by decide), rS 52 (by omega)]; exact o6, ?_, o8.rows (fun c x y => rM2 c (by omega)) (by rw [rC 48 (by decide), rS 48 (by omega)]) (by rw [rC 37 (by decide), rS 37 (by omega)])⟩
        have key : ∀ k, ll ≤ k → k < a → (cur T sp (a + 1)) 45 k = sB 45 k ∧ (ax_u2 mp 84 70 0) 91 k = sm 91 k ∧ (ax_u2 mp 84 70 0) 92 k = sm 92 k ∧ (ax_u2 mp 84 70 0) 93 k = sm 93 k := fun k x y => ⟨by rw [rC 45 (by decide), s45 k (by omega)], by rw [rM2 91 (by omega)], m92 k (by omega), by rw [rM2 93 (by omega)]⟩
        rcases w2 with ⟨x1, x2⟩ | ⟨p', c', x1, x2, x3, x4, x5, x6, x7, x8⟩
        · exact Or.inl ⟨by rw [rM2 128 (by omega)]; exact x1, fun k y1 y2 => (x2 k y1 y2).congr (key k y1 y2).1 (key k y1 y2).2.1 (key k y1 y2).2.2.1 (key k y1 y2).2.2.2⟩
        · exact Or.inr ⟨p', c', by rw [rM2 128 (by omega)]; exact x1, by rw [rM2 132 (by omega)]; exact x2, x3, x4, x5, x6.congr (key p' x3 (by omega)).1 (key p' x3 (by omega)).2.1 (key p' x3 (by omega)).2.2.1 (key p' x3 (by omega)).2.2.2, x7.congr (key c' (by omega) x5).1 (key c' (by omega) x5).2.1 (key c' (by omega) x5).2.2.1 (key c' (by omega) x5).2.2.2, fun k y1 y2 y3 y4 => (x8 k y1 y2 y3 y4).congr (key k y1 y2).1 (key k y1 y2).2.1 (key k y1 y2).2.2.1 (key k y1 y2).2.2.2⟩
end SB
