/-! ELEMENTS. -/
/-- how an operand may come out -/
def OOUT (T : TT) (sc0 sm0 : Sg) (sn rp : Int) (a0 N0 K0 base W O op : Nat) (sc sm : Sg) (a N q b : Nat) (l2 : Int) (rc : Option (Sum Sg (Nat × Sg))) (rm : Option (Int × Sg)) : Prop :=
  (∃ (sN sH mD : Sg) (a' N' K' F' : Nat), rc = some (.inl sN) ∧ f_54 (a : Int) sN = some sH ∧ rm = j_257_25 F' l2 0 0 mD ∧ a < a' ∧ T.z + 2 ≤ F' + a' ∧ P2 T sc0 sm0 sn rp a0 N0 K0 base W O op sH mD a' N' K' q b N a) ∨
  (∃ (x : Nat) (s' mF : Sg), rc = some (.inr (x, s')) ∧ (x = 14 ∨ x = 15) ∧ BDc T sc s' ∧ rm = some (0, mF) ∧ BDm sm mF)
section EL
variable {T : TT} {sc0 sm0 sc sm sc1 sm1 sc' sm' sB mB s : Sg} {sn rp l2 : Int} {a0 N0 K0 base W O op a a1 a' a2 N N' K K' q b o : Nat}
theorem flt_25 {F : Nat} {v w : Int} (hF : 1 ≤ F) (hf : 0 < s 84 6) : j_257_25 F l2 v w s = some (0, s) := by
  obtain ⟨F, rfl⟩ : ∃ k, F = k + 1 := ⟨F - 1, by omega⟩
  rw [j_257_25, if_pos (by omega)]
  unfold j_257_136
  rw [if_neg (by omega)]
theorem flt_105 {F G : Nat} {v w : Int} (hF : 1 ≤ F) (hG : 1 ≤ G) (hf : 0 < s 84 6) : j_257_105 (j_257_25 F) G l2 v w s = some (0, s) := by
  obtain ⟨G, rfl⟩ : ∃ k, G = k + 1 := ⟨G - 1, by omega⟩
  rw [j_257_105, if_pos (by omega)]
  exact flt_25 hF hf
theorem go_25 {F G : Nat} {w : Int} (hG : 1 ≤ G) (hf : s 84 6 = 0) : j_257_105 (j_257_25 F) G l2 0 w s = j_257_25 F l2 0 w s := by
  obtain ⟨G, rfl⟩ : ∃ k, G = k + 1 := ⟨G - 1, by omega⟩
  rw [j_257_105, if_neg (by simp [hf]), if_pos rfl]
theorem go_25s {F G : Nat} {v w : Int} (hG : 1 ≤ G) (hf : s 84 6 = 0) (h70 : s 84 70 = 0) : j_257_105 (j_257_25 F) G l2 v w s = j_257_25 F l2 v w s := by
  obtain ⟨G, rfl⟩ : ∃ k, G = k + 1 := ⟨G - 1, by omega⟩
  rw [j_257_105, if_neg (by simp [hf])]
  split <;> first | rfl | rw [if_pos h70]
theorem FU1 : 1 ≤ FU := by unfold FU; omega
/-- the reference opens -/
theorem open_m {w x : Int} (h63 : s 84 63 = (W : Int)) (h59 : s 84 59 = (o : Int)) (h67 : s 84 67 = (op : Int)) (hW : W < 8200) (hop : op < 8200) (hw : 0 ≤ w) (hw2 : w ≤ 10) :
    g_262 w x s ∧ (f_262 w x s) 129 W = 100 + w ∧ (f_262 w x s) 130 W = x ∧ (f_262 w x s) 131 W = (o : Int) ∧ (f_262 w x s) 84 63 = ((W + 1 : Nat) : Int) ∧ (f_262 w x s) 84 67 = ((op + 1 : Nat) : Int) ∧ (∀ c, c ≠ 84 → c < 129 ∨ 131 < c → f_262 w x s c = s c) ∧ (∀ c i, c ≠ 84 → i ≠ W → f_262 w x s c i = s c i) ∧ (∀ j, j ≠ 63 → j ≠ 67 → f_262 w x s 84 j = s 84 j) := by
  have e : f_262 w x s = (ax_u2 (ax_u2 (ax_u2 (ax_u2 (ax_u2 s 129 W (100 + w)) 130 W x) 131 W (o : Int)) 84 63 ((W + 1 : Nat) : Int)) 84 67 ((op + 1 : Nat) : Int)) := by
    unfold f_262
    rw [h63, h59, h67, w32_nat (by omega), w32_nat (by omega), w32_id (by omega) (by omega), Int.toNat_natCast]
  rw [e]
  refine ⟨?_, by simp [ax_u2], by simp [ax_u2], by simp [ax_u2], by simp [ax_u2], by simp [ax_u2], ?_, ?_, ?_⟩
  · unfold g_262
    rw [h63]
    have : 0 ≤ (W : Int) ∧ (W : Int) < 8200 := by omega
    exact ⟨this, this, this, trivial⟩
  · intro c x y
    funext i
    simp [ax_u2, x, show c ≠ 129 by omega, show c ≠ 130 by omega, show c ≠ 131 by omega]
  · intro c i x y
    simp [ax_u2, x, y]
  · intro j x y
    simp [ax_u2, x, y]
theorem op_element {ex : Int → Sg → Option (Sum Sg (Nat × Sg))} {d : Nat} (hT : TWF T) (h : P1 T sc0 sm0 sn rp a0 N0 K0 base W O op sc sm a N K q b) (t1 : T.tk a = 1) (t2 : T.tk (a + 1) = 91) (hd8 : d < 80) (hop : op ≤ 80)
    (IH : ∀ (sc1 sm1 : Sg) (a1 N1 K1 base1 W1 O1 F : Nat), EPRE T sc1 sm1 sn rp a1 N1 K1 base1 W1 O1 (op + 1) → T.z + 2 ≤ F + a1 → EOUT T sc1 sm1 sn rp a1 N1 K1 base1 W1 O1 (op + 1) l2 (ex ((d + 1 : Nat) : Int) sc1) (j_257_25 F l2 1 0 sm1))
    (F G : Nat) (hF : T.z + 1 ≤ F + a) (hG : 1 ≤ G) :
    OOUT T sc0 sm0 sn rp a0 N0 K0 base W O op sc sm a N q b l2 (f_50 ex (d : Int) sc) (RP l2 F G sm) := by
  obtain ⟨e1, e2, e3, e4, e5, e6, e7, e8, e9, e10, e11, e12, e13, e14, e15, e16, e17, e18, e19, e20, e21, e22, e23⟩ := id h.1
  have h59 := h.2.1
  have hA := h.2.2.2.2
  have hKN := h.2.2.2.1
  have hz := hT.lt e3.2.2 (by rw [t1]; decide)
  have h8 := hT.1
  have bd := STK.bd _ _ _ _ h.2.2.1
  have hS := h.2.2.1
  have z1 := hT.lt (show a + 1 ≤ T.z by omega) (by rw [t2]; decide)
  have cc1 := cur_cc (a := a + 1) e1
  have cu1 : CU T (cur T sc (a + 1)) (a + 1) := cur_cu (by omega)
  have cc2 := cur_cc (a := a + 2) cc1
  have cu2 : CU T (cur T (cur T sc (a + 1)) (a + 2)) (a + 2) := cur_cu (by omega)
  have wd : ax_w32 ((d : Int) + 1) = ((d + 1 : Nat) : Int) := w32_nat (by omega)
  have hM0 : MC T (ax_u2 sm 84 70 0) := e2.row (by simp [ax_u2]) (by funext x; simp [ax_u2])
  have u0 : (ax_u2 sm 84 70 0) 84 18 = (a : Int) := by simpa [ax_u2] using e4
  have f0 : (ax_u2 sm 84 70 0) 84 6 = 0 := by simpa [ax_u2] using e5
  have hM1 := adv_mc (a := a + 1) hM0
  have f1 : (adv (ax_u2 sm 84 70 0) (a + 1)) 84 6 = 0 := by rw [adv_col (by decide)]; exact f0
  have cA : ∀ j, j ≠ 18 → j ≠ 70 → (adv (adv (ax_u2 sm 84 70 0) (a + 1)) (a + 2)) 84 j = sm 84 j := fun j x y => by rw [adv_col x, adv_col x]; exact u2_col _ _ _ y
  have rA : ∀ c, c ≠ 84 → (adv (adv (ax_u2 sm 84 70 0) (a + 1)) (a + 2)) c = sm c := fun c x => by rw [adv_row x, adv_row x]; exact u2_row _ _ _ x
  obtain ⟨p1, p2, p3, p4, p5, p6, p7, p8, p9⟩ := open_m (s := adv (adv (ax_u2 sm 84 70 0) (a + 1)) (a + 2)) (W := W + q) (o := O + b) (op := op) (w := 2) (x := (a : Int)) (by rw [cA 63 (by decide) (by decide)]; exact e8) (by rw [cA 59 (by decide) (by decide)]; exact h59) (by rw [cA 67 (by decide) (by decide)]; exact e9) (by omega) (by omega) (by decide) (by decide)
  generalize hs1 : f_262 2 (a : Int) (adv (adv (ax_u2 sm 84 70 0) (a + 1)) (a + 2)) = sm1 at *
  have hf260 : f_260 sm = some (1, sm1) := by
    unfold f_260
    rw [if_pos (by omega), eatN hM0 hT u0 e3.2.2 (k := 126) (by decide) (by decide) (by rw [t1]; decide)]
    rw [if_neg (by simp), eatN hM0 hT u0 e3.2.2 (k := 45) (by decide) (by decide) (by rw [t1]; decide)]
    rw [if_pos rfl, eatN hM0 hT u0 e3.2.2 (k := 40) (by decide) (by decide) (by rw [t1]; decide)]
    rw [if_pos rfl, eatN hM0 hT u0 e3.2.2 (k := 2) (by decide) (by decide) (by rw [t1]; decide)]
    rw [if_pos rfl, eatN hM0 hT u0 e3.2.2 (k := 25) (by decide) (by decide) (by rw [t1]; decide)]
    rw [if_neg (by simp), eatN hM0 hT u0 e3.2.2 (k := 26) (by decide) (by decide) (by rw [t1]; decide)]
    rw [if_neg (by simp), eatN hM0 hT u0 e3.2.2 (k := 27) (by decide) (by decide) (by rw [t1]; decide)]
    rw [if_pos rfl, takeY hM0 hT f0 u0 e3.2.2 (k := 1) (by decide) t1, Option.bind_some]
    dsimp only
    rw [if_pos (by omega), eatY hM1 hT f1 adv_at (by omega) (k := 91) (by decide) t2]
    rw [if_neg (by simp), e4, gd_pos p1, hs1, Option.bind_some]
  have sm1f : sm1 84 6 = 0 := by rw [p9 6 (by decide) (by decide), cA 6 (by decide) (by decide)]; exact e5
  have sm170 : sm1 84 70 = 0 := by rw [p9 70 (by decide) (by decide), adv_col (by decide), adv_col (by decide)]; exact u2_same _ _ _ _
  have hRP : RP l2 F G sm = j_257_25 F l2 1 0 sm1 := by
    unfold RP
    rw [hf260, Option.bind_some]
    exact go_25s hG sm1f sm170
  obtain ⟨hP, xx, ecx, emx⟩ := NEST.pre (o := O + b) (a1 := a + 2) (sc1 := cur T (cur T sc (a + 1)) (a + 2)) (sm1 := sm1) hT h.1 h59 (by omega) (by omega) (by omega) (by omega) (by omega) (fun c x _ => by rw [cur_row x, cur_row x]) (fun j x y => by rw [cur_col x y, cur_col x y]) (fun k _ => by rw [cur_row (by decide), cur_row (by decide)]) cu2 (fun c x => by rw [p7 c (by omega) (by omega)]; exact rA c (by omega)) (fun k _ => ⟨by rw [p7 91 (by decide) (by decide), rA 91 (by decide)], by rw [p7 92 (by decide) (by decide), rA 92 (by decide)]⟩) (fun c i x y w => by rw [p8 c i (by omega) w, rA c (by omega)]) (by rw [p2]; decide) (fun j x y w v => by rw [p9 j y w]; exact cA j x v) (by rw [p9 18 (by decide) (by decide)]; exact adv_at) p5 p6 (by rw [show a + 2 - 1 = a + 1 by omega, t2]; decide)
  have cls : f_50 ex (d : Int) sc = xb (ex ((d + 1 : Nat) : Int) (cur T (cur T sc (a + 1)) (a + 2))) fun q3 => (xb (f_92 93 q3) fun q4 => (gd (g_124 2 (a : Int) (q4 66 8) 1 q4) ((some (f_124 2 (a : Int) (q4 66 8) 1 q4)).bind fun q5 => ((f_62 q5.1 (a : Int) q5.2).bind fun q6 => some (.inl q6))))) := by
    unfold f_50
    rw [c92y hT e1 e3 t1 (by decide)]
    show xb (f_92 91 (cur T sc (a + 1))) _ = _
    rw [c92y hT cc1 cu1 t2 (by decide), e3.1, wd]
    rfl
  rw [hRP, cls]
  rcases IH _ _ _ _ _ _ _ _ F hP (by omega) with ⟨sc', sm', a', N', K', r1, r2, r3, rS', r4⟩ | ⟨x, sc', mF, r1, r2, r3, r4, r5⟩
  · rw [r1]
    obtain ⟨i1, i2, i3, i4, i5, i6, i7, i8, i9, i10, i11, i12, i13, i14, i15, i16, i17, i18, i19, i20, i21, i22, i23⟩ := id r3.1
    obtain ⟨o1, o2, ⟨st, o3, o4, o5⟩, o6, o7, o8⟩ := id r3.2.2.2.1
    obtain ⟨t1', _⟩ := id r3.2.2.2.2.1
    have hz' := i3.2.2
    have bs := o8.2.2.1
    have w129 : sm' 129 (W + q) = 102 := by rw [i13.2.2.2.2.2.2.1 129 (W + q) (by decide) (by decide) (by omega), p2]; rfl
    have w130 : sm' 130 (W + q) = (a : Int) := by rw [i13.2.2.2.2.2.2.1 130 (W + q) (by decide) (by decide) (by omega), p3]
    show OOUT T sc0 sm0 sn rp a0 N0 K0 base W O op sc sm a N q b l2 (xb (f_92 93 sc') _) _
    by_cases tc : T.tk a' = 93
    · have z3 := hT.lt hz' (by rw [tc]; decide)
      rw [c92y hT i1 i3 tc (by decide)]
      rcases r4 with ⟨F', G', y1, y2, y3, y4, y5⟩ | ⟨y1, _⟩
      · obtain ⟨mU, u0', u1, u2, u3, u4⟩ := RC.use hT r3 (by rw [show W + q + 1 - 1 = W + q by omega, w129]; decide) (by omega) G' (by omega)
        have rU : ∀ c, c ≠ 91 → c ≠ 84 → (ax_u2 (ax_u2 (adv mU (a' + 1)) 84 63 ((W + q : Nat) : Int)) 84 67 (op : Int)) c = sm' c := fun c x y => by rw [u2_row _ _ _ y, u2_row _ _ _ y, adv_row y]; exact u4 c x
        have cU : ∀ j, j ≠ 18 → j ≠ 63 → j ≠ 67 → (ax_u2 (ax_u2 (adv mU (a' + 1)) 84 63 ((W + q : Nat) : Int)) 84 67 (op : Int)) 84 j = sm' 84 j := fun j x y w => by rw [u2_col _ _ _ w, u2_col _ _ _ y, adv_col x, u4 84 (by decide)]
        obtain ⟨m1, m2, m3, m4, m5⟩ := NEST.mid (a2 := a' + 1) (sB := cur T sc' (a' + 1)) (mB := ax_u2 (ax_u2 (adv mU (a' + 1)) 84 63 ((W + q : Nat) : Int)) 84 67 (op : Int)) xx ecx emx (by omega) r3 (by omega) (fun c x _ _ _ => cur_row x) (fun j x y => cur_col x y) (fun j _ => by rw [cur_row (by decide)]) (fun k _ => by rw [cur_row (by decide)]) (fun c x => rU c (by omega) (by omega)) (fun k x => ⟨by rw [u2_row _ _ _ (by decide), u2_row _ _ _ (by decide), adv_row (by decide)]; exact u3 k (by omega), by rw [rU 92 (by decide) (by decide)]⟩) (fun c i x y _ => by rw [rU c (by omega) (by omega)]) (fun c i x y _ => by rw [rU c (by omega) (by omega)]) (fun k _ => by rw [rU 132 (by decide) (by decide)]) cU
        have sB46 : (cur T sc' (a' + 1)) 46 7 = (N' : Int) := m4.1
        obtain ⟨g1, g2, g3, g4⟩ := c124 sB46 (by omega) 2 (a : Int) ((N' : Int) - 1) 1 10
        obtain ⟨sH, k1, k2, k3⟩ := hide_c hT (g3.ef.cc (cur_cc (a := a' + 1) i1)) g3 (by omega) g4 hz t1
        obtain ⟨mD, v1, v2⟩ := m266 (s := ax_u2 (ax_u2 (adv mU (a' + 1)) 84 63 ((W + q : Nat) : Int)) 84 67 (op : Int)) (N := N') (K := K') (o := O + b) (c := 1) m4.2.1 m4.2.2.1 (by rw [cU 59 (by decide) (by decide) (by decide)]; exact r3.2.1) (by omega) (by have := r3.2.2.2.2.2.1; omega) (by have := r3.2.2.2.2.2.1; omega) (by have := r3.2.2.2.2.2.1; omega) 2 (a : Int) (a : Int) (-1)
        have hK2 := r3.2.2.2.2.2.1
        have kO : (ax_u2 (ax_u2 (adv mU (a' + 1)) 84 63 ((W + q : Nat) : Int)) 84 67 (op : Int)) 126 (O + b) = (N' : Int) - 1 := by rw [rU 126 (by decide) (by decide)]; exact o2
        refine Or.inl ⟨_, sH, mD, a' + 1, N' + 1, K' + 1, F', ?_, k1, ?_, by omega, by omega, MKP2 h.1 hS m1 m2 m3 (cur_cu (by omega)) ?_ ?_ m4 ?_ ?_ ?_ m5 ?_ k2 v2 rfl rfl (Nat.le_refl _) (by omega) (by decide) (by decide) (by simp [AR]) (by rw [if_pos (by decide), kO]) ?_ ?_ ?_ ?_ (by omega) (by omega) (by rw [show a' + 1 - 1 = a' by omega, tc]; decide) (by omega) (by omega) (by omega) ?_⟩
        · show gd _ _ = _
          rw [show (cur T sc' (a' + 1)) 66 8 = (N' : Int) - 1 by rw [cur_row (by decide)]; exact t1', gd_pos g1, Option.bind_some, g2]
          rfl
        · rw [y1]
          unfold RC
          rw [u0']
          unfold j_270_85
          have hwm : ax_w32 (sm' 84 63 - 1) = ((W + q : Nat) : Int) := by rw [i8, w32_id (by omega) (by omega)]; omega
          rw [if_pos (by omega), hwm, gd_pos (by omega), u1, Option.bind_some, gd_pos (by omega), Int.toNat_natCast, u4 129 (by decide), w129, w130, if_neg (by decide), if_pos (by decide)]
          rw [takeY (i2.row (by rw [u4 84 (by decide)]) (u4 88 (by decide))) hT (by rw [u4 84 (by decide)]; exact i5) (by rw [u4 84 (by decide)]; exact i4) hz' (k := 93) (by decide) tc, Option.bind_some]
          dsimp only
          have e63 : ax_w32 ((adv mU (a' + 1)) 84 63 - 1) = ((W + q : Nat) : Int) := by rw [adv_col (by decide), u4 84 (by decide)]; exact hwm
          have e67 : ax_w32 ((adv mU (a' + 1)) 84 67 - 1) = (op : Int) := by rw [adv_col (by decide), u4 84 (by decide), i9, w32_id (by omega) (by omega)]; omega
          rw [e63, e67]
          have v1' : f_266 2 (a : Int) (a : Int) (-1) 1 (ax_u2 (ax_u2 (adv mU (a' + 1)) 84 63 ((W + q : Nat) : Int)) 84 67 (op : Int)) = some mD := v1
          rw [v1', Option.bind_some, Option.bind_some]
          dsimp only
          rw [if_pos (by decide), if_pos (by decide)]
          exact go_25 FU1 (by rw [v2.2.2.2.2.2.2.2.2.2.2.2.2.2.2.2.2.2.2.2 6 (by decide) (by decide) (by decide), cU 6 (by decide) (by decide) (by decide)]; exact i5)
        · rw [u2_col _ _ _ (by decide), u2_col _ _ _ (by decide)]; exact adv_at
        · rw [cU 6 (by decide) (by decide) (by decide)]; exact i5
        · rw [cur_row (by decide)]; exact i7
        · rw [u2_col _ _ _ (by decide)]; exact u2_same _ _ _ _
        · exact u2_same _ _ _ _
        · intro k x y
          have fr : ∀ k, LF T sc' mU k → LF T (cur T sc' (a' + 1)) (ax_u2 (ax_u2 (adv mU (a' + 1)) 84 63 ((W + q : Nat) : Int)) 84 67 (op : Int)) k := fun k hl => hl.congr (by rw [cur_row (by decide)]) (by rw [u2_row _ _ _ (by decide), u2_row _ _ _ (by decide), adv_row (by decide)]) (by rw [u2_row _ _ _ (by decide), u2_row _ _ _ (by decide), adv_row (by decide)]) (by rw [u2_row _ _ _ (by decide), u2_row _ _ _ (by decide), adv_row (by decide)])
          apply fr
          by_cases c1 : k < a + 2
          · exact (e12 k x (by omega)).lf.congr (by rw [(i13.1 k (Or.inl c1)).1, cur_row (by decide), cur_row (by decide)]) (by rw [u3 k (Or.inl c1), (i13.1 k (Or.inl c1)).2.1, p7 91 (by decide) (by decide), rA 91 (by decide)]) (by rw [u4 92 (by decide), (i13.1 k (Or.inl c1)).2.2, p7 92 (by decide) (by decide), rA 92 (by decide)]) (by rw [u4 93 (by decide), i15.1 93 (by omega), p7 93 (by decide) (by decide), rA 93 (by decide)])
          · by_cases c2 : k < a'
            · exact u2 k (by omega) c2
            · exact (i12 k (by omega) (by omega)).lf.congr rfl (by rw [u3 k (by omega)]) (by rw [u4 92 (by decide)]) (by rw [u4 93 (by decide)])
        · intro i hi
          have : i = 0 := by omega
          subst this
          refine ⟨N' - 1, kO.trans (show (N' : Int) - 1 = ((N' - 1 : Nat) : Int) by omega), by omega, ?_⟩
          rw [if_neg (by omega), cur_row (by decide)]
          exact o6
        · unfold NV
          rw [v2.2.2.2.1, v2.2.2.2.2.1, v2.2.2.2.2.2.1, k2.2.2.1, k2.2.2.2.1]
          exact ⟨by simp, by simp, by simp, fun _ _ => ⟨a, rfl, rfl, hz, t1, rfl⟩, by simp⟩
        · have s0 := SEG.tok T (cur T sc' (a' + 1)) (ax_u2 (ax_u2 (adv mU (a' + 1)) 84 63 ((W + q : Nat) : Int)) 84 67 (op : Int)) sn rp K' a N (Or.inl ⟨hA, by rw [t1]; decide⟩) (fun y => by rw [t2] at y; exact absurd y.2 (by decide))
          have s1 := SEG.tok T (cur T sc' (a' + 1)) (ax_u2 (ax_u2 (adv mU (a' + 1)) 84 63 ((W + q : Nat) : Int)) 84 67 (op : Int)) sn rp K' (a + 1) N (Or.inr (Or.inr (Or.inl (by rw [show a + 1 - 1 = a by omega, t1, t2]; decide)))) (fun y => by rw [t2] at y; exact absurd y.1 (by decide))
          have s2 : SEG T (cur T sc' (a' + 1)) (ax_u2 (ax_u2 (adv mU (a' + 1)) 84 63 ((W + q : Nat) : Int)) 84 67 (op : Int)) sn rp K' (a + 2) a' N N' := o8.rows (fun c x y => rU c (by omega) (by omega)) (cur_row (by decide)) (cur_row (by decide))
          have s3 := SEG.tok T (cur T sc' (a' + 1)) (ax_u2 (ax_u2 (adv mU (a' + 1)) 84 63 ((W + q : Nat) : Int)) 84 67 (op : Int)) sn rp K' a' N' (Or.inr (Or.inl ⟨r3.2.2.2.2.2.2.1, by rw [tc]; decide⟩)) (fun y => by rw [tc] at y; exact absurd y.1 (by decide))
          refine (((s0.merge s1).merge s2).merge s3).addn v2 (fun n hn => k2.2.2.2.2.2.2.2.2.2.2.2.2.2.1 48 n (by decide) (by decide) (by omega)) (k2.2.2.2.2.2.2.2.2.2.2.2.2.2.2.2.1 37 (by omega)) (by decide) (by omega) (fun i hi => ?_) (by rw [cU 68 (by decide) (by decide) (by decide)]; exact i10) (by rw [cU 46 (by decide) (by decide) (by decide)]; exact i11) (fun _ _ => by rw [k2.2.2.1, Int.toNat_natCast])
          have : i = 0 := by omega
          subst this
          exact Int.le_trans (show (N : Int) ≤ (N' : Int) - 1 by omega) (Int.le_of_eq kO.symm)
        · have nk : NOK T (sc0 37) mD N' ↔ sc0 37 (T.vl a).toNat = 0 := by
            unfold NOK
            rw [v2.2.2.2.1, v2.2.2.2.2.2.1, Int.toNat_natCast]
            simp
          have lw : (cur T (cur T sc (a + 1)) (a + 2)) 37 = sc0 37 := by rw [cur_row (by decide), cur_row (by decide), e14.1 37 (by omega)]
          have lw2 : (cur T sc' (a' + 1)) 37 = sc0 37 := by rw [cur_row (by decide), i14.1 37 (by omega), lw]
          have c1 : CN (cur T sc' (a' + 1)) ↔ CN sc' := by unfold CN; rw [cur_row (by decide)]
          have c2 : CN (cur T (cur T sc (a + 1)) (a + 2)) ↔ CN sc := by unfold CN; rw [cur_row (by decide), cur_row (by decide)]
          rw [k3, c1, i16, c2, lw2, lw]
          have old : ∀ n, n < N' → (NOK T (sc0 37) mD n ↔ NOK T (sc0 37) sm' n) := fun n hn => NOK.congr (fun c x y => by rw [v2.2.2.2.2.2.2.2.2.2.2.2.2.2.2.2.1 c n x y (by omega), rU c (by omega) (by omega)])
          constructor
          · intro ⟨⟨y1, y2⟩, y3⟩
            refine ⟨y1, fun n z1 z2 => ?_⟩
            by_cases e : n = N'
            · rw [e, nk]; rcases y3 with y | y; exact absurd y (by decide); exact y
            · rw [old n (by omega)]; exact y2 n z1 (by omega)
          · intro ⟨y1, y2⟩
            exact ⟨⟨y1, fun n z1 z2 => (old n z2).mp (y2 n z1 (by omega))⟩, Or.inr (nk.mp (y2 N' (by omega) (by omega)))⟩
        · rw [cU 70 (by decide) (by decide) (by decide)]; exact r3.2.2.2.2.2.2.2
      · rw [tc] at y1; omega
    · rw [c92n i3 tc]
      refine Or.inr ⟨15, sc', ?_⟩
      rcases r4 with ⟨F', G', y1, y2, y3, y4, y5⟩ | ⟨_, mF, y2, y3⟩
      · obtain ⟨mU, u0', u1, u2, u3, u4⟩ := RC.use hT r3 (by rw [show W + q + 1 - 1 = W + q by omega, w129]; decide) (by omega) G' (by omega)
        have hK2 := r3.2.2.2.2.2.1
        have cU : ∀ j, j ≠ 6 → j ≠ 7 → j ≠ 63 → j ≠ 67 → (ax_u2 (ax_u2 (tel mU 2 a') 84 63 ((W + q : Nat) : Int)) 84 67 (op : Int)) 84 j = sm' 84 j := fun j x x' y w => by rw [u2_col _ _ _ w, u2_col _ _ _ y, tel_col x x', u4 84 (by decide)]
        obtain ⟨mD, v1, v2⟩ := m266 (s := ax_u2 (ax_u2 (tel mU 2 a') 84 63 ((W + q : Nat) : Int)) 84 67 (op : Int)) (N := N') (K := K') (o := O + b) (c := 1) (by rw [cU 47 (by decide) (by decide) (by decide) (by decide)]; exact i6.2.1) (by rw [cU 57 (by decide) (by decide) (by decide) (by decide)]; exact i6.2.2.1) (by rw [cU 59 (by decide) (by decide) (by decide) (by decide)]; exact r3.2.1) (by omega) (by omega) (by omega) (by omega) 2 (a : Int) (a : Int) (-1)
        have mDf : 0 < mD 84 6 := by
          rw [v2.2.2.2.2.2.2.2.2.2.2.2.2.2.2.2.2.2.2.2 6 (by decide) (by decide) (by decide), u2_col _ _ _ (by decide), u2_col _ _ _ (by decide), tel_at]
          decide
        refine ⟨mD, rfl, Or.inr rfl, ⟨ecx.trans i14, a', i3⟩, ?_, ?_, mDf⟩
        · rw [y1]
          unfold RC
          rw [u0']
          unfold j_270_85
          have hwm : ax_w32 (sm' 84 63 - 1) = ((W + q : Nat) : Int) := by rw [i8, w32_id (by omega) (by omega)]; omega
          rw [if_pos (by omega), hwm, gd_pos (by omega), u1, Option.bind_some, gd_pos (by omega), Int.toNat_natCast, u4 129 (by decide), w129, w130, if_neg (by decide), if_pos (by decide)]
          rw [takeN (i2.row (by rw [u4 84 (by decide)]) (u4 88 (by decide))) hT (by rw [u4 84 (by decide)]; exact i5) (by rw [u4 84 (by decide)]; exact i4) hz' (k := 93) (by decide) (by decide) tc, Option.bind_some]
          dsimp only
          have e63 : ax_w32 ((tel mU 2 a') 84 63 - 1) = ((W + q : Nat) : Int) := by rw [tel_col (by decide) (by decide), u4 84 (by decide)]; exact hwm
          have e67 : ax_w32 ((tel mU 2 a') 84 67 - 1) = (op : Int) := by rw [tel_col (by decide) (by decide), u4 84 (by decide), i9, w32_id (by omega) (by omega)]; omega
          rw [e63, e67]
          have v1' : f_266 2 (a : Int) (a : Int) (-1) 1 (ax_u2 (ax_u2 (tel mU 2 a') 84 63 ((W + q : Nat) : Int)) 84 67 (op : Int)) = some mD := v1
          rw [v1', Option.bind_some, Option.bind_some]
          dsimp only
          exact flt_105 (by omega) FU1 mDf
        · refine (emx.trans i15).trans (EFm.trans (sm' := ax_u2 (ax_u2 (tel mU 2 a') 84 63 ((W + q : Nat) : Int)) 84 67 (op : Int)) ⟨fun c x => ?_, fun j x => cU j (by omega) (by omega) (by omega) (by omega)⟩ v2.ef)
          rw [u2_row _ _ _ (by omega), u2_row _ _ _ (by omega), tel_row (by omega)]
          exact u4 c (by omega)
      · exact ⟨mF, rfl, Or.inr rfl, ⟨ecx.trans i14, a', i3⟩, y2, emx.trans y3.1, y3.2⟩
  · rw [r1]
    exact Or.inr ⟨x, sc', mF, rfl, r2, ⟨ecx.trans r3.1, r3.2⟩, r4, emx.trans r5.1, r5.2⟩
end EL
