/-! EXTENSIONS. -/
section EX
variable {T : TT} {sc0 sm0 sc sm sc1 sm1 sc' sm' sB mB s : Sg} {sn rp l2 : Int} {a0 N0 K0 base W O op a a1 a' a2 N N' K K' q b o : Nat}
/-- a word of an operand: the reference's way up to the bracket -/
theorem prim_word (hT : TWF T) (h : P1 T sc0 sm0 sn rp a0 N0 K0 base W O op sc sm a N K q b) (t1 : T.tk a = 25 ∨ T.tk a = 26 ∨ T.tk a = 27) : f_260 sm = j_260_172 (a : Int) (adv (ax_u2 sm 84 70 0) (a + 1)) := by
  obtain ⟨e1, e2, e3, e4, e5, e6, e7, e8, e9, e10, e11, e12, e13, e14, e15, e16, e17, e18, e19, e20, e21, e22, e23⟩ := id h.1
  have h59 := h.2.1
  have hA := h.2.2.2.2
  have hKN := h.2.2.2.1
  have hz := hT.lt e3.2.2 (by rcases t1 with e | e | e <;> rw [e] <;> decide)
  have h8 := hT.1
  have bd := STK.bd _ _ _ _ h.2.2.1
  have hM0 : MC T (ax_u2 sm 84 70 0) := e2.row (by simp [ax_u2]) (by funext x; simp [ax_u2])
  have u0 : (ax_u2 sm 84 70 0) 84 18 = (a : Int) := by simpa [ax_u2] using e4
  have f0 : (ax_u2 sm 84 70 0) 84 6 = 0 := by simpa [ax_u2] using e5
  unfold f_260
  rw [if_pos (by omega), eatN hM0 hT u0 e3.2.2 (k := 126) (by decide) (by decide) (by rcases t1 with e | e | e <;> rw [e] <;> decide)]
  rw [if_neg (by simp), eatN hM0 hT u0 e3.2.2 (k := 45) (by decide) (by decide) (by rcases t1 with e | e | e <;> rw [e] <;> decide)]
  rw [if_pos rfl, eatN hM0 hT u0 e3.2.2 (k := 40) (by decide) (by decide) (by rcases t1 with e | e | e <;> rw [e] <;> decide)]
  rw [if_pos rfl, eatN hM0 hT u0 e3.2.2 (k := 2) (by decide) (by decide) (by rcases t1 with e | e | e <;> rw [e] <;> decide)]
  rcases t1 with e | e | e
  · rw [if_pos rfl, eatY hM0 hT f0 u0 e3.2.2 (k := 25) (by decide) e]
    rw [if_pos (by simp), e4]
  · rw [if_pos rfl, eatN hM0 hT u0 e3.2.2 (k := 25) (by decide) (by decide) (by rw [e]; decide)]
    rw [if_neg (by simp), eatY hM0 hT f0 u0 e3.2.2 (k := 26) (by decide) e]
    rw [if_pos (by simp), e4]
  · rw [if_pos rfl, eatN hM0 hT u0 e3.2.2 (k := 25) (by decide) (by decide) (by rw [e]; decide)]
    rw [if_neg (by simp), eatN hM0 hT u0 e3.2.2 (k := 26) (by decide) (by decide) (by rw [e]; decide)]
    rw [if_neg (by simp), eatY hM0 hT f0 u0 e3.2.2 (k := 27) (by decide) e]
    rw [if_neg (by simp), e4]
/-- a word without a bracket -/
theorem word_bad {ex : Int → Sg → Option (Sum Sg (Nat × Sg))} {d k : Int} (hT : TWF T) (h : P1 T sc0 sm0 sn rp a0 N0 K0 base W O op sc sm a N K q b) (t1 : T.tk a = 25 ∨ T.tk a = 26 ∨ T.tk a = 27) (t2 : T.tk (a + 1) ≠ 40) (hop : op ≤ 80) (F G : Nat) (hF : T.z + 1 ≤ F + a) (hG : 1 ≤ G) :
    ∃ s' mF : Sg, f_51 ex d k sc = some (.inr (15, s')) ∧ f_53 ex d k sc = some (.inr (15, s')) ∧ BDc T sc s' ∧ RP l2 F G sm = some (0, mF) ∧ BDm sm mF := by
  have hp := prim_word hT h t1
  obtain ⟨e1, e2, e3, e4, e5, e6, e7, e8, e9, e10, e11, e12, e13, e14, e15, e16, e17, e18, e19, e20, e21, e22, e23⟩ := id h.1
  have h59 := h.2.1
  have hA := h.2.2.2.2
  have hKN := h.2.2.2.1
  have hz := hT.lt e3.2.2 (by rcases t1 with e | e | e <;> rw [e] <;> decide)
  have h8 := hT.1
  have bd := STK.bd _ _ _ _ h.2.2.1
  have hM0 : MC T (ax_u2 sm 84 70 0) := e2.row (by simp [ax_u2]) (by funext x; simp [ax_u2])
  have u0 : (ax_u2 sm 84 70 0) 84 18 = (a : Int) := by simpa [ax_u2] using e4
  have f0 : (ax_u2 sm 84 70 0) 84 6 = 0 := by simpa [ax_u2] using e5
  have cc1 := cur_cc (a := a + 1) e1
  have cu1 : CU T (cur T sc (a + 1)) (a + 1) := cur_cu (by omega)
  have hM1 := adv_mc (a := a + 1) hM0
  have f1 : (adv (ax_u2 sm 84 70 0) (a + 1)) 84 6 = 0 := by rw [adv_col (by decide)]; exact f0
  have n0 : T.tk a ≠ 0 := by rcases t1 with e | e | e <;> rw [e] <;> decide
  have cA : ∀ j, j ≠ 6 → j ≠ 7 → j ≠ 18 → j ≠ 70 → (tel (adv (ax_u2 sm 84 70 0) (a + 1)) 2 (a + 1)) 84 j = sm 84 j := fun j x y w v => by rw [tel_col x y, adv_col w]; exact u2_col _ _ _ v
  have fin : ∀ w : Int, 0 ≤ w → w ≤ 10 → BDm sm (f_262 w (a : Int) (tel (adv (ax_u2 sm 84 70 0) (a + 1)) 2 (a + 1))) ∧ g_262 w (a : Int) (tel (adv (ax_u2 sm 84 70 0) (a + 1)) 2 (a + 1)) := by
    intro w w1 w2
    obtain ⟨p1, p2, p3, p4, p5, p6, p7, p8, p9⟩ := open_m (s := tel (adv (ax_u2 sm 84 70 0) (a + 1)) 2 (a + 1)) (W := W + q) (o := O + b) (op := op) (w := w) (x := (a : Int)) (by rw [cA 63 (by decide) (by decide) (by decide) (by decide)]; exact e8) (by rw [cA 59 (by decide) (by decide) (by decide) (by decide)]; exact h59) (by rw [cA 67 (by decide) (by decide) (by decide) (by decide)]; exact e9) (by omega) (by omega) w1 w2
    refine ⟨⟨((s70_ef.trans adv_ef).trans tel_ef).trans ⟨fun c x => p7 c (by omega) (by omega), fun j x => p9 j (by omega) (by omega)⟩, ?_⟩, p1⟩
    rw [p9 6 (by decide) (by decide), tel_at]
    decide
  have hr : ∃ mF : Sg, j_260_172 (a : Int) (adv (ax_u2 sm 84 70 0) (a + 1)) = some (1, mF) ∧ BDm sm mF := by
    unfold j_260_172
    rw [takeN hM1 hT f1 adv_at (by omega) (k := 40) (by decide) (by decide) t2, Option.bind_some, gd_pos (by omega)]
    dsimp only
    split
    · obtain ⟨x1, x2⟩ := fin 4 (by decide) (by decide)
      rw [gd_pos x2, Option.bind_some]
      exact ⟨_, rfl, x1⟩
    · obtain ⟨x1, x2⟩ := fin 5 (by decide) (by decide)
      rw [gd_pos x2, Option.bind_some]
      exact ⟨_, rfl, x1⟩
  obtain ⟨mF, x1, x2⟩ := hr
  refine ⟨cur T sc (a + 1), mF, ?_, ?_, ⟨cur_ef, _, cu1⟩, ?_, x2⟩
  · unfold f_51
    rw [nxt hT e1 e3 n0, c92n cu1 t2]
    rfl
  · unfold f_53
    rw [nxt hT e1 e3 n0, c92n cu1 t2]
    rfl
  · unfold RP
    rw [hp, x1, Option.bind_some]
    exact flt_105 (by omega) hG x2.2
/-- a node made of one by a reference that has a fault already -/
theorem flt_make1 {mU mF : Sg} {k x y : Int} (hT : TWF T) (hP : P2 T sc1 sm1 sn rp a1 N K base W O op sc' sm' a' N' K' 0 0 N a1) (rU : ∀ c, c ≠ 91 → mU c = sm' c) (rF : ∀ c, c ≠ 84 → mF c = mU c) (cF : ∀ j, j ≠ 6 → j ≠ 7 → j ≠ 18 → mF 84 j = mU 84 j) (hf : 0 < mF 84 6) (v w : Int) :
    ∃ mD : Sg, f_266 k x x y 1 (ax_u2 (ax_u2 mF 84 63 v) 84 67 w) = some mD ∧ EFm sm' mD ∧ 0 < mD 84 6 := by
  obtain ⟨hE, h59, hS, hO, hTop, hK, hB, h70⟩ := hP
  obtain ⟨i1, i2, i3, i4, i5, i6, i7, i8, i9, i10, i11, i12, i13, i14, i15, i16, i17, i18, i19, i20, i21, i22, i23⟩ := id hE
  have bs := hO.2.2.2.2.2.2.2.1
  have h8 := hT.1
  have hz := i3.2.2
  have cU : ∀ j, j ≠ 6 → j ≠ 7 → j ≠ 18 → j ≠ 63 → j ≠ 67 → (ax_u2 (ax_u2 mF 84 63 v) 84 67 w) 84 j = sm' 84 j := fun j x1 x2 x3 x4 x5 => by rw [u2_col _ _ _ x5, u2_col _ _ _ x4, cF j x1 x2 x3, rU 84 (by decide)]
  obtain ⟨mD, v1, v2⟩ := m266 (s := ax_u2 (ax_u2 mF 84 63 v) 84 67 w) (N := N') (K := K') (o := O) (c := 1) (by rw [cU 47 (by decide) (by decide) (by decide) (by decide) (by decide)]; exact i6.2.1) (by rw [cU 57 (by decide) (by decide) (by decide) (by decide) (by decide)]; exact i6.2.2.1) (by rw [cU 59 (by decide) (by decide) (by decide) (by decide) (by decide)]; exact h59) (by omega) (by omega) (by omega) (by omega) k x x y
  refine ⟨mD, v1, EFm.trans (sm' := ax_u2 (ax_u2 mF 84 63 v) 84 67 w) ⟨fun c x => ?_, fun j x => cU j (by omega) (by omega) (by omega) (by omega) (by omega)⟩ v2.ef, ?_⟩
  · rw [u2_row _ _ _ (by omega), u2_row _ _ _ (by omega), rF c (by omega)]
    exact rU c (by omega)
  · rw [v2.2.2.2.2.2.2.2.2.2.2.2.2.2.2.2.2.2.2.2 6 (by decide) (by decide) (by decide), u2_col _ _ _ (by decide), u2_col _ _ _ (by decide)]
    exact hf
theorem op_ext {ex : Int → Sg → Option (Sum Sg (Nat × Sg))} {d : Nat} {k : Int} (hT : TWF T) (h : P1 T sc0 sm0 sn rp a0 N0 K0 base W O op sc sm a N K q b) (t1 : T.tk a = 25 ∨ T.tk a = 26) (t2 : T.tk (a + 1) = 40) (hk : k = if T.tk a = 25 then 4 else 5) (hd8 : d < 80) (hop : op ≤ 80)
    (IH : ∀ (sc1 sm1 : Sg) (a1 N1 K1 base1 W1 O1 F : Nat), EPRE T sc1 sm1 sn rp a1 N1 K1 base1 W1 O1 (op + 1) → T.z + 2 ≤ F + a1 → EOUT T sc1 sm1 sn rp a1 N1 K1 base1 W1 O1 (op + 1) l2 (ex ((d + 1 : Nat) : Int) sc1) (j_257_25 F l2 1 0 sm1))
    (F G : Nat) (hF : T.z + 1 ≤ F + a) (hG : 1 ≤ G) :
    OOUT T sc0 sm0 sn rp a0 N0 K0 base W O op sc sm a N q b l2 (f_51 ex (d : Int) k sc) (RP l2 F G sm) := by
  have hp := prim_word hT h (by omega)
  obtain ⟨e1, e2, e3, e4, e5, e6, e7, e8, e9, e10, e11, e12, e13, e14, e15, e16, e17, e18, e19, e20, e21, e22, e23⟩ := id h.1
  have h59 := h.2.1
  have hA := h.2.2.2.2
  have hKN := h.2.2.2.1
  have hz := hT.lt e3.2.2 (by rcases t1 with e | e <;> rw [e] <;> decide)
  have h8 := hT.1
  have bd := STK.bd _ _ _ _ h.2.2.1
  have hS := h.2.2.1
  have k45 : k = 4 ∨ k = 5 := by rw [hk]; split <;> simp
  have n0 : T.tk a ≠ 0 := by rcases t1 with e | e <;> rw [e] <;> decide
  have z1 := hT.lt (show a + 1 ≤ T.z by omega) (by rw [t2]; decide)
  have cc1 := cur_cc (a := a + 1) e1
  have cu1 : CU T (cur T sc (a + 1)) (a + 1) := cur_cu (by omega)
  have cc2 := cur_cc (a := a + 2) cc1
  have cu2 : CU T (cur T (cur T sc (a + 1)) (a + 2)) (a + 2) := cur_cu (by omega)
  have wd : ax_w32 ((d : Int) + 1) = ((d + 1 : Nat) : Int) := w32_nat (by omega)
  have hM0 : MC T (ax_u2 sm 84 70 0) := e2.row (by simp [ax_u2]) (by funext x; simp [ax_u2])
  have u0 : (ax_u2 sm 84 70 0) 84 18 = (a : Int) := by simpa [ax_u2] using e4
  have f0 : (ax_u2 sm 84 70 0) 84 6 = 0 := by simpa [ax_u2] using e5
  have hM1 := adv_mc (a := a + 1) hM0
  have f1 : (adv (ax_u2 sm 84 70 0) (a + 1)) 84 6 = 0 := by rw [adv_col (by decide)]; exact f0
  have cA : ∀ j, j ≠ 18 → j ≠ 70 → (adv (adv (ax_u2 sm 84 70 0) (a + 1)) (a + 2)) 84 j = sm 84 j := fun j x y => by rw [adv_col x, adv_col x]; exact u2_col _ _ _ y
  have rA : ∀ c, c ≠ 84 → (adv (adv (ax_u2 sm 84 70 0) (a + 1)) (a + 2)) c = sm c := fun c x => by rw [adv_row x, adv_row x]; exact u2_row _ _ _ x
  obtain ⟨p1, p2, p3, p4, p5, p6, p7, p8, p9⟩ := open_m (s := adv (adv (ax_u2 sm 84 70 0) (a + 1)) (a + 2)) (W := W + q) (o := O + b) (op := op) (w := 4) (x := (a : Int)) (by rw [cA 63 (by decide) (by decide)]; exact e8) (by rw [cA 59 (by decide) (by decide)]; exact h59) (by rw [cA 67 (by decide) (by decide)]; exact e9) (by omega) (by omega) (by decide) (by decide)
  generalize hs1 : f_262 4 (a : Int) (adv (adv (ax_u2 sm 84 70 0) (a + 1)) (a + 2)) = sm1 at *
  have hf260 : f_260 sm = some (1, sm1) := by
    rw [hp]
    unfold j_260_172
    rw [takeY hM1 hT f1 adv_at (by omega) (k := 40) (by decide) t2, Option.bind_some, gd_pos (by omega)]
    dsimp only
    have e88 : (adv (adv (ax_u2 sm 84 70 0) (a + 1)) (a + 1 + 1)) 88 (a : Int).toNat = km (T.tk a) := by rw [show a + 1 + 1 = a + 2 from rfl, rA 88 (by decide), Int.toNat_natCast]; exact e2.2 a e3.2.2
    rw [if_pos (by rw [e88]; rcases t1 with e | e <;> rw [e] <;> decide), gd_pos p1, hs1, Option.bind_some]
  have sm1f : sm1 84 6 = 0 := by rw [p9 6 (by decide) (by decide), cA 6 (by decide) (by decide)]; exact e5
  have sm170 : sm1 84 70 = 0 := by rw [p9 70 (by decide) (by decide), adv_col (by decide), adv_col (by decide)]; exact u2_same _ _ _ _
  have hRP : RP l2 F G sm = j_257_25 F l2 1 0 sm1 := by
    unfold RP
    rw [hf260, Option.bind_some]
    exact go_25s hG sm1f sm170
  obtain ⟨hP, xx, ecx, emx⟩ := NEST.pre (o := O + b) (a1 := a + 2) (sc1 := cur T (cur T sc (a + 1)) (a + 2)) (sm1 := sm1) hT h.1 h59 (by omega) (by omega) (by omega) (by omega) (by omega) (fun c x _ => by rw [cur_row x, cur_row x]) (fun j x y => by rw [cur_col x y, cur_col x y]) (fun k _ => by rw [cur_row (by decide), cur_row (by decide)]) cu2 (fun c x => by rw [p7 c (by omega) (by omega)]; exact rA c (by omega)) (fun k _ => ⟨by rw [p7 91 (by decide) (by decide), rA 91 (by decide)], by rw [p7 92 (by decide) (by decide), rA 92 (by decide)]⟩) (fun c i x y w => by rw [p8 c i (by omega) w, rA c (by omega)]) (by rw [p2]; decide) (fun j x y w v => by rw [p9 j y w]; exact cA j x v) (by rw [p9 18 (by decide) (by decide)]; exact adv_at) p5 p6 (by rw [show a + 2 - 1 = a + 1 by omega, t2]; decide)
  have cls : f_51 ex (d : Int) k sc = xb (ex ((d + 1 : Nat) : Int) (cur T (cur T sc (a + 1)) (a + 2))) fun q3 => (xb (f_92 44 q3) fun q4 => (xb (f_93 1 32 q4) fun q5 => (xb (f_92 41 q5.2) fun q6 => (gd (g_124 k (a : Int) (q6 66 8) 1 q6) ((some (f_124 k (a : Int) (q6 66 8) 1 q6)).bind fun q7 => ((f_62 q7.1 (a : Int) q7.2).bind fun q8 => (gd (g_123 (q8 66 8) q5.1 q8) ((some (f_123 (q8 66 8) q5.1 q8)).bind fun q9 => some (.inl q9))))))))) := by
    unfold f_51
    rw [nxt hT e1 e3 n0, c92y hT cc1 cu1 t2 (by decide), e3.1, wd]
    rfl
  rw [hRP, cls]
  rcases IH _ _ _ _ _ _ _ _ F hP (by omega) with ⟨sc', sm', a', N', K', r1, r2, r3, rS', r4⟩ | ⟨x, sc', mF, r1, r2, r3, r4, r5⟩
  · rw [r1]
    obtain ⟨i1, i2, i3, i4, i5, i6, i7, i8, i9, i10, i11, i12, i13, i14, i15, i16, i17, i18, i19, i20, i21, i22, i23⟩ := id r3.1
    obtain ⟨o1, o2, ⟨st, o3, o4, o5⟩, o6, o7, o8⟩ := id r3.2.2.2.1
    obtain ⟨t1', _⟩ := id r3.2.2.2.2.1
    have hz' := i3.2.2
    have bs := o8.2.2.1
    have hK2 := r3.2.2.2.2.2.1
    have w129 : sm' 129 (W + q) = 104 := by rw [i13.2.2.2.2.2.2.1 129 (W + q) (by decide) (by decide) (by omega), p2]; rfl
    have w130 : sm' 130 (W + q) = (a : Int) := by rw [i13.2.2.2.2.2.2.1 130 (W + q) (by decide) (by decide) (by omega), p3]
    have hwm : ax_w32 (sm' 84 63 - 1) = ((W + q : Nat) : Int) := by rw [i8, w32_id (by omega) (by omega)]; omega
    have m88 : sm' 88 a = km (T.tk a) := by rw [i15.1 88 (by omega), p7 88 (by decide) (by decide), rA 88 (by decide)]; exact e2.2 a e3.2.2
    show OOUT T sc0 sm0 sn rp a0 N0 K0 base W O op sc sm a N q b l2 (xb (f_92 44 sc') _) _
    -- when the reference finds a fault behind the expression
    have bad : ∀ (s' : Sg) (mt : Sg → Sg) (x : Int), EFc sc' s' → (∃ a, CU T s' a) → (∀ mU : Sg, MC T mU → mU 84 6 = 0 → mU 84 18 = (a' : Int) → (∀ c, c ≠ 84 → mt mU c = mU c) ∧ (∀ j, j ≠ 6 → j ≠ 7 → j ≠ 18 → mt mU 84 j = mU 84 j) ∧ 0 < mt mU 84 6 ∧ ((f_231 8 mU).bind fun q5 => (f_231 2 q5.2).bind fun q6 => (f_231 12 q6.2).bind fun q7 => some (q6.1, q7.2)) = some (x, mt mU)) → ∃ mF : Sg, some ((Sum.inr (15, s')) : Sum Sg (Nat × Sg)) = some (.inr (15, s')) ∧ ((15 : Nat) = 14 ∨ (15 : Nat) = 15) ∧ BDc T sc s' ∧ j_257_25 F l2 1 0 sm1 = some (0, mF) ∧ BDm sm mF := by
      intro s' mt x hs1' hs2' hm
      rcases r4 with ⟨F', G', y1, y2, y3, y4, y5⟩ | ⟨_, mF, y2, y3⟩
      · obtain ⟨mU, u0', u1, u2, u3, u4⟩ := RC.use hT r3 (by rw [show W + q + 1 - 1 = W + q by omega, w129]; decide) (by omega) G' (by omega)
        obtain ⟨m1, m2, m3, m4⟩ := hm mU (i2.row (by rw [u4 84 (by decide)]) (u4 88 (by decide))) (by rw [u4 84 (by decide)]; exact i5) (by rw [u4 84 (by decide)]; exact i4)
        obtain ⟨b1, c1, b2⟩ := bd_some m4
        obtain ⟨b3, c2, b4⟩ := bd_some b2
        obtain ⟨b5, c3, b6⟩ := bd_some b4
        obtain ⟨hb1, hb2⟩ := Prod.mk.inj (Option.some.inj b6)
        obtain ⟨mD, d1, d2, d3⟩ := flt_make1 (k := ((if ¬ ((mt mU) 88 a) = 39 then 5 else 4) : Int)) (x := (a : Int)) (y := b3.1) hT r3 u4 m1 m2 m3 (ax_w32 ((mt mU) 84 63 - 1)) (ax_w32 ((mt mU) 84 67 - 1))
        refine ⟨mD, rfl, Or.inr rfl, ⟨(ecx.trans i14).trans hs1', hs2'⟩, ?_, (emx.trans i15).trans d2, d3⟩
        rw [y1]
        unfold RC
        rw [u0']
        unfold j_270_85
        rw [if_pos (by omega), hwm, gd_pos (by omega), u1, Option.bind_some, gd_pos (by omega), Int.toNat_natCast, u4 129 (by decide), w129, w130, if_neg (by decide), if_neg (by decide), if_pos (by decide)]
        rw [c1, Option.bind_some, c2, Option.bind_some, c3, Option.bind_some, gd_pos (by omega), Int.toNat_natCast, hb2, d1, Option.bind_some, Option.bind_some]
        exact flt_105 (by omega) FU1 d3
      · exact ⟨mF, rfl, Or.inr rfl, ⟨(ecx.trans i14).trans hs1', hs2'⟩, y2, emx.trans y3.1, y3.2⟩
    by_cases tc : T.tk a' = 44
    · have z3 := hT.lt hz' (by rw [tc]; decide)
      have cc3 := cur_cc (a := a' + 1) i1
      have cu3 : CU T (cur T sc' (a' + 1)) (a' + 1) := cur_cu (by omega)
      rw [c92y hT i1 i3 tc (by decide)]
      show OOUT T sc0 sm0 sn rp a0 N0 K0 base W O op sc sm a N q b l2 (xb (f_93 1 32 (cur T sc' (a' + 1))) _) _
      by_cases tn : T.tk (a' + 1) = 2
      · have z4 := hT.lt (show a' + 1 ≤ T.z by omega) (by rw [tn]; decide)
        obtain ⟨s5, n1, n2, n3, n4⟩ := c93 (lo := 1) (hi := 32) hT cc3 cu3 tn
        have ef5 : EFc sc' s5 := cur_ef.trans (ef30 n3 n4)
        have cc5 := cur_cc (a := a' + 2) (ef5.cc i1)
        have cu5 : CU T (cur T s5 (a' + 2)) (a' + 2) := cur_cu (by omega)
        rw [n1]
        show OOUT T sc0 sm0 sn rp a0 N0 K0 base W O op sc sm a N q b l2 (xb (f_92 41 (cur T s5 (a' + 2))) _) _
        by_cases tp : T.tk (a' + 2) = 41
        · have z5 := hT.lt (show a' + 2 ≤ T.z by omega) (by rw [tp]; decide)
          rw [c92y hT cc5 cu5 tp (by decide)]
          rcases r4 with ⟨F', G', y1, y2, y3, y4, y5⟩ | ⟨y1, _⟩
          · obtain ⟨mU, u0', u1, u2, u3, u4⟩ := RC.use hT r3 (by rw [show W + q + 1 - 1 = W + q by omega, w129]; decide) (by omega) G' (by omega)
            have rS : ∀ c, c ≠ 39 → c ≠ 30 → (cur T (cur T s5 (a' + 2)) (a' + 3)) c = sc' c := fun c x y => by rw [cur_row x, cur_row x, n3 c y, cur_row x]
            have rU : ∀ c, c ≠ 91 → c ≠ 84 → (ax_u2 (ax_u2 (adv (adv (adv mU (a' + 1)) (a' + 2)) (a' + 3)) 84 63 ((W + q : Nat) : Int)) 84 67 (op : Int)) c = sm' c := fun c x y => by rw [u2_row _ _ _ y, u2_row _ _ _ y, adv_row y, adv_row y, adv_row y]; exact u4 c x
            have cU : ∀ j, j ≠ 18 → j ≠ 63 → j ≠ 67 → (ax_u2 (ax_u2 (adv (adv (adv mU (a' + 1)) (a' + 2)) (a' + 3)) 84 63 ((W + q : Nat) : Int)) 84 67 (op : Int)) 84 j = sm' 84 j := fun j x y w => by rw [u2_col _ _ _ w, u2_col _ _ _ y, adv_col x, adv_col x, adv_col x, u4 84 (by decide)]
            obtain ⟨m1, m2, m3, m4, m5⟩ := NEST.mid (a2 := a' + 3) (sB := (cur T (cur T s5 (a' + 2)) (a' + 3))) (mB := (ax_u2 (ax_u2 (adv (adv (adv mU (a' + 1)) (a' + 2)) (a' + 3)) 84 63 ((W + q : Nat) : Int)) 84 67 (op : Int))) xx ecx emx (by omega) r3 (by omega) (fun c x y _ _ => rS c x y) (fun j x y => by rw [cur_col x y, cur_col x y, n3 39 (by decide), cur_col x y]) (fun j x => by rw [cur_row (by decide), cur_row (by decide), n4 j x, cur_row (by decide)]) (fun k _ => by rw [rS 45 (by decide) (by decide)]) (fun c x => rU c (by omega) (by omega)) (fun k x => ⟨by rw [u2_row _ _ _ (by decide), u2_row _ _ _ (by decide), adv_row (by decide), adv_row (by decide), adv_row (by decide)]; exact u3 k (by omega), by rw [rU 92 (by decide) (by decide)]⟩) (fun c i x y _ => by rw [rU c (by omega) (by omega)]) (fun c i x y _ => by rw [rU c (by omega) (by omega)]) (fun k _ => by rw [rU 132 (by decide) (by decide)]) cU
            have sB46 : (cur T (cur T s5 (a' + 2)) (a' + 3)) 46 7 = (N' : Int) := m4.1
            obtain ⟨g1, g2, g3, g4⟩ := c124 sB46 (by omega) k (a : Int) ((N' : Int) - 1) 1 10
            obtain ⟨g5, g6⟩ := g3.widen (by omega) (mn (T.vl (a' + 1)))
            obtain ⟨mD, v1, v2⟩ := m266 (s := (ax_u2 (ax_u2 (adv (adv (adv mU (a' + 1)) (a' + 2)) (a' + 3)) 84 63 ((W + q : Nat) : Int)) 84 67 (op : Int))) (N := N') (K := K') (o := O + b) (c := 1) m4.2.1 m4.2.2.1 (by rw [cU 59 (by decide) (by decide) (by decide)]; exact r3.2.1) (by omega) (by omega) (by omega) (by omega) k (a : Int) (a : Int) ((a' + 1 : Nat) : Int)
            have kO : (ax_u2 (ax_u2 (adv (adv (adv mU (a' + 1)) (a' + 2)) (a' + 3)) 84 63 ((W + q : Nat) : Int)) 84 67 (op : Int)) 126 (O + b) = (N' : Int) - 1 := by rw [rU 126 (by decide) (by decide)]; exact o2
            have lv : lev k = 10 := by rcases k45 with e | e <;> rw [e] <;> decide
            refine Or.inl ⟨_, _, mD, a' + 3, N' + 1, K' + 1, F', ?_, hide_n hT (g6.ef.cc (m2.cc e1)) (by omega) (by rcases t1 with e | e <;> rw [e] <;> decide), ?_, by omega, by omega, MKP2 h.1 hS m1 m2 m3 (cur_cu (by omega)) ?_ ?_ m4 ?_ ?_ ?_ m5 ?_ (by rw [lv]; exact g6) v2 rfl rfl (Nat.le_refl _) (by omega) (by omega) (by omega) (by rcases k45 with e | e <;> rw [e] <;> simp [AR]) (by rw [if_pos (by decide), kO]) ?_ ?_ ?_ ?_ (by omega) (by omega) (by rw [show a' + 3 - 1 = a' + 2 by omega, tp]; decide) (by omega) (by omega) (by omega) ?_⟩
            · show gd _ _ = _
              rw [show (cur T (cur T s5 (a' + 2)) (a' + 2 + 1)) 66 8 = (N' : Int) - 1 by rw [show a' + 2 + 1 = a' + 3 from rfl, rS 66 (by decide) (by decide)]; exact t1', gd_pos g1, Option.bind_some, g2]
              show gd _ _ = _
              rw [g3.2.2.2.2.2.2.2.2.1, gd_pos g5]
              rfl
            · rw [y1]
              unfold RC
              rw [u0']
              unfold j_270_85
              rw [if_pos (by omega), hwm, gd_pos (by omega), u1, Option.bind_some, gd_pos (by omega), Int.toNat_natCast, u4 129 (by decide), w129, w130, if_neg (by decide), if_neg (by decide), if_pos (by decide)]
              have mcU : MC T mU := i2.row (by rw [u4 84 (by decide)]) (u4 88 (by decide))
              have fU : mU 84 6 = 0 := by rw [u4 84 (by decide)]; exact i5
              rw [takeY mcU hT fU (by rw [u4 84 (by decide)]; exact i4) hz' (k := 44) (by decide) tc, Option.bind_some]
              dsimp only
              rw [takeY (adv_mc mcU) hT (by rw [adv_col (by decide)]; exact fU) adv_at (by omega) (k := 2) (by decide) tn, Option.bind_some]
              dsimp only
              rw [takeY (adv_mc (adv_mc mcU)) hT (by rw [adv_col (by decide), adv_col (by decide)]; exact fU) adv_at (by omega) (k := 41) (by decide) tp, Option.bind_some]
              dsimp only
              have e63 : ax_w32 ((adv (adv (adv mU (a' + 1)) (a' + 2)) (a' + 3)) 84 63 - 1) = ((W + q : Nat) : Int) := by rw [adv_col (by decide), adv_col (by decide), adv_col (by decide), u4 84 (by decide)]; exact hwm
              have e67 : ax_w32 ((adv (adv (adv mU (a' + 1)) (a' + 2)) (a' + 3)) 84 67 - 1) = (op : Int) := by rw [adv_col (by decide), adv_col (by decide), adv_col (by decide), u4 84 (by decide), i9, w32_id (by omega) (by omega)]; omega
              have e88 : (adv (adv (adv mU (a' + 1)) (a' + 2)) (a' + 3)) 88 a = km (T.tk a) := by rw [adv_row (by decide), adv_row (by decide), adv_row (by decide), u4 88 (by decide)]; exact m88
              show (gd _ _).bind _ = _
              rw [gd_pos (by omega), e63, e67, Int.toNat_natCast]
              have v1' : f_266 k (a : Int) (a : Int) ((a' + 1 : Nat) : Int) 1 (ax_u2 (ax_u2 (adv (adv (adv mU (a' + 1)) (a' + 2)) (a' + 3)) 84 63 ((W + q : Nat) : Int)) 84 67 (op : Int)) = some mD := v1
              have ek : ∀ y : Option (Int × Sg), (∀ x : Int, x = k → ((f_266 x (a : Int) (a : Int) ((a' + 1 : Nat) : Int) 1 (ax_u2 (ax_u2 (adv (adv (adv mU (a' + 1)) (a' + 2)) (a' + 3)) 84 63 ((W + q : Nat) : Int)) 84 67 (op : Int))).bind fun q8 => some ((0 : Int), q8)).bind (fun q3 => j_257_105 (j_257_25 F') FU l2 ((if ¬ q3.1 = 1 then 0 else 1) : Int) ((if ¬ q3.1 = 2 then 0 else 1) : Int) q3.2) = y) → ((f_266 ((if ¬ ((adv (adv (adv mU (a' + 1)) (a' + 2)) (a' + 3)) 88 a) = 39 then 5 else 4) : Int) (a : Int) (a : Int) ((a' + 1 : Nat) : Int) 1 (ax_u2 (ax_u2 (adv (adv (adv mU (a' + 1)) (a' + 2)) (a' + 3)) 84 63 ((W + q : Nat) : Int)) 84 67 (op : Int))).bind fun q8 => some ((0 : Int), q8)).bind (fun q3 => j_257_105 (j_257_25 F') FU l2 ((if ¬ q3.1 = 1 then 0 else 1) : Int) ((if ¬ q3.1 = 2 then 0 else 1) : Int) q3.2) = y := by
                intro y hy
                apply hy
                rw [hk]
                rcases t1 with e | e
                · rw [if_neg (by rw [e88, e]; decide), if_pos e]
                · rw [if_pos (by rw [e88, e]; decide), if_neg (by rw [e]; decide)]
              apply ek
              intro x hx
              rw [hx, v1', Option.bind_some, Option.bind_some]
              dsimp only
              rw [if_pos (by decide), if_pos (by decide)]
              exact go_25 FU1 (by rw [v2.2.2.2.2.2.2.2.2.2.2.2.2.2.2.2.2.2.2.2 6 (by decide) (by decide) (by decide), cU 6 (by decide) (by decide) (by decide)]; exact i5)
            · rw [u2_col _ _ _ (by decide), u2_col _ _ _ (by decide)]; exact adv_at
            · rw [cU 6 (by decide) (by decide) (by decide)]; exact i5
            · rw [rS 66 (by decide) (by decide)]; exact i7
            · rw [u2_col _ _ _ (by decide)]; exact u2_same _ _ _ _
            · exact u2_same _ _ _ _
            · intro k x y
              have fr : ∀ k, LF T sc' mU k → LF T (cur T (cur T s5 (a' + 2)) (a' + 3)) (ax_u2 (ax_u2 (adv (adv (adv mU (a' + 1)) (a' + 2)) (a' + 3)) 84 63 ((W + q : Nat) : Int)) 84 67 (op : Int)) k := fun k hl => hl.congr (by rw [rS 45 (by decide) (by decide)]) (by rw [u2_row _ _ _ (by decide), u2_row _ _ _ (by decide), adv_row (by decide), adv_row (by decide), adv_row (by decide)]) (by rw [u2_row _ _ _ (by decide), u2_row _ _ _ (by decide), adv_row (by decide), adv_row (by decide), adv_row (by decide)]) (by rw [u2_row _ _ _ (by decide), u2_row _ _ _ (by decide), adv_row (by decide), adv_row (by decide), adv_row (by decide)])
              apply fr
              by_cases c1 : k < a + 2
              · exact (e12 k x (by omega)).lf.congr (by rw [(i13.1 k (Or.inl c1)).1, cur_row (by decide), cur_row (by decide)]) (by rw [u3 k (Or.inl c1), (i13.1 k (Or.inl c1)).2.1, p7 91 (by decide) (by decide), rA 91 (by decide)]) (by rw [u4 92 (by decide), (i13.1 k (Or.inl c1)).2.2, p7 92 (by decide) (by decide), rA 92 (by decide)]) (by rw [u4 93 (by decide), i15.1 93 (by omega), p7 93 (by decide) (by decide), rA 93 (by decide)])
              · by_cases c2 : k < a'
                · exact u2 k (by omega) c2
                · exact (i12 k (by omega) (by omega)).lf.congr rfl (by rw [u3 k (by omega)]) (by rw [u4 92 (by decide)]) (by rw [u4 93 (by decide)])
            · intro i hi
              have : i = 0 := by omega
              subst this
              refine ⟨N' - 1, kO.trans (show (N' : Int) - 1 = ((N' - 1 : Nat) : Int) by omega), by omega, ?_⟩
              rw [if_neg (by omega), rS 52 (by decide) (by decide)]
              exact o6
            · unfold NV
              rw [v2.2.2.2.1, v2.2.2.2.2.1, v2.2.2.2.2.2.1, v2.2.2.2.2.2.2.1, g6.2.2.1, g6.2.2.2.1]
              refine ⟨fun y => by omega, fun _ => ⟨a' + 1, rfl, z4, tn, rfl, rfl⟩, fun y => by omega, fun _ y => by omega, fun y => by omega⟩
            · have s0 := SEG.tok T (cur T (cur T s5 (a' + 2)) (a' + 3)) (ax_u2 (ax_u2 (adv (adv (adv mU (a' + 1)) (a' + 2)) (a' + 3)) 84 63 ((W + q : Nat) : Int)) 84 67 (op : Int)) sn rp K' a N (Or.inl ⟨hA, by rcases t1 with e | e <;> rw [e] <;> decide⟩) (fun y => by rcases t1 with e | e <;> rw [e] at y <;> exact absurd y.1 (by decide))
              have s1 := SEG.tok T (cur T (cur T s5 (a' + 2)) (a' + 3)) (ax_u2 (ax_u2 (adv (adv (adv mU (a' + 1)) (a' + 2)) (a' + 3)) 84 63 ((W + q : Nat) : Int)) 84 67 (op : Int)) sn rp K' (a + 1) N (Or.inr (Or.inr (Or.inr (Or.inl (by rw [show a + 1 - 1 = a by omega, t2]; exact ⟨by omega, rfl⟩))))) (fun y => by rw [t2] at y; exact absurd y.1 (by decide))
              have s2 : SEG T (cur T (cur T s5 (a' + 2)) (a' + 3)) (ax_u2 (ax_u2 (adv (adv (adv mU (a' + 1)) (a' + 2)) (a' + 3)) 84 63 ((W + q : Nat) : Int)) 84 67 (op : Int)) sn rp K' (a + 2) a' N N' := o8.rows (fun c x y => rU c (by omega) (by omega)) (rS 48 (by decide) (by decide)) (rS 37 (by decide) (by decide))
              have s3 := SEG.tok T (cur T (cur T s5 (a' + 2)) (a' + 3)) (ax_u2 (ax_u2 (adv (adv (adv mU (a' + 1)) (a' + 2)) (a' + 3)) 84 63 ((W + q : Nat) : Int)) 84 67 (op : Int)) sn rp K' a' N' (Or.inr (Or.inl ⟨r3.2.2.2.2.2.2.1, by rw [tc]; decide⟩)) (fun y => by rw [tc] at y; exact absurd y.1 (by decide))
              have s4 := SEG.tok T (cur T (cur T s5 (a' + 2)) (a' + 3)) (ax_u2 (ax_u2 (adv (adv (adv mU (a' + 1)) (a' + 2)) (a' + 3)) 84 63 ((W + q : Nat) : Int)) 84 67 (op : Int)) sn rp K' (a' + 1) N' (Or.inl (by rw [show a' + 1 - 1 = a' by omega, tc, tn]; decide)) (fun y => by rw [tn] at y; exact absurd y.1 (by decide))
              have s5' := SEG.tok T (cur T (cur T s5 (a' + 2)) (a' + 3)) (ax_u2 (ax_u2 (adv (adv (adv mU (a' + 1)) (a' + 2)) (a' + 3)) 84 63 ((W + q : Nat) : Int)) 84 67 (op : Int)) sn rp K' (a' + 2) N' (Or.inr (Or.inl (by rw [show a' + 2 - 1 = a' + 1 by omega, tn, tp]; decide))) (fun y => by rw [tp] at y; exact absurd y.1 (by decide))
              refine (((((s0.merge s1).merge s2).merge s3).merge s4).merge s5').addn v2 (fun n hn => g6.2.2.2.2.2.2.2.2.2.2.2.2.2.1 48 n (by decide) (by decide) (by omega)) (g6.2.2.2.2.2.2.2.2.2.2.2.2.2.2.2.1 37 (by omega)) (by omega) (by omega) (fun i hi => ?_) (by rw [cU 68 (by decide) (by decide) (by decide)]; exact i10) (by rw [cU 46 (by decide) (by decide) (by decide)]; exact i11) (fun _ y => by omega)
              have : i = 0 := by omega
              subst this
              exact Int.le_trans (show (N : Int) ≤ (N' : Int) - 1 by omega) (Int.le_of_eq kO.symm)
            · have nk : NOK T (sc0 37) mD N' ↔ (1 ≤ T.vl (a' + 1) ∧ T.vl (a' + 1) ≤ 32) := by
                unfold NOK
                rw [v2.2.2.2.1, v2.2.2.2.2.2.2.1, Int.toNat_natCast]
                exact ⟨fun y => y.2.1 k45, fun y => ⟨fun z => by omega, fun _ => y, fun z => by omega, fun z => by omega⟩⟩
              have lw : (cur T (cur T sc (a + 1)) (a + 2)) 37 = sc0 37 := by rw [cur_row (by decide), cur_row (by decide), e14.1 37 (by omega)]
              have c1 : CN (f_123 (N' : Int) (mn (T.vl (a' + 1))) (f_64 (N' : Int) (a : Int) 10 (f_124 k (a : Int) ((N' : Int) - 1) 1 (cur T (cur T s5 (a' + 2)) (a' + 3))).2)) ↔ CN s5 := by unfold CN; rw [r123 (by decide), g4, cur_row (by decide), cur_row (by decide)]
              have c2 : CN (cur T sc' (a' + 1)) ↔ CN sc' := by unfold CN; rw [cur_row (by decide)]
              have c3 : CN (cur T (cur T sc (a + 1)) (a + 2)) ↔ CN sc := by unfold CN; rw [cur_row (by decide), cur_row (by decide)]
              rw [c1, n2, c2, i16, c3, lw]
              have old : ∀ n, n < N' → (NOK T (sc0 37) mD n ↔ NOK T (sc0 37) sm' n) := fun n hn => NOK.congr (fun c x y => by rw [v2.2.2.2.2.2.2.2.2.2.2.2.2.2.2.2.1 c n x y (by omega), rU c (by omega) (by omega)])
              constructor
              · intro ⟨⟨y1, y2⟩, y3⟩
                refine ⟨y1, fun n z1 z2 => ?_⟩
                by_cases e : n = N'
                · rw [e, nk]; exact y3
                · rw [old n (by omega)]; exact y2 n z1 (by omega)
              · intro ⟨y1, y2⟩
                exact ⟨⟨y1, fun n z1 z2 => (old n z2).mp (y2 n z1 (by omega))⟩, nk.mp (y2 N' (by omega) (by omega))⟩
            · rw [cU 70 (by decide) (by decide) (by decide)]; exact r3.2.2.2.2.2.2.2
          · rw [tc] at y1; omega
        · rw [c92n cu5 tp]
          refine Or.inr ⟨15, cur T s5 (a' + 2), bad (cur T s5 (a' + 2)) (fun mU => tel (adv (adv mU (a' + 1)) (a' + 2)) 2 (a' + 2)) ((a' + 1 : Nat) : Int) (ef5.trans cur_ef) ⟨_, cu5⟩ ?_⟩
          intro mU x1 x2 x3
          refine ⟨fun c x => by rw [tel_row x, adv_row x, adv_row x], fun j x y w => by rw [tel_col x y, adv_col w, adv_col w], by rw [tel_at]; decide, ?_⟩
          rw [takeY x1 hT x2 x3 hz' (k := 44) (by decide) tc, Option.bind_some]
          dsimp only
          rw [takeY (adv_mc x1) hT (by rw [adv_col (by decide)]; exact x2) adv_at (by omega) (k := 2) (by decide) tn, Option.bind_some]
          dsimp only
          rw [takeN (adv_mc (adv_mc x1)) hT (by rw [adv_col (by decide), adv_col (by decide)]; exact x2) adv_at (by omega) (k := 41) (by decide) (by decide) tp, Option.bind_some]
      · rw [c93n cu3 tn]
        refine Or.inr ⟨15, cur T sc' (a' + 1), bad (cur T sc' (a' + 1)) (fun mU => tel (adv mU (a' + 1)) 2 (a' + 1)) 0 cur_ef ⟨_, cu3⟩ ?_⟩
        intro mU x1 x2 x3
        refine ⟨fun c x => by rw [tel_row x, adv_row x], fun j x y w => by rw [tel_col x y, adv_col w], by rw [tel_at]; decide, ?_⟩
        rw [takeY x1 hT x2 x3 hz' (k := 44) (by decide) tc, Option.bind_some]
        dsimp only
        rw [takeN (adv_mc x1) hT (by rw [adv_col (by decide)]; exact x2) adv_at (by omega) (k := 2) (by decide) (by decide) tn, Option.bind_some]
        dsimp only
        rw [takeF (by rw [tel_at]; decide), Option.bind_some]
    · rw [c92n i3 tc]
      refine Or.inr ⟨15, sc', bad sc' (fun mU => tel mU 2 a') 0 (EFc.refl _) ⟨_, i3⟩ ?_⟩
      intro mU x1 x2 x3
      refine ⟨fun c x => by rw [tel_row x], fun j x y w => by rw [tel_col x y], by rw [tel_at]; decide, ?_⟩
      rw [takeN x1 hT x2 x3 hz' (k := 44) (by decide) (by decide) tc, Option.bind_some]
      dsimp only
      rw [takeF (by rw [tel_at]; decide), Option.bind_some]
      dsimp only
      rw [takeF (by rw [tel_at]; decide), Option.bind_some]
  · rw [r1]
    exact Or.inr ⟨x, sc', mF, rfl, r2, ⟨ecx.trans r3.1, r3.2⟩, r4, emx.trans r5.1, r5.2⟩
end EX
