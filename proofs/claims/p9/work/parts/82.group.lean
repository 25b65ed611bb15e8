/-! BRACKETS round an expression. -/
section GR
variable {T : TT} {sc0 sm0 sc sm sc1 sm1 sc' sm' sB mB s : Sg} {sn rp l2 : Int} {a0 N0 K0 base W O op a a1 a' a2 N N' K K' q b o : Nat}
theorem c99 (hc : CC T s) (hT : TWF T) (ha : a < T.z) (v : Int) : g_99 (a : Int) v s ∧ f_99 (a : Int) v s = ax_u2 s 45 a v := by
  have h9 := hc.1
  have h8 := hT.1
  refine ⟨⟨fun _ => trivial, fun _ => ⟨fun _ => trivial, fun _ => ⟨⟨by omega, by omega⟩, trivial⟩⟩⟩, ?_⟩
  unfold f_99
  rw [if_neg (by omega), if_neg (by omega), Int.toNat_natCast]
theorem c99a (hc : CC T s) (hT : TWF T) (ha : a ≤ T.z) (v : Int) : g_99 (a : Int) v s ∧ (∀ c, c ≠ 45 → f_99 (a : Int) v s c = s c) ∧ (∀ k, k ≠ a → f_99 (a : Int) v s 45 k = s 45 k) := by
  have h9 := hc.1
  have h8 := hT.1
  by_cases d : a < T.z
  · obtain ⟨g, e⟩ := c99 hc hT d v
    rw [e]
    exact ⟨g, fun c x => u2_row _ _ _ x, fun k x => u2_col _ _ _ x⟩
  · have e : f_99 (a : Int) v s = s := by unfold f_99; rw [if_neg (by omega), if_pos (by omega)]
    rw [e]
    exact ⟨⟨fun _ => trivial, fun _ => ⟨fun _ => trivial, fun y => absurd (by omega) y⟩⟩, fun _ _ => rfl, fun _ _ => rfl⟩
theorem op_group {ex : Int → Sg → Option (Sum Sg (Nat × Sg))} {d : Nat} (hT : TWF T) (h : P1 T sc0 sm0 sn rp a0 N0 K0 base W O op sc sm a N K q b) (t1 : T.tk a = 40) (hd8 : d < 80) (hop : op ≤ 80)
    (IH : ∀ (sc1 sm1 : Sg) (a1 N1 K1 base1 W1 O1 F : Nat), EPRE T sc1 sm1 sn rp a1 N1 K1 base1 W1 O1 (op + 1) → T.z + 2 ≤ F + a1 → EOUT T sc1 sm1 sn rp a1 N1 K1 base1 W1 O1 (op + 1) l2 (ex ((d + 1 : Nat) : Int) sc1) (j_257_25 F l2 1 0 sm1))
    (F G : Nat) (hF : T.z + 1 ≤ F + a) (hG : 1 ≤ G) :
    OOUT T sc0 sm0 sn rp a0 N0 K0 base W O op sc sm a N q b l2 (f_52 ex (d : Int) sc) (RP l2 F G sm) := by
  obtain ⟨e1, e2, e3, e4, e5, e6, e7, e8, e9, e10, e11, e12, e13, e14, e15, e16, e17, e18, e19, e20, e21, e22, e23⟩ := id h.1
  have h59 := h.2.1
  have hA := h.2.2.2.2
  have hKN := h.2.2.2.1
  have hz := hT.lt e3.2.2 (by rw [t1]; decide)
  have h8 := hT.1
  have bd := STK.bd _ _ _ _ h.2.2.1
  have hS := h.2.2.1
  obtain ⟨g99, f99⟩ := c99 e1 hT hz 2
  have ccs : CC T (ax_u2 sc 45 a 2) := e1.row (by simp [ax_u2]) (u2_row _ _ _ (by decide)) (u2_row _ _ _ (by decide)) (u2_row _ _ _ (by decide)) (by simp [ax_u2]) (u2_row _ _ _ (by decide))
  have cus : CU T (ax_u2 sc 45 a 2) a := by unfold CU at *; rw [u2_row _ _ _ (by decide)]; exact e3
  have cu1 : CU T (cur T (ax_u2 sc 45 a 2) (a + 1)) (a + 1) := cur_cu (by omega)
  have rC : ∀ c, c ≠ 39 → c ≠ 45 → (cur T (ax_u2 sc 45 a 2) (a + 1)) c = sc c := fun c x y => by rw [cur_row x]; exact u2_row _ _ _ y
  have wd : ax_w32 ((d : Int) + 1) = ((d + 1 : Nat) : Int) := w32_nat (by omega)
  have hM0 : MC T (ax_u2 sm 84 70 0) := e2.row (by simp [ax_u2]) (by funext x; simp [ax_u2])
  have u0 : (ax_u2 sm 84 70 0) 84 18 = (a : Int) := by simpa [ax_u2] using e4
  have f0 : (ax_u2 sm 84 70 0) 84 6 = 0 := by simpa [ax_u2] using e5
  have cA : ∀ j, j ≠ 18 → j ≠ 70 → (adv (ax_u2 sm 84 70 0) (a + 1)) 84 j = sm 84 j := fun j x y => by rw [adv_col x]; exact u2_col _ _ _ y
  have rA : ∀ c, c ≠ 84 → (adv (ax_u2 sm 84 70 0) (a + 1)) c = sm c := fun c x => by rw [adv_row x]; exact u2_row _ _ _ x
  obtain ⟨p1, p2, p3, p4, p5, p6, p7, p8, p9⟩ := open_m (s := adv (ax_u2 sm 84 70 0) (a + 1)) (W := W + q) (o := O + b) (op := op) (w := 1) (x := (a : Int)) (by rw [cA 63 (by decide) (by decide)]; exact e8) (by rw [cA 59 (by decide) (by decide)]; exact h59) (by rw [cA 67 (by decide) (by decide)]; exact e9) (by omega) (by omega) (by decide) (by decide)
  generalize hs1 : f_262 1 (a : Int) (adv (ax_u2 sm 84 70 0) (a + 1)) = sm1 at *
  have hf260 : f_260 sm = some (1, sm1) := by
    unfold f_260
    rw [if_pos (by omega), eatN hM0 hT u0 e3.2.2 (k := 126) (by decide) (by decide) (by rw [t1]; decide)]
    rw [if_neg (by simp), eatN hM0 hT u0 e3.2.2 (k := 45) (by decide) (by decide) (by rw [t1]; decide)]
    rw [if_pos rfl, eatY hM0 hT f0 u0 e3.2.2 (k := 40) (by decide) t1]
    rw [if_neg (by simp), e4, gd_pos p1, hs1, Option.bind_some]
  have sm1f : sm1 84 6 = 0 := by rw [p9 6 (by decide) (by decide), cA 6 (by decide) (by decide)]; exact e5
  have sm170 : sm1 84 70 = 0 := by rw [p9 70 (by decide) (by decide), adv_col (by decide)]; exact u2_same _ _ _ _
  have hRP : RP l2 F G sm = j_257_25 F l2 1 0 sm1 := by
    unfold RP
    rw [hf260, Option.bind_some]
    exact go_25s hG sm1f sm170
  obtain ⟨hP, xx, ecx, emx⟩ := NEST.pre (o := O + b) (a1 := a + 1) (sc1 := cur T (ax_u2 sc 45 a 2) (a + 1)) (sm1 := sm1) hT h.1 h59 (by omega) (by omega) (by omega) (by omega) (by omega) rC (fun j x y => by rw [cur_col x y]; simp [ax_u2]) (fun k x => by rw [cur_row (by decide)]; exact u2_col _ _ _ (by omega)) cu1 (fun c x => by rw [p7 c (by omega) (by omega)]; exact rA c (by omega)) (fun k _ => ⟨by rw [p7 91 (by decide) (by decide), rA 91 (by decide)], by rw [p7 92 (by decide) (by decide), rA 92 (by decide)]⟩) (fun c i x y w => by rw [p8 c i (by omega) w, rA c (by omega)]) (by rw [p2]; decide) (fun j x y w v => by rw [p9 j y w]; exact cA j x v) (by rw [p9 18 (by decide) (by decide)]; exact adv_at) p5 p6 (by rw [show a + 1 - 1 = a by omega, t1]; decide)
  have cls : f_52 ex (d : Int) sc = xb (ex ((d + 1 : Nat) : Int) (cur T (ax_u2 sc 45 a 2) (a + 1))) fun q3 => (gd (g_99 (q3 39 10) 2 q3) ((some (f_99 (q3 39 10) 2 q3)).bind fun q4 => (xb (f_92 41 q4) fun q5 => some (.inl (ax_u2 (ax_u2 (ax_u2 q5 66 9 (a : Int)) 66 11 (a : Int)) 66 12 (q3 39 10)))))) := by
    unfold f_52
    rw [e3.1, gd_pos g99, f99, Option.bind_some, c92y hT ccs cus t1 (by decide), wd]
    rfl
  rw [hRP, cls]
  rcases IH _ _ _ _ _ _ _ _ F hP (by omega) with ⟨sc', sm', a', N', K', r1, r2, r3, rS', r4⟩ | ⟨x, sc', mF, r1, r2, r3, r4, r5⟩
  · rw [r1]
    obtain ⟨i1, i2, i3, i4, i5, i6, i7, i8, i9, i10, i11, i12, i13, i14, i15, i16, i17, i18, i19, i20, i21, i22, i23⟩ := id r3.1
    obtain ⟨o1, o2, ⟨st, o3, o4, o5⟩, o6, o7, o8⟩ := id r3.2.2.2.1
    obtain ⟨t1', t2', t3', t4', t5', t6'⟩ := id r3.2.2.2.2.1
    have hz' := i3.2.2
    have bs := o8.2.2.1
    have hK2 := r3.2.2.2.2.2.1
    have hB' := r3.2.2.2.2.2.2.1
    have w129 : sm' 129 (W + q) = 101 := by rw [i13.2.2.2.2.2.2.1 129 (W + q) (by decide) (by decide) (by omega), p2]; rfl
    have w130 : sm' 130 (W + q) = (a : Int) := by rw [i13.2.2.2.2.2.2.1 130 (W + q) (by decide) (by decide) (by omega), p3]
    have hwm : ax_w32 (sm' 84 63 - 1) = ((W + q : Nat) : Int) := by rw [i8, w32_id (by omega) (by omega)]; omega
    obtain ⟨h99, k99, l99⟩ := c99a i1 hT hz' 2
    show OOUT T sc0 sm0 sn rp a0 N0 K0 base W O op sc sm a N q b l2 (gd (g_99 (sc' 39 10) 2 sc') _) _
    rw [i3.1, gd_pos h99, Option.bind_some]
    have cu9 : CU T (f_99 (a' : Int) 2 sc') a' := by unfold CU at *; rw [k99 39 (by decide)]; exact i3
    by_cases tc : T.tk a' = 41
    · have z3 := hT.lt hz' (by rw [tc]; decide)
      have f9 := (c99 i1 hT z3 2).2
      rw [f9] at cu9 ⊢
      have cc9 : CC T (ax_u2 sc' 45 a' 2) := i1.row (by simp [ax_u2]) (u2_row _ _ _ (by decide)) (u2_row _ _ _ (by decide)) (u2_row _ _ _ (by decide)) (by simp [ax_u2]) (u2_row _ _ _ (by decide))
      rw [c92y hT cc9 cu9 tc (by decide)]
      rcases r4 with ⟨F', G', y1, y2, y3, y4, y5⟩ | ⟨y1, _⟩
      · obtain ⟨mU, u0', u1, u2, u3, u4⟩ := RC.use hT r3 (by rw [show W + q + 1 - 1 = W + q by omega, w129]; decide) (by omega) G' (by omega)
        have rS : ∀ c, c ≠ 39 → c ≠ 45 → c ≠ 66 → (ax_u2 (ax_u2 (ax_u2 (cur T (ax_u2 sc' 45 a' 2) (a' + 1)) 66 9 (a : Int)) 66 11 (a : Int)) 66 12 (a' : Int)) c = sc' c := fun c x y w => by rw [u2_row _ _ _ w, u2_row _ _ _ w, u2_row _ _ _ w, cur_row x]; exact u2_row _ _ _ y
        have s39 : (ax_u2 (ax_u2 (ax_u2 (cur T (ax_u2 sc' 45 a' 2) (a' + 1)) 66 9 (a : Int)) 66 11 (a : Int)) 66 12 (a' : Int)) 39 = (cur T (ax_u2 sc' 45 a' 2) (a' + 1)) 39 := by rw [u2_row _ _ _ (by decide), u2_row _ _ _ (by decide), u2_row _ _ _ (by decide)]
        have s45 : (ax_u2 (ax_u2 (ax_u2 (cur T (ax_u2 sc' 45 a' 2) (a' + 1)) 66 9 (a : Int)) 66 11 (a : Int)) 66 12 (a' : Int)) 45 = (ax_u2 sc' 45 a' 2) 45 := by rw [u2_row _ _ _ (by decide), u2_row _ _ _ (by decide), u2_row _ _ _ (by decide), cur_row (by decide)]
        have s66 : ∀ j, j ≠ 9 → j ≠ 11 → j ≠ 12 → (ax_u2 (ax_u2 (ax_u2 (cur T (ax_u2 sc' 45 a' 2) (a' + 1)) 66 9 (a : Int)) 66 11 (a : Int)) 66 12 (a' : Int)) 66 j = sc' 66 j := fun j x y w => by rw [u2_col _ _ _ w, u2_col _ _ _ y, u2_col _ _ _ x, cur_row (by decide)]; simp [ax_u2]
        have rU : ∀ c, c ≠ 91 → c ≠ 84 → c ≠ 127 → c ≠ 128 → c ≠ 132 → (ax_u2 (ax_u2 (ax_u2 (ax_u2 (ax_u2 (adv mU (a' + 1)) 132 a (a' : Int)) 84 63 ((W + q : Nat) : Int)) 84 67 (op : Int)) 127 (O + b) (a : Int)) 128 (O + b) (a : Int)) c = sm' c := fun c x y w v t => by rw [u2_row _ _ _ v, u2_row _ _ _ w, u2_row _ _ _ y, u2_row _ _ _ y, u2_row _ _ _ t, adv_row y]; exact u4 c x
        have cU : ∀ j, j ≠ 18 → j ≠ 63 → j ≠ 67 → (ax_u2 (ax_u2 (ax_u2 (ax_u2 (ax_u2 (adv mU (a' + 1)) 132 a (a' : Int)) 84 63 ((W + q : Nat) : Int)) 84 67 (op : Int)) 127 (O + b) (a : Int)) 128 (O + b) (a : Int)) 84 j = sm' 84 j := fun j x y w => by rw [u2_row _ _ _ (by decide), u2_row _ _ _ (by decide), u2_col _ _ _ w, u2_col _ _ _ y, u2_row _ _ _ (by decide), adv_col x, u4 84 (by decide)]
        have r91 : (ax_u2 (ax_u2 (ax_u2 (ax_u2 (ax_u2 (adv mU (a' + 1)) 132 a (a' : Int)) 84 63 ((W + q : Nat) : Int)) 84 67 (op : Int)) 127 (O + b) (a : Int)) 128 (O + b) (a : Int)) 91 = mU 91 := by rw [u2_row _ _ _ (by decide), u2_row _ _ _ (by decide), u2_row _ _ _ (by decide), u2_row _ _ _ (by decide), u2_row _ _ _ (by decide), adv_row (by decide)]
        have r127 : (ax_u2 (ax_u2 (ax_u2 (ax_u2 (ax_u2 (adv mU (a' + 1)) 132 a (a' : Int)) 84 63 ((W + q : Nat) : Int)) 84 67 (op : Int)) 127 (O + b) (a : Int)) 128 (O + b) (a : Int)) 127 (O + b) = (a : Int) := by rw [u2_row _ _ _ (by decide)]; exact u2_same _ _ _ _
        have r128 : (ax_u2 (ax_u2 (ax_u2 (ax_u2 (ax_u2 (adv mU (a' + 1)) 132 a (a' : Int)) 84 63 ((W + q : Nat) : Int)) 84 67 (op : Int)) 127 (O + b) (a : Int)) 128 (O + b) (a : Int)) 128 (O + b) = (a : Int) := u2_same _ _ _ _
        have r132 : (ax_u2 (ax_u2 (ax_u2 (ax_u2 (ax_u2 (adv mU (a' + 1)) 132 a (a' : Int)) 84 63 ((W + q : Nat) : Int)) 84 67 (op : Int)) 127 (O + b) (a : Int)) 128 (O + b) (a : Int)) 132 a = (a' : Int) := by rw [u2_row _ _ _ (by decide), u2_row _ _ _ (by decide), u2_row _ _ _ (by decide), u2_row _ _ _ (by decide)]; exact u2_same _ _ _ _
        obtain ⟨m1, m2, m3, m4, m5⟩ := NEST.mid (a2 := a' + 1) (sB := (ax_u2 (ax_u2 (ax_u2 (cur T (ax_u2 sc' 45 a' 2) (a' + 1)) 66 9 (a : Int)) 66 11 (a : Int)) 66 12 (a' : Int))) (mB := (ax_u2 (ax_u2 (ax_u2 (ax_u2 (ax_u2 (adv mU (a' + 1)) 132 a (a' : Int)) 84 63 ((W + q : Nat) : Int)) 84 67 (op : Int)) 127 (O + b) (a : Int)) 128 (O + b) (a : Int))) xx ecx emx (by omega) r3 (by omega) (fun c x _ y w => rS c x y w) (fun j x y => by rw [s39, cur_col x y]; simp [ax_u2]) (fun j _ => by rw [rS 30 (by decide) (by decide) (by decide)]) (fun k x => by rw [s45]; exact u2_col _ _ _ (by omega)) (fun c x => rU c (by omega) (by omega) (by omega) (by omega) (by omega)) (fun k x => ⟨by rw [r91]; exact u3 k (by omega), by rw [rU 92 (by decide) (by decide) (by decide) (by decide) (by decide)]⟩) (fun c i x y w => by
          have : c = 126 ∨ c = 127 ∨ c = 128 := by omega
          rcases this with rfl | rfl | rfl
          · rw [rU 126 (by decide) (by decide) (by decide) (by decide) (by decide)]
          · rw [u2_row _ _ _ (by decide), u2_col _ _ _ (by omega), u2_row _ _ _ (by decide), u2_row _ _ _ (by decide), u2_row _ _ _ (by decide), adv_row (by decide), u4 127 (by decide)]
          · rw [u2_col _ _ _ (by omega), u2_row _ _ _ (by decide), u2_row _ _ _ (by decide), u2_row _ _ _ (by decide), u2_row _ _ _ (by decide), adv_row (by decide), u4 128 (by decide)]) (fun c i x y _ => by rw [rU c (by omega) (by omega) (by omega) (by omega) (by omega)]) (fun k x => by rw [u2_row _ _ _ (by decide), u2_row _ _ _ (by decide), u2_row _ _ _ (by decide), u2_row _ _ _ (by decide), u2_col _ _ _ (by omega), adv_row (by decide), u4 132 (by decide)]) cU
        have cuB : CU T (ax_u2 (ax_u2 (ax_u2 (cur T (ax_u2 sc' 45 a' 2) (a' + 1)) 66 9 (a : Int)) 66 11 (a : Int)) 66 12 (a' : Int)) (a' + 1) := by
          have := cur_cu (T := T) (s := ax_u2 sc' 45 a' 2) (a := a' + 1) (by omega)
          unfold CU at *
          rw [s39]
          exact this
        have lw : (cur T (ax_u2 sc 45 a 2) (a + 1)) 37 = sc0 37 := by rw [rC 37 (by decide) (by decide), e14.1 37 (by omega)]
        have c3 : CN (cur T (ax_u2 sc 45 a 2) (a + 1)) ↔ CN sc := by unfold CN; rw [rC 30 (by decide) (by decide)]
        have c4 : CN (ax_u2 (ax_u2 (ax_u2 (cur T (ax_u2 sc' 45 a' 2) (a' + 1)) 66 9 (a : Int)) 66 11 (a : Int)) 66 12 (a' : Int)) ↔ CN sc' := by unfold CN; rw [rS 30 (by decide) (by decide) (by decide)]
        have old : ∀ n, NOK T (sc0 37) (ax_u2 (ax_u2 (ax_u2 (ax_u2 (ax_u2 (adv mU (a' + 1)) 132 a (a' : Int)) 84 63 ((W + q : Nat) : Int)) 84 67 (op : Int)) 127 (O + b) (a : Int)) 128 (O + b) (a : Int)) n ↔ NOK T (sc0 37) sm' n := fun n => NOK.congr (fun c x y => by rw [rU c (by omega) (by omega) (by omega) (by omega) (by omega)])
        refine Or.inl ⟨(ax_u2 (ax_u2 (ax_u2 (cur T (ax_u2 sc' 45 a' 2) (a' + 1)) 66 9 (a : Int)) 66 11 (a : Int)) 66 12 (a' : Int)), (ax_u2 (ax_u2 (ax_u2 (cur T (ax_u2 sc' 45 a' 2) (a' + 1)) 66 9 (a : Int)) 66 11 (a : Int)) 66 12 (a' : Int)), (ax_u2 (ax_u2 (ax_u2 (ax_u2 (ax_u2 (adv mU (a' + 1)) 132 a (a' : Int)) 84 63 ((W + q : Nat) : Int)) 84 67 (op : Int)) 127 (O + b) (a : Int)) 128 (O + b) (a : Int)), a' + 1, N', K', F', rfl, hide_n hT (m2.cc e1) (by omega) (by rw [t1]; decide), ?_, by omega, by omega, ⟨h.1.gen (m1.mono e22 (Nat.le_refl _) e21 e20 (by omega) (by omega) (by omega)) m2 m3 cuB ?_ ?_ m4 ?_ ?_ ?_ ?_ m5 (by omega) (by omega) (by omega), ?_, ?_, ⟨o1, ?_, ⟨a, r127, Nat.le_refl _, by omega⟩, ?_, ?_, ?_⟩, ?_, by omega, by rw [show a' + 1 - 1 = a' by omega, tc]; decide, ?_⟩⟩
        · rw [y1]
          unfold RC
          rw [u0']
          unfold j_270_85
          rw [if_pos (by omega), hwm, gd_pos (by omega), u1, Option.bind_some, gd_pos (by omega), Int.toNat_natCast, u4 129 (by decide), w129, w130, if_pos (by decide)]
          rw [takeY (i2.row (by rw [u4 84 (by decide)]) (u4 88 (by decide))) hT (by rw [u4 84 (by decide)]; exact i5) (by rw [u4 84 (by decide)]; exact i4) hz' (k := 41) (by decide) tc, Option.bind_some]
          dsimp only
          have e59 : ax_w32 ((adv mU (a' + 1)) 84 59 - 1) = ((O + b : Nat) : Int) := by rw [adv_col (by decide), u4 84 (by decide), r3.2.1, w32_id (by omega) (by omega)]; omega
          have e63 : ax_w32 ((adv mU (a' + 1)) 84 63 - 1) = ((W + q : Nat) : Int) := by rw [adv_col (by decide), u4 84 (by decide)]; exact hwm
          have e67 : ax_w32 ((adv mU (a' + 1)) 84 67 - 1) = (op : Int) := by rw [adv_col (by decide), u4 84 (by decide), i9, w32_id (by omega) (by omega)]; omega
          rw [gd_pos (by omega), e59, gd_pos (by omega), gd_pos (by omega), e63, e67, Int.toNat_natCast, Int.toNat_natCast, Option.bind_some]
          dsimp only
          rw [if_pos (by decide), if_pos (by decide)]
          exact go_25 FU1 (by rw [cU 6 (by decide) (by decide) (by decide)]; exact i5)
        · rw [u2_row _ _ _ (by decide), u2_row _ _ _ (by decide), u2_col _ _ _ (by decide), u2_col _ _ _ (by decide), u2_row _ _ _ (by decide)]; exact adv_at
        · rw [cU 6 (by decide) (by decide) (by decide)]; exact i5
        · rw [s66 7 (by decide) (by decide) (by decide)]; exact i7
        · rw [u2_row _ _ _ (by decide), u2_row _ _ _ (by decide), u2_col _ _ _ (by decide)]; exact u2_same _ _ _ _
        · rw [u2_row _ _ _ (by decide), u2_row _ _ _ (by decide)]; exact u2_same _ _ _ _
        · rw [c4, i16, c3, lw]
          exact ⟨fun y => ⟨y.1, fun n z1 z2 => (old n).mpr (y.2 n z1 z2)⟩, fun y => ⟨y.1, fun n z1 z2 => (old n).mp (y.2 n z1 z2)⟩⟩
        · rw [cU 59 (by decide) (by decide) (by decide)]; exact r3.2.1
        · exact STK.monoK (by omega) _ _ _ _ (STK.xf (m2.1 37 (by omega)) (m3.1 93 (by omega)) _ _ _ _ hS m1)
        · rw [rU 126 (by decide) (by decide) (by decide) (by decide) (by decide)]; exact o2
        · rw [rS 52 (by decide) (by decide) (by decide)]; exact o6
        · have ka : ∀ k, k < a + 1 → sc' 45 k = (ax_u2 sc 45 a 2) 45 k ∧ mU 91 k = sm 91 k ∧ mU 92 k = sm 92 k ∧ mU 93 k = sm 93 k := fun k hk => ⟨by rw [(i13.1 k (Or.inl hk)).1, cur_row (by decide)], by rw [u3 k (Or.inl hk), (i13.1 k (Or.inl hk)).2.1, p7 91 (by decide) (by decide), rA 91 (by decide)], by rw [u4 92 (by decide), (i13.1 k (Or.inl hk)).2.2, p7 92 (by decide) (by decide), rA 92 (by decide)], by rw [u4 93 (by decide), i15.1 93 (by omega), p7 93 (by decide) (by decide), rA 93 (by decide)]⟩
          have fa := e12 a (Nat.le_refl _) hz
          have fc := i12 a' (Nat.le_refl _) z3
          refine Or.inr ⟨a, a', r128, r132, Nat.le_refl _, by omega, by omega, ?_, ?_, ?_⟩
          · obtain ⟨x1, x2, x3, x4⟩ := ka a (by omega)
            refine ⟨by rw [s45, u2_col _ _ _ (by omega), x1]; exact u2_same _ _ _ _, by rw [r91, x2]; exact fa.2.1, ?_, ?_, Or.inl ⟨t1, hA, fun e => ?_⟩⟩
            · rw [rU 92 (by decide) (by decide) (by decide) (by decide) (by decide), ← u4 92 (by decide), x3, fa.2.2.1, if_neg (by rw [t1]; decide)]
            · rw [rU 93 (by decide) (by decide) (by decide) (by decide) (by decide), ← u4 93 (by decide), x4]; exact fa.2.2.2
            · rw [e] at rS'; exact absurd rS' (by decide)
          · refine ⟨by rw [s45]; exact u2_same _ _ _ _, by rw [r91, u3 a' (Or.inr (Nat.le_refl _))]; exact fc.2.1, ?_, ?_, Or.inr ⟨tc, fun e => ?_⟩⟩
            · rw [rU 92 (by decide) (by decide) (by decide) (by decide) (by decide), fc.2.2.1, if_neg (by rw [tc]; decide)]
            · rw [rU 93 (by decide) (by decide) (by decide) (by decide) (by decide)]; exact fc.2.2.2
            · rw [e] at hB'; exact absurd hB' (by decide)
          · intro k x1 x2 x3 x4
            exact (u2 k (by omega) (by omega)).congr (by rw [s45]; exact u2_col _ _ _ x4) (by rw [r91]) (by rw [rU 92 (by decide) (by decide) (by decide) (by decide) (by decide), u4 92 (by decide)]) (by rw [rU 93 (by decide) (by decide) (by decide) (by decide) (by decide), u4 93 (by decide)])
        · have s0 := SEG.tok T (ax_u2 (ax_u2 (ax_u2 (cur T (ax_u2 sc' 45 a' 2) (a' + 1)) 66 9 (a : Int)) 66 11 (a : Int)) 66 12 (a' : Int)) (ax_u2 (ax_u2 (ax_u2 (ax_u2 (ax_u2 (adv mU (a' + 1)) 132 a (a' : Int)) 84 63 ((W + q : Nat) : Int)) 84 67 (op : Int)) 127 (O + b) (a : Int)) 128 (O + b) (a : Int)) sn rp K' a N (Or.inl ⟨hA, by rw [t1]; decide⟩) (fun y => by rw [t1] at y; exact absurd y.1 (by decide))
          have s2 : SEG T (ax_u2 (ax_u2 (ax_u2 (cur T (ax_u2 sc' 45 a' 2) (a' + 1)) 66 9 (a : Int)) 66 11 (a : Int)) 66 12 (a' : Int)) (ax_u2 (ax_u2 (ax_u2 (ax_u2 (ax_u2 (adv mU (a' + 1)) 132 a (a' : Int)) 84 63 ((W + q : Nat) : Int)) 84 67 (op : Int)) 127 (O + b) (a : Int)) 128 (O + b) (a : Int)) sn rp K' (a + 1) a' N N' := o8.congr (fun c n x y _ _ => by rw [rU c (by omega) (by omega) (by omega) (by omega) (by omega)]) (fun n _ _ => by rw [rS 48 (by decide) (by decide) (by decide)]) (rS 37 (by decide) (by decide) (by decide)) (fun j _ => by rw [rU 125 (by decide) (by decide) (by decide) (by decide) (by decide)]) (Nat.le_refl _)
          have s3 := SEG.tok T (ax_u2 (ax_u2 (ax_u2 (cur T (ax_u2 sc' 45 a' 2) (a' + 1)) 66 9 (a : Int)) 66 11 (a : Int)) 66 12 (a' : Int)) (ax_u2 (ax_u2 (ax_u2 (ax_u2 (ax_u2 (adv mU (a' + 1)) 132 a (a' : Int)) 84 63 ((W + q : Nat) : Int)) 84 67 (op : Int)) 127 (O + b) (a : Int)) 128 (O + b) (a : Int)) sn rp K' a' N' (Or.inr (Or.inl ⟨hB', by rw [tc]; decide⟩)) (fun y => by rw [tc] at y; exact absurd y.1 (by decide))
          exact (s0.merge s2).merge s3
        · refine ⟨by rw [s66 8 (by decide) (by decide) (by decide)]; exact t1', ?_, by rw [s66 10 (by decide) (by decide) (by decide), t3', rU 116 (by decide) (by decide) (by decide) (by decide) (by decide)], ?_, fun e => ?_, fun p e => ?_⟩
          · rw [r127, u2_col _ _ _ (by decide), u2_col _ _ _ (by decide)]; exact u2_same _ _ _ _
          · rw [r128, u2_col _ _ _ (by decide)]; exact u2_same _ _ _ _
          · rw [r128] at e; omega
          · rw [r128] at e
            have : p = a := by omega
            rw [this, r132]
            exact u2_same _ _ _ _
        · rw [cU 70 (by decide) (by decide) (by decide)]; exact r3.2.2.2.2.2.2.2
      · rw [tc] at y1; omega
    · rw [c92n cu9 tc]
      have ef9 : EFc sc' (f_99 (a' : Int) 2 sc') := ⟨fun c x => k99 c (by omega), fun j _ _ => by rw [k99 39 (by decide)], fun j _ => by rw [k99 30 (by decide)]⟩
      refine Or.inr ⟨15, f_99 (a' : Int) 2 sc', ?_⟩
      rcases r4 with ⟨F', G', y1, y2, y3, y4, y5⟩ | ⟨_, mF, y2, y3⟩
      · obtain ⟨mU, u0', u1, u2, u3, u4⟩ := RC.use hT r3 (by rw [show W + q + 1 - 1 = W + q by omega, w129]; decide) (by omega) G' (by omega)
        have e59 : ax_w32 ((tel mU 2 a') 84 59 - 1) = ((O + b : Nat) : Int) := by rw [tel_col (by decide) (by decide), u4 84 (by decide), r3.2.1, w32_id (by omega) (by omega)]; omega
        have e63 : ax_w32 ((tel mU 2 a') 84 63 - 1) = ((W + q : Nat) : Int) := by rw [tel_col (by decide) (by decide), u4 84 (by decide)]; exact hwm
        have e67 : ax_w32 ((tel mU 2 a') 84 67 - 1) = (op : Int) := by rw [tel_col (by decide) (by decide), u4 84 (by decide), i9, w32_id (by omega) (by omega)]; omega
        have mf : 0 < (ax_u2 (ax_u2 (ax_u2 (ax_u2 (ax_u2 (tel mU 2 a') 132 a 0) 84 63 ((W + q : Nat) : Int)) 84 67 (op : Int)) 127 (O + b) (a : Int)) 128 (O + b) (a : Int)) 84 6 := by
          rw [u2_row _ _ _ (by decide), u2_row _ _ _ (by decide), u2_col _ _ _ (by decide), u2_col _ _ _ (by decide), u2_row _ _ _ (by decide), tel_at]
          decide
        refine ⟨_, rfl, Or.inr rfl, ⟨(ecx.trans i14).trans ef9, a', cu9⟩, ?_, ?_, mf⟩
        · rw [y1]
          unfold RC
          rw [u0']
          unfold j_270_85
          rw [if_pos (by omega), hwm, gd_pos (by omega), u1, Option.bind_some, gd_pos (by omega), Int.toNat_natCast, u4 129 (by decide), w129, w130, if_pos (by decide)]
          rw [takeN (i2.row (by rw [u4 84 (by decide)]) (u4 88 (by decide))) hT (by rw [u4 84 (by decide)]; exact i5) (by rw [u4 84 (by decide)]; exact i4) hz' (k := 41) (by decide) (by decide) tc, Option.bind_some]
          dsimp only
          rw [gd_pos (by omega), e59, gd_pos (by omega), gd_pos (by omega), e63, e67, Int.toNat_natCast, Int.toNat_natCast, Option.bind_some]
          exact flt_105 (by omega) FU1 mf
        · refine (emx.trans i15).trans ⟨fun c x => ?_, fun j x => ?_⟩
          · rw [u2_row _ _ _ (by omega), u2_row _ _ _ (by omega), u2_row _ _ _ (by omega), u2_row _ _ _ (by omega), u2_row _ _ _ (by omega), tel_row (by omega)]
            exact u4 c (by omega)
          · rw [u2_row _ _ _ (by decide), u2_row _ _ _ (by decide), u2_col _ _ _ (by omega), u2_col _ _ _ (by omega), u2_row _ _ _ (by decide), tel_col (by omega) (by omega), u4 84 (by decide)]
      · exact ⟨mF, rfl, Or.inr rfl, ⟨(ecx.trans i14).trans ef9, a', cu9⟩, y2, emx.trans y3.1, y3.2⟩
  · rw [r1]
    exact Or.inr ⟨x, sc', mF, rfl, r2, ⟨ecx.trans r3.1, r3.2⟩, r4, emx.trans r5.1, r5.2⟩
end GR
