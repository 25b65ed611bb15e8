/-! CHOICES. -/
section CH
variable {T : TT} {sc0 sm0 sc sm sc1 sm1 sc' sm' sB mB s : Sg} {sn rp l2 w k : Int} {a0 N0 K0 base W O op a a1 a' a2 N N1 N' K K1 K' q b o nl ll : Nat}
/-- the reference, at a question mark behind an expression -/
noncomputable def RQ (l2 : Int) (F : Nat) (sm : Sg) : Option (Int × Sg) := ((f_265 (ax_w32 ((sm 84 59) - 1)) 1 sm).bind fun q4 => (gd (0 ≤ q4 84 18 ∧ q4 84 18 < 8200) (gd (g_262 6 (q4 84 18) (ax_u2 q4 92 ((q4 84 18).toNat) 1)) ((some (f_262 6 (q4 84 18) (ax_u2 q4 92 ((q4 84 18).toNat) 1))).bind fun q5 => some ((1 : Int), (ax_u2 q5 84 18 (ax_w32 ((q5 84 18) + 1)))))))).bind fun q1 => j_257_105 (j_257_25 F) FU l2 ((if ¬ q1.1 = 1 then 0 else 1) : Int) ((if ¬ q1.1 = 2 then 0 else 1) : Int) q1.2
theorem choice_sim {ex : Int → Sg → Option (Sum Sg (Nat × Sg))} {d : Nat} (hT : TWF T) (h : P2 T sc0 sm0 sn rp a0 N0 K0 base W O op sc sm a N K 0 0 N0 a0) (ha0 : a0 < a) (hS0 : T.tk a0 ∈ opS) (t1 : T.tk a = 63) (hd8 : d < 80) (hop : op ≤ 80)
    (IH : ∀ (sc1 sm1 : Sg) (a1 N1 K1 base1 W1 O1 F : Nat), EPRE T sc1 sm1 sn rp a1 N1 K1 base1 W1 O1 (op + 1) → T.z + 2 ≤ F + a1 → EOUT T sc1 sm1 sn rp a1 N1 K1 base1 W1 O1 (op + 1) l2 (ex ((d + 1 : Nat) : Int) sc1) (j_257_25 F l2 1 0 sm1))
    (F : Nat) (hF : T.z + 1 ≤ F + a) :
    EOUT T sc0 sm0 sn rp a0 N0 K0 base W O op l2 (xb (f_60 ex (d : Int) sc) fun q1 => some (.inl q1)) (RQ l2 F sm) := by
  obtain ⟨hE, h59, hS, hO, hTop, hK, hB, h70⟩ := id h
  obtain ⟨e1, e2, e3, e4, e5, e6, e7, e8, e9, e10, e11, e12, e13, e14, e15, e16, e17, e18, e19, e20, e21, e22, e23⟩ := id hE
  obtain ⟨tp1, tp2, tp3, tp4, tp5, tp6⟩ := hTop
  obtain ⟨o1, o2, ⟨st, o3, o4, o5⟩, o6, o7, o8⟩ := id hO
  have bs := o8.2.2.1
  have h8 := hT.1
  have hz := hT.lt e3.2.2 (by rw [t1]; decide)
  obtain ⟨cx, qx, nx1, nx2, nx3, nx4, nx5, nr6, nr7, _⟩ := e6.2.2.2 (N - 1) (by omega)
  have wd : ax_w32 ((d : Int) + 1) = ((d + 1 : Nat) : Int) := w32_nat (by omega)
  have hom : ax_w32 (sm 84 59 - 1) = ((O + 0 : Nat) : Int) := by rw [h59, w32_id (by omega) (by omega)]; omega
  -- brackets round the first one
  obtain ⟨sW, w1, w2, w3, w4⟩ := want_c (w := 1) e1 o7 e3.2.2 h8 (L := lev (sm 116 (N - 1))) tp3 tp4 tp5 tp6
  obtain ⟨mU, u1, u2, u3, u4⟩ := use_m (T := T) (sc := sW) (sm := sm) (o := O + 0) (l0 := a0) (l1 := a) (w := 1) (n := N - 1) w2 (by rw [o2]; omega) nr6 nr7 (by omega) (by omega) (by omega)
  have xW : XF sc sm sW mU a0 a N K base W (O + 1) := ⟨fun k x => ⟨w3 k x, u3 k x, by rw [u4 92 (by decide)]⟩, fun c n x y _ => by rw [w4 c (by omega)], fun c n x y _ => by rw [u4 c (by omega)], fun j _ => by rw [u4 125 (by decide)], fun c n x y _ => by rw [w4 c (by omega)], fun c n x y _ => by rw [u4 c (by omega)], fun c n x y _ => by rw [u4 c (by omega)], fun k _ => by rw [u4 132 (by decide)]⟩
  have ecW : EFc sc sW := ⟨fun c x => w4 c (by omega), fun j _ _ => by rw [w4 39 (by decide)], fun j _ => by rw [w4 30 (by decide)]⟩
  have emU : EFm sm mU := ⟨fun c x => u4 c (by omega), fun j _ => by rw [u4 84 (by decide)]⟩
  have ndW : ND T sW mU N K := e6.congr (by rw [w4 46 (by decide)]) (by rw [u4 84 (by decide)]) (by rw [u4 84 (by decide)]) (fun c n x y _ => by rw [w4 c (by omega)]) (fun c n x y _ => by rw [u4 c (by omega)]) (fun j _ => by rw [u4 125 (by decide)])
  have cuW : CU T sW a := by unfold CU at *; rw [w4 39 (by decide)]; exact e3
  have EW : EI T sc0 sm0 sn rp a0 N0 K0 base W O op sW mU a N K 0 := hE.gen (xW.mono (Nat.le_refl _) (Nat.le_refl _) e21 e20 (Nat.le_refl _) (Nat.le_refl _) (by omega)) ecW emU cuW (by rw [u4 84 (by decide)]; exact e4) (by rw [u4 84 (by decide)]; exact e5) ndW (by rw [w4 66 (by decide)]; exact e7) (by rw [u4 84 (by decide)]; exact e8) (by rw [u4 84 (by decide)]; exact e9) (by
    have : CN sW ↔ CN sc := by unfold CN; rw [w4 30 (by decide)]
    rw [this]
    exact ⟨fun y => ⟨y, fun n y1 y2 => absurd y2 (by omega)⟩, fun y => y.1⟩) (fun c n x y _ => by rw [u4 c (by omega)]) (Nat.le_refl _) (Nat.le_refl _) (Nat.le_refl _)
  have c9 := c99 (ecW.cc e1) hT hz 1
  have ccs : CC T (ax_u2 sW 45 a 1) := (ecW.cc e1).row (by simp [ax_u2]) (u2_row _ _ _ (by decide)) (u2_row _ _ _ (by decide)) (u2_row _ _ _ (by decide)) (by simp [ax_u2]) (u2_row _ _ _ (by decide))
  have cus : CU T (ax_u2 sW 45 a 1) a := by unfold CU at *; rw [u2_row _ _ _ (by decide)]; exact cuW
  have cu1 : CU T (cur T (ax_u2 sW 45 a 1) (a + 1)) (a + 1) := cur_cu (by omega)
  have rC : ∀ c, c ≠ 39 → c ≠ 45 → (cur T (ax_u2 sW 45 a 1) (a + 1)) c = sW c := fun c x y => by rw [cur_row x]; exact u2_row _ _ _ y
  have c45 : (cur T (ax_u2 sW 45 a 1) (a + 1)) 45 = (ax_u2 sW 45 a 1) 45 := cur_row (by decide)
  -- the reference opens
  have mU18 : mU 84 18 = (a : Int) := by rw [u4 84 (by decide)]; exact e4
  obtain ⟨p1, p2, p3, p4, p5, p6, p7, p8, p9⟩ := open_m (s := ax_u2 mU 92 a 1) (W := W) (o := O + 1) (op := op) (w := 6) (x := (a : Int)) (by rw [u2_row _ _ _ (by decide), u4 84 (by decide)]; exact e8) (by rw [u2_row _ _ _ (by decide), u4 84 (by decide)]; exact h59) (by rw [u2_row _ _ _ (by decide), u4 84 (by decide)]; exact e9) (by omega) (by omega) (by decide) (by decide)
  obtain ⟨sm1, hsm1⟩ : ∃ sm1 : Sg, sm1 = ax_u2 (f_262 6 (a : Int) (ax_u2 mU 92 a 1)) 84 18 ((a + 1 : Nat) : Int) := ⟨_, rfl⟩
  have r1 : ∀ c, ¬ (c = 84 ∨ c = 92 ∨ 129 ≤ c ∧ c ≤ 131) → sm1 c = mU c := fun c x => by rw [hsm1, u2_row _ _ _ (by omega), p7 c (by omega) (by omega)]; exact u2_row _ _ _ (by omega)
  have c1 : ∀ j, j ≠ 18 → j ≠ 63 → j ≠ 67 → sm1 84 j = mU 84 j := fun j x y z => by rw [hsm1, u2_col _ _ _ x, p9 j y z]; simp [ax_u2]
  have i1 : ∀ c i, 129 ≤ c → c ≤ 131 → i ≠ W → sm1 c i = mU c i := fun c i x y z => by rw [hsm1, u2_row _ _ _ (by omega), p8 c i (by omega) z]; simp [ax_u2, show c ≠ 92 by omega]
  have s92 : ∀ k, sm1 92 k = (ax_u2 mU 92 a 1) 92 k := fun k => by rw [hsm1, u2_row _ _ _ (by decide), p7 92 (by decide) (by decide)]
  have b129 : sm1 129 W = 106 := by rw [hsm1, u2_row _ _ _ (by decide), p2]; rfl
  have b130 : sm1 130 W = (a : Int) := by rw [hsm1, u2_row _ _ _ (by decide), p3]
  have sm1f : sm1 84 6 = 0 := by rw [c1 6 (by decide) (by decide) (by decide), u4 84 (by decide)]; exact e5
  have sm170 : sm1 84 70 = 0 := by rw [c1 70 (by decide) (by decide) (by decide), u4 84 (by decide)]; exact h70
  have hRQ : RQ l2 F sm = j_257_25 F l2 1 0 sm1 := by
    unfold RQ
    rw [hom, u1, Option.bind_some, mU18, gd_pos (by omega), Int.toNat_natCast, gd_pos p1, Option.bind_some, Option.bind_some]
    dsimp only
    rw [show (f_262 6 (a : Int) (ax_u2 mU 92 a 1)) 84 18 = (a : Int) by rw [p9 18 (by decide) (by decide)]; simpa [ax_u2] using mU18, w32_nat (by omega), ← hsm1, if_neg (by decide), if_pos (by decide)]
    exact go_25s FU1 sm1f sm170
  obtain ⟨hP, xx, ecx, emx⟩ := NEST.pre (o := O + 1) (a1 := a + 1) (sc1 := cur T (ax_u2 sW 45 a 1) (a + 1)) (sm1 := sm1) hT EW (by rw [u4 84 (by decide)]; exact h59) (by omega) (by omega) (by omega) (by omega) (by omega) rC (fun j x y => by rw [cur_col x y]; simp [ax_u2]) (fun k x => by rw [c45]; exact u2_col _ _ _ (by omega)) cu1 (fun c x => r1 c (by omega)) (fun k x => ⟨by rw [r1 91 (by omega)], by rw [s92]; exact u2_col _ _ _ (by omega)⟩) (fun c i x y z => i1 c i x y z) (by rw [show W + 0 = W from rfl, b129]; decide) (fun j x y z _ => c1 j x y z) (by rw [hsm1]; exact u2_same _ _ _ _) (by rw [hsm1, u2_col _ _ _ (by decide)]; exact p5) (by rw [hsm1, u2_col _ _ _ (by decide)]; exact p6) (by rw [show a + 1 - 1 = a by omega, t1]; decide)
  have sW8 : sW 66 8 = (N : Int) - 1 := by rw [w4 66 (by decide)]; exact tp1
  have sW9 : sW 66 9 = (st : Int) := by rw [w4 66 (by decide), tp2]; exact o3
  have cls : f_60 ex (d : Int) sc = xb (ex ((d + 1 : Nat) : Int) (cur T (ax_u2 sW 45 a 1) (a + 1))) fun q4 => (gd (g_99 (q4 39 10) 1 q4) ((some (f_99 (q4 39 10) 1 q4)).bind fun q5 => (xb (f_92 58 q5) fun q6 => (xb (ex ((d + 1 : Nat) : Int) q6) fun q7 => (gd (g_126 ((N : Int) - 1) (q4 66 8) q7) ((some (f_126 ((N : Int) - 1) (q4 66 8) q7)).bind fun q8 => (gd (g_126 (q4 66 8) (q8 66 8) q8) ((some (f_126 (q4 66 8) (q8 66 8) q8)).bind fun q9 => (gd (g_124 21 (st : Int) ((N : Int) - 1) 3 q9) ((some (f_124 21 (st : Int) ((N : Int) - 1) 3 q9)).bind fun q10 => ((some (f_64 q10.1 (st : Int) 0 q10.2)).bind fun q11 => some (.inl q11)))))))))))) := by
    unfold f_60
    rw [w1, Option.bind_some, show sW 39 10 = (a : Int) from cuW.1, gd_pos c9.1, c9.2, Option.bind_some, c92y hT ccs cus t1 (by decide), wd, sW8, sW9]
    rfl
  rw [hRQ, cls]
  have efc0 : EFc sc0 (cur T (ax_u2 sW 45 a 1) (a + 1)) := (e14.trans ecW).trans ecx
  have efm0 : EFm sm0 sm1 := (e15.trans emU).trans emx
  rcases IH _ _ _ _ _ _ _ _ F hP (by omega) with ⟨sc2, sm2, a2, N2, K2, r1', r2, r3, rS', r4⟩ | ⟨x, sc2, mF, r1', r2, r3, r4, r5⟩
  · rw [r1']
    obtain ⟨i1', i2, i3, i4, i5, i6, i7, i8, i9, i10, i11, i12, i13, i14, i15, i16, i17, i18, i19, i20, i21, i22, i23⟩ := id r3.1
    obtain ⟨v1, v2, -, v6, v7, v8⟩ := id r3.2.2.2.1
    obtain ⟨vt1, _⟩ := id r3.2.2.2.2.1
    have hz2 := i3.2.2
    have bs2 := v8.2.2.1
    have hK2 := r3.2.2.2.2.2.1
    have hB2 := r3.2.2.2.2.2.2.1
    have x129 : sm2 129 W = 106 := by rw [i13.2.2.2.2.2.2.1 129 W (by decide) (by decide) (by omega)]; exact b129
    have x130 : sm2 130 W = (a : Int) := by rw [i13.2.2.2.2.2.2.1 130 W (by decide) (by decide) (by omega)]; exact b130
    have hwm : ax_w32 (sm2 84 63 - 1) = (W : Int) := by rw [i8, w32_id (by omega) (by omega)]; omega
    obtain ⟨h99, k99, l99⟩ := c99a i1' hT hz2 1
    show EOUT T sc0 sm0 sn rp a0 N0 K0 base W O op l2 (xb (gd (g_99 (sc2 39 10) 1 sc2) _) _) _
    rw [i3.1, gd_pos h99, Option.bind_some]
    have cu9 : CU T (f_99 (a2 : Int) 1 sc2) a2 := by unfold CU at *; rw [k99 39 (by decide)]; exact i3
    have ef9 : EFc sc2 (f_99 (a2 : Int) 1 sc2) := ⟨fun c x => k99 c (by omega), fun j _ _ => by rw [k99 39 (by decide)], fun j _ => by rw [k99 30 (by decide)]⟩
    by_cases tc : T.tk a2 = 58
    · have z2 := hT.lt hz2 (by rw [tc]; decide)
      have f9 := (c99 i1' hT z2 1).2
      rw [f9] at cu9 ef9 ⊢
      have cc9 : CC T (ax_u2 sc2 45 a2 1) := ef9.cc i1'
      rw [c92y hT cc9 cu9 tc (by decide)]
      rcases r4 with ⟨F', G', y1, y2, y3, y4, y5⟩ | ⟨y1, _⟩
      · obtain ⟨mV, q0', q1, q2, q3, q4⟩ := RC.use hT r3 (by rw [show W + 0 + 1 - 1 = W by omega, x129]; decide) (by omega) G' (by omega)
        have mcV : MC T mV := i2.row (by rw [q4 84 (by decide)]) (q4 88 (by decide))
        have fV : mV 84 6 = 0 := by rw [q4 84 (by decide)]; exact i5
        have aV : mV 84 18 = (a2 : Int) := by rw [q4 84 (by decide)]; exact i4
        have rS3 : ∀ c, c ≠ 39 → c ≠ 45 → (cur T (ax_u2 sc2 45 a2 1) (a2 + 1)) c = sc2 c := fun c x y => by rw [cur_row x]; exact u2_row _ _ _ y
        have s345 : (cur T (ax_u2 sc2 45 a2 1) (a2 + 1)) 45 = (ax_u2 sc2 45 a2 1) 45 := cur_row (by decide)
        have rM3 : ∀ c, c ≠ 84 → c ≠ 91 → c ≠ 92 → c ≠ 129 → (ax_u2 (adv (ax_u2 mV 92 a2 1) (a2 + 1)) 129 W 107) c = sm2 c := fun c x y z v => by rw [u2_row _ _ _ v, adv_row x, u2_row _ _ _ z]; exact q4 c y
        have m391 : (ax_u2 (adv (ax_u2 mV 92 a2 1) (a2 + 1)) 129 W 107) 91 = mV 91 := by rw [u2_row _ _ _ (by decide), adv_row (by decide), u2_row _ _ _ (by decide)]
        have m392 : (ax_u2 (adv (ax_u2 mV 92 a2 1) (a2 + 1)) 129 W 107) 92 = (ax_u2 mV 92 a2 1) 92 := by rw [u2_row _ _ _ (by decide), adv_row (by decide)]
        have cM3 : ∀ j, j ≠ 18 → (ax_u2 (adv (ax_u2 mV 92 a2 1) (a2 + 1)) 129 W 107) 84 j = sm2 84 j := fun j x => by rw [u2_row _ _ _ (by decide), adv_col x, u2_row _ _ _ (by decide), q4 84 (by decide)]
        have m3129 : ∀ c i, 129 ≤ c → c ≤ 131 → i ≠ W → (ax_u2 (adv (ax_u2 mV 92 a2 1) (a2 + 1)) 129 W 107) c i = sm2 c i := fun c i x y z => by
          by_cases e : c = 129
          · subst e
            rw [u2_col _ _ _ z, adv_row (by decide), u2_row _ _ _ (by decide), q4 129 (by decide)]
          · rw [rM3 c (by omega) (by omega) (by omega) e]
        have ec3 : EFc sc2 (cur T (ax_u2 sc2 45 a2 1) (a2 + 1)) := ef9.trans cur_ef
        have em3 : EFm sm2 (ax_u2 (adv (ax_u2 mV 92 a2 1) (a2 + 1)) 129 W 107) := ⟨fun c x => rM3 c (by omega) (by omega) (by omega) (by omega), fun j x => cM3 j (by omega)⟩
        have nd3 : ND T (cur T (ax_u2 sc2 45 a2 1) (a2 + 1)) (ax_u2 (adv (ax_u2 mV 92 a2 1) (a2 + 1)) 129 W 107) N2 K2 := i6.congr (by rw [rS3 46 (by decide) (by decide)]) (cM3 47 (by decide)) (cM3 57 (by decide)) (fun c n x y _ => by rw [rS3 c (by omega) (by omega)]) (fun c n x y _ => by rw [rM3 c (by omega) (by omega) (by omega) (by omega)]) (fun j _ => by rw [rM3 125 (by decide) (by decide) (by decide) (by decide)])
        have P3 : EPRE T (cur T (ax_u2 sc2 45 a2 1) (a2 + 1)) (ax_u2 (adv (ax_u2 mV 92 a2 1) (a2 + 1)) 129 W 107) sn rp (a2 + 1) N2 K2 base (W + 1) (O + 2) (op + 1) := by
          refine ⟨ec3.cc i1', em3.mc i2, cur_cu (by omega), by rw [u2_row _ _ _ (by decide)]; exact adv_at, by rw [cM3 6 (by decide)]; exact i5, nd3, by rw [rS3 66 (by decide) (by decide)]; exact i7, by rw [cM3 63 (by decide)]; exact i8, by rw [cM3 59 (by decide), r3.2.1], by rw [cM3 67 (by decide)]; exact i9, by rw [cM3 68 (by decide)]; exact i10, by rw [cM3 46 (by decide)]; exact i11, ?_, Or.inr (by rw [show W + 1 - 1 = W by omega, u2_same]; decide), by omega, by omega, by omega, by omega, by rw [show a2 + 1 - 1 = a2 by omega, tc]; decide⟩
          intro k x y
          obtain ⟨f1, f2, f3, f4⟩ := i12 k (by omega) y
          exact ⟨by rw [s345, u2_col _ _ _ (by omega)]; exact f1, by rw [m391, q3 k (by omega)]; exact f2, by rw [m392, u2_col _ _ _ (by omega), q4 92 (by decide)]; exact f3, by rw [rM3 93 (by decide) (by decide) (by decide) (by decide)]; exact f4⟩
        have ref : j_257_25 F l2 1 0 sm1 = j_257_25 F' l2 1 0 (ax_u2 (adv (ax_u2 mV 92 a2 1) (a2 + 1)) 129 W 107) := by
          rw [y1]
          unfold RC
          rw [q0']
          unfold j_270_85
          have iy := is_y mcV hT aV hz2 (K := 17) (k := 58) (by decide) tc
          rw [if_pos (by omega), hwm, gd_pos (by omega), q1, Option.bind_some, gd_pos (by omega), Int.toNat_natCast, q4 129 (by decide), x129, if_neg (by decide), if_neg (by decide), if_neg (by decide), if_pos (by decide), gd_pos iy.2, iy.1, if_neg (by decide), aV, gd_pos (by omega), Int.toNat_natCast]
          unfold j_270_191
          rw [takeY (mcV.row (by simp [ax_u2]) (u2_row _ _ _ (by decide))) hT (by simpa [ax_u2] using fV) (by simpa [ax_u2] using aV) hz2 (k := 58) (by decide) tc, Option.bind_some, gd_pos (by omega), Int.toNat_natCast, Option.bind_some]
          dsimp only
          rw [if_neg (by decide), if_pos (by decide)]
          exact go_25s FU1 (by rw [cM3 6 (by decide)]; exact i5) (by rw [cM3 70 (by decide)]; exact r3.2.2.2.2.2.2.2)
        rw [ref]
        show EOUT T sc0 sm0 sn rp a0 N0 K0 base W O op l2 (xb (xb (ex ((d + 1 : Nat) : Int) (cur T (ax_u2 sc2 45 a2 1) (a2 + 1))) _) _) _
        have efc2 : EFc sc0 (cur T (ax_u2 sc2 45 a2 1) (a2 + 1)) := (efc0.trans i14).trans ec3
        have efm2 : EFm sm0 (ax_u2 (adv (ax_u2 mV 92 a2 1) (a2 + 1)) 129 W 107) := (efm0.trans i15).trans em3
        rcases IH _ _ _ _ _ _ _ _ F' P3 (by omega) with ⟨sc4, sm4, a4, N4, K4, g1, g2, g3, gS', g4⟩ | ⟨x, sc4, mF, g1, g2, g3, g4, g5⟩
        · rw [g1]
          obtain ⟨j1, j2, j3, j4, j5, j6, j7, j8, j9, j10, j11, j12, j13, j14, j15, j16, j17, j18, j19, j20, j21, j22, j23⟩ := id g3.1
          obtain ⟨z1, z2', -, z6, z7, z8⟩ := id g3.2.2.2.1
          obtain ⟨zt1, _⟩ := id g3.2.2.2.2.1
          have hz4 := j3.2.2
          have bs4 := z8.2.2.1
          have hK4 := g3.2.2.2.2.2.1
          have hB4 := g3.2.2.2.2.2.2.1
          clear wd hom hwm e4 e7 e8 e9 e10 e11 i4 i7 i9 i10 i11 mU18 x129 sm1f sm170 aV fV nx1 nx2 nx4 nx5
          have y129 : sm4 129 W = 107 := by rw [j13.2.2.2.2.2.2.1 129 W (by decide) (by decide) (by omega)]; exact u2_same _ _ _ _
          have y130 : sm4 130 W = (a : Int) := by rw [j13.2.2.2.2.2.2.1 130 W (by decide) (by decide) (by omega), rM3 130 (by decide) (by decide) (by decide) (by decide)]; exact x130
          -- brackets round the third
          obtain ⟨cx4, qx4, -, -, -, -, -, nr64, nr74, _⟩ := j6.2.2.2 (N4 - 1) (by omega)
          have hlv4 := (lev_b _ nr64 nr74).1
          obtain ⟨mY, w1', w2', w3', w4'⟩ := use_m (T := T) (sc := sc4) (sm := sm4) (o := O + 2) (l0 := a2 + 1) (l1 := a4) (w := 0) (n := N4 - 1) (by rw [if_pos hlv4]; exact z7) (z2'.trans (by omega)) nr64 nr74 (by omega) (by omega) (by omega)
          -- what stays over both
          have nk : ∀ c n, 47 ≤ c → c ≤ 53 → n < N → sc4 c n = sc c n := fun c n x y z => by rw [j13.2.1 c n x y (by omega), rS3 c (by omega) (by omega), i13.2.1 c n x y z, rC c (by omega) (by omega), w4 c (by omega)]
          have nk2 : ∀ c n, 47 ≤ c → c ≤ 53 → n < N2 → sc4 c n = sc2 c n := fun c n x y z => by rw [j13.2.1 c n x y z, rS3 c (by omega) (by omega)]
          have ok1 : sm4 126 (O + 1) = (N2 : Int) - 1 := by rw [j13.2.2.2.2.2.1 126 (O + 1) (by decide) (by decide) (by omega), rM3 126 (by decide) (by decide) (by decide) (by decide)]; exact v2
          have ok0 : sm4 126 O = (N : Int) - 1 := by rw [j13.2.2.2.2.2.1 126 O (by decide) (by decide) (by omega), rM3 126 (by decide) (by decide) (by decide) (by decide), i13.2.2.2.2.2.1 126 O (by decide) (by decide) (by omega), r1 126 (by omega), u4 126 (by decide)]; exact o2
          have os0 : sm4 127 O = (st : Int) := by rw [j13.2.2.2.2.2.1 127 O (by decide) (by decide) (by omega), rM3 127 (by decide) (by decide) (by decide) (by decide), i13.2.2.2.2.2.1 127 O (by decide) (by decide) (by omega), r1 127 (by omega), u4 127 (by decide)]; exact o3
          have nm : ∀ c n, 116 ≤ c → c ≤ 124 → n < N → sm4 c n = sm c n := fun c n x y z => by rw [j13.2.2.1 c n x y (by omega), rM3 c (by omega) (by omega) (by omega) (by omega), i13.2.2.1 c n x y z, r1 c (by omega), u4 c (by omega)]
          have nm2 : ∀ c n, 116 ≤ c → c ≤ 124 → n < N2 → sm4 c n = sm2 c n := fun c n x y z => by rw [j13.2.2.1 c n x y z, rM3 c (by omega) (by omega) (by omega) (by omega)]
          have km1 : ∀ j, j < K → sm4 125 j = sm 125 j := fun j z => by rw [j13.2.2.2.1 j (by omega), rM3 125 (by decide) (by decide) (by decide) (by decide), i13.2.2.2.1 j z, r1 125 (by omega), u4 125 (by decide)]
          have km2 : ∀ j, j < K2 → sm4 125 j = sm2 125 j := fun j z => by rw [j13.2.2.2.1 j z, rM3 125 (by decide) (by decide) (by decide) (by decide)]
          have c37a : sc2 37 = sc 37 := by rw [i14.1 37 (by omega), rC 37 (by decide) (by decide), w4 37 (by decide)]
          have c37b : sc4 37 = sc2 37 := by rw [j14.1 37 (by omega), rS3 37 (by decide) (by decide)]
          -- the stretches
          have sg1 : SEG T sc4 sm4 sn rp K4 a0 a N0 N := o8.congr (fun c n x y _ z => nm c n x y z) (fun n _ z => nk 48 n (by decide) (by decide) z) (c37b.trans c37a) km1 (by omega)
          have sg2 : SEG T sc4 sm4 sn rp K4 (a + 1) a2 N N2 := v8.congr (fun c n x y _ z => nm2 c n x y z) (fun n _ z => nk2 48 n (by decide) (by decide) z) c37b km2 (by omega)
          have sgq := SEG.tok T sc4 sm4 sn rp K4 a N (Or.inr (Or.inl ⟨hB, by rw [t1]; decide⟩)) (fun y => by rw [t1] at y; exact absurd y.1 (by decide))
          have sgc := SEG.tok T sc4 sm4 sn rp K4 a2 N2 (Or.inr (Or.inl ⟨hB2, by rw [tc]; decide⟩)) (fun y => by rw [tc] at y; exact absurd y.1 (by decide))
          have sgA : SEG T sc4 sm4 sn rp K4 a0 a4 N0 N4 := (((sg1.merge sgq).merge sg2).merge sgc).merge z8
          -- links
          have rt1 : ¬ CHD sm4 N4 (N - 1) := j6.root (fun m y1 y2 cc qq i z1 z2 z3 => by
            by_cases e : m < N2
            · have := sg2.kids (m := m) (by omega) e z1 z2 z3
              omega
            · have := z8.kids (m := m) (by omega) y2 z1 z2 z3
              omega)
          have rt2 : ¬ CHD sm4 N4 (N2 - 1) := j6.root (fun m y1 y2 cc qq i z1 z2 z3 => by
            have := z8.kids (m := m) (by omega) y2 z1 z2 z3
            omega)
          have sc28 : sc2 66 8 = (N2 : Int) - 1 := vt1
          have sc48 : sc4 66 8 = (N4 : Int) - 1 := zt1
          obtain ⟨lk1, lk2⟩ := link_c (sc := sc4) (x := (N : Int) - 1) (y := sc2 66 8) (r := N - 1) (N := N4) (by omega) j6.1 (by omega) (by omega)
          obtain ⟨lk3, lk4⟩ := link_c (sc := ax_u2 sc4 52 (N - 1) (sc2 66 8)) (x := sc2 66 8) (y := (ax_u2 sc4 52 (N - 1) (sc2 66 8)) 66 8) (r := N2 - 1) (N := N4) (by omega) (by rw [u2_row _ _ _ (by decide)]; exact j6.1) (by omega) (by omega)
          obtain ⟨sL, hsL⟩ : ∃ sL : Sg, sL = ax_u2 (ax_u2 sc4 52 (N - 1) (sc2 66 8)) 52 (N2 - 1) ((ax_u2 sc4 52 (N - 1) (sc2 66 8)) 66 8) := ⟨_, rfl⟩
          have rL : ∀ c, c ≠ 52 → sL c = sc4 c := fun c x => by rw [hsL, u2_row _ _ _ x, u2_row _ _ _ x]
          have ndL : ND T sL sm4 N4 K4 := by rw [hsL]; exact (j6.link rt1).link rt2
          have L1 : sL 52 (N - 1) = (N2 : Int) - 1 := by rw [hsL, u2_col _ _ _ (by omega), u2_same]; exact sc28
          have L2 : sL 52 (N2 - 1) = (N4 : Int) - 1 := by rw [hsL, u2_same, u2_row _ _ _ (by decide)]; exact sc48
          have L3 : ∀ x, x ≠ N - 1 → x ≠ N2 - 1 → sL 52 x = sc4 52 x := fun x y z => by rw [hsL, u2_col _ _ _ z, u2_col _ _ _ y]
          obtain ⟨h1, h2, h3, h4⟩ := c124 ndL.1 (by omega) 21 (st : Int) ((N : Int) - 1) 3 0
          -- the reference makes it
          obtain ⟨mM, hmM⟩ : ∃ mM : Sg, mM = ax_u2 (ax_u2 mY 84 63 (W : Int)) 84 67 (op : Int) := ⟨_, rfl⟩
          have rMM : ∀ c, c ≠ 84 → c ≠ 91 → mM c = sm4 c := fun c x y => by rw [hmM, u2_row _ _ _ x, u2_row _ _ _ x]; exact w4' c y
          have cMM : ∀ j, j ≠ 63 → j ≠ 67 → mM 84 j = sm4 84 j := fun j x y => by rw [hmM, u2_col _ _ _ y, u2_col _ _ _ x, w4' 84 (by decide)]
          have mM9 : mM 91 = mY 91 := by rw [hmM, u2_row _ _ _ (by decide), u2_row _ _ _ (by decide)]
          obtain ⟨mD, D1, D2⟩ := m266 (s := mM) (N := N4) (K := K4) (o := O) (c := 3) (by rw [cMM 47 (by decide) (by decide)]; exact j6.2.1) (by rw [cMM 57 (by decide) (by decide)]; exact j6.2.2.1) (by rw [cMM 59 (by decide) (by decide)]; exact g3.2.1) (by omega) (by omega) (by omega) (by omega) 21 (st : Int) (a : Int) (-1)
          have ndM : ND T sL mM N4 K4 := ndL.congr rfl (cMM 47 (by decide) (by decide)) (cMM 57 (by decide) (by decide)) (fun _ _ _ _ _ => rfl) (fun c n x y _ => by rw [rMM c (by omega) (by omega)]) (fun j _ => by rw [rMM 125 (by decide) (by decide)])
          have sgM : SEG T sL mM sn rp K4 a0 a4 N0 N4 := sgA.rows (fun c x y => rMM c (by omega) (by omega)) (rL 48 (by decide)) (rL 37 (by decide))
          have sgb := sgM.2.2.1
          have efL : EFc sc sL := (((ecW.trans ecx).trans i14).trans ec3).trans (j14.trans ⟨fun c x => rL c (by omega), fun j _ _ => by rw [rL 39 (by decide)], fun j _ => by rw [rL 30 (by decide)]⟩)
          have efM : EFm sm mM := (((emU.trans emx).trans i15).trans em3).trans (j15.trans ⟨fun c x => rMM c (by omega) (by omega), fun j x => cMM j (by omega) (by omega)⟩)
          have fin : P2 T sc0 sm0 sn rp a0 N0 K0 base W O op (f_64 (N4 : Int) (st : Int) 0 (f_124 21 (st : Int) ((N : Int) - 1) 3 sL).2) mD a4 (N4 + 1) (K4 + 3) 0 0 N0 a0 := by
            refine MKP2 hE hS (sc' := sL) (sm' := mM) ?_ efL efM ?_ ?_ ?_ ndM ?_ ?_ ?_ ?_ ?_ h3 D2 rfl rfl o4 (by omega) (by decide) (by decide) (by simp [AR]) ?_ ?_ ?_ ?_ ?_ (by omega) (by omega) hB4 (by omega) (by omega) (by omega) ?_
            · refine ⟨fun k x => ⟨?_, ?_, ?_⟩, fun c n x y z => ?_, fun c n x y z => ?_, fun j x => ?_, fun c i x y z => ?_, fun c i x y z => ?_, fun c i x y z => ?_, fun k x => ?_⟩
              · rw [rL 45 (by decide), (j13.1 k (by omega)).1, s345, u2_col _ _ _ (by omega), (i13.1 k (by omega)).1, c45, u2_col _ _ _ (by omega)]; exact w3 k (by omega)
              · rw [mM9, w3' k (by omega), (j13.1 k (by omega)).2.1, m391, q3 k (by omega), (i13.1 k (by omega)).2.1, r1 91 (by omega)]; exact u3 k (by omega)
              · rw [rMM 92 (by decide) (by decide), (j13.1 k (by omega)).2.2, m392, u2_col _ _ _ (by omega), q4 92 (by decide), (i13.1 k (by omega)).2.2, s92, u2_col _ _ _ (by omega), u4 92 (by decide)]
              · by_cases e : c = 52
                · subst e
                  rw [L3 n (by omega) (by omega)]
                  exact nk 52 n x y (by omega)
                · rw [rL c e]
                  exact nk c n x y (by omega)
              · rw [rMM c (by omega) (by omega)]; exact nm c n x y (by omega)
              · rw [rMM 125 (by decide) (by decide)]; exact km1 j x
              · rw [rL c (by omega), j13.2.2.2.2.1 c i x y (by omega), rS3 c (by omega) (by omega), i13.2.2.2.2.1 c i x y (by omega), rC c (by omega) (by omega), w4 c (by omega)]
              · rw [rMM c (by omega) (by omega), j13.2.2.2.2.2.1 c i x y (by omega), rM3 c (by omega) (by omega) (by omega) (by omega), i13.2.2.2.2.2.1 c i x y (by omega), r1 c (by omega), u4 c (by omega)]
              · rw [rMM c (by omega) (by omega), j13.2.2.2.2.2.2.1 c i x y (by omega), m3129 c i x y (by omega), i13.2.2.2.2.2.2.1 c i x y (by omega), i1 c i x y (by omega), u4 c (by omega)]
              · rw [rMM 132 (by decide) (by decide), j13.2.2.2.2.2.2.2 k (by omega), rM3 132 (by decide) (by decide) (by decide) (by decide), i13.2.2.2.2.2.2.2 k (by omega), r1 132 (by omega), u4 132 (by decide)]
            · unfold CU at *
              rw [rL 39 (by decide)]
              exact j3
            · rw [cMM 18 (by decide) (by decide)]; exact j4
            · rw [cMM 6 (by decide) (by decide)]; exact j5
            · rw [rL 66 (by decide)]; exact j7
            · rw [hmM, u2_col _ _ _ (by decide)]; exact u2_same _ _ _ _
            · rw [hmM]; exact u2_same _ _ _ _
            · intro c n x y z
              rw [rMM c (by omega) (by omega)]
              exact nm c n x y z
            · intro k x y
              have fr : ∀ k, LF T sc4 mY k → LF T sL mM k := fun k hl => hl.congr (by rw [rL 45 (by decide)]) (by rw [mM9]) (by rw [rMM 92 (by decide) (by decide), w4' 92 (by decide)]) (by rw [rMM 93 (by decide) (by decide), w4' 93 (by decide)])
              apply fr
              by_cases ca : a2 + 1 ≤ k
              · exact w2' k ca y
              · have f4 : ∀ k, k < a2 + 1 → LF T (cur T (ax_u2 sc2 45 a2 1) (a2 + 1)) (ax_u2 (adv (ax_u2 mV 92 a2 1) (a2 + 1)) 129 W 107) k → LF T sc4 mY k := fun k hk hl => hl.congr (j13.1 k (Or.inl hk)).1 (by rw [w3' k (Or.inl hk)]; exact (j13.1 k (Or.inl hk)).2.1) (by rw [w4' 92 (by decide)]; exact (j13.1 k (Or.inl hk)).2.2) (by rw [w4' 93 (by decide), j15.1 93 (by omega)])
                apply f4 k (by omega)
                by_cases cb : k = a2
                · subst cb
                  have f := i12 k (Nat.le_refl _) z2
                  refine ⟨?_, ?_, ?_, ?_⟩
                  · rw [s345, u2_same, m391, q3 k (by omega), f.2.1]; simp
                  · rw [s345, u2_same, m392, u2_same]; simp
                  · rw [s345, u2_same, rM3 93 (by decide) (by decide) (by decide) (by decide), f.2.2.2]; simp
                  · rw [s345, u2_same]; exact ⟨fun y => absurd y (by decide), fun _ => by rw [tc]; decide⟩
                · have f3 : ∀ k, k < a2 → LF T sc2 mV k → LF T (cur T (ax_u2 sc2 45 a2 1) (a2 + 1)) (ax_u2 (adv (ax_u2 mV 92 a2 1) (a2 + 1)) 129 W 107) k := fun k hk hl => hl.congr (by rw [s345]; exact u2_col _ _ _ (by omega)) (by rw [m391]) (by rw [m392]; exact u2_col _ _ _ (by omega)) (by rw [rM3 93 (by decide) (by decide) (by decide) (by decide), q4 93 (by decide)])
                  apply f3 k (by omega)
                  by_cases cc : a + 1 ≤ k
                  · exact q2 k cc (by omega)
                  · have f2 : ∀ k, k < a + 1 → LF T (cur T (ax_u2 sW 45 a 1) (a + 1)) sm1 k → LF T sc2 mV k := fun k hk hl => hl.congr (i13.1 k (Or.inl hk)).1 (by rw [q3 k (Or.inl hk)]; exact (i13.1 k (Or.inl hk)).2.1) (by rw [q4 92 (by decide)]; exact (i13.1 k (Or.inl hk)).2.2) (by rw [q4 93 (by decide), i15.1 93 (by omega)])
                    apply f2 k (by omega)
                    by_cases cd : k = a
                    · subst cd
                      have f := e12 k (Nat.le_refl _) hz
                      refine ⟨?_, ?_, ?_, ?_⟩
                      · rw [c45, u2_same, r1 91 (by omega), u3 k (Or.inr (Nat.le_refl _)), f.2.1]; simp
                      · rw [c45, u2_same, s92, u2_same]; simp
                      · rw [c45, u2_same, r1 93 (by omega), u4 93 (by decide), f.2.2.2]; simp
                      · rw [c45, u2_same]; exact ⟨fun y => absurd y (by decide), fun _ => by rw [t1]; decide⟩
                    · exact (u2 k (by omega) (by omega)).congr (by rw [c45]; exact u2_col _ _ _ cd) (by rw [r1 91 (by omega)]) (by rw [s92]; exact u2_col _ _ _ cd) (by rw [r1 93 (by omega)])
            · rw [if_pos (by decide), rMM 126 (by decide) (by decide)]; exact ok0.symm
            · intro i hi
              have : i = 0 ∨ i = 1 ∨ i = 2 := by omega
              rcases this with rfl | rfl | rfl
              · refine ⟨N - 1, ?_, by omega, ?_⟩
                · rw [rMM 126 (by decide) (by decide)]; exact ok0.trans (by omega)
                · rw [if_pos (by decide), L1, rMM 126 (by decide) (by decide)]; exact ok1.symm
              · refine ⟨N2 - 1, ?_, by omega, ?_⟩
                · rw [rMM 126 (by decide) (by decide)]; exact ok1.trans (by omega)
                · rw [if_pos (by decide), L2, rMM 126 (by decide) (by decide)]; exact z2'.symm
              · refine ⟨N4 - 1, ?_, by omega, ?_⟩
                · rw [rMM 126 (by decide) (by decide)]; exact z2'.trans (by omega)
                · rw [if_neg (by decide), L3 _ (by omega) (by omega)]; exact z6
            · unfold NV
              rw [D2.2.2.2.1, h3.2.2.1, h3.2.2.2.1]
              simp
            · refine sgM.addn D2 (fun n hn => h3.2.2.2.2.2.2.2.2.2.2.2.2.2.1 48 n (by decide) (by decide) (by omega)) (h3.2.2.2.2.2.2.2.2.2.2.2.2.2.2.2.1 37 (by omega)) (by decide) (by omega) (fun i hi => ?_) (by rw [cMM 68 (by decide) (by decide)]; exact j10) (by rw [cMM 46 (by decide) (by decide)]; exact j11) (fun _ y => absurd y (by decide))
              have : i = 0 ∨ i = 1 ∨ i = 2 := by omega
              rcases this with rfl | rfl | rfl
              · rw [rMM 126 (by decide) (by decide)]; exact Int.le_trans (show (N0 : Int) ≤ (N : Int) - 1 by omega) (Int.le_of_eq ok0.symm)
              · rw [rMM 126 (by decide) (by decide)]; exact Int.le_trans (show (N0 : Int) ≤ (N2 : Int) - 1 by omega) (Int.le_of_eq ok1.symm)
              · rw [rMM 126 (by decide) (by decide)]; exact Int.le_trans (show (N0 : Int) ≤ (N4 : Int) - 1 by omega) (Int.le_of_eq z2'.symm)
            · have nk' : NOK T (sc0 37) mD N4 := by
                unfold NOK
                rw [D2.2.2.2.1]
                simp
              have lw0 : sc 37 = sc0 37 := e14.1 37 (by omega)
              have lw1 : (cur T (ax_u2 sW 45 a 1) (a + 1)) 37 = sc0 37 := by rw [rC 37 (by decide) (by decide), w4 37 (by decide), lw0]
              have lw2 : (cur T (ax_u2 sc2 45 a2 1) (a2 + 1)) 37 = sc0 37 := by rw [rS3 37 (by decide) (by decide), c37a, lw0]
              have k1 : CN (f_64 (N4 : Int) (st : Int) 0 (f_124 21 (st : Int) ((N : Int) - 1) 3 sL).2) ↔ CN sc4 := by unfold CN; rw [h4, rL 30 (by decide)]
              have k2 : CN (cur T (ax_u2 sc2 45 a2 1) (a2 + 1)) ↔ CN sc2 := by unfold CN; rw [rS3 30 (by decide) (by decide)]
              have k3 : CN (cur T (ax_u2 sW 45 a 1) (a + 1)) ↔ CN sc := by unfold CN; rw [rC 30 (by decide) (by decide), w4 30 (by decide)]
              rw [k1, j16, k2, i16, k3, lw1, lw2]
              have old4 : ∀ n, n < N4 → (NOK T (sc0 37) mD n ↔ NOK T (sc0 37) sm4 n) := fun n hn => NOK.congr (fun c x y => by rw [D2.2.2.2.2.2.2.2.2.2.2.2.2.2.2.2.1 c n x y (by omega), rMM c (by omega) (by omega)])
              have old2 : ∀ n, n < N2 → (NOK T (sc0 37) sm4 n ↔ NOK T (sc0 37) sm2 n) := fun n hn => NOK.congr (fun c x y => nm2 c n x y hn)
              constructor
              · intro ⟨⟨y1, y2⟩, y3⟩
                refine ⟨y1, fun n x1 x2 => ?_⟩
                by_cases e : n = N4
                · rw [e]; exact nk'
                · rw [old4 n (by omega)]
                  by_cases e2 : n < N2
                  · rw [old2 n e2]; exact y2 n x1 e2
                  · exact y3 n (by omega) (by omega)
              · intro ⟨y1, y2⟩
                exact ⟨⟨y1, fun n x1 x2 => (old2 n x2).mp ((old4 n (by omega)).mp (y2 n x1 (by omega)))⟩, fun n x1 x2 => (old4 n x2).mp (y2 n (by omega) (by omega))⟩
            · rw [cMM 70 (by decide) (by decide)]; exact g3.2.2.2.2.2.2.2
          refine Or.inl ⟨_, mD, a4, N4 + 1, K4 + 3, ?_, by omega, fin, hS0, ?_⟩
          · show xb (gd (g_126 ((N : Int) - 1) (sc2 66 8) sc4) _) _ = _
            rw [gd_pos lk1, lk2, Option.bind_some, gd_pos lk3, lk4, Option.bind_some, ← hsL, gd_pos h1, Option.bind_some, h2, Option.bind_some]
            rfl
          · rcases g4 with ⟨F2, G2, x1, x2, x3, x4, x5⟩ | ⟨x1, mF, x2, x3⟩
            · refine Or.inl ⟨F2, G2 - 1, ?_, x2, by omega, x4, x5⟩
              rw [x1]
              unfold RC
              obtain ⟨G2, rfl⟩ : ∃ k, G2 = k + 1 := ⟨G2 - 1, by omega⟩
              have hwm4 : ax_w32 (sm4 84 63 - 1) = (W : Int) := by rw [j8, w32_id (by omega) (by omega)]; omega
              have ho4 : ax_w32 (sm4 84 59 - 1) = ((O + 2 : Nat) : Int) := by rw [g3.2.1, w32_id (by omega) (by omega)]; omega
              have hwY : ax_w32 (mY 84 63 - 1) = (W : Int) := by rw [w4' 84 (by decide)]; exact hwm4
              have hoY : ax_w32 (mY 84 59 - 3) = (O : Int) := by rw [w4' 84 (by decide), g3.2.1, w32_id (by omega) (by omega)]; omega
              have hpY : ax_w32 (mY 84 67 - 1) = (op : Int) := by rw [w4' 84 (by decide), j9, w32_id (by omega) (by omega)]; omega
              rw [j_270_0, if_neg (by omega), hwm4, gd_pos (by omega), Int.toNat_natCast, y129, if_neg (by decide), ho4, w1', Option.bind_some, hoY, gd_pos (by omega), hwY, gd_pos (by omega), Int.toNat_natCast, Int.toNat_natCast, w4' 127 (by decide), w4' 130 (by decide), os0, y130, hpY]
              have D1' : f_266 21 (st : Int) (a : Int) (-1) 3 (ax_u2 (ax_u2 mY 84 63 (W : Int)) 84 67 (op : Int)) = some mD := by rw [← hmM]; exact D1
              rw [D1', Option.bind_some, show G2 + 1 - 1 = G2 by omega]
            · exact Or.inr ⟨x1, mF, x2, efm2.trans x3.1, x3.2⟩
        · rw [g1]
          exact Or.inr ⟨x, sc4, mF, rfl, g2, ⟨efc2.trans g3.1, g3.2⟩, g4, efm2.trans g5.1, g5.2⟩
      · rw [tc] at y1; omega
    · rw [c92n cu9 tc]
      refine Or.inr ⟨15, f_99 (a2 : Int) 1 sc2, ?_⟩
      rcases r4 with ⟨F', G', y1, y2, y3, y4, y5⟩ | ⟨_, mF, y2, y3⟩
      · obtain ⟨mV, q0', q1, q2, q3, q4⟩ := RC.use hT r3 (by rw [show W + 0 + 1 - 1 = W by omega, x129]; decide) (by omega) G' (by omega)
        have mcV : MC T mV := i2.row (by rw [q4 84 (by decide)]) (q4 88 (by decide))
        have fV : mV 84 6 = 0 := by rw [q4 84 (by decide)]; exact i5
        have aV : mV 84 18 = (a2 : Int) := by rw [q4 84 (by decide)]; exact i4
        have mf : 0 < (ax_u2 (tel mV 2 a2) 129 W 107) 84 6 := by rw [u2_row _ _ _ (by decide), tel_at]; decide
        refine ⟨_, rfl, Or.inr rfl, ⟨(efc0.trans i14).trans ef9, a2, cu9⟩, ?_, ?_, mf⟩
        · rw [y1]
          unfold RC
          rw [q0']
          unfold j_270_85
          have iy := is_n mcV hT aV hz2 (K := 17) (k := 58) (by decide) (by decide) tc
          rw [if_pos (by omega), hwm, gd_pos (by omega), q1, Option.bind_some, gd_pos (by omega), Int.toNat_natCast, q4 129 (by decide), x129, if_neg (by decide), if_neg (by decide), if_neg (by decide), if_pos (by decide), gd_pos iy.2, iy.1, if_pos rfl]
          unfold j_270_191
          rw [takeN mcV hT fV aV hz2 (k := 58) (by decide) (by decide) tc, Option.bind_some, gd_pos (by omega), Int.toNat_natCast, Option.bind_some]
          exact flt_105 (by omega) FU1 mf
        · refine (efm0.trans i15).trans ⟨fun c x => ?_, fun j x => ?_⟩
          · rw [u2_row _ _ _ (by omega), tel_row (by omega)]
            exact q4 c (by omega)
          · rw [u2_row _ _ _ (by decide), tel_col (by omega) (by omega), q4 84 (by decide)]
      · exact ⟨mF, rfl, Or.inr rfl, ⟨(efc0.trans i14).trans ef9, a2, cu9⟩, y2, efm0.trans y3.1, y3.2⟩
  · rw [r1']
    exact Or.inr ⟨x, sc2, mF, rfl, r2, ⟨efc0.trans r3.1, r3.2⟩, r4, efm0.trans r5.1, r5.2⟩
end CH
