/-! OPERANDS without others in them: a call of nothing; none at all; prefixes. -/
section LEAF3
variable {T : TT} {sc0 sm0 sc sm sB mB sD sH mD s : Sg} {sn rp : Int} {a0 N0 K0 base W O op a a' N K q b : Nat}
theorem leaf_call0 {ex : Int → Sg → Option (Sum Sg (Nat × Sg))} {d : Int} (hT : TWF T) (h : P1 T sc0 sm0 sn rp a0 N0 K0 base W O op sc sm a N K q b) (t1 : T.tk a = 1) (t2 : T.tk (a + 1) = 40) (t3 : T.tk (a + 2) = 41) :
    ∃ sN sH mD : Sg, f_53 ex d 3 sc = some (.inl sN) ∧ f_54 (a : Int) sN = some sH ∧ f_260 sm = some (0, mD) ∧ P2 T sc0 sm0 sn rp a0 N0 K0 base W O op sH mD (a + 3) (N + 1) (K + 0) q b N a := by
  obtain ⟨e1, e2, e3, e4, e5, e6, e7, e8, e9, e10, e11, e12, e13, e14, e15, e16, e17, e18, e19, e20, e21, e22, e23⟩ := id h.1
  have h59 := h.2.1
  have hA := h.2.2.2.2
  have hKN := h.2.2.2.1
  have hz := hT.lt e3.2.2 (by rw [t1]; decide)
  have h8 := hT.1
  have bd := STK.bd _ _ _ _ h.2.2.1
  have z1 := hT.lt (show a + 1 ≤ T.z by omega) (by rw [t2]; decide)
  have z2 := hT.lt (show a + 2 ≤ T.z by omega) (by rw [t3]; decide)
  have cc1 := cur_cc (a := a + 1) e1
  have cu1 : CU T (cur T sc (a + 1)) (a + 1) := cur_cu (by omega)
  have cc2 := cur_cc (a := a + 2) cc1
  have cu2 : CU T (cur T (cur T sc (a + 1)) (a + 2)) (a + 2) := cur_cu (by omega)
  have rB : ∀ c, c ≠ 39 → (cur T (cur T (cur T sc (a + 1)) (a + 2)) (a + 3)) c = sc c := fun c x => by rw [cur_row x, cur_row x, cur_row x]
  have sB46 : (cur T (cur T (cur T sc (a + 1)) (a + 2)) (a + 3)) 46 7 = (N : Int) := by rw [rB 46 (by decide)]; exact e6.1
  obtain ⟨g1, g2, g3, g4⟩ := c124 sB46 (by omega) 3 (a : Int) (-1) 0 10
  have hcD := g3.ef.cc (cur_cc (a := a + 3) cc2)
  obtain ⟨sH, k1, k2, k3⟩ := hide_c hT hcD g3 (by omega) g4 hz t1
  have hM0 : MC T (ax_u2 sm 84 70 0) := e2.row (by simp [ax_u2]) (by funext x; simp [ax_u2])
  have u0 : (ax_u2 sm 84 70 0) 84 18 = (a : Int) := by simpa [ax_u2] using e4
  have f0 : (ax_u2 sm 84 70 0) 84 6 = 0 := by simpa [ax_u2] using e5
  have hM1 := adv_mc (a := a + 1) hM0
  have f1 : (adv (ax_u2 sm 84 70 0) (a + 1)) 84 6 = 0 := by rw [adv_col (by decide)]; exact f0
  have hM2 := adv_mc (a := a + 2) hM1
  have f2 : (adv (adv (ax_u2 sm 84 70 0) (a + 1)) (a + 2)) 84 6 = 0 := by rw [adv_col (by decide)]; exact f1
  have cA : ∀ j, j ≠ 18 → j ≠ 70 → (adv (adv (adv (ax_u2 sm 84 70 0) (a + 1)) (a + 2)) (a + 3)) 84 j = sm 84 j := fun j x y => by rw [adv_col x, adv_col x, adv_col x]; exact u2_col _ _ _ y
  obtain ⟨v1, v2, v3, v4⟩ := m263 (s := adv (adv (adv (ax_u2 sm 84 70 0) (a + 1)) (a + 2)) (a + 3)) (N := N) (K := K) (o := O + b) (by rw [cA 47 (by decide) (by decide)]; exact e6.2.1) (by rw [cA 57 (by decide) (by decide)]; exact e6.2.2.1) (by rw [cA 59 (by decide) (by decide)]; exact h59) (by omega) (by omega) 3 (a : Int) (a : Int) (-1)
  refine ⟨_, sH, _, ?_, k1, ?_, LEAF hT h (sB := cur T (cur T (cur T sc (a + 1)) (a + 2)) (a + 3)) (mB := adv (adv (adv (ax_u2 sm 84 70 0) (a + 1)) (a + 2)) (a + 3)) (fun c x _ => rB c x) (fun j x y => by rw [cur_col x y, cur_col x y, cur_col x y]) (fun j _ => by rw [rB 30 (by decide)]) (fun c x => by rw [adv_row x, adv_row x, adv_row x]; exact u2_row _ _ _ x) cA (cur_cu (by omega)) adv_at (by omega) k2 v4 (Or.inr (Or.inr rfl)) ?_ ?_ ?_ (by rw [show a + 3 - 1 = a + 2 by omega, t3]; decide) (by rw [adv_col (by decide), adv_col (by decide), adv_col (by decide)]; exact u2_same _ _ _ _)⟩
  · unfold f_53
    rw [nxt hT e1 e3 (by rw [t1]; decide), c92y hT cc1 cu1 t2 (by decide)]
    obtain ⟨F, hF⟩ := FU_split (k := 1) (by omega)
    show j_53_70 ex FU d 3 (sc 39 10) _ (-1) (-1) 0 _ (cur T (cur T sc (a + 1)) (a + 2)) = _
    have eL : ((if ¬ (3 : Int) = 6 then 0 else 2) : Int) = 0 := by decide
    rw [eL, cu2.2.1, t3, hF, j_53_70]
    rw [if_pos (by decide)]
    unfold j_53_171
    rw [c92y hT cc2 cu2 t3 (by decide), e3.1]
    show gd _ _ = _
    rw [gd_pos g1, Option.bind_some, g2]
    rfl
  · unfold f_260
    rw [if_pos (by omega), eatN hM0 hT u0 e3.2.2 (k := 126) (by decide) (by decide) (by rw [t1]; decide)]
    rw [if_neg (by simp), eatN hM0 hT u0 e3.2.2 (k := 45) (by decide) (by decide) (by rw [t1]; decide)]
    rw [if_pos rfl, eatN hM0 hT u0 e3.2.2 (k := 40) (by decide) (by decide) (by rw [t1]; decide)]
    rw [if_pos rfl, eatN hM0 hT u0 e3.2.2 (k := 2) (by decide) (by decide) (by rw [t1]; decide)]
    rw [if_pos rfl, eatN hM0 hT u0 e3.2.2 (k := 25) (by decide) (by decide) (by rw [t1]; decide)]
    rw [if_neg (by simp), eatN hM0 hT u0 e3.2.2 (k := 26) (by decide) (by decide) (by rw [t1]; decide)]
    rw [if_neg (by simp), eatN hM0 hT u0 e3.2.2 (k := 27) (by decide) (by decide) (by rw [t1]; decide)]
    rw [if_pos rfl, takeY hM0 hT f0 u0 e3.2.2 (k := 1) (by decide) t1, Option.bind_some]
    dsimp only
    rw [if_pos (by omega), eatN hM1 hT adv_at (by omega) (k := 91) (by decide) (by decide) (by rw [t2]; decide)]
    rw [if_pos rfl, eatY hM1 hT f1 adv_at (by omega) (k := 40) (by decide) t2]
    rw [if_neg (by simp), eatY hM2 hT f2 adv_at (by omega) (k := 41) (by decide) t3]
    rw [if_pos (by simp), e4, gd_pos v1, Option.bind_some, v2, gd_pos v3, Option.bind_some]
  · unfold NV
    rw [v4.2.2.2.1, v4.2.2.2.2.1, v4.2.2.2.2.2.1, k2.2.2.1, k2.2.2.2.1]
    refine ⟨by simp, by simp, by simp, fun _ _ => ⟨a, rfl, rfl, hz, t1, rfl⟩, by simp⟩
  · have s0 := SEG.nil T (cur T (cur T (cur T sc (a + 1)) (a + 2)) (a + 3)) (adv (adv (adv (ax_u2 sm 84 70 0) (a + 1)) (a + 2)) (a + 3)) sn rp K (a + 2) N
    exact s0.call v4 (fun n hn => k2.2.2.2.2.2.2.2.2.2.2.2.2.2.1 48 n (by decide) (by decide) (by omega)) (k2.2.2.2.2.2.2.2.2.2.2.2.2.2.2.2.1 37 (by omega)) (fun i hi => absurd hi (by omega)) (by rw [cA 68 (by decide) (by decide)]; exact e10) (by rw [cA 46 (by decide) (by decide)]; exact e11) k2.2.2.1 t1 t2 t3 (Or.inl ⟨hA, by rw [t1]; decide⟩) (Or.inr (Or.inr (Or.inl (by rw [t1, t2]; decide)))) (Or.inr (Or.inr (Or.inr (Or.inr (Or.inl (by rw [show a + 2 - 1 = a + 1 by omega, t2, t3]; decide))))))
  · have nk : NOK T (sc0 37) (f_264 (N : Int) (a : Int) (-1) (f_263 3 (a : Int) (a : Int) (-1) (adv (adv (adv (ax_u2 sm 84 70 0) (a + 1)) (a + 2)) (a + 3))).2) N ↔ sc0 37 (T.vl a).toNat = 0 := by
      unfold NOK
      rw [v4.2.2.2.1, v4.2.2.2.2.2.1, Int.toNat_natCast]
      simp
    rw [k3, nk, rB 37 (by decide), e14.1 37 (by omega)]
    have : CN (cur T (cur T (cur T sc (a + 1)) (a + 2)) (a + 3)) ↔ CN sc := by unfold CN; rw [rB 30 (by decide)]
    rw [this]
    exact ⟨fun h => ⟨h.1, by rcases h.2 with y | y; exact absurd y (by decide); exact y⟩, fun h => ⟨h.1, Or.inr h.2⟩⟩
/-- no operand -/
theorem prim_bad (hT : TWF T) (h : P1 T sc0 sm0 sn rp a0 N0 K0 base W O op sc sm a N K q b) (t1 : T.tk a ∉ opS) :
    f_47 sc = some (.inr (15, sc)) ∧ ∃ mD : Sg, f_260 sm = some (0, mD) ∧ BDm sm mD := by
  obtain ⟨e1, e2, e3, e4, e5, e6, e7, e8, e9, e10, e11, e12, e13, e14, e15, e16, e17, e18, e19, e20, e21, e22, e23⟩ := id h.1
  have n1 : ∀ c, c ∈ opS → T.tk a ≠ c := fun c hc e => t1 (by rw [e]; exact hc)
  have hM0 : MC T (ax_u2 sm 84 70 0) := e2.row (by simp [ax_u2]) (by funext x; simp [ax_u2])
  have u0 : (ax_u2 sm 84 70 0) 84 18 = (a : Int) := by simpa [ax_u2] using e4
  have f0 : (ax_u2 sm 84 70 0) 84 6 = 0 := by simpa [ax_u2] using e5
  refine ⟨?_, tel (ax_u2 sm 84 70 0) 2 a, ?_, s70_ef.trans tel_ef, by rw [tel_at]; decide⟩
  · unfold f_47
    rw [e3.2.1, if_neg (n1 1 (by decide)), if_neg (n1 2 (by decide)), if_neg (n1 25 (by decide)), if_neg (n1 26 (by decide)), if_neg (n1 27 (by decide)), if_neg (n1 40 (by decide))]
  · unfold f_260
    rw [if_pos (by omega), eatN hM0 hT u0 e3.2.2 (k := 126) (by decide) (by decide) (n1 _ (by decide))]
    rw [if_neg (by simp), eatN hM0 hT u0 e3.2.2 (k := 45) (by decide) (by decide) (n1 _ (by decide))]
    rw [if_pos rfl, eatN hM0 hT u0 e3.2.2 (k := 40) (by decide) (by decide) (n1 _ (by decide))]
    rw [if_pos rfl, eatN hM0 hT u0 e3.2.2 (k := 2) (by decide) (by decide) (n1 _ (by decide))]
    rw [if_pos rfl, eatN hM0 hT u0 e3.2.2 (k := 25) (by decide) (by decide) (n1 _ (by decide))]
    rw [if_neg (by simp), eatN hM0 hT u0 e3.2.2 (k := 26) (by decide) (by decide) (n1 _ (by decide))]
    rw [if_neg (by simp), eatN hM0 hT u0 e3.2.2 (k := 27) (by decide) (by decide) (n1 _ (by decide))]
    rw [if_pos rfl, takeN hM0 hT f0 u0 e3.2.2 (k := 1) (by decide) (by decide) (n1 _ (by decide)), Option.bind_some]
    dsimp only
    rw [if_neg (by rw [tel_at]; decide)]
/-- a prefix -/
theorem pre_step (hT : TWF T) (h : P1 T sc0 sm0 sn rp a0 N0 K0 base W O op sc sm a N K q b) (t1 : T.tk a = 126 ∨ T.tk a = 45) :
    ∃ sc' sm1 : Sg, (∀ F l : Nat, l ≤ 8192 → j_46_2 (F + 1) (l : Int) sc = j_46_2 F ((l + 1 : Nat) : Int) sc') ∧ f_260 sm = some (1, sm1) ∧ sm1 84 70 = 1 ∧ sm1 84 6 = 0 ∧ P1 T sc0 sm0 sn rp a0 N0 K0 base W O op sc' (ax_u2 sm1 84 70 0) (a + 1) N K (q + 1) b := by
  obtain ⟨e1, e2, e3, e4, e5, e6, e7, e8, e9, e10, e11, e12, e13, e14, e15, e16, e17, e18, e19, e20, e21, e22, e23⟩ := id h.1
  have h59 := h.2.1
  have hS := h.2.2.1
  have hA := h.2.2.2.2
  have hKN := h.2.2.2.1
  have hz := hT.lt e3.2.2 (by rcases t1 with e | e <;> rw [e] <;> decide)
  have h8 := hT.1
  have bd := STK.bd _ _ _ _ h.2.2.1
  have hM0 : MC T (ax_u2 sm 84 70 0) := e2.row (by simp [ax_u2]) (by funext x; simp [ax_u2])
  have u0 : (ax_u2 sm 84 70 0) 84 18 = (a : Int) := by simpa [ax_u2] using e4
  have f0 : (ax_u2 sm 84 70 0) 84 6 = 0 := by simpa [ax_u2] using e5
  obtain ⟨k, hk⟩ : ∃ k : Int, k = if T.tk a = 126 then 8 else 9 := ⟨_, rfl⟩
  have k89 : k = 8 ∨ k = 9 := by rw [hk]; split <;> simp
  have p61 : g_61 k (-1) (a : Int) sc ∧ f_61 k (-1) (a : Int) sc = ax_u2 (ax_u2 (ax_u2 (ax_u2 sc 67 (base + q) k) 68 (base + q) (-1)) 69 (base + q) (a : Int)) 66 7 ((base + q + 1 : Nat) : Int) := by
    unfold g_61 f_61
    rw [e7]
    refine ⟨⟨fun _ => trivial, fun _ => ⟨⟨by omega, by omega⟩, ⟨by omega, by omega⟩, ⟨by omega, by omega⟩, trivial⟩⟩, ?_⟩
    rw [if_neg (by omega), Int.toNat_natCast, w32_nat (by omega)]
  obtain ⟨sp, hsp⟩ : ∃ sp : Sg, sp = ax_u2 (ax_u2 (ax_u2 (ax_u2 sc 67 (base + q) k) 68 (base + q) (-1)) 69 (base + q) (a : Int)) 66 7 ((base + q + 1 : Nat) : Int) := ⟨_, rfl⟩
  obtain ⟨mp, hmp⟩ : ∃ mp : Sg, mp = ax_u2 (ax_u2 (ax_u2 (ax_u2 (adv (ax_u2 sm 84 70 0) (a + 1)) 129 (W + q) k) 130 (W + q) (a : Int)) 84 63 ((W + q + 1 : Nat) : Int)) 84 70 1 := ⟨_, rfl⟩
  have rS : ∀ c, ¬ (67 ≤ c ∧ c ≤ 69 ∨ c = 66) → sp c = sc c := fun c x => by
    rw [hsp, u2_row _ _ _ (by omega), u2_row _ _ _ (by omega), u2_row _ _ _ (by omega), u2_row _ _ _ (by omega)]
  have iS : ∀ c i, 67 ≤ c → c ≤ 69 → i ≠ base + q → sp c i = sc c i := fun c i x y w => by
    rw [hsp]; simp [ax_u2, w, show c ≠ 66 by omega]
  have rM : ∀ c, ¬ (c = 84 ∨ c = 129 ∨ c = 130) → mp c = sm c := fun c x => by
    rw [hmp, u2_row _ _ _ (by omega), u2_row _ _ _ (by omega), u2_row _ _ _ (by omega), u2_row _ _ _ (by omega), adv_row (by omega), u2_row _ _ _ (by omega)]
  have iM : ∀ c i, 129 ≤ c → c ≤ 131 → i ≠ W + q → mp c i = sm c i := fun c i x y w => by
    rw [hmp]; simp [ax_u2, adv, w, show c ≠ 84 by omega]
  have cM : ∀ j, j ≠ 18 → j ≠ 63 → j ≠ 70 → mp 84 j = sm 84 j := fun j x y w => by
    rw [hmp]; simp [ax_u2, adv, x, y, w]
  have ccp : CC T sp := e1.row (by rw [rS 39 (by omega)]) (rS 41 (by omega)) (rS 42 (by omega)) (rS 44 (by omega)) (by rw [rS 31 (by omega)]) (rS 1 (by omega))
  have cup : CU T sp a := by unfold CU at *; rw [rS 39 (by omega)]; exact e3
  have rC : ∀ c, c ≠ 39 → (cur T sp (a + 1)) c = sp c := fun c x => cur_row x
  refine ⟨cur T sp (a + 1), mp, ?_, ?_, by rw [hmp]; exact u2_same _ _ _ _, by rw [cM 6 (by decide) (by decide) (by decide)]; exact e5, ?_⟩
  · intro F l hl
    have fin : j_46_68 (j_46_2 F) (l : Int) sp = j_46_2 F ((l + 1 : Nat) : Int) (cur T sp (a + 1)) := by
      unfold j_46_68
      rw [nxt hT ccp cup (by rcases t1 with e | e <;> rw [e] <;> decide), w32_nat (by omega)]
    rw [j_46_2, if_neg (by omega), e3.2.1, e3.1]
    rcases t1 with e | e
    · rw [e, if_pos rfl] at hk
      rw [if_neg (by simp [e])]
      rw [hk] at p61
      rw [gd_pos p61.1, p61.2, Option.bind_some]
      rw [hk] at hsp
      rw [← hsp]
      exact fin
    · rw [e, if_neg (by decide)] at hk
      rw [if_pos (by rw [e]; decide), if_neg (by simp [e])]
      rw [hk] at p61
      rw [gd_pos p61.1, p61.2, Option.bind_some]
      rw [hk] at hsp
      rw [← hsp]
      exact fin
  · have fin : j_260_37 (a : Int) (adv (ax_u2 sm 84 70 0) (a + 1)) = some (1, mp) := by
      have a63 : (adv (ax_u2 sm 84 70 0) (a + 1)) 84 63 = ((W + q : Nat) : Int) := by rw [adv_col (by decide)]; simpa [ax_u2] using e8
      have a88 : (adv (ax_u2 sm 84 70 0) (a + 1)) 88 a = km (T.tk a) := by rw [adv_row (by decide)]; rw [u2_row _ _ _ (by decide)]; exact e2.2 a e3.2.2
      unfold j_260_37
      rw [gd_pos (by omega), a63, gd_pos (by omega), gd_pos (by omega), Int.toNat_natCast, Int.toNat_natCast, w32_nat (by omega), a88]
      have : ((if ¬ km (T.tk a) = 25 then 9 else 8) : Int) = k := by
        rw [hk]
        rcases t1 with e | e <;> rw [e] <;> decide
      rw [this, hmp]
    unfold f_260
    rw [if_pos (by omega), e4]
    rcases t1 with e | e
    · rw [eatY hM0 hT f0 u0 e3.2.2 (k := 126) (by decide) e]
      rw [if_pos (by simp)]
      exact fin
    · rw [eatN hM0 hT u0 e3.2.2 (k := 126) (by decide) (by decide) (by rw [e]; decide)]
      rw [if_neg (by simp), eatY hM0 hT f0 u0 e3.2.2 (k := 45) (by decide) e]
      rw [if_neg (by simp)]
      exact fin
  · have rM2 : ∀ c, ¬ (c = 84 ∨ c = 129 ∨ c = 130) → (ax_u2 mp 84 70 0) c = sm c := fun c x => by rw [u2_row _ _ _ (by omega)]; exact rM c x
    have iM2 : ∀ c i, 129 ≤ c → c ≤ 131 → i ≠ W + q → (ax_u2 mp 84 70 0) c i = sm c i := fun c i x y w => by rw [u2_row _ _ _ (by omega)]; exact iM c i x y w
    have cM2 : ∀ j, j ≠ 18 → j ≠ 63 → j ≠ 70 → (ax_u2 mp 84 70 0) 84 j = sm 84 j := fun j x y w => by rw [u2_col _ _ _ w]; exact cM j x y w
    have xB : XF sc sm (cur T sp (a + 1)) (ax_u2 mp 84 70 0) a (a + 1) N K (base + q) (W + q) (O + b) := ⟨fun k x => ⟨by rw [rC 45 (by decide), rS 45 (by omega)], by rw [rM2 91 (by omega)], by rw [rM2 92 (by omega)]⟩, fun c n x y _ => by rw [rC c (by omega), rS c (by omega)], fun c n x y _ => by rw [rM2 c (by omega)], fun j _ => by rw [rM2 125 (by omega)], fun c n x y _ => by rw [rC c (by omega), iS c n x y (by omega)], fun c n x y _ => by rw [rM2 c (by omega)], fun c n x y _ => iM2 c n x y (by omega), fun k _ => by rw [rM2 132 (by omega)]⟩
    have ec : EFc sc (cur T sp (a + 1)) := ⟨fun c x => by rw [rC c (by omega), rS c (by omega)], fun j x y => by rw [cur_col x y, rS 39 (by omega)], fun j _ => by rw [rC 30 (by decide), rS 30 (by omega)]⟩
    have em : EFm sm (ax_u2 mp 84 70 0) := ⟨fun c x => rM2 c (by omega), fun j x => cM2 j (by omega) (by omega) (by omega)⟩
    have nd : ND T (cur T sp (a + 1)) (ax_u2 mp 84 70 0) N K := e6.congr (by rw [rC 46 (by decide), rS 46 (by omega)]) (cM2 47 (by decide) (by decide) (by decide)) (cM2 57 (by decide) (by decide) (by decide)) (fun c n x y _ => by rw [rC c (by omega), rS c (by omega)]) (fun c n x y _ => by rw [rM2 c (by omega)]) (fun j _ => by rw [rM2 125 (by omega)])
    have s67 : (cur T sp (a + 1)) 67 (base + q) = k := by rw [rC 67 (by decide), hsp]; simp [ax_u2]
    have pk : T.tk a ∈ opA ∧ T.tk a ∈ opS ∧ T.tk a ≠ 1 := by rcases t1 with e | e <;> rw [e] <;> decide
    refine ⟨h.1.gen (xB.mono e22 (Nat.le_refl _) e21 e20 (by omega) (by omega) (by omega)) ec em (cur_cu (by omega)) ?_ ?_ nd ?_ ?_ ?_ ?_ (fun c n x y _ => by rw [rM2 c (by omega)]) (Nat.le_refl _) (Nat.le_refl _) (by omega), ?_, ?_, hKN, by rw [show a + 1 - 1 = a by omega]; exact pk.1⟩
    · rw [u2_col _ _ _ (by decide), hmp]; simp [ax_u2, adv]
    · rw [cM2 6 (by decide) (by decide) (by decide)]; exact e5
    · rw [rC 66 (by decide), hsp, u2_same]; omega
    · rw [u2_col _ _ _ (by decide), hmp]; simp [ax_u2, adv]; omega
    · rw [cM2 67 (by decide) (by decide) (by decide)]; exact e9
    · have : CN (cur T sp (a + 1)) ↔ CN sc := by unfold CN; rw [rC 30 (by decide), rS 30 (by omega)]
      rw [this]
      exact ⟨fun y => ⟨y, fun n y1 y2 => absurd y2 (by omega)⟩, fun y => y.1⟩
    · rw [cM2 59 (by decide) (by decide) (by decide)]; exact h59
    · refine Or.inl ⟨a, by rw [s67]; exact k89, ?_, ?_, ?_, rfl, ?_, SEG.tok T _ _ sn rp K a N (Or.inl ⟨hA, pk.2.1⟩) (fun y => pk.2.2 y.1), STK.xf (by rw [rC 37 (by decide), rS 37 (by omega)]) (rM2 93 (by omega)) _ _ _ _ hS xB⟩
      · rw [s67, u2_row _ _ _ (by decide), hmp]; simp [ax_u2]
      · rw [rC 69 (by decide), hsp]; simp [ax_u2]
      · rw [u2_row _ _ _ (by decide), hmp]; simp [ax_u2]
      · exact (e12 a (Nat.le_refl _) hz).lf.congr (by rw [rC 45 (by decide), rS 45 (by omega)]) (by rw [rM2 91 (by omega)]) (by rw [rM2 92 (by omega)]) (by rw [rM2 93 (by omega)])
/-- the reference, an operand being due -/
noncomputable def RP (l2 : Int) (F G : Nat) (sm : Sg) : Option (Int × Sg) := (f_260 sm).bind fun q => j_257_105 (j_257_25 F) G l2 q.1 0 q.2
/-- all prefixes -/
theorem pre_all {l2 : Int} {F : Nat} (hT : TWF T) : ∀ (r : Nat) {sc sm : Sg} {a q l : Nat} (Fc G : Nat), a + r = T.z → l ≤ a → T.z + 1 ≤ G + a → P1 T sc0 sm0 sn rp a0 N0 K0 base W O op sc sm a N K q b →
    ∃ (sc' sm' : Sg) (a' q' G' : Nat), j_46_2 (Fc + r + 1) (l : Int) sc = some sc' ∧ RP l2 F G sm = RP l2 F G' sm' ∧ P1 T sc0 sm0 sn rp a0 N0 K0 base W O op sc' sm' a' N K q' b ∧ a ≤ a' ∧ T.z + 1 ≤ G' + a' ∧ T.tk a' ≠ 126 ∧ T.tk a' ≠ 45 := by
  intro r
  induction r with
  | zero =>
    intro sc sm a q l Fc G ha hl hG h
    have h8 := hT.1
    have e3 := h.1.2.2.1
    have ta : T.tk a = 0 := by rw [show a = T.z by omega]; exact hT.2.1
    refine ⟨sc, sm, a, q, G, ?_, rfl, h, Nat.le_refl _, hG, by rw [ta]; decide, by rw [ta]; decide⟩
    rw [j_46_2, if_neg (by omega), e3.2.1, ta, if_pos (by decide), if_pos (by decide)]
  | succ r ih =>
    intro sc sm a q l Fc G ha hl hG h
    have h8 := hT.1
    have e3 := h.1.2.2.1
    by_cases t : T.tk a = 126 ∨ T.tk a = 45
    · obtain ⟨sc1, sm1, z1, z2, z3, z4, z5⟩ := pre_step hT h t
      obtain ⟨G, rfl⟩ : ∃ k, G = k + 1 := ⟨G - 1, by omega⟩
      obtain ⟨sc', sm', a', q', G', y1, y2, y3, y4, y5, y6, y7⟩ := ih (l := l + 1) Fc G (by omega) (by omega) (by omega) z5
      refine ⟨sc', sm', a', q', G', ?_, ?_, y3, by omega, y5, y6, y7⟩
      · rw [show Fc + (r + 1) + 1 = Fc + r + 1 + 1 by omega, z1 _ _ (by omega)]
        exact y1
      · rw [← y2]
        unfold RP
        rw [z2, Option.bind_some]
        dsimp only
        rw [j_257_105, if_neg (by simp [z4]), if_neg (by decide), if_neg (by simp [z3])]
    · refine ⟨sc, sm, a, q, G, ?_, rfl, h, Nat.le_refl _, hG, fun e => t (Or.inl e), fun e => t (Or.inr e)⟩
      rw [j_46_2, if_neg (by omega), e3.2.1, if_pos (fun e => t (Or.inl e)), if_pos (fun e => t (Or.inr e))]
end LEAF3
