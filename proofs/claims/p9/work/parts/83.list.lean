/-! LISTS: calls and joined ones. -/
/-- c of a list have been read, the next one is due -/
def LI (T : TT) (sc sm : Sg) (sn rp : Int) (a N K base W O op q b : Nat) (w : Int) (sc1 sm1 : Sg) (a1 N1 K1 c : Nat) : Prop :=
  CC T sc1 ∧ MC T sm1 ∧ CU T sc1 a1 ∧ sm1 84 18 = (a1 : Int) ∧ sm1 84 6 = 0 ∧ ND T sc1 sm1 N1 K1 ∧ sc1 66 7 = ((base + q : Nat) : Int) ∧ sm1 84 63 = ((W + q + 1 : Nat) : Int) ∧ sm1 84 59 = ((O + b + c : Nat) : Int) ∧ sm1 84 67 = ((op + 1 : Nat) : Int) ∧ sm1 84 68 = sn ∧ sm1 84 46 = rp ∧ sm1 84 70 = 0 ∧
  (∀ k, a1 ≤ k → k < T.z → FRS T sc1 sm1 k) ∧ XF sc sm sc1 sm1 a a1 N K (base + q) (W + q) (O + b) ∧ EFc sc sc1 ∧ EFm sm sm1 ∧ sm1 129 (W + q) = 100 + w ∧ sm1 130 (W + q) = (a : Int) ∧ sm1 131 (W + q) = ((O + b : Nat) : Int) ∧
  (∀ k, a ≤ k → k < a1 → LF T sc1 sm1 k) ∧ SEG T sc1 sm1 sn rp K1 (a + 2) a1 N N1 ∧ (∀ i, i < c → ∃ x : Nat, sm1 126 (O + b + i) = (x : Int) ∧ N ≤ x ∧ x < N1 ∧ sc1 52 x = (if i + 1 < c then sm1 126 (O + b + (i + 1)) else -1)) ∧ (∀ i, i + 1 = c → sm1 126 (O + b + i) = (N1 : Int) - 1) ∧
  (CN sc1 ↔ CN sc ∧ ∀ n, N ≤ n → n < N1 → NOK T (sc 37) sm1 n) ∧ K1 + O + b + c ≤ N1 ∧ a + 2 ≤ a1 ∧ N + c ≤ N1 ∧ K ≤ K1 ∧ T.tk (a1 - 1) ∈ opA
/-- a call, or a joined one -/
def KW (T : TT) (a : Nat) (k w : Int) : Prop := (k = 3 ∧ w = 3 ∧ T.tk a = 1) ∨ (k = 6 ∧ w = 5 ∧ T.tk a = 27)
section LS
variable {T : TT} {sc0 sm0 sc sm sc1 sm1 sc' sm' sB mB s : Sg} {sn rp l2 w k : Int} {a0 N0 K0 base W O op a a1 a' a2 N N1 N' K K1 K' q b o : Nat}
theorem LI.pre {c : Nat} (h : LI T sc sm sn rp a N K base W O op q b w sc1 sm1 a1 N1 K1 c) (hb : N + base + q ≤ a) (hW : W + q ≤ a) (hw : 0 ≤ w) : EPRE T sc1 sm1 sn rp a1 N1 K1 (base + q) (W + q + 1) (O + b + c) (op + 1) := by
  obtain ⟨l1, l2, l3, l4, l5, l6, l7, l8, l9, l10, l11, l12, l13, l14, l15, l16, l17, l18, l19, l20, l21, l22, l23, l24, l25, l26, l27, l28, l29, l30⟩ := h
  have := l22.2.2.1
  exact ⟨l1, l2, l3, l4, l5, l6, l7, l8, l9, l10, l11, l12, l14, Or.inr (by rw [show W + q + 1 - 1 = W + q by omega, l18]; omega), by omega, by omega, by omega, by omega, l30⟩
/-- f_126 on nothing -/
theorem link_0 {y : Int} : g_126 (-1) y s ∧ f_126 (-1) y s = s := by
  have e : f_114 (-1) s = 0 := if_pos (by decide)
  exact ⟨⟨fun _ => trivial, fun x => absurd e x⟩, by unfold f_126; rw [if_pos e]⟩
theorem list_loop {ex : Int → Sg → Option (Sum Sg (Nat × Sg))} {d : Nat} (hT : TWF T) (h : P1 T sc0 sm0 sn rp a0 N0 K0 base W O op sc sm a N K q b) (hk : KW T a k w) (t2 : T.tk (a + 1) = 40) (hd8 : d < 80) (hop : op ≤ 80)
    (IH : ∀ (sc1 sm1 : Sg) (a1 N1 K1 base1 W1 O1 F : Nat), EPRE T sc1 sm1 sn rp a1 N1 K1 base1 W1 O1 (op + 1) → T.z + 2 ≤ F + a1 → EOUT T sc1 sm1 sn rp a1 N1 K1 base1 W1 O1 (op + 1) l2 (ex ((d + 1 : Nat) : Int) sc1) (j_257_25 F l2 1 0 sm1)) :
    ∀ (r : Nat) {sc1 sm1 : Sg} {a1 N1 K1 c : Nat} (Fc F : Nat), a1 + r = T.z → LI T sc sm sn rp a N K base W O op q b w sc1 sm1 a1 N1 K1 c → T.z + 2 ≤ F + a1 →
    OOUT T sc0 sm0 sn rp a0 N0 K0 base W O op sc sm a N q b l2 (j_53_70 ex (Fc + r + 2) (d : Int) k (a : Int) ((if ¬ k = 6 then 0 else 2) : Int) ((if c = 0 then -1 else sm1 126 (O + b)) : Int) ((if c = 0 then -1 else (N1 : Int) - 1) : Int) (c : Int) 1 sc1) (j_257_25 F l2 1 0 sm1) := by
  obtain ⟨e1, -, e3, -, -, -, -, -, -, -, -, -, -, e14, -, -, -, e18, e19, e20, e21, e22, e23⟩ := id h.1
  have hS := h.2.2.1
  have hA := h.2.2.2.2
  have hKN := h.2.2.2.1
  have h8 := hT.1
  have bd := STK.bd _ _ _ _ h.2.2.1
  have wd : ax_w32 ((d : Int) + 1) = ((d + 1 : Nat) : Int) := w32_nat (by omega)
  have hw3 : 3 ≤ w ∧ w ≤ 5 ∧ ¬ w = 4 := by rcases hk with ⟨_, e, _⟩ | ⟨_, e, _⟩ <;> rw [e] <;> decide
  have hk36 : 3 ≤ k ∧ k ≤ 6 := by rcases hk with ⟨e, _⟩ | ⟨e, _⟩ <;> rw [e] <;> decide
  have hz := hT.lt e3.2.2 (by rcases hk with ⟨_, _, e⟩ | ⟨_, _, e⟩ <;> rw [e] <;> decide)
  intro r
  induction r using Nat.strongRecOn with
  | ind r ihr =>
  intro sc1 sm1 a1 N1 K1 c Fc F hr hL hF
  have hP := hL.pre (by omega) (by omega) (by omega)
  obtain ⟨-, -, l3, -, -, -, -, -, -, -, -, -, -, -, l15, l16, l17, l18, l19, l20, l21, l22, l23, l24, l25, l26, l27, l28, l29, -⟩ := id hL
  have lz := l3.2.2
  have ls := l22.2.2.1
  rw [show Fc + r + 2 = Fc + r + 1 + 1 by omega, j_53_70, if_neg (by decide), if_neg (by omega), wd]
  rcases IH _ _ _ _ _ _ _ _ F hP hF with ⟨sc', sm', a', N', K', r1, r2, r3, rS', r4⟩ | ⟨x, sc', mF, r1, r2, r3, r4, r5⟩
  · rw [r1]
    obtain ⟨i1, i2, i3, i4, i5, i6, i7, i8, i9, i10, i11, i12, i13, i14, i15, i16, i17, i18, i19, i20, i21, i22, i23⟩ := id r3.1
    obtain ⟨o1, o2, -, o6, -, o8⟩ := id r3.2.2.2.1
    obtain ⟨t1', _⟩ := id r3.2.2.2.2.1
    have hz' := i3.2.2
    have bs := o8.2.2.1
    have hK2 := r3.2.2.2.2.2.1
    have hB' := r3.2.2.2.2.2.2.1
    have w129 : sm' 129 (W + q) = 100 + w := by rw [i13.2.2.2.2.2.2.1 129 (W + q) (by decide) (by decide) (by omega)]; exact l18
    have w130 : sm' 130 (W + q) = (a : Int) := by rw [i13.2.2.2.2.2.2.1 130 (W + q) (by decide) (by decide) (by omega)]; exact l19
    have w131 : sm' 131 (W + q) = ((O + b : Nat) : Int) := by rw [i13.2.2.2.2.2.2.1 131 (W + q) (by decide) (by decide) (by omega)]; exact l20
    clear l18 l19 l20
    have hwm : ax_w32 (sm' 84 63 - 1) = ((W + q : Nat) : Int) := by rw [i8, w32_id (by omega) (by omega)]; omega
    clear wd
    -- the link
    obtain ⟨sL, hsL1, hsL2, rL, lk⟩ : ∃ sL : Sg, g_126 ((if c = 0 then -1 else (N1 : Int) - 1) : Int) (sc' 66 8) sc' ∧ f_126 ((if c = 0 then -1 else (N1 : Int) - 1) : Int) (sc' 66 8) sc' = sL ∧ (∀ b, b ≠ 52 → sL b = sc' b) ∧ (∀ x, sL 52 x = (if 0 < c ∧ x = N1 - 1 then (N' : Int) - 1 else sc' 52 x)) := by
      by_cases c0 : c = 0
      · rw [if_pos c0]
        exact ⟨sc', link_0.1, link_0.2, fun _ _ => rfl, fun x => by rw [if_neg (by omega)]⟩
      · rw [if_neg c0]
        obtain ⟨y1, y2⟩ := link_c (sc := sc') (x := (N1 : Int) - 1) (y := sc' 66 8) (r := N1 - 1) (N := N') (by omega) i6.1 (by omega) (by omega)
        refine ⟨_, y1, y2, fun b hb => u2_row _ _ _ hb, fun x => ?_⟩
        rw [t1']
        by_cases e : x = N1 - 1
        · subst e
          rw [u2_same, if_pos ⟨by omega, rfl⟩]
        · rw [u2_col _ _ _ e, if_neg (fun y => e y.2)]
    show OOUT T sc0 sm0 sn rp a0 N0 K0 base W O op sc sm a N q b l2 (gd (g_126 _ (sc' 66 8) sc') _) _
    rw [gd_pos hsL1, hsL2, Option.bind_some]
    have cuL : CU T sL a' := by unfold CU at *; rw [rL 39 (by decide)]; exact i3
    have ccL : CC T sL := i1.row (by rw [rL 39 (by decide)]) (rL 41 (by decide)) (rL 42 (by decide)) (rL 44 (by decide)) (by rw [rL 31 (by decide)]) (rL 1 (by decide))
    have efL : EFc sc' sL := ⟨fun c x => rL c (by omega), fun j _ _ => by rw [rL 39 (by decide)], fun j _ => by rw [rL 30 (by decide)]⟩
    rw [cuL.2.1, rL 66 (by decide), t1', w32_nat (i := c) (by omega)]
    -- nodes
    have nrt : 0 < c → ¬ CHD sm' N' (N1 - 1) := fun c0 => i6.root (fun m y1 y2 cc qq i z1 z2 z3 => by
      have := o8.kids (m := m) (by omega) y2 z1 z2 z3
      omega)
    have ndL : ND T sL sm' N' K' := by
      by_cases c0 : c = 0
      · have : sL = sc' := by
          funext x y
          by_cases e : x = 52
          · subst e
            rw [lk y, if_neg (by omega)]
          · rw [rL x e]
        rw [this]
        exact i6
      · have : sL = ax_u2 sc' 52 (N1 - 1) ((N' : Int) - 1) := by
          funext x y
          by_cases e : x = 52
          · subst e
            rw [lk y, u2_at]
            by_cases e2 : y = N1 - 1
            · rw [if_pos ⟨by omega, e2⟩, if_pos e2]
            · rw [if_neg (fun z => e2 z.2), if_neg e2]
          · rw [rL x e, u2_row _ _ _ e]
        rw [this]
        exact i6.link (nrt (by omega))
    have oldk : ∀ i, i < c → sm' 126 (O + b + i) = sm1 126 (O + b + i) := fun i hi => i13.2.2.2.2.2.1 126 (O + b + i) (by decide) (by decide) (by omega)
    have kidsL : ∀ i, i < c + 1 → ∃ x : Nat, sm' 126 (O + b + i) = (x : Int) ∧ N ≤ x ∧ x < N' ∧ sL 52 x = (if i + 1 < c + 1 then sm' 126 (O + b + (i + 1)) else -1) := by
      intro i hi
      by_cases ic : i = c
      · subst ic
        refine ⟨N' - 1, by have : O + b + i = O + b + i + 0 := rfl; rw [this, o2]; omega, by omega, by omega, ?_⟩
        rw [lk, if_neg (by omega), if_neg (by omega)]
        exact o6
      · obtain ⟨x, x1, x2, x3, x4⟩ := l23 i (by omega)
        refine ⟨x, by rw [oldk i (by omega)]; exact x1, x2, by omega, ?_⟩
        rw [if_pos (by omega), lk]
        by_cases il : i + 1 = c
        · have : x = N1 - 1 := by
            have := l24 i il
            rw [x1] at this
            omega
          rw [if_pos ⟨by omega, this⟩, il]
          exact o2.symm
        · rw [if_neg (fun y => ?_), i13.2.1 52 x (by decide) (by decide) x3, x4, if_pos (by omega), oldk (i + 1) (by omega)]
          have l24' := l24 (c - 1) (by omega)
          obtain ⟨x', x1', x2', x3', x4'⟩ := l23 (c - 1) (by omega)
          -- a chain member before the last has a follower
          have h1 : x' = N1 - 1 := by rw [x1'] at l24'; omega
          have h2 := x4
          rw [if_pos (by omega), y.2, ← h1, x4', if_neg (by omega)] at h2
          obtain ⟨x'', z1, _⟩ := l23 (i + 1) (by omega)
          rw [z1] at h2
          omega
    have sgL : SEG T sL sm' sn rp K' (a + 2) a' N N' := by
      have s1 : SEG T sL sm' sn rp K' (a + 2) a1 N N1 := l22.congr (fun b n x y _ z => i13.2.2.1 b n x y z) (fun n _ z => by rw [rL 48 (by decide)]; exact i13.2.1 48 n (by decide) (by decide) z) (by rw [rL 37 (by decide)]; exact i14.1 37 (by omega)) (fun j hj => i13.2.2.2.1 j hj) i20
      exact s1.merge (o8.congr (fun b n x y _ z => rfl) (fun n _ z => by rw [rL 48 (by decide)]) (rL 37 (by decide)) (fun j hj => rfl) (Nat.le_refl _))
    have efc : EFc sc sL := (l16.trans i14).trans efL
    have efm : EFm sm sm' := l17.trans i15
    have xL : XF sc sm sL sm' a a' N K (base + q) (W + q) (O + b) := by
      have x12 := l15.trans i13 (by omega) i22 (by omega) l29 (Nat.le_refl _) (by omega) (by omega)
      refine x12.trans (sc' := sc') (sm' := sm') (a' := a) (N1 := N) (K1 := K) (base1 := base + q) (W1 := W + q) (O1 := O + b) ⟨fun k _ => ⟨by rw [rL 45 (by decide)], rfl, rfl⟩, fun b n x y z => ?_, fun _ _ _ _ _ => rfl, fun _ _ => rfl, fun b i x y _ => by rw [rL b (by omega)], fun _ _ _ _ _ => rfl, fun _ _ _ _ _ => rfl, fun _ _ => rfl⟩ (Nat.le_refl _) (Nat.le_refl _) (Nat.le_refl _) (Nat.le_refl _) (Nat.le_refl _) (Nat.le_refl _) (Nat.le_refl _)
      by_cases e : b = 52
      · subst e
        rw [lk, if_neg (by omega)]
      · rw [rL b e]
    have cnL : CN sL ↔ CN sc ∧ ∀ n, N ≤ n → n < N' → NOK T (sc 37) sm' n := by
      have : CN sL ↔ CN sc' := by unfold CN; rw [rL 30 (by decide)]
      rw [this, i16, l25, l16.1 37 (by omega)]
      constructor
      · intro ⟨⟨y1, y2⟩, y3⟩
        refine ⟨y1, fun n z1 z2 => ?_⟩
        by_cases e : n < N1
        · rw [NOK.congr (fun b x y => i13.2.2.1 b n x y e)]; exact y2 n z1 e
        · exact y3 n (by omega) z2
      · intro ⟨y1, y2⟩
        refine ⟨⟨y1, fun n z1 z2 => ?_⟩, fun n z1 z2 => y2 n (by omega) z2⟩
        rw [← NOK.congr (fun b x y => i13.2.2.1 b n x y z2)]
        exact y2 n z1 (by omega)
    have flL : ∀ mU : Sg, (∀ k, a1 ≤ k → k < a' → LF T sc' mU k) → (∀ k, k < a1 ∨ a' ≤ k → mU 91 k = sm' 91 k) → (∀ c, c ≠ 91 → mU c = sm' c) → ∀ k, a ≤ k → k < a' → LF T sL mU k := by
      intro mU u2 u3 u4 k x y
      by_cases e : k < a1
      · exact (l21 k x e).congr (by rw [rL 45 (by decide)]; exact (i13.1 k (Or.inl e)).1) (by rw [u3 k (Or.inl e)]; exact (i13.1 k (Or.inl e)).2.1) (by rw [u4 92 (by decide)]; exact (i13.1 k (Or.inl e)).2.2) (by rw [u4 93 (by decide), i15.1 93 (by omega)])
      · exact (u2 k (by omega) y).congr (by rw [rL 45 (by decide)]) rfl rfl rfl
    -- what comes first
    have fst : ((if ¬ (c : Int) = 0 then (if c = 0 then -1 else sm1 126 (O + b)) else (N' : Int) - 1) : Int) = sm' 126 (O + b) := by
      by_cases c0 : c = 0
      · subst c0
        rw [if_neg (by simp)]
        exact o2.symm
      · rw [if_pos (by omega), if_neg c0]
        exact (oldk 0 (by omega)).symm
    rw [fst]
    -- the reference faults
    have badm : T.tk a' ≠ 44 → (T.tk a' ≠ 41 ∨ (k = 6 ∧ c = 0)) → ∃ mF : Sg, j_257_25 F l2 1 0 sm1 = some (0, mF) ∧ BDm sm mF := by
      intro tn tn2
      rcases r4 with ⟨F', G', y1, y2, y3, y4, y5⟩ | ⟨_, mF, y2, y3⟩
      · obtain ⟨mU, u0', u1, u2, u3, u4⟩ := RC.use hT r3 (by rw [show W + q + 1 - 1 = W + q by omega, w129]; omega) (by omega) G' (by omega)
        have mcU : MC T mU := i2.row (by rw [u4 84 (by decide)]) (u4 88 (by decide))
        have fU : mU 84 6 = 0 := by rw [u4 84 (by decide)]; exact i5
        have aU : mU 84 18 = (a' : Int) := by rw [u4 84 (by decide)]; exact i4
        have m59 : ax_w32 (mU 84 59 - ((O + b : Nat) : Int)) = ((c + 1 : Nat) : Int) := by rw [u4 84 (by decide), r3.2.1, w32_id (by omega) (by omega)]; omega
        have cU : ∀ v w : Int, ∀ j, j ≠ 6 → j ≠ 7 → j ≠ 63 → j ≠ 67 → (ax_u2 (ax_u2 (tel mU 2 a') 84 63 v) 84 67 w) 84 j = sm' 84 j := fun v w j x x' y z => by rw [u2_col _ _ _ z, u2_col _ _ _ y, tel_col x x', u4 84 (by decide)]
        have fin : ∀ (v w kk : Int), ∃ mD : Sg, f_266 kk (a : Int) (a : Int) (-1) ((c + 1 : Nat) : Int) (ax_u2 (ax_u2 (tel mU 2 a') 84 63 v) 84 67 w) = some mD ∧ EFm sm' mD ∧ 0 < mD 84 6 := by
          intro v w kk
          obtain ⟨mD, v1, v2⟩ := m266 (s := ax_u2 (ax_u2 (tel mU 2 a') 84 63 v) 84 67 w) (N := N') (K := K') (o := O + b) (c := c + 1) (by rw [cU v w 47 (by decide) (by decide) (by decide) (by decide)]; exact i6.2.1) (by rw [cU v w 57 (by decide) (by decide) (by decide) (by decide)]; exact i6.2.2.1) (by rw [cU v w 59 (by decide) (by decide) (by decide) (by decide)]; exact r3.2.1) (by omega) (by omega) (by omega) (by omega) kk (a : Int) (a : Int) (-1)
          refine ⟨mD, v1, EFm.trans (sm' := ax_u2 (ax_u2 (tel mU 2 a') 84 63 v) 84 67 w) ⟨fun c x => ?_, fun j x => cU v w j (by omega) (by omega) (by omega) (by omega)⟩ v2.ef, ?_⟩
          · rw [u2_row _ _ _ (by omega), u2_row _ _ _ (by omega), tel_row (by omega)]
            exact u4 c (by omega)
          · rw [v2.2.2.2.2.2.2.2.2.2.2.2.2.2.2.2.2.2.2.2 6 (by decide) (by decide) (by decide), u2_col _ _ _ (by decide), u2_col _ _ _ (by decide), tel_at]
            decide
        have h271 : ∃ (v : Int) (mD : Sg), f_271 ((W + q : Nat) : Int) (a : Int) mU = some (v, mD) ∧ EFm sm' mD ∧ 0 < mD 84 6 := by
          have j49 : ∀ l3 : Int, T.tk a' ≠ 41 → ∃ (v : Int) (mD : Sg), j_271_49 (a : Int) l3 ((c + 1 : Nat) : Int) mU = some (v, mD) ∧ EFm sm' mD ∧ 0 < mD 84 6 := by
            intro l3 t41
            unfold j_271_49
            rw [eatN mcU hT aU hz' (k := 44) (by decide) (by decide) tn]
            rw [if_pos rfl, takeN mcU hT fU aU hz' (k := 41) (by decide) (by decide) t41, Option.bind_some]
            dsimp only
            obtain ⟨mD, d1, d2, d3⟩ := fin (ax_w32 ((tel mU 2 a') 84 63 - 1)) (ax_w32 ((tel mU 2 a') 84 67 - 1)) ((if l3 = 0 then 3 else 6) : Int)
            rw [d1, Option.bind_some]
            exact ⟨0, mD, rfl, d2, d3⟩
          unfold f_271
          rw [gd_pos (by omega), gd_pos (by omega), Int.toNat_natCast, u4 129 (by decide), u4 131 (by decide), w129, w131, m59]
          by_cases k6 : (if ¬ 100 + w = 105 then 0 else 1 : Int) = 0
          · rw [if_pos k6]
            apply j49
            rcases tn2 with y | ⟨y, _⟩
            · exact y
            · have : w = 5 := by
                rcases hk with ⟨e, _⟩ | ⟨_, e, _⟩
                · omega
                · exact e
              rw [this] at k6
              exact absurd k6 (by decide)
          · rw [if_neg k6]
            by_cases c1 : c = 0
            · rw [if_neg (by rw [c1]; decide), takeN mcU hT fU aU hz' (k := 44) (by decide) (by decide) tn, Option.bind_some]
              refine ⟨1, tel mU 2 a', rfl, ⟨fun c x => ?_, fun j x => ?_⟩, by rw [tel_at]; decide⟩
              · rw [tel_row (by omega)]; exact u4 c (by omega)
              · rw [tel_col (by omega) (by omega), u4 84 (by decide)]
            · rw [if_pos (by omega)]
              apply j49
              rcases tn2 with y | ⟨_, y⟩
              · exact y
              · exact absurd y c1
        obtain ⟨v, mD, d1, d2, d3⟩ := h271
        refine ⟨mD, ?_, efm.trans d2, d3⟩
        rw [y1]
        unfold RC
        rw [u0']
        unfold j_270_85
        rw [if_pos (by omega), hwm, gd_pos (by omega), u1, Option.bind_some, gd_pos (by omega), Int.toNat_natCast, u4 129 (by decide), w129, w130, w32_id (by omega) (by omega), if_neg (by omega), if_neg (by omega), if_neg (by omega), if_neg (by omega), d1, Option.bind_some, Option.bind_some]
        exact flt_105 (by omega) FU1 d3
      · exact ⟨mF, y2, l17.trans y3.1, y3.2⟩
    by_cases tc : T.tk a' = 44
    · -- one more
      have z3 := hT.lt hz' (by rw [tc]; decide)
      have more : ((if ((c + 1 : Nat) : Int) < (if ¬ k = 6 then 0 else 2) then 1 else (if ¬ T.tk a' = 44 then 0 else 1)) : Int) = 1 := by
        rw [tc]
        split <;> simp
      rw [more, if_neg (by decide), c92y hT ccL cuL tc (by decide)]
      rcases r4 with ⟨F', G', y1, y2, y3, y4, y5⟩ | ⟨y1, _⟩
      · obtain ⟨mU, u0', u1, u2, u3, u4⟩ := RC.use hT r3 (by rw [show W + q + 1 - 1 = W + q by omega, w129]; omega) (by omega) G' (by omega)
        have mcU : MC T mU := i2.row (by rw [u4 84 (by decide)]) (u4 88 (by decide))
        have fU : mU 84 6 = 0 := by rw [u4 84 (by decide)]; exact i5
        have aU : mU 84 18 = (a' : Int) := by rw [u4 84 (by decide)]; exact i4
        have h271 : f_271 ((W + q : Nat) : Int) (a : Int) mU = some (1, adv mU (a' + 1)) := by
          unfold f_271
          rw [gd_pos (by omega), gd_pos (by omega), Int.toNat_natCast, u4 129 (by decide), u4 131 (by decide), w129, w131]
          have j49 : ∀ l3 l4 : Int, j_271_49 (a : Int) l3 l4 mU = some (1, adv mU (a' + 1)) := by
            intro l3 l4
            unfold j_271_49
            rw [eatY mcU hT fU aU hz' (k := 44) (by decide) tc]
            rw [if_neg (by simp)]
          by_cases k6 : (if ¬ 100 + w = 105 then 0 else 1 : Int) = 0
          · rw [if_pos k6]
            exact j49 _ _
          · rw [if_neg k6]
            by_cases c1 : ax_w32 (mU 84 59 - ((O + b : Nat) : Int)) = 1
            · rw [if_neg (fun y => y c1), takeY mcU hT fU aU hz' (k := 44) (by decide) tc]
              rfl
            · rw [if_pos c1]
              exact j49 _ _
        have ref : j_257_25 F l2 1 0 sm1 = j_257_25 F' l2 1 0 (adv mU (a' + 1)) := by
          rw [y1]
          unfold RC
          rw [u0']
          unfold j_270_85
          rw [if_pos (by omega), hwm, gd_pos (by omega), u1, Option.bind_some, gd_pos (by omega), Int.toNat_natCast, u4 129 (by decide), w129, w130, w32_id (by omega) (by omega), if_neg (by omega), if_neg (by omega), if_neg (by omega), if_neg (by omega), h271, Option.bind_some, Option.bind_some]
          dsimp only
          rw [if_neg (by decide), if_pos (by decide)]
          exact go_25s FU1 (by rw [adv_col (by decide)]; exact fU) (by rw [adv_col (by decide), u4 84 (by decide)]; exact r3.2.2.2.2.2.2.2)
        rw [ref]
        have rA : ∀ c, c ≠ 84 → c ≠ 91 → (adv mU (a' + 1)) c = sm' c := fun c x y => by rw [adv_row x]; exact u4 c y
        have cA : ∀ j, j ≠ 18 → (adv mU (a' + 1)) 84 j = sm' 84 j := fun j x => by rw [adv_col x, u4 84 (by decide)]
        have rS : ∀ c, c ≠ 39 → (cur T sL (a' + 1)) c = sL c := fun c x => cur_row x
        have nx := ihr (r - (a' + 1 - a1)) (by omega) (sc1 := cur T sL (a' + 1)) (sm1 := adv mU (a' + 1)) (a1 := a' + 1) (N1 := N') (K1 := K') (c := c + 1) (Fc + (r - (r - (a' + 1 - a1))) - 1) F' (by omega) ?_ (by omega)
        · rw [if_neg (show ¬ c + 1 = 0 by omega), if_neg (show ¬ c + 1 = 0 by omega), rA 126 (by decide) (by decide), show Fc + (r - (r - (a' + 1 - a1))) - 1 + (r - (a' + 1 - a1)) + 2 = Fc + r + 1 by omega] at nx
          exact nx
        · have xN : XF sc sm (cur T sL (a' + 1)) (adv mU (a' + 1)) a (a' + 1) N K (base + q) (W + q) (O + b) := by
            refine xL.trans (a' := a) (N1 := N) (K1 := K) (base1 := base + q) (W1 := W + q) (O1 := O + b) ⟨fun k x => ⟨by rw [rS 45 (by decide)], by rw [adv_row (by decide)]; exact u3 k (by omega), by rw [rA 92 (by decide) (by decide)]⟩, fun b n x y _ => by rw [rS b (by omega)], fun b n x y _ => by rw [rA b (by omega) (by omega)], fun j _ => by rw [rA 125 (by decide) (by decide)], fun b n x y _ => by rw [rS b (by omega)], fun b n x y _ => by rw [rA b (by omega) (by omega)], fun b n x y _ => by rw [rA b (by omega) (by omega)], fun k _ => by rw [rA 132 (by decide) (by decide)]⟩ (Nat.le_refl _) (by omega) (Nat.le_refl _) (Nat.le_refl _) (Nat.le_refl _) (Nat.le_refl _) (Nat.le_refl _)
          refine ⟨cur_cc ccL, adv_mc mcU, cur_cu (by omega), adv_at, by rw [adv_col (by decide)]; exact fU, ?_, by rw [rS 66 (by decide), rL 66 (by decide)]; exact i7, by rw [cA 63 (by decide)]; exact i8, by rw [cA 59 (by decide)]; exact r3.2.1, by rw [cA 67 (by decide)]; exact i9, by rw [cA 68 (by decide)]; exact i10, by rw [cA 46 (by decide)]; exact i11, by rw [cA 70 (by decide)]; exact r3.2.2.2.2.2.2.2, ?_, xN, efc.trans cur_ef, ?_, by rw [rA 129 (by decide) (by decide)]; exact w129, by rw [rA 130 (by decide) (by decide)]; exact w130, by rw [rA 131 (by decide) (by decide)]; exact w131, ?_, ?_, ?_, ?_, ?_, by omega, by omega, by omega, by omega, by rw [show a' + 1 - 1 = a' by omega, tc]; decide⟩
          · exact ndL.congr (by rw [rS 46 (by decide)]) (cA 47 (by decide)) (cA 57 (by decide)) (fun b n x y _ => by rw [rS b (by omega)]) (fun b n x y _ => by rw [rA b (by omega) (by omega)]) (fun j _ => by rw [rA 125 (by decide) (by decide)])
          · intro k x y
            obtain ⟨g1, g2, g3, g4⟩ := i12 k (by omega) y
            exact ⟨by rw [rS 45 (by decide), rL 45 (by decide)]; exact g1, by rw [adv_row (by decide), u3 k (by omega)]; exact g2, by rw [rA 92 (by decide) (by decide)]; exact g3, by rw [rA 93 (by decide) (by decide)]; exact g4⟩
          · exact efm.trans ⟨fun c x => rA c (by omega) (by omega), fun j x => cA j (by omega)⟩
          · intro k x y
            by_cases e : k < a'
            · exact (flL mU u2 u3 u4 k x e).congr (by rw [rS 45 (by decide)]) (by rw [adv_row (by decide)]) (by rw [adv_row (by decide)]) (by rw [adv_row (by decide)])
            · exact (i12 k (by omega) (by omega)).lf.congr (by rw [rS 45 (by decide), rL 45 (by decide)]) (by rw [adv_row (by decide), u3 k (by omega)]) (by rw [rA 92 (by decide) (by decide)]) (by rw [rA 93 (by decide) (by decide)])
          · have s1 : SEG T (cur T sL (a' + 1)) (adv mU (a' + 1)) sn rp K' (a + 2) a' N N' := sgL.rows (fun c x y => rA c (by omega) (by omega)) (rS 48 (by decide)) (rS 37 (by decide))
            exact s1.merge (SEG.tok T _ _ sn rp K' a' N' (Or.inr (Or.inl ⟨hB', by rw [tc]; decide⟩)) (fun y => by rw [tc] at y; exact absurd y.1 (by decide)))
          · intro i hi
            obtain ⟨x, x1, x2, x3, x4⟩ := kidsL i hi
            exact ⟨x, by rw [rA 126 (by decide) (by decide)]; exact x1, x2, x3, by rw [rS 52 (by decide), rA 126 (by decide) (by decide)]; exact x4⟩
          · intro i hi
            rw [rA 126 (by decide) (by decide), show i = c by omega]
            exact o2
          · have : CN (cur T sL (a' + 1)) ↔ CN sL := by unfold CN; rw [rS 30 (by decide)]
            rw [this, cnL]
            exact ⟨fun y => ⟨y.1, fun n z1 z2 => (NOK.congr (fun b x y => by rw [rA b (by omega) (by omega)])).mpr (y.2 n z1 z2)⟩, fun y => ⟨y.1, fun n z1 z2 => (NOK.congr (fun b x y => by rw [rA b (by omega) (by omega)])).mp (y.2 n z1 z2)⟩⟩
      · rw [tc] at y1; omega
    · by_cases c2 : k = 6 ∧ c = 0
      · -- a comma is due
        have more : ((if ((c + 1 : Nat) : Int) < (if ¬ k = 6 then 0 else 2) then 1 else (if ¬ T.tk a' = 44 then 0 else 1)) : Int) = 1 := by
          rw [c2.1, c2.2, if_pos (by decide)]
        rw [more, if_neg (by decide), c92n cuL tc]
        obtain ⟨mF, x1, x2⟩ := badm tc (Or.inr c2)
        exact Or.inr ⟨15, sL, mF, rfl, Or.inr rfl, ⟨efc, a', cuL⟩, x1, x2⟩
      · have more : ((if ((c + 1 : Nat) : Int) < (if ¬ k = 6 then 0 else 2) then 1 else (if ¬ T.tk a' = 44 then 0 else 1)) : Int) = 0 := by
          rw [if_neg ?_, if_pos tc]
          rcases hk with ⟨y, _⟩ | ⟨y, _⟩
          · rw [y]; simp; omega
          · rw [y]; simp; omega
        rw [more, if_pos rfl, j_53_70, if_pos rfl]
        unfold j_53_171
        by_cases tp : T.tk a' = 41
        · have z3 := hT.lt hz' (by rw [tp]; decide)
          rw [c92y hT ccL cuL tp (by decide)]
          rcases r4 with ⟨F', G', y1, y2, y3, y4, y5⟩ | ⟨y1, _⟩
          · obtain ⟨mU, u0', u1, u2, u3, u4⟩ := RC.use hT r3 (by rw [show W + q + 1 - 1 = W + q by omega, w129]; omega) (by omega) G' (by omega)
            have mcU : MC T mU := i2.row (by rw [u4 84 (by decide)]) (u4 88 (by decide))
            have fU : mU 84 6 = 0 := by rw [u4 84 (by decide)]; exact i5
            have aU : mU 84 18 = (a' : Int) := by rw [u4 84 (by decide)]; exact i4
            have m59 : ax_w32 (mU 84 59 - ((O + b : Nat) : Int)) = ((c + 1 : Nat) : Int) := by rw [u4 84 (by decide), r3.2.1, w32_id (by omega) (by omega)]; omega
            have rS : ∀ c, c ≠ 39 → (cur T sL (a' + 1)) c = sL c := fun c x => cur_row x
            have rU : ∀ c, c ≠ 91 → c ≠ 84 → (ax_u2 (ax_u2 (adv mU (a' + 1)) 84 63 ((W + q : Nat) : Int)) 84 67 (op : Int)) c = sm' c := fun c x y => by rw [u2_row _ _ _ y, u2_row _ _ _ y, adv_row y]; exact u4 c x
            have cU : ∀ j, j ≠ 18 → j ≠ 63 → j ≠ 67 → (ax_u2 (ax_u2 (adv mU (a' + 1)) 84 63 ((W + q : Nat) : Int)) 84 67 (op : Int)) 84 j = sm' 84 j := fun j x y w => by rw [u2_col _ _ _ w, u2_col _ _ _ y, adv_col x, u4 84 (by decide)]
            have r91 : (ax_u2 (ax_u2 (adv mU (a' + 1)) 84 63 ((W + q : Nat) : Int)) 84 67 (op : Int)) 91 = mU 91 := by rw [u2_row _ _ _ (by decide), u2_row _ _ _ (by decide), adv_row (by decide)]
            have m1 : XF sc sm (cur T sL (a' + 1)) (ax_u2 (ax_u2 (adv mU (a' + 1)) 84 63 ((W + q : Nat) : Int)) 84 67 (op : Int)) a (a' + 1) N K (base + q) (W + q) (O + b) := by
              refine xL.trans (a' := a) (N1 := N) (K1 := K) (base1 := base + q) (W1 := W + q) (O1 := O + b) ⟨fun k x => ⟨by rw [rS 45 (by decide)], by rw [r91]; exact u3 k (by omega), by rw [rU 92 (by decide) (by decide)]⟩, fun b n x y _ => by rw [rS b (by omega)], fun b n x y _ => by rw [rU b (by omega) (by omega)], fun j _ => by rw [rU 125 (by decide) (by decide)], fun b n x y _ => by rw [rS b (by omega)], fun b n x y _ => by rw [rU b (by omega) (by omega)], fun b n x y _ => by rw [rU b (by omega) (by omega)], fun k _ => by rw [rU 132 (by decide) (by decide)]⟩ (Nat.le_refl _) (by omega) (Nat.le_refl _) (Nat.le_refl _) (Nat.le_refl _) (Nat.le_refl _) (Nat.le_refl _)
            have m2 : EFc sc (cur T sL (a' + 1)) := efc.trans cur_ef
            have m3 : EFm sm (ax_u2 (ax_u2 (adv mU (a' + 1)) 84 63 ((W + q : Nat) : Int)) 84 67 (op : Int)) := efm.trans ⟨fun c x => rU c (by omega) (by omega), fun j x => cU j (by omega) (by omega) (by omega)⟩
            have m4 : ND T (cur T sL (a' + 1)) (ax_u2 (ax_u2 (adv mU (a' + 1)) 84 63 ((W + q : Nat) : Int)) 84 67 (op : Int)) N' K' := ndL.congr (by rw [rS 46 (by decide)]) (cU 47 (by decide) (by decide) (by decide)) (cU 57 (by decide) (by decide) (by decide)) (fun b n x y _ => by rw [rS b (by omega)]) (fun b n x y _ => by rw [rU b (by omega) (by omega)]) (fun j _ => by rw [rU 125 (by decide) (by decide)])
            have m5 : ∀ c n, 116 ≤ c → c ≤ 124 → n < N → (ax_u2 (ax_u2 (adv mU (a' + 1)) 84 63 ((W + q : Nat) : Int)) 84 67 (op : Int)) c n = sm c n := fun c n x y z => m1.2.2.1 c n x y z
            have sB46 : (cur T sL (a' + 1)) 46 7 = (N' : Int) := m4.1
            obtain ⟨g1, g2, g3, g4⟩ := c124 sB46 (by omega) k (a : Int) (sm' 126 (O + b)) ((c + 1 : Nat) : Int) 10
            obtain ⟨mD, v1, v2⟩ := m266 (s := (ax_u2 (ax_u2 (adv mU (a' + 1)) 84 63 ((W + q : Nat) : Int)) 84 67 (op : Int))) (N := N') (K := K') (o := O + b) (c := c + 1) m4.2.1 m4.2.2.1 (by rw [cU 59 (by decide) (by decide) (by decide)]; exact r3.2.1) (by omega) (by omega) (by omega) (by omega) k (a : Int) (a : Int) (-1)
            have lv : lev k = 10 := by rcases hk with ⟨y, _⟩ | ⟨y, _⟩ <;> rw [y] <;> decide
            have sgB : SEG T (cur T sL (a' + 1)) (ax_u2 (ax_u2 (adv mU (a' + 1)) 84 63 ((W + q : Nat) : Int)) 84 67 (op : Int)) sn rp K' (a + 2) a' N N' := sgL.rows (fun c x y => rU c (by omega) (by omega)) (rS 48 (by decide)) (rS 37 (by decide))
            have kdB : ∀ i, i < c + 1 → ∃ x : Nat, (ax_u2 (ax_u2 (adv mU (a' + 1)) 84 63 ((W + q : Nat) : Int)) 84 67 (op : Int)) 126 (O + b + i) = (x : Int) ∧ x < N' ∧ (cur T sL (a' + 1)) 52 x = (if i + 1 < c + 1 then (ax_u2 (ax_u2 (adv mU (a' + 1)) 84 63 ((W + q : Nat) : Int)) 84 67 (op : Int)) 126 (O + b + (i + 1)) else -1) := fun i hi => by
              obtain ⟨x, x1, x2, x3, x4⟩ := kidsL i hi
              exact ⟨x, by rw [rU 126 (by decide) (by decide)]; exact x1, x3, by rw [rS 52 (by decide), rU 126 (by decide) (by decide)]; exact x4⟩
            have kdN : ∀ i, i < c + 1 → (N : Int) ≤ (ax_u2 (ax_u2 (adv mU (a' + 1)) 84 63 ((W + q : Nat) : Int)) 84 67 (op : Int)) 126 (O + b + i) := fun i hi => by
              obtain ⟨x, x1, x2, x3, x4⟩ := kidsL i hi
              rw [rU 126 (by decide) (by decide), x1]
              omega
            have flB : ∀ k, a ≤ k → k < a' + 1 → LF T (cur T sL (a' + 1)) (ax_u2 (ax_u2 (adv mU (a' + 1)) 84 63 ((W + q : Nat) : Int)) 84 67 (op : Int)) k := by
              intro k x y
              by_cases e : k < a'
              · exact (flL mU u2 u3 u4 k x e).congr (by rw [rS 45 (by decide)]) (by rw [r91]) (by rw [rU 92 (by decide) (by decide), u4 92 (by decide)]) (by rw [rU 93 (by decide) (by decide), u4 93 (by decide)])
              · exact (i12 k (by omega) (by omega)).lf.congr (by rw [rS 45 (by decide), rL 45 (by decide)]) (by rw [r91, u3 k (by omega)]) (by rw [rU 92 (by decide) (by decide)]) (by rw [rU 93 (by decide) (by decide)])
            have cnB : CN (cur T sL (a' + 1)) ↔ CN sL := by unfold CN; rw [rS 30 (by decide)]
            have lw : (cur T sL (a' + 1)) 37 = sc 37 := m2.1 37 (by omega)
            have lw0 : sc 37 = sc0 37 := e14.1 37 (by omega)
            have old : ∀ n, n < N' → (NOK T (sc0 37) mD n ↔ NOK T (sc 37) sm' n) := fun n hn => by
              rw [lw0]
              exact NOK.congr (fun c x y => by rw [v2.2.2.2.2.2.2.2.2.2.2.2.2.2.2.2.1 c n x y (by omega), rU c (by omega) (by omega)])
            have hide : ∃ sH : Sg, f_54 (a : Int) (f_64 (N' : Int) (a : Int) 10 (f_124 k (a : Int) (sm' 126 (O + b)) ((c + 1 : Nat) : Int) (cur T sL (a' + 1))).2) = some sH ∧ ∃ wd : Int, MKC (cur T sL (a' + 1)) sH N' k (a : Int) (sm' 126 (O + b)) ((c + 1 : Nat) : Int) wd (-1) 10 ∧ (k = 6 → wd = 0) ∧ (k = 3 → wd = (cur T sL (a' + 1)) 37 (T.vl a).toNat) ∧ (CN sH ↔ CN (cur T sL (a' + 1)) ∧ (k = 6 ∨ (cur T sL (a' + 1)) 37 (T.vl a).toNat = 0)) := by
              rcases hk with ⟨y, _, ta⟩ | ⟨y, _, ta⟩
              · obtain ⟨sH, k1, k2, k3⟩ := hide_c hT (g3.ef.cc (m2.cc e1)) g3 (by omega) g4 hz ta
                refine ⟨sH, k1, _, k2, fun z => by omega, fun _ => rfl, ?_⟩
                rw [k3]
                exact ⟨fun z => ⟨z.1, by rcases z.2 with u | u; omega; exact Or.inr u⟩, fun z => ⟨z.1, by rcases z.2 with u | u; omega; exact Or.inr u⟩⟩
              · refine ⟨_, hide_n hT (g3.ef.cc (m2.cc e1)) (by omega) (by rw [ta]; decide), 0, g3, fun _ => rfl, fun z => by omega, ?_⟩
                have : CN (f_64 (N' : Int) (a : Int) 10 (f_124 k (a : Int) (sm' 126 (O + b)) ((c + 1 : Nat) : Int) (cur T sL (a' + 1))).2) ↔ CN (cur T sL (a' + 1)) := by unfold CN; rw [g4]
                rw [this]
                exact ⟨fun z => ⟨z, Or.inl y⟩, fun z => z.1⟩
            obtain ⟨sH, k1, wdd, k2, k6, k3', kcn⟩ := hide
            refine Or.inl ⟨_, sH, mD, a' + 1, N' + 1, K' + (c + 1), F', ?_, k1, ?_, by omega, by omega, MKP2 h.1 hS m1 m2 m3 (cur_cu (by omega)) ?_ ?_ m4 ?_ ?_ ?_ m5 flB (by rw [lv]; exact k2) v2 rfl rfl (Nat.le_refl _) (by omega) (by omega) (by omega) ?_ (by rw [if_pos (by omega), rU 126 (by decide) (by decide)]) kdB ?_ ?_ ?_ (by omega) (by omega) (by rw [show a' + 1 - 1 = a' by omega, tp]; decide) (by omega) (by omega) (by omega) ?_⟩
            · show gd _ _ = _
              rw [gd_pos g1, Option.bind_some, g2]
              rfl
            · have j49 : ∀ l3 : Int, (if l3 = 0 then 3 else 6 : Int) = k → j_271_49 (a : Int) l3 ((c + 1 : Nat) : Int) mU = some (0, mD) := by
                intro l3 hl3
                unfold j_271_49
                rw [eatN mcU hT aU hz' (k := 44) (by decide) (by decide) tc]
                rw [if_pos rfl, takeY mcU hT fU aU hz' (k := 41) (by decide) tp, Option.bind_some]
                dsimp only
                have e63 : ax_w32 ((adv mU (a' + 1)) 84 63 - 1) = ((W + q : Nat) : Int) := by rw [adv_col (by decide), u4 84 (by decide)]; exact hwm
                have e67 : ax_w32 ((adv mU (a' + 1)) 84 67 - 1) = (op : Int) := by rw [adv_col (by decide), u4 84 (by decide), i9, w32_id (by omega) (by omega)]; omega
                rw [e63, e67, hl3, v1]
                rfl
              have h271 : f_271 ((W + q : Nat) : Int) (a : Int) mU = some (0, mD) := by
                unfold f_271
                rw [gd_pos (by omega), gd_pos (by omega), Int.toNat_natCast, u4 129 (by decide), u4 131 (by decide), w129, w131, m59]
                rcases hk with ⟨y, yw, _⟩ | ⟨y, yw, _⟩
                · have k6 : (if ¬ 100 + w = 105 then 0 else 1 : Int) = 0 := by rw [yw]; decide
                  rw [if_pos k6]
                  exact j49 _ (by rw [if_pos k6, y])
                · have k6 : ¬ (if ¬ 100 + w = 105 then 0 else 1 : Int) = 0 := by rw [yw]; decide
                  rw [if_neg k6, if_pos (by omega)]
                  exact j49 _ (by rw [if_neg k6, y])
              rw [y1]
              unfold RC
              rw [u0']
              unfold j_270_85
              rw [if_pos (by omega), hwm, gd_pos (by omega), u1, Option.bind_some, gd_pos (by omega), Int.toNat_natCast, u4 129 (by decide), w129, w130, w32_id (by omega) (by omega), if_neg (by omega), if_neg (by omega), if_neg (by omega), if_neg (by omega), h271, Option.bind_some, Option.bind_some]
              dsimp only
              rw [if_pos (by decide), if_pos (by decide)]
              exact go_25 FU1 (by rw [v2.2.2.2.2.2.2.2.2.2.2.2.2.2.2.2.2.2.2.2 6 (by decide) (by decide) (by decide), cU 6 (by decide) (by decide) (by decide)]; exact i5)
            · rw [u2_col _ _ _ (by decide), u2_col _ _ _ (by decide)]; exact adv_at
            · rw [cU 6 (by decide) (by decide) (by decide)]; exact i5
            · rw [rS 66 (by decide), rL 66 (by decide)]; exact i7
            · rw [u2_col _ _ _ (by decide)]; exact u2_same _ _ _ _
            · exact u2_same _ _ _ _
            · rcases hk with ⟨y, _⟩ | ⟨y, _⟩
              · rw [y]; exact ⟨fun z => by omega, fun z => by omega, fun z => by omega, fun z => by omega, fun z => by omega⟩
              · rw [y]; exact ⟨fun z => by omega, fun z => by omega, fun z => by omega, fun z => by omega, fun z => by omega⟩
            · unfold NV
              rw [v2.2.2.2.1, v2.2.2.2.2.1, v2.2.2.2.2.2.1, k2.2.2.1, k2.2.2.2.1]
              rcases hk with ⟨y, _, ta⟩ | ⟨y, _, _⟩
              · exact ⟨fun z => by omega, fun z => by omega, fun z => by omega, fun _ _ => ⟨a, rfl, rfl, hz, ta, rfl⟩, fun z => by omega⟩
              · exact ⟨fun z => by omega, fun z => by omega, fun z => by omega, fun _ z => by omega, fun _ => ⟨rfl, k6 y⟩⟩
            · rcases hk with ⟨y, _, ta⟩ | ⟨y, _, ta⟩
              · subst y
                exact sgB.call v2 (fun n hn => k2.2.2.2.2.2.2.2.2.2.2.2.2.2.1 48 n (by decide) (by decide) (by omega)) (k2.2.2.2.2.2.2.2.2.2.2.2.2.2.2.2.1 37 (by omega)) kdN (by rw [cU 68 (by decide) (by decide) (by decide)]; exact i10) (by rw [cU 46 (by decide) (by decide) (by decide)]; exact i11) (by rw [k2.2.2.1]; exact k3' rfl) ta t2 tp (Or.inl ⟨hA, by rw [ta]; decide⟩) (Or.inr (Or.inr (Or.inl (by rw [ta, t2]; decide)))) (Or.inr (Or.inl ⟨hB', by rw [tp]; decide⟩))
              · have s0 := SEG.tok T (cur T sL (a' + 1)) (ax_u2 (ax_u2 (adv mU (a' + 1)) 84 63 ((W + q : Nat) : Int)) 84 67 (op : Int)) sn rp K' a N (Or.inl ⟨hA, by rw [ta]; decide⟩) (fun y => by rw [ta] at y; exact absurd y.1 (by decide))
                have s1 := SEG.tok T (cur T sL (a' + 1)) (ax_u2 (ax_u2 (adv mU (a' + 1)) 84 63 ((W + q : Nat) : Int)) 84 67 (op : Int)) sn rp K' (a + 1) N (Or.inr (Or.inr (Or.inr (Or.inl (by rw [show a + 1 - 1 = a by omega, ta, t2]; decide))))) (fun y => by rw [t2] at y; exact absurd y.1 (by decide))
                have s3 := SEG.tok T (cur T sL (a' + 1)) (ax_u2 (ax_u2 (adv mU (a' + 1)) 84 63 ((W + q : Nat) : Int)) 84 67 (op : Int)) sn rp K' a' N' (Or.inr (Or.inl ⟨hB', by rw [tp]; decide⟩)) (fun y => by rw [tp] at y; exact absurd y.1 (by decide))
                have bb := sgB.2.2.1
                exact (((s0.merge s1).merge sgB).merge s3).addn v2 (fun n hn => k2.2.2.2.2.2.2.2.2.2.2.2.2.2.1 48 n (by decide) (by decide) (by omega)) (k2.2.2.2.2.2.2.2.2.2.2.2.2.2.2.2.1 37 (by omega)) (by omega) (by omega) kdN (by rw [cU 68 (by decide) (by decide) (by decide)]; exact i10) (by rw [cU 46 (by decide) (by decide) (by decide)]; exact i11) (fun _ z => by omega)
            · have nk : NOK T (sc0 37) mD N' ↔ (k = 6 ∨ (cur T sL (a' + 1)) 37 (T.vl a).toNat = 0) := by
                unfold NOK
                rw [v2.2.2.2.1, v2.2.2.2.2.2.1, Int.toNat_natCast, lw, lw0]
                rcases hk with ⟨y, _⟩ | ⟨y, _⟩
                · exact ⟨fun z => Or.inr (z.2.2.2 (Or.inr y)), fun z => ⟨fun u => by omega, fun u => by omega, fun u => by omega, fun _ => by rcases z with u | u; omega; exact u⟩⟩
                · exact ⟨fun _ => Or.inl y, fun _ => ⟨fun u => by omega, fun u => by omega, fun u => by omega, fun u => by omega⟩⟩
              rw [kcn, cnB, cnL, ← nk]
              constructor
              · intro ⟨⟨y1, y2⟩, y3⟩
                refine ⟨y1, fun n z1 z2 => ?_⟩
                by_cases e : n = N'
                · rw [e]; exact y3
                · rw [old n (by omega)]; exact y2 n z1 (by omega)
              · intro ⟨y1, y2⟩
                exact ⟨⟨y1, fun n z1 z2 => (old n z2).mp (y2 n z1 (by omega))⟩, y2 N' (by omega) (by omega)⟩
            · rw [cU 70 (by decide) (by decide) (by decide)]; exact r3.2.2.2.2.2.2.2
          · rw [tp] at y1; omega
        · rw [c92n cuL tp]
          obtain ⟨mF, x1, x2⟩ := badm tc (Or.inl tp)
          exact Or.inr ⟨15, sL, mF, rfl, Or.inr rfl, ⟨efc, a', cuL⟩, x1, x2⟩
  · rw [r1]
    exact Or.inr ⟨x, sc', mF, rfl, r2, ⟨l16.trans r3.1, r3.2⟩, r4, l17.trans r5.1, r5.2⟩
end LS
