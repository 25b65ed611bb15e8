/-! CUTTING THE WHOLE TEXT, on both sides. -/
theorem wk_id {s : Sg} {t : Nat → Int} {m i j id : Nat} (hN : NI s m) (hW : WD s) (h12 : 12 ≤ m) (hid : id < m) (hp : ∀ e, e < j - i → 0 < t (i + e) ∧ t (i + e) < 256) (h16 : j - i ≤ 16) (e1 : s 34 id = (spl t (j - i) i).1) (e2 : s 35 id = (spl t (j - i) i).2) :
    wkc (pk t (j - i) i) = if 12 ≤ id then 1 else 16 + (id : Int) := by
  have key : ∀ k, k < 12 → (pk t (j - i) i = (wdk.getD k 0).toNat ↔ id = k) := by
    intro k hk
    have hv : (wdk.getD k 0).toNat < 9223372036854775808 ∧ 0 ≤ wdk.getD k 0 := by
      have : ∀ k, k < 12 → (wdk.getD k 0).toNat < 9223372036854775808 ∧ 0 ≤ wdk.getD k 0 := by decide
      exact this k hk
    have sh := spl_short hp h16 (wdk.getD k 0).toNat hv.1
    rw [Int.toNat_of_nonneg hv.2] at sh
    rw [← sh]
    obtain ⟨w1, w2⟩ := hW k hk
    constructor
    · intro q
      rw [q] at e1 e2
      exact hN.2.2.2.2.2.2 id k hid (by omega) (by rw [e1, w1]) (by rw [e2, w2])
    · intro q
      subst q
      rw [e1] at w1
      rw [e2] at w2
      exact Prod.ext w1 w2
  by_cases c : 12 ≤ id
  · rw [if_pos c]
    have no : ∀ k, k < 12 → pk t (j - i) i ≠ (wdk.getD k 0).toNat := fun k hk q => by
      have := (key k hk).mp q
      omega
    generalize pk t (j - i) i = v at *
    unfold wkc
    rw [if_neg (show ¬ v = 2003792484 from no 0 (by decide)), if_neg (show ¬ v = 7497063 from no 1 (by decide)), if_neg (show ¬ v = 7169389 from no 2 (by decide)), if_neg (show ¬ v = 6579558 from no 3 (by decide)), if_neg (show ¬ v = 6909555 from no 4 (by decide)), if_neg (show ¬ v = 26982 from no 5 (by decide)), if_neg (show ¬ v = 1701606245 from no 6 (by decide)), if_neg (show ¬ v = 7497072 from no 7 (by decide)), if_neg (show ¬ v = 491260572517 from no 8 (by decide)), if_neg (show ¬ v = 29560 from no 9 (by decide)), if_neg (show ¬ v = 31352 from no 10 (by decide)), if_neg (show ¬ v = 6513012 from no 11 (by decide))]
  · rw [if_neg c, (key id (by omega)).mpr rfl]
    have : ∀ k, k < 12 → wkc (wdk.getD k 0).toNat = 16 + (k : Int) := by decide
    exact this id (by omega)
/-- lexeme k is alike on both sides -/
def LR (sc sm : Sg) (n : Nat) (t : Nat → Int) (m k : Nat) : Prop := ∃ i j : Nat, sc 42 k = (i : Int) ∧ sc 43 k = (j : Int) - i ∧ sm 89 k = (i : Int) ∧ sm 90 k = (j : Int) ∧ i < j ∧ j ≤ n ∧ j = lxE t n i ∧ sc 45 k = 0 ∧ sm 91 k = 0 ∧ sm 92 k = (if ¬ sm 88 k = 10 then 0 else 1) ∧ sm 93 k = 0 ∧ sm 88 k = km (sc 41 k) ∧
  (LXn sc t m i j (sc 41 k) (sc 44 k) ∨ LXv t n i j (sc 41 k) (sc 44 k) ∨ LXs t n i j (sc 41 k) (sc 44 k))
/-- what cutting leaves alone -/
def CF (s s' : Sg) (m m' : Nat) : Prop := m ≤ m' ∧ (∀ k, k < m → s' 34 k = s 34 k ∧ s' 35 k = s 35 k ∧ s' 36 k = s 36 k ∧ s' 37 k = s 37 k) ∧ (∀ k, m ≤ k → k < m' → s' 36 k = -1 ∧ s' 37 k = 0) ∧ s' 31 8 = s 31 8 ∧ (∀ a, a < 31 ∨ 37 < a → a ≠ 39 → a < 41 ∨ 45 < a → s' a = s a) ∧ ∀ j, j ≠ 9 → s' 39 j = s 39 j
def MF (s s' : Sg) : Prop := (∀ a, a < 84 ∨ 84 < a ∧ a < 88 ∨ 93 < a → s' a = s a) ∧ ∀ j, j ≠ 6 → j ≠ 7 → j ≠ 11 → s' 84 j = s 84 j
theorem CF.trans {a b c : Sg} {m1 m2 m3 : Nat} (h : CF a b m1 m2) (k : CF b c m2 m3) : CF a c m1 m3 := by
  obtain ⟨h1, h2, h3, h4, h5, h6⟩ := h
  obtain ⟨k1, k2, k3, k4, k5, k6⟩ := k
  refine ⟨by omega, ?_, ?_, k4.trans h4, fun a x y z => (k5 a x y z).trans (h5 a x y z), fun j hj => (k6 j hj).trans (h6 j hj)⟩
  · intro k hk
    obtain ⟨p1, p2, p3, p4⟩ := h2 k hk
    obtain ⟨q1, q2, q3, q4⟩ := k2 k (by omega)
    exact ⟨q1.trans p1, q2.trans p2, q3.trans p3, q4.trans p4⟩
  · intro k x y
    by_cases c : k < m2
    · obtain ⟨q1, q2, q3, q4⟩ := k2 k c
      rw [q3, q4]
      exact h3 k x c
    · exact k3 k (by omega) y
theorem MF.trans {a b c : Sg} (h : MF a b) (k : MF b c) : MF a c := ⟨fun x y => (k.1 x y).trans (h.1 x y), fun j x y z => (k.2 j x y z).trans (h.2 j x y z)⟩
theorem CF.refl (s : Sg) (m : Nat) : CF s s m m := ⟨Nat.le_refl _, fun _ _ => ⟨rfl, rfl, rfl, rfl⟩, fun k h1 h2 => absurd h2 (by omega), rfl, fun _ _ _ _ => rfl, fun _ _ => rfl⟩
theorem MF.refl (s : Sg) : MF s s := ⟨fun _ _ => rfl, fun _ _ _ _ => rfl⟩
theorem CF.ofN {s s' : Sg} {m m' : Nat} (h : NSt s s' m m') : CF s s' m m' := ⟨h.1, h.2.1, h.2.2.1, h.2.2.2.1, fun a x _ _ => h.2.2.2.2 a x, fun j _ => by rw [h.2.2.2.2 39 (by omega)]⟩
theorem CF.add {s : Sg} {m z : Nat} {k i j v : Int} : CF s (AD s z k i j v) m m := by
  refine ⟨Nat.le_refl _, fun _ _ => by simp [AD, ax_u2], fun k h1 h2 => absurd h2 (by omega), by simp [AD, ax_u2], ?_, ?_⟩
  · intro a x y w
    funext b
    simp only [AD, ax_u2]
    rw [if_neg (by omega), if_neg (by omega), if_neg (by omega), if_neg (by omega), if_neg (by omega), if_neg (by omega)]
  · intro j hj
    simp [AD, ax_u2, hj]
theorem MF.add {s : Sg} {z : Nat} {i j : Int} : MF s (MA s z i j) := by
  refine ⟨?_, ?_⟩
  · intro a x
    funext b
    simp only [MA, ax_u2]
    rw [if_neg (by omega), if_neg (by omega), if_neg (by omega), if_neg (by omega), if_neg (by omega), if_neg (by omega)]
  · intro j x y w
    simp [MA, ax_u2, w]
theorem CLS.add {s : Sg} {n z m : Nat} {t : Nat → Int} {k i j v : Int} (H : CLS s n t z m) : CLS (AD s z k i j v) n t (z + 1) m := by
  obtain ⟨a1, a2, a3, a4, a5, a6, a7, a8⟩ := H
  refine ⟨a1.congr (by simp [AD, ax_u2]) (by funext x; simp [AD, ax_u2]), ?_, a3.congr (by simp [AD, ax_u2]) (by funext x; simp [AD, ax_u2]) (by funext x; simp [AD, ax_u2]) (by funext x; simp [AD, ax_u2]) (by funext x; simp [AD, ax_u2]), a4, ?_, by simpa [AD, ax_u2] using a6, by simpa [AD, ax_u2] using a7, by simp [AD, ax_u2]⟩
  · simpa [KO, AD, ax_u2] using a2
  · intro k hk
    simpa [AD, ax_u2] using a5 k hk
/-- lexemes that were there stay alike -/
theorem LR.keep {sc sc' sm sm' : Sg} {n m m' k : Nat} {t : Nat → Int} (h : LR sc sm n t m k) (hm : m ≤ m') (hn : ∀ e, e < m → sc' 34 e = sc 34 e ∧ sc' 35 e = sc 35 e)
    (h1 : sc' 41 k = sc 41 k) (h2 : sc' 42 k = sc 42 k) (h3 : sc' 43 k = sc 43 k) (h4 : sc' 44 k = sc 44 k) (h5 : sc' 45 k = sc 45 k)
    (g1 : sm' 88 k = sm 88 k) (g2 : sm' 89 k = sm 89 k) (g3 : sm' 90 k = sm 90 k) (g4 : sm' 91 k = sm 91 k) (g5 : sm' 92 k = sm 92 k) (g6 : sm' 93 k = sm 93 k) : LR sc' sm' n t m' k := by
  obtain ⟨i, j, a⟩ := h
  refine ⟨i, j, ?_⟩
  rw [h1, h2, h3, h4, h5, g1, g2, g3, g4, g5, g6]
  obtain ⟨a1, a2, a3, a4, a5, a6, aE, a7, a8, a9, a10, a11, a12⟩ := a
  refine ⟨a1, a2, a3, a4, a5, a6, aE, a7, a8, a9, a10, a11, ?_⟩
  rcases a12 with ⟨b1, b2, b3, id, c1, c2, c3, c4, c5⟩ | b | b
  · obtain ⟨d1, d2⟩ := hn id c1
    exact Or.inl ⟨b1, b2, b3, id, by omega, c2, d1.trans c3, d2.trans c4, c5⟩
  · exact Or.inr (Or.inl b)
  · exact Or.inr (Or.inr b)
/-- lexemes stand in their order, none behind i -/
def ORD (s : Sg) (z i : Nat) : Prop := (∀ k, k + 1 < z → s 42 k + s 43 k ≤ s 42 (k + 1)) ∧ (0 < z → s 42 (z - 1) + s 43 (z - 1) ≤ (i : Int))
/-- the bound of the names -/
def NB (t : Nat → Int) (n i m : Nat) : Prop := 2 * (m - 12) ≤ i ∨ (2 * (m - 12) ≤ i + 1 ∧ (i = n ∨ isL (t i) = false))
theorem cutl {n : Nat} {t : Nat → Int} : ∀ (r i z m Fc Fm : Nat) (sc sm : Sg), i + r = n → CLS sc n t z m → MT sm n t → sm 84 11 = (z : Int) → sm 84 6 = 0 → z ≤ i → (∀ k, k < z → LR sc sm n t m k) → ORD sc z i → NB t n i m →
    (∃ (sc' sm' : Sg) (z' m' : Nat), j_73_28_48 (Fc + r + 1) (i : Int) (z : Int) sc = j_73_28_101 sc' ∧ j_208_11 (Fm + r + 1) (i : Int) sm = j_208_222 sm' ∧ CLS sc' n t z' m' ∧ MT sm' n t ∧ sm' 84 11 = (z' : Int) ∧ sm' 84 6 = 0 ∧ z' ≤ n ∧ m' ≤ 4111 ∧ (∀ k, k < z' → LR sc' sm' n t m' k) ∧ ORD sc' z' n ∧ CF sc sc' m m' ∧ MF sm sm') ∨
    (∃ (sc' sm' : Sg) (z' m' i' : Nat), j_73_28_48 (Fc + r + 1) (i : Int) (z : Int) sc = j_73_28_77 (i' : Int) sc' ∧ j_208_11 (Fm + r + 1) (i : Int) sm = j_208_222 sm' ∧ CLS sc' n t z' m' ∧ sm' 84 11 = ((z' + 1 : Nat) : Int) ∧ sm' 84 3 = (n : Int) ∧ sm' 84 6 = 1 ∧ z' ≤ n ∧ m' ≤ 4111 ∧ CF sc sc' m m' ∧ MF sm sm') := by
  intro r
  induction r using Nat.strongRecOn with
  | ind r ih =>
    intro i z m Fc Fm sc sm hi H hM hz hf hzi hL hO hB
    have h8 := H.1.2.1
    cases r with
    | zero =>
      refine Or.inl ⟨sc, sm, z, m, ?_, ?_, H, hM, hz, hf, by omega, ?_, hL, by rw [show n = i by omega]; exact hO, CF.refl _ _, MF.refl _⟩
      · rw [j_73_28_48, if_pos (by have := H.1.1; omega)]
      · rw [j_208_11, if_neg (by simp [hf]), if_pos (by have := hM.1; omega)]
      · unfold NB at hB
        omega
    | succ r =>
      have hlt : i < n := by omega
      have hb := lxE_b (t := t) hlt
      have hm12 := H.2.2.2.1
      have hmB : isL (t i) = true → m ≤ 4108 := fun c => by
        rcases hB with x | ⟨x, y | y⟩
        · omega
        · omega
        · rw [c] at y; cases y
      obtain ⟨s1, m1, k, v, H1, hS, hm1, hq⟩ := c77 H hlt (by omega) (fun c => by have := hmB c; omega)
      obtain ⟨s2, e2, hq2⟩ := m11 hM hz (by omega) hf hlt (Fm + r + 1)
      have hm11 : m1 ≤ 4111 := by
        rcases hm1 with rfl | ⟨rfl, c⟩
        · unfold NB at hB; omega
        · have := hmB c; omega
      rw [show Fm + (r + 1) + 1 = Fm + r + 1 + 1 by omega, e2]
      rw [show Fc + (r + 1) + 1 = Fc + r + 1 + 1 by omega, j_73_28_48, if_neg (by have := H.1.1; omega), if_neg (by omega)]
      cases cB : lxB t n i with
      | true =>
        rw [cB, if_pos rfl] at hq hq2
        refine Or.inr ⟨s1, MA s2 z (i : Int) ((lxE t n i : Nat) : Int), z, m1, i, ?_, ?_, H1, by simp [MA, ax_u2], ?_, ?_, by omega, hm11, CF.ofN hS, ?_⟩
        · rw [hq]
          simp only [Option.bind_some]
          rw [if_neg (by omega)]
        · rw [j_208_11, if_pos ?_]
          obtain ⟨k, rfl | rfl⟩ := hq2 <;> simp [MA, ax_u2]
        · have := hM.1
          obtain ⟨k, rfl | rfl⟩ := hq2 <;> simpa [MA, ax_u2] using this
        · obtain ⟨k, rfl | rfl⟩ := hq2 <;> simp [MA, ax_u2]
        · refine MF.trans (b := s2) ?_ MF.add
          obtain ⟨k, rfl | rfl⟩ := hq2
          · refine ⟨fun a x => ?_, fun j x y w => by simp [ax_u2, x, y]⟩
            funext b
            simp only [ax_u2]
            rw [if_neg (by omega), if_neg (by omega)]
          · refine ⟨fun a x => ?_, fun j x y w => by simp [ax_u2, x, y]⟩
            funext b
            simp only [ax_u2]
            rw [if_neg (by omega), if_neg (by omega), if_neg (by omega)]
      | false =>
        rw [cB, if_neg (by decide)] at hq hq2
        obtain ⟨hq, hd⟩ := hq
        rw [hq]
        have hw := wsk_ge t (n - lxE t n i) false (lxE t n i)
        have H2 : CLS (AD s1 z k (i : Int) ((lxE t n i : Nat) : Int) v) n t (z + 1) m1 := H1.add
        have cl : j_73_28_48 (Fc + r + 1 + 1) (i : Int) (z : Int) sc = j_73_28_48 (Fc + r + 1) ((wsk t (n - lxE t n i) false (lxE t n i) : Nat) : Int) ((z + 1 : Nat) : Int) (AD s1 z k (i : Int) ((lxE t n i : Nat) : Int) v) := by
          rw [j_73_28_48, if_neg (by have := H.1.1; omega), if_neg (by omega), hq]
          show (if (i : Int) < ((lxE t n i : Nat) : Int) then _ else _) = _
          rw [if_pos (by omega)]
          have e76 := c76 H2.1.1 h8 (lxE t n i) hb.2
          rw [wsk_congr (t' := t) _ _ _ (fun e x y => (H2.1.2.2 e (by omega)).1)] at e76
          rw [e76]
          show j_73_28_48 _ _ (ax_w32 ((z : Int) + 1)) _ = _
          rw [w32_nat (by omega)]
        have cl2 : ((some (((lxE t n i : Nat) : Int), AD s1 z k (i : Int) ((lxE t n i : Nat) : Int) v) : Option (Int × Sg)).bind fun q3 => if (i : Int) < q3.1 then (f_76 q3.1 q3.2).bind fun q4 => j_73_28_48 (Fc + r + 1) q4 (ax_w32 ((z : Int) + 1)) q3.2 else j_73_28_77 (i : Int) q3.2) = j_73_28_48 (Fc + r + 1) ((wsk t (n - lxE t n i) false (lxE t n i) : Nat) : Int) ((z + 1 : Nat) : Int) (AD s1 z k (i : Int) ((lxE t n i : Nat) : Int) v) := by
          rw [← cl, j_73_28_48, if_neg (by have := H.1.1; omega), if_neg (by omega), hq]
        rw [cl2]
        have hM2 : MT (MA s2 z (i : Int) ((lxE t n i : Nat) : Int)) n t := by
          rw [hq2]
          exact hM.congr (by simp [MA, ax_u2]) (by funext x; simp [MA, ax_u2])
        have hf2 : (MA s2 z (i : Int) ((lxE t n i : Nat) : Int)) 84 6 = 0 := by
          rw [hq2]
          simpa [MA, ax_u2] using hf
        have hF : MF sm (MA s2 z (i : Int) ((lxE t n i : Nat) : Int)) := by
          refine MF.trans (b := s2) ?_ MF.add
          rw [hq2]
          refine ⟨fun a x => ?_, fun j x y w => by simp [ax_u2]⟩
          funext b
          simp only [ax_u2]
          rw [if_neg (by omega)]
        have hC : CF sc (AD s1 z k (i : Int) ((lxE t n i : Nat) : Int) v) m m1 := (CF.ofN hS).trans CF.add
        have hkind : s2 88 z = km k := by
          rw [hq2, u2_same]
          rcases hd with ⟨b1, b2, b3, id, c1, c2, c3, c4, c5⟩ | ⟨b1, b2, b3, b4, b5⟩ | ⟨b1, b2⟩
          · rw [b1, if_pos rfl, c5]
            congr 1
            refine wk_id H1.2.2.1 H1.2.2.2.2.1 H1.2.2.2.1 c1 (fun e he => ?_) b3 c3 c4
            have x1 := b2 (i + e) (by omega) (by omega)
            have x2 := (hM.2.2 (i + e) (by omega)).2
            unfold isLD isL isD at x1
            simp only [Bool.or_eq_true, decide_eq_true_eq] at x1
            omega
          · have cL : isL (t i) = false := by
              have := of_decide_eq_true b1
              unfold isL
              simp only [decide_eq_false_iff_not]
              omega
            rw [cL, if_neg (by decide), b1, if_pos rfl, b4]
            rfl
          · have cB2 := cB
            unfold lxB at cB2
            rcases b2 with ⟨d1, d2, d3⟩ | ⟨d1, d2, d3, d4⟩
            · rw [d1] at d2
              have d5 := of_decide_eq_true d2
              have cL : isL (t i) = false := by
                unfold isL
                simp only [decide_eq_false_iff_not]
                omega
              have cD : isD (t i) = false := by
                unfold isD
                simp only [decide_eq_false_iff_not]
                omega
              have e5 : lxE t n i = i + 1 := d3
              have c5 : prk (t i) (chs t n (i + 1)) = -1 := by
                unfold lxE at e5
                rw [cL, if_neg (by decide), cD, if_neg (by decide)] at e5
                apply Decidable.byContradiction
                intro hn
                rw [if_neg hn] at e5
                omega
              rw [cL, if_neg (by decide), cD, if_neg (by decide), if_pos c5, d1]
            · have hp := c95b (t i) (chs t n (i + 1)) sc
              rw [prk_eq] at hp
              have cL : isL (t i) = false := by
                unfold isL
                simp only [decide_eq_false_iff_not]
                omega
              have cD : isD (t i) = false := by
                unfold isD
                simp only [decide_eq_false_iff_not]
                omega
              rw [cL, if_neg (by decide), cD, if_neg (by decide), if_neg (by omega), d1]
        have hLn : ∀ k', k' < z + 1 → LR (AD s1 z k (i : Int) ((lxE t n i : Nat) : Int) v) (MA s2 z (i : Int) ((lxE t n i : Nat) : Int)) n t m1 k' := by
          intro k' hk'
          by_cases x : k' = z
          · subst x
            refine ⟨i, lxE t n i, by simp [AD, ax_u2], by simp [AD, ax_u2], by simp [MA, ax_u2], by simp [MA, ax_u2], hb.1, hb.2, rfl, by simp [AD, ax_u2], by simp [MA, ax_u2], by simp [MA, ax_u2], by simp [MA, ax_u2], ?_, ?_⟩
            · have : (MA s2 k' (i : Int) ((lxE t n i : Nat) : Int)) 88 k' = s2 88 k' := by simp [MA, ax_u2]
              rw [this, hkind]
              simp [AD, ax_u2]
            · have a41 : (AD s1 k' k (i : Int) ((lxE t n i : Nat) : Int) v) 41 k' = k := by simp [AD, ax_u2]
              have a44 : (AD s1 k' k (i : Int) ((lxE t n i : Nat) : Int) v) 44 k' = v := by simp [AD, ax_u2]
              rw [a41, a44]
              rcases hd with ⟨b1, b2, b3, id, c1, c2, c3, c4, c5⟩ | b | b
              · exact Or.inl ⟨b1, b2, b3, id, c1, c2, by simpa [AD, ax_u2] using c3, by simpa [AD, ax_u2] using c4, c5⟩
              · exact Or.inr (Or.inl b)
              · exact Or.inr (Or.inr b)
          · have hk2 : k' < z := by omega
            have row : ∀ a, a = 41 ∨ a = 42 ∨ a = 43 ∨ a = 44 ∨ a = 45 → (AD s1 z k (i : Int) ((lxE t n i : Nat) : Int) v) a k' = sc a k' := by
              intro a ha
              rw [← hS.2.2.2.2 a (by omega)]
              rcases ha with rfl | rfl | rfl | rfl | rfl <;> simp [AD, ax_u2, x]
            have rowm : ∀ a, 88 ≤ a → a ≤ 93 → (MA s2 z (i : Int) ((lxE t n i : Nat) : Int)) a k' = sm a k' := by
              intro a h1 h2
              rw [hq2]
              have h3 : a = 88 ∨ a = 89 ∨ a = 90 ∨ a = 91 ∨ a = 92 ∨ a = 93 := by omega
              rcases h3 with rfl | rfl | rfl | rfl | rfl | rfl <;> simp [MA, ax_u2, x]
            refine (hL k' hk2).keep hC.1 (fun e he => ⟨(hC.2.1 e he).1, (hC.2.1 e he).2.1⟩) (row 41 (by omega)) (row 42 (by omega)) (row 43 (by omega)) (row 44 (by omega)) (row 45 (by omega)) (rowm 88 (by omega) (by omega)) (rowm 89 (by omega) (by omega)) (rowm 90 (by omega) (by omega)) (rowm 91 (by omega) (by omega)) (rowm 92 (by omega) (by omega)) (rowm 93 (by omega) (by omega))
        have hO2 : ORD (AD s1 z k (i : Int) ((lxE t n i : Nat) : Int) v) (z + 1) (wsk t (n - lxE t n i) false (lxE t n i)) := by
          have r42 : ∀ k', k' < z → (AD s1 z k (i : Int) ((lxE t n i : Nat) : Int) v) 42 k' = sc 42 k' := fun k' hk' => by
            rw [← hS.2.2.2.2 42 (by omega)]
            simp [AD, ax_u2, show k' ≠ z by omega]
          have r43 : ∀ k', k' < z → (AD s1 z k (i : Int) ((lxE t n i : Nat) : Int) v) 43 k' = sc 43 k' := fun k' hk' => by
            rw [← hS.2.2.2.2 43 (by omega)]
            simp [AD, ax_u2, show k' ≠ z by omega]
          have z42 : (AD s1 z k (i : Int) ((lxE t n i : Nat) : Int) v) 42 z = (i : Int) := by simp [AD, ax_u2]
          have z43 : (AD s1 z k (i : Int) ((lxE t n i : Nat) : Int) v) 43 z = ((lxE t n i : Nat) : Int) - i := by simp [AD, ax_u2]
          refine ⟨fun k' hk' => ?_, fun _ => ?_⟩
          · rw [r42 k' (by omega), r43 k' (by omega)]
            by_cases x : k' + 1 < z
            · rw [r42 (k' + 1) x]
              exact hO.1 k' x
            · have : k' + 1 = z := by omega
              rw [this, z42]
              have := hO.2 (by omega)
              rw [show z - 1 = k' by omega] at this
              exact this
          · rw [show z + 1 - 1 = z by omega, z42, z43]
            omega
        have hB2 : NB t n (wsk t (n - lxE t n i) false (lxE t n i)) m1 := by
          unfold NB at hB ⊢
          rcases hm1 with rfl | ⟨rfl, c⟩
          · omega
          · have hB' : 2 * (m - 12) ≤ i := by
              rcases hB with x | ⟨x, y | y⟩
              · exact x
              · omega
              · rw [c] at y; cases y
            by_cases x : wsk t (n - lxE t n i) false (lxE t n i) = lxE t n i
            · rw [x]
              right
              refine ⟨by omega, ?_⟩
              by_cases y : lxE t n i = n
              · exact Or.inl y
              · right
                have eE : lxE t n i = rn isLD t (n - i) i := by simp only [lxE, c, if_true]
                have := rn_stop isLD t (n - i) i (by rw [← eE]; omega)
                rw [← eE] at this
                simp only [isLD, Bool.or_eq_false_iff] at this
                exact this.1
            · left
              omega
        have nx := ih (n - wsk t (n - lxE t n i) false (lxE t n i)) (by omega) (wsk t (n - lxE t n i) false (lxE t n i)) (z + 1) m1 (Fc + r - (n - wsk t (n - lxE t n i) false (lxE t n i))) (Fm + r - (n - wsk t (n - lxE t n i) false (lxE t n i))) _ _ (by omega) H2 hM2 (by simp [MA, ax_u2]) hf2 (by omega) hLn hO2 hB2
        rw [show Fc + r - (n - wsk t (n - lxE t n i) false (lxE t n i)) + (n - wsk t (n - lxE t n i) false (lxE t n i)) + 1 = Fc + r + 1 by omega, show Fm + r - (n - wsk t (n - lxE t n i) false (lxE t n i)) + (n - wsk t (n - lxE t n i) false (lxE t n i)) + 1 = Fm + r + 1 by omega] at nx
        rcases nx with ⟨a, b, c, d, q1, q2, q3, q4, q5, q6, q7, q8, q9, qO, q10, q11⟩ | ⟨a, b, c, d, e, q1, q2, q3, q4, q5, q6, q7, q8, q9, q10⟩
        · exact Or.inl ⟨a, b, c, d, q1, q2, q3, q4, q5, q6, q7, q8, q9, qO, hC.trans q10, hF.trans q11⟩
        · exact Or.inr ⟨a, b, c, d, e, q1, q2, q3, q4, q5, q6, q7, q8, hC.trans q9, hF.trans q10⟩
