/-! THE REFERENCE's checks: names, numbers, bits of the text. -/
noncomputable def p01 (p : Prop) : Int := @ite Int p (Classical.propDecidable p) 1 0
theorem p01_y {p : Prop} (h : p) : p01 p = 1 := if_pos h
theorem p01_n {p : Prop} (h : ¬ p) : p01 p = 0 := if_neg h
theorem p01_c {p q : Prop} (h : p ↔ q) : p01 p = p01 q := by rw [propext h]
theorem w32_sub {i j : Nat} (h : i ≤ j) (hj : j ≤ 100000) : ax_w32 ((j : Int) - (i : Int)) = (j : Int) - (i : Int) := w32_id (by omega) (by omega)
theorem w32_add {i l : Nat} (h : i + l ≤ 100000) : ax_w32 ((i : Int) + (l : Int)) = ((i + l : Nat) : Int) := by rw [w32_id (by omega) (by omega)]; omega
section MLX
variable {T : TT} {sc sm : Sg} {n a b : Nat} {t : Nat → Int}
theorem TX.nm (h : TX T sc sm n t) (ha : a < T.z) (ta : T.tk a = 1) : ∃ i j : Nat, sm 89 a = (i : Int) ∧ sm 90 a = (j : Int) ∧ i < j ∧ j ≤ n ∧ LXn sc t T.m i j 1 (T.vl a) := by
  obtain ⟨i, j, a1, a2, a3, a4, a5, a6, a7, a8⟩ := h.2.2.2 a ha
  rw [ta] at a8
  rcases a8 with a8 | a8 | a8
  · exact ⟨i, j, a3, a4, a5, a6, a8⟩
  · exact absurd a8.2.2.2.1 (by decide)
  · rcases a8.2 with ⟨_, q, _⟩ | ⟨_, q, _⟩
    · exact absurd q (by decide)
    · exact absurd q (by decide)
theorem TX.nu (h : TX T sc sm n t) (ha : a < T.z) (ta : T.tk a = 2) : ∃ i j : Nat, T.fm a = (i : Int) ∧ sc 43 a = (j : Int) - i ∧ sm 89 a = (i : Int) ∧ sm 90 a = (j : Int) ∧ i < j ∧ j ≤ n ∧ LXv t n i j 2 (T.vl a) := by
  obtain ⟨i, j, a1, a2, a3, a4, a5, a6, a7, a8⟩ := h.2.2.2 a ha
  rw [ta] at a8
  rcases a8 with a8 | a8 | a8
  · obtain ⟨_, _, _, id, _, _, _, _, q⟩ := a8
    exfalso
    by_cases c : 12 ≤ id
    · rw [if_pos c] at q; omega
    · rw [if_neg c] at q; omega
  · exact ⟨i, j, a1, a2, a3, a4, a5, a6, a8⟩
  · rcases a8.2 with ⟨_, q, _⟩ | ⟨_, q, _⟩
    · exact absurd q (by decide)
    · exact absurd q (by decide)
/-- two names are one -/
theorem m239l {i i' j j' : Nat} (hM : MT sm n t) (ha : a < 8200) (hb : b < 8200) (a1 : sm 89 a = (i : Int)) (a2 : sm 90 a = (j : Int)) (b1 : sm 89 b = (i' : Int)) (b2 : sm 90 b = (j' : Int)) (hj : i < j) (hjn : j ≤ n) (hjn' : j' ≤ n) (hl : j - i = j' - i') (hj' : i' < j') :
    ∀ (r l F : Nat), l + r = j - i → j_239_33 (F + r + 1) (a : Int) (b : Int) (l : Int) sm = some (p01 (∀ e, l ≤ e → e < j - i → t (i + e) = t (i' + e))) := by
  have h8 := hM.2.1
  intro r
  induction r with
  | zero =>
    intro l F hl
    rw [j_239_33, gd_pos (by omega), gd_pos (by omega), Int.toNat_natCast, a1, a2, w32_sub (i := i) (j := j) (by omega) (by omega), if_pos (by omega)]
    rw [p01_y (fun e x y => absurd y (by omega))]
  | succ r ih =>
    intro l F hlr
    rw [show F + (r + 1) + 1 = (F + r + 1) + 1 by omega, j_239_33, gd_pos (by omega), gd_pos (by omega), Int.toNat_natCast, Int.toNat_natCast, a1, a2, b1, w32_sub (i := i) (j := j) (by omega) (by omega), if_neg (by omega), gd_pos (by omega), w32_add (i := i) (l := l) (by omega), gd_pos (by omega), gd_pos (by omega), w32_add (i := i') (l := l) (by omega), gd_pos (by omega), Int.toNat_natCast, Int.toNat_natCast, (hM.2.2 (i + l) (by omega)).1, (hM.2.2 (i' + l) (by omega)).1]
    by_cases c : t (i + l) = t (i' + l)
    · rw [if_pos c, w32_nat (by omega), ih (l + 1) F (by omega)]
      congr 1
      exact p01_c ⟨fun d e x y => by
          by_cases u : e = l
          · rw [u]; exact c
          · exact d e (by omega) y, fun u e x y => u e (by omega) y⟩
    · rw [if_neg c, p01_n (fun u => c (u l (Nat.le_refl _) (by omega)))]
theorem m239 (hT : TWF T) (h : TX T sc sm n t) (ha : a < T.z) (ta : T.tk a = 1) (hb : b < T.z) (tb : T.tk b = 1) : f_239 (a : Int) (b : Int) sm = some (p01 (T.vl a = T.vl b)) := by
  obtain ⟨i, j, a1, a2, a3, a4, aL⟩ := h.nm ha ta
  obtain ⟨i', j', b1, b2, b3, b4, bL⟩ := h.nm hb tb
  have h8 := hT.1
  have n8 := h.2.1.2.1
  have pa := aL.ps a3
  have pb := bL.ps b3
  obtain ⟨q1, q2, q3, di, q4, q5, q6, q7, -⟩ := id aL
  obtain ⟨r1, r2, r3, di', r4, r5, r6, r7, -⟩ := id bL
  have key : T.vl a = T.vl b ↔ (j - i = j' - i' ∧ ∀ e, e < j - i → t (i + e) = t (i' + e)) := by
    constructor
    · intro e
      have ei : di = di' := by omega
      rw [ei, r6] at q6
      rw [ei, r7] at q7
      exact spl_inj pa pb q3 r3 q6.symm q7.symm
    · intro ⟨e1, e2⟩
      have es := spl_congr (t := t) (t' := t) (i := i) (i' := i') (j - i) e2
      rw [es, e1] at q6 q7
      have := h.2.2.1.2.2.2.2.2.2 di di' q4 r4 (by rw [q6, r6]) (by rw [q7, r7])
      omega
  unfold f_239
  rw [gd_pos (by omega), gd_pos (by omega), gd_pos (by omega), gd_pos (by omega), Int.toNat_natCast, Int.toNat_natCast, a1, a2, b1, b2, w32_sub (i := i) (j := j) (by omega) (by omega), w32_sub (i := i') (j := j') (by omega) (by omega)]
  by_cases c : j - i = j' - i'
  · rw [if_pos (by omega)]
    obtain ⟨F, hF⟩ := FU_split (k := j - i + 1) (by omega)
    have e0 := m239l (sm := sm) (n := n) (t := t) h.2.1 (a := a) (b := b) (by omega) (by omega) a1 a2 b1 b2 a3 a4 b4 c b3 (j - i) 0 F (by omega)
    rw [show F + (j - i) + 1 = FU by omega] at e0
    show j_239_33 FU (a : Int) (b : Int) ((0 : Nat) : Int) sm = _
    rw [e0]
    congr 1
    exact p01_c ⟨fun u => key.mpr ⟨c, fun e y => u e (Nat.zero_le _) y⟩, fun d e _ y => (key.mp d).2 e y⟩
  · rw [if_neg (by omega), p01_n (fun d => c (key.mp d).1)]
/-- a number's value -/
theorem m218l {j : Nat} {hx : Bool} (hM : MT sm n t) (ha : a < 8200) (a2 : sm 90 a = (j : Int)) (hjn : j ≤ n) :
    ∀ (r l F : Nat) (v : Int), l + r = j → 0 ≤ v → v ≤ 1099511627776 → (∀ e, l ≤ e → e < j → (if hx then isH (t e) else isD (t e)) = true) → j_218_26 (F + r + 1) (a : Int) (if hx then 1 else 0) v (l : Int) sm = some (if hx then hvl t r l v else dvl t r l v) := by
  have h8 := hM.2.1
  intro r
  induction r with
  | zero =>
    intro l F v hl v0 v1 hd
    rw [j_218_26, gd_pos (by omega), Int.toNat_natCast, a2, if_pos (by omega)]
    cases hx <;> rfl
  | succ r ih =>
    intro l F v hl v0 v1 hd
    have hb := hM.2.2 l (by omega)
    rw [show F + (r + 1) + 1 = (F + r + 1) + 1 by omega, j_218_26, gd_pos (by omega), Int.toNat_natCast, Int.toNat_natCast, a2, if_neg (by omega), gd_pos (by omega), hb.1, w32_nat (by omega), m226]
    have hdl := hd l (Nat.le_refl _) (by omega)
    cases hx with
    | true =>
      simp only [if_true] at hdl ih ⊢
      have hv := hxv_b hdl
      have e1 : ((if (1 : Int) = 0 then ax_w64 ((ax_w64 ((ax_w64 (10 * v)) + (t l))) - 48) else (if b01 (isD (t l)) = 0 then ax_w64 ((ax_w64 (16 * v)) + (ax_w32 ((t l) - 87))) else ax_w64 ((ax_w64 (16 * v)) + (ax_w32 ((t l) - 48))))) : Int) = v * 16 + hxv (t l) := by
        rw [if_neg (by decide), w64_id (z := 16 * v) (by omega) (by omega), w32_id (z := t l - 87) (by omega) (by omega), w32_id (z := t l - 48) (by omega) (by omega), w64_id (by omega) (by omega), w64_id (by omega) (by omega)]
        unfold hxv
        by_cases c : isD (t l) = true
        · rw [c, b01_t, if_neg (by decide), if_pos (by unfold isD at c; simp only [decide_eq_true_eq] at c; omega)]; omega
        · have c' : isD (t l) = false := by simpa using c
          have : ¬ t l ≤ 57 := by
            unfold isH at hdl
            unfold isD at c'
            simp only [decide_eq_true_eq] at hdl
            simp only [decide_eq_false_iff_not] at c'
            omega
          rw [c', b01_f, if_pos rfl, if_neg this]; omega
      rw [e1]
      have e2 : ((if ax_cmp (v * 16 + hxv (t l)) 1099511627776 ≤ 0 then v * 16 + hxv (t l) else 1099511627776) : Int) = cap (v * 16 + hxv (t l)) := by
        unfold cap
        simp only [cmp_le]
        split
        · rw [if_neg (by omega)]
        · rw [if_pos (by omega)]
      rw [e2]
      have cb := cap_b (x := v * 16 + hxv (t l)) (by omega)
      rw [ih (l + 1) F _ (by omega) cb.1 cb.2 (fun e x y => by simpa using hd e (by omega) y)]
      rfl
    | false =>
      simp only [Bool.false_eq_true, if_false] at hdl ih
      rw [if_neg (show ¬ (false = true) by simp), if_neg (show ¬ (false = true) by simp)]
      have hv : 0 ≤ t l - 48 ∧ t l - 48 < 10 := by unfold isD at hdl; simp only [decide_eq_true_eq] at hdl; omega
      have e1 : ((if (0 : Int) = 0 then ax_w64 ((ax_w64 ((ax_w64 (10 * v)) + (t l))) - 48) else (if b01 (isD (t l)) = 0 then ax_w64 ((ax_w64 (16 * v)) + (ax_w32 ((t l) - 87))) else ax_w64 ((ax_w64 (16 * v)) + (ax_w32 ((t l) - 48))))) : Int) = v * 10 + (t l - 48) := by
        rw [if_pos rfl, w64_id (z := 10 * v) (by omega) (by omega), w64_id (z := 10 * v + t l) (by omega) (by omega), w64_id (by omega) (by omega)]
        omega
      rw [e1]
      have e2 : ((if ax_cmp (v * 10 + (t l - 48)) 1099511627776 ≤ 0 then v * 10 + (t l - 48) else 1099511627776) : Int) = cap (v * 10 + (t l - 48)) := by
        unfold cap
        simp only [cmp_le]
        split
        · rw [if_neg (by omega)]
        · rw [if_pos (by omega)]
      rw [e2]
      have cb := cap_b (x := v * 10 + (t l - 48)) (by omega)
      rw [ih (l + 1) F _ (by omega) cb.1 cb.2 (fun e x y => by simpa using hd e (by omega) y)]
      rfl
theorem m218 (hT : TWF T) (h : TX T sc sm n t) (ha : a < T.z) (ta : T.tk a = 2) : f_218 (a : Int) sm = some (T.vl a) := by
  obtain ⟨i, j, -, -, a1, a2, a3, a4, aL⟩ := h.nu ha ta
  have h8 := hT.1
  have n8 := h.2.1.2.1
  obtain ⟨q1, q2, q3, -, q5⟩ := aL
  have g249 : g_249 (a : Int) sm := by
    unfold g_249
    rw [Int.toNat_natCast, a1, a2, w32_sub (i := i) (j := j) (by omega) (by omega), w32_nat (by omega)]
    exact ⟨by omega, by omega, fun _ => trivial, fun _ => ⟨by omega, by omega, trivial⟩⟩
  have e249 : f_249 (a : Int) sm = (if hxq t n i then 1 else 0) := by
    unfold f_249
    rw [Int.toNat_natCast, a1, a2, w32_sub (i := i) (j := j) (by omega) (by omega), w32_nat (by omega), Int.toNat_natCast]
    by_cases c : hxq t n i = true
    · have l3 := hxq_len c
      have g := rn_ge isH t (n - (i + 2)) (i + 2)
      have hst : isH (t (i + 2)) = true := by
        unfold hxq at c
        simp only [Bool.and_eq_true, decide_eq_true_eq] at c
        have := c.2
        unfold chs at this
        rw [if_pos (by omega)] at this
        exact this
      have ne : rn isH t (n - (i + 2)) (i + 2) ≠ i + 2 := by
        intro e
        have := rn_stop isH t (n - (i + 2)) (i + 2) (by omega)
        rw [e, hst] at this
        cases this
      unfold nmE at q3
      rw [if_pos c] at q3
      have hx : t (i + 1) = 120 := by
        unfold hxq at c
        simp only [Bool.and_eq_true, decide_eq_true_eq] at c
        have := c.1.2
        unfold chs at this
        rw [if_pos (by omega)] at this
        exact this
      rw [if_neg (by omega), (h.2.1.2.2 (i + 1) (by omega)).1, hx, if_neg (by decide), if_pos c]
    · rw [if_neg c]
      by_cases l2 : (j : Int) - (i : Int) ≤ 2
      · rw [if_pos l2]
      · rw [if_neg l2, (h.2.1.2.2 (i + 1) (by omega)).1, if_pos]
        intro e
        unfold nmE at q3
        rw [if_neg c] at q3
        have := rn_all isD t (n - i) i (i + 1) (by omega) (by omega)
        rw [e] at this
        exact absurd this (by decide)
  unfold f_218
  rw [gd_pos g249, gd_pos (by omega), Int.toNat_natCast, a1, e249, q5]
  by_cases c : hxq t n i = true
  · have g := rn_ge isH t (n - (i + 2)) (i + 2)
    have l3 := hxq_len c
    have qe : j = rn isH t (n - (i + 2)) (i + 2) := by unfold nmE at q3; rw [if_pos c] at q3; exact q3
    obtain ⟨F, hF⟩ := FU_split (k := j - (i + 2) + 1) (by omega)
    have e0 := m218l (hx := true) (sm := sm) (n := n) (t := t) h.2.1 (a := a) (by omega) a2 a4 (j - (i + 2)) (i + 2) F 0 (by omega) (by decide) (by decide) (fun e x y => by
      rw [if_pos rfl]
      exact rn_all isH t (n - (i + 2)) (i + 2) e x (by omega))
    rw [show F + (j - (i + 2)) + 1 = FU by omega] at e0
    simp only [if_true] at e0
    rw [if_pos c, if_neg (by decide), show ax_w32 ((i : Int) + 2) = ((i + 2 : Nat) : Int) from by rw [w32_id (by omega) (by omega)]; omega, e0]
    unfold nmV
    rw [if_pos c, ← q3]
  · have qe : j = rn isD t (n - i) i := by unfold nmE at q3; rw [if_neg c] at q3; exact q3
    obtain ⟨F, hF⟩ := FU_split (k := j - i + 1) (by omega)
    have e0 := m218l (hx := false) (sm := sm) (n := n) (t := t) h.2.1 (a := a) (by omega) a2 a4 (j - i) i F 0 (by omega) (by decide) (by decide) (fun e x y => by
      rw [if_neg (by simp)]
      exact rn_all isD t (n - i) i e x (by omega))
    rw [show F + (j - i) + 1 = FU by omega] at e0
    simp only [Bool.false_eq_true, if_false] at e0
    rw [if_neg c, if_pos rfl, show ax_w32 ((i : Int) + 0) = (i : Int) from by rw [w32_id (by omega) (by omega)]; omega, e0]
    unfold nmV
    rw [if_neg c, ← q3]
/-- are all its digits 0 or 1 -/
theorem m236l {j : Nat} (hM : MT sm n t) (ha : a < 8200) (a2 : sm 90 a = (j : Int)) (hjn : j ≤ n) :
    ∀ (r l F : Nat), l + r = j → j_236_7 (F + r + 1) (a : Int) (l : Int) sm = some (p01 (∀ e, l ≤ e → e < j → t e = 48 ∨ t e = 49)) := by
  have h8 := hM.2.1
  intro r
  induction r with
  | zero =>
    intro l F hl
    rw [j_236_7, gd_pos (by omega), Int.toNat_natCast, a2, if_pos (by omega)]
    rw [p01_y (fun e x y => absurd y (by omega))]
  | succ r ih =>
    intro l F hl
    have hb := hM.2.2 l (by omega)
    have go : (t l = 48 ∨ t l = 49) → j_236_41 (j_236_7 (F + r + 1)) (a : Int) (l : Int) sm = some (p01 (∀ e, l ≤ e → e < j → t e = 48 ∨ t e = 49)) := fun c => by
      unfold j_236_41
      rw [w32_nat (by omega), ih (l + 1) F (by omega)]
      congr 1
      exact p01_c ⟨fun d e x y => by
          by_cases u : e = l
          · rw [u]; exact c
          · exact d e (by omega) y, fun u e x y => u e (by omega) y⟩
    rw [show F + (r + 1) + 1 = (F + r + 1) + 1 by omega, j_236_7, gd_pos (by omega), Int.toNat_natCast, Int.toNat_natCast, a2, if_neg (by omega), gd_pos (by omega), hb.1]
    by_cases c : t l = 48
    · rw [if_pos c]; exact go (Or.inl c)
    · rw [if_neg c, gd_pos (by omega)]
      by_cases d : t l = 49
      · rw [if_pos d]; exact go (Or.inr d)
      · rw [if_neg d, p01_n (fun u => by rcases u l (Nat.le_refl _) (by omega) with x | x; exact c x; exact d x)]
theorem m236 (hT : TWF T) (hc : CC T sc) (h : TX T sc sm n t) (ha : a < T.z) (ta : T.tk a = 2) : f_236 (a : Int) sm = some (p01 (BIN sc a)) := by
  obtain ⟨i, j, a0, a9, a1, a2, a3, a4, aL⟩ := h.nu ha ta
  have h8 := hT.1
  have n8 := h.2.1.2.1
  have key : BIN sc a ↔ ∀ e, i ≤ e → e < j → t e = 48 ∨ t e = 49 := by
    unfold BIN
    rw [hc.2.2.1, a0, a9, Int.toNat_natCast]
    constructor
    · intro y e x z
      have := y (e - i) (by omega)
      rw [show i + (e - i) = e by omega, (h.1.2.2 e (by omega)).1] at this
      exact this
    · intro y e x
      rw [(h.1.2.2 (i + e) (by omega)).1]
      exact y (i + e) (by omega) (by omega)
  obtain ⟨F, hF⟩ := FU_split (k := j - i + 1) (by omega)
  have e0 := m236l (sm := sm) (n := n) (t := t) h.2.1 (a := a) (by omega) a2 a4 (j - i) i F (by omega)
  rw [show F + (j - i) + 1 = FU by omega] at e0
  unfold f_236
  rw [gd_pos (by omega), Int.toNat_natCast, a1, e0]
  congr 1
  exact p01_c ⟨fun u => key.mpr u, fun d => key.mp d⟩
end MLX
