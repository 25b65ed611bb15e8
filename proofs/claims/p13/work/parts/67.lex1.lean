/-! ONE STEP OF CUTTING, on both sides. -/
theorem wsk_congr {t t' : Nat → Int} : ∀ k cm i, (∀ e, i ≤ e → e < i + k → t e = t' e) → wsk t k cm i = wsk t' k cm i := by
  intro k
  induction k with
  | zero => intro cm i _; rfl
  | succ k ih =>
    intro cm i h
    simp only [wsk]
    rw [h i (by omega) (by omega)]
    rw [ih _ (i + 1) (fun e h1 h2 => h e (by omega) (by omega))]
def prk (c d : Int) : Int := f_95 c d (fun _ _ => 0)
theorem prk_eq (c d : Int) (s : Sg) : f_95 c d s = prk c d := rfl
def WD (s : Sg) : Prop := ∀ k, k < 12 → s 34 k = 0 ∧ s 35 k = wdk.getD k 0
/-- the class while it cuts: z lexemes, m names -/
def CLS (s : Sg) (n : Nat) (t : Nat → Int) (z m : Nat) : Prop := CT s n t ∧ KO s ∧ NI s m ∧ 12 ≤ m ∧ WD s ∧ s 31 9 = 0 ∧ s 31 10 = 0 ∧ s 39 9 = (z : Int)
/-- where the lexeme ends that begins at i; is it a fault -/
def lxE (t : Nat → Int) (n i : Nat) : Nat := if isL (t i) then rn isLD t (n - i) i else if isD (t i) then nmE t n i else if prk (t i) (chs t n (i + 1)) = -1 then i + 1 else i + 2
def lxB (t : Nat → Int) (n i : Nat) : Bool := if isL (t i) then decide (16 < rn isLD t (n - i) i - i) else if isD (t i) then !nmOk t n i else decide (prk (t i) (chs t n (i + 1)) = -1) && !isS (t i)
theorem lxE_b {t : Nat → Int} {n i : Nat} (hi : i < n) : i < lxE t n i ∧ lxE t n i ≤ n := by
  unfold lxE
  split
  · rename_i c
    have := rn_ge isLD t (n - i) i
    have h2 : i + 1 ≤ rn isLD t (n - i) i := by
      rw [show n - i = (n - i - 1) + 1 by omega]
      have : isLD (t i) = true := by simp [isLD, c]
      simp only [rn, this, if_true]
      exact (rn_ge isLD t _ _).1
    omega
  · split
    · exact nmE_b hi (by assumption)
    · split
      · omega
      · rename_i c
        have : i + 2 ≤ n := by
          apply Decidable.byContradiction
          intro hc
          have e : chs t n (i + 1) = -1 := if_neg (by omega)
          rw [e] at c
          exact c ((c95n _ _ _).mpr (by omega))
        omega
/-- what the new lexeme is: a name, a number, a sign -/
def LXn (s : Sg) (t : Nat → Int) (m i j : Nat) (k v : Int) : Prop := isL (t i) = true ∧ (∀ e, i ≤ e → e < j → isLD (t e) = true) ∧ j - i ≤ 16 ∧ ∃ id : Nat, id < m ∧ v = (id : Int) ∧ s 34 id = (spl t (j - i) i).1 ∧ s 35 id = (spl t (j - i) i).2 ∧ k = (if 12 ≤ id then 1 else 16 + (id : Int))
def LXv (t : Nat → Int) (n i j : Nat) (k v : Int) : Prop := isD (t i) = true ∧ nmOk t n i = true ∧ j = nmE t n i ∧ k = 2 ∧ v = nmV t n i
def LXs (t : Nat → Int) (n i j : Nat) (k v : Int) : Prop := v = 0 ∧ ((k = t i ∧ isS k = true ∧ j = i + 1) ∨ (k = prk (t i) (chs t n (i + 1)) ∧ 128 ≤ k ∧ k ≤ 131 ∧ j = i + 2))
/-- the names that were there stay, and nothing else has changed -/
def NSt (s s' : Sg) (m m' : Nat) : Prop := m ≤ m' ∧ (∀ k, k < m → s' 34 k = s 34 k ∧ s' 35 k = s 35 k ∧ s' 36 k = s 36 k ∧ s' 37 k = s 37 k) ∧ (∀ k, m ≤ k → k < m' → s' 36 k = -1 ∧ s' 37 k = 0) ∧ s' 31 8 = s 31 8 ∧ (∀ a, a < 31 ∨ 37 < a → s' a = s a)
theorem NSt.refl (s : Sg) (m : Nat) : NSt s s m m := ⟨Nat.le_refl _, fun _ _ => ⟨rfl, rfl, rfl, rfl⟩, fun k h1 h2 => absurd h2 (by omega), rfl, fun _ _ => rfl⟩
theorem NSt.new {s s' : Sg} {m : Nat} {hi lo : Int} (h : NNew s s' m hi lo) : NSt s s' m (m + 1) := by
  obtain ⟨c1, c2, c3, c4, c5, c6, c7, c8⟩ := h
  refine ⟨by omega, c2, ?_, c7 8 (by decide), c8⟩
  intro k h1 h2
  have : k = m := by omega
  subst this
  exact ⟨c5, c6⟩
theorem CLS.names {s s' : Sg} {n z m : Nat} {t : Nat → Int} {hi lo : Int} (H : CLS s n t z m) (h : NNew s s' m hi lo) : CLS s' n t z (m + 1) := by
  obtain ⟨a1, a2, a3, a4, a5, a6, a7, a8⟩ := H
  obtain ⟨c1, c2, c3, c4, c5, c6, c7, c8⟩ := h
  refine ⟨a1.congr (by rw [c8 39 (by omega)]) (c8 40 (by omega)), ?_, c1, by omega, ?_, by rw [c7 9 (by decide)]; exact a6, by rw [c7 10 (by decide)]; exact a7, by rw [c8 39 (by omega)]; exact a8⟩
  · unfold KO
    rw [c8 2 (by omega), c8 4 (by omega), c8 3 (by omega), c8 5 (by omega), c8 1 (by omega)]
    exact a2
  · intro k hk
    obtain ⟨d1, d2, -, -⟩ := c2 k (by omega)
    rw [d1, d2]
    exact a5 k hk
theorem c77 {s : Sg} {n z m i : Nat} {t : Nat → Int} (H : CLS s n t z m) (hi : i < n) (hz8 : z < 8193) (hm : isL (t i) = true → m < 4112) :
    ∃ (s1 : Sg) (m1 : Nat) (k v : Int), CLS s1 n t z m1 ∧ NSt s s1 m m1 ∧ (m1 = m ∨ (m1 = m + 1 ∧ isL (t i) = true)) ∧
      (if lxB t n i then f_77 (i : Int) s = some (-1, s1) else f_77 (i : Int) s = some (((lxE t n i : Nat) : Int), AD s1 z k (i : Int) ((lxE t n i : Nat) : Int) v) ∧ (LXn s1 t m1 i (lxE t n i) k v ∨ LXv t n i (lxE t n i) k v ∨ LXs t n i (lxE t n i) k v)) := by
  obtain ⟨a1, a2, a3, a4, a5, a6, a7, a8⟩ := id H
  have h8 := a1.2.1
  obtain ⟨e, g⟩ := a1.at i
  rw [a1.ch hi] at e
  have w2 : ax_w32 ((i : Int) + 2) = ((i + 2 : Nat) : Int) := by rw [w32_id (by omega) (by omega)]; omega
  have hb := lxE_b (t := t) hi
  cases cL : isL (t i) with
  | true =>
    obtain ⟨id, s1, q, hc⟩ := c86 a1 a3 (hm cL) a6 a7 a8 hz8 i (by omega)
    have eE : lxE t n i = rn isLD t (n - i) i := by simp only [lxE, cL, if_true]
    have eB : lxB t n i = decide (16 < rn isLD t (n - i) i - i) := by simp only [lxB, cL, if_true]
    have ef : f_77 (i : Int) s = f_86 (i : Int) s := by
      unfold f_77
      rw [gd_pos g, e, c85, cL, if_neg (by decide)]
      cases f_86 (i : Int) s <;> rfl
    rw [eE, eB, ef, q]
    have all := rn_all isLD t (n - i) i
    rcases hc with ⟨b1, b2, b3, rfl⟩ | ⟨rfl, b2, b3⟩
    · refine ⟨s1, m, (if 12 ≤ id then 1 else 16 + (id : Int)), (id : Int), H, NSt.refl s1 m, Or.inl rfl, ?_⟩
      by_cases c : rn isLD t (n - i) i - i ≤ 16
      · rw [if_pos c, if_neg (by simp; omega)]
        exact ⟨rfl, Or.inl ⟨cL, all, c, id, b1, rfl, b2, b3, rfl⟩⟩
      · rw [if_neg c, if_pos (by simp; omega)]
    · refine ⟨s1, id + 1, (if 12 ≤ id then 1 else 16 + (id : Int)), (id : Int), H.names b2, NSt.new b2, Or.inr ⟨rfl, rfl⟩, ?_⟩
      by_cases c : rn isLD t (n - i) i - i ≤ 16
      · rw [if_pos c, if_neg (by simp; omega)]
        exact ⟨rfl, Or.inl ⟨cL, all, c, id, by omega, rfl, b2.2.2.1, b2.2.2.2.1, rfl⟩⟩
      · rw [if_neg c, if_pos (by simp; omega)]
  | false =>
    cases cD : isD (t i) with
    | true =>
      have eE : lxE t n i = nmE t n i := by simp only [lxE, cL, cD, Bool.false_eq_true, if_false, if_true]
      have eB : lxB t n i = !nmOk t n i := by simp only [lxB, cL, cD, Bool.false_eq_true, if_false, if_true]
      rw [eE] at hb
      obtain ⟨e1, g1⟩ := a1.at (i + 1)
      obtain ⟨e2, g2⟩ := a1.at (i + 2)
      have c0e : chs t n i = t i := if_pos hi
      have ad : ∀ (v : Int), f_78 2 (i : Int) ((nmE t n i : Nat) : Int) v s = AD s z 2 (i : Int) ((nmE t n i : Nat) : Int) v ∧ g_78 2 (i : Int) ((nmE t n i : Nat) : Int) v s := fun v => c78 a8 hz8 (by omega) (by omega) 2 v
      have hexc : hxq t n i = true → (if nmOk t n i then f_90 (i : Int) s = some (((nmE t n i : Nat) : Int), AD s z 2 (i : Int) ((nmE t n i : Nat) : Int) (nmV t n i)) else f_90 (i : Int) s = some (-1, s)) := by
        intro c
        have hl := hxq_len c
        have eN : nmE t n i = rn isH t (n - (i + 2)) (i + 2) := by simp only [nmE, c, if_true]
        have eV : nmV t n i = hvl t (nmE t n i - (i + 2)) (i + 2) 0 := by simp only [nmV, c, if_true]
        have eO : nmOk t n i = decide (nmE t n i - i ≤ 10) := by simp only [nmOk, c, if_true]
        rw [c90 a1 i (by omega), ← eN, ← eV, eO]
        unfold j_90_54
        rw [w32_id (by omega) (by omega)]
        by_cases d : nmE t n i - i ≤ 10
        · rw [if_pos (decide_eq_true d), if_pos (by omega), gd_pos (ad _).2, (ad _).1]
          rfl
        · rw [if_neg (by simpa using d), if_neg (by omega)]
      have decc : hxq t n i = false → (if nmOk t n i then f_91 (i : Int) s = some (((nmE t n i : Nat) : Int), AD s z 2 (i : Int) ((nmE t n i : Nat) : Int) (nmV t n i)) else f_91 (i : Int) s = some (-1, s)) := by
        intro c
        have eN : nmE t n i = rn isD t (n - i) i := by simp only [nmE, c, Bool.false_eq_true, if_false]
        have eV : nmV t n i = dvl t (nmE t n i - i) i 0 := by simp only [nmV, c, Bool.false_eq_true, if_false]
        have eO : nmOk t n i = decide (nmE t n i - i ≤ 32) := by simp only [nmOk, c, Bool.false_eq_true, if_false]
        rw [c91 a1 i (by omega), ← eN, ← eV, eO]
        unfold j_91_51
        rw [w32_id (by omega) (by omega)]
        by_cases d : nmE t n i - i ≤ 32
        · rw [if_pos (decide_eq_true d), if_pos (by omega), gd_pos (ad _).2, (ad _).1]
          rfl
        · rw [if_neg (by simpa using d), if_neg (by omega)]
      have eta : ∀ o : Option (Int × Sg), (o.bind fun q1 => some (q1.1, q1.2)) = o := fun o => by cases o <;> rfl
      have ef : f_77 (i : Int) s = if hxq t n i then f_90 (i : Int) s else f_91 (i : Int) s := by
        unfold f_77
        rw [gd_pos g, e, c85, cL, if_pos (by decide), c87, cD, if_pos (by decide), w32_nat (by omega), w2, gd_pos g1, gd_pos g2, e1, e2]
        unfold j_77_68 j_77_69
        simp only [eta, hxq, c0e]
        by_cases q0 : t i = 48
        · by_cases q1 : chs t n (i + 1) = 120
          · rw [c89]
            cases q2 : isH (chs t n (i + 2)) with
            | true =>
              have := hxv_b q2
              rw [if_neg (by simp [q0]), if_neg (by simp [q1]), if_neg (by simp; omega)]
              simp [q0, q1]
            | false =>
              rw [if_neg (by simp [q0]), if_neg (by simp [q1])]
              simp [q0, q1]
          · rw [if_neg (by simp [q0]), if_pos q1]
            simp [q1]
        · rw [if_pos q0]
          simp [q0]
      refine ⟨s, m, 2, nmV t n i, H, NSt.refl s m, Or.inl rfl, ?_⟩
      rw [eE, eB, ef]
      cases ok : nmOk t n i with
      | true =>
        rw [if_neg (by decide)]
        refine ⟨?_, Or.inr (Or.inl ⟨cD, ok, rfl, rfl, rfl⟩)⟩
        cases hq : hxq t n i with
        | true => have := hexc hq; rw [ok, if_pos rfl] at this; rw [if_pos rfl]; exact this
        | false => have := decc hq; rw [ok, if_pos rfl] at this; rw [if_neg (by decide)]; exact this
      | false =>
        rw [if_pos (by decide)]
        cases hq : hxq t n i with
        | true => have := hexc hq; rw [ok, if_neg (by decide)] at this; rw [if_pos rfl]; exact this
        | false => have := decc hq; rw [ok, if_neg (by decide)] at this; rw [if_neg (by decide)]; exact this
    | false =>
      obtain ⟨q, hl⟩ := c88 a1 a2 a8 hz8 i hi
      rw [prk_eq] at q
      have eta : ∀ o : Option (Int × Sg), (o.bind fun q1 => some (q1.1, q1.2)) = o := fun o => by cases o <;> rfl
      have ef : f_77 (i : Int) s = f_88 (i : Int) s := by
        unfold f_77
        rw [gd_pos g, e, c85, cL, if_pos (by decide), c87, cD, if_neg (by decide), eta]
      rw [ef, q]
      by_cases c : prk (t i) (chs t n (i + 1)) = -1
      · have eE : lxE t n i = i + 1 := by simp only [lxE, cL, cD, c, Bool.false_eq_true, if_false, if_true]
        have eB : lxB t n i = !isS (t i) := by simp only [lxB, cL, cD, c, Bool.false_eq_true, if_false, decide_true, Bool.true_and]
        refine ⟨s, m, t i, 0, H, NSt.refl s m, Or.inl rfl, ?_⟩
        rw [eE, eB, if_pos c]
        cases hS : isS (t i) with
        | true =>
          rw [if_neg (by decide), if_pos rfl]
          exact ⟨rfl, Or.inr (Or.inr ⟨rfl, Or.inl ⟨rfl, hS, rfl⟩⟩)⟩
        | false =>
          rw [if_pos (by decide), if_neg (by decide)]
      · have eE : lxE t n i = i + 2 := by simp only [lxE, cL, cD, c, Bool.false_eq_true, if_false]
        have eB : lxB t n i = false := by simp only [lxB, cL, cD, c, Bool.false_eq_true, if_false, decide_false, Bool.false_and]
        refine ⟨s, m, prk (t i) (chs t n (i + 1)), 0, H, NSt.refl s m, Or.inl rfl, ?_⟩
        rw [eE, eB, if_neg c, if_neg (by decide)]
        have hb2 := c95b (t i) (chs t n (i + 1)) s
        rw [prk_eq] at hb2
        exact ⟨rfl, Or.inr (Or.inr ⟨rfl, Or.inr ⟨rfl, by omega, by omega, rfl⟩⟩)⟩
/-- the reference's new lexeme -/
def MA (s : Sg) (z : Nat) (i j : Int) : Sg := ax_u2 (ax_u2 (ax_u2 (ax_u2 (ax_u2 (ax_u2 s 89 z i) 90 z j) 91 z 0) 92 z (if ¬ s 88 z = 10 then 0 else 1)) 93 z 0) 84 11 ((z : Int) + 1)
theorem m135 {s : Sg} {n z j : Nat} {t : Nat → Int} {k11 : Int → Sg → Option Sg} (h : MT s n t) (hz : s 84 11 = (z : Int)) (hz8 : z < 8200) (i : Int) (hj : j ≤ n) :
    j_208_135 k11 i (j : Int) s = k11 ((wsk t (n - j) false j : Nat) : Int) (MA s z i (j : Int)) := by
  have hg : 0 ≤ s 84 11 ∧ s 84 11 < 8200 := by omega
  have hn : (s 84 11).toNat = z := by omega
  have w : ax_w32 (s 84 11 + 1) = (z : Int) + 1 := by rw [hz, w32_id (by omega) (by omega)]
  have h01 : ((if ¬ (s 88 ((s 84 11).toNat)) = 10 then 0 else 1) : Int) = 0 ∨ ((if ¬ (s 88 ((s 84 11).toNat)) = 10 then 0 else 1) : Int) = 1 := by split <;> simp
  unfold j_208_135
  rw [gd_pos hg, gd_pos hg, gd_pos hg, gd_pos hg, gd_pos ⟨hg, h01⟩, gd_pos hg, hn, w]
  have hS : MT (MA s z i (j : Int)) n t := h.congr (by simp [MA, ax_u2]) (by funext x; simp [MA, ax_u2])
  have := m223 hS.1 hS.2.1 j hj
  have e86 : (MA s z i (j : Int)) 86 = s 86 := by funext x; simp [MA, ax_u2]
  rw [e86, wsk_congr (t := s 86) (t' := t) _ _ _ (fun e h1 h2 => (h.2.2 e (by omega)).1)] at this
  show (f_223 (j : Int) (MA s z i (j : Int))).bind _ = _
  rw [this]
  rfl
theorem m11 {s : Sg} {n z i : Nat} {t : Nat → Int} (h : MT s n t) (hz : s 84 11 = (z : Int)) (hz8 : z < 8200) (hf : s 84 6 = 0) (hi : i < n) (F : Nat) :
    ∃ s1 : Sg, j_208_11 (F + 1) (i : Int) s = j_208_11 F ((wsk t (n - lxE t n i) false (lxE t n i) : Nat) : Int) (MA s1 z (i : Int) ((lxE t n i : Nat) : Int)) ∧
      (if lxB t n i then ∃ k : Int, s1 = ax_u2 (ax_u2 s 84 6 1) 84 7 (i : Int) ∨ s1 = ax_u2 (ax_u2 (ax_u2 s 84 6 1) 84 7 (i : Int)) 88 z k else s1 = ax_u2 s 88 z (if isL (t i) then km (wkc (pk t (lxE t n i - i) i)) else if isD (t i) then 2 else if prk (t i) (chs t n (i + 1)) = -1 then km (t i) else km (prk (t i) (chs t n (i + 1))))) := by
  have h8 := h.2.1
  have hb := lxE_b (t := t) hi
  obtain ⟨e, g⟩ := h.at i
  have ce : chs t n i = t i := if_pos hi
  rw [ce] at e
  have tell : f_227 1 (i : Int) s = ax_u2 (ax_u2 s 84 6 1) 84 7 (i : Int) := by unfold f_227; rw [if_pos (by omega)]
  have hT : MT (ax_u2 (ax_u2 s 84 6 1) 84 7 (i : Int)) n t := h.congr (by simp [ax_u2]) (by funext x; simp [ax_u2])
  have zT : (ax_u2 (ax_u2 s 84 6 1) 84 7 (i : Int)) 84 11 = (z : Int) := by simpa [ax_u2] using hz
  have hg : 0 ≤ s 84 11 ∧ s 84 11 < 8200 := by omega
  have hn : (s 84 11).toNat = z := by omega
  rw [j_208_11, if_neg (by simp [hf]), if_neg (by have := h.1; omega), gd_pos g, e, m225]
  cases cL : isL (t i) with
  | true =>
    have eE : lxE t n i = rn isLD t (n - i) i := by simp only [lxE, cL, if_true]
    have eB : lxB t n i = decide (16 < rn isLD t (n - i) i - i) := by simp only [lxB, cL, if_true]
    have all := rn_all isLD t (n - i) i
    rw [if_neg (by decide)]
    obtain ⟨G, hG⟩ := FU_split (k := n - i + 1) (by omega)
    rw [hG, show G + (n - i + 1) = G + (n - i) + 1 by omega, m39l h i (n - i) i G (by omega), ← eE]
    rw [← eE] at eB
    rw [← eE] at all
    unfold j_208_67
    rw [w32_id (by omega) (by omega), eB]
    by_cases c : lxE t n i - i ≤ 16
    · rw [if_pos (by omega)]
      unfold j_208_81
      rw [m228 h (by omega) hb.2 all]
      refine ⟨ax_u2 s 88 z (km (wkc (pk t (lxE t n i - i) i))), ?_, ?_⟩
      · show gd _ _ = _
        rw [gd_pos hg, hn]
        exact m135 (h.congr (by simp [ax_u2]) (by funext x; simp [ax_u2])) (by simpa [ax_u2] using hz) hz8 _ hb.2
      · rw [if_neg (by simp; omega), if_pos rfl]
    · rw [if_neg (by omega)]
      show ∃ s1, j_208_81 _ _ _ (f_227 1 (i : Int) s) = _ ∧ _
      rw [tell]
      unfold j_208_81
      rw [m228 hT (by omega) hb.2 all]
      refine ⟨ax_u2 (ax_u2 (ax_u2 s 84 6 1) 84 7 (i : Int)) 88 z (km (wkc (pk t (lxE t n i - i) i))), ?_, ?_⟩
      · show gd _ _ = _
        rw [gd_pos (by omega), show ((ax_u2 (ax_u2 s 84 6 1) 84 7 (i : Int)) 84 11).toNat = z by omega]
        exact m135 (hT.congr (by simp [ax_u2]) (by funext x; simp [ax_u2])) (by simpa [ax_u2] using hz) hz8 _ hb.2
      · rw [if_pos (by simp; omega)]
        exact ⟨_, Or.inr rfl⟩
  | false =>
    rw [if_pos (show b01 false = 0 from rfl), gd_pos g, m226]
    cases cD : isD (t i) with
    | true =>
      have eE : lxE t n i = nmE t n i := by simp only [lxE, cL, cD, Bool.false_eq_true, if_false, if_true]
      have eB : lxB t n i = !nmOk t n i := by simp only [lxB, cL, cD, Bool.false_eq_true, if_false, if_true]
      rw [if_neg (by decide), m229 h i hi, ← eE, eB]
      cases ok : nmOk t n i with
      | true =>
        refine ⟨ax_u2 s 88 z 2, ?_, ?_⟩
        · show gd (0 ≤ s 84 11 ∧ s 84 11 < 8200) (j_208_135 _ _ _ (ax_u2 s 88 (s 84 11).toNat 2)) = _
          rw [gd_pos hg, hn]
          exact m135 (h.congr (by simp [ax_u2]) (by funext x; simp [ax_u2])) (by simpa [ax_u2] using hz) hz8 _ hb.2
        · rw [if_neg (by decide), if_neg (by decide), if_pos rfl]
      | false =>
        refine ⟨ax_u2 (ax_u2 (ax_u2 s 84 6 1) 84 7 (i : Int)) 88 z 2, ?_, ?_⟩
        · show gd (0 ≤ (f_227 1 (i : Int) s) 84 11 ∧ (f_227 1 (i : Int) s) 84 11 < 8200) (j_208_135 _ _ _ (ax_u2 (f_227 1 (i : Int) s) 88 ((f_227 1 (i : Int) s) 84 11).toNat 2)) = _
          rw [tell, gd_pos (by omega), show ((ax_u2 (ax_u2 s 84 6 1) 84 7 (i : Int)) 84 11).toNat = z by omega]
          exact m135 (hT.congr (by simp [ax_u2]) (by funext x; simp [ax_u2])) (by simpa [ax_u2] using hz) hz8 _ hb.2
        · rw [if_pos (by decide)]
          exact ⟨_, Or.inr rfl⟩
    | false =>
      rw [if_pos (show b01 false = 0 from rfl), m230 h hz hz8 i hi, prk_eq]
      by_cases c : prk (t i) (chs t n (i + 1)) = -1
      · have eE : lxE t n i = i + 1 := by simp only [lxE, cL, cD, c, Bool.false_eq_true, if_false, if_true]
        have eB : lxB t n i = !isS (t i) := by simp only [lxB, cL, cD, c, Bool.false_eq_true, if_false, decide_true, Bool.true_and]
        rw [if_pos c, eB]
        rw [eE] at hb ⊢
        cases hS : isS (t i) with
        | true =>
          refine ⟨ax_u2 s 88 z (km (t i)), ?_, ?_⟩
          · exact m135 (h.congr (by simp [ax_u2]) (by funext x; simp [ax_u2])) (by simpa [ax_u2] using hz) hz8 _ hb.2
          · rw [if_neg (by decide), if_neg (by decide), if_neg (by decide), if_pos c]
        | false =>
          refine ⟨ax_u2 (ax_u2 s 84 6 1) 84 7 (i : Int), ?_, ?_⟩
          · show j_208_135 _ _ _ (f_227 1 (i : Int) s) = _
            rw [tell]
            exact m135 hT zT hz8 _ hb.2
          · rw [if_pos (by decide)]
            exact ⟨0, Or.inl rfl⟩
      · have eE : lxE t n i = i + 2 := by simp only [lxE, cL, cD, c, Bool.false_eq_true, if_false]
        have eB : lxB t n i = false := by simp only [lxB, cL, cD, c, Bool.false_eq_true, if_false, decide_false, Bool.false_and]
        rw [if_neg c, eB]
        rw [eE] at hb ⊢
        refine ⟨ax_u2 s 88 z (km (prk (t i) (chs t n (i + 1)))), ?_, ?_⟩
        · exact m135 (h.congr (by simp [ax_u2]) (by funext x; simp [ax_u2])) (by simpa [ax_u2] using hz) hz8 _ hb.2
        · rw [if_neg (by decide), if_neg (by decide), if_neg (by decide), if_neg c]
