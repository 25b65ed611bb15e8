/-! CUTTING as a whole. -/
section CUTW
variable {s1 m1 : Sg} {n : Nat} {t : Nat → Int}
/-- what cutting leaves of the class; m names -/
def CWc (s s' : Sg) (m : Nat) : Prop := NI s' m ∧ 12 ≤ m ∧ m ≤ 4111 ∧ WD s' ∧ s' 31 9 = 0 ∧ s' 31 10 = 0 ∧ s' 31 8 = s 31 8 ∧ (∀ k, k < 12 → s' 36 k = s 36 k ∧ s' 37 k = s 37 k) ∧ (∀ k, 12 ≤ k → k < m → s' 36 k = -1 ∧ s' 37 k = 0) ∧ (∀ a, a < 30 ∨ 37 < a ∧ a < 39 ∨ 45 < a → s' a = s a) ∧ (∀ j, j < 8 → s' 39 j = s 39 j)
/-- and of the reference -/
def CWm (s s' : Sg) : Prop := (∀ a, a < 84 ∨ 84 < a ∧ a < 88 ∨ 93 < a → s' a = s a) ∧ ∀ j, j ≠ 6 → j ≠ 7 → j ≠ 11 → s' 84 j = s 84 j
theorem cut_sim (hN : NI s1 12) (hW : WD s1) (hK : KO s1) (h9 : s1 31 9 = 0) (h10 : s1 31 10 = 0) (h27 : s1 27 1 = (n : Int)) (hn : n ≤ 8192) (hb : ∀ i, i < n → s1 28 i % 256 = t i) (hM : MT m1 n t) (h6 : m1 84 6 = 0) :
    (∃ (T : TT) (sc0 sm0 : Sg), f_73_28 (s1 27 1) s1 = some (1, sc0) ∧ f_208 m1 = some sm0 ∧ TWF T ∧ POS T ∧ CC T sc0 ∧ MC T sm0 ∧ CU T sc0 0 ∧ CX T sc0 ∧ TX T sc0 sm0 n t ∧ (∀ k, k < T.z → FRS T sc0 sm0 k) ∧ sm0 84 6 = 0 ∧ CWc s1 sc0 T.m ∧ sc0 30 = s1 30 ∧ CWm m1 sm0 ∧ XO T sc0) ∨
    (∃ (sc0 sm0 : Sg) (m : Nat), f_73_28 (s1 27 1) s1 = some (0, sc0) ∧ f_208 m1 = some sm0 ∧ sc0 30 1 ≠ -1 ∧ (∀ j, j ≠ 1 → sc0 30 j = s1 30 j) ∧ sm0 84 6 = 1 ∧ CWc s1 sc0 m ∧ CWm m1 sm0) := by
  have hbb : ∀ i, i < n → 0 ≤ t i ∧ t i < 256 := fun i hi => (hM.2.2 i hi).2
  -- before the first lexeme
  obtain ⟨s2, hs2⟩ : ∃ s : Sg, s = ax_u2 (cpy (ax_u2 s1 39 8 (n : Int)) 28 40 0 0 n) 39 9 0 := ⟨_, rfl⟩
  have r2 : ∀ c, c ≠ 39 → c ≠ 40 → s2 c = s1 c := fun c x y => by
    rw [hs2, u2_row _ _ _ x]
    show (if c = 40 then _ else (ax_u2 s1 39 8 (n : Int)) c) = _
    rw [if_neg y, u2_row _ _ _ x]
  have r40 : ∀ i, i < n → s2 40 i = s1 28 i := fun i hi => by
    rw [hs2, u2_row _ _ _ (by decide)]
    show (if (40 : Nat) = 40 then ax_cpy ((ax_u2 s1 39 8 (n : Int)) 28) ((ax_u2 s1 39 8 (n : Int)) 40) 0 0 n else (ax_u2 s1 39 8 (n : Int)) 40) i = _
    rw [if_pos rfl]
    show (if 0 ≤ i ∧ i < 0 + n then (ax_u2 s1 39 8 (n : Int)) 28 (0 + (i - 0)) else _) = _
    rw [if_pos (by omega), u2_row _ _ _ (by decide), show 0 + (i - 0) = i by omega]
  have r39 : s2 39 8 = (n : Int) ∧ s2 39 9 = 0 ∧ ∀ j, j ≠ 8 → j ≠ 9 → s2 39 j = s1 39 j := by
    have q : ∀ j, j ≠ 9 → s2 39 j = (ax_u2 s1 39 8 (n : Int)) 39 j := fun j x => by
      rw [hs2, u2_col _ _ _ x]
      show (if (39 : Nat) = 40 then _ else (ax_u2 s1 39 8 (n : Int)) 39) j = _
      rw [if_neg (by decide)]
    refine ⟨by rw [q 8 (by decide)]; exact u2_same _ _ _ _, by rw [hs2]; exact u2_same _ _ _ _, fun j x y => by rw [q j y, u2_col _ _ _ x]⟩
  have ct : CT s2 n t := ⟨r39.1, hn, fun i hi => by rw [r40 i hi]; exact ⟨hb i hi, hbb i hi⟩⟩
  have cls : CLS s2 n t 0 12 := by
    refine ⟨ct, ?_, hN.congr (by rw [r2 31 (by decide) (by decide)]) (r2 32 (by decide) (by decide)) (r2 33 (by decide) (by decide)) (r2 34 (by decide) (by decide)) (r2 35 (by decide) (by decide)), Nat.le_refl _, ?_, by rw [r2 31 (by decide) (by decide)]; exact h9, by rw [r2 31 (by decide) (by decide)]; exact h10, r39.2.1⟩
    · exact hK.row (r2 1 (by decide) (by decide)) (r2 2 (by decide) (by decide)) (r2 3 (by decide) (by decide)) (r2 4 (by decide) (by decide)) (r2 5 (by decide) (by decide))
    · unfold WD
      rw [r2 34 (by decide) (by decide), r2 35 (by decide) (by decide)]
      exact hW
  obtain ⟨m2, hm2⟩ : ∃ s : Sg, s = ax_u2 m1 84 11 0 := ⟨_, rfl⟩
  have mr : ∀ c, c ≠ 84 → m2 c = m1 c := fun c x => by rw [hm2, u2_row _ _ _ x]
  have mj : ∀ j, j ≠ 11 → m2 84 j = m1 84 j := fun j x => by rw [hm2, u2_col _ _ _ x]
  have mt : MT m2 n t := hM.congr (mj 3 (by decide)) (mr 86 (by decide))
  have m11 : m2 84 11 = ((0 : Nat) : Int) := by rw [hm2]; exact u2_same _ _ _ _
  -- both begin at the same place
  obtain ⟨i, hi⟩ : ∃ i : Nat, i = wsk t n false 0 := ⟨_, rfl⟩
  have ge := wsk_ge t n false 0
  rw [← hi] at ge
  have e76 : f_76 0 s2 = some (i : Int) := by
    have := c76 r39.1 hn 0 (by omega)
    rw [show n - 0 = n by omega, wsk_congr (t' := t) n false 0 (fun e _ y => (ct.2.2 e (by omega)).1), ← hi] at this
    exact this
  have e223 : f_223 0 m2 = some (i : Int) := by
    have := m223 mt.1 hn 0 (by omega)
    rw [show n - 0 = n by omega, wsk_congr (t' := t) n false 0 (fun e _ y => (mt.2.2 e (by omega)).1), ← hi] at this
    exact this
  have ln : f_292 0 (f_291 (s1 27 1) (f_291 8192 8192 s1) s1) s1 = (n : Int) := by
    have a1 : f_291 8192 8192 s1 = 8192 := by unfold f_291; rw [if_neg (by decide)]
    have a2 : f_291 (s1 27 1) 8192 s1 = (n : Int) := by unfold f_291; rw [h27, if_neg (by omega)]
    rw [a1, a2]
    unfold f_292
    by_cases c : (0 : Int) < n
    · rw [if_pos c]
    · rw [if_neg c]; omega
  have ec : f_73_28 (s1 27 1) s1 = j_73_28_48 FU (i : Int) 0 s2 := by
    unfold f_73_28
    rw [ln, gd_pos (by omega), Int.toNat_natCast]
    show ((f_76 0 (ax_u2 (cpy (ax_u2 s1 39 8 (n : Int)) 28 40 0 0 n) 39 9 0)).bind fun q1 => j_73_28_48 FU q1 0 (ax_u2 (cpy (ax_u2 s1 39 8 (n : Int)) 28 40 0 0 n) 39 9 0)) = _
    rw [← hs2, e76, Option.bind_some]
  have em : f_208 m1 = j_208_11 FU (i : Int) m2 := by
    unfold f_208
    rw [← hm2, e223, Option.bind_some]
  obtain ⟨F, hF⟩ := FU_split (k := (n - i) + 1) (by omega)
  -- what is known of the class behind it
  have cw : ∀ (s' : Sg) (m : Nat), CF s2 s' 12 m → CLS s' n t (s' 39 9).toNat m → m ≤ 4111 → CWc s1 s' m ∧ s' 30 = s1 30 := fun s' m cf cl hm => by
    obtain ⟨f1, f2, f3, f4, f5, f6⟩ := cf
    obtain ⟨_, _, c3, c4, c5, c6, c7, _⟩ := cl
    refine ⟨⟨c3, c4, hm, c5, c6, c7, by rw [f4, r2 31 (by decide) (by decide)], fun k hk => ?_, f3, fun a x => by rw [f5 a (by omega) (by omega) (by omega), r2 a (by omega) (by omega)], fun j hj => by rw [f6 j (by omega), r39.2.2 j (by omega) (by omega)]⟩, by rw [f5 30 (by decide) (by decide) (by decide), r2 30 (by decide) (by decide)]⟩
    obtain ⟨_, _, a3, a4⟩ := f2 k hk
    rw [a3, a4, r2 36 (by decide) (by decide), r2 37 (by decide) (by decide)]
    exact ⟨rfl, rfl⟩
  have mw : ∀ m' : Sg, MF m2 m' → CWm m1 m' := fun m' mf => ⟨fun a x => by rw [mf.1 a x, mr a (by omega)], fun j x y z => by rw [mf.2 j x y z, mj j z]⟩
  rcases cutl (n - i) i 0 12 F F s2 m2 (by omega) cls mt m11 (by rw [mj 6 (by decide)]; exact h6) (by omega) (fun k hk => absurd hk (by omega)) ⟨fun k hk => absurd hk (by omega), fun u => absurd u (by omega)⟩ (Or.inl (by omega)) with ⟨sc', sm', z', m', a1, a2, a3, a4, a5, a6, a7, a8, a9, a10, a11, a12⟩ | ⟨sc', sm', z', m', i', a1, a2, a3, a4, a5, a6, a7, a8, a9, a10⟩
  · left
    rw [show F + (n - i) + 1 = FU by omega] at a1 a2
    obtain ⟨T, t1, t2, t3, t4, t5, t6, t7, t8, t9, t10, t11⟩ := cut_in a3 a4 a5 a7 a8 a9 a10
    obtain ⟨v41, v42, v43, v44, v45, v9, v10, v11, vo⟩ := ENc_at (sc := sc') (z := z') (n := n)
    have h39 : (sc' 39 9).toNat = z' := by rw [a3.2.2.2.2.2.2.2, Int.toNat_natCast]
    obtain ⟨⟨w1, w2, w3, w4, w5, w6, w7, w8, w9, w10, w11⟩, w12⟩ := cw sc' m' a11 (by rw [h39]; exact a3) a8
    have er : ∀ c, c ≠ 39 → c < 41 ∨ 45 < c → ENc sc' z' n c = sc' c := fun c x y => ENc_row (by omega)
    refine ⟨T, ENc sc' z' n, ENm sm' z' n, ?_, ?_, t3, t4, t5, t6, t7, t8, t9, fun k hk => t10 k (by omega), ?_, ?_, ?_, ?_, t11⟩
    · have a1' : j_73_28_48 FU (i : Int) 0 s2 = _ := a1
      rw [ec, a1', c101e a3 a7]
    · rw [em, a2, m222e a5 a4.1 (by omega)]
    · rw [ENm_row (by decide)]; exact a6
    · rw [t2]
      refine ⟨w1.congr (by rw [er 31 (by decide) (by decide)]) (er 32 (by decide) (by decide)) (er 33 (by decide) (by decide)) (er 34 (by decide) (by decide)) (er 35 (by decide) (by decide)), w2, w3, ?_, by rw [er 31 (by decide) (by decide)]; exact w5, by rw [er 31 (by decide) (by decide)]; exact w6, by rw [er 31 (by decide) (by decide)]; exact w7, ?_, ?_, fun a x => by rw [er a (by omega) (by omega)]; exact w10 a x, fun j hj => by rw [vo j (by omega) (by omega) (by omega)]; exact w11 j hj⟩
      · unfold WD
        rw [er 34 (by decide) (by decide), er 35 (by decide) (by decide)]
        exact w4
      · rw [er 36 (by decide) (by decide), er 37 (by decide) (by decide)]
        exact w8
      · rw [er 36 (by decide) (by decide), er 37 (by decide) (by decide)]
        exact w9
    · rw [er 30 (by decide) (by decide)]; exact w12
    · have mw' := mw sm' a12
      exact ⟨fun a x => by rw [ENm_row (by omega)]; exact mw'.1 a x, fun j x y z => by rw [ENm_row (by decide)]; exact mw'.2 j x y z⟩
  · right
    rw [show F + (n - i) + 1 = FU by omega] at a1 a2
    have h39 : (sc' 39 9).toNat = z' := by rw [a3.2.2.2.2.2.2.2, Int.toNat_natCast]
    obtain ⟨⟨w1, w2, w3, w4, w5, w6, w7, w8, w9, w10, w11⟩, w12⟩ := cw sc' m' a9 (by rw [h39]; exact a3) a8
    obtain ⟨k1, k2⟩ := c71k (s := sc') (k := 1) (x := (i' : Int)) (by decide) (by decide) (by omega)
    have k1' : g_71 1 (i' : Int) sc' := k1
    have k2' : NTk 1 sc' (f_71 1 (i' : Int) sc') True := k2
    obtain ⟨p1, p2, p3⟩ := k2'
    refine ⟨f_71 1 (i' : Int) sc', ENm sm' (z' + 1) n, m', ?_, ?_, p3.mpr (Or.inr trivial), fun j hj => by rw [p2 j hj, w12], ?_, ?_, ?_⟩
    · have a1' : j_73_28_48 FU (i : Int) 0 s2 = _ := a1
      rw [ec, a1']
      unfold j_73_28_77
      rw [gd_pos k1', Option.bind_some]
    · rw [em, a2, m222e a4 a5 (by omega)]
    · rw [ENm_row (by decide)]; exact a6
    · refine ⟨w1.congr (by rw [p1 31 (by decide)]) (p1 32 (by decide)) (p1 33 (by decide)) (p1 34 (by decide)) (p1 35 (by decide)), w2, w3, ?_, by rw [p1 31 (by decide)]; exact w5, by rw [p1 31 (by decide)]; exact w6, by rw [p1 31 (by decide)]; exact w7, ?_, ?_, fun a x => by rw [p1 a (by omega)]; exact w10 a x, fun j hj => by rw [p1 39 (by decide)]; exact w11 j hj⟩
      · unfold WD
        rw [p1 34 (by decide), p1 35 (by decide)]
        exact w4
      · rw [p1 36 (by decide), p1 37 (by decide)]
        exact w8
      · rw [p1 36 (by decide), p1 37 (by decide)]
        exact w9
    · have mw' := mw sm' a10
      exact ⟨fun a x => by rw [ENm_row (by omega)]; exact mw'.1 a x, fun j x y z => by rw [ENm_row (by decide)]; exact mw'.2 j x y z⟩
end CUTW
