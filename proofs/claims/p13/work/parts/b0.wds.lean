/-! FORGETTING: the words are entered; all is as new. -/
def wch (l : Nat) : Int := wdl.getD l 0
def wix : Nat → Nat
  | 0 => 0
  | l + 1 => wix l + (if wch l = 32 then 1 else 0)
def wky : Nat → Int × Int
  | 0 => (0, 0)
  | l + 1 => if wch l = 32 then (0, 0) else (ax_lor (ax_lshl (wky l).1 8) (ax_lushr (wky l).2 56), ax_lor (ax_lshl (wky l).2 8) (wch l))
theorem w_ch : ∀ l : Nat, l < 49 → ax_u16 (ax_iand (wch l) 255) = wch l ∧ 0 ≤ wch l ∧ wch l < 65536 := by decide +kernel
theorem w_sp : ∀ l : Nat, l < 49 → wch l = 32 → (wky l).1 = 0 ∧ (wky l).2 = wdk.getD (wix l) 0 ∧ wix l < 12 := by decide +kernel
theorem w_di : ∀ a : Nat, a < 12 → ∀ b : Nat, b < a → wdk.getD b 0 ≠ wdk.getD a 0 := by decide +kernel
theorem w_en : wix 49 = 12 ∧ (wky 49).1 = 0 ∧ (wky 49).2 = 0 := by decide +kernel
section WDS
variable {s s0 s' : Sg} {m l : Nat}
/-- m words have been entered -/
def WDM (s0 s : Sg) (m : Nat) : Prop := NI s m ∧ (∀ k, k < m → s 34 k = 0 ∧ s 35 k = wdk.getD k 0 ∧ s 36 k = -1 ∧ s 37 k = 0) ∧ s 31 9 = 0 ∧ s 31 10 = 0 ∧ s 31 8 = s0 31 8 ∧ (∀ a, a < 31 ∨ 37 < a → s a = s0 a)
theorem c103 (hk : KO s0) (h0 : NI s0 0) (h9 : s0 31 9 = 0) (h10 : s0 31 10 = 0) : ∃ s' : Sg, f_103 s0 = some s' ∧ WDM s0 s' 12 := by
  have go : ∀ (r l F : Nat) (z : Sg), l + r = 49 → WDM s0 z (wix l) → ∃ s' : Sg, j_103_2 (F + r + 1) (l : Int) (ax_u2 (ax_u2 z 31 9 (wky l).1) 31 10 (wky l).2) = some s' ∧ WDM s0 s' 12 := by
    intro r
    induction r with
    | zero =>
      intro l F z hl hw
      have e : l = 49 := by omega
      subst e
      have k2 : (ax_u2 (ax_u2 z 31 9 (wky 49).1) 31 10 (wky 49).2) 2 1 = 0 := by rw [u2_row _ _ _ (by decide), u2_row _ _ _ (by decide), hw.2.2.2.2.2 2 (by decide)]; exact hk.1
      refine ⟨ax_u2 (ax_u2 z 31 9 (wky 49).1) 31 10 (wky 49).2, ?_, ?_⟩
      · rw [j_103_2]
        unfold f_272_2 f_275_2
        rw [k2, gd_pos (by decide), Option.bind_some, Option.bind_some, if_pos (by decide)]
      · rw [w_en.2.1, w_en.2.2]
        rw [w_en.1] at hw
        obtain ⟨a1, a2, a3, a4, a5, a6⟩ := hw
        rw [u2_self z a3, u2_self z a4]
        exact ⟨a1, a2, a3, a4, a5, a6⟩
    | succ r ih =>
      intro l F z hl hw
      obtain ⟨a1, a2, a3, a4, a5, a6⟩ := id hw
      obtain ⟨c1, c2, c3⟩ := w_ch l (by omega)
      have lw : wix (l + 1) = wix l + (if wch l = 32 then 1 else 0) := rfl
      have lk : wky (l + 1) = if wch l = 32 then (0, 0) else (ax_lor (ax_lshl (wky l).1 8) (ax_lushr (wky l).2 56), ax_lor (ax_lshl (wky l).2 8) (wch l)) := rfl
      have row : ∀ a, a ≠ 31 → (ax_u2 (ax_u2 z 31 9 (wky l).1) 31 10 (wky l).2) a = z a := fun a x => by rw [u2_row _ _ _ x, u2_row _ _ _ x]
      have k2 : (ax_u2 (ax_u2 z 31 9 (wky l).1) 31 10 (wky l).2) 2 1 = 0 := by rw [row 2 (by decide), a6 2 (by decide)]; exact hk.1
      have k3 : (ax_u2 (ax_u2 z 31 9 (wky l).1) 31 10 (wky l).2) 3 l = wch l := by rw [row 3 (by decide), a6 3 (by decide)]; exact hk.2.2.1 l (by omega)
      have v9 : (ax_u2 (ax_u2 z 31 9 (wky l).1) 31 10 (wky l).2) 31 9 = (wky l).1 := by rw [u2_col _ _ _ (by decide)]; exact u2_same _ _ _ _
      have v10 : (ax_u2 (ax_u2 z 31 9 (wky l).1) 31 10 (wky l).2) 31 10 = (wky l).2 := u2_same _ _ _ _
      have e73 : f_273_2 (l : Int) (ax_u2 (ax_u2 z 31 9 (wky l).1) 31 10 (wky l).2) = some (wch l, ax_u2 (ax_u2 z 31 9 (wky l).1) 31 10 (wky l).2) := by
        unfold f_273_2 f_276_2
        rw [if_neg (fun u => by rw [if_neg (fun w => w k2)] at u; exact absurd u (by decide))]
        unfold f_296_3 f_278 f_300_26
        rw [if_neg (by omega), if_pos (by omega), Option.bind_some, Option.bind_some, gd_pos (by omega), Option.bind_some, Int.toNat_natCast]
        show gd (0 ≤ ax_u16 (ax_iand ((ax_u2 (ax_u2 z 31 9 (wky l).1) 31 10 (wky l).2) 3 l) 255) ∧ ax_u16 (ax_iand ((ax_u2 (ax_u2 z 31 9 (wky l).1) 31 10 (wky l).2) 3 l) 255) < 65536) _ = _
        rw [k3, c1, gd_pos ⟨c2, c3⟩]
      rw [show F + (r + 1) + 1 = (F + r + 1) + 1 by omega, j_103_2]
      have e72 : f_272_2 (ax_u2 (ax_u2 z 31 9 (wky l).1) 31 10 (wky l).2) = some 49 := by
        unfold f_272_2 f_275_2
        rw [k2, gd_pos (by decide), Option.bind_some]
        rfl
      rw [e72, Option.bind_some, if_neg (by omega), e73, Option.bind_some]
      have k40 : ∀ y : Sg, j_103_40 (j_103_2 (F + r + 1)) (l : Int) y = j_103_2 (F + r + 1) ((l + 1 : Nat) : Int) y := fun y => by
        unfold j_103_40
        rw [w32_nat (by omega)]
      by_cases c : wch l = 32
      · obtain ⟨p1, p2, p3⟩ := w_sp l (by omega) c
        rw [if_pos c] at lw lk
        obtain ⟨id, s1, e1, e2⟩ := c104 a1 (by omega) a3 a4 (wky l).1 (wky l).2
        dsimp only
        rw [if_neg (fun u => u c), e1, Option.bind_some]
        dsimp only
        rw [k40]
        rcases e2 with ⟨f1, f2, f3, f4⟩ | ⟨f1, ⟨g1, g2, g3, g4, g5, g6, g7, g8⟩, f3⟩
        · exfalso
          rw [(a2 id f1).2.1, p2] at f3
          exact w_di (wix l) p3 id f1 f3
        · have b9 : s1 31 9 = 0 := by rw [g7 9 (by decide)]; exact a3
          have b10 : s1 31 10 = 0 := by rw [g7 10 (by decide)]; exact a4
          have := ih (l + 1) F s1 (by omega) (by
            rw [lw]
            refine ⟨g1, fun k hk => ?_, b9, b10, by rw [g7 8 (by decide)]; exact a5, fun a x => by rw [g8 a x]; exact a6 a x⟩
            by_cases e : k = wix l
            · rw [e]
              exact ⟨by rw [g3]; exact p1, by rw [g4]; exact p2, g5, g6⟩
            · obtain ⟨q1, q2, q3, q4⟩ := g2 k (by omega)
              rw [q1, q2, q3, q4]
              exact a2 k (by omega))
          rw [lk] at this
          dsimp only at this
          rw [u2_self s1 b9, u2_self s1 b10] at this
          exact this
      · rw [if_neg c] at lw lk
        dsimp only
        rw [if_pos c, e73, Option.bind_some]
        dsimp only
        rw [Option.bind_some, k40]
        have e5 : f_105 (wch l) (ax_u2 (ax_u2 z 31 9 (wky l).1) 31 10 (wky l).2) = ax_u2 (ax_u2 z 31 9 (wky (l + 1)).1) 31 10 (wky (l + 1)).2 := by
          unfold f_105
          rw [v9, v10, sp_over, lk]
        rw [e5]
        exact ih (l + 1) F z (by omega) (by rw [lw]; exact hw)
  obtain ⟨F, hF⟩ := FU_split (k := 50) (by omega)
  obtain ⟨s', e1, e2⟩ := go 49 0 F s0 (by omega) ⟨h0, fun k hk => absurd hk (by show ¬ k < 0; omega), h9, h10, rfl, fun _ _ => rfl⟩
  rw [show F + 49 + 1 = FU by omega] at e1
  have e0 : ax_u2 (ax_u2 s0 31 9 (wky 0).1) 31 10 (wky 0).2 = s0 := by
    show ax_u2 (ax_u2 s0 31 9 0) 31 10 0 = s0
    rw [u2_self s0 h9, u2_self s0 h10]
  rw [e0] at e1
  exact ⟨s', e1, e2⟩
/-- the names, between two readings -/
def NMI (s : Sg) : Prop := KO s ∧ s 31 9 = 0 ∧ s 31 10 = 0 ∧ (∃ B : Nat, s 31 8 = (B : Int) ∧ B ≤ 4112) ∧ (NI s 0 ∨ ∃ m, NI s m ∧ 12 ≤ m ∧ m ≤ 4111 ∧ WD s)
theorem KO.row (h : KO s) (h1 : s' 1 = s 1) (h2 : s' 2 = s 2) (h3 : s' 3 = s 3) (h4 : s' 4 = s 4) (h5 : s' 5 = s 5) : KO s' := by
  unfold KO
  rw [h1, h2, h3, h4, h5]
  exact h
theorem c101 (h : NMI s) : ∃ s' : Sg, f_101 s = some s' ∧ NI s' 12 ∧ WD s' ∧ s' 31 8 = 0 ∧ s' 31 9 = 0 ∧ s' 31 10 = 0 ∧ (∀ a, a < 31 ∨ 37 < a → s' a = s a) := by
  obtain ⟨hk, h9, h10, ⟨B, hB, hB8⟩, h⟩ := h
  rcases h with h | ⟨m, h, hm1, hm2, hw⟩
  · -- for the first time
    have h7 : s 31 7 = 0 := h.1
    obtain ⟨F, hF⟩ := FU_split (k := 1) (by omega)
    have w7 : f_291 (s 31 7) 12 s = 0 := by
      unfold f_291
      rw [h7, if_neg (by decide)]
    obtain ⟨s1, e1, e2, e3, e4, e5⟩ := c102f (s := ax_u2 s 31 7 0) (B := B) (by rw [u2_col _ _ _ (by decide)]; exact hB) hB8
    have r1 : ∀ c, c ≠ 31 → c ≠ 37 → s1 c = s c := fun c x y => by rw [e3 c x y, u2_row _ _ _ x]
    have n0 : NI s1 0 := h.congr (by rw [e4 7 (by decide), u2_same, h7]) (r1 32 (by decide) (by decide)) (r1 33 (by decide) (by decide)) (r1 34 (by decide) (by decide)) (r1 35 (by decide) (by decide))
    have b9 : s1 31 9 = 0 := by rw [e4 9 (by decide), u2_col _ _ _ (by decide)]; exact h9
    have b10 : s1 31 10 = 0 := by rw [e4 10 (by decide), u2_col _ _ _ (by decide)]; exact h10
    obtain ⟨s2, f1, g1, g2, g3, g4, g5, g6⟩ := c103 (s0 := s1) (hk.row (r1 1 (by decide) (by decide)) (r1 2 (by decide) (by decide)) (r1 3 (by decide) (by decide)) (r1 4 (by decide) (by decide)) (r1 5 (by decide) (by decide))) n0 b9 b10
    refine ⟨s2, ?_, g1, fun k hk => ⟨(g2 k hk).1, (g2 k hk).2.1⟩, by rw [g5]; exact e2, g3, g4, fun a x => by rw [g6 a x, r1 a (by omega) (by omega)]⟩
    unfold f_101
    rw [show FU = F + 1 by omega, j_101_3, h7, if_pos (by decide)]
    unfold j_101_49
    rw [w7, e1, Option.bind_some, if_neg (fun u => u n0.1), f1, Option.bind_some]
  · obtain ⟨F, hF⟩ := FU_split (k := (m - 12) + 1) (by omega)
    obtain ⟨s1, e1, sl⟩ := c101a h (m - 12) 12 F s (by omega) (Nat.le_refl _) ⟨fun _ _ => rfl, fun q ⟨k, k1, k2, _⟩ => absurd k2 (by omega), fun _ _ => rfl⟩
    rw [show F + (m - 12) + 1 = FU by omega] at e1
    have h7 : s1 31 7 = (m : Int) := by rw [sl.1 31 (by decide)]; exact h.1
    have w7 : f_291 (s1 31 7) 12 s1 = 12 := by
      unfold f_291
      rw [h7]
      by_cases c : (12 : Int) < m
      · rw [if_pos c]
      · rw [if_neg c]; omega
    obtain ⟨s2, f1, f2, f3, f4, f5⟩ := c102f (s := ax_u2 s1 31 7 12) (B := B) (by rw [u2_col _ _ _ (by decide), sl.1 31 (by decide)]; exact hB) hB8
    have r1 : ∀ c, c ≠ 31 → c ≠ 37 → s2 c = s1 c := fun c x y => by rw [f3 c x y, u2_row _ _ _ x]
    have r2 : ∀ c, c ≠ 31 → c ≠ 32 → c ≠ 37 → s2 c = s c := fun c x y w => by rw [r1 c x w, sl.1 c y]
    have b7 : s2 31 7 = 12 := by rw [f4 7 (by decide)]; exact u2_same _ _ _ _
    refine ⟨s2, ?_, h.trim hm1 sl b7 r1, fun k hk => ?_, f2, ?_, ?_, fun a x => r2 a (by omega) (by omega) (by omega)⟩
    · unfold f_101
      have e1' : j_101_3 FU 12 s = _ := e1
      rw [e1']
      unfold j_101_49
      rw [w7, f1, Option.bind_some, if_pos (by rw [b7]; decide)]
    · rw [r2 34 (by decide) (by decide) (by decide), r2 35 (by decide) (by decide) (by decide)]
      exact hw k hk
    · rw [f4 9 (by decide), u2_col _ _ _ (by decide), sl.1 31 (by decide)]; exact h9
    · rw [f4 10 (by decide), u2_col _ _ _ (by decide), sl.1 31 (by decide)]; exact h10
/-- all is forgotten -/
theorem c14 (h : NMI s) : ∃ s' : Sg, f_14 s = some s' ∧ NI s' 12 ∧ WD s' ∧ s' 31 8 = 0 ∧ s' 31 9 = 0 ∧ s' 31 10 = 0 ∧ (∀ j, j < 11 → s' 30 j = -1) ∧ s' 39 9 = 0 ∧ s' 46 7 = 0 ∧ s' 54 6 = 0 ∧ s' 61 4 = 0 ∧ s' 66 7 = 0 ∧ s' 70 9 = 0 ∧ (∀ j, j ≠ 9 → j ≠ 10 → j ≠ 11 → s' 39 j = s 39 j) ∧ (∀ a, a < 30 ∨ 37 < a → a ≠ 39 → a ≠ 46 → a ≠ 54 → a ≠ 61 → a ≠ 66 → a ≠ 70 → a ≠ 74 → s' a = s a) ∧ s' 74 13 = 0 := by
  obtain ⟨s1, e1, p1, p2, -⟩ := c70 s
  have h1 : NMI s1 := by
    obtain ⟨hk, h9, h10, hB, h⟩ := h
    refine ⟨hk.row (p1 1 (by decide)) (p1 2 (by decide)) (p1 3 (by decide)) (p1 4 (by decide)) (p1 5 (by decide)), by rw [p1 31 (by decide)]; exact h9, by rw [p1 31 (by decide)]; exact h10, by rw [p1 31 (by decide)]; exact hB, ?_⟩
    rcases h with h | ⟨m, h, hm1, hm2, hw⟩
    · exact Or.inl (h.congr (by rw [p1 31 (by decide)]) (p1 32 (by decide)) (p1 33 (by decide)) (p1 34 (by decide)) (p1 35 (by decide)))
    · refine Or.inr ⟨m, h.congr (by rw [p1 31 (by decide)]) (p1 32 (by decide)) (p1 33 (by decide)) (p1 34 (by decide)) (p1 35 (by decide)), hm1, hm2, ?_⟩
      unfold WD
      rw [p1 34 (by decide), p1 35 (by decide)]
      exact hw
  obtain ⟨s2, e2, q1, q2, q4, q5, q6, q7⟩ := c101 h1
  obtain ⟨z, hz⟩ : ∃ z : Sg, z = f_163 (f_140 (f_44 (f_33 (f_180 (f_113 (f_74 s2)))))) := ⟨_, rfl⟩
  have rw31 : ∀ a, a ≠ 39 → a ≠ 46 → a ≠ 54 → a ≠ 61 → a ≠ 66 → a ≠ 70 → a ≠ 74 → z a = s2 a := fun a x1 x2 x3 x4 x5 x6 x7 => by
    rw [hz]
    unfold f_163 f_140 f_44 f_33 f_180 f_113 f_74
    rw [u2_row _ _ _ x7, u2_row _ _ _ x6, u2_row _ _ _ x5, u2_row _ _ _ x4, u2_row _ _ _ x3, u2_row _ _ _ x3, u2_row _ _ _ x2, u2_row _ _ _ x1, u2_row _ _ _ x1, u2_row _ _ _ x1]
  have rs : ∀ a, a < 38 → z a = s2 a := fun a x => rw31 a (by omega) (by omega) (by omega) (by omega) (by omega) (by omega) (by omega)
  refine ⟨z, ?_, q1.congr (by rw [rs 31 (by decide)]) (rs 32 (by decide)) (rs 33 (by decide)) (rs 34 (by decide)) (rs 35 (by decide)), ?_, by rw [rs 31 (by decide)]; exact q4, by rw [rs 31 (by decide)]; exact q5, by rw [rs 31 (by decide)]; exact q6, fun j hj => by rw [rs 30 (by decide), q7 30 (by decide)]; exact p2 j hj, ?_, ?_, ?_, ?_, ?_, ?_, fun j a b c => ?_, fun a x x1 x2 x3 x4 x5 x6 x7 => by rw [rw31 a x1 x2 x3 x4 x5 x6 x7, q7 a (by omega), p1 a (by omega)], ?_⟩
  · unfold f_14
    rw [e1, Option.bind_some, e2, Option.bind_some, Option.bind_some, Option.bind_some, Option.bind_some, Option.bind_some, Option.bind_some, Option.bind_some, Option.bind_some, hz]
  · unfold WD
    rw [rs 34 (by decide), rs 35 (by decide)]
    exact q2
  · rw [hz]; simp [f_163, f_140, f_44, f_33, f_180, f_113, f_74, ax_u2]
  · rw [hz]; simp [f_163, f_140, f_44, f_33, f_180, f_113, f_74, ax_u2]
  · rw [hz]; simp [f_163, f_140, f_44, f_33, f_180, f_113, f_74, ax_u2]
  · rw [hz]; simp [f_163, f_140, f_44, f_33, f_180, f_113, f_74, ax_u2]
  · rw [hz]; simp [f_163, f_140, f_44, f_33, f_180, f_113, f_74, ax_u2]
  · rw [hz]; simp [f_163, f_140, f_44, f_33, f_180, f_113, f_74, ax_u2]
  · have e : z 39 j = s2 39 j := by rw [hz]; simp [f_163, f_140, f_44, f_33, f_180, f_113, f_74, ax_u2, a, b, c]
    rw [e, q7 39 (by decide), p1 39 (by decide)]
  · rw [hz]; simp [f_163, ax_u2]
end WDS
