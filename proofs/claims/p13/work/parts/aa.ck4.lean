/-! THE REFERENCE's checks: the numbers, on. -/
section CK4
variable {T : TT} {sc sm s s' : Sg} {n a b S P A N K C w : Nat} {t : Nat → Int}
/-- a part's number -/
theorem DAT.prt (h : DAT T sc sm S P A N C w) {p : Nat} (hp : p < P) : ∃ x : Nat, sm 105 p = (x : Int) ∧ x < T.z ∧ T.tk x = 2 ∧ -1 ≤ sm 104 p := by
  obtain ⟨i, hi, k1, k2⟩ := h.2.2.2.2.2.2.2.1.1 p hp
  obtain ⟨x, p0, pc, n0, b1, b2, b3, b4, b5, b6, b7, b8, b9, b10, b11⟩ := h.1 i hi
  rw [b6, Int.toNat_natCast] at k1
  rw [b6, b7, Int.toNat_natCast, Int.toNat_natCast] at k2
  rcases b11 with ⟨c1, c2, c3, c4⟩ | ⟨c1, c2, c3, c4⟩ | ⟨c1, c2, c3, c4⟩ | ⟨c1, c2, ⟨f, c3, c4, c5, c6⟩, c7⟩
  · omega
  · omega
  · obtain ⟨st, e, m0, m1, d1, d2, d3, d4, d5, d6, d7, d8, d9, d10, d11, d12, d13⟩ := c4
    obtain ⟨g1, g2, g3, g4, g5⟩ := d13 (p - p0) (by omega)
    rw [show p0 + (p - p0) = p by omega] at g1 g2
    exact ⟨_, g2, g3, g5, by omega⟩
  · have mono : ∀ q j, j + q = pc → f j ≤ f pc := by
      intro q
      induction q with
      | zero => intro j hj; rw [show j = pc by omega]; exact Nat.le_refl _
      | succ q ih =>
        intro j hj
        have := ih (j + 1) (by omega)
        rcases c6 j (by omega) with ⟨_, _, _, g⟩ | ⟨_, _, _, _, _, g⟩ <;> omega
    have := mono (pc - (p - p0) - 1) (p - p0 + 1) (by omega)
    rcases c6 (p - p0) (by omega) with ⟨g1, g2, g3, g4⟩ | ⟨g1, g2, g3, g4, g5, g6⟩
    · rw [show p0 + (p - p0) = p by omega] at g2 g3
      exact ⟨_, g3, by omega, g1, by omega⟩
    · rw [show p0 + (p - p0) = p by omega] at g4 g5
      exact ⟨_, g5, by omega, g3, by omega⟩
theorem ck4p (h : CKX T sc sm n t S P A N K C w) (F i : Nat) (s : Sg) (hi : i < P) (ha : AG sm s) : ∃ s' : Sg, j_210_148 (F + 1) (i : Int) s = j_210_148 F ((i + 1 : Nat) : Int) s' ∧ FD s s' (bdP T sc sm i) := by
  obtain ⟨hT, hX, hC, hD, hN, h19, h31, h34, h30, wz, tw, S8, P8, A8, N8⟩ := h
  have z8 := hT.1
  have k211 : ∀ x : Sg, j_210_211 (j_210_148 F) (i : Int) x = j_210_148 F ((i + 1 : Nat) : Int) x := fun x => by
    unfold j_210_211
    rw [w32_nat (by omega)]
  obtain ⟨x, g1, g2, g3, g4⟩ := hD.prt hi
  rw [j_210_148, ha.2 31 (by decide), h31, if_neg (by omega), gd_pos (by omega), Int.toNat_natCast, ha.1 104 (by decide), ha.1 105 (by decide), g1]
  unfold bdP
  rw [g1, Int.toNat_natCast]
  by_cases c : sm 104 i < 0
  · rw [if_pos c, gd_pos (by omega), m236 hT hC (ha.tx hX) g2 g3, Option.bind_some]
    by_cases d : BIN sc x
    · rw [p01_y d, if_pos (by decide), k211]
      exact ⟨s, rfl, (FD.refl s).iff ⟨fun y => y.elim, fun y => absurd ⟨fun z => absurd z (by omega), fun _ => d⟩ y⟩⟩
    · obtain ⟨i1, j1, _, _, d1, _⟩ := hX.nu g2 g3
      rw [p01_n d, if_neg (by decide), gd_pos (by omega), gd_pos (by omega), ha.1 89 (by decide), d1, Option.bind_some, k211]
      exact ⟨_, rfl, (m235 (by omega)).iff ⟨fun _ y => d (y.2 c), fun _ => trivial⟩⟩
  · obtain ⟨x1, e1, e2⟩ := m234 hT (ha.tx hX) g2 g3 1 32
    rw [if_neg c, gd_pos (by omega), e1, Option.bind_some]
    refine ⟨x1, k211 x1, e2.iff ⟨fun y z => y (z.1 (by omega)), fun y z => y ⟨fun _ => z, fun u => absurd u c⟩⟩⟩
theorem ck4a (h : CKX T sc sm n t S P A N K C w) (F i : Nat) (s : Sg) (hi : i < A) (ha : AG sm s) : ∃ s' : Sg, j_210_219 (F + 1) (i : Int) s = j_210_219 F ((i + 1 : Nat) : Int) s' ∧ FD s s' (bdA T sm i) := by
  obtain ⟨hT, hX, hC, hD, hN, h19, h31, h34, h30, wz, tw, S8, P8, A8, N8⟩ := h
  have z8 := hT.1
  have k277 : ∀ x : Sg, j_210_277 (j_210_219 F) (i : Int) x = j_210_219 F ((i + 1 : Nat) : Int) x := fun x => by
    unfold j_210_277
    rw [w32_nat (by omega)]
  obtain ⟨si, b1, b2, b3, b4, b5, b6, b7⟩ := hD.2.1 i hi
  have nu : sm 106 i = 2 ∨ sm 106 i = 3 → ∃ x : Nat, sm 108 i = (x : Int) ∧ x < T.z ∧ T.tk x = 2 := fun y => by
    rcases b7 with ⟨c1, -⟩ | ⟨c1, -⟩ | ⟨c1, _, u⟩ | ⟨c1, u⟩
    · omega
    · omega
    · exact u
    · exact u
  have s2 : ∀ x : Sg, AG sm x → ∃ s' : Sg, j_210_252 (j_210_219 F) (i : Int) x = j_210_219 F ((i + 1 : Nat) : Int) s' ∧ FD x s' (¬ (sm 106 i = 3 → T.vl (sm 108 i).toNat ≤ 255)) := by
    intro x hx
    unfold j_210_252
    rw [gd_pos (by omega), Int.toNat_natCast, hx.1 106 (by decide), hx.1 108 (by decide)]
    by_cases c : sm 106 i = 3
    · obtain ⟨y, g1, g2, g3⟩ := nu (Or.inr c)
      have v0 := hT.2.2.2.2.1 y g2
      obtain ⟨x1, e1, e2⟩ := m234 hT (hx.tx hX) g2 g3 0 255
      rw [if_neg (fun e => e c), gd_pos (by omega), g1, e1, Option.bind_some, Int.toNat_natCast]
      exact ⟨x1, k277 x1, e2.iff ⟨fun u v => u ⟨v0.1, v c⟩, fun u v => u (fun _ => v.2)⟩⟩
    · rw [if_pos c, k277]
      exact ⟨x, rfl, (FD.refl x).iff ⟨fun y => y.elim, fun y => absurd (fun z => absurd z c) y⟩⟩
  rw [j_210_219, ha.2 34 (by decide), h34, if_neg (by omega), gd_pos (by omega), Int.toNat_natCast, ha.1 106 (by decide), ha.1 108 (by decide)]
  unfold bdA
  by_cases c : sm 106 i = 2
  · obtain ⟨y, g1, g2, g3⟩ := nu (Or.inl c)
    obtain ⟨x1, e1, e2⟩ := m234 hT (ha.tx hX) g2 g3 1 255
    obtain ⟨x2, e3, e4⟩ := s2 x1 (ha.fd e2)
    rw [if_neg (fun e => e c), gd_pos (by omega), g1, e1, Option.bind_some]
    refine ⟨x2, e3, (e2.trans e4).iff ?_⟩
    first | rw [g1, Int.toNat_natCast] | rw [Int.toNat_natCast]
    exact ⟨fun u v => by
      rcases u with u | u
      · exact u (v.1 c)
      · exact u v.2, fun u => by
      apply Classical.byContradiction
      intro hn
      exact u ⟨fun _ => Classical.byContradiction (fun v => hn (Or.inl v)), Classical.byContradiction (fun v => hn (Or.inr v))⟩⟩
  · rw [if_pos c]
    obtain ⟨x2, e3, e4⟩ := s2 s ha
    exact ⟨x2, e3, e4.iff ⟨fun u v => u v.2, fun u v => u ⟨fun z => absurd z c, v⟩⟩⟩
theorem ck4n (h : CKX T sc sm n t S P A N K C w) (F i : Nat) (s : Sg) (hi : i < N) (ha : AG sm s) : ∃ s' : Sg, j_210_285 (F + 1) (i : Int) s = j_210_285 F ((i + 1 : Nat) : Int) s' ∧ FD s s' (bdN T sm i) := by
  obtain ⟨hT, hX, hC, hD, hN, h19, h31, h34, h30, wz, tw, S8, P8, A8, N8⟩ := h
  have z8 := hT.1
  have k467 : ∀ x : Sg, j_210_467 (j_210_285 F) (i : Int) x = j_210_285 F ((i + 1 : Nat) : Int) x := fun x => by
    unfold j_210_467
    rw [w32_nat (by omega)]
  obtain ⟨c, q, -, -, -, -, -, nr6, nr7, -, -, -, -, -, nv⟩ := hN.2.2.2 i hi
  obtain ⟨v1, v2, v3, v4, v5⟩ := nv
  have cmp0 : ∀ x y : Int, 0 ≤ ax_cmp x y ↔ y ≤ x := fun x y => by
    have := cmp_lt (x := x) (y := y)
    omega
  -- a slice
  have s3 : ∀ x : Sg, AG sm x → ∃ s' : Sg, j_210_381 (j_210_285 F) (i : Int) x = j_210_285 F ((i + 1 : Nat) : Int) s' ∧ FD x s' (¬ (sm 116 i = 7 → T.vl (sm 118 i).toNat ≤ 31 ∧ T.vl (sm 119 i).toNat ≤ 31 ∧ T.vl (sm 119 i).toNat ≤ T.vl (sm 118 i).toNat)) := by
    intro x hx
    unfold j_210_381
    rw [gd_pos (by omega), Int.toNat_natCast, hx.1 116 (by decide), hx.1 118 (by decide)]
    by_cases c7 : sm 116 i = 7
    · obtain ⟨xa, xb, g1, g2, g3, g4, g5, g6, -⟩ := v3 c7
      have va := hT.2.2.2.2.1 xa g3
      have vb := hT.2.2.2.2.1 xb g4
      obtain ⟨x1, e1, e2⟩ := m234 hT (hx.tx hX) g3 g5 0 31
      have a1 := hx.fd e2
      obtain ⟨x2, e3, e4⟩ := m234 hT (a1.tx hX) g4 g6 0 31
      have a2 := a1.fd e4
      rw [if_neg (fun e => e c7), gd_pos (by omega), g1, e1, Option.bind_some, gd_pos (by omega)]
      dsimp only
      rw [a1.1 119 (by decide), g2, e3, Option.bind_some]
      dsimp only
      rw [Int.toNat_natCast, Int.toNat_natCast]
      have f2 := e2.trans e4
      by_cases d2 : 0 ≤ T.vl xb ∧ T.vl xb ≤ 31
      · rw [p01_y d2, if_neg (by decide)]
        by_cases d1 : 0 ≤ T.vl xa ∧ T.vl xa ≤ 31
        · rw [p01_y d1, if_neg (by decide), gd_pos (by omega), a2.1 118 (by decide), a2.1 119 (by decide), g1, g2, m218 hT (a2.tx hX) g3 g5, Option.bind_some, gd_pos (by omega), m218 hT (a2.tx hX) g4 g6, Option.bind_some]
          by_cases d3 : T.vl xb ≤ T.vl xa
          · rw [if_pos ((cmp0 _ _).mpr d3), k467]
            exact ⟨x2, rfl, f2.iff ⟨fun y => by
              rcases y with y | y
              · exact absurd d1 y
              · exact absurd d2 y, fun y => absurd (fun _ => ⟨d1.2, d2.2, d3⟩) y⟩⟩
          · obtain ⟨i1, j1, _, _, w1, _⟩ := hX.nu g4 g6
            rw [if_neg (fun e => d3 ((cmp0 _ _).mp e)), gd_pos (by omega), gd_pos (by omega), Int.toNat_natCast, a2.1 89 (by decide), w1, Option.bind_some, k467]
            exact ⟨_, rfl, (f2.trans (m235 (by omega))).iff ⟨fun _ y => d3 (y c7).2.2, fun _ => Or.inr trivial⟩⟩
        · rw [p01_n d1, if_pos rfl, k467]
          exact ⟨x2, rfl, f2.iff ⟨fun _ y => d1 ⟨va.1, (y c7).1⟩, fun _ => Or.inl d1⟩⟩
      · rw [p01_n d2, if_pos rfl, k467]
        exact ⟨x2, rfl, f2.iff ⟨fun _ y => d2 ⟨vb.1, (y c7).2.1⟩, fun _ => Or.inr d2⟩⟩
    · rw [if_pos c7, k467]
      exact ⟨x, rfl, (FD.refl x).iff ⟨fun y => y.elim, fun y => absurd (fun z => absurd z c7) y⟩⟩
  have s2 : ∀ x : Sg, AG sm x → ∃ s' : Sg, j_210_328 (j_210_285 F) (i : Int) x = j_210_285 F ((i + 1 : Nat) : Int) s' ∧ FD x s' (¬ (sm 116 i = 0 → 1 ≤ T.vl (sm 119 i).toNat ∧ T.vl (sm 119 i).toNat ≤ 32 ∧ T.vl (sm 118 i).toNat < 2 ^ (T.vl (sm 119 i).toNat).toNat) ∨ ¬ (sm 116 i = 7 → T.vl (sm 118 i).toNat ≤ 31 ∧ T.vl (sm 119 i).toNat ≤ 31 ∧ T.vl (sm 119 i).toNat ≤ T.vl (sm 118 i).toNat)) := by
    intro x hx
    unfold j_210_328
    rw [gd_pos (by omega), Int.toNat_natCast, hx.1 116 (by decide), hx.1 119 (by decide)]
    by_cases c0 : sm 116 i = 0
    · obtain ⟨xa, xb, g1, g2, g3, g4, g5, g6, -⟩ := v1 c0
      have va := hT.2.2.2.2.1 xa g3
      have vb := hT.2.2.2.2.1 xb g4
      obtain ⟨x1, e1, e2⟩ := m234 hT (hx.tx hX) g4 g6 1 32
      have a1 := hx.fd e2
      have n7 : ¬ ¬ (sm 116 i = 7 → T.vl (sm 118 i).toNat ≤ 31 ∧ T.vl (sm 119 i).toNat ≤ 31 ∧ T.vl (sm 119 i).toNat ≤ T.vl (sm 118 i).toNat) := fun y => y (fun z => absurd z (by omega))
      rw [if_neg (fun e => e c0), gd_pos (by omega), g2, e1, Option.bind_some]
      dsimp only
      by_cases d2 : 1 ≤ T.vl xb ∧ T.vl xb ≤ 32
      · rw [p01_y d2, if_neg (by decide), gd_pos (by omega), gd_pos (by omega), a1.1 119 (by decide), a1.1 118 (by decide), g2, g1, m218 hT (a1.tx hX) g4 g6, Option.bind_some]
        have sh := shl_d (T.vl xb).toNat (by omega) (by omega)
        rw [Int.toNat_of_nonneg vb.1] at sh
        rw [w32_id (z := T.vl xb) (by omega) (by omega), sh]
        obtain ⟨x2, e3, e4⟩ := m234 hT (a1.tx hX) g3 g5 0 (2 ^ (T.vl xb).toNat - 1)
        obtain ⟨x3, e5, e6⟩ := s3 x2 (a1.fd e4)
        rw [e3, Option.bind_some]
        refine ⟨x3, e5, ((e2.trans e4).trans e6).iff ?_⟩
        first | rw [g1, g2, Int.toNat_natCast, Int.toNat_natCast] | rw [g1, Int.toNat_natCast, Int.toNat_natCast] | rw [g2, Int.toNat_natCast, Int.toNat_natCast] | rw [Int.toNat_natCast, Int.toNat_natCast]
        rw [g1, g2, Int.toNat_natCast, Int.toNat_natCast] at n7
        exact ⟨fun y => by
          rcases y with (y | y) | y
          · exact absurd d2 y
          · exact Or.inl (fun z => y ⟨va.1, by have := (z c0).2.2; omega⟩)
          · exact absurd y n7, fun y => by
          rcases y with y | y
          · exact Or.inl (Or.inr (fun z => y (fun _ => ⟨d2.1, d2.2, by omega⟩)))
          · exact absurd y n7⟩
      · rw [p01_n d2, if_pos rfl]
        obtain ⟨x3, e5, e6⟩ := s3 x1 a1
        refine ⟨x3, e5, (e2.trans e6).iff ?_⟩
        first | rw [g1, g2, Int.toNat_natCast, Int.toNat_natCast] | rw [g1, Int.toNat_natCast, Int.toNat_natCast] | rw [g2, Int.toNat_natCast, Int.toNat_natCast] | rw [Int.toNat_natCast, Int.toNat_natCast]
        rw [g1, g2, Int.toNat_natCast, Int.toNat_natCast] at n7
        exact ⟨fun y => by
          rcases y with y | y
          · exact Or.inl (fun z => y ⟨(z c0).1, (z c0).2.1⟩)
          · exact absurd y n7, fun y => by
          rcases y with y | y
          · exact Or.inl d2
          · exact absurd y n7⟩
    · rw [if_pos c0]
      obtain ⟨x3, e5, e6⟩ := s3 x hx
      exact ⟨x3, e5, e6.iff ⟨fun y => Or.inr y, fun y => by
        rcases y with y | y
        · exact absurd (fun z => absurd z c0) y
        · exact y⟩⟩
  have s1 : sm 116 i = 4 ∨ sm 116 i = 5 → ∃ s' : Sg, j_210_313 (j_210_285 F) (i : Int) s = j_210_285 F ((i + 1 : Nat) : Int) s' ∧ FD s s' (bdN T sm i) := by
    intro c4
    obtain ⟨xb, g2, g4, g6, -⟩ := v2 c4
    obtain ⟨x1, e1, e2⟩ := m234 hT (ha.tx hX) g4 g6 1 32
    obtain ⟨x2, e3, e4⟩ := s2 x1 (ha.fd e2)
    unfold j_210_313
    rw [gd_pos (by omega), Int.toNat_natCast, ha.1 119 (by decide), g2, e1, Option.bind_some]
    refine ⟨x2, e3, (e2.trans e4).iff ?_⟩
    unfold bdN
    first | rw [g2, Int.toNat_natCast] | rw [Int.toNat_natCast]
    exact ⟨fun u v => by
      rcases u with u | u | u
      · exact u (v.2.1 c4)
      · exact u v.1
      · exact u v.2.2, fun u => by
      apply Classical.byContradiction
      intro hn
      exact u ⟨Classical.byContradiction (fun v => hn (Or.inr (Or.inl v))), fun _ => Classical.byContradiction (fun v => hn (Or.inl v)), Classical.byContradiction (fun v => hn (Or.inr (Or.inr v)))⟩⟩
  rw [j_210_285, ha.2 47 (by decide), hN.2.1, if_neg (by omega), gd_pos (by omega), Int.toNat_natCast, ha.1 116 (by decide)]
  by_cases c4 : sm 116 i = 4
  · rw [if_pos c4]; exact s1 (Or.inl c4)
  · rw [if_neg c4, gd_pos (by omega)]
    by_cases c5 : sm 116 i = 5
    · rw [if_neg (fun e => e c5)]; exact s1 (Or.inr c5)
    · rw [if_pos c5]
      obtain ⟨x2, e3, e4⟩ := s2 s ha
      refine ⟨x2, e3, e4.iff ?_⟩
      unfold bdN
      exact ⟨fun u v => by
        rcases u with u | u
        · exact u v.1
        · exact u v.2.2, fun u => by
        apply Classical.byContradiction
        intro hn
        exact u ⟨Classical.byContradiction (fun v => hn (Or.inl v)), fun z => by omega, Classical.byContradiction (fun v => hn (Or.inr v))⟩⟩
def BD4 (T : TT) (sc sm : Sg) (S P A N w : Nat) : Prop := ¬ (1 ≤ T.vl w ∧ T.vl w ≤ 64) ∨ (∃ i, i < S ∧ bdS T sm i) ∨ (∃ i, i < P ∧ bdP T sc sm i) ∨ (∃ i, i < A ∧ bdA T sm i) ∨ (∃ i, i < N ∧ bdN T sm i)
theorem ck4 (h : CKX T sc sm n t S P A N K C w) (h8 : sm 84 8 = -1) (h6 : sm 84 6 = 0) : ∃ s' : Sg, f_210 sm = some s' ∧ TLD sm s' 4 (BD4 T sc sm S P A N w) := by
  obtain ⟨hT, hX, hC, hD, hN, h19, h31, h34, h30, wz, tw, S8, P8, A8, N8⟩ := id h
  obtain ⟨s1, e1, f1⟩ := m234 hT hX wz tw 1 64
  obtain ⟨s2, e2, f2, a2⟩ := loop_fu (j := j_210_15) (tl := j_210_146) (s0 := sm) (M := S) (fun F i s x y => ck4s h F i s x y) (fun F s y => by rw [j_210_15, y.2 19 (by decide), h19, if_pos (by omega)]) (by omega) ((AG.refl sm).fd f1)
  obtain ⟨s3, e3, f3, a3⟩ := loop_fu (j := j_210_148) (tl := j_210_217) (s0 := sm) (M := P) (fun F i s x y => ck4p h F i s x y) (fun F s y => by rw [j_210_148, y.2 31 (by decide), h31, if_pos (by omega)]) (by omega) a2
  obtain ⟨s4, e4, f4, a4⟩ := loop_fu (j := j_210_219) (tl := j_210_283) (s0 := sm) (M := A) (fun F i s x y => ck4a h F i s x y) (fun F s y => by rw [j_210_219, y.2 34 (by decide), h34, if_pos (by omega)]) (by omega) a3
  obtain ⟨s5, e5, f5, a5⟩ := loop_fu (j := j_210_285) (tl := j_210_473) (s0 := sm) (M := N) (fun F i s x y => ck4n h F i s x y) (fun F s y => by rw [j_210_285, y.2 47 (by decide), hN.2.1, if_pos (by omega)]) (by omega) a4
  obtain ⟨s6, e6, t6⟩ := m237 (k := 4) ((((f1.trans f2).trans f3).trans f4).trans f5) h8 h6
  refine ⟨s6, ?_, ?_⟩
  · unfold f_210
    rw [h30, e1, Option.bind_some]
    show j_210_15 FU 0 s1 = _
    rw [e2]
    show j_210_148 FU 0 s2 = _
    rw [e3]
    show j_210_219 FU 0 s3 = _
    rw [e4]
    show j_210_285 FU 0 s4 = _
    rw [e5]
    unfold j_210_473
    rw [e6, Option.bind_some]
  · obtain ⟨t1, t2, t3, t4, t5⟩ := t6
    have e : ((((¬ (1 ≤ T.vl w ∧ T.vl w ≤ 64)) ∨ (∃ i, i < S ∧ bdS T sm i)) ∨ (∃ i, i < P ∧ bdP T sc sm i)) ∨ (∃ i, i < A ∧ bdA T sm i)) ∨ (∃ i, i < N ∧ bdN T sm i) ↔ BD4 T sc sm S P A N w := by
      unfold BD4
      rw [or_assoc, or_assoc, or_assoc]
    rw [e] at t4 t5
    exact ⟨t1, t2, t3, t4, t5⟩
end CK4
