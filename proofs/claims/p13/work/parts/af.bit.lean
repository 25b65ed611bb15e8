/-! BITS, on both sides; what is found. -/
/-- a fault of number k is noted, if p -/
def NTk (k : Nat) (s s' : Sg) (p : Prop) : Prop := (∀ c, c ≠ 30 → s' c = s c) ∧ (∀ j, j ≠ k → s' 30 j = s 30 j) ∧ (s' 30 k ≠ -1 ↔ s 30 k ≠ -1 ∨ p)
section BIT
variable {T : TT} {sc sm s0 s s' s2 : Sg} {n a b S P A N K C w i k : Nat} {t : Nat → Int} {p q : Prop}
theorem NTk.refl (s : Sg) : NTk k s s False := ⟨fun _ _ => rfl, fun _ _ => rfl, ⟨fun y => Or.inl y, fun y => by rcases y with y | y; exact y; exact y.elim⟩⟩
theorem NTk.trans (h : NTk k s s' p) (l : NTk k s' s2 q) : NTk k s s2 (p ∨ q) := ⟨fun c x => (l.1 c x).trans (h.1 c x), fun j x => (l.2.1 j x).trans (h.2.1 j x), by rw [l.2.2, h.2.2, or_assoc]⟩
theorem NTk.iff (h : NTk k s s' p) (l : p ↔ q) : NTk k s s' q := ⟨h.1, h.2.1, by rw [h.2.2, l]⟩
theorem c71k {x : Int} (hk : 1 ≤ k) (hk2 : k ≤ 10) (hx : 0 ≤ x) : g_71 (k : Int) x s ∧ NTk k s (f_71 (k : Int) x s) True := by
  refine ⟨?_, fun c hc => ?_, fun j hj => ?_, ⟨fun _ => Or.inr trivial, fun _ => ?_⟩⟩
  · unfold g_71
    exact ⟨fun _ => trivial, fun _ => ⟨fun _ => ⟨by omega, fun _ => ⟨by omega, trivial⟩, fun _ => ⟨by omega, fun _ => trivial, fun _ => ⟨by omega, trivial⟩⟩⟩, fun _ => trivial⟩⟩
  · unfold f_71
    rw [if_neg (by omega), if_pos (by omega), Int.toNat_natCast]
    split
    · exact u2_row _ _ _ hc
    · split
      · rfl
      · exact u2_row _ _ _ hc
  · unfold f_71
    rw [if_neg (by omega), if_pos (by omega), Int.toNat_natCast]
    split
    · exact u2_col _ _ _ hj
    · split
      · rfl
      · exact u2_col _ _ _ hj
  · unfold f_71
    rw [if_neg (by omega), if_pos (by omega), Int.toNat_natCast]
    split
    · rw [u2_same]; omega
    · split
      · assumption
      · rw [u2_same]; omega
/-- what is found -/
theorem c68 (s : Sg) : ∃ r : Int, f_68 s = some r ∧ 0 ≤ r ∧ r ≤ 10 ∧ (r = 0 ↔ ∀ j : Nat, 1 ≤ j → j ≤ 10 → s 30 j = -1) ∧ (1 ≤ r → s 30 r.toNat ≠ -1 ∧ ∀ j : Nat, 1 ≤ j → (j : Int) < r → s 30 j = -1) := by
  have go : ∀ (q l F : Nat), l + q = 11 → 1 ≤ l → (∀ j : Nat, 1 ≤ j → j < l → s 30 j = -1) → ∃ r : Int, j_68_2 (F + q + 1) (l : Int) s = some r ∧ 0 ≤ r ∧ r ≤ 10 ∧ (r = 0 ↔ ∀ j : Nat, 1 ≤ j → j ≤ 10 → s 30 j = -1) ∧ (1 ≤ r → s 30 r.toNat ≠ -1 ∧ ∀ j : Nat, 1 ≤ j → (j : Int) < r → s 30 j = -1) := by
    intro q
    induction q with
    | zero =>
      intro l F hl h1 h
      exact ⟨0, by rw [j_68_2, if_pos (by omega)], by omega, by omega, ⟨fun _ j x y => h j x (by omega), fun _ => rfl⟩, fun y => absurd y (by decide)⟩
    | succ q ih =>
      intro l F hl h1 h
      rw [show F + (q + 1) + 1 = (F + q + 1) + 1 by omega, j_68_2, if_neg (by omega), gd_pos (by omega), Int.toNat_natCast]
      by_cases c : s 30 l = -1
      · rw [if_pos c, w32_nat (by omega)]
        exact ih (l + 1) F (by omega) (by omega) (fun j x y => by
          by_cases e : j = l
          · rw [e]; exact c
          · exact h j x (by omega))
      · rw [if_neg c]
        exact ⟨(l : Int), rfl, by omega, by omega, ⟨fun y => by omega, fun y => absurd (y l h1 (by omega)) c⟩, fun _ => ⟨by rw [Int.toNat_natCast]; exact c, fun j x y => h j x (by omega)⟩⟩
  obtain ⟨F, hF⟩ := FU_split (k := 11) (by omega)
  obtain ⟨r, h⟩ := go 10 1 F (by omega) (by omega) (fun j x y => absurd y (by omega))
  rw [show F + 10 + 1 = FU by omega] at h
  exact ⟨r, h⟩
theorem loop_k {j : Nat → Int → Sg → Option Sg} {tl : Sg → Option Sg} {bad : Nat → Prop} {M : Nat} (step : ∀ F i s, i < M → (∀ c, c ≠ 30 → s c = s0 c) → ∃ s' : Sg, j (F + 1) (i : Int) s = j F ((i + 1 : Nat) : Int) s' ∧ NTk k s s' (bad i)) (stop : ∀ F s, (∀ c, c ≠ 30 → s c = s0 c) → j (F + 1) (M : Int) s = tl s) (hM : M ≤ 9000) (ha : ∀ c, c ≠ 30 → s c = s0 c) : ∃ s' : Sg, j FU 0 s = tl s' ∧ NTk k s s' (∃ i, i < M ∧ bad i) := by
  have go : ∀ (r l F : Nat) (s : Sg), l + r = M → (∀ c, c ≠ 30 → s c = s0 c) → ∃ s' : Sg, j (F + r + 1) (l : Int) s = tl s' ∧ NTk k s s' (∃ i, l ≤ i ∧ i < M ∧ bad i) := by
    intro r
    induction r with
    | zero =>
      intro l F s hl ha
      rw [show l = M by omega]
      exact ⟨s, stop F s ha, (NTk.refl s).iff ⟨fun y => y.elim, fun ⟨i, y, z, _⟩ => by omega⟩⟩
    | succ r ih =>
      intro l F s hl ha
      obtain ⟨s1, e1, f1⟩ := step (F + r + 1) l s (by omega) ha
      obtain ⟨s', e2, f2⟩ := ih (l + 1) F s1 (by omega) (fun c x => (f1.1 c x).trans (ha c x))
      refine ⟨s', by rw [show F + (r + 1) + 1 = (F + r + 1) + 1 by omega, e1, e2], (f1.trans f2).iff ⟨fun y => ?_, fun ⟨i, y, z, u⟩ => ?_⟩⟩
      · rcases y with y | ⟨i, y, z, u⟩
        · exact ⟨l, Nat.le_refl _, by omega, y⟩
        · exact ⟨i, by omega, z, u⟩
      · by_cases e : i = l
        · rw [e] at u; exact Or.inl u
        · exact Or.inr ⟨i, by omega, z, u⟩
  obtain ⟨F, hF⟩ := FU_split (k := M + 1) (by omega)
  obtain ⟨s', h1, h2⟩ := go M 0 F s (by omega) ha
  rw [show F + M + 1 = FU by omega] at h1
  exact ⟨s', h1, h2.iff ⟨fun ⟨i, _, y, z⟩ => ⟨i, y, z⟩, fun ⟨i, y, z⟩ => ⟨i, Nat.zero_le _, y, z⟩⟩⟩
def bdB (T : TT) (sc sm : Sg) (w i : Nat) : Prop := sm 94 i = 3 ∧ sc 57 i ≠ T.vl w
/-- a part's bits, and their sum -/
theorem m219 (h : CKX T sc sm n t S P A N K C w) (g : GOOD T sc sm S A N w) (hi : i < S) {q : Nat} (h1 : (sm 98 i).toNat ≤ q) (h2 : q < (sm 98 i).toNat + (sm 99 i).toNat) (ha : AG sm s) : f_219 (q : Int) s = some (if sm 104 q < 0 then sc 43 (sm 105 q).toNat else mn (T.vl (sm 105 q).toNat)) := by
  obtain ⟨hT, hX, hC, hD, hN, h19, h31, h34, h30, wz, tw, S8, P8, A8, N8⟩ := h
  have z8 := hT.1
  obtain ⟨hd, p0, pc, n0, b1, b2, b3, b4, b5, b6, b7, b8, -⟩ := hD.1 i hi
  have gp := (g.2.1 i hi).2.2.2.2 q h1 h2
  rw [b6, b7, Int.toNat_natCast, Int.toNat_natCast] at h2
  obtain ⟨x, g1, g2, g3, g4⟩ := hD.prt (p := q) (by omega)
  unfold f_219
  rw [gd_pos (by omega), Int.toNat_natCast, ha.1 104 (by decide), ha.1 105 (by decide), g1, Int.toNat_natCast]
  by_cases c : sm 104 q < 0
  · obtain ⟨i1, j1, e1, e2, e3, e4, e5, e6, -⟩ := hX.nu g2 g3
    have n8 := hX.2.1.2.1
    rw [if_pos c, if_pos c, gd_pos (by omega), gd_pos (by omega), gd_pos (by omega), gd_pos (by omega), ha.1 90 (by decide), ha.1 89 (by decide), e3, e4, w32_sub (by omega) (by omega), e2]
  · have gv := gp.1 (by omega)
    rw [g1, Int.toNat_natCast] at gv
    rw [if_neg c, if_neg c, gd_pos (by omega), m218 hT (ha.tx hX) g2 g3, Option.bind_some, w32_id (by omega) (by omega)]
    congr 1
    unfold mn
    rw [if_neg (by omega)]
theorem ckb (h : CKX T sc sm n t S P A N K C w) (g : GOOD T sc sm S A N w) (h8 : sm 84 8 = -1) (h6 : sm 84 6 = 0) : ∃ s' : Sg, f_216 sm = some s' ∧ TLD sm s' 10 (∃ i, i < S ∧ bdB T sc sm w i) := by
  obtain ⟨hT, hX, hC, hD, hN, h19, h31, h34, h30, wz, tw, S8, P8, A8, N8⟩ := id h
  have z8 := hT.1
  have step : ∀ F i s, i < S → AG sm s → ∃ s' : Sg, j_216_2 (F + 1) (i : Int) s = j_216_2 F ((i + 1 : Nat) : Int) s' ∧ FD s s' (bdB T sc sm w i) := by
    intro F i s hi ha
    have k88 : ∀ x : Sg, j_216_88 (j_216_2 F) (i : Int) x = j_216_2 F ((i + 1 : Nat) : Int) x := fun x => by
      unfold j_216_88
      rw [w32_nat (by omega)]
    obtain ⟨hd, p0, pc, n0, b1, b2, b3, b4, b5, b6, b7, b8, b9, b10, b11⟩ := hD.1 i hi
    rw [j_216_2, ha.2 19 (by decide), h19, if_neg (by omega), gd_pos (by omega), Int.toNat_natCast, ha.1 94 (by decide)]
    unfold bdB
    by_cases c : sm 94 i = 3
    · have s57 : sc 57 i = bsm T sc sm p0 pc := by
        rcases b11 with ⟨u, -⟩ | ⟨u, -⟩ | ⟨u, -⟩ | ⟨_, _, _, u⟩
        · omega
        · omega
        · omega
        · exact u
      have lp : ∀ (r l G : Nat), l + r = pc → j_216_29 (j_216_2 F) (G + r + 1) (i : Int) (bsm T sc sm p0 l) ((p0 + l : Nat) : Int) s = j_216_60 (j_216_2 F) (i : Int) (bsm T sc sm p0 pc) s := by
        intro r
        induction r with
        | zero =>
          intro l G hl
          rw [j_216_29, gd_pos (by omega), gd_pos (by omega), Int.toNat_natCast, ha.1 98 (by decide), ha.1 99 (by decide), b6, b7, w32_add (by omega), if_pos (by omega), show l = pc by omega]
        | succ r ih =>
          intro l G hl
          have m9 := m219 h g hi (q := p0 + l) (by rw [b6, Int.toNat_natCast]; omega) (by rw [b6, b7, Int.toNat_natCast, Int.toNat_natCast]; omega) ha
          rw [show G + (r + 1) + 1 = (G + r + 1) + 1 by omega, j_216_29, gd_pos (by omega), gd_pos (by omega), Int.toNat_natCast, ha.1 98 (by decide), ha.1 99 (by decide), b6, b7, w32_add (by omega), if_neg (by omega), m9, Option.bind_some, w32_nat (i := p0 + l) (by omega)]
          exact ih (l + 1) G (by omega)
      obtain ⟨F', hF⟩ := FU_split (k := pc + 1) (by omega)
      have e0 := lp pc 0 F' (by omega)
      rw [show F' + pc + 1 = FU by omega] at e0
      have e0' : j_216_29 (j_216_2 F) FU (i : Int) 0 (p0 : Int) s = j_216_60 (j_216_2 F) (i : Int) (bsm T sc sm p0 pc) s := e0
      rw [if_neg (fun e => e c), gd_pos (by omega), ha.1 98 (by decide), b6, e0', s57]
      unfold j_216_60
      have gw := g.1
      rw [ha.2 30 (by decide), h30, m218 hT (ha.tx hX) wz tw, Option.bind_some, w32_id (by omega) (by omega)]
      by_cases d : bsm T sc sm p0 pc = T.vl w
      · rw [if_pos d, k88]
        exact ⟨s, rfl, (FD.refl s).iff ⟨fun y => y.elim, fun y => y.2 d⟩⟩
      · obtain ⟨i1, j1, w1, _⟩ := hX.nm b3 b4
        rw [if_neg d, gd_pos (by omega), Int.toNat_natCast, ha.1 95 (by decide), b2, gd_pos (by omega), Int.toNat_natCast, ha.1 89 (by decide), w1, Option.bind_some, k88]
        exact ⟨_, rfl, (m235 (by omega)).iff ⟨fun _ => ⟨c, d⟩, fun _ => trivial⟩⟩
    · rw [if_pos c, k88]
      exact ⟨s, rfl, (FD.refl s).iff ⟨fun y => y.elim, fun y => c y.1⟩⟩
  obtain ⟨s2, e2, f2, a2⟩ := loop_fu (j := j_216_2) (tl := j_216_94) (s0 := sm) (M := S) step (fun F s y => by rw [j_216_2, y.2 19 (by decide), h19, if_pos (by omega)]) (by omega) (AG.refl sm)
  obtain ⟨s6, e6, t6⟩ := m237 (k := 10) f2 h8 h6
  refine ⟨s6, ?_, t6⟩
  unfold f_216
  rw [e2]
  unfold j_216_94
  rw [e6, Option.bind_some]
/-- the class's side -/
theorem c20 (h : CKX T sc sm n t S P A N K C w) (g : GOOD T sc sm S A N w) (h54 : s 54 6 = (S : Int)) (h57 : s 54 7 = mn (T.vl w)) (hS8 : S ≤ 1171) (hc : CC T s) (r5 : ∀ c, 55 ≤ c → c ≤ 57 → s c = sc c) : ∃ s' : Sg, f_20 s = some s' ∧ NTk 10 s s' (∃ i, i < S ∧ bdB T sc sm w i) := by
  obtain ⟨hT, hX, hC, hD, hN, h19, h31, h34, h30, wz, tw, S8, P8, A8, N8⟩ := id h
  have z8 := hT.1
  have gw := g.1
  have hw : mn (T.vl w) = T.vl w := by unfold mn; rw [if_neg (by omega)]
  have step : ∀ F i x, i < S → (∀ c, c ≠ 30 → x c = s c) → ∃ x' : Sg, j_20_2 (F + 1) (i : Int) x = j_20_2 F ((i + 1 : Nat) : Int) x' ∧ NTk 10 x x' (bdB T sc sm w i) := by
    intro F i x hi y
    obtain ⟨hd, p0, pc, n0, b1, b2, b3, b4, b5, -⟩ := hD.1 i hi
    have k77 : ∀ z : Sg, j_20_77 (j_20_2 F) (i : Int) z = j_20_2 F ((i + 1 : Nat) : Int) z := fun z => by
      unfold j_20_77
      rw [w32_nat (by omega)]
    have e81 : f_181 (i : Int) x = 1 := by unfold f_181; rw [y 54 (by decide), h54, if_neg (by omega), if_neg (by omega)]
    have gg : 0 ≤ (i : Int) ∧ (i : Int) < 1171 := by omega
    have g2 : g_182 (i : Int) x := by unfold g_182; exact ⟨fun _ => trivial, fun _ => ⟨gg, trivial⟩⟩
    have g3 : g_183 (i : Int) x := by unfold g_183; exact ⟨fun _ => trivial, fun _ => ⟨gg, trivial⟩⟩
    have g7 : g_187 (i : Int) x := by unfold g_187; exact ⟨fun _ => trivial, fun _ => ⟨gg, trivial⟩⟩
    have f2 : f_182 (i : Int) x = sm 94 i := by unfold f_182; rw [e81, if_neg (by decide), Int.toNat_natCast, y 55 (by decide), r5 55 (by decide) (by decide), b5]
    have f3 : f_183 (i : Int) x = sc 57 i := by unfold f_183; rw [e81, if_neg (by decide), Int.toNat_natCast, y 57 (by decide), r5 57 (by decide) (by decide)]
    have f7 : f_187 (i : Int) x = (hd : Int) := by unfold f_187; rw [e81, if_neg (by decide), Int.toNat_natCast, y 56 (by decide), r5 56 (by decide) (by decide), b1]
    have hcx : CC T x := hc.row (by rw [y 39 (by decide)]) (y 41 (by decide)) (y 42 (by decide)) (y 44 (by decide)) (by rw [y 31 (by decide)]) (y 1 (by decide))
    rw [j_20_2, y 54 (by decide), h54, if_neg (by omega), gd_pos g2, f2]
    unfold bdB
    by_cases c : sm 94 i = 3
    · rw [if_neg (show ¬ sm 94 i = 3 → False from fun e => e c), if_neg (by decide), gd_pos g3, f3, h57, hw]
      by_cases d : sc 57 i = T.vl w
      · rw [if_pos d, k77]
        exact ⟨x, rfl, (NTk.refl x).iff ⟨fun z => z.elim, fun z => z.2 d⟩⟩
      · obtain ⟨p1, p2⟩ := c80 (a := hd) hcx hT (by omega)
        have f0 := hT.2.2.2.1 hd (by omega)
        obtain ⟨q1, q2⟩ := c71k (s := x) (k := 10) (x := T.fm hd) (by decide) (by decide) f0
        have q1' : g_71 10 (T.fm hd) x := q1
        rw [if_neg d, gd_pos g7, f7, gd_pos p2, p1, gd_pos q1', Option.bind_some, k77]
        exact ⟨_, rfl, NTk.iff (p := True) q2 ⟨fun _ => ⟨c, d⟩, fun _ => trivial⟩⟩
    · rw [if_pos c, if_pos rfl, k77]
      exact ⟨x, rfl, (NTk.refl x).iff ⟨fun z => z.elim, fun z => c z.1⟩⟩
  obtain ⟨s', e1, e2⟩ := loop_k (k := 10) (s0 := s) (j := j_20_2) (tl := fun x => some x) (M := S) step (fun F x y => by rw [j_20_2, y 54 (by decide), h54, if_pos (by omega)]) (by omega) (fun _ _ => rfl)
  exact ⟨s', by unfold f_20; rw [e1], e2⟩
end BIT
