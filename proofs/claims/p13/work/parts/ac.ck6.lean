/-! THE REFERENCE's checks: unknown, meaning. -/
section CK6
variable {T : TT} {sc sm s s' : Sg} {n a b S P A N K C w i : Nat} {t : Nat → Int} {r v : Int}
theorem m241 (hi : i < 8200) : g_241 (i : Int) s ∧ f_241 (i : Int) s = p01 (1 ≤ s 116 i ∧ s 116 i ≤ 3) := by
  unfold g_241 f_241
  rw [Int.toNat_natCast]
  have g : 0 ≤ (i : Int) ∧ (i : Int) < 8200 := by omega
  refine ⟨⟨g, fun _ => trivial, fun _ => ⟨g, fun _ => trivial, fun _ => ⟨g, trivial⟩⟩⟩, ?_⟩
  by_cases c1 : s 116 i = 1
  · rw [if_pos c1, p01_y (by omega)]
  · by_cases c2 : s 116 i = 2
    · rw [if_neg c1, if_pos c2, p01_y (by omega)]
    · by_cases c3 : s 116 i = 3
      · rw [if_neg c1, if_neg c2, if_neg (fun e => e c3), p01_y (by omega)]
      · rw [if_neg c1, if_neg c2, if_pos c3, p01_n (by omega)]
theorem m242 (hi : i < 4100) : g_242 (i : Int) s ∧ f_242 (i : Int) s = p01 (s 94 i = 0 ∧ s 96 i < 0) := by
  unfold g_242 f_242
  rw [Int.toNat_natCast]
  have g : 0 ≤ (i : Int) ∧ (i : Int) < 4100 := by omega
  refine ⟨⟨g, fun _ => trivial, fun _ => ⟨g, trivial⟩⟩, ?_⟩
  by_cases c1 : s 94 i = 0
  · by_cases c2 : 0 ≤ s 96 i
    · rw [if_neg (fun e => e c1), if_pos c2, p01_n (by omega)]
    · rw [if_neg (fun e => e c1), if_neg c2, p01_y (by omega)]
  · rw [if_pos c1, p01_n (by omega)]
theorem m243 (hi : i < 4100) : g_243 (i : Int) s ∧ f_243 (i : Int) s = p01 (s 94 i = 1 ∨ s 94 i = 0 ∧ 0 ≤ s 96 i) := by
  unfold g_243 f_243
  rw [Int.toNat_natCast]
  have g : 0 ≤ (i : Int) ∧ (i : Int) < 4100 := by omega
  refine ⟨⟨g, fun _ => trivial, fun _ => ⟨g, fun _ => trivial, fun _ => ⟨g, trivial⟩⟩⟩, ?_⟩
  by_cases c0 : s 94 i = 1
  · rw [if_pos c0, p01_y (Or.inl c0)]
  · by_cases c1 : s 94 i = 0
    · by_cases c2 : s 96 i < 0
      · rw [if_neg c0, if_neg (fun e => e c1), if_pos c2, p01_n (by omega)]
      · rw [if_neg c0, if_neg (fun e => e c1), if_neg c2, p01_y (by omega)]
    · rw [if_neg c0, if_pos c1, p01_n (by omega)]
/-- a node with a name -/
theorem CKX.nod (h : CKX T sc sm n t S P A N K C w) (hi : i < N) : ∃ si : Nat, sm 123 i = (si : Int) ∧ si < S ∧ sm 124 i < (A : Int) ∧ (0 ≤ sm 124 i → sm 106 (sm 124 i).toNat = 2) ∧ (1 ≤ sm 116 i ∧ sm 116 i ≤ 3 → ∃ x : Nat, sm 118 i = (x : Int) ∧ sm 117 i = (x : Int) ∧ x < T.z ∧ T.tk x = 1) := by
  obtain ⟨hT, hX, hC, hD, hN, -⟩ := h
  obtain ⟨si, b1, b2, b3, b4, b5, -⟩ := hD.2.2.2.1 i hi
  obtain ⟨c, q, -, -, -, -, -, nr6, nr7, -, -, -, -, -, nv⟩ := hN.2.2.2 i hi
  refine ⟨si, b1, b2, b4, b5, fun y => ?_⟩
  obtain ⟨x, x1, x2, x3, x4, -⟩ := nv.2.2.2.1 y.1 y.2
  exact ⟨x, x1, x2, x3, x4⟩
/-- no statement has the name -/
def NOS (T : TT) (sm : Sg) (S : Nat) (v : Int) : Prop := ∀ i, i < S → T.vl (sm 95 i).toNat ≠ v
def bd6n (T : TT) (sm : Sg) (S k : Nat) : Prop := (1 ≤ sm 116 k ∧ sm 116 k ≤ 3) ∧ ¬ OWN T sm (sm 123 k).toNat (sm 124 k) (T.vl (sm 118 k).toNat) ∧ NOS T sm S (T.vl (sm 118 k).toNat)
def bd6a (T : TT) (sm : Sg) (S k : Nat) : Prop := sm 106 k = 0 ∧ ¬ OWN T sm (sm 112 k).toNat (sm 113 k) (T.vl (sm 107 k).toNat) ∧ NOS T sm S (T.vl (sm 107 k).toNat)
theorem ck6n (h : CKX T sc sm n t S P A N K C w) (F i : Nat) (s : Sg) (hi : i < N) (ha : AG sm s) : ∃ s' : Sg, j_212_2 (F + 1) (i : Int) s = j_212_2 F ((i + 1 : Nat) : Int) s' ∧ FD s s' (bd6n T sm S i) := by
  have ok := h.owk
  obtain ⟨si, b1, b2, b3, b4, b5⟩ := h.nod hi
  obtain ⟨hT, hX, hC, hD, hN, h19, h31, h34, h30, wz, tw, S8, P8, A8, N8⟩ := h
  have z8 := hT.1
  have k71 : ∀ x : Sg, j_212_71 (j_212_2 F) (i : Int) x = j_212_2 F ((i + 1 : Nat) : Int) x := fun x => by
    unfold j_212_71
    rw [w32_nat (by omega)]
  obtain ⟨g1, g2⟩ := m241 (s := s) (i := i) (by omega)
  rw [ha.1 116 (by decide)] at g2
  rw [j_212_2, ha.2 47 (by decide), hN.2.1, if_neg (by omega), gd_pos g1, g2]
  unfold bd6n
  by_cases c : 1 ≤ sm 116 i ∧ sm 116 i ≤ 3
  · obtain ⟨x, x1, x0, x2, x3⟩ := b5 c
    rw [p01_y c, if_neg (by decide), gd_pos (by omega), gd_pos (by omega), gd_pos (by omega), Int.toNat_natCast, ha.1 123 (by decide), ha.1 124 (by decide), ha.1 118 (by decide), x1, b1, m240 hT (ha.tx hX) (ha.owk ok) x2 x3 b2 b3 (by rw [ha.1 106 (by decide)]; exact b4), Option.bind_some, Int.toNat_natCast, Int.toNat_natCast]
    by_cases d : OWN T sm si (sm 124 i) (T.vl x)
    · rw [p01_y (ha.own.mpr d), if_pos (by decide), k71]
      exact ⟨s, rfl, (FD.refl s).iff ⟨fun y => y.elim, fun y => y.2.1 d⟩⟩
    · rw [p01_n (fun y => d (ha.own.mp y)), if_neg (by decide), gd_pos (by omega)]
      obtain ⟨r, e1, e2⟩ := m238 hT (ha.tx hX) (ha.owk ok) x2 x3
      rw [ha.sof] at e2
      rw [e1, Option.bind_some]
      rcases e2 with ⟨e2, e3⟩ | ⟨f, e2, e3, e4, e5⟩
      · obtain ⟨i1, j1, w1, _⟩ := hX.nm x2 x3
        rw [e2, if_neg (by decide), gd_pos (by omega), gd_pos (by omega), ha.1 89 (by decide), w1, Option.bind_some, k71]
        exact ⟨_, rfl, (m235 (by omega)).iff ⟨fun _ => ⟨c, d, e3⟩, fun _ => trivial⟩⟩
      · rw [e2, if_pos (by omega), k71]
        exact ⟨s, rfl, (FD.refl s).iff ⟨fun y => y.elim, fun y => y.2.2 f e3 e4⟩⟩
  · rw [p01_n c, if_pos rfl, k71]
    exact ⟨s, rfl, (FD.refl s).iff ⟨fun y => y.elim, fun y => c y.1⟩⟩
theorem ck6a (h : CKX T sc sm n t S P A N K C w) (F i : Nat) (s : Sg) (hi : i < A) (ha : AG sm s) : ∃ s' : Sg, j_212_79 (F + 1) (i : Int) s = j_212_79 F ((i + 1 : Nat) : Int) s' ∧ FD s s' (bd6a T sm S i) := by
  have ok := h.owk
  obtain ⟨hT, hX, hC, hD, hN, h19, h31, h34, h30, wz, tw, S8, P8, A8, N8⟩ := h
  have z8 := hT.1
  obtain ⟨si, b1, b2, b3, b4, b5⟩ := hD.act hi
  have k149 : ∀ x : Sg, j_212_149 (j_212_79 F) (i : Int) x = j_212_79 F ((i + 1 : Nat) : Int) x := fun x => by
    unfold j_212_149
    rw [w32_nat (by omega)]
  rw [j_212_79, ha.2 34 (by decide), h34, if_neg (by omega), gd_pos (by omega), Int.toNat_natCast, ha.1 106 (by decide)]
  unfold bd6a
  by_cases c : sm 106 i = 0
  · obtain ⟨x, x1, x2, x3⟩ := b5 (Or.inl c)
    rw [if_neg (fun e => e c), gd_pos (by omega), gd_pos (by omega), gd_pos (by omega), ha.1 112 (by decide), ha.1 113 (by decide), ha.1 107 (by decide), x1, b1, m240 hT (ha.tx hX) (ha.owk ok) x2 x3 b2 b3 (by rw [ha.1 106 (by decide)]; exact b4), Option.bind_some, Int.toNat_natCast, Int.toNat_natCast]
    by_cases d : OWN T sm si (sm 113 i) (T.vl x)
    · rw [p01_y (ha.own.mpr d), if_pos (by decide), k149]
      exact ⟨s, rfl, (FD.refl s).iff ⟨fun y => y.elim, fun y => y.2.1 d⟩⟩
    · rw [p01_n (fun y => d (ha.own.mp y)), if_neg (by decide), gd_pos (by omega)]
      obtain ⟨r, e1, e2⟩ := m238 hT (ha.tx hX) (ha.owk ok) x2 x3
      rw [ha.sof] at e2
      rw [e1, Option.bind_some]
      rcases e2 with ⟨e2, e3⟩ | ⟨f, e2, e3, e4, e5⟩
      · obtain ⟨i1, j1, w1, _⟩ := hX.nm x2 x3
        rw [e2, if_neg (by decide), gd_pos (by omega), gd_pos (by omega), ha.1 89 (by decide), w1, Option.bind_some, k149]
        exact ⟨_, rfl, (m235 (by omega)).iff ⟨fun _ => ⟨c, d, e3⟩, fun _ => trivial⟩⟩
      · rw [e2, if_pos (by omega), k149]
        exact ⟨s, rfl, (FD.refl s).iff ⟨fun y => y.elim, fun y => y.2.2 f e3 e4⟩⟩
  · rw [if_pos c, k149]
    exact ⟨s, rfl, (FD.refl s).iff ⟨fun y => y.elim, fun y => c y.1⟩⟩
def BD6 (T : TT) (sm : Sg) (S A N : Nat) : Prop := (∃ i, i < N ∧ bd6n T sm S i) ∨ (∃ i, i < A ∧ bd6a T sm S i)
theorem ck6 (h : CKX T sc sm n t S P A N K C w) (h8 : sm 84 8 = -1) (h6 : sm 84 6 = 0) : ∃ s' : Sg, f_212 sm = some s' ∧ TLD sm s' 6 (BD6 T sm S A N) := by
  obtain ⟨hT, hX, hC, hD, hN, h19, h31, h34, h30, wz, tw, S8, P8, A8, N8⟩ := id h
  obtain ⟨s2, e2, f2, a2⟩ := loop_fu (j := j_212_2) (tl := j_212_77) (s0 := sm) (M := N) (fun F i s x y => ck6n h F i s x y) (fun F s y => by rw [j_212_2, y.2 47 (by decide), hN.2.1, if_pos (by omega)]) (by omega) (AG.refl sm)
  obtain ⟨s3, e3, f3, a3⟩ := loop_fu (j := j_212_79) (tl := j_212_155) (s0 := sm) (M := A) (fun F i s x y => ck6a h F i s x y) (fun F s y => by rw [j_212_79, y.2 34 (by decide), h34, if_pos (by omega)]) (by omega) a2
  obtain ⟨s6, e6, t6⟩ := m237 (k := 6) (f2.trans f3) h8 h6
  refine ⟨s6, ?_, t6⟩
  unfold f_212
  rw [e2]
  show j_212_79 FU 0 s2 = _
  rw [e3]
  unfold j_212_155
  rw [e6, Option.bind_some]
/-- a statement fits a use -/
def FIT (sm : Sg) (k : Int) (i : Nat) (c : Int) : Prop := (k = 1 ∧ sm 94 i = 0 ∧ sm 96 i < 0) ∨ (k = 2 ∧ (sm 94 i = 1 ∨ sm 94 i = 0 ∧ 0 ≤ sm 96 i)) ∨ (k = 3 ∧ sm 94 i = 2 ∧ sm 99 i = c)
def SO1 (T : TT) (sm : Sg) (S : Nat) (v : Int) (i : Nat) : Prop := i < S ∧ T.vl (sm 95 i).toNat = v ∧ ∀ j, j < i → T.vl (sm 95 j).toNat ≠ v
def bd7n (T : TT) (sm : Sg) (S k : Nat) : Prop := (1 ≤ sm 116 k ∧ sm 116 k ≤ 3) ∧ ((OWN T sm (sm 123 k).toNat (sm 124 k) (T.vl (sm 118 k).toNat) ∧ sm 116 k ≠ 1) ∨ (¬ OWN T sm (sm 123 k).toNat (sm 124 k) (T.vl (sm 118 k).toNat) ∧ ∃ i, SO1 T sm S (T.vl (sm 118 k).toNat) i ∧ ¬ FIT sm (sm 116 k) i (sm 120 k)))
def bd7a (T : TT) (sm : Sg) (S k : Nat) : Prop := sm 106 k = 0 ∧ (OWN T sm (sm 112 k).toNat (sm 113 k) (T.vl (sm 107 k).toNat) ∨ (¬ OWN T sm (sm 112 k).toNat (sm 113 k) (T.vl (sm 107 k).toNat) ∧ ∃ i, SO1 T sm S (T.vl (sm 107 k).toNat) i ∧ ¬ FIT sm (if sm 109 k < 0 then 1 else 2) i 0))
theorem SO1.uniq (h : SO1 T sm S v i) (k : SO1 T sm S v a) : i = a := by
  obtain ⟨h1, h2, h3⟩ := h
  obtain ⟨k1, k2, k3⟩ := k
  apply Decidable.byContradiction
  intro hn
  by_cases c : i < a
  · exact k3 i c h2
  · exact h3 a (by omega) k2
theorem ck7n (h : CKX T sc sm n t S P A N K C w) (nb : ¬ BD6 T sm S A N) (F i : Nat) (s : Sg) (hi : i < N) (ha : AG sm s) : ∃ s' : Sg, j_213_2 (F + 1) (i : Int) s = j_213_2 F ((i + 1 : Nat) : Int) s' ∧ FD s s' (bd7n T sm S i) := by
  have ok := h.owk
  obtain ⟨si, b1, b2, b3, b4, b5⟩ := h.nod hi
  obtain ⟨hT, hX, hC, hD, hN, h19, h31, h34, h30, wz, tw, S8, P8, A8, N8⟩ := h
  have z8 := hT.1
  have k170 : ∀ x : Sg, j_213_170 (j_213_2 F) (i : Int) x = j_213_2 F ((i + 1 : Nat) : Int) x := fun x => by
    unfold j_213_170
    rw [w32_nat (by omega)]
  obtain ⟨g1, g2⟩ := m241 (s := s) (i := i) (by omega)
  rw [ha.1 116 (by decide)] at g2
  rw [j_213_2, ha.2 47 (by decide), hN.2.1, if_neg (by omega), gd_pos g1, g2]
  by_cases c : 1 ≤ sm 116 i ∧ sm 116 i ≤ 3
  · obtain ⟨x, x1, x0, x2, x3⟩ := b5 c
    have k148 : ∀ (p : Prop), ∃ s' : Sg, j_213_148 (j_213_2 F) (i : Int) (p01 p) s = j_213_2 F ((i + 1 : Nat) : Int) s' ∧ FD s s' (¬ p) := by
      intro p
      unfold j_213_148
      by_cases d : p
      · rw [p01_y d, if_pos (by decide), k170]
        exact ⟨s, rfl, (FD.refl s).iff ⟨fun y => y.elim, fun y => y d⟩⟩
      · obtain ⟨i1, j1, w1, _⟩ := hX.nm x2 x3
        rw [p01_n d, if_neg (by decide), gd_pos (by omega), Int.toNat_natCast, ha.1 118 (by decide), x1, gd_pos (by omega), Int.toNat_natCast, ha.1 89 (by decide), w1, Option.bind_some, k170]
        exact ⟨_, rfl, (m235 (by omega)).iff ⟨fun _ => d, fun _ => trivial⟩⟩
    rw [p01_y c, if_neg (by decide), gd_pos (by omega), gd_pos (by omega), gd_pos (by omega), Int.toNat_natCast, ha.1 123 (by decide), ha.1 124 (by decide), ha.1 118 (by decide), x1, b1, m240 hT (ha.tx hX) (ha.owk ok) x2 x3 b2 b3 (by rw [ha.1 106 (by decide)]; exact b4), Option.bind_some]
    have unf : bd7n T sm S i ↔ ((OWN T sm si (sm 124 i) (T.vl x) ∧ sm 116 i ≠ 1) ∨ (¬ OWN T sm si (sm 124 i) (T.vl x) ∧ ∃ j, SO1 T sm S (T.vl x) j ∧ ¬ FIT sm (sm 116 i) j (sm 120 i))) := by
      unfold bd7n
      rw [x1, b1, Int.toNat_natCast, Int.toNat_natCast]
      exact ⟨fun y => y.2, fun y => ⟨c, y⟩⟩
    by_cases d : OWN T sm si (sm 124 i) (T.vl x)
    · rw [p01_y (ha.own.mpr d), if_neg (by decide)]
      unfold j_213_59
      rw [if_neg (by decide), gd_pos (by omega), Int.toNat_natCast, ha.1 116 (by decide)]
      have e : (if ¬ (sm 116 i) = 1 then (0 : Int) else 1) = p01 (sm 116 i = 1) := by
        by_cases q : sm 116 i = 1
        · rw [if_neg (fun e => e q), p01_y q]
        · rw [if_pos q, p01_n q]
      rw [e]
      obtain ⟨s', q1, q2⟩ := k148 (sm 116 i = 1)
      refine ⟨s', q1, q2.iff ?_⟩
      rw [unf]
      exact ⟨fun y => Or.inl ⟨d, y⟩, fun y => by
        rcases y with y | y
        · exact y.2
        · exact absurd d y.1⟩
    · rw [p01_n (fun y => d (ha.own.mp y)), if_pos rfl, gd_pos (by omega)]
      obtain ⟨r, e1, e2⟩ := m238 hT (ha.tx hX) (ha.owk ok) x2 x3
      rw [ha.sof] at e2
      rw [e1, Option.bind_some]
      rcases e2 with ⟨e2, e3⟩ | ⟨f, e2, e3, e4, e5⟩
      · exfalso
        refine nb (Or.inl ⟨i, hi, c, ?_, ?_⟩)
        · rw [x1, b1, Int.toNat_natCast, Int.toNat_natCast]; exact d
        · rw [x1, Int.toNat_natCast]; exact e3
      · subst e2
        have so : SO1 T sm S (T.vl x) f := ⟨e3, e4, e5⟩
        have fin : ∀ (p : Prop), (p ↔ FIT sm (sm 116 i) f (sm 120 i)) → ∃ s' : Sg, j_213_148 (j_213_2 F) (i : Int) (p01 p) s = j_213_2 F ((i + 1 : Nat) : Int) s' ∧ FD s s' (bd7n T sm S i) := by
          intro p hp
          obtain ⟨s', q1, q2⟩ := k148 p
          refine ⟨s', q1, q2.iff ?_⟩
          rw [unf, hp]
          exact ⟨fun y => Or.inr ⟨d, f, so, y⟩, fun y => by
            rcases y with y | ⟨_, j, y1, y2⟩
            · exact absurd y.1 d
            · rw [so.uniq y1]; exact y2⟩
        unfold j_213_59
        rw [if_pos rfl, gd_pos (by omega), Int.toNat_natCast, ha.1 116 (by decide)]
        by_cases k1 : sm 116 i = 1
        · obtain ⟨u1, u2⟩ := m242 (s := s) (i := f) (by omega)
          rw [ha.1 94 (by decide), ha.1 96 (by decide)] at u2
          rw [if_neg (fun e => e k1), gd_pos u1, u2]
          refine fin _ ?_
          unfold FIT
          rw [k1]
          exact ⟨fun y => Or.inl ⟨rfl, y⟩, fun y => by
            rcases y with y | ⟨y, _⟩ | ⟨y, _⟩
            · exact y.2
            · exact absurd y (by decide)
            · exact absurd y (by decide)⟩
        · rw [if_pos k1, gd_pos (by omega)]
          by_cases k2 : sm 116 i = 2
          · obtain ⟨u1, u2⟩ := m243 (s := s) (i := f) (by omega)
            rw [ha.1 94 (by decide), ha.1 96 (by decide)] at u2
            rw [if_neg (fun e => e k2), gd_pos u1, u2]
            refine fin _ ?_
            unfold FIT
            rw [k2]
            exact ⟨fun y => Or.inr (Or.inl ⟨rfl, y⟩), fun y => by
              rcases y with ⟨y, _⟩ | y | ⟨y, _⟩
              · exact absurd y (by decide)
              · exact y.2
              · exact absurd y (by decide)⟩
          · have k3 : sm 116 i = 3 := by omega
            rw [if_pos k2, gd_pos (by omega), Int.toNat_natCast, ha.1 94 (by decide)]
            by_cases q2 : sm 94 f = 2
            · rw [if_neg (fun e => e q2), gd_pos (by omega), gd_pos (by omega), ha.1 99 (by decide), ha.1 120 (by decide)]
              have e : (if ¬ (sm 99 f) = sm 120 i then (0 : Int) else 1) = p01 (sm 99 f = sm 120 i) := by
                by_cases q : sm 99 f = sm 120 i
                · rw [if_neg (fun e => e q), p01_y q]
                · rw [if_pos q, p01_n q]
              rw [e]
              refine fin _ ?_
              unfold FIT
              rw [k3]
              exact ⟨fun y => Or.inr (Or.inr ⟨rfl, q2, y⟩), fun y => by
                rcases y with ⟨y, _⟩ | ⟨y, _⟩ | y
                · exact absurd y (by decide)
                · exact absurd y (by decide)
                · exact y.2.2⟩
            · rw [if_pos q2]
              unfold j_213_147
              have := fin False ⟨fun y => y.elim, fun y => by
                unfold FIT at y
                rw [k3] at y
                rcases y with ⟨y, _⟩ | ⟨y, _⟩ | y
                · exact absurd y (by decide)
                · exact absurd y (by decide)
                · exact q2 y.2.1⟩
              rw [p01_n (fun y => y)] at this
              exact this
  · rw [p01_n c, if_pos rfl, k170]
    exact ⟨s, rfl, (FD.refl s).iff ⟨fun y => y.elim, fun y => c y.1⟩⟩
theorem ck7a (h : CKX T sc sm n t S P A N K C w) (nb : ¬ BD6 T sm S A N) (F i : Nat) (s : Sg) (hi : i < A) (ha : AG sm s) : ∃ s' : Sg, j_213_178 (F + 1) (i : Int) s = j_213_178 F ((i + 1 : Nat) : Int) s' ∧ FD s s' (bd7a T sm S i) := by
  have ok := h.owk
  obtain ⟨hT, hX, hC, hD, hN, h19, h31, h34, h30, wz, tw, S8, P8, A8, N8⟩ := h
  have z8 := hT.1
  obtain ⟨si, b1, b2, b3, b4, b5⟩ := hD.act hi
  have k284 : ∀ x : Sg, j_213_284 (j_213_178 F) (i : Int) x = j_213_178 F ((i + 1 : Nat) : Int) x := fun x => by
    unfold j_213_284
    rw [w32_nat (by omega)]
  rw [j_213_178, ha.2 34 (by decide), h34, if_neg (by omega), gd_pos (by omega), Int.toNat_natCast, ha.1 106 (by decide)]
  by_cases c : sm 106 i = 0
  · obtain ⟨x, x1, x2, x3⟩ := b5 (Or.inl c)
    have k269 : ∃ s' : Sg, j_213_269 (j_213_178 F) (i : Int) s = j_213_178 F ((i + 1 : Nat) : Int) s' ∧ FD s s' True := by
      obtain ⟨i1, j1, w1, _⟩ := hX.nm x2 x3
      unfold j_213_269
      rw [gd_pos (by omega), Int.toNat_natCast, ha.1 107 (by decide), x1, gd_pos (by omega), Int.toNat_natCast, ha.1 89 (by decide), w1, Option.bind_some, k284]
      exact ⟨_, rfl, m235 (by omega)⟩
    have unf : bd7a T sm S i ↔ (OWN T sm si (sm 113 i) (T.vl x) ∨ (¬ OWN T sm si (sm 113 i) (T.vl x) ∧ ∃ j, SO1 T sm S (T.vl x) j ∧ ¬ FIT sm (if sm 109 i < 0 then 1 else 2) j 0)) := by
      unfold bd7a
      rw [x1, b1, Int.toNat_natCast, Int.toNat_natCast]
      exact ⟨fun y => y.2, fun y => ⟨c, y⟩⟩
    rw [if_neg (fun e => e c), gd_pos (by omega), gd_pos (by omega), gd_pos (by omega), ha.1 112 (by decide), ha.1 113 (by decide), ha.1 107 (by decide), x1, b1, m240 hT (ha.tx hX) (ha.owk ok) x2 x3 b2 b3 (by rw [ha.1 106 (by decide)]; exact b4), Option.bind_some]
    by_cases d : OWN T sm si (sm 113 i) (T.vl x)
    · rw [p01_y (ha.own.mpr d), if_neg (by decide)]
      unfold j_213_236
      rw [if_pos (by decide)]
      obtain ⟨s', q1, q2⟩ := k269
      refine ⟨s', q1, q2.iff ?_⟩
      rw [unf]
      exact ⟨fun _ => Or.inl d, fun _ => trivial⟩
    · rw [p01_n (fun y => d (ha.own.mp y)), if_pos rfl, gd_pos (by omega)]
      obtain ⟨r, e1, e2⟩ := m238 hT (ha.tx hX) (ha.owk ok) x2 x3
      rw [ha.sof] at e2
      rw [e1, Option.bind_some]
      rcases e2 with ⟨e2, e3⟩ | ⟨f, e2, e3, e4, e5⟩
      · exfalso
        refine nb (Or.inr ⟨i, hi, c, ?_, ?_⟩)
        · rw [x1, b1, Int.toNat_natCast, Int.toNat_natCast]; exact d
        · rw [x1, Int.toNat_natCast]; exact e3
      · subst e2
        have so : SO1 T sm S (T.vl x) f := ⟨e3, e4, e5⟩
        have fy : FIT sm (if sm 109 i < 0 then 1 else 2) f 0 → FD s s (bd7a T sm S i) := fun hf => (FD.refl s).iff (by
          rw [unf]
          exact ⟨fun y => y.elim, fun y => by
            rcases y with y | ⟨_, j, y1, y2⟩
            · exact d y
            · rw [so.uniq y1] at hf; exact y2 hf⟩)
        have fn : ¬ FIT sm (if sm 109 i < 0 then 1 else 2) f 0 → ∃ s' : Sg, j_213_269 (j_213_178 F) (i : Int) s = j_213_178 F ((i + 1 : Nat) : Int) s' ∧ FD s s' (bd7a T sm S i) := fun hf => by
          obtain ⟨s', q1, q2⟩ := k269
          refine ⟨s', q1, q2.iff ?_⟩
          rw [unf]
          exact ⟨fun _ => Or.inr ⟨d, f, so, hf⟩, fun _ => trivial⟩
        unfold j_213_236
        rw [if_neg (by decide), gd_pos (by omega), Int.toNat_natCast, ha.1 109 (by decide)]
        by_cases k1 : 0 ≤ sm 109 i
        · rw [if_neg (show ¬ sm 109 i < 0 by omega)] at fy fn
          obtain ⟨u1, u2⟩ := m243 (s := s) (i := f) (by omega)
          rw [ha.1 94 (by decide), ha.1 96 (by decide)] at u2
          rw [if_pos k1, gd_pos u1, u2]
          have fe : FIT sm 2 f 0 ↔ (sm 94 f = 1 ∨ sm 94 f = 0 ∧ 0 ≤ sm 96 f) := by
            unfold FIT
            exact ⟨fun y => by
              rcases y with ⟨y, _⟩ | y | ⟨y, _⟩
              · exact absurd y (by decide)
              · exact y.2
              · exact absurd y (by decide), fun y => Or.inr (Or.inl ⟨rfl, y⟩)⟩
          by_cases k2 : sm 94 f = 1 ∨ sm 94 f = 0 ∧ 0 ≤ sm 96 f
          · rw [p01_y k2, if_pos (by decide), k284]
            exact ⟨s, rfl, fy (fe.mpr k2)⟩
          · rw [p01_n k2, if_neg (by decide)]
            exact fn (fun y => k2 (fe.mp y))
        · rw [if_pos (show sm 109 i < 0 by omega)] at fy fn
          obtain ⟨u1, u2⟩ := m242 (s := s) (i := f) (by omega)
          rw [ha.1 94 (by decide), ha.1 96 (by decide)] at u2
          rw [if_neg k1, gd_pos u1, u2]
          have fe : FIT sm 1 f 0 ↔ (sm 94 f = 0 ∧ sm 96 f < 0) := by
            unfold FIT
            exact ⟨fun y => by
              rcases y with y | ⟨y, _⟩ | ⟨y, _⟩
              · exact y.2
              · exact absurd y (by decide)
              · exact absurd y (by decide), fun y => Or.inl ⟨rfl, y⟩⟩
          by_cases k2 : sm 94 f = 0 ∧ sm 96 f < 0
          · rw [p01_y k2, if_neg (by decide), k284]
            exact ⟨s, rfl, fy (fe.mpr k2)⟩
          · rw [p01_n k2, if_pos rfl]
            exact fn (fun y => k2 (fe.mp y))
  · rw [if_pos c, k284]
    exact ⟨s, rfl, (FD.refl s).iff ⟨fun y => y.elim, fun y => c y.1⟩⟩
def BD7 (T : TT) (sm : Sg) (S A N : Nat) : Prop := (∃ i, i < N ∧ bd7n T sm S i) ∨ (∃ i, i < A ∧ bd7a T sm S i)
theorem ck7 (h : CKX T sc sm n t S P A N K C w) (nb : ¬ BD6 T sm S A N) (h8 : sm 84 8 = -1) (h6 : sm 84 6 = 0) : ∃ s' : Sg, f_213 sm = some s' ∧ TLD sm s' 7 (BD7 T sm S A N) := by
  obtain ⟨hT, hX, hC, hD, hN, h19, h31, h34, h30, wz, tw, S8, P8, A8, N8⟩ := id h
  obtain ⟨s2, e2, f2, a2⟩ := loop_fu (j := j_213_2) (tl := j_213_176) (s0 := sm) (M := N) (fun F i s x y => ck7n h nb F i s x y) (fun F s y => by rw [j_213_2, y.2 47 (by decide), hN.2.1, if_pos (by omega)]) (by omega) (AG.refl sm)
  obtain ⟨s3, e3, f3, a3⟩ := loop_fu (j := j_213_178) (tl := j_213_290) (s0 := sm) (M := A) (fun F i s x y => ck7a h nb F i s x y) (fun F s y => by rw [j_213_178, y.2 34 (by decide), h34, if_pos (by omega)]) (by omega) a2
  obtain ⟨s6, e6, t6⟩ := m237 (k := 7) (f2.trans f3) h8 h6
  refine ⟨s6, ?_, t6⟩
  unfold f_213
  rw [e2]
  show j_213_178 FU 0 s2 = _
  rw [e3]
  unfold j_213_290
  rw [e6, Option.bind_some]
end CK6
