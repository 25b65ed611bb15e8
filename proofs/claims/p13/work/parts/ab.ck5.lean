/-! THE REFERENCE's checks: twice, unknown. -/
section CK5
variable {T : TT} {sc sm s s' : Sg} {n a b S P A N K C w i : Nat} {t : Nat → Int} {r v : Int}
theorem rin_rows (h7 : s 107 = sm 107) (h13 : s 113 = sm 113) : ∀ (k : Nat) (r : Int), rin T s v k r ↔ rin T sm v k r := by
  intro k
  induction k with
  | zero => intro r; exact Iff.rfl
  | succ k ih =>
    intro r
    show (0 ≤ r ∧ (T.vl (s 107 r.toNat).toNat = v ∨ rin T s v k (s 113 r.toNat))) ↔ (0 ≤ r ∧ (T.vl (sm 107 r.toNat).toNat = v ∨ rin T sm v k (sm 113 r.toNat)))
    rw [h7, h13, ih]
theorem AG.own (h : AG sm s) : OWN T s i r v ↔ OWN T sm i r v := by
  unfold OWN PIN
  rw [h.1 98 (by decide), h.1 99 (by decide), h.1 104 (by decide), rin_rows (h.1 107 (by decide)) (h.1 113 (by decide))]
theorem AG.owk (h : AG sm s) (k : OWK T sm S A) : OWK T s S A := by
  unfold OWK NMD at *
  rw [h.2 19 (by decide), h.1 95 (by decide), h.1 98 (by decide), h.1 99 (by decide), h.1 104 (by decide), h.1 113 (by decide), h.1 106 (by decide), h.1 107 (by decide)]
  exact k
theorem AG.sof (h : AG sm s) : SOF T s S v r ↔ SOF T sm S v r := by
  unfold SOF
  rw [h.1 95 (by decide)]
theorem CKX.owk (h : CKX T sc sm n t S P A N K C w) : OWK T sm S A := by
  obtain ⟨hT, hX, hC, hD, hN, h19, h31, h34, h30, wz, tw, S8, P8, A8, N8⟩ := h
  exact hD.owk h19 S8 P8 A8
/-- an action's rep and place -/
theorem DAT.act (h : DAT T sc sm S P A N C w) (ha : a < A) : ∃ si : Nat, sm 112 a = (si : Int) ∧ si < S ∧ sm 113 a < (A : Int) ∧ (0 ≤ sm 113 a → sm 106 (sm 113 a).toNat = 2) ∧ (sm 106 a = 0 ∨ sm 106 a = 2 → ∃ x : Nat, sm 107 a = (x : Int) ∧ x < T.z ∧ T.tk x = 1) := by
  obtain ⟨si, b1, b2, b3, b4, b5, b6, b7⟩ := h.2.1 a ha
  refine ⟨si, b1, b2, by omega, b6, fun y => ?_⟩
  rcases b7 with ⟨c1, u, -⟩ | ⟨c1, -⟩ | ⟨c1, u, -⟩ | ⟨c1, -⟩
  · exact u
  · omega
  · exact u
  · omega
/-- two of one name in a statement -/
def dbl (T : TT) (sm : Sg) (p q : Nat) : Prop := 0 ≤ sm 104 p ∧ 0 ≤ sm 104 q ∧ T.vl (sm 104 p).toNat = T.vl (sm 104 q).toNat
def bd5s (T : TT) (sm : Sg) (i : Nat) : Prop := (∃ j, j < i ∧ T.vl (sm 95 j).toNat = T.vl (sm 95 i).toNat) ∨ (∃ p, (sm 98 i).toNat ≤ p ∧ p < (sm 98 i).toNat + (sm 99 i).toNat ∧ ∃ q, (sm 98 i).toNat ≤ q ∧ q < p ∧ dbl T sm p q)
def bd5a (T : TT) (sm : Sg) (a : Nat) : Prop := sm 106 a = 2 ∧ OWN T sm (sm 112 a).toNat (sm 113 a) (T.vl (sm 107 a).toNat)
theorem ck5s (h : CKX T sc sm n t S P A N K C w) (F i : Nat) (s : Sg) (hi : i < S) (ha : AG sm s) : ∃ s' : Sg, j_211_2 (F + 1) (i : Int) s = j_211_2 F ((i + 1 : Nat) : Int) s' ∧ FD s s' (bd5s T sm i) := by
  have ok := h.owk
  obtain ⟨hT, hX, hC, hD, hN, h19, h31, h34, h30, wz, tw, S8, P8, A8, N8⟩ := h
  have z8 := hT.1
  obtain ⟨p0, pc, g1, g2, g3, g4⟩ := ok.2.2.2.2.1 i hi
  obtain ⟨x, x1, x2, x3⟩ := ok.2.2.2.1 i hi
  -- pairs
  have inner : ∀ (k46 : Int → Int → Sg → Option Sg) (p : Nat) (y : Sg), p0 ≤ p → p < p0 + pc → AG sm y → ∃ s' : Sg, j_211_70 (j_211_2 F) k46 FU (i : Int) (p : Int) (p0 : Int) y = k46 (i : Int) ((p + 1 : Nat) : Int) s' ∧ FD y s' (∃ q, p0 ≤ q ∧ q < p ∧ dbl T sm p q) ∧ AG sm s' := by
    intro k46 p y hp0 hp hy
    obtain ⟨F', hF⟩ := FU_split (k := (p - p0) + 1) (by omega)
    have stepq : ∀ (G q : Nat) (z : Sg), p0 ≤ q → q < p → AG sm z → ∃ z' : Sg, j_211_70 (j_211_2 F) k46 (G + 1) (i : Int) (p : Int) (q : Int) z = j_211_70 (j_211_2 F) k46 G (i : Int) (p : Int) ((q + 1 : Nat) : Int) z' ∧ FD z z' (dbl T sm p q) := by
      intro G q z hq0 hq hz
      have k127 : ∀ x : Sg, j_211_127 (j_211_2 F) k46 (j_211_70 (j_211_2 F) k46 G) (i : Int) (p : Int) (q : Int) x = j_211_70 (j_211_2 F) k46 G (i : Int) (p : Int) ((q + 1 : Nat) : Int) x := fun x => by
        unfold j_211_127
        rw [w32_nat (by omega)]
      rw [j_211_70, if_neg (by omega), gd_pos (by omega), Int.toNat_natCast, Int.toNat_natCast, hz.1 104 (by decide)]
      by_cases c1 : sm 104 p < 0
      · rw [if_pos c1, k127]
        exact ⟨z, rfl, (FD.refl z).iff ⟨fun y => y.elim, fun y => absurd y.1 (by omega)⟩⟩
      · rw [if_neg c1, gd_pos (by omega)]
        by_cases c2 : sm 104 q < 0
        · rw [if_pos c2, k127]
          exact ⟨z, rfl, (FD.refl z).iff ⟨fun y => y.elim, fun y => absurd y.2.1 (by omega)⟩⟩
        · obtain ⟨xp, u1, u2, u3⟩ := g4 p hp0 hp (by omega)
          obtain ⟨xq, v1, v2, v3⟩ := g4 q hq0 (by omega) (by omega)
          rw [if_neg c2, gd_pos (by omega), gd_pos (by omega), u1, v1, m239 hT (hz.tx hX) u2 u3 v2 v3, Option.bind_some]
          unfold dbl
          rw [u1, v1, Int.toNat_natCast, Int.toNat_natCast]
          by_cases c3 : T.vl xp = T.vl xq
          · obtain ⟨i1, j1, w1, _⟩ := hX.nm u2 u3
            rw [p01_y c3, if_neg (by decide), gd_pos (by omega), gd_pos (by omega), hz.1 89 (by decide), w1, Option.bind_some, k127]
            exact ⟨_, rfl, (m235 (by omega)).iff ⟨fun _ => ⟨by omega, by omega, c3⟩, fun _ => trivial⟩⟩
          · rw [p01_n c3, if_pos rfl, k127]
            exact ⟨z, rfl, (FD.refl z).iff ⟨fun y => y.elim, fun y => c3 y.2.2⟩⟩
    have go : ∀ (r l G : Nat) (z : Sg), l + r = p → p0 ≤ l → AG sm z → ∃ z' : Sg, j_211_70 (j_211_2 F) k46 (G + r + 1) (i : Int) (p : Int) (l : Int) z = k46 (i : Int) ((p + 1 : Nat) : Int) z' ∧ FD z z' (∃ q, l ≤ q ∧ q < p ∧ dbl T sm p q) ∧ AG sm z' := by
      intro r
      induction r with
      | zero =>
        intro l G z hl hl0 hz
        rw [show l = p by omega]
        refine ⟨z, ?_, (FD.refl z).iff ⟨fun y => y.elim, fun ⟨q, y1, y2, _⟩ => by omega⟩, hz⟩
        rw [j_211_70, if_pos (by omega)]
        unfold j_211_133
        rw [w32_nat (by omega)]
      | succ r ih =>
        intro l G z hl hl0 hz
        obtain ⟨z1, e1, f1⟩ := stepq (G + r + 1) l z hl0 (by omega) hz
        obtain ⟨z2, e2, f2, a2⟩ := ih (l + 1) G z1 (by omega) (by omega) (hz.fd f1)
        refine ⟨z2, by rw [show G + (r + 1) + 1 = (G + r + 1) + 1 by omega, e1, e2], (f1.trans f2).iff ⟨fun y => ?_, fun ⟨q, y1, y2, y3⟩ => ?_⟩, a2⟩
        · rcases y with y | ⟨q, y1, y2, y3⟩
          · exact ⟨l, Nat.le_refl _, by omega, y⟩
          · exact ⟨q, by omega, y2, y3⟩
        · by_cases e : q = l
          · rw [e] at y3; exact Or.inl y3
          · exact Or.inr ⟨q, by omega, y2, y3⟩
    obtain ⟨z', e1, e2, e3⟩ := go (p - p0) p0 F' y (by omega) (Nat.le_refl _) hy
    rw [show F' + (p - p0) + 1 = FU by omega] at e1
    exact ⟨z', e1, e2, e3⟩
  have outer : ∀ (r l G : Nat) (z : Sg), l + r = p0 + pc → p0 ≤ l → AG sm z → ∃ z' : Sg, j_211_46 (j_211_2 F) (G + r + 1) (i : Int) (l : Int) z = j_211_2 F ((i + 1 : Nat) : Int) z' ∧ FD z z' (∃ p, l ≤ p ∧ p < p0 + pc ∧ ∃ q, p0 ≤ q ∧ q < p ∧ dbl T sm p q) := by
    intro r
    induction r with
    | zero =>
      intro l G z hl hl0 hz
      refine ⟨z, ?_, (FD.refl z).iff ⟨fun y => y.elim, fun ⟨q, y1, y2, _⟩ => by omega⟩⟩
      rw [j_211_46, gd_pos (by omega), gd_pos (by omega), Int.toNat_natCast, hz.1 98 (by decide), hz.1 99 (by decide), g1, g2, w32_add (by omega), if_pos (by omega)]
      unfold j_211_139
      rw [w32_nat (by omega)]
    | succ r ih =>
      intro l G z hl hl0 hz
      obtain ⟨z1, e1, f1, a1⟩ := inner (j_211_46 (j_211_2 F) (G + r + 1)) l z hl0 (by omega) hz
      obtain ⟨z2, e2, f2⟩ := ih (l + 1) G z1 (by omega) (by omega) a1
      refine ⟨z2, ?_, (f1.trans f2).iff ⟨fun y => ?_, fun ⟨q, y1, y2, y3⟩ => ?_⟩⟩
      · rw [show G + (r + 1) + 1 = (G + r + 1) + 1 by omega, j_211_46, gd_pos (by omega), gd_pos (by omega), Int.toNat_natCast, hz.1 98 (by decide), hz.1 99 (by decide), g1, g2, w32_add (by omega), if_neg (by omega), gd_pos (by omega), e1, e2]
      · rcases y with y | ⟨q, y1, y2, y3⟩
        · exact ⟨l, Nat.le_refl _, by omega, y⟩
        · exact ⟨q, by omega, y2, y3⟩
      · by_cases e : q = l
        · rw [e] at y3; exact Or.inl y3
        · exact Or.inr ⟨q, by omega, y2, y3⟩
  have s2 : ∀ y : Sg, AG sm y → ∃ s' : Sg, j_211_39 (j_211_2 F) (i : Int) y = j_211_2 F ((i + 1 : Nat) : Int) s' ∧ FD y s' (∃ p, p0 ≤ p ∧ p < p0 + pc ∧ ∃ q, p0 ≤ q ∧ q < p ∧ dbl T sm p q) := by
    intro y hy
    obtain ⟨F', hF⟩ := FU_split (k := pc + 1) (by omega)
    obtain ⟨z', e1, e2⟩ := outer pc p0 F' y (by omega) (Nat.le_refl _) hy
    rw [show F' + pc + 1 = FU by omega] at e1
    refine ⟨z', ?_, e2⟩
    unfold j_211_39
    rw [gd_pos (by omega), Int.toNat_natCast, hy.1 98 (by decide), g1, e1]
  obtain ⟨r, e1, e2⟩ := m238 hT (ha.tx hX) (ha.owk ok) x2 x3
  rw [ha.sof] at e2
  rw [j_211_2, ha.2 19 (by decide), h19, if_neg (by omega), gd_pos (by omega), Int.toNat_natCast, ha.1 95 (by decide), x1, e1, Option.bind_some]
  unfold bd5s
  rw [g1, g2, Int.toNat_natCast, Int.toNat_natCast, x1, Int.toNat_natCast]
  rcases e2 with ⟨e2, e3⟩ | ⟨f, e2, e3, e4, e5⟩
  · exact absurd (by rw [x1, Int.toNat_natCast]) (e3 i hi)
  · have fi : f ≤ i := by
      apply Decidable.byContradiction
      intro hn
      exact e5 i (by omega) (by rw [x1, Int.toNat_natCast])
    by_cases c : (i : Int) ≤ r
    · rw [if_pos c]
      obtain ⟨z', k1, k2⟩ := s2 s ha
      refine ⟨z', k1, k2.iff ⟨fun y => Or.inr y, fun y => ?_⟩⟩
      rcases y with ⟨j, y1, y2⟩ | y
      · exact absurd y2 (e5 j (by omega))
      · exact y
    · obtain ⟨i1, j1, w1, _⟩ := hX.nm x2 x3
      have fd : FD s (f_235 ((i1 : Nat) : Int) s) True := m235 (by omega)
      obtain ⟨z', k1, k2⟩ := s2 _ (ha.fd fd)
      rw [if_neg c, gd_pos (by omega), gd_pos (by omega), ha.1 89 (by decide), w1, Option.bind_some]
      exact ⟨z', k1, (fd.trans k2).iff ⟨fun _ => Or.inl ⟨f, by omega, e4⟩, fun _ => Or.inl trivial⟩⟩
theorem ck5a (h : CKX T sc sm n t S P A N K C w) (F i : Nat) (s : Sg) (hi : i < A) (ha : AG sm s) : ∃ s' : Sg, j_211_147 (F + 1) (i : Int) s = j_211_147 F ((i + 1 : Nat) : Int) s' ∧ FD s s' (bd5a T sm i) := by
  have ok := h.owk
  obtain ⟨hT, hX, hC, hD, hN, h19, h31, h34, h30, wz, tw, S8, P8, A8, N8⟩ := h
  have z8 := hT.1
  obtain ⟨si, b1, b2, b3, b4, b5⟩ := hD.act hi
  have k205 : ∀ x : Sg, j_211_205 (j_211_147 F) (i : Int) x = j_211_147 F ((i + 1 : Nat) : Int) x := fun x => by
    unfold j_211_205
    rw [w32_nat (by omega)]
  rw [j_211_147, ha.2 34 (by decide), h34, if_neg (by omega), gd_pos (by omega), Int.toNat_natCast, ha.1 106 (by decide)]
  unfold bd5a
  by_cases c : sm 106 i = 2
  · obtain ⟨x, x1, x2, x3⟩ := b5 (Or.inr c)
    rw [if_neg (fun e => e c), gd_pos (by omega), gd_pos (by omega), gd_pos (by omega), ha.1 112 (by decide), ha.1 113 (by decide), ha.1 107 (by decide), x1, b1, m240 hT (ha.tx hX) (ha.owk ok) x2 x3 b2 b3 (by rw [ha.1 106 (by decide)]; exact b4), Option.bind_some, Int.toNat_natCast, Int.toNat_natCast]
    by_cases d : OWN T sm si (sm 113 i) (T.vl x)
    · obtain ⟨i1, j1, w1, _⟩ := hX.nm x2 x3
      rw [p01_y (ha.own.mpr d), if_neg (by decide), gd_pos (by omega), gd_pos (by omega), ha.1 89 (by decide), w1, Option.bind_some, k205]
      exact ⟨_, rfl, (m235 (by omega)).iff ⟨fun _ => ⟨c, d⟩, fun _ => trivial⟩⟩
    · rw [p01_n (fun y => d (ha.own.mp y)), if_pos rfl, k205]
      exact ⟨s, rfl, (FD.refl s).iff ⟨fun y => y.elim, fun y => d y.2⟩⟩
  · rw [if_pos c, k205]
    exact ⟨s, rfl, (FD.refl s).iff ⟨fun y => y.elim, fun y => c y.1⟩⟩
def BD5 (T : TT) (sm : Sg) (S A : Nat) : Prop := (∃ i, i < S ∧ bd5s T sm i) ∨ (∃ i, i < A ∧ bd5a T sm i)
theorem ck5 (h : CKX T sc sm n t S P A N K C w) (h8 : sm 84 8 = -1) (h6 : sm 84 6 = 0) : ∃ s' : Sg, f_211 sm = some s' ∧ TLD sm s' 5 (BD5 T sm S A) := by
  obtain ⟨hT, hX, hC, hD, hN, h19, h31, h34, h30, wz, tw, S8, P8, A8, N8⟩ := id h
  obtain ⟨s2, e2, f2, a2⟩ := loop_fu (j := j_211_2) (tl := j_211_145) (s0 := sm) (M := S) (fun F i s x y => ck5s h F i s x y) (fun F s y => by rw [j_211_2, y.2 19 (by decide), h19, if_pos (by omega)]) (by omega) (AG.refl sm)
  obtain ⟨s3, e3, f3, a3⟩ := loop_fu (j := j_211_147) (tl := j_211_211) (s0 := sm) (M := A) (fun F i s x y => ck5a h F i s x y) (fun F s y => by rw [j_211_147, y.2 34 (by decide), h34, if_pos (by omega)]) (by omega) a2
  obtain ⟨s6, e6, t6⟩ := m237 (k := 5) (f2.trans f3) h8 h6
  refine ⟨s6, ?_, t6⟩
  unfold f_211
  rw [e2]
  show j_211_147 FU 0 s2 = _
  rw [e3]
  unfold j_211_211
  rw [e6, Option.bind_some]
end CK5
