/-! THE REFERENCE's checks: what is found; whose a name is. -/
/-- a place is found, if p -/
def FD (s s' : Sg) (p : Prop) : Prop := (∀ c, c ≠ 84 → s' c = s c) ∧ (∀ j, j ≠ 8 → s' 84 j = s 84 j) ∧ (0 ≤ s' 84 8 ↔ 0 ≤ s 84 8 ∨ p)
/-- the first statement of a name -/
def SOF (T : TT) (sm : Sg) (S : Nat) (v r : Int) : Prop := (r = -1 ∧ ∀ i, i < S → T.vl (sm 95 i).toNat ≠ v) ∨ (∃ i : Nat, r = (i : Int) ∧ i < S ∧ T.vl (sm 95 i).toNat = v ∧ ∀ j, j < i → T.vl (sm 95 j).toNat ≠ v)
/-- statements have names; parts and reps too -/
def NMD (T : TT) (sm : Sg) (x : Int) : Prop := ∃ h : Nat, x = (h : Int) ∧ h < T.z ∧ T.tk h = 1
def OWK (T : TT) (sm : Sg) (S A : Nat) : Prop := S < 4100 ∧ A ≤ 8192 ∧ sm 84 19 = (S : Int) ∧ (∀ i, i < S → NMD T sm (sm 95 i)) ∧ (∀ i, i < S → ∃ p0 pc : Nat, sm 98 i = (p0 : Int) ∧ sm 99 i = (pc : Int) ∧ p0 + pc ≤ 8192 ∧ ∀ p, p0 ≤ p → p < p0 + pc → 0 ≤ sm 104 p → NMD T sm (sm 104 p)) ∧ (∀ a, a < A → -1 ≤ sm 113 a ∧ sm 113 a < (a : Int) ∧ (0 ≤ sm 113 a → sm 106 (sm 113 a).toNat = 2) ∧ (sm 106 a = 2 → NMD T sm (sm 107 a)))
section MOW
variable {T : TT} {sc sm s s' s2 : Sg} {n a b S A : Nat} {t : Nat → Int} {p q : Prop}
theorem FD.refl (s : Sg) : FD s s False := ⟨fun _ _ => rfl, fun _ _ => rfl, ⟨fun y => Or.inl y, fun y => by rcases y with y | y; exact y; exact y.elim⟩⟩
theorem FD.trans (h : FD s s' p) (k : FD s' s2 q) : FD s s2 (p ∨ q) := ⟨fun c x => (k.1 c x).trans (h.1 c x), fun j x => (k.2.1 j x).trans (h.2.1 j x), by rw [k.2.2, h.2.2, or_assoc]⟩
theorem FD.iff (h : FD s s' p) (k : p ↔ q) : FD s s' q := ⟨h.1, h.2.1, by rw [h.2.2, k]⟩
theorem TX.mrow (h : TX T sc s n t) (m1 : s' 84 3 = s 84 3) (m2 : s' 86 = s 86) (m3 : s' 89 = s 89) (m4 : s' 90 = s 90) : TX T sc s' n t := by
  obtain ⟨h1, ⟨b1, b2, b3⟩, h3, h4⟩ := h
  refine ⟨h1, ⟨by rw [m1]; exact b1, b2, by rw [m2]; exact b3⟩, h3, ?_⟩
  rw [m3, m4]
  exact h4
theorem FD.tx (h : FD s s' p) (k : TX T sc s n t) : TX T sc s' n t := k.mrow (h.2.1 3 (by decide)) (h.1 86 (by decide)) (h.1 89 (by decide)) (h.1 90 (by decide))
theorem m235 {x : Int} (hx : 0 ≤ x) : FD s (f_235 x s) True := by
  unfold f_235
  split
  · exact ⟨fun c y => u2_row _ _ _ y, fun j y => u2_col _ _ _ y, ⟨fun _ => Or.inr trivial, fun _ => by rw [u2_same]; exact hx⟩⟩
  · split
    · exact ⟨fun c y => u2_row _ _ _ y, fun j y => u2_col _ _ _ y, ⟨fun _ => Or.inr trivial, fun _ => by rw [u2_same]; omega⟩⟩
    · exact ⟨fun c y => u2_row _ _ _ y, fun j y => u2_col _ _ _ y, ⟨fun _ => Or.inr trivial, fun _ => by rw [u2_same]; exact hx⟩⟩
/-- a number within bounds -/
theorem m234 (hT : TWF T) (h : TX T sc sm n t) (ha : a < T.z) (ta : T.tk a = 2) (lo hi : Int) : ∃ s' : Sg, f_234 (a : Int) lo hi sm = some (p01 (lo ≤ T.vl a ∧ T.vl a ≤ hi), s') ∧ FD sm s' (¬ (lo ≤ T.vl a ∧ T.vl a ≤ hi)) := by
  have h8 := hT.1
  unfold f_234
  rw [m218 hT h ha ta, Option.bind_some, within_eq]
  by_cases c : lo ≤ T.vl a ∧ T.vl a ≤ hi
  · rw [if_pos c, p01_y c, if_pos (by decide)]
    exact ⟨sm, rfl, (FD.refl sm).iff ⟨fun y => y.elim, fun y => y c⟩⟩
  · obtain ⟨i, j, -, -, a1, -⟩ := h.nu ha ta
    rw [if_neg c, p01_n c, if_neg (by decide), gd_pos (by omega), Int.toNat_natCast, a1, Option.bind_some]
    exact ⟨_, rfl, (m235 (by omega)).iff ⟨fun _ => c, fun _ => trivial⟩⟩
/-- the statement of a name -/
theorem m238l (hT : TWF T) (h : TX T sc sm n t) (k : OWK T sm S A) (ha : a < T.z) (ta : T.tk a = 1) : ∀ (r l F : Nat), l + r = S → (∀ j, j < l → T.vl (sm 95 j).toNat ≠ T.vl a) → ∃ x : Int, j_238_2 (F + r + 1) (a : Int) (l : Int) sm = some x ∧ SOF T sm S (T.vl a) x := by
  obtain ⟨k1, k2, k3, k4, -⟩ := k
  intro r
  induction r with
  | zero =>
    intro l F hl hn
    exact ⟨-1, by rw [j_238_2, k3, if_pos (by omega)], Or.inl ⟨rfl, fun i hi => hn i (by omega)⟩⟩
  | succ r ih =>
    intro l F hl hn
    obtain ⟨x, x1, x2, x3⟩ := k4 l (by omega)
    rw [show F + (r + 1) + 1 = (F + r + 1) + 1 by omega, j_238_2, k3, if_neg (by omega), gd_pos (by omega), Int.toNat_natCast, x1, m239 hT h x2 x3 ha ta, Option.bind_some]
    by_cases c : T.vl x = T.vl a
    · rw [p01_y c, if_neg (by decide)]
      exact ⟨(l : Int), rfl, Or.inr ⟨l, rfl, by omega, by rw [x1, Int.toNat_natCast]; exact c, hn⟩⟩
    · rw [p01_n c, if_pos rfl, w32_nat (by omega)]
      refine ih (l + 1) F (by omega) (fun j hj => ?_)
      by_cases e : j = l
      · rw [e, x1, Int.toNat_natCast]; exact c
      · exact hn j (by omega)
theorem m238 (hT : TWF T) (h : TX T sc sm n t) (k : OWK T sm S A) (ha : a < T.z) (ta : T.tk a = 1) : ∃ x : Int, f_238 (a : Int) sm = some x ∧ SOF T sm S (T.vl a) x := by
  have k1 := k.1
  obtain ⟨F, hF⟩ := FU_split (k := S + 1) (by omega)
  have := m238l hT h k ha ta S 0 F (by omega) (fun j hj => absurd hj (by omega))
  rw [show F + S + 1 = FU by omega] at this
  exact this
/-- among the reps -/
theorem m240r (hT : TWF T) (h : TX T sc sm n t) (k : OWK T sm S A) (ha : a < T.z) (ta : T.tk a = 1) : ∀ (q : Nat) (r : Int) (F : Nat), r < (q : Int) → r < (A : Int) → (0 ≤ r → sm 106 r.toNat = 2) → j_240_62 (F + q + 1) (a : Int) r sm = some (p01 (rin T sm (T.vl a) q r)) := by
  obtain ⟨k1, k2, k3, k4, k5, k6⟩ := k
  intro q
  induction q with
  | zero =>
    intro r F hr _ _
    rw [j_240_62, if_pos (by omega), p01_n (show ¬ rin T sm (T.vl a) 0 r from fun y => y)]
  | succ q ih =>
    intro r F hr hA hk
    by_cases c : r < 0
    · rw [j_240_62, if_pos c, p01_n (show ¬ rin T sm (T.vl a) (q + 1) r from fun y => absurd y.1 (by omega))]
    · obtain ⟨u, hu⟩ : ∃ u : Nat, r = (u : Int) := ⟨r.toNat, by omega⟩
      subst hu
      rw [Int.toNat_natCast] at hk
      obtain ⟨g1, g2, g3, g4⟩ := k6 u (by omega)
      obtain ⟨x, x1, x2, x3⟩ := g4 (hk (by omega))
      have e : rin T sm (T.vl a) (q + 1) (u : Int) ↔ (T.vl x = T.vl a ∨ rin T sm (T.vl a) q (sm 113 u)) := by
        show (0 ≤ (u : Int) ∧ (T.vl (sm 107 (u : Int).toNat).toNat = T.vl a ∨ rin T sm (T.vl a) q (sm 113 (u : Int).toNat))) ↔ _
        rw [Int.toNat_natCast, x1, Int.toNat_natCast]
        exact ⟨fun y => y.2, fun y => ⟨by omega, y⟩⟩
      rw [show F + (q + 1) + 1 = (F + q + 1) + 1 by omega, j_240_62, if_neg c, gd_pos (by omega), Int.toNat_natCast, x1, m239 hT h x2 x3 ha ta, Option.bind_some]
      by_cases d : T.vl x = T.vl a
      · rw [p01_y d, if_neg (by decide), p01_y (e.mpr (Or.inl d))]
      · rw [p01_n d, if_pos rfl, gd_pos (by omega), ih (sm 113 u) F (by omega) (by omega) g3]
        congr 1
        exact p01_c ⟨fun y => e.mpr (Or.inr y), fun y => by rcases e.mp y with z | z; exact absurd z d; exact z⟩
/-- among a statement's own -/
theorem m240 (hT : TWF T) (h : TX T sc sm n t) (k : OWK T sm S A) (ha : a < T.z) (ta : T.tk a = 1) {i : Nat} {r : Int} (hi : i < S) (hr : r < (A : Int)) (hr2 : 0 ≤ r → sm 106 r.toNat = 2) : f_240 (i : Int) r (a : Int) sm = some (p01 (OWN T sm i r (T.vl a))) := by
  have k0 := k
  obtain ⟨k1, k2, k3, k4, k5, k6⟩ := k
  obtain ⟨p0, pc, g1, g2, g3, g4⟩ := k5 i hi
  have ch : j_240_59 r (a : Int) sm = some (p01 (rin T sm (T.vl a) 8200 r)) := by
    unfold j_240_59
    obtain ⟨F, hF⟩ := FU_split (k := 8200 + 1) (by omega)
    rw [hF]
    exact m240r hT h k0 ha ta 8200 r F (by omega) hr hr2
  have lp : ∀ (q l F : Nat), l + q = p0 + pc → p0 ≤ l → j_240_8 (F + q + 1) (i : Int) r (a : Int) (l : Int) sm = some (p01 ((∃ p, l ≤ p ∧ p < p0 + pc ∧ 0 ≤ sm 104 p ∧ T.vl (sm 104 p).toNat = T.vl a) ∨ rin T sm (T.vl a) 8200 r)) := by
    intro q
    induction q with
    | zero =>
      intro l F hl hp
      rw [j_240_8, gd_pos (by omega), gd_pos (by omega), Int.toNat_natCast, g1, g2, w32_add (by omega), if_pos (by omega), ch]
      congr 1
      exact p01_c ⟨fun y => Or.inr y, fun y => by
        rcases y with ⟨p, y1, y2, _⟩ | y
        · omega
        · exact y⟩
    | succ q ih =>
      intro l F hl hp
      have skip : ¬ (0 ≤ sm 104 l ∧ T.vl (sm 104 l).toNat = T.vl a) → j_240_53 (j_240_8 (F + q + 1)) (i : Int) r (a : Int) (l : Int) sm = some (p01 ((∃ p, l ≤ p ∧ p < p0 + pc ∧ 0 ≤ sm 104 p ∧ T.vl (sm 104 p).toNat = T.vl a) ∨ rin T sm (T.vl a) 8200 r)) := fun c => by
        unfold j_240_53
        rw [w32_nat (by omega), ih (l + 1) F (by omega) (by omega)]
        congr 1
        refine p01_c ⟨fun y => ?_, fun y => ?_⟩
        · rcases y with ⟨p, y1, y2, y3⟩ | y
          · exact Or.inl ⟨p, by omega, y2, y3⟩
          · exact Or.inr y
        · rcases y with ⟨p, y1, y2, y3⟩ | y
          · by_cases e : p = l
            · rw [e] at y3; exact absurd y3 c
            · exact Or.inl ⟨p, by omega, y2, y3⟩
          · exact Or.inr y
      rw [show F + (q + 1) + 1 = (F + q + 1) + 1 by omega, j_240_8, gd_pos (by omega), gd_pos (by omega), Int.toNat_natCast, Int.toNat_natCast, g1, g2, w32_add (by omega), if_neg (by omega), gd_pos (by omega)]
      by_cases c : sm 104 l < 0
      · rw [if_pos c]
        exact skip (fun y => by omega)
      · rw [if_neg c, gd_pos (by omega)]
        obtain ⟨x, x1, x2, x3⟩ := g4 l hp (by omega) (by omega)
        rw [x1, m239 hT h x2 x3 ha ta, Option.bind_some]
        by_cases d : T.vl x = T.vl a
        · rw [p01_y d, if_neg (by decide), p01_y (Or.inl ⟨l, Nat.le_refl _, by omega, by omega, by rw [x1, Int.toNat_natCast]; exact d⟩)]
        · rw [p01_n d, if_pos rfl]
          exact skip (fun y => by rw [x1, Int.toNat_natCast] at y; exact d y.2)
  unfold f_240
  obtain ⟨F, hF⟩ := FU_split (k := pc + 1) (by omega)
  have e0 := lp pc p0 F (by omega) (Nat.le_refl _)
  rw [show F + pc + 1 = FU by omega] at e0
  rw [gd_pos (by omega), Int.toNat_natCast, g1, e0]
  unfold OWN PIN
  rw [g1, g2, Int.toNat_natCast, Int.toNat_natCast]
/-- from what has been read -/
theorem DAT.owk {P N C w : Nat} (h : DAT T sc sm S P A N C w) (h19 : sm 84 19 = (S : Int)) (hS : S < 4100) (hP : P ≤ 8192) (hA : A ≤ 8192) : OWK T sm S A := by
  refine ⟨hS, hA, h19, fun i hi => ?_, fun i hi => ?_, fun a ha => ?_⟩
  · obtain ⟨x, p0, pc, n0, b1, b2, b3, b4, -⟩ := h.1 i hi
    exact ⟨x, b2, b3, b4⟩
  · obtain ⟨x, p0, pc, n0, b1, b2, b3, b4, b5, b6, b7, b8, b9, b10, b11⟩ := h.1 i hi
    refine ⟨p0, pc, b6, b7, by omega, fun p y z u => ?_⟩
    rcases b11 with ⟨c1, c2, c3, c4⟩ | ⟨c1, c2, c3, c4⟩ | ⟨c1, c2, c3, c4⟩ | ⟨c1, c2, ⟨f, c3, c4, c5, c6⟩, c7⟩
    · omega
    · omega
    · obtain ⟨st, e, m0, m1, d1, d2, d3, d4, d5, d6, d7, d8, d9, d10, d11, d12, d13⟩ := c4
      obtain ⟨k1, k2, k3, k4, k5⟩ := d13 (p - p0) (by omega)
      rw [show p0 + (p - p0) = p by omega] at k1
      exact ⟨x + 2 + 3 * (p - p0), k1, by omega, k4⟩
    · have mono : ∀ q j, j + q = pc → f j ≤ f pc := by
        intro q
        induction q with
        | zero => intro j hj; rw [show j = pc by omega]; exact Nat.le_refl _
        | succ q ih =>
          intro j hj
          have := ih (j + 1) (by omega)
          rcases c6 j (by omega) with ⟨_, _, _, g⟩ | ⟨_, _, _, _, _, g⟩ <;> omega
      have := mono (pc - (p - p0)) (p - p0) (by omega)
      rcases c6 (p - p0) (by omega) with ⟨g1, g2, g3, g4⟩ | ⟨g1, g2, g3, g4, g5, g6⟩
      · rw [show p0 + (p - p0) = p by omega] at g2
        omega
      · rw [show p0 + (p - p0) = p by omega] at g4
        exact ⟨f (p - p0), g4, by omega, g1⟩
  · obtain ⟨s, b1, b2, b3, b4, b5, b6, b7⟩ := h.2.1 a ha
    refine ⟨b4, b5, b6, fun y => ?_⟩
    rcases b7 with ⟨c1, -⟩ | ⟨c1, -⟩ | ⟨c1, ⟨x, c2, c3, c4⟩, -⟩ | ⟨c1, -⟩
    · omega
    · omega
    · exact ⟨x, c2, c3, c4⟩
    · omega
end MOW
