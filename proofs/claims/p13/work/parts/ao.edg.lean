/-! RINGS: who calls whom. -/
def CLL (T : TT) (k : Nat) : Prop := T.tk k = 1 ∧ T.tk (k + 1) = 40
/-- a helper's lexemes -/
def HLR (T : TT) (sc sm : Sg) (a hd st e : Nat) : Prop := sc 56 a = (hd : Int) ∧ sm 95 a = (hd : Int) ∧ sm 94 a = 2 ∧ hd < st ∧ st < e ∧ e < T.z ∧ EOH T hd e ∧ (∀ k, hd < k → k < st → ¬ CLL T k) ∧ 3 * lcT T st (e - st) ≤ e - st
def EDG (T : TT) (sc sm : Sg) (S a b : Nat) : Prop := a < S ∧ b < S ∧ ∃ hd st e k : Nat, HLR T sc sm a hd st e ∧ hd < k ∧ k < e ∧ CLL T k ∧ sc 36 (T.vl k).toNat = (b : Int)
section EDS
variable {T : TT} {sc sm s : Sg} {n' S P A N K C w a b : Nat} {t : Nat → Int}
theorem EOH.uniq {h e e' : Nat} (x : EOH T h e) (y : EOH T h e') : e = e' := by
  obtain ⟨x1, x2, x3⟩ := x
  obtain ⟨y1, y2, y3⟩ := y
  by_cases c : e < e'
  · exact absurd x2 (y3 e x1 c)
  · by_cases d : e' < e
    · exact absurd y2 (x3 e' y1 d)
    · omega
theorem CKX.hlp (h : CKX T sc sm n' t S P A N K C w) (g : GOOD T sc sm S A N w) (n6 : ¬ BD6 T sm S A N) (n7 : ¬ BD7 T sm S A N) (ha : a < S) (h2 : sm 94 a = 2) : ∃ hd st e : Nat, HLR T sc sm a hd st e ∧ (∀ k, hd < k → k < e → CLL T k → ∃ b m : Nat, b < S ∧ sc 36 (T.vl k).toNat = (b : Int) ∧ sm 94 b = 2 ∧ SO1 T sm S (T.vl k) b ∧ m < N ∧ sm 116 m = 3 ∧ sm 118 m = (k : Int) ∧ sm 123 m = (a : Int)) ∧ (∀ m, m < N → sm 116 m = 3 → sm 123 m = (a : Int) → ∃ k : Nat, sm 118 m = (k : Int) ∧ hd < k ∧ k < e ∧ CLL T k) := by
  have hwho := fun n (hn : n < N) (hk : 1 ≤ sm 116 n ∧ sm 116 n ≤ 3) => h.who g n6 n7 hn hk
  obtain ⟨hT, hX, hC, hD, hN, h19, h31, h34, h30, wz, tw, S8, P8, A8, N8⟩ := id h
  obtain ⟨hd, p0, pc, n0, b1, b2, b3, b4, b5, b6, b7, b8, b9, b10, b11⟩ := hD.1 a ha
  have dx : DEFX T sc sm N a hd p0 pc := by
    rcases b11 with ⟨u, -⟩ | ⟨u, -⟩ | ⟨_, _, _, u⟩ | ⟨u, -⟩
    · omega
    · omega
    · exact u
    · omega
  obtain ⟨st, e, m0, m1, d1, d2, d3, d4, d5, d6, d7, d8, d9, d10, d11, ⟨g1, g2, g3, g4, g5⟩, d13⟩ := dx
  have eoh : EOH T hd e := ⟨by omega, d9, d10⟩
  refine ⟨hd, st, e, ⟨b1, b2, h2, d6, d7, d8, eoh, d11, g5⟩, fun k k1 k2 k3 => ?_, fun m hm k3 km => ?_⟩
  · have ks : st ≤ k := by
      apply Decidable.byContradiction
      intro hn
      exact d11 k k1 (by omega) k3
    obtain ⟨m, q1, q2, q3, q4⟩ := g3 k ks k2 k3.1 k3.2
    have hm : m < N := by omega
    obtain ⟨i, x, x1, x0, x2, x3, x4, x5⟩ := hwho m hm (by omega)
    have ek : x = k := by omega
    subst ek
    obtain ⟨so, e36, ft⟩ := x4 (x5 (by omega))
    have f2 : sm 94 i = 2 := by
      rcases ft with ⟨u, _⟩ | ⟨u, _⟩ | u
      · omega
      · omega
      · exact u.2.1
    exact ⟨i, m, so.1, e36, f2, so, hm, q3, q4, g1 m q1 q2⟩
  · obtain ⟨si, s1, s2, s3, s4, s5, s6, s7⟩ := hD.2.2.2.1 m hm
    have es : si = a := by omega
    subst es
    have lo : m0 ≤ m := by omega
    have hi : m < m1 := by
      obtain ⟨q1, q2⟩ := hD.2.2.2.2.2.2.2.1.2 si ha h2
      by_cases c : si + 1 < S
      · have := s7 (si + 1) (by omega) c
        have := q1 c
        omega
      · have := q2 (by omega)
        omega
    obtain ⟨k, k1, k2, k3', k4, k5⟩ := g2 m lo hi k3
    exact ⟨k, k3', by omega, k2, k4, k5⟩
/-- bounds of what rings hold -/
def RB (s : Sg) : Prop := 0 ≤ s 74 13 ∧ s 74 13 ≤ 1171
def RM (s : Sg) : Prop := 0 ≤ s 84 72 ∧ s 84 72 ≤ 4100
/-- the class's rows -/
def RGF (sc s : Sg) : Prop := ∀ b, b < 74 ∨ 81 < b → s b = sc b
theorem RGF.cc (h : RGF sc s) (k : CC T sc) : CC T s := k.row (by rw [h 39 (by decide)]) (h 41 (by decide)) (h 42 (by decide)) (h 44 (by decide)) (by rw [h 31 (by decide)]) (h 1 (by decide))
theorem c173 (hs : RGF sc s) (h54 : sc 54 6 = (S : Int)) (hS8 : S ≤ 1171) (ha : a < S) : f_173 (a : Int) s = 1 := by
  unfold f_173
  rw [hs 54 (by decide), h54, if_neg (by omega), if_neg (by omega), if_neg (by omega)]
theorem c173n : f_173 (-1) s = 0 := by
  unfold f_173
  rw [if_pos (by decide)]
/-- what is called at a lexeme -/
theorem c171 (hT : TWF T) (hs : RGF sc s) (hC : CC T sc) {k : Nat} (hk : k < T.z) : g_171 (k : Int) s ∧ (CLL T k → f_171 (k : Int) s = sc 36 (T.vl k).toNat) ∧ (¬ CLL T k → f_171 (k : Int) s = -1) := by
  have z8 := hT.1
  have hc := hs.cc hC
  obtain ⟨c1, c2⟩ := c79 hc hT (a := k + 1) (by omega)
  obtain ⟨c3, c4⟩ := c97 hc hT (a := k) (by omega)
  have g109 : g_109 (f_97 (k : Int) s) s := by
    rw [c3]
    by_cases e : T.tk k = 1
    · rw [if_pos e]
      obtain ⟨d1, -⟩ := c109 hT hc hk e
      exact d1
    · rw [if_neg e]
      unfold g_109
      exact ⟨fun _ => trivial, fun u => absurd (by decide) u⟩
  refine ⟨?_, fun u => ?_, fun u => ?_⟩
  · unfold g_171
    rw [w32_nat (by omega)]
    exact ⟨c2, fun _ => trivial, fun _ => ⟨c4, g109, trivial⟩⟩
  · unfold f_171
    rw [w32_nat (by omega), c1, if_neg (fun e => e u.2), c3, if_pos u.1]
    obtain ⟨d1, d2, -⟩ := c109 hT hc hk u.1
    rw [d2, hs 36 (by decide)]
  · unfold f_171
    rw [w32_nat (by omega), c1]
    by_cases e : T.tk (k + 1) = 40
    · rw [if_neg (fun q => q e), c3, if_neg (fun q => u ⟨q, e⟩)]
      unfold f_109
      rw [if_pos (by decide)]
    · rw [if_pos e]
/-- where a statement's lexemes end -/
theorem c170 (h : CKX T sc sm n' t S P A N K C w) (hs : RGF sc s) (h54 : sc 54 6 = (S : Int)) (hS8 : S ≤ 1171) (ha : a < S) : ∃ hd : Nat, sc 56 a = (hd : Int) ∧ hd < T.z ∧ g_187 (a : Int) s ∧ f_187 (a : Int) s = (hd : Int) ∧ (∀ st e, HLR T sc sm a hd st e → f_170 (a : Int) s = some (e : Int)) ∧ (sm 94 a ≠ 2 → f_170 (a : Int) s = some (hd : Int)) := by
  obtain ⟨hT, hX, hC, hD, -⟩ := h
  obtain ⟨hd, p0, pc, n0, b1, b2, b3, b4, b5, -⟩ := hD.1 a ha
  have z8 := hT.1
  have hc := hs.cc hC
  obtain ⟨-, -, p3, p4, -, -, p7, p8⟩ := c183 (s := s) (by rw [hs 54 (by decide)]; exact h54) ha hS8
  have e56 : f_187 (a : Int) s = (hd : Int) := by rw [p8, hs 56 (by decide), b1]
  have e55 : f_182 (a : Int) s = sm 94 a := by rw [p4, hs 55 (by decide), b5]
  refine ⟨hd, b1, b3, p7, e56, fun st e hl => ?_, fun u => ?_⟩
  · obtain ⟨l1, l2, l3, l4, l5, l6, ⟨l7, l8, l9⟩, -⟩ := hl
    have go : ∀ (r l F : Nat), l + r = e → hd ≤ l → j_170_25 (F + r + 1) (l : Int) s = some (e : Int) := by
      intro r
      induction r with
      | zero =>
        intro l F hl hh
        obtain ⟨c1, c2⟩ := c79 hc hT (a := l) (by omega)
        rw [j_170_25, hc.1, if_neg (by omega), gd_pos c2, c1, if_neg (fun q => q (by rw [show l = e by omega]; exact l8)), show l = e by omega]
      | succ r ih =>
        intro l F hl hh
        obtain ⟨c1, c2⟩ := c79 hc hT (a := l) (by omega)
        rw [show F + (r + 1) + 1 = (F + r + 1) + 1 by omega, j_170_25, hc.1, if_neg (by omega), gd_pos c2, c1, if_pos (l9 l hh (by omega)), w32_nat (by omega)]
        exact ih (l + 1) F (by omega) (by omega)
    obtain ⟨F, hF⟩ := FU_split (k := (e - hd) + 1) (by omega)
    have e0 := go (e - hd) hd F (by omega) (Nat.le_refl _)
    rw [show F + (e - hd) + 1 = FU by omega] at e0
    unfold f_170
    rw [gd_pos p7, gd_pos p3, e55, if_pos l3, e56, e0]
  · unfold f_170
    rw [gd_pos p7, gd_pos p3, e55, if_neg u, e56]
theorem lcT_0 (T : TT) (l0 : Nat) : ∀ n, (∀ k, l0 ≤ k → k < l0 + n → ¬ CLL T k) → lcT T l0 n = 0 := by
  intro n
  induction n with
  | zero => intro _; rfl
  | succ n ih =>
    intro h
    show lcT T l0 n + _ = 0
    rw [ih (fun k x y => h k x (by omega)), if_neg (show ¬ (T.tk (l0 + n) = 1 ∧ T.tk (l0 + n + 1) = 40) from h (l0 + n) (by omega) (by omega))]
end EDS
