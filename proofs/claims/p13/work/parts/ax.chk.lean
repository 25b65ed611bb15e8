/-! THE CHECKS as a whole. -/
section CHK
variable {T : TT} {sc sm s x y : Sg} {n' S P A N K C w : Nat} {t : Nat → Int}
theorem c68f {j : Nat} (h1 : 1 ≤ j) (h2 : j ≤ 10) (h3 : s 30 j ≠ -1) : ∃ r : Int, f_68 s = some r ∧ r ≠ 0 := by
  obtain ⟨r, e, -, -, z, -⟩ := c68 s
  exact ⟨r, e, fun y => h3 (z.mp y j h1 h2)⟩
theorem c68n (h : ∀ j : Nat, 1 ≤ j → j ≤ 10 → s 30 j = -1) : f_68 s = some 0 := by
  obtain ⟨r, e, -, -, z, -⟩ := c68 s
  rw [e, z.mpr h]
theorem c16_58 {j : Nat} (h1 : 1 ≤ j) (h2 : j ≤ 10) (h3 : s 30 j ≠ -1) : j_16_58 s = some s := by
  obtain ⟨r, e, z⟩ := c68f h1 h2 h3
  unfold j_16_58
  rw [e, Option.bind_some, if_pos z]
theorem c16_41 {j : Nat} (h1 : 1 ≤ j) (h2 : j ≤ 10) (h3 : s 30 j ≠ -1) : j_16_41 s = some s := by
  obtain ⟨r, e, z⟩ := c68f h1 h2 h3
  unfold j_16_41
  rw [e, Option.bind_some, if_pos z, c16_58 h1 h2 h3]
theorem c16_24 {j : Nat} (h1 : 1 ≤ j) (h2 : j ≤ 10) (h3 : s 30 j ≠ -1) : j_16_24 s = some s := by
  obtain ⟨r, e, z⟩ := c68f h1 h2 h3
  unfold j_16_24
  rw [e, Option.bind_some, if_pos z, c16_41 h1 h2 h3]
/-- a fault of the reading: nothing is checked -/
theorem c16_0 {j : Nat} (h1 : 1 ≤ j) (h2 : j ≤ 3) (h3 : s 30 j ≠ -1) : f_16 s = some s := by
  obtain ⟨r, e, b0, b1, z, nz⟩ := c68 s
  have r0 : r ≠ 0 := fun y => h3 (z.mp y j h1 (by omega))
  have r3 : r ≤ 3 := by
    apply Decidable.byContradiction
    intro hn
    exact h3 ((nz (by omega)).2 j h1 (by omega))
  unfold f_16
  rw [e, Option.bind_some, if_neg r0, if_pos r3, c16_24 h1 (by omega) h3]
theorem m196f (h : sm 84 6 ≠ 0) : j_196_177 sm = j_196_188 sm ∧ j_196_166 sm = j_196_188 sm ∧ j_196_155 sm = j_196_188 sm ∧ j_196_144 sm = j_196_188 sm ∧ j_196_133 sm = j_196_188 sm ∧ j_196_122 sm = j_196_188 sm ∧ j_196_111 sm = j_196_188 sm := by
  have e1 : j_196_177 sm = j_196_188 sm := by unfold j_196_177; rw [if_pos h]
  have e2 : j_196_166 sm = j_196_188 sm := by unfold j_196_166; rw [if_pos h, e1]
  have e3 : j_196_155 sm = j_196_188 sm := by unfold j_196_155; rw [if_pos h, e2]
  have e4 : j_196_144 sm = j_196_188 sm := by unfold j_196_144; rw [if_pos h, e3]
  have e5 : j_196_133 sm = j_196_188 sm := by unfold j_196_133; rw [if_pos h, e4]
  have e6 : j_196_122 sm = j_196_188 sm := by unfold j_196_122; rw [if_pos h, e5]
  have e7 : j_196_111 sm = j_196_188 sm := by unfold j_196_111; rw [if_pos h, e6]
  exact ⟨e1, e2, e3, e4, e5, e6, e7⟩
/-- what the checks leave, and what they tell -/
def CHO (sc sm x y : Sg) (N : Nat) : Prop := (∀ b, b ≠ 30 → b ≠ 48 → b < 74 ∨ 81 < b → x b = sc b) ∧ (∀ j, j < 4 ∨ 10 < j → x 30 j = sc 30 j) ∧ (∀ b, b ≠ 84 → b ≠ 122 → b < 133 ∨ 135 < b → y b = sm b) ∧ (∀ j, j ≠ 6 → j ≠ 7 → j ≠ 8 → j ≠ 72 → y 84 j = sm 84 j) ∧ y 84 8 = -1 ∧ 0 ≤ y 84 6 ∧ y 84 6 ≤ 10 ∧ ((∀ j : Nat, 1 ≤ j → j ≤ 10 → x 30 j = -1) ↔ y 84 6 = 0) ∧ (y 84 6 = 0 → ∀ k, k < N → (y 122 k = -2 ∧ x 48 k = 0) ∨ (1 ≤ y 122 k ∧ y 122 k ≤ 32 ∧ x 48 k = y 122 k)) ∧ (RB sc → RB x) ∧ (RM sm → RM y) ∧ (y 84 6 = 0 → CN sc) ∧ (y 84 6 = 0 → ∀ i : Nat, (i : Int) < sc 54 6 → sm 94 i = 3 → sc 57 i = sc 54 7)
theorem chk (h : CKX T sc sm n' t S P A N K C w) (h54 : sc 54 6 = (S : Int)) (h57 : sc 54 7 = mn (T.vl w)) (hS8 : S ≤ 1171) (h61 : sc 61 4 = (C : Int)) (hC8 : C ≤ 2049) (hK8 : K ≤ 8192) (hf : ∀ j : Nat, 1 ≤ j → j ≤ 10 → j < 4 ∨ 7 < j → sc 30 j = -1) (h8 : sm 84 8 = -1) (h6 : sm 84 6 = 0) (h11 : sm 84 11 = (T.z : Int)) (h103 : ∀ i, i < S → sm 94 i = 2 → 1 ≤ sm 103 i ∧ sm 103 i ≤ 8192) : ∃ x y : Sg, f_16 sc = some x ∧ j_196_111 sm = j_196_188 y ∧ CHO sc sm x y N := by
  have cng := h.2.2.2.1.2.2.2.2.2.2.1
  have hC := h.2.2.1
  obtain ⟨s1, e18, t1, t2, t3⟩ := c18 h h54 hS8 h61 hC8
  have nmi := nm_iff h
  -- the class comes to its names
  have c17 : f_16 sc = j_16_24 s1 := by
    obtain ⟨r, e, b0, b1, z, nz⟩ := c68 sc
    have e17 : j_16_17 sc = j_16_24 s1 := by
      unfold j_16_17
      rw [e18, Option.bind_some]
    unfold f_16
    rw [e, Option.bind_some]
    by_cases r0 : r = 0
    · rw [if_pos r0, e17]
    · rw [if_neg r0, if_neg (fun r3 => (nz (by omega)).1 (hf r.toNat (by omega) (by omega) (by omega))), e17]
  rw [c17]
  by_cases cn : CN s1
  · -- nothing wrong so far
    have cnp := t3.mp cn
    have nb := nmi.mp cnp
    have nb4 : ¬ BD4 T sc sm S P A N w := fun u => nb (Or.inl u)
    have nb5 : ¬ BD5 T sm S A := fun u => nb (Or.inr (Or.inl u))
    have n6 : ¬ BD6 T sm S A N := fun u => nb (Or.inr (Or.inr (Or.inl u)))
    have n7 : ¬ BD7 T sm S A N := fun u => nb (Or.inr (Or.inr (Or.inr u)))
    have r155 : j_196_111 sm = j_196_155 sm := by
      obtain ⟨a4, e4, -, -, -, -, l4⟩ := ck4 h h8 h6
      obtain ⟨a5, e5, -, -, -, -, l5⟩ := ck5 h h8 h6
      obtain ⟨a6, e6, -, -, -, -, l6⟩ := ck6 h h8 h6
      obtain ⟨a7, e7, -, -, -, -, l7⟩ := ck7 h n6 h8 h6
      rw [(l4 nb4).2] at e4
      rw [(l5 nb5).2] at e5
      rw [(l6 n6).2] at e6
      rw [(l7 n7).2] at e7
      have nn : ¬ ¬ sm 84 6 = 0 := fun u => u h6
      unfold j_196_111
      rw [if_neg nn, e4, Option.bind_some]
      unfold j_196_122
      rw [if_neg nn, e5, Option.bind_some]
      unfold j_196_133
      rw [if_neg nn, e6, Option.bind_some]
      unfold j_196_144
      rw [if_neg nn, e7, Option.bind_some]
    rw [r155]
    have mv1 : MVr sc sm s1 sm := ⟨fun c u _ => t1 c u, ⟨fun _ => cnp.1, fun _ => cn⟩, fun _ _ _ _ => rfl, fun _ _ _ _ _ => rfl⟩
    have h1 : CKX T s1 sm n' t S P A N K C w := by rw [CKX_mv mv1]; exact h
    have g1 : GOOD T s1 sm S A N w := h1.2.2.2.1.2.2.2.2.2.2.1.mp cn
    have f1 : ∀ j : Nat, 1 ≤ j → j ≤ 10 → s1 30 j = -1 := fun j u v => by
      obtain ⟨q4, q5, q6, q7⟩ := cn
      by_cases e : j < 4 ∨ 7 < j
      · rw [t2 j e]; exact hf j u v e
      · have : j = 4 ∨ j = 5 ∨ j = 6 ∨ j = 7 := by omega
        rcases this with e | e | e | e <;> subst e <;> assumption
    obtain ⟨s2, e164, u1, u2, u3, u4⟩ := c164 h1 g1 n6 n7 (by rw [t1 54 (by decide)]; exact h54) hS8 (f1 8 (by decide) (by decide))
    obtain ⟨m2, e214, v1, v2, v3, v4, v5, v6⟩ := m214 h1 g1 n6 n7 h11 h8 h6 h103
    have c24 : j_16_24 s1 = j_16_41 s2 := by
      unfold j_16_24
      rw [c68n f1, Option.bind_some, if_neg (fun u => u rfl), e164, Option.bind_some]
    have r166 : j_196_155 sm = j_196_166 m2 := by
      unfold j_196_155
      rw [if_neg (fun u => u h6), e214, Option.bind_some]
    rw [c24, r166]
    have rb2 : RB sc → RB s2 := fun u => u4 (by unfold RB at *; rw [t1 74 (by decide)]; exact u)
    have x30 : ∀ j, j < 4 ∨ 10 < j → s2 30 j = sc 30 j := fun j u => by rw [u2 j (by omega), t2 j (by omega)]
    by_cases cy : ∃ k, k < S ∧ CYC (EDG T s1 sm S) k
    · -- a ring
      have z8 := u3.mpr cy
      have z6 := v4 cy
      refine ⟨s2, m2, c16_41 (j := 8) (by decide) (by decide) z8, (m196f (by rw [z6]; decide)).2.1, fun b a1 a2 a3 => by rw [u1 b a1 a3, t1 b a1], x30, fun b a1 _ a3 => v1 b a1 a3, v2, v3, by omega, by omega, ⟨fun q => absurd (q 8 (by decide) (by decide)) z8, fun q => absurd q (by omega)⟩, fun q => absurd q (by omega), rb2, fun _ => v6, fun q => absurd q (by omega), fun q => absurd q (by omega)⟩
    · have z8 : s2 30 8 = -1 := Decidable.byContradiction (fun q => cy (u3.mp q))
      have z6 := v5 cy
      have f2 : ∀ j : Nat, 1 ≤ j → j ≤ 10 → s2 30 j = -1 := fun j a1 a2 => by
        by_cases e : j = 8
        · rw [e]; exact z8
        · rw [u2 j e]; exact f1 j a1 a2
      have mv2 : MVr s1 sm s2 m2 := ⟨fun c a b => u1 c a (by omega), ⟨fun _ => cn, fun _ => ⟨f2 4 (by decide) (by decide), f2 5 (by decide) (by decide), f2 6 (by decide) (by decide), f2 7 (by decide) (by decide)⟩⟩, fun c a1 _ a3 => v1 c a1 (by omega), fun j a1 a2 a3 a4 => v2 j a1 a2 a3 a4.1⟩
      have h2 : CKX T s2 m2 n' t S P A N K C w := by rw [CKX_mv mv2]; exact h1
      have g2 : GOOD T s2 m2 S A N w := by rw [GOOD_mv mv2]; exact g1
      have n62 : ¬ BD6 T m2 S A N := by rw [BD6_mv mv2]; exact n6
      have n72 : ¬ BD7 T m2 S A N := by rw [BD7_mv mv2]; exact n7
      have r54 : s2 54 = sc 54 := by rw [u1 54 (by decide) (by decide), t1 54 (by decide)]
      obtain ⟨x3, y3, e19, e215, w1, w2, w3, w4, w5, w6, w7, w8⟩ := wid_sim h2 g2 n62 n72 (by rw [r54]; exact h54) hS8 (by rw [u1 61 (by decide) (by decide), t1 61 (by decide)]; exact h61) hC8 hK8 (f2 9 (by decide) (by decide)) v3 z6
      have c41 : j_16_41 s2 = j_16_58 x3 := by
        unfold j_16_41
        rw [c68n f2, Option.bind_some, if_neg (fun u => u rfl), e19, Option.bind_some]
      have r177 : j_196_166 m2 = j_196_177 y3 := by
        unfold j_196_166
        rw [if_neg (fun u => u z6), e215, Option.bind_some]
      rw [c41, r177]
      have fx : ∀ b, b ≠ 30 → b ≠ 48 → b < 74 ∨ 81 < b → x3 b = sc b := fun b a1 a2 a3 => by rw [w1 b a1 a2, u1 b a1 a3, t1 b a1]
      have fx30 : ∀ j, j < 4 ∨ 10 < j → x3 30 j = sc 30 j := fun j a => by rw [w2 j (by omega), x30 j a]
      have fy : ∀ b, b ≠ 84 → b ≠ 122 → b < 133 ∨ 135 < b → y3 b = sm b := fun b a1 a2 a3 => by rw [w3 b a1 a2, v1 b a1 a3]
      have fyj : ∀ j, j ≠ 6 → j ≠ 7 → j ≠ 8 → j ≠ 72 → y3 84 j = sm 84 j := fun j a1 a2 a3 a4 => by rw [w4 j a1 a2 a3, v2 j a1 a2 a3 a4]
      by_cases c9 : x3 30 9 = -1
      · have z63 := w7 c9
        have f3 : ∀ j : Nat, 1 ≤ j → j ≤ 10 → x3 30 j = -1 := fun j a1 a2 => by
          by_cases e : j = 9
          · rw [e]; exact c9
          · rw [w2 j e]; exact f2 j a1 a2
        have mv3 : MVr s2 m2 s2 y3 := ⟨fun _ _ _ => rfl, Iff.rfl, fun c a1 a2 _ => w3 c a1 a2, fun j a1 a2 a3 _ => w4 j a1 a2 a3⟩
        have h3 : CKX T s2 y3 n' t S P A N K C w := by rw [CKX_mv mv3]; exact h2
        have g3 : GOOD T s2 y3 S A N w := by rw [GOOD_mv mv3]; exact g2
        obtain ⟨x4, e20, p1, p2, p3⟩ := c20 (s := x3) h3 g3 (by rw [w1 54 (by decide) (by decide), r54]; exact h54) (by rw [w1 54 (by decide) (by decide), r54]; exact h57) hS8 (by
          have := h2.2.2.1
          exact this.row (by rw [w1 39 (by decide) (by decide)]) (w1 41 (by decide) (by decide)) (w1 42 (by decide) (by decide)) (w1 44 (by decide) (by decide)) (by rw [w1 31 (by decide) (by decide)]) (w1 1 (by decide) (by decide))) (fun c a1 a2 => w1 c (by omega) (by omega))
        obtain ⟨y4, e216, k1, k2, k3, k4, k5⟩ := ckb h3 g3 w5 z63
        have c58 : j_16_58 x3 = some x4 := by
          unfold j_16_58
          rw [c68n f3, Option.bind_some, if_neg (fun u => u rfl), e20, Option.bind_some]
        have r188 : j_196_177 y3 = j_196_188 y4 := by
          unfold j_196_177
          rw [if_neg (fun u => u z63), e216, Option.bind_some]
        have s48 : x4 48 = x3 48 := p1 48 (by decide)
        have s122 : y4 122 = y3 122 := k1 122 (by decide)
        refine ⟨x4, y4, c58, r188, fun b a1 a2 a3 => by rw [p1 b a1]; exact fx b a1 a2 a3, fun j a => by rw [p2 j (by omega)]; exact fx30 j a, fun b a1 a2 a3 => by rw [k1 b a1]; exact fy b a1 a2 a3, fun j a1 a2 a3 a4 => by rw [k2 j a1 a2 a3]; exact fyj j a1 a2 a3 a4, k3, ?_, ?_, ?_, ?_, fun u => by unfold RB; rw [p1 74 (by decide), w1 74 (by decide) (by decide)]; exact rb2 u, fun _ => by unfold RM; rw [k2 72 (by decide) (by decide) (by decide), w4 72 (by decide) (by decide) (by decide)]; exact v6, fun _ => cnp.1, ?_⟩
        · by_cases d : ∃ i, i < S ∧ bdB T s2 y3 w i
          · rw [k4 d]; decide
          · rw [(k5 d).1]; decide
        · by_cases d : ∃ i, i < S ∧ bdB T s2 y3 w i
          · rw [k4 d]; decide
          · rw [(k5 d).1]; decide
        · by_cases d : ∃ i, i < S ∧ bdB T s2 y3 w i
          · exact ⟨fun q => absurd (q 10 (by decide) (by decide)) (p3.mpr (Or.inr d)), fun q => absurd q (by rw [k4 d]; decide)⟩
          · refine ⟨fun _ => (k5 d).1, fun _ j a1 a2 => ?_⟩
            by_cases e : j = 10
            · rw [e]
              apply Decidable.byContradiction
              intro hn
              rcases p3.mp hn with q | q
              · exact q (f3 10 (by decide) (by decide))
              · exact d q
            · rw [p2 j e]; exact f3 j a1 a2
        · intro _ k hk
          rw [s48, s122]
          exact w8 k hk
        · intro q i hi h3
          have nd : ¬ (∃ i, i < S ∧ bdB T s2 y3 w i) := fun d => absurd q (by rw [k4 d]; decide)
          have wb := g1.1.2
          have e7 : sc 54 7 = T.vl w := by rw [h57]; unfold mn; rw [if_neg (by omega)]
          apply Decidable.byContradiction
          intro ne
          refine nd ⟨i, by omega, by rw [fy 94 (by decide) (by decide) (by decide)]; exact h3, ?_⟩
          rw [u1 57 (by decide) (by decide), t1 57 (by decide), ← e7]
          exact ne
      · have z63 := w6.mp c9
        exact ⟨x3, y3, c16_58 (j := 9) (by decide) (by decide) c9, (m196f (by rw [z63]; decide)).1, fx, fx30, fy, fyj, w5, by omega, by omega, ⟨fun q => absurd (q 9 (by decide) (by decide)) c9, fun q => absurd q (by omega)⟩, fun q => absurd q (by omega), fun u => by unfold RB; rw [w1 74 (by decide) (by decide)]; exact rb2 u, fun _ => by unfold RM; rw [w4 72 (by decide) (by decide) (by decide)]; exact v6, fun q => absurd q (by omega), fun q => absurd q (by omega)⟩
  · -- a number, a name
    have bad : BD4 T sc sm S P A N w ∨ BD5 T sm S A ∨ BD6 T sm S A N ∨ BD7 T sm S A N := by
      apply Classical.byContradiction
      intro hn
      exact cn (t3.mpr (nmi.mpr hn))
    obtain ⟨jf, j1, j2, j3⟩ : ∃ j : Nat, 4 ≤ j ∧ j ≤ 7 ∧ s1 30 j ≠ -1 := by
      apply Classical.byContradiction
      intro hn
      have q : ∀ j : Nat, 4 ≤ j → j ≤ 7 → s1 30 j = -1 := fun j a b => Decidable.byContradiction (fun c => hn ⟨j, a, b, c⟩)
      exact cn ⟨q 4 (by decide) (by decide), q 5 (by decide) (by decide), q 6 (by decide) (by decide), q 7 (by decide) (by decide)⟩
    have fin : ∀ y : Sg, ∀ k : Int, 4 ≤ k → k ≤ 7 → (∀ c, c ≠ 84 → y c = sm c) → (∀ j, j ≠ 6 → j ≠ 7 → j ≠ 8 → y 84 j = sm 84 j) → y 84 8 = -1 → y 84 6 = k → j_196_111 sm = j_196_188 y → ∃ x y : Sg, j_16_24 s1 = some x ∧ j_196_111 sm = j_196_188 y ∧ CHO sc sm x y N := fun y k a1 a2 a3 a4 a5 a6 a7 =>
      ⟨s1, y, c16_24 (j := jf) (by omega) (by omega) j3, a7, fun b b1 _ _ => t1 b b1, fun j b => t2 j (by omega), fun b b1 _ _ => a3 b b1, fun j b1 b2 b3 _ => a4 j b1 b2 b3, a5, by omega, by omega, ⟨fun q => absurd (q jf (by omega) (by omega)) j3, fun q => absurd q (by omega)⟩, fun q => absurd q (by omega), fun u => by unfold RB at *; rw [t1 74 (by decide)]; exact u, fun u => by unfold RM at *; rw [a4 72 (by decide) (by decide) (by decide)]; exact u, fun q => absurd q (by omega), fun q => absurd q (by omega)⟩
    have nn : ¬ ¬ sm 84 6 = 0 := fun u => u h6
    obtain ⟨a4, e4, p41, p42, p43, p44, p45⟩ := ck4 h h8 h6
    by_cases b4 : BD4 T sc sm S P A N w
    · refine fin a4 4 (by decide) (by decide) p41 p42 p43 (p44 b4) ?_
      unfold j_196_111
      rw [if_neg nn, e4, Option.bind_some, (m196f (by rw [p44 b4]; decide)).2.2.2.2.2.1]
    · rw [(p45 b4).2] at e4
      obtain ⟨a5, e5, p51, p52, p53, p54, p55⟩ := ck5 h h8 h6
      by_cases b5 : BD5 T sm S A
      · refine fin a5 5 (by decide) (by decide) p51 p52 p53 (p54 b5) ?_
        unfold j_196_111
        rw [if_neg nn, e4, Option.bind_some]
        unfold j_196_122
        rw [if_neg nn, e5, Option.bind_some, (m196f (by rw [p54 b5]; decide)).2.2.2.2.1]
      · rw [(p55 b5).2] at e5
        obtain ⟨a6, e6, p61, p62, p63, p64, p65⟩ := ck6 h h8 h6
        by_cases b6 : BD6 T sm S A N
        · refine fin a6 6 (by decide) (by decide) p61 p62 p63 (p64 b6) ?_
          unfold j_196_111
          rw [if_neg nn, e4, Option.bind_some]
          unfold j_196_122
          rw [if_neg nn, e5, Option.bind_some]
          unfold j_196_133
          rw [if_neg nn, e6, Option.bind_some, (m196f (by rw [p64 b6]; decide)).2.2.2.1]
        · rw [(p65 b6).2] at e6
          have b7 : BD7 T sm S A N := by
            rcases bad with q | q | q | q
            · exact absurd q b4
            · exact absurd q b5
            · exact absurd q b6
            · exact q
          obtain ⟨a7, e7, p71, p72, p73, p74, p75⟩ := ck7 h b6 h8 h6
          refine fin a7 7 (by decide) (by decide) p71 p72 p73 (p74 b7) ?_
          unfold j_196_111
          rw [if_neg nn, e4, Option.bind_some]
          unfold j_196_122
          rw [if_neg nn, e5, Option.bind_some]
          unfold j_196_133
          rw [if_neg nn, e6, Option.bind_some]
          unfold j_196_144
          rw [if_neg nn, e7, Option.bind_some, (m196f (by rw [p74 b7]; decide)).2.2.1]
end CHK
