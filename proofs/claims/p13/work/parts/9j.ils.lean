/-! AN INSTRUCTION's parts on both sides. -/
/-- j parts have been read, B of them named; h is the instruction's NAME, a where it goes on -/
def ILS (T : TT) (sc1 m1 sc m : Sg) (h S P j B a : Nat) : Prop :=
  (∀ c, ¬ (c = 30 ∨ c = 31 ∨ c = 37 ∨ c = 38 ∨ c = 39 ∨ c = 45 ∨ c = 57 ∨ c = 58) → sc c = sc1 c) ∧ (∀ k, k ≠ 10 → k ≠ 11 → sc 39 k = sc1 39 k) ∧ (∀ k, k < 4 ∨ 7 < k → sc 30 k = sc1 30 k) ∧ (∀ k, k ≠ 8 → sc 31 k = sc1 31 k) ∧ (∀ c i, 57 ≤ c → c ≤ 58 → i ≠ S → sc c i = sc1 c i) ∧ sc 31 8 = (B : Int) ∧ sc 58 S = (j : Int) ∧ sc 57 S = bsm T sc1 m P j ∧
  (∀ c, ¬ (c = 84 ∨ c = 93 ∨ c = 99 ∨ c = 104 ∨ c = 105) → m c = m1 c) ∧ (∀ k, k ≠ 18 → k ≠ 31 → m 84 k = m1 84 k) ∧ (∀ i, i ≠ S → m 99 i = m1 99 i) ∧ (∀ c p, 104 ≤ c → c ≤ 105 → p < P → m c p = m1 c p) ∧ m 84 31 = ((P + j : Nat) : Int) ∧ m 99 S = (j : Int) ∧
  (∀ k, k ≤ h ∨ a ≤ k → sc 45 k = sc1 45 k ∧ m 93 k = m1 93 k) ∧ (∀ k, h < k → k < a → LF T sc m k) ∧
  (∃ f : Nat → Nat, f 0 = h + 1 ∧ f j = a ∧ ∀ i, i < j → (T.tk (f i) = 2 ∧ m 104 (P + i) = -1 ∧ m 105 (P + i) = (f i : Int) ∧ f (i + 1) = f i + 1) ∨ (T.tk (f i) = 1 ∧ T.tk (f i + 1) = 58 ∧ T.tk (f i + 2) = 2 ∧ m 104 (P + i) = (f i : Int) ∧ m 105 (P + i) = ((f i + 2 : Nat) : Int) ∧ f (i + 1) = f i + 3)) ∧
  (CN sc ↔ CN sc1 ∧ GPT T sc1 m P j) ∧ (CN sc → BND T sc m S (-1) B B) ∧ a = h + 1 + j + 2 * B
section ILSS
variable {T : TT} {sc1 m1 sc m : Sg} {h S P j B a : Nat}
theorem gpt_succ {m' : Sg} (h4 : ∀ i, i ≠ P + j → m' 104 i = m 104 i ∧ m' 105 i = m 105 i) : GPT T sc1 m' P (j + 1) ↔ GPT T sc1 m P j ∧ (0 ≤ m' 104 (P + j) → 1 ≤ T.vl (m' 105 (P + j)).toNat ∧ T.vl (m' 105 (P + j)).toNat ≤ 32) ∧ (m' 104 (P + j) < 0 → BIN sc1 (m' 105 (P + j)).toNat) ∧ (∀ q, P ≤ q → q < P + j → 0 ≤ m' 104 (P + j) → 0 ≤ m 104 q → T.vl (m' 104 (P + j)).toNat ≠ T.vl (m 104 q).toNat) := by
  unfold GPT
  constructor
  · intro g
    refine ⟨fun p p1 p2 => ?_, (g (P + j) (by omega) (by omega)).1, (g (P + j) (by omega) (by omega)).2.1, fun q q1 q2 => ?_⟩
    · have := g p p1 (by omega)
      rw [(h4 p (by omega)).1, (h4 p (by omega)).2] at this
      refine ⟨this.1, this.2.1, fun q q1 q2 => ?_⟩
      have t := this.2.2 q q1 q2
      rw [(h4 q (by omega)).1] at t
      exact t
    · have t := (g (P + j) (by omega) (by omega)).2.2 q q1 q2
      rw [(h4 q (by omega)).1] at t
      exact t
  · intro ⟨g, g1, g2, g3⟩ p p1 p2
    by_cases e : p = P + j
    · subst e
      refine ⟨g1, g2, fun q q1 q2 => ?_⟩
      rw [(h4 q (by omega)).1]
      exact g3 q q1 q2
    · have := g p p1 (by omega)
      rw [(h4 p e).1, (h4 p e).2]
      refine ⟨this.1, this.2.1, fun q q1 q2 => ?_⟩
      rw [(h4 q (by omega)).1]
      exact this.2.2 q q1 q2
theorem bsm_succ {m' : Sg} (h4 : ∀ i, i ≠ P + j → m' 104 i = m 104 i ∧ m' 105 i = m 105 i) : bsm T sc1 m' P (j + 1) = ax_w32 (bsm T sc1 m P j + (if m' 104 (P + j) < 0 then sc1 43 (m' 105 (P + j)).toNat else mn (T.vl (m' 105 (P + j)).toNat))) := by
  have : bsm T sc1 m' P j = bsm T sc1 m P j := bsm_congr rfl j (fun c p x y z => by
    by_cases e : c = 104
    · subst e; exact (h4 p (by omega)).1
    · rw [show c = 105 by omega]; exact (h4 p (by omega)).2)
  show ax_w32 (bsm T sc1 m' P j + _) = _
  rw [this]
end ILSS
