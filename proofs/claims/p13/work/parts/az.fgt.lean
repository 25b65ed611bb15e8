/-! FORGETTING: faults, bound names, the names' slots, the words. -/
section FGT
variable {s s0 s' : Sg} {m l : Nat}
theorem c70 (s : Sg) : ∃ s' : Sg, f_70 s = some s' ∧ (∀ c, c ≠ 30 → s' c = s c) ∧ (∀ j, j < 11 → s' 30 j = -1) ∧ (∀ j, 11 ≤ j → s' 30 j = s 30 j) := by
  have go : ∀ (r l F : Nat) (z : Sg), l + r = 11 → (∀ c, c ≠ 30 → z c = s c) → (∀ j, j < l → z 30 j = -1) → (∀ j, 11 ≤ j → z 30 j = s 30 j) → ∃ s' : Sg, j_301_30_5 (F + r + 1) (-1) (l : Int) 11 z = some s' ∧ (∀ c, c ≠ 30 → s' c = s c) ∧ (∀ j, j < 11 → s' 30 j = -1) ∧ (∀ j, 11 ≤ j → s' 30 j = s 30 j) := by
    intro r
    induction r with
    | zero =>
      intro l F z hl h1 h2 h3
      exact ⟨z, by rw [j_301_30_5, if_pos (by omega)], h1, fun j hj => h2 j (by omega), h3⟩
    | succ r ih =>
      intro l F z hl h1 h2 h3
      rw [show F + (r + 1) + 1 = (F + r + 1) + 1 by omega, j_301_30_5, if_neg (by omega), gd_pos (by omega), w32_nat (by omega), Int.toNat_natCast]
      refine ih (l + 1) F _ (by omega) (fun c x => by rw [u2_row _ _ _ x]; exact h1 c x) (fun j hj => ?_) (fun j hj => by rw [u2_col _ _ _ (by omega)]; exact h3 j hj)
      by_cases e : j = l
      · rw [e, u2_same]
      · rw [u2_col _ _ _ e]; exact h2 j (by omega)
  obtain ⟨F, hF⟩ := FU_split (k := 12) (by omega)
  obtain ⟨s', e1, e2⟩ := go 11 0 F s (by omega) (fun _ _ => rfl) (fun j hj => absurd hj (by omega)) (fun _ _ => rfl)
  rw [show F + 11 + 1 = FU by omega] at e1
  have e1' : j_301_30_5 FU (-1) 0 11 s = _ := e1
  refine ⟨s', ?_, e2⟩
  unfold f_70 f_301_30
  rw [e1', Option.bind_some]
theorem c102f {B : Nat} (hB : s 31 8 = (B : Int)) (hB8 : B ≤ 4112) : ∃ s' : Sg, f_102 0 s = some s' ∧ s' 31 8 = 0 ∧ (∀ c, c ≠ 31 → c ≠ 37 → s' c = s c) ∧ (∀ j, j ≠ 8 → s' 31 j = s 31 j) ∧ (∀ k, s' 37 k = s 37 k ∨ s' 37 k = 0) := by
  have go : ∀ (B F : Nat) (z : Sg), B ≤ 4112 → z 31 8 = (B : Int) → ∃ s' : Sg, j_102_0 (F + B + 1) 0 z = some s' ∧ s' 31 8 = 0 ∧ (∀ c, c ≠ 31 → c ≠ 37 → s' c = z c) ∧ (∀ j, j ≠ 8 → s' 31 j = z 31 j) ∧ (∀ k, s' 37 k = z 37 k ∨ s' 37 k = 0) := by
    intro B
    induction B with
    | zero =>
      intro F z _ hz
      exact ⟨z, by rw [j_102_0, if_pos (by omega)], hz, fun _ _ _ => rfl, fun _ _ => rfl, fun _ => Or.inl rfl⟩
    | succ B ih =>
      intro F z hB hz
      have w : ax_w32 (z 31 8 - 1) = (B : Int) := by rw [hz, w32_id (by omega) (by omega)]; omega
      rw [show F + (B + 1) + 1 = (F + B + 1) + 1 by omega, j_102_0, if_neg (by omega), if_neg (by omega), w, gd_pos (by omega), Int.toNat_natCast]
      unfold j_102_53
      have st1 : ∀ z' : Sg, z' 31 8 = (B : Int) → (∀ c, c ≠ 31 → c ≠ 37 → z' c = z c) → (∀ j, j ≠ 8 → z' 31 j = z 31 j) → (∀ k, z' 37 k = z 37 k ∨ z' 37 k = 0) → ∃ s' : Sg, j_102_0 (F + B + 1) 0 z' = some s' ∧ s' 31 8 = 0 ∧ (∀ c, c ≠ 31 → c ≠ 37 → s' c = z c) ∧ (∀ j, j ≠ 8 → s' 31 j = z 31 j) ∧ (∀ k, s' 37 k = z 37 k ∨ s' 37 k = 0) := fun z' a1 a2 a3 a4 => by
        obtain ⟨s', e1, e2, e3, e4, e5⟩ := ih F z' (by omega) a1
        refine ⟨s', e1, e2, fun c x y => by rw [e3 c x y, a2 c x y], fun j x => by rw [e4 j x, a3 j x], fun k => ?_⟩
        rcases e5 k with e | e
        · rw [e]; exact a4 k
        · exact Or.inr e
      have plain : ∃ s' : Sg, j_102_0 (F + B + 1) 0 (ax_u2 z 31 8 (B : Int)) = some s' ∧ s' 31 8 = 0 ∧ (∀ c, c ≠ 31 → c ≠ 37 → s' c = z c) ∧ (∀ j, j ≠ 8 → s' 31 j = z 31 j) ∧ (∀ k, s' 37 k = z 37 k ∨ s' 37 k = 0) :=
        st1 _ (u2_same _ _ _ _) (fun c x _ => u2_row _ _ _ x) (fun j x => u2_col _ _ _ x) (fun k => Or.inl (by rw [u2_row _ _ _ (by decide)]))
      by_cases c1 : z 38 B < 0
      · rw [if_pos c1]; exact plain
      · rw [if_neg c1]
        by_cases c2 : 4112 ≤ z 38 B
        · rw [if_pos c2]; exact plain
        · rw [if_neg c2, gd_pos (by omega)]
          refine st1 _ ?_ (fun c x y => by rw [u2_row _ _ _ y, u2_row _ _ _ x]) (fun j x => by rw [u2_row _ _ _ (by decide), u2_col _ _ _ x]) (fun k => ?_)
          · rw [u2_row _ _ _ (by decide)]; exact u2_same _ _ _ _
          · by_cases e : k = (z 38 B).toNat
            · rw [e]; exact Or.inr (u2_same _ _ _ _)
            · rw [u2_col _ _ _ e, u2_row _ _ _ (by decide)]; exact Or.inl rfl
  obtain ⟨F, hF⟩ := FU_split (k := B + 1) (by omega)
  obtain ⟨s', e1, e2⟩ := go B F s hB8 hB
  rw [show F + B + 1 = FU by omega] at e1
  exact ⟨s', e1, e2⟩
/-- the slots of names from 12 on are freed -/
def SLF (s0 s : Sg) (l : Nat) : Prop := (∀ c, c ≠ 32 → s c = s0 c) ∧ (∀ q : Nat, (∃ k, 12 ≤ k ∧ k < l ∧ s0 33 k = (q : Int)) → s 32 q = 0) ∧ (∀ q : Nat, ¬ (∃ k, 12 ≤ k ∧ k < l ∧ s0 33 k = (q : Int)) → s 32 q = s0 32 q)
theorem c101a (h : NI s0 m) : ∀ (r l F : Nat) (s : Sg), l + r = m → 12 ≤ l → SLF s0 s l → ∃ s' : Sg, j_101_3 (F + r + 1) (l : Int) s = j_101_49 s' ∧ SLF s0 s' m := by
  obtain ⟨h1, h2, h3, h4, h5, h6, h7⟩ := h
  intro r
  induction r with
  | zero =>
    intro l F s hl h12 sl
    rw [show l = m by omega] at sl ⊢
    exact ⟨s, by rw [j_101_3, sl.1 31 (by decide), h1, if_pos (by omega)], sl⟩
  | succ r ih =>
    intro l F s hl h12 sl
    obtain ⟨q, q1, q2, q3⟩ := h4 l (by omega)
    obtain ⟨l1, l2, l3⟩ := sl
    rw [show F + (r + 1) + 1 = (F + r + 1) + 1 by omega, j_101_3, l1 31 (by decide), h1, if_neg (by omega), if_neg (by omega), gd_pos (by omega), Int.toNat_natCast, l1 33 (by decide), q2, if_neg (by omega), if_neg (by omega), gd_pos (by omega), Int.toNat_natCast]
    unfold j_101_43
    rw [w32_nat (by omega)]
    refine ih (l + 1) F _ (by omega) (by omega) ⟨fun c x => by rw [u2_row _ _ _ x]; exact l1 c x, fun p hp => ?_, fun p hp => ?_⟩
    · by_cases e : p = q
      · rw [e, u2_same]
      · rw [u2_col _ _ _ e]
        obtain ⟨k, k1, k2, k3⟩ := hp
        refine l2 p ⟨k, k1, ?_, k3⟩
        by_cases ek : k = l
        · rw [ek, q2] at k3; omega
        · omega
    · have e : p ≠ q := fun e => hp ⟨l, h12, by omega, by rw [q2, e]⟩
      rw [u2_col _ _ _ e]
      exact l3 p (fun ⟨k, k1, k2, k3⟩ => hp ⟨k, k1, by omega, k3⟩)
theorem NI.trim (h : NI s0 m) (hm : 12 ≤ m) (sl : SLF s0 s m) (h7' : s' 31 7 = 12) (r : ∀ c, c ≠ 31 → c ≠ 37 → s' c = s c) : NI s' 12 := by
  obtain ⟨h1, h2, h3, h4, h5, h6, h7⟩ := h
  obtain ⟨l1, l2, l3⟩ := sl
  have r33 : s' 33 = s0 33 := by rw [r 33 (by decide) (by decide), l1 33 (by decide)]
  have r34 : s' 34 = s0 34 := by rw [r 34 (by decide) (by decide), l1 34 (by decide)]
  have r35 : s' 35 = s0 35 := by rw [r 35 (by decide) (by decide), l1 35 (by decide)]
  have r32 : s' 32 = s 32 := r 32 (by decide) (by decide)
  -- a slot of a word stays
  have keep : ∀ q : Nat, q < 8192 → 1 ≤ s0 32 q → s0 32 q ≤ 12 → s 32 q = s0 32 q := fun q hq a b => by
    refine l3 q (fun ⟨k, k1, k2, k3⟩ => ?_)
    obtain ⟨q', a1, a2, a3⟩ := h4 k k2
    have : q' = q := by omega
    subst this
    omega
  have gone : ∀ q : Nat, q < 8192 → 12 < s0 32 q → s 32 q = 0 := fun q hq a => by
    refine l2 q ⟨(s0 32 q - 1).toNat, by omega, ?_, h5 q hq (by omega)⟩
    have := h3 q hq
    omega
  have cases3 : ∀ q : Nat, q < 8192 → (s 32 q = s0 32 q ∧ 0 ≤ s0 32 q ∧ s0 32 q ≤ 12) ∨ s 32 q = 0 := fun q hq => by
    have a := h3 q hq
    by_cases c : 12 < s0 32 q
    · exact Or.inr (gone q hq c)
    · by_cases d : s0 32 q = 0
      · by_cases e : ∃ k, 12 ≤ k ∧ k < m ∧ s0 33 k = (q : Int)
        · exact Or.inr (l2 q e)
        · exact Or.inr (by rw [l3 q e]; exact d)
      · exact Or.inl ⟨keep q hq (by omega) (by omega), by omega, by omega⟩
  refine ⟨h7', by decide, fun q hq => ?_, fun k hk => ?_, fun q hq hne => ?_, fun k hk => ?_, fun k l hk hl e1 e2 => ?_⟩
  · rw [r32]
    rcases cases3 q hq with ⟨a, b, c⟩ | a
    · rw [a]; exact ⟨b, c⟩
    · rw [a]; decide
  · obtain ⟨q, a1, a2, a3⟩ := h4 k (by omega)
    exact ⟨q, a1, by rw [r33]; exact a2, by rw [r32, keep q a1 (by omega) (by omega)]; exact a3⟩
  · rw [r32] at hne ⊢
    rcases cases3 q hq with ⟨a, b, c⟩ | a
    · rw [a] at hne ⊢
      rw [r33]
      exact h5 q hq hne
    · exact absurd a hne
  · obtain ⟨d, a1, a2, a3⟩ := h6 k (by omega)
    refine ⟨d, a1, by rw [r33, r34, r35]; exact a2, fun e he => ?_⟩
    obtain ⟨b1, b2⟩ := a3 e he
    rw [r32, r34, r35, keep _ (pb_lt _ _) b1 (by omega)]
    exact ⟨b1, b2⟩
  · rw [r34] at e1
    rw [r35] at e2
    exact h7 k l (by omega) (by omega) e1 e2
end FGT
