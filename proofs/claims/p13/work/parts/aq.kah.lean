/-! RINGS: the class takes away what calls none that is left. -/
/-- the queue: Q of them, ST the calls that are settled -/
def KQ (S M : Nat) (tr : Nat → Nat) (s : Sg) (Q : Nat) (ST : Nat → Prop) : Prop := s 74 11 = (Q : Int) ∧ (∀ j, j < Q → ∃ a : Nat, s 80 j = (a : Int) ∧ a < S) ∧ (∀ j j', j < Q → j' < Q → s 80 j = s 80 j' → j = j') ∧ Q = cnt (fun a => ∃ j, j < Q ∧ s 80 j = (a : Int)) S ∧ (∀ a, a < S → s 78 a = ((cnt (fun c => s 76 c = (a : Int) ∧ ¬ ST c) M : Nat) : Int)) ∧ (∀ j c, j < Q → c < M → s 76 c = s 80 j → ∃ j', j' < j ∧ s 80 j' = ((tr c : Nat) : Int))
def INQ (s : Sg) (Q a : Nat) : Prop := ∃ j, j < Q ∧ s 80 j = (a : Int)
/-- what the queue leaves alone -/
def KFR (s s' : Sg) : Prop := (∀ b, ¬ (b = 74 ∨ b = 78 ∨ b = 80) → s' b = s b) ∧ (∀ j, j ≠ 11 → s' 74 j = s 74 j)
section KAH
variable {T : TT} {sc sm s s' : Sg} {S M Q a b : Nat} {tr : Nat → Nat} {ST ST' : Nat → Prop}
theorem KFR.refl (s : Sg) : KFR s s := ⟨fun _ _ => rfl, fun _ _ => rfl⟩
theorem KFR.trans {s2 : Sg} (h : KFR s s') (k : KFR s' s2) : KFR s s2 := ⟨fun b x => (k.1 b x).trans (h.1 b x), fun j x => (k.2 j x).trans (h.2 j x)⟩
theorem KQ.sub (h : KQ S M tr s Q ST) (e : ∀ c, c < M → (ST c ↔ ST' c)) : KQ S M tr s Q ST' := by
  obtain ⟨h1, h2, h3, h4, h5, h6⟩ := h
  refine ⟨h1, h2, h3, h4, fun a ha => ?_, h6⟩
  rw [h5 a ha, cnt_c M (p := fun c => s 76 c = (a : Int) ∧ ¬ ST c) (p' := fun c => s 76 c = (a : Int) ∧ ¬ ST' c) (fun c hc => by rw [e c hc])]
/-- one more is put there -/
theorem kq_enq (h : KQ S M tr s Q ST) (hS8 : S ≤ 1171) (ha : a < S) (hn : ¬ INQ s Q a) (hc : ∀ c, c < M → s 76 c = (a : Int) → ∃ j, j < Q ∧ s 80 j = ((tr c : Nat) : Int)) : ∃ s' : Sg, g_174 (a : Int) s ∧ f_174 (a : Int) s = s' ∧ KQ S M tr s' (Q + 1) ST ∧ KFR s s' ∧ s' 78 = s 78 ∧ (∀ j, j < Q → s' 80 j = s 80 j) ∧ s' 80 Q = (a : Int) := by
  obtain ⟨h1, h2, h3, h4, h5, h6⟩ := h
  have q8 : Q < S := by
    have := cnt_lt (p := fun a => ∃ j, j < Q ∧ s 80 j = (a : Int)) ha hn
    omega
  obtain ⟨s', hs'⟩ : ∃ s' : Sg, s' = ax_u2 (ax_u2 s 80 Q (a : Int)) 74 11 ((Q + 1 : Nat) : Int) := ⟨_, rfl⟩
  have r : ∀ c, c ≠ 74 → c ≠ 80 → s' c = s c := fun c x y => by rw [hs', u2_row _ _ _ x, u2_row _ _ _ y]
  have v80 : s' 80 Q = (a : Int) := by rw [hs', u2_row _ _ _ (by decide)]; exact u2_same _ _ _ _
  have v80' : ∀ j, j ≠ Q → s' 80 j = s 80 j := fun j x => by rw [hs', u2_row _ _ _ (by decide), u2_col _ _ _ x]
  have inq : ∀ x : Nat, (∃ j, j < Q + 1 ∧ s' 80 j = (x : Int)) ↔ (∃ j, j < Q ∧ s 80 j = (x : Int)) ∨ x = a := fun x => by
    constructor
    · intro ⟨j, y1, y2⟩
      by_cases e : j = Q
      · rw [e, v80] at y2; exact Or.inr (by omega)
      · rw [v80' j e] at y2; exact Or.inl ⟨j, by omega, y2⟩
    · intro y
      rcases y with ⟨j, y1, y2⟩ | y
      · exact ⟨j, by omega, by rw [v80' j (by omega)]; exact y2⟩
      · exact ⟨Q, by omega, by rw [v80, y]⟩
  refine ⟨s', ?_, ?_, ⟨by rw [hs']; exact u2_same _ _ _ _, fun j hj => ?_, fun j j' hj hj' e => ?_, ?_, fun x hx => ?_, fun j c hj hc' e => ?_⟩, ⟨fun b x => r b (by omega) (by omega), fun j x => by rw [hs', u2_col _ _ _ x, u2_row _ _ _ (by decide)]⟩, r 78 (by decide) (by decide), fun j hj => v80' j (by omega), v80⟩
  · unfold g_174
    rw [h1]
    exact ⟨fun _ => trivial, fun _ => ⟨by omega, trivial⟩⟩
  · unfold f_174
    rw [h1, if_neg (by omega), Int.toNat_natCast, w32_nat (by omega), hs']
  · by_cases e : j = Q
    · exact ⟨a, by rw [e]; exact v80, ha⟩
    · obtain ⟨x, x1, x2⟩ := h2 j (by omega)
      exact ⟨x, by rw [v80' j e]; exact x1, x2⟩
  · by_cases e1 : j = Q
    · by_cases e2 : j' = Q
      · omega
      · rw [e1, v80, v80' j' e2] at e
        exact absurd ⟨j', by omega, e.symm⟩ hn
    · by_cases e2 : j' = Q
      · rw [e2, v80, v80' j e1] at e
        exact absurd ⟨j, by omega, e⟩ hn
      · rw [v80' j e1, v80' j' e2] at e
        exact h3 j j' (by omega) (by omega) e
  · rw [cnt_u S ha (p := fun x => ∃ j, j < Q ∧ s 80 j = ((x : Nat) : Int)) (p' := fun x => ∃ j, j < Q + 1 ∧ s' 80 j = ((x : Nat) : Int)) hn ((inq a).mpr (Or.inr rfl)) (fun x _ hx => by rw [inq x]; exact ⟨fun y => Or.inl y, fun y => by rcases y with y | y; exact y; exact absurd y hx⟩), ← h4]
  · rw [r 78 (by decide) (by decide), r 76 (by decide) (by decide)]
    exact h5 x hx
  · rw [r 76 (by decide) (by decide)] at e
    by_cases e1 : j = Q
    · rw [e1, v80] at e
      obtain ⟨j', y1, y2⟩ := hc c hc' e
      exact ⟨j', by omega, by rw [v80' j' (by omega)]; exact y2⟩
    · rw [v80' j e1] at e
      obtain ⟨j', y1, y2⟩ := h6 j c (by omega) hc' e
      exact ⟨j', y1, by rw [v80' j' (by omega)]; exact y2⟩
/-- one call is settled -/
theorem c177 (h : KQ S M tr s Q ST) (hs : RGF sc s) (h54 : sc 54 6 = (S : Int)) (hS8 : S ≤ 1171) (hM : M ≤ 2730) (iq : ∀ x, x < S → (INQ s Q x ↔ s 78 x = 0)) {c0 : Nat} (hc0 : c0 < M) (e0 : s 76 c0 = (a : Int)) (ha : a < S) (ns : ¬ ST c0) (hST : ∀ c, c < M → (ST' c ↔ ST c ∨ c = c0)) (hq : ∀ c, c < M → ST' c → ∃ j, j < Q ∧ s 80 j = ((tr c : Nat) : Int)) : ∃ (s' : Sg) (Q' : Nat), f_177 (a : Int) s = some s' ∧ KQ S M tr s' Q' ST' ∧ KFR s s' ∧ Q ≤ Q' ∧ (∀ j, j < Q → s' 80 j = s 80 j) ∧ (∀ x, x < S → (INQ s' Q' x ↔ s' 78 x = 0)) := by
  obtain ⟨h1, h2, h3, h4, h5, h6⟩ := id h
  have f1 := c173 hs h54 hS8 ha
  have cu : cnt (fun c => s 76 c = (a : Int) ∧ ¬ ST c) M = cnt (fun c => s 76 c = (a : Int) ∧ ¬ ST' c) M + 1 := cnt_u M hc0 (p := fun c => s 76 c = (a : Int) ∧ ¬ ST' c) (p' := fun c => s 76 c = (a : Int) ∧ ¬ ST c) (fun y => y.2 ((hST c0 hc0).mpr (Or.inr rfl))) ⟨e0, ns⟩ (fun i hi hne => by
    constructor
    · intro y; exact ⟨y.1, fun z => y.2 ((hST i hi).mpr (Or.inl z))⟩
    · intro y; exact ⟨y.1, fun z => by rcases (hST i hi).mp z with u | u; exact y.2 u; exact hne u⟩)
  have cl := cnt_le (p := fun c => s 76 c = (a : Int) ∧ ¬ ST c) M
  have e78 := h5 a ha
  obtain ⟨s1, hs1⟩ : ∃ s1 : Sg, s1 = ax_u2 s 78 a (s 78 a - 1) := ⟨_, rfl⟩
  have r1 : ∀ c, c ≠ 78 → s1 c = s c := fun c x => by rw [hs1, u2_row _ _ _ x]
  have v78 : s1 78 a = s 78 a - 1 := by rw [hs1]; exact u2_same _ _ _ _
  have v78' : ∀ x, x ≠ a → s1 78 x = s 78 x := fun x y => by rw [hs1, u2_col _ _ _ y]
  have k1 : KQ S M tr s1 Q ST' := by
    refine ⟨by rw [r1 74 (by decide)]; exact h1, fun j hj => by rw [r1 80 (by decide)]; exact h2 j hj, fun j j' x y => by rw [r1 80 (by decide)]; exact h3 j j' x y, by rw [r1 80 (by decide)]; exact h4, fun x hx => ?_, fun j c x y => by rw [r1 76 (by decide), r1 80 (by decide)]; exact h6 j c x y⟩
    rw [r1 76 (by decide)]
    by_cases e : x = a
    · subst e
      rw [v78]
      omega
    · rw [v78' x e, h5 x hx, cnt_c M (p := fun c => s 76 c = (x : Int) ∧ ¬ ST c) (p' := fun c => s 76 c = (x : Int) ∧ ¬ ST' c) (fun c hc => ?_)]
      constructor
      · intro y; exact ⟨y.1, fun z => by
          rcases (hST c hc).mp z with u | u
          · exact y.2 u
          · rw [u, e0] at y
            have := y.1
            omega⟩
      · intro y; exact ⟨y.1, fun z => y.2 ((hST c hc).mpr (Or.inl z))⟩
  have fr1 : KFR s s1 := ⟨fun b x => r1 b (by omega), fun j _ => by rw [r1 74 (by decide)]⟩
  have e177 : f_177 (a : Int) s = (if ¬ (s1 78 a) = 0 then some s1 else gd (g_174 (a : Int) s1) ((some (f_174 (a : Int) s1)).bind fun q1 => some q1)) := by
    unfold f_177
    rw [f1, if_neg (by decide), gd_pos (by omega), gd_pos (by omega), gd_pos (by omega), Int.toNat_natCast, w32_id (by omega) (by omega), ← hs1]
  rw [e177]
  have na : ¬ INQ s Q a := fun y => by
    have := (iq a ha).mp y
    omega
  by_cases d : s1 78 a = 0
  · obtain ⟨s', g1, g2, g3, g4, g5, g6, g7⟩ := kq_enq k1 hS8 ha (fun ⟨j, y1, y2⟩ => na ⟨j, y1, by rw [r1 80 (by decide)] at y2; exact y2⟩) (fun c hc e => by
      rw [r1 76 (by decide)] at e
      have z := k1.2.2.2.2.1 a ha
      rw [d, r1 76 (by decide)] at z
      have st : ST' c := Classical.byContradiction (fun u => cnt_0 M (p := fun c => s 76 c = (a : Int) ∧ ¬ ST' c) (by omega) c hc ⟨e, u⟩)
      obtain ⟨j, y1, y2⟩ := hq c hc st
      exact ⟨j, y1, by rw [r1 80 (by decide)]; exact y2⟩)
    rw [if_neg (fun e => e d), gd_pos g1, g2, Option.bind_some]
    refine ⟨s', Q + 1, rfl, g3, fr1.trans g4, by omega, fun j hj => by rw [g6 j hj, r1 80 (by decide)], fun x hx => ?_⟩
    rw [g5]
    by_cases e : x = a
    · rw [e]
      exact ⟨fun _ => d, fun _ => ⟨Q, by omega, g7⟩⟩
    · rw [v78' x e, ← iq x hx]
      constructor
      · intro ⟨j, y1, y2⟩
        by_cases e2 : j = Q
        · rw [e2, g7] at y2; omega
        · rw [g6 j (by omega), r1 80 (by decide)] at y2
          exact ⟨j, by omega, y2⟩
      · intro ⟨j, y1, y2⟩
        exact ⟨j, by omega, by rw [g6 j y1, r1 80 (by decide)]; exact y2⟩
  · rw [if_pos d]
    refine ⟨s1, Q, rfl, k1, fr1, Nat.le_refl _, fun j _ => by rw [r1 80 (by decide)], fun x hx => ?_⟩
    unfold INQ
    rw [r1 80 (by decide)]
    by_cases e : x = a
    · rw [e]
      exact ⟨fun y => absurd y na, fun y => absurd y d⟩
    · rw [v78' x e]
      exact iq x hx
end KAH
