/-! BIG STEPS: an invocation, and a run from a place, without fuel. -/
def ax_sub (f g : Nat → List ax_V → ax_H → Option (ax_O × ax_H)) : Prop := ∀ y av h r, f y av h = some r → g y av h = some r
theorem ax_run_mono {f g : Nat → List ax_V → ax_H → Option (ax_O × ax_H)} (hs : ax_sub f g) (μ : ax_M) : ∀ (a b pc : Nat) (ls : ax_L) (st : List ax_V) (h : ax_H) (r : ax_O × ax_H), a ≤ b → ax_run f μ a pc ls st h = some r → ax_run g μ b pc ls st h = some r := by
  intro a
  induction a with
  | zero => intro b pc ls st h r _ e; cases e
  | succ a ih =>
    intro b pc ls st h r hb e
    obtain ⟨b, rfl⟩ : ∃ k, b = k + 1 := ⟨b - 1, by omega⟩
    have hb : a ≤ b := by omega
    simp only [ax_run] at e ⊢
    split at e
    · cases e
    · rename_i e1
      try rw [e1]
      exact ih b _ _ _ _ r hb e
    · rename_i e1
      try rw [e1]
      exact e
    · rename_i y as q e1
      try rw [e1]
      try dsimp only
      split at e
      · cases e
      · rename_i v h1 e2
        rw [hs _ _ _ _ e2]
        exact ih b _ _ _ _ r hb e
      · rename_i x h1 e2
        rw [hs _ _ _ _ e2]
        try dsimp only
        split at e
        · rename_i t e3
          try rw [e3]
          exact ih b _ _ _ _ r hb e
        · rename_i e3
          try rw [e3]
          exact e
theorem ax_ev_mono {F G : Nat} (hF : F ≤ G) : ∀ (n m : Nat), n ≤ m → ax_sub (ax_ev F n) (ax_ev G m) := by
  intro n
  induction n with
  | zero => intro m _ y av h r e; cases e
  | succ n ih =>
    intro m hm y av h r e
    obtain ⟨m, rfl⟩ : ∃ k, m = k + 1 := ⟨m - 1, by omega⟩
    simp only [ax_ev] at e ⊢
    split at e
    · cases e
    · rename_i μ e1
      try rw [e1]
      try dsimp only
      split at e
      · rename_i c
        rw [if_pos c]
        exact ax_run_mono (ih m (by omega)) μ F G 0 _ _ h r hF e
      · cases e
/-- the method y, called with av over h, comes to o over h', in at most n frames -/
def Ev (n y : Nat) (av : List ax_V) (h : ax_H) (o : ax_O) (h' : ax_H) : Prop := ∃ F, ax_ev F n y av h = some (o, h')
/-- from a place of a method, over frames of at most n -/
def Ru (n : Nat) (μ : ax_M) (pc : Nat) (ls : ax_L) (st : List ax_V) (h : ax_H) (o : ax_O) (h' : ax_H) : Prop := ∃ F f, ax_run (ax_ev F n) μ f pc ls st h = some (o, h')
theorem Ev.up {n m y : Nat} {av : List ax_V} {h h' : ax_H} {o : ax_O} (k : Ev n y av h o h') (hm : n ≤ m) : Ev m y av h o h' := by
  obtain ⟨F, e⟩ := k
  exact ⟨F, ax_ev_mono (Nat.le_refl F) n m hm _ _ _ _ e⟩
section RU
variable {n pc pc' y : Nat} {μ : ax_M} {ls ls' : ax_L} {st st' as r : List ax_V} {h h1 h' : ax_H} {o : ax_O} {v : Option ax_V} {x t : Nat}
theorem Ru.step (e : ax_step μ pc ls st h = some (.inl (pc', ls', st', h1))) (k : Ru n μ pc' ls' st' h1 o h') : Ru n μ pc ls st h o h' := by
  obtain ⟨F, f, k⟩ := k
  refine ⟨F, f + 1, ?_⟩
  simp only [ax_run, e]
  exact k
theorem Ru.done (e : ax_step μ pc ls st h = some (.inr (.inl (o, h')))) : Ru n μ pc ls st h o h' := by
  refine ⟨0, 1, ?_⟩
  simp only [ax_run, e]
theorem Ru.call (e : ax_step μ pc ls st h = some (.inr (.inr (y, as, r)))) (c : Ev n y as h (.inl v) h1) (k : Ru n μ (pc + 3) ls (v.toList ++ r) h1 o h') : Ru n μ pc ls st h o h' := by
  obtain ⟨F, f, k⟩ := k
  obtain ⟨G, c⟩ := c
  refine ⟨max F G, f + 1, ?_⟩
  simp only [ax_run, e]
  rw [ax_ev_mono (Nat.le_max_right F G) n n (Nat.le_refl n) _ _ _ _ c]
  exact ax_run_mono (ax_ev_mono (Nat.le_max_left F G) n n (Nat.le_refl n)) μ f f _ _ _ _ _ (Nat.le_refl f) k
theorem Ru.caught (e : ax_step μ pc ls st h = some (.inr (.inr (y, as, r)))) (c : Ev n y as h (.inr x) h1) (hc : ax_catch μ.2.2.2.2.1 pc (ax_ex h1 x) = some t) (k : Ru n μ t ls [.inr (.inr (some x))] h1 o h') : Ru n μ pc ls st h o h' := by
  obtain ⟨F, f, k⟩ := k
  obtain ⟨G, c⟩ := c
  refine ⟨max F G, f + 1, ?_⟩
  simp only [ax_run, e]
  rw [ax_ev_mono (Nat.le_max_right F G) n n (Nat.le_refl n) _ _ _ _ c]
  dsimp only
  rw [hc]
  exact ax_run_mono (ax_ev_mono (Nat.le_max_left F G) n n (Nat.le_refl n)) μ f f _ _ _ _ _ (Nat.le_refl f) k
theorem Ru.passed (e : ax_step μ pc ls st h = some (.inr (.inr (y, as, r)))) (c : Ev n y as h (.inr x) h1) (hn : μ.2.2.2.2.1 = []) : Ru n μ pc ls st h (.inr x) h1 := by
  obtain ⟨G, c⟩ := c
  refine ⟨G, 1, ?_⟩
  simp only [ax_run, e]
  rw [c]
  dsimp only
  rw [hn]
  rfl
theorem Ev.of {av : List ax_V} (hμ : tb_ms[y]? = some μ) (hl : (ax_ent av).length ≤ μ.2.1) (hls : ax_ent av ++ List.replicate (μ.2.1 - (ax_ent av).length) none = ls) (k : Ru n μ 0 ls [] h o h') : Ev (n + 1) y av h o h' := by
  obtain ⟨F, f, k⟩ := k
  refine ⟨max F f, ?_⟩
  simp only [ax_ev, hμ]
  rw [if_pos hl, hls]
  exact ax_run_mono (ax_ev_mono (Nat.le_max_left F f) n n (Nat.le_refl n)) μ f (max F f) _ _ _ _ _ (Nat.le_max_right F f) k
end RU
/-- a jump that is taken, and one that isn't -/
theorem ax_jy {P : Prop} (inst : Decidable P) {pc : Nat} {off : Int} {r : List ax_V} (h : P) : @ax_jif P inst pc off r = some (ax_to pc off, r) := if_pos h
theorem ax_jn {P : Prop} (inst : Decidable P) {pc : Nat} {off : Int} {r : List ax_V} (h : ¬ P) : @ax_jif P inst pc off r = some (pc + 3, r) := if_neg h
section RUJ
variable {n pc : Nat} {μ : ax_M} {ls : ax_L} {st r : List ax_V} {h h' : ax_H} {o : ax_O} {off : Int} {P : Prop} {inst : Decidable P}
theorem Ru.jy (e : ax_step μ pc ls st h = (match @ax_jif P inst pc off r with
    | some (pc', st') => some (.inl (pc', ls, st', h))
    | none => none)) (q : P) (k : Ru n μ (ax_to pc off) ls r h o h') : Ru n μ pc ls st h o h' := by
  rw [ax_jy inst q] at e
  exact Ru.step e k
theorem Ru.jn (e : ax_step μ pc ls st h = (match @ax_jif P inst pc off r with
    | some (pc', st') => some (.inl (pc', ls, st', h))
    | none => none)) (q : ¬ P) (k : Ru n μ (pc + 3) ls r h o h') : Ru n μ pc ls st h o h' := by
  rw [ax_jn inst q] at e
  exact Ru.step e k
end RUJ
section RUA
variable {n pc pc' a : Nat} {μ : ax_M} {ls : ax_L} {st r : List ax_V} {h h' : ax_H} {o : ax_O} {f : Nat → Bool} {j z w : Int} {v : ax_V}
theorem Ru.ald (e : ax_step μ pc ls st h = (match ax_ald f (.inl j :: .inr (.inr (some a)) :: r) h with
    | some (st', h') => some (.inl (pc', ls, st', h'))
    | none => none)) (k1 : f (ax_kd h a).1 = true) (h0 : 0 ≤ j) (h1 : j < ((ax_kd h a).2 : Int)) (k : Ru n μ pc' ls (ax_el (ax_kd h a).1 (ax_nu h a j.toNat) :: r) h o h') : Ru n μ pc ls st h o h' := by
  have q : ax_ald f (.inl j :: .inr (.inr (some a)) :: r) h = some (ax_el (ax_kd h a).1 (ax_nu h a j.toNat) :: r, h) := if_pos ⟨k1, h0, h1⟩
  rw [q] at e
  exact Ru.step e k
theorem Ru.ast (e : ax_step μ pc ls st h = (match ax_ast f v (.inl j :: .inr (.inr (some a)) :: r) z h with
    | some (st', h') => some (.inl (pc', ls, st', h'))
    | none => none)) (k1 : f (ax_kd h a).1 = true) (k2 : 27 ≤ a) (k3 : ax_el (ax_kd h a).1 z = v) (k4 : ax_tk (ax_kd h a).1 z = some w) (h0 : 0 ≤ j) (h1 : j < ((ax_kd h a).2 : Int)) (k : Ru n μ pc' ls r (ax_setn h a j.toNat w) o h') : Ru n μ pc ls st h o h' := by
  have q : ax_ast f v (.inl j :: .inr (.inr (some a)) :: r) z h = some (r, ax_setn h a j.toNat w) := by
    show (if _ then _ else _) = _
    rw [if_pos ⟨k1, h0, h1, k2, k3⟩, k4]
  rw [q] at e
  exact Ru.step e k
end RUA
