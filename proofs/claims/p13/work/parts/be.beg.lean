/-! THE BEGINNING: what the constructors leave. -/
section BEG
def uk (l : List (Nat × (Nat × Nat))) (f : Nat → Nat × Nat) : Nat → Nat × Nat := l.foldl (fun f p => ax_u1 f p.1 p.2) f
def u2l {α : Type} (l : List ((Nat × Nat) × α)) (f : Nat → Nat → α) : Nat → Nat → α := l.foldl (fun f p => ax_u2 f p.1.1 p.1.2 p.2) f
theorem uk_no : ∀ (l : List (Nat × (Nat × Nat))) (f : Nat → Nat × Nat) (a : Nat), (∀ p ∈ l, p.1 ≠ a) → uk l f a = f a := by
  intro l
  induction l with
  | nil => intro f a _; rfl
  | cons p l ih =>
    intro f a h
    have e : uk (p :: l) f = uk l (ax_u1 f p.1 p.2) := rfl
    rw [e, ih _ a (fun q hq => h q (List.mem_cons_of_mem _ hq))]
    unfold ax_u1
    rw [if_neg (fun u => h p List.mem_cons_self u.symm)]
theorem uk_cg : ∀ (l : List (Nat × (Nat × Nat))) (f g : Nat → Nat × Nat) (a : Nat), f a = g a → uk l f a = uk l g a := by
  intro l
  induction l with
  | nil => intro f g a h; exact h
  | cons p l ih =>
    intro f g a h
    refine ih (ax_u1 f p.1 p.2) (ax_u1 g p.1 p.2) a ?_
    unfold ax_u1
    split
    · rfl
    · exact h
theorem u2l_no {α : Type} : ∀ (l : List ((Nat × Nat) × α)) (f : Nat → Nat → α) (a j : Nat), (∀ p ∈ l, ¬ (p.1.1 = a ∧ p.1.2 = j)) → u2l l f a j = f a j := by
  intro l
  induction l with
  | nil => intro f a j _; rfl
  | cons p l ih =>
    intro f a j h
    have e : u2l (p :: l) f = u2l l (ax_u2 f p.1.1 p.1.2 p.2) := rfl
    rw [e, ih _ a j (fun q hq => h q (List.mem_cons_of_mem _ hq))]
    have hp := h p List.mem_cons_self
    unfold ax_u2
    by_cases c : a = p.1.1
    · rw [if_pos c, if_neg (fun u => hp ⟨c.symm, u.symm⟩)]
    · rw [if_neg c]
set_option maxRecDepth 20000 in
theorem sKn_uk (L : Nat) : sKn L = uk st_kl (sK0 L) := rfl
set_option maxRecDepth 20000 in
theorem sRn_u2 : sRn = u2l st_rl sR0 := rfl
theorem st_klb : ∀ p ∈ st_kl, p.1 ≠ 0 ∧ p.1 < 137 := by decide +kernel
theorem st_rlb : ∀ p ∈ st_rl, p.1.1 < 137 := by decide +kernel
theorem st_k0 : ∀ a, a < 137 → a ≠ 0 → uk st_kl (sK0 0) a = bx_k 0 a := by decide +kernel
def st_ks : List (Nat × Nat) := (2, 0) :: (4, 0) :: st_rl.map (fun p => p.1)
def rok (ks : List (Nat × Nat)) (a : Nat) : Nat → List (Option Nat) → Bool
  | _, [] => true
  | j, none :: r => rok ks a (j + 1) r
  | j, some _ :: r => ks.contains (a, j) && rok ks a (j + 1) r
theorem rok_s {ks : List (Nat × Nat)} {a : Nat} : ∀ (r : List (Option Nat)) (j i : Nat), rok ks a j r = true → r.getD i none ≠ none → (a, j + i) ∈ ks := by
  intro r
  induction r with
  | nil => intro j i _ h; exact absurd rfl h
  | cons o r ih =>
    intro j i h k
    cases o with
    | none =>
      cases i with
      | zero => exact absurd rfl k
      | succ i =>
        have := ih (j + 1) i h k
        rw [show j + (i + 1) = j + 1 + i by omega]
        exact this
    | some v =>
      rw [rok, Bool.and_eq_true] at h
      cases i with
      | zero => exact List.contains_iff_mem.mp h.1
      | succ i =>
        have := ih (j + 1) i h.2 k
        rw [show j + (i + 1) = j + 1 + i by omega]
        exact this
theorem st_rok : ∀ a, a < 137 → rok st_ks a 0 (bx_rl.getD a []) = true := by decide +kernel
theorem st_rk : ∀ p ∈ st_ks, u2l st_rl sR0 p.1 p.2 = bx_r p.1 p.2 := by decide +kernel
theorem bx_kll : bx_kl.length = 137 := by decide +kernel
theorem bx_rll : bx_rl.length = 137 := by decide +kernel
theorem getD_far {α : Type} (d : α) : ∀ (l : List α) (i : Nat), l.length ≤ i → l.getD i d = d := by
  intro l
  induction l with
  | nil => intro i _; rfl
  | cons a l ih =>
    intro i h
    rw [List.length_cons] at h
    cases i with
    | zero => omega
    | succ i => exact ih i (by omega)
theorem getD_in {α : Type} (d : α) : ∀ (l : List α) (i : Nat), i < l.length → l.getD i d ∈ l := by
  intro l
  induction l with
  | nil => intro i h; exact absurd h (by simp)
  | cons a l ih =>
    intro i h
    rw [List.length_cons] at h
    cases i with
    | zero => exact List.mem_cons_self
    | succ i => exact List.mem_cons_of_mem _ (ih i (by omega))
theorem sKn_bx (L : Nat) : sKn L = bx_k L := by
  rw [sKn_uk]
  funext a
  cases a with
  | zero => rw [uk_no _ _ _ (fun p hp => (st_klb p hp).1)]; rfl
  | succ a =>
    have e0 : bx_k L (a + 1) = bx_k 0 (a + 1) := rfl
    have e1 : sK0 L (a + 1) = sK0 0 (a + 1) := match a with
      | 0 => rfl
      | 1 => rfl
      | 2 => rfl
      | 3 => rfl
      | 4 => rfl
      | _ + 5 => rfl
    rw [e0, uk_cg _ _ _ _ e1]
    by_cases c : a + 1 < 137
    · exact st_k0 (a + 1) c (by omega)
    · rw [uk_no _ _ _ (fun p hp => by have := (st_klb p hp).2; omega)]
      have e2 : bx_k 0 (a + 1) = (50, 0) := getD_far _ _ _ (by rw [bx_kll]; omega)
      rw [e2]
      obtain ⟨b, hb⟩ : ∃ b, a = b + 5 := ⟨a - 5, by omega⟩
      rw [hb]
      rfl
theorem sRn_bx : sRn = bx_r := by
  rw [sRn_u2]
  funext a j
  by_cases k : (a, j) ∈ st_ks
  · exact st_rk (a, j) k
  by_cases c : a < 137
  · have e : bx_r a j = none := by
      apply Decidable.byContradiction
      intro u
      have := rok_s (bx_rl.getD a []) 0 j (st_rok a c) u
      rw [Nat.zero_add] at this
      exact k this
    rw [u2l_no _ _ _ _ (fun p hp u => k (List.mem_cons_of_mem _ (List.mem_cons_of_mem _ (List.mem_map.mpr ⟨p, hp, by rw [← u.1, ← u.2]⟩)))), e]
    unfold sR0
    split
    · exact absurd List.mem_cons_self k
    · exact absurd (List.mem_cons_of_mem _ List.mem_cons_self) k
    · rfl
  · rw [u2l_no _ _ _ _ (fun p hp u => by have := st_rlb p hp; omega)]
    have e : bx_r a j = none := by
      have : bx_rl.getD a [] = [] := getD_far _ _ _ (by rw [bx_rll]; omega)
      unfold bx_r
      rw [this]
      rfl
    rw [e]
    unfold sR0
    split
    · omega
    · omega
    · rfl
variable {L : Nat} {xs : Nat → Int}
theorem sSn_row {a : Nat} (h : a ≠ 30) : sSn L xs a = sS0 L xs a := by
  unfold sSn
  show sS11 L xs a = _
  unfold sS11 sS10 sS9 sS8 sS7 sS6 sS5 sS4 sS3 sS2 sS1
  rw [u2_row _ _ _ h, u2_row _ _ _ h, u2_row _ _ _ h, u2_row _ _ _ h, u2_row _ _ _ h, u2_row _ _ _ h, u2_row _ _ _ h, u2_row _ _ _ h, u2_row _ _ _ h, u2_row _ _ _ h, u2_row _ _ _ h]
theorem sSn_0 {a : Nat} (h : 5 < a) (h' : a ≠ 30) : sSn L xs a = fun _ => 0 := by
  rw [sSn_row h']
  funext j
  obtain ⟨b, hb⟩ : ∃ b, a = b + 6 := ⟨a - 6, by omega⟩
  rw [hb]
  rfl
theorem giv_0 : GIV (sSn L xs) := by
  have z : ∀ a j, 5 < a → a ≠ 30 → sSn L xs a j = 0 := fun a j u v => by rw [sSn_0 u v]
  refine ⟨⟨⟨?_, ?_, ?_, ?_, ?_⟩, z 31 9 (by decide) (by decide), z 31 10 (by decide) (by decide), ⟨0, z 31 8 (by decide) (by decide), by decide⟩, Or.inl ⟨z 31 7 (by decide) (by decide), by decide, fun q _ => by rw [z 32 q (by decide) (by decide)]; exact ⟨by decide, by decide⟩, fun k hk => absurd hk (by omega), fun q _ u => absurd (z 32 q (by decide) (by decide)) u, fun k hk => absurd hk (by omega), fun k l hk => absurd hk (by omega)⟩⟩, ⟨0, z 27 1 (by decide) (by decide), by decide, z 84 1 (by decide) (by decide), fun i hi => absurd hi (by omega)⟩, ⟨0, z 82 2 (by decide) (by decide), by decide, z 84 9 (by decide) (by decide), fun i hi => absurd hi (by omega)⟩, Or.inl ⟨z 27 2 (by decide) (by decide), z 84 5 (by decide) (by decide), z 54 6 (by decide) (by decide), z 46 7 (by decide) (by decide), z 39 9 (by decide) (by decide)⟩, ?_, ?_⟩
  · rw [sSn_row (by decide)]; rfl
  · rw [sSn_row (by decide)]; rfl
  · rw [sSn_row (by decide)]
    exact fun k hk => rfl
  · rw [sSn_row (by decide)]
    exact fun k hk => rfl
  · rw [sSn_row (by decide)]
    exact fun k hk => rfl
  · unfold RB
    rw [z 74 13 (by decide) (by decide)]
    decide
  · unfold RM
    rw [z 84 72 (by decide) (by decide)]
    decide
/-- THE LAW, every script -/
theorem law_all (hL : L ≤ 2560) : ∃ (F : Nat) (h' : ax_H), ax_ev F 226 279 [.inr (.inr (some 0))] (sH0 L xs) = some (.inl (some (.inl 1)), h') ∧ h'.1 ≤ 1136 ∧ h'.2.1 ≤ 599348 := by
  have k0 := lop hL 512 0 0 (sSn L xs) (by omega) giv_0
  have k1 := bl_279_23 (B := 1026) 513 0 (fun _ => 0) none none none 0 (sSn L xs) 1 (by omega) k0
  have e : sH252 L xs = hp L (sSn L xs) 0 (fun _ => 0) := by
    show (110, 593192, sKn L, sSn L xs, sRn, fun _ => 0) = _
    rw [sKn_bx, sRn_bx]
    rfl
  rw [← e] at k1
  have k2 := st_law k1
  have k3 : EvP 226 279 [.inr (.inr (some 0))] (sH0 L xs) (oL L 1026 1) := EvP.of (μ := tb_m279) rfl (Nat.le_of_ble_eq_true rfl) rfl k2
  obtain ⟨o, h', ⟨F, k4⟩, rfl, s, c', e', k5, k6⟩ := k3
  refine ⟨F, h', k4, ?_, ?_⟩
  · rw [k6]
    show 110 + c' ≤ 1136
    omega
  · rw [k6]
    show 593192 + 6 * c' ≤ 599348
    omega
end BEG
