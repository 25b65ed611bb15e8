/-! THE BEGINNING: what the constructors leave. -/
section BEG
def uk (l : List (Nat × (Nat × Nat))) (f : Nat → Nat × Nat) : Nat → Nat × Nat := l.foldl (fun f p => ax_u1 f p.1 p.2) f
def u2l {α : Type} (l : List ((Nat × Nat) × α)) (f : Nat → Nat → α) : Nat → Nat → α := l.foldl (fun f p => ax_u2 f p.1.1 p.1.2 p.2) f
theorem uk_no : ∀ (l : List (Nat × (Nat × Nat))) (f : Nat → Nat × Nat) (a : Nat), (∀ p ∈ l, p.1 ≠ a) → uk l f a = f a := by
  intro l
  induction l with
  | nil => intro f a _; rfl
  | cons p l ih =>
    intro f a h
    have e : uk (p :: l) f = uk l (ax_u1 f p.1 p.2) := rfl
    rw [e, ih _ a (fun q hq => h q (List.mem_cons_of_mem _ hq))]
    unfold ax_u1
    rw [if_neg (fun u => h p List.mem_cons_self u.symm)]
theorem uk_cg : ∀ (l : List (Nat × (Nat × Nat))) (f g : Nat → Nat × Nat) (a : Nat), f a = g a → uk l f a = uk l g a := by
  intro l
  induction l with
  | nil => intro f g a h; exact h
  | cons p l ih =>
    intro f g a h
    refine ih (ax_u1 f p.1 p.2) (ax_u1 g p.1 p.2) a ?_
    unfold ax_u1
    split
    · rfl
    · exact h
theorem u2l_no {α : Type} : ∀ (l : List ((Nat × Nat) × α)) (f : Nat → Nat → α) (a j : Nat), (∀ p ∈ l, ¬ (p.1.1 = a ∧ p.1.2 = j)) → u2l l f a j = f a j := by
  intro l
  induction l with
  | nil => intro f a j _; rfl
  | cons p l ih =>
    intro f a j h
    have e : u2l (p :: l) f = u2l l (ax_u2 f p.1.1 p.1.2 p.2) := rfl
    rw [e, ih _ a j (fun q hq => h q (List.mem_cons_of_mem _ hq))]
    have hp := h p List.mem_cons_self
    unfold ax_u2
    by_cases c : a = p.1.1
    · rw [if_pos c, if_neg (fun u => hp ⟨c.symm, u.symm⟩)]
    · rw [if_neg c]
set_option maxRecDepth 20000 in
theorem sKn_uk (L : Nat) : sKn L = uk st_kl (sK0 L) := rfl
set_option maxRecDepth 20000 in
theorem sRn_u2 : sRn = u2l st_rl sR0 := rfl
theorem st_klb : ∀ p ∈ st_kl, p.1 ≠ 0 ∧ p.1 < 137 := by decide +kernel
theorem st_rlb : ∀ p ∈ st_rl, p.1.1 < 137 := by decide +kernel
theorem st_k0 : ∀ a, a < 137 → a ≠ 0 → uk st_kl (sK0 0) a = bx_k 0 a := by decide +kernel
def st_ks : List (Nat × Nat) := (2, 0) :: (4, 0) :: st_rl.map (fun p => p.1)
def rok (ks : List (Nat × Nat)) (a : Nat) : Nat → List (Option Nat) → Bool
  | _, [] => true
  | j, none :: r => rok ks a (j + 1) r
  | j, some _ :: r => ks.contains (a, j) && rok ks a (j + 1) r
theorem rok_s {ks : List (Nat × Nat)} {a : Nat} : ∀ (r : List (Option Nat)) (j i : Nat), rok ks a j r = true → r.getD i none ≠ none → (a, j + i) ∈ ks := by
  intro r
  induction r with
  | nil => intro j i _ h; exact absurd rfl h
  | cons o r ih =>
    intro j i h k
    cases o with
    | none =>
      cases i with
      | zero => exact absurd rfl k
      | succ i =>
        have := ih (j + 1) i h k
        rw [show j + (i + 1) = j + 1 + i by omega]
        exact this
    | some v =>
      rw [rok, Bool.and_eq_true] at h
      cases i with
      | zero => exact List.contains_iff_mem.mp h.1
      | succ i =>
        have := ih (j + 1) i h.2 k
        rw [show j + (i + 1) = j + 1 + i by omega]
        exact this
theorem st_rok : ∀ a, a < 137 → rok st_ks a 0 (bx_rl.getD a []) = true := by decide +kernel
theorem st_rk : ∀ p ∈ st_ks, u2l st_rl sR0 p.1 p.2 = bx_r p.1 p.2 := by decide +kernel
theorem bx_kll : bx_kl.length = 137 := by decide +kernel
theorem bx_rll : bx_rl.length = 137 := by decide +kernel
theorem getD_far {α : Type} (d : α) : ∀ (l : List α) (i : Nat), l.length ≤ i → l.getD i d = d := by
  intro l
  induction l with
  | nil => intro i _; rfl
  | cons a l ih =>
    intro i h
    rw [List.length_cons] at h
    cases i with
    | zero => omega
    | succ i => exact ih i (by omega)
theorem getD_in {α : Type} (d : α) : ∀ (l : List α) (i : Nat), i < l.length → l.getD i d ∈ l := by
  intro l
  induction l with
  | nil => intro i h; exact absurd h (by simp)
  | cons a l ih =>
    intro i h
    rw [List.length_cons] at h
    cases i with
    | zero => exact List.mem_cons_self
    | succ i => exact List.mem_cons_of_mem _ (ih i (by omega))
theorem sKn_bx (L : Nat) : sKn L = bx_k L := by
  rw [sKn_uk]
  funext a
  cases a with
  | zero => rw [uk_no _ _ _ (fun p hp => (st_klb p hp).1)]; rfl
  | succ a =>
    have e0 : bx_k L (a + 1) = bx_k 0 (a + 1) := rfl
    have e1 : sK0 L (a + 1) = sK0 0 (a + 1) := match a with
      | 0 => rfl
      | 1 => rfl
      | 2 => rfl
      | 3 => rfl
      | 4 => rfl
      | _ + 5 => rfl
    rw [e0, uk_cg _ _ _ _ e1]
    by_cases c : a + 1 < 137
    · exact st_k0 (a + 1) c (by omega)
    · rw [uk_no _ _ _ (fun p hp => by have := (st_klb p hp).2; omega)]
      have e2 : bx_k 0 (a + 1) = (50, 0) := getD_far _ _ _ (by rw [bx_kll]; omega)
      rw [e2]
      obtain ⟨b, hb⟩ : ∃ b, a = b + 5 := ⟨a - 5, by omega⟩
      rw [hb]
      rfl
theorem sRn_bx : sRn = bx_r := by
  rw [sRn_u2]
  funext a j
  by_cases k : (a, j) ∈ st_ks
  · exact st_rk (a, j) k
  by_cases c : a < 137
  · have e : bx_r a j = none := by
      apply Decidable.byContradiction
      intro u
      have := rok_s (bx_rl.getD a []) 0 j (st_rok a c) u
      rw [Nat.zero_add] at this
      exact k this
    rw [u2l_no _ _ _ _ (fun p hp u => k (List.mem_cons_of_mem _ (List.mem_cons_of_mem _ (List.mem_map.mpr ⟨p, hp, by rw [← u.1, ← u.2]⟩)))), e]
    unfold sR0
    split
    · exact absurd List.mem_cons_self k
    · exact absurd (List.mem_cons_of_mem _ List.mem_cons_self) k
    · rfl
  · rw [u2l_no _ _ _ _ (fun p hp u => by have := st_rlb p hp; omega)]
    have e : bx_r a j = none := by
      have : bx_rl.getD a [] = [] := getD_far _ _ _ (by rw [bx_rll]; omega)
      unfold bx_r
      rw [this]
      rfl
    rw [e]
    unfold sR0
    split
    · omega
    · omega
    · rfl
variable {L : Nat} {xs : Nat → Int}
theorem sSn_row {a : Nat} (h : a ≠ 30) : sSn L xs a = sS0 L xs a := by
  unfold sSn
  show sS11 L xs a = _
  unfold sS11 sS10 sS9 sS8 sS7 sS6 sS5 sS4 sS3 sS2 sS1
  rw [u2_row _ _ _ h, u2_row _ _ _ h, u2_row _ _ _ h, u2_row _ _ _ h, u2_row _ _ _ h, u2_row _ _ _ h, u2_row _ _ _ h, u2_row _ _ _ h, u2_row _ _ _ h, u2_row _ _ _ h, u2_row _ _ _ h]
theorem sSn_0 {a : Nat} (h : 5 < a) (h' : a ≠ 30) : sSn L xs a = fun _ => 0 := by
  rw [sSn_row h']
  funext j
  obtain ⟨b, hb⟩ : ∃ b, a = b + 6 := ⟨a - 6, by omega⟩
  rw [hb]
  rfl
theorem giv_0 : GIV (sSn L xs) := by
  have z : ∀ a j, 5 < a → a ≠ 30 → sSn L xs a j = 0 := fun a j u v => by rw [sSn_0 u v]
  refine ⟨⟨⟨?_, ?_, ?_, ?_, ?_⟩, z 31 9 (by decide) (by decide), z 31 10 (by decide) (by decide), ⟨0, z 31 8 (by decide) (by decide), by decide⟩, Or.inl ⟨z 31 7 (by decide) (by decide), by decide, fun q _ => by rw [z 32 q (by decide) (by decide)]; exact ⟨by decide, by decide⟩, fun k hk => absurd hk (by omega), fun q _ u => absurd (z 32 q (by decide) (by decide)) u, fun k hk => absurd hk (by omega), fun k l hk => absurd hk (by omega)⟩⟩, ⟨0, z 27 1 (by decide) (by decide), by decide, z 84 1 (by decide) (by decide), fun i hi => absurd hi (by omega)⟩, ⟨0, z 82 2 (by decide) (by decide), by decide, z 84 9 (by decide) (by decide), fun i hi => absurd hi (by omega)⟩, Or.inl ⟨z 27 2 (by decide) (by decide), z 84 5 (by decide) (by decide), z 54 6 (by decide) (by decide), z 46 7 (by decide) (by decide), z 39 9 (by decide) (by decide)⟩, ?_, ?_, ⟨fun u => absurd u (by rw [z 84 6 (by decide) (by decide)]; decide), fun _ => z 74 13 (by decide) (by decide)⟩⟩
  · rw [sSn_row (by decide)]; rfl
  · rw [sSn_row (by decide)]; rfl
  · rw [sSn_row (by decide)]
    exact fun k hk => rfl
  · rw [sSn_row (by decide)]
    exact fun k hk => rfl
  · rw [sSn_row (by decide)]
    exact fun k hk => rfl
  · unfold RB
    rw [z 74 13 (by decide) (by decide)]
    decide
  · unfold RM
    rw [z 84 72 (by decide) (by decide)]
    decide
/-- THE LAW, every script -/
theorem law_all (hL : L ≤ 2560) : ∃ (F : Nat) (h' : ax_H), ax_ev F 226 279 [.inr (.inr (some 0))] (sH0 L xs) = some (.inl (some (.inl 1)), h') ∧ h'.1 ≤ 1136 ∧ h'.2.1 ≤ 599348 := by
  have k0 := lop hL 512 0 0 (sSn L xs) (by omega) giv_0
  have k1 := bl_279_23 (B := 1026) 513 0 (fun _ => 0) none none none 0 (sSn L xs) 1 (by omega) k0
  have e : sH252 L xs = hp L (sSn L xs) 0 (fun _ => 0) := by
    show (110, 593192, sKn L, sSn L xs, sRn, fun _ => 0) = _
    rw [sKn_bx, sRn_bx]
    rfl
  rw [← e] at k1
  have k2 := st_law k1
  have k3 : EvP 226 279 [.inr (.inr (some 0))] (sH0 L xs) (oL L 1026 1) := EvP.of (μ := tb_m279) rfl (Nat.le_of_ble_eq_true rfl) rfl k2
  obtain ⟨o, h', ⟨F, k4⟩, rfl, s, c', e', k5, k6⟩ := k3
  refine ⟨F, h', k4, ?_, ?_⟩
  · rw [k6]
    show 110 + c' ≤ 1136
    omega
  · rw [k6]
    show 593192 + 6 * c' ≤ 599348
    omega
end BEG
/-! THE LINKS ARE WORDS OF THE TABLES: a row each. -/
theorem tb_i1 {w : Cond} (h : w ∈ tables_1_1) : w ∈ lw_tbl := List.mem_append_right _ (show w ∈ tables_1 from List.mem_append_left _ h)
theorem tb_i2 {w : Cond} (h : w ∈ tables_1_2) : w ∈ lw_tbl := List.mem_append_right _ (show w ∈ tables_1 from List.mem_append_right _ (List.mem_append_left _ h))
theorem tb_i3 {w : Cond} (h : w ∈ tables_1_3) : w ∈ lw_tbl := List.mem_append_right _ (show w ∈ tables_1 from List.mem_append_right _ (List.mem_append_right _ (List.mem_append_left _ h)))
theorem tb_i4 {w : Cond} (h : w ∈ tables_1_4) : w ∈ lw_tbl := List.mem_append_right _ (show w ∈ tables_1 from List.mem_append_right _ (List.mem_append_right _ (List.mem_append_right _ (List.mem_append_left _ h))))
theorem tb_i5 {w : Cond} (h : w ∈ tables_1_5) : w ∈ lw_tbl := List.mem_append_right _ (show w ∈ tables_1 from List.mem_append_right _ (List.mem_append_right _ (List.mem_append_right _ (List.mem_append_right _ (List.mem_append_left _ h)))))
theorem tb_i6 {w : Cond} (h : w ∈ tables_1_6) : w ∈ lw_tbl := List.mem_append_right _ (show w ∈ tables_1 from List.mem_append_right _ (List.mem_append_right _ (List.mem_append_right _ (List.mem_append_right _ (List.mem_append_right _ (List.mem_append_left _ h))))))
theorem tb_i7 {w : Cond} (h : w ∈ tables_1_7) : w ∈ lw_tbl := List.mem_append_right _ (show w ∈ tables_1 from List.mem_append_right _ (List.mem_append_right _ (List.mem_append_right _ (List.mem_append_right _ (List.mem_append_right _ (List.mem_append_right _ (List.mem_append_left _ h)))))))
theorem tb_i8 {w : Cond} (h : w ∈ tables_1_8) : w ∈ lw_tbl := List.mem_append_right _ (show w ∈ tables_1 from List.mem_append_right _ (List.mem_append_right _ (List.mem_append_right _ (List.mem_append_right _ (List.mem_append_right _ (List.mem_append_right _ (List.mem_append_right _ (List.mem_append_left _ h))))))))
theorem tb_i9 {w : Cond} (h : w ∈ tables_1_9) : w ∈ lw_tbl := List.mem_append_right _ (show w ∈ tables_1 from List.mem_append_right _ (List.mem_append_right _ (List.mem_append_right _ (List.mem_append_right _ (List.mem_append_right _ (List.mem_append_right _ (List.mem_append_right _ (List.mem_append_right _ (h)))))))))
theorem tb_is {w : Cond} (h : w ∈ k2_sels lw_privs) : w ∈ lw_tbl := List.mem_append_left _ h
set_option maxRecDepth 20000 in
theorem lk_0 : lk_ok (13, 0, 3, 0, 0, 0) := tb_i1 (List.mem_of_getElem? (i := 34) rfl)
set_option maxRecDepth 20000 in
theorem lk_1 : lk_ok (1, 0, 9, 0, 0, 0) := tb_i2 (List.mem_of_getElem? (i := 173) rfl)
set_option maxRecDepth 20000 in
theorem lk_2 : lk_ok (9, 0, 13, 0, 4, 0) := tb_i1 (List.mem_of_getElem? (i := 37) rfl)
set_option maxRecDepth 20000 in
theorem lk_3 : lk_ok (11, 0, 15, 0, 67, 0) := tb_i1 (List.mem_of_getElem? (i := 39) rfl)
set_option maxRecDepth 20000 in
theorem lk_4 : lk_ok (1, 0, 16, 0, 3, 0) := tb_i2 (List.mem_of_getElem? (i := 176) rfl)
set_option maxRecDepth 20000 in
theorem lk_5 : lk_ok (9, 0, 20, 0, 6, 0) := tb_i1 (List.mem_of_getElem? (i := 52) rfl)
set_option maxRecDepth 20000 in
theorem lk_6 : lk_ok (12, 0, 22, 0, 100, 0) := tb_i1 (List.mem_of_getElem? (i := 54) rfl)
set_option maxRecDepth 20000 in
theorem lk_7 : lk_ok (1, 0, 23, 0, 4, 0) := tb_i2 (List.mem_of_getElem? (i := 177) rfl)
set_option maxRecDepth 20000 in
theorem lk_8 : lk_ok (9, 0, 27, 0, 5, 0) := tb_i1 (List.mem_of_getElem? (i := 94) rfl)
set_option maxRecDepth 20000 in
theorem lk_9 : lk_ok (11, 0, 29, 0, 72, 0) := tb_i1 (List.mem_of_getElem? (i := 96) rfl)
set_option maxRecDepth 20000 in
theorem lk_10 : lk_ok (1, 0, 32, 0, 5, 0) := tb_i2 (List.mem_of_getElem? (i := 178) rfl)
set_option maxRecDepth 20000 in
theorem lk_11 : lk_ok (9, 0, 36, 0, 7, 0) := tb_i1 (List.mem_of_getElem? (i := 145) rfl)
set_option maxRecDepth 20000 in
theorem lk_12 : lk_ok (12, 0, 38, 0, 112, 0) := tb_i1 (List.mem_of_getElem? (i := 147) rfl)
set_option maxRecDepth 20000 in
theorem lk_13 : lk_ok (1, 0, 39, 0, 6, 0) := tb_i2 (List.mem_of_getElem? (i := 179) rfl)
set_option maxRecDepth 20000 in
theorem lk_14 : lk_ok (9, 0, 43, 0, 11, 0) := tb_i1 (List.mem_of_getElem? (i := 179) rfl)
set_option maxRecDepth 20000 in
theorem lk_15 : lk_ok (12, 0, 45, 0, 179, 0) := tb_i1 (List.mem_of_getElem? (i := 181) rfl)
set_option maxRecDepth 20000 in
theorem lk_16 : lk_ok (1, 0, 46, 0, 7, 0) := tb_i2 (List.mem_of_getElem? (i := 180) rfl)
set_option maxRecDepth 20000 in
theorem lk_17 : lk_ok (9, 0, 50, 0, 2, 0) := tb_i1 (List.mem_of_getElem? (i := 215) rfl)
set_option maxRecDepth 20000 in
theorem lk_18 : lk_ok (12, 0, 52, 0, 32, 0) := tb_i1 (List.mem_of_getElem? (i := 217) rfl)
set_option maxRecDepth 20000 in
theorem lk_19 : lk_ok (1, 0, 53, 0, 8, 0) := tb_i2 (List.mem_of_getElem? (i := 181) rfl)
set_option maxRecDepth 20000 in
theorem lk_20 : lk_ok (9, 0, 57, 0, 3, 0) := tb_i1 (List.mem_of_getElem? (i := 238) rfl)
set_option maxRecDepth 20000 in
theorem lk_21 : lk_ok (11, 0, 59, 0, 43, 0) := tb_i2 (List.mem_of_getElem? (i := 0) rfl)
set_option maxRecDepth 20000 in
theorem lk_22 : lk_ok (1, 0, 62, 0, 9, 0) := tb_i2 (List.mem_of_getElem? (i := 182) rfl)
set_option maxRecDepth 20000 in
theorem lk_23 : lk_ok (9, 0, 66, 0, 9, 0) := tb_i2 (List.mem_of_getElem? (i := 45) rfl)
set_option maxRecDepth 20000 in
theorem lk_24 : lk_ok (11, 0, 68, 0, 139, 0) := tb_i2 (List.mem_of_getElem? (i := 47) rfl)
set_option maxRecDepth 20000 in
theorem lk_25 : lk_ok (1, 0, 71, 0, 10, 0) := tb_i2 (List.mem_of_getElem? (i := 183) rfl)
set_option maxRecDepth 20000 in
theorem lk_26 : lk_ok (9, 0, 75, 0, 1, 0) := tb_i2 (List.mem_of_getElem? (i := 82) rfl)
set_option maxRecDepth 20000 in
theorem lk_27 : lk_ok (11, 0, 77, 0, 17, 0) := tb_i2 (List.mem_of_getElem? (i := 84) rfl)
set_option maxRecDepth 20000 in
theorem lk_28 : lk_ok (1, 0, 80, 0, 11, 0) := tb_i2 (List.mem_of_getElem? (i := 184) rfl)
set_option maxRecDepth 20000 in
theorem lk_29 : lk_ok (9, 0, 84, 0, 10, 0) := tb_i2 (List.mem_of_getElem? (i := 107) rfl)
set_option maxRecDepth 20000 in
theorem lk_30 : lk_ok (11, 0, 86, 0, 160, 0) := tb_i2 (List.mem_of_getElem? (i := 109) rfl)
set_option maxRecDepth 20000 in
theorem lk_31 : lk_ok (1, 0, 89, 0, 12, 0) := tb_i2 (List.mem_of_getElem? (i := 185) rfl)
set_option maxRecDepth 20000 in
theorem lk_32 : lk_ok (9, 0, 93, 0, 8, 0) := tb_i2 (List.mem_of_getElem? (i := 156) rfl)
set_option maxRecDepth 20000 in
theorem lk_33 : lk_ok (11, 0, 95, 0, 127, 0) := tb_i2 (List.mem_of_getElem? (i := 158) rfl)
set_option maxRecDepth 20000 in
theorem lk_34 : lk_ok (1, 0, 98, 0, 13, 0) := tb_i2 (List.mem_of_getElem? (i := 186) rfl)
set_option maxRecDepth 20000 in
theorem lk_35 : lk_ok (1, 0, 102, 0, 1, 0) := tb_i2 (List.mem_of_getElem? (i := 174) rfl)
set_option maxRecDepth 20000 in
theorem lk_36 : lk_ok (2, 0, 234, 5, 9, 0) := tb_i1 (List.mem_of_getElem? (i := 112) rfl)
set_option maxRecDepth 20000 in
theorem lk_37 : lk_ok (2, 0, 152, 11, 6, 0) := tb_i1 (List.mem_of_getElem? (i := 192) rfl)
set_option maxRecDepth 20000 in
theorem lk_38 : lk_ok (2, 0, 185, 7, 7, 0) := tb_i1 (List.mem_of_getElem? (i := 160) rfl)
set_option maxRecDepth 20000 in
theorem lk_39 : lk_ok (2, 0, 221, 8, 2, 0) := tb_i2 (List.mem_of_getElem? (i := 165) rfl)
set_option maxRecDepth 20000 in
theorem lk_40 : lk_ok (10, 0, 106, 1, 14, 0) := tb_i2 (List.mem_of_getElem? (i := 228) rfl)
set_option maxRecDepth 20000 in
theorem lk_41 : lk_ok (7, 0, 108, 1, 6, 0) := tb_i3 (List.mem_of_getElem? (i := 29) rfl)
set_option maxRecDepth 20000 in
theorem lk_42 : lk_ok (15, 0, 110, 0, 14, 0) := tb_i3 (List.mem_of_getElem? (i := 30) rfl)
set_option maxRecDepth 20000 in
theorem lk_43 : lk_ok (11, 0, 113, 0, 13, 0) := tb_i3 (List.mem_of_getElem? (i := 55) rfl)
set_option maxRecDepth 20000 in
theorem lk_44 : lk_ok (10, 0, 117, 1, 15, 0) := tb_i3 (List.mem_of_getElem? (i := 67) rfl)
set_option maxRecDepth 20000 in
theorem lk_45 : lk_ok (7, 0, 119, 1, 7, 0) := tb_i3 (List.mem_of_getElem? (i := 76) rfl)
set_option maxRecDepth 20000 in
theorem lk_46 : lk_ok (15, 0, 121, 0, 15, 0) := tb_i3 (List.mem_of_getElem? (i := 77) rfl)
set_option maxRecDepth 20000 in
theorem lk_47 : lk_ok (7, 0, 122, 1, 8, 0) := tb_i3 (List.mem_of_getElem? (i := 83) rfl)
set_option maxRecDepth 20000 in
theorem lk_48 : lk_ok (11, 0, 124, 0, 14, 0) := tb_i3 (List.mem_of_getElem? (i := 91) rfl)
set_option maxRecDepth 20000 in
theorem lk_49 : lk_ok (11, 0, 127, 0, 73, 0) := tb_i3 (List.mem_of_getElem? (i := 209) rfl)
set_option maxRecDepth 20000 in
theorem lk_50 : lk_ok (11, 0, 131, 0, 15, 0) := tb_i4 (List.mem_of_getElem? (i := 96) rfl)
set_option maxRecDepth 20000 in
theorem lk_51 : lk_ok (11, 0, 134, 0, 16, 0) := tb_i5 (List.mem_of_getElem? (i := 181) rfl)
set_option maxRecDepth 20000 in
theorem lk_52 : lk_ok (11, 0, 137, 0, 68, 0) := tb_i5 (List.mem_of_getElem? (i := 185) rfl)
set_option maxRecDepth 20000 in
theorem lk_53 : lk_ok (1, 0, 141, 0, 2, 0) := tb_i2 (List.mem_of_getElem? (i := 175) rfl)
set_option maxRecDepth 20000 in
theorem lk_54 : lk_ok (11, 0, 145, 0, 74, 0) := tb_i3 (List.mem_of_getElem? (i := 181) rfl)
set_option maxRecDepth 20000 in
theorem lk_55 : lk_ok (11, 0, 148, 0, 113, 0) := tb_i3 (List.mem_of_getElem? (i := 185) rfl)
set_option maxRecDepth 20000 in
theorem lk_56 : lk_ok (11, 0, 149, 0, 180, 0) := tb_i3 (List.mem_of_getElem? (i := 189) rfl)
set_option maxRecDepth 20000 in
theorem lk_57 : lk_ok (7, 0, 150, 1, 17, 0) := tb_i6 (List.mem_of_getElem? (i := 153) rfl)
set_option maxRecDepth 20000 in
theorem lk_58 : lk_ok (11, 0, 155, 0, 69, 0) := tb_i6 (List.mem_of_getElem? (i := 162) rfl)
set_option maxRecDepth 20000 in
theorem lk_59 : lk_ok (10, 0, 158, 1, 16, 0) := tb_i6 (List.mem_of_getElem? (i := 166) rfl)
set_option maxRecDepth 20000 in
theorem lk_60 : lk_ok (7, 0, 160, 1, 18, 0) := tb_i6 (List.mem_of_getElem? (i := 175) rfl)
set_option maxRecDepth 20000 in
theorem lk_61 : lk_ok (15, 0, 162, 0, 16, 0) := tb_i6 (List.mem_of_getElem? (i := 176) rfl)
set_option maxRecDepth 20000 in
theorem lk_62 : lk_ok (11, 0, 163, 0, 181, 0) := tb_i6 (List.mem_of_getElem? (i := 189) rfl)
set_option maxRecDepth 20000 in
theorem lk_63 : lk_ok (7, 0, 167, 1, 19, 0) := tb_i6 (List.mem_of_getElem? (i := 190) rfl)
set_option maxRecDepth 20000 in
theorem lk_64 : lk_ok (11, 0, 169, 0, 182, 0) := tb_i6 (List.mem_of_getElem? (i := 191) rfl)
set_option maxRecDepth 20000 in
theorem lk_65 : lk_ok (11, 0, 173, 0, 183, 0) := tb_i6 (List.mem_of_getElem? (i := 192) rfl)
set_option maxRecDepth 20000 in
theorem lk_66 : lk_ok (11, 0, 176, 0, 184, 0) := tb_i6 (List.mem_of_getElem? (i := 193) rfl)
set_option maxRecDepth 20000 in
theorem lk_67 : lk_ok (11, 0, 179, 0, 185, 0) := tb_i6 (List.mem_of_getElem? (i := 194) rfl)
set_option maxRecDepth 20000 in
theorem lk_68 : lk_ok (11, 0, 182, 0, 186, 0) := tb_i6 (List.mem_of_getElem? (i := 198) rfl)
set_option maxRecDepth 20000 in
theorem lk_69 : lk_ok (7, 0, 186, 1, 20, 0) := tb_i6 (List.mem_of_getElem? (i := 209) rfl)
set_option maxRecDepth 20000 in
theorem lk_70 : lk_ok (11, 0, 188, 0, 187, 0) := tb_i6 (List.mem_of_getElem? (i := 210) rfl)
set_option maxRecDepth 20000 in
theorem lk_71 : lk_ok (11, 0, 191, 0, 75, 0) := tb_i6 (List.mem_of_getElem? (i := 211) rfl)
set_option maxRecDepth 20000 in
theorem lk_72 : lk_ok (11, 0, 195, 0, 114, 0) := tb_i6 (List.mem_of_getElem? (i := 222) rfl)
set_option maxRecDepth 20000 in
theorem lk_73 : lk_ok (7, 0, 196, 1, 21, 0) := tb_i6 (List.mem_of_getElem? (i := 223) rfl)
set_option maxRecDepth 20000 in
theorem lk_74 : lk_ok (11, 0, 198, 0, 115, 0) := tb_i6 (List.mem_of_getElem? (i := 224) rfl)
set_option maxRecDepth 20000 in
theorem lk_75 : lk_ok (11, 0, 201, 0, 116, 0) := tb_i6 (List.mem_of_getElem? (i := 225) rfl)
set_option maxRecDepth 20000 in
theorem lk_76 : lk_ok (11, 0, 202, 0, 117, 0) := tb_i6 (List.mem_of_getElem? (i := 226) rfl)
set_option maxRecDepth 20000 in
theorem lk_77 : lk_ok (11, 0, 203, 0, 118, 0) := tb_i6 (List.mem_of_getElem? (i := 227) rfl)
set_option maxRecDepth 20000 in
theorem lk_78 : lk_ok (11, 0, 206, 0, 119, 0) := tb_i6 (List.mem_of_getElem? (i := 228) rfl)
set_option maxRecDepth 20000 in
theorem lk_79 : lk_ok (11, 0, 210, 0, 161, 0) := tb_i6 (List.mem_of_getElem? (i := 236) rfl)
set_option maxRecDepth 20000 in
theorem lk_80 : lk_ok (7, 0, 211, 1, 22, 0) := tb_i7 (List.mem_of_getElem? (i := 0) rfl)
set_option maxRecDepth 20000 in
theorem lk_81 : lk_ok (11, 0, 213, 0, 162, 0) := tb_i7 (List.mem_of_getElem? (i := 1) rfl)
set_option maxRecDepth 20000 in
theorem lk_82 : lk_ok (7, 0, 216, 1, 23, 0) := tb_i7 (List.mem_of_getElem? (i := 13) rfl)
set_option maxRecDepth 20000 in
theorem lk_83 : lk_ok (11, 0, 218, 0, 128, 0) := tb_i7 (List.mem_of_getElem? (i := 14) rfl)
set_option maxRecDepth 20000 in
theorem lk_84 : lk_ok (11, 0, 222, 0, 129, 0) := tb_i7 (List.mem_of_getElem? (i := 61) rfl)
set_option maxRecDepth 20000 in
theorem lk_85 : lk_ok (7, 0, 223, 1, 24, 0) := tb_i7 (List.mem_of_getElem? (i := 65) rfl)
set_option maxRecDepth 20000 in
theorem lk_86 : lk_ok (11, 0, 225, 0, 130, 0) := tb_i7 (List.mem_of_getElem? (i := 66) rfl)
set_option maxRecDepth 20000 in
theorem lk_87 : lk_ok (7, 0, 228, 1, 25, 0) := tb_i7 (List.mem_of_getElem? (i := 78) rfl)
set_option maxRecDepth 20000 in
theorem lk_88 : lk_ok (11, 0, 230, 0, 131, 0) := tb_i7 (List.mem_of_getElem? (i := 79) rfl)
set_option maxRecDepth 20000 in
theorem lk_89 : lk_ok (11, 0, 235, 0, 70, 0) := tb_i3 (List.mem_of_getElem? (i := 95) rfl)
set_option maxRecDepth 20000 in
theorem lk_90 : lk_ok (11, 0, 236, 0, 101, 0) := tb_i3 (List.mem_of_getElem? (i := 99) rfl)
set_option maxRecDepth 20000 in
theorem lk_91 : lk_ok (11, 0, 237, 0, 33, 0) := tb_i3 (List.mem_of_getElem? (i := 193) rfl)
set_option maxRecDepth 20000 in
theorem lk_92 : lk_ok (11, 0, 238, 0, 44, 0) := tb_i3 (List.mem_of_getElem? (i := 197) rfl)
set_option maxRecDepth 20000 in
theorem lk_93 : lk_ok (11, 0, 239, 0, 140, 0) := tb_i3 (List.mem_of_getElem? (i := 201) rfl)
set_option maxRecDepth 20000 in
theorem lk_94 : lk_ok (11, 0, 240, 0, 163, 0) := tb_i3 (List.mem_of_getElem? (i := 205) rfl)
set_option maxRecDepth 20000 in
theorem lk_95 : lk_ok (11, 0, 253, 0, 141, 0) := tb_i4 (List.mem_of_getElem? (i := 100) rfl)
set_option maxRecDepth 20000 in
theorem lk_96 : lk_ok (11, 0, 256, 0, 142, 0) := tb_i4 (List.mem_of_getElem? (i := 129) rfl)
set_option maxRecDepth 20000 in
theorem lk_97 : lk_ok (11, 0, 260, 0, 143, 0) := tb_i4 (List.mem_of_getElem? (i := 133) rfl)
set_option maxRecDepth 20000 in
theorem lk_98 : lk_ok (11, 0, 263, 0, 144, 0) := tb_i4 (List.mem_of_getElem? (i := 137) rfl)
set_option maxRecDepth 20000 in
theorem lk_99 : lk_ok (11, 0, 266, 0, 145, 0) := tb_i5 (List.mem_of_getElem? (i := 106) rfl)
set_option maxRecDepth 20000 in
theorem lk_100 : lk_ok (2, 0, 269, 5, 10, 0) := tb_i1 (List.mem_of_getElem? (i := 116) rfl)
set_option maxRecDepth 20000 in
theorem lk_101 : lk_ok (11, 0, 272, 0, 80, 0) := tb_i5 (List.mem_of_getElem? (i := 179) rfl)
set_option maxRecDepth 20000 in
theorem lk_102 : lk_ok (11, 0, 275, 0, 71, 0) := tb_i5 (List.mem_of_getElem? (i := 180) rfl)
set_option maxRecDepth 20000 in
theorem lk_103 : lk_ok (16, 0, 117, 0, 15, 0) := tb_i3 (List.mem_of_getElem? (i := 67) rfl)
set_option maxRecDepth 20000 in
theorem lk_104 : lk_ok (16, 0, 106, 0, 14, 0) := tb_i2 (List.mem_of_getElem? (i := 228) rfl)
set_option maxRecDepth 20000 in
theorem lk_105 : lk_ok (11, 0, 241, 0, 18, 0) := tb_i5 (List.mem_of_getElem? (i := 189) rfl)
set_option maxRecDepth 20000 in
theorem lk_106 : lk_ok (11, 0, 244, 0, 164, 0) := tb_i6 (List.mem_of_getElem? (i := 6) rfl)
set_option maxRecDepth 20000 in
theorem lk_107 : lk_ok (11, 0, 247, 0, 19, 0) := tb_i6 (List.mem_of_getElem? (i := 76) rfl)
set_option maxRecDepth 20000 in
theorem lk_108 : lk_ok (11, 0, 250, 0, 20, 0) := tb_i6 (List.mem_of_getElem? (i := 149) rfl)
set_option maxRecDepth 20000 in
theorem lk_109 : lk_ok (13, 1, 3, 0, 0, 0) := tb_i2 (List.mem_of_getElem? (i := 87) rfl)
set_option maxRecDepth 20000 in
theorem lk_110 : lk_ok (1, 1, 9, 1, 0, 0) := tb_i2 (List.mem_of_getElem? (i := 88) rfl)
set_option maxRecDepth 20000 in
theorem lk_111 : lk_ok (1, 1, 15, 1, 1, 0) := tb_i2 (List.mem_of_getElem? (i := 89) rfl)
set_option maxRecDepth 20000 in
theorem lk_112 : lk_ok (1, 1, 19, 1, 2, 0) := tb_i2 (List.mem_of_getElem? (i := 90) rfl)
set_option maxRecDepth 20000 in
theorem lk_113 : lk_ok (1, 1, 23, 1, 3, 0) := tb_i2 (List.mem_of_getElem? (i := 91) rfl)
set_option maxRecDepth 20000 in
theorem lk_114 : lk_ok (1, 1, 27, 1, 4, 0) := tb_i2 (List.mem_of_getElem? (i := 92) rfl)
set_option maxRecDepth 20000 in
theorem lk_115 : lk_ok (1, 1, 31, 1, 5, 0) := tb_i2 (List.mem_of_getElem? (i := 93) rfl)
set_option maxRecDepth 20000 in
theorem lk_116 : lk_ok (2, 1, 35, 7, 7, 0) := tb_i1 (List.mem_of_getElem? (i := 159) rfl)
set_option maxRecDepth 20000 in
theorem lk_117 : lk_ok (11, 1, 41, 0, 116, 0) := tb_i5 (List.mem_of_getElem? (i := 193) rfl)
set_option maxRecDepth 20000 in
theorem lk_118 : lk_ok (11, 1, 45, 0, 117, 0) := tb_i5 (List.mem_of_getElem? (i := 194) rfl)
set_option maxRecDepth 20000 in
theorem lk_119 : lk_ok (11, 1, 48, 0, 122, 0) := tb_i5 (List.mem_of_getElem? (i := 198) rfl)
set_option maxRecDepth 20000 in
theorem lk_120 : lk_ok (11, 1, 51, 0, 118, 0) := tb_i5 (List.mem_of_getElem? (i := 202) rfl)
set_option maxRecDepth 20000 in
theorem lk_121 : lk_ok (11, 1, 54, 0, 21, 0) := tb_i5 (List.mem_of_getElem? (i := 206) rfl)
set_option maxRecDepth 20000 in
theorem lk_122 : lk_ok (2, 1, 58, 2, 4, 0) := tb_i1 (List.mem_of_getElem? (i := 226) rfl)
set_option maxRecDepth 20000 in
theorem lk_123 : lk_ok (11, 1, 61, 0, 34, 0) := tb_i5 (List.mem_of_getElem? (i := 230) rfl)
set_option maxRecDepth 20000 in
theorem lk_124 : lk_ok (11, 1, 65, 0, 35, 0) := tb_i5 (List.mem_of_getElem? (i := 238) rfl)
set_option maxRecDepth 20000 in
theorem lk_125 : lk_ok (11, 1, 68, 0, 36, 0) := tb_i6 (List.mem_of_getElem? (i := 2) rfl)
set_option maxRecDepth 20000 in
theorem lk_126 : lk_ok (11, 1, 103, 0, 22, 0) := tb_i6 (List.mem_of_getElem? (i := 80) rfl)
set_option maxRecDepth 20000 in
theorem lk_127 : lk_ok (11, 1, 106, 0, 23, 0) := tb_i6 (List.mem_of_getElem? (i := 92) rfl)
set_option maxRecDepth 20000 in
theorem lk_128 : lk_ok (11, 1, 107, 0, 123, 0) := tb_i6 (List.mem_of_getElem? (i := 132) rfl)
set_option maxRecDepth 20000 in
theorem lk_129 : lk_ok (11, 1, 74, 0, 80, 0) := tb_i5 (List.mem_of_getElem? (i := 216) rfl)
set_option maxRecDepth 20000 in
theorem lk_130 : lk_ok (11, 1, 79, 0, 71, 0) := tb_i5 (List.mem_of_getElem? (i := 217) rfl)
set_option maxRecDepth 20000 in
theorem lk_131 : lk_ok (11, 1, 110, 0, 24, 0) := tb_i6 (List.mem_of_getElem? (i := 133) rfl)
set_option maxRecDepth 20000 in
theorem lk_132 : lk_ok (11, 1, 113, 0, 25, 0) := tb_i6 (List.mem_of_getElem? (i := 141) rfl)
set_option maxRecDepth 20000 in
theorem lk_133 : lk_ok (2, 1, 160, 11, 6, 0) := tb_i1 (List.mem_of_getElem? (i := 194) rfl)
set_option maxRecDepth 20000 in
theorem lk_134 : lk_ok (11, 1, 89, 0, 182, 0) := tb_i5 (List.mem_of_getElem? (i := 222) rfl)
set_option maxRecDepth 20000 in
theorem lk_135 : lk_ok (11, 1, 122, 0, 183, 0) := tb_i6 (List.mem_of_getElem? (i := 96) rfl)
set_option maxRecDepth 20000 in
theorem lk_136 : lk_ok (2, 1, 161, 11, 7, 0) := tb_i1 (List.mem_of_getElem? (i := 197) rfl)
set_option maxRecDepth 20000 in
theorem lk_137 : lk_ok (11, 1, 147, 0, 187, 0) := tb_i6 (List.mem_of_getElem? (i := 112) rfl)
set_option maxRecDepth 20000 in
theorem lk_138 : lk_ok (11, 1, 71, 0, 26, 0) := tb_i5 (List.mem_of_getElem? (i := 210) rfl)
set_option maxRecDepth 20000 in
theorem lk_139 : lk_ok (11, 1, 85, 0, 27, 0) := tb_i5 (List.mem_of_getElem? (i := 218) rfl)
set_option maxRecDepth 20000 in
theorem lk_140 : lk_ok (11, 1, 116, 0, 120, 0) := tb_i6 (List.mem_of_getElem? (i := 84) rfl)
set_option maxRecDepth 20000 in
theorem lk_141 : lk_ok (11, 1, 119, 0, 121, 0) := tb_i6 (List.mem_of_getElem? (i := 88) rfl)
set_option maxRecDepth 20000 in
theorem lk_142 : lk_ok (11, 1, 123, 0, 28, 0) := tb_i6 (List.mem_of_getElem? (i := 100) rfl)
set_option maxRecDepth 20000 in
theorem lk_143 : lk_ok (11, 1, 126, 0, 29, 0) := tb_i6 (List.mem_of_getElem? (i := 108) rfl)
set_option maxRecDepth 20000 in
theorem lk_144 : lk_ok (11, 1, 129, 0, 30, 0) := tb_i6 (List.mem_of_getElem? (i := 114) rfl)
set_option maxRecDepth 20000 in
theorem lk_145 : lk_ok (11, 1, 132, 0, 115, 0) := tb_i6 (List.mem_of_getElem? (i := 118) rfl)
set_option maxRecDepth 20000 in
theorem lk_146 : lk_ok (11, 1, 135, 0, 119, 0) := tb_i6 (List.mem_of_getElem? (i := 122) rfl)
set_option maxRecDepth 20000 in
theorem lk_147 : lk_ok (11, 1, 139, 0, 31, 0) := tb_i6 (List.mem_of_getElem? (i := 128) rfl)
set_option maxRecDepth 20000 in
theorem lk_148 : lk_ok (11, 1, 154, 0, 40, 0) := tb_i6 (List.mem_of_getElem? (i := 137) rfl)
set_option maxRecDepth 20000 in
theorem lk_149 : lk_ok (11, 1, 157, 0, 41, 0) := tb_i6 (List.mem_of_getElem? (i := 145) rfl)
set_option maxRecDepth 20000 in
theorem lk_150 : lk_ok (11, 1, 95, 0, 97, 0) := tb_i5 (List.mem_of_getElem? (i := 214) rfl)
set_option maxRecDepth 20000 in
theorem lk_151 : lk_ok (11, 1, 98, 0, 109, 0) := tb_i5 (List.mem_of_getElem? (i := 215) rfl)
set_option maxRecDepth 20000 in
theorem lk_152 : lk_ok (11, 1, 92, 0, 184, 0) := tb_i5 (List.mem_of_getElem? (i := 226) rfl)
set_option maxRecDepth 20000 in
theorem lk_153 : lk_ok (11, 1, 142, 0, 295, 0) := tb_i6 (List.mem_of_getElem? (i := 104) rfl)
set_option maxRecDepth 20000 in
theorem lk_154 : lk_ok (11, 1, 150, 0, 81, 0) := tb_i6 (List.mem_of_getElem? (i := 113) rfl)
set_option maxRecDepth 20000 in
theorem lk_155 : lk_ok (13, 2, 3, 0, 0, 0) := tb_i1 (List.mem_of_getElem? (i := 220) rfl)
set_option maxRecDepth 20000 in
theorem lk_156 : lk_ok (1, 2, 9, 2, 0, 0) := tb_i1 (List.mem_of_getElem? (i := 221) rfl)
set_option maxRecDepth 20000 in
theorem lk_157 : lk_ok (1, 2, 15, 2, 1, 0) := tb_i1 (List.mem_of_getElem? (i := 222) rfl)
set_option maxRecDepth 20000 in
theorem lk_158 : lk_ok (1, 2, 18, 2, 2, 0) := tb_i1 (List.mem_of_getElem? (i := 223) rfl)
set_option maxRecDepth 20000 in
theorem lk_159 : lk_ok (1, 2, 21, 2, 3, 0) := tb_i1 (List.mem_of_getElem? (i := 224) rfl)
set_option maxRecDepth 20000 in
theorem lk_160 : lk_ok (1, 2, 24, 2, 4, 0) := tb_i1 (List.mem_of_getElem? (i := 225) rfl)
set_option maxRecDepth 20000 in
theorem lk_161 : lk_ok (11, 2, 38, 0, 39, 0) := tb_i5 (List.mem_of_getElem? (i := 234) rfl)
set_option maxRecDepth 20000 in
theorem lk_162 : lk_ok (11, 2, 28, 0, 42, 0) := tb_i5 (List.mem_of_getElem? (i := 77) rfl)
set_option maxRecDepth 20000 in
theorem lk_163 : lk_ok (11, 2, 32, 0, 292, 0) := tb_i5 (List.mem_of_getElem? (i := 89) rfl)
set_option maxRecDepth 20000 in
theorem lk_164 : lk_ok (13, 3, 3, 0, 0, 0) := tb_i2 (List.mem_of_getElem? (i := 3) rfl)
set_option maxRecDepth 20000 in
theorem lk_165 : lk_ok (1, 3, 9, 3, 4, 0) := tb_i2 (List.mem_of_getElem? (i := 8) rfl)
set_option maxRecDepth 20000 in
theorem lk_166 : lk_ok (1, 3, 15, 3, 5, 0) := tb_i2 (List.mem_of_getElem? (i := 9) rfl)
set_option maxRecDepth 20000 in
theorem lk_167 : lk_ok (1, 3, 18, 3, 6, 0) := tb_i2 (List.mem_of_getElem? (i := 10) rfl)
set_option maxRecDepth 20000 in
theorem lk_168 : lk_ok (1, 3, 21, 3, 0, 0) := tb_i2 (List.mem_of_getElem? (i := 4) rfl)
set_option maxRecDepth 20000 in
theorem lk_169 : lk_ok (1, 3, 25, 3, 1, 0) := tb_i2 (List.mem_of_getElem? (i := 5) rfl)
set_option maxRecDepth 20000 in
theorem lk_170 : lk_ok (1, 3, 29, 3, 2, 0) := tb_i2 (List.mem_of_getElem? (i := 6) rfl)
set_option maxRecDepth 20000 in
theorem lk_171 : lk_ok (1, 3, 33, 3, 3, 0) := tb_i2 (List.mem_of_getElem? (i := 7) rfl)
set_option maxRecDepth 20000 in
theorem lk_172 : lk_ok (1, 3, 37, 3, 7, 0) := tb_i2 (List.mem_of_getElem? (i := 11) rfl)
set_option maxRecDepth 20000 in
theorem lk_173 : lk_ok (10, 3, 41, 1, 14, 0) := tb_i4 (List.mem_of_getElem? (i := 179) rfl)
set_option maxRecDepth 20000 in
theorem lk_174 : lk_ok (7, 3, 43, 1, 13, 0) := tb_i4 (List.mem_of_getElem? (i := 180) rfl)
set_option maxRecDepth 20000 in
theorem lk_175 : lk_ok (15, 3, 45, 0, 14, 0) := tb_i4 (List.mem_of_getElem? (i := 181) rfl)
set_option maxRecDepth 20000 in
theorem lk_176 : lk_ok (11, 3, 48, 0, 46, 0) := tb_i4 (List.mem_of_getElem? (i := 182) rfl)
set_option maxRecDepth 20000 in
theorem lk_177 : lk_ok (2, 3, 51, 5, 10, 0) := tb_i1 (List.mem_of_getElem? (i := 114) rfl)
set_option maxRecDepth 20000 in
theorem lk_178 : lk_ok (11, 3, 56, 0, 47, 0) := tb_i4 (List.mem_of_getElem? (i := 191) rfl)
set_option maxRecDepth 20000 in
theorem lk_179 : lk_ok (11, 3, 60, 0, 48, 0) := tb_i4 (List.mem_of_getElem? (i := 199) rfl)
set_option maxRecDepth 20000 in
theorem lk_180 : lk_ok (11, 3, 63, 0, 49, 0) := tb_i4 (List.mem_of_getElem? (i := 232) rfl)
set_option maxRecDepth 20000 in
theorem lk_181 : lk_ok (11, 3, 66, 0, 50, 0) := tb_i4 (List.mem_of_getElem? (i := 236) rfl)
set_option maxRecDepth 20000 in
theorem lk_182 : lk_ok (11, 3, 70, 0, 51, 0) := tb_i5 (List.mem_of_getElem? (i := 1) rfl)
set_option maxRecDepth 20000 in
theorem lk_183 : lk_ok (11, 3, 74, 0, 52, 0) := tb_i5 (List.mem_of_getElem? (i := 5) rfl)
set_option maxRecDepth 20000 in
theorem lk_184 : lk_ok (11, 3, 77, 0, 53, 0) := tb_i5 (List.mem_of_getElem? (i := 13) rfl)
set_option maxRecDepth 20000 in
theorem lk_185 : lk_ok (11, 3, 80, 0, 54, 0) := tb_i5 (List.mem_of_getElem? (i := 21) rfl)
set_option maxRecDepth 20000 in
theorem lk_186 : lk_ok (11, 3, 83, 0, 55, 0) := tb_i5 (List.mem_of_getElem? (i := 34) rfl)
set_option maxRecDepth 20000 in
theorem lk_187 : lk_ok (11, 3, 86, 0, 56, 0) := tb_i5 (List.mem_of_getElem? (i := 42) rfl)
set_option maxRecDepth 20000 in
theorem lk_188 : lk_ok (11, 3, 90, 0, 57, 0) := tb_i5 (List.mem_of_getElem? (i := 53) rfl)
set_option maxRecDepth 20000 in
theorem lk_189 : lk_ok (11, 3, 93, 0, 58, 0) := tb_i5 (List.mem_of_getElem? (i := 58) rfl)
set_option maxRecDepth 20000 in
theorem lk_190 : lk_ok (11, 3, 96, 0, 59, 0) := tb_i5 (List.mem_of_getElem? (i := 62) rfl)
set_option maxRecDepth 20000 in
theorem lk_191 : lk_ok (2, 3, 99, 5, 11, 0) := tb_i1 (List.mem_of_getElem? (i := 118) rfl)
set_option maxRecDepth 20000 in
theorem lk_192 : lk_ok (11, 3, 102, 0, 60, 0) := tb_i5 (List.mem_of_getElem? (i := 66) rfl)
set_option maxRecDepth 20000 in
theorem lk_193 : lk_ok (11, 3, 105, 0, 61, 0) := tb_i4 (List.mem_of_getElem? (i := 186) rfl)
set_option maxRecDepth 20000 in
theorem lk_194 : lk_ok (11, 3, 109, 0, 94, 0) := tb_i4 (List.mem_of_getElem? (i := 190) rfl)
set_option maxRecDepth 20000 in
theorem lk_195 : lk_ok (11, 3, 112, 0, 79, 0) := tb_i4 (List.mem_of_getElem? (i := 195) rfl)
set_option maxRecDepth 20000 in
theorem lk_196 : lk_ok (10, 3, 115, 1, 15, 0) := tb_i4 (List.mem_of_getElem? (i := 196) rfl)
set_option maxRecDepth 20000 in
theorem lk_197 : lk_ok (7, 3, 117, 1, 14, 0) := tb_i4 (List.mem_of_getElem? (i := 197) rfl)
set_option maxRecDepth 20000 in
theorem lk_198 : lk_ok (15, 3, 119, 0, 15, 0) := tb_i4 (List.mem_of_getElem? (i := 198) rfl)
set_option maxRecDepth 20000 in
theorem lk_199 : lk_ok (11, 3, 120, 0, 81, 0) := tb_i4 (List.mem_of_getElem? (i := 203) rfl)
set_option maxRecDepth 20000 in
theorem lk_200 : lk_ok (11, 3, 124, 0, 92, 0) := tb_i4 (List.mem_of_getElem? (i := 204) rfl)
set_option maxRecDepth 20000 in
theorem lk_201 : lk_ok (11, 3, 127, 0, 93, 0) := tb_i4 (List.mem_of_getElem? (i := 205) rfl)
set_option maxRecDepth 20000 in
theorem lk_202 : lk_ok (11, 3, 131, 0, 80, 0) := tb_i4 (List.mem_of_getElem? (i := 206) rfl)
set_option maxRecDepth 20000 in
theorem lk_203 : lk_ok (11, 3, 134, 0, 71, 0) := tb_i4 (List.mem_of_getElem? (i := 207) rfl)
set_option maxRecDepth 20000 in
theorem lk_204 : lk_ok (11, 3, 139, 0, 124, 0) := tb_i4 (List.mem_of_getElem? (i := 208) rfl)
set_option maxRecDepth 20000 in
theorem lk_205 : lk_ok (11, 3, 145, 0, 62, 0) := tb_i4 (List.mem_of_getElem? (i := 212) rfl)
set_option maxRecDepth 20000 in
theorem lk_206 : lk_ok (1, 3, 148, 3, 8, 0) := tb_i2 (List.mem_of_getElem? (i := 12) rfl)
set_option maxRecDepth 20000 in
theorem lk_207 : lk_ok (11, 3, 151, 0, 123, 0) := tb_i4 (List.mem_of_getElem? (i := 220) rfl)
set_option maxRecDepth 20000 in
theorem lk_208 : lk_ok (11, 3, 154, 0, 125, 0) := tb_i4 (List.mem_of_getElem? (i := 228) rfl)
set_option maxRecDepth 20000 in
theorem lk_209 : lk_ok (11, 3, 157, 0, 45, 0) := tb_i5 (List.mem_of_getElem? (i := 0) rfl)
set_option maxRecDepth 20000 in
theorem lk_210 : lk_ok (11, 3, 163, 0, 99, 0) := tb_i5 (List.mem_of_getElem? (i := 9) rfl)
set_option maxRecDepth 20000 in
theorem lk_211 : lk_ok (1, 3, 166, 3, 9, 0) := tb_i2 (List.mem_of_getElem? (i := 14) rfl)
set_option maxRecDepth 20000 in
theorem lk_212 : lk_ok (1, 3, 169, 3, 11, 0) := tb_i2 (List.mem_of_getElem? (i := 16) rfl)
set_option maxRecDepth 20000 in
theorem lk_213 : lk_ok (1, 3, 172, 3, 12, 0) := tb_i2 (List.mem_of_getElem? (i := 17) rfl)
set_option maxRecDepth 20000 in
theorem lk_214 : lk_ok (11, 3, 160, 0, 126, 0) := tb_i5 (List.mem_of_getElem? (i := 17) rfl)
set_option maxRecDepth 20000 in
theorem lk_215 : lk_ok (11, 3, 181, 0, 97, 0) := tb_i5 (List.mem_of_getElem? (i := 25) rfl)
set_option maxRecDepth 20000 in
theorem lk_216 : lk_ok (11, 3, 184, 0, 106, 0) := tb_i5 (List.mem_of_getElem? (i := 26) rfl)
set_option maxRecDepth 20000 in
theorem lk_217 : lk_ok (11, 3, 189, 0, 116, 0) := tb_i5 (List.mem_of_getElem? (i := 30) rfl)
set_option maxRecDepth 20000 in
theorem lk_218 : lk_ok (11, 3, 192, 0, 63, 0) := tb_i5 (List.mem_of_getElem? (i := 38) rfl)
set_option maxRecDepth 20000 in
theorem lk_219 : lk_ok (11, 3, 175, 0, 64, 0) := tb_i4 (List.mem_of_getElem? (i := 216) rfl)
set_option maxRecDepth 20000 in
theorem lk_220 : lk_ok (11, 3, 195, 0, 65, 0) := tb_i5 (List.mem_of_getElem? (i := 46) rfl)
set_option maxRecDepth 20000 in
theorem lk_221 : lk_ok (11, 3, 198, 0, 66, 0) := tb_i5 (List.mem_of_getElem? (i := 49) rfl)
set_option maxRecDepth 20000 in
theorem lk_222 : lk_ok (3, 3, 201, 0, 1, 0) := tb_i5 (List.mem_of_getElem? (i := 56) rfl)
set_option maxRecDepth 20000 in
theorem lk_223 : lk_ok (1, 3, 178, 3, 10, 0) := tb_i2 (List.mem_of_getElem? (i := 15) rfl)
set_option maxRecDepth 20000 in
theorem lk_224 : lk_ok (13, 4, 3, 0, 0, 0) := tb_i1 (List.mem_of_getElem? (i := 42) rfl)
set_option maxRecDepth 20000 in
theorem lk_225 : lk_ok (1, 4, 9, 4, 0, 0) := tb_i1 (List.mem_of_getElem? (i := 46) rfl)
set_option maxRecDepth 20000 in
theorem lk_226 : lk_ok (11, 4, 15, 0, 301, 0) := tb_i1 (List.mem_of_getElem? (i := 43) rfl)
set_option maxRecDepth 20000 in
theorem lk_227 : lk_ok (13, 5, 3, 0, 0, 0) := tb_i1 (List.mem_of_getElem? (i := 99) rfl)
set_option maxRecDepth 20000 in
theorem lk_228 : lk_ok (1, 5, 9, 5, 2, 0) := tb_i1 (List.mem_of_getElem? (i := 102) rfl)
set_option maxRecDepth 20000 in
theorem lk_229 : lk_ok (1, 5, 15, 5, 3, 0) := tb_i1 (List.mem_of_getElem? (i := 103) rfl)
set_option maxRecDepth 20000 in
theorem lk_230 : lk_ok (1, 5, 19, 5, 4, 0) := tb_i1 (List.mem_of_getElem? (i := 104) rfl)
set_option maxRecDepth 20000 in
theorem lk_231 : lk_ok (1, 5, 22, 5, 5, 0) := tb_i1 (List.mem_of_getElem? (i := 105) rfl)
set_option maxRecDepth 20000 in
theorem lk_232 : lk_ok (1, 5, 25, 5, 6, 0) := tb_i1 (List.mem_of_getElem? (i := 106) rfl)
set_option maxRecDepth 20000 in
theorem lk_233 : lk_ok (1, 5, 29, 5, 7, 0) := tb_i1 (List.mem_of_getElem? (i := 107) rfl)
set_option maxRecDepth 20000 in
theorem lk_234 : lk_ok (1, 5, 32, 5, 0, 0) := tb_i1 (List.mem_of_getElem? (i := 100) rfl)
set_option maxRecDepth 20000 in
theorem lk_235 : lk_ok (1, 5, 36, 5, 1, 0) := tb_i1 (List.mem_of_getElem? (i := 101) rfl)
set_option maxRecDepth 20000 in
theorem lk_236 : lk_ok (11, 5, 50, 0, 291, 0) := tb_i3 (List.mem_of_getElem? (i := 213) rfl)
set_option maxRecDepth 20000 in
theorem lk_237 : lk_ok (11, 5, 56, 0, 292, 0) := tb_i3 (List.mem_of_getElem? (i := 214) rfl)
set_option maxRecDepth 20000 in
theorem lk_238 : lk_ok (1, 5, 59, 5, 8, 0) := tb_i1 (List.mem_of_getElem? (i := 108) rfl)
set_option maxRecDepth 20000 in
theorem lk_239 : lk_ok (14, 5, 62, 0, 0, 0) := tb_i3 (List.mem_of_getElem? (i := 217) rfl)
set_option maxRecDepth 20000 in
theorem lk_240 : lk_ok (1, 5, 40, 5, 9, 0) := tb_i1 (List.mem_of_getElem? (i := 109) rfl)
set_option maxRecDepth 20000 in
theorem lk_241 : lk_ok (11, 5, 68, 0, 76, 0) := tb_i3 (List.mem_of_getElem? (i := 220) rfl)
set_option maxRecDepth 20000 in
theorem lk_242 : lk_ok (11, 5, 72, 0, 77, 0) := tb_i3 (List.mem_of_getElem? (i := 228) rfl)
set_option maxRecDepth 20000 in
theorem lk_243 : lk_ok (11, 5, 75, 0, 71, 0) := tb_i4 (List.mem_of_getElem? (i := 88) rfl)
set_option maxRecDepth 20000 in
theorem lk_244 : lk_ok (11, 5, 81, 0, 78, 0) := tb_i4 (List.mem_of_getElem? (i := 4) rfl)
set_option maxRecDepth 20000 in
theorem lk_245 : lk_ok (1, 5, 44, 5, 10, 0) := tb_i1 (List.mem_of_getElem? (i := 113) rfl)
set_option maxRecDepth 20000 in
theorem lk_246 : lk_ok (11, 5, 85, 0, 79, 0) := tb_i4 (List.mem_of_getElem? (i := 92) rfl)
set_option maxRecDepth 20000 in
theorem lk_247 : lk_ok (1, 5, 47, 5, 11, 0) := tb_i1 (List.mem_of_getElem? (i := 117) rfl)
set_option maxRecDepth 20000 in
theorem lk_248 : lk_ok (11, 5, 154, 0, 81, 0) := tb_i4 (List.mem_of_getElem? (i := 120) rfl)
set_option maxRecDepth 20000 in
theorem lk_249 : lk_ok (11, 5, 168, 0, 82, 0) := tb_i5 (List.mem_of_getElem? (i := 168) rfl)
set_option maxRecDepth 20000 in
theorem lk_250 : lk_ok (11, 5, 158, 0, 80, 0) := tb_i4 (List.mem_of_getElem? (i := 124) rfl)
set_option maxRecDepth 20000 in
theorem lk_251 : lk_ok (11, 5, 88, 0, 83, 0) := tb_i3 (List.mem_of_getElem? (i := 224) rfl)
set_option maxRecDepth 20000 in
theorem lk_252 : lk_ok (11, 5, 91, 0, 85, 0) := tb_i3 (List.mem_of_getElem? (i := 232) rfl)
set_option maxRecDepth 20000 in
theorem lk_253 : lk_ok (11, 5, 95, 0, 86, 0) := tb_i3 (List.mem_of_getElem? (i := 235) rfl)
set_option maxRecDepth 20000 in
theorem lk_254 : lk_ok (11, 5, 98, 0, 87, 0) := tb_i3 (List.mem_of_getElem? (i := 239) rfl)
set_option maxRecDepth 20000 in
theorem lk_255 : lk_ok (11, 5, 101, 0, 88, 0) := tb_i4 (List.mem_of_getElem? (i := 8) rfl)
set_option maxRecDepth 20000 in
theorem lk_256 : lk_ok (11, 5, 104, 0, 89, 0) := tb_i4 (List.mem_of_getElem? (i := 71) rfl)
set_option maxRecDepth 20000 in
theorem lk_257 : lk_ok (11, 5, 107, 0, 90, 0) := tb_i4 (List.mem_of_getElem? (i := 74) rfl)
set_option maxRecDepth 20000 in
theorem lk_258 : lk_ok (11, 5, 110, 0, 91, 0) := tb_i4 (List.mem_of_getElem? (i := 83) rfl)
set_option maxRecDepth 20000 in
theorem lk_259 : lk_ok (11, 5, 113, 0, 105, 0) := tb_i4 (List.mem_of_getElem? (i := 2) rfl)
set_option maxRecDepth 20000 in
theorem lk_260 : lk_ok (11, 5, 119, 0, 104, 0) := tb_i4 (List.mem_of_getElem? (i := 3) rfl)
set_option maxRecDepth 20000 in
theorem lk_261 : lk_ok (11, 5, 132, 0, 95, 0) := tb_i4 (List.mem_of_getElem? (i := 12) rfl)
set_option maxRecDepth 20000 in
theorem lk_262 : lk_ok (7, 5, 135, 1, 4, 0) := tb_i4 (List.mem_of_getElem? (i := 15) rfl)
set_option maxRecDepth 20000 in
theorem lk_263 : lk_ok (11, 5, 137, 0, 274, 0) := tb_i4 (List.mem_of_getElem? (i := 16) rfl)
set_option maxRecDepth 20000 in
theorem lk_264 : lk_ok (8, 5, 130, 0, 0, 16) := tb_i4 (List.mem_of_getElem? (i := 78) rfl)
set_option maxRecDepth 20000 in
theorem lk_265 : lk_ok (8, 5, 125, 0, 0, 1099511627776) := tb_i4 (List.mem_of_getElem? (i := 79) rfl)
set_option maxRecDepth 20000 in
theorem lk_266 : lk_ok (11, 5, 127, 0, 293, 0) := tb_i4 (List.mem_of_getElem? (i := 80) rfl)
set_option maxRecDepth 20000 in
theorem lk_267 : lk_ok (8, 5, 123, 0, 0, 10) := tb_i4 (List.mem_of_getElem? (i := 87) rfl)
set_option maxRecDepth 20000 in
theorem lk_268 : lk_ok (10, 5, 142, 1, 15, 0) := tb_i4 (List.mem_of_getElem? (i := 108) rfl)
set_option maxRecDepth 20000 in
theorem lk_269 : lk_ok (7, 5, 144, 1, 9, 0) := tb_i4 (List.mem_of_getElem? (i := 109) rfl)
set_option maxRecDepth 20000 in
theorem lk_270 : lk_ok (15, 5, 146, 0, 15, 0) := tb_i4 (List.mem_of_getElem? (i := 110) rfl)
set_option maxRecDepth 20000 in
theorem lk_271 : lk_ok (11, 5, 149, 0, 94, 0) := tb_i4 (List.mem_of_getElem? (i := 111) rfl)
set_option maxRecDepth 20000 in
theorem lk_272 : lk_ok (7, 5, 152, 1, 10, 0) := tb_i4 (List.mem_of_getElem? (i := 119) rfl)
set_option maxRecDepth 20000 in
theorem lk_273 : lk_ok (8, 5, 161, 0, 0, 1073741824) := tb_i4 (List.mem_of_getElem? (i := 128) rfl)
set_option maxRecDepth 20000 in
theorem lk_274 : lk_ok (7, 5, 163, 1, 12, 0) := tb_i4 (List.mem_of_getElem? (i := 170) rfl)
set_option maxRecDepth 20000 in
theorem lk_275 : lk_ok (11, 5, 165, 0, 97, 0) := tb_i4 (List.mem_of_getElem? (i := 171) rfl)
set_option maxRecDepth 20000 in
theorem lk_276 : lk_ok (13, 6, 3, 0, 0, 0) := tb_i1 (List.mem_of_getElem? (i := 57) rfl)
set_option maxRecDepth 20000 in
theorem lk_277 : lk_ok (1, 6, 11, 6, 0, 0) := tb_i1 (List.mem_of_getElem? (i := 58) rfl)
set_option maxRecDepth 20000 in
theorem lk_278 : lk_ok (1, 6, 15, 6, 1, 0) := tb_i1 (List.mem_of_getElem? (i := 59) rfl)
set_option maxRecDepth 20000 in
theorem lk_279 : lk_ok (1, 6, 18, 6, 2, 0) := tb_i1 (List.mem_of_getElem? (i := 60) rfl)
set_option maxRecDepth 20000 in
theorem lk_280 : lk_ok (1, 6, 22, 6, 3, 0) := tb_i1 (List.mem_of_getElem? (i := 61) rfl)
set_option maxRecDepth 20000 in
theorem lk_281 : lk_ok (1, 6, 25, 6, 4, 0) := tb_i1 (List.mem_of_getElem? (i := 62) rfl)
set_option maxRecDepth 20000 in
theorem lk_282 : lk_ok (1, 6, 28, 6, 5, 0) := tb_i1 (List.mem_of_getElem? (i := 63) rfl)
set_option maxRecDepth 20000 in
theorem lk_283 : lk_ok (1, 6, 31, 6, 6, 0) := tb_i1 (List.mem_of_getElem? (i := 64) rfl)
set_option maxRecDepth 20000 in
theorem lk_284 : lk_ok (1, 6, 34, 6, 7, 0) := tb_i1 (List.mem_of_getElem? (i := 65) rfl)
set_option maxRecDepth 20000 in
theorem lk_285 : lk_ok (11, 6, 38, 0, 291, 0) := tb_i3 (List.mem_of_getElem? (i := 103) rfl)
set_option maxRecDepth 20000 in
theorem lk_286 : lk_ok (11, 6, 44, 0, 102, 0) := tb_i3 (List.mem_of_getElem? (i := 106) rfl)
set_option maxRecDepth 20000 in
theorem lk_287 : lk_ok (11, 6, 48, 0, 103, 0) := tb_i3 (List.mem_of_getElem? (i := 110) rfl)
set_option maxRecDepth 20000 in
theorem lk_288 : lk_ok (1, 6, 88, 6, 8, 0) := tb_i1 (List.mem_of_getElem? (i := 66) rfl)
set_option maxRecDepth 20000 in
theorem lk_289 : lk_ok (7, 6, 51, 1, 2, 0) := tb_i3 (List.mem_of_getElem? (i := 114) rfl)
set_option maxRecDepth 20000 in
theorem lk_290 : lk_ok (11, 6, 53, 0, 272, 0) := tb_i3 (List.mem_of_getElem? (i := 115) rfl)
set_option maxRecDepth 20000 in
theorem lk_291 : lk_ok (11, 6, 59, 0, 273, 0) := tb_i3 (List.mem_of_getElem? (i := 125) rfl)
set_option maxRecDepth 20000 in
theorem lk_292 : lk_ok (11, 6, 63, 0, 104, 0) := tb_i3 (List.mem_of_getElem? (i := 163) rfl)
set_option maxRecDepth 20000 in
theorem lk_293 : lk_ok (11, 6, 66, 0, 105, 0) := tb_i3 (List.mem_of_getElem? (i := 177) rfl)
set_option maxRecDepth 20000 in
theorem lk_294 : lk_ok (1, 6, 69, 6, 9, 0) := tb_i1 (List.mem_of_getElem? (i := 68) rfl)
set_option maxRecDepth 20000 in
theorem lk_295 : lk_ok (1, 6, 73, 6, 10, 0) := tb_i1 (List.mem_of_getElem? (i := 69) rfl)
set_option maxRecDepth 20000 in
theorem lk_296 : lk_ok (11, 6, 76, 0, 107, 0) := tb_i3 (List.mem_of_getElem? (i := 167) rfl)
set_option maxRecDepth 20000 in
theorem lk_297 : lk_ok (8, 6, 80, 0, 0, 31) := tb_i3 (List.mem_of_getElem? (i := 171) rfl)
set_option maxRecDepth 20000 in
theorem lk_298 : lk_ok (8, 6, 82, 0, 0, -7046029254386353131) := tb_i3 (List.mem_of_getElem? (i := 172) rfl)
set_option maxRecDepth 20000 in
theorem lk_299 : lk_ok (11, 6, 84, 0, 111, 0) := tb_i3 (List.mem_of_getElem? (i := 173) rfl)
set_option maxRecDepth 20000 in
theorem lk_300 : lk_ok (11, 6, 91, 0, 292, 0) := tb_i5 (List.mem_of_getElem? (i := 102) rfl)
set_option maxRecDepth 20000 in
theorem lk_301 : lk_ok (13, 7, 3, 0, 0, 0) := tb_i1 (List.mem_of_getElem? (i := 150) rfl)
set_option maxRecDepth 20000 in
theorem lk_302 : lk_ok (1, 7, 9, 7, 0, 0) := tb_i1 (List.mem_of_getElem? (i := 151) rfl)
set_option maxRecDepth 20000 in
theorem lk_303 : lk_ok (1, 7, 15, 7, 1, 0) := tb_i1 (List.mem_of_getElem? (i := 152) rfl)
set_option maxRecDepth 20000 in
theorem lk_304 : lk_ok (1, 7, 18, 7, 2, 0) := tb_i1 (List.mem_of_getElem? (i := 153) rfl)
set_option maxRecDepth 20000 in
theorem lk_305 : lk_ok (1, 7, 21, 7, 3, 0) := tb_i1 (List.mem_of_getElem? (i := 154) rfl)
set_option maxRecDepth 20000 in
theorem lk_306 : lk_ok (1, 7, 24, 7, 4, 0) := tb_i1 (List.mem_of_getElem? (i := 155) rfl)
set_option maxRecDepth 20000 in
theorem lk_307 : lk_ok (1, 7, 27, 7, 5, 0) := tb_i1 (List.mem_of_getElem? (i := 156) rfl)
set_option maxRecDepth 20000 in
theorem lk_308 : lk_ok (1, 7, 30, 7, 6, 0) := tb_i1 (List.mem_of_getElem? (i := 157) rfl)
set_option maxRecDepth 20000 in
theorem lk_309 : lk_ok (1, 7, 33, 7, 7, 0) := tb_i1 (List.mem_of_getElem? (i := 158) rfl)
set_option maxRecDepth 20000 in
theorem lk_310 : lk_ok (11, 7, 37, 0, 114, 0) := tb_i4 (List.mem_of_getElem? (i := 224) rfl)
set_option maxRecDepth 20000 in
theorem lk_311 : lk_ok (11, 7, 41, 0, 120, 0) := tb_i6 (List.mem_of_getElem? (i := 126) rfl)
set_option maxRecDepth 20000 in
theorem lk_312 : lk_ok (11, 7, 45, 0, 121, 0) := tb_i6 (List.mem_of_getElem? (i := 127) rfl)
set_option maxRecDepth 20000 in
theorem lk_313 : lk_ok (13, 8, 3, 0, 0, 0) := tb_i2 (List.mem_of_getElem? (i := 161) rfl)
set_option maxRecDepth 20000 in
theorem lk_314 : lk_ok (1, 8, 9, 8, 1, 0) := tb_i2 (List.mem_of_getElem? (i := 163) rfl)
set_option maxRecDepth 20000 in
theorem lk_315 : lk_ok (1, 8, 15, 8, 0, 0) := tb_i2 (List.mem_of_getElem? (i := 162) rfl)
set_option maxRecDepth 20000 in
theorem lk_316 : lk_ok (1, 8, 19, 8, 2, 0) := tb_i2 (List.mem_of_getElem? (i := 164) rfl)
set_option maxRecDepth 20000 in
theorem lk_317 : lk_ok (2, 8, 39, 5, 9, 0) := tb_i1 (List.mem_of_getElem? (i := 110) rfl)
set_option maxRecDepth 20000 in
theorem lk_318 : lk_ok (11, 8, 42, 0, 84, 0) := tb_i7 (List.mem_of_getElem? (i := 18) rfl)
set_option maxRecDepth 20000 in
theorem lk_319 : lk_ok (11, 8, 46, 0, 132, 0) := tb_i7 (List.mem_of_getElem? (i := 22) rfl)
set_option maxRecDepth 20000 in
theorem lk_320 : lk_ok (11, 8, 50, 0, 133, 0) := tb_i7 (List.mem_of_getElem? (i := 41) rfl)
set_option maxRecDepth 20000 in
theorem lk_321 : lk_ok (11, 8, 54, 0, 134, 0) := tb_i7 (List.mem_of_getElem? (i := 27) rfl)
set_option maxRecDepth 20000 in
theorem lk_322 : lk_ok (11, 8, 23, 0, 129, 0) := tb_i7 (List.mem_of_getElem? (i := 70) rfl)
set_option maxRecDepth 20000 in
theorem lk_323 : lk_ok (11, 8, 27, 0, 291, 0) := tb_i7 (List.mem_of_getElem? (i := 83) rfl)
set_option maxRecDepth 20000 in
theorem lk_324 : lk_ok (14, 8, 33, 0, 0, 0) := tb_i7 (List.mem_of_getElem? (i := 84) rfl)
set_option maxRecDepth 20000 in
theorem lk_325 : lk_ok (11, 8, 57, 0, 79, 0) := tb_i7 (List.mem_of_getElem? (i := 26) rfl)
set_option maxRecDepth 20000 in
theorem lk_326 : lk_ok (11, 8, 60, 0, 135, 0) := tb_i7 (List.mem_of_getElem? (i := 31) rfl)
set_option maxRecDepth 20000 in
theorem lk_327 : lk_ok (11, 8, 63, 0, 136, 0) := tb_i7 (List.mem_of_getElem? (i := 35) rfl)
set_option maxRecDepth 20000 in
theorem lk_328 : lk_ok (11, 8, 70, 0, 81, 0) := tb_i7 (List.mem_of_getElem? (i := 45) rfl)
set_option maxRecDepth 20000 in
theorem lk_329 : lk_ok (11, 8, 74, 0, 137, 0) := tb_i7 (List.mem_of_getElem? (i := 46) rfl)
set_option maxRecDepth 20000 in
theorem lk_330 : lk_ok (11, 8, 78, 0, 80, 0) := tb_i7 (List.mem_of_getElem? (i := 51) rfl)
set_option maxRecDepth 20000 in
theorem lk_331 : lk_ok (11, 8, 81, 0, 82, 0) := tb_i7 (List.mem_of_getElem? (i := 52) rfl)
set_option maxRecDepth 20000 in
theorem lk_332 : lk_ok (11, 8, 84, 0, 83, 0) := tb_i7 (List.mem_of_getElem? (i := 53) rfl)
set_option maxRecDepth 20000 in
theorem lk_333 : lk_ok (11, 8, 67, 0, 138, 0) := tb_i7 (List.mem_of_getElem? (i := 38) rfl)
set_option maxRecDepth 20000 in
theorem lk_334 : lk_ok (8, 8, 87, 0, 0, 10) := tb_i7 (List.mem_of_getElem? (i := 50) rfl)
set_option maxRecDepth 20000 in
theorem lk_335 : lk_ok (13, 9, 3, 0, 0, 0) := tb_i2 (List.mem_of_getElem? (i := 50) rfl)
set_option maxRecDepth 20000 in
theorem lk_336 : lk_ok (1, 9, 9, 9, 7, 0) := tb_i2 (List.mem_of_getElem? (i := 58) rfl)
set_option maxRecDepth 20000 in
theorem lk_337 : lk_ok (1, 9, 15, 9, 8, 0) := tb_i2 (List.mem_of_getElem? (i := 59) rfl)
set_option maxRecDepth 20000 in
theorem lk_338 : lk_ok (1, 9, 18, 9, 0, 0) := tb_i2 (List.mem_of_getElem? (i := 51) rfl)
set_option maxRecDepth 20000 in
theorem lk_339 : lk_ok (1, 9, 22, 9, 1, 0) := tb_i2 (List.mem_of_getElem? (i := 52) rfl)
set_option maxRecDepth 20000 in
theorem lk_340 : lk_ok (1, 9, 26, 9, 2, 0) := tb_i2 (List.mem_of_getElem? (i := 53) rfl)
set_option maxRecDepth 20000 in
theorem lk_341 : lk_ok (1, 9, 30, 9, 3, 0) := tb_i2 (List.mem_of_getElem? (i := 54) rfl)
set_option maxRecDepth 20000 in
theorem lk_342 : lk_ok (1, 9, 34, 9, 4, 0) := tb_i2 (List.mem_of_getElem? (i := 55) rfl)
set_option maxRecDepth 20000 in
theorem lk_343 : lk_ok (1, 9, 38, 9, 5, 0) := tb_i2 (List.mem_of_getElem? (i := 56) rfl)
set_option maxRecDepth 20000 in
theorem lk_344 : lk_ok (1, 9, 42, 9, 6, 0) := tb_i2 (List.mem_of_getElem? (i := 57) rfl)
set_option maxRecDepth 20000 in
theorem lk_345 : lk_ok (1, 9, 46, 9, 9, 0) := tb_i2 (List.mem_of_getElem? (i := 60) rfl)
set_option maxRecDepth 20000 in
theorem lk_346 : lk_ok (11, 9, 55, 0, 92, 0) := tb_i4 (List.mem_of_getElem? (i := 104) rfl)
set_option maxRecDepth 20000 in
theorem lk_347 : lk_ok (11, 9, 59, 0, 93, 0) := tb_i4 (List.mem_of_getElem? (i := 115) rfl)
set_option maxRecDepth 20000 in
theorem lk_348 : lk_ok (2, 9, 63, 11, 7, 0) := tb_i1 (List.mem_of_getElem? (i := 196) rfl)
set_option maxRecDepth 20000 in
theorem lk_349 : lk_ok (2, 9, 50, 5, 11, 0) := tb_i1 (List.mem_of_getElem? (i := 119) rfl)
set_option maxRecDepth 20000 in
theorem lk_350 : lk_ok (11, 9, 190, 0, 146, 0) := tb_i4 (List.mem_of_getElem? (i := 141) rfl)
set_option maxRecDepth 20000 in
theorem lk_351 : lk_ok (11, 9, 193, 0, 188, 0) := tb_i4 (List.mem_of_getElem? (i := 154) rfl)
set_option maxRecDepth 20000 in
theorem lk_352 : lk_ok (11, 9, 196, 0, 147, 0) := tb_i4 (List.mem_of_getElem? (i := 162) rfl)
set_option maxRecDepth 20000 in
theorem lk_353 : lk_ok (11, 9, 199, 0, 148, 0) := tb_i5 (List.mem_of_getElem? (i := 81) rfl)
set_option maxRecDepth 20000 in
theorem lk_354 : lk_ok (11, 9, 202, 0, 149, 0) := tb_i5 (List.mem_of_getElem? (i := 90) rfl)
set_option maxRecDepth 20000 in
theorem lk_355 : lk_ok (11, 9, 87, 0, 94, 0) := tb_i4 (List.mem_of_getElem? (i := 145) rfl)
set_option maxRecDepth 20000 in
theorem lk_356 : lk_ok (10, 9, 80, 1, 15, 0) := tb_i5 (List.mem_of_getElem? (i := 103) rfl)
set_option maxRecDepth 20000 in
theorem lk_357 : lk_ok (7, 9, 205, 1, 15, 0) := tb_i5 (List.mem_of_getElem? (i := 104) rfl)
set_option maxRecDepth 20000 in
theorem lk_358 : lk_ok (15, 9, 84, 0, 15, 0) := tb_i5 (List.mem_of_getElem? (i := 105) rfl)
set_option maxRecDepth 20000 in
theorem lk_359 : lk_ok (11, 9, 68, 0, 150, 0) := tb_i5 (List.mem_of_getElem? (i := 110) rfl)
set_option maxRecDepth 20000 in
theorem lk_360 : lk_ok (11, 9, 71, 0, 151, 0) := tb_i5 (List.mem_of_getElem? (i := 144) rfl)
set_option maxRecDepth 20000 in
theorem lk_361 : lk_ok (11, 9, 74, 0, 152, 0) := tb_i5 (List.mem_of_getElem? (i := 148) rfl)
set_option maxRecDepth 20000 in
theorem lk_362 : lk_ok (11, 9, 77, 0, 153, 0) := tb_i5 (List.mem_of_getElem? (i := 156) rfl)
set_option maxRecDepth 20000 in
theorem lk_363 : lk_ok (7, 9, 82, 1, 16, 0) := tb_i5 (List.mem_of_getElem? (i := 178) rfl)
set_option maxRecDepth 20000 in
theorem lk_364 : lk_ok (11, 9, 155, 0, 102, 0) := tb_i4 (List.mem_of_getElem? (i := 146) rfl)
set_option maxRecDepth 20000 in
theorem lk_365 : lk_ok (11, 9, 172, 0, 154, 0) := tb_i4 (List.mem_of_getElem? (i := 147) rfl)
set_option maxRecDepth 20000 in
theorem lk_366 : lk_ok (2, 9, 90, 5, 10, 0) := tb_i1 (List.mem_of_getElem? (i := 115) rfl)
set_option maxRecDepth 20000 in
theorem lk_367 : lk_ok (11, 9, 93, 0, 96, 0) := tb_i4 (List.mem_of_getElem? (i := 166) rfl)
set_option maxRecDepth 20000 in
theorem lk_368 : lk_ok (11, 9, 141, 0, 45, 0) := tb_i4 (List.mem_of_getElem? (i := 175) rfl)
set_option maxRecDepth 20000 in
theorem lk_369 : lk_ok (2, 9, 146, 3, 8, 0) := tb_i2 (List.mem_of_getElem? (i := 13) rfl)
set_option maxRecDepth 20000 in
theorem lk_370 : lk_ok (11, 9, 161, 0, 106, 0) := tb_i5 (List.mem_of_getElem? (i := 70) rfl)
set_option maxRecDepth 20000 in
theorem lk_371 : lk_ok (11, 9, 103, 0, 80, 0) := tb_i5 (List.mem_of_getElem? (i := 71) rfl)
set_option maxRecDepth 20000 in
theorem lk_372 : lk_ok (11, 9, 106, 0, 71, 0) := tb_i5 (List.mem_of_getElem? (i := 72) rfl)
set_option maxRecDepth 20000 in
theorem lk_373 : lk_ok (11, 9, 207, 0, 37, 0) := tb_i5 (List.mem_of_getElem? (i := 73) rfl)
set_option maxRecDepth 20000 in
theorem lk_374 : lk_ok (11, 9, 149, 0, 38, 0) := tb_i5 (List.mem_of_getElem? (i := 85) rfl)
set_option maxRecDepth 20000 in
theorem lk_375 : lk_ok (2, 9, 210, 6, 8, 0) := tb_i1 (List.mem_of_getElem? (i := 67) rfl)
set_option maxRecDepth 20000 in
theorem lk_376 : lk_ok (11, 9, 158, 0, 155, 0) := tb_i5 (List.mem_of_getElem? (i := 94) rfl)
set_option maxRecDepth 20000 in
theorem lk_377 : lk_ok (11, 9, 124, 0, 156, 0) := tb_i5 (List.mem_of_getElem? (i := 114) rfl)
set_option maxRecDepth 20000 in
theorem lk_378 : lk_ok (11, 9, 127, 0, 294, 0) := tb_i5 (List.mem_of_getElem? (i := 130) rfl)
set_option maxRecDepth 20000 in
theorem lk_379 : lk_ok (11, 9, 132, 0, 189, 0) := tb_i5 (List.mem_of_getElem? (i := 136) rfl)
set_option maxRecDepth 20000 in
theorem lk_380 : lk_ok (11, 9, 135, 0, 190, 0) := tb_i5 (List.mem_of_getElem? (i := 140) rfl)
set_option maxRecDepth 20000 in
theorem lk_381 : lk_ok (11, 9, 138, 0, 157, 0) := tb_i5 (List.mem_of_getElem? (i := 152) rfl)
set_option maxRecDepth 20000 in
theorem lk_382 : lk_ok (11, 9, 166, 0, 158, 0) := tb_i5 (List.mem_of_getElem? (i := 160) rfl)
set_option maxRecDepth 20000 in
theorem lk_383 : lk_ok (11, 9, 169, 0, 159, 0) := tb_i5 (List.mem_of_getElem? (i := 174) rfl)
set_option maxRecDepth 20000 in
theorem lk_384 : lk_ok (10, 9, 185, 1, 14, 0) := tb_i4 (List.mem_of_getElem? (i := 151) rfl)
set_option maxRecDepth 20000 in
theorem lk_385 : lk_ok (7, 9, 187, 1, 11, 0) := tb_i4 (List.mem_of_getElem? (i := 152) rfl)
set_option maxRecDepth 20000 in
theorem lk_386 : lk_ok (15, 9, 189, 0, 14, 0) := tb_i4 (List.mem_of_getElem? (i := 153) rfl)
set_option maxRecDepth 20000 in
theorem lk_387 : lk_ok (11, 9, 164, 0, 108, 0) := tb_i5 (List.mem_of_getElem? (i := 98) rfl)
set_option maxRecDepth 20000 in
theorem lk_388 : lk_ok (11, 9, 97, 0, 109, 0) := tb_i5 (List.mem_of_getElem? (i := 118) rfl)
set_option maxRecDepth 20000 in
theorem lk_389 : lk_ok (2, 9, 112, 7, 7, 0) := tb_i1 (List.mem_of_getElem? (i := 161) rfl)
set_option maxRecDepth 20000 in
theorem lk_390 : lk_ok (11, 9, 117, 0, 191, 0) := tb_i5 (List.mem_of_getElem? (i := 122) rfl)
set_option maxRecDepth 20000 in
theorem lk_391 : lk_ok (11, 9, 121, 0, 110, 0) := tb_i5 (List.mem_of_getElem? (i := 126) rfl)
set_option maxRecDepth 20000 in
theorem lk_392 : lk_ok (11, 9, 175, 0, 98, 0) := tb_i5 (List.mem_of_getElem? (i := 164) rfl)
set_option maxRecDepth 20000 in
theorem lk_393 : lk_ok (11, 9, 179, 0, 99, 0) := tb_i5 (List.mem_of_getElem? (i := 172) rfl)
set_option maxRecDepth 20000 in
theorem lk_394 : lk_ok (11, 9, 182, 0, 82, 0) := tb_i5 (List.mem_of_getElem? (i := 173) rfl)
set_option maxRecDepth 20000 in
theorem lk_395 : lk_ok (13, 10, 3, 0, 0, 0) := tb_i2 (List.mem_of_getElem? (i := 112) rfl)
set_option maxRecDepth 20000 in
theorem lk_396 : lk_ok (1, 10, 9, 10, 4, 0) := tb_i2 (List.mem_of_getElem? (i := 117) rfl)
set_option maxRecDepth 20000 in
theorem lk_397 : lk_ok (1, 10, 15, 10, 5, 0) := tb_i2 (List.mem_of_getElem? (i := 118) rfl)
set_option maxRecDepth 20000 in
theorem lk_398 : lk_ok (1, 10, 18, 10, 6, 0) := tb_i2 (List.mem_of_getElem? (i := 119) rfl)
set_option maxRecDepth 20000 in
theorem lk_399 : lk_ok (1, 10, 21, 10, 8, 0) := tb_i2 (List.mem_of_getElem? (i := 121) rfl)
set_option maxRecDepth 20000 in
theorem lk_400 : lk_ok (1, 10, 24, 10, 9, 0) := tb_i2 (List.mem_of_getElem? (i := 122) rfl)
set_option maxRecDepth 20000 in
theorem lk_401 : lk_ok (1, 10, 27, 10, 10, 0) := tb_i2 (List.mem_of_getElem? (i := 123) rfl)
set_option maxRecDepth 20000 in
theorem lk_402 : lk_ok (1, 10, 30, 10, 12, 0) := tb_i2 (List.mem_of_getElem? (i := 125) rfl)
set_option maxRecDepth 20000 in
theorem lk_403 : lk_ok (1, 10, 33, 10, 0, 0) := tb_i2 (List.mem_of_getElem? (i := 113) rfl)
set_option maxRecDepth 20000 in
theorem lk_404 : lk_ok (1, 10, 37, 10, 1, 0) := tb_i2 (List.mem_of_getElem? (i := 114) rfl)
set_option maxRecDepth 20000 in
theorem lk_405 : lk_ok (1, 10, 41, 10, 2, 0) := tb_i2 (List.mem_of_getElem? (i := 115) rfl)
set_option maxRecDepth 20000 in
theorem lk_406 : lk_ok (1, 10, 45, 10, 3, 0) := tb_i2 (List.mem_of_getElem? (i := 116) rfl)
set_option maxRecDepth 20000 in
theorem lk_407 : lk_ok (1, 10, 49, 10, 13, 0) := tb_i2 (List.mem_of_getElem? (i := 126) rfl)
set_option maxRecDepth 20000 in
theorem lk_408 : lk_ok (11, 10, 53, 0, 161, 0) := tb_i7 (List.mem_of_getElem? (i := 5) rfl)
set_option maxRecDepth 20000 in
theorem lk_409 : lk_ok (11, 10, 57, 0, 165, 0) := tb_i6 (List.mem_of_getElem? (i := 10) rfl)
set_option maxRecDepth 20000 in
theorem lk_410 : lk_ok (11, 10, 60, 0, 166, 0) := tb_i6 (List.mem_of_getElem? (i := 38) rfl)
set_option maxRecDepth 20000 in
theorem lk_411 : lk_ok (2, 10, 64, 11, 6, 0) := tb_i1 (List.mem_of_getElem? (i := 193) rfl)
set_option maxRecDepth 20000 in
theorem lk_412 : lk_ok (11, 10, 67, 0, 167, 0) := tb_i6 (List.mem_of_getElem? (i := 58) rfl)
set_option maxRecDepth 20000 in
theorem lk_413 : lk_ok (11, 10, 71, 0, 168, 0) := tb_i6 (List.mem_of_getElem? (i := 66) rfl)
set_option maxRecDepth 20000 in
theorem lk_414 : lk_ok (11, 10, 75, 0, 169, 0) := tb_i6 (List.mem_of_getElem? (i := 70) rfl)
set_option maxRecDepth 20000 in
theorem lk_415 : lk_ok (11, 10, 78, 0, 187, 0) := tb_i6 (List.mem_of_getElem? (i := 18) rfl)
set_option maxRecDepth 20000 in
theorem lk_416 : lk_ok (11, 10, 81, 0, 80, 0) := tb_i6 (List.mem_of_getElem? (i := 74) rfl)
set_option maxRecDepth 20000 in
theorem lk_417 : lk_ok (11, 10, 86, 0, 71, 0) := tb_i6 (List.mem_of_getElem? (i := 75) rfl)
set_option maxRecDepth 20000 in
theorem lk_418 : lk_ok (1, 10, 92, 10, 7, 0) := tb_i2 (List.mem_of_getElem? (i := 120) rfl)
set_option maxRecDepth 20000 in
theorem lk_419 : lk_ok (11, 10, 95, 0, 170, 0) := tb_i6 (List.mem_of_getElem? (i := 14) rfl)
set_option maxRecDepth 20000 in
theorem lk_420 : lk_ok (11, 10, 98, 0, 171, 0) := tb_i6 (List.mem_of_getElem? (i := 24) rfl)
set_option maxRecDepth 20000 in
theorem lk_421 : lk_ok (11, 10, 101, 0, 172, 0) := tb_i6 (List.mem_of_getElem? (i := 30) rfl)
set_option maxRecDepth 20000 in
theorem lk_422 : lk_ok (1, 10, 122, 10, 11, 0) := tb_i2 (List.mem_of_getElem? (i := 124) rfl)
set_option maxRecDepth 20000 in
theorem lk_423 : lk_ok (11, 10, 104, 0, 173, 0) := tb_i6 (List.mem_of_getElem? (i := 34) rfl)
set_option maxRecDepth 20000 in
theorem lk_424 : lk_ok (11, 10, 125, 0, 174, 0) := tb_i6 (List.mem_of_getElem? (i := 42) rfl)
set_option maxRecDepth 20000 in
theorem lk_425 : lk_ok (11, 10, 128, 0, 175, 0) := tb_i6 (List.mem_of_getElem? (i := 46) rfl)
set_option maxRecDepth 20000 in
theorem lk_426 : lk_ok (11, 10, 131, 0, 176, 0) := tb_i6 (List.mem_of_getElem? (i := 50) rfl)
set_option maxRecDepth 20000 in
theorem lk_427 : lk_ok (11, 10, 134, 0, 177, 0) := tb_i6 (List.mem_of_getElem? (i := 54) rfl)
set_option maxRecDepth 20000 in
theorem lk_428 : lk_ok (11, 10, 137, 0, 178, 0) := tb_i6 (List.mem_of_getElem? (i := 62) rfl)
set_option maxRecDepth 20000 in
theorem lk_429 : lk_ok (11, 10, 107, 0, 182, 0) := tb_i6 (List.mem_of_getElem? (i := 22) rfl)
set_option maxRecDepth 20000 in
theorem lk_430 : lk_ok (2, 10, 110, 5, 9, 0) := tb_i1 (List.mem_of_getElem? (i := 111) rfl)
set_option maxRecDepth 20000 in
theorem lk_431 : lk_ok (11, 10, 111, 0, 79, 0) := tb_i6 (List.mem_of_getElem? (i := 23) rfl)
set_option maxRecDepth 20000 in
theorem lk_432 : lk_ok (11, 10, 114, 0, 97, 0) := tb_i6 (List.mem_of_getElem? (i := 28) rfl)
set_option maxRecDepth 20000 in
theorem lk_433 : lk_ok (11, 10, 117, 0, 109, 0) := tb_i6 (List.mem_of_getElem? (i := 29) rfl)
set_option maxRecDepth 20000 in
theorem lk_434 : lk_ok (13, 11, 3, 0, 0, 0) := tb_i1 (List.mem_of_getElem? (i := 184) rfl)
set_option maxRecDepth 20000 in
theorem lk_435 : lk_ok (1, 11, 9, 11, 0, 0) := tb_i1 (List.mem_of_getElem? (i := 185) rfl)
set_option maxRecDepth 20000 in
theorem lk_436 : lk_ok (1, 11, 15, 11, 1, 0) := tb_i1 (List.mem_of_getElem? (i := 186) rfl)
set_option maxRecDepth 20000 in
theorem lk_437 : lk_ok (1, 11, 18, 11, 2, 0) := tb_i1 (List.mem_of_getElem? (i := 187) rfl)
set_option maxRecDepth 20000 in
theorem lk_438 : lk_ok (1, 11, 21, 11, 3, 0) := tb_i1 (List.mem_of_getElem? (i := 188) rfl)
set_option maxRecDepth 20000 in
theorem lk_439 : lk_ok (1, 11, 24, 11, 4, 0) := tb_i1 (List.mem_of_getElem? (i := 189) rfl)
set_option maxRecDepth 20000 in
theorem lk_440 : lk_ok (1, 11, 27, 11, 5, 0) := tb_i1 (List.mem_of_getElem? (i := 190) rfl)
set_option maxRecDepth 20000 in
theorem lk_441 : lk_ok (1, 11, 30, 11, 6, 0) := tb_i1 (List.mem_of_getElem? (i := 191) rfl)
set_option maxRecDepth 20000 in
theorem lk_442 : lk_ok (1, 11, 34, 11, 7, 0) := tb_i1 (List.mem_of_getElem? (i := 195) rfl)
set_option maxRecDepth 20000 in
theorem lk_443 : lk_ok (11, 11, 37, 0, 181, 0) := tb_i4 (List.mem_of_getElem? (i := 158) rfl)
set_option maxRecDepth 20000 in
theorem lk_444 : lk_ok (13, 12, 1, 0, 0, 0) := tb_i7 (List.mem_of_getElem? (i := 90) rfl)
set_option maxRecDepth 20000 in
theorem lk_445 : lk_ok (1, 12, 7, 12, 2, 0) := tb_i7 (List.mem_of_getElem? (i := 93) rfl)
set_option maxRecDepth 20000 in
theorem lk_446 : lk_ok (1, 12, 13, 12, 4, 0) := tb_i7 (List.mem_of_getElem? (i := 95) rfl)
set_option maxRecDepth 20000 in
theorem lk_447 : lk_ok (1, 12, 16, 12, 10, 0) := tb_i7 (List.mem_of_getElem? (i := 101) rfl)
set_option maxRecDepth 20000 in
theorem lk_448 : lk_ok (1, 12, 19, 12, 12, 0) := tb_i7 (List.mem_of_getElem? (i := 103) rfl)
set_option maxRecDepth 20000 in
theorem lk_449 : lk_ok (1, 12, 22, 12, 13, 0) := tb_i7 (List.mem_of_getElem? (i := 104) rfl)
set_option maxRecDepth 20000 in
theorem lk_450 : lk_ok (1, 12, 25, 12, 14, 0) := tb_i7 (List.mem_of_getElem? (i := 105) rfl)
set_option maxRecDepth 20000 in
theorem lk_451 : lk_ok (1, 12, 28, 12, 15, 0) := tb_i7 (List.mem_of_getElem? (i := 106) rfl)
set_option maxRecDepth 20000 in
theorem lk_452 : lk_ok (1, 12, 32, 12, 16, 0) := tb_i7 (List.mem_of_getElem? (i := 107) rfl)
set_option maxRecDepth 20000 in
theorem lk_453 : lk_ok (1, 12, 35, 12, 17, 0) := tb_i7 (List.mem_of_getElem? (i := 108) rfl)
set_option maxRecDepth 20000 in
theorem lk_454 : lk_ok (1, 12, 38, 12, 20, 0) := tb_i7 (List.mem_of_getElem? (i := 111) rfl)
set_option maxRecDepth 20000 in
theorem lk_455 : lk_ok (1, 12, 41, 12, 21, 0) := tb_i7 (List.mem_of_getElem? (i := 112) rfl)
set_option maxRecDepth 20000 in
theorem lk_456 : lk_ok (1, 12, 44, 12, 22, 0) := tb_i7 (List.mem_of_getElem? (i := 113) rfl)
set_option maxRecDepth 20000 in
theorem lk_457 : lk_ok (1, 12, 47, 12, 23, 0) := tb_i7 (List.mem_of_getElem? (i := 114) rfl)
set_option maxRecDepth 20000 in
theorem lk_458 : lk_ok (1, 12, 50, 12, 24, 0) := tb_i7 (List.mem_of_getElem? (i := 115) rfl)
set_option maxRecDepth 20000 in
theorem lk_459 : lk_ok (1, 12, 53, 12, 25, 0) := tb_i7 (List.mem_of_getElem? (i := 116) rfl)
set_option maxRecDepth 20000 in
theorem lk_460 : lk_ok (1, 12, 56, 12, 26, 0) := tb_i7 (List.mem_of_getElem? (i := 117) rfl)
set_option maxRecDepth 20000 in
theorem lk_461 : lk_ok (1, 12, 59, 12, 27, 0) := tb_i7 (List.mem_of_getElem? (i := 118) rfl)
set_option maxRecDepth 20000 in
theorem lk_462 : lk_ok (1, 12, 62, 12, 28, 0) := tb_i7 (List.mem_of_getElem? (i := 119) rfl)
set_option maxRecDepth 20000 in
theorem lk_463 : lk_ok (1, 12, 65, 12, 29, 0) := tb_i7 (List.mem_of_getElem? (i := 120) rfl)
set_option maxRecDepth 20000 in
theorem lk_464 : lk_ok (1, 12, 68, 12, 32, 0) := tb_i7 (List.mem_of_getElem? (i := 123) rfl)
set_option maxRecDepth 20000 in
theorem lk_465 : lk_ok (1, 12, 71, 12, 33, 0) := tb_i7 (List.mem_of_getElem? (i := 124) rfl)
set_option maxRecDepth 20000 in
theorem lk_466 : lk_ok (1, 12, 74, 12, 35, 0) := tb_i7 (List.mem_of_getElem? (i := 126) rfl)
set_option maxRecDepth 20000 in
theorem lk_467 : lk_ok (1, 12, 77, 12, 36, 0) := tb_i7 (List.mem_of_getElem? (i := 127) rfl)
set_option maxRecDepth 20000 in
theorem lk_468 : lk_ok (1, 12, 80, 12, 37, 0) := tb_i7 (List.mem_of_getElem? (i := 128) rfl)
set_option maxRecDepth 20000 in
theorem lk_469 : lk_ok (1, 12, 83, 12, 38, 0) := tb_i7 (List.mem_of_getElem? (i := 129) rfl)
set_option maxRecDepth 20000 in
theorem lk_470 : lk_ok (1, 12, 86, 12, 39, 0) := tb_i7 (List.mem_of_getElem? (i := 130) rfl)
set_option maxRecDepth 20000 in
theorem lk_471 : lk_ok (1, 12, 89, 12, 40, 0) := tb_i7 (List.mem_of_getElem? (i := 131) rfl)
set_option maxRecDepth 20000 in
theorem lk_472 : lk_ok (1, 12, 92, 12, 41, 0) := tb_i7 (List.mem_of_getElem? (i := 132) rfl)
set_option maxRecDepth 20000 in
theorem lk_473 : lk_ok (1, 12, 95, 12, 42, 0) := tb_i7 (List.mem_of_getElem? (i := 133) rfl)
set_option maxRecDepth 20000 in
theorem lk_474 : lk_ok (1, 12, 98, 12, 44, 0) := tb_i7 (List.mem_of_getElem? (i := 135) rfl)
set_option maxRecDepth 20000 in
theorem lk_475 : lk_ok (1, 12, 101, 12, 45, 0) := tb_i7 (List.mem_of_getElem? (i := 136) rfl)
set_option maxRecDepth 20000 in
theorem lk_476 : lk_ok (1, 12, 104, 12, 48, 0) := tb_i7 (List.mem_of_getElem? (i := 139) rfl)
set_option maxRecDepth 20000 in
theorem lk_477 : lk_ok (1, 12, 107, 12, 49, 0) := tb_i7 (List.mem_of_getElem? (i := 140) rfl)
set_option maxRecDepth 20000 in
theorem lk_478 : lk_ok (1, 12, 110, 12, 50, 0) := tb_i7 (List.mem_of_getElem? (i := 141) rfl)
set_option maxRecDepth 20000 in
theorem lk_479 : lk_ok (1, 12, 113, 12, 51, 0) := tb_i7 (List.mem_of_getElem? (i := 142) rfl)
set_option maxRecDepth 20000 in
theorem lk_480 : lk_ok (1, 12, 116, 12, 52, 0) := tb_i7 (List.mem_of_getElem? (i := 143) rfl)
set_option maxRecDepth 20000 in
theorem lk_481 : lk_ok (1, 12, 119, 12, 53, 0) := tb_i7 (List.mem_of_getElem? (i := 144) rfl)
set_option maxRecDepth 20000 in
theorem lk_482 : lk_ok (1, 12, 122, 12, 54, 0) := tb_i7 (List.mem_of_getElem? (i := 145) rfl)
set_option maxRecDepth 20000 in
theorem lk_483 : lk_ok (1, 12, 125, 12, 55, 0) := tb_i7 (List.mem_of_getElem? (i := 146) rfl)
set_option maxRecDepth 20000 in
theorem lk_484 : lk_ok (1, 12, 128, 12, 56, 0) := tb_i7 (List.mem_of_getElem? (i := 147) rfl)
set_option maxRecDepth 20000 in
theorem lk_485 : lk_ok (1, 12, 131, 12, 58, 0) := tb_i7 (List.mem_of_getElem? (i := 149) rfl)
set_option maxRecDepth 20000 in
theorem lk_486 : lk_ok (1, 12, 134, 12, 60, 0) := tb_i7 (List.mem_of_getElem? (i := 151) rfl)
set_option maxRecDepth 20000 in
theorem lk_487 : lk_ok (1, 12, 137, 12, 61, 0) := tb_i7 (List.mem_of_getElem? (i := 152) rfl)
set_option maxRecDepth 20000 in
theorem lk_488 : lk_ok (1, 12, 140, 12, 62, 0) := tb_i7 (List.mem_of_getElem? (i := 153) rfl)
set_option maxRecDepth 20000 in
theorem lk_489 : lk_ok (1, 12, 143, 12, 64, 0) := tb_i7 (List.mem_of_getElem? (i := 155) rfl)
set_option maxRecDepth 20000 in
theorem lk_490 : lk_ok (1, 12, 146, 12, 65, 0) := tb_i7 (List.mem_of_getElem? (i := 156) rfl)
set_option maxRecDepth 20000 in
theorem lk_491 : lk_ok (1, 12, 149, 12, 66, 0) := tb_i7 (List.mem_of_getElem? (i := 157) rfl)
set_option maxRecDepth 20000 in
theorem lk_492 : lk_ok (1, 12, 152, 12, 69, 0) := tb_i7 (List.mem_of_getElem? (i := 160) rfl)
set_option maxRecDepth 20000 in
theorem lk_493 : lk_ok (1, 12, 155, 12, 71, 0) := tb_i7 (List.mem_of_getElem? (i := 162) rfl)
set_option maxRecDepth 20000 in
theorem lk_494 : lk_ok (1, 12, 158, 12, 73, 0) := tb_i7 (List.mem_of_getElem? (i := 164) rfl)
set_option maxRecDepth 20000 in
theorem lk_495 : lk_ok (1, 12, 161, 12, 74, 0) := tb_i7 (List.mem_of_getElem? (i := 165) rfl)
set_option maxRecDepth 20000 in
theorem lk_496 : lk_ok (1, 12, 164, 12, 0, 0) := tb_i7 (List.mem_of_getElem? (i := 91) rfl)
set_option maxRecDepth 20000 in
theorem lk_497 : lk_ok (1, 12, 174, 12, 1, 0) := tb_i7 (List.mem_of_getElem? (i := 92) rfl)
set_option maxRecDepth 20000 in
theorem lk_498 : lk_ok (11, 12, 177, 0, 206, 0) := tb_i8 (List.mem_of_getElem? (i := 86) rfl)
set_option maxRecDepth 20000 in
theorem lk_499 : lk_ok (8, 12, 181, 0, 0, 16) := tb_i8 (List.mem_of_getElem? (i := 94) rfl)
set_option maxRecDepth 20000 in
theorem lk_500 : lk_ok (11, 12, 183, 0, 207, 0) := tb_i8 (List.mem_of_getElem? (i := 95) rfl)
set_option maxRecDepth 20000 in
theorem lk_501 : lk_ok (1, 12, 461, 12, 5, 0) := tb_i7 (List.mem_of_getElem? (i := 96) rfl)
set_option maxRecDepth 20000 in
theorem lk_502 : lk_ok (1, 12, 168, 12, 6, 0) := tb_i7 (List.mem_of_getElem? (i := 97) rfl)
set_option maxRecDepth 20000 in
theorem lk_503 : lk_ok (1, 12, 171, 12, 7, 0) := tb_i7 (List.mem_of_getElem? (i := 98) rfl)
set_option maxRecDepth 20000 in
theorem lk_504 : lk_ok (1, 12, 374, 12, 8, 0) := tb_i7 (List.mem_of_getElem? (i := 99) rfl)
set_option maxRecDepth 20000 in
theorem lk_505 : lk_ok (1, 12, 433, 12, 72, 0) := tb_i7 (List.mem_of_getElem? (i := 163) rfl)
set_option maxRecDepth 20000 in
theorem lk_506 : lk_ok (1, 12, 187, 12, 3, 0) := tb_i7 (List.mem_of_getElem? (i := 94) rfl)
set_option maxRecDepth 20000 in
theorem lk_507 : lk_ok (1, 12, 276, 12, 19, 0) := tb_i7 (List.mem_of_getElem? (i := 110) rfl)
set_option maxRecDepth 20000 in
theorem lk_508 : lk_ok (1, 12, 279, 12, 31, 0) := tb_i7 (List.mem_of_getElem? (i := 122) rfl)
set_option maxRecDepth 20000 in
theorem lk_509 : lk_ok (1, 12, 311, 12, 34, 0) := tb_i7 (List.mem_of_getElem? (i := 125) rfl)
set_option maxRecDepth 20000 in
theorem lk_510 : lk_ok (1, 12, 282, 12, 47, 0) := tb_i7 (List.mem_of_getElem? (i := 138) rfl)
set_option maxRecDepth 20000 in
theorem lk_511 : lk_ok (1, 12, 317, 12, 57, 0) := tb_i7 (List.mem_of_getElem? (i := 148) rfl)
set_option maxRecDepth 20000 in
theorem lk_512 : lk_ok (11, 12, 464, 0, 208, 0) := tb_i8 (List.mem_of_getElem? (i := 102) rfl)
set_option maxRecDepth 20000 in
theorem lk_513 : lk_ok (11, 12, 467, 0, 209, 0) := tb_i8 (List.mem_of_getElem? (i := 158) rfl)
set_option maxRecDepth 20000 in
theorem lk_514 : lk_ok (11, 12, 470, 0, 210, 0) := tb_i9 (List.mem_of_getElem? (i := 5) rfl)
set_option maxRecDepth 20000 in
theorem lk_515 : lk_ok (11, 12, 473, 0, 211, 0) := tb_i9 (List.mem_of_getElem? (i := 41) rfl)
set_option maxRecDepth 20000 in
theorem lk_516 : lk_ok (11, 12, 476, 0, 212, 0) := tb_i9 (List.mem_of_getElem? (i := 57) rfl)
set_option maxRecDepth 20000 in
theorem lk_517 : lk_ok (11, 12, 479, 0, 213, 0) := tb_i9 (List.mem_of_getElem? (i := 65) rfl)
set_option maxRecDepth 20000 in
theorem lk_518 : lk_ok (11, 12, 482, 0, 214, 0) := tb_i9 (List.mem_of_getElem? (i := 77) rfl)
set_option maxRecDepth 20000 in
theorem lk_519 : lk_ok (11, 12, 485, 0, 215, 0) := tb_i9 (List.mem_of_getElem? (i := 89) rfl)
set_option maxRecDepth 20000 in
theorem lk_520 : lk_ok (11, 12, 488, 0, 216, 0) := tb_i9 (List.mem_of_getElem? (i := 113) rfl)
set_option maxRecDepth 20000 in
theorem lk_521 : lk_ok (11, 12, 491, 0, 217, 0) := tb_i9 (List.mem_of_getElem? (i := 129) rfl)
set_option maxRecDepth 20000 in
theorem lk_522 : lk_ok (8, 12, 494, 0, 0, 4) := tb_i9 (List.mem_of_getElem? (i := 133) rfl)
set_option maxRecDepth 20000 in
theorem lk_523 : lk_ok (1, 12, 270, 12, 30, 0) := tb_i7 (List.mem_of_getElem? (i := 121) rfl)
set_option maxRecDepth 20000 in
theorem lk_524 : lk_ok (11, 12, 384, 0, 218, 0) := tb_i9 (List.mem_of_getElem? (i := 14) rfl)
set_option maxRecDepth 20000 in
theorem lk_525 : lk_ok (11, 12, 458, 0, 219, 0) := tb_i9 (List.mem_of_getElem? (i := 117) rfl)
set_option maxRecDepth 20000 in
theorem lk_526 : lk_ok (8, 12, 496, 0, 0, -1) := tb_i9 (List.mem_of_getElem? (i := 142) rfl)
set_option maxRecDepth 20000 in
theorem lk_527 : lk_ok (8, 12, 498, 0, 0, 6) := tb_i9 (List.mem_of_getElem? (i := 143) rfl)
set_option maxRecDepth 20000 in
theorem lk_528 : lk_ok (1, 12, 500, 12, 9, 0) := tb_i7 (List.mem_of_getElem? (i := 100) rfl)
set_option maxRecDepth 20000 in
theorem lk_529 : lk_ok (1, 12, 242, 12, 11, 0) := tb_i7 (List.mem_of_getElem? (i := 102) rfl)
set_option maxRecDepth 20000 in
theorem lk_530 : lk_ok (11, 12, 511, 0, 220, 0) := tb_i9 (List.mem_of_getElem? (i := 152) rfl)
set_option maxRecDepth 20000 in
theorem lk_531 : lk_ok (11, 12, 505, 0, 221, 0) := tb_i9 (List.mem_of_getElem? (i := 159) rfl)
set_option maxRecDepth 20000 in
theorem lk_532 : lk_ok (11, 12, 514, 0, 222, 0) := tb_i9 (List.mem_of_getElem? (i := 163) rfl)
set_option maxRecDepth 20000 in
theorem lk_533 : lk_ok (11, 12, 245, 0, 223, 0) := tb_i8 (List.mem_of_getElem? (i := 106) rfl)
set_option maxRecDepth 20000 in
theorem lk_534 : lk_ok (11, 12, 208, 0, 224, 0) := tb_i8 (List.mem_of_getElem? (i := 110) rfl)
set_option maxRecDepth 20000 in
theorem lk_535 : lk_ok (11, 12, 248, 0, 225, 0) := tb_i8 (List.mem_of_getElem? (i := 114) rfl)
set_option maxRecDepth 20000 in
theorem lk_536 : lk_ok (11, 12, 194, 0, 226, 0) := tb_i8 (List.mem_of_getElem? (i := 121) rfl)
set_option maxRecDepth 20000 in
theorem lk_537 : lk_ok (11, 12, 238, 0, 227, 0) := tb_i8 (List.mem_of_getElem? (i := 126) rfl)
set_option maxRecDepth 20000 in
theorem lk_538 : lk_ok (11, 12, 251, 0, 228, 0) := tb_i8 (List.mem_of_getElem? (i := 130) rfl)
set_option maxRecDepth 20000 in
theorem lk_539 : lk_ok (11, 12, 255, 0, 229, 0) := tb_i8 (List.mem_of_getElem? (i := 146) rfl)
set_option maxRecDepth 20000 in
theorem lk_540 : lk_ok (11, 12, 258, 0, 230, 0) := tb_i8 (List.mem_of_getElem? (i := 154) rfl)
set_option maxRecDepth 20000 in
theorem lk_541 : lk_ok (1, 12, 261, 12, 18, 0) := tb_i7 (List.mem_of_getElem? (i := 109) rfl)
set_option maxRecDepth 20000 in
theorem lk_542 : lk_ok (11, 12, 267, 0, 231, 0) := tb_i8 (List.mem_of_getElem? (i := 162) rfl)
set_option maxRecDepth 20000 in
theorem lk_543 : lk_ok (11, 12, 264, 0, 232, 0) := tb_i8 (List.mem_of_getElem? (i := 166) rfl)
set_option maxRecDepth 20000 in
theorem lk_544 : lk_ok (11, 12, 273, 0, 233, 0) := tb_i8 (List.mem_of_getElem? (i := 170) rfl)
set_option maxRecDepth 20000 in
theorem lk_545 : lk_ok (8, 12, 391, 0, 0, 64) := tb_i9 (List.mem_of_getElem? (i := 9) rfl)
set_option maxRecDepth 20000 in
theorem lk_546 : lk_ok (11, 12, 393, 0, 234, 0) := tb_i9 (List.mem_of_getElem? (i := 10) rfl)
set_option maxRecDepth 20000 in
theorem lk_547 : lk_ok (8, 12, 397, 0, 0, 32) := tb_i9 (List.mem_of_getElem? (i := 28) rfl)
set_option maxRecDepth 20000 in
theorem lk_548 : lk_ok (8, 12, 399, 0, 0, 20) := tb_i9 (List.mem_of_getElem? (i := 29) rfl)
set_option maxRecDepth 20000 in
theorem lk_549 : lk_ok (8, 12, 401, 0, 0, 2) := tb_i9 (List.mem_of_getElem? (i := 30) rfl)
set_option maxRecDepth 20000 in
theorem lk_550 : lk_ok (11, 12, 388, 0, 235, 0) := tb_i9 (List.mem_of_getElem? (i := 24) rfl)
set_option maxRecDepth 20000 in
theorem lk_551 : lk_ok (11, 12, 403, 0, 236, 0) := tb_i9 (List.mem_of_getElem? (i := 31) rfl)
set_option maxRecDepth 20000 in
theorem lk_552 : lk_ok (8, 12, 406, 0, 0, 255) := tb_i9 (List.mem_of_getElem? (i := 35) rfl)
set_option maxRecDepth 20000 in
theorem lk_553 : lk_ok (8, 12, 408, 0, 0, 31) := tb_i9 (List.mem_of_getElem? (i := 36) rfl)
set_option maxRecDepth 20000 in
theorem lk_554 : lk_ok (11, 12, 410, 0, 237, 0) := tb_i9 (List.mem_of_getElem? (i := 37) rfl)
set_option maxRecDepth 20000 in
theorem lk_555 : lk_ok (11, 12, 417, 0, 238, 0) := tb_i9 (List.mem_of_getElem? (i := 45) rfl)
set_option maxRecDepth 20000 in
theorem lk_556 : lk_ok (11, 12, 413, 0, 239, 0) := tb_i9 (List.mem_of_getElem? (i := 49) rfl)
set_option maxRecDepth 20000 in
theorem lk_557 : lk_ok (11, 12, 420, 0, 240, 0) := tb_i9 (List.mem_of_getElem? (i := 53) rfl)
set_option maxRecDepth 20000 in
theorem lk_558 : lk_ok (11, 12, 424, 0, 241, 0) := tb_i9 (List.mem_of_getElem? (i := 61) rfl)
set_option maxRecDepth 20000 in
theorem lk_559 : lk_ok (11, 12, 427, 0, 242, 0) := tb_i9 (List.mem_of_getElem? (i := 69) rfl)
set_option maxRecDepth 20000 in
theorem lk_560 : lk_ok (11, 12, 430, 0, 243, 0) := tb_i9 (List.mem_of_getElem? (i := 73) rfl)
set_option maxRecDepth 20000 in
theorem lk_561 : lk_ok (11, 12, 436, 0, 244, 0) := tb_i9 (List.mem_of_getElem? (i := 81) rfl)
set_option maxRecDepth 20000 in
theorem lk_562 : lk_ok (11, 12, 439, 0, 245, 0) := tb_i9 (List.mem_of_getElem? (i := 85) rfl)
set_option maxRecDepth 20000 in
theorem lk_563 : lk_ok (11, 12, 442, 0, 246, 0) := tb_i9 (List.mem_of_getElem? (i := 93) rfl)
set_option maxRecDepth 20000 in
theorem lk_564 : lk_ok (11, 12, 452, 0, 247, 0) := tb_i9 (List.mem_of_getElem? (i := 97) rfl)
set_option maxRecDepth 20000 in
theorem lk_565 : lk_ok (11, 12, 455, 0, 248, 0) := tb_i9 (List.mem_of_getElem? (i := 109) rfl)
set_option maxRecDepth 20000 in
theorem lk_566 : lk_ok (11, 12, 377, 0, 249, 0) := tb_i9 (List.mem_of_getElem? (i := 18) rfl)
set_option maxRecDepth 20000 in
theorem lk_567 : lk_ok (8, 12, 380, 0, 0, 10) := tb_i9 (List.mem_of_getElem? (i := 22) rfl)
set_option maxRecDepth 20000 in
theorem lk_568 : lk_ok (8, 12, 190, 0, 0, 48) := tb_i8 (List.mem_of_getElem? (i := 124) rfl)
set_option maxRecDepth 20000 in
theorem lk_569 : lk_ok (8, 12, 382, 0, 0, 1099511627776) := tb_i9 (List.mem_of_getElem? (i := 23) rfl)
set_option maxRecDepth 20000 in
theorem lk_570 : lk_ok (11, 12, 508, 0, 250, 0) := tb_i9 (List.mem_of_getElem? (i := 156) rfl)
set_option maxRecDepth 20000 in
theorem lk_571 : lk_ok (8, 12, 503, 0, 0, 9) := tb_i9 (List.mem_of_getElem? (i := 167) rfl)
set_option maxRecDepth 20000 in
theorem lk_572 : lk_ok (8, 12, 198, 0, 0, 97) := tb_i8 (List.mem_of_getElem? (i := 117) rfl)
set_option maxRecDepth 20000 in
theorem lk_573 : lk_ok (8, 12, 202, 0, 0, 122) := tb_i8 (List.mem_of_getElem? (i := 118) rfl)
set_option maxRecDepth 20000 in
theorem lk_574 : lk_ok (8, 12, 204, 0, 0, 65) := tb_i8 (List.mem_of_getElem? (i := 119) rfl)
set_option maxRecDepth 20000 in
theorem lk_575 : lk_ok (8, 12, 206, 0, 0, 90) := tb_i8 (List.mem_of_getElem? (i := 120) rfl)
set_option maxRecDepth 20000 in
theorem lk_576 : lk_ok (8, 12, 192, 0, 0, 57) := tb_i8 (List.mem_of_getElem? (i := 125) rfl)
set_option maxRecDepth 20000 in
theorem lk_577 : lk_ok (8, 12, 211, 0, 0, 2003792484) := tb_i8 (List.mem_of_getElem? (i := 134) rfl)
set_option maxRecDepth 20000 in
theorem lk_578 : lk_ok (8, 12, 213, 0, 0, 7497063) := tb_i8 (List.mem_of_getElem? (i := 135) rfl)
set_option maxRecDepth 20000 in
theorem lk_579 : lk_ok (8, 12, 215, 0, 0, 7169389) := tb_i8 (List.mem_of_getElem? (i := 136) rfl)
set_option maxRecDepth 20000 in
theorem lk_580 : lk_ok (8, 12, 217, 0, 0, 6579558) := tb_i8 (List.mem_of_getElem? (i := 137) rfl)
set_option maxRecDepth 20000 in
theorem lk_581 : lk_ok (8, 12, 219, 0, 0, 6909555) := tb_i8 (List.mem_of_getElem? (i := 138) rfl)
set_option maxRecDepth 20000 in
theorem lk_582 : lk_ok (8, 12, 221, 0, 0, 26982) := tb_i8 (List.mem_of_getElem? (i := 139) rfl)
set_option maxRecDepth 20000 in
theorem lk_583 : lk_ok (8, 12, 223, 0, 0, 1701606245) := tb_i8 (List.mem_of_getElem? (i := 140) rfl)
set_option maxRecDepth 20000 in
theorem lk_584 : lk_ok (8, 12, 225, 0, 0, 7497072) := tb_i8 (List.mem_of_getElem? (i := 141) rfl)
set_option maxRecDepth 20000 in
theorem lk_585 : lk_ok (8, 12, 227, 0, 0, 491260572517) := tb_i8 (List.mem_of_getElem? (i := 142) rfl)
set_option maxRecDepth 20000 in
theorem lk_586 : lk_ok (8, 12, 229, 0, 0, 29560) := tb_i8 (List.mem_of_getElem? (i := 143) rfl)
set_option maxRecDepth 20000 in
theorem lk_587 : lk_ok (8, 12, 231, 0, 0, 31352) := tb_i8 (List.mem_of_getElem? (i := 144) rfl)
set_option maxRecDepth 20000 in
theorem lk_588 : lk_ok (8, 12, 233, 0, 0, 6513012) := tb_i8 (List.mem_of_getElem? (i := 145) rfl)
set_option maxRecDepth 20000 in
theorem lk_589 : lk_ok (11, 12, 235, 0, 251, 0) := tb_i8 (List.mem_of_getElem? (i := 150) rfl)
set_option maxRecDepth 20000 in
theorem lk_590 : lk_ok (1, 12, 285, 12, 46, 0) := tb_i7 (List.mem_of_getElem? (i := 137) rfl)
set_option maxRecDepth 20000 in
theorem lk_591 : lk_ok (11, 12, 288, 0, 252, 0) := tb_i8 (List.mem_of_getElem? (i := 174) rfl)
set_option maxRecDepth 20000 in
theorem lk_592 : lk_ok (11, 12, 291, 0, 253, 0) := tb_i8 (List.mem_of_getElem? (i := 178) rfl)
set_option maxRecDepth 20000 in
theorem lk_593 : lk_ok (11, 12, 295, 0, 254, 0) := tb_i8 (List.mem_of_getElem? (i := 233) rfl)
set_option maxRecDepth 20000 in
theorem lk_594 : lk_ok (11, 12, 445, 0, 255, 0) := tb_i9 (List.mem_of_getElem? (i := 101) rfl)
set_option maxRecDepth 20000 in
theorem lk_595 : lk_ok (11, 12, 449, 0, 256, 0) := tb_i9 (List.mem_of_getElem? (i := 105) rfl)
set_option maxRecDepth 20000 in
theorem lk_596 : lk_ok (8, 12, 200, 0, 0, 102) := tb_i8 (List.mem_of_getElem? (i := 153) rfl)
set_option maxRecDepth 20000 in
theorem lk_597 : lk_ok (11, 12, 298, 0, 257, 0) := tb_i8 (List.mem_of_getElem? (i := 182) rfl)
set_option maxRecDepth 20000 in
theorem lk_598 : lk_ok (1, 12, 301, 12, 43, 0) := tb_i7 (List.mem_of_getElem? (i := 134) rfl)
set_option maxRecDepth 20000 in
theorem lk_599 : lk_ok (11, 12, 304, 0, 258, 0) := tb_i8 (List.mem_of_getElem? (i := 237) rfl)
set_option maxRecDepth 20000 in
theorem lk_600 : lk_ok (11, 12, 308, 0, 259, 0) := tb_i9 (List.mem_of_getElem? (i := 1) rfl)
set_option maxRecDepth 20000 in
theorem lk_601 : lk_ok (1, 12, 314, 12, 59, 0) := tb_i7 (List.mem_of_getElem? (i := 150) rfl)
set_option maxRecDepth 20000 in
theorem lk_602 : lk_ok (1, 12, 334, 12, 63, 0) := tb_i7 (List.mem_of_getElem? (i := 154) rfl)
set_option maxRecDepth 20000 in
theorem lk_603 : lk_ok (1, 12, 344, 12, 67, 0) := tb_i7 (List.mem_of_getElem? (i := 158) rfl)
set_option maxRecDepth 20000 in
theorem lk_604 : lk_ok (1, 12, 320, 12, 68, 0) := tb_i7 (List.mem_of_getElem? (i := 159) rfl)
set_option maxRecDepth 20000 in
theorem lk_605 : lk_ok (11, 12, 347, 0, 260, 0) := tb_i8 (List.mem_of_getElem? (i := 186) rfl)
set_option maxRecDepth 20000 in
theorem lk_606 : lk_ok (11, 12, 351, 0, 261, 0) := tb_i8 (List.mem_of_getElem? (i := 202) rfl)
set_option maxRecDepth 20000 in
theorem lk_607 : lk_ok (1, 12, 355, 12, 70, 0) := tb_i7 (List.mem_of_getElem? (i := 161) rfl)
set_option maxRecDepth 20000 in
theorem lk_608 : lk_ok (11, 12, 359, 0, 262, 0) := tb_i8 (List.mem_of_getElem? (i := 190) rfl)
set_option maxRecDepth 20000 in
theorem lk_609 : lk_ok (11, 12, 326, 0, 263, 0) := tb_i8 (List.mem_of_getElem? (i := 194) rfl)
set_option maxRecDepth 20000 in
theorem lk_610 : lk_ok (11, 12, 330, 0, 264, 0) := tb_i8 (List.mem_of_getElem? (i := 198) rfl)
set_option maxRecDepth 20000 in
theorem lk_611 : lk_ok (11, 12, 337, 0, 265, 0) := tb_i8 (List.mem_of_getElem? (i := 206) rfl)
set_option maxRecDepth 20000 in
theorem lk_612 : lk_ok (11, 12, 340, 0, 266, 0) := tb_i8 (List.mem_of_getElem? (i := 213) rfl)
set_option maxRecDepth 20000 in
theorem lk_613 : lk_ok (11, 12, 362, 0, 267, 0) := tb_i8 (List.mem_of_getElem? (i := 217) rfl)
set_option maxRecDepth 20000 in
theorem lk_614 : lk_ok (11, 12, 323, 0, 268, 0) := tb_i8 (List.mem_of_getElem? (i := 210) rfl)
set_option maxRecDepth 20000 in
theorem lk_615 : lk_ok (11, 12, 365, 0, 269, 0) := tb_i8 (List.mem_of_getElem? (i := 221) rfl)
set_option maxRecDepth 20000 in
theorem lk_616 : lk_ok (11, 12, 368, 0, 270, 0) := tb_i8 (List.mem_of_getElem? (i := 225) rfl)
set_option maxRecDepth 20000 in
theorem lk_617 : lk_ok (11, 12, 371, 0, 271, 0) := tb_i8 (List.mem_of_getElem? (i := 229) rfl)
set_option maxRecDepth 20000 in
theorem lk_618 : lk_ok (1, 13, 9, 13, 0, 0) := tb_i9 (List.mem_of_getElem? (i := 181) rfl)
set_option maxRecDepth 20000 in
theorem lk_619 : lk_ok (11, 13, 335, 0, 275, 0) := tb_i3 (List.mem_of_getElem? (i := 119) rfl)
set_option maxRecDepth 20000 in
theorem lk_620 : lk_ok (11, 13, 492, 0, 276, 0) := tb_i3 (List.mem_of_getElem? (i := 129) rfl)
set_option maxRecDepth 20000 in
theorem lk_621 : lk_ok (11, 13, 495, 0, 296, 0) := tb_i3 (List.mem_of_getElem? (i := 133) rfl)
set_option maxRecDepth 20000 in
theorem lk_622 : lk_ok (11, 13, 633, 0, 277, 0) := tb_i4 (List.mem_of_getElem? (i := 20) rfl)
set_option maxRecDepth 20000 in
theorem lk_623 : lk_ok (4, 13, 38, 1, 0, 0) := tb_i3 (List.mem_of_getElem? (i := 123) rfl)
set_option maxRecDepth 20000 in
theorem lk_624 : lk_ok (1, 13, 15, 13, 1, 0) := tb_i9 (List.mem_of_getElem? (i := 182) rfl)
set_option maxRecDepth 20000 in
theorem lk_625 : lk_ok (11, 13, 505, 0, 272, 0) := tb_i4 (List.mem_of_getElem? (i := 24) rfl)
set_option maxRecDepth 20000 in
theorem lk_626 : lk_ok (11, 13, 637, 0, 297, 0) := tb_i4 (List.mem_of_getElem? (i := 25) rfl)
set_option maxRecDepth 20000 in
theorem lk_627 : lk_ok (5, 13, 1053, 0, 26, 0) := tb_i3 (List.mem_of_getElem? (i := 139) rfl)
set_option maxRecDepth 20000 in
theorem lk_628 : lk_ok (11, 13, 1059, 0, 300, 0) := tb_i3 (List.mem_of_getElem? (i := 141) rfl)
set_option maxRecDepth 20000 in
theorem lk_629 : lk_ok (9, 17, 8, 0, 0, 0) := tb_i1 (List.mem_of_getElem? (i := 29) rfl)
set_option maxRecDepth 20000 in
theorem lk_630 : lk_ok (11, 17, 53, 0, 0, 0) := tb_i1 (List.mem_of_getElem? (i := 31) rfl)
set_option maxRecDepth 20000 in
theorem lk_631 : lk_ok (9, 17, 54, 0, 12, 0) := tb_i7 (List.mem_of_getElem? (i := 85) rfl)
set_option maxRecDepth 20000 in
theorem lk_632 : lk_ok (11, 17, 56, 0, 192, 0) := tb_i7 (List.mem_of_getElem? (i := 87) rfl)
set_option maxRecDepth 20000 in
theorem lk_633 : lk_ok (11, 17, 57, 0, 280, 0) := tb_i2 (List.mem_of_getElem? (i := 220) rfl)
set_option maxRecDepth 20000 in
theorem lk_634 : lk_ok (11, 17, 62, 0, 193, 0) := tb_i8 (List.mem_of_getElem? (i := 82) rfl)
set_option maxRecDepth 20000 in
theorem lk_635 : lk_ok (11, 17, 87, 0, 194, 0) := tb_i8 (List.mem_of_getElem? (i := 78) rfl)
set_option maxRecDepth 20000 in
theorem lk_636 : lk_ok (11, 17, 63, 0, 281, 0) := tb_i3 (List.mem_of_getElem? (i := 59) rfl)
set_option maxRecDepth 20000 in
theorem lk_637 : lk_ok (11, 17, 66, 0, 195, 0) := tb_i8 (List.mem_of_getElem? (i := 90) rfl)
set_option maxRecDepth 20000 in
theorem lk_638 : lk_ok (11, 17, 67, 0, 282, 0) := tb_i3 (List.mem_of_getElem? (i := 84) rfl)
set_option maxRecDepth 20000 in
theorem lk_639 : lk_ok (11, 17, 70, 0, 196, 0) := tb_i8 (List.mem_of_getElem? (i := 98) rfl)
set_option maxRecDepth 20000 in
theorem lk_640 : lk_ok (11, 17, 71, 0, 283, 0) := tb_i6 (List.mem_of_getElem? (i := 154) rfl)
set_option maxRecDepth 20000 in
theorem lk_641 : lk_ok (11, 17, 73, 0, 197, 0) := tb_i9 (List.mem_of_getElem? (i := 121) rfl)
set_option maxRecDepth 20000 in
theorem lk_642 : lk_ok (11, 17, 74, 0, 284, 0) := tb_i6 (List.mem_of_getElem? (i := 182) rfl)
set_option maxRecDepth 20000 in
theorem lk_643 : lk_ok (11, 17, 77, 0, 198, 0) := tb_i9 (List.mem_of_getElem? (i := 125) rfl)
set_option maxRecDepth 20000 in
theorem lk_644 : lk_ok (11, 17, 78, 0, 285, 0) := tb_i6 (List.mem_of_getElem? (i := 202) rfl)
set_option maxRecDepth 20000 in
theorem lk_645 : lk_ok (11, 17, 80, 0, 199, 0) := tb_i9 (List.mem_of_getElem? (i := 134) rfl)
set_option maxRecDepth 20000 in
theorem lk_646 : lk_ok (11, 17, 81, 0, 286, 0) := tb_i6 (List.mem_of_getElem? (i := 215) rfl)
set_option maxRecDepth 20000 in
theorem lk_647 : lk_ok (11, 17, 83, 0, 200, 0) := tb_i9 (List.mem_of_getElem? (i := 138) rfl)
set_option maxRecDepth 20000 in
theorem lk_648 : lk_ok (11, 17, 84, 0, 287, 0) := tb_i6 (List.mem_of_getElem? (i := 229) rfl)
set_option maxRecDepth 20000 in
theorem lk_649 : lk_ok (11, 17, 86, 0, 201, 0) := tb_i9 (List.mem_of_getElem? (i := 144) rfl)
set_option maxRecDepth 20000 in
theorem lk_650 : lk_ok (11, 17, 90, 0, 288, 0) := tb_i7 (List.mem_of_getElem? (i := 6) rfl)
set_option maxRecDepth 20000 in
theorem lk_651 : lk_ok (11, 17, 92, 0, 202, 0) := tb_i9 (List.mem_of_getElem? (i := 148) rfl)
set_option maxRecDepth 20000 in
theorem lk_652 : lk_ok (11, 17, 93, 0, 289, 0) := tb_i7 (List.mem_of_getElem? (i := 54) rfl)
set_option maxRecDepth 20000 in
theorem lk_653 : lk_ok (11, 17, 95, 0, 203, 0) := tb_i9 (List.mem_of_getElem? (i := 168) rfl)
set_option maxRecDepth 20000 in
theorem lk_654 : lk_ok (11, 17, 96, 0, 290, 0) := tb_i7 (List.mem_of_getElem? (i := 71) rfl)
set_option maxRecDepth 20000 in
theorem lk_655 : lk_ok (11, 17, 98, 0, 204, 0) := tb_i9 (List.mem_of_getElem? (i := 172) rfl)
set_option maxRecDepth 20000 in
theorem lk_656 : lk_ok (11, 17, 99, 0, 1, 0) := tb_i2 (List.mem_of_getElem? (i := 216) rfl)
set_option maxRecDepth 20000 in
theorem lk_657 : lk_ok (11, 17, 102, 0, 205, 0) := tb_i9 (List.mem_of_getElem? (i := 176) rfl)
set_option maxRecDepth 20000 in
theorem lk_658 : lk_ok (11, 17, 7, 0, 2, 0) := tb_i2 (List.mem_of_getElem? (i := 224) rfl)
set_option maxRecDepth 20000 in
theorem lk_659 : lk_ok (16, 17, 13, 0, 14, 0) := tb_i2 (List.mem_of_getElem? (i := 223) rfl)
set_option maxRecDepth 20000 in
theorem lk_660 : lk_ok (11, 17, 15, 0, 3, 0) := tb_i3 (List.mem_of_getElem? (i := 63) rfl)
set_option maxRecDepth 20000 in
theorem lk_661 : lk_ok (16, 17, 19, 0, 15, 0) := tb_i3 (List.mem_of_getElem? (i := 62) rfl)
set_option maxRecDepth 20000 in
theorem lk_662 : lk_ok (11, 17, 21, 0, 4, 0) := tb_i3 (List.mem_of_getElem? (i := 87) rfl)
set_option maxRecDepth 20000 in
theorem lk_663 : lk_ok (11, 17, 25, 0, 5, 0) := tb_i6 (List.mem_of_getElem? (i := 158) rfl)
set_option maxRecDepth 20000 in
theorem lk_664 : lk_ok (16, 17, 28, 0, 16, 0) := tb_i6 (List.mem_of_getElem? (i := 157) rfl)
set_option maxRecDepth 20000 in
theorem lk_665 : lk_ok (11, 17, 30, 0, 6, 0) := tb_i6 (List.mem_of_getElem? (i := 185) rfl)
set_option maxRecDepth 20000 in
theorem lk_666 : lk_ok (11, 17, 34, 0, 7, 0) := tb_i6 (List.mem_of_getElem? (i := 205) rfl)
set_option maxRecDepth 20000 in
theorem lk_667 : lk_ok (11, 17, 38, 0, 8, 0) := tb_i6 (List.mem_of_getElem? (i := 218) rfl)
set_option maxRecDepth 20000 in
theorem lk_668 : lk_ok (11, 17, 41, 0, 9, 0) := tb_i6 (List.mem_of_getElem? (i := 232) rfl)
set_option maxRecDepth 20000 in
theorem lk_669 : lk_ok (11, 17, 44, 0, 10, 0) := tb_i7 (List.mem_of_getElem? (i := 9) rfl)
set_option maxRecDepth 20000 in
theorem lk_670 : lk_ok (11, 17, 47, 0, 11, 0) := tb_i7 (List.mem_of_getElem? (i := 57) rfl)
set_option maxRecDepth 20000 in
theorem lk_671 : lk_ok (11, 17, 50, 0, 12, 0) := tb_i7 (List.mem_of_getElem? (i := 74) rfl)
set_option maxRecDepth 20000 in
theorem lk_672 : lk_ok (6, 19, 265, 0, 0, 1431655765) := tb_i5 (List.mem_of_getElem? (i := 133) rfl)
set_option maxRecDepth 20000 in
theorem lk_673 : lk_ok (6, 19, 266, 0, 0, 858993459) := tb_i5 (List.mem_of_getElem? (i := 134) rfl)
set_option maxRecDepth 20000 in
theorem lk_674 : lk_ok (6, 19, 267, 0, 0, 252645135) := tb_i5 (List.mem_of_getElem? (i := 135) rfl)
set_option maxRecDepth 20000 in
theorem lk_675 : lk_ok (6, 19, 264, 0, 0, 65536) := tb_i6 (List.mem_of_getElem? (i := 107) rfl)
set_option maxRecDepth 20000 in
theorem lk_676 : lk_ok (11, 20, 9, 0, 278, 0) := tb_i3 (List.mem_of_getElem? (i := 136) rfl)
set_option maxRecDepth 20000 in
theorem lk_677 : lk_ok (11, 20, 88, 0, 298, 0) := tb_i4 (List.mem_of_getElem? (i := 28) rfl)
set_option maxRecDepth 20000 in
theorem lk_678 : lk_ok (11, 20, 92, 0, 292, 0) := tb_i4 (List.mem_of_getElem? (i := 31) rfl)
set_option maxRecDepth 20000 in
theorem lk_679 : lk_ok (11, 20, 38, 0, 291, 0) := tb_i4 (List.mem_of_getElem? (i := 32) rfl)
set_option maxRecDepth 20000 in
theorem lk_680 : lk_ok (11, 20, 95, 0, 299, 0) := tb_i4 (List.mem_of_getElem? (i := 33) rfl)
theorem lk_c0 : ∀ r ∈ ([(13, 0, 3, 0, 0, 0), (1, 0, 9, 0, 0, 0), (9, 0, 13, 0, 4, 0), (11, 0, 15, 0, 67, 0), (1, 0, 16, 0, 3, 0), (9, 0, 20, 0, 6, 0), (12, 0, 22, 0, 100, 0), (1, 0, 23, 0, 4, 0), (9, 0, 27, 0, 5, 0), (11, 0, 29, 0, 72, 0), (1, 0, 32, 0, 5, 0), (9, 0, 36, 0, 7, 0), (12, 0, 38, 0, 112, 0), (1, 0, 39, 0, 6, 0), (9, 0, 43, 0, 11, 0), (12, 0, 45, 0, 179, 0), (1, 0, 46, 0, 7, 0), (9, 0, 50, 0, 2, 0), (12, 0, 52, 0, 32, 0), (1, 0, 53, 0, 8, 0), (9, 0, 57, 0, 3, 0), (11, 0, 59, 0, 43, 0), (1, 0, 62, 0, 9, 0), (9, 0, 66, 0, 9, 0), (11, 0, 68, 0, 139, 0)] : List (Nat × Nat × Nat × Nat × Nat × Int)), lk_ok r := List.forall_mem_cons.mpr ⟨lk_0, List.forall_mem_cons.mpr ⟨lk_1, List.forall_mem_cons.mpr ⟨lk_2, List.forall_mem_cons.mpr ⟨lk_3, List.forall_mem_cons.mpr ⟨lk_4, List.forall_mem_cons.mpr ⟨lk_5, List.forall_mem_cons.mpr ⟨lk_6, List.forall_mem_cons.mpr ⟨lk_7, List.forall_mem_cons.mpr ⟨lk_8, List.forall_mem_cons.mpr ⟨lk_9, List.forall_mem_cons.mpr ⟨lk_10, List.forall_mem_cons.mpr ⟨lk_11, List.forall_mem_cons.mpr ⟨lk_12, List.forall_mem_cons.mpr ⟨lk_13, List.forall_mem_cons.mpr ⟨lk_14, List.forall_mem_cons.mpr ⟨lk_15, List.forall_mem_cons.mpr ⟨lk_16, List.forall_mem_cons.mpr ⟨lk_17, List.forall_mem_cons.mpr ⟨lk_18, List.forall_mem_cons.mpr ⟨lk_19, List.forall_mem_cons.mpr ⟨lk_20, List.forall_mem_cons.mpr ⟨lk_21, List.forall_mem_cons.mpr ⟨lk_22, List.forall_mem_cons.mpr ⟨lk_23, List.forall_mem_cons.mpr ⟨lk_24, List.forall_mem_nil _⟩⟩⟩⟩⟩⟩⟩⟩⟩⟩⟩⟩⟩⟩⟩⟩⟩⟩⟩⟩⟩⟩⟩⟩⟩
theorem lk_c25 : ∀ r ∈ ([(1, 0, 71, 0, 10, 0), (9, 0, 75, 0, 1, 0), (11, 0, 77, 0, 17, 0), (1, 0, 80, 0, 11, 0), (9, 0, 84, 0, 10, 0), (11, 0, 86, 0, 160, 0), (1, 0, 89, 0, 12, 0), (9, 0, 93, 0, 8, 0), (11, 0, 95, 0, 127, 0), (1, 0, 98, 0, 13, 0), (1, 0, 102, 0, 1, 0), (2, 0, 234, 5, 9, 0), (2, 0, 152, 11, 6, 0), (2, 0, 185, 7, 7, 0), (2, 0, 221, 8, 2, 0), (10, 0, 106, 1, 14, 0), (7, 0, 108, 1, 6, 0), (15, 0, 110, 0, 14, 0), (11, 0, 113, 0, 13, 0), (10, 0, 117, 1, 15, 0), (7, 0, 119, 1, 7, 0), (15, 0, 121, 0, 15, 0), (7, 0, 122, 1, 8, 0), (11, 0, 124, 0, 14, 0), (11, 0, 127, 0, 73, 0)] : List (Nat × Nat × Nat × Nat × Nat × Int)), lk_ok r := List.forall_mem_cons.mpr ⟨lk_25, List.forall_mem_cons.mpr ⟨lk_26, List.forall_mem_cons.mpr ⟨lk_27, List.forall_mem_cons.mpr ⟨lk_28, List.forall_mem_cons.mpr ⟨lk_29, List.forall_mem_cons.mpr ⟨lk_30, List.forall_mem_cons.mpr ⟨lk_31, List.forall_mem_cons.mpr ⟨lk_32, List.forall_mem_cons.mpr ⟨lk_33, List.forall_mem_cons.mpr ⟨lk_34, List.forall_mem_cons.mpr ⟨lk_35, List.forall_mem_cons.mpr ⟨lk_36, List.forall_mem_cons.mpr ⟨lk_37, List.forall_mem_cons.mpr ⟨lk_38, List.forall_mem_cons.mpr ⟨lk_39, List.forall_mem_cons.mpr ⟨lk_40, List.forall_mem_cons.mpr ⟨lk_41, List.forall_mem_cons.mpr ⟨lk_42, List.forall_mem_cons.mpr ⟨lk_43, List.forall_mem_cons.mpr ⟨lk_44, List.forall_mem_cons.mpr ⟨lk_45, List.forall_mem_cons.mpr ⟨lk_46, List.forall_mem_cons.mpr ⟨lk_47, List.forall_mem_cons.mpr ⟨lk_48, List.forall_mem_cons.mpr ⟨lk_49, List.forall_mem_nil _⟩⟩⟩⟩⟩⟩⟩⟩⟩⟩⟩⟩⟩⟩⟩⟩⟩⟩⟩⟩⟩⟩⟩⟩⟩
theorem lk_c50 : ∀ r ∈ ([(11, 0, 131, 0, 15, 0), (11, 0, 134, 0, 16, 0), (11, 0, 137, 0, 68, 0), (1, 0, 141, 0, 2, 0), (11, 0, 145, 0, 74, 0), (11, 0, 148, 0, 113, 0), (11, 0, 149, 0, 180, 0), (7, 0, 150, 1, 17, 0), (11, 0, 155, 0, 69, 0), (10, 0, 158, 1, 16, 0), (7, 0, 160, 1, 18, 0), (15, 0, 162, 0, 16, 0), (11, 0, 163, 0, 181, 0), (7, 0, 167, 1, 19, 0), (11, 0, 169, 0, 182, 0), (11, 0, 173, 0, 183, 0), (11, 0, 176, 0, 184, 0), (11, 0, 179, 0, 185, 0), (11, 0, 182, 0, 186, 0), (7, 0, 186, 1, 20, 0), (11, 0, 188, 0, 187, 0), (11, 0, 191, 0, 75, 0), (11, 0, 195, 0, 114, 0), (7, 0, 196, 1, 21, 0), (11, 0, 198, 0, 115, 0)] : List (Nat × Nat × Nat × Nat × Nat × Int)), lk_ok r := List.forall_mem_cons.mpr ⟨lk_50, List.forall_mem_cons.mpr ⟨lk_51, List.forall_mem_cons.mpr ⟨lk_52, List.forall_mem_cons.mpr ⟨lk_53, List.forall_mem_cons.mpr ⟨lk_54, List.forall_mem_cons.mpr ⟨lk_55, List.forall_mem_cons.mpr ⟨lk_56, List.forall_mem_cons.mpr ⟨lk_57, List.forall_mem_cons.mpr ⟨lk_58, List.forall_mem_cons.mpr ⟨lk_59, List.forall_mem_cons.mpr ⟨lk_60, List.forall_mem_cons.mpr ⟨lk_61, List.forall_mem_cons.mpr ⟨lk_62, List.forall_mem_cons.mpr ⟨lk_63, List.forall_mem_cons.mpr ⟨lk_64, List.forall_mem_cons.mpr ⟨lk_65, List.forall_mem_cons.mpr ⟨lk_66, List.forall_mem_cons.mpr ⟨lk_67, List.forall_mem_cons.mpr ⟨lk_68, List.forall_mem_cons.mpr ⟨lk_69, List.forall_mem_cons.mpr ⟨lk_70, List.forall_mem_cons.mpr ⟨lk_71, List.forall_mem_cons.mpr ⟨lk_72, List.forall_mem_cons.mpr ⟨lk_73, List.forall_mem_cons.mpr ⟨lk_74, List.forall_mem_nil _⟩⟩⟩⟩⟩⟩⟩⟩⟩⟩⟩⟩⟩⟩⟩⟩⟩⟩⟩⟩⟩⟩⟩⟩⟩
theorem lk_c75 : ∀ r ∈ ([(11, 0, 201, 0, 116, 0), (11, 0, 202, 0, 117, 0), (11, 0, 203, 0, 118, 0), (11, 0, 206, 0, 119, 0), (11, 0, 210, 0, 161, 0), (7, 0, 211, 1, 22, 0), (11, 0, 213, 0, 162, 0), (7, 0, 216, 1, 23, 0), (11, 0, 218, 0, 128, 0), (11, 0, 222, 0, 129, 0), (7, 0, 223, 1, 24, 0), (11, 0, 225, 0, 130, 0), (7, 0, 228, 1, 25, 0), (11, 0, 230, 0, 131, 0), (11, 0, 235, 0, 70, 0), (11, 0, 236, 0, 101, 0), (11, 0, 237, 0, 33, 0), (11, 0, 238, 0, 44, 0), (11, 0, 239, 0, 140, 0), (11, 0, 240, 0, 163, 0), (11, 0, 253, 0, 141, 0), (11, 0, 256, 0, 142, 0), (11, 0, 260, 0, 143, 0), (11, 0, 263, 0, 144, 0), (11, 0, 266, 0, 145, 0)] : List (Nat × Nat × Nat × Nat × Nat × Int)), lk_ok r := List.forall_mem_cons.mpr ⟨lk_75, List.forall_mem_cons.mpr ⟨lk_76, List.forall_mem_cons.mpr ⟨lk_77, List.forall_mem_cons.mpr ⟨lk_78, List.forall_mem_cons.mpr ⟨lk_79, List.forall_mem_cons.mpr ⟨lk_80, List.forall_mem_cons.mpr ⟨lk_81, List.forall_mem_cons.mpr ⟨lk_82, List.forall_mem_cons.mpr ⟨lk_83, List.forall_mem_cons.mpr ⟨lk_84, List.forall_mem_cons.mpr ⟨lk_85, List.forall_mem_cons.mpr ⟨lk_86, List.forall_mem_cons.mpr ⟨lk_87, List.forall_mem_cons.mpr ⟨lk_88, List.forall_mem_cons.mpr ⟨lk_89, List.forall_mem_cons.mpr ⟨lk_90, List.forall_mem_cons.mpr ⟨lk_91, List.forall_mem_cons.mpr ⟨lk_92, List.forall_mem_cons.mpr ⟨lk_93, List.forall_mem_cons.mpr ⟨lk_94, List.forall_mem_cons.mpr ⟨lk_95, List.forall_mem_cons.mpr ⟨lk_96, List.forall_mem_cons.mpr ⟨lk_97, List.forall_mem_cons.mpr ⟨lk_98, List.forall_mem_cons.mpr ⟨lk_99, List.forall_mem_nil _⟩⟩⟩⟩⟩⟩⟩⟩⟩⟩⟩⟩⟩⟩⟩⟩⟩⟩⟩⟩⟩⟩⟩⟩⟩
theorem lk_c100 : ∀ r ∈ ([(2, 0, 269, 5, 10, 0), (11, 0, 272, 0, 80, 0), (11, 0, 275, 0, 71, 0), (16, 0, 117, 0, 15, 0), (16, 0, 106, 0, 14, 0), (11, 0, 241, 0, 18, 0), (11, 0, 244, 0, 164, 0), (11, 0, 247, 0, 19, 0), (11, 0, 250, 0, 20, 0), (13, 1, 3, 0, 0, 0), (1, 1, 9, 1, 0, 0), (1, 1, 15, 1, 1, 0), (1, 1, 19, 1, 2, 0), (1, 1, 23, 1, 3, 0), (1, 1, 27, 1, 4, 0), (1, 1, 31, 1, 5, 0), (2, 1, 35, 7, 7, 0), (11, 1, 41, 0, 116, 0), (11, 1, 45, 0, 117, 0), (11, 1, 48, 0, 122, 0), (11, 1, 51, 0, 118, 0), (11, 1, 54, 0, 21, 0), (2, 1, 58, 2, 4, 0), (11, 1, 61, 0, 34, 0), (11, 1, 65, 0, 35, 0)] : List (Nat × Nat × Nat × Nat × Nat × Int)), lk_ok r := List.forall_mem_cons.mpr ⟨lk_100, List.forall_mem_cons.mpr ⟨lk_101, List.forall_mem_cons.mpr ⟨lk_102, List.forall_mem_cons.mpr ⟨lk_103, List.forall_mem_cons.mpr ⟨lk_104, List.forall_mem_cons.mpr ⟨lk_105, List.forall_mem_cons.mpr ⟨lk_106, List.forall_mem_cons.mpr ⟨lk_107, List.forall_mem_cons.mpr ⟨lk_108, List.forall_mem_cons.mpr ⟨lk_109, List.forall_mem_cons.mpr ⟨lk_110, List.forall_mem_cons.mpr ⟨lk_111, List.forall_mem_cons.mpr ⟨lk_112, List.forall_mem_cons.mpr ⟨lk_113, List.forall_mem_cons.mpr ⟨lk_114, List.forall_mem_cons.mpr ⟨lk_115, List.forall_mem_cons.mpr ⟨lk_116, List.forall_mem_cons.mpr ⟨lk_117, List.forall_mem_cons.mpr ⟨lk_118, List.forall_mem_cons.mpr ⟨lk_119, List.forall_mem_cons.mpr ⟨lk_120, List.forall_mem_cons.mpr ⟨lk_121, List.forall_mem_cons.mpr ⟨lk_122, List.forall_mem_cons.mpr ⟨lk_123, List.forall_mem_cons.mpr ⟨lk_124, List.forall_mem_nil _⟩⟩⟩⟩⟩⟩⟩⟩⟩⟩⟩⟩⟩⟩⟩⟩⟩⟩⟩⟩⟩⟩⟩⟩⟩
theorem lk_c125 : ∀ r ∈ ([(11, 1, 68, 0, 36, 0), (11, 1, 103, 0, 22, 0), (11, 1, 106, 0, 23, 0), (11, 1, 107, 0, 123, 0), (11, 1, 74, 0, 80, 0), (11, 1, 79, 0, 71, 0), (11, 1, 110, 0, 24, 0), (11, 1, 113, 0, 25, 0), (2, 1, 160, 11, 6, 0), (11, 1, 89, 0, 182, 0), (11, 1, 122, 0, 183, 0), (2, 1, 161, 11, 7, 0), (11, 1, 147, 0, 187, 0), (11, 1, 71, 0, 26, 0), (11, 1, 85, 0, 27, 0), (11, 1, 116, 0, 120, 0), (11, 1, 119, 0, 121, 0), (11, 1, 123, 0, 28, 0), (11, 1, 126, 0, 29, 0), (11, 1, 129, 0, 30, 0), (11, 1, 132, 0, 115, 0), (11, 1, 135, 0, 119, 0), (11, 1, 139, 0, 31, 0), (11, 1, 154, 0, 40, 0), (11, 1, 157, 0, 41, 0)] : List (Nat × Nat × Nat × Nat × Nat × Int)), lk_ok r := List.forall_mem_cons.mpr ⟨lk_125, List.forall_mem_cons.mpr ⟨lk_126, List.forall_mem_cons.mpr ⟨lk_127, List.forall_mem_cons.mpr ⟨lk_128, List.forall_mem_cons.mpr ⟨lk_129, List.forall_mem_cons.mpr ⟨lk_130, List.forall_mem_cons.mpr ⟨lk_131, List.forall_mem_cons.mpr ⟨lk_132, List.forall_mem_cons.mpr ⟨lk_133, List.forall_mem_cons.mpr ⟨lk_134, List.forall_mem_cons.mpr ⟨lk_135, List.forall_mem_cons.mpr ⟨lk_136, List.forall_mem_cons.mpr ⟨lk_137, List.forall_mem_cons.mpr ⟨lk_138, List.forall_mem_cons.mpr ⟨lk_139, List.forall_mem_cons.mpr ⟨lk_140, List.forall_mem_cons.mpr ⟨lk_141, List.forall_mem_cons.mpr ⟨lk_142, List.forall_mem_cons.mpr ⟨lk_143, List.forall_mem_cons.mpr ⟨lk_144, List.forall_mem_cons.mpr ⟨lk_145, List.forall_mem_cons.mpr ⟨lk_146, List.forall_mem_cons.mpr ⟨lk_147, List.forall_mem_cons.mpr ⟨lk_148, List.forall_mem_cons.mpr ⟨lk_149, List.forall_mem_nil _⟩⟩⟩⟩⟩⟩⟩⟩⟩⟩⟩⟩⟩⟩⟩⟩⟩⟩⟩⟩⟩⟩⟩⟩⟩
theorem lk_c150 : ∀ r ∈ ([(11, 1, 95, 0, 97, 0), (11, 1, 98, 0, 109, 0), (11, 1, 92, 0, 184, 0), (11, 1, 142, 0, 295, 0), (11, 1, 150, 0, 81, 0), (13, 2, 3, 0, 0, 0), (1, 2, 9, 2, 0, 0), (1, 2, 15, 2, 1, 0), (1, 2, 18, 2, 2, 0), (1, 2, 21, 2, 3, 0), (1, 2, 24, 2, 4, 0), (11, 2, 38, 0, 39, 0), (11, 2, 28, 0, 42, 0), (11, 2, 32, 0, 292, 0), (13, 3, 3, 0, 0, 0), (1, 3, 9, 3, 4, 0), (1, 3, 15, 3, 5, 0), (1, 3, 18, 3, 6, 0), (1, 3, 21, 3, 0, 0), (1, 3, 25, 3, 1, 0), (1, 3, 29, 3, 2, 0), (1, 3, 33, 3, 3, 0), (1, 3, 37, 3, 7, 0), (10, 3, 41, 1, 14, 0), (7, 3, 43, 1, 13, 0)] : List (Nat × Nat × Nat × Nat × Nat × Int)), lk_ok r := List.forall_mem_cons.mpr ⟨lk_150, List.forall_mem_cons.mpr ⟨lk_151, List.forall_mem_cons.mpr ⟨lk_152, List.forall_mem_cons.mpr ⟨lk_153, List.forall_mem_cons.mpr ⟨lk_154, List.forall_mem_cons.mpr ⟨lk_155, List.forall_mem_cons.mpr ⟨lk_156, List.forall_mem_cons.mpr ⟨lk_157, List.forall_mem_cons.mpr ⟨lk_158, List.forall_mem_cons.mpr ⟨lk_159, List.forall_mem_cons.mpr ⟨lk_160, List.forall_mem_cons.mpr ⟨lk_161, List.forall_mem_cons.mpr ⟨lk_162, List.forall_mem_cons.mpr ⟨lk_163, List.forall_mem_cons.mpr ⟨lk_164, List.forall_mem_cons.mpr ⟨lk_165, List.forall_mem_cons.mpr ⟨lk_166, List.forall_mem_cons.mpr ⟨lk_167, List.forall_mem_cons.mpr ⟨lk_168, List.forall_mem_cons.mpr ⟨lk_169, List.forall_mem_cons.mpr ⟨lk_170, List.forall_mem_cons.mpr ⟨lk_171, List.forall_mem_cons.mpr ⟨lk_172, List.forall_mem_cons.mpr ⟨lk_173, List.forall_mem_cons.mpr ⟨lk_174, List.forall_mem_nil _⟩⟩⟩⟩⟩⟩⟩⟩⟩⟩⟩⟩⟩⟩⟩⟩⟩⟩⟩⟩⟩⟩⟩⟩⟩
theorem lk_c175 : ∀ r ∈ ([(15, 3, 45, 0, 14, 0), (11, 3, 48, 0, 46, 0), (2, 3, 51, 5, 10, 0), (11, 3, 56, 0, 47, 0), (11, 3, 60, 0, 48, 0), (11, 3, 63, 0, 49, 0), (11, 3, 66, 0, 50, 0), (11, 3, 70, 0, 51, 0), (11, 3, 74, 0, 52, 0), (11, 3, 77, 0, 53, 0), (11, 3, 80, 0, 54, 0), (11, 3, 83, 0, 55, 0), (11, 3, 86, 0, 56, 0), (11, 3, 90, 0, 57, 0), (11, 3, 93, 0, 58, 0), (11, 3, 96, 0, 59, 0), (2, 3, 99, 5, 11, 0), (11, 3, 102, 0, 60, 0), (11, 3, 105, 0, 61, 0), (11, 3, 109, 0, 94, 0), (11, 3, 112, 0, 79, 0), (10, 3, 115, 1, 15, 0), (7, 3, 117, 1, 14, 0), (15, 3, 119, 0, 15, 0), (11, 3, 120, 0, 81, 0)] : List (Nat × Nat × Nat × Nat × Nat × Int)), lk_ok r := List.forall_mem_cons.mpr ⟨lk_175, List.forall_mem_cons.mpr ⟨lk_176, List.forall_mem_cons.mpr ⟨lk_177, List.forall_mem_cons.mpr ⟨lk_178, List.forall_mem_cons.mpr ⟨lk_179, List.forall_mem_cons.mpr ⟨lk_180, List.forall_mem_cons.mpr ⟨lk_181, List.forall_mem_cons.mpr ⟨lk_182, List.forall_mem_cons.mpr ⟨lk_183, List.forall_mem_cons.mpr ⟨lk_184, List.forall_mem_cons.mpr ⟨lk_185, List.forall_mem_cons.mpr ⟨lk_186, List.forall_mem_cons.mpr ⟨lk_187, List.forall_mem_cons.mpr ⟨lk_188, List.forall_mem_cons.mpr ⟨lk_189, List.forall_mem_cons.mpr ⟨lk_190, List.forall_mem_cons.mpr ⟨lk_191, List.forall_mem_cons.mpr ⟨lk_192, List.forall_mem_cons.mpr ⟨lk_193, List.forall_mem_cons.mpr ⟨lk_194, List.forall_mem_cons.mpr ⟨lk_195, List.forall_mem_cons.mpr ⟨lk_196, List.forall_mem_cons.mpr ⟨lk_197, List.forall_mem_cons.mpr ⟨lk_198, List.forall_mem_cons.mpr ⟨lk_199, List.forall_mem_nil _⟩⟩⟩⟩⟩⟩⟩⟩⟩⟩⟩⟩⟩⟩⟩⟩⟩⟩⟩⟩⟩⟩⟩⟩⟩
theorem lk_c200 : ∀ r ∈ ([(11, 3, 124, 0, 92, 0), (11, 3, 127, 0, 93, 0), (11, 3, 131, 0, 80, 0), (11, 3, 134, 0, 71, 0), (11, 3, 139, 0, 124, 0), (11, 3, 145, 0, 62, 0), (1, 3, 148, 3, 8, 0), (11, 3, 151, 0, 123, 0), (11, 3, 154, 0, 125, 0), (11, 3, 157, 0, 45, 0), (11, 3, 163, 0, 99, 0), (1, 3, 166, 3, 9, 0), (1, 3, 169, 3, 11, 0), (1, 3, 172, 3, 12, 0), (11, 3, 160, 0, 126, 0), (11, 3, 181, 0, 97, 0), (11, 3, 184, 0, 106, 0), (11, 3, 189, 0, 116, 0), (11, 3, 192, 0, 63, 0), (11, 3, 175, 0, 64, 0), (11, 3, 195, 0, 65, 0), (11, 3, 198, 0, 66, 0), (3, 3, 201, 0, 1, 0), (1, 3, 178, 3, 10, 0), (13, 4, 3, 0, 0, 0)] : List (Nat × Nat × Nat × Nat × Nat × Int)), lk_ok r := List.forall_mem_cons.mpr ⟨lk_200, List.forall_mem_cons.mpr ⟨lk_201, List.forall_mem_cons.mpr ⟨lk_202, List.forall_mem_cons.mpr ⟨lk_203, List.forall_mem_cons.mpr ⟨lk_204, List.forall_mem_cons.mpr ⟨lk_205, List.forall_mem_cons.mpr ⟨lk_206, List.forall_mem_cons.mpr ⟨lk_207, List.forall_mem_cons.mpr ⟨lk_208, List.forall_mem_cons.mpr ⟨lk_209, List.forall_mem_cons.mpr ⟨lk_210, List.forall_mem_cons.mpr ⟨lk_211, List.forall_mem_cons.mpr ⟨lk_212, List.forall_mem_cons.mpr ⟨lk_213, List.forall_mem_cons.mpr ⟨lk_214, List.forall_mem_cons.mpr ⟨lk_215, List.forall_mem_cons.mpr ⟨lk_216, List.forall_mem_cons.mpr ⟨lk_217, List.forall_mem_cons.mpr ⟨lk_218, List.forall_mem_cons.mpr ⟨lk_219, List.forall_mem_cons.mpr ⟨lk_220, List.forall_mem_cons.mpr ⟨lk_221, List.forall_mem_cons.mpr ⟨lk_222, List.forall_mem_cons.mpr ⟨lk_223, List.forall_mem_cons.mpr ⟨lk_224, List.forall_mem_nil _⟩⟩⟩⟩⟩⟩⟩⟩⟩⟩⟩⟩⟩⟩⟩⟩⟩⟩⟩⟩⟩⟩⟩⟩⟩
theorem lk_c225 : ∀ r ∈ ([(1, 4, 9, 4, 0, 0), (11, 4, 15, 0, 301, 0), (13, 5, 3, 0, 0, 0), (1, 5, 9, 5, 2, 0), (1, 5, 15, 5, 3, 0), (1, 5, 19, 5, 4, 0), (1, 5, 22, 5, 5, 0), (1, 5, 25, 5, 6, 0), (1, 5, 29, 5, 7, 0), (1, 5, 32, 5, 0, 0), (1, 5, 36, 5, 1, 0), (11, 5, 50, 0, 291, 0), (11, 5, 56, 0, 292, 0), (1, 5, 59, 5, 8, 0), (14, 5, 62, 0, 0, 0), (1, 5, 40, 5, 9, 0), (11, 5, 68, 0, 76, 0), (11, 5, 72, 0, 77, 0), (11, 5, 75, 0, 71, 0), (11, 5, 81, 0, 78, 0), (1, 5, 44, 5, 10, 0), (11, 5, 85, 0, 79, 0), (1, 5, 47, 5, 11, 0), (11, 5, 154, 0, 81, 0), (11, 5, 168, 0, 82, 0)] : List (Nat × Nat × Nat × Nat × Nat × Int)), lk_ok r := List.forall_mem_cons.mpr ⟨lk_225, List.forall_mem_cons.mpr ⟨lk_226, List.forall_mem_cons.mpr ⟨lk_227, List.forall_mem_cons.mpr ⟨lk_228, List.forall_mem_cons.mpr ⟨lk_229, List.forall_mem_cons.mpr ⟨lk_230, List.forall_mem_cons.mpr ⟨lk_231, List.forall_mem_cons.mpr ⟨lk_232, List.forall_mem_cons.mpr ⟨lk_233, List.forall_mem_cons.mpr ⟨lk_234, List.forall_mem_cons.mpr ⟨lk_235, List.forall_mem_cons.mpr ⟨lk_236, List.forall_mem_cons.mpr ⟨lk_237, List.forall_mem_cons.mpr ⟨lk_238, List.forall_mem_cons.mpr ⟨lk_239, List.forall_mem_cons.mpr ⟨lk_240, List.forall_mem_cons.mpr ⟨lk_241, List.forall_mem_cons.mpr ⟨lk_242, List.forall_mem_cons.mpr ⟨lk_243, List.forall_mem_cons.mpr ⟨lk_244, List.forall_mem_cons.mpr ⟨lk_245, List.forall_mem_cons.mpr ⟨lk_246, List.forall_mem_cons.mpr ⟨lk_247, List.forall_mem_cons.mpr ⟨lk_248, List.forall_mem_cons.mpr ⟨lk_249, List.forall_mem_nil _⟩⟩⟩⟩⟩⟩⟩⟩⟩⟩⟩⟩⟩⟩⟩⟩⟩⟩⟩⟩⟩⟩⟩⟩⟩
theorem lk_c250 : ∀ r ∈ ([(11, 5, 158, 0, 80, 0), (11, 5, 88, 0, 83, 0), (11, 5, 91, 0, 85, 0), (11, 5, 95, 0, 86, 0), (11, 5, 98, 0, 87, 0), (11, 5, 101, 0, 88, 0), (11, 5, 104, 0, 89, 0), (11, 5, 107, 0, 90, 0), (11, 5, 110, 0, 91, 0), (11, 5, 113, 0, 105, 0), (11, 5, 119, 0, 104, 0), (11, 5, 132, 0, 95, 0), (7, 5, 135, 1, 4, 0), (11, 5, 137, 0, 274, 0), (8, 5, 130, 0, 0, 16), (8, 5, 125, 0, 0, 1099511627776), (11, 5, 127, 0, 293, 0), (8, 5, 123, 0, 0, 10), (10, 5, 142, 1, 15, 0), (7, 5, 144, 1, 9, 0), (15, 5, 146, 0, 15, 0), (11, 5, 149, 0, 94, 0), (7, 5, 152, 1, 10, 0), (8, 5, 161, 0, 0, 1073741824), (7, 5, 163, 1, 12, 0)] : List (Nat × Nat × Nat × Nat × Nat × Int)), lk_ok r := List.forall_mem_cons.mpr ⟨lk_250, List.forall_mem_cons.mpr ⟨lk_251, List.forall_mem_cons.mpr ⟨lk_252, List.forall_mem_cons.mpr ⟨lk_253, List.forall_mem_cons.mpr ⟨lk_254, List.forall_mem_cons.mpr ⟨lk_255, List.forall_mem_cons.mpr ⟨lk_256, List.forall_mem_cons.mpr ⟨lk_257, List.forall_mem_cons.mpr ⟨lk_258, List.forall_mem_cons.mpr ⟨lk_259, List.forall_mem_cons.mpr ⟨lk_260, List.forall_mem_cons.mpr ⟨lk_261, List.forall_mem_cons.mpr ⟨lk_262, List.forall_mem_cons.mpr ⟨lk_263, List.forall_mem_cons.mpr ⟨lk_264, List.forall_mem_cons.mpr ⟨lk_265, List.forall_mem_cons.mpr ⟨lk_266, List.forall_mem_cons.mpr ⟨lk_267, List.forall_mem_cons.mpr ⟨lk_268, List.forall_mem_cons.mpr ⟨lk_269, List.forall_mem_cons.mpr ⟨lk_270, List.forall_mem_cons.mpr ⟨lk_271, List.forall_mem_cons.mpr ⟨lk_272, List.forall_mem_cons.mpr ⟨lk_273, List.forall_mem_cons.mpr ⟨lk_274, List.forall_mem_nil _⟩⟩⟩⟩⟩⟩⟩⟩⟩⟩⟩⟩⟩⟩⟩⟩⟩⟩⟩⟩⟩⟩⟩⟩⟩
theorem lk_c275 : ∀ r ∈ ([(11, 5, 165, 0, 97, 0), (13, 6, 3, 0, 0, 0), (1, 6, 11, 6, 0, 0), (1, 6, 15, 6, 1, 0), (1, 6, 18, 6, 2, 0), (1, 6, 22, 6, 3, 0), (1, 6, 25, 6, 4, 0), (1, 6, 28, 6, 5, 0), (1, 6, 31, 6, 6, 0), (1, 6, 34, 6, 7, 0), (11, 6, 38, 0, 291, 0), (11, 6, 44, 0, 102, 0), (11, 6, 48, 0, 103, 0), (1, 6, 88, 6, 8, 0), (7, 6, 51, 1, 2, 0), (11, 6, 53, 0, 272, 0), (11, 6, 59, 0, 273, 0), (11, 6, 63, 0, 104, 0), (11, 6, 66, 0, 105, 0), (1, 6, 69, 6, 9, 0), (1, 6, 73, 6, 10, 0), (11, 6, 76, 0, 107, 0), (8, 6, 80, 0, 0, 31), (8, 6, 82, 0, 0, -7046029254386353131), (11, 6, 84, 0, 111, 0)] : List (Nat × Nat × Nat × Nat × Nat × Int)), lk_ok r := List.forall_mem_cons.mpr ⟨lk_275, List.forall_mem_cons.mpr ⟨lk_276, List.forall_mem_cons.mpr ⟨lk_277, List.forall_mem_cons.mpr ⟨lk_278, List.forall_mem_cons.mpr ⟨lk_279, List.forall_mem_cons.mpr ⟨lk_280, List.forall_mem_cons.mpr ⟨lk_281, List.forall_mem_cons.mpr ⟨lk_282, List.forall_mem_cons.mpr ⟨lk_283, List.forall_mem_cons.mpr ⟨lk_284, List.forall_mem_cons.mpr ⟨lk_285, List.forall_mem_cons.mpr ⟨lk_286, List.forall_mem_cons.mpr ⟨lk_287, List.forall_mem_cons.mpr ⟨lk_288, List.forall_mem_cons.mpr ⟨lk_289, List.forall_mem_cons.mpr ⟨lk_290, List.forall_mem_cons.mpr ⟨lk_291, List.forall_mem_cons.mpr ⟨lk_292, List.forall_mem_cons.mpr ⟨lk_293, List.forall_mem_cons.mpr ⟨lk_294, List.forall_mem_cons.mpr ⟨lk_295, List.forall_mem_cons.mpr ⟨lk_296, List.forall_mem_cons.mpr ⟨lk_297, List.forall_mem_cons.mpr ⟨lk_298, List.forall_mem_cons.mpr ⟨lk_299, List.forall_mem_nil _⟩⟩⟩⟩⟩⟩⟩⟩⟩⟩⟩⟩⟩⟩⟩⟩⟩⟩⟩⟩⟩⟩⟩⟩⟩
theorem lk_c300 : ∀ r ∈ ([(11, 6, 91, 0, 292, 0), (13, 7, 3, 0, 0, 0), (1, 7, 9, 7, 0, 0), (1, 7, 15, 7, 1, 0), (1, 7, 18, 7, 2, 0), (1, 7, 21, 7, 3, 0), (1, 7, 24, 7, 4, 0), (1, 7, 27, 7, 5, 0), (1, 7, 30, 7, 6, 0), (1, 7, 33, 7, 7, 0), (11, 7, 37, 0, 114, 0), (11, 7, 41, 0, 120, 0), (11, 7, 45, 0, 121, 0), (13, 8, 3, 0, 0, 0), (1, 8, 9, 8, 1, 0), (1, 8, 15, 8, 0, 0), (1, 8, 19, 8, 2, 0), (2, 8, 39, 5, 9, 0), (11, 8, 42, 0, 84, 0), (11, 8, 46, 0, 132, 0), (11, 8, 50, 0, 133, 0), (11, 8, 54, 0, 134, 0), (11, 8, 23, 0, 129, 0), (11, 8, 27, 0, 291, 0), (14, 8, 33, 0, 0, 0)] : List (Nat × Nat × Nat × Nat × Nat × Int)), lk_ok r := List.forall_mem_cons.mpr ⟨lk_300, List.forall_mem_cons.mpr ⟨lk_301, List.forall_mem_cons.mpr ⟨lk_302, List.forall_mem_cons.mpr ⟨lk_303, List.forall_mem_cons.mpr ⟨lk_304, List.forall_mem_cons.mpr ⟨lk_305, List.forall_mem_cons.mpr ⟨lk_306, List.forall_mem_cons.mpr ⟨lk_307, List.forall_mem_cons.mpr ⟨lk_308, List.forall_mem_cons.mpr ⟨lk_309, List.forall_mem_cons.mpr ⟨lk_310, List.forall_mem_cons.mpr ⟨lk_311, List.forall_mem_cons.mpr ⟨lk_312, List.forall_mem_cons.mpr ⟨lk_313, List.forall_mem_cons.mpr ⟨lk_314, List.forall_mem_cons.mpr ⟨lk_315, List.forall_mem_cons.mpr ⟨lk_316, List.forall_mem_cons.mpr ⟨lk_317, List.forall_mem_cons.mpr ⟨lk_318, List.forall_mem_cons.mpr ⟨lk_319, List.forall_mem_cons.mpr ⟨lk_320, List.forall_mem_cons.mpr ⟨lk_321, List.forall_mem_cons.mpr ⟨lk_322, List.forall_mem_cons.mpr ⟨lk_323, List.forall_mem_cons.mpr ⟨lk_324, List.forall_mem_nil _⟩⟩⟩⟩⟩⟩⟩⟩⟩⟩⟩⟩⟩⟩⟩⟩⟩⟩⟩⟩⟩⟩⟩⟩⟩
theorem lk_c325 : ∀ r ∈ ([(11, 8, 57, 0, 79, 0), (11, 8, 60, 0, 135, 0), (11, 8, 63, 0, 136, 0), (11, 8, 70, 0, 81, 0), (11, 8, 74, 0, 137, 0), (11, 8, 78, 0, 80, 0), (11, 8, 81, 0, 82, 0), (11, 8, 84, 0, 83, 0), (11, 8, 67, 0, 138, 0), (8, 8, 87, 0, 0, 10), (13, 9, 3, 0, 0, 0), (1, 9, 9, 9, 7, 0), (1, 9, 15, 9, 8, 0), (1, 9, 18, 9, 0, 0), (1, 9, 22, 9, 1, 0), (1, 9, 26, 9, 2, 0), (1, 9, 30, 9, 3, 0), (1, 9, 34, 9, 4, 0), (1, 9, 38, 9, 5, 0), (1, 9, 42, 9, 6, 0), (1, 9, 46, 9, 9, 0), (11, 9, 55, 0, 92, 0), (11, 9, 59, 0, 93, 0), (2, 9, 63, 11, 7, 0), (2, 9, 50, 5, 11, 0)] : List (Nat × Nat × Nat × Nat × Nat × Int)), lk_ok r := List.forall_mem_cons.mpr ⟨lk_325, List.forall_mem_cons.mpr ⟨lk_326, List.forall_mem_cons.mpr ⟨lk_327, List.forall_mem_cons.mpr ⟨lk_328, List.forall_mem_cons.mpr ⟨lk_329, List.forall_mem_cons.mpr ⟨lk_330, List.forall_mem_cons.mpr ⟨lk_331, List.forall_mem_cons.mpr ⟨lk_332, List.forall_mem_cons.mpr ⟨lk_333, List.forall_mem_cons.mpr ⟨lk_334, List.forall_mem_cons.mpr ⟨lk_335, List.forall_mem_cons.mpr ⟨lk_336, List.forall_mem_cons.mpr ⟨lk_337, List.forall_mem_cons.mpr ⟨lk_338, List.forall_mem_cons.mpr ⟨lk_339, List.forall_mem_cons.mpr ⟨lk_340, List.forall_mem_cons.mpr ⟨lk_341, List.forall_mem_cons.mpr ⟨lk_342, List.forall_mem_cons.mpr ⟨lk_343, List.forall_mem_cons.mpr ⟨lk_344, List.forall_mem_cons.mpr ⟨lk_345, List.forall_mem_cons.mpr ⟨lk_346, List.forall_mem_cons.mpr ⟨lk_347, List.forall_mem_cons.mpr ⟨lk_348, List.forall_mem_cons.mpr ⟨lk_349, List.forall_mem_nil _⟩⟩⟩⟩⟩⟩⟩⟩⟩⟩⟩⟩⟩⟩⟩⟩⟩⟩⟩⟩⟩⟩⟩⟩⟩
theorem lk_c350 : ∀ r ∈ ([(11, 9, 190, 0, 146, 0), (11, 9, 193, 0, 188, 0), (11, 9, 196, 0, 147, 0), (11, 9, 199, 0, 148, 0), (11, 9, 202, 0, 149, 0), (11, 9, 87, 0, 94, 0), (10, 9, 80, 1, 15, 0), (7, 9, 205, 1, 15, 0), (15, 9, 84, 0, 15, 0), (11, 9, 68, 0, 150, 0), (11, 9, 71, 0, 151, 0), (11, 9, 74, 0, 152, 0), (11, 9, 77, 0, 153, 0), (7, 9, 82, 1, 16, 0), (11, 9, 155, 0, 102, 0), (11, 9, 172, 0, 154, 0), (2, 9, 90, 5, 10, 0), (11, 9, 93, 0, 96, 0), (11, 9, 141, 0, 45, 0), (2, 9, 146, 3, 8, 0), (11, 9, 161, 0, 106, 0), (11, 9, 103, 0, 80, 0), (11, 9, 106, 0, 71, 0), (11, 9, 207, 0, 37, 0), (11, 9, 149, 0, 38, 0)] : List (Nat × Nat × Nat × Nat × Nat × Int)), lk_ok r := List.forall_mem_cons.mpr ⟨lk_350, List.forall_mem_cons.mpr ⟨lk_351, List.forall_mem_cons.mpr ⟨lk_352, List.forall_mem_cons.mpr ⟨lk_353, List.forall_mem_cons.mpr ⟨lk_354, List.forall_mem_cons.mpr ⟨lk_355, List.forall_mem_cons.mpr ⟨lk_356, List.forall_mem_cons.mpr ⟨lk_357, List.forall_mem_cons.mpr ⟨lk_358, List.forall_mem_cons.mpr ⟨lk_359, List.forall_mem_cons.mpr ⟨lk_360, List.forall_mem_cons.mpr ⟨lk_361, List.forall_mem_cons.mpr ⟨lk_362, List.forall_mem_cons.mpr ⟨lk_363, List.forall_mem_cons.mpr ⟨lk_364, List.forall_mem_cons.mpr ⟨lk_365, List.forall_mem_cons.mpr ⟨lk_366, List.forall_mem_cons.mpr ⟨lk_367, List.forall_mem_cons.mpr ⟨lk_368, List.forall_mem_cons.mpr ⟨lk_369, List.forall_mem_cons.mpr ⟨lk_370, List.forall_mem_cons.mpr ⟨lk_371, List.forall_mem_cons.mpr ⟨lk_372, List.forall_mem_cons.mpr ⟨lk_373, List.forall_mem_cons.mpr ⟨lk_374, List.forall_mem_nil _⟩⟩⟩⟩⟩⟩⟩⟩⟩⟩⟩⟩⟩⟩⟩⟩⟩⟩⟩⟩⟩⟩⟩⟩⟩
theorem lk_c375 : ∀ r ∈ ([(2, 9, 210, 6, 8, 0), (11, 9, 158, 0, 155, 0), (11, 9, 124, 0, 156, 0), (11, 9, 127, 0, 294, 0), (11, 9, 132, 0, 189, 0), (11, 9, 135, 0, 190, 0), (11, 9, 138, 0, 157, 0), (11, 9, 166, 0, 158, 0), (11, 9, 169, 0, 159, 0), (10, 9, 185, 1, 14, 0), (7, 9, 187, 1, 11, 0), (15, 9, 189, 0, 14, 0), (11, 9, 164, 0, 108, 0), (11, 9, 97, 0, 109, 0), (2, 9, 112, 7, 7, 0), (11, 9, 117, 0, 191, 0), (11, 9, 121, 0, 110, 0), (11, 9, 175, 0, 98, 0), (11, 9, 179, 0, 99, 0), (11, 9, 182, 0, 82, 0), (13, 10, 3, 0, 0, 0), (1, 10, 9, 10, 4, 0), (1, 10, 15, 10, 5, 0), (1, 10, 18, 10, 6, 0), (1, 10, 21, 10, 8, 0)] : List (Nat × Nat × Nat × Nat × Nat × Int)), lk_ok r := List.forall_mem_cons.mpr ⟨lk_375, List.forall_mem_cons.mpr ⟨lk_376, List.forall_mem_cons.mpr ⟨lk_377, List.forall_mem_cons.mpr ⟨lk_378, List.forall_mem_cons.mpr ⟨lk_379, List.forall_mem_cons.mpr ⟨lk_380, List.forall_mem_cons.mpr ⟨lk_381, List.forall_mem_cons.mpr ⟨lk_382, List.forall_mem_cons.mpr ⟨lk_383, List.forall_mem_cons.mpr ⟨lk_384, List.forall_mem_cons.mpr ⟨lk_385, List.forall_mem_cons.mpr ⟨lk_386, List.forall_mem_cons.mpr ⟨lk_387, List.forall_mem_cons.mpr ⟨lk_388, List.forall_mem_cons.mpr ⟨lk_389, List.forall_mem_cons.mpr ⟨lk_390, List.forall_mem_cons.mpr ⟨lk_391, List.forall_mem_cons.mpr ⟨lk_392, List.forall_mem_cons.mpr ⟨lk_393, List.forall_mem_cons.mpr ⟨lk_394, List.forall_mem_cons.mpr ⟨lk_395, List.forall_mem_cons.mpr ⟨lk_396, List.forall_mem_cons.mpr ⟨lk_397, List.forall_mem_cons.mpr ⟨lk_398, List.forall_mem_cons.mpr ⟨lk_399, List.forall_mem_nil _⟩⟩⟩⟩⟩⟩⟩⟩⟩⟩⟩⟩⟩⟩⟩⟩⟩⟩⟩⟩⟩⟩⟩⟩⟩
theorem lk_c400 : ∀ r ∈ ([(1, 10, 24, 10, 9, 0), (1, 10, 27, 10, 10, 0), (1, 10, 30, 10, 12, 0), (1, 10, 33, 10, 0, 0), (1, 10, 37, 10, 1, 0), (1, 10, 41, 10, 2, 0), (1, 10, 45, 10, 3, 0), (1, 10, 49, 10, 13, 0), (11, 10, 53, 0, 161, 0), (11, 10, 57, 0, 165, 0), (11, 10, 60, 0, 166, 0), (2, 10, 64, 11, 6, 0), (11, 10, 67, 0, 167, 0), (11, 10, 71, 0, 168, 0), (11, 10, 75, 0, 169, 0), (11, 10, 78, 0, 187, 0), (11, 10, 81, 0, 80, 0), (11, 10, 86, 0, 71, 0), (1, 10, 92, 10, 7, 0), (11, 10, 95, 0, 170, 0), (11, 10, 98, 0, 171, 0), (11, 10, 101, 0, 172, 0), (1, 10, 122, 10, 11, 0), (11, 10, 104, 0, 173, 0), (11, 10, 125, 0, 174, 0)] : List (Nat × Nat × Nat × Nat × Nat × Int)), lk_ok r := List.forall_mem_cons.mpr ⟨lk_400, List.forall_mem_cons.mpr ⟨lk_401, List.forall_mem_cons.mpr ⟨lk_402, List.forall_mem_cons.mpr ⟨lk_403, List.forall_mem_cons.mpr ⟨lk_404, List.forall_mem_cons.mpr ⟨lk_405, List.forall_mem_cons.mpr ⟨lk_406, List.forall_mem_cons.mpr ⟨lk_407, List.forall_mem_cons.mpr ⟨lk_408, List.forall_mem_cons.mpr ⟨lk_409, List.forall_mem_cons.mpr ⟨lk_410, List.forall_mem_cons.mpr ⟨lk_411, List.forall_mem_cons.mpr ⟨lk_412, List.forall_mem_cons.mpr ⟨lk_413, List.forall_mem_cons.mpr ⟨lk_414, List.forall_mem_cons.mpr ⟨lk_415, List.forall_mem_cons.mpr ⟨lk_416, List.forall_mem_cons.mpr ⟨lk_417, List.forall_mem_cons.mpr ⟨lk_418, List.forall_mem_cons.mpr ⟨lk_419, List.forall_mem_cons.mpr ⟨lk_420, List.forall_mem_cons.mpr ⟨lk_421, List.forall_mem_cons.mpr ⟨lk_422, List.forall_mem_cons.mpr ⟨lk_423, List.forall_mem_cons.mpr ⟨lk_424, List.forall_mem_nil _⟩⟩⟩⟩⟩⟩⟩⟩⟩⟩⟩⟩⟩⟩⟩⟩⟩⟩⟩⟩⟩⟩⟩⟩⟩
theorem lk_c425 : ∀ r ∈ ([(11, 10, 128, 0, 175, 0), (11, 10, 131, 0, 176, 0), (11, 10, 134, 0, 177, 0), (11, 10, 137, 0, 178, 0), (11, 10, 107, 0, 182, 0), (2, 10, 110, 5, 9, 0), (11, 10, 111, 0, 79, 0), (11, 10, 114, 0, 97, 0), (11, 10, 117, 0, 109, 0), (13, 11, 3, 0, 0, 0), (1, 11, 9, 11, 0, 0), (1, 11, 15, 11, 1, 0), (1, 11, 18, 11, 2, 0), (1, 11, 21, 11, 3, 0), (1, 11, 24, 11, 4, 0), (1, 11, 27, 11, 5, 0), (1, 11, 30, 11, 6, 0), (1, 11, 34, 11, 7, 0), (11, 11, 37, 0, 181, 0), (13, 12, 1, 0, 0, 0), (1, 12, 7, 12, 2, 0), (1, 12, 13, 12, 4, 0), (1, 12, 16, 12, 10, 0), (1, 12, 19, 12, 12, 0), (1, 12, 22, 12, 13, 0)] : List (Nat × Nat × Nat × Nat × Nat × Int)), lk_ok r := List.forall_mem_cons.mpr ⟨lk_425, List.forall_mem_cons.mpr ⟨lk_426, List.forall_mem_cons.mpr ⟨lk_427, List.forall_mem_cons.mpr ⟨lk_428, List.forall_mem_cons.mpr ⟨lk_429, List.forall_mem_cons.mpr ⟨lk_430, List.forall_mem_cons.mpr ⟨lk_431, List.forall_mem_cons.mpr ⟨lk_432, List.forall_mem_cons.mpr ⟨lk_433, List.forall_mem_cons.mpr ⟨lk_434, List.forall_mem_cons.mpr ⟨lk_435, List.forall_mem_cons.mpr ⟨lk_436, List.forall_mem_cons.mpr ⟨lk_437, List.forall_mem_cons.mpr ⟨lk_438, List.forall_mem_cons.mpr ⟨lk_439, List.forall_mem_cons.mpr ⟨lk_440, List.forall_mem_cons.mpr ⟨lk_441, List.forall_mem_cons.mpr ⟨lk_442, List.forall_mem_cons.mpr ⟨lk_443, List.forall_mem_cons.mpr ⟨lk_444, List.forall_mem_cons.mpr ⟨lk_445, List.forall_mem_cons.mpr ⟨lk_446, List.forall_mem_cons.mpr ⟨lk_447, List.forall_mem_cons.mpr ⟨lk_448, List.forall_mem_cons.mpr ⟨lk_449, List.forall_mem_nil _⟩⟩⟩⟩⟩⟩⟩⟩⟩⟩⟩⟩⟩⟩⟩⟩⟩⟩⟩⟩⟩⟩⟩⟩⟩
theorem lk_c450 : ∀ r ∈ ([(1, 12, 25, 12, 14, 0), (1, 12, 28, 12, 15, 0), (1, 12, 32, 12, 16, 0), (1, 12, 35, 12, 17, 0), (1, 12, 38, 12, 20, 0), (1, 12, 41, 12, 21, 0), (1, 12, 44, 12, 22, 0), (1, 12, 47, 12, 23, 0), (1, 12, 50, 12, 24, 0), (1, 12, 53, 12, 25, 0), (1, 12, 56, 12, 26, 0), (1, 12, 59, 12, 27, 0), (1, 12, 62, 12, 28, 0), (1, 12, 65, 12, 29, 0), (1, 12, 68, 12, 32, 0), (1, 12, 71, 12, 33, 0), (1, 12, 74, 12, 35, 0), (1, 12, 77, 12, 36, 0), (1, 12, 80, 12, 37, 0), (1, 12, 83, 12, 38, 0), (1, 12, 86, 12, 39, 0), (1, 12, 89, 12, 40, 0), (1, 12, 92, 12, 41, 0), (1, 12, 95, 12, 42, 0), (1, 12, 98, 12, 44, 0)] : List (Nat × Nat × Nat × Nat × Nat × Int)), lk_ok r := List.forall_mem_cons.mpr ⟨lk_450, List.forall_mem_cons.mpr ⟨lk_451, List.forall_mem_cons.mpr ⟨lk_452, List.forall_mem_cons.mpr ⟨lk_453, List.forall_mem_cons.mpr ⟨lk_454, List.forall_mem_cons.mpr ⟨lk_455, List.forall_mem_cons.mpr ⟨lk_456, List.forall_mem_cons.mpr ⟨lk_457, List.forall_mem_cons.mpr ⟨lk_458, List.forall_mem_cons.mpr ⟨lk_459, List.forall_mem_cons.mpr ⟨lk_460, List.forall_mem_cons.mpr ⟨lk_461, List.forall_mem_cons.mpr ⟨lk_462, List.forall_mem_cons.mpr ⟨lk_463, List.forall_mem_cons.mpr ⟨lk_464, List.forall_mem_cons.mpr ⟨lk_465, List.forall_mem_cons.mpr ⟨lk_466, List.forall_mem_cons.mpr ⟨lk_467, List.forall_mem_cons.mpr ⟨lk_468, List.forall_mem_cons.mpr ⟨lk_469, List.forall_mem_cons.mpr ⟨lk_470, List.forall_mem_cons.mpr ⟨lk_471, List.forall_mem_cons.mpr ⟨lk_472, List.forall_mem_cons.mpr ⟨lk_473, List.forall_mem_cons.mpr ⟨lk_474, List.forall_mem_nil _⟩⟩⟩⟩⟩⟩⟩⟩⟩⟩⟩⟩⟩⟩⟩⟩⟩⟩⟩⟩⟩⟩⟩⟩⟩
theorem lk_c475 : ∀ r ∈ ([(1, 12, 101, 12, 45, 0), (1, 12, 104, 12, 48, 0), (1, 12, 107, 12, 49, 0), (1, 12, 110, 12, 50, 0), (1, 12, 113, 12, 51, 0), (1, 12, 116, 12, 52, 0), (1, 12, 119, 12, 53, 0), (1, 12, 122, 12, 54, 0), (1, 12, 125, 12, 55, 0), (1, 12, 128, 12, 56, 0), (1, 12, 131, 12, 58, 0), (1, 12, 134, 12, 60, 0), (1, 12, 137, 12, 61, 0), (1, 12, 140, 12, 62, 0), (1, 12, 143, 12, 64, 0), (1, 12, 146, 12, 65, 0), (1, 12, 149, 12, 66, 0), (1, 12, 152, 12, 69, 0), (1, 12, 155, 12, 71, 0), (1, 12, 158, 12, 73, 0), (1, 12, 161, 12, 74, 0), (1, 12, 164, 12, 0, 0), (1, 12, 174, 12, 1, 0), (11, 12, 177, 0, 206, 0), (8, 12, 181, 0, 0, 16)] : List (Nat × Nat × Nat × Nat × Nat × Int)), lk_ok r := List.forall_mem_cons.mpr ⟨lk_475, List.forall_mem_cons.mpr ⟨lk_476, List.forall_mem_cons.mpr ⟨lk_477, List.forall_mem_cons.mpr ⟨lk_478, List.forall_mem_cons.mpr ⟨lk_479, List.forall_mem_cons.mpr ⟨lk_480, List.forall_mem_cons.mpr ⟨lk_481, List.forall_mem_cons.mpr ⟨lk_482, List.forall_mem_cons.mpr ⟨lk_483, List.forall_mem_cons.mpr ⟨lk_484, List.forall_mem_cons.mpr ⟨lk_485, List.forall_mem_cons.mpr ⟨lk_486, List.forall_mem_cons.mpr ⟨lk_487, List.forall_mem_cons.mpr ⟨lk_488, List.forall_mem_cons.mpr ⟨lk_489, List.forall_mem_cons.mpr ⟨lk_490, List.forall_mem_cons.mpr ⟨lk_491, List.forall_mem_cons.mpr ⟨lk_492, List.forall_mem_cons.mpr ⟨lk_493, List.forall_mem_cons.mpr ⟨lk_494, List.forall_mem_cons.mpr ⟨lk_495, List.forall_mem_cons.mpr ⟨lk_496, List.forall_mem_cons.mpr ⟨lk_497, List.forall_mem_cons.mpr ⟨lk_498, List.forall_mem_cons.mpr ⟨lk_499, List.forall_mem_nil _⟩⟩⟩⟩⟩⟩⟩⟩⟩⟩⟩⟩⟩⟩⟩⟩⟩⟩⟩⟩⟩⟩⟩⟩⟩
theorem lk_c500 : ∀ r ∈ ([(11, 12, 183, 0, 207, 0), (1, 12, 461, 12, 5, 0), (1, 12, 168, 12, 6, 0), (1, 12, 171, 12, 7, 0), (1, 12, 374, 12, 8, 0), (1, 12, 433, 12, 72, 0), (1, 12, 187, 12, 3, 0), (1, 12, 276, 12, 19, 0), (1, 12, 279, 12, 31, 0), (1, 12, 311, 12, 34, 0), (1, 12, 282, 12, 47, 0), (1, 12, 317, 12, 57, 0), (11, 12, 464, 0, 208, 0), (11, 12, 467, 0, 209, 0), (11, 12, 470, 0, 210, 0), (11, 12, 473, 0, 211, 0), (11, 12, 476, 0, 212, 0), (11, 12, 479, 0, 213, 0), (11, 12, 482, 0, 214, 0), (11, 12, 485, 0, 215, 0), (11, 12, 488, 0, 216, 0), (11, 12, 491, 0, 217, 0), (8, 12, 494, 0, 0, 4), (1, 12, 270, 12, 30, 0), (11, 12, 384, 0, 218, 0)] : List (Nat × Nat × Nat × Nat × Nat × Int)), lk_ok r := List.forall_mem_cons.mpr ⟨lk_500, List.forall_mem_cons.mpr ⟨lk_501, List.forall_mem_cons.mpr ⟨lk_502, List.forall_mem_cons.mpr ⟨lk_503, List.forall_mem_cons.mpr ⟨lk_504, List.forall_mem_cons.mpr ⟨lk_505, List.forall_mem_cons.mpr ⟨lk_506, List.forall_mem_cons.mpr ⟨lk_507, List.forall_mem_cons.mpr ⟨lk_508, List.forall_mem_cons.mpr ⟨lk_509, List.forall_mem_cons.mpr ⟨lk_510, List.forall_mem_cons.mpr ⟨lk_511, List.forall_mem_cons.mpr ⟨lk_512, List.forall_mem_cons.mpr ⟨lk_513, List.forall_mem_cons.mpr ⟨lk_514, List.forall_mem_cons.mpr ⟨lk_515, List.forall_mem_cons.mpr ⟨lk_516, List.forall_mem_cons.mpr ⟨lk_517, List.forall_mem_cons.mpr ⟨lk_518, List.forall_mem_cons.mpr ⟨lk_519, List.forall_mem_cons.mpr ⟨lk_520, List.forall_mem_cons.mpr ⟨lk_521, List.forall_mem_cons.mpr ⟨lk_522, List.forall_mem_cons.mpr ⟨lk_523, List.forall_mem_cons.mpr ⟨lk_524, List.forall_mem_nil _⟩⟩⟩⟩⟩⟩⟩⟩⟩⟩⟩⟩⟩⟩⟩⟩⟩⟩⟩⟩⟩⟩⟩⟩⟩
theorem lk_c525 : ∀ r ∈ ([(11, 12, 458, 0, 219, 0), (8, 12, 496, 0, 0, -1), (8, 12, 498, 0, 0, 6), (1, 12, 500, 12, 9, 0), (1, 12, 242, 12, 11, 0), (11, 12, 511, 0, 220, 0), (11, 12, 505, 0, 221, 0), (11, 12, 514, 0, 222, 0), (11, 12, 245, 0, 223, 0), (11, 12, 208, 0, 224, 0), (11, 12, 248, 0, 225, 0), (11, 12, 194, 0, 226, 0), (11, 12, 238, 0, 227, 0), (11, 12, 251, 0, 228, 0), (11, 12, 255, 0, 229, 0), (11, 12, 258, 0, 230, 0), (1, 12, 261, 12, 18, 0), (11, 12, 267, 0, 231, 0), (11, 12, 264, 0, 232, 0), (11, 12, 273, 0, 233, 0), (8, 12, 391, 0, 0, 64), (11, 12, 393, 0, 234, 0), (8, 12, 397, 0, 0, 32), (8, 12, 399, 0, 0, 20), (8, 12, 401, 0, 0, 2)] : List (Nat × Nat × Nat × Nat × Nat × Int)), lk_ok r := List.forall_mem_cons.mpr ⟨lk_525, List.forall_mem_cons.mpr ⟨lk_526, List.forall_mem_cons.mpr ⟨lk_527, List.forall_mem_cons.mpr ⟨lk_528, List.forall_mem_cons.mpr ⟨lk_529, List.forall_mem_cons.mpr ⟨lk_530, List.forall_mem_cons.mpr ⟨lk_531, List.forall_mem_cons.mpr ⟨lk_532, List.forall_mem_cons.mpr ⟨lk_533, List.forall_mem_cons.mpr ⟨lk_534, List.forall_mem_cons.mpr ⟨lk_535, List.forall_mem_cons.mpr ⟨lk_536, List.forall_mem_cons.mpr ⟨lk_537, List.forall_mem_cons.mpr ⟨lk_538, List.forall_mem_cons.mpr ⟨lk_539, List.forall_mem_cons.mpr ⟨lk_540, List.forall_mem_cons.mpr ⟨lk_541, List.forall_mem_cons.mpr ⟨lk_542, List.forall_mem_cons.mpr ⟨lk_543, List.forall_mem_cons.mpr ⟨lk_544, List.forall_mem_cons.mpr ⟨lk_545, List.forall_mem_cons.mpr ⟨lk_546, List.forall_mem_cons.mpr ⟨lk_547, List.forall_mem_cons.mpr ⟨lk_548, List.forall_mem_cons.mpr ⟨lk_549, List.forall_mem_nil _⟩⟩⟩⟩⟩⟩⟩⟩⟩⟩⟩⟩⟩⟩⟩⟩⟩⟩⟩⟩⟩⟩⟩⟩⟩
theorem lk_c550 : ∀ r ∈ ([(11, 12, 388, 0, 235, 0), (11, 12, 403, 0, 236, 0), (8, 12, 406, 0, 0, 255), (8, 12, 408, 0, 0, 31), (11, 12, 410, 0, 237, 0), (11, 12, 417, 0, 238, 0), (11, 12, 413, 0, 239, 0), (11, 12, 420, 0, 240, 0), (11, 12, 424, 0, 241, 0), (11, 12, 427, 0, 242, 0), (11, 12, 430, 0, 243, 0), (11, 12, 436, 0, 244, 0), (11, 12, 439, 0, 245, 0), (11, 12, 442, 0, 246, 0), (11, 12, 452, 0, 247, 0), (11, 12, 455, 0, 248, 0), (11, 12, 377, 0, 249, 0), (8, 12, 380, 0, 0, 10), (8, 12, 190, 0, 0, 48), (8, 12, 382, 0, 0, 1099511627776), (11, 12, 508, 0, 250, 0), (8, 12, 503, 0, 0, 9), (8, 12, 198, 0, 0, 97), (8, 12, 202, 0, 0, 122), (8, 12, 204, 0, 0, 65)] : List (Nat × Nat × Nat × Nat × Nat × Int)), lk_ok r := List.forall_mem_cons.mpr ⟨lk_550, List.forall_mem_cons.mpr ⟨lk_551, List.forall_mem_cons.mpr ⟨lk_552, List.forall_mem_cons.mpr ⟨lk_553, List.forall_mem_cons.mpr ⟨lk_554, List.forall_mem_cons.mpr ⟨lk_555, List.forall_mem_cons.mpr ⟨lk_556, List.forall_mem_cons.mpr ⟨lk_557, List.forall_mem_cons.mpr ⟨lk_558, List.forall_mem_cons.mpr ⟨lk_559, List.forall_mem_cons.mpr ⟨lk_560, List.forall_mem_cons.mpr ⟨lk_561, List.forall_mem_cons.mpr ⟨lk_562, List.forall_mem_cons.mpr ⟨lk_563, List.forall_mem_cons.mpr ⟨lk_564, List.forall_mem_cons.mpr ⟨lk_565, List.forall_mem_cons.mpr ⟨lk_566, List.forall_mem_cons.mpr ⟨lk_567, List.forall_mem_cons.mpr ⟨lk_568, List.forall_mem_cons.mpr ⟨lk_569, List.forall_mem_cons.mpr ⟨lk_570, List.forall_mem_cons.mpr ⟨lk_571, List.forall_mem_cons.mpr ⟨lk_572, List.forall_mem_cons.mpr ⟨lk_573, List.forall_mem_cons.mpr ⟨lk_574, List.forall_mem_nil _⟩⟩⟩⟩⟩⟩⟩⟩⟩⟩⟩⟩⟩⟩⟩⟩⟩⟩⟩⟩⟩⟩⟩⟩⟩
theorem lk_c575 : ∀ r ∈ ([(8, 12, 206, 0, 0, 90), (8, 12, 192, 0, 0, 57), (8, 12, 211, 0, 0, 2003792484), (8, 12, 213, 0, 0, 7497063), (8, 12, 215, 0, 0, 7169389), (8, 12, 217, 0, 0, 6579558), (8, 12, 219, 0, 0, 6909555), (8, 12, 221, 0, 0, 26982), (8, 12, 223, 0, 0, 1701606245), (8, 12, 225, 0, 0, 7497072), (8, 12, 227, 0, 0, 491260572517), (8, 12, 229, 0, 0, 29560), (8, 12, 231, 0, 0, 31352), (8, 12, 233, 0, 0, 6513012), (11, 12, 235, 0, 251, 0), (1, 12, 285, 12, 46, 0), (11, 12, 288, 0, 252, 0), (11, 12, 291, 0, 253, 0), (11, 12, 295, 0, 254, 0), (11, 12, 445, 0, 255, 0), (11, 12, 449, 0, 256, 0), (8, 12, 200, 0, 0, 102), (11, 12, 298, 0, 257, 0), (1, 12, 301, 12, 43, 0), (11, 12, 304, 0, 258, 0)] : List (Nat × Nat × Nat × Nat × Nat × Int)), lk_ok r := List.forall_mem_cons.mpr ⟨lk_575, List.forall_mem_cons.mpr ⟨lk_576, List.forall_mem_cons.mpr ⟨lk_577, List.forall_mem_cons.mpr ⟨lk_578, List.forall_mem_cons.mpr ⟨lk_579, List.forall_mem_cons.mpr ⟨lk_580, List.forall_mem_cons.mpr ⟨lk_581, List.forall_mem_cons.mpr ⟨lk_582, List.forall_mem_cons.mpr ⟨lk_583, List.forall_mem_cons.mpr ⟨lk_584, List.forall_mem_cons.mpr ⟨lk_585, List.forall_mem_cons.mpr ⟨lk_586, List.forall_mem_cons.mpr ⟨lk_587, List.forall_mem_cons.mpr ⟨lk_588, List.forall_mem_cons.mpr ⟨lk_589, List.forall_mem_cons.mpr ⟨lk_590, List.forall_mem_cons.mpr ⟨lk_591, List.forall_mem_cons.mpr ⟨lk_592, List.forall_mem_cons.mpr ⟨lk_593, List.forall_mem_cons.mpr ⟨lk_594, List.forall_mem_cons.mpr ⟨lk_595, List.forall_mem_cons.mpr ⟨lk_596, List.forall_mem_cons.mpr ⟨lk_597, List.forall_mem_cons.mpr ⟨lk_598, List.forall_mem_cons.mpr ⟨lk_599, List.forall_mem_nil _⟩⟩⟩⟩⟩⟩⟩⟩⟩⟩⟩⟩⟩⟩⟩⟩⟩⟩⟩⟩⟩⟩⟩⟩⟩
theorem lk_c600 : ∀ r ∈ ([(11, 12, 308, 0, 259, 0), (1, 12, 314, 12, 59, 0), (1, 12, 334, 12, 63, 0), (1, 12, 344, 12, 67, 0), (1, 12, 320, 12, 68, 0), (11, 12, 347, 0, 260, 0), (11, 12, 351, 0, 261, 0), (1, 12, 355, 12, 70, 0), (11, 12, 359, 0, 262, 0), (11, 12, 326, 0, 263, 0), (11, 12, 330, 0, 264, 0), (11, 12, 337, 0, 265, 0), (11, 12, 340, 0, 266, 0), (11, 12, 362, 0, 267, 0), (11, 12, 323, 0, 268, 0), (11, 12, 365, 0, 269, 0), (11, 12, 368, 0, 270, 0), (11, 12, 371, 0, 271, 0), (1, 13, 9, 13, 0, 0), (11, 13, 335, 0, 275, 0), (11, 13, 492, 0, 276, 0), (11, 13, 495, 0, 296, 0), (11, 13, 633, 0, 277, 0), (4, 13, 38, 1, 0, 0), (1, 13, 15, 13, 1, 0)] : List (Nat × Nat × Nat × Nat × Nat × Int)), lk_ok r := List.forall_mem_cons.mpr ⟨lk_600, List.forall_mem_cons.mpr ⟨lk_601, List.forall_mem_cons.mpr ⟨lk_602, List.forall_mem_cons.mpr ⟨lk_603, List.forall_mem_cons.mpr ⟨lk_604, List.forall_mem_cons.mpr ⟨lk_605, List.forall_mem_cons.mpr ⟨lk_606, List.forall_mem_cons.mpr ⟨lk_607, List.forall_mem_cons.mpr ⟨lk_608, List.forall_mem_cons.mpr ⟨lk_609, List.forall_mem_cons.mpr ⟨lk_610, List.forall_mem_cons.mpr ⟨lk_611, List.forall_mem_cons.mpr ⟨lk_612, List.forall_mem_cons.mpr ⟨lk_613, List.forall_mem_cons.mpr ⟨lk_614, List.forall_mem_cons.mpr ⟨lk_615, List.forall_mem_cons.mpr ⟨lk_616, List.forall_mem_cons.mpr ⟨lk_617, List.forall_mem_cons.mpr ⟨lk_618, List.forall_mem_cons.mpr ⟨lk_619, List.forall_mem_cons.mpr ⟨lk_620, List.forall_mem_cons.mpr ⟨lk_621, List.forall_mem_cons.mpr ⟨lk_622, List.forall_mem_cons.mpr ⟨lk_623, List.forall_mem_cons.mpr ⟨lk_624, List.forall_mem_nil _⟩⟩⟩⟩⟩⟩⟩⟩⟩⟩⟩⟩⟩⟩⟩⟩⟩⟩⟩⟩⟩⟩⟩⟩⟩
theorem lk_c625 : ∀ r ∈ ([(11, 13, 505, 0, 272, 0), (11, 13, 637, 0, 297, 0), (5, 13, 1053, 0, 26, 0), (11, 13, 1059, 0, 300, 0), (9, 17, 8, 0, 0, 0), (11, 17, 53, 0, 0, 0), (9, 17, 54, 0, 12, 0), (11, 17, 56, 0, 192, 0), (11, 17, 57, 0, 280, 0), (11, 17, 62, 0, 193, 0), (11, 17, 87, 0, 194, 0), (11, 17, 63, 0, 281, 0), (11, 17, 66, 0, 195, 0), (11, 17, 67, 0, 282, 0), (11, 17, 70, 0, 196, 0), (11, 17, 71, 0, 283, 0), (11, 17, 73, 0, 197, 0), (11, 17, 74, 0, 284, 0), (11, 17, 77, 0, 198, 0), (11, 17, 78, 0, 285, 0), (11, 17, 80, 0, 199, 0), (11, 17, 81, 0, 286, 0), (11, 17, 83, 0, 200, 0), (11, 17, 84, 0, 287, 0), (11, 17, 86, 0, 201, 0)] : List (Nat × Nat × Nat × Nat × Nat × Int)), lk_ok r := List.forall_mem_cons.mpr ⟨lk_625, List.forall_mem_cons.mpr ⟨lk_626, List.forall_mem_cons.mpr ⟨lk_627, List.forall_mem_cons.mpr ⟨lk_628, List.forall_mem_cons.mpr ⟨lk_629, List.forall_mem_cons.mpr ⟨lk_630, List.forall_mem_cons.mpr ⟨lk_631, List.forall_mem_cons.mpr ⟨lk_632, List.forall_mem_cons.mpr ⟨lk_633, List.forall_mem_cons.mpr ⟨lk_634, List.forall_mem_cons.mpr ⟨lk_635, List.forall_mem_cons.mpr ⟨lk_636, List.forall_mem_cons.mpr ⟨lk_637, List.forall_mem_cons.mpr ⟨lk_638, List.forall_mem_cons.mpr ⟨lk_639, List.forall_mem_cons.mpr ⟨lk_640, List.forall_mem_cons.mpr ⟨lk_641, List.forall_mem_cons.mpr ⟨lk_642, List.forall_mem_cons.mpr ⟨lk_643, List.forall_mem_cons.mpr ⟨lk_644, List.forall_mem_cons.mpr ⟨lk_645, List.forall_mem_cons.mpr ⟨lk_646, List.forall_mem_cons.mpr ⟨lk_647, List.forall_mem_cons.mpr ⟨lk_648, List.forall_mem_cons.mpr ⟨lk_649, List.forall_mem_nil _⟩⟩⟩⟩⟩⟩⟩⟩⟩⟩⟩⟩⟩⟩⟩⟩⟩⟩⟩⟩⟩⟩⟩⟩⟩
theorem lk_c650 : ∀ r ∈ ([(11, 17, 90, 0, 288, 0), (11, 17, 92, 0, 202, 0), (11, 17, 93, 0, 289, 0), (11, 17, 95, 0, 203, 0), (11, 17, 96, 0, 290, 0), (11, 17, 98, 0, 204, 0), (11, 17, 99, 0, 1, 0), (11, 17, 102, 0, 205, 0), (11, 17, 7, 0, 2, 0), (16, 17, 13, 0, 14, 0), (11, 17, 15, 0, 3, 0), (16, 17, 19, 0, 15, 0), (11, 17, 21, 0, 4, 0), (11, 17, 25, 0, 5, 0), (16, 17, 28, 0, 16, 0), (11, 17, 30, 0, 6, 0), (11, 17, 34, 0, 7, 0), (11, 17, 38, 0, 8, 0), (11, 17, 41, 0, 9, 0), (11, 17, 44, 0, 10, 0), (11, 17, 47, 0, 11, 0), (11, 17, 50, 0, 12, 0), (6, 19, 265, 0, 0, 1431655765), (6, 19, 266, 0, 0, 858993459), (6, 19, 267, 0, 0, 252645135)] : List (Nat × Nat × Nat × Nat × Nat × Int)), lk_ok r := List.forall_mem_cons.mpr ⟨lk_650, List.forall_mem_cons.mpr ⟨lk_651, List.forall_mem_cons.mpr ⟨lk_652, List.forall_mem_cons.mpr ⟨lk_653, List.forall_mem_cons.mpr ⟨lk_654, List.forall_mem_cons.mpr ⟨lk_655, List.forall_mem_cons.mpr ⟨lk_656, List.forall_mem_cons.mpr ⟨lk_657, List.forall_mem_cons.mpr ⟨lk_658, List.forall_mem_cons.mpr ⟨lk_659, List.forall_mem_cons.mpr ⟨lk_660, List.forall_mem_cons.mpr ⟨lk_661, List.forall_mem_cons.mpr ⟨lk_662, List.forall_mem_cons.mpr ⟨lk_663, List.forall_mem_cons.mpr ⟨lk_664, List.forall_mem_cons.mpr ⟨lk_665, List.forall_mem_cons.mpr ⟨lk_666, List.forall_mem_cons.mpr ⟨lk_667, List.forall_mem_cons.mpr ⟨lk_668, List.forall_mem_cons.mpr ⟨lk_669, List.forall_mem_cons.mpr ⟨lk_670, List.forall_mem_cons.mpr ⟨lk_671, List.forall_mem_cons.mpr ⟨lk_672, List.forall_mem_cons.mpr ⟨lk_673, List.forall_mem_cons.mpr ⟨lk_674, List.forall_mem_nil _⟩⟩⟩⟩⟩⟩⟩⟩⟩⟩⟩⟩⟩⟩⟩⟩⟩⟩⟩⟩⟩⟩⟩⟩⟩
theorem lk_c675 : ∀ r ∈ ([(6, 19, 264, 0, 0, 65536), (11, 20, 9, 0, 278, 0), (11, 20, 88, 0, 298, 0), (11, 20, 92, 0, 292, 0), (11, 20, 38, 0, 291, 0), (11, 20, 95, 0, 299, 0)] : List (Nat × Nat × Nat × Nat × Nat × Int)), lk_ok r := List.forall_mem_cons.mpr ⟨lk_675, List.forall_mem_cons.mpr ⟨lk_676, List.forall_mem_cons.mpr ⟨lk_677, List.forall_mem_cons.mpr ⟨lk_678, List.forall_mem_cons.mpr ⟨lk_679, List.forall_mem_cons.mpr ⟨lk_680, List.forall_mem_nil _⟩⟩⟩⟩⟩⟩
theorem lk_join {α : Type} {P : α → Prop} {a b : List α} (h1 : ∀ r ∈ a, P r) (h2 : ∀ r ∈ b, P r) : ∀ r ∈ a ++ b, P r := fun r h => (List.mem_append.mp h).elim (h1 r) (h2 r)
set_option maxRecDepth 20000 in
theorem lk_all : ∀ r ∈ tb_lk, lk_ok r := (lk_join lk_c0 (lk_join lk_c25 (lk_join lk_c50 (lk_join lk_c75 (lk_join lk_c100 (lk_join lk_c125 (lk_join lk_c150 (lk_join lk_c175 (lk_join lk_c200 (lk_join lk_c225 (lk_join lk_c250 (lk_join lk_c275 (lk_join lk_c300 (lk_join lk_c325 (lk_join lk_c350 (lk_join lk_c375 (lk_join lk_c400 (lk_join lk_c425 (lk_join lk_c450 (lk_join lk_c475 (lk_join lk_c500 (lk_join lk_c525 (lk_join lk_c550 (lk_join lk_c575 (lk_join lk_c600 (lk_join lk_c625 (lk_join lk_c650 lk_c675)))))))))))))))))))))))))))
