/-! THE REFERENCE's checks: loops; the numbers. -/
/-- but for what is found, two states agree -/
def AG (s0 s : Sg) : Prop := (∀ c, c ≠ 84 → s c = s0 c) ∧ (∀ j, j ≠ 8 → s 84 j = s0 84 j)
/-- a check has told -/
def TLD (s s' : Sg) (k : Int) (p : Prop) : Prop := (∀ c, c ≠ 84 → s' c = s c) ∧ (∀ j, j ≠ 6 → j ≠ 7 → j ≠ 8 → s' 84 j = s 84 j) ∧ s' 84 8 = -1 ∧ (p → s' 84 6 = k) ∧ (¬ p → s' 84 6 = 0 ∧ s' = s)
/-- all that has been read, when it is checked -/
def CKX (T : TT) (sc sm : Sg) (n : Nat) (t : Nat → Int) (S P A N K C w : Nat) : Prop := TWF T ∧ TX T sc sm n t ∧ CC T sc ∧ DAT T sc sm S P A N C w ∧ ND T sc sm N K ∧ sm 84 19 = (S : Int) ∧ sm 84 31 = (P : Int) ∧ sm 84 34 = (A : Int) ∧ sm 84 30 = (w : Int) ∧ w < T.z ∧ T.tk w = 2 ∧ S < 4100 ∧ P ≤ 8192 ∧ A ≤ 8192 ∧ N ≤ 8192
section CKS
variable {T : TT} {sc sm s0 s s' s2 : Sg} {n a b S P A N K C w : Nat} {t : Nat → Int} {p q : Prop}
theorem AG.refl (s : Sg) : AG s s := ⟨fun _ _ => rfl, fun _ _ => rfl⟩
theorem AG.fd (h : AG s0 s) (k : FD s s' p) : AG s0 s' := ⟨fun c x => (k.1 c x).trans (h.1 c x), fun j x => (k.2.1 j x).trans (h.2 j x)⟩
theorem AG.tx (h : AG s0 s) (k : TX T sc s0 n t) : TX T sc s n t := k.mrow (h.2 3 (by decide)) (h.1 86 (by decide)) (h.1 89 (by decide)) (h.1 90 (by decide))
theorem FD.neg (h : FD s s' (¬ p)) : (0 ≤ s' 84 8 ↔ 0 ≤ s 84 8 ∨ ¬ p) := h.2.2
/-- a loop that finds -/
theorem loop_fd {j : Nat → Int → Sg → Option Sg} {tl : Sg → Option Sg} {bad : Nat → Prop} {M : Nat} (step : ∀ F i s, i < M → AG s0 s → ∃ s' : Sg, j (F + 1) (i : Int) s = j F ((i + 1 : Nat) : Int) s' ∧ FD s s' (bad i)) (stop : ∀ F s, AG s0 s → j (F + 1) (M : Int) s = tl s) :
    ∀ (r l F : Nat) (s : Sg), l + r = M → AG s0 s → ∃ s' : Sg, j (F + r + 1) (l : Int) s = tl s' ∧ FD s s' (∃ i, l ≤ i ∧ i < M ∧ bad i) ∧ AG s0 s' := by
  intro r
  induction r with
  | zero =>
    intro l F s hl ha
    rw [show l = M by omega]
    exact ⟨s, stop F s ha, (FD.refl s).iff ⟨fun y => y.elim, fun ⟨i, y, z, _⟩ => by omega⟩, ha⟩
  | succ r ih =>
    intro l F s hl ha
    obtain ⟨s1, e1, f1⟩ := step (F + r + 1) l s (by omega) ha
    obtain ⟨s', e2, f2, a2⟩ := ih (l + 1) F s1 (by omega) (ha.fd f1)
    refine ⟨s', by rw [show F + (r + 1) + 1 = (F + r + 1) + 1 by omega, e1, e2], (f1.trans f2).iff ⟨fun y => ?_, fun ⟨i, y, z, u⟩ => ?_⟩, a2⟩
    · rcases y with y | ⟨i, y, z, u⟩
      · exact ⟨l, Nat.le_refl _, by omega, y⟩
      · exact ⟨i, by omega, z, u⟩
    · by_cases e : i = l
      · rw [e] at u; exact Or.inl u
      · exact Or.inr ⟨i, by omega, z, u⟩
theorem loop_fu {j : Nat → Int → Sg → Option Sg} {tl : Sg → Option Sg} {bad : Nat → Prop} {M : Nat} (step : ∀ F i s, i < M → AG s0 s → ∃ s' : Sg, j (F + 1) (i : Int) s = j F ((i + 1 : Nat) : Int) s' ∧ FD s s' (bad i)) (stop : ∀ F s, AG s0 s → j (F + 1) (M : Int) s = tl s) (hM : M ≤ 9000) (ha : AG s0 s) : ∃ s' : Sg, j FU 0 s = tl s' ∧ FD s s' (∃ i, i < M ∧ bad i) ∧ AG s0 s' := by
  obtain ⟨F, hF⟩ := FU_split (k := M + 1) (by omega)
  obtain ⟨s', h1, h2, h3⟩ := loop_fd step stop M 0 F s (by omega) ha
  rw [show F + M + 1 = FU by omega] at h1
  exact ⟨s', h1, h2.iff ⟨fun ⟨i, _, y, z⟩ => ⟨i, y, z⟩, fun ⟨i, y, z⟩ => ⟨i, Nat.zero_le _, y, z⟩⟩, h3⟩
theorem m237 {k : Int} (h : FD sm s p) (h8 : sm 84 8 = -1) (h6 : sm 84 6 = 0) : ∃ s' : Sg, f_237 k s = some s' ∧ TLD sm s' k p := by
  obtain ⟨f1, f2, f3⟩ := h
  have e6 : s 84 6 = 0 := by rw [f2 6 (by decide)]; exact h6
  unfold f_237 j_237_16
  by_cases c : s 84 8 < 0
  · have np : ¬ p := fun y => by
      have := f3.mpr (Or.inr y)
      omega
    rw [if_pos c]
    have same : ax_u2 s 84 8 (-1) = sm := by
      funext c j
      by_cases hc : c = 84
      · subst hc
        by_cases hj : j = 8
        · subst hj; rw [u2_same, h8]
        · rw [u2_col _ _ _ hj, f2 j hj]
      · rw [u2_row _ _ _ hc, f1 c hc]
    exact ⟨_, rfl, fun c x => by rw [u2_row _ _ _ x, f1 c x], fun j x y z => by rw [u2_col _ _ _ z, f2 j z], u2_same _ _ _ _, fun y => absurd y np, fun _ => ⟨by rw [u2_col _ _ _ (by decide)]; exact e6, same⟩⟩
  · have py : p := by
      rcases f3.mp (by omega) with y | y
      · omega
      · exact y
    rw [if_neg c, Option.bind_some]
    unfold f_227
    rw [if_pos (by omega)]
    refine ⟨_, rfl, fun c x => by rw [u2_row _ _ _ x, u2_row _ _ _ x, u2_row _ _ _ x, f1 c x], fun j x y z => by rw [u2_col _ _ _ z, u2_col _ _ _ y, u2_col _ _ _ x, f2 j z], u2_same _ _ _ _, fun _ => ?_, fun y => absurd py y⟩
    rw [u2_col _ _ _ (by decide), u2_col _ _ _ (by decide)]
    exact u2_same _ _ _ _
def bdS (T : TT) (sm : Sg) (i : Nat) : Prop := ¬ ((sm 94 i < 3 → 1 ≤ T.vl (sm 97 i).toNat ∧ T.vl (sm 97 i).toNat ≤ 32) ∧ (sm 94 i = 1 → 1 ≤ T.vl (sm 96 i).toNat ∧ T.vl (sm 96 i).toNat ≤ 20) ∧ (sm 94 i = 0 → 0 ≤ sm 96 i → pw2 (T.vl (sm 96 i).toNat)))
def bdP (T : TT) (sc sm : Sg) (p : Nat) : Prop := ¬ ((0 ≤ sm 104 p → 1 ≤ T.vl (sm 105 p).toNat ∧ T.vl (sm 105 p).toNat ≤ 32) ∧ (sm 104 p < 0 → BIN sc (sm 105 p).toNat))
def bdA (T : TT) (sm : Sg) (a : Nat) : Prop := ¬ ((sm 106 a = 2 → 1 ≤ T.vl (sm 108 a).toNat ∧ T.vl (sm 108 a).toNat ≤ 255) ∧ (sm 106 a = 3 → T.vl (sm 108 a).toNat ≤ 255))
def bdN (T : TT) (sm : Sg) (n : Nat) : Prop := ¬ ((sm 116 n = 0 → 1 ≤ T.vl (sm 119 n).toNat ∧ T.vl (sm 119 n).toNat ≤ 32 ∧ T.vl (sm 118 n).toNat < 2 ^ (T.vl (sm 119 n).toNat).toNat) ∧ (sm 116 n = 4 ∨ sm 116 n = 5 → 1 ≤ T.vl (sm 119 n).toNat ∧ T.vl (sm 119 n).toNat ≤ 32) ∧ (sm 116 n = 7 → T.vl (sm 118 n).toNat ≤ 31 ∧ T.vl (sm 119 n).toNat ≤ 31 ∧ T.vl (sm 119 n).toNat ≤ T.vl (sm 118 n).toNat))
theorem pw2_d : ∀ k : Nat, k < 65 → 2 ≤ k → (ax_cmp (ax_land (k : Int) (ax_w64 ((k : Int) - 1))) 0 = 0 ↔ pw2 (k : Int)) := by
  unfold pw2
  decide +kernel
theorem shl_d : ∀ k : Nat, k < 33 → 1 ≤ k → ax_w64 (ax_lshl 1 (k : Int) - 1) = 2 ^ k - 1 := by decide +kernel
/-- statements -/
theorem ck4s (h : CKX T sc sm n t S P A N K C w) (F i : Nat) (s : Sg) (hi : i < S) (ha : AG sm s) : ∃ s' : Sg, j_210_15 (F + 1) (i : Int) s = j_210_15 F ((i + 1 : Nat) : Int) s' ∧ FD s s' (bdS T sm i) := by
  obtain ⟨hT, hX, hC, hD, hN, h19, h31, h34, h30, wz, tw, S8, P8, A8, N8⟩ := h
  have z8 := hT.1
  obtain ⟨hd, p0, pc, n0, b1, b2, b3, b4, b5, b6, b7, b8, b9, b10, b11⟩ := hD.1 i hi
  have r : ∀ c, c ≠ 84 → ∀ x : Sg, AG sm x → x c = sm c := fun c y x z => z.1 c y
  have k140 : ∀ x : Sg, j_210_140 (j_210_15 F) (i : Int) x = j_210_15 F ((i + 1 : Nat) : Int) x := fun x => by
    unfold j_210_140
    rw [w32_nat (by omega)]
  -- the third question
  have s3 : ∀ x : Sg, AG sm x → ∃ s' : Sg, j_210_73 (j_210_15 F) (i : Int) x = j_210_15 F ((i + 1 : Nat) : Int) s' ∧ FD x s' (¬ (sm 94 i = 0 → 0 ≤ sm 96 i → pw2 (T.vl (sm 96 i).toNat))) := by
    intro x hx
    unfold j_210_73
    rw [gd_pos (by omega), Int.toNat_natCast, r 94 (by decide) x hx, r 96 (by decide) x hx]
    by_cases c0 : sm 94 i = 0
    · rw [if_neg (fun e => e c0), gd_pos (by omega)]
      by_cases c1 : sm 96 i < 0
      · rw [if_pos c1, k140]
        exact ⟨x, rfl, (FD.refl x).iff ⟨fun y => y.elim, fun y => absurd (fun _ z => absurd z (by omega)) y⟩⟩
      · rw [if_neg c1, gd_pos (by omega)]
        have kc : SKC T sc sm i := by
          rcases b11 with ⟨_, _, _, u⟩ | ⟨u, -⟩ | ⟨u, -⟩ | ⟨u, -⟩
          · rcases u with u | u
            · omega
            · exact u
          · omega
          · omega
          · omega
        obtain ⟨c, g1, g2, g3, g4⟩ := kc
        rw [g1, m218 hT (hx.tx hX) g2 g3, Option.bind_some, within_eq, Int.toNat_natCast]
        have v0 := hT.2.2.2.2.1 c g2
        have k125 : ∃ s' : Sg, j_210_125 (j_210_15 F) (i : Int) x = j_210_15 F ((i + 1 : Nat) : Int) s' ∧ FD x s' True := by
          unfold j_210_125
          obtain ⟨i1, j1, _, _, d1, _⟩ := hX.nu g2 g3
          rw [gd_pos (by omega), Int.toNat_natCast, r 96 (by decide) x hx, g1, gd_pos (by omega), Int.toNat_natCast, r 89 (by decide) x hx, d1, Option.bind_some, k140]
          exact ⟨_, rfl, m235 (by omega)⟩
        by_cases c2 : 2 ≤ T.vl c ∧ T.vl c ≤ 64
        · rw [if_pos c2, if_neg (by decide)]
          have pd := pw2_d (T.vl c).toNat (by omega) (by omega)
          rw [Int.toNat_of_nonneg v0.1] at pd
          by_cases c3 : pw2 (T.vl c)
          · rw [if_pos (pd.mpr c3), k140]
            exact ⟨x, rfl, (FD.refl x).iff ⟨fun y => y.elim, fun y => absurd (fun _ _ => c3) y⟩⟩
          · rw [if_neg (fun e => c3 (pd.mp e))]
            obtain ⟨s', e1, e2⟩ := k125
            exact ⟨s', e1, e2.iff ⟨fun _ y => c3 (y c0 (by omega)), fun _ => trivial⟩⟩
        · rw [if_neg c2, if_pos rfl]
          obtain ⟨s', e1, e2⟩ := k125
          refine ⟨s', e1, e2.iff ⟨fun _ y => ?_, fun _ => trivial⟩⟩
          have := y c0 (by omega)
          unfold pw2 at this
          omega
    · rw [if_pos c0, k140]
      exact ⟨x, rfl, (FD.refl x).iff ⟨fun y => y.elim, fun y => absurd (fun z => absurd z c0) y⟩⟩
  have s2 : ∀ x : Sg, AG sm x → ∃ s' : Sg, j_210_48 (j_210_15 F) (i : Int) x = j_210_15 F ((i + 1 : Nat) : Int) s' ∧ FD x s' (¬ (sm 94 i = 1 → 1 ≤ T.vl (sm 96 i).toNat ∧ T.vl (sm 96 i).toNat ≤ 20) ∨ ¬ (sm 94 i = 0 → 0 ≤ sm 96 i → pw2 (T.vl (sm 96 i).toNat))) := by
    intro x hx
    unfold j_210_48
    rw [gd_pos (by omega), Int.toNat_natCast, r 94 (by decide) x hx, r 96 (by decide) x hx]
    by_cases c0 : sm 94 i = 1
    · rw [if_neg (fun e => e c0), gd_pos (by omega)]
      have kc : SKC T sc sm i := by
        rcases b11 with ⟨u, -⟩ | ⟨_, _, _, u⟩ | ⟨u, -⟩ | ⟨u, -⟩
        · omega
        · exact u
        · omega
        · omega
      obtain ⟨c, g1, g2, g3, g4⟩ := kc
      obtain ⟨x1, e1, e2⟩ := m234 hT (hx.tx hX) g2 g3 1 20
      obtain ⟨x2, e3, e4⟩ := s3 x1 (hx.fd e2)
      rw [g1, e1, Option.bind_some]
      refine ⟨x2, e3, (e2.trans e4).iff ?_⟩
      rw [g1, Int.toNat_natCast]
      exact ⟨fun y => by
        rcases y with y | y
        · exact Or.inl (fun z => y (z c0))
        · exact Or.inr y, fun y => by
        rcases y with y | y
        · exact Or.inl (fun z => y (fun _ => z))
        · exact Or.inr y⟩
    · rw [if_pos c0]
      obtain ⟨x2, e3, e4⟩ := s3 x hx
      exact ⟨x2, e3, e4.iff ⟨fun y => Or.inr y, fun y => by
        rcases y with y | y
        · exact absurd (fun z => absurd z c0) y
        · exact y⟩⟩
  rw [j_210_15, ha.2 19 (by decide), h19, if_neg (by omega), gd_pos (by omega), Int.toNat_natCast, r 94 (by decide) s ha, r 97 (by decide) s ha]
  unfold bdS
  by_cases c0 : 3 ≤ sm 94 i
  · rw [if_pos c0]
    obtain ⟨x2, e3, e4⟩ := s2 s ha
    refine ⟨x2, e3, e4.iff ⟨fun y z => ?_, fun y => ?_⟩⟩
    · rcases y with y | y
      · exact y z.2.1
      · exact y z.2.2
    · apply Classical.byContradiction
      intro hn
      exact y ⟨fun z => absurd z (by omega), Classical.byContradiction (fun u => hn (Or.inl u)), Classical.byContradiction (fun u => hn (Or.inr u))⟩
  · rw [if_neg c0, gd_pos (by omega)]
    have kw : SKW T sc sm i := by
      rcases b11 with ⟨_, _, u, _⟩ | ⟨_, _, u, _⟩ | ⟨_, _, u, _⟩ | ⟨u, -⟩
      · exact u
      · exact u
      · exact u
      · omega
    obtain ⟨c, g1, g2, g3, g4⟩ := kw
    obtain ⟨x1, e1, e2⟩ := m234 hT (ha.tx hX) g2 g3 1 32
    obtain ⟨x2, e3, e4⟩ := s2 x1 (ha.fd e2)
    rw [g1, e1, Option.bind_some]
    refine ⟨x2, e3, (e2.trans e4).iff ?_⟩
    first | rw [g1, Int.toNat_natCast] | rw [Int.toNat_natCast]
    constructor
    · intro y z
      rcases y with y | y | y
      · exact y (z.1 (by omega))
      · exact y z.2.1
      · exact y z.2.2
    · intro y
      apply Classical.byContradiction
      intro hn
      exact y ⟨fun _ => Classical.byContradiction (fun u => hn (Or.inl u)), Classical.byContradiction (fun u => hn (Or.inr (Or.inl u))), Classical.byContradiction (fun u => hn (Or.inr (Or.inr u)))⟩
end CKS
