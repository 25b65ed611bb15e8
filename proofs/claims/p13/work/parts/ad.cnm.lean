/-! THE CLASS's check of the names. -/
/-- something is noted, if p -/
def NT (s s' : Sg) (p : Prop) : Prop := (∀ c, c ≠ 30 → s' c = s c) ∧ (∀ j, j < 4 ∨ 7 < j → s' 30 j = s 30 j) ∧ (CN s' ↔ CN s ∧ ¬ p)
def FTc (s : Sg) (k : Int) (i : Nat) (c : Int) : Prop := (k = 1 ∧ s 55 i = 0 ∧ s 58 i = 0) ∨ (k = 2 ∧ (s 55 i = 1 ∨ s 55 i = 0 ∧ s 58 i ≠ 0)) ∨ (k ≠ 1 ∧ k ≠ 2 ∧ s 55 i = 2 ∧ s 58 i = c)
section CNM
variable {T : TT} {sc sm s0 s s' s2 : Sg} {n a b S P A N K C w i x : Nat} {t : Nat → Int} {p q : Prop} {k c : Int}
theorem NT.refl (s : Sg) : NT s s False := ⟨fun _ _ => rfl, fun _ _ => rfl, ⟨fun y => ⟨y, fun z => z⟩, fun y => y.1⟩⟩
theorem NT.trans (h : NT s s' p) (k : NT s' s2 q) : NT s s2 (p ∨ q) := ⟨fun c x => (k.1 c x).trans (h.1 c x), fun j x => (k.2.1 j x).trans (h.2.1 j x), by
  rw [k.2.2, h.2.2, not_or, and_assoc]⟩
theorem NT.iff (h : NT s s' p) (k : p ↔ q) : NT s s' q := ⟨h.1, h.2.1, by rw [h.2.2, k]⟩
theorem loop_nt {j : Nat → Int → Sg → Option Sg} {tl : Sg → Option Sg} {bad : Nat → Prop} {M : Nat} (step : ∀ F i s, i < M → (∀ c, c ≠ 30 → s c = s0 c) → ∃ s' : Sg, j (F + 1) (i : Int) s = j F ((i + 1 : Nat) : Int) s' ∧ NT s s' (bad i)) (stop : ∀ F s, (∀ c, c ≠ 30 → s c = s0 c) → j (F + 1) (M : Int) s = tl s) :
    ∀ (r l F : Nat) (s : Sg), l + r = M → (∀ c, c ≠ 30 → s c = s0 c) → ∃ s' : Sg, j (F + r + 1) (l : Int) s = tl s' ∧ NT s s' (∃ i, l ≤ i ∧ i < M ∧ bad i) := by
  intro r
  induction r with
  | zero =>
    intro l F s hl ha
    rw [show l = M by omega]
    exact ⟨s, stop F s ha, (NT.refl s).iff ⟨fun y => y.elim, fun ⟨i, y, z, _⟩ => by omega⟩⟩
  | succ r ih =>
    intro l F s hl ha
    obtain ⟨s1, e1, f1⟩ := step (F + r + 1) l s (by omega) ha
    obtain ⟨s', e2, f2⟩ := ih (l + 1) F s1 (by omega) (fun c x => (f1.1 c x).trans (ha c x))
    refine ⟨s', by rw [show F + (r + 1) + 1 = (F + r + 1) + 1 by omega, e1, e2], (f1.trans f2).iff ⟨fun y => ?_, fun ⟨i, y, z, u⟩ => ?_⟩⟩
    · rcases y with y | ⟨i, y, z, u⟩
      · exact ⟨l, Nat.le_refl _, by omega, y⟩
      · exact ⟨i, by omega, z, u⟩
    · by_cases e : i = l
      · rw [e] at u; exact Or.inl u
      · exact Or.inr ⟨i, by omega, z, u⟩
theorem loop_nu {j : Nat → Int → Sg → Option Sg} {tl : Sg → Option Sg} {bad : Nat → Prop} {M : Nat} (step : ∀ F i s, i < M → (∀ c, c ≠ 30 → s c = s0 c) → ∃ s' : Sg, j (F + 1) (i : Int) s = j F ((i + 1 : Nat) : Int) s' ∧ NT s s' (bad i)) (stop : ∀ F s, (∀ c, c ≠ 30 → s c = s0 c) → j (F + 1) (M : Int) s = tl s) (hM : M ≤ 9000) (ha : ∀ c, c ≠ 30 → s c = s0 c) : ∃ s' : Sg, j FU 0 s = tl s' ∧ NT s s' (∃ i, i < M ∧ bad i) := by
  obtain ⟨F, hF⟩ := FU_split (k := M + 1) (by omega)
  obtain ⟨s', h1, h2⟩ := loop_nt step stop M 0 F s (by omega) ha
  rw [show F + M + 1 = FU by omega] at h1
  exact ⟨s', h1, h2.iff ⟨fun ⟨i, _, y, z⟩ => ⟨i, y, z⟩, fun ⟨i, y, z⟩ => ⟨i, Nat.zero_le _, y, z⟩⟩⟩
theorem c27 (hS : s 54 6 = (S : Int)) (hi : i < S) (hS8 : S ≤ 1171) : f_27 (i : Int) k c s = some (p01 (FTc s k i c)) := by
  have e1 : f_181 (i : Int) s = 1 := by unfold f_181; rw [hS, if_neg (by omega), if_neg (by omega)]
  have g : 0 ≤ (i : Int) ∧ (i : Int) < 1171 := by omega
  have g2 : g_182 (i : Int) s := by unfold g_182; exact ⟨fun _ => trivial, fun _ => ⟨g, trivial⟩⟩
  have g4 : g_184 (i : Int) s := by unfold g_184; exact ⟨fun _ => trivial, fun _ => ⟨g, trivial⟩⟩
  have f2 : f_182 (i : Int) s = s 55 i := by unfold f_182; rw [e1, if_neg (by decide), Int.toNat_natCast]
  have f4 : f_184 (i : Int) s = s 58 i := by unfold f_184; rw [e1, if_neg (by decide), Int.toNat_natCast]
  unfold f_27
  rw [gd_pos g2, gd_pos g4, f2, f4]
  by_cases k1 : k = 1
  · rw [if_pos k1]
    by_cases a1 : s 55 i = 0
    · rw [if_neg (fun e => e a1)]
      by_cases a2 : s 58 i = 0
      · rw [if_neg (fun e => e a2), p01_y (show FTc s k i c from Or.inl ⟨k1, a1, a2⟩)]
      · rw [if_pos a2, p01_n (show ¬ FTc s k i c from fun y => by
          rcases y with y | ⟨y, _⟩ | ⟨y, _⟩
          · exact a2 y.2.2
          · omega
          · exact y k1)]
    · rw [if_pos a1, p01_n (show ¬ FTc s k i c from fun y => by
        rcases y with y | ⟨y, _⟩ | ⟨y, _⟩
        · exact a1 y.2.1
        · omega
        · exact y k1)]
  · rw [if_neg k1]
    by_cases k2 : k = 2
    · rw [if_pos k2]
      by_cases a1 : s 55 i = 1
      · rw [if_pos a1, p01_y (show FTc s k i c from Or.inr (Or.inl ⟨k2, Or.inl a1⟩))]
      · rw [if_neg a1]
        by_cases a2 : s 55 i = 0
        · rw [if_neg (fun e => e a2)]
          by_cases a3 : s 58 i = 0
          · rw [if_pos a3, p01_n (show ¬ FTc s k i c from fun y => by
              rcases y with ⟨y, _⟩ | ⟨_, y | y⟩ | ⟨_, y, _⟩
              · exact k1 y
              · exact a1 y
              · exact y.2 a3
              · exact y k2)]
          · rw [if_neg a3, p01_y (show FTc s k i c from Or.inr (Or.inl ⟨k2, Or.inr ⟨a2, a3⟩⟩))]
        · rw [if_pos a2, p01_n (show ¬ FTc s k i c from fun y => by
            rcases y with ⟨y, _⟩ | ⟨_, y | y⟩ | ⟨_, y, _⟩
            · exact k1 y
            · exact a1 y
            · exact a2 y.1
            · exact y k2)]
    · rw [if_neg k2]
      by_cases a1 : s 55 i = 2
      · rw [if_neg (fun e => e a1)]
        by_cases a2 : s 58 i = c
        · rw [if_neg (fun e => e a2), p01_y (show FTc s k i c from Or.inr (Or.inr ⟨k1, k2, a1, a2⟩))]
        · rw [if_pos a2, p01_n (show ¬ FTc s k i c from fun y => by
            rcases y with ⟨y, _⟩ | ⟨y, _⟩ | y
            · exact k1 y
            · exact k2 y
            · exact a2 y.2.2.2)]
      · rw [if_pos a1, p01_n (show ¬ FTc s k i c from fun y => by
          rcases y with ⟨y, _⟩ | ⟨y, _⟩ | y
          · exact k1 y
          · exact k2 y
          · exact a1 y.2.2.1)]
/-- a name is asked for -/
def okN (T : TT) (s : Sg) (S x : Nat) (k c : Int) : Prop := ∃ i : Nat, i < S ∧ s 36 (T.vl x).toNat = (i : Int) ∧ FTc s k i c
theorem c21 (hT : TWF T) (hc : CC T s) (hS : s 54 6 = (S : Int)) (hS8 : S ≤ 1171) (ho : OWR T s sm S) (hx : x < T.z) (tx : T.tk x = 1) : ∃ s' : Sg, f_21 (x : Int) k c s = some s' ∧ NT s s' (¬ okN T s S x k c) := by
  obtain ⟨c1, c2⟩ := c97 hc hT (a := x) (by omega)
  rw [if_pos tx] at c1
  obtain ⟨d1, d2, -⟩ := c109 hT hc hx tx
  have v1 := hT.2.2.2.2.1 x hx
  have v2 := hT.2.2.2.2.2.1 x hx tx
  have e26 : f_26 (x : Int) s = s 36 (T.vl x).toNat := by unfold f_26; rw [c1, d2]
  have g26 : g_26 (x : Int) s := by unfold g_26; rw [c1]; exact ⟨c2, d1, trivial⟩
  obtain ⟨p1, p2⟩ := c80 (a := x) hc hT (by omega)
  have f0 := hT.2.2.2.1 x (by omega)
  unfold f_21
  rw [gd_pos g26, e26]
  rcases ho (T.vl x).toNat (IDN.at hT hx tx) with ⟨u1, u2⟩ | ⟨i, u1, u2, u3⟩
  · obtain ⟨w1, w2, w3, w4⟩ := c71 (s := s) (x := 6) (p := T.fm x) (by decide) f0
    rw [if_neg (fun e => e u1), gd_pos p2, p1, gd_pos w1, Option.bind_some]
    exact ⟨_, rfl, w3, w4, ⟨fun y => absurd y w2, fun y => absurd (fun ⟨i, z1, z2, z3⟩ => by omega) y.2⟩⟩
  · rw [if_pos (by omega), u2, c27 hS u1 hS8, Option.bind_some]
    by_cases d : FTc s k i c
    · rw [p01_y d, if_pos (by decide)]
      exact ⟨s, rfl, (NT.refl s).iff ⟨fun y => y.elim, fun y => y ⟨i, u1, u2, d⟩⟩⟩
    · obtain ⟨w1, w2, w3, w4⟩ := c71 (s := s) (x := 7) (p := T.fm x) (by decide) f0
      rw [p01_n d, if_neg (by decide), gd_pos p2, p1, gd_pos w1, Option.bind_some]
      refine ⟨_, rfl, w3, w4, ⟨fun y => absurd y w2, fun y => absurd (fun ⟨j, z1, z2, z3⟩ => ?_) y.2⟩⟩
      have : j = i := by omega
      rw [this] at z3
      exact d z3
def bcN (T : TT) (s : Sg) (S n : Nat) : Prop := (1 ≤ s 47 n ∧ s 47 n ≤ 3 ∧ s 48 n = 0) ∧ ¬ okN T s S (s 50 n).toNat (s 47 n) (s 53 n)
def bcC (T : TT) (s : Sg) (S c : Nat) : Prop := s 65 c = 0 ∧ ¬ okN T s S (s 62 c).toNat (if ¬ s 63 c = -1 then 2 else 1) 1
theorem c18 (h : CKX T sc sm n t S P A N K C w) (h54 : sc 54 6 = (S : Int)) (hS8 : S ≤ 1171) (h61 : sc 61 4 = (C : Int)) (hC8 : C ≤ 2049) : ∃ s' : Sg, f_18 sc = some s' ∧ NT sc s' ((∃ i, i < N ∧ bcN T sc S i) ∨ (∃ i, i < C ∧ bcC T sc S i)) := by
  have hnod := fun i (hi : i < N) => h.nod hi
  obtain ⟨hT, hX, hC, hD, hN, h19, h31, h34, h30, wz, tw, S8, P8, A8, N8⟩ := h
  have z8 := hT.1
  have cc : ∀ s : Sg, (∀ c, c ≠ 30 → s c = sc c) → CC T s := fun s y => hC.row (by rw [y 39 (by decide)]) (y 41 (by decide)) (y 42 (by decide)) (y 44 (by decide)) (by rw [y 31 (by decide)]) (y 1 (by decide))
  have ow : ∀ s : Sg, (∀ c, c ≠ 30 → s c = sc c) → OWR T s sm S := fun s y => by
    intro id hid
    rw [y 36 (by decide)]
    exact hD.2.2.2.2.2.1 id hid
  have okc : ∀ s : Sg, (∀ c, c ≠ 30 → s c = sc c) → ∀ x k c, okN T s S x k c ↔ okN T sc S x k c := fun s y x k c => by
    unfold okN FTc
    rw [y 36 (by decide), y 55 (by decide), y 58 (by decide)]
  have st1 : ∀ F i s, i < N → (∀ c, c ≠ 30 → s c = sc c) → ∃ s' : Sg, j_18_2 (F + 1) (i : Int) s = j_18_2 F ((i + 1 : Nat) : Int) s' ∧ NT s s' (bcN T sc S i) := by
    intro F i s hi y
    obtain ⟨si, b1, b2, b3, b4, b5⟩ := hnod i hi
    obtain ⟨cnt, q, n1, n2, n3, n4, n5, n6, n7, n8, n9, -⟩ := hN.2.2.2 i hi
    have r46 : s 46 7 = (N : Int) := by rw [y 46 (by decide)]; exact hN.1
    have e114 : f_114 (i : Int) s = 1 := by unfold f_114; rw [r46, if_neg (by omega), if_neg (by omega)]
    have g : 0 ≤ (i : Int) ∧ (i : Int) < 8192 := by omega
    have g116 : g_116 (i : Int) s := by unfold g_116; exact ⟨fun _ => trivial, fun _ => ⟨g, trivial⟩⟩
    have g117 : g_117 (i : Int) s := by unfold g_117; exact ⟨fun _ => trivial, fun _ => ⟨g, trivial⟩⟩
    have g118 : g_118 (i : Int) s := by unfold g_118; exact ⟨fun _ => trivial, fun _ => ⟨g, trivial⟩⟩
    have g122 : g_122 (i : Int) s := by unfold g_122; exact ⟨fun _ => trivial, fun _ => ⟨g, trivial⟩⟩
    have f116 : f_116 (i : Int) s = sc 47 i := by unfold f_116; rw [e114, if_neg (by decide), Int.toNat_natCast, y 47 (by decide)]
    have f117 : f_117 (i : Int) s = sc 48 i := by unfold f_117; rw [e114, if_neg (by decide), Int.toNat_natCast, y 48 (by decide)]
    have f118 : f_118 (i : Int) s = sc 53 i := by unfold f_118; rw [e114, if_neg (by decide), Int.toNat_natCast, y 53 (by decide)]
    have f122 : f_122 (i : Int) s = sc 50 i := by unfold f_122; rw [e114, if_neg (by decide), Int.toNat_natCast, y 50 (by decide)]
    have k64 : ∀ x : Sg, j_18_64 (j_18_2 F) (i : Int) x = j_18_2 F ((i + 1 : Nat) : Int) x := fun x => by
      unfold j_18_64
      rw [w32_nat (by omega)]
    rw [j_18_2, r46, if_neg (by omega), gd_pos g116, f116]
    unfold bcN
    by_cases c1 : sc 47 i < 1
    · rw [if_pos c1, k64]
      exact ⟨s, rfl, (NT.refl s).iff ⟨fun z => z.elim, fun z => by omega⟩⟩
    · by_cases c2 : 3 < sc 47 i
      · rw [if_neg c1, if_pos c2, k64]
        exact ⟨s, rfl, (NT.refl s).iff ⟨fun z => z.elim, fun z => by omega⟩⟩
      · rw [if_neg c1, if_neg c2, gd_pos g117, f117]
        by_cases c3 : sc 48 i = 0
        · obtain ⟨x, x1, x0, x2, x3⟩ := b5 (by omega)
          have e50 : sc 50 i = (x : Int) := by rw [n9, x0]
          obtain ⟨s', e1, e2⟩ := c21 (k := sc 47 i) (c := sc 53 i) hT (cc s y) (by rw [y 54 (by decide)]; exact h54) hS8 (ow s y) x2 x3
          rw [if_neg (fun e => e c3), gd_pos g122, gd_pos g118, f122, f118, e50, e1, Option.bind_some, k64, Int.toNat_natCast]
          refine ⟨s', rfl, e2.iff ?_⟩
          rw [okc s y]
          exact ⟨fun z => ⟨⟨by omega, by omega, c3⟩, z⟩, fun z => z.2⟩
        · rw [if_pos c3, k64]
          exact ⟨s, rfl, (NT.refl s).iff ⟨fun z => z.elim, fun z => c3 z.1.2.2⟩⟩
  have st2 : ∀ F i s, i < C → (∀ c, c ≠ 30 → s c = sc c) → ∃ s' : Sg, j_18_72 (F + 1) (i : Int) s = j_18_72 F ((i + 1 : Nat) : Int) s' ∧ NT s s' (bcC T sc S i) := by
    intro F i s hi y
    have r61 : s 61 4 = (C : Int) := by rw [y 61 (by decide)]; exact h61
    have e39 : f_39 (i : Int) s = 1 := by unfold f_39; rw [r61, if_neg (by omega), if_neg (by omega)]
    have g : 0 ≤ (i : Int) ∧ (i : Int) < 2049 := by omega
    have g34 : g_34 (i : Int) s := by unfold g_34; exact ⟨fun _ => trivial, fun _ => ⟨g, trivial⟩⟩
    have g35 : g_35 (i : Int) s := by unfold g_35; exact ⟨fun _ => trivial, fun _ => ⟨g, trivial⟩⟩
    have g36 : g_36 (i : Int) s := by unfold g_36; exact ⟨fun _ => trivial, fun _ => ⟨g, trivial⟩⟩
    have f34 : f_34 (i : Int) s = p01 (sc 65 i = 0) := by
      unfold f_34
      rw [e39, if_neg (by decide), Int.toNat_natCast, y 65 (by decide)]
      by_cases c : sc 65 i = 0
      · rw [if_neg (fun e => e c), p01_y c]
      · rw [if_pos c, p01_n c]
    have f35 : f_35 (i : Int) s = sc 62 i := by unfold f_35; rw [e39, if_neg (by decide), Int.toNat_natCast, y 62 (by decide)]
    have f36 : f_36 (i : Int) s = sc 63 i := by unfold f_36; rw [e39, if_neg (by decide), Int.toNat_natCast, y 63 (by decide)]
    have k124 : ∀ x : Sg, j_18_124 (j_18_72 F) (i : Int) x = j_18_72 F ((i + 1 : Nat) : Int) x := fun x => by
      unfold j_18_124
      rw [w32_nat (by omega)]
    rw [j_18_72, r61, if_neg (by omega), gd_pos g34, f34]
    unfold bcC
    by_cases c : sc 65 i = 0
    · have : ∃ x : Nat, sc 62 i = (x : Int) ∧ x < T.z ∧ T.tk x = 1 := by
        rcases hD.2.2.1.1 i hi with ⟨a, a1, a2, a3, _⟩ | ⟨a, _, _, _, _, _, a6⟩ | ⟨a, _, _, _, _, _, a6⟩
        · obtain ⟨si, _, _, _, _, b5⟩ := hD.act a1
          obtain ⟨x, x1, x2, x3⟩ := b5 (Or.inl a2)
          exact ⟨x, by rw [a3]; exact x1, x2, x3⟩
        · omega
        · rw [a6] at c
          exfalso
          split at c <;> omega
      obtain ⟨x, x1, x2, x3⟩ := this
      obtain ⟨s', e1, e2⟩ := c21 (k := (if ¬ sc 63 i = -1 then 2 else 1)) (c := 1) hT (cc s y) (by rw [y 54 (by decide)]; exact h54) hS8 (ow s y) x2 x3
      rw [p01_y c, if_neg (by decide), gd_pos g35, gd_pos g36, f35, f36, x1, e1, Option.bind_some, k124, Int.toNat_natCast]
      refine ⟨s', rfl, e2.iff ?_⟩
      rw [okc s y]
      exact ⟨fun z => ⟨c, z⟩, fun z => z.2⟩
    · rw [p01_n c, if_pos rfl, k124]
      exact ⟨s, rfl, (NT.refl s).iff ⟨fun z => z.elim, fun z => c z.1⟩⟩
  obtain ⟨s1, e1, f1⟩ := loop_nu (s0 := sc) (j := j_18_2) (tl := j_18_70) (M := N) st1 (fun F s y => by rw [j_18_2, y 46 (by decide), hN.1, if_pos (by omega)]) (by omega) (fun _ _ => rfl)
  obtain ⟨s2, e2, f2⟩ := loop_nu (s0 := sc) (j := j_18_72) (tl := fun s => some s) (M := C) st2 (fun F s y => by rw [j_18_72, y 61 (by decide), h61, if_pos (by omega)]) (by omega) f1.1
  refine ⟨s2, ?_, f1.trans f2⟩
  unfold f_18
  rw [e1]
  show j_18_72 FU 0 s1 = _
  rw [e2]
end CNM
