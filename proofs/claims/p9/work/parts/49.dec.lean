/-! SMALL METHODS, by program. -/
/-- MachineText$Claims.clear()V -/
def f_33 (s : Nat → Nat → Int) : Nat → Nat → Int := (ax_u2 s 61 4 0)
theorem ev_33 {L c : Nat} {s : Nat → Nat → Int} {e : Nat → Nat} : Ev 1 33 [.inr (.inr (some 61))] (hp L s c e) (.inl none) (hp L (f_33 s) c e) := by
  unfold f_33
  refine Ev.of (μ := tb_m33) (ls := [some (.inr (.inr (some 61)))]) rfl (Nat.le_of_ble_eq_true rfl) rfl ?_
  refine Ru.step (pc' := 1) (ls' := [some (.inr (.inr (some 61)))]) (st' := [.inr (.inr (some 61))]) (h1 := hp L s c e) rfl ?_
  refine Ru.step (pc' := 2) (ls' := [some (.inr (.inr (some 61)))]) (st' := [.inl 0, .inr (.inr (some 61))]) (h1 := hp L s c e) rfl ?_
  refine Ru.step (pc' := 5) (ls' := [some (.inr (.inr (some 61)))]) (st' := []) (h1 := hp L (ax_u2 s 61 4 0) c e) rfl ?_
  exact Ru.done rfl
/-- MachineText$Claims.has(I)Z -/
def f_39 (x0 : Int) (s : Nat → Nat → Int) : Int := (if x0 < 0 then 0 else (if s 61 4 ≤ x0 then 0 else 1))
theorem ev_39 {L c : Nat} {s : Nat → Nat → Int} {e : Nat → Nat} (x0 : Int) : Ev 1 39 [.inr (.inr (some 61)), .inl x0] (hp L s c e) (.inl (some (.inl (f_39 x0 s)))) (hp L s c e) := by
  unfold f_39
  refine Ev.of (μ := tb_m39) (ls := [some (.inr (.inr (some 61))), some (.inl x0)]) rfl (Nat.le_of_ble_eq_true rfl) rfl ?_
  refine Ru.step (pc' := 1) (ls' := [some (.inr (.inr (some 61))), some (.inl x0)]) (st' := [.inl x0]) (h1 := hp L s c e) rfl ?_
  by_cases h0 : x0 < 0
  · rw [if_pos h0]
    refine Ru.jy rfl h0 ?_
    refine Ru.step (pc' := 17) (ls' := [some (.inr (.inr (some 61))), some (.inl x0)]) (st' := [.inl 0]) (h1 := hp L s c e) rfl ?_
    exact Ru.done rfl
  · rw [if_neg h0]
    refine Ru.jn rfl h0 ?_
    refine Ru.step (pc' := 5) (ls' := [some (.inr (.inr (some 61))), some (.inl x0)]) (st' := [.inl x0]) (h1 := hp L s c e) rfl ?_
    refine Ru.step (pc' := 6) (ls' := [some (.inr (.inr (some 61))), some (.inl x0)]) (st' := [.inr (.inr (some 61)), .inl x0]) (h1 := hp L s c e) rfl ?_
    refine Ru.step (pc' := 9) (ls' := [some (.inr (.inr (some 61))), some (.inl x0)]) (st' := [.inl (s 61 4), .inl x0]) (h1 := hp L s c e) rfl ?_
    by_cases h1 : s 61 4 ≤ x0
    · rw [if_pos h1]
      refine Ru.jy rfl h1 ?_
      refine Ru.step (pc' := 17) (ls' := [some (.inr (.inr (some 61))), some (.inl x0)]) (st' := [.inl 0]) (h1 := hp L s c e) rfl ?_
      exact Ru.done rfl
    · rw [if_neg h1]
      refine Ru.jn rfl h1 ?_
      refine Ru.step (pc' := 13) (ls' := [some (.inr (.inr (some 61))), some (.inl x0)]) (st' := [.inl 1]) (h1 := hp L s c e) rfl ?_
      refine Ru.step (pc' := 17) (ls' := [some (.inr (.inr (some 61))), some (.inl x0)]) (st' := [.inl 1]) (h1 := hp L s c e) rfl ?_
      exact Ru.done rfl
/-- MachineText$Claims.valueOf(I)I -/
def f_40 (x0 : Int) (s : Nat → Nat → Int) : Int := (if f_39 x0 s = 0 then (-1) else s 64 x0.toNat)
def g_40 (x0 : Int) (s : Nat → Nat → Int) : Prop := ((f_39 x0 s = 0 → True) ∧ (¬ (f_39 x0 s = 0) → ((0 ≤ x0 ∧ x0 < 2049) ∧ True)))
theorem ev_40 {L c : Nat} {s : Nat → Nat → Int} {e : Nat → Nat} (x0 : Int) (hg : g_40 x0 s) : Ev 2 40 [.inr (.inr (some 61)), .inl x0] (hp L s c e) (.inl (some (.inl (f_40 x0 s)))) (hp L s c e) := by
  unfold f_40
  unfold g_40 at hg
  refine Ev.of (μ := tb_m40) (ls := [some (.inr (.inr (some 61))), some (.inl x0)]) rfl (Nat.le_of_ble_eq_true rfl) rfl ?_
  refine Ru.step (pc' := 1) (ls' := [some (.inr (.inr (some 61))), some (.inl x0)]) (st' := [.inr (.inr (some 61))]) (h1 := hp L s c e) rfl ?_
  refine Ru.step (pc' := 2) (ls' := [some (.inr (.inr (some 61))), some (.inl x0)]) (st' := [.inl x0, .inr (.inr (some 61))]) (h1 := hp L s c e) rfl ?_
  refine Ru.call rfl ((ev_39 x0).up (by decide)) ?_
  by_cases h0 : f_39 x0 s = 0
  · rw [if_pos h0]
    have hg := hg.1 h0
    refine Ru.jy rfl h0 ?_
    refine Ru.step (pc' := 18) (ls' := [some (.inr (.inr (some 61))), some (.inl x0)]) (st' := [.inl (-1)]) (h1 := hp L s c e) rfl ?_
    exact Ru.done rfl
  · rw [if_neg h0]
    have hg := hg.2 h0
    refine Ru.jn rfl h0 ?_
    refine Ru.step (pc' := 9) (ls' := [some (.inr (.inr (some 61))), some (.inl x0)]) (st' := [.inr (.inr (some 61))]) (h1 := hp L s c e) rfl ?_
    refine Ru.step (pc' := 12) (ls' := [some (.inr (.inr (some 61))), some (.inl x0)]) (st' := [.inr (.inr (some 64))]) (h1 := hp L s c e) rfl ?_
    refine Ru.step (pc' := 13) (ls' := [some (.inr (.inr (some 61))), some (.inl x0)]) (st' := [.inl x0, .inr (.inr (some 64))]) (h1 := hp L s c e) rfl ?_
    obtain ⟨⟨b1, b2⟩, hg⟩ := hg
    refine Ru.ald (f := fun t => t == 0) (j := x0) (a := 64) rfl rfl b1 b2 ?_
    refine Ru.step (pc' := 18) (ls' := [some (.inr (.inr (some 61))), some (.inl x0)]) (st' := [.inl (s 64 x0.toNat)]) (h1 := hp L s c e) rfl ?_
    exact Ru.done rfl
/-- MachineText$Claims.wantedOf(I)I -/
def f_41 (x0 : Int) (s : Nat → Nat → Int) : Int := (if f_39 x0 s = 0 then 0 else s 65 x0.toNat)
def g_41 (x0 : Int) (s : Nat → Nat → Int) : Prop := ((f_39 x0 s = 0 → True) ∧ (¬ (f_39 x0 s = 0) → ((0 ≤ x0 ∧ x0 < 2049) ∧ True)))
theorem ev_41 {L c : Nat} {s : Nat → Nat → Int} {e : Nat → Nat} (x0 : Int) (hg : g_41 x0 s) : Ev 2 41 [.inr (.inr (some 61)), .inl x0] (hp L s c e) (.inl (some (.inl (f_41 x0 s)))) (hp L s c e) := by
  unfold f_41
  unfold g_41 at hg
  refine Ev.of (μ := tb_m41) (ls := [some (.inr (.inr (some 61))), some (.inl x0)]) rfl (Nat.le_of_ble_eq_true rfl) rfl ?_
  refine Ru.step (pc' := 1) (ls' := [some (.inr (.inr (some 61))), some (.inl x0)]) (st' := [.inr (.inr (some 61))]) (h1 := hp L s c e) rfl ?_
  refine Ru.step (pc' := 2) (ls' := [some (.inr (.inr (some 61))), some (.inl x0)]) (st' := [.inl x0, .inr (.inr (some 61))]) (h1 := hp L s c e) rfl ?_
  refine Ru.call rfl ((ev_39 x0).up (by decide)) ?_
  by_cases h0 : f_39 x0 s = 0
  · rw [if_pos h0]
    have hg := hg.1 h0
    refine Ru.jy rfl h0 ?_
    refine Ru.step (pc' := 18) (ls' := [some (.inr (.inr (some 61))), some (.inl x0)]) (st' := [.inl 0]) (h1 := hp L s c e) rfl ?_
    exact Ru.done rfl
  · rw [if_neg h0]
    have hg := hg.2 h0
    refine Ru.jn rfl h0 ?_
    refine Ru.step (pc' := 9) (ls' := [some (.inr (.inr (some 61))), some (.inl x0)]) (st' := [.inr (.inr (some 61))]) (h1 := hp L s c e) rfl ?_
    refine Ru.step (pc' := 12) (ls' := [some (.inr (.inr (some 61))), some (.inl x0)]) (st' := [.inr (.inr (some 65))]) (h1 := hp L s c e) rfl ?_
    refine Ru.step (pc' := 13) (ls' := [some (.inr (.inr (some 61))), some (.inl x0)]) (st' := [.inl x0, .inr (.inr (some 65))]) (h1 := hp L s c e) rfl ?_
    obtain ⟨⟨b1, b2⟩, hg⟩ := hg
    refine Ru.ald (f := fun t => t == 0) (j := x0) (a := 65) rfl rfl b1 b2 ?_
    refine Ru.step (pc' := 18) (ls' := [some (.inr (.inr (some 61))), some (.inl x0)]) (st' := [.inl (s 65 x0.toNat)]) (h1 := hp L s c e) rfl ?_
    exact Ru.done rfl
/-- MachineText$Claims.add(IIII)V -/
def f_42 (x0 x1 x2 x3 : Int) (s : Nat → Nat → Int) : Nat → Nat → Int := (if 2049 ≤ s 61 4 then s else (ax_u2 (ax_u2 (ax_u2 (ax_u2 (ax_u2 s 62 ((s 61 4).toNat) x0) 63 ((s 61 4).toNat) x1) 64 ((s 61 4).toNat) x2) 65 ((s 61 4).toNat) x3) 61 4 (ax_w32 ((s 61 4) + 1))))
def g_42 (x0 x1 x2 x3 : Int) (s : Nat → Nat → Int) : Prop := ((2049 ≤ s 61 4 → True) ∧ (¬ (2049 ≤ s 61 4) → ((0 ≤ s 61 4 ∧ s 61 4 < 2049) ∧ ((0 ≤ s 61 4 ∧ s 61 4 < 2049) ∧ ((0 ≤ s 61 4 ∧ s 61 4 < 2049) ∧ ((0 ≤ s 61 4 ∧ s 61 4 < 2049) ∧ True))))))
theorem ev_42 {L c : Nat} {s : Nat → Nat → Int} {e : Nat → Nat} (x0 x1 x2 x3 : Int) (hg : g_42 x0 x1 x2 x3 s) : Ev 1 42 [.inr (.inr (some 61)), .inl x0, .inl x1, .inl x2, .inl x3] (hp L s c e) (.inl none) (hp L (f_42 x0 x1 x2 x3 s) c e) := by
  unfold f_42
  unfold g_42 at hg
  refine Ev.of (μ := tb_m42) (ls := [some (.inr (.inr (some 61))), some (.inl x0), some (.inl x1), some (.inl x2), some (.inl x3)]) rfl (Nat.le_of_ble_eq_true rfl) rfl ?_
  refine Ru.step (pc' := 1) (ls' := [some (.inr (.inr (some 61))), some (.inl x0), some (.inl x1), some (.inl x2), some (.inl x3)]) (st' := [.inr (.inr (some 61))]) (h1 := hp L s c e) rfl ?_
  refine Ru.step (pc' := 4) (ls' := [some (.inr (.inr (some 61))), some (.inl x0), some (.inl x1), some (.inl x2), some (.inl x3)]) (st' := [.inl (s 61 4)]) (h1 := hp L s c e) rfl ?_
  refine Ru.step (pc' := 7) (ls' := [some (.inr (.inr (some 61))), some (.inl x0), some (.inl x1), some (.inl x2), some (.inl x3)]) (st' := [.inl 2049, .inl (s 61 4)]) (h1 := hp L s c e) rfl ?_
  by_cases h0 : 2049 ≤ s 61 4
  · rw [if_pos h0]
    have hg := hg.1 h0
    refine Ru.jy rfl h0 ?_
    exact Ru.done rfl
  · rw [if_neg h0]
    have hg := hg.2 h0
    refine Ru.jn rfl h0 ?_
    refine Ru.step (pc' := 11) (ls' := [some (.inr (.inr (some 61))), some (.inl x0), some (.inl x1), some (.inl x2), some (.inl x3)]) (st' := [.inr (.inr (some 61))]) (h1 := hp L s c e) rfl ?_
    refine Ru.step (pc' := 14) (ls' := [some (.inr (.inr (some 61))), some (.inl x0), some (.inl x1), some (.inl x2), some (.inl x3)]) (st' := [.inr (.inr (some 62))]) (h1 := hp L s c e) rfl ?_
    refine Ru.step (pc' := 15) (ls' := [some (.inr (.inr (some 61))), some (.inl x0), some (.inl x1), some (.inl x2), some (.inl x3)]) (st' := [.inr (.inr (some 61)), .inr (.inr (some 62))]) (h1 := hp L s c e) rfl ?_
    refine Ru.step (pc' := 18) (ls' := [some (.inr (.inr (some 61))), some (.inl x0), some (.inl x1), some (.inl x2), some (.inl x3)]) (st' := [.inl (s 61 4), .inr (.inr (some 62))]) (h1 := hp L s c e) rfl ?_
    refine Ru.step (pc' := 19) (ls' := [some (.inr (.inr (some 61))), some (.inl x0), some (.inl x1), some (.inl x2), some (.inl x3)]) (st' := [.inl x0, .inl (s 61 4), .inr (.inr (some 62))]) (h1 := hp L s c e) rfl ?_
    obtain ⟨⟨b1, b2⟩, hg⟩ := hg
    refine Ru.ast (f := fun t => t == 0) (j := s 61 4) (a := 62) rfl rfl (by decide) rfl rfl b1 b2 ?_
    refine Ru.step (pc' := 21) (ls' := [some (.inr (.inr (some 61))), some (.inl x0), some (.inl x1), some (.inl x2), some (.inl x3)]) (st' := [.inr (.inr (some 61))]) (h1 := hp L (ax_u2 s 62 ((s 61 4).toNat) x0) c e) rfl ?_
    refine Ru.step (pc' := 24) (ls' := [some (.inr (.inr (some 61))), some (.inl x0), some (.inl x1), some (.inl x2), some (.inl x3)]) (st' := [.inr (.inr (some 63))]) (h1 := hp L (ax_u2 s 62 ((s 61 4).toNat) x0) c e) rfl ?_
    refine Ru.step (pc' := 25) (ls' := [some (.inr (.inr (some 61))), some (.inl x0), some (.inl x1), some (.inl x2), some (.inl x3)]) (st' := [.inr (.inr (some 61)), .inr (.inr (some 63))]) (h1 := hp L (ax_u2 s 62 ((s 61 4).toNat) x0) c e) rfl ?_
    refine Ru.step (pc' := 28) (ls' := [some (.inr (.inr (some 61))), some (.inl x0), some (.inl x1), some (.inl x2), some (.inl x3)]) (st' := [.inl (s 61 4), .inr (.inr (some 63))]) (h1 := hp L (ax_u2 s 62 ((s 61 4).toNat) x0) c e) rfl ?_
    refine Ru.step (pc' := 29) (ls' := [some (.inr (.inr (some 61))), some (.inl x0), some (.inl x1), some (.inl x2), some (.inl x3)]) (st' := [.inl x1, .inl (s 61 4), .inr (.inr (some 63))]) (h1 := hp L (ax_u2 s 62 ((s 61 4).toNat) x0) c e) rfl ?_
    obtain ⟨⟨b1, b2⟩, hg⟩ := hg
    refine Ru.ast (f := fun t => t == 0) (j := s 61 4) (a := 63) rfl rfl (by decide) rfl rfl b1 b2 ?_
    refine Ru.step (pc' := 31) (ls' := [some (.inr (.inr (some 61))), some (.inl x0), some (.inl x1), some (.inl x2), some (.inl x3)]) (st' := [.inr (.inr (some 61))]) (h1 := hp L (ax_u2 (ax_u2 s 62 ((s 61 4).toNat) x0) 63 ((s 61 4).toNat) x1) c e) rfl ?_
    refine Ru.step (pc' := 34) (ls' := [some (.inr (.inr (some 61))), some (.inl x0), some (.inl x1), some (.inl x2), some (.inl x3)]) (st' := [.inr (.inr (some 64))]) (h1 := hp L (ax_u2 (ax_u2 s 62 ((s 61 4).toNat) x0) 63 ((s 61 4).toNat) x1) c e) rfl ?_
    refine Ru.step (pc' := 35) (ls' := [some (.inr (.inr (some 61))), some (.inl x0), some (.inl x1), some (.inl x2), some (.inl x3)]) (st' := [.inr (.inr (some 61)), .inr (.inr (some 64))]) (h1 := hp L (ax_u2 (ax_u2 s 62 ((s 61 4).toNat) x0) 63 ((s 61 4).toNat) x1) c e) rfl ?_
    refine Ru.step (pc' := 38) (ls' := [some (.inr (.inr (some 61))), some (.inl x0), some (.inl x1), some (.inl x2), some (.inl x3)]) (st' := [.inl (s 61 4), .inr (.inr (some 64))]) (h1 := hp L (ax_u2 (ax_u2 s 62 ((s 61 4).toNat) x0) 63 ((s 61 4).toNat) x1) c e) rfl ?_
    refine Ru.step (pc' := 39) (ls' := [some (.inr (.inr (some 61))), some (.inl x0), some (.inl x1), some (.inl x2), some (.inl x3)]) (st' := [.inl x2, .inl (s 61 4), .inr (.inr (some 64))]) (h1 := hp L (ax_u2 (ax_u2 s 62 ((s 61 4).toNat) x0) 63 ((s 61 4).toNat) x1) c e) rfl ?_
    obtain ⟨⟨b1, b2⟩, hg⟩ := hg
    refine Ru.ast (f := fun t => t == 0) (j := s 61 4) (a := 64) rfl rfl (by decide) rfl rfl b1 b2 ?_
    refine Ru.step (pc' := 41) (ls' := [some (.inr (.inr (some 61))), some (.inl x0), some (.inl x1), some (.inl x2), some (.inl x3)]) (st' := [.inr (.inr (some 61))]) (h1 := hp L (ax_u2 (ax_u2 (ax_u2 s 62 ((s 61 4).toNat) x0) 63 ((s 61 4).toNat) x1) 64 ((s 61 4).toNat) x2) c e) rfl ?_
    refine Ru.step (pc' := 44) (ls' := [some (.inr (.inr (some 61))), some (.inl x0), some (.inl x1), some (.inl x2), some (.inl x3)]) (st' := [.inr (.inr (some 65))]) (h1 := hp L (ax_u2 (ax_u2 (ax_u2 s 62 ((s 61 4).toNat) x0) 63 ((s 61 4).toNat) x1) 64 ((s 61 4).toNat) x2) c e) rfl ?_
    refine Ru.step (pc' := 45) (ls' := [some (.inr (.inr (some 61))), some (.inl x0), some (.inl x1), some (.inl x2), some (.inl x3)]) (st' := [.inr (.inr (some 61)), .inr (.inr (some 65))]) (h1 := hp L (ax_u2 (ax_u2 (ax_u2 s 62 ((s 61 4).toNat) x0) 63 ((s 61 4).toNat) x1) 64 ((s 61 4).toNat) x2) c e) rfl ?_
    refine Ru.step (pc' := 48) (ls' := [some (.inr (.inr (some 61))), some (.inl x0), some (.inl x1), some (.inl x2), some (.inl x3)]) (st' := [.inl (s 61 4), .inr (.inr (some 65))]) (h1 := hp L (ax_u2 (ax_u2 (ax_u2 s 62 ((s 61 4).toNat) x0) 63 ((s 61 4).toNat) x1) 64 ((s 61 4).toNat) x2) c e) rfl ?_
    refine Ru.step (pc' := 50) (ls' := [some (.inr (.inr (some 61))), some (.inl x0), some (.inl x1), some (.inl x2), some (.inl x3)]) (st' := [.inl x3, .inl (s 61 4), .inr (.inr (some 65))]) (h1 := hp L (ax_u2 (ax_u2 (ax_u2 s 62 ((s 61 4).toNat) x0) 63 ((s 61 4).toNat) x1) 64 ((s 61 4).toNat) x2) c e) rfl ?_
    obtain ⟨⟨b1, b2⟩, hg⟩ := hg
    refine Ru.ast (f := fun t => t == 0) (j := s 61 4) (a := 65) rfl rfl (by decide) rfl rfl b1 b2 ?_
    refine Ru.step (pc' := 52) (ls' := [some (.inr (.inr (some 61))), some (.inl x0), some (.inl x1), some (.inl x2), some (.inl x3)]) (st' := [.inr (.inr (some 61))]) (h1 := hp L (ax_u2 (ax_u2 (ax_u2 (ax_u2 s 62 ((s 61 4).toNat) x0) 63 ((s 61 4).toNat) x1) 64 ((s 61 4).toNat) x2) 65 ((s 61 4).toNat) x3) c e) rfl ?_
    refine Ru.step (pc' := 53) (ls' := [some (.inr (.inr (some 61))), some (.inl x0), some (.inl x1), some (.inl x2), some (.inl x3)]) (st' := [.inr (.inr (some 61)), .inr (.inr (some 61))]) (h1 := hp L (ax_u2 (ax_u2 (ax_u2 (ax_u2 s 62 ((s 61 4).toNat) x0) 63 ((s 61 4).toNat) x1) 64 ((s 61 4).toNat) x2) 65 ((s 61 4).toNat) x3) c e) rfl ?_
    refine Ru.step (pc' := 56) (ls' := [some (.inr (.inr (some 61))), some (.inl x0), some (.inl x1), some (.inl x2), some (.inl x3)]) (st' := [.inl (s 61 4), .inr (.inr (some 61))]) (h1 := hp L (ax_u2 (ax_u2 (ax_u2 (ax_u2 s 62 ((s 61 4).toNat) x0) 63 ((s 61 4).toNat) x1) 64 ((s 61 4).toNat) x2) 65 ((s 61 4).toNat) x3) c e) rfl ?_
    refine Ru.step (pc' := 57) (ls' := [some (.inr (.inr (some 61))), some (.inl x0), some (.inl x1), some (.inl x2), some (.inl x3)]) (st' := [.inl 1, .inl (s 61 4), .inr (.inr (some 61))]) (h1 := hp L (ax_u2 (ax_u2 (ax_u2 (ax_u2 s 62 ((s 61 4).toNat) x0) 63 ((s 61 4).toNat) x1) 64 ((s 61 4).toNat) x2) 65 ((s 61 4).toNat) x3) c e) rfl ?_
    refine Ru.step (pc' := 58) (ls' := [some (.inr (.inr (some 61))), some (.inl x0), some (.inl x1), some (.inl x2), some (.inl x3)]) (st' := [.inl (ax_w32 ((s 61 4) + 1)), .inr (.inr (some 61))]) (h1 := hp L (ax_u2 (ax_u2 (ax_u2 (ax_u2 s 62 ((s 61 4).toNat) x0) 63 ((s 61 4).toNat) x1) 64 ((s 61 4).toNat) x2) 65 ((s 61 4).toNat) x3) c e) rfl ?_
    refine Ru.step (pc' := 61) (ls' := [some (.inr (.inr (some 61))), some (.inl x0), some (.inl x1), some (.inl x2), some (.inl x3)]) (st' := []) (h1 := hp L (ax_u2 (ax_u2 (ax_u2 (ax_u2 (ax_u2 s 62 ((s 61 4).toNat) x0) 63 ((s 61 4).toNat) x1) 64 ((s 61 4).toNat) x2) 65 ((s 61 4).toNat) x3) 61 4 (ax_w32 ((s 61 4) + 1))) c e) rfl ?_
    exact Ru.done rfl
/-- MachineText$Expressions.clear()V -/
def f_44 (s : Nat → Nat → Int) : Nat → Nat → Int := (ax_u2 s 66 7 0)
theorem ev_44 {L c : Nat} {s : Nat → Nat → Int} {e : Nat → Nat} : Ev 1 44 [.inr (.inr (some 66))] (hp L s c e) (.inl none) (hp L (f_44 s) c e) := by
  unfold f_44
  refine Ev.of (μ := tb_m44) (ls := [some (.inr (.inr (some 66)))]) rfl (Nat.le_of_ble_eq_true rfl) rfl ?_
  refine Ru.step (pc' := 1) (ls' := [some (.inr (.inr (some 66)))]) (st' := [.inr (.inr (some 66))]) (h1 := hp L s c e) rfl ?_
  refine Ru.step (pc' := 2) (ls' := [some (.inr (.inr (some 66)))]) (st' := [.inl 0, .inr (.inr (some 66))]) (h1 := hp L s c e) rfl ?_
  refine Ru.step (pc' := 5) (ls' := [some (.inr (.inr (some 66)))]) (st' := []) (h1 := hp L (ax_u2 s 66 7 0) c e) rfl ?_
  exact Ru.done rfl
/-- MachineText$Expressions.levelOf(I)I -/
def f_57 (x0 : Int) (s : Nat → Nat → Int) : Int := (if x0 < 0 then (-1) else (if 22 ≤ x0 then (-1) else s 1 x0.toNat))
def g_57 (x0 : Int) (s : Nat → Nat → Int) : Prop := ((x0 < 0 → True) ∧ (¬ (x0 < 0) → ((22 ≤ x0 → True) ∧ (¬ (22 ≤ x0) → ((0 ≤ x0 ∧ x0 < 22) ∧ True)))))
theorem ev_57 {L c : Nat} {s : Nat → Nat → Int} {e : Nat → Nat} (x0 : Int) (hg : g_57 x0 s) : Ev 1 57 [.inl x0] (hp L s c e) (.inl (some (.inl (f_57 x0 s)))) (hp L s c e) := by
  unfold f_57
  unfold g_57 at hg
  refine Ev.of (μ := tb_m57) (ls := [some (.inl x0)]) rfl (Nat.le_of_ble_eq_true rfl) rfl ?_
  refine Ru.step (pc' := 1) (ls' := [some (.inl x0)]) (st' := [.inl x0]) (h1 := hp L s c e) rfl ?_
  by_cases h0 : x0 < 0
  · rw [if_pos h0]
    have hg := hg.1 h0
    refine Ru.jy rfl h0 ?_
    refine Ru.step (pc' := 21) (ls' := [some (.inl x0)]) (st' := [.inl (-1)]) (h1 := hp L s c e) rfl ?_
    exact Ru.done rfl
  · rw [if_neg h0]
    have hg := hg.2 h0
    refine Ru.jn rfl h0 ?_
    refine Ru.step (pc' := 5) (ls' := [some (.inl x0)]) (st' := [.inl x0]) (h1 := hp L s c e) rfl ?_
    refine Ru.step (pc' := 8) (ls' := [some (.inl x0)]) (st' := [.inr (.inr (some 1)), .inl x0]) (h1 := hp L s c e) rfl ?_
    refine Ru.step (pc' := 9) (ls' := [some (.inl x0)]) (st' := [.inl 22, .inl x0]) (h1 := hp L s c e) rfl ?_
    by_cases h1 : 22 ≤ x0
    · rw [if_pos h1]
      have hg := hg.1 h1
      refine Ru.jy rfl h1 ?_
      refine Ru.step (pc' := 21) (ls' := [some (.inl x0)]) (st' := [.inl (-1)]) (h1 := hp L s c e) rfl ?_
      exact Ru.done rfl
    · rw [if_neg h1]
      have hg := hg.2 h1
      refine Ru.jn rfl h1 ?_
      refine Ru.step (pc' := 15) (ls' := [some (.inl x0)]) (st' := [.inr (.inr (some 1))]) (h1 := hp L s c e) rfl ?_
      refine Ru.step (pc' := 16) (ls' := [some (.inl x0)]) (st' := [.inl x0, .inr (.inr (some 1))]) (h1 := hp L s c e) rfl ?_
      obtain ⟨⟨b1, b2⟩, hg⟩ := hg
      refine Ru.ald (f := fun t => t == 0) (j := x0) (a := 1) rfl rfl b1 b2 ?_
      refine Ru.step (pc' := 21) (ls' := [some (.inl x0)]) (st' := [.inl (s 1 x0.toNat)]) (h1 := hp L s c e) rfl ?_
      exact Ru.done rfl
/-- MachineText$Expressions.push(III)V -/
def f_61 (x0 x1 x2 : Int) (s : Nat → Nat → Int) : Nat → Nat → Int := (if 8192 ≤ s 66 7 then s else (ax_u2 (ax_u2 (ax_u2 (ax_u2 s 67 ((s 66 7).toNat) x0) 68 ((s 66 7).toNat) x1) 69 ((s 66 7).toNat) x2) 66 7 (ax_w32 ((s 66 7) + 1))))
def g_61 (x0 x1 x2 : Int) (s : Nat → Nat → Int) : Prop := ((8192 ≤ s 66 7 → True) ∧ (¬ (8192 ≤ s 66 7) → ((0 ≤ s 66 7 ∧ s 66 7 < 8192) ∧ ((0 ≤ s 66 7 ∧ s 66 7 < 8192) ∧ ((0 ≤ s 66 7 ∧ s 66 7 < 8192) ∧ True)))))
theorem ev_61 {L c : Nat} {s : Nat → Nat → Int} {e : Nat → Nat} (x0 x1 x2 : Int) (hg : g_61 x0 x1 x2 s) : Ev 1 61 [.inr (.inr (some 66)), .inl x0, .inl x1, .inl x2] (hp L s c e) (.inl none) (hp L (f_61 x0 x1 x2 s) c e) := by
  unfold f_61
  unfold g_61 at hg
  refine Ev.of (μ := tb_m61) (ls := [some (.inr (.inr (some 66))), some (.inl x0), some (.inl x1), some (.inl x2)]) rfl (Nat.le_of_ble_eq_true rfl) rfl ?_
  refine Ru.step (pc' := 1) (ls' := [some (.inr (.inr (some 66))), some (.inl x0), some (.inl x1), some (.inl x2)]) (st' := [.inr (.inr (some 66))]) (h1 := hp L s c e) rfl ?_
  refine Ru.step (pc' := 4) (ls' := [some (.inr (.inr (some 66))), some (.inl x0), some (.inl x1), some (.inl x2)]) (st' := [.inl (s 66 7)]) (h1 := hp L s c e) rfl ?_
  refine Ru.step (pc' := 5) (ls' := [some (.inr (.inr (some 66))), some (.inl x0), some (.inl x1), some (.inl x2)]) (st' := [.inr (.inr (some 66)), .inl (s 66 7)]) (h1 := hp L s c e) rfl ?_
  refine Ru.step (pc' := 8) (ls' := [some (.inr (.inr (some 66))), some (.inl x0), some (.inl x1), some (.inl x2)]) (st' := [.inr (.inr (some 67)), .inl (s 66 7)]) (h1 := hp L s c e) rfl ?_
  refine Ru.step (pc' := 9) (ls' := [some (.inr (.inr (some 66))), some (.inl x0), some (.inl x1), some (.inl x2)]) (st' := [.inl 8192, .inl (s 66 7)]) (h1 := hp L s c e) rfl ?_
  by_cases h0 : 8192 ≤ s 66 7
  · rw [if_pos h0]
    have hg := hg.1 h0
    refine Ru.jy rfl h0 ?_
    exact Ru.done rfl
  · rw [if_neg h0]
    have hg := hg.2 h0
    refine Ru.jn rfl h0 ?_
    refine Ru.step (pc' := 13) (ls' := [some (.inr (.inr (some 66))), some (.inl x0), some (.inl x1), some (.inl x2)]) (st' := [.inr (.inr (some 66))]) (h1 := hp L s c e) rfl ?_
    refine Ru.step (pc' := 16) (ls' := [some (.inr (.inr (some 66))), some (.inl x0), some (.inl x1), some (.inl x2)]) (st' := [.inr (.inr (some 67))]) (h1 := hp L s c e) rfl ?_
    refine Ru.step (pc' := 17) (ls' := [some (.inr (.inr (some 66))), some (.inl x0), some (.inl x1), some (.inl x2)]) (st' := [.inr (.inr (some 66)), .inr (.inr (some 67))]) (h1 := hp L s c e) rfl ?_
    refine Ru.step (pc' := 20) (ls' := [some (.inr (.inr (some 66))), some (.inl x0), some (.inl x1), some (.inl x2)]) (st' := [.inl (s 66 7), .inr (.inr (some 67))]) (h1 := hp L s c e) rfl ?_
    refine Ru.step (pc' := 21) (ls' := [some (.inr (.inr (some 66))), some (.inl x0), some (.inl x1), some (.inl x2)]) (st' := [.inl x0, .inl (s 66 7), .inr (.inr (some 67))]) (h1 := hp L s c e) rfl ?_
    obtain ⟨⟨b1, b2⟩, hg⟩ := hg
    refine Ru.ast (f := fun t => t == 0) (j := s 66 7) (a := 67) rfl rfl (by decide) rfl rfl b1 b2 ?_
    refine Ru.step (pc' := 23) (ls' := [some (.inr (.inr (some 66))), some (.inl x0), some (.inl x1), some (.inl x2)]) (st' := [.inr (.inr (some 66))]) (h1 := hp L (ax_u2 s 67 ((s 66 7).toNat) x0) c e) rfl ?_
    refine Ru.step (pc' := 26) (ls' := [some (.inr (.inr (some 66))), some (.inl x0), some (.inl x1), some (.inl x2)]) (st' := [.inr (.inr (some 68))]) (h1 := hp L (ax_u2 s 67 ((s 66 7).toNat) x0) c e) rfl ?_
    refine Ru.step (pc' := 27) (ls' := [some (.inr (.inr (some 66))), some (.inl x0), some (.inl x1), some (.inl x2)]) (st' := [.inr (.inr (some 66)), .inr (.inr (some 68))]) (h1 := hp L (ax_u2 s 67 ((s 66 7).toNat) x0) c e) rfl ?_
    refine Ru.step (pc' := 30) (ls' := [some (.inr (.inr (some 66))), some (.inl x0), some (.inl x1), some (.inl x2)]) (st' := [.inl (s 66 7), .inr (.inr (some 68))]) (h1 := hp L (ax_u2 s 67 ((s 66 7).toNat) x0) c e) rfl ?_
    refine Ru.step (pc' := 31) (ls' := [some (.inr (.inr (some 66))), some (.inl x0), some (.inl x1), some (.inl x2)]) (st' := [.inl x1, .inl (s 66 7), .inr (.inr (some 68))]) (h1 := hp L (ax_u2 s 67 ((s 66 7).toNat) x0) c e) rfl ?_
    obtain ⟨⟨b1, b2⟩, hg⟩ := hg
    refine Ru.ast (f := fun t => t == 0) (j := s 66 7) (a := 68) rfl rfl (by decide) rfl rfl b1 b2 ?_
    refine Ru.step (pc' := 33) (ls' := [some (.inr (.inr (some 66))), some (.inl x0), some (.inl x1), some (.inl x2)]) (st' := [.inr (.inr (some 66))]) (h1 := hp L (ax_u2 (ax_u2 s 67 ((s 66 7).toNat) x0) 68 ((s 66 7).toNat) x1) c e) rfl ?_
    refine Ru.step (pc' := 36) (ls' := [some (.inr (.inr (some 66))), some (.inl x0), some (.inl x1), some (.inl x2)]) (st' := [.inr (.inr (some 69))]) (h1 := hp L (ax_u2 (ax_u2 s 67 ((s 66 7).toNat) x0) 68 ((s 66 7).toNat) x1) c e) rfl ?_
    refine Ru.step (pc' := 37) (ls' := [some (.inr (.inr (some 66))), some (.inl x0), some (.inl x1), some (.inl x2)]) (st' := [.inr (.inr (some 66)), .inr (.inr (some 69))]) (h1 := hp L (ax_u2 (ax_u2 s 67 ((s 66 7).toNat) x0) 68 ((s 66 7).toNat) x1) c e) rfl ?_
    refine Ru.step (pc' := 40) (ls' := [some (.inr (.inr (some 66))), some (.inl x0), some (.inl x1), some (.inl x2)]) (st' := [.inl (s 66 7), .inr (.inr (some 69))]) (h1 := hp L (ax_u2 (ax_u2 s 67 ((s 66 7).toNat) x0) 68 ((s 66 7).toNat) x1) c e) rfl ?_
    refine Ru.step (pc' := 41) (ls' := [some (.inr (.inr (some 66))), some (.inl x0), some (.inl x1), some (.inl x2)]) (st' := [.inl x2, .inl (s 66 7), .inr (.inr (some 69))]) (h1 := hp L (ax_u2 (ax_u2 s 67 ((s 66 7).toNat) x0) 68 ((s 66 7).toNat) x1) c e) rfl ?_
    obtain ⟨⟨b1, b2⟩, hg⟩ := hg
    refine Ru.ast (f := fun t => t == 0) (j := s 66 7) (a := 69) rfl rfl (by decide) rfl rfl b1 b2 ?_
    refine Ru.step (pc' := 43) (ls' := [some (.inr (.inr (some 66))), some (.inl x0), some (.inl x1), some (.inl x2)]) (st' := [.inr (.inr (some 66))]) (h1 := hp L (ax_u2 (ax_u2 (ax_u2 s 67 ((s 66 7).toNat) x0) 68 ((s 66 7).toNat) x1) 69 ((s 66 7).toNat) x2) c e) rfl ?_
    refine Ru.step (pc' := 44) (ls' := [some (.inr (.inr (some 66))), some (.inl x0), some (.inl x1), some (.inl x2)]) (st' := [.inr (.inr (some 66)), .inr (.inr (some 66))]) (h1 := hp L (ax_u2 (ax_u2 (ax_u2 s 67 ((s 66 7).toNat) x0) 68 ((s 66 7).toNat) x1) 69 ((s 66 7).toNat) x2) c e) rfl ?_
    refine Ru.step (pc' := 47) (ls' := [some (.inr (.inr (some 66))), some (.inl x0), some (.inl x1), some (.inl x2)]) (st' := [.inl (s 66 7), .inr (.inr (some 66))]) (h1 := hp L (ax_u2 (ax_u2 (ax_u2 s 67 ((s 66 7).toNat) x0) 68 ((s 66 7).toNat) x1) 69 ((s 66 7).toNat) x2) c e) rfl ?_
    refine Ru.step (pc' := 48) (ls' := [some (.inr (.inr (some 66))), some (.inl x0), some (.inl x1), some (.inl x2)]) (st' := [.inl 1, .inl (s 66 7), .inr (.inr (some 66))]) (h1 := hp L (ax_u2 (ax_u2 (ax_u2 s 67 ((s 66 7).toNat) x0) 68 ((s 66 7).toNat) x1) 69 ((s 66 7).toNat) x2) c e) rfl ?_
    refine Ru.step (pc' := 49) (ls' := [some (.inr (.inr (some 66))), some (.inl x0), some (.inl x1), some (.inl x2)]) (st' := [.inl (ax_w32 ((s 66 7) + 1)), .inr (.inr (some 66))]) (h1 := hp L (ax_u2 (ax_u2 (ax_u2 s 67 ((s 66 7).toNat) x0) 68 ((s 66 7).toNat) x1) 69 ((s 66 7).toNat) x2) c e) rfl ?_
    refine Ru.step (pc' := 52) (ls' := [some (.inr (.inr (some 66))), some (.inl x0), some (.inl x1), some (.inl x2)]) (st' := []) (h1 := hp L (ax_u2 (ax_u2 (ax_u2 (ax_u2 s 67 ((s 66 7).toNat) x0) 68 ((s 66 7).toNat) x1) 69 ((s 66 7).toNat) x2) 66 7 (ax_w32 ((s 66 7) + 1))) c e) rfl ?_
    exact Ru.done rfl
/-- MachineText$Expressions.settle(III)V -/
def f_64 (x0 x1 x2 : Int) (s : Nat → Nat → Int) : Nat → Nat → Int := (ax_u2 (ax_u2 (ax_u2 (ax_u2 (ax_u2 s 66 8 x0) 66 9 x1) 66 10 x2) 66 11 (-1)) 66 12 (-1))
theorem ev_64 {L c : Nat} {s : Nat → Nat → Int} {e : Nat → Nat} (x0 x1 x2 : Int) : Ev 1 64 [.inr (.inr (some 66)), .inl x0, .inl x1, .inl x2] (hp L s c e) (.inl none) (hp L (f_64 x0 x1 x2 s) c e) := by
  unfold f_64
  refine Ev.of (μ := tb_m64) (ls := [some (.inr (.inr (some 66))), some (.inl x0), some (.inl x1), some (.inl x2)]) rfl (Nat.le_of_ble_eq_true rfl) rfl ?_
  refine Ru.step (pc' := 1) (ls' := [some (.inr (.inr (some 66))), some (.inl x0), some (.inl x1), some (.inl x2)]) (st' := [.inr (.inr (some 66))]) (h1 := hp L s c e) rfl ?_
  refine Ru.step (pc' := 2) (ls' := [some (.inr (.inr (some 66))), some (.inl x0), some (.inl x1), some (.inl x2)]) (st' := [.inl x0, .inr (.inr (some 66))]) (h1 := hp L s c e) rfl ?_
  refine Ru.step (pc' := 5) (ls' := [some (.inr (.inr (some 66))), some (.inl x0), some (.inl x1), some (.inl x2)]) (st' := []) (h1 := hp L (ax_u2 s 66 8 x0) c e) rfl ?_
  refine Ru.step (pc' := 6) (ls' := [some (.inr (.inr (some 66))), some (.inl x0), some (.inl x1), some (.inl x2)]) (st' := [.inr (.inr (some 66))]) (h1 := hp L (ax_u2 s 66 8 x0) c e) rfl ?_
  refine Ru.step (pc' := 7) (ls' := [some (.inr (.inr (some 66))), some (.inl x0), some (.inl x1), some (.inl x2)]) (st' := [.inl x1, .inr (.inr (some 66))]) (h1 := hp L (ax_u2 s 66 8 x0) c e) rfl ?_
  refine Ru.step (pc' := 10) (ls' := [some (.inr (.inr (some 66))), some (.inl x0), some (.inl x1), some (.inl x2)]) (st' := []) (h1 := hp L (ax_u2 (ax_u2 s 66 8 x0) 66 9 x1) c e) rfl ?_
  refine Ru.step (pc' := 11) (ls' := [some (.inr (.inr (some 66))), some (.inl x0), some (.inl x1), some (.inl x2)]) (st' := [.inr (.inr (some 66))]) (h1 := hp L (ax_u2 (ax_u2 s 66 8 x0) 66 9 x1) c e) rfl ?_
  refine Ru.step (pc' := 12) (ls' := [some (.inr (.inr (some 66))), some (.inl x0), some (.inl x1), some (.inl x2)]) (st' := [.inl x2, .inr (.inr (some 66))]) (h1 := hp L (ax_u2 (ax_u2 s 66 8 x0) 66 9 x1) c e) rfl ?_
  refine Ru.step (pc' := 15) (ls' := [some (.inr (.inr (some 66))), some (.inl x0), some (.inl x1), some (.inl x2)]) (st' := []) (h1 := hp L (ax_u2 (ax_u2 (ax_u2 s 66 8 x0) 66 9 x1) 66 10 x2) c e) rfl ?_
  refine Ru.step (pc' := 16) (ls' := [some (.inr (.inr (some 66))), some (.inl x0), some (.inl x1), some (.inl x2)]) (st' := [.inr (.inr (some 66))]) (h1 := hp L (ax_u2 (ax_u2 (ax_u2 s 66 8 x0) 66 9 x1) 66 10 x2) c e) rfl ?_
  refine Ru.step (pc' := 17) (ls' := [some (.inr (.inr (some 66))), some (.inl x0), some (.inl x1), some (.inl x2)]) (st' := [.inl (-1), .inr (.inr (some 66))]) (h1 := hp L (ax_u2 (ax_u2 (ax_u2 s 66 8 x0) 66 9 x1) 66 10 x2) c e) rfl ?_
  refine Ru.step (pc' := 20) (ls' := [some (.inr (.inr (some 66))), some (.inl x0), some (.inl x1), some (.inl x2)]) (st' := []) (h1 := hp L (ax_u2 (ax_u2 (ax_u2 (ax_u2 s 66 8 x0) 66 9 x1) 66 10 x2) 66 11 (-1)) c e) rfl ?_
  refine Ru.step (pc' := 21) (ls' := [some (.inr (.inr (some 66))), some (.inl x0), some (.inl x1), some (.inl x2)]) (st' := [.inr (.inr (some 66))]) (h1 := hp L (ax_u2 (ax_u2 (ax_u2 (ax_u2 s 66 8 x0) 66 9 x1) 66 10 x2) 66 11 (-1)) c e) rfl ?_
  refine Ru.step (pc' := 22) (ls' := [some (.inr (.inr (some 66))), some (.inl x0), some (.inl x1), some (.inl x2)]) (st' := [.inl (-1), .inr (.inr (some 66))]) (h1 := hp L (ax_u2 (ax_u2 (ax_u2 (ax_u2 s 66 8 x0) 66 9 x1) 66 10 x2) 66 11 (-1)) c e) rfl ?_
  refine Ru.step (pc' := 25) (ls' := [some (.inr (.inr (some 66))), some (.inl x0), some (.inl x1), some (.inl x2)]) (st' := []) (h1 := hp L (ax_u2 (ax_u2 (ax_u2 (ax_u2 (ax_u2 s 66 8 x0) 66 9 x1) 66 10 x2) 66 11 (-1)) 66 12 (-1)) c e) rfl ?_
  exact Ru.done rfl
/-- MachineText$Expressions.signAt(I)I -/
def f_66 (x0 : Int) (s : Nat → Nat → Int) : Int := (if x0 < 0 then (-1) else (if s 66 7 ≤ x0 then (-1) else (if 8192 ≤ x0 then (-1) else s 67 x0.toNat)))
def g_66 (x0 : Int) (s : Nat → Nat → Int) : Prop := ((x0 < 0 → True) ∧ (¬ (x0 < 0) → ((s 66 7 ≤ x0 → True) ∧ (¬ (s 66 7 ≤ x0) → ((8192 ≤ x0 → True) ∧ (¬ (8192 ≤ x0) → ((0 ≤ x0 ∧ x0 < 8192) ∧ True)))))))
theorem ev_66 {L c : Nat} {s : Nat → Nat → Int} {e : Nat → Nat} (x0 : Int) (hg : g_66 x0 s) : Ev 1 66 [.inr (.inr (some 66)), .inl x0] (hp L s c e) (.inl (some (.inl (f_66 x0 s)))) (hp L s c e) := by
  unfold f_66
  unfold g_66 at hg
  refine Ev.of (μ := tb_m66) (ls := [some (.inr (.inr (some 66))), some (.inl x0)]) rfl (Nat.le_of_ble_eq_true rfl) rfl ?_
  refine Ru.step (pc' := 1) (ls' := [some (.inr (.inr (some 66))), some (.inl x0)]) (st' := [.inl x0]) (h1 := hp L s c e) rfl ?_
  by_cases h0 : x0 < 0
  · rw [if_pos h0]
    have hg := hg.1 h0
    refine Ru.jy rfl h0 ?_
    refine Ru.step (pc' := 31) (ls' := [some (.inr (.inr (some 66))), some (.inl x0)]) (st' := [.inl (-1)]) (h1 := hp L s c e) rfl ?_
    exact Ru.done rfl
  · rw [if_neg h0]
    have hg := hg.2 h0
    refine Ru.jn rfl h0 ?_
    refine Ru.step (pc' := 5) (ls' := [some (.inr (.inr (some 66))), some (.inl x0)]) (st' := [.inl x0]) (h1 := hp L s c e) rfl ?_
    refine Ru.step (pc' := 6) (ls' := [some (.inr (.inr (some 66))), some (.inl x0)]) (st' := [.inr (.inr (some 66)), .inl x0]) (h1 := hp L s c e) rfl ?_
    refine Ru.step (pc' := 9) (ls' := [some (.inr (.inr (some 66))), some (.inl x0)]) (st' := [.inl (s 66 7), .inl x0]) (h1 := hp L s c e) rfl ?_
    by_cases h1 : s 66 7 ≤ x0
    · rw [if_pos h1]
      have hg := hg.1 h1
      refine Ru.jy rfl h1 ?_
      refine Ru.step (pc' := 31) (ls' := [some (.inr (.inr (some 66))), some (.inl x0)]) (st' := [.inl (-1)]) (h1 := hp L s c e) rfl ?_
      exact Ru.done rfl
    · rw [if_neg h1]
      have hg := hg.2 h1
      refine Ru.jn rfl h1 ?_
      refine Ru.step (pc' := 13) (ls' := [some (.inr (.inr (some 66))), some (.inl x0)]) (st' := [.inl x0]) (h1 := hp L s c e) rfl ?_
      refine Ru.step (pc' := 14) (ls' := [some (.inr (.inr (some 66))), some (.inl x0)]) (st' := [.inr (.inr (some 66)), .inl x0]) (h1 := hp L s c e) rfl ?_
      refine Ru.step (pc' := 17) (ls' := [some (.inr (.inr (some 66))), some (.inl x0)]) (st' := [.inr (.inr (some 67)), .inl x0]) (h1 := hp L s c e) rfl ?_
      refine Ru.step (pc' := 18) (ls' := [some (.inr (.inr (some 66))), some (.inl x0)]) (st' := [.inl 8192, .inl x0]) (h1 := hp L s c e) rfl ?_
      by_cases h2 : 8192 ≤ x0
      · rw [if_pos h2]
        have hg := hg.1 h2
        refine Ru.jy rfl h2 ?_
        refine Ru.step (pc' := 31) (ls' := [some (.inr (.inr (some 66))), some (.inl x0)]) (st' := [.inl (-1)]) (h1 := hp L s c e) rfl ?_
        exact Ru.done rfl
      · rw [if_neg h2]
        have hg := hg.2 h2
        refine Ru.jn rfl h2 ?_
        refine Ru.step (pc' := 22) (ls' := [some (.inr (.inr (some 66))), some (.inl x0)]) (st' := [.inr (.inr (some 66))]) (h1 := hp L s c e) rfl ?_
        refine Ru.step (pc' := 25) (ls' := [some (.inr (.inr (some 66))), some (.inl x0)]) (st' := [.inr (.inr (some 67))]) (h1 := hp L s c e) rfl ?_
        refine Ru.step (pc' := 26) (ls' := [some (.inr (.inr (some 66))), some (.inl x0)]) (st' := [.inl x0, .inr (.inr (some 67))]) (h1 := hp L s c e) rfl ?_
        obtain ⟨⟨b1, b2⟩, hg⟩ := hg
        refine Ru.ald (f := fun t => t == 0) (j := x0) (a := 67) rfl rfl b1 b2 ?_
        refine Ru.step (pc' := 31) (ls' := [some (.inr (.inr (some 66))), some (.inl x0)]) (st' := [.inl (s 67 x0.toNat)]) (h1 := hp L s c e) rfl ?_
        exact Ru.done rfl
/-- MachineText$Faults.note(II)V -/
def f_71 (x0 x1 : Int) (s : Nat → Nat → Int) : Nat → Nat → Int := (if x0 ≤ 0 then s else (if x0 < 11 then (if s 30 x0.toNat = (-1) then (ax_u2 s 30 x0.toNat x1) else (if s 30 x0.toNat ≤ x1 then s else (ax_u2 s 30 x0.toNat x1))) else s))
def g_71 (x0 x1 : Int) (s : Nat → Nat → Int) : Prop := ((x0 ≤ 0 → True) ∧ (¬ (x0 ≤ 0) → ((x0 < 11 → ((0 ≤ x0 ∧ x0 < 11) ∧ ((s 30 x0.toNat = (-1) → ((0 ≤ x0 ∧ x0 < 11) ∧ True)) ∧ (¬ (s 30 x0.toNat = (-1)) → ((0 ≤ x0 ∧ x0 < 11) ∧ ((s 30 x0.toNat ≤ x1 → True) ∧ (¬ (s 30 x0.toNat ≤ x1) → ((0 ≤ x0 ∧ x0 < 11) ∧ True)))))))) ∧ (¬ (x0 < 11) → True))))
theorem ev_71 {L c : Nat} {s : Nat → Nat → Int} {e : Nat → Nat} (x0 x1 : Int) (hg : g_71 x0 x1 s) : Ev 1 71 [.inr (.inr (some 29)), .inl x0, .inl x1] (hp L s c e) (.inl none) (hp L (f_71 x0 x1 s) c e) := by
  unfold f_71
  unfold g_71 at hg
  refine Ev.of (μ := tb_m71) (ls := [some (.inr (.inr (some 29))), some (.inl x0), some (.inl x1)]) rfl (Nat.le_of_ble_eq_true rfl) rfl ?_
  refine Ru.step (pc' := 1) (ls' := [some (.inr (.inr (some 29))), some (.inl x0), some (.inl x1)]) (st' := [.inl x0]) (h1 := hp L s c e) rfl ?_
  by_cases h0 : x0 ≤ 0
  · rw [if_pos h0]
    have hg := hg.1 h0
    refine Ru.jy rfl h0 ?_
    exact Ru.done rfl
  · rw [if_neg h0]
    have hg := hg.2 h0
    refine Ru.jn rfl h0 ?_
    refine Ru.step (pc' := 5) (ls' := [some (.inr (.inr (some 29))), some (.inl x0), some (.inl x1)]) (st' := [.inl x0]) (h1 := hp L s c e) rfl ?_
    refine Ru.step (pc' := 6) (ls' := [some (.inr (.inr (some 29))), some (.inl x0), some (.inl x1)]) (st' := [.inr (.inr (some 29)), .inl x0]) (h1 := hp L s c e) rfl ?_
    refine Ru.step (pc' := 9) (ls' := [some (.inr (.inr (some 29))), some (.inl x0), some (.inl x1)]) (st' := [.inr (.inr (some 30)), .inl x0]) (h1 := hp L s c e) rfl ?_
    refine Ru.step (pc' := 10) (ls' := [some (.inr (.inr (some 29))), some (.inl x0), some (.inl x1)]) (st' := [.inl 11, .inl x0]) (h1 := hp L s c e) rfl ?_
    by_cases h1 : x0 < 11
    · rw [if_pos h1]
      have hg := hg.1 h1
      refine Ru.jy rfl h1 ?_
      refine Ru.step (pc' := 15) (ls' := [some (.inr (.inr (some 29))), some (.inl x0), some (.inl x1)]) (st' := [.inr (.inr (some 29))]) (h1 := hp L s c e) rfl ?_
      refine Ru.step (pc' := 18) (ls' := [some (.inr (.inr (some 29))), some (.inl x0), some (.inl x1)]) (st' := [.inr (.inr (some 30))]) (h1 := hp L s c e) rfl ?_
      refine Ru.step (pc' := 19) (ls' := [some (.inr (.inr (some 29))), some (.inl x0), some (.inl x1)]) (st' := [.inl x0, .inr (.inr (some 30))]) (h1 := hp L s c e) rfl ?_
      obtain ⟨⟨b1, b2⟩, hg⟩ := hg
      refine Ru.ald (f := fun t => t == 0) (j := x0) (a := 30) rfl rfl b1 b2 ?_
      refine Ru.step (pc' := 21) (ls' := [some (.inr (.inr (some 29))), some (.inl x0), some (.inl x1)]) (st' := [.inl (-1), .inl (s 30 x0.toNat)]) (h1 := hp L s c e) rfl ?_
      by_cases h2 : s 30 x0.toNat = (-1)
      · rw [if_pos h2]
        have hg := hg.1 h2
        refine Ru.jy rfl h2 ?_
        refine Ru.step (pc' := 35) (ls' := [some (.inr (.inr (some 29))), some (.inl x0), some (.inl x1)]) (st' := [.inr (.inr (some 29))]) (h1 := hp L s c e) rfl ?_
        refine Ru.step (pc' := 38) (ls' := [some (.inr (.inr (some 29))), some (.inl x0), some (.inl x1)]) (st' := [.inr (.inr (some 30))]) (h1 := hp L s c e) rfl ?_
        refine Ru.step (pc' := 39) (ls' := [some (.inr (.inr (some 29))), some (.inl x0), some (.inl x1)]) (st' := [.inl x0, .inr (.inr (some 30))]) (h1 := hp L s c e) rfl ?_
        refine Ru.step (pc' := 40) (ls' := [some (.inr (.inr (some 29))), some (.inl x0), some (.inl x1)]) (st' := [.inl x1, .inl x0, .inr (.inr (some 30))]) (h1 := hp L s c e) rfl ?_
        obtain ⟨⟨b1, b2⟩, hg⟩ := hg
        refine Ru.ast (f := fun t => t == 0) (j := x0) (a := 30) rfl rfl (by decide) rfl rfl b1 b2 ?_
        exact Ru.done rfl
      · rw [if_neg h2]
        have hg := hg.2 h2
        refine Ru.jn rfl h2 ?_
        refine Ru.step (pc' := 25) (ls' := [some (.inr (.inr (some 29))), some (.inl x0), some (.inl x1)]) (st' := [.inl x1]) (h1 := hp L s c e) rfl ?_
        refine Ru.step (pc' := 26) (ls' := [some (.inr (.inr (some 29))), some (.inl x0), some (.inl x1)]) (st' := [.inr (.inr (some 29)), .inl x1]) (h1 := hp L s c e) rfl ?_
        refine Ru.step (pc' := 29) (ls' := [some (.inr (.inr (some 29))), some (.inl x0), some (.inl x1)]) (st' := [.inr (.inr (some 30)), .inl x1]) (h1 := hp L s c e) rfl ?_
        refine Ru.step (pc' := 30) (ls' := [some (.inr (.inr (some 29))), some (.inl x0), some (.inl x1)]) (st' := [.inl x0, .inr (.inr (some 30)), .inl x1]) (h1 := hp L s c e) rfl ?_
        obtain ⟨⟨b1, b2⟩, hg⟩ := hg
        refine Ru.ald (f := fun t => t == 0) (j := x0) (a := 30) rfl rfl b1 b2 ?_
        by_cases h3 : s 30 x0.toNat ≤ x1
        · rw [if_pos h3]
          have hg := hg.1 h3
          refine Ru.jy rfl h3 ?_
          exact Ru.done rfl
        · rw [if_neg h3]
          have hg := hg.2 h3
          refine Ru.jn rfl h3 ?_
          refine Ru.step (pc' := 35) (ls' := [some (.inr (.inr (some 29))), some (.inl x0), some (.inl x1)]) (st' := [.inr (.inr (some 29))]) (h1 := hp L s c e) rfl ?_
          refine Ru.step (pc' := 38) (ls' := [some (.inr (.inr (some 29))), some (.inl x0), some (.inl x1)]) (st' := [.inr (.inr (some 30))]) (h1 := hp L s c e) rfl ?_
          refine Ru.step (pc' := 39) (ls' := [some (.inr (.inr (some 29))), some (.inl x0), some (.inl x1)]) (st' := [.inl x0, .inr (.inr (some 30))]) (h1 := hp L s c e) rfl ?_
          refine Ru.step (pc' := 40) (ls' := [some (.inr (.inr (some 29))), some (.inl x0), some (.inl x1)]) (st' := [.inl x1, .inl x0, .inr (.inr (some 30))]) (h1 := hp L s c e) rfl ?_
          obtain ⟨⟨b1, b2⟩, hg⟩ := hg
          refine Ru.ast (f := fun t => t == 0) (j := x0) (a := 30) rfl rfl (by decide) rfl rfl b1 b2 ?_
          exact Ru.done rfl
    · rw [if_neg h1]
      have hg := hg.2 h1
      refine Ru.jn rfl h1 ?_
      exact Ru.done rfl
/-- MachineText$Lexemes.clear()V -/
def f_74 (s : Nat → Nat → Int) : Nat → Nat → Int := (ax_u2 (ax_u2 (ax_u2 s 39 9 0) 39 10 0) 39 11 0)
theorem ev_74 {L c : Nat} {s : Nat → Nat → Int} {e : Nat → Nat} : Ev 1 74 [.inr (.inr (some 39))] (hp L s c e) (.inl none) (hp L (f_74 s) c e) := by
  unfold f_74
  refine Ev.of (μ := tb_m74) (ls := [some (.inr (.inr (some 39)))]) rfl (Nat.le_of_ble_eq_true rfl) rfl ?_
  refine Ru.step (pc' := 1) (ls' := [some (.inr (.inr (some 39)))]) (st' := [.inr (.inr (some 39))]) (h1 := hp L s c e) rfl ?_
  refine Ru.step (pc' := 2) (ls' := [some (.inr (.inr (some 39)))]) (st' := [.inl 0, .inr (.inr (some 39))]) (h1 := hp L s c e) rfl ?_
  refine Ru.step (pc' := 5) (ls' := [some (.inr (.inr (some 39)))]) (st' := []) (h1 := hp L (ax_u2 s 39 9 0) c e) rfl ?_
  refine Ru.step (pc' := 6) (ls' := [some (.inr (.inr (some 39)))]) (st' := [.inr (.inr (some 39))]) (h1 := hp L (ax_u2 s 39 9 0) c e) rfl ?_
  refine Ru.step (pc' := 7) (ls' := [some (.inr (.inr (some 39)))]) (st' := [.inl 0, .inr (.inr (some 39))]) (h1 := hp L (ax_u2 s 39 9 0) c e) rfl ?_
  refine Ru.step (pc' := 10) (ls' := [some (.inr (.inr (some 39)))]) (st' := []) (h1 := hp L (ax_u2 (ax_u2 s 39 9 0) 39 10 0) c e) rfl ?_
  refine Ru.step (pc' := 11) (ls' := [some (.inr (.inr (some 39)))]) (st' := [.inr (.inr (some 39))]) (h1 := hp L (ax_u2 (ax_u2 s 39 9 0) 39 10 0) c e) rfl ?_
  refine Ru.step (pc' := 12) (ls' := [some (.inr (.inr (some 39)))]) (st' := [.inl 0, .inr (.inr (some 39))]) (h1 := hp L (ax_u2 (ax_u2 s 39 9 0) 39 10 0) c e) rfl ?_
  refine Ru.step (pc' := 15) (ls' := [some (.inr (.inr (some 39)))]) (st' := []) (h1 := hp L (ax_u2 (ax_u2 (ax_u2 s 39 9 0) 39 10 0) 39 11 0) c e) rfl ?_
  exact Ru.done rfl
/-- MachineText$Lexemes.add(IIIJ)V -/
def f_78 (x0 x1 x2 x3 : Int) (s : Nat → Nat → Int) : Nat → Nat → Int := (if s 39 9 < 8193 then (ax_u2 (ax_u2 (ax_u2 (ax_u2 (ax_u2 (ax_u2 s 41 ((s 39 9).toNat) x0) 42 ((s 39 9).toNat) x1) 43 ((s 39 9).toNat) (ax_w32 (x2 - x1))) 44 ((s 39 9).toNat) x3) 45 ((s 39 9).toNat) 0) 39 9 (ax_w32 ((s 39 9) + 1))) else s)
def g_78 (x0 x1 x2 x3 : Int) (s : Nat → Nat → Int) : Prop := ((s 39 9 < 8193 → ((0 ≤ s 39 9 ∧ s 39 9 < 8193) ∧ ((0 ≤ s 39 9 ∧ s 39 9 < 8193) ∧ ((0 ≤ s 39 9 ∧ s 39 9 < 8193) ∧ ((0 ≤ s 39 9 ∧ s 39 9 < 8193) ∧ ((0 ≤ s 39 9 ∧ s 39 9 < 8193) ∧ True)))))) ∧ (¬ (s 39 9 < 8193) → True))
theorem ev_78 {L c : Nat} {s : Nat → Nat → Int} {e : Nat → Nat} (x0 x1 x2 x3 : Int) (hg : g_78 x0 x1 x2 x3 s) : Ev 1 78 [.inr (.inr (some 39)), .inl x0, .inl x1, .inl x2, .inr (.inl x3)] (hp L s c e) (.inl none) (hp L (f_78 x0 x1 x2 x3 s) c e) := by
  unfold f_78
  unfold g_78 at hg
  refine Ev.of (μ := tb_m78) (ls := [some (.inr (.inr (some 39))), some (.inl x0), some (.inl x1), some (.inl x2), some (.inr (.inl x3)), none]) rfl (Nat.le_of_ble_eq_true rfl) rfl ?_
  refine Ru.step (pc' := 1) (ls' := [some (.inr (.inr (some 39))), some (.inl x0), some (.inl x1), some (.inl x2), some (.inr (.inl x3)), none]) (st' := [.inr (.inr (some 39))]) (h1 := hp L s c e) rfl ?_
  refine Ru.step (pc' := 4) (ls' := [some (.inr (.inr (some 39))), some (.inl x0), some (.inl x1), some (.inl x2), some (.inr (.inl x3)), none]) (st' := [.inl (s 39 9)]) (h1 := hp L s c e) rfl ?_
  refine Ru.step (pc' := 5) (ls' := [some (.inr (.inr (some 39))), some (.inl x0), some (.inl x1), some (.inl x2), some (.inr (.inl x3)), none]) (st' := [.inr (.inr (some 39)), .inl (s 39 9)]) (h1 := hp L s c e) rfl ?_
  refine Ru.step (pc' := 8) (ls' := [some (.inr (.inr (some 39))), some (.inl x0), some (.inl x1), some (.inl x2), some (.inr (.inl x3)), none]) (st' := [.inr (.inr (some 41)), .inl (s 39 9)]) (h1 := hp L s c e) rfl ?_
  refine Ru.step (pc' := 9) (ls' := [some (.inr (.inr (some 39))), some (.inl x0), some (.inl x1), some (.inl x2), some (.inr (.inl x3)), none]) (st' := [.inl 8193, .inl (s 39 9)]) (h1 := hp L s c e) rfl ?_
  by_cases h0 : s 39 9 < 8193
  · rw [if_pos h0]
    have hg := hg.1 h0
    refine Ru.jy rfl h0 ?_
    refine Ru.step (pc' := 14) (ls' := [some (.inr (.inr (some 39))), some (.inl x0), some (.inl x1), some (.inl x2), some (.inr (.inl x3)), none]) (st' := [.inr (.inr (some 39))]) (h1 := hp L s c e) rfl ?_
    refine Ru.step (pc' := 17) (ls' := [some (.inr (.inr (some 39))), some (.inl x0), some (.inl x1), some (.inl x2), some (.inr (.inl x3)), none]) (st' := [.inr (.inr (some 41))]) (h1 := hp L s c e) rfl ?_
    refine Ru.step (pc' := 18) (ls' := [some (.inr (.inr (some 39))), some (.inl x0), some (.inl x1), some (.inl x2), some (.inr (.inl x3)), none]) (st' := [.inr (.inr (some 39)), .inr (.inr (some 41))]) (h1 := hp L s c e) rfl ?_
    refine Ru.step (pc' := 21) (ls' := [some (.inr (.inr (some 39))), some (.inl x0), some (.inl x1), some (.inl x2), some (.inr (.inl x3)), none]) (st' := [.inl (s 39 9), .inr (.inr (some 41))]) (h1 := hp L s c e) rfl ?_
    refine Ru.step (pc' := 22) (ls' := [some (.inr (.inr (some 39))), some (.inl x0), some (.inl x1), some (.inl x2), some (.inr (.inl x3)), none]) (st' := [.inl x0, .inl (s 39 9), .inr (.inr (some 41))]) (h1 := hp L s c e) rfl ?_
    obtain ⟨⟨b1, b2⟩, hg⟩ := hg
    refine Ru.ast (f := fun t => t == 0) (j := s 39 9) (a := 41) rfl rfl (by decide) rfl rfl b1 b2 ?_
    refine Ru.step (pc' := 24) (ls' := [some (.inr (.inr (some 39))), some (.inl x0), some (.inl x1), some (.inl x2), some (.inr (.inl x3)), none]) (st' := [.inr (.inr (some 39))]) (h1 := hp L (ax_u2 s 41 ((s 39 9).toNat) x0) c e) rfl ?_
    refine Ru.step (pc' := 27) (ls' := [some (.inr (.inr (some 39))), some (.inl x0), some (.inl x1), some (.inl x2), some (.inr (.inl x3)), none]) (st' := [.inr (.inr (some 42))]) (h1 := hp L (ax_u2 s 41 ((s 39 9).toNat) x0) c e) rfl ?_
    refine Ru.step (pc' := 28) (ls' := [some (.inr (.inr (some 39))), some (.inl x0), some (.inl x1), some (.inl x2), some (.inr (.inl x3)), none]) (st' := [.inr (.inr (some 39)), .inr (.inr (some 42))]) (h1 := hp L (ax_u2 s 41 ((s 39 9).toNat) x0) c e) rfl ?_
    refine Ru.step (pc' := 31) (ls' := [some (.inr (.inr (some 39))), some (.inl x0), some (.inl x1), some (.inl x2), some (.inr (.inl x3)), none]) (st' := [.inl (s 39 9), .inr (.inr (some 42))]) (h1 := hp L (ax_u2 s 41 ((s 39 9).toNat) x0) c e) rfl ?_
    refine Ru.step (pc' := 32) (ls' := [some (.inr (.inr (some 39))), some (.inl x0), some (.inl x1), some (.inl x2), some (.inr (.inl x3)), none]) (st' := [.inl x1, .inl (s 39 9), .inr (.inr (some 42))]) (h1 := hp L (ax_u2 s 41 ((s 39 9).toNat) x0) c e) rfl ?_
    obtain ⟨⟨b1, b2⟩, hg⟩ := hg
    refine Ru.ast (f := fun t => t == 0) (j := s 39 9) (a := 42) rfl rfl (by decide) rfl rfl b1 b2 ?_
    refine Ru.step (pc' := 34) (ls' := [some (.inr (.inr (some 39))), some (.inl x0), some (.inl x1), some (.inl x2), some (.inr (.inl x3)), none]) (st' := [.inr (.inr (some 39))]) (h1 := hp L (ax_u2 (ax_u2 s 41 ((s 39 9).toNat) x0) 42 ((s 39 9).toNat) x1) c e) rfl ?_
    refine Ru.step (pc' := 37) (ls' := [some (.inr (.inr (some 39))), some (.inl x0), some (.inl x1), some (.inl x2), some (.inr (.inl x3)), none]) (st' := [.inr (.inr (some 43))]) (h1 := hp L (ax_u2 (ax_u2 s 41 ((s 39 9).toNat) x0) 42 ((s 39 9).toNat) x1) c e) rfl ?_
    refine Ru.step (pc' := 38) (ls' := [some (.inr (.inr (some 39))), some (.inl x0), some (.inl x1), some (.inl x2), some (.inr (.inl x3)), none]) (st' := [.inr (.inr (some 39)), .inr (.inr (some 43))]) (h1 := hp L (ax_u2 (ax_u2 s 41 ((s 39 9).toNat) x0) 42 ((s 39 9).toNat) x1) c e) rfl ?_
    refine Ru.step (pc' := 41) (ls' := [some (.inr (.inr (some 39))), some (.inl x0), some (.inl x1), some (.inl x2), some (.inr (.inl x3)), none]) (st' := [.inl (s 39 9), .inr (.inr (some 43))]) (h1 := hp L (ax_u2 (ax_u2 s 41 ((s 39 9).toNat) x0) 42 ((s 39 9).toNat) x1) c e) rfl ?_
    refine Ru.step (pc' := 42) (ls' := [some (.inr (.inr (some 39))), some (.inl x0), some (.inl x1), some (.inl x2), some (.inr (.inl x3)), none]) (st' := [.inl x2, .inl (s 39 9), .inr (.inr (some 43))]) (h1 := hp L (ax_u2 (ax_u2 s 41 ((s 39 9).toNat) x0) 42 ((s 39 9).toNat) x1) c e) rfl ?_
    refine Ru.step (pc' := 43) (ls' := [some (.inr (.inr (some 39))), some (.inl x0), some (.inl x1), some (.inl x2), some (.inr (.inl x3)), none]) (st' := [.inl x1, .inl x2, .inl (s 39 9), .inr (.inr (some 43))]) (h1 := hp L (ax_u2 (ax_u2 s 41 ((s 39 9).toNat) x0) 42 ((s 39 9).toNat) x1) c e) rfl ?_
    refine Ru.step (pc' := 44) (ls' := [some (.inr (.inr (some 39))), some (.inl x0), some (.inl x1), some (.inl x2), some (.inr (.inl x3)), none]) (st' := [.inl (ax_w32 (x2 - x1)), .inl (s 39 9), .inr (.inr (some 43))]) (h1 := hp L (ax_u2 (ax_u2 s 41 ((s 39 9).toNat) x0) 42 ((s 39 9).toNat) x1) c e) rfl ?_
    obtain ⟨⟨b1, b2⟩, hg⟩ := hg
    refine Ru.ast (f := fun t => t == 0) (j := s 39 9) (a := 43) rfl rfl (by decide) rfl rfl b1 b2 ?_
    refine Ru.step (pc' := 46) (ls' := [some (.inr (.inr (some 39))), some (.inl x0), some (.inl x1), some (.inl x2), some (.inr (.inl x3)), none]) (st' := [.inr (.inr (some 39))]) (h1 := hp L (ax_u2 (ax_u2 (ax_u2 s 41 ((s 39 9).toNat) x0) 42 ((s 39 9).toNat) x1) 43 ((s 39 9).toNat) (ax_w32 (x2 - x1))) c e) rfl ?_
    refine Ru.step (pc' := 49) (ls' := [some (.inr (.inr (some 39))), some (.inl x0), some (.inl x1), some (.inl x2), some (.inr (.inl x3)), none]) (st' := [.inr (.inr (some 44))]) (h1 := hp L (ax_u2 (ax_u2 (ax_u2 s 41 ((s 39 9).toNat) x0) 42 ((s 39 9).toNat) x1) 43 ((s 39 9).toNat) (ax_w32 (x2 - x1))) c e) rfl ?_
    refine Ru.step (pc' := 50) (ls' := [some (.inr (.inr (some 39))), some (.inl x0), some (.inl x1), some (.inl x2), some (.inr (.inl x3)), none]) (st' := [.inr (.inr (some 39)), .inr (.inr (some 44))]) (h1 := hp L (ax_u2 (ax_u2 (ax_u2 s 41 ((s 39 9).toNat) x0) 42 ((s 39 9).toNat) x1) 43 ((s 39 9).toNat) (ax_w32 (x2 - x1))) c e) rfl ?_
    refine Ru.step (pc' := 53) (ls' := [some (.inr (.inr (some 39))), some (.inl x0), some (.inl x1), some (.inl x2), some (.inr (.inl x3)), none]) (st' := [.inl (s 39 9), .inr (.inr (some 44))]) (h1 := hp L (ax_u2 (ax_u2 (ax_u2 s 41 ((s 39 9).toNat) x0) 42 ((s 39 9).toNat) x1) 43 ((s 39 9).toNat) (ax_w32 (x2 - x1))) c e) rfl ?_
    refine Ru.step (pc' := 55) (ls' := [some (.inr (.inr (some 39))), some (.inl x0), some (.inl x1), some (.inl x2), some (.inr (.inl x3)), none]) (st' := [.inr (.inl x3), .inl (s 39 9), .inr (.inr (some 44))]) (h1 := hp L (ax_u2 (ax_u2 (ax_u2 s 41 ((s 39 9).toNat) x0) 42 ((s 39 9).toNat) x1) 43 ((s 39 9).toNat) (ax_w32 (x2 - x1))) c e) rfl ?_
    obtain ⟨⟨b1, b2⟩, hg⟩ := hg
    refine Ru.ast (f := fun t => t == 2) (j := s 39 9) (a := 44) rfl rfl (by decide) rfl rfl b1 b2 ?_
    refine Ru.step (pc' := 57) (ls' := [some (.inr (.inr (some 39))), some (.inl x0), some (.inl x1), some (.inl x2), some (.inr (.inl x3)), none]) (st' := [.inr (.inr (some 39))]) (h1 := hp L (ax_u2 (ax_u2 (ax_u2 (ax_u2 s 41 ((s 39 9).toNat) x0) 42 ((s 39 9).toNat) x1) 43 ((s 39 9).toNat) (ax_w32 (x2 - x1))) 44 ((s 39 9).toNat) x3) c e) rfl ?_
    refine Ru.step (pc' := 60) (ls' := [some (.inr (.inr (some 39))), some (.inl x0), some (.inl x1), some (.inl x2), some (.inr (.inl x3)), none]) (st' := [.inr (.inr (some 45))]) (h1 := hp L (ax_u2 (ax_u2 (ax_u2 (ax_u2 s 41 ((s 39 9).toNat) x0) 42 ((s 39 9).toNat) x1) 43 ((s 39 9).toNat) (ax_w32 (x2 - x1))) 44 ((s 39 9).toNat) x3) c e) rfl ?_
    refine Ru.step (pc' := 61) (ls' := [some (.inr (.inr (some 39))), some (.inl x0), some (.inl x1), some (.inl x2), some (.inr (.inl x3)), none]) (st' := [.inr (.inr (some 39)), .inr (.inr (some 45))]) (h1 := hp L (ax_u2 (ax_u2 (ax_u2 (ax_u2 s 41 ((s 39 9).toNat) x0) 42 ((s 39 9).toNat) x1) 43 ((s 39 9).toNat) (ax_w32 (x2 - x1))) 44 ((s 39 9).toNat) x3) c e) rfl ?_
    refine Ru.step (pc' := 64) (ls' := [some (.inr (.inr (some 39))), some (.inl x0), some (.inl x1), some (.inl x2), some (.inr (.inl x3)), none]) (st' := [.inl (s 39 9), .inr (.inr (some 45))]) (h1 := hp L (ax_u2 (ax_u2 (ax_u2 (ax_u2 s 41 ((s 39 9).toNat) x0) 42 ((s 39 9).toNat) x1) 43 ((s 39 9).toNat) (ax_w32 (x2 - x1))) 44 ((s 39 9).toNat) x3) c e) rfl ?_
    refine Ru.step (pc' := 65) (ls' := [some (.inr (.inr (some 39))), some (.inl x0), some (.inl x1), some (.inl x2), some (.inr (.inl x3)), none]) (st' := [.inl 0, .inl (s 39 9), .inr (.inr (some 45))]) (h1 := hp L (ax_u2 (ax_u2 (ax_u2 (ax_u2 s 41 ((s 39 9).toNat) x0) 42 ((s 39 9).toNat) x1) 43 ((s 39 9).toNat) (ax_w32 (x2 - x1))) 44 ((s 39 9).toNat) x3) c e) rfl ?_
    obtain ⟨⟨b1, b2⟩, hg⟩ := hg
    refine Ru.ast (f := fun t => t == 0) (j := s 39 9) (a := 45) rfl rfl (by decide) rfl rfl b1 b2 ?_
    refine Ru.step (pc' := 67) (ls' := [some (.inr (.inr (some 39))), some (.inl x0), some (.inl x1), some (.inl x2), some (.inr (.inl x3)), none]) (st' := [.inr (.inr (some 39))]) (h1 := hp L (ax_u2 (ax_u2 (ax_u2 (ax_u2 (ax_u2 s 41 ((s 39 9).toNat) x0) 42 ((s 39 9).toNat) x1) 43 ((s 39 9).toNat) (ax_w32 (x2 - x1))) 44 ((s 39 9).toNat) x3) 45 ((s 39 9).toNat) 0) c e) rfl ?_
    refine Ru.step (pc' := 68) (ls' := [some (.inr (.inr (some 39))), some (.inl x0), some (.inl x1), some (.inl x2), some (.inr (.inl x3)), none]) (st' := [.inr (.inr (some 39)), .inr (.inr (some 39))]) (h1 := hp L (ax_u2 (ax_u2 (ax_u2 (ax_u2 (ax_u2 s 41 ((s 39 9).toNat) x0) 42 ((s 39 9).toNat) x1) 43 ((s 39 9).toNat) (ax_w32 (x2 - x1))) 44 ((s 39 9).toNat) x3) 45 ((s 39 9).toNat) 0) c e) rfl ?_
    refine Ru.step (pc' := 71) (ls' := [some (.inr (.inr (some 39))), some (.inl x0), some (.inl x1), some (.inl x2), some (.inr (.inl x3)), none]) (st' := [.inl (s 39 9), .inr (.inr (some 39))]) (h1 := hp L (ax_u2 (ax_u2 (ax_u2 (ax_u2 (ax_u2 s 41 ((s 39 9).toNat) x0) 42 ((s 39 9).toNat) x1) 43 ((s 39 9).toNat) (ax_w32 (x2 - x1))) 44 ((s 39 9).toNat) x3) 45 ((s 39 9).toNat) 0) c e) rfl ?_
    refine Ru.step (pc' := 72) (ls' := [some (.inr (.inr (some 39))), some (.inl x0), some (.inl x1), some (.inl x2), some (.inr (.inl x3)), none]) (st' := [.inl 1, .inl (s 39 9), .inr (.inr (some 39))]) (h1 := hp L (ax_u2 (ax_u2 (ax_u2 (ax_u2 (ax_u2 s 41 ((s 39 9).toNat) x0) 42 ((s 39 9).toNat) x1) 43 ((s 39 9).toNat) (ax_w32 (x2 - x1))) 44 ((s 39 9).toNat) x3) 45 ((s 39 9).toNat) 0) c e) rfl ?_
    refine Ru.step (pc' := 73) (ls' := [some (.inr (.inr (some 39))), some (.inl x0), some (.inl x1), some (.inl x2), some (.inr (.inl x3)), none]) (st' := [.inl (ax_w32 ((s 39 9) + 1)), .inr (.inr (some 39))]) (h1 := hp L (ax_u2 (ax_u2 (ax_u2 (ax_u2 (ax_u2 s 41 ((s 39 9).toNat) x0) 42 ((s 39 9).toNat) x1) 43 ((s 39 9).toNat) (ax_w32 (x2 - x1))) 44 ((s 39 9).toNat) x3) 45 ((s 39 9).toNat) 0) c e) rfl ?_
    refine Ru.step (pc' := 76) (ls' := [some (.inr (.inr (some 39))), some (.inl x0), some (.inl x1), some (.inl x2), some (.inr (.inl x3)), none]) (st' := []) (h1 := hp L (ax_u2 (ax_u2 (ax_u2 (ax_u2 (ax_u2 (ax_u2 s 41 ((s 39 9).toNat) x0) 42 ((s 39 9).toNat) x1) 43 ((s 39 9).toNat) (ax_w32 (x2 - x1))) 44 ((s 39 9).toNat) x3) 45 ((s 39 9).toNat) 0) 39 9 (ax_w32 ((s 39 9) + 1))) c e) rfl ?_
    exact Ru.done rfl
  · rw [if_neg h0]
    have hg := hg.2 h0
    refine Ru.jn rfl h0 ?_
    exact Ru.done rfl
/-- MachineText$Lexemes.kindAt(I)I -/
def f_79 (x0 : Int) (s : Nat → Nat → Int) : Int := (if x0 < 0 then 0 else (if s 39 9 ≤ x0 then 0 else s 41 x0.toNat))
def g_79 (x0 : Int) (s : Nat → Nat → Int) : Prop := ((x0 < 0 → True) ∧ (¬ (x0 < 0) → ((s 39 9 ≤ x0 → True) ∧ (¬ (s 39 9 ≤ x0) → ((0 ≤ x0 ∧ x0 < 8193) ∧ True)))))
theorem ev_79 {L c : Nat} {s : Nat → Nat → Int} {e : Nat → Nat} (x0 : Int) (hg : g_79 x0 s) : Ev 1 79 [.inr (.inr (some 39)), .inl x0] (hp L s c e) (.inl (some (.inl (f_79 x0 s)))) (hp L s c e) := by
  unfold f_79
  unfold g_79 at hg
  refine Ev.of (μ := tb_m79) (ls := [some (.inr (.inr (some 39))), some (.inl x0)]) rfl (Nat.le_of_ble_eq_true rfl) rfl ?_
  refine Ru.step (pc' := 1) (ls' := [some (.inr (.inr (some 39))), some (.inl x0)]) (st' := [.inl x0]) (h1 := hp L s c e) rfl ?_
  by_cases h0 : x0 < 0
  · rw [if_pos h0]
    have hg := hg.1 h0
    refine Ru.jy rfl h0 ?_
    refine Ru.step (pc' := 22) (ls' := [some (.inr (.inr (some 39))), some (.inl x0)]) (st' := [.inl 0]) (h1 := hp L s c e) rfl ?_
    exact Ru.done rfl
  · rw [if_neg h0]
    have hg := hg.2 h0
    refine Ru.jn rfl h0 ?_
    refine Ru.step (pc' := 5) (ls' := [some (.inr (.inr (some 39))), some (.inl x0)]) (st' := [.inl x0]) (h1 := hp L s c e) rfl ?_
    refine Ru.step (pc' := 6) (ls' := [some (.inr (.inr (some 39))), some (.inl x0)]) (st' := [.inr (.inr (some 39)), .inl x0]) (h1 := hp L s c e) rfl ?_
    refine Ru.step (pc' := 9) (ls' := [some (.inr (.inr (some 39))), some (.inl x0)]) (st' := [.inl (s 39 9), .inl x0]) (h1 := hp L s c e) rfl ?_
    by_cases h1 : s 39 9 ≤ x0
    · rw [if_pos h1]
      have hg := hg.1 h1
      refine Ru.jy rfl h1 ?_
      refine Ru.step (pc' := 22) (ls' := [some (.inr (.inr (some 39))), some (.inl x0)]) (st' := [.inl 0]) (h1 := hp L s c e) rfl ?_
      exact Ru.done rfl
    · rw [if_neg h1]
      have hg := hg.2 h1
      refine Ru.jn rfl h1 ?_
      refine Ru.step (pc' := 13) (ls' := [some (.inr (.inr (some 39))), some (.inl x0)]) (st' := [.inr (.inr (some 39))]) (h1 := hp L s c e) rfl ?_
      refine Ru.step (pc' := 16) (ls' := [some (.inr (.inr (some 39))), some (.inl x0)]) (st' := [.inr (.inr (some 41))]) (h1 := hp L s c e) rfl ?_
      refine Ru.step (pc' := 17) (ls' := [some (.inr (.inr (some 39))), some (.inl x0)]) (st' := [.inl x0, .inr (.inr (some 41))]) (h1 := hp L s c e) rfl ?_
      obtain ⟨⟨b1, b2⟩, hg⟩ := hg
      refine Ru.ald (f := fun t => t == 0) (j := x0) (a := 41) rfl rfl b1 b2 ?_
      refine Ru.step (pc' := 22) (ls' := [some (.inr (.inr (some 39))), some (.inl x0)]) (st' := [.inl (s 41 x0.toNat)]) (h1 := hp L s c e) rfl ?_
      exact Ru.done rfl
/-- MachineText$Lexemes.placeAt(I)I -/
def f_80 (x0 : Int) (s : Nat → Nat → Int) : Int := (if x0 < 0 then (-1) else (if s 39 9 < x0 then (-1) else (if 8193 ≤ x0 then (-1) else s 42 x0.toNat)))
def g_80 (x0 : Int) (s : Nat → Nat → Int) : Prop := ((x0 < 0 → True) ∧ (¬ (x0 < 0) → ((s 39 9 < x0 → True) ∧ (¬ (s 39 9 < x0) → ((8193 ≤ x0 → True) ∧ (¬ (8193 ≤ x0) → ((0 ≤ x0 ∧ x0 < 8193) ∧ True)))))))
theorem ev_80 {L c : Nat} {s : Nat → Nat → Int} {e : Nat → Nat} (x0 : Int) (hg : g_80 x0 s) : Ev 1 80 [.inr (.inr (some 39)), .inl x0] (hp L s c e) (.inl (some (.inl (f_80 x0 s)))) (hp L s c e) := by
  unfold f_80
  unfold g_80 at hg
  refine Ev.of (μ := tb_m80) (ls := [some (.inr (.inr (some 39))), some (.inl x0)]) rfl (Nat.le_of_ble_eq_true rfl) rfl ?_
  refine Ru.step (pc' := 1) (ls' := [some (.inr (.inr (some 39))), some (.inl x0)]) (st' := [.inl x0]) (h1 := hp L s c e) rfl ?_
  by_cases h0 : x0 < 0
  · rw [if_pos h0]
    have hg := hg.1 h0
    refine Ru.jy rfl h0 ?_
    refine Ru.step (pc' := 31) (ls' := [some (.inr (.inr (some 39))), some (.inl x0)]) (st' := [.inl (-1)]) (h1 := hp L s c e) rfl ?_
    exact Ru.done rfl
  · rw [if_neg h0]
    have hg := hg.2 h0
    refine Ru.jn rfl h0 ?_
    refine Ru.step (pc' := 5) (ls' := [some (.inr (.inr (some 39))), some (.inl x0)]) (st' := [.inl x0]) (h1 := hp L s c e) rfl ?_
    refine Ru.step (pc' := 6) (ls' := [some (.inr (.inr (some 39))), some (.inl x0)]) (st' := [.inr (.inr (some 39)), .inl x0]) (h1 := hp L s c e) rfl ?_
    refine Ru.step (pc' := 9) (ls' := [some (.inr (.inr (some 39))), some (.inl x0)]) (st' := [.inl (s 39 9), .inl x0]) (h1 := hp L s c e) rfl ?_
    by_cases h1 : s 39 9 < x0
    · rw [if_pos h1]
      have hg := hg.1 h1
      refine Ru.jy rfl h1 ?_
      refine Ru.step (pc' := 31) (ls' := [some (.inr (.inr (some 39))), some (.inl x0)]) (st' := [.inl (-1)]) (h1 := hp L s c e) rfl ?_
      exact Ru.done rfl
    · rw [if_neg h1]
      have hg := hg.2 h1
      refine Ru.jn rfl h1 ?_
      refine Ru.step (pc' := 13) (ls' := [some (.inr (.inr (some 39))), some (.inl x0)]) (st' := [.inl x0]) (h1 := hp L s c e) rfl ?_
      refine Ru.step (pc' := 14) (ls' := [some (.inr (.inr (some 39))), some (.inl x0)]) (st' := [.inr (.inr (some 39)), .inl x0]) (h1 := hp L s c e) rfl ?_
      refine Ru.step (pc' := 17) (ls' := [some (.inr (.inr (some 39))), some (.inl x0)]) (st' := [.inr (.inr (some 42)), .inl x0]) (h1 := hp L s c e) rfl ?_
      refine Ru.step (pc' := 18) (ls' := [some (.inr (.inr (some 39))), some (.inl x0)]) (st' := [.inl 8193, .inl x0]) (h1 := hp L s c e) rfl ?_
      by_cases h2 : 8193 ≤ x0
      · rw [if_pos h2]
        have hg := hg.1 h2
        refine Ru.jy rfl h2 ?_
        refine Ru.step (pc' := 31) (ls' := [some (.inr (.inr (some 39))), some (.inl x0)]) (st' := [.inl (-1)]) (h1 := hp L s c e) rfl ?_
        exact Ru.done rfl
      · rw [if_neg h2]
        have hg := hg.2 h2
        refine Ru.jn rfl h2 ?_
        refine Ru.step (pc' := 22) (ls' := [some (.inr (.inr (some 39))), some (.inl x0)]) (st' := [.inr (.inr (some 39))]) (h1 := hp L s c e) rfl ?_
        refine Ru.step (pc' := 25) (ls' := [some (.inr (.inr (some 39))), some (.inl x0)]) (st' := [.inr (.inr (some 42))]) (h1 := hp L s c e) rfl ?_
        refine Ru.step (pc' := 26) (ls' := [some (.inr (.inr (some 39))), some (.inl x0)]) (st' := [.inl x0, .inr (.inr (some 42))]) (h1 := hp L s c e) rfl ?_
        obtain ⟨⟨b1, b2⟩, hg⟩ := hg
        refine Ru.ald (f := fun t => t == 0) (j := x0) (a := 42) rfl rfl b1 b2 ?_
        refine Ru.step (pc' := 31) (ls' := [some (.inr (.inr (some 39))), some (.inl x0)]) (st' := [.inl (s 42 x0.toNat)]) (h1 := hp L s c e) rfl ?_
        exact Ru.done rfl
/-- MachineText$Lexemes.valueAt(I)J -/
def f_81 (x0 : Int) (s : Nat → Nat → Int) : Int := (if x0 < 0 then 0 else (if s 39 9 ≤ x0 then 0 else s 44 x0.toNat))
def g_81 (x0 : Int) (s : Nat → Nat → Int) : Prop := ((x0 < 0 → True) ∧ (¬ (x0 < 0) → ((s 39 9 ≤ x0 → True) ∧ (¬ (s 39 9 ≤ x0) → ((0 ≤ x0 ∧ x0 < 8193) ∧ True)))))
theorem ev_81 {L c : Nat} {s : Nat → Nat → Int} {e : Nat → Nat} (x0 : Int) (hg : g_81 x0 s) : Ev 1 81 [.inr (.inr (some 39)), .inl x0] (hp L s c e) (.inl (some (.inr (.inl (f_81 x0 s))))) (hp L s c e) := by
  unfold f_81
  unfold g_81 at hg
  refine Ev.of (μ := tb_m81) (ls := [some (.inr (.inr (some 39))), some (.inl x0)]) rfl (Nat.le_of_ble_eq_true rfl) rfl ?_
  refine Ru.step (pc' := 1) (ls' := [some (.inr (.inr (some 39))), some (.inl x0)]) (st' := [.inl x0]) (h1 := hp L s c e) rfl ?_
  by_cases h0 : x0 < 0
  · rw [if_pos h0]
    have hg := hg.1 h0
    refine Ru.jy rfl h0 ?_
    refine Ru.step (pc' := 22) (ls' := [some (.inr (.inr (some 39))), some (.inl x0)]) (st' := [.inr (.inl 0)]) (h1 := hp L s c e) rfl ?_
    exact Ru.done rfl
  · rw [if_neg h0]
    have hg := hg.2 h0
    refine Ru.jn rfl h0 ?_
    refine Ru.step (pc' := 5) (ls' := [some (.inr (.inr (some 39))), some (.inl x0)]) (st' := [.inl x0]) (h1 := hp L s c e) rfl ?_
    refine Ru.step (pc' := 6) (ls' := [some (.inr (.inr (some 39))), some (.inl x0)]) (st' := [.inr (.inr (some 39)), .inl x0]) (h1 := hp L s c e) rfl ?_
    refine Ru.step (pc' := 9) (ls' := [some (.inr (.inr (some 39))), some (.inl x0)]) (st' := [.inl (s 39 9), .inl x0]) (h1 := hp L s c e) rfl ?_
    by_cases h1 : s 39 9 ≤ x0
    · rw [if_pos h1]
      have hg := hg.1 h1
      refine Ru.jy rfl h1 ?_
      refine Ru.step (pc' := 22) (ls' := [some (.inr (.inr (some 39))), some (.inl x0)]) (st' := [.inr (.inl 0)]) (h1 := hp L s c e) rfl ?_
      exact Ru.done rfl
    · rw [if_neg h1]
      have hg := hg.2 h1
      refine Ru.jn rfl h1 ?_
      refine Ru.step (pc' := 13) (ls' := [some (.inr (.inr (some 39))), some (.inl x0)]) (st' := [.inr (.inr (some 39))]) (h1 := hp L s c e) rfl ?_
      refine Ru.step (pc' := 16) (ls' := [some (.inr (.inr (some 39))), some (.inl x0)]) (st' := [.inr (.inr (some 44))]) (h1 := hp L s c e) rfl ?_
      refine Ru.step (pc' := 17) (ls' := [some (.inr (.inr (some 39))), some (.inl x0)]) (st' := [.inl x0, .inr (.inr (some 44))]) (h1 := hp L s c e) rfl ?_
      obtain ⟨⟨b1, b2⟩, hg⟩ := hg
      refine Ru.ald (f := fun t => t == 2) (j := x0) (a := 44) rfl rfl b1 b2 ?_
      refine Ru.step (pc' := 22) (ls' := [some (.inr (.inr (some 39))), some (.inl x0)]) (st' := [.inr (.inl (s 44 x0.toNat))]) (h1 := hp L s c e) rfl ?_
      exact Ru.done rfl
/-- MachineText$Lexemes.extentAt(I)I -/
def f_82 (x0 : Int) (s : Nat → Nat → Int) : Int := (if x0 < 0 then 0 else (if s 39 9 ≤ x0 then 0 else s 43 x0.toNat))
def g_82 (x0 : Int) (s : Nat → Nat → Int) : Prop := ((x0 < 0 → True) ∧ (¬ (x0 < 0) → ((s 39 9 ≤ x0 → True) ∧ (¬ (s 39 9 ≤ x0) → ((0 ≤ x0 ∧ x0 < 8193) ∧ True)))))
theorem ev_82 {L c : Nat} {s : Nat → Nat → Int} {e : Nat → Nat} (x0 : Int) (hg : g_82 x0 s) : Ev 1 82 [.inr (.inr (some 39)), .inl x0] (hp L s c e) (.inl (some (.inl (f_82 x0 s)))) (hp L s c e) := by
  unfold f_82
  unfold g_82 at hg
  refine Ev.of (μ := tb_m82) (ls := [some (.inr (.inr (some 39))), some (.inl x0)]) rfl (Nat.le_of_ble_eq_true rfl) rfl ?_
  refine Ru.step (pc' := 1) (ls' := [some (.inr (.inr (some 39))), some (.inl x0)]) (st' := [.inl x0]) (h1 := hp L s c e) rfl ?_
  by_cases h0 : x0 < 0
  · rw [if_pos h0]
    have hg := hg.1 h0
    refine Ru.jy rfl h0 ?_
    refine Ru.step (pc' := 22) (ls' := [some (.inr (.inr (some 39))), some (.inl x0)]) (st' := [.inl 0]) (h1 := hp L s c e) rfl ?_
    exact Ru.done rfl
  · rw [if_neg h0]
    have hg := hg.2 h0
    refine Ru.jn rfl h0 ?_
    refine Ru.step (pc' := 5) (ls' := [some (.inr (.inr (some 39))), some (.inl x0)]) (st' := [.inl x0]) (h1 := hp L s c e) rfl ?_
    refine Ru.step (pc' := 6) (ls' := [some (.inr (.inr (some 39))), some (.inl x0)]) (st' := [.inr (.inr (some 39)), .inl x0]) (h1 := hp L s c e) rfl ?_
    refine Ru.step (pc' := 9) (ls' := [some (.inr (.inr (some 39))), some (.inl x0)]) (st' := [.inl (s 39 9), .inl x0]) (h1 := hp L s c e) rfl ?_
    by_cases h1 : s 39 9 ≤ x0
    · rw [if_pos h1]
      have hg := hg.1 h1
      refine Ru.jy rfl h1 ?_
      refine Ru.step (pc' := 22) (ls' := [some (.inr (.inr (some 39))), some (.inl x0)]) (st' := [.inl 0]) (h1 := hp L s c e) rfl ?_
      exact Ru.done rfl
    · rw [if_neg h1]
      have hg := hg.2 h1
      refine Ru.jn rfl h1 ?_
      refine Ru.step (pc' := 13) (ls' := [some (.inr (.inr (some 39))), some (.inl x0)]) (st' := [.inr (.inr (some 39))]) (h1 := hp L s c e) rfl ?_
      refine Ru.step (pc' := 16) (ls' := [some (.inr (.inr (some 39))), some (.inl x0)]) (st' := [.inr (.inr (some 43))]) (h1 := hp L s c e) rfl ?_
      refine Ru.step (pc' := 17) (ls' := [some (.inr (.inr (some 39))), some (.inl x0)]) (st' := [.inl x0, .inr (.inr (some 43))]) (h1 := hp L s c e) rfl ?_
      obtain ⟨⟨b1, b2⟩, hg⟩ := hg
      refine Ru.ald (f := fun t => t == 0) (j := x0) (a := 43) rfl rfl b1 b2 ?_
      refine Ru.step (pc' := 22) (ls' := [some (.inr (.inr (some 39))), some (.inl x0)]) (st' := [.inl (s 43 x0.toNat)]) (h1 := hp L s c e) rfl ?_
      exact Ru.done rfl
/-- MachineText$Lexemes.byteAt(I)I -/
def f_83 (x0 : Int) (s : Nat → Nat → Int) : Int := (if x0 < 0 then (-1) else (if s 39 8 ≤ x0 then (-1) else ax_iand (s 40 x0.toNat) 255))
def g_83 (x0 : Int) (s : Nat → Nat → Int) : Prop := ((x0 < 0 → True) ∧ (¬ (x0 < 0) → ((s 39 8 ≤ x0 → True) ∧ (¬ (s 39 8 ≤ x0) → ((0 ≤ x0 ∧ x0 < 8192) ∧ True)))))
theorem ev_83 {L c : Nat} {s : Nat → Nat → Int} {e : Nat → Nat} (x0 : Int) (hg : g_83 x0 s) : Ev 1 83 [.inr (.inr (some 39)), .inl x0] (hp L s c e) (.inl (some (.inl (f_83 x0 s)))) (hp L s c e) := by
  unfold f_83
  unfold g_83 at hg
  refine Ev.of (μ := tb_m83) (ls := [some (.inr (.inr (some 39))), some (.inl x0)]) rfl (Nat.le_of_ble_eq_true rfl) rfl ?_
  refine Ru.step (pc' := 1) (ls' := [some (.inr (.inr (some 39))), some (.inl x0)]) (st' := [.inl x0]) (h1 := hp L s c e) rfl ?_
  by_cases h0 : x0 < 0
  · rw [if_pos h0]
    have hg := hg.1 h0
    refine Ru.jy rfl h0 ?_
    refine Ru.step (pc' := 26) (ls' := [some (.inr (.inr (some 39))), some (.inl x0)]) (st' := [.inl (-1)]) (h1 := hp L s c e) rfl ?_
    exact Ru.done rfl
  · rw [if_neg h0]
    have hg := hg.2 h0
    refine Ru.jn rfl h0 ?_
    refine Ru.step (pc' := 5) (ls' := [some (.inr (.inr (some 39))), some (.inl x0)]) (st' := [.inl x0]) (h1 := hp L s c e) rfl ?_
    refine Ru.step (pc' := 6) (ls' := [some (.inr (.inr (some 39))), some (.inl x0)]) (st' := [.inr (.inr (some 39)), .inl x0]) (h1 := hp L s c e) rfl ?_
    refine Ru.step (pc' := 9) (ls' := [some (.inr (.inr (some 39))), some (.inl x0)]) (st' := [.inl (s 39 8), .inl x0]) (h1 := hp L s c e) rfl ?_
    by_cases h1 : s 39 8 ≤ x0
    · rw [if_pos h1]
      have hg := hg.1 h1
      refine Ru.jy rfl h1 ?_
      refine Ru.step (pc' := 26) (ls' := [some (.inr (.inr (some 39))), some (.inl x0)]) (st' := [.inl (-1)]) (h1 := hp L s c e) rfl ?_
      exact Ru.done rfl
    · rw [if_neg h1]
      have hg := hg.2 h1
      refine Ru.jn rfl h1 ?_
      refine Ru.step (pc' := 13) (ls' := [some (.inr (.inr (some 39))), some (.inl x0)]) (st' := [.inr (.inr (some 39))]) (h1 := hp L s c e) rfl ?_
      refine Ru.step (pc' := 16) (ls' := [some (.inr (.inr (some 39))), some (.inl x0)]) (st' := [.inr (.inr (some 40))]) (h1 := hp L s c e) rfl ?_
      refine Ru.step (pc' := 17) (ls' := [some (.inr (.inr (some 39))), some (.inl x0)]) (st' := [.inl x0, .inr (.inr (some 40))]) (h1 := hp L s c e) rfl ?_
      obtain ⟨⟨b1, b2⟩, hg⟩ := hg
      refine Ru.ald (f := fun t => t == 1 || t == 3) (j := x0) (a := 40) rfl rfl b1 b2 ?_
      refine Ru.step (pc' := 21) (ls' := [some (.inr (.inr (some 39))), some (.inl x0)]) (st' := [.inl 255, .inl (s 40 x0.toNat)]) (h1 := hp L s c e) rfl ?_
      refine Ru.step (pc' := 22) (ls' := [some (.inr (.inr (some 39))), some (.inl x0)]) (st' := [.inl (ax_iand (s 40 x0.toNat) 255)]) (h1 := hp L s c e) rfl ?_
      refine Ru.step (pc' := 26) (ls' := [some (.inr (.inr (some 39))), some (.inl x0)]) (st' := [.inl (ax_iand (s 40 x0.toNat) 255)]) (h1 := hp L s c e) rfl ?_
      exact Ru.done rfl
/-- MachineText$Lexemes.styleAt(I)I -/
def f_84 (x0 : Int) (s : Nat → Nat → Int) : Int := (if x0 < 0 then 0 else (if s 39 9 ≤ x0 then 0 else s 45 x0.toNat))
def g_84 (x0 : Int) (s : Nat → Nat → Int) : Prop := ((x0 < 0 → True) ∧ (¬ (x0 < 0) → ((s 39 9 ≤ x0 → True) ∧ (¬ (s 39 9 ≤ x0) → ((0 ≤ x0 ∧ x0 < 8193) ∧ True)))))
theorem ev_84 {L c : Nat} {s : Nat → Nat → Int} {e : Nat → Nat} (x0 : Int) (hg : g_84 x0 s) : Ev 1 84 [.inr (.inr (some 39)), .inl x0] (hp L s c e) (.inl (some (.inl (f_84 x0 s)))) (hp L s c e) := by
  unfold f_84
  unfold g_84 at hg
  refine Ev.of (μ := tb_m84) (ls := [some (.inr (.inr (some 39))), some (.inl x0)]) rfl (Nat.le_of_ble_eq_true rfl) rfl ?_
  refine Ru.step (pc' := 1) (ls' := [some (.inr (.inr (some 39))), some (.inl x0)]) (st' := [.inl x0]) (h1 := hp L s c e) rfl ?_
  by_cases h0 : x0 < 0
  · rw [if_pos h0]
    have hg := hg.1 h0
    refine Ru.jy rfl h0 ?_
    refine Ru.step (pc' := 22) (ls' := [some (.inr (.inr (some 39))), some (.inl x0)]) (st' := [.inl 0]) (h1 := hp L s c e) rfl ?_
    exact Ru.done rfl
  · rw [if_neg h0]
    have hg := hg.2 h0
    refine Ru.jn rfl h0 ?_
    refine Ru.step (pc' := 5) (ls' := [some (.inr (.inr (some 39))), some (.inl x0)]) (st' := [.inl x0]) (h1 := hp L s c e) rfl ?_
    refine Ru.step (pc' := 6) (ls' := [some (.inr (.inr (some 39))), some (.inl x0)]) (st' := [.inr (.inr (some 39)), .inl x0]) (h1 := hp L s c e) rfl ?_
    refine Ru.step (pc' := 9) (ls' := [some (.inr (.inr (some 39))), some (.inl x0)]) (st' := [.inl (s 39 9), .inl x0]) (h1 := hp L s c e) rfl ?_
    by_cases h1 : s 39 9 ≤ x0
    · rw [if_pos h1]
      have hg := hg.1 h1
      refine Ru.jy rfl h1 ?_
      refine Ru.step (pc' := 22) (ls' := [some (.inr (.inr (some 39))), some (.inl x0)]) (st' := [.inl 0]) (h1 := hp L s c e) rfl ?_
      exact Ru.done rfl
    · rw [if_neg h1]
      have hg := hg.2 h1
      refine Ru.jn rfl h1 ?_
      refine Ru.step (pc' := 13) (ls' := [some (.inr (.inr (some 39))), some (.inl x0)]) (st' := [.inr (.inr (some 39))]) (h1 := hp L s c e) rfl ?_
      refine Ru.step (pc' := 16) (ls' := [some (.inr (.inr (some 39))), some (.inl x0)]) (st' := [.inr (.inr (some 45))]) (h1 := hp L s c e) rfl ?_
      refine Ru.step (pc' := 17) (ls' := [some (.inr (.inr (some 39))), some (.inl x0)]) (st' := [.inl x0, .inr (.inr (some 45))]) (h1 := hp L s c e) rfl ?_
      obtain ⟨⟨b1, b2⟩, hg⟩ := hg
      refine Ru.ald (f := fun t => t == 0) (j := x0) (a := 45) rfl rfl b1 b2 ?_
      refine Ru.step (pc' := 22) (ls' := [some (.inr (.inr (some 39))), some (.inl x0)]) (st' := [.inl (s 45 x0.toNat)]) (h1 := hp L s c e) rfl ?_
      exact Ru.done rfl
/-- MachineText$Lexemes.isLetter(I)Z -/
def f_85 (x0 : Int) (s : Nat → Nat → Int) : Int := (if x0 < 97 then (if x0 < 65 then (if ¬ x0 = 95 then 0 else 1) else (if x0 ≤ 90 then 1 else (if ¬ x0 = 95 then 0 else 1))) else (if x0 ≤ 122 then 1 else (if x0 < 65 then (if ¬ x0 = 95 then 0 else 1) else (if x0 ≤ 90 then 1 else (if ¬ x0 = 95 then 0 else 1)))))
theorem ev_85 {L c : Nat} {s : Nat → Nat → Int} {e : Nat → Nat} (x0 : Int) : Ev 1 85 [.inl x0] (hp L s c e) (.inl (some (.inl (f_85 x0 s)))) (hp L s c e) := by
  unfold f_85
  refine Ev.of (μ := tb_m85) (ls := [some (.inl x0)]) rfl (Nat.le_of_ble_eq_true rfl) rfl ?_
  refine Ru.step (pc' := 1) (ls' := [some (.inl x0)]) (st' := [.inl x0]) (h1 := hp L s c e) rfl ?_
  refine Ru.step (pc' := 3) (ls' := [some (.inl x0)]) (st' := [.inl 97, .inl x0]) (h1 := hp L s c e) rfl ?_
  by_cases h0 : x0 < 97
  · rw [if_pos h0]
    refine Ru.jy rfl h0 ?_
    refine Ru.step (pc' := 13) (ls' := [some (.inl x0)]) (st' := [.inl x0]) (h1 := hp L s c e) rfl ?_
    refine Ru.step (pc' := 15) (ls' := [some (.inl x0)]) (st' := [.inl 65, .inl x0]) (h1 := hp L s c e) rfl ?_
    by_cases h1 : x0 < 65
    · rw [if_pos h1]
      refine Ru.jy rfl h1 ?_
      refine Ru.step (pc' := 25) (ls' := [some (.inl x0)]) (st' := [.inl x0]) (h1 := hp L s c e) rfl ?_
      refine Ru.step (pc' := 27) (ls' := [some (.inl x0)]) (st' := [.inl 95, .inl x0]) (h1 := hp L s c e) rfl ?_
      by_cases h2 : ¬ x0 = 95
      · rw [if_pos h2]
        refine Ru.jy rfl h2 ?_
        refine Ru.step (pc' := 35) (ls' := [some (.inl x0)]) (st' := [.inl 0]) (h1 := hp L s c e) rfl ?_
        exact Ru.done rfl
      · rw [if_neg h2]
        refine Ru.jn rfl h2 ?_
        refine Ru.step (pc' := 31) (ls' := [some (.inl x0)]) (st' := [.inl 1]) (h1 := hp L s c e) rfl ?_
        refine Ru.step (pc' := 35) (ls' := [some (.inl x0)]) (st' := [.inl 1]) (h1 := hp L s c e) rfl ?_
        exact Ru.done rfl
    · rw [if_neg h1]
      refine Ru.jn rfl h1 ?_
      refine Ru.step (pc' := 19) (ls' := [some (.inl x0)]) (st' := [.inl x0]) (h1 := hp L s c e) rfl ?_
      refine Ru.step (pc' := 21) (ls' := [some (.inl x0)]) (st' := [.inl 90, .inl x0]) (h1 := hp L s c e) rfl ?_
      by_cases h2 : x0 ≤ 90
      · rw [if_pos h2]
        refine Ru.jy rfl h2 ?_
        refine Ru.step (pc' := 31) (ls' := [some (.inl x0)]) (st' := [.inl 1]) (h1 := hp L s c e) rfl ?_
        refine Ru.step (pc' := 35) (ls' := [some (.inl x0)]) (st' := [.inl 1]) (h1 := hp L s c e) rfl ?_
        exact Ru.done rfl
      · rw [if_neg h2]
        refine Ru.jn rfl h2 ?_
        refine Ru.step (pc' := 25) (ls' := [some (.inl x0)]) (st' := [.inl x0]) (h1 := hp L s c e) rfl ?_
        refine Ru.step (pc' := 27) (ls' := [some (.inl x0)]) (st' := [.inl 95, .inl x0]) (h1 := hp L s c e) rfl ?_
        by_cases h3 : ¬ x0 = 95
        · rw [if_pos h3]
          refine Ru.jy rfl h3 ?_
          refine Ru.step (pc' := 35) (ls' := [some (.inl x0)]) (st' := [.inl 0]) (h1 := hp L s c e) rfl ?_
          exact Ru.done rfl
        · rw [if_neg h3]
          refine Ru.jn rfl h3 ?_
          refine Ru.step (pc' := 31) (ls' := [some (.inl x0)]) (st' := [.inl 1]) (h1 := hp L s c e) rfl ?_
          refine Ru.step (pc' := 35) (ls' := [some (.inl x0)]) (st' := [.inl 1]) (h1 := hp L s c e) rfl ?_
          exact Ru.done rfl
  · rw [if_neg h0]
    refine Ru.jn rfl h0 ?_
    refine Ru.step (pc' := 7) (ls' := [some (.inl x0)]) (st' := [.inl x0]) (h1 := hp L s c e) rfl ?_
    refine Ru.step (pc' := 9) (ls' := [some (.inl x0)]) (st' := [.inl 122, .inl x0]) (h1 := hp L s c e) rfl ?_
    by_cases h1 : x0 ≤ 122
    · rw [if_pos h1]
      refine Ru.jy rfl h1 ?_
      refine Ru.step (pc' := 31) (ls' := [some (.inl x0)]) (st' := [.inl 1]) (h1 := hp L s c e) rfl ?_
      refine Ru.step (pc' := 35) (ls' := [some (.inl x0)]) (st' := [.inl 1]) (h1 := hp L s c e) rfl ?_
      exact Ru.done rfl
    · rw [if_neg h1]
      refine Ru.jn rfl h1 ?_
      refine Ru.step (pc' := 13) (ls' := [some (.inl x0)]) (st' := [.inl x0]) (h1 := hp L s c e) rfl ?_
      refine Ru.step (pc' := 15) (ls' := [some (.inl x0)]) (st' := [.inl 65, .inl x0]) (h1 := hp L s c e) rfl ?_
      by_cases h2 : x0 < 65
      · rw [if_pos h2]
        refine Ru.jy rfl h2 ?_
        refine Ru.step (pc' := 25) (ls' := [some (.inl x0)]) (st' := [.inl x0]) (h1 := hp L s c e) rfl ?_
        refine Ru.step (pc' := 27) (ls' := [some (.inl x0)]) (st' := [.inl 95, .inl x0]) (h1 := hp L s c e) rfl ?_
        by_cases h3 : ¬ x0 = 95
        · rw [if_pos h3]
          refine Ru.jy rfl h3 ?_
          refine Ru.step (pc' := 35) (ls' := [some (.inl x0)]) (st' := [.inl 0]) (h1 := hp L s c e) rfl ?_
          exact Ru.done rfl
        · rw [if_neg h3]
          refine Ru.jn rfl h3 ?_
          refine Ru.step (pc' := 31) (ls' := [some (.inl x0)]) (st' := [.inl 1]) (h1 := hp L s c e) rfl ?_
          refine Ru.step (pc' := 35) (ls' := [some (.inl x0)]) (st' := [.inl 1]) (h1 := hp L s c e) rfl ?_
          exact Ru.done rfl
      · rw [if_neg h2]
        refine Ru.jn rfl h2 ?_
        refine Ru.step (pc' := 19) (ls' := [some (.inl x0)]) (st' := [.inl x0]) (h1 := hp L s c e) rfl ?_
        refine Ru.step (pc' := 21) (ls' := [some (.inl x0)]) (st' := [.inl 90, .inl x0]) (h1 := hp L s c e) rfl ?_
        by_cases h3 : x0 ≤ 90
        · rw [if_pos h3]
          refine Ru.jy rfl h3 ?_
          refine Ru.step (pc' := 31) (ls' := [some (.inl x0)]) (st' := [.inl 1]) (h1 := hp L s c e) rfl ?_
          refine Ru.step (pc' := 35) (ls' := [some (.inl x0)]) (st' := [.inl 1]) (h1 := hp L s c e) rfl ?_
          exact Ru.done rfl
        · rw [if_neg h3]
          refine Ru.jn rfl h3 ?_
          refine Ru.step (pc' := 25) (ls' := [some (.inl x0)]) (st' := [.inl x0]) (h1 := hp L s c e) rfl ?_
          refine Ru.step (pc' := 27) (ls' := [some (.inl x0)]) (st' := [.inl 95, .inl x0]) (h1 := hp L s c e) rfl ?_
          by_cases h4 : ¬ x0 = 95
          · rw [if_pos h4]
            refine Ru.jy rfl h4 ?_
            refine Ru.step (pc' := 35) (ls' := [some (.inl x0)]) (st' := [.inl 0]) (h1 := hp L s c e) rfl ?_
            exact Ru.done rfl
          · rw [if_neg h4]
            refine Ru.jn rfl h4 ?_
            refine Ru.step (pc' := 31) (ls' := [some (.inl x0)]) (st' := [.inl 1]) (h1 := hp L s c e) rfl ?_
            refine Ru.step (pc' := 35) (ls' := [some (.inl x0)]) (st' := [.inl 1]) (h1 := hp L s c e) rfl ?_
            exact Ru.done rfl
/-- MachineText$Lexemes.isDigit(I)Z -/
def f_87 (x0 : Int) (s : Nat → Nat → Int) : Int := (if x0 < 48 then 0 else (if 57 < x0 then 0 else 1))
theorem ev_87 {L c : Nat} {s : Nat → Nat → Int} {e : Nat → Nat} (x0 : Int) : Ev 1 87 [.inl x0] (hp L s c e) (.inl (some (.inl (f_87 x0 s)))) (hp L s c e) := by
  unfold f_87
  refine Ev.of (μ := tb_m87) (ls := [some (.inl x0)]) rfl (Nat.le_of_ble_eq_true rfl) rfl ?_
  refine Ru.step (pc' := 1) (ls' := [some (.inl x0)]) (st' := [.inl x0]) (h1 := hp L s c e) rfl ?_
  refine Ru.step (pc' := 3) (ls' := [some (.inl x0)]) (st' := [.inl 48, .inl x0]) (h1 := hp L s c e) rfl ?_
  by_cases h0 : x0 < 48
  · rw [if_pos h0]
    refine Ru.jy rfl h0 ?_
    refine Ru.step (pc' := 17) (ls' := [some (.inl x0)]) (st' := [.inl 0]) (h1 := hp L s c e) rfl ?_
    exact Ru.done rfl
  · rw [if_neg h0]
    refine Ru.jn rfl h0 ?_
    refine Ru.step (pc' := 7) (ls' := [some (.inl x0)]) (st' := [.inl x0]) (h1 := hp L s c e) rfl ?_
    refine Ru.step (pc' := 9) (ls' := [some (.inl x0)]) (st' := [.inl 57, .inl x0]) (h1 := hp L s c e) rfl ?_
    by_cases h1 : 57 < x0
    · rw [if_pos h1]
      refine Ru.jy rfl h1 ?_
      refine Ru.step (pc' := 17) (ls' := [some (.inl x0)]) (st' := [.inl 0]) (h1 := hp L s c e) rfl ?_
      exact Ru.done rfl
    · rw [if_neg h1]
      refine Ru.jn rfl h1 ?_
      refine Ru.step (pc' := 13) (ls' := [some (.inl x0)]) (st' := [.inl 1]) (h1 := hp L s c e) rfl ?_
      refine Ru.step (pc' := 17) (ls' := [some (.inl x0)]) (st' := [.inl 1]) (h1 := hp L s c e) rfl ?_
      exact Ru.done rfl
/-- MachineText$Lexemes.hexDigit(I)I -/
def f_89 (x0 : Int) (s : Nat → Nat → Int) : Int := (if f_87 x0 s = 0 then (if x0 < 97 then (-1) else (if 102 < x0 then (-1) else ax_w32 ((ax_w32 (x0 - 97)) + 10))) else ax_w32 (x0 - 48))
theorem ev_89 {L c : Nat} {s : Nat → Nat → Int} {e : Nat → Nat} (x0 : Int) : Ev 2 89 [.inl x0] (hp L s c e) (.inl (some (.inl (f_89 x0 s)))) (hp L s c e) := by
  unfold f_89
  refine Ev.of (μ := tb_m89) (ls := [some (.inl x0)]) rfl (Nat.le_of_ble_eq_true rfl) rfl ?_
  refine Ru.step (pc' := 1) (ls' := [some (.inl x0)]) (st' := [.inl x0]) (h1 := hp L s c e) rfl ?_
  refine Ru.call rfl ((ev_87 x0).up (by decide)) ?_
  by_cases h0 : f_87 x0 s = 0
  · rw [if_pos h0]
    refine Ru.jy rfl h0 ?_
    refine Ru.step (pc' := 13) (ls' := [some (.inl x0)]) (st' := [.inl x0]) (h1 := hp L s c e) rfl ?_
    refine Ru.step (pc' := 15) (ls' := [some (.inl x0)]) (st' := [.inl 97, .inl x0]) (h1 := hp L s c e) rfl ?_
    by_cases h1 : x0 < 97
    · rw [if_pos h1]
      refine Ru.jy rfl h1 ?_
      refine Ru.step (pc' := 35) (ls' := [some (.inl x0)]) (st' := [.inl (-1)]) (h1 := hp L s c e) rfl ?_
      exact Ru.done rfl
    · rw [if_neg h1]
      refine Ru.jn rfl h1 ?_
      refine Ru.step (pc' := 19) (ls' := [some (.inl x0)]) (st' := [.inl x0]) (h1 := hp L s c e) rfl ?_
      refine Ru.step (pc' := 21) (ls' := [some (.inl x0)]) (st' := [.inl 102, .inl x0]) (h1 := hp L s c e) rfl ?_
      by_cases h2 : 102 < x0
      · rw [if_pos h2]
        refine Ru.jy rfl h2 ?_
        refine Ru.step (pc' := 35) (ls' := [some (.inl x0)]) (st' := [.inl (-1)]) (h1 := hp L s c e) rfl ?_
        exact Ru.done rfl
      · rw [if_neg h2]
        refine Ru.jn rfl h2 ?_
        refine Ru.step (pc' := 25) (ls' := [some (.inl x0)]) (st' := [.inl x0]) (h1 := hp L s c e) rfl ?_
        refine Ru.step (pc' := 27) (ls' := [some (.inl x0)]) (st' := [.inl 97, .inl x0]) (h1 := hp L s c e) rfl ?_
        refine Ru.step (pc' := 28) (ls' := [some (.inl x0)]) (st' := [.inl (ax_w32 (x0 - 97))]) (h1 := hp L s c e) rfl ?_
        refine Ru.step (pc' := 30) (ls' := [some (.inl x0)]) (st' := [.inl 10, .inl (ax_w32 (x0 - 97))]) (h1 := hp L s c e) rfl ?_
        refine Ru.step (pc' := 31) (ls' := [some (.inl x0)]) (st' := [.inl (ax_w32 ((ax_w32 (x0 - 97)) + 10))]) (h1 := hp L s c e) rfl ?_
        refine Ru.step (pc' := 35) (ls' := [some (.inl x0)]) (st' := [.inl (ax_w32 ((ax_w32 (x0 - 97)) + 10))]) (h1 := hp L s c e) rfl ?_
        exact Ru.done rfl
  · rw [if_neg h0]
    refine Ru.jn rfl h0 ?_
    refine Ru.step (pc' := 8) (ls' := [some (.inl x0)]) (st' := [.inl x0]) (h1 := hp L s c e) rfl ?_
    refine Ru.step (pc' := 10) (ls' := [some (.inl x0)]) (st' := [.inl 48, .inl x0]) (h1 := hp L s c e) rfl ?_
    refine Ru.step (pc' := 11) (ls' := [some (.inl x0)]) (st' := [.inl (ax_w32 (x0 - 48))]) (h1 := hp L s c e) rfl ?_
    exact Ru.done rfl
/-- MachineText$Lexemes.next()V -/
def f_94 (s : Nat → Nat → Int) : Nat → Nat → Int := (if s 39 9 ≤ s 39 10 then (if s 39 9 ≤ s 39 10 then (ax_u2 s 39 11 0) else (ax_u2 s 39 11 (s 41 ((s 39 10).toNat)))) else (if s 39 9 ≤ ax_w32 ((s 39 10) + 1) then (ax_u2 (ax_u2 s 39 10 (ax_w32 ((s 39 10) + 1))) 39 11 0) else (ax_u2 (ax_u2 s 39 10 (ax_w32 ((s 39 10) + 1))) 39 11 (s 41 ((ax_w32 ((s 39 10) + 1)).toNat)))))
def g_94 (s : Nat → Nat → Int) : Prop := ((s 39 9 ≤ s 39 10 → ((s 39 9 ≤ s 39 10 → True) ∧ (¬ (s 39 9 ≤ s 39 10) → ((0 ≤ s 39 10 ∧ s 39 10 < 8193) ∧ True)))) ∧ (¬ (s 39 9 ≤ s 39 10) → ((s 39 9 ≤ ax_w32 ((s 39 10) + 1) → True) ∧ (¬ (s 39 9 ≤ ax_w32 ((s 39 10) + 1)) → ((0 ≤ ax_w32 ((s 39 10) + 1) ∧ ax_w32 ((s 39 10) + 1) < 8193) ∧ True)))))
theorem ev_94 {L c : Nat} {s : Nat → Nat → Int} {e : Nat → Nat} (hg : g_94 s) : Ev 1 94 [.inr (.inr (some 39))] (hp L s c e) (.inl none) (hp L (f_94 s) c e) := by
  unfold f_94
  unfold g_94 at hg
  refine Ev.of (μ := tb_m94) (ls := [some (.inr (.inr (some 39)))]) rfl (Nat.le_of_ble_eq_true rfl) rfl ?_
  refine Ru.step (pc' := 1) (ls' := [some (.inr (.inr (some 39)))]) (st' := [.inr (.inr (some 39))]) (h1 := hp L s c e) rfl ?_
  refine Ru.step (pc' := 4) (ls' := [some (.inr (.inr (some 39)))]) (st' := [.inl (s 39 10)]) (h1 := hp L s c e) rfl ?_
  refine Ru.step (pc' := 5) (ls' := [some (.inr (.inr (some 39)))]) (st' := [.inr (.inr (some 39)), .inl (s 39 10)]) (h1 := hp L s c e) rfl ?_
  refine Ru.step (pc' := 8) (ls' := [some (.inr (.inr (some 39)))]) (st' := [.inl (s 39 9), .inl (s 39 10)]) (h1 := hp L s c e) rfl ?_
  by_cases h0 : s 39 9 ≤ s 39 10
  · rw [if_pos h0]
    have hg := hg.1 h0
    refine Ru.jy rfl h0 ?_
    refine Ru.step (pc' := 22) (ls' := [some (.inr (.inr (some 39)))]) (st' := [.inr (.inr (some 39))]) (h1 := hp L s c e) rfl ?_
    refine Ru.step (pc' := 23) (ls' := [some (.inr (.inr (some 39)))]) (st' := [.inr (.inr (some 39)), .inr (.inr (some 39))]) (h1 := hp L s c e) rfl ?_
    refine Ru.step (pc' := 26) (ls' := [some (.inr (.inr (some 39)))]) (st' := [.inl (s 39 10), .inr (.inr (some 39))]) (h1 := hp L s c e) rfl ?_
    refine Ru.step (pc' := 27) (ls' := [some (.inr (.inr (some 39)))]) (st' := [.inr (.inr (some 39)), .inl (s 39 10), .inr (.inr (some 39))]) (h1 := hp L s c e) rfl ?_
    refine Ru.step (pc' := 30) (ls' := [some (.inr (.inr (some 39)))]) (st' := [.inl (s 39 9), .inl (s 39 10), .inr (.inr (some 39))]) (h1 := hp L s c e) rfl ?_
    by_cases h1 : s 39 9 ≤ s 39 10
    · rw [if_pos h1]
      have hg := hg.1 h1
      refine Ru.jy rfl h1 ?_
      refine Ru.step (pc' := 46) (ls' := [some (.inr (.inr (some 39)))]) (st' := [.inl 0, .inr (.inr (some 39))]) (h1 := hp L s c e) rfl ?_
      refine Ru.step (pc' := 49) (ls' := [some (.inr (.inr (some 39)))]) (st' := []) (h1 := hp L (ax_u2 s 39 11 0) c e) rfl ?_
      exact Ru.done rfl
    · rw [if_neg h1]
      have hg := hg.2 h1
      refine Ru.jn rfl h1 ?_
      refine Ru.step (pc' := 34) (ls' := [some (.inr (.inr (some 39)))]) (st' := [.inr (.inr (some 39)), .inr (.inr (some 39))]) (h1 := hp L s c e) rfl ?_
      refine Ru.step (pc' := 37) (ls' := [some (.inr (.inr (some 39)))]) (st' := [.inr (.inr (some 41)), .inr (.inr (some 39))]) (h1 := hp L s c e) rfl ?_
      refine Ru.step (pc' := 38) (ls' := [some (.inr (.inr (some 39)))]) (st' := [.inr (.inr (some 39)), .inr (.inr (some 41)), .inr (.inr (some 39))]) (h1 := hp L s c e) rfl ?_
      refine Ru.step (pc' := 41) (ls' := [some (.inr (.inr (some 39)))]) (st' := [.inl (s 39 10), .inr (.inr (some 41)), .inr (.inr (some 39))]) (h1 := hp L s c e) rfl ?_
      obtain ⟨⟨b1, b2⟩, hg⟩ := hg
      refine Ru.ald (f := fun t => t == 0) (j := s 39 10) (a := 41) rfl rfl b1 b2 ?_
      refine Ru.step (pc' := 46) (ls' := [some (.inr (.inr (some 39)))]) (st' := [.inl (s 41 ((s 39 10).toNat)), .inr (.inr (some 39))]) (h1 := hp L s c e) rfl ?_
      refine Ru.step (pc' := 49) (ls' := [some (.inr (.inr (some 39)))]) (st' := []) (h1 := hp L (ax_u2 s 39 11 (s 41 ((s 39 10).toNat))) c e) rfl ?_
      exact Ru.done rfl
  · rw [if_neg h0]
    have hg := hg.2 h0
    refine Ru.jn rfl h0 ?_
    refine Ru.step (pc' := 12) (ls' := [some (.inr (.inr (some 39)))]) (st' := [.inr (.inr (some 39))]) (h1 := hp L s c e) rfl ?_
    refine Ru.step (pc' := 13) (ls' := [some (.inr (.inr (some 39)))]) (st' := [.inr (.inr (some 39)), .inr (.inr (some 39))]) (h1 := hp L s c e) rfl ?_
    refine Ru.step (pc' := 16) (ls' := [some (.inr (.inr (some 39)))]) (st' := [.inl (s 39 10), .inr (.inr (some 39))]) (h1 := hp L s c e) rfl ?_
    refine Ru.step (pc' := 17) (ls' := [some (.inr (.inr (some 39)))]) (st' := [.inl 1, .inl (s 39 10), .inr (.inr (some 39))]) (h1 := hp L s c e) rfl ?_
    refine Ru.step (pc' := 18) (ls' := [some (.inr (.inr (some 39)))]) (st' := [.inl (ax_w32 ((s 39 10) + 1)), .inr (.inr (some 39))]) (h1 := hp L s c e) rfl ?_
    refine Ru.step (pc' := 21) (ls' := [some (.inr (.inr (some 39)))]) (st' := []) (h1 := hp L (ax_u2 s 39 10 (ax_w32 ((s 39 10) + 1))) c e) rfl ?_
    refine Ru.step (pc' := 22) (ls' := [some (.inr (.inr (some 39)))]) (st' := [.inr (.inr (some 39))]) (h1 := hp L (ax_u2 s 39 10 (ax_w32 ((s 39 10) + 1))) c e) rfl ?_
    refine Ru.step (pc' := 23) (ls' := [some (.inr (.inr (some 39)))]) (st' := [.inr (.inr (some 39)), .inr (.inr (some 39))]) (h1 := hp L (ax_u2 s 39 10 (ax_w32 ((s 39 10) + 1))) c e) rfl ?_
    refine Ru.step (pc' := 26) (ls' := [some (.inr (.inr (some 39)))]) (st' := [.inl (ax_w32 ((s 39 10) + 1)), .inr (.inr (some 39))]) (h1 := hp L (ax_u2 s 39 10 (ax_w32 ((s 39 10) + 1))) c e) rfl ?_
    refine Ru.step (pc' := 27) (ls' := [some (.inr (.inr (some 39)))]) (st' := [.inr (.inr (some 39)), .inl (ax_w32 ((s 39 10) + 1)), .inr (.inr (some 39))]) (h1 := hp L (ax_u2 s 39 10 (ax_w32 ((s 39 10) + 1))) c e) rfl ?_
    refine Ru.step (pc' := 30) (ls' := [some (.inr (.inr (some 39)))]) (st' := [.inl (s 39 9), .inl (ax_w32 ((s 39 10) + 1)), .inr (.inr (some 39))]) (h1 := hp L (ax_u2 s 39 10 (ax_w32 ((s 39 10) + 1))) c e) rfl ?_
    by_cases h1 : s 39 9 ≤ ax_w32 ((s 39 10) + 1)
    · rw [if_pos h1]
      have hg := hg.1 h1
      refine Ru.jy rfl h1 ?_
      refine Ru.step (pc' := 46) (ls' := [some (.inr (.inr (some 39)))]) (st' := [.inl 0, .inr (.inr (some 39))]) (h1 := hp L (ax_u2 s 39 10 (ax_w32 ((s 39 10) + 1))) c e) rfl ?_
      refine Ru.step (pc' := 49) (ls' := [some (.inr (.inr (some 39)))]) (st' := []) (h1 := hp L (ax_u2 (ax_u2 s 39 10 (ax_w32 ((s 39 10) + 1))) 39 11 0) c e) rfl ?_
      exact Ru.done rfl
    · rw [if_neg h1]
      have hg := hg.2 h1
      refine Ru.jn rfl h1 ?_
      refine Ru.step (pc' := 34) (ls' := [some (.inr (.inr (some 39)))]) (st' := [.inr (.inr (some 39)), .inr (.inr (some 39))]) (h1 := hp L (ax_u2 s 39 10 (ax_w32 ((s 39 10) + 1))) c e) rfl ?_
      refine Ru.step (pc' := 37) (ls' := [some (.inr (.inr (some 39)))]) (st' := [.inr (.inr (some 41)), .inr (.inr (some 39))]) (h1 := hp L (ax_u2 s 39 10 (ax_w32 ((s 39 10) + 1))) c e) rfl ?_
      refine Ru.step (pc' := 38) (ls' := [some (.inr (.inr (some 39)))]) (st' := [.inr (.inr (some 39)), .inr (.inr (some 41)), .inr (.inr (some 39))]) (h1 := hp L (ax_u2 s 39 10 (ax_w32 ((s 39 10) + 1))) c e) rfl ?_
      refine Ru.step (pc' := 41) (ls' := [some (.inr (.inr (some 39)))]) (st' := [.inl (ax_w32 ((s 39 10) + 1)), .inr (.inr (some 41)), .inr (.inr (some 39))]) (h1 := hp L (ax_u2 s 39 10 (ax_w32 ((s 39 10) + 1))) c e) rfl ?_
      obtain ⟨⟨b1, b2⟩, hg⟩ := hg
      refine Ru.ald (f := fun t => t == 0) (j := ax_w32 ((s 39 10) + 1)) (a := 41) rfl rfl b1 b2 ?_
      refine Ru.step (pc' := 46) (ls' := [some (.inr (.inr (some 39)))]) (st' := [.inl (s 41 ((ax_w32 ((s 39 10) + 1)).toNat)), .inr (.inr (some 39))]) (h1 := hp L (ax_u2 s 39 10 (ax_w32 ((s 39 10) + 1))) c e) rfl ?_
      refine Ru.step (pc' := 49) (ls' := [some (.inr (.inr (some 39)))]) (st' := []) (h1 := hp L (ax_u2 (ax_u2 s 39 10 (ax_w32 ((s 39 10) + 1))) 39 11 (s 41 ((ax_w32 ((s 39 10) + 1)).toNat))) c e) rfl ?_
      exact Ru.done rfl
/-- MachineText$Lexemes.pairOf(II)I -/
def f_95 (x0 x1 : Int) (s : Nat → Nat → Int) : Int := (if ¬ x1 = 61 then (if ¬ x0 = x1 then (-1) else (if ¬ x0 = 60 then (if ¬ x0 = 62 then (-1) else 131) else 130)) else (if ¬ x0 = 61 then (if ¬ x0 = 33 then (-1) else 129) else 128))
theorem ev_95 {L c : Nat} {s : Nat → Nat → Int} {e : Nat → Nat} (x0 x1 : Int) : Ev 1 95 [.inl x0, .inl x1] (hp L s c e) (.inl (some (.inl (f_95 x0 x1 s)))) (hp L s c e) := by
  unfold f_95
  refine Ev.of (μ := tb_m95) (ls := [some (.inl x0), some (.inl x1)]) rfl (Nat.le_of_ble_eq_true rfl) rfl ?_
  refine Ru.step (pc' := 1) (ls' := [some (.inl x0), some (.inl x1)]) (st' := [.inl x1]) (h1 := hp L s c e) rfl ?_
  refine Ru.step (pc' := 3) (ls' := [some (.inl x0), some (.inl x1)]) (st' := [.inl 61, .inl x1]) (h1 := hp L s c e) rfl ?_
  by_cases h0 : ¬ x1 = 61
  · rw [if_pos h0]
    refine Ru.jy rfl h0 ?_
    refine Ru.step (pc' := 33) (ls' := [some (.inl x0), some (.inl x1)]) (st' := [.inl x0]) (h1 := hp L s c e) rfl ?_
    refine Ru.step (pc' := 34) (ls' := [some (.inl x0), some (.inl x1)]) (st' := [.inl x1, .inl x0]) (h1 := hp L s c e) rfl ?_
    by_cases h1 : ¬ x0 = x1
    · rw [if_pos h1]
      refine Ru.jy rfl h1 ?_
      refine Ru.step (pc' := 64) (ls' := [some (.inl x0), some (.inl x1)]) (st' := [.inl (-1)]) (h1 := hp L s c e) rfl ?_
      exact Ru.done rfl
    · rw [if_neg h1]
      refine Ru.jn rfl h1 ?_
      refine Ru.step (pc' := 38) (ls' := [some (.inl x0), some (.inl x1)]) (st' := [.inl x0]) (h1 := hp L s c e) rfl ?_
      refine Ru.step (pc' := 40) (ls' := [some (.inl x0), some (.inl x1)]) (st' := [.inl 60, .inl x0]) (h1 := hp L s c e) rfl ?_
      by_cases h2 : ¬ x0 = 60
      · rw [if_pos h2]
        refine Ru.jy rfl h2 ?_
        refine Ru.step (pc' := 50) (ls' := [some (.inl x0), some (.inl x1)]) (st' := [.inl x0]) (h1 := hp L s c e) rfl ?_
        refine Ru.step (pc' := 52) (ls' := [some (.inl x0), some (.inl x1)]) (st' := [.inl 62, .inl x0]) (h1 := hp L s c e) rfl ?_
        by_cases h3 : ¬ x0 = 62
        · rw [if_pos h3]
          refine Ru.jy rfl h3 ?_
          refine Ru.step (pc' := 62) (ls' := [some (.inl x0), some (.inl x1)]) (st' := [.inl (-1)]) (h1 := hp L s c e) rfl ?_
          exact Ru.done rfl
        · rw [if_neg h3]
          refine Ru.jn rfl h3 ?_
          refine Ru.step (pc' := 58) (ls' := [some (.inl x0), some (.inl x1)]) (st' := [.inl 131]) (h1 := hp L s c e) rfl ?_
          refine Ru.step (pc' := 62) (ls' := [some (.inl x0), some (.inl x1)]) (st' := [.inl 131]) (h1 := hp L s c e) rfl ?_
          exact Ru.done rfl
      · rw [if_neg h2]
        refine Ru.jn rfl h2 ?_
        refine Ru.step (pc' := 46) (ls' := [some (.inl x0), some (.inl x1)]) (st' := [.inl 130]) (h1 := hp L s c e) rfl ?_
        refine Ru.step (pc' := 62) (ls' := [some (.inl x0), some (.inl x1)]) (st' := [.inl 130]) (h1 := hp L s c e) rfl ?_
        exact Ru.done rfl
  · rw [if_neg h0]
    refine Ru.jn rfl h0 ?_
    refine Ru.step (pc' := 7) (ls' := [some (.inl x0), some (.inl x1)]) (st' := [.inl x0]) (h1 := hp L s c e) rfl ?_
    refine Ru.step (pc' := 9) (ls' := [some (.inl x0), some (.inl x1)]) (st' := [.inl 61, .inl x0]) (h1 := hp L s c e) rfl ?_
    by_cases h1 : ¬ x0 = 61
    · rw [if_pos h1]
      refine Ru.jy rfl h1 ?_
      refine Ru.step (pc' := 19) (ls' := [some (.inl x0), some (.inl x1)]) (st' := [.inl x0]) (h1 := hp L s c e) rfl ?_
      refine Ru.step (pc' := 21) (ls' := [some (.inl x0), some (.inl x1)]) (st' := [.inl 33, .inl x0]) (h1 := hp L s c e) rfl ?_
      by_cases h2 : ¬ x0 = 33
      · rw [if_pos h2]
        refine Ru.jy rfl h2 ?_
        refine Ru.step (pc' := 31) (ls' := [some (.inl x0), some (.inl x1)]) (st' := [.inl (-1)]) (h1 := hp L s c e) rfl ?_
        exact Ru.done rfl
      · rw [if_neg h2]
        refine Ru.jn rfl h2 ?_
        refine Ru.step (pc' := 27) (ls' := [some (.inl x0), some (.inl x1)]) (st' := [.inl 129]) (h1 := hp L s c e) rfl ?_
        refine Ru.step (pc' := 31) (ls' := [some (.inl x0), some (.inl x1)]) (st' := [.inl 129]) (h1 := hp L s c e) rfl ?_
        exact Ru.done rfl
    · rw [if_neg h1]
      refine Ru.jn rfl h1 ?_
      refine Ru.step (pc' := 15) (ls' := [some (.inl x0), some (.inl x1)]) (st' := [.inl 128]) (h1 := hp L s c e) rfl ?_
      refine Ru.step (pc' := 31) (ls' := [some (.inl x0), some (.inl x1)]) (st' := [.inl 128]) (h1 := hp L s c e) rfl ?_
      exact Ru.done rfl
/-- MachineText$Lexemes.idAt(I)I -/
def f_97 (x0 : Int) (s : Nat → Nat → Int) : Int := (if x0 < 0 then (-1) else (if s 39 9 ≤ x0 then (-1) else (if ¬ (s 41 x0.toNat) = 1 then (-1) else ax_w32 (s 44 x0.toNat))))
def g_97 (x0 : Int) (s : Nat → Nat → Int) : Prop := ((x0 < 0 → True) ∧ (¬ (x0 < 0) → ((s 39 9 ≤ x0 → True) ∧ (¬ (s 39 9 ≤ x0) → ((0 ≤ x0 ∧ x0 < 8193) ∧ ((¬ (s 41 x0.toNat) = 1 → True) ∧ (¬ (¬ (s 41 x0.toNat) = 1) → ((0 ≤ x0 ∧ x0 < 8193) ∧ True))))))))
theorem ev_97 {L c : Nat} {s : Nat → Nat → Int} {e : Nat → Nat} (x0 : Int) (hg : g_97 x0 s) : Ev 1 97 [.inr (.inr (some 39)), .inl x0] (hp L s c e) (.inl (some (.inl (f_97 x0 s)))) (hp L s c e) := by
  unfold f_97
  unfold g_97 at hg
  refine Ev.of (μ := tb_m97) (ls := [some (.inr (.inr (some 39))), some (.inl x0)]) rfl (Nat.le_of_ble_eq_true rfl) rfl ?_
  refine Ru.step (pc' := 1) (ls' := [some (.inr (.inr (some 39))), some (.inl x0)]) (st' := [.inl x0]) (h1 := hp L s c e) rfl ?_
  by_cases h0 : x0 < 0
  · rw [if_pos h0]
    have hg := hg.1 h0
    refine Ru.jy rfl h0 ?_
    refine Ru.step (pc' := 33) (ls' := [some (.inr (.inr (some 39))), some (.inl x0)]) (st' := [.inl (-1)]) (h1 := hp L s c e) rfl ?_
    exact Ru.done rfl
  · rw [if_neg h0]
    have hg := hg.2 h0
    refine Ru.jn rfl h0 ?_
    refine Ru.step (pc' := 5) (ls' := [some (.inr (.inr (some 39))), some (.inl x0)]) (st' := [.inl x0]) (h1 := hp L s c e) rfl ?_
    refine Ru.step (pc' := 6) (ls' := [some (.inr (.inr (some 39))), some (.inl x0)]) (st' := [.inr (.inr (some 39)), .inl x0]) (h1 := hp L s c e) rfl ?_
    refine Ru.step (pc' := 9) (ls' := [some (.inr (.inr (some 39))), some (.inl x0)]) (st' := [.inl (s 39 9), .inl x0]) (h1 := hp L s c e) rfl ?_
    by_cases h1 : s 39 9 ≤ x0
    · rw [if_pos h1]
      have hg := hg.1 h1
      refine Ru.jy rfl h1 ?_
      refine Ru.step (pc' := 33) (ls' := [some (.inr (.inr (some 39))), some (.inl x0)]) (st' := [.inl (-1)]) (h1 := hp L s c e) rfl ?_
      exact Ru.done rfl
    · rw [if_neg h1]
      have hg := hg.2 h1
      refine Ru.jn rfl h1 ?_
      refine Ru.step (pc' := 13) (ls' := [some (.inr (.inr (some 39))), some (.inl x0)]) (st' := [.inr (.inr (some 39))]) (h1 := hp L s c e) rfl ?_
      refine Ru.step (pc' := 16) (ls' := [some (.inr (.inr (some 39))), some (.inl x0)]) (st' := [.inr (.inr (some 41))]) (h1 := hp L s c e) rfl ?_
      refine Ru.step (pc' := 17) (ls' := [some (.inr (.inr (some 39))), some (.inl x0)]) (st' := [.inl x0, .inr (.inr (some 41))]) (h1 := hp L s c e) rfl ?_
      obtain ⟨⟨b1, b2⟩, hg⟩ := hg
      refine Ru.ald (f := fun t => t == 0) (j := x0) (a := 41) rfl rfl b1 b2 ?_
      refine Ru.step (pc' := 19) (ls' := [some (.inr (.inr (some 39))), some (.inl x0)]) (st' := [.inl 1, .inl (s 41 x0.toNat)]) (h1 := hp L s c e) rfl ?_
      by_cases h2 : ¬ (s 41 x0.toNat) = 1
      · rw [if_pos h2]
        have hg := hg.1 h2
        refine Ru.jy rfl h2 ?_
        refine Ru.step (pc' := 33) (ls' := [some (.inr (.inr (some 39))), some (.inl x0)]) (st' := [.inl (-1)]) (h1 := hp L s c e) rfl ?_
        exact Ru.done rfl
      · rw [if_neg h2]
        have hg := hg.2 h2
        refine Ru.jn rfl h2 ?_
        refine Ru.step (pc' := 23) (ls' := [some (.inr (.inr (some 39))), some (.inl x0)]) (st' := [.inr (.inr (some 39))]) (h1 := hp L s c e) rfl ?_
        refine Ru.step (pc' := 26) (ls' := [some (.inr (.inr (some 39))), some (.inl x0)]) (st' := [.inr (.inr (some 44))]) (h1 := hp L s c e) rfl ?_
        refine Ru.step (pc' := 27) (ls' := [some (.inr (.inr (some 39))), some (.inl x0)]) (st' := [.inl x0, .inr (.inr (some 44))]) (h1 := hp L s c e) rfl ?_
        obtain ⟨⟨b1, b2⟩, hg⟩ := hg
        refine Ru.ald (f := fun t => t == 2) (j := x0) (a := 44) rfl rfl b1 b2 ?_
        refine Ru.step (pc' := 29) (ls' := [some (.inr (.inr (some 39))), some (.inl x0)]) (st' := [.inl (ax_w32 (s 44 x0.toNat))]) (h1 := hp L s c e) rfl ?_
        refine Ru.step (pc' := 33) (ls' := [some (.inr (.inr (some 39))), some (.inl x0)]) (st' := [.inl (ax_w32 (s 44 x0.toNat))]) (h1 := hp L s c e) rfl ?_
        exact Ru.done rfl
/-- MachineText$Lexemes.style(II)V -/
def f_99 (x0 x1 : Int) (s : Nat → Nat → Int) : Nat → Nat → Int := (if x0 < 0 then s else (if s 39 9 ≤ x0 then s else (ax_u2 s 45 x0.toNat x1)))
def g_99 (x0 x1 : Int) (s : Nat → Nat → Int) : Prop := ((x0 < 0 → True) ∧ (¬ (x0 < 0) → ((s 39 9 ≤ x0 → True) ∧ (¬ (s 39 9 ≤ x0) → ((0 ≤ x0 ∧ x0 < 8193) ∧ True)))))
theorem ev_99 {L c : Nat} {s : Nat → Nat → Int} {e : Nat → Nat} (x0 x1 : Int) (hg : g_99 x0 x1 s) : Ev 1 99 [.inr (.inr (some 39)), .inl x0, .inl x1] (hp L s c e) (.inl none) (hp L (f_99 x0 x1 s) c e) := by
  unfold f_99
  unfold g_99 at hg
  refine Ev.of (μ := tb_m99) (ls := [some (.inr (.inr (some 39))), some (.inl x0), some (.inl x1)]) rfl (Nat.le_of_ble_eq_true rfl) rfl ?_
  refine Ru.step (pc' := 1) (ls' := [some (.inr (.inr (some 39))), some (.inl x0), some (.inl x1)]) (st' := [.inl x0]) (h1 := hp L s c e) rfl ?_
  by_cases h0 : x0 < 0
  · rw [if_pos h0]
    have hg := hg.1 h0
    refine Ru.jy rfl h0 ?_
    exact Ru.done rfl
  · rw [if_neg h0]
    have hg := hg.2 h0
    refine Ru.jn rfl h0 ?_
    refine Ru.step (pc' := 5) (ls' := [some (.inr (.inr (some 39))), some (.inl x0), some (.inl x1)]) (st' := [.inl x0]) (h1 := hp L s c e) rfl ?_
    refine Ru.step (pc' := 6) (ls' := [some (.inr (.inr (some 39))), some (.inl x0), some (.inl x1)]) (st' := [.inr (.inr (some 39)), .inl x0]) (h1 := hp L s c e) rfl ?_
    refine Ru.step (pc' := 9) (ls' := [some (.inr (.inr (some 39))), some (.inl x0), some (.inl x1)]) (st' := [.inl (s 39 9), .inl x0]) (h1 := hp L s c e) rfl ?_
    by_cases h1 : s 39 9 ≤ x0
    · rw [if_pos h1]
      have hg := hg.1 h1
      refine Ru.jy rfl h1 ?_
      exact Ru.done rfl
    · rw [if_neg h1]
      have hg := hg.2 h1
      refine Ru.jn rfl h1 ?_
      refine Ru.step (pc' := 13) (ls' := [some (.inr (.inr (some 39))), some (.inl x0), some (.inl x1)]) (st' := [.inr (.inr (some 39))]) (h1 := hp L s c e) rfl ?_
      refine Ru.step (pc' := 16) (ls' := [some (.inr (.inr (some 39))), some (.inl x0), some (.inl x1)]) (st' := [.inr (.inr (some 45))]) (h1 := hp L s c e) rfl ?_
      refine Ru.step (pc' := 17) (ls' := [some (.inr (.inr (some 39))), some (.inl x0), some (.inl x1)]) (st' := [.inl x0, .inr (.inr (some 45))]) (h1 := hp L s c e) rfl ?_
      refine Ru.step (pc' := 18) (ls' := [some (.inr (.inr (some 39))), some (.inl x0), some (.inl x1)]) (st' := [.inl x1, .inl x0, .inr (.inr (some 45))]) (h1 := hp L s c e) rfl ?_
      obtain ⟨⟨b1, b2⟩, hg⟩ := hg
      refine Ru.ast (f := fun t => t == 0) (j := x0) (a := 45) rfl rfl (by decide) rfl rfl b1 b2 ?_
      exact Ru.done rfl
/-- MachineText$Names.spell(I)V -/
def f_105 (x0 : Int) (s : Nat → Nat → Int) : Nat → Nat → Int := (ax_u2 (ax_u2 s 31 9 (ax_lor (ax_lshl (s 31 9) 8) (ax_lushr (s 31 10) 56))) 31 10 (ax_lor (ax_lshl (s 31 10) 8) x0))
theorem ev_105 {L c : Nat} {s : Nat → Nat → Int} {e : Nat → Nat} (x0 : Int) : Ev 1 105 [.inr (.inr (some 31)), .inl x0] (hp L s c e) (.inl none) (hp L (f_105 x0 s) c e) := by
  unfold f_105
  refine Ev.of (μ := tb_m105) (ls := [some (.inr (.inr (some 31))), some (.inl x0)]) rfl (Nat.le_of_ble_eq_true rfl) rfl ?_
  refine Ru.step (pc' := 1) (ls' := [some (.inr (.inr (some 31))), some (.inl x0)]) (st' := [.inr (.inr (some 31))]) (h1 := hp L s c e) rfl ?_
  refine Ru.step (pc' := 2) (ls' := [some (.inr (.inr (some 31))), some (.inl x0)]) (st' := [.inr (.inr (some 31)), .inr (.inr (some 31))]) (h1 := hp L s c e) rfl ?_
  refine Ru.step (pc' := 5) (ls' := [some (.inr (.inr (some 31))), some (.inl x0)]) (st' := [.inr (.inl (s 31 9)), .inr (.inr (some 31))]) (h1 := hp L s c e) rfl ?_
  refine Ru.step (pc' := 7) (ls' := [some (.inr (.inr (some 31))), some (.inl x0)]) (st' := [.inl 8, .inr (.inl (s 31 9)), .inr (.inr (some 31))]) (h1 := hp L s c e) rfl ?_
  refine Ru.step (pc' := 8) (ls' := [some (.inr (.inr (some 31))), some (.inl x0)]) (st' := [.inr (.inl (ax_lshl (s 31 9) 8)), .inr (.inr (some 31))]) (h1 := hp L s c e) rfl ?_
  refine Ru.step (pc' := 9) (ls' := [some (.inr (.inr (some 31))), some (.inl x0)]) (st' := [.inr (.inr (some 31)), .inr (.inl (ax_lshl (s 31 9) 8)), .inr (.inr (some 31))]) (h1 := hp L s c e) rfl ?_
  refine Ru.step (pc' := 12) (ls' := [some (.inr (.inr (some 31))), some (.inl x0)]) (st' := [.inr (.inl (s 31 10)), .inr (.inl (ax_lshl (s 31 9) 8)), .inr (.inr (some 31))]) (h1 := hp L s c e) rfl ?_
  refine Ru.step (pc' := 14) (ls' := [some (.inr (.inr (some 31))), some (.inl x0)]) (st' := [.inl 56, .inr (.inl (s 31 10)), .inr (.inl (ax_lshl (s 31 9) 8)), .inr (.inr (some 31))]) (h1 := hp L s c e) rfl ?_
  refine Ru.step (pc' := 15) (ls' := [some (.inr (.inr (some 31))), some (.inl x0)]) (st' := [.inr (.inl (ax_lushr (s 31 10) 56)), .inr (.inl (ax_lshl (s 31 9) 8)), .inr (.inr (some 31))]) (h1 := hp L s c e) rfl ?_
  refine Ru.step (pc' := 16) (ls' := [some (.inr (.inr (some 31))), some (.inl x0)]) (st' := [.inr (.inl (ax_lor (ax_lshl (s 31 9) 8) (ax_lushr (s 31 10) 56))), .inr (.inr (some 31))]) (h1 := hp L s c e) rfl ?_
  refine Ru.step (pc' := 19) (ls' := [some (.inr (.inr (some 31))), some (.inl x0)]) (st' := []) (h1 := hp L (ax_u2 s 31 9 (ax_lor (ax_lshl (s 31 9) 8) (ax_lushr (s 31 10) 56))) c e) rfl ?_
  refine Ru.step (pc' := 20) (ls' := [some (.inr (.inr (some 31))), some (.inl x0)]) (st' := [.inr (.inr (some 31))]) (h1 := hp L (ax_u2 s 31 9 (ax_lor (ax_lshl (s 31 9) 8) (ax_lushr (s 31 10) 56))) c e) rfl ?_
  refine Ru.step (pc' := 21) (ls' := [some (.inr (.inr (some 31))), some (.inl x0)]) (st' := [.inr (.inr (some 31)), .inr (.inr (some 31))]) (h1 := hp L (ax_u2 s 31 9 (ax_lor (ax_lshl (s 31 9) 8) (ax_lushr (s 31 10) 56))) c e) rfl ?_
  refine Ru.step (pc' := 24) (ls' := [some (.inr (.inr (some 31))), some (.inl x0)]) (st' := [.inr (.inl (s 31 10)), .inr (.inr (some 31))]) (h1 := hp L (ax_u2 s 31 9 (ax_lor (ax_lshl (s 31 9) 8) (ax_lushr (s 31 10) 56))) c e) rfl ?_
  refine Ru.step (pc' := 26) (ls' := [some (.inr (.inr (some 31))), some (.inl x0)]) (st' := [.inl 8, .inr (.inl (s 31 10)), .inr (.inr (some 31))]) (h1 := hp L (ax_u2 s 31 9 (ax_lor (ax_lshl (s 31 9) 8) (ax_lushr (s 31 10) 56))) c e) rfl ?_
  refine Ru.step (pc' := 27) (ls' := [some (.inr (.inr (some 31))), some (.inl x0)]) (st' := [.inr (.inl (ax_lshl (s 31 10) 8)), .inr (.inr (some 31))]) (h1 := hp L (ax_u2 s 31 9 (ax_lor (ax_lshl (s 31 9) 8) (ax_lushr (s 31 10) 56))) c e) rfl ?_
  refine Ru.step (pc' := 28) (ls' := [some (.inr (.inr (some 31))), some (.inl x0)]) (st' := [.inl x0, .inr (.inl (ax_lshl (s 31 10) 8)), .inr (.inr (some 31))]) (h1 := hp L (ax_u2 s 31 9 (ax_lor (ax_lshl (s 31 9) 8) (ax_lushr (s 31 10) 56))) c e) rfl ?_
  refine Ru.step (pc' := 29) (ls' := [some (.inr (.inr (some 31))), some (.inl x0)]) (st' := [.inr (.inl x0), .inr (.inl (ax_lshl (s 31 10) 8)), .inr (.inr (some 31))]) (h1 := hp L (ax_u2 s 31 9 (ax_lor (ax_lshl (s 31 9) 8) (ax_lushr (s 31 10) 56))) c e) rfl ?_
  refine Ru.step (pc' := 30) (ls' := [some (.inr (.inr (some 31))), some (.inl x0)]) (st' := [.inr (.inl (ax_lor (ax_lshl (s 31 10) 8) x0)), .inr (.inr (some 31))]) (h1 := hp L (ax_u2 s 31 9 (ax_lor (ax_lshl (s 31 9) 8) (ax_lushr (s 31 10) 56))) c e) rfl ?_
  refine Ru.step (pc' := 33) (ls' := [some (.inr (.inr (some 31))), some (.inl x0)]) (st' := []) (h1 := hp L (ax_u2 (ax_u2 s 31 9 (ax_lor (ax_lshl (s 31 9) 8) (ax_lushr (s 31 10) 56))) 31 10 (ax_lor (ax_lshl (s 31 10) 8) x0)) c e) rfl ?_
  exact Ru.done rfl
/-- MachineText$Names.localOf(I)I -/
def f_106 (x0 : Int) (s : Nat → Nat → Int) : Int := (if x0 < 0 then 0 else (if s 31 7 ≤ x0 then 0 else s 37 x0.toNat))
def g_106 (x0 : Int) (s : Nat → Nat → Int) : Prop := ((x0 < 0 → True) ∧ (¬ (x0 < 0) → ((s 31 7 ≤ x0 → True) ∧ (¬ (s 31 7 ≤ x0) → ((0 ≤ x0 ∧ x0 < 4112) ∧ True)))))
theorem ev_106 {L c : Nat} {s : Nat → Nat → Int} {e : Nat → Nat} (x0 : Int) (hg : g_106 x0 s) : Ev 1 106 [.inr (.inr (some 31)), .inl x0] (hp L s c e) (.inl (some (.inl (f_106 x0 s)))) (hp L s c e) := by
  unfold f_106
  unfold g_106 at hg
  refine Ev.of (μ := tb_m106) (ls := [some (.inr (.inr (some 31))), some (.inl x0)]) rfl (Nat.le_of_ble_eq_true rfl) rfl ?_
  refine Ru.step (pc' := 1) (ls' := [some (.inr (.inr (some 31))), some (.inl x0)]) (st' := [.inl x0]) (h1 := hp L s c e) rfl ?_
  by_cases h0 : x0 < 0
  · rw [if_pos h0]
    have hg := hg.1 h0
    refine Ru.jy rfl h0 ?_
    refine Ru.step (pc' := 22) (ls' := [some (.inr (.inr (some 31))), some (.inl x0)]) (st' := [.inl 0]) (h1 := hp L s c e) rfl ?_
    exact Ru.done rfl
  · rw [if_neg h0]
    have hg := hg.2 h0
    refine Ru.jn rfl h0 ?_
    refine Ru.step (pc' := 5) (ls' := [some (.inr (.inr (some 31))), some (.inl x0)]) (st' := [.inl x0]) (h1 := hp L s c e) rfl ?_
    refine Ru.step (pc' := 6) (ls' := [some (.inr (.inr (some 31))), some (.inl x0)]) (st' := [.inr (.inr (some 31)), .inl x0]) (h1 := hp L s c e) rfl ?_
    refine Ru.step (pc' := 9) (ls' := [some (.inr (.inr (some 31))), some (.inl x0)]) (st' := [.inl (s 31 7), .inl x0]) (h1 := hp L s c e) rfl ?_
    by_cases h1 : s 31 7 ≤ x0
    · rw [if_pos h1]
      have hg := hg.1 h1
      refine Ru.jy rfl h1 ?_
      refine Ru.step (pc' := 22) (ls' := [some (.inr (.inr (some 31))), some (.inl x0)]) (st' := [.inl 0]) (h1 := hp L s c e) rfl ?_
      exact Ru.done rfl
    · rw [if_neg h1]
      have hg := hg.2 h1
      refine Ru.jn rfl h1 ?_
      refine Ru.step (pc' := 13) (ls' := [some (.inr (.inr (some 31))), some (.inl x0)]) (st' := [.inr (.inr (some 31))]) (h1 := hp L s c e) rfl ?_
      refine Ru.step (pc' := 16) (ls' := [some (.inr (.inr (some 31))), some (.inl x0)]) (st' := [.inr (.inr (some 37))]) (h1 := hp L s c e) rfl ?_
      refine Ru.step (pc' := 17) (ls' := [some (.inr (.inr (some 31))), some (.inl x0)]) (st' := [.inl x0, .inr (.inr (some 37))]) (h1 := hp L s c e) rfl ?_
      obtain ⟨⟨b1, b2⟩, hg⟩ := hg
      refine Ru.ald (f := fun t => t == 0) (j := x0) (a := 37) rfl rfl b1 b2 ?_
      refine Ru.step (pc' := 22) (ls' := [some (.inr (.inr (some 31))), some (.inl x0)]) (st' := [.inl (s 37 x0.toNat)]) (h1 := hp L s c e) rfl ?_
      exact Ru.done rfl
/-- MachineText$Names.ownerOf(I)I -/
def f_109 (x0 : Int) (s : Nat → Nat → Int) : Int := (if x0 < 0 then (-1) else (if s 31 7 ≤ x0 then (-1) else s 36 x0.toNat))
def g_109 (x0 : Int) (s : Nat → Nat → Int) : Prop := ((x0 < 0 → True) ∧ (¬ (x0 < 0) → ((s 31 7 ≤ x0 → True) ∧ (¬ (s 31 7 ≤ x0) → ((0 ≤ x0 ∧ x0 < 4112) ∧ True)))))
theorem ev_109 {L c : Nat} {s : Nat → Nat → Int} {e : Nat → Nat} (x0 : Int) (hg : g_109 x0 s) : Ev 1 109 [.inr (.inr (some 31)), .inl x0] (hp L s c e) (.inl (some (.inl (f_109 x0 s)))) (hp L s c e) := by
  unfold f_109
  unfold g_109 at hg
  refine Ev.of (μ := tb_m109) (ls := [some (.inr (.inr (some 31))), some (.inl x0)]) rfl (Nat.le_of_ble_eq_true rfl) rfl ?_
  refine Ru.step (pc' := 1) (ls' := [some (.inr (.inr (some 31))), some (.inl x0)]) (st' := [.inl x0]) (h1 := hp L s c e) rfl ?_
  by_cases h0 : x0 < 0
  · rw [if_pos h0]
    have hg := hg.1 h0
    refine Ru.jy rfl h0 ?_
    refine Ru.step (pc' := 22) (ls' := [some (.inr (.inr (some 31))), some (.inl x0)]) (st' := [.inl (-1)]) (h1 := hp L s c e) rfl ?_
    exact Ru.done rfl
  · rw [if_neg h0]
    have hg := hg.2 h0
    refine Ru.jn rfl h0 ?_
    refine Ru.step (pc' := 5) (ls' := [some (.inr (.inr (some 31))), some (.inl x0)]) (st' := [.inl x0]) (h1 := hp L s c e) rfl ?_
    refine Ru.step (pc' := 6) (ls' := [some (.inr (.inr (some 31))), some (.inl x0)]) (st' := [.inr (.inr (some 31)), .inl x0]) (h1 := hp L s c e) rfl ?_
    refine Ru.step (pc' := 9) (ls' := [some (.inr (.inr (some 31))), some (.inl x0)]) (st' := [.inl (s 31 7), .inl x0]) (h1 := hp L s c e) rfl ?_
    by_cases h1 : s 31 7 ≤ x0
    · rw [if_pos h1]
      have hg := hg.1 h1
      refine Ru.jy rfl h1 ?_
      refine Ru.step (pc' := 22) (ls' := [some (.inr (.inr (some 31))), some (.inl x0)]) (st' := [.inl (-1)]) (h1 := hp L s c e) rfl ?_
      exact Ru.done rfl
    · rw [if_neg h1]
      have hg := hg.2 h1
      refine Ru.jn rfl h1 ?_
      refine Ru.step (pc' := 13) (ls' := [some (.inr (.inr (some 31))), some (.inl x0)]) (st' := [.inr (.inr (some 31))]) (h1 := hp L s c e) rfl ?_
      refine Ru.step (pc' := 16) (ls' := [some (.inr (.inr (some 31))), some (.inl x0)]) (st' := [.inr (.inr (some 36))]) (h1 := hp L s c e) rfl ?_
      refine Ru.step (pc' := 17) (ls' := [some (.inr (.inr (some 31))), some (.inl x0)]) (st' := [.inl x0, .inr (.inr (some 36))]) (h1 := hp L s c e) rfl ?_
      obtain ⟨⟨b1, b2⟩, hg⟩ := hg
      refine Ru.ald (f := fun t => t == 0) (j := x0) (a := 36) rfl rfl b1 b2 ?_
      refine Ru.step (pc' := 22) (ls' := [some (.inr (.inr (some 31))), some (.inl x0)]) (st' := [.inl (s 36 x0.toNat)]) (h1 := hp L s c e) rfl ?_
      exact Ru.done rfl
/-- MachineText$Names.own(II)V -/
def f_110 (x0 x1 : Int) (s : Nat → Nat → Int) : Nat → Nat → Int := (if x0 < 0 then s else (if s 31 7 ≤ x0 then s else (ax_u2 s 36 x0.toNat x1)))
def g_110 (x0 x1 : Int) (s : Nat → Nat → Int) : Prop := ((x0 < 0 → True) ∧ (¬ (x0 < 0) → ((s 31 7 ≤ x0 → True) ∧ (¬ (s 31 7 ≤ x0) → ((0 ≤ x0 ∧ x0 < 4112) ∧ True)))))
theorem ev_110 {L c : Nat} {s : Nat → Nat → Int} {e : Nat → Nat} (x0 x1 : Int) (hg : g_110 x0 x1 s) : Ev 1 110 [.inr (.inr (some 31)), .inl x0, .inl x1] (hp L s c e) (.inl none) (hp L (f_110 x0 x1 s) c e) := by
  unfold f_110
  unfold g_110 at hg
  refine Ev.of (μ := tb_m110) (ls := [some (.inr (.inr (some 31))), some (.inl x0), some (.inl x1)]) rfl (Nat.le_of_ble_eq_true rfl) rfl ?_
  refine Ru.step (pc' := 1) (ls' := [some (.inr (.inr (some 31))), some (.inl x0), some (.inl x1)]) (st' := [.inl x0]) (h1 := hp L s c e) rfl ?_
  by_cases h0 : x0 < 0
  · rw [if_pos h0]
    have hg := hg.1 h0
    refine Ru.jy rfl h0 ?_
    exact Ru.done rfl
  · rw [if_neg h0]
    have hg := hg.2 h0
    refine Ru.jn rfl h0 ?_
    refine Ru.step (pc' := 5) (ls' := [some (.inr (.inr (some 31))), some (.inl x0), some (.inl x1)]) (st' := [.inl x0]) (h1 := hp L s c e) rfl ?_
    refine Ru.step (pc' := 6) (ls' := [some (.inr (.inr (some 31))), some (.inl x0), some (.inl x1)]) (st' := [.inr (.inr (some 31)), .inl x0]) (h1 := hp L s c e) rfl ?_
    refine Ru.step (pc' := 9) (ls' := [some (.inr (.inr (some 31))), some (.inl x0), some (.inl x1)]) (st' := [.inl (s 31 7), .inl x0]) (h1 := hp L s c e) rfl ?_
    by_cases h1 : s 31 7 ≤ x0
    · rw [if_pos h1]
      have hg := hg.1 h1
      refine Ru.jy rfl h1 ?_
      exact Ru.done rfl
    · rw [if_neg h1]
      have hg := hg.2 h1
      refine Ru.jn rfl h1 ?_
      refine Ru.step (pc' := 13) (ls' := [some (.inr (.inr (some 31))), some (.inl x0), some (.inl x1)]) (st' := [.inr (.inr (some 31))]) (h1 := hp L s c e) rfl ?_
      refine Ru.step (pc' := 16) (ls' := [some (.inr (.inr (some 31))), some (.inl x0), some (.inl x1)]) (st' := [.inr (.inr (some 36))]) (h1 := hp L s c e) rfl ?_
      refine Ru.step (pc' := 17) (ls' := [some (.inr (.inr (some 31))), some (.inl x0), some (.inl x1)]) (st' := [.inl x0, .inr (.inr (some 36))]) (h1 := hp L s c e) rfl ?_
      refine Ru.step (pc' := 18) (ls' := [some (.inr (.inr (some 31))), some (.inl x0), some (.inl x1)]) (st' := [.inl x1, .inl x0, .inr (.inr (some 36))]) (h1 := hp L s c e) rfl ?_
      obtain ⟨⟨b1, b2⟩, hg⟩ := hg
      refine Ru.ast (f := fun t => t == 0) (j := x0) (a := 36) rfl rfl (by decide) rfl rfl b1 b2 ?_
      exact Ru.done rfl
/-- MachineText$Names.added(JJI)I -/
def f_111 (x0 x1 x2 : Int) (s : Nat → Nat → Int) : Int × (Nat → Nat → Int) := (if 4112 ≤ s 31 7 then ((-1), s) else (if x2 < 0 then ((-1), s) else (if x2 < 8192 then (ax_w32 ((ax_w32 ((s 31 7) + 1)) - 1), (ax_u2 (ax_u2 (ax_u2 (ax_u2 (ax_u2 (ax_u2 (ax_u2 s 33 ((s 31 7).toNat) x2) 34 ((s 31 7).toNat) x0) 35 ((s 31 7).toNat) x1) 36 ((s 31 7).toNat) (-1)) 37 ((s 31 7).toNat) 0) 31 7 (ax_w32 ((s 31 7) + 1))) 32 x2.toNat (ax_w32 ((s 31 7) + 1)))) else ((-1), s))))
def g_111 (x0 x1 x2 : Int) (s : Nat → Nat → Int) : Prop := ((4112 ≤ s 31 7 → True) ∧ (¬ (4112 ≤ s 31 7) → ((x2 < 0 → True) ∧ (¬ (x2 < 0) → ((x2 < 8192 → ((0 ≤ s 31 7 ∧ s 31 7 < 4112) ∧ ((0 ≤ s 31 7 ∧ s 31 7 < 4112) ∧ ((0 ≤ s 31 7 ∧ s 31 7 < 4112) ∧ ((0 ≤ s 31 7 ∧ s 31 7 < 4112) ∧ ((0 ≤ s 31 7 ∧ s 31 7 < 4112) ∧ ((0 ≤ x2 ∧ x2 < 8192) ∧ True))))))) ∧ (¬ (x2 < 8192) → True))))))
theorem ev_111 {L c : Nat} {s : Nat → Nat → Int} {e : Nat → Nat} (x0 x1 x2 : Int) (hg : g_111 x0 x1 x2 s) : Ev 1 111 [.inr (.inr (some 31)), .inr (.inl x0), .inr (.inl x1), .inl x2] (hp L s c e) (.inl (some (.inl ((f_111 x0 x1 x2 s).1)))) (hp L (f_111 x0 x1 x2 s).2 c e) := by
  unfold f_111
  unfold g_111 at hg
  refine Ev.of (μ := tb_m111) (ls := [some (.inr (.inr (some 31))), some (.inr (.inl x0)), none, some (.inr (.inl x1)), none, some (.inl x2)]) rfl (Nat.le_of_ble_eq_true rfl) rfl ?_
  refine Ru.step (pc' := 1) (ls' := [some (.inr (.inr (some 31))), some (.inr (.inl x0)), none, some (.inr (.inl x1)), none, some (.inl x2)]) (st' := [.inr (.inr (some 31))]) (h1 := hp L s c e) rfl ?_
  refine Ru.step (pc' := 4) (ls' := [some (.inr (.inr (some 31))), some (.inr (.inl x0)), none, some (.inr (.inl x1)), none, some (.inl x2)]) (st' := [.inl (s 31 7)]) (h1 := hp L s c e) rfl ?_
  refine Ru.step (pc' := 7) (ls' := [some (.inr (.inr (some 31))), some (.inr (.inl x0)), none, some (.inr (.inl x1)), none, some (.inl x2)]) (st' := [.inl 4112, .inl (s 31 7)]) (h1 := hp L s c e) rfl ?_
  by_cases h0 : 4112 ≤ s 31 7
  · rw [if_pos h0]
    have hg := hg.1 h0
    refine Ru.jy rfl h0 ?_
    refine Ru.step (pc' := 24) (ls' := [some (.inr (.inr (some 31))), some (.inr (.inl x0)), none, some (.inr (.inl x1)), none, some (.inl x2)]) (st' := [.inl (-1)]) (h1 := hp L s c e) rfl ?_
    exact Ru.done rfl
  · rw [if_neg h0]
    have hg := hg.2 h0
    refine Ru.jn rfl h0 ?_
    refine Ru.step (pc' := 12) (ls' := [some (.inr (.inr (some 31))), some (.inr (.inl x0)), none, some (.inr (.inl x1)), none, some (.inl x2)]) (st' := [.inl x2]) (h1 := hp L s c e) rfl ?_
    by_cases h1 : x2 < 0
    · rw [if_pos h1]
      have hg := hg.1 h1
      refine Ru.jy rfl h1 ?_
      refine Ru.step (pc' := 24) (ls' := [some (.inr (.inr (some 31))), some (.inr (.inl x0)), none, some (.inr (.inl x1)), none, some (.inl x2)]) (st' := [.inl (-1)]) (h1 := hp L s c e) rfl ?_
      exact Ru.done rfl
    · rw [if_neg h1]
      have hg := hg.2 h1
      refine Ru.jn rfl h1 ?_
      refine Ru.step (pc' := 17) (ls' := [some (.inr (.inr (some 31))), some (.inr (.inl x0)), none, some (.inr (.inl x1)), none, some (.inl x2)]) (st' := [.inl x2]) (h1 := hp L s c e) rfl ?_
      refine Ru.step (pc' := 20) (ls' := [some (.inr (.inr (some 31))), some (.inr (.inl x0)), none, some (.inr (.inl x1)), none, some (.inl x2)]) (st' := [.inl 8192, .inl x2]) (h1 := hp L s c e) rfl ?_
      by_cases h2 : x2 < 8192
      · rw [if_pos h2]
        have hg := hg.1 h2
        refine Ru.jy rfl h2 ?_
        refine Ru.step (pc' := 26) (ls' := [some (.inr (.inr (some 31))), some (.inr (.inl x0)), none, some (.inr (.inl x1)), none, some (.inl x2)]) (st' := [.inr (.inr (some 31))]) (h1 := hp L s c e) rfl ?_
        refine Ru.step (pc' := 29) (ls' := [some (.inr (.inr (some 31))), some (.inr (.inl x0)), none, some (.inr (.inl x1)), none, some (.inl x2)]) (st' := [.inr (.inr (some 33))]) (h1 := hp L s c e) rfl ?_
        refine Ru.step (pc' := 30) (ls' := [some (.inr (.inr (some 31))), some (.inr (.inl x0)), none, some (.inr (.inl x1)), none, some (.inl x2)]) (st' := [.inr (.inr (some 31)), .inr (.inr (some 33))]) (h1 := hp L s c e) rfl ?_
        refine Ru.step (pc' := 33) (ls' := [some (.inr (.inr (some 31))), some (.inr (.inl x0)), none, some (.inr (.inl x1)), none, some (.inl x2)]) (st' := [.inl (s 31 7), .inr (.inr (some 33))]) (h1 := hp L s c e) rfl ?_
        refine Ru.step (pc' := 35) (ls' := [some (.inr (.inr (some 31))), some (.inr (.inl x0)), none, some (.inr (.inl x1)), none, some (.inl x2)]) (st' := [.inl x2, .inl (s 31 7), .inr (.inr (some 33))]) (h1 := hp L s c e) rfl ?_
        obtain ⟨⟨b1, b2⟩, hg⟩ := hg
        refine Ru.ast (f := fun t => t == 0) (j := s 31 7) (a := 33) rfl rfl (by decide) rfl rfl b1 b2 ?_
        refine Ru.step (pc' := 37) (ls' := [some (.inr (.inr (some 31))), some (.inr (.inl x0)), none, some (.inr (.inl x1)), none, some (.inl x2)]) (st' := [.inr (.inr (some 31))]) (h1 := hp L (ax_u2 s 33 ((s 31 7).toNat) x2) c e) rfl ?_
        refine Ru.step (pc' := 40) (ls' := [some (.inr (.inr (some 31))), some (.inr (.inl x0)), none, some (.inr (.inl x1)), none, some (.inl x2)]) (st' := [.inr (.inr (some 34))]) (h1 := hp L (ax_u2 s 33 ((s 31 7).toNat) x2) c e) rfl ?_
        refine Ru.step (pc' := 41) (ls' := [some (.inr (.inr (some 31))), some (.inr (.inl x0)), none, some (.inr (.inl x1)), none, some (.inl x2)]) (st' := [.inr (.inr (some 31)), .inr (.inr (some 34))]) (h1 := hp L (ax_u2 s 33 ((s 31 7).toNat) x2) c e) rfl ?_
        refine Ru.step (pc' := 44) (ls' := [some (.inr (.inr (some 31))), some (.inr (.inl x0)), none, some (.inr (.inl x1)), none, some (.inl x2)]) (st' := [.inl (s 31 7), .inr (.inr (some 34))]) (h1 := hp L (ax_u2 s 33 ((s 31 7).toNat) x2) c e) rfl ?_
        refine Ru.step (pc' := 45) (ls' := [some (.inr (.inr (some 31))), some (.inr (.inl x0)), none, some (.inr (.inl x1)), none, some (.inl x2)]) (st' := [.inr (.inl x0), .inl (s 31 7), .inr (.inr (some 34))]) (h1 := hp L (ax_u2 s 33 ((s 31 7).toNat) x2) c e) rfl ?_
        obtain ⟨⟨b1, b2⟩, hg⟩ := hg
        refine Ru.ast (f := fun t => t == 2) (j := s 31 7) (a := 34) rfl rfl (by decide) rfl rfl b1 b2 ?_
        refine Ru.step (pc' := 47) (ls' := [some (.inr (.inr (some 31))), some (.inr (.inl x0)), none, some (.inr (.inl x1)), none, some (.inl x2)]) (st' := [.inr (.inr (some 31))]) (h1 := hp L (ax_u2 (ax_u2 s 33 ((s 31 7).toNat) x2) 34 ((s 31 7).toNat) x0) c e) rfl ?_
        refine Ru.step (pc' := 50) (ls' := [some (.inr (.inr (some 31))), some (.inr (.inl x0)), none, some (.inr (.inl x1)), none, some (.inl x2)]) (st' := [.inr (.inr (some 35))]) (h1 := hp L (ax_u2 (ax_u2 s 33 ((s 31 7).toNat) x2) 34 ((s 31 7).toNat) x0) c e) rfl ?_
        refine Ru.step (pc' := 51) (ls' := [some (.inr (.inr (some 31))), some (.inr (.inl x0)), none, some (.inr (.inl x1)), none, some (.inl x2)]) (st' := [.inr (.inr (some 31)), .inr (.inr (some 35))]) (h1 := hp L (ax_u2 (ax_u2 s 33 ((s 31 7).toNat) x2) 34 ((s 31 7).toNat) x0) c e) rfl ?_
        refine Ru.step (pc' := 54) (ls' := [some (.inr (.inr (some 31))), some (.inr (.inl x0)), none, some (.inr (.inl x1)), none, some (.inl x2)]) (st' := [.inl (s 31 7), .inr (.inr (some 35))]) (h1 := hp L (ax_u2 (ax_u2 s 33 ((s 31 7).toNat) x2) 34 ((s 31 7).toNat) x0) c e) rfl ?_
        refine Ru.step (pc' := 55) (ls' := [some (.inr (.inr (some 31))), some (.inr (.inl x0)), none, some (.inr (.inl x1)), none, some (.inl x2)]) (st' := [.inr (.inl x1), .inl (s 31 7), .inr (.inr (some 35))]) (h1 := hp L (ax_u2 (ax_u2 s 33 ((s 31 7).toNat) x2) 34 ((s 31 7).toNat) x0) c e) rfl ?_
        obtain ⟨⟨b1, b2⟩, hg⟩ := hg
        refine Ru.ast (f := fun t => t == 2) (j := s 31 7) (a := 35) rfl rfl (by decide) rfl rfl b1 b2 ?_
        refine Ru.step (pc' := 57) (ls' := [some (.inr (.inr (some 31))), some (.inr (.inl x0)), none, some (.inr (.inl x1)), none, some (.inl x2)]) (st' := [.inr (.inr (some 31))]) (h1 := hp L (ax_u2 (ax_u2 (ax_u2 s 33 ((s 31 7).toNat) x2) 34 ((s 31 7).toNat) x0) 35 ((s 31 7).toNat) x1) c e) rfl ?_
        refine Ru.step (pc' := 60) (ls' := [some (.inr (.inr (some 31))), some (.inr (.inl x0)), none, some (.inr (.inl x1)), none, some (.inl x2)]) (st' := [.inr (.inr (some 36))]) (h1 := hp L (ax_u2 (ax_u2 (ax_u2 s 33 ((s 31 7).toNat) x2) 34 ((s 31 7).toNat) x0) 35 ((s 31 7).toNat) x1) c e) rfl ?_
        refine Ru.step (pc' := 61) (ls' := [some (.inr (.inr (some 31))), some (.inr (.inl x0)), none, some (.inr (.inl x1)), none, some (.inl x2)]) (st' := [.inr (.inr (some 31)), .inr (.inr (some 36))]) (h1 := hp L (ax_u2 (ax_u2 (ax_u2 s 33 ((s 31 7).toNat) x2) 34 ((s 31 7).toNat) x0) 35 ((s 31 7).toNat) x1) c e) rfl ?_
        refine Ru.step (pc' := 64) (ls' := [some (.inr (.inr (some 31))), some (.inr (.inl x0)), none, some (.inr (.inl x1)), none, some (.inl x2)]) (st' := [.inl (s 31 7), .inr (.inr (some 36))]) (h1 := hp L (ax_u2 (ax_u2 (ax_u2 s 33 ((s 31 7).toNat) x2) 34 ((s 31 7).toNat) x0) 35 ((s 31 7).toNat) x1) c e) rfl ?_
        refine Ru.step (pc' := 65) (ls' := [some (.inr (.inr (some 31))), some (.inr (.inl x0)), none, some (.inr (.inl x1)), none, some (.inl x2)]) (st' := [.inl (-1), .inl (s 31 7), .inr (.inr (some 36))]) (h1 := hp L (ax_u2 (ax_u2 (ax_u2 s 33 ((s 31 7).toNat) x2) 34 ((s 31 7).toNat) x0) 35 ((s 31 7).toNat) x1) c e) rfl ?_
        obtain ⟨⟨b1, b2⟩, hg⟩ := hg
        refine Ru.ast (f := fun t => t == 0) (j := s 31 7) (a := 36) rfl rfl (by decide) rfl rfl b1 b2 ?_
        refine Ru.step (pc' := 67) (ls' := [some (.inr (.inr (some 31))), some (.inr (.inl x0)), none, some (.inr (.inl x1)), none, some (.inl x2)]) (st' := [.inr (.inr (some 31))]) (h1 := hp L (ax_u2 (ax_u2 (ax_u2 (ax_u2 s 33 ((s 31 7).toNat) x2) 34 ((s 31 7).toNat) x0) 35 ((s 31 7).toNat) x1) 36 ((s 31 7).toNat) (-1)) c e) rfl ?_
        refine Ru.step (pc' := 70) (ls' := [some (.inr (.inr (some 31))), some (.inr (.inl x0)), none, some (.inr (.inl x1)), none, some (.inl x2)]) (st' := [.inr (.inr (some 37))]) (h1 := hp L (ax_u2 (ax_u2 (ax_u2 (ax_u2 s 33 ((s 31 7).toNat) x2) 34 ((s 31 7).toNat) x0) 35 ((s 31 7).toNat) x1) 36 ((s 31 7).toNat) (-1)) c e) rfl ?_
        refine Ru.step (pc' := 71) (ls' := [some (.inr (.inr (some 31))), some (.inr (.inl x0)), none, some (.inr (.inl x1)), none, some (.inl x2)]) (st' := [.inr (.inr (some 31)), .inr (.inr (some 37))]) (h1 := hp L (ax_u2 (ax_u2 (ax_u2 (ax_u2 s 33 ((s 31 7).toNat) x2) 34 ((s 31 7).toNat) x0) 35 ((s 31 7).toNat) x1) 36 ((s 31 7).toNat) (-1)) c e) rfl ?_
        refine Ru.step (pc' := 74) (ls' := [some (.inr (.inr (some 31))), some (.inr (.inl x0)), none, some (.inr (.inl x1)), none, some (.inl x2)]) (st' := [.inl (s 31 7), .inr (.inr (some 37))]) (h1 := hp L (ax_u2 (ax_u2 (ax_u2 (ax_u2 s 33 ((s 31 7).toNat) x2) 34 ((s 31 7).toNat) x0) 35 ((s 31 7).toNat) x1) 36 ((s 31 7).toNat) (-1)) c e) rfl ?_
        refine Ru.step (pc' := 75) (ls' := [some (.inr (.inr (some 31))), some (.inr (.inl x0)), none, some (.inr (.inl x1)), none, some (.inl x2)]) (st' := [.inl 0, .inl (s 31 7), .inr (.inr (some 37))]) (h1 := hp L (ax_u2 (ax_u2 (ax_u2 (ax_u2 s 33 ((s 31 7).toNat) x2) 34 ((s 31 7).toNat) x0) 35 ((s 31 7).toNat) x1) 36 ((s 31 7).toNat) (-1)) c e) rfl ?_
        obtain ⟨⟨b1, b2⟩, hg⟩ := hg
        refine Ru.ast (f := fun t => t == 0) (j := s 31 7) (a := 37) rfl rfl (by decide) rfl rfl b1 b2 ?_
        refine Ru.step (pc' := 77) (ls' := [some (.inr (.inr (some 31))), some (.inr (.inl x0)), none, some (.inr (.inl x1)), none, some (.inl x2)]) (st' := [.inr (.inr (some 31))]) (h1 := hp L (ax_u2 (ax_u2 (ax_u2 (ax_u2 (ax_u2 s 33 ((s 31 7).toNat) x2) 34 ((s 31 7).toNat) x0) 35 ((s 31 7).toNat) x1) 36 ((s 31 7).toNat) (-1)) 37 ((s 31 7).toNat) 0) c e) rfl ?_
        refine Ru.step (pc' := 78) (ls' := [some (.inr (.inr (some 31))), some (.inr (.inl x0)), none, some (.inr (.inl x1)), none, some (.inl x2)]) (st' := [.inr (.inr (some 31)), .inr (.inr (some 31))]) (h1 := hp L (ax_u2 (ax_u2 (ax_u2 (ax_u2 (ax_u2 s 33 ((s 31 7).toNat) x2) 34 ((s 31 7).toNat) x0) 35 ((s 31 7).toNat) x1) 36 ((s 31 7).toNat) (-1)) 37 ((s 31 7).toNat) 0) c e) rfl ?_
        refine Ru.step (pc' := 81) (ls' := [some (.inr (.inr (some 31))), some (.inr (.inl x0)), none, some (.inr (.inl x1)), none, some (.inl x2)]) (st' := [.inl (s 31 7), .inr (.inr (some 31))]) (h1 := hp L (ax_u2 (ax_u2 (ax_u2 (ax_u2 (ax_u2 s 33 ((s 31 7).toNat) x2) 34 ((s 31 7).toNat) x0) 35 ((s 31 7).toNat) x1) 36 ((s 31 7).toNat) (-1)) 37 ((s 31 7).toNat) 0) c e) rfl ?_
        refine Ru.step (pc' := 82) (ls' := [some (.inr (.inr (some 31))), some (.inr (.inl x0)), none, some (.inr (.inl x1)), none, some (.inl x2)]) (st' := [.inl 1, .inl (s 31 7), .inr (.inr (some 31))]) (h1 := hp L (ax_u2 (ax_u2 (ax_u2 (ax_u2 (ax_u2 s 33 ((s 31 7).toNat) x2) 34 ((s 31 7).toNat) x0) 35 ((s 31 7).toNat) x1) 36 ((s 31 7).toNat) (-1)) 37 ((s 31 7).toNat) 0) c e) rfl ?_
        refine Ru.step (pc' := 83) (ls' := [some (.inr (.inr (some 31))), some (.inr (.inl x0)), none, some (.inr (.inl x1)), none, some (.inl x2)]) (st' := [.inl (ax_w32 ((s 31 7) + 1)), .inr (.inr (some 31))]) (h1 := hp L (ax_u2 (ax_u2 (ax_u2 (ax_u2 (ax_u2 s 33 ((s 31 7).toNat) x2) 34 ((s 31 7).toNat) x0) 35 ((s 31 7).toNat) x1) 36 ((s 31 7).toNat) (-1)) 37 ((s 31 7).toNat) 0) c e) rfl ?_
        refine Ru.step (pc' := 86) (ls' := [some (.inr (.inr (some 31))), some (.inr (.inl x0)), none, some (.inr (.inl x1)), none, some (.inl x2)]) (st' := []) (h1 := hp L (ax_u2 (ax_u2 (ax_u2 (ax_u2 (ax_u2 (ax_u2 s 33 ((s 31 7).toNat) x2) 34 ((s 31 7).toNat) x0) 35 ((s 31 7).toNat) x1) 36 ((s 31 7).toNat) (-1)) 37 ((s 31 7).toNat) 0) 31 7 (ax_w32 ((s 31 7) + 1))) c e) rfl ?_
        refine Ru.step (pc' := 87) (ls' := [some (.inr (.inr (some 31))), some (.inr (.inl x0)), none, some (.inr (.inl x1)), none, some (.inl x2)]) (st' := [.inr (.inr (some 31))]) (h1 := hp L (ax_u2 (ax_u2 (ax_u2 (ax_u2 (ax_u2 (ax_u2 s 33 ((s 31 7).toNat) x2) 34 ((s 31 7).toNat) x0) 35 ((s 31 7).toNat) x1) 36 ((s 31 7).toNat) (-1)) 37 ((s 31 7).toNat) 0) 31 7 (ax_w32 ((s 31 7) + 1))) c e) rfl ?_
        refine Ru.step (pc' := 90) (ls' := [some (.inr (.inr (some 31))), some (.inr (.inl x0)), none, some (.inr (.inl x1)), none, some (.inl x2)]) (st' := [.inr (.inr (some 32))]) (h1 := hp L (ax_u2 (ax_u2 (ax_u2 (ax_u2 (ax_u2 (ax_u2 s 33 ((s 31 7).toNat) x2) 34 ((s 31 7).toNat) x0) 35 ((s 31 7).toNat) x1) 36 ((s 31 7).toNat) (-1)) 37 ((s 31 7).toNat) 0) 31 7 (ax_w32 ((s 31 7) + 1))) c e) rfl ?_
        refine Ru.step (pc' := 92) (ls' := [some (.inr (.inr (some 31))), some (.inr (.inl x0)), none, some (.inr (.inl x1)), none, some (.inl x2)]) (st' := [.inl x2, .inr (.inr (some 32))]) (h1 := hp L (ax_u2 (ax_u2 (ax_u2 (ax_u2 (ax_u2 (ax_u2 s 33 ((s 31 7).toNat) x2) 34 ((s 31 7).toNat) x0) 35 ((s 31 7).toNat) x1) 36 ((s 31 7).toNat) (-1)) 37 ((s 31 7).toNat) 0) 31 7 (ax_w32 ((s 31 7) + 1))) c e) rfl ?_
        refine Ru.step (pc' := 93) (ls' := [some (.inr (.inr (some 31))), some (.inr (.inl x0)), none, some (.inr (.inl x1)), none, some (.inl x2)]) (st' := [.inr (.inr (some 31)), .inl x2, .inr (.inr (some 32))]) (h1 := hp L (ax_u2 (ax_u2 (ax_u2 (ax_u2 (ax_u2 (ax_u2 s 33 ((s 31 7).toNat) x2) 34 ((s 31 7).toNat) x0) 35 ((s 31 7).toNat) x1) 36 ((s 31 7).toNat) (-1)) 37 ((s 31 7).toNat) 0) 31 7 (ax_w32 ((s 31 7) + 1))) c e) rfl ?_
        refine Ru.step (pc' := 96) (ls' := [some (.inr (.inr (some 31))), some (.inr (.inl x0)), none, some (.inr (.inl x1)), none, some (.inl x2)]) (st' := [.inl (ax_w32 ((s 31 7) + 1)), .inl x2, .inr (.inr (some 32))]) (h1 := hp L (ax_u2 (ax_u2 (ax_u2 (ax_u2 (ax_u2 (ax_u2 s 33 ((s 31 7).toNat) x2) 34 ((s 31 7).toNat) x0) 35 ((s 31 7).toNat) x1) 36 ((s 31 7).toNat) (-1)) 37 ((s 31 7).toNat) 0) 31 7 (ax_w32 ((s 31 7) + 1))) c e) rfl ?_
        obtain ⟨⟨b1, b2⟩, hg⟩ := hg
        refine Ru.ast (f := fun t => t == 0) (j := x2) (a := 32) rfl rfl (by decide) rfl rfl b1 b2 ?_
        refine Ru.step (pc' := 98) (ls' := [some (.inr (.inr (some 31))), some (.inr (.inl x0)), none, some (.inr (.inl x1)), none, some (.inl x2)]) (st' := [.inr (.inr (some 31))]) (h1 := hp L (ax_u2 (ax_u2 (ax_u2 (ax_u2 (ax_u2 (ax_u2 (ax_u2 s 33 ((s 31 7).toNat) x2) 34 ((s 31 7).toNat) x0) 35 ((s 31 7).toNat) x1) 36 ((s 31 7).toNat) (-1)) 37 ((s 31 7).toNat) 0) 31 7 (ax_w32 ((s 31 7) + 1))) 32 x2.toNat (ax_w32 ((s 31 7) + 1))) c e) rfl ?_
        refine Ru.step (pc' := 101) (ls' := [some (.inr (.inr (some 31))), some (.inr (.inl x0)), none, some (.inr (.inl x1)), none, some (.inl x2)]) (st' := [.inl (ax_w32 ((s 31 7) + 1))]) (h1 := hp L (ax_u2 (ax_u2 (ax_u2 (ax_u2 (ax_u2 (ax_u2 (ax_u2 s 33 ((s 31 7).toNat) x2) 34 ((s 31 7).toNat) x0) 35 ((s 31 7).toNat) x1) 36 ((s 31 7).toNat) (-1)) 37 ((s 31 7).toNat) 0) 31 7 (ax_w32 ((s 31 7) + 1))) 32 x2.toNat (ax_w32 ((s 31 7) + 1))) c e) rfl ?_
        refine Ru.step (pc' := 102) (ls' := [some (.inr (.inr (some 31))), some (.inr (.inl x0)), none, some (.inr (.inl x1)), none, some (.inl x2)]) (st' := [.inl 1, .inl (ax_w32 ((s 31 7) + 1))]) (h1 := hp L (ax_u2 (ax_u2 (ax_u2 (ax_u2 (ax_u2 (ax_u2 (ax_u2 s 33 ((s 31 7).toNat) x2) 34 ((s 31 7).toNat) x0) 35 ((s 31 7).toNat) x1) 36 ((s 31 7).toNat) (-1)) 37 ((s 31 7).toNat) 0) 31 7 (ax_w32 ((s 31 7) + 1))) 32 x2.toNat (ax_w32 ((s 31 7) + 1))) c e) rfl ?_
        refine Ru.step (pc' := 103) (ls' := [some (.inr (.inr (some 31))), some (.inr (.inl x0)), none, some (.inr (.inl x1)), none, some (.inl x2)]) (st' := [.inl (ax_w32 ((ax_w32 ((s 31 7) + 1)) - 1))]) (h1 := hp L (ax_u2 (ax_u2 (ax_u2 (ax_u2 (ax_u2 (ax_u2 (ax_u2 s 33 ((s 31 7).toNat) x2) 34 ((s 31 7).toNat) x0) 35 ((s 31 7).toNat) x1) 36 ((s 31 7).toNat) (-1)) 37 ((s 31 7).toNat) 0) 31 7 (ax_w32 ((s 31 7) + 1))) 32 x2.toNat (ax_w32 ((s 31 7) + 1))) c e) rfl ?_
        exact Ru.done rfl
      · rw [if_neg h2]
        have hg := hg.2 h2
        refine Ru.jn rfl h2 ?_
        refine Ru.step (pc' := 24) (ls' := [some (.inr (.inr (some 31))), some (.inr (.inl x0)), none, some (.inr (.inl x1)), none, some (.inl x2)]) (st' := [.inl (-1)]) (h1 := hp L s c e) rfl ?_
        exact Ru.done rfl
/-- MachineText$Nodes.clear()V -/
def f_113 (s : Nat → Nat → Int) : Nat → Nat → Int := (ax_u2 s 46 7 0)
theorem ev_113 {L c : Nat} {s : Nat → Nat → Int} {e : Nat → Nat} : Ev 1 113 [.inr (.inr (some 46))] (hp L s c e) (.inl none) (hp L (f_113 s) c e) := by
  unfold f_113
  refine Ev.of (μ := tb_m113) (ls := [some (.inr (.inr (some 46)))]) rfl (Nat.le_of_ble_eq_true rfl) rfl ?_
  refine Ru.step (pc' := 1) (ls' := [some (.inr (.inr (some 46)))]) (st' := [.inr (.inr (some 46))]) (h1 := hp L s c e) rfl ?_
  refine Ru.step (pc' := 2) (ls' := [some (.inr (.inr (some 46)))]) (st' := [.inl 0, .inr (.inr (some 46))]) (h1 := hp L s c e) rfl ?_
  refine Ru.step (pc' := 5) (ls' := [some (.inr (.inr (some 46)))]) (st' := []) (h1 := hp L (ax_u2 s 46 7 0) c e) rfl ?_
  exact Ru.done rfl
/-- MachineText$Nodes.has(I)Z -/
def f_114 (x0 : Int) (s : Nat → Nat → Int) : Int := (if x0 < 0 then 0 else (if s 46 7 ≤ x0 then 0 else 1))
theorem ev_114 {L c : Nat} {s : Nat → Nat → Int} {e : Nat → Nat} (x0 : Int) : Ev 1 114 [.inr (.inr (some 46)), .inl x0] (hp L s c e) (.inl (some (.inl (f_114 x0 s)))) (hp L s c e) := by
  unfold f_114
  refine Ev.of (μ := tb_m114) (ls := [some (.inr (.inr (some 46))), some (.inl x0)]) rfl (Nat.le_of_ble_eq_true rfl) rfl ?_
  refine Ru.step (pc' := 1) (ls' := [some (.inr (.inr (some 46))), some (.inl x0)]) (st' := [.inl x0]) (h1 := hp L s c e) rfl ?_
  by_cases h0 : x0 < 0
  · rw [if_pos h0]
    refine Ru.jy rfl h0 ?_
    refine Ru.step (pc' := 17) (ls' := [some (.inr (.inr (some 46))), some (.inl x0)]) (st' := [.inl 0]) (h1 := hp L s c e) rfl ?_
    exact Ru.done rfl
  · rw [if_neg h0]
    refine Ru.jn rfl h0 ?_
    refine Ru.step (pc' := 5) (ls' := [some (.inr (.inr (some 46))), some (.inl x0)]) (st' := [.inl x0]) (h1 := hp L s c e) rfl ?_
    refine Ru.step (pc' := 6) (ls' := [some (.inr (.inr (some 46))), some (.inl x0)]) (st' := [.inr (.inr (some 46)), .inl x0]) (h1 := hp L s c e) rfl ?_
    refine Ru.step (pc' := 9) (ls' := [some (.inr (.inr (some 46))), some (.inl x0)]) (st' := [.inl (s 46 7), .inl x0]) (h1 := hp L s c e) rfl ?_
    by_cases h1 : s 46 7 ≤ x0
    · rw [if_pos h1]
      refine Ru.jy rfl h1 ?_
      refine Ru.step (pc' := 17) (ls' := [some (.inr (.inr (some 46))), some (.inl x0)]) (st' := [.inl 0]) (h1 := hp L s c e) rfl ?_
      exact Ru.done rfl
    · rw [if_neg h1]
      refine Ru.jn rfl h1 ?_
      refine Ru.step (pc' := 13) (ls' := [some (.inr (.inr (some 46))), some (.inl x0)]) (st' := [.inl 1]) (h1 := hp L s c e) rfl ?_
      refine Ru.step (pc' := 17) (ls' := [some (.inr (.inr (some 46))), some (.inl x0)]) (st' := [.inl 1]) (h1 := hp L s c e) rfl ?_
      exact Ru.done rfl
/-- MachineText$Nodes.numberOf(I)I -/
def f_115 (x0 : Int) (s : Nat → Nat → Int) : Int := (if f_114 x0 s = 0 then (-1) else s 49 x0.toNat)
def g_115 (x0 : Int) (s : Nat → Nat → Int) : Prop := ((f_114 x0 s = 0 → True) ∧ (¬ (f_114 x0 s = 0) → ((0 ≤ x0 ∧ x0 < 8192) ∧ True)))
theorem ev_115 {L c : Nat} {s : Nat → Nat → Int} {e : Nat → Nat} (x0 : Int) (hg : g_115 x0 s) : Ev 2 115 [.inr (.inr (some 46)), .inl x0] (hp L s c e) (.inl (some (.inl (f_115 x0 s)))) (hp L s c e) := by
  unfold f_115
  unfold g_115 at hg
  refine Ev.of (μ := tb_m115) (ls := [some (.inr (.inr (some 46))), some (.inl x0)]) rfl (Nat.le_of_ble_eq_true rfl) rfl ?_
  refine Ru.step (pc' := 1) (ls' := [some (.inr (.inr (some 46))), some (.inl x0)]) (st' := [.inr (.inr (some 46))]) (h1 := hp L s c e) rfl ?_
  refine Ru.step (pc' := 2) (ls' := [some (.inr (.inr (some 46))), some (.inl x0)]) (st' := [.inl x0, .inr (.inr (some 46))]) (h1 := hp L s c e) rfl ?_
  refine Ru.call rfl ((ev_114 x0).up (by decide)) ?_
  by_cases h0 : f_114 x0 s = 0
  · rw [if_pos h0]
    have hg := hg.1 h0
    refine Ru.jy rfl h0 ?_
    refine Ru.step (pc' := 18) (ls' := [some (.inr (.inr (some 46))), some (.inl x0)]) (st' := [.inl (-1)]) (h1 := hp L s c e) rfl ?_
    exact Ru.done rfl
  · rw [if_neg h0]
    have hg := hg.2 h0
    refine Ru.jn rfl h0 ?_
    refine Ru.step (pc' := 9) (ls' := [some (.inr (.inr (some 46))), some (.inl x0)]) (st' := [.inr (.inr (some 46))]) (h1 := hp L s c e) rfl ?_
    refine Ru.step (pc' := 12) (ls' := [some (.inr (.inr (some 46))), some (.inl x0)]) (st' := [.inr (.inr (some 49))]) (h1 := hp L s c e) rfl ?_
    refine Ru.step (pc' := 13) (ls' := [some (.inr (.inr (some 46))), some (.inl x0)]) (st' := [.inl x0, .inr (.inr (some 49))]) (h1 := hp L s c e) rfl ?_
    obtain ⟨⟨b1, b2⟩, hg⟩ := hg
    refine Ru.ald (f := fun t => t == 0) (j := x0) (a := 49) rfl rfl b1 b2 ?_
    refine Ru.step (pc' := 18) (ls' := [some (.inr (.inr (some 46))), some (.inl x0)]) (st' := [.inl (s 49 x0.toNat)]) (h1 := hp L s c e) rfl ?_
    exact Ru.done rfl
/-- MachineText$Nodes.kindOf(I)I -/
def f_116 (x0 : Int) (s : Nat → Nat → Int) : Int := (if f_114 x0 s = 0 then (-1) else s 47 x0.toNat)
def g_116 (x0 : Int) (s : Nat → Nat → Int) : Prop := ((f_114 x0 s = 0 → True) ∧ (¬ (f_114 x0 s = 0) → ((0 ≤ x0 ∧ x0 < 8192) ∧ True)))
theorem ev_116 {L c : Nat} {s : Nat → Nat → Int} {e : Nat → Nat} (x0 : Int) (hg : g_116 x0 s) : Ev 2 116 [.inr (.inr (some 46)), .inl x0] (hp L s c e) (.inl (some (.inl (f_116 x0 s)))) (hp L s c e) := by
  unfold f_116
  unfold g_116 at hg
  refine Ev.of (μ := tb_m116) (ls := [some (.inr (.inr (some 46))), some (.inl x0)]) rfl (Nat.le_of_ble_eq_true rfl) rfl ?_
  refine Ru.step (pc' := 1) (ls' := [some (.inr (.inr (some 46))), some (.inl x0)]) (st' := [.inr (.inr (some 46))]) (h1 := hp L s c e) rfl ?_
  refine Ru.step (pc' := 2) (ls' := [some (.inr (.inr (some 46))), some (.inl x0)]) (st' := [.inl x0, .inr (.inr (some 46))]) (h1 := hp L s c e) rfl ?_
  refine Ru.call rfl ((ev_114 x0).up (by decide)) ?_
  by_cases h0 : f_114 x0 s = 0
  · rw [if_pos h0]
    have hg := hg.1 h0
    refine Ru.jy rfl h0 ?_
    refine Ru.step (pc' := 18) (ls' := [some (.inr (.inr (some 46))), some (.inl x0)]) (st' := [.inl (-1)]) (h1 := hp L s c e) rfl ?_
    exact Ru.done rfl
  · rw [if_neg h0]
    have hg := hg.2 h0
    refine Ru.jn rfl h0 ?_
    refine Ru.step (pc' := 9) (ls' := [some (.inr (.inr (some 46))), some (.inl x0)]) (st' := [.inr (.inr (some 46))]) (h1 := hp L s c e) rfl ?_
    refine Ru.step (pc' := 12) (ls' := [some (.inr (.inr (some 46))), some (.inl x0)]) (st' := [.inr (.inr (some 47))]) (h1 := hp L s c e) rfl ?_
    refine Ru.step (pc' := 13) (ls' := [some (.inr (.inr (some 46))), some (.inl x0)]) (st' := [.inl x0, .inr (.inr (some 47))]) (h1 := hp L s c e) rfl ?_
    obtain ⟨⟨b1, b2⟩, hg⟩ := hg
    refine Ru.ald (f := fun t => t == 0) (j := x0) (a := 47) rfl rfl b1 b2 ?_
    refine Ru.step (pc' := 18) (ls' := [some (.inr (.inr (some 46))), some (.inl x0)]) (st' := [.inl (s 47 x0.toNat)]) (h1 := hp L s c e) rfl ?_
    exact Ru.done rfl
/-- MachineText$Nodes.widthOf(I)I -/
def f_117 (x0 : Int) (s : Nat → Nat → Int) : Int := (if f_114 x0 s = 0 then 0 else s 48 x0.toNat)
def g_117 (x0 : Int) (s : Nat → Nat → Int) : Prop := ((f_114 x0 s = 0 → True) ∧ (¬ (f_114 x0 s = 0) → ((0 ≤ x0 ∧ x0 < 8192) ∧ True)))
theorem ev_117 {L c : Nat} {s : Nat → Nat → Int} {e : Nat → Nat} (x0 : Int) (hg : g_117 x0 s) : Ev 2 117 [.inr (.inr (some 46)), .inl x0] (hp L s c e) (.inl (some (.inl (f_117 x0 s)))) (hp L s c e) := by
  unfold f_117
  unfold g_117 at hg
  refine Ev.of (μ := tb_m117) (ls := [some (.inr (.inr (some 46))), some (.inl x0)]) rfl (Nat.le_of_ble_eq_true rfl) rfl ?_
  refine Ru.step (pc' := 1) (ls' := [some (.inr (.inr (some 46))), some (.inl x0)]) (st' := [.inr (.inr (some 46))]) (h1 := hp L s c e) rfl ?_
  refine Ru.step (pc' := 2) (ls' := [some (.inr (.inr (some 46))), some (.inl x0)]) (st' := [.inl x0, .inr (.inr (some 46))]) (h1 := hp L s c e) rfl ?_
  refine Ru.call rfl ((ev_114 x0).up (by decide)) ?_
  by_cases h0 : f_114 x0 s = 0
  · rw [if_pos h0]
    have hg := hg.1 h0
    refine Ru.jy rfl h0 ?_
    refine Ru.step (pc' := 18) (ls' := [some (.inr (.inr (some 46))), some (.inl x0)]) (st' := [.inl 0]) (h1 := hp L s c e) rfl ?_
    exact Ru.done rfl
  · rw [if_neg h0]
    have hg := hg.2 h0
    refine Ru.jn rfl h0 ?_
    refine Ru.step (pc' := 9) (ls' := [some (.inr (.inr (some 46))), some (.inl x0)]) (st' := [.inr (.inr (some 46))]) (h1 := hp L s c e) rfl ?_
    refine Ru.step (pc' := 12) (ls' := [some (.inr (.inr (some 46))), some (.inl x0)]) (st' := [.inr (.inr (some 48))]) (h1 := hp L s c e) rfl ?_
    refine Ru.step (pc' := 13) (ls' := [some (.inr (.inr (some 46))), some (.inl x0)]) (st' := [.inl x0, .inr (.inr (some 48))]) (h1 := hp L s c e) rfl ?_
    obtain ⟨⟨b1, b2⟩, hg⟩ := hg
    refine Ru.ald (f := fun t => t == 0) (j := x0) (a := 48) rfl rfl b1 b2 ?_
    refine Ru.step (pc' := 18) (ls' := [some (.inr (.inr (some 46))), some (.inl x0)]) (st' := [.inl (s 48 x0.toNat)]) (h1 := hp L s c e) rfl ?_
    exact Ru.done rfl
/-- MachineText$Nodes.partsOf(I)I -/
def f_118 (x0 : Int) (s : Nat → Nat → Int) : Int := (if f_114 x0 s = 0 then 0 else s 53 x0.toNat)
def g_118 (x0 : Int) (s : Nat → Nat → Int) : Prop := ((f_114 x0 s = 0 → True) ∧ (¬ (f_114 x0 s = 0) → ((0 ≤ x0 ∧ x0 < 8192) ∧ True)))
theorem ev_118 {L c : Nat} {s : Nat → Nat → Int} {e : Nat → Nat} (x0 : Int) (hg : g_118 x0 s) : Ev 2 118 [.inr (.inr (some 46)), .inl x0] (hp L s c e) (.inl (some (.inl (f_118 x0 s)))) (hp L s c e) := by
  unfold f_118
  unfold g_118 at hg
  refine Ev.of (μ := tb_m118) (ls := [some (.inr (.inr (some 46))), some (.inl x0)]) rfl (Nat.le_of_ble_eq_true rfl) rfl ?_
  refine Ru.step (pc' := 1) (ls' := [some (.inr (.inr (some 46))), some (.inl x0)]) (st' := [.inr (.inr (some 46))]) (h1 := hp L s c e) rfl ?_
  refine Ru.step (pc' := 2) (ls' := [some (.inr (.inr (some 46))), some (.inl x0)]) (st' := [.inl x0, .inr (.inr (some 46))]) (h1 := hp L s c e) rfl ?_
  refine Ru.call rfl ((ev_114 x0).up (by decide)) ?_
  by_cases h0 : f_114 x0 s = 0
  · rw [if_pos h0]
    have hg := hg.1 h0
    refine Ru.jy rfl h0 ?_
    refine Ru.step (pc' := 18) (ls' := [some (.inr (.inr (some 46))), some (.inl x0)]) (st' := [.inl 0]) (h1 := hp L s c e) rfl ?_
    exact Ru.done rfl
  · rw [if_neg h0]
    have hg := hg.2 h0
    refine Ru.jn rfl h0 ?_
    refine Ru.step (pc' := 9) (ls' := [some (.inr (.inr (some 46))), some (.inl x0)]) (st' := [.inr (.inr (some 46))]) (h1 := hp L s c e) rfl ?_
    refine Ru.step (pc' := 12) (ls' := [some (.inr (.inr (some 46))), some (.inl x0)]) (st' := [.inr (.inr (some 53))]) (h1 := hp L s c e) rfl ?_
    refine Ru.step (pc' := 13) (ls' := [some (.inr (.inr (some 46))), some (.inl x0)]) (st' := [.inl x0, .inr (.inr (some 53))]) (h1 := hp L s c e) rfl ?_
    obtain ⟨⟨b1, b2⟩, hg⟩ := hg
    refine Ru.ald (f := fun t => t == 0) (j := x0) (a := 53) rfl rfl b1 b2 ?_
    refine Ru.step (pc' := 18) (ls' := [some (.inr (.inr (some 46))), some (.inl x0)]) (st' := [.inl (s 53 x0.toNat)]) (h1 := hp L s c e) rfl ?_
    exact Ru.done rfl
/-- MachineText$Nodes.firstOf(I)I -/
def f_120 (x0 : Int) (s : Nat → Nat → Int) : Int := (if f_114 x0 s = 0 then (-1) else s 51 x0.toNat)
def g_120 (x0 : Int) (s : Nat → Nat → Int) : Prop := ((f_114 x0 s = 0 → True) ∧ (¬ (f_114 x0 s = 0) → ((0 ≤ x0 ∧ x0 < 8192) ∧ True)))
theorem ev_120 {L c : Nat} {s : Nat → Nat → Int} {e : Nat → Nat} (x0 : Int) (hg : g_120 x0 s) : Ev 2 120 [.inr (.inr (some 46)), .inl x0] (hp L s c e) (.inl (some (.inl (f_120 x0 s)))) (hp L s c e) := by
  unfold f_120
  unfold g_120 at hg
  refine Ev.of (μ := tb_m120) (ls := [some (.inr (.inr (some 46))), some (.inl x0)]) rfl (Nat.le_of_ble_eq_true rfl) rfl ?_
  refine Ru.step (pc' := 1) (ls' := [some (.inr (.inr (some 46))), some (.inl x0)]) (st' := [.inr (.inr (some 46))]) (h1 := hp L s c e) rfl ?_
  refine Ru.step (pc' := 2) (ls' := [some (.inr (.inr (some 46))), some (.inl x0)]) (st' := [.inl x0, .inr (.inr (some 46))]) (h1 := hp L s c e) rfl ?_
  refine Ru.call rfl ((ev_114 x0).up (by decide)) ?_
  by_cases h0 : f_114 x0 s = 0
  · rw [if_pos h0]
    have hg := hg.1 h0
    refine Ru.jy rfl h0 ?_
    refine Ru.step (pc' := 18) (ls' := [some (.inr (.inr (some 46))), some (.inl x0)]) (st' := [.inl (-1)]) (h1 := hp L s c e) rfl ?_
    exact Ru.done rfl
  · rw [if_neg h0]
    have hg := hg.2 h0
    refine Ru.jn rfl h0 ?_
    refine Ru.step (pc' := 9) (ls' := [some (.inr (.inr (some 46))), some (.inl x0)]) (st' := [.inr (.inr (some 46))]) (h1 := hp L s c e) rfl ?_
    refine Ru.step (pc' := 12) (ls' := [some (.inr (.inr (some 46))), some (.inl x0)]) (st' := [.inr (.inr (some 51))]) (h1 := hp L s c e) rfl ?_
    refine Ru.step (pc' := 13) (ls' := [some (.inr (.inr (some 46))), some (.inl x0)]) (st' := [.inl x0, .inr (.inr (some 51))]) (h1 := hp L s c e) rfl ?_
    obtain ⟨⟨b1, b2⟩, hg⟩ := hg
    refine Ru.ald (f := fun t => t == 0) (j := x0) (a := 51) rfl rfl b1 b2 ?_
    refine Ru.step (pc' := 18) (ls' := [some (.inr (.inr (some 46))), some (.inl x0)]) (st' := [.inl (s 51 x0.toNat)]) (h1 := hp L s c e) rfl ?_
    exact Ru.done rfl
/-- MachineText$Nodes.followerOf(I)I -/
def f_121 (x0 : Int) (s : Nat → Nat → Int) : Int := (if f_114 x0 s = 0 then (-1) else s 52 x0.toNat)
def g_121 (x0 : Int) (s : Nat → Nat → Int) : Prop := ((f_114 x0 s = 0 → True) ∧ (¬ (f_114 x0 s = 0) → ((0 ≤ x0 ∧ x0 < 8192) ∧ True)))
theorem ev_121 {L c : Nat} {s : Nat → Nat → Int} {e : Nat → Nat} (x0 : Int) (hg : g_121 x0 s) : Ev 2 121 [.inr (.inr (some 46)), .inl x0] (hp L s c e) (.inl (some (.inl (f_121 x0 s)))) (hp L s c e) := by
  unfold f_121
  unfold g_121 at hg
  refine Ev.of (μ := tb_m121) (ls := [some (.inr (.inr (some 46))), some (.inl x0)]) rfl (Nat.le_of_ble_eq_true rfl) rfl ?_
  refine Ru.step (pc' := 1) (ls' := [some (.inr (.inr (some 46))), some (.inl x0)]) (st' := [.inr (.inr (some 46))]) (h1 := hp L s c e) rfl ?_
  refine Ru.step (pc' := 2) (ls' := [some (.inr (.inr (some 46))), some (.inl x0)]) (st' := [.inl x0, .inr (.inr (some 46))]) (h1 := hp L s c e) rfl ?_
  refine Ru.call rfl ((ev_114 x0).up (by decide)) ?_
  by_cases h0 : f_114 x0 s = 0
  · rw [if_pos h0]
    have hg := hg.1 h0
    refine Ru.jy rfl h0 ?_
    refine Ru.step (pc' := 18) (ls' := [some (.inr (.inr (some 46))), some (.inl x0)]) (st' := [.inl (-1)]) (h1 := hp L s c e) rfl ?_
    exact Ru.done rfl
  · rw [if_neg h0]
    have hg := hg.2 h0
    refine Ru.jn rfl h0 ?_
    refine Ru.step (pc' := 9) (ls' := [some (.inr (.inr (some 46))), some (.inl x0)]) (st' := [.inr (.inr (some 46))]) (h1 := hp L s c e) rfl ?_
    refine Ru.step (pc' := 12) (ls' := [some (.inr (.inr (some 46))), some (.inl x0)]) (st' := [.inr (.inr (some 52))]) (h1 := hp L s c e) rfl ?_
    refine Ru.step (pc' := 13) (ls' := [some (.inr (.inr (some 46))), some (.inl x0)]) (st' := [.inl x0, .inr (.inr (some 52))]) (h1 := hp L s c e) rfl ?_
    obtain ⟨⟨b1, b2⟩, hg⟩ := hg
    refine Ru.ald (f := fun t => t == 0) (j := x0) (a := 52) rfl rfl b1 b2 ?_
    refine Ru.step (pc' := 18) (ls' := [some (.inr (.inr (some 46))), some (.inl x0)]) (st' := [.inl (s 52 x0.toNat)]) (h1 := hp L s c e) rfl ?_
    exact Ru.done rfl
/-- MachineText$Nodes.startOf(I)I -/
def f_122 (x0 : Int) (s : Nat → Nat → Int) : Int := (if f_114 x0 s = 0 then (-1) else s 50 x0.toNat)
def g_122 (x0 : Int) (s : Nat → Nat → Int) : Prop := ((f_114 x0 s = 0 → True) ∧ (¬ (f_114 x0 s = 0) → ((0 ≤ x0 ∧ x0 < 8192) ∧ True)))
theorem ev_122 {L c : Nat} {s : Nat → Nat → Int} {e : Nat → Nat} (x0 : Int) (hg : g_122 x0 s) : Ev 2 122 [.inr (.inr (some 46)), .inl x0] (hp L s c e) (.inl (some (.inl (f_122 x0 s)))) (hp L s c e) := by
  unfold f_122
  unfold g_122 at hg
  refine Ev.of (μ := tb_m122) (ls := [some (.inr (.inr (some 46))), some (.inl x0)]) rfl (Nat.le_of_ble_eq_true rfl) rfl ?_
  refine Ru.step (pc' := 1) (ls' := [some (.inr (.inr (some 46))), some (.inl x0)]) (st' := [.inr (.inr (some 46))]) (h1 := hp L s c e) rfl ?_
  refine Ru.step (pc' := 2) (ls' := [some (.inr (.inr (some 46))), some (.inl x0)]) (st' := [.inl x0, .inr (.inr (some 46))]) (h1 := hp L s c e) rfl ?_
  refine Ru.call rfl ((ev_114 x0).up (by decide)) ?_
  by_cases h0 : f_114 x0 s = 0
  · rw [if_pos h0]
    have hg := hg.1 h0
    refine Ru.jy rfl h0 ?_
    refine Ru.step (pc' := 18) (ls' := [some (.inr (.inr (some 46))), some (.inl x0)]) (st' := [.inl (-1)]) (h1 := hp L s c e) rfl ?_
    exact Ru.done rfl
  · rw [if_neg h0]
    have hg := hg.2 h0
    refine Ru.jn rfl h0 ?_
    refine Ru.step (pc' := 9) (ls' := [some (.inr (.inr (some 46))), some (.inl x0)]) (st' := [.inr (.inr (some 46))]) (h1 := hp L s c e) rfl ?_
    refine Ru.step (pc' := 12) (ls' := [some (.inr (.inr (some 46))), some (.inl x0)]) (st' := [.inr (.inr (some 50))]) (h1 := hp L s c e) rfl ?_
    refine Ru.step (pc' := 13) (ls' := [some (.inr (.inr (some 46))), some (.inl x0)]) (st' := [.inl x0, .inr (.inr (some 50))]) (h1 := hp L s c e) rfl ?_
    obtain ⟨⟨b1, b2⟩, hg⟩ := hg
    refine Ru.ald (f := fun t => t == 0) (j := x0) (a := 50) rfl rfl b1 b2 ?_
    refine Ru.step (pc' := 18) (ls' := [some (.inr (.inr (some 46))), some (.inl x0)]) (st' := [.inl (s 50 x0.toNat)]) (h1 := hp L s c e) rfl ?_
    exact Ru.done rfl
/-- MachineText$Nodes.widen(II)V -/
def f_123 (x0 x1 : Int) (s : Nat → Nat → Int) : Nat → Nat → Int := (if f_114 x0 s = 0 then s else (ax_u2 s 48 x0.toNat x1))
def g_123 (x0 x1 : Int) (s : Nat → Nat → Int) : Prop := ((f_114 x0 s = 0 → True) ∧ (¬ (f_114 x0 s = 0) → ((0 ≤ x0 ∧ x0 < 8192) ∧ True)))
theorem ev_123 {L c : Nat} {s : Nat → Nat → Int} {e : Nat → Nat} (x0 x1 : Int) (hg : g_123 x0 x1 s) : Ev 2 123 [.inr (.inr (some 46)), .inl x0, .inl x1] (hp L s c e) (.inl none) (hp L (f_123 x0 x1 s) c e) := by
  unfold f_123
  unfold g_123 at hg
  refine Ev.of (μ := tb_m123) (ls := [some (.inr (.inr (some 46))), some (.inl x0), some (.inl x1)]) rfl (Nat.le_of_ble_eq_true rfl) rfl ?_
  refine Ru.step (pc' := 1) (ls' := [some (.inr (.inr (some 46))), some (.inl x0), some (.inl x1)]) (st' := [.inr (.inr (some 46))]) (h1 := hp L s c e) rfl ?_
  refine Ru.step (pc' := 2) (ls' := [some (.inr (.inr (some 46))), some (.inl x0), some (.inl x1)]) (st' := [.inl x0, .inr (.inr (some 46))]) (h1 := hp L s c e) rfl ?_
  refine Ru.call rfl ((ev_114 x0).up (by decide)) ?_
  by_cases h0 : f_114 x0 s = 0
  · rw [if_pos h0]
    have hg := hg.1 h0
    refine Ru.jy rfl h0 ?_
    exact Ru.done rfl
  · rw [if_neg h0]
    have hg := hg.2 h0
    refine Ru.jn rfl h0 ?_
    refine Ru.step (pc' := 9) (ls' := [some (.inr (.inr (some 46))), some (.inl x0), some (.inl x1)]) (st' := [.inr (.inr (some 46))]) (h1 := hp L s c e) rfl ?_
    refine Ru.step (pc' := 12) (ls' := [some (.inr (.inr (some 46))), some (.inl x0), some (.inl x1)]) (st' := [.inr (.inr (some 48))]) (h1 := hp L s c e) rfl ?_
    refine Ru.step (pc' := 13) (ls' := [some (.inr (.inr (some 46))), some (.inl x0), some (.inl x1)]) (st' := [.inl x0, .inr (.inr (some 48))]) (h1 := hp L s c e) rfl ?_
    refine Ru.step (pc' := 14) (ls' := [some (.inr (.inr (some 46))), some (.inl x0), some (.inl x1)]) (st' := [.inl x1, .inl x0, .inr (.inr (some 48))]) (h1 := hp L s c e) rfl ?_
    obtain ⟨⟨b1, b2⟩, hg⟩ := hg
    refine Ru.ast (f := fun t => t == 0) (j := x0) (a := 48) rfl rfl (by decide) rfl rfl b1 b2 ?_
    exact Ru.done rfl
/-- MachineText$Nodes.add(IIII)I -/
def f_124 (x0 x1 x2 x3 : Int) (s : Nat → Nat → Int) : Int × (Nat → Nat → Int) := (if s 46 7 < 8192 then (ax_w32 ((ax_w32 ((s 46 7) + 1)) - 1), (ax_u2 (ax_u2 (ax_u2 (ax_u2 (ax_u2 (ax_u2 (ax_u2 (ax_u2 s 47 ((s 46 7).toNat) x0) 48 ((s 46 7).toNat) 0) 49 ((s 46 7).toNat) (-1)) 50 ((s 46 7).toNat) x1) 51 ((s 46 7).toNat) x2) 52 ((s 46 7).toNat) (-1)) 53 ((s 46 7).toNat) x3) 46 7 (ax_w32 ((s 46 7) + 1)))) else ((-1), s))
def g_124 (x0 x1 x2 x3 : Int) (s : Nat → Nat → Int) : Prop := ((s 46 7 < 8192 → ((0 ≤ s 46 7 ∧ s 46 7 < 8192) ∧ ((0 ≤ s 46 7 ∧ s 46 7 < 8192) ∧ ((0 ≤ s 46 7 ∧ s 46 7 < 8192) ∧ ((0 ≤ s 46 7 ∧ s 46 7 < 8192) ∧ ((0 ≤ s 46 7 ∧ s 46 7 < 8192) ∧ ((0 ≤ s 46 7 ∧ s 46 7 < 8192) ∧ ((0 ≤ s 46 7 ∧ s 46 7 < 8192) ∧ True)))))))) ∧ (¬ (s 46 7 < 8192) → True))
theorem ev_124 {L c : Nat} {s : Nat → Nat → Int} {e : Nat → Nat} (x0 x1 x2 x3 : Int) (hg : g_124 x0 x1 x2 x3 s) : Ev 1 124 [.inr (.inr (some 46)), .inl x0, .inl x1, .inl x2, .inl x3] (hp L s c e) (.inl (some (.inl ((f_124 x0 x1 x2 x3 s).1)))) (hp L (f_124 x0 x1 x2 x3 s).2 c e) := by
  unfold f_124
  unfold g_124 at hg
  refine Ev.of (μ := tb_m124) (ls := [some (.inr (.inr (some 46))), some (.inl x0), some (.inl x1), some (.inl x2), some (.inl x3)]) rfl (Nat.le_of_ble_eq_true rfl) rfl ?_
  refine Ru.step (pc' := 1) (ls' := [some (.inr (.inr (some 46))), some (.inl x0), some (.inl x1), some (.inl x2), some (.inl x3)]) (st' := [.inr (.inr (some 46))]) (h1 := hp L s c e) rfl ?_
  refine Ru.step (pc' := 4) (ls' := [some (.inr (.inr (some 46))), some (.inl x0), some (.inl x1), some (.inl x2), some (.inl x3)]) (st' := [.inl (s 46 7)]) (h1 := hp L s c e) rfl ?_
  refine Ru.step (pc' := 7) (ls' := [some (.inr (.inr (some 46))), some (.inl x0), some (.inl x1), some (.inl x2), some (.inl x3)]) (st' := [.inl 8192, .inl (s 46 7)]) (h1 := hp L s c e) rfl ?_
  by_cases h0 : s 46 7 < 8192
  · rw [if_pos h0]
    have hg := hg.1 h0
    refine Ru.jy rfl h0 ?_
    refine Ru.step (pc' := 13) (ls' := [some (.inr (.inr (some 46))), some (.inl x0), some (.inl x1), some (.inl x2), some (.inl x3)]) (st' := [.inr (.inr (some 46))]) (h1 := hp L s c e) rfl ?_
    refine Ru.step (pc' := 16) (ls' := [some (.inr (.inr (some 46))), some (.inl x0), some (.inl x1), some (.inl x2), some (.inl x3)]) (st' := [.inr (.inr (some 47))]) (h1 := hp L s c e) rfl ?_
    refine Ru.step (pc' := 17) (ls' := [some (.inr (.inr (some 46))), some (.inl x0), some (.inl x1), some (.inl x2), some (.inl x3)]) (st' := [.inr (.inr (some 46)), .inr (.inr (some 47))]) (h1 := hp L s c e) rfl ?_
    refine Ru.step (pc' := 20) (ls' := [some (.inr (.inr (some 46))), some (.inl x0), some (.inl x1), some (.inl x2), some (.inl x3)]) (st' := [.inl (s 46 7), .inr (.inr (some 47))]) (h1 := hp L s c e) rfl ?_
    refine Ru.step (pc' := 21) (ls' := [some (.inr (.inr (some 46))), some (.inl x0), some (.inl x1), some (.inl x2), some (.inl x3)]) (st' := [.inl x0, .inl (s 46 7), .inr (.inr (some 47))]) (h1 := hp L s c e) rfl ?_
    obtain ⟨⟨b1, b2⟩, hg⟩ := hg
    refine Ru.ast (f := fun t => t == 0) (j := s 46 7) (a := 47) rfl rfl (by decide) rfl rfl b1 b2 ?_
    refine Ru.step (pc' := 23) (ls' := [some (.inr (.inr (some 46))), some (.inl x0), some (.inl x1), some (.inl x2), some (.inl x3)]) (st' := [.inr (.inr (some 46))]) (h1 := hp L (ax_u2 s 47 ((s 46 7).toNat) x0) c e) rfl ?_
    refine Ru.step (pc' := 26) (ls' := [some (.inr (.inr (some 46))), some (.inl x0), some (.inl x1), some (.inl x2), some (.inl x3)]) (st' := [.inr (.inr (some 48))]) (h1 := hp L (ax_u2 s 47 ((s 46 7).toNat) x0) c e) rfl ?_
    refine Ru.step (pc' := 27) (ls' := [some (.inr (.inr (some 46))), some (.inl x0), some (.inl x1), some (.inl x2), some (.inl x3)]) (st' := [.inr (.inr (some 46)), .inr (.inr (some 48))]) (h1 := hp L (ax_u2 s 47 ((s 46 7).toNat) x0) c e) rfl ?_
    refine Ru.step (pc' := 30) (ls' := [some (.inr (.inr (some 46))), some (.inl x0), some (.inl x1), some (.inl x2), some (.inl x3)]) (st' := [.inl (s 46 7), .inr (.inr (some 48))]) (h1 := hp L (ax_u2 s 47 ((s 46 7).toNat) x0) c e) rfl ?_
    refine Ru.step (pc' := 31) (ls' := [some (.inr (.inr (some 46))), some (.inl x0), some (.inl x1), some (.inl x2), some (.inl x3)]) (st' := [.inl 0, .inl (s 46 7), .inr (.inr (some 48))]) (h1 := hp L (ax_u2 s 47 ((s 46 7).toNat) x0) c e) rfl ?_
    obtain ⟨⟨b1, b2⟩, hg⟩ := hg
    refine Ru.ast (f := fun t => t == 0) (j := s 46 7) (a := 48) rfl rfl (by decide) rfl rfl b1 b2 ?_
    refine Ru.step (pc' := 33) (ls' := [some (.inr (.inr (some 46))), some (.inl x0), some (.inl x1), some (.inl x2), some (.inl x3)]) (st' := [.inr (.inr (some 46))]) (h1 := hp L (ax_u2 (ax_u2 s 47 ((s 46 7).toNat) x0) 48 ((s 46 7).toNat) 0) c e) rfl ?_
    refine Ru.step (pc' := 36) (ls' := [some (.inr (.inr (some 46))), some (.inl x0), some (.inl x1), some (.inl x2), some (.inl x3)]) (st' := [.inr (.inr (some 49))]) (h1 := hp L (ax_u2 (ax_u2 s 47 ((s 46 7).toNat) x0) 48 ((s 46 7).toNat) 0) c e) rfl ?_
    refine Ru.step (pc' := 37) (ls' := [some (.inr (.inr (some 46))), some (.inl x0), some (.inl x1), some (.inl x2), some (.inl x3)]) (st' := [.inr (.inr (some 46)), .inr (.inr (some 49))]) (h1 := hp L (ax_u2 (ax_u2 s 47 ((s 46 7).toNat) x0) 48 ((s 46 7).toNat) 0) c e) rfl ?_
    refine Ru.step (pc' := 40) (ls' := [some (.inr (.inr (some 46))), some (.inl x0), some (.inl x1), some (.inl x2), some (.inl x3)]) (st' := [.inl (s 46 7), .inr (.inr (some 49))]) (h1 := hp L (ax_u2 (ax_u2 s 47 ((s 46 7).toNat) x0) 48 ((s 46 7).toNat) 0) c e) rfl ?_
    refine Ru.step (pc' := 41) (ls' := [some (.inr (.inr (some 46))), some (.inl x0), some (.inl x1), some (.inl x2), some (.inl x3)]) (st' := [.inl (-1), .inl (s 46 7), .inr (.inr (some 49))]) (h1 := hp L (ax_u2 (ax_u2 s 47 ((s 46 7).toNat) x0) 48 ((s 46 7).toNat) 0) c e) rfl ?_
    obtain ⟨⟨b1, b2⟩, hg⟩ := hg
    refine Ru.ast (f := fun t => t == 0) (j := s 46 7) (a := 49) rfl rfl (by decide) rfl rfl b1 b2 ?_
    refine Ru.step (pc' := 43) (ls' := [some (.inr (.inr (some 46))), some (.inl x0), some (.inl x1), some (.inl x2), some (.inl x3)]) (st' := [.inr (.inr (some 46))]) (h1 := hp L (ax_u2 (ax_u2 (ax_u2 s 47 ((s 46 7).toNat) x0) 48 ((s 46 7).toNat) 0) 49 ((s 46 7).toNat) (-1)) c e) rfl ?_
    refine Ru.step (pc' := 46) (ls' := [some (.inr (.inr (some 46))), some (.inl x0), some (.inl x1), some (.inl x2), some (.inl x3)]) (st' := [.inr (.inr (some 50))]) (h1 := hp L (ax_u2 (ax_u2 (ax_u2 s 47 ((s 46 7).toNat) x0) 48 ((s 46 7).toNat) 0) 49 ((s 46 7).toNat) (-1)) c e) rfl ?_
    refine Ru.step (pc' := 47) (ls' := [some (.inr (.inr (some 46))), some (.inl x0), some (.inl x1), some (.inl x2), some (.inl x3)]) (st' := [.inr (.inr (some 46)), .inr (.inr (some 50))]) (h1 := hp L (ax_u2 (ax_u2 (ax_u2 s 47 ((s 46 7).toNat) x0) 48 ((s 46 7).toNat) 0) 49 ((s 46 7).toNat) (-1)) c e) rfl ?_
    refine Ru.step (pc' := 50) (ls' := [some (.inr (.inr (some 46))), some (.inl x0), some (.inl x1), some (.inl x2), some (.inl x3)]) (st' := [.inl (s 46 7), .inr (.inr (some 50))]) (h1 := hp L (ax_u2 (ax_u2 (ax_u2 s 47 ((s 46 7).toNat) x0) 48 ((s 46 7).toNat) 0) 49 ((s 46 7).toNat) (-1)) c e) rfl ?_
    refine Ru.step (pc' := 51) (ls' := [some (.inr (.inr (some 46))), some (.inl x0), some (.inl x1), some (.inl x2), some (.inl x3)]) (st' := [.inl x1, .inl (s 46 7), .inr (.inr (some 50))]) (h1 := hp L (ax_u2 (ax_u2 (ax_u2 s 47 ((s 46 7).toNat) x0) 48 ((s 46 7).toNat) 0) 49 ((s 46 7).toNat) (-1)) c e) rfl ?_
    obtain ⟨⟨b1, b2⟩, hg⟩ := hg
    refine Ru.ast (f := fun t => t == 0) (j := s 46 7) (a := 50) rfl rfl (by decide) rfl rfl b1 b2 ?_
    refine Ru.step (pc' := 53) (ls' := [some (.inr (.inr (some 46))), some (.inl x0), some (.inl x1), some (.inl x2), some (.inl x3)]) (st' := [.inr (.inr (some 46))]) (h1 := hp L (ax_u2 (ax_u2 (ax_u2 (ax_u2 s 47 ((s 46 7).toNat) x0) 48 ((s 46 7).toNat) 0) 49 ((s 46 7).toNat) (-1)) 50 ((s 46 7).toNat) x1) c e) rfl ?_
    refine Ru.step (pc' := 56) (ls' := [some (.inr (.inr (some 46))), some (.inl x0), some (.inl x1), some (.inl x2), some (.inl x3)]) (st' := [.inr (.inr (some 51))]) (h1 := hp L (ax_u2 (ax_u2 (ax_u2 (ax_u2 s 47 ((s 46 7).toNat) x0) 48 ((s 46 7).toNat) 0) 49 ((s 46 7).toNat) (-1)) 50 ((s 46 7).toNat) x1) c e) rfl ?_
    refine Ru.step (pc' := 57) (ls' := [some (.inr (.inr (some 46))), some (.inl x0), some (.inl x1), some (.inl x2), some (.inl x3)]) (st' := [.inr (.inr (some 46)), .inr (.inr (some 51))]) (h1 := hp L (ax_u2 (ax_u2 (ax_u2 (ax_u2 s 47 ((s 46 7).toNat) x0) 48 ((s 46 7).toNat) 0) 49 ((s 46 7).toNat) (-1)) 50 ((s 46 7).toNat) x1) c e) rfl ?_
    refine Ru.step (pc' := 60) (ls' := [some (.inr (.inr (some 46))), some (.inl x0), some (.inl x1), some (.inl x2), some (.inl x3)]) (st' := [.inl (s 46 7), .inr (.inr (some 51))]) (h1 := hp L (ax_u2 (ax_u2 (ax_u2 (ax_u2 s 47 ((s 46 7).toNat) x0) 48 ((s 46 7).toNat) 0) 49 ((s 46 7).toNat) (-1)) 50 ((s 46 7).toNat) x1) c e) rfl ?_
    refine Ru.step (pc' := 61) (ls' := [some (.inr (.inr (some 46))), some (.inl x0), some (.inl x1), some (.inl x2), some (.inl x3)]) (st' := [.inl x2, .inl (s 46 7), .inr (.inr (some 51))]) (h1 := hp L (ax_u2 (ax_u2 (ax_u2 (ax_u2 s 47 ((s 46 7).toNat) x0) 48 ((s 46 7).toNat) 0) 49 ((s 46 7).toNat) (-1)) 50 ((s 46 7).toNat) x1) c e) rfl ?_
    obtain ⟨⟨b1, b2⟩, hg⟩ := hg
    refine Ru.ast (f := fun t => t == 0) (j := s 46 7) (a := 51) rfl rfl (by decide) rfl rfl b1 b2 ?_
    refine Ru.step (pc' := 63) (ls' := [some (.inr (.inr (some 46))), some (.inl x0), some (.inl x1), some (.inl x2), some (.inl x3)]) (st' := [.inr (.inr (some 46))]) (h1 := hp L (ax_u2 (ax_u2 (ax_u2 (ax_u2 (ax_u2 s 47 ((s 46 7).toNat) x0) 48 ((s 46 7).toNat) 0) 49 ((s 46 7).toNat) (-1)) 50 ((s 46 7).toNat) x1) 51 ((s 46 7).toNat) x2) c e) rfl ?_
    refine Ru.step (pc' := 66) (ls' := [some (.inr (.inr (some 46))), some (.inl x0), some (.inl x1), some (.inl x2), some (.inl x3)]) (st' := [.inr (.inr (some 52))]) (h1 := hp L (ax_u2 (ax_u2 (ax_u2 (ax_u2 (ax_u2 s 47 ((s 46 7).toNat) x0) 48 ((s 46 7).toNat) 0) 49 ((s 46 7).toNat) (-1)) 50 ((s 46 7).toNat) x1) 51 ((s 46 7).toNat) x2) c e) rfl ?_
    refine Ru.step (pc' := 67) (ls' := [some (.inr (.inr (some 46))), some (.inl x0), some (.inl x1), some (.inl x2), some (.inl x3)]) (st' := [.inr (.inr (some 46)), .inr (.inr (some 52))]) (h1 := hp L (ax_u2 (ax_u2 (ax_u2 (ax_u2 (ax_u2 s 47 ((s 46 7).toNat) x0) 48 ((s 46 7).toNat) 0) 49 ((s 46 7).toNat) (-1)) 50 ((s 46 7).toNat) x1) 51 ((s 46 7).toNat) x2) c e) rfl ?_
    refine Ru.step (pc' := 70) (ls' := [some (.inr (.inr (some 46))), some (.inl x0), some (.inl x1), some (.inl x2), some (.inl x3)]) (st' := [.inl (s 46 7), .inr (.inr (some 52))]) (h1 := hp L (ax_u2 (ax_u2 (ax_u2 (ax_u2 (ax_u2 s 47 ((s 46 7).toNat) x0) 48 ((s 46 7).toNat) 0) 49 ((s 46 7).toNat) (-1)) 50 ((s 46 7).toNat) x1) 51 ((s 46 7).toNat) x2) c e) rfl ?_
    refine Ru.step (pc' := 71) (ls' := [some (.inr (.inr (some 46))), some (.inl x0), some (.inl x1), some (.inl x2), some (.inl x3)]) (st' := [.inl (-1), .inl (s 46 7), .inr (.inr (some 52))]) (h1 := hp L (ax_u2 (ax_u2 (ax_u2 (ax_u2 (ax_u2 s 47 ((s 46 7).toNat) x0) 48 ((s 46 7).toNat) 0) 49 ((s 46 7).toNat) (-1)) 50 ((s 46 7).toNat) x1) 51 ((s 46 7).toNat) x2) c e) rfl ?_
    obtain ⟨⟨b1, b2⟩, hg⟩ := hg
    refine Ru.ast (f := fun t => t == 0) (j := s 46 7) (a := 52) rfl rfl (by decide) rfl rfl b1 b2 ?_
    refine Ru.step (pc' := 73) (ls' := [some (.inr (.inr (some 46))), some (.inl x0), some (.inl x1), some (.inl x2), some (.inl x3)]) (st' := [.inr (.inr (some 46))]) (h1 := hp L (ax_u2 (ax_u2 (ax_u2 (ax_u2 (ax_u2 (ax_u2 s 47 ((s 46 7).toNat) x0) 48 ((s 46 7).toNat) 0) 49 ((s 46 7).toNat) (-1)) 50 ((s 46 7).toNat) x1) 51 ((s 46 7).toNat) x2) 52 ((s 46 7).toNat) (-1)) c e) rfl ?_
    refine Ru.step (pc' := 76) (ls' := [some (.inr (.inr (some 46))), some (.inl x0), some (.inl x1), some (.inl x2), some (.inl x3)]) (st' := [.inr (.inr (some 53))]) (h1 := hp L (ax_u2 (ax_u2 (ax_u2 (ax_u2 (ax_u2 (ax_u2 s 47 ((s 46 7).toNat) x0) 48 ((s 46 7).toNat) 0) 49 ((s 46 7).toNat) (-1)) 50 ((s 46 7).toNat) x1) 51 ((s 46 7).toNat) x2) 52 ((s 46 7).toNat) (-1)) c e) rfl ?_
    refine Ru.step (pc' := 77) (ls' := [some (.inr (.inr (some 46))), some (.inl x0), some (.inl x1), some (.inl x2), some (.inl x3)]) (st' := [.inr (.inr (some 46)), .inr (.inr (some 53))]) (h1 := hp L (ax_u2 (ax_u2 (ax_u2 (ax_u2 (ax_u2 (ax_u2 s 47 ((s 46 7).toNat) x0) 48 ((s 46 7).toNat) 0) 49 ((s 46 7).toNat) (-1)) 50 ((s 46 7).toNat) x1) 51 ((s 46 7).toNat) x2) 52 ((s 46 7).toNat) (-1)) c e) rfl ?_
    refine Ru.step (pc' := 80) (ls' := [some (.inr (.inr (some 46))), some (.inl x0), some (.inl x1), some (.inl x2), some (.inl x3)]) (st' := [.inl (s 46 7), .inr (.inr (some 53))]) (h1 := hp L (ax_u2 (ax_u2 (ax_u2 (ax_u2 (ax_u2 (ax_u2 s 47 ((s 46 7).toNat) x0) 48 ((s 46 7).toNat) 0) 49 ((s 46 7).toNat) (-1)) 50 ((s 46 7).toNat) x1) 51 ((s 46 7).toNat) x2) 52 ((s 46 7).toNat) (-1)) c e) rfl ?_
    refine Ru.step (pc' := 82) (ls' := [some (.inr (.inr (some 46))), some (.inl x0), some (.inl x1), some (.inl x2), some (.inl x3)]) (st' := [.inl x3, .inl (s 46 7), .inr (.inr (some 53))]) (h1 := hp L (ax_u2 (ax_u2 (ax_u2 (ax_u2 (ax_u2 (ax_u2 s 47 ((s 46 7).toNat) x0) 48 ((s 46 7).toNat) 0) 49 ((s 46 7).toNat) (-1)) 50 ((s 46 7).toNat) x1) 51 ((s 46 7).toNat) x2) 52 ((s 46 7).toNat) (-1)) c e) rfl ?_
    obtain ⟨⟨b1, b2⟩, hg⟩ := hg
    refine Ru.ast (f := fun t => t == 0) (j := s 46 7) (a := 53) rfl rfl (by decide) rfl rfl b1 b2 ?_
    refine Ru.step (pc' := 84) (ls' := [some (.inr (.inr (some 46))), some (.inl x0), some (.inl x1), some (.inl x2), some (.inl x3)]) (st' := [.inr (.inr (some 46))]) (h1 := hp L (ax_u2 (ax_u2 (ax_u2 (ax_u2 (ax_u2 (ax_u2 (ax_u2 s 47 ((s 46 7).toNat) x0) 48 ((s 46 7).toNat) 0) 49 ((s 46 7).toNat) (-1)) 50 ((s 46 7).toNat) x1) 51 ((s 46 7).toNat) x2) 52 ((s 46 7).toNat) (-1)) 53 ((s 46 7).toNat) x3) c e) rfl ?_
    refine Ru.step (pc' := 85) (ls' := [some (.inr (.inr (some 46))), some (.inl x0), some (.inl x1), some (.inl x2), some (.inl x3)]) (st' := [.inr (.inr (some 46)), .inr (.inr (some 46))]) (h1 := hp L (ax_u2 (ax_u2 (ax_u2 (ax_u2 (ax_u2 (ax_u2 (ax_u2 s 47 ((s 46 7).toNat) x0) 48 ((s 46 7).toNat) 0) 49 ((s 46 7).toNat) (-1)) 50 ((s 46 7).toNat) x1) 51 ((s 46 7).toNat) x2) 52 ((s 46 7).toNat) (-1)) 53 ((s 46 7).toNat) x3) c e) rfl ?_
    refine Ru.step (pc' := 88) (ls' := [some (.inr (.inr (some 46))), some (.inl x0), some (.inl x1), some (.inl x2), some (.inl x3)]) (st' := [.inl (s 46 7), .inr (.inr (some 46))]) (h1 := hp L (ax_u2 (ax_u2 (ax_u2 (ax_u2 (ax_u2 (ax_u2 (ax_u2 s 47 ((s 46 7).toNat) x0) 48 ((s 46 7).toNat) 0) 49 ((s 46 7).toNat) (-1)) 50 ((s 46 7).toNat) x1) 51 ((s 46 7).toNat) x2) 52 ((s 46 7).toNat) (-1)) 53 ((s 46 7).toNat) x3) c e) rfl ?_
    refine Ru.step (pc' := 89) (ls' := [some (.inr (.inr (some 46))), some (.inl x0), some (.inl x1), some (.inl x2), some (.inl x3)]) (st' := [.inl 1, .inl (s 46 7), .inr (.inr (some 46))]) (h1 := hp L (ax_u2 (ax_u2 (ax_u2 (ax_u2 (ax_u2 (ax_u2 (ax_u2 s 47 ((s 46 7).toNat) x0) 48 ((s 46 7).toNat) 0) 49 ((s 46 7).toNat) (-1)) 50 ((s 46 7).toNat) x1) 51 ((s 46 7).toNat) x2) 52 ((s 46 7).toNat) (-1)) 53 ((s 46 7).toNat) x3) c e) rfl ?_
    refine Ru.step (pc' := 90) (ls' := [some (.inr (.inr (some 46))), some (.inl x0), some (.inl x1), some (.inl x2), some (.inl x3)]) (st' := [.inl (ax_w32 ((s 46 7) + 1)), .inr (.inr (some 46))]) (h1 := hp L (ax_u2 (ax_u2 (ax_u2 (ax_u2 (ax_u2 (ax_u2 (ax_u2 s 47 ((s 46 7).toNat) x0) 48 ((s 46 7).toNat) 0) 49 ((s 46 7).toNat) (-1)) 50 ((s 46 7).toNat) x1) 51 ((s 46 7).toNat) x2) 52 ((s 46 7).toNat) (-1)) 53 ((s 46 7).toNat) x3) c e) rfl ?_
    refine Ru.step (pc' := 93) (ls' := [some (.inr (.inr (some 46))), some (.inl x0), some (.inl x1), some (.inl x2), some (.inl x3)]) (st' := []) (h1 := hp L (ax_u2 (ax_u2 (ax_u2 (ax_u2 (ax_u2 (ax_u2 (ax_u2 (ax_u2 s 47 ((s 46 7).toNat) x0) 48 ((s 46 7).toNat) 0) 49 ((s 46 7).toNat) (-1)) 50 ((s 46 7).toNat) x1) 51 ((s 46 7).toNat) x2) 52 ((s 46 7).toNat) (-1)) 53 ((s 46 7).toNat) x3) 46 7 (ax_w32 ((s 46 7) + 1))) c e) rfl ?_
    refine Ru.step (pc' := 94) (ls' := [some (.inr (.inr (some 46))), some (.inl x0), some (.inl x1), some (.inl x2), some (.inl x3)]) (st' := [.inr (.inr (some 46))]) (h1 := hp L (ax_u2 (ax_u2 (ax_u2 (ax_u2 (ax_u2 (ax_u2 (ax_u2 (ax_u2 s 47 ((s 46 7).toNat) x0) 48 ((s 46 7).toNat) 0) 49 ((s 46 7).toNat) (-1)) 50 ((s 46 7).toNat) x1) 51 ((s 46 7).toNat) x2) 52 ((s 46 7).toNat) (-1)) 53 ((s 46 7).toNat) x3) 46 7 (ax_w32 ((s 46 7) + 1))) c e) rfl ?_
    refine Ru.step (pc' := 97) (ls' := [some (.inr (.inr (some 46))), some (.inl x0), some (.inl x1), some (.inl x2), some (.inl x3)]) (st' := [.inl (ax_w32 ((s 46 7) + 1))]) (h1 := hp L (ax_u2 (ax_u2 (ax_u2 (ax_u2 (ax_u2 (ax_u2 (ax_u2 (ax_u2 s 47 ((s 46 7).toNat) x0) 48 ((s 46 7).toNat) 0) 49 ((s 46 7).toNat) (-1)) 50 ((s 46 7).toNat) x1) 51 ((s 46 7).toNat) x2) 52 ((s 46 7).toNat) (-1)) 53 ((s 46 7).toNat) x3) 46 7 (ax_w32 ((s 46 7) + 1))) c e) rfl ?_
    refine Ru.step (pc' := 98) (ls' := [some (.inr (.inr (some 46))), some (.inl x0), some (.inl x1), some (.inl x2), some (.inl x3)]) (st' := [.inl 1, .inl (ax_w32 ((s 46 7) + 1))]) (h1 := hp L (ax_u2 (ax_u2 (ax_u2 (ax_u2 (ax_u2 (ax_u2 (ax_u2 (ax_u2 s 47 ((s 46 7).toNat) x0) 48 ((s 46 7).toNat) 0) 49 ((s 46 7).toNat) (-1)) 50 ((s 46 7).toNat) x1) 51 ((s 46 7).toNat) x2) 52 ((s 46 7).toNat) (-1)) 53 ((s 46 7).toNat) x3) 46 7 (ax_w32 ((s 46 7) + 1))) c e) rfl ?_
    refine Ru.step (pc' := 99) (ls' := [some (.inr (.inr (some 46))), some (.inl x0), some (.inl x1), some (.inl x2), some (.inl x3)]) (st' := [.inl (ax_w32 ((ax_w32 ((s 46 7) + 1)) - 1))]) (h1 := hp L (ax_u2 (ax_u2 (ax_u2 (ax_u2 (ax_u2 (ax_u2 (ax_u2 (ax_u2 s 47 ((s 46 7).toNat) x0) 48 ((s 46 7).toNat) 0) 49 ((s 46 7).toNat) (-1)) 50 ((s 46 7).toNat) x1) 51 ((s 46 7).toNat) x2) 52 ((s 46 7).toNat) (-1)) 53 ((s 46 7).toNat) x3) 46 7 (ax_w32 ((s 46 7) + 1))) c e) rfl ?_
    exact Ru.done rfl
  · rw [if_neg h0]
    have hg := hg.2 h0
    refine Ru.jn rfl h0 ?_
    refine Ru.step (pc' := 11) (ls' := [some (.inr (.inr (some 46))), some (.inl x0), some (.inl x1), some (.inl x2), some (.inl x3)]) (st' := [.inl (-1)]) (h1 := hp L s c e) rfl ?_
    exact Ru.done rfl
/-- MachineText$Nodes.enumerate(II)V -/
def f_125 (x0 x1 : Int) (s : Nat → Nat → Int) : Nat → Nat → Int := (if f_114 x0 s = 0 then s else (ax_u2 s 49 x0.toNat x1))
def g_125 (x0 x1 : Int) (s : Nat → Nat → Int) : Prop := ((f_114 x0 s = 0 → True) ∧ (¬ (f_114 x0 s = 0) → ((0 ≤ x0 ∧ x0 < 8192) ∧ True)))
theorem ev_125 {L c : Nat} {s : Nat → Nat → Int} {e : Nat → Nat} (x0 x1 : Int) (hg : g_125 x0 x1 s) : Ev 2 125 [.inr (.inr (some 46)), .inl x0, .inl x1] (hp L s c e) (.inl none) (hp L (f_125 x0 x1 s) c e) := by
  unfold f_125
  unfold g_125 at hg
  refine Ev.of (μ := tb_m125) (ls := [some (.inr (.inr (some 46))), some (.inl x0), some (.inl x1)]) rfl (Nat.le_of_ble_eq_true rfl) rfl ?_
  refine Ru.step (pc' := 1) (ls' := [some (.inr (.inr (some 46))), some (.inl x0), some (.inl x1)]) (st' := [.inr (.inr (some 46))]) (h1 := hp L s c e) rfl ?_
  refine Ru.step (pc' := 2) (ls' := [some (.inr (.inr (some 46))), some (.inl x0), some (.inl x1)]) (st' := [.inl x0, .inr (.inr (some 46))]) (h1 := hp L s c e) rfl ?_
  refine Ru.call rfl ((ev_114 x0).up (by decide)) ?_
  by_cases h0 : f_114 x0 s = 0
  · rw [if_pos h0]
    have hg := hg.1 h0
    refine Ru.jy rfl h0 ?_
    exact Ru.done rfl
  · rw [if_neg h0]
    have hg := hg.2 h0
    refine Ru.jn rfl h0 ?_
    refine Ru.step (pc' := 9) (ls' := [some (.inr (.inr (some 46))), some (.inl x0), some (.inl x1)]) (st' := [.inr (.inr (some 46))]) (h1 := hp L s c e) rfl ?_
    refine Ru.step (pc' := 12) (ls' := [some (.inr (.inr (some 46))), some (.inl x0), some (.inl x1)]) (st' := [.inr (.inr (some 49))]) (h1 := hp L s c e) rfl ?_
    refine Ru.step (pc' := 13) (ls' := [some (.inr (.inr (some 46))), some (.inl x0), some (.inl x1)]) (st' := [.inl x0, .inr (.inr (some 49))]) (h1 := hp L s c e) rfl ?_
    refine Ru.step (pc' := 14) (ls' := [some (.inr (.inr (some 46))), some (.inl x0), some (.inl x1)]) (st' := [.inl x1, .inl x0, .inr (.inr (some 49))]) (h1 := hp L s c e) rfl ?_
    obtain ⟨⟨b1, b2⟩, hg⟩ := hg
    refine Ru.ast (f := fun t => t == 0) (j := x0) (a := 49) rfl rfl (by decide) rfl rfl b1 b2 ?_
    exact Ru.done rfl
/-- MachineText$Nodes.link(II)V -/
def f_126 (x0 x1 : Int) (s : Nat → Nat → Int) : Nat → Nat → Int := (if f_114 x0 s = 0 then s else (ax_u2 s 52 x0.toNat x1))
def g_126 (x0 x1 : Int) (s : Nat → Nat → Int) : Prop := ((f_114 x0 s = 0 → True) ∧ (¬ (f_114 x0 s = 0) → ((0 ≤ x0 ∧ x0 < 8192) ∧ True)))
theorem ev_126 {L c : Nat} {s : Nat → Nat → Int} {e : Nat → Nat} (x0 x1 : Int) (hg : g_126 x0 x1 s) : Ev 2 126 [.inr (.inr (some 46)), .inl x0, .inl x1] (hp L s c e) (.inl none) (hp L (f_126 x0 x1 s) c e) := by
  unfold f_126
  unfold g_126 at hg
  refine Ev.of (μ := tb_m126) (ls := [some (.inr (.inr (some 46))), some (.inl x0), some (.inl x1)]) rfl (Nat.le_of_ble_eq_true rfl) rfl ?_
  refine Ru.step (pc' := 1) (ls' := [some (.inr (.inr (some 46))), some (.inl x0), some (.inl x1)]) (st' := [.inr (.inr (some 46))]) (h1 := hp L s c e) rfl ?_
  refine Ru.step (pc' := 2) (ls' := [some (.inr (.inr (some 46))), some (.inl x0), some (.inl x1)]) (st' := [.inl x0, .inr (.inr (some 46))]) (h1 := hp L s c e) rfl ?_
  refine Ru.call rfl ((ev_114 x0).up (by decide)) ?_
  by_cases h0 : f_114 x0 s = 0
  · rw [if_pos h0]
    have hg := hg.1 h0
    refine Ru.jy rfl h0 ?_
    exact Ru.done rfl
  · rw [if_neg h0]
    have hg := hg.2 h0
    refine Ru.jn rfl h0 ?_
    refine Ru.step (pc' := 9) (ls' := [some (.inr (.inr (some 46))), some (.inl x0), some (.inl x1)]) (st' := [.inr (.inr (some 46))]) (h1 := hp L s c e) rfl ?_
    refine Ru.step (pc' := 12) (ls' := [some (.inr (.inr (some 46))), some (.inl x0), some (.inl x1)]) (st' := [.inr (.inr (some 52))]) (h1 := hp L s c e) rfl ?_
    refine Ru.step (pc' := 13) (ls' := [some (.inr (.inr (some 46))), some (.inl x0), some (.inl x1)]) (st' := [.inl x0, .inr (.inr (some 52))]) (h1 := hp L s c e) rfl ?_
    refine Ru.step (pc' := 14) (ls' := [some (.inr (.inr (some 46))), some (.inl x0), some (.inl x1)]) (st' := [.inl x1, .inl x0, .inr (.inr (some 52))]) (h1 := hp L s c e) rfl ?_
    obtain ⟨⟨b1, b2⟩, hg⟩ := hg
    refine Ru.ast (f := fun t => t == 0) (j := x0) (a := 52) rfl rfl (by decide) rfl rfl b1 b2 ?_
    exact Ru.done rfl
/-- MachineText$Printer.has(I)Z -/
def f_129 (x0 : Int) (s : Nat → Nat → Int) : Int := (if x0 < 0 then 0 else (if s 82 2 ≤ x0 then 0 else 1))
theorem ev_129 {L c : Nat} {s : Nat → Nat → Int} {e : Nat → Nat} (x0 : Int) : Ev 1 129 [.inr (.inr (some 82)), .inl x0] (hp L s c e) (.inl (some (.inl (f_129 x0 s)))) (hp L s c e) := by
  unfold f_129
  refine Ev.of (μ := tb_m129) (ls := [some (.inr (.inr (some 82))), some (.inl x0)]) rfl (Nat.le_of_ble_eq_true rfl) rfl ?_
  refine Ru.step (pc' := 1) (ls' := [some (.inr (.inr (some 82))), some (.inl x0)]) (st' := [.inl x0]) (h1 := hp L s c e) rfl ?_
  by_cases h0 : x0 < 0
  · rw [if_pos h0]
    refine Ru.jy rfl h0 ?_
    refine Ru.step (pc' := 17) (ls' := [some (.inr (.inr (some 82))), some (.inl x0)]) (st' := [.inl 0]) (h1 := hp L s c e) rfl ?_
    exact Ru.done rfl
  · rw [if_neg h0]
    refine Ru.jn rfl h0 ?_
    refine Ru.step (pc' := 5) (ls' := [some (.inr (.inr (some 82))), some (.inl x0)]) (st' := [.inl x0]) (h1 := hp L s c e) rfl ?_
    refine Ru.step (pc' := 6) (ls' := [some (.inr (.inr (some 82))), some (.inl x0)]) (st' := [.inr (.inr (some 82)), .inl x0]) (h1 := hp L s c e) rfl ?_
    refine Ru.step (pc' := 9) (ls' := [some (.inr (.inr (some 82))), some (.inl x0)]) (st' := [.inl (s 82 2), .inl x0]) (h1 := hp L s c e) rfl ?_
    by_cases h1 : s 82 2 ≤ x0
    · rw [if_pos h1]
      refine Ru.jy rfl h1 ?_
      refine Ru.step (pc' := 17) (ls' := [some (.inr (.inr (some 82))), some (.inl x0)]) (st' := [.inl 0]) (h1 := hp L s c e) rfl ?_
      exact Ru.done rfl
    · rw [if_neg h1]
      refine Ru.jn rfl h1 ?_
      refine Ru.step (pc' := 13) (ls' := [some (.inr (.inr (some 82))), some (.inl x0)]) (st' := [.inl 1]) (h1 := hp L s c e) rfl ?_
      refine Ru.step (pc' := 17) (ls' := [some (.inr (.inr (some 82))), some (.inl x0)]) (st' := [.inl 1]) (h1 := hp L s c e) rfl ?_
      exact Ru.done rfl
/-- MachineText$Printer.byteAt(I)I -/
def f_130 (x0 : Int) (s : Nat → Nat → Int) : Int := (if f_129 x0 s = 0 then (-1) else ax_iand (s 83 x0.toNat) 255)
def g_130 (x0 : Int) (s : Nat → Nat → Int) : Prop := ((f_129 x0 s = 0 → True) ∧ (¬ (f_129 x0 s = 0) → ((0 ≤ x0 ∧ x0 < 16384) ∧ True)))
theorem ev_130 {L c : Nat} {s : Nat → Nat → Int} {e : Nat → Nat} (x0 : Int) (hg : g_130 x0 s) : Ev 2 130 [.inr (.inr (some 82)), .inl x0] (hp L s c e) (.inl (some (.inl (f_130 x0 s)))) (hp L s c e) := by
  unfold f_130
  unfold g_130 at hg
  refine Ev.of (μ := tb_m130) (ls := [some (.inr (.inr (some 82))), some (.inl x0)]) rfl (Nat.le_of_ble_eq_true rfl) rfl ?_
  refine Ru.step (pc' := 1) (ls' := [some (.inr (.inr (some 82))), some (.inl x0)]) (st' := [.inr (.inr (some 82))]) (h1 := hp L s c e) rfl ?_
  refine Ru.step (pc' := 2) (ls' := [some (.inr (.inr (some 82))), some (.inl x0)]) (st' := [.inl x0, .inr (.inr (some 82))]) (h1 := hp L s c e) rfl ?_
  refine Ru.call rfl ((ev_129 x0).up (by decide)) ?_
  by_cases h0 : f_129 x0 s = 0
  · rw [if_pos h0]
    have hg := hg.1 h0
    refine Ru.jy rfl h0 ?_
    refine Ru.step (pc' := 22) (ls' := [some (.inr (.inr (some 82))), some (.inl x0)]) (st' := [.inl (-1)]) (h1 := hp L s c e) rfl ?_
    exact Ru.done rfl
  · rw [if_neg h0]
    have hg := hg.2 h0
    refine Ru.jn rfl h0 ?_
    refine Ru.step (pc' := 9) (ls' := [some (.inr (.inr (some 82))), some (.inl x0)]) (st' := [.inr (.inr (some 82))]) (h1 := hp L s c e) rfl ?_
    refine Ru.step (pc' := 12) (ls' := [some (.inr (.inr (some 82))), some (.inl x0)]) (st' := [.inr (.inr (some 83))]) (h1 := hp L s c e) rfl ?_
    refine Ru.step (pc' := 13) (ls' := [some (.inr (.inr (some 82))), some (.inl x0)]) (st' := [.inl x0, .inr (.inr (some 83))]) (h1 := hp L s c e) rfl ?_
    obtain ⟨⟨b1, b2⟩, hg⟩ := hg
    refine Ru.ald (f := fun t => t == 1 || t == 3) (j := x0) (a := 83) rfl rfl b1 b2 ?_
    refine Ru.step (pc' := 17) (ls' := [some (.inr (.inr (some 82))), some (.inl x0)]) (st' := [.inl 255, .inl (s 83 x0.toNat)]) (h1 := hp L s c e) rfl ?_
    refine Ru.step (pc' := 18) (ls' := [some (.inr (.inr (some 82))), some (.inl x0)]) (st' := [.inl (ax_iand (s 83 x0.toNat) 255)]) (h1 := hp L s c e) rfl ?_
    refine Ru.step (pc' := 22) (ls' := [some (.inr (.inr (some 82))), some (.inl x0)]) (st' := [.inl (ax_iand (s 83 x0.toNat) 255)]) (h1 := hp L s c e) rfl ?_
    exact Ru.done rfl
/-- MachineText$Printer.put(I)V -/
def f_134 (x0 : Int) (s : Nat → Nat → Int) : Nat → Nat → Int := (if 16384 ≤ s 82 2 then s else (ax_u2 (ax_u2 s 83 ((s 82 2).toNat) (ax_w8 (ax_w8 x0))) 82 2 (ax_w32 ((s 82 2) + 1))))
def g_134 (x0 : Int) (s : Nat → Nat → Int) : Prop := ((16384 ≤ s 82 2 → True) ∧ (¬ (16384 ≤ s 82 2) → ((0 ≤ s 82 2 ∧ s 82 2 < 16384) ∧ True)))
theorem ev_134 {L c : Nat} {s : Nat → Nat → Int} {e : Nat → Nat} (x0 : Int) (hg : g_134 x0 s) : Ev 1 134 [.inr (.inr (some 82)), .inl x0] (hp L s c e) (.inl none) (hp L (f_134 x0 s) c e) := by
  unfold f_134
  unfold g_134 at hg
  refine Ev.of (μ := tb_m134) (ls := [some (.inr (.inr (some 82))), some (.inl x0)]) rfl (Nat.le_of_ble_eq_true rfl) rfl ?_
  refine Ru.step (pc' := 1) (ls' := [some (.inr (.inr (some 82))), some (.inl x0)]) (st' := [.inr (.inr (some 82))]) (h1 := hp L s c e) rfl ?_
  refine Ru.step (pc' := 4) (ls' := [some (.inr (.inr (some 82))), some (.inl x0)]) (st' := [.inl (s 82 2)]) (h1 := hp L s c e) rfl ?_
  refine Ru.step (pc' := 5) (ls' := [some (.inr (.inr (some 82))), some (.inl x0)]) (st' := [.inr (.inr (some 82)), .inl (s 82 2)]) (h1 := hp L s c e) rfl ?_
  refine Ru.step (pc' := 8) (ls' := [some (.inr (.inr (some 82))), some (.inl x0)]) (st' := [.inr (.inr (some 83)), .inl (s 82 2)]) (h1 := hp L s c e) rfl ?_
  refine Ru.step (pc' := 9) (ls' := [some (.inr (.inr (some 82))), some (.inl x0)]) (st' := [.inl 16384, .inl (s 82 2)]) (h1 := hp L s c e) rfl ?_
  by_cases h0 : 16384 ≤ s 82 2
  · rw [if_pos h0]
    have hg := hg.1 h0
    refine Ru.jy rfl h0 ?_
    exact Ru.done rfl
  · rw [if_neg h0]
    have hg := hg.2 h0
    refine Ru.jn rfl h0 ?_
    refine Ru.step (pc' := 13) (ls' := [some (.inr (.inr (some 82))), some (.inl x0)]) (st' := [.inr (.inr (some 82))]) (h1 := hp L s c e) rfl ?_
    refine Ru.step (pc' := 16) (ls' := [some (.inr (.inr (some 82))), some (.inl x0)]) (st' := [.inr (.inr (some 83))]) (h1 := hp L s c e) rfl ?_
    refine Ru.step (pc' := 17) (ls' := [some (.inr (.inr (some 82))), some (.inl x0)]) (st' := [.inr (.inr (some 82)), .inr (.inr (some 83))]) (h1 := hp L s c e) rfl ?_
    refine Ru.step (pc' := 20) (ls' := [some (.inr (.inr (some 82))), some (.inl x0)]) (st' := [.inl (s 82 2), .inr (.inr (some 83))]) (h1 := hp L s c e) rfl ?_
    refine Ru.step (pc' := 21) (ls' := [some (.inr (.inr (some 82))), some (.inl x0)]) (st' := [.inl x0, .inl (s 82 2), .inr (.inr (some 83))]) (h1 := hp L s c e) rfl ?_
    refine Ru.step (pc' := 22) (ls' := [some (.inr (.inr (some 82))), some (.inl x0)]) (st' := [.inl (ax_w8 x0), .inl (s 82 2), .inr (.inr (some 83))]) (h1 := hp L s c e) rfl ?_
    obtain ⟨⟨b1, b2⟩, hg⟩ := hg
    refine Ru.ast (f := fun t => t == 1 || t == 3) (j := s 82 2) (a := 83) rfl rfl (by decide) rfl rfl b1 b2 ?_
    refine Ru.step (pc' := 24) (ls' := [some (.inr (.inr (some 82))), some (.inl x0)]) (st' := [.inr (.inr (some 82))]) (h1 := hp L (ax_u2 s 83 ((s 82 2).toNat) (ax_w8 (ax_w8 x0))) c e) rfl ?_
    refine Ru.step (pc' := 25) (ls' := [some (.inr (.inr (some 82))), some (.inl x0)]) (st' := [.inr (.inr (some 82)), .inr (.inr (some 82))]) (h1 := hp L (ax_u2 s 83 ((s 82 2).toNat) (ax_w8 (ax_w8 x0))) c e) rfl ?_
    refine Ru.step (pc' := 28) (ls' := [some (.inr (.inr (some 82))), some (.inl x0)]) (st' := [.inl (s 82 2), .inr (.inr (some 82))]) (h1 := hp L (ax_u2 s 83 ((s 82 2).toNat) (ax_w8 (ax_w8 x0))) c e) rfl ?_
    refine Ru.step (pc' := 29) (ls' := [some (.inr (.inr (some 82))), some (.inl x0)]) (st' := [.inl 1, .inl (s 82 2), .inr (.inr (some 82))]) (h1 := hp L (ax_u2 s 83 ((s 82 2).toNat) (ax_w8 (ax_w8 x0))) c e) rfl ?_
    refine Ru.step (pc' := 30) (ls' := [some (.inr (.inr (some 82))), some (.inl x0)]) (st' := [.inl (ax_w32 ((s 82 2) + 1)), .inr (.inr (some 82))]) (h1 := hp L (ax_u2 s 83 ((s 82 2).toNat) (ax_w8 (ax_w8 x0))) c e) rfl ?_
    refine Ru.step (pc' := 33) (ls' := [some (.inr (.inr (some 82))), some (.inl x0)]) (st' := []) (h1 := hp L (ax_u2 (ax_u2 s 83 ((s 82 2).toNat) (ax_w8 (ax_w8 x0))) 82 2 (ax_w32 ((s 82 2) + 1))) c e) rfl ?_
    exact Ru.done rfl
/-- MachineText$Printer.isSpaced(I)Z -/
def f_135 (x0 : Int) (s : Nat → Nat → Int) : Int := (if f_84 x0 s = 1 then 1 else (if ¬ (f_79 x0 s) = 61 then 0 else 1))
def g_135 (x0 : Int) (s : Nat → Nat → Int) : Prop := (g_84 x0 s ∧ ((f_84 x0 s = 1 → True) ∧ (¬ (f_84 x0 s = 1) → (g_79 x0 s ∧ True))))
theorem ev_135 {L c : Nat} {s : Nat → Nat → Int} {e : Nat → Nat} (x0 : Int) (hg : g_135 x0 s) : Ev 2 135 [.inr (.inr (some 82)), .inl x0] (hp L s c e) (.inl (some (.inl (f_135 x0 s)))) (hp L s c e) := by
  unfold f_135
  unfold g_135 at hg
  refine Ev.of (μ := tb_m135) (ls := [some (.inr (.inr (some 82))), some (.inl x0)]) rfl (Nat.le_of_ble_eq_true rfl) rfl ?_
  refine Ru.step (pc' := 1) (ls' := [some (.inr (.inr (some 82))), some (.inl x0)]) (st' := [.inr (.inr (some 82))]) (h1 := hp L s c e) rfl ?_
  refine Ru.step (pc' := 4) (ls' := [some (.inr (.inr (some 82))), some (.inl x0)]) (st' := [.inr (.inr (some 39))]) (h1 := hp L s c e) rfl ?_
  refine Ru.step (pc' := 5) (ls' := [some (.inr (.inr (some 82))), some (.inl x0)]) (st' := [.inl x0, .inr (.inr (some 39))]) (h1 := hp L s c e) rfl ?_
  obtain ⟨b1, hg⟩ := hg
  refine Ru.call rfl ((ev_84 x0 b1).up (by decide)) ?_
  refine Ru.step (pc' := 9) (ls' := [some (.inr (.inr (some 82))), some (.inl x0)]) (st' := [.inl 1, .inl (f_84 x0 s)]) (h1 := hp L s c e) rfl ?_
  by_cases h0 : f_84 x0 s = 1
  · rw [if_pos h0]
    have hg := hg.1 h0
    refine Ru.jy rfl h0 ?_
    refine Ru.step (pc' := 26) (ls' := [some (.inr (.inr (some 82))), some (.inl x0)]) (st' := [.inl 1]) (h1 := hp L s c e) rfl ?_
    refine Ru.step (pc' := 30) (ls' := [some (.inr (.inr (some 82))), some (.inl x0)]) (st' := [.inl 1]) (h1 := hp L s c e) rfl ?_
    exact Ru.done rfl
  · rw [if_neg h0]
    have hg := hg.2 h0
    refine Ru.jn rfl h0 ?_
    refine Ru.step (pc' := 13) (ls' := [some (.inr (.inr (some 82))), some (.inl x0)]) (st' := [.inr (.inr (some 82))]) (h1 := hp L s c e) rfl ?_
    refine Ru.step (pc' := 16) (ls' := [some (.inr (.inr (some 82))), some (.inl x0)]) (st' := [.inr (.inr (some 39))]) (h1 := hp L s c e) rfl ?_
    refine Ru.step (pc' := 17) (ls' := [some (.inr (.inr (some 82))), some (.inl x0)]) (st' := [.inl x0, .inr (.inr (some 39))]) (h1 := hp L s c e) rfl ?_
    obtain ⟨b1, hg⟩ := hg
    refine Ru.call rfl ((ev_79 x0 b1).up (by decide)) ?_
    refine Ru.step (pc' := 22) (ls' := [some (.inr (.inr (some 82))), some (.inl x0)]) (st' := [.inl 61, .inl (f_79 x0 s)]) (h1 := hp L s c e) rfl ?_
    by_cases h1 : ¬ (f_79 x0 s) = 61
    · rw [if_pos h1]
      refine Ru.jy rfl h1 ?_
      refine Ru.step (pc' := 30) (ls' := [some (.inr (.inr (some 82))), some (.inl x0)]) (st' := [.inl 0]) (h1 := hp L s c e) rfl ?_
      exact Ru.done rfl
    · rw [if_neg h1]
      refine Ru.jn rfl h1 ?_
      refine Ru.step (pc' := 26) (ls' := [some (.inr (.inr (some 82))), some (.inl x0)]) (st' := [.inl 1]) (h1 := hp L s c e) rfl ?_
      refine Ru.step (pc' := 30) (ls' := [some (.inr (.inr (some 82))), some (.inl x0)]) (st' := [.inl 1]) (h1 := hp L s c e) rfl ?_
      exact Ru.done rfl
/-- MachineText$Printer.isWordlike(I)Z -/
def f_138 (x0 : Int) (s : Nat → Nat → Int) : Int := (if x0 = 1 then 1 else (if x0 = 2 then 1 else (if x0 < 16 then 0 else (if 27 < x0 then 0 else 1))))
theorem ev_138 {L c : Nat} {s : Nat → Nat → Int} {e : Nat → Nat} (x0 : Int) : Ev 1 138 [.inl x0] (hp L s c e) (.inl (some (.inl (f_138 x0 s)))) (hp L s c e) := by
  unfold f_138
  refine Ev.of (μ := tb_m138) (ls := [some (.inl x0)]) rfl (Nat.le_of_ble_eq_true rfl) rfl ?_
  refine Ru.step (pc' := 1) (ls' := [some (.inl x0)]) (st' := [.inl x0]) (h1 := hp L s c e) rfl ?_
  refine Ru.step (pc' := 2) (ls' := [some (.inl x0)]) (st' := [.inl 1, .inl x0]) (h1 := hp L s c e) rfl ?_
  by_cases h0 : x0 = 1
  · rw [if_pos h0]
    refine Ru.jy rfl h0 ?_
    refine Ru.step (pc' := 23) (ls' := [some (.inl x0)]) (st' := [.inl 1]) (h1 := hp L s c e) rfl ?_
    refine Ru.step (pc' := 27) (ls' := [some (.inl x0)]) (st' := [.inl 1]) (h1 := hp L s c e) rfl ?_
    exact Ru.done rfl
  · rw [if_neg h0]
    refine Ru.jn rfl h0 ?_
    refine Ru.step (pc' := 6) (ls' := [some (.inl x0)]) (st' := [.inl x0]) (h1 := hp L s c e) rfl ?_
    refine Ru.step (pc' := 7) (ls' := [some (.inl x0)]) (st' := [.inl 2, .inl x0]) (h1 := hp L s c e) rfl ?_
    by_cases h1 : x0 = 2
    · rw [if_pos h1]
      refine Ru.jy rfl h1 ?_
      refine Ru.step (pc' := 23) (ls' := [some (.inl x0)]) (st' := [.inl 1]) (h1 := hp L s c e) rfl ?_
      refine Ru.step (pc' := 27) (ls' := [some (.inl x0)]) (st' := [.inl 1]) (h1 := hp L s c e) rfl ?_
      exact Ru.done rfl
    · rw [if_neg h1]
      refine Ru.jn rfl h1 ?_
      refine Ru.step (pc' := 11) (ls' := [some (.inl x0)]) (st' := [.inl x0]) (h1 := hp L s c e) rfl ?_
      refine Ru.step (pc' := 13) (ls' := [some (.inl x0)]) (st' := [.inl 16, .inl x0]) (h1 := hp L s c e) rfl ?_
      by_cases h2 : x0 < 16
      · rw [if_pos h2]
        refine Ru.jy rfl h2 ?_
        refine Ru.step (pc' := 27) (ls' := [some (.inl x0)]) (st' := [.inl 0]) (h1 := hp L s c e) rfl ?_
        exact Ru.done rfl
      · rw [if_neg h2]
        refine Ru.jn rfl h2 ?_
        refine Ru.step (pc' := 17) (ls' := [some (.inl x0)]) (st' := [.inl x0]) (h1 := hp L s c e) rfl ?_
        refine Ru.step (pc' := 19) (ls' := [some (.inl x0)]) (st' := [.inl 27, .inl x0]) (h1 := hp L s c e) rfl ?_
        by_cases h3 : 27 < x0
        · rw [if_pos h3]
          refine Ru.jy rfl h3 ?_
          refine Ru.step (pc' := 27) (ls' := [some (.inl x0)]) (st' := [.inl 0]) (h1 := hp L s c e) rfl ?_
          exact Ru.done rfl
        · rw [if_neg h3]
          refine Ru.jn rfl h3 ?_
          refine Ru.step (pc' := 23) (ls' := [some (.inl x0)]) (st' := [.inl 1]) (h1 := hp L s c e) rfl ?_
          refine Ru.step (pc' := 27) (ls' := [some (.inl x0)]) (st' := [.inl 1]) (h1 := hp L s c e) rfl ?_
          exact Ru.done rfl
/-- MachineText$Reader.clear()V -/
def f_140 (s : Nat → Nat → Int) : Nat → Nat → Int := (ax_u2 s 70 9 0)
theorem ev_140 {L c : Nat} {s : Nat → Nat → Int} {e : Nat → Nat} : Ev 1 140 [.inr (.inr (some 70))] (hp L s c e) (.inl none) (hp L (f_140 s) c e) := by
  unfold f_140
  refine Ev.of (μ := tb_m140) (ls := [some (.inr (.inr (some 70)))]) rfl (Nat.le_of_ble_eq_true rfl) rfl ?_
  refine Ru.step (pc' := 1) (ls' := [some (.inr (.inr (some 70)))]) (st' := [.inr (.inr (some 70))]) (h1 := hp L s c e) rfl ?_
  refine Ru.step (pc' := 2) (ls' := [some (.inr (.inr (some 70)))]) (st' := [.inl 0, .inr (.inr (some 70))]) (h1 := hp L s c e) rfl ?_
  refine Ru.step (pc' := 5) (ls' := [some (.inr (.inr (some 70)))]) (st' := []) (h1 := hp L (ax_u2 s 70 9 0) c e) rfl ?_
  exact Ru.done rfl
/-- MachineText$Reader.isDone()Z -/
def f_142 (s : Nat → Nat → Int) : Int := (if ¬ (s 70 9) = 0 then 0 else (if ¬ (s 39 11) = 0 then 0 else 1))
theorem ev_142 {L c : Nat} {s : Nat → Nat → Int} {e : Nat → Nat} : Ev 1 142 [.inr (.inr (some 70))] (hp L s c e) (.inl (some (.inl (f_142 s)))) (hp L s c e) := by
  unfold f_142
  refine Ev.of (μ := tb_m142) (ls := [some (.inr (.inr (some 70)))]) rfl (Nat.le_of_ble_eq_true rfl) rfl ?_
  refine Ru.step (pc' := 1) (ls' := [some (.inr (.inr (some 70)))]) (st' := [.inr (.inr (some 70))]) (h1 := hp L s c e) rfl ?_
  refine Ru.step (pc' := 4) (ls' := [some (.inr (.inr (some 70)))]) (st' := [.inl (s 70 9)]) (h1 := hp L s c e) rfl ?_
  by_cases h0 : ¬ (s 70 9) = 0
  · rw [if_pos h0]
    refine Ru.jy rfl h0 ?_
    refine Ru.step (pc' := 22) (ls' := [some (.inr (.inr (some 70)))]) (st' := [.inl 0]) (h1 := hp L s c e) rfl ?_
    exact Ru.done rfl
  · rw [if_neg h0]
    refine Ru.jn rfl h0 ?_
    refine Ru.step (pc' := 8) (ls' := [some (.inr (.inr (some 70)))]) (st' := [.inr (.inr (some 70))]) (h1 := hp L s c e) rfl ?_
    refine Ru.step (pc' := 11) (ls' := [some (.inr (.inr (some 70)))]) (st' := [.inr (.inr (some 39))]) (h1 := hp L s c e) rfl ?_
    refine Ru.step (pc' := 14) (ls' := [some (.inr (.inr (some 70)))]) (st' := [.inl (s 39 11)]) (h1 := hp L s c e) rfl ?_
    by_cases h1 : ¬ (s 39 11) = 0
    · rw [if_pos h1]
      refine Ru.jy rfl h1 ?_
      refine Ru.step (pc' := 22) (ls' := [some (.inr (.inr (some 70)))]) (st' := [.inl 0]) (h1 := hp L s c e) rfl ?_
      exact Ru.done rfl
    · rw [if_neg h1]
      refine Ru.jn rfl h1 ?_
      refine Ru.step (pc' := 18) (ls' := [some (.inr (.inr (some 70)))]) (st' := [.inl 1]) (h1 := hp L s c e) rfl ?_
      refine Ru.step (pc' := 22) (ls' := [some (.inr (.inr (some 70)))]) (st' := [.inl 1]) (h1 := hp L s c e) rfl ?_
      exact Ru.done rfl
/-- MachineText$Reader.isInBody()Z -/
def f_143 (s : Nat → Nat → Int) : Int := (if s 70 9 ≤ 0 then 0 else 1)
theorem ev_143 {L c : Nat} {s : Nat → Nat → Int} {e : Nat → Nat} : Ev 1 143 [.inr (.inr (some 70))] (hp L s c e) (.inl (some (.inl (f_143 s)))) (hp L s c e) := by
  unfold f_143
  refine Ev.of (μ := tb_m143) (ls := [some (.inr (.inr (some 70)))]) rfl (Nat.le_of_ble_eq_true rfl) rfl ?_
  refine Ru.step (pc' := 1) (ls' := [some (.inr (.inr (some 70)))]) (st' := [.inr (.inr (some 70))]) (h1 := hp L s c e) rfl ?_
  refine Ru.step (pc' := 4) (ls' := [some (.inr (.inr (some 70)))]) (st' := [.inl (s 70 9)]) (h1 := hp L s c e) rfl ?_
  by_cases h0 : s 70 9 ≤ 0
  · rw [if_pos h0]
    refine Ru.jy rfl h0 ?_
    refine Ru.step (pc' := 12) (ls' := [some (.inr (.inr (some 70)))]) (st' := [.inl 0]) (h1 := hp L s c e) rfl ?_
    exact Ru.done rfl
  · rw [if_neg h0]
    refine Ru.jn rfl h0 ?_
    refine Ru.step (pc' := 8) (ls' := [some (.inr (.inr (some 70)))]) (st' := [.inl 1]) (h1 := hp L s c e) rfl ?_
    refine Ru.step (pc' := 12) (ls' := [some (.inr (.inr (some 70)))]) (st' := [.inl 1]) (h1 := hp L s c e) rfl ?_
    exact Ru.done rfl
/-- MachineText$Rings.has(I)Z -/
def f_161 (x0 : Int) (s : Nat → Nat → Int) : Int := (if x0 < 0 then 0 else (if s 74 13 ≤ x0 then 0 else 1))
theorem ev_161 {L c : Nat} {s : Nat → Nat → Int} {e : Nat → Nat} (x0 : Int) : Ev 1 161 [.inr (.inr (some 74)), .inl x0] (hp L s c e) (.inl (some (.inl (f_161 x0 s)))) (hp L s c e) := by
  unfold f_161
  refine Ev.of (μ := tb_m161) (ls := [some (.inr (.inr (some 74))), some (.inl x0)]) rfl (Nat.le_of_ble_eq_true rfl) rfl ?_
  refine Ru.step (pc' := 1) (ls' := [some (.inr (.inr (some 74))), some (.inl x0)]) (st' := [.inl x0]) (h1 := hp L s c e) rfl ?_
  by_cases h0 : x0 < 0
  · rw [if_pos h0]
    refine Ru.jy rfl h0 ?_
    refine Ru.step (pc' := 17) (ls' := [some (.inr (.inr (some 74))), some (.inl x0)]) (st' := [.inl 0]) (h1 := hp L s c e) rfl ?_
    exact Ru.done rfl
  · rw [if_neg h0]
    refine Ru.jn rfl h0 ?_
    refine Ru.step (pc' := 5) (ls' := [some (.inr (.inr (some 74))), some (.inl x0)]) (st' := [.inl x0]) (h1 := hp L s c e) rfl ?_
    refine Ru.step (pc' := 6) (ls' := [some (.inr (.inr (some 74))), some (.inl x0)]) (st' := [.inr (.inr (some 74)), .inl x0]) (h1 := hp L s c e) rfl ?_
    refine Ru.step (pc' := 9) (ls' := [some (.inr (.inr (some 74))), some (.inl x0)]) (st' := [.inl (s 74 13), .inl x0]) (h1 := hp L s c e) rfl ?_
    by_cases h1 : s 74 13 ≤ x0
    · rw [if_pos h1]
      refine Ru.jy rfl h1 ?_
      refine Ru.step (pc' := 17) (ls' := [some (.inr (.inr (some 74))), some (.inl x0)]) (st' := [.inl 0]) (h1 := hp L s c e) rfl ?_
      exact Ru.done rfl
    · rw [if_neg h1]
      refine Ru.jn rfl h1 ?_
      refine Ru.step (pc' := 13) (ls' := [some (.inr (.inr (some 74))), some (.inl x0)]) (st' := [.inl 1]) (h1 := hp L s c e) rfl ?_
      refine Ru.step (pc' := 17) (ls' := [some (.inr (.inr (some 74))), some (.inl x0)]) (st' := [.inl 1]) (h1 := hp L s c e) rfl ?_
      exact Ru.done rfl
/-- MachineText$Rings.placeOf(I)I -/
def f_162 (x0 : Int) (s : Nat → Nat → Int) : Int := (if f_161 x0 s = 0 then (-1) else s 81 x0.toNat)
def g_162 (x0 : Int) (s : Nat → Nat → Int) : Prop := ((f_161 x0 s = 0 → True) ∧ (¬ (f_161 x0 s = 0) → ((0 ≤ x0 ∧ x0 < 1171) ∧ True)))
theorem ev_162 {L c : Nat} {s : Nat → Nat → Int} {e : Nat → Nat} (x0 : Int) (hg : g_162 x0 s) : Ev 2 162 [.inr (.inr (some 74)), .inl x0] (hp L s c e) (.inl (some (.inl (f_162 x0 s)))) (hp L s c e) := by
  unfold f_162
  unfold g_162 at hg
  refine Ev.of (μ := tb_m162) (ls := [some (.inr (.inr (some 74))), some (.inl x0)]) rfl (Nat.le_of_ble_eq_true rfl) rfl ?_
  refine Ru.step (pc' := 1) (ls' := [some (.inr (.inr (some 74))), some (.inl x0)]) (st' := [.inr (.inr (some 74))]) (h1 := hp L s c e) rfl ?_
  refine Ru.step (pc' := 2) (ls' := [some (.inr (.inr (some 74))), some (.inl x0)]) (st' := [.inl x0, .inr (.inr (some 74))]) (h1 := hp L s c e) rfl ?_
  refine Ru.call rfl ((ev_161 x0).up (by decide)) ?_
  by_cases h0 : f_161 x0 s = 0
  · rw [if_pos h0]
    have hg := hg.1 h0
    refine Ru.jy rfl h0 ?_
    refine Ru.step (pc' := 18) (ls' := [some (.inr (.inr (some 74))), some (.inl x0)]) (st' := [.inl (-1)]) (h1 := hp L s c e) rfl ?_
    exact Ru.done rfl
  · rw [if_neg h0]
    have hg := hg.2 h0
    refine Ru.jn rfl h0 ?_
    refine Ru.step (pc' := 9) (ls' := [some (.inr (.inr (some 74))), some (.inl x0)]) (st' := [.inr (.inr (some 74))]) (h1 := hp L s c e) rfl ?_
    refine Ru.step (pc' := 12) (ls' := [some (.inr (.inr (some 74))), some (.inl x0)]) (st' := [.inr (.inr (some 81))]) (h1 := hp L s c e) rfl ?_
    refine Ru.step (pc' := 13) (ls' := [some (.inr (.inr (some 74))), some (.inl x0)]) (st' := [.inl x0, .inr (.inr (some 81))]) (h1 := hp L s c e) rfl ?_
    obtain ⟨⟨b1, b2⟩, hg⟩ := hg
    refine Ru.ald (f := fun t => t == 0) (j := x0) (a := 81) rfl rfl b1 b2 ?_
    refine Ru.step (pc' := 18) (ls' := [some (.inr (.inr (some 74))), some (.inl x0)]) (st' := [.inl (s 81 x0.toNat)]) (h1 := hp L s c e) rfl ?_
    exact Ru.done rfl
/-- MachineText$Rings.clear()V -/
def f_163 (s : Nat → Nat → Int) : Nat → Nat → Int := (ax_u2 s 74 13 0)
theorem ev_163 {L c : Nat} {s : Nat → Nat → Int} {e : Nat → Nat} : Ev 1 163 [.inr (.inr (some 74))] (hp L s c e) (.inl none) (hp L (f_163 s) c e) := by
  unfold f_163
  refine Ev.of (μ := tb_m163) (ls := [some (.inr (.inr (some 74)))]) rfl (Nat.le_of_ble_eq_true rfl) rfl ?_
  refine Ru.step (pc' := 1) (ls' := [some (.inr (.inr (some 74)))]) (st' := [.inr (.inr (some 74))]) (h1 := hp L s c e) rfl ?_
  refine Ru.step (pc' := 2) (ls' := [some (.inr (.inr (some 74)))]) (st' := [.inl 0, .inr (.inr (some 74))]) (h1 := hp L s c e) rfl ?_
  refine Ru.step (pc' := 5) (ls' := [some (.inr (.inr (some 74)))]) (st' := []) (h1 := hp L (ax_u2 s 74 13 0) c e) rfl ?_
  exact Ru.done rfl
/-- MachineText$Rings.calledAt(I)I -/
def f_171 (x0 : Int) (s : Nat → Nat → Int) : Int := (if ¬ (f_79 (ax_w32 (x0 + 1)) s) = 40 then (-1) else f_109 (f_97 x0 s) s)
def g_171 (x0 : Int) (s : Nat → Nat → Int) : Prop := (g_79 (ax_w32 (x0 + 1)) s ∧ ((¬ (f_79 (ax_w32 (x0 + 1)) s) = 40 → True) ∧ (¬ (¬ (f_79 (ax_w32 (x0 + 1)) s) = 40) → (g_97 x0 s ∧ (g_109 (f_97 x0 s) s ∧ True)))))
theorem ev_171 {L c : Nat} {s : Nat → Nat → Int} {e : Nat → Nat} (x0 : Int) (hg : g_171 x0 s) : Ev 2 171 [.inr (.inr (some 74)), .inl x0] (hp L s c e) (.inl (some (.inl (f_171 x0 s)))) (hp L s c e) := by
  unfold f_171
  unfold g_171 at hg
  refine Ev.of (μ := tb_m171) (ls := [some (.inr (.inr (some 74))), some (.inl x0)]) rfl (Nat.le_of_ble_eq_true rfl) rfl ?_
  refine Ru.step (pc' := 1) (ls' := [some (.inr (.inr (some 74))), some (.inl x0)]) (st' := [.inr (.inr (some 74))]) (h1 := hp L s c e) rfl ?_
  refine Ru.step (pc' := 4) (ls' := [some (.inr (.inr (some 74))), some (.inl x0)]) (st' := [.inr (.inr (some 39))]) (h1 := hp L s c e) rfl ?_
  refine Ru.step (pc' := 5) (ls' := [some (.inr (.inr (some 74))), some (.inl x0)]) (st' := [.inl x0, .inr (.inr (some 39))]) (h1 := hp L s c e) rfl ?_
  refine Ru.step (pc' := 6) (ls' := [some (.inr (.inr (some 74))), some (.inl x0)]) (st' := [.inl 1, .inl x0, .inr (.inr (some 39))]) (h1 := hp L s c e) rfl ?_
  refine Ru.step (pc' := 7) (ls' := [some (.inr (.inr (some 74))), some (.inl x0)]) (st' := [.inl (ax_w32 (x0 + 1)), .inr (.inr (some 39))]) (h1 := hp L s c e) rfl ?_
  obtain ⟨b1, hg⟩ := hg
  refine Ru.call rfl ((ev_79 (ax_w32 (x0 + 1)) b1).up (by decide)) ?_
  refine Ru.step (pc' := 12) (ls' := [some (.inr (.inr (some 74))), some (.inl x0)]) (st' := [.inl 40, .inl (f_79 (ax_w32 (x0 + 1)) s)]) (h1 := hp L s c e) rfl ?_
  by_cases h0 : ¬ (f_79 (ax_w32 (x0 + 1)) s) = 40
  · rw [if_pos h0]
    have hg := hg.1 h0
    refine Ru.jy rfl h0 ?_
    refine Ru.step (pc' := 34) (ls' := [some (.inr (.inr (some 74))), some (.inl x0)]) (st' := [.inl (-1)]) (h1 := hp L s c e) rfl ?_
    exact Ru.done rfl
  · rw [if_neg h0]
    have hg := hg.2 h0
    refine Ru.jn rfl h0 ?_
    refine Ru.step (pc' := 16) (ls' := [some (.inr (.inr (some 74))), some (.inl x0)]) (st' := [.inr (.inr (some 74))]) (h1 := hp L s c e) rfl ?_
    refine Ru.step (pc' := 19) (ls' := [some (.inr (.inr (some 74))), some (.inl x0)]) (st' := [.inr (.inr (some 31))]) (h1 := hp L s c e) rfl ?_
    refine Ru.step (pc' := 20) (ls' := [some (.inr (.inr (some 74))), some (.inl x0)]) (st' := [.inr (.inr (some 74)), .inr (.inr (some 31))]) (h1 := hp L s c e) rfl ?_
    refine Ru.step (pc' := 23) (ls' := [some (.inr (.inr (some 74))), some (.inl x0)]) (st' := [.inr (.inr (some 39)), .inr (.inr (some 31))]) (h1 := hp L s c e) rfl ?_
    refine Ru.step (pc' := 24) (ls' := [some (.inr (.inr (some 74))), some (.inl x0)]) (st' := [.inl x0, .inr (.inr (some 39)), .inr (.inr (some 31))]) (h1 := hp L s c e) rfl ?_
    obtain ⟨b1, hg⟩ := hg
    refine Ru.call rfl ((ev_97 x0 b1).up (by decide)) ?_
    obtain ⟨b1, hg⟩ := hg
    refine Ru.call rfl ((ev_109 (f_97 x0 s) b1).up (by decide)) ?_
    refine Ru.step (pc' := 34) (ls' := [some (.inr (.inr (some 74))), some (.inl x0)]) (st' := [.inl (f_109 (f_97 x0 s) s)]) (h1 := hp L s c e) rfl ?_
    exact Ru.done rfl
/-- MachineText$Rings.isRow(I)Z -/
def f_173 (x0 : Int) (s : Nat → Nat → Int) : Int := (if x0 < 0 then 0 else (if s 54 6 ≤ x0 then 0 else (if 1171 ≤ x0 then 0 else 1)))
theorem ev_173 {L c : Nat} {s : Nat → Nat → Int} {e : Nat → Nat} (x0 : Int) : Ev 1 173 [.inr (.inr (some 74)), .inl x0] (hp L s c e) (.inl (some (.inl (f_173 x0 s)))) (hp L s c e) := by
  unfold f_173
  refine Ev.of (μ := tb_m173) (ls := [some (.inr (.inr (some 74))), some (.inl x0)]) rfl (Nat.le_of_ble_eq_true rfl) rfl ?_
  refine Ru.step (pc' := 1) (ls' := [some (.inr (.inr (some 74))), some (.inl x0)]) (st' := [.inl x0]) (h1 := hp L s c e) rfl ?_
  by_cases h0 : x0 < 0
  · rw [if_pos h0]
    refine Ru.jy rfl h0 ?_
    refine Ru.step (pc' := 27) (ls' := [some (.inr (.inr (some 74))), some (.inl x0)]) (st' := [.inl 0]) (h1 := hp L s c e) rfl ?_
    exact Ru.done rfl
  · rw [if_neg h0]
    refine Ru.jn rfl h0 ?_
    refine Ru.step (pc' := 5) (ls' := [some (.inr (.inr (some 74))), some (.inl x0)]) (st' := [.inl x0]) (h1 := hp L s c e) rfl ?_
    refine Ru.step (pc' := 6) (ls' := [some (.inr (.inr (some 74))), some (.inl x0)]) (st' := [.inr (.inr (some 74)), .inl x0]) (h1 := hp L s c e) rfl ?_
    refine Ru.step (pc' := 9) (ls' := [some (.inr (.inr (some 74))), some (.inl x0)]) (st' := [.inr (.inr (some 54)), .inl x0]) (h1 := hp L s c e) rfl ?_
    refine Ru.step (pc' := 12) (ls' := [some (.inr (.inr (some 74))), some (.inl x0)]) (st' := [.inl (s 54 6), .inl x0]) (h1 := hp L s c e) rfl ?_
    by_cases h1 : s 54 6 ≤ x0
    · rw [if_pos h1]
      refine Ru.jy rfl h1 ?_
      refine Ru.step (pc' := 27) (ls' := [some (.inr (.inr (some 74))), some (.inl x0)]) (st' := [.inl 0]) (h1 := hp L s c e) rfl ?_
      exact Ru.done rfl
    · rw [if_neg h1]
      refine Ru.jn rfl h1 ?_
      refine Ru.step (pc' := 16) (ls' := [some (.inr (.inr (some 74))), some (.inl x0)]) (st' := [.inl x0]) (h1 := hp L s c e) rfl ?_
      refine Ru.step (pc' := 19) (ls' := [some (.inr (.inr (some 74))), some (.inl x0)]) (st' := [.inl 1171, .inl x0]) (h1 := hp L s c e) rfl ?_
      by_cases h2 : 1171 ≤ x0
      · rw [if_pos h2]
        refine Ru.jy rfl h2 ?_
        refine Ru.step (pc' := 27) (ls' := [some (.inr (.inr (some 74))), some (.inl x0)]) (st' := [.inl 0]) (h1 := hp L s c e) rfl ?_
        exact Ru.done rfl
      · rw [if_neg h2]
        refine Ru.jn rfl h2 ?_
        refine Ru.step (pc' := 23) (ls' := [some (.inr (.inr (some 74))), some (.inl x0)]) (st' := [.inl 1]) (h1 := hp L s c e) rfl ?_
        refine Ru.step (pc' := 27) (ls' := [some (.inr (.inr (some 74))), some (.inl x0)]) (st' := [.inl 1]) (h1 := hp L s c e) rfl ?_
        exact Ru.done rfl
/-- MachineText$Rings.enqueue(I)V -/
def f_174 (x0 : Int) (s : Nat → Nat → Int) : Nat → Nat → Int := (if 1171 ≤ s 74 11 then s else (ax_u2 (ax_u2 s 80 ((s 74 11).toNat) x0) 74 11 (ax_w32 ((s 74 11) + 1))))
def g_174 (x0 : Int) (s : Nat → Nat → Int) : Prop := ((1171 ≤ s 74 11 → True) ∧ (¬ (1171 ≤ s 74 11) → ((0 ≤ s 74 11 ∧ s 74 11 < 1171) ∧ True)))
theorem ev_174 {L c : Nat} {s : Nat → Nat → Int} {e : Nat → Nat} (x0 : Int) (hg : g_174 x0 s) : Ev 1 174 [.inr (.inr (some 74)), .inl x0] (hp L s c e) (.inl none) (hp L (f_174 x0 s) c e) := by
  unfold f_174
  unfold g_174 at hg
  refine Ev.of (μ := tb_m174) (ls := [some (.inr (.inr (some 74))), some (.inl x0)]) rfl (Nat.le_of_ble_eq_true rfl) rfl ?_
  refine Ru.step (pc' := 1) (ls' := [some (.inr (.inr (some 74))), some (.inl x0)]) (st' := [.inr (.inr (some 74))]) (h1 := hp L s c e) rfl ?_
  refine Ru.step (pc' := 4) (ls' := [some (.inr (.inr (some 74))), some (.inl x0)]) (st' := [.inl (s 74 11)]) (h1 := hp L s c e) rfl ?_
  refine Ru.step (pc' := 7) (ls' := [some (.inr (.inr (some 74))), some (.inl x0)]) (st' := [.inl 1171, .inl (s 74 11)]) (h1 := hp L s c e) rfl ?_
  by_cases h0 : 1171 ≤ s 74 11
  · rw [if_pos h0]
    have hg := hg.1 h0
    refine Ru.jy rfl h0 ?_
    exact Ru.done rfl
  · rw [if_neg h0]
    have hg := hg.2 h0
    refine Ru.jn rfl h0 ?_
    refine Ru.step (pc' := 11) (ls' := [some (.inr (.inr (some 74))), some (.inl x0)]) (st' := [.inr (.inr (some 74))]) (h1 := hp L s c e) rfl ?_
    refine Ru.step (pc' := 14) (ls' := [some (.inr (.inr (some 74))), some (.inl x0)]) (st' := [.inr (.inr (some 80))]) (h1 := hp L s c e) rfl ?_
    refine Ru.step (pc' := 15) (ls' := [some (.inr (.inr (some 74))), some (.inl x0)]) (st' := [.inr (.inr (some 74)), .inr (.inr (some 80))]) (h1 := hp L s c e) rfl ?_
    refine Ru.step (pc' := 18) (ls' := [some (.inr (.inr (some 74))), some (.inl x0)]) (st' := [.inl (s 74 11), .inr (.inr (some 80))]) (h1 := hp L s c e) rfl ?_
    refine Ru.step (pc' := 19) (ls' := [some (.inr (.inr (some 74))), some (.inl x0)]) (st' := [.inl x0, .inl (s 74 11), .inr (.inr (some 80))]) (h1 := hp L s c e) rfl ?_
    obtain ⟨⟨b1, b2⟩, hg⟩ := hg
    refine Ru.ast (f := fun t => t == 0) (j := s 74 11) (a := 80) rfl rfl (by decide) rfl rfl b1 b2 ?_
    refine Ru.step (pc' := 21) (ls' := [some (.inr (.inr (some 74))), some (.inl x0)]) (st' := [.inr (.inr (some 74))]) (h1 := hp L (ax_u2 s 80 ((s 74 11).toNat) x0) c e) rfl ?_
    refine Ru.step (pc' := 22) (ls' := [some (.inr (.inr (some 74))), some (.inl x0)]) (st' := [.inr (.inr (some 74)), .inr (.inr (some 74))]) (h1 := hp L (ax_u2 s 80 ((s 74 11).toNat) x0) c e) rfl ?_
    refine Ru.step (pc' := 25) (ls' := [some (.inr (.inr (some 74))), some (.inl x0)]) (st' := [.inl (s 74 11), .inr (.inr (some 74))]) (h1 := hp L (ax_u2 s 80 ((s 74 11).toNat) x0) c e) rfl ?_
    refine Ru.step (pc' := 26) (ls' := [some (.inr (.inr (some 74))), some (.inl x0)]) (st' := [.inl 1, .inl (s 74 11), .inr (.inr (some 74))]) (h1 := hp L (ax_u2 s 80 ((s 74 11).toNat) x0) c e) rfl ?_
    refine Ru.step (pc' := 27) (ls' := [some (.inr (.inr (some 74))), some (.inl x0)]) (st' := [.inl (ax_w32 ((s 74 11) + 1)), .inr (.inr (some 74))]) (h1 := hp L (ax_u2 s 80 ((s 74 11).toNat) x0) c e) rfl ?_
    refine Ru.step (pc' := 30) (ls' := [some (.inr (.inr (some 74))), some (.inl x0)]) (st' := []) (h1 := hp L (ax_u2 (ax_u2 s 80 ((s 74 11).toNat) x0) 74 11 (ax_w32 ((s 74 11) + 1))) c e) rfl ?_
    exact Ru.done rfl
/-- MachineText$Rings.chainOf(I)I -/
def f_175 (x0 : Int) (s : Nat → Nat → Int) : Int := (if f_173 x0 s = 0 then (-1) else s 75 x0.toNat)
def g_175 (x0 : Int) (s : Nat → Nat → Int) : Prop := ((f_173 x0 s = 0 → True) ∧ (¬ (f_173 x0 s = 0) → ((0 ≤ x0 ∧ x0 < 1171) ∧ True)))
theorem ev_175 {L c : Nat} {s : Nat → Nat → Int} {e : Nat → Nat} (x0 : Int) (hg : g_175 x0 s) : Ev 2 175 [.inr (.inr (some 74)), .inl x0] (hp L s c e) (.inl (some (.inl (f_175 x0 s)))) (hp L s c e) := by
  unfold f_175
  unfold g_175 at hg
  refine Ev.of (μ := tb_m175) (ls := [some (.inr (.inr (some 74))), some (.inl x0)]) rfl (Nat.le_of_ble_eq_true rfl) rfl ?_
  refine Ru.step (pc' := 1) (ls' := [some (.inr (.inr (some 74))), some (.inl x0)]) (st' := [.inr (.inr (some 74))]) (h1 := hp L s c e) rfl ?_
  refine Ru.step (pc' := 2) (ls' := [some (.inr (.inr (some 74))), some (.inl x0)]) (st' := [.inl x0, .inr (.inr (some 74))]) (h1 := hp L s c e) rfl ?_
  refine Ru.call rfl ((ev_173 x0).up (by decide)) ?_
  by_cases h0 : f_173 x0 s = 0
  · rw [if_pos h0]
    have hg := hg.1 h0
    refine Ru.jy rfl h0 ?_
    refine Ru.step (pc' := 18) (ls' := [some (.inr (.inr (some 74))), some (.inl x0)]) (st' := [.inl (-1)]) (h1 := hp L s c e) rfl ?_
    exact Ru.done rfl
  · rw [if_neg h0]
    have hg := hg.2 h0
    refine Ru.jn rfl h0 ?_
    refine Ru.step (pc' := 9) (ls' := [some (.inr (.inr (some 74))), some (.inl x0)]) (st' := [.inr (.inr (some 74))]) (h1 := hp L s c e) rfl ?_
    refine Ru.step (pc' := 12) (ls' := [some (.inr (.inr (some 74))), some (.inl x0)]) (st' := [.inr (.inr (some 75))]) (h1 := hp L s c e) rfl ?_
    refine Ru.step (pc' := 13) (ls' := [some (.inr (.inr (some 74))), some (.inl x0)]) (st' := [.inl x0, .inr (.inr (some 75))]) (h1 := hp L s c e) rfl ?_
    obtain ⟨⟨b1, b2⟩, hg⟩ := hg
    refine Ru.ald (f := fun t => t == 0) (j := x0) (a := 75) rfl rfl b1 b2 ?_
    refine Ru.step (pc' := 18) (ls' := [some (.inr (.inr (some 74))), some (.inl x0)]) (st' := [.inl (s 75 x0.toNat)]) (h1 := hp L s c e) rfl ?_
    exact Ru.done rfl
/-- MachineText$Rings.isCall(I)Z -/
def f_176 (x0 : Int) (s : Nat → Nat → Int) : Int := (if x0 < 0 then 0 else (if s 74 7 ≤ x0 then 0 else (if 2731 ≤ x0 then 0 else 1)))
theorem ev_176 {L c : Nat} {s : Nat → Nat → Int} {e : Nat → Nat} (x0 : Int) : Ev 1 176 [.inr (.inr (some 74)), .inl x0] (hp L s c e) (.inl (some (.inl (f_176 x0 s)))) (hp L s c e) := by
  unfold f_176
  refine Ev.of (μ := tb_m176) (ls := [some (.inr (.inr (some 74))), some (.inl x0)]) rfl (Nat.le_of_ble_eq_true rfl) rfl ?_
  refine Ru.step (pc' := 1) (ls' := [some (.inr (.inr (some 74))), some (.inl x0)]) (st' := [.inl x0]) (h1 := hp L s c e) rfl ?_
  by_cases h0 : x0 < 0
  · rw [if_pos h0]
    refine Ru.jy rfl h0 ?_
    refine Ru.step (pc' := 24) (ls' := [some (.inr (.inr (some 74))), some (.inl x0)]) (st' := [.inl 0]) (h1 := hp L s c e) rfl ?_
    exact Ru.done rfl
  · rw [if_neg h0]
    refine Ru.jn rfl h0 ?_
    refine Ru.step (pc' := 5) (ls' := [some (.inr (.inr (some 74))), some (.inl x0)]) (st' := [.inl x0]) (h1 := hp L s c e) rfl ?_
    refine Ru.step (pc' := 6) (ls' := [some (.inr (.inr (some 74))), some (.inl x0)]) (st' := [.inr (.inr (some 74)), .inl x0]) (h1 := hp L s c e) rfl ?_
    refine Ru.step (pc' := 9) (ls' := [some (.inr (.inr (some 74))), some (.inl x0)]) (st' := [.inl (s 74 7), .inl x0]) (h1 := hp L s c e) rfl ?_
    by_cases h1 : s 74 7 ≤ x0
    · rw [if_pos h1]
      refine Ru.jy rfl h1 ?_
      refine Ru.step (pc' := 24) (ls' := [some (.inr (.inr (some 74))), some (.inl x0)]) (st' := [.inl 0]) (h1 := hp L s c e) rfl ?_
      exact Ru.done rfl
    · rw [if_neg h1]
      refine Ru.jn rfl h1 ?_
      refine Ru.step (pc' := 13) (ls' := [some (.inr (.inr (some 74))), some (.inl x0)]) (st' := [.inl x0]) (h1 := hp L s c e) rfl ?_
      refine Ru.step (pc' := 16) (ls' := [some (.inr (.inr (some 74))), some (.inl x0)]) (st' := [.inl 2731, .inl x0]) (h1 := hp L s c e) rfl ?_
      by_cases h2 : 2731 ≤ x0
      · rw [if_pos h2]
        refine Ru.jy rfl h2 ?_
        refine Ru.step (pc' := 24) (ls' := [some (.inr (.inr (some 74))), some (.inl x0)]) (st' := [.inl 0]) (h1 := hp L s c e) rfl ?_
        exact Ru.done rfl
      · rw [if_neg h2]
        refine Ru.jn rfl h2 ?_
        refine Ru.step (pc' := 20) (ls' := [some (.inr (.inr (some 74))), some (.inl x0)]) (st' := [.inl 1]) (h1 := hp L s c e) rfl ?_
        refine Ru.step (pc' := 24) (ls' := [some (.inr (.inr (some 74))), some (.inl x0)]) (st' := [.inl 1]) (h1 := hp L s c e) rfl ?_
        exact Ru.done rfl
/-- MachineText$Statements.clear()V -/
def f_180 (s : Nat → Nat → Int) : Nat → Nat → Int := (ax_u2 (ax_u2 s 54 6 0) 54 7 0)
theorem ev_180 {L c : Nat} {s : Nat → Nat → Int} {e : Nat → Nat} : Ev 1 180 [.inr (.inr (some 54))] (hp L s c e) (.inl none) (hp L (f_180 s) c e) := by
  unfold f_180
  refine Ev.of (μ := tb_m180) (ls := [some (.inr (.inr (some 54)))]) rfl (Nat.le_of_ble_eq_true rfl) rfl ?_
  refine Ru.step (pc' := 1) (ls' := [some (.inr (.inr (some 54)))]) (st' := [.inr (.inr (some 54))]) (h1 := hp L s c e) rfl ?_
  refine Ru.step (pc' := 2) (ls' := [some (.inr (.inr (some 54)))]) (st' := [.inl 0, .inr (.inr (some 54))]) (h1 := hp L s c e) rfl ?_
  refine Ru.step (pc' := 5) (ls' := [some (.inr (.inr (some 54)))]) (st' := []) (h1 := hp L (ax_u2 s 54 6 0) c e) rfl ?_
  refine Ru.step (pc' := 6) (ls' := [some (.inr (.inr (some 54)))]) (st' := [.inr (.inr (some 54))]) (h1 := hp L (ax_u2 s 54 6 0) c e) rfl ?_
  refine Ru.step (pc' := 7) (ls' := [some (.inr (.inr (some 54)))]) (st' := [.inl 0, .inr (.inr (some 54))]) (h1 := hp L (ax_u2 s 54 6 0) c e) rfl ?_
  refine Ru.step (pc' := 10) (ls' := [some (.inr (.inr (some 54)))]) (st' := []) (h1 := hp L (ax_u2 (ax_u2 s 54 6 0) 54 7 0) c e) rfl ?_
  exact Ru.done rfl
/-- MachineText$Statements.has(I)Z -/
def f_181 (x0 : Int) (s : Nat → Nat → Int) : Int := (if x0 < 0 then 0 else (if s 54 6 ≤ x0 then 0 else 1))
theorem ev_181 {L c : Nat} {s : Nat → Nat → Int} {e : Nat → Nat} (x0 : Int) : Ev 1 181 [.inr (.inr (some 54)), .inl x0] (hp L s c e) (.inl (some (.inl (f_181 x0 s)))) (hp L s c e) := by
  unfold f_181
  refine Ev.of (μ := tb_m181) (ls := [some (.inr (.inr (some 54))), some (.inl x0)]) rfl (Nat.le_of_ble_eq_true rfl) rfl ?_
  refine Ru.step (pc' := 1) (ls' := [some (.inr (.inr (some 54))), some (.inl x0)]) (st' := [.inl x0]) (h1 := hp L s c e) rfl ?_
  by_cases h0 : x0 < 0
  · rw [if_pos h0]
    refine Ru.jy rfl h0 ?_
    refine Ru.step (pc' := 17) (ls' := [some (.inr (.inr (some 54))), some (.inl x0)]) (st' := [.inl 0]) (h1 := hp L s c e) rfl ?_
    exact Ru.done rfl
  · rw [if_neg h0]
    refine Ru.jn rfl h0 ?_
    refine Ru.step (pc' := 5) (ls' := [some (.inr (.inr (some 54))), some (.inl x0)]) (st' := [.inl x0]) (h1 := hp L s c e) rfl ?_
    refine Ru.step (pc' := 6) (ls' := [some (.inr (.inr (some 54))), some (.inl x0)]) (st' := [.inr (.inr (some 54)), .inl x0]) (h1 := hp L s c e) rfl ?_
    refine Ru.step (pc' := 9) (ls' := [some (.inr (.inr (some 54))), some (.inl x0)]) (st' := [.inl (s 54 6), .inl x0]) (h1 := hp L s c e) rfl ?_
    by_cases h1 : s 54 6 ≤ x0
    · rw [if_pos h1]
      refine Ru.jy rfl h1 ?_
      refine Ru.step (pc' := 17) (ls' := [some (.inr (.inr (some 54))), some (.inl x0)]) (st' := [.inl 0]) (h1 := hp L s c e) rfl ?_
      exact Ru.done rfl
    · rw [if_neg h1]
      refine Ru.jn rfl h1 ?_
      refine Ru.step (pc' := 13) (ls' := [some (.inr (.inr (some 54))), some (.inl x0)]) (st' := [.inl 1]) (h1 := hp L s c e) rfl ?_
      refine Ru.step (pc' := 17) (ls' := [some (.inr (.inr (some 54))), some (.inl x0)]) (st' := [.inl 1]) (h1 := hp L s c e) rfl ?_
      exact Ru.done rfl
/-- MachineText$Statements.kindOf(I)I -/
def f_182 (x0 : Int) (s : Nat → Nat → Int) : Int := (if f_181 x0 s = 0 then (-1) else s 55 x0.toNat)
def g_182 (x0 : Int) (s : Nat → Nat → Int) : Prop := ((f_181 x0 s = 0 → True) ∧ (¬ (f_181 x0 s = 0) → ((0 ≤ x0 ∧ x0 < 1171) ∧ True)))
theorem ev_182 {L c : Nat} {s : Nat → Nat → Int} {e : Nat → Nat} (x0 : Int) (hg : g_182 x0 s) : Ev 2 182 [.inr (.inr (some 54)), .inl x0] (hp L s c e) (.inl (some (.inl (f_182 x0 s)))) (hp L s c e) := by
  unfold f_182
  unfold g_182 at hg
  refine Ev.of (μ := tb_m182) (ls := [some (.inr (.inr (some 54))), some (.inl x0)]) rfl (Nat.le_of_ble_eq_true rfl) rfl ?_
  refine Ru.step (pc' := 1) (ls' := [some (.inr (.inr (some 54))), some (.inl x0)]) (st' := [.inr (.inr (some 54))]) (h1 := hp L s c e) rfl ?_
  refine Ru.step (pc' := 2) (ls' := [some (.inr (.inr (some 54))), some (.inl x0)]) (st' := [.inl x0, .inr (.inr (some 54))]) (h1 := hp L s c e) rfl ?_
  refine Ru.call rfl ((ev_181 x0).up (by decide)) ?_
  by_cases h0 : f_181 x0 s = 0
  · rw [if_pos h0]
    have hg := hg.1 h0
    refine Ru.jy rfl h0 ?_
    refine Ru.step (pc' := 18) (ls' := [some (.inr (.inr (some 54))), some (.inl x0)]) (st' := [.inl (-1)]) (h1 := hp L s c e) rfl ?_
    exact Ru.done rfl
  · rw [if_neg h0]
    have hg := hg.2 h0
    refine Ru.jn rfl h0 ?_
    refine Ru.step (pc' := 9) (ls' := [some (.inr (.inr (some 54))), some (.inl x0)]) (st' := [.inr (.inr (some 54))]) (h1 := hp L s c e) rfl ?_
    refine Ru.step (pc' := 12) (ls' := [some (.inr (.inr (some 54))), some (.inl x0)]) (st' := [.inr (.inr (some 55))]) (h1 := hp L s c e) rfl ?_
    refine Ru.step (pc' := 13) (ls' := [some (.inr (.inr (some 54))), some (.inl x0)]) (st' := [.inl x0, .inr (.inr (some 55))]) (h1 := hp L s c e) rfl ?_
    obtain ⟨⟨b1, b2⟩, hg⟩ := hg
    refine Ru.ald (f := fun t => t == 0) (j := x0) (a := 55) rfl rfl b1 b2 ?_
    refine Ru.step (pc' := 18) (ls' := [some (.inr (.inr (some 54))), some (.inl x0)]) (st' := [.inl (s 55 x0.toNat)]) (h1 := hp L s c e) rfl ?_
    exact Ru.done rfl
/-- MachineText$Statements.widthOf(I)I -/
def f_183 (x0 : Int) (s : Nat → Nat → Int) : Int := (if f_181 x0 s = 0 then 0 else s 57 x0.toNat)
def g_183 (x0 : Int) (s : Nat → Nat → Int) : Prop := ((f_181 x0 s = 0 → True) ∧ (¬ (f_181 x0 s = 0) → ((0 ≤ x0 ∧ x0 < 1171) ∧ True)))
theorem ev_183 {L c : Nat} {s : Nat → Nat → Int} {e : Nat → Nat} (x0 : Int) (hg : g_183 x0 s) : Ev 2 183 [.inr (.inr (some 54)), .inl x0] (hp L s c e) (.inl (some (.inl (f_183 x0 s)))) (hp L s c e) := by
  unfold f_183
  unfold g_183 at hg
  refine Ev.of (μ := tb_m183) (ls := [some (.inr (.inr (some 54))), some (.inl x0)]) rfl (Nat.le_of_ble_eq_true rfl) rfl ?_
  refine Ru.step (pc' := 1) (ls' := [some (.inr (.inr (some 54))), some (.inl x0)]) (st' := [.inr (.inr (some 54))]) (h1 := hp L s c e) rfl ?_
  refine Ru.step (pc' := 2) (ls' := [some (.inr (.inr (some 54))), some (.inl x0)]) (st' := [.inl x0, .inr (.inr (some 54))]) (h1 := hp L s c e) rfl ?_
  refine Ru.call rfl ((ev_181 x0).up (by decide)) ?_
  by_cases h0 : f_181 x0 s = 0
  · rw [if_pos h0]
    have hg := hg.1 h0
    refine Ru.jy rfl h0 ?_
    refine Ru.step (pc' := 18) (ls' := [some (.inr (.inr (some 54))), some (.inl x0)]) (st' := [.inl 0]) (h1 := hp L s c e) rfl ?_
    exact Ru.done rfl
  · rw [if_neg h0]
    have hg := hg.2 h0
    refine Ru.jn rfl h0 ?_
    refine Ru.step (pc' := 9) (ls' := [some (.inr (.inr (some 54))), some (.inl x0)]) (st' := [.inr (.inr (some 54))]) (h1 := hp L s c e) rfl ?_
    refine Ru.step (pc' := 12) (ls' := [some (.inr (.inr (some 54))), some (.inl x0)]) (st' := [.inr (.inr (some 57))]) (h1 := hp L s c e) rfl ?_
    refine Ru.step (pc' := 13) (ls' := [some (.inr (.inr (some 54))), some (.inl x0)]) (st' := [.inl x0, .inr (.inr (some 57))]) (h1 := hp L s c e) rfl ?_
    obtain ⟨⟨b1, b2⟩, hg⟩ := hg
    refine Ru.ald (f := fun t => t == 0) (j := x0) (a := 57) rfl rfl b1 b2 ?_
    refine Ru.step (pc' := 18) (ls' := [some (.inr (.inr (some 54))), some (.inl x0)]) (st' := [.inl (s 57 x0.toNat)]) (h1 := hp L s c e) rfl ?_
    exact Ru.done rfl
/-- MachineText$Statements.amountOf(I)I -/
def f_184 (x0 : Int) (s : Nat → Nat → Int) : Int := (if f_181 x0 s = 0 then 0 else s 58 x0.toNat)
def g_184 (x0 : Int) (s : Nat → Nat → Int) : Prop := ((f_181 x0 s = 0 → True) ∧ (¬ (f_181 x0 s = 0) → ((0 ≤ x0 ∧ x0 < 1171) ∧ True)))
theorem ev_184 {L c : Nat} {s : Nat → Nat → Int} {e : Nat → Nat} (x0 : Int) (hg : g_184 x0 s) : Ev 2 184 [.inr (.inr (some 54)), .inl x0] (hp L s c e) (.inl (some (.inl (f_184 x0 s)))) (hp L s c e) := by
  unfold f_184
  unfold g_184 at hg
  refine Ev.of (μ := tb_m184) (ls := [some (.inr (.inr (some 54))), some (.inl x0)]) rfl (Nat.le_of_ble_eq_true rfl) rfl ?_
  refine Ru.step (pc' := 1) (ls' := [some (.inr (.inr (some 54))), some (.inl x0)]) (st' := [.inr (.inr (some 54))]) (h1 := hp L s c e) rfl ?_
  refine Ru.step (pc' := 2) (ls' := [some (.inr (.inr (some 54))), some (.inl x0)]) (st' := [.inl x0, .inr (.inr (some 54))]) (h1 := hp L s c e) rfl ?_
  refine Ru.call rfl ((ev_181 x0).up (by decide)) ?_
  by_cases h0 : f_181 x0 s = 0
  · rw [if_pos h0]
    have hg := hg.1 h0
    refine Ru.jy rfl h0 ?_
    refine Ru.step (pc' := 18) (ls' := [some (.inr (.inr (some 54))), some (.inl x0)]) (st' := [.inl 0]) (h1 := hp L s c e) rfl ?_
    exact Ru.done rfl
  · rw [if_neg h0]
    have hg := hg.2 h0
    refine Ru.jn rfl h0 ?_
    refine Ru.step (pc' := 9) (ls' := [some (.inr (.inr (some 54))), some (.inl x0)]) (st' := [.inr (.inr (some 54))]) (h1 := hp L s c e) rfl ?_
    refine Ru.step (pc' := 12) (ls' := [some (.inr (.inr (some 54))), some (.inl x0)]) (st' := [.inr (.inr (some 58))]) (h1 := hp L s c e) rfl ?_
    refine Ru.step (pc' := 13) (ls' := [some (.inr (.inr (some 54))), some (.inl x0)]) (st' := [.inl x0, .inr (.inr (some 58))]) (h1 := hp L s c e) rfl ?_
    obtain ⟨⟨b1, b2⟩, hg⟩ := hg
    refine Ru.ald (f := fun t => t == 0) (j := x0) (a := 58) rfl rfl b1 b2 ?_
    refine Ru.step (pc' := 18) (ls' := [some (.inr (.inr (some 54))), some (.inl x0)]) (st' := [.inl (s 58 x0.toNat)]) (h1 := hp L s c e) rfl ?_
    exact Ru.done rfl
/-- MachineText$Statements.actionsOf(I)I -/
def f_185 (x0 : Int) (s : Nat → Nat → Int) : Int := (if f_181 x0 s = 0 then 0 else s 59 x0.toNat)
def g_185 (x0 : Int) (s : Nat → Nat → Int) : Prop := ((f_181 x0 s = 0 → True) ∧ (¬ (f_181 x0 s = 0) → ((0 ≤ x0 ∧ x0 < 1171) ∧ True)))
theorem ev_185 {L c : Nat} {s : Nat → Nat → Int} {e : Nat → Nat} (x0 : Int) (hg : g_185 x0 s) : Ev 2 185 [.inr (.inr (some 54)), .inl x0] (hp L s c e) (.inl (some (.inl (f_185 x0 s)))) (hp L s c e) := by
  unfold f_185
  unfold g_185 at hg
  refine Ev.of (μ := tb_m185) (ls := [some (.inr (.inr (some 54))), some (.inl x0)]) rfl (Nat.le_of_ble_eq_true rfl) rfl ?_
  refine Ru.step (pc' := 1) (ls' := [some (.inr (.inr (some 54))), some (.inl x0)]) (st' := [.inr (.inr (some 54))]) (h1 := hp L s c e) rfl ?_
  refine Ru.step (pc' := 2) (ls' := [some (.inr (.inr (some 54))), some (.inl x0)]) (st' := [.inl x0, .inr (.inr (some 54))]) (h1 := hp L s c e) rfl ?_
  refine Ru.call rfl ((ev_181 x0).up (by decide)) ?_
  by_cases h0 : f_181 x0 s = 0
  · rw [if_pos h0]
    have hg := hg.1 h0
    refine Ru.jy rfl h0 ?_
    refine Ru.step (pc' := 18) (ls' := [some (.inr (.inr (some 54))), some (.inl x0)]) (st' := [.inl 0]) (h1 := hp L s c e) rfl ?_
    exact Ru.done rfl
  · rw [if_neg h0]
    have hg := hg.2 h0
    refine Ru.jn rfl h0 ?_
    refine Ru.step (pc' := 9) (ls' := [some (.inr (.inr (some 54))), some (.inl x0)]) (st' := [.inr (.inr (some 54))]) (h1 := hp L s c e) rfl ?_
    refine Ru.step (pc' := 12) (ls' := [some (.inr (.inr (some 54))), some (.inl x0)]) (st' := [.inr (.inr (some 59))]) (h1 := hp L s c e) rfl ?_
    refine Ru.step (pc' := 13) (ls' := [some (.inr (.inr (some 54))), some (.inl x0)]) (st' := [.inl x0, .inr (.inr (some 59))]) (h1 := hp L s c e) rfl ?_
    obtain ⟨⟨b1, b2⟩, hg⟩ := hg
    refine Ru.ald (f := fun t => t == 0) (j := x0) (a := 59) rfl rfl b1 b2 ?_
    refine Ru.step (pc' := 18) (ls' := [some (.inr (.inr (some 54))), some (.inl x0)]) (st' := [.inl (s 59 x0.toNat)]) (h1 := hp L s c e) rfl ?_
    exact Ru.done rfl
/-- MachineText$Statements.nodesBefore(I)I -/
def f_186 (x0 : Int) (s : Nat → Nat → Int) : Int := (if f_181 x0 s = 0 then 0 else s 60 x0.toNat)
def g_186 (x0 : Int) (s : Nat → Nat → Int) : Prop := ((f_181 x0 s = 0 → True) ∧ (¬ (f_181 x0 s = 0) → ((0 ≤ x0 ∧ x0 < 1171) ∧ True)))
theorem ev_186 {L c : Nat} {s : Nat → Nat → Int} {e : Nat → Nat} (x0 : Int) (hg : g_186 x0 s) : Ev 2 186 [.inr (.inr (some 54)), .inl x0] (hp L s c e) (.inl (some (.inl (f_186 x0 s)))) (hp L s c e) := by
  unfold f_186
  unfold g_186 at hg
  refine Ev.of (μ := tb_m186) (ls := [some (.inr (.inr (some 54))), some (.inl x0)]) rfl (Nat.le_of_ble_eq_true rfl) rfl ?_
  refine Ru.step (pc' := 1) (ls' := [some (.inr (.inr (some 54))), some (.inl x0)]) (st' := [.inr (.inr (some 54))]) (h1 := hp L s c e) rfl ?_
  refine Ru.step (pc' := 2) (ls' := [some (.inr (.inr (some 54))), some (.inl x0)]) (st' := [.inl x0, .inr (.inr (some 54))]) (h1 := hp L s c e) rfl ?_
  refine Ru.call rfl ((ev_181 x0).up (by decide)) ?_
  by_cases h0 : f_181 x0 s = 0
  · rw [if_pos h0]
    have hg := hg.1 h0
    refine Ru.jy rfl h0 ?_
    refine Ru.step (pc' := 18) (ls' := [some (.inr (.inr (some 54))), some (.inl x0)]) (st' := [.inl 0]) (h1 := hp L s c e) rfl ?_
    exact Ru.done rfl
  · rw [if_neg h0]
    have hg := hg.2 h0
    refine Ru.jn rfl h0 ?_
    refine Ru.step (pc' := 9) (ls' := [some (.inr (.inr (some 54))), some (.inl x0)]) (st' := [.inr (.inr (some 54))]) (h1 := hp L s c e) rfl ?_
    refine Ru.step (pc' := 12) (ls' := [some (.inr (.inr (some 54))), some (.inl x0)]) (st' := [.inr (.inr (some 60))]) (h1 := hp L s c e) rfl ?_
    refine Ru.step (pc' := 13) (ls' := [some (.inr (.inr (some 54))), some (.inl x0)]) (st' := [.inl x0, .inr (.inr (some 60))]) (h1 := hp L s c e) rfl ?_
    obtain ⟨⟨b1, b2⟩, hg⟩ := hg
    refine Ru.ald (f := fun t => t == 0) (j := x0) (a := 60) rfl rfl b1 b2 ?_
    refine Ru.step (pc' := 18) (ls' := [some (.inr (.inr (some 54))), some (.inl x0)]) (st' := [.inl (s 60 x0.toNat)]) (h1 := hp L s c e) rfl ?_
    exact Ru.done rfl
/-- MachineText$Statements.headOf(I)I -/
def f_187 (x0 : Int) (s : Nat → Nat → Int) : Int := (if f_181 x0 s = 0 then (-1) else s 56 x0.toNat)
def g_187 (x0 : Int) (s : Nat → Nat → Int) : Prop := ((f_181 x0 s = 0 → True) ∧ (¬ (f_181 x0 s = 0) → ((0 ≤ x0 ∧ x0 < 1171) ∧ True)))
theorem ev_187 {L c : Nat} {s : Nat → Nat → Int} {e : Nat → Nat} (x0 : Int) (hg : g_187 x0 s) : Ev 2 187 [.inr (.inr (some 54)), .inl x0] (hp L s c e) (.inl (some (.inl (f_187 x0 s)))) (hp L s c e) := by
  unfold f_187
  unfold g_187 at hg
  refine Ev.of (μ := tb_m187) (ls := [some (.inr (.inr (some 54))), some (.inl x0)]) rfl (Nat.le_of_ble_eq_true rfl) rfl ?_
  refine Ru.step (pc' := 1) (ls' := [some (.inr (.inr (some 54))), some (.inl x0)]) (st' := [.inr (.inr (some 54))]) (h1 := hp L s c e) rfl ?_
  refine Ru.step (pc' := 2) (ls' := [some (.inr (.inr (some 54))), some (.inl x0)]) (st' := [.inl x0, .inr (.inr (some 54))]) (h1 := hp L s c e) rfl ?_
  refine Ru.call rfl ((ev_181 x0).up (by decide)) ?_
  by_cases h0 : f_181 x0 s = 0
  · rw [if_pos h0]
    have hg := hg.1 h0
    refine Ru.jy rfl h0 ?_
    refine Ru.step (pc' := 18) (ls' := [some (.inr (.inr (some 54))), some (.inl x0)]) (st' := [.inl (-1)]) (h1 := hp L s c e) rfl ?_
    exact Ru.done rfl
  · rw [if_neg h0]
    have hg := hg.2 h0
    refine Ru.jn rfl h0 ?_
    refine Ru.step (pc' := 9) (ls' := [some (.inr (.inr (some 54))), some (.inl x0)]) (st' := [.inr (.inr (some 54))]) (h1 := hp L s c e) rfl ?_
    refine Ru.step (pc' := 12) (ls' := [some (.inr (.inr (some 54))), some (.inl x0)]) (st' := [.inr (.inr (some 56))]) (h1 := hp L s c e) rfl ?_
    refine Ru.step (pc' := 13) (ls' := [some (.inr (.inr (some 54))), some (.inl x0)]) (st' := [.inl x0, .inr (.inr (some 56))]) (h1 := hp L s c e) rfl ?_
    obtain ⟨⟨b1, b2⟩, hg⟩ := hg
    refine Ru.ald (f := fun t => t == 0) (j := x0) (a := 56) rfl rfl b1 b2 ?_
    refine Ru.step (pc' := 18) (ls' := [some (.inr (.inr (some 54))), some (.inl x0)]) (st' := [.inl (s 56 x0.toNat)]) (h1 := hp L s c e) rfl ?_
    exact Ru.done rfl
/-- MachineText$Statements.addAction()V -/
def f_188 (s : Nat → Nat → Int) : Nat → Nat → Int := (if f_181 (ax_w32 ((s 54 6) - 1)) s = 0 then s else (ax_u2 s 59 ((ax_w32 ((s 54 6) - 1)).toNat) (ax_w32 ((s 59 ((ax_w32 ((s 54 6) - 1)).toNat)) + 1))))
def g_188 (s : Nat → Nat → Int) : Prop := ((f_181 (ax_w32 ((s 54 6) - 1)) s = 0 → True) ∧ (¬ (f_181 (ax_w32 ((s 54 6) - 1)) s = 0) → ((0 ≤ ax_w32 ((s 54 6) - 1) ∧ ax_w32 ((s 54 6) - 1) < 1171) ∧ ((0 ≤ ax_w32 ((s 54 6) - 1) ∧ ax_w32 ((s 54 6) - 1) < 1171) ∧ True))))
theorem ev_188 {L c : Nat} {s : Nat → Nat → Int} {e : Nat → Nat} (hg : g_188 s) : Ev 2 188 [.inr (.inr (some 54))] (hp L s c e) (.inl none) (hp L (f_188 s) c e) := by
  unfold f_188
  unfold g_188 at hg
  refine Ev.of (μ := tb_m188) (ls := [some (.inr (.inr (some 54)))]) rfl (Nat.le_of_ble_eq_true rfl) rfl ?_
  refine Ru.step (pc' := 1) (ls' := [some (.inr (.inr (some 54)))]) (st' := [.inr (.inr (some 54))]) (h1 := hp L s c e) rfl ?_
  refine Ru.step (pc' := 2) (ls' := [some (.inr (.inr (some 54)))]) (st' := [.inr (.inr (some 54)), .inr (.inr (some 54))]) (h1 := hp L s c e) rfl ?_
  refine Ru.step (pc' := 5) (ls' := [some (.inr (.inr (some 54)))]) (st' := [.inl (s 54 6), .inr (.inr (some 54))]) (h1 := hp L s c e) rfl ?_
  refine Ru.step (pc' := 6) (ls' := [some (.inr (.inr (some 54)))]) (st' := [.inl 1, .inl (s 54 6), .inr (.inr (some 54))]) (h1 := hp L s c e) rfl ?_
  refine Ru.step (pc' := 7) (ls' := [some (.inr (.inr (some 54)))]) (st' := [.inl (ax_w32 ((s 54 6) - 1)), .inr (.inr (some 54))]) (h1 := hp L s c e) rfl ?_
  refine Ru.call rfl ((ev_181 (ax_w32 ((s 54 6) - 1))).up (by decide)) ?_
  by_cases h0 : f_181 (ax_w32 ((s 54 6) - 1)) s = 0
  · rw [if_pos h0]
    have hg := hg.1 h0
    refine Ru.jy rfl h0 ?_
    exact Ru.done rfl
  · rw [if_neg h0]
    have hg := hg.2 h0
    refine Ru.jn rfl h0 ?_
    refine Ru.step (pc' := 14) (ls' := [some (.inr (.inr (some 54)))]) (st' := [.inr (.inr (some 54))]) (h1 := hp L s c e) rfl ?_
    refine Ru.step (pc' := 17) (ls' := [some (.inr (.inr (some 54)))]) (st' := [.inr (.inr (some 59))]) (h1 := hp L s c e) rfl ?_
    refine Ru.step (pc' := 18) (ls' := [some (.inr (.inr (some 54)))]) (st' := [.inr (.inr (some 54)), .inr (.inr (some 59))]) (h1 := hp L s c e) rfl ?_
    refine Ru.step (pc' := 21) (ls' := [some (.inr (.inr (some 54)))]) (st' := [.inl (s 54 6), .inr (.inr (some 59))]) (h1 := hp L s c e) rfl ?_
    refine Ru.step (pc' := 22) (ls' := [some (.inr (.inr (some 54)))]) (st' := [.inl 1, .inl (s 54 6), .inr (.inr (some 59))]) (h1 := hp L s c e) rfl ?_
    refine Ru.step (pc' := 23) (ls' := [some (.inr (.inr (some 54)))]) (st' := [.inl (ax_w32 ((s 54 6) - 1)), .inr (.inr (some 59))]) (h1 := hp L s c e) rfl ?_
    refine Ru.step (pc' := 24) (ls' := [some (.inr (.inr (some 54)))]) (st' := [.inl (ax_w32 ((s 54 6) - 1)), .inr (.inr (some 59)), .inl (ax_w32 ((s 54 6) - 1)), .inr (.inr (some 59))]) (h1 := hp L s c e) rfl ?_
    obtain ⟨⟨b1, b2⟩, hg⟩ := hg
    refine Ru.ald (f := fun t => t == 0) (j := ax_w32 ((s 54 6) - 1)) (a := 59) rfl rfl b1 b2 ?_
    refine Ru.step (pc' := 26) (ls' := [some (.inr (.inr (some 54)))]) (st' := [.inl 1, .inl (s 59 ((ax_w32 ((s 54 6) - 1)).toNat)), .inl (ax_w32 ((s 54 6) - 1)), .inr (.inr (some 59))]) (h1 := hp L s c e) rfl ?_
    refine Ru.step (pc' := 27) (ls' := [some (.inr (.inr (some 54)))]) (st' := [.inl (ax_w32 ((s 59 ((ax_w32 ((s 54 6) - 1)).toNat)) + 1)), .inl (ax_w32 ((s 54 6) - 1)), .inr (.inr (some 59))]) (h1 := hp L s c e) rfl ?_
    obtain ⟨⟨b1, b2⟩, hg⟩ := hg
    refine Ru.ast (f := fun t => t == 0) (j := ax_w32 ((s 54 6) - 1)) (a := 59) rfl rfl (by decide) rfl rfl b1 b2 ?_
    exact Ru.done rfl
/-- MachineText$Statements.enlarge(I)V -/
def f_189 (x0 : Int) (s : Nat → Nat → Int) : Nat → Nat → Int := (if f_181 (ax_w32 ((s 54 6) - 1)) s = 0 then s else (ax_u2 s 58 ((ax_w32 ((s 54 6) - 1)).toNat) (ax_w32 ((s 58 ((ax_w32 ((s 54 6) - 1)).toNat)) + x0))))
def g_189 (x0 : Int) (s : Nat → Nat → Int) : Prop := ((f_181 (ax_w32 ((s 54 6) - 1)) s = 0 → True) ∧ (¬ (f_181 (ax_w32 ((s 54 6) - 1)) s = 0) → ((0 ≤ ax_w32 ((s 54 6) - 1) ∧ ax_w32 ((s 54 6) - 1) < 1171) ∧ ((0 ≤ ax_w32 ((s 54 6) - 1) ∧ ax_w32 ((s 54 6) - 1) < 1171) ∧ True))))
theorem ev_189 {L c : Nat} {s : Nat → Nat → Int} {e : Nat → Nat} (x0 : Int) (hg : g_189 x0 s) : Ev 2 189 [.inr (.inr (some 54)), .inl x0] (hp L s c e) (.inl none) (hp L (f_189 x0 s) c e) := by
  unfold f_189
  unfold g_189 at hg
  refine Ev.of (μ := tb_m189) (ls := [some (.inr (.inr (some 54))), some (.inl x0)]) rfl (Nat.le_of_ble_eq_true rfl) rfl ?_
  refine Ru.step (pc' := 1) (ls' := [some (.inr (.inr (some 54))), some (.inl x0)]) (st' := [.inr (.inr (some 54))]) (h1 := hp L s c e) rfl ?_
  refine Ru.step (pc' := 2) (ls' := [some (.inr (.inr (some 54))), some (.inl x0)]) (st' := [.inr (.inr (some 54)), .inr (.inr (some 54))]) (h1 := hp L s c e) rfl ?_
  refine Ru.step (pc' := 5) (ls' := [some (.inr (.inr (some 54))), some (.inl x0)]) (st' := [.inl (s 54 6), .inr (.inr (some 54))]) (h1 := hp L s c e) rfl ?_
  refine Ru.step (pc' := 6) (ls' := [some (.inr (.inr (some 54))), some (.inl x0)]) (st' := [.inl 1, .inl (s 54 6), .inr (.inr (some 54))]) (h1 := hp L s c e) rfl ?_
  refine Ru.step (pc' := 7) (ls' := [some (.inr (.inr (some 54))), some (.inl x0)]) (st' := [.inl (ax_w32 ((s 54 6) - 1)), .inr (.inr (some 54))]) (h1 := hp L s c e) rfl ?_
  refine Ru.call rfl ((ev_181 (ax_w32 ((s 54 6) - 1))).up (by decide)) ?_
  by_cases h0 : f_181 (ax_w32 ((s 54 6) - 1)) s = 0
  · rw [if_pos h0]
    have hg := hg.1 h0
    refine Ru.jy rfl h0 ?_
    exact Ru.done rfl
  · rw [if_neg h0]
    have hg := hg.2 h0
    refine Ru.jn rfl h0 ?_
    refine Ru.step (pc' := 14) (ls' := [some (.inr (.inr (some 54))), some (.inl x0)]) (st' := [.inr (.inr (some 54))]) (h1 := hp L s c e) rfl ?_
    refine Ru.step (pc' := 17) (ls' := [some (.inr (.inr (some 54))), some (.inl x0)]) (st' := [.inr (.inr (some 58))]) (h1 := hp L s c e) rfl ?_
    refine Ru.step (pc' := 18) (ls' := [some (.inr (.inr (some 54))), some (.inl x0)]) (st' := [.inr (.inr (some 54)), .inr (.inr (some 58))]) (h1 := hp L s c e) rfl ?_
    refine Ru.step (pc' := 21) (ls' := [some (.inr (.inr (some 54))), some (.inl x0)]) (st' := [.inl (s 54 6), .inr (.inr (some 58))]) (h1 := hp L s c e) rfl ?_
    refine Ru.step (pc' := 22) (ls' := [some (.inr (.inr (some 54))), some (.inl x0)]) (st' := [.inl 1, .inl (s 54 6), .inr (.inr (some 58))]) (h1 := hp L s c e) rfl ?_
    refine Ru.step (pc' := 23) (ls' := [some (.inr (.inr (some 54))), some (.inl x0)]) (st' := [.inl (ax_w32 ((s 54 6) - 1)), .inr (.inr (some 58))]) (h1 := hp L s c e) rfl ?_
    refine Ru.step (pc' := 24) (ls' := [some (.inr (.inr (some 54))), some (.inl x0)]) (st' := [.inl (ax_w32 ((s 54 6) - 1)), .inr (.inr (some 58)), .inl (ax_w32 ((s 54 6) - 1)), .inr (.inr (some 58))]) (h1 := hp L s c e) rfl ?_
    obtain ⟨⟨b1, b2⟩, hg⟩ := hg
    refine Ru.ald (f := fun t => t == 0) (j := ax_w32 ((s 54 6) - 1)) (a := 58) rfl rfl b1 b2 ?_
    refine Ru.step (pc' := 26) (ls' := [some (.inr (.inr (some 54))), some (.inl x0)]) (st' := [.inl x0, .inl (s 58 ((ax_w32 ((s 54 6) - 1)).toNat)), .inl (ax_w32 ((s 54 6) - 1)), .inr (.inr (some 58))]) (h1 := hp L s c e) rfl ?_
    refine Ru.step (pc' := 27) (ls' := [some (.inr (.inr (some 54))), some (.inl x0)]) (st' := [.inl (ax_w32 ((s 58 ((ax_w32 ((s 54 6) - 1)).toNat)) + x0)), .inl (ax_w32 ((s 54 6) - 1)), .inr (.inr (some 58))]) (h1 := hp L s c e) rfl ?_
    obtain ⟨⟨b1, b2⟩, hg⟩ := hg
    refine Ru.ast (f := fun t => t == 0) (j := ax_w32 ((s 54 6) - 1)) (a := 58) rfl rfl (by decide) rfl rfl b1 b2 ?_
    exact Ru.done rfl
/-- MachineText$Statements.widen(I)V -/
def f_190 (x0 : Int) (s : Nat → Nat → Int) : Nat → Nat → Int := (if f_181 (ax_w32 ((s 54 6) - 1)) s = 0 then s else (ax_u2 s 57 ((ax_w32 ((s 54 6) - 1)).toNat) (ax_w32 ((s 57 ((ax_w32 ((s 54 6) - 1)).toNat)) + x0))))
def g_190 (x0 : Int) (s : Nat → Nat → Int) : Prop := ((f_181 (ax_w32 ((s 54 6) - 1)) s = 0 → True) ∧ (¬ (f_181 (ax_w32 ((s 54 6) - 1)) s = 0) → ((0 ≤ ax_w32 ((s 54 6) - 1) ∧ ax_w32 ((s 54 6) - 1) < 1171) ∧ ((0 ≤ ax_w32 ((s 54 6) - 1) ∧ ax_w32 ((s 54 6) - 1) < 1171) ∧ True))))
theorem ev_190 {L c : Nat} {s : Nat → Nat → Int} {e : Nat → Nat} (x0 : Int) (hg : g_190 x0 s) : Ev 2 190 [.inr (.inr (some 54)), .inl x0] (hp L s c e) (.inl none) (hp L (f_190 x0 s) c e) := by
  unfold f_190
  unfold g_190 at hg
  refine Ev.of (μ := tb_m190) (ls := [some (.inr (.inr (some 54))), some (.inl x0)]) rfl (Nat.le_of_ble_eq_true rfl) rfl ?_
  refine Ru.step (pc' := 1) (ls' := [some (.inr (.inr (some 54))), some (.inl x0)]) (st' := [.inr (.inr (some 54))]) (h1 := hp L s c e) rfl ?_
  refine Ru.step (pc' := 2) (ls' := [some (.inr (.inr (some 54))), some (.inl x0)]) (st' := [.inr (.inr (some 54)), .inr (.inr (some 54))]) (h1 := hp L s c e) rfl ?_
  refine Ru.step (pc' := 5) (ls' := [some (.inr (.inr (some 54))), some (.inl x0)]) (st' := [.inl (s 54 6), .inr (.inr (some 54))]) (h1 := hp L s c e) rfl ?_
  refine Ru.step (pc' := 6) (ls' := [some (.inr (.inr (some 54))), some (.inl x0)]) (st' := [.inl 1, .inl (s 54 6), .inr (.inr (some 54))]) (h1 := hp L s c e) rfl ?_
  refine Ru.step (pc' := 7) (ls' := [some (.inr (.inr (some 54))), some (.inl x0)]) (st' := [.inl (ax_w32 ((s 54 6) - 1)), .inr (.inr (some 54))]) (h1 := hp L s c e) rfl ?_
  refine Ru.call rfl ((ev_181 (ax_w32 ((s 54 6) - 1))).up (by decide)) ?_
  by_cases h0 : f_181 (ax_w32 ((s 54 6) - 1)) s = 0
  · rw [if_pos h0]
    have hg := hg.1 h0
    refine Ru.jy rfl h0 ?_
    exact Ru.done rfl
  · rw [if_neg h0]
    have hg := hg.2 h0
    refine Ru.jn rfl h0 ?_
    refine Ru.step (pc' := 14) (ls' := [some (.inr (.inr (some 54))), some (.inl x0)]) (st' := [.inr (.inr (some 54))]) (h1 := hp L s c e) rfl ?_
    refine Ru.step (pc' := 17) (ls' := [some (.inr (.inr (some 54))), some (.inl x0)]) (st' := [.inr (.inr (some 57))]) (h1 := hp L s c e) rfl ?_
    refine Ru.step (pc' := 18) (ls' := [some (.inr (.inr (some 54))), some (.inl x0)]) (st' := [.inr (.inr (some 54)), .inr (.inr (some 57))]) (h1 := hp L s c e) rfl ?_
    refine Ru.step (pc' := 21) (ls' := [some (.inr (.inr (some 54))), some (.inl x0)]) (st' := [.inl (s 54 6), .inr (.inr (some 57))]) (h1 := hp L s c e) rfl ?_
    refine Ru.step (pc' := 22) (ls' := [some (.inr (.inr (some 54))), some (.inl x0)]) (st' := [.inl 1, .inl (s 54 6), .inr (.inr (some 57))]) (h1 := hp L s c e) rfl ?_
    refine Ru.step (pc' := 23) (ls' := [some (.inr (.inr (some 54))), some (.inl x0)]) (st' := [.inl (ax_w32 ((s 54 6) - 1)), .inr (.inr (some 57))]) (h1 := hp L s c e) rfl ?_
    refine Ru.step (pc' := 24) (ls' := [some (.inr (.inr (some 54))), some (.inl x0)]) (st' := [.inl (ax_w32 ((s 54 6) - 1)), .inr (.inr (some 57)), .inl (ax_w32 ((s 54 6) - 1)), .inr (.inr (some 57))]) (h1 := hp L s c e) rfl ?_
    obtain ⟨⟨b1, b2⟩, hg⟩ := hg
    refine Ru.ald (f := fun t => t == 0) (j := ax_w32 ((s 54 6) - 1)) (a := 57) rfl rfl b1 b2 ?_
    refine Ru.step (pc' := 26) (ls' := [some (.inr (.inr (some 54))), some (.inl x0)]) (st' := [.inl x0, .inl (s 57 ((ax_w32 ((s 54 6) - 1)).toNat)), .inl (ax_w32 ((s 54 6) - 1)), .inr (.inr (some 57))]) (h1 := hp L s c e) rfl ?_
    refine Ru.step (pc' := 27) (ls' := [some (.inr (.inr (some 54))), some (.inl x0)]) (st' := [.inl (ax_w32 ((s 57 ((ax_w32 ((s 54 6) - 1)).toNat)) + x0)), .inl (ax_w32 ((s 54 6) - 1)), .inr (.inr (some 57))]) (h1 := hp L s c e) rfl ?_
    obtain ⟨⟨b1, b2⟩, hg⟩ := hg
    refine Ru.ast (f := fun t => t == 0) (j := ax_w32 ((s 54 6) - 1)) (a := 57) rfl rfl (by decide) rfl rfl b1 b2 ?_
    exact Ru.done rfl
/-- MachineText$Statements.add(III)I -/
def f_191 (x0 x1 x2 : Int) (s : Nat → Nat → Int) : Int × (Nat → Nat → Int) := (if s 54 6 < 1171 then (ax_w32 ((ax_w32 ((s 54 6) + 1)) - 1), (ax_u2 (ax_u2 (ax_u2 (ax_u2 (ax_u2 (ax_u2 (ax_u2 s 55 ((s 54 6).toNat) x0) 56 ((s 54 6).toNat) x1) 57 ((s 54 6).toNat) 0) 58 ((s 54 6).toNat) 0) 59 ((s 54 6).toNat) 0) 60 ((s 54 6).toNat) x2) 54 6 (ax_w32 ((s 54 6) + 1)))) else ((-1), s))
def g_191 (x0 x1 x2 : Int) (s : Nat → Nat → Int) : Prop := ((s 54 6 < 1171 → ((0 ≤ s 54 6 ∧ s 54 6 < 1171) ∧ ((0 ≤ s 54 6 ∧ s 54 6 < 1171) ∧ ((0 ≤ s 54 6 ∧ s 54 6 < 1171) ∧ ((0 ≤ s 54 6 ∧ s 54 6 < 1171) ∧ ((0 ≤ s 54 6 ∧ s 54 6 < 1171) ∧ ((0 ≤ s 54 6 ∧ s 54 6 < 1171) ∧ True))))))) ∧ (¬ (s 54 6 < 1171) → True))
theorem ev_191 {L c : Nat} {s : Nat → Nat → Int} {e : Nat → Nat} (x0 x1 x2 : Int) (hg : g_191 x0 x1 x2 s) : Ev 1 191 [.inr (.inr (some 54)), .inl x0, .inl x1, .inl x2] (hp L s c e) (.inl (some (.inl ((f_191 x0 x1 x2 s).1)))) (hp L (f_191 x0 x1 x2 s).2 c e) := by
  unfold f_191
  unfold g_191 at hg
  refine Ev.of (μ := tb_m191) (ls := [some (.inr (.inr (some 54))), some (.inl x0), some (.inl x1), some (.inl x2)]) rfl (Nat.le_of_ble_eq_true rfl) rfl ?_
  refine Ru.step (pc' := 1) (ls' := [some (.inr (.inr (some 54))), some (.inl x0), some (.inl x1), some (.inl x2)]) (st' := [.inr (.inr (some 54))]) (h1 := hp L s c e) rfl ?_
  refine Ru.step (pc' := 4) (ls' := [some (.inr (.inr (some 54))), some (.inl x0), some (.inl x1), some (.inl x2)]) (st' := [.inl (s 54 6)]) (h1 := hp L s c e) rfl ?_
  refine Ru.step (pc' := 7) (ls' := [some (.inr (.inr (some 54))), some (.inl x0), some (.inl x1), some (.inl x2)]) (st' := [.inl 1171, .inl (s 54 6)]) (h1 := hp L s c e) rfl ?_
  by_cases h0 : s 54 6 < 1171
  · rw [if_pos h0]
    have hg := hg.1 h0
    refine Ru.jy rfl h0 ?_
    refine Ru.step (pc' := 13) (ls' := [some (.inr (.inr (some 54))), some (.inl x0), some (.inl x1), some (.inl x2)]) (st' := [.inr (.inr (some 54))]) (h1 := hp L s c e) rfl ?_
    refine Ru.step (pc' := 16) (ls' := [some (.inr (.inr (some 54))), some (.inl x0), some (.inl x1), some (.inl x2)]) (st' := [.inr (.inr (some 55))]) (h1 := hp L s c e) rfl ?_
    refine Ru.step (pc' := 17) (ls' := [some (.inr (.inr (some 54))), some (.inl x0), some (.inl x1), some (.inl x2)]) (st' := [.inr (.inr (some 54)), .inr (.inr (some 55))]) (h1 := hp L s c e) rfl ?_
    refine Ru.step (pc' := 20) (ls' := [some (.inr (.inr (some 54))), some (.inl x0), some (.inl x1), some (.inl x2)]) (st' := [.inl (s 54 6), .inr (.inr (some 55))]) (h1 := hp L s c e) rfl ?_
    refine Ru.step (pc' := 21) (ls' := [some (.inr (.inr (some 54))), some (.inl x0), some (.inl x1), some (.inl x2)]) (st' := [.inl x0, .inl (s 54 6), .inr (.inr (some 55))]) (h1 := hp L s c e) rfl ?_
    obtain ⟨⟨b1, b2⟩, hg⟩ := hg
    refine Ru.ast (f := fun t => t == 0) (j := s 54 6) (a := 55) rfl rfl (by decide) rfl rfl b1 b2 ?_
    refine Ru.step (pc' := 23) (ls' := [some (.inr (.inr (some 54))), some (.inl x0), some (.inl x1), some (.inl x2)]) (st' := [.inr (.inr (some 54))]) (h1 := hp L (ax_u2 s 55 ((s 54 6).toNat) x0) c e) rfl ?_
    refine Ru.step (pc' := 26) (ls' := [some (.inr (.inr (some 54))), some (.inl x0), some (.inl x1), some (.inl x2)]) (st' := [.inr (.inr (some 56))]) (h1 := hp L (ax_u2 s 55 ((s 54 6).toNat) x0) c e) rfl ?_
    refine Ru.step (pc' := 27) (ls' := [some (.inr (.inr (some 54))), some (.inl x0), some (.inl x1), some (.inl x2)]) (st' := [.inr (.inr (some 54)), .inr (.inr (some 56))]) (h1 := hp L (ax_u2 s 55 ((s 54 6).toNat) x0) c e) rfl ?_
    refine Ru.step (pc' := 30) (ls' := [some (.inr (.inr (some 54))), some (.inl x0), some (.inl x1), some (.inl x2)]) (st' := [.inl (s 54 6), .inr (.inr (some 56))]) (h1 := hp L (ax_u2 s 55 ((s 54 6).toNat) x0) c e) rfl ?_
    refine Ru.step (pc' := 31) (ls' := [some (.inr (.inr (some 54))), some (.inl x0), some (.inl x1), some (.inl x2)]) (st' := [.inl x1, .inl (s 54 6), .inr (.inr (some 56))]) (h1 := hp L (ax_u2 s 55 ((s 54 6).toNat) x0) c e) rfl ?_
    obtain ⟨⟨b1, b2⟩, hg⟩ := hg
    refine Ru.ast (f := fun t => t == 0) (j := s 54 6) (a := 56) rfl rfl (by decide) rfl rfl b1 b2 ?_
    refine Ru.step (pc' := 33) (ls' := [some (.inr (.inr (some 54))), some (.inl x0), some (.inl x1), some (.inl x2)]) (st' := [.inr (.inr (some 54))]) (h1 := hp L (ax_u2 (ax_u2 s 55 ((s 54 6).toNat) x0) 56 ((s 54 6).toNat) x1) c e) rfl ?_
    refine Ru.step (pc' := 36) (ls' := [some (.inr (.inr (some 54))), some (.inl x0), some (.inl x1), some (.inl x2)]) (st' := [.inr (.inr (some 57))]) (h1 := hp L (ax_u2 (ax_u2 s 55 ((s 54 6).toNat) x0) 56 ((s 54 6).toNat) x1) c e) rfl ?_
    refine Ru.step (pc' := 37) (ls' := [some (.inr (.inr (some 54))), some (.inl x0), some (.inl x1), some (.inl x2)]) (st' := [.inr (.inr (some 54)), .inr (.inr (some 57))]) (h1 := hp L (ax_u2 (ax_u2 s 55 ((s 54 6).toNat) x0) 56 ((s 54 6).toNat) x1) c e) rfl ?_
    refine Ru.step (pc' := 40) (ls' := [some (.inr (.inr (some 54))), some (.inl x0), some (.inl x1), some (.inl x2)]) (st' := [.inl (s 54 6), .inr (.inr (some 57))]) (h1 := hp L (ax_u2 (ax_u2 s 55 ((s 54 6).toNat) x0) 56 ((s 54 6).toNat) x1) c e) rfl ?_
    refine Ru.step (pc' := 41) (ls' := [some (.inr (.inr (some 54))), some (.inl x0), some (.inl x1), some (.inl x2)]) (st' := [.inl 0, .inl (s 54 6), .inr (.inr (some 57))]) (h1 := hp L (ax_u2 (ax_u2 s 55 ((s 54 6).toNat) x0) 56 ((s 54 6).toNat) x1) c e) rfl ?_
    obtain ⟨⟨b1, b2⟩, hg⟩ := hg
    refine Ru.ast (f := fun t => t == 0) (j := s 54 6) (a := 57) rfl rfl (by decide) rfl rfl b1 b2 ?_
    refine Ru.step (pc' := 43) (ls' := [some (.inr (.inr (some 54))), some (.inl x0), some (.inl x1), some (.inl x2)]) (st' := [.inr (.inr (some 54))]) (h1 := hp L (ax_u2 (ax_u2 (ax_u2 s 55 ((s 54 6).toNat) x0) 56 ((s 54 6).toNat) x1) 57 ((s 54 6).toNat) 0) c e) rfl ?_
    refine Ru.step (pc' := 46) (ls' := [some (.inr (.inr (some 54))), some (.inl x0), some (.inl x1), some (.inl x2)]) (st' := [.inr (.inr (some 58))]) (h1 := hp L (ax_u2 (ax_u2 (ax_u2 s 55 ((s 54 6).toNat) x0) 56 ((s 54 6).toNat) x1) 57 ((s 54 6).toNat) 0) c e) rfl ?_
    refine Ru.step (pc' := 47) (ls' := [some (.inr (.inr (some 54))), some (.inl x0), some (.inl x1), some (.inl x2)]) (st' := [.inr (.inr (some 54)), .inr (.inr (some 58))]) (h1 := hp L (ax_u2 (ax_u2 (ax_u2 s 55 ((s 54 6).toNat) x0) 56 ((s 54 6).toNat) x1) 57 ((s 54 6).toNat) 0) c e) rfl ?_
    refine Ru.step (pc' := 50) (ls' := [some (.inr (.inr (some 54))), some (.inl x0), some (.inl x1), some (.inl x2)]) (st' := [.inl (s 54 6), .inr (.inr (some 58))]) (h1 := hp L (ax_u2 (ax_u2 (ax_u2 s 55 ((s 54 6).toNat) x0) 56 ((s 54 6).toNat) x1) 57 ((s 54 6).toNat) 0) c e) rfl ?_
    refine Ru.step (pc' := 51) (ls' := [some (.inr (.inr (some 54))), some (.inl x0), some (.inl x1), some (.inl x2)]) (st' := [.inl 0, .inl (s 54 6), .inr (.inr (some 58))]) (h1 := hp L (ax_u2 (ax_u2 (ax_u2 s 55 ((s 54 6).toNat) x0) 56 ((s 54 6).toNat) x1) 57 ((s 54 6).toNat) 0) c e) rfl ?_
    obtain ⟨⟨b1, b2⟩, hg⟩ := hg
    refine Ru.ast (f := fun t => t == 0) (j := s 54 6) (a := 58) rfl rfl (by decide) rfl rfl b1 b2 ?_
    refine Ru.step (pc' := 53) (ls' := [some (.inr (.inr (some 54))), some (.inl x0), some (.inl x1), some (.inl x2)]) (st' := [.inr (.inr (some 54))]) (h1 := hp L (ax_u2 (ax_u2 (ax_u2 (ax_u2 s 55 ((s 54 6).toNat) x0) 56 ((s 54 6).toNat) x1) 57 ((s 54 6).toNat) 0) 58 ((s 54 6).toNat) 0) c e) rfl ?_
    refine Ru.step (pc' := 56) (ls' := [some (.inr (.inr (some 54))), some (.inl x0), some (.inl x1), some (.inl x2)]) (st' := [.inr (.inr (some 59))]) (h1 := hp L (ax_u2 (ax_u2 (ax_u2 (ax_u2 s 55 ((s 54 6).toNat) x0) 56 ((s 54 6).toNat) x1) 57 ((s 54 6).toNat) 0) 58 ((s 54 6).toNat) 0) c e) rfl ?_
    refine Ru.step (pc' := 57) (ls' := [some (.inr (.inr (some 54))), some (.inl x0), some (.inl x1), some (.inl x2)]) (st' := [.inr (.inr (some 54)), .inr (.inr (some 59))]) (h1 := hp L (ax_u2 (ax_u2 (ax_u2 (ax_u2 s 55 ((s 54 6).toNat) x0) 56 ((s 54 6).toNat) x1) 57 ((s 54 6).toNat) 0) 58 ((s 54 6).toNat) 0) c e) rfl ?_
    refine Ru.step (pc' := 60) (ls' := [some (.inr (.inr (some 54))), some (.inl x0), some (.inl x1), some (.inl x2)]) (st' := [.inl (s 54 6), .inr (.inr (some 59))]) (h1 := hp L (ax_u2 (ax_u2 (ax_u2 (ax_u2 s 55 ((s 54 6).toNat) x0) 56 ((s 54 6).toNat) x1) 57 ((s 54 6).toNat) 0) 58 ((s 54 6).toNat) 0) c e) rfl ?_
    refine Ru.step (pc' := 61) (ls' := [some (.inr (.inr (some 54))), some (.inl x0), some (.inl x1), some (.inl x2)]) (st' := [.inl 0, .inl (s 54 6), .inr (.inr (some 59))]) (h1 := hp L (ax_u2 (ax_u2 (ax_u2 (ax_u2 s 55 ((s 54 6).toNat) x0) 56 ((s 54 6).toNat) x1) 57 ((s 54 6).toNat) 0) 58 ((s 54 6).toNat) 0) c e) rfl ?_
    obtain ⟨⟨b1, b2⟩, hg⟩ := hg
    refine Ru.ast (f := fun t => t == 0) (j := s 54 6) (a := 59) rfl rfl (by decide) rfl rfl b1 b2 ?_
    refine Ru.step (pc' := 63) (ls' := [some (.inr (.inr (some 54))), some (.inl x0), some (.inl x1), some (.inl x2)]) (st' := [.inr (.inr (some 54))]) (h1 := hp L (ax_u2 (ax_u2 (ax_u2 (ax_u2 (ax_u2 s 55 ((s 54 6).toNat) x0) 56 ((s 54 6).toNat) x1) 57 ((s 54 6).toNat) 0) 58 ((s 54 6).toNat) 0) 59 ((s 54 6).toNat) 0) c e) rfl ?_
    refine Ru.step (pc' := 66) (ls' := [some (.inr (.inr (some 54))), some (.inl x0), some (.inl x1), some (.inl x2)]) (st' := [.inr (.inr (some 60))]) (h1 := hp L (ax_u2 (ax_u2 (ax_u2 (ax_u2 (ax_u2 s 55 ((s 54 6).toNat) x0) 56 ((s 54 6).toNat) x1) 57 ((s 54 6).toNat) 0) 58 ((s 54 6).toNat) 0) 59 ((s 54 6).toNat) 0) c e) rfl ?_
    refine Ru.step (pc' := 67) (ls' := [some (.inr (.inr (some 54))), some (.inl x0), some (.inl x1), some (.inl x2)]) (st' := [.inr (.inr (some 54)), .inr (.inr (some 60))]) (h1 := hp L (ax_u2 (ax_u2 (ax_u2 (ax_u2 (ax_u2 s 55 ((s 54 6).toNat) x0) 56 ((s 54 6).toNat) x1) 57 ((s 54 6).toNat) 0) 58 ((s 54 6).toNat) 0) 59 ((s 54 6).toNat) 0) c e) rfl ?_
    refine Ru.step (pc' := 70) (ls' := [some (.inr (.inr (some 54))), some (.inl x0), some (.inl x1), some (.inl x2)]) (st' := [.inl (s 54 6), .inr (.inr (some 60))]) (h1 := hp L (ax_u2 (ax_u2 (ax_u2 (ax_u2 (ax_u2 s 55 ((s 54 6).toNat) x0) 56 ((s 54 6).toNat) x1) 57 ((s 54 6).toNat) 0) 58 ((s 54 6).toNat) 0) 59 ((s 54 6).toNat) 0) c e) rfl ?_
    refine Ru.step (pc' := 71) (ls' := [some (.inr (.inr (some 54))), some (.inl x0), some (.inl x1), some (.inl x2)]) (st' := [.inl x2, .inl (s 54 6), .inr (.inr (some 60))]) (h1 := hp L (ax_u2 (ax_u2 (ax_u2 (ax_u2 (ax_u2 s 55 ((s 54 6).toNat) x0) 56 ((s 54 6).toNat) x1) 57 ((s 54 6).toNat) 0) 58 ((s 54 6).toNat) 0) 59 ((s 54 6).toNat) 0) c e) rfl ?_
    obtain ⟨⟨b1, b2⟩, hg⟩ := hg
    refine Ru.ast (f := fun t => t == 0) (j := s 54 6) (a := 60) rfl rfl (by decide) rfl rfl b1 b2 ?_
    refine Ru.step (pc' := 73) (ls' := [some (.inr (.inr (some 54))), some (.inl x0), some (.inl x1), some (.inl x2)]) (st' := [.inr (.inr (some 54))]) (h1 := hp L (ax_u2 (ax_u2 (ax_u2 (ax_u2 (ax_u2 (ax_u2 s 55 ((s 54 6).toNat) x0) 56 ((s 54 6).toNat) x1) 57 ((s 54 6).toNat) 0) 58 ((s 54 6).toNat) 0) 59 ((s 54 6).toNat) 0) 60 ((s 54 6).toNat) x2) c e) rfl ?_
    refine Ru.step (pc' := 74) (ls' := [some (.inr (.inr (some 54))), some (.inl x0), some (.inl x1), some (.inl x2)]) (st' := [.inr (.inr (some 54)), .inr (.inr (some 54))]) (h1 := hp L (ax_u2 (ax_u2 (ax_u2 (ax_u2 (ax_u2 (ax_u2 s 55 ((s 54 6).toNat) x0) 56 ((s 54 6).toNat) x1) 57 ((s 54 6).toNat) 0) 58 ((s 54 6).toNat) 0) 59 ((s 54 6).toNat) 0) 60 ((s 54 6).toNat) x2) c e) rfl ?_
    refine Ru.step (pc' := 77) (ls' := [some (.inr (.inr (some 54))), some (.inl x0), some (.inl x1), some (.inl x2)]) (st' := [.inl (s 54 6), .inr (.inr (some 54))]) (h1 := hp L (ax_u2 (ax_u2 (ax_u2 (ax_u2 (ax_u2 (ax_u2 s 55 ((s 54 6).toNat) x0) 56 ((s 54 6).toNat) x1) 57 ((s 54 6).toNat) 0) 58 ((s 54 6).toNat) 0) 59 ((s 54 6).toNat) 0) 60 ((s 54 6).toNat) x2) c e) rfl ?_
    refine Ru.step (pc' := 78) (ls' := [some (.inr (.inr (some 54))), some (.inl x0), some (.inl x1), some (.inl x2)]) (st' := [.inl 1, .inl (s 54 6), .inr (.inr (some 54))]) (h1 := hp L (ax_u2 (ax_u2 (ax_u2 (ax_u2 (ax_u2 (ax_u2 s 55 ((s 54 6).toNat) x0) 56 ((s 54 6).toNat) x1) 57 ((s 54 6).toNat) 0) 58 ((s 54 6).toNat) 0) 59 ((s 54 6).toNat) 0) 60 ((s 54 6).toNat) x2) c e) rfl ?_
    refine Ru.step (pc' := 79) (ls' := [some (.inr (.inr (some 54))), some (.inl x0), some (.inl x1), some (.inl x2)]) (st' := [.inl (ax_w32 ((s 54 6) + 1)), .inr (.inr (some 54))]) (h1 := hp L (ax_u2 (ax_u2 (ax_u2 (ax_u2 (ax_u2 (ax_u2 s 55 ((s 54 6).toNat) x0) 56 ((s 54 6).toNat) x1) 57 ((s 54 6).toNat) 0) 58 ((s 54 6).toNat) 0) 59 ((s 54 6).toNat) 0) 60 ((s 54 6).toNat) x2) c e) rfl ?_
    refine Ru.step (pc' := 82) (ls' := [some (.inr (.inr (some 54))), some (.inl x0), some (.inl x1), some (.inl x2)]) (st' := []) (h1 := hp L (ax_u2 (ax_u2 (ax_u2 (ax_u2 (ax_u2 (ax_u2 (ax_u2 s 55 ((s 54 6).toNat) x0) 56 ((s 54 6).toNat) x1) 57 ((s 54 6).toNat) 0) 58 ((s 54 6).toNat) 0) 59 ((s 54 6).toNat) 0) 60 ((s 54 6).toNat) x2) 54 6 (ax_w32 ((s 54 6) + 1))) c e) rfl ?_
    refine Ru.step (pc' := 83) (ls' := [some (.inr (.inr (some 54))), some (.inl x0), some (.inl x1), some (.inl x2)]) (st' := [.inr (.inr (some 54))]) (h1 := hp L (ax_u2 (ax_u2 (ax_u2 (ax_u2 (ax_u2 (ax_u2 (ax_u2 s 55 ((s 54 6).toNat) x0) 56 ((s 54 6).toNat) x1) 57 ((s 54 6).toNat) 0) 58 ((s 54 6).toNat) 0) 59 ((s 54 6).toNat) 0) 60 ((s 54 6).toNat) x2) 54 6 (ax_w32 ((s 54 6) + 1))) c e) rfl ?_
    refine Ru.step (pc' := 86) (ls' := [some (.inr (.inr (some 54))), some (.inl x0), some (.inl x1), some (.inl x2)]) (st' := [.inl (ax_w32 ((s 54 6) + 1))]) (h1 := hp L (ax_u2 (ax_u2 (ax_u2 (ax_u2 (ax_u2 (ax_u2 (ax_u2 s 55 ((s 54 6).toNat) x0) 56 ((s 54 6).toNat) x1) 57 ((s 54 6).toNat) 0) 58 ((s 54 6).toNat) 0) 59 ((s 54 6).toNat) 0) 60 ((s 54 6).toNat) x2) 54 6 (ax_w32 ((s 54 6) + 1))) c e) rfl ?_
    refine Ru.step (pc' := 87) (ls' := [some (.inr (.inr (some 54))), some (.inl x0), some (.inl x1), some (.inl x2)]) (st' := [.inl 1, .inl (ax_w32 ((s 54 6) + 1))]) (h1 := hp L (ax_u2 (ax_u2 (ax_u2 (ax_u2 (ax_u2 (ax_u2 (ax_u2 s 55 ((s 54 6).toNat) x0) 56 ((s 54 6).toNat) x1) 57 ((s 54 6).toNat) 0) 58 ((s 54 6).toNat) 0) 59 ((s 54 6).toNat) 0) 60 ((s 54 6).toNat) x2) 54 6 (ax_w32 ((s 54 6) + 1))) c e) rfl ?_
    refine Ru.step (pc' := 88) (ls' := [some (.inr (.inr (some 54))), some (.inl x0), some (.inl x1), some (.inl x2)]) (st' := [.inl (ax_w32 ((ax_w32 ((s 54 6) + 1)) - 1))]) (h1 := hp L (ax_u2 (ax_u2 (ax_u2 (ax_u2 (ax_u2 (ax_u2 (ax_u2 s 55 ((s 54 6).toNat) x0) 56 ((s 54 6).toNat) x1) 57 ((s 54 6).toNat) 0) 58 ((s 54 6).toNat) 0) 59 ((s 54 6).toNat) 0) 60 ((s 54 6).toNat) x2) 54 6 (ax_w32 ((s 54 6) + 1))) c e) rfl ?_
    exact Ru.done rfl
  · rw [if_neg h0]
    have hg := hg.2 h0
    refine Ru.jn rfl h0 ?_
    refine Ru.step (pc' := 11) (ls' := [some (.inr (.inr (some 54))), some (.inl x0), some (.inl x1), some (.inl x2)]) (st' := [.inl (-1)]) (h1 := hp L s c e) rfl ?_
    exact Ru.done rfl
/-- MachineTextModel.thrown()I -/
def f_194 (s : Nat → Nat → Int) : Int := s 84 0
theorem ev_194 {L c : Nat} {s : Nat → Nat → Int} {e : Nat → Nat} : Ev 1 194 [.inr (.inr (some 84))] (hp L s c e) (.inl (some (.inl (f_194 s)))) (hp L s c e) := by
  unfold f_194
  refine Ev.of (μ := tb_m194) (ls := [some (.inr (.inr (some 84)))]) rfl (Nat.le_of_ble_eq_true rfl) rfl ?_
  refine Ru.step (pc' := 1) (ls' := [some (.inr (.inr (some 84)))]) (st' := [.inr (.inr (some 84))]) (h1 := hp L s c e) rfl ?_
  refine Ru.step (pc' := 4) (ls' := [some (.inr (.inr (some 84)))]) (st' := [.inl (s 84 0)]) (h1 := hp L s c e) rfl ?_
  exact Ru.done rfl
/-- MachineTextModel.fail(I)I -/
def f_206 (x0 : Int) (s : Nat → Nat → Int) : Int × (Nat → Nat → Int) := (0, (ax_u2 s 84 0 x0))
theorem ev_206 {L c : Nat} {s : Nat → Nat → Int} {e : Nat → Nat} (x0 : Int) : Ev 1 206 [.inr (.inr (some 84)), .inl x0] (hp L s c e) (.inl (some (.inl ((f_206 x0 s).1)))) (hp L (f_206 x0 s).2 c e) := by
  unfold f_206
  refine Ev.of (μ := tb_m206) (ls := [some (.inr (.inr (some 84))), some (.inl x0)]) rfl (Nat.le_of_ble_eq_true rfl) rfl ?_
  refine Ru.step (pc' := 1) (ls' := [some (.inr (.inr (some 84))), some (.inl x0)]) (st' := [.inr (.inr (some 84))]) (h1 := hp L s c e) rfl ?_
  refine Ru.step (pc' := 2) (ls' := [some (.inr (.inr (some 84))), some (.inl x0)]) (st' := [.inl x0, .inr (.inr (some 84))]) (h1 := hp L s c e) rfl ?_
  refine Ru.step (pc' := 5) (ls' := [some (.inr (.inr (some 84))), some (.inl x0)]) (st' := []) (h1 := hp L (ax_u2 s 84 0 x0) c e) rfl ?_
  refine Ru.step (pc' := 6) (ls' := [some (.inr (.inr (some 84))), some (.inl x0)]) (st' := [.inl 0]) (h1 := hp L (ax_u2 s 84 0 x0) c e) rfl ?_
  exact Ru.done rfl
/-- MachineTextModel.within(JJJ)Z -/
def f_207 (x0 x1 x2 : Int) (s : Nat → Nat → Int) : Int := (if ax_cmp x0 x1 < 0 then 0 else (if 0 < ax_cmp x0 x2 then 0 else 1))
theorem ev_207 {L c : Nat} {s : Nat → Nat → Int} {e : Nat → Nat} (x0 x1 x2 : Int) : Ev 1 207 [.inr (.inl x0), .inr (.inl x1), .inr (.inl x2)] (hp L s c e) (.inl (some (.inl (f_207 x0 x1 x2 s)))) (hp L s c e) := by
  unfold f_207
  refine Ev.of (μ := tb_m207) (ls := [some (.inr (.inl x0)), none, some (.inr (.inl x1)), none, some (.inr (.inl x2)), none]) rfl (Nat.le_of_ble_eq_true rfl) rfl ?_
  refine Ru.step (pc' := 1) (ls' := [some (.inr (.inl x0)), none, some (.inr (.inl x1)), none, some (.inr (.inl x2)), none]) (st' := [.inr (.inl x0)]) (h1 := hp L s c e) rfl ?_
  refine Ru.step (pc' := 2) (ls' := [some (.inr (.inl x0)), none, some (.inr (.inl x1)), none, some (.inr (.inl x2)), none]) (st' := [.inr (.inl x1), .inr (.inl x0)]) (h1 := hp L s c e) rfl ?_
  refine Ru.step (pc' := 3) (ls' := [some (.inr (.inl x0)), none, some (.inr (.inl x1)), none, some (.inr (.inl x2)), none]) (st' := [.inl (ax_cmp x0 x1)]) (h1 := hp L s c e) rfl ?_
  by_cases h0 : ax_cmp x0 x1 < 0
  · rw [if_pos h0]
    refine Ru.jy rfl h0 ?_
    refine Ru.step (pc' := 18) (ls' := [some (.inr (.inl x0)), none, some (.inr (.inl x1)), none, some (.inr (.inl x2)), none]) (st' := [.inl 0]) (h1 := hp L s c e) rfl ?_
    exact Ru.done rfl
  · rw [if_neg h0]
    refine Ru.jn rfl h0 ?_
    refine Ru.step (pc' := 7) (ls' := [some (.inr (.inl x0)), none, some (.inr (.inl x1)), none, some (.inr (.inl x2)), none]) (st' := [.inr (.inl x0)]) (h1 := hp L s c e) rfl ?_
    refine Ru.step (pc' := 9) (ls' := [some (.inr (.inl x0)), none, some (.inr (.inl x1)), none, some (.inr (.inl x2)), none]) (st' := [.inr (.inl x2), .inr (.inl x0)]) (h1 := hp L s c e) rfl ?_
    refine Ru.step (pc' := 10) (ls' := [some (.inr (.inl x0)), none, some (.inr (.inl x1)), none, some (.inr (.inl x2)), none]) (st' := [.inl (ax_cmp x0 x2)]) (h1 := hp L s c e) rfl ?_
    by_cases h1 : 0 < ax_cmp x0 x2
    · rw [if_pos h1]
      refine Ru.jy rfl h1 ?_
      refine Ru.step (pc' := 18) (ls' := [some (.inr (.inl x0)), none, some (.inr (.inl x1)), none, some (.inr (.inl x2)), none]) (st' := [.inl 0]) (h1 := hp L s c e) rfl ?_
      exact Ru.done rfl
    · rw [if_neg h1]
      refine Ru.jn rfl h1 ?_
      refine Ru.step (pc' := 14) (ls' := [some (.inr (.inl x0)), none, some (.inr (.inl x1)), none, some (.inr (.inl x2)), none]) (st' := [.inl 1]) (h1 := hp L s c e) rfl ?_
      refine Ru.step (pc' := 18) (ls' := [some (.inr (.inl x0)), none, some (.inr (.inl x1)), none, some (.inr (.inl x2)), none]) (st' := [.inl 1]) (h1 := hp L s c e) rfl ?_
      exact Ru.done rfl
/-- MachineTextModel.isStatement(I)Z -/
def f_217 (x0 : Int) (s : Nat → Nat → Int) : Int := (if s 84 5 = 0 then 0 else (if f_207 x0 0 (ax_w32 ((s 84 19) - 1)) s = 0 then 0 else 1))
theorem ev_217 {L c : Nat} {s : Nat → Nat → Int} {e : Nat → Nat} (x0 : Int) : Ev 2 217 [.inr (.inr (some 84)), .inl x0] (hp L s c e) (.inl (some (.inl (f_217 x0 s)))) (hp L s c e) := by
  unfold f_217
  refine Ev.of (μ := tb_m217) (ls := [some (.inr (.inr (some 84))), some (.inl x0)]) rfl (Nat.le_of_ble_eq_true rfl) rfl ?_
  refine Ru.step (pc' := 1) (ls' := [some (.inr (.inr (some 84))), some (.inl x0)]) (st' := [.inr (.inr (some 84))]) (h1 := hp L s c e) rfl ?_
  refine Ru.step (pc' := 4) (ls' := [some (.inr (.inr (some 84))), some (.inl x0)]) (st' := [.inl (s 84 5)]) (h1 := hp L s c e) rfl ?_
  by_cases h0 : s 84 5 = 0
  · rw [if_pos h0]
    refine Ru.jy rfl h0 ?_
    refine Ru.step (pc' := 28) (ls' := [some (.inr (.inr (some 84))), some (.inl x0)]) (st' := [.inl 0]) (h1 := hp L s c e) rfl ?_
    exact Ru.done rfl
  · rw [if_neg h0]
    refine Ru.jn rfl h0 ?_
    refine Ru.step (pc' := 8) (ls' := [some (.inr (.inr (some 84))), some (.inl x0)]) (st' := [.inl x0]) (h1 := hp L s c e) rfl ?_
    refine Ru.step (pc' := 9) (ls' := [some (.inr (.inr (some 84))), some (.inl x0)]) (st' := [.inr (.inl x0)]) (h1 := hp L s c e) rfl ?_
    refine Ru.step (pc' := 10) (ls' := [some (.inr (.inr (some 84))), some (.inl x0)]) (st' := [.inr (.inl 0), .inr (.inl x0)]) (h1 := hp L s c e) rfl ?_
    refine Ru.step (pc' := 11) (ls' := [some (.inr (.inr (some 84))), some (.inl x0)]) (st' := [.inr (.inr (some 84)), .inr (.inl 0), .inr (.inl x0)]) (h1 := hp L s c e) rfl ?_
    refine Ru.step (pc' := 14) (ls' := [some (.inr (.inr (some 84))), some (.inl x0)]) (st' := [.inl (s 84 19), .inr (.inl 0), .inr (.inl x0)]) (h1 := hp L s c e) rfl ?_
    refine Ru.step (pc' := 15) (ls' := [some (.inr (.inr (some 84))), some (.inl x0)]) (st' := [.inl 1, .inl (s 84 19), .inr (.inl 0), .inr (.inl x0)]) (h1 := hp L s c e) rfl ?_
    refine Ru.step (pc' := 16) (ls' := [some (.inr (.inr (some 84))), some (.inl x0)]) (st' := [.inl (ax_w32 ((s 84 19) - 1)), .inr (.inl 0), .inr (.inl x0)]) (h1 := hp L s c e) rfl ?_
    refine Ru.step (pc' := 17) (ls' := [some (.inr (.inr (some 84))), some (.inl x0)]) (st' := [.inr (.inl (ax_w32 ((s 84 19) - 1))), .inr (.inl 0), .inr (.inl x0)]) (h1 := hp L s c e) rfl ?_
    refine Ru.call rfl ((ev_207 x0 0 (ax_w32 ((s 84 19) - 1))).up (by decide)) ?_
    by_cases h1 : f_207 x0 0 (ax_w32 ((s 84 19) - 1)) s = 0
    · rw [if_pos h1]
      refine Ru.jy rfl h1 ?_
      refine Ru.step (pc' := 28) (ls' := [some (.inr (.inr (some 84))), some (.inl x0)]) (st' := [.inl 0]) (h1 := hp L s c e) rfl ?_
      exact Ru.done rfl
    · rw [if_neg h1]
      refine Ru.jn rfl h1 ?_
      refine Ru.step (pc' := 24) (ls' := [some (.inr (.inr (some 84))), some (.inl x0)]) (st' := [.inl 1]) (h1 := hp L s c e) rfl ?_
      refine Ru.step (pc' := 28) (ls' := [some (.inr (.inr (some 84))), some (.inl x0)]) (st' := [.inl 1]) (h1 := hp L s c e) rfl ?_
      exact Ru.done rfl
/-- MachineTextModel.say(I)V -/
def f_221 (x0 : Int) (s : Nat → Nat → Int) : Nat → Nat → Int := (ax_u2 (ax_u2 s 87 ((s 84 9).toNat) x0) 84 9 (ax_w32 ((s 84 9) + 1)))
def g_221 (x0 : Int) (s : Nat → Nat → Int) : Prop := ((0 ≤ s 84 9 ∧ s 84 9 < 25000) ∧ True)
theorem ev_221 {L c : Nat} {s : Nat → Nat → Int} {e : Nat → Nat} (x0 : Int) (hg : g_221 x0 s) : Ev 1 221 [.inr (.inr (some 84)), .inl x0] (hp L s c e) (.inl none) (hp L (f_221 x0 s) c e) := by
  unfold f_221
  unfold g_221 at hg
  refine Ev.of (μ := tb_m221) (ls := [some (.inr (.inr (some 84))), some (.inl x0)]) rfl (Nat.le_of_ble_eq_true rfl) rfl ?_
  refine Ru.step (pc' := 1) (ls' := [some (.inr (.inr (some 84))), some (.inl x0)]) (st' := [.inr (.inr (some 84))]) (h1 := hp L s c e) rfl ?_
  refine Ru.step (pc' := 4) (ls' := [some (.inr (.inr (some 84))), some (.inl x0)]) (st' := [.inr (.inr (some 87))]) (h1 := hp L s c e) rfl ?_
  refine Ru.step (pc' := 5) (ls' := [some (.inr (.inr (some 84))), some (.inl x0)]) (st' := [.inr (.inr (some 84)), .inr (.inr (some 87))]) (h1 := hp L s c e) rfl ?_
  refine Ru.step (pc' := 8) (ls' := [some (.inr (.inr (some 84))), some (.inl x0)]) (st' := [.inl (s 84 9), .inr (.inr (some 87))]) (h1 := hp L s c e) rfl ?_
  refine Ru.step (pc' := 9) (ls' := [some (.inr (.inr (some 84))), some (.inl x0)]) (st' := [.inl x0, .inl (s 84 9), .inr (.inr (some 87))]) (h1 := hp L s c e) rfl ?_
  obtain ⟨⟨b1, b2⟩, hg⟩ := hg
  refine Ru.ast (f := fun t => t == 0) (j := s 84 9) (a := 87) rfl rfl (by decide) rfl rfl b1 b2 ?_
  refine Ru.step (pc' := 11) (ls' := [some (.inr (.inr (some 84))), some (.inl x0)]) (st' := [.inr (.inr (some 84))]) (h1 := hp L (ax_u2 s 87 ((s 84 9).toNat) x0) c e) rfl ?_
  refine Ru.step (pc' := 12) (ls' := [some (.inr (.inr (some 84))), some (.inl x0)]) (st' := [.inr (.inr (some 84)), .inr (.inr (some 84))]) (h1 := hp L (ax_u2 s 87 ((s 84 9).toNat) x0) c e) rfl ?_
  refine Ru.step (pc' := 15) (ls' := [some (.inr (.inr (some 84))), some (.inl x0)]) (st' := [.inl (s 84 9), .inr (.inr (some 84))]) (h1 := hp L (ax_u2 s 87 ((s 84 9).toNat) x0) c e) rfl ?_
  refine Ru.step (pc' := 16) (ls' := [some (.inr (.inr (some 84))), some (.inl x0)]) (st' := [.inl 1, .inl (s 84 9), .inr (.inr (some 84))]) (h1 := hp L (ax_u2 s 87 ((s 84 9).toNat) x0) c e) rfl ?_
  refine Ru.step (pc' := 17) (ls' := [some (.inr (.inr (some 84))), some (.inl x0)]) (st' := [.inl (ax_w32 ((s 84 9) + 1)), .inr (.inr (some 84))]) (h1 := hp L (ax_u2 s 87 ((s 84 9).toNat) x0) c e) rfl ?_
  refine Ru.step (pc' := 20) (ls' := [some (.inr (.inr (some 84))), some (.inl x0)]) (st' := []) (h1 := hp L (ax_u2 (ax_u2 s 87 ((s 84 9).toNat) x0) 84 9 (ax_w32 ((s 84 9) + 1))) c e) rfl ?_
  exact Ru.done rfl
/-- MachineTextModel.ch(I)I -/
def f_224 (x0 : Int) (s : Nat → Nat → Int) : Int := (if s 84 3 ≤ x0 then (-1) else s 86 x0.toNat)
def g_224 (x0 : Int) (s : Nat → Nat → Int) : Prop := ((s 84 3 ≤ x0 → True) ∧ (¬ (s 84 3 ≤ x0) → ((0 ≤ x0 ∧ x0 < 8192) ∧ True)))
theorem ev_224 {L c : Nat} {s : Nat → Nat → Int} {e : Nat → Nat} (x0 : Int) (hg : g_224 x0 s) : Ev 1 224 [.inr (.inr (some 84)), .inl x0] (hp L s c e) (.inl (some (.inl (f_224 x0 s)))) (hp L s c e) := by
  unfold f_224
  unfold g_224 at hg
  refine Ev.of (μ := tb_m224) (ls := [some (.inr (.inr (some 84))), some (.inl x0)]) rfl (Nat.le_of_ble_eq_true rfl) rfl ?_
  refine Ru.step (pc' := 1) (ls' := [some (.inr (.inr (some 84))), some (.inl x0)]) (st' := [.inl x0]) (h1 := hp L s c e) rfl ?_
  refine Ru.step (pc' := 2) (ls' := [some (.inr (.inr (some 84))), some (.inl x0)]) (st' := [.inr (.inr (some 84)), .inl x0]) (h1 := hp L s c e) rfl ?_
  refine Ru.step (pc' := 5) (ls' := [some (.inr (.inr (some 84))), some (.inl x0)]) (st' := [.inl (s 84 3), .inl x0]) (h1 := hp L s c e) rfl ?_
  by_cases h0 : s 84 3 ≤ x0
  · rw [if_pos h0]
    have hg := hg.1 h0
    refine Ru.jy rfl h0 ?_
    refine Ru.step (pc' := 18) (ls' := [some (.inr (.inr (some 84))), some (.inl x0)]) (st' := [.inl (-1)]) (h1 := hp L s c e) rfl ?_
    exact Ru.done rfl
  · rw [if_neg h0]
    have hg := hg.2 h0
    refine Ru.jn rfl h0 ?_
    refine Ru.step (pc' := 9) (ls' := [some (.inr (.inr (some 84))), some (.inl x0)]) (st' := [.inr (.inr (some 84))]) (h1 := hp L s c e) rfl ?_
    refine Ru.step (pc' := 12) (ls' := [some (.inr (.inr (some 84))), some (.inl x0)]) (st' := [.inr (.inr (some 86))]) (h1 := hp L s c e) rfl ?_
    refine Ru.step (pc' := 13) (ls' := [some (.inr (.inr (some 84))), some (.inl x0)]) (st' := [.inl x0, .inr (.inr (some 86))]) (h1 := hp L s c e) rfl ?_
    obtain ⟨⟨b1, b2⟩, hg⟩ := hg
    refine Ru.ald (f := fun t => t == 0) (j := x0) (a := 86) rfl rfl b1 b2 ?_
    refine Ru.step (pc' := 18) (ls' := [some (.inr (.inr (some 84))), some (.inl x0)]) (st' := [.inl (s 86 x0.toNat)]) (h1 := hp L s c e) rfl ?_
    exact Ru.done rfl
/-- MachineTextModel.isLetter(I)Z -/
def f_225 (x0 : Int) (s : Nat → Nat → Int) : Int := (if ¬ (f_207 x0 97 122 s) = 0 then 1 else (if ¬ (f_207 x0 65 90 s) = 0 then 1 else (if ¬ x0 = 95 then 0 else 1)))
theorem ev_225 {L c : Nat} {s : Nat → Nat → Int} {e : Nat → Nat} (x0 : Int) : Ev 2 225 [.inl x0] (hp L s c e) (.inl (some (.inl (f_225 x0 s)))) (hp L s c e) := by
  unfold f_225
  refine Ev.of (μ := tb_m225) (ls := [some (.inl x0)]) rfl (Nat.le_of_ble_eq_true rfl) rfl ?_
  refine Ru.step (pc' := 1) (ls' := [some (.inl x0)]) (st' := [.inl x0]) (h1 := hp L s c e) rfl ?_
  refine Ru.step (pc' := 2) (ls' := [some (.inl x0)]) (st' := [.inr (.inl x0)]) (h1 := hp L s c e) rfl ?_
  refine Ru.step (pc' := 5) (ls' := [some (.inl x0)]) (st' := [.inr (.inl 97), .inr (.inl x0)]) (h1 := hp L s c e) rfl ?_
  refine Ru.step (pc' := 8) (ls' := [some (.inl x0)]) (st' := [.inr (.inl 122), .inr (.inl 97), .inr (.inl x0)]) (h1 := hp L s c e) rfl ?_
  refine Ru.call rfl ((ev_207 x0 97 122).up (by decide)) ?_
  by_cases h0 : ¬ (f_207 x0 97 122 s) = 0
  · rw [if_pos h0]
    refine Ru.jy rfl h0 ?_
    refine Ru.step (pc' := 35) (ls' := [some (.inl x0)]) (st' := [.inl 1]) (h1 := hp L s c e) rfl ?_
    refine Ru.step (pc' := 39) (ls' := [some (.inl x0)]) (st' := [.inl 1]) (h1 := hp L s c e) rfl ?_
    exact Ru.done rfl
  · rw [if_neg h0]
    refine Ru.jn rfl h0 ?_
    refine Ru.step (pc' := 15) (ls' := [some (.inl x0)]) (st' := [.inl x0]) (h1 := hp L s c e) rfl ?_
    refine Ru.step (pc' := 16) (ls' := [some (.inl x0)]) (st' := [.inr (.inl x0)]) (h1 := hp L s c e) rfl ?_
    refine Ru.step (pc' := 19) (ls' := [some (.inl x0)]) (st' := [.inr (.inl 65), .inr (.inl x0)]) (h1 := hp L s c e) rfl ?_
    refine Ru.step (pc' := 22) (ls' := [some (.inl x0)]) (st' := [.inr (.inl 90), .inr (.inl 65), .inr (.inl x0)]) (h1 := hp L s c e) rfl ?_
    refine Ru.call rfl ((ev_207 x0 65 90).up (by decide)) ?_
    by_cases h1 : ¬ (f_207 x0 65 90 s) = 0
    · rw [if_pos h1]
      refine Ru.jy rfl h1 ?_
      refine Ru.step (pc' := 35) (ls' := [some (.inl x0)]) (st' := [.inl 1]) (h1 := hp L s c e) rfl ?_
      refine Ru.step (pc' := 39) (ls' := [some (.inl x0)]) (st' := [.inl 1]) (h1 := hp L s c e) rfl ?_
      exact Ru.done rfl
    · rw [if_neg h1]
      refine Ru.jn rfl h1 ?_
      refine Ru.step (pc' := 29) (ls' := [some (.inl x0)]) (st' := [.inl x0]) (h1 := hp L s c e) rfl ?_
      refine Ru.step (pc' := 31) (ls' := [some (.inl x0)]) (st' := [.inl 95, .inl x0]) (h1 := hp L s c e) rfl ?_
      by_cases h2 : ¬ x0 = 95
      · rw [if_pos h2]
        refine Ru.jy rfl h2 ?_
        refine Ru.step (pc' := 39) (ls' := [some (.inl x0)]) (st' := [.inl 0]) (h1 := hp L s c e) rfl ?_
        exact Ru.done rfl
      · rw [if_neg h2]
        refine Ru.jn rfl h2 ?_
        refine Ru.step (pc' := 35) (ls' := [some (.inl x0)]) (st' := [.inl 1]) (h1 := hp L s c e) rfl ?_
        refine Ru.step (pc' := 39) (ls' := [some (.inl x0)]) (st' := [.inl 1]) (h1 := hp L s c e) rfl ?_
        exact Ru.done rfl
/-- MachineTextModel.tell(II)V -/
def f_227 (x0 x1 : Int) (s : Nat → Nat → Int) : Nat → Nat → Int := (if s 84 6 ≤ 0 then (ax_u2 (ax_u2 s 84 6 x0) 84 7 x1) else s)
theorem ev_227 {L c : Nat} {s : Nat → Nat → Int} {e : Nat → Nat} (x0 x1 : Int) : Ev 1 227 [.inr (.inr (some 84)), .inl x0, .inl x1] (hp L s c e) (.inl none) (hp L (f_227 x0 x1 s) c e) := by
  unfold f_227
  refine Ev.of (μ := tb_m227) (ls := [some (.inr (.inr (some 84))), some (.inl x0), some (.inl x1)]) rfl (Nat.le_of_ble_eq_true rfl) rfl ?_
  refine Ru.step (pc' := 1) (ls' := [some (.inr (.inr (some 84))), some (.inl x0), some (.inl x1)]) (st' := [.inr (.inr (some 84))]) (h1 := hp L s c e) rfl ?_
  refine Ru.step (pc' := 4) (ls' := [some (.inr (.inr (some 84))), some (.inl x0), some (.inl x1)]) (st' := [.inl (s 84 6)]) (h1 := hp L s c e) rfl ?_
  by_cases h0 : s 84 6 ≤ 0
  · rw [if_pos h0]
    refine Ru.jy rfl h0 ?_
    refine Ru.step (pc' := 9) (ls' := [some (.inr (.inr (some 84))), some (.inl x0), some (.inl x1)]) (st' := [.inr (.inr (some 84))]) (h1 := hp L s c e) rfl ?_
    refine Ru.step (pc' := 10) (ls' := [some (.inr (.inr (some 84))), some (.inl x0), some (.inl x1)]) (st' := [.inl x0, .inr (.inr (some 84))]) (h1 := hp L s c e) rfl ?_
    refine Ru.step (pc' := 13) (ls' := [some (.inr (.inr (some 84))), some (.inl x0), some (.inl x1)]) (st' := []) (h1 := hp L (ax_u2 s 84 6 x0) c e) rfl ?_
    refine Ru.step (pc' := 14) (ls' := [some (.inr (.inr (some 84))), some (.inl x0), some (.inl x1)]) (st' := [.inr (.inr (some 84))]) (h1 := hp L (ax_u2 s 84 6 x0) c e) rfl ?_
    refine Ru.step (pc' := 15) (ls' := [some (.inr (.inr (some 84))), some (.inl x0), some (.inl x1)]) (st' := [.inl x1, .inr (.inr (some 84))]) (h1 := hp L (ax_u2 s 84 6 x0) c e) rfl ?_
    refine Ru.step (pc' := 18) (ls' := [some (.inr (.inr (some 84))), some (.inl x0), some (.inl x1)]) (st' := []) (h1 := hp L (ax_u2 (ax_u2 s 84 6 x0) 84 7 x1) c e) rfl ?_
    exact Ru.done rfl
  · rw [if_neg h0]
    refine Ru.jn rfl h0 ?_
    exact Ru.done rfl
/-- MachineTextModel.is(I)Z -/
def f_232 (x0 : Int) (s : Nat → Nat → Int) : Int := (if ¬ (s 88 ((s 84 18).toNat)) = x0 then 0 else 1)
def g_232 (x0 : Int) (s : Nat → Nat → Int) : Prop := ((0 ≤ s 84 18 ∧ s 84 18 < 8200) ∧ True)
theorem ev_232 {L c : Nat} {s : Nat → Nat → Int} {e : Nat → Nat} (x0 : Int) (hg : g_232 x0 s) : Ev 1 232 [.inr (.inr (some 84)), .inl x0] (hp L s c e) (.inl (some (.inl (f_232 x0 s)))) (hp L s c e) := by
  unfold f_232
  unfold g_232 at hg
  refine Ev.of (μ := tb_m232) (ls := [some (.inr (.inr (some 84))), some (.inl x0)]) rfl (Nat.le_of_ble_eq_true rfl) rfl ?_
  refine Ru.step (pc' := 1) (ls' := [some (.inr (.inr (some 84))), some (.inl x0)]) (st' := [.inr (.inr (some 84))]) (h1 := hp L s c e) rfl ?_
  refine Ru.step (pc' := 4) (ls' := [some (.inr (.inr (some 84))), some (.inl x0)]) (st' := [.inr (.inr (some 88))]) (h1 := hp L s c e) rfl ?_
  refine Ru.step (pc' := 5) (ls' := [some (.inr (.inr (some 84))), some (.inl x0)]) (st' := [.inr (.inr (some 84)), .inr (.inr (some 88))]) (h1 := hp L s c e) rfl ?_
  refine Ru.step (pc' := 8) (ls' := [some (.inr (.inr (some 84))), some (.inl x0)]) (st' := [.inl (s 84 18), .inr (.inr (some 88))]) (h1 := hp L s c e) rfl ?_
  obtain ⟨⟨b1, b2⟩, hg⟩ := hg
  refine Ru.ald (f := fun t => t == 0) (j := s 84 18) (a := 88) rfl rfl b1 b2 ?_
  refine Ru.step (pc' := 10) (ls' := [some (.inr (.inr (some 84))), some (.inl x0)]) (st' := [.inl x0, .inl (s 88 ((s 84 18).toNat))]) (h1 := hp L s c e) rfl ?_
  by_cases h0 : ¬ (s 88 ((s 84 18).toNat)) = x0
  · rw [if_pos h0]
    refine Ru.jy rfl h0 ?_
    refine Ru.step (pc' := 18) (ls' := [some (.inr (.inr (some 84))), some (.inl x0)]) (st' := [.inl 0]) (h1 := hp L s c e) rfl ?_
    exact Ru.done rfl
  · rw [if_neg h0]
    refine Ru.jn rfl h0 ?_
    refine Ru.step (pc' := 14) (ls' := [some (.inr (.inr (some 84))), some (.inl x0)]) (st' := [.inl 1]) (h1 := hp L s c e) rfl ?_
    refine Ru.step (pc' := 18) (ls' := [some (.inr (.inr (some 84))), some (.inl x0)]) (st' := [.inl 1]) (h1 := hp L s c e) rfl ?_
    exact Ru.done rfl
/-- MachineTextModel.first(I)V -/
def f_235 (x0 : Int) (s : Nat → Nat → Int) : Nat → Nat → Int := (if s 84 8 < 0 then (ax_u2 s 84 8 x0) else (if s 84 8 ≤ x0 then (ax_u2 s 84 8 (s 84 8)) else (ax_u2 s 84 8 x0)))
theorem ev_235 {L c : Nat} {s : Nat → Nat → Int} {e : Nat → Nat} (x0 : Int) : Ev 1 235 [.inr (.inr (some 84)), .inl x0] (hp L s c e) (.inl none) (hp L (f_235 x0 s) c e) := by
  unfold f_235
  refine Ev.of (μ := tb_m235) (ls := [some (.inr (.inr (some 84))), some (.inl x0)]) rfl (Nat.le_of_ble_eq_true rfl) rfl ?_
  refine Ru.step (pc' := 1) (ls' := [some (.inr (.inr (some 84))), some (.inl x0)]) (st' := [.inr (.inr (some 84))]) (h1 := hp L s c e) rfl ?_
  refine Ru.step (pc' := 2) (ls' := [some (.inr (.inr (some 84))), some (.inl x0)]) (st' := [.inr (.inr (some 84)), .inr (.inr (some 84))]) (h1 := hp L s c e) rfl ?_
  refine Ru.step (pc' := 5) (ls' := [some (.inr (.inr (some 84))), some (.inl x0)]) (st' := [.inl (s 84 8), .inr (.inr (some 84))]) (h1 := hp L s c e) rfl ?_
  by_cases h0 : s 84 8 < 0
  · rw [if_pos h0]
    refine Ru.jy rfl h0 ?_
    refine Ru.step (pc' := 17) (ls' := [some (.inr (.inr (some 84))), some (.inl x0)]) (st' := [.inl x0, .inr (.inr (some 84))]) (h1 := hp L s c e) rfl ?_
    refine Ru.step (pc' := 24) (ls' := [some (.inr (.inr (some 84))), some (.inl x0)]) (st' := [.inl x0, .inr (.inr (some 84))]) (h1 := hp L s c e) rfl ?_
    refine Ru.step (pc' := 27) (ls' := [some (.inr (.inr (some 84))), some (.inl x0)]) (st' := []) (h1 := hp L (ax_u2 s 84 8 x0) c e) rfl ?_
    exact Ru.done rfl
  · rw [if_neg h0]
    refine Ru.jn rfl h0 ?_
    refine Ru.step (pc' := 9) (ls' := [some (.inr (.inr (some 84))), some (.inl x0)]) (st' := [.inl x0, .inr (.inr (some 84))]) (h1 := hp L s c e) rfl ?_
    refine Ru.step (pc' := 10) (ls' := [some (.inr (.inr (some 84))), some (.inl x0)]) (st' := [.inr (.inr (some 84)), .inl x0, .inr (.inr (some 84))]) (h1 := hp L s c e) rfl ?_
    refine Ru.step (pc' := 13) (ls' := [some (.inr (.inr (some 84))), some (.inl x0)]) (st' := [.inl (s 84 8), .inl x0, .inr (.inr (some 84))]) (h1 := hp L s c e) rfl ?_
    by_cases h1 : s 84 8 ≤ x0
    · rw [if_pos h1]
      refine Ru.jy rfl h1 ?_
      refine Ru.step (pc' := 21) (ls' := [some (.inr (.inr (some 84))), some (.inl x0)]) (st' := [.inr (.inr (some 84)), .inr (.inr (some 84))]) (h1 := hp L s c e) rfl ?_
      refine Ru.step (pc' := 24) (ls' := [some (.inr (.inr (some 84))), some (.inl x0)]) (st' := [.inl (s 84 8), .inr (.inr (some 84))]) (h1 := hp L s c e) rfl ?_
      refine Ru.step (pc' := 27) (ls' := [some (.inr (.inr (some 84))), some (.inl x0)]) (st' := []) (h1 := hp L (ax_u2 s 84 8 (s 84 8)) c e) rfl ?_
      exact Ru.done rfl
    · rw [if_neg h1]
      refine Ru.jn rfl h1 ?_
      refine Ru.step (pc' := 17) (ls' := [some (.inr (.inr (some 84))), some (.inl x0)]) (st' := [.inl x0, .inr (.inr (some 84))]) (h1 := hp L s c e) rfl ?_
      refine Ru.step (pc' := 24) (ls' := [some (.inr (.inr (some 84))), some (.inl x0)]) (st' := [.inl x0, .inr (.inr (some 84))]) (h1 := hp L s c e) rfl ?_
      refine Ru.step (pc' := 27) (ls' := [some (.inr (.inr (some 84))), some (.inl x0)]) (st' := []) (h1 := hp L (ax_u2 s 84 8 x0) c e) rfl ?_
      exact Ru.done rfl
/-- MachineTextModel.isNamed(I)Z -/
def f_241 (x0 : Int) (s : Nat → Nat → Int) : Int := (if s 116 x0.toNat = 1 then 1 else (if s 116 x0.toNat = 2 then 1 else (if ¬ (s 116 x0.toNat) = 3 then 0 else 1)))
def g_241 (x0 : Int) (s : Nat → Nat → Int) : Prop := ((0 ≤ x0 ∧ x0 < 8200) ∧ ((s 116 x0.toNat = 1 → True) ∧ (¬ (s 116 x0.toNat = 1) → ((0 ≤ x0 ∧ x0 < 8200) ∧ ((s 116 x0.toNat = 2 → True) ∧ (¬ (s 116 x0.toNat = 2) → ((0 ≤ x0 ∧ x0 < 8200) ∧ True)))))))
theorem ev_241 {L c : Nat} {s : Nat → Nat → Int} {e : Nat → Nat} (x0 : Int) (hg : g_241 x0 s) : Ev 1 241 [.inr (.inr (some 84)), .inl x0] (hp L s c e) (.inl (some (.inl (f_241 x0 s)))) (hp L s c e) := by
  unfold f_241
  unfold g_241 at hg
  refine Ev.of (μ := tb_m241) (ls := [some (.inr (.inr (some 84))), some (.inl x0)]) rfl (Nat.le_of_ble_eq_true rfl) rfl ?_
  refine Ru.step (pc' := 1) (ls' := [some (.inr (.inr (some 84))), some (.inl x0)]) (st' := [.inr (.inr (some 84))]) (h1 := hp L s c e) rfl ?_
  refine Ru.step (pc' := 4) (ls' := [some (.inr (.inr (some 84))), some (.inl x0)]) (st' := [.inr (.inr (some 116))]) (h1 := hp L s c e) rfl ?_
  refine Ru.step (pc' := 5) (ls' := [some (.inr (.inr (some 84))), some (.inl x0)]) (st' := [.inl x0, .inr (.inr (some 116))]) (h1 := hp L s c e) rfl ?_
  obtain ⟨⟨b1, b2⟩, hg⟩ := hg
  refine Ru.ald (f := fun t => t == 0) (j := x0) (a := 116) rfl rfl b1 b2 ?_
  refine Ru.step (pc' := 7) (ls' := [some (.inr (.inr (some 84))), some (.inl x0)]) (st' := [.inl 1, .inl (s 116 x0.toNat)]) (h1 := hp L s c e) rfl ?_
  by_cases h0 : s 116 x0.toNat = 1
  · rw [if_pos h0]
    have hg := hg.1 h0
    refine Ru.jy rfl h0 ?_
    refine Ru.step (pc' := 31) (ls' := [some (.inr (.inr (some 84))), some (.inl x0)]) (st' := [.inl 1]) (h1 := hp L s c e) rfl ?_
    refine Ru.step (pc' := 35) (ls' := [some (.inr (.inr (some 84))), some (.inl x0)]) (st' := [.inl 1]) (h1 := hp L s c e) rfl ?_
    exact Ru.done rfl
  · rw [if_neg h0]
    have hg := hg.2 h0
    refine Ru.jn rfl h0 ?_
    refine Ru.step (pc' := 11) (ls' := [some (.inr (.inr (some 84))), some (.inl x0)]) (st' := [.inr (.inr (some 84))]) (h1 := hp L s c e) rfl ?_
    refine Ru.step (pc' := 14) (ls' := [some (.inr (.inr (some 84))), some (.inl x0)]) (st' := [.inr (.inr (some 116))]) (h1 := hp L s c e) rfl ?_
    refine Ru.step (pc' := 15) (ls' := [some (.inr (.inr (some 84))), some (.inl x0)]) (st' := [.inl x0, .inr (.inr (some 116))]) (h1 := hp L s c e) rfl ?_
    obtain ⟨⟨b1, b2⟩, hg⟩ := hg
    refine Ru.ald (f := fun t => t == 0) (j := x0) (a := 116) rfl rfl b1 b2 ?_
    refine Ru.step (pc' := 17) (ls' := [some (.inr (.inr (some 84))), some (.inl x0)]) (st' := [.inl 2, .inl (s 116 x0.toNat)]) (h1 := hp L s c e) rfl ?_
    by_cases h1 : s 116 x0.toNat = 2
    · rw [if_pos h1]
      have hg := hg.1 h1
      refine Ru.jy rfl h1 ?_
      refine Ru.step (pc' := 31) (ls' := [some (.inr (.inr (some 84))), some (.inl x0)]) (st' := [.inl 1]) (h1 := hp L s c e) rfl ?_
      refine Ru.step (pc' := 35) (ls' := [some (.inr (.inr (some 84))), some (.inl x0)]) (st' := [.inl 1]) (h1 := hp L s c e) rfl ?_
      exact Ru.done rfl
    · rw [if_neg h1]
      have hg := hg.2 h1
      refine Ru.jn rfl h1 ?_
      refine Ru.step (pc' := 21) (ls' := [some (.inr (.inr (some 84))), some (.inl x0)]) (st' := [.inr (.inr (some 84))]) (h1 := hp L s c e) rfl ?_
      refine Ru.step (pc' := 24) (ls' := [some (.inr (.inr (some 84))), some (.inl x0)]) (st' := [.inr (.inr (some 116))]) (h1 := hp L s c e) rfl ?_
      refine Ru.step (pc' := 25) (ls' := [some (.inr (.inr (some 84))), some (.inl x0)]) (st' := [.inl x0, .inr (.inr (some 116))]) (h1 := hp L s c e) rfl ?_
      obtain ⟨⟨b1, b2⟩, hg⟩ := hg
      refine Ru.ald (f := fun t => t == 0) (j := x0) (a := 116) rfl rfl b1 b2 ?_
      refine Ru.step (pc' := 27) (ls' := [some (.inr (.inr (some 84))), some (.inl x0)]) (st' := [.inl 3, .inl (s 116 x0.toNat)]) (h1 := hp L s c e) rfl ?_
      by_cases h2 : ¬ (s 116 x0.toNat) = 3
      · rw [if_pos h2]
        refine Ru.jy rfl h2 ?_
        refine Ru.step (pc' := 35) (ls' := [some (.inr (.inr (some 84))), some (.inl x0)]) (st' := [.inl 0]) (h1 := hp L s c e) rfl ?_
        exact Ru.done rfl
      · rw [if_neg h2]
        refine Ru.jn rfl h2 ?_
        refine Ru.step (pc' := 31) (ls' := [some (.inr (.inr (some 84))), some (.inl x0)]) (st' := [.inl 1]) (h1 := hp L s c e) rfl ?_
        refine Ru.step (pc' := 35) (ls' := [some (.inr (.inr (some 84))), some (.inl x0)]) (st' := [.inl 1]) (h1 := hp L s c e) rfl ?_
        exact Ru.done rfl
/-- MachineTextModel.isPlainReg(I)Z -/
def f_242 (x0 : Int) (s : Nat → Nat → Int) : Int := (if ¬ (s 94 x0.toNat) = 0 then 0 else (if 0 ≤ s 96 x0.toNat then 0 else 1))
def g_242 (x0 : Int) (s : Nat → Nat → Int) : Prop := ((0 ≤ x0 ∧ x0 < 4100) ∧ ((¬ (s 94 x0.toNat) = 0 → True) ∧ (¬ (¬ (s 94 x0.toNat) = 0) → ((0 ≤ x0 ∧ x0 < 4100) ∧ True))))
theorem ev_242 {L c : Nat} {s : Nat → Nat → Int} {e : Nat → Nat} (x0 : Int) (hg : g_242 x0 s) : Ev 1 242 [.inr (.inr (some 84)), .inl x0] (hp L s c e) (.inl (some (.inl (f_242 x0 s)))) (hp L s c e) := by
  unfold f_242
  unfold g_242 at hg
  refine Ev.of (μ := tb_m242) (ls := [some (.inr (.inr (some 84))), some (.inl x0)]) rfl (Nat.le_of_ble_eq_true rfl) rfl ?_
  refine Ru.step (pc' := 1) (ls' := [some (.inr (.inr (some 84))), some (.inl x0)]) (st' := [.inr (.inr (some 84))]) (h1 := hp L s c e) rfl ?_
  refine Ru.step (pc' := 4) (ls' := [some (.inr (.inr (some 84))), some (.inl x0)]) (st' := [.inr (.inr (some 94))]) (h1 := hp L s c e) rfl ?_
  refine Ru.step (pc' := 5) (ls' := [some (.inr (.inr (some 84))), some (.inl x0)]) (st' := [.inl x0, .inr (.inr (some 94))]) (h1 := hp L s c e) rfl ?_
  obtain ⟨⟨b1, b2⟩, hg⟩ := hg
  refine Ru.ald (f := fun t => t == 0) (j := x0) (a := 94) rfl rfl b1 b2 ?_
  by_cases h0 : ¬ (s 94 x0.toNat) = 0
  · rw [if_pos h0]
    have hg := hg.1 h0
    refine Ru.jy rfl h0 ?_
    refine Ru.step (pc' := 23) (ls' := [some (.inr (.inr (some 84))), some (.inl x0)]) (st' := [.inl 0]) (h1 := hp L s c e) rfl ?_
    exact Ru.done rfl
  · rw [if_neg h0]
    have hg := hg.2 h0
    refine Ru.jn rfl h0 ?_
    refine Ru.step (pc' := 10) (ls' := [some (.inr (.inr (some 84))), some (.inl x0)]) (st' := [.inr (.inr (some 84))]) (h1 := hp L s c e) rfl ?_
    refine Ru.step (pc' := 13) (ls' := [some (.inr (.inr (some 84))), some (.inl x0)]) (st' := [.inr (.inr (some 96))]) (h1 := hp L s c e) rfl ?_
    refine Ru.step (pc' := 14) (ls' := [some (.inr (.inr (some 84))), some (.inl x0)]) (st' := [.inl x0, .inr (.inr (some 96))]) (h1 := hp L s c e) rfl ?_
    obtain ⟨⟨b1, b2⟩, hg⟩ := hg
    refine Ru.ald (f := fun t => t == 0) (j := x0) (a := 96) rfl rfl b1 b2 ?_
    by_cases h1 : 0 ≤ s 96 x0.toNat
    · rw [if_pos h1]
      refine Ru.jy rfl h1 ?_
      refine Ru.step (pc' := 23) (ls' := [some (.inr (.inr (some 84))), some (.inl x0)]) (st' := [.inl 0]) (h1 := hp L s c e) rfl ?_
      exact Ru.done rfl
    · rw [if_neg h1]
      refine Ru.jn rfl h1 ?_
      refine Ru.step (pc' := 19) (ls' := [some (.inr (.inr (some 84))), some (.inl x0)]) (st' := [.inl 1]) (h1 := hp L s c e) rfl ?_
      refine Ru.step (pc' := 23) (ls' := [some (.inr (.inr (some 84))), some (.inl x0)]) (st' := [.inl 1]) (h1 := hp L s c e) rfl ?_
      exact Ru.done rfl
/-- MachineTextModel.isRow(I)Z -/
def f_243 (x0 : Int) (s : Nat → Nat → Int) : Int := (if s 94 x0.toNat = 1 then 1 else (if ¬ (s 94 x0.toNat) = 0 then 0 else (if s 96 x0.toNat < 0 then 0 else 1)))
def g_243 (x0 : Int) (s : Nat → Nat → Int) : Prop := ((0 ≤ x0 ∧ x0 < 4100) ∧ ((s 94 x0.toNat = 1 → True) ∧ (¬ (s 94 x0.toNat = 1) → ((0 ≤ x0 ∧ x0 < 4100) ∧ ((¬ (s 94 x0.toNat) = 0 → True) ∧ (¬ (¬ (s 94 x0.toNat) = 0) → ((0 ≤ x0 ∧ x0 < 4100) ∧ True)))))))
theorem ev_243 {L c : Nat} {s : Nat → Nat → Int} {e : Nat → Nat} (x0 : Int) (hg : g_243 x0 s) : Ev 1 243 [.inr (.inr (some 84)), .inl x0] (hp L s c e) (.inl (some (.inl (f_243 x0 s)))) (hp L s c e) := by
  unfold f_243
  unfold g_243 at hg
  refine Ev.of (μ := tb_m243) (ls := [some (.inr (.inr (some 84))), some (.inl x0)]) rfl (Nat.le_of_ble_eq_true rfl) rfl ?_
  refine Ru.step (pc' := 1) (ls' := [some (.inr (.inr (some 84))), some (.inl x0)]) (st' := [.inr (.inr (some 84))]) (h1 := hp L s c e) rfl ?_
  refine Ru.step (pc' := 4) (ls' := [some (.inr (.inr (some 84))), some (.inl x0)]) (st' := [.inr (.inr (some 94))]) (h1 := hp L s c e) rfl ?_
  refine Ru.step (pc' := 5) (ls' := [some (.inr (.inr (some 84))), some (.inl x0)]) (st' := [.inl x0, .inr (.inr (some 94))]) (h1 := hp L s c e) rfl ?_
  obtain ⟨⟨b1, b2⟩, hg⟩ := hg
  refine Ru.ald (f := fun t => t == 0) (j := x0) (a := 94) rfl rfl b1 b2 ?_
  refine Ru.step (pc' := 7) (ls' := [some (.inr (.inr (some 84))), some (.inl x0)]) (st' := [.inl 1, .inl (s 94 x0.toNat)]) (h1 := hp L s c e) rfl ?_
  by_cases h0 : s 94 x0.toNat = 1
  · rw [if_pos h0]
    have hg := hg.1 h0
    refine Ru.jy rfl h0 ?_
    refine Ru.step (pc' := 29) (ls' := [some (.inr (.inr (some 84))), some (.inl x0)]) (st' := [.inl 1]) (h1 := hp L s c e) rfl ?_
    refine Ru.step (pc' := 33) (ls' := [some (.inr (.inr (some 84))), some (.inl x0)]) (st' := [.inl 1]) (h1 := hp L s c e) rfl ?_
    exact Ru.done rfl
  · rw [if_neg h0]
    have hg := hg.2 h0
    refine Ru.jn rfl h0 ?_
    refine Ru.step (pc' := 11) (ls' := [some (.inr (.inr (some 84))), some (.inl x0)]) (st' := [.inr (.inr (some 84))]) (h1 := hp L s c e) rfl ?_
    refine Ru.step (pc' := 14) (ls' := [some (.inr (.inr (some 84))), some (.inl x0)]) (st' := [.inr (.inr (some 94))]) (h1 := hp L s c e) rfl ?_
    refine Ru.step (pc' := 15) (ls' := [some (.inr (.inr (some 84))), some (.inl x0)]) (st' := [.inl x0, .inr (.inr (some 94))]) (h1 := hp L s c e) rfl ?_
    obtain ⟨⟨b1, b2⟩, hg⟩ := hg
    refine Ru.ald (f := fun t => t == 0) (j := x0) (a := 94) rfl rfl b1 b2 ?_
    by_cases h1 : ¬ (s 94 x0.toNat) = 0
    · rw [if_pos h1]
      have hg := hg.1 h1
      refine Ru.jy rfl h1 ?_
      refine Ru.step (pc' := 33) (ls' := [some (.inr (.inr (some 84))), some (.inl x0)]) (st' := [.inl 0]) (h1 := hp L s c e) rfl ?_
      exact Ru.done rfl
    · rw [if_neg h1]
      have hg := hg.2 h1
      refine Ru.jn rfl h1 ?_
      refine Ru.step (pc' := 20) (ls' := [some (.inr (.inr (some 84))), some (.inl x0)]) (st' := [.inr (.inr (some 84))]) (h1 := hp L s c e) rfl ?_
      refine Ru.step (pc' := 23) (ls' := [some (.inr (.inr (some 84))), some (.inl x0)]) (st' := [.inr (.inr (some 96))]) (h1 := hp L s c e) rfl ?_
      refine Ru.step (pc' := 24) (ls' := [some (.inr (.inr (some 84))), some (.inl x0)]) (st' := [.inl x0, .inr (.inr (some 96))]) (h1 := hp L s c e) rfl ?_
      obtain ⟨⟨b1, b2⟩, hg⟩ := hg
      refine Ru.ald (f := fun t => t == 0) (j := x0) (a := 96) rfl rfl b1 b2 ?_
      by_cases h2 : s 96 x0.toNat < 0
      · rw [if_pos h2]
        refine Ru.jy rfl h2 ?_
        refine Ru.step (pc' := 33) (ls' := [some (.inr (.inr (some 84))), some (.inl x0)]) (st' := [.inl 0]) (h1 := hp L s c e) rfl ?_
        exact Ru.done rfl
      · rw [if_neg h2]
        refine Ru.jn rfl h2 ?_
        refine Ru.step (pc' := 29) (ls' := [some (.inr (.inr (some 84))), some (.inl x0)]) (st' := [.inl 1]) (h1 := hp L s c e) rfl ?_
        refine Ru.step (pc' := 33) (ls' := [some (.inr (.inr (some 84))), some (.inl x0)]) (st' := [.inl 1]) (h1 := hp L s c e) rfl ?_
        exact Ru.done rfl
/-- MachineTextModel.kidWidth(II)I -/
def f_246 (x0 x1 : Int) (s : Nat → Nat → Int) : Int := s 122 ((s 125 ((ax_w32 ((s 121 x0.toNat) + x1)).toNat)).toNat)
def g_246 (x0 x1 : Int) (s : Nat → Nat → Int) : Prop := ((0 ≤ x0 ∧ x0 < 8200) ∧ ((0 ≤ ax_w32 ((s 121 x0.toNat) + x1) ∧ ax_w32 ((s 121 x0.toNat) + x1) < 16400) ∧ ((0 ≤ s 125 ((ax_w32 ((s 121 x0.toNat) + x1)).toNat) ∧ s 125 ((ax_w32 ((s 121 x0.toNat) + x1)).toNat) < 8200) ∧ True)))
theorem ev_246 {L c : Nat} {s : Nat → Nat → Int} {e : Nat → Nat} (x0 x1 : Int) (hg : g_246 x0 x1 s) : Ev 1 246 [.inr (.inr (some 84)), .inl x0, .inl x1] (hp L s c e) (.inl (some (.inl (f_246 x0 x1 s)))) (hp L s c e) := by
  unfold f_246
  unfold g_246 at hg
  refine Ev.of (μ := tb_m246) (ls := [some (.inr (.inr (some 84))), some (.inl x0), some (.inl x1)]) rfl (Nat.le_of_ble_eq_true rfl) rfl ?_
  refine Ru.step (pc' := 1) (ls' := [some (.inr (.inr (some 84))), some (.inl x0), some (.inl x1)]) (st' := [.inr (.inr (some 84))]) (h1 := hp L s c e) rfl ?_
  refine Ru.step (pc' := 4) (ls' := [some (.inr (.inr (some 84))), some (.inl x0), some (.inl x1)]) (st' := [.inr (.inr (some 122))]) (h1 := hp L s c e) rfl ?_
  refine Ru.step (pc' := 5) (ls' := [some (.inr (.inr (some 84))), some (.inl x0), some (.inl x1)]) (st' := [.inr (.inr (some 84)), .inr (.inr (some 122))]) (h1 := hp L s c e) rfl ?_
  refine Ru.step (pc' := 8) (ls' := [some (.inr (.inr (some 84))), some (.inl x0), some (.inl x1)]) (st' := [.inr (.inr (some 125)), .inr (.inr (some 122))]) (h1 := hp L s c e) rfl ?_
  refine Ru.step (pc' := 9) (ls' := [some (.inr (.inr (some 84))), some (.inl x0), some (.inl x1)]) (st' := [.inr (.inr (some 84)), .inr (.inr (some 125)), .inr (.inr (some 122))]) (h1 := hp L s c e) rfl ?_
  refine Ru.step (pc' := 12) (ls' := [some (.inr (.inr (some 84))), some (.inl x0), some (.inl x1)]) (st' := [.inr (.inr (some 121)), .inr (.inr (some 125)), .inr (.inr (some 122))]) (h1 := hp L s c e) rfl ?_
  refine Ru.step (pc' := 13) (ls' := [some (.inr (.inr (some 84))), some (.inl x0), some (.inl x1)]) (st' := [.inl x0, .inr (.inr (some 121)), .inr (.inr (some 125)), .inr (.inr (some 122))]) (h1 := hp L s c e) rfl ?_
  obtain ⟨⟨b1, b2⟩, hg⟩ := hg
  refine Ru.ald (f := fun t => t == 0) (j := x0) (a := 121) rfl rfl b1 b2 ?_
  refine Ru.step (pc' := 15) (ls' := [some (.inr (.inr (some 84))), some (.inl x0), some (.inl x1)]) (st' := [.inl x1, .inl (s 121 x0.toNat), .inr (.inr (some 125)), .inr (.inr (some 122))]) (h1 := hp L s c e) rfl ?_
  refine Ru.step (pc' := 16) (ls' := [some (.inr (.inr (some 84))), some (.inl x0), some (.inl x1)]) (st' := [.inl (ax_w32 ((s 121 x0.toNat) + x1)), .inr (.inr (some 125)), .inr (.inr (some 122))]) (h1 := hp L s c e) rfl ?_
  obtain ⟨⟨b1, b2⟩, hg⟩ := hg
  refine Ru.ald (f := fun t => t == 0) (j := ax_w32 ((s 121 x0.toNat) + x1)) (a := 125) rfl rfl b1 b2 ?_
  obtain ⟨⟨b1, b2⟩, hg⟩ := hg
  refine Ru.ald (f := fun t => t == 0) (j := s 125 ((ax_w32 ((s 121 x0.toNat) + x1)).toNat)) (a := 122) rfl rfl b1 b2 ?_
  exact Ru.done rfl
/-- MachineTextModel.isHexNumber(I)Z -/
def f_249 (x0 : Int) (s : Nat → Nat → Int) : Int := (if ax_w32 ((s 90 x0.toNat) - (s 89 x0.toNat)) ≤ 2 then 0 else (if ¬ (s 86 ((ax_w32 ((s 89 x0.toNat) + 1)).toNat)) = 120 then 0 else 1))
def g_249 (x0 : Int) (s : Nat → Nat → Int) : Prop := ((0 ≤ x0 ∧ x0 < 8200) ∧ ((0 ≤ x0 ∧ x0 < 8200) ∧ ((ax_w32 ((s 90 x0.toNat) - (s 89 x0.toNat)) ≤ 2 → True) ∧ (¬ (ax_w32 ((s 90 x0.toNat) - (s 89 x0.toNat)) ≤ 2) → ((0 ≤ x0 ∧ x0 < 8200) ∧ ((0 ≤ ax_w32 ((s 89 x0.toNat) + 1) ∧ ax_w32 ((s 89 x0.toNat) + 1) < 8192) ∧ True))))))
theorem ev_249 {L c : Nat} {s : Nat → Nat → Int} {e : Nat → Nat} (x0 : Int) (hg : g_249 x0 s) : Ev 1 249 [.inr (.inr (some 84)), .inl x0] (hp L s c e) (.inl (some (.inl (f_249 x0 s)))) (hp L s c e) := by
  unfold f_249
  unfold g_249 at hg
  refine Ev.of (μ := tb_m249) (ls := [some (.inr (.inr (some 84))), some (.inl x0)]) rfl (Nat.le_of_ble_eq_true rfl) rfl ?_
  refine Ru.step (pc' := 1) (ls' := [some (.inr (.inr (some 84))), some (.inl x0)]) (st' := [.inr (.inr (some 84))]) (h1 := hp L s c e) rfl ?_
  refine Ru.step (pc' := 4) (ls' := [some (.inr (.inr (some 84))), some (.inl x0)]) (st' := [.inr (.inr (some 90))]) (h1 := hp L s c e) rfl ?_
  refine Ru.step (pc' := 5) (ls' := [some (.inr (.inr (some 84))), some (.inl x0)]) (st' := [.inl x0, .inr (.inr (some 90))]) (h1 := hp L s c e) rfl ?_
  obtain ⟨⟨b1, b2⟩, hg⟩ := hg
  refine Ru.ald (f := fun t => t == 0) (j := x0) (a := 90) rfl rfl b1 b2 ?_
  refine Ru.step (pc' := 7) (ls' := [some (.inr (.inr (some 84))), some (.inl x0)]) (st' := [.inr (.inr (some 84)), .inl (s 90 x0.toNat)]) (h1 := hp L s c e) rfl ?_
  refine Ru.step (pc' := 10) (ls' := [some (.inr (.inr (some 84))), some (.inl x0)]) (st' := [.inr (.inr (some 89)), .inl (s 90 x0.toNat)]) (h1 := hp L s c e) rfl ?_
  refine Ru.step (pc' := 11) (ls' := [some (.inr (.inr (some 84))), some (.inl x0)]) (st' := [.inl x0, .inr (.inr (some 89)), .inl (s 90 x0.toNat)]) (h1 := hp L s c e) rfl ?_
  obtain ⟨⟨b1, b2⟩, hg⟩ := hg
  refine Ru.ald (f := fun t => t == 0) (j := x0) (a := 89) rfl rfl b1 b2 ?_
  refine Ru.step (pc' := 13) (ls' := [some (.inr (.inr (some 84))), some (.inl x0)]) (st' := [.inl (ax_w32 ((s 90 x0.toNat) - (s 89 x0.toNat)))]) (h1 := hp L s c e) rfl ?_
  refine Ru.step (pc' := 14) (ls' := [some (.inr (.inr (some 84))), some (.inl x0)]) (st' := [.inl 2, .inl (ax_w32 ((s 90 x0.toNat) - (s 89 x0.toNat)))]) (h1 := hp L s c e) rfl ?_
  by_cases h0 : ax_w32 ((s 90 x0.toNat) - (s 89 x0.toNat)) ≤ 2
  · rw [if_pos h0]
    have hg := hg.1 h0
    refine Ru.jy rfl h0 ?_
    refine Ru.step (pc' := 40) (ls' := [some (.inr (.inr (some 84))), some (.inl x0)]) (st' := [.inl 0]) (h1 := hp L s c e) rfl ?_
    exact Ru.done rfl
  · rw [if_neg h0]
    have hg := hg.2 h0
    refine Ru.jn rfl h0 ?_
    refine Ru.step (pc' := 18) (ls' := [some (.inr (.inr (some 84))), some (.inl x0)]) (st' := [.inr (.inr (some 84))]) (h1 := hp L s c e) rfl ?_
    refine Ru.step (pc' := 21) (ls' := [some (.inr (.inr (some 84))), some (.inl x0)]) (st' := [.inr (.inr (some 86))]) (h1 := hp L s c e) rfl ?_
    refine Ru.step (pc' := 22) (ls' := [some (.inr (.inr (some 84))), some (.inl x0)]) (st' := [.inr (.inr (some 84)), .inr (.inr (some 86))]) (h1 := hp L s c e) rfl ?_
    refine Ru.step (pc' := 25) (ls' := [some (.inr (.inr (some 84))), some (.inl x0)]) (st' := [.inr (.inr (some 89)), .inr (.inr (some 86))]) (h1 := hp L s c e) rfl ?_
    refine Ru.step (pc' := 26) (ls' := [some (.inr (.inr (some 84))), some (.inl x0)]) (st' := [.inl x0, .inr (.inr (some 89)), .inr (.inr (some 86))]) (h1 := hp L s c e) rfl ?_
    obtain ⟨⟨b1, b2⟩, hg⟩ := hg
    refine Ru.ald (f := fun t => t == 0) (j := x0) (a := 89) rfl rfl b1 b2 ?_
    refine Ru.step (pc' := 28) (ls' := [some (.inr (.inr (some 84))), some (.inl x0)]) (st' := [.inl 1, .inl (s 89 x0.toNat), .inr (.inr (some 86))]) (h1 := hp L s c e) rfl ?_
    refine Ru.step (pc' := 29) (ls' := [some (.inr (.inr (some 84))), some (.inl x0)]) (st' := [.inl (ax_w32 ((s 89 x0.toNat) + 1)), .inr (.inr (some 86))]) (h1 := hp L s c e) rfl ?_
    obtain ⟨⟨b1, b2⟩, hg⟩ := hg
    refine Ru.ald (f := fun t => t == 0) (j := ax_w32 ((s 89 x0.toNat) + 1)) (a := 86) rfl rfl b1 b2 ?_
    refine Ru.step (pc' := 32) (ls' := [some (.inr (.inr (some 84))), some (.inl x0)]) (st' := [.inl 120, .inl (s 86 ((ax_w32 ((s 89 x0.toNat) + 1)).toNat))]) (h1 := hp L s c e) rfl ?_
    by_cases h1 : ¬ (s 86 ((ax_w32 ((s 89 x0.toNat) + 1)).toNat)) = 120
    · rw [if_pos h1]
      refine Ru.jy rfl h1 ?_
      refine Ru.step (pc' := 40) (ls' := [some (.inr (.inr (some 84))), some (.inl x0)]) (st' := [.inl 0]) (h1 := hp L s c e) rfl ?_
      exact Ru.done rfl
    · rw [if_neg h1]
      refine Ru.jn rfl h1 ?_
      refine Ru.step (pc' := 36) (ls' := [some (.inr (.inr (some 84))), some (.inl x0)]) (st' := [.inl 1]) (h1 := hp L s c e) rfl ?_
      refine Ru.step (pc' := 40) (ls' := [some (.inr (.inr (some 84))), some (.inl x0)]) (st' := [.inl 1]) (h1 := hp L s c e) rfl ?_
      exact Ru.done rfl
/-- MachineTextModel.isWordLike(I)Z -/
def f_250 (x0 : Int) (s : Nat → Nat → Int) : Int := (if x0 = 1 then 1 else (if x0 = 2 then 1 else (if x0 < 30 then 0 else 1)))
theorem ev_250 {L c : Nat} {s : Nat → Nat → Int} {e : Nat → Nat} (x0 : Int) : Ev 1 250 [.inl x0] (hp L s c e) (.inl (some (.inl (f_250 x0 s)))) (hp L s c e) := by
  unfold f_250
  refine Ev.of (μ := tb_m250) (ls := [some (.inl x0)]) rfl (Nat.le_of_ble_eq_true rfl) rfl ?_
  refine Ru.step (pc' := 1) (ls' := [some (.inl x0)]) (st' := [.inl x0]) (h1 := hp L s c e) rfl ?_
  refine Ru.step (pc' := 2) (ls' := [some (.inl x0)]) (st' := [.inl 1, .inl x0]) (h1 := hp L s c e) rfl ?_
  by_cases h0 : x0 = 1
  · rw [if_pos h0]
    refine Ru.jy rfl h0 ?_
    refine Ru.step (pc' := 17) (ls' := [some (.inl x0)]) (st' := [.inl 1]) (h1 := hp L s c e) rfl ?_
    refine Ru.step (pc' := 21) (ls' := [some (.inl x0)]) (st' := [.inl 1]) (h1 := hp L s c e) rfl ?_
    exact Ru.done rfl
  · rw [if_neg h0]
    refine Ru.jn rfl h0 ?_
    refine Ru.step (pc' := 6) (ls' := [some (.inl x0)]) (st' := [.inl x0]) (h1 := hp L s c e) rfl ?_
    refine Ru.step (pc' := 7) (ls' := [some (.inl x0)]) (st' := [.inl 2, .inl x0]) (h1 := hp L s c e) rfl ?_
    by_cases h1 : x0 = 2
    · rw [if_pos h1]
      refine Ru.jy rfl h1 ?_
      refine Ru.step (pc' := 17) (ls' := [some (.inl x0)]) (st' := [.inl 1]) (h1 := hp L s c e) rfl ?_
      refine Ru.step (pc' := 21) (ls' := [some (.inl x0)]) (st' := [.inl 1]) (h1 := hp L s c e) rfl ?_
      exact Ru.done rfl
    · rw [if_neg h1]
      refine Ru.jn rfl h1 ?_
      refine Ru.step (pc' := 11) (ls' := [some (.inl x0)]) (st' := [.inl x0]) (h1 := hp L s c e) rfl ?_
      refine Ru.step (pc' := 13) (ls' := [some (.inl x0)]) (st' := [.inl 30, .inl x0]) (h1 := hp L s c e) rfl ?_
      by_cases h2 : x0 < 30
      · rw [if_pos h2]
        refine Ru.jy rfl h2 ?_
        refine Ru.step (pc' := 21) (ls' := [some (.inl x0)]) (st' := [.inl 0]) (h1 := hp L s c e) rfl ?_
        exact Ru.done rfl
      · rw [if_neg h2]
        refine Ru.jn rfl h2 ?_
        refine Ru.step (pc' := 17) (ls' := [some (.inl x0)]) (st' := [.inl 1]) (h1 := hp L s c e) rfl ?_
        refine Ru.step (pc' := 21) (ls' := [some (.inl x0)]) (st' := [.inl 1]) (h1 := hp L s c e) rfl ?_
        exact Ru.done rfl
/-- MachineTextModel.eat(I)Z -/
def f_252 (x0 : Int) (s : Nat → Nat → Int) : Int × (Nat → Nat → Int) := (if 0 < s 84 6 then (0, s) else (if ¬ (f_232 x0 s) = 0 then (1, (ax_u2 s 84 18 (ax_w32 ((s 84 18) + 1)))) else (0, s)))
def g_252 (x0 : Int) (s : Nat → Nat → Int) : Prop := ((0 < s 84 6 → True) ∧ (¬ (0 < s 84 6) → (g_232 x0 s ∧ True)))
theorem ev_252 {L c : Nat} {s : Nat → Nat → Int} {e : Nat → Nat} (x0 : Int) (hg : g_252 x0 s) : Ev 2 252 [.inr (.inr (some 84)), .inl x0] (hp L s c e) (.inl (some (.inl ((f_252 x0 s).1)))) (hp L (f_252 x0 s).2 c e) := by
  unfold f_252
  unfold g_252 at hg
  refine Ev.of (μ := tb_m252) (ls := [some (.inr (.inr (some 84))), some (.inl x0)]) rfl (Nat.le_of_ble_eq_true rfl) rfl ?_
  refine Ru.step (pc' := 1) (ls' := [some (.inr (.inr (some 84))), some (.inl x0)]) (st' := [.inr (.inr (some 84))]) (h1 := hp L s c e) rfl ?_
  refine Ru.step (pc' := 4) (ls' := [some (.inr (.inr (some 84))), some (.inl x0)]) (st' := [.inl (s 84 6)]) (h1 := hp L s c e) rfl ?_
  by_cases h0 : 0 < s 84 6
  · rw [if_pos h0]
    have hg := hg.1 h0
    refine Ru.jy rfl h0 ?_
    refine Ru.step (pc' := 16) (ls' := [some (.inr (.inr (some 84))), some (.inl x0)]) (st' := [.inl 0]) (h1 := hp L s c e) rfl ?_
    exact Ru.done rfl
  · rw [if_neg h0]
    have hg := hg.2 h0
    refine Ru.jn rfl h0 ?_
    refine Ru.step (pc' := 8) (ls' := [some (.inr (.inr (some 84))), some (.inl x0)]) (st' := [.inr (.inr (some 84))]) (h1 := hp L s c e) rfl ?_
    refine Ru.step (pc' := 9) (ls' := [some (.inr (.inr (some 84))), some (.inl x0)]) (st' := [.inl x0, .inr (.inr (some 84))]) (h1 := hp L s c e) rfl ?_
    obtain ⟨b1, hg⟩ := hg
    refine Ru.call rfl ((ev_232 x0 b1).up (by decide)) ?_
    by_cases h1 : ¬ (f_232 x0 s) = 0
    · rw [if_pos h1]
      refine Ru.jy rfl h1 ?_
      refine Ru.step (pc' := 18) (ls' := [some (.inr (.inr (some 84))), some (.inl x0)]) (st' := [.inr (.inr (some 84))]) (h1 := hp L s c e) rfl ?_
      refine Ru.step (pc' := 19) (ls' := [some (.inr (.inr (some 84))), some (.inl x0)]) (st' := [.inr (.inr (some 84)), .inr (.inr (some 84))]) (h1 := hp L s c e) rfl ?_
      refine Ru.step (pc' := 22) (ls' := [some (.inr (.inr (some 84))), some (.inl x0)]) (st' := [.inl (s 84 18), .inr (.inr (some 84))]) (h1 := hp L s c e) rfl ?_
      refine Ru.step (pc' := 23) (ls' := [some (.inr (.inr (some 84))), some (.inl x0)]) (st' := [.inl 1, .inl (s 84 18), .inr (.inr (some 84))]) (h1 := hp L s c e) rfl ?_
      refine Ru.step (pc' := 24) (ls' := [some (.inr (.inr (some 84))), some (.inl x0)]) (st' := [.inl (ax_w32 ((s 84 18) + 1)), .inr (.inr (some 84))]) (h1 := hp L s c e) rfl ?_
      refine Ru.step (pc' := 27) (ls' := [some (.inr (.inr (some 84))), some (.inl x0)]) (st' := []) (h1 := hp L (ax_u2 s 84 18 (ax_w32 ((s 84 18) + 1))) c e) rfl ?_
      refine Ru.step (pc' := 28) (ls' := [some (.inr (.inr (some 84))), some (.inl x0)]) (st' := [.inl 1]) (h1 := hp L (ax_u2 s 84 18 (ax_w32 ((s 84 18) + 1))) c e) rfl ?_
      exact Ru.done rfl
    · rw [if_neg h1]
      refine Ru.jn rfl h1 ?_
      refine Ru.step (pc' := 16) (ls' := [some (.inr (.inr (some 84))), some (.inl x0)]) (st' := [.inl 0]) (h1 := hp L s c e) rfl ?_
      exact Ru.done rfl
/-- MachineTextModel.open(II)V -/
def f_262 (x0 x1 : Int) (s : Nat → Nat → Int) : Nat → Nat → Int := (ax_u2 (ax_u2 (ax_u2 (ax_u2 (ax_u2 s 129 ((s 84 63).toNat) (ax_w32 (100 + x0))) 130 ((s 84 63).toNat) x1) 131 ((s 84 63).toNat) (s 84 59)) 84 63 (ax_w32 ((s 84 63) + 1))) 84 67 (ax_w32 ((s 84 67) + 1)))
def g_262 (x0 x1 : Int) (s : Nat → Nat → Int) : Prop := ((0 ≤ s 84 63 ∧ s 84 63 < 8200) ∧ ((0 ≤ s 84 63 ∧ s 84 63 < 8200) ∧ ((0 ≤ s 84 63 ∧ s 84 63 < 8200) ∧ True)))
theorem ev_262 {L c : Nat} {s : Nat → Nat → Int} {e : Nat → Nat} (x0 x1 : Int) (hg : g_262 x0 x1 s) : Ev 1 262 [.inr (.inr (some 84)), .inl x0, .inl x1] (hp L s c e) (.inl none) (hp L (f_262 x0 x1 s) c e) := by
  unfold f_262
  unfold g_262 at hg
  refine Ev.of (μ := tb_m262) (ls := [some (.inr (.inr (some 84))), some (.inl x0), some (.inl x1)]) rfl (Nat.le_of_ble_eq_true rfl) rfl ?_
  refine Ru.step (pc' := 1) (ls' := [some (.inr (.inr (some 84))), some (.inl x0), some (.inl x1)]) (st' := [.inr (.inr (some 84))]) (h1 := hp L s c e) rfl ?_
  refine Ru.step (pc' := 4) (ls' := [some (.inr (.inr (some 84))), some (.inl x0), some (.inl x1)]) (st' := [.inr (.inr (some 129))]) (h1 := hp L s c e) rfl ?_
  refine Ru.step (pc' := 5) (ls' := [some (.inr (.inr (some 84))), some (.inl x0), some (.inl x1)]) (st' := [.inr (.inr (some 84)), .inr (.inr (some 129))]) (h1 := hp L s c e) rfl ?_
  refine Ru.step (pc' := 8) (ls' := [some (.inr (.inr (some 84))), some (.inl x0), some (.inl x1)]) (st' := [.inl (s 84 63), .inr (.inr (some 129))]) (h1 := hp L s c e) rfl ?_
  refine Ru.step (pc' := 10) (ls' := [some (.inr (.inr (some 84))), some (.inl x0), some (.inl x1)]) (st' := [.inl 100, .inl (s 84 63), .inr (.inr (some 129))]) (h1 := hp L s c e) rfl ?_
  refine Ru.step (pc' := 11) (ls' := [some (.inr (.inr (some 84))), some (.inl x0), some (.inl x1)]) (st' := [.inl x0, .inl 100, .inl (s 84 63), .inr (.inr (some 129))]) (h1 := hp L s c e) rfl ?_
  refine Ru.step (pc' := 12) (ls' := [some (.inr (.inr (some 84))), some (.inl x0), some (.inl x1)]) (st' := [.inl (ax_w32 (100 + x0)), .inl (s 84 63), .inr (.inr (some 129))]) (h1 := hp L s c e) rfl ?_
  obtain ⟨⟨b1, b2⟩, hg⟩ := hg
  refine Ru.ast (f := fun t => t == 0) (j := s 84 63) (a := 129) rfl rfl (by decide) rfl rfl b1 b2 ?_
  refine Ru.step (pc' := 14) (ls' := [some (.inr (.inr (some 84))), some (.inl x0), some (.inl x1)]) (st' := [.inr (.inr (some 84))]) (h1 := hp L (ax_u2 s 129 ((s 84 63).toNat) (ax_w32 (100 + x0))) c e) rfl ?_
  refine Ru.step (pc' := 17) (ls' := [some (.inr (.inr (some 84))), some (.inl x0), some (.inl x1)]) (st' := [.inr (.inr (some 130))]) (h1 := hp L (ax_u2 s 129 ((s 84 63).toNat) (ax_w32 (100 + x0))) c e) rfl ?_
  refine Ru.step (pc' := 18) (ls' := [some (.inr (.inr (some 84))), some (.inl x0), some (.inl x1)]) (st' := [.inr (.inr (some 84)), .inr (.inr (some 130))]) (h1 := hp L (ax_u2 s 129 ((s 84 63).toNat) (ax_w32 (100 + x0))) c e) rfl ?_
  refine Ru.step (pc' := 21) (ls' := [some (.inr (.inr (some 84))), some (.inl x0), some (.inl x1)]) (st' := [.inl (s 84 63), .inr (.inr (some 130))]) (h1 := hp L (ax_u2 s 129 ((s 84 63).toNat) (ax_w32 (100 + x0))) c e) rfl ?_
  refine Ru.step (pc' := 22) (ls' := [some (.inr (.inr (some 84))), some (.inl x0), some (.inl x1)]) (st' := [.inl x1, .inl (s 84 63), .inr (.inr (some 130))]) (h1 := hp L (ax_u2 s 129 ((s 84 63).toNat) (ax_w32 (100 + x0))) c e) rfl ?_
  obtain ⟨⟨b1, b2⟩, hg⟩ := hg
  refine Ru.ast (f := fun t => t == 0) (j := s 84 63) (a := 130) rfl rfl (by decide) rfl rfl b1 b2 ?_
  refine Ru.step (pc' := 24) (ls' := [some (.inr (.inr (some 84))), some (.inl x0), some (.inl x1)]) (st' := [.inr (.inr (some 84))]) (h1 := hp L (ax_u2 (ax_u2 s 129 ((s 84 63).toNat) (ax_w32 (100 + x0))) 130 ((s 84 63).toNat) x1) c e) rfl ?_
  refine Ru.step (pc' := 27) (ls' := [some (.inr (.inr (some 84))), some (.inl x0), some (.inl x1)]) (st' := [.inr (.inr (some 131))]) (h1 := hp L (ax_u2 (ax_u2 s 129 ((s 84 63).toNat) (ax_w32 (100 + x0))) 130 ((s 84 63).toNat) x1) c e) rfl ?_
  refine Ru.step (pc' := 28) (ls' := [some (.inr (.inr (some 84))), some (.inl x0), some (.inl x1)]) (st' := [.inr (.inr (some 84)), .inr (.inr (some 131))]) (h1 := hp L (ax_u2 (ax_u2 s 129 ((s 84 63).toNat) (ax_w32 (100 + x0))) 130 ((s 84 63).toNat) x1) c e) rfl ?_
  refine Ru.step (pc' := 31) (ls' := [some (.inr (.inr (some 84))), some (.inl x0), some (.inl x1)]) (st' := [.inl (s 84 63), .inr (.inr (some 131))]) (h1 := hp L (ax_u2 (ax_u2 s 129 ((s 84 63).toNat) (ax_w32 (100 + x0))) 130 ((s 84 63).toNat) x1) c e) rfl ?_
  refine Ru.step (pc' := 32) (ls' := [some (.inr (.inr (some 84))), some (.inl x0), some (.inl x1)]) (st' := [.inr (.inr (some 84)), .inl (s 84 63), .inr (.inr (some 131))]) (h1 := hp L (ax_u2 (ax_u2 s 129 ((s 84 63).toNat) (ax_w32 (100 + x0))) 130 ((s 84 63).toNat) x1) c e) rfl ?_
  refine Ru.step (pc' := 35) (ls' := [some (.inr (.inr (some 84))), some (.inl x0), some (.inl x1)]) (st' := [.inl (s 84 59), .inl (s 84 63), .inr (.inr (some 131))]) (h1 := hp L (ax_u2 (ax_u2 s 129 ((s 84 63).toNat) (ax_w32 (100 + x0))) 130 ((s 84 63).toNat) x1) c e) rfl ?_
  obtain ⟨⟨b1, b2⟩, hg⟩ := hg
  refine Ru.ast (f := fun t => t == 0) (j := s 84 63) (a := 131) rfl rfl (by decide) rfl rfl b1 b2 ?_
  refine Ru.step (pc' := 37) (ls' := [some (.inr (.inr (some 84))), some (.inl x0), some (.inl x1)]) (st' := [.inr (.inr (some 84))]) (h1 := hp L (ax_u2 (ax_u2 (ax_u2 s 129 ((s 84 63).toNat) (ax_w32 (100 + x0))) 130 ((s 84 63).toNat) x1) 131 ((s 84 63).toNat) (s 84 59)) c e) rfl ?_
  refine Ru.step (pc' := 38) (ls' := [some (.inr (.inr (some 84))), some (.inl x0), some (.inl x1)]) (st' := [.inr (.inr (some 84)), .inr (.inr (some 84))]) (h1 := hp L (ax_u2 (ax_u2 (ax_u2 s 129 ((s 84 63).toNat) (ax_w32 (100 + x0))) 130 ((s 84 63).toNat) x1) 131 ((s 84 63).toNat) (s 84 59)) c e) rfl ?_
  refine Ru.step (pc' := 41) (ls' := [some (.inr (.inr (some 84))), some (.inl x0), some (.inl x1)]) (st' := [.inl (s 84 63), .inr (.inr (some 84))]) (h1 := hp L (ax_u2 (ax_u2 (ax_u2 s 129 ((s 84 63).toNat) (ax_w32 (100 + x0))) 130 ((s 84 63).toNat) x1) 131 ((s 84 63).toNat) (s 84 59)) c e) rfl ?_
  refine Ru.step (pc' := 42) (ls' := [some (.inr (.inr (some 84))), some (.inl x0), some (.inl x1)]) (st' := [.inl 1, .inl (s 84 63), .inr (.inr (some 84))]) (h1 := hp L (ax_u2 (ax_u2 (ax_u2 s 129 ((s 84 63).toNat) (ax_w32 (100 + x0))) 130 ((s 84 63).toNat) x1) 131 ((s 84 63).toNat) (s 84 59)) c e) rfl ?_
  refine Ru.step (pc' := 43) (ls' := [some (.inr (.inr (some 84))), some (.inl x0), some (.inl x1)]) (st' := [.inl (ax_w32 ((s 84 63) + 1)), .inr (.inr (some 84))]) (h1 := hp L (ax_u2 (ax_u2 (ax_u2 s 129 ((s 84 63).toNat) (ax_w32 (100 + x0))) 130 ((s 84 63).toNat) x1) 131 ((s 84 63).toNat) (s 84 59)) c e) rfl ?_
  refine Ru.step (pc' := 46) (ls' := [some (.inr (.inr (some 84))), some (.inl x0), some (.inl x1)]) (st' := []) (h1 := hp L (ax_u2 (ax_u2 (ax_u2 (ax_u2 s 129 ((s 84 63).toNat) (ax_w32 (100 + x0))) 130 ((s 84 63).toNat) x1) 131 ((s 84 63).toNat) (s 84 59)) 84 63 (ax_w32 ((s 84 63) + 1))) c e) rfl ?_
  refine Ru.step (pc' := 47) (ls' := [some (.inr (.inr (some 84))), some (.inl x0), some (.inl x1)]) (st' := [.inr (.inr (some 84))]) (h1 := hp L (ax_u2 (ax_u2 (ax_u2 (ax_u2 s 129 ((s 84 63).toNat) (ax_w32 (100 + x0))) 130 ((s 84 63).toNat) x1) 131 ((s 84 63).toNat) (s 84 59)) 84 63 (ax_w32 ((s 84 63) + 1))) c e) rfl ?_
  refine Ru.step (pc' := 48) (ls' := [some (.inr (.inr (some 84))), some (.inl x0), some (.inl x1)]) (st' := [.inr (.inr (some 84)), .inr (.inr (some 84))]) (h1 := hp L (ax_u2 (ax_u2 (ax_u2 (ax_u2 s 129 ((s 84 63).toNat) (ax_w32 (100 + x0))) 130 ((s 84 63).toNat) x1) 131 ((s 84 63).toNat) (s 84 59)) 84 63 (ax_w32 ((s 84 63) + 1))) c e) rfl ?_
  refine Ru.step (pc' := 51) (ls' := [some (.inr (.inr (some 84))), some (.inl x0), some (.inl x1)]) (st' := [.inl (s 84 67), .inr (.inr (some 84))]) (h1 := hp L (ax_u2 (ax_u2 (ax_u2 (ax_u2 s 129 ((s 84 63).toNat) (ax_w32 (100 + x0))) 130 ((s 84 63).toNat) x1) 131 ((s 84 63).toNat) (s 84 59)) 84 63 (ax_w32 ((s 84 63) + 1))) c e) rfl ?_
  refine Ru.step (pc' := 52) (ls' := [some (.inr (.inr (some 84))), some (.inl x0), some (.inl x1)]) (st' := [.inl 1, .inl (s 84 67), .inr (.inr (some 84))]) (h1 := hp L (ax_u2 (ax_u2 (ax_u2 (ax_u2 s 129 ((s 84 63).toNat) (ax_w32 (100 + x0))) 130 ((s 84 63).toNat) x1) 131 ((s 84 63).toNat) (s 84 59)) 84 63 (ax_w32 ((s 84 63) + 1))) c e) rfl ?_
  refine Ru.step (pc' := 53) (ls' := [some (.inr (.inr (some 84))), some (.inl x0), some (.inl x1)]) (st' := [.inl (ax_w32 ((s 84 67) + 1)), .inr (.inr (some 84))]) (h1 := hp L (ax_u2 (ax_u2 (ax_u2 (ax_u2 s 129 ((s 84 63).toNat) (ax_w32 (100 + x0))) 130 ((s 84 63).toNat) x1) 131 ((s 84 63).toNat) (s 84 59)) 84 63 (ax_w32 ((s 84 63) + 1))) c e) rfl ?_
  refine Ru.step (pc' := 56) (ls' := [some (.inr (.inr (some 84))), some (.inl x0), some (.inl x1)]) (st' := []) (h1 := hp L (ax_u2 (ax_u2 (ax_u2 (ax_u2 (ax_u2 s 129 ((s 84 63).toNat) (ax_w32 (100 + x0))) 130 ((s 84 63).toNat) x1) 131 ((s 84 63).toNat) (s 84 59)) 84 63 (ax_w32 ((s 84 63) + 1))) 84 67 (ax_w32 ((s 84 67) + 1))) c e) rfl ?_
  exact Ru.done rfl
/-- MachineTextModel.node(IIII)I -/
def f_263 (x0 x1 x2 x3 : Int) (s : Nat → Nat → Int) : Int × (Nat → Nat → Int) := (s 84 47, (ax_u2 (ax_u2 (ax_u2 (ax_u2 (ax_u2 (ax_u2 (ax_u2 (ax_u2 (ax_u2 s 116 ((s 84 47).toNat) x0) 117 ((s 84 47).toNat) x1) 118 ((s 84 47).toNat) x2) 119 ((s 84 47).toNat) x3) 120 ((s 84 47).toNat) 0) 121 ((s 84 47).toNat) (s 84 57)) 123 ((s 84 47).toNat) (s 84 68)) 124 ((s 84 47).toNat) (s 84 46)) 84 47 (ax_w32 ((s 84 47) + 1))))
def g_263 (x0 x1 x2 x3 : Int) (s : Nat → Nat → Int) : Prop := ((0 ≤ s 84 47 ∧ s 84 47 < 8200) ∧ ((0 ≤ s 84 47 ∧ s 84 47 < 8200) ∧ ((0 ≤ s 84 47 ∧ s 84 47 < 8200) ∧ ((0 ≤ s 84 47 ∧ s 84 47 < 8200) ∧ ((0 ≤ s 84 47 ∧ s 84 47 < 8200) ∧ ((0 ≤ s 84 47 ∧ s 84 47 < 8200) ∧ ((0 ≤ s 84 47 ∧ s 84 47 < 8200) ∧ ((0 ≤ s 84 47 ∧ s 84 47 < 8200) ∧ True))))))))
theorem ev_263 {L c : Nat} {s : Nat → Nat → Int} {e : Nat → Nat} (x0 x1 x2 x3 : Int) (hg : g_263 x0 x1 x2 x3 s) : Ev 1 263 [.inr (.inr (some 84)), .inl x0, .inl x1, .inl x2, .inl x3] (hp L s c e) (.inl (some (.inl ((f_263 x0 x1 x2 x3 s).1)))) (hp L (f_263 x0 x1 x2 x3 s).2 c e) := by
  unfold f_263
  unfold g_263 at hg
  refine Ev.of (μ := tb_m263) (ls := [some (.inr (.inr (some 84))), some (.inl x0), some (.inl x1), some (.inl x2), some (.inl x3), none]) rfl (Nat.le_of_ble_eq_true rfl) rfl ?_
  refine Ru.step (pc' := 1) (ls' := [some (.inr (.inr (some 84))), some (.inl x0), some (.inl x1), some (.inl x2), some (.inl x3), none]) (st' := [.inr (.inr (some 84))]) (h1 := hp L s c e) rfl ?_
  refine Ru.step (pc' := 4) (ls' := [some (.inr (.inr (some 84))), some (.inl x0), some (.inl x1), some (.inl x2), some (.inl x3), none]) (st' := [.inl (s 84 47)]) (h1 := hp L s c e) rfl ?_
  refine Ru.step (pc' := 6) (ls' := [some (.inr (.inr (some 84))), some (.inl x0), some (.inl x1), some (.inl x2), some (.inl x3), some (.inl (s 84 47))]) (st' := []) (h1 := hp L s c e) rfl ?_
  refine Ru.step (pc' := 7) (ls' := [some (.inr (.inr (some 84))), some (.inl x0), some (.inl x1), some (.inl x2), some (.inl x3), some (.inl (s 84 47))]) (st' := [.inr (.inr (some 84))]) (h1 := hp L s c e) rfl ?_
  refine Ru.step (pc' := 10) (ls' := [some (.inr (.inr (some 84))), some (.inl x0), some (.inl x1), some (.inl x2), some (.inl x3), some (.inl (s 84 47))]) (st' := [.inr (.inr (some 116))]) (h1 := hp L s c e) rfl ?_
  refine Ru.step (pc' := 12) (ls' := [some (.inr (.inr (some 84))), some (.inl x0), some (.inl x1), some (.inl x2), some (.inl x3), some (.inl (s 84 47))]) (st' := [.inl (s 84 47), .inr (.inr (some 116))]) (h1 := hp L s c e) rfl ?_
  refine Ru.step (pc' := 13) (ls' := [some (.inr (.inr (some 84))), some (.inl x0), some (.inl x1), some (.inl x2), some (.inl x3), some (.inl (s 84 47))]) (st' := [.inl x0, .inl (s 84 47), .inr (.inr (some 116))]) (h1 := hp L s c e) rfl ?_
  obtain ⟨⟨b1, b2⟩, hg⟩ := hg
  refine Ru.ast (f := fun t => t == 0) (j := s 84 47) (a := 116) rfl rfl (by decide) rfl rfl b1 b2 ?_
  refine Ru.step (pc' := 15) (ls' := [some (.inr (.inr (some 84))), some (.inl x0), some (.inl x1), some (.inl x2), some (.inl x3), some (.inl (s 84 47))]) (st' := [.inr (.inr (some 84))]) (h1 := hp L (ax_u2 s 116 ((s 84 47).toNat) x0) c e) rfl ?_
  refine Ru.step (pc' := 18) (ls' := [some (.inr (.inr (some 84))), some (.inl x0), some (.inl x1), some (.inl x2), some (.inl x3), some (.inl (s 84 47))]) (st' := [.inr (.inr (some 117))]) (h1 := hp L (ax_u2 s 116 ((s 84 47).toNat) x0) c e) rfl ?_
  refine Ru.step (pc' := 20) (ls' := [some (.inr (.inr (some 84))), some (.inl x0), some (.inl x1), some (.inl x2), some (.inl x3), some (.inl (s 84 47))]) (st' := [.inl (s 84 47), .inr (.inr (some 117))]) (h1 := hp L (ax_u2 s 116 ((s 84 47).toNat) x0) c e) rfl ?_
  refine Ru.step (pc' := 21) (ls' := [some (.inr (.inr (some 84))), some (.inl x0), some (.inl x1), some (.inl x2), some (.inl x3), some (.inl (s 84 47))]) (st' := [.inl x1, .inl (s 84 47), .inr (.inr (some 117))]) (h1 := hp L (ax_u2 s 116 ((s 84 47).toNat) x0) c e) rfl ?_
  obtain ⟨⟨b1, b2⟩, hg⟩ := hg
  refine Ru.ast (f := fun t => t == 0) (j := s 84 47) (a := 117) rfl rfl (by decide) rfl rfl b1 b2 ?_
  refine Ru.step (pc' := 23) (ls' := [some (.inr (.inr (some 84))), some (.inl x0), some (.inl x1), some (.inl x2), some (.inl x3), some (.inl (s 84 47))]) (st' := [.inr (.inr (some 84))]) (h1 := hp L (ax_u2 (ax_u2 s 116 ((s 84 47).toNat) x0) 117 ((s 84 47).toNat) x1) c e) rfl ?_
  refine Ru.step (pc' := 26) (ls' := [some (.inr (.inr (some 84))), some (.inl x0), some (.inl x1), some (.inl x2), some (.inl x3), some (.inl (s 84 47))]) (st' := [.inr (.inr (some 118))]) (h1 := hp L (ax_u2 (ax_u2 s 116 ((s 84 47).toNat) x0) 117 ((s 84 47).toNat) x1) c e) rfl ?_
  refine Ru.step (pc' := 28) (ls' := [some (.inr (.inr (some 84))), some (.inl x0), some (.inl x1), some (.inl x2), some (.inl x3), some (.inl (s 84 47))]) (st' := [.inl (s 84 47), .inr (.inr (some 118))]) (h1 := hp L (ax_u2 (ax_u2 s 116 ((s 84 47).toNat) x0) 117 ((s 84 47).toNat) x1) c e) rfl ?_
  refine Ru.step (pc' := 29) (ls' := [some (.inr (.inr (some 84))), some (.inl x0), some (.inl x1), some (.inl x2), some (.inl x3), some (.inl (s 84 47))]) (st' := [.inl x2, .inl (s 84 47), .inr (.inr (some 118))]) (h1 := hp L (ax_u2 (ax_u2 s 116 ((s 84 47).toNat) x0) 117 ((s 84 47).toNat) x1) c e) rfl ?_
  obtain ⟨⟨b1, b2⟩, hg⟩ := hg
  refine Ru.ast (f := fun t => t == 0) (j := s 84 47) (a := 118) rfl rfl (by decide) rfl rfl b1 b2 ?_
  refine Ru.step (pc' := 31) (ls' := [some (.inr (.inr (some 84))), some (.inl x0), some (.inl x1), some (.inl x2), some (.inl x3), some (.inl (s 84 47))]) (st' := [.inr (.inr (some 84))]) (h1 := hp L (ax_u2 (ax_u2 (ax_u2 s 116 ((s 84 47).toNat) x0) 117 ((s 84 47).toNat) x1) 118 ((s 84 47).toNat) x2) c e) rfl ?_
  refine Ru.step (pc' := 34) (ls' := [some (.inr (.inr (some 84))), some (.inl x0), some (.inl x1), some (.inl x2), some (.inl x3), some (.inl (s 84 47))]) (st' := [.inr (.inr (some 119))]) (h1 := hp L (ax_u2 (ax_u2 (ax_u2 s 116 ((s 84 47).toNat) x0) 117 ((s 84 47).toNat) x1) 118 ((s 84 47).toNat) x2) c e) rfl ?_
  refine Ru.step (pc' := 36) (ls' := [some (.inr (.inr (some 84))), some (.inl x0), some (.inl x1), some (.inl x2), some (.inl x3), some (.inl (s 84 47))]) (st' := [.inl (s 84 47), .inr (.inr (some 119))]) (h1 := hp L (ax_u2 (ax_u2 (ax_u2 s 116 ((s 84 47).toNat) x0) 117 ((s 84 47).toNat) x1) 118 ((s 84 47).toNat) x2) c e) rfl ?_
  refine Ru.step (pc' := 38) (ls' := [some (.inr (.inr (some 84))), some (.inl x0), some (.inl x1), some (.inl x2), some (.inl x3), some (.inl (s 84 47))]) (st' := [.inl x3, .inl (s 84 47), .inr (.inr (some 119))]) (h1 := hp L (ax_u2 (ax_u2 (ax_u2 s 116 ((s 84 47).toNat) x0) 117 ((s 84 47).toNat) x1) 118 ((s 84 47).toNat) x2) c e) rfl ?_
  obtain ⟨⟨b1, b2⟩, hg⟩ := hg
  refine Ru.ast (f := fun t => t == 0) (j := s 84 47) (a := 119) rfl rfl (by decide) rfl rfl b1 b2 ?_
  refine Ru.step (pc' := 40) (ls' := [some (.inr (.inr (some 84))), some (.inl x0), some (.inl x1), some (.inl x2), some (.inl x3), some (.inl (s 84 47))]) (st' := [.inr (.inr (some 84))]) (h1 := hp L (ax_u2 (ax_u2 (ax_u2 (ax_u2 s 116 ((s 84 47).toNat) x0) 117 ((s 84 47).toNat) x1) 118 ((s 84 47).toNat) x2) 119 ((s 84 47).toNat) x3) c e) rfl ?_
  refine Ru.step (pc' := 43) (ls' := [some (.inr (.inr (some 84))), some (.inl x0), some (.inl x1), some (.inl x2), some (.inl x3), some (.inl (s 84 47))]) (st' := [.inr (.inr (some 120))]) (h1 := hp L (ax_u2 (ax_u2 (ax_u2 (ax_u2 s 116 ((s 84 47).toNat) x0) 117 ((s 84 47).toNat) x1) 118 ((s 84 47).toNat) x2) 119 ((s 84 47).toNat) x3) c e) rfl ?_
  refine Ru.step (pc' := 45) (ls' := [some (.inr (.inr (some 84))), some (.inl x0), some (.inl x1), some (.inl x2), some (.inl x3), some (.inl (s 84 47))]) (st' := [.inl (s 84 47), .inr (.inr (some 120))]) (h1 := hp L (ax_u2 (ax_u2 (ax_u2 (ax_u2 s 116 ((s 84 47).toNat) x0) 117 ((s 84 47).toNat) x1) 118 ((s 84 47).toNat) x2) 119 ((s 84 47).toNat) x3) c e) rfl ?_
  refine Ru.step (pc' := 46) (ls' := [some (.inr (.inr (some 84))), some (.inl x0), some (.inl x1), some (.inl x2), some (.inl x3), some (.inl (s 84 47))]) (st' := [.inl 0, .inl (s 84 47), .inr (.inr (some 120))]) (h1 := hp L (ax_u2 (ax_u2 (ax_u2 (ax_u2 s 116 ((s 84 47).toNat) x0) 117 ((s 84 47).toNat) x1) 118 ((s 84 47).toNat) x2) 119 ((s 84 47).toNat) x3) c e) rfl ?_
  obtain ⟨⟨b1, b2⟩, hg⟩ := hg
  refine Ru.ast (f := fun t => t == 0) (j := s 84 47) (a := 120) rfl rfl (by decide) rfl rfl b1 b2 ?_
  refine Ru.step (pc' := 48) (ls' := [some (.inr (.inr (some 84))), some (.inl x0), some (.inl x1), some (.inl x2), some (.inl x3), some (.inl (s 84 47))]) (st' := [.inr (.inr (some 84))]) (h1 := hp L (ax_u2 (ax_u2 (ax_u2 (ax_u2 (ax_u2 s 116 ((s 84 47).toNat) x0) 117 ((s 84 47).toNat) x1) 118 ((s 84 47).toNat) x2) 119 ((s 84 47).toNat) x3) 120 ((s 84 47).toNat) 0) c e) rfl ?_
  refine Ru.step (pc' := 51) (ls' := [some (.inr (.inr (some 84))), some (.inl x0), some (.inl x1), some (.inl x2), some (.inl x3), some (.inl (s 84 47))]) (st' := [.inr (.inr (some 121))]) (h1 := hp L (ax_u2 (ax_u2 (ax_u2 (ax_u2 (ax_u2 s 116 ((s 84 47).toNat) x0) 117 ((s 84 47).toNat) x1) 118 ((s 84 47).toNat) x2) 119 ((s 84 47).toNat) x3) 120 ((s 84 47).toNat) 0) c e) rfl ?_
  refine Ru.step (pc' := 53) (ls' := [some (.inr (.inr (some 84))), some (.inl x0), some (.inl x1), some (.inl x2), some (.inl x3), some (.inl (s 84 47))]) (st' := [.inl (s 84 47), .inr (.inr (some 121))]) (h1 := hp L (ax_u2 (ax_u2 (ax_u2 (ax_u2 (ax_u2 s 116 ((s 84 47).toNat) x0) 117 ((s 84 47).toNat) x1) 118 ((s 84 47).toNat) x2) 119 ((s 84 47).toNat) x3) 120 ((s 84 47).toNat) 0) c e) rfl ?_
  refine Ru.step (pc' := 54) (ls' := [some (.inr (.inr (some 84))), some (.inl x0), some (.inl x1), some (.inl x2), some (.inl x3), some (.inl (s 84 47))]) (st' := [.inr (.inr (some 84)), .inl (s 84 47), .inr (.inr (some 121))]) (h1 := hp L (ax_u2 (ax_u2 (ax_u2 (ax_u2 (ax_u2 s 116 ((s 84 47).toNat) x0) 117 ((s 84 47).toNat) x1) 118 ((s 84 47).toNat) x2) 119 ((s 84 47).toNat) x3) 120 ((s 84 47).toNat) 0) c e) rfl ?_
  refine Ru.step (pc' := 57) (ls' := [some (.inr (.inr (some 84))), some (.inl x0), some (.inl x1), some (.inl x2), some (.inl x3), some (.inl (s 84 47))]) (st' := [.inl (s 84 57), .inl (s 84 47), .inr (.inr (some 121))]) (h1 := hp L (ax_u2 (ax_u2 (ax_u2 (ax_u2 (ax_u2 s 116 ((s 84 47).toNat) x0) 117 ((s 84 47).toNat) x1) 118 ((s 84 47).toNat) x2) 119 ((s 84 47).toNat) x3) 120 ((s 84 47).toNat) 0) c e) rfl ?_
  obtain ⟨⟨b1, b2⟩, hg⟩ := hg
  refine Ru.ast (f := fun t => t == 0) (j := s 84 47) (a := 121) rfl rfl (by decide) rfl rfl b1 b2 ?_
  refine Ru.step (pc' := 59) (ls' := [some (.inr (.inr (some 84))), some (.inl x0), some (.inl x1), some (.inl x2), some (.inl x3), some (.inl (s 84 47))]) (st' := [.inr (.inr (some 84))]) (h1 := hp L (ax_u2 (ax_u2 (ax_u2 (ax_u2 (ax_u2 (ax_u2 s 116 ((s 84 47).toNat) x0) 117 ((s 84 47).toNat) x1) 118 ((s 84 47).toNat) x2) 119 ((s 84 47).toNat) x3) 120 ((s 84 47).toNat) 0) 121 ((s 84 47).toNat) (s 84 57)) c e) rfl ?_
  refine Ru.step (pc' := 62) (ls' := [some (.inr (.inr (some 84))), some (.inl x0), some (.inl x1), some (.inl x2), some (.inl x3), some (.inl (s 84 47))]) (st' := [.inr (.inr (some 123))]) (h1 := hp L (ax_u2 (ax_u2 (ax_u2 (ax_u2 (ax_u2 (ax_u2 s 116 ((s 84 47).toNat) x0) 117 ((s 84 47).toNat) x1) 118 ((s 84 47).toNat) x2) 119 ((s 84 47).toNat) x3) 120 ((s 84 47).toNat) 0) 121 ((s 84 47).toNat) (s 84 57)) c e) rfl ?_
  refine Ru.step (pc' := 64) (ls' := [some (.inr (.inr (some 84))), some (.inl x0), some (.inl x1), some (.inl x2), some (.inl x3), some (.inl (s 84 47))]) (st' := [.inl (s 84 47), .inr (.inr (some 123))]) (h1 := hp L (ax_u2 (ax_u2 (ax_u2 (ax_u2 (ax_u2 (ax_u2 s 116 ((s 84 47).toNat) x0) 117 ((s 84 47).toNat) x1) 118 ((s 84 47).toNat) x2) 119 ((s 84 47).toNat) x3) 120 ((s 84 47).toNat) 0) 121 ((s 84 47).toNat) (s 84 57)) c e) rfl ?_
  refine Ru.step (pc' := 65) (ls' := [some (.inr (.inr (some 84))), some (.inl x0), some (.inl x1), some (.inl x2), some (.inl x3), some (.inl (s 84 47))]) (st' := [.inr (.inr (some 84)), .inl (s 84 47), .inr (.inr (some 123))]) (h1 := hp L (ax_u2 (ax_u2 (ax_u2 (ax_u2 (ax_u2 (ax_u2 s 116 ((s 84 47).toNat) x0) 117 ((s 84 47).toNat) x1) 118 ((s 84 47).toNat) x2) 119 ((s 84 47).toNat) x3) 120 ((s 84 47).toNat) 0) 121 ((s 84 47).toNat) (s 84 57)) c e) rfl ?_
  refine Ru.step (pc' := 68) (ls' := [some (.inr (.inr (some 84))), some (.inl x0), some (.inl x1), some (.inl x2), some (.inl x3), some (.inl (s 84 47))]) (st' := [.inl (s 84 68), .inl (s 84 47), .inr (.inr (some 123))]) (h1 := hp L (ax_u2 (ax_u2 (ax_u2 (ax_u2 (ax_u2 (ax_u2 s 116 ((s 84 47).toNat) x0) 117 ((s 84 47).toNat) x1) 118 ((s 84 47).toNat) x2) 119 ((s 84 47).toNat) x3) 120 ((s 84 47).toNat) 0) 121 ((s 84 47).toNat) (s 84 57)) c e) rfl ?_
  obtain ⟨⟨b1, b2⟩, hg⟩ := hg
  refine Ru.ast (f := fun t => t == 0) (j := s 84 47) (a := 123) rfl rfl (by decide) rfl rfl b1 b2 ?_
  refine Ru.step (pc' := 70) (ls' := [some (.inr (.inr (some 84))), some (.inl x0), some (.inl x1), some (.inl x2), some (.inl x3), some (.inl (s 84 47))]) (st' := [.inr (.inr (some 84))]) (h1 := hp L (ax_u2 (ax_u2 (ax_u2 (ax_u2 (ax_u2 (ax_u2 (ax_u2 s 116 ((s 84 47).toNat) x0) 117 ((s 84 47).toNat) x1) 118 ((s 84 47).toNat) x2) 119 ((s 84 47).toNat) x3) 120 ((s 84 47).toNat) 0) 121 ((s 84 47).toNat) (s 84 57)) 123 ((s 84 47).toNat) (s 84 68)) c e) rfl ?_
  refine Ru.step (pc' := 73) (ls' := [some (.inr (.inr (some 84))), some (.inl x0), some (.inl x1), some (.inl x2), some (.inl x3), some (.inl (s 84 47))]) (st' := [.inr (.inr (some 124))]) (h1 := hp L (ax_u2 (ax_u2 (ax_u2 (ax_u2 (ax_u2 (ax_u2 (ax_u2 s 116 ((s 84 47).toNat) x0) 117 ((s 84 47).toNat) x1) 118 ((s 84 47).toNat) x2) 119 ((s 84 47).toNat) x3) 120 ((s 84 47).toNat) 0) 121 ((s 84 47).toNat) (s 84 57)) 123 ((s 84 47).toNat) (s 84 68)) c e) rfl ?_
  refine Ru.step (pc' := 75) (ls' := [some (.inr (.inr (some 84))), some (.inl x0), some (.inl x1), some (.inl x2), some (.inl x3), some (.inl (s 84 47))]) (st' := [.inl (s 84 47), .inr (.inr (some 124))]) (h1 := hp L (ax_u2 (ax_u2 (ax_u2 (ax_u2 (ax_u2 (ax_u2 (ax_u2 s 116 ((s 84 47).toNat) x0) 117 ((s 84 47).toNat) x1) 118 ((s 84 47).toNat) x2) 119 ((s 84 47).toNat) x3) 120 ((s 84 47).toNat) 0) 121 ((s 84 47).toNat) (s 84 57)) 123 ((s 84 47).toNat) (s 84 68)) c e) rfl ?_
  refine Ru.step (pc' := 76) (ls' := [some (.inr (.inr (some 84))), some (.inl x0), some (.inl x1), some (.inl x2), some (.inl x3), some (.inl (s 84 47))]) (st' := [.inr (.inr (some 84)), .inl (s 84 47), .inr (.inr (some 124))]) (h1 := hp L (ax_u2 (ax_u2 (ax_u2 (ax_u2 (ax_u2 (ax_u2 (ax_u2 s 116 ((s 84 47).toNat) x0) 117 ((s 84 47).toNat) x1) 118 ((s 84 47).toNat) x2) 119 ((s 84 47).toNat) x3) 120 ((s 84 47).toNat) 0) 121 ((s 84 47).toNat) (s 84 57)) 123 ((s 84 47).toNat) (s 84 68)) c e) rfl ?_
  refine Ru.step (pc' := 79) (ls' := [some (.inr (.inr (some 84))), some (.inl x0), some (.inl x1), some (.inl x2), some (.inl x3), some (.inl (s 84 47))]) (st' := [.inl (s 84 46), .inl (s 84 47), .inr (.inr (some 124))]) (h1 := hp L (ax_u2 (ax_u2 (ax_u2 (ax_u2 (ax_u2 (ax_u2 (ax_u2 s 116 ((s 84 47).toNat) x0) 117 ((s 84 47).toNat) x1) 118 ((s 84 47).toNat) x2) 119 ((s 84 47).toNat) x3) 120 ((s 84 47).toNat) 0) 121 ((s 84 47).toNat) (s 84 57)) 123 ((s 84 47).toNat) (s 84 68)) c e) rfl ?_
  obtain ⟨⟨b1, b2⟩, hg⟩ := hg
  refine Ru.ast (f := fun t => t == 0) (j := s 84 47) (a := 124) rfl rfl (by decide) rfl rfl b1 b2 ?_
  refine Ru.step (pc' := 81) (ls' := [some (.inr (.inr (some 84))), some (.inl x0), some (.inl x1), some (.inl x2), some (.inl x3), some (.inl (s 84 47))]) (st' := [.inr (.inr (some 84))]) (h1 := hp L (ax_u2 (ax_u2 (ax_u2 (ax_u2 (ax_u2 (ax_u2 (ax_u2 (ax_u2 s 116 ((s 84 47).toNat) x0) 117 ((s 84 47).toNat) x1) 118 ((s 84 47).toNat) x2) 119 ((s 84 47).toNat) x3) 120 ((s 84 47).toNat) 0) 121 ((s 84 47).toNat) (s 84 57)) 123 ((s 84 47).toNat) (s 84 68)) 124 ((s 84 47).toNat) (s 84 46)) c e) rfl ?_
  refine Ru.step (pc' := 82) (ls' := [some (.inr (.inr (some 84))), some (.inl x0), some (.inl x1), some (.inl x2), some (.inl x3), some (.inl (s 84 47))]) (st' := [.inr (.inr (some 84)), .inr (.inr (some 84))]) (h1 := hp L (ax_u2 (ax_u2 (ax_u2 (ax_u2 (ax_u2 (ax_u2 (ax_u2 (ax_u2 s 116 ((s 84 47).toNat) x0) 117 ((s 84 47).toNat) x1) 118 ((s 84 47).toNat) x2) 119 ((s 84 47).toNat) x3) 120 ((s 84 47).toNat) 0) 121 ((s 84 47).toNat) (s 84 57)) 123 ((s 84 47).toNat) (s 84 68)) 124 ((s 84 47).toNat) (s 84 46)) c e) rfl ?_
  refine Ru.step (pc' := 85) (ls' := [some (.inr (.inr (some 84))), some (.inl x0), some (.inl x1), some (.inl x2), some (.inl x3), some (.inl (s 84 47))]) (st' := [.inl (s 84 47), .inr (.inr (some 84))]) (h1 := hp L (ax_u2 (ax_u2 (ax_u2 (ax_u2 (ax_u2 (ax_u2 (ax_u2 (ax_u2 s 116 ((s 84 47).toNat) x0) 117 ((s 84 47).toNat) x1) 118 ((s 84 47).toNat) x2) 119 ((s 84 47).toNat) x3) 120 ((s 84 47).toNat) 0) 121 ((s 84 47).toNat) (s 84 57)) 123 ((s 84 47).toNat) (s 84 68)) 124 ((s 84 47).toNat) (s 84 46)) c e) rfl ?_
  refine Ru.step (pc' := 86) (ls' := [some (.inr (.inr (some 84))), some (.inl x0), some (.inl x1), some (.inl x2), some (.inl x3), some (.inl (s 84 47))]) (st' := [.inl 1, .inl (s 84 47), .inr (.inr (some 84))]) (h1 := hp L (ax_u2 (ax_u2 (ax_u2 (ax_u2 (ax_u2 (ax_u2 (ax_u2 (ax_u2 s 116 ((s 84 47).toNat) x0) 117 ((s 84 47).toNat) x1) 118 ((s 84 47).toNat) x2) 119 ((s 84 47).toNat) x3) 120 ((s 84 47).toNat) 0) 121 ((s 84 47).toNat) (s 84 57)) 123 ((s 84 47).toNat) (s 84 68)) 124 ((s 84 47).toNat) (s 84 46)) c e) rfl ?_
  refine Ru.step (pc' := 87) (ls' := [some (.inr (.inr (some 84))), some (.inl x0), some (.inl x1), some (.inl x2), some (.inl x3), some (.inl (s 84 47))]) (st' := [.inl (ax_w32 ((s 84 47) + 1)), .inr (.inr (some 84))]) (h1 := hp L (ax_u2 (ax_u2 (ax_u2 (ax_u2 (ax_u2 (ax_u2 (ax_u2 (ax_u2 s 116 ((s 84 47).toNat) x0) 117 ((s 84 47).toNat) x1) 118 ((s 84 47).toNat) x2) 119 ((s 84 47).toNat) x3) 120 ((s 84 47).toNat) 0) 121 ((s 84 47).toNat) (s 84 57)) 123 ((s 84 47).toNat) (s 84 68)) 124 ((s 84 47).toNat) (s 84 46)) c e) rfl ?_
  refine Ru.step (pc' := 90) (ls' := [some (.inr (.inr (some 84))), some (.inl x0), some (.inl x1), some (.inl x2), some (.inl x3), some (.inl (s 84 47))]) (st' := []) (h1 := hp L (ax_u2 (ax_u2 (ax_u2 (ax_u2 (ax_u2 (ax_u2 (ax_u2 (ax_u2 (ax_u2 s 116 ((s 84 47).toNat) x0) 117 ((s 84 47).toNat) x1) 118 ((s 84 47).toNat) x2) 119 ((s 84 47).toNat) x3) 120 ((s 84 47).toNat) 0) 121 ((s 84 47).toNat) (s 84 57)) 123 ((s 84 47).toNat) (s 84 68)) 124 ((s 84 47).toNat) (s 84 46)) 84 47 (ax_w32 ((s 84 47) + 1))) c e) rfl ?_
  refine Ru.step (pc' := 92) (ls' := [some (.inr (.inr (some 84))), some (.inl x0), some (.inl x1), some (.inl x2), some (.inl x3), some (.inl (s 84 47))]) (st' := [.inl (s 84 47)]) (h1 := hp L (ax_u2 (ax_u2 (ax_u2 (ax_u2 (ax_u2 (ax_u2 (ax_u2 (ax_u2 (ax_u2 s 116 ((s 84 47).toNat) x0) 117 ((s 84 47).toNat) x1) 118 ((s 84 47).toNat) x2) 119 ((s 84 47).toNat) x3) 120 ((s 84 47).toNat) 0) 121 ((s 84 47).toNat) (s 84 57)) 123 ((s 84 47).toNat) (s 84 68)) 124 ((s 84 47).toNat) (s 84 46)) 84 47 (ax_w32 ((s 84 47) + 1))) c e) rfl ?_
  exact Ru.done rfl
/-- MachineTextModel.operand(III)V -/
def f_264 (x0 x1 x2 : Int) (s : Nat → Nat → Int) : Nat → Nat → Int := (ax_u2 (ax_u2 (ax_u2 (ax_u2 s 126 ((s 84 59).toNat) x0) 127 ((s 84 59).toNat) x1) 128 ((s 84 59).toNat) x2) 84 59 (ax_w32 ((s 84 59) + 1)))
def g_264 (x0 x1 x2 : Int) (s : Nat → Nat → Int) : Prop := ((0 ≤ s 84 59 ∧ s 84 59 < 8200) ∧ ((0 ≤ s 84 59 ∧ s 84 59 < 8200) ∧ ((0 ≤ s 84 59 ∧ s 84 59 < 8200) ∧ True)))
theorem ev_264 {L c : Nat} {s : Nat → Nat → Int} {e : Nat → Nat} (x0 x1 x2 : Int) (hg : g_264 x0 x1 x2 s) : Ev 1 264 [.inr (.inr (some 84)), .inl x0, .inl x1, .inl x2] (hp L s c e) (.inl none) (hp L (f_264 x0 x1 x2 s) c e) := by
  unfold f_264
  unfold g_264 at hg
  refine Ev.of (μ := tb_m264) (ls := [some (.inr (.inr (some 84))), some (.inl x0), some (.inl x1), some (.inl x2)]) rfl (Nat.le_of_ble_eq_true rfl) rfl ?_
  refine Ru.step (pc' := 1) (ls' := [some (.inr (.inr (some 84))), some (.inl x0), some (.inl x1), some (.inl x2)]) (st' := [.inr (.inr (some 84))]) (h1 := hp L s c e) rfl ?_
  refine Ru.step (pc' := 4) (ls' := [some (.inr (.inr (some 84))), some (.inl x0), some (.inl x1), some (.inl x2)]) (st' := [.inr (.inr (some 126))]) (h1 := hp L s c e) rfl ?_
  refine Ru.step (pc' := 5) (ls' := [some (.inr (.inr (some 84))), some (.inl x0), some (.inl x1), some (.inl x2)]) (st' := [.inr (.inr (some 84)), .inr (.inr (some 126))]) (h1 := hp L s c e) rfl ?_
  refine Ru.step (pc' := 8) (ls' := [some (.inr (.inr (some 84))), some (.inl x0), some (.inl x1), some (.inl x2)]) (st' := [.inl (s 84 59), .inr (.inr (some 126))]) (h1 := hp L s c e) rfl ?_
  refine Ru.step (pc' := 9) (ls' := [some (.inr (.inr (some 84))), some (.inl x0), some (.inl x1), some (.inl x2)]) (st' := [.inl x0, .inl (s 84 59), .inr (.inr (some 126))]) (h1 := hp L s c e) rfl ?_
  obtain ⟨⟨b1, b2⟩, hg⟩ := hg
  refine Ru.ast (f := fun t => t == 0) (j := s 84 59) (a := 126) rfl rfl (by decide) rfl rfl b1 b2 ?_
  refine Ru.step (pc' := 11) (ls' := [some (.inr (.inr (some 84))), some (.inl x0), some (.inl x1), some (.inl x2)]) (st' := [.inr (.inr (some 84))]) (h1 := hp L (ax_u2 s 126 ((s 84 59).toNat) x0) c e) rfl ?_
  refine Ru.step (pc' := 14) (ls' := [some (.inr (.inr (some 84))), some (.inl x0), some (.inl x1), some (.inl x2)]) (st' := [.inr (.inr (some 127))]) (h1 := hp L (ax_u2 s 126 ((s 84 59).toNat) x0) c e) rfl ?_
  refine Ru.step (pc' := 15) (ls' := [some (.inr (.inr (some 84))), some (.inl x0), some (.inl x1), some (.inl x2)]) (st' := [.inr (.inr (some 84)), .inr (.inr (some 127))]) (h1 := hp L (ax_u2 s 126 ((s 84 59).toNat) x0) c e) rfl ?_
  refine Ru.step (pc' := 18) (ls' := [some (.inr (.inr (some 84))), some (.inl x0), some (.inl x1), some (.inl x2)]) (st' := [.inl (s 84 59), .inr (.inr (some 127))]) (h1 := hp L (ax_u2 s 126 ((s 84 59).toNat) x0) c e) rfl ?_
  refine Ru.step (pc' := 19) (ls' := [some (.inr (.inr (some 84))), some (.inl x0), some (.inl x1), some (.inl x2)]) (st' := [.inl x1, .inl (s 84 59), .inr (.inr (some 127))]) (h1 := hp L (ax_u2 s 126 ((s 84 59).toNat) x0) c e) rfl ?_
  obtain ⟨⟨b1, b2⟩, hg⟩ := hg
  refine Ru.ast (f := fun t => t == 0) (j := s 84 59) (a := 127) rfl rfl (by decide) rfl rfl b1 b2 ?_
  refine Ru.step (pc' := 21) (ls' := [some (.inr (.inr (some 84))), some (.inl x0), some (.inl x1), some (.inl x2)]) (st' := [.inr (.inr (some 84))]) (h1 := hp L (ax_u2 (ax_u2 s 126 ((s 84 59).toNat) x0) 127 ((s 84 59).toNat) x1) c e) rfl ?_
  refine Ru.step (pc' := 24) (ls' := [some (.inr (.inr (some 84))), some (.inl x0), some (.inl x1), some (.inl x2)]) (st' := [.inr (.inr (some 128))]) (h1 := hp L (ax_u2 (ax_u2 s 126 ((s 84 59).toNat) x0) 127 ((s 84 59).toNat) x1) c e) rfl ?_
  refine Ru.step (pc' := 25) (ls' := [some (.inr (.inr (some 84))), some (.inl x0), some (.inl x1), some (.inl x2)]) (st' := [.inr (.inr (some 84)), .inr (.inr (some 128))]) (h1 := hp L (ax_u2 (ax_u2 s 126 ((s 84 59).toNat) x0) 127 ((s 84 59).toNat) x1) c e) rfl ?_
  refine Ru.step (pc' := 28) (ls' := [some (.inr (.inr (some 84))), some (.inl x0), some (.inl x1), some (.inl x2)]) (st' := [.inl (s 84 59), .inr (.inr (some 128))]) (h1 := hp L (ax_u2 (ax_u2 s 126 ((s 84 59).toNat) x0) 127 ((s 84 59).toNat) x1) c e) rfl ?_
  refine Ru.step (pc' := 29) (ls' := [some (.inr (.inr (some 84))), some (.inl x0), some (.inl x1), some (.inl x2)]) (st' := [.inl x2, .inl (s 84 59), .inr (.inr (some 128))]) (h1 := hp L (ax_u2 (ax_u2 s 126 ((s 84 59).toNat) x0) 127 ((s 84 59).toNat) x1) c e) rfl ?_
  obtain ⟨⟨b1, b2⟩, hg⟩ := hg
  refine Ru.ast (f := fun t => t == 0) (j := s 84 59) (a := 128) rfl rfl (by decide) rfl rfl b1 b2 ?_
  refine Ru.step (pc' := 31) (ls' := [some (.inr (.inr (some 84))), some (.inl x0), some (.inl x1), some (.inl x2)]) (st' := [.inr (.inr (some 84))]) (h1 := hp L (ax_u2 (ax_u2 (ax_u2 s 126 ((s 84 59).toNat) x0) 127 ((s 84 59).toNat) x1) 128 ((s 84 59).toNat) x2) c e) rfl ?_
  refine Ru.step (pc' := 32) (ls' := [some (.inr (.inr (some 84))), some (.inl x0), some (.inl x1), some (.inl x2)]) (st' := [.inr (.inr (some 84)), .inr (.inr (some 84))]) (h1 := hp L (ax_u2 (ax_u2 (ax_u2 s 126 ((s 84 59).toNat) x0) 127 ((s 84 59).toNat) x1) 128 ((s 84 59).toNat) x2) c e) rfl ?_
  refine Ru.step (pc' := 35) (ls' := [some (.inr (.inr (some 84))), some (.inl x0), some (.inl x1), some (.inl x2)]) (st' := [.inl (s 84 59), .inr (.inr (some 84))]) (h1 := hp L (ax_u2 (ax_u2 (ax_u2 s 126 ((s 84 59).toNat) x0) 127 ((s 84 59).toNat) x1) 128 ((s 84 59).toNat) x2) c e) rfl ?_
  refine Ru.step (pc' := 36) (ls' := [some (.inr (.inr (some 84))), some (.inl x0), some (.inl x1), some (.inl x2)]) (st' := [.inl 1, .inl (s 84 59), .inr (.inr (some 84))]) (h1 := hp L (ax_u2 (ax_u2 (ax_u2 s 126 ((s 84 59).toNat) x0) 127 ((s 84 59).toNat) x1) 128 ((s 84 59).toNat) x2) c e) rfl ?_
  refine Ru.step (pc' := 37) (ls' := [some (.inr (.inr (some 84))), some (.inl x0), some (.inl x1), some (.inl x2)]) (st' := [.inl (ax_w32 ((s 84 59) + 1)), .inr (.inr (some 84))]) (h1 := hp L (ax_u2 (ax_u2 (ax_u2 s 126 ((s 84 59).toNat) x0) 127 ((s 84 59).toNat) x1) 128 ((s 84 59).toNat) x2) c e) rfl ?_
  refine Ru.step (pc' := 40) (ls' := [some (.inr (.inr (some 84))), some (.inl x0), some (.inl x1), some (.inl x2)]) (st' := []) (h1 := hp L (ax_u2 (ax_u2 (ax_u2 (ax_u2 s 126 ((s 84 59).toNat) x0) 127 ((s 84 59).toNat) x1) 128 ((s 84 59).toNat) x2) 84 59 (ax_w32 ((s 84 59) + 1))) c e) rfl ?_
  exact Ru.done rfl
/-- java/lang/Math.min(II)I -/
def f_291 (x0 x1 : Int) (s : Nat → Nat → Int) : Int := (if x1 < x0 then x1 else x0)
theorem ev_291 {L c : Nat} {s : Nat → Nat → Int} {e : Nat → Nat} (x0 x1 : Int) : Ev 1 291 [.inl x0, .inl x1] (hp L s c e) (.inl (some (.inl (f_291 x0 x1 s)))) (hp L s c e) := by
  unfold f_291
  refine Ev.of (μ := tb_m291) (ls := [some (.inl x0), some (.inl x1)]) rfl (Nat.le_of_ble_eq_true rfl) rfl ?_
  refine Ru.step (pc' := 1) (ls' := [some (.inl x0), some (.inl x1)]) (st' := [.inl x0]) (h1 := hp L s c e) rfl ?_
  refine Ru.step (pc' := 2) (ls' := [some (.inl x0), some (.inl x1)]) (st' := [.inl x1, .inl x0]) (h1 := hp L s c e) rfl ?_
  by_cases h0 : x1 < x0
  · rw [if_pos h0]
    refine Ru.jy rfl h0 ?_
    refine Ru.step (pc' := 10) (ls' := [some (.inl x0), some (.inl x1)]) (st' := [.inl x1]) (h1 := hp L s c e) rfl ?_
    exact Ru.done rfl
  · rw [if_neg h0]
    refine Ru.jn rfl h0 ?_
    refine Ru.step (pc' := 6) (ls' := [some (.inl x0), some (.inl x1)]) (st' := [.inl x0]) (h1 := hp L s c e) rfl ?_
    refine Ru.step (pc' := 10) (ls' := [some (.inl x0), some (.inl x1)]) (st' := [.inl x0]) (h1 := hp L s c e) rfl ?_
    exact Ru.done rfl
/-- java/lang/Math.max(II)I -/
def f_292 (x0 x1 : Int) (s : Nat → Nat → Int) : Int := (if x0 < x1 then x1 else x0)
theorem ev_292 {L c : Nat} {s : Nat → Nat → Int} {e : Nat → Nat} (x0 x1 : Int) : Ev 1 292 [.inl x0, .inl x1] (hp L s c e) (.inl (some (.inl (f_292 x0 x1 s)))) (hp L s c e) := by
  unfold f_292
  refine Ev.of (μ := tb_m292) (ls := [some (.inl x0), some (.inl x1)]) rfl (Nat.le_of_ble_eq_true rfl) rfl ?_
  refine Ru.step (pc' := 1) (ls' := [some (.inl x0), some (.inl x1)]) (st' := [.inl x0]) (h1 := hp L s c e) rfl ?_
  refine Ru.step (pc' := 2) (ls' := [some (.inl x0), some (.inl x1)]) (st' := [.inl x1, .inl x0]) (h1 := hp L s c e) rfl ?_
  by_cases h0 : x0 < x1
  · rw [if_pos h0]
    refine Ru.jy rfl h0 ?_
    refine Ru.step (pc' := 10) (ls' := [some (.inl x0), some (.inl x1)]) (st' := [.inl x1]) (h1 := hp L s c e) rfl ?_
    exact Ru.done rfl
  · rw [if_neg h0]
    refine Ru.jn rfl h0 ?_
    refine Ru.step (pc' := 6) (ls' := [some (.inl x0), some (.inl x1)]) (st' := [.inl x0]) (h1 := hp L s c e) rfl ?_
    refine Ru.step (pc' := 10) (ls' := [some (.inl x0), some (.inl x1)]) (st' := [.inl x0]) (h1 := hp L s c e) rfl ?_
    exact Ru.done rfl
/-- java/lang/Math.min(JJ)J -/
def f_293 (x0 x1 : Int) (s : Nat → Nat → Int) : Int := (if 0 < ax_cmp x0 x1 then x1 else x0)
theorem ev_293 {L c : Nat} {s : Nat → Nat → Int} {e : Nat → Nat} (x0 x1 : Int) : Ev 1 293 [.inr (.inl x0), .inr (.inl x1)] (hp L s c e) (.inl (some (.inr (.inl (f_293 x0 x1 s))))) (hp L s c e) := by
  unfold f_293
  refine Ev.of (μ := tb_m293) (ls := [some (.inr (.inl x0)), none, some (.inr (.inl x1)), none]) rfl (Nat.le_of_ble_eq_true rfl) rfl ?_
  refine Ru.step (pc' := 1) (ls' := [some (.inr (.inl x0)), none, some (.inr (.inl x1)), none]) (st' := [.inr (.inl x0)]) (h1 := hp L s c e) rfl ?_
  refine Ru.step (pc' := 2) (ls' := [some (.inr (.inl x0)), none, some (.inr (.inl x1)), none]) (st' := [.inr (.inl x1), .inr (.inl x0)]) (h1 := hp L s c e) rfl ?_
  refine Ru.step (pc' := 3) (ls' := [some (.inr (.inl x0)), none, some (.inr (.inl x1)), none]) (st' := [.inl (ax_cmp x0 x1)]) (h1 := hp L s c e) rfl ?_
  by_cases h0 : 0 < ax_cmp x0 x1
  · rw [if_pos h0]
    refine Ru.jy rfl h0 ?_
    refine Ru.step (pc' := 11) (ls' := [some (.inr (.inl x0)), none, some (.inr (.inl x1)), none]) (st' := [.inr (.inl x1)]) (h1 := hp L s c e) rfl ?_
    exact Ru.done rfl
  · rw [if_neg h0]
    refine Ru.jn rfl h0 ?_
    refine Ru.step (pc' := 7) (ls' := [some (.inr (.inl x0)), none, some (.inr (.inl x1)), none]) (st' := [.inr (.inl x0)]) (h1 := hp L s c e) rfl ?_
    refine Ru.step (pc' := 11) (ls' := [some (.inr (.inl x0)), none, some (.inr (.inl x1)), none]) (st' := [.inr (.inl x0)]) (h1 := hp L s c e) rfl ?_
    exact Ru.done rfl
/-- java/lang/Integer.bitCount(I)I -/
def f_294 (x0 : Int) (s : Nat → Nat → Int) : Int := ax_iand (ax_w32 ((ax_w32 ((ax_iand (ax_w32 ((ax_w32 ((ax_iand (ax_w32 (x0 - (ax_iand (ax_iushr x0 1) 1431655765))) 858993459) + (ax_iand (ax_iushr (ax_w32 (x0 - (ax_iand (ax_iushr x0 1) 1431655765))) 2) 858993459))) + (ax_iushr (ax_w32 ((ax_iand (ax_w32 (x0 - (ax_iand (ax_iushr x0 1) 1431655765))) 858993459) + (ax_iand (ax_iushr (ax_w32 (x0 - (ax_iand (ax_iushr x0 1) 1431655765))) 2) 858993459))) 4))) 252645135) + (ax_iushr (ax_iand (ax_w32 ((ax_w32 ((ax_iand (ax_w32 (x0 - (ax_iand (ax_iushr x0 1) 1431655765))) 858993459) + (ax_iand (ax_iushr (ax_w32 (x0 - (ax_iand (ax_iushr x0 1) 1431655765))) 2) 858993459))) + (ax_iushr (ax_w32 ((ax_iand (ax_w32 (x0 - (ax_iand (ax_iushr x0 1) 1431655765))) 858993459) + (ax_iand (ax_iushr (ax_w32 (x0 - (ax_iand (ax_iushr x0 1) 1431655765))) 2) 858993459))) 4))) 252645135) 8))) + (ax_iushr (ax_w32 ((ax_iand (ax_w32 ((ax_w32 ((ax_iand (ax_w32 (x0 - (ax_iand (ax_iushr x0 1) 1431655765))) 858993459) + (ax_iand (ax_iushr (ax_w32 (x0 - (ax_iand (ax_iushr x0 1) 1431655765))) 2) 858993459))) + (ax_iushr (ax_w32 ((ax_iand (ax_w32 (x0 - (ax_iand (ax_iushr x0 1) 1431655765))) 858993459) + (ax_iand (ax_iushr (ax_w32 (x0 - (ax_iand (ax_iushr x0 1) 1431655765))) 2) 858993459))) 4))) 252645135) + (ax_iushr (ax_iand (ax_w32 ((ax_w32 ((ax_iand (ax_w32 (x0 - (ax_iand (ax_iushr x0 1) 1431655765))) 858993459) + (ax_iand (ax_iushr (ax_w32 (x0 - (ax_iand (ax_iushr x0 1) 1431655765))) 2) 858993459))) + (ax_iushr (ax_w32 ((ax_iand (ax_w32 (x0 - (ax_iand (ax_iushr x0 1) 1431655765))) 858993459) + (ax_iand (ax_iushr (ax_w32 (x0 - (ax_iand (ax_iushr x0 1) 1431655765))) 2) 858993459))) 4))) 252645135) 8))) 16))) 63
theorem ev_294 {L c : Nat} {s : Nat → Nat → Int} {e : Nat → Nat} (x0 : Int) : Ev 1 294 [.inl x0] (hp L s c e) (.inl (some (.inl (f_294 x0 s)))) (hp L s c e) := by
  unfold f_294
  refine Ev.of (μ := tb_m294) (ls := [some (.inl x0)]) rfl (Nat.le_of_ble_eq_true rfl) rfl ?_
  refine Ru.step (pc' := 1) (ls' := [some (.inl x0)]) (st' := [.inl x0]) (h1 := hp L s c e) rfl ?_
  refine Ru.step (pc' := 2) (ls' := [some (.inl x0)]) (st' := [.inl x0, .inl x0]) (h1 := hp L s c e) rfl ?_
  refine Ru.step (pc' := 3) (ls' := [some (.inl x0)]) (st' := [.inl 1, .inl x0, .inl x0]) (h1 := hp L s c e) rfl ?_
  refine Ru.step (pc' := 4) (ls' := [some (.inl x0)]) (st' := [.inl (ax_iushr x0 1), .inl x0]) (h1 := hp L s c e) rfl ?_
  refine Ru.step (pc' := 7) (ls' := [some (.inl x0)]) (st' := [.inl 1431655765, .inl (ax_iushr x0 1), .inl x0]) (h1 := hp L s c e) rfl ?_
  refine Ru.step (pc' := 8) (ls' := [some (.inl x0)]) (st' := [.inl (ax_iand (ax_iushr x0 1) 1431655765), .inl x0]) (h1 := hp L s c e) rfl ?_
  refine Ru.step (pc' := 9) (ls' := [some (.inl x0)]) (st' := [.inl (ax_w32 (x0 - (ax_iand (ax_iushr x0 1) 1431655765)))]) (h1 := hp L s c e) rfl ?_
  refine Ru.step (pc' := 10) (ls' := [some (.inl (ax_w32 (x0 - (ax_iand (ax_iushr x0 1) 1431655765))))]) (st' := []) (h1 := hp L s c e) rfl ?_
  refine Ru.step (pc' := 11) (ls' := [some (.inl (ax_w32 (x0 - (ax_iand (ax_iushr x0 1) 1431655765))))]) (st' := [.inl (ax_w32 (x0 - (ax_iand (ax_iushr x0 1) 1431655765)))]) (h1 := hp L s c e) rfl ?_
  refine Ru.step (pc' := 14) (ls' := [some (.inl (ax_w32 (x0 - (ax_iand (ax_iushr x0 1) 1431655765))))]) (st' := [.inl 858993459, .inl (ax_w32 (x0 - (ax_iand (ax_iushr x0 1) 1431655765)))]) (h1 := hp L s c e) rfl ?_
  refine Ru.step (pc' := 15) (ls' := [some (.inl (ax_w32 (x0 - (ax_iand (ax_iushr x0 1) 1431655765))))]) (st' := [.inl (ax_iand (ax_w32 (x0 - (ax_iand (ax_iushr x0 1) 1431655765))) 858993459)]) (h1 := hp L s c e) rfl ?_
  refine Ru.step (pc' := 16) (ls' := [some (.inl (ax_w32 (x0 - (ax_iand (ax_iushr x0 1) 1431655765))))]) (st' := [.inl (ax_w32 (x0 - (ax_iand (ax_iushr x0 1) 1431655765))), .inl (ax_iand (ax_w32 (x0 - (ax_iand (ax_iushr x0 1) 1431655765))) 858993459)]) (h1 := hp L s c e) rfl ?_
  refine Ru.step (pc' := 17) (ls' := [some (.inl (ax_w32 (x0 - (ax_iand (ax_iushr x0 1) 1431655765))))]) (st' := [.inl 2, .inl (ax_w32 (x0 - (ax_iand (ax_iushr x0 1) 1431655765))), .inl (ax_iand (ax_w32 (x0 - (ax_iand (ax_iushr x0 1) 1431655765))) 858993459)]) (h1 := hp L s c e) rfl ?_
  refine Ru.step (pc' := 18) (ls' := [some (.inl (ax_w32 (x0 - (ax_iand (ax_iushr x0 1) 1431655765))))]) (st' := [.inl (ax_iushr (ax_w32 (x0 - (ax_iand (ax_iushr x0 1) 1431655765))) 2), .inl (ax_iand (ax_w32 (x0 - (ax_iand (ax_iushr x0 1) 1431655765))) 858993459)]) (h1 := hp L s c e) rfl ?_
  refine Ru.step (pc' := 21) (ls' := [some (.inl (ax_w32 (x0 - (ax_iand (ax_iushr x0 1) 1431655765))))]) (st' := [.inl 858993459, .inl (ax_iushr (ax_w32 (x0 - (ax_iand (ax_iushr x0 1) 1431655765))) 2), .inl (ax_iand (ax_w32 (x0 - (ax_iand (ax_iushr x0 1) 1431655765))) 858993459)]) (h1 := hp L s c e) rfl ?_
  refine Ru.step (pc' := 22) (ls' := [some (.inl (ax_w32 (x0 - (ax_iand (ax_iushr x0 1) 1431655765))))]) (st' := [.inl (ax_iand (ax_iushr (ax_w32 (x0 - (ax_iand (ax_iushr x0 1) 1431655765))) 2) 858993459), .inl (ax_iand (ax_w32 (x0 - (ax_iand (ax_iushr x0 1) 1431655765))) 858993459)]) (h1 := hp L s c e) rfl ?_
  refine Ru.step (pc' := 23) (ls' := [some (.inl (ax_w32 (x0 - (ax_iand (ax_iushr x0 1) 1431655765))))]) (st' := [.inl (ax_w32 ((ax_iand (ax_w32 (x0 - (ax_iand (ax_iushr x0 1) 1431655765))) 858993459) + (ax_iand (ax_iushr (ax_w32 (x0 - (ax_iand (ax_iushr x0 1) 1431655765))) 2) 858993459)))]) (h1 := hp L s c e) rfl ?_
  refine Ru.step (pc' := 24) (ls' := [some (.inl (ax_w32 ((ax_iand (ax_w32 (x0 - (ax_iand (ax_iushr x0 1) 1431655765))) 858993459) + (ax_iand (ax_iushr (ax_w32 (x0 - (ax_iand (ax_iushr x0 1) 1431655765))) 2) 858993459))))]) (st' := []) (h1 := hp L s c e) rfl ?_
  refine Ru.step (pc' := 25) (ls' := [some (.inl (ax_w32 ((ax_iand (ax_w32 (x0 - (ax_iand (ax_iushr x0 1) 1431655765))) 858993459) + (ax_iand (ax_iushr (ax_w32 (x0 - (ax_iand (ax_iushr x0 1) 1431655765))) 2) 858993459))))]) (st' := [.inl (ax_w32 ((ax_iand (ax_w32 (x0 - (ax_iand (ax_iushr x0 1) 1431655765))) 858993459) + (ax_iand (ax_iushr (ax_w32 (x0 - (ax_iand (ax_iushr x0 1) 1431655765))) 2) 858993459)))]) (h1 := hp L s c e) rfl ?_
  refine Ru.step (pc' := 26) (ls' := [some (.inl (ax_w32 ((ax_iand (ax_w32 (x0 - (ax_iand (ax_iushr x0 1) 1431655765))) 858993459) + (ax_iand (ax_iushr (ax_w32 (x0 - (ax_iand (ax_iushr x0 1) 1431655765))) 2) 858993459))))]) (st' := [.inl (ax_w32 ((ax_iand (ax_w32 (x0 - (ax_iand (ax_iushr x0 1) 1431655765))) 858993459) + (ax_iand (ax_iushr (ax_w32 (x0 - (ax_iand (ax_iushr x0 1) 1431655765))) 2) 858993459))), .inl (ax_w32 ((ax_iand (ax_w32 (x0 - (ax_iand (ax_iushr x0 1) 1431655765))) 858993459) + (ax_iand (ax_iushr (ax_w32 (x0 - (ax_iand (ax_iushr x0 1) 1431655765))) 2) 858993459)))]) (h1 := hp L s c e) rfl ?_
  refine Ru.step (pc' := 27) (ls' := [some (.inl (ax_w32 ((ax_iand (ax_w32 (x0 - (ax_iand (ax_iushr x0 1) 1431655765))) 858993459) + (ax_iand (ax_iushr (ax_w32 (x0 - (ax_iand (ax_iushr x0 1) 1431655765))) 2) 858993459))))]) (st' := [.inl 4, .inl (ax_w32 ((ax_iand (ax_w32 (x0 - (ax_iand (ax_iushr x0 1) 1431655765))) 858993459) + (ax_iand (ax_iushr (ax_w32 (x0 - (ax_iand (ax_iushr x0 1) 1431655765))) 2) 858993459))), .inl (ax_w32 ((ax_iand (ax_w32 (x0 - (ax_iand (ax_iushr x0 1) 1431655765))) 858993459) + (ax_iand (ax_iushr (ax_w32 (x0 - (ax_iand (ax_iushr x0 1) 1431655765))) 2) 858993459)))]) (h1 := hp L s c e) rfl ?_
  refine Ru.step (pc' := 28) (ls' := [some (.inl (ax_w32 ((ax_iand (ax_w32 (x0 - (ax_iand (ax_iushr x0 1) 1431655765))) 858993459) + (ax_iand (ax_iushr (ax_w32 (x0 - (ax_iand (ax_iushr x0 1) 1431655765))) 2) 858993459))))]) (st' := [.inl (ax_iushr (ax_w32 ((ax_iand (ax_w32 (x0 - (ax_iand (ax_iushr x0 1) 1431655765))) 858993459) + (ax_iand (ax_iushr (ax_w32 (x0 - (ax_iand (ax_iushr x0 1) 1431655765))) 2) 858993459))) 4), .inl (ax_w32 ((ax_iand (ax_w32 (x0 - (ax_iand (ax_iushr x0 1) 1431655765))) 858993459) + (ax_iand (ax_iushr (ax_w32 (x0 - (ax_iand (ax_iushr x0 1) 1431655765))) 2) 858993459)))]) (h1 := hp L s c e) rfl ?_
  refine Ru.step (pc' := 29) (ls' := [some (.inl (ax_w32 ((ax_iand (ax_w32 (x0 - (ax_iand (ax_iushr x0 1) 1431655765))) 858993459) + (ax_iand (ax_iushr (ax_w32 (x0 - (ax_iand (ax_iushr x0 1) 1431655765))) 2) 858993459))))]) (st' := [.inl (ax_w32 ((ax_w32 ((ax_iand (ax_w32 (x0 - (ax_iand (ax_iushr x0 1) 1431655765))) 858993459) + (ax_iand (ax_iushr (ax_w32 (x0 - (ax_iand (ax_iushr x0 1) 1431655765))) 2) 858993459))) + (ax_iushr (ax_w32 ((ax_iand (ax_w32 (x0 - (ax_iand (ax_iushr x0 1) 1431655765))) 858993459) + (ax_iand (ax_iushr (ax_w32 (x0 - (ax_iand (ax_iushr x0 1) 1431655765))) 2) 858993459))) 4)))]) (h1 := hp L s c e) rfl ?_
  refine Ru.step (pc' := 32) (ls' := [some (.inl (ax_w32 ((ax_iand (ax_w32 (x0 - (ax_iand (ax_iushr x0 1) 1431655765))) 858993459) + (ax_iand (ax_iushr (ax_w32 (x0 - (ax_iand (ax_iushr x0 1) 1431655765))) 2) 858993459))))]) (st' := [.inl 252645135, .inl (ax_w32 ((ax_w32 ((ax_iand (ax_w32 (x0 - (ax_iand (ax_iushr x0 1) 1431655765))) 858993459) + (ax_iand (ax_iushr (ax_w32 (x0 - (ax_iand (ax_iushr x0 1) 1431655765))) 2) 858993459))) + (ax_iushr (ax_w32 ((ax_iand (ax_w32 (x0 - (ax_iand (ax_iushr x0 1) 1431655765))) 858993459) + (ax_iand (ax_iushr (ax_w32 (x0 - (ax_iand (ax_iushr x0 1) 1431655765))) 2) 858993459))) 4)))]) (h1 := hp L s c e) rfl ?_
  refine Ru.step (pc' := 33) (ls' := [some (.inl (ax_w32 ((ax_iand (ax_w32 (x0 - (ax_iand (ax_iushr x0 1) 1431655765))) 858993459) + (ax_iand (ax_iushr (ax_w32 (x0 - (ax_iand (ax_iushr x0 1) 1431655765))) 2) 858993459))))]) (st' := [.inl (ax_iand (ax_w32 ((ax_w32 ((ax_iand (ax_w32 (x0 - (ax_iand (ax_iushr x0 1) 1431655765))) 858993459) + (ax_iand (ax_iushr (ax_w32 (x0 - (ax_iand (ax_iushr x0 1) 1431655765))) 2) 858993459))) + (ax_iushr (ax_w32 ((ax_iand (ax_w32 (x0 - (ax_iand (ax_iushr x0 1) 1431655765))) 858993459) + (ax_iand (ax_iushr (ax_w32 (x0 - (ax_iand (ax_iushr x0 1) 1431655765))) 2) 858993459))) 4))) 252645135)]) (h1 := hp L s c e) rfl ?_
  refine Ru.step (pc' := 34) (ls' := [some (.inl (ax_iand (ax_w32 ((ax_w32 ((ax_iand (ax_w32 (x0 - (ax_iand (ax_iushr x0 1) 1431655765))) 858993459) + (ax_iand (ax_iushr (ax_w32 (x0 - (ax_iand (ax_iushr x0 1) 1431655765))) 2) 858993459))) + (ax_iushr (ax_w32 ((ax_iand (ax_w32 (x0 - (ax_iand (ax_iushr x0 1) 1431655765))) 858993459) + (ax_iand (ax_iushr (ax_w32 (x0 - (ax_iand (ax_iushr x0 1) 1431655765))) 2) 858993459))) 4))) 252645135))]) (st' := []) (h1 := hp L s c e) rfl ?_
  refine Ru.step (pc' := 35) (ls' := [some (.inl (ax_iand (ax_w32 ((ax_w32 ((ax_iand (ax_w32 (x0 - (ax_iand (ax_iushr x0 1) 1431655765))) 858993459) + (ax_iand (ax_iushr (ax_w32 (x0 - (ax_iand (ax_iushr x0 1) 1431655765))) 2) 858993459))) + (ax_iushr (ax_w32 ((ax_iand (ax_w32 (x0 - (ax_iand (ax_iushr x0 1) 1431655765))) 858993459) + (ax_iand (ax_iushr (ax_w32 (x0 - (ax_iand (ax_iushr x0 1) 1431655765))) 2) 858993459))) 4))) 252645135))]) (st' := [.inl (ax_iand (ax_w32 ((ax_w32 ((ax_iand (ax_w32 (x0 - (ax_iand (ax_iushr x0 1) 1431655765))) 858993459) + (ax_iand (ax_iushr (ax_w32 (x0 - (ax_iand (ax_iushr x0 1) 1431655765))) 2) 858993459))) + (ax_iushr (ax_w32 ((ax_iand (ax_w32 (x0 - (ax_iand (ax_iushr x0 1) 1431655765))) 858993459) + (ax_iand (ax_iushr (ax_w32 (x0 - (ax_iand (ax_iushr x0 1) 1431655765))) 2) 858993459))) 4))) 252645135)]) (h1 := hp L s c e) rfl ?_
  refine Ru.step (pc' := 36) (ls' := [some (.inl (ax_iand (ax_w32 ((ax_w32 ((ax_iand (ax_w32 (x0 - (ax_iand (ax_iushr x0 1) 1431655765))) 858993459) + (ax_iand (ax_iushr (ax_w32 (x0 - (ax_iand (ax_iushr x0 1) 1431655765))) 2) 858993459))) + (ax_iushr (ax_w32 ((ax_iand (ax_w32 (x0 - (ax_iand (ax_iushr x0 1) 1431655765))) 858993459) + (ax_iand (ax_iushr (ax_w32 (x0 - (ax_iand (ax_iushr x0 1) 1431655765))) 2) 858993459))) 4))) 252645135))]) (st' := [.inl (ax_iand (ax_w32 ((ax_w32 ((ax_iand (ax_w32 (x0 - (ax_iand (ax_iushr x0 1) 1431655765))) 858993459) + (ax_iand (ax_iushr (ax_w32 (x0 - (ax_iand (ax_iushr x0 1) 1431655765))) 2) 858993459))) + (ax_iushr (ax_w32 ((ax_iand (ax_w32 (x0 - (ax_iand (ax_iushr x0 1) 1431655765))) 858993459) + (ax_iand (ax_iushr (ax_w32 (x0 - (ax_iand (ax_iushr x0 1) 1431655765))) 2) 858993459))) 4))) 252645135), .inl (ax_iand (ax_w32 ((ax_w32 ((ax_iand (ax_w32 (x0 - (ax_iand (ax_iushr x0 1) 1431655765))) 858993459) + (ax_iand (ax_iushr (ax_w32 (x0 - (ax_iand (ax_iushr x0 1) 1431655765))) 2) 858993459))) + (ax_iushr (ax_w32 ((ax_iand (ax_w32 (x0 - (ax_iand (ax_iushr x0 1) 1431655765))) 858993459) + (ax_iand (ax_iushr (ax_w32 (x0 - (ax_iand (ax_iushr x0 1) 1431655765))) 2) 858993459))) 4))) 252645135)]) (h1 := hp L s c e) rfl ?_
  refine Ru.step (pc' := 38) (ls' := [some (.inl (ax_iand (ax_w32 ((ax_w32 ((ax_iand (ax_w32 (x0 - (ax_iand (ax_iushr x0 1) 1431655765))) 858993459) + (ax_iand (ax_iushr (ax_w32 (x0 - (ax_iand (ax_iushr x0 1) 1431655765))) 2) 858993459))) + (ax_iushr (ax_w32 ((ax_iand (ax_w32 (x0 - (ax_iand (ax_iushr x0 1) 1431655765))) 858993459) + (ax_iand (ax_iushr (ax_w32 (x0 - (ax_iand (ax_iushr x0 1) 1431655765))) 2) 858993459))) 4))) 252645135))]) (st' := [.inl 8, .inl (ax_iand (ax_w32 ((ax_w32 ((ax_iand (ax_w32 (x0 - (ax_iand (ax_iushr x0 1) 1431655765))) 858993459) + (ax_iand (ax_iushr (ax_w32 (x0 - (ax_iand (ax_iushr x0 1) 1431655765))) 2) 858993459))) + (ax_iushr (ax_w32 ((ax_iand (ax_w32 (x0 - (ax_iand (ax_iushr x0 1) 1431655765))) 858993459) + (ax_iand (ax_iushr (ax_w32 (x0 - (ax_iand (ax_iushr x0 1) 1431655765))) 2) 858993459))) 4))) 252645135), .inl (ax_iand (ax_w32 ((ax_w32 ((ax_iand (ax_w32 (x0 - (ax_iand (ax_iushr x0 1) 1431655765))) 858993459) + (ax_iand (ax_iushr (ax_w32 (x0 - (ax_iand (ax_iushr x0 1) 1431655765))) 2) 858993459))) + (ax_iushr (ax_w32 ((ax_iand (ax_w32 (x0 - (ax_iand (ax_iushr x0 1) 1431655765))) 858993459) + (ax_iand (ax_iushr (ax_w32 (x0 - (ax_iand (ax_iushr x0 1) 1431655765))) 2) 858993459))) 4))) 252645135)]) (h1 := hp L s c e) rfl ?_
  refine Ru.step (pc' := 39) (ls' := [some (.inl (ax_iand (ax_w32 ((ax_w32 ((ax_iand (ax_w32 (x0 - (ax_iand (ax_iushr x0 1) 1431655765))) 858993459) + (ax_iand (ax_iushr (ax_w32 (x0 - (ax_iand (ax_iushr x0 1) 1431655765))) 2) 858993459))) + (ax_iushr (ax_w32 ((ax_iand (ax_w32 (x0 - (ax_iand (ax_iushr x0 1) 1431655765))) 858993459) + (ax_iand (ax_iushr (ax_w32 (x0 - (ax_iand (ax_iushr x0 1) 1431655765))) 2) 858993459))) 4))) 252645135))]) (st' := [.inl (ax_iushr (ax_iand (ax_w32 ((ax_w32 ((ax_iand (ax_w32 (x0 - (ax_iand (ax_iushr x0 1) 1431655765))) 858993459) + (ax_iand (ax_iushr (ax_w32 (x0 - (ax_iand (ax_iushr x0 1) 1431655765))) 2) 858993459))) + (ax_iushr (ax_w32 ((ax_iand (ax_w32 (x0 - (ax_iand (ax_iushr x0 1) 1431655765))) 858993459) + (ax_iand (ax_iushr (ax_w32 (x0 - (ax_iand (ax_iushr x0 1) 1431655765))) 2) 858993459))) 4))) 252645135) 8), .inl (ax_iand (ax_w32 ((ax_w32 ((ax_iand (ax_w32 (x0 - (ax_iand (ax_iushr x0 1) 1431655765))) 858993459) + (ax_iand (ax_iushr (ax_w32 (x0 - (ax_iand (ax_iushr x0 1) 1431655765))) 2) 858993459))) + (ax_iushr (ax_w32 ((ax_iand (ax_w32 (x0 - (ax_iand (ax_iushr x0 1) 1431655765))) 858993459) + (ax_iand (ax_iushr (ax_w32 (x0 - (ax_iand (ax_iushr x0 1) 1431655765))) 2) 858993459))) 4))) 252645135)]) (h1 := hp L s c e) rfl ?_
  refine Ru.step (pc' := 40) (ls' := [some (.inl (ax_iand (ax_w32 ((ax_w32 ((ax_iand (ax_w32 (x0 - (ax_iand (ax_iushr x0 1) 1431655765))) 858993459) + (ax_iand (ax_iushr (ax_w32 (x0 - (ax_iand (ax_iushr x0 1) 1431655765))) 2) 858993459))) + (ax_iushr (ax_w32 ((ax_iand (ax_w32 (x0 - (ax_iand (ax_iushr x0 1) 1431655765))) 858993459) + (ax_iand (ax_iushr (ax_w32 (x0 - (ax_iand (ax_iushr x0 1) 1431655765))) 2) 858993459))) 4))) 252645135))]) (st' := [.inl (ax_w32 ((ax_iand (ax_w32 ((ax_w32 ((ax_iand (ax_w32 (x0 - (ax_iand (ax_iushr x0 1) 1431655765))) 858993459) + (ax_iand (ax_iushr (ax_w32 (x0 - (ax_iand (ax_iushr x0 1) 1431655765))) 2) 858993459))) + (ax_iushr (ax_w32 ((ax_iand (ax_w32 (x0 - (ax_iand (ax_iushr x0 1) 1431655765))) 858993459) + (ax_iand (ax_iushr (ax_w32 (x0 - (ax_iand (ax_iushr x0 1) 1431655765))) 2) 858993459))) 4))) 252645135) + (ax_iushr (ax_iand (ax_w32 ((ax_w32 ((ax_iand (ax_w32 (x0 - (ax_iand (ax_iushr x0 1) 1431655765))) 858993459) + (ax_iand (ax_iushr (ax_w32 (x0 - (ax_iand (ax_iushr x0 1) 1431655765))) 2) 858993459))) + (ax_iushr (ax_w32 ((ax_iand (ax_w32 (x0 - (ax_iand (ax_iushr x0 1) 1431655765))) 858993459) + (ax_iand (ax_iushr (ax_w32 (x0 - (ax_iand (ax_iushr x0 1) 1431655765))) 2) 858993459))) 4))) 252645135) 8)))]) (h1 := hp L s c e) rfl ?_
  refine Ru.step (pc' := 41) (ls' := [some (.inl (ax_w32 ((ax_iand (ax_w32 ((ax_w32 ((ax_iand (ax_w32 (x0 - (ax_iand (ax_iushr x0 1) 1431655765))) 858993459) + (ax_iand (ax_iushr (ax_w32 (x0 - (ax_iand (ax_iushr x0 1) 1431655765))) 2) 858993459))) + (ax_iushr (ax_w32 ((ax_iand (ax_w32 (x0 - (ax_iand (ax_iushr x0 1) 1431655765))) 858993459) + (ax_iand (ax_iushr (ax_w32 (x0 - (ax_iand (ax_iushr x0 1) 1431655765))) 2) 858993459))) 4))) 252645135) + (ax_iushr (ax_iand (ax_w32 ((ax_w32 ((ax_iand (ax_w32 (x0 - (ax_iand (ax_iushr x0 1) 1431655765))) 858993459) + (ax_iand (ax_iushr (ax_w32 (x0 - (ax_iand (ax_iushr x0 1) 1431655765))) 2) 858993459))) + (ax_iushr (ax_w32 ((ax_iand (ax_w32 (x0 - (ax_iand (ax_iushr x0 1) 1431655765))) 858993459) + (ax_iand (ax_iushr (ax_w32 (x0 - (ax_iand (ax_iushr x0 1) 1431655765))) 2) 858993459))) 4))) 252645135) 8))))]) (st' := []) (h1 := hp L s c e) rfl ?_
  refine Ru.step (pc' := 42) (ls' := [some (.inl (ax_w32 ((ax_iand (ax_w32 ((ax_w32 ((ax_iand (ax_w32 (x0 - (ax_iand (ax_iushr x0 1) 1431655765))) 858993459) + (ax_iand (ax_iushr (ax_w32 (x0 - (ax_iand (ax_iushr x0 1) 1431655765))) 2) 858993459))) + (ax_iushr (ax_w32 ((ax_iand (ax_w32 (x0 - (ax_iand (ax_iushr x0 1) 1431655765))) 858993459) + (ax_iand (ax_iushr (ax_w32 (x0 - (ax_iand (ax_iushr x0 1) 1431655765))) 2) 858993459))) 4))) 252645135) + (ax_iushr (ax_iand (ax_w32 ((ax_w32 ((ax_iand (ax_w32 (x0 - (ax_iand (ax_iushr x0 1) 1431655765))) 858993459) + (ax_iand (ax_iushr (ax_w32 (x0 - (ax_iand (ax_iushr x0 1) 1431655765))) 2) 858993459))) + (ax_iushr (ax_w32 ((ax_iand (ax_w32 (x0 - (ax_iand (ax_iushr x0 1) 1431655765))) 858993459) + (ax_iand (ax_iushr (ax_w32 (x0 - (ax_iand (ax_iushr x0 1) 1431655765))) 2) 858993459))) 4))) 252645135) 8))))]) (st' := [.inl (ax_w32 ((ax_iand (ax_w32 ((ax_w32 ((ax_iand (ax_w32 (x0 - (ax_iand (ax_iushr x0 1) 1431655765))) 858993459) + (ax_iand (ax_iushr (ax_w32 (x0 - (ax_iand (ax_iushr x0 1) 1431655765))) 2) 858993459))) + (ax_iushr (ax_w32 ((ax_iand (ax_w32 (x0 - (ax_iand (ax_iushr x0 1) 1431655765))) 858993459) + (ax_iand (ax_iushr (ax_w32 (x0 - (ax_iand (ax_iushr x0 1) 1431655765))) 2) 858993459))) 4))) 252645135) + (ax_iushr (ax_iand (ax_w32 ((ax_w32 ((ax_iand (ax_w32 (x0 - (ax_iand (ax_iushr x0 1) 1431655765))) 858993459) + (ax_iand (ax_iushr (ax_w32 (x0 - (ax_iand (ax_iushr x0 1) 1431655765))) 2) 858993459))) + (ax_iushr (ax_w32 ((ax_iand (ax_w32 (x0 - (ax_iand (ax_iushr x0 1) 1431655765))) 858993459) + (ax_iand (ax_iushr (ax_w32 (x0 - (ax_iand (ax_iushr x0 1) 1431655765))) 2) 858993459))) 4))) 252645135) 8)))]) (h1 := hp L s c e) rfl ?_
  refine Ru.step (pc' := 43) (ls' := [some (.inl (ax_w32 ((ax_iand (ax_w32 ((ax_w32 ((ax_iand (ax_w32 (x0 - (ax_iand (ax_iushr x0 1) 1431655765))) 858993459) + (ax_iand (ax_iushr (ax_w32 (x0 - (ax_iand (ax_iushr x0 1) 1431655765))) 2) 858993459))) + (ax_iushr (ax_w32 ((ax_iand (ax_w32 (x0 - (ax_iand (ax_iushr x0 1) 1431655765))) 858993459) + (ax_iand (ax_iushr (ax_w32 (x0 - (ax_iand (ax_iushr x0 1) 1431655765))) 2) 858993459))) 4))) 252645135) + (ax_iushr (ax_iand (ax_w32 ((ax_w32 ((ax_iand (ax_w32 (x0 - (ax_iand (ax_iushr x0 1) 1431655765))) 858993459) + (ax_iand (ax_iushr (ax_w32 (x0 - (ax_iand (ax_iushr x0 1) 1431655765))) 2) 858993459))) + (ax_iushr (ax_w32 ((ax_iand (ax_w32 (x0 - (ax_iand (ax_iushr x0 1) 1431655765))) 858993459) + (ax_iand (ax_iushr (ax_w32 (x0 - (ax_iand (ax_iushr x0 1) 1431655765))) 2) 858993459))) 4))) 252645135) 8))))]) (st' := [.inl (ax_w32 ((ax_iand (ax_w32 ((ax_w32 ((ax_iand (ax_w32 (x0 - (ax_iand (ax_iushr x0 1) 1431655765))) 858993459) + (ax_iand (ax_iushr (ax_w32 (x0 - (ax_iand (ax_iushr x0 1) 1431655765))) 2) 858993459))) + (ax_iushr (ax_w32 ((ax_iand (ax_w32 (x0 - (ax_iand (ax_iushr x0 1) 1431655765))) 858993459) + (ax_iand (ax_iushr (ax_w32 (x0 - (ax_iand (ax_iushr x0 1) 1431655765))) 2) 858993459))) 4))) 252645135) + (ax_iushr (ax_iand (ax_w32 ((ax_w32 ((ax_iand (ax_w32 (x0 - (ax_iand (ax_iushr x0 1) 1431655765))) 858993459) + (ax_iand (ax_iushr (ax_w32 (x0 - (ax_iand (ax_iushr x0 1) 1431655765))) 2) 858993459))) + (ax_iushr (ax_w32 ((ax_iand (ax_w32 (x0 - (ax_iand (ax_iushr x0 1) 1431655765))) 858993459) + (ax_iand (ax_iushr (ax_w32 (x0 - (ax_iand (ax_iushr x0 1) 1431655765))) 2) 858993459))) 4))) 252645135) 8))), .inl (ax_w32 ((ax_iand (ax_w32 ((ax_w32 ((ax_iand (ax_w32 (x0 - (ax_iand (ax_iushr x0 1) 1431655765))) 858993459) + (ax_iand (ax_iushr (ax_w32 (x0 - (ax_iand (ax_iushr x0 1) 1431655765))) 2) 858993459))) + (ax_iushr (ax_w32 ((ax_iand (ax_w32 (x0 - (ax_iand (ax_iushr x0 1) 1431655765))) 858993459) + (ax_iand (ax_iushr (ax_w32 (x0 - (ax_iand (ax_iushr x0 1) 1431655765))) 2) 858993459))) 4))) 252645135) + (ax_iushr (ax_iand (ax_w32 ((ax_w32 ((ax_iand (ax_w32 (x0 - (ax_iand (ax_iushr x0 1) 1431655765))) 858993459) + (ax_iand (ax_iushr (ax_w32 (x0 - (ax_iand (ax_iushr x0 1) 1431655765))) 2) 858993459))) + (ax_iushr (ax_w32 ((ax_iand (ax_w32 (x0 - (ax_iand (ax_iushr x0 1) 1431655765))) 858993459) + (ax_iand (ax_iushr (ax_w32 (x0 - (ax_iand (ax_iushr x0 1) 1431655765))) 2) 858993459))) 4))) 252645135) 8)))]) (h1 := hp L s c e) rfl ?_
  refine Ru.step (pc' := 45) (ls' := [some (.inl (ax_w32 ((ax_iand (ax_w32 ((ax_w32 ((ax_iand (ax_w32 (x0 - (ax_iand (ax_iushr x0 1) 1431655765))) 858993459) + (ax_iand (ax_iushr (ax_w32 (x0 - (ax_iand (ax_iushr x0 1) 1431655765))) 2) 858993459))) + (ax_iushr (ax_w32 ((ax_iand (ax_w32 (x0 - (ax_iand (ax_iushr x0 1) 1431655765))) 858993459) + (ax_iand (ax_iushr (ax_w32 (x0 - (ax_iand (ax_iushr x0 1) 1431655765))) 2) 858993459))) 4))) 252645135) + (ax_iushr (ax_iand (ax_w32 ((ax_w32 ((ax_iand (ax_w32 (x0 - (ax_iand (ax_iushr x0 1) 1431655765))) 858993459) + (ax_iand (ax_iushr (ax_w32 (x0 - (ax_iand (ax_iushr x0 1) 1431655765))) 2) 858993459))) + (ax_iushr (ax_w32 ((ax_iand (ax_w32 (x0 - (ax_iand (ax_iushr x0 1) 1431655765))) 858993459) + (ax_iand (ax_iushr (ax_w32 (x0 - (ax_iand (ax_iushr x0 1) 1431655765))) 2) 858993459))) 4))) 252645135) 8))))]) (st' := [.inl 16, .inl (ax_w32 ((ax_iand (ax_w32 ((ax_w32 ((ax_iand (ax_w32 (x0 - (ax_iand (ax_iushr x0 1) 1431655765))) 858993459) + (ax_iand (ax_iushr (ax_w32 (x0 - (ax_iand (ax_iushr x0 1) 1431655765))) 2) 858993459))) + (ax_iushr (ax_w32 ((ax_iand (ax_w32 (x0 - (ax_iand (ax_iushr x0 1) 1431655765))) 858993459) + (ax_iand (ax_iushr (ax_w32 (x0 - (ax_iand (ax_iushr x0 1) 1431655765))) 2) 858993459))) 4))) 252645135) + (ax_iushr (ax_iand (ax_w32 ((ax_w32 ((ax_iand (ax_w32 (x0 - (ax_iand (ax_iushr x0 1) 1431655765))) 858993459) + (ax_iand (ax_iushr (ax_w32 (x0 - (ax_iand (ax_iushr x0 1) 1431655765))) 2) 858993459))) + (ax_iushr (ax_w32 ((ax_iand (ax_w32 (x0 - (ax_iand (ax_iushr x0 1) 1431655765))) 858993459) + (ax_iand (ax_iushr (ax_w32 (x0 - (ax_iand (ax_iushr x0 1) 1431655765))) 2) 858993459))) 4))) 252645135) 8))), .inl (ax_w32 ((ax_iand (ax_w32 ((ax_w32 ((ax_iand (ax_w32 (x0 - (ax_iand (ax_iushr x0 1) 1431655765))) 858993459) + (ax_iand (ax_iushr (ax_w32 (x0 - (ax_iand (ax_iushr x0 1) 1431655765))) 2) 858993459))) + (ax_iushr (ax_w32 ((ax_iand (ax_w32 (x0 - (ax_iand (ax_iushr x0 1) 1431655765))) 858993459) + (ax_iand (ax_iushr (ax_w32 (x0 - (ax_iand (ax_iushr x0 1) 1431655765))) 2) 858993459))) 4))) 252645135) + (ax_iushr (ax_iand (ax_w32 ((ax_w32 ((ax_iand (ax_w32 (x0 - (ax_iand (ax_iushr x0 1) 1431655765))) 858993459) + (ax_iand (ax_iushr (ax_w32 (x0 - (ax_iand (ax_iushr x0 1) 1431655765))) 2) 858993459))) + (ax_iushr (ax_w32 ((ax_iand (ax_w32 (x0 - (ax_iand (ax_iushr x0 1) 1431655765))) 858993459) + (ax_iand (ax_iushr (ax_w32 (x0 - (ax_iand (ax_iushr x0 1) 1431655765))) 2) 858993459))) 4))) 252645135) 8)))]) (h1 := hp L s c e) rfl ?_
  refine Ru.step (pc' := 46) (ls' := [some (.inl (ax_w32 ((ax_iand (ax_w32 ((ax_w32 ((ax_iand (ax_w32 (x0 - (ax_iand (ax_iushr x0 1) 1431655765))) 858993459) + (ax_iand (ax_iushr (ax_w32 (x0 - (ax_iand (ax_iushr x0 1) 1431655765))) 2) 858993459))) + (ax_iushr (ax_w32 ((ax_iand (ax_w32 (x0 - (ax_iand (ax_iushr x0 1) 1431655765))) 858993459) + (ax_iand (ax_iushr (ax_w32 (x0 - (ax_iand (ax_iushr x0 1) 1431655765))) 2) 858993459))) 4))) 252645135) + (ax_iushr (ax_iand (ax_w32 ((ax_w32 ((ax_iand (ax_w32 (x0 - (ax_iand (ax_iushr x0 1) 1431655765))) 858993459) + (ax_iand (ax_iushr (ax_w32 (x0 - (ax_iand (ax_iushr x0 1) 1431655765))) 2) 858993459))) + (ax_iushr (ax_w32 ((ax_iand (ax_w32 (x0 - (ax_iand (ax_iushr x0 1) 1431655765))) 858993459) + (ax_iand (ax_iushr (ax_w32 (x0 - (ax_iand (ax_iushr x0 1) 1431655765))) 2) 858993459))) 4))) 252645135) 8))))]) (st' := [.inl (ax_iushr (ax_w32 ((ax_iand (ax_w32 ((ax_w32 ((ax_iand (ax_w32 (x0 - (ax_iand (ax_iushr x0 1) 1431655765))) 858993459) + (ax_iand (ax_iushr (ax_w32 (x0 - (ax_iand (ax_iushr x0 1) 1431655765))) 2) 858993459))) + (ax_iushr (ax_w32 ((ax_iand (ax_w32 (x0 - (ax_iand (ax_iushr x0 1) 1431655765))) 858993459) + (ax_iand (ax_iushr (ax_w32 (x0 - (ax_iand (ax_iushr x0 1) 1431655765))) 2) 858993459))) 4))) 252645135) + (ax_iushr (ax_iand (ax_w32 ((ax_w32 ((ax_iand (ax_w32 (x0 - (ax_iand (ax_iushr x0 1) 1431655765))) 858993459) + (ax_iand (ax_iushr (ax_w32 (x0 - (ax_iand (ax_iushr x0 1) 1431655765))) 2) 858993459))) + (ax_iushr (ax_w32 ((ax_iand (ax_w32 (x0 - (ax_iand (ax_iushr x0 1) 1431655765))) 858993459) + (ax_iand (ax_iushr (ax_w32 (x0 - (ax_iand (ax_iushr x0 1) 1431655765))) 2) 858993459))) 4))) 252645135) 8))) 16), .inl (ax_w32 ((ax_iand (ax_w32 ((ax_w32 ((ax_iand (ax_w32 (x0 - (ax_iand (ax_iushr x0 1) 1431655765))) 858993459) + (ax_iand (ax_iushr (ax_w32 (x0 - (ax_iand (ax_iushr x0 1) 1431655765))) 2) 858993459))) + (ax_iushr (ax_w32 ((ax_iand (ax_w32 (x0 - (ax_iand (ax_iushr x0 1) 1431655765))) 858993459) + (ax_iand (ax_iushr (ax_w32 (x0 - (ax_iand (ax_iushr x0 1) 1431655765))) 2) 858993459))) 4))) 252645135) + (ax_iushr (ax_iand (ax_w32 ((ax_w32 ((ax_iand (ax_w32 (x0 - (ax_iand (ax_iushr x0 1) 1431655765))) 858993459) + (ax_iand (ax_iushr (ax_w32 (x0 - (ax_iand (ax_iushr x0 1) 1431655765))) 2) 858993459))) + (ax_iushr (ax_w32 ((ax_iand (ax_w32 (x0 - (ax_iand (ax_iushr x0 1) 1431655765))) 858993459) + (ax_iand (ax_iushr (ax_w32 (x0 - (ax_iand (ax_iushr x0 1) 1431655765))) 2) 858993459))) 4))) 252645135) 8)))]) (h1 := hp L s c e) rfl ?_
  refine Ru.step (pc' := 47) (ls' := [some (.inl (ax_w32 ((ax_iand (ax_w32 ((ax_w32 ((ax_iand (ax_w32 (x0 - (ax_iand (ax_iushr x0 1) 1431655765))) 858993459) + (ax_iand (ax_iushr (ax_w32 (x0 - (ax_iand (ax_iushr x0 1) 1431655765))) 2) 858993459))) + (ax_iushr (ax_w32 ((ax_iand (ax_w32 (x0 - (ax_iand (ax_iushr x0 1) 1431655765))) 858993459) + (ax_iand (ax_iushr (ax_w32 (x0 - (ax_iand (ax_iushr x0 1) 1431655765))) 2) 858993459))) 4))) 252645135) + (ax_iushr (ax_iand (ax_w32 ((ax_w32 ((ax_iand (ax_w32 (x0 - (ax_iand (ax_iushr x0 1) 1431655765))) 858993459) + (ax_iand (ax_iushr (ax_w32 (x0 - (ax_iand (ax_iushr x0 1) 1431655765))) 2) 858993459))) + (ax_iushr (ax_w32 ((ax_iand (ax_w32 (x0 - (ax_iand (ax_iushr x0 1) 1431655765))) 858993459) + (ax_iand (ax_iushr (ax_w32 (x0 - (ax_iand (ax_iushr x0 1) 1431655765))) 2) 858993459))) 4))) 252645135) 8))))]) (st' := [.inl (ax_w32 ((ax_w32 ((ax_iand (ax_w32 ((ax_w32 ((ax_iand (ax_w32 (x0 - (ax_iand (ax_iushr x0 1) 1431655765))) 858993459) + (ax_iand (ax_iushr (ax_w32 (x0 - (ax_iand (ax_iushr x0 1) 1431655765))) 2) 858993459))) + (ax_iushr (ax_w32 ((ax_iand (ax_w32 (x0 - (ax_iand (ax_iushr x0 1) 1431655765))) 858993459) + (ax_iand (ax_iushr (ax_w32 (x0 - (ax_iand (ax_iushr x0 1) 1431655765))) 2) 858993459))) 4))) 252645135) + (ax_iushr (ax_iand (ax_w32 ((ax_w32 ((ax_iand (ax_w32 (x0 - (ax_iand (ax_iushr x0 1) 1431655765))) 858993459) + (ax_iand (ax_iushr (ax_w32 (x0 - (ax_iand (ax_iushr x0 1) 1431655765))) 2) 858993459))) + (ax_iushr (ax_w32 ((ax_iand (ax_w32 (x0 - (ax_iand (ax_iushr x0 1) 1431655765))) 858993459) + (ax_iand (ax_iushr (ax_w32 (x0 - (ax_iand (ax_iushr x0 1) 1431655765))) 2) 858993459))) 4))) 252645135) 8))) + (ax_iushr (ax_w32 ((ax_iand (ax_w32 ((ax_w32 ((ax_iand (ax_w32 (x0 - (ax_iand (ax_iushr x0 1) 1431655765))) 858993459) + (ax_iand (ax_iushr (ax_w32 (x0 - (ax_iand (ax_iushr x0 1) 1431655765))) 2) 858993459))) + (ax_iushr (ax_w32 ((ax_iand (ax_w32 (x0 - (ax_iand (ax_iushr x0 1) 1431655765))) 858993459) + (ax_iand (ax_iushr (ax_w32 (x0 - (ax_iand (ax_iushr x0 1) 1431655765))) 2) 858993459))) 4))) 252645135) + (ax_iushr (ax_iand (ax_w32 ((ax_w32 ((ax_iand (ax_w32 (x0 - (ax_iand (ax_iushr x0 1) 1431655765))) 858993459) + (ax_iand (ax_iushr (ax_w32 (x0 - (ax_iand (ax_iushr x0 1) 1431655765))) 2) 858993459))) + (ax_iushr (ax_w32 ((ax_iand (ax_w32 (x0 - (ax_iand (ax_iushr x0 1) 1431655765))) 858993459) + (ax_iand (ax_iushr (ax_w32 (x0 - (ax_iand (ax_iushr x0 1) 1431655765))) 2) 858993459))) 4))) 252645135) 8))) 16)))]) (h1 := hp L s c e) rfl ?_
  refine Ru.step (pc' := 48) (ls' := [some (.inl (ax_w32 ((ax_w32 ((ax_iand (ax_w32 ((ax_w32 ((ax_iand (ax_w32 (x0 - (ax_iand (ax_iushr x0 1) 1431655765))) 858993459) + (ax_iand (ax_iushr (ax_w32 (x0 - (ax_iand (ax_iushr x0 1) 1431655765))) 2) 858993459))) + (ax_iushr (ax_w32 ((ax_iand (ax_w32 (x0 - (ax_iand (ax_iushr x0 1) 1431655765))) 858993459) + (ax_iand (ax_iushr (ax_w32 (x0 - (ax_iand (ax_iushr x0 1) 1431655765))) 2) 858993459))) 4))) 252645135) + (ax_iushr (ax_iand (ax_w32 ((ax_w32 ((ax_iand (ax_w32 (x0 - (ax_iand (ax_iushr x0 1) 1431655765))) 858993459) + (ax_iand (ax_iushr (ax_w32 (x0 - (ax_iand (ax_iushr x0 1) 1431655765))) 2) 858993459))) + (ax_iushr (ax_w32 ((ax_iand (ax_w32 (x0 - (ax_iand (ax_iushr x0 1) 1431655765))) 858993459) + (ax_iand (ax_iushr (ax_w32 (x0 - (ax_iand (ax_iushr x0 1) 1431655765))) 2) 858993459))) 4))) 252645135) 8))) + (ax_iushr (ax_w32 ((ax_iand (ax_w32 ((ax_w32 ((ax_iand (ax_w32 (x0 - (ax_iand (ax_iushr x0 1) 1431655765))) 858993459) + (ax_iand (ax_iushr (ax_w32 (x0 - (ax_iand (ax_iushr x0 1) 1431655765))) 2) 858993459))) + (ax_iushr (ax_w32 ((ax_iand (ax_w32 (x0 - (ax_iand (ax_iushr x0 1) 1431655765))) 858993459) + (ax_iand (ax_iushr (ax_w32 (x0 - (ax_iand (ax_iushr x0 1) 1431655765))) 2) 858993459))) 4))) 252645135) + (ax_iushr (ax_iand (ax_w32 ((ax_w32 ((ax_iand (ax_w32 (x0 - (ax_iand (ax_iushr x0 1) 1431655765))) 858993459) + (ax_iand (ax_iushr (ax_w32 (x0 - (ax_iand (ax_iushr x0 1) 1431655765))) 2) 858993459))) + (ax_iushr (ax_w32 ((ax_iand (ax_w32 (x0 - (ax_iand (ax_iushr x0 1) 1431655765))) 858993459) + (ax_iand (ax_iushr (ax_w32 (x0 - (ax_iand (ax_iushr x0 1) 1431655765))) 2) 858993459))) 4))) 252645135) 8))) 16))))]) (st' := []) (h1 := hp L s c e) rfl ?_
  refine Ru.step (pc' := 49) (ls' := [some (.inl (ax_w32 ((ax_w32 ((ax_iand (ax_w32 ((ax_w32 ((ax_iand (ax_w32 (x0 - (ax_iand (ax_iushr x0 1) 1431655765))) 858993459) + (ax_iand (ax_iushr (ax_w32 (x0 - (ax_iand (ax_iushr x0 1) 1431655765))) 2) 858993459))) + (ax_iushr (ax_w32 ((ax_iand (ax_w32 (x0 - (ax_iand (ax_iushr x0 1) 1431655765))) 858993459) + (ax_iand (ax_iushr (ax_w32 (x0 - (ax_iand (ax_iushr x0 1) 1431655765))) 2) 858993459))) 4))) 252645135) + (ax_iushr (ax_iand (ax_w32 ((ax_w32 ((ax_iand (ax_w32 (x0 - (ax_iand (ax_iushr x0 1) 1431655765))) 858993459) + (ax_iand (ax_iushr (ax_w32 (x0 - (ax_iand (ax_iushr x0 1) 1431655765))) 2) 858993459))) + (ax_iushr (ax_w32 ((ax_iand (ax_w32 (x0 - (ax_iand (ax_iushr x0 1) 1431655765))) 858993459) + (ax_iand (ax_iushr (ax_w32 (x0 - (ax_iand (ax_iushr x0 1) 1431655765))) 2) 858993459))) 4))) 252645135) 8))) + (ax_iushr (ax_w32 ((ax_iand (ax_w32 ((ax_w32 ((ax_iand (ax_w32 (x0 - (ax_iand (ax_iushr x0 1) 1431655765))) 858993459) + (ax_iand (ax_iushr (ax_w32 (x0 - (ax_iand (ax_iushr x0 1) 1431655765))) 2) 858993459))) + (ax_iushr (ax_w32 ((ax_iand (ax_w32 (x0 - (ax_iand (ax_iushr x0 1) 1431655765))) 858993459) + (ax_iand (ax_iushr (ax_w32 (x0 - (ax_iand (ax_iushr x0 1) 1431655765))) 2) 858993459))) 4))) 252645135) + (ax_iushr (ax_iand (ax_w32 ((ax_w32 ((ax_iand (ax_w32 (x0 - (ax_iand (ax_iushr x0 1) 1431655765))) 858993459) + (ax_iand (ax_iushr (ax_w32 (x0 - (ax_iand (ax_iushr x0 1) 1431655765))) 2) 858993459))) + (ax_iushr (ax_w32 ((ax_iand (ax_w32 (x0 - (ax_iand (ax_iushr x0 1) 1431655765))) 858993459) + (ax_iand (ax_iushr (ax_w32 (x0 - (ax_iand (ax_iushr x0 1) 1431655765))) 2) 858993459))) 4))) 252645135) 8))) 16))))]) (st' := [.inl (ax_w32 ((ax_w32 ((ax_iand (ax_w32 ((ax_w32 ((ax_iand (ax_w32 (x0 - (ax_iand (ax_iushr x0 1) 1431655765))) 858993459) + (ax_iand (ax_iushr (ax_w32 (x0 - (ax_iand (ax_iushr x0 1) 1431655765))) 2) 858993459))) + (ax_iushr (ax_w32 ((ax_iand (ax_w32 (x0 - (ax_iand (ax_iushr x0 1) 1431655765))) 858993459) + (ax_iand (ax_iushr (ax_w32 (x0 - (ax_iand (ax_iushr x0 1) 1431655765))) 2) 858993459))) 4))) 252645135) + (ax_iushr (ax_iand (ax_w32 ((ax_w32 ((ax_iand (ax_w32 (x0 - (ax_iand (ax_iushr x0 1) 1431655765))) 858993459) + (ax_iand (ax_iushr (ax_w32 (x0 - (ax_iand (ax_iushr x0 1) 1431655765))) 2) 858993459))) + (ax_iushr (ax_w32 ((ax_iand (ax_w32 (x0 - (ax_iand (ax_iushr x0 1) 1431655765))) 858993459) + (ax_iand (ax_iushr (ax_w32 (x0 - (ax_iand (ax_iushr x0 1) 1431655765))) 2) 858993459))) 4))) 252645135) 8))) + (ax_iushr (ax_w32 ((ax_iand (ax_w32 ((ax_w32 ((ax_iand (ax_w32 (x0 - (ax_iand (ax_iushr x0 1) 1431655765))) 858993459) + (ax_iand (ax_iushr (ax_w32 (x0 - (ax_iand (ax_iushr x0 1) 1431655765))) 2) 858993459))) + (ax_iushr (ax_w32 ((ax_iand (ax_w32 (x0 - (ax_iand (ax_iushr x0 1) 1431655765))) 858993459) + (ax_iand (ax_iushr (ax_w32 (x0 - (ax_iand (ax_iushr x0 1) 1431655765))) 2) 858993459))) 4))) 252645135) + (ax_iushr (ax_iand (ax_w32 ((ax_w32 ((ax_iand (ax_w32 (x0 - (ax_iand (ax_iushr x0 1) 1431655765))) 858993459) + (ax_iand (ax_iushr (ax_w32 (x0 - (ax_iand (ax_iushr x0 1) 1431655765))) 2) 858993459))) + (ax_iushr (ax_w32 ((ax_iand (ax_w32 (x0 - (ax_iand (ax_iushr x0 1) 1431655765))) 858993459) + (ax_iand (ax_iushr (ax_w32 (x0 - (ax_iand (ax_iushr x0 1) 1431655765))) 2) 858993459))) 4))) 252645135) 8))) 16)))]) (h1 := hp L s c e) rfl ?_
  refine Ru.step (pc' := 51) (ls' := [some (.inl (ax_w32 ((ax_w32 ((ax_iand (ax_w32 ((ax_w32 ((ax_iand (ax_w32 (x0 - (ax_iand (ax_iushr x0 1) 1431655765))) 858993459) + (ax_iand (ax_iushr (ax_w32 (x0 - (ax_iand (ax_iushr x0 1) 1431655765))) 2) 858993459))) + (ax_iushr (ax_w32 ((ax_iand (ax_w32 (x0 - (ax_iand (ax_iushr x0 1) 1431655765))) 858993459) + (ax_iand (ax_iushr (ax_w32 (x0 - (ax_iand (ax_iushr x0 1) 1431655765))) 2) 858993459))) 4))) 252645135) + (ax_iushr (ax_iand (ax_w32 ((ax_w32 ((ax_iand (ax_w32 (x0 - (ax_iand (ax_iushr x0 1) 1431655765))) 858993459) + (ax_iand (ax_iushr (ax_w32 (x0 - (ax_iand (ax_iushr x0 1) 1431655765))) 2) 858993459))) + (ax_iushr (ax_w32 ((ax_iand (ax_w32 (x0 - (ax_iand (ax_iushr x0 1) 1431655765))) 858993459) + (ax_iand (ax_iushr (ax_w32 (x0 - (ax_iand (ax_iushr x0 1) 1431655765))) 2) 858993459))) 4))) 252645135) 8))) + (ax_iushr (ax_w32 ((ax_iand (ax_w32 ((ax_w32 ((ax_iand (ax_w32 (x0 - (ax_iand (ax_iushr x0 1) 1431655765))) 858993459) + (ax_iand (ax_iushr (ax_w32 (x0 - (ax_iand (ax_iushr x0 1) 1431655765))) 2) 858993459))) + (ax_iushr (ax_w32 ((ax_iand (ax_w32 (x0 - (ax_iand (ax_iushr x0 1) 1431655765))) 858993459) + (ax_iand (ax_iushr (ax_w32 (x0 - (ax_iand (ax_iushr x0 1) 1431655765))) 2) 858993459))) 4))) 252645135) + (ax_iushr (ax_iand (ax_w32 ((ax_w32 ((ax_iand (ax_w32 (x0 - (ax_iand (ax_iushr x0 1) 1431655765))) 858993459) + (ax_iand (ax_iushr (ax_w32 (x0 - (ax_iand (ax_iushr x0 1) 1431655765))) 2) 858993459))) + (ax_iushr (ax_w32 ((ax_iand (ax_w32 (x0 - (ax_iand (ax_iushr x0 1) 1431655765))) 858993459) + (ax_iand (ax_iushr (ax_w32 (x0 - (ax_iand (ax_iushr x0 1) 1431655765))) 2) 858993459))) 4))) 252645135) 8))) 16))))]) (st' := [.inl 63, .inl (ax_w32 ((ax_w32 ((ax_iand (ax_w32 ((ax_w32 ((ax_iand (ax_w32 (x0 - (ax_iand (ax_iushr x0 1) 1431655765))) 858993459) + (ax_iand (ax_iushr (ax_w32 (x0 - (ax_iand (ax_iushr x0 1) 1431655765))) 2) 858993459))) + (ax_iushr (ax_w32 ((ax_iand (ax_w32 (x0 - (ax_iand (ax_iushr x0 1) 1431655765))) 858993459) + (ax_iand (ax_iushr (ax_w32 (x0 - (ax_iand (ax_iushr x0 1) 1431655765))) 2) 858993459))) 4))) 252645135) + (ax_iushr (ax_iand (ax_w32 ((ax_w32 ((ax_iand (ax_w32 (x0 - (ax_iand (ax_iushr x0 1) 1431655765))) 858993459) + (ax_iand (ax_iushr (ax_w32 (x0 - (ax_iand (ax_iushr x0 1) 1431655765))) 2) 858993459))) + (ax_iushr (ax_w32 ((ax_iand (ax_w32 (x0 - (ax_iand (ax_iushr x0 1) 1431655765))) 858993459) + (ax_iand (ax_iushr (ax_w32 (x0 - (ax_iand (ax_iushr x0 1) 1431655765))) 2) 858993459))) 4))) 252645135) 8))) + (ax_iushr (ax_w32 ((ax_iand (ax_w32 ((ax_w32 ((ax_iand (ax_w32 (x0 - (ax_iand (ax_iushr x0 1) 1431655765))) 858993459) + (ax_iand (ax_iushr (ax_w32 (x0 - (ax_iand (ax_iushr x0 1) 1431655765))) 2) 858993459))) + (ax_iushr (ax_w32 ((ax_iand (ax_w32 (x0 - (ax_iand (ax_iushr x0 1) 1431655765))) 858993459) + (ax_iand (ax_iushr (ax_w32 (x0 - (ax_iand (ax_iushr x0 1) 1431655765))) 2) 858993459))) 4))) 252645135) + (ax_iushr (ax_iand (ax_w32 ((ax_w32 ((ax_iand (ax_w32 (x0 - (ax_iand (ax_iushr x0 1) 1431655765))) 858993459) + (ax_iand (ax_iushr (ax_w32 (x0 - (ax_iand (ax_iushr x0 1) 1431655765))) 2) 858993459))) + (ax_iushr (ax_w32 ((ax_iand (ax_w32 (x0 - (ax_iand (ax_iushr x0 1) 1431655765))) 858993459) + (ax_iand (ax_iushr (ax_w32 (x0 - (ax_iand (ax_iushr x0 1) 1431655765))) 2) 858993459))) 4))) 252645135) 8))) 16)))]) (h1 := hp L s c e) rfl ?_
  refine Ru.step (pc' := 52) (ls' := [some (.inl (ax_w32 ((ax_w32 ((ax_iand (ax_w32 ((ax_w32 ((ax_iand (ax_w32 (x0 - (ax_iand (ax_iushr x0 1) 1431655765))) 858993459) + (ax_iand (ax_iushr (ax_w32 (x0 - (ax_iand (ax_iushr x0 1) 1431655765))) 2) 858993459))) + (ax_iushr (ax_w32 ((ax_iand (ax_w32 (x0 - (ax_iand (ax_iushr x0 1) 1431655765))) 858993459) + (ax_iand (ax_iushr (ax_w32 (x0 - (ax_iand (ax_iushr x0 1) 1431655765))) 2) 858993459))) 4))) 252645135) + (ax_iushr (ax_iand (ax_w32 ((ax_w32 ((ax_iand (ax_w32 (x0 - (ax_iand (ax_iushr x0 1) 1431655765))) 858993459) + (ax_iand (ax_iushr (ax_w32 (x0 - (ax_iand (ax_iushr x0 1) 1431655765))) 2) 858993459))) + (ax_iushr (ax_w32 ((ax_iand (ax_w32 (x0 - (ax_iand (ax_iushr x0 1) 1431655765))) 858993459) + (ax_iand (ax_iushr (ax_w32 (x0 - (ax_iand (ax_iushr x0 1) 1431655765))) 2) 858993459))) 4))) 252645135) 8))) + (ax_iushr (ax_w32 ((ax_iand (ax_w32 ((ax_w32 ((ax_iand (ax_w32 (x0 - (ax_iand (ax_iushr x0 1) 1431655765))) 858993459) + (ax_iand (ax_iushr (ax_w32 (x0 - (ax_iand (ax_iushr x0 1) 1431655765))) 2) 858993459))) + (ax_iushr (ax_w32 ((ax_iand (ax_w32 (x0 - (ax_iand (ax_iushr x0 1) 1431655765))) 858993459) + (ax_iand (ax_iushr (ax_w32 (x0 - (ax_iand (ax_iushr x0 1) 1431655765))) 2) 858993459))) 4))) 252645135) + (ax_iushr (ax_iand (ax_w32 ((ax_w32 ((ax_iand (ax_w32 (x0 - (ax_iand (ax_iushr x0 1) 1431655765))) 858993459) + (ax_iand (ax_iushr (ax_w32 (x0 - (ax_iand (ax_iushr x0 1) 1431655765))) 2) 858993459))) + (ax_iushr (ax_w32 ((ax_iand (ax_w32 (x0 - (ax_iand (ax_iushr x0 1) 1431655765))) 858993459) + (ax_iand (ax_iushr (ax_w32 (x0 - (ax_iand (ax_iushr x0 1) 1431655765))) 2) 858993459))) 4))) 252645135) 8))) 16))))]) (st' := [.inl (ax_iand (ax_w32 ((ax_w32 ((ax_iand (ax_w32 ((ax_w32 ((ax_iand (ax_w32 (x0 - (ax_iand (ax_iushr x0 1) 1431655765))) 858993459) + (ax_iand (ax_iushr (ax_w32 (x0 - (ax_iand (ax_iushr x0 1) 1431655765))) 2) 858993459))) + (ax_iushr (ax_w32 ((ax_iand (ax_w32 (x0 - (ax_iand (ax_iushr x0 1) 1431655765))) 858993459) + (ax_iand (ax_iushr (ax_w32 (x0 - (ax_iand (ax_iushr x0 1) 1431655765))) 2) 858993459))) 4))) 252645135) + (ax_iushr (ax_iand (ax_w32 ((ax_w32 ((ax_iand (ax_w32 (x0 - (ax_iand (ax_iushr x0 1) 1431655765))) 858993459) + (ax_iand (ax_iushr (ax_w32 (x0 - (ax_iand (ax_iushr x0 1) 1431655765))) 2) 858993459))) + (ax_iushr (ax_w32 ((ax_iand (ax_w32 (x0 - (ax_iand (ax_iushr x0 1) 1431655765))) 858993459) + (ax_iand (ax_iushr (ax_w32 (x0 - (ax_iand (ax_iushr x0 1) 1431655765))) 2) 858993459))) 4))) 252645135) 8))) + (ax_iushr (ax_w32 ((ax_iand (ax_w32 ((ax_w32 ((ax_iand (ax_w32 (x0 - (ax_iand (ax_iushr x0 1) 1431655765))) 858993459) + (ax_iand (ax_iushr (ax_w32 (x0 - (ax_iand (ax_iushr x0 1) 1431655765))) 2) 858993459))) + (ax_iushr (ax_w32 ((ax_iand (ax_w32 (x0 - (ax_iand (ax_iushr x0 1) 1431655765))) 858993459) + (ax_iand (ax_iushr (ax_w32 (x0 - (ax_iand (ax_iushr x0 1) 1431655765))) 2) 858993459))) 4))) 252645135) + (ax_iushr (ax_iand (ax_w32 ((ax_w32 ((ax_iand (ax_w32 (x0 - (ax_iand (ax_iushr x0 1) 1431655765))) 858993459) + (ax_iand (ax_iushr (ax_w32 (x0 - (ax_iand (ax_iushr x0 1) 1431655765))) 2) 858993459))) + (ax_iushr (ax_w32 ((ax_iand (ax_w32 (x0 - (ax_iand (ax_iushr x0 1) 1431655765))) 858993459) + (ax_iand (ax_iushr (ax_w32 (x0 - (ax_iand (ax_iushr x0 1) 1431655765))) 2) 858993459))) 4))) 252645135) 8))) 16))) 63)]) (h1 := hp L s c e) rfl ?_
  exact Ru.done rfl
/-- MachineText$Checker.isWidthRight(I)Z -/
def f_25 (x0 : Int) (s : Nat → Nat → Int) : Int := (if f_117 (f_40 x0 s) s = 0 then 1 else (if ¬ (f_117 (f_40 x0 s) s) = f_41 x0 s then 0 else 1))
def g_25 (x0 : Int) (s : Nat → Nat → Int) : Prop := (g_40 x0 s ∧ (g_117 (f_40 x0 s) s ∧ ((f_117 (f_40 x0 s) s = 0 → True) ∧ (¬ (f_117 (f_40 x0 s) s = 0) → (g_41 x0 s ∧ True)))))
theorem ev_25 {L c : Nat} {s : Nat → Nat → Int} {e : Nat → Nat} (x0 : Int) (hg : g_25 x0 s) : Ev 3 25 [.inr (.inr (some 73)), .inl x0] (hp L s c e) (.inl (some (.inl (f_25 x0 s)))) (hp L s c e) := by
  unfold f_25
  unfold g_25 at hg
  refine Ev.of (μ := tb_m25) (ls := [some (.inr (.inr (some 73))), some (.inl x0), none]) rfl (Nat.le_of_ble_eq_true rfl) rfl ?_
  refine Ru.step (pc' := 1) (ls' := [some (.inr (.inr (some 73))), some (.inl x0), none]) (st' := [.inr (.inr (some 73))]) (h1 := hp L s c e) rfl ?_
  refine Ru.step (pc' := 4) (ls' := [some (.inr (.inr (some 73))), some (.inl x0), none]) (st' := [.inr (.inr (some 46))]) (h1 := hp L s c e) rfl ?_
  refine Ru.step (pc' := 5) (ls' := [some (.inr (.inr (some 73))), some (.inl x0), none]) (st' := [.inr (.inr (some 73)), .inr (.inr (some 46))]) (h1 := hp L s c e) rfl ?_
  refine Ru.step (pc' := 8) (ls' := [some (.inr (.inr (some 73))), some (.inl x0), none]) (st' := [.inr (.inr (some 61)), .inr (.inr (some 46))]) (h1 := hp L s c e) rfl ?_
  refine Ru.step (pc' := 9) (ls' := [some (.inr (.inr (some 73))), some (.inl x0), none]) (st' := [.inl x0, .inr (.inr (some 61)), .inr (.inr (some 46))]) (h1 := hp L s c e) rfl ?_
  obtain ⟨b1, hg⟩ := hg
  refine Ru.call rfl ((ev_40 x0 b1).up (by decide)) ?_
  obtain ⟨b1, hg⟩ := hg
  refine Ru.call rfl ((ev_117 (f_40 x0 s) b1).up (by decide)) ?_
  refine Ru.step (pc' := 16) (ls' := [some (.inr (.inr (some 73))), some (.inl x0), some (.inl (f_117 (f_40 x0 s) s))]) (st' := []) (h1 := hp L s c e) rfl ?_
  refine Ru.step (pc' := 17) (ls' := [some (.inr (.inr (some 73))), some (.inl x0), some (.inl (f_117 (f_40 x0 s) s))]) (st' := [.inl (f_117 (f_40 x0 s) s)]) (h1 := hp L s c e) rfl ?_
  by_cases h0 : f_117 (f_40 x0 s) s = 0
  · rw [if_pos h0]
    have hg := hg.1 h0
    refine Ru.jy rfl h0 ?_
    refine Ru.step (pc' := 33) (ls' := [some (.inr (.inr (some 73))), some (.inl x0), some (.inl (f_117 (f_40 x0 s) s))]) (st' := [.inl 1]) (h1 := hp L s c e) rfl ?_
    refine Ru.step (pc' := 37) (ls' := [some (.inr (.inr (some 73))), some (.inl x0), some (.inl (f_117 (f_40 x0 s) s))]) (st' := [.inl 1]) (h1 := hp L s c e) rfl ?_
    exact Ru.done rfl
  · rw [if_neg h0]
    have hg := hg.2 h0
    refine Ru.jn rfl h0 ?_
    refine Ru.step (pc' := 21) (ls' := [some (.inr (.inr (some 73))), some (.inl x0), some (.inl (f_117 (f_40 x0 s) s))]) (st' := [.inl (f_117 (f_40 x0 s) s)]) (h1 := hp L s c e) rfl ?_
    refine Ru.step (pc' := 22) (ls' := [some (.inr (.inr (some 73))), some (.inl x0), some (.inl (f_117 (f_40 x0 s) s))]) (st' := [.inr (.inr (some 73)), .inl (f_117 (f_40 x0 s) s)]) (h1 := hp L s c e) rfl ?_
    refine Ru.step (pc' := 25) (ls' := [some (.inr (.inr (some 73))), some (.inl x0), some (.inl (f_117 (f_40 x0 s) s))]) (st' := [.inr (.inr (some 61)), .inl (f_117 (f_40 x0 s) s)]) (h1 := hp L s c e) rfl ?_
    refine Ru.step (pc' := 26) (ls' := [some (.inr (.inr (some 73))), some (.inl x0), some (.inl (f_117 (f_40 x0 s) s))]) (st' := [.inl x0, .inr (.inr (some 61)), .inl (f_117 (f_40 x0 s) s)]) (h1 := hp L s c e) rfl ?_
    obtain ⟨b1, hg⟩ := hg
    refine Ru.call rfl ((ev_41 x0 b1).up (by decide)) ?_
    by_cases h1 : ¬ (f_117 (f_40 x0 s) s) = f_41 x0 s
    · rw [if_pos h1]
      refine Ru.jy rfl h1 ?_
      refine Ru.step (pc' := 37) (ls' := [some (.inr (.inr (some 73))), some (.inl x0), some (.inl (f_117 (f_40 x0 s) s))]) (st' := [.inl 0]) (h1 := hp L s c e) rfl ?_
      exact Ru.done rfl
    · rw [if_neg h1]
      refine Ru.jn rfl h1 ?_
      refine Ru.step (pc' := 33) (ls' := [some (.inr (.inr (some 73))), some (.inl x0), some (.inl (f_117 (f_40 x0 s) s))]) (st' := [.inl 1]) (h1 := hp L s c e) rfl ?_
      refine Ru.step (pc' := 37) (ls' := [some (.inr (.inr (some 73))), some (.inl x0), some (.inl (f_117 (f_40 x0 s) s))]) (st' := [.inl 1]) (h1 := hp L s c e) rfl ?_
      exact Ru.done rfl
/-- MachineText$Checker.ownerAt(I)I -/
def f_26 (x0 : Int) (s : Nat → Nat → Int) : Int := f_109 (f_97 x0 s) s
def g_26 (x0 : Int) (s : Nat → Nat → Int) : Prop := (g_97 x0 s ∧ (g_109 (f_97 x0 s) s ∧ True))
theorem ev_26 {L c : Nat} {s : Nat → Nat → Int} {e : Nat → Nat} (x0 : Int) (hg : g_26 x0 s) : Ev 2 26 [.inr (.inr (some 73)), .inl x0] (hp L s c e) (.inl (some (.inl (f_26 x0 s)))) (hp L s c e) := by
  unfold f_26
  unfold g_26 at hg
  refine Ev.of (μ := tb_m26) (ls := [some (.inr (.inr (some 73))), some (.inl x0)]) rfl (Nat.le_of_ble_eq_true rfl) rfl ?_
  refine Ru.step (pc' := 1) (ls' := [some (.inr (.inr (some 73))), some (.inl x0)]) (st' := [.inr (.inr (some 73))]) (h1 := hp L s c e) rfl ?_
  refine Ru.step (pc' := 4) (ls' := [some (.inr (.inr (some 73))), some (.inl x0)]) (st' := [.inr (.inr (some 31))]) (h1 := hp L s c e) rfl ?_
  refine Ru.step (pc' := 5) (ls' := [some (.inr (.inr (some 73))), some (.inl x0)]) (st' := [.inr (.inr (some 73)), .inr (.inr (some 31))]) (h1 := hp L s c e) rfl ?_
  refine Ru.step (pc' := 8) (ls' := [some (.inr (.inr (some 73))), some (.inl x0)]) (st' := [.inr (.inr (some 39)), .inr (.inr (some 31))]) (h1 := hp L s c e) rfl ?_
  refine Ru.step (pc' := 9) (ls' := [some (.inr (.inr (some 73))), some (.inl x0)]) (st' := [.inl x0, .inr (.inr (some 39)), .inr (.inr (some 31))]) (h1 := hp L s c e) rfl ?_
  obtain ⟨b1, hg⟩ := hg
  refine Ru.call rfl ((ev_97 x0 b1).up (by decide)) ?_
  obtain ⟨b1, hg⟩ := hg
  refine Ru.call rfl ((ev_109 (f_97 x0 s) b1).up (by decide)) ?_
  exact Ru.done rfl
/-- MachineText$Claims.isTarget(I)Z -/
def f_34 (x0 : Int) (s : Nat → Nat → Int) : Int := (if f_39 x0 s = 0 then 0 else (if ¬ (s 65 x0.toNat) = 0 then 0 else 1))
def g_34 (x0 : Int) (s : Nat → Nat → Int) : Prop := ((f_39 x0 s = 0 → True) ∧ (¬ (f_39 x0 s = 0) → ((0 ≤ x0 ∧ x0 < 2049) ∧ True)))
theorem ev_34 {L c : Nat} {s : Nat → Nat → Int} {e : Nat → Nat} (x0 : Int) (hg : g_34 x0 s) : Ev 2 34 [.inr (.inr (some 61)), .inl x0] (hp L s c e) (.inl (some (.inl (f_34 x0 s)))) (hp L s c e) := by
  unfold f_34
  unfold g_34 at hg
  refine Ev.of (μ := tb_m34) (ls := [some (.inr (.inr (some 61))), some (.inl x0)]) rfl (Nat.le_of_ble_eq_true rfl) rfl ?_
  refine Ru.step (pc' := 1) (ls' := [some (.inr (.inr (some 61))), some (.inl x0)]) (st' := [.inr (.inr (some 61))]) (h1 := hp L s c e) rfl ?_
  refine Ru.step (pc' := 2) (ls' := [some (.inr (.inr (some 61))), some (.inl x0)]) (st' := [.inl x0, .inr (.inr (some 61))]) (h1 := hp L s c e) rfl ?_
  refine Ru.call rfl ((ev_39 x0).up (by decide)) ?_
  by_cases h0 : f_39 x0 s = 0
  · rw [if_pos h0]
    have hg := hg.1 h0
    refine Ru.jy rfl h0 ?_
    refine Ru.step (pc' := 22) (ls' := [some (.inr (.inr (some 61))), some (.inl x0)]) (st' := [.inl 0]) (h1 := hp L s c e) rfl ?_
    exact Ru.done rfl
  · rw [if_neg h0]
    have hg := hg.2 h0
    refine Ru.jn rfl h0 ?_
    refine Ru.step (pc' := 9) (ls' := [some (.inr (.inr (some 61))), some (.inl x0)]) (st' := [.inr (.inr (some 61))]) (h1 := hp L s c e) rfl ?_
    refine Ru.step (pc' := 12) (ls' := [some (.inr (.inr (some 61))), some (.inl x0)]) (st' := [.inr (.inr (some 65))]) (h1 := hp L s c e) rfl ?_
    refine Ru.step (pc' := 13) (ls' := [some (.inr (.inr (some 61))), some (.inl x0)]) (st' := [.inl x0, .inr (.inr (some 65))]) (h1 := hp L s c e) rfl ?_
    obtain ⟨⟨b1, b2⟩, hg⟩ := hg
    refine Ru.ald (f := fun t => t == 0) (j := x0) (a := 65) rfl rfl b1 b2 ?_
    by_cases h1 : ¬ (s 65 x0.toNat) = 0
    · rw [if_pos h1]
      refine Ru.jy rfl h1 ?_
      refine Ru.step (pc' := 22) (ls' := [some (.inr (.inr (some 61))), some (.inl x0)]) (st' := [.inl 0]) (h1 := hp L s c e) rfl ?_
      exact Ru.done rfl
    · rw [if_neg h1]
      refine Ru.jn rfl h1 ?_
      refine Ru.step (pc' := 18) (ls' := [some (.inr (.inr (some 61))), some (.inl x0)]) (st' := [.inl 1]) (h1 := hp L s c e) rfl ?_
      refine Ru.step (pc' := 22) (ls' := [some (.inr (.inr (some 61))), some (.inl x0)]) (st' := [.inl 1]) (h1 := hp L s c e) rfl ?_
      exact Ru.done rfl
/-- MachineText$Claims.lexemeOf(I)I -/
def f_35 (x0 : Int) (s : Nat → Nat → Int) : Int := (if f_39 x0 s = 0 then (-1) else s 62 x0.toNat)
def g_35 (x0 : Int) (s : Nat → Nat → Int) : Prop := ((f_39 x0 s = 0 → True) ∧ (¬ (f_39 x0 s = 0) → ((0 ≤ x0 ∧ x0 < 2049) ∧ True)))
theorem ev_35 {L c : Nat} {s : Nat → Nat → Int} {e : Nat → Nat} (x0 : Int) (hg : g_35 x0 s) : Ev 2 35 [.inr (.inr (some 61)), .inl x0] (hp L s c e) (.inl (some (.inl (f_35 x0 s)))) (hp L s c e) := by
  unfold f_35
  unfold g_35 at hg
  refine Ev.of (μ := tb_m35) (ls := [some (.inr (.inr (some 61))), some (.inl x0)]) rfl (Nat.le_of_ble_eq_true rfl) rfl ?_
  refine Ru.step (pc' := 1) (ls' := [some (.inr (.inr (some 61))), some (.inl x0)]) (st' := [.inr (.inr (some 61))]) (h1 := hp L s c e) rfl ?_
  refine Ru.step (pc' := 2) (ls' := [some (.inr (.inr (some 61))), some (.inl x0)]) (st' := [.inl x0, .inr (.inr (some 61))]) (h1 := hp L s c e) rfl ?_
  refine Ru.call rfl ((ev_39 x0).up (by decide)) ?_
  by_cases h0 : f_39 x0 s = 0
  · rw [if_pos h0]
    have hg := hg.1 h0
    refine Ru.jy rfl h0 ?_
    refine Ru.step (pc' := 18) (ls' := [some (.inr (.inr (some 61))), some (.inl x0)]) (st' := [.inl (-1)]) (h1 := hp L s c e) rfl ?_
    exact Ru.done rfl
  · rw [if_neg h0]
    have hg := hg.2 h0
    refine Ru.jn rfl h0 ?_
    refine Ru.step (pc' := 9) (ls' := [some (.inr (.inr (some 61))), some (.inl x0)]) (st' := [.inr (.inr (some 61))]) (h1 := hp L s c e) rfl ?_
    refine Ru.step (pc' := 12) (ls' := [some (.inr (.inr (some 61))), some (.inl x0)]) (st' := [.inr (.inr (some 62))]) (h1 := hp L s c e) rfl ?_
    refine Ru.step (pc' := 13) (ls' := [some (.inr (.inr (some 61))), some (.inl x0)]) (st' := [.inl x0, .inr (.inr (some 62))]) (h1 := hp L s c e) rfl ?_
    obtain ⟨⟨b1, b2⟩, hg⟩ := hg
    refine Ru.ald (f := fun t => t == 0) (j := x0) (a := 62) rfl rfl b1 b2 ?_
    refine Ru.step (pc' := 18) (ls' := [some (.inr (.inr (some 61))), some (.inl x0)]) (st' := [.inl (s 62 x0.toNat)]) (h1 := hp L s c e) rfl ?_
    exact Ru.done rfl
/-- MachineText$Claims.indexOf(I)I -/
def f_36 (x0 : Int) (s : Nat → Nat → Int) : Int := (if f_39 x0 s = 0 then (-1) else s 63 x0.toNat)
def g_36 (x0 : Int) (s : Nat → Nat → Int) : Prop := ((f_39 x0 s = 0 → True) ∧ (¬ (f_39 x0 s = 0) → ((0 ≤ x0 ∧ x0 < 2049) ∧ True)))
theorem ev_36 {L c : Nat} {s : Nat → Nat → Int} {e : Nat → Nat} (x0 : Int) (hg : g_36 x0 s) : Ev 2 36 [.inr (.inr (some 61)), .inl x0] (hp L s c e) (.inl (some (.inl (f_36 x0 s)))) (hp L s c e) := by
  unfold f_36
  unfold g_36 at hg
  refine Ev.of (μ := tb_m36) (ls := [some (.inr (.inr (some 61))), some (.inl x0)]) rfl (Nat.le_of_ble_eq_true rfl) rfl ?_
  refine Ru.step (pc' := 1) (ls' := [some (.inr (.inr (some 61))), some (.inl x0)]) (st' := [.inr (.inr (some 61))]) (h1 := hp L s c e) rfl ?_
  refine Ru.step (pc' := 2) (ls' := [some (.inr (.inr (some 61))), some (.inl x0)]) (st' := [.inl x0, .inr (.inr (some 61))]) (h1 := hp L s c e) rfl ?_
  refine Ru.call rfl ((ev_39 x0).up (by decide)) ?_
  by_cases h0 : f_39 x0 s = 0
  · rw [if_pos h0]
    have hg := hg.1 h0
    refine Ru.jy rfl h0 ?_
    refine Ru.step (pc' := 18) (ls' := [some (.inr (.inr (some 61))), some (.inl x0)]) (st' := [.inl (-1)]) (h1 := hp L s c e) rfl ?_
    exact Ru.done rfl
  · rw [if_neg h0]
    have hg := hg.2 h0
    refine Ru.jn rfl h0 ?_
    refine Ru.step (pc' := 9) (ls' := [some (.inr (.inr (some 61))), some (.inl x0)]) (st' := [.inr (.inr (some 61))]) (h1 := hp L s c e) rfl ?_
    refine Ru.step (pc' := 12) (ls' := [some (.inr (.inr (some 61))), some (.inl x0)]) (st' := [.inr (.inr (some 63))]) (h1 := hp L s c e) rfl ?_
    refine Ru.step (pc' := 13) (ls' := [some (.inr (.inr (some 61))), some (.inl x0)]) (st' := [.inl x0, .inr (.inr (some 63))]) (h1 := hp L s c e) rfl ?_
    obtain ⟨⟨b1, b2⟩, hg⟩ := hg
    refine Ru.ald (f := fun t => t == 0) (j := x0) (a := 63) rfl rfl b1 b2 ?_
    refine Ru.step (pc' := 18) (ls' := [some (.inr (.inr (some 61))), some (.inl x0)]) (st' := [.inl (s 63 x0.toNat)]) (h1 := hp L s c e) rfl ?_
    exact Ru.done rfl
/-- MachineText$Names.bind(II)V -/
def f_108 (x0 x1 : Int) (s : Nat → Nat → Int) : Nat → Nat → Int := (if x0 < 0 then s else (if s 31 7 ≤ x0 then s else (if 4112 ≤ s 31 8 then s else (ax_u2 (ax_u2 (ax_u2 s 37 x0.toNat (f_292 1 x1 s)) 38 ((s 31 8).toNat) x0) 31 8 (ax_w32 ((s 31 8) + 1))))))
def g_108 (x0 x1 : Int) (s : Nat → Nat → Int) : Prop := ((x0 < 0 → True) ∧ (¬ (x0 < 0) → ((s 31 7 ≤ x0 → True) ∧ (¬ (s 31 7 ≤ x0) → ((4112 ≤ s 31 8 → True) ∧ (¬ (4112 ≤ s 31 8) → ((0 ≤ x0 ∧ x0 < 4112) ∧ ((0 ≤ s 31 8 ∧ s 31 8 < 4112) ∧ True))))))))
theorem ev_108 {L c : Nat} {s : Nat → Nat → Int} {e : Nat → Nat} (x0 x1 : Int) (hg : g_108 x0 x1 s) : Ev 2 108 [.inr (.inr (some 31)), .inl x0, .inl x1] (hp L s c e) (.inl none) (hp L (f_108 x0 x1 s) c e) := by
  unfold f_108
  unfold g_108 at hg
  refine Ev.of (μ := tb_m108) (ls := [some (.inr (.inr (some 31))), some (.inl x0), some (.inl x1)]) rfl (Nat.le_of_ble_eq_true rfl) rfl ?_
  refine Ru.step (pc' := 1) (ls' := [some (.inr (.inr (some 31))), some (.inl x0), some (.inl x1)]) (st' := [.inl x0]) (h1 := hp L s c e) rfl ?_
  by_cases h0 : x0 < 0
  · rw [if_pos h0]
    have hg := hg.1 h0
    refine Ru.jy rfl h0 ?_
    exact Ru.done rfl
  · rw [if_neg h0]
    have hg := hg.2 h0
    refine Ru.jn rfl h0 ?_
    refine Ru.step (pc' := 5) (ls' := [some (.inr (.inr (some 31))), some (.inl x0), some (.inl x1)]) (st' := [.inl x0]) (h1 := hp L s c e) rfl ?_
    refine Ru.step (pc' := 6) (ls' := [some (.inr (.inr (some 31))), some (.inl x0), some (.inl x1)]) (st' := [.inr (.inr (some 31)), .inl x0]) (h1 := hp L s c e) rfl ?_
    refine Ru.step (pc' := 9) (ls' := [some (.inr (.inr (some 31))), some (.inl x0), some (.inl x1)]) (st' := [.inl (s 31 7), .inl x0]) (h1 := hp L s c e) rfl ?_
    by_cases h1 : s 31 7 ≤ x0
    · rw [if_pos h1]
      have hg := hg.1 h1
      refine Ru.jy rfl h1 ?_
      exact Ru.done rfl
    · rw [if_neg h1]
      have hg := hg.2 h1
      refine Ru.jn rfl h1 ?_
      refine Ru.step (pc' := 13) (ls' := [some (.inr (.inr (some 31))), some (.inl x0), some (.inl x1)]) (st' := [.inr (.inr (some 31))]) (h1 := hp L s c e) rfl ?_
      refine Ru.step (pc' := 16) (ls' := [some (.inr (.inr (some 31))), some (.inl x0), some (.inl x1)]) (st' := [.inl (s 31 8)]) (h1 := hp L s c e) rfl ?_
      refine Ru.step (pc' := 19) (ls' := [some (.inr (.inr (some 31))), some (.inl x0), some (.inl x1)]) (st' := [.inl 4112, .inl (s 31 8)]) (h1 := hp L s c e) rfl ?_
      by_cases h2 : 4112 ≤ s 31 8
      · rw [if_pos h2]
        have hg := hg.1 h2
        refine Ru.jy rfl h2 ?_
        exact Ru.done rfl
      · rw [if_neg h2]
        have hg := hg.2 h2
        refine Ru.jn rfl h2 ?_
        refine Ru.step (pc' := 23) (ls' := [some (.inr (.inr (some 31))), some (.inl x0), some (.inl x1)]) (st' := [.inr (.inr (some 31))]) (h1 := hp L s c e) rfl ?_
        refine Ru.step (pc' := 26) (ls' := [some (.inr (.inr (some 31))), some (.inl x0), some (.inl x1)]) (st' := [.inr (.inr (some 37))]) (h1 := hp L s c e) rfl ?_
        refine Ru.step (pc' := 27) (ls' := [some (.inr (.inr (some 31))), some (.inl x0), some (.inl x1)]) (st' := [.inl x0, .inr (.inr (some 37))]) (h1 := hp L s c e) rfl ?_
        refine Ru.step (pc' := 28) (ls' := [some (.inr (.inr (some 31))), some (.inl x0), some (.inl x1)]) (st' := [.inl 1, .inl x0, .inr (.inr (some 37))]) (h1 := hp L s c e) rfl ?_
        refine Ru.step (pc' := 29) (ls' := [some (.inr (.inr (some 31))), some (.inl x0), some (.inl x1)]) (st' := [.inl x1, .inl 1, .inl x0, .inr (.inr (some 37))]) (h1 := hp L s c e) rfl ?_
        refine Ru.call rfl ((ev_292 1 x1).up (by decide)) ?_
        obtain ⟨⟨b1, b2⟩, hg⟩ := hg
        refine Ru.ast (f := fun t => t == 0) (j := x0) (a := 37) rfl rfl (by decide) rfl rfl b1 b2 ?_
        refine Ru.step (pc' := 34) (ls' := [some (.inr (.inr (some 31))), some (.inl x0), some (.inl x1)]) (st' := [.inr (.inr (some 31))]) (h1 := hp L (ax_u2 s 37 x0.toNat (f_292 1 x1 s)) c e) rfl ?_
        refine Ru.step (pc' := 37) (ls' := [some (.inr (.inr (some 31))), some (.inl x0), some (.inl x1)]) (st' := [.inr (.inr (some 38))]) (h1 := hp L (ax_u2 s 37 x0.toNat (f_292 1 x1 s)) c e) rfl ?_
        refine Ru.step (pc' := 38) (ls' := [some (.inr (.inr (some 31))), some (.inl x0), some (.inl x1)]) (st' := [.inr (.inr (some 31)), .inr (.inr (some 38))]) (h1 := hp L (ax_u2 s 37 x0.toNat (f_292 1 x1 s)) c e) rfl ?_
        refine Ru.step (pc' := 41) (ls' := [some (.inr (.inr (some 31))), some (.inl x0), some (.inl x1)]) (st' := [.inl (s 31 8), .inr (.inr (some 38))]) (h1 := hp L (ax_u2 s 37 x0.toNat (f_292 1 x1 s)) c e) rfl ?_
        refine Ru.step (pc' := 42) (ls' := [some (.inr (.inr (some 31))), some (.inl x0), some (.inl x1)]) (st' := [.inl x0, .inl (s 31 8), .inr (.inr (some 38))]) (h1 := hp L (ax_u2 s 37 x0.toNat (f_292 1 x1 s)) c e) rfl ?_
        obtain ⟨⟨b1, b2⟩, hg⟩ := hg
        refine Ru.ast (f := fun t => t == 0) (j := s 31 8) (a := 38) rfl rfl (by decide) rfl rfl b1 b2 ?_
        refine Ru.step (pc' := 44) (ls' := [some (.inr (.inr (some 31))), some (.inl x0), some (.inl x1)]) (st' := [.inr (.inr (some 31))]) (h1 := hp L (ax_u2 (ax_u2 s 37 x0.toNat (f_292 1 x1 s)) 38 ((s 31 8).toNat) x0) c e) rfl ?_
        refine Ru.step (pc' := 45) (ls' := [some (.inr (.inr (some 31))), some (.inl x0), some (.inl x1)]) (st' := [.inr (.inr (some 31)), .inr (.inr (some 31))]) (h1 := hp L (ax_u2 (ax_u2 s 37 x0.toNat (f_292 1 x1 s)) 38 ((s 31 8).toNat) x0) c e) rfl ?_
        refine Ru.step (pc' := 48) (ls' := [some (.inr (.inr (some 31))), some (.inl x0), some (.inl x1)]) (st' := [.inl (s 31 8), .inr (.inr (some 31))]) (h1 := hp L (ax_u2 (ax_u2 s 37 x0.toNat (f_292 1 x1 s)) 38 ((s 31 8).toNat) x0) c e) rfl ?_
        refine Ru.step (pc' := 49) (ls' := [some (.inr (.inr (some 31))), some (.inl x0), some (.inl x1)]) (st' := [.inl 1, .inl (s 31 8), .inr (.inr (some 31))]) (h1 := hp L (ax_u2 (ax_u2 s 37 x0.toNat (f_292 1 x1 s)) 38 ((s 31 8).toNat) x0) c e) rfl ?_
        refine Ru.step (pc' := 50) (ls' := [some (.inr (.inr (some 31))), some (.inl x0), some (.inl x1)]) (st' := [.inl (ax_w32 ((s 31 8) + 1)), .inr (.inr (some 31))]) (h1 := hp L (ax_u2 (ax_u2 s 37 x0.toNat (f_292 1 x1 s)) 38 ((s 31 8).toNat) x0) c e) rfl ?_
        refine Ru.step (pc' := 53) (ls' := [some (.inr (.inr (some 31))), some (.inl x0), some (.inl x1)]) (st' := []) (h1 := hp L (ax_u2 (ax_u2 (ax_u2 s 37 x0.toNat (f_292 1 x1 s)) 38 ((s 31 8).toNat) x0) 31 8 (ax_w32 ((s 31 8) + 1))) c e) rfl ?_
        exact Ru.done rfl
/-- MachineText$Rings.addCall(II)V -/
def f_172 (x0 x1 : Int) (s : Nat → Nat → Int) : Nat → Nat → Int := (if f_173 x0 s = 0 then s else (if f_173 x1 s = 0 then s else (if s 74 7 < 2731 then (ax_u2 (ax_u2 (ax_u2 (ax_u2 (ax_u2 s 76 ((s 74 7).toNat) x0) 77 ((s 74 7).toNat) (s 75 x1.toNat)) 75 x1.toNat (s 74 7)) 74 7 (ax_w32 ((s 74 7) + 1))) 78 x0.toNat (ax_w32 ((s 78 x0.toNat) + 1))) else s)))
def g_172 (x0 x1 : Int) (s : Nat → Nat → Int) : Prop := ((f_173 x0 s = 0 → True) ∧ (¬ (f_173 x0 s = 0) → ((f_173 x1 s = 0 → True) ∧ (¬ (f_173 x1 s = 0) → ((s 74 7 < 2731 → ((0 ≤ s 74 7 ∧ s 74 7 < 2731) ∧ ((0 ≤ x1 ∧ x1 < 1171) ∧ ((0 ≤ s 74 7 ∧ s 74 7 < 2731) ∧ ((0 ≤ x1 ∧ x1 < 1171) ∧ ((0 ≤ x0 ∧ x0 < 1171) ∧ ((0 ≤ x0 ∧ x0 < 1171) ∧ True))))))) ∧ (¬ (s 74 7 < 2731) → True))))))
theorem ev_172 {L c : Nat} {s : Nat → Nat → Int} {e : Nat → Nat} (x0 x1 : Int) (hg : g_172 x0 x1 s) : Ev 2 172 [.inr (.inr (some 74)), .inl x0, .inl x1] (hp L s c e) (.inl none) (hp L (f_172 x0 x1 s) c e) := by
  unfold f_172
  unfold g_172 at hg
  refine Ev.of (μ := tb_m172) (ls := [some (.inr (.inr (some 74))), some (.inl x0), some (.inl x1)]) rfl (Nat.le_of_ble_eq_true rfl) rfl ?_
  refine Ru.step (pc' := 1) (ls' := [some (.inr (.inr (some 74))), some (.inl x0), some (.inl x1)]) (st' := [.inr (.inr (some 74))]) (h1 := hp L s c e) rfl ?_
  refine Ru.step (pc' := 2) (ls' := [some (.inr (.inr (some 74))), some (.inl x0), some (.inl x1)]) (st' := [.inl x0, .inr (.inr (some 74))]) (h1 := hp L s c e) rfl ?_
  refine Ru.call rfl ((ev_173 x0).up (by decide)) ?_
  by_cases h0 : f_173 x0 s = 0
  · rw [if_pos h0]
    have hg := hg.1 h0
    refine Ru.jy rfl h0 ?_
    exact Ru.done rfl
  · rw [if_neg h0]
    have hg := hg.2 h0
    refine Ru.jn rfl h0 ?_
    refine Ru.step (pc' := 9) (ls' := [some (.inr (.inr (some 74))), some (.inl x0), some (.inl x1)]) (st' := [.inr (.inr (some 74))]) (h1 := hp L s c e) rfl ?_
    refine Ru.step (pc' := 10) (ls' := [some (.inr (.inr (some 74))), some (.inl x0), some (.inl x1)]) (st' := [.inl x1, .inr (.inr (some 74))]) (h1 := hp L s c e) rfl ?_
    refine Ru.call rfl ((ev_173 x1).up (by decide)) ?_
    by_cases h1 : f_173 x1 s = 0
    · rw [if_pos h1]
      have hg := hg.1 h1
      refine Ru.jy rfl h1 ?_
      exact Ru.done rfl
    · rw [if_neg h1]
      have hg := hg.2 h1
      refine Ru.jn rfl h1 ?_
      refine Ru.step (pc' := 17) (ls' := [some (.inr (.inr (some 74))), some (.inl x0), some (.inl x1)]) (st' := [.inr (.inr (some 74))]) (h1 := hp L s c e) rfl ?_
      refine Ru.step (pc' := 20) (ls' := [some (.inr (.inr (some 74))), some (.inl x0), some (.inl x1)]) (st' := [.inl (s 74 7)]) (h1 := hp L s c e) rfl ?_
      refine Ru.step (pc' := 23) (ls' := [some (.inr (.inr (some 74))), some (.inl x0), some (.inl x1)]) (st' := [.inl 2731, .inl (s 74 7)]) (h1 := hp L s c e) rfl ?_
      by_cases h2 : s 74 7 < 2731
      · rw [if_pos h2]
        have hg := hg.1 h2
        refine Ru.jy rfl h2 ?_
        refine Ru.step (pc' := 28) (ls' := [some (.inr (.inr (some 74))), some (.inl x0), some (.inl x1)]) (st' := [.inr (.inr (some 74))]) (h1 := hp L s c e) rfl ?_
        refine Ru.step (pc' := 31) (ls' := [some (.inr (.inr (some 74))), some (.inl x0), some (.inl x1)]) (st' := [.inr (.inr (some 76))]) (h1 := hp L s c e) rfl ?_
        refine Ru.step (pc' := 32) (ls' := [some (.inr (.inr (some 74))), some (.inl x0), some (.inl x1)]) (st' := [.inr (.inr (some 74)), .inr (.inr (some 76))]) (h1 := hp L s c e) rfl ?_
        refine Ru.step (pc' := 35) (ls' := [some (.inr (.inr (some 74))), some (.inl x0), some (.inl x1)]) (st' := [.inl (s 74 7), .inr (.inr (some 76))]) (h1 := hp L s c e) rfl ?_
        refine Ru.step (pc' := 36) (ls' := [some (.inr (.inr (some 74))), some (.inl x0), some (.inl x1)]) (st' := [.inl x0, .inl (s 74 7), .inr (.inr (some 76))]) (h1 := hp L s c e) rfl ?_
        obtain ⟨⟨b1, b2⟩, hg⟩ := hg
        refine Ru.ast (f := fun t => t == 0) (j := s 74 7) (a := 76) rfl rfl (by decide) rfl rfl b1 b2 ?_
        refine Ru.step (pc' := 38) (ls' := [some (.inr (.inr (some 74))), some (.inl x0), some (.inl x1)]) (st' := [.inr (.inr (some 74))]) (h1 := hp L (ax_u2 s 76 ((s 74 7).toNat) x0) c e) rfl ?_
        refine Ru.step (pc' := 41) (ls' := [some (.inr (.inr (some 74))), some (.inl x0), some (.inl x1)]) (st' := [.inr (.inr (some 77))]) (h1 := hp L (ax_u2 s 76 ((s 74 7).toNat) x0) c e) rfl ?_
        refine Ru.step (pc' := 42) (ls' := [some (.inr (.inr (some 74))), some (.inl x0), some (.inl x1)]) (st' := [.inr (.inr (some 74)), .inr (.inr (some 77))]) (h1 := hp L (ax_u2 s 76 ((s 74 7).toNat) x0) c e) rfl ?_
        refine Ru.step (pc' := 45) (ls' := [some (.inr (.inr (some 74))), some (.inl x0), some (.inl x1)]) (st' := [.inl (s 74 7), .inr (.inr (some 77))]) (h1 := hp L (ax_u2 s 76 ((s 74 7).toNat) x0) c e) rfl ?_
        refine Ru.step (pc' := 46) (ls' := [some (.inr (.inr (some 74))), some (.inl x0), some (.inl x1)]) (st' := [.inr (.inr (some 74)), .inl (s 74 7), .inr (.inr (some 77))]) (h1 := hp L (ax_u2 s 76 ((s 74 7).toNat) x0) c e) rfl ?_
        refine Ru.step (pc' := 49) (ls' := [some (.inr (.inr (some 74))), some (.inl x0), some (.inl x1)]) (st' := [.inr (.inr (some 75)), .inl (s 74 7), .inr (.inr (some 77))]) (h1 := hp L (ax_u2 s 76 ((s 74 7).toNat) x0) c e) rfl ?_
        refine Ru.step (pc' := 50) (ls' := [some (.inr (.inr (some 74))), some (.inl x0), some (.inl x1)]) (st' := [.inl x1, .inr (.inr (some 75)), .inl (s 74 7), .inr (.inr (some 77))]) (h1 := hp L (ax_u2 s 76 ((s 74 7).toNat) x0) c e) rfl ?_
        obtain ⟨⟨b1, b2⟩, hg⟩ := hg
        refine Ru.ald (f := fun t => t == 0) (j := x1) (a := 75) rfl rfl b1 b2 ?_
        obtain ⟨⟨b1, b2⟩, hg⟩ := hg
        refine Ru.ast (f := fun t => t == 0) (j := s 74 7) (a := 77) rfl rfl (by decide) rfl rfl b1 b2 ?_
        refine Ru.step (pc' := 53) (ls' := [some (.inr (.inr (some 74))), some (.inl x0), some (.inl x1)]) (st' := [.inr (.inr (some 74))]) (h1 := hp L (ax_u2 (ax_u2 s 76 ((s 74 7).toNat) x0) 77 ((s 74 7).toNat) (s 75 x1.toNat)) c e) rfl ?_
        refine Ru.step (pc' := 56) (ls' := [some (.inr (.inr (some 74))), some (.inl x0), some (.inl x1)]) (st' := [.inr (.inr (some 75))]) (h1 := hp L (ax_u2 (ax_u2 s 76 ((s 74 7).toNat) x0) 77 ((s 74 7).toNat) (s 75 x1.toNat)) c e) rfl ?_
        refine Ru.step (pc' := 57) (ls' := [some (.inr (.inr (some 74))), some (.inl x0), some (.inl x1)]) (st' := [.inl x1, .inr (.inr (some 75))]) (h1 := hp L (ax_u2 (ax_u2 s 76 ((s 74 7).toNat) x0) 77 ((s 74 7).toNat) (s 75 x1.toNat)) c e) rfl ?_
        refine Ru.step (pc' := 58) (ls' := [some (.inr (.inr (some 74))), some (.inl x0), some (.inl x1)]) (st' := [.inr (.inr (some 74)), .inl x1, .inr (.inr (some 75))]) (h1 := hp L (ax_u2 (ax_u2 s 76 ((s 74 7).toNat) x0) 77 ((s 74 7).toNat) (s 75 x1.toNat)) c e) rfl ?_
        refine Ru.step (pc' := 61) (ls' := [some (.inr (.inr (some 74))), some (.inl x0), some (.inl x1)]) (st' := [.inl (s 74 7), .inl x1, .inr (.inr (some 75))]) (h1 := hp L (ax_u2 (ax_u2 s 76 ((s 74 7).toNat) x0) 77 ((s 74 7).toNat) (s 75 x1.toNat)) c e) rfl ?_
        obtain ⟨⟨b1, b2⟩, hg⟩ := hg
        refine Ru.ast (f := fun t => t == 0) (j := x1) (a := 75) rfl rfl (by decide) rfl rfl b1 b2 ?_
        refine Ru.step (pc' := 63) (ls' := [some (.inr (.inr (some 74))), some (.inl x0), some (.inl x1)]) (st' := [.inr (.inr (some 74))]) (h1 := hp L (ax_u2 (ax_u2 (ax_u2 s 76 ((s 74 7).toNat) x0) 77 ((s 74 7).toNat) (s 75 x1.toNat)) 75 x1.toNat (s 74 7)) c e) rfl ?_
        refine Ru.step (pc' := 64) (ls' := [some (.inr (.inr (some 74))), some (.inl x0), some (.inl x1)]) (st' := [.inr (.inr (some 74)), .inr (.inr (some 74))]) (h1 := hp L (ax_u2 (ax_u2 (ax_u2 s 76 ((s 74 7).toNat) x0) 77 ((s 74 7).toNat) (s 75 x1.toNat)) 75 x1.toNat (s 74 7)) c e) rfl ?_
        refine Ru.step (pc' := 67) (ls' := [some (.inr (.inr (some 74))), some (.inl x0), some (.inl x1)]) (st' := [.inl (s 74 7), .inr (.inr (some 74))]) (h1 := hp L (ax_u2 (ax_u2 (ax_u2 s 76 ((s 74 7).toNat) x0) 77 ((s 74 7).toNat) (s 75 x1.toNat)) 75 x1.toNat (s 74 7)) c e) rfl ?_
        refine Ru.step (pc' := 68) (ls' := [some (.inr (.inr (some 74))), some (.inl x0), some (.inl x1)]) (st' := [.inl 1, .inl (s 74 7), .inr (.inr (some 74))]) (h1 := hp L (ax_u2 (ax_u2 (ax_u2 s 76 ((s 74 7).toNat) x0) 77 ((s 74 7).toNat) (s 75 x1.toNat)) 75 x1.toNat (s 74 7)) c e) rfl ?_
        refine Ru.step (pc' := 69) (ls' := [some (.inr (.inr (some 74))), some (.inl x0), some (.inl x1)]) (st' := [.inl (ax_w32 ((s 74 7) + 1)), .inr (.inr (some 74))]) (h1 := hp L (ax_u2 (ax_u2 (ax_u2 s 76 ((s 74 7).toNat) x0) 77 ((s 74 7).toNat) (s 75 x1.toNat)) 75 x1.toNat (s 74 7)) c e) rfl ?_
        refine Ru.step (pc' := 72) (ls' := [some (.inr (.inr (some 74))), some (.inl x0), some (.inl x1)]) (st' := []) (h1 := hp L (ax_u2 (ax_u2 (ax_u2 (ax_u2 s 76 ((s 74 7).toNat) x0) 77 ((s 74 7).toNat) (s 75 x1.toNat)) 75 x1.toNat (s 74 7)) 74 7 (ax_w32 ((s 74 7) + 1))) c e) rfl ?_
        refine Ru.step (pc' := 73) (ls' := [some (.inr (.inr (some 74))), some (.inl x0), some (.inl x1)]) (st' := [.inr (.inr (some 74))]) (h1 := hp L (ax_u2 (ax_u2 (ax_u2 (ax_u2 s 76 ((s 74 7).toNat) x0) 77 ((s 74 7).toNat) (s 75 x1.toNat)) 75 x1.toNat (s 74 7)) 74 7 (ax_w32 ((s 74 7) + 1))) c e) rfl ?_
        refine Ru.step (pc' := 76) (ls' := [some (.inr (.inr (some 74))), some (.inl x0), some (.inl x1)]) (st' := [.inr (.inr (some 78))]) (h1 := hp L (ax_u2 (ax_u2 (ax_u2 (ax_u2 s 76 ((s 74 7).toNat) x0) 77 ((s 74 7).toNat) (s 75 x1.toNat)) 75 x1.toNat (s 74 7)) 74 7 (ax_w32 ((s 74 7) + 1))) c e) rfl ?_
        refine Ru.step (pc' := 77) (ls' := [some (.inr (.inr (some 74))), some (.inl x0), some (.inl x1)]) (st' := [.inl x0, .inr (.inr (some 78))]) (h1 := hp L (ax_u2 (ax_u2 (ax_u2 (ax_u2 s 76 ((s 74 7).toNat) x0) 77 ((s 74 7).toNat) (s 75 x1.toNat)) 75 x1.toNat (s 74 7)) 74 7 (ax_w32 ((s 74 7) + 1))) c e) rfl ?_
        refine Ru.step (pc' := 78) (ls' := [some (.inr (.inr (some 74))), some (.inl x0), some (.inl x1)]) (st' := [.inl x0, .inr (.inr (some 78)), .inl x0, .inr (.inr (some 78))]) (h1 := hp L (ax_u2 (ax_u2 (ax_u2 (ax_u2 s 76 ((s 74 7).toNat) x0) 77 ((s 74 7).toNat) (s 75 x1.toNat)) 75 x1.toNat (s 74 7)) 74 7 (ax_w32 ((s 74 7) + 1))) c e) rfl ?_
        obtain ⟨⟨b1, b2⟩, hg⟩ := hg
        refine Ru.ald (f := fun t => t == 0) (j := x0) (a := 78) rfl rfl b1 b2 ?_
        refine Ru.step (pc' := 80) (ls' := [some (.inr (.inr (some 74))), some (.inl x0), some (.inl x1)]) (st' := [.inl 1, .inl (s 78 x0.toNat), .inl x0, .inr (.inr (some 78))]) (h1 := hp L (ax_u2 (ax_u2 (ax_u2 (ax_u2 s 76 ((s 74 7).toNat) x0) 77 ((s 74 7).toNat) (s 75 x1.toNat)) 75 x1.toNat (s 74 7)) 74 7 (ax_w32 ((s 74 7) + 1))) c e) rfl ?_
        refine Ru.step (pc' := 81) (ls' := [some (.inr (.inr (some 74))), some (.inl x0), some (.inl x1)]) (st' := [.inl (ax_w32 ((s 78 x0.toNat) + 1)), .inl x0, .inr (.inr (some 78))]) (h1 := hp L (ax_u2 (ax_u2 (ax_u2 (ax_u2 s 76 ((s 74 7).toNat) x0) 77 ((s 74 7).toNat) (s 75 x1.toNat)) 75 x1.toNat (s 74 7)) 74 7 (ax_w32 ((s 74 7) + 1))) c e) rfl ?_
        obtain ⟨⟨b1, b2⟩, hg⟩ := hg
        refine Ru.ast (f := fun t => t == 0) (j := x0) (a := 78) rfl rfl (by decide) rfl rfl b1 b2 ?_
        exact Ru.done rfl
      · rw [if_neg h2]
        have hg := hg.2 h2
        refine Ru.jn rfl h2 ?_
        exact Ru.done rfl
/-- MachineTextModel.count(I)I -/
def f_205 (x0 : Int) (s : Nat → Nat → Int) : Int × (Nat → Nat → Int) := (if ¬ (f_207 x0 0 4 (ax_u2 s 84 0 0)) = 0 then (if ¬ x0 = 0 then (if ¬ x0 = 4 then (if ¬ (s 84 5) = 0 then (if ¬ x0 = 1 then (if ¬ x0 = 2 then (s 84 47, (ax_u2 s 84 0 0)) else (s 84 19, (ax_u2 s 84 0 0))) else (s 84 11, (ax_u2 s 84 0 0))) else (0, (ax_u2 s 84 0 0))) else (s 84 9, (ax_u2 s 84 0 0))) else (s 84 1, (ax_u2 s 84 0 0))) else ((-1), (ax_u2 s 84 0 0)))
theorem ev_205 {L c : Nat} {s : Nat → Nat → Int} {e : Nat → Nat} (x0 : Int) : Ev 2 205 [.inr (.inr (some 84)), .inl x0] (hp L s c e) (.inl (some (.inl ((f_205 x0 s).1)))) (hp L (f_205 x0 s).2 c e) := by
  unfold f_205
  refine Ev.of (μ := tb_m205) (ls := [some (.inr (.inr (some 84))), some (.inl x0)]) rfl (Nat.le_of_ble_eq_true rfl) rfl ?_
  refine Ru.step (pc' := 1) (ls' := [some (.inr (.inr (some 84))), some (.inl x0)]) (st' := [.inr (.inr (some 84))]) (h1 := hp L s c e) rfl ?_
  refine Ru.step (pc' := 2) (ls' := [some (.inr (.inr (some 84))), some (.inl x0)]) (st' := [.inl 0, .inr (.inr (some 84))]) (h1 := hp L s c e) rfl ?_
  refine Ru.step (pc' := 5) (ls' := [some (.inr (.inr (some 84))), some (.inl x0)]) (st' := []) (h1 := hp L (ax_u2 s 84 0 0) c e) rfl ?_
  refine Ru.step (pc' := 6) (ls' := [some (.inr (.inr (some 84))), some (.inl x0)]) (st' := [.inl x0]) (h1 := hp L (ax_u2 s 84 0 0) c e) rfl ?_
  refine Ru.step (pc' := 7) (ls' := [some (.inr (.inr (some 84))), some (.inl x0)]) (st' := [.inr (.inl x0)]) (h1 := hp L (ax_u2 s 84 0 0) c e) rfl ?_
  refine Ru.step (pc' := 8) (ls' := [some (.inr (.inr (some 84))), some (.inl x0)]) (st' := [.inr (.inl 0), .inr (.inl x0)]) (h1 := hp L (ax_u2 s 84 0 0) c e) rfl ?_
  refine Ru.step (pc' := 11) (ls' := [some (.inr (.inr (some 84))), some (.inl x0)]) (st' := [.inr (.inl 4), .inr (.inl 0), .inr (.inl x0)]) (h1 := hp L (ax_u2 s 84 0 0) c e) rfl ?_
  refine Ru.call rfl ((ev_207 x0 0 4).up (by decide)) ?_
  by_cases h0 : ¬ (f_207 x0 0 4 (ax_u2 s 84 0 0)) = 0
  · rw [if_pos h0]
    refine Ru.jy rfl h0 ?_
    refine Ru.step (pc' := 20) (ls' := [some (.inr (.inr (some 84))), some (.inl x0)]) (st' := [.inl x0]) (h1 := hp L (ax_u2 s 84 0 0) c e) rfl ?_
    by_cases h1 : ¬ x0 = 0
    · rw [if_pos h1]
      refine Ru.jy rfl h1 ?_
      refine Ru.step (pc' := 29) (ls' := [some (.inr (.inr (some 84))), some (.inl x0)]) (st' := [.inl x0]) (h1 := hp L (ax_u2 s 84 0 0) c e) rfl ?_
      refine Ru.step (pc' := 30) (ls' := [some (.inr (.inr (some 84))), some (.inl x0)]) (st' := [.inl 4, .inl x0]) (h1 := hp L (ax_u2 s 84 0 0) c e) rfl ?_
      by_cases h2 : ¬ x0 = 4
      · rw [if_pos h2]
        refine Ru.jy rfl h2 ?_
        refine Ru.step (pc' := 39) (ls' := [some (.inr (.inr (some 84))), some (.inl x0)]) (st' := [.inr (.inr (some 84))]) (h1 := hp L (ax_u2 s 84 0 0) c e) rfl ?_
        refine Ru.step (pc' := 42) (ls' := [some (.inr (.inr (some 84))), some (.inl x0)]) (st' := [.inl (s 84 5)]) (h1 := hp L (ax_u2 s 84 0 0) c e) rfl ?_
        by_cases h3 : ¬ (s 84 5) = 0
        · rw [if_pos h3]
          refine Ru.jy rfl h3 ?_
          refine Ru.step (pc' := 48) (ls' := [some (.inr (.inr (some 84))), some (.inl x0)]) (st' := [.inl x0]) (h1 := hp L (ax_u2 s 84 0 0) c e) rfl ?_
          refine Ru.step (pc' := 49) (ls' := [some (.inr (.inr (some 84))), some (.inl x0)]) (st' := [.inl 1, .inl x0]) (h1 := hp L (ax_u2 s 84 0 0) c e) rfl ?_
          by_cases h4 : ¬ x0 = 1
          · rw [if_pos h4]
            refine Ru.jy rfl h4 ?_
            refine Ru.step (pc' := 60) (ls' := [some (.inr (.inr (some 84))), some (.inl x0)]) (st' := [.inl x0]) (h1 := hp L (ax_u2 s 84 0 0) c e) rfl ?_
            refine Ru.step (pc' := 61) (ls' := [some (.inr (.inr (some 84))), some (.inl x0)]) (st' := [.inl 2, .inl x0]) (h1 := hp L (ax_u2 s 84 0 0) c e) rfl ?_
            by_cases h5 : ¬ x0 = 2
            · rw [if_pos h5]
              refine Ru.jy rfl h5 ?_
              refine Ru.step (pc' := 72) (ls' := [some (.inr (.inr (some 84))), some (.inl x0)]) (st' := [.inr (.inr (some 84))]) (h1 := hp L (ax_u2 s 84 0 0) c e) rfl ?_
              refine Ru.step (pc' := 75) (ls' := [some (.inr (.inr (some 84))), some (.inl x0)]) (st' := [.inl (s 84 47)]) (h1 := hp L (ax_u2 s 84 0 0) c e) rfl ?_
              exact Ru.done rfl
            · rw [if_neg h5]
              refine Ru.jn rfl h5 ?_
              refine Ru.step (pc' := 65) (ls' := [some (.inr (.inr (some 84))), some (.inl x0)]) (st' := [.inr (.inr (some 84))]) (h1 := hp L (ax_u2 s 84 0 0) c e) rfl ?_
              refine Ru.step (pc' := 68) (ls' := [some (.inr (.inr (some 84))), some (.inl x0)]) (st' := [.inl (s 84 19)]) (h1 := hp L (ax_u2 s 84 0 0) c e) rfl ?_
              refine Ru.step (pc' := 75) (ls' := [some (.inr (.inr (some 84))), some (.inl x0)]) (st' := [.inl (s 84 19)]) (h1 := hp L (ax_u2 s 84 0 0) c e) rfl ?_
              exact Ru.done rfl
          · rw [if_neg h4]
            refine Ru.jn rfl h4 ?_
            refine Ru.step (pc' := 53) (ls' := [some (.inr (.inr (some 84))), some (.inl x0)]) (st' := [.inr (.inr (some 84))]) (h1 := hp L (ax_u2 s 84 0 0) c e) rfl ?_
            refine Ru.step (pc' := 56) (ls' := [some (.inr (.inr (some 84))), some (.inl x0)]) (st' := [.inl (s 84 11)]) (h1 := hp L (ax_u2 s 84 0 0) c e) rfl ?_
            refine Ru.step (pc' := 75) (ls' := [some (.inr (.inr (some 84))), some (.inl x0)]) (st' := [.inl (s 84 11)]) (h1 := hp L (ax_u2 s 84 0 0) c e) rfl ?_
            exact Ru.done rfl
        · rw [if_neg h3]
          refine Ru.jn rfl h3 ?_
          refine Ru.step (pc' := 46) (ls' := [some (.inr (.inr (some 84))), some (.inl x0)]) (st' := [.inl 0]) (h1 := hp L (ax_u2 s 84 0 0) c e) rfl ?_
          exact Ru.done rfl
      · rw [if_neg h2]
        refine Ru.jn rfl h2 ?_
        refine Ru.step (pc' := 34) (ls' := [some (.inr (.inr (some 84))), some (.inl x0)]) (st' := [.inr (.inr (some 84))]) (h1 := hp L (ax_u2 s 84 0 0) c e) rfl ?_
        refine Ru.step (pc' := 37) (ls' := [some (.inr (.inr (some 84))), some (.inl x0)]) (st' := [.inl (s 84 9)]) (h1 := hp L (ax_u2 s 84 0 0) c e) rfl ?_
        exact Ru.done rfl
    · rw [if_neg h1]
      refine Ru.jn rfl h1 ?_
      refine Ru.step (pc' := 24) (ls' := [some (.inr (.inr (some 84))), some (.inl x0)]) (st' := [.inr (.inr (some 84))]) (h1 := hp L (ax_u2 s 84 0 0) c e) rfl ?_
      refine Ru.step (pc' := 27) (ls' := [some (.inr (.inr (some 84))), some (.inl x0)]) (st' := [.inl (s 84 1)]) (h1 := hp L (ax_u2 s 84 0 0) c e) rfl ?_
      exact Ru.done rfl
  · rw [if_neg h0]
    refine Ru.jn rfl h0 ?_
    refine Ru.step (pc' := 18) (ls' := [some (.inr (.inr (some 84))), some (.inl x0)]) (st' := [.inl (-1)]) (h1 := hp L (ax_u2 s 84 0 0) c e) rfl ?_
    exact Ru.done rfl
