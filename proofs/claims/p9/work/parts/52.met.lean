/-! METHODS, second form, by program. -/
/-- MachineTextModel.isBits(I)Z -/
noncomputable def j_236_41 (k7 : (Int → Int → Sg → Option Int)) (l1 l2 : Int) (s : Sg) : Option Int :=
  k7 l1 (ax_w32 (l2 + 1)) s
theorem bl_236_41 {L c : Nat} {e : Nat → Nat} {k7 : (Int → Int → Sg → Option Int)} (hk7 : ∀ (l1 l2 : Int) (s : Sg) (q : Int), k7 l1 l2 s = some q → RuP 0 tb_m236 7 [some (.inr (.inr (some 84))), some (.inl l1), some (.inl l2)] [] (hp L s c e) (oI L c e (q, s))) : ∀ (l1 l2 : Int) (s : Sg) (q : Int), j_236_41 k7 l1 l2 s = some q → RuP 0 tb_m236 41 [some (.inr (.inr (some 84))), some (.inl l1), some (.inl l2)] [] (hp L s c e) (oI L c e (q, s)) := by
  intro l1 l2 s q h
  unfold j_236_41 at h
  refine RuP.step (pc' := 44) (ls' := [some (.inr (.inr (some 84))), some (.inl l1), some (.inl (ax_w32 (l2 + 1)))]) (st' := []) (h1 := hp L s c e) rfl ?_
  refine RuP.step (pc' := 7) (ls' := [some (.inr (.inr (some 84))), some (.inl l1), some (.inl (ax_w32 (l2 + 1)))]) (st' := []) (h1 := hp L s c e) rfl ?_
  exact hk7 _ _ _ _ h
noncomputable def j_236_7 : Nat → Int → Int → Sg → Option Int
  | 0, _, _, _ => none
  | F + 1, l1, l2, s =>
    (gd (0 ≤ l1 ∧ l1 < 8200) (
    (if s 90 l1.toNat ≤ l2 then
      some 1
    else
      (gd (0 ≤ l2 ∧ l2 < 8192) (
      (if s 86 l2.toNat = 48 then
        j_236_41 (j_236_7 F) l1 l2 s
      else
        (gd (0 ≤ l2 ∧ l2 < 8192) (
        (if s 86 l2.toNat = 49 then
          j_236_41 (j_236_7 F) l1 l2 s
        else
          some 0)))))))))
theorem bl_236_7 {L c : Nat} {e : Nat → Nat} : ∀ (F : Nat) (l1 l2 : Int) (s : Sg) (q : Int), j_236_7 F l1 l2 s = some q → RuP 0 tb_m236 7 [some (.inr (.inr (some 84))), some (.inl l1), some (.inl l2)] [] (hp L s c e) (oI L c e (q, s)) := by
  intro F
  induction F with
  | zero =>
    intro l1 l2 s q h
    rw [j_236_7] at h
    cases h
  | succ F ih =>
    intro l1 l2 s q h
    rw [j_236_7] at h
    refine RuP.step (pc' := 8) (ls' := [some (.inr (.inr (some 84))), some (.inl l1), some (.inl l2)]) (st' := [.inl l2]) (h1 := hp L s c e) rfl ?_
    refine RuP.step (pc' := 9) (ls' := [some (.inr (.inr (some 84))), some (.inl l1), some (.inl l2)]) (st' := [.inr (.inr (some 84)), .inl l2]) (h1 := hp L s c e) rfl ?_
    refine RuP.step (pc' := 12) (ls' := [some (.inr (.inr (some 84))), some (.inl l1), some (.inl l2)]) (st' := [.inr (.inr (some 90)), .inl l2]) (h1 := hp L s c e) rfl ?_
    refine RuP.step (pc' := 13) (ls' := [some (.inr (.inr (some 84))), some (.inl l1), some (.inl l2)]) (st' := [.inl l1, .inr (.inr (some 90)), .inl l2]) (h1 := hp L s c e) rfl ?_
    obtain ⟨b0, h⟩ := gd_some h
    refine RuP.ald (f := fun t => t == 0) (j := l1) (a := 90) rfl rfl b0.1 b0.2 ?_
    by_cases h1 : s 90 l1.toNat ≤ l2
    · rw [if_pos h1] at h
      refine RuP.jy rfl h1 ?_
      refine RuP.step (pc' := 48) (ls' := [some (.inr (.inr (some 84))), some (.inl l1), some (.inl l2)]) (st' := [.inl 1]) (h1 := hp L s c e) rfl ?_
      cases h
      exact RuP.dI rfl
    · rw [if_neg h1] at h
      refine RuP.jn rfl h1 ?_
      refine RuP.step (pc' := 18) (ls' := [some (.inr (.inr (some 84))), some (.inl l1), some (.inl l2)]) (st' := [.inr (.inr (some 84))]) (h1 := hp L s c e) rfl ?_
      refine RuP.step (pc' := 21) (ls' := [some (.inr (.inr (some 84))), some (.inl l1), some (.inl l2)]) (st' := [.inr (.inr (some 86))]) (h1 := hp L s c e) rfl ?_
      refine RuP.step (pc' := 22) (ls' := [some (.inr (.inr (some 84))), some (.inl l1), some (.inl l2)]) (st' := [.inl l2, .inr (.inr (some 86))]) (h1 := hp L s c e) rfl ?_
      obtain ⟨b2, h⟩ := gd_some h
      refine RuP.ald (f := fun t => t == 0) (j := l2) (a := 86) rfl rfl b2.1 b2.2 ?_
      refine RuP.step (pc' := 25) (ls' := [some (.inr (.inr (some 84))), some (.inl l1), some (.inl l2)]) (st' := [.inl 48, .inl (s 86 l2.toNat)]) (h1 := hp L s c e) rfl ?_
      by_cases h3 : s 86 l2.toNat = 48
      · rw [if_pos h3] at h
        refine RuP.jy rfl h3 ?_
        exact bl_236_41 ih _ _ _ _ h
      · rw [if_neg h3] at h
        refine RuP.jn rfl h3 ?_
        refine RuP.step (pc' := 29) (ls' := [some (.inr (.inr (some 84))), some (.inl l1), some (.inl l2)]) (st' := [.inr (.inr (some 84))]) (h1 := hp L s c e) rfl ?_
        refine RuP.step (pc' := 32) (ls' := [some (.inr (.inr (some 84))), some (.inl l1), some (.inl l2)]) (st' := [.inr (.inr (some 86))]) (h1 := hp L s c e) rfl ?_
        refine RuP.step (pc' := 33) (ls' := [some (.inr (.inr (some 84))), some (.inl l1), some (.inl l2)]) (st' := [.inl l2, .inr (.inr (some 86))]) (h1 := hp L s c e) rfl ?_
        obtain ⟨b4, h⟩ := gd_some h
        refine RuP.ald (f := fun t => t == 0) (j := l2) (a := 86) rfl rfl b4.1 b4.2 ?_
        refine RuP.step (pc' := 36) (ls' := [some (.inr (.inr (some 84))), some (.inl l1), some (.inl l2)]) (st' := [.inl 49, .inl (s 86 l2.toNat)]) (h1 := hp L s c e) rfl ?_
        by_cases h5 : s 86 l2.toNat = 49
        · rw [if_pos h5] at h
          refine RuP.jy rfl h5 ?_
          exact bl_236_41 ih _ _ _ _ h
        · rw [if_neg h5] at h
          refine RuP.jn rfl h5 ?_
          refine RuP.step (pc' := 40) (ls' := [some (.inr (.inr (some 84))), some (.inl l1), some (.inl l2)]) (st' := [.inl 0]) (h1 := hp L s c e) rfl ?_
          cases h
          exact RuP.dI rfl
noncomputable def f_236 (x0 : Int) (s : Sg) : Option Int :=
  (gd (0 ≤ x0 ∧ x0 < 8200) (
  j_236_7 FU x0 (s 89 x0.toNat) s))
theorem ev_236 {L c : Nat} {e : Nat → Nat} {s : Sg} {x0 : Int} {q : Int} (h : f_236 x0 s = some q) : EvP 1 236 [.inr (.inr (some 84)), .inl x0] (hp L s c e) (oI L c e (q, s)) := by
  unfold f_236 at h
  refine EvP.of (μ := tb_m236) (ls := [some (.inr (.inr (some 84))), some (.inl x0), none]) rfl (Nat.le_of_ble_eq_true rfl) rfl ?_
  refine RuP.step (pc' := 1) (ls' := [some (.inr (.inr (some 84))), some (.inl x0), none]) (st' := [.inr (.inr (some 84))]) (h1 := hp L s c e) rfl ?_
  refine RuP.step (pc' := 4) (ls' := [some (.inr (.inr (some 84))), some (.inl x0), none]) (st' := [.inr (.inr (some 89))]) (h1 := hp L s c e) rfl ?_
  refine RuP.step (pc' := 5) (ls' := [some (.inr (.inr (some 84))), some (.inl x0), none]) (st' := [.inl x0, .inr (.inr (some 89))]) (h1 := hp L s c e) rfl ?_
  obtain ⟨b0, h⟩ := gd_some h
  refine RuP.ald (f := fun t => t == 0) (j := x0) (a := 89) rfl rfl b0.1 b0.2 ?_
  refine RuP.step (pc' := 7) (ls' := [some (.inr (.inr (some 84))), some (.inl x0), some (.inl (s 89 x0.toNat))]) (st' := []) (h1 := hp L s c e) rfl ?_
  exact bl_236_7 FU _ _ _ _ h
/-- MachineTextModel.told(I)V -/
noncomputable def j_237_16 (s : Sg) : Option Sg :=
  some (ax_u2 s 84 8 (-1))
theorem bl_237_16 {L c : Nat} {e : Nat → Nat} : ∀ (z1 : Int) (s : Sg) (q : Sg), j_237_16 s = some q → RuP 1 tb_m237 16 [some (.inr (.inr (some 84))), some (.inl z1)] [] (hp L s c e) (oV L c e q) := by
  intro z1 s q h
  unfold j_237_16 at h
  refine RuP.step (pc' := 17) (ls' := [some (.inr (.inr (some 84))), some (.inl z1)]) (st' := [.inr (.inr (some 84))]) (h1 := hp L s c e) rfl ?_
  refine RuP.step (pc' := 18) (ls' := [some (.inr (.inr (some 84))), some (.inl z1)]) (st' := [.inl (-1), .inr (.inr (some 84))]) (h1 := hp L s c e) rfl ?_
  refine RuP.step (pc' := 21) (ls' := [some (.inr (.inr (some 84))), some (.inl z1)]) (st' := []) (h1 := hp L (ax_u2 s 84 8 (-1)) c e) rfl ?_
  cases h
  exact RuP.dV rfl
noncomputable def f_237 (x0 : Int) (s : Sg) : Option Sg :=
  (if s 84 8 < 0 then
    j_237_16 s
  else
    ((some (f_227 x0 (s 84 8) s)).bind fun q1 =>
    j_237_16 q1))
theorem ev_237 {L c : Nat} {e : Nat → Nat} {s : Sg} {x0 : Int} {q : Sg} (h : f_237 x0 s = some q) : EvP 2 237 [.inr (.inr (some 84)), .inl x0] (hp L s c e) (oV L c e q) := by
  unfold f_237 at h
  refine EvP.of (μ := tb_m237) (ls := [some (.inr (.inr (some 84))), some (.inl x0)]) rfl (Nat.le_of_ble_eq_true rfl) rfl ?_
  refine RuP.step (pc' := 1) (ls' := [some (.inr (.inr (some 84))), some (.inl x0)]) (st' := [.inr (.inr (some 84))]) (h1 := hp L s c e) rfl ?_
  refine RuP.step (pc' := 4) (ls' := [some (.inr (.inr (some 84))), some (.inl x0)]) (st' := [.inl (s 84 8)]) (h1 := hp L s c e) rfl ?_
  by_cases h0 : s 84 8 < 0
  · rw [if_pos h0] at h
    refine RuP.jy rfl h0 ?_
    exact bl_237_16 _ _ _ h
  · rw [if_neg h0] at h
    refine RuP.jn rfl h0 ?_
    refine RuP.step (pc' := 8) (ls' := [some (.inr (.inr (some 84))), some (.inl x0)]) (st' := [.inr (.inr (some 84))]) (h1 := hp L s c e) rfl ?_
    refine RuP.step (pc' := 9) (ls' := [some (.inr (.inr (some 84))), some (.inl x0)]) (st' := [.inl x0, .inr (.inr (some 84))]) (h1 := hp L s c e) rfl ?_
    refine RuP.step (pc' := 10) (ls' := [some (.inr (.inr (some 84))), some (.inl x0)]) (st' := [.inr (.inr (some 84)), .inl x0, .inr (.inr (some 84))]) (h1 := hp L s c e) rfl ?_
    refine RuP.step (pc' := 13) (ls' := [some (.inr (.inr (some 84))), some (.inl x0)]) (st' := [.inl (s 84 8), .inl x0, .inr (.inr (some 84))]) (h1 := hp L s c e) rfl ?_
    obtain ⟨q1, h1, h⟩ := bd_some h
    refine RuP.cVe h1 rfl (EvP.v ((ev_227 x0 (s 84 8)).up (by decide))) ?_
    exact bl_237_16 _ _ _ h
/-- MachineTextModel.sameName(II)Z -/
noncomputable def j_239_33 : Nat → Int → Int → Int → Sg → Option Int
  | 0, _, _, _, _ => none
  | F + 1, l1, l2, l3, s =>
    (gd (0 ≤ l1 ∧ l1 < 8200) (
    (gd (0 ≤ l1 ∧ l1 < 8200) (
    (if ax_w32 ((s 90 l1.toNat) - (s 89 l1.toNat)) ≤ l3 then
      some 1
    else
      (gd (0 ≤ l1 ∧ l1 < 8200) (
      (gd (0 ≤ ax_w32 ((s 89 l1.toNat) + l3) ∧ ax_w32 ((s 89 l1.toNat) + l3) < 8192) (
      (gd (0 ≤ l2 ∧ l2 < 8200) (
      (gd (0 ≤ ax_w32 ((s 89 l2.toNat) + l3) ∧ ax_w32 ((s 89 l2.toNat) + l3) < 8192) (
      (if s 86 ((ax_w32 ((s 89 l1.toNat) + l3)).toNat) = s 86 ((ax_w32 ((s 89 l2.toNat) + l3)).toNat) then
        (j_239_33 F) l1 l2 (ax_w32 (l3 + 1)) s
      else
        some 0))))))))))))))
theorem bl_239_33 {L c : Nat} {e : Nat → Nat} : ∀ (F : Nat) (l1 l2 l3 : Int) (s : Sg) (q : Int), j_239_33 F l1 l2 l3 s = some q → RuP 0 tb_m239 33 [some (.inr (.inr (some 84))), some (.inl l1), some (.inl l2), some (.inl l3)] [] (hp L s c e) (oI L c e (q, s)) := by
  intro F
  induction F with
  | zero =>
    intro l1 l2 l3 s q h
    rw [j_239_33] at h
    cases h
  | succ F ih =>
    intro l1 l2 l3 s q h
    rw [j_239_33] at h
    refine RuP.step (pc' := 34) (ls' := [some (.inr (.inr (some 84))), some (.inl l1), some (.inl l2), some (.inl l3)]) (st' := [.inl l3]) (h1 := hp L s c e) rfl ?_
    refine RuP.step (pc' := 35) (ls' := [some (.inr (.inr (some 84))), some (.inl l1), some (.inl l2), some (.inl l3)]) (st' := [.inr (.inr (some 84)), .inl l3]) (h1 := hp L s c e) rfl ?_
    refine RuP.step (pc' := 38) (ls' := [some (.inr (.inr (some 84))), some (.inl l1), some (.inl l2), some (.inl l3)]) (st' := [.inr (.inr (some 90)), .inl l3]) (h1 := hp L s c e) rfl ?_
    refine RuP.step (pc' := 39) (ls' := [some (.inr (.inr (some 84))), some (.inl l1), some (.inl l2), some (.inl l3)]) (st' := [.inl l1, .inr (.inr (some 90)), .inl l3]) (h1 := hp L s c e) rfl ?_
    obtain ⟨b0, h⟩ := gd_some h
    refine RuP.ald (f := fun t => t == 0) (j := l1) (a := 90) rfl rfl b0.1 b0.2 ?_
    refine RuP.step (pc' := 41) (ls' := [some (.inr (.inr (some 84))), some (.inl l1), some (.inl l2), some (.inl l3)]) (st' := [.inr (.inr (some 84)), .inl (s 90 l1.toNat), .inl l3]) (h1 := hp L s c e) rfl ?_
    refine RuP.step (pc' := 44) (ls' := [some (.inr (.inr (some 84))), some (.inl l1), some (.inl l2), some (.inl l3)]) (st' := [.inr (.inr (some 89)), .inl (s 90 l1.toNat), .inl l3]) (h1 := hp L s c e) rfl ?_
    refine RuP.step (pc' := 45) (ls' := [some (.inr (.inr (some 84))), some (.inl l1), some (.inl l2), some (.inl l3)]) (st' := [.inl l1, .inr (.inr (some 89)), .inl (s 90 l1.toNat), .inl l3]) (h1 := hp L s c e) rfl ?_
    obtain ⟨b1, h⟩ := gd_some h
    refine RuP.ald (f := fun t => t == 0) (j := l1) (a := 89) rfl rfl b1.1 b1.2 ?_
    refine RuP.step (pc' := 47) (ls' := [some (.inr (.inr (some 84))), some (.inl l1), some (.inl l2), some (.inl l3)]) (st' := [.inl (ax_w32 ((s 90 l1.toNat) - (s 89 l1.toNat))), .inl l3]) (h1 := hp L s c e) rfl ?_
    by_cases h2 : ax_w32 ((s 90 l1.toNat) - (s 89 l1.toNat)) ≤ l3
    · rw [if_pos h2] at h
      refine RuP.jy rfl h2 ?_
      refine RuP.step (pc' := 88) (ls' := [some (.inr (.inr (some 84))), some (.inl l1), some (.inl l2), some (.inl l3)]) (st' := [.inl 1]) (h1 := hp L s c e) rfl ?_
      cases h
      exact RuP.dI rfl
    · rw [if_neg h2] at h
      refine RuP.jn rfl h2 ?_
      refine RuP.step (pc' := 51) (ls' := [some (.inr (.inr (some 84))), some (.inl l1), some (.inl l2), some (.inl l3)]) (st' := [.inr (.inr (some 84))]) (h1 := hp L s c e) rfl ?_
      refine RuP.step (pc' := 54) (ls' := [some (.inr (.inr (some 84))), some (.inl l1), some (.inl l2), some (.inl l3)]) (st' := [.inr (.inr (some 86))]) (h1 := hp L s c e) rfl ?_
      refine RuP.step (pc' := 55) (ls' := [some (.inr (.inr (some 84))), some (.inl l1), some (.inl l2), some (.inl l3)]) (st' := [.inr (.inr (some 84)), .inr (.inr (some 86))]) (h1 := hp L s c e) rfl ?_
      refine RuP.step (pc' := 58) (ls' := [some (.inr (.inr (some 84))), some (.inl l1), some (.inl l2), some (.inl l3)]) (st' := [.inr (.inr (some 89)), .inr (.inr (some 86))]) (h1 := hp L s c e) rfl ?_
      refine RuP.step (pc' := 59) (ls' := [some (.inr (.inr (some 84))), some (.inl l1), some (.inl l2), some (.inl l3)]) (st' := [.inl l1, .inr (.inr (some 89)), .inr (.inr (some 86))]) (h1 := hp L s c e) rfl ?_
      obtain ⟨b3, h⟩ := gd_some h
      refine RuP.ald (f := fun t => t == 0) (j := l1) (a := 89) rfl rfl b3.1 b3.2 ?_
      refine RuP.step (pc' := 61) (ls' := [some (.inr (.inr (some 84))), some (.inl l1), some (.inl l2), some (.inl l3)]) (st' := [.inl l3, .inl (s 89 l1.toNat), .inr (.inr (some 86))]) (h1 := hp L s c e) rfl ?_
      refine RuP.step (pc' := 62) (ls' := [some (.inr (.inr (some 84))), some (.inl l1), some (.inl l2), some (.inl l3)]) (st' := [.inl (ax_w32 ((s 89 l1.toNat) + l3)), .inr (.inr (some 86))]) (h1 := hp L s c e) rfl ?_
      obtain ⟨b4, h⟩ := gd_some h
      refine RuP.ald (f := fun t => t == 0) (j := ax_w32 ((s 89 l1.toNat) + l3)) (a := 86) rfl rfl b4.1 b4.2 ?_
      refine RuP.step (pc' := 64) (ls' := [some (.inr (.inr (some 84))), some (.inl l1), some (.inl l2), some (.inl l3)]) (st' := [.inr (.inr (some 84)), .inl (s 86 ((ax_w32 ((s 89 l1.toNat) + l3)).toNat))]) (h1 := hp L s c e) rfl ?_
      refine RuP.step (pc' := 67) (ls' := [some (.inr (.inr (some 84))), some (.inl l1), some (.inl l2), some (.inl l3)]) (st' := [.inr (.inr (some 86)), .inl (s 86 ((ax_w32 ((s 89 l1.toNat) + l3)).toNat))]) (h1 := hp L s c e) rfl ?_
      refine RuP.step (pc' := 68) (ls' := [some (.inr (.inr (some 84))), some (.inl l1), some (.inl l2), some (.inl l3)]) (st' := [.inr (.inr (some 84)), .inr (.inr (some 86)), .inl (s 86 ((ax_w32 ((s 89 l1.toNat) + l3)).toNat))]) (h1 := hp L s c e) rfl ?_
      refine RuP.step (pc' := 71) (ls' := [some (.inr (.inr (some 84))), some (.inl l1), some (.inl l2), some (.inl l3)]) (st' := [.inr (.inr (some 89)), .inr (.inr (some 86)), .inl (s 86 ((ax_w32 ((s 89 l1.toNat) + l3)).toNat))]) (h1 := hp L s c e) rfl ?_
      refine RuP.step (pc' := 72) (ls' := [some (.inr (.inr (some 84))), some (.inl l1), some (.inl l2), some (.inl l3)]) (st' := [.inl l2, .inr (.inr (some 89)), .inr (.inr (some 86)), .inl (s 86 ((ax_w32 ((s 89 l1.toNat) + l3)).toNat))]) (h1 := hp L s c e) rfl ?_
      obtain ⟨b5, h⟩ := gd_some h
      refine RuP.ald (f := fun t => t == 0) (j := l2) (a := 89) rfl rfl b5.1 b5.2 ?_
      refine RuP.step (pc' := 74) (ls' := [some (.inr (.inr (some 84))), some (.inl l1), some (.inl l2), some (.inl l3)]) (st' := [.inl l3, .inl (s 89 l2.toNat), .inr (.inr (some 86)), .inl (s 86 ((ax_w32 ((s 89 l1.toNat) + l3)).toNat))]) (h1 := hp L s c e) rfl ?_
      refine RuP.step (pc' := 75) (ls' := [some (.inr (.inr (some 84))), some (.inl l1), some (.inl l2), some (.inl l3)]) (st' := [.inl (ax_w32 ((s 89 l2.toNat) + l3)), .inr (.inr (some 86)), .inl (s 86 ((ax_w32 ((s 89 l1.toNat) + l3)).toNat))]) (h1 := hp L s c e) rfl ?_
      obtain ⟨b6, h⟩ := gd_some h
      refine RuP.ald (f := fun t => t == 0) (j := ax_w32 ((s 89 l2.toNat) + l3)) (a := 86) rfl rfl b6.1 b6.2 ?_
      by_cases h7 : s 86 ((ax_w32 ((s 89 l1.toNat) + l3)).toNat) = s 86 ((ax_w32 ((s 89 l2.toNat) + l3)).toNat)
      · rw [if_pos h7] at h
        refine RuP.jy rfl h7 ?_
        refine RuP.step (pc' := 84) (ls' := [some (.inr (.inr (some 84))), some (.inl l1), some (.inl l2), some (.inl (ax_w32 (l3 + 1)))]) (st' := []) (h1 := hp L s c e) rfl ?_
        refine RuP.step (pc' := 33) (ls' := [some (.inr (.inr (some 84))), some (.inl l1), some (.inl l2), some (.inl (ax_w32 (l3 + 1)))]) (st' := []) (h1 := hp L s c e) rfl ?_
        exact ih _ _ _ _ _ h
      · rw [if_neg h7] at h
        refine RuP.jn rfl h7 ?_
        refine RuP.step (pc' := 80) (ls' := [some (.inr (.inr (some 84))), some (.inl l1), some (.inl l2), some (.inl l3)]) (st' := [.inl 0]) (h1 := hp L s c e) rfl ?_
        cases h
        exact RuP.dI rfl
noncomputable def f_239 (x0 x1 : Int) (s : Sg) : Option Int :=
  (gd (0 ≤ x0 ∧ x0 < 8200) (
  (gd (0 ≤ x0 ∧ x0 < 8200) (
  (gd (0 ≤ x1 ∧ x1 < 8200) (
  (gd (0 ≤ x1 ∧ x1 < 8200) (
  (if ax_w32 ((s 90 x0.toNat) - (s 89 x0.toNat)) = ax_w32 ((s 90 x1.toNat) - (s 89 x1.toNat)) then
    j_239_33 FU x0 x1 0 s
  else
    some 0)))))))))
theorem ev_239 {L c : Nat} {e : Nat → Nat} {s : Sg} {x0 x1 : Int} {q : Int} (h : f_239 x0 x1 s = some q) : EvP 1 239 [.inr (.inr (some 84)), .inl x0, .inl x1] (hp L s c e) (oI L c e (q, s)) := by
  unfold f_239 at h
  refine EvP.of (μ := tb_m239) (ls := [some (.inr (.inr (some 84))), some (.inl x0), some (.inl x1), none]) rfl (Nat.le_of_ble_eq_true rfl) rfl ?_
  refine RuP.step (pc' := 1) (ls' := [some (.inr (.inr (some 84))), some (.inl x0), some (.inl x1), none]) (st' := [.inr (.inr (some 84))]) (h1 := hp L s c e) rfl ?_
  refine RuP.step (pc' := 4) (ls' := [some (.inr (.inr (some 84))), some (.inl x0), some (.inl x1), none]) (st' := [.inr (.inr (some 90))]) (h1 := hp L s c e) rfl ?_
  refine RuP.step (pc' := 5) (ls' := [some (.inr (.inr (some 84))), some (.inl x0), some (.inl x1), none]) (st' := [.inl x0, .inr (.inr (some 90))]) (h1 := hp L s c e) rfl ?_
  obtain ⟨b0, h⟩ := gd_some h
  refine RuP.ald (f := fun t => t == 0) (j := x0) (a := 90) rfl rfl b0.1 b0.2 ?_
  refine RuP.step (pc' := 7) (ls' := [some (.inr (.inr (some 84))), some (.inl x0), some (.inl x1), none]) (st' := [.inr (.inr (some 84)), .inl (s 90 x0.toNat)]) (h1 := hp L s c e) rfl ?_
  refine RuP.step (pc' := 10) (ls' := [some (.inr (.inr (some 84))), some (.inl x0), some (.inl x1), none]) (st' := [.inr (.inr (some 89)), .inl (s 90 x0.toNat)]) (h1 := hp L s c e) rfl ?_
  refine RuP.step (pc' := 11) (ls' := [some (.inr (.inr (some 84))), some (.inl x0), some (.inl x1), none]) (st' := [.inl x0, .inr (.inr (some 89)), .inl (s 90 x0.toNat)]) (h1 := hp L s c e) rfl ?_
  obtain ⟨b1, h⟩ := gd_some h
  refine RuP.ald (f := fun t => t == 0) (j := x0) (a := 89) rfl rfl b1.1 b1.2 ?_
  refine RuP.step (pc' := 13) (ls' := [some (.inr (.inr (some 84))), some (.inl x0), some (.inl x1), none]) (st' := [.inl (ax_w32 ((s 90 x0.toNat) - (s 89 x0.toNat)))]) (h1 := hp L s c e) rfl ?_
  refine RuP.step (pc' := 14) (ls' := [some (.inr (.inr (some 84))), some (.inl x0), some (.inl x1), none]) (st' := [.inr (.inr (some 84)), .inl (ax_w32 ((s 90 x0.toNat) - (s 89 x0.toNat)))]) (h1 := hp L s c e) rfl ?_
  refine RuP.step (pc' := 17) (ls' := [some (.inr (.inr (some 84))), some (.inl x0), some (.inl x1), none]) (st' := [.inr (.inr (some 90)), .inl (ax_w32 ((s 90 x0.toNat) - (s 89 x0.toNat)))]) (h1 := hp L s c e) rfl ?_
  refine RuP.step (pc' := 18) (ls' := [some (.inr (.inr (some 84))), some (.inl x0), some (.inl x1), none]) (st' := [.inl x1, .inr (.inr (some 90)), .inl (ax_w32 ((s 90 x0.toNat) - (s 89 x0.toNat)))]) (h1 := hp L s c e) rfl ?_
  obtain ⟨b2, h⟩ := gd_some h
  refine RuP.ald (f := fun t => t == 0) (j := x1) (a := 90) rfl rfl b2.1 b2.2 ?_
  refine RuP.step (pc' := 20) (ls' := [some (.inr (.inr (some 84))), some (.inl x0), some (.inl x1), none]) (st' := [.inr (.inr (some 84)), .inl (s 90 x1.toNat), .inl (ax_w32 ((s 90 x0.toNat) - (s 89 x0.toNat)))]) (h1 := hp L s c e) rfl ?_
  refine RuP.step (pc' := 23) (ls' := [some (.inr (.inr (some 84))), some (.inl x0), some (.inl x1), none]) (st' := [.inr (.inr (some 89)), .inl (s 90 x1.toNat), .inl (ax_w32 ((s 90 x0.toNat) - (s 89 x0.toNat)))]) (h1 := hp L s c e) rfl ?_
  refine RuP.step (pc' := 24) (ls' := [some (.inr (.inr (some 84))), some (.inl x0), some (.inl x1), none]) (st' := [.inl x1, .inr (.inr (some 89)), .inl (s 90 x1.toNat), .inl (ax_w32 ((s 90 x0.toNat) - (s 89 x0.toNat)))]) (h1 := hp L s c e) rfl ?_
  obtain ⟨b3, h⟩ := gd_some h
  refine RuP.ald (f := fun t => t == 0) (j := x1) (a := 89) rfl rfl b3.1 b3.2 ?_
  refine RuP.step (pc' := 26) (ls' := [some (.inr (.inr (some 84))), some (.inl x0), some (.inl x1), none]) (st' := [.inl (ax_w32 ((s 90 x1.toNat) - (s 89 x1.toNat))), .inl (ax_w32 ((s 90 x0.toNat) - (s 89 x0.toNat)))]) (h1 := hp L s c e) rfl ?_
  by_cases h4 : ax_w32 ((s 90 x0.toNat) - (s 89 x0.toNat)) = ax_w32 ((s 90 x1.toNat) - (s 89 x1.toNat))
  · rw [if_pos h4] at h
    refine RuP.jy rfl h4 ?_
    refine RuP.step (pc' := 32) (ls' := [some (.inr (.inr (some 84))), some (.inl x0), some (.inl x1), none]) (st' := [.inl 0]) (h1 := hp L s c e) rfl ?_
    refine RuP.step (pc' := 33) (ls' := [some (.inr (.inr (some 84))), some (.inl x0), some (.inl x1), some (.inl 0)]) (st' := []) (h1 := hp L s c e) rfl ?_
    exact bl_239_33 FU _ _ _ _ _ h
  · rw [if_neg h4] at h
    refine RuP.jn rfl h4 ?_
    refine RuP.step (pc' := 30) (ls' := [some (.inr (.inr (some 84))), some (.inl x0), some (.inl x1), none]) (st' := [.inl 0]) (h1 := hp L s c e) rfl ?_
    cases h
    exact RuP.dI rfl
/-- MachineTextModel.isOwn(III)Z -/
noncomputable def j_240_62 : Nat → Int → Int → Sg → Option Int
  | 0, _, _, _ => none
  | F + 1, l3, l4, s =>
    (if l4 < 0 then
      some 0
    else
      (gd (0 ≤ l4 ∧ l4 < 8200) (
      ((f_239 (s 107 l4.toNat) l3 s).bind fun q1 =>
      (if q1 = 0 then
        (gd (0 ≤ l4 ∧ l4 < 8200) (
        (j_240_62 F) l3 (s 113 l4.toNat) s))
      else
        some 1)))))
theorem bl_240_62 {L c : Nat} {e : Nat → Nat} : ∀ (F : Nat) (z1 z2 : Int) (l3 l4 : Int) (s : Sg) (q : Int), j_240_62 F l3 l4 s = some q → RuP 1 tb_m240 62 [some (.inr (.inr (some 84))), some (.inl z1), some (.inl z2), some (.inl l3), some (.inl l4)] [] (hp L s c e) (oI L c e (q, s)) := by
  intro F
  induction F with
  | zero =>
    intro z1 z2 l3 l4 s q h
    rw [j_240_62] at h
    cases h
  | succ F ih =>
    intro z1 z2 l3 l4 s q h
    rw [j_240_62] at h
    refine RuP.step (pc' := 64) (ls' := [some (.inr (.inr (some 84))), some (.inl z1), some (.inl z2), some (.inl l3), some (.inl l4)]) (st' := [.inl l4]) (h1 := hp L s c e) rfl ?_
    by_cases h0 : l4 < 0
    · rw [if_pos h0] at h
      refine RuP.jy rfl h0 ?_
      refine RuP.step (pc' := 97) (ls' := [some (.inr (.inr (some 84))), some (.inl z1), some (.inl z2), some (.inl l3), some (.inl l4)]) (st' := [.inl 0]) (h1 := hp L s c e) rfl ?_
      cases h
      exact RuP.dI rfl
    · rw [if_neg h0] at h
      refine RuP.jn rfl h0 ?_
      refine RuP.step (pc' := 68) (ls' := [some (.inr (.inr (some 84))), some (.inl z1), some (.inl z2), some (.inl l3), some (.inl l4)]) (st' := [.inr (.inr (some 84))]) (h1 := hp L s c e) rfl ?_
      refine RuP.step (pc' := 69) (ls' := [some (.inr (.inr (some 84))), some (.inl z1), some (.inl z2), some (.inl l3), some (.inl l4)]) (st' := [.inr (.inr (some 84)), .inr (.inr (some 84))]) (h1 := hp L s c e) rfl ?_
      refine RuP.step (pc' := 72) (ls' := [some (.inr (.inr (some 84))), some (.inl z1), some (.inl z2), some (.inl l3), some (.inl l4)]) (st' := [.inr (.inr (some 107)), .inr (.inr (some 84))]) (h1 := hp L s c e) rfl ?_
      refine RuP.step (pc' := 74) (ls' := [some (.inr (.inr (some 84))), some (.inl z1), some (.inl z2), some (.inl l3), some (.inl l4)]) (st' := [.inl l4, .inr (.inr (some 107)), .inr (.inr (some 84))]) (h1 := hp L s c e) rfl ?_
      obtain ⟨b1, h⟩ := gd_some h
      refine RuP.ald (f := fun t => t == 0) (j := l4) (a := 107) rfl rfl b1.1 b1.2 ?_
      refine RuP.step (pc' := 76) (ls' := [some (.inr (.inr (some 84))), some (.inl z1), some (.inl z2), some (.inl l3), some (.inl l4)]) (st' := [.inl l3, .inl (s 107 l4.toNat), .inr (.inr (some 84))]) (h1 := hp L s c e) rfl ?_
      obtain ⟨q1, h1, h⟩ := bd_some h
      refine RuP.cI rfl ((ev_239 h1).up (by decide)) ?_
      by_cases h2 : q1 = 0
      · rw [if_pos h2] at h
        refine RuP.jy rfl h2 ?_
        refine RuP.step (pc' := 85) (ls' := [some (.inr (.inr (some 84))), some (.inl z1), some (.inl z2), some (.inl l3), some (.inl l4)]) (st' := [.inr (.inr (some 84))]) (h1 := hp L s c e) rfl ?_
        refine RuP.step (pc' := 88) (ls' := [some (.inr (.inr (some 84))), some (.inl z1), some (.inl z2), some (.inl l3), some (.inl l4)]) (st' := [.inr (.inr (some 113))]) (h1 := hp L s c e) rfl ?_
        refine RuP.step (pc' := 90) (ls' := [some (.inr (.inr (some 84))), some (.inl z1), some (.inl z2), some (.inl l3), some (.inl l4)]) (st' := [.inl l4, .inr (.inr (some 113))]) (h1 := hp L s c e) rfl ?_
        obtain ⟨b3, h⟩ := gd_some h
        refine RuP.ald (f := fun t => t == 0) (j := l4) (a := 113) rfl rfl b3.1 b3.2 ?_
        refine RuP.step (pc' := 93) (ls' := [some (.inr (.inr (some 84))), some (.inl z1), some (.inl z2), some (.inl l3), some (.inl (s 113 l4.toNat))]) (st' := []) (h1 := hp L s c e) rfl ?_
        refine RuP.step (pc' := 62) (ls' := [some (.inr (.inr (some 84))), some (.inl z1), some (.inl z2), some (.inl l3), some (.inl (s 113 l4.toNat))]) (st' := []) (h1 := hp L s c e) rfl ?_
        exact ih _ _ _ _ _ _ h
      · rw [if_neg h2] at h
        refine RuP.jn rfl h2 ?_
        refine RuP.step (pc' := 83) (ls' := [some (.inr (.inr (some 84))), some (.inl z1), some (.inl z2), some (.inl l3), some (.inl l4)]) (st' := [.inl 1]) (h1 := hp L s c e) rfl ?_
        cases h
        exact RuP.dI rfl
noncomputable def j_240_59 (l2 l3 : Int) (s : Sg) : Option Int :=
  j_240_62 FU l3 l2 s
theorem bl_240_59 {L c : Nat} {e : Nat → Nat} : ∀ (z1 z4 : Int) (l2 l3 : Int) (s : Sg) (q : Int), j_240_59 l2 l3 s = some q → RuP 1 tb_m240 59 [some (.inr (.inr (some 84))), some (.inl z1), some (.inl l2), some (.inl l3), some (.inl z4)] [] (hp L s c e) (oI L c e (q, s)) := by
  intro z1 z4 l2 l3 s q h
  unfold j_240_59 at h
  refine RuP.step (pc' := 60) (ls' := [some (.inr (.inr (some 84))), some (.inl z1), some (.inl l2), some (.inl l3), some (.inl z4)]) (st' := [.inl l2]) (h1 := hp L s c e) rfl ?_
  refine RuP.step (pc' := 62) (ls' := [some (.inr (.inr (some 84))), some (.inl z1), some (.inl l2), some (.inl l3), some (.inl l2)]) (st' := []) (h1 := hp L s c e) rfl ?_
  exact bl_240_62 FU _ _ _ _ _ _ h
noncomputable def j_240_53 (k8 : (Int → Int → Int → Int → Sg → Option Int)) (l1 l2 l3 l4 : Int) (s : Sg) : Option Int :=
  k8 l1 l2 l3 (ax_w32 (l4 + 1)) s
theorem bl_240_53 {L c : Nat} {e : Nat → Nat} {k8 : (Int → Int → Int → Int → Sg → Option Int)} (hk8 : ∀ (l1 l2 l3 l4 : Int) (s : Sg) (q : Int), k8 l1 l2 l3 l4 s = some q → RuP 1 tb_m240 8 [some (.inr (.inr (some 84))), some (.inl l1), some (.inl l2), some (.inl l3), some (.inl l4)] [] (hp L s c e) (oI L c e (q, s))) : ∀ (l1 l2 l3 l4 : Int) (s : Sg) (q : Int), j_240_53 k8 l1 l2 l3 l4 s = some q → RuP 1 tb_m240 53 [some (.inr (.inr (some 84))), some (.inl l1), some (.inl l2), some (.inl l3), some (.inl l4)] [] (hp L s c e) (oI L c e (q, s)) := by
  intro l1 l2 l3 l4 s q h
  unfold j_240_53 at h
  refine RuP.step (pc' := 56) (ls' := [some (.inr (.inr (some 84))), some (.inl l1), some (.inl l2), some (.inl l3), some (.inl (ax_w32 (l4 + 1)))]) (st' := []) (h1 := hp L s c e) rfl ?_
  refine RuP.step (pc' := 8) (ls' := [some (.inr (.inr (some 84))), some (.inl l1), some (.inl l2), some (.inl l3), some (.inl (ax_w32 (l4 + 1)))]) (st' := []) (h1 := hp L s c e) rfl ?_
  exact hk8 _ _ _ _ _ _ h
noncomputable def j_240_8 : Nat → Int → Int → Int → Int → Sg → Option Int
  | 0, _, _, _, _, _ => none
  | F + 1, l1, l2, l3, l4, s =>
    (gd (0 ≤ l1 ∧ l1 < 4100) (
    (gd (0 ≤ l1 ∧ l1 < 4100) (
    (if ax_w32 ((s 98 l1.toNat) + (s 99 l1.toNat)) ≤ l4 then
      j_240_59 l2 l3 s
    else
      (gd (0 ≤ l4 ∧ l4 < 8200) (
      (if s 104 l4.toNat < 0 then
        j_240_53 (j_240_8 F) l1 l2 l3 l4 s
      else
        (gd (0 ≤ l4 ∧ l4 < 8200) (
        ((f_239 (s 104 l4.toNat) l3 s).bind fun q2 =>
        (if q2 = 0 then
          j_240_53 (j_240_8 F) l1 l2 l3 l4 s
        else
          some 1))))))))))))
theorem bl_240_8 {L c : Nat} {e : Nat → Nat} : ∀ (F : Nat) (l1 l2 l3 l4 : Int) (s : Sg) (q : Int), j_240_8 F l1 l2 l3 l4 s = some q → RuP 1 tb_m240 8 [some (.inr (.inr (some 84))), some (.inl l1), some (.inl l2), some (.inl l3), some (.inl l4)] [] (hp L s c e) (oI L c e (q, s)) := by
  intro F
  induction F with
  | zero =>
    intro l1 l2 l3 l4 s q h
    rw [j_240_8] at h
    cases h
  | succ F ih =>
    intro l1 l2 l3 l4 s q h
    rw [j_240_8] at h
    refine RuP.step (pc' := 10) (ls' := [some (.inr (.inr (some 84))), some (.inl l1), some (.inl l2), some (.inl l3), some (.inl l4)]) (st' := [.inl l4]) (h1 := hp L s c e) rfl ?_
    refine RuP.step (pc' := 11) (ls' := [some (.inr (.inr (some 84))), some (.inl l1), some (.inl l2), some (.inl l3), some (.inl l4)]) (st' := [.inr (.inr (some 84)), .inl l4]) (h1 := hp L s c e) rfl ?_
    refine RuP.step (pc' := 14) (ls' := [some (.inr (.inr (some 84))), some (.inl l1), some (.inl l2), some (.inl l3), some (.inl l4)]) (st' := [.inr (.inr (some 98)), .inl l4]) (h1 := hp L s c e) rfl ?_
    refine RuP.step (pc' := 15) (ls' := [some (.inr (.inr (some 84))), some (.inl l1), some (.inl l2), some (.inl l3), some (.inl l4)]) (st' := [.inl l1, .inr (.inr (some 98)), .inl l4]) (h1 := hp L s c e) rfl ?_
    obtain ⟨b0, h⟩ := gd_some h
    refine RuP.ald (f := fun t => t == 0) (j := l1) (a := 98) rfl rfl b0.1 b0.2 ?_
    refine RuP.step (pc' := 17) (ls' := [some (.inr (.inr (some 84))), some (.inl l1), some (.inl l2), some (.inl l3), some (.inl l4)]) (st' := [.inr (.inr (some 84)), .inl (s 98 l1.toNat), .inl l4]) (h1 := hp L s c e) rfl ?_
    refine RuP.step (pc' := 20) (ls' := [some (.inr (.inr (some 84))), some (.inl l1), some (.inl l2), some (.inl l3), some (.inl l4)]) (st' := [.inr (.inr (some 99)), .inl (s 98 l1.toNat), .inl l4]) (h1 := hp L s c e) rfl ?_
    refine RuP.step (pc' := 21) (ls' := [some (.inr (.inr (some 84))), some (.inl l1), some (.inl l2), some (.inl l3), some (.inl l4)]) (st' := [.inl l1, .inr (.inr (some 99)), .inl (s 98 l1.toNat), .inl l4]) (h1 := hp L s c e) rfl ?_
    obtain ⟨b1, h⟩ := gd_some h
    refine RuP.ald (f := fun t => t == 0) (j := l1) (a := 99) rfl rfl b1.1 b1.2 ?_
    refine RuP.step (pc' := 23) (ls' := [some (.inr (.inr (some 84))), some (.inl l1), some (.inl l2), some (.inl l3), some (.inl l4)]) (st' := [.inl (ax_w32 ((s 98 l1.toNat) + (s 99 l1.toNat))), .inl l4]) (h1 := hp L s c e) rfl ?_
    by_cases h2 : ax_w32 ((s 98 l1.toNat) + (s 99 l1.toNat)) ≤ l4
    · rw [if_pos h2] at h
      refine RuP.jy rfl h2 ?_
      exact bl_240_59 _ _ _ _ _ _ h
    · rw [if_neg h2] at h
      refine RuP.jn rfl h2 ?_
      refine RuP.step (pc' := 27) (ls' := [some (.inr (.inr (some 84))), some (.inl l1), some (.inl l2), some (.inl l3), some (.inl l4)]) (st' := [.inr (.inr (some 84))]) (h1 := hp L s c e) rfl ?_
      refine RuP.step (pc' := 30) (ls' := [some (.inr (.inr (some 84))), some (.inl l1), some (.inl l2), some (.inl l3), some (.inl l4)]) (st' := [.inr (.inr (some 104))]) (h1 := hp L s c e) rfl ?_
      refine RuP.step (pc' := 32) (ls' := [some (.inr (.inr (some 84))), some (.inl l1), some (.inl l2), some (.inl l3), some (.inl l4)]) (st' := [.inl l4, .inr (.inr (some 104))]) (h1 := hp L s c e) rfl ?_
      obtain ⟨b3, h⟩ := gd_some h
      refine RuP.ald (f := fun t => t == 0) (j := l4) (a := 104) rfl rfl b3.1 b3.2 ?_
      by_cases h4 : s 104 l4.toNat < 0
      · rw [if_pos h4] at h
        refine RuP.jy rfl h4 ?_
        exact bl_240_53 ih _ _ _ _ _ _ h
      · rw [if_neg h4] at h
        refine RuP.jn rfl h4 ?_
        refine RuP.step (pc' := 37) (ls' := [some (.inr (.inr (some 84))), some (.inl l1), some (.inl l2), some (.inl l3), some (.inl l4)]) (st' := [.inr (.inr (some 84))]) (h1 := hp L s c e) rfl ?_
        refine RuP.step (pc' := 38) (ls' := [some (.inr (.inr (some 84))), some (.inl l1), some (.inl l2), some (.inl l3), some (.inl l4)]) (st' := [.inr (.inr (some 84)), .inr (.inr (some 84))]) (h1 := hp L s c e) rfl ?_
        refine RuP.step (pc' := 41) (ls' := [some (.inr (.inr (some 84))), some (.inl l1), some (.inl l2), some (.inl l3), some (.inl l4)]) (st' := [.inr (.inr (some 104)), .inr (.inr (some 84))]) (h1 := hp L s c e) rfl ?_
        refine RuP.step (pc' := 43) (ls' := [some (.inr (.inr (some 84))), some (.inl l1), some (.inl l2), some (.inl l3), some (.inl l4)]) (st' := [.inl l4, .inr (.inr (some 104)), .inr (.inr (some 84))]) (h1 := hp L s c e) rfl ?_
        obtain ⟨b5, h⟩ := gd_some h
        refine RuP.ald (f := fun t => t == 0) (j := l4) (a := 104) rfl rfl b5.1 b5.2 ?_
        refine RuP.step (pc' := 45) (ls' := [some (.inr (.inr (some 84))), some (.inl l1), some (.inl l2), some (.inl l3), some (.inl l4)]) (st' := [.inl l3, .inl (s 104 l4.toNat), .inr (.inr (some 84))]) (h1 := hp L s c e) rfl ?_
        obtain ⟨q2, h1, h⟩ := bd_some h
        refine RuP.cI rfl ((ev_239 h1).up (by decide)) ?_
        by_cases h6 : q2 = 0
        · rw [if_pos h6] at h
          refine RuP.jy rfl h6 ?_
          exact bl_240_53 ih _ _ _ _ _ _ h
        · rw [if_neg h6] at h
          refine RuP.jn rfl h6 ?_
          refine RuP.step (pc' := 52) (ls' := [some (.inr (.inr (some 84))), some (.inl l1), some (.inl l2), some (.inl l3), some (.inl l4)]) (st' := [.inl 1]) (h1 := hp L s c e) rfl ?_
          cases h
          exact RuP.dI rfl
noncomputable def f_240 (x0 x1 x2 : Int) (s : Sg) : Option Int :=
  (gd (0 ≤ x0 ∧ x0 < 4100) (
  j_240_8 FU x0 x1 x2 (s 98 x0.toNat) s))
theorem ev_240 {L c : Nat} {e : Nat → Nat} {s : Sg} {x0 x1 x2 : Int} {q : Int} (h : f_240 x0 x1 x2 s = some q) : EvP 2 240 [.inr (.inr (some 84)), .inl x0, .inl x1, .inl x2] (hp L s c e) (oI L c e (q, s)) := by
  unfold f_240 at h
  refine EvP.of (μ := tb_m240) (ls := [some (.inr (.inr (some 84))), some (.inl x0), some (.inl x1), some (.inl x2), none]) rfl (Nat.le_of_ble_eq_true rfl) rfl ?_
  refine RuP.step (pc' := 1) (ls' := [some (.inr (.inr (some 84))), some (.inl x0), some (.inl x1), some (.inl x2), none]) (st' := [.inr (.inr (some 84))]) (h1 := hp L s c e) rfl ?_
  refine RuP.step (pc' := 4) (ls' := [some (.inr (.inr (some 84))), some (.inl x0), some (.inl x1), some (.inl x2), none]) (st' := [.inr (.inr (some 98))]) (h1 := hp L s c e) rfl ?_
  refine RuP.step (pc' := 5) (ls' := [some (.inr (.inr (some 84))), some (.inl x0), some (.inl x1), some (.inl x2), none]) (st' := [.inl x0, .inr (.inr (some 98))]) (h1 := hp L s c e) rfl ?_
  obtain ⟨b0, h⟩ := gd_some h
  refine RuP.ald (f := fun t => t == 0) (j := x0) (a := 98) rfl rfl b0.1 b0.2 ?_
  refine RuP.step (pc' := 8) (ls' := [some (.inr (.inr (some 84))), some (.inl x0), some (.inl x1), some (.inl x2), some (.inl (s 98 x0.toNat))]) (st' := []) (h1 := hp L s c e) rfl ?_
  exact bl_240_8 FU _ _ _ _ _ _ h
/-- MachineTextModel.isHex(I)Z -/
def f_251 (x0 : Int) (s : Sg) : Int :=
  (if ¬ (f_226 x0 s) = 0 then
    1
  else
    (if f_207 x0 97 102 s = 0 then
      0
    else
      1))
theorem ev_251 {L c : Nat} {e : Nat → Nat} {s : Sg} (x0 : Int) : EvP 3 251 [.inl x0] (hp L s c e) (oI L c e (f_251 x0 s, s)) := by
  have key : ∀ q, f_251 x0 s = q → RuP 2 tb_m251 0 [some (.inl x0)] [] (hp L s c e) (oI L c e (q, s)) := by
    intro q h
    unfold f_251 at h
    refine RuP.step (pc' := 1) (ls' := [some (.inl x0)]) (st' := [.inl x0]) (h1 := hp L s c e) rfl ?_
    refine RuP.cI rfl ((ev_226 x0).up (by decide)) ?_
    by_cases h0 : ¬ (f_226 x0 s) = 0
    · rw [if_pos h0] at h
      refine RuP.jy rfl h0 ?_
      refine RuP.step (pc' := 22) (ls' := [some (.inl x0)]) (st' := [.inl 1]) (h1 := hp L s c e) rfl ?_
      refine RuP.step (pc' := 26) (ls' := [some (.inl x0)]) (st' := [.inl 1]) (h1 := hp L s c e) rfl ?_
      subst h
      exact RuP.dI rfl
    · rw [if_neg h0] at h
      refine RuP.jn rfl h0 ?_
      refine RuP.step (pc' := 8) (ls' := [some (.inl x0)]) (st' := [.inl x0]) (h1 := hp L s c e) rfl ?_
      refine RuP.step (pc' := 9) (ls' := [some (.inl x0)]) (st' := [.inr (.inl x0)]) (h1 := hp L s c e) rfl ?_
      refine RuP.step (pc' := 12) (ls' := [some (.inl x0)]) (st' := [.inr (.inl 97), .inr (.inl x0)]) (h1 := hp L s c e) rfl ?_
      refine RuP.step (pc' := 15) (ls' := [some (.inl x0)]) (st' := [.inr (.inl 102), .inr (.inl 97), .inr (.inl x0)]) (h1 := hp L s c e) rfl ?_
      refine RuP.cI rfl (EvP.i ((ev_207 x0 97 102).up (by decide))) ?_
      by_cases h1 : f_207 x0 97 102 s = 0
      · rw [if_pos h1] at h
        refine RuP.jy rfl h1 ?_
        refine RuP.step (pc' := 26) (ls' := [some (.inl x0)]) (st' := [.inl 0]) (h1 := hp L s c e) rfl ?_
        subst h
        exact RuP.dI rfl
      · rw [if_neg h1] at h
        refine RuP.jn rfl h1 ?_
        refine RuP.step (pc' := 22) (ls' := [some (.inl x0)]) (st' := [.inl 1]) (h1 := hp L s c e) rfl ?_
        refine RuP.step (pc' := 26) (ls' := [some (.inl x0)]) (st' := [.inl 1]) (h1 := hp L s c e) rfl ?_
        subst h
        exact RuP.dI rfl
  exact EvP.of (μ := tb_m251) (ls := [some (.inl x0)]) rfl (Nat.le_of_ble_eq_true rfl) rfl (key _ rfl)
/-- MachineTextModel.openBody(Z)V -/
noncomputable def f_258 (x0 : Int) (s : Sg) : Option Sg :=
  (if s 84 6 ≤ 0 then
    (if s 84 43 < 80 then
      ((f_231 13 s).bind fun q1 =>
      (gd ((0 ≤ q1.2 84 43 ∧ q1.2 84 43 < 100) ∧ (x0 = 0 ∨ x0 = 1)) (
      (gd (0 ≤ q1.2 84 43 ∧ q1.2 84 43 < 100) (
      some (ax_u2 (ax_u2 (ax_u2 q1.2 114 ((q1.2 84 43).toNat) x0) 115 ((q1.2 84 43).toNat) (q1.2 84 46)) 84 43 (ax_w32 ((q1.2 84 43) + 1))))))))
    else
      (gd (0 ≤ s 84 18 ∧ s 84 18 < 8200) (
      ((some (f_227 3 (s 89 ((s 84 18).toNat)) s)).bind fun q2 =>
      some q2))))
  else
    some s)
theorem ev_258 {L c : Nat} {e : Nat → Nat} {s : Sg} {x0 : Int} {q : Sg} (h : f_258 x0 s = some q) : EvP 3 258 [.inr (.inr (some 84)), .inl x0] (hp L s c e) (oV L c e q) := by
  unfold f_258 at h
  refine EvP.of (μ := tb_m258) (ls := [some (.inr (.inr (some 84))), some (.inl x0)]) rfl (Nat.le_of_ble_eq_true rfl) rfl ?_
  refine RuP.step (pc' := 1) (ls' := [some (.inr (.inr (some 84))), some (.inl x0)]) (st' := [.inr (.inr (some 84))]) (h1 := hp L s c e) rfl ?_
  refine RuP.step (pc' := 4) (ls' := [some (.inr (.inr (some 84))), some (.inl x0)]) (st' := [.inl (s 84 6)]) (h1 := hp L s c e) rfl ?_
  by_cases h0 : s 84 6 ≤ 0
  · rw [if_pos h0] at h
    refine RuP.jy rfl h0 ?_
    refine RuP.step (pc' := 9) (ls' := [some (.inr (.inr (some 84))), some (.inl x0)]) (st' := [.inr (.inr (some 84))]) (h1 := hp L s c e) rfl ?_
    refine RuP.step (pc' := 12) (ls' := [some (.inr (.inr (some 84))), some (.inl x0)]) (st' := [.inl (s 84 43)]) (h1 := hp L s c e) rfl ?_
    refine RuP.step (pc' := 14) (ls' := [some (.inr (.inr (some 84))), some (.inl x0)]) (st' := [.inl 80, .inl (s 84 43)]) (h1 := hp L s c e) rfl ?_
    by_cases h1 : s 84 43 < 80
    · rw [if_pos h1] at h
      refine RuP.jy rfl h1 ?_
      refine RuP.step (pc' := 33) (ls' := [some (.inr (.inr (some 84))), some (.inl x0)]) (st' := [.inr (.inr (some 84))]) (h1 := hp L s c e) rfl ?_
      refine RuP.step (pc' := 35) (ls' := [some (.inr (.inr (some 84))), some (.inl x0)]) (st' := [.inl 13, .inr (.inr (some 84))]) (h1 := hp L s c e) rfl ?_
      obtain ⟨q1, h1, h⟩ := bd_some h
      refine RuP.cI rfl ((ev_231 h1).up (by decide)) ?_
      refine RuP.step (pc' := 39) (ls' := [some (.inr (.inr (some 84))), some (.inl x0)]) (st' := []) (h1 := hp L q1.2 c e) rfl ?_
      refine RuP.step (pc' := 40) (ls' := [some (.inr (.inr (some 84))), some (.inl x0)]) (st' := [.inr (.inr (some 84))]) (h1 := hp L q1.2 c e) rfl ?_
      refine RuP.step (pc' := 43) (ls' := [some (.inr (.inr (some 84))), some (.inl x0)]) (st' := [.inr (.inr (some 114))]) (h1 := hp L q1.2 c e) rfl ?_
      refine RuP.step (pc' := 44) (ls' := [some (.inr (.inr (some 84))), some (.inl x0)]) (st' := [.inr (.inr (some 84)), .inr (.inr (some 114))]) (h1 := hp L q1.2 c e) rfl ?_
      refine RuP.step (pc' := 47) (ls' := [some (.inr (.inr (some 84))), some (.inl x0)]) (st' := [.inl (q1.2 84 43), .inr (.inr (some 114))]) (h1 := hp L q1.2 c e) rfl ?_
      refine RuP.step (pc' := 48) (ls' := [some (.inr (.inr (some 84))), some (.inl x0)]) (st' := [.inl x0, .inl (q1.2 84 43), .inr (.inr (some 114))]) (h1 := hp L q1.2 c e) rfl ?_
      obtain ⟨b2, h⟩ := gd_some h
      refine RuP.ast (f := fun t => t == 1 || t == 3) (j := q1.2 84 43) (a := 114) rfl rfl (by decide) rfl (tk3 b2.2) b2.1.1 b2.1.2 ?_
      refine RuP.step (pc' := 50) (ls' := [some (.inr (.inr (some 84))), some (.inl x0)]) (st' := [.inr (.inr (some 84))]) (h1 := hp L (ax_u2 q1.2 114 ((q1.2 84 43).toNat) x0) c e) rfl ?_
      refine RuP.step (pc' := 53) (ls' := [some (.inr (.inr (some 84))), some (.inl x0)]) (st' := [.inr (.inr (some 115))]) (h1 := hp L (ax_u2 q1.2 114 ((q1.2 84 43).toNat) x0) c e) rfl ?_
      refine RuP.step (pc' := 54) (ls' := [some (.inr (.inr (some 84))), some (.inl x0)]) (st' := [.inr (.inr (some 84)), .inr (.inr (some 115))]) (h1 := hp L (ax_u2 q1.2 114 ((q1.2 84 43).toNat) x0) c e) rfl ?_
      refine RuP.step (pc' := 57) (ls' := [some (.inr (.inr (some 84))), some (.inl x0)]) (st' := [.inl (q1.2 84 43), .inr (.inr (some 115))]) (h1 := hp L (ax_u2 q1.2 114 ((q1.2 84 43).toNat) x0) c e) rfl ?_
      refine RuP.step (pc' := 58) (ls' := [some (.inr (.inr (some 84))), some (.inl x0)]) (st' := [.inr (.inr (some 84)), .inl (q1.2 84 43), .inr (.inr (some 115))]) (h1 := hp L (ax_u2 q1.2 114 ((q1.2 84 43).toNat) x0) c e) rfl ?_
      refine RuP.step (pc' := 61) (ls' := [some (.inr (.inr (some 84))), some (.inl x0)]) (st' := [.inl (q1.2 84 46), .inl (q1.2 84 43), .inr (.inr (some 115))]) (h1 := hp L (ax_u2 q1.2 114 ((q1.2 84 43).toNat) x0) c e) rfl ?_
      obtain ⟨b3, h⟩ := gd_some h
      refine RuP.ast (f := fun t => t == 0) (j := q1.2 84 43) (a := 115) rfl rfl (by decide) rfl rfl b3.1 b3.2 ?_
      refine RuP.step (pc' := 63) (ls' := [some (.inr (.inr (some 84))), some (.inl x0)]) (st' := [.inr (.inr (some 84))]) (h1 := hp L (ax_u2 (ax_u2 q1.2 114 ((q1.2 84 43).toNat) x0) 115 ((q1.2 84 43).toNat) (q1.2 84 46)) c e) rfl ?_
      refine RuP.step (pc' := 64) (ls' := [some (.inr (.inr (some 84))), some (.inl x0)]) (st' := [.inr (.inr (some 84)), .inr (.inr (some 84))]) (h1 := hp L (ax_u2 (ax_u2 q1.2 114 ((q1.2 84 43).toNat) x0) 115 ((q1.2 84 43).toNat) (q1.2 84 46)) c e) rfl ?_
      refine RuP.step (pc' := 67) (ls' := [some (.inr (.inr (some 84))), some (.inl x0)]) (st' := [.inl (q1.2 84 43), .inr (.inr (some 84))]) (h1 := hp L (ax_u2 (ax_u2 q1.2 114 ((q1.2 84 43).toNat) x0) 115 ((q1.2 84 43).toNat) (q1.2 84 46)) c e) rfl ?_
      refine RuP.step (pc' := 68) (ls' := [some (.inr (.inr (some 84))), some (.inl x0)]) (st' := [.inl 1, .inl (q1.2 84 43), .inr (.inr (some 84))]) (h1 := hp L (ax_u2 (ax_u2 q1.2 114 ((q1.2 84 43).toNat) x0) 115 ((q1.2 84 43).toNat) (q1.2 84 46)) c e) rfl ?_
      refine RuP.step (pc' := 69) (ls' := [some (.inr (.inr (some 84))), some (.inl x0)]) (st' := [.inl (ax_w32 ((q1.2 84 43) + 1)), .inr (.inr (some 84))]) (h1 := hp L (ax_u2 (ax_u2 q1.2 114 ((q1.2 84 43).toNat) x0) 115 ((q1.2 84 43).toNat) (q1.2 84 46)) c e) rfl ?_
      refine RuP.step (pc' := 72) (ls' := [some (.inr (.inr (some 84))), some (.inl x0)]) (st' := []) (h1 := hp L (ax_u2 (ax_u2 (ax_u2 q1.2 114 ((q1.2 84 43).toNat) x0) 115 ((q1.2 84 43).toNat) (q1.2 84 46)) 84 43 (ax_w32 ((q1.2 84 43) + 1))) c e) rfl ?_
      cases h
      exact RuP.dV rfl
    · rw [if_neg h1] at h
      refine RuP.jn rfl h1 ?_
      refine RuP.step (pc' := 18) (ls' := [some (.inr (.inr (some 84))), some (.inl x0)]) (st' := [.inr (.inr (some 84))]) (h1 := hp L s c e) rfl ?_
      refine RuP.step (pc' := 19) (ls' := [some (.inr (.inr (some 84))), some (.inl x0)]) (st' := [.inl 3, .inr (.inr (some 84))]) (h1 := hp L s c e) rfl ?_
      refine RuP.step (pc' := 20) (ls' := [some (.inr (.inr (some 84))), some (.inl x0)]) (st' := [.inr (.inr (some 84)), .inl 3, .inr (.inr (some 84))]) (h1 := hp L s c e) rfl ?_
      refine RuP.step (pc' := 23) (ls' := [some (.inr (.inr (some 84))), some (.inl x0)]) (st' := [.inr (.inr (some 89)), .inl 3, .inr (.inr (some 84))]) (h1 := hp L s c e) rfl ?_
      refine RuP.step (pc' := 24) (ls' := [some (.inr (.inr (some 84))), some (.inl x0)]) (st' := [.inr (.inr (some 84)), .inr (.inr (some 89)), .inl 3, .inr (.inr (some 84))]) (h1 := hp L s c e) rfl ?_
      refine RuP.step (pc' := 27) (ls' := [some (.inr (.inr (some 84))), some (.inl x0)]) (st' := [.inl (s 84 18), .inr (.inr (some 89)), .inl 3, .inr (.inr (some 84))]) (h1 := hp L s c e) rfl ?_
      obtain ⟨b4, h⟩ := gd_some h
      refine RuP.ald (f := fun t => t == 0) (j := s 84 18) (a := 89) rfl rfl b4.1 b4.2 ?_
      obtain ⟨q2, h1, h⟩ := bd_some h
      refine RuP.cVe h1 rfl (EvP.v ((ev_227 3 (s 89 ((s 84 18).toNat))).up (by decide))) ?_
      cases h
      exact RuP.dV rfl
  · rw [if_neg h0] at h
    refine RuP.jn rfl h0 ?_
    cases h
    exact RuP.dV rfl
/-- MachineTextModel.primary()Z -/
noncomputable def j_260_37 (l1 : Int) (s : Sg) : Option (Int × Sg) :=
  (gd (0 ≤ l1 ∧ l1 < 8200) (
  (gd (0 ≤ s 84 63 ∧ s 84 63 < 8200) (
  (gd (0 ≤ s 84 63 ∧ s 84 63 < 8200) (
  some (1, (ax_u2 (ax_u2 (ax_u2 (ax_u2 s 129 ((s 84 63).toNat) ((if ¬ (s 88 l1.toNat) = 25 then 9 else 8) : Int)) 130 ((s 84 63).toNat) l1) 84 63 (ax_w32 ((s 84 63) + 1))) 84 70 1))))))))
set_option maxRecDepth 20000 in
theorem bl_260_37 {L c : Nat} {e : Nat → Nat} : ∀ (d2 : Option ax_V) (l1 : Int) (s : Sg) (q : Int × Sg), j_260_37 l1 s = some q → RuP 2 tb_m260 37 [some (.inr (.inr (some 84))), some (.inl l1), d2] [] (hp L s c e) (oI L c e q) := by
  intro d2 l1 s q h
  unfold j_260_37 at h
  refine RuP.step (pc' := 38) (ls' := [some (.inr (.inr (some 84))), some (.inl l1), d2]) (st' := [.inr (.inr (some 84))]) (h1 := hp L s c e) rfl ?_
  refine RuP.step (pc' := 41) (ls' := [some (.inr (.inr (some 84))), some (.inl l1), d2]) (st' := [.inr (.inr (some 129))]) (h1 := hp L s c e) rfl ?_
  refine RuP.step (pc' := 42) (ls' := [some (.inr (.inr (some 84))), some (.inl l1), d2]) (st' := [.inr (.inr (some 84)), .inr (.inr (some 129))]) (h1 := hp L s c e) rfl ?_
  refine RuP.step (pc' := 45) (ls' := [some (.inr (.inr (some 84))), some (.inl l1), d2]) (st' := [.inl (s 84 63), .inr (.inr (some 129))]) (h1 := hp L s c e) rfl ?_
  refine RuP.step (pc' := 46) (ls' := [some (.inr (.inr (some 84))), some (.inl l1), d2]) (st' := [.inr (.inr (some 84)), .inl (s 84 63), .inr (.inr (some 129))]) (h1 := hp L s c e) rfl ?_
  refine RuP.step (pc' := 49) (ls' := [some (.inr (.inr (some 84))), some (.inl l1), d2]) (st' := [.inr (.inr (some 88)), .inl (s 84 63), .inr (.inr (some 129))]) (h1 := hp L s c e) rfl ?_
  refine RuP.step (pc' := 50) (ls' := [some (.inr (.inr (some 84))), some (.inl l1), d2]) (st' := [.inl l1, .inr (.inr (some 88)), .inl (s 84 63), .inr (.inr (some 129))]) (h1 := hp L s c e) rfl ?_
  obtain ⟨b0, h⟩ := gd_some h
  refine RuP.ald (f := fun t => t == 0) (j := l1) (a := 88) rfl rfl b0.1 b0.2 ?_
  refine RuP.step (pc' := 53) (ls' := [some (.inr (.inr (some 84))), some (.inl l1), d2]) (st' := [.inl 25, .inl (s 88 l1.toNat), .inl (s 84 63), .inr (.inr (some 129))]) (h1 := hp L s c e) rfl ?_
  have J2 : ∀ v1_0 : Int, v1_0 = ((if ¬ (s 88 l1.toNat) = 25 then 9 else 8) : Int) → RuP 2 tb_m260 63 [some (.inr (.inr (some 84))), some (.inl l1), d2] [.inl v1_0, .inl (s 84 63), .inr (.inr (some 129))] (hp L s c e) (oI L c e q) := by
    intro v1_0 ev1_0
    subst ev1_0
    obtain ⟨b2, h⟩ := gd_some h
    refine RuP.ast (f := fun t => t == 0) (j := s 84 63) (a := 129) rfl rfl (by decide) rfl rfl b2.1 b2.2 ?_
    refine RuP.step (pc' := 65) (ls' := [some (.inr (.inr (some 84))), some (.inl l1), d2]) (st' := [.inr (.inr (some 84))]) (h1 := hp L (ax_u2 s 129 ((s 84 63).toNat) ((if ¬ (s 88 l1.toNat) = 25 then 9 else 8) : Int)) c e) rfl ?_
    refine RuP.step (pc' := 68) (ls' := [some (.inr (.inr (some 84))), some (.inl l1), d2]) (st' := [.inr (.inr (some 130))]) (h1 := hp L (ax_u2 s 129 ((s 84 63).toNat) ((if ¬ (s 88 l1.toNat) = 25 then 9 else 8) : Int)) c e) rfl ?_
    refine RuP.step (pc' := 69) (ls' := [some (.inr (.inr (some 84))), some (.inl l1), d2]) (st' := [.inr (.inr (some 84)), .inr (.inr (some 130))]) (h1 := hp L (ax_u2 s 129 ((s 84 63).toNat) ((if ¬ (s 88 l1.toNat) = 25 then 9 else 8) : Int)) c e) rfl ?_
    refine RuP.step (pc' := 72) (ls' := [some (.inr (.inr (some 84))), some (.inl l1), d2]) (st' := [.inl (s 84 63), .inr (.inr (some 130))]) (h1 := hp L (ax_u2 s 129 ((s 84 63).toNat) ((if ¬ (s 88 l1.toNat) = 25 then 9 else 8) : Int)) c e) rfl ?_
    refine RuP.step (pc' := 73) (ls' := [some (.inr (.inr (some 84))), some (.inl l1), d2]) (st' := [.inl l1, .inl (s 84 63), .inr (.inr (some 130))]) (h1 := hp L (ax_u2 s 129 ((s 84 63).toNat) ((if ¬ (s 88 l1.toNat) = 25 then 9 else 8) : Int)) c e) rfl ?_
    obtain ⟨b3, h⟩ := gd_some h
    refine RuP.ast (f := fun t => t == 0) (j := s 84 63) (a := 130) rfl rfl (by decide) rfl rfl b3.1 b3.2 ?_
    refine RuP.step (pc' := 75) (ls' := [some (.inr (.inr (some 84))), some (.inl l1), d2]) (st' := [.inr (.inr (some 84))]) (h1 := hp L (ax_u2 (ax_u2 s 129 ((s 84 63).toNat) ((if ¬ (s 88 l1.toNat) = 25 then 9 else 8) : Int)) 130 ((s 84 63).toNat) l1) c e) rfl ?_
    refine RuP.step (pc' := 76) (ls' := [some (.inr (.inr (some 84))), some (.inl l1), d2]) (st' := [.inr (.inr (some 84)), .inr (.inr (some 84))]) (h1 := hp L (ax_u2 (ax_u2 s 129 ((s 84 63).toNat) ((if ¬ (s 88 l1.toNat) = 25 then 9 else 8) : Int)) 130 ((s 84 63).toNat) l1) c e) rfl ?_
    refine RuP.step (pc' := 79) (ls' := [some (.inr (.inr (some 84))), some (.inl l1), d2]) (st' := [.inl (s 84 63), .inr (.inr (some 84))]) (h1 := hp L (ax_u2 (ax_u2 s 129 ((s 84 63).toNat) ((if ¬ (s 88 l1.toNat) = 25 then 9 else 8) : Int)) 130 ((s 84 63).toNat) l1) c e) rfl ?_
    refine RuP.step (pc' := 80) (ls' := [some (.inr (.inr (some 84))), some (.inl l1), d2]) (st' := [.inl 1, .inl (s 84 63), .inr (.inr (some 84))]) (h1 := hp L (ax_u2 (ax_u2 s 129 ((s 84 63).toNat) ((if ¬ (s 88 l1.toNat) = 25 then 9 else 8) : Int)) 130 ((s 84 63).toNat) l1) c e) rfl ?_
    refine RuP.step (pc' := 81) (ls' := [some (.inr (.inr (some 84))), some (.inl l1), d2]) (st' := [.inl (ax_w32 ((s 84 63) + 1)), .inr (.inr (some 84))]) (h1 := hp L (ax_u2 (ax_u2 s 129 ((s 84 63).toNat) ((if ¬ (s 88 l1.toNat) = 25 then 9 else 8) : Int)) 130 ((s 84 63).toNat) l1) c e) rfl ?_
    refine RuP.step (pc' := 84) (ls' := [some (.inr (.inr (some 84))), some (.inl l1), d2]) (st' := []) (h1 := hp L (ax_u2 (ax_u2 (ax_u2 s 129 ((s 84 63).toNat) ((if ¬ (s 88 l1.toNat) = 25 then 9 else 8) : Int)) 130 ((s 84 63).toNat) l1) 84 63 (ax_w32 ((s 84 63) + 1))) c e) rfl ?_
    refine RuP.step (pc' := 85) (ls' := [some (.inr (.inr (some 84))), some (.inl l1), d2]) (st' := [.inr (.inr (some 84))]) (h1 := hp L (ax_u2 (ax_u2 (ax_u2 s 129 ((s 84 63).toNat) ((if ¬ (s 88 l1.toNat) = 25 then 9 else 8) : Int)) 130 ((s 84 63).toNat) l1) 84 63 (ax_w32 ((s 84 63) + 1))) c e) rfl ?_
    refine RuP.step (pc' := 86) (ls' := [some (.inr (.inr (some 84))), some (.inl l1), d2]) (st' := [.inl 1, .inr (.inr (some 84))]) (h1 := hp L (ax_u2 (ax_u2 (ax_u2 s 129 ((s 84 63).toNat) ((if ¬ (s 88 l1.toNat) = 25 then 9 else 8) : Int)) 130 ((s 84 63).toNat) l1) 84 63 (ax_w32 ((s 84 63) + 1))) c e) rfl ?_
    refine RuP.step (pc' := 89) (ls' := [some (.inr (.inr (some 84))), some (.inl l1), d2]) (st' := []) (h1 := hp L (ax_u2 (ax_u2 (ax_u2 (ax_u2 s 129 ((s 84 63).toNat) ((if ¬ (s 88 l1.toNat) = 25 then 9 else 8) : Int)) 130 ((s 84 63).toNat) l1) 84 63 (ax_w32 ((s 84 63) + 1))) 84 70 1) c e) rfl ?_
    refine RuP.step (pc' := 90) (ls' := [some (.inr (.inr (some 84))), some (.inl l1), d2]) (st' := [.inl 1]) (h1 := hp L (ax_u2 (ax_u2 (ax_u2 (ax_u2 s 129 ((s 84 63).toNat) ((if ¬ (s 88 l1.toNat) = 25 then 9 else 8) : Int)) 130 ((s 84 63).toNat) l1) 84 63 (ax_w32 ((s 84 63) + 1))) 84 70 1) c e) rfl ?_
    cases h
    exact RuP.dI rfl
  by_cases h4 : ¬ (s 88 l1.toNat) = 25
  · refine RuP.jy rfl h4 ?_
    refine RuP.step (pc' := 63) (ls' := [some (.inr (.inr (some 84))), some (.inl l1), d2]) (st' := [.inl 9, .inl (s 84 63), .inr (.inr (some 129))]) (h1 := hp L s c e) rfl ?_
    exact J2 _ (by simp only [if_pos h4])
  · refine RuP.jn rfl h4 ?_
    refine RuP.step (pc' := 58) (ls' := [some (.inr (.inr (some 84))), some (.inl l1), d2]) (st' := [.inl 8, .inl (s 84 63), .inr (.inr (some 129))]) (h1 := hp L s c e) rfl ?_
    refine RuP.step (pc' := 63) (ls' := [some (.inr (.inr (some 84))), some (.inl l1), d2]) (st' := [.inl 8, .inl (s 84 63), .inr (.inr (some 129))]) (h1 := hp L s c e) rfl ?_
    exact J2 _ (by simp only [if_neg h4])
noncomputable def j_260_172 (l1 : Int) (s : Sg) : Option (Int × Sg) :=
  ((f_231 11 s).bind fun q6 =>
  (gd (0 ≤ l1 ∧ l1 < 8200) (
  (gd (g_262 ((if ¬ (q6.2 88 l1.toNat) = 41 then 4 else 5) : Int) l1 q6.2) (
  ((some (f_262 ((if ¬ (q6.2 88 l1.toNat) = 41 then 4 else 5) : Int) l1 q6.2)).bind fun q7 =>
  some (1, q7)))))))
set_option maxRecDepth 20000 in
theorem bl_260_172 {L c : Nat} {e : Nat → Nat} : ∀ (d2 : Option ax_V) (l1 : Int) (s : Sg) (q : Int × Sg), j_260_172 l1 s = some q → RuP 2 tb_m260 172 [some (.inr (.inr (some 84))), some (.inl l1), d2] [] (hp L s c e) (oI L c e q) := by
  intro d2 l1 s q h
  unfold j_260_172 at h
  refine RuP.step (pc' := 173) (ls' := [some (.inr (.inr (some 84))), some (.inl l1), d2]) (st' := [.inr (.inr (some 84))]) (h1 := hp L s c e) rfl ?_
  refine RuP.step (pc' := 175) (ls' := [some (.inr (.inr (some 84))), some (.inl l1), d2]) (st' := [.inl 11, .inr (.inr (some 84))]) (h1 := hp L s c e) rfl ?_
  obtain ⟨q6, h1, h⟩ := bd_some h
  refine RuP.cI rfl ((ev_231 h1).up (by decide)) ?_
  refine RuP.step (pc' := 179) (ls' := [some (.inr (.inr (some 84))), some (.inl l1), d2]) (st' := []) (h1 := hp L q6.2 c e) rfl ?_
  refine RuP.step (pc' := 180) (ls' := [some (.inr (.inr (some 84))), some (.inl l1), d2]) (st' := [.inr (.inr (some 84))]) (h1 := hp L q6.2 c e) rfl ?_
  refine RuP.step (pc' := 181) (ls' := [some (.inr (.inr (some 84))), some (.inl l1), d2]) (st' := [.inr (.inr (some 84)), .inr (.inr (some 84))]) (h1 := hp L q6.2 c e) rfl ?_
  refine RuP.step (pc' := 184) (ls' := [some (.inr (.inr (some 84))), some (.inl l1), d2]) (st' := [.inr (.inr (some 88)), .inr (.inr (some 84))]) (h1 := hp L q6.2 c e) rfl ?_
  refine RuP.step (pc' := 185) (ls' := [some (.inr (.inr (some 84))), some (.inl l1), d2]) (st' := [.inl l1, .inr (.inr (some 88)), .inr (.inr (some 84))]) (h1 := hp L q6.2 c e) rfl ?_
  obtain ⟨b0, h⟩ := gd_some h
  refine RuP.ald (f := fun t => t == 0) (j := l1) (a := 88) rfl rfl b0.1 b0.2 ?_
  refine RuP.step (pc' := 188) (ls' := [some (.inr (.inr (some 84))), some (.inl l1), d2]) (st' := [.inl 41, .inl (q6.2 88 l1.toNat), .inr (.inr (some 84))]) (h1 := hp L q6.2 c e) rfl ?_
  have J2 : ∀ v1_0 : Int, v1_0 = ((if ¬ (q6.2 88 l1.toNat) = 41 then 4 else 5) : Int) → RuP 2 tb_m260 196 [some (.inr (.inr (some 84))), some (.inl l1), d2] [.inl v1_0, .inr (.inr (some 84))] (hp L q6.2 c e) (oI L c e q) := by
    intro v1_0 ev1_0
    subst ev1_0
    refine RuP.step (pc' := 197) (ls' := [some (.inr (.inr (some 84))), some (.inl l1), d2]) (st' := [.inl l1, .inl ((if ¬ (q6.2 88 l1.toNat) = 41 then 4 else 5) : Int), .inr (.inr (some 84))]) (h1 := hp L q6.2 c e) rfl ?_
    obtain ⟨b2, h⟩ := gd_some h
    obtain ⟨q7, h1, h⟩ := bd_some h
    refine RuP.cVe h1 rfl (EvP.v ((ev_262 ((if ¬ (q6.2 88 l1.toNat) = 41 then 4 else 5) : Int) l1 b2).up (by decide))) ?_
    refine RuP.step (pc' := 201) (ls' := [some (.inr (.inr (some 84))), some (.inl l1), d2]) (st' := [.inl 1]) (h1 := hp L q7 c e) rfl ?_
    cases h
    exact RuP.dI rfl
  by_cases h3 : ¬ (q6.2 88 l1.toNat) = 41
  · refine RuP.jy rfl h3 ?_
    refine RuP.step (pc' := 196) (ls' := [some (.inr (.inr (some 84))), some (.inl l1), d2]) (st' := [.inl 4, .inr (.inr (some 84))]) (h1 := hp L q6.2 c e) rfl ?_
    exact J2 _ (by simp only [if_pos h3])
  · refine RuP.jn rfl h3 ?_
    refine RuP.step (pc' := 192) (ls' := [some (.inr (.inr (some 84))), some (.inl l1), d2]) (st' := [.inl 5, .inr (.inr (some 84))]) (h1 := hp L q6.2 c e) rfl ?_
    refine RuP.step (pc' := 196) (ls' := [some (.inr (.inr (some 84))), some (.inl l1), d2]) (st' := [.inl 5, .inr (.inr (some 84))]) (h1 := hp L q6.2 c e) rfl ?_
    exact J2 _ (by simp only [if_neg h3])
noncomputable def f_260 (s : Sg) : Option (Int × Sg) :=
  (if s 84 6 ≤ 0 then
    (gd (g_252 25 (ax_u2 s 84 70 0)) (
    ((some (f_252 25 (ax_u2 s 84 70 0))).bind fun q1 =>
    (if ¬ q1.1 = 0 then
      j_260_37 (s 84 18) q1.2
    else
      (gd (g_252 20 q1.2) (
      ((some (f_252 20 q1.2)).bind fun q2 =>
      (if q2.1 = 0 then
        (gd (g_252 11 q2.2) (
        ((some (f_252 11 q2.2)).bind fun q3 =>
        (if q3.1 = 0 then
          (gd (g_252 2 q3.2) (
          ((some (f_252 2 q3.2)).bind fun q4 =>
          (if q4.1 = 0 then
            (gd (g_252 39 q4.2) (
            ((some (f_252 39 q4.2)).bind fun q5 =>
            (if ¬ q5.1 = 0 then
              j_260_172 (s 84 18) q5.2
            else
              (gd (g_252 40 q5.2) (
              ((some (f_252 40 q5.2)).bind fun q8 =>
              (if ¬ q8.1 = 0 then
                j_260_172 (s 84 18) q8.2
              else
                (gd (g_252 41 q8.2) (
                ((some (f_252 41 q8.2)).bind fun q9 =>
                (if q9.1 = 0 then
                  ((f_231 1 q9.2).bind fun q10 =>
                  (if q10.2 84 6 ≤ 0 then
                    (gd (g_252 15 q10.2) (
                    ((some (f_252 15 q10.2)).bind fun q11 =>
                    (if q11.1 = 0 then
                      (gd (g_252 11 q11.2) (
                      ((some (f_252 11 q11.2)).bind fun q12 =>
                      (if q12.1 = 0 then
                        (gd (g_263 1 (s 84 18) (s 84 18) (-1) q12.2) (
                        ((some (f_263 1 (s 84 18) (s 84 18) (-1) q12.2)).bind fun q13 =>
                        (gd (g_264 q13.1 (s 84 18) (-1) q13.2) (
                        ((some (f_264 q13.1 (s 84 18) (-1) q13.2)).bind fun q14 =>
                        some (0, q14)))))))
                      else
                        (gd (g_252 12 q12.2) (
                        ((some (f_252 12 q12.2)).bind fun q15 =>
                        (if ¬ q15.1 = 0 then
                          (gd (g_263 3 (s 84 18) (s 84 18) (-1) q15.2) (
                          ((some (f_263 3 (s 84 18) (s 84 18) (-1) q15.2)).bind fun q16 =>
                          (gd (g_264 q16.1 (s 84 18) (-1) q16.2) (
                          ((some (f_264 q16.1 (s 84 18) (-1) q16.2)).bind fun q17 =>
                          some (0, q17)))))))
                        else
                          (gd (g_262 3 (s 84 18) q15.2) (
                          ((some (f_262 3 (s 84 18) q15.2)).bind fun q18 =>
                          some (1, q18))))))))))))
                    else
                      (gd (g_262 2 (s 84 18) q11.2) (
                      ((some (f_262 2 (s 84 18) q11.2)).bind fun q19 =>
                      some (1, q19))))))))
                  else
                    some (0, q10.2)))
                else
                  j_260_172 (s 84 18) q9.2))))))))))))
          else
            ((f_231 17 q4.2).bind fun q20 =>
            ((f_231 2 q20.2).bind fun q21 =>
            (gd (g_263 0 (s 84 18) (s 84 18) q21.1 q21.2) (
            ((some (f_263 0 (s 84 18) (s 84 18) q21.1 q21.2)).bind fun q22 =>
            (gd (g_264 q22.1 (s 84 18) (-1) q22.2) (
            ((some (f_264 q22.1 (s 84 18) (-1) q22.2)).bind fun q23 =>
            some (0, q23)))))))))))))
        else
          (gd (g_262 1 (s 84 18) q3.2) (
          ((some (f_262 1 (s 84 18) q3.2)).bind fun q24 =>
          some (1, q24))))))))
      else
        j_260_37 (s 84 18) q2.2))))))))
  else
    some (0, s))
set_option maxRecDepth 20000 in
theorem ev_260 {L c : Nat} {e : Nat → Nat} {s : Sg} {q : Int × Sg} (h : f_260 s = some q) : EvP 3 260 [.inr (.inr (some 84))] (hp L s c e) (oI L c e q) := by
  unfold f_260 at h
  refine EvP.of (μ := tb_m260) (ls := [some (.inr (.inr (some 84))), none, none]) rfl (Nat.le_of_ble_eq_true rfl) rfl ?_
  refine RuP.step (pc' := 1) (ls' := [some (.inr (.inr (some 84))), none, none]) (st' := [.inr (.inr (some 84))]) (h1 := hp L s c e) rfl ?_
  refine RuP.step (pc' := 4) (ls' := [some (.inr (.inr (some 84))), none, none]) (st' := [.inl (s 84 6)]) (h1 := hp L s c e) rfl ?_
  by_cases h0 : s 84 6 ≤ 0
  · rw [if_pos h0] at h
    refine RuP.jy rfl h0 ?_
    refine RuP.step (pc' := 10) (ls' := [some (.inr (.inr (some 84))), none, none]) (st' := [.inr (.inr (some 84))]) (h1 := hp L s c e) rfl ?_
    refine RuP.step (pc' := 13) (ls' := [some (.inr (.inr (some 84))), none, none]) (st' := [.inl (s 84 18)]) (h1 := hp L s c e) rfl ?_
    refine RuP.step (pc' := 14) (ls' := [some (.inr (.inr (some 84))), some (.inl (s 84 18)), none]) (st' := []) (h1 := hp L s c e) rfl ?_
    refine RuP.step (pc' := 15) (ls' := [some (.inr (.inr (some 84))), some (.inl (s 84 18)), none]) (st' := [.inr (.inr (some 84))]) (h1 := hp L s c e) rfl ?_
    refine RuP.step (pc' := 16) (ls' := [some (.inr (.inr (some 84))), some (.inl (s 84 18)), none]) (st' := [.inl 0, .inr (.inr (some 84))]) (h1 := hp L s c e) rfl ?_
    refine RuP.step (pc' := 19) (ls' := [some (.inr (.inr (some 84))), some (.inl (s 84 18)), none]) (st' := []) (h1 := hp L (ax_u2 s 84 70 0) c e) rfl ?_
    refine RuP.step (pc' := 20) (ls' := [some (.inr (.inr (some 84))), some (.inl (s 84 18)), none]) (st' := [.inr (.inr (some 84))]) (h1 := hp L (ax_u2 s 84 70 0) c e) rfl ?_
    refine RuP.step (pc' := 22) (ls' := [some (.inr (.inr (some 84))), some (.inl (s 84 18)), none]) (st' := [.inl 25, .inr (.inr (some 84))]) (h1 := hp L (ax_u2 s 84 70 0) c e) rfl ?_
    obtain ⟨b1, h⟩ := gd_some h
    obtain ⟨q1, h1, h⟩ := bd_some h
    refine RuP.cIe h1 rfl (EvP.ip ((ev_252 25 b1).up (by decide))) ?_
    by_cases h2 : ¬ q1.1 = 0
    · rw [if_pos h2] at h
      refine RuP.jy rfl h2 ?_
      exact bl_260_37 _ _ _ _ h
    · rw [if_neg h2] at h
      refine RuP.jn rfl h2 ?_
      refine RuP.step (pc' := 29) (ls' := [some (.inr (.inr (some 84))), some (.inl (s 84 18)), none]) (st' := [.inr (.inr (some 84))]) (h1 := hp L q1.2 c e) rfl ?_
      refine RuP.step (pc' := 31) (ls' := [some (.inr (.inr (some 84))), some (.inl (s 84 18)), none]) (st' := [.inl 20, .inr (.inr (some 84))]) (h1 := hp L q1.2 c e) rfl ?_
      obtain ⟨b3, h⟩ := gd_some h
      obtain ⟨q2, h1, h⟩ := bd_some h
      refine RuP.cIe h1 rfl (EvP.ip ((ev_252 20 b3).up (by decide))) ?_
      by_cases h4 : q2.1 = 0
      · rw [if_pos h4] at h
        refine RuP.jy rfl h4 ?_
        refine RuP.step (pc' := 92) (ls' := [some (.inr (.inr (some 84))), some (.inl (s 84 18)), none]) (st' := [.inr (.inr (some 84))]) (h1 := hp L q2.2 c e) rfl ?_
        refine RuP.step (pc' := 94) (ls' := [some (.inr (.inr (some 84))), some (.inl (s 84 18)), none]) (st' := [.inl 11, .inr (.inr (some 84))]) (h1 := hp L q2.2 c e) rfl ?_
        obtain ⟨b5, h⟩ := gd_some h
        obtain ⟨q3, h1, h⟩ := bd_some h
        refine RuP.cIe h1 rfl (EvP.ip ((ev_252 11 b5).up (by decide))) ?_
        by_cases h6 : q3.1 = 0
        · rw [if_pos h6] at h
          refine RuP.jy rfl h6 ?_
          refine RuP.step (pc' := 109) (ls' := [some (.inr (.inr (some 84))), some (.inl (s 84 18)), none]) (st' := [.inr (.inr (some 84))]) (h1 := hp L q3.2 c e) rfl ?_
          refine RuP.step (pc' := 110) (ls' := [some (.inr (.inr (some 84))), some (.inl (s 84 18)), none]) (st' := [.inl 2, .inr (.inr (some 84))]) (h1 := hp L q3.2 c e) rfl ?_
          obtain ⟨b7, h⟩ := gd_some h
          obtain ⟨q4, h1, h⟩ := bd_some h
          refine RuP.cIe h1 rfl (EvP.ip ((ev_252 2 b7).up (by decide))) ?_
          by_cases h8 : q4.1 = 0
          · rw [if_pos h8] at h
            refine RuP.jy rfl h8 ?_
            refine RuP.step (pc' := 146) (ls' := [some (.inr (.inr (some 84))), some (.inl (s 84 18)), none]) (st' := [.inr (.inr (some 84))]) (h1 := hp L q4.2 c e) rfl ?_
            refine RuP.step (pc' := 148) (ls' := [some (.inr (.inr (some 84))), some (.inl (s 84 18)), none]) (st' := [.inl 39, .inr (.inr (some 84))]) (h1 := hp L q4.2 c e) rfl ?_
            obtain ⟨b9, h⟩ := gd_some h
            obtain ⟨q5, h1, h⟩ := bd_some h
            refine RuP.cIe h1 rfl (EvP.ip ((ev_252 39 b9).up (by decide))) ?_
            by_cases h10 : ¬ q5.1 = 0
            · rw [if_pos h10] at h
              refine RuP.jy rfl h10 ?_
              exact bl_260_172 _ _ _ _ h
            · rw [if_neg h10] at h
              refine RuP.jn rfl h10 ?_
              refine RuP.step (pc' := 155) (ls' := [some (.inr (.inr (some 84))), some (.inl (s 84 18)), none]) (st' := [.inr (.inr (some 84))]) (h1 := hp L q5.2 c e) rfl ?_
              refine RuP.step (pc' := 157) (ls' := [some (.inr (.inr (some 84))), some (.inl (s 84 18)), none]) (st' := [.inl 40, .inr (.inr (some 84))]) (h1 := hp L q5.2 c e) rfl ?_
              obtain ⟨b11, h⟩ := gd_some h
              obtain ⟨q8, h1, h⟩ := bd_some h
              refine RuP.cIe h1 rfl (EvP.ip ((ev_252 40 b11).up (by decide))) ?_
              by_cases h12 : ¬ q8.1 = 0
              · rw [if_pos h12] at h
                refine RuP.jy rfl h12 ?_
                exact bl_260_172 _ _ _ _ h
              · rw [if_neg h12] at h
                refine RuP.jn rfl h12 ?_
                refine RuP.step (pc' := 164) (ls' := [some (.inr (.inr (some 84))), some (.inl (s 84 18)), none]) (st' := [.inr (.inr (some 84))]) (h1 := hp L q8.2 c e) rfl ?_
                refine RuP.step (pc' := 166) (ls' := [some (.inr (.inr (some 84))), some (.inl (s 84 18)), none]) (st' := [.inl 41, .inr (.inr (some 84))]) (h1 := hp L q8.2 c e) rfl ?_
                obtain ⟨b13, h⟩ := gd_some h
                obtain ⟨q9, h1, h⟩ := bd_some h
                refine RuP.cIe h1 rfl (EvP.ip ((ev_252 41 b13).up (by decide))) ?_
                by_cases h14 : q9.1 = 0
                · rw [if_pos h14] at h
                  refine RuP.jy rfl h14 ?_
                  refine RuP.step (pc' := 203) (ls' := [some (.inr (.inr (some 84))), some (.inl (s 84 18)), none]) (st' := [.inr (.inr (some 84))]) (h1 := hp L q9.2 c e) rfl ?_
                  refine RuP.step (pc' := 204) (ls' := [some (.inr (.inr (some 84))), some (.inl (s 84 18)), none]) (st' := [.inl 1, .inr (.inr (some 84))]) (h1 := hp L q9.2 c e) rfl ?_
                  obtain ⟨q10, h1, h⟩ := bd_some h
                  refine RuP.cI rfl ((ev_231 h1).up (by decide)) ?_
                  refine RuP.step (pc' := 208) (ls' := [some (.inr (.inr (some 84))), some (.inl (s 84 18)), none]) (st' := []) (h1 := hp L q10.2 c e) rfl ?_
                  refine RuP.step (pc' := 209) (ls' := [some (.inr (.inr (some 84))), some (.inl (s 84 18)), none]) (st' := [.inr (.inr (some 84))]) (h1 := hp L q10.2 c e) rfl ?_
                  refine RuP.step (pc' := 212) (ls' := [some (.inr (.inr (some 84))), some (.inl (s 84 18)), none]) (st' := [.inl (q10.2 84 6)]) (h1 := hp L q10.2 c e) rfl ?_
                  by_cases h15 : q10.2 84 6 ≤ 0
                  · rw [if_pos h15] at h
                    refine RuP.jy rfl h15 ?_
                    refine RuP.step (pc' := 218) (ls' := [some (.inr (.inr (some 84))), some (.inl (s 84 18)), none]) (st' := [.inr (.inr (some 84))]) (h1 := hp L q10.2 c e) rfl ?_
                    refine RuP.step (pc' := 220) (ls' := [some (.inr (.inr (some 84))), some (.inl (s 84 18)), none]) (st' := [.inl 15, .inr (.inr (some 84))]) (h1 := hp L q10.2 c e) rfl ?_
                    obtain ⟨b16, h⟩ := gd_some h
                    obtain ⟨q11, h1, h⟩ := bd_some h
                    refine RuP.cIe h1 rfl (EvP.ip ((ev_252 15 b16).up (by decide))) ?_
                    by_cases h17 : q11.1 = 0
                    · rw [if_pos h17] at h
                      refine RuP.jy rfl h17 ?_
                      refine RuP.step (pc' := 235) (ls' := [some (.inr (.inr (some 84))), some (.inl (s 84 18)), none]) (st' := [.inr (.inr (some 84))]) (h1 := hp L q11.2 c e) rfl ?_
                      refine RuP.step (pc' := 237) (ls' := [some (.inr (.inr (some 84))), some (.inl (s 84 18)), none]) (st' := [.inl 11, .inr (.inr (some 84))]) (h1 := hp L q11.2 c e) rfl ?_
                      obtain ⟨b18, h⟩ := gd_some h
                      obtain ⟨q12, h1, h⟩ := bd_some h
                      refine RuP.cIe h1 rfl (EvP.ip ((ev_252 11 b18).up (by decide))) ?_
                      by_cases h19 : q12.1 = 0
                      · rw [if_pos h19] at h
                        refine RuP.jy rfl h19 ?_
                        refine RuP.step (pc' := 277) (ls' := [some (.inr (.inr (some 84))), some (.inl (s 84 18)), none]) (st' := [.inr (.inr (some 84))]) (h1 := hp L q12.2 c e) rfl ?_
                        refine RuP.step (pc' := 278) (ls' := [some (.inr (.inr (some 84))), some (.inl (s 84 18)), none]) (st' := [.inr (.inr (some 84)), .inr (.inr (some 84))]) (h1 := hp L q12.2 c e) rfl ?_
                        refine RuP.step (pc' := 279) (ls' := [some (.inr (.inr (some 84))), some (.inl (s 84 18)), none]) (st' := [.inl 1, .inr (.inr (some 84)), .inr (.inr (some 84))]) (h1 := hp L q12.2 c e) rfl ?_
                        refine RuP.step (pc' := 280) (ls' := [some (.inr (.inr (some 84))), some (.inl (s 84 18)), none]) (st' := [.inl (s 84 18), .inl 1, .inr (.inr (some 84)), .inr (.inr (some 84))]) (h1 := hp L q12.2 c e) rfl ?_
                        refine RuP.step (pc' := 281) (ls' := [some (.inr (.inr (some 84))), some (.inl (s 84 18)), none]) (st' := [.inl (s 84 18), .inl (s 84 18), .inl 1, .inr (.inr (some 84)), .inr (.inr (some 84))]) (h1 := hp L q12.2 c e) rfl ?_
                        refine RuP.step (pc' := 282) (ls' := [some (.inr (.inr (some 84))), some (.inl (s 84 18)), none]) (st' := [.inl (-1), .inl (s 84 18), .inl (s 84 18), .inl 1, .inr (.inr (some 84)), .inr (.inr (some 84))]) (h1 := hp L q12.2 c e) rfl ?_
                        obtain ⟨b20, h⟩ := gd_some h
                        obtain ⟨q13, h1, h⟩ := bd_some h
                        refine RuP.cIe h1 rfl (EvP.ip ((ev_263 1 (s 84 18) (s 84 18) (-1) b20).up (by decide))) ?_
                        refine RuP.step (pc' := 286) (ls' := [some (.inr (.inr (some 84))), some (.inl (s 84 18)), none]) (st' := [.inl (s 84 18), .inl q13.1, .inr (.inr (some 84))]) (h1 := hp L q13.2 c e) rfl ?_
                        refine RuP.step (pc' := 287) (ls' := [some (.inr (.inr (some 84))), some (.inl (s 84 18)), none]) (st' := [.inl (-1), .inl (s 84 18), .inl q13.1, .inr (.inr (some 84))]) (h1 := hp L q13.2 c e) rfl ?_
                        obtain ⟨b21, h⟩ := gd_some h
                        obtain ⟨q14, h1, h⟩ := bd_some h
                        refine RuP.cVe h1 rfl (EvP.v ((ev_264 q13.1 (s 84 18) (-1) b21).up (by decide))) ?_
                        refine RuP.step (pc' := 291) (ls' := [some (.inr (.inr (some 84))), some (.inl (s 84 18)), none]) (st' := [.inl 0]) (h1 := hp L q14 c e) rfl ?_
                        cases h
                        exact RuP.dI rfl
                      · rw [if_neg h19] at h
                        refine RuP.jn rfl h19 ?_
                        refine RuP.step (pc' := 244) (ls' := [some (.inr (.inr (some 84))), some (.inl (s 84 18)), none]) (st' := [.inr (.inr (some 84))]) (h1 := hp L q12.2 c e) rfl ?_
                        refine RuP.step (pc' := 246) (ls' := [some (.inr (.inr (some 84))), some (.inl (s 84 18)), none]) (st' := [.inl 12, .inr (.inr (some 84))]) (h1 := hp L q12.2 c e) rfl ?_
                        obtain ⟨b22, h⟩ := gd_some h
                        obtain ⟨q15, h1, h⟩ := bd_some h
                        refine RuP.cIe h1 rfl (EvP.ip ((ev_252 12 b22).up (by decide))) ?_
                        by_cases h23 : ¬ q15.1 = 0
                        · rw [if_pos h23] at h
                          refine RuP.jy rfl h23 ?_
                          refine RuP.step (pc' := 261) (ls' := [some (.inr (.inr (some 84))), some (.inl (s 84 18)), none]) (st' := [.inr (.inr (some 84))]) (h1 := hp L q15.2 c e) rfl ?_
                          refine RuP.step (pc' := 262) (ls' := [some (.inr (.inr (some 84))), some (.inl (s 84 18)), none]) (st' := [.inr (.inr (some 84)), .inr (.inr (some 84))]) (h1 := hp L q15.2 c e) rfl ?_
                          refine RuP.step (pc' := 263) (ls' := [some (.inr (.inr (some 84))), some (.inl (s 84 18)), none]) (st' := [.inl 3, .inr (.inr (some 84)), .inr (.inr (some 84))]) (h1 := hp L q15.2 c e) rfl ?_
                          refine RuP.step (pc' := 264) (ls' := [some (.inr (.inr (some 84))), some (.inl (s 84 18)), none]) (st' := [.inl (s 84 18), .inl 3, .inr (.inr (some 84)), .inr (.inr (some 84))]) (h1 := hp L q15.2 c e) rfl ?_
                          refine RuP.step (pc' := 265) (ls' := [some (.inr (.inr (some 84))), some (.inl (s 84 18)), none]) (st' := [.inl (s 84 18), .inl (s 84 18), .inl 3, .inr (.inr (some 84)), .inr (.inr (some 84))]) (h1 := hp L q15.2 c e) rfl ?_
                          refine RuP.step (pc' := 266) (ls' := [some (.inr (.inr (some 84))), some (.inl (s 84 18)), none]) (st' := [.inl (-1), .inl (s 84 18), .inl (s 84 18), .inl 3, .inr (.inr (some 84)), .inr (.inr (some 84))]) (h1 := hp L q15.2 c e) rfl ?_
                          obtain ⟨b24, h⟩ := gd_some h
                          obtain ⟨q16, h1, h⟩ := bd_some h
                          refine RuP.cIe h1 rfl (EvP.ip ((ev_263 3 (s 84 18) (s 84 18) (-1) b24).up (by decide))) ?_
                          refine RuP.step (pc' := 270) (ls' := [some (.inr (.inr (some 84))), some (.inl (s 84 18)), none]) (st' := [.inl (s 84 18), .inl q16.1, .inr (.inr (some 84))]) (h1 := hp L q16.2 c e) rfl ?_
                          refine RuP.step (pc' := 271) (ls' := [some (.inr (.inr (some 84))), some (.inl (s 84 18)), none]) (st' := [.inl (-1), .inl (s 84 18), .inl q16.1, .inr (.inr (some 84))]) (h1 := hp L q16.2 c e) rfl ?_
                          obtain ⟨b25, h⟩ := gd_some h
                          obtain ⟨q17, h1, h⟩ := bd_some h
                          refine RuP.cVe h1 rfl (EvP.v ((ev_264 q16.1 (s 84 18) (-1) b25).up (by decide))) ?_
                          refine RuP.step (pc' := 275) (ls' := [some (.inr (.inr (some 84))), some (.inl (s 84 18)), none]) (st' := [.inl 0]) (h1 := hp L q17 c e) rfl ?_
                          cases h
                          exact RuP.dI rfl
                        · rw [if_neg h23] at h
                          refine RuP.jn rfl h23 ?_
                          refine RuP.step (pc' := 253) (ls' := [some (.inr (.inr (some 84))), some (.inl (s 84 18)), none]) (st' := [.inr (.inr (some 84))]) (h1 := hp L q15.2 c e) rfl ?_
                          refine RuP.step (pc' := 254) (ls' := [some (.inr (.inr (some 84))), some (.inl (s 84 18)), none]) (st' := [.inl 3, .inr (.inr (some 84))]) (h1 := hp L q15.2 c e) rfl ?_
                          refine RuP.step (pc' := 255) (ls' := [some (.inr (.inr (some 84))), some (.inl (s 84 18)), none]) (st' := [.inl (s 84 18), .inl 3, .inr (.inr (some 84))]) (h1 := hp L q15.2 c e) rfl ?_
                          obtain ⟨b26, h⟩ := gd_some h
                          obtain ⟨q18, h1, h⟩ := bd_some h
                          refine RuP.cVe h1 rfl (EvP.v ((ev_262 3 (s 84 18) b26).up (by decide))) ?_
                          refine RuP.step (pc' := 259) (ls' := [some (.inr (.inr (some 84))), some (.inl (s 84 18)), none]) (st' := [.inl 1]) (h1 := hp L q18 c e) rfl ?_
                          cases h
                          exact RuP.dI rfl
                    · rw [if_neg h17] at h
                      refine RuP.jn rfl h17 ?_
                      refine RuP.step (pc' := 227) (ls' := [some (.inr (.inr (some 84))), some (.inl (s 84 18)), none]) (st' := [.inr (.inr (some 84))]) (h1 := hp L q11.2 c e) rfl ?_
                      refine RuP.step (pc' := 228) (ls' := [some (.inr (.inr (some 84))), some (.inl (s 84 18)), none]) (st' := [.inl 2, .inr (.inr (some 84))]) (h1 := hp L q11.2 c e) rfl ?_
                      refine RuP.step (pc' := 229) (ls' := [some (.inr (.inr (some 84))), some (.inl (s 84 18)), none]) (st' := [.inl (s 84 18), .inl 2, .inr (.inr (some 84))]) (h1 := hp L q11.2 c e) rfl ?_
                      obtain ⟨b27, h⟩ := gd_some h
                      obtain ⟨q19, h1, h⟩ := bd_some h
                      refine RuP.cVe h1 rfl (EvP.v ((ev_262 2 (s 84 18) b27).up (by decide))) ?_
                      refine RuP.step (pc' := 233) (ls' := [some (.inr (.inr (some 84))), some (.inl (s 84 18)), none]) (st' := [.inl 1]) (h1 := hp L q19 c e) rfl ?_
                      cases h
                      exact RuP.dI rfl
                  · rw [if_neg h15] at h
                    refine RuP.jn rfl h15 ?_
                    refine RuP.step (pc' := 216) (ls' := [some (.inr (.inr (some 84))), some (.inl (s 84 18)), none]) (st' := [.inl 0]) (h1 := hp L q10.2 c e) rfl ?_
                    cases h
                    exact RuP.dI rfl
                · rw [if_neg h14] at h
                  refine RuP.jn rfl h14 ?_
                  exact bl_260_172 _ _ _ _ h
          · rw [if_neg h8] at h
            refine RuP.jn rfl h8 ?_
            refine RuP.step (pc' := 117) (ls' := [some (.inr (.inr (some 84))), some (.inl (s 84 18)), none]) (st' := [.inr (.inr (some 84))]) (h1 := hp L q4.2 c e) rfl ?_
            refine RuP.step (pc' := 119) (ls' := [some (.inr (.inr (some 84))), some (.inl (s 84 18)), none]) (st' := [.inl 17, .inr (.inr (some 84))]) (h1 := hp L q4.2 c e) rfl ?_
            obtain ⟨q20, h1, h⟩ := bd_some h
            refine RuP.cI rfl ((ev_231 h1).up (by decide)) ?_
            refine RuP.step (pc' := 123) (ls' := [some (.inr (.inr (some 84))), some (.inl (s 84 18)), none]) (st' := []) (h1 := hp L q20.2 c e) rfl ?_
            refine RuP.step (pc' := 124) (ls' := [some (.inr (.inr (some 84))), some (.inl (s 84 18)), none]) (st' := [.inr (.inr (some 84))]) (h1 := hp L q20.2 c e) rfl ?_
            refine RuP.step (pc' := 125) (ls' := [some (.inr (.inr (some 84))), some (.inl (s 84 18)), none]) (st' := [.inl 2, .inr (.inr (some 84))]) (h1 := hp L q20.2 c e) rfl ?_
            obtain ⟨q21, h1, h⟩ := bd_some h
            refine RuP.cI rfl ((ev_231 h1).up (by decide)) ?_
            refine RuP.step (pc' := 129) (ls' := [some (.inr (.inr (some 84))), some (.inl (s 84 18)), some (.inl q21.1)]) (st' := []) (h1 := hp L q21.2 c e) rfl ?_
            refine RuP.step (pc' := 130) (ls' := [some (.inr (.inr (some 84))), some (.inl (s 84 18)), some (.inl q21.1)]) (st' := [.inr (.inr (some 84))]) (h1 := hp L q21.2 c e) rfl ?_
            refine RuP.step (pc' := 131) (ls' := [some (.inr (.inr (some 84))), some (.inl (s 84 18)), some (.inl q21.1)]) (st' := [.inr (.inr (some 84)), .inr (.inr (some 84))]) (h1 := hp L q21.2 c e) rfl ?_
            refine RuP.step (pc' := 132) (ls' := [some (.inr (.inr (some 84))), some (.inl (s 84 18)), some (.inl q21.1)]) (st' := [.inl 0, .inr (.inr (some 84)), .inr (.inr (some 84))]) (h1 := hp L q21.2 c e) rfl ?_
            refine RuP.step (pc' := 133) (ls' := [some (.inr (.inr (some 84))), some (.inl (s 84 18)), some (.inl q21.1)]) (st' := [.inl (s 84 18), .inl 0, .inr (.inr (some 84)), .inr (.inr (some 84))]) (h1 := hp L q21.2 c e) rfl ?_
            refine RuP.step (pc' := 134) (ls' := [some (.inr (.inr (some 84))), some (.inl (s 84 18)), some (.inl q21.1)]) (st' := [.inl (s 84 18), .inl (s 84 18), .inl 0, .inr (.inr (some 84)), .inr (.inr (some 84))]) (h1 := hp L q21.2 c e) rfl ?_
            refine RuP.step (pc' := 135) (ls' := [some (.inr (.inr (some 84))), some (.inl (s 84 18)), some (.inl q21.1)]) (st' := [.inl q21.1, .inl (s 84 18), .inl (s 84 18), .inl 0, .inr (.inr (some 84)), .inr (.inr (some 84))]) (h1 := hp L q21.2 c e) rfl ?_
            obtain ⟨b28, h⟩ := gd_some h
            obtain ⟨q22, h1, h⟩ := bd_some h
            refine RuP.cIe h1 rfl (EvP.ip ((ev_263 0 (s 84 18) (s 84 18) q21.1 b28).up (by decide))) ?_
            refine RuP.step (pc' := 139) (ls' := [some (.inr (.inr (some 84))), some (.inl (s 84 18)), some (.inl q21.1)]) (st' := [.inl (s 84 18), .inl q22.1, .inr (.inr (some 84))]) (h1 := hp L q22.2 c e) rfl ?_
            refine RuP.step (pc' := 140) (ls' := [some (.inr (.inr (some 84))), some (.inl (s 84 18)), some (.inl q21.1)]) (st' := [.inl (-1), .inl (s 84 18), .inl q22.1, .inr (.inr (some 84))]) (h1 := hp L q22.2 c e) rfl ?_
            obtain ⟨b29, h⟩ := gd_some h
            obtain ⟨q23, h1, h⟩ := bd_some h
            refine RuP.cVe h1 rfl (EvP.v ((ev_264 q22.1 (s 84 18) (-1) b29).up (by decide))) ?_
            refine RuP.step (pc' := 144) (ls' := [some (.inr (.inr (some 84))), some (.inl (s 84 18)), some (.inl q21.1)]) (st' := [.inl 0]) (h1 := hp L q23 c e) rfl ?_
            cases h
            exact RuP.dI rfl
        · rw [if_neg h6] at h
          refine RuP.jn rfl h6 ?_
          refine RuP.step (pc' := 101) (ls' := [some (.inr (.inr (some 84))), some (.inl (s 84 18)), none]) (st' := [.inr (.inr (some 84))]) (h1 := hp L q3.2 c e) rfl ?_
          refine RuP.step (pc' := 102) (ls' := [some (.inr (.inr (some 84))), some (.inl (s 84 18)), none]) (st' := [.inl 1, .inr (.inr (some 84))]) (h1 := hp L q3.2 c e) rfl ?_
          refine RuP.step (pc' := 103) (ls' := [some (.inr (.inr (some 84))), some (.inl (s 84 18)), none]) (st' := [.inl (s 84 18), .inl 1, .inr (.inr (some 84))]) (h1 := hp L q3.2 c e) rfl ?_
          obtain ⟨b30, h⟩ := gd_some h
          obtain ⟨q24, h1, h⟩ := bd_some h
          refine RuP.cVe h1 rfl (EvP.v ((ev_262 1 (s 84 18) b30).up (by decide))) ?_
          refine RuP.step (pc' := 107) (ls' := [some (.inr (.inr (some 84))), some (.inl (s 84 18)), none]) (st' := [.inl 1]) (h1 := hp L q24 c e) rfl ?_
          cases h
          exact RuP.dI rfl
      · rw [if_neg h4] at h
        refine RuP.jn rfl h4 ?_
        exact bl_260_37 _ _ _ _ h
  · rw [if_neg h0] at h
    refine RuP.jn rfl h0 ?_
    refine RuP.step (pc' := 8) (ls' := [some (.inr (.inr (some 84))), none, none]) (st' := [.inl 0]) (h1 := hp L s c e) rfl ?_
    cases h
    exact RuP.dI rfl
/-- MachineTextModel.make(IIIII)V -/
noncomputable def j_266_72 (l2 l5 l6 : Int) (s : Sg) : Option Sg :=
  (gd (g_264 l6 l2 (-1) (ax_u2 s 84 59 (ax_w32 ((s 84 59) - l5)))) (
  ((some (f_264 l6 l2 (-1) (ax_u2 s 84 59 (ax_w32 ((s 84 59) - l5))))).bind fun q2 =>
  some q2)))
theorem bl_266_72 {L c : Nat} {e : Nat → Nat} : ∀ (z1 z3 z4 z7 : Int) (l2 l5 l6 : Int) (s : Sg) (q : Sg), j_266_72 l2 l5 l6 s = some q → RuP 1 tb_m266 72 [some (.inr (.inr (some 84))), some (.inl z1), some (.inl l2), some (.inl z3), some (.inl z4), some (.inl l5), some (.inl l6), some (.inl z7)] [] (hp L s c e) (oV L c e q) := by
  intro z1 z3 z4 z7 l2 l5 l6 s q h
  unfold j_266_72 at h
  refine RuP.step (pc' := 73) (ls' := [some (.inr (.inr (some 84))), some (.inl z1), some (.inl l2), some (.inl z3), some (.inl z4), some (.inl l5), some (.inl l6), some (.inl z7)]) (st' := [.inr (.inr (some 84))]) (h1 := hp L s c e) rfl ?_
  refine RuP.step (pc' := 74) (ls' := [some (.inr (.inr (some 84))), some (.inl z1), some (.inl l2), some (.inl z3), some (.inl z4), some (.inl l5), some (.inl l6), some (.inl z7)]) (st' := [.inr (.inr (some 84)), .inr (.inr (some 84))]) (h1 := hp L s c e) rfl ?_
  refine RuP.step (pc' := 77) (ls' := [some (.inr (.inr (some 84))), some (.inl z1), some (.inl l2), some (.inl z3), some (.inl z4), some (.inl l5), some (.inl l6), some (.inl z7)]) (st' := [.inl (s 84 59), .inr (.inr (some 84))]) (h1 := hp L s c e) rfl ?_
  refine RuP.step (pc' := 79) (ls' := [some (.inr (.inr (some 84))), some (.inl z1), some (.inl l2), some (.inl z3), some (.inl z4), some (.inl l5), some (.inl l6), some (.inl z7)]) (st' := [.inl l5, .inl (s 84 59), .inr (.inr (some 84))]) (h1 := hp L s c e) rfl ?_
  refine RuP.step (pc' := 80) (ls' := [some (.inr (.inr (some 84))), some (.inl z1), some (.inl l2), some (.inl z3), some (.inl z4), some (.inl l5), some (.inl l6), some (.inl z7)]) (st' := [.inl (ax_w32 ((s 84 59) - l5)), .inr (.inr (some 84))]) (h1 := hp L s c e) rfl ?_
  refine RuP.step (pc' := 83) (ls' := [some (.inr (.inr (some 84))), some (.inl z1), some (.inl l2), some (.inl z3), some (.inl z4), some (.inl l5), some (.inl l6), some (.inl z7)]) (st' := []) (h1 := hp L (ax_u2 s 84 59 (ax_w32 ((s 84 59) - l5))) c e) rfl ?_
  refine RuP.step (pc' := 84) (ls' := [some (.inr (.inr (some 84))), some (.inl z1), some (.inl l2), some (.inl z3), some (.inl z4), some (.inl l5), some (.inl l6), some (.inl z7)]) (st' := [.inr (.inr (some 84))]) (h1 := hp L (ax_u2 s 84 59 (ax_w32 ((s 84 59) - l5))) c e) rfl ?_
  refine RuP.step (pc' := 86) (ls' := [some (.inr (.inr (some 84))), some (.inl z1), some (.inl l2), some (.inl z3), some (.inl z4), some (.inl l5), some (.inl l6), some (.inl z7)]) (st' := [.inl l6, .inr (.inr (some 84))]) (h1 := hp L (ax_u2 s 84 59 (ax_w32 ((s 84 59) - l5))) c e) rfl ?_
  refine RuP.step (pc' := 87) (ls' := [some (.inr (.inr (some 84))), some (.inl z1), some (.inl l2), some (.inl z3), some (.inl z4), some (.inl l5), some (.inl l6), some (.inl z7)]) (st' := [.inl l2, .inl l6, .inr (.inr (some 84))]) (h1 := hp L (ax_u2 s 84 59 (ax_w32 ((s 84 59) - l5))) c e) rfl ?_
  refine RuP.step (pc' := 88) (ls' := [some (.inr (.inr (some 84))), some (.inl z1), some (.inl l2), some (.inl z3), some (.inl z4), some (.inl l5), some (.inl l6), some (.inl z7)]) (st' := [.inl (-1), .inl l2, .inl l6, .inr (.inr (some 84))]) (h1 := hp L (ax_u2 s 84 59 (ax_w32 ((s 84 59) - l5))) c e) rfl ?_
  obtain ⟨b0, h⟩ := gd_some h
  obtain ⟨q2, h1, h⟩ := bd_some h
  refine RuP.cVe h1 rfl (EvP.v ((ev_264 l6 l2 (-1) b0).up (by decide))) ?_
  cases h
  exact RuP.dV rfl
noncomputable def j_266_20 : Nat → Int → Int → Int → Int → Sg → Option Sg
  | 0, _, _, _, _, _ => none
  | F + 1, l2, l5, l6, l7, s =>
    (if s 84 59 ≤ l7 then
      j_266_72 l2 l5 l6 s
    else
      (gd (0 ≤ l7 ∧ l7 < 8200) (
      (gd (0 ≤ s 84 57 ∧ s 84 57 < 16400) (
      (gd (0 ≤ l6 ∧ l6 < 8200) (
      (gd (0 ≤ l6 ∧ l6 < 8200) (
      (j_266_20 F) l2 l5 l6 (ax_w32 (l7 + 1)) (ax_u2 (ax_u2 (ax_u2 s 125 ((s 84 57).toNat) (s 126 l7.toNat)) 84 57 (ax_w32 ((s 84 57) + 1))) 120 l6.toNat (ax_w32 ((s 120 l6.toNat) + 1))))))))))))
theorem bl_266_20 {L c : Nat} {e : Nat → Nat} : ∀ (F : Nat) (z1 z3 z4 : Int) (l2 l5 l6 l7 : Int) (s : Sg) (q : Sg), j_266_20 F l2 l5 l6 l7 s = some q → RuP 1 tb_m266 20 [some (.inr (.inr (some 84))), some (.inl z1), some (.inl l2), some (.inl z3), some (.inl z4), some (.inl l5), some (.inl l6), some (.inl l7)] [] (hp L s c e) (oV L c e q) := by
  intro F
  induction F with
  | zero =>
    intro z1 z3 z4 l2 l5 l6 l7 s q h
    rw [j_266_20] at h
    cases h
  | succ F ih =>
    intro z1 z3 z4 l2 l5 l6 l7 s q h
    rw [j_266_20] at h
    refine RuP.step (pc' := 22) (ls' := [some (.inr (.inr (some 84))), some (.inl z1), some (.inl l2), some (.inl z3), some (.inl z4), some (.inl l5), some (.inl l6), some (.inl l7)]) (st' := [.inl l7]) (h1 := hp L s c e) rfl ?_
    refine RuP.step (pc' := 23) (ls' := [some (.inr (.inr (some 84))), some (.inl z1), some (.inl l2), some (.inl z3), some (.inl z4), some (.inl l5), some (.inl l6), some (.inl l7)]) (st' := [.inr (.inr (some 84)), .inl l7]) (h1 := hp L s c e) rfl ?_
    refine RuP.step (pc' := 26) (ls' := [some (.inr (.inr (some 84))), some (.inl z1), some (.inl l2), some (.inl z3), some (.inl z4), some (.inl l5), some (.inl l6), some (.inl l7)]) (st' := [.inl (s 84 59), .inl l7]) (h1 := hp L s c e) rfl ?_
    by_cases h0 : s 84 59 ≤ l7
    · rw [if_pos h0] at h
      refine RuP.jy rfl h0 ?_
      exact bl_266_72 _ _ _ _ _ _ _ _ _ h
    · rw [if_neg h0] at h
      refine RuP.jn rfl h0 ?_
      refine RuP.step (pc' := 30) (ls' := [some (.inr (.inr (some 84))), some (.inl z1), some (.inl l2), some (.inl z3), some (.inl z4), some (.inl l5), some (.inl l6), some (.inl l7)]) (st' := [.inr (.inr (some 84))]) (h1 := hp L s c e) rfl ?_
      refine RuP.step (pc' := 33) (ls' := [some (.inr (.inr (some 84))), some (.inl z1), some (.inl l2), some (.inl z3), some (.inl z4), some (.inl l5), some (.inl l6), some (.inl l7)]) (st' := [.inr (.inr (some 125))]) (h1 := hp L s c e) rfl ?_
      refine RuP.step (pc' := 34) (ls' := [some (.inr (.inr (some 84))), some (.inl z1), some (.inl l2), some (.inl z3), some (.inl z4), some (.inl l5), some (.inl l6), some (.inl l7)]) (st' := [.inr (.inr (some 84)), .inr (.inr (some 125))]) (h1 := hp L s c e) rfl ?_
      refine RuP.step (pc' := 37) (ls' := [some (.inr (.inr (some 84))), some (.inl z1), some (.inl l2), some (.inl z3), some (.inl z4), some (.inl l5), some (.inl l6), some (.inl l7)]) (st' := [.inl (s 84 57), .inr (.inr (some 125))]) (h1 := hp L s c e) rfl ?_
      refine RuP.step (pc' := 38) (ls' := [some (.inr (.inr (some 84))), some (.inl z1), some (.inl l2), some (.inl z3), some (.inl z4), some (.inl l5), some (.inl l6), some (.inl l7)]) (st' := [.inr (.inr (some 84)), .inl (s 84 57), .inr (.inr (some 125))]) (h1 := hp L s c e) rfl ?_
      refine RuP.step (pc' := 41) (ls' := [some (.inr (.inr (some 84))), some (.inl z1), some (.inl l2), some (.inl z3), some (.inl z4), some (.inl l5), some (.inl l6), some (.inl l7)]) (st' := [.inr (.inr (some 126)), .inl (s 84 57), .inr (.inr (some 125))]) (h1 := hp L s c e) rfl ?_
      refine RuP.step (pc' := 43) (ls' := [some (.inr (.inr (some 84))), some (.inl z1), some (.inl l2), some (.inl z3), some (.inl z4), some (.inl l5), some (.inl l6), some (.inl l7)]) (st' := [.inl l7, .inr (.inr (some 126)), .inl (s 84 57), .inr (.inr (some 125))]) (h1 := hp L s c e) rfl ?_
      obtain ⟨b1, h⟩ := gd_some h
      refine RuP.ald (f := fun t => t == 0) (j := l7) (a := 126) rfl rfl b1.1 b1.2 ?_
      obtain ⟨b2, h⟩ := gd_some h
      refine RuP.ast (f := fun t => t == 0) (j := s 84 57) (a := 125) rfl rfl (by decide) rfl rfl b2.1 b2.2 ?_
      refine RuP.step (pc' := 46) (ls' := [some (.inr (.inr (some 84))), some (.inl z1), some (.inl l2), some (.inl z3), some (.inl z4), some (.inl l5), some (.inl l6), some (.inl l7)]) (st' := [.inr (.inr (some 84))]) (h1 := hp L (ax_u2 s 125 ((s 84 57).toNat) (s 126 l7.toNat)) c e) rfl ?_
      refine RuP.step (pc' := 47) (ls' := [some (.inr (.inr (some 84))), some (.inl z1), some (.inl l2), some (.inl z3), some (.inl z4), some (.inl l5), some (.inl l6), some (.inl l7)]) (st' := [.inr (.inr (some 84)), .inr (.inr (some 84))]) (h1 := hp L (ax_u2 s 125 ((s 84 57).toNat) (s 126 l7.toNat)) c e) rfl ?_
      refine RuP.step (pc' := 50) (ls' := [some (.inr (.inr (some 84))), some (.inl z1), some (.inl l2), some (.inl z3), some (.inl z4), some (.inl l5), some (.inl l6), some (.inl l7)]) (st' := [.inl (s 84 57), .inr (.inr (some 84))]) (h1 := hp L (ax_u2 s 125 ((s 84 57).toNat) (s 126 l7.toNat)) c e) rfl ?_
      refine RuP.step (pc' := 51) (ls' := [some (.inr (.inr (some 84))), some (.inl z1), some (.inl l2), some (.inl z3), some (.inl z4), some (.inl l5), some (.inl l6), some (.inl l7)]) (st' := [.inl 1, .inl (s 84 57), .inr (.inr (some 84))]) (h1 := hp L (ax_u2 s 125 ((s 84 57).toNat) (s 126 l7.toNat)) c e) rfl ?_
      refine RuP.step (pc' := 52) (ls' := [some (.inr (.inr (some 84))), some (.inl z1), some (.inl l2), some (.inl z3), some (.inl z4), some (.inl l5), some (.inl l6), some (.inl l7)]) (st' := [.inl (ax_w32 ((s 84 57) + 1)), .inr (.inr (some 84))]) (h1 := hp L (ax_u2 s 125 ((s 84 57).toNat) (s 126 l7.toNat)) c e) rfl ?_
      refine RuP.step (pc' := 55) (ls' := [some (.inr (.inr (some 84))), some (.inl z1), some (.inl l2), some (.inl z3), some (.inl z4), some (.inl l5), some (.inl l6), some (.inl l7)]) (st' := []) (h1 := hp L (ax_u2 (ax_u2 s 125 ((s 84 57).toNat) (s 126 l7.toNat)) 84 57 (ax_w32 ((s 84 57) + 1))) c e) rfl ?_
      refine RuP.step (pc' := 56) (ls' := [some (.inr (.inr (some 84))), some (.inl z1), some (.inl l2), some (.inl z3), some (.inl z4), some (.inl l5), some (.inl l6), some (.inl l7)]) (st' := [.inr (.inr (some 84))]) (h1 := hp L (ax_u2 (ax_u2 s 125 ((s 84 57).toNat) (s 126 l7.toNat)) 84 57 (ax_w32 ((s 84 57) + 1))) c e) rfl ?_
      refine RuP.step (pc' := 59) (ls' := [some (.inr (.inr (some 84))), some (.inl z1), some (.inl l2), some (.inl z3), some (.inl z4), some (.inl l5), some (.inl l6), some (.inl l7)]) (st' := [.inr (.inr (some 120))]) (h1 := hp L (ax_u2 (ax_u2 s 125 ((s 84 57).toNat) (s 126 l7.toNat)) 84 57 (ax_w32 ((s 84 57) + 1))) c e) rfl ?_
      refine RuP.step (pc' := 61) (ls' := [some (.inr (.inr (some 84))), some (.inl z1), some (.inl l2), some (.inl z3), some (.inl z4), some (.inl l5), some (.inl l6), some (.inl l7)]) (st' := [.inl l6, .inr (.inr (some 120))]) (h1 := hp L (ax_u2 (ax_u2 s 125 ((s 84 57).toNat) (s 126 l7.toNat)) 84 57 (ax_w32 ((s 84 57) + 1))) c e) rfl ?_
      refine RuP.step (pc' := 62) (ls' := [some (.inr (.inr (some 84))), some (.inl z1), some (.inl l2), some (.inl z3), some (.inl z4), some (.inl l5), some (.inl l6), some (.inl l7)]) (st' := [.inl l6, .inr (.inr (some 120)), .inl l6, .inr (.inr (some 120))]) (h1 := hp L (ax_u2 (ax_u2 s 125 ((s 84 57).toNat) (s 126 l7.toNat)) 84 57 (ax_w32 ((s 84 57) + 1))) c e) rfl ?_
      obtain ⟨b3, h⟩ := gd_some h
      refine RuP.ald (f := fun t => t == 0) (j := l6) (a := 120) rfl rfl b3.1 b3.2 ?_
      refine RuP.step (pc' := 64) (ls' := [some (.inr (.inr (some 84))), some (.inl z1), some (.inl l2), some (.inl z3), some (.inl z4), some (.inl l5), some (.inl l6), some (.inl l7)]) (st' := [.inl 1, .inl (s 120 l6.toNat), .inl l6, .inr (.inr (some 120))]) (h1 := hp L (ax_u2 (ax_u2 s 125 ((s 84 57).toNat) (s 126 l7.toNat)) 84 57 (ax_w32 ((s 84 57) + 1))) c e) rfl ?_
      refine RuP.step (pc' := 65) (ls' := [some (.inr (.inr (some 84))), some (.inl z1), some (.inl l2), some (.inl z3), some (.inl z4), some (.inl l5), some (.inl l6), some (.inl l7)]) (st' := [.inl (ax_w32 ((s 120 l6.toNat) + 1)), .inl l6, .inr (.inr (some 120))]) (h1 := hp L (ax_u2 (ax_u2 s 125 ((s 84 57).toNat) (s 126 l7.toNat)) 84 57 (ax_w32 ((s 84 57) + 1))) c e) rfl ?_
      obtain ⟨b4, h⟩ := gd_some h
      refine RuP.ast (f := fun t => t == 0) (j := l6) (a := 120) rfl rfl (by decide) rfl rfl b4.1 b4.2 ?_
      refine RuP.step (pc' := 69) (ls' := [some (.inr (.inr (some 84))), some (.inl z1), some (.inl l2), some (.inl z3), some (.inl z4), some (.inl l5), some (.inl l6), some (.inl (ax_w32 (l7 + 1)))]) (st' := []) (h1 := hp L (ax_u2 (ax_u2 (ax_u2 s 125 ((s 84 57).toNat) (s 126 l7.toNat)) 84 57 (ax_w32 ((s 84 57) + 1))) 120 l6.toNat (ax_w32 ((s 120 l6.toNat) + 1))) c e) rfl ?_
      refine RuP.step (pc' := 20) (ls' := [some (.inr (.inr (some 84))), some (.inl z1), some (.inl l2), some (.inl z3), some (.inl z4), some (.inl l5), some (.inl l6), some (.inl (ax_w32 (l7 + 1)))]) (st' := []) (h1 := hp L (ax_u2 (ax_u2 (ax_u2 s 125 ((s 84 57).toNat) (s 126 l7.toNat)) 84 57 (ax_w32 ((s 84 57) + 1))) 120 l6.toNat (ax_w32 ((s 120 l6.toNat) + 1))) c e) rfl ?_
      exact ih _ _ _ _ _ _ _ _ _ h
noncomputable def f_266 (x0 x1 x2 x3 x4 : Int) (s : Sg) : Option Sg :=
  (gd (g_263 x0 x1 x2 x3 s) (
  ((some (f_263 x0 x1 x2 x3 s)).bind fun q1 =>
  j_266_20 FU x1 x4 q1.1 (ax_w32 ((q1.2 84 59) - x4)) q1.2)))
theorem ev_266 {L c : Nat} {e : Nat → Nat} {s : Sg} {x0 x1 x2 x3 x4 : Int} {q : Sg} (h : f_266 x0 x1 x2 x3 x4 s = some q) : EvP 2 266 [.inr (.inr (some 84)), .inl x0, .inl x1, .inl x2, .inl x3, .inl x4] (hp L s c e) (oV L c e q) := by
  unfold f_266 at h
  refine EvP.of (μ := tb_m266) (ls := [some (.inr (.inr (some 84))), some (.inl x0), some (.inl x1), some (.inl x2), some (.inl x3), some (.inl x4), none, none]) rfl (Nat.le_of_ble_eq_true rfl) rfl ?_
  refine RuP.step (pc' := 1) (ls' := [some (.inr (.inr (some 84))), some (.inl x0), some (.inl x1), some (.inl x2), some (.inl x3), some (.inl x4), none, none]) (st' := [.inr (.inr (some 84))]) (h1 := hp L s c e) rfl ?_
  refine RuP.step (pc' := 2) (ls' := [some (.inr (.inr (some 84))), some (.inl x0), some (.inl x1), some (.inl x2), some (.inl x3), some (.inl x4), none, none]) (st' := [.inl x0, .inr (.inr (some 84))]) (h1 := hp L s c e) rfl ?_
  refine RuP.step (pc' := 3) (ls' := [some (.inr (.inr (some 84))), some (.inl x0), some (.inl x1), some (.inl x2), some (.inl x3), some (.inl x4), none, none]) (st' := [.inl x1, .inl x0, .inr (.inr (some 84))]) (h1 := hp L s c e) rfl ?_
  refine RuP.step (pc' := 4) (ls' := [some (.inr (.inr (some 84))), some (.inl x0), some (.inl x1), some (.inl x2), some (.inl x3), some (.inl x4), none, none]) (st' := [.inl x2, .inl x1, .inl x0, .inr (.inr (some 84))]) (h1 := hp L s c e) rfl ?_
  refine RuP.step (pc' := 6) (ls' := [some (.inr (.inr (some 84))), some (.inl x0), some (.inl x1), some (.inl x2), some (.inl x3), some (.inl x4), none, none]) (st' := [.inl x3, .inl x2, .inl x1, .inl x0, .inr (.inr (some 84))]) (h1 := hp L s c e) rfl ?_
  obtain ⟨b0, h⟩ := gd_some h
  obtain ⟨q1, h1, h⟩ := bd_some h
  refine RuP.cIe h1 rfl (EvP.ip ((ev_263 x0 x1 x2 x3 b0).up (by decide))) ?_
  refine RuP.step (pc' := 11) (ls' := [some (.inr (.inr (some 84))), some (.inl x0), some (.inl x1), some (.inl x2), some (.inl x3), some (.inl x4), some (.inl q1.1), none]) (st' := []) (h1 := hp L q1.2 c e) rfl ?_
  refine RuP.step (pc' := 12) (ls' := [some (.inr (.inr (some 84))), some (.inl x0), some (.inl x1), some (.inl x2), some (.inl x3), some (.inl x4), some (.inl q1.1), none]) (st' := [.inr (.inr (some 84))]) (h1 := hp L q1.2 c e) rfl ?_
  refine RuP.step (pc' := 15) (ls' := [some (.inr (.inr (some 84))), some (.inl x0), some (.inl x1), some (.inl x2), some (.inl x3), some (.inl x4), some (.inl q1.1), none]) (st' := [.inl (q1.2 84 59)]) (h1 := hp L q1.2 c e) rfl ?_
  refine RuP.step (pc' := 17) (ls' := [some (.inr (.inr (some 84))), some (.inl x0), some (.inl x1), some (.inl x2), some (.inl x3), some (.inl x4), some (.inl q1.1), none]) (st' := [.inl x4, .inl (q1.2 84 59)]) (h1 := hp L q1.2 c e) rfl ?_
  refine RuP.step (pc' := 18) (ls' := [some (.inr (.inr (some 84))), some (.inl x0), some (.inl x1), some (.inl x2), some (.inl x3), some (.inl x4), some (.inl q1.1), none]) (st' := [.inl (ax_w32 ((q1.2 84 59) - x4))]) (h1 := hp L q1.2 c e) rfl ?_
  refine RuP.step (pc' := 20) (ls' := [some (.inr (.inr (some 84))), some (.inl x0), some (.inl x1), some (.inl x2), some (.inl x3), some (.inl x4), some (.inl q1.1), some (.inl (ax_w32 ((q1.2 84 59) - x4)))]) (st' := []) (h1 := hp L q1.2 c e) rfl ?_
  exact bl_266_20 FU _ _ _ _ _ _ _ _ _ h
/-- MachineTextModel.binary(I)I -/
def f_267 (x0 : Int) (s : Sg) : Int :=
  (if x0 = 3 then
    18
  else
  (if x0 = 4 then
    19
  else
  (if x0 = 5 then
    13
  else
  (if x0 = 6 then
    14
  else
  (if x0 = 19 then
    11
  else
  (if x0 = 20 then
    12
  else
  (if x0 = 21 then
    10
  else
  (if x0 = 22 then
    15
  else
  (if x0 = 23 then
    17
  else
  (if x0 = 24 then
    16
  else
  (if x0 = 26 then
    20
  else
    (-1))))))))))))
theorem ev_267 {L c : Nat} {e : Nat → Nat} {s : Sg} (x0 : Int) : EvP 1 267 [.inr (.inr (some 84)), .inl x0] (hp L s c e) (oI L c e (f_267 x0 s, s)) := by
  have key : ∀ q, f_267 x0 s = q → RuP 0 tb_m267 0 [some (.inr (.inr (some 84))), some (.inl x0)] [] (hp L s c e) (oI L c e (q, s)) := by
    intro q h
    unfold f_267 at h
    refine RuP.step (pc' := 1) (ls' := [some (.inr (.inr (some 84))), some (.inl x0)]) (st' := [.inl x0]) (h1 := hp L s c e) rfl ?_
    by_cases h0 : x0 = 3
    · rw [if_pos h0] at h
      have J1 : RuP 0 tb_m267 136 [some (.inr (.inr (some 84))), some (.inl x0)] [] (hp L s c e) (oI L c e (q, s)) := by
        refine RuP.step (pc' := 138) (ls' := [some (.inr (.inr (some 84))), some (.inl x0)]) (st' := [.inl 18]) (h1 := hp L s c e) rfl ?_
        subst h
        exact RuP.dI rfl
      exact RuP.sw (i := .tableswitch (144) (3) (26) #[135, 138, 120, 123, 144, 144, 144, 144, 144, 144, 144, 144, 144, 144, 144, 144, 114, 117, 111, 126, 132, 129, 144, 141]) rfl h0 rfl J1
    rw [if_neg h0] at h
    by_cases h1 : x0 = 4
    · rw [if_pos h1] at h
      have J2 : RuP 0 tb_m267 139 [some (.inr (.inr (some 84))), some (.inl x0)] [] (hp L s c e) (oI L c e (q, s)) := by
        refine RuP.step (pc' := 141) (ls' := [some (.inr (.inr (some 84))), some (.inl x0)]) (st' := [.inl 19]) (h1 := hp L s c e) rfl ?_
        subst h
        exact RuP.dI rfl
      exact RuP.sw (i := .tableswitch (144) (3) (26) #[135, 138, 120, 123, 144, 144, 144, 144, 144, 144, 144, 144, 144, 144, 144, 144, 114, 117, 111, 126, 132, 129, 144, 141]) rfl h1 rfl J2
    rw [if_neg h1] at h
    by_cases h2 : x0 = 5
    · rw [if_pos h2] at h
      have J3 : RuP 0 tb_m267 121 [some (.inr (.inr (some 84))), some (.inl x0)] [] (hp L s c e) (oI L c e (q, s)) := by
        refine RuP.step (pc' := 123) (ls' := [some (.inr (.inr (some 84))), some (.inl x0)]) (st' := [.inl 13]) (h1 := hp L s c e) rfl ?_
        subst h
        exact RuP.dI rfl
      exact RuP.sw (i := .tableswitch (144) (3) (26) #[135, 138, 120, 123, 144, 144, 144, 144, 144, 144, 144, 144, 144, 144, 144, 144, 114, 117, 111, 126, 132, 129, 144, 141]) rfl h2 rfl J3
    rw [if_neg h2] at h
    by_cases h3 : x0 = 6
    · rw [if_pos h3] at h
      have J4 : RuP 0 tb_m267 124 [some (.inr (.inr (some 84))), some (.inl x0)] [] (hp L s c e) (oI L c e (q, s)) := by
        refine RuP.step (pc' := 126) (ls' := [some (.inr (.inr (some 84))), some (.inl x0)]) (st' := [.inl 14]) (h1 := hp L s c e) rfl ?_
        subst h
        exact RuP.dI rfl
      exact RuP.sw (i := .tableswitch (144) (3) (26) #[135, 138, 120, 123, 144, 144, 144, 144, 144, 144, 144, 144, 144, 144, 144, 144, 114, 117, 111, 126, 132, 129, 144, 141]) rfl h3 rfl J4
    rw [if_neg h3] at h
    by_cases h4 : x0 = 19
    · rw [if_pos h4] at h
      have J5 : RuP 0 tb_m267 115 [some (.inr (.inr (some 84))), some (.inl x0)] [] (hp L s c e) (oI L c e (q, s)) := by
        refine RuP.step (pc' := 117) (ls' := [some (.inr (.inr (some 84))), some (.inl x0)]) (st' := [.inl 11]) (h1 := hp L s c e) rfl ?_
        subst h
        exact RuP.dI rfl
      exact RuP.sw (i := .tableswitch (144) (3) (26) #[135, 138, 120, 123, 144, 144, 144, 144, 144, 144, 144, 144, 144, 144, 144, 144, 114, 117, 111, 126, 132, 129, 144, 141]) rfl h4 rfl J5
    rw [if_neg h4] at h
    by_cases h5 : x0 = 20
    · rw [if_pos h5] at h
      have J6 : RuP 0 tb_m267 118 [some (.inr (.inr (some 84))), some (.inl x0)] [] (hp L s c e) (oI L c e (q, s)) := by
        refine RuP.step (pc' := 120) (ls' := [some (.inr (.inr (some 84))), some (.inl x0)]) (st' := [.inl 12]) (h1 := hp L s c e) rfl ?_
        subst h
        exact RuP.dI rfl
      exact RuP.sw (i := .tableswitch (144) (3) (26) #[135, 138, 120, 123, 144, 144, 144, 144, 144, 144, 144, 144, 144, 144, 144, 144, 114, 117, 111, 126, 132, 129, 144, 141]) rfl h5 rfl J6
    rw [if_neg h5] at h
    by_cases h6 : x0 = 21
    · rw [if_pos h6] at h
      have J7 : RuP 0 tb_m267 112 [some (.inr (.inr (some 84))), some (.inl x0)] [] (hp L s c e) (oI L c e (q, s)) := by
        refine RuP.step (pc' := 114) (ls' := [some (.inr (.inr (some 84))), some (.inl x0)]) (st' := [.inl 10]) (h1 := hp L s c e) rfl ?_
        subst h
        exact RuP.dI rfl
      exact RuP.sw (i := .tableswitch (144) (3) (26) #[135, 138, 120, 123, 144, 144, 144, 144, 144, 144, 144, 144, 144, 144, 144, 144, 114, 117, 111, 126, 132, 129, 144, 141]) rfl h6 rfl J7
    rw [if_neg h6] at h
    by_cases h7 : x0 = 22
    · rw [if_pos h7] at h
      have J8 : RuP 0 tb_m267 127 [some (.inr (.inr (some 84))), some (.inl x0)] [] (hp L s c e) (oI L c e (q, s)) := by
        refine RuP.step (pc' := 129) (ls' := [some (.inr (.inr (some 84))), some (.inl x0)]) (st' := [.inl 15]) (h1 := hp L s c e) rfl ?_
        subst h
        exact RuP.dI rfl
      exact RuP.sw (i := .tableswitch (144) (3) (26) #[135, 138, 120, 123, 144, 144, 144, 144, 144, 144, 144, 144, 144, 144, 144, 144, 114, 117, 111, 126, 132, 129, 144, 141]) rfl h7 rfl J8
    rw [if_neg h7] at h
    by_cases h8 : x0 = 23
    · rw [if_pos h8] at h
      have J9 : RuP 0 tb_m267 133 [some (.inr (.inr (some 84))), some (.inl x0)] [] (hp L s c e) (oI L c e (q, s)) := by
        refine RuP.step (pc' := 135) (ls' := [some (.inr (.inr (some 84))), some (.inl x0)]) (st' := [.inl 17]) (h1 := hp L s c e) rfl ?_
        subst h
        exact RuP.dI rfl
      exact RuP.sw (i := .tableswitch (144) (3) (26) #[135, 138, 120, 123, 144, 144, 144, 144, 144, 144, 144, 144, 144, 144, 144, 144, 114, 117, 111, 126, 132, 129, 144, 141]) rfl h8 rfl J9
    rw [if_neg h8] at h
    by_cases h9 : x0 = 24
    · rw [if_pos h9] at h
      have J10 : RuP 0 tb_m267 130 [some (.inr (.inr (some 84))), some (.inl x0)] [] (hp L s c e) (oI L c e (q, s)) := by
        refine RuP.step (pc' := 132) (ls' := [some (.inr (.inr (some 84))), some (.inl x0)]) (st' := [.inl 16]) (h1 := hp L s c e) rfl ?_
        subst h
        exact RuP.dI rfl
      exact RuP.sw (i := .tableswitch (144) (3) (26) #[135, 138, 120, 123, 144, 144, 144, 144, 144, 144, 144, 144, 144, 144, 144, 144, 114, 117, 111, 126, 132, 129, 144, 141]) rfl h9 rfl J10
    rw [if_neg h9] at h
    by_cases h10 : x0 = 26
    · rw [if_pos h10] at h
      have J11 : RuP 0 tb_m267 142 [some (.inr (.inr (some 84))), some (.inl x0)] [] (hp L s c e) (oI L c e (q, s)) := by
        refine RuP.step (pc' := 144) (ls' := [some (.inr (.inr (some 84))), some (.inl x0)]) (st' := [.inl 20]) (h1 := hp L s c e) rfl ?_
        subst h
        exact RuP.dI rfl
      exact RuP.sw (i := .tableswitch (144) (3) (26) #[135, 138, 120, 123, 144, 144, 144, 144, 144, 144, 144, 144, 144, 144, 144, 144, 114, 117, 111, 126, 132, 129, 144, 141]) rfl h10 rfl J11
    rw [if_neg h10] at h
    refine RuP.swd (i := .tableswitch (144) (3) (26) #[135, 138, 120, 123, 144, 144, 144, 144, 144, 144, 144, 144, 144, 144, 144, 144, 114, 117, 111, 126, 132, 129, 144, 141]) (pc' := 145) rfl (sw_td [3, 4, 5, 6, 19, 20, 21, 22, 23, 24, 26] (by intro k hk; simp only [List.mem_cons, List.not_mem_nil, or_false] at hk; omega) (by decide) (by decide)) ?_
    refine RuP.step (pc' := 146) (ls' := [some (.inr (.inr (some 84))), some (.inl x0)]) (st' := [.inl (-1)]) (h1 := hp L s c e) rfl ?_
    subst h
    exact RuP.dI rfl
  exact EvP.of (μ := tb_m267) (ls := [some (.inr (.inr (some 84))), some (.inl x0)]) rfl (Nat.le_of_ble_eq_true rfl) rfl (key _ rfl)
/-- MachineTextModel.level(I)I -/
def f_268 (x0 : Int) (s : Sg) : Int :=
  (if x0 = 7 then
    9
  else
  (if x0 = 8 ∨ x0 = 9 then
    8
  else
  (if x0 = 10 then
    7
  else
  (if x0 = 11 ∨ x0 = 12 then
    6
  else
  (if x0 = 13 ∨ x0 = 14 then
    5
  else
  (if x0 = 15 then
    4
  else
  (if x0 = 16 then
    3
  else
  (if x0 = 17 then
    2
  else
  (if x0 = 18 ∨ x0 = 19 ∨ x0 = 20 then
    1
  else
  (if x0 = 21 then
    0
  else
    10))))))))))
theorem ev_268 {L c : Nat} {e : Nat → Nat} {s : Sg} (x0 : Int) : EvP 1 268 [.inl x0] (hp L s c e) (oI L c e (f_268 x0 s, s)) := by
  have key : ∀ q, f_268 x0 s = q → RuP 0 tb_m268 0 [some (.inl x0)] [] (hp L s c e) (oI L c e (q, s)) := by
    intro q h
    unfold f_268 at h
    refine RuP.step (pc' := 1) (ls' := [some (.inl x0)]) (st' := [.inl x0]) (h1 := hp L s c e) rfl ?_
    by_cases h0 : x0 = 7
    · rw [if_pos h0] at h
      have J1 : RuP 0 tb_m268 97 [some (.inl x0)] [] (hp L s c e) (oI L c e (q, s)) := by
        refine RuP.step (pc' := 99) (ls' := [some (.inl x0)]) (st' := [.inl 9]) (h1 := hp L s c e) rfl ?_
        subst h
        exact RuP.dI rfl
      exact RuP.sw (i := .tableswitch (99) (7) (21) #[96, 93, 93, 90, 87, 87, 85, 85, 83, 81, 79, 77, 77, 77, 75]) rfl h0 rfl J1
    rw [if_neg h0] at h
    by_cases h1 : x0 = 8 ∨ x0 = 9
    · rw [if_pos h1] at h
      have J2 : RuP 0 tb_m268 94 [some (.inl x0)] [] (hp L s c e) (oI L c e (q, s)) := by
        refine RuP.step (pc' := 96) (ls' := [some (.inl x0)]) (st' := [.inl 8]) (h1 := hp L s c e) rfl ?_
        subst h
        exact RuP.dI rfl
      rcases h1 with h1 | h1 <;> exact RuP.sw (i := .tableswitch (99) (7) (21) #[96, 93, 93, 90, 87, 87, 85, 85, 83, 81, 79, 77, 77, 77, 75]) rfl h1 rfl J2
    rw [if_neg h1] at h
    by_cases h2 : x0 = 10
    · rw [if_pos h2] at h
      have J3 : RuP 0 tb_m268 91 [some (.inl x0)] [] (hp L s c e) (oI L c e (q, s)) := by
        refine RuP.step (pc' := 93) (ls' := [some (.inl x0)]) (st' := [.inl 7]) (h1 := hp L s c e) rfl ?_
        subst h
        exact RuP.dI rfl
      exact RuP.sw (i := .tableswitch (99) (7) (21) #[96, 93, 93, 90, 87, 87, 85, 85, 83, 81, 79, 77, 77, 77, 75]) rfl h2 rfl J3
    rw [if_neg h2] at h
    by_cases h3 : x0 = 11 ∨ x0 = 12
    · rw [if_pos h3] at h
      have J4 : RuP 0 tb_m268 88 [some (.inl x0)] [] (hp L s c e) (oI L c e (q, s)) := by
        refine RuP.step (pc' := 90) (ls' := [some (.inl x0)]) (st' := [.inl 6]) (h1 := hp L s c e) rfl ?_
        subst h
        exact RuP.dI rfl
      rcases h3 with h3 | h3 <;> exact RuP.sw (i := .tableswitch (99) (7) (21) #[96, 93, 93, 90, 87, 87, 85, 85, 83, 81, 79, 77, 77, 77, 75]) rfl h3 rfl J4
    rw [if_neg h3] at h
    by_cases h4 : x0 = 13 ∨ x0 = 14
    · rw [if_pos h4] at h
      have J5 : RuP 0 tb_m268 86 [some (.inl x0)] [] (hp L s c e) (oI L c e (q, s)) := by
        refine RuP.step (pc' := 87) (ls' := [some (.inl x0)]) (st' := [.inl 5]) (h1 := hp L s c e) rfl ?_
        subst h
        exact RuP.dI rfl
      rcases h4 with h4 | h4 <;> exact RuP.sw (i := .tableswitch (99) (7) (21) #[96, 93, 93, 90, 87, 87, 85, 85, 83, 81, 79, 77, 77, 77, 75]) rfl h4 rfl J5
    rw [if_neg h4] at h
    by_cases h5 : x0 = 15
    · rw [if_pos h5] at h
      have J6 : RuP 0 tb_m268 84 [some (.inl x0)] [] (hp L s c e) (oI L c e (q, s)) := by
        refine RuP.step (pc' := 85) (ls' := [some (.inl x0)]) (st' := [.inl 4]) (h1 := hp L s c e) rfl ?_
        subst h
        exact RuP.dI rfl
      exact RuP.sw (i := .tableswitch (99) (7) (21) #[96, 93, 93, 90, 87, 87, 85, 85, 83, 81, 79, 77, 77, 77, 75]) rfl h5 rfl J6
    rw [if_neg h5] at h
    by_cases h6 : x0 = 16
    · rw [if_pos h6] at h
      have J7 : RuP 0 tb_m268 82 [some (.inl x0)] [] (hp L s c e) (oI L c e (q, s)) := by
        refine RuP.step (pc' := 83) (ls' := [some (.inl x0)]) (st' := [.inl 3]) (h1 := hp L s c e) rfl ?_
        subst h
        exact RuP.dI rfl
      exact RuP.sw (i := .tableswitch (99) (7) (21) #[96, 93, 93, 90, 87, 87, 85, 85, 83, 81, 79, 77, 77, 77, 75]) rfl h6 rfl J7
    rw [if_neg h6] at h
    by_cases h7 : x0 = 17
    · rw [if_pos h7] at h
      have J8 : RuP 0 tb_m268 80 [some (.inl x0)] [] (hp L s c e) (oI L c e (q, s)) := by
        refine RuP.step (pc' := 81) (ls' := [some (.inl x0)]) (st' := [.inl 2]) (h1 := hp L s c e) rfl ?_
        subst h
        exact RuP.dI rfl
      exact RuP.sw (i := .tableswitch (99) (7) (21) #[96, 93, 93, 90, 87, 87, 85, 85, 83, 81, 79, 77, 77, 77, 75]) rfl h7 rfl J8
    rw [if_neg h7] at h
    by_cases h8 : x0 = 18 ∨ x0 = 19 ∨ x0 = 20
    · rw [if_pos h8] at h
      have J9 : RuP 0 tb_m268 78 [some (.inl x0)] [] (hp L s c e) (oI L c e (q, s)) := by
        refine RuP.step (pc' := 79) (ls' := [some (.inl x0)]) (st' := [.inl 1]) (h1 := hp L s c e) rfl ?_
        subst h
        exact RuP.dI rfl
      rcases h8 with h8 | h8 | h8 <;> exact RuP.sw (i := .tableswitch (99) (7) (21) #[96, 93, 93, 90, 87, 87, 85, 85, 83, 81, 79, 77, 77, 77, 75]) rfl h8 rfl J9
    rw [if_neg h8] at h
    by_cases h9 : x0 = 21
    · rw [if_pos h9] at h
      have J10 : RuP 0 tb_m268 76 [some (.inl x0)] [] (hp L s c e) (oI L c e (q, s)) := by
        refine RuP.step (pc' := 77) (ls' := [some (.inl x0)]) (st' := [.inl 0]) (h1 := hp L s c e) rfl ?_
        subst h
        exact RuP.dI rfl
      exact RuP.sw (i := .tableswitch (99) (7) (21) #[96, 93, 93, 90, 87, 87, 85, 85, 83, 81, 79, 77, 77, 77, 75]) rfl h9 rfl J10
    rw [if_neg h9] at h
    refine RuP.swd (i := .tableswitch (99) (7) (21) #[96, 93, 93, 90, 87, 87, 85, 85, 83, 81, 79, 77, 77, 77, 75]) (pc' := 100) rfl (sw_td [7, 8, 9, 10, 11, 12, 13, 14, 15, 16, 17, 18, 19, 20, 21] (by intro k hk; simp only [List.mem_cons, List.not_mem_nil, or_false] at hk; omega) (by decide) (by decide)) ?_
    refine RuP.step (pc' := 102) (ls' := [some (.inl x0)]) (st' := [.inl 10]) (h1 := hp L s c e) rfl ?_
    subst h
    exact RuP.dI rfl
  exact EvP.of (μ := tb_m268) (ls := [some (.inl x0)]) rfl (Nat.le_of_ble_eq_true rfl) rfl (key _ rfl)
/-- MachineTextModel.list(II)I -/
noncomputable def j_271_49 (l2 l3 l4 : Int) (s : Sg) : Option (Int × Sg) :=
  (gd (g_252 8 s) (
  ((some (f_252 8 s)).bind fun q1 =>
  (if q1.1 = 0 then
    ((f_231 12 q1.2).bind fun q2 =>
    ((f_266 ((if l3 = 0 then 3 else 6) : Int) l2 l2 (-1) l4 (ax_u2 (ax_u2 q2.2 84 63 (ax_w32 ((q2.2 84 63) - 1))) 84 67 (ax_w32 ((q2.2 84 67) - 1)))).bind fun q3 =>
    some (0, q3)))
  else
    some (1, q1.2)))))
theorem bl_271_49 {L c : Nat} {e : Nat → Nat} : ∀ (z1 : Int) (l2 l3 l4 : Int) (s : Sg) (q : Int × Sg), j_271_49 l2 l3 l4 s = some q → RuP 2 tb_m271 49 [some (.inr (.inr (some 84))), some (.inl z1), some (.inl l2), some (.inl l3), some (.inl l4)] [] (hp L s c e) (oI L c e q) := by
  intro z1 l2 l3 l4 s q h
  unfold j_271_49 at h
  refine RuP.step (pc' := 50) (ls' := [some (.inr (.inr (some 84))), some (.inl z1), some (.inl l2), some (.inl l3), some (.inl l4)]) (st' := [.inr (.inr (some 84))]) (h1 := hp L s c e) rfl ?_
  refine RuP.step (pc' := 52) (ls' := [some (.inr (.inr (some 84))), some (.inl z1), some (.inl l2), some (.inl l3), some (.inl l4)]) (st' := [.inl 8, .inr (.inr (some 84))]) (h1 := hp L s c e) rfl ?_
  obtain ⟨b0, h⟩ := gd_some h
  obtain ⟨q1, h1, h⟩ := bd_some h
  refine RuP.cIe h1 rfl (EvP.ip ((ev_252 8 b0).up (by decide))) ?_
  by_cases h1 : q1.1 = 0
  · rw [if_pos h1] at h
    refine RuP.jy rfl h1 ?_
    refine RuP.step (pc' := 61) (ls' := [some (.inr (.inr (some 84))), some (.inl z1), some (.inl l2), some (.inl l3), some (.inl l4)]) (st' := [.inr (.inr (some 84))]) (h1 := hp L q1.2 c e) rfl ?_
    refine RuP.step (pc' := 63) (ls' := [some (.inr (.inr (some 84))), some (.inl z1), some (.inl l2), some (.inl l3), some (.inl l4)]) (st' := [.inl 12, .inr (.inr (some 84))]) (h1 := hp L q1.2 c e) rfl ?_
    obtain ⟨q2, h1, h⟩ := bd_some h
    refine RuP.cI rfl ((ev_231 h1).up (by decide)) ?_
    refine RuP.step (pc' := 67) (ls' := [some (.inr (.inr (some 84))), some (.inl z1), some (.inl l2), some (.inl l3), some (.inl l4)]) (st' := []) (h1 := hp L q2.2 c e) rfl ?_
    refine RuP.step (pc' := 68) (ls' := [some (.inr (.inr (some 84))), some (.inl z1), some (.inl l2), some (.inl l3), some (.inl l4)]) (st' := [.inr (.inr (some 84))]) (h1 := hp L q2.2 c e) rfl ?_
    refine RuP.step (pc' := 69) (ls' := [some (.inr (.inr (some 84))), some (.inl z1), some (.inl l2), some (.inl l3), some (.inl l4)]) (st' := [.inr (.inr (some 84)), .inr (.inr (some 84))]) (h1 := hp L q2.2 c e) rfl ?_
    refine RuP.step (pc' := 72) (ls' := [some (.inr (.inr (some 84))), some (.inl z1), some (.inl l2), some (.inl l3), some (.inl l4)]) (st' := [.inl (q2.2 84 63), .inr (.inr (some 84))]) (h1 := hp L q2.2 c e) rfl ?_
    refine RuP.step (pc' := 73) (ls' := [some (.inr (.inr (some 84))), some (.inl z1), some (.inl l2), some (.inl l3), some (.inl l4)]) (st' := [.inl 1, .inl (q2.2 84 63), .inr (.inr (some 84))]) (h1 := hp L q2.2 c e) rfl ?_
    refine RuP.step (pc' := 74) (ls' := [some (.inr (.inr (some 84))), some (.inl z1), some (.inl l2), some (.inl l3), some (.inl l4)]) (st' := [.inl (ax_w32 ((q2.2 84 63) - 1)), .inr (.inr (some 84))]) (h1 := hp L q2.2 c e) rfl ?_
    refine RuP.step (pc' := 77) (ls' := [some (.inr (.inr (some 84))), some (.inl z1), some (.inl l2), some (.inl l3), some (.inl l4)]) (st' := []) (h1 := hp L (ax_u2 q2.2 84 63 (ax_w32 ((q2.2 84 63) - 1))) c e) rfl ?_
    refine RuP.step (pc' := 78) (ls' := [some (.inr (.inr (some 84))), some (.inl z1), some (.inl l2), some (.inl l3), some (.inl l4)]) (st' := [.inr (.inr (some 84))]) (h1 := hp L (ax_u2 q2.2 84 63 (ax_w32 ((q2.2 84 63) - 1))) c e) rfl ?_
    refine RuP.step (pc' := 79) (ls' := [some (.inr (.inr (some 84))), some (.inl z1), some (.inl l2), some (.inl l3), some (.inl l4)]) (st' := [.inr (.inr (some 84)), .inr (.inr (some 84))]) (h1 := hp L (ax_u2 q2.2 84 63 (ax_w32 ((q2.2 84 63) - 1))) c e) rfl ?_
    refine RuP.step (pc' := 82) (ls' := [some (.inr (.inr (some 84))), some (.inl z1), some (.inl l2), some (.inl l3), some (.inl l4)]) (st' := [.inl (q2.2 84 67), .inr (.inr (some 84))]) (h1 := hp L (ax_u2 q2.2 84 63 (ax_w32 ((q2.2 84 63) - 1))) c e) rfl ?_
    refine RuP.step (pc' := 83) (ls' := [some (.inr (.inr (some 84))), some (.inl z1), some (.inl l2), some (.inl l3), some (.inl l4)]) (st' := [.inl 1, .inl (q2.2 84 67), .inr (.inr (some 84))]) (h1 := hp L (ax_u2 q2.2 84 63 (ax_w32 ((q2.2 84 63) - 1))) c e) rfl ?_
    refine RuP.step (pc' := 84) (ls' := [some (.inr (.inr (some 84))), some (.inl z1), some (.inl l2), some (.inl l3), some (.inl l4)]) (st' := [.inl (ax_w32 ((q2.2 84 67) - 1)), .inr (.inr (some 84))]) (h1 := hp L (ax_u2 q2.2 84 63 (ax_w32 ((q2.2 84 63) - 1))) c e) rfl ?_
    refine RuP.step (pc' := 87) (ls' := [some (.inr (.inr (some 84))), some (.inl z1), some (.inl l2), some (.inl l3), some (.inl l4)]) (st' := []) (h1 := hp L (ax_u2 (ax_u2 q2.2 84 63 (ax_w32 ((q2.2 84 63) - 1))) 84 67 (ax_w32 ((q2.2 84 67) - 1))) c e) rfl ?_
    refine RuP.step (pc' := 88) (ls' := [some (.inr (.inr (some 84))), some (.inl z1), some (.inl l2), some (.inl l3), some (.inl l4)]) (st' := [.inr (.inr (some 84))]) (h1 := hp L (ax_u2 (ax_u2 q2.2 84 63 (ax_w32 ((q2.2 84 63) - 1))) 84 67 (ax_w32 ((q2.2 84 67) - 1))) c e) rfl ?_
    refine RuP.step (pc' := 89) (ls' := [some (.inr (.inr (some 84))), some (.inl z1), some (.inl l2), some (.inl l3), some (.inl l4)]) (st' := [.inl l3, .inr (.inr (some 84))]) (h1 := hp L (ax_u2 (ax_u2 q2.2 84 63 (ax_w32 ((q2.2 84 63) - 1))) 84 67 (ax_w32 ((q2.2 84 67) - 1))) c e) rfl ?_
    have J3 : ∀ v2_0 : Int, v2_0 = ((if l3 = 0 then 3 else 6) : Int) → RuP 2 tb_m271 98 [some (.inr (.inr (some 84))), some (.inl z1), some (.inl l2), some (.inl l3), some (.inl l4)] [.inl v2_0, .inr (.inr (some 84))] (hp L (ax_u2 (ax_u2 q2.2 84 63 (ax_w32 ((q2.2 84 63) - 1))) 84 67 (ax_w32 ((q2.2 84 67) - 1))) c e) (oI L c e q) := by
      intro v2_0 ev2_0
      subst ev2_0
      refine RuP.step (pc' := 99) (ls' := [some (.inr (.inr (some 84))), some (.inl z1), some (.inl l2), some (.inl l3), some (.inl l4)]) (st' := [.inl l2, .inl ((if l3 = 0 then 3 else 6) : Int), .inr (.inr (some 84))]) (h1 := hp L (ax_u2 (ax_u2 q2.2 84 63 (ax_w32 ((q2.2 84 63) - 1))) 84 67 (ax_w32 ((q2.2 84 67) - 1))) c e) rfl ?_
      refine RuP.step (pc' := 100) (ls' := [some (.inr (.inr (some 84))), some (.inl z1), some (.inl l2), some (.inl l3), some (.inl l4)]) (st' := [.inl l2, .inl l2, .inl ((if l3 = 0 then 3 else 6) : Int), .inr (.inr (some 84))]) (h1 := hp L (ax_u2 (ax_u2 q2.2 84 63 (ax_w32 ((q2.2 84 63) - 1))) 84 67 (ax_w32 ((q2.2 84 67) - 1))) c e) rfl ?_
      refine RuP.step (pc' := 101) (ls' := [some (.inr (.inr (some 84))), some (.inl z1), some (.inl l2), some (.inl l3), some (.inl l4)]) (st' := [.inl (-1), .inl l2, .inl l2, .inl ((if l3 = 0 then 3 else 6) : Int), .inr (.inr (some 84))]) (h1 := hp L (ax_u2 (ax_u2 q2.2 84 63 (ax_w32 ((q2.2 84 63) - 1))) 84 67 (ax_w32 ((q2.2 84 67) - 1))) c e) rfl ?_
      refine RuP.step (pc' := 103) (ls' := [some (.inr (.inr (some 84))), some (.inl z1), some (.inl l2), some (.inl l3), some (.inl l4)]) (st' := [.inl l4, .inl (-1), .inl l2, .inl l2, .inl ((if l3 = 0 then 3 else 6) : Int), .inr (.inr (some 84))]) (h1 := hp L (ax_u2 (ax_u2 q2.2 84 63 (ax_w32 ((q2.2 84 63) - 1))) 84 67 (ax_w32 ((q2.2 84 67) - 1))) c e) rfl ?_
      obtain ⟨q3, h1, h⟩ := bd_some h
      refine RuP.cV rfl ((ev_266 h1).up (by decide)) ?_
      refine RuP.step (pc' := 107) (ls' := [some (.inr (.inr (some 84))), some (.inl z1), some (.inl l2), some (.inl l3), some (.inl l4)]) (st' := [.inl 0]) (h1 := hp L q3 c e) rfl ?_
      cases h
      exact RuP.dI rfl
    by_cases h3 : l3 = 0
    · refine RuP.jy rfl h3 ?_
      refine RuP.step (pc' := 98) (ls' := [some (.inr (.inr (some 84))), some (.inl z1), some (.inl l2), some (.inl l3), some (.inl l4)]) (st' := [.inl 3, .inr (.inr (some 84))]) (h1 := hp L (ax_u2 (ax_u2 q2.2 84 63 (ax_w32 ((q2.2 84 63) - 1))) 84 67 (ax_w32 ((q2.2 84 67) - 1))) c e) rfl ?_
      exact J3 _ (by simp only [if_pos h3])
    · refine RuP.jn rfl h3 ?_
      refine RuP.step (pc' := 94) (ls' := [some (.inr (.inr (some 84))), some (.inl z1), some (.inl l2), some (.inl l3), some (.inl l4)]) (st' := [.inl 6, .inr (.inr (some 84))]) (h1 := hp L (ax_u2 (ax_u2 q2.2 84 63 (ax_w32 ((q2.2 84 63) - 1))) 84 67 (ax_w32 ((q2.2 84 67) - 1))) c e) rfl ?_
      refine RuP.step (pc' := 98) (ls' := [some (.inr (.inr (some 84))), some (.inl z1), some (.inl l2), some (.inl l3), some (.inl l4)]) (st' := [.inl 6, .inr (.inr (some 84))]) (h1 := hp L (ax_u2 (ax_u2 q2.2 84 63 (ax_w32 ((q2.2 84 63) - 1))) 84 67 (ax_w32 ((q2.2 84 67) - 1))) c e) rfl ?_
      exact J3 _ (by simp only [if_neg h3])
  · rw [if_neg h1] at h
    refine RuP.jn rfl h1 ?_
    refine RuP.step (pc' := 59) (ls' := [some (.inr (.inr (some 84))), some (.inl z1), some (.inl l2), some (.inl l3), some (.inl l4)]) (st' := [.inl 1]) (h1 := hp L q1.2 c e) rfl ?_
    cases h
    exact RuP.dI rfl
noncomputable def f_271 (x0 x1 : Int) (s : Sg) : Option (Int × Sg) :=
  (gd (0 ≤ x0 ∧ x0 < 8200) (
  (gd (0 ≤ x0 ∧ x0 < 8200) (
  (if ((if ¬ (s 129 x0.toNat) = 105 then 0 else 1) : Int) = 0 then
    j_271_49 x1 ((if ¬ (s 129 x0.toNat) = 105 then 0 else 1) : Int) (ax_w32 ((s 84 59) - (s 131 x0.toNat))) s
  else
    (if ¬ (ax_w32 ((s 84 59) - (s 131 x0.toNat))) = 1 then
      j_271_49 x1 ((if ¬ (s 129 x0.toNat) = 105 then 0 else 1) : Int) (ax_w32 ((s 84 59) - (s 131 x0.toNat))) s
    else
      ((f_231 8 s).bind fun q4 =>
      some (1, q4.2))))))))
theorem ev_271 {L c : Nat} {e : Nat → Nat} {s : Sg} {x0 x1 : Int} {q : Int × Sg} (h : f_271 x0 x1 s = some q) : EvP 3 271 [.inr (.inr (some 84)), .inl x0, .inl x1] (hp L s c e) (oI L c e q) := by
  unfold f_271 at h
  refine EvP.of (μ := tb_m271) (ls := [some (.inr (.inr (some 84))), some (.inl x0), some (.inl x1), none, none]) rfl (Nat.le_of_ble_eq_true rfl) rfl ?_
  refine RuP.step (pc' := 1) (ls' := [some (.inr (.inr (some 84))), some (.inl x0), some (.inl x1), none, none]) (st' := [.inr (.inr (some 84))]) (h1 := hp L s c e) rfl ?_
  refine RuP.step (pc' := 4) (ls' := [some (.inr (.inr (some 84))), some (.inl x0), some (.inl x1), none, none]) (st' := [.inr (.inr (some 129))]) (h1 := hp L s c e) rfl ?_
  refine RuP.step (pc' := 5) (ls' := [some (.inr (.inr (some 84))), some (.inl x0), some (.inl x1), none, none]) (st' := [.inl x0, .inr (.inr (some 129))]) (h1 := hp L s c e) rfl ?_
  obtain ⟨b0, h⟩ := gd_some h
  refine RuP.ald (f := fun t => t == 0) (j := x0) (a := 129) rfl rfl b0.1 b0.2 ?_
  refine RuP.step (pc' := 8) (ls' := [some (.inr (.inr (some 84))), some (.inl x0), some (.inl x1), none, none]) (st' := [.inl 105, .inl (s 129 x0.toNat)]) (h1 := hp L s c e) rfl ?_
  have J2 : ∀ v1_0 : Int, v1_0 = ((if ¬ (s 129 x0.toNat) = 105 then 0 else 1) : Int) → RuP 2 tb_m271 16 [some (.inr (.inr (some 84))), some (.inl x0), some (.inl x1), none, none] [.inl v1_0] (hp L s c e) (oI L c e q) := by
    intro v1_0 ev1_0
    subst ev1_0
    refine RuP.step (pc' := 17) (ls' := [some (.inr (.inr (some 84))), some (.inl x0), some (.inl x1), some (.inl ((if ¬ (s 129 x0.toNat) = 105 then 0 else 1) : Int)), none]) (st' := []) (h1 := hp L s c e) rfl ?_
    refine RuP.step (pc' := 18) (ls' := [some (.inr (.inr (some 84))), some (.inl x0), some (.inl x1), some (.inl ((if ¬ (s 129 x0.toNat) = 105 then 0 else 1) : Int)), none]) (st' := [.inr (.inr (some 84))]) (h1 := hp L s c e) rfl ?_
    refine RuP.step (pc' := 21) (ls' := [some (.inr (.inr (some 84))), some (.inl x0), some (.inl x1), some (.inl ((if ¬ (s 129 x0.toNat) = 105 then 0 else 1) : Int)), none]) (st' := [.inl (s 84 59)]) (h1 := hp L s c e) rfl ?_
    refine RuP.step (pc' := 22) (ls' := [some (.inr (.inr (some 84))), some (.inl x0), some (.inl x1), some (.inl ((if ¬ (s 129 x0.toNat) = 105 then 0 else 1) : Int)), none]) (st' := [.inr (.inr (some 84)), .inl (s 84 59)]) (h1 := hp L s c e) rfl ?_
    refine RuP.step (pc' := 25) (ls' := [some (.inr (.inr (some 84))), some (.inl x0), some (.inl x1), some (.inl ((if ¬ (s 129 x0.toNat) = 105 then 0 else 1) : Int)), none]) (st' := [.inr (.inr (some 131)), .inl (s 84 59)]) (h1 := hp L s c e) rfl ?_
    refine RuP.step (pc' := 26) (ls' := [some (.inr (.inr (some 84))), some (.inl x0), some (.inl x1), some (.inl ((if ¬ (s 129 x0.toNat) = 105 then 0 else 1) : Int)), none]) (st' := [.inl x0, .inr (.inr (some 131)), .inl (s 84 59)]) (h1 := hp L s c e) rfl ?_
    obtain ⟨b2, h⟩ := gd_some h
    refine RuP.ald (f := fun t => t == 0) (j := x0) (a := 131) rfl rfl b2.1 b2.2 ?_
    refine RuP.step (pc' := 28) (ls' := [some (.inr (.inr (some 84))), some (.inl x0), some (.inl x1), some (.inl ((if ¬ (s 129 x0.toNat) = 105 then 0 else 1) : Int)), none]) (st' := [.inl (ax_w32 ((s 84 59) - (s 131 x0.toNat)))]) (h1 := hp L s c e) rfl ?_
    refine RuP.step (pc' := 30) (ls' := [some (.inr (.inr (some 84))), some (.inl x0), some (.inl x1), some (.inl ((if ¬ (s 129 x0.toNat) = 105 then 0 else 1) : Int)), some (.inl (ax_w32 ((s 84 59) - (s 131 x0.toNat))))]) (st' := []) (h1 := hp L s c e) rfl ?_
    refine RuP.step (pc' := 31) (ls' := [some (.inr (.inr (some 84))), some (.inl x0), some (.inl x1), some (.inl ((if ¬ (s 129 x0.toNat) = 105 then 0 else 1) : Int)), some (.inl (ax_w32 ((s 84 59) - (s 131 x0.toNat))))]) (st' := [.inl ((if ¬ (s 129 x0.toNat) = 105 then 0 else 1) : Int)]) (h1 := hp L s c e) rfl ?_
    by_cases h3 : ((if ¬ (s 129 x0.toNat) = 105 then 0 else 1) : Int) = 0
    · rw [if_pos h3] at h
      refine RuP.jy rfl h3 ?_
      exact bl_271_49 _ _ _ _ _ _ h
    · rw [if_neg h3] at h
      refine RuP.jn rfl h3 ?_
      refine RuP.step (pc' := 36) (ls' := [some (.inr (.inr (some 84))), some (.inl x0), some (.inl x1), some (.inl ((if ¬ (s 129 x0.toNat) = 105 then 0 else 1) : Int)), some (.inl (ax_w32 ((s 84 59) - (s 131 x0.toNat))))]) (st' := [.inl (ax_w32 ((s 84 59) - (s 131 x0.toNat)))]) (h1 := hp L s c e) rfl ?_
      refine RuP.step (pc' := 37) (ls' := [some (.inr (.inr (some 84))), some (.inl x0), some (.inl x1), some (.inl ((if ¬ (s 129 x0.toNat) = 105 then 0 else 1) : Int)), some (.inl (ax_w32 ((s 84 59) - (s 131 x0.toNat))))]) (st' := [.inl 1, .inl (ax_w32 ((s 84 59) - (s 131 x0.toNat)))]) (h1 := hp L s c e) rfl ?_
      by_cases h4 : ¬ (ax_w32 ((s 84 59) - (s 131 x0.toNat))) = 1
      · rw [if_pos h4] at h
        refine RuP.jy rfl h4 ?_
        exact bl_271_49 _ _ _ _ _ _ h
      · rw [if_neg h4] at h
        refine RuP.jn rfl h4 ?_
        refine RuP.step (pc' := 41) (ls' := [some (.inr (.inr (some 84))), some (.inl x0), some (.inl x1), some (.inl ((if ¬ (s 129 x0.toNat) = 105 then 0 else 1) : Int)), some (.inl (ax_w32 ((s 84 59) - (s 131 x0.toNat))))]) (st' := [.inr (.inr (some 84))]) (h1 := hp L s c e) rfl ?_
        refine RuP.step (pc' := 43) (ls' := [some (.inr (.inr (some 84))), some (.inl x0), some (.inl x1), some (.inl ((if ¬ (s 129 x0.toNat) = 105 then 0 else 1) : Int)), some (.inl (ax_w32 ((s 84 59) - (s 131 x0.toNat))))]) (st' := [.inl 8, .inr (.inr (some 84))]) (h1 := hp L s c e) rfl ?_
        obtain ⟨q4, h1, h⟩ := bd_some h
        refine RuP.cI rfl ((ev_231 h1).up (by decide)) ?_
        refine RuP.step (pc' := 47) (ls' := [some (.inr (.inr (some 84))), some (.inl x0), some (.inl x1), some (.inl ((if ¬ (s 129 x0.toNat) = 105 then 0 else 1) : Int)), some (.inl (ax_w32 ((s 84 59) - (s 131 x0.toNat))))]) (st' := []) (h1 := hp L q4.2 c e) rfl ?_
        refine RuP.step (pc' := 48) (ls' := [some (.inr (.inr (some 84))), some (.inl x0), some (.inl x1), some (.inl ((if ¬ (s 129 x0.toNat) = 105 then 0 else 1) : Int)), some (.inl (ax_w32 ((s 84 59) - (s 131 x0.toNat))))]) (st' := [.inl 1]) (h1 := hp L q4.2 c e) rfl ?_
        cases h
        exact RuP.dI rfl
  by_cases h5 : ¬ (s 129 x0.toNat) = 105
  · refine RuP.jy rfl h5 ?_
    refine RuP.step (pc' := 16) (ls' := [some (.inr (.inr (some 84))), some (.inl x0), some (.inl x1), none, none]) (st' := [.inl 0]) (h1 := hp L s c e) rfl ?_
    exact J2 _ (by simp only [if_pos h5])
  · refine RuP.jn rfl h5 ?_
    refine RuP.step (pc' := 12) (ls' := [some (.inr (.inr (some 84))), some (.inl x0), some (.inl x1), none, none]) (st' := [.inl 1]) (h1 := hp L s c e) rfl ?_
    refine RuP.step (pc' := 16) (ls' := [some (.inr (.inr (some 84))), some (.inl x0), some (.inl x1), none, none]) (st' := [.inl 1]) (h1 := hp L s c e) rfl ?_
    exact J2 _ (by simp only [if_neg h5])
/-- java/lang/Integer.numberOfTrailingZeros(I)I -/
def f_295 (x0 : Int) (s : Sg) : Int :=
  (if 0 < ax_iand (ax_ixor x0 (-1)) (ax_w32 (x0 - 1)) then
    (if ((if ((if ((if ax_iand (ax_ixor x0 (-1)) (ax_w32 (x0 - 1)) ≤ 65536 then ax_iand (ax_ixor x0 (-1)) (ax_w32 (x0 - 1)) else ax_iushr (ax_iand (ax_ixor x0 (-1)) (ax_w32 (x0 - 1))) 16) : Int) ≤ 256 then ((if ax_iand (ax_ixor x0 (-1)) (ax_w32 (x0 - 1)) ≤ 65536 then ax_iand (ax_ixor x0 (-1)) (ax_w32 (x0 - 1)) else ax_iushr (ax_iand (ax_ixor x0 (-1)) (ax_w32 (x0 - 1))) 16) : Int) else ax_iushr ((if ax_iand (ax_ixor x0 (-1)) (ax_w32 (x0 - 1)) ≤ 65536 then ax_iand (ax_ixor x0 (-1)) (ax_w32 (x0 - 1)) else ax_iushr (ax_iand (ax_ixor x0 (-1)) (ax_w32 (x0 - 1))) 16) : Int) 8) : Int) ≤ 16 then ((if ((if ax_iand (ax_ixor x0 (-1)) (ax_w32 (x0 - 1)) ≤ 65536 then ax_iand (ax_ixor x0 (-1)) (ax_w32 (x0 - 1)) else ax_iushr (ax_iand (ax_ixor x0 (-1)) (ax_w32 (x0 - 1))) 16) : Int) ≤ 256 then ((if ax_iand (ax_ixor x0 (-1)) (ax_w32 (x0 - 1)) ≤ 65536 then ax_iand (ax_ixor x0 (-1)) (ax_w32 (x0 - 1)) else ax_iushr (ax_iand (ax_ixor x0 (-1)) (ax_w32 (x0 - 1))) 16) : Int) else ax_iushr ((if ax_iand (ax_ixor x0 (-1)) (ax_w32 (x0 - 1)) ≤ 65536 then ax_iand (ax_ixor x0 (-1)) (ax_w32 (x0 - 1)) else ax_iushr (ax_iand (ax_ixor x0 (-1)) (ax_w32 (x0 - 1))) 16) : Int) 8) : Int) else ax_iushr ((if ((if ax_iand (ax_ixor x0 (-1)) (ax_w32 (x0 - 1)) ≤ 65536 then ax_iand (ax_ixor x0 (-1)) (ax_w32 (x0 - 1)) else ax_iushr (ax_iand (ax_ixor x0 (-1)) (ax_w32 (x0 - 1))) 16) : Int) ≤ 256 then ((if ax_iand (ax_ixor x0 (-1)) (ax_w32 (x0 - 1)) ≤ 65536 then ax_iand (ax_ixor x0 (-1)) (ax_w32 (x0 - 1)) else ax_iushr (ax_iand (ax_ixor x0 (-1)) (ax_w32 (x0 - 1))) 16) : Int) else ax_iushr ((if ax_iand (ax_ixor x0 (-1)) (ax_w32 (x0 - 1)) ≤ 65536 then ax_iand (ax_ixor x0 (-1)) (ax_w32 (x0 - 1)) else ax_iushr (ax_iand (ax_ixor x0 (-1)) (ax_w32 (x0 - 1))) 16) : Int) 8) : Int) 4) : Int) ≤ 4 then
      (ax_w32 (((if ((if ((if ax_iand (ax_ixor x0 (-1)) (ax_w32 (x0 - 1)) ≤ 65536 then ax_iand (ax_ixor x0 (-1)) (ax_w32 (x0 - 1)) else ax_iushr (ax_iand (ax_ixor x0 (-1)) (ax_w32 (x0 - 1))) 16) : Int) ≤ 256 then ((if ax_iand (ax_ixor x0 (-1)) (ax_w32 (x0 - 1)) ≤ 65536 then ax_iand (ax_ixor x0 (-1)) (ax_w32 (x0 - 1)) else ax_iushr (ax_iand (ax_ixor x0 (-1)) (ax_w32 (x0 - 1))) 16) : Int) else ax_iushr ((if ax_iand (ax_ixor x0 (-1)) (ax_w32 (x0 - 1)) ≤ 65536 then ax_iand (ax_ixor x0 (-1)) (ax_w32 (x0 - 1)) else ax_iushr (ax_iand (ax_ixor x0 (-1)) (ax_w32 (x0 - 1))) 16) : Int) 8) : Int) ≤ 16 then ((if ((if ax_iand (ax_ixor x0 (-1)) (ax_w32 (x0 - 1)) ≤ 65536 then ax_iand (ax_ixor x0 (-1)) (ax_w32 (x0 - 1)) else ax_iushr (ax_iand (ax_ixor x0 (-1)) (ax_w32 (x0 - 1))) 16) : Int) ≤ 256 then ((if ax_iand (ax_ixor x0 (-1)) (ax_w32 (x0 - 1)) ≤ 65536 then 1 else ax_w32 (1 + 16)) : Int) else ax_w32 (((if ax_iand (ax_ixor x0 (-1)) (ax_w32 (x0 - 1)) ≤ 65536 then 1 else ax_w32 (1 + 16)) : Int) + 8)) : Int) else ax_w32 (((if ((if ax_iand (ax_ixor x0 (-1)) (ax_w32 (x0 - 1)) ≤ 65536 then ax_iand (ax_ixor x0 (-1)) (ax_w32 (x0 - 1)) else ax_iushr (ax_iand (ax_ixor x0 (-1)) (ax_w32 (x0 - 1))) 16) : Int) ≤ 256 then ((if ax_iand (ax_ixor x0 (-1)) (ax_w32 (x0 - 1)) ≤ 65536 then 1 else ax_w32 (1 + 16)) : Int) else ax_w32 (((if ax_iand (ax_ixor x0 (-1)) (ax_w32 (x0 - 1)) ≤ 65536 then 1 else ax_w32 (1 + 16)) : Int) + 8)) : Int) + 4)) : Int) + (ax_iushr ((if ((if ((if ax_iand (ax_ixor x0 (-1)) (ax_w32 (x0 - 1)) ≤ 65536 then ax_iand (ax_ixor x0 (-1)) (ax_w32 (x0 - 1)) else ax_iushr (ax_iand (ax_ixor x0 (-1)) (ax_w32 (x0 - 1))) 16) : Int) ≤ 256 then ((if ax_iand (ax_ixor x0 (-1)) (ax_w32 (x0 - 1)) ≤ 65536 then ax_iand (ax_ixor x0 (-1)) (ax_w32 (x0 - 1)) else ax_iushr (ax_iand (ax_ixor x0 (-1)) (ax_w32 (x0 - 1))) 16) : Int) else ax_iushr ((if ax_iand (ax_ixor x0 (-1)) (ax_w32 (x0 - 1)) ≤ 65536 then ax_iand (ax_ixor x0 (-1)) (ax_w32 (x0 - 1)) else ax_iushr (ax_iand (ax_ixor x0 (-1)) (ax_w32 (x0 - 1))) 16) : Int) 8) : Int) ≤ 16 then ((if ((if ax_iand (ax_ixor x0 (-1)) (ax_w32 (x0 - 1)) ≤ 65536 then ax_iand (ax_ixor x0 (-1)) (ax_w32 (x0 - 1)) else ax_iushr (ax_iand (ax_ixor x0 (-1)) (ax_w32 (x0 - 1))) 16) : Int) ≤ 256 then ((if ax_iand (ax_ixor x0 (-1)) (ax_w32 (x0 - 1)) ≤ 65536 then ax_iand (ax_ixor x0 (-1)) (ax_w32 (x0 - 1)) else ax_iushr (ax_iand (ax_ixor x0 (-1)) (ax_w32 (x0 - 1))) 16) : Int) else ax_iushr ((if ax_iand (ax_ixor x0 (-1)) (ax_w32 (x0 - 1)) ≤ 65536 then ax_iand (ax_ixor x0 (-1)) (ax_w32 (x0 - 1)) else ax_iushr (ax_iand (ax_ixor x0 (-1)) (ax_w32 (x0 - 1))) 16) : Int) 8) : Int) else ax_iushr ((if ((if ax_iand (ax_ixor x0 (-1)) (ax_w32 (x0 - 1)) ≤ 65536 then ax_iand (ax_ixor x0 (-1)) (ax_w32 (x0 - 1)) else ax_iushr (ax_iand (ax_ixor x0 (-1)) (ax_w32 (x0 - 1))) 16) : Int) ≤ 256 then ((if ax_iand (ax_ixor x0 (-1)) (ax_w32 (x0 - 1)) ≤ 65536 then ax_iand (ax_ixor x0 (-1)) (ax_w32 (x0 - 1)) else ax_iushr (ax_iand (ax_ixor x0 (-1)) (ax_w32 (x0 - 1))) 16) : Int) else ax_iushr ((if ax_iand (ax_ixor x0 (-1)) (ax_w32 (x0 - 1)) ≤ 65536 then ax_iand (ax_ixor x0 (-1)) (ax_w32 (x0 - 1)) else ax_iushr (ax_iand (ax_ixor x0 (-1)) (ax_w32 (x0 - 1))) 16) : Int) 8) : Int) 4) : Int) 1)))
    else
      (ax_w32 ((ax_w32 (((if ((if ((if ax_iand (ax_ixor x0 (-1)) (ax_w32 (x0 - 1)) ≤ 65536 then ax_iand (ax_ixor x0 (-1)) (ax_w32 (x0 - 1)) else ax_iushr (ax_iand (ax_ixor x0 (-1)) (ax_w32 (x0 - 1))) 16) : Int) ≤ 256 then ((if ax_iand (ax_ixor x0 (-1)) (ax_w32 (x0 - 1)) ≤ 65536 then ax_iand (ax_ixor x0 (-1)) (ax_w32 (x0 - 1)) else ax_iushr (ax_iand (ax_ixor x0 (-1)) (ax_w32 (x0 - 1))) 16) : Int) else ax_iushr ((if ax_iand (ax_ixor x0 (-1)) (ax_w32 (x0 - 1)) ≤ 65536 then ax_iand (ax_ixor x0 (-1)) (ax_w32 (x0 - 1)) else ax_iushr (ax_iand (ax_ixor x0 (-1)) (ax_w32 (x0 - 1))) 16) : Int) 8) : Int) ≤ 16 then ((if ((if ax_iand (ax_ixor x0 (-1)) (ax_w32 (x0 - 1)) ≤ 65536 then ax_iand (ax_ixor x0 (-1)) (ax_w32 (x0 - 1)) else ax_iushr (ax_iand (ax_ixor x0 (-1)) (ax_w32 (x0 - 1))) 16) : Int) ≤ 256 then ((if ax_iand (ax_ixor x0 (-1)) (ax_w32 (x0 - 1)) ≤ 65536 then 1 else ax_w32 (1 + 16)) : Int) else ax_w32 (((if ax_iand (ax_ixor x0 (-1)) (ax_w32 (x0 - 1)) ≤ 65536 then 1 else ax_w32 (1 + 16)) : Int) + 8)) : Int) else ax_w32 (((if ((if ax_iand (ax_ixor x0 (-1)) (ax_w32 (x0 - 1)) ≤ 65536 then ax_iand (ax_ixor x0 (-1)) (ax_w32 (x0 - 1)) else ax_iushr (ax_iand (ax_ixor x0 (-1)) (ax_w32 (x0 - 1))) 16) : Int) ≤ 256 then ((if ax_iand (ax_ixor x0 (-1)) (ax_w32 (x0 - 1)) ≤ 65536 then 1 else ax_w32 (1 + 16)) : Int) else ax_w32 (((if ax_iand (ax_ixor x0 (-1)) (ax_w32 (x0 - 1)) ≤ 65536 then 1 else ax_w32 (1 + 16)) : Int) + 8)) : Int) + 4)) : Int) + 2)) + (ax_iushr (ax_iushr ((if ((if ((if ax_iand (ax_ixor x0 (-1)) (ax_w32 (x0 - 1)) ≤ 65536 then ax_iand (ax_ixor x0 (-1)) (ax_w32 (x0 - 1)) else ax_iushr (ax_iand (ax_ixor x0 (-1)) (ax_w32 (x0 - 1))) 16) : Int) ≤ 256 then ((if ax_iand (ax_ixor x0 (-1)) (ax_w32 (x0 - 1)) ≤ 65536 then ax_iand (ax_ixor x0 (-1)) (ax_w32 (x0 - 1)) else ax_iushr (ax_iand (ax_ixor x0 (-1)) (ax_w32 (x0 - 1))) 16) : Int) else ax_iushr ((if ax_iand (ax_ixor x0 (-1)) (ax_w32 (x0 - 1)) ≤ 65536 then ax_iand (ax_ixor x0 (-1)) (ax_w32 (x0 - 1)) else ax_iushr (ax_iand (ax_ixor x0 (-1)) (ax_w32 (x0 - 1))) 16) : Int) 8) : Int) ≤ 16 then ((if ((if ax_iand (ax_ixor x0 (-1)) (ax_w32 (x0 - 1)) ≤ 65536 then ax_iand (ax_ixor x0 (-1)) (ax_w32 (x0 - 1)) else ax_iushr (ax_iand (ax_ixor x0 (-1)) (ax_w32 (x0 - 1))) 16) : Int) ≤ 256 then ((if ax_iand (ax_ixor x0 (-1)) (ax_w32 (x0 - 1)) ≤ 65536 then ax_iand (ax_ixor x0 (-1)) (ax_w32 (x0 - 1)) else ax_iushr (ax_iand (ax_ixor x0 (-1)) (ax_w32 (x0 - 1))) 16) : Int) else ax_iushr ((if ax_iand (ax_ixor x0 (-1)) (ax_w32 (x0 - 1)) ≤ 65536 then ax_iand (ax_ixor x0 (-1)) (ax_w32 (x0 - 1)) else ax_iushr (ax_iand (ax_ixor x0 (-1)) (ax_w32 (x0 - 1))) 16) : Int) 8) : Int) else ax_iushr ((if ((if ax_iand (ax_ixor x0 (-1)) (ax_w32 (x0 - 1)) ≤ 65536 then ax_iand (ax_ixor x0 (-1)) (ax_w32 (x0 - 1)) else ax_iushr (ax_iand (ax_ixor x0 (-1)) (ax_w32 (x0 - 1))) 16) : Int) ≤ 256 then ((if ax_iand (ax_ixor x0 (-1)) (ax_w32 (x0 - 1)) ≤ 65536 then ax_iand (ax_ixor x0 (-1)) (ax_w32 (x0 - 1)) else ax_iushr (ax_iand (ax_ixor x0 (-1)) (ax_w32 (x0 - 1))) 16) : Int) else ax_iushr ((if ax_iand (ax_ixor x0 (-1)) (ax_w32 (x0 - 1)) ≤ 65536 then ax_iand (ax_ixor x0 (-1)) (ax_w32 (x0 - 1)) else ax_iushr (ax_iand (ax_ixor x0 (-1)) (ax_w32 (x0 - 1))) 16) : Int) 8) : Int) 4) : Int) 2) 1))))
  else
    (ax_iand (ax_iand (ax_ixor x0 (-1)) (ax_w32 (x0 - 1))) 32))
theorem ev_295 {L c : Nat} {e : Nat → Nat} {s : Sg} (x0 : Int) : EvP 1 295 [.inl x0] (hp L s c e) (oI L c e (f_295 x0 s, s)) := by
  have key : ∀ q, f_295 x0 s = q → RuP 0 tb_m295 0 [some (.inl x0), none] [] (hp L s c e) (oI L c e (q, s)) := by
    intro q h
    unfold f_295 at h
    refine RuP.step (pc' := 1) (ls' := [some (.inl x0), none]) (st' := [.inl x0]) (h1 := hp L s c e) rfl ?_
    refine RuP.step (pc' := 2) (ls' := [some (.inl x0), none]) (st' := [.inl (-1), .inl x0]) (h1 := hp L s c e) rfl ?_
    refine RuP.step (pc' := 3) (ls' := [some (.inl x0), none]) (st' := [.inl (ax_ixor x0 (-1))]) (h1 := hp L s c e) rfl ?_
    refine RuP.step (pc' := 4) (ls' := [some (.inl x0), none]) (st' := [.inl x0, .inl (ax_ixor x0 (-1))]) (h1 := hp L s c e) rfl ?_
    refine RuP.step (pc' := 5) (ls' := [some (.inl x0), none]) (st' := [.inl 1, .inl x0, .inl (ax_ixor x0 (-1))]) (h1 := hp L s c e) rfl ?_
    refine RuP.step (pc' := 6) (ls' := [some (.inl x0), none]) (st' := [.inl (ax_w32 (x0 - 1)), .inl (ax_ixor x0 (-1))]) (h1 := hp L s c e) rfl ?_
    refine RuP.step (pc' := 7) (ls' := [some (.inl x0), none]) (st' := [.inl (ax_iand (ax_ixor x0 (-1)) (ax_w32 (x0 - 1)))]) (h1 := hp L s c e) rfl ?_
    refine RuP.step (pc' := 8) (ls' := [some (.inl (ax_iand (ax_ixor x0 (-1)) (ax_w32 (x0 - 1)))), none]) (st' := []) (h1 := hp L s c e) rfl ?_
    refine RuP.step (pc' := 9) (ls' := [some (.inl (ax_iand (ax_ixor x0 (-1)) (ax_w32 (x0 - 1)))), none]) (st' := [.inl (ax_iand (ax_ixor x0 (-1)) (ax_w32 (x0 - 1)))]) (h1 := hp L s c e) rfl ?_
    by_cases h0 : 0 < ax_iand (ax_ixor x0 (-1)) (ax_w32 (x0 - 1))
    · rw [if_pos h0] at h
      refine RuP.jy rfl h0 ?_
      refine RuP.step (pc' := 18) (ls' := [some (.inl (ax_iand (ax_ixor x0 (-1)) (ax_w32 (x0 - 1)))), none]) (st' := [.inl 1]) (h1 := hp L s c e) rfl ?_
      refine RuP.step (pc' := 19) (ls' := [some (.inl (ax_iand (ax_ixor x0 (-1)) (ax_w32 (x0 - 1)))), some (.inl 1)]) (st' := []) (h1 := hp L s c e) rfl ?_
      refine RuP.step (pc' := 20) (ls' := [some (.inl (ax_iand (ax_ixor x0 (-1)) (ax_w32 (x0 - 1)))), some (.inl 1)]) (st' := [.inl (ax_iand (ax_ixor x0 (-1)) (ax_w32 (x0 - 1)))]) (h1 := hp L s c e) rfl ?_
      refine RuP.step (pc' := 23) (ls' := [some (.inl (ax_iand (ax_ixor x0 (-1)) (ax_w32 (x0 - 1)))), some (.inl 1)]) (st' := [.inl 65536, .inl (ax_iand (ax_ixor x0 (-1)) (ax_w32 (x0 - 1)))]) (h1 := hp L s c e) rfl ?_
      have J2 : ∀ v1_0 : Int, v1_0 = ((if ax_iand (ax_ixor x0 (-1)) (ax_w32 (x0 - 1)) ≤ 65536 then ax_iand (ax_ixor x0 (-1)) (ax_w32 (x0 - 1)) else ax_iushr (ax_iand (ax_ixor x0 (-1)) (ax_w32 (x0 - 1))) 16) : Int) → ∀ v1_1 : Int, v1_1 = ((if ax_iand (ax_ixor x0 (-1)) (ax_w32 (x0 - 1)) ≤ 65536 then 1 else ax_w32 (1 + 16)) : Int) → RuP 0 tb_m295 34 [some (.inl v1_0), some (.inl v1_1)] [] (hp L s c e) (oI L c e (q, s)) := by
        intro v1_0 ev1_0
        subst ev1_0
        intro v1_1 ev1_1
        subst ev1_1
        refine RuP.step (pc' := 35) (ls' := [some (.inl ((if ax_iand (ax_ixor x0 (-1)) (ax_w32 (x0 - 1)) ≤ 65536 then ax_iand (ax_ixor x0 (-1)) (ax_w32 (x0 - 1)) else ax_iushr (ax_iand (ax_ixor x0 (-1)) (ax_w32 (x0 - 1))) 16) : Int)), some (.inl ((if ax_iand (ax_ixor x0 (-1)) (ax_w32 (x0 - 1)) ≤ 65536 then 1 else ax_w32 (1 + 16)) : Int))]) (st' := [.inl ((if ax_iand (ax_ixor x0 (-1)) (ax_w32 (x0 - 1)) ≤ 65536 then ax_iand (ax_ixor x0 (-1)) (ax_w32 (x0 - 1)) else ax_iushr (ax_iand (ax_ixor x0 (-1)) (ax_w32 (x0 - 1))) 16) : Int)]) (h1 := hp L s c e) rfl ?_
        refine RuP.step (pc' := 38) (ls' := [some (.inl ((if ax_iand (ax_ixor x0 (-1)) (ax_w32 (x0 - 1)) ≤ 65536 then ax_iand (ax_ixor x0 (-1)) (ax_w32 (x0 - 1)) else ax_iushr (ax_iand (ax_ixor x0 (-1)) (ax_w32 (x0 - 1))) 16) : Int)), some (.inl ((if ax_iand (ax_ixor x0 (-1)) (ax_w32 (x0 - 1)) ≤ 65536 then 1 else ax_w32 (1 + 16)) : Int))]) (st' := [.inl 256, .inl ((if ax_iand (ax_ixor x0 (-1)) (ax_w32 (x0 - 1)) ≤ 65536 then ax_iand (ax_ixor x0 (-1)) (ax_w32 (x0 - 1)) else ax_iushr (ax_iand (ax_ixor x0 (-1)) (ax_w32 (x0 - 1))) 16) : Int)]) (h1 := hp L s c e) rfl ?_
        have J3 : ∀ v2_0 : Int, v2_0 = ((if ((if ax_iand (ax_ixor x0 (-1)) (ax_w32 (x0 - 1)) ≤ 65536 then ax_iand (ax_ixor x0 (-1)) (ax_w32 (x0 - 1)) else ax_iushr (ax_iand (ax_ixor x0 (-1)) (ax_w32 (x0 - 1))) 16) : Int) ≤ 256 then ((if ax_iand (ax_ixor x0 (-1)) (ax_w32 (x0 - 1)) ≤ 65536 then ax_iand (ax_ixor x0 (-1)) (ax_w32 (x0 - 1)) else ax_iushr (ax_iand (ax_ixor x0 (-1)) (ax_w32 (x0 - 1))) 16) : Int) else ax_iushr ((if ax_iand (ax_ixor x0 (-1)) (ax_w32 (x0 - 1)) ≤ 65536 then ax_iand (ax_ixor x0 (-1)) (ax_w32 (x0 - 1)) else ax_iushr (ax_iand (ax_ixor x0 (-1)) (ax_w32 (x0 - 1))) 16) : Int) 8) : Int) → ∀ v2_1 : Int, v2_1 = ((if ((if ax_iand (ax_ixor x0 (-1)) (ax_w32 (x0 - 1)) ≤ 65536 then ax_iand (ax_ixor x0 (-1)) (ax_w32 (x0 - 1)) else ax_iushr (ax_iand (ax_ixor x0 (-1)) (ax_w32 (x0 - 1))) 16) : Int) ≤ 256 then ((if ax_iand (ax_ixor x0 (-1)) (ax_w32 (x0 - 1)) ≤ 65536 then 1 else ax_w32 (1 + 16)) : Int) else ax_w32 (((if ax_iand (ax_ixor x0 (-1)) (ax_w32 (x0 - 1)) ≤ 65536 then 1 else ax_w32 (1 + 16)) : Int) + 8)) : Int) → RuP 0 tb_m295 49 [some (.inl v2_0), some (.inl v2_1)] [] (hp L s c e) (oI L c e (q, s)) := by
          intro v2_0 ev2_0
          subst ev2_0
          intro v2_1 ev2_1
          subst ev2_1
          refine RuP.step (pc' := 50) (ls' := [some (.inl ((if ((if ax_iand (ax_ixor x0 (-1)) (ax_w32 (x0 - 1)) ≤ 65536 then ax_iand (ax_ixor x0 (-1)) (ax_w32 (x0 - 1)) else ax_iushr (ax_iand (ax_ixor x0 (-1)) (ax_w32 (x0 - 1))) 16) : Int) ≤ 256 then ((if ax_iand (ax_ixor x0 (-1)) (ax_w32 (x0 - 1)) ≤ 65536 then ax_iand (ax_ixor x0 (-1)) (ax_w32 (x0 - 1)) else ax_iushr (ax_iand (ax_ixor x0 (-1)) (ax_w32 (x0 - 1))) 16) : Int) else ax_iushr ((if ax_iand (ax_ixor x0 (-1)) (ax_w32 (x0 - 1)) ≤ 65536 then ax_iand (ax_ixor x0 (-1)) (ax_w32 (x0 - 1)) else ax_iushr (ax_iand (ax_ixor x0 (-1)) (ax_w32 (x0 - 1))) 16) : Int) 8) : Int)), some (.inl ((if ((if ax_iand (ax_ixor x0 (-1)) (ax_w32 (x0 - 1)) ≤ 65536 then ax_iand (ax_ixor x0 (-1)) (ax_w32 (x0 - 1)) else ax_iushr (ax_iand (ax_ixor x0 (-1)) (ax_w32 (x0 - 1))) 16) : Int) ≤ 256 then ((if ax_iand (ax_ixor x0 (-1)) (ax_w32 (x0 - 1)) ≤ 65536 then 1 else ax_w32 (1 + 16)) : Int) else ax_w32 (((if ax_iand (ax_ixor x0 (-1)) (ax_w32 (x0 - 1)) ≤ 65536 then 1 else ax_w32 (1 + 16)) : Int) + 8)) : Int))]) (st' := [.inl ((if ((if ax_iand (ax_ixor x0 (-1)) (ax_w32 (x0 - 1)) ≤ 65536 then ax_iand (ax_ixor x0 (-1)) (ax_w32 (x0 - 1)) else ax_iushr (ax_iand (ax_ixor x0 (-1)) (ax_w32 (x0 - 1))) 16) : Int) ≤ 256 then ((if ax_iand (ax_ixor x0 (-1)) (ax_w32 (x0 - 1)) ≤ 65536 then ax_iand (ax_ixor x0 (-1)) (ax_w32 (x0 - 1)) else ax_iushr (ax_iand (ax_ixor x0 (-1)) (ax_w32 (x0 - 1))) 16) : Int) else ax_iushr ((if ax_iand (ax_ixor x0 (-1)) (ax_w32 (x0 - 1)) ≤ 65536 then ax_iand (ax_ixor x0 (-1)) (ax_w32 (x0 - 1)) else ax_iushr (ax_iand (ax_ixor x0 (-1)) (ax_w32 (x0 - 1))) 16) : Int) 8) : Int)]) (h1 := hp L s c e) rfl ?_
          refine RuP.step (pc' := 52) (ls' := [some (.inl ((if ((if ax_iand (ax_ixor x0 (-1)) (ax_w32 (x0 - 1)) ≤ 65536 then ax_iand (ax_ixor x0 (-1)) (ax_w32 (x0 - 1)) else ax_iushr (ax_iand (ax_ixor x0 (-1)) (ax_w32 (x0 - 1))) 16) : Int) ≤ 256 then ((if ax_iand (ax_ixor x0 (-1)) (ax_w32 (x0 - 1)) ≤ 65536 then ax_iand (ax_ixor x0 (-1)) (ax_w32 (x0 - 1)) else ax_iushr (ax_iand (ax_ixor x0 (-1)) (ax_w32 (x0 - 1))) 16) : Int) else ax_iushr ((if ax_iand (ax_ixor x0 (-1)) (ax_w32 (x0 - 1)) ≤ 65536 then ax_iand (ax_ixor x0 (-1)) (ax_w32 (x0 - 1)) else ax_iushr (ax_iand (ax_ixor x0 (-1)) (ax_w32 (x0 - 1))) 16) : Int) 8) : Int)), some (.inl ((if ((if ax_iand (ax_ixor x0 (-1)) (ax_w32 (x0 - 1)) ≤ 65536 then ax_iand (ax_ixor x0 (-1)) (ax_w32 (x0 - 1)) else ax_iushr (ax_iand (ax_ixor x0 (-1)) (ax_w32 (x0 - 1))) 16) : Int) ≤ 256 then ((if ax_iand (ax_ixor x0 (-1)) (ax_w32 (x0 - 1)) ≤ 65536 then 1 else ax_w32 (1 + 16)) : Int) else ax_w32 (((if ax_iand (ax_ixor x0 (-1)) (ax_w32 (x0 - 1)) ≤ 65536 then 1 else ax_w32 (1 + 16)) : Int) + 8)) : Int))]) (st' := [.inl 16, .inl ((if ((if ax_iand (ax_ixor x0 (-1)) (ax_w32 (x0 - 1)) ≤ 65536 then ax_iand (ax_ixor x0 (-1)) (ax_w32 (x0 - 1)) else ax_iushr (ax_iand (ax_ixor x0 (-1)) (ax_w32 (x0 - 1))) 16) : Int) ≤ 256 then ((if ax_iand (ax_ixor x0 (-1)) (ax_w32 (x0 - 1)) ≤ 65536 then ax_iand (ax_ixor x0 (-1)) (ax_w32 (x0 - 1)) else ax_iushr (ax_iand (ax_ixor x0 (-1)) (ax_w32 (x0 - 1))) 16) : Int) else ax_iushr ((if ax_iand (ax_ixor x0 (-1)) (ax_w32 (x0 - 1)) ≤ 65536 then ax_iand (ax_ixor x0 (-1)) (ax_w32 (x0 - 1)) else ax_iushr (ax_iand (ax_ixor x0 (-1)) (ax_w32 (x0 - 1))) 16) : Int) 8) : Int)]) (h1 := hp L s c e) rfl ?_
          have J4 : ∀ v3_0 : Int, v3_0 = ((if ((if ((if ax_iand (ax_ixor x0 (-1)) (ax_w32 (x0 - 1)) ≤ 65536 then ax_iand (ax_ixor x0 (-1)) (ax_w32 (x0 - 1)) else ax_iushr (ax_iand (ax_ixor x0 (-1)) (ax_w32 (x0 - 1))) 16) : Int) ≤ 256 then ((if ax_iand (ax_ixor x0 (-1)) (ax_w32 (x0 - 1)) ≤ 65536 then ax_iand (ax_ixor x0 (-1)) (ax_w32 (x0 - 1)) else ax_iushr (ax_iand (ax_ixor x0 (-1)) (ax_w32 (x0 - 1))) 16) : Int) else ax_iushr ((if ax_iand (ax_ixor x0 (-1)) (ax_w32 (x0 - 1)) ≤ 65536 then ax_iand (ax_ixor x0 (-1)) (ax_w32 (x0 - 1)) else ax_iushr (ax_iand (ax_ixor x0 (-1)) (ax_w32 (x0 - 1))) 16) : Int) 8) : Int) ≤ 16 then ((if ((if ax_iand (ax_ixor x0 (-1)) (ax_w32 (x0 - 1)) ≤ 65536 then ax_iand (ax_ixor x0 (-1)) (ax_w32 (x0 - 1)) else ax_iushr (ax_iand (ax_ixor x0 (-1)) (ax_w32 (x0 - 1))) 16) : Int) ≤ 256 then ((if ax_iand (ax_ixor x0 (-1)) (ax_w32 (x0 - 1)) ≤ 65536 then ax_iand (ax_ixor x0 (-1)) (ax_w32 (x0 - 1)) else ax_iushr (ax_iand (ax_ixor x0 (-1)) (ax_w32 (x0 - 1))) 16) : Int) else ax_iushr ((if ax_iand (ax_ixor x0 (-1)) (ax_w32 (x0 - 1)) ≤ 65536 then ax_iand (ax_ixor x0 (-1)) (ax_w32 (x0 - 1)) else ax_iushr (ax_iand (ax_ixor x0 (-1)) (ax_w32 (x0 - 1))) 16) : Int) 8) : Int) else ax_iushr ((if ((if ax_iand (ax_ixor x0 (-1)) (ax_w32 (x0 - 1)) ≤ 65536 then ax_iand (ax_ixor x0 (-1)) (ax_w32 (x0 - 1)) else ax_iushr (ax_iand (ax_ixor x0 (-1)) (ax_w32 (x0 - 1))) 16) : Int) ≤ 256 then ((if ax_iand (ax_ixor x0 (-1)) (ax_w32 (x0 - 1)) ≤ 65536 then ax_iand (ax_ixor x0 (-1)) (ax_w32 (x0 - 1)) else ax_iushr (ax_iand (ax_ixor x0 (-1)) (ax_w32 (x0 - 1))) 16) : Int) else ax_iushr ((if ax_iand (ax_ixor x0 (-1)) (ax_w32 (x0 - 1)) ≤ 65536 then ax_iand (ax_ixor x0 (-1)) (ax_w32 (x0 - 1)) else ax_iushr (ax_iand (ax_ixor x0 (-1)) (ax_w32 (x0 - 1))) 16) : Int) 8) : Int) 4) : Int) → ∀ v3_1 : Int, v3_1 = ((if ((if ((if ax_iand (ax_ixor x0 (-1)) (ax_w32 (x0 - 1)) ≤ 65536 then ax_iand (ax_ixor x0 (-1)) (ax_w32 (x0 - 1)) else ax_iushr (ax_iand (ax_ixor x0 (-1)) (ax_w32 (x0 - 1))) 16) : Int) ≤ 256 then ((if ax_iand (ax_ixor x0 (-1)) (ax_w32 (x0 - 1)) ≤ 65536 then ax_iand (ax_ixor x0 (-1)) (ax_w32 (x0 - 1)) else ax_iushr (ax_iand (ax_ixor x0 (-1)) (ax_w32 (x0 - 1))) 16) : Int) else ax_iushr ((if ax_iand (ax_ixor x0 (-1)) (ax_w32 (x0 - 1)) ≤ 65536 then ax_iand (ax_ixor x0 (-1)) (ax_w32 (x0 - 1)) else ax_iushr (ax_iand (ax_ixor x0 (-1)) (ax_w32 (x0 - 1))) 16) : Int) 8) : Int) ≤ 16 then ((if ((if ax_iand (ax_ixor x0 (-1)) (ax_w32 (x0 - 1)) ≤ 65536 then ax_iand (ax_ixor x0 (-1)) (ax_w32 (x0 - 1)) else ax_iushr (ax_iand (ax_ixor x0 (-1)) (ax_w32 (x0 - 1))) 16) : Int) ≤ 256 then ((if ax_iand (ax_ixor x0 (-1)) (ax_w32 (x0 - 1)) ≤ 65536 then 1 else ax_w32 (1 + 16)) : Int) else ax_w32 (((if ax_iand (ax_ixor x0 (-1)) (ax_w32 (x0 - 1)) ≤ 65536 then 1 else ax_w32 (1 + 16)) : Int) + 8)) : Int) else ax_w32 (((if ((if ax_iand (ax_ixor x0 (-1)) (ax_w32 (x0 - 1)) ≤ 65536 then ax_iand (ax_ixor x0 (-1)) (ax_w32 (x0 - 1)) else ax_iushr (ax_iand (ax_ixor x0 (-1)) (ax_w32 (x0 - 1))) 16) : Int) ≤ 256 then ((if ax_iand (ax_ixor x0 (-1)) (ax_w32 (x0 - 1)) ≤ 65536 then 1 else ax_w32 (1 + 16)) : Int) else ax_w32 (((if ax_iand (ax_ixor x0 (-1)) (ax_w32 (x0 - 1)) ≤ 65536 then 1 else ax_w32 (1 + 16)) : Int) + 8)) : Int) + 4)) : Int) → RuP 0 tb_m295 62 [some (.inl v3_0), some (.inl v3_1)] [] (hp L s c e) (oI L c e (q, s)) := by
            intro v3_0 ev3_0
            subst ev3_0
            intro v3_1 ev3_1
            subst ev3_1
            refine RuP.step (pc' := 63) (ls' := [some (.inl ((if ((if ((if ax_iand (ax_ixor x0 (-1)) (ax_w32 (x0 - 1)) ≤ 65536 then ax_iand (ax_ixor x0 (-1)) (ax_w32 (x0 - 1)) else ax_iushr (ax_iand (ax_ixor x0 (-1)) (ax_w32 (x0 - 1))) 16) : Int) ≤ 256 then ((if ax_iand (ax_ixor x0 (-1)) (ax_w32 (x0 - 1)) ≤ 65536 then ax_iand (ax_ixor x0 (-1)) (ax_w32 (x0 - 1)) else ax_iushr (ax_iand (ax_ixor x0 (-1)) (ax_w32 (x0 - 1))) 16) : Int) else ax_iushr ((if ax_iand (ax_ixor x0 (-1)) (ax_w32 (x0 - 1)) ≤ 65536 then ax_iand (ax_ixor x0 (-1)) (ax_w32 (x0 - 1)) else ax_iushr (ax_iand (ax_ixor x0 (-1)) (ax_w32 (x0 - 1))) 16) : Int) 8) : Int) ≤ 16 then ((if ((if ax_iand (ax_ixor x0 (-1)) (ax_w32 (x0 - 1)) ≤ 65536 then ax_iand (ax_ixor x0 (-1)) (ax_w32 (x0 - 1)) else ax_iushr (ax_iand (ax_ixor x0 (-1)) (ax_w32 (x0 - 1))) 16) : Int) ≤ 256 then ((if ax_iand (ax_ixor x0 (-1)) (ax_w32 (x0 - 1)) ≤ 65536 then ax_iand (ax_ixor x0 (-1)) (ax_w32 (x0 - 1)) else ax_iushr (ax_iand (ax_ixor x0 (-1)) (ax_w32 (x0 - 1))) 16) : Int) else ax_iushr ((if ax_iand (ax_ixor x0 (-1)) (ax_w32 (x0 - 1)) ≤ 65536 then ax_iand (ax_ixor x0 (-1)) (ax_w32 (x0 - 1)) else ax_iushr (ax_iand (ax_ixor x0 (-1)) (ax_w32 (x0 - 1))) 16) : Int) 8) : Int) else ax_iushr ((if ((if ax_iand (ax_ixor x0 (-1)) (ax_w32 (x0 - 1)) ≤ 65536 then ax_iand (ax_ixor x0 (-1)) (ax_w32 (x0 - 1)) else ax_iushr (ax_iand (ax_ixor x0 (-1)) (ax_w32 (x0 - 1))) 16) : Int) ≤ 256 then ((if ax_iand (ax_ixor x0 (-1)) (ax_w32 (x0 - 1)) ≤ 65536 then ax_iand (ax_ixor x0 (-1)) (ax_w32 (x0 - 1)) else ax_iushr (ax_iand (ax_ixor x0 (-1)) (ax_w32 (x0 - 1))) 16) : Int) else ax_iushr ((if ax_iand (ax_ixor x0 (-1)) (ax_w32 (x0 - 1)) ≤ 65536 then ax_iand (ax_ixor x0 (-1)) (ax_w32 (x0 - 1)) else ax_iushr (ax_iand (ax_ixor x0 (-1)) (ax_w32 (x0 - 1))) 16) : Int) 8) : Int) 4) : Int)), some (.inl ((if ((if ((if ax_iand (ax_ixor x0 (-1)) (ax_w32 (x0 - 1)) ≤ 65536 then ax_iand (ax_ixor x0 (-1)) (ax_w32 (x0 - 1)) else ax_iushr (ax_iand (ax_ixor x0 (-1)) (ax_w32 (x0 - 1))) 16) : Int) ≤ 256 then ((if ax_iand (ax_ixor x0 (-1)) (ax_w32 (x0 - 1)) ≤ 65536 then ax_iand (ax_ixor x0 (-1)) (ax_w32 (x0 - 1)) else ax_iushr (ax_iand (ax_ixor x0 (-1)) (ax_w32 (x0 - 1))) 16) : Int) else ax_iushr ((if ax_iand (ax_ixor x0 (-1)) (ax_w32 (x0 - 1)) ≤ 65536 then ax_iand (ax_ixor x0 (-1)) (ax_w32 (x0 - 1)) else ax_iushr (ax_iand (ax_ixor x0 (-1)) (ax_w32 (x0 - 1))) 16) : Int) 8) : Int) ≤ 16 then ((if ((if ax_iand (ax_ixor x0 (-1)) (ax_w32 (x0 - 1)) ≤ 65536 then ax_iand (ax_ixor x0 (-1)) (ax_w32 (x0 - 1)) else ax_iushr (ax_iand (ax_ixor x0 (-1)) (ax_w32 (x0 - 1))) 16) : Int) ≤ 256 then ((if ax_iand (ax_ixor x0 (-1)) (ax_w32 (x0 - 1)) ≤ 65536 then 1 else ax_w32 (1 + 16)) : Int) else ax_w32 (((if ax_iand (ax_ixor x0 (-1)) (ax_w32 (x0 - 1)) ≤ 65536 then 1 else ax_w32 (1 + 16)) : Int) + 8)) : Int) else ax_w32 (((if ((if ax_iand (ax_ixor x0 (-1)) (ax_w32 (x0 - 1)) ≤ 65536 then ax_iand (ax_ixor x0 (-1)) (ax_w32 (x0 - 1)) else ax_iushr (ax_iand (ax_ixor x0 (-1)) (ax_w32 (x0 - 1))) 16) : Int) ≤ 256 then ((if ax_iand (ax_ixor x0 (-1)) (ax_w32 (x0 - 1)) ≤ 65536 then 1 else ax_w32 (1 + 16)) : Int) else ax_w32 (((if ax_iand (ax_ixor x0 (-1)) (ax_w32 (x0 - 1)) ≤ 65536 then 1 else ax_w32 (1 + 16)) : Int) + 8)) : Int) + 4)) : Int))]) (st' := [.inl ((if ((if ((if ax_iand (ax_ixor x0 (-1)) (ax_w32 (x0 - 1)) ≤ 65536 then ax_iand (ax_ixor x0 (-1)) (ax_w32 (x0 - 1)) else ax_iushr (ax_iand (ax_ixor x0 (-1)) (ax_w32 (x0 - 1))) 16) : Int) ≤ 256 then ((if ax_iand (ax_ixor x0 (-1)) (ax_w32 (x0 - 1)) ≤ 65536 then ax_iand (ax_ixor x0 (-1)) (ax_w32 (x0 - 1)) else ax_iushr (ax_iand (ax_ixor x0 (-1)) (ax_w32 (x0 - 1))) 16) : Int) else ax_iushr ((if ax_iand (ax_ixor x0 (-1)) (ax_w32 (x0 - 1)) ≤ 65536 then ax_iand (ax_ixor x0 (-1)) (ax_w32 (x0 - 1)) else ax_iushr (ax_iand (ax_ixor x0 (-1)) (ax_w32 (x0 - 1))) 16) : Int) 8) : Int) ≤ 16 then ((if ((if ax_iand (ax_ixor x0 (-1)) (ax_w32 (x0 - 1)) ≤ 65536 then ax_iand (ax_ixor x0 (-1)) (ax_w32 (x0 - 1)) else ax_iushr (ax_iand (ax_ixor x0 (-1)) (ax_w32 (x0 - 1))) 16) : Int) ≤ 256 then ((if ax_iand (ax_ixor x0 (-1)) (ax_w32 (x0 - 1)) ≤ 65536 then ax_iand (ax_ixor x0 (-1)) (ax_w32 (x0 - 1)) else ax_iushr (ax_iand (ax_ixor x0 (-1)) (ax_w32 (x0 - 1))) 16) : Int) else ax_iushr ((if ax_iand (ax_ixor x0 (-1)) (ax_w32 (x0 - 1)) ≤ 65536 then ax_iand (ax_ixor x0 (-1)) (ax_w32 (x0 - 1)) else ax_iushr (ax_iand (ax_ixor x0 (-1)) (ax_w32 (x0 - 1))) 16) : Int) 8) : Int) else ax_iushr ((if ((if ax_iand (ax_ixor x0 (-1)) (ax_w32 (x0 - 1)) ≤ 65536 then ax_iand (ax_ixor x0 (-1)) (ax_w32 (x0 - 1)) else ax_iushr (ax_iand (ax_ixor x0 (-1)) (ax_w32 (x0 - 1))) 16) : Int) ≤ 256 then ((if ax_iand (ax_ixor x0 (-1)) (ax_w32 (x0 - 1)) ≤ 65536 then ax_iand (ax_ixor x0 (-1)) (ax_w32 (x0 - 1)) else ax_iushr (ax_iand (ax_ixor x0 (-1)) (ax_w32 (x0 - 1))) 16) : Int) else ax_iushr ((if ax_iand (ax_ixor x0 (-1)) (ax_w32 (x0 - 1)) ≤ 65536 then ax_iand (ax_ixor x0 (-1)) (ax_w32 (x0 - 1)) else ax_iushr (ax_iand (ax_ixor x0 (-1)) (ax_w32 (x0 - 1))) 16) : Int) 8) : Int) 4) : Int)]) (h1 := hp L s c e) rfl ?_
            refine RuP.step (pc' := 64) (ls' := [some (.inl ((if ((if ((if ax_iand (ax_ixor x0 (-1)) (ax_w32 (x0 - 1)) ≤ 65536 then ax_iand (ax_ixor x0 (-1)) (ax_w32 (x0 - 1)) else ax_iushr (ax_iand (ax_ixor x0 (-1)) (ax_w32 (x0 - 1))) 16) : Int) ≤ 256 then ((if ax_iand (ax_ixor x0 (-1)) (ax_w32 (x0 - 1)) ≤ 65536 then ax_iand (ax_ixor x0 (-1)) (ax_w32 (x0 - 1)) else ax_iushr (ax_iand (ax_ixor x0 (-1)) (ax_w32 (x0 - 1))) 16) : Int) else ax_iushr ((if ax_iand (ax_ixor x0 (-1)) (ax_w32 (x0 - 1)) ≤ 65536 then ax_iand (ax_ixor x0 (-1)) (ax_w32 (x0 - 1)) else ax_iushr (ax_iand (ax_ixor x0 (-1)) (ax_w32 (x0 - 1))) 16) : Int) 8) : Int) ≤ 16 then ((if ((if ax_iand (ax_ixor x0 (-1)) (ax_w32 (x0 - 1)) ≤ 65536 then ax_iand (ax_ixor x0 (-1)) (ax_w32 (x0 - 1)) else ax_iushr (ax_iand (ax_ixor x0 (-1)) (ax_w32 (x0 - 1))) 16) : Int) ≤ 256 then ((if ax_iand (ax_ixor x0 (-1)) (ax_w32 (x0 - 1)) ≤ 65536 then ax_iand (ax_ixor x0 (-1)) (ax_w32 (x0 - 1)) else ax_iushr (ax_iand (ax_ixor x0 (-1)) (ax_w32 (x0 - 1))) 16) : Int) else ax_iushr ((if ax_iand (ax_ixor x0 (-1)) (ax_w32 (x0 - 1)) ≤ 65536 then ax_iand (ax_ixor x0 (-1)) (ax_w32 (x0 - 1)) else ax_iushr (ax_iand (ax_ixor x0 (-1)) (ax_w32 (x0 - 1))) 16) : Int) 8) : Int) else ax_iushr ((if ((if ax_iand (ax_ixor x0 (-1)) (ax_w32 (x0 - 1)) ≤ 65536 then ax_iand (ax_ixor x0 (-1)) (ax_w32 (x0 - 1)) else ax_iushr (ax_iand (ax_ixor x0 (-1)) (ax_w32 (x0 - 1))) 16) : Int) ≤ 256 then ((if ax_iand (ax_ixor x0 (-1)) (ax_w32 (x0 - 1)) ≤ 65536 then ax_iand (ax_ixor x0 (-1)) (ax_w32 (x0 - 1)) else ax_iushr (ax_iand (ax_ixor x0 (-1)) (ax_w32 (x0 - 1))) 16) : Int) else ax_iushr ((if ax_iand (ax_ixor x0 (-1)) (ax_w32 (x0 - 1)) ≤ 65536 then ax_iand (ax_ixor x0 (-1)) (ax_w32 (x0 - 1)) else ax_iushr (ax_iand (ax_ixor x0 (-1)) (ax_w32 (x0 - 1))) 16) : Int) 8) : Int) 4) : Int)), some (.inl ((if ((if ((if ax_iand (ax_ixor x0 (-1)) (ax_w32 (x0 - 1)) ≤ 65536 then ax_iand (ax_ixor x0 (-1)) (ax_w32 (x0 - 1)) else ax_iushr (ax_iand (ax_ixor x0 (-1)) (ax_w32 (x0 - 1))) 16) : Int) ≤ 256 then ((if ax_iand (ax_ixor x0 (-1)) (ax_w32 (x0 - 1)) ≤ 65536 then ax_iand (ax_ixor x0 (-1)) (ax_w32 (x0 - 1)) else ax_iushr (ax_iand (ax_ixor x0 (-1)) (ax_w32 (x0 - 1))) 16) : Int) else ax_iushr ((if ax_iand (ax_ixor x0 (-1)) (ax_w32 (x0 - 1)) ≤ 65536 then ax_iand (ax_ixor x0 (-1)) (ax_w32 (x0 - 1)) else ax_iushr (ax_iand (ax_ixor x0 (-1)) (ax_w32 (x0 - 1))) 16) : Int) 8) : Int) ≤ 16 then ((if ((if ax_iand (ax_ixor x0 (-1)) (ax_w32 (x0 - 1)) ≤ 65536 then ax_iand (ax_ixor x0 (-1)) (ax_w32 (x0 - 1)) else ax_iushr (ax_iand (ax_ixor x0 (-1)) (ax_w32 (x0 - 1))) 16) : Int) ≤ 256 then ((if ax_iand (ax_ixor x0 (-1)) (ax_w32 (x0 - 1)) ≤ 65536 then 1 else ax_w32 (1 + 16)) : Int) else ax_w32 (((if ax_iand (ax_ixor x0 (-1)) (ax_w32 (x0 - 1)) ≤ 65536 then 1 else ax_w32 (1 + 16)) : Int) + 8)) : Int) else ax_w32 (((if ((if ax_iand (ax_ixor x0 (-1)) (ax_w32 (x0 - 1)) ≤ 65536 then ax_iand (ax_ixor x0 (-1)) (ax_w32 (x0 - 1)) else ax_iushr (ax_iand (ax_ixor x0 (-1)) (ax_w32 (x0 - 1))) 16) : Int) ≤ 256 then ((if ax_iand (ax_ixor x0 (-1)) (ax_w32 (x0 - 1)) ≤ 65536 then 1 else ax_w32 (1 + 16)) : Int) else ax_w32 (((if ax_iand (ax_ixor x0 (-1)) (ax_w32 (x0 - 1)) ≤ 65536 then 1 else ax_w32 (1 + 16)) : Int) + 8)) : Int) + 4)) : Int))]) (st' := [.inl 4, .inl ((if ((if ((if ax_iand (ax_ixor x0 (-1)) (ax_w32 (x0 - 1)) ≤ 65536 then ax_iand (ax_ixor x0 (-1)) (ax_w32 (x0 - 1)) else ax_iushr (ax_iand (ax_ixor x0 (-1)) (ax_w32 (x0 - 1))) 16) : Int) ≤ 256 then ((if ax_iand (ax_ixor x0 (-1)) (ax_w32 (x0 - 1)) ≤ 65536 then ax_iand (ax_ixor x0 (-1)) (ax_w32 (x0 - 1)) else ax_iushr (ax_iand (ax_ixor x0 (-1)) (ax_w32 (x0 - 1))) 16) : Int) else ax_iushr ((if ax_iand (ax_ixor x0 (-1)) (ax_w32 (x0 - 1)) ≤ 65536 then ax_iand (ax_ixor x0 (-1)) (ax_w32 (x0 - 1)) else ax_iushr (ax_iand (ax_ixor x0 (-1)) (ax_w32 (x0 - 1))) 16) : Int) 8) : Int) ≤ 16 then ((if ((if ax_iand (ax_ixor x0 (-1)) (ax_w32 (x0 - 1)) ≤ 65536 then ax_iand (ax_ixor x0 (-1)) (ax_w32 (x0 - 1)) else ax_iushr (ax_iand (ax_ixor x0 (-1)) (ax_w32 (x0 - 1))) 16) : Int) ≤ 256 then ((if ax_iand (ax_ixor x0 (-1)) (ax_w32 (x0 - 1)) ≤ 65536 then ax_iand (ax_ixor x0 (-1)) (ax_w32 (x0 - 1)) else ax_iushr (ax_iand (ax_ixor x0 (-1)) (ax_w32 (x0 - 1))) 16) : Int) else ax_iushr ((if ax_iand (ax_ixor x0 (-1)) (ax_w32 (x0 - 1)) ≤ 65536 then ax_iand (ax_ixor x0 (-1)) (ax_w32 (x0 - 1)) else ax_iushr (ax_iand (ax_ixor x0 (-1)) (ax_w32 (x0 - 1))) 16) : Int) 8) : Int) else ax_iushr ((if ((if ax_iand (ax_ixor x0 (-1)) (ax_w32 (x0 - 1)) ≤ 65536 then ax_iand (ax_ixor x0 (-1)) (ax_w32 (x0 - 1)) else ax_iushr (ax_iand (ax_ixor x0 (-1)) (ax_w32 (x0 - 1))) 16) : Int) ≤ 256 then ((if ax_iand (ax_ixor x0 (-1)) (ax_w32 (x0 - 1)) ≤ 65536 then ax_iand (ax_ixor x0 (-1)) (ax_w32 (x0 - 1)) else ax_iushr (ax_iand (ax_ixor x0 (-1)) (ax_w32 (x0 - 1))) 16) : Int) else ax_iushr ((if ax_iand (ax_ixor x0 (-1)) (ax_w32 (x0 - 1)) ≤ 65536 then ax_iand (ax_ixor x0 (-1)) (ax_w32 (x0 - 1)) else ax_iushr (ax_iand (ax_ixor x0 (-1)) (ax_w32 (x0 - 1))) 16) : Int) 8) : Int) 4) : Int)]) (h1 := hp L s c e) rfl ?_
            by_cases h4 : ((if ((if ((if ax_iand (ax_ixor x0 (-1)) (ax_w32 (x0 - 1)) ≤ 65536 then ax_iand (ax_ixor x0 (-1)) (ax_w32 (x0 - 1)) else ax_iushr (ax_iand (ax_ixor x0 (-1)) (ax_w32 (x0 - 1))) 16) : Int) ≤ 256 then ((if ax_iand (ax_ixor x0 (-1)) (ax_w32 (x0 - 1)) ≤ 65536 then ax_iand (ax_ixor x0 (-1)) (ax_w32 (x0 - 1)) else ax_iushr (ax_iand (ax_ixor x0 (-1)) (ax_w32 (x0 - 1))) 16) : Int) else ax_iushr ((if ax_iand (ax_ixor x0 (-1)) (ax_w32 (x0 - 1)) ≤ 65536 then ax_iand (ax_ixor x0 (-1)) (ax_w32 (x0 - 1)) else ax_iushr (ax_iand (ax_ixor x0 (-1)) (ax_w32 (x0 - 1))) 16) : Int) 8) : Int) ≤ 16 then ((if ((if ax_iand (ax_ixor x0 (-1)) (ax_w32 (x0 - 1)) ≤ 65536 then ax_iand (ax_ixor x0 (-1)) (ax_w32 (x0 - 1)) else ax_iushr (ax_iand (ax_ixor x0 (-1)) (ax_w32 (x0 - 1))) 16) : Int) ≤ 256 then ((if ax_iand (ax_ixor x0 (-1)) (ax_w32 (x0 - 1)) ≤ 65536 then ax_iand (ax_ixor x0 (-1)) (ax_w32 (x0 - 1)) else ax_iushr (ax_iand (ax_ixor x0 (-1)) (ax_w32 (x0 - 1))) 16) : Int) else ax_iushr ((if ax_iand (ax_ixor x0 (-1)) (ax_w32 (x0 - 1)) ≤ 65536 then ax_iand (ax_ixor x0 (-1)) (ax_w32 (x0 - 1)) else ax_iushr (ax_iand (ax_ixor x0 (-1)) (ax_w32 (x0 - 1))) 16) : Int) 8) : Int) else ax_iushr ((if ((if ax_iand (ax_ixor x0 (-1)) (ax_w32 (x0 - 1)) ≤ 65536 then ax_iand (ax_ixor x0 (-1)) (ax_w32 (x0 - 1)) else ax_iushr (ax_iand (ax_ixor x0 (-1)) (ax_w32 (x0 - 1))) 16) : Int) ≤ 256 then ((if ax_iand (ax_ixor x0 (-1)) (ax_w32 (x0 - 1)) ≤ 65536 then ax_iand (ax_ixor x0 (-1)) (ax_w32 (x0 - 1)) else ax_iushr (ax_iand (ax_ixor x0 (-1)) (ax_w32 (x0 - 1))) 16) : Int) else ax_iushr ((if ax_iand (ax_ixor x0 (-1)) (ax_w32 (x0 - 1)) ≤ 65536 then ax_iand (ax_ixor x0 (-1)) (ax_w32 (x0 - 1)) else ax_iushr (ax_iand (ax_ixor x0 (-1)) (ax_w32 (x0 - 1))) 16) : Int) 8) : Int) 4) : Int) ≤ 4
            · rw [if_pos h4] at h
              refine RuP.jy rfl h4 ?_
              refine RuP.step (pc' := 75) (ls' := [some (.inl ((if ((if ((if ax_iand (ax_ixor x0 (-1)) (ax_w32 (x0 - 1)) ≤ 65536 then ax_iand (ax_ixor x0 (-1)) (ax_w32 (x0 - 1)) else ax_iushr (ax_iand (ax_ixor x0 (-1)) (ax_w32 (x0 - 1))) 16) : Int) ≤ 256 then ((if ax_iand (ax_ixor x0 (-1)) (ax_w32 (x0 - 1)) ≤ 65536 then ax_iand (ax_ixor x0 (-1)) (ax_w32 (x0 - 1)) else ax_iushr (ax_iand (ax_ixor x0 (-1)) (ax_w32 (x0 - 1))) 16) : Int) else ax_iushr ((if ax_iand (ax_ixor x0 (-1)) (ax_w32 (x0 - 1)) ≤ 65536 then ax_iand (ax_ixor x0 (-1)) (ax_w32 (x0 - 1)) else ax_iushr (ax_iand (ax_ixor x0 (-1)) (ax_w32 (x0 - 1))) 16) : Int) 8) : Int) ≤ 16 then ((if ((if ax_iand (ax_ixor x0 (-1)) (ax_w32 (x0 - 1)) ≤ 65536 then ax_iand (ax_ixor x0 (-1)) (ax_w32 (x0 - 1)) else ax_iushr (ax_iand (ax_ixor x0 (-1)) (ax_w32 (x0 - 1))) 16) : Int) ≤ 256 then ((if ax_iand (ax_ixor x0 (-1)) (ax_w32 (x0 - 1)) ≤ 65536 then ax_iand (ax_ixor x0 (-1)) (ax_w32 (x0 - 1)) else ax_iushr (ax_iand (ax_ixor x0 (-1)) (ax_w32 (x0 - 1))) 16) : Int) else ax_iushr ((if ax_iand (ax_ixor x0 (-1)) (ax_w32 (x0 - 1)) ≤ 65536 then ax_iand (ax_ixor x0 (-1)) (ax_w32 (x0 - 1)) else ax_iushr (ax_iand (ax_ixor x0 (-1)) (ax_w32 (x0 - 1))) 16) : Int) 8) : Int) else ax_iushr ((if ((if ax_iand (ax_ixor x0 (-1)) (ax_w32 (x0 - 1)) ≤ 65536 then ax_iand (ax_ixor x0 (-1)) (ax_w32 (x0 - 1)) else ax_iushr (ax_iand (ax_ixor x0 (-1)) (ax_w32 (x0 - 1))) 16) : Int) ≤ 256 then ((if ax_iand (ax_ixor x0 (-1)) (ax_w32 (x0 - 1)) ≤ 65536 then ax_iand (ax_ixor x0 (-1)) (ax_w32 (x0 - 1)) else ax_iushr (ax_iand (ax_ixor x0 (-1)) (ax_w32 (x0 - 1))) 16) : Int) else ax_iushr ((if ax_iand (ax_ixor x0 (-1)) (ax_w32 (x0 - 1)) ≤ 65536 then ax_iand (ax_ixor x0 (-1)) (ax_w32 (x0 - 1)) else ax_iushr (ax_iand (ax_ixor x0 (-1)) (ax_w32 (x0 - 1))) 16) : Int) 8) : Int) 4) : Int)), some (.inl ((if ((if ((if ax_iand (ax_ixor x0 (-1)) (ax_w32 (x0 - 1)) ≤ 65536 then ax_iand (ax_ixor x0 (-1)) (ax_w32 (x0 - 1)) else ax_iushr (ax_iand (ax_ixor x0 (-1)) (ax_w32 (x0 - 1))) 16) : Int) ≤ 256 then ((if ax_iand (ax_ixor x0 (-1)) (ax_w32 (x0 - 1)) ≤ 65536 then ax_iand (ax_ixor x0 (-1)) (ax_w32 (x0 - 1)) else ax_iushr (ax_iand (ax_ixor x0 (-1)) (ax_w32 (x0 - 1))) 16) : Int) else ax_iushr ((if ax_iand (ax_ixor x0 (-1)) (ax_w32 (x0 - 1)) ≤ 65536 then ax_iand (ax_ixor x0 (-1)) (ax_w32 (x0 - 1)) else ax_iushr (ax_iand (ax_ixor x0 (-1)) (ax_w32 (x0 - 1))) 16) : Int) 8) : Int) ≤ 16 then ((if ((if ax_iand (ax_ixor x0 (-1)) (ax_w32 (x0 - 1)) ≤ 65536 then ax_iand (ax_ixor x0 (-1)) (ax_w32 (x0 - 1)) else ax_iushr (ax_iand (ax_ixor x0 (-1)) (ax_w32 (x0 - 1))) 16) : Int) ≤ 256 then ((if ax_iand (ax_ixor x0 (-1)) (ax_w32 (x0 - 1)) ≤ 65536 then 1 else ax_w32 (1 + 16)) : Int) else ax_w32 (((if ax_iand (ax_ixor x0 (-1)) (ax_w32 (x0 - 1)) ≤ 65536 then 1 else ax_w32 (1 + 16)) : Int) + 8)) : Int) else ax_w32 (((if ((if ax_iand (ax_ixor x0 (-1)) (ax_w32 (x0 - 1)) ≤ 65536 then ax_iand (ax_ixor x0 (-1)) (ax_w32 (x0 - 1)) else ax_iushr (ax_iand (ax_ixor x0 (-1)) (ax_w32 (x0 - 1))) 16) : Int) ≤ 256 then ((if ax_iand (ax_ixor x0 (-1)) (ax_w32 (x0 - 1)) ≤ 65536 then 1 else ax_w32 (1 + 16)) : Int) else ax_w32 (((if ax_iand (ax_ixor x0 (-1)) (ax_w32 (x0 - 1)) ≤ 65536 then 1 else ax_w32 (1 + 16)) : Int) + 8)) : Int) + 4)) : Int))]) (st' := [.inl ((if ((if ((if ax_iand (ax_ixor x0 (-1)) (ax_w32 (x0 - 1)) ≤ 65536 then ax_iand (ax_ixor x0 (-1)) (ax_w32 (x0 - 1)) else ax_iushr (ax_iand (ax_ixor x0 (-1)) (ax_w32 (x0 - 1))) 16) : Int) ≤ 256 then ((if ax_iand (ax_ixor x0 (-1)) (ax_w32 (x0 - 1)) ≤ 65536 then ax_iand (ax_ixor x0 (-1)) (ax_w32 (x0 - 1)) else ax_iushr (ax_iand (ax_ixor x0 (-1)) (ax_w32 (x0 - 1))) 16) : Int) else ax_iushr ((if ax_iand (ax_ixor x0 (-1)) (ax_w32 (x0 - 1)) ≤ 65536 then ax_iand (ax_ixor x0 (-1)) (ax_w32 (x0 - 1)) else ax_iushr (ax_iand (ax_ixor x0 (-1)) (ax_w32 (x0 - 1))) 16) : Int) 8) : Int) ≤ 16 then ((if ((if ax_iand (ax_ixor x0 (-1)) (ax_w32 (x0 - 1)) ≤ 65536 then ax_iand (ax_ixor x0 (-1)) (ax_w32 (x0 - 1)) else ax_iushr (ax_iand (ax_ixor x0 (-1)) (ax_w32 (x0 - 1))) 16) : Int) ≤ 256 then ((if ax_iand (ax_ixor x0 (-1)) (ax_w32 (x0 - 1)) ≤ 65536 then 1 else ax_w32 (1 + 16)) : Int) else ax_w32 (((if ax_iand (ax_ixor x0 (-1)) (ax_w32 (x0 - 1)) ≤ 65536 then 1 else ax_w32 (1 + 16)) : Int) + 8)) : Int) else ax_w32 (((if ((if ax_iand (ax_ixor x0 (-1)) (ax_w32 (x0 - 1)) ≤ 65536 then ax_iand (ax_ixor x0 (-1)) (ax_w32 (x0 - 1)) else ax_iushr (ax_iand (ax_ixor x0 (-1)) (ax_w32 (x0 - 1))) 16) : Int) ≤ 256 then ((if ax_iand (ax_ixor x0 (-1)) (ax_w32 (x0 - 1)) ≤ 65536 then 1 else ax_w32 (1 + 16)) : Int) else ax_w32 (((if ax_iand (ax_ixor x0 (-1)) (ax_w32 (x0 - 1)) ≤ 65536 then 1 else ax_w32 (1 + 16)) : Int) + 8)) : Int) + 4)) : Int)]) (h1 := hp L s c e) rfl ?_
              refine RuP.step (pc' := 76) (ls' := [some (.inl ((if ((if ((if ax_iand (ax_ixor x0 (-1)) (ax_w32 (x0 - 1)) ≤ 65536 then ax_iand (ax_ixor x0 (-1)) (ax_w32 (x0 - 1)) else ax_iushr (ax_iand (ax_ixor x0 (-1)) (ax_w32 (x0 - 1))) 16) : Int) ≤ 256 then ((if ax_iand (ax_ixor x0 (-1)) (ax_w32 (x0 - 1)) ≤ 65536 then ax_iand (ax_ixor x0 (-1)) (ax_w32 (x0 - 1)) else ax_iushr (ax_iand (ax_ixor x0 (-1)) (ax_w32 (x0 - 1))) 16) : Int) else ax_iushr ((if ax_iand (ax_ixor x0 (-1)) (ax_w32 (x0 - 1)) ≤ 65536 then ax_iand (ax_ixor x0 (-1)) (ax_w32 (x0 - 1)) else ax_iushr (ax_iand (ax_ixor x0 (-1)) (ax_w32 (x0 - 1))) 16) : Int) 8) : Int) ≤ 16 then ((if ((if ax_iand (ax_ixor x0 (-1)) (ax_w32 (x0 - 1)) ≤ 65536 then ax_iand (ax_ixor x0 (-1)) (ax_w32 (x0 - 1)) else ax_iushr (ax_iand (ax_ixor x0 (-1)) (ax_w32 (x0 - 1))) 16) : Int) ≤ 256 then ((if ax_iand (ax_ixor x0 (-1)) (ax_w32 (x0 - 1)) ≤ 65536 then ax_iand (ax_ixor x0 (-1)) (ax_w32 (x0 - 1)) else ax_iushr (ax_iand (ax_ixor x0 (-1)) (ax_w32 (x0 - 1))) 16) : Int) else ax_iushr ((if ax_iand (ax_ixor x0 (-1)) (ax_w32 (x0 - 1)) ≤ 65536 then ax_iand (ax_ixor x0 (-1)) (ax_w32 (x0 - 1)) else ax_iushr (ax_iand (ax_ixor x0 (-1)) (ax_w32 (x0 - 1))) 16) : Int) 8) : Int) else ax_iushr ((if ((if ax_iand (ax_ixor x0 (-1)) (ax_w32 (x0 - 1)) ≤ 65536 then ax_iand (ax_ixor x0 (-1)) (ax_w32 (x0 - 1)) else ax_iushr (ax_iand (ax_ixor x0 (-1)) (ax_w32 (x0 - 1))) 16) : Int) ≤ 256 then ((if ax_iand (ax_ixor x0 (-1)) (ax_w32 (x0 - 1)) ≤ 65536 then ax_iand (ax_ixor x0 (-1)) (ax_w32 (x0 - 1)) else ax_iushr (ax_iand (ax_ixor x0 (-1)) (ax_w32 (x0 - 1))) 16) : Int) else ax_iushr ((if ax_iand (ax_ixor x0 (-1)) (ax_w32 (x0 - 1)) ≤ 65536 then ax_iand (ax_ixor x0 (-1)) (ax_w32 (x0 - 1)) else ax_iushr (ax_iand (ax_ixor x0 (-1)) (ax_w32 (x0 - 1))) 16) : Int) 8) : Int) 4) : Int)), some (.inl ((if ((if ((if ax_iand (ax_ixor x0 (-1)) (ax_w32 (x0 - 1)) ≤ 65536 then ax_iand (ax_ixor x0 (-1)) (ax_w32 (x0 - 1)) else ax_iushr (ax_iand (ax_ixor x0 (-1)) (ax_w32 (x0 - 1))) 16) : Int) ≤ 256 then ((if ax_iand (ax_ixor x0 (-1)) (ax_w32 (x0 - 1)) ≤ 65536 then ax_iand (ax_ixor x0 (-1)) (ax_w32 (x0 - 1)) else ax_iushr (ax_iand (ax_ixor x0 (-1)) (ax_w32 (x0 - 1))) 16) : Int) else ax_iushr ((if ax_iand (ax_ixor x0 (-1)) (ax_w32 (x0 - 1)) ≤ 65536 then ax_iand (ax_ixor x0 (-1)) (ax_w32 (x0 - 1)) else ax_iushr (ax_iand (ax_ixor x0 (-1)) (ax_w32 (x0 - 1))) 16) : Int) 8) : Int) ≤ 16 then ((if ((if ax_iand (ax_ixor x0 (-1)) (ax_w32 (x0 - 1)) ≤ 65536 then ax_iand (ax_ixor x0 (-1)) (ax_w32 (x0 - 1)) else ax_iushr (ax_iand (ax_ixor x0 (-1)) (ax_w32 (x0 - 1))) 16) : Int) ≤ 256 then ((if ax_iand (ax_ixor x0 (-1)) (ax_w32 (x0 - 1)) ≤ 65536 then 1 else ax_w32 (1 + 16)) : Int) else ax_w32 (((if ax_iand (ax_ixor x0 (-1)) (ax_w32 (x0 - 1)) ≤ 65536 then 1 else ax_w32 (1 + 16)) : Int) + 8)) : Int) else ax_w32 (((if ((if ax_iand (ax_ixor x0 (-1)) (ax_w32 (x0 - 1)) ≤ 65536 then ax_iand (ax_ixor x0 (-1)) (ax_w32 (x0 - 1)) else ax_iushr (ax_iand (ax_ixor x0 (-1)) (ax_w32 (x0 - 1))) 16) : Int) ≤ 256 then ((if ax_iand (ax_ixor x0 (-1)) (ax_w32 (x0 - 1)) ≤ 65536 then 1 else ax_w32 (1 + 16)) : Int) else ax_w32 (((if ax_iand (ax_ixor x0 (-1)) (ax_w32 (x0 - 1)) ≤ 65536 then 1 else ax_w32 (1 + 16)) : Int) + 8)) : Int) + 4)) : Int))]) (st' := [.inl ((if ((if ((if ax_iand (ax_ixor x0 (-1)) (ax_w32 (x0 - 1)) ≤ 65536 then ax_iand (ax_ixor x0 (-1)) (ax_w32 (x0 - 1)) else ax_iushr (ax_iand (ax_ixor x0 (-1)) (ax_w32 (x0 - 1))) 16) : Int) ≤ 256 then ((if ax_iand (ax_ixor x0 (-1)) (ax_w32 (x0 - 1)) ≤ 65536 then ax_iand (ax_ixor x0 (-1)) (ax_w32 (x0 - 1)) else ax_iushr (ax_iand (ax_ixor x0 (-1)) (ax_w32 (x0 - 1))) 16) : Int) else ax_iushr ((if ax_iand (ax_ixor x0 (-1)) (ax_w32 (x0 - 1)) ≤ 65536 then ax_iand (ax_ixor x0 (-1)) (ax_w32 (x0 - 1)) else ax_iushr (ax_iand (ax_ixor x0 (-1)) (ax_w32 (x0 - 1))) 16) : Int) 8) : Int) ≤ 16 then ((if ((if ax_iand (ax_ixor x0 (-1)) (ax_w32 (x0 - 1)) ≤ 65536 then ax_iand (ax_ixor x0 (-1)) (ax_w32 (x0 - 1)) else ax_iushr (ax_iand (ax_ixor x0 (-1)) (ax_w32 (x0 - 1))) 16) : Int) ≤ 256 then ((if ax_iand (ax_ixor x0 (-1)) (ax_w32 (x0 - 1)) ≤ 65536 then ax_iand (ax_ixor x0 (-1)) (ax_w32 (x0 - 1)) else ax_iushr (ax_iand (ax_ixor x0 (-1)) (ax_w32 (x0 - 1))) 16) : Int) else ax_iushr ((if ax_iand (ax_ixor x0 (-1)) (ax_w32 (x0 - 1)) ≤ 65536 then ax_iand (ax_ixor x0 (-1)) (ax_w32 (x0 - 1)) else ax_iushr (ax_iand (ax_ixor x0 (-1)) (ax_w32 (x0 - 1))) 16) : Int) 8) : Int) else ax_iushr ((if ((if ax_iand (ax_ixor x0 (-1)) (ax_w32 (x0 - 1)) ≤ 65536 then ax_iand (ax_ixor x0 (-1)) (ax_w32 (x0 - 1)) else ax_iushr (ax_iand (ax_ixor x0 (-1)) (ax_w32 (x0 - 1))) 16) : Int) ≤ 256 then ((if ax_iand (ax_ixor x0 (-1)) (ax_w32 (x0 - 1)) ≤ 65536 then ax_iand (ax_ixor x0 (-1)) (ax_w32 (x0 - 1)) else ax_iushr (ax_iand (ax_ixor x0 (-1)) (ax_w32 (x0 - 1))) 16) : Int) else ax_iushr ((if ax_iand (ax_ixor x0 (-1)) (ax_w32 (x0 - 1)) ≤ 65536 then ax_iand (ax_ixor x0 (-1)) (ax_w32 (x0 - 1)) else ax_iushr (ax_iand (ax_ixor x0 (-1)) (ax_w32 (x0 - 1))) 16) : Int) 8) : Int) 4) : Int), .inl ((if ((if ((if ax_iand (ax_ixor x0 (-1)) (ax_w32 (x0 - 1)) ≤ 65536 then ax_iand (ax_ixor x0 (-1)) (ax_w32 (x0 - 1)) else ax_iushr (ax_iand (ax_ixor x0 (-1)) (ax_w32 (x0 - 1))) 16) : Int) ≤ 256 then ((if ax_iand (ax_ixor x0 (-1)) (ax_w32 (x0 - 1)) ≤ 65536 then ax_iand (ax_ixor x0 (-1)) (ax_w32 (x0 - 1)) else ax_iushr (ax_iand (ax_ixor x0 (-1)) (ax_w32 (x0 - 1))) 16) : Int) else ax_iushr ((if ax_iand (ax_ixor x0 (-1)) (ax_w32 (x0 - 1)) ≤ 65536 then ax_iand (ax_ixor x0 (-1)) (ax_w32 (x0 - 1)) else ax_iushr (ax_iand (ax_ixor x0 (-1)) (ax_w32 (x0 - 1))) 16) : Int) 8) : Int) ≤ 16 then ((if ((if ax_iand (ax_ixor x0 (-1)) (ax_w32 (x0 - 1)) ≤ 65536 then ax_iand (ax_ixor x0 (-1)) (ax_w32 (x0 - 1)) else ax_iushr (ax_iand (ax_ixor x0 (-1)) (ax_w32 (x0 - 1))) 16) : Int) ≤ 256 then ((if ax_iand (ax_ixor x0 (-1)) (ax_w32 (x0 - 1)) ≤ 65536 then 1 else ax_w32 (1 + 16)) : Int) else ax_w32 (((if ax_iand (ax_ixor x0 (-1)) (ax_w32 (x0 - 1)) ≤ 65536 then 1 else ax_w32 (1 + 16)) : Int) + 8)) : Int) else ax_w32 (((if ((if ax_iand (ax_ixor x0 (-1)) (ax_w32 (x0 - 1)) ≤ 65536 then ax_iand (ax_ixor x0 (-1)) (ax_w32 (x0 - 1)) else ax_iushr (ax_iand (ax_ixor x0 (-1)) (ax_w32 (x0 - 1))) 16) : Int) ≤ 256 then ((if ax_iand (ax_ixor x0 (-1)) (ax_w32 (x0 - 1)) ≤ 65536 then 1 else ax_w32 (1 + 16)) : Int) else ax_w32 (((if ax_iand (ax_ixor x0 (-1)) (ax_w32 (x0 - 1)) ≤ 65536 then 1 else ax_w32 (1 + 16)) : Int) + 8)) : Int) + 4)) : Int)]) (h1 := hp L s c e) rfl ?_
              refine RuP.step (pc' := 77) (ls' := [some (.inl ((if ((if ((if ax_iand (ax_ixor x0 (-1)) (ax_w32 (x0 - 1)) ≤ 65536 then ax_iand (ax_ixor x0 (-1)) (ax_w32 (x0 - 1)) else ax_iushr (ax_iand (ax_ixor x0 (-1)) (ax_w32 (x0 - 1))) 16) : Int) ≤ 256 then ((if ax_iand (ax_ixor x0 (-1)) (ax_w32 (x0 - 1)) ≤ 65536 then ax_iand (ax_ixor x0 (-1)) (ax_w32 (x0 - 1)) else ax_iushr (ax_iand (ax_ixor x0 (-1)) (ax_w32 (x0 - 1))) 16) : Int) else ax_iushr ((if ax_iand (ax_ixor x0 (-1)) (ax_w32 (x0 - 1)) ≤ 65536 then ax_iand (ax_ixor x0 (-1)) (ax_w32 (x0 - 1)) else ax_iushr (ax_iand (ax_ixor x0 (-1)) (ax_w32 (x0 - 1))) 16) : Int) 8) : Int) ≤ 16 then ((if ((if ax_iand (ax_ixor x0 (-1)) (ax_w32 (x0 - 1)) ≤ 65536 then ax_iand (ax_ixor x0 (-1)) (ax_w32 (x0 - 1)) else ax_iushr (ax_iand (ax_ixor x0 (-1)) (ax_w32 (x0 - 1))) 16) : Int) ≤ 256 then ((if ax_iand (ax_ixor x0 (-1)) (ax_w32 (x0 - 1)) ≤ 65536 then ax_iand (ax_ixor x0 (-1)) (ax_w32 (x0 - 1)) else ax_iushr (ax_iand (ax_ixor x0 (-1)) (ax_w32 (x0 - 1))) 16) : Int) else ax_iushr ((if ax_iand (ax_ixor x0 (-1)) (ax_w32 (x0 - 1)) ≤ 65536 then ax_iand (ax_ixor x0 (-1)) (ax_w32 (x0 - 1)) else ax_iushr (ax_iand (ax_ixor x0 (-1)) (ax_w32 (x0 - 1))) 16) : Int) 8) : Int) else ax_iushr ((if ((if ax_iand (ax_ixor x0 (-1)) (ax_w32 (x0 - 1)) ≤ 65536 then ax_iand (ax_ixor x0 (-1)) (ax_w32 (x0 - 1)) else ax_iushr (ax_iand (ax_ixor x0 (-1)) (ax_w32 (x0 - 1))) 16) : Int) ≤ 256 then ((if ax_iand (ax_ixor x0 (-1)) (ax_w32 (x0 - 1)) ≤ 65536 then ax_iand (ax_ixor x0 (-1)) (ax_w32 (x0 - 1)) else ax_iushr (ax_iand (ax_ixor x0 (-1)) (ax_w32 (x0 - 1))) 16) : Int) else ax_iushr ((if ax_iand (ax_ixor x0 (-1)) (ax_w32 (x0 - 1)) ≤ 65536 then ax_iand (ax_ixor x0 (-1)) (ax_w32 (x0 - 1)) else ax_iushr (ax_iand (ax_ixor x0 (-1)) (ax_w32 (x0 - 1))) 16) : Int) 8) : Int) 4) : Int)), some (.inl ((if ((if ((if ax_iand (ax_ixor x0 (-1)) (ax_w32 (x0 - 1)) ≤ 65536 then ax_iand (ax_ixor x0 (-1)) (ax_w32 (x0 - 1)) else ax_iushr (ax_iand (ax_ixor x0 (-1)) (ax_w32 (x0 - 1))) 16) : Int) ≤ 256 then ((if ax_iand (ax_ixor x0 (-1)) (ax_w32 (x0 - 1)) ≤ 65536 then ax_iand (ax_ixor x0 (-1)) (ax_w32 (x0 - 1)) else ax_iushr (ax_iand (ax_ixor x0 (-1)) (ax_w32 (x0 - 1))) 16) : Int) else ax_iushr ((if ax_iand (ax_ixor x0 (-1)) (ax_w32 (x0 - 1)) ≤ 65536 then ax_iand (ax_ixor x0 (-1)) (ax_w32 (x0 - 1)) else ax_iushr (ax_iand (ax_ixor x0 (-1)) (ax_w32 (x0 - 1))) 16) : Int) 8) : Int) ≤ 16 then ((if ((if ax_iand (ax_ixor x0 (-1)) (ax_w32 (x0 - 1)) ≤ 65536 then ax_iand (ax_ixor x0 (-1)) (ax_w32 (x0 - 1)) else ax_iushr (ax_iand (ax_ixor x0 (-1)) (ax_w32 (x0 - 1))) 16) : Int) ≤ 256 then ((if ax_iand (ax_ixor x0 (-1)) (ax_w32 (x0 - 1)) ≤ 65536 then 1 else ax_w32 (1 + 16)) : Int) else ax_w32 (((if ax_iand (ax_ixor x0 (-1)) (ax_w32 (x0 - 1)) ≤ 65536 then 1 else ax_w32 (1 + 16)) : Int) + 8)) : Int) else ax_w32 (((if ((if ax_iand (ax_ixor x0 (-1)) (ax_w32 (x0 - 1)) ≤ 65536 then ax_iand (ax_ixor x0 (-1)) (ax_w32 (x0 - 1)) else ax_iushr (ax_iand (ax_ixor x0 (-1)) (ax_w32 (x0 - 1))) 16) : Int) ≤ 256 then ((if ax_iand (ax_ixor x0 (-1)) (ax_w32 (x0 - 1)) ≤ 65536 then 1 else ax_w32 (1 + 16)) : Int) else ax_w32 (((if ax_iand (ax_ixor x0 (-1)) (ax_w32 (x0 - 1)) ≤ 65536 then 1 else ax_w32 (1 + 16)) : Int) + 8)) : Int) + 4)) : Int))]) (st' := [.inl 1, .inl ((if ((if ((if ax_iand (ax_ixor x0 (-1)) (ax_w32 (x0 - 1)) ≤ 65536 then ax_iand (ax_ixor x0 (-1)) (ax_w32 (x0 - 1)) else ax_iushr (ax_iand (ax_ixor x0 (-1)) (ax_w32 (x0 - 1))) 16) : Int) ≤ 256 then ((if ax_iand (ax_ixor x0 (-1)) (ax_w32 (x0 - 1)) ≤ 65536 then ax_iand (ax_ixor x0 (-1)) (ax_w32 (x0 - 1)) else ax_iushr (ax_iand (ax_ixor x0 (-1)) (ax_w32 (x0 - 1))) 16) : Int) else ax_iushr ((if ax_iand (ax_ixor x0 (-1)) (ax_w32 (x0 - 1)) ≤ 65536 then ax_iand (ax_ixor x0 (-1)) (ax_w32 (x0 - 1)) else ax_iushr (ax_iand (ax_ixor x0 (-1)) (ax_w32 (x0 - 1))) 16) : Int) 8) : Int) ≤ 16 then ((if ((if ax_iand (ax_ixor x0 (-1)) (ax_w32 (x0 - 1)) ≤ 65536 then ax_iand (ax_ixor x0 (-1)) (ax_w32 (x0 - 1)) else ax_iushr (ax_iand (ax_ixor x0 (-1)) (ax_w32 (x0 - 1))) 16) : Int) ≤ 256 then ((if ax_iand (ax_ixor x0 (-1)) (ax_w32 (x0 - 1)) ≤ 65536 then ax_iand (ax_ixor x0 (-1)) (ax_w32 (x0 - 1)) else ax_iushr (ax_iand (ax_ixor x0 (-1)) (ax_w32 (x0 - 1))) 16) : Int) else ax_iushr ((if ax_iand (ax_ixor x0 (-1)) (ax_w32 (x0 - 1)) ≤ 65536 then ax_iand (ax_ixor x0 (-1)) (ax_w32 (x0 - 1)) else ax_iushr (ax_iand (ax_ixor x0 (-1)) (ax_w32 (x0 - 1))) 16) : Int) 8) : Int) else ax_iushr ((if ((if ax_iand (ax_ixor x0 (-1)) (ax_w32 (x0 - 1)) ≤ 65536 then ax_iand (ax_ixor x0 (-1)) (ax_w32 (x0 - 1)) else ax_iushr (ax_iand (ax_ixor x0 (-1)) (ax_w32 (x0 - 1))) 16) : Int) ≤ 256 then ((if ax_iand (ax_ixor x0 (-1)) (ax_w32 (x0 - 1)) ≤ 65536 then ax_iand (ax_ixor x0 (-1)) (ax_w32 (x0 - 1)) else ax_iushr (ax_iand (ax_ixor x0 (-1)) (ax_w32 (x0 - 1))) 16) : Int) else ax_iushr ((if ax_iand (ax_ixor x0 (-1)) (ax_w32 (x0 - 1)) ≤ 65536 then ax_iand (ax_ixor x0 (-1)) (ax_w32 (x0 - 1)) else ax_iushr (ax_iand (ax_ixor x0 (-1)) (ax_w32 (x0 - 1))) 16) : Int) 8) : Int) 4) : Int), .inl ((if ((if ((if ax_iand (ax_ixor x0 (-1)) (ax_w32 (x0 - 1)) ≤ 65536 then ax_iand (ax_ixor x0 (-1)) (ax_w32 (x0 - 1)) else ax_iushr (ax_iand (ax_ixor x0 (-1)) (ax_w32 (x0 - 1))) 16) : Int) ≤ 256 then ((if ax_iand (ax_ixor x0 (-1)) (ax_w32 (x0 - 1)) ≤ 65536 then ax_iand (ax_ixor x0 (-1)) (ax_w32 (x0 - 1)) else ax_iushr (ax_iand (ax_ixor x0 (-1)) (ax_w32 (x0 - 1))) 16) : Int) else ax_iushr ((if ax_iand (ax_ixor x0 (-1)) (ax_w32 (x0 - 1)) ≤ 65536 then ax_iand (ax_ixor x0 (-1)) (ax_w32 (x0 - 1)) else ax_iushr (ax_iand (ax_ixor x0 (-1)) (ax_w32 (x0 - 1))) 16) : Int) 8) : Int) ≤ 16 then ((if ((if ax_iand (ax_ixor x0 (-1)) (ax_w32 (x0 - 1)) ≤ 65536 then ax_iand (ax_ixor x0 (-1)) (ax_w32 (x0 - 1)) else ax_iushr (ax_iand (ax_ixor x0 (-1)) (ax_w32 (x0 - 1))) 16) : Int) ≤ 256 then ((if ax_iand (ax_ixor x0 (-1)) (ax_w32 (x0 - 1)) ≤ 65536 then 1 else ax_w32 (1 + 16)) : Int) else ax_w32 (((if ax_iand (ax_ixor x0 (-1)) (ax_w32 (x0 - 1)) ≤ 65536 then 1 else ax_w32 (1 + 16)) : Int) + 8)) : Int) else ax_w32 (((if ((if ax_iand (ax_ixor x0 (-1)) (ax_w32 (x0 - 1)) ≤ 65536 then ax_iand (ax_ixor x0 (-1)) (ax_w32 (x0 - 1)) else ax_iushr (ax_iand (ax_ixor x0 (-1)) (ax_w32 (x0 - 1))) 16) : Int) ≤ 256 then ((if ax_iand (ax_ixor x0 (-1)) (ax_w32 (x0 - 1)) ≤ 65536 then 1 else ax_w32 (1 + 16)) : Int) else ax_w32 (((if ax_iand (ax_ixor x0 (-1)) (ax_w32 (x0 - 1)) ≤ 65536 then 1 else ax_w32 (1 + 16)) : Int) + 8)) : Int) + 4)) : Int)]) (h1 := hp L s c e) rfl ?_
              refine RuP.step (pc' := 78) (ls' := [some (.inl ((if ((if ((if ax_iand (ax_ixor x0 (-1)) (ax_w32 (x0 - 1)) ≤ 65536 then ax_iand (ax_ixor x0 (-1)) (ax_w32 (x0 - 1)) else ax_iushr (ax_iand (ax_ixor x0 (-1)) (ax_w32 (x0 - 1))) 16) : Int) ≤ 256 then ((if ax_iand (ax_ixor x0 (-1)) (ax_w32 (x0 - 1)) ≤ 65536 then ax_iand (ax_ixor x0 (-1)) (ax_w32 (x0 - 1)) else ax_iushr (ax_iand (ax_ixor x0 (-1)) (ax_w32 (x0 - 1))) 16) : Int) else ax_iushr ((if ax_iand (ax_ixor x0 (-1)) (ax_w32 (x0 - 1)) ≤ 65536 then ax_iand (ax_ixor x0 (-1)) (ax_w32 (x0 - 1)) else ax_iushr (ax_iand (ax_ixor x0 (-1)) (ax_w32 (x0 - 1))) 16) : Int) 8) : Int) ≤ 16 then ((if ((if ax_iand (ax_ixor x0 (-1)) (ax_w32 (x0 - 1)) ≤ 65536 then ax_iand (ax_ixor x0 (-1)) (ax_w32 (x0 - 1)) else ax_iushr (ax_iand (ax_ixor x0 (-1)) (ax_w32 (x0 - 1))) 16) : Int) ≤ 256 then ((if ax_iand (ax_ixor x0 (-1)) (ax_w32 (x0 - 1)) ≤ 65536 then ax_iand (ax_ixor x0 (-1)) (ax_w32 (x0 - 1)) else ax_iushr (ax_iand (ax_ixor x0 (-1)) (ax_w32 (x0 - 1))) 16) : Int) else ax_iushr ((if ax_iand (ax_ixor x0 (-1)) (ax_w32 (x0 - 1)) ≤ 65536 then ax_iand (ax_ixor x0 (-1)) (ax_w32 (x0 - 1)) else ax_iushr (ax_iand (ax_ixor x0 (-1)) (ax_w32 (x0 - 1))) 16) : Int) 8) : Int) else ax_iushr ((if ((if ax_iand (ax_ixor x0 (-1)) (ax_w32 (x0 - 1)) ≤ 65536 then ax_iand (ax_ixor x0 (-1)) (ax_w32 (x0 - 1)) else ax_iushr (ax_iand (ax_ixor x0 (-1)) (ax_w32 (x0 - 1))) 16) : Int) ≤ 256 then ((if ax_iand (ax_ixor x0 (-1)) (ax_w32 (x0 - 1)) ≤ 65536 then ax_iand (ax_ixor x0 (-1)) (ax_w32 (x0 - 1)) else ax_iushr (ax_iand (ax_ixor x0 (-1)) (ax_w32 (x0 - 1))) 16) : Int) else ax_iushr ((if ax_iand (ax_ixor x0 (-1)) (ax_w32 (x0 - 1)) ≤ 65536 then ax_iand (ax_ixor x0 (-1)) (ax_w32 (x0 - 1)) else ax_iushr (ax_iand (ax_ixor x0 (-1)) (ax_w32 (x0 - 1))) 16) : Int) 8) : Int) 4) : Int)), some (.inl ((if ((if ((if ax_iand (ax_ixor x0 (-1)) (ax_w32 (x0 - 1)) ≤ 65536 then ax_iand (ax_ixor x0 (-1)) (ax_w32 (x0 - 1)) else ax_iushr (ax_iand (ax_ixor x0 (-1)) (ax_w32 (x0 - 1))) 16) : Int) ≤ 256 then ((if ax_iand (ax_ixor x0 (-1)) (ax_w32 (x0 - 1)) ≤ 65536 then ax_iand (ax_ixor x0 (-1)) (ax_w32 (x0 - 1)) else ax_iushr (ax_iand (ax_ixor x0 (-1)) (ax_w32 (x0 - 1))) 16) : Int) else ax_iushr ((if ax_iand (ax_ixor x0 (-1)) (ax_w32 (x0 - 1)) ≤ 65536 then ax_iand (ax_ixor x0 (-1)) (ax_w32 (x0 - 1)) else ax_iushr (ax_iand (ax_ixor x0 (-1)) (ax_w32 (x0 - 1))) 16) : Int) 8) : Int) ≤ 16 then ((if ((if ax_iand (ax_ixor x0 (-1)) (ax_w32 (x0 - 1)) ≤ 65536 then ax_iand (ax_ixor x0 (-1)) (ax_w32 (x0 - 1)) else ax_iushr (ax_iand (ax_ixor x0 (-1)) (ax_w32 (x0 - 1))) 16) : Int) ≤ 256 then ((if ax_iand (ax_ixor x0 (-1)) (ax_w32 (x0 - 1)) ≤ 65536 then 1 else ax_w32 (1 + 16)) : Int) else ax_w32 (((if ax_iand (ax_ixor x0 (-1)) (ax_w32 (x0 - 1)) ≤ 65536 then 1 else ax_w32 (1 + 16)) : Int) + 8)) : Int) else ax_w32 (((if ((if ax_iand (ax_ixor x0 (-1)) (ax_w32 (x0 - 1)) ≤ 65536 then ax_iand (ax_ixor x0 (-1)) (ax_w32 (x0 - 1)) else ax_iushr (ax_iand (ax_ixor x0 (-1)) (ax_w32 (x0 - 1))) 16) : Int) ≤ 256 then ((if ax_iand (ax_ixor x0 (-1)) (ax_w32 (x0 - 1)) ≤ 65536 then 1 else ax_w32 (1 + 16)) : Int) else ax_w32 (((if ax_iand (ax_ixor x0 (-1)) (ax_w32 (x0 - 1)) ≤ 65536 then 1 else ax_w32 (1 + 16)) : Int) + 8)) : Int) + 4)) : Int))]) (st' := [.inl (ax_iushr ((if ((if ((if ax_iand (ax_ixor x0 (-1)) (ax_w32 (x0 - 1)) ≤ 65536 then ax_iand (ax_ixor x0 (-1)) (ax_w32 (x0 - 1)) else ax_iushr (ax_iand (ax_ixor x0 (-1)) (ax_w32 (x0 - 1))) 16) : Int) ≤ 256 then ((if ax_iand (ax_ixor x0 (-1)) (ax_w32 (x0 - 1)) ≤ 65536 then ax_iand (ax_ixor x0 (-1)) (ax_w32 (x0 - 1)) else ax_iushr (ax_iand (ax_ixor x0 (-1)) (ax_w32 (x0 - 1))) 16) : Int) else ax_iushr ((if ax_iand (ax_ixor x0 (-1)) (ax_w32 (x0 - 1)) ≤ 65536 then ax_iand (ax_ixor x0 (-1)) (ax_w32 (x0 - 1)) else ax_iushr (ax_iand (ax_ixor x0 (-1)) (ax_w32 (x0 - 1))) 16) : Int) 8) : Int) ≤ 16 then ((if ((if ax_iand (ax_ixor x0 (-1)) (ax_w32 (x0 - 1)) ≤ 65536 then ax_iand (ax_ixor x0 (-1)) (ax_w32 (x0 - 1)) else ax_iushr (ax_iand (ax_ixor x0 (-1)) (ax_w32 (x0 - 1))) 16) : Int) ≤ 256 then ((if ax_iand (ax_ixor x0 (-1)) (ax_w32 (x0 - 1)) ≤ 65536 then ax_iand (ax_ixor x0 (-1)) (ax_w32 (x0 - 1)) else ax_iushr (ax_iand (ax_ixor x0 (-1)) (ax_w32 (x0 - 1))) 16) : Int) else ax_iushr ((if ax_iand (ax_ixor x0 (-1)) (ax_w32 (x0 - 1)) ≤ 65536 then ax_iand (ax_ixor x0 (-1)) (ax_w32 (x0 - 1)) else ax_iushr (ax_iand (ax_ixor x0 (-1)) (ax_w32 (x0 - 1))) 16) : Int) 8) : Int) else ax_iushr ((if ((if ax_iand (ax_ixor x0 (-1)) (ax_w32 (x0 - 1)) ≤ 65536 then ax_iand (ax_ixor x0 (-1)) (ax_w32 (x0 - 1)) else ax_iushr (ax_iand (ax_ixor x0 (-1)) (ax_w32 (x0 - 1))) 16) : Int) ≤ 256 then ((if ax_iand (ax_ixor x0 (-1)) (ax_w32 (x0 - 1)) ≤ 65536 then ax_iand (ax_ixor x0 (-1)) (ax_w32 (x0 - 1)) else ax_iushr (ax_iand (ax_ixor x0 (-1)) (ax_w32 (x0 - 1))) 16) : Int) else ax_iushr ((if ax_iand (ax_ixor x0 (-1)) (ax_w32 (x0 - 1)) ≤ 65536 then ax_iand (ax_ixor x0 (-1)) (ax_w32 (x0 - 1)) else ax_iushr (ax_iand (ax_ixor x0 (-1)) (ax_w32 (x0 - 1))) 16) : Int) 8) : Int) 4) : Int) 1), .inl ((if ((if ((if ax_iand (ax_ixor x0 (-1)) (ax_w32 (x0 - 1)) ≤ 65536 then ax_iand (ax_ixor x0 (-1)) (ax_w32 (x0 - 1)) else ax_iushr (ax_iand (ax_ixor x0 (-1)) (ax_w32 (x0 - 1))) 16) : Int) ≤ 256 then ((if ax_iand (ax_ixor x0 (-1)) (ax_w32 (x0 - 1)) ≤ 65536 then ax_iand (ax_ixor x0 (-1)) (ax_w32 (x0 - 1)) else ax_iushr (ax_iand (ax_ixor x0 (-1)) (ax_w32 (x0 - 1))) 16) : Int) else ax_iushr ((if ax_iand (ax_ixor x0 (-1)) (ax_w32 (x0 - 1)) ≤ 65536 then ax_iand (ax_ixor x0 (-1)) (ax_w32 (x0 - 1)) else ax_iushr (ax_iand (ax_ixor x0 (-1)) (ax_w32 (x0 - 1))) 16) : Int) 8) : Int) ≤ 16 then ((if ((if ax_iand (ax_ixor x0 (-1)) (ax_w32 (x0 - 1)) ≤ 65536 then ax_iand (ax_ixor x0 (-1)) (ax_w32 (x0 - 1)) else ax_iushr (ax_iand (ax_ixor x0 (-1)) (ax_w32 (x0 - 1))) 16) : Int) ≤ 256 then ((if ax_iand (ax_ixor x0 (-1)) (ax_w32 (x0 - 1)) ≤ 65536 then 1 else ax_w32 (1 + 16)) : Int) else ax_w32 (((if ax_iand (ax_ixor x0 (-1)) (ax_w32 (x0 - 1)) ≤ 65536 then 1 else ax_w32 (1 + 16)) : Int) + 8)) : Int) else ax_w32 (((if ((if ax_iand (ax_ixor x0 (-1)) (ax_w32 (x0 - 1)) ≤ 65536 then ax_iand (ax_ixor x0 (-1)) (ax_w32 (x0 - 1)) else ax_iushr (ax_iand (ax_ixor x0 (-1)) (ax_w32 (x0 - 1))) 16) : Int) ≤ 256 then ((if ax_iand (ax_ixor x0 (-1)) (ax_w32 (x0 - 1)) ≤ 65536 then 1 else ax_w32 (1 + 16)) : Int) else ax_w32 (((if ax_iand (ax_ixor x0 (-1)) (ax_w32 (x0 - 1)) ≤ 65536 then 1 else ax_w32 (1 + 16)) : Int) + 8)) : Int) + 4)) : Int)]) (h1 := hp L s c e) rfl ?_
              refine RuP.step (pc' := 79) (ls' := [some (.inl ((if ((if ((if ax_iand (ax_ixor x0 (-1)) (ax_w32 (x0 - 1)) ≤ 65536 then ax_iand (ax_ixor x0 (-1)) (ax_w32 (x0 - 1)) else ax_iushr (ax_iand (ax_ixor x0 (-1)) (ax_w32 (x0 - 1))) 16) : Int) ≤ 256 then ((if ax_iand (ax_ixor x0 (-1)) (ax_w32 (x0 - 1)) ≤ 65536 then ax_iand (ax_ixor x0 (-1)) (ax_w32 (x0 - 1)) else ax_iushr (ax_iand (ax_ixor x0 (-1)) (ax_w32 (x0 - 1))) 16) : Int) else ax_iushr ((if ax_iand (ax_ixor x0 (-1)) (ax_w32 (x0 - 1)) ≤ 65536 then ax_iand (ax_ixor x0 (-1)) (ax_w32 (x0 - 1)) else ax_iushr (ax_iand (ax_ixor x0 (-1)) (ax_w32 (x0 - 1))) 16) : Int) 8) : Int) ≤ 16 then ((if ((if ax_iand (ax_ixor x0 (-1)) (ax_w32 (x0 - 1)) ≤ 65536 then ax_iand (ax_ixor x0 (-1)) (ax_w32 (x0 - 1)) else ax_iushr (ax_iand (ax_ixor x0 (-1)) (ax_w32 (x0 - 1))) 16) : Int) ≤ 256 then ((if ax_iand (ax_ixor x0 (-1)) (ax_w32 (x0 - 1)) ≤ 65536 then ax_iand (ax_ixor x0 (-1)) (ax_w32 (x0 - 1)) else ax_iushr (ax_iand (ax_ixor x0 (-1)) (ax_w32 (x0 - 1))) 16) : Int) else ax_iushr ((if ax_iand (ax_ixor x0 (-1)) (ax_w32 (x0 - 1)) ≤ 65536 then ax_iand (ax_ixor x0 (-1)) (ax_w32 (x0 - 1)) else ax_iushr (ax_iand (ax_ixor x0 (-1)) (ax_w32 (x0 - 1))) 16) : Int) 8) : Int) else ax_iushr ((if ((if ax_iand (ax_ixor x0 (-1)) (ax_w32 (x0 - 1)) ≤ 65536 then ax_iand (ax_ixor x0 (-1)) (ax_w32 (x0 - 1)) else ax_iushr (ax_iand (ax_ixor x0 (-1)) (ax_w32 (x0 - 1))) 16) : Int) ≤ 256 then ((if ax_iand (ax_ixor x0 (-1)) (ax_w32 (x0 - 1)) ≤ 65536 then ax_iand (ax_ixor x0 (-1)) (ax_w32 (x0 - 1)) else ax_iushr (ax_iand (ax_ixor x0 (-1)) (ax_w32 (x0 - 1))) 16) : Int) else ax_iushr ((if ax_iand (ax_ixor x0 (-1)) (ax_w32 (x0 - 1)) ≤ 65536 then ax_iand (ax_ixor x0 (-1)) (ax_w32 (x0 - 1)) else ax_iushr (ax_iand (ax_ixor x0 (-1)) (ax_w32 (x0 - 1))) 16) : Int) 8) : Int) 4) : Int)), some (.inl ((if ((if ((if ax_iand (ax_ixor x0 (-1)) (ax_w32 (x0 - 1)) ≤ 65536 then ax_iand (ax_ixor x0 (-1)) (ax_w32 (x0 - 1)) else ax_iushr (ax_iand (ax_ixor x0 (-1)) (ax_w32 (x0 - 1))) 16) : Int) ≤ 256 then ((if ax_iand (ax_ixor x0 (-1)) (ax_w32 (x0 - 1)) ≤ 65536 then ax_iand (ax_ixor x0 (-1)) (ax_w32 (x0 - 1)) else ax_iushr (ax_iand (ax_ixor x0 (-1)) (ax_w32 (x0 - 1))) 16) : Int) else ax_iushr ((if ax_iand (ax_ixor x0 (-1)) (ax_w32 (x0 - 1)) ≤ 65536 then ax_iand (ax_ixor x0 (-1)) (ax_w32 (x0 - 1)) else ax_iushr (ax_iand (ax_ixor x0 (-1)) (ax_w32 (x0 - 1))) 16) : Int) 8) : Int) ≤ 16 then ((if ((if ax_iand (ax_ixor x0 (-1)) (ax_w32 (x0 - 1)) ≤ 65536 then ax_iand (ax_ixor x0 (-1)) (ax_w32 (x0 - 1)) else ax_iushr (ax_iand (ax_ixor x0 (-1)) (ax_w32 (x0 - 1))) 16) : Int) ≤ 256 then ((if ax_iand (ax_ixor x0 (-1)) (ax_w32 (x0 - 1)) ≤ 65536 then 1 else ax_w32 (1 + 16)) : Int) else ax_w32 (((if ax_iand (ax_ixor x0 (-1)) (ax_w32 (x0 - 1)) ≤ 65536 then 1 else ax_w32 (1 + 16)) : Int) + 8)) : Int) else ax_w32 (((if ((if ax_iand (ax_ixor x0 (-1)) (ax_w32 (x0 - 1)) ≤ 65536 then ax_iand (ax_ixor x0 (-1)) (ax_w32 (x0 - 1)) else ax_iushr (ax_iand (ax_ixor x0 (-1)) (ax_w32 (x0 - 1))) 16) : Int) ≤ 256 then ((if ax_iand (ax_ixor x0 (-1)) (ax_w32 (x0 - 1)) ≤ 65536 then 1 else ax_w32 (1 + 16)) : Int) else ax_w32 (((if ax_iand (ax_ixor x0 (-1)) (ax_w32 (x0 - 1)) ≤ 65536 then 1 else ax_w32 (1 + 16)) : Int) + 8)) : Int) + 4)) : Int))]) (st' := [.inl (ax_w32 (((if ((if ((if ax_iand (ax_ixor x0 (-1)) (ax_w32 (x0 - 1)) ≤ 65536 then ax_iand (ax_ixor x0 (-1)) (ax_w32 (x0 - 1)) else ax_iushr (ax_iand (ax_ixor x0 (-1)) (ax_w32 (x0 - 1))) 16) : Int) ≤ 256 then ((if ax_iand (ax_ixor x0 (-1)) (ax_w32 (x0 - 1)) ≤ 65536 then ax_iand (ax_ixor x0 (-1)) (ax_w32 (x0 - 1)) else ax_iushr (ax_iand (ax_ixor x0 (-1)) (ax_w32 (x0 - 1))) 16) : Int) else ax_iushr ((if ax_iand (ax_ixor x0 (-1)) (ax_w32 (x0 - 1)) ≤ 65536 then ax_iand (ax_ixor x0 (-1)) (ax_w32 (x0 - 1)) else ax_iushr (ax_iand (ax_ixor x0 (-1)) (ax_w32 (x0 - 1))) 16) : Int) 8) : Int) ≤ 16 then ((if ((if ax_iand (ax_ixor x0 (-1)) (ax_w32 (x0 - 1)) ≤ 65536 then ax_iand (ax_ixor x0 (-1)) (ax_w32 (x0 - 1)) else ax_iushr (ax_iand (ax_ixor x0 (-1)) (ax_w32 (x0 - 1))) 16) : Int) ≤ 256 then ((if ax_iand (ax_ixor x0 (-1)) (ax_w32 (x0 - 1)) ≤ 65536 then 1 else ax_w32 (1 + 16)) : Int) else ax_w32 (((if ax_iand (ax_ixor x0 (-1)) (ax_w32 (x0 - 1)) ≤ 65536 then 1 else ax_w32 (1 + 16)) : Int) + 8)) : Int) else ax_w32 (((if ((if ax_iand (ax_ixor x0 (-1)) (ax_w32 (x0 - 1)) ≤ 65536 then ax_iand (ax_ixor x0 (-1)) (ax_w32 (x0 - 1)) else ax_iushr (ax_iand (ax_ixor x0 (-1)) (ax_w32 (x0 - 1))) 16) : Int) ≤ 256 then ((if ax_iand (ax_ixor x0 (-1)) (ax_w32 (x0 - 1)) ≤ 65536 then 1 else ax_w32 (1 + 16)) : Int) else ax_w32 (((if ax_iand (ax_ixor x0 (-1)) (ax_w32 (x0 - 1)) ≤ 65536 then 1 else ax_w32 (1 + 16)) : Int) + 8)) : Int) + 4)) : Int) + (ax_iushr ((if ((if ((if ax_iand (ax_ixor x0 (-1)) (ax_w32 (x0 - 1)) ≤ 65536 then ax_iand (ax_ixor x0 (-1)) (ax_w32 (x0 - 1)) else ax_iushr (ax_iand (ax_ixor x0 (-1)) (ax_w32 (x0 - 1))) 16) : Int) ≤ 256 then ((if ax_iand (ax_ixor x0 (-1)) (ax_w32 (x0 - 1)) ≤ 65536 then ax_iand (ax_ixor x0 (-1)) (ax_w32 (x0 - 1)) else ax_iushr (ax_iand (ax_ixor x0 (-1)) (ax_w32 (x0 - 1))) 16) : Int) else ax_iushr ((if ax_iand (ax_ixor x0 (-1)) (ax_w32 (x0 - 1)) ≤ 65536 then ax_iand (ax_ixor x0 (-1)) (ax_w32 (x0 - 1)) else ax_iushr (ax_iand (ax_ixor x0 (-1)) (ax_w32 (x0 - 1))) 16) : Int) 8) : Int) ≤ 16 then ((if ((if ax_iand (ax_ixor x0 (-1)) (ax_w32 (x0 - 1)) ≤ 65536 then ax_iand (ax_ixor x0 (-1)) (ax_w32 (x0 - 1)) else ax_iushr (ax_iand (ax_ixor x0 (-1)) (ax_w32 (x0 - 1))) 16) : Int) ≤ 256 then ((if ax_iand (ax_ixor x0 (-1)) (ax_w32 (x0 - 1)) ≤ 65536 then ax_iand (ax_ixor x0 (-1)) (ax_w32 (x0 - 1)) else ax_iushr (ax_iand (ax_ixor x0 (-1)) (ax_w32 (x0 - 1))) 16) : Int) else ax_iushr ((if ax_iand (ax_ixor x0 (-1)) (ax_w32 (x0 - 1)) ≤ 65536 then ax_iand (ax_ixor x0 (-1)) (ax_w32 (x0 - 1)) else ax_iushr (ax_iand (ax_ixor x0 (-1)) (ax_w32 (x0 - 1))) 16) : Int) 8) : Int) else ax_iushr ((if ((if ax_iand (ax_ixor x0 (-1)) (ax_w32 (x0 - 1)) ≤ 65536 then ax_iand (ax_ixor x0 (-1)) (ax_w32 (x0 - 1)) else ax_iushr (ax_iand (ax_ixor x0 (-1)) (ax_w32 (x0 - 1))) 16) : Int) ≤ 256 then ((if ax_iand (ax_ixor x0 (-1)) (ax_w32 (x0 - 1)) ≤ 65536 then ax_iand (ax_ixor x0 (-1)) (ax_w32 (x0 - 1)) else ax_iushr (ax_iand (ax_ixor x0 (-1)) (ax_w32 (x0 - 1))) 16) : Int) else ax_iushr ((if ax_iand (ax_ixor x0 (-1)) (ax_w32 (x0 - 1)) ≤ 65536 then ax_iand (ax_ixor x0 (-1)) (ax_w32 (x0 - 1)) else ax_iushr (ax_iand (ax_ixor x0 (-1)) (ax_w32 (x0 - 1))) 16) : Int) 8) : Int) 4) : Int) 1)))]) (h1 := hp L s c e) rfl ?_
              subst h
              exact RuP.dI rfl
            · rw [if_neg h4] at h
              refine RuP.jn rfl h4 ?_
              refine RuP.step (pc' := 70) (ls' := [some (.inl ((if ((if ((if ax_iand (ax_ixor x0 (-1)) (ax_w32 (x0 - 1)) ≤ 65536 then ax_iand (ax_ixor x0 (-1)) (ax_w32 (x0 - 1)) else ax_iushr (ax_iand (ax_ixor x0 (-1)) (ax_w32 (x0 - 1))) 16) : Int) ≤ 256 then ((if ax_iand (ax_ixor x0 (-1)) (ax_w32 (x0 - 1)) ≤ 65536 then ax_iand (ax_ixor x0 (-1)) (ax_w32 (x0 - 1)) else ax_iushr (ax_iand (ax_ixor x0 (-1)) (ax_w32 (x0 - 1))) 16) : Int) else ax_iushr ((if ax_iand (ax_ixor x0 (-1)) (ax_w32 (x0 - 1)) ≤ 65536 then ax_iand (ax_ixor x0 (-1)) (ax_w32 (x0 - 1)) else ax_iushr (ax_iand (ax_ixor x0 (-1)) (ax_w32 (x0 - 1))) 16) : Int) 8) : Int) ≤ 16 then ((if ((if ax_iand (ax_ixor x0 (-1)) (ax_w32 (x0 - 1)) ≤ 65536 then ax_iand (ax_ixor x0 (-1)) (ax_w32 (x0 - 1)) else ax_iushr (ax_iand (ax_ixor x0 (-1)) (ax_w32 (x0 - 1))) 16) : Int) ≤ 256 then ((if ax_iand (ax_ixor x0 (-1)) (ax_w32 (x0 - 1)) ≤ 65536 then ax_iand (ax_ixor x0 (-1)) (ax_w32 (x0 - 1)) else ax_iushr (ax_iand (ax_ixor x0 (-1)) (ax_w32 (x0 - 1))) 16) : Int) else ax_iushr ((if ax_iand (ax_ixor x0 (-1)) (ax_w32 (x0 - 1)) ≤ 65536 then ax_iand (ax_ixor x0 (-1)) (ax_w32 (x0 - 1)) else ax_iushr (ax_iand (ax_ixor x0 (-1)) (ax_w32 (x0 - 1))) 16) : Int) 8) : Int) else ax_iushr ((if ((if ax_iand (ax_ixor x0 (-1)) (ax_w32 (x0 - 1)) ≤ 65536 then ax_iand (ax_ixor x0 (-1)) (ax_w32 (x0 - 1)) else ax_iushr (ax_iand (ax_ixor x0 (-1)) (ax_w32 (x0 - 1))) 16) : Int) ≤ 256 then ((if ax_iand (ax_ixor x0 (-1)) (ax_w32 (x0 - 1)) ≤ 65536 then ax_iand (ax_ixor x0 (-1)) (ax_w32 (x0 - 1)) else ax_iushr (ax_iand (ax_ixor x0 (-1)) (ax_w32 (x0 - 1))) 16) : Int) else ax_iushr ((if ax_iand (ax_ixor x0 (-1)) (ax_w32 (x0 - 1)) ≤ 65536 then ax_iand (ax_ixor x0 (-1)) (ax_w32 (x0 - 1)) else ax_iushr (ax_iand (ax_ixor x0 (-1)) (ax_w32 (x0 - 1))) 16) : Int) 8) : Int) 4) : Int)), some (.inl (ax_w32 (((if ((if ((if ax_iand (ax_ixor x0 (-1)) (ax_w32 (x0 - 1)) ≤ 65536 then ax_iand (ax_ixor x0 (-1)) (ax_w32 (x0 - 1)) else ax_iushr (ax_iand (ax_ixor x0 (-1)) (ax_w32 (x0 - 1))) 16) : Int) ≤ 256 then ((if ax_iand (ax_ixor x0 (-1)) (ax_w32 (x0 - 1)) ≤ 65536 then ax_iand (ax_ixor x0 (-1)) (ax_w32 (x0 - 1)) else ax_iushr (ax_iand (ax_ixor x0 (-1)) (ax_w32 (x0 - 1))) 16) : Int) else ax_iushr ((if ax_iand (ax_ixor x0 (-1)) (ax_w32 (x0 - 1)) ≤ 65536 then ax_iand (ax_ixor x0 (-1)) (ax_w32 (x0 - 1)) else ax_iushr (ax_iand (ax_ixor x0 (-1)) (ax_w32 (x0 - 1))) 16) : Int) 8) : Int) ≤ 16 then ((if ((if ax_iand (ax_ixor x0 (-1)) (ax_w32 (x0 - 1)) ≤ 65536 then ax_iand (ax_ixor x0 (-1)) (ax_w32 (x0 - 1)) else ax_iushr (ax_iand (ax_ixor x0 (-1)) (ax_w32 (x0 - 1))) 16) : Int) ≤ 256 then ((if ax_iand (ax_ixor x0 (-1)) (ax_w32 (x0 - 1)) ≤ 65536 then 1 else ax_w32 (1 + 16)) : Int) else ax_w32 (((if ax_iand (ax_ixor x0 (-1)) (ax_w32 (x0 - 1)) ≤ 65536 then 1 else ax_w32 (1 + 16)) : Int) + 8)) : Int) else ax_w32 (((if ((if ax_iand (ax_ixor x0 (-1)) (ax_w32 (x0 - 1)) ≤ 65536 then ax_iand (ax_ixor x0 (-1)) (ax_w32 (x0 - 1)) else ax_iushr (ax_iand (ax_ixor x0 (-1)) (ax_w32 (x0 - 1))) 16) : Int) ≤ 256 then ((if ax_iand (ax_ixor x0 (-1)) (ax_w32 (x0 - 1)) ≤ 65536 then 1 else ax_w32 (1 + 16)) : Int) else ax_w32 (((if ax_iand (ax_ixor x0 (-1)) (ax_w32 (x0 - 1)) ≤ 65536 then 1 else ax_w32 (1 + 16)) : Int) + 8)) : Int) + 4)) : Int) + 2)))]) (st' := []) (h1 := hp L s c e) rfl ?_
              refine RuP.step (pc' := 71) (ls' := [some (.inl ((if ((if ((if ax_iand (ax_ixor x0 (-1)) (ax_w32 (x0 - 1)) ≤ 65536 then ax_iand (ax_ixor x0 (-1)) (ax_w32 (x0 - 1)) else ax_iushr (ax_iand (ax_ixor x0 (-1)) (ax_w32 (x0 - 1))) 16) : Int) ≤ 256 then ((if ax_iand (ax_ixor x0 (-1)) (ax_w32 (x0 - 1)) ≤ 65536 then ax_iand (ax_ixor x0 (-1)) (ax_w32 (x0 - 1)) else ax_iushr (ax_iand (ax_ixor x0 (-1)) (ax_w32 (x0 - 1))) 16) : Int) else ax_iushr ((if ax_iand (ax_ixor x0 (-1)) (ax_w32 (x0 - 1)) ≤ 65536 then ax_iand (ax_ixor x0 (-1)) (ax_w32 (x0 - 1)) else ax_iushr (ax_iand (ax_ixor x0 (-1)) (ax_w32 (x0 - 1))) 16) : Int) 8) : Int) ≤ 16 then ((if ((if ax_iand (ax_ixor x0 (-1)) (ax_w32 (x0 - 1)) ≤ 65536 then ax_iand (ax_ixor x0 (-1)) (ax_w32 (x0 - 1)) else ax_iushr (ax_iand (ax_ixor x0 (-1)) (ax_w32 (x0 - 1))) 16) : Int) ≤ 256 then ((if ax_iand (ax_ixor x0 (-1)) (ax_w32 (x0 - 1)) ≤ 65536 then ax_iand (ax_ixor x0 (-1)) (ax_w32 (x0 - 1)) else ax_iushr (ax_iand (ax_ixor x0 (-1)) (ax_w32 (x0 - 1))) 16) : Int) else ax_iushr ((if ax_iand (ax_ixor x0 (-1)) (ax_w32 (x0 - 1)) ≤ 65536 then ax_iand (ax_ixor x0 (-1)) (ax_w32 (x0 - 1)) else ax_iushr (ax_iand (ax_ixor x0 (-1)) (ax_w32 (x0 - 1))) 16) : Int) 8) : Int) else ax_iushr ((if ((if ax_iand (ax_ixor x0 (-1)) (ax_w32 (x0 - 1)) ≤ 65536 then ax_iand (ax_ixor x0 (-1)) (ax_w32 (x0 - 1)) else ax_iushr (ax_iand (ax_ixor x0 (-1)) (ax_w32 (x0 - 1))) 16) : Int) ≤ 256 then ((if ax_iand (ax_ixor x0 (-1)) (ax_w32 (x0 - 1)) ≤ 65536 then ax_iand (ax_ixor x0 (-1)) (ax_w32 (x0 - 1)) else ax_iushr (ax_iand (ax_ixor x0 (-1)) (ax_w32 (x0 - 1))) 16) : Int) else ax_iushr ((if ax_iand (ax_ixor x0 (-1)) (ax_w32 (x0 - 1)) ≤ 65536 then ax_iand (ax_ixor x0 (-1)) (ax_w32 (x0 - 1)) else ax_iushr (ax_iand (ax_ixor x0 (-1)) (ax_w32 (x0 - 1))) 16) : Int) 8) : Int) 4) : Int)), some (.inl (ax_w32 (((if ((if ((if ax_iand (ax_ixor x0 (-1)) (ax_w32 (x0 - 1)) ≤ 65536 then ax_iand (ax_ixor x0 (-1)) (ax_w32 (x0 - 1)) else ax_iushr (ax_iand (ax_ixor x0 (-1)) (ax_w32 (x0 - 1))) 16) : Int) ≤ 256 then ((if ax_iand (ax_ixor x0 (-1)) (ax_w32 (x0 - 1)) ≤ 65536 then ax_iand (ax_ixor x0 (-1)) (ax_w32 (x0 - 1)) else ax_iushr (ax_iand (ax_ixor x0 (-1)) (ax_w32 (x0 - 1))) 16) : Int) else ax_iushr ((if ax_iand (ax_ixor x0 (-1)) (ax_w32 (x0 - 1)) ≤ 65536 then ax_iand (ax_ixor x0 (-1)) (ax_w32 (x0 - 1)) else ax_iushr (ax_iand (ax_ixor x0 (-1)) (ax_w32 (x0 - 1))) 16) : Int) 8) : Int) ≤ 16 then ((if ((if ax_iand (ax_ixor x0 (-1)) (ax_w32 (x0 - 1)) ≤ 65536 then ax_iand (ax_ixor x0 (-1)) (ax_w32 (x0 - 1)) else ax_iushr (ax_iand (ax_ixor x0 (-1)) (ax_w32 (x0 - 1))) 16) : Int) ≤ 256 then ((if ax_iand (ax_ixor x0 (-1)) (ax_w32 (x0 - 1)) ≤ 65536 then 1 else ax_w32 (1 + 16)) : Int) else ax_w32 (((if ax_iand (ax_ixor x0 (-1)) (ax_w32 (x0 - 1)) ≤ 65536 then 1 else ax_w32 (1 + 16)) : Int) + 8)) : Int) else ax_w32 (((if ((if ax_iand (ax_ixor x0 (-1)) (ax_w32 (x0 - 1)) ≤ 65536 then ax_iand (ax_ixor x0 (-1)) (ax_w32 (x0 - 1)) else ax_iushr (ax_iand (ax_ixor x0 (-1)) (ax_w32 (x0 - 1))) 16) : Int) ≤ 256 then ((if ax_iand (ax_ixor x0 (-1)) (ax_w32 (x0 - 1)) ≤ 65536 then 1 else ax_w32 (1 + 16)) : Int) else ax_w32 (((if ax_iand (ax_ixor x0 (-1)) (ax_w32 (x0 - 1)) ≤ 65536 then 1 else ax_w32 (1 + 16)) : Int) + 8)) : Int) + 4)) : Int) + 2)))]) (st' := [.inl ((if ((if ((if ax_iand (ax_ixor x0 (-1)) (ax_w32 (x0 - 1)) ≤ 65536 then ax_iand (ax_ixor x0 (-1)) (ax_w32 (x0 - 1)) else ax_iushr (ax_iand (ax_ixor x0 (-1)) (ax_w32 (x0 - 1))) 16) : Int) ≤ 256 then ((if ax_iand (ax_ixor x0 (-1)) (ax_w32 (x0 - 1)) ≤ 65536 then ax_iand (ax_ixor x0 (-1)) (ax_w32 (x0 - 1)) else ax_iushr (ax_iand (ax_ixor x0 (-1)) (ax_w32 (x0 - 1))) 16) : Int) else ax_iushr ((if ax_iand (ax_ixor x0 (-1)) (ax_w32 (x0 - 1)) ≤ 65536 then ax_iand (ax_ixor x0 (-1)) (ax_w32 (x0 - 1)) else ax_iushr (ax_iand (ax_ixor x0 (-1)) (ax_w32 (x0 - 1))) 16) : Int) 8) : Int) ≤ 16 then ((if ((if ax_iand (ax_ixor x0 (-1)) (ax_w32 (x0 - 1)) ≤ 65536 then ax_iand (ax_ixor x0 (-1)) (ax_w32 (x0 - 1)) else ax_iushr (ax_iand (ax_ixor x0 (-1)) (ax_w32 (x0 - 1))) 16) : Int) ≤ 256 then ((if ax_iand (ax_ixor x0 (-1)) (ax_w32 (x0 - 1)) ≤ 65536 then ax_iand (ax_ixor x0 (-1)) (ax_w32 (x0 - 1)) else ax_iushr (ax_iand (ax_ixor x0 (-1)) (ax_w32 (x0 - 1))) 16) : Int) else ax_iushr ((if ax_iand (ax_ixor x0 (-1)) (ax_w32 (x0 - 1)) ≤ 65536 then ax_iand (ax_ixor x0 (-1)) (ax_w32 (x0 - 1)) else ax_iushr (ax_iand (ax_ixor x0 (-1)) (ax_w32 (x0 - 1))) 16) : Int) 8) : Int) else ax_iushr ((if ((if ax_iand (ax_ixor x0 (-1)) (ax_w32 (x0 - 1)) ≤ 65536 then ax_iand (ax_ixor x0 (-1)) (ax_w32 (x0 - 1)) else ax_iushr (ax_iand (ax_ixor x0 (-1)) (ax_w32 (x0 - 1))) 16) : Int) ≤ 256 then ((if ax_iand (ax_ixor x0 (-1)) (ax_w32 (x0 - 1)) ≤ 65536 then ax_iand (ax_ixor x0 (-1)) (ax_w32 (x0 - 1)) else ax_iushr (ax_iand (ax_ixor x0 (-1)) (ax_w32 (x0 - 1))) 16) : Int) else ax_iushr ((if ax_iand (ax_ixor x0 (-1)) (ax_w32 (x0 - 1)) ≤ 65536 then ax_iand (ax_ixor x0 (-1)) (ax_w32 (x0 - 1)) else ax_iushr (ax_iand (ax_ixor x0 (-1)) (ax_w32 (x0 - 1))) 16) : Int) 8) : Int) 4) : Int)]) (h1 := hp L s c e) rfl ?_
              refine RuP.step (pc' := 72) (ls' := [some (.inl ((if ((if ((if ax_iand (ax_ixor x0 (-1)) (ax_w32 (x0 - 1)) ≤ 65536 then ax_iand (ax_ixor x0 (-1)) (ax_w32 (x0 - 1)) else ax_iushr (ax_iand (ax_ixor x0 (-1)) (ax_w32 (x0 - 1))) 16) : Int) ≤ 256 then ((if ax_iand (ax_ixor x0 (-1)) (ax_w32 (x0 - 1)) ≤ 65536 then ax_iand (ax_ixor x0 (-1)) (ax_w32 (x0 - 1)) else ax_iushr (ax_iand (ax_ixor x0 (-1)) (ax_w32 (x0 - 1))) 16) : Int) else ax_iushr ((if ax_iand (ax_ixor x0 (-1)) (ax_w32 (x0 - 1)) ≤ 65536 then ax_iand (ax_ixor x0 (-1)) (ax_w32 (x0 - 1)) else ax_iushr (ax_iand (ax_ixor x0 (-1)) (ax_w32 (x0 - 1))) 16) : Int) 8) : Int) ≤ 16 then ((if ((if ax_iand (ax_ixor x0 (-1)) (ax_w32 (x0 - 1)) ≤ 65536 then ax_iand (ax_ixor x0 (-1)) (ax_w32 (x0 - 1)) else ax_iushr (ax_iand (ax_ixor x0 (-1)) (ax_w32 (x0 - 1))) 16) : Int) ≤ 256 then ((if ax_iand (ax_ixor x0 (-1)) (ax_w32 (x0 - 1)) ≤ 65536 then ax_iand (ax_ixor x0 (-1)) (ax_w32 (x0 - 1)) else ax_iushr (ax_iand (ax_ixor x0 (-1)) (ax_w32 (x0 - 1))) 16) : Int) else ax_iushr ((if ax_iand (ax_ixor x0 (-1)) (ax_w32 (x0 - 1)) ≤ 65536 then ax_iand (ax_ixor x0 (-1)) (ax_w32 (x0 - 1)) else ax_iushr (ax_iand (ax_ixor x0 (-1)) (ax_w32 (x0 - 1))) 16) : Int) 8) : Int) else ax_iushr ((if ((if ax_iand (ax_ixor x0 (-1)) (ax_w32 (x0 - 1)) ≤ 65536 then ax_iand (ax_ixor x0 (-1)) (ax_w32 (x0 - 1)) else ax_iushr (ax_iand (ax_ixor x0 (-1)) (ax_w32 (x0 - 1))) 16) : Int) ≤ 256 then ((if ax_iand (ax_ixor x0 (-1)) (ax_w32 (x0 - 1)) ≤ 65536 then ax_iand (ax_ixor x0 (-1)) (ax_w32 (x0 - 1)) else ax_iushr (ax_iand (ax_ixor x0 (-1)) (ax_w32 (x0 - 1))) 16) : Int) else ax_iushr ((if ax_iand (ax_ixor x0 (-1)) (ax_w32 (x0 - 1)) ≤ 65536 then ax_iand (ax_ixor x0 (-1)) (ax_w32 (x0 - 1)) else ax_iushr (ax_iand (ax_ixor x0 (-1)) (ax_w32 (x0 - 1))) 16) : Int) 8) : Int) 4) : Int)), some (.inl (ax_w32 (((if ((if ((if ax_iand (ax_ixor x0 (-1)) (ax_w32 (x0 - 1)) ≤ 65536 then ax_iand (ax_ixor x0 (-1)) (ax_w32 (x0 - 1)) else ax_iushr (ax_iand (ax_ixor x0 (-1)) (ax_w32 (x0 - 1))) 16) : Int) ≤ 256 then ((if ax_iand (ax_ixor x0 (-1)) (ax_w32 (x0 - 1)) ≤ 65536 then ax_iand (ax_ixor x0 (-1)) (ax_w32 (x0 - 1)) else ax_iushr (ax_iand (ax_ixor x0 (-1)) (ax_w32 (x0 - 1))) 16) : Int) else ax_iushr ((if ax_iand (ax_ixor x0 (-1)) (ax_w32 (x0 - 1)) ≤ 65536 then ax_iand (ax_ixor x0 (-1)) (ax_w32 (x0 - 1)) else ax_iushr (ax_iand (ax_ixor x0 (-1)) (ax_w32 (x0 - 1))) 16) : Int) 8) : Int) ≤ 16 then ((if ((if ax_iand (ax_ixor x0 (-1)) (ax_w32 (x0 - 1)) ≤ 65536 then ax_iand (ax_ixor x0 (-1)) (ax_w32 (x0 - 1)) else ax_iushr (ax_iand (ax_ixor x0 (-1)) (ax_w32 (x0 - 1))) 16) : Int) ≤ 256 then ((if ax_iand (ax_ixor x0 (-1)) (ax_w32 (x0 - 1)) ≤ 65536 then 1 else ax_w32 (1 + 16)) : Int) else ax_w32 (((if ax_iand (ax_ixor x0 (-1)) (ax_w32 (x0 - 1)) ≤ 65536 then 1 else ax_w32 (1 + 16)) : Int) + 8)) : Int) else ax_w32 (((if ((if ax_iand (ax_ixor x0 (-1)) (ax_w32 (x0 - 1)) ≤ 65536 then ax_iand (ax_ixor x0 (-1)) (ax_w32 (x0 - 1)) else ax_iushr (ax_iand (ax_ixor x0 (-1)) (ax_w32 (x0 - 1))) 16) : Int) ≤ 256 then ((if ax_iand (ax_ixor x0 (-1)) (ax_w32 (x0 - 1)) ≤ 65536 then 1 else ax_w32 (1 + 16)) : Int) else ax_w32 (((if ax_iand (ax_ixor x0 (-1)) (ax_w32 (x0 - 1)) ≤ 65536 then 1 else ax_w32 (1 + 16)) : Int) + 8)) : Int) + 4)) : Int) + 2)))]) (st' := [.inl 2, .inl ((if ((if ((if ax_iand (ax_ixor x0 (-1)) (ax_w32 (x0 - 1)) ≤ 65536 then ax_iand (ax_ixor x0 (-1)) (ax_w32 (x0 - 1)) else ax_iushr (ax_iand (ax_ixor x0 (-1)) (ax_w32 (x0 - 1))) 16) : Int) ≤ 256 then ((if ax_iand (ax_ixor x0 (-1)) (ax_w32 (x0 - 1)) ≤ 65536 then ax_iand (ax_ixor x0 (-1)) (ax_w32 (x0 - 1)) else ax_iushr (ax_iand (ax_ixor x0 (-1)) (ax_w32 (x0 - 1))) 16) : Int) else ax_iushr ((if ax_iand (ax_ixor x0 (-1)) (ax_w32 (x0 - 1)) ≤ 65536 then ax_iand (ax_ixor x0 (-1)) (ax_w32 (x0 - 1)) else ax_iushr (ax_iand (ax_ixor x0 (-1)) (ax_w32 (x0 - 1))) 16) : Int) 8) : Int) ≤ 16 then ((if ((if ax_iand (ax_ixor x0 (-1)) (ax_w32 (x0 - 1)) ≤ 65536 then ax_iand (ax_ixor x0 (-1)) (ax_w32 (x0 - 1)) else ax_iushr (ax_iand (ax_ixor x0 (-1)) (ax_w32 (x0 - 1))) 16) : Int) ≤ 256 then ((if ax_iand (ax_ixor x0 (-1)) (ax_w32 (x0 - 1)) ≤ 65536 then ax_iand (ax_ixor x0 (-1)) (ax_w32 (x0 - 1)) else ax_iushr (ax_iand (ax_ixor x0 (-1)) (ax_w32 (x0 - 1))) 16) : Int) else ax_iushr ((if ax_iand (ax_ixor x0 (-1)) (ax_w32 (x0 - 1)) ≤ 65536 then ax_iand (ax_ixor x0 (-1)) (ax_w32 (x0 - 1)) else ax_iushr (ax_iand (ax_ixor x0 (-1)) (ax_w32 (x0 - 1))) 16) : Int) 8) : Int) else ax_iushr ((if ((if ax_iand (ax_ixor x0 (-1)) (ax_w32 (x0 - 1)) ≤ 65536 then ax_iand (ax_ixor x0 (-1)) (ax_w32 (x0 - 1)) else ax_iushr (ax_iand (ax_ixor x0 (-1)) (ax_w32 (x0 - 1))) 16) : Int) ≤ 256 then ((if ax_iand (ax_ixor x0 (-1)) (ax_w32 (x0 - 1)) ≤ 65536 then ax_iand (ax_ixor x0 (-1)) (ax_w32 (x0 - 1)) else ax_iushr (ax_iand (ax_ixor x0 (-1)) (ax_w32 (x0 - 1))) 16) : Int) else ax_iushr ((if ax_iand (ax_ixor x0 (-1)) (ax_w32 (x0 - 1)) ≤ 65536 then ax_iand (ax_ixor x0 (-1)) (ax_w32 (x0 - 1)) else ax_iushr (ax_iand (ax_ixor x0 (-1)) (ax_w32 (x0 - 1))) 16) : Int) 8) : Int) 4) : Int)]) (h1 := hp L s c e) rfl ?_
              refine RuP.step (pc' := 73) (ls' := [some (.inl ((if ((if ((if ax_iand (ax_ixor x0 (-1)) (ax_w32 (x0 - 1)) ≤ 65536 then ax_iand (ax_ixor x0 (-1)) (ax_w32 (x0 - 1)) else ax_iushr (ax_iand (ax_ixor x0 (-1)) (ax_w32 (x0 - 1))) 16) : Int) ≤ 256 then ((if ax_iand (ax_ixor x0 (-1)) (ax_w32 (x0 - 1)) ≤ 65536 then ax_iand (ax_ixor x0 (-1)) (ax_w32 (x0 - 1)) else ax_iushr (ax_iand (ax_ixor x0 (-1)) (ax_w32 (x0 - 1))) 16) : Int) else ax_iushr ((if ax_iand (ax_ixor x0 (-1)) (ax_w32 (x0 - 1)) ≤ 65536 then ax_iand (ax_ixor x0 (-1)) (ax_w32 (x0 - 1)) else ax_iushr (ax_iand (ax_ixor x0 (-1)) (ax_w32 (x0 - 1))) 16) : Int) 8) : Int) ≤ 16 then ((if ((if ax_iand (ax_ixor x0 (-1)) (ax_w32 (x0 - 1)) ≤ 65536 then ax_iand (ax_ixor x0 (-1)) (ax_w32 (x0 - 1)) else ax_iushr (ax_iand (ax_ixor x0 (-1)) (ax_w32 (x0 - 1))) 16) : Int) ≤ 256 then ((if ax_iand (ax_ixor x0 (-1)) (ax_w32 (x0 - 1)) ≤ 65536 then ax_iand (ax_ixor x0 (-1)) (ax_w32 (x0 - 1)) else ax_iushr (ax_iand (ax_ixor x0 (-1)) (ax_w32 (x0 - 1))) 16) : Int) else ax_iushr ((if ax_iand (ax_ixor x0 (-1)) (ax_w32 (x0 - 1)) ≤ 65536 then ax_iand (ax_ixor x0 (-1)) (ax_w32 (x0 - 1)) else ax_iushr (ax_iand (ax_ixor x0 (-1)) (ax_w32 (x0 - 1))) 16) : Int) 8) : Int) else ax_iushr ((if ((if ax_iand (ax_ixor x0 (-1)) (ax_w32 (x0 - 1)) ≤ 65536 then ax_iand (ax_ixor x0 (-1)) (ax_w32 (x0 - 1)) else ax_iushr (ax_iand (ax_ixor x0 (-1)) (ax_w32 (x0 - 1))) 16) : Int) ≤ 256 then ((if ax_iand (ax_ixor x0 (-1)) (ax_w32 (x0 - 1)) ≤ 65536 then ax_iand (ax_ixor x0 (-1)) (ax_w32 (x0 - 1)) else ax_iushr (ax_iand (ax_ixor x0 (-1)) (ax_w32 (x0 - 1))) 16) : Int) else ax_iushr ((if ax_iand (ax_ixor x0 (-1)) (ax_w32 (x0 - 1)) ≤ 65536 then ax_iand (ax_ixor x0 (-1)) (ax_w32 (x0 - 1)) else ax_iushr (ax_iand (ax_ixor x0 (-1)) (ax_w32 (x0 - 1))) 16) : Int) 8) : Int) 4) : Int)), some (.inl (ax_w32 (((if ((if ((if ax_iand (ax_ixor x0 (-1)) (ax_w32 (x0 - 1)) ≤ 65536 then ax_iand (ax_ixor x0 (-1)) (ax_w32 (x0 - 1)) else ax_iushr (ax_iand (ax_ixor x0 (-1)) (ax_w32 (x0 - 1))) 16) : Int) ≤ 256 then ((if ax_iand (ax_ixor x0 (-1)) (ax_w32 (x0 - 1)) ≤ 65536 then ax_iand (ax_ixor x0 (-1)) (ax_w32 (x0 - 1)) else ax_iushr (ax_iand (ax_ixor x0 (-1)) (ax_w32 (x0 - 1))) 16) : Int) else ax_iushr ((if ax_iand (ax_ixor x0 (-1)) (ax_w32 (x0 - 1)) ≤ 65536 then ax_iand (ax_ixor x0 (-1)) (ax_w32 (x0 - 1)) else ax_iushr (ax_iand (ax_ixor x0 (-1)) (ax_w32 (x0 - 1))) 16) : Int) 8) : Int) ≤ 16 then ((if ((if ax_iand (ax_ixor x0 (-1)) (ax_w32 (x0 - 1)) ≤ 65536 then ax_iand (ax_ixor x0 (-1)) (ax_w32 (x0 - 1)) else ax_iushr (ax_iand (ax_ixor x0 (-1)) (ax_w32 (x0 - 1))) 16) : Int) ≤ 256 then ((if ax_iand (ax_ixor x0 (-1)) (ax_w32 (x0 - 1)) ≤ 65536 then 1 else ax_w32 (1 + 16)) : Int) else ax_w32 (((if ax_iand (ax_ixor x0 (-1)) (ax_w32 (x0 - 1)) ≤ 65536 then 1 else ax_w32 (1 + 16)) : Int) + 8)) : Int) else ax_w32 (((if ((if ax_iand (ax_ixor x0 (-1)) (ax_w32 (x0 - 1)) ≤ 65536 then ax_iand (ax_ixor x0 (-1)) (ax_w32 (x0 - 1)) else ax_iushr (ax_iand (ax_ixor x0 (-1)) (ax_w32 (x0 - 1))) 16) : Int) ≤ 256 then ((if ax_iand (ax_ixor x0 (-1)) (ax_w32 (x0 - 1)) ≤ 65536 then 1 else ax_w32 (1 + 16)) : Int) else ax_w32 (((if ax_iand (ax_ixor x0 (-1)) (ax_w32 (x0 - 1)) ≤ 65536 then 1 else ax_w32 (1 + 16)) : Int) + 8)) : Int) + 4)) : Int) + 2)))]) (st' := [.inl (ax_iushr ((if ((if ((if ax_iand (ax_ixor x0 (-1)) (ax_w32 (x0 - 1)) ≤ 65536 then ax_iand (ax_ixor x0 (-1)) (ax_w32 (x0 - 1)) else ax_iushr (ax_iand (ax_ixor x0 (-1)) (ax_w32 (x0 - 1))) 16) : Int) ≤ 256 then ((if ax_iand (ax_ixor x0 (-1)) (ax_w32 (x0 - 1)) ≤ 65536 then ax_iand (ax_ixor x0 (-1)) (ax_w32 (x0 - 1)) else ax_iushr (ax_iand (ax_ixor x0 (-1)) (ax_w32 (x0 - 1))) 16) : Int) else ax_iushr ((if ax_iand (ax_ixor x0 (-1)) (ax_w32 (x0 - 1)) ≤ 65536 then ax_iand (ax_ixor x0 (-1)) (ax_w32 (x0 - 1)) else ax_iushr (ax_iand (ax_ixor x0 (-1)) (ax_w32 (x0 - 1))) 16) : Int) 8) : Int) ≤ 16 then ((if ((if ax_iand (ax_ixor x0 (-1)) (ax_w32 (x0 - 1)) ≤ 65536 then ax_iand (ax_ixor x0 (-1)) (ax_w32 (x0 - 1)) else ax_iushr (ax_iand (ax_ixor x0 (-1)) (ax_w32 (x0 - 1))) 16) : Int) ≤ 256 then ((if ax_iand (ax_ixor x0 (-1)) (ax_w32 (x0 - 1)) ≤ 65536 then ax_iand (ax_ixor x0 (-1)) (ax_w32 (x0 - 1)) else ax_iushr (ax_iand (ax_ixor x0 (-1)) (ax_w32 (x0 - 1))) 16) : Int) else ax_iushr ((if ax_iand (ax_ixor x0 (-1)) (ax_w32 (x0 - 1)) ≤ 65536 then ax_iand (ax_ixor x0 (-1)) (ax_w32 (x0 - 1)) else ax_iushr (ax_iand (ax_ixor x0 (-1)) (ax_w32 (x0 - 1))) 16) : Int) 8) : Int) else ax_iushr ((if ((if ax_iand (ax_ixor x0 (-1)) (ax_w32 (x0 - 1)) ≤ 65536 then ax_iand (ax_ixor x0 (-1)) (ax_w32 (x0 - 1)) else ax_iushr (ax_iand (ax_ixor x0 (-1)) (ax_w32 (x0 - 1))) 16) : Int) ≤ 256 then ((if ax_iand (ax_ixor x0 (-1)) (ax_w32 (x0 - 1)) ≤ 65536 then ax_iand (ax_ixor x0 (-1)) (ax_w32 (x0 - 1)) else ax_iushr (ax_iand (ax_ixor x0 (-1)) (ax_w32 (x0 - 1))) 16) : Int) else ax_iushr ((if ax_iand (ax_ixor x0 (-1)) (ax_w32 (x0 - 1)) ≤ 65536 then ax_iand (ax_ixor x0 (-1)) (ax_w32 (x0 - 1)) else ax_iushr (ax_iand (ax_ixor x0 (-1)) (ax_w32 (x0 - 1))) 16) : Int) 8) : Int) 4) : Int) 2)]) (h1 := hp L s c e) rfl ?_
              refine RuP.step (pc' := 74) (ls' := [some (.inl (ax_iushr ((if ((if ((if ax_iand (ax_ixor x0 (-1)) (ax_w32 (x0 - 1)) ≤ 65536 then ax_iand (ax_ixor x0 (-1)) (ax_w32 (x0 - 1)) else ax_iushr (ax_iand (ax_ixor x0 (-1)) (ax_w32 (x0 - 1))) 16) : Int) ≤ 256 then ((if ax_iand (ax_ixor x0 (-1)) (ax_w32 (x0 - 1)) ≤ 65536 then ax_iand (ax_ixor x0 (-1)) (ax_w32 (x0 - 1)) else ax_iushr (ax_iand (ax_ixor x0 (-1)) (ax_w32 (x0 - 1))) 16) : Int) else ax_iushr ((if ax_iand (ax_ixor x0 (-1)) (ax_w32 (x0 - 1)) ≤ 65536 then ax_iand (ax_ixor x0 (-1)) (ax_w32 (x0 - 1)) else ax_iushr (ax_iand (ax_ixor x0 (-1)) (ax_w32 (x0 - 1))) 16) : Int) 8) : Int) ≤ 16 then ((if ((if ax_iand (ax_ixor x0 (-1)) (ax_w32 (x0 - 1)) ≤ 65536 then ax_iand (ax_ixor x0 (-1)) (ax_w32 (x0 - 1)) else ax_iushr (ax_iand (ax_ixor x0 (-1)) (ax_w32 (x0 - 1))) 16) : Int) ≤ 256 then ((if ax_iand (ax_ixor x0 (-1)) (ax_w32 (x0 - 1)) ≤ 65536 then ax_iand (ax_ixor x0 (-1)) (ax_w32 (x0 - 1)) else ax_iushr (ax_iand (ax_ixor x0 (-1)) (ax_w32 (x0 - 1))) 16) : Int) else ax_iushr ((if ax_iand (ax_ixor x0 (-1)) (ax_w32 (x0 - 1)) ≤ 65536 then ax_iand (ax_ixor x0 (-1)) (ax_w32 (x0 - 1)) else ax_iushr (ax_iand (ax_ixor x0 (-1)) (ax_w32 (x0 - 1))) 16) : Int) 8) : Int) else ax_iushr ((if ((if ax_iand (ax_ixor x0 (-1)) (ax_w32 (x0 - 1)) ≤ 65536 then ax_iand (ax_ixor x0 (-1)) (ax_w32 (x0 - 1)) else ax_iushr (ax_iand (ax_ixor x0 (-1)) (ax_w32 (x0 - 1))) 16) : Int) ≤ 256 then ((if ax_iand (ax_ixor x0 (-1)) (ax_w32 (x0 - 1)) ≤ 65536 then ax_iand (ax_ixor x0 (-1)) (ax_w32 (x0 - 1)) else ax_iushr (ax_iand (ax_ixor x0 (-1)) (ax_w32 (x0 - 1))) 16) : Int) else ax_iushr ((if ax_iand (ax_ixor x0 (-1)) (ax_w32 (x0 - 1)) ≤ 65536 then ax_iand (ax_ixor x0 (-1)) (ax_w32 (x0 - 1)) else ax_iushr (ax_iand (ax_ixor x0 (-1)) (ax_w32 (x0 - 1))) 16) : Int) 8) : Int) 4) : Int) 2)), some (.inl (ax_w32 (((if ((if ((if ax_iand (ax_ixor x0 (-1)) (ax_w32 (x0 - 1)) ≤ 65536 then ax_iand (ax_ixor x0 (-1)) (ax_w32 (x0 - 1)) else ax_iushr (ax_iand (ax_ixor x0 (-1)) (ax_w32 (x0 - 1))) 16) : Int) ≤ 256 then ((if ax_iand (ax_ixor x0 (-1)) (ax_w32 (x0 - 1)) ≤ 65536 then ax_iand (ax_ixor x0 (-1)) (ax_w32 (x0 - 1)) else ax_iushr (ax_iand (ax_ixor x0 (-1)) (ax_w32 (x0 - 1))) 16) : Int) else ax_iushr ((if ax_iand (ax_ixor x0 (-1)) (ax_w32 (x0 - 1)) ≤ 65536 then ax_iand (ax_ixor x0 (-1)) (ax_w32 (x0 - 1)) else ax_iushr (ax_iand (ax_ixor x0 (-1)) (ax_w32 (x0 - 1))) 16) : Int) 8) : Int) ≤ 16 then ((if ((if ax_iand (ax_ixor x0 (-1)) (ax_w32 (x0 - 1)) ≤ 65536 then ax_iand (ax_ixor x0 (-1)) (ax_w32 (x0 - 1)) else ax_iushr (ax_iand (ax_ixor x0 (-1)) (ax_w32 (x0 - 1))) 16) : Int) ≤ 256 then ((if ax_iand (ax_ixor x0 (-1)) (ax_w32 (x0 - 1)) ≤ 65536 then 1 else ax_w32 (1 + 16)) : Int) else ax_w32 (((if ax_iand (ax_ixor x0 (-1)) (ax_w32 (x0 - 1)) ≤ 65536 then 1 else ax_w32 (1 + 16)) : Int) + 8)) : Int) else ax_w32 (((if ((if ax_iand (ax_ixor x0 (-1)) (ax_w32 (x0 - 1)) ≤ 65536 then ax_iand (ax_ixor x0 (-1)) (ax_w32 (x0 - 1)) else ax_iushr (ax_iand (ax_ixor x0 (-1)) (ax_w32 (x0 - 1))) 16) : Int) ≤ 256 then ((if ax_iand (ax_ixor x0 (-1)) (ax_w32 (x0 - 1)) ≤ 65536 then 1 else ax_w32 (1 + 16)) : Int) else ax_w32 (((if ax_iand (ax_ixor x0 (-1)) (ax_w32 (x0 - 1)) ≤ 65536 then 1 else ax_w32 (1 + 16)) : Int) + 8)) : Int) + 4)) : Int) + 2)))]) (st' := []) (h1 := hp L s c e) rfl ?_
              refine RuP.step (pc' := 75) (ls' := [some (.inl (ax_iushr ((if ((if ((if ax_iand (ax_ixor x0 (-1)) (ax_w32 (x0 - 1)) ≤ 65536 then ax_iand (ax_ixor x0 (-1)) (ax_w32 (x0 - 1)) else ax_iushr (ax_iand (ax_ixor x0 (-1)) (ax_w32 (x0 - 1))) 16) : Int) ≤ 256 then ((if ax_iand (ax_ixor x0 (-1)) (ax_w32 (x0 - 1)) ≤ 65536 then ax_iand (ax_ixor x0 (-1)) (ax_w32 (x0 - 1)) else ax_iushr (ax_iand (ax_ixor x0 (-1)) (ax_w32 (x0 - 1))) 16) : Int) else ax_iushr ((if ax_iand (ax_ixor x0 (-1)) (ax_w32 (x0 - 1)) ≤ 65536 then ax_iand (ax_ixor x0 (-1)) (ax_w32 (x0 - 1)) else ax_iushr (ax_iand (ax_ixor x0 (-1)) (ax_w32 (x0 - 1))) 16) : Int) 8) : Int) ≤ 16 then ((if ((if ax_iand (ax_ixor x0 (-1)) (ax_w32 (x0 - 1)) ≤ 65536 then ax_iand (ax_ixor x0 (-1)) (ax_w32 (x0 - 1)) else ax_iushr (ax_iand (ax_ixor x0 (-1)) (ax_w32 (x0 - 1))) 16) : Int) ≤ 256 then ((if ax_iand (ax_ixor x0 (-1)) (ax_w32 (x0 - 1)) ≤ 65536 then ax_iand (ax_ixor x0 (-1)) (ax_w32 (x0 - 1)) else ax_iushr (ax_iand (ax_ixor x0 (-1)) (ax_w32 (x0 - 1))) 16) : Int) else ax_iushr ((if ax_iand (ax_ixor x0 (-1)) (ax_w32 (x0 - 1)) ≤ 65536 then ax_iand (ax_ixor x0 (-1)) (ax_w32 (x0 - 1)) else ax_iushr (ax_iand (ax_ixor x0 (-1)) (ax_w32 (x0 - 1))) 16) : Int) 8) : Int) else ax_iushr ((if ((if ax_iand (ax_ixor x0 (-1)) (ax_w32 (x0 - 1)) ≤ 65536 then ax_iand (ax_ixor x0 (-1)) (ax_w32 (x0 - 1)) else ax_iushr (ax_iand (ax_ixor x0 (-1)) (ax_w32 (x0 - 1))) 16) : Int) ≤ 256 then ((if ax_iand (ax_ixor x0 (-1)) (ax_w32 (x0 - 1)) ≤ 65536 then ax_iand (ax_ixor x0 (-1)) (ax_w32 (x0 - 1)) else ax_iushr (ax_iand (ax_ixor x0 (-1)) (ax_w32 (x0 - 1))) 16) : Int) else ax_iushr ((if ax_iand (ax_ixor x0 (-1)) (ax_w32 (x0 - 1)) ≤ 65536 then ax_iand (ax_ixor x0 (-1)) (ax_w32 (x0 - 1)) else ax_iushr (ax_iand (ax_ixor x0 (-1)) (ax_w32 (x0 - 1))) 16) : Int) 8) : Int) 4) : Int) 2)), some (.inl (ax_w32 (((if ((if ((if ax_iand (ax_ixor x0 (-1)) (ax_w32 (x0 - 1)) ≤ 65536 then ax_iand (ax_ixor x0 (-1)) (ax_w32 (x0 - 1)) else ax_iushr (ax_iand (ax_ixor x0 (-1)) (ax_w32 (x0 - 1))) 16) : Int) ≤ 256 then ((if ax_iand (ax_ixor x0 (-1)) (ax_w32 (x0 - 1)) ≤ 65536 then ax_iand (ax_ixor x0 (-1)) (ax_w32 (x0 - 1)) else ax_iushr (ax_iand (ax_ixor x0 (-1)) (ax_w32 (x0 - 1))) 16) : Int) else ax_iushr ((if ax_iand (ax_ixor x0 (-1)) (ax_w32 (x0 - 1)) ≤ 65536 then ax_iand (ax_ixor x0 (-1)) (ax_w32 (x0 - 1)) else ax_iushr (ax_iand (ax_ixor x0 (-1)) (ax_w32 (x0 - 1))) 16) : Int) 8) : Int) ≤ 16 then ((if ((if ax_iand (ax_ixor x0 (-1)) (ax_w32 (x0 - 1)) ≤ 65536 then ax_iand (ax_ixor x0 (-1)) (ax_w32 (x0 - 1)) else ax_iushr (ax_iand (ax_ixor x0 (-1)) (ax_w32 (x0 - 1))) 16) : Int) ≤ 256 then ((if ax_iand (ax_ixor x0 (-1)) (ax_w32 (x0 - 1)) ≤ 65536 then 1 else ax_w32 (1 + 16)) : Int) else ax_w32 (((if ax_iand (ax_ixor x0 (-1)) (ax_w32 (x0 - 1)) ≤ 65536 then 1 else ax_w32 (1 + 16)) : Int) + 8)) : Int) else ax_w32 (((if ((if ax_iand (ax_ixor x0 (-1)) (ax_w32 (x0 - 1)) ≤ 65536 then ax_iand (ax_ixor x0 (-1)) (ax_w32 (x0 - 1)) else ax_iushr (ax_iand (ax_ixor x0 (-1)) (ax_w32 (x0 - 1))) 16) : Int) ≤ 256 then ((if ax_iand (ax_ixor x0 (-1)) (ax_w32 (x0 - 1)) ≤ 65536 then 1 else ax_w32 (1 + 16)) : Int) else ax_w32 (((if ax_iand (ax_ixor x0 (-1)) (ax_w32 (x0 - 1)) ≤ 65536 then 1 else ax_w32 (1 + 16)) : Int) + 8)) : Int) + 4)) : Int) + 2)))]) (st' := [.inl (ax_w32 (((if ((if ((if ax_iand (ax_ixor x0 (-1)) (ax_w32 (x0 - 1)) ≤ 65536 then ax_iand (ax_ixor x0 (-1)) (ax_w32 (x0 - 1)) else ax_iushr (ax_iand (ax_ixor x0 (-1)) (ax_w32 (x0 - 1))) 16) : Int) ≤ 256 then ((if ax_iand (ax_ixor x0 (-1)) (ax_w32 (x0 - 1)) ≤ 65536 then ax_iand (ax_ixor x0 (-1)) (ax_w32 (x0 - 1)) else ax_iushr (ax_iand (ax_ixor x0 (-1)) (ax_w32 (x0 - 1))) 16) : Int) else ax_iushr ((if ax_iand (ax_ixor x0 (-1)) (ax_w32 (x0 - 1)) ≤ 65536 then ax_iand (ax_ixor x0 (-1)) (ax_w32 (x0 - 1)) else ax_iushr (ax_iand (ax_ixor x0 (-1)) (ax_w32 (x0 - 1))) 16) : Int) 8) : Int) ≤ 16 then ((if ((if ax_iand (ax_ixor x0 (-1)) (ax_w32 (x0 - 1)) ≤ 65536 then ax_iand (ax_ixor x0 (-1)) (ax_w32 (x0 - 1)) else ax_iushr (ax_iand (ax_ixor x0 (-1)) (ax_w32 (x0 - 1))) 16) : Int) ≤ 256 then ((if ax_iand (ax_ixor x0 (-1)) (ax_w32 (x0 - 1)) ≤ 65536 then 1 else ax_w32 (1 + 16)) : Int) else ax_w32 (((if ax_iand (ax_ixor x0 (-1)) (ax_w32 (x0 - 1)) ≤ 65536 then 1 else ax_w32 (1 + 16)) : Int) + 8)) : Int) else ax_w32 (((if ((if ax_iand (ax_ixor x0 (-1)) (ax_w32 (x0 - 1)) ≤ 65536 then ax_iand (ax_ixor x0 (-1)) (ax_w32 (x0 - 1)) else ax_iushr (ax_iand (ax_ixor x0 (-1)) (ax_w32 (x0 - 1))) 16) : Int) ≤ 256 then ((if ax_iand (ax_ixor x0 (-1)) (ax_w32 (x0 - 1)) ≤ 65536 then 1 else ax_w32 (1 + 16)) : Int) else ax_w32 (((if ax_iand (ax_ixor x0 (-1)) (ax_w32 (x0 - 1)) ≤ 65536 then 1 else ax_w32 (1 + 16)) : Int) + 8)) : Int) + 4)) : Int) + 2))]) (h1 := hp L s c e) rfl ?_
              refine RuP.step (pc' := 76) (ls' := [some (.inl (ax_iushr ((if ((if ((if ax_iand (ax_ixor x0 (-1)) (ax_w32 (x0 - 1)) ≤ 65536 then ax_iand (ax_ixor x0 (-1)) (ax_w32 (x0 - 1)) else ax_iushr (ax_iand (ax_ixor x0 (-1)) (ax_w32 (x0 - 1))) 16) : Int) ≤ 256 then ((if ax_iand (ax_ixor x0 (-1)) (ax_w32 (x0 - 1)) ≤ 65536 then ax_iand (ax_ixor x0 (-1)) (ax_w32 (x0 - 1)) else ax_iushr (ax_iand (ax_ixor x0 (-1)) (ax_w32 (x0 - 1))) 16) : Int) else ax_iushr ((if ax_iand (ax_ixor x0 (-1)) (ax_w32 (x0 - 1)) ≤ 65536 then ax_iand (ax_ixor x0 (-1)) (ax_w32 (x0 - 1)) else ax_iushr (ax_iand (ax_ixor x0 (-1)) (ax_w32 (x0 - 1))) 16) : Int) 8) : Int) ≤ 16 then ((if ((if ax_iand (ax_ixor x0 (-1)) (ax_w32 (x0 - 1)) ≤ 65536 then ax_iand (ax_ixor x0 (-1)) (ax_w32 (x0 - 1)) else ax_iushr (ax_iand (ax_ixor x0 (-1)) (ax_w32 (x0 - 1))) 16) : Int) ≤ 256 then ((if ax_iand (ax_ixor x0 (-1)) (ax_w32 (x0 - 1)) ≤ 65536 then ax_iand (ax_ixor x0 (-1)) (ax_w32 (x0 - 1)) else ax_iushr (ax_iand (ax_ixor x0 (-1)) (ax_w32 (x0 - 1))) 16) : Int) else ax_iushr ((if ax_iand (ax_ixor x0 (-1)) (ax_w32 (x0 - 1)) ≤ 65536 then ax_iand (ax_ixor x0 (-1)) (ax_w32 (x0 - 1)) else ax_iushr (ax_iand (ax_ixor x0 (-1)) (ax_w32 (x0 - 1))) 16) : Int) 8) : Int) else ax_iushr ((if ((if ax_iand (ax_ixor x0 (-1)) (ax_w32 (x0 - 1)) ≤ 65536 then ax_iand (ax_ixor x0 (-1)) (ax_w32 (x0 - 1)) else ax_iushr (ax_iand (ax_ixor x0 (-1)) (ax_w32 (x0 - 1))) 16) : Int) ≤ 256 then ((if ax_iand (ax_ixor x0 (-1)) (ax_w32 (x0 - 1)) ≤ 65536 then ax_iand (ax_ixor x0 (-1)) (ax_w32 (x0 - 1)) else ax_iushr (ax_iand (ax_ixor x0 (-1)) (ax_w32 (x0 - 1))) 16) : Int) else ax_iushr ((if ax_iand (ax_ixor x0 (-1)) (ax_w32 (x0 - 1)) ≤ 65536 then ax_iand (ax_ixor x0 (-1)) (ax_w32 (x0 - 1)) else ax_iushr (ax_iand (ax_ixor x0 (-1)) (ax_w32 (x0 - 1))) 16) : Int) 8) : Int) 4) : Int) 2)), some (.inl (ax_w32 (((if ((if ((if ax_iand (ax_ixor x0 (-1)) (ax_w32 (x0 - 1)) ≤ 65536 then ax_iand (ax_ixor x0 (-1)) (ax_w32 (x0 - 1)) else ax_iushr (ax_iand (ax_ixor x0 (-1)) (ax_w32 (x0 - 1))) 16) : Int) ≤ 256 then ((if ax_iand (ax_ixor x0 (-1)) (ax_w32 (x0 - 1)) ≤ 65536 then ax_iand (ax_ixor x0 (-1)) (ax_w32 (x0 - 1)) else ax_iushr (ax_iand (ax_ixor x0 (-1)) (ax_w32 (x0 - 1))) 16) : Int) else ax_iushr ((if ax_iand (ax_ixor x0 (-1)) (ax_w32 (x0 - 1)) ≤ 65536 then ax_iand (ax_ixor x0 (-1)) (ax_w32 (x0 - 1)) else ax_iushr (ax_iand (ax_ixor x0 (-1)) (ax_w32 (x0 - 1))) 16) : Int) 8) : Int) ≤ 16 then ((if ((if ax_iand (ax_ixor x0 (-1)) (ax_w32 (x0 - 1)) ≤ 65536 then ax_iand (ax_ixor x0 (-1)) (ax_w32 (x0 - 1)) else ax_iushr (ax_iand (ax_ixor x0 (-1)) (ax_w32 (x0 - 1))) 16) : Int) ≤ 256 then ((if ax_iand (ax_ixor x0 (-1)) (ax_w32 (x0 - 1)) ≤ 65536 then 1 else ax_w32 (1 + 16)) : Int) else ax_w32 (((if ax_iand (ax_ixor x0 (-1)) (ax_w32 (x0 - 1)) ≤ 65536 then 1 else ax_w32 (1 + 16)) : Int) + 8)) : Int) else ax_w32 (((if ((if ax_iand (ax_ixor x0 (-1)) (ax_w32 (x0 - 1)) ≤ 65536 then ax_iand (ax_ixor x0 (-1)) (ax_w32 (x0 - 1)) else ax_iushr (ax_iand (ax_ixor x0 (-1)) (ax_w32 (x0 - 1))) 16) : Int) ≤ 256 then ((if ax_iand (ax_ixor x0 (-1)) (ax_w32 (x0 - 1)) ≤ 65536 then 1 else ax_w32 (1 + 16)) : Int) else ax_w32 (((if ax_iand (ax_ixor x0 (-1)) (ax_w32 (x0 - 1)) ≤ 65536 then 1 else ax_w32 (1 + 16)) : Int) + 8)) : Int) + 4)) : Int) + 2)))]) (st' := [.inl (ax_iushr ((if ((if ((if ax_iand (ax_ixor x0 (-1)) (ax_w32 (x0 - 1)) ≤ 65536 then ax_iand (ax_ixor x0 (-1)) (ax_w32 (x0 - 1)) else ax_iushr (ax_iand (ax_ixor x0 (-1)) (ax_w32 (x0 - 1))) 16) : Int) ≤ 256 then ((if ax_iand (ax_ixor x0 (-1)) (ax_w32 (x0 - 1)) ≤ 65536 then ax_iand (ax_ixor x0 (-1)) (ax_w32 (x0 - 1)) else ax_iushr (ax_iand (ax_ixor x0 (-1)) (ax_w32 (x0 - 1))) 16) : Int) else ax_iushr ((if ax_iand (ax_ixor x0 (-1)) (ax_w32 (x0 - 1)) ≤ 65536 then ax_iand (ax_ixor x0 (-1)) (ax_w32 (x0 - 1)) else ax_iushr (ax_iand (ax_ixor x0 (-1)) (ax_w32 (x0 - 1))) 16) : Int) 8) : Int) ≤ 16 then ((if ((if ax_iand (ax_ixor x0 (-1)) (ax_w32 (x0 - 1)) ≤ 65536 then ax_iand (ax_ixor x0 (-1)) (ax_w32 (x0 - 1)) else ax_iushr (ax_iand (ax_ixor x0 (-1)) (ax_w32 (x0 - 1))) 16) : Int) ≤ 256 then ((if ax_iand (ax_ixor x0 (-1)) (ax_w32 (x0 - 1)) ≤ 65536 then ax_iand (ax_ixor x0 (-1)) (ax_w32 (x0 - 1)) else ax_iushr (ax_iand (ax_ixor x0 (-1)) (ax_w32 (x0 - 1))) 16) : Int) else ax_iushr ((if ax_iand (ax_ixor x0 (-1)) (ax_w32 (x0 - 1)) ≤ 65536 then ax_iand (ax_ixor x0 (-1)) (ax_w32 (x0 - 1)) else ax_iushr (ax_iand (ax_ixor x0 (-1)) (ax_w32 (x0 - 1))) 16) : Int) 8) : Int) else ax_iushr ((if ((if ax_iand (ax_ixor x0 (-1)) (ax_w32 (x0 - 1)) ≤ 65536 then ax_iand (ax_ixor x0 (-1)) (ax_w32 (x0 - 1)) else ax_iushr (ax_iand (ax_ixor x0 (-1)) (ax_w32 (x0 - 1))) 16) : Int) ≤ 256 then ((if ax_iand (ax_ixor x0 (-1)) (ax_w32 (x0 - 1)) ≤ 65536 then ax_iand (ax_ixor x0 (-1)) (ax_w32 (x0 - 1)) else ax_iushr (ax_iand (ax_ixor x0 (-1)) (ax_w32 (x0 - 1))) 16) : Int) else ax_iushr ((if ax_iand (ax_ixor x0 (-1)) (ax_w32 (x0 - 1)) ≤ 65536 then ax_iand (ax_ixor x0 (-1)) (ax_w32 (x0 - 1)) else ax_iushr (ax_iand (ax_ixor x0 (-1)) (ax_w32 (x0 - 1))) 16) : Int) 8) : Int) 4) : Int) 2), .inl (ax_w32 (((if ((if ((if ax_iand (ax_ixor x0 (-1)) (ax_w32 (x0 - 1)) ≤ 65536 then ax_iand (ax_ixor x0 (-1)) (ax_w32 (x0 - 1)) else ax_iushr (ax_iand (ax_ixor x0 (-1)) (ax_w32 (x0 - 1))) 16) : Int) ≤ 256 then ((if ax_iand (ax_ixor x0 (-1)) (ax_w32 (x0 - 1)) ≤ 65536 then ax_iand (ax_ixor x0 (-1)) (ax_w32 (x0 - 1)) else ax_iushr (ax_iand (ax_ixor x0 (-1)) (ax_w32 (x0 - 1))) 16) : Int) else ax_iushr ((if ax_iand (ax_ixor x0 (-1)) (ax_w32 (x0 - 1)) ≤ 65536 then ax_iand (ax_ixor x0 (-1)) (ax_w32 (x0 - 1)) else ax_iushr (ax_iand (ax_ixor x0 (-1)) (ax_w32 (x0 - 1))) 16) : Int) 8) : Int) ≤ 16 then ((if ((if ax_iand (ax_ixor x0 (-1)) (ax_w32 (x0 - 1)) ≤ 65536 then ax_iand (ax_ixor x0 (-1)) (ax_w32 (x0 - 1)) else ax_iushr (ax_iand (ax_ixor x0 (-1)) (ax_w32 (x0 - 1))) 16) : Int) ≤ 256 then ((if ax_iand (ax_ixor x0 (-1)) (ax_w32 (x0 - 1)) ≤ 65536 then 1 else ax_w32 (1 + 16)) : Int) else ax_w32 (((if ax_iand (ax_ixor x0 (-1)) (ax_w32 (x0 - 1)) ≤ 65536 then 1 else ax_w32 (1 + 16)) : Int) + 8)) : Int) else ax_w32 (((if ((if ax_iand (ax_ixor x0 (-1)) (ax_w32 (x0 - 1)) ≤ 65536 then ax_iand (ax_ixor x0 (-1)) (ax_w32 (x0 - 1)) else ax_iushr (ax_iand (ax_ixor x0 (-1)) (ax_w32 (x0 - 1))) 16) : Int) ≤ 256 then ((if ax_iand (ax_ixor x0 (-1)) (ax_w32 (x0 - 1)) ≤ 65536 then 1 else ax_w32 (1 + 16)) : Int) else ax_w32 (((if ax_iand (ax_ixor x0 (-1)) (ax_w32 (x0 - 1)) ≤ 65536 then 1 else ax_w32 (1 + 16)) : Int) + 8)) : Int) + 4)) : Int) + 2))]) (h1 := hp L s c e) rfl ?_
              refine RuP.step (pc' := 77) (ls' := [some (.inl (ax_iushr ((if ((if ((if ax_iand (ax_ixor x0 (-1)) (ax_w32 (x0 - 1)) ≤ 65536 then ax_iand (ax_ixor x0 (-1)) (ax_w32 (x0 - 1)) else ax_iushr (ax_iand (ax_ixor x0 (-1)) (ax_w32 (x0 - 1))) 16) : Int) ≤ 256 then ((if ax_iand (ax_ixor x0 (-1)) (ax_w32 (x0 - 1)) ≤ 65536 then ax_iand (ax_ixor x0 (-1)) (ax_w32 (x0 - 1)) else ax_iushr (ax_iand (ax_ixor x0 (-1)) (ax_w32 (x0 - 1))) 16) : Int) else ax_iushr ((if ax_iand (ax_ixor x0 (-1)) (ax_w32 (x0 - 1)) ≤ 65536 then ax_iand (ax_ixor x0 (-1)) (ax_w32 (x0 - 1)) else ax_iushr (ax_iand (ax_ixor x0 (-1)) (ax_w32 (x0 - 1))) 16) : Int) 8) : Int) ≤ 16 then ((if ((if ax_iand (ax_ixor x0 (-1)) (ax_w32 (x0 - 1)) ≤ 65536 then ax_iand (ax_ixor x0 (-1)) (ax_w32 (x0 - 1)) else ax_iushr (ax_iand (ax_ixor x0 (-1)) (ax_w32 (x0 - 1))) 16) : Int) ≤ 256 then ((if ax_iand (ax_ixor x0 (-1)) (ax_w32 (x0 - 1)) ≤ 65536 then ax_iand (ax_ixor x0 (-1)) (ax_w32 (x0 - 1)) else ax_iushr (ax_iand (ax_ixor x0 (-1)) (ax_w32 (x0 - 1))) 16) : Int) else ax_iushr ((if ax_iand (ax_ixor x0 (-1)) (ax_w32 (x0 - 1)) ≤ 65536 then ax_iand (ax_ixor x0 (-1)) (ax_w32 (x0 - 1)) else ax_iushr (ax_iand (ax_ixor x0 (-1)) (ax_w32 (x0 - 1))) 16) : Int) 8) : Int) else ax_iushr ((if ((if ax_iand (ax_ixor x0 (-1)) (ax_w32 (x0 - 1)) ≤ 65536 then ax_iand (ax_ixor x0 (-1)) (ax_w32 (x0 - 1)) else ax_iushr (ax_iand (ax_ixor x0 (-1)) (ax_w32 (x0 - 1))) 16) : Int) ≤ 256 then ((if ax_iand (ax_ixor x0 (-1)) (ax_w32 (x0 - 1)) ≤ 65536 then ax_iand (ax_ixor x0 (-1)) (ax_w32 (x0 - 1)) else ax_iushr (ax_iand (ax_ixor x0 (-1)) (ax_w32 (x0 - 1))) 16) : Int) else ax_iushr ((if ax_iand (ax_ixor x0 (-1)) (ax_w32 (x0 - 1)) ≤ 65536 then ax_iand (ax_ixor x0 (-1)) (ax_w32 (x0 - 1)) else ax_iushr (ax_iand (ax_ixor x0 (-1)) (ax_w32 (x0 - 1))) 16) : Int) 8) : Int) 4) : Int) 2)), some (.inl (ax_w32 (((if ((if ((if ax_iand (ax_ixor x0 (-1)) (ax_w32 (x0 - 1)) ≤ 65536 then ax_iand (ax_ixor x0 (-1)) (ax_w32 (x0 - 1)) else ax_iushr (ax_iand (ax_ixor x0 (-1)) (ax_w32 (x0 - 1))) 16) : Int) ≤ 256 then ((if ax_iand (ax_ixor x0 (-1)) (ax_w32 (x0 - 1)) ≤ 65536 then ax_iand (ax_ixor x0 (-1)) (ax_w32 (x0 - 1)) else ax_iushr (ax_iand (ax_ixor x0 (-1)) (ax_w32 (x0 - 1))) 16) : Int) else ax_iushr ((if ax_iand (ax_ixor x0 (-1)) (ax_w32 (x0 - 1)) ≤ 65536 then ax_iand (ax_ixor x0 (-1)) (ax_w32 (x0 - 1)) else ax_iushr (ax_iand (ax_ixor x0 (-1)) (ax_w32 (x0 - 1))) 16) : Int) 8) : Int) ≤ 16 then ((if ((if ax_iand (ax_ixor x0 (-1)) (ax_w32 (x0 - 1)) ≤ 65536 then ax_iand (ax_ixor x0 (-1)) (ax_w32 (x0 - 1)) else ax_iushr (ax_iand (ax_ixor x0 (-1)) (ax_w32 (x0 - 1))) 16) : Int) ≤ 256 then ((if ax_iand (ax_ixor x0 (-1)) (ax_w32 (x0 - 1)) ≤ 65536 then 1 else ax_w32 (1 + 16)) : Int) else ax_w32 (((if ax_iand (ax_ixor x0 (-1)) (ax_w32 (x0 - 1)) ≤ 65536 then 1 else ax_w32 (1 + 16)) : Int) + 8)) : Int) else ax_w32 (((if ((if ax_iand (ax_ixor x0 (-1)) (ax_w32 (x0 - 1)) ≤ 65536 then ax_iand (ax_ixor x0 (-1)) (ax_w32 (x0 - 1)) else ax_iushr (ax_iand (ax_ixor x0 (-1)) (ax_w32 (x0 - 1))) 16) : Int) ≤ 256 then ((if ax_iand (ax_ixor x0 (-1)) (ax_w32 (x0 - 1)) ≤ 65536 then 1 else ax_w32 (1 + 16)) : Int) else ax_w32 (((if ax_iand (ax_ixor x0 (-1)) (ax_w32 (x0 - 1)) ≤ 65536 then 1 else ax_w32 (1 + 16)) : Int) + 8)) : Int) + 4)) : Int) + 2)))]) (st' := [.inl 1, .inl (ax_iushr ((if ((if ((if ax_iand (ax_ixor x0 (-1)) (ax_w32 (x0 - 1)) ≤ 65536 then ax_iand (ax_ixor x0 (-1)) (ax_w32 (x0 - 1)) else ax_iushr (ax_iand (ax_ixor x0 (-1)) (ax_w32 (x0 - 1))) 16) : Int) ≤ 256 then ((if ax_iand (ax_ixor x0 (-1)) (ax_w32 (x0 - 1)) ≤ 65536 then ax_iand (ax_ixor x0 (-1)) (ax_w32 (x0 - 1)) else ax_iushr (ax_iand (ax_ixor x0 (-1)) (ax_w32 (x0 - 1))) 16) : Int) else ax_iushr ((if ax_iand (ax_ixor x0 (-1)) (ax_w32 (x0 - 1)) ≤ 65536 then ax_iand (ax_ixor x0 (-1)) (ax_w32 (x0 - 1)) else ax_iushr (ax_iand (ax_ixor x0 (-1)) (ax_w32 (x0 - 1))) 16) : Int) 8) : Int) ≤ 16 then ((if ((if ax_iand (ax_ixor x0 (-1)) (ax_w32 (x0 - 1)) ≤ 65536 then ax_iand (ax_ixor x0 (-1)) (ax_w32 (x0 - 1)) else ax_iushr (ax_iand (ax_ixor x0 (-1)) (ax_w32 (x0 - 1))) 16) : Int) ≤ 256 then ((if ax_iand (ax_ixor x0 (-1)) (ax_w32 (x0 - 1)) ≤ 65536 then ax_iand (ax_ixor x0 (-1)) (ax_w32 (x0 - 1)) else ax_iushr (ax_iand (ax_ixor x0 (-1)) (ax_w32 (x0 - 1))) 16) : Int) else ax_iushr ((if ax_iand (ax_ixor x0 (-1)) (ax_w32 (x0 - 1)) ≤ 65536 then ax_iand (ax_ixor x0 (-1)) (ax_w32 (x0 - 1)) else ax_iushr (ax_iand (ax_ixor x0 (-1)) (ax_w32 (x0 - 1))) 16) : Int) 8) : Int) else ax_iushr ((if ((if ax_iand (ax_ixor x0 (-1)) (ax_w32 (x0 - 1)) ≤ 65536 then ax_iand (ax_ixor x0 (-1)) (ax_w32 (x0 - 1)) else ax_iushr (ax_iand (ax_ixor x0 (-1)) (ax_w32 (x0 - 1))) 16) : Int) ≤ 256 then ((if ax_iand (ax_ixor x0 (-1)) (ax_w32 (x0 - 1)) ≤ 65536 then ax_iand (ax_ixor x0 (-1)) (ax_w32 (x0 - 1)) else ax_iushr (ax_iand (ax_ixor x0 (-1)) (ax_w32 (x0 - 1))) 16) : Int) else ax_iushr ((if ax_iand (ax_ixor x0 (-1)) (ax_w32 (x0 - 1)) ≤ 65536 then ax_iand (ax_ixor x0 (-1)) (ax_w32 (x0 - 1)) else ax_iushr (ax_iand (ax_ixor x0 (-1)) (ax_w32 (x0 - 1))) 16) : Int) 8) : Int) 4) : Int) 2), .inl (ax_w32 (((if ((if ((if ax_iand (ax_ixor x0 (-1)) (ax_w32 (x0 - 1)) ≤ 65536 then ax_iand (ax_ixor x0 (-1)) (ax_w32 (x0 - 1)) else ax_iushr (ax_iand (ax_ixor x0 (-1)) (ax_w32 (x0 - 1))) 16) : Int) ≤ 256 then ((if ax_iand (ax_ixor x0 (-1)) (ax_w32 (x0 - 1)) ≤ 65536 then ax_iand (ax_ixor x0 (-1)) (ax_w32 (x0 - 1)) else ax_iushr (ax_iand (ax_ixor x0 (-1)) (ax_w32 (x0 - 1))) 16) : Int) else ax_iushr ((if ax_iand (ax_ixor x0 (-1)) (ax_w32 (x0 - 1)) ≤ 65536 then ax_iand (ax_ixor x0 (-1)) (ax_w32 (x0 - 1)) else ax_iushr (ax_iand (ax_ixor x0 (-1)) (ax_w32 (x0 - 1))) 16) : Int) 8) : Int) ≤ 16 then ((if ((if ax_iand (ax_ixor x0 (-1)) (ax_w32 (x0 - 1)) ≤ 65536 then ax_iand (ax_ixor x0 (-1)) (ax_w32 (x0 - 1)) else ax_iushr (ax_iand (ax_ixor x0 (-1)) (ax_w32 (x0 - 1))) 16) : Int) ≤ 256 then ((if ax_iand (ax_ixor x0 (-1)) (ax_w32 (x0 - 1)) ≤ 65536 then 1 else ax_w32 (1 + 16)) : Int) else ax_w32 (((if ax_iand (ax_ixor x0 (-1)) (ax_w32 (x0 - 1)) ≤ 65536 then 1 else ax_w32 (1 + 16)) : Int) + 8)) : Int) else ax_w32 (((if ((if ax_iand (ax_ixor x0 (-1)) (ax_w32 (x0 - 1)) ≤ 65536 then ax_iand (ax_ixor x0 (-1)) (ax_w32 (x0 - 1)) else ax_iushr (ax_iand (ax_ixor x0 (-1)) (ax_w32 (x0 - 1))) 16) : Int) ≤ 256 then ((if ax_iand (ax_ixor x0 (-1)) (ax_w32 (x0 - 1)) ≤ 65536 then 1 else ax_w32 (1 + 16)) : Int) else ax_w32 (((if ax_iand (ax_ixor x0 (-1)) (ax_w32 (x0 - 1)) ≤ 65536 then 1 else ax_w32 (1 + 16)) : Int) + 8)) : Int) + 4)) : Int) + 2))]) (h1 := hp L s c e) rfl ?_
              refine RuP.step (pc' := 78) (ls' := [some (.inl (ax_iushr ((if ((if ((if ax_iand (ax_ixor x0 (-1)) (ax_w32 (x0 - 1)) ≤ 65536 then ax_iand (ax_ixor x0 (-1)) (ax_w32 (x0 - 1)) else ax_iushr (ax_iand (ax_ixor x0 (-1)) (ax_w32 (x0 - 1))) 16) : Int) ≤ 256 then ((if ax_iand (ax_ixor x0 (-1)) (ax_w32 (x0 - 1)) ≤ 65536 then ax_iand (ax_ixor x0 (-1)) (ax_w32 (x0 - 1)) else ax_iushr (ax_iand (ax_ixor x0 (-1)) (ax_w32 (x0 - 1))) 16) : Int) else ax_iushr ((if ax_iand (ax_ixor x0 (-1)) (ax_w32 (x0 - 1)) ≤ 65536 then ax_iand (ax_ixor x0 (-1)) (ax_w32 (x0 - 1)) else ax_iushr (ax_iand (ax_ixor x0 (-1)) (ax_w32 (x0 - 1))) 16) : Int) 8) : Int) ≤ 16 then ((if ((if ax_iand (ax_ixor x0 (-1)) (ax_w32 (x0 - 1)) ≤ 65536 then ax_iand (ax_ixor x0 (-1)) (ax_w32 (x0 - 1)) else ax_iushr (ax_iand (ax_ixor x0 (-1)) (ax_w32 (x0 - 1))) 16) : Int) ≤ 256 then ((if ax_iand (ax_ixor x0 (-1)) (ax_w32 (x0 - 1)) ≤ 65536 then ax_iand (ax_ixor x0 (-1)) (ax_w32 (x0 - 1)) else ax_iushr (ax_iand (ax_ixor x0 (-1)) (ax_w32 (x0 - 1))) 16) : Int) else ax_iushr ((if ax_iand (ax_ixor x0 (-1)) (ax_w32 (x0 - 1)) ≤ 65536 then ax_iand (ax_ixor x0 (-1)) (ax_w32 (x0 - 1)) else ax_iushr (ax_iand (ax_ixor x0 (-1)) (ax_w32 (x0 - 1))) 16) : Int) 8) : Int) else ax_iushr ((if ((if ax_iand (ax_ixor x0 (-1)) (ax_w32 (x0 - 1)) ≤ 65536 then ax_iand (ax_ixor x0 (-1)) (ax_w32 (x0 - 1)) else ax_iushr (ax_iand (ax_ixor x0 (-1)) (ax_w32 (x0 - 1))) 16) : Int) ≤ 256 then ((if ax_iand (ax_ixor x0 (-1)) (ax_w32 (x0 - 1)) ≤ 65536 then ax_iand (ax_ixor x0 (-1)) (ax_w32 (x0 - 1)) else ax_iushr (ax_iand (ax_ixor x0 (-1)) (ax_w32 (x0 - 1))) 16) : Int) else ax_iushr ((if ax_iand (ax_ixor x0 (-1)) (ax_w32 (x0 - 1)) ≤ 65536 then ax_iand (ax_ixor x0 (-1)) (ax_w32 (x0 - 1)) else ax_iushr (ax_iand (ax_ixor x0 (-1)) (ax_w32 (x0 - 1))) 16) : Int) 8) : Int) 4) : Int) 2)), some (.inl (ax_w32 (((if ((if ((if ax_iand (ax_ixor x0 (-1)) (ax_w32 (x0 - 1)) ≤ 65536 then ax_iand (ax_ixor x0 (-1)) (ax_w32 (x0 - 1)) else ax_iushr (ax_iand (ax_ixor x0 (-1)) (ax_w32 (x0 - 1))) 16) : Int) ≤ 256 then ((if ax_iand (ax_ixor x0 (-1)) (ax_w32 (x0 - 1)) ≤ 65536 then ax_iand (ax_ixor x0 (-1)) (ax_w32 (x0 - 1)) else ax_iushr (ax_iand (ax_ixor x0 (-1)) (ax_w32 (x0 - 1))) 16) : Int) else ax_iushr ((if ax_iand (ax_ixor x0 (-1)) (ax_w32 (x0 - 1)) ≤ 65536 then ax_iand (ax_ixor x0 (-1)) (ax_w32 (x0 - 1)) else ax_iushr (ax_iand (ax_ixor x0 (-1)) (ax_w32 (x0 - 1))) 16) : Int) 8) : Int) ≤ 16 then ((if ((if ax_iand (ax_ixor x0 (-1)) (ax_w32 (x0 - 1)) ≤ 65536 then ax_iand (ax_ixor x0 (-1)) (ax_w32 (x0 - 1)) else ax_iushr (ax_iand (ax_ixor x0 (-1)) (ax_w32 (x0 - 1))) 16) : Int) ≤ 256 then ((if ax_iand (ax_ixor x0 (-1)) (ax_w32 (x0 - 1)) ≤ 65536 then 1 else ax_w32 (1 + 16)) : Int) else ax_w32 (((if ax_iand (ax_ixor x0 (-1)) (ax_w32 (x0 - 1)) ≤ 65536 then 1 else ax_w32 (1 + 16)) : Int) + 8)) : Int) else ax_w32 (((if ((if ax_iand (ax_ixor x0 (-1)) (ax_w32 (x0 - 1)) ≤ 65536 then ax_iand (ax_ixor x0 (-1)) (ax_w32 (x0 - 1)) else ax_iushr (ax_iand (ax_ixor x0 (-1)) (ax_w32 (x0 - 1))) 16) : Int) ≤ 256 then ((if ax_iand (ax_ixor x0 (-1)) (ax_w32 (x0 - 1)) ≤ 65536 then 1 else ax_w32 (1 + 16)) : Int) else ax_w32 (((if ax_iand (ax_ixor x0 (-1)) (ax_w32 (x0 - 1)) ≤ 65536 then 1 else ax_w32 (1 + 16)) : Int) + 8)) : Int) + 4)) : Int) + 2)))]) (st' := [.inl (ax_iushr (ax_iushr ((if ((if ((if ax_iand (ax_ixor x0 (-1)) (ax_w32 (x0 - 1)) ≤ 65536 then ax_iand (ax_ixor x0 (-1)) (ax_w32 (x0 - 1)) else ax_iushr (ax_iand (ax_ixor x0 (-1)) (ax_w32 (x0 - 1))) 16) : Int) ≤ 256 then ((if ax_iand (ax_ixor x0 (-1)) (ax_w32 (x0 - 1)) ≤ 65536 then ax_iand (ax_ixor x0 (-1)) (ax_w32 (x0 - 1)) else ax_iushr (ax_iand (ax_ixor x0 (-1)) (ax_w32 (x0 - 1))) 16) : Int) else ax_iushr ((if ax_iand (ax_ixor x0 (-1)) (ax_w32 (x0 - 1)) ≤ 65536 then ax_iand (ax_ixor x0 (-1)) (ax_w32 (x0 - 1)) else ax_iushr (ax_iand (ax_ixor x0 (-1)) (ax_w32 (x0 - 1))) 16) : Int) 8) : Int) ≤ 16 then ((if ((if ax_iand (ax_ixor x0 (-1)) (ax_w32 (x0 - 1)) ≤ 65536 then ax_iand (ax_ixor x0 (-1)) (ax_w32 (x0 - 1)) else ax_iushr (ax_iand (ax_ixor x0 (-1)) (ax_w32 (x0 - 1))) 16) : Int) ≤ 256 then ((if ax_iand (ax_ixor x0 (-1)) (ax_w32 (x0 - 1)) ≤ 65536 then ax_iand (ax_ixor x0 (-1)) (ax_w32 (x0 - 1)) else ax_iushr (ax_iand (ax_ixor x0 (-1)) (ax_w32 (x0 - 1))) 16) : Int) else ax_iushr ((if ax_iand (ax_ixor x0 (-1)) (ax_w32 (x0 - 1)) ≤ 65536 then ax_iand (ax_ixor x0 (-1)) (ax_w32 (x0 - 1)) else ax_iushr (ax_iand (ax_ixor x0 (-1)) (ax_w32 (x0 - 1))) 16) : Int) 8) : Int) else ax_iushr ((if ((if ax_iand (ax_ixor x0 (-1)) (ax_w32 (x0 - 1)) ≤ 65536 then ax_iand (ax_ixor x0 (-1)) (ax_w32 (x0 - 1)) else ax_iushr (ax_iand (ax_ixor x0 (-1)) (ax_w32 (x0 - 1))) 16) : Int) ≤ 256 then ((if ax_iand (ax_ixor x0 (-1)) (ax_w32 (x0 - 1)) ≤ 65536 then ax_iand (ax_ixor x0 (-1)) (ax_w32 (x0 - 1)) else ax_iushr (ax_iand (ax_ixor x0 (-1)) (ax_w32 (x0 - 1))) 16) : Int) else ax_iushr ((if ax_iand (ax_ixor x0 (-1)) (ax_w32 (x0 - 1)) ≤ 65536 then ax_iand (ax_ixor x0 (-1)) (ax_w32 (x0 - 1)) else ax_iushr (ax_iand (ax_ixor x0 (-1)) (ax_w32 (x0 - 1))) 16) : Int) 8) : Int) 4) : Int) 2) 1), .inl (ax_w32 (((if ((if ((if ax_iand (ax_ixor x0 (-1)) (ax_w32 (x0 - 1)) ≤ 65536 then ax_iand (ax_ixor x0 (-1)) (ax_w32 (x0 - 1)) else ax_iushr (ax_iand (ax_ixor x0 (-1)) (ax_w32 (x0 - 1))) 16) : Int) ≤ 256 then ((if ax_iand (ax_ixor x0 (-1)) (ax_w32 (x0 - 1)) ≤ 65536 then ax_iand (ax_ixor x0 (-1)) (ax_w32 (x0 - 1)) else ax_iushr (ax_iand (ax_ixor x0 (-1)) (ax_w32 (x0 - 1))) 16) : Int) else ax_iushr ((if ax_iand (ax_ixor x0 (-1)) (ax_w32 (x0 - 1)) ≤ 65536 then ax_iand (ax_ixor x0 (-1)) (ax_w32 (x0 - 1)) else ax_iushr (ax_iand (ax_ixor x0 (-1)) (ax_w32 (x0 - 1))) 16) : Int) 8) : Int) ≤ 16 then ((if ((if ax_iand (ax_ixor x0 (-1)) (ax_w32 (x0 - 1)) ≤ 65536 then ax_iand (ax_ixor x0 (-1)) (ax_w32 (x0 - 1)) else ax_iushr (ax_iand (ax_ixor x0 (-1)) (ax_w32 (x0 - 1))) 16) : Int) ≤ 256 then ((if ax_iand (ax_ixor x0 (-1)) (ax_w32 (x0 - 1)) ≤ 65536 then 1 else ax_w32 (1 + 16)) : Int) else ax_w32 (((if ax_iand (ax_ixor x0 (-1)) (ax_w32 (x0 - 1)) ≤ 65536 then 1 else ax_w32 (1 + 16)) : Int) + 8)) : Int) else ax_w32 (((if ((if ax_iand (ax_ixor x0 (-1)) (ax_w32 (x0 - 1)) ≤ 65536 then ax_iand (ax_ixor x0 (-1)) (ax_w32 (x0 - 1)) else ax_iushr (ax_iand (ax_ixor x0 (-1)) (ax_w32 (x0 - 1))) 16) : Int) ≤ 256 then ((if ax_iand (ax_ixor x0 (-1)) (ax_w32 (x0 - 1)) ≤ 65536 then 1 else ax_w32 (1 + 16)) : Int) else ax_w32 (((if ax_iand (ax_ixor x0 (-1)) (ax_w32 (x0 - 1)) ≤ 65536 then 1 else ax_w32 (1 + 16)) : Int) + 8)) : Int) + 4)) : Int) + 2))]) (h1 := hp L s c e) rfl ?_
              refine RuP.step (pc' := 79) (ls' := [some (.inl (ax_iushr ((if ((if ((if ax_iand (ax_ixor x0 (-1)) (ax_w32 (x0 - 1)) ≤ 65536 then ax_iand (ax_ixor x0 (-1)) (ax_w32 (x0 - 1)) else ax_iushr (ax_iand (ax_ixor x0 (-1)) (ax_w32 (x0 - 1))) 16) : Int) ≤ 256 then ((if ax_iand (ax_ixor x0 (-1)) (ax_w32 (x0 - 1)) ≤ 65536 then ax_iand (ax_ixor x0 (-1)) (ax_w32 (x0 - 1)) else ax_iushr (ax_iand (ax_ixor x0 (-1)) (ax_w32 (x0 - 1))) 16) : Int) else ax_iushr ((if ax_iand (ax_ixor x0 (-1)) (ax_w32 (x0 - 1)) ≤ 65536 then ax_iand (ax_ixor x0 (-1)) (ax_w32 (x0 - 1)) else ax_iushr (ax_iand (ax_ixor x0 (-1)) (ax_w32 (x0 - 1))) 16) : Int) 8) : Int) ≤ 16 then ((if ((if ax_iand (ax_ixor x0 (-1)) (ax_w32 (x0 - 1)) ≤ 65536 then ax_iand (ax_ixor x0 (-1)) (ax_w32 (x0 - 1)) else ax_iushr (ax_iand (ax_ixor x0 (-1)) (ax_w32 (x0 - 1))) 16) : Int) ≤ 256 then ((if ax_iand (ax_ixor x0 (-1)) (ax_w32 (x0 - 1)) ≤ 65536 then ax_iand (ax_ixor x0 (-1)) (ax_w32 (x0 - 1)) else ax_iushr (ax_iand (ax_ixor x0 (-1)) (ax_w32 (x0 - 1))) 16) : Int) else ax_iushr ((if ax_iand (ax_ixor x0 (-1)) (ax_w32 (x0 - 1)) ≤ 65536 then ax_iand (ax_ixor x0 (-1)) (ax_w32 (x0 - 1)) else ax_iushr (ax_iand (ax_ixor x0 (-1)) (ax_w32 (x0 - 1))) 16) : Int) 8) : Int) else ax_iushr ((if ((if ax_iand (ax_ixor x0 (-1)) (ax_w32 (x0 - 1)) ≤ 65536 then ax_iand (ax_ixor x0 (-1)) (ax_w32 (x0 - 1)) else ax_iushr (ax_iand (ax_ixor x0 (-1)) (ax_w32 (x0 - 1))) 16) : Int) ≤ 256 then ((if ax_iand (ax_ixor x0 (-1)) (ax_w32 (x0 - 1)) ≤ 65536 then ax_iand (ax_ixor x0 (-1)) (ax_w32 (x0 - 1)) else ax_iushr (ax_iand (ax_ixor x0 (-1)) (ax_w32 (x0 - 1))) 16) : Int) else ax_iushr ((if ax_iand (ax_ixor x0 (-1)) (ax_w32 (x0 - 1)) ≤ 65536 then ax_iand (ax_ixor x0 (-1)) (ax_w32 (x0 - 1)) else ax_iushr (ax_iand (ax_ixor x0 (-1)) (ax_w32 (x0 - 1))) 16) : Int) 8) : Int) 4) : Int) 2)), some (.inl (ax_w32 (((if ((if ((if ax_iand (ax_ixor x0 (-1)) (ax_w32 (x0 - 1)) ≤ 65536 then ax_iand (ax_ixor x0 (-1)) (ax_w32 (x0 - 1)) else ax_iushr (ax_iand (ax_ixor x0 (-1)) (ax_w32 (x0 - 1))) 16) : Int) ≤ 256 then ((if ax_iand (ax_ixor x0 (-1)) (ax_w32 (x0 - 1)) ≤ 65536 then ax_iand (ax_ixor x0 (-1)) (ax_w32 (x0 - 1)) else ax_iushr (ax_iand (ax_ixor x0 (-1)) (ax_w32 (x0 - 1))) 16) : Int) else ax_iushr ((if ax_iand (ax_ixor x0 (-1)) (ax_w32 (x0 - 1)) ≤ 65536 then ax_iand (ax_ixor x0 (-1)) (ax_w32 (x0 - 1)) else ax_iushr (ax_iand (ax_ixor x0 (-1)) (ax_w32 (x0 - 1))) 16) : Int) 8) : Int) ≤ 16 then ((if ((if ax_iand (ax_ixor x0 (-1)) (ax_w32 (x0 - 1)) ≤ 65536 then ax_iand (ax_ixor x0 (-1)) (ax_w32 (x0 - 1)) else ax_iushr (ax_iand (ax_ixor x0 (-1)) (ax_w32 (x0 - 1))) 16) : Int) ≤ 256 then ((if ax_iand (ax_ixor x0 (-1)) (ax_w32 (x0 - 1)) ≤ 65536 then 1 else ax_w32 (1 + 16)) : Int) else ax_w32 (((if ax_iand (ax_ixor x0 (-1)) (ax_w32 (x0 - 1)) ≤ 65536 then 1 else ax_w32 (1 + 16)) : Int) + 8)) : Int) else ax_w32 (((if ((if ax_iand (ax_ixor x0 (-1)) (ax_w32 (x0 - 1)) ≤ 65536 then ax_iand (ax_ixor x0 (-1)) (ax_w32 (x0 - 1)) else ax_iushr (ax_iand (ax_ixor x0 (-1)) (ax_w32 (x0 - 1))) 16) : Int) ≤ 256 then ((if ax_iand (ax_ixor x0 (-1)) (ax_w32 (x0 - 1)) ≤ 65536 then 1 else ax_w32 (1 + 16)) : Int) else ax_w32 (((if ax_iand (ax_ixor x0 (-1)) (ax_w32 (x0 - 1)) ≤ 65536 then 1 else ax_w32 (1 + 16)) : Int) + 8)) : Int) + 4)) : Int) + 2)))]) (st' := [.inl (ax_w32 ((ax_w32 (((if ((if ((if ax_iand (ax_ixor x0 (-1)) (ax_w32 (x0 - 1)) ≤ 65536 then ax_iand (ax_ixor x0 (-1)) (ax_w32 (x0 - 1)) else ax_iushr (ax_iand (ax_ixor x0 (-1)) (ax_w32 (x0 - 1))) 16) : Int) ≤ 256 then ((if ax_iand (ax_ixor x0 (-1)) (ax_w32 (x0 - 1)) ≤ 65536 then ax_iand (ax_ixor x0 (-1)) (ax_w32 (x0 - 1)) else ax_iushr (ax_iand (ax_ixor x0 (-1)) (ax_w32 (x0 - 1))) 16) : Int) else ax_iushr ((if ax_iand (ax_ixor x0 (-1)) (ax_w32 (x0 - 1)) ≤ 65536 then ax_iand (ax_ixor x0 (-1)) (ax_w32 (x0 - 1)) else ax_iushr (ax_iand (ax_ixor x0 (-1)) (ax_w32 (x0 - 1))) 16) : Int) 8) : Int) ≤ 16 then ((if ((if ax_iand (ax_ixor x0 (-1)) (ax_w32 (x0 - 1)) ≤ 65536 then ax_iand (ax_ixor x0 (-1)) (ax_w32 (x0 - 1)) else ax_iushr (ax_iand (ax_ixor x0 (-1)) (ax_w32 (x0 - 1))) 16) : Int) ≤ 256 then ((if ax_iand (ax_ixor x0 (-1)) (ax_w32 (x0 - 1)) ≤ 65536 then 1 else ax_w32 (1 + 16)) : Int) else ax_w32 (((if ax_iand (ax_ixor x0 (-1)) (ax_w32 (x0 - 1)) ≤ 65536 then 1 else ax_w32 (1 + 16)) : Int) + 8)) : Int) else ax_w32 (((if ((if ax_iand (ax_ixor x0 (-1)) (ax_w32 (x0 - 1)) ≤ 65536 then ax_iand (ax_ixor x0 (-1)) (ax_w32 (x0 - 1)) else ax_iushr (ax_iand (ax_ixor x0 (-1)) (ax_w32 (x0 - 1))) 16) : Int) ≤ 256 then ((if ax_iand (ax_ixor x0 (-1)) (ax_w32 (x0 - 1)) ≤ 65536 then 1 else ax_w32 (1 + 16)) : Int) else ax_w32 (((if ax_iand (ax_ixor x0 (-1)) (ax_w32 (x0 - 1)) ≤ 65536 then 1 else ax_w32 (1 + 16)) : Int) + 8)) : Int) + 4)) : Int) + 2)) + (ax_iushr (ax_iushr ((if ((if ((if ax_iand (ax_ixor x0 (-1)) (ax_w32 (x0 - 1)) ≤ 65536 then ax_iand (ax_ixor x0 (-1)) (ax_w32 (x0 - 1)) else ax_iushr (ax_iand (ax_ixor x0 (-1)) (ax_w32 (x0 - 1))) 16) : Int) ≤ 256 then ((if ax_iand (ax_ixor x0 (-1)) (ax_w32 (x0 - 1)) ≤ 65536 then ax_iand (ax_ixor x0 (-1)) (ax_w32 (x0 - 1)) else ax_iushr (ax_iand (ax_ixor x0 (-1)) (ax_w32 (x0 - 1))) 16) : Int) else ax_iushr ((if ax_iand (ax_ixor x0 (-1)) (ax_w32 (x0 - 1)) ≤ 65536 then ax_iand (ax_ixor x0 (-1)) (ax_w32 (x0 - 1)) else ax_iushr (ax_iand (ax_ixor x0 (-1)) (ax_w32 (x0 - 1))) 16) : Int) 8) : Int) ≤ 16 then ((if ((if ax_iand (ax_ixor x0 (-1)) (ax_w32 (x0 - 1)) ≤ 65536 then ax_iand (ax_ixor x0 (-1)) (ax_w32 (x0 - 1)) else ax_iushr (ax_iand (ax_ixor x0 (-1)) (ax_w32 (x0 - 1))) 16) : Int) ≤ 256 then ((if ax_iand (ax_ixor x0 (-1)) (ax_w32 (x0 - 1)) ≤ 65536 then ax_iand (ax_ixor x0 (-1)) (ax_w32 (x0 - 1)) else ax_iushr (ax_iand (ax_ixor x0 (-1)) (ax_w32 (x0 - 1))) 16) : Int) else ax_iushr ((if ax_iand (ax_ixor x0 (-1)) (ax_w32 (x0 - 1)) ≤ 65536 then ax_iand (ax_ixor x0 (-1)) (ax_w32 (x0 - 1)) else ax_iushr (ax_iand (ax_ixor x0 (-1)) (ax_w32 (x0 - 1))) 16) : Int) 8) : Int) else ax_iushr ((if ((if ax_iand (ax_ixor x0 (-1)) (ax_w32 (x0 - 1)) ≤ 65536 then ax_iand (ax_ixor x0 (-1)) (ax_w32 (x0 - 1)) else ax_iushr (ax_iand (ax_ixor x0 (-1)) (ax_w32 (x0 - 1))) 16) : Int) ≤ 256 then ((if ax_iand (ax_ixor x0 (-1)) (ax_w32 (x0 - 1)) ≤ 65536 then ax_iand (ax_ixor x0 (-1)) (ax_w32 (x0 - 1)) else ax_iushr (ax_iand (ax_ixor x0 (-1)) (ax_w32 (x0 - 1))) 16) : Int) else ax_iushr ((if ax_iand (ax_ixor x0 (-1)) (ax_w32 (x0 - 1)) ≤ 65536 then ax_iand (ax_ixor x0 (-1)) (ax_w32 (x0 - 1)) else ax_iushr (ax_iand (ax_ixor x0 (-1)) (ax_w32 (x0 - 1))) 16) : Int) 8) : Int) 4) : Int) 2) 1)))]) (h1 := hp L s c e) rfl ?_
              subst h
              exact RuP.dI rfl
          by_cases h5 : ((if ((if ax_iand (ax_ixor x0 (-1)) (ax_w32 (x0 - 1)) ≤ 65536 then ax_iand (ax_ixor x0 (-1)) (ax_w32 (x0 - 1)) else ax_iushr (ax_iand (ax_ixor x0 (-1)) (ax_w32 (x0 - 1))) 16) : Int) ≤ 256 then ((if ax_iand (ax_ixor x0 (-1)) (ax_w32 (x0 - 1)) ≤ 65536 then ax_iand (ax_ixor x0 (-1)) (ax_w32 (x0 - 1)) else ax_iushr (ax_iand (ax_ixor x0 (-1)) (ax_w32 (x0 - 1))) 16) : Int) else ax_iushr ((if ax_iand (ax_ixor x0 (-1)) (ax_w32 (x0 - 1)) ≤ 65536 then ax_iand (ax_ixor x0 (-1)) (ax_w32 (x0 - 1)) else ax_iushr (ax_iand (ax_ixor x0 (-1)) (ax_w32 (x0 - 1))) 16) : Int) 8) : Int) ≤ 16
          · refine RuP.jy rfl h5 ?_
            exact J4 _ (by simp only [if_pos h5]) _ (by simp only [if_pos h5])
          · refine RuP.jn rfl h5 ?_
            refine RuP.step (pc' := 58) (ls' := [some (.inl ((if ((if ax_iand (ax_ixor x0 (-1)) (ax_w32 (x0 - 1)) ≤ 65536 then ax_iand (ax_ixor x0 (-1)) (ax_w32 (x0 - 1)) else ax_iushr (ax_iand (ax_ixor x0 (-1)) (ax_w32 (x0 - 1))) 16) : Int) ≤ 256 then ((if ax_iand (ax_ixor x0 (-1)) (ax_w32 (x0 - 1)) ≤ 65536 then ax_iand (ax_ixor x0 (-1)) (ax_w32 (x0 - 1)) else ax_iushr (ax_iand (ax_ixor x0 (-1)) (ax_w32 (x0 - 1))) 16) : Int) else ax_iushr ((if ax_iand (ax_ixor x0 (-1)) (ax_w32 (x0 - 1)) ≤ 65536 then ax_iand (ax_ixor x0 (-1)) (ax_w32 (x0 - 1)) else ax_iushr (ax_iand (ax_ixor x0 (-1)) (ax_w32 (x0 - 1))) 16) : Int) 8) : Int)), some (.inl (ax_w32 (((if ((if ax_iand (ax_ixor x0 (-1)) (ax_w32 (x0 - 1)) ≤ 65536 then ax_iand (ax_ixor x0 (-1)) (ax_w32 (x0 - 1)) else ax_iushr (ax_iand (ax_ixor x0 (-1)) (ax_w32 (x0 - 1))) 16) : Int) ≤ 256 then ((if ax_iand (ax_ixor x0 (-1)) (ax_w32 (x0 - 1)) ≤ 65536 then 1 else ax_w32 (1 + 16)) : Int) else ax_w32 (((if ax_iand (ax_ixor x0 (-1)) (ax_w32 (x0 - 1)) ≤ 65536 then 1 else ax_w32 (1 + 16)) : Int) + 8)) : Int) + 4)))]) (st' := []) (h1 := hp L s c e) rfl ?_
            refine RuP.step (pc' := 59) (ls' := [some (.inl ((if ((if ax_iand (ax_ixor x0 (-1)) (ax_w32 (x0 - 1)) ≤ 65536 then ax_iand (ax_ixor x0 (-1)) (ax_w32 (x0 - 1)) else ax_iushr (ax_iand (ax_ixor x0 (-1)) (ax_w32 (x0 - 1))) 16) : Int) ≤ 256 then ((if ax_iand (ax_ixor x0 (-1)) (ax_w32 (x0 - 1)) ≤ 65536 then ax_iand (ax_ixor x0 (-1)) (ax_w32 (x0 - 1)) else ax_iushr (ax_iand (ax_ixor x0 (-1)) (ax_w32 (x0 - 1))) 16) : Int) else ax_iushr ((if ax_iand (ax_ixor x0 (-1)) (ax_w32 (x0 - 1)) ≤ 65536 then ax_iand (ax_ixor x0 (-1)) (ax_w32 (x0 - 1)) else ax_iushr (ax_iand (ax_ixor x0 (-1)) (ax_w32 (x0 - 1))) 16) : Int) 8) : Int)), some (.inl (ax_w32 (((if ((if ax_iand (ax_ixor x0 (-1)) (ax_w32 (x0 - 1)) ≤ 65536 then ax_iand (ax_ixor x0 (-1)) (ax_w32 (x0 - 1)) else ax_iushr (ax_iand (ax_ixor x0 (-1)) (ax_w32 (x0 - 1))) 16) : Int) ≤ 256 then ((if ax_iand (ax_ixor x0 (-1)) (ax_w32 (x0 - 1)) ≤ 65536 then 1 else ax_w32 (1 + 16)) : Int) else ax_w32 (((if ax_iand (ax_ixor x0 (-1)) (ax_w32 (x0 - 1)) ≤ 65536 then 1 else ax_w32 (1 + 16)) : Int) + 8)) : Int) + 4)))]) (st' := [.inl ((if ((if ax_iand (ax_ixor x0 (-1)) (ax_w32 (x0 - 1)) ≤ 65536 then ax_iand (ax_ixor x0 (-1)) (ax_w32 (x0 - 1)) else ax_iushr (ax_iand (ax_ixor x0 (-1)) (ax_w32 (x0 - 1))) 16) : Int) ≤ 256 then ((if ax_iand (ax_ixor x0 (-1)) (ax_w32 (x0 - 1)) ≤ 65536 then ax_iand (ax_ixor x0 (-1)) (ax_w32 (x0 - 1)) else ax_iushr (ax_iand (ax_ixor x0 (-1)) (ax_w32 (x0 - 1))) 16) : Int) else ax_iushr ((if ax_iand (ax_ixor x0 (-1)) (ax_w32 (x0 - 1)) ≤ 65536 then ax_iand (ax_ixor x0 (-1)) (ax_w32 (x0 - 1)) else ax_iushr (ax_iand (ax_ixor x0 (-1)) (ax_w32 (x0 - 1))) 16) : Int) 8) : Int)]) (h1 := hp L s c e) rfl ?_
            refine RuP.step (pc' := 60) (ls' := [some (.inl ((if ((if ax_iand (ax_ixor x0 (-1)) (ax_w32 (x0 - 1)) ≤ 65536 then ax_iand (ax_ixor x0 (-1)) (ax_w32 (x0 - 1)) else ax_iushr (ax_iand (ax_ixor x0 (-1)) (ax_w32 (x0 - 1))) 16) : Int) ≤ 256 then ((if ax_iand (ax_ixor x0 (-1)) (ax_w32 (x0 - 1)) ≤ 65536 then ax_iand (ax_ixor x0 (-1)) (ax_w32 (x0 - 1)) else ax_iushr (ax_iand (ax_ixor x0 (-1)) (ax_w32 (x0 - 1))) 16) : Int) else ax_iushr ((if ax_iand (ax_ixor x0 (-1)) (ax_w32 (x0 - 1)) ≤ 65536 then ax_iand (ax_ixor x0 (-1)) (ax_w32 (x0 - 1)) else ax_iushr (ax_iand (ax_ixor x0 (-1)) (ax_w32 (x0 - 1))) 16) : Int) 8) : Int)), some (.inl (ax_w32 (((if ((if ax_iand (ax_ixor x0 (-1)) (ax_w32 (x0 - 1)) ≤ 65536 then ax_iand (ax_ixor x0 (-1)) (ax_w32 (x0 - 1)) else ax_iushr (ax_iand (ax_ixor x0 (-1)) (ax_w32 (x0 - 1))) 16) : Int) ≤ 256 then ((if ax_iand (ax_ixor x0 (-1)) (ax_w32 (x0 - 1)) ≤ 65536 then 1 else ax_w32 (1 + 16)) : Int) else ax_w32 (((if ax_iand (ax_ixor x0 (-1)) (ax_w32 (x0 - 1)) ≤ 65536 then 1 else ax_w32 (1 + 16)) : Int) + 8)) : Int) + 4)))]) (st' := [.inl 4, .inl ((if ((if ax_iand (ax_ixor x0 (-1)) (ax_w32 (x0 - 1)) ≤ 65536 then ax_iand (ax_ixor x0 (-1)) (ax_w32 (x0 - 1)) else ax_iushr (ax_iand (ax_ixor x0 (-1)) (ax_w32 (x0 - 1))) 16) : Int) ≤ 256 then ((if ax_iand (ax_ixor x0 (-1)) (ax_w32 (x0 - 1)) ≤ 65536 then ax_iand (ax_ixor x0 (-1)) (ax_w32 (x0 - 1)) else ax_iushr (ax_iand (ax_ixor x0 (-1)) (ax_w32 (x0 - 1))) 16) : Int) else ax_iushr ((if ax_iand (ax_ixor x0 (-1)) (ax_w32 (x0 - 1)) ≤ 65536 then ax_iand (ax_ixor x0 (-1)) (ax_w32 (x0 - 1)) else ax_iushr (ax_iand (ax_ixor x0 (-1)) (ax_w32 (x0 - 1))) 16) : Int) 8) : Int)]) (h1 := hp L s c e) rfl ?_
            refine RuP.step (pc' := 61) (ls' := [some (.inl ((if ((if ax_iand (ax_ixor x0 (-1)) (ax_w32 (x0 - 1)) ≤ 65536 then ax_iand (ax_ixor x0 (-1)) (ax_w32 (x0 - 1)) else ax_iushr (ax_iand (ax_ixor x0 (-1)) (ax_w32 (x0 - 1))) 16) : Int) ≤ 256 then ((if ax_iand (ax_ixor x0 (-1)) (ax_w32 (x0 - 1)) ≤ 65536 then ax_iand (ax_ixor x0 (-1)) (ax_w32 (x0 - 1)) else ax_iushr (ax_iand (ax_ixor x0 (-1)) (ax_w32 (x0 - 1))) 16) : Int) else ax_iushr ((if ax_iand (ax_ixor x0 (-1)) (ax_w32 (x0 - 1)) ≤ 65536 then ax_iand (ax_ixor x0 (-1)) (ax_w32 (x0 - 1)) else ax_iushr (ax_iand (ax_ixor x0 (-1)) (ax_w32 (x0 - 1))) 16) : Int) 8) : Int)), some (.inl (ax_w32 (((if ((if ax_iand (ax_ixor x0 (-1)) (ax_w32 (x0 - 1)) ≤ 65536 then ax_iand (ax_ixor x0 (-1)) (ax_w32 (x0 - 1)) else ax_iushr (ax_iand (ax_ixor x0 (-1)) (ax_w32 (x0 - 1))) 16) : Int) ≤ 256 then ((if ax_iand (ax_ixor x0 (-1)) (ax_w32 (x0 - 1)) ≤ 65536 then 1 else ax_w32 (1 + 16)) : Int) else ax_w32 (((if ax_iand (ax_ixor x0 (-1)) (ax_w32 (x0 - 1)) ≤ 65536 then 1 else ax_w32 (1 + 16)) : Int) + 8)) : Int) + 4)))]) (st' := [.inl (ax_iushr ((if ((if ax_iand (ax_ixor x0 (-1)) (ax_w32 (x0 - 1)) ≤ 65536 then ax_iand (ax_ixor x0 (-1)) (ax_w32 (x0 - 1)) else ax_iushr (ax_iand (ax_ixor x0 (-1)) (ax_w32 (x0 - 1))) 16) : Int) ≤ 256 then ((if ax_iand (ax_ixor x0 (-1)) (ax_w32 (x0 - 1)) ≤ 65536 then ax_iand (ax_ixor x0 (-1)) (ax_w32 (x0 - 1)) else ax_iushr (ax_iand (ax_ixor x0 (-1)) (ax_w32 (x0 - 1))) 16) : Int) else ax_iushr ((if ax_iand (ax_ixor x0 (-1)) (ax_w32 (x0 - 1)) ≤ 65536 then ax_iand (ax_ixor x0 (-1)) (ax_w32 (x0 - 1)) else ax_iushr (ax_iand (ax_ixor x0 (-1)) (ax_w32 (x0 - 1))) 16) : Int) 8) : Int) 4)]) (h1 := hp L s c e) rfl ?_
            refine RuP.step (pc' := 62) (ls' := [some (.inl (ax_iushr ((if ((if ax_iand (ax_ixor x0 (-1)) (ax_w32 (x0 - 1)) ≤ 65536 then ax_iand (ax_ixor x0 (-1)) (ax_w32 (x0 - 1)) else ax_iushr (ax_iand (ax_ixor x0 (-1)) (ax_w32 (x0 - 1))) 16) : Int) ≤ 256 then ((if ax_iand (ax_ixor x0 (-1)) (ax_w32 (x0 - 1)) ≤ 65536 then ax_iand (ax_ixor x0 (-1)) (ax_w32 (x0 - 1)) else ax_iushr (ax_iand (ax_ixor x0 (-1)) (ax_w32 (x0 - 1))) 16) : Int) else ax_iushr ((if ax_iand (ax_ixor x0 (-1)) (ax_w32 (x0 - 1)) ≤ 65536 then ax_iand (ax_ixor x0 (-1)) (ax_w32 (x0 - 1)) else ax_iushr (ax_iand (ax_ixor x0 (-1)) (ax_w32 (x0 - 1))) 16) : Int) 8) : Int) 4)), some (.inl (ax_w32 (((if ((if ax_iand (ax_ixor x0 (-1)) (ax_w32 (x0 - 1)) ≤ 65536 then ax_iand (ax_ixor x0 (-1)) (ax_w32 (x0 - 1)) else ax_iushr (ax_iand (ax_ixor x0 (-1)) (ax_w32 (x0 - 1))) 16) : Int) ≤ 256 then ((if ax_iand (ax_ixor x0 (-1)) (ax_w32 (x0 - 1)) ≤ 65536 then 1 else ax_w32 (1 + 16)) : Int) else ax_w32 (((if ax_iand (ax_ixor x0 (-1)) (ax_w32 (x0 - 1)) ≤ 65536 then 1 else ax_w32 (1 + 16)) : Int) + 8)) : Int) + 4)))]) (st' := []) (h1 := hp L s c e) rfl ?_
            exact J4 _ (by simp only [if_neg h5]) _ (by simp only [if_neg h5])
        by_cases h6 : ((if ax_iand (ax_ixor x0 (-1)) (ax_w32 (x0 - 1)) ≤ 65536 then ax_iand (ax_ixor x0 (-1)) (ax_w32 (x0 - 1)) else ax_iushr (ax_iand (ax_ixor x0 (-1)) (ax_w32 (x0 - 1))) 16) : Int) ≤ 256
        · refine RuP.jy rfl h6 ?_
          exact J3 _ (by simp only [if_pos h6]) _ (by simp only [if_pos h6])
        · refine RuP.jn rfl h6 ?_
          refine RuP.step (pc' := 44) (ls' := [some (.inl ((if ax_iand (ax_ixor x0 (-1)) (ax_w32 (x0 - 1)) ≤ 65536 then ax_iand (ax_ixor x0 (-1)) (ax_w32 (x0 - 1)) else ax_iushr (ax_iand (ax_ixor x0 (-1)) (ax_w32 (x0 - 1))) 16) : Int)), some (.inl (ax_w32 (((if ax_iand (ax_ixor x0 (-1)) (ax_w32 (x0 - 1)) ≤ 65536 then 1 else ax_w32 (1 + 16)) : Int) + 8)))]) (st' := []) (h1 := hp L s c e) rfl ?_
          refine RuP.step (pc' := 45) (ls' := [some (.inl ((if ax_iand (ax_ixor x0 (-1)) (ax_w32 (x0 - 1)) ≤ 65536 then ax_iand (ax_ixor x0 (-1)) (ax_w32 (x0 - 1)) else ax_iushr (ax_iand (ax_ixor x0 (-1)) (ax_w32 (x0 - 1))) 16) : Int)), some (.inl (ax_w32 (((if ax_iand (ax_ixor x0 (-1)) (ax_w32 (x0 - 1)) ≤ 65536 then 1 else ax_w32 (1 + 16)) : Int) + 8)))]) (st' := [.inl ((if ax_iand (ax_ixor x0 (-1)) (ax_w32 (x0 - 1)) ≤ 65536 then ax_iand (ax_ixor x0 (-1)) (ax_w32 (x0 - 1)) else ax_iushr (ax_iand (ax_ixor x0 (-1)) (ax_w32 (x0 - 1))) 16) : Int)]) (h1 := hp L s c e) rfl ?_
          refine RuP.step (pc' := 47) (ls' := [some (.inl ((if ax_iand (ax_ixor x0 (-1)) (ax_w32 (x0 - 1)) ≤ 65536 then ax_iand (ax_ixor x0 (-1)) (ax_w32 (x0 - 1)) else ax_iushr (ax_iand (ax_ixor x0 (-1)) (ax_w32 (x0 - 1))) 16) : Int)), some (.inl (ax_w32 (((if ax_iand (ax_ixor x0 (-1)) (ax_w32 (x0 - 1)) ≤ 65536 then 1 else ax_w32 (1 + 16)) : Int) + 8)))]) (st' := [.inl 8, .inl ((if ax_iand (ax_ixor x0 (-1)) (ax_w32 (x0 - 1)) ≤ 65536 then ax_iand (ax_ixor x0 (-1)) (ax_w32 (x0 - 1)) else ax_iushr (ax_iand (ax_ixor x0 (-1)) (ax_w32 (x0 - 1))) 16) : Int)]) (h1 := hp L s c e) rfl ?_
          refine RuP.step (pc' := 48) (ls' := [some (.inl ((if ax_iand (ax_ixor x0 (-1)) (ax_w32 (x0 - 1)) ≤ 65536 then ax_iand (ax_ixor x0 (-1)) (ax_w32 (x0 - 1)) else ax_iushr (ax_iand (ax_ixor x0 (-1)) (ax_w32 (x0 - 1))) 16) : Int)), some (.inl (ax_w32 (((if ax_iand (ax_ixor x0 (-1)) (ax_w32 (x0 - 1)) ≤ 65536 then 1 else ax_w32 (1 + 16)) : Int) + 8)))]) (st' := [.inl (ax_iushr ((if ax_iand (ax_ixor x0 (-1)) (ax_w32 (x0 - 1)) ≤ 65536 then ax_iand (ax_ixor x0 (-1)) (ax_w32 (x0 - 1)) else ax_iushr (ax_iand (ax_ixor x0 (-1)) (ax_w32 (x0 - 1))) 16) : Int) 8)]) (h1 := hp L s c e) rfl ?_
          refine RuP.step (pc' := 49) (ls' := [some (.inl (ax_iushr ((if ax_iand (ax_ixor x0 (-1)) (ax_w32 (x0 - 1)) ≤ 65536 then ax_iand (ax_ixor x0 (-1)) (ax_w32 (x0 - 1)) else ax_iushr (ax_iand (ax_ixor x0 (-1)) (ax_w32 (x0 - 1))) 16) : Int) 8)), some (.inl (ax_w32 (((if ax_iand (ax_ixor x0 (-1)) (ax_w32 (x0 - 1)) ≤ 65536 then 1 else ax_w32 (1 + 16)) : Int) + 8)))]) (st' := []) (h1 := hp L s c e) rfl ?_
          exact J3 _ (by simp only [if_neg h6]) _ (by simp only [if_neg h6])
      by_cases h7 : ax_iand (ax_ixor x0 (-1)) (ax_w32 (x0 - 1)) ≤ 65536
      · refine RuP.jy rfl h7 ?_
        exact J2 _ (by simp only [if_pos h7]) _ (by simp only [if_pos h7])
      · refine RuP.jn rfl h7 ?_
        refine RuP.step (pc' := 29) (ls' := [some (.inl (ax_iand (ax_ixor x0 (-1)) (ax_w32 (x0 - 1)))), some (.inl (ax_w32 (1 + 16)))]) (st' := []) (h1 := hp L s c e) rfl ?_
        refine RuP.step (pc' := 30) (ls' := [some (.inl (ax_iand (ax_ixor x0 (-1)) (ax_w32 (x0 - 1)))), some (.inl (ax_w32 (1 + 16)))]) (st' := [.inl (ax_iand (ax_ixor x0 (-1)) (ax_w32 (x0 - 1)))]) (h1 := hp L s c e) rfl ?_
        refine RuP.step (pc' := 32) (ls' := [some (.inl (ax_iand (ax_ixor x0 (-1)) (ax_w32 (x0 - 1)))), some (.inl (ax_w32 (1 + 16)))]) (st' := [.inl 16, .inl (ax_iand (ax_ixor x0 (-1)) (ax_w32 (x0 - 1)))]) (h1 := hp L s c e) rfl ?_
        refine RuP.step (pc' := 33) (ls' := [some (.inl (ax_iand (ax_ixor x0 (-1)) (ax_w32 (x0 - 1)))), some (.inl (ax_w32 (1 + 16)))]) (st' := [.inl (ax_iushr (ax_iand (ax_ixor x0 (-1)) (ax_w32 (x0 - 1))) 16)]) (h1 := hp L s c e) rfl ?_
        refine RuP.step (pc' := 34) (ls' := [some (.inl (ax_iushr (ax_iand (ax_ixor x0 (-1)) (ax_w32 (x0 - 1))) 16)), some (.inl (ax_w32 (1 + 16)))]) (st' := []) (h1 := hp L s c e) rfl ?_
        exact J2 _ (by simp only [if_neg h7]) _ (by simp only [if_neg h7])
    · rw [if_neg h0] at h
      refine RuP.jn rfl h0 ?_
      refine RuP.step (pc' := 13) (ls' := [some (.inl (ax_iand (ax_ixor x0 (-1)) (ax_w32 (x0 - 1)))), none]) (st' := [.inl (ax_iand (ax_ixor x0 (-1)) (ax_w32 (x0 - 1)))]) (h1 := hp L s c e) rfl ?_
      refine RuP.step (pc' := 15) (ls' := [some (.inl (ax_iand (ax_ixor x0 (-1)) (ax_w32 (x0 - 1)))), none]) (st' := [.inl 32, .inl (ax_iand (ax_ixor x0 (-1)) (ax_w32 (x0 - 1)))]) (h1 := hp L s c e) rfl ?_
      refine RuP.step (pc' := 16) (ls' := [some (.inl (ax_iand (ax_ixor x0 (-1)) (ax_w32 (x0 - 1)))), none]) (st' := [.inl (ax_iand (ax_iand (ax_ixor x0 (-1)) (ax_w32 (x0 - 1))) 32)]) (h1 := hp L s c e) rfl ?_
      subst h
      exact RuP.dI rfl
  exact EvP.of (μ := tb_m295) (ls := [some (.inl x0), none]) rfl (Nat.le_of_ble_eq_true rfl) rfl (key _ rfl)
/-- java/lang/StringLatin1.canEncode(I)Z -/
def f_298 (x0 : Int) (s : Sg) : Int :=
  (if x0 < 0 then
    0
  else
    (if 255 < x0 then
      0
    else
      1))
theorem ev_298 {L c : Nat} {e : Nat → Nat} {s : Sg} (x0 : Int) : EvP 1 298 [.inl x0] (hp L s c e) (oI L c e (f_298 x0 s, s)) := by
  have key : ∀ q, f_298 x0 s = q → RuP 0 tb_m298 0 [some (.inl x0)] [] (hp L s c e) (oI L c e (q, s)) := by
    intro q h
    unfold f_298 at h
    refine RuP.step (pc' := 1) (ls' := [some (.inl x0)]) (st' := [.inl x0]) (h1 := hp L s c e) rfl ?_
    by_cases h0 : x0 < 0
    · rw [if_pos h0] at h
      refine RuP.jy rfl h0 ?_
      refine RuP.step (pc' := 16) (ls' := [some (.inl x0)]) (st' := [.inl 0]) (h1 := hp L s c e) rfl ?_
      subst h
      exact RuP.dI rfl
    · rw [if_neg h0] at h
      refine RuP.jn rfl h0 ?_
      refine RuP.step (pc' := 5) (ls' := [some (.inl x0)]) (st' := [.inl x0]) (h1 := hp L s c e) rfl ?_
      refine RuP.step (pc' := 8) (ls' := [some (.inl x0)]) (st' := [.inl 255, .inl x0]) (h1 := hp L s c e) rfl ?_
      by_cases h1 : 255 < x0
      · rw [if_pos h1] at h
        refine RuP.jy rfl h1 ?_
        refine RuP.step (pc' := 16) (ls' := [some (.inl x0)]) (st' := [.inl 0]) (h1 := hp L s c e) rfl ?_
        subst h
        exact RuP.dI rfl
      · rw [if_neg h1] at h
        refine RuP.jn rfl h1 ?_
        refine RuP.step (pc' := 12) (ls' := [some (.inl x0)]) (st' := [.inl 1]) (h1 := hp L s c e) rfl ?_
        refine RuP.step (pc' := 16) (ls' := [some (.inl x0)]) (st' := [.inl 1]) (h1 := hp L s c e) rfl ?_
        subst h
        exact RuP.dI rfl
  exact EvP.of (μ := tb_m298) (ls := [some (.inl x0)]) rfl (Nat.le_of_ble_eq_true rfl) rfl (key _ rfl)
/-- MachineText.feed(IIII)I -/
noncomputable def f_2 (x0 x1 x2 x3 : Int) (s : Sg) : Option (Sum (Int × Sg) (Nat × Sg)) :=
  (if ax_w32 ((s 27 1) + 16) ≤ 8192 then
    ((f_13 x0 s).bind fun q1 =>
    ((f_13 x1 q1).bind fun q2 =>
    ((f_13 x2 q2).bind fun q3 =>
    ((f_13 x3 q3).bind fun q4 =>
    some (.inl (q4 27 1, q4))))))
  else
    some (.inr (14, s)))
theorem ev_2 {L c : Nat} {e : Nat → Nat} {s : Sg} {x0 x1 x2 x3 : Int} {q : Sum (Int × Sg) (Nat × Sg)} (h : f_2 x0 x1 x2 x3 s = some q) : EvP 2 2 [.inr (.inr (some 27)), .inl x0, .inl x1, .inl x2, .inl x3] (hp L s c e) (oX L c (oI L c e) q) := by
  unfold f_2 at h
  refine EvP.of (μ := tb_m2) (ls := [some (.inr (.inr (some 27))), some (.inl x0), some (.inl x1), some (.inl x2), some (.inl x3)]) rfl (Nat.le_of_ble_eq_true rfl) rfl ?_
  refine RuP.step (pc' := 1) (ls' := [some (.inr (.inr (some 27))), some (.inl x0), some (.inl x1), some (.inl x2), some (.inl x3)]) (st' := [.inr (.inr (some 27))]) (h1 := hp L s c e) rfl ?_
  refine RuP.step (pc' := 4) (ls' := [some (.inr (.inr (some 27))), some (.inl x0), some (.inl x1), some (.inl x2), some (.inl x3)]) (st' := [.inl (s 27 1)]) (h1 := hp L s c e) rfl ?_
  refine RuP.step (pc' := 6) (ls' := [some (.inr (.inr (some 27))), some (.inl x0), some (.inl x1), some (.inl x2), some (.inl x3)]) (st' := [.inl 16, .inl (s 27 1)]) (h1 := hp L s c e) rfl ?_
  refine RuP.step (pc' := 7) (ls' := [some (.inr (.inr (some 27))), some (.inl x0), some (.inl x1), some (.inl x2), some (.inl x3)]) (st' := [.inl (ax_w32 ((s 27 1) + 16))]) (h1 := hp L s c e) rfl ?_
  refine RuP.step (pc' := 10) (ls' := [some (.inr (.inr (some 27))), some (.inl x0), some (.inl x1), some (.inl x2), some (.inl x3)]) (st' := [.inl 8192, .inl (ax_w32 ((s 27 1) + 16))]) (h1 := hp L s c e) rfl ?_
  by_cases h0 : ax_w32 ((s 27 1) + 16) ≤ 8192
  · rw [if_pos h0] at h
    refine RuP.jy rfl h0 ?_
    refine RuP.step (pc' := 24) (ls' := [some (.inr (.inr (some 27))), some (.inl x0), some (.inl x1), some (.inl x2), some (.inl x3)]) (st' := [.inr (.inr (some 27))]) (h1 := hp L s c e) rfl ?_
    refine RuP.step (pc' := 25) (ls' := [some (.inr (.inr (some 27))), some (.inl x0), some (.inl x1), some (.inl x2), some (.inl x3)]) (st' := [.inl x0, .inr (.inr (some 27))]) (h1 := hp L s c e) rfl ?_
    obtain ⟨q1, h1, h⟩ := bd_some h
    refine RuP.cV rfl ((ev_13 h1).up (by decide)) ?_
    refine RuP.step (pc' := 29) (ls' := [some (.inr (.inr (some 27))), some (.inl x0), some (.inl x1), some (.inl x2), some (.inl x3)]) (st' := [.inr (.inr (some 27))]) (h1 := hp L q1 c e) rfl ?_
    refine RuP.step (pc' := 30) (ls' := [some (.inr (.inr (some 27))), some (.inl x0), some (.inl x1), some (.inl x2), some (.inl x3)]) (st' := [.inl x1, .inr (.inr (some 27))]) (h1 := hp L q1 c e) rfl ?_
    obtain ⟨q2, h1, h⟩ := bd_some h
    refine RuP.cV rfl ((ev_13 h1).up (by decide)) ?_
    refine RuP.step (pc' := 34) (ls' := [some (.inr (.inr (some 27))), some (.inl x0), some (.inl x1), some (.inl x2), some (.inl x3)]) (st' := [.inr (.inr (some 27))]) (h1 := hp L q2 c e) rfl ?_
    refine RuP.step (pc' := 35) (ls' := [some (.inr (.inr (some 27))), some (.inl x0), some (.inl x1), some (.inl x2), some (.inl x3)]) (st' := [.inl x2, .inr (.inr (some 27))]) (h1 := hp L q2 c e) rfl ?_
    obtain ⟨q3, h1, h⟩ := bd_some h
    refine RuP.cV rfl ((ev_13 h1).up (by decide)) ?_
    refine RuP.step (pc' := 39) (ls' := [some (.inr (.inr (some 27))), some (.inl x0), some (.inl x1), some (.inl x2), some (.inl x3)]) (st' := [.inr (.inr (some 27))]) (h1 := hp L q3 c e) rfl ?_
    refine RuP.step (pc' := 41) (ls' := [some (.inr (.inr (some 27))), some (.inl x0), some (.inl x1), some (.inl x2), some (.inl x3)]) (st' := [.inl x3, .inr (.inr (some 27))]) (h1 := hp L q3 c e) rfl ?_
    obtain ⟨q4, h1, h⟩ := bd_some h
    refine RuP.cV rfl ((ev_13 h1).up (by decide)) ?_
    refine RuP.step (pc' := 45) (ls' := [some (.inr (.inr (some 27))), some (.inl x0), some (.inl x1), some (.inl x2), some (.inl x3)]) (st' := [.inr (.inr (some 27))]) (h1 := hp L q4 c e) rfl ?_
    refine RuP.step (pc' := 48) (ls' := [some (.inr (.inr (some 27))), some (.inl x0), some (.inl x1), some (.inl x2), some (.inl x3)]) (st' := [.inl (q4 27 1)]) (h1 := hp L q4 c e) rfl ?_
    cases h
    exact RuP.dI rfl
  · rw [if_neg h0] at h
    refine RuP.jn rfl h0 ?_
    cases h
    exact RuP.thr (m := 6) (p2 := 19) rfl (fun _ => rfl) (fun _ => rfl) (fun _ _ => rfl) (Nat.le_of_ble_eq_true rfl) rfl rfl
/-- MachineText.fault(I)I -/
noncomputable def f_5 (x0 : Int) (s : Sg) : Option (Sum (Int × Sg) (Nat × Sg)) :=
  (if ¬ x0 = 0 then
    (if ¬ x0 = 1 then
      some (.inr (16, s))
    else
      ((f_69 s).bind fun q1 =>
      some (.inl (q1, s))))
  else
    ((f_68 s).bind fun q2 =>
    some (.inl (q2, s))))
theorem ev_5 {L c : Nat} {e : Nat → Nat} {s : Sg} {x0 : Int} {q : Sum (Int × Sg) (Nat × Sg)} (h : f_5 x0 s = some q) : EvP 2 5 [.inr (.inr (some 27)), .inl x0] (hp L s c e) (oX L c (oI L c e) q) := by
  unfold f_5 at h
  refine EvP.of (μ := tb_m5) (ls := [some (.inr (.inr (some 27))), some (.inl x0)]) rfl (Nat.le_of_ble_eq_true rfl) rfl ?_
  refine RuP.step (pc' := 1) (ls' := [some (.inr (.inr (some 27))), some (.inl x0)]) (st' := [.inl x0]) (h1 := hp L s c e) rfl ?_
  by_cases h0 : ¬ x0 = 0
  · rw [if_pos h0] at h
    refine RuP.jy rfl h0 ?_
    refine RuP.step (pc' := 13) (ls' := [some (.inr (.inr (some 27))), some (.inl x0)]) (st' := [.inl x0]) (h1 := hp L s c e) rfl ?_
    refine RuP.step (pc' := 14) (ls' := [some (.inr (.inr (some 27))), some (.inl x0)]) (st' := [.inl 1, .inl x0]) (h1 := hp L s c e) rfl ?_
    by_cases h1 : ¬ x0 = 1
    · rw [if_pos h1] at h
      refine RuP.jy rfl h1 ?_
      cases h
      exact RuP.thr (m := 18) (p2 := 31) rfl (fun _ => rfl) (fun _ => rfl) (fun _ _ => rfl) (Nat.le_of_ble_eq_true rfl) rfl rfl
    · rw [if_neg h1] at h
      refine RuP.jn rfl h1 ?_
      refine RuP.step (pc' := 18) (ls' := [some (.inr (.inr (some 27))), some (.inl x0)]) (st' := [.inr (.inr (some 27))]) (h1 := hp L s c e) rfl ?_
      refine RuP.step (pc' := 21) (ls' := [some (.inr (.inr (some 27))), some (.inl x0)]) (st' := [.inr (.inr (some 29))]) (h1 := hp L s c e) rfl ?_
      obtain ⟨q1, h1, h⟩ := bd_some h
      refine RuP.cI rfl ((ev_69 h1).up (by decide)) ?_
      cases h
      exact RuP.dI rfl
  · rw [if_neg h0] at h
    refine RuP.jn rfl h0 ?_
    refine RuP.step (pc' := 5) (ls' := [some (.inr (.inr (some 27))), some (.inl x0)]) (st' := [.inr (.inr (some 27))]) (h1 := hp L s c e) rfl ?_
    refine RuP.step (pc' := 8) (ls' := [some (.inr (.inr (some 27))), some (.inl x0)]) (st' := [.inr (.inr (some 29))]) (h1 := hp L s c e) rfl ?_
    obtain ⟨q2, h1, h⟩ := bd_some h
    refine RuP.cI rfl ((ev_68 h1).up (by decide)) ?_
    cases h
    exact RuP.dI rfl
/-- MachineText.bits(II)J -/
noncomputable def j_7_20 (s : Sg) : Option (Sum (Int × Sg) (Nat × Sg)) :=
  some (.inr (16, s))
theorem bl_7_20 {L c : Nat} {e : Nat → Nat} : ∀ (z1 z2 : Int) (s : Sg) (q : Sum (Int × Sg) (Nat × Sg)), j_7_20 s = some q → RuP 2 tb_m7 20 [some (.inr (.inr (some 27))), some (.inl z1), some (.inl z2)] [] (hp L s c e) (oX L c (oJ L c e) q) := by
  intro z1 z2 s q h
  unfold j_7_20 at h
  cases h
  exact RuP.thr (m := 19) (p2 := 26) rfl (fun _ => rfl) (fun _ => rfl) (fun _ _ => rfl) (Nat.le_of_ble_eq_true rfl) rfl rfl
noncomputable def f_7 (x0 x1 : Int) (s : Sg) : Option (Sum (Int × Sg) (Nat × Sg)) :=
  (if f_181 x0 s = 0 then
    j_7_20 s
  else
    (if x1 < 0 then
      j_7_20 s
    else
      (if x1 ≤ 1 then
        (gd (g_182 x0 s) (
        (if f_182 x0 s = 3 then
          (gd (g_187 x0 s) (
          ((f_75 (ax_w32 ((f_187 x0 s) + 1)) ((if ¬ x1 = 0 then 0 else 1) : Int) s).bind fun q1 =>
          some (.inl (q1, s)))))
        else
          some (.inr (14, s)))))
      else
        j_7_20 s)))
theorem ev_7 {L c : Nat} {e : Nat → Nat} {s : Sg} {x0 x1 : Int} {q : Sum (Int × Sg) (Nat × Sg)} (h : f_7 x0 x1 s = some q) : EvP 3 7 [.inr (.inr (some 27)), .inl x0, .inl x1] (hp L s c e) (oX L c (oJ L c e) q) := by
  unfold f_7 at h
  refine EvP.of (μ := tb_m7) (ls := [some (.inr (.inr (some 27))), some (.inl x0), some (.inl x1)]) rfl (Nat.le_of_ble_eq_true rfl) rfl ?_
  refine RuP.step (pc' := 1) (ls' := [some (.inr (.inr (some 27))), some (.inl x0), some (.inl x1)]) (st' := [.inr (.inr (some 27))]) (h1 := hp L s c e) rfl ?_
  refine RuP.step (pc' := 4) (ls' := [some (.inr (.inr (some 27))), some (.inl x0), some (.inl x1)]) (st' := [.inr (.inr (some 54))]) (h1 := hp L s c e) rfl ?_
  refine RuP.step (pc' := 5) (ls' := [some (.inr (.inr (some 27))), some (.inl x0), some (.inl x1)]) (st' := [.inl x0, .inr (.inr (some 54))]) (h1 := hp L s c e) rfl ?_
  refine RuP.cI rfl (EvP.i ((ev_181 x0).up (by decide))) ?_
  by_cases h0 : f_181 x0 s = 0
  · rw [if_pos h0] at h
    refine RuP.jy rfl h0 ?_
    exact bl_7_20 _ _ _ _ h
  · rw [if_neg h0] at h
    refine RuP.jn rfl h0 ?_
    refine RuP.step (pc' := 12) (ls' := [some (.inr (.inr (some 27))), some (.inl x0), some (.inl x1)]) (st' := [.inl x1]) (h1 := hp L s c e) rfl ?_
    by_cases h1 : x1 < 0
    · rw [if_pos h1] at h
      refine RuP.jy rfl h1 ?_
      exact bl_7_20 _ _ _ _ h
    · rw [if_neg h1] at h
      refine RuP.jn rfl h1 ?_
      refine RuP.step (pc' := 16) (ls' := [some (.inr (.inr (some 27))), some (.inl x0), some (.inl x1)]) (st' := [.inl x1]) (h1 := hp L s c e) rfl ?_
      refine RuP.step (pc' := 17) (ls' := [some (.inr (.inr (some 27))), some (.inl x0), some (.inl x1)]) (st' := [.inl 1, .inl x1]) (h1 := hp L s c e) rfl ?_
      by_cases h2 : x1 ≤ 1
      · rw [if_pos h2] at h
        refine RuP.jy rfl h2 ?_
        refine RuP.step (pc' := 31) (ls' := [some (.inr (.inr (some 27))), some (.inl x0), some (.inl x1)]) (st' := [.inr (.inr (some 27))]) (h1 := hp L s c e) rfl ?_
        refine RuP.step (pc' := 34) (ls' := [some (.inr (.inr (some 27))), some (.inl x0), some (.inl x1)]) (st' := [.inr (.inr (some 54))]) (h1 := hp L s c e) rfl ?_
        refine RuP.step (pc' := 35) (ls' := [some (.inr (.inr (some 27))), some (.inl x0), some (.inl x1)]) (st' := [.inl x0, .inr (.inr (some 54))]) (h1 := hp L s c e) rfl ?_
        obtain ⟨b3, h⟩ := gd_some h
        refine RuP.cI rfl (EvP.i ((ev_182 x0 b3).up (by decide))) ?_
        refine RuP.step (pc' := 39) (ls' := [some (.inr (.inr (some 27))), some (.inl x0), some (.inl x1)]) (st' := [.inl 3, .inl (f_182 x0 s)]) (h1 := hp L s c e) rfl ?_
        by_cases h4 : f_182 x0 s = 3
        · rw [if_pos h4] at h
          refine RuP.jy rfl h4 ?_
          refine RuP.step (pc' := 53) (ls' := [some (.inr (.inr (some 27))), some (.inl x0), some (.inl x1)]) (st' := [.inr (.inr (some 27))]) (h1 := hp L s c e) rfl ?_
          refine RuP.step (pc' := 56) (ls' := [some (.inr (.inr (some 27))), some (.inl x0), some (.inl x1)]) (st' := [.inr (.inr (some 39))]) (h1 := hp L s c e) rfl ?_
          refine RuP.step (pc' := 57) (ls' := [some (.inr (.inr (some 27))), some (.inl x0), some (.inl x1)]) (st' := [.inr (.inr (some 27)), .inr (.inr (some 39))]) (h1 := hp L s c e) rfl ?_
          refine RuP.step (pc' := 60) (ls' := [some (.inr (.inr (some 27))), some (.inl x0), some (.inl x1)]) (st' := [.inr (.inr (some 54)), .inr (.inr (some 39))]) (h1 := hp L s c e) rfl ?_
          refine RuP.step (pc' := 61) (ls' := [some (.inr (.inr (some 27))), some (.inl x0), some (.inl x1)]) (st' := [.inl x0, .inr (.inr (some 54)), .inr (.inr (some 39))]) (h1 := hp L s c e) rfl ?_
          obtain ⟨b5, h⟩ := gd_some h
          refine RuP.cI rfl (EvP.i ((ev_187 x0 b5).up (by decide))) ?_
          refine RuP.step (pc' := 65) (ls' := [some (.inr (.inr (some 27))), some (.inl x0), some (.inl x1)]) (st' := [.inl 1, .inl (f_187 x0 s), .inr (.inr (some 39))]) (h1 := hp L s c e) rfl ?_
          refine RuP.step (pc' := 66) (ls' := [some (.inr (.inr (some 27))), some (.inl x0), some (.inl x1)]) (st' := [.inl (ax_w32 ((f_187 x0 s) + 1)), .inr (.inr (some 39))]) (h1 := hp L s c e) rfl ?_
          refine RuP.step (pc' := 67) (ls' := [some (.inr (.inr (some 27))), some (.inl x0), some (.inl x1)]) (st' := [.inl x1, .inl (ax_w32 ((f_187 x0 s) + 1)), .inr (.inr (some 39))]) (h1 := hp L s c e) rfl ?_
          have J7 : ∀ v6_0 : Int, v6_0 = ((if ¬ x1 = 0 then 0 else 1) : Int) → RuP 2 tb_m7 75 [some (.inr (.inr (some 27))), some (.inl x0), some (.inl x1)] [.inl v6_0, .inl (ax_w32 ((f_187 x0 s) + 1)), .inr (.inr (some 39))] (hp L s c e) (oX L c (oJ L c e) q) := by
            intro v6_0 ev6_0
            subst ev6_0
            obtain ⟨q1, h1, h⟩ := bd_some h
            refine RuP.cJ rfl ((ev_75 h1).up (by decide)) ?_
            cases h
            exact RuP.dJ rfl
          by_cases h7 : ¬ x1 = 0
          · refine RuP.jy rfl h7 ?_
            refine RuP.step (pc' := 75) (ls' := [some (.inr (.inr (some 27))), some (.inl x0), some (.inl x1)]) (st' := [.inl 0, .inl (ax_w32 ((f_187 x0 s) + 1)), .inr (.inr (some 39))]) (h1 := hp L s c e) rfl ?_
            exact J7 _ (by simp only [if_pos h7])
          · refine RuP.jn rfl h7 ?_
            refine RuP.step (pc' := 71) (ls' := [some (.inr (.inr (some 27))), some (.inl x0), some (.inl x1)]) (st' := [.inl 1, .inl (ax_w32 ((f_187 x0 s) + 1)), .inr (.inr (some 39))]) (h1 := hp L s c e) rfl ?_
            refine RuP.step (pc' := 75) (ls' := [some (.inr (.inr (some 27))), some (.inl x0), some (.inl x1)]) (st' := [.inl 1, .inl (ax_w32 ((f_187 x0 s) + 1)), .inr (.inr (some 39))]) (h1 := hp L s c e) rfl ?_
            exact J7 _ (by simp only [if_neg h7])
        · rw [if_neg h4] at h
          refine RuP.jn rfl h4 ?_
          cases h
          exact RuP.thr (m := 20) (p2 := 48) rfl (fun _ => rfl) (fun _ => rfl) (fun _ _ => rfl) (Nat.le_of_ble_eq_true rfl) rfl rfl
      · rw [if_neg h2] at h
        refine RuP.jn rfl h2 ?_
        exact bl_7_20 _ _ _ _ h
/-- MachineText.node(II)I -/
noncomputable def j_8_22 (s : Sg) : Option (Sum (Int × Sg) (Nat × Sg)) :=
  some (.inr (16, s))
theorem bl_8_22 {L c : Nat} {e : Nat → Nat} : ∀ (z1 z2 : Int) (s : Sg) (q : Sum (Int × Sg) (Nat × Sg)), j_8_22 s = some q → RuP 3 tb_m8 22 [some (.inr (.inr (some 27))), some (.inl z1), some (.inl z2)] [] (hp L s c e) (oX L c (oI L c e) q) := by
  intro z1 z2 s q h
  unfold j_8_22 at h
  cases h
  exact RuP.thr (m := 21) (p2 := 28) rfl (fun _ => rfl) (fun _ => rfl) (fun _ _ => rfl) (Nat.le_of_ble_eq_true rfl) rfl rfl
noncomputable def f_8 (x0 x1 : Int) (s : Sg) : Option (Sum (Int × Sg) (Nat × Sg)) :=
  (if f_114 x0 s = 0 then
    j_8_22 s
  else
    (if x1 < (-1) then
      j_8_22 s
    else
      (if x1 ≤ 6 then
        (if x1 = (-1) then
          (gd (g_115 x0 s) (
          some (.inl (f_115 x0 s, s))))
        else
        (if x1 = 0 then
          (gd (g_116 x0 s) (
          some (.inl (f_116 x0 s, s))))
        else
        (if x1 = 1 then
          (gd (g_117 x0 s) (
          some (.inl (f_117 x0 s, s))))
        else
        (if x1 = 2 then
          (gd (g_118 x0 s) (
          some (.inl (f_118 x0 s, s))))
        else
          ((f_119 x0 (ax_w32 (x1 - 3)) s).bind fun q1 =>
          some (.inl (q1, s)))))))
      else
        j_8_22 s)))
theorem ev_8 {L c : Nat} {e : Nat → Nat} {s : Sg} {x0 x1 : Int} {q : Sum (Int × Sg) (Nat × Sg)} (h : f_8 x0 x1 s = some q) : EvP 4 8 [.inr (.inr (some 27)), .inl x0, .inl x1] (hp L s c e) (oX L c (oI L c e) q) := by
  unfold f_8 at h
  refine EvP.of (μ := tb_m8) (ls := [some (.inr (.inr (some 27))), some (.inl x0), some (.inl x1)]) rfl (Nat.le_of_ble_eq_true rfl) rfl ?_
  refine RuP.step (pc' := 1) (ls' := [some (.inr (.inr (some 27))), some (.inl x0), some (.inl x1)]) (st' := [.inr (.inr (some 27))]) (h1 := hp L s c e) rfl ?_
  refine RuP.step (pc' := 4) (ls' := [some (.inr (.inr (some 27))), some (.inl x0), some (.inl x1)]) (st' := [.inr (.inr (some 46))]) (h1 := hp L s c e) rfl ?_
  refine RuP.step (pc' := 5) (ls' := [some (.inr (.inr (some 27))), some (.inl x0), some (.inl x1)]) (st' := [.inl x0, .inr (.inr (some 46))]) (h1 := hp L s c e) rfl ?_
  refine RuP.cI rfl (EvP.i ((ev_114 x0).up (by decide))) ?_
  by_cases h0 : f_114 x0 s = 0
  · rw [if_pos h0] at h
    refine RuP.jy rfl h0 ?_
    exact bl_8_22 _ _ _ _ h
  · rw [if_neg h0] at h
    refine RuP.jn rfl h0 ?_
    refine RuP.step (pc' := 12) (ls' := [some (.inr (.inr (some 27))), some (.inl x0), some (.inl x1)]) (st' := [.inl x1]) (h1 := hp L s c e) rfl ?_
    refine RuP.step (pc' := 13) (ls' := [some (.inr (.inr (some 27))), some (.inl x0), some (.inl x1)]) (st' := [.inl (-1), .inl x1]) (h1 := hp L s c e) rfl ?_
    by_cases h1 : x1 < (-1)
    · rw [if_pos h1] at h
      refine RuP.jy rfl h1 ?_
      exact bl_8_22 _ _ _ _ h
    · rw [if_neg h1] at h
      refine RuP.jn rfl h1 ?_
      refine RuP.step (pc' := 17) (ls' := [some (.inr (.inr (some 27))), some (.inl x0), some (.inl x1)]) (st' := [.inl x1]) (h1 := hp L s c e) rfl ?_
      refine RuP.step (pc' := 19) (ls' := [some (.inr (.inr (some 27))), some (.inl x0), some (.inl x1)]) (st' := [.inl 6, .inl x1]) (h1 := hp L s c e) rfl ?_
      by_cases h2 : x1 ≤ 6
      · rw [if_pos h2] at h
        refine RuP.jy rfl h2 ?_
        refine RuP.step (pc' := 33) (ls' := [some (.inr (.inr (some 27))), some (.inl x0), some (.inl x1)]) (st' := [.inl x1]) (h1 := hp L s c e) rfl ?_
        by_cases h3 : x1 = (-1)
        · rw [if_pos h3] at h
          have J4 : RuP 3 tb_m8 64 [some (.inr (.inr (some 27))), some (.inl x0), some (.inl x1)] [] (hp L s c e) (oX L c (oI L c e) q) := by
            refine RuP.step (pc' := 65) (ls' := [some (.inr (.inr (some 27))), some (.inl x0), some (.inl x1)]) (st' := [.inr (.inr (some 27))]) (h1 := hp L s c e) rfl ?_
            refine RuP.step (pc' := 68) (ls' := [some (.inr (.inr (some 27))), some (.inl x0), some (.inl x1)]) (st' := [.inr (.inr (some 46))]) (h1 := hp L s c e) rfl ?_
            refine RuP.step (pc' := 69) (ls' := [some (.inr (.inr (some 27))), some (.inl x0), some (.inl x1)]) (st' := [.inl x0, .inr (.inr (some 46))]) (h1 := hp L s c e) rfl ?_
            obtain ⟨b4, h⟩ := gd_some h
            refine RuP.cI rfl (EvP.i ((ev_115 x0 b4).up (by decide))) ?_
            cases h
            exact RuP.dI rfl
          exact RuP.sw (i := .tableswitch (67) (-1) (2) #[31, 40, 49, 58]) rfl h3 rfl J4
        rw [if_neg h3] at h
        by_cases h5 : x1 = 0
        · rw [if_pos h5] at h
          have J6 : RuP 3 tb_m8 73 [some (.inr (.inr (some 27))), some (.inl x0), some (.inl x1)] [] (hp L s c e) (oX L c (oI L c e) q) := by
            refine RuP.step (pc' := 74) (ls' := [some (.inr (.inr (some 27))), some (.inl x0), some (.inl x1)]) (st' := [.inr (.inr (some 27))]) (h1 := hp L s c e) rfl ?_
            refine RuP.step (pc' := 77) (ls' := [some (.inr (.inr (some 27))), some (.inl x0), some (.inl x1)]) (st' := [.inr (.inr (some 46))]) (h1 := hp L s c e) rfl ?_
            refine RuP.step (pc' := 78) (ls' := [some (.inr (.inr (some 27))), some (.inl x0), some (.inl x1)]) (st' := [.inl x0, .inr (.inr (some 46))]) (h1 := hp L s c e) rfl ?_
            obtain ⟨b6, h⟩ := gd_some h
            refine RuP.cI rfl (EvP.i ((ev_116 x0 b6).up (by decide))) ?_
            cases h
            exact RuP.dI rfl
          exact RuP.sw (i := .tableswitch (67) (-1) (2) #[31, 40, 49, 58]) rfl h5 rfl J6
        rw [if_neg h5] at h
        by_cases h7 : x1 = 1
        · rw [if_pos h7] at h
          have J8 : RuP 3 tb_m8 82 [some (.inr (.inr (some 27))), some (.inl x0), some (.inl x1)] [] (hp L s c e) (oX L c (oI L c e) q) := by
            refine RuP.step (pc' := 83) (ls' := [some (.inr (.inr (some 27))), some (.inl x0), some (.inl x1)]) (st' := [.inr (.inr (some 27))]) (h1 := hp L s c e) rfl ?_
            refine RuP.step (pc' := 86) (ls' := [some (.inr (.inr (some 27))), some (.inl x0), some (.inl x1)]) (st' := [.inr (.inr (some 46))]) (h1 := hp L s c e) rfl ?_
            refine RuP.step (pc' := 87) (ls' := [some (.inr (.inr (some 27))), some (.inl x0), some (.inl x1)]) (st' := [.inl x0, .inr (.inr (some 46))]) (h1 := hp L s c e) rfl ?_
            obtain ⟨b8, h⟩ := gd_some h
            refine RuP.cI rfl (EvP.i ((ev_117 x0 b8).up (by decide))) ?_
            cases h
            exact RuP.dI rfl
          exact RuP.sw (i := .tableswitch (67) (-1) (2) #[31, 40, 49, 58]) rfl h7 rfl J8
        rw [if_neg h7] at h
        by_cases h9 : x1 = 2
        · rw [if_pos h9] at h
          have J10 : RuP 3 tb_m8 91 [some (.inr (.inr (some 27))), some (.inl x0), some (.inl x1)] [] (hp L s c e) (oX L c (oI L c e) q) := by
            refine RuP.step (pc' := 92) (ls' := [some (.inr (.inr (some 27))), some (.inl x0), some (.inl x1)]) (st' := [.inr (.inr (some 27))]) (h1 := hp L s c e) rfl ?_
            refine RuP.step (pc' := 95) (ls' := [some (.inr (.inr (some 27))), some (.inl x0), some (.inl x1)]) (st' := [.inr (.inr (some 46))]) (h1 := hp L s c e) rfl ?_
            refine RuP.step (pc' := 96) (ls' := [some (.inr (.inr (some 27))), some (.inl x0), some (.inl x1)]) (st' := [.inl x0, .inr (.inr (some 46))]) (h1 := hp L s c e) rfl ?_
            obtain ⟨b10, h⟩ := gd_some h
            refine RuP.cI rfl (EvP.i ((ev_118 x0 b10).up (by decide))) ?_
            cases h
            exact RuP.dI rfl
          exact RuP.sw (i := .tableswitch (67) (-1) (2) #[31, 40, 49, 58]) rfl h9 rfl J10
        rw [if_neg h9] at h
        refine RuP.swd (i := .tableswitch (67) (-1) (2) #[31, 40, 49, 58]) (pc' := 100) rfl (sw_td [-1, 0, 1, 2] (by intro k hk; simp only [List.mem_cons, List.not_mem_nil, or_false] at hk; omega) (by decide) (by decide)) ?_
        refine RuP.step (pc' := 101) (ls' := [some (.inr (.inr (some 27))), some (.inl x0), some (.inl x1)]) (st' := [.inr (.inr (some 27))]) (h1 := hp L s c e) rfl ?_
        refine RuP.step (pc' := 104) (ls' := [some (.inr (.inr (some 27))), some (.inl x0), some (.inl x1)]) (st' := [.inr (.inr (some 46))]) (h1 := hp L s c e) rfl ?_
        refine RuP.step (pc' := 105) (ls' := [some (.inr (.inr (some 27))), some (.inl x0), some (.inl x1)]) (st' := [.inl x0, .inr (.inr (some 46))]) (h1 := hp L s c e) rfl ?_
        refine RuP.step (pc' := 106) (ls' := [some (.inr (.inr (some 27))), some (.inl x0), some (.inl x1)]) (st' := [.inl x1, .inl x0, .inr (.inr (some 46))]) (h1 := hp L s c e) rfl ?_
        refine RuP.step (pc' := 107) (ls' := [some (.inr (.inr (some 27))), some (.inl x0), some (.inl x1)]) (st' := [.inl 3, .inl x1, .inl x0, .inr (.inr (some 46))]) (h1 := hp L s c e) rfl ?_
        refine RuP.step (pc' := 108) (ls' := [some (.inr (.inr (some 27))), some (.inl x0), some (.inl x1)]) (st' := [.inl (ax_w32 (x1 - 3)), .inl x0, .inr (.inr (some 46))]) (h1 := hp L s c e) rfl ?_
        obtain ⟨q1, h1, h⟩ := bd_some h
        refine RuP.cI rfl ((ev_119 h1).up (by decide)) ?_
        cases h
        exact RuP.dI rfl
      · rw [if_neg h2] at h
        refine RuP.jn rfl h2 ?_
        exact bl_8_22 _ _ _ _ h
/-- MachineText$Checker.checkName(III)V -/
noncomputable def f_21 (x0 x1 x2 : Int) (s : Sg) : Option Sg :=
  (gd (g_26 x0 s) (
  (if ¬ (f_26 x0 s) = (-1) then
    ((f_27 (f_26 x0 s) x1 x2 s).bind fun q1 =>
    (if ¬ q1 = 0 then
      some s
    else
      (gd (g_80 x0 s) (
      (gd (g_71 7 (f_80 x0 s) s) (
      ((some (f_71 7 (f_80 x0 s) s)).bind fun q2 =>
      some q2)))))))
  else
    (gd (g_80 x0 s) (
    (gd (g_71 6 (f_80 x0 s) s) (
    ((some (f_71 6 (f_80 x0 s) s)).bind fun q3 =>
    some q3))))))))
theorem ev_21 {L c : Nat} {e : Nat → Nat} {s : Sg} {x0 x1 x2 : Int} {q : Sg} (h : f_21 x0 x1 x2 s = some q) : EvP 4 21 [.inr (.inr (some 73)), .inl x0, .inl x1, .inl x2] (hp L s c e) (oV L c e q) := by
  unfold f_21 at h
  refine EvP.of (μ := tb_m21) (ls := [some (.inr (.inr (some 73))), some (.inl x0), some (.inl x1), some (.inl x2), none]) rfl (Nat.le_of_ble_eq_true rfl) rfl ?_
  refine RuP.step (pc' := 1) (ls' := [some (.inr (.inr (some 73))), some (.inl x0), some (.inl x1), some (.inl x2), none]) (st' := [.inr (.inr (some 73))]) (h1 := hp L s c e) rfl ?_
  refine RuP.step (pc' := 2) (ls' := [some (.inr (.inr (some 73))), some (.inl x0), some (.inl x1), some (.inl x2), none]) (st' := [.inl x0, .inr (.inr (some 73))]) (h1 := hp L s c e) rfl ?_
  obtain ⟨b0, h⟩ := gd_some h
  refine RuP.cI rfl (EvP.i ((ev_26 x0 b0).up (by decide))) ?_
  refine RuP.step (pc' := 7) (ls' := [some (.inr (.inr (some 73))), some (.inl x0), some (.inl x1), some (.inl x2), some (.inl (f_26 x0 s))]) (st' := []) (h1 := hp L s c e) rfl ?_
  refine RuP.step (pc' := 9) (ls' := [some (.inr (.inr (some 73))), some (.inl x0), some (.inl x1), some (.inl x2), some (.inl (f_26 x0 s))]) (st' := [.inl (f_26 x0 s)]) (h1 := hp L s c e) rfl ?_
  refine RuP.step (pc' := 10) (ls' := [some (.inr (.inr (some 73))), some (.inl x0), some (.inl x1), some (.inl x2), some (.inl (f_26 x0 s))]) (st' := [.inl (-1), .inl (f_26 x0 s)]) (h1 := hp L s c e) rfl ?_
  by_cases h1 : ¬ (f_26 x0 s) = (-1)
  · rw [if_pos h1] at h
    refine RuP.jy rfl h1 ?_
    refine RuP.step (pc' := 34) (ls' := [some (.inr (.inr (some 73))), some (.inl x0), some (.inl x1), some (.inl x2), some (.inl (f_26 x0 s))]) (st' := [.inr (.inr (some 73))]) (h1 := hp L s c e) rfl ?_
    refine RuP.step (pc' := 36) (ls' := [some (.inr (.inr (some 73))), some (.inl x0), some (.inl x1), some (.inl x2), some (.inl (f_26 x0 s))]) (st' := [.inl (f_26 x0 s), .inr (.inr (some 73))]) (h1 := hp L s c e) rfl ?_
    refine RuP.step (pc' := 37) (ls' := [some (.inr (.inr (some 73))), some (.inl x0), some (.inl x1), some (.inl x2), some (.inl (f_26 x0 s))]) (st' := [.inl x1, .inl (f_26 x0 s), .inr (.inr (some 73))]) (h1 := hp L s c e) rfl ?_
    refine RuP.step (pc' := 38) (ls' := [some (.inr (.inr (some 73))), some (.inl x0), some (.inl x1), some (.inl x2), some (.inl (f_26 x0 s))]) (st' := [.inl x2, .inl x1, .inl (f_26 x0 s), .inr (.inr (some 73))]) (h1 := hp L s c e) rfl ?_
    obtain ⟨q1, h1, h⟩ := bd_some h
    refine RuP.cI rfl ((ev_27 h1).up (by decide)) ?_
    by_cases h2 : ¬ q1 = 0
    · rw [if_pos h2] at h
      refine RuP.jy rfl h2 ?_
      cases h
      exact RuP.dV rfl
    · rw [if_neg h2] at h
      refine RuP.jn rfl h2 ?_
      refine RuP.step (pc' := 45) (ls' := [some (.inr (.inr (some 73))), some (.inl x0), some (.inl x1), some (.inl x2), some (.inl (f_26 x0 s))]) (st' := [.inr (.inr (some 73))]) (h1 := hp L s c e) rfl ?_
      refine RuP.step (pc' := 48) (ls' := [some (.inr (.inr (some 73))), some (.inl x0), some (.inl x1), some (.inl x2), some (.inl (f_26 x0 s))]) (st' := [.inr (.inr (some 29))]) (h1 := hp L s c e) rfl ?_
      refine RuP.step (pc' := 50) (ls' := [some (.inr (.inr (some 73))), some (.inl x0), some (.inl x1), some (.inl x2), some (.inl (f_26 x0 s))]) (st' := [.inl 7, .inr (.inr (some 29))]) (h1 := hp L s c e) rfl ?_
      refine RuP.step (pc' := 51) (ls' := [some (.inr (.inr (some 73))), some (.inl x0), some (.inl x1), some (.inl x2), some (.inl (f_26 x0 s))]) (st' := [.inr (.inr (some 73)), .inl 7, .inr (.inr (some 29))]) (h1 := hp L s c e) rfl ?_
      refine RuP.step (pc' := 54) (ls' := [some (.inr (.inr (some 73))), some (.inl x0), some (.inl x1), some (.inl x2), some (.inl (f_26 x0 s))]) (st' := [.inr (.inr (some 39)), .inl 7, .inr (.inr (some 29))]) (h1 := hp L s c e) rfl ?_
      refine RuP.step (pc' := 55) (ls' := [some (.inr (.inr (some 73))), some (.inl x0), some (.inl x1), some (.inl x2), some (.inl (f_26 x0 s))]) (st' := [.inl x0, .inr (.inr (some 39)), .inl 7, .inr (.inr (some 29))]) (h1 := hp L s c e) rfl ?_
      obtain ⟨b3, h⟩ := gd_some h
      refine RuP.cI rfl (EvP.i ((ev_80 x0 b3).up (by decide))) ?_
      obtain ⟨b4, h⟩ := gd_some h
      obtain ⟨q2, h1, h⟩ := bd_some h
      refine RuP.cVe h1 rfl (EvP.v ((ev_71 7 (f_80 x0 s) b4).up (by decide))) ?_
      cases h
      exact RuP.dV rfl
  · rw [if_neg h1] at h
    refine RuP.jn rfl h1 ?_
    refine RuP.step (pc' := 14) (ls' := [some (.inr (.inr (some 73))), some (.inl x0), some (.inl x1), some (.inl x2), some (.inl (f_26 x0 s))]) (st' := [.inr (.inr (some 73))]) (h1 := hp L s c e) rfl ?_
    refine RuP.step (pc' := 17) (ls' := [some (.inr (.inr (some 73))), some (.inl x0), some (.inl x1), some (.inl x2), some (.inl (f_26 x0 s))]) (st' := [.inr (.inr (some 29))]) (h1 := hp L s c e) rfl ?_
    refine RuP.step (pc' := 19) (ls' := [some (.inr (.inr (some 73))), some (.inl x0), some (.inl x1), some (.inl x2), some (.inl (f_26 x0 s))]) (st' := [.inl 6, .inr (.inr (some 29))]) (h1 := hp L s c e) rfl ?_
    refine RuP.step (pc' := 20) (ls' := [some (.inr (.inr (some 73))), some (.inl x0), some (.inl x1), some (.inl x2), some (.inl (f_26 x0 s))]) (st' := [.inr (.inr (some 73)), .inl 6, .inr (.inr (some 29))]) (h1 := hp L s c e) rfl ?_
    refine RuP.step (pc' := 23) (ls' := [some (.inr (.inr (some 73))), some (.inl x0), some (.inl x1), some (.inl x2), some (.inl (f_26 x0 s))]) (st' := [.inr (.inr (some 39)), .inl 6, .inr (.inr (some 29))]) (h1 := hp L s c e) rfl ?_
    refine RuP.step (pc' := 24) (ls' := [some (.inr (.inr (some 73))), some (.inl x0), some (.inl x1), some (.inl x2), some (.inl (f_26 x0 s))]) (st' := [.inl x0, .inr (.inr (some 39)), .inl 6, .inr (.inr (some 29))]) (h1 := hp L s c e) rfl ?_
    obtain ⟨b5, h⟩ := gd_some h
    refine RuP.cI rfl (EvP.i ((ev_80 x0 b5).up (by decide))) ?_
    obtain ⟨b6, h⟩ := gd_some h
    obtain ⟨q3, h1, h⟩ := bd_some h
    refine RuP.cVe h1 rfl (EvP.v ((ev_71 6 (f_80 x0 s) b6).up (by decide))) ?_
    refine RuP.step (pc' := 61) (ls' := [some (.inr (.inr (some 73))), some (.inl x0), some (.inl x1), some (.inl x2), some (.inl (f_26 x0 s))]) (st' := []) (h1 := hp L q3 c e) rfl ?_
    cases h
    exact RuP.dV rfl
/-- MachineText$Checker.indexWidth(I)I -/
noncomputable def f_28 (x0 : Int) (s : Sg) : Option Int :=
  (gd (g_184 x0 s) (
  (gd (g_182 x0 s) (
  (if ((if ¬ (f_182 x0 s) = 1 then 0 else 1) : Int) = 0 then
    some (f_295 (f_184 x0 s) s)
  else
    some (f_184 x0 s))))))
theorem ev_28 {L c : Nat} {e : Nat → Nat} {s : Sg} {x0 : Int} {q : Int} (h : f_28 x0 s = some q) : EvP 3 28 [.inr (.inr (some 73)), .inl x0] (hp L s c e) (oI L c e (q, s)) := by
  unfold f_28 at h
  refine EvP.of (μ := tb_m28) (ls := [some (.inr (.inr (some 73))), some (.inl x0), none, none]) rfl (Nat.le_of_ble_eq_true rfl) rfl ?_
  refine RuP.step (pc' := 1) (ls' := [some (.inr (.inr (some 73))), some (.inl x0), none, none]) (st' := [.inr (.inr (some 73))]) (h1 := hp L s c e) rfl ?_
  refine RuP.step (pc' := 4) (ls' := [some (.inr (.inr (some 73))), some (.inl x0), none, none]) (st' := [.inr (.inr (some 54))]) (h1 := hp L s c e) rfl ?_
  refine RuP.step (pc' := 5) (ls' := [some (.inr (.inr (some 73))), some (.inl x0), none, none]) (st' := [.inl x0, .inr (.inr (some 54))]) (h1 := hp L s c e) rfl ?_
  obtain ⟨b0, h⟩ := gd_some h
  refine RuP.cI rfl (EvP.i ((ev_184 x0 b0).up (by decide))) ?_
  refine RuP.step (pc' := 9) (ls' := [some (.inr (.inr (some 73))), some (.inl x0), some (.inl (f_184 x0 s)), none]) (st' := []) (h1 := hp L s c e) rfl ?_
  refine RuP.step (pc' := 10) (ls' := [some (.inr (.inr (some 73))), some (.inl x0), some (.inl (f_184 x0 s)), none]) (st' := [.inr (.inr (some 73))]) (h1 := hp L s c e) rfl ?_
  refine RuP.step (pc' := 13) (ls' := [some (.inr (.inr (some 73))), some (.inl x0), some (.inl (f_184 x0 s)), none]) (st' := [.inr (.inr (some 54))]) (h1 := hp L s c e) rfl ?_
  refine RuP.step (pc' := 14) (ls' := [some (.inr (.inr (some 73))), some (.inl x0), some (.inl (f_184 x0 s)), none]) (st' := [.inl x0, .inr (.inr (some 54))]) (h1 := hp L s c e) rfl ?_
  obtain ⟨b1, h⟩ := gd_some h
  refine RuP.cI rfl (EvP.i ((ev_182 x0 b1).up (by decide))) ?_
  refine RuP.step (pc' := 18) (ls' := [some (.inr (.inr (some 73))), some (.inl x0), some (.inl (f_184 x0 s)), none]) (st' := [.inl 1, .inl (f_182 x0 s)]) (h1 := hp L s c e) rfl ?_
  have J3 : ∀ v2_0 : Int, v2_0 = ((if ¬ (f_182 x0 s) = 1 then 0 else 1) : Int) → RuP 2 tb_m28 26 [some (.inr (.inr (some 73))), some (.inl x0), some (.inl (f_184 x0 s)), none] [.inl v2_0] (hp L s c e) (oI L c e (q, s)) := by
    intro v2_0 ev2_0
    subst ev2_0
    refine RuP.step (pc' := 27) (ls' := [some (.inr (.inr (some 73))), some (.inl x0), some (.inl (f_184 x0 s)), some (.inl ((if ¬ (f_182 x0 s) = 1 then 0 else 1) : Int))]) (st' := []) (h1 := hp L s c e) rfl ?_
    refine RuP.step (pc' := 28) (ls' := [some (.inr (.inr (some 73))), some (.inl x0), some (.inl (f_184 x0 s)), some (.inl ((if ¬ (f_182 x0 s) = 1 then 0 else 1) : Int))]) (st' := [.inl ((if ¬ (f_182 x0 s) = 1 then 0 else 1) : Int)]) (h1 := hp L s c e) rfl ?_
    by_cases h3 : ((if ¬ (f_182 x0 s) = 1 then 0 else 1) : Int) = 0
    · rw [if_pos h3] at h
      refine RuP.jy rfl h3 ?_
      refine RuP.step (pc' := 36) (ls' := [some (.inr (.inr (some 73))), some (.inl x0), some (.inl (f_184 x0 s)), some (.inl ((if ¬ (f_182 x0 s) = 1 then 0 else 1) : Int))]) (st' := [.inl (f_184 x0 s)]) (h1 := hp L s c e) rfl ?_
      refine RuP.cI rfl ((ev_295 (f_184 x0 s)).up (by decide)) ?_
      cases h
      exact RuP.dI rfl
    · rw [if_neg h3] at h
      refine RuP.jn rfl h3 ?_
      refine RuP.step (pc' := 32) (ls' := [some (.inr (.inr (some 73))), some (.inl x0), some (.inl (f_184 x0 s)), some (.inl ((if ¬ (f_182 x0 s) = 1 then 0 else 1) : Int))]) (st' := [.inl (f_184 x0 s)]) (h1 := hp L s c e) rfl ?_
      refine RuP.step (pc' := 39) (ls' := [some (.inr (.inr (some 73))), some (.inl x0), some (.inl (f_184 x0 s)), some (.inl ((if ¬ (f_182 x0 s) = 1 then 0 else 1) : Int))]) (st' := [.inl (f_184 x0 s)]) (h1 := hp L s c e) rfl ?_
      cases h
      exact RuP.dI rfl
  by_cases h4 : ¬ (f_182 x0 s) = 1
  · refine RuP.jy rfl h4 ?_
    refine RuP.step (pc' := 26) (ls' := [some (.inr (.inr (some 73))), some (.inl x0), some (.inl (f_184 x0 s)), none]) (st' := [.inl 0]) (h1 := hp L s c e) rfl ?_
    exact J3 _ (by simp only [if_pos h4])
  · refine RuP.jn rfl h4 ?_
    refine RuP.step (pc' := 22) (ls' := [some (.inr (.inr (some 73))), some (.inl x0), some (.inl (f_184 x0 s)), none]) (st' := [.inl 1]) (h1 := hp L s c e) rfl ?_
    refine RuP.step (pc' := 26) (ls' := [some (.inr (.inr (some 73))), some (.inl x0), some (.inl (f_184 x0 s)), none]) (st' := [.inl 1]) (h1 := hp L s c e) rfl ?_
    exact J3 _ (by simp only [if_neg h4])
/-- MachineText$Checker.pairWidth(I)I -/
noncomputable def f_31 (x0 : Int) (s : Sg) : Option Int :=
  (gd (g_120 x0 s) (
  (gd (g_117 (f_120 x0 s) s) (
  ((f_119 x0 1 s).bind fun q1 =>
  (gd (g_117 q1 s) (
  (if f_117 (f_120 x0 s) s = f_117 q1 s then
    (gd (g_116 x0 s) (
    (if f_116 x0 s < 18 then
      some (f_117 (f_120 x0 s) s)
    else
      some 1)))
  else
    some 0))))))))
theorem ev_31 {L c : Nat} {e : Nat → Nat} {s : Sg} {x0 : Int} {q : Int} (h : f_31 x0 s = some q) : EvP 4 31 [.inr (.inr (some 73)), .inl x0] (hp L s c e) (oI L c e (q, s)) := by
  unfold f_31 at h
  refine EvP.of (μ := tb_m31) (ls := [some (.inr (.inr (some 73))), some (.inl x0), none, none]) rfl (Nat.le_of_ble_eq_true rfl) rfl ?_
  refine RuP.step (pc' := 1) (ls' := [some (.inr (.inr (some 73))), some (.inl x0), none, none]) (st' := [.inr (.inr (some 73))]) (h1 := hp L s c e) rfl ?_
  refine RuP.step (pc' := 4) (ls' := [some (.inr (.inr (some 73))), some (.inl x0), none, none]) (st' := [.inr (.inr (some 46))]) (h1 := hp L s c e) rfl ?_
  refine RuP.step (pc' := 5) (ls' := [some (.inr (.inr (some 73))), some (.inl x0), none, none]) (st' := [.inr (.inr (some 73)), .inr (.inr (some 46))]) (h1 := hp L s c e) rfl ?_
  refine RuP.step (pc' := 8) (ls' := [some (.inr (.inr (some 73))), some (.inl x0), none, none]) (st' := [.inr (.inr (some 46)), .inr (.inr (some 46))]) (h1 := hp L s c e) rfl ?_
  refine RuP.step (pc' := 9) (ls' := [some (.inr (.inr (some 73))), some (.inl x0), none, none]) (st' := [.inl x0, .inr (.inr (some 46)), .inr (.inr (some 46))]) (h1 := hp L s c e) rfl ?_
  obtain ⟨b0, h⟩ := gd_some h
  refine RuP.cI rfl (EvP.i ((ev_120 x0 b0).up (by decide))) ?_
  obtain ⟨b1, h⟩ := gd_some h
  refine RuP.cI rfl (EvP.i ((ev_117 (f_120 x0 s) b1).up (by decide))) ?_
  refine RuP.step (pc' := 16) (ls' := [some (.inr (.inr (some 73))), some (.inl x0), some (.inl (f_117 (f_120 x0 s) s)), none]) (st' := []) (h1 := hp L s c e) rfl ?_
  refine RuP.step (pc' := 17) (ls' := [some (.inr (.inr (some 73))), some (.inl x0), some (.inl (f_117 (f_120 x0 s) s)), none]) (st' := [.inr (.inr (some 73))]) (h1 := hp L s c e) rfl ?_
  refine RuP.step (pc' := 20) (ls' := [some (.inr (.inr (some 73))), some (.inl x0), some (.inl (f_117 (f_120 x0 s) s)), none]) (st' := [.inr (.inr (some 46))]) (h1 := hp L s c e) rfl ?_
  refine RuP.step (pc' := 21) (ls' := [some (.inr (.inr (some 73))), some (.inl x0), some (.inl (f_117 (f_120 x0 s) s)), none]) (st' := [.inr (.inr (some 73)), .inr (.inr (some 46))]) (h1 := hp L s c e) rfl ?_
  refine RuP.step (pc' := 24) (ls' := [some (.inr (.inr (some 73))), some (.inl x0), some (.inl (f_117 (f_120 x0 s) s)), none]) (st' := [.inr (.inr (some 46)), .inr (.inr (some 46))]) (h1 := hp L s c e) rfl ?_
  refine RuP.step (pc' := 25) (ls' := [some (.inr (.inr (some 73))), some (.inl x0), some (.inl (f_117 (f_120 x0 s) s)), none]) (st' := [.inl x0, .inr (.inr (some 46)), .inr (.inr (some 46))]) (h1 := hp L s c e) rfl ?_
  refine RuP.step (pc' := 26) (ls' := [some (.inr (.inr (some 73))), some (.inl x0), some (.inl (f_117 (f_120 x0 s) s)), none]) (st' := [.inl 1, .inl x0, .inr (.inr (some 46)), .inr (.inr (some 46))]) (h1 := hp L s c e) rfl ?_
  obtain ⟨q1, h1, h⟩ := bd_some h
  refine RuP.cI rfl ((ev_119 h1).up (by decide)) ?_
  obtain ⟨b2, h⟩ := gd_some h
  refine RuP.cI rfl (EvP.i ((ev_117 q1 b2).up (by decide))) ?_
  refine RuP.step (pc' := 33) (ls' := [some (.inr (.inr (some 73))), some (.inl x0), some (.inl (f_117 (f_120 x0 s) s)), some (.inl (f_117 q1 s))]) (st' := []) (h1 := hp L s c e) rfl ?_
  refine RuP.step (pc' := 34) (ls' := [some (.inr (.inr (some 73))), some (.inl x0), some (.inl (f_117 (f_120 x0 s) s)), some (.inl (f_117 q1 s))]) (st' := [.inl (f_117 (f_120 x0 s) s)]) (h1 := hp L s c e) rfl ?_
  refine RuP.step (pc' := 35) (ls' := [some (.inr (.inr (some 73))), some (.inl x0), some (.inl (f_117 (f_120 x0 s) s)), some (.inl (f_117 q1 s))]) (st' := [.inl (f_117 q1 s), .inl (f_117 (f_120 x0 s) s)]) (h1 := hp L s c e) rfl ?_
  by_cases h3 : f_117 (f_120 x0 s) s = f_117 q1 s
  · rw [if_pos h3] at h
    refine RuP.jy rfl h3 ?_
    refine RuP.step (pc' := 41) (ls' := [some (.inr (.inr (some 73))), some (.inl x0), some (.inl (f_117 (f_120 x0 s) s)), some (.inl (f_117 q1 s))]) (st' := [.inr (.inr (some 73))]) (h1 := hp L s c e) rfl ?_
    refine RuP.step (pc' := 44) (ls' := [some (.inr (.inr (some 73))), some (.inl x0), some (.inl (f_117 (f_120 x0 s) s)), some (.inl (f_117 q1 s))]) (st' := [.inr (.inr (some 46))]) (h1 := hp L s c e) rfl ?_
    refine RuP.step (pc' := 45) (ls' := [some (.inr (.inr (some 73))), some (.inl x0), some (.inl (f_117 (f_120 x0 s) s)), some (.inl (f_117 q1 s))]) (st' := [.inl x0, .inr (.inr (some 46))]) (h1 := hp L s c e) rfl ?_
    obtain ⟨b4, h⟩ := gd_some h
    refine RuP.cI rfl (EvP.i ((ev_116 x0 b4).up (by decide))) ?_
    refine RuP.step (pc' := 50) (ls' := [some (.inr (.inr (some 73))), some (.inl x0), some (.inl (f_117 (f_120 x0 s) s)), some (.inl (f_117 q1 s))]) (st' := [.inl 18, .inl (f_116 x0 s)]) (h1 := hp L s c e) rfl ?_
    by_cases h5 : f_116 x0 s < 18
    · rw [if_pos h5] at h
      refine RuP.jy rfl h5 ?_
      refine RuP.step (pc' := 58) (ls' := [some (.inr (.inr (some 73))), some (.inl x0), some (.inl (f_117 (f_120 x0 s) s)), some (.inl (f_117 q1 s))]) (st' := [.inl (f_117 (f_120 x0 s) s)]) (h1 := hp L s c e) rfl ?_
      cases h
      exact RuP.dI rfl
    · rw [if_neg h5] at h
      refine RuP.jn rfl h5 ?_
      refine RuP.step (pc' := 54) (ls' := [some (.inr (.inr (some 73))), some (.inl x0), some (.inl (f_117 (f_120 x0 s) s)), some (.inl (f_117 q1 s))]) (st' := [.inl 1]) (h1 := hp L s c e) rfl ?_
      refine RuP.step (pc' := 58) (ls' := [some (.inr (.inr (some 73))), some (.inl x0), some (.inl (f_117 (f_120 x0 s) s)), some (.inl (f_117 q1 s))]) (st' := [.inl 1]) (h1 := hp L s c e) rfl ?_
      cases h
      exact RuP.dI rfl
  · rw [if_neg h3] at h
    refine RuP.jn rfl h3 ?_
    refine RuP.step (pc' := 39) (ls' := [some (.inr (.inr (some 73))), some (.inl x0), some (.inl (f_117 (f_120 x0 s) s)), some (.inl (f_117 q1 s))]) (st' := [.inl 0]) (h1 := hp L s c e) rfl ?_
    cases h
    exact RuP.dI rfl
/-- MachineText$Expressions.value()V -/
noncomputable def j_48_84 (l1 l2 l4 : Int) (s : Sg) : Option (Sum (Sg) (Nat × Sg)) :=
  (gd (g_124 0 l1 (-1) 0 s) (
  ((some (f_124 0 l1 (-1) 0 s)).bind fun q4 =>
  ((f_62 q4.1 l1 q4.2).bind fun q5 =>
  (gd (g_123 (q5 66 8) l4 q5) (
  ((some (f_123 (q5 66 8) l4 q5)).bind fun q6 =>
  (gd (g_125 (q6 66 8) (ax_w32 l2) q6) (
  ((some (f_125 (q6 66 8) (ax_w32 l2) q6)).bind fun q7 =>
  some (.inl q7)))))))))))
theorem bl_48_84 {L c : Nat} {e : Nat → Nat} : ∀ (l1 l2 l4 : Int) (s : Sg) (q : Sum (Sg) (Nat × Sg)), j_48_84 l1 l2 l4 s = some q → RuP 2 tb_m48 84 [some (.inr (.inr (some 66))), some (.inl l1), some (.inr (.inl l2)), none, some (.inl l4)] [] (hp L s c e) (oX L c (oV L c e) q) := by
  intro l1 l2 l4 s q h
  unfold j_48_84 at h
  refine RuP.step (pc' := 85) (ls' := [some (.inr (.inr (some 66))), some (.inl l1), some (.inr (.inl l2)), none, some (.inl l4)]) (st' := [.inr (.inr (some 66))]) (h1 := hp L s c e) rfl ?_
  refine RuP.step (pc' := 86) (ls' := [some (.inr (.inr (some 66))), some (.inl l1), some (.inr (.inl l2)), none, some (.inl l4)]) (st' := [.inr (.inr (some 66)), .inr (.inr (some 66))]) (h1 := hp L s c e) rfl ?_
  refine RuP.step (pc' := 89) (ls' := [some (.inr (.inr (some 66))), some (.inl l1), some (.inr (.inl l2)), none, some (.inl l4)]) (st' := [.inr (.inr (some 46)), .inr (.inr (some 66))]) (h1 := hp L s c e) rfl ?_
  refine RuP.step (pc' := 90) (ls' := [some (.inr (.inr (some 66))), some (.inl l1), some (.inr (.inl l2)), none, some (.inl l4)]) (st' := [.inl 0, .inr (.inr (some 46)), .inr (.inr (some 66))]) (h1 := hp L s c e) rfl ?_
  refine RuP.step (pc' := 91) (ls' := [some (.inr (.inr (some 66))), some (.inl l1), some (.inr (.inl l2)), none, some (.inl l4)]) (st' := [.inl l1, .inl 0, .inr (.inr (some 46)), .inr (.inr (some 66))]) (h1 := hp L s c e) rfl ?_
  refine RuP.step (pc' := 92) (ls' := [some (.inr (.inr (some 66))), some (.inl l1), some (.inr (.inl l2)), none, some (.inl l4)]) (st' := [.inl (-1), .inl l1, .inl 0, .inr (.inr (some 46)), .inr (.inr (some 66))]) (h1 := hp L s c e) rfl ?_
  refine RuP.step (pc' := 93) (ls' := [some (.inr (.inr (some 66))), some (.inl l1), some (.inr (.inl l2)), none, some (.inl l4)]) (st' := [.inl 0, .inl (-1), .inl l1, .inl 0, .inr (.inr (some 46)), .inr (.inr (some 66))]) (h1 := hp L s c e) rfl ?_
  obtain ⟨b0, h⟩ := gd_some h
  obtain ⟨q4, h1, h⟩ := bd_some h
  refine RuP.cIe h1 rfl (EvP.ip ((ev_124 0 l1 (-1) 0 b0).up (by decide))) ?_
  refine RuP.step (pc' := 97) (ls' := [some (.inr (.inr (some 66))), some (.inl l1), some (.inr (.inl l2)), none, some (.inl l4)]) (st' := [.inl l1, .inl q4.1, .inr (.inr (some 66))]) (h1 := hp L q4.2 c e) rfl ?_
  obtain ⟨q5, h1, h⟩ := bd_some h
  refine RuP.cV rfl ((ev_62 h1).up (by decide)) ?_
  refine RuP.step (pc' := 101) (ls' := [some (.inr (.inr (some 66))), some (.inl l1), some (.inr (.inl l2)), none, some (.inl l4)]) (st' := [.inr (.inr (some 66))]) (h1 := hp L q5 c e) rfl ?_
  refine RuP.step (pc' := 104) (ls' := [some (.inr (.inr (some 66))), some (.inl l1), some (.inr (.inl l2)), none, some (.inl l4)]) (st' := [.inr (.inr (some 46))]) (h1 := hp L q5 c e) rfl ?_
  refine RuP.step (pc' := 105) (ls' := [some (.inr (.inr (some 66))), some (.inl l1), some (.inr (.inl l2)), none, some (.inl l4)]) (st' := [.inr (.inr (some 66)), .inr (.inr (some 46))]) (h1 := hp L q5 c e) rfl ?_
  refine RuP.step (pc' := 108) (ls' := [some (.inr (.inr (some 66))), some (.inl l1), some (.inr (.inl l2)), none, some (.inl l4)]) (st' := [.inl (q5 66 8), .inr (.inr (some 46))]) (h1 := hp L q5 c e) rfl ?_
  refine RuP.step (pc' := 110) (ls' := [some (.inr (.inr (some 66))), some (.inl l1), some (.inr (.inl l2)), none, some (.inl l4)]) (st' := [.inl l4, .inl (q5 66 8), .inr (.inr (some 46))]) (h1 := hp L q5 c e) rfl ?_
  obtain ⟨b1, h⟩ := gd_some h
  obtain ⟨q6, h1, h⟩ := bd_some h
  refine RuP.cVe h1 rfl (EvP.v ((ev_123 (q5 66 8) l4 b1).up (by decide))) ?_
  refine RuP.step (pc' := 114) (ls' := [some (.inr (.inr (some 66))), some (.inl l1), some (.inr (.inl l2)), none, some (.inl l4)]) (st' := [.inr (.inr (some 66))]) (h1 := hp L q6 c e) rfl ?_
  refine RuP.step (pc' := 117) (ls' := [some (.inr (.inr (some 66))), some (.inl l1), some (.inr (.inl l2)), none, some (.inl l4)]) (st' := [.inr (.inr (some 46))]) (h1 := hp L q6 c e) rfl ?_
  refine RuP.step (pc' := 118) (ls' := [some (.inr (.inr (some 66))), some (.inl l1), some (.inr (.inl l2)), none, some (.inl l4)]) (st' := [.inr (.inr (some 66)), .inr (.inr (some 46))]) (h1 := hp L q6 c e) rfl ?_
  refine RuP.step (pc' := 121) (ls' := [some (.inr (.inr (some 66))), some (.inl l1), some (.inr (.inl l2)), none, some (.inl l4)]) (st' := [.inl (q6 66 8), .inr (.inr (some 46))]) (h1 := hp L q6 c e) rfl ?_
  refine RuP.step (pc' := 122) (ls' := [some (.inr (.inr (some 66))), some (.inl l1), some (.inr (.inl l2)), none, some (.inl l4)]) (st' := [.inr (.inl l2), .inl (q6 66 8), .inr (.inr (some 46))]) (h1 := hp L q6 c e) rfl ?_
  refine RuP.step (pc' := 123) (ls' := [some (.inr (.inr (some 66))), some (.inl l1), some (.inr (.inl l2)), none, some (.inl l4)]) (st' := [.inl (ax_w32 l2), .inl (q6 66 8), .inr (.inr (some 46))]) (h1 := hp L q6 c e) rfl ?_
  obtain ⟨b2, h⟩ := gd_some h
  obtain ⟨q7, h1, h⟩ := bd_some h
  refine RuP.cVe h1 rfl (EvP.v ((ev_125 (q6 66 8) (ax_w32 l2) b2).up (by decide))) ?_
  cases h
  exact RuP.dV rfl
noncomputable def f_48 (s : Sg) : Option (Sum (Sg) (Nat × Sg)) :=
  (gd (g_81 (s 39 10) s) (
  (xb (f_92 2 s) fun q1 =>
  (xb (f_92 58 q1) fun q2 =>
  (xb (f_93 1 32 q2) fun q3 =>
  (if q3.1 < 1 then
    j_48_84 (s 39 10) (f_81 (s 39 10) s) q3.1 q3.2
  else
    (if 32 < q3.1 then
      j_48_84 (s 39 10) (f_81 (s 39 10) s) q3.1 q3.2
    else
      (if ax_cmp (ax_lshr (f_81 (s 39 10) s) q3.1) 0 = 0 then
        j_48_84 (s 39 10) (f_81 (s 39 10) s) q3.1 q3.2
      else
        (gd (g_80 (s 39 10) q3.2) (
        (gd (g_71 4 (f_80 (s 39 10) q3.2) q3.2) (
        ((some (f_71 4 (f_80 (s 39 10) q3.2) q3.2)).bind fun q8 =>
        j_48_84 (s 39 10) (f_81 (s 39 10) s) q3.1 q8)))))))))))))
theorem ev_48 {L c : Nat} {e : Nat → Nat} {s : Sg} {q : Sum (Sg) (Nat × Sg)} (h : f_48 s = some q) : EvP 3 48 [.inr (.inr (some 66))] (hp L s c e) (oX L c (oV L c e) q) := by
  unfold f_48 at h
  refine EvP.of (μ := tb_m48) (ls := [some (.inr (.inr (some 66))), none, none, none, none]) rfl (Nat.le_of_ble_eq_true rfl) rfl ?_
  refine RuP.step (pc' := 1) (ls' := [some (.inr (.inr (some 66))), none, none, none, none]) (st' := [.inr (.inr (some 66))]) (h1 := hp L s c e) rfl ?_
  refine RuP.step (pc' := 4) (ls' := [some (.inr (.inr (some 66))), none, none, none, none]) (st' := [.inr (.inr (some 39))]) (h1 := hp L s c e) rfl ?_
  refine RuP.step (pc' := 7) (ls' := [some (.inr (.inr (some 66))), none, none, none, none]) (st' := [.inl (s 39 10)]) (h1 := hp L s c e) rfl ?_
  refine RuP.step (pc' := 8) (ls' := [some (.inr (.inr (some 66))), some (.inl (s 39 10)), none, none, none]) (st' := []) (h1 := hp L s c e) rfl ?_
  refine RuP.step (pc' := 9) (ls' := [some (.inr (.inr (some 66))), some (.inl (s 39 10)), none, none, none]) (st' := [.inr (.inr (some 66))]) (h1 := hp L s c e) rfl ?_
  refine RuP.step (pc' := 12) (ls' := [some (.inr (.inr (some 66))), some (.inl (s 39 10)), none, none, none]) (st' := [.inr (.inr (some 39))]) (h1 := hp L s c e) rfl ?_
  refine RuP.step (pc' := 13) (ls' := [some (.inr (.inr (some 66))), some (.inl (s 39 10)), none, none, none]) (st' := [.inl (s 39 10), .inr (.inr (some 39))]) (h1 := hp L s c e) rfl ?_
  obtain ⟨b0, h⟩ := gd_some h
  refine RuP.cJ rfl (EvP.j ((ev_81 (s 39 10) b0).up (by decide))) ?_
  refine RuP.step (pc' := 17) (ls' := [some (.inr (.inr (some 66))), some (.inl (s 39 10)), some (.inr (.inl (f_81 (s 39 10) s))), none, none]) (st' := []) (h1 := hp L s c e) rfl ?_
  refine RuP.step (pc' := 18) (ls' := [some (.inr (.inr (some 66))), some (.inl (s 39 10)), some (.inr (.inl (f_81 (s 39 10) s))), none, none]) (st' := [.inr (.inr (some 66))]) (h1 := hp L s c e) rfl ?_
  refine RuP.step (pc' := 21) (ls' := [some (.inr (.inr (some 66))), some (.inl (s 39 10)), some (.inr (.inl (f_81 (s 39 10) s))), none, none]) (st' := [.inr (.inr (some 39))]) (h1 := hp L s c e) rfl ?_
  refine RuP.step (pc' := 22) (ls' := [some (.inr (.inr (some 66))), some (.inl (s 39 10)), some (.inr (.inl (f_81 (s 39 10) s))), none, none]) (st' := [.inl 2, .inr (.inr (some 39))]) (h1 := hp L s c e) rfl ?_
  rcases xb_some h with ⟨q1, h1, h⟩ | ⟨xx1, h1, h2⟩
  rotate_left
  · subst h2
    exact RuP.pass rfl rfl ((ev_92 h1).up (by decide))
  refine RuP.cV rfl ((ev_92 h1).up (by decide)) ?_
  refine RuP.step (pc' := 26) (ls' := [some (.inr (.inr (some 66))), some (.inl (s 39 10)), some (.inr (.inl (f_81 (s 39 10) s))), none, none]) (st' := [.inr (.inr (some 66))]) (h1 := hp L q1 c e) rfl ?_
  refine RuP.step (pc' := 29) (ls' := [some (.inr (.inr (some 66))), some (.inl (s 39 10)), some (.inr (.inl (f_81 (s 39 10) s))), none, none]) (st' := [.inr (.inr (some 39))]) (h1 := hp L q1 c e) rfl ?_
  refine RuP.step (pc' := 31) (ls' := [some (.inr (.inr (some 66))), some (.inl (s 39 10)), some (.inr (.inl (f_81 (s 39 10) s))), none, none]) (st' := [.inl 58, .inr (.inr (some 39))]) (h1 := hp L q1 c e) rfl ?_
  rcases xb_some h with ⟨q2, h1, h⟩ | ⟨xx1, h1, h2⟩
  rotate_left
  · subst h2
    exact RuP.pass rfl rfl ((ev_92 h1).up (by decide))
  refine RuP.cV rfl ((ev_92 h1).up (by decide)) ?_
  refine RuP.step (pc' := 35) (ls' := [some (.inr (.inr (some 66))), some (.inl (s 39 10)), some (.inr (.inl (f_81 (s 39 10) s))), none, none]) (st' := [.inr (.inr (some 66))]) (h1 := hp L q2 c e) rfl ?_
  refine RuP.step (pc' := 38) (ls' := [some (.inr (.inr (some 66))), some (.inl (s 39 10)), some (.inr (.inl (f_81 (s 39 10) s))), none, none]) (st' := [.inr (.inr (some 39))]) (h1 := hp L q2 c e) rfl ?_
  refine RuP.step (pc' := 39) (ls' := [some (.inr (.inr (some 66))), some (.inl (s 39 10)), some (.inr (.inl (f_81 (s 39 10) s))), none, none]) (st' := [.inl 1, .inr (.inr (some 39))]) (h1 := hp L q2 c e) rfl ?_
  refine RuP.step (pc' := 41) (ls' := [some (.inr (.inr (some 66))), some (.inl (s 39 10)), some (.inr (.inl (f_81 (s 39 10) s))), none, none]) (st' := [.inl 32, .inl 1, .inr (.inr (some 39))]) (h1 := hp L q2 c e) rfl ?_
  rcases xb_some h with ⟨q3, h1, h⟩ | ⟨xx1, h1, h2⟩
  rotate_left
  · subst h2
    exact RuP.pass rfl rfl ((ev_93 h1).up (by decide))
  refine RuP.cI rfl ((ev_93 h1).up (by decide)) ?_
  refine RuP.step (pc' := 46) (ls' := [some (.inr (.inr (some 66))), some (.inl (s 39 10)), some (.inr (.inl (f_81 (s 39 10) s))), none, some (.inl q3.1)]) (st' := []) (h1 := hp L q3.2 c e) rfl ?_
  refine RuP.step (pc' := 48) (ls' := [some (.inr (.inr (some 66))), some (.inl (s 39 10)), some (.inr (.inl (f_81 (s 39 10) s))), none, some (.inl q3.1)]) (st' := [.inl q3.1]) (h1 := hp L q3.2 c e) rfl ?_
  refine RuP.step (pc' := 49) (ls' := [some (.inr (.inr (some 66))), some (.inl (s 39 10)), some (.inr (.inl (f_81 (s 39 10) s))), none, some (.inl q3.1)]) (st' := [.inl 1, .inl q3.1]) (h1 := hp L q3.2 c e) rfl ?_
  by_cases h1 : q3.1 < 1
  · rw [if_pos h1] at h
    refine RuP.jy rfl h1 ?_
    exact bl_48_84 _ _ _ _ _ h
  · rw [if_neg h1] at h
    refine RuP.jn rfl h1 ?_
    refine RuP.step (pc' := 54) (ls' := [some (.inr (.inr (some 66))), some (.inl (s 39 10)), some (.inr (.inl (f_81 (s 39 10) s))), none, some (.inl q3.1)]) (st' := [.inl q3.1]) (h1 := hp L q3.2 c e) rfl ?_
    refine RuP.step (pc' := 56) (ls' := [some (.inr (.inr (some 66))), some (.inl (s 39 10)), some (.inr (.inl (f_81 (s 39 10) s))), none, some (.inl q3.1)]) (st' := [.inl 32, .inl q3.1]) (h1 := hp L q3.2 c e) rfl ?_
    by_cases h2 : 32 < q3.1
    · rw [if_pos h2] at h
      refine RuP.jy rfl h2 ?_
      exact bl_48_84 _ _ _ _ _ h
    · rw [if_neg h2] at h
      refine RuP.jn rfl h2 ?_
      refine RuP.step (pc' := 60) (ls' := [some (.inr (.inr (some 66))), some (.inl (s 39 10)), some (.inr (.inl (f_81 (s 39 10) s))), none, some (.inl q3.1)]) (st' := [.inr (.inl (f_81 (s 39 10) s))]) (h1 := hp L q3.2 c e) rfl ?_
      refine RuP.step (pc' := 62) (ls' := [some (.inr (.inr (some 66))), some (.inl (s 39 10)), some (.inr (.inl (f_81 (s 39 10) s))), none, some (.inl q3.1)]) (st' := [.inl q3.1, .inr (.inl (f_81 (s 39 10) s))]) (h1 := hp L q3.2 c e) rfl ?_
      refine RuP.step (pc' := 63) (ls' := [some (.inr (.inr (some 66))), some (.inl (s 39 10)), some (.inr (.inl (f_81 (s 39 10) s))), none, some (.inl q3.1)]) (st' := [.inr (.inl (ax_lshr (f_81 (s 39 10) s) q3.1))]) (h1 := hp L q3.2 c e) rfl ?_
      refine RuP.step (pc' := 64) (ls' := [some (.inr (.inr (some 66))), some (.inl (s 39 10)), some (.inr (.inl (f_81 (s 39 10) s))), none, some (.inl q3.1)]) (st' := [.inr (.inl 0), .inr (.inl (ax_lshr (f_81 (s 39 10) s) q3.1))]) (h1 := hp L q3.2 c e) rfl ?_
      refine RuP.step (pc' := 65) (ls' := [some (.inr (.inr (some 66))), some (.inl (s 39 10)), some (.inr (.inl (f_81 (s 39 10) s))), none, some (.inl q3.1)]) (st' := [.inl (ax_cmp (ax_lshr (f_81 (s 39 10) s) q3.1) 0)]) (h1 := hp L q3.2 c e) rfl ?_
      by_cases h3 : ax_cmp (ax_lshr (f_81 (s 39 10) s) q3.1) 0 = 0
      · rw [if_pos h3] at h
        refine RuP.jy rfl h3 ?_
        exact bl_48_84 _ _ _ _ _ h
      · rw [if_neg h3] at h
        refine RuP.jn rfl h3 ?_
        refine RuP.step (pc' := 69) (ls' := [some (.inr (.inr (some 66))), some (.inl (s 39 10)), some (.inr (.inl (f_81 (s 39 10) s))), none, some (.inl q3.1)]) (st' := [.inr (.inr (some 66))]) (h1 := hp L q3.2 c e) rfl ?_
        refine RuP.step (pc' := 72) (ls' := [some (.inr (.inr (some 66))), some (.inl (s 39 10)), some (.inr (.inl (f_81 (s 39 10) s))), none, some (.inl q3.1)]) (st' := [.inr (.inr (some 29))]) (h1 := hp L q3.2 c e) rfl ?_
        refine RuP.step (pc' := 73) (ls' := [some (.inr (.inr (some 66))), some (.inl (s 39 10)), some (.inr (.inl (f_81 (s 39 10) s))), none, some (.inl q3.1)]) (st' := [.inl 4, .inr (.inr (some 29))]) (h1 := hp L q3.2 c e) rfl ?_
        refine RuP.step (pc' := 74) (ls' := [some (.inr (.inr (some 66))), some (.inl (s 39 10)), some (.inr (.inl (f_81 (s 39 10) s))), none, some (.inl q3.1)]) (st' := [.inr (.inr (some 66)), .inl 4, .inr (.inr (some 29))]) (h1 := hp L q3.2 c e) rfl ?_
        refine RuP.step (pc' := 77) (ls' := [some (.inr (.inr (some 66))), some (.inl (s 39 10)), some (.inr (.inl (f_81 (s 39 10) s))), none, some (.inl q3.1)]) (st' := [.inr (.inr (some 39)), .inl 4, .inr (.inr (some 29))]) (h1 := hp L q3.2 c e) rfl ?_
        refine RuP.step (pc' := 78) (ls' := [some (.inr (.inr (some 66))), some (.inl (s 39 10)), some (.inr (.inl (f_81 (s 39 10) s))), none, some (.inl q3.1)]) (st' := [.inl (s 39 10), .inr (.inr (some 39)), .inl 4, .inr (.inr (some 29))]) (h1 := hp L q3.2 c e) rfl ?_
        obtain ⟨b4, h⟩ := gd_some h
        refine RuP.cI rfl (EvP.i ((ev_80 (s 39 10) b4).up (by decide))) ?_
        obtain ⟨b5, h⟩ := gd_some h
        obtain ⟨q8, h1, h⟩ := bd_some h
        refine RuP.cVe h1 rfl (EvP.v ((ev_71 4 (f_80 (s 39 10) q3.2) b5).up (by decide))) ?_
        exact bl_48_84 _ _ _ _ _ h
/-- MachineText$Expressions.plainName()V -/
noncomputable def f_49 (s : Sg) : Option (Sum (Sg) (Nat × Sg)) :=
  (xb (f_92 1 s) fun q1 =>
  (gd (g_124 1 (s 39 10) (-1) 0 q1) (
  ((some (f_124 1 (s 39 10) (-1) 0 q1)).bind fun q2 =>
  ((f_62 q2.1 (s 39 10) q2.2).bind fun q3 =>
  some (.inl q3))))))
theorem ev_49 {L c : Nat} {e : Nat → Nat} {s : Sg} {q : Sum (Sg) (Nat × Sg)} (h : f_49 s = some q) : EvP 3 49 [.inr (.inr (some 66))] (hp L s c e) (oX L c (oV L c e) q) := by
  unfold f_49 at h
  refine EvP.of (μ := tb_m49) (ls := [some (.inr (.inr (some 66))), none]) rfl (Nat.le_of_ble_eq_true rfl) rfl ?_
  refine RuP.step (pc' := 1) (ls' := [some (.inr (.inr (some 66))), none]) (st' := [.inr (.inr (some 66))]) (h1 := hp L s c e) rfl ?_
  refine RuP.step (pc' := 4) (ls' := [some (.inr (.inr (some 66))), none]) (st' := [.inr (.inr (some 39))]) (h1 := hp L s c e) rfl ?_
  refine RuP.step (pc' := 7) (ls' := [some (.inr (.inr (some 66))), none]) (st' := [.inl (s 39 10)]) (h1 := hp L s c e) rfl ?_
  refine RuP.step (pc' := 8) (ls' := [some (.inr (.inr (some 66))), some (.inl (s 39 10))]) (st' := []) (h1 := hp L s c e) rfl ?_
  refine RuP.step (pc' := 9) (ls' := [some (.inr (.inr (some 66))), some (.inl (s 39 10))]) (st' := [.inr (.inr (some 66))]) (h1 := hp L s c e) rfl ?_
  refine RuP.step (pc' := 12) (ls' := [some (.inr (.inr (some 66))), some (.inl (s 39 10))]) (st' := [.inr (.inr (some 39))]) (h1 := hp L s c e) rfl ?_
  refine RuP.step (pc' := 13) (ls' := [some (.inr (.inr (some 66))), some (.inl (s 39 10))]) (st' := [.inl 1, .inr (.inr (some 39))]) (h1 := hp L s c e) rfl ?_
  rcases xb_some h with ⟨q1, h1, h⟩ | ⟨xx1, h1, h2⟩
  rotate_left
  · subst h2
    exact RuP.pass rfl rfl ((ev_92 h1).up (by decide))
  refine RuP.cV rfl ((ev_92 h1).up (by decide)) ?_
  refine RuP.step (pc' := 17) (ls' := [some (.inr (.inr (some 66))), some (.inl (s 39 10))]) (st' := [.inr (.inr (some 66))]) (h1 := hp L q1 c e) rfl ?_
  refine RuP.step (pc' := 18) (ls' := [some (.inr (.inr (some 66))), some (.inl (s 39 10))]) (st' := [.inr (.inr (some 66)), .inr (.inr (some 66))]) (h1 := hp L q1 c e) rfl ?_
  refine RuP.step (pc' := 21) (ls' := [some (.inr (.inr (some 66))), some (.inl (s 39 10))]) (st' := [.inr (.inr (some 46)), .inr (.inr (some 66))]) (h1 := hp L q1 c e) rfl ?_
  refine RuP.step (pc' := 22) (ls' := [some (.inr (.inr (some 66))), some (.inl (s 39 10))]) (st' := [.inl 1, .inr (.inr (some 46)), .inr (.inr (some 66))]) (h1 := hp L q1 c e) rfl ?_
  refine RuP.step (pc' := 23) (ls' := [some (.inr (.inr (some 66))), some (.inl (s 39 10))]) (st' := [.inl (s 39 10), .inl 1, .inr (.inr (some 46)), .inr (.inr (some 66))]) (h1 := hp L q1 c e) rfl ?_
  refine RuP.step (pc' := 24) (ls' := [some (.inr (.inr (some 66))), some (.inl (s 39 10))]) (st' := [.inl (-1), .inl (s 39 10), .inl 1, .inr (.inr (some 46)), .inr (.inr (some 66))]) (h1 := hp L q1 c e) rfl ?_
  refine RuP.step (pc' := 25) (ls' := [some (.inr (.inr (some 66))), some (.inl (s 39 10))]) (st' := [.inl 0, .inl (-1), .inl (s 39 10), .inl 1, .inr (.inr (some 46)), .inr (.inr (some 66))]) (h1 := hp L q1 c e) rfl ?_
  obtain ⟨b0, h⟩ := gd_some h
  obtain ⟨q2, h1, h⟩ := bd_some h
  refine RuP.cIe h1 rfl (EvP.ip ((ev_124 1 (s 39 10) (-1) 0 b0).up (by decide))) ?_
  refine RuP.step (pc' := 29) (ls' := [some (.inr (.inr (some 66))), some (.inl (s 39 10))]) (st' := [.inl (s 39 10), .inl q2.1, .inr (.inr (some 66))]) (h1 := hp L q2.2 c e) rfl ?_
  obtain ⟨q3, h1, h⟩ := bd_some h
  refine RuP.cV rfl ((ev_62 h1).up (by decide)) ?_
  cases h
  exact RuP.dV rfl
/-- MachineText$Expressions.element(I)V -/
noncomputable def f_50 (ex : Int → Sg → Option (Sum Sg (Nat × Sg))) (x0 : Int) (s : Sg) : Option (Sum (Sg) (Nat × Sg)) :=
  (xb (f_92 1 s) fun q1 =>
  (xb (f_92 91 q1) fun q2 =>
  (xb (ex (ax_w32 (x0 + 1)) q2) fun q3 =>
  (xb (f_92 93 q3) fun q4 =>
  (gd (g_124 2 (s 39 10) (q4 66 8) 1 q4) (
  ((some (f_124 2 (s 39 10) (q4 66 8) 1 q4)).bind fun q5 =>
  ((f_62 q5.1 (s 39 10) q5.2).bind fun q6 =>
  some (.inl q6)))))))))
theorem ev_50 {L c : Nat} {e : Nat → Nat} {m : Nat} {ex : Int → Sg → Option (Sum Sg (Nat × Sg))} (hm : 20 ≤ m) (hex : ∀ d s q, ex d s = some q → EvP m 45 [.inr (.inr (some 66)), .inl d] (hp L s c e) (oX L c (oV L c e) q)) {s : Sg} {x0 : Int} {q : Sum (Sg) (Nat × Sg)} (h : f_50 ex x0 s = some q) : EvP (m + 1) 50 [.inr (.inr (some 66)), .inl x0] (hp L s c e) (oX L c (oV L c e) q) := by
  unfold f_50 at h
  refine EvP.of (μ := tb_m50) (ls := [some (.inr (.inr (some 66))), some (.inl x0), none]) rfl (Nat.le_of_ble_eq_true rfl) rfl ?_
  refine RuP.step (pc' := 1) (ls' := [some (.inr (.inr (some 66))), some (.inl x0), none]) (st' := [.inr (.inr (some 66))]) (h1 := hp L s c e) rfl ?_
  refine RuP.step (pc' := 4) (ls' := [some (.inr (.inr (some 66))), some (.inl x0), none]) (st' := [.inr (.inr (some 39))]) (h1 := hp L s c e) rfl ?_
  refine RuP.step (pc' := 7) (ls' := [some (.inr (.inr (some 66))), some (.inl x0), none]) (st' := [.inl (s 39 10)]) (h1 := hp L s c e) rfl ?_
  refine RuP.step (pc' := 8) (ls' := [some (.inr (.inr (some 66))), some (.inl x0), some (.inl (s 39 10))]) (st' := []) (h1 := hp L s c e) rfl ?_
  refine RuP.step (pc' := 9) (ls' := [some (.inr (.inr (some 66))), some (.inl x0), some (.inl (s 39 10))]) (st' := [.inr (.inr (some 66))]) (h1 := hp L s c e) rfl ?_
  refine RuP.step (pc' := 12) (ls' := [some (.inr (.inr (some 66))), some (.inl x0), some (.inl (s 39 10))]) (st' := [.inr (.inr (some 39))]) (h1 := hp L s c e) rfl ?_
  refine RuP.step (pc' := 13) (ls' := [some (.inr (.inr (some 66))), some (.inl x0), some (.inl (s 39 10))]) (st' := [.inl 1, .inr (.inr (some 39))]) (h1 := hp L s c e) rfl ?_
  rcases xb_some h with ⟨q1, h1, h⟩ | ⟨xx1, h1, h2⟩
  rotate_left
  · subst h2
    exact RuP.pass rfl rfl ((ev_92 h1).up (by omega))
  refine RuP.cV rfl ((ev_92 h1).up (by omega)) ?_
  refine RuP.step (pc' := 17) (ls' := [some (.inr (.inr (some 66))), some (.inl x0), some (.inl (s 39 10))]) (st' := [.inr (.inr (some 66))]) (h1 := hp L q1 c e) rfl ?_
  refine RuP.step (pc' := 20) (ls' := [some (.inr (.inr (some 66))), some (.inl x0), some (.inl (s 39 10))]) (st' := [.inr (.inr (some 39))]) (h1 := hp L q1 c e) rfl ?_
  refine RuP.step (pc' := 22) (ls' := [some (.inr (.inr (some 66))), some (.inl x0), some (.inl (s 39 10))]) (st' := [.inl 91, .inr (.inr (some 39))]) (h1 := hp L q1 c e) rfl ?_
  rcases xb_some h with ⟨q2, h1, h⟩ | ⟨xx1, h1, h2⟩
  rotate_left
  · subst h2
    exact RuP.pass rfl rfl ((ev_92 h1).up (by omega))
  refine RuP.cV rfl ((ev_92 h1).up (by omega)) ?_
  refine RuP.step (pc' := 26) (ls' := [some (.inr (.inr (some 66))), some (.inl x0), some (.inl (s 39 10))]) (st' := [.inr (.inr (some 66))]) (h1 := hp L q2 c e) rfl ?_
  refine RuP.step (pc' := 27) (ls' := [some (.inr (.inr (some 66))), some (.inl x0), some (.inl (s 39 10))]) (st' := [.inl x0, .inr (.inr (some 66))]) (h1 := hp L q2 c e) rfl ?_
  refine RuP.step (pc' := 28) (ls' := [some (.inr (.inr (some 66))), some (.inl x0), some (.inl (s 39 10))]) (st' := [.inl 1, .inl x0, .inr (.inr (some 66))]) (h1 := hp L q2 c e) rfl ?_
  refine RuP.step (pc' := 29) (ls' := [some (.inr (.inr (some 66))), some (.inl x0), some (.inl (s 39 10))]) (st' := [.inl (ax_w32 (x0 + 1)), .inr (.inr (some 66))]) (h1 := hp L q2 c e) rfl ?_
  rcases xb_some h with ⟨q3, h1, h⟩ | ⟨xx1, h1, h2⟩
  rotate_left
  · subst h2
    exact RuP.pass rfl rfl ((hex _ _ _ h1).up (by omega))
  refine RuP.cV rfl ((hex _ _ _ h1).up (by omega)) ?_
  refine RuP.step (pc' := 33) (ls' := [some (.inr (.inr (some 66))), some (.inl x0), some (.inl (s 39 10))]) (st' := [.inr (.inr (some 66))]) (h1 := hp L q3 c e) rfl ?_
  refine RuP.step (pc' := 36) (ls' := [some (.inr (.inr (some 66))), some (.inl x0), some (.inl (s 39 10))]) (st' := [.inr (.inr (some 39))]) (h1 := hp L q3 c e) rfl ?_
  refine RuP.step (pc' := 38) (ls' := [some (.inr (.inr (some 66))), some (.inl x0), some (.inl (s 39 10))]) (st' := [.inl 93, .inr (.inr (some 39))]) (h1 := hp L q3 c e) rfl ?_
  rcases xb_some h with ⟨q4, h1, h⟩ | ⟨xx1, h1, h2⟩
  rotate_left
  · subst h2
    exact RuP.pass rfl rfl ((ev_92 h1).up (by omega))
  refine RuP.cV rfl ((ev_92 h1).up (by omega)) ?_
  refine RuP.step (pc' := 42) (ls' := [some (.inr (.inr (some 66))), some (.inl x0), some (.inl (s 39 10))]) (st' := [.inr (.inr (some 66))]) (h1 := hp L q4 c e) rfl ?_
  refine RuP.step (pc' := 43) (ls' := [some (.inr (.inr (some 66))), some (.inl x0), some (.inl (s 39 10))]) (st' := [.inr (.inr (some 66)), .inr (.inr (some 66))]) (h1 := hp L q4 c e) rfl ?_
  refine RuP.step (pc' := 46) (ls' := [some (.inr (.inr (some 66))), some (.inl x0), some (.inl (s 39 10))]) (st' := [.inr (.inr (some 46)), .inr (.inr (some 66))]) (h1 := hp L q4 c e) rfl ?_
  refine RuP.step (pc' := 47) (ls' := [some (.inr (.inr (some 66))), some (.inl x0), some (.inl (s 39 10))]) (st' := [.inl 2, .inr (.inr (some 46)), .inr (.inr (some 66))]) (h1 := hp L q4 c e) rfl ?_
  refine RuP.step (pc' := 48) (ls' := [some (.inr (.inr (some 66))), some (.inl x0), some (.inl (s 39 10))]) (st' := [.inl (s 39 10), .inl 2, .inr (.inr (some 46)), .inr (.inr (some 66))]) (h1 := hp L q4 c e) rfl ?_
  refine RuP.step (pc' := 49) (ls' := [some (.inr (.inr (some 66))), some (.inl x0), some (.inl (s 39 10))]) (st' := [.inr (.inr (some 66)), .inl (s 39 10), .inl 2, .inr (.inr (some 46)), .inr (.inr (some 66))]) (h1 := hp L q4 c e) rfl ?_
  refine RuP.step (pc' := 52) (ls' := [some (.inr (.inr (some 66))), some (.inl x0), some (.inl (s 39 10))]) (st' := [.inl (q4 66 8), .inl (s 39 10), .inl 2, .inr (.inr (some 46)), .inr (.inr (some 66))]) (h1 := hp L q4 c e) rfl ?_
  refine RuP.step (pc' := 53) (ls' := [some (.inr (.inr (some 66))), some (.inl x0), some (.inl (s 39 10))]) (st' := [.inl 1, .inl (q4 66 8), .inl (s 39 10), .inl 2, .inr (.inr (some 46)), .inr (.inr (some 66))]) (h1 := hp L q4 c e) rfl ?_
  obtain ⟨b0, h⟩ := gd_some h
  obtain ⟨q5, h1, h⟩ := bd_some h
  refine RuP.cIe h1 rfl (EvP.ip ((ev_124 2 (s 39 10) (q4 66 8) 1 b0).up (by omega))) ?_
  refine RuP.step (pc' := 57) (ls' := [some (.inr (.inr (some 66))), some (.inl x0), some (.inl (s 39 10))]) (st' := [.inl (s 39 10), .inl q5.1, .inr (.inr (some 66))]) (h1 := hp L q5.2 c e) rfl ?_
  obtain ⟨q6, h1, h⟩ := bd_some h
  refine RuP.cV rfl ((ev_62 h1).up (by omega)) ?_
  cases h
  exact RuP.dV rfl
/-- MachineText$Expressions.extension(II)V -/
noncomputable def f_51 (ex : Int → Sg → Option (Sum Sg (Nat × Sg))) (x0 x1 : Int) (s : Sg) : Option (Sum (Sg) (Nat × Sg)) :=
  (gd (g_94 s) (
  ((some (f_94 s)).bind fun q1 =>
  (xb (f_92 40 q1) fun q2 =>
  (xb (ex (ax_w32 (x0 + 1)) q2) fun q3 =>
  (xb (f_92 44 q3) fun q4 =>
  (xb (f_93 1 32 q4) fun q5 =>
  (xb (f_92 41 q5.2) fun q6 =>
  (gd (g_124 x1 (s 39 10) (q6 66 8) 1 q6) (
  ((some (f_124 x1 (s 39 10) (q6 66 8) 1 q6)).bind fun q7 =>
  ((f_62 q7.1 (s 39 10) q7.2).bind fun q8 =>
  (gd (g_123 (q8 66 8) q5.1 q8) (
  ((some (f_123 (q8 66 8) q5.1 q8)).bind fun q9 =>
  some (.inl q9))))))))))))))))
theorem ev_51 {L c : Nat} {e : Nat → Nat} {m : Nat} {ex : Int → Sg → Option (Sum Sg (Nat × Sg))} (hm : 20 ≤ m) (hex : ∀ d s q, ex d s = some q → EvP m 45 [.inr (.inr (some 66)), .inl d] (hp L s c e) (oX L c (oV L c e) q)) {s : Sg} {x0 x1 : Int} {q : Sum (Sg) (Nat × Sg)} (h : f_51 ex x0 x1 s = some q) : EvP (m + 1) 51 [.inr (.inr (some 66)), .inl x0, .inl x1] (hp L s c e) (oX L c (oV L c e) q) := by
  unfold f_51 at h
  refine EvP.of (μ := tb_m51) (ls := [some (.inr (.inr (some 66))), some (.inl x0), some (.inl x1), none, none]) rfl (Nat.le_of_ble_eq_true rfl) rfl ?_
  refine RuP.step (pc' := 1) (ls' := [some (.inr (.inr (some 66))), some (.inl x0), some (.inl x1), none, none]) (st' := [.inr (.inr (some 66))]) (h1 := hp L s c e) rfl ?_
  refine RuP.step (pc' := 4) (ls' := [some (.inr (.inr (some 66))), some (.inl x0), some (.inl x1), none, none]) (st' := [.inr (.inr (some 39))]) (h1 := hp L s c e) rfl ?_
  refine RuP.step (pc' := 7) (ls' := [some (.inr (.inr (some 66))), some (.inl x0), some (.inl x1), none, none]) (st' := [.inl (s 39 10)]) (h1 := hp L s c e) rfl ?_
  refine RuP.step (pc' := 8) (ls' := [some (.inr (.inr (some 66))), some (.inl x0), some (.inl x1), some (.inl (s 39 10)), none]) (st' := []) (h1 := hp L s c e) rfl ?_
  refine RuP.step (pc' := 9) (ls' := [some (.inr (.inr (some 66))), some (.inl x0), some (.inl x1), some (.inl (s 39 10)), none]) (st' := [.inr (.inr (some 66))]) (h1 := hp L s c e) rfl ?_
  refine RuP.step (pc' := 12) (ls' := [some (.inr (.inr (some 66))), some (.inl x0), some (.inl x1), some (.inl (s 39 10)), none]) (st' := [.inr (.inr (some 39))]) (h1 := hp L s c e) rfl ?_
  obtain ⟨b0, h⟩ := gd_some h
  obtain ⟨q1, h1, h⟩ := bd_some h
  refine RuP.cVe h1 rfl (EvP.v ((ev_94  b0).up (by omega))) ?_
  refine RuP.step (pc' := 16) (ls' := [some (.inr (.inr (some 66))), some (.inl x0), some (.inl x1), some (.inl (s 39 10)), none]) (st' := [.inr (.inr (some 66))]) (h1 := hp L q1 c e) rfl ?_
  refine RuP.step (pc' := 19) (ls' := [some (.inr (.inr (some 66))), some (.inl x0), some (.inl x1), some (.inl (s 39 10)), none]) (st' := [.inr (.inr (some 39))]) (h1 := hp L q1 c e) rfl ?_
  refine RuP.step (pc' := 21) (ls' := [some (.inr (.inr (some 66))), some (.inl x0), some (.inl x1), some (.inl (s 39 10)), none]) (st' := [.inl 40, .inr (.inr (some 39))]) (h1 := hp L q1 c e) rfl ?_
  rcases xb_some h with ⟨q2, h1, h⟩ | ⟨xx1, h1, h2⟩
  rotate_left
  · subst h2
    exact RuP.pass rfl rfl ((ev_92 h1).up (by omega))
  refine RuP.cV rfl ((ev_92 h1).up (by omega)) ?_
  refine RuP.step (pc' := 25) (ls' := [some (.inr (.inr (some 66))), some (.inl x0), some (.inl x1), some (.inl (s 39 10)), none]) (st' := [.inr (.inr (some 66))]) (h1 := hp L q2 c e) rfl ?_
  refine RuP.step (pc' := 26) (ls' := [some (.inr (.inr (some 66))), some (.inl x0), some (.inl x1), some (.inl (s 39 10)), none]) (st' := [.inl x0, .inr (.inr (some 66))]) (h1 := hp L q2 c e) rfl ?_
  refine RuP.step (pc' := 27) (ls' := [some (.inr (.inr (some 66))), some (.inl x0), some (.inl x1), some (.inl (s 39 10)), none]) (st' := [.inl 1, .inl x0, .inr (.inr (some 66))]) (h1 := hp L q2 c e) rfl ?_
  refine RuP.step (pc' := 28) (ls' := [some (.inr (.inr (some 66))), some (.inl x0), some (.inl x1), some (.inl (s 39 10)), none]) (st' := [.inl (ax_w32 (x0 + 1)), .inr (.inr (some 66))]) (h1 := hp L q2 c e) rfl ?_
  rcases xb_some h with ⟨q3, h1, h⟩ | ⟨xx1, h1, h2⟩
  rotate_left
  · subst h2
    exact RuP.pass rfl rfl ((hex _ _ _ h1).up (by omega))
  refine RuP.cV rfl ((hex _ _ _ h1).up (by omega)) ?_
  refine RuP.step (pc' := 32) (ls' := [some (.inr (.inr (some 66))), some (.inl x0), some (.inl x1), some (.inl (s 39 10)), none]) (st' := [.inr (.inr (some 66))]) (h1 := hp L q3 c e) rfl ?_
  refine RuP.step (pc' := 35) (ls' := [some (.inr (.inr (some 66))), some (.inl x0), some (.inl x1), some (.inl (s 39 10)), none]) (st' := [.inr (.inr (some 39))]) (h1 := hp L q3 c e) rfl ?_
  refine RuP.step (pc' := 37) (ls' := [some (.inr (.inr (some 66))), some (.inl x0), some (.inl x1), some (.inl (s 39 10)), none]) (st' := [.inl 44, .inr (.inr (some 39))]) (h1 := hp L q3 c e) rfl ?_
  rcases xb_some h with ⟨q4, h1, h⟩ | ⟨xx1, h1, h2⟩
  rotate_left
  · subst h2
    exact RuP.pass rfl rfl ((ev_92 h1).up (by omega))
  refine RuP.cV rfl ((ev_92 h1).up (by omega)) ?_
  refine RuP.step (pc' := 41) (ls' := [some (.inr (.inr (some 66))), some (.inl x0), some (.inl x1), some (.inl (s 39 10)), none]) (st' := [.inr (.inr (some 66))]) (h1 := hp L q4 c e) rfl ?_
  refine RuP.step (pc' := 44) (ls' := [some (.inr (.inr (some 66))), some (.inl x0), some (.inl x1), some (.inl (s 39 10)), none]) (st' := [.inr (.inr (some 39))]) (h1 := hp L q4 c e) rfl ?_
  refine RuP.step (pc' := 45) (ls' := [some (.inr (.inr (some 66))), some (.inl x0), some (.inl x1), some (.inl (s 39 10)), none]) (st' := [.inl 1, .inr (.inr (some 39))]) (h1 := hp L q4 c e) rfl ?_
  refine RuP.step (pc' := 47) (ls' := [some (.inr (.inr (some 66))), some (.inl x0), some (.inl x1), some (.inl (s 39 10)), none]) (st' := [.inl 32, .inl 1, .inr (.inr (some 39))]) (h1 := hp L q4 c e) rfl ?_
  rcases xb_some h with ⟨q5, h1, h⟩ | ⟨xx1, h1, h2⟩
  rotate_left
  · subst h2
    exact RuP.pass rfl rfl ((ev_93 h1).up (by omega))
  refine RuP.cI rfl ((ev_93 h1).up (by omega)) ?_
  refine RuP.step (pc' := 52) (ls' := [some (.inr (.inr (some 66))), some (.inl x0), some (.inl x1), some (.inl (s 39 10)), some (.inl q5.1)]) (st' := []) (h1 := hp L q5.2 c e) rfl ?_
  refine RuP.step (pc' := 53) (ls' := [some (.inr (.inr (some 66))), some (.inl x0), some (.inl x1), some (.inl (s 39 10)), some (.inl q5.1)]) (st' := [.inr (.inr (some 66))]) (h1 := hp L q5.2 c e) rfl ?_
  refine RuP.step (pc' := 56) (ls' := [some (.inr (.inr (some 66))), some (.inl x0), some (.inl x1), some (.inl (s 39 10)), some (.inl q5.1)]) (st' := [.inr (.inr (some 39))]) (h1 := hp L q5.2 c e) rfl ?_
  refine RuP.step (pc' := 58) (ls' := [some (.inr (.inr (some 66))), some (.inl x0), some (.inl x1), some (.inl (s 39 10)), some (.inl q5.1)]) (st' := [.inl 41, .inr (.inr (some 39))]) (h1 := hp L q5.2 c e) rfl ?_
  rcases xb_some h with ⟨q6, h1, h⟩ | ⟨xx1, h1, h2⟩
  rotate_left
  · subst h2
    exact RuP.pass rfl rfl ((ev_92 h1).up (by omega))
  refine RuP.cV rfl ((ev_92 h1).up (by omega)) ?_
  refine RuP.step (pc' := 62) (ls' := [some (.inr (.inr (some 66))), some (.inl x0), some (.inl x1), some (.inl (s 39 10)), some (.inl q5.1)]) (st' := [.inr (.inr (some 66))]) (h1 := hp L q6 c e) rfl ?_
  refine RuP.step (pc' := 63) (ls' := [some (.inr (.inr (some 66))), some (.inl x0), some (.inl x1), some (.inl (s 39 10)), some (.inl q5.1)]) (st' := [.inr (.inr (some 66)), .inr (.inr (some 66))]) (h1 := hp L q6 c e) rfl ?_
  refine RuP.step (pc' := 66) (ls' := [some (.inr (.inr (some 66))), some (.inl x0), some (.inl x1), some (.inl (s 39 10)), some (.inl q5.1)]) (st' := [.inr (.inr (some 46)), .inr (.inr (some 66))]) (h1 := hp L q6 c e) rfl ?_
  refine RuP.step (pc' := 67) (ls' := [some (.inr (.inr (some 66))), some (.inl x0), some (.inl x1), some (.inl (s 39 10)), some (.inl q5.1)]) (st' := [.inl x1, .inr (.inr (some 46)), .inr (.inr (some 66))]) (h1 := hp L q6 c e) rfl ?_
  refine RuP.step (pc' := 68) (ls' := [some (.inr (.inr (some 66))), some (.inl x0), some (.inl x1), some (.inl (s 39 10)), some (.inl q5.1)]) (st' := [.inl (s 39 10), .inl x1, .inr (.inr (some 46)), .inr (.inr (some 66))]) (h1 := hp L q6 c e) rfl ?_
  refine RuP.step (pc' := 69) (ls' := [some (.inr (.inr (some 66))), some (.inl x0), some (.inl x1), some (.inl (s 39 10)), some (.inl q5.1)]) (st' := [.inr (.inr (some 66)), .inl (s 39 10), .inl x1, .inr (.inr (some 46)), .inr (.inr (some 66))]) (h1 := hp L q6 c e) rfl ?_
  refine RuP.step (pc' := 72) (ls' := [some (.inr (.inr (some 66))), some (.inl x0), some (.inl x1), some (.inl (s 39 10)), some (.inl q5.1)]) (st' := [.inl (q6 66 8), .inl (s 39 10), .inl x1, .inr (.inr (some 46)), .inr (.inr (some 66))]) (h1 := hp L q6 c e) rfl ?_
  refine RuP.step (pc' := 73) (ls' := [some (.inr (.inr (some 66))), some (.inl x0), some (.inl x1), some (.inl (s 39 10)), some (.inl q5.1)]) (st' := [.inl 1, .inl (q6 66 8), .inl (s 39 10), .inl x1, .inr (.inr (some 46)), .inr (.inr (some 66))]) (h1 := hp L q6 c e) rfl ?_
  obtain ⟨b1, h⟩ := gd_some h
  obtain ⟨q7, h1, h⟩ := bd_some h
  refine RuP.cIe h1 rfl (EvP.ip ((ev_124 x1 (s 39 10) (q6 66 8) 1 b1).up (by omega))) ?_
  refine RuP.step (pc' := 77) (ls' := [some (.inr (.inr (some 66))), some (.inl x0), some (.inl x1), some (.inl (s 39 10)), some (.inl q5.1)]) (st' := [.inl (s 39 10), .inl q7.1, .inr (.inr (some 66))]) (h1 := hp L q7.2 c e) rfl ?_
  obtain ⟨q8, h1, h⟩ := bd_some h
  refine RuP.cV rfl ((ev_62 h1).up (by omega)) ?_
  refine RuP.step (pc' := 81) (ls' := [some (.inr (.inr (some 66))), some (.inl x0), some (.inl x1), some (.inl (s 39 10)), some (.inl q5.1)]) (st' := [.inr (.inr (some 66))]) (h1 := hp L q8 c e) rfl ?_
  refine RuP.step (pc' := 84) (ls' := [some (.inr (.inr (some 66))), some (.inl x0), some (.inl x1), some (.inl (s 39 10)), some (.inl q5.1)]) (st' := [.inr (.inr (some 46))]) (h1 := hp L q8 c e) rfl ?_
  refine RuP.step (pc' := 85) (ls' := [some (.inr (.inr (some 66))), some (.inl x0), some (.inl x1), some (.inl (s 39 10)), some (.inl q5.1)]) (st' := [.inr (.inr (some 66)), .inr (.inr (some 46))]) (h1 := hp L q8 c e) rfl ?_
  refine RuP.step (pc' := 88) (ls' := [some (.inr (.inr (some 66))), some (.inl x0), some (.inl x1), some (.inl (s 39 10)), some (.inl q5.1)]) (st' := [.inl (q8 66 8), .inr (.inr (some 46))]) (h1 := hp L q8 c e) rfl ?_
  refine RuP.step (pc' := 90) (ls' := [some (.inr (.inr (some 66))), some (.inl x0), some (.inl x1), some (.inl (s 39 10)), some (.inl q5.1)]) (st' := [.inl q5.1, .inl (q8 66 8), .inr (.inr (some 46))]) (h1 := hp L q8 c e) rfl ?_
  obtain ⟨b2, h⟩ := gd_some h
  obtain ⟨q9, h1, h⟩ := bd_some h
  refine RuP.cVe h1 rfl (EvP.v ((ev_123 (q8 66 8) q5.1 b2).up (by omega))) ?_
  cases h
  exact RuP.dV rfl
/-- MachineText$Expressions.group(I)V -/
noncomputable def f_52 (ex : Int → Sg → Option (Sum Sg (Nat × Sg))) (x0 : Int) (s : Sg) : Option (Sum (Sg) (Nat × Sg)) :=
  (gd (g_99 (s 39 10) 2 s) (
  ((some (f_99 (s 39 10) 2 s)).bind fun q1 =>
  (xb (f_92 40 q1) fun q2 =>
  (xb (ex (ax_w32 (x0 + 1)) q2) fun q3 =>
  (gd (g_99 (q3 39 10) 2 q3) (
  ((some (f_99 (q3 39 10) 2 q3)).bind fun q4 =>
  (xb (f_92 41 q4) fun q5 =>
  some (.inl (ax_u2 (ax_u2 (ax_u2 q5 66 9 (s 39 10)) 66 11 (s 39 10)) 66 12 (q3 39 10))))))))))))
theorem ev_52 {L c : Nat} {e : Nat → Nat} {m : Nat} {ex : Int → Sg → Option (Sum Sg (Nat × Sg))} (hm : 20 ≤ m) (hex : ∀ d s q, ex d s = some q → EvP m 45 [.inr (.inr (some 66)), .inl d] (hp L s c e) (oX L c (oV L c e) q)) {s : Sg} {x0 : Int} {q : Sum (Sg) (Nat × Sg)} (h : f_52 ex x0 s = some q) : EvP (m + 1) 52 [.inr (.inr (some 66)), .inl x0] (hp L s c e) (oX L c (oV L c e) q) := by
  unfold f_52 at h
  refine EvP.of (μ := tb_m52) (ls := [some (.inr (.inr (some 66))), some (.inl x0), none, none]) rfl (Nat.le_of_ble_eq_true rfl) rfl ?_
  refine RuP.step (pc' := 1) (ls' := [some (.inr (.inr (some 66))), some (.inl x0), none, none]) (st' := [.inr (.inr (some 66))]) (h1 := hp L s c e) rfl ?_
  refine RuP.step (pc' := 4) (ls' := [some (.inr (.inr (some 66))), some (.inl x0), none, none]) (st' := [.inr (.inr (some 39))]) (h1 := hp L s c e) rfl ?_
  refine RuP.step (pc' := 7) (ls' := [some (.inr (.inr (some 66))), some (.inl x0), none, none]) (st' := [.inl (s 39 10)]) (h1 := hp L s c e) rfl ?_
  refine RuP.step (pc' := 8) (ls' := [some (.inr (.inr (some 66))), some (.inl x0), some (.inl (s 39 10)), none]) (st' := []) (h1 := hp L s c e) rfl ?_
  refine RuP.step (pc' := 9) (ls' := [some (.inr (.inr (some 66))), some (.inl x0), some (.inl (s 39 10)), none]) (st' := [.inr (.inr (some 66))]) (h1 := hp L s c e) rfl ?_
  refine RuP.step (pc' := 12) (ls' := [some (.inr (.inr (some 66))), some (.inl x0), some (.inl (s 39 10)), none]) (st' := [.inr (.inr (some 39))]) (h1 := hp L s c e) rfl ?_
  refine RuP.step (pc' := 13) (ls' := [some (.inr (.inr (some 66))), some (.inl x0), some (.inl (s 39 10)), none]) (st' := [.inl (s 39 10), .inr (.inr (some 39))]) (h1 := hp L s c e) rfl ?_
  refine RuP.step (pc' := 14) (ls' := [some (.inr (.inr (some 66))), some (.inl x0), some (.inl (s 39 10)), none]) (st' := [.inl 2, .inl (s 39 10), .inr (.inr (some 39))]) (h1 := hp L s c e) rfl ?_
  obtain ⟨b0, h⟩ := gd_some h
  obtain ⟨q1, h1, h⟩ := bd_some h
  refine RuP.cVe h1 rfl (EvP.v ((ev_99 (s 39 10) 2 b0).up (by omega))) ?_
  refine RuP.step (pc' := 18) (ls' := [some (.inr (.inr (some 66))), some (.inl x0), some (.inl (s 39 10)), none]) (st' := [.inr (.inr (some 66))]) (h1 := hp L q1 c e) rfl ?_
  refine RuP.step (pc' := 21) (ls' := [some (.inr (.inr (some 66))), some (.inl x0), some (.inl (s 39 10)), none]) (st' := [.inr (.inr (some 39))]) (h1 := hp L q1 c e) rfl ?_
  refine RuP.step (pc' := 23) (ls' := [some (.inr (.inr (some 66))), some (.inl x0), some (.inl (s 39 10)), none]) (st' := [.inl 40, .inr (.inr (some 39))]) (h1 := hp L q1 c e) rfl ?_
  rcases xb_some h with ⟨q2, h1, h⟩ | ⟨xx1, h1, h2⟩
  rotate_left
  · subst h2
    exact RuP.pass rfl rfl ((ev_92 h1).up (by omega))
  refine RuP.cV rfl ((ev_92 h1).up (by omega)) ?_
  refine RuP.step (pc' := 27) (ls' := [some (.inr (.inr (some 66))), some (.inl x0), some (.inl (s 39 10)), none]) (st' := [.inr (.inr (some 66))]) (h1 := hp L q2 c e) rfl ?_
  refine RuP.step (pc' := 28) (ls' := [some (.inr (.inr (some 66))), some (.inl x0), some (.inl (s 39 10)), none]) (st' := [.inl x0, .inr (.inr (some 66))]) (h1 := hp L q2 c e) rfl ?_
  refine RuP.step (pc' := 29) (ls' := [some (.inr (.inr (some 66))), some (.inl x0), some (.inl (s 39 10)), none]) (st' := [.inl 1, .inl x0, .inr (.inr (some 66))]) (h1 := hp L q2 c e) rfl ?_
  refine RuP.step (pc' := 30) (ls' := [some (.inr (.inr (some 66))), some (.inl x0), some (.inl (s 39 10)), none]) (st' := [.inl (ax_w32 (x0 + 1)), .inr (.inr (some 66))]) (h1 := hp L q2 c e) rfl ?_
  rcases xb_some h with ⟨q3, h1, h⟩ | ⟨xx1, h1, h2⟩
  rotate_left
  · subst h2
    exact RuP.pass rfl rfl ((hex _ _ _ h1).up (by omega))
  refine RuP.cV rfl ((hex _ _ _ h1).up (by omega)) ?_
  refine RuP.step (pc' := 34) (ls' := [some (.inr (.inr (some 66))), some (.inl x0), some (.inl (s 39 10)), none]) (st' := [.inr (.inr (some 66))]) (h1 := hp L q3 c e) rfl ?_
  refine RuP.step (pc' := 37) (ls' := [some (.inr (.inr (some 66))), some (.inl x0), some (.inl (s 39 10)), none]) (st' := [.inr (.inr (some 39))]) (h1 := hp L q3 c e) rfl ?_
  refine RuP.step (pc' := 40) (ls' := [some (.inr (.inr (some 66))), some (.inl x0), some (.inl (s 39 10)), none]) (st' := [.inl (q3 39 10)]) (h1 := hp L q3 c e) rfl ?_
  refine RuP.step (pc' := 41) (ls' := [some (.inr (.inr (some 66))), some (.inl x0), some (.inl (s 39 10)), some (.inl (q3 39 10))]) (st' := []) (h1 := hp L q3 c e) rfl ?_
  refine RuP.step (pc' := 42) (ls' := [some (.inr (.inr (some 66))), some (.inl x0), some (.inl (s 39 10)), some (.inl (q3 39 10))]) (st' := [.inr (.inr (some 66))]) (h1 := hp L q3 c e) rfl ?_
  refine RuP.step (pc' := 45) (ls' := [some (.inr (.inr (some 66))), some (.inl x0), some (.inl (s 39 10)), some (.inl (q3 39 10))]) (st' := [.inr (.inr (some 39))]) (h1 := hp L q3 c e) rfl ?_
  refine RuP.step (pc' := 46) (ls' := [some (.inr (.inr (some 66))), some (.inl x0), some (.inl (s 39 10)), some (.inl (q3 39 10))]) (st' := [.inl (q3 39 10), .inr (.inr (some 39))]) (h1 := hp L q3 c e) rfl ?_
  refine RuP.step (pc' := 47) (ls' := [some (.inr (.inr (some 66))), some (.inl x0), some (.inl (s 39 10)), some (.inl (q3 39 10))]) (st' := [.inl 2, .inl (q3 39 10), .inr (.inr (some 39))]) (h1 := hp L q3 c e) rfl ?_
  obtain ⟨b1, h⟩ := gd_some h
  obtain ⟨q4, h1, h⟩ := bd_some h
  refine RuP.cVe h1 rfl (EvP.v ((ev_99 (q3 39 10) 2 b1).up (by omega))) ?_
  refine RuP.step (pc' := 51) (ls' := [some (.inr (.inr (some 66))), some (.inl x0), some (.inl (s 39 10)), some (.inl (q3 39 10))]) (st' := [.inr (.inr (some 66))]) (h1 := hp L q4 c e) rfl ?_
  refine RuP.step (pc' := 54) (ls' := [some (.inr (.inr (some 66))), some (.inl x0), some (.inl (s 39 10)), some (.inl (q3 39 10))]) (st' := [.inr (.inr (some 39))]) (h1 := hp L q4 c e) rfl ?_
  refine RuP.step (pc' := 56) (ls' := [some (.inr (.inr (some 66))), some (.inl x0), some (.inl (s 39 10)), some (.inl (q3 39 10))]) (st' := [.inl 41, .inr (.inr (some 39))]) (h1 := hp L q4 c e) rfl ?_
  rcases xb_some h with ⟨q5, h1, h⟩ | ⟨xx1, h1, h2⟩
  rotate_left
  · subst h2
    exact RuP.pass rfl rfl ((ev_92 h1).up (by omega))
  refine RuP.cV rfl ((ev_92 h1).up (by omega)) ?_
  refine RuP.step (pc' := 60) (ls' := [some (.inr (.inr (some 66))), some (.inl x0), some (.inl (s 39 10)), some (.inl (q3 39 10))]) (st' := [.inr (.inr (some 66))]) (h1 := hp L q5 c e) rfl ?_
  refine RuP.step (pc' := 61) (ls' := [some (.inr (.inr (some 66))), some (.inl x0), some (.inl (s 39 10)), some (.inl (q3 39 10))]) (st' := [.inl (s 39 10), .inr (.inr (some 66))]) (h1 := hp L q5 c e) rfl ?_
  refine RuP.step (pc' := 64) (ls' := [some (.inr (.inr (some 66))), some (.inl x0), some (.inl (s 39 10)), some (.inl (q3 39 10))]) (st' := []) (h1 := hp L (ax_u2 q5 66 9 (s 39 10)) c e) rfl ?_
  refine RuP.step (pc' := 65) (ls' := [some (.inr (.inr (some 66))), some (.inl x0), some (.inl (s 39 10)), some (.inl (q3 39 10))]) (st' := [.inr (.inr (some 66))]) (h1 := hp L (ax_u2 q5 66 9 (s 39 10)) c e) rfl ?_
  refine RuP.step (pc' := 66) (ls' := [some (.inr (.inr (some 66))), some (.inl x0), some (.inl (s 39 10)), some (.inl (q3 39 10))]) (st' := [.inl (s 39 10), .inr (.inr (some 66))]) (h1 := hp L (ax_u2 q5 66 9 (s 39 10)) c e) rfl ?_
  refine RuP.step (pc' := 69) (ls' := [some (.inr (.inr (some 66))), some (.inl x0), some (.inl (s 39 10)), some (.inl (q3 39 10))]) (st' := []) (h1 := hp L (ax_u2 (ax_u2 q5 66 9 (s 39 10)) 66 11 (s 39 10)) c e) rfl ?_
  refine RuP.step (pc' := 70) (ls' := [some (.inr (.inr (some 66))), some (.inl x0), some (.inl (s 39 10)), some (.inl (q3 39 10))]) (st' := [.inr (.inr (some 66))]) (h1 := hp L (ax_u2 (ax_u2 q5 66 9 (s 39 10)) 66 11 (s 39 10)) c e) rfl ?_
  refine RuP.step (pc' := 71) (ls' := [some (.inr (.inr (some 66))), some (.inl x0), some (.inl (s 39 10)), some (.inl (q3 39 10))]) (st' := [.inl (q3 39 10), .inr (.inr (some 66))]) (h1 := hp L (ax_u2 (ax_u2 q5 66 9 (s 39 10)) 66 11 (s 39 10)) c e) rfl ?_
  refine RuP.step (pc' := 74) (ls' := [some (.inr (.inr (some 66))), some (.inl x0), some (.inl (s 39 10)), some (.inl (q3 39 10))]) (st' := []) (h1 := hp L (ax_u2 (ax_u2 (ax_u2 q5 66 9 (s 39 10)) 66 11 (s 39 10)) 66 12 (q3 39 10)) c e) rfl ?_
  cases h
  exact RuP.dV rfl
/-- MachineText$Expressions.list(II)V -/
noncomputable def j_53_171 (ex : Int → Sg → Option (Sum Sg (Nat × Sg))) (l2 l3 l5 l7 : Int) (s : Sg) : Option (Sum (Sg) (Nat × Sg)) :=
  (xb (f_92 41 s) fun q3 =>
  (gd (g_124 l2 l3 l5 l7 q3) (
  ((some (f_124 l2 l3 l5 l7 q3)).bind fun q4 =>
  ((f_62 q4.1 l3 q4.2).bind fun q5 =>
  some (.inl q5))))))
theorem bl_53_171 {L c : Nat} {e : Nat → Nat} {m : Nat} {ex : Int → Sg → Option (Sum Sg (Nat × Sg))} (hm : 20 ≤ m) (hex : ∀ d s q, ex d s = some q → EvP m 45 [.inr (.inr (some 66)), .inl d] (hp L s c e) (oX L c (oV L c e) q)) : ∀ (z1 z4 z6 z8 : Int) (l2 l3 l5 l7 : Int) (s : Sg) (q : Sum (Sg) (Nat × Sg)), j_53_171 ex l2 l3 l5 l7 s = some q → RuP m tb_m53 171 [some (.inr (.inr (some 66))), some (.inl z1), some (.inl l2), some (.inl l3), some (.inl z4), some (.inl l5), some (.inl z6), some (.inl l7), some (.inl z8)] [] (hp L s c e) (oX L c (oV L c e) q) := by
  intro z1 z4 z6 z8 l2 l3 l5 l7 s q h
  unfold j_53_171 at h
  refine RuP.step (pc' := 172) (ls' := [some (.inr (.inr (some 66))), some (.inl z1), some (.inl l2), some (.inl l3), some (.inl z4), some (.inl l5), some (.inl z6), some (.inl l7), some (.inl z8)]) (st' := [.inr (.inr (some 66))]) (h1 := hp L s c e) rfl ?_
  refine RuP.step (pc' := 175) (ls' := [some (.inr (.inr (some 66))), some (.inl z1), some (.inl l2), some (.inl l3), some (.inl z4), some (.inl l5), some (.inl z6), some (.inl l7), some (.inl z8)]) (st' := [.inr (.inr (some 39))]) (h1 := hp L s c e) rfl ?_
  refine RuP.step (pc' := 177) (ls' := [some (.inr (.inr (some 66))), some (.inl z1), some (.inl l2), some (.inl l3), some (.inl z4), some (.inl l5), some (.inl z6), some (.inl l7), some (.inl z8)]) (st' := [.inl 41, .inr (.inr (some 39))]) (h1 := hp L s c e) rfl ?_
  rcases xb_some h with ⟨q3, h1, h⟩ | ⟨xx1, h1, h2⟩
  rotate_left
  · subst h2
    exact RuP.pass rfl rfl ((ev_92 h1).up (by omega))
  refine RuP.cV rfl ((ev_92 h1).up (by omega)) ?_
  refine RuP.step (pc' := 181) (ls' := [some (.inr (.inr (some 66))), some (.inl z1), some (.inl l2), some (.inl l3), some (.inl z4), some (.inl l5), some (.inl z6), some (.inl l7), some (.inl z8)]) (st' := [.inr (.inr (some 66))]) (h1 := hp L q3 c e) rfl ?_
  refine RuP.step (pc' := 182) (ls' := [some (.inr (.inr (some 66))), some (.inl z1), some (.inl l2), some (.inl l3), some (.inl z4), some (.inl l5), some (.inl z6), some (.inl l7), some (.inl z8)]) (st' := [.inr (.inr (some 66)), .inr (.inr (some 66))]) (h1 := hp L q3 c e) rfl ?_
  refine RuP.step (pc' := 185) (ls' := [some (.inr (.inr (some 66))), some (.inl z1), some (.inl l2), some (.inl l3), some (.inl z4), some (.inl l5), some (.inl z6), some (.inl l7), some (.inl z8)]) (st' := [.inr (.inr (some 46)), .inr (.inr (some 66))]) (h1 := hp L q3 c e) rfl ?_
  refine RuP.step (pc' := 186) (ls' := [some (.inr (.inr (some 66))), some (.inl z1), some (.inl l2), some (.inl l3), some (.inl z4), some (.inl l5), some (.inl z6), some (.inl l7), some (.inl z8)]) (st' := [.inl l2, .inr (.inr (some 46)), .inr (.inr (some 66))]) (h1 := hp L q3 c e) rfl ?_
  refine RuP.step (pc' := 187) (ls' := [some (.inr (.inr (some 66))), some (.inl z1), some (.inl l2), some (.inl l3), some (.inl z4), some (.inl l5), some (.inl z6), some (.inl l7), some (.inl z8)]) (st' := [.inl l3, .inl l2, .inr (.inr (some 46)), .inr (.inr (some 66))]) (h1 := hp L q3 c e) rfl ?_
  refine RuP.step (pc' := 189) (ls' := [some (.inr (.inr (some 66))), some (.inl z1), some (.inl l2), some (.inl l3), some (.inl z4), some (.inl l5), some (.inl z6), some (.inl l7), some (.inl z8)]) (st' := [.inl l5, .inl l3, .inl l2, .inr (.inr (some 46)), .inr (.inr (some 66))]) (h1 := hp L q3 c e) rfl ?_
  refine RuP.step (pc' := 191) (ls' := [some (.inr (.inr (some 66))), some (.inl z1), some (.inl l2), some (.inl l3), some (.inl z4), some (.inl l5), some (.inl z6), some (.inl l7), some (.inl z8)]) (st' := [.inl l7, .inl l5, .inl l3, .inl l2, .inr (.inr (some 46)), .inr (.inr (some 66))]) (h1 := hp L q3 c e) rfl ?_
  obtain ⟨b0, h⟩ := gd_some h
  obtain ⟨q4, h1, h⟩ := bd_some h
  refine RuP.cIe h1 rfl (EvP.ip ((ev_124 l2 l3 l5 l7 b0).up (by omega))) ?_
  refine RuP.step (pc' := 195) (ls' := [some (.inr (.inr (some 66))), some (.inl z1), some (.inl l2), some (.inl l3), some (.inl z4), some (.inl l5), some (.inl z6), some (.inl l7), some (.inl z8)]) (st' := [.inl l3, .inl q4.1, .inr (.inr (some 66))]) (h1 := hp L q4.2 c e) rfl ?_
  obtain ⟨q5, h1, h⟩ := bd_some h
  refine RuP.cV rfl ((ev_62 h1).up (by omega)) ?_
  cases h
  exact RuP.dV rfl
noncomputable def j_53_70 (ex : Int → Sg → Option (Sum Sg (Nat × Sg))) : Nat → Int → Int → Int → Int → Int → Int → Int → Int → Sg → Option (Sum (Sg) (Nat × Sg))
  | 0, _, _, _, _, _, _, _, _, _ => none
  | F + 1, l1, l2, l3, l4, l5, l6, l7, l8, s =>
    (if l8 = 0 then
      j_53_171 ex l2 l3 l5 l7 s
    else
      (if 8192 < l7 then
        j_53_171 ex l2 l3 l5 l7 s
      else
        (xb (ex (ax_w32 (l1 + 1)) s) fun q6 =>
        (gd (g_126 l6 (q6 66 8) q6) (
        ((some (f_126 l6 (q6 66 8) q6)).bind fun q7 =>
        (if ((if ax_w32 (l7 + 1) < l4 then 1 else (if ¬ (q7 39 11) = 44 then 0 else 1)) : Int) = 0 then
          (j_53_70 ex F) l1 l2 l3 l4 ((if ¬ l7 = 0 then l5 else q7 66 8) : Int) (q7 66 8) (ax_w32 (l7 + 1)) ((if ax_w32 (l7 + 1) < l4 then 1 else (if ¬ (q7 39 11) = 44 then 0 else 1)) : Int) q7
        else
          (xb (f_92 44 q7) fun q8 =>
          (j_53_70 ex F) l1 l2 l3 l4 ((if ¬ l7 = 0 then l5 else q7 66 8) : Int) (q7 66 8) (ax_w32 (l7 + 1)) ((if ax_w32 (l7 + 1) < l4 then 1 else (if ¬ (q7 39 11) = 44 then 0 else 1)) : Int) q8))))))))
theorem bl_53_70 {L c : Nat} {e : Nat → Nat} {m : Nat} {ex : Int → Sg → Option (Sum Sg (Nat × Sg))} (hm : 20 ≤ m) (hex : ∀ d s q, ex d s = some q → EvP m 45 [.inr (.inr (some 66)), .inl d] (hp L s c e) (oX L c (oV L c e) q)) : ∀ (F : Nat) (l1 l2 l3 l4 l5 l6 l7 l8 : Int) (s : Sg) (q : Sum (Sg) (Nat × Sg)), j_53_70 ex F l1 l2 l3 l4 l5 l6 l7 l8 s = some q → RuP m tb_m53 70 [some (.inr (.inr (some 66))), some (.inl l1), some (.inl l2), some (.inl l3), some (.inl l4), some (.inl l5), some (.inl l6), some (.inl l7), some (.inl l8)] [] (hp L s c e) (oX L c (oV L c e) q) := by
  intro F
  induction F with
  | zero =>
    intro l1 l2 l3 l4 l5 l6 l7 l8 s q h
    rw [j_53_70] at h
    cases h
  | succ F ih =>
    intro l1 l2 l3 l4 l5 l6 l7 l8 s q h
    rw [j_53_70] at h
    refine RuP.step (pc' := 72) (ls' := [some (.inr (.inr (some 66))), some (.inl l1), some (.inl l2), some (.inl l3), some (.inl l4), some (.inl l5), some (.inl l6), some (.inl l7), some (.inl l8)]) (st' := [.inl l8]) (h1 := hp L s c e) rfl ?_
    by_cases h0 : l8 = 0
    · rw [if_pos h0] at h
      refine RuP.jy rfl h0 ?_
      exact bl_53_171 hm hex _ _ _ _ _ _ _ _ _ _ h
    · rw [if_neg h0] at h
      refine RuP.jn rfl h0 ?_
      refine RuP.step (pc' := 77) (ls' := [some (.inr (.inr (some 66))), some (.inl l1), some (.inl l2), some (.inl l3), some (.inl l4), some (.inl l5), some (.inl l6), some (.inl l7), some (.inl l8)]) (st' := [.inl l7]) (h1 := hp L s c e) rfl ?_
      refine RuP.step (pc' := 80) (ls' := [some (.inr (.inr (some 66))), some (.inl l1), some (.inl l2), some (.inl l3), some (.inl l4), some (.inl l5), some (.inl l6), some (.inl l7), some (.inl l8)]) (st' := [.inl 8192, .inl l7]) (h1 := hp L s c e) rfl ?_
      by_cases h1 : 8192 < l7
      · rw [if_pos h1] at h
        refine RuP.jy rfl h1 ?_
        exact bl_53_171 hm hex _ _ _ _ _ _ _ _ _ _ h
      · rw [if_neg h1] at h
        refine RuP.jn rfl h1 ?_
        refine RuP.step (pc' := 84) (ls' := [some (.inr (.inr (some 66))), some (.inl l1), some (.inl l2), some (.inl l3), some (.inl l4), some (.inl l5), some (.inl l6), some (.inl l7), some (.inl l8)]) (st' := [.inr (.inr (some 66))]) (h1 := hp L s c e) rfl ?_
        refine RuP.step (pc' := 85) (ls' := [some (.inr (.inr (some 66))), some (.inl l1), some (.inl l2), some (.inl l3), some (.inl l4), some (.inl l5), some (.inl l6), some (.inl l7), some (.inl l8)]) (st' := [.inl l1, .inr (.inr (some 66))]) (h1 := hp L s c e) rfl ?_
        refine RuP.step (pc' := 86) (ls' := [some (.inr (.inr (some 66))), some (.inl l1), some (.inl l2), some (.inl l3), some (.inl l4), some (.inl l5), some (.inl l6), some (.inl l7), some (.inl l8)]) (st' := [.inl 1, .inl l1, .inr (.inr (some 66))]) (h1 := hp L s c e) rfl ?_
        refine RuP.step (pc' := 87) (ls' := [some (.inr (.inr (some 66))), some (.inl l1), some (.inl l2), some (.inl l3), some (.inl l4), some (.inl l5), some (.inl l6), some (.inl l7), some (.inl l8)]) (st' := [.inl (ax_w32 (l1 + 1)), .inr (.inr (some 66))]) (h1 := hp L s c e) rfl ?_
        rcases xb_some h with ⟨q6, h1, h⟩ | ⟨xx1, h1, h2⟩
        rotate_left
        · subst h2
          exact RuP.pass rfl rfl ((hex _ _ _ h1).up (by omega))
        refine RuP.cV rfl ((hex _ _ _ h1).up (by omega)) ?_
        refine RuP.step (pc' := 91) (ls' := [some (.inr (.inr (some 66))), some (.inl l1), some (.inl l2), some (.inl l3), some (.inl l4), some (.inl l5), some (.inl l6), some (.inl l7), some (.inl l8)]) (st' := [.inr (.inr (some 66))]) (h1 := hp L q6 c e) rfl ?_
        refine RuP.step (pc' := 94) (ls' := [some (.inr (.inr (some 66))), some (.inl l1), some (.inl l2), some (.inl l3), some (.inl l4), some (.inl l5), some (.inl l6), some (.inl l7), some (.inl l8)]) (st' := [.inr (.inr (some 46))]) (h1 := hp L q6 c e) rfl ?_
        refine RuP.step (pc' := 96) (ls' := [some (.inr (.inr (some 66))), some (.inl l1), some (.inl l2), some (.inl l3), some (.inl l4), some (.inl l5), some (.inl l6), some (.inl l7), some (.inl l8)]) (st' := [.inl l6, .inr (.inr (some 46))]) (h1 := hp L q6 c e) rfl ?_
        refine RuP.step (pc' := 97) (ls' := [some (.inr (.inr (some 66))), some (.inl l1), some (.inl l2), some (.inl l3), some (.inl l4), some (.inl l5), some (.inl l6), some (.inl l7), some (.inl l8)]) (st' := [.inr (.inr (some 66)), .inl l6, .inr (.inr (some 46))]) (h1 := hp L q6 c e) rfl ?_
        refine RuP.step (pc' := 100) (ls' := [some (.inr (.inr (some 66))), some (.inl l1), some (.inl l2), some (.inl l3), some (.inl l4), some (.inl l5), some (.inl l6), some (.inl l7), some (.inl l8)]) (st' := [.inl (q6 66 8), .inl l6, .inr (.inr (some 46))]) (h1 := hp L q6 c e) rfl ?_
        obtain ⟨b2, h⟩ := gd_some h
        obtain ⟨q7, h1, h⟩ := bd_some h
        refine RuP.cVe h1 rfl (EvP.v ((ev_126 l6 (q6 66 8) b2).up (by omega))) ?_
        refine RuP.step (pc' := 105) (ls' := [some (.inr (.inr (some 66))), some (.inl l1), some (.inl l2), some (.inl l3), some (.inl l4), some (.inl l5), some (.inl l6), some (.inl l7), some (.inl l8)]) (st' := [.inl l7]) (h1 := hp L q7 c e) rfl ?_
        have J4 : ∀ v3_0 : Int, v3_0 = ((if ¬ l7 = 0 then l5 else q7 66 8) : Int) → RuP m tb_m53 117 [some (.inr (.inr (some 66))), some (.inl l1), some (.inl l2), some (.inl l3), some (.inl l4), some (.inl l5), some (.inl l6), some (.inl l7), some (.inl l8)] [.inl v3_0] (hp L q7 c e) (oX L c (oV L c e) q) := by
          intro v3_0 ev3_0
          subst ev3_0
          refine RuP.step (pc' := 119) (ls' := [some (.inr (.inr (some 66))), some (.inl l1), some (.inl l2), some (.inl l3), some (.inl l4), some (.inl ((if ¬ l7 = 0 then l5 else q7 66 8) : Int)), some (.inl l6), some (.inl l7), some (.inl l8)]) (st' := []) (h1 := hp L q7 c e) rfl ?_
          refine RuP.step (pc' := 120) (ls' := [some (.inr (.inr (some 66))), some (.inl l1), some (.inl l2), some (.inl l3), some (.inl l4), some (.inl ((if ¬ l7 = 0 then l5 else q7 66 8) : Int)), some (.inl l6), some (.inl l7), some (.inl l8)]) (st' := [.inr (.inr (some 66))]) (h1 := hp L q7 c e) rfl ?_
          refine RuP.step (pc' := 123) (ls' := [some (.inr (.inr (some 66))), some (.inl l1), some (.inl l2), some (.inl l3), some (.inl l4), some (.inl ((if ¬ l7 = 0 then l5 else q7 66 8) : Int)), some (.inl l6), some (.inl l7), some (.inl l8)]) (st' := [.inl (q7 66 8)]) (h1 := hp L q7 c e) rfl ?_
          refine RuP.step (pc' := 125) (ls' := [some (.inr (.inr (some 66))), some (.inl l1), some (.inl l2), some (.inl l3), some (.inl l4), some (.inl ((if ¬ l7 = 0 then l5 else q7 66 8) : Int)), some (.inl (q7 66 8)), some (.inl l7), some (.inl l8)]) (st' := []) (h1 := hp L q7 c e) rfl ?_
          refine RuP.step (pc' := 128) (ls' := [some (.inr (.inr (some 66))), some (.inl l1), some (.inl l2), some (.inl l3), some (.inl l4), some (.inl ((if ¬ l7 = 0 then l5 else q7 66 8) : Int)), some (.inl (q7 66 8)), some (.inl (ax_w32 (l7 + 1))), some (.inl l8)]) (st' := []) (h1 := hp L q7 c e) rfl ?_
          refine RuP.step (pc' := 130) (ls' := [some (.inr (.inr (some 66))), some (.inl l1), some (.inl l2), some (.inl l3), some (.inl l4), some (.inl ((if ¬ l7 = 0 then l5 else q7 66 8) : Int)), some (.inl (q7 66 8)), some (.inl (ax_w32 (l7 + 1))), some (.inl l8)]) (st' := [.inl (ax_w32 (l7 + 1))]) (h1 := hp L q7 c e) rfl ?_
          refine RuP.step (pc' := 132) (ls' := [some (.inr (.inr (some 66))), some (.inl l1), some (.inl l2), some (.inl l3), some (.inl l4), some (.inl ((if ¬ l7 = 0 then l5 else q7 66 8) : Int)), some (.inl (q7 66 8)), some (.inl (ax_w32 (l7 + 1))), some (.inl l8)]) (st' := [.inl l4, .inl (ax_w32 (l7 + 1))]) (h1 := hp L q7 c e) rfl ?_
          have J5 : ∀ v4_0 : Int, v4_0 = ((if ax_w32 (l7 + 1) < l4 then 1 else (if ¬ (q7 39 11) = 44 then 0 else 1)) : Int) → RuP m tb_m53 152 [some (.inr (.inr (some 66))), some (.inl l1), some (.inl l2), some (.inl l3), some (.inl l4), some (.inl ((if ¬ l7 = 0 then l5 else q7 66 8) : Int)), some (.inl (q7 66 8)), some (.inl (ax_w32 (l7 + 1))), some (.inl l8)] [.inl v4_0] (hp L q7 c e) (oX L c (oV L c e) q) := by
            intro v4_0 ev4_0
            subst ev4_0
            refine RuP.step (pc' := 154) (ls' := [some (.inr (.inr (some 66))), some (.inl l1), some (.inl l2), some (.inl l3), some (.inl l4), some (.inl ((if ¬ l7 = 0 then l5 else q7 66 8) : Int)), some (.inl (q7 66 8)), some (.inl (ax_w32 (l7 + 1))), some (.inl ((if ax_w32 (l7 + 1) < l4 then 1 else (if ¬ (q7 39 11) = 44 then 0 else 1)) : Int))]) (st' := []) (h1 := hp L q7 c e) rfl ?_
            refine RuP.step (pc' := 156) (ls' := [some (.inr (.inr (some 66))), some (.inl l1), some (.inl l2), some (.inl l3), some (.inl l4), some (.inl ((if ¬ l7 = 0 then l5 else q7 66 8) : Int)), some (.inl (q7 66 8)), some (.inl (ax_w32 (l7 + 1))), some (.inl ((if ax_w32 (l7 + 1) < l4 then 1 else (if ¬ (q7 39 11) = 44 then 0 else 1)) : Int))]) (st' := [.inl ((if ax_w32 (l7 + 1) < l4 then 1 else (if ¬ (q7 39 11) = 44 then 0 else 1)) : Int)]) (h1 := hp L q7 c e) rfl ?_
            by_cases h5 : ((if ax_w32 (l7 + 1) < l4 then 1 else (if ¬ (q7 39 11) = 44 then 0 else 1)) : Int) = 0
            · rw [if_pos h5] at h
              refine RuP.jy rfl h5 ?_
              exact ih _ _ _ _ _ _ _ _ _ _ h
            · rw [if_neg h5] at h
              refine RuP.jn rfl h5 ?_
              refine RuP.step (pc' := 160) (ls' := [some (.inr (.inr (some 66))), some (.inl l1), some (.inl l2), some (.inl l3), some (.inl l4), some (.inl ((if ¬ l7 = 0 then l5 else q7 66 8) : Int)), some (.inl (q7 66 8)), some (.inl (ax_w32 (l7 + 1))), some (.inl ((if ax_w32 (l7 + 1) < l4 then 1 else (if ¬ (q7 39 11) = 44 then 0 else 1)) : Int))]) (st' := [.inr (.inr (some 66))]) (h1 := hp L q7 c e) rfl ?_
              refine RuP.step (pc' := 163) (ls' := [some (.inr (.inr (some 66))), some (.inl l1), some (.inl l2), some (.inl l3), some (.inl l4), some (.inl ((if ¬ l7 = 0 then l5 else q7 66 8) : Int)), some (.inl (q7 66 8)), some (.inl (ax_w32 (l7 + 1))), some (.inl ((if ax_w32 (l7 + 1) < l4 then 1 else (if ¬ (q7 39 11) = 44 then 0 else 1)) : Int))]) (st' := [.inr (.inr (some 39))]) (h1 := hp L q7 c e) rfl ?_
              refine RuP.step (pc' := 165) (ls' := [some (.inr (.inr (some 66))), some (.inl l1), some (.inl l2), some (.inl l3), some (.inl l4), some (.inl ((if ¬ l7 = 0 then l5 else q7 66 8) : Int)), some (.inl (q7 66 8)), some (.inl (ax_w32 (l7 + 1))), some (.inl ((if ax_w32 (l7 + 1) < l4 then 1 else (if ¬ (q7 39 11) = 44 then 0 else 1)) : Int))]) (st' := [.inl 44, .inr (.inr (some 39))]) (h1 := hp L q7 c e) rfl ?_
              rcases xb_some h with ⟨q8, h1, h⟩ | ⟨xx1, h1, h2⟩
              rotate_left
              · subst h2
                exact RuP.pass rfl rfl ((ev_92 h1).up (by omega))
              refine RuP.cV rfl ((ev_92 h1).up (by omega)) ?_
              refine RuP.step (pc' := 70) (ls' := [some (.inr (.inr (some 66))), some (.inl l1), some (.inl l2), some (.inl l3), some (.inl l4), some (.inl ((if ¬ l7 = 0 then l5 else q7 66 8) : Int)), some (.inl (q7 66 8)), some (.inl (ax_w32 (l7 + 1))), some (.inl ((if ax_w32 (l7 + 1) < l4 then 1 else (if ¬ (q7 39 11) = 44 then 0 else 1)) : Int))]) (st' := []) (h1 := hp L q8 c e) rfl ?_
              exact ih _ _ _ _ _ _ _ _ _ _ h
          by_cases h6 : ax_w32 (l7 + 1) < l4
          · refine RuP.jy rfl h6 ?_
            refine RuP.step (pc' := 148) (ls' := [some (.inr (.inr (some 66))), some (.inl l1), some (.inl l2), some (.inl l3), some (.inl l4), some (.inl ((if ¬ l7 = 0 then l5 else q7 66 8) : Int)), some (.inl (q7 66 8)), some (.inl (ax_w32 (l7 + 1))), some (.inl l8)]) (st' := [.inl 1]) (h1 := hp L q7 c e) rfl ?_
            refine RuP.step (pc' := 152) (ls' := [some (.inr (.inr (some 66))), some (.inl l1), some (.inl l2), some (.inl l3), some (.inl l4), some (.inl ((if ¬ l7 = 0 then l5 else q7 66 8) : Int)), some (.inl (q7 66 8)), some (.inl (ax_w32 (l7 + 1))), some (.inl l8)]) (st' := [.inl 1]) (h1 := hp L q7 c e) rfl ?_
            exact J5 _ (by simp only [if_pos h6])
          · refine RuP.jn rfl h6 ?_
            refine RuP.step (pc' := 136) (ls' := [some (.inr (.inr (some 66))), some (.inl l1), some (.inl l2), some (.inl l3), some (.inl l4), some (.inl ((if ¬ l7 = 0 then l5 else q7 66 8) : Int)), some (.inl (q7 66 8)), some (.inl (ax_w32 (l7 + 1))), some (.inl l8)]) (st' := [.inr (.inr (some 66))]) (h1 := hp L q7 c e) rfl ?_
            refine RuP.step (pc' := 139) (ls' := [some (.inr (.inr (some 66))), some (.inl l1), some (.inl l2), some (.inl l3), some (.inl l4), some (.inl ((if ¬ l7 = 0 then l5 else q7 66 8) : Int)), some (.inl (q7 66 8)), some (.inl (ax_w32 (l7 + 1))), some (.inl l8)]) (st' := [.inr (.inr (some 39))]) (h1 := hp L q7 c e) rfl ?_
            refine RuP.step (pc' := 142) (ls' := [some (.inr (.inr (some 66))), some (.inl l1), some (.inl l2), some (.inl l3), some (.inl l4), some (.inl ((if ¬ l7 = 0 then l5 else q7 66 8) : Int)), some (.inl (q7 66 8)), some (.inl (ax_w32 (l7 + 1))), some (.inl l8)]) (st' := [.inl (q7 39 11)]) (h1 := hp L q7 c e) rfl ?_
            refine RuP.step (pc' := 144) (ls' := [some (.inr (.inr (some 66))), some (.inl l1), some (.inl l2), some (.inl l3), some (.inl l4), some (.inl ((if ¬ l7 = 0 then l5 else q7 66 8) : Int)), some (.inl (q7 66 8)), some (.inl (ax_w32 (l7 + 1))), some (.inl l8)]) (st' := [.inl 44, .inl (q7 39 11)]) (h1 := hp L q7 c e) rfl ?_
            by_cases h7 : ¬ (q7 39 11) = 44
            · refine RuP.jy rfl h7 ?_
              refine RuP.step (pc' := 152) (ls' := [some (.inr (.inr (some 66))), some (.inl l1), some (.inl l2), some (.inl l3), some (.inl l4), some (.inl ((if ¬ l7 = 0 then l5 else q7 66 8) : Int)), some (.inl (q7 66 8)), some (.inl (ax_w32 (l7 + 1))), some (.inl l8)]) (st' := [.inl 0]) (h1 := hp L q7 c e) rfl ?_
              exact J5 _ (by simp only [if_neg h6, if_pos h7])
            · refine RuP.jn rfl h7 ?_
              refine RuP.step (pc' := 148) (ls' := [some (.inr (.inr (some 66))), some (.inl l1), some (.inl l2), some (.inl l3), some (.inl l4), some (.inl ((if ¬ l7 = 0 then l5 else q7 66 8) : Int)), some (.inl (q7 66 8)), some (.inl (ax_w32 (l7 + 1))), some (.inl l8)]) (st' := [.inl 1]) (h1 := hp L q7 c e) rfl ?_
              refine RuP.step (pc' := 152) (ls' := [some (.inr (.inr (some 66))), some (.inl l1), some (.inl l2), some (.inl l3), some (.inl l4), some (.inl ((if ¬ l7 = 0 then l5 else q7 66 8) : Int)), some (.inl (q7 66 8)), some (.inl (ax_w32 (l7 + 1))), some (.inl l8)]) (st' := [.inl 1]) (h1 := hp L q7 c e) rfl ?_
              exact J5 _ (by simp only [if_neg h6, if_neg h7])
        by_cases h8 : ¬ l7 = 0
        · refine RuP.jy rfl h8 ?_
          refine RuP.step (pc' := 117) (ls' := [some (.inr (.inr (some 66))), some (.inl l1), some (.inl l2), some (.inl l3), some (.inl l4), some (.inl l5), some (.inl l6), some (.inl l7), some (.inl l8)]) (st' := [.inl l5]) (h1 := hp L q7 c e) rfl ?_
          exact J4 _ (by simp only [if_pos h8])
        · refine RuP.jn rfl h8 ?_
          refine RuP.step (pc' := 109) (ls' := [some (.inr (.inr (some 66))), some (.inl l1), some (.inl l2), some (.inl l3), some (.inl l4), some (.inl l5), some (.inl l6), some (.inl l7), some (.inl l8)]) (st' := [.inr (.inr (some 66))]) (h1 := hp L q7 c e) rfl ?_
          refine RuP.step (pc' := 112) (ls' := [some (.inr (.inr (some 66))), some (.inl l1), some (.inl l2), some (.inl l3), some (.inl l4), some (.inl l5), some (.inl l6), some (.inl l7), some (.inl l8)]) (st' := [.inl (q7 66 8)]) (h1 := hp L q7 c e) rfl ?_
          refine RuP.step (pc' := 117) (ls' := [some (.inr (.inr (some 66))), some (.inl l1), some (.inl l2), some (.inl l3), some (.inl l4), some (.inl l5), some (.inl l6), some (.inl l7), some (.inl l8)]) (st' := [.inl (q7 66 8)]) (h1 := hp L q7 c e) rfl ?_
          exact J4 _ (by simp only [if_neg h8])
noncomputable def f_53 (ex : Int → Sg → Option (Sum Sg (Nat × Sg))) (x0 x1 : Int) (s : Sg) : Option (Sum (Sg) (Nat × Sg)) :=
  (gd (g_94 s) (
  ((some (f_94 s)).bind fun q1 =>
  (xb (f_92 40 q1) fun q2 =>
  j_53_70 ex FU x0 x1 (s 39 10) ((if ¬ x1 = 6 then 0 else 2) : Int) (-1) (-1) 0 ((if 0 < ((if ¬ x1 = 6 then 0 else 2) : Int) then 1 else (if q2 39 11 = 41 then 0 else 1)) : Int) q2))))
theorem ev_53 {L c : Nat} {e : Nat → Nat} {m : Nat} {ex : Int → Sg → Option (Sum Sg (Nat × Sg))} (hm : 20 ≤ m) (hex : ∀ d s q, ex d s = some q → EvP m 45 [.inr (.inr (some 66)), .inl d] (hp L s c e) (oX L c (oV L c e) q)) {s : Sg} {x0 x1 : Int} {q : Sum (Sg) (Nat × Sg)} (h : f_53 ex x0 x1 s = some q) : EvP (m + 1) 53 [.inr (.inr (some 66)), .inl x0, .inl x1] (hp L s c e) (oX L c (oV L c e) q) := by
  unfold f_53 at h
  refine EvP.of (μ := tb_m53) (ls := [some (.inr (.inr (some 66))), some (.inl x0), some (.inl x1), none, none, none, none, none, none]) rfl (Nat.le_of_ble_eq_true rfl) rfl ?_
  refine RuP.step (pc' := 1) (ls' := [some (.inr (.inr (some 66))), some (.inl x0), some (.inl x1), none, none, none, none, none, none]) (st' := [.inr (.inr (some 66))]) (h1 := hp L s c e) rfl ?_
  refine RuP.step (pc' := 4) (ls' := [some (.inr (.inr (some 66))), some (.inl x0), some (.inl x1), none, none, none, none, none, none]) (st' := [.inr (.inr (some 39))]) (h1 := hp L s c e) rfl ?_
  refine RuP.step (pc' := 7) (ls' := [some (.inr (.inr (some 66))), some (.inl x0), some (.inl x1), none, none, none, none, none, none]) (st' := [.inl (s 39 10)]) (h1 := hp L s c e) rfl ?_
  refine RuP.step (pc' := 8) (ls' := [some (.inr (.inr (some 66))), some (.inl x0), some (.inl x1), some (.inl (s 39 10)), none, none, none, none, none]) (st' := []) (h1 := hp L s c e) rfl ?_
  refine RuP.step (pc' := 9) (ls' := [some (.inr (.inr (some 66))), some (.inl x0), some (.inl x1), some (.inl (s 39 10)), none, none, none, none, none]) (st' := [.inl x1]) (h1 := hp L s c e) rfl ?_
  refine RuP.step (pc' := 11) (ls' := [some (.inr (.inr (some 66))), some (.inl x0), some (.inl x1), some (.inl (s 39 10)), none, none, none, none, none]) (st' := [.inl 6, .inl x1]) (h1 := hp L s c e) rfl ?_
  have J1 : ∀ v0_0 : Int, v0_0 = ((if ¬ x1 = 6 then 0 else 2) : Int) → RuP m tb_m53 19 [some (.inr (.inr (some 66))), some (.inl x0), some (.inl x1), some (.inl (s 39 10)), none, none, none, none, none] [.inl v0_0] (hp L s c e) (oX L c (oV L c e) q) := by
    intro v0_0 ev0_0
    subst ev0_0
    refine RuP.step (pc' := 21) (ls' := [some (.inr (.inr (some 66))), some (.inl x0), some (.inl x1), some (.inl (s 39 10)), some (.inl ((if ¬ x1 = 6 then 0 else 2) : Int)), none, none, none, none]) (st' := []) (h1 := hp L s c e) rfl ?_
    refine RuP.step (pc' := 22) (ls' := [some (.inr (.inr (some 66))), some (.inl x0), some (.inl x1), some (.inl (s 39 10)), some (.inl ((if ¬ x1 = 6 then 0 else 2) : Int)), none, none, none, none]) (st' := [.inr (.inr (some 66))]) (h1 := hp L s c e) rfl ?_
    refine RuP.step (pc' := 25) (ls' := [some (.inr (.inr (some 66))), some (.inl x0), some (.inl x1), some (.inl (s 39 10)), some (.inl ((if ¬ x1 = 6 then 0 else 2) : Int)), none, none, none, none]) (st' := [.inr (.inr (some 39))]) (h1 := hp L s c e) rfl ?_
    obtain ⟨b1, h⟩ := gd_some h
    obtain ⟨q1, h1, h⟩ := bd_some h
    refine RuP.cVe h1 rfl (EvP.v ((ev_94  b1).up (by omega))) ?_
    refine RuP.step (pc' := 29) (ls' := [some (.inr (.inr (some 66))), some (.inl x0), some (.inl x1), some (.inl (s 39 10)), some (.inl ((if ¬ x1 = 6 then 0 else 2) : Int)), none, none, none, none]) (st' := [.inr (.inr (some 66))]) (h1 := hp L q1 c e) rfl ?_
    refine RuP.step (pc' := 32) (ls' := [some (.inr (.inr (some 66))), some (.inl x0), some (.inl x1), some (.inl (s 39 10)), some (.inl ((if ¬ x1 = 6 then 0 else 2) : Int)), none, none, none, none]) (st' := [.inr (.inr (some 39))]) (h1 := hp L q1 c e) rfl ?_
    refine RuP.step (pc' := 34) (ls' := [some (.inr (.inr (some 66))), some (.inl x0), some (.inl x1), some (.inl (s 39 10)), some (.inl ((if ¬ x1 = 6 then 0 else 2) : Int)), none, none, none, none]) (st' := [.inl 40, .inr (.inr (some 39))]) (h1 := hp L q1 c e) rfl ?_
    rcases xb_some h with ⟨q2, h1, h⟩ | ⟨xx1, h1, h2⟩
    rotate_left
    · subst h2
      exact RuP.pass rfl rfl ((ev_92 h1).up (by omega))
    refine RuP.cV rfl ((ev_92 h1).up (by omega)) ?_
    refine RuP.step (pc' := 38) (ls' := [some (.inr (.inr (some 66))), some (.inl x0), some (.inl x1), some (.inl (s 39 10)), some (.inl ((if ¬ x1 = 6 then 0 else 2) : Int)), none, none, none, none]) (st' := [.inl (-1)]) (h1 := hp L q2 c e) rfl ?_
    refine RuP.step (pc' := 40) (ls' := [some (.inr (.inr (some 66))), some (.inl x0), some (.inl x1), some (.inl (s 39 10)), some (.inl ((if ¬ x1 = 6 then 0 else 2) : Int)), some (.inl (-1)), none, none, none]) (st' := []) (h1 := hp L q2 c e) rfl ?_
    refine RuP.step (pc' := 41) (ls' := [some (.inr (.inr (some 66))), some (.inl x0), some (.inl x1), some (.inl (s 39 10)), some (.inl ((if ¬ x1 = 6 then 0 else 2) : Int)), some (.inl (-1)), none, none, none]) (st' := [.inl (-1)]) (h1 := hp L q2 c e) rfl ?_
    refine RuP.step (pc' := 43) (ls' := [some (.inr (.inr (some 66))), some (.inl x0), some (.inl x1), some (.inl (s 39 10)), some (.inl ((if ¬ x1 = 6 then 0 else 2) : Int)), some (.inl (-1)), some (.inl (-1)), none, none]) (st' := []) (h1 := hp L q2 c e) rfl ?_
    refine RuP.step (pc' := 44) (ls' := [some (.inr (.inr (some 66))), some (.inl x0), some (.inl x1), some (.inl (s 39 10)), some (.inl ((if ¬ x1 = 6 then 0 else 2) : Int)), some (.inl (-1)), some (.inl (-1)), none, none]) (st' := [.inl 0]) (h1 := hp L q2 c e) rfl ?_
    refine RuP.step (pc' := 46) (ls' := [some (.inr (.inr (some 66))), some (.inl x0), some (.inl x1), some (.inl (s 39 10)), some (.inl ((if ¬ x1 = 6 then 0 else 2) : Int)), some (.inl (-1)), some (.inl (-1)), some (.inl 0), none]) (st' := []) (h1 := hp L q2 c e) rfl ?_
    refine RuP.step (pc' := 48) (ls' := [some (.inr (.inr (some 66))), some (.inl x0), some (.inl x1), some (.inl (s 39 10)), some (.inl ((if ¬ x1 = 6 then 0 else 2) : Int)), some (.inl (-1)), some (.inl (-1)), some (.inl 0), none]) (st' := [.inl ((if ¬ x1 = 6 then 0 else 2) : Int)]) (h1 := hp L q2 c e) rfl ?_
    have J3 : ∀ v2_0 : Int, v2_0 = ((if 0 < ((if ¬ x1 = 6 then 0 else 2) : Int) then 1 else (if q2 39 11 = 41 then 0 else 1)) : Int) → RuP m tb_m53 68 [some (.inr (.inr (some 66))), some (.inl x0), some (.inl x1), some (.inl (s 39 10)), some (.inl ((if ¬ x1 = 6 then 0 else 2) : Int)), some (.inl (-1)), some (.inl (-1)), some (.inl 0), none] [.inl v2_0] (hp L q2 c e) (oX L c (oV L c e) q) := by
      intro v2_0 ev2_0
      subst ev2_0
      refine RuP.step (pc' := 70) (ls' := [some (.inr (.inr (some 66))), some (.inl x0), some (.inl x1), some (.inl (s 39 10)), some (.inl ((if ¬ x1 = 6 then 0 else 2) : Int)), some (.inl (-1)), some (.inl (-1)), some (.inl 0), some (.inl ((if 0 < ((if ¬ x1 = 6 then 0 else 2) : Int) then 1 else (if q2 39 11 = 41 then 0 else 1)) : Int))]) (st' := []) (h1 := hp L q2 c e) rfl ?_
      exact bl_53_70 hm hex FU _ _ _ _ _ _ _ _ _ _ h
    by_cases h3 : 0 < ((if ¬ x1 = 6 then 0 else 2) : Int)
    · refine RuP.jy rfl h3 ?_
      refine RuP.step (pc' := 64) (ls' := [some (.inr (.inr (some 66))), some (.inl x0), some (.inl x1), some (.inl (s 39 10)), some (.inl ((if ¬ x1 = 6 then 0 else 2) : Int)), some (.inl (-1)), some (.inl (-1)), some (.inl 0), none]) (st' := [.inl 1]) (h1 := hp L q2 c e) rfl ?_
      refine RuP.step (pc' := 68) (ls' := [some (.inr (.inr (some 66))), some (.inl x0), some (.inl x1), some (.inl (s 39 10)), some (.inl ((if ¬ x1 = 6 then 0 else 2) : Int)), some (.inl (-1)), some (.inl (-1)), some (.inl 0), none]) (st' := [.inl 1]) (h1 := hp L q2 c e) rfl ?_
      exact J3 _ (by simp only [if_pos h3])
    · refine RuP.jn rfl h3 ?_
      refine RuP.step (pc' := 52) (ls' := [some (.inr (.inr (some 66))), some (.inl x0), some (.inl x1), some (.inl (s 39 10)), some (.inl ((if ¬ x1 = 6 then 0 else 2) : Int)), some (.inl (-1)), some (.inl (-1)), some (.inl 0), none]) (st' := [.inr (.inr (some 66))]) (h1 := hp L q2 c e) rfl ?_
      refine RuP.step (pc' := 55) (ls' := [some (.inr (.inr (some 66))), some (.inl x0), some (.inl x1), some (.inl (s 39 10)), some (.inl ((if ¬ x1 = 6 then 0 else 2) : Int)), some (.inl (-1)), some (.inl (-1)), some (.inl 0), none]) (st' := [.inr (.inr (some 39))]) (h1 := hp L q2 c e) rfl ?_
      refine RuP.step (pc' := 58) (ls' := [some (.inr (.inr (some 66))), some (.inl x0), some (.inl x1), some (.inl (s 39 10)), some (.inl ((if ¬ x1 = 6 then 0 else 2) : Int)), some (.inl (-1)), some (.inl (-1)), some (.inl 0), none]) (st' := [.inl (q2 39 11)]) (h1 := hp L q2 c e) rfl ?_
      refine RuP.step (pc' := 60) (ls' := [some (.inr (.inr (some 66))), some (.inl x0), some (.inl x1), some (.inl (s 39 10)), some (.inl ((if ¬ x1 = 6 then 0 else 2) : Int)), some (.inl (-1)), some (.inl (-1)), some (.inl 0), none]) (st' := [.inl 41, .inl (q2 39 11)]) (h1 := hp L q2 c e) rfl ?_
      by_cases h4 : q2 39 11 = 41
      · refine RuP.jy rfl h4 ?_
        refine RuP.step (pc' := 68) (ls' := [some (.inr (.inr (some 66))), some (.inl x0), some (.inl x1), some (.inl (s 39 10)), some (.inl ((if ¬ x1 = 6 then 0 else 2) : Int)), some (.inl (-1)), some (.inl (-1)), some (.inl 0), none]) (st' := [.inl 0]) (h1 := hp L q2 c e) rfl ?_
        exact J3 _ (by simp only [if_neg h3, if_pos h4])
      · refine RuP.jn rfl h4 ?_
        refine RuP.step (pc' := 64) (ls' := [some (.inr (.inr (some 66))), some (.inl x0), some (.inl x1), some (.inl (s 39 10)), some (.inl ((if ¬ x1 = 6 then 0 else 2) : Int)), some (.inl (-1)), some (.inl (-1)), some (.inl 0), none]) (st' := [.inl 1]) (h1 := hp L q2 c e) rfl ?_
        refine RuP.step (pc' := 68) (ls' := [some (.inr (.inr (some 66))), some (.inl x0), some (.inl x1), some (.inl (s 39 10)), some (.inl ((if ¬ x1 = 6 then 0 else 2) : Int)), some (.inl (-1)), some (.inl (-1)), some (.inl 0), none]) (st' := [.inl 1]) (h1 := hp L q2 c e) rfl ?_
        exact J3 _ (by simp only [if_neg h3, if_neg h4])
  by_cases h5 : ¬ x1 = 6
  · refine RuP.jy rfl h5 ?_
    refine RuP.step (pc' := 19) (ls' := [some (.inr (.inr (some 66))), some (.inl x0), some (.inl x1), some (.inl (s 39 10)), none, none, none, none, none]) (st' := [.inl 0]) (h1 := hp L s c e) rfl ?_
    exact J1 _ (by simp only [if_pos h5])
  · refine RuP.jn rfl h5 ?_
    refine RuP.step (pc' := 15) (ls' := [some (.inr (.inr (some 66))), some (.inl x0), some (.inl x1), some (.inl (s 39 10)), none, none, none, none, none]) (st' := [.inl 2]) (h1 := hp L s c e) rfl ?_
    refine RuP.step (pc' := 19) (ls' := [some (.inr (.inr (some 66))), some (.inl x0), some (.inl x1), some (.inl (s 39 10)), none, none, none, none, none]) (st' := [.inl 2]) (h1 := hp L s c e) rfl ?_
    exact J1 _ (by simp only [if_neg h5])
/-- MachineText$Expressions.slices()V -/
noncomputable def j_55_90 (k2 : (Int → Sg → Option (Sum (Sg) (Nat × Sg)))) (l1 l2 l4 : Int) (s : Sg) : Option (Sum (Sg) (Nat × Sg)) :=
  ((f_63 9 s).bind fun q5 =>
  (gd (g_124 7 (q5 66 9) (q5 66 8) 1 q5) (
  ((some (f_124 7 (q5 66 9) (q5 66 8) 1 q5)).bind fun q6 =>
  ((some (f_64 q6.1 (q6.2 66 9) 9 q6.2)).bind fun q7 =>
  (gd (g_123 (q7 66 8) (ax_w32 ((ax_w32 (l2 - l4)) + 1)) q7) (
  ((some (f_123 (q7 66 8) (ax_w32 ((ax_w32 (l2 - l4)) + 1)) q7)).bind fun q8 =>
  (gd (g_125 (q8 66 8) l4 q8) (
  ((some (f_125 (q8 66 8) l4 q8)).bind fun q9 =>
  k2 (ax_w32 (l1 + 1)) q9)))))))))))
theorem bl_55_90 {L c : Nat} {e : Nat → Nat} {k2 : (Int → Sg → Option (Sum (Sg) (Nat × Sg)))} (hk2 : ∀ (d2 d3 d4 : Option ax_V) (l1 : Int) (s : Sg) (q : Sum (Sg) (Nat × Sg)), k2 l1 s = some q → RuP 2 tb_m55 2 [some (.inr (.inr (some 66))), some (.inl l1), d2, d3, d4] [] (hp L s c e) (oX L c (oV L c e) q)) : ∀ (z3 : Int) (l1 l2 l4 : Int) (s : Sg) (q : Sum (Sg) (Nat × Sg)), j_55_90 k2 l1 l2 l4 s = some q → RuP 2 tb_m55 90 [some (.inr (.inr (some 66))), some (.inl l1), some (.inl l2), some (.inl z3), some (.inl l4)] [] (hp L s c e) (oX L c (oV L c e) q) := by
  intro z3 l1 l2 l4 s q h
  unfold j_55_90 at h
  refine RuP.step (pc' := 91) (ls' := [some (.inr (.inr (some 66))), some (.inl l1), some (.inl l2), some (.inl z3), some (.inl l4)]) (st' := [.inr (.inr (some 66))]) (h1 := hp L s c e) rfl ?_
  refine RuP.step (pc' := 93) (ls' := [some (.inr (.inr (some 66))), some (.inl l1), some (.inl l2), some (.inl z3), some (.inl l4)]) (st' := [.inl 9, .inr (.inr (some 66))]) (h1 := hp L s c e) rfl ?_
  obtain ⟨q5, h1, h⟩ := bd_some h
  refine RuP.cV rfl ((ev_63 h1).up (by decide)) ?_
  refine RuP.step (pc' := 97) (ls' := [some (.inr (.inr (some 66))), some (.inl l1), some (.inl l2), some (.inl z3), some (.inl l4)]) (st' := [.inr (.inr (some 66))]) (h1 := hp L q5 c e) rfl ?_
  refine RuP.step (pc' := 98) (ls' := [some (.inr (.inr (some 66))), some (.inl l1), some (.inl l2), some (.inl z3), some (.inl l4)]) (st' := [.inr (.inr (some 66)), .inr (.inr (some 66))]) (h1 := hp L q5 c e) rfl ?_
  refine RuP.step (pc' := 101) (ls' := [some (.inr (.inr (some 66))), some (.inl l1), some (.inl l2), some (.inl z3), some (.inl l4)]) (st' := [.inr (.inr (some 46)), .inr (.inr (some 66))]) (h1 := hp L q5 c e) rfl ?_
  refine RuP.step (pc' := 103) (ls' := [some (.inr (.inr (some 66))), some (.inl l1), some (.inl l2), some (.inl z3), some (.inl l4)]) (st' := [.inl 7, .inr (.inr (some 46)), .inr (.inr (some 66))]) (h1 := hp L q5 c e) rfl ?_
  refine RuP.step (pc' := 104) (ls' := [some (.inr (.inr (some 66))), some (.inl l1), some (.inl l2), some (.inl z3), some (.inl l4)]) (st' := [.inr (.inr (some 66)), .inl 7, .inr (.inr (some 46)), .inr (.inr (some 66))]) (h1 := hp L q5 c e) rfl ?_
  refine RuP.step (pc' := 107) (ls' := [some (.inr (.inr (some 66))), some (.inl l1), some (.inl l2), some (.inl z3), some (.inl l4)]) (st' := [.inl (q5 66 9), .inl 7, .inr (.inr (some 46)), .inr (.inr (some 66))]) (h1 := hp L q5 c e) rfl ?_
  refine RuP.step (pc' := 108) (ls' := [some (.inr (.inr (some 66))), some (.inl l1), some (.inl l2), some (.inl z3), some (.inl l4)]) (st' := [.inr (.inr (some 66)), .inl (q5 66 9), .inl 7, .inr (.inr (some 46)), .inr (.inr (some 66))]) (h1 := hp L q5 c e) rfl ?_
  refine RuP.step (pc' := 111) (ls' := [some (.inr (.inr (some 66))), some (.inl l1), some (.inl l2), some (.inl z3), some (.inl l4)]) (st' := [.inl (q5 66 8), .inl (q5 66 9), .inl 7, .inr (.inr (some 46)), .inr (.inr (some 66))]) (h1 := hp L q5 c e) rfl ?_
  refine RuP.step (pc' := 112) (ls' := [some (.inr (.inr (some 66))), some (.inl l1), some (.inl l2), some (.inl z3), some (.inl l4)]) (st' := [.inl 1, .inl (q5 66 8), .inl (q5 66 9), .inl 7, .inr (.inr (some 46)), .inr (.inr (some 66))]) (h1 := hp L q5 c e) rfl ?_
  obtain ⟨b0, h⟩ := gd_some h
  obtain ⟨q6, h1, h⟩ := bd_some h
  refine RuP.cIe h1 rfl (EvP.ip ((ev_124 7 (q5 66 9) (q5 66 8) 1 b0).up (by decide))) ?_
  refine RuP.step (pc' := 116) (ls' := [some (.inr (.inr (some 66))), some (.inl l1), some (.inl l2), some (.inl z3), some (.inl l4)]) (st' := [.inr (.inr (some 66)), .inl q6.1, .inr (.inr (some 66))]) (h1 := hp L q6.2 c e) rfl ?_
  refine RuP.step (pc' := 119) (ls' := [some (.inr (.inr (some 66))), some (.inl l1), some (.inl l2), some (.inl z3), some (.inl l4)]) (st' := [.inl (q6.2 66 9), .inl q6.1, .inr (.inr (some 66))]) (h1 := hp L q6.2 c e) rfl ?_
  refine RuP.step (pc' := 121) (ls' := [some (.inr (.inr (some 66))), some (.inl l1), some (.inl l2), some (.inl z3), some (.inl l4)]) (st' := [.inl 9, .inl (q6.2 66 9), .inl q6.1, .inr (.inr (some 66))]) (h1 := hp L q6.2 c e) rfl ?_
  obtain ⟨q7, h1, h⟩ := bd_some h
  refine RuP.cVe h1 rfl (EvP.v ((ev_64 q6.1 (q6.2 66 9) 9).up (by decide))) ?_
  refine RuP.step (pc' := 125) (ls' := [some (.inr (.inr (some 66))), some (.inl l1), some (.inl l2), some (.inl z3), some (.inl l4)]) (st' := [.inr (.inr (some 66))]) (h1 := hp L q7 c e) rfl ?_
  refine RuP.step (pc' := 128) (ls' := [some (.inr (.inr (some 66))), some (.inl l1), some (.inl l2), some (.inl z3), some (.inl l4)]) (st' := [.inr (.inr (some 46))]) (h1 := hp L q7 c e) rfl ?_
  refine RuP.step (pc' := 129) (ls' := [some (.inr (.inr (some 66))), some (.inl l1), some (.inl l2), some (.inl z3), some (.inl l4)]) (st' := [.inr (.inr (some 66)), .inr (.inr (some 46))]) (h1 := hp L q7 c e) rfl ?_
  refine RuP.step (pc' := 132) (ls' := [some (.inr (.inr (some 66))), some (.inl l1), some (.inl l2), some (.inl z3), some (.inl l4)]) (st' := [.inl (q7 66 8), .inr (.inr (some 46))]) (h1 := hp L q7 c e) rfl ?_
  refine RuP.step (pc' := 133) (ls' := [some (.inr (.inr (some 66))), some (.inl l1), some (.inl l2), some (.inl z3), some (.inl l4)]) (st' := [.inl l2, .inl (q7 66 8), .inr (.inr (some 46))]) (h1 := hp L q7 c e) rfl ?_
  refine RuP.step (pc' := 135) (ls' := [some (.inr (.inr (some 66))), some (.inl l1), some (.inl l2), some (.inl z3), some (.inl l4)]) (st' := [.inl l4, .inl l2, .inl (q7 66 8), .inr (.inr (some 46))]) (h1 := hp L q7 c e) rfl ?_
  refine RuP.step (pc' := 136) (ls' := [some (.inr (.inr (some 66))), some (.inl l1), some (.inl l2), some (.inl z3), some (.inl l4)]) (st' := [.inl (ax_w32 (l2 - l4)), .inl (q7 66 8), .inr (.inr (some 46))]) (h1 := hp L q7 c e) rfl ?_
  refine RuP.step (pc' := 137) (ls' := [some (.inr (.inr (some 66))), some (.inl l1), some (.inl l2), some (.inl z3), some (.inl l4)]) (st' := [.inl 1, .inl (ax_w32 (l2 - l4)), .inl (q7 66 8), .inr (.inr (some 46))]) (h1 := hp L q7 c e) rfl ?_
  refine RuP.step (pc' := 138) (ls' := [some (.inr (.inr (some 66))), some (.inl l1), some (.inl l2), some (.inl z3), some (.inl l4)]) (st' := [.inl (ax_w32 ((ax_w32 (l2 - l4)) + 1)), .inl (q7 66 8), .inr (.inr (some 46))]) (h1 := hp L q7 c e) rfl ?_
  obtain ⟨b1, h⟩ := gd_some h
  obtain ⟨q8, h1, h⟩ := bd_some h
  refine RuP.cVe h1 rfl (EvP.v ((ev_123 (q7 66 8) (ax_w32 ((ax_w32 (l2 - l4)) + 1)) b1).up (by decide))) ?_
  refine RuP.step (pc' := 142) (ls' := [some (.inr (.inr (some 66))), some (.inl l1), some (.inl l2), some (.inl z3), some (.inl l4)]) (st' := [.inr (.inr (some 66))]) (h1 := hp L q8 c e) rfl ?_
  refine RuP.step (pc' := 145) (ls' := [some (.inr (.inr (some 66))), some (.inl l1), some (.inl l2), some (.inl z3), some (.inl l4)]) (st' := [.inr (.inr (some 46))]) (h1 := hp L q8 c e) rfl ?_
  refine RuP.step (pc' := 146) (ls' := [some (.inr (.inr (some 66))), some (.inl l1), some (.inl l2), some (.inl z3), some (.inl l4)]) (st' := [.inr (.inr (some 66)), .inr (.inr (some 46))]) (h1 := hp L q8 c e) rfl ?_
  refine RuP.step (pc' := 149) (ls' := [some (.inr (.inr (some 66))), some (.inl l1), some (.inl l2), some (.inl z3), some (.inl l4)]) (st' := [.inl (q8 66 8), .inr (.inr (some 46))]) (h1 := hp L q8 c e) rfl ?_
  refine RuP.step (pc' := 151) (ls' := [some (.inr (.inr (some 66))), some (.inl l1), some (.inl l2), some (.inl z3), some (.inl l4)]) (st' := [.inl l4, .inl (q8 66 8), .inr (.inr (some 46))]) (h1 := hp L q8 c e) rfl ?_
  obtain ⟨b2, h⟩ := gd_some h
  obtain ⟨q9, h1, h⟩ := bd_some h
  refine RuP.cVe h1 rfl (EvP.v ((ev_125 (q8 66 8) l4 b2).up (by decide))) ?_
  refine RuP.step (pc' := 157) (ls' := [some (.inr (.inr (some 66))), some (.inl (ax_w32 (l1 + 1))), some (.inl l2), some (.inl z3), some (.inl l4)]) (st' := []) (h1 := hp L q9 c e) rfl ?_
  refine RuP.step (pc' := 2) (ls' := [some (.inr (.inr (some 66))), some (.inl (ax_w32 (l1 + 1))), some (.inl l2), some (.inl z3), some (.inl l4)]) (st' := []) (h1 := hp L q9 c e) rfl ?_
  exact hk2 _ _ _ _ _ _ h
noncomputable def j_55_2 : Nat → Int → Sg → Option (Sum (Sg) (Nat × Sg))
  | 0, _, _ => none
  | F + 1, l1, s =>
    (if ¬ (s 39 11) = 46 then
      some (.inl s)
    else
      (if 8192 < l1 then
        some (.inl s)
      else
        (gd (g_94 s) (
        ((some (f_94 s)).bind fun q1 =>
        (xb (f_93 0 31 q1) fun q2 =>
        (xb (f_92 58 q2.2) fun q3 =>
        (gd (g_80 (q3 39 10) q3) (
        (xb (f_93 0 31 q3) fun q4 =>
        (if q4.1 ≤ q2.1 then
          j_55_90 (j_55_2 F) l1 q2.1 q4.1 q4.2
        else
          (gd (g_71 4 (f_80 (q3 39 10) q3) q4.2) (
          ((some (f_71 4 (f_80 (q3 39 10) q3) q4.2)).bind fun q10 =>
          j_55_90 (j_55_2 F) l1 q2.1 q4.1 q10))))))))))))))
theorem bl_55_2 {L c : Nat} {e : Nat → Nat} : ∀ (F : Nat) (d2 d3 d4 : Option ax_V) (l1 : Int) (s : Sg) (q : Sum (Sg) (Nat × Sg)), j_55_2 F l1 s = some q → RuP 2 tb_m55 2 [some (.inr (.inr (some 66))), some (.inl l1), d2, d3, d4] [] (hp L s c e) (oX L c (oV L c e) q) := by
  intro F
  induction F with
  | zero =>
    intro d2 d3 d4 l1 s q h
    rw [j_55_2] at h
    cases h
  | succ F ih =>
    intro d2 d3 d4 l1 s q h
    rw [j_55_2] at h
    refine RuP.step (pc' := 3) (ls' := [some (.inr (.inr (some 66))), some (.inl l1), d2, d3, d4]) (st' := [.inr (.inr (some 66))]) (h1 := hp L s c e) rfl ?_
    refine RuP.step (pc' := 6) (ls' := [some (.inr (.inr (some 66))), some (.inl l1), d2, d3, d4]) (st' := [.inr (.inr (some 39))]) (h1 := hp L s c e) rfl ?_
    refine RuP.step (pc' := 9) (ls' := [some (.inr (.inr (some 66))), some (.inl l1), d2, d3, d4]) (st' := [.inl (s 39 11)]) (h1 := hp L s c e) rfl ?_
    refine RuP.step (pc' := 11) (ls' := [some (.inr (.inr (some 66))), some (.inl l1), d2, d3, d4]) (st' := [.inl 46, .inl (s 39 11)]) (h1 := hp L s c e) rfl ?_
    by_cases h0 : ¬ (s 39 11) = 46
    · rw [if_pos h0] at h
      refine RuP.jy rfl h0 ?_
      cases h
      exact RuP.dV rfl
    · rw [if_neg h0] at h
      refine RuP.jn rfl h0 ?_
      refine RuP.step (pc' := 15) (ls' := [some (.inr (.inr (some 66))), some (.inl l1), d2, d3, d4]) (st' := [.inl l1]) (h1 := hp L s c e) rfl ?_
      refine RuP.step (pc' := 18) (ls' := [some (.inr (.inr (some 66))), some (.inl l1), d2, d3, d4]) (st' := [.inl 8192, .inl l1]) (h1 := hp L s c e) rfl ?_
      by_cases h1 : 8192 < l1
      · rw [if_pos h1] at h
        refine RuP.jy rfl h1 ?_
        cases h
        exact RuP.dV rfl
      · rw [if_neg h1] at h
        refine RuP.jn rfl h1 ?_
        refine RuP.step (pc' := 22) (ls' := [some (.inr (.inr (some 66))), some (.inl l1), d2, d3, d4]) (st' := [.inr (.inr (some 66))]) (h1 := hp L s c e) rfl ?_
        refine RuP.step (pc' := 25) (ls' := [some (.inr (.inr (some 66))), some (.inl l1), d2, d3, d4]) (st' := [.inr (.inr (some 39))]) (h1 := hp L s c e) rfl ?_
        obtain ⟨b2, h⟩ := gd_some h
        obtain ⟨q1, h1, h⟩ := bd_some h
        refine RuP.cVe h1 rfl (EvP.v ((ev_94  b2).up (by decide))) ?_
        refine RuP.step (pc' := 29) (ls' := [some (.inr (.inr (some 66))), some (.inl l1), d2, d3, d4]) (st' := [.inr (.inr (some 66))]) (h1 := hp L q1 c e) rfl ?_
        refine RuP.step (pc' := 32) (ls' := [some (.inr (.inr (some 66))), some (.inl l1), d2, d3, d4]) (st' := [.inr (.inr (some 39))]) (h1 := hp L q1 c e) rfl ?_
        refine RuP.step (pc' := 33) (ls' := [some (.inr (.inr (some 66))), some (.inl l1), d2, d3, d4]) (st' := [.inl 0, .inr (.inr (some 39))]) (h1 := hp L q1 c e) rfl ?_
        refine RuP.step (pc' := 35) (ls' := [some (.inr (.inr (some 66))), some (.inl l1), d2, d3, d4]) (st' := [.inl 31, .inl 0, .inr (.inr (some 39))]) (h1 := hp L q1 c e) rfl ?_
        rcases xb_some h with ⟨q2, h1, h⟩ | ⟨xx1, h1, h2⟩
        rotate_left
        · subst h2
          exact RuP.pass rfl rfl ((ev_93 h1).up (by decide))
        refine RuP.cI rfl ((ev_93 h1).up (by decide)) ?_
        refine RuP.step (pc' := 39) (ls' := [some (.inr (.inr (some 66))), some (.inl l1), some (.inl q2.1), d3, d4]) (st' := []) (h1 := hp L q2.2 c e) rfl ?_
        refine RuP.step (pc' := 40) (ls' := [some (.inr (.inr (some 66))), some (.inl l1), some (.inl q2.1), d3, d4]) (st' := [.inr (.inr (some 66))]) (h1 := hp L q2.2 c e) rfl ?_
        refine RuP.step (pc' := 43) (ls' := [some (.inr (.inr (some 66))), some (.inl l1), some (.inl q2.1), d3, d4]) (st' := [.inr (.inr (some 39))]) (h1 := hp L q2.2 c e) rfl ?_
        refine RuP.step (pc' := 45) (ls' := [some (.inr (.inr (some 66))), some (.inl l1), some (.inl q2.1), d3, d4]) (st' := [.inl 58, .inr (.inr (some 39))]) (h1 := hp L q2.2 c e) rfl ?_
        rcases xb_some h with ⟨q3, h1, h⟩ | ⟨xx1, h1, h2⟩
        rotate_left
        · subst h2
          exact RuP.pass rfl rfl ((ev_92 h1).up (by decide))
        refine RuP.cV rfl ((ev_92 h1).up (by decide)) ?_
        refine RuP.step (pc' := 49) (ls' := [some (.inr (.inr (some 66))), some (.inl l1), some (.inl q2.1), d3, d4]) (st' := [.inr (.inr (some 66))]) (h1 := hp L q3 c e) rfl ?_
        refine RuP.step (pc' := 52) (ls' := [some (.inr (.inr (some 66))), some (.inl l1), some (.inl q2.1), d3, d4]) (st' := [.inr (.inr (some 39))]) (h1 := hp L q3 c e) rfl ?_
        refine RuP.step (pc' := 53) (ls' := [some (.inr (.inr (some 66))), some (.inl l1), some (.inl q2.1), d3, d4]) (st' := [.inr (.inr (some 66)), .inr (.inr (some 39))]) (h1 := hp L q3 c e) rfl ?_
        refine RuP.step (pc' := 56) (ls' := [some (.inr (.inr (some 66))), some (.inl l1), some (.inl q2.1), d3, d4]) (st' := [.inr (.inr (some 39)), .inr (.inr (some 39))]) (h1 := hp L q3 c e) rfl ?_
        refine RuP.step (pc' := 59) (ls' := [some (.inr (.inr (some 66))), some (.inl l1), some (.inl q2.1), d3, d4]) (st' := [.inl (q3 39 10), .inr (.inr (some 39))]) (h1 := hp L q3 c e) rfl ?_
        obtain ⟨b3, h⟩ := gd_some h
        refine RuP.cI rfl (EvP.i ((ev_80 (q3 39 10) b3).up (by decide))) ?_
        refine RuP.step (pc' := 63) (ls' := [some (.inr (.inr (some 66))), some (.inl l1), some (.inl q2.1), some (.inl (f_80 (q3 39 10) q3)), d4]) (st' := []) (h1 := hp L q3 c e) rfl ?_
        refine RuP.step (pc' := 64) (ls' := [some (.inr (.inr (some 66))), some (.inl l1), some (.inl q2.1), some (.inl (f_80 (q3 39 10) q3)), d4]) (st' := [.inr (.inr (some 66))]) (h1 := hp L q3 c e) rfl ?_
        refine RuP.step (pc' := 67) (ls' := [some (.inr (.inr (some 66))), some (.inl l1), some (.inl q2.1), some (.inl (f_80 (q3 39 10) q3)), d4]) (st' := [.inr (.inr (some 39))]) (h1 := hp L q3 c e) rfl ?_
        refine RuP.step (pc' := 68) (ls' := [some (.inr (.inr (some 66))), some (.inl l1), some (.inl q2.1), some (.inl (f_80 (q3 39 10) q3)), d4]) (st' := [.inl 0, .inr (.inr (some 39))]) (h1 := hp L q3 c e) rfl ?_
        refine RuP.step (pc' := 70) (ls' := [some (.inr (.inr (some 66))), some (.inl l1), some (.inl q2.1), some (.inl (f_80 (q3 39 10) q3)), d4]) (st' := [.inl 31, .inl 0, .inr (.inr (some 39))]) (h1 := hp L q3 c e) rfl ?_
        rcases xb_some h with ⟨q4, h1, h⟩ | ⟨xx1, h1, h2⟩
        rotate_left
        · subst h2
          exact RuP.pass rfl rfl ((ev_93 h1).up (by decide))
        refine RuP.cI rfl ((ev_93 h1).up (by decide)) ?_
        refine RuP.step (pc' := 75) (ls' := [some (.inr (.inr (some 66))), some (.inl l1), some (.inl q2.1), some (.inl (f_80 (q3 39 10) q3)), some (.inl q4.1)]) (st' := []) (h1 := hp L q4.2 c e) rfl ?_
        refine RuP.step (pc' := 76) (ls' := [some (.inr (.inr (some 66))), some (.inl l1), some (.inl q2.1), some (.inl (f_80 (q3 39 10) q3)), some (.inl q4.1)]) (st' := [.inl q2.1]) (h1 := hp L q4.2 c e) rfl ?_
        refine RuP.step (pc' := 78) (ls' := [some (.inr (.inr (some 66))), some (.inl l1), some (.inl q2.1), some (.inl (f_80 (q3 39 10) q3)), some (.inl q4.1)]) (st' := [.inl q4.1, .inl q2.1]) (h1 := hp L q4.2 c e) rfl ?_
        by_cases h4 : q4.1 ≤ q2.1
        · rw [if_pos h4] at h
          refine RuP.jy rfl h4 ?_
          exact bl_55_90 ih _ _ _ _ _ _ h
        · rw [if_neg h4] at h
          refine RuP.jn rfl h4 ?_
          refine RuP.step (pc' := 82) (ls' := [some (.inr (.inr (some 66))), some (.inl l1), some (.inl q2.1), some (.inl (f_80 (q3 39 10) q3)), some (.inl q4.1)]) (st' := [.inr (.inr (some 66))]) (h1 := hp L q4.2 c e) rfl ?_
          refine RuP.step (pc' := 85) (ls' := [some (.inr (.inr (some 66))), some (.inl l1), some (.inl q2.1), some (.inl (f_80 (q3 39 10) q3)), some (.inl q4.1)]) (st' := [.inr (.inr (some 29))]) (h1 := hp L q4.2 c e) rfl ?_
          refine RuP.step (pc' := 86) (ls' := [some (.inr (.inr (some 66))), some (.inl l1), some (.inl q2.1), some (.inl (f_80 (q3 39 10) q3)), some (.inl q4.1)]) (st' := [.inl 4, .inr (.inr (some 29))]) (h1 := hp L q4.2 c e) rfl ?_
          refine RuP.step (pc' := 87) (ls' := [some (.inr (.inr (some 66))), some (.inl l1), some (.inl q2.1), some (.inl (f_80 (q3 39 10) q3)), some (.inl q4.1)]) (st' := [.inl (f_80 (q3 39 10) q3), .inl 4, .inr (.inr (some 29))]) (h1 := hp L q4.2 c e) rfl ?_
          obtain ⟨b5, h⟩ := gd_some h
          obtain ⟨q10, h1, h⟩ := bd_some h
          refine RuP.cVe h1 rfl (EvP.v ((ev_71 4 (f_80 (q3 39 10) q3) b5).up (by decide))) ?_
          exact bl_55_90 ih _ _ _ _ _ _ h
noncomputable def f_55 (s : Sg) : Option (Sum (Sg) (Nat × Sg)) :=
  j_55_2 FU 0 s
theorem ev_55 {L c : Nat} {e : Nat → Nat} {s : Sg} {q : Sum (Sg) (Nat × Sg)} (h : f_55 s = some q) : EvP 3 55 [.inr (.inr (some 66))] (hp L s c e) (oX L c (oV L c e) q) := by
  unfold f_55 at h
  refine EvP.of (μ := tb_m55) (ls := [some (.inr (.inr (some 66))), none, none, none, none]) rfl (Nat.le_of_ble_eq_true rfl) rfl ?_
  refine RuP.step (pc' := 1) (ls' := [some (.inr (.inr (some 66))), none, none, none, none]) (st' := [.inl 0]) (h1 := hp L s c e) rfl ?_
  refine RuP.step (pc' := 2) (ls' := [some (.inr (.inr (some 66))), some (.inl 0), none, none, none]) (st' := []) (h1 := hp L s c e) rfl ?_
  exact bl_55_2 FU _ _ _ _ _ _ h
/-- MachineText$Expressions.operatorKind(I)I -/
noncomputable def j_56_36 (l2 t0 : Int) (s : Sg) : Option Int :=
  (if t0 = 0 then
    some l2
  else
    (gd (g_57 l2 s) (
    (if ¬ (f_57 l2 s) = 1 then
      some l2
    else
      some (-1)))))
theorem bl_56_36 {L c : Nat} {e : Nat → Nat} : ∀ (d3 : Option ax_V) (z1 : Int) (l2 t0 : Int) (s : Sg) (q : Int), j_56_36 l2 t0 s = some q → RuP 1 tb_m56 36 [some (.inr (.inr (some 66))), some (.inl z1), some (.inl l2), d3] [.inl t0] (hp L s c e) (oI L c e (q, s)) := by
  intro d3 z1 l2 t0 s q h
  unfold j_56_36 at h
  refine RuP.step (pc' := 37) (ls' := [some (.inr (.inr (some 66))), some (.inl z1), some (.inl l2), some (.inl t0)]) (st' := []) (h1 := hp L s c e) rfl ?_
  refine RuP.step (pc' := 38) (ls' := [some (.inr (.inr (some 66))), some (.inl z1), some (.inl l2), some (.inl t0)]) (st' := [.inl t0]) (h1 := hp L s c e) rfl ?_
  by_cases h0 : t0 = 0
  · rw [if_pos h0] at h
    refine RuP.jy rfl h0 ?_
    refine RuP.step (pc' := 54) (ls' := [some (.inr (.inr (some 66))), some (.inl z1), some (.inl l2), some (.inl t0)]) (st' := [.inl l2]) (h1 := hp L s c e) rfl ?_
    cases h
    exact RuP.dI rfl
  · rw [if_neg h0] at h
    refine RuP.jn rfl h0 ?_
    refine RuP.step (pc' := 42) (ls' := [some (.inr (.inr (some 66))), some (.inl z1), some (.inl l2), some (.inl t0)]) (st' := [.inl l2]) (h1 := hp L s c e) rfl ?_
    obtain ⟨b1, h⟩ := gd_some h
    refine RuP.cI rfl (EvP.i ((ev_57 l2 b1).up (by decide))) ?_
    refine RuP.step (pc' := 46) (ls' := [some (.inr (.inr (some 66))), some (.inl z1), some (.inl l2), some (.inl t0)]) (st' := [.inl 1, .inl (f_57 l2 s)]) (h1 := hp L s c e) rfl ?_
    by_cases h2 : ¬ (f_57 l2 s) = 1
    · rw [if_pos h2] at h
      refine RuP.jy rfl h2 ?_
      refine RuP.step (pc' := 54) (ls' := [some (.inr (.inr (some 66))), some (.inl z1), some (.inl l2), some (.inl t0)]) (st' := [.inl l2]) (h1 := hp L s c e) rfl ?_
      cases h
      exact RuP.dI rfl
    · rw [if_neg h2] at h
      refine RuP.jn rfl h2 ?_
      refine RuP.step (pc' := 50) (ls' := [some (.inr (.inr (some 66))), some (.inl z1), some (.inl l2), some (.inl t0)]) (st' := [.inl (-1)]) (h1 := hp L s c e) rfl ?_
      refine RuP.step (pc' := 54) (ls' := [some (.inr (.inr (some 66))), some (.inl z1), some (.inl l2), some (.inl t0)]) (st' := [.inl (-1)]) (h1 := hp L s c e) rfl ?_
      cases h
      exact RuP.dI rfl
noncomputable def j_56_35 (l2 : Int) (s : Sg) : Option Int :=
  j_56_36 l2 0 s
theorem bl_56_35 {L c : Nat} {e : Nat → Nat} : ∀ (d3 : Option ax_V) (z1 : Int) (l2 : Int) (s : Sg) (q : Int), j_56_35 l2 s = some q → RuP 1 tb_m56 35 [some (.inr (.inr (some 66))), some (.inl z1), some (.inl l2), d3] [] (hp L s c e) (oI L c e (q, s)) := by
  intro d3 z1 l2 s q h
  unfold j_56_35 at h
  refine RuP.step (pc' := 36) (ls' := [some (.inr (.inr (some 66))), some (.inl z1), some (.inl l2), d3]) (st' := [.inl 0]) (h1 := hp L s c e) rfl ?_
  exact bl_56_36 _ _ _ _ _ _ h
noncomputable def f_56 (x0 : Int) (s : Sg) : Option Int :=
  (if s 66 7 ≤ x0 then
    j_56_35 (f_65 (s 39 11) s) s
  else
    (gd (g_66 x0 s) (
    (gd (g_57 (f_66 x0 s) s) (
    j_56_36 (f_65 (s 39 11) s) ((if ¬ (f_57 (f_66 x0 s) s) = 1 then 0 else 1) : Int) s)))))
theorem ev_56 {L c : Nat} {e : Nat → Nat} {s : Sg} {x0 : Int} {q : Int} (h : f_56 x0 s = some q) : EvP 2 56 [.inr (.inr (some 66)), .inl x0] (hp L s c e) (oI L c e (q, s)) := by
  unfold f_56 at h
  refine EvP.of (μ := tb_m56) (ls := [some (.inr (.inr (some 66))), some (.inl x0), none, none]) rfl (Nat.le_of_ble_eq_true rfl) rfl ?_
  refine RuP.step (pc' := 1) (ls' := [some (.inr (.inr (some 66))), some (.inl x0), none, none]) (st' := [.inr (.inr (some 66))]) (h1 := hp L s c e) rfl ?_
  refine RuP.step (pc' := 4) (ls' := [some (.inr (.inr (some 66))), some (.inl x0), none, none]) (st' := [.inr (.inr (some 39))]) (h1 := hp L s c e) rfl ?_
  refine RuP.step (pc' := 7) (ls' := [some (.inr (.inr (some 66))), some (.inl x0), none, none]) (st' := [.inl (s 39 11)]) (h1 := hp L s c e) rfl ?_
  refine RuP.cI rfl ((ev_65 (s 39 11)).up (by decide)) ?_
  refine RuP.step (pc' := 11) (ls' := [some (.inr (.inr (some 66))), some (.inl x0), some (.inl (f_65 (s 39 11) s)), none]) (st' := []) (h1 := hp L s c e) rfl ?_
  refine RuP.step (pc' := 12) (ls' := [some (.inr (.inr (some 66))), some (.inl x0), some (.inl (f_65 (s 39 11) s)), none]) (st' := [.inr (.inr (some 66))]) (h1 := hp L s c e) rfl ?_
  refine RuP.step (pc' := 15) (ls' := [some (.inr (.inr (some 66))), some (.inl x0), some (.inl (f_65 (s 39 11) s)), none]) (st' := [.inl (s 66 7)]) (h1 := hp L s c e) rfl ?_
  refine RuP.step (pc' := 16) (ls' := [some (.inr (.inr (some 66))), some (.inl x0), some (.inl (f_65 (s 39 11) s)), none]) (st' := [.inl x0, .inl (s 66 7)]) (h1 := hp L s c e) rfl ?_
  by_cases h0 : s 66 7 ≤ x0
  · rw [if_pos h0] at h
    refine RuP.jy rfl h0 ?_
    exact bl_56_35 _ _ _ _ _ h
  · rw [if_neg h0] at h
    refine RuP.jn rfl h0 ?_
    refine RuP.step (pc' := 20) (ls' := [some (.inr (.inr (some 66))), some (.inl x0), some (.inl (f_65 (s 39 11) s)), none]) (st' := [.inr (.inr (some 66))]) (h1 := hp L s c e) rfl ?_
    refine RuP.step (pc' := 21) (ls' := [some (.inr (.inr (some 66))), some (.inl x0), some (.inl (f_65 (s 39 11) s)), none]) (st' := [.inl x0, .inr (.inr (some 66))]) (h1 := hp L s c e) rfl ?_
    obtain ⟨b1, h⟩ := gd_some h
    refine RuP.cI rfl (EvP.i ((ev_66 x0 b1).up (by decide))) ?_
    obtain ⟨b2, h⟩ := gd_some h
    refine RuP.cI rfl (EvP.i ((ev_57 (f_66 x0 s) b2).up (by decide))) ?_
    refine RuP.step (pc' := 28) (ls' := [some (.inr (.inr (some 66))), some (.inl x0), some (.inl (f_65 (s 39 11) s)), none]) (st' := [.inl 1, .inl (f_57 (f_66 x0 s) s)]) (h1 := hp L s c e) rfl ?_
    have J4 : ∀ v3_0 : Int, v3_0 = ((if ¬ (f_57 (f_66 x0 s) s) = 1 then 0 else 1) : Int) → RuP 1 tb_m56 36 [some (.inr (.inr (some 66))), some (.inl x0), some (.inl (f_65 (s 39 11) s)), none] [.inl v3_0] (hp L s c e) (oI L c e (q, s)) := by
      intro v3_0 ev3_0
      subst ev3_0
      exact bl_56_36 _ _ _ _ _ _ h
    by_cases h4 : ¬ (f_57 (f_66 x0 s) s) = 1
    · refine RuP.jy rfl h4 ?_
      refine RuP.step (pc' := 36) (ls' := [some (.inr (.inr (some 66))), some (.inl x0), some (.inl (f_65 (s 39 11) s)), none]) (st' := [.inl 0]) (h1 := hp L s c e) rfl ?_
      exact J4 _ (by simp only [if_pos h4])
    · refine RuP.jn rfl h4 ?_
      refine RuP.step (pc' := 32) (ls' := [some (.inr (.inr (some 66))), some (.inl x0), some (.inl (f_65 (s 39 11) s)), none]) (st' := [.inl 1]) (h1 := hp L s c e) rfl ?_
      refine RuP.step (pc' := 36) (ls' := [some (.inr (.inr (some 66))), some (.inl x0), some (.inl (f_65 (s 39 11) s)), none]) (st' := [.inl 1]) (h1 := hp L s c e) rfl ?_
      exact J4 _ (by simp only [if_neg h4])
/-- MachineText$Expressions.reduce(II)V -/
noncomputable def j_58_186 (k0 : (Int → Int → Sg → Option Sg)) (l1 l2 : Int) (s : Sg) : Option Sg :=
  k0 l1 l2 s
theorem bl_58_186 {L c : Nat} {e : Nat → Nat} {k0 : (Int → Int → Sg → Option Sg)} (hk0 : ∀ (d3 d4 : Option ax_V) (l1 l2 : Int) (s : Sg) (q : Sg), k0 l1 l2 s = some q → RuP 2 tb_m58 0 [some (.inr (.inr (some 66))), some (.inl l1), some (.inl l2), d3, d4] [] (hp L s c e) (oV L c e q)) : ∀ (d4 : Option ax_V) (z3 : Int) (l1 l2 : Int) (s : Sg) (q : Sg), j_58_186 k0 l1 l2 s = some q → RuP 2 tb_m58 186 [some (.inr (.inr (some 66))), some (.inl l1), some (.inl l2), some (.inl z3), d4] [] (hp L s c e) (oV L c e q) := by
  intro d4 z3 l1 l2 s q h
  unfold j_58_186 at h
  refine RuP.step (pc' := 0) (ls' := [some (.inr (.inr (some 66))), some (.inl l1), some (.inl l2), some (.inl z3), d4]) (st' := []) (h1 := hp L s c e) rfl ?_
  exact hk0 _ _ _ _ _ _ h
noncomputable def j_58_0 : Nat → Int → Int → Sg → Option Sg
  | 0, _, _, _ => none
  | F + 1, l1, l2, s =>
    (if s 66 7 ≤ l1 then
      some s
    else
      (if s 66 7 ≤ 0 then
        some s
      else
        (gd (g_66 (ax_w32 ((s 66 7) - 1)) s) (
        (gd (g_57 (f_66 (ax_w32 ((s 66 7) - 1)) s) s) (
        (if f_57 (f_66 (ax_w32 ((s 66 7) - 1)) s) s < l2 then
          some s
        else
          (gd (g_66 (ax_w32 ((s 66 7) - 1)) s) (
          (gd (g_57 (f_66 (ax_w32 ((s 66 7) - 1)) s) (ax_u2 s 66 7 (ax_w32 ((s 66 7) - 1)))) (
          (if ¬ (f_57 (f_66 (ax_w32 ((s 66 7) - 1)) s) (ax_u2 s 66 7 (ax_w32 ((s 66 7) - 1)))) = 8 then
            (gd (g_57 (f_66 (ax_w32 ((s 66 7) - 1)) s) (ax_u2 s 66 7 (ax_w32 ((s 66 7) - 1)))) (
            ((f_63 (ax_w32 ((f_57 (f_66 (ax_w32 ((s 66 7) - 1)) s) (ax_u2 s 66 7 (ax_w32 ((s 66 7) - 1)))) + 1)) (ax_u2 s 66 7 (ax_w32 ((s 66 7) - 1)))).bind fun q1 =>
            (gd (0 ≤ q1 66 7 ∧ q1 66 7 < 8192) (
            (gd (g_126 (q1 68 ((q1 66 7).toNat)) (q1 66 8) q1) (
            ((some (f_126 (q1 68 ((q1 66 7).toNat)) (q1 66 8) q1)).bind fun q2 =>
            (gd (0 ≤ q2 66 7 ∧ q2 66 7 < 8192) (
            (gd (0 ≤ q2 66 7 ∧ q2 66 7 < 8192) (
            (gd (g_124 (f_66 (ax_w32 ((s 66 7) - 1)) s) (q2 69 ((q2 66 7).toNat)) (q2 68 ((q2 66 7).toNat)) 2 q2) (
            ((some (f_124 (f_66 (ax_w32 ((s 66 7) - 1)) s) (q2 69 ((q2 66 7).toNat)) (q2 68 ((q2 66 7).toNat)) 2 q2)).bind fun q3 =>
            (gd (0 ≤ q3.2 66 7 ∧ q3.2 66 7 < 8192) (
            (gd (g_57 (f_66 (ax_w32 ((s 66 7) - 1)) s) q3.2) (
            ((some (f_64 q3.1 (q3.2 69 ((q3.2 66 7).toNat)) (f_57 (f_66 (ax_w32 ((s 66 7) - 1)) s) q3.2) q3.2)).bind fun q4 =>
            j_58_186 (j_58_0 F) l1 l2 q4))))))))))))))))))))
          else
            ((f_63 8 (ax_u2 s 66 7 (ax_w32 ((s 66 7) - 1)))).bind fun q5 =>
            (gd (0 ≤ q5 66 7 ∧ q5 66 7 < 8192) (
            (gd (g_124 (f_66 (ax_w32 ((s 66 7) - 1)) s) (q5 69 ((q5 66 7).toNat)) (q5 66 8) 1 q5) (
            ((some (f_124 (f_66 (ax_w32 ((s 66 7) - 1)) s) (q5 69 ((q5 66 7).toNat)) (q5 66 8) 1 q5)).bind fun q6 =>
            (gd (0 ≤ q6.2 66 7 ∧ q6.2 66 7 < 8192) (
            ((some (f_64 q6.1 (q6.2 69 ((q6.2 66 7).toNat)) 8 q6.2)).bind fun q7 =>
            j_58_186 (j_58_0 F) l1 l2 q7)))))))))))))))))))))
theorem bl_58_0 {L c : Nat} {e : Nat → Nat} : ∀ (F : Nat) (d3 d4 : Option ax_V) (l1 l2 : Int) (s : Sg) (q : Sg), j_58_0 F l1 l2 s = some q → RuP 2 tb_m58 0 [some (.inr (.inr (some 66))), some (.inl l1), some (.inl l2), d3, d4] [] (hp L s c e) (oV L c e q) := by
  intro F
  induction F with
  | zero =>
    intro d3 d4 l1 l2 s q h
    rw [j_58_0] at h
    cases h
  | succ F ih =>
    intro d3 d4 l1 l2 s q h
    rw [j_58_0] at h
    refine RuP.step (pc' := 1) (ls' := [some (.inr (.inr (some 66))), some (.inl l1), some (.inl l2), d3, d4]) (st' := [.inr (.inr (some 66))]) (h1 := hp L s c e) rfl ?_
    refine RuP.step (pc' := 4) (ls' := [some (.inr (.inr (some 66))), some (.inl l1), some (.inl l2), d3, d4]) (st' := [.inl (s 66 7)]) (h1 := hp L s c e) rfl ?_
    refine RuP.step (pc' := 5) (ls' := [some (.inr (.inr (some 66))), some (.inl l1), some (.inl l2), d3, d4]) (st' := [.inl l1, .inl (s 66 7)]) (h1 := hp L s c e) rfl ?_
    by_cases h0 : s 66 7 ≤ l1
    · rw [if_pos h0] at h
      refine RuP.jy rfl h0 ?_
      cases h
      exact RuP.dV rfl
    · rw [if_neg h0] at h
      refine RuP.jn rfl h0 ?_
      refine RuP.step (pc' := 9) (ls' := [some (.inr (.inr (some 66))), some (.inl l1), some (.inl l2), d3, d4]) (st' := [.inr (.inr (some 66))]) (h1 := hp L s c e) rfl ?_
      refine RuP.step (pc' := 12) (ls' := [some (.inr (.inr (some 66))), some (.inl l1), some (.inl l2), d3, d4]) (st' := [.inl (s 66 7)]) (h1 := hp L s c e) rfl ?_
      by_cases h1 : s 66 7 ≤ 0
      · rw [if_pos h1] at h
        refine RuP.jy rfl h1 ?_
        cases h
        exact RuP.dV rfl
      · rw [if_neg h1] at h
        refine RuP.jn rfl h1 ?_
        refine RuP.step (pc' := 16) (ls' := [some (.inr (.inr (some 66))), some (.inl l1), some (.inl l2), d3, d4]) (st' := [.inr (.inr (some 66))]) (h1 := hp L s c e) rfl ?_
        refine RuP.step (pc' := 17) (ls' := [some (.inr (.inr (some 66))), some (.inl l1), some (.inl l2), d3, d4]) (st' := [.inr (.inr (some 66)), .inr (.inr (some 66))]) (h1 := hp L s c e) rfl ?_
        refine RuP.step (pc' := 20) (ls' := [some (.inr (.inr (some 66))), some (.inl l1), some (.inl l2), d3, d4]) (st' := [.inl (s 66 7), .inr (.inr (some 66))]) (h1 := hp L s c e) rfl ?_
        refine RuP.step (pc' := 21) (ls' := [some (.inr (.inr (some 66))), some (.inl l1), some (.inl l2), d3, d4]) (st' := [.inl 1, .inl (s 66 7), .inr (.inr (some 66))]) (h1 := hp L s c e) rfl ?_
        refine RuP.step (pc' := 22) (ls' := [some (.inr (.inr (some 66))), some (.inl l1), some (.inl l2), d3, d4]) (st' := [.inl (ax_w32 ((s 66 7) - 1)), .inr (.inr (some 66))]) (h1 := hp L s c e) rfl ?_
        obtain ⟨b2, h⟩ := gd_some h
        refine RuP.cI rfl (EvP.i ((ev_66 (ax_w32 ((s 66 7) - 1)) b2).up (by decide))) ?_
        obtain ⟨b3, h⟩ := gd_some h
        refine RuP.cI rfl (EvP.i ((ev_57 (f_66 (ax_w32 ((s 66 7) - 1)) s) b3).up (by decide))) ?_
        refine RuP.step (pc' := 29) (ls' := [some (.inr (.inr (some 66))), some (.inl l1), some (.inl l2), d3, d4]) (st' := [.inl l2, .inl (f_57 (f_66 (ax_w32 ((s 66 7) - 1)) s) s)]) (h1 := hp L s c e) rfl ?_
        by_cases h4 : f_57 (f_66 (ax_w32 ((s 66 7) - 1)) s) s < l2
        · rw [if_pos h4] at h
          refine RuP.jy rfl h4 ?_
          cases h
          exact RuP.dV rfl
        · rw [if_neg h4] at h
          refine RuP.jn rfl h4 ?_
          refine RuP.step (pc' := 33) (ls' := [some (.inr (.inr (some 66))), some (.inl l1), some (.inl l2), d3, d4]) (st' := [.inr (.inr (some 66))]) (h1 := hp L s c e) rfl ?_
          refine RuP.step (pc' := 34) (ls' := [some (.inr (.inr (some 66))), some (.inl l1), some (.inl l2), d3, d4]) (st' := [.inr (.inr (some 66)), .inr (.inr (some 66))]) (h1 := hp L s c e) rfl ?_
          refine RuP.step (pc' := 37) (ls' := [some (.inr (.inr (some 66))), some (.inl l1), some (.inl l2), d3, d4]) (st' := [.inl (s 66 7), .inr (.inr (some 66))]) (h1 := hp L s c e) rfl ?_
          refine RuP.step (pc' := 38) (ls' := [some (.inr (.inr (some 66))), some (.inl l1), some (.inl l2), d3, d4]) (st' := [.inl 1, .inl (s 66 7), .inr (.inr (some 66))]) (h1 := hp L s c e) rfl ?_
          refine RuP.step (pc' := 39) (ls' := [some (.inr (.inr (some 66))), some (.inl l1), some (.inl l2), d3, d4]) (st' := [.inl (ax_w32 ((s 66 7) - 1)), .inr (.inr (some 66))]) (h1 := hp L s c e) rfl ?_
          obtain ⟨b5, h⟩ := gd_some h
          refine RuP.cI rfl (EvP.i ((ev_66 (ax_w32 ((s 66 7) - 1)) b5).up (by decide))) ?_
          refine RuP.step (pc' := 43) (ls' := [some (.inr (.inr (some 66))), some (.inl l1), some (.inl l2), some (.inl (f_66 (ax_w32 ((s 66 7) - 1)) s)), d4]) (st' := []) (h1 := hp L s c e) rfl ?_
          refine RuP.step (pc' := 44) (ls' := [some (.inr (.inr (some 66))), some (.inl l1), some (.inl l2), some (.inl (f_66 (ax_w32 ((s 66 7) - 1)) s)), d4]) (st' := [.inr (.inr (some 66))]) (h1 := hp L s c e) rfl ?_
          refine RuP.step (pc' := 45) (ls' := [some (.inr (.inr (some 66))), some (.inl l1), some (.inl l2), some (.inl (f_66 (ax_w32 ((s 66 7) - 1)) s)), d4]) (st' := [.inr (.inr (some 66)), .inr (.inr (some 66))]) (h1 := hp L s c e) rfl ?_
          refine RuP.step (pc' := 48) (ls' := [some (.inr (.inr (some 66))), some (.inl l1), some (.inl l2), some (.inl (f_66 (ax_w32 ((s 66 7) - 1)) s)), d4]) (st' := [.inl (s 66 7), .inr (.inr (some 66))]) (h1 := hp L s c e) rfl ?_
          refine RuP.step (pc' := 49) (ls' := [some (.inr (.inr (some 66))), some (.inl l1), some (.inl l2), some (.inl (f_66 (ax_w32 ((s 66 7) - 1)) s)), d4]) (st' := [.inl 1, .inl (s 66 7), .inr (.inr (some 66))]) (h1 := hp L s c e) rfl ?_
          refine RuP.step (pc' := 50) (ls' := [some (.inr (.inr (some 66))), some (.inl l1), some (.inl l2), some (.inl (f_66 (ax_w32 ((s 66 7) - 1)) s)), d4]) (st' := [.inl (ax_w32 ((s 66 7) - 1)), .inr (.inr (some 66))]) (h1 := hp L s c e) rfl ?_
          refine RuP.step (pc' := 53) (ls' := [some (.inr (.inr (some 66))), some (.inl l1), some (.inl l2), some (.inl (f_66 (ax_w32 ((s 66 7) - 1)) s)), d4]) (st' := []) (h1 := hp L (ax_u2 s 66 7 (ax_w32 ((s 66 7) - 1))) c e) rfl ?_
          refine RuP.step (pc' := 54) (ls' := [some (.inr (.inr (some 66))), some (.inl l1), some (.inl l2), some (.inl (f_66 (ax_w32 ((s 66 7) - 1)) s)), d4]) (st' := [.inl (f_66 (ax_w32 ((s 66 7) - 1)) s)]) (h1 := hp L (ax_u2 s 66 7 (ax_w32 ((s 66 7) - 1))) c e) rfl ?_
          obtain ⟨b6, h⟩ := gd_some h
          refine RuP.cI rfl (EvP.i ((ev_57 (f_66 (ax_w32 ((s 66 7) - 1)) s) b6).up (by decide))) ?_
          refine RuP.step (pc' := 59) (ls' := [some (.inr (.inr (some 66))), some (.inl l1), some (.inl l2), some (.inl (f_66 (ax_w32 ((s 66 7) - 1)) s)), d4]) (st' := [.inl 8, .inl (f_57 (f_66 (ax_w32 ((s 66 7) - 1)) s) (ax_u2 s 66 7 (ax_w32 ((s 66 7) - 1))))]) (h1 := hp L (ax_u2 s 66 7 (ax_w32 ((s 66 7) - 1))) c e) rfl ?_
          by_cases h7 : ¬ (f_57 (f_66 (ax_w32 ((s 66 7) - 1)) s) (ax_u2 s 66 7 (ax_w32 ((s 66 7) - 1)))) = 8
          · rw [if_pos h7] at h
            refine RuP.jy rfl h7 ?_
            refine RuP.step (pc' := 109) (ls' := [some (.inr (.inr (some 66))), some (.inl l1), some (.inl l2), some (.inl (f_66 (ax_w32 ((s 66 7) - 1)) s)), d4]) (st' := [.inr (.inr (some 66))]) (h1 := hp L (ax_u2 s 66 7 (ax_w32 ((s 66 7) - 1))) c e) rfl ?_
            refine RuP.step (pc' := 110) (ls' := [some (.inr (.inr (some 66))), some (.inl l1), some (.inl l2), some (.inl (f_66 (ax_w32 ((s 66 7) - 1)) s)), d4]) (st' := [.inl (f_66 (ax_w32 ((s 66 7) - 1)) s), .inr (.inr (some 66))]) (h1 := hp L (ax_u2 s 66 7 (ax_w32 ((s 66 7) - 1))) c e) rfl ?_
            obtain ⟨b8, h⟩ := gd_some h
            refine RuP.cI rfl (EvP.i ((ev_57 (f_66 (ax_w32 ((s 66 7) - 1)) s) b8).up (by decide))) ?_
            refine RuP.step (pc' := 114) (ls' := [some (.inr (.inr (some 66))), some (.inl l1), some (.inl l2), some (.inl (f_66 (ax_w32 ((s 66 7) - 1)) s)), d4]) (st' := [.inl 1, .inl (f_57 (f_66 (ax_w32 ((s 66 7) - 1)) s) (ax_u2 s 66 7 (ax_w32 ((s 66 7) - 1)))), .inr (.inr (some 66))]) (h1 := hp L (ax_u2 s 66 7 (ax_w32 ((s 66 7) - 1))) c e) rfl ?_
            refine RuP.step (pc' := 115) (ls' := [some (.inr (.inr (some 66))), some (.inl l1), some (.inl l2), some (.inl (f_66 (ax_w32 ((s 66 7) - 1)) s)), d4]) (st' := [.inl (ax_w32 ((f_57 (f_66 (ax_w32 ((s 66 7) - 1)) s) (ax_u2 s 66 7 (ax_w32 ((s 66 7) - 1)))) + 1)), .inr (.inr (some 66))]) (h1 := hp L (ax_u2 s 66 7 (ax_w32 ((s 66 7) - 1))) c e) rfl ?_
            obtain ⟨q1, h1, h⟩ := bd_some h
            refine RuP.cV rfl ((ev_63 h1).up (by decide)) ?_
            refine RuP.step (pc' := 119) (ls' := [some (.inr (.inr (some 66))), some (.inl l1), some (.inl l2), some (.inl (f_66 (ax_w32 ((s 66 7) - 1)) s)), d4]) (st' := [.inr (.inr (some 66))]) (h1 := hp L q1 c e) rfl ?_
            refine RuP.step (pc' := 122) (ls' := [some (.inr (.inr (some 66))), some (.inl l1), some (.inl l2), some (.inl (f_66 (ax_w32 ((s 66 7) - 1)) s)), d4]) (st' := [.inr (.inr (some 46))]) (h1 := hp L q1 c e) rfl ?_
            refine RuP.step (pc' := 123) (ls' := [some (.inr (.inr (some 66))), some (.inl l1), some (.inl l2), some (.inl (f_66 (ax_w32 ((s 66 7) - 1)) s)), d4]) (st' := [.inr (.inr (some 66)), .inr (.inr (some 46))]) (h1 := hp L q1 c e) rfl ?_
            refine RuP.step (pc' := 126) (ls' := [some (.inr (.inr (some 66))), some (.inl l1), some (.inl l2), some (.inl (f_66 (ax_w32 ((s 66 7) - 1)) s)), d4]) (st' := [.inr (.inr (some 68)), .inr (.inr (some 46))]) (h1 := hp L q1 c e) rfl ?_
            refine RuP.step (pc' := 127) (ls' := [some (.inr (.inr (some 66))), some (.inl l1), some (.inl l2), some (.inl (f_66 (ax_w32 ((s 66 7) - 1)) s)), d4]) (st' := [.inr (.inr (some 66)), .inr (.inr (some 68)), .inr (.inr (some 46))]) (h1 := hp L q1 c e) rfl ?_
            refine RuP.step (pc' := 130) (ls' := [some (.inr (.inr (some 66))), some (.inl l1), some (.inl l2), some (.inl (f_66 (ax_w32 ((s 66 7) - 1)) s)), d4]) (st' := [.inl (q1 66 7), .inr (.inr (some 68)), .inr (.inr (some 46))]) (h1 := hp L q1 c e) rfl ?_
            obtain ⟨b9, h⟩ := gd_some h
            refine RuP.ald (f := fun t => t == 0) (j := q1 66 7) (a := 68) rfl rfl b9.1 b9.2 ?_
            refine RuP.step (pc' := 132) (ls' := [some (.inr (.inr (some 66))), some (.inl l1), some (.inl l2), some (.inl (f_66 (ax_w32 ((s 66 7) - 1)) s)), d4]) (st' := [.inr (.inr (some 66)), .inl (q1 68 ((q1 66 7).toNat)), .inr (.inr (some 46))]) (h1 := hp L q1 c e) rfl ?_
            refine RuP.step (pc' := 135) (ls' := [some (.inr (.inr (some 66))), some (.inl l1), some (.inl l2), some (.inl (f_66 (ax_w32 ((s 66 7) - 1)) s)), d4]) (st' := [.inl (q1 66 8), .inl (q1 68 ((q1 66 7).toNat)), .inr (.inr (some 46))]) (h1 := hp L q1 c e) rfl ?_
            obtain ⟨b10, h⟩ := gd_some h
            obtain ⟨q2, h1, h⟩ := bd_some h
            refine RuP.cVe h1 rfl (EvP.v ((ev_126 (q1 68 ((q1 66 7).toNat)) (q1 66 8) b10).up (by decide))) ?_
            refine RuP.step (pc' := 139) (ls' := [some (.inr (.inr (some 66))), some (.inl l1), some (.inl l2), some (.inl (f_66 (ax_w32 ((s 66 7) - 1)) s)), d4]) (st' := [.inr (.inr (some 66))]) (h1 := hp L q2 c e) rfl ?_
            refine RuP.step (pc' := 142) (ls' := [some (.inr (.inr (some 66))), some (.inl l1), some (.inl l2), some (.inl (f_66 (ax_w32 ((s 66 7) - 1)) s)), d4]) (st' := [.inr (.inr (some 46))]) (h1 := hp L q2 c e) rfl ?_
            refine RuP.step (pc' := 143) (ls' := [some (.inr (.inr (some 66))), some (.inl l1), some (.inl l2), some (.inl (f_66 (ax_w32 ((s 66 7) - 1)) s)), d4]) (st' := [.inl (f_66 (ax_w32 ((s 66 7) - 1)) s), .inr (.inr (some 46))]) (h1 := hp L q2 c e) rfl ?_
            refine RuP.step (pc' := 144) (ls' := [some (.inr (.inr (some 66))), some (.inl l1), some (.inl l2), some (.inl (f_66 (ax_w32 ((s 66 7) - 1)) s)), d4]) (st' := [.inr (.inr (some 66)), .inl (f_66 (ax_w32 ((s 66 7) - 1)) s), .inr (.inr (some 46))]) (h1 := hp L q2 c e) rfl ?_
            refine RuP.step (pc' := 147) (ls' := [some (.inr (.inr (some 66))), some (.inl l1), some (.inl l2), some (.inl (f_66 (ax_w32 ((s 66 7) - 1)) s)), d4]) (st' := [.inr (.inr (some 69)), .inl (f_66 (ax_w32 ((s 66 7) - 1)) s), .inr (.inr (some 46))]) (h1 := hp L q2 c e) rfl ?_
            refine RuP.step (pc' := 148) (ls' := [some (.inr (.inr (some 66))), some (.inl l1), some (.inl l2), some (.inl (f_66 (ax_w32 ((s 66 7) - 1)) s)), d4]) (st' := [.inr (.inr (some 66)), .inr (.inr (some 69)), .inl (f_66 (ax_w32 ((s 66 7) - 1)) s), .inr (.inr (some 46))]) (h1 := hp L q2 c e) rfl ?_
            refine RuP.step (pc' := 151) (ls' := [some (.inr (.inr (some 66))), some (.inl l1), some (.inl l2), some (.inl (f_66 (ax_w32 ((s 66 7) - 1)) s)), d4]) (st' := [.inl (q2 66 7), .inr (.inr (some 69)), .inl (f_66 (ax_w32 ((s 66 7) - 1)) s), .inr (.inr (some 46))]) (h1 := hp L q2 c e) rfl ?_
            obtain ⟨b11, h⟩ := gd_some h
            refine RuP.ald (f := fun t => t == 0) (j := q2 66 7) (a := 69) rfl rfl b11.1 b11.2 ?_
            refine RuP.step (pc' := 153) (ls' := [some (.inr (.inr (some 66))), some (.inl l1), some (.inl l2), some (.inl (f_66 (ax_w32 ((s 66 7) - 1)) s)), d4]) (st' := [.inr (.inr (some 66)), .inl (q2 69 ((q2 66 7).toNat)), .inl (f_66 (ax_w32 ((s 66 7) - 1)) s), .inr (.inr (some 46))]) (h1 := hp L q2 c e) rfl ?_
            refine RuP.step (pc' := 156) (ls' := [some (.inr (.inr (some 66))), some (.inl l1), some (.inl l2), some (.inl (f_66 (ax_w32 ((s 66 7) - 1)) s)), d4]) (st' := [.inr (.inr (some 68)), .inl (q2 69 ((q2 66 7).toNat)), .inl (f_66 (ax_w32 ((s 66 7) - 1)) s), .inr (.inr (some 46))]) (h1 := hp L q2 c e) rfl ?_
            refine RuP.step (pc' := 157) (ls' := [some (.inr (.inr (some 66))), some (.inl l1), some (.inl l2), some (.inl (f_66 (ax_w32 ((s 66 7) - 1)) s)), d4]) (st' := [.inr (.inr (some 66)), .inr (.inr (some 68)), .inl (q2 69 ((q2 66 7).toNat)), .inl (f_66 (ax_w32 ((s 66 7) - 1)) s), .inr (.inr (some 46))]) (h1 := hp L q2 c e) rfl ?_
            refine RuP.step (pc' := 160) (ls' := [some (.inr (.inr (some 66))), some (.inl l1), some (.inl l2), some (.inl (f_66 (ax_w32 ((s 66 7) - 1)) s)), d4]) (st' := [.inl (q2 66 7), .inr (.inr (some 68)), .inl (q2 69 ((q2 66 7).toNat)), .inl (f_66 (ax_w32 ((s 66 7) - 1)) s), .inr (.inr (some 46))]) (h1 := hp L q2 c e) rfl ?_
            obtain ⟨b12, h⟩ := gd_some h
            refine RuP.ald (f := fun t => t == 0) (j := q2 66 7) (a := 68) rfl rfl b12.1 b12.2 ?_
            refine RuP.step (pc' := 162) (ls' := [some (.inr (.inr (some 66))), some (.inl l1), some (.inl l2), some (.inl (f_66 (ax_w32 ((s 66 7) - 1)) s)), d4]) (st' := [.inl 2, .inl (q2 68 ((q2 66 7).toNat)), .inl (q2 69 ((q2 66 7).toNat)), .inl (f_66 (ax_w32 ((s 66 7) - 1)) s), .inr (.inr (some 46))]) (h1 := hp L q2 c e) rfl ?_
            obtain ⟨b13, h⟩ := gd_some h
            obtain ⟨q3, h1, h⟩ := bd_some h
            refine RuP.cIe h1 rfl (EvP.ip ((ev_124 (f_66 (ax_w32 ((s 66 7) - 1)) s) (q2 69 ((q2 66 7).toNat)) (q2 68 ((q2 66 7).toNat)) 2 b13).up (by decide))) ?_
            refine RuP.step (pc' := 167) (ls' := [some (.inr (.inr (some 66))), some (.inl l1), some (.inl l2), some (.inl (f_66 (ax_w32 ((s 66 7) - 1)) s)), some (.inl q3.1)]) (st' := []) (h1 := hp L q3.2 c e) rfl ?_
            refine RuP.step (pc' := 168) (ls' := [some (.inr (.inr (some 66))), some (.inl l1), some (.inl l2), some (.inl (f_66 (ax_w32 ((s 66 7) - 1)) s)), some (.inl q3.1)]) (st' := [.inr (.inr (some 66))]) (h1 := hp L q3.2 c e) rfl ?_
            refine RuP.step (pc' := 170) (ls' := [some (.inr (.inr (some 66))), some (.inl l1), some (.inl l2), some (.inl (f_66 (ax_w32 ((s 66 7) - 1)) s)), some (.inl q3.1)]) (st' := [.inl q3.1, .inr (.inr (some 66))]) (h1 := hp L q3.2 c e) rfl ?_
            refine RuP.step (pc' := 171) (ls' := [some (.inr (.inr (some 66))), some (.inl l1), some (.inl l2), some (.inl (f_66 (ax_w32 ((s 66 7) - 1)) s)), some (.inl q3.1)]) (st' := [.inr (.inr (some 66)), .inl q3.1, .inr (.inr (some 66))]) (h1 := hp L q3.2 c e) rfl ?_
            refine RuP.step (pc' := 174) (ls' := [some (.inr (.inr (some 66))), some (.inl l1), some (.inl l2), some (.inl (f_66 (ax_w32 ((s 66 7) - 1)) s)), some (.inl q3.1)]) (st' := [.inr (.inr (some 69)), .inl q3.1, .inr (.inr (some 66))]) (h1 := hp L q3.2 c e) rfl ?_
            refine RuP.step (pc' := 175) (ls' := [some (.inr (.inr (some 66))), some (.inl l1), some (.inl l2), some (.inl (f_66 (ax_w32 ((s 66 7) - 1)) s)), some (.inl q3.1)]) (st' := [.inr (.inr (some 66)), .inr (.inr (some 69)), .inl q3.1, .inr (.inr (some 66))]) (h1 := hp L q3.2 c e) rfl ?_
            refine RuP.step (pc' := 178) (ls' := [some (.inr (.inr (some 66))), some (.inl l1), some (.inl l2), some (.inl (f_66 (ax_w32 ((s 66 7) - 1)) s)), some (.inl q3.1)]) (st' := [.inl (q3.2 66 7), .inr (.inr (some 69)), .inl q3.1, .inr (.inr (some 66))]) (h1 := hp L q3.2 c e) rfl ?_
            obtain ⟨b14, h⟩ := gd_some h
            refine RuP.ald (f := fun t => t == 0) (j := q3.2 66 7) (a := 69) rfl rfl b14.1 b14.2 ?_
            refine RuP.step (pc' := 180) (ls' := [some (.inr (.inr (some 66))), some (.inl l1), some (.inl l2), some (.inl (f_66 (ax_w32 ((s 66 7) - 1)) s)), some (.inl q3.1)]) (st' := [.inl (f_66 (ax_w32 ((s 66 7) - 1)) s), .inl (q3.2 69 ((q3.2 66 7).toNat)), .inl q3.1, .inr (.inr (some 66))]) (h1 := hp L q3.2 c e) rfl ?_
            obtain ⟨b15, h⟩ := gd_some h
            refine RuP.cI rfl (EvP.i ((ev_57 (f_66 (ax_w32 ((s 66 7) - 1)) s) b15).up (by decide))) ?_
            obtain ⟨q4, h1, h⟩ := bd_some h
            refine RuP.cVe h1 rfl (EvP.v ((ev_64 q3.1 (q3.2 69 ((q3.2 66 7).toNat)) (f_57 (f_66 (ax_w32 ((s 66 7) - 1)) s) q3.2)).up (by decide))) ?_
            exact bl_58_186 ih _ _ _ _ _ _ h
          · rw [if_neg h7] at h
            refine RuP.jn rfl h7 ?_
            refine RuP.step (pc' := 63) (ls' := [some (.inr (.inr (some 66))), some (.inl l1), some (.inl l2), some (.inl (f_66 (ax_w32 ((s 66 7) - 1)) s)), d4]) (st' := [.inr (.inr (some 66))]) (h1 := hp L (ax_u2 s 66 7 (ax_w32 ((s 66 7) - 1))) c e) rfl ?_
            refine RuP.step (pc' := 65) (ls' := [some (.inr (.inr (some 66))), some (.inl l1), some (.inl l2), some (.inl (f_66 (ax_w32 ((s 66 7) - 1)) s)), d4]) (st' := [.inl 8, .inr (.inr (some 66))]) (h1 := hp L (ax_u2 s 66 7 (ax_w32 ((s 66 7) - 1))) c e) rfl ?_
            obtain ⟨q5, h1, h⟩ := bd_some h
            refine RuP.cV rfl ((ev_63 h1).up (by decide)) ?_
            refine RuP.step (pc' := 69) (ls' := [some (.inr (.inr (some 66))), some (.inl l1), some (.inl l2), some (.inl (f_66 (ax_w32 ((s 66 7) - 1)) s)), d4]) (st' := [.inr (.inr (some 66))]) (h1 := hp L q5 c e) rfl ?_
            refine RuP.step (pc' := 70) (ls' := [some (.inr (.inr (some 66))), some (.inl l1), some (.inl l2), some (.inl (f_66 (ax_w32 ((s 66 7) - 1)) s)), d4]) (st' := [.inr (.inr (some 66)), .inr (.inr (some 66))]) (h1 := hp L q5 c e) rfl ?_
            refine RuP.step (pc' := 73) (ls' := [some (.inr (.inr (some 66))), some (.inl l1), some (.inl l2), some (.inl (f_66 (ax_w32 ((s 66 7) - 1)) s)), d4]) (st' := [.inr (.inr (some 46)), .inr (.inr (some 66))]) (h1 := hp L q5 c e) rfl ?_
            refine RuP.step (pc' := 74) (ls' := [some (.inr (.inr (some 66))), some (.inl l1), some (.inl l2), some (.inl (f_66 (ax_w32 ((s 66 7) - 1)) s)), d4]) (st' := [.inl (f_66 (ax_w32 ((s 66 7) - 1)) s), .inr (.inr (some 46)), .inr (.inr (some 66))]) (h1 := hp L q5 c e) rfl ?_
            refine RuP.step (pc' := 75) (ls' := [some (.inr (.inr (some 66))), some (.inl l1), some (.inl l2), some (.inl (f_66 (ax_w32 ((s 66 7) - 1)) s)), d4]) (st' := [.inr (.inr (some 66)), .inl (f_66 (ax_w32 ((s 66 7) - 1)) s), .inr (.inr (some 46)), .inr (.inr (some 66))]) (h1 := hp L q5 c e) rfl ?_
            refine RuP.step (pc' := 78) (ls' := [some (.inr (.inr (some 66))), some (.inl l1), some (.inl l2), some (.inl (f_66 (ax_w32 ((s 66 7) - 1)) s)), d4]) (st' := [.inr (.inr (some 69)), .inl (f_66 (ax_w32 ((s 66 7) - 1)) s), .inr (.inr (some 46)), .inr (.inr (some 66))]) (h1 := hp L q5 c e) rfl ?_
            refine RuP.step (pc' := 79) (ls' := [some (.inr (.inr (some 66))), some (.inl l1), some (.inl l2), some (.inl (f_66 (ax_w32 ((s 66 7) - 1)) s)), d4]) (st' := [.inr (.inr (some 66)), .inr (.inr (some 69)), .inl (f_66 (ax_w32 ((s 66 7) - 1)) s), .inr (.inr (some 46)), .inr (.inr (some 66))]) (h1 := hp L q5 c e) rfl ?_
            refine RuP.step (pc' := 82) (ls' := [some (.inr (.inr (some 66))), some (.inl l1), some (.inl l2), some (.inl (f_66 (ax_w32 ((s 66 7) - 1)) s)), d4]) (st' := [.inl (q5 66 7), .inr (.inr (some 69)), .inl (f_66 (ax_w32 ((s 66 7) - 1)) s), .inr (.inr (some 46)), .inr (.inr (some 66))]) (h1 := hp L q5 c e) rfl ?_
            obtain ⟨b16, h⟩ := gd_some h
            refine RuP.ald (f := fun t => t == 0) (j := q5 66 7) (a := 69) rfl rfl b16.1 b16.2 ?_
            refine RuP.step (pc' := 84) (ls' := [some (.inr (.inr (some 66))), some (.inl l1), some (.inl l2), some (.inl (f_66 (ax_w32 ((s 66 7) - 1)) s)), d4]) (st' := [.inr (.inr (some 66)), .inl (q5 69 ((q5 66 7).toNat)), .inl (f_66 (ax_w32 ((s 66 7) - 1)) s), .inr (.inr (some 46)), .inr (.inr (some 66))]) (h1 := hp L q5 c e) rfl ?_
            refine RuP.step (pc' := 87) (ls' := [some (.inr (.inr (some 66))), some (.inl l1), some (.inl l2), some (.inl (f_66 (ax_w32 ((s 66 7) - 1)) s)), d4]) (st' := [.inl (q5 66 8), .inl (q5 69 ((q5 66 7).toNat)), .inl (f_66 (ax_w32 ((s 66 7) - 1)) s), .inr (.inr (some 46)), .inr (.inr (some 66))]) (h1 := hp L q5 c e) rfl ?_
            refine RuP.step (pc' := 88) (ls' := [some (.inr (.inr (some 66))), some (.inl l1), some (.inl l2), some (.inl (f_66 (ax_w32 ((s 66 7) - 1)) s)), d4]) (st' := [.inl 1, .inl (q5 66 8), .inl (q5 69 ((q5 66 7).toNat)), .inl (f_66 (ax_w32 ((s 66 7) - 1)) s), .inr (.inr (some 46)), .inr (.inr (some 66))]) (h1 := hp L q5 c e) rfl ?_
            obtain ⟨b17, h⟩ := gd_some h
            obtain ⟨q6, h1, h⟩ := bd_some h
            refine RuP.cIe h1 rfl (EvP.ip ((ev_124 (f_66 (ax_w32 ((s 66 7) - 1)) s) (q5 69 ((q5 66 7).toNat)) (q5 66 8) 1 b17).up (by decide))) ?_
            refine RuP.step (pc' := 92) (ls' := [some (.inr (.inr (some 66))), some (.inl l1), some (.inl l2), some (.inl (f_66 (ax_w32 ((s 66 7) - 1)) s)), d4]) (st' := [.inr (.inr (some 66)), .inl q6.1, .inr (.inr (some 66))]) (h1 := hp L q6.2 c e) rfl ?_
            refine RuP.step (pc' := 95) (ls' := [some (.inr (.inr (some 66))), some (.inl l1), some (.inl l2), some (.inl (f_66 (ax_w32 ((s 66 7) - 1)) s)), d4]) (st' := [.inr (.inr (some 69)), .inl q6.1, .inr (.inr (some 66))]) (h1 := hp L q6.2 c e) rfl ?_
            refine RuP.step (pc' := 96) (ls' := [some (.inr (.inr (some 66))), some (.inl l1), some (.inl l2), some (.inl (f_66 (ax_w32 ((s 66 7) - 1)) s)), d4]) (st' := [.inr (.inr (some 66)), .inr (.inr (some 69)), .inl q6.1, .inr (.inr (some 66))]) (h1 := hp L q6.2 c e) rfl ?_
            refine RuP.step (pc' := 99) (ls' := [some (.inr (.inr (some 66))), some (.inl l1), some (.inl l2), some (.inl (f_66 (ax_w32 ((s 66 7) - 1)) s)), d4]) (st' := [.inl (q6.2 66 7), .inr (.inr (some 69)), .inl q6.1, .inr (.inr (some 66))]) (h1 := hp L q6.2 c e) rfl ?_
            obtain ⟨b18, h⟩ := gd_some h
            refine RuP.ald (f := fun t => t == 0) (j := q6.2 66 7) (a := 69) rfl rfl b18.1 b18.2 ?_
            refine RuP.step (pc' := 102) (ls' := [some (.inr (.inr (some 66))), some (.inl l1), some (.inl l2), some (.inl (f_66 (ax_w32 ((s 66 7) - 1)) s)), d4]) (st' := [.inl 8, .inl (q6.2 69 ((q6.2 66 7).toNat)), .inl q6.1, .inr (.inr (some 66))]) (h1 := hp L q6.2 c e) rfl ?_
            obtain ⟨q7, h1, h⟩ := bd_some h
            refine RuP.cVe h1 rfl (EvP.v ((ev_64 q6.1 (q6.2 69 ((q6.2 66 7).toNat)) 8).up (by decide))) ?_
            refine RuP.step (pc' := 186) (ls' := [some (.inr (.inr (some 66))), some (.inl l1), some (.inl l2), some (.inl (f_66 (ax_w32 ((s 66 7) - 1)) s)), d4]) (st' := []) (h1 := hp L q7 c e) rfl ?_
            exact bl_58_186 ih _ _ _ _ _ _ h
noncomputable def f_58 (x0 x1 : Int) (s : Sg) : Option Sg :=
  j_58_0 FU x0 x1 s
theorem ev_58 {L c : Nat} {e : Nat → Nat} {s : Sg} {x0 x1 : Int} {q : Sg} (h : f_58 x0 x1 s = some q) : EvP 3 58 [.inr (.inr (some 66)), .inl x0, .inl x1] (hp L s c e) (oV L c e q) := by
  unfold f_58 at h
  refine EvP.of (μ := tb_m58) (ls := [some (.inr (.inr (some 66))), some (.inl x0), some (.inl x1), none, none]) rfl (Nat.le_of_ble_eq_true rfl) rfl ?_
  exact bl_58_0 FU _ _ _ _ _ _ h
/-- MachineText$Expressions.operator(I)V -/
noncomputable def f_59 (x0 : Int) (s : Sg) : Option Sg :=
  (gd (g_57 x0 s) (
  ((f_63 ((if ¬ (f_57 x0 s) = 1 then f_57 x0 s else ax_w32 ((f_57 x0 s) + 1)) : Int) s).bind fun q1 =>
  (gd (g_61 x0 (q1 66 8) (q1 66 9) q1) (
  ((some (f_61 x0 (q1 66 8) (q1 66 9) q1)).bind fun q2 =>
  (gd (g_99 (q2 39 10) 1 q2) (
  ((some (f_99 (q2 39 10) 1 q2)).bind fun q3 =>
  (gd (g_94 q3) (
  ((some (f_94 q3)).bind fun q4 =>
  some q4))))))))))))
theorem ev_59 {L c : Nat} {e : Nat → Nat} {s : Sg} {x0 : Int} {q : Sg} (h : f_59 x0 s = some q) : EvP 3 59 [.inr (.inr (some 66)), .inl x0] (hp L s c e) (oV L c e q) := by
  unfold f_59 at h
  refine EvP.of (μ := tb_m59) (ls := [some (.inr (.inr (some 66))), some (.inl x0), none]) rfl (Nat.le_of_ble_eq_true rfl) rfl ?_
  refine RuP.step (pc' := 1) (ls' := [some (.inr (.inr (some 66))), some (.inl x0), none]) (st' := [.inl x0]) (h1 := hp L s c e) rfl ?_
  obtain ⟨b0, h⟩ := gd_some h
  refine RuP.cI rfl (EvP.i ((ev_57 x0 b0).up (by decide))) ?_
  refine RuP.step (pc' := 5) (ls' := [some (.inr (.inr (some 66))), some (.inl x0), some (.inl (f_57 x0 s))]) (st' := []) (h1 := hp L s c e) rfl ?_
  refine RuP.step (pc' := 6) (ls' := [some (.inr (.inr (some 66))), some (.inl x0), some (.inl (f_57 x0 s))]) (st' := [.inr (.inr (some 66))]) (h1 := hp L s c e) rfl ?_
  refine RuP.step (pc' := 7) (ls' := [some (.inr (.inr (some 66))), some (.inl x0), some (.inl (f_57 x0 s))]) (st' := [.inl (f_57 x0 s), .inr (.inr (some 66))]) (h1 := hp L s c e) rfl ?_
  refine RuP.step (pc' := 8) (ls' := [some (.inr (.inr (some 66))), some (.inl x0), some (.inl (f_57 x0 s))]) (st' := [.inl 1, .inl (f_57 x0 s), .inr (.inr (some 66))]) (h1 := hp L s c e) rfl ?_
  have J2 : ∀ v1_0 : Int, v1_0 = ((if ¬ (f_57 x0 s) = 1 then f_57 x0 s else ax_w32 ((f_57 x0 s) + 1)) : Int) → RuP 2 tb_m59 18 [some (.inr (.inr (some 66))), some (.inl x0), some (.inl (f_57 x0 s))] [.inl v1_0, .inr (.inr (some 66))] (hp L s c e) (oV L c e q) := by
    intro v1_0 ev1_0
    subst ev1_0
    obtain ⟨q1, h1, h⟩ := bd_some h
    refine RuP.cV rfl ((ev_63 h1).up (by decide)) ?_
    refine RuP.step (pc' := 22) (ls' := [some (.inr (.inr (some 66))), some (.inl x0), some (.inl (f_57 x0 s))]) (st' := [.inr (.inr (some 66))]) (h1 := hp L q1 c e) rfl ?_
    refine RuP.step (pc' := 23) (ls' := [some (.inr (.inr (some 66))), some (.inl x0), some (.inl (f_57 x0 s))]) (st' := [.inl x0, .inr (.inr (some 66))]) (h1 := hp L q1 c e) rfl ?_
    refine RuP.step (pc' := 24) (ls' := [some (.inr (.inr (some 66))), some (.inl x0), some (.inl (f_57 x0 s))]) (st' := [.inr (.inr (some 66)), .inl x0, .inr (.inr (some 66))]) (h1 := hp L q1 c e) rfl ?_
    refine RuP.step (pc' := 27) (ls' := [some (.inr (.inr (some 66))), some (.inl x0), some (.inl (f_57 x0 s))]) (st' := [.inl (q1 66 8), .inl x0, .inr (.inr (some 66))]) (h1 := hp L q1 c e) rfl ?_
    refine RuP.step (pc' := 28) (ls' := [some (.inr (.inr (some 66))), some (.inl x0), some (.inl (f_57 x0 s))]) (st' := [.inr (.inr (some 66)), .inl (q1 66 8), .inl x0, .inr (.inr (some 66))]) (h1 := hp L q1 c e) rfl ?_
    refine RuP.step (pc' := 31) (ls' := [some (.inr (.inr (some 66))), some (.inl x0), some (.inl (f_57 x0 s))]) (st' := [.inl (q1 66 9), .inl (q1 66 8), .inl x0, .inr (.inr (some 66))]) (h1 := hp L q1 c e) rfl ?_
    obtain ⟨b2, h⟩ := gd_some h
    obtain ⟨q2, h1, h⟩ := bd_some h
    refine RuP.cVe h1 rfl (EvP.v ((ev_61 x0 (q1 66 8) (q1 66 9) b2).up (by decide))) ?_
    refine RuP.step (pc' := 35) (ls' := [some (.inr (.inr (some 66))), some (.inl x0), some (.inl (f_57 x0 s))]) (st' := [.inr (.inr (some 66))]) (h1 := hp L q2 c e) rfl ?_
    refine RuP.step (pc' := 38) (ls' := [some (.inr (.inr (some 66))), some (.inl x0), some (.inl (f_57 x0 s))]) (st' := [.inr (.inr (some 39))]) (h1 := hp L q2 c e) rfl ?_
    refine RuP.step (pc' := 39) (ls' := [some (.inr (.inr (some 66))), some (.inl x0), some (.inl (f_57 x0 s))]) (st' := [.inr (.inr (some 66)), .inr (.inr (some 39))]) (h1 := hp L q2 c e) rfl ?_
    refine RuP.step (pc' := 42) (ls' := [some (.inr (.inr (some 66))), some (.inl x0), some (.inl (f_57 x0 s))]) (st' := [.inr (.inr (some 39)), .inr (.inr (some 39))]) (h1 := hp L q2 c e) rfl ?_
    refine RuP.step (pc' := 45) (ls' := [some (.inr (.inr (some 66))), some (.inl x0), some (.inl (f_57 x0 s))]) (st' := [.inl (q2 39 10), .inr (.inr (some 39))]) (h1 := hp L q2 c e) rfl ?_
    refine RuP.step (pc' := 46) (ls' := [some (.inr (.inr (some 66))), some (.inl x0), some (.inl (f_57 x0 s))]) (st' := [.inl 1, .inl (q2 39 10), .inr (.inr (some 39))]) (h1 := hp L q2 c e) rfl ?_
    obtain ⟨b3, h⟩ := gd_some h
    obtain ⟨q3, h1, h⟩ := bd_some h
    refine RuP.cVe h1 rfl (EvP.v ((ev_99 (q2 39 10) 1 b3).up (by decide))) ?_
    refine RuP.step (pc' := 50) (ls' := [some (.inr (.inr (some 66))), some (.inl x0), some (.inl (f_57 x0 s))]) (st' := [.inr (.inr (some 66))]) (h1 := hp L q3 c e) rfl ?_
    refine RuP.step (pc' := 53) (ls' := [some (.inr (.inr (some 66))), some (.inl x0), some (.inl (f_57 x0 s))]) (st' := [.inr (.inr (some 39))]) (h1 := hp L q3 c e) rfl ?_
    obtain ⟨b4, h⟩ := gd_some h
    obtain ⟨q4, h1, h⟩ := bd_some h
    refine RuP.cVe h1 rfl (EvP.v ((ev_94  b4).up (by decide))) ?_
    cases h
    exact RuP.dV rfl
  by_cases h5 : ¬ (f_57 x0 s) = 1
  · refine RuP.jy rfl h5 ?_
    refine RuP.step (pc' := 18) (ls' := [some (.inr (.inr (some 66))), some (.inl x0), some (.inl (f_57 x0 s))]) (st' := [.inl (f_57 x0 s), .inr (.inr (some 66))]) (h1 := hp L s c e) rfl ?_
    exact J2 _ (by simp only [if_pos h5])
  · refine RuP.jn rfl h5 ?_
    refine RuP.step (pc' := 12) (ls' := [some (.inr (.inr (some 66))), some (.inl x0), some (.inl (f_57 x0 s))]) (st' := [.inl (f_57 x0 s), .inr (.inr (some 66))]) (h1 := hp L s c e) rfl ?_
    refine RuP.step (pc' := 13) (ls' := [some (.inr (.inr (some 66))), some (.inl x0), some (.inl (f_57 x0 s))]) (st' := [.inl 1, .inl (f_57 x0 s), .inr (.inr (some 66))]) (h1 := hp L s c e) rfl ?_
    refine RuP.step (pc' := 14) (ls' := [some (.inr (.inr (some 66))), some (.inl x0), some (.inl (f_57 x0 s))]) (st' := [.inl (ax_w32 ((f_57 x0 s) + 1)), .inr (.inr (some 66))]) (h1 := hp L s c e) rfl ?_
    refine RuP.step (pc' := 18) (ls' := [some (.inr (.inr (some 66))), some (.inl x0), some (.inl (f_57 x0 s))]) (st' := [.inl (ax_w32 ((f_57 x0 s) + 1)), .inr (.inr (some 66))]) (h1 := hp L s c e) rfl ?_
    exact J2 _ (by simp only [if_neg h5])
/-- MachineText$Expressions.choice(I)V -/
noncomputable def f_60 (ex : Int → Sg → Option (Sum Sg (Nat × Sg))) (x0 : Int) (s : Sg) : Option (Sum (Sg) (Nat × Sg)) :=
  ((f_63 1 s).bind fun q1 =>
  (gd (g_99 (q1 39 10) 1 q1) (
  ((some (f_99 (q1 39 10) 1 q1)).bind fun q2 =>
  (xb (f_92 63 q2) fun q3 =>
  (xb (ex (ax_w32 (x0 + 1)) q3) fun q4 =>
  (gd (g_99 (q4 39 10) 1 q4) (
  ((some (f_99 (q4 39 10) 1 q4)).bind fun q5 =>
  (xb (f_92 58 q5) fun q6 =>
  (xb (ex (ax_w32 (x0 + 1)) q6) fun q7 =>
  (gd (g_126 (q1 66 8) (q4 66 8) q7) (
  ((some (f_126 (q1 66 8) (q4 66 8) q7)).bind fun q8 =>
  (gd (g_126 (q4 66 8) (q8 66 8) q8) (
  ((some (f_126 (q4 66 8) (q8 66 8) q8)).bind fun q9 =>
  (gd (g_124 21 (q1 66 9) (q1 66 8) 3 q9) (
  ((some (f_124 21 (q1 66 9) (q1 66 8) 3 q9)).bind fun q10 =>
  ((some (f_64 q10.1 (q1 66 9) 0 q10.2)).bind fun q11 =>
  some (.inl q11))))))))))))))))))))))
theorem ev_60 {L c : Nat} {e : Nat → Nat} {m : Nat} {ex : Int → Sg → Option (Sum Sg (Nat × Sg))} (hm : 20 ≤ m) (hex : ∀ d s q, ex d s = some q → EvP m 45 [.inr (.inr (some 66)), .inl d] (hp L s c e) (oX L c (oV L c e) q)) {s : Sg} {x0 : Int} {q : Sum (Sg) (Nat × Sg)} (h : f_60 ex x0 s = some q) : EvP (m + 1) 60 [.inr (.inr (some 66)), .inl x0] (hp L s c e) (oX L c (oV L c e) q) := by
  unfold f_60 at h
  refine EvP.of (μ := tb_m60) (ls := [some (.inr (.inr (some 66))), some (.inl x0), none, none, none]) rfl (Nat.le_of_ble_eq_true rfl) rfl ?_
  refine RuP.step (pc' := 1) (ls' := [some (.inr (.inr (some 66))), some (.inl x0), none, none, none]) (st' := [.inr (.inr (some 66))]) (h1 := hp L s c e) rfl ?_
  refine RuP.step (pc' := 2) (ls' := [some (.inr (.inr (some 66))), some (.inl x0), none, none, none]) (st' := [.inl 1, .inr (.inr (some 66))]) (h1 := hp L s c e) rfl ?_
  obtain ⟨q1, h1, h⟩ := bd_some h
  refine RuP.cV rfl ((ev_63 h1).up (by omega)) ?_
  refine RuP.step (pc' := 6) (ls' := [some (.inr (.inr (some 66))), some (.inl x0), none, none, none]) (st' := [.inr (.inr (some 66))]) (h1 := hp L q1 c e) rfl ?_
  refine RuP.step (pc' := 9) (ls' := [some (.inr (.inr (some 66))), some (.inl x0), none, none, none]) (st' := [.inl (q1 66 8)]) (h1 := hp L q1 c e) rfl ?_
  refine RuP.step (pc' := 10) (ls' := [some (.inr (.inr (some 66))), some (.inl x0), some (.inl (q1 66 8)), none, none]) (st' := []) (h1 := hp L q1 c e) rfl ?_
  refine RuP.step (pc' := 11) (ls' := [some (.inr (.inr (some 66))), some (.inl x0), some (.inl (q1 66 8)), none, none]) (st' := [.inr (.inr (some 66))]) (h1 := hp L q1 c e) rfl ?_
  refine RuP.step (pc' := 14) (ls' := [some (.inr (.inr (some 66))), some (.inl x0), some (.inl (q1 66 8)), none, none]) (st' := [.inl (q1 66 9)]) (h1 := hp L q1 c e) rfl ?_
  refine RuP.step (pc' := 15) (ls' := [some (.inr (.inr (some 66))), some (.inl x0), some (.inl (q1 66 8)), some (.inl (q1 66 9)), none]) (st' := []) (h1 := hp L q1 c e) rfl ?_
  refine RuP.step (pc' := 16) (ls' := [some (.inr (.inr (some 66))), some (.inl x0), some (.inl (q1 66 8)), some (.inl (q1 66 9)), none]) (st' := [.inr (.inr (some 66))]) (h1 := hp L q1 c e) rfl ?_
  refine RuP.step (pc' := 19) (ls' := [some (.inr (.inr (some 66))), some (.inl x0), some (.inl (q1 66 8)), some (.inl (q1 66 9)), none]) (st' := [.inr (.inr (some 39))]) (h1 := hp L q1 c e) rfl ?_
  refine RuP.step (pc' := 20) (ls' := [some (.inr (.inr (some 66))), some (.inl x0), some (.inl (q1 66 8)), some (.inl (q1 66 9)), none]) (st' := [.inr (.inr (some 66)), .inr (.inr (some 39))]) (h1 := hp L q1 c e) rfl ?_
  refine RuP.step (pc' := 23) (ls' := [some (.inr (.inr (some 66))), some (.inl x0), some (.inl (q1 66 8)), some (.inl (q1 66 9)), none]) (st' := [.inr (.inr (some 39)), .inr (.inr (some 39))]) (h1 := hp L q1 c e) rfl ?_
  refine RuP.step (pc' := 26) (ls' := [some (.inr (.inr (some 66))), some (.inl x0), some (.inl (q1 66 8)), some (.inl (q1 66 9)), none]) (st' := [.inl (q1 39 10), .inr (.inr (some 39))]) (h1 := hp L q1 c e) rfl ?_
  refine RuP.step (pc' := 27) (ls' := [some (.inr (.inr (some 66))), some (.inl x0), some (.inl (q1 66 8)), some (.inl (q1 66 9)), none]) (st' := [.inl 1, .inl (q1 39 10), .inr (.inr (some 39))]) (h1 := hp L q1 c e) rfl ?_
  obtain ⟨b0, h⟩ := gd_some h
  obtain ⟨q2, h1, h⟩ := bd_some h
  refine RuP.cVe h1 rfl (EvP.v ((ev_99 (q1 39 10) 1 b0).up (by omega))) ?_
  refine RuP.step (pc' := 31) (ls' := [some (.inr (.inr (some 66))), some (.inl x0), some (.inl (q1 66 8)), some (.inl (q1 66 9)), none]) (st' := [.inr (.inr (some 66))]) (h1 := hp L q2 c e) rfl ?_
  refine RuP.step (pc' := 34) (ls' := [some (.inr (.inr (some 66))), some (.inl x0), some (.inl (q1 66 8)), some (.inl (q1 66 9)), none]) (st' := [.inr (.inr (some 39))]) (h1 := hp L q2 c e) rfl ?_
  refine RuP.step (pc' := 36) (ls' := [some (.inr (.inr (some 66))), some (.inl x0), some (.inl (q1 66 8)), some (.inl (q1 66 9)), none]) (st' := [.inl 63, .inr (.inr (some 39))]) (h1 := hp L q2 c e) rfl ?_
  rcases xb_some h with ⟨q3, h1, h⟩ | ⟨xx1, h1, h2⟩
  rotate_left
  · subst h2
    exact RuP.pass rfl rfl ((ev_92 h1).up (by omega))
  refine RuP.cV rfl ((ev_92 h1).up (by omega)) ?_
  refine RuP.step (pc' := 40) (ls' := [some (.inr (.inr (some 66))), some (.inl x0), some (.inl (q1 66 8)), some (.inl (q1 66 9)), none]) (st' := [.inr (.inr (some 66))]) (h1 := hp L q3 c e) rfl ?_
  refine RuP.step (pc' := 41) (ls' := [some (.inr (.inr (some 66))), some (.inl x0), some (.inl (q1 66 8)), some (.inl (q1 66 9)), none]) (st' := [.inl x0, .inr (.inr (some 66))]) (h1 := hp L q3 c e) rfl ?_
  refine RuP.step (pc' := 42) (ls' := [some (.inr (.inr (some 66))), some (.inl x0), some (.inl (q1 66 8)), some (.inl (q1 66 9)), none]) (st' := [.inl 1, .inl x0, .inr (.inr (some 66))]) (h1 := hp L q3 c e) rfl ?_
  refine RuP.step (pc' := 43) (ls' := [some (.inr (.inr (some 66))), some (.inl x0), some (.inl (q1 66 8)), some (.inl (q1 66 9)), none]) (st' := [.inl (ax_w32 (x0 + 1)), .inr (.inr (some 66))]) (h1 := hp L q3 c e) rfl ?_
  rcases xb_some h with ⟨q4, h1, h⟩ | ⟨xx1, h1, h2⟩
  rotate_left
  · subst h2
    exact RuP.pass rfl rfl ((hex _ _ _ h1).up (by omega))
  refine RuP.cV rfl ((hex _ _ _ h1).up (by omega)) ?_
  refine RuP.step (pc' := 47) (ls' := [some (.inr (.inr (some 66))), some (.inl x0), some (.inl (q1 66 8)), some (.inl (q1 66 9)), none]) (st' := [.inr (.inr (some 66))]) (h1 := hp L q4 c e) rfl ?_
  refine RuP.step (pc' := 50) (ls' := [some (.inr (.inr (some 66))), some (.inl x0), some (.inl (q1 66 8)), some (.inl (q1 66 9)), none]) (st' := [.inl (q4 66 8)]) (h1 := hp L q4 c e) rfl ?_
  refine RuP.step (pc' := 52) (ls' := [some (.inr (.inr (some 66))), some (.inl x0), some (.inl (q1 66 8)), some (.inl (q1 66 9)), some (.inl (q4 66 8))]) (st' := []) (h1 := hp L q4 c e) rfl ?_
  refine RuP.step (pc' := 53) (ls' := [some (.inr (.inr (some 66))), some (.inl x0), some (.inl (q1 66 8)), some (.inl (q1 66 9)), some (.inl (q4 66 8))]) (st' := [.inr (.inr (some 66))]) (h1 := hp L q4 c e) rfl ?_
  refine RuP.step (pc' := 56) (ls' := [some (.inr (.inr (some 66))), some (.inl x0), some (.inl (q1 66 8)), some (.inl (q1 66 9)), some (.inl (q4 66 8))]) (st' := [.inr (.inr (some 39))]) (h1 := hp L q4 c e) rfl ?_
  refine RuP.step (pc' := 57) (ls' := [some (.inr (.inr (some 66))), some (.inl x0), some (.inl (q1 66 8)), some (.inl (q1 66 9)), some (.inl (q4 66 8))]) (st' := [.inr (.inr (some 66)), .inr (.inr (some 39))]) (h1 := hp L q4 c e) rfl ?_
  refine RuP.step (pc' := 60) (ls' := [some (.inr (.inr (some 66))), some (.inl x0), some (.inl (q1 66 8)), some (.inl (q1 66 9)), some (.inl (q4 66 8))]) (st' := [.inr (.inr (some 39)), .inr (.inr (some 39))]) (h1 := hp L q4 c e) rfl ?_
  refine RuP.step (pc' := 63) (ls' := [some (.inr (.inr (some 66))), some (.inl x0), some (.inl (q1 66 8)), some (.inl (q1 66 9)), some (.inl (q4 66 8))]) (st' := [.inl (q4 39 10), .inr (.inr (some 39))]) (h1 := hp L q4 c e) rfl ?_
  refine RuP.step (pc' := 64) (ls' := [some (.inr (.inr (some 66))), some (.inl x0), some (.inl (q1 66 8)), some (.inl (q1 66 9)), some (.inl (q4 66 8))]) (st' := [.inl 1, .inl (q4 39 10), .inr (.inr (some 39))]) (h1 := hp L q4 c e) rfl ?_
  obtain ⟨b1, h⟩ := gd_some h
  obtain ⟨q5, h1, h⟩ := bd_some h
  refine RuP.cVe h1 rfl (EvP.v ((ev_99 (q4 39 10) 1 b1).up (by omega))) ?_
  refine RuP.step (pc' := 68) (ls' := [some (.inr (.inr (some 66))), some (.inl x0), some (.inl (q1 66 8)), some (.inl (q1 66 9)), some (.inl (q4 66 8))]) (st' := [.inr (.inr (some 66))]) (h1 := hp L q5 c e) rfl ?_
  refine RuP.step (pc' := 71) (ls' := [some (.inr (.inr (some 66))), some (.inl x0), some (.inl (q1 66 8)), some (.inl (q1 66 9)), some (.inl (q4 66 8))]) (st' := [.inr (.inr (some 39))]) (h1 := hp L q5 c e) rfl ?_
  refine RuP.step (pc' := 73) (ls' := [some (.inr (.inr (some 66))), some (.inl x0), some (.inl (q1 66 8)), some (.inl (q1 66 9)), some (.inl (q4 66 8))]) (st' := [.inl 58, .inr (.inr (some 39))]) (h1 := hp L q5 c e) rfl ?_
  rcases xb_some h with ⟨q6, h1, h⟩ | ⟨xx1, h1, h2⟩
  rotate_left
  · subst h2
    exact RuP.pass rfl rfl ((ev_92 h1).up (by omega))
  refine RuP.cV rfl ((ev_92 h1).up (by omega)) ?_
  refine RuP.step (pc' := 77) (ls' := [some (.inr (.inr (some 66))), some (.inl x0), some (.inl (q1 66 8)), some (.inl (q1 66 9)), some (.inl (q4 66 8))]) (st' := [.inr (.inr (some 66))]) (h1 := hp L q6 c e) rfl ?_
  refine RuP.step (pc' := 78) (ls' := [some (.inr (.inr (some 66))), some (.inl x0), some (.inl (q1 66 8)), some (.inl (q1 66 9)), some (.inl (q4 66 8))]) (st' := [.inl x0, .inr (.inr (some 66))]) (h1 := hp L q6 c e) rfl ?_
  refine RuP.step (pc' := 79) (ls' := [some (.inr (.inr (some 66))), some (.inl x0), some (.inl (q1 66 8)), some (.inl (q1 66 9)), some (.inl (q4 66 8))]) (st' := [.inl 1, .inl x0, .inr (.inr (some 66))]) (h1 := hp L q6 c e) rfl ?_
  refine RuP.step (pc' := 80) (ls' := [some (.inr (.inr (some 66))), some (.inl x0), some (.inl (q1 66 8)), some (.inl (q1 66 9)), some (.inl (q4 66 8))]) (st' := [.inl (ax_w32 (x0 + 1)), .inr (.inr (some 66))]) (h1 := hp L q6 c e) rfl ?_
  rcases xb_some h with ⟨q7, h1, h⟩ | ⟨xx1, h1, h2⟩
  rotate_left
  · subst h2
    exact RuP.pass rfl rfl ((hex _ _ _ h1).up (by omega))
  refine RuP.cV rfl ((hex _ _ _ h1).up (by omega)) ?_
  refine RuP.step (pc' := 84) (ls' := [some (.inr (.inr (some 66))), some (.inl x0), some (.inl (q1 66 8)), some (.inl (q1 66 9)), some (.inl (q4 66 8))]) (st' := [.inr (.inr (some 66))]) (h1 := hp L q7 c e) rfl ?_
  refine RuP.step (pc' := 87) (ls' := [some (.inr (.inr (some 66))), some (.inl x0), some (.inl (q1 66 8)), some (.inl (q1 66 9)), some (.inl (q4 66 8))]) (st' := [.inr (.inr (some 46))]) (h1 := hp L q7 c e) rfl ?_
  refine RuP.step (pc' := 88) (ls' := [some (.inr (.inr (some 66))), some (.inl x0), some (.inl (q1 66 8)), some (.inl (q1 66 9)), some (.inl (q4 66 8))]) (st' := [.inl (q1 66 8), .inr (.inr (some 46))]) (h1 := hp L q7 c e) rfl ?_
  refine RuP.step (pc' := 90) (ls' := [some (.inr (.inr (some 66))), some (.inl x0), some (.inl (q1 66 8)), some (.inl (q1 66 9)), some (.inl (q4 66 8))]) (st' := [.inl (q4 66 8), .inl (q1 66 8), .inr (.inr (some 46))]) (h1 := hp L q7 c e) rfl ?_
  obtain ⟨b2, h⟩ := gd_some h
  obtain ⟨q8, h1, h⟩ := bd_some h
  refine RuP.cVe h1 rfl (EvP.v ((ev_126 (q1 66 8) (q4 66 8) b2).up (by omega))) ?_
  refine RuP.step (pc' := 94) (ls' := [some (.inr (.inr (some 66))), some (.inl x0), some (.inl (q1 66 8)), some (.inl (q1 66 9)), some (.inl (q4 66 8))]) (st' := [.inr (.inr (some 66))]) (h1 := hp L q8 c e) rfl ?_
  refine RuP.step (pc' := 97) (ls' := [some (.inr (.inr (some 66))), some (.inl x0), some (.inl (q1 66 8)), some (.inl (q1 66 9)), some (.inl (q4 66 8))]) (st' := [.inr (.inr (some 46))]) (h1 := hp L q8 c e) rfl ?_
  refine RuP.step (pc' := 99) (ls' := [some (.inr (.inr (some 66))), some (.inl x0), some (.inl (q1 66 8)), some (.inl (q1 66 9)), some (.inl (q4 66 8))]) (st' := [.inl (q4 66 8), .inr (.inr (some 46))]) (h1 := hp L q8 c e) rfl ?_
  refine RuP.step (pc' := 100) (ls' := [some (.inr (.inr (some 66))), some (.inl x0), some (.inl (q1 66 8)), some (.inl (q1 66 9)), some (.inl (q4 66 8))]) (st' := [.inr (.inr (some 66)), .inl (q4 66 8), .inr (.inr (some 46))]) (h1 := hp L q8 c e) rfl ?_
  refine RuP.step (pc' := 103) (ls' := [some (.inr (.inr (some 66))), some (.inl x0), some (.inl (q1 66 8)), some (.inl (q1 66 9)), some (.inl (q4 66 8))]) (st' := [.inl (q8 66 8), .inl (q4 66 8), .inr (.inr (some 46))]) (h1 := hp L q8 c e) rfl ?_
  obtain ⟨b3, h⟩ := gd_some h
  obtain ⟨q9, h1, h⟩ := bd_some h
  refine RuP.cVe h1 rfl (EvP.v ((ev_126 (q4 66 8) (q8 66 8) b3).up (by omega))) ?_
  refine RuP.step (pc' := 107) (ls' := [some (.inr (.inr (some 66))), some (.inl x0), some (.inl (q1 66 8)), some (.inl (q1 66 9)), some (.inl (q4 66 8))]) (st' := [.inr (.inr (some 66))]) (h1 := hp L q9 c e) rfl ?_
  refine RuP.step (pc' := 108) (ls' := [some (.inr (.inr (some 66))), some (.inl x0), some (.inl (q1 66 8)), some (.inl (q1 66 9)), some (.inl (q4 66 8))]) (st' := [.inr (.inr (some 66)), .inr (.inr (some 66))]) (h1 := hp L q9 c e) rfl ?_
  refine RuP.step (pc' := 111) (ls' := [some (.inr (.inr (some 66))), some (.inl x0), some (.inl (q1 66 8)), some (.inl (q1 66 9)), some (.inl (q4 66 8))]) (st' := [.inr (.inr (some 46)), .inr (.inr (some 66))]) (h1 := hp L q9 c e) rfl ?_
  refine RuP.step (pc' := 113) (ls' := [some (.inr (.inr (some 66))), some (.inl x0), some (.inl (q1 66 8)), some (.inl (q1 66 9)), some (.inl (q4 66 8))]) (st' := [.inl 21, .inr (.inr (some 46)), .inr (.inr (some 66))]) (h1 := hp L q9 c e) rfl ?_
  refine RuP.step (pc' := 114) (ls' := [some (.inr (.inr (some 66))), some (.inl x0), some (.inl (q1 66 8)), some (.inl (q1 66 9)), some (.inl (q4 66 8))]) (st' := [.inl (q1 66 9), .inl 21, .inr (.inr (some 46)), .inr (.inr (some 66))]) (h1 := hp L q9 c e) rfl ?_
  refine RuP.step (pc' := 115) (ls' := [some (.inr (.inr (some 66))), some (.inl x0), some (.inl (q1 66 8)), some (.inl (q1 66 9)), some (.inl (q4 66 8))]) (st' := [.inl (q1 66 8), .inl (q1 66 9), .inl 21, .inr (.inr (some 46)), .inr (.inr (some 66))]) (h1 := hp L q9 c e) rfl ?_
  refine RuP.step (pc' := 116) (ls' := [some (.inr (.inr (some 66))), some (.inl x0), some (.inl (q1 66 8)), some (.inl (q1 66 9)), some (.inl (q4 66 8))]) (st' := [.inl 3, .inl (q1 66 8), .inl (q1 66 9), .inl 21, .inr (.inr (some 46)), .inr (.inr (some 66))]) (h1 := hp L q9 c e) rfl ?_
  obtain ⟨b4, h⟩ := gd_some h
  obtain ⟨q10, h1, h⟩ := bd_some h
  refine RuP.cIe h1 rfl (EvP.ip ((ev_124 21 (q1 66 9) (q1 66 8) 3 b4).up (by omega))) ?_
  refine RuP.step (pc' := 120) (ls' := [some (.inr (.inr (some 66))), some (.inl x0), some (.inl (q1 66 8)), some (.inl (q1 66 9)), some (.inl (q4 66 8))]) (st' := [.inl (q1 66 9), .inl q10.1, .inr (.inr (some 66))]) (h1 := hp L q10.2 c e) rfl ?_
  refine RuP.step (pc' := 121) (ls' := [some (.inr (.inr (some 66))), some (.inl x0), some (.inl (q1 66 8)), some (.inl (q1 66 9)), some (.inl (q4 66 8))]) (st' := [.inl 0, .inl (q1 66 9), .inl q10.1, .inr (.inr (some 66))]) (h1 := hp L q10.2 c e) rfl ?_
  obtain ⟨q11, h1, h⟩ := bd_some h
  refine RuP.cVe h1 rfl (EvP.v ((ev_64 q10.1 (q1 66 9) 0).up (by omega))) ?_
  cases h
  exact RuP.dV rfl
/-- MachineText$Names.spelled()I -/
noncomputable def f_104 (s : Sg) : Option (Int × Sg) :=
  ((f_107 (s 31 9) (s 31 10) s).bind fun q1 =>
  some (q1.1, (ax_u2 (ax_u2 q1.2 31 9 0) 31 10 0)))
theorem ev_104 {L c : Nat} {e : Nat → Nat} {s : Sg} {q : Int × Sg} (h : f_104 s = some q) : EvP 3 104 [.inr (.inr (some 31))] (hp L s c e) (oI L c e q) := by
  unfold f_104 at h
  refine EvP.of (μ := tb_m104) (ls := [some (.inr (.inr (some 31))), none]) rfl (Nat.le_of_ble_eq_true rfl) rfl ?_
  refine RuP.step (pc' := 1) (ls' := [some (.inr (.inr (some 31))), none]) (st' := [.inr (.inr (some 31))]) (h1 := hp L s c e) rfl ?_
  refine RuP.step (pc' := 2) (ls' := [some (.inr (.inr (some 31))), none]) (st' := [.inr (.inr (some 31)), .inr (.inr (some 31))]) (h1 := hp L s c e) rfl ?_
  refine RuP.step (pc' := 5) (ls' := [some (.inr (.inr (some 31))), none]) (st' := [.inr (.inl (s 31 9)), .inr (.inr (some 31))]) (h1 := hp L s c e) rfl ?_
  refine RuP.step (pc' := 6) (ls' := [some (.inr (.inr (some 31))), none]) (st' := [.inr (.inr (some 31)), .inr (.inl (s 31 9)), .inr (.inr (some 31))]) (h1 := hp L s c e) rfl ?_
  refine RuP.step (pc' := 9) (ls' := [some (.inr (.inr (some 31))), none]) (st' := [.inr (.inl (s 31 10)), .inr (.inl (s 31 9)), .inr (.inr (some 31))]) (h1 := hp L s c e) rfl ?_
  obtain ⟨q1, h1, h⟩ := bd_some h
  refine RuP.cI rfl ((ev_107 h1).up (by decide)) ?_
  refine RuP.step (pc' := 13) (ls' := [some (.inr (.inr (some 31))), some (.inl q1.1)]) (st' := []) (h1 := hp L q1.2 c e) rfl ?_
  refine RuP.step (pc' := 14) (ls' := [some (.inr (.inr (some 31))), some (.inl q1.1)]) (st' := [.inr (.inr (some 31))]) (h1 := hp L q1.2 c e) rfl ?_
  refine RuP.step (pc' := 15) (ls' := [some (.inr (.inr (some 31))), some (.inl q1.1)]) (st' := [.inr (.inl 0), .inr (.inr (some 31))]) (h1 := hp L q1.2 c e) rfl ?_
  refine RuP.step (pc' := 18) (ls' := [some (.inr (.inr (some 31))), some (.inl q1.1)]) (st' := []) (h1 := hp L (ax_u2 q1.2 31 9 0) c e) rfl ?_
  refine RuP.step (pc' := 19) (ls' := [some (.inr (.inr (some 31))), some (.inl q1.1)]) (st' := [.inr (.inr (some 31))]) (h1 := hp L (ax_u2 q1.2 31 9 0) c e) rfl ?_
  refine RuP.step (pc' := 20) (ls' := [some (.inr (.inr (some 31))), some (.inl q1.1)]) (st' := [.inr (.inl 0), .inr (.inr (some 31))]) (h1 := hp L (ax_u2 q1.2 31 9 0) c e) rfl ?_
  refine RuP.step (pc' := 23) (ls' := [some (.inr (.inr (some 31))), some (.inl q1.1)]) (st' := []) (h1 := hp L (ax_u2 (ax_u2 q1.2 31 9 0) 31 10 0) c e) rfl ?_
  refine RuP.step (pc' := 24) (ls' := [some (.inr (.inr (some 31))), some (.inl q1.1)]) (st' := [.inl q1.1]) (h1 := hp L (ax_u2 (ax_u2 q1.2 31 9 0) 31 10 0) c e) rfl ?_
  cases h
  exact RuP.dI rfl
/-- MachineText$Printer.writeGap(II)V -/
noncomputable def j_132_67 (s : Sg) : Option Sg :=
  (gd (g_134 32 s) (
  ((some (f_134 32 s)).bind fun q1 =>
  some q1)))
theorem bl_132_67 {L c : Nat} {e : Nat → Nat} : ∀ (z1 z2 z3 : Int) (s : Sg) (q : Sg), j_132_67 s = some q → RuP 2 tb_m132 67 [some (.inr (.inr (some 82))), some (.inl z1), some (.inl z2), some (.inl z3)] [] (hp L s c e) (oV L c e q) := by
  intro z1 z2 z3 s q h
  unfold j_132_67 at h
  refine RuP.step (pc' := 68) (ls' := [some (.inr (.inr (some 82))), some (.inl z1), some (.inl z2), some (.inl z3)]) (st' := [.inr (.inr (some 82))]) (h1 := hp L s c e) rfl ?_
  refine RuP.step (pc' := 70) (ls' := [some (.inr (.inr (some 82))), some (.inl z1), some (.inl z2), some (.inl z3)]) (st' := [.inl 32, .inr (.inr (some 82))]) (h1 := hp L s c e) rfl ?_
  obtain ⟨b0, h⟩ := gd_some h
  obtain ⟨q1, h1, h⟩ := bd_some h
  refine RuP.cVe h1 rfl (EvP.v ((ev_134 32 b0).up (by decide))) ?_
  cases h
  exact RuP.dV rfl
noncomputable def j_132_36 (l1 l2 l3 : Int) (s : Sg) : Option Sg :=
  (gd (g_135 l1 s) (
  (if ¬ (f_135 l1 s) = 0 then
    j_132_67 s
  else
    (gd (g_135 l2 s) (
    (if ¬ (f_135 l2 s) = 0 then
      j_132_67 s
    else
      (gd (g_79 l1 s) (
      (if f_136 (f_79 l1 s) l3 s = 0 then
        some s
      else
        j_132_67 s)))))))))
theorem bl_132_36 {L c : Nat} {e : Nat → Nat} : ∀ (l1 l2 l3 : Int) (s : Sg) (q : Sg), j_132_36 l1 l2 l3 s = some q → RuP 2 tb_m132 36 [some (.inr (.inr (some 82))), some (.inl l1), some (.inl l2), some (.inl l3)] [] (hp L s c e) (oV L c e q) := by
  intro l1 l2 l3 s q h
  unfold j_132_36 at h
  refine RuP.step (pc' := 37) (ls' := [some (.inr (.inr (some 82))), some (.inl l1), some (.inl l2), some (.inl l3)]) (st' := [.inr (.inr (some 82))]) (h1 := hp L s c e) rfl ?_
  refine RuP.step (pc' := 38) (ls' := [some (.inr (.inr (some 82))), some (.inl l1), some (.inl l2), some (.inl l3)]) (st' := [.inl l1, .inr (.inr (some 82))]) (h1 := hp L s c e) rfl ?_
  obtain ⟨b0, h⟩ := gd_some h
  refine RuP.cI rfl (EvP.i ((ev_135 l1 b0).up (by decide))) ?_
  by_cases h1 : ¬ (f_135 l1 s) = 0
  · rw [if_pos h1] at h
    refine RuP.jy rfl h1 ?_
    exact bl_132_67 _ _ _ _ _ h
  · rw [if_neg h1] at h
    refine RuP.jn rfl h1 ?_
    refine RuP.step (pc' := 45) (ls' := [some (.inr (.inr (some 82))), some (.inl l1), some (.inl l2), some (.inl l3)]) (st' := [.inr (.inr (some 82))]) (h1 := hp L s c e) rfl ?_
    refine RuP.step (pc' := 46) (ls' := [some (.inr (.inr (some 82))), some (.inl l1), some (.inl l2), some (.inl l3)]) (st' := [.inl l2, .inr (.inr (some 82))]) (h1 := hp L s c e) rfl ?_
    obtain ⟨b2, h⟩ := gd_some h
    refine RuP.cI rfl (EvP.i ((ev_135 l2 b2).up (by decide))) ?_
    by_cases h3 : ¬ (f_135 l2 s) = 0
    · rw [if_pos h3] at h
      refine RuP.jy rfl h3 ?_
      exact bl_132_67 _ _ _ _ _ h
    · rw [if_neg h3] at h
      refine RuP.jn rfl h3 ?_
      refine RuP.step (pc' := 53) (ls' := [some (.inr (.inr (some 82))), some (.inl l1), some (.inl l2), some (.inl l3)]) (st' := [.inr (.inr (some 82))]) (h1 := hp L s c e) rfl ?_
      refine RuP.step (pc' := 56) (ls' := [some (.inr (.inr (some 82))), some (.inl l1), some (.inl l2), some (.inl l3)]) (st' := [.inr (.inr (some 39))]) (h1 := hp L s c e) rfl ?_
      refine RuP.step (pc' := 57) (ls' := [some (.inr (.inr (some 82))), some (.inl l1), some (.inl l2), some (.inl l3)]) (st' := [.inl l1, .inr (.inr (some 39))]) (h1 := hp L s c e) rfl ?_
      obtain ⟨b4, h⟩ := gd_some h
      refine RuP.cI rfl (EvP.i ((ev_79 l1 b4).up (by decide))) ?_
      refine RuP.step (pc' := 61) (ls' := [some (.inr (.inr (some 82))), some (.inl l1), some (.inl l2), some (.inl l3)]) (st' := [.inl l3, .inl (f_79 l1 s)]) (h1 := hp L s c e) rfl ?_
      refine RuP.cI rfl ((ev_136 (f_79 l1 s) l3).up (by decide)) ?_
      by_cases h5 : f_136 (f_79 l1 s) l3 s = 0
      · rw [if_pos h5] at h
        refine RuP.jy rfl h5 ?_
        cases h
        exact RuP.dV rfl
      · rw [if_neg h5] at h
        refine RuP.jn rfl h5 ?_
        exact bl_132_67 _ _ _ _ _ h
noncomputable def f_132 (x0 x1 : Int) (s : Sg) : Option Sg :=
  (if ¬ x0 = (-1) then
    (gd (g_79 x1 s) (
    (if f_79 x1 s < 17 then
      j_132_36 x0 x1 (f_79 x1 s) s
    else
      (if 20 < f_79 x1 s then
        j_132_36 x0 x1 (f_79 x1 s) s
      else
        (gd (g_134 10 s) (
        ((some (f_134 10 s)).bind fun q2 =>
        some q2)))))))
  else
    some s)
theorem ev_132 {L c : Nat} {e : Nat → Nat} {s : Sg} {x0 x1 : Int} {q : Sg} (h : f_132 x0 x1 s = some q) : EvP 3 132 [.inr (.inr (some 82)), .inl x0, .inl x1] (hp L s c e) (oV L c e q) := by
  unfold f_132 at h
  refine EvP.of (μ := tb_m132) (ls := [some (.inr (.inr (some 82))), some (.inl x0), some (.inl x1), none]) rfl (Nat.le_of_ble_eq_true rfl) rfl ?_
  refine RuP.step (pc' := 1) (ls' := [some (.inr (.inr (some 82))), some (.inl x0), some (.inl x1), none]) (st' := [.inl x0]) (h1 := hp L s c e) rfl ?_
  refine RuP.step (pc' := 2) (ls' := [some (.inr (.inr (some 82))), some (.inl x0), some (.inl x1), none]) (st' := [.inl (-1), .inl x0]) (h1 := hp L s c e) rfl ?_
  by_cases h0 : ¬ x0 = (-1)
  · rw [if_pos h0] at h
    refine RuP.jy rfl h0 ?_
    refine RuP.step (pc' := 7) (ls' := [some (.inr (.inr (some 82))), some (.inl x0), some (.inl x1), none]) (st' := [.inr (.inr (some 82))]) (h1 := hp L s c e) rfl ?_
    refine RuP.step (pc' := 10) (ls' := [some (.inr (.inr (some 82))), some (.inl x0), some (.inl x1), none]) (st' := [.inr (.inr (some 39))]) (h1 := hp L s c e) rfl ?_
    refine RuP.step (pc' := 11) (ls' := [some (.inr (.inr (some 82))), some (.inl x0), some (.inl x1), none]) (st' := [.inl x1, .inr (.inr (some 39))]) (h1 := hp L s c e) rfl ?_
    obtain ⟨b1, h⟩ := gd_some h
    refine RuP.cI rfl (EvP.i ((ev_79 x1 b1).up (by decide))) ?_
    refine RuP.step (pc' := 15) (ls' := [some (.inr (.inr (some 82))), some (.inl x0), some (.inl x1), some (.inl (f_79 x1 s))]) (st' := []) (h1 := hp L s c e) rfl ?_
    refine RuP.step (pc' := 16) (ls' := [some (.inr (.inr (some 82))), some (.inl x0), some (.inl x1), some (.inl (f_79 x1 s))]) (st' := [.inl (f_79 x1 s)]) (h1 := hp L s c e) rfl ?_
    refine RuP.step (pc' := 18) (ls' := [some (.inr (.inr (some 82))), some (.inl x0), some (.inl x1), some (.inl (f_79 x1 s))]) (st' := [.inl 17, .inl (f_79 x1 s)]) (h1 := hp L s c e) rfl ?_
    by_cases h2 : f_79 x1 s < 17
    · rw [if_pos h2] at h
      refine RuP.jy rfl h2 ?_
      exact bl_132_36 _ _ _ _ _ h
    · rw [if_neg h2] at h
      refine RuP.jn rfl h2 ?_
      refine RuP.step (pc' := 22) (ls' := [some (.inr (.inr (some 82))), some (.inl x0), some (.inl x1), some (.inl (f_79 x1 s))]) (st' := [.inl (f_79 x1 s)]) (h1 := hp L s c e) rfl ?_
      refine RuP.step (pc' := 24) (ls' := [some (.inr (.inr (some 82))), some (.inl x0), some (.inl x1), some (.inl (f_79 x1 s))]) (st' := [.inl 20, .inl (f_79 x1 s)]) (h1 := hp L s c e) rfl ?_
      by_cases h3 : 20 < f_79 x1 s
      · rw [if_pos h3] at h
        refine RuP.jy rfl h3 ?_
        exact bl_132_36 _ _ _ _ _ h
      · rw [if_neg h3] at h
        refine RuP.jn rfl h3 ?_
        refine RuP.step (pc' := 28) (ls' := [some (.inr (.inr (some 82))), some (.inl x0), some (.inl x1), some (.inl (f_79 x1 s))]) (st' := [.inr (.inr (some 82))]) (h1 := hp L s c e) rfl ?_
        refine RuP.step (pc' := 30) (ls' := [some (.inr (.inr (some 82))), some (.inl x0), some (.inl x1), some (.inl (f_79 x1 s))]) (st' := [.inl 10, .inr (.inr (some 82))]) (h1 := hp L s c e) rfl ?_
        obtain ⟨b4, h⟩ := gd_some h
        obtain ⟨q2, h1, h⟩ := bd_some h
        refine RuP.cVe h1 rfl (EvP.v ((ev_134 10 b4).up (by decide))) ?_
        refine RuP.step (pc' := 73) (ls' := [some (.inr (.inr (some 82))), some (.inl x0), some (.inl x1), some (.inl (f_79 x1 s))]) (st' := []) (h1 := hp L q2 c e) rfl ?_
        cases h
        exact RuP.dV rfl
  · rw [if_neg h0] at h
    refine RuP.jn rfl h0 ?_
    cases h
    exact RuP.dV rfl
/-- MachineText$Printer.writeLexeme(I)V -/
noncomputable def j_133_48 : Nat → Int → Int → Int → Sg → Option Sg
  | 0, _, _, _, _ => none
  | F + 1, l1, l2, l3, s =>
    (gd (g_82 l1 s) (
    (if f_82 l1 s ≤ l3 then
      some s
    else
      (gd (g_83 (ax_w32 (l2 + l3)) s) (
      (gd (g_134 (f_83 (ax_w32 (l2 + l3)) s) s) (
      ((some (f_134 (f_83 (ax_w32 (l2 + l3)) s) s)).bind fun q1 =>
      (j_133_48 F) l1 l2 (ax_w32 (l3 + 1)) q1))))))))
theorem bl_133_48 {L c : Nat} {e : Nat → Nat} : ∀ (F : Nat) (l1 l2 l3 : Int) (s : Sg) (q : Sg), j_133_48 F l1 l2 l3 s = some q → RuP 2 tb_m133 48 [some (.inr (.inr (some 82))), some (.inl l1), some (.inl l2), some (.inl l3)] [] (hp L s c e) (oV L c e q) := by
  intro F
  induction F with
  | zero =>
    intro l1 l2 l3 s q h
    rw [j_133_48] at h
    cases h
  | succ F ih =>
    intro l1 l2 l3 s q h
    rw [j_133_48] at h
    refine RuP.step (pc' := 49) (ls' := [some (.inr (.inr (some 82))), some (.inl l1), some (.inl l2), some (.inl l3)]) (st' := [.inl l3]) (h1 := hp L s c e) rfl ?_
    refine RuP.step (pc' := 50) (ls' := [some (.inr (.inr (some 82))), some (.inl l1), some (.inl l2), some (.inl l3)]) (st' := [.inr (.inr (some 82)), .inl l3]) (h1 := hp L s c e) rfl ?_
    refine RuP.step (pc' := 53) (ls' := [some (.inr (.inr (some 82))), some (.inl l1), some (.inl l2), some (.inl l3)]) (st' := [.inr (.inr (some 39)), .inl l3]) (h1 := hp L s c e) rfl ?_
    refine RuP.step (pc' := 54) (ls' := [some (.inr (.inr (some 82))), some (.inl l1), some (.inl l2), some (.inl l3)]) (st' := [.inl l1, .inr (.inr (some 39)), .inl l3]) (h1 := hp L s c e) rfl ?_
    obtain ⟨b0, h⟩ := gd_some h
    refine RuP.cI rfl (EvP.i ((ev_82 l1 b0).up (by decide))) ?_
    by_cases h1 : f_82 l1 s ≤ l3
    · rw [if_pos h1] at h
      refine RuP.jy rfl h1 ?_
      cases h
      exact RuP.dV rfl
    · rw [if_neg h1] at h
      refine RuP.jn rfl h1 ?_
      refine RuP.step (pc' := 61) (ls' := [some (.inr (.inr (some 82))), some (.inl l1), some (.inl l2), some (.inl l3)]) (st' := [.inr (.inr (some 82))]) (h1 := hp L s c e) rfl ?_
      refine RuP.step (pc' := 62) (ls' := [some (.inr (.inr (some 82))), some (.inl l1), some (.inl l2), some (.inl l3)]) (st' := [.inr (.inr (some 82)), .inr (.inr (some 82))]) (h1 := hp L s c e) rfl ?_
      refine RuP.step (pc' := 65) (ls' := [some (.inr (.inr (some 82))), some (.inl l1), some (.inl l2), some (.inl l3)]) (st' := [.inr (.inr (some 39)), .inr (.inr (some 82))]) (h1 := hp L s c e) rfl ?_
      refine RuP.step (pc' := 66) (ls' := [some (.inr (.inr (some 82))), some (.inl l1), some (.inl l2), some (.inl l3)]) (st' := [.inl l2, .inr (.inr (some 39)), .inr (.inr (some 82))]) (h1 := hp L s c e) rfl ?_
      refine RuP.step (pc' := 67) (ls' := [some (.inr (.inr (some 82))), some (.inl l1), some (.inl l2), some (.inl l3)]) (st' := [.inl l3, .inl l2, .inr (.inr (some 39)), .inr (.inr (some 82))]) (h1 := hp L s c e) rfl ?_
      refine RuP.step (pc' := 68) (ls' := [some (.inr (.inr (some 82))), some (.inl l1), some (.inl l2), some (.inl l3)]) (st' := [.inl (ax_w32 (l2 + l3)), .inr (.inr (some 39)), .inr (.inr (some 82))]) (h1 := hp L s c e) rfl ?_
      obtain ⟨b2, h⟩ := gd_some h
      refine RuP.cI rfl (EvP.i ((ev_83 (ax_w32 (l2 + l3)) b2).up (by decide))) ?_
      obtain ⟨b3, h⟩ := gd_some h
      obtain ⟨q1, h1, h⟩ := bd_some h
      refine RuP.cVe h1 rfl (EvP.v ((ev_134 (f_83 (ax_w32 (l2 + l3)) s) b3).up (by decide))) ?_
      refine RuP.step (pc' := 77) (ls' := [some (.inr (.inr (some 82))), some (.inl l1), some (.inl l2), some (.inl (ax_w32 (l3 + 1)))]) (st' := []) (h1 := hp L q1 c e) rfl ?_
      refine RuP.step (pc' := 48) (ls' := [some (.inr (.inr (some 82))), some (.inl l1), some (.inl l2), some (.inl (ax_w32 (l3 + 1)))]) (st' := []) (h1 := hp L q1 c e) rfl ?_
      exact ih _ _ _ _ _ h
noncomputable def j_133_37 (l1 : Int) (s : Sg) : Option Sg :=
  (gd (g_80 l1 s) (
  j_133_48 FU l1 (f_80 l1 s) 0 s))
theorem bl_133_37 {L c : Nat} {e : Nat → Nat} : ∀ (d2 d3 : Option ax_V) (l1 : Int) (s : Sg) (q : Sg), j_133_37 l1 s = some q → RuP 2 tb_m133 37 [some (.inr (.inr (some 82))), some (.inl l1), d2, d3] [] (hp L s c e) (oV L c e q) := by
  intro d2 d3 l1 s q h
  unfold j_133_37 at h
  refine RuP.step (pc' := 38) (ls' := [some (.inr (.inr (some 82))), some (.inl l1), d2, d3]) (st' := [.inr (.inr (some 82))]) (h1 := hp L s c e) rfl ?_
  refine RuP.step (pc' := 41) (ls' := [some (.inr (.inr (some 82))), some (.inl l1), d2, d3]) (st' := [.inr (.inr (some 39))]) (h1 := hp L s c e) rfl ?_
  refine RuP.step (pc' := 42) (ls' := [some (.inr (.inr (some 82))), some (.inl l1), d2, d3]) (st' := [.inl l1, .inr (.inr (some 39))]) (h1 := hp L s c e) rfl ?_
  obtain ⟨b0, h⟩ := gd_some h
  refine RuP.cI rfl (EvP.i ((ev_80 l1 b0).up (by decide))) ?_
  refine RuP.step (pc' := 46) (ls' := [some (.inr (.inr (some 82))), some (.inl l1), some (.inl (f_80 l1 s)), d3]) (st' := []) (h1 := hp L s c e) rfl ?_
  refine RuP.step (pc' := 47) (ls' := [some (.inr (.inr (some 82))), some (.inl l1), some (.inl (f_80 l1 s)), d3]) (st' := [.inl 0]) (h1 := hp L s c e) rfl ?_
  refine RuP.step (pc' := 48) (ls' := [some (.inr (.inr (some 82))), some (.inl l1), some (.inl (f_80 l1 s)), some (.inl 0)]) (st' := []) (h1 := hp L s c e) rfl ?_
  exact bl_133_48 FU _ _ _ _ _ h
noncomputable def f_133 (x0 : Int) (s : Sg) : Option Sg :=
  (gd (g_79 x0 s) (
  (if ¬ (f_79 x0 s) = 2 then
    j_133_37 x0 s
  else
    (gd (g_84 x0 s) (
    (if f_84 x0 s = 3 then
      j_133_37 x0 s
    else
      (gd (g_81 x0 s) (
      ((f_137 (f_81 x0 s) s).bind fun q2 =>
      some q2)))))))))
theorem ev_133 {L c : Nat} {e : Nat → Nat} {s : Sg} {x0 : Int} {q : Sg} (h : f_133 x0 s = some q) : EvP 3 133 [.inr (.inr (some 82)), .inl x0] (hp L s c e) (oV L c e q) := by
  unfold f_133 at h
  refine EvP.of (μ := tb_m133) (ls := [some (.inr (.inr (some 82))), some (.inl x0), none, none]) rfl (Nat.le_of_ble_eq_true rfl) rfl ?_
  refine RuP.step (pc' := 1) (ls' := [some (.inr (.inr (some 82))), some (.inl x0), none, none]) (st' := [.inr (.inr (some 82))]) (h1 := hp L s c e) rfl ?_
  refine RuP.step (pc' := 4) (ls' := [some (.inr (.inr (some 82))), some (.inl x0), none, none]) (st' := [.inr (.inr (some 39))]) (h1 := hp L s c e) rfl ?_
  refine RuP.step (pc' := 5) (ls' := [some (.inr (.inr (some 82))), some (.inl x0), none, none]) (st' := [.inl x0, .inr (.inr (some 39))]) (h1 := hp L s c e) rfl ?_
  obtain ⟨b0, h⟩ := gd_some h
  refine RuP.cI rfl (EvP.i ((ev_79 x0 b0).up (by decide))) ?_
  refine RuP.step (pc' := 9) (ls' := [some (.inr (.inr (some 82))), some (.inl x0), none, none]) (st' := [.inl 2, .inl (f_79 x0 s)]) (h1 := hp L s c e) rfl ?_
  by_cases h1 : ¬ (f_79 x0 s) = 2
  · rw [if_pos h1] at h
    refine RuP.jy rfl h1 ?_
    exact bl_133_37 _ _ _ _ _ h
  · rw [if_neg h1] at h
    refine RuP.jn rfl h1 ?_
    refine RuP.step (pc' := 13) (ls' := [some (.inr (.inr (some 82))), some (.inl x0), none, none]) (st' := [.inr (.inr (some 82))]) (h1 := hp L s c e) rfl ?_
    refine RuP.step (pc' := 16) (ls' := [some (.inr (.inr (some 82))), some (.inl x0), none, none]) (st' := [.inr (.inr (some 39))]) (h1 := hp L s c e) rfl ?_
    refine RuP.step (pc' := 17) (ls' := [some (.inr (.inr (some 82))), some (.inl x0), none, none]) (st' := [.inl x0, .inr (.inr (some 39))]) (h1 := hp L s c e) rfl ?_
    obtain ⟨b2, h⟩ := gd_some h
    refine RuP.cI rfl (EvP.i ((ev_84 x0 b2).up (by decide))) ?_
    refine RuP.step (pc' := 21) (ls' := [some (.inr (.inr (some 82))), some (.inl x0), none, none]) (st' := [.inl 3, .inl (f_84 x0 s)]) (h1 := hp L s c e) rfl ?_
    by_cases h3 : f_84 x0 s = 3
    · rw [if_pos h3] at h
      refine RuP.jy rfl h3 ?_
      exact bl_133_37 _ _ _ _ _ h
    · rw [if_neg h3] at h
      refine RuP.jn rfl h3 ?_
      refine RuP.step (pc' := 25) (ls' := [some (.inr (.inr (some 82))), some (.inl x0), none, none]) (st' := [.inr (.inr (some 82))]) (h1 := hp L s c e) rfl ?_
      refine RuP.step (pc' := 26) (ls' := [some (.inr (.inr (some 82))), some (.inl x0), none, none]) (st' := [.inr (.inr (some 82)), .inr (.inr (some 82))]) (h1 := hp L s c e) rfl ?_
      refine RuP.step (pc' := 29) (ls' := [some (.inr (.inr (some 82))), some (.inl x0), none, none]) (st' := [.inr (.inr (some 39)), .inr (.inr (some 82))]) (h1 := hp L s c e) rfl ?_
      refine RuP.step (pc' := 30) (ls' := [some (.inr (.inr (some 82))), some (.inl x0), none, none]) (st' := [.inl x0, .inr (.inr (some 39)), .inr (.inr (some 82))]) (h1 := hp L s c e) rfl ?_
      obtain ⟨b4, h⟩ := gd_some h
      refine RuP.cJ rfl (EvP.j ((ev_81 x0 b4).up (by decide))) ?_
      obtain ⟨q2, h1, h⟩ := bd_some h
      refine RuP.cV rfl ((ev_137 h1).up (by decide)) ?_
      cases h
      exact RuP.dV rfl
/-- MachineText$Reader.closeBody()V -/
noncomputable def f_146 (s : Sg) : Option (Sum (Sg) (Nat × Sg)) :=
  (gd (g_94 s) (
  ((some (f_94 s)).bind fun q1 =>
  (if q1 70 9 ≤ 0 then
    some (.inl q1)
  else
    (if q1 70 9 ≤ 80 then
      (gd (0 ≤ ax_w32 ((q1 70 9) - 1) ∧ ax_w32 ((q1 70 9) - 1) < 80) (
      ((f_102 (q1 72 ((ax_w32 ((q1 70 9) - 1)).toNat)) (ax_u2 q1 70 9 (ax_w32 ((q1 70 9) - 1)))).bind fun q2 =>
      (gd (0 ≤ q2 70 9 ∧ q2 70 9 < 80) (
      (if ¬ (q2 71 ((q2 70 9).toNat)) = 21 then
        some (.inl q2)
      else
        (if ¬ (q2 39 11) = 22 then
          some (.inl q2)
        else
          (gd (g_94 q2) (
          ((some (f_94 q2)).bind fun q3 =>
          (xb (f_154 22 (q1 72 ((ax_w32 ((q1 70 9) - 1)).toNat)) q3) fun q4 =>
          some (.inl q4))))))))))))
    else
      some (.inl q1))))))
theorem ev_146 {L c : Nat} {e : Nat → Nat} {s : Sg} {q : Sum (Sg) (Nat × Sg)} (h : f_146 s = some q) : EvP 4 146 [.inr (.inr (some 70))] (hp L s c e) (oX L c (oV L c e) q) := by
  unfold f_146 at h
  refine EvP.of (μ := tb_m146) (ls := [some (.inr (.inr (some 70))), none]) rfl (Nat.le_of_ble_eq_true rfl) rfl ?_
  refine RuP.step (pc' := 1) (ls' := [some (.inr (.inr (some 70))), none]) (st' := [.inr (.inr (some 70))]) (h1 := hp L s c e) rfl ?_
  refine RuP.step (pc' := 4) (ls' := [some (.inr (.inr (some 70))), none]) (st' := [.inr (.inr (some 39))]) (h1 := hp L s c e) rfl ?_
  obtain ⟨b0, h⟩ := gd_some h
  obtain ⟨q1, h1, h⟩ := bd_some h
  refine RuP.cVe h1 rfl (EvP.v ((ev_94  b0).up (by decide))) ?_
  refine RuP.step (pc' := 8) (ls' := [some (.inr (.inr (some 70))), none]) (st' := [.inr (.inr (some 70))]) (h1 := hp L q1 c e) rfl ?_
  refine RuP.step (pc' := 11) (ls' := [some (.inr (.inr (some 70))), none]) (st' := [.inl (q1 70 9)]) (h1 := hp L q1 c e) rfl ?_
  by_cases h1 : q1 70 9 ≤ 0
  · rw [if_pos h1] at h
    refine RuP.jy rfl h1 ?_
    cases h
    exact RuP.dV rfl
  · rw [if_neg h1] at h
    refine RuP.jn rfl h1 ?_
    refine RuP.step (pc' := 15) (ls' := [some (.inr (.inr (some 70))), none]) (st' := [.inr (.inr (some 70))]) (h1 := hp L q1 c e) rfl ?_
    refine RuP.step (pc' := 18) (ls' := [some (.inr (.inr (some 70))), none]) (st' := [.inl (q1 70 9)]) (h1 := hp L q1 c e) rfl ?_
    refine RuP.step (pc' := 20) (ls' := [some (.inr (.inr (some 70))), none]) (st' := [.inl 80, .inl (q1 70 9)]) (h1 := hp L q1 c e) rfl ?_
    by_cases h2 : q1 70 9 ≤ 80
    · rw [if_pos h2] at h
      refine RuP.jy rfl h2 ?_
      refine RuP.step (pc' := 25) (ls' := [some (.inr (.inr (some 70))), none]) (st' := [.inr (.inr (some 70))]) (h1 := hp L q1 c e) rfl ?_
      refine RuP.step (pc' := 26) (ls' := [some (.inr (.inr (some 70))), none]) (st' := [.inr (.inr (some 70)), .inr (.inr (some 70))]) (h1 := hp L q1 c e) rfl ?_
      refine RuP.step (pc' := 29) (ls' := [some (.inr (.inr (some 70))), none]) (st' := [.inl (q1 70 9), .inr (.inr (some 70))]) (h1 := hp L q1 c e) rfl ?_
      refine RuP.step (pc' := 30) (ls' := [some (.inr (.inr (some 70))), none]) (st' := [.inl 1, .inl (q1 70 9), .inr (.inr (some 70))]) (h1 := hp L q1 c e) rfl ?_
      refine RuP.step (pc' := 31) (ls' := [some (.inr (.inr (some 70))), none]) (st' := [.inl (ax_w32 ((q1 70 9) - 1)), .inr (.inr (some 70))]) (h1 := hp L q1 c e) rfl ?_
      refine RuP.step (pc' := 34) (ls' := [some (.inr (.inr (some 70))), none]) (st' := []) (h1 := hp L (ax_u2 q1 70 9 (ax_w32 ((q1 70 9) - 1))) c e) rfl ?_
      refine RuP.step (pc' := 35) (ls' := [some (.inr (.inr (some 70))), none]) (st' := [.inr (.inr (some 70))]) (h1 := hp L (ax_u2 q1 70 9 (ax_w32 ((q1 70 9) - 1))) c e) rfl ?_
      refine RuP.step (pc' := 38) (ls' := [some (.inr (.inr (some 70))), none]) (st' := [.inr (.inr (some 72))]) (h1 := hp L (ax_u2 q1 70 9 (ax_w32 ((q1 70 9) - 1))) c e) rfl ?_
      refine RuP.step (pc' := 39) (ls' := [some (.inr (.inr (some 70))), none]) (st' := [.inr (.inr (some 70)), .inr (.inr (some 72))]) (h1 := hp L (ax_u2 q1 70 9 (ax_w32 ((q1 70 9) - 1))) c e) rfl ?_
      refine RuP.step (pc' := 42) (ls' := [some (.inr (.inr (some 70))), none]) (st' := [.inl (ax_w32 ((q1 70 9) - 1)), .inr (.inr (some 72))]) (h1 := hp L (ax_u2 q1 70 9 (ax_w32 ((q1 70 9) - 1))) c e) rfl ?_
      obtain ⟨b3, h⟩ := gd_some h
      refine RuP.ald (f := fun t => t == 0) (j := ax_w32 ((q1 70 9) - 1)) (a := 72) rfl rfl b3.1 b3.2 ?_
      refine RuP.step (pc' := 44) (ls' := [some (.inr (.inr (some 70))), some (.inl (q1 72 ((ax_w32 ((q1 70 9) - 1)).toNat)))]) (st' := []) (h1 := hp L (ax_u2 q1 70 9 (ax_w32 ((q1 70 9) - 1))) c e) rfl ?_
      refine RuP.step (pc' := 45) (ls' := [some (.inr (.inr (some 70))), some (.inl (q1 72 ((ax_w32 ((q1 70 9) - 1)).toNat)))]) (st' := [.inr (.inr (some 70))]) (h1 := hp L (ax_u2 q1 70 9 (ax_w32 ((q1 70 9) - 1))) c e) rfl ?_
      refine RuP.step (pc' := 48) (ls' := [some (.inr (.inr (some 70))), some (.inl (q1 72 ((ax_w32 ((q1 70 9) - 1)).toNat)))]) (st' := [.inr (.inr (some 31))]) (h1 := hp L (ax_u2 q1 70 9 (ax_w32 ((q1 70 9) - 1))) c e) rfl ?_
      refine RuP.step (pc' := 49) (ls' := [some (.inr (.inr (some 70))), some (.inl (q1 72 ((ax_w32 ((q1 70 9) - 1)).toNat)))]) (st' := [.inl (q1 72 ((ax_w32 ((q1 70 9) - 1)).toNat)), .inr (.inr (some 31))]) (h1 := hp L (ax_u2 q1 70 9 (ax_w32 ((q1 70 9) - 1))) c e) rfl ?_
      obtain ⟨q2, h1, h⟩ := bd_some h
      refine RuP.cV rfl ((ev_102 h1).up (by decide)) ?_
      refine RuP.step (pc' := 53) (ls' := [some (.inr (.inr (some 70))), some (.inl (q1 72 ((ax_w32 ((q1 70 9) - 1)).toNat)))]) (st' := [.inr (.inr (some 70))]) (h1 := hp L q2 c e) rfl ?_
      refine RuP.step (pc' := 56) (ls' := [some (.inr (.inr (some 70))), some (.inl (q1 72 ((ax_w32 ((q1 70 9) - 1)).toNat)))]) (st' := [.inr (.inr (some 71))]) (h1 := hp L q2 c e) rfl ?_
      refine RuP.step (pc' := 57) (ls' := [some (.inr (.inr (some 70))), some (.inl (q1 72 ((ax_w32 ((q1 70 9) - 1)).toNat)))]) (st' := [.inr (.inr (some 70)), .inr (.inr (some 71))]) (h1 := hp L q2 c e) rfl ?_
      refine RuP.step (pc' := 60) (ls' := [some (.inr (.inr (some 70))), some (.inl (q1 72 ((ax_w32 ((q1 70 9) - 1)).toNat)))]) (st' := [.inl (q2 70 9), .inr (.inr (some 71))]) (h1 := hp L q2 c e) rfl ?_
      obtain ⟨b4, h⟩ := gd_some h
      refine RuP.ald (f := fun t => t == 0) (j := q2 70 9) (a := 71) rfl rfl b4.1 b4.2 ?_
      refine RuP.step (pc' := 63) (ls' := [some (.inr (.inr (some 70))), some (.inl (q1 72 ((ax_w32 ((q1 70 9) - 1)).toNat)))]) (st' := [.inl 21, .inl (q2 71 ((q2 70 9).toNat))]) (h1 := hp L q2 c e) rfl ?_
      by_cases h5 : ¬ (q2 71 ((q2 70 9).toNat)) = 21
      · rw [if_pos h5] at h
        refine RuP.jy rfl h5 ?_
        cases h
        exact RuP.dV rfl
      · rw [if_neg h5] at h
        refine RuP.jn rfl h5 ?_
        refine RuP.step (pc' := 67) (ls' := [some (.inr (.inr (some 70))), some (.inl (q1 72 ((ax_w32 ((q1 70 9) - 1)).toNat)))]) (st' := [.inr (.inr (some 70))]) (h1 := hp L q2 c e) rfl ?_
        refine RuP.step (pc' := 70) (ls' := [some (.inr (.inr (some 70))), some (.inl (q1 72 ((ax_w32 ((q1 70 9) - 1)).toNat)))]) (st' := [.inr (.inr (some 39))]) (h1 := hp L q2 c e) rfl ?_
        refine RuP.step (pc' := 73) (ls' := [some (.inr (.inr (some 70))), some (.inl (q1 72 ((ax_w32 ((q1 70 9) - 1)).toNat)))]) (st' := [.inl (q2 39 11)]) (h1 := hp L q2 c e) rfl ?_
        refine RuP.step (pc' := 75) (ls' := [some (.inr (.inr (some 70))), some (.inl (q1 72 ((ax_w32 ((q1 70 9) - 1)).toNat)))]) (st' := [.inl 22, .inl (q2 39 11)]) (h1 := hp L q2 c e) rfl ?_
        by_cases h6 : ¬ (q2 39 11) = 22
        · rw [if_pos h6] at h
          refine RuP.jy rfl h6 ?_
          cases h
          exact RuP.dV rfl
        · rw [if_neg h6] at h
          refine RuP.jn rfl h6 ?_
          refine RuP.step (pc' := 79) (ls' := [some (.inr (.inr (some 70))), some (.inl (q1 72 ((ax_w32 ((q1 70 9) - 1)).toNat)))]) (st' := [.inr (.inr (some 70))]) (h1 := hp L q2 c e) rfl ?_
          refine RuP.step (pc' := 82) (ls' := [some (.inr (.inr (some 70))), some (.inl (q1 72 ((ax_w32 ((q1 70 9) - 1)).toNat)))]) (st' := [.inr (.inr (some 39))]) (h1 := hp L q2 c e) rfl ?_
          obtain ⟨b7, h⟩ := gd_some h
          obtain ⟨q3, h1, h⟩ := bd_some h
          refine RuP.cVe h1 rfl (EvP.v ((ev_94  b7).up (by decide))) ?_
          refine RuP.step (pc' := 86) (ls' := [some (.inr (.inr (some 70))), some (.inl (q1 72 ((ax_w32 ((q1 70 9) - 1)).toNat)))]) (st' := [.inr (.inr (some 70))]) (h1 := hp L q3 c e) rfl ?_
          refine RuP.step (pc' := 88) (ls' := [some (.inr (.inr (some 70))), some (.inl (q1 72 ((ax_w32 ((q1 70 9) - 1)).toNat)))]) (st' := [.inl 22, .inr (.inr (some 70))]) (h1 := hp L q3 c e) rfl ?_
          refine RuP.step (pc' := 89) (ls' := [some (.inr (.inr (some 70))), some (.inl (q1 72 ((ax_w32 ((q1 70 9) - 1)).toNat)))]) (st' := [.inl (q1 72 ((ax_w32 ((q1 70 9) - 1)).toNat)), .inl 22, .inr (.inr (some 70))]) (h1 := hp L q3 c e) rfl ?_
          rcases xb_some h with ⟨q4, h1, h⟩ | ⟨xx1, h1, h2⟩
          rotate_left
          · subst h2
            exact RuP.pass rfl rfl ((ev_154 h1).up (by decide))
          refine RuP.cV rfl ((ev_154 h1).up (by decide)) ?_
          cases h
          exact RuP.dV rfl
    · rw [if_neg h2] at h
      refine RuP.jn rfl h2 ?_
      cases h
      exact RuP.dV rfl
/-- MachineText$Reader.repetition()V -/
noncomputable def f_149 (s : Sg) : Option (Sum (Sg) (Nat × Sg)) :=
  (gd (g_94 s) (
  ((some (f_94 s)).bind fun q1 =>
  (xb (f_96 q1) fun q2 =>
  (xb (f_93 1 255 q2.2) fun q3 =>
  ((f_155 q2.1 (q1 39 10) 8 q3.2).bind fun q4 =>
  (xb (f_154 23 (q3.2 31 8) q4) fun q5 =>
  some (.inl q5))))))))
theorem ev_149 {L c : Nat} {e : Nat → Nat} {s : Sg} {q : Sum (Sg) (Nat × Sg)} (h : f_149 s = some q) : EvP 4 149 [.inr (.inr (some 70))] (hp L s c e) (oX L c (oV L c e) q) := by
  unfold f_149 at h
  refine EvP.of (μ := tb_m149) (ls := [some (.inr (.inr (some 70))), none, none, none]) rfl (Nat.le_of_ble_eq_true rfl) rfl ?_
  refine RuP.step (pc' := 1) (ls' := [some (.inr (.inr (some 70))), none, none, none]) (st' := [.inr (.inr (some 70))]) (h1 := hp L s c e) rfl ?_
  refine RuP.step (pc' := 4) (ls' := [some (.inr (.inr (some 70))), none, none, none]) (st' := [.inr (.inr (some 39))]) (h1 := hp L s c e) rfl ?_
  obtain ⟨b0, h⟩ := gd_some h
  obtain ⟨q1, h1, h⟩ := bd_some h
  refine RuP.cVe h1 rfl (EvP.v ((ev_94  b0).up (by decide))) ?_
  refine RuP.step (pc' := 8) (ls' := [some (.inr (.inr (some 70))), none, none, none]) (st' := [.inr (.inr (some 70))]) (h1 := hp L q1 c e) rfl ?_
  refine RuP.step (pc' := 11) (ls' := [some (.inr (.inr (some 70))), none, none, none]) (st' := [.inr (.inr (some 39))]) (h1 := hp L q1 c e) rfl ?_
  refine RuP.step (pc' := 14) (ls' := [some (.inr (.inr (some 70))), none, none, none]) (st' := [.inl (q1 39 10)]) (h1 := hp L q1 c e) rfl ?_
  refine RuP.step (pc' := 15) (ls' := [some (.inr (.inr (some 70))), some (.inl (q1 39 10)), none, none]) (st' := []) (h1 := hp L q1 c e) rfl ?_
  refine RuP.step (pc' := 16) (ls' := [some (.inr (.inr (some 70))), some (.inl (q1 39 10)), none, none]) (st' := [.inr (.inr (some 70))]) (h1 := hp L q1 c e) rfl ?_
  refine RuP.step (pc' := 19) (ls' := [some (.inr (.inr (some 70))), some (.inl (q1 39 10)), none, none]) (st' := [.inr (.inr (some 39))]) (h1 := hp L q1 c e) rfl ?_
  rcases xb_some h with ⟨q2, h1, h⟩ | ⟨xx1, h1, h2⟩
  rotate_left
  · subst h2
    exact RuP.pass rfl rfl ((ev_96 h1).up (by decide))
  refine RuP.cI rfl ((ev_96 h1).up (by decide)) ?_
  refine RuP.step (pc' := 23) (ls' := [some (.inr (.inr (some 70))), some (.inl (q1 39 10)), some (.inl q2.1), none]) (st' := []) (h1 := hp L q2.2 c e) rfl ?_
  refine RuP.step (pc' := 24) (ls' := [some (.inr (.inr (some 70))), some (.inl (q1 39 10)), some (.inl q2.1), none]) (st' := [.inr (.inr (some 70))]) (h1 := hp L q2.2 c e) rfl ?_
  refine RuP.step (pc' := 27) (ls' := [some (.inr (.inr (some 70))), some (.inl (q1 39 10)), some (.inl q2.1), none]) (st' := [.inr (.inr (some 39))]) (h1 := hp L q2.2 c e) rfl ?_
  refine RuP.step (pc' := 28) (ls' := [some (.inr (.inr (some 70))), some (.inl (q1 39 10)), some (.inl q2.1), none]) (st' := [.inl 1, .inr (.inr (some 39))]) (h1 := hp L q2.2 c e) rfl ?_
  refine RuP.step (pc' := 31) (ls' := [some (.inr (.inr (some 70))), some (.inl (q1 39 10)), some (.inl q2.1), none]) (st' := [.inl 255, .inl 1, .inr (.inr (some 39))]) (h1 := hp L q2.2 c e) rfl ?_
  rcases xb_some h with ⟨q3, h1, h⟩ | ⟨xx1, h1, h2⟩
  rotate_left
  · subst h2
    exact RuP.pass rfl rfl ((ev_93 h1).up (by decide))
  refine RuP.cI rfl ((ev_93 h1).up (by decide)) ?_
  refine RuP.step (pc' := 35) (ls' := [some (.inr (.inr (some 70))), some (.inl (q1 39 10)), some (.inl q2.1), none]) (st' := []) (h1 := hp L q3.2 c e) rfl ?_
  refine RuP.step (pc' := 36) (ls' := [some (.inr (.inr (some 70))), some (.inl (q1 39 10)), some (.inl q2.1), none]) (st' := [.inr (.inr (some 70))]) (h1 := hp L q3.2 c e) rfl ?_
  refine RuP.step (pc' := 39) (ls' := [some (.inr (.inr (some 70))), some (.inl (q1 39 10)), some (.inl q2.1), none]) (st' := [.inr (.inr (some 31))]) (h1 := hp L q3.2 c e) rfl ?_
  refine RuP.step (pc' := 42) (ls' := [some (.inr (.inr (some 70))), some (.inl (q1 39 10)), some (.inl q2.1), none]) (st' := [.inl (q3.2 31 8)]) (h1 := hp L q3.2 c e) rfl ?_
  refine RuP.step (pc' := 43) (ls' := [some (.inr (.inr (some 70))), some (.inl (q1 39 10)), some (.inl q2.1), some (.inl (q3.2 31 8))]) (st' := []) (h1 := hp L q3.2 c e) rfl ?_
  refine RuP.step (pc' := 44) (ls' := [some (.inr (.inr (some 70))), some (.inl (q1 39 10)), some (.inl q2.1), some (.inl (q3.2 31 8))]) (st' := [.inr (.inr (some 70))]) (h1 := hp L q3.2 c e) rfl ?_
  refine RuP.step (pc' := 45) (ls' := [some (.inr (.inr (some 70))), some (.inl (q1 39 10)), some (.inl q2.1), some (.inl (q3.2 31 8))]) (st' := [.inl q2.1, .inr (.inr (some 70))]) (h1 := hp L q3.2 c e) rfl ?_
  refine RuP.step (pc' := 46) (ls' := [some (.inr (.inr (some 70))), some (.inl (q1 39 10)), some (.inl q2.1), some (.inl (q3.2 31 8))]) (st' := [.inl (q1 39 10), .inl q2.1, .inr (.inr (some 70))]) (h1 := hp L q3.2 c e) rfl ?_
  refine RuP.step (pc' := 48) (ls' := [some (.inr (.inr (some 70))), some (.inl (q1 39 10)), some (.inl q2.1), some (.inl (q3.2 31 8))]) (st' := [.inl 8, .inl (q1 39 10), .inl q2.1, .inr (.inr (some 70))]) (h1 := hp L q3.2 c e) rfl ?_
  obtain ⟨q4, h1, h⟩ := bd_some h
  refine RuP.cV rfl ((ev_155 h1).up (by decide)) ?_
  refine RuP.step (pc' := 52) (ls' := [some (.inr (.inr (some 70))), some (.inl (q1 39 10)), some (.inl q2.1), some (.inl (q3.2 31 8))]) (st' := [.inr (.inr (some 70))]) (h1 := hp L q4 c e) rfl ?_
  refine RuP.step (pc' := 54) (ls' := [some (.inr (.inr (some 70))), some (.inl (q1 39 10)), some (.inl q2.1), some (.inl (q3.2 31 8))]) (st' := [.inl 23, .inr (.inr (some 70))]) (h1 := hp L q4 c e) rfl ?_
  refine RuP.step (pc' := 55) (ls' := [some (.inr (.inr (some 70))), some (.inl (q1 39 10)), some (.inl q2.1), some (.inl (q3.2 31 8))]) (st' := [.inl (q3.2 31 8), .inl 23, .inr (.inr (some 70))]) (h1 := hp L q4 c e) rfl ?_
  rcases xb_some h with ⟨q5, h1, h⟩ | ⟨xx1, h1, h2⟩
  rotate_left
  · subst h2
    exact RuP.pass rfl rfl ((ev_154 h1).up (by decide))
  refine RuP.cV rfl ((ev_154 h1).up (by decide)) ?_
  cases h
  exact RuP.dV rfl
/-- MachineText$Reader.register()V -/
noncomputable def j_150_84 (s : Sg) : Option (Sum (Sg) (Nat × Sg)) :=
  (xb (f_93 1 32 s) fun q2 =>
  (gd (g_190 q2.1 q2.2) (
  ((some (f_190 q2.1 q2.2)).bind fun q3 =>
  (xb (f_92 59 q3) fun q4 =>
  some (.inl q4))))))
theorem bl_150_84 {L c : Nat} {e : Nat → Nat} : ∀ (d1 d2 : Option ax_V) (s : Sg) (q : Sum (Sg) (Nat × Sg)), j_150_84 s = some q → RuP 3 tb_m150 84 [some (.inr (.inr (some 70))), d1, d2] [] (hp L s c e) (oX L c (oV L c e) q) := by
  intro d1 d2 s q h
  unfold j_150_84 at h
  refine RuP.step (pc' := 85) (ls' := [some (.inr (.inr (some 70))), d1, d2]) (st' := [.inr (.inr (some 70))]) (h1 := hp L s c e) rfl ?_
  refine RuP.step (pc' := 88) (ls' := [some (.inr (.inr (some 70))), d1, d2]) (st' := [.inr (.inr (some 54))]) (h1 := hp L s c e) rfl ?_
  refine RuP.step (pc' := 89) (ls' := [some (.inr (.inr (some 70))), d1, d2]) (st' := [.inr (.inr (some 70)), .inr (.inr (some 54))]) (h1 := hp L s c e) rfl ?_
  refine RuP.step (pc' := 92) (ls' := [some (.inr (.inr (some 70))), d1, d2]) (st' := [.inr (.inr (some 39)), .inr (.inr (some 54))]) (h1 := hp L s c e) rfl ?_
  refine RuP.step (pc' := 93) (ls' := [some (.inr (.inr (some 70))), d1, d2]) (st' := [.inl 1, .inr (.inr (some 39)), .inr (.inr (some 54))]) (h1 := hp L s c e) rfl ?_
  refine RuP.step (pc' := 95) (ls' := [some (.inr (.inr (some 70))), d1, d2]) (st' := [.inl 32, .inl 1, .inr (.inr (some 39)), .inr (.inr (some 54))]) (h1 := hp L s c e) rfl ?_
  rcases xb_some h with ⟨q2, h1, h⟩ | ⟨xx1, h1, h2⟩
  rotate_left
  · subst h2
    exact RuP.pass rfl rfl ((ev_93 h1).up (by decide))
  refine RuP.cI rfl ((ev_93 h1).up (by decide)) ?_
  obtain ⟨b0, h⟩ := gd_some h
  obtain ⟨q3, h1, h⟩ := bd_some h
  refine RuP.cVe h1 rfl (EvP.v ((ev_190 q2.1 b0).up (by decide))) ?_
  refine RuP.step (pc' := 102) (ls' := [some (.inr (.inr (some 70))), d1, d2]) (st' := [.inr (.inr (some 70))]) (h1 := hp L q3 c e) rfl ?_
  refine RuP.step (pc' := 105) (ls' := [some (.inr (.inr (some 70))), d1, d2]) (st' := [.inr (.inr (some 39))]) (h1 := hp L q3 c e) rfl ?_
  refine RuP.step (pc' := 107) (ls' := [some (.inr (.inr (some 70))), d1, d2]) (st' := [.inl 59, .inr (.inr (some 39))]) (h1 := hp L q3 c e) rfl ?_
  rcases xb_some h with ⟨q4, h1, h⟩ | ⟨xx1, h1, h2⟩
  rotate_left
  · subst h2
    exact RuP.pass rfl rfl ((ev_92 h1).up (by decide))
  refine RuP.cV rfl ((ev_92 h1).up (by decide)) ?_
  cases h
  exact RuP.dV rfl
noncomputable def j_150_67 (l2 : Int) (s : Sg) : Option (Sum (Sg) (Nat × Sg)) :=
  (gd (g_189 l2 s) (
  ((some (f_189 l2 s)).bind fun q7 =>
  (xb (f_92 93 q7) fun q8 =>
  j_150_84 q8))))
theorem bl_150_67 {L c : Nat} {e : Nat → Nat} : ∀ (z1 : Int) (l2 : Int) (s : Sg) (q : Sum (Sg) (Nat × Sg)), j_150_67 l2 s = some q → RuP 3 tb_m150 67 [some (.inr (.inr (some 70))), some (.inl z1), some (.inl l2)] [] (hp L s c e) (oX L c (oV L c e) q) := by
  intro z1 l2 s q h
  unfold j_150_67 at h
  refine RuP.step (pc' := 68) (ls' := [some (.inr (.inr (some 70))), some (.inl z1), some (.inl l2)]) (st' := [.inr (.inr (some 70))]) (h1 := hp L s c e) rfl ?_
  refine RuP.step (pc' := 71) (ls' := [some (.inr (.inr (some 70))), some (.inl z1), some (.inl l2)]) (st' := [.inr (.inr (some 54))]) (h1 := hp L s c e) rfl ?_
  refine RuP.step (pc' := 72) (ls' := [some (.inr (.inr (some 70))), some (.inl z1), some (.inl l2)]) (st' := [.inl l2, .inr (.inr (some 54))]) (h1 := hp L s c e) rfl ?_
  obtain ⟨b0, h⟩ := gd_some h
  obtain ⟨q7, h1, h⟩ := bd_some h
  refine RuP.cVe h1 rfl (EvP.v ((ev_189 l2 b0).up (by decide))) ?_
  refine RuP.step (pc' := 76) (ls' := [some (.inr (.inr (some 70))), some (.inl z1), some (.inl l2)]) (st' := [.inr (.inr (some 70))]) (h1 := hp L q7 c e) rfl ?_
  refine RuP.step (pc' := 79) (ls' := [some (.inr (.inr (some 70))), some (.inl z1), some (.inl l2)]) (st' := [.inr (.inr (some 39))]) (h1 := hp L q7 c e) rfl ?_
  refine RuP.step (pc' := 81) (ls' := [some (.inr (.inr (some 70))), some (.inl z1), some (.inl l2)]) (st' := [.inl 93, .inr (.inr (some 39))]) (h1 := hp L q7 c e) rfl ?_
  rcases xb_some h with ⟨q8, h1, h⟩ | ⟨xx1, h1, h2⟩
  rotate_left
  · subst h2
    exact RuP.pass rfl rfl ((ev_92 h1).up (by decide))
  refine RuP.cV rfl ((ev_92 h1).up (by decide)) ?_
  exact bl_150_84 _ _ _ _ h
noncomputable def f_150 (s : Sg) : Option (Sum (Sg) (Nat × Sg)) :=
  (xb (f_156 0 s) fun q1 =>
  (if ¬ (q1 39 11) = 91 then
    j_150_84 q1
  else
    (gd (g_94 q1) (
    ((some (f_94 q1)).bind fun q5 =>
    (gd (g_80 (q5 39 10) q5) (
    (xb (f_93 2 64 q5) fun q6 =>
    (if f_294 q6.1 q6.2 = 1 then
      j_150_67 q6.1 q6.2
    else
      (gd (g_71 4 (f_80 (q5 39 10) q5) q6.2) (
      ((some (f_71 4 (f_80 (q5 39 10) q5) q6.2)).bind fun q9 =>
      j_150_67 q6.1 q9))))))))))))
theorem ev_150 {L c : Nat} {e : Nat → Nat} {s : Sg} {q : Sum (Sg) (Nat × Sg)} (h : f_150 s = some q) : EvP 4 150 [.inr (.inr (some 70))] (hp L s c e) (oX L c (oV L c e) q) := by
  unfold f_150 at h
  refine EvP.of (μ := tb_m150) (ls := [some (.inr (.inr (some 70))), none, none]) rfl (Nat.le_of_ble_eq_true rfl) rfl ?_
  refine RuP.step (pc' := 1) (ls' := [some (.inr (.inr (some 70))), none, none]) (st' := [.inr (.inr (some 70))]) (h1 := hp L s c e) rfl ?_
  refine RuP.step (pc' := 2) (ls' := [some (.inr (.inr (some 70))), none, none]) (st' := [.inl 0, .inr (.inr (some 70))]) (h1 := hp L s c e) rfl ?_
  rcases xb_some h with ⟨q1, h1, h⟩ | ⟨xx1, h1, h2⟩
  rotate_left
  · subst h2
    exact RuP.pass rfl rfl ((ev_156 h1).up (by decide))
  refine RuP.cV rfl ((ev_156 h1).up (by decide)) ?_
  refine RuP.step (pc' := 6) (ls' := [some (.inr (.inr (some 70))), none, none]) (st' := [.inr (.inr (some 70))]) (h1 := hp L q1 c e) rfl ?_
  refine RuP.step (pc' := 9) (ls' := [some (.inr (.inr (some 70))), none, none]) (st' := [.inr (.inr (some 39))]) (h1 := hp L q1 c e) rfl ?_
  refine RuP.step (pc' := 12) (ls' := [some (.inr (.inr (some 70))), none, none]) (st' := [.inl (q1 39 11)]) (h1 := hp L q1 c e) rfl ?_
  refine RuP.step (pc' := 14) (ls' := [some (.inr (.inr (some 70))), none, none]) (st' := [.inl 91, .inl (q1 39 11)]) (h1 := hp L q1 c e) rfl ?_
  by_cases h0 : ¬ (q1 39 11) = 91
  · rw [if_pos h0] at h
    refine RuP.jy rfl h0 ?_
    exact bl_150_84 _ _ _ _ h
  · rw [if_neg h0] at h
    refine RuP.jn rfl h0 ?_
    refine RuP.step (pc' := 18) (ls' := [some (.inr (.inr (some 70))), none, none]) (st' := [.inr (.inr (some 70))]) (h1 := hp L q1 c e) rfl ?_
    refine RuP.step (pc' := 21) (ls' := [some (.inr (.inr (some 70))), none, none]) (st' := [.inr (.inr (some 39))]) (h1 := hp L q1 c e) rfl ?_
    obtain ⟨b1, h⟩ := gd_some h
    obtain ⟨q5, h1, h⟩ := bd_some h
    refine RuP.cVe h1 rfl (EvP.v ((ev_94  b1).up (by decide))) ?_
    refine RuP.step (pc' := 25) (ls' := [some (.inr (.inr (some 70))), none, none]) (st' := [.inr (.inr (some 70))]) (h1 := hp L q5 c e) rfl ?_
    refine RuP.step (pc' := 28) (ls' := [some (.inr (.inr (some 70))), none, none]) (st' := [.inr (.inr (some 39))]) (h1 := hp L q5 c e) rfl ?_
    refine RuP.step (pc' := 29) (ls' := [some (.inr (.inr (some 70))), none, none]) (st' := [.inr (.inr (some 70)), .inr (.inr (some 39))]) (h1 := hp L q5 c e) rfl ?_
    refine RuP.step (pc' := 32) (ls' := [some (.inr (.inr (some 70))), none, none]) (st' := [.inr (.inr (some 39)), .inr (.inr (some 39))]) (h1 := hp L q5 c e) rfl ?_
    refine RuP.step (pc' := 35) (ls' := [some (.inr (.inr (some 70))), none, none]) (st' := [.inl (q5 39 10), .inr (.inr (some 39))]) (h1 := hp L q5 c e) rfl ?_
    obtain ⟨b2, h⟩ := gd_some h
    refine RuP.cI rfl (EvP.i ((ev_80 (q5 39 10) b2).up (by decide))) ?_
    refine RuP.step (pc' := 39) (ls' := [some (.inr (.inr (some 70))), some (.inl (f_80 (q5 39 10) q5)), none]) (st' := []) (h1 := hp L q5 c e) rfl ?_
    refine RuP.step (pc' := 40) (ls' := [some (.inr (.inr (some 70))), some (.inl (f_80 (q5 39 10) q5)), none]) (st' := [.inr (.inr (some 70))]) (h1 := hp L q5 c e) rfl ?_
    refine RuP.step (pc' := 43) (ls' := [some (.inr (.inr (some 70))), some (.inl (f_80 (q5 39 10) q5)), none]) (st' := [.inr (.inr (some 39))]) (h1 := hp L q5 c e) rfl ?_
    refine RuP.step (pc' := 44) (ls' := [some (.inr (.inr (some 70))), some (.inl (f_80 (q5 39 10) q5)), none]) (st' := [.inl 2, .inr (.inr (some 39))]) (h1 := hp L q5 c e) rfl ?_
    refine RuP.step (pc' := 46) (ls' := [some (.inr (.inr (some 70))), some (.inl (f_80 (q5 39 10) q5)), none]) (st' := [.inl 64, .inl 2, .inr (.inr (some 39))]) (h1 := hp L q5 c e) rfl ?_
    rcases xb_some h with ⟨q6, h1, h⟩ | ⟨xx1, h1, h2⟩
    rotate_left
    · subst h2
      exact RuP.pass rfl rfl ((ev_93 h1).up (by decide))
    refine RuP.cI rfl ((ev_93 h1).up (by decide)) ?_
    refine RuP.step (pc' := 50) (ls' := [some (.inr (.inr (some 70))), some (.inl (f_80 (q5 39 10) q5)), some (.inl q6.1)]) (st' := []) (h1 := hp L q6.2 c e) rfl ?_
    refine RuP.step (pc' := 51) (ls' := [some (.inr (.inr (some 70))), some (.inl (f_80 (q5 39 10) q5)), some (.inl q6.1)]) (st' := [.inl q6.1]) (h1 := hp L q6.2 c e) rfl ?_
    refine RuP.cI rfl (EvP.i ((ev_294 q6.1).up (by decide))) ?_
    refine RuP.step (pc' := 55) (ls' := [some (.inr (.inr (some 70))), some (.inl (f_80 (q5 39 10) q5)), some (.inl q6.1)]) (st' := [.inl 1, .inl (f_294 q6.1 q6.2)]) (h1 := hp L q6.2 c e) rfl ?_
    by_cases h3 : f_294 q6.1 q6.2 = 1
    · rw [if_pos h3] at h
      refine RuP.jy rfl h3 ?_
      exact bl_150_67 _ _ _ _ h
    · rw [if_neg h3] at h
      refine RuP.jn rfl h3 ?_
      refine RuP.step (pc' := 59) (ls' := [some (.inr (.inr (some 70))), some (.inl (f_80 (q5 39 10) q5)), some (.inl q6.1)]) (st' := [.inr (.inr (some 70))]) (h1 := hp L q6.2 c e) rfl ?_
      refine RuP.step (pc' := 62) (ls' := [some (.inr (.inr (some 70))), some (.inl (f_80 (q5 39 10) q5)), some (.inl q6.1)]) (st' := [.inr (.inr (some 29))]) (h1 := hp L q6.2 c e) rfl ?_
      refine RuP.step (pc' := 63) (ls' := [some (.inr (.inr (some 70))), some (.inl (f_80 (q5 39 10) q5)), some (.inl q6.1)]) (st' := [.inl 4, .inr (.inr (some 29))]) (h1 := hp L q6.2 c e) rfl ?_
      refine RuP.step (pc' := 64) (ls' := [some (.inr (.inr (some 70))), some (.inl (f_80 (q5 39 10) q5)), some (.inl q6.1)]) (st' := [.inl (f_80 (q5 39 10) q5), .inl 4, .inr (.inr (some 29))]) (h1 := hp L q6.2 c e) rfl ?_
      obtain ⟨b4, h⟩ := gd_some h
      obtain ⟨q9, h1, h⟩ := bd_some h
      refine RuP.cVe h1 rfl (EvP.v ((ev_71 4 (f_80 (q5 39 10) q5) b4).up (by decide))) ?_
      exact bl_150_67 _ _ _ _ h
