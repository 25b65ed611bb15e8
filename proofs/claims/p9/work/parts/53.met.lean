/-! METHODS, second form, by program. -/
/-- MachineText$Reader.memory()V -/
noncomputable def f_151 (s : Sg) : Option (Sum (Sg) (Nat × Sg)) :=
  (xb (f_156 1 s) fun q1 =>
  (xb (f_92 91 q1) fun q2 =>
  (xb (f_93 1 20 q2) fun q3 =>
  (gd (g_189 q3.1 q3.2) (
  ((some (f_189 q3.1 q3.2)).bind fun q4 =>
  (xb (f_92 93 q4) fun q5 =>
  (xb (f_93 1 32 q5) fun q6 =>
  (gd (g_190 q6.1 q6.2) (
  ((some (f_190 q6.1 q6.2)).bind fun q7 =>
  (xb (f_92 59 q7) fun q8 =>
  some (.inl q8)))))))))))))
theorem ev_151 {L c : Nat} {e : Nat → Nat} {s : Sg} {q : Sum (Sg) (Nat × Sg)} (h : f_151 s = some q) : EvP 4 151 [.inr (.inr (some 70))] (hp L s c e) (oX L c (oV L c e) q) := by
  unfold f_151 at h
  refine EvP.of (μ := tb_m151) (ls := [some (.inr (.inr (some 70)))]) rfl (Nat.le_of_ble_eq_true rfl) rfl ?_
  refine RuP.step (pc' := 1) (ls' := [some (.inr (.inr (some 70)))]) (st' := [.inr (.inr (some 70))]) (h1 := hp L s c e) rfl ?_
  refine RuP.step (pc' := 2) (ls' := [some (.inr (.inr (some 70)))]) (st' := [.inl 1, .inr (.inr (some 70))]) (h1 := hp L s c e) rfl ?_
  rcases xb_some h with ⟨q1, h1, h⟩ | ⟨xx1, h1, h2⟩
  rotate_left
  · subst h2
    exact RuP.pass rfl rfl ((ev_156 h1).up (by decide))
  refine RuP.cV rfl ((ev_156 h1).up (by decide)) ?_
  refine RuP.step (pc' := 6) (ls' := [some (.inr (.inr (some 70)))]) (st' := [.inr (.inr (some 70))]) (h1 := hp L q1 c e) rfl ?_
  refine RuP.step (pc' := 9) (ls' := [some (.inr (.inr (some 70)))]) (st' := [.inr (.inr (some 39))]) (h1 := hp L q1 c e) rfl ?_
  refine RuP.step (pc' := 11) (ls' := [some (.inr (.inr (some 70)))]) (st' := [.inl 91, .inr (.inr (some 39))]) (h1 := hp L q1 c e) rfl ?_
  rcases xb_some h with ⟨q2, h1, h⟩ | ⟨xx1, h1, h2⟩
  rotate_left
  · subst h2
    exact RuP.pass rfl rfl ((ev_92 h1).up (by decide))
  refine RuP.cV rfl ((ev_92 h1).up (by decide)) ?_
  refine RuP.step (pc' := 15) (ls' := [some (.inr (.inr (some 70)))]) (st' := [.inr (.inr (some 70))]) (h1 := hp L q2 c e) rfl ?_
  refine RuP.step (pc' := 18) (ls' := [some (.inr (.inr (some 70)))]) (st' := [.inr (.inr (some 54))]) (h1 := hp L q2 c e) rfl ?_
  refine RuP.step (pc' := 19) (ls' := [some (.inr (.inr (some 70)))]) (st' := [.inr (.inr (some 70)), .inr (.inr (some 54))]) (h1 := hp L q2 c e) rfl ?_
  refine RuP.step (pc' := 22) (ls' := [some (.inr (.inr (some 70)))]) (st' := [.inr (.inr (some 39)), .inr (.inr (some 54))]) (h1 := hp L q2 c e) rfl ?_
  refine RuP.step (pc' := 23) (ls' := [some (.inr (.inr (some 70)))]) (st' := [.inl 1, .inr (.inr (some 39)), .inr (.inr (some 54))]) (h1 := hp L q2 c e) rfl ?_
  refine RuP.step (pc' := 25) (ls' := [some (.inr (.inr (some 70)))]) (st' := [.inl 20, .inl 1, .inr (.inr (some 39)), .inr (.inr (some 54))]) (h1 := hp L q2 c e) rfl ?_
  rcases xb_some h with ⟨q3, h1, h⟩ | ⟨xx1, h1, h2⟩
  rotate_left
  · subst h2
    exact RuP.pass rfl rfl ((ev_93 h1).up (by decide))
  refine RuP.cI rfl ((ev_93 h1).up (by decide)) ?_
  obtain ⟨b0, h⟩ := gd_some h
  obtain ⟨q4, h1, h⟩ := bd_some h
  refine RuP.cVe h1 rfl (EvP.v ((ev_189 q3.1 b0).up (by decide))) ?_
  refine RuP.step (pc' := 32) (ls' := [some (.inr (.inr (some 70)))]) (st' := [.inr (.inr (some 70))]) (h1 := hp L q4 c e) rfl ?_
  refine RuP.step (pc' := 35) (ls' := [some (.inr (.inr (some 70)))]) (st' := [.inr (.inr (some 39))]) (h1 := hp L q4 c e) rfl ?_
  refine RuP.step (pc' := 37) (ls' := [some (.inr (.inr (some 70)))]) (st' := [.inl 93, .inr (.inr (some 39))]) (h1 := hp L q4 c e) rfl ?_
  rcases xb_some h with ⟨q5, h1, h⟩ | ⟨xx1, h1, h2⟩
  rotate_left
  · subst h2
    exact RuP.pass rfl rfl ((ev_92 h1).up (by decide))
  refine RuP.cV rfl ((ev_92 h1).up (by decide)) ?_
  refine RuP.step (pc' := 41) (ls' := [some (.inr (.inr (some 70)))]) (st' := [.inr (.inr (some 70))]) (h1 := hp L q5 c e) rfl ?_
  refine RuP.step (pc' := 44) (ls' := [some (.inr (.inr (some 70)))]) (st' := [.inr (.inr (some 54))]) (h1 := hp L q5 c e) rfl ?_
  refine RuP.step (pc' := 45) (ls' := [some (.inr (.inr (some 70)))]) (st' := [.inr (.inr (some 70)), .inr (.inr (some 54))]) (h1 := hp L q5 c e) rfl ?_
  refine RuP.step (pc' := 48) (ls' := [some (.inr (.inr (some 70)))]) (st' := [.inr (.inr (some 39)), .inr (.inr (some 54))]) (h1 := hp L q5 c e) rfl ?_
  refine RuP.step (pc' := 49) (ls' := [some (.inr (.inr (some 70)))]) (st' := [.inl 1, .inr (.inr (some 39)), .inr (.inr (some 54))]) (h1 := hp L q5 c e) rfl ?_
  refine RuP.step (pc' := 51) (ls' := [some (.inr (.inr (some 70)))]) (st' := [.inl 32, .inl 1, .inr (.inr (some 39)), .inr (.inr (some 54))]) (h1 := hp L q5 c e) rfl ?_
  rcases xb_some h with ⟨q6, h1, h⟩ | ⟨xx1, h1, h2⟩
  rotate_left
  · subst h2
    exact RuP.pass rfl rfl ((ev_93 h1).up (by decide))
  refine RuP.cI rfl ((ev_93 h1).up (by decide)) ?_
  obtain ⟨b1, h⟩ := gd_some h
  obtain ⟨q7, h1, h⟩ := bd_some h
  refine RuP.cVe h1 rfl (EvP.v ((ev_190 q6.1 b1).up (by decide))) ?_
  refine RuP.step (pc' := 58) (ls' := [some (.inr (.inr (some 70)))]) (st' := [.inr (.inr (some 70))]) (h1 := hp L q7 c e) rfl ?_
  refine RuP.step (pc' := 61) (ls' := [some (.inr (.inr (some 70)))]) (st' := [.inr (.inr (some 39))]) (h1 := hp L q7 c e) rfl ?_
  refine RuP.step (pc' := 63) (ls' := [some (.inr (.inr (some 70)))]) (st' := [.inl 59, .inr (.inr (some 39))]) (h1 := hp L q7 c e) rfl ?_
  rcases xb_some h with ⟨q8, h1, h⟩ | ⟨xx1, h1, h2⟩
  rotate_left
  · subst h2
    exact RuP.pass rfl rfl ((ev_92 h1).up (by decide))
  refine RuP.cV rfl ((ev_92 h1).up (by decide)) ?_
  cases h
  exact RuP.dV rfl
/-- MachineText$Reader.instruction()V -/
noncomputable def j_153_61 (s : Sg) : Option (Sum (Sg) (Nat × Sg)) :=
  (xb (f_154 20 0 s) fun q2 =>
  some (.inl q2))
theorem bl_153_61 {L c : Nat} {e : Nat → Nat} : ∀ (z1 : Int) (s : Sg) (q : Sum (Sg) (Nat × Sg)), j_153_61 s = some q → RuP 4 tb_m153 61 [some (.inr (.inr (some 70))), some (.inl z1)] [] (hp L s c e) (oX L c (oV L c e) q) := by
  intro z1 s q h
  unfold j_153_61 at h
  refine RuP.step (pc' := 62) (ls' := [some (.inr (.inr (some 70))), some (.inl z1)]) (st' := [.inr (.inr (some 70))]) (h1 := hp L s c e) rfl ?_
  refine RuP.step (pc' := 64) (ls' := [some (.inr (.inr (some 70))), some (.inl z1)]) (st' := [.inl 20, .inr (.inr (some 70))]) (h1 := hp L s c e) rfl ?_
  refine RuP.step (pc' := 65) (ls' := [some (.inr (.inr (some 70))), some (.inl z1)]) (st' := [.inl 0, .inl 20, .inr (.inr (some 70))]) (h1 := hp L s c e) rfl ?_
  rcases xb_some h with ⟨q2, h1, h⟩ | ⟨xx1, h1, h2⟩
  rotate_left
  · subst h2
    exact RuP.pass rfl rfl ((ev_154 h1).up (by decide))
  refine RuP.cV rfl ((ev_154 h1).up (by decide)) ?_
  cases h
  exact RuP.dV rfl
noncomputable def j_153_47 (k7 : (Int → Sg → Option (Sum (Sg) (Nat × Sg)))) (l1 : Int) (s : Sg) : Option (Sum (Sg) (Nat × Sg)) :=
  (gd (g_189 1 s) (
  ((some (f_189 1 s)).bind fun q4 =>
  k7 (ax_w32 (l1 + 1)) q4)))
theorem bl_153_47 {L c : Nat} {e : Nat → Nat} {k7 : (Int → Sg → Option (Sum (Sg) (Nat × Sg)))} (hk7 : ∀ (l1 : Int) (s : Sg) (q : Sum (Sg) (Nat × Sg)), k7 l1 s = some q → RuP 4 tb_m153 7 [some (.inr (.inr (some 70))), some (.inl l1)] [] (hp L s c e) (oX L c (oV L c e) q)) : ∀ (l1 : Int) (s : Sg) (q : Sum (Sg) (Nat × Sg)), j_153_47 k7 l1 s = some q → RuP 4 tb_m153 47 [some (.inr (.inr (some 70))), some (.inl l1)] [] (hp L s c e) (oX L c (oV L c e) q) := by
  intro l1 s q h
  unfold j_153_47 at h
  refine RuP.step (pc' := 48) (ls' := [some (.inr (.inr (some 70))), some (.inl l1)]) (st' := [.inr (.inr (some 70))]) (h1 := hp L s c e) rfl ?_
  refine RuP.step (pc' := 51) (ls' := [some (.inr (.inr (some 70))), some (.inl l1)]) (st' := [.inr (.inr (some 54))]) (h1 := hp L s c e) rfl ?_
  refine RuP.step (pc' := 52) (ls' := [some (.inr (.inr (some 70))), some (.inl l1)]) (st' := [.inl 1, .inr (.inr (some 54))]) (h1 := hp L s c e) rfl ?_
  obtain ⟨b0, h⟩ := gd_some h
  obtain ⟨q4, h1, h⟩ := bd_some h
  refine RuP.cVe h1 rfl (EvP.v ((ev_189 1 b0).up (by decide))) ?_
  refine RuP.step (pc' := 58) (ls' := [some (.inr (.inr (some 70))), some (.inl (ax_w32 (l1 + 1)))]) (st' := []) (h1 := hp L q4 c e) rfl ?_
  refine RuP.step (pc' := 7) (ls' := [some (.inr (.inr (some 70))), some (.inl (ax_w32 (l1 + 1)))]) (st' := []) (h1 := hp L q4 c e) rfl ?_
  exact hk7 _ _ _ h
noncomputable def j_153_7 : Nat → Int → Sg → Option (Sum (Sg) (Nat × Sg))
  | 0, _, _ => none
  | F + 1, l1, s =>
    (if 8192 < l1 then
      j_153_61 s
    else
      (if ¬ (s 39 11) = 2 then
        (if ¬ (s 39 11) = 1 then
          j_153_61 s
        else
          (xb (f_159 s) fun q3 =>
          j_153_47 (j_153_7 F) l1 q3))
      else
        ((f_158 s).bind fun q5 =>
        j_153_47 (j_153_7 F) l1 q5)))
theorem bl_153_7 {L c : Nat} {e : Nat → Nat} : ∀ (F : Nat) (l1 : Int) (s : Sg) (q : Sum (Sg) (Nat × Sg)), j_153_7 F l1 s = some q → RuP 4 tb_m153 7 [some (.inr (.inr (some 70))), some (.inl l1)] [] (hp L s c e) (oX L c (oV L c e) q) := by
  intro F
  induction F with
  | zero =>
    intro l1 s q h
    rw [j_153_7] at h
    cases h
  | succ F ih =>
    intro l1 s q h
    rw [j_153_7] at h
    refine RuP.step (pc' := 8) (ls' := [some (.inr (.inr (some 70))), some (.inl l1)]) (st' := [.inl l1]) (h1 := hp L s c e) rfl ?_
    refine RuP.step (pc' := 11) (ls' := [some (.inr (.inr (some 70))), some (.inl l1)]) (st' := [.inl 8192, .inl l1]) (h1 := hp L s c e) rfl ?_
    by_cases h0 : 8192 < l1
    · rw [if_pos h0] at h
      refine RuP.jy rfl h0 ?_
      exact bl_153_61 _ _ _ h
    · rw [if_neg h0] at h
      refine RuP.jn rfl h0 ?_
      refine RuP.step (pc' := 15) (ls' := [some (.inr (.inr (some 70))), some (.inl l1)]) (st' := [.inr (.inr (some 70))]) (h1 := hp L s c e) rfl ?_
      refine RuP.step (pc' := 18) (ls' := [some (.inr (.inr (some 70))), some (.inl l1)]) (st' := [.inr (.inr (some 39))]) (h1 := hp L s c e) rfl ?_
      refine RuP.step (pc' := 21) (ls' := [some (.inr (.inr (some 70))), some (.inl l1)]) (st' := [.inl (s 39 11)]) (h1 := hp L s c e) rfl ?_
      refine RuP.step (pc' := 22) (ls' := [some (.inr (.inr (some 70))), some (.inl l1)]) (st' := [.inl 2, .inl (s 39 11)]) (h1 := hp L s c e) rfl ?_
      by_cases h1 : ¬ (s 39 11) = 2
      · rw [if_pos h1] at h
        refine RuP.jy rfl h1 ?_
        refine RuP.step (pc' := 33) (ls' := [some (.inr (.inr (some 70))), some (.inl l1)]) (st' := [.inr (.inr (some 70))]) (h1 := hp L s c e) rfl ?_
        refine RuP.step (pc' := 36) (ls' := [some (.inr (.inr (some 70))), some (.inl l1)]) (st' := [.inr (.inr (some 39))]) (h1 := hp L s c e) rfl ?_
        refine RuP.step (pc' := 39) (ls' := [some (.inr (.inr (some 70))), some (.inl l1)]) (st' := [.inl (s 39 11)]) (h1 := hp L s c e) rfl ?_
        refine RuP.step (pc' := 40) (ls' := [some (.inr (.inr (some 70))), some (.inl l1)]) (st' := [.inl 1, .inl (s 39 11)]) (h1 := hp L s c e) rfl ?_
        by_cases h2 : ¬ (s 39 11) = 1
        · rw [if_pos h2] at h
          refine RuP.jy rfl h2 ?_
          exact bl_153_61 _ _ _ h
        · rw [if_neg h2] at h
          refine RuP.jn rfl h2 ?_
          refine RuP.step (pc' := 44) (ls' := [some (.inr (.inr (some 70))), some (.inl l1)]) (st' := [.inr (.inr (some 70))]) (h1 := hp L s c e) rfl ?_
          rcases xb_some h with ⟨q3, h1, h⟩ | ⟨xx1, h1, h2⟩
          rotate_left
          · subst h2
            exact RuP.pass rfl rfl ((ev_159 h1).up (by decide))
          refine RuP.cV rfl ((ev_159 h1).up (by decide)) ?_
          exact bl_153_47 ih _ _ _ h
      · rw [if_neg h1] at h
        refine RuP.jn rfl h1 ?_
        refine RuP.step (pc' := 26) (ls' := [some (.inr (.inr (some 70))), some (.inl l1)]) (st' := [.inr (.inr (some 70))]) (h1 := hp L s c e) rfl ?_
        obtain ⟨q5, h1, h⟩ := bd_some h
        refine RuP.cV rfl ((ev_158 h1).up (by decide)) ?_
        refine RuP.step (pc' := 47) (ls' := [some (.inr (.inr (some 70))), some (.inl l1)]) (st' := []) (h1 := hp L q5 c e) rfl ?_
        exact bl_153_47 ih _ _ _ h
noncomputable def f_153 (s : Sg) : Option (Sum (Sg) (Nat × Sg)) :=
  (xb (f_156 3 s) fun q1 =>
  j_153_7 FU 0 q1)
theorem ev_153 {L c : Nat} {e : Nat → Nat} {s : Sg} {q : Sum (Sg) (Nat × Sg)} (h : f_153 s = some q) : EvP 5 153 [.inr (.inr (some 70))] (hp L s c e) (oX L c (oV L c e) q) := by
  unfold f_153 at h
  refine EvP.of (μ := tb_m153) (ls := [some (.inr (.inr (some 70))), none]) rfl (Nat.le_of_ble_eq_true rfl) rfl ?_
  refine RuP.step (pc' := 1) (ls' := [some (.inr (.inr (some 70))), none]) (st' := [.inr (.inr (some 70))]) (h1 := hp L s c e) rfl ?_
  refine RuP.step (pc' := 2) (ls' := [some (.inr (.inr (some 70))), none]) (st' := [.inl 3, .inr (.inr (some 70))]) (h1 := hp L s c e) rfl ?_
  rcases xb_some h with ⟨q1, h1, h⟩ | ⟨xx1, h1, h2⟩
  rotate_left
  · subst h2
    exact RuP.pass rfl rfl ((ev_156 h1).up (by decide))
  refine RuP.cV rfl ((ev_156 h1).up (by decide)) ?_
  refine RuP.step (pc' := 6) (ls' := [some (.inr (.inr (some 70))), none]) (st' := [.inl 0]) (h1 := hp L q1 c e) rfl ?_
  refine RuP.step (pc' := 7) (ls' := [some (.inr (.inr (some 70))), some (.inl 0)]) (st' := []) (h1 := hp L q1 c e) rfl ?_
  exact bl_153_7 FU _ _ _ h
/-- MachineText$Rings.collect()V -/
noncomputable def j_165_96 (k47 : (Int → Sg → Option Sg)) (l1 : Int) (s : Sg) : Option Sg :=
  k47 (ax_w32 (l1 + 1)) s
theorem bl_165_96 {L c : Nat} {e : Nat → Nat} {k47 : (Int → Sg → Option Sg)} (hk47 : ∀ (d2 d3 : Option ax_V) (l1 : Int) (s : Sg) (q : Sg), k47 l1 s = some q → RuP 3 tb_m165 47 [some (.inr (.inr (some 74))), some (.inl l1), d2, d3] [] (hp L s c e) (oV L c e q)) : ∀ (z2 z3 : Int) (l1 : Int) (s : Sg) (q : Sg), j_165_96 k47 l1 s = some q → RuP 3 tb_m165 96 [some (.inr (.inr (some 74))), some (.inl l1), some (.inl z2), some (.inl z3)] [] (hp L s c e) (oV L c e q) := by
  intro z2 z3 l1 s q h
  unfold j_165_96 at h
  refine RuP.step (pc' := 99) (ls' := [some (.inr (.inr (some 74))), some (.inl (ax_w32 (l1 + 1))), some (.inl z2), some (.inl z3)]) (st' := []) (h1 := hp L s c e) rfl ?_
  refine RuP.step (pc' := 47) (ls' := [some (.inr (.inr (some 74))), some (.inl (ax_w32 (l1 + 1))), some (.inl z2), some (.inl z3)]) (st' := []) (h1 := hp L s c e) rfl ?_
  exact hk47 _ _ _ _ _ h
noncomputable def j_165_75 (k47 : (Int → Sg → Option Sg)) : Nat → Int → Int → Int → Sg → Option Sg
  | 0, _, _, _, _ => none
  | F + 1, l1, l2, l3, s =>
    (if l2 ≤ l3 then
      j_165_96 k47 l1 s
    else
      (gd (g_171 l3 s) (
      (gd (g_172 l1 (f_171 l3 s) s) (
      ((some (f_172 l1 (f_171 l3 s) s)).bind fun q2 =>
      (j_165_75 k47 F) l1 l2 (ax_w32 (l3 + 1)) q2))))))
theorem bl_165_75 {L c : Nat} {e : Nat → Nat} {k47 : (Int → Sg → Option Sg)} (hk47 : ∀ (d2 d3 : Option ax_V) (l1 : Int) (s : Sg) (q : Sg), k47 l1 s = some q → RuP 3 tb_m165 47 [some (.inr (.inr (some 74))), some (.inl l1), d2, d3] [] (hp L s c e) (oV L c e q)) : ∀ (F : Nat) (l1 l2 l3 : Int) (s : Sg) (q : Sg), j_165_75 k47 F l1 l2 l3 s = some q → RuP 3 tb_m165 75 [some (.inr (.inr (some 74))), some (.inl l1), some (.inl l2), some (.inl l3)] [] (hp L s c e) (oV L c e q) := by
  intro F
  induction F with
  | zero =>
    intro l1 l2 l3 s q h
    rw [j_165_75] at h
    cases h
  | succ F ih =>
    intro l1 l2 l3 s q h
    rw [j_165_75] at h
    refine RuP.step (pc' := 76) (ls' := [some (.inr (.inr (some 74))), some (.inl l1), some (.inl l2), some (.inl l3)]) (st' := [.inl l3]) (h1 := hp L s c e) rfl ?_
    refine RuP.step (pc' := 77) (ls' := [some (.inr (.inr (some 74))), some (.inl l1), some (.inl l2), some (.inl l3)]) (st' := [.inl l2, .inl l3]) (h1 := hp L s c e) rfl ?_
    by_cases h0 : l2 ≤ l3
    · rw [if_pos h0] at h
      refine RuP.jy rfl h0 ?_
      exact bl_165_96 hk47 _ _ _ _ _ h
    · rw [if_neg h0] at h
      refine RuP.jn rfl h0 ?_
      refine RuP.step (pc' := 81) (ls' := [some (.inr (.inr (some 74))), some (.inl l1), some (.inl l2), some (.inl l3)]) (st' := [.inr (.inr (some 74))]) (h1 := hp L s c e) rfl ?_
      refine RuP.step (pc' := 82) (ls' := [some (.inr (.inr (some 74))), some (.inl l1), some (.inl l2), some (.inl l3)]) (st' := [.inl l1, .inr (.inr (some 74))]) (h1 := hp L s c e) rfl ?_
      refine RuP.step (pc' := 83) (ls' := [some (.inr (.inr (some 74))), some (.inl l1), some (.inl l2), some (.inl l3)]) (st' := [.inr (.inr (some 74)), .inl l1, .inr (.inr (some 74))]) (h1 := hp L s c e) rfl ?_
      refine RuP.step (pc' := 84) (ls' := [some (.inr (.inr (some 74))), some (.inl l1), some (.inl l2), some (.inl l3)]) (st' := [.inl l3, .inr (.inr (some 74)), .inl l1, .inr (.inr (some 74))]) (h1 := hp L s c e) rfl ?_
      obtain ⟨b1, h⟩ := gd_some h
      refine RuP.cI rfl (EvP.i ((ev_171 l3 b1).up (by decide))) ?_
      obtain ⟨b2, h⟩ := gd_some h
      obtain ⟨q2, h1, h⟩ := bd_some h
      refine RuP.cVe h1 rfl (EvP.v ((ev_172 l1 (f_171 l3 s) b2).up (by decide))) ?_
      refine RuP.step (pc' := 93) (ls' := [some (.inr (.inr (some 74))), some (.inl l1), some (.inl l2), some (.inl (ax_w32 (l3 + 1)))]) (st' := []) (h1 := hp L q2 c e) rfl ?_
      refine RuP.step (pc' := 75) (ls' := [some (.inr (.inr (some 74))), some (.inl l1), some (.inl l2), some (.inl (ax_w32 (l3 + 1)))]) (st' := []) (h1 := hp L q2 c e) rfl ?_
      exact ih _ _ _ _ _ h
noncomputable def j_165_47 : Nat → Int → Sg → Option Sg
  | 0, _, _ => none
  | F + 1, l1, s =>
    (if s 54 6 ≤ l1 then
      some s
    else
      ((f_170 l1 s).bind fun q1 =>
      (gd (g_187 l1 s) (
      j_165_75 (j_165_47 F) FU l1 q1 (ax_w32 ((f_187 l1 s) + 1)) s))))
theorem bl_165_47 {L c : Nat} {e : Nat → Nat} : ∀ (F : Nat) (d2 d3 : Option ax_V) (l1 : Int) (s : Sg) (q : Sg), j_165_47 F l1 s = some q → RuP 3 tb_m165 47 [some (.inr (.inr (some 74))), some (.inl l1), d2, d3] [] (hp L s c e) (oV L c e q) := by
  intro F
  induction F with
  | zero =>
    intro d2 d3 l1 s q h
    rw [j_165_47] at h
    cases h
  | succ F ih =>
    intro d2 d3 l1 s q h
    rw [j_165_47] at h
    refine RuP.step (pc' := 48) (ls' := [some (.inr (.inr (some 74))), some (.inl l1), d2, d3]) (st' := [.inl l1]) (h1 := hp L s c e) rfl ?_
    refine RuP.step (pc' := 49) (ls' := [some (.inr (.inr (some 74))), some (.inl l1), d2, d3]) (st' := [.inr (.inr (some 74)), .inl l1]) (h1 := hp L s c e) rfl ?_
    refine RuP.step (pc' := 52) (ls' := [some (.inr (.inr (some 74))), some (.inl l1), d2, d3]) (st' := [.inr (.inr (some 54)), .inl l1]) (h1 := hp L s c e) rfl ?_
    refine RuP.step (pc' := 55) (ls' := [some (.inr (.inr (some 74))), some (.inl l1), d2, d3]) (st' := [.inl (s 54 6), .inl l1]) (h1 := hp L s c e) rfl ?_
    by_cases h0 : s 54 6 ≤ l1
    · rw [if_pos h0] at h
      refine RuP.jy rfl h0 ?_
      cases h
      exact RuP.dV rfl
    · rw [if_neg h0] at h
      refine RuP.jn rfl h0 ?_
      refine RuP.step (pc' := 59) (ls' := [some (.inr (.inr (some 74))), some (.inl l1), d2, d3]) (st' := [.inr (.inr (some 74))]) (h1 := hp L s c e) rfl ?_
      refine RuP.step (pc' := 60) (ls' := [some (.inr (.inr (some 74))), some (.inl l1), d2, d3]) (st' := [.inl l1, .inr (.inr (some 74))]) (h1 := hp L s c e) rfl ?_
      obtain ⟨q1, h1, h⟩ := bd_some h
      refine RuP.cI rfl ((ev_170 h1).up (by decide)) ?_
      refine RuP.step (pc' := 64) (ls' := [some (.inr (.inr (some 74))), some (.inl l1), some (.inl q1), d3]) (st' := []) (h1 := hp L s c e) rfl ?_
      refine RuP.step (pc' := 65) (ls' := [some (.inr (.inr (some 74))), some (.inl l1), some (.inl q1), d3]) (st' := [.inr (.inr (some 74))]) (h1 := hp L s c e) rfl ?_
      refine RuP.step (pc' := 68) (ls' := [some (.inr (.inr (some 74))), some (.inl l1), some (.inl q1), d3]) (st' := [.inr (.inr (some 54))]) (h1 := hp L s c e) rfl ?_
      refine RuP.step (pc' := 69) (ls' := [some (.inr (.inr (some 74))), some (.inl l1), some (.inl q1), d3]) (st' := [.inl l1, .inr (.inr (some 54))]) (h1 := hp L s c e) rfl ?_
      obtain ⟨b1, h⟩ := gd_some h
      refine RuP.cI rfl (EvP.i ((ev_187 l1 b1).up (by decide))) ?_
      refine RuP.step (pc' := 73) (ls' := [some (.inr (.inr (some 74))), some (.inl l1), some (.inl q1), d3]) (st' := [.inl 1, .inl (f_187 l1 s)]) (h1 := hp L s c e) rfl ?_
      refine RuP.step (pc' := 74) (ls' := [some (.inr (.inr (some 74))), some (.inl l1), some (.inl q1), d3]) (st' := [.inl (ax_w32 ((f_187 l1 s) + 1))]) (h1 := hp L s c e) rfl ?_
      refine RuP.step (pc' := 75) (ls' := [some (.inr (.inr (some 74))), some (.inl l1), some (.inl q1), some (.inl (ax_w32 ((f_187 l1 s) + 1)))]) (st' := []) (h1 := hp L s c e) rfl ?_
      exact bl_165_75 ih FU _ _ _ _ _ h
noncomputable def j_165_45 (s : Sg) : Option Sg :=
  j_165_47 FU 0 s
theorem bl_165_45 {L c : Nat} {e : Nat → Nat} : ∀ (d2 d3 : Option ax_V) (z1 : Int) (s : Sg) (q : Sg), j_165_45 s = some q → RuP 3 tb_m165 45 [some (.inr (.inr (some 74))), some (.inl z1), d2, d3] [] (hp L s c e) (oV L c e q) := by
  intro d2 d3 z1 s q h
  unfold j_165_45 at h
  refine RuP.step (pc' := 46) (ls' := [some (.inr (.inr (some 74))), some (.inl z1), d2, d3]) (st' := [.inl 0]) (h1 := hp L s c e) rfl ?_
  refine RuP.step (pc' := 47) (ls' := [some (.inr (.inr (some 74))), some (.inl 0), d2, d3]) (st' := []) (h1 := hp L s c e) rfl ?_
  exact bl_165_47 FU _ _ _ _ _ h
noncomputable def j_165_7 : Nat → Int → Sg → Option Sg
  | 0, _, _ => none
  | F + 1, l1, s =>
    (if s 54 6 ≤ l1 then
      j_165_45 s
    else
      (if 1171 ≤ l1 then
        j_165_45 s
      else
        (gd (0 ≤ l1 ∧ l1 < 1171) (
        (gd (0 ≤ l1 ∧ l1 < 1171) (
        (j_165_7 F) (ax_w32 (l1 + 1)) (ax_u2 (ax_u2 s 75 l1.toNat (-1)) 78 l1.toNat 0)))))))
theorem bl_165_7 {L c : Nat} {e : Nat → Nat} : ∀ (F : Nat) (d2 d3 : Option ax_V) (l1 : Int) (s : Sg) (q : Sg), j_165_7 F l1 s = some q → RuP 3 tb_m165 7 [some (.inr (.inr (some 74))), some (.inl l1), d2, d3] [] (hp L s c e) (oV L c e q) := by
  intro F
  induction F with
  | zero =>
    intro d2 d3 l1 s q h
    rw [j_165_7] at h
    cases h
  | succ F ih =>
    intro d2 d3 l1 s q h
    rw [j_165_7] at h
    refine RuP.step (pc' := 8) (ls' := [some (.inr (.inr (some 74))), some (.inl l1), d2, d3]) (st' := [.inl l1]) (h1 := hp L s c e) rfl ?_
    refine RuP.step (pc' := 9) (ls' := [some (.inr (.inr (some 74))), some (.inl l1), d2, d3]) (st' := [.inr (.inr (some 74)), .inl l1]) (h1 := hp L s c e) rfl ?_
    refine RuP.step (pc' := 12) (ls' := [some (.inr (.inr (some 74))), some (.inl l1), d2, d3]) (st' := [.inr (.inr (some 54)), .inl l1]) (h1 := hp L s c e) rfl ?_
    refine RuP.step (pc' := 15) (ls' := [some (.inr (.inr (some 74))), some (.inl l1), d2, d3]) (st' := [.inl (s 54 6), .inl l1]) (h1 := hp L s c e) rfl ?_
    by_cases h0 : s 54 6 ≤ l1
    · rw [if_pos h0] at h
      refine RuP.jy rfl h0 ?_
      exact bl_165_45 _ _ _ _ _ h
    · rw [if_neg h0] at h
      refine RuP.jn rfl h0 ?_
      refine RuP.step (pc' := 19) (ls' := [some (.inr (.inr (some 74))), some (.inl l1), d2, d3]) (st' := [.inl l1]) (h1 := hp L s c e) rfl ?_
      refine RuP.step (pc' := 22) (ls' := [some (.inr (.inr (some 74))), some (.inl l1), d2, d3]) (st' := [.inl 1171, .inl l1]) (h1 := hp L s c e) rfl ?_
      by_cases h1 : 1171 ≤ l1
      · rw [if_pos h1] at h
        refine RuP.jy rfl h1 ?_
        exact bl_165_45 _ _ _ _ _ h
      · rw [if_neg h1] at h
        refine RuP.jn rfl h1 ?_
        refine RuP.step (pc' := 26) (ls' := [some (.inr (.inr (some 74))), some (.inl l1), d2, d3]) (st' := [.inr (.inr (some 74))]) (h1 := hp L s c e) rfl ?_
        refine RuP.step (pc' := 29) (ls' := [some (.inr (.inr (some 74))), some (.inl l1), d2, d3]) (st' := [.inr (.inr (some 75))]) (h1 := hp L s c e) rfl ?_
        refine RuP.step (pc' := 30) (ls' := [some (.inr (.inr (some 74))), some (.inl l1), d2, d3]) (st' := [.inl l1, .inr (.inr (some 75))]) (h1 := hp L s c e) rfl ?_
        refine RuP.step (pc' := 31) (ls' := [some (.inr (.inr (some 74))), some (.inl l1), d2, d3]) (st' := [.inl (-1), .inl l1, .inr (.inr (some 75))]) (h1 := hp L s c e) rfl ?_
        obtain ⟨b2, h⟩ := gd_some h
        refine RuP.ast (f := fun t => t == 0) (j := l1) (a := 75) rfl rfl (by decide) rfl rfl b2.1 b2.2 ?_
        refine RuP.step (pc' := 33) (ls' := [some (.inr (.inr (some 74))), some (.inl l1), d2, d3]) (st' := [.inr (.inr (some 74))]) (h1 := hp L (ax_u2 s 75 l1.toNat (-1)) c e) rfl ?_
        refine RuP.step (pc' := 36) (ls' := [some (.inr (.inr (some 74))), some (.inl l1), d2, d3]) (st' := [.inr (.inr (some 78))]) (h1 := hp L (ax_u2 s 75 l1.toNat (-1)) c e) rfl ?_
        refine RuP.step (pc' := 37) (ls' := [some (.inr (.inr (some 74))), some (.inl l1), d2, d3]) (st' := [.inl l1, .inr (.inr (some 78))]) (h1 := hp L (ax_u2 s 75 l1.toNat (-1)) c e) rfl ?_
        refine RuP.step (pc' := 38) (ls' := [some (.inr (.inr (some 74))), some (.inl l1), d2, d3]) (st' := [.inl 0, .inl l1, .inr (.inr (some 78))]) (h1 := hp L (ax_u2 s 75 l1.toNat (-1)) c e) rfl ?_
        obtain ⟨b3, h⟩ := gd_some h
        refine RuP.ast (f := fun t => t == 0) (j := l1) (a := 78) rfl rfl (by decide) rfl rfl b3.1 b3.2 ?_
        refine RuP.step (pc' := 42) (ls' := [some (.inr (.inr (some 74))), some (.inl (ax_w32 (l1 + 1))), d2, d3]) (st' := []) (h1 := hp L (ax_u2 (ax_u2 s 75 l1.toNat (-1)) 78 l1.toNat 0) c e) rfl ?_
        refine RuP.step (pc' := 7) (ls' := [some (.inr (.inr (some 74))), some (.inl (ax_w32 (l1 + 1))), d2, d3]) (st' := []) (h1 := hp L (ax_u2 (ax_u2 s 75 l1.toNat (-1)) 78 l1.toNat 0) c e) rfl ?_
        exact ih _ _ _ _ _ h
noncomputable def f_165 (s : Sg) : Option Sg :=
  j_165_7 FU 0 (ax_u2 s 74 7 0)
theorem ev_165 {L c : Nat} {e : Nat → Nat} {s : Sg} {q : Sg} (h : f_165 s = some q) : EvP 4 165 [.inr (.inr (some 74))] (hp L s c e) (oV L c e q) := by
  unfold f_165 at h
  refine EvP.of (μ := tb_m165) (ls := [some (.inr (.inr (some 74))), none, none, none]) rfl (Nat.le_of_ble_eq_true rfl) rfl ?_
  refine RuP.step (pc' := 1) (ls' := [some (.inr (.inr (some 74))), none, none, none]) (st' := [.inr (.inr (some 74))]) (h1 := hp L s c e) rfl ?_
  refine RuP.step (pc' := 2) (ls' := [some (.inr (.inr (some 74))), none, none, none]) (st' := [.inl 0, .inr (.inr (some 74))]) (h1 := hp L s c e) rfl ?_
  refine RuP.step (pc' := 5) (ls' := [some (.inr (.inr (some 74))), none, none, none]) (st' := []) (h1 := hp L (ax_u2 s 74 7 0) c e) rfl ?_
  refine RuP.step (pc' := 6) (ls' := [some (.inr (.inr (some 74))), none, none, none]) (st' := [.inl 0]) (h1 := hp L (ax_u2 s 74 7 0) c e) rfl ?_
  refine RuP.step (pc' := 7) (ls' := [some (.inr (.inr (some 74))), some (.inl 0), none, none]) (st' := []) (h1 := hp L (ax_u2 s 74 7 0) c e) rfl ?_
  exact bl_165_7 FU _ _ _ _ _ h
/-- MachineText$Rings.isFree()Z -/
noncomputable def j_166_121 (s : Sg) : Option (Int × Sg) :=
  (if s 74 11 < s 54 6 then
    some (0, s)
  else
    some (1, s))
theorem bl_166_121 {L c : Nat} {e : Nat → Nat} : ∀ (d2 d3 : Option ax_V) (z1 : Int) (s : Sg) (q : Int × Sg), j_166_121 s = some q → RuP 2 tb_m166 121 [some (.inr (.inr (some 74))), some (.inl z1), d2, d3] [] (hp L s c e) (oI L c e q) := by
  intro d2 d3 z1 s q h
  unfold j_166_121 at h
  refine RuP.step (pc' := 122) (ls' := [some (.inr (.inr (some 74))), some (.inl z1), d2, d3]) (st' := [.inr (.inr (some 74))]) (h1 := hp L s c e) rfl ?_
  refine RuP.step (pc' := 125) (ls' := [some (.inr (.inr (some 74))), some (.inl z1), d2, d3]) (st' := [.inl (s 74 11)]) (h1 := hp L s c e) rfl ?_
  refine RuP.step (pc' := 126) (ls' := [some (.inr (.inr (some 74))), some (.inl z1), d2, d3]) (st' := [.inr (.inr (some 74)), .inl (s 74 11)]) (h1 := hp L s c e) rfl ?_
  refine RuP.step (pc' := 129) (ls' := [some (.inr (.inr (some 74))), some (.inl z1), d2, d3]) (st' := [.inr (.inr (some 54)), .inl (s 74 11)]) (h1 := hp L s c e) rfl ?_
  refine RuP.step (pc' := 132) (ls' := [some (.inr (.inr (some 74))), some (.inl z1), d2, d3]) (st' := [.inl (s 54 6), .inl (s 74 11)]) (h1 := hp L s c e) rfl ?_
  by_cases h0 : s 74 11 < s 54 6
  · rw [if_pos h0] at h
    refine RuP.jy rfl h0 ?_
    refine RuP.step (pc' := 140) (ls' := [some (.inr (.inr (some 74))), some (.inl z1), d2, d3]) (st' := [.inl 0]) (h1 := hp L s c e) rfl ?_
    cases h
    exact RuP.dI rfl
  · rw [if_neg h0] at h
    refine RuP.jn rfl h0 ?_
    refine RuP.step (pc' := 136) (ls' := [some (.inr (.inr (some 74))), some (.inl z1), d2, d3]) (st' := [.inl 1]) (h1 := hp L s c e) rfl ?_
    refine RuP.step (pc' := 140) (ls' := [some (.inr (.inr (some 74))), some (.inl z1), d2, d3]) (st' := [.inl 1]) (h1 := hp L s c e) rfl ?_
    cases h
    exact RuP.dI rfl
noncomputable def j_166_115 (k48 : (Int → Sg → Option (Int × Sg))) (l1 : Int) (s : Sg) : Option (Int × Sg) :=
  k48 (ax_w32 (l1 + 1)) s
theorem bl_166_115 {L c : Nat} {e : Nat → Nat} {k48 : (Int → Sg → Option (Int × Sg))} (hk48 : ∀ (d2 d3 : Option ax_V) (l1 : Int) (s : Sg) (q : Int × Sg), k48 l1 s = some q → RuP 2 tb_m166 48 [some (.inr (.inr (some 74))), some (.inl l1), d2, d3] [] (hp L s c e) (oI L c e q)) : ∀ (z2 z3 : Int) (l1 : Int) (s : Sg) (q : Int × Sg), j_166_115 k48 l1 s = some q → RuP 2 tb_m166 115 [some (.inr (.inr (some 74))), some (.inl l1), some (.inl z2), some (.inl z3)] [] (hp L s c e) (oI L c e q) := by
  intro z2 z3 l1 s q h
  unfold j_166_115 at h
  refine RuP.step (pc' := 118) (ls' := [some (.inr (.inr (some 74))), some (.inl (ax_w32 (l1 + 1))), some (.inl z2), some (.inl z3)]) (st' := []) (h1 := hp L s c e) rfl ?_
  refine RuP.step (pc' := 48) (ls' := [some (.inr (.inr (some 74))), some (.inl (ax_w32 (l1 + 1))), some (.inl z2), some (.inl z3)]) (st' := []) (h1 := hp L s c e) rfl ?_
  exact hk48 _ _ _ _ _ h
noncomputable def j_166_76 (k48 : (Int → Sg → Option (Int × Sg))) : Nat → Int → Int → Int → Sg → Option (Int × Sg)
  | 0, _, _, _, _ => none
  | F + 1, l1, l2, l3, s =>
    (if f_176 l2 s = 0 then
      j_166_115 k48 l1 s
    else
      (if s 74 7 ≤ l3 then
        j_166_115 k48 l1 s
      else
        (gd (0 ≤ l2 ∧ l2 < 2731) (
        ((f_177 (s 76 l2.toNat) s).bind fun q1 =>
        (gd (0 ≤ l2 ∧ l2 < 2731) (
        (j_166_76 k48 F) l1 (q1 77 l2.toNat) (ax_w32 (l3 + 1)) q1)))))))
theorem bl_166_76 {L c : Nat} {e : Nat → Nat} {k48 : (Int → Sg → Option (Int × Sg))} (hk48 : ∀ (d2 d3 : Option ax_V) (l1 : Int) (s : Sg) (q : Int × Sg), k48 l1 s = some q → RuP 2 tb_m166 48 [some (.inr (.inr (some 74))), some (.inl l1), d2, d3] [] (hp L s c e) (oI L c e q)) : ∀ (F : Nat) (l1 l2 l3 : Int) (s : Sg) (q : Int × Sg), j_166_76 k48 F l1 l2 l3 s = some q → RuP 2 tb_m166 76 [some (.inr (.inr (some 74))), some (.inl l1), some (.inl l2), some (.inl l3)] [] (hp L s c e) (oI L c e q) := by
  intro F
  induction F with
  | zero =>
    intro l1 l2 l3 s q h
    rw [j_166_76] at h
    cases h
  | succ F ih =>
    intro l1 l2 l3 s q h
    rw [j_166_76] at h
    refine RuP.step (pc' := 77) (ls' := [some (.inr (.inr (some 74))), some (.inl l1), some (.inl l2), some (.inl l3)]) (st' := [.inr (.inr (some 74))]) (h1 := hp L s c e) rfl ?_
    refine RuP.step (pc' := 78) (ls' := [some (.inr (.inr (some 74))), some (.inl l1), some (.inl l2), some (.inl l3)]) (st' := [.inl l2, .inr (.inr (some 74))]) (h1 := hp L s c e) rfl ?_
    refine RuP.cI rfl (EvP.i ((ev_176 l2).up (by decide))) ?_
    by_cases h0 : f_176 l2 s = 0
    · rw [if_pos h0] at h
      refine RuP.jy rfl h0 ?_
      exact bl_166_115 hk48 _ _ _ _ _ h
    · rw [if_neg h0] at h
      refine RuP.jn rfl h0 ?_
      refine RuP.step (pc' := 85) (ls' := [some (.inr (.inr (some 74))), some (.inl l1), some (.inl l2), some (.inl l3)]) (st' := [.inl l3]) (h1 := hp L s c e) rfl ?_
      refine RuP.step (pc' := 86) (ls' := [some (.inr (.inr (some 74))), some (.inl l1), some (.inl l2), some (.inl l3)]) (st' := [.inr (.inr (some 74)), .inl l3]) (h1 := hp L s c e) rfl ?_
      refine RuP.step (pc' := 89) (ls' := [some (.inr (.inr (some 74))), some (.inl l1), some (.inl l2), some (.inl l3)]) (st' := [.inl (s 74 7), .inl l3]) (h1 := hp L s c e) rfl ?_
      by_cases h1 : s 74 7 ≤ l3
      · rw [if_pos h1] at h
        refine RuP.jy rfl h1 ?_
        exact bl_166_115 hk48 _ _ _ _ _ h
      · rw [if_neg h1] at h
        refine RuP.jn rfl h1 ?_
        refine RuP.step (pc' := 93) (ls' := [some (.inr (.inr (some 74))), some (.inl l1), some (.inl l2), some (.inl l3)]) (st' := [.inr (.inr (some 74))]) (h1 := hp L s c e) rfl ?_
        refine RuP.step (pc' := 94) (ls' := [some (.inr (.inr (some 74))), some (.inl l1), some (.inl l2), some (.inl l3)]) (st' := [.inr (.inr (some 74)), .inr (.inr (some 74))]) (h1 := hp L s c e) rfl ?_
        refine RuP.step (pc' := 97) (ls' := [some (.inr (.inr (some 74))), some (.inl l1), some (.inl l2), some (.inl l3)]) (st' := [.inr (.inr (some 76)), .inr (.inr (some 74))]) (h1 := hp L s c e) rfl ?_
        refine RuP.step (pc' := 98) (ls' := [some (.inr (.inr (some 74))), some (.inl l1), some (.inl l2), some (.inl l3)]) (st' := [.inl l2, .inr (.inr (some 76)), .inr (.inr (some 74))]) (h1 := hp L s c e) rfl ?_
        obtain ⟨b2, h⟩ := gd_some h
        refine RuP.ald (f := fun t => t == 0) (j := l2) (a := 76) rfl rfl b2.1 b2.2 ?_
        obtain ⟨q1, h1, h⟩ := bd_some h
        refine RuP.cV rfl ((ev_177 h1).up (by decide)) ?_
        refine RuP.step (pc' := 103) (ls' := [some (.inr (.inr (some 74))), some (.inl l1), some (.inl l2), some (.inl l3)]) (st' := [.inr (.inr (some 74))]) (h1 := hp L q1 c e) rfl ?_
        refine RuP.step (pc' := 106) (ls' := [some (.inr (.inr (some 74))), some (.inl l1), some (.inl l2), some (.inl l3)]) (st' := [.inr (.inr (some 77))]) (h1 := hp L q1 c e) rfl ?_
        refine RuP.step (pc' := 107) (ls' := [some (.inr (.inr (some 74))), some (.inl l1), some (.inl l2), some (.inl l3)]) (st' := [.inl l2, .inr (.inr (some 77))]) (h1 := hp L q1 c e) rfl ?_
        obtain ⟨b3, h⟩ := gd_some h
        refine RuP.ald (f := fun t => t == 0) (j := l2) (a := 77) rfl rfl b3.1 b3.2 ?_
        refine RuP.step (pc' := 109) (ls' := [some (.inr (.inr (some 74))), some (.inl l1), some (.inl (q1 77 l2.toNat)), some (.inl l3)]) (st' := []) (h1 := hp L q1 c e) rfl ?_
        refine RuP.step (pc' := 112) (ls' := [some (.inr (.inr (some 74))), some (.inl l1), some (.inl (q1 77 l2.toNat)), some (.inl (ax_w32 (l3 + 1)))]) (st' := []) (h1 := hp L q1 c e) rfl ?_
        refine RuP.step (pc' := 76) (ls' := [some (.inr (.inr (some 74))), some (.inl l1), some (.inl (q1 77 l2.toNat)), some (.inl (ax_w32 (l3 + 1)))]) (st' := []) (h1 := hp L q1 c e) rfl ?_
        exact ih _ _ _ _ _ h
noncomputable def j_166_48 : Nat → Int → Sg → Option (Int × Sg)
  | 0, _, _ => none
  | F + 1, l1, s =>
    (if s 74 11 ≤ l1 then
      j_166_121 s
    else
      (if 1171 ≤ l1 then
        j_166_121 s
      else
        (gd (0 ≤ l1 ∧ l1 < 1171) (
        (gd (g_175 (s 80 l1.toNat) s) (
        j_166_76 (j_166_48 F) FU l1 (f_175 (s 80 l1.toNat) s) 0 s))))))
theorem bl_166_48 {L c : Nat} {e : Nat → Nat} : ∀ (F : Nat) (d2 d3 : Option ax_V) (l1 : Int) (s : Sg) (q : Int × Sg), j_166_48 F l1 s = some q → RuP 2 tb_m166 48 [some (.inr (.inr (some 74))), some (.inl l1), d2, d3] [] (hp L s c e) (oI L c e q) := by
  intro F
  induction F with
  | zero =>
    intro d2 d3 l1 s q h
    rw [j_166_48] at h
    cases h
  | succ F ih =>
    intro d2 d3 l1 s q h
    rw [j_166_48] at h
    refine RuP.step (pc' := 49) (ls' := [some (.inr (.inr (some 74))), some (.inl l1), d2, d3]) (st' := [.inl l1]) (h1 := hp L s c e) rfl ?_
    refine RuP.step (pc' := 50) (ls' := [some (.inr (.inr (some 74))), some (.inl l1), d2, d3]) (st' := [.inr (.inr (some 74)), .inl l1]) (h1 := hp L s c e) rfl ?_
    refine RuP.step (pc' := 53) (ls' := [some (.inr (.inr (some 74))), some (.inl l1), d2, d3]) (st' := [.inl (s 74 11), .inl l1]) (h1 := hp L s c e) rfl ?_
    by_cases h0 : s 74 11 ≤ l1
    · rw [if_pos h0] at h
      refine RuP.jy rfl h0 ?_
      exact bl_166_121 _ _ _ _ _ h
    · rw [if_neg h0] at h
      refine RuP.jn rfl h0 ?_
      refine RuP.step (pc' := 57) (ls' := [some (.inr (.inr (some 74))), some (.inl l1), d2, d3]) (st' := [.inl l1]) (h1 := hp L s c e) rfl ?_
      refine RuP.step (pc' := 60) (ls' := [some (.inr (.inr (some 74))), some (.inl l1), d2, d3]) (st' := [.inl 1171, .inl l1]) (h1 := hp L s c e) rfl ?_
      by_cases h1 : 1171 ≤ l1
      · rw [if_pos h1] at h
        refine RuP.jy rfl h1 ?_
        exact bl_166_121 _ _ _ _ _ h
      · rw [if_neg h1] at h
        refine RuP.jn rfl h1 ?_
        refine RuP.step (pc' := 64) (ls' := [some (.inr (.inr (some 74))), some (.inl l1), d2, d3]) (st' := [.inr (.inr (some 74))]) (h1 := hp L s c e) rfl ?_
        refine RuP.step (pc' := 65) (ls' := [some (.inr (.inr (some 74))), some (.inl l1), d2, d3]) (st' := [.inr (.inr (some 74)), .inr (.inr (some 74))]) (h1 := hp L s c e) rfl ?_
        refine RuP.step (pc' := 68) (ls' := [some (.inr (.inr (some 74))), some (.inl l1), d2, d3]) (st' := [.inr (.inr (some 80)), .inr (.inr (some 74))]) (h1 := hp L s c e) rfl ?_
        refine RuP.step (pc' := 69) (ls' := [some (.inr (.inr (some 74))), some (.inl l1), d2, d3]) (st' := [.inl l1, .inr (.inr (some 80)), .inr (.inr (some 74))]) (h1 := hp L s c e) rfl ?_
        obtain ⟨b2, h⟩ := gd_some h
        refine RuP.ald (f := fun t => t == 0) (j := l1) (a := 80) rfl rfl b2.1 b2.2 ?_
        obtain ⟨b3, h⟩ := gd_some h
        refine RuP.cI rfl (EvP.i ((ev_175 (s 80 l1.toNat) b3).up (by decide))) ?_
        refine RuP.step (pc' := 74) (ls' := [some (.inr (.inr (some 74))), some (.inl l1), some (.inl (f_175 (s 80 l1.toNat) s)), d3]) (st' := []) (h1 := hp L s c e) rfl ?_
        refine RuP.step (pc' := 75) (ls' := [some (.inr (.inr (some 74))), some (.inl l1), some (.inl (f_175 (s 80 l1.toNat) s)), d3]) (st' := [.inl 0]) (h1 := hp L s c e) rfl ?_
        refine RuP.step (pc' := 76) (ls' := [some (.inr (.inr (some 74))), some (.inl l1), some (.inl (f_175 (s 80 l1.toNat) s)), some (.inl 0)]) (st' := []) (h1 := hp L s c e) rfl ?_
        exact bl_166_76 ih FU _ _ _ _ _ h
noncomputable def j_166_46 (s : Sg) : Option (Int × Sg) :=
  j_166_48 FU 0 s
theorem bl_166_46 {L c : Nat} {e : Nat → Nat} : ∀ (d2 d3 : Option ax_V) (z1 : Int) (s : Sg) (q : Int × Sg), j_166_46 s = some q → RuP 2 tb_m166 46 [some (.inr (.inr (some 74))), some (.inl z1), d2, d3] [] (hp L s c e) (oI L c e q) := by
  intro d2 d3 z1 s q h
  unfold j_166_46 at h
  refine RuP.step (pc' := 47) (ls' := [some (.inr (.inr (some 74))), some (.inl z1), d2, d3]) (st' := [.inl 0]) (h1 := hp L s c e) rfl ?_
  refine RuP.step (pc' := 48) (ls' := [some (.inr (.inr (some 74))), some (.inl 0), d2, d3]) (st' := []) (h1 := hp L s c e) rfl ?_
  exact bl_166_48 FU _ _ _ _ _ h
noncomputable def j_166_40 (k7 : (Int → Sg → Option (Int × Sg))) (l1 : Int) (s : Sg) : Option (Int × Sg) :=
  k7 (ax_w32 (l1 + 1)) s
theorem bl_166_40 {L c : Nat} {e : Nat → Nat} {k7 : (Int → Sg → Option (Int × Sg))} (hk7 : ∀ (d2 d3 : Option ax_V) (l1 : Int) (s : Sg) (q : Int × Sg), k7 l1 s = some q → RuP 2 tb_m166 7 [some (.inr (.inr (some 74))), some (.inl l1), d2, d3] [] (hp L s c e) (oI L c e q)) : ∀ (d2 d3 : Option ax_V) (l1 : Int) (s : Sg) (q : Int × Sg), j_166_40 k7 l1 s = some q → RuP 2 tb_m166 40 [some (.inr (.inr (some 74))), some (.inl l1), d2, d3] [] (hp L s c e) (oI L c e q) := by
  intro d2 d3 l1 s q h
  unfold j_166_40 at h
  refine RuP.step (pc' := 43) (ls' := [some (.inr (.inr (some 74))), some (.inl (ax_w32 (l1 + 1))), d2, d3]) (st' := []) (h1 := hp L s c e) rfl ?_
  refine RuP.step (pc' := 7) (ls' := [some (.inr (.inr (some 74))), some (.inl (ax_w32 (l1 + 1))), d2, d3]) (st' := []) (h1 := hp L s c e) rfl ?_
  exact hk7 _ _ _ _ _ h
noncomputable def j_166_7 : Nat → Int → Sg → Option (Int × Sg)
  | 0, _, _ => none
  | F + 1, l1, s =>
    (if s 54 6 ≤ l1 then
      j_166_46 s
    else
      (if f_173 l1 s = 0 then
        j_166_40 (j_166_7 F) l1 s
      else
        (gd (0 ≤ l1 ∧ l1 < 1171) (
        (if ¬ (s 78 l1.toNat) = 0 then
          j_166_40 (j_166_7 F) l1 s
        else
          (gd (g_174 l1 s) (
          ((some (f_174 l1 s)).bind fun q2 =>
          j_166_40 (j_166_7 F) l1 q2))))))))
theorem bl_166_7 {L c : Nat} {e : Nat → Nat} : ∀ (F : Nat) (d2 d3 : Option ax_V) (l1 : Int) (s : Sg) (q : Int × Sg), j_166_7 F l1 s = some q → RuP 2 tb_m166 7 [some (.inr (.inr (some 74))), some (.inl l1), d2, d3] [] (hp L s c e) (oI L c e q) := by
  intro F
  induction F with
  | zero =>
    intro d2 d3 l1 s q h
    rw [j_166_7] at h
    cases h
  | succ F ih =>
    intro d2 d3 l1 s q h
    rw [j_166_7] at h
    refine RuP.step (pc' := 8) (ls' := [some (.inr (.inr (some 74))), some (.inl l1), d2, d3]) (st' := [.inl l1]) (h1 := hp L s c e) rfl ?_
    refine RuP.step (pc' := 9) (ls' := [some (.inr (.inr (some 74))), some (.inl l1), d2, d3]) (st' := [.inr (.inr (some 74)), .inl l1]) (h1 := hp L s c e) rfl ?_
    refine RuP.step (pc' := 12) (ls' := [some (.inr (.inr (some 74))), some (.inl l1), d2, d3]) (st' := [.inr (.inr (some 54)), .inl l1]) (h1 := hp L s c e) rfl ?_
    refine RuP.step (pc' := 15) (ls' := [some (.inr (.inr (some 74))), some (.inl l1), d2, d3]) (st' := [.inl (s 54 6), .inl l1]) (h1 := hp L s c e) rfl ?_
    by_cases h0 : s 54 6 ≤ l1
    · rw [if_pos h0] at h
      refine RuP.jy rfl h0 ?_
      exact bl_166_46 _ _ _ _ _ h
    · rw [if_neg h0] at h
      refine RuP.jn rfl h0 ?_
      refine RuP.step (pc' := 19) (ls' := [some (.inr (.inr (some 74))), some (.inl l1), d2, d3]) (st' := [.inr (.inr (some 74))]) (h1 := hp L s c e) rfl ?_
      refine RuP.step (pc' := 20) (ls' := [some (.inr (.inr (some 74))), some (.inl l1), d2, d3]) (st' := [.inl l1, .inr (.inr (some 74))]) (h1 := hp L s c e) rfl ?_
      refine RuP.cI rfl (EvP.i ((ev_173 l1).up (by decide))) ?_
      by_cases h1 : f_173 l1 s = 0
      · rw [if_pos h1] at h
        refine RuP.jy rfl h1 ?_
        exact bl_166_40 ih _ _ _ _ _ h
      · rw [if_neg h1] at h
        refine RuP.jn rfl h1 ?_
        refine RuP.step (pc' := 27) (ls' := [some (.inr (.inr (some 74))), some (.inl l1), d2, d3]) (st' := [.inr (.inr (some 74))]) (h1 := hp L s c e) rfl ?_
        refine RuP.step (pc' := 30) (ls' := [some (.inr (.inr (some 74))), some (.inl l1), d2, d3]) (st' := [.inr (.inr (some 78))]) (h1 := hp L s c e) rfl ?_
        refine RuP.step (pc' := 31) (ls' := [some (.inr (.inr (some 74))), some (.inl l1), d2, d3]) (st' := [.inl l1, .inr (.inr (some 78))]) (h1 := hp L s c e) rfl ?_
        obtain ⟨b2, h⟩ := gd_some h
        refine RuP.ald (f := fun t => t == 0) (j := l1) (a := 78) rfl rfl b2.1 b2.2 ?_
        by_cases h3 : ¬ (s 78 l1.toNat) = 0
        · rw [if_pos h3] at h
          refine RuP.jy rfl h3 ?_
          exact bl_166_40 ih _ _ _ _ _ h
        · rw [if_neg h3] at h
          refine RuP.jn rfl h3 ?_
          refine RuP.step (pc' := 36) (ls' := [some (.inr (.inr (some 74))), some (.inl l1), d2, d3]) (st' := [.inr (.inr (some 74))]) (h1 := hp L s c e) rfl ?_
          refine RuP.step (pc' := 37) (ls' := [some (.inr (.inr (some 74))), some (.inl l1), d2, d3]) (st' := [.inl l1, .inr (.inr (some 74))]) (h1 := hp L s c e) rfl ?_
          obtain ⟨b4, h⟩ := gd_some h
          obtain ⟨q2, h1, h⟩ := bd_some h
          refine RuP.cVe h1 rfl (EvP.v ((ev_174 l1 b4).up (by decide))) ?_
          exact bl_166_40 ih _ _ _ _ _ h
noncomputable def f_166 (s : Sg) : Option (Int × Sg) :=
  j_166_7 FU 0 (ax_u2 s 74 11 0)
theorem ev_166 {L c : Nat} {e : Nat → Nat} {s : Sg} {q : Int × Sg} (h : f_166 s = some q) : EvP 3 166 [.inr (.inr (some 74))] (hp L s c e) (oI L c e q) := by
  unfold f_166 at h
  refine EvP.of (μ := tb_m166) (ls := [some (.inr (.inr (some 74))), none, none, none]) rfl (Nat.le_of_ble_eq_true rfl) rfl ?_
  refine RuP.step (pc' := 1) (ls' := [some (.inr (.inr (some 74))), none, none, none]) (st' := [.inr (.inr (some 74))]) (h1 := hp L s c e) rfl ?_
  refine RuP.step (pc' := 2) (ls' := [some (.inr (.inr (some 74))), none, none, none]) (st' := [.inl 0, .inr (.inr (some 74))]) (h1 := hp L s c e) rfl ?_
  refine RuP.step (pc' := 5) (ls' := [some (.inr (.inr (some 74))), none, none, none]) (st' := []) (h1 := hp L (ax_u2 s 74 11 0) c e) rfl ?_
  refine RuP.step (pc' := 6) (ls' := [some (.inr (.inr (some 74))), none, none, none]) (st' := [.inl 0]) (h1 := hp L (ax_u2 s 74 11 0) c e) rfl ?_
  refine RuP.step (pc' := 7) (ls' := [some (.inr (.inr (some 74))), some (.inl 0), none, none]) (st' := []) (h1 := hp L (ax_u2 s 74 11 0) c e) rfl ?_
  exact bl_166_7 FU _ _ _ _ _ h
/-- MachineText$Rings.measure(I)V -/
noncomputable def j_167_138 (k61 : (Int → Sg → Option Sg)) (l2 : Int) (s : Sg) : Option Sg :=
  k61 (ax_w32 (l2 + 1)) s
theorem bl_167_138 {L c : Nat} {e : Nat → Nat} {k61 : (Int → Sg → Option Sg)} (hk61 : ∀ (d3 d4 d5 : Option ax_V) (z1 : Int) (l2 : Int) (s : Sg) (q : Sg), k61 l2 s = some q → RuP 2 tb_m167 61 [some (.inr (.inr (some 74))), some (.inl z1), some (.inl l2), d3, d4, d5] [] (hp L s c e) (oV L c e q)) : ∀ (z1 z3 z4 z5 : Int) (l2 : Int) (s : Sg) (q : Sg), j_167_138 k61 l2 s = some q → RuP 2 tb_m167 138 [some (.inr (.inr (some 74))), some (.inl z1), some (.inl l2), some (.inl z3), some (.inl z4), some (.inl z5)] [] (hp L s c e) (oV L c e q) := by
  intro z1 z3 z4 z5 l2 s q h
  unfold j_167_138 at h
  refine RuP.step (pc' := 141) (ls' := [some (.inr (.inr (some 74))), some (.inl z1), some (.inl (ax_w32 (l2 + 1))), some (.inl z3), some (.inl z4), some (.inl z5)]) (st' := []) (h1 := hp L s c e) rfl ?_
  refine RuP.step (pc' := 61) (ls' := [some (.inr (.inr (some 74))), some (.inl z1), some (.inl (ax_w32 (l2 + 1))), some (.inl z3), some (.inl z4), some (.inl z5)]) (st' := []) (h1 := hp L s c e) rfl ?_
  exact hk61 _ _ _ _ _ _ _ h
noncomputable def j_167_93 (k61 : (Int → Sg → Option Sg)) : Nat → Int → Int → Int → Int → Sg → Option Sg
  | 0, _, _, _, _, _ => none
  | F + 1, l2, l3, l4, l5, s =>
    (if f_176 l4 s = 0 then
      j_167_138 k61 l2 s
    else
      (if s 74 7 ≤ l5 then
        j_167_138 k61 l2 s
      else
        (gd (0 ≤ l4 ∧ l4 < 2731) (
        ((f_178 (s 76 l4.toNat) l3 s).bind fun q2 =>
        (gd (0 ≤ l4 ∧ l4 < 2731) (
        (j_167_93 k61 F) l2 l3 (q2 77 l4.toNat) (ax_w32 (l5 + 1)) q2)))))))
theorem bl_167_93 {L c : Nat} {e : Nat → Nat} {k61 : (Int → Sg → Option Sg)} (hk61 : ∀ (d3 d4 d5 : Option ax_V) (z1 : Int) (l2 : Int) (s : Sg) (q : Sg), k61 l2 s = some q → RuP 2 tb_m167 61 [some (.inr (.inr (some 74))), some (.inl z1), some (.inl l2), d3, d4, d5] [] (hp L s c e) (oV L c e q)) : ∀ (F : Nat) (z1 : Int) (l2 l3 l4 l5 : Int) (s : Sg) (q : Sg), j_167_93 k61 F l2 l3 l4 l5 s = some q → RuP 2 tb_m167 93 [some (.inr (.inr (some 74))), some (.inl z1), some (.inl l2), some (.inl l3), some (.inl l4), some (.inl l5)] [] (hp L s c e) (oV L c e q) := by
  intro F
  induction F with
  | zero =>
    intro z1 l2 l3 l4 l5 s q h
    rw [j_167_93] at h
    cases h
  | succ F ih =>
    intro z1 l2 l3 l4 l5 s q h
    rw [j_167_93] at h
    refine RuP.step (pc' := 94) (ls' := [some (.inr (.inr (some 74))), some (.inl z1), some (.inl l2), some (.inl l3), some (.inl l4), some (.inl l5)]) (st' := [.inr (.inr (some 74))]) (h1 := hp L s c e) rfl ?_
    refine RuP.step (pc' := 96) (ls' := [some (.inr (.inr (some 74))), some (.inl z1), some (.inl l2), some (.inl l3), some (.inl l4), some (.inl l5)]) (st' := [.inl l4, .inr (.inr (some 74))]) (h1 := hp L s c e) rfl ?_
    refine RuP.cI rfl (EvP.i ((ev_176 l4).up (by decide))) ?_
    by_cases h0 : f_176 l4 s = 0
    · rw [if_pos h0] at h
      refine RuP.jy rfl h0 ?_
      exact bl_167_138 hk61 _ _ _ _ _ _ _ h
    · rw [if_neg h0] at h
      refine RuP.jn rfl h0 ?_
      refine RuP.step (pc' := 104) (ls' := [some (.inr (.inr (some 74))), some (.inl z1), some (.inl l2), some (.inl l3), some (.inl l4), some (.inl l5)]) (st' := [.inl l5]) (h1 := hp L s c e) rfl ?_
      refine RuP.step (pc' := 105) (ls' := [some (.inr (.inr (some 74))), some (.inl z1), some (.inl l2), some (.inl l3), some (.inl l4), some (.inl l5)]) (st' := [.inr (.inr (some 74)), .inl l5]) (h1 := hp L s c e) rfl ?_
      refine RuP.step (pc' := 108) (ls' := [some (.inr (.inr (some 74))), some (.inl z1), some (.inl l2), some (.inl l3), some (.inl l4), some (.inl l5)]) (st' := [.inl (s 74 7), .inl l5]) (h1 := hp L s c e) rfl ?_
      by_cases h1 : s 74 7 ≤ l5
      · rw [if_pos h1] at h
        refine RuP.jy rfl h1 ?_
        exact bl_167_138 hk61 _ _ _ _ _ _ _ h
      · rw [if_neg h1] at h
        refine RuP.jn rfl h1 ?_
        refine RuP.step (pc' := 112) (ls' := [some (.inr (.inr (some 74))), some (.inl z1), some (.inl l2), some (.inl l3), some (.inl l4), some (.inl l5)]) (st' := [.inr (.inr (some 74))]) (h1 := hp L s c e) rfl ?_
        refine RuP.step (pc' := 113) (ls' := [some (.inr (.inr (some 74))), some (.inl z1), some (.inl l2), some (.inl l3), some (.inl l4), some (.inl l5)]) (st' := [.inr (.inr (some 74)), .inr (.inr (some 74))]) (h1 := hp L s c e) rfl ?_
        refine RuP.step (pc' := 116) (ls' := [some (.inr (.inr (some 74))), some (.inl z1), some (.inl l2), some (.inl l3), some (.inl l4), some (.inl l5)]) (st' := [.inr (.inr (some 76)), .inr (.inr (some 74))]) (h1 := hp L s c e) rfl ?_
        refine RuP.step (pc' := 118) (ls' := [some (.inr (.inr (some 74))), some (.inl z1), some (.inl l2), some (.inl l3), some (.inl l4), some (.inl l5)]) (st' := [.inl l4, .inr (.inr (some 76)), .inr (.inr (some 74))]) (h1 := hp L s c e) rfl ?_
        obtain ⟨b2, h⟩ := gd_some h
        refine RuP.ald (f := fun t => t == 0) (j := l4) (a := 76) rfl rfl b2.1 b2.2 ?_
        refine RuP.step (pc' := 120) (ls' := [some (.inr (.inr (some 74))), some (.inl z1), some (.inl l2), some (.inl l3), some (.inl l4), some (.inl l5)]) (st' := [.inl l3, .inl (s 76 l4.toNat), .inr (.inr (some 74))]) (h1 := hp L s c e) rfl ?_
        obtain ⟨q2, h1, h⟩ := bd_some h
        refine RuP.cV rfl ((ev_178 h1).up (by decide)) ?_
        refine RuP.step (pc' := 124) (ls' := [some (.inr (.inr (some 74))), some (.inl z1), some (.inl l2), some (.inl l3), some (.inl l4), some (.inl l5)]) (st' := [.inr (.inr (some 74))]) (h1 := hp L q2 c e) rfl ?_
        refine RuP.step (pc' := 127) (ls' := [some (.inr (.inr (some 74))), some (.inl z1), some (.inl l2), some (.inl l3), some (.inl l4), some (.inl l5)]) (st' := [.inr (.inr (some 77))]) (h1 := hp L q2 c e) rfl ?_
        refine RuP.step (pc' := 129) (ls' := [some (.inr (.inr (some 74))), some (.inl z1), some (.inl l2), some (.inl l3), some (.inl l4), some (.inl l5)]) (st' := [.inl l4, .inr (.inr (some 77))]) (h1 := hp L q2 c e) rfl ?_
        obtain ⟨b3, h⟩ := gd_some h
        refine RuP.ald (f := fun t => t == 0) (j := l4) (a := 77) rfl rfl b3.1 b3.2 ?_
        refine RuP.step (pc' := 132) (ls' := [some (.inr (.inr (some 74))), some (.inl z1), some (.inl l2), some (.inl l3), some (.inl (q2 77 l4.toNat)), some (.inl l5)]) (st' := []) (h1 := hp L q2 c e) rfl ?_
        refine RuP.step (pc' := 135) (ls' := [some (.inr (.inr (some 74))), some (.inl z1), some (.inl l2), some (.inl l3), some (.inl (q2 77 l4.toNat)), some (.inl (ax_w32 (l5 + 1)))]) (st' := []) (h1 := hp L q2 c e) rfl ?_
        refine RuP.step (pc' := 93) (ls' := [some (.inr (.inr (some 74))), some (.inl z1), some (.inl l2), some (.inl l3), some (.inl (q2 77 l4.toNat)), some (.inl (ax_w32 (l5 + 1)))]) (st' := []) (h1 := hp L q2 c e) rfl ?_
        exact ih _ _ _ _ _ _ _ h
noncomputable def j_167_61 : Nat → Int → Sg → Option Sg
  | 0, _, _ => none
  | F + 1, l2, s =>
    (if s 74 11 ≤ l2 then
      some s
    else
      (if 1171 ≤ l2 then
        some s
      else
        (gd (0 ≤ l2 ∧ l2 < 1171) (
        (gd (g_175 (s 80 l2.toNat) s) (
        j_167_93 (j_167_61 F) FU l2 (s 80 l2.toNat) (f_175 (s 80 l2.toNat) s) 0 s))))))
theorem bl_167_61 {L c : Nat} {e : Nat → Nat} : ∀ (F : Nat) (d3 d4 d5 : Option ax_V) (z1 : Int) (l2 : Int) (s : Sg) (q : Sg), j_167_61 F l2 s = some q → RuP 2 tb_m167 61 [some (.inr (.inr (some 74))), some (.inl z1), some (.inl l2), d3, d4, d5] [] (hp L s c e) (oV L c e q) := by
  intro F
  induction F with
  | zero =>
    intro d3 d4 d5 z1 l2 s q h
    rw [j_167_61] at h
    cases h
  | succ F ih =>
    intro d3 d4 d5 z1 l2 s q h
    rw [j_167_61] at h
    refine RuP.step (pc' := 62) (ls' := [some (.inr (.inr (some 74))), some (.inl z1), some (.inl l2), d3, d4, d5]) (st' := [.inl l2]) (h1 := hp L s c e) rfl ?_
    refine RuP.step (pc' := 63) (ls' := [some (.inr (.inr (some 74))), some (.inl z1), some (.inl l2), d3, d4, d5]) (st' := [.inr (.inr (some 74)), .inl l2]) (h1 := hp L s c e) rfl ?_
    refine RuP.step (pc' := 66) (ls' := [some (.inr (.inr (some 74))), some (.inl z1), some (.inl l2), d3, d4, d5]) (st' := [.inl (s 74 11), .inl l2]) (h1 := hp L s c e) rfl ?_
    by_cases h0 : s 74 11 ≤ l2
    · rw [if_pos h0] at h
      refine RuP.jy rfl h0 ?_
      cases h
      exact RuP.dV rfl
    · rw [if_neg h0] at h
      refine RuP.jn rfl h0 ?_
      refine RuP.step (pc' := 70) (ls' := [some (.inr (.inr (some 74))), some (.inl z1), some (.inl l2), d3, d4, d5]) (st' := [.inl l2]) (h1 := hp L s c e) rfl ?_
      refine RuP.step (pc' := 73) (ls' := [some (.inr (.inr (some 74))), some (.inl z1), some (.inl l2), d3, d4, d5]) (st' := [.inl 1171, .inl l2]) (h1 := hp L s c e) rfl ?_
      by_cases h1 : 1171 ≤ l2
      · rw [if_pos h1] at h
        refine RuP.jy rfl h1 ?_
        cases h
        exact RuP.dV rfl
      · rw [if_neg h1] at h
        refine RuP.jn rfl h1 ?_
        refine RuP.step (pc' := 77) (ls' := [some (.inr (.inr (some 74))), some (.inl z1), some (.inl l2), d3, d4, d5]) (st' := [.inr (.inr (some 74))]) (h1 := hp L s c e) rfl ?_
        refine RuP.step (pc' := 80) (ls' := [some (.inr (.inr (some 74))), some (.inl z1), some (.inl l2), d3, d4, d5]) (st' := [.inr (.inr (some 80))]) (h1 := hp L s c e) rfl ?_
        refine RuP.step (pc' := 81) (ls' := [some (.inr (.inr (some 74))), some (.inl z1), some (.inl l2), d3, d4, d5]) (st' := [.inl l2, .inr (.inr (some 80))]) (h1 := hp L s c e) rfl ?_
        obtain ⟨b2, h⟩ := gd_some h
        refine RuP.ald (f := fun t => t == 0) (j := l2) (a := 80) rfl rfl b2.1 b2.2 ?_
        refine RuP.step (pc' := 83) (ls' := [some (.inr (.inr (some 74))), some (.inl z1), some (.inl l2), some (.inl (s 80 l2.toNat)), d4, d5]) (st' := []) (h1 := hp L s c e) rfl ?_
        refine RuP.step (pc' := 84) (ls' := [some (.inr (.inr (some 74))), some (.inl z1), some (.inl l2), some (.inl (s 80 l2.toNat)), d4, d5]) (st' := [.inr (.inr (some 74))]) (h1 := hp L s c e) rfl ?_
        refine RuP.step (pc' := 85) (ls' := [some (.inr (.inr (some 74))), some (.inl z1), some (.inl l2), some (.inl (s 80 l2.toNat)), d4, d5]) (st' := [.inl (s 80 l2.toNat), .inr (.inr (some 74))]) (h1 := hp L s c e) rfl ?_
        obtain ⟨b3, h⟩ := gd_some h
        refine RuP.cI rfl (EvP.i ((ev_175 (s 80 l2.toNat) b3).up (by decide))) ?_
        refine RuP.step (pc' := 90) (ls' := [some (.inr (.inr (some 74))), some (.inl z1), some (.inl l2), some (.inl (s 80 l2.toNat)), some (.inl (f_175 (s 80 l2.toNat) s)), d5]) (st' := []) (h1 := hp L s c e) rfl ?_
        refine RuP.step (pc' := 91) (ls' := [some (.inr (.inr (some 74))), some (.inl z1), some (.inl l2), some (.inl (s 80 l2.toNat)), some (.inl (f_175 (s 80 l2.toNat) s)), d5]) (st' := [.inl 0]) (h1 := hp L s c e) rfl ?_
        refine RuP.step (pc' := 93) (ls' := [some (.inr (.inr (some 74))), some (.inl z1), some (.inl l2), some (.inl (s 80 l2.toNat)), some (.inl (f_175 (s 80 l2.toNat) s)), some (.inl 0)]) (st' := []) (h1 := hp L s c e) rfl ?_
        exact bl_167_93 ih FU _ _ _ _ _ _ _ h
noncomputable def j_167_33 (l1 : Int) (s : Sg) : Option Sg :=
  (if ¬ (f_173 l1 (ax_u2 s 74 11 0)) = 0 then
    (gd (0 ≤ l1 ∧ l1 < 1171) (
    (gd (g_174 l1 (ax_u2 (ax_u2 s 74 11 0) 79 l1.toNat 0)) (
    ((some (f_174 l1 (ax_u2 (ax_u2 s 74 11 0) 79 l1.toNat 0))).bind fun q1 =>
    j_167_61 FU 0 q1)))))
  else
    some (ax_u2 s 74 11 0))
theorem bl_167_33 {L c : Nat} {e : Nat → Nat} : ∀ (d3 d4 d5 : Option ax_V) (z2 : Int) (l1 : Int) (s : Sg) (q : Sg), j_167_33 l1 s = some q → RuP 2 tb_m167 33 [some (.inr (.inr (some 74))), some (.inl l1), some (.inl z2), d3, d4, d5] [] (hp L s c e) (oV L c e q) := by
  intro d3 d4 d5 z2 l1 s q h
  unfold j_167_33 at h
  refine RuP.step (pc' := 34) (ls' := [some (.inr (.inr (some 74))), some (.inl l1), some (.inl z2), d3, d4, d5]) (st' := [.inr (.inr (some 74))]) (h1 := hp L s c e) rfl ?_
  refine RuP.step (pc' := 35) (ls' := [some (.inr (.inr (some 74))), some (.inl l1), some (.inl z2), d3, d4, d5]) (st' := [.inl 0, .inr (.inr (some 74))]) (h1 := hp L s c e) rfl ?_
  refine RuP.step (pc' := 38) (ls' := [some (.inr (.inr (some 74))), some (.inl l1), some (.inl z2), d3, d4, d5]) (st' := []) (h1 := hp L (ax_u2 s 74 11 0) c e) rfl ?_
  refine RuP.step (pc' := 39) (ls' := [some (.inr (.inr (some 74))), some (.inl l1), some (.inl z2), d3, d4, d5]) (st' := [.inr (.inr (some 74))]) (h1 := hp L (ax_u2 s 74 11 0) c e) rfl ?_
  refine RuP.step (pc' := 40) (ls' := [some (.inr (.inr (some 74))), some (.inl l1), some (.inl z2), d3, d4, d5]) (st' := [.inl l1, .inr (.inr (some 74))]) (h1 := hp L (ax_u2 s 74 11 0) c e) rfl ?_
  refine RuP.cI rfl (EvP.i ((ev_173 l1).up (by decide))) ?_
  by_cases h0 : ¬ (f_173 l1 (ax_u2 s 74 11 0)) = 0
  · rw [if_pos h0] at h
    refine RuP.jy rfl h0 ?_
    refine RuP.step (pc' := 48) (ls' := [some (.inr (.inr (some 74))), some (.inl l1), some (.inl z2), d3, d4, d5]) (st' := [.inr (.inr (some 74))]) (h1 := hp L (ax_u2 s 74 11 0) c e) rfl ?_
    refine RuP.step (pc' := 51) (ls' := [some (.inr (.inr (some 74))), some (.inl l1), some (.inl z2), d3, d4, d5]) (st' := [.inr (.inr (some 79))]) (h1 := hp L (ax_u2 s 74 11 0) c e) rfl ?_
    refine RuP.step (pc' := 52) (ls' := [some (.inr (.inr (some 74))), some (.inl l1), some (.inl z2), d3, d4, d5]) (st' := [.inl l1, .inr (.inr (some 79))]) (h1 := hp L (ax_u2 s 74 11 0) c e) rfl ?_
    refine RuP.step (pc' := 53) (ls' := [some (.inr (.inr (some 74))), some (.inl l1), some (.inl z2), d3, d4, d5]) (st' := [.inl 0, .inl l1, .inr (.inr (some 79))]) (h1 := hp L (ax_u2 s 74 11 0) c e) rfl ?_
    obtain ⟨b1, h⟩ := gd_some h
    refine RuP.ast (f := fun t => t == 0) (j := l1) (a := 79) rfl rfl (by decide) rfl rfl b1.1 b1.2 ?_
    refine RuP.step (pc' := 55) (ls' := [some (.inr (.inr (some 74))), some (.inl l1), some (.inl z2), d3, d4, d5]) (st' := [.inr (.inr (some 74))]) (h1 := hp L (ax_u2 (ax_u2 s 74 11 0) 79 l1.toNat 0) c e) rfl ?_
    refine RuP.step (pc' := 56) (ls' := [some (.inr (.inr (some 74))), some (.inl l1), some (.inl z2), d3, d4, d5]) (st' := [.inl l1, .inr (.inr (some 74))]) (h1 := hp L (ax_u2 (ax_u2 s 74 11 0) 79 l1.toNat 0) c e) rfl ?_
    obtain ⟨b2, h⟩ := gd_some h
    obtain ⟨q1, h1, h⟩ := bd_some h
    refine RuP.cVe h1 rfl (EvP.v ((ev_174 l1 b2).up (by decide))) ?_
    refine RuP.step (pc' := 60) (ls' := [some (.inr (.inr (some 74))), some (.inl l1), some (.inl z2), d3, d4, d5]) (st' := [.inl 0]) (h1 := hp L q1 c e) rfl ?_
    refine RuP.step (pc' := 61) (ls' := [some (.inr (.inr (some 74))), some (.inl l1), some (.inl 0), d3, d4, d5]) (st' := []) (h1 := hp L q1 c e) rfl ?_
    exact bl_167_61 FU _ _ _ _ _ _ _ h
  · rw [if_neg h0] at h
    refine RuP.jn rfl h0 ?_
    cases h
    exact RuP.dV rfl
noncomputable def j_167_2 : Nat → Int → Int → Sg → Option Sg
  | 0, _, _, _ => none
  | F + 1, l1, l2, s =>
    (if s 54 6 ≤ l2 then
      j_167_33 l1 s
    else
      (if 1171 ≤ l2 then
        j_167_33 l1 s
      else
        (gd (0 ≤ l2 ∧ l2 < 1171) (
        (j_167_2 F) l1 (ax_w32 (l2 + 1)) (ax_u2 s 79 l2.toNat (-1))))))
theorem bl_167_2 {L c : Nat} {e : Nat → Nat} : ∀ (F : Nat) (d3 d4 d5 : Option ax_V) (l1 l2 : Int) (s : Sg) (q : Sg), j_167_2 F l1 l2 s = some q → RuP 2 tb_m167 2 [some (.inr (.inr (some 74))), some (.inl l1), some (.inl l2), d3, d4, d5] [] (hp L s c e) (oV L c e q) := by
  intro F
  induction F with
  | zero =>
    intro d3 d4 d5 l1 l2 s q h
    rw [j_167_2] at h
    cases h
  | succ F ih =>
    intro d3 d4 d5 l1 l2 s q h
    rw [j_167_2] at h
    refine RuP.step (pc' := 3) (ls' := [some (.inr (.inr (some 74))), some (.inl l1), some (.inl l2), d3, d4, d5]) (st' := [.inl l2]) (h1 := hp L s c e) rfl ?_
    refine RuP.step (pc' := 4) (ls' := [some (.inr (.inr (some 74))), some (.inl l1), some (.inl l2), d3, d4, d5]) (st' := [.inr (.inr (some 74)), .inl l2]) (h1 := hp L s c e) rfl ?_
    refine RuP.step (pc' := 7) (ls' := [some (.inr (.inr (some 74))), some (.inl l1), some (.inl l2), d3, d4, d5]) (st' := [.inr (.inr (some 54)), .inl l2]) (h1 := hp L s c e) rfl ?_
    refine RuP.step (pc' := 10) (ls' := [some (.inr (.inr (some 74))), some (.inl l1), some (.inl l2), d3, d4, d5]) (st' := [.inl (s 54 6), .inl l2]) (h1 := hp L s c e) rfl ?_
    by_cases h0 : s 54 6 ≤ l2
    · rw [if_pos h0] at h
      refine RuP.jy rfl h0 ?_
      exact bl_167_33 _ _ _ _ _ _ _ h
    · rw [if_neg h0] at h
      refine RuP.jn rfl h0 ?_
      refine RuP.step (pc' := 14) (ls' := [some (.inr (.inr (some 74))), some (.inl l1), some (.inl l2), d3, d4, d5]) (st' := [.inl l2]) (h1 := hp L s c e) rfl ?_
      refine RuP.step (pc' := 17) (ls' := [some (.inr (.inr (some 74))), some (.inl l1), some (.inl l2), d3, d4, d5]) (st' := [.inl 1171, .inl l2]) (h1 := hp L s c e) rfl ?_
      by_cases h1 : 1171 ≤ l2
      · rw [if_pos h1] at h
        refine RuP.jy rfl h1 ?_
        exact bl_167_33 _ _ _ _ _ _ _ h
      · rw [if_neg h1] at h
        refine RuP.jn rfl h1 ?_
        refine RuP.step (pc' := 21) (ls' := [some (.inr (.inr (some 74))), some (.inl l1), some (.inl l2), d3, d4, d5]) (st' := [.inr (.inr (some 74))]) (h1 := hp L s c e) rfl ?_
        refine RuP.step (pc' := 24) (ls' := [some (.inr (.inr (some 74))), some (.inl l1), some (.inl l2), d3, d4, d5]) (st' := [.inr (.inr (some 79))]) (h1 := hp L s c e) rfl ?_
        refine RuP.step (pc' := 25) (ls' := [some (.inr (.inr (some 74))), some (.inl l1), some (.inl l2), d3, d4, d5]) (st' := [.inl l2, .inr (.inr (some 79))]) (h1 := hp L s c e) rfl ?_
        refine RuP.step (pc' := 26) (ls' := [some (.inr (.inr (some 74))), some (.inl l1), some (.inl l2), d3, d4, d5]) (st' := [.inl (-1), .inl l2, .inr (.inr (some 79))]) (h1 := hp L s c e) rfl ?_
        obtain ⟨b2, h⟩ := gd_some h
        refine RuP.ast (f := fun t => t == 0) (j := l2) (a := 79) rfl rfl (by decide) rfl rfl b2.1 b2.2 ?_
        refine RuP.step (pc' := 30) (ls' := [some (.inr (.inr (some 74))), some (.inl l1), some (.inl (ax_w32 (l2 + 1))), d3, d4, d5]) (st' := []) (h1 := hp L (ax_u2 s 79 l2.toNat (-1)) c e) rfl ?_
        refine RuP.step (pc' := 2) (ls' := [some (.inr (.inr (some 74))), some (.inl l1), some (.inl (ax_w32 (l2 + 1))), d3, d4, d5]) (st' := []) (h1 := hp L (ax_u2 s 79 l2.toNat (-1)) c e) rfl ?_
        exact ih _ _ _ _ _ _ _ h
noncomputable def f_167 (x0 : Int) (s : Sg) : Option Sg :=
  j_167_2 FU x0 0 s
theorem ev_167 {L c : Nat} {e : Nat → Nat} {s : Sg} {x0 : Int} {q : Sg} (h : f_167 x0 s = some q) : EvP 3 167 [.inr (.inr (some 74)), .inl x0] (hp L s c e) (oV L c e q) := by
  unfold f_167 at h
  refine EvP.of (μ := tb_m167) (ls := [some (.inr (.inr (some 74))), some (.inl x0), none, none, none, none]) rfl (Nat.le_of_ble_eq_true rfl) rfl ?_
  refine RuP.step (pc' := 1) (ls' := [some (.inr (.inr (some 74))), some (.inl x0), none, none, none, none]) (st' := [.inl 0]) (h1 := hp L s c e) rfl ?_
  refine RuP.step (pc' := 2) (ls' := [some (.inr (.inr (some 74))), some (.inl x0), some (.inl 0), none, none, none]) (st' := []) (h1 := hp L s c e) rfl ?_
  exact bl_167_2 FU _ _ _ _ _ _ _ h
/-- MachineText$Rings.nearest(I)I -/
noncomputable def j_168_90 (k20 : (Int → Int → Int → Sg → Option Int)) (l2 l3 l4 : Int) (s : Sg) : Option Int :=
  k20 l2 l3 (ax_w32 (l4 + 1)) s
theorem bl_168_90 {L c : Nat} {e : Nat → Nat} {k20 : (Int → Int → Int → Sg → Option Int)} (hk20 : ∀ (d5 d6 : Option ax_V) (z1 : Int) (l2 l3 l4 : Int) (s : Sg) (q : Int), k20 l2 l3 l4 s = some q → RuP 3 tb_m168 20 [some (.inr (.inr (some 74))), some (.inl z1), some (.inl l2), some (.inl l3), some (.inl l4), d5, d6] [] (hp L s c e) (oI L c e (q, s))) : ∀ (z1 z5 z6 : Int) (l2 l3 l4 : Int) (s : Sg) (q : Int), j_168_90 k20 l2 l3 l4 s = some q → RuP 3 tb_m168 90 [some (.inr (.inr (some 74))), some (.inl z1), some (.inl l2), some (.inl l3), some (.inl l4), some (.inl z5), some (.inl z6)] [] (hp L s c e) (oI L c e (q, s)) := by
  intro z1 z5 z6 l2 l3 l4 s q h
  unfold j_168_90 at h
  refine RuP.step (pc' := 93) (ls' := [some (.inr (.inr (some 74))), some (.inl z1), some (.inl l2), some (.inl l3), some (.inl (ax_w32 (l4 + 1))), some (.inl z5), some (.inl z6)]) (st' := []) (h1 := hp L s c e) rfl ?_
  refine RuP.step (pc' := 20) (ls' := [some (.inr (.inr (some 74))), some (.inl z1), some (.inl l2), some (.inl l3), some (.inl (ax_w32 (l4 + 1))), some (.inl z5), some (.inl z6)]) (st' := []) (h1 := hp L s c e) rfl ?_
  exact hk20 _ _ _ _ _ _ _ _ h
noncomputable def j_168_87 (k20 : (Int → Int → Int → Sg → Option Int)) (l3 l4 l5 : Int) (s : Sg) : Option Int :=
  j_168_90 k20 l5 l3 l4 s
theorem bl_168_87 {L c : Nat} {e : Nat → Nat} {k20 : (Int → Int → Int → Sg → Option Int)} (hk20 : ∀ (d5 d6 : Option ax_V) (z1 : Int) (l2 l3 l4 : Int) (s : Sg) (q : Int), k20 l2 l3 l4 s = some q → RuP 3 tb_m168 20 [some (.inr (.inr (some 74))), some (.inl z1), some (.inl l2), some (.inl l3), some (.inl l4), d5, d6] [] (hp L s c e) (oI L c e (q, s))) : ∀ (z1 z2 z6 : Int) (l3 l4 l5 : Int) (s : Sg) (q : Int), j_168_87 k20 l3 l4 l5 s = some q → RuP 3 tb_m168 87 [some (.inr (.inr (some 74))), some (.inl z1), some (.inl z2), some (.inl l3), some (.inl l4), some (.inl l5), some (.inl z6)] [] (hp L s c e) (oI L c e (q, s)) := by
  intro z1 z2 z6 l3 l4 l5 s q h
  unfold j_168_87 at h
  refine RuP.step (pc' := 89) (ls' := [some (.inr (.inr (some 74))), some (.inl z1), some (.inl z2), some (.inl l3), some (.inl l4), some (.inl l5), some (.inl z6)]) (st' := [.inl l5]) (h1 := hp L s c e) rfl ?_
  refine RuP.step (pc' := 90) (ls' := [some (.inr (.inr (some 74))), some (.inl z1), some (.inl l5), some (.inl l3), some (.inl l4), some (.inl l5), some (.inl z6)]) (st' := []) (h1 := hp L s c e) rfl ?_
  exact bl_168_90 hk20 _ _ _ _ _ _ _ _ h
noncomputable def j_168_59 (k20 : (Int → Int → Int → Sg → Option Int)) (l2 l3 l4 l5 t0 : Int) (s : Sg) : Option Int :=
  (if t0 = 0 then
    j_168_90 k20 l2 l3 l4 s
  else
    (if l2 = (-1) then
      j_168_87 k20 l3 l4 l5 s
    else
      (gd (0 ≤ l5 ∧ l5 < 1171) (
      (gd (0 ≤ l2 ∧ l2 < 1171) (
      j_168_90 k20 ((if s 79 l2.toNat ≤ s 79 l5.toNat then l2 else l5) : Int) l3 l4 s))))))
theorem bl_168_59 {L c : Nat} {e : Nat → Nat} {k20 : (Int → Int → Int → Sg → Option Int)} (hk20 : ∀ (d5 d6 : Option ax_V) (z1 : Int) (l2 l3 l4 : Int) (s : Sg) (q : Int), k20 l2 l3 l4 s = some q → RuP 3 tb_m168 20 [some (.inr (.inr (some 74))), some (.inl z1), some (.inl l2), some (.inl l3), some (.inl l4), d5, d6] [] (hp L s c e) (oI L c e (q, s))) : ∀ (d6 : Option ax_V) (z1 : Int) (l2 l3 l4 l5 t0 : Int) (s : Sg) (q : Int), j_168_59 k20 l2 l3 l4 l5 t0 s = some q → RuP 3 tb_m168 59 [some (.inr (.inr (some 74))), some (.inl z1), some (.inl l2), some (.inl l3), some (.inl l4), some (.inl l5), d6] [.inl t0] (hp L s c e) (oI L c e (q, s)) := by
  intro d6 z1 l2 l3 l4 l5 t0 s q h
  unfold j_168_59 at h
  refine RuP.step (pc' := 61) (ls' := [some (.inr (.inr (some 74))), some (.inl z1), some (.inl l2), some (.inl l3), some (.inl l4), some (.inl l5), some (.inl t0)]) (st' := []) (h1 := hp L s c e) rfl ?_
  refine RuP.step (pc' := 63) (ls' := [some (.inr (.inr (some 74))), some (.inl z1), some (.inl l2), some (.inl l3), some (.inl l4), some (.inl l5), some (.inl t0)]) (st' := [.inl t0]) (h1 := hp L s c e) rfl ?_
  by_cases h0 : t0 = 0
  · rw [if_pos h0] at h
    refine RuP.jy rfl h0 ?_
    exact bl_168_90 hk20 _ _ _ _ _ _ _ _ h
  · rw [if_neg h0] at h
    refine RuP.jn rfl h0 ?_
    refine RuP.step (pc' := 67) (ls' := [some (.inr (.inr (some 74))), some (.inl z1), some (.inl l2), some (.inl l3), some (.inl l4), some (.inl l5), some (.inl t0)]) (st' := [.inl l2]) (h1 := hp L s c e) rfl ?_
    refine RuP.step (pc' := 68) (ls' := [some (.inr (.inr (some 74))), some (.inl z1), some (.inl l2), some (.inl l3), some (.inl l4), some (.inl l5), some (.inl t0)]) (st' := [.inl (-1), .inl l2]) (h1 := hp L s c e) rfl ?_
    by_cases h1 : l2 = (-1)
    · rw [if_pos h1] at h
      refine RuP.jy rfl h1 ?_
      exact bl_168_87 hk20 _ _ _ _ _ _ _ _ h
    · rw [if_neg h1] at h
      refine RuP.jn rfl h1 ?_
      refine RuP.step (pc' := 72) (ls' := [some (.inr (.inr (some 74))), some (.inl z1), some (.inl l2), some (.inl l3), some (.inl l4), some (.inl l5), some (.inl t0)]) (st' := [.inr (.inr (some 74))]) (h1 := hp L s c e) rfl ?_
      refine RuP.step (pc' := 75) (ls' := [some (.inr (.inr (some 74))), some (.inl z1), some (.inl l2), some (.inl l3), some (.inl l4), some (.inl l5), some (.inl t0)]) (st' := [.inr (.inr (some 79))]) (h1 := hp L s c e) rfl ?_
      refine RuP.step (pc' := 77) (ls' := [some (.inr (.inr (some 74))), some (.inl z1), some (.inl l2), some (.inl l3), some (.inl l4), some (.inl l5), some (.inl t0)]) (st' := [.inl l5, .inr (.inr (some 79))]) (h1 := hp L s c e) rfl ?_
      obtain ⟨b2, h⟩ := gd_some h
      refine RuP.ald (f := fun t => t == 0) (j := l5) (a := 79) rfl rfl b2.1 b2.2 ?_
      refine RuP.step (pc' := 79) (ls' := [some (.inr (.inr (some 74))), some (.inl z1), some (.inl l2), some (.inl l3), some (.inl l4), some (.inl l5), some (.inl t0)]) (st' := [.inr (.inr (some 74)), .inl (s 79 l5.toNat)]) (h1 := hp L s c e) rfl ?_
      refine RuP.step (pc' := 82) (ls' := [some (.inr (.inr (some 74))), some (.inl z1), some (.inl l2), some (.inl l3), some (.inl l4), some (.inl l5), some (.inl t0)]) (st' := [.inr (.inr (some 79)), .inl (s 79 l5.toNat)]) (h1 := hp L s c e) rfl ?_
      refine RuP.step (pc' := 83) (ls' := [some (.inr (.inr (some 74))), some (.inl z1), some (.inl l2), some (.inl l3), some (.inl l4), some (.inl l5), some (.inl t0)]) (st' := [.inl l2, .inr (.inr (some 79)), .inl (s 79 l5.toNat)]) (h1 := hp L s c e) rfl ?_
      obtain ⟨b3, h⟩ := gd_some h
      refine RuP.ald (f := fun t => t == 0) (j := l2) (a := 79) rfl rfl b3.1 b3.2 ?_
      have J5 : ∀ v4_0 : Int, v4_0 = ((if s 79 l2.toNat ≤ s 79 l5.toNat then l2 else l5) : Int) → RuP 3 tb_m168 90 [some (.inr (.inr (some 74))), some (.inl z1), some (.inl v4_0), some (.inl l3), some (.inl l4), some (.inl l5), some (.inl t0)] [] (hp L s c e) (oI L c e (q, s)) := by
        intro v4_0 ev4_0
        subst ev4_0
        exact bl_168_90 hk20 _ _ _ _ _ _ _ _ h
      by_cases h5 : s 79 l2.toNat ≤ s 79 l5.toNat
      · refine RuP.jy rfl h5 ?_
        exact J5 _ (by simp only [if_pos h5])
      · refine RuP.jn rfl h5 ?_
        refine RuP.step (pc' := 89) (ls' := [some (.inr (.inr (some 74))), some (.inl z1), some (.inl l2), some (.inl l3), some (.inl l4), some (.inl l5), some (.inl t0)]) (st' := [.inl l5]) (h1 := hp L s c e) rfl ?_
        refine RuP.step (pc' := 90) (ls' := [some (.inr (.inr (some 74))), some (.inl z1), some (.inl l5), some (.inl l3), some (.inl l4), some (.inl l5), some (.inl t0)]) (st' := []) (h1 := hp L s c e) rfl ?_
        exact J5 _ (by simp only [if_neg h5])
noncomputable def j_168_58 (k20 : (Int → Int → Int → Sg → Option Int)) (l2 l3 l4 l5 : Int) (s : Sg) : Option Int :=
  j_168_59 k20 l2 l3 l4 l5 0 s
theorem bl_168_58 {L c : Nat} {e : Nat → Nat} {k20 : (Int → Int → Int → Sg → Option Int)} (hk20 : ∀ (d5 d6 : Option ax_V) (z1 : Int) (l2 l3 l4 : Int) (s : Sg) (q : Int), k20 l2 l3 l4 s = some q → RuP 3 tb_m168 20 [some (.inr (.inr (some 74))), some (.inl z1), some (.inl l2), some (.inl l3), some (.inl l4), d5, d6] [] (hp L s c e) (oI L c e (q, s))) : ∀ (d6 : Option ax_V) (z1 : Int) (l2 l3 l4 l5 : Int) (s : Sg) (q : Int), j_168_58 k20 l2 l3 l4 l5 s = some q → RuP 3 tb_m168 58 [some (.inr (.inr (some 74))), some (.inl z1), some (.inl l2), some (.inl l3), some (.inl l4), some (.inl l5), d6] [] (hp L s c e) (oI L c e (q, s)) := by
  intro d6 z1 l2 l3 l4 l5 s q h
  unfold j_168_58 at h
  refine RuP.step (pc' := 59) (ls' := [some (.inr (.inr (some 74))), some (.inl z1), some (.inl l2), some (.inl l3), some (.inl l4), some (.inl l5), d6]) (st' := [.inl 0]) (h1 := hp L s c e) rfl ?_
  exact bl_168_59 hk20 _ _ _ _ _ _ _ _ _ h
noncomputable def j_168_20 : Nat → Int → Int → Int → Sg → Option Int
  | 0, _, _, _, _ => none
  | F + 1, l2, l3, l4, s =>
    (if l3 ≤ l4 then
      some l2
    else
      (gd (g_171 l4 s) (
      (if f_173 (f_171 l4 s) s = 0 then
        j_168_58 (j_168_20 F) l2 l3 l4 (f_171 l4 s) s
      else
        (gd (0 ≤ f_171 l4 s ∧ f_171 l4 s < 1171) (
        j_168_59 (j_168_20 F) l2 l3 l4 (f_171 l4 s) ((if s 79 ((f_171 l4 s).toNat) = (-1) then 0 else 1) : Int) s))))))
theorem bl_168_20 {L c : Nat} {e : Nat → Nat} : ∀ (F : Nat) (d5 d6 : Option ax_V) (z1 : Int) (l2 l3 l4 : Int) (s : Sg) (q : Int), j_168_20 F l2 l3 l4 s = some q → RuP 3 tb_m168 20 [some (.inr (.inr (some 74))), some (.inl z1), some (.inl l2), some (.inl l3), some (.inl l4), d5, d6] [] (hp L s c e) (oI L c e (q, s)) := by
  intro F
  induction F with
  | zero =>
    intro d5 d6 z1 l2 l3 l4 s q h
    rw [j_168_20] at h
    cases h
  | succ F ih =>
    intro d5 d6 z1 l2 l3 l4 s q h
    rw [j_168_20] at h
    refine RuP.step (pc' := 22) (ls' := [some (.inr (.inr (some 74))), some (.inl z1), some (.inl l2), some (.inl l3), some (.inl l4), d5, d6]) (st' := [.inl l4]) (h1 := hp L s c e) rfl ?_
    refine RuP.step (pc' := 23) (ls' := [some (.inr (.inr (some 74))), some (.inl z1), some (.inl l2), some (.inl l3), some (.inl l4), d5, d6]) (st' := [.inl l3, .inl l4]) (h1 := hp L s c e) rfl ?_
    by_cases h0 : l3 ≤ l4
    · rw [if_pos h0] at h
      refine RuP.jy rfl h0 ?_
      refine RuP.step (pc' := 97) (ls' := [some (.inr (.inr (some 74))), some (.inl z1), some (.inl l2), some (.inl l3), some (.inl l4), d5, d6]) (st' := [.inl l2]) (h1 := hp L s c e) rfl ?_
      cases h
      exact RuP.dI rfl
    · rw [if_neg h0] at h
      refine RuP.jn rfl h0 ?_
      refine RuP.step (pc' := 27) (ls' := [some (.inr (.inr (some 74))), some (.inl z1), some (.inl l2), some (.inl l3), some (.inl l4), d5, d6]) (st' := [.inr (.inr (some 74))]) (h1 := hp L s c e) rfl ?_
      refine RuP.step (pc' := 29) (ls' := [some (.inr (.inr (some 74))), some (.inl z1), some (.inl l2), some (.inl l3), some (.inl l4), d5, d6]) (st' := [.inl l4, .inr (.inr (some 74))]) (h1 := hp L s c e) rfl ?_
      obtain ⟨b1, h⟩ := gd_some h
      refine RuP.cI rfl (EvP.i ((ev_171 l4 b1).up (by decide))) ?_
      refine RuP.step (pc' := 34) (ls' := [some (.inr (.inr (some 74))), some (.inl z1), some (.inl l2), some (.inl l3), some (.inl l4), some (.inl (f_171 l4 s)), d6]) (st' := []) (h1 := hp L s c e) rfl ?_
      refine RuP.step (pc' := 35) (ls' := [some (.inr (.inr (some 74))), some (.inl z1), some (.inl l2), some (.inl l3), some (.inl l4), some (.inl (f_171 l4 s)), d6]) (st' := [.inr (.inr (some 74))]) (h1 := hp L s c e) rfl ?_
      refine RuP.step (pc' := 37) (ls' := [some (.inr (.inr (some 74))), some (.inl z1), some (.inl l2), some (.inl l3), some (.inl l4), some (.inl (f_171 l4 s)), d6]) (st' := [.inl (f_171 l4 s), .inr (.inr (some 74))]) (h1 := hp L s c e) rfl ?_
      refine RuP.cI rfl (EvP.i ((ev_173 (f_171 l4 s)).up (by decide))) ?_
      by_cases h2 : f_173 (f_171 l4 s) s = 0
      · rw [if_pos h2] at h
        refine RuP.jy rfl h2 ?_
        exact bl_168_58 ih _ _ _ _ _ _ _ _ h
      · rw [if_neg h2] at h
        refine RuP.jn rfl h2 ?_
        refine RuP.step (pc' := 44) (ls' := [some (.inr (.inr (some 74))), some (.inl z1), some (.inl l2), some (.inl l3), some (.inl l4), some (.inl (f_171 l4 s)), d6]) (st' := [.inr (.inr (some 74))]) (h1 := hp L s c e) rfl ?_
        refine RuP.step (pc' := 47) (ls' := [some (.inr (.inr (some 74))), some (.inl z1), some (.inl l2), some (.inl l3), some (.inl l4), some (.inl (f_171 l4 s)), d6]) (st' := [.inr (.inr (some 79))]) (h1 := hp L s c e) rfl ?_
        refine RuP.step (pc' := 49) (ls' := [some (.inr (.inr (some 74))), some (.inl z1), some (.inl l2), some (.inl l3), some (.inl l4), some (.inl (f_171 l4 s)), d6]) (st' := [.inl (f_171 l4 s), .inr (.inr (some 79))]) (h1 := hp L s c e) rfl ?_
        obtain ⟨b3, h⟩ := gd_some h
        refine RuP.ald (f := fun t => t == 0) (j := f_171 l4 s) (a := 79) rfl rfl b3.1 b3.2 ?_
        refine RuP.step (pc' := 51) (ls' := [some (.inr (.inr (some 74))), some (.inl z1), some (.inl l2), some (.inl l3), some (.inl l4), some (.inl (f_171 l4 s)), d6]) (st' := [.inl (-1), .inl (s 79 ((f_171 l4 s).toNat))]) (h1 := hp L s c e) rfl ?_
        have J5 : ∀ v4_0 : Int, v4_0 = ((if s 79 ((f_171 l4 s).toNat) = (-1) then 0 else 1) : Int) → RuP 3 tb_m168 59 [some (.inr (.inr (some 74))), some (.inl z1), some (.inl l2), some (.inl l3), some (.inl l4), some (.inl (f_171 l4 s)), d6] [.inl v4_0] (hp L s c e) (oI L c e (q, s)) := by
          intro v4_0 ev4_0
          subst ev4_0
          exact bl_168_59 ih _ _ _ _ _ _ _ _ _ h
        by_cases h5 : s 79 ((f_171 l4 s).toNat) = (-1)
        · refine RuP.jy rfl h5 ?_
          refine RuP.step (pc' := 59) (ls' := [some (.inr (.inr (some 74))), some (.inl z1), some (.inl l2), some (.inl l3), some (.inl l4), some (.inl (f_171 l4 s)), d6]) (st' := [.inl 0]) (h1 := hp L s c e) rfl ?_
          exact J5 _ (by simp only [if_pos h5])
        · refine RuP.jn rfl h5 ?_
          refine RuP.step (pc' := 55) (ls' := [some (.inr (.inr (some 74))), some (.inl z1), some (.inl l2), some (.inl l3), some (.inl l4), some (.inl (f_171 l4 s)), d6]) (st' := [.inl 1]) (h1 := hp L s c e) rfl ?_
          refine RuP.step (pc' := 59) (ls' := [some (.inr (.inr (some 74))), some (.inl z1), some (.inl l2), some (.inl l3), some (.inl l4), some (.inl (f_171 l4 s)), d6]) (st' := [.inl 1]) (h1 := hp L s c e) rfl ?_
          exact J5 _ (by simp only [if_neg h5])
noncomputable def f_168 (x0 : Int) (s : Sg) : Option Int :=
  ((f_170 x0 s).bind fun q1 =>
  (gd (g_187 x0 s) (
  j_168_20 FU (-1) q1 (ax_w32 ((f_187 x0 s) + 1)) s)))
theorem ev_168 {L c : Nat} {e : Nat → Nat} {s : Sg} {x0 : Int} {q : Int} (h : f_168 x0 s = some q) : EvP 4 168 [.inr (.inr (some 74)), .inl x0] (hp L s c e) (oI L c e (q, s)) := by
  unfold f_168 at h
  refine EvP.of (μ := tb_m168) (ls := [some (.inr (.inr (some 74))), some (.inl x0), none, none, none, none, none]) rfl (Nat.le_of_ble_eq_true rfl) rfl ?_
  refine RuP.step (pc' := 1) (ls' := [some (.inr (.inr (some 74))), some (.inl x0), none, none, none, none, none]) (st' := [.inl (-1)]) (h1 := hp L s c e) rfl ?_
  refine RuP.step (pc' := 2) (ls' := [some (.inr (.inr (some 74))), some (.inl x0), some (.inl (-1)), none, none, none, none]) (st' := []) (h1 := hp L s c e) rfl ?_
  refine RuP.step (pc' := 3) (ls' := [some (.inr (.inr (some 74))), some (.inl x0), some (.inl (-1)), none, none, none, none]) (st' := [.inr (.inr (some 74))]) (h1 := hp L s c e) rfl ?_
  refine RuP.step (pc' := 4) (ls' := [some (.inr (.inr (some 74))), some (.inl x0), some (.inl (-1)), none, none, none, none]) (st' := [.inl x0, .inr (.inr (some 74))]) (h1 := hp L s c e) rfl ?_
  obtain ⟨q1, h1, h⟩ := bd_some h
  refine RuP.cI rfl ((ev_170 h1).up (by decide)) ?_
  refine RuP.step (pc' := 8) (ls' := [some (.inr (.inr (some 74))), some (.inl x0), some (.inl (-1)), some (.inl q1), none, none, none]) (st' := []) (h1 := hp L s c e) rfl ?_
  refine RuP.step (pc' := 9) (ls' := [some (.inr (.inr (some 74))), some (.inl x0), some (.inl (-1)), some (.inl q1), none, none, none]) (st' := [.inr (.inr (some 74))]) (h1 := hp L s c e) rfl ?_
  refine RuP.step (pc' := 12) (ls' := [some (.inr (.inr (some 74))), some (.inl x0), some (.inl (-1)), some (.inl q1), none, none, none]) (st' := [.inr (.inr (some 54))]) (h1 := hp L s c e) rfl ?_
  refine RuP.step (pc' := 13) (ls' := [some (.inr (.inr (some 74))), some (.inl x0), some (.inl (-1)), some (.inl q1), none, none, none]) (st' := [.inl x0, .inr (.inr (some 54))]) (h1 := hp L s c e) rfl ?_
  obtain ⟨b0, h⟩ := gd_some h
  refine RuP.cI rfl (EvP.i ((ev_187 x0 b0).up (by decide))) ?_
  refine RuP.step (pc' := 17) (ls' := [some (.inr (.inr (some 74))), some (.inl x0), some (.inl (-1)), some (.inl q1), none, none, none]) (st' := [.inl 1, .inl (f_187 x0 s)]) (h1 := hp L s c e) rfl ?_
  refine RuP.step (pc' := 18) (ls' := [some (.inr (.inr (some 74))), some (.inl x0), some (.inl (-1)), some (.inl q1), none, none, none]) (st' := [.inl (ax_w32 ((f_187 x0 s) + 1))]) (h1 := hp L s c e) rfl ?_
  refine RuP.step (pc' := 20) (ls' := [some (.inr (.inr (some 74))), some (.inl x0), some (.inl (-1)), some (.inl q1), some (.inl (ax_w32 ((f_187 x0 s) + 1))), none, none]) (st' := []) (h1 := hp L s c e) rfl ?_
  exact bl_168_20 FU _ _ _ _ _ _ _ _ h
/-- MachineText$Rings.trace(I)V -/
noncomputable def j_169_4 : Nat → Int → Int → Int → Sg → Option Sg
  | 0, _, _, _, _ => none
  | F + 1, l1, l2, l3, s =>
    (if 1171 ≤ l3 then
      some s
    else
      (gd (g_187 l2 s) (
      (gd (g_80 (f_187 l2 s) s) (
      (gd (0 ≤ l3 ∧ l3 < 1171) (
      ((f_168 l2 (ax_u2 (ax_u2 s 81 l3.toNat (f_80 (f_187 l2 s) s)) 74 13 (ax_w32 (l3 + 1)))).bind fun q1 =>
      (if q1 = l1 then
        some (ax_u2 (ax_u2 s 81 l3.toNat (f_80 (f_187 l2 s) s)) 74 13 (ax_w32 (l3 + 1)))
      else
        (if ¬ q1 = (-1) then
          (j_169_4 F) l1 q1 (ax_w32 (l3 + 1)) (ax_u2 (ax_u2 s 81 l3.toNat (f_80 (f_187 l2 s) s)) 74 13 (ax_w32 (l3 + 1)))
        else
          some (ax_u2 (ax_u2 s 81 l3.toNat (f_80 (f_187 l2 s) s)) 74 13 (ax_w32 (l3 + 1)))))))))))))
theorem bl_169_4 {L c : Nat} {e : Nat → Nat} : ∀ (F : Nat) (l1 l2 l3 : Int) (s : Sg) (q : Sg), j_169_4 F l1 l2 l3 s = some q → RuP 4 tb_m169 4 [some (.inr (.inr (some 74))), some (.inl l1), some (.inl l2), some (.inl l3)] [] (hp L s c e) (oV L c e q) := by
  intro F
  induction F with
  | zero =>
    intro l1 l2 l3 s q h
    rw [j_169_4] at h
    cases h
  | succ F ih =>
    intro l1 l2 l3 s q h
    rw [j_169_4] at h
    refine RuP.step (pc' := 5) (ls' := [some (.inr (.inr (some 74))), some (.inl l1), some (.inl l2), some (.inl l3)]) (st' := [.inl l3]) (h1 := hp L s c e) rfl ?_
    refine RuP.step (pc' := 8) (ls' := [some (.inr (.inr (some 74))), some (.inl l1), some (.inl l2), some (.inl l3)]) (st' := [.inl 1171, .inl l3]) (h1 := hp L s c e) rfl ?_
    by_cases h0 : 1171 ≤ l3
    · rw [if_pos h0] at h
      refine RuP.jy rfl h0 ?_
      cases h
      exact RuP.dV rfl
    · rw [if_neg h0] at h
      refine RuP.jn rfl h0 ?_
      refine RuP.step (pc' := 12) (ls' := [some (.inr (.inr (some 74))), some (.inl l1), some (.inl l2), some (.inl l3)]) (st' := [.inr (.inr (some 74))]) (h1 := hp L s c e) rfl ?_
      refine RuP.step (pc' := 15) (ls' := [some (.inr (.inr (some 74))), some (.inl l1), some (.inl l2), some (.inl l3)]) (st' := [.inr (.inr (some 81))]) (h1 := hp L s c e) rfl ?_
      refine RuP.step (pc' := 16) (ls' := [some (.inr (.inr (some 74))), some (.inl l1), some (.inl l2), some (.inl l3)]) (st' := [.inl l3, .inr (.inr (some 81))]) (h1 := hp L s c e) rfl ?_
      refine RuP.step (pc' := 17) (ls' := [some (.inr (.inr (some 74))), some (.inl l1), some (.inl l2), some (.inl l3)]) (st' := [.inr (.inr (some 74)), .inl l3, .inr (.inr (some 81))]) (h1 := hp L s c e) rfl ?_
      refine RuP.step (pc' := 20) (ls' := [some (.inr (.inr (some 74))), some (.inl l1), some (.inl l2), some (.inl l3)]) (st' := [.inr (.inr (some 39)), .inl l3, .inr (.inr (some 81))]) (h1 := hp L s c e) rfl ?_
      refine RuP.step (pc' := 21) (ls' := [some (.inr (.inr (some 74))), some (.inl l1), some (.inl l2), some (.inl l3)]) (st' := [.inr (.inr (some 74)), .inr (.inr (some 39)), .inl l3, .inr (.inr (some 81))]) (h1 := hp L s c e) rfl ?_
      refine RuP.step (pc' := 24) (ls' := [some (.inr (.inr (some 74))), some (.inl l1), some (.inl l2), some (.inl l3)]) (st' := [.inr (.inr (some 54)), .inr (.inr (some 39)), .inl l3, .inr (.inr (some 81))]) (h1 := hp L s c e) rfl ?_
      refine RuP.step (pc' := 25) (ls' := [some (.inr (.inr (some 74))), some (.inl l1), some (.inl l2), some (.inl l3)]) (st' := [.inl l2, .inr (.inr (some 54)), .inr (.inr (some 39)), .inl l3, .inr (.inr (some 81))]) (h1 := hp L s c e) rfl ?_
      obtain ⟨b1, h⟩ := gd_some h
      refine RuP.cI rfl (EvP.i ((ev_187 l2 b1).up (by decide))) ?_
      obtain ⟨b2, h⟩ := gd_some h
      refine RuP.cI rfl (EvP.i ((ev_80 (f_187 l2 s) b2).up (by decide))) ?_
      obtain ⟨b3, h⟩ := gd_some h
      refine RuP.ast (f := fun t => t == 0) (j := l3) (a := 81) rfl rfl (by decide) rfl rfl b3.1 b3.2 ?_
      refine RuP.step (pc' := 33) (ls' := [some (.inr (.inr (some 74))), some (.inl l1), some (.inl l2), some (.inl l3)]) (st' := [.inr (.inr (some 74))]) (h1 := hp L (ax_u2 s 81 l3.toNat (f_80 (f_187 l2 s) s)) c e) rfl ?_
      refine RuP.step (pc' := 34) (ls' := [some (.inr (.inr (some 74))), some (.inl l1), some (.inl l2), some (.inl l3)]) (st' := [.inl l3, .inr (.inr (some 74))]) (h1 := hp L (ax_u2 s 81 l3.toNat (f_80 (f_187 l2 s) s)) c e) rfl ?_
      refine RuP.step (pc' := 35) (ls' := [some (.inr (.inr (some 74))), some (.inl l1), some (.inl l2), some (.inl l3)]) (st' := [.inl 1, .inl l3, .inr (.inr (some 74))]) (h1 := hp L (ax_u2 s 81 l3.toNat (f_80 (f_187 l2 s) s)) c e) rfl ?_
      refine RuP.step (pc' := 36) (ls' := [some (.inr (.inr (some 74))), some (.inl l1), some (.inl l2), some (.inl l3)]) (st' := [.inl (ax_w32 (l3 + 1)), .inr (.inr (some 74))]) (h1 := hp L (ax_u2 s 81 l3.toNat (f_80 (f_187 l2 s) s)) c e) rfl ?_
      refine RuP.step (pc' := 39) (ls' := [some (.inr (.inr (some 74))), some (.inl l1), some (.inl l2), some (.inl l3)]) (st' := []) (h1 := hp L (ax_u2 (ax_u2 s 81 l3.toNat (f_80 (f_187 l2 s) s)) 74 13 (ax_w32 (l3 + 1))) c e) rfl ?_
      refine RuP.step (pc' := 40) (ls' := [some (.inr (.inr (some 74))), some (.inl l1), some (.inl l2), some (.inl l3)]) (st' := [.inr (.inr (some 74))]) (h1 := hp L (ax_u2 (ax_u2 s 81 l3.toNat (f_80 (f_187 l2 s) s)) 74 13 (ax_w32 (l3 + 1))) c e) rfl ?_
      refine RuP.step (pc' := 41) (ls' := [some (.inr (.inr (some 74))), some (.inl l1), some (.inl l2), some (.inl l3)]) (st' := [.inl l2, .inr (.inr (some 74))]) (h1 := hp L (ax_u2 (ax_u2 s 81 l3.toNat (f_80 (f_187 l2 s) s)) 74 13 (ax_w32 (l3 + 1))) c e) rfl ?_
      obtain ⟨q1, h1, h⟩ := bd_some h
      refine RuP.cI rfl ((ev_168 h1).up (by decide)) ?_
      refine RuP.step (pc' := 45) (ls' := [some (.inr (.inr (some 74))), some (.inl l1), some (.inl q1), some (.inl l3)]) (st' := []) (h1 := hp L (ax_u2 (ax_u2 s 81 l3.toNat (f_80 (f_187 l2 s) s)) 74 13 (ax_w32 (l3 + 1))) c e) rfl ?_
      refine RuP.step (pc' := 46) (ls' := [some (.inr (.inr (some 74))), some (.inl l1), some (.inl q1), some (.inl l3)]) (st' := [.inl q1]) (h1 := hp L (ax_u2 (ax_u2 s 81 l3.toNat (f_80 (f_187 l2 s) s)) 74 13 (ax_w32 (l3 + 1))) c e) rfl ?_
      refine RuP.step (pc' := 47) (ls' := [some (.inr (.inr (some 74))), some (.inl l1), some (.inl q1), some (.inl l3)]) (st' := [.inl l1, .inl q1]) (h1 := hp L (ax_u2 (ax_u2 s 81 l3.toNat (f_80 (f_187 l2 s) s)) 74 13 (ax_w32 (l3 + 1))) c e) rfl ?_
      by_cases h4 : q1 = l1
      · rw [if_pos h4] at h
        refine RuP.jy rfl h4 ?_
        cases h
        exact RuP.dV rfl
      · rw [if_neg h4] at h
        refine RuP.jn rfl h4 ?_
        refine RuP.step (pc' := 51) (ls' := [some (.inr (.inr (some 74))), some (.inl l1), some (.inl q1), some (.inl l3)]) (st' := [.inl q1]) (h1 := hp L (ax_u2 (ax_u2 s 81 l3.toNat (f_80 (f_187 l2 s) s)) 74 13 (ax_w32 (l3 + 1))) c e) rfl ?_
        refine RuP.step (pc' := 52) (ls' := [some (.inr (.inr (some 74))), some (.inl l1), some (.inl q1), some (.inl l3)]) (st' := [.inl (-1), .inl q1]) (h1 := hp L (ax_u2 (ax_u2 s 81 l3.toNat (f_80 (f_187 l2 s) s)) 74 13 (ax_w32 (l3 + 1))) c e) rfl ?_
        by_cases h5 : ¬ q1 = (-1)
        · rw [if_pos h5] at h
          refine RuP.jy rfl h5 ?_
          refine RuP.step (pc' := 59) (ls' := [some (.inr (.inr (some 74))), some (.inl l1), some (.inl q1), some (.inl (ax_w32 (l3 + 1)))]) (st' := []) (h1 := hp L (ax_u2 (ax_u2 s 81 l3.toNat (f_80 (f_187 l2 s) s)) 74 13 (ax_w32 (l3 + 1))) c e) rfl ?_
          refine RuP.step (pc' := 4) (ls' := [some (.inr (.inr (some 74))), some (.inl l1), some (.inl q1), some (.inl (ax_w32 (l3 + 1)))]) (st' := []) (h1 := hp L (ax_u2 (ax_u2 s 81 l3.toNat (f_80 (f_187 l2 s) s)) 74 13 (ax_w32 (l3 + 1))) c e) rfl ?_
          exact ih _ _ _ _ _ h
        · rw [if_neg h5] at h
          refine RuP.jn rfl h5 ?_
          cases h
          exact RuP.dV rfl
noncomputable def f_169 (x0 : Int) (s : Sg) : Option Sg :=
  j_169_4 FU x0 x0 0 s
theorem ev_169 {L c : Nat} {e : Nat → Nat} {s : Sg} {x0 : Int} {q : Sg} (h : f_169 x0 s = some q) : EvP 5 169 [.inr (.inr (some 74)), .inl x0] (hp L s c e) (oV L c e q) := by
  unfold f_169 at h
  refine EvP.of (μ := tb_m169) (ls := [some (.inr (.inr (some 74))), some (.inl x0), none, none]) rfl (Nat.le_of_ble_eq_true rfl) rfl ?_
  refine RuP.step (pc' := 1) (ls' := [some (.inr (.inr (some 74))), some (.inl x0), none, none]) (st' := [.inl x0]) (h1 := hp L s c e) rfl ?_
  refine RuP.step (pc' := 2) (ls' := [some (.inr (.inr (some 74))), some (.inl x0), some (.inl x0), none]) (st' := []) (h1 := hp L s c e) rfl ?_
  refine RuP.step (pc' := 3) (ls' := [some (.inr (.inr (some 74))), some (.inl x0), some (.inl x0), none]) (st' := [.inl 0]) (h1 := hp L s c e) rfl ?_
  refine RuP.step (pc' := 4) (ls' := [some (.inr (.inr (some 74))), some (.inl x0), some (.inl x0), some (.inl 0)]) (st' := []) (h1 := hp L s c e) rfl ?_
  exact bl_169_4 FU _ _ _ _ _ h
/-- MachineTextModel.value(I)J -/
noncomputable def j_218_26 : Nat → Int → Int → Int → Int → Sg → Option Int
  | 0, _, _, _, _, _ => none
  | F + 1, l1, l2, l3, l5, s =>
    (gd (0 ≤ l1 ∧ l1 < 8200) (
    (if s 90 l1.toNat ≤ l5 then
      some l3
    else
      (gd (0 ≤ l5 ∧ l5 < 8192) (
      (j_218_26 F) l1 l2 ((if ax_cmp ((if l2 = 0 then ax_w64 ((ax_w64 ((ax_w64 (10 * l3)) + (s 86 l5.toNat))) - 48) else (if f_226 (s 86 l5.toNat) s = 0 then ax_w64 ((ax_w64 (16 * l3)) + (ax_w32 ((s 86 l5.toNat) - 87))) else ax_w64 ((ax_w64 (16 * l3)) + (ax_w32 ((s 86 l5.toNat) - 48))))) : Int) 1099511627776 ≤ 0 then ((if l2 = 0 then ax_w64 ((ax_w64 ((ax_w64 (10 * l3)) + (s 86 l5.toNat))) - 48) else (if f_226 (s 86 l5.toNat) s = 0 then ax_w64 ((ax_w64 (16 * l3)) + (ax_w32 ((s 86 l5.toNat) - 87))) else ax_w64 ((ax_w64 (16 * l3)) + (ax_w32 ((s 86 l5.toNat) - 48))))) : Int) else 1099511627776) : Int) (ax_w32 (l5 + 1)) s)))))
theorem bl_218_26 {L c : Nat} {e : Nat → Nat} : ∀ (F : Nat) (d6 : Option ax_V) (l1 l2 l3 l5 : Int) (s : Sg) (q : Int), j_218_26 F l1 l2 l3 l5 s = some q → RuP 2 tb_m218 26 [some (.inr (.inr (some 84))), some (.inl l1), some (.inl l2), some (.inr (.inl l3)), none, some (.inl l5), d6] [] (hp L s c e) (oJ L c e (q, s)) := by
  intro F
  induction F with
  | zero =>
    intro d6 l1 l2 l3 l5 s q h
    rw [j_218_26] at h
    cases h
  | succ F ih =>
    intro d6 l1 l2 l3 l5 s q h
    rw [j_218_26] at h
    refine RuP.step (pc' := 28) (ls' := [some (.inr (.inr (some 84))), some (.inl l1), some (.inl l2), some (.inr (.inl l3)), none, some (.inl l5), d6]) (st' := [.inl l5]) (h1 := hp L s c e) rfl ?_
    refine RuP.step (pc' := 29) (ls' := [some (.inr (.inr (some 84))), some (.inl l1), some (.inl l2), some (.inr (.inl l3)), none, some (.inl l5), d6]) (st' := [.inr (.inr (some 84)), .inl l5]) (h1 := hp L s c e) rfl ?_
    refine RuP.step (pc' := 32) (ls' := [some (.inr (.inr (some 84))), some (.inl l1), some (.inl l2), some (.inr (.inl l3)), none, some (.inl l5), d6]) (st' := [.inr (.inr (some 90)), .inl l5]) (h1 := hp L s c e) rfl ?_
    refine RuP.step (pc' := 33) (ls' := [some (.inr (.inr (some 84))), some (.inl l1), some (.inl l2), some (.inr (.inl l3)), none, some (.inl l5), d6]) (st' := [.inl l1, .inr (.inr (some 90)), .inl l5]) (h1 := hp L s c e) rfl ?_
    obtain ⟨b0, h⟩ := gd_some h
    refine RuP.ald (f := fun t => t == 0) (j := l1) (a := 90) rfl rfl b0.1 b0.2 ?_
    by_cases h1 : s 90 l1.toNat ≤ l5
    · rw [if_pos h1] at h
      refine RuP.jy rfl h1 ?_
      refine RuP.step (pc' := 114) (ls' := [some (.inr (.inr (some 84))), some (.inl l1), some (.inl l2), some (.inr (.inl l3)), none, some (.inl l5), d6]) (st' := [.inr (.inl l3)]) (h1 := hp L s c e) rfl ?_
      cases h
      exact RuP.dJ rfl
    · rw [if_neg h1] at h
      refine RuP.jn rfl h1 ?_
      refine RuP.step (pc' := 38) (ls' := [some (.inr (.inr (some 84))), some (.inl l1), some (.inl l2), some (.inr (.inl l3)), none, some (.inl l5), d6]) (st' := [.inr (.inr (some 84))]) (h1 := hp L s c e) rfl ?_
      refine RuP.step (pc' := 41) (ls' := [some (.inr (.inr (some 84))), some (.inl l1), some (.inl l2), some (.inr (.inl l3)), none, some (.inl l5), d6]) (st' := [.inr (.inr (some 86))]) (h1 := hp L s c e) rfl ?_
      refine RuP.step (pc' := 43) (ls' := [some (.inr (.inr (some 84))), some (.inl l1), some (.inl l2), some (.inr (.inl l3)), none, some (.inl l5), d6]) (st' := [.inl l5, .inr (.inr (some 86))]) (h1 := hp L s c e) rfl ?_
      obtain ⟨b2, h⟩ := gd_some h
      refine RuP.ald (f := fun t => t == 0) (j := l5) (a := 86) rfl rfl b2.1 b2.2 ?_
      refine RuP.step (pc' := 46) (ls' := [some (.inr (.inr (some 84))), some (.inl l1), some (.inl l2), some (.inr (.inl l3)), none, some (.inl l5), some (.inl (s 86 l5.toNat))]) (st' := []) (h1 := hp L s c e) rfl ?_
      refine RuP.step (pc' := 47) (ls' := [some (.inr (.inr (some 84))), some (.inl l1), some (.inl l2), some (.inr (.inl l3)), none, some (.inl l5), some (.inl (s 86 l5.toNat))]) (st' := [.inl l2]) (h1 := hp L s c e) rfl ?_
      have J4 : ∀ v3_0 : Int, v3_0 = ((if l2 = 0 then ax_w64 ((ax_w64 ((ax_w64 (10 * l3)) + (s 86 l5.toNat))) - 48) else (if f_226 (s 86 l5.toNat) s = 0 then ax_w64 ((ax_w64 (16 * l3)) + (ax_w32 ((s 86 l5.toNat) - 87))) else ax_w64 ((ax_w64 (16 * l3)) + (ax_w32 ((s 86 l5.toNat) - 48))))) : Int) → RuP 2 tb_m218 94 [some (.inr (.inr (some 84))), some (.inl l1), some (.inl l2), some (.inr (.inl l3)), none, some (.inl l5), some (.inl (s 86 l5.toNat))] [.inr (.inl v3_0)] (hp L s c e) (oJ L c e (q, s)) := by
        intro v3_0 ev3_0
        subst ev3_0
        refine RuP.step (pc' := 95) (ls' := [some (.inr (.inr (some 84))), some (.inl l1), some (.inl l2), some (.inr (.inl ((if l2 = 0 then ax_w64 ((ax_w64 ((ax_w64 (10 * l3)) + (s 86 l5.toNat))) - 48) else (if f_226 (s 86 l5.toNat) s = 0 then ax_w64 ((ax_w64 (16 * l3)) + (ax_w32 ((s 86 l5.toNat) - 87))) else ax_w64 ((ax_w64 (16 * l3)) + (ax_w32 ((s 86 l5.toNat) - 48))))) : Int))), none, some (.inl l5), some (.inl (s 86 l5.toNat))]) (st' := []) (h1 := hp L s c e) rfl ?_
        refine RuP.step (pc' := 96) (ls' := [some (.inr (.inr (some 84))), some (.inl l1), some (.inl l2), some (.inr (.inl ((if l2 = 0 then ax_w64 ((ax_w64 ((ax_w64 (10 * l3)) + (s 86 l5.toNat))) - 48) else (if f_226 (s 86 l5.toNat) s = 0 then ax_w64 ((ax_w64 (16 * l3)) + (ax_w32 ((s 86 l5.toNat) - 87))) else ax_w64 ((ax_w64 (16 * l3)) + (ax_w32 ((s 86 l5.toNat) - 48))))) : Int))), none, some (.inl l5), some (.inl (s 86 l5.toNat))]) (st' := [.inr (.inl ((if l2 = 0 then ax_w64 ((ax_w64 ((ax_w64 (10 * l3)) + (s 86 l5.toNat))) - 48) else (if f_226 (s 86 l5.toNat) s = 0 then ax_w64 ((ax_w64 (16 * l3)) + (ax_w32 ((s 86 l5.toNat) - 87))) else ax_w64 ((ax_w64 (16 * l3)) + (ax_w32 ((s 86 l5.toNat) - 48))))) : Int))]) (h1 := hp L s c e) rfl ?_
        refine RuP.step (pc' := 99) (ls' := [some (.inr (.inr (some 84))), some (.inl l1), some (.inl l2), some (.inr (.inl ((if l2 = 0 then ax_w64 ((ax_w64 ((ax_w64 (10 * l3)) + (s 86 l5.toNat))) - 48) else (if f_226 (s 86 l5.toNat) s = 0 then ax_w64 ((ax_w64 (16 * l3)) + (ax_w32 ((s 86 l5.toNat) - 87))) else ax_w64 ((ax_w64 (16 * l3)) + (ax_w32 ((s 86 l5.toNat) - 48))))) : Int))), none, some (.inl l5), some (.inl (s 86 l5.toNat))]) (st' := [.inr (.inl 1099511627776), .inr (.inl ((if l2 = 0 then ax_w64 ((ax_w64 ((ax_w64 (10 * l3)) + (s 86 l5.toNat))) - 48) else (if f_226 (s 86 l5.toNat) s = 0 then ax_w64 ((ax_w64 (16 * l3)) + (ax_w32 ((s 86 l5.toNat) - 87))) else ax_w64 ((ax_w64 (16 * l3)) + (ax_w32 ((s 86 l5.toNat) - 48))))) : Int))]) (h1 := hp L s c e) rfl ?_
        refine RuP.step (pc' := 100) (ls' := [some (.inr (.inr (some 84))), some (.inl l1), some (.inl l2), some (.inr (.inl ((if l2 = 0 then ax_w64 ((ax_w64 ((ax_w64 (10 * l3)) + (s 86 l5.toNat))) - 48) else (if f_226 (s 86 l5.toNat) s = 0 then ax_w64 ((ax_w64 (16 * l3)) + (ax_w32 ((s 86 l5.toNat) - 87))) else ax_w64 ((ax_w64 (16 * l3)) + (ax_w32 ((s 86 l5.toNat) - 48))))) : Int))), none, some (.inl l5), some (.inl (s 86 l5.toNat))]) (st' := [.inl (ax_cmp ((if l2 = 0 then ax_w64 ((ax_w64 ((ax_w64 (10 * l3)) + (s 86 l5.toNat))) - 48) else (if f_226 (s 86 l5.toNat) s = 0 then ax_w64 ((ax_w64 (16 * l3)) + (ax_w32 ((s 86 l5.toNat) - 87))) else ax_w64 ((ax_w64 (16 * l3)) + (ax_w32 ((s 86 l5.toNat) - 48))))) : Int) 1099511627776)]) (h1 := hp L s c e) rfl ?_
        have J5 : ∀ v4_0 : Int, v4_0 = ((if ax_cmp ((if l2 = 0 then ax_w64 ((ax_w64 ((ax_w64 (10 * l3)) + (s 86 l5.toNat))) - 48) else (if f_226 (s 86 l5.toNat) s = 0 then ax_w64 ((ax_w64 (16 * l3)) + (ax_w32 ((s 86 l5.toNat) - 87))) else ax_w64 ((ax_w64 (16 * l3)) + (ax_w32 ((s 86 l5.toNat) - 48))))) : Int) 1099511627776 ≤ 0 then ((if l2 = 0 then ax_w64 ((ax_w64 ((ax_w64 (10 * l3)) + (s 86 l5.toNat))) - 48) else (if f_226 (s 86 l5.toNat) s = 0 then ax_w64 ((ax_w64 (16 * l3)) + (ax_w32 ((s 86 l5.toNat) - 87))) else ax_w64 ((ax_w64 (16 * l3)) + (ax_w32 ((s 86 l5.toNat) - 48))))) : Int) else 1099511627776) : Int) → RuP 2 tb_m218 107 [some (.inr (.inr (some 84))), some (.inl l1), some (.inl l2), some (.inr (.inl v4_0)), none, some (.inl l5), some (.inl (s 86 l5.toNat))] [] (hp L s c e) (oJ L c e (q, s)) := by
          intro v4_0 ev4_0
          subst ev4_0
          refine RuP.step (pc' := 110) (ls' := [some (.inr (.inr (some 84))), some (.inl l1), some (.inl l2), some (.inr (.inl ((if ax_cmp ((if l2 = 0 then ax_w64 ((ax_w64 ((ax_w64 (10 * l3)) + (s 86 l5.toNat))) - 48) else (if f_226 (s 86 l5.toNat) s = 0 then ax_w64 ((ax_w64 (16 * l3)) + (ax_w32 ((s 86 l5.toNat) - 87))) else ax_w64 ((ax_w64 (16 * l3)) + (ax_w32 ((s 86 l5.toNat) - 48))))) : Int) 1099511627776 ≤ 0 then ((if l2 = 0 then ax_w64 ((ax_w64 ((ax_w64 (10 * l3)) + (s 86 l5.toNat))) - 48) else (if f_226 (s 86 l5.toNat) s = 0 then ax_w64 ((ax_w64 (16 * l3)) + (ax_w32 ((s 86 l5.toNat) - 87))) else ax_w64 ((ax_w64 (16 * l3)) + (ax_w32 ((s 86 l5.toNat) - 48))))) : Int) else 1099511627776) : Int))), none, some (.inl (ax_w32 (l5 + 1))), some (.inl (s 86 l5.toNat))]) (st' := []) (h1 := hp L s c e) rfl ?_
          refine RuP.step (pc' := 26) (ls' := [some (.inr (.inr (some 84))), some (.inl l1), some (.inl l2), some (.inr (.inl ((if ax_cmp ((if l2 = 0 then ax_w64 ((ax_w64 ((ax_w64 (10 * l3)) + (s 86 l5.toNat))) - 48) else (if f_226 (s 86 l5.toNat) s = 0 then ax_w64 ((ax_w64 (16 * l3)) + (ax_w32 ((s 86 l5.toNat) - 87))) else ax_w64 ((ax_w64 (16 * l3)) + (ax_w32 ((s 86 l5.toNat) - 48))))) : Int) 1099511627776 ≤ 0 then ((if l2 = 0 then ax_w64 ((ax_w64 ((ax_w64 (10 * l3)) + (s 86 l5.toNat))) - 48) else (if f_226 (s 86 l5.toNat) s = 0 then ax_w64 ((ax_w64 (16 * l3)) + (ax_w32 ((s 86 l5.toNat) - 87))) else ax_w64 ((ax_w64 (16 * l3)) + (ax_w32 ((s 86 l5.toNat) - 48))))) : Int) else 1099511627776) : Int))), none, some (.inl (ax_w32 (l5 + 1))), some (.inl (s 86 l5.toNat))]) (st' := []) (h1 := hp L s c e) rfl ?_
          exact ih _ _ _ _ _ _ _ h
        by_cases h5 : ax_cmp ((if l2 = 0 then ax_w64 ((ax_w64 ((ax_w64 (10 * l3)) + (s 86 l5.toNat))) - 48) else (if f_226 (s 86 l5.toNat) s = 0 then ax_w64 ((ax_w64 (16 * l3)) + (ax_w32 ((s 86 l5.toNat) - 87))) else ax_w64 ((ax_w64 (16 * l3)) + (ax_w32 ((s 86 l5.toNat) - 48))))) : Int) 1099511627776 ≤ 0
        · refine RuP.jy rfl h5 ?_
          exact J5 _ (by simp only [if_pos h5])
        · refine RuP.jn rfl h5 ?_
          refine RuP.step (pc' := 106) (ls' := [some (.inr (.inr (some 84))), some (.inl l1), some (.inl l2), some (.inr (.inl ((if l2 = 0 then ax_w64 ((ax_w64 ((ax_w64 (10 * l3)) + (s 86 l5.toNat))) - 48) else (if f_226 (s 86 l5.toNat) s = 0 then ax_w64 ((ax_w64 (16 * l3)) + (ax_w32 ((s 86 l5.toNat) - 87))) else ax_w64 ((ax_w64 (16 * l3)) + (ax_w32 ((s 86 l5.toNat) - 48))))) : Int))), none, some (.inl l5), some (.inl (s 86 l5.toNat))]) (st' := [.inr (.inl 1099511627776)]) (h1 := hp L s c e) rfl ?_
          refine RuP.step (pc' := 107) (ls' := [some (.inr (.inr (some 84))), some (.inl l1), some (.inl l2), some (.inr (.inl 1099511627776)), none, some (.inl l5), some (.inl (s 86 l5.toNat))]) (st' := []) (h1 := hp L s c e) rfl ?_
          exact J5 _ (by simp only [if_neg h5])
      by_cases h6 : l2 = 0
      · refine RuP.jy rfl h6 ?_
        refine RuP.step (pc' := 84) (ls' := [some (.inr (.inr (some 84))), some (.inl l1), some (.inl l2), some (.inr (.inl l3)), none, some (.inl l5), some (.inl (s 86 l5.toNat))]) (st' := [.inr (.inl 10)]) (h1 := hp L s c e) rfl ?_
        refine RuP.step (pc' := 85) (ls' := [some (.inr (.inr (some 84))), some (.inl l1), some (.inl l2), some (.inr (.inl l3)), none, some (.inl l5), some (.inl (s 86 l5.toNat))]) (st' := [.inr (.inl l3), .inr (.inl 10)]) (h1 := hp L s c e) rfl ?_
        refine RuP.step (pc' := 86) (ls' := [some (.inr (.inr (some 84))), some (.inl l1), some (.inl l2), some (.inr (.inl l3)), none, some (.inl l5), some (.inl (s 86 l5.toNat))]) (st' := [.inr (.inl (ax_w64 (10 * l3)))]) (h1 := hp L s c e) rfl ?_
        refine RuP.step (pc' := 88) (ls' := [some (.inr (.inr (some 84))), some (.inl l1), some (.inl l2), some (.inr (.inl l3)), none, some (.inl l5), some (.inl (s 86 l5.toNat))]) (st' := [.inl (s 86 l5.toNat), .inr (.inl (ax_w64 (10 * l3)))]) (h1 := hp L s c e) rfl ?_
        refine RuP.step (pc' := 89) (ls' := [some (.inr (.inr (some 84))), some (.inl l1), some (.inl l2), some (.inr (.inl l3)), none, some (.inl l5), some (.inl (s 86 l5.toNat))]) (st' := [.inr (.inl (s 86 l5.toNat)), .inr (.inl (ax_w64 (10 * l3)))]) (h1 := hp L s c e) rfl ?_
        refine RuP.step (pc' := 90) (ls' := [some (.inr (.inr (some 84))), some (.inl l1), some (.inl l2), some (.inr (.inl l3)), none, some (.inl l5), some (.inl (s 86 l5.toNat))]) (st' := [.inr (.inl (ax_w64 ((ax_w64 (10 * l3)) + (s 86 l5.toNat))))]) (h1 := hp L s c e) rfl ?_
        refine RuP.step (pc' := 93) (ls' := [some (.inr (.inr (some 84))), some (.inl l1), some (.inl l2), some (.inr (.inl l3)), none, some (.inl l5), some (.inl (s 86 l5.toNat))]) (st' := [.inr (.inl 48), .inr (.inl (ax_w64 ((ax_w64 (10 * l3)) + (s 86 l5.toNat))))]) (h1 := hp L s c e) rfl ?_
        refine RuP.step (pc' := 94) (ls' := [some (.inr (.inr (some 84))), some (.inl l1), some (.inl l2), some (.inr (.inl l3)), none, some (.inl l5), some (.inl (s 86 l5.toNat))]) (st' := [.inr (.inl (ax_w64 ((ax_w64 ((ax_w64 (10 * l3)) + (s 86 l5.toNat))) - 48)))]) (h1 := hp L s c e) rfl ?_
        exact J4 _ (by simp only [if_pos h6])
      · refine RuP.jn rfl h6 ?_
        refine RuP.step (pc' := 53) (ls' := [some (.inr (.inr (some 84))), some (.inl l1), some (.inl l2), some (.inr (.inl l3)), none, some (.inl l5), some (.inl (s 86 l5.toNat))]) (st' := [.inr (.inl 16)]) (h1 := hp L s c e) rfl ?_
        refine RuP.step (pc' := 54) (ls' := [some (.inr (.inr (some 84))), some (.inl l1), some (.inl l2), some (.inr (.inl l3)), none, some (.inl l5), some (.inl (s 86 l5.toNat))]) (st' := [.inr (.inl l3), .inr (.inl 16)]) (h1 := hp L s c e) rfl ?_
        refine RuP.step (pc' := 55) (ls' := [some (.inr (.inr (some 84))), some (.inl l1), some (.inl l2), some (.inr (.inl l3)), none, some (.inl l5), some (.inl (s 86 l5.toNat))]) (st' := [.inr (.inl (ax_w64 (16 * l3)))]) (h1 := hp L s c e) rfl ?_
        refine RuP.step (pc' := 57) (ls' := [some (.inr (.inr (some 84))), some (.inl l1), some (.inl l2), some (.inr (.inl l3)), none, some (.inl l5), some (.inl (s 86 l5.toNat))]) (st' := [.inl (s 86 l5.toNat), .inr (.inl (ax_w64 (16 * l3)))]) (h1 := hp L s c e) rfl ?_
        refine RuP.cI rfl ((ev_226 (s 86 l5.toNat)).up (by decide)) ?_
        by_cases h7 : f_226 (s 86 l5.toNat) s = 0
        · refine RuP.jy rfl h7 ?_
          refine RuP.step (pc' := 73) (ls' := [some (.inr (.inr (some 84))), some (.inl l1), some (.inl l2), some (.inr (.inl l3)), none, some (.inl l5), some (.inl (s 86 l5.toNat))]) (st' := [.inl (s 86 l5.toNat), .inr (.inl (ax_w64 (16 * l3)))]) (h1 := hp L s c e) rfl ?_
          refine RuP.step (pc' := 75) (ls' := [some (.inr (.inr (some 84))), some (.inl l1), some (.inl l2), some (.inr (.inl l3)), none, some (.inl l5), some (.inl (s 86 l5.toNat))]) (st' := [.inl 87, .inl (s 86 l5.toNat), .inr (.inl (ax_w64 (16 * l3)))]) (h1 := hp L s c e) rfl ?_
          refine RuP.step (pc' := 76) (ls' := [some (.inr (.inr (some 84))), some (.inl l1), some (.inl l2), some (.inr (.inl l3)), none, some (.inl l5), some (.inl (s 86 l5.toNat))]) (st' := [.inl (ax_w32 ((s 86 l5.toNat) - 87)), .inr (.inl (ax_w64 (16 * l3)))]) (h1 := hp L s c e) rfl ?_
          refine RuP.step (pc' := 77) (ls' := [some (.inr (.inr (some 84))), some (.inl l1), some (.inl l2), some (.inr (.inl l3)), none, some (.inl l5), some (.inl (s 86 l5.toNat))]) (st' := [.inr (.inl (ax_w32 ((s 86 l5.toNat) - 87))), .inr (.inl (ax_w64 (16 * l3)))]) (h1 := hp L s c e) rfl ?_
          refine RuP.step (pc' := 78) (ls' := [some (.inr (.inr (some 84))), some (.inl l1), some (.inl l2), some (.inr (.inl l3)), none, some (.inl l5), some (.inl (s 86 l5.toNat))]) (st' := [.inr (.inl (ax_w64 ((ax_w64 (16 * l3)) + (ax_w32 ((s 86 l5.toNat) - 87)))))]) (h1 := hp L s c e) rfl ?_
          refine RuP.step (pc' := 94) (ls' := [some (.inr (.inr (some 84))), some (.inl l1), some (.inl l2), some (.inr (.inl l3)), none, some (.inl l5), some (.inl (s 86 l5.toNat))]) (st' := [.inr (.inl (ax_w64 ((ax_w64 (16 * l3)) + (ax_w32 ((s 86 l5.toNat) - 87)))))]) (h1 := hp L s c e) rfl ?_
          exact J4 _ (by simp only [if_neg h6, if_pos h7])
        · refine RuP.jn rfl h7 ?_
          refine RuP.step (pc' := 65) (ls' := [some (.inr (.inr (some 84))), some (.inl l1), some (.inl l2), some (.inr (.inl l3)), none, some (.inl l5), some (.inl (s 86 l5.toNat))]) (st' := [.inl (s 86 l5.toNat), .inr (.inl (ax_w64 (16 * l3)))]) (h1 := hp L s c e) rfl ?_
          refine RuP.step (pc' := 67) (ls' := [some (.inr (.inr (some 84))), some (.inl l1), some (.inl l2), some (.inr (.inl l3)), none, some (.inl l5), some (.inl (s 86 l5.toNat))]) (st' := [.inl 48, .inl (s 86 l5.toNat), .inr (.inl (ax_w64 (16 * l3)))]) (h1 := hp L s c e) rfl ?_
          refine RuP.step (pc' := 68) (ls' := [some (.inr (.inr (some 84))), some (.inl l1), some (.inl l2), some (.inr (.inl l3)), none, some (.inl l5), some (.inl (s 86 l5.toNat))]) (st' := [.inl (ax_w32 ((s 86 l5.toNat) - 48)), .inr (.inl (ax_w64 (16 * l3)))]) (h1 := hp L s c e) rfl ?_
          refine RuP.step (pc' := 76) (ls' := [some (.inr (.inr (some 84))), some (.inl l1), some (.inl l2), some (.inr (.inl l3)), none, some (.inl l5), some (.inl (s 86 l5.toNat))]) (st' := [.inl (ax_w32 ((s 86 l5.toNat) - 48)), .inr (.inl (ax_w64 (16 * l3)))]) (h1 := hp L s c e) rfl ?_
          refine RuP.step (pc' := 77) (ls' := [some (.inr (.inr (some 84))), some (.inl l1), some (.inl l2), some (.inr (.inl l3)), none, some (.inl l5), some (.inl (s 86 l5.toNat))]) (st' := [.inr (.inl (ax_w32 ((s 86 l5.toNat) - 48))), .inr (.inl (ax_w64 (16 * l3)))]) (h1 := hp L s c e) rfl ?_
          refine RuP.step (pc' := 78) (ls' := [some (.inr (.inr (some 84))), some (.inl l1), some (.inl l2), some (.inr (.inl l3)), none, some (.inl l5), some (.inl (s 86 l5.toNat))]) (st' := [.inr (.inl (ax_w64 ((ax_w64 (16 * l3)) + (ax_w32 ((s 86 l5.toNat) - 48)))))]) (h1 := hp L s c e) rfl ?_
          refine RuP.step (pc' := 94) (ls' := [some (.inr (.inr (some 84))), some (.inl l1), some (.inl l2), some (.inr (.inl l3)), none, some (.inl l5), some (.inl (s 86 l5.toNat))]) (st' := [.inr (.inl (ax_w64 ((ax_w64 (16 * l3)) + (ax_w32 ((s 86 l5.toNat) - 48)))))]) (h1 := hp L s c e) rfl ?_
          exact J4 _ (by simp only [if_neg h6, if_neg h7])
noncomputable def f_218 (x0 : Int) (s : Sg) : Option Int :=
  (gd (g_249 x0 s) (
  (gd (0 ≤ x0 ∧ x0 < 8200) (
  j_218_26 FU x0 (f_249 x0 s) 0 (ax_w32 ((s 89 x0.toNat) + ((if f_249 x0 s = 0 then 0 else 2) : Int))) s))))
theorem ev_218 {L c : Nat} {e : Nat → Nat} {s : Sg} {x0 : Int} {q : Int} (h : f_218 x0 s = some q) : EvP 3 218 [.inr (.inr (some 84)), .inl x0] (hp L s c e) (oJ L c e (q, s)) := by
  unfold f_218 at h
  refine EvP.of (μ := tb_m218) (ls := [some (.inr (.inr (some 84))), some (.inl x0), none, none, none, none, none]) rfl (Nat.le_of_ble_eq_true rfl) rfl ?_
  refine RuP.step (pc' := 1) (ls' := [some (.inr (.inr (some 84))), some (.inl x0), none, none, none, none, none]) (st' := [.inr (.inr (some 84))]) (h1 := hp L s c e) rfl ?_
  refine RuP.step (pc' := 2) (ls' := [some (.inr (.inr (some 84))), some (.inl x0), none, none, none, none, none]) (st' := [.inl x0, .inr (.inr (some 84))]) (h1 := hp L s c e) rfl ?_
  obtain ⟨b0, h⟩ := gd_some h
  refine RuP.cI rfl (EvP.i ((ev_249 x0 b0).up (by decide))) ?_
  refine RuP.step (pc' := 6) (ls' := [some (.inr (.inr (some 84))), some (.inl x0), some (.inl (f_249 x0 s)), none, none, none, none]) (st' := []) (h1 := hp L s c e) rfl ?_
  refine RuP.step (pc' := 7) (ls' := [some (.inr (.inr (some 84))), some (.inl x0), some (.inl (f_249 x0 s)), none, none, none, none]) (st' := [.inr (.inl 0)]) (h1 := hp L s c e) rfl ?_
  refine RuP.step (pc' := 8) (ls' := [some (.inr (.inr (some 84))), some (.inl x0), some (.inl (f_249 x0 s)), some (.inr (.inl 0)), none, none, none]) (st' := []) (h1 := hp L s c e) rfl ?_
  refine RuP.step (pc' := 9) (ls' := [some (.inr (.inr (some 84))), some (.inl x0), some (.inl (f_249 x0 s)), some (.inr (.inl 0)), none, none, none]) (st' := [.inr (.inr (some 84))]) (h1 := hp L s c e) rfl ?_
  refine RuP.step (pc' := 12) (ls' := [some (.inr (.inr (some 84))), some (.inl x0), some (.inl (f_249 x0 s)), some (.inr (.inl 0)), none, none, none]) (st' := [.inr (.inr (some 89))]) (h1 := hp L s c e) rfl ?_
  refine RuP.step (pc' := 13) (ls' := [some (.inr (.inr (some 84))), some (.inl x0), some (.inl (f_249 x0 s)), some (.inr (.inl 0)), none, none, none]) (st' := [.inl x0, .inr (.inr (some 89))]) (h1 := hp L s c e) rfl ?_
  obtain ⟨b1, h⟩ := gd_some h
  refine RuP.ald (f := fun t => t == 0) (j := x0) (a := 89) rfl rfl b1.1 b1.2 ?_
  refine RuP.step (pc' := 15) (ls' := [some (.inr (.inr (some 84))), some (.inl x0), some (.inl (f_249 x0 s)), some (.inr (.inl 0)), none, none, none]) (st' := [.inl (f_249 x0 s), .inl (s 89 x0.toNat)]) (h1 := hp L s c e) rfl ?_
  have J3 : ∀ v2_0 : Int, v2_0 = ((if f_249 x0 s = 0 then 0 else 2) : Int) → RuP 2 tb_m218 23 [some (.inr (.inr (some 84))), some (.inl x0), some (.inl (f_249 x0 s)), some (.inr (.inl 0)), none, none, none] [.inl v2_0, .inl (s 89 x0.toNat)] (hp L s c e) (oJ L c e (q, s)) := by
    intro v2_0 ev2_0
    subst ev2_0
    refine RuP.step (pc' := 24) (ls' := [some (.inr (.inr (some 84))), some (.inl x0), some (.inl (f_249 x0 s)), some (.inr (.inl 0)), none, none, none]) (st' := [.inl (ax_w32 ((s 89 x0.toNat) + ((if f_249 x0 s = 0 then 0 else 2) : Int)))]) (h1 := hp L s c e) rfl ?_
    refine RuP.step (pc' := 26) (ls' := [some (.inr (.inr (some 84))), some (.inl x0), some (.inl (f_249 x0 s)), some (.inr (.inl 0)), none, some (.inl (ax_w32 ((s 89 x0.toNat) + ((if f_249 x0 s = 0 then 0 else 2) : Int)))), none]) (st' := []) (h1 := hp L s c e) rfl ?_
    exact bl_218_26 FU _ _ _ _ _ _ _ h
  by_cases h3 : f_249 x0 s = 0
  · refine RuP.jy rfl h3 ?_
    refine RuP.step (pc' := 23) (ls' := [some (.inr (.inr (some 84))), some (.inl x0), some (.inl (f_249 x0 s)), some (.inr (.inl 0)), none, none, none]) (st' := [.inl 0, .inl (s 89 x0.toNat)]) (h1 := hp L s c e) rfl ?_
    exact J3 _ (by simp only [if_pos h3])
  · refine RuP.jn rfl h3 ?_
    refine RuP.step (pc' := 19) (ls' := [some (.inr (.inr (some 84))), some (.inl x0), some (.inl (f_249 x0 s)), some (.inr (.inl 0)), none, none, none]) (st' := [.inl 2, .inl (s 89 x0.toNat)]) (h1 := hp L s c e) rfl ?_
    refine RuP.step (pc' := 23) (ls' := [some (.inr (.inr (some 84))), some (.inl x0), some (.inl (f_249 x0 s)), some (.inr (.inl 0)), none, none, none]) (st' := [.inl 2, .inl (s 89 x0.toNat)]) (h1 := hp L s c e) rfl ?_
    exact J3 _ (by simp only [if_neg h3])
/-- MachineTextModel.bitsOf(I)I -/
noncomputable def f_219 (x0 : Int) (s : Sg) : Option Int :=
  (gd (0 ≤ x0 ∧ x0 < 8200) (
  (if s 104 x0.toNat < 0 then
    (gd (0 ≤ x0 ∧ x0 < 8200) (
    (gd (0 ≤ s 105 x0.toNat ∧ s 105 x0.toNat < 8200) (
    (gd (0 ≤ x0 ∧ x0 < 8200) (
    (gd (0 ≤ s 105 x0.toNat ∧ s 105 x0.toNat < 8200) (
    some (ax_w32 ((s 90 ((s 105 x0.toNat).toNat)) - (s 89 ((s 105 x0.toNat).toNat))))))))))))
  else
    (gd (0 ≤ x0 ∧ x0 < 8200) (
    ((f_218 (s 105 x0.toNat) s).bind fun q1 =>
    some (ax_w32 q1)))))))
theorem ev_219 {L c : Nat} {e : Nat → Nat} {s : Sg} {x0 : Int} {q : Int} (h : f_219 x0 s = some q) : EvP 4 219 [.inr (.inr (some 84)), .inl x0] (hp L s c e) (oI L c e (q, s)) := by
  unfold f_219 at h
  refine EvP.of (μ := tb_m219) (ls := [some (.inr (.inr (some 84))), some (.inl x0)]) rfl (Nat.le_of_ble_eq_true rfl) rfl ?_
  refine RuP.step (pc' := 1) (ls' := [some (.inr (.inr (some 84))), some (.inl x0)]) (st' := [.inr (.inr (some 84))]) (h1 := hp L s c e) rfl ?_
  refine RuP.step (pc' := 4) (ls' := [some (.inr (.inr (some 84))), some (.inl x0)]) (st' := [.inr (.inr (some 104))]) (h1 := hp L s c e) rfl ?_
  refine RuP.step (pc' := 5) (ls' := [some (.inr (.inr (some 84))), some (.inl x0)]) (st' := [.inl x0, .inr (.inr (some 104))]) (h1 := hp L s c e) rfl ?_
  obtain ⟨b0, h⟩ := gd_some h
  refine RuP.ald (f := fun t => t == 0) (j := x0) (a := 104) rfl rfl b0.1 b0.2 ?_
  by_cases h1 : s 104 x0.toNat < 0
  · rw [if_pos h1] at h
    refine RuP.jy rfl h1 ?_
    refine RuP.step (pc' := 24) (ls' := [some (.inr (.inr (some 84))), some (.inl x0)]) (st' := [.inr (.inr (some 84))]) (h1 := hp L s c e) rfl ?_
    refine RuP.step (pc' := 27) (ls' := [some (.inr (.inr (some 84))), some (.inl x0)]) (st' := [.inr (.inr (some 90))]) (h1 := hp L s c e) rfl ?_
    refine RuP.step (pc' := 28) (ls' := [some (.inr (.inr (some 84))), some (.inl x0)]) (st' := [.inr (.inr (some 84)), .inr (.inr (some 90))]) (h1 := hp L s c e) rfl ?_
    refine RuP.step (pc' := 31) (ls' := [some (.inr (.inr (some 84))), some (.inl x0)]) (st' := [.inr (.inr (some 105)), .inr (.inr (some 90))]) (h1 := hp L s c e) rfl ?_
    refine RuP.step (pc' := 32) (ls' := [some (.inr (.inr (some 84))), some (.inl x0)]) (st' := [.inl x0, .inr (.inr (some 105)), .inr (.inr (some 90))]) (h1 := hp L s c e) rfl ?_
    obtain ⟨b2, h⟩ := gd_some h
    refine RuP.ald (f := fun t => t == 0) (j := x0) (a := 105) rfl rfl b2.1 b2.2 ?_
    obtain ⟨b3, h⟩ := gd_some h
    refine RuP.ald (f := fun t => t == 0) (j := s 105 x0.toNat) (a := 90) rfl rfl b3.1 b3.2 ?_
    refine RuP.step (pc' := 35) (ls' := [some (.inr (.inr (some 84))), some (.inl x0)]) (st' := [.inr (.inr (some 84)), .inl (s 90 ((s 105 x0.toNat).toNat))]) (h1 := hp L s c e) rfl ?_
    refine RuP.step (pc' := 38) (ls' := [some (.inr (.inr (some 84))), some (.inl x0)]) (st' := [.inr (.inr (some 89)), .inl (s 90 ((s 105 x0.toNat).toNat))]) (h1 := hp L s c e) rfl ?_
    refine RuP.step (pc' := 39) (ls' := [some (.inr (.inr (some 84))), some (.inl x0)]) (st' := [.inr (.inr (some 84)), .inr (.inr (some 89)), .inl (s 90 ((s 105 x0.toNat).toNat))]) (h1 := hp L s c e) rfl ?_
    refine RuP.step (pc' := 42) (ls' := [some (.inr (.inr (some 84))), some (.inl x0)]) (st' := [.inr (.inr (some 105)), .inr (.inr (some 89)), .inl (s 90 ((s 105 x0.toNat).toNat))]) (h1 := hp L s c e) rfl ?_
    refine RuP.step (pc' := 43) (ls' := [some (.inr (.inr (some 84))), some (.inl x0)]) (st' := [.inl x0, .inr (.inr (some 105)), .inr (.inr (some 89)), .inl (s 90 ((s 105 x0.toNat).toNat))]) (h1 := hp L s c e) rfl ?_
    obtain ⟨b4, h⟩ := gd_some h
    refine RuP.ald (f := fun t => t == 0) (j := x0) (a := 105) rfl rfl b4.1 b4.2 ?_
    obtain ⟨b5, h⟩ := gd_some h
    refine RuP.ald (f := fun t => t == 0) (j := s 105 x0.toNat) (a := 89) rfl rfl b5.1 b5.2 ?_
    refine RuP.step (pc' := 46) (ls' := [some (.inr (.inr (some 84))), some (.inl x0)]) (st' := [.inl (ax_w32 ((s 90 ((s 105 x0.toNat).toNat)) - (s 89 ((s 105 x0.toNat).toNat))))]) (h1 := hp L s c e) rfl ?_
    cases h
    exact RuP.dI rfl
  · rw [if_neg h1] at h
    refine RuP.jn rfl h1 ?_
    refine RuP.step (pc' := 10) (ls' := [some (.inr (.inr (some 84))), some (.inl x0)]) (st' := [.inr (.inr (some 84))]) (h1 := hp L s c e) rfl ?_
    refine RuP.step (pc' := 11) (ls' := [some (.inr (.inr (some 84))), some (.inl x0)]) (st' := [.inr (.inr (some 84)), .inr (.inr (some 84))]) (h1 := hp L s c e) rfl ?_
    refine RuP.step (pc' := 14) (ls' := [some (.inr (.inr (some 84))), some (.inl x0)]) (st' := [.inr (.inr (some 105)), .inr (.inr (some 84))]) (h1 := hp L s c e) rfl ?_
    refine RuP.step (pc' := 15) (ls' := [some (.inr (.inr (some 84))), some (.inl x0)]) (st' := [.inl x0, .inr (.inr (some 105)), .inr (.inr (some 84))]) (h1 := hp L s c e) rfl ?_
    obtain ⟨b6, h⟩ := gd_some h
    refine RuP.ald (f := fun t => t == 0) (j := x0) (a := 105) rfl rfl b6.1 b6.2 ?_
    obtain ⟨q1, h1, h⟩ := bd_some h
    refine RuP.cJ rfl ((ev_218 h1).up (by decide)) ?_
    refine RuP.step (pc' := 20) (ls' := [some (.inr (.inr (some 84))), some (.inl x0)]) (st' := [.inl (ax_w32 q1)]) (h1 := hp L s c e) rfl ?_
    refine RuP.step (pc' := 46) (ls' := [some (.inr (.inr (some 84))), some (.inl x0)]) (st' := [.inl (ax_w32 q1)]) (h1 := hp L s c e) rfl ?_
    cases h
    exact RuP.dI rfl
/-- MachineTextModel.sayLexeme(I)V -/
noncomputable def j_222_97 : Nat → Int → Int → Sg → Option Sg
  | 0, _, _, _ => none
  | F + 1, l1, l2, s =>
    (gd (0 ≤ l1 ∧ l1 < 8200) (
    (if s 90 l1.toNat ≤ l2 then
      some s
    else
      (gd (0 ≤ l2 ∧ l2 < 8192) (
      (gd (g_221 (s 86 l2.toNat) s) (
      ((some (f_221 (s 86 l2.toNat) s)).bind fun q1 =>
      (j_222_97 F) l1 (ax_w32 (l2 + 1)) q1))))))))
theorem bl_222_97 {L c : Nat} {e : Nat → Nat} : ∀ (F : Nat) (d3 d4 d5 d6 d7 : Option ax_V) (l1 l2 : Int) (s : Sg) (q : Sg), j_222_97 F l1 l2 s = some q → RuP 3 tb_m222 97 [some (.inr (.inr (some 84))), some (.inl l1), some (.inl l2), d3, d4, d5, d6, d7] [] (hp L s c e) (oV L c e q) := by
  intro F
  induction F with
  | zero =>
    intro d3 d4 d5 d6 d7 l1 l2 s q h
    rw [j_222_97] at h
    cases h
  | succ F ih =>
    intro d3 d4 d5 d6 d7 l1 l2 s q h
    rw [j_222_97] at h
    refine RuP.step (pc' := 98) (ls' := [some (.inr (.inr (some 84))), some (.inl l1), some (.inl l2), d3, d4, d5, d6, d7]) (st' := [.inl l2]) (h1 := hp L s c e) rfl ?_
    refine RuP.step (pc' := 99) (ls' := [some (.inr (.inr (some 84))), some (.inl l1), some (.inl l2), d3, d4, d5, d6, d7]) (st' := [.inr (.inr (some 84)), .inl l2]) (h1 := hp L s c e) rfl ?_
    refine RuP.step (pc' := 102) (ls' := [some (.inr (.inr (some 84))), some (.inl l1), some (.inl l2), d3, d4, d5, d6, d7]) (st' := [.inr (.inr (some 90)), .inl l2]) (h1 := hp L s c e) rfl ?_
    refine RuP.step (pc' := 103) (ls' := [some (.inr (.inr (some 84))), some (.inl l1), some (.inl l2), d3, d4, d5, d6, d7]) (st' := [.inl l1, .inr (.inr (some 90)), .inl l2]) (h1 := hp L s c e) rfl ?_
    obtain ⟨b0, h⟩ := gd_some h
    refine RuP.ald (f := fun t => t == 0) (j := l1) (a := 90) rfl rfl b0.1 b0.2 ?_
    by_cases h1 : s 90 l1.toNat ≤ l2
    · rw [if_pos h1] at h
      refine RuP.jy rfl h1 ?_
      cases h
      exact RuP.dV rfl
    · rw [if_neg h1] at h
      refine RuP.jn rfl h1 ?_
      refine RuP.step (pc' := 108) (ls' := [some (.inr (.inr (some 84))), some (.inl l1), some (.inl l2), d3, d4, d5, d6, d7]) (st' := [.inr (.inr (some 84))]) (h1 := hp L s c e) rfl ?_
      refine RuP.step (pc' := 109) (ls' := [some (.inr (.inr (some 84))), some (.inl l1), some (.inl l2), d3, d4, d5, d6, d7]) (st' := [.inr (.inr (some 84)), .inr (.inr (some 84))]) (h1 := hp L s c e) rfl ?_
      refine RuP.step (pc' := 112) (ls' := [some (.inr (.inr (some 84))), some (.inl l1), some (.inl l2), d3, d4, d5, d6, d7]) (st' := [.inr (.inr (some 86)), .inr (.inr (some 84))]) (h1 := hp L s c e) rfl ?_
      refine RuP.step (pc' := 113) (ls' := [some (.inr (.inr (some 84))), some (.inl l1), some (.inl l2), d3, d4, d5, d6, d7]) (st' := [.inl l2, .inr (.inr (some 86)), .inr (.inr (some 84))]) (h1 := hp L s c e) rfl ?_
      obtain ⟨b2, h⟩ := gd_some h
      refine RuP.ald (f := fun t => t == 0) (j := l2) (a := 86) rfl rfl b2.1 b2.2 ?_
      obtain ⟨b3, h⟩ := gd_some h
      obtain ⟨q1, h1, h⟩ := bd_some h
      refine RuP.cVe h1 rfl (EvP.v ((ev_221 (s 86 l2.toNat) b3).up (by decide))) ?_
      refine RuP.step (pc' := 120) (ls' := [some (.inr (.inr (some 84))), some (.inl l1), some (.inl (ax_w32 (l2 + 1))), d3, d4, d5, d6, d7]) (st' := []) (h1 := hp L q1 c e) rfl ?_
      refine RuP.step (pc' := 97) (ls' := [some (.inr (.inr (some 84))), some (.inl l1), some (.inl (ax_w32 (l2 + 1))), d3, d4, d5, d6, d7]) (st' := []) (h1 := hp L q1 c e) rfl ?_
      exact ih _ _ _ _ _ _ _ _ _ h
noncomputable def j_222_90 (l1 : Int) (s : Sg) : Option Sg :=
  (gd (0 ≤ l1 ∧ l1 < 8200) (
  j_222_97 FU l1 (s 89 l1.toNat) s))
theorem bl_222_90 {L c : Nat} {e : Nat → Nat} : ∀ (d2 d3 d4 d5 d6 d7 : Option ax_V) (l1 : Int) (s : Sg) (q : Sg), j_222_90 l1 s = some q → RuP 3 tb_m222 90 [some (.inr (.inr (some 84))), some (.inl l1), d2, d3, d4, d5, d6, d7] [] (hp L s c e) (oV L c e q) := by
  intro d2 d3 d4 d5 d6 d7 l1 s q h
  unfold j_222_90 at h
  refine RuP.step (pc' := 91) (ls' := [some (.inr (.inr (some 84))), some (.inl l1), d2, d3, d4, d5, d6, d7]) (st' := [.inr (.inr (some 84))]) (h1 := hp L s c e) rfl ?_
  refine RuP.step (pc' := 94) (ls' := [some (.inr (.inr (some 84))), some (.inl l1), d2, d3, d4, d5, d6, d7]) (st' := [.inr (.inr (some 89))]) (h1 := hp L s c e) rfl ?_
  refine RuP.step (pc' := 95) (ls' := [some (.inr (.inr (some 84))), some (.inl l1), d2, d3, d4, d5, d6, d7]) (st' := [.inl l1, .inr (.inr (some 89))]) (h1 := hp L s c e) rfl ?_
  obtain ⟨b0, h⟩ := gd_some h
  refine RuP.ald (f := fun t => t == 0) (j := l1) (a := 89) rfl rfl b0.1 b0.2 ?_
  refine RuP.step (pc' := 97) (ls' := [some (.inr (.inr (some 84))), some (.inl l1), some (.inl (s 89 l1.toNat)), d3, d4, d5, d6, d7]) (st' := []) (h1 := hp L s c e) rfl ?_
  exact bl_222_97 FU _ _ _ _ _ _ _ _ _ h
noncomputable def j_222_54 : Nat → Int → Int → Sg → Option Sg
  | 0, _, _, _ => none
  | F + 1, l2, l6, s =>
    (if ax_cmp l6 0 ≤ 0 then
      some s
    else
      (gd (¬ l6 = 0) (
      (gd (g_221 (ax_w32 (ax_w64 (48 + (ax_lrem (ax_ldiv l2 l6) 10)))) s) (
      ((some (f_221 (ax_w32 (ax_w64 (48 + (ax_lrem (ax_ldiv l2 l6) 10)))) s)).bind fun q3 =>
      (j_222_54 F) l2 (ax_ldiv l6 10) q3))))))
theorem bl_222_54 {L c : Nat} {e : Nat → Nat} : ∀ (F : Nat) (z1 z4 : Int) (l2 l6 : Int) (s : Sg) (q : Sg), j_222_54 F l2 l6 s = some q → RuP 3 tb_m222 54 [some (.inr (.inr (some 84))), some (.inl z1), some (.inr (.inl l2)), none, some (.inr (.inl z4)), none, some (.inr (.inl l6)), none] [] (hp L s c e) (oV L c e q) := by
  intro F
  induction F with
  | zero =>
    intro z1 z4 l2 l6 s q h
    rw [j_222_54] at h
    cases h
  | succ F ih =>
    intro z1 z4 l2 l6 s q h
    rw [j_222_54] at h
    refine RuP.step (pc' := 56) (ls' := [some (.inr (.inr (some 84))), some (.inl z1), some (.inr (.inl l2)), none, some (.inr (.inl z4)), none, some (.inr (.inl l6)), none]) (st' := [.inr (.inl l6)]) (h1 := hp L s c e) rfl ?_
    refine RuP.step (pc' := 57) (ls' := [some (.inr (.inr (some 84))), some (.inl z1), some (.inr (.inl l2)), none, some (.inr (.inl z4)), none, some (.inr (.inl l6)), none]) (st' := [.inr (.inl 0), .inr (.inl l6)]) (h1 := hp L s c e) rfl ?_
    refine RuP.step (pc' := 58) (ls' := [some (.inr (.inr (some 84))), some (.inl z1), some (.inr (.inl l2)), none, some (.inr (.inl z4)), none, some (.inr (.inl l6)), none]) (st' := [.inl (ax_cmp l6 0)]) (h1 := hp L s c e) rfl ?_
    by_cases h0 : ax_cmp l6 0 ≤ 0
    · rw [if_pos h0] at h
      refine RuP.jy rfl h0 ?_
      cases h
      exact RuP.dV rfl
    · rw [if_neg h0] at h
      refine RuP.jn rfl h0 ?_
      refine RuP.step (pc' := 62) (ls' := [some (.inr (.inr (some 84))), some (.inl z1), some (.inr (.inl l2)), none, some (.inr (.inl z4)), none, some (.inr (.inl l6)), none]) (st' := [.inr (.inr (some 84))]) (h1 := hp L s c e) rfl ?_
      refine RuP.step (pc' := 65) (ls' := [some (.inr (.inr (some 84))), some (.inl z1), some (.inr (.inl l2)), none, some (.inr (.inl z4)), none, some (.inr (.inl l6)), none]) (st' := [.inr (.inl 48), .inr (.inr (some 84))]) (h1 := hp L s c e) rfl ?_
      refine RuP.step (pc' := 66) (ls' := [some (.inr (.inr (some 84))), some (.inl z1), some (.inr (.inl l2)), none, some (.inr (.inl z4)), none, some (.inr (.inl l6)), none]) (st' := [.inr (.inl l2), .inr (.inl 48), .inr (.inr (some 84))]) (h1 := hp L s c e) rfl ?_
      refine RuP.step (pc' := 68) (ls' := [some (.inr (.inr (some 84))), some (.inl z1), some (.inr (.inl l2)), none, some (.inr (.inl z4)), none, some (.inr (.inl l6)), none]) (st' := [.inr (.inl l6), .inr (.inl l2), .inr (.inl 48), .inr (.inr (some 84))]) (h1 := hp L s c e) rfl ?_
      obtain ⟨b1, h⟩ := gd_some h
      refine RuP.dv (x := 0) (z := 0) (v := .inr (.inl (ax_ldiv l2 l6))) (pc' := 69) (r := [.inr (.inl 48), .inr (.inr (some 84))]) rfl b1 ?_
      refine RuP.step (pc' := 72) (ls' := [some (.inr (.inr (some 84))), some (.inl z1), some (.inr (.inl l2)), none, some (.inr (.inl z4)), none, some (.inr (.inl l6)), none]) (st' := [.inr (.inl 10), .inr (.inl (ax_ldiv l2 l6)), .inr (.inl 48), .inr (.inr (some 84))]) (h1 := hp L s c e) rfl ?_
      refine RuP.step (pc' := 73) (ls' := [some (.inr (.inr (some 84))), some (.inl z1), some (.inr (.inl l2)), none, some (.inr (.inl z4)), none, some (.inr (.inl l6)), none]) (st' := [.inr (.inl (ax_lrem (ax_ldiv l2 l6) 10)), .inr (.inl 48), .inr (.inr (some 84))]) (h1 := hp L s c e) rfl ?_
      refine RuP.step (pc' := 74) (ls' := [some (.inr (.inr (some 84))), some (.inl z1), some (.inr (.inl l2)), none, some (.inr (.inl z4)), none, some (.inr (.inl l6)), none]) (st' := [.inr (.inl (ax_w64 (48 + (ax_lrem (ax_ldiv l2 l6) 10)))), .inr (.inr (some 84))]) (h1 := hp L s c e) rfl ?_
      refine RuP.step (pc' := 75) (ls' := [some (.inr (.inr (some 84))), some (.inl z1), some (.inr (.inl l2)), none, some (.inr (.inl z4)), none, some (.inr (.inl l6)), none]) (st' := [.inl (ax_w32 (ax_w64 (48 + (ax_lrem (ax_ldiv l2 l6) 10)))), .inr (.inr (some 84))]) (h1 := hp L s c e) rfl ?_
      obtain ⟨b2, h⟩ := gd_some h
      obtain ⟨q3, h1, h⟩ := bd_some h
      refine RuP.cVe h1 rfl (EvP.v ((ev_221 (ax_w32 (ax_w64 (48 + (ax_lrem (ax_ldiv l2 l6) 10)))) b2).up (by decide))) ?_
      refine RuP.step (pc' := 80) (ls' := [some (.inr (.inr (some 84))), some (.inl z1), some (.inr (.inl l2)), none, some (.inr (.inl z4)), none, some (.inr (.inl l6)), none]) (st' := [.inr (.inl l6)]) (h1 := hp L q3 c e) rfl ?_
      refine RuP.step (pc' := 83) (ls' := [some (.inr (.inr (some 84))), some (.inl z1), some (.inr (.inl l2)), none, some (.inr (.inl z4)), none, some (.inr (.inl l6)), none]) (st' := [.inr (.inl 10), .inr (.inl l6)]) (h1 := hp L q3 c e) rfl ?_
      refine RuP.step (pc' := 84) (ls' := [some (.inr (.inr (some 84))), some (.inl z1), some (.inr (.inl l2)), none, some (.inr (.inl z4)), none, some (.inr (.inl l6)), none]) (st' := [.inr (.inl (ax_ldiv l6 10))]) (h1 := hp L q3 c e) rfl ?_
      refine RuP.step (pc' := 86) (ls' := [some (.inr (.inr (some 84))), some (.inl z1), some (.inr (.inl l2)), none, some (.inr (.inl z4)), none, some (.inr (.inl (ax_ldiv l6 10))), none]) (st' := []) (h1 := hp L q3 c e) rfl ?_
      refine RuP.step (pc' := 54) (ls' := [some (.inr (.inr (some 84))), some (.inl z1), some (.inr (.inl l2)), none, some (.inr (.inl z4)), none, some (.inr (.inl (ax_ldiv l6 10))), none]) (st' := []) (h1 := hp L q3 c e) rfl ?_
      exact ih _ _ _ _ _ _ h
noncomputable def j_222_50 (l2 l4 : Int) (s : Sg) : Option Sg :=
  j_222_54 FU l2 l4 s
theorem bl_222_50 {L c : Nat} {e : Nat → Nat} : ∀ (d6 d7 : Option ax_V) (z1 : Int) (l2 l4 : Int) (s : Sg) (q : Sg), j_222_50 l2 l4 s = some q → RuP 3 tb_m222 50 [some (.inr (.inr (some 84))), some (.inl z1), some (.inr (.inl l2)), none, some (.inr (.inl l4)), none, d6, d7] [] (hp L s c e) (oV L c e q) := by
  intro d6 d7 z1 l2 l4 s q h
  unfold j_222_50 at h
  refine RuP.step (pc' := 52) (ls' := [some (.inr (.inr (some 84))), some (.inl z1), some (.inr (.inl l2)), none, some (.inr (.inl l4)), none, d6, d7]) (st' := [.inr (.inl l4)]) (h1 := hp L s c e) rfl ?_
  refine RuP.step (pc' := 54) (ls' := [some (.inr (.inr (some 84))), some (.inl z1), some (.inr (.inl l2)), none, some (.inr (.inl l4)), none, some (.inr (.inl l4)), none]) (st' := []) (h1 := hp L s c e) rfl ?_
  exact bl_222_54 FU _ _ _ _ _ _ h
noncomputable def j_222_28 : Nat → Int → Int → Sg → Option Sg
  | 0, _, _, _ => none
  | F + 1, l2, l4, s =>
    (gd (¬ l4 = 0) (
    (if ax_cmp (ax_ldiv l2 l4) 9 ≤ 0 then
      j_222_50 l2 l4 s
    else
      (j_222_28 F) l2 (ax_w64 (l4 * 10)) s)))
theorem bl_222_28 {L c : Nat} {e : Nat → Nat} : ∀ (F : Nat) (d6 d7 : Option ax_V) (z1 : Int) (l2 l4 : Int) (s : Sg) (q : Sg), j_222_28 F l2 l4 s = some q → RuP 3 tb_m222 28 [some (.inr (.inr (some 84))), some (.inl z1), some (.inr (.inl l2)), none, some (.inr (.inl l4)), none, d6, d7] [] (hp L s c e) (oV L c e q) := by
  intro F
  induction F with
  | zero =>
    intro d6 d7 z1 l2 l4 s q h
    rw [j_222_28] at h
    cases h
  | succ F ih =>
    intro d6 d7 z1 l2 l4 s q h
    rw [j_222_28] at h
    refine RuP.step (pc' := 29) (ls' := [some (.inr (.inr (some 84))), some (.inl z1), some (.inr (.inl l2)), none, some (.inr (.inl l4)), none, d6, d7]) (st' := [.inr (.inl l2)]) (h1 := hp L s c e) rfl ?_
    refine RuP.step (pc' := 31) (ls' := [some (.inr (.inr (some 84))), some (.inl z1), some (.inr (.inl l2)), none, some (.inr (.inl l4)), none, d6, d7]) (st' := [.inr (.inl l4), .inr (.inl l2)]) (h1 := hp L s c e) rfl ?_
    obtain ⟨b0, h⟩ := gd_some h
    refine RuP.dv (x := 0) (z := 0) (v := .inr (.inl (ax_ldiv l2 l4))) (pc' := 32) (r := []) rfl b0 ?_
    refine RuP.step (pc' := 35) (ls' := [some (.inr (.inr (some 84))), some (.inl z1), some (.inr (.inl l2)), none, some (.inr (.inl l4)), none, d6, d7]) (st' := [.inr (.inl 9), .inr (.inl (ax_ldiv l2 l4))]) (h1 := hp L s c e) rfl ?_
    refine RuP.step (pc' := 36) (ls' := [some (.inr (.inr (some 84))), some (.inl z1), some (.inr (.inl l2)), none, some (.inr (.inl l4)), none, d6, d7]) (st' := [.inl (ax_cmp (ax_ldiv l2 l4) 9)]) (h1 := hp L s c e) rfl ?_
    by_cases h1 : ax_cmp (ax_ldiv l2 l4) 9 ≤ 0
    · rw [if_pos h1] at h
      refine RuP.jy rfl h1 ?_
      exact bl_222_50 _ _ _ _ _ _ _ h
    · rw [if_neg h1] at h
      refine RuP.jn rfl h1 ?_
      refine RuP.step (pc' := 41) (ls' := [some (.inr (.inr (some 84))), some (.inl z1), some (.inr (.inl l2)), none, some (.inr (.inl l4)), none, d6, d7]) (st' := [.inr (.inl l4)]) (h1 := hp L s c e) rfl ?_
      refine RuP.step (pc' := 44) (ls' := [some (.inr (.inr (some 84))), some (.inl z1), some (.inr (.inl l2)), none, some (.inr (.inl l4)), none, d6, d7]) (st' := [.inr (.inl 10), .inr (.inl l4)]) (h1 := hp L s c e) rfl ?_
      refine RuP.step (pc' := 45) (ls' := [some (.inr (.inr (some 84))), some (.inl z1), some (.inr (.inl l2)), none, some (.inr (.inl l4)), none, d6, d7]) (st' := [.inr (.inl (ax_w64 (l4 * 10)))]) (h1 := hp L s c e) rfl ?_
      refine RuP.step (pc' := 47) (ls' := [some (.inr (.inr (some 84))), some (.inl z1), some (.inr (.inl l2)), none, some (.inr (.inl (ax_w64 (l4 * 10)))), none, d6, d7]) (st' := []) (h1 := hp L s c e) rfl ?_
      refine RuP.step (pc' := 28) (ls' := [some (.inr (.inr (some 84))), some (.inl z1), some (.inr (.inl l2)), none, some (.inr (.inl (ax_w64 (l4 * 10)))), none, d6, d7]) (st' := []) (h1 := hp L s c e) rfl ?_
      exact ih _ _ _ _ _ _ _ h
noncomputable def f_222 (x0 : Int) (s : Sg) : Option Sg :=
  (gd (0 ≤ x0 ∧ x0 < 8200) (
  (if ¬ (s 88 x0.toNat) = 2 then
    j_222_90 x0 s
  else
    (gd (0 ≤ x0 ∧ x0 < 8200) (
    (if ¬ (s 93 x0.toNat) = 0 then
      j_222_90 x0 s
    else
      ((f_218 x0 s).bind fun q2 =>
      j_222_28 FU q2 1 s)))))))
theorem ev_222 {L c : Nat} {e : Nat → Nat} {s : Sg} {x0 : Int} {q : Sg} (h : f_222 x0 s = some q) : EvP 4 222 [.inr (.inr (some 84)), .inl x0] (hp L s c e) (oV L c e q) := by
  unfold f_222 at h
  refine EvP.of (μ := tb_m222) (ls := [some (.inr (.inr (some 84))), some (.inl x0), none, none, none, none, none, none]) rfl (Nat.le_of_ble_eq_true rfl) rfl ?_
  refine RuP.step (pc' := 1) (ls' := [some (.inr (.inr (some 84))), some (.inl x0), none, none, none, none, none, none]) (st' := [.inr (.inr (some 84))]) (h1 := hp L s c e) rfl ?_
  refine RuP.step (pc' := 4) (ls' := [some (.inr (.inr (some 84))), some (.inl x0), none, none, none, none, none, none]) (st' := [.inr (.inr (some 88))]) (h1 := hp L s c e) rfl ?_
  refine RuP.step (pc' := 5) (ls' := [some (.inr (.inr (some 84))), some (.inl x0), none, none, none, none, none, none]) (st' := [.inl x0, .inr (.inr (some 88))]) (h1 := hp L s c e) rfl ?_
  obtain ⟨b0, h⟩ := gd_some h
  refine RuP.ald (f := fun t => t == 0) (j := x0) (a := 88) rfl rfl b0.1 b0.2 ?_
  refine RuP.step (pc' := 7) (ls' := [some (.inr (.inr (some 84))), some (.inl x0), none, none, none, none, none, none]) (st' := [.inl 2, .inl (s 88 x0.toNat)]) (h1 := hp L s c e) rfl ?_
  by_cases h1 : ¬ (s 88 x0.toNat) = 2
  · rw [if_pos h1] at h
    refine RuP.jy rfl h1 ?_
    exact bl_222_90 _ _ _ _ _ _ _ _ _ h
  · rw [if_neg h1] at h
    refine RuP.jn rfl h1 ?_
    refine RuP.step (pc' := 11) (ls' := [some (.inr (.inr (some 84))), some (.inl x0), none, none, none, none, none, none]) (st' := [.inr (.inr (some 84))]) (h1 := hp L s c e) rfl ?_
    refine RuP.step (pc' := 14) (ls' := [some (.inr (.inr (some 84))), some (.inl x0), none, none, none, none, none, none]) (st' := [.inr (.inr (some 93))]) (h1 := hp L s c e) rfl ?_
    refine RuP.step (pc' := 15) (ls' := [some (.inr (.inr (some 84))), some (.inl x0), none, none, none, none, none, none]) (st' := [.inl x0, .inr (.inr (some 93))]) (h1 := hp L s c e) rfl ?_
    obtain ⟨b2, h⟩ := gd_some h
    refine RuP.ald (f := fun t => t == 1 || t == 3) (j := x0) (a := 93) rfl rfl b2.1 b2.2 ?_
    by_cases h3 : ¬ (s 93 x0.toNat) = 0
    · rw [if_pos h3] at h
      refine RuP.jy rfl h3 ?_
      exact bl_222_90 _ _ _ _ _ _ _ _ _ h
    · rw [if_neg h3] at h
      refine RuP.jn rfl h3 ?_
      refine RuP.step (pc' := 20) (ls' := [some (.inr (.inr (some 84))), some (.inl x0), none, none, none, none, none, none]) (st' := [.inr (.inr (some 84))]) (h1 := hp L s c e) rfl ?_
      refine RuP.step (pc' := 21) (ls' := [some (.inr (.inr (some 84))), some (.inl x0), none, none, none, none, none, none]) (st' := [.inl x0, .inr (.inr (some 84))]) (h1 := hp L s c e) rfl ?_
      obtain ⟨q2, h1, h⟩ := bd_some h
      refine RuP.cJ rfl ((ev_218 h1).up (by decide)) ?_
      refine RuP.step (pc' := 25) (ls' := [some (.inr (.inr (some 84))), some (.inl x0), some (.inr (.inl q2)), none, none, none, none, none]) (st' := []) (h1 := hp L s c e) rfl ?_
      refine RuP.step (pc' := 26) (ls' := [some (.inr (.inr (some 84))), some (.inl x0), some (.inr (.inl q2)), none, none, none, none, none]) (st' := [.inr (.inl 1)]) (h1 := hp L s c e) rfl ?_
      refine RuP.step (pc' := 28) (ls' := [some (.inr (.inr (some 84))), some (.inl x0), some (.inr (.inl q2)), none, some (.inr (.inl 1)), none, none, none]) (st' := []) (h1 := hp L s c e) rfl ?_
      exact bl_222_28 FU _ _ _ _ _ _ _ h
/-- MachineTextModel.number(I)I -/
noncomputable def j_229_90 (l1 l2 : Int) (s : Sg) : Option (Int × Sg) :=
  (if ax_w32 (l2 - l1) ≤ 32 then
    some (l2, s)
  else
    ((some (f_227 1 l1 s)).bind fun q1 =>
    some (l2, q1)))
theorem bl_229_90 {L c : Nat} {e : Nat → Nat} : ∀ (l1 l2 : Int) (s : Sg) (q : Int × Sg), j_229_90 l1 l2 s = some q → RuP 3 tb_m229 90 [some (.inr (.inr (some 84))), some (.inl l1), some (.inl l2)] [] (hp L s c e) (oI L c e q) := by
  intro l1 l2 s q h
  unfold j_229_90 at h
  refine RuP.step (pc' := 91) (ls' := [some (.inr (.inr (some 84))), some (.inl l1), some (.inl l2)]) (st' := [.inl l2]) (h1 := hp L s c e) rfl ?_
  refine RuP.step (pc' := 92) (ls' := [some (.inr (.inr (some 84))), some (.inl l1), some (.inl l2)]) (st' := [.inl l1, .inl l2]) (h1 := hp L s c e) rfl ?_
  refine RuP.step (pc' := 93) (ls' := [some (.inr (.inr (some 84))), some (.inl l1), some (.inl l2)]) (st' := [.inl (ax_w32 (l2 - l1))]) (h1 := hp L s c e) rfl ?_
  refine RuP.step (pc' := 95) (ls' := [some (.inr (.inr (some 84))), some (.inl l1), some (.inl l2)]) (st' := [.inl 32, .inl (ax_w32 (l2 - l1))]) (h1 := hp L s c e) rfl ?_
  by_cases h0 : ax_w32 (l2 - l1) ≤ 32
  · rw [if_pos h0] at h
    refine RuP.jy rfl h0 ?_
    refine RuP.step (pc' := 105) (ls' := [some (.inr (.inr (some 84))), some (.inl l1), some (.inl l2)]) (st' := [.inl l2]) (h1 := hp L s c e) rfl ?_
    cases h
    exact RuP.dI rfl
  · rw [if_neg h0] at h
    refine RuP.jn rfl h0 ?_
    refine RuP.step (pc' := 99) (ls' := [some (.inr (.inr (some 84))), some (.inl l1), some (.inl l2)]) (st' := [.inr (.inr (some 84))]) (h1 := hp L s c e) rfl ?_
    refine RuP.step (pc' := 100) (ls' := [some (.inr (.inr (some 84))), some (.inl l1), some (.inl l2)]) (st' := [.inl 1, .inr (.inr (some 84))]) (h1 := hp L s c e) rfl ?_
    refine RuP.step (pc' := 101) (ls' := [some (.inr (.inr (some 84))), some (.inl l1), some (.inl l2)]) (st' := [.inl l1, .inl 1, .inr (.inr (some 84))]) (h1 := hp L s c e) rfl ?_
    obtain ⟨q1, h1, h⟩ := bd_some h
    refine RuP.cVe h1 rfl (EvP.v ((ev_227 1 l1).up (by decide))) ?_
    refine RuP.step (pc' := 105) (ls' := [some (.inr (.inr (some 84))), some (.inl l1), some (.inl l2)]) (st' := [.inl l2]) (h1 := hp L q1 c e) rfl ?_
    cases h
    exact RuP.dI rfl
noncomputable def j_229_73 : Nat → Int → Int → Sg → Option (Int × Sg)
  | 0, _, _, _ => none
  | F + 1, l1, l2, s =>
    (gd (g_224 l2 s) (
    (if f_226 (f_224 l2 s) s = 0 then
      j_229_90 l1 l2 s
    else
      (j_229_73 F) l1 (ax_w32 (l2 + 1)) s)))
theorem bl_229_73 {L c : Nat} {e : Nat → Nat} : ∀ (F : Nat) (l1 l2 : Int) (s : Sg) (q : Int × Sg), j_229_73 F l1 l2 s = some q → RuP 3 tb_m229 73 [some (.inr (.inr (some 84))), some (.inl l1), some (.inl l2)] [] (hp L s c e) (oI L c e q) := by
  intro F
  induction F with
  | zero =>
    intro l1 l2 s q h
    rw [j_229_73] at h
    cases h
  | succ F ih =>
    intro l1 l2 s q h
    rw [j_229_73] at h
    refine RuP.step (pc' := 74) (ls' := [some (.inr (.inr (some 84))), some (.inl l1), some (.inl l2)]) (st' := [.inr (.inr (some 84))]) (h1 := hp L s c e) rfl ?_
    refine RuP.step (pc' := 75) (ls' := [some (.inr (.inr (some 84))), some (.inl l1), some (.inl l2)]) (st' := [.inl l2, .inr (.inr (some 84))]) (h1 := hp L s c e) rfl ?_
    obtain ⟨b0, h⟩ := gd_some h
    refine RuP.cI rfl (EvP.i ((ev_224 l2 b0).up (by decide))) ?_
    refine RuP.cI rfl ((ev_226 (f_224 l2 s)).up (by decide)) ?_
    by_cases h1 : f_226 (f_224 l2 s) s = 0
    · rw [if_pos h1] at h
      refine RuP.jy rfl h1 ?_
      exact bl_229_90 _ _ _ _ h
    · rw [if_neg h1] at h
      refine RuP.jn rfl h1 ?_
      refine RuP.step (pc' := 87) (ls' := [some (.inr (.inr (some 84))), some (.inl l1), some (.inl (ax_w32 (l2 + 1)))]) (st' := []) (h1 := hp L s c e) rfl ?_
      refine RuP.step (pc' := 73) (ls' := [some (.inr (.inr (some 84))), some (.inl l1), some (.inl (ax_w32 (l2 + 1)))]) (st' := []) (h1 := hp L s c e) rfl ?_
      exact ih _ _ _ _ h
noncomputable def j_229_57 (l1 l2 : Int) (s : Sg) : Option (Int × Sg) :=
  (if ax_w32 (l2 - l1) ≤ 10 then
    some (l2, s)
  else
    ((some (f_227 1 l1 s)).bind fun q2 =>
    some (l2, q2)))
theorem bl_229_57 {L c : Nat} {e : Nat → Nat} : ∀ (l1 l2 : Int) (s : Sg) (q : Int × Sg), j_229_57 l1 l2 s = some q → RuP 3 tb_m229 57 [some (.inr (.inr (some 84))), some (.inl l1), some (.inl l2)] [] (hp L s c e) (oI L c e q) := by
  intro l1 l2 s q h
  unfold j_229_57 at h
  refine RuP.step (pc' := 58) (ls' := [some (.inr (.inr (some 84))), some (.inl l1), some (.inl l2)]) (st' := [.inl l2]) (h1 := hp L s c e) rfl ?_
  refine RuP.step (pc' := 59) (ls' := [some (.inr (.inr (some 84))), some (.inl l1), some (.inl l2)]) (st' := [.inl l1, .inl l2]) (h1 := hp L s c e) rfl ?_
  refine RuP.step (pc' := 60) (ls' := [some (.inr (.inr (some 84))), some (.inl l1), some (.inl l2)]) (st' := [.inl (ax_w32 (l2 - l1))]) (h1 := hp L s c e) rfl ?_
  refine RuP.step (pc' := 62) (ls' := [some (.inr (.inr (some 84))), some (.inl l1), some (.inl l2)]) (st' := [.inl 10, .inl (ax_w32 (l2 - l1))]) (h1 := hp L s c e) rfl ?_
  by_cases h0 : ax_w32 (l2 - l1) ≤ 10
  · rw [if_pos h0] at h
    refine RuP.jy rfl h0 ?_
    refine RuP.step (pc' := 72) (ls' := [some (.inr (.inr (some 84))), some (.inl l1), some (.inl l2)]) (st' := [.inl l2]) (h1 := hp L s c e) rfl ?_
    cases h
    exact RuP.dI rfl
  · rw [if_neg h0] at h
    refine RuP.jn rfl h0 ?_
    refine RuP.step (pc' := 66) (ls' := [some (.inr (.inr (some 84))), some (.inl l1), some (.inl l2)]) (st' := [.inr (.inr (some 84))]) (h1 := hp L s c e) rfl ?_
    refine RuP.step (pc' := 67) (ls' := [some (.inr (.inr (some 84))), some (.inl l1), some (.inl l2)]) (st' := [.inl 1, .inr (.inr (some 84))]) (h1 := hp L s c e) rfl ?_
    refine RuP.step (pc' := 68) (ls' := [some (.inr (.inr (some 84))), some (.inl l1), some (.inl l2)]) (st' := [.inl l1, .inl 1, .inr (.inr (some 84))]) (h1 := hp L s c e) rfl ?_
    obtain ⟨q2, h1, h⟩ := bd_some h
    refine RuP.cVe h1 rfl (EvP.v ((ev_227 1 l1).up (by decide))) ?_
    refine RuP.step (pc' := 72) (ls' := [some (.inr (.inr (some 84))), some (.inl l1), some (.inl l2)]) (st' := [.inl l2]) (h1 := hp L q2 c e) rfl ?_
    cases h
    exact RuP.dI rfl
noncomputable def j_229_40 : Nat → Int → Int → Sg → Option (Int × Sg)
  | 0, _, _, _ => none
  | F + 1, l1, l2, s =>
    (gd (g_224 l2 s) (
    (if f_251 (f_224 l2 s) s = 0 then
      j_229_57 l1 l2 s
    else
      (j_229_40 F) l1 (ax_w32 (l2 + 1)) s)))
theorem bl_229_40 {L c : Nat} {e : Nat → Nat} : ∀ (F : Nat) (l1 l2 : Int) (s : Sg) (q : Int × Sg), j_229_40 F l1 l2 s = some q → RuP 3 tb_m229 40 [some (.inr (.inr (some 84))), some (.inl l1), some (.inl l2)] [] (hp L s c e) (oI L c e q) := by
  intro F
  induction F with
  | zero =>
    intro l1 l2 s q h
    rw [j_229_40] at h
    cases h
  | succ F ih =>
    intro l1 l2 s q h
    rw [j_229_40] at h
    refine RuP.step (pc' := 41) (ls' := [some (.inr (.inr (some 84))), some (.inl l1), some (.inl l2)]) (st' := [.inr (.inr (some 84))]) (h1 := hp L s c e) rfl ?_
    refine RuP.step (pc' := 42) (ls' := [some (.inr (.inr (some 84))), some (.inl l1), some (.inl l2)]) (st' := [.inl l2, .inr (.inr (some 84))]) (h1 := hp L s c e) rfl ?_
    obtain ⟨b0, h⟩ := gd_some h
    refine RuP.cI rfl (EvP.i ((ev_224 l2 b0).up (by decide))) ?_
    refine RuP.cI rfl ((ev_251 (f_224 l2 s)).up (by decide)) ?_
    by_cases h1 : f_251 (f_224 l2 s) s = 0
    · rw [if_pos h1] at h
      refine RuP.jy rfl h1 ?_
      exact bl_229_57 _ _ _ _ h
    · rw [if_neg h1] at h
      refine RuP.jn rfl h1 ?_
      refine RuP.step (pc' := 54) (ls' := [some (.inr (.inr (some 84))), some (.inl l1), some (.inl (ax_w32 (l2 + 1)))]) (st' := []) (h1 := hp L s c e) rfl ?_
      refine RuP.step (pc' := 40) (ls' := [some (.inr (.inr (some 84))), some (.inl l1), some (.inl (ax_w32 (l2 + 1)))]) (st' := []) (h1 := hp L s c e) rfl ?_
      exact ih _ _ _ _ h
noncomputable def f_229 (x0 : Int) (s : Sg) : Option (Int × Sg) :=
  (gd (g_224 x0 s) (
  (if ¬ (f_224 x0 s) = 48 then
    j_229_73 FU x0 x0 s
  else
    (gd (g_224 (ax_w32 (x0 + 1)) s) (
    (if ¬ (f_224 (ax_w32 (x0 + 1)) s) = 120 then
      j_229_73 FU x0 x0 s
    else
      (gd (g_224 (ax_w32 (x0 + 2)) s) (
      (if f_251 (f_224 (ax_w32 (x0 + 2)) s) s = 0 then
        j_229_73 FU x0 x0 s
      else
        j_229_40 FU x0 (ax_w32 (x0 + 2)) s)))))))))
theorem ev_229 {L c : Nat} {e : Nat → Nat} {s : Sg} {x0 : Int} {q : Int × Sg} (h : f_229 x0 s = some q) : EvP 4 229 [.inr (.inr (some 84)), .inl x0] (hp L s c e) (oI L c e q) := by
  unfold f_229 at h
  refine EvP.of (μ := tb_m229) (ls := [some (.inr (.inr (some 84))), some (.inl x0), none]) rfl (Nat.le_of_ble_eq_true rfl) rfl ?_
  refine RuP.step (pc' := 1) (ls' := [some (.inr (.inr (some 84))), some (.inl x0), none]) (st' := [.inl x0]) (h1 := hp L s c e) rfl ?_
  refine RuP.step (pc' := 2) (ls' := [some (.inr (.inr (some 84))), some (.inl x0), some (.inl x0)]) (st' := []) (h1 := hp L s c e) rfl ?_
  refine RuP.step (pc' := 3) (ls' := [some (.inr (.inr (some 84))), some (.inl x0), some (.inl x0)]) (st' := [.inr (.inr (some 84))]) (h1 := hp L s c e) rfl ?_
  refine RuP.step (pc' := 4) (ls' := [some (.inr (.inr (some 84))), some (.inl x0), some (.inl x0)]) (st' := [.inl x0, .inr (.inr (some 84))]) (h1 := hp L s c e) rfl ?_
  obtain ⟨b0, h⟩ := gd_some h
  refine RuP.cI rfl (EvP.i ((ev_224 x0 b0).up (by decide))) ?_
  refine RuP.step (pc' := 9) (ls' := [some (.inr (.inr (some 84))), some (.inl x0), some (.inl x0)]) (st' := [.inl 48, .inl (f_224 x0 s)]) (h1 := hp L s c e) rfl ?_
  by_cases h1 : ¬ (f_224 x0 s) = 48
  · rw [if_pos h1] at h
    refine RuP.jy rfl h1 ?_
    exact bl_229_73 FU _ _ _ _ h
  · rw [if_neg h1] at h
    refine RuP.jn rfl h1 ?_
    refine RuP.step (pc' := 13) (ls' := [some (.inr (.inr (some 84))), some (.inl x0), some (.inl x0)]) (st' := [.inr (.inr (some 84))]) (h1 := hp L s c e) rfl ?_
    refine RuP.step (pc' := 14) (ls' := [some (.inr (.inr (some 84))), some (.inl x0), some (.inl x0)]) (st' := [.inl x0, .inr (.inr (some 84))]) (h1 := hp L s c e) rfl ?_
    refine RuP.step (pc' := 15) (ls' := [some (.inr (.inr (some 84))), some (.inl x0), some (.inl x0)]) (st' := [.inl 1, .inl x0, .inr (.inr (some 84))]) (h1 := hp L s c e) rfl ?_
    refine RuP.step (pc' := 16) (ls' := [some (.inr (.inr (some 84))), some (.inl x0), some (.inl x0)]) (st' := [.inl (ax_w32 (x0 + 1)), .inr (.inr (some 84))]) (h1 := hp L s c e) rfl ?_
    obtain ⟨b2, h⟩ := gd_some h
    refine RuP.cI rfl (EvP.i ((ev_224 (ax_w32 (x0 + 1)) b2).up (by decide))) ?_
    refine RuP.step (pc' := 21) (ls' := [some (.inr (.inr (some 84))), some (.inl x0), some (.inl x0)]) (st' := [.inl 120, .inl (f_224 (ax_w32 (x0 + 1)) s)]) (h1 := hp L s c e) rfl ?_
    by_cases h3 : ¬ (f_224 (ax_w32 (x0 + 1)) s) = 120
    · rw [if_pos h3] at h
      refine RuP.jy rfl h3 ?_
      exact bl_229_73 FU _ _ _ _ h
    · rw [if_neg h3] at h
      refine RuP.jn rfl h3 ?_
      refine RuP.step (pc' := 25) (ls' := [some (.inr (.inr (some 84))), some (.inl x0), some (.inl x0)]) (st' := [.inr (.inr (some 84))]) (h1 := hp L s c e) rfl ?_
      refine RuP.step (pc' := 26) (ls' := [some (.inr (.inr (some 84))), some (.inl x0), some (.inl x0)]) (st' := [.inl x0, .inr (.inr (some 84))]) (h1 := hp L s c e) rfl ?_
      refine RuP.step (pc' := 27) (ls' := [some (.inr (.inr (some 84))), some (.inl x0), some (.inl x0)]) (st' := [.inl 2, .inl x0, .inr (.inr (some 84))]) (h1 := hp L s c e) rfl ?_
      refine RuP.step (pc' := 28) (ls' := [some (.inr (.inr (some 84))), some (.inl x0), some (.inl x0)]) (st' := [.inl (ax_w32 (x0 + 2)), .inr (.inr (some 84))]) (h1 := hp L s c e) rfl ?_
      obtain ⟨b4, h⟩ := gd_some h
      refine RuP.cI rfl (EvP.i ((ev_224 (ax_w32 (x0 + 2)) b4).up (by decide))) ?_
      refine RuP.cI rfl ((ev_251 (f_224 (ax_w32 (x0 + 2)) s)).up (by decide)) ?_
      by_cases h5 : f_251 (f_224 (ax_w32 (x0 + 2)) s) s = 0
      · rw [if_pos h5] at h
        refine RuP.jy rfl h5 ?_
        exact bl_229_73 FU _ _ _ _ h
      · rw [if_neg h5] at h
        refine RuP.jn rfl h5 ?_
        refine RuP.step (pc' := 40) (ls' := [some (.inr (.inr (some 84))), some (.inl x0), some (.inl (ax_w32 (x0 + 2)))]) (st' := []) (h1 := hp L s c e) rfl ?_
        exact bl_229_40 FU _ _ _ _ h
/-- MachineTextModel.bounds(IJJ)Z -/
noncomputable def f_234 (x0 x1 x2 : Int) (s : Sg) : Option (Int × Sg) :=
  ((f_218 x0 s).bind fun q1 =>
  (if ¬ (f_207 q1 x1 x2 s) = 0 then
    some (f_207 q1 x1 x2 s, s)
  else
    (gd (0 ≤ x0 ∧ x0 < 8200) (
    ((some (f_235 (s 89 x0.toNat) s)).bind fun q2 =>
    some (f_207 q1 x1 x2 s, q2))))))
theorem ev_234 {L c : Nat} {e : Nat → Nat} {s : Sg} {x0 x1 x2 : Int} {q : Int × Sg} (h : f_234 x0 x1 x2 s = some q) : EvP 4 234 [.inr (.inr (some 84)), .inl x0, .inr (.inl x1), .inr (.inl x2)] (hp L s c e) (oI L c e q) := by
  unfold f_234 at h
  refine EvP.of (μ := tb_m234) (ls := [some (.inr (.inr (some 84))), some (.inl x0), some (.inr (.inl x1)), none, some (.inr (.inl x2)), none, none]) rfl (Nat.le_of_ble_eq_true rfl) rfl ?_
  refine RuP.step (pc' := 1) (ls' := [some (.inr (.inr (some 84))), some (.inl x0), some (.inr (.inl x1)), none, some (.inr (.inl x2)), none, none]) (st' := [.inr (.inr (some 84))]) (h1 := hp L s c e) rfl ?_
  refine RuP.step (pc' := 2) (ls' := [some (.inr (.inr (some 84))), some (.inl x0), some (.inr (.inl x1)), none, some (.inr (.inl x2)), none, none]) (st' := [.inl x0, .inr (.inr (some 84))]) (h1 := hp L s c e) rfl ?_
  obtain ⟨q1, h1, h⟩ := bd_some h
  refine RuP.cJ rfl ((ev_218 h1).up (by decide)) ?_
  refine RuP.step (pc' := 6) (ls' := [some (.inr (.inr (some 84))), some (.inl x0), some (.inr (.inl x1)), none, some (.inr (.inl x2)), none, none]) (st' := [.inr (.inl x1), .inr (.inl q1)]) (h1 := hp L s c e) rfl ?_
  refine RuP.step (pc' := 8) (ls' := [some (.inr (.inr (some 84))), some (.inl x0), some (.inr (.inl x1)), none, some (.inr (.inl x2)), none, none]) (st' := [.inr (.inl x2), .inr (.inl x1), .inr (.inl q1)]) (h1 := hp L s c e) rfl ?_
  refine RuP.cI rfl (EvP.i ((ev_207 q1 x1 x2).up (by decide))) ?_
  refine RuP.step (pc' := 13) (ls' := [some (.inr (.inr (some 84))), some (.inl x0), some (.inr (.inl x1)), none, some (.inr (.inl x2)), none, some (.inl (f_207 q1 x1 x2 s))]) (st' := []) (h1 := hp L s c e) rfl ?_
  refine RuP.step (pc' := 15) (ls' := [some (.inr (.inr (some 84))), some (.inl x0), some (.inr (.inl x1)), none, some (.inr (.inl x2)), none, some (.inl (f_207 q1 x1 x2 s))]) (st' := [.inl (f_207 q1 x1 x2 s)]) (h1 := hp L s c e) rfl ?_
  by_cases h0 : ¬ (f_207 q1 x1 x2 s) = 0
  · rw [if_pos h0] at h
    refine RuP.jy rfl h0 ?_
    refine RuP.step (pc' := 30) (ls' := [some (.inr (.inr (some 84))), some (.inl x0), some (.inr (.inl x1)), none, some (.inr (.inl x2)), none, some (.inl (f_207 q1 x1 x2 s))]) (st' := [.inl (f_207 q1 x1 x2 s)]) (h1 := hp L s c e) rfl ?_
    cases h
    exact RuP.dB rfl (rok3 (EvP.i (ev_207 (L := L) (c := c) (e := e) (s := s) q1 x1 x2)) rfl rfl)
  · rw [if_neg h0] at h
    refine RuP.jn rfl h0 ?_
    refine RuP.step (pc' := 19) (ls' := [some (.inr (.inr (some 84))), some (.inl x0), some (.inr (.inl x1)), none, some (.inr (.inl x2)), none, some (.inl (f_207 q1 x1 x2 s))]) (st' := [.inr (.inr (some 84))]) (h1 := hp L s c e) rfl ?_
    refine RuP.step (pc' := 20) (ls' := [some (.inr (.inr (some 84))), some (.inl x0), some (.inr (.inl x1)), none, some (.inr (.inl x2)), none, some (.inl (f_207 q1 x1 x2 s))]) (st' := [.inr (.inr (some 84)), .inr (.inr (some 84))]) (h1 := hp L s c e) rfl ?_
    refine RuP.step (pc' := 23) (ls' := [some (.inr (.inr (some 84))), some (.inl x0), some (.inr (.inl x1)), none, some (.inr (.inl x2)), none, some (.inl (f_207 q1 x1 x2 s))]) (st' := [.inr (.inr (some 89)), .inr (.inr (some 84))]) (h1 := hp L s c e) rfl ?_
    refine RuP.step (pc' := 24) (ls' := [some (.inr (.inr (some 84))), some (.inl x0), some (.inr (.inl x1)), none, some (.inr (.inl x2)), none, some (.inl (f_207 q1 x1 x2 s))]) (st' := [.inl x0, .inr (.inr (some 89)), .inr (.inr (some 84))]) (h1 := hp L s c e) rfl ?_
    obtain ⟨b1, h⟩ := gd_some h
    refine RuP.ald (f := fun t => t == 0) (j := x0) (a := 89) rfl rfl b1.1 b1.2 ?_
    obtain ⟨q2, h1, h⟩ := bd_some h
    refine RuP.cVe h1 rfl (EvP.v ((ev_235 (s 89 x0.toNat)).up (by decide))) ?_
    refine RuP.step (pc' := 30) (ls' := [some (.inr (.inr (some 84))), some (.inl x0), some (.inr (.inl x1)), none, some (.inr (.inl x2)), none, some (.inl (f_207 q1 x1 x2 s))]) (st' := [.inl (f_207 q1 x1 x2 s)]) (h1 := hp L q2 c e) rfl ?_
    cases h
    exact RuP.dB rfl (rok3 (EvP.i (ev_207 (L := L) (c := c) (e := e) (s := s) q1 x1 x2)) rfl rfl)
/-- MachineTextModel.statementOf(I)I -/
noncomputable def j_238_2 : Nat → Int → Int → Sg → Option Int
  | 0, _, _, _ => none
  | F + 1, l1, l2, s =>
    (if s 84 19 ≤ l2 then
      some (-1)
    else
      (gd (0 ≤ l2 ∧ l2 < 4100) (
      ((f_239 (s 95 l2.toNat) l1 s).bind fun q1 =>
      (if q1 = 0 then
        (j_238_2 F) l1 (ax_w32 (l2 + 1)) s
      else
        some l2)))))
theorem bl_238_2 {L c : Nat} {e : Nat → Nat} : ∀ (F : Nat) (l1 l2 : Int) (s : Sg) (q : Int), j_238_2 F l1 l2 s = some q → RuP 1 tb_m238 2 [some (.inr (.inr (some 84))), some (.inl l1), some (.inl l2)] [] (hp L s c e) (oI L c e (q, s)) := by
  intro F
  induction F with
  | zero =>
    intro l1 l2 s q h
    rw [j_238_2] at h
    cases h
  | succ F ih =>
    intro l1 l2 s q h
    rw [j_238_2] at h
    refine RuP.step (pc' := 3) (ls' := [some (.inr (.inr (some 84))), some (.inl l1), some (.inl l2)]) (st' := [.inl l2]) (h1 := hp L s c e) rfl ?_
    refine RuP.step (pc' := 4) (ls' := [some (.inr (.inr (some 84))), some (.inl l1), some (.inl l2)]) (st' := [.inr (.inr (some 84)), .inl l2]) (h1 := hp L s c e) rfl ?_
    refine RuP.step (pc' := 7) (ls' := [some (.inr (.inr (some 84))), some (.inl l1), some (.inl l2)]) (st' := [.inl (s 84 19), .inl l2]) (h1 := hp L s c e) rfl ?_
    by_cases h0 : s 84 19 ≤ l2
    · rw [if_pos h0] at h
      refine RuP.jy rfl h0 ?_
      refine RuP.step (pc' := 33) (ls' := [some (.inr (.inr (some 84))), some (.inl l1), some (.inl l2)]) (st' := [.inl (-1)]) (h1 := hp L s c e) rfl ?_
      cases h
      exact RuP.dI rfl
    · rw [if_neg h0] at h
      refine RuP.jn rfl h0 ?_
      refine RuP.step (pc' := 11) (ls' := [some (.inr (.inr (some 84))), some (.inl l1), some (.inl l2)]) (st' := [.inr (.inr (some 84))]) (h1 := hp L s c e) rfl ?_
      refine RuP.step (pc' := 12) (ls' := [some (.inr (.inr (some 84))), some (.inl l1), some (.inl l2)]) (st' := [.inr (.inr (some 84)), .inr (.inr (some 84))]) (h1 := hp L s c e) rfl ?_
      refine RuP.step (pc' := 15) (ls' := [some (.inr (.inr (some 84))), some (.inl l1), some (.inl l2)]) (st' := [.inr (.inr (some 95)), .inr (.inr (some 84))]) (h1 := hp L s c e) rfl ?_
      refine RuP.step (pc' := 16) (ls' := [some (.inr (.inr (some 84))), some (.inl l1), some (.inl l2)]) (st' := [.inl l2, .inr (.inr (some 95)), .inr (.inr (some 84))]) (h1 := hp L s c e) rfl ?_
      obtain ⟨b1, h⟩ := gd_some h
      refine RuP.ald (f := fun t => t == 0) (j := l2) (a := 95) rfl rfl b1.1 b1.2 ?_
      refine RuP.step (pc' := 18) (ls' := [some (.inr (.inr (some 84))), some (.inl l1), some (.inl l2)]) (st' := [.inl l1, .inl (s 95 l2.toNat), .inr (.inr (some 84))]) (h1 := hp L s c e) rfl ?_
      obtain ⟨q1, h1, h⟩ := bd_some h
      refine RuP.cI rfl ((ev_239 h1).up (by decide)) ?_
      by_cases h2 : q1 = 0
      · rw [if_pos h2] at h
        refine RuP.jy rfl h2 ?_
        refine RuP.step (pc' := 29) (ls' := [some (.inr (.inr (some 84))), some (.inl l1), some (.inl (ax_w32 (l2 + 1)))]) (st' := []) (h1 := hp L s c e) rfl ?_
        refine RuP.step (pc' := 2) (ls' := [some (.inr (.inr (some 84))), some (.inl l1), some (.inl (ax_w32 (l2 + 1)))]) (st' := []) (h1 := hp L s c e) rfl ?_
        exact ih _ _ _ _ h
      · rw [if_neg h2] at h
        refine RuP.jn rfl h2 ?_
        refine RuP.step (pc' := 25) (ls' := [some (.inr (.inr (some 84))), some (.inl l1), some (.inl l2)]) (st' := [.inl l2]) (h1 := hp L s c e) rfl ?_
        cases h
        exact RuP.dI rfl
noncomputable def f_238 (x0 : Int) (s : Sg) : Option Int :=
  j_238_2 FU x0 0 s
theorem ev_238 {L c : Nat} {e : Nat → Nat} {s : Sg} {x0 : Int} {q : Int} (h : f_238 x0 s = some q) : EvP 2 238 [.inr (.inr (some 84)), .inl x0] (hp L s c e) (oI L c e (q, s)) := by
  unfold f_238 at h
  refine EvP.of (μ := tb_m238) (ls := [some (.inr (.inr (some 84))), some (.inl x0), none]) rfl (Nat.le_of_ble_eq_true rfl) rfl ?_
  refine RuP.step (pc' := 1) (ls' := [some (.inr (.inr (some 84))), some (.inl x0), none]) (st' := [.inl 0]) (h1 := hp L s c e) rfl ?_
  refine RuP.step (pc' := 2) (ls' := [some (.inr (.inr (some 84))), some (.inl x0), some (.inl 0)]) (st' := []) (h1 := hp L s c e) rfl ?_
  exact bl_238_2 FU _ _ _ _ h
/-- MachineTextModel.findFar(I)V -/
noncomputable def j_244_139 (k36 : (Int → Int → Sg → Option Sg)) (l2 l3 : Int) (s : Sg) : Option Sg :=
  k36 l2 (ax_w32 (l3 + 1)) s
theorem bl_244_139 {L c : Nat} {e : Nat → Nat} {k36 : (Int → Int → Sg → Option Sg)} (hk36 : ∀ (d4 : Option ax_V) (z1 : Int) (l2 l3 : Int) (s : Sg) (q : Sg), k36 l2 l3 s = some q → RuP 2 tb_m244 36 [some (.inr (.inr (some 84))), some (.inl z1), some (.inl l2), some (.inl l3), d4] [] (hp L s c e) (oV L c e q)) : ∀ (z1 z4 : Int) (l2 l3 : Int) (s : Sg) (q : Sg), j_244_139 k36 l2 l3 s = some q → RuP 2 tb_m244 139 [some (.inr (.inr (some 84))), some (.inl z1), some (.inl l2), some (.inl l3), some (.inl z4)] [] (hp L s c e) (oV L c e q) := by
  intro z1 z4 l2 l3 s q h
  unfold j_244_139 at h
  refine RuP.step (pc' := 142) (ls' := [some (.inr (.inr (some 84))), some (.inl z1), some (.inl l2), some (.inl (ax_w32 (l3 + 1))), some (.inl z4)]) (st' := []) (h1 := hp L s c e) rfl ?_
  refine RuP.step (pc' := 36) (ls' := [some (.inr (.inr (some 84))), some (.inl z1), some (.inl l2), some (.inl (ax_w32 (l3 + 1))), some (.inl z4)]) (st' := []) (h1 := hp L s c e) rfl ?_
  exact hk36 _ _ _ _ _ _ h
noncomputable def j_244_133 (k36 : (Int → Int → Sg → Option Sg)) (k45 : (Int → Int → Int → Sg → Option Sg)) (l2 l3 l4 : Int) (s : Sg) : Option Sg :=
  k45 l2 l3 (ax_w32 (l4 + 1)) s
theorem bl_244_133 {L c : Nat} {e : Nat → Nat} {k36 : (Int → Int → Sg → Option Sg)} {k45 : (Int → Int → Int → Sg → Option Sg)} (hk36 : ∀ (d4 : Option ax_V) (z1 : Int) (l2 l3 : Int) (s : Sg) (q : Sg), k36 l2 l3 s = some q → RuP 2 tb_m244 36 [some (.inr (.inr (some 84))), some (.inl z1), some (.inl l2), some (.inl l3), d4] [] (hp L s c e) (oV L c e q)) (hk45 : ∀ (z1 : Int) (l2 l3 l4 : Int) (s : Sg) (q : Sg), k45 l2 l3 l4 s = some q → RuP 2 tb_m244 45 [some (.inr (.inr (some 84))), some (.inl z1), some (.inl l2), some (.inl l3), some (.inl l4)] [] (hp L s c e) (oV L c e q)) : ∀ (z1 : Int) (l2 l3 l4 : Int) (s : Sg) (q : Sg), j_244_133 k36 k45 l2 l3 l4 s = some q → RuP 2 tb_m244 133 [some (.inr (.inr (some 84))), some (.inl z1), some (.inl l2), some (.inl l3), some (.inl l4)] [] (hp L s c e) (oV L c e q) := by
  intro z1 l2 l3 l4 s q h
  unfold j_244_133 at h
  refine RuP.step (pc' := 136) (ls' := [some (.inr (.inr (some 84))), some (.inl z1), some (.inl l2), some (.inl l3), some (.inl (ax_w32 (l4 + 1)))]) (st' := []) (h1 := hp L s c e) rfl ?_
  refine RuP.step (pc' := 45) (ls' := [some (.inr (.inr (some 84))), some (.inl z1), some (.inl l2), some (.inl l3), some (.inl (ax_w32 (l4 + 1)))]) (st' := []) (h1 := hp L s c e) rfl ?_
  exact hk45 _ _ _ _ _ _ h
noncomputable def j_244_45 (k36 : (Int → Int → Sg → Option Sg)) : Nat → Int → Int → Int → Sg → Option Sg
  | 0, _, _, _, _ => none
  | F + 1, l2, l3, l4, s =>
    (if s 84 47 ≤ l4 then
      j_244_139 k36 l2 l3 s
    else
      (gd (0 ≤ l4 ∧ l4 < 8200) (
      (if ¬ (s 116 l4.toNat) = 3 then
        j_244_133 k36 (j_244_45 k36 F) l2 l3 l4 s
      else
        (gd (0 ≤ l4 ∧ l4 < 8200) (
        (gd (0 ≤ s 123 l4.toNat ∧ s 123 l4.toNat < 4100) (
        (if ¬ (s 94 ((s 123 l4.toNat).toNat)) = 2 then
          j_244_133 k36 (j_244_45 k36 F) l2 l3 l4 s
        else
          (gd (0 ≤ l4 ∧ l4 < 8200) (
          (gd (0 ≤ s 123 l4.toNat ∧ s 123 l4.toNat < 4100) (
          (if 0 ≤ s 133 ((s 123 l4.toNat).toNat) then
            j_244_133 k36 (j_244_45 k36 F) l2 l3 l4 s
          else
            (gd (0 ≤ l4 ∧ l4 < 8200) (
            ((f_238 (s 118 l4.toNat) s).bind fun q1 =>
            (gd (0 ≤ q1 ∧ q1 < 4100) (
            (if ¬ (s 133 q1.toNat) = ax_w32 (l3 - 1) then
              j_244_133 k36 (j_244_45 k36 F) l2 l3 l4 s
            else
              (gd (0 ≤ l4 ∧ l4 < 8200) (
              (gd (0 ≤ s 123 l4.toNat ∧ s 123 l4.toNat < 4100) (
              j_244_133 k36 (j_244_45 k36 F) 1 l3 l4 (ax_u2 s 133 ((s 123 l4.toNat).toNat) l3)))))))))))))))))))))))))
theorem bl_244_45 {L c : Nat} {e : Nat → Nat} {k36 : (Int → Int → Sg → Option Sg)} (hk36 : ∀ (d4 : Option ax_V) (z1 : Int) (l2 l3 : Int) (s : Sg) (q : Sg), k36 l2 l3 s = some q → RuP 2 tb_m244 36 [some (.inr (.inr (some 84))), some (.inl z1), some (.inl l2), some (.inl l3), d4] [] (hp L s c e) (oV L c e q)) : ∀ (F : Nat) (z1 : Int) (l2 l3 l4 : Int) (s : Sg) (q : Sg), j_244_45 k36 F l2 l3 l4 s = some q → RuP 2 tb_m244 45 [some (.inr (.inr (some 84))), some (.inl z1), some (.inl l2), some (.inl l3), some (.inl l4)] [] (hp L s c e) (oV L c e q) := by
  intro F
  induction F with
  | zero =>
    intro z1 l2 l3 l4 s q h
    rw [j_244_45] at h
    cases h
  | succ F ih =>
    intro z1 l2 l3 l4 s q h
    rw [j_244_45] at h
    refine RuP.step (pc' := 47) (ls' := [some (.inr (.inr (some 84))), some (.inl z1), some (.inl l2), some (.inl l3), some (.inl l4)]) (st' := [.inl l4]) (h1 := hp L s c e) rfl ?_
    refine RuP.step (pc' := 48) (ls' := [some (.inr (.inr (some 84))), some (.inl z1), some (.inl l2), some (.inl l3), some (.inl l4)]) (st' := [.inr (.inr (some 84)), .inl l4]) (h1 := hp L s c e) rfl ?_
    refine RuP.step (pc' := 51) (ls' := [some (.inr (.inr (some 84))), some (.inl z1), some (.inl l2), some (.inl l3), some (.inl l4)]) (st' := [.inl (s 84 47), .inl l4]) (h1 := hp L s c e) rfl ?_
    by_cases h0 : s 84 47 ≤ l4
    · rw [if_pos h0] at h
      refine RuP.jy rfl h0 ?_
      exact bl_244_139 hk36 _ _ _ _ _ _ h
    · rw [if_neg h0] at h
      refine RuP.jn rfl h0 ?_
      refine RuP.step (pc' := 55) (ls' := [some (.inr (.inr (some 84))), some (.inl z1), some (.inl l2), some (.inl l3), some (.inl l4)]) (st' := [.inr (.inr (some 84))]) (h1 := hp L s c e) rfl ?_
      refine RuP.step (pc' := 58) (ls' := [some (.inr (.inr (some 84))), some (.inl z1), some (.inl l2), some (.inl l3), some (.inl l4)]) (st' := [.inr (.inr (some 116))]) (h1 := hp L s c e) rfl ?_
      refine RuP.step (pc' := 60) (ls' := [some (.inr (.inr (some 84))), some (.inl z1), some (.inl l2), some (.inl l3), some (.inl l4)]) (st' := [.inl l4, .inr (.inr (some 116))]) (h1 := hp L s c e) rfl ?_
      obtain ⟨b1, h⟩ := gd_some h
      refine RuP.ald (f := fun t => t == 0) (j := l4) (a := 116) rfl rfl b1.1 b1.2 ?_
      refine RuP.step (pc' := 62) (ls' := [some (.inr (.inr (some 84))), some (.inl z1), some (.inl l2), some (.inl l3), some (.inl l4)]) (st' := [.inl 3, .inl (s 116 l4.toNat)]) (h1 := hp L s c e) rfl ?_
      by_cases h2 : ¬ (s 116 l4.toNat) = 3
      · rw [if_pos h2] at h
        refine RuP.jy rfl h2 ?_
        exact bl_244_133 hk36 ih _ _ _ _ _ _ h
      · rw [if_neg h2] at h
        refine RuP.jn rfl h2 ?_
        refine RuP.step (pc' := 66) (ls' := [some (.inr (.inr (some 84))), some (.inl z1), some (.inl l2), some (.inl l3), some (.inl l4)]) (st' := [.inr (.inr (some 84))]) (h1 := hp L s c e) rfl ?_
        refine RuP.step (pc' := 69) (ls' := [some (.inr (.inr (some 84))), some (.inl z1), some (.inl l2), some (.inl l3), some (.inl l4)]) (st' := [.inr (.inr (some 94))]) (h1 := hp L s c e) rfl ?_
        refine RuP.step (pc' := 70) (ls' := [some (.inr (.inr (some 84))), some (.inl z1), some (.inl l2), some (.inl l3), some (.inl l4)]) (st' := [.inr (.inr (some 84)), .inr (.inr (some 94))]) (h1 := hp L s c e) rfl ?_
        refine RuP.step (pc' := 73) (ls' := [some (.inr (.inr (some 84))), some (.inl z1), some (.inl l2), some (.inl l3), some (.inl l4)]) (st' := [.inr (.inr (some 123)), .inr (.inr (some 94))]) (h1 := hp L s c e) rfl ?_
        refine RuP.step (pc' := 75) (ls' := [some (.inr (.inr (some 84))), some (.inl z1), some (.inl l2), some (.inl l3), some (.inl l4)]) (st' := [.inl l4, .inr (.inr (some 123)), .inr (.inr (some 94))]) (h1 := hp L s c e) rfl ?_
        obtain ⟨b3, h⟩ := gd_some h
        refine RuP.ald (f := fun t => t == 0) (j := l4) (a := 123) rfl rfl b3.1 b3.2 ?_
        obtain ⟨b4, h⟩ := gd_some h
        refine RuP.ald (f := fun t => t == 0) (j := s 123 l4.toNat) (a := 94) rfl rfl b4.1 b4.2 ?_
        refine RuP.step (pc' := 78) (ls' := [some (.inr (.inr (some 84))), some (.inl z1), some (.inl l2), some (.inl l3), some (.inl l4)]) (st' := [.inl 2, .inl (s 94 ((s 123 l4.toNat).toNat))]) (h1 := hp L s c e) rfl ?_
        by_cases h5 : ¬ (s 94 ((s 123 l4.toNat).toNat)) = 2
        · rw [if_pos h5] at h
          refine RuP.jy rfl h5 ?_
          exact bl_244_133 hk36 ih _ _ _ _ _ _ h
        · rw [if_neg h5] at h
          refine RuP.jn rfl h5 ?_
          refine RuP.step (pc' := 82) (ls' := [some (.inr (.inr (some 84))), some (.inl z1), some (.inl l2), some (.inl l3), some (.inl l4)]) (st' := [.inr (.inr (some 84))]) (h1 := hp L s c e) rfl ?_
          refine RuP.step (pc' := 85) (ls' := [some (.inr (.inr (some 84))), some (.inl z1), some (.inl l2), some (.inl l3), some (.inl l4)]) (st' := [.inr (.inr (some 133))]) (h1 := hp L s c e) rfl ?_
          refine RuP.step (pc' := 86) (ls' := [some (.inr (.inr (some 84))), some (.inl z1), some (.inl l2), some (.inl l3), some (.inl l4)]) (st' := [.inr (.inr (some 84)), .inr (.inr (some 133))]) (h1 := hp L s c e) rfl ?_
          refine RuP.step (pc' := 89) (ls' := [some (.inr (.inr (some 84))), some (.inl z1), some (.inl l2), some (.inl l3), some (.inl l4)]) (st' := [.inr (.inr (some 123)), .inr (.inr (some 133))]) (h1 := hp L s c e) rfl ?_
          refine RuP.step (pc' := 91) (ls' := [some (.inr (.inr (some 84))), some (.inl z1), some (.inl l2), some (.inl l3), some (.inl l4)]) (st' := [.inl l4, .inr (.inr (some 123)), .inr (.inr (some 133))]) (h1 := hp L s c e) rfl ?_
          obtain ⟨b6, h⟩ := gd_some h
          refine RuP.ald (f := fun t => t == 0) (j := l4) (a := 123) rfl rfl b6.1 b6.2 ?_
          obtain ⟨b7, h⟩ := gd_some h
          refine RuP.ald (f := fun t => t == 0) (j := s 123 l4.toNat) (a := 133) rfl rfl b7.1 b7.2 ?_
          by_cases h8 : 0 ≤ s 133 ((s 123 l4.toNat).toNat)
          · rw [if_pos h8] at h
            refine RuP.jy rfl h8 ?_
            exact bl_244_133 hk36 ih _ _ _ _ _ _ h
          · rw [if_neg h8] at h
            refine RuP.jn rfl h8 ?_
            refine RuP.step (pc' := 97) (ls' := [some (.inr (.inr (some 84))), some (.inl z1), some (.inl l2), some (.inl l3), some (.inl l4)]) (st' := [.inr (.inr (some 84))]) (h1 := hp L s c e) rfl ?_
            refine RuP.step (pc' := 100) (ls' := [some (.inr (.inr (some 84))), some (.inl z1), some (.inl l2), some (.inl l3), some (.inl l4)]) (st' := [.inr (.inr (some 133))]) (h1 := hp L s c e) rfl ?_
            refine RuP.step (pc' := 101) (ls' := [some (.inr (.inr (some 84))), some (.inl z1), some (.inl l2), some (.inl l3), some (.inl l4)]) (st' := [.inr (.inr (some 84)), .inr (.inr (some 133))]) (h1 := hp L s c e) rfl ?_
            refine RuP.step (pc' := 102) (ls' := [some (.inr (.inr (some 84))), some (.inl z1), some (.inl l2), some (.inl l3), some (.inl l4)]) (st' := [.inr (.inr (some 84)), .inr (.inr (some 84)), .inr (.inr (some 133))]) (h1 := hp L s c e) rfl ?_
            refine RuP.step (pc' := 105) (ls' := [some (.inr (.inr (some 84))), some (.inl z1), some (.inl l2), some (.inl l3), some (.inl l4)]) (st' := [.inr (.inr (some 118)), .inr (.inr (some 84)), .inr (.inr (some 133))]) (h1 := hp L s c e) rfl ?_
            refine RuP.step (pc' := 107) (ls' := [some (.inr (.inr (some 84))), some (.inl z1), some (.inl l2), some (.inl l3), some (.inl l4)]) (st' := [.inl l4, .inr (.inr (some 118)), .inr (.inr (some 84)), .inr (.inr (some 133))]) (h1 := hp L s c e) rfl ?_
            obtain ⟨b9, h⟩ := gd_some h
            refine RuP.ald (f := fun t => t == 0) (j := l4) (a := 118) rfl rfl b9.1 b9.2 ?_
            obtain ⟨q1, h1, h⟩ := bd_some h
            refine RuP.cI rfl ((ev_238 h1).up (by decide)) ?_
            obtain ⟨b10, h⟩ := gd_some h
            refine RuP.ald (f := fun t => t == 0) (j := q1) (a := 133) rfl rfl b10.1 b10.2 ?_
            refine RuP.step (pc' := 113) (ls' := [some (.inr (.inr (some 84))), some (.inl z1), some (.inl l2), some (.inl l3), some (.inl l4)]) (st' := [.inl l3, .inl (s 133 q1.toNat)]) (h1 := hp L s c e) rfl ?_
            refine RuP.step (pc' := 114) (ls' := [some (.inr (.inr (some 84))), some (.inl z1), some (.inl l2), some (.inl l3), some (.inl l4)]) (st' := [.inl 1, .inl l3, .inl (s 133 q1.toNat)]) (h1 := hp L s c e) rfl ?_
            refine RuP.step (pc' := 115) (ls' := [some (.inr (.inr (some 84))), some (.inl z1), some (.inl l2), some (.inl l3), some (.inl l4)]) (st' := [.inl (ax_w32 (l3 - 1)), .inl (s 133 q1.toNat)]) (h1 := hp L s c e) rfl ?_
            by_cases h11 : ¬ (s 133 q1.toNat) = ax_w32 (l3 - 1)
            · rw [if_pos h11] at h
              refine RuP.jy rfl h11 ?_
              exact bl_244_133 hk36 ih _ _ _ _ _ _ h
            · rw [if_neg h11] at h
              refine RuP.jn rfl h11 ?_
              refine RuP.step (pc' := 119) (ls' := [some (.inr (.inr (some 84))), some (.inl z1), some (.inl l2), some (.inl l3), some (.inl l4)]) (st' := [.inr (.inr (some 84))]) (h1 := hp L s c e) rfl ?_
              refine RuP.step (pc' := 122) (ls' := [some (.inr (.inr (some 84))), some (.inl z1), some (.inl l2), some (.inl l3), some (.inl l4)]) (st' := [.inr (.inr (some 133))]) (h1 := hp L s c e) rfl ?_
              refine RuP.step (pc' := 123) (ls' := [some (.inr (.inr (some 84))), some (.inl z1), some (.inl l2), some (.inl l3), some (.inl l4)]) (st' := [.inr (.inr (some 84)), .inr (.inr (some 133))]) (h1 := hp L s c e) rfl ?_
              refine RuP.step (pc' := 126) (ls' := [some (.inr (.inr (some 84))), some (.inl z1), some (.inl l2), some (.inl l3), some (.inl l4)]) (st' := [.inr (.inr (some 123)), .inr (.inr (some 133))]) (h1 := hp L s c e) rfl ?_
              refine RuP.step (pc' := 128) (ls' := [some (.inr (.inr (some 84))), some (.inl z1), some (.inl l2), some (.inl l3), some (.inl l4)]) (st' := [.inl l4, .inr (.inr (some 123)), .inr (.inr (some 133))]) (h1 := hp L s c e) rfl ?_
              obtain ⟨b12, h⟩ := gd_some h
              refine RuP.ald (f := fun t => t == 0) (j := l4) (a := 123) rfl rfl b12.1 b12.2 ?_
              refine RuP.step (pc' := 130) (ls' := [some (.inr (.inr (some 84))), some (.inl z1), some (.inl l2), some (.inl l3), some (.inl l4)]) (st' := [.inl l3, .inl (s 123 l4.toNat), .inr (.inr (some 133))]) (h1 := hp L s c e) rfl ?_
              obtain ⟨b13, h⟩ := gd_some h
              refine RuP.ast (f := fun t => t == 0) (j := s 123 l4.toNat) (a := 133) rfl rfl (by decide) rfl rfl b13.1 b13.2 ?_
              refine RuP.step (pc' := 132) (ls' := [some (.inr (.inr (some 84))), some (.inl z1), some (.inl l2), some (.inl l3), some (.inl l4)]) (st' := [.inl 1]) (h1 := hp L (ax_u2 s 133 ((s 123 l4.toNat).toNat) l3) c e) rfl ?_
              refine RuP.step (pc' := 133) (ls' := [some (.inr (.inr (some 84))), some (.inl z1), some (.inl 1), some (.inl l3), some (.inl l4)]) (st' := []) (h1 := hp L (ax_u2 s 133 ((s 123 l4.toNat).toNat) l3) c e) rfl ?_
              exact bl_244_133 hk36 ih _ _ _ _ _ _ h
noncomputable def j_244_36 : Nat → Int → Int → Sg → Option Sg
  | 0, _, _, _ => none
  | F + 1, l2, l3, s =>
    (if l2 = 0 then
      some s
    else
      j_244_45 (j_244_36 F) FU 0 l3 0 s)
theorem bl_244_36 {L c : Nat} {e : Nat → Nat} : ∀ (F : Nat) (d4 : Option ax_V) (z1 : Int) (l2 l3 : Int) (s : Sg) (q : Sg), j_244_36 F l2 l3 s = some q → RuP 2 tb_m244 36 [some (.inr (.inr (some 84))), some (.inl z1), some (.inl l2), some (.inl l3), d4] [] (hp L s c e) (oV L c e q) := by
  intro F
  induction F with
  | zero =>
    intro d4 z1 l2 l3 s q h
    rw [j_244_36] at h
    cases h
  | succ F ih =>
    intro d4 z1 l2 l3 s q h
    rw [j_244_36] at h
    refine RuP.step (pc' := 37) (ls' := [some (.inr (.inr (some 84))), some (.inl z1), some (.inl l2), some (.inl l3), d4]) (st' := [.inl l2]) (h1 := hp L s c e) rfl ?_
    by_cases h0 : l2 = 0
    · rw [if_pos h0] at h
      refine RuP.jy rfl h0 ?_
      cases h
      exact RuP.dV rfl
    · rw [if_neg h0] at h
      refine RuP.jn rfl h0 ?_
      refine RuP.step (pc' := 41) (ls' := [some (.inr (.inr (some 84))), some (.inl z1), some (.inl l2), some (.inl l3), d4]) (st' := [.inl 0]) (h1 := hp L s c e) rfl ?_
      refine RuP.step (pc' := 42) (ls' := [some (.inr (.inr (some 84))), some (.inl z1), some (.inl 0), some (.inl l3), d4]) (st' := []) (h1 := hp L s c e) rfl ?_
      refine RuP.step (pc' := 43) (ls' := [some (.inr (.inr (some 84))), some (.inl z1), some (.inl 0), some (.inl l3), d4]) (st' := [.inl 0]) (h1 := hp L s c e) rfl ?_
      refine RuP.step (pc' := 45) (ls' := [some (.inr (.inr (some 84))), some (.inl z1), some (.inl 0), some (.inl l3), some (.inl 0)]) (st' := []) (h1 := hp L s c e) rfl ?_
      exact bl_244_45 ih FU _ _ _ _ _ _ h
noncomputable def j_244_32 (s : Sg) : Option Sg :=
  j_244_36 FU 1 1 s
theorem bl_244_32 {L c : Nat} {e : Nat → Nat} : ∀ (d3 d4 : Option ax_V) (z1 z2 : Int) (s : Sg) (q : Sg), j_244_32 s = some q → RuP 2 tb_m244 32 [some (.inr (.inr (some 84))), some (.inl z1), some (.inl z2), d3, d4] [] (hp L s c e) (oV L c e q) := by
  intro d3 d4 z1 z2 s q h
  unfold j_244_32 at h
  refine RuP.step (pc' := 33) (ls' := [some (.inr (.inr (some 84))), some (.inl z1), some (.inl z2), d3, d4]) (st' := [.inl 1]) (h1 := hp L s c e) rfl ?_
  refine RuP.step (pc' := 34) (ls' := [some (.inr (.inr (some 84))), some (.inl z1), some (.inl 1), d3, d4]) (st' := []) (h1 := hp L s c e) rfl ?_
  refine RuP.step (pc' := 35) (ls' := [some (.inr (.inr (some 84))), some (.inl z1), some (.inl 1), d3, d4]) (st' := [.inl 1]) (h1 := hp L s c e) rfl ?_
  refine RuP.step (pc' := 36) (ls' := [some (.inr (.inr (some 84))), some (.inl z1), some (.inl 1), some (.inl 1), d4]) (st' := []) (h1 := hp L s c e) rfl ?_
  exact bl_244_36 FU _ _ _ _ _ _ h
noncomputable def j_244_2 : Nat → Int → Int → Sg → Option Sg
  | 0, _, _, _ => none
  | F + 1, l1, l2, s =>
    (if s 84 19 ≤ l2 then
      j_244_32 s
    else
      (gd (0 ≤ l2 ∧ l2 < 4100) (
      (j_244_2 F) l1 (ax_w32 (l2 + 1)) (ax_u2 s 133 l2.toNat ((if ¬ l2 = l1 then (-1) else 0) : Int)))))
theorem bl_244_2 {L c : Nat} {e : Nat → Nat} : ∀ (F : Nat) (d3 d4 : Option ax_V) (l1 l2 : Int) (s : Sg) (q : Sg), j_244_2 F l1 l2 s = some q → RuP 2 tb_m244 2 [some (.inr (.inr (some 84))), some (.inl l1), some (.inl l2), d3, d4] [] (hp L s c e) (oV L c e q) := by
  intro F
  induction F with
  | zero =>
    intro d3 d4 l1 l2 s q h
    rw [j_244_2] at h
    cases h
  | succ F ih =>
    intro d3 d4 l1 l2 s q h
    rw [j_244_2] at h
    refine RuP.step (pc' := 3) (ls' := [some (.inr (.inr (some 84))), some (.inl l1), some (.inl l2), d3, d4]) (st' := [.inl l2]) (h1 := hp L s c e) rfl ?_
    refine RuP.step (pc' := 4) (ls' := [some (.inr (.inr (some 84))), some (.inl l1), some (.inl l2), d3, d4]) (st' := [.inr (.inr (some 84)), .inl l2]) (h1 := hp L s c e) rfl ?_
    refine RuP.step (pc' := 7) (ls' := [some (.inr (.inr (some 84))), some (.inl l1), some (.inl l2), d3, d4]) (st' := [.inl (s 84 19), .inl l2]) (h1 := hp L s c e) rfl ?_
    by_cases h0 : s 84 19 ≤ l2
    · rw [if_pos h0] at h
      refine RuP.jy rfl h0 ?_
      exact bl_244_32 _ _ _ _ _ _ h
    · rw [if_neg h0] at h
      refine RuP.jn rfl h0 ?_
      refine RuP.step (pc' := 11) (ls' := [some (.inr (.inr (some 84))), some (.inl l1), some (.inl l2), d3, d4]) (st' := [.inr (.inr (some 84))]) (h1 := hp L s c e) rfl ?_
      refine RuP.step (pc' := 14) (ls' := [some (.inr (.inr (some 84))), some (.inl l1), some (.inl l2), d3, d4]) (st' := [.inr (.inr (some 133))]) (h1 := hp L s c e) rfl ?_
      refine RuP.step (pc' := 15) (ls' := [some (.inr (.inr (some 84))), some (.inl l1), some (.inl l2), d3, d4]) (st' := [.inl l2, .inr (.inr (some 133))]) (h1 := hp L s c e) rfl ?_
      refine RuP.step (pc' := 16) (ls' := [some (.inr (.inr (some 84))), some (.inl l1), some (.inl l2), d3, d4]) (st' := [.inl l2, .inl l2, .inr (.inr (some 133))]) (h1 := hp L s c e) rfl ?_
      refine RuP.step (pc' := 17) (ls' := [some (.inr (.inr (some 84))), some (.inl l1), some (.inl l2), d3, d4]) (st' := [.inl l1, .inl l2, .inl l2, .inr (.inr (some 133))]) (h1 := hp L s c e) rfl ?_
      have J2 : ∀ v1_0 : Int, v1_0 = ((if ¬ l2 = l1 then (-1) else 0) : Int) → RuP 2 tb_m244 25 [some (.inr (.inr (some 84))), some (.inl l1), some (.inl l2), d3, d4] [.inl v1_0, .inl l2, .inr (.inr (some 133))] (hp L s c e) (oV L c e q) := by
        intro v1_0 ev1_0
        subst ev1_0
        obtain ⟨b2, h⟩ := gd_some h
        refine RuP.ast (f := fun t => t == 0) (j := l2) (a := 133) rfl rfl (by decide) rfl rfl b2.1 b2.2 ?_
        refine RuP.step (pc' := 29) (ls' := [some (.inr (.inr (some 84))), some (.inl l1), some (.inl (ax_w32 (l2 + 1))), d3, d4]) (st' := []) (h1 := hp L (ax_u2 s 133 l2.toNat ((if ¬ l2 = l1 then (-1) else 0) : Int)) c e) rfl ?_
        refine RuP.step (pc' := 2) (ls' := [some (.inr (.inr (some 84))), some (.inl l1), some (.inl (ax_w32 (l2 + 1))), d3, d4]) (st' := []) (h1 := hp L (ax_u2 s 133 l2.toNat ((if ¬ l2 = l1 then (-1) else 0) : Int)) c e) rfl ?_
        exact ih _ _ _ _ _ _ h
      by_cases h3 : ¬ l2 = l1
      · refine RuP.jy rfl h3 ?_
        refine RuP.step (pc' := 25) (ls' := [some (.inr (.inr (some 84))), some (.inl l1), some (.inl l2), d3, d4]) (st' := [.inl (-1), .inl l2, .inr (.inr (some 133))]) (h1 := hp L s c e) rfl ?_
        exact J2 _ (by simp only [if_pos h3])
      · refine RuP.jn rfl h3 ?_
        refine RuP.step (pc' := 21) (ls' := [some (.inr (.inr (some 84))), some (.inl l1), some (.inl l2), d3, d4]) (st' := [.inl 0, .inl l2, .inr (.inr (some 133))]) (h1 := hp L s c e) rfl ?_
        refine RuP.step (pc' := 25) (ls' := [some (.inr (.inr (some 84))), some (.inl l1), some (.inl l2), d3, d4]) (st' := [.inl 0, .inl l2, .inr (.inr (some 133))]) (h1 := hp L s c e) rfl ?_
        exact J2 _ (by simp only [if_neg h3])
noncomputable def f_244 (x0 : Int) (s : Sg) : Option Sg :=
  j_244_2 FU x0 0 s
theorem ev_244 {L c : Nat} {e : Nat → Nat} {s : Sg} {x0 : Int} {q : Sg} (h : f_244 x0 s = some q) : EvP 3 244 [.inr (.inr (some 84)), .inl x0] (hp L s c e) (oV L c e q) := by
  unfold f_244 at h
  refine EvP.of (μ := tb_m244) (ls := [some (.inr (.inr (some 84))), some (.inl x0), none, none, none]) rfl (Nat.le_of_ble_eq_true rfl) rfl ?_
  refine RuP.step (pc' := 1) (ls' := [some (.inr (.inr (some 84))), some (.inl x0), none, none, none]) (st' := [.inl 0]) (h1 := hp L s c e) rfl ?_
  refine RuP.step (pc' := 2) (ls' := [some (.inr (.inr (some 84))), some (.inl x0), some (.inl 0), none, none]) (st' := []) (h1 := hp L s c e) rfl ?_
  exact bl_244_2 FU _ _ _ _ _ _ h
/-- MachineTextModel.nearest(I)I -/
noncomputable def j_245_82 (k4 : (Int → Int → Int → Sg → Option Int)) (l1 l2 l3 : Int) (s : Sg) : Option Int :=
  k4 l1 l2 (ax_w32 (l3 + 1)) s
theorem bl_245_82 {L c : Nat} {e : Nat → Nat} {k4 : (Int → Int → Int → Sg → Option Int)} (hk4 : ∀ (d4 d5 : Option ax_V) (l1 l2 l3 : Int) (s : Sg) (q : Int), k4 l1 l2 l3 s = some q → RuP 2 tb_m245 4 [some (.inr (.inr (some 84))), some (.inl l1), some (.inl l2), some (.inl l3), d4, d5] [] (hp L s c e) (oI L c e (q, s))) : ∀ (d5 : Option ax_V) (z4 : Int) (l1 l2 l3 : Int) (s : Sg) (q : Int), j_245_82 k4 l1 l2 l3 s = some q → RuP 2 tb_m245 82 [some (.inr (.inr (some 84))), some (.inl l1), some (.inl l2), some (.inl l3), some (.inl z4), d5] [] (hp L s c e) (oI L c e (q, s)) := by
  intro d5 z4 l1 l2 l3 s q h
  unfold j_245_82 at h
  refine RuP.step (pc' := 85) (ls' := [some (.inr (.inr (some 84))), some (.inl l1), some (.inl l2), some (.inl (ax_w32 (l3 + 1))), some (.inl z4), d5]) (st' := []) (h1 := hp L s c e) rfl ?_
  refine RuP.step (pc' := 4) (ls' := [some (.inr (.inr (some 84))), some (.inl l1), some (.inl l2), some (.inl (ax_w32 (l3 + 1))), some (.inl z4), d5]) (st' := []) (h1 := hp L s c e) rfl ?_
  exact hk4 _ _ _ _ _ _ _ h
noncomputable def j_245_79 (k4 : (Int → Int → Int → Sg → Option Int)) (l1 l3 l5 : Int) (s : Sg) : Option Int :=
  j_245_82 k4 l1 l5 l3 s
theorem bl_245_79 {L c : Nat} {e : Nat → Nat} {k4 : (Int → Int → Int → Sg → Option Int)} (hk4 : ∀ (d4 d5 : Option ax_V) (l1 l2 l3 : Int) (s : Sg) (q : Int), k4 l1 l2 l3 s = some q → RuP 2 tb_m245 4 [some (.inr (.inr (some 84))), some (.inl l1), some (.inl l2), some (.inl l3), d4, d5] [] (hp L s c e) (oI L c e (q, s))) : ∀ (z2 z4 : Int) (l1 l3 l5 : Int) (s : Sg) (q : Int), j_245_79 k4 l1 l3 l5 s = some q → RuP 2 tb_m245 79 [some (.inr (.inr (some 84))), some (.inl l1), some (.inl z2), some (.inl l3), some (.inl z4), some (.inl l5)] [] (hp L s c e) (oI L c e (q, s)) := by
  intro z2 z4 l1 l3 l5 s q h
  unfold j_245_79 at h
  refine RuP.step (pc' := 81) (ls' := [some (.inr (.inr (some 84))), some (.inl l1), some (.inl z2), some (.inl l3), some (.inl z4), some (.inl l5)]) (st' := [.inl l5]) (h1 := hp L s c e) rfl ?_
  refine RuP.step (pc' := 82) (ls' := [some (.inr (.inr (some 84))), some (.inl l1), some (.inl l5), some (.inl l3), some (.inl z4), some (.inl l5)]) (st' := []) (h1 := hp L s c e) rfl ?_
  exact bl_245_82 hk4 _ _ _ _ _ _ _ h
noncomputable def j_245_4 : Nat → Int → Int → Int → Sg → Option Int
  | 0, _, _, _, _ => none
  | F + 1, l1, l2, l3, s =>
    (if s 84 11 ≤ l3 then
      some l2
    else
      (gd (0 ≤ l3 ∧ l3 < 8200) (
      (if s 135 l3.toNat < 0 then
        j_245_82 (j_245_4 F) l1 l2 l3 s
      else
        (gd (0 ≤ s 135 l3.toNat ∧ s 135 l3.toNat < 8200) (
        (if ¬ (s 123 ((s 135 l3.toNat).toNat)) = l1 then
          j_245_82 (j_245_4 F) l1 l2 l3 s
        else
          (gd (0 ≤ s 135 l3.toNat ∧ s 135 l3.toNat < 8200) (
          ((f_238 (s 118 ((s 135 l3.toNat).toNat)) s).bind fun q1 =>
          (gd (0 ≤ q1 ∧ q1 < 4100) (
          (if s 133 q1.toNat < 0 then
            j_245_82 (j_245_4 F) l1 l2 l3 s
          else
            (if l2 < 0 then
              j_245_79 (j_245_4 F) l1 l3 q1 s
            else
              (gd (0 ≤ q1 ∧ q1 < 4100) (
              (gd (0 ≤ l2 ∧ l2 < 4100) (
              j_245_82 (j_245_4 F) l1 ((if s 133 l2.toNat ≤ s 133 q1.toNat then l2 else q1) : Int) l3 s))))))))))))))))))
theorem bl_245_4 {L c : Nat} {e : Nat → Nat} : ∀ (F : Nat) (d4 d5 : Option ax_V) (l1 l2 l3 : Int) (s : Sg) (q : Int), j_245_4 F l1 l2 l3 s = some q → RuP 2 tb_m245 4 [some (.inr (.inr (some 84))), some (.inl l1), some (.inl l2), some (.inl l3), d4, d5] [] (hp L s c e) (oI L c e (q, s)) := by
  intro F
  induction F with
  | zero =>
    intro d4 d5 l1 l2 l3 s q h
    rw [j_245_4] at h
    cases h
  | succ F ih =>
    intro d4 d5 l1 l2 l3 s q h
    rw [j_245_4] at h
    refine RuP.step (pc' := 5) (ls' := [some (.inr (.inr (some 84))), some (.inl l1), some (.inl l2), some (.inl l3), d4, d5]) (st' := [.inl l3]) (h1 := hp L s c e) rfl ?_
    refine RuP.step (pc' := 6) (ls' := [some (.inr (.inr (some 84))), some (.inl l1), some (.inl l2), some (.inl l3), d4, d5]) (st' := [.inr (.inr (some 84)), .inl l3]) (h1 := hp L s c e) rfl ?_
    refine RuP.step (pc' := 9) (ls' := [some (.inr (.inr (some 84))), some (.inl l1), some (.inl l2), some (.inl l3), d4, d5]) (st' := [.inl (s 84 11), .inl l3]) (h1 := hp L s c e) rfl ?_
    by_cases h0 : s 84 11 ≤ l3
    · rw [if_pos h0] at h
      refine RuP.jy rfl h0 ?_
      refine RuP.step (pc' := 89) (ls' := [some (.inr (.inr (some 84))), some (.inl l1), some (.inl l2), some (.inl l3), d4, d5]) (st' := [.inl l2]) (h1 := hp L s c e) rfl ?_
      cases h
      exact RuP.dI rfl
    · rw [if_neg h0] at h
      refine RuP.jn rfl h0 ?_
      refine RuP.step (pc' := 13) (ls' := [some (.inr (.inr (some 84))), some (.inl l1), some (.inl l2), some (.inl l3), d4, d5]) (st' := [.inr (.inr (some 84))]) (h1 := hp L s c e) rfl ?_
      refine RuP.step (pc' := 16) (ls' := [some (.inr (.inr (some 84))), some (.inl l1), some (.inl l2), some (.inl l3), d4, d5]) (st' := [.inr (.inr (some 135))]) (h1 := hp L s c e) rfl ?_
      refine RuP.step (pc' := 17) (ls' := [some (.inr (.inr (some 84))), some (.inl l1), some (.inl l2), some (.inl l3), d4, d5]) (st' := [.inl l3, .inr (.inr (some 135))]) (h1 := hp L s c e) rfl ?_
      obtain ⟨b1, h⟩ := gd_some h
      refine RuP.ald (f := fun t => t == 0) (j := l3) (a := 135) rfl rfl b1.1 b1.2 ?_
      refine RuP.step (pc' := 20) (ls' := [some (.inr (.inr (some 84))), some (.inl l1), some (.inl l2), some (.inl l3), some (.inl (s 135 l3.toNat)), d5]) (st' := []) (h1 := hp L s c e) rfl ?_
      refine RuP.step (pc' := 22) (ls' := [some (.inr (.inr (some 84))), some (.inl l1), some (.inl l2), some (.inl l3), some (.inl (s 135 l3.toNat)), d5]) (st' := [.inl (s 135 l3.toNat)]) (h1 := hp L s c e) rfl ?_
      by_cases h2 : s 135 l3.toNat < 0
      · rw [if_pos h2] at h
        refine RuP.jy rfl h2 ?_
        exact bl_245_82 ih _ _ _ _ _ _ _ h
      · rw [if_neg h2] at h
        refine RuP.jn rfl h2 ?_
        refine RuP.step (pc' := 26) (ls' := [some (.inr (.inr (some 84))), some (.inl l1), some (.inl l2), some (.inl l3), some (.inl (s 135 l3.toNat)), d5]) (st' := [.inr (.inr (some 84))]) (h1 := hp L s c e) rfl ?_
        refine RuP.step (pc' := 29) (ls' := [some (.inr (.inr (some 84))), some (.inl l1), some (.inl l2), some (.inl l3), some (.inl (s 135 l3.toNat)), d5]) (st' := [.inr (.inr (some 123))]) (h1 := hp L s c e) rfl ?_
        refine RuP.step (pc' := 31) (ls' := [some (.inr (.inr (some 84))), some (.inl l1), some (.inl l2), some (.inl l3), some (.inl (s 135 l3.toNat)), d5]) (st' := [.inl (s 135 l3.toNat), .inr (.inr (some 123))]) (h1 := hp L s c e) rfl ?_
        obtain ⟨b3, h⟩ := gd_some h
        refine RuP.ald (f := fun t => t == 0) (j := s 135 l3.toNat) (a := 123) rfl rfl b3.1 b3.2 ?_
        refine RuP.step (pc' := 33) (ls' := [some (.inr (.inr (some 84))), some (.inl l1), some (.inl l2), some (.inl l3), some (.inl (s 135 l3.toNat)), d5]) (st' := [.inl l1, .inl (s 123 ((s 135 l3.toNat).toNat))]) (h1 := hp L s c e) rfl ?_
        by_cases h4 : ¬ (s 123 ((s 135 l3.toNat).toNat)) = l1
        · rw [if_pos h4] at h
          refine RuP.jy rfl h4 ?_
          exact bl_245_82 ih _ _ _ _ _ _ _ h
        · rw [if_neg h4] at h
          refine RuP.jn rfl h4 ?_
          refine RuP.step (pc' := 37) (ls' := [some (.inr (.inr (some 84))), some (.inl l1), some (.inl l2), some (.inl l3), some (.inl (s 135 l3.toNat)), d5]) (st' := [.inr (.inr (some 84))]) (h1 := hp L s c e) rfl ?_
          refine RuP.step (pc' := 38) (ls' := [some (.inr (.inr (some 84))), some (.inl l1), some (.inl l2), some (.inl l3), some (.inl (s 135 l3.toNat)), d5]) (st' := [.inr (.inr (some 84)), .inr (.inr (some 84))]) (h1 := hp L s c e) rfl ?_
          refine RuP.step (pc' := 41) (ls' := [some (.inr (.inr (some 84))), some (.inl l1), some (.inl l2), some (.inl l3), some (.inl (s 135 l3.toNat)), d5]) (st' := [.inr (.inr (some 118)), .inr (.inr (some 84))]) (h1 := hp L s c e) rfl ?_
          refine RuP.step (pc' := 43) (ls' := [some (.inr (.inr (some 84))), some (.inl l1), some (.inl l2), some (.inl l3), some (.inl (s 135 l3.toNat)), d5]) (st' := [.inl (s 135 l3.toNat), .inr (.inr (some 118)), .inr (.inr (some 84))]) (h1 := hp L s c e) rfl ?_
          obtain ⟨b5, h⟩ := gd_some h
          refine RuP.ald (f := fun t => t == 0) (j := s 135 l3.toNat) (a := 118) rfl rfl b5.1 b5.2 ?_
          obtain ⟨q1, h1, h⟩ := bd_some h
          refine RuP.cI rfl ((ev_238 h1).up (by decide)) ?_
          refine RuP.step (pc' := 49) (ls' := [some (.inr (.inr (some 84))), some (.inl l1), some (.inl l2), some (.inl l3), some (.inl (s 135 l3.toNat)), some (.inl q1)]) (st' := []) (h1 := hp L s c e) rfl ?_
          refine RuP.step (pc' := 50) (ls' := [some (.inr (.inr (some 84))), some (.inl l1), some (.inl l2), some (.inl l3), some (.inl (s 135 l3.toNat)), some (.inl q1)]) (st' := [.inr (.inr (some 84))]) (h1 := hp L s c e) rfl ?_
          refine RuP.step (pc' := 53) (ls' := [some (.inr (.inr (some 84))), some (.inl l1), some (.inl l2), some (.inl l3), some (.inl (s 135 l3.toNat)), some (.inl q1)]) (st' := [.inr (.inr (some 133))]) (h1 := hp L s c e) rfl ?_
          refine RuP.step (pc' := 55) (ls' := [some (.inr (.inr (some 84))), some (.inl l1), some (.inl l2), some (.inl l3), some (.inl (s 135 l3.toNat)), some (.inl q1)]) (st' := [.inl q1, .inr (.inr (some 133))]) (h1 := hp L s c e) rfl ?_
          obtain ⟨b6, h⟩ := gd_some h
          refine RuP.ald (f := fun t => t == 0) (j := q1) (a := 133) rfl rfl b6.1 b6.2 ?_
          by_cases h7 : s 133 q1.toNat < 0
          · rw [if_pos h7] at h
            refine RuP.jy rfl h7 ?_
            exact bl_245_82 ih _ _ _ _ _ _ _ h
          · rw [if_neg h7] at h
            refine RuP.jn rfl h7 ?_
            refine RuP.step (pc' := 60) (ls' := [some (.inr (.inr (some 84))), some (.inl l1), some (.inl l2), some (.inl l3), some (.inl (s 135 l3.toNat)), some (.inl q1)]) (st' := [.inl l2]) (h1 := hp L s c e) rfl ?_
            by_cases h8 : l2 < 0
            · rw [if_pos h8] at h
              refine RuP.jy rfl h8 ?_
              exact bl_245_79 ih _ _ _ _ _ _ _ h
            · rw [if_neg h8] at h
              refine RuP.jn rfl h8 ?_
              refine RuP.step (pc' := 64) (ls' := [some (.inr (.inr (some 84))), some (.inl l1), some (.inl l2), some (.inl l3), some (.inl (s 135 l3.toNat)), some (.inl q1)]) (st' := [.inr (.inr (some 84))]) (h1 := hp L s c e) rfl ?_
              refine RuP.step (pc' := 67) (ls' := [some (.inr (.inr (some 84))), some (.inl l1), some (.inl l2), some (.inl l3), some (.inl (s 135 l3.toNat)), some (.inl q1)]) (st' := [.inr (.inr (some 133))]) (h1 := hp L s c e) rfl ?_
              refine RuP.step (pc' := 69) (ls' := [some (.inr (.inr (some 84))), some (.inl l1), some (.inl l2), some (.inl l3), some (.inl (s 135 l3.toNat)), some (.inl q1)]) (st' := [.inl q1, .inr (.inr (some 133))]) (h1 := hp L s c e) rfl ?_
              obtain ⟨b9, h⟩ := gd_some h
              refine RuP.ald (f := fun t => t == 0) (j := q1) (a := 133) rfl rfl b9.1 b9.2 ?_
              refine RuP.step (pc' := 71) (ls' := [some (.inr (.inr (some 84))), some (.inl l1), some (.inl l2), some (.inl l3), some (.inl (s 135 l3.toNat)), some (.inl q1)]) (st' := [.inr (.inr (some 84)), .inl (s 133 q1.toNat)]) (h1 := hp L s c e) rfl ?_
              refine RuP.step (pc' := 74) (ls' := [some (.inr (.inr (some 84))), some (.inl l1), some (.inl l2), some (.inl l3), some (.inl (s 135 l3.toNat)), some (.inl q1)]) (st' := [.inr (.inr (some 133)), .inl (s 133 q1.toNat)]) (h1 := hp L s c e) rfl ?_
              refine RuP.step (pc' := 75) (ls' := [some (.inr (.inr (some 84))), some (.inl l1), some (.inl l2), some (.inl l3), some (.inl (s 135 l3.toNat)), some (.inl q1)]) (st' := [.inl l2, .inr (.inr (some 133)), .inl (s 133 q1.toNat)]) (h1 := hp L s c e) rfl ?_
              obtain ⟨b10, h⟩ := gd_some h
              refine RuP.ald (f := fun t => t == 0) (j := l2) (a := 133) rfl rfl b10.1 b10.2 ?_
              have J12 : ∀ v11_0 : Int, v11_0 = ((if s 133 l2.toNat ≤ s 133 q1.toNat then l2 else q1) : Int) → RuP 2 tb_m245 82 [some (.inr (.inr (some 84))), some (.inl l1), some (.inl v11_0), some (.inl l3), some (.inl (s 135 l3.toNat)), some (.inl q1)] [] (hp L s c e) (oI L c e (q, s)) := by
                intro v11_0 ev11_0
                subst ev11_0
                exact bl_245_82 ih _ _ _ _ _ _ _ h
              by_cases h12 : s 133 l2.toNat ≤ s 133 q1.toNat
              · refine RuP.jy rfl h12 ?_
                exact J12 _ (by simp only [if_pos h12])
              · refine RuP.jn rfl h12 ?_
                refine RuP.step (pc' := 81) (ls' := [some (.inr (.inr (some 84))), some (.inl l1), some (.inl l2), some (.inl l3), some (.inl (s 135 l3.toNat)), some (.inl q1)]) (st' := [.inl q1]) (h1 := hp L s c e) rfl ?_
                refine RuP.step (pc' := 82) (ls' := [some (.inr (.inr (some 84))), some (.inl l1), some (.inl q1), some (.inl l3), some (.inl (s 135 l3.toNat)), some (.inl q1)]) (st' := []) (h1 := hp L s c e) rfl ?_
                exact J12 _ (by simp only [if_neg h12])
noncomputable def f_245 (x0 : Int) (s : Sg) : Option Int :=
  j_245_4 FU x0 (-1) 0 s
theorem ev_245 {L c : Nat} {e : Nat → Nat} {s : Sg} {x0 : Int} {q : Int} (h : f_245 x0 s = some q) : EvP 3 245 [.inr (.inr (some 84)), .inl x0] (hp L s c e) (oI L c e (q, s)) := by
  unfold f_245 at h
  refine EvP.of (μ := tb_m245) (ls := [some (.inr (.inr (some 84))), some (.inl x0), none, none, none, none]) rfl (Nat.le_of_ble_eq_true rfl) rfl ?_
  refine RuP.step (pc' := 1) (ls' := [some (.inr (.inr (some 84))), some (.inl x0), none, none, none, none]) (st' := [.inl (-1)]) (h1 := hp L s c e) rfl ?_
  refine RuP.step (pc' := 2) (ls' := [some (.inr (.inr (some 84))), some (.inl x0), some (.inl (-1)), none, none, none]) (st' := []) (h1 := hp L s c e) rfl ?_
  refine RuP.step (pc' := 3) (ls' := [some (.inr (.inr (some 84))), some (.inl x0), some (.inl (-1)), none, none, none]) (st' := [.inl 0]) (h1 := hp L s c e) rfl ?_
  refine RuP.step (pc' := 4) (ls' := [some (.inr (.inr (some 84))), some (.inl x0), some (.inl (-1)), some (.inl 0), none, none]) (st' := []) (h1 := hp L s c e) rfl ?_
  exact bl_245_4 FU _ _ _ _ _ _ _ h
/-- MachineTextModel.widthOf(III)I -/
noncomputable def j_255_108 (l3 : Int) (s : Sg) : Option Int :=
  ((f_238 l3 s).bind fun q1 =>
  (gd (0 ≤ q1 ∧ q1 < 4100) (
  ((f_218 (s 97 q1.toNat) s).bind fun q2 =>
  some (ax_w32 q2)))))
theorem bl_255_108 {L c : Nat} {e : Nat → Nat} : ∀ (z1 z2 z4 : Int) (l3 : Int) (s : Sg) (q : Int), j_255_108 l3 s = some q → RuP 3 tb_m255 108 [some (.inr (.inr (some 84))), some (.inl z1), some (.inl z2), some (.inl l3), some (.inl z4)] [] (hp L s c e) (oI L c e (q, s)) := by
  intro z1 z2 z4 l3 s q h
  unfold j_255_108 at h
  refine RuP.step (pc' := 109) (ls' := [some (.inr (.inr (some 84))), some (.inl z1), some (.inl z2), some (.inl l3), some (.inl z4)]) (st' := [.inr (.inr (some 84))]) (h1 := hp L s c e) rfl ?_
  refine RuP.step (pc' := 110) (ls' := [some (.inr (.inr (some 84))), some (.inl z1), some (.inl z2), some (.inl l3), some (.inl z4)]) (st' := [.inr (.inr (some 84)), .inr (.inr (some 84))]) (h1 := hp L s c e) rfl ?_
  refine RuP.step (pc' := 113) (ls' := [some (.inr (.inr (some 84))), some (.inl z1), some (.inl z2), some (.inl l3), some (.inl z4)]) (st' := [.inr (.inr (some 97)), .inr (.inr (some 84))]) (h1 := hp L s c e) rfl ?_
  refine RuP.step (pc' := 114) (ls' := [some (.inr (.inr (some 84))), some (.inl z1), some (.inl z2), some (.inl l3), some (.inl z4)]) (st' := [.inr (.inr (some 84)), .inr (.inr (some 97)), .inr (.inr (some 84))]) (h1 := hp L s c e) rfl ?_
  refine RuP.step (pc' := 115) (ls' := [some (.inr (.inr (some 84))), some (.inl z1), some (.inl z2), some (.inl l3), some (.inl z4)]) (st' := [.inl l3, .inr (.inr (some 84)), .inr (.inr (some 97)), .inr (.inr (some 84))]) (h1 := hp L s c e) rfl ?_
  obtain ⟨q1, h1, h⟩ := bd_some h
  refine RuP.cI rfl ((ev_238 h1).up (by decide)) ?_
  obtain ⟨b0, h⟩ := gd_some h
  refine RuP.ald (f := fun t => t == 0) (j := q1) (a := 97) rfl rfl b0.1 b0.2 ?_
  obtain ⟨q2, h1, h⟩ := bd_some h
  refine RuP.cJ rfl ((ev_218 h1).up (by decide)) ?_
  refine RuP.step (pc' := 123) (ls' := [some (.inr (.inr (some 84))), some (.inl z1), some (.inl z2), some (.inl l3), some (.inl z4)]) (st' := [.inl (ax_w32 q2)]) (h1 := hp L s c e) rfl ?_
  cases h
  exact RuP.dI rfl
noncomputable def j_255_102 (k46 : (Int → Int → Int → Sg → Option Int)) (l1 l3 l4 : Int) (s : Sg) : Option Int :=
  k46 l1 l3 (ax_w32 (l4 + 1)) s
theorem bl_255_102 {L c : Nat} {e : Nat → Nat} {k46 : (Int → Int → Int → Sg → Option Int)} (hk46 : ∀ (z2 : Int) (l1 l3 l4 : Int) (s : Sg) (q : Int), k46 l1 l3 l4 s = some q → RuP 3 tb_m255 46 [some (.inr (.inr (some 84))), some (.inl l1), some (.inl z2), some (.inl l3), some (.inl l4)] [] (hp L s c e) (oI L c e (q, s))) : ∀ (z2 : Int) (l1 l3 l4 : Int) (s : Sg) (q : Int), j_255_102 k46 l1 l3 l4 s = some q → RuP 3 tb_m255 102 [some (.inr (.inr (some 84))), some (.inl l1), some (.inl z2), some (.inl l3), some (.inl l4)] [] (hp L s c e) (oI L c e (q, s)) := by
  intro z2 l1 l3 l4 s q h
  unfold j_255_102 at h
  refine RuP.step (pc' := 105) (ls' := [some (.inr (.inr (some 84))), some (.inl l1), some (.inl z2), some (.inl l3), some (.inl (ax_w32 (l4 + 1)))]) (st' := []) (h1 := hp L s c e) rfl ?_
  refine RuP.step (pc' := 46) (ls' := [some (.inr (.inr (some 84))), some (.inl l1), some (.inl z2), some (.inl l3), some (.inl (ax_w32 (l4 + 1)))]) (st' := []) (h1 := hp L s c e) rfl ?_
  exact hk46 _ _ _ _ _ _ h
noncomputable def j_255_89 (l4 : Int) (s : Sg) : Option Int :=
  (gd (0 ≤ l4 ∧ l4 < 8200) (
  ((f_218 (s 105 l4.toNat) s).bind fun q4 =>
  some (ax_w32 q4))))
theorem bl_255_89 {L c : Nat} {e : Nat → Nat} : ∀ (z1 z2 z3 : Int) (l4 : Int) (s : Sg) (q : Int), j_255_89 l4 s = some q → RuP 3 tb_m255 89 [some (.inr (.inr (some 84))), some (.inl z1), some (.inl z2), some (.inl z3), some (.inl l4)] [] (hp L s c e) (oI L c e (q, s)) := by
  intro z1 z2 z3 l4 s q h
  unfold j_255_89 at h
  refine RuP.step (pc' := 90) (ls' := [some (.inr (.inr (some 84))), some (.inl z1), some (.inl z2), some (.inl z3), some (.inl l4)]) (st' := [.inr (.inr (some 84))]) (h1 := hp L s c e) rfl ?_
  refine RuP.step (pc' := 91) (ls' := [some (.inr (.inr (some 84))), some (.inl z1), some (.inl z2), some (.inl z3), some (.inl l4)]) (st' := [.inr (.inr (some 84)), .inr (.inr (some 84))]) (h1 := hp L s c e) rfl ?_
  refine RuP.step (pc' := 94) (ls' := [some (.inr (.inr (some 84))), some (.inl z1), some (.inl z2), some (.inl z3), some (.inl l4)]) (st' := [.inr (.inr (some 105)), .inr (.inr (some 84))]) (h1 := hp L s c e) rfl ?_
  refine RuP.step (pc' := 96) (ls' := [some (.inr (.inr (some 84))), some (.inl z1), some (.inl z2), some (.inl z3), some (.inl l4)]) (st' := [.inl l4, .inr (.inr (some 105)), .inr (.inr (some 84))]) (h1 := hp L s c e) rfl ?_
  obtain ⟨b0, h⟩ := gd_some h
  refine RuP.ald (f := fun t => t == 0) (j := l4) (a := 105) rfl rfl b0.1 b0.2 ?_
  obtain ⟨q4, h1, h⟩ := bd_some h
  refine RuP.cJ rfl ((ev_218 h1).up (by decide)) ?_
  refine RuP.step (pc' := 101) (ls' := [some (.inr (.inr (some 84))), some (.inl z1), some (.inl z2), some (.inl z3), some (.inl l4)]) (st' := [.inl (ax_w32 q4)]) (h1 := hp L s c e) rfl ?_
  cases h
  exact RuP.dI rfl
noncomputable def j_255_46 : Nat → Int → Int → Int → Sg → Option Int
  | 0, _, _, _, _ => none
  | F + 1, l1, l3, l4, s =>
    (gd (0 ≤ l1 ∧ l1 < 4100) (
    (gd (0 ≤ l1 ∧ l1 < 4100) (
    (if ax_w32 ((s 98 l1.toNat) + (s 99 l1.toNat)) ≤ l4 then
      j_255_108 l3 s
    else
      (gd (0 ≤ l4 ∧ l4 < 8200) (
      (if s 104 l4.toNat < 0 then
        j_255_102 (j_255_46 F) l1 l3 l4 s
      else
        (gd (0 ≤ l4 ∧ l4 < 8200) (
        ((f_239 (s 104 l4.toNat) l3 s).bind fun q3 =>
        (if q3 = 0 then
          j_255_102 (j_255_46 F) l1 l3 l4 s
        else
          j_255_89 l4 s))))))))))))
theorem bl_255_46 {L c : Nat} {e : Nat → Nat} : ∀ (F : Nat) (z2 : Int) (l1 l3 l4 : Int) (s : Sg) (q : Int), j_255_46 F l1 l3 l4 s = some q → RuP 3 tb_m255 46 [some (.inr (.inr (some 84))), some (.inl l1), some (.inl z2), some (.inl l3), some (.inl l4)] [] (hp L s c e) (oI L c e (q, s)) := by
  intro F
  induction F with
  | zero =>
    intro z2 l1 l3 l4 s q h
    rw [j_255_46] at h
    cases h
  | succ F ih =>
    intro z2 l1 l3 l4 s q h
    rw [j_255_46] at h
    refine RuP.step (pc' := 48) (ls' := [some (.inr (.inr (some 84))), some (.inl l1), some (.inl z2), some (.inl l3), some (.inl l4)]) (st' := [.inl l4]) (h1 := hp L s c e) rfl ?_
    refine RuP.step (pc' := 49) (ls' := [some (.inr (.inr (some 84))), some (.inl l1), some (.inl z2), some (.inl l3), some (.inl l4)]) (st' := [.inr (.inr (some 84)), .inl l4]) (h1 := hp L s c e) rfl ?_
    refine RuP.step (pc' := 52) (ls' := [some (.inr (.inr (some 84))), some (.inl l1), some (.inl z2), some (.inl l3), some (.inl l4)]) (st' := [.inr (.inr (some 98)), .inl l4]) (h1 := hp L s c e) rfl ?_
    refine RuP.step (pc' := 53) (ls' := [some (.inr (.inr (some 84))), some (.inl l1), some (.inl z2), some (.inl l3), some (.inl l4)]) (st' := [.inl l1, .inr (.inr (some 98)), .inl l4]) (h1 := hp L s c e) rfl ?_
    obtain ⟨b0, h⟩ := gd_some h
    refine RuP.ald (f := fun t => t == 0) (j := l1) (a := 98) rfl rfl b0.1 b0.2 ?_
    refine RuP.step (pc' := 55) (ls' := [some (.inr (.inr (some 84))), some (.inl l1), some (.inl z2), some (.inl l3), some (.inl l4)]) (st' := [.inr (.inr (some 84)), .inl (s 98 l1.toNat), .inl l4]) (h1 := hp L s c e) rfl ?_
    refine RuP.step (pc' := 58) (ls' := [some (.inr (.inr (some 84))), some (.inl l1), some (.inl z2), some (.inl l3), some (.inl l4)]) (st' := [.inr (.inr (some 99)), .inl (s 98 l1.toNat), .inl l4]) (h1 := hp L s c e) rfl ?_
    refine RuP.step (pc' := 59) (ls' := [some (.inr (.inr (some 84))), some (.inl l1), some (.inl z2), some (.inl l3), some (.inl l4)]) (st' := [.inl l1, .inr (.inr (some 99)), .inl (s 98 l1.toNat), .inl l4]) (h1 := hp L s c e) rfl ?_
    obtain ⟨b1, h⟩ := gd_some h
    refine RuP.ald (f := fun t => t == 0) (j := l1) (a := 99) rfl rfl b1.1 b1.2 ?_
    refine RuP.step (pc' := 61) (ls' := [some (.inr (.inr (some 84))), some (.inl l1), some (.inl z2), some (.inl l3), some (.inl l4)]) (st' := [.inl (ax_w32 ((s 98 l1.toNat) + (s 99 l1.toNat))), .inl l4]) (h1 := hp L s c e) rfl ?_
    by_cases h2 : ax_w32 ((s 98 l1.toNat) + (s 99 l1.toNat)) ≤ l4
    · rw [if_pos h2] at h
      refine RuP.jy rfl h2 ?_
      exact bl_255_108 _ _ _ _ _ _ h
    · rw [if_neg h2] at h
      refine RuP.jn rfl h2 ?_
      refine RuP.step (pc' := 65) (ls' := [some (.inr (.inr (some 84))), some (.inl l1), some (.inl z2), some (.inl l3), some (.inl l4)]) (st' := [.inr (.inr (some 84))]) (h1 := hp L s c e) rfl ?_
      refine RuP.step (pc' := 68) (ls' := [some (.inr (.inr (some 84))), some (.inl l1), some (.inl z2), some (.inl l3), some (.inl l4)]) (st' := [.inr (.inr (some 104))]) (h1 := hp L s c e) rfl ?_
      refine RuP.step (pc' := 70) (ls' := [some (.inr (.inr (some 84))), some (.inl l1), some (.inl z2), some (.inl l3), some (.inl l4)]) (st' := [.inl l4, .inr (.inr (some 104))]) (h1 := hp L s c e) rfl ?_
      obtain ⟨b3, h⟩ := gd_some h
      refine RuP.ald (f := fun t => t == 0) (j := l4) (a := 104) rfl rfl b3.1 b3.2 ?_
      by_cases h4 : s 104 l4.toNat < 0
      · rw [if_pos h4] at h
        refine RuP.jy rfl h4 ?_
        exact bl_255_102 ih _ _ _ _ _ _ h
      · rw [if_neg h4] at h
        refine RuP.jn rfl h4 ?_
        refine RuP.step (pc' := 75) (ls' := [some (.inr (.inr (some 84))), some (.inl l1), some (.inl z2), some (.inl l3), some (.inl l4)]) (st' := [.inr (.inr (some 84))]) (h1 := hp L s c e) rfl ?_
        refine RuP.step (pc' := 76) (ls' := [some (.inr (.inr (some 84))), some (.inl l1), some (.inl z2), some (.inl l3), some (.inl l4)]) (st' := [.inr (.inr (some 84)), .inr (.inr (some 84))]) (h1 := hp L s c e) rfl ?_
        refine RuP.step (pc' := 79) (ls' := [some (.inr (.inr (some 84))), some (.inl l1), some (.inl z2), some (.inl l3), some (.inl l4)]) (st' := [.inr (.inr (some 104)), .inr (.inr (some 84))]) (h1 := hp L s c e) rfl ?_
        refine RuP.step (pc' := 81) (ls' := [some (.inr (.inr (some 84))), some (.inl l1), some (.inl z2), some (.inl l3), some (.inl l4)]) (st' := [.inl l4, .inr (.inr (some 104)), .inr (.inr (some 84))]) (h1 := hp L s c e) rfl ?_
        obtain ⟨b5, h⟩ := gd_some h
        refine RuP.ald (f := fun t => t == 0) (j := l4) (a := 104) rfl rfl b5.1 b5.2 ?_
        refine RuP.step (pc' := 83) (ls' := [some (.inr (.inr (some 84))), some (.inl l1), some (.inl z2), some (.inl l3), some (.inl l4)]) (st' := [.inl l3, .inl (s 104 l4.toNat), .inr (.inr (some 84))]) (h1 := hp L s c e) rfl ?_
        obtain ⟨q3, h1, h⟩ := bd_some h
        refine RuP.cI rfl ((ev_239 h1).up (by decide)) ?_
        by_cases h6 : q3 = 0
        · rw [if_pos h6] at h
          refine RuP.jy rfl h6 ?_
          exact bl_255_102 ih _ _ _ _ _ _ h
        · rw [if_neg h6] at h
          refine RuP.jn rfl h6 ?_
          exact bl_255_89 _ _ _ _ _ _ h
noncomputable def j_255_38 (l1 l3 : Int) (s : Sg) : Option Int :=
  (gd (0 ≤ l1 ∧ l1 < 4100) (
  j_255_46 FU l1 l3 (s 98 l1.toNat) s))
theorem bl_255_38 {L c : Nat} {e : Nat → Nat} : ∀ (z2 z4 : Int) (l1 l3 : Int) (s : Sg) (q : Int), j_255_38 l1 l3 s = some q → RuP 3 tb_m255 38 [some (.inr (.inr (some 84))), some (.inl l1), some (.inl z2), some (.inl l3), some (.inl z4)] [] (hp L s c e) (oI L c e (q, s)) := by
  intro z2 z4 l1 l3 s q h
  unfold j_255_38 at h
  refine RuP.step (pc' := 39) (ls' := [some (.inr (.inr (some 84))), some (.inl l1), some (.inl z2), some (.inl l3), some (.inl z4)]) (st' := [.inr (.inr (some 84))]) (h1 := hp L s c e) rfl ?_
  refine RuP.step (pc' := 42) (ls' := [some (.inr (.inr (some 84))), some (.inl l1), some (.inl z2), some (.inl l3), some (.inl z4)]) (st' := [.inr (.inr (some 98))]) (h1 := hp L s c e) rfl ?_
  refine RuP.step (pc' := 43) (ls' := [some (.inr (.inr (some 84))), some (.inl l1), some (.inl z2), some (.inl l3), some (.inl z4)]) (st' := [.inl l1, .inr (.inr (some 98))]) (h1 := hp L s c e) rfl ?_
  obtain ⟨b0, h⟩ := gd_some h
  refine RuP.ald (f := fun t => t == 0) (j := l1) (a := 98) rfl rfl b0.1 b0.2 ?_
  refine RuP.step (pc' := 46) (ls' := [some (.inr (.inr (some 84))), some (.inl l1), some (.inl z2), some (.inl l3), some (.inl (s 98 l1.toNat))]) (st' := []) (h1 := hp L s c e) rfl ?_
  exact bl_255_46 FU _ _ _ _ _ _ h
noncomputable def j_255_3 : Nat → Int → Int → Int → Sg → Option Int
  | 0, _, _, _, _ => none
  | F + 1, l1, l3, l4, s =>
    (if l4 < 0 then
      j_255_38 l1 l3 s
    else
      (gd (0 ≤ l4 ∧ l4 < 8200) (
      ((f_239 (s 107 l4.toNat) l3 s).bind fun q5 =>
      (if q5 = 0 then
        (gd (0 ≤ l4 ∧ l4 < 8200) (
        (j_255_3 F) l1 l3 (s 113 l4.toNat) s))
      else
        some 8)))))
theorem bl_255_3 {L c : Nat} {e : Nat → Nat} : ∀ (F : Nat) (z2 : Int) (l1 l3 l4 : Int) (s : Sg) (q : Int), j_255_3 F l1 l3 l4 s = some q → RuP 3 tb_m255 3 [some (.inr (.inr (some 84))), some (.inl l1), some (.inl z2), some (.inl l3), some (.inl l4)] [] (hp L s c e) (oI L c e (q, s)) := by
  intro F
  induction F with
  | zero =>
    intro z2 l1 l3 l4 s q h
    rw [j_255_3] at h
    cases h
  | succ F ih =>
    intro z2 l1 l3 l4 s q h
    rw [j_255_3] at h
    refine RuP.step (pc' := 5) (ls' := [some (.inr (.inr (some 84))), some (.inl l1), some (.inl z2), some (.inl l3), some (.inl l4)]) (st' := [.inl l4]) (h1 := hp L s c e) rfl ?_
    by_cases h0 : l4 < 0
    · rw [if_pos h0] at h
      refine RuP.jy rfl h0 ?_
      exact bl_255_38 _ _ _ _ _ _ h
    · rw [if_neg h0] at h
      refine RuP.jn rfl h0 ?_
      refine RuP.step (pc' := 9) (ls' := [some (.inr (.inr (some 84))), some (.inl l1), some (.inl z2), some (.inl l3), some (.inl l4)]) (st' := [.inr (.inr (some 84))]) (h1 := hp L s c e) rfl ?_
      refine RuP.step (pc' := 10) (ls' := [some (.inr (.inr (some 84))), some (.inl l1), some (.inl z2), some (.inl l3), some (.inl l4)]) (st' := [.inr (.inr (some 84)), .inr (.inr (some 84))]) (h1 := hp L s c e) rfl ?_
      refine RuP.step (pc' := 13) (ls' := [some (.inr (.inr (some 84))), some (.inl l1), some (.inl z2), some (.inl l3), some (.inl l4)]) (st' := [.inr (.inr (some 107)), .inr (.inr (some 84))]) (h1 := hp L s c e) rfl ?_
      refine RuP.step (pc' := 15) (ls' := [some (.inr (.inr (some 84))), some (.inl l1), some (.inl z2), some (.inl l3), some (.inl l4)]) (st' := [.inl l4, .inr (.inr (some 107)), .inr (.inr (some 84))]) (h1 := hp L s c e) rfl ?_
      obtain ⟨b1, h⟩ := gd_some h
      refine RuP.ald (f := fun t => t == 0) (j := l4) (a := 107) rfl rfl b1.1 b1.2 ?_
      refine RuP.step (pc' := 17) (ls' := [some (.inr (.inr (some 84))), some (.inl l1), some (.inl z2), some (.inl l3), some (.inl l4)]) (st' := [.inl l3, .inl (s 107 l4.toNat), .inr (.inr (some 84))]) (h1 := hp L s c e) rfl ?_
      obtain ⟨q5, h1, h⟩ := bd_some h
      refine RuP.cI rfl ((ev_239 h1).up (by decide)) ?_
      by_cases h2 : q5 = 0
      · rw [if_pos h2] at h
        refine RuP.jy rfl h2 ?_
        refine RuP.step (pc' := 27) (ls' := [some (.inr (.inr (some 84))), some (.inl l1), some (.inl z2), some (.inl l3), some (.inl l4)]) (st' := [.inr (.inr (some 84))]) (h1 := hp L s c e) rfl ?_
        refine RuP.step (pc' := 30) (ls' := [some (.inr (.inr (some 84))), some (.inl l1), some (.inl z2), some (.inl l3), some (.inl l4)]) (st' := [.inr (.inr (some 113))]) (h1 := hp L s c e) rfl ?_
        refine RuP.step (pc' := 32) (ls' := [some (.inr (.inr (some 84))), some (.inl l1), some (.inl z2), some (.inl l3), some (.inl l4)]) (st' := [.inl l4, .inr (.inr (some 113))]) (h1 := hp L s c e) rfl ?_
        obtain ⟨b3, h⟩ := gd_some h
        refine RuP.ald (f := fun t => t == 0) (j := l4) (a := 113) rfl rfl b3.1 b3.2 ?_
        refine RuP.step (pc' := 35) (ls' := [some (.inr (.inr (some 84))), some (.inl l1), some (.inl z2), some (.inl l3), some (.inl (s 113 l4.toNat))]) (st' := []) (h1 := hp L s c e) rfl ?_
        refine RuP.step (pc' := 3) (ls' := [some (.inr (.inr (some 84))), some (.inl l1), some (.inl z2), some (.inl l3), some (.inl (s 113 l4.toNat))]) (st' := []) (h1 := hp L s c e) rfl ?_
        exact ih _ _ _ _ _ _ h
      · rw [if_neg h2] at h
        refine RuP.jn rfl h2 ?_
        refine RuP.step (pc' := 25) (ls' := [some (.inr (.inr (some 84))), some (.inl l1), some (.inl z2), some (.inl l3), some (.inl l4)]) (st' := [.inl 8]) (h1 := hp L s c e) rfl ?_
        cases h
        exact RuP.dI rfl
noncomputable def f_255 (x0 x1 x2 : Int) (s : Sg) : Option Int :=
  j_255_3 FU x0 x2 x1 s
theorem ev_255 {L c : Nat} {e : Nat → Nat} {s : Sg} {x0 x1 x2 : Int} {q : Int} (h : f_255 x0 x1 x2 s = some q) : EvP 4 255 [.inr (.inr (some 84)), .inl x0, .inl x1, .inl x2] (hp L s c e) (oI L c e (q, s)) := by
  unfold f_255 at h
  refine EvP.of (μ := tb_m255) (ls := [some (.inr (.inr (some 84))), some (.inl x0), some (.inl x1), some (.inl x2), none]) rfl (Nat.le_of_ble_eq_true rfl) rfl ?_
  refine RuP.step (pc' := 1) (ls' := [some (.inr (.inr (some 84))), some (.inl x0), some (.inl x1), some (.inl x2), none]) (st' := [.inl x1]) (h1 := hp L s c e) rfl ?_
  refine RuP.step (pc' := 3) (ls' := [some (.inr (.inr (some 84))), some (.inl x0), some (.inl x1), some (.inl x2), some (.inl x1)]) (st' := []) (h1 := hp L s c e) rfl ?_
  exact bl_255_3 FU _ _ _ _ _ _ h
/-- MachineTextModel.indexWidth(I)I -/
noncomputable def j_256_26 : Nat → Int → Int → Sg → Option Int
  | 0, _, _, _ => none
  | F + 1, l2, l3, s =>
    (if l2 ≤ ax_ishl 1 l3 then
      some l3
    else
      (j_256_26 F) l2 (ax_w32 (l3 + 1)) s)
theorem bl_256_26 {L c : Nat} {e : Nat → Nat} : ∀ (F : Nat) (z1 : Int) (l2 l3 : Int) (s : Sg) (q : Int), j_256_26 F l2 l3 s = some q → RuP 3 tb_m256 26 [some (.inr (.inr (some 84))), some (.inl z1), some (.inl l2), some (.inl l3)] [] (hp L s c e) (oI L c e (q, s)) := by
  intro F
  induction F with
  | zero =>
    intro z1 l2 l3 s q h
    rw [j_256_26] at h
    cases h
  | succ F ih =>
    intro z1 l2 l3 s q h
    rw [j_256_26] at h
    refine RuP.step (pc' := 27) (ls' := [some (.inr (.inr (some 84))), some (.inl z1), some (.inl l2), some (.inl l3)]) (st' := [.inl 1]) (h1 := hp L s c e) rfl ?_
    refine RuP.step (pc' := 28) (ls' := [some (.inr (.inr (some 84))), some (.inl z1), some (.inl l2), some (.inl l3)]) (st' := [.inl l3, .inl 1]) (h1 := hp L s c e) rfl ?_
    refine RuP.step (pc' := 29) (ls' := [some (.inr (.inr (some 84))), some (.inl z1), some (.inl l2), some (.inl l3)]) (st' := [.inl (ax_ishl 1 l3)]) (h1 := hp L s c e) rfl ?_
    refine RuP.step (pc' := 30) (ls' := [some (.inr (.inr (some 84))), some (.inl z1), some (.inl l2), some (.inl l3)]) (st' := [.inl l2, .inl (ax_ishl 1 l3)]) (h1 := hp L s c e) rfl ?_
    by_cases h0 : l2 ≤ ax_ishl 1 l3
    · rw [if_pos h0] at h
      refine RuP.jy rfl h0 ?_
      refine RuP.step (pc' := 40) (ls' := [some (.inr (.inr (some 84))), some (.inl z1), some (.inl l2), some (.inl l3)]) (st' := [.inl l3]) (h1 := hp L s c e) rfl ?_
      cases h
      exact RuP.dI rfl
    · rw [if_neg h0] at h
      refine RuP.jn rfl h0 ?_
      refine RuP.step (pc' := 36) (ls' := [some (.inr (.inr (some 84))), some (.inl z1), some (.inl l2), some (.inl (ax_w32 (l3 + 1)))]) (st' := []) (h1 := hp L s c e) rfl ?_
      refine RuP.step (pc' := 26) (ls' := [some (.inr (.inr (some 84))), some (.inl z1), some (.inl l2), some (.inl (ax_w32 (l3 + 1)))]) (st' := []) (h1 := hp L s c e) rfl ?_
      exact ih _ _ _ _ _ h
noncomputable def f_256 (x0 : Int) (s : Sg) : Option Int :=
  (gd (0 ≤ x0 ∧ x0 < 4100) (
  ((f_218 (s 96 x0.toNat) s).bind fun q1 =>
  (gd (0 ≤ x0 ∧ x0 < 4100) (
  (if ¬ (s 94 x0.toNat) = 1 then
    j_256_26 FU (ax_w32 q1) 0 s
  else
    some (ax_w32 q1)))))))
theorem ev_256 {L c : Nat} {e : Nat → Nat} {s : Sg} {x0 : Int} {q : Int} (h : f_256 x0 s = some q) : EvP 4 256 [.inr (.inr (some 84)), .inl x0] (hp L s c e) (oI L c e (q, s)) := by
  unfold f_256 at h
  refine EvP.of (μ := tb_m256) (ls := [some (.inr (.inr (some 84))), some (.inl x0), none, none]) rfl (Nat.le_of_ble_eq_true rfl) rfl ?_
  refine RuP.step (pc' := 1) (ls' := [some (.inr (.inr (some 84))), some (.inl x0), none, none]) (st' := [.inr (.inr (some 84))]) (h1 := hp L s c e) rfl ?_
  refine RuP.step (pc' := 2) (ls' := [some (.inr (.inr (some 84))), some (.inl x0), none, none]) (st' := [.inr (.inr (some 84)), .inr (.inr (some 84))]) (h1 := hp L s c e) rfl ?_
  refine RuP.step (pc' := 5) (ls' := [some (.inr (.inr (some 84))), some (.inl x0), none, none]) (st' := [.inr (.inr (some 96)), .inr (.inr (some 84))]) (h1 := hp L s c e) rfl ?_
  refine RuP.step (pc' := 6) (ls' := [some (.inr (.inr (some 84))), some (.inl x0), none, none]) (st' := [.inl x0, .inr (.inr (some 96)), .inr (.inr (some 84))]) (h1 := hp L s c e) rfl ?_
  obtain ⟨b0, h⟩ := gd_some h
  refine RuP.ald (f := fun t => t == 0) (j := x0) (a := 96) rfl rfl b0.1 b0.2 ?_
  obtain ⟨q1, h1, h⟩ := bd_some h
  refine RuP.cJ rfl ((ev_218 h1).up (by decide)) ?_
  refine RuP.step (pc' := 11) (ls' := [some (.inr (.inr (some 84))), some (.inl x0), none, none]) (st' := [.inl (ax_w32 q1)]) (h1 := hp L s c e) rfl ?_
  refine RuP.step (pc' := 12) (ls' := [some (.inr (.inr (some 84))), some (.inl x0), some (.inl (ax_w32 q1)), none]) (st' := []) (h1 := hp L s c e) rfl ?_
  refine RuP.step (pc' := 13) (ls' := [some (.inr (.inr (some 84))), some (.inl x0), some (.inl (ax_w32 q1)), none]) (st' := [.inr (.inr (some 84))]) (h1 := hp L s c e) rfl ?_
  refine RuP.step (pc' := 16) (ls' := [some (.inr (.inr (some 84))), some (.inl x0), some (.inl (ax_w32 q1)), none]) (st' := [.inr (.inr (some 94))]) (h1 := hp L s c e) rfl ?_
  refine RuP.step (pc' := 17) (ls' := [some (.inr (.inr (some 84))), some (.inl x0), some (.inl (ax_w32 q1)), none]) (st' := [.inl x0, .inr (.inr (some 94))]) (h1 := hp L s c e) rfl ?_
  obtain ⟨b1, h⟩ := gd_some h
  refine RuP.ald (f := fun t => t == 0) (j := x0) (a := 94) rfl rfl b1.1 b1.2 ?_
  refine RuP.step (pc' := 19) (ls' := [some (.inr (.inr (some 84))), some (.inl x0), some (.inl (ax_w32 q1)), none]) (st' := [.inl 1, .inl (s 94 x0.toNat)]) (h1 := hp L s c e) rfl ?_
  by_cases h2 : ¬ (s 94 x0.toNat) = 1
  · rw [if_pos h2] at h
    refine RuP.jy rfl h2 ?_
    refine RuP.step (pc' := 25) (ls' := [some (.inr (.inr (some 84))), some (.inl x0), some (.inl (ax_w32 q1)), none]) (st' := [.inl 0]) (h1 := hp L s c e) rfl ?_
    refine RuP.step (pc' := 26) (ls' := [some (.inr (.inr (some 84))), some (.inl x0), some (.inl (ax_w32 q1)), some (.inl 0)]) (st' := []) (h1 := hp L s c e) rfl ?_
    exact bl_256_26 FU _ _ _ _ _ h
  · rw [if_neg h2] at h
    refine RuP.jn rfl h2 ?_
    refine RuP.step (pc' := 23) (ls' := [some (.inr (.inr (some 84))), some (.inl x0), some (.inl (ax_w32 q1)), none]) (st' := [.inl (ax_w32 q1)]) (h1 := hp L s c e) rfl ?_
    cases h
    exact RuP.dI rfl
/-- MachineTextModel.use(II)V -/
noncomputable def f_265 (x0 x1 : Int) (s : Sg) : Option Sg :=
  (gd (0 ≤ x0 ∧ x0 < 8200) (
  (if s 128 x0.toNat < 0 then
    some s
  else
    (gd (0 ≤ x0 ∧ x0 < 8200) (
    (gd (0 ≤ s 126 x0.toNat ∧ s 126 x0.toNat < 8200) (
    (if x1 ≤ f_268 (s 116 ((s 126 x0.toNat).toNat)) s then
      (gd (0 ≤ x0 ∧ x0 < 8200) (
      (gd (0 ≤ s 128 x0.toNat ∧ s 128 x0.toNat < 8200) (
      (gd (0 ≤ x0 ∧ x0 < 8200) (
      (gd (0 ≤ s 128 x0.toNat ∧ s 128 x0.toNat < 8200) (
      (gd (0 ≤ s 132 ((s 128 x0.toNat).toNat) ∧ s 132 ((s 128 x0.toNat).toNat) < 8200) (
      some (ax_u2 (ax_u2 s 91 ((s 128 x0.toNat).toNat) 1) 91 ((s 132 ((s 128 x0.toNat).toNat)).toNat) 1)))))))))))
    else
      some s))))))))
theorem ev_265 {L c : Nat} {e : Nat → Nat} {s : Sg} {x0 x1 : Int} {q : Sg} (h : f_265 x0 x1 s = some q) : EvP 2 265 [.inr (.inr (some 84)), .inl x0, .inl x1] (hp L s c e) (oV L c e q) := by
  unfold f_265 at h
  refine EvP.of (μ := tb_m265) (ls := [some (.inr (.inr (some 84))), some (.inl x0), some (.inl x1)]) rfl (Nat.le_of_ble_eq_true rfl) rfl ?_
  refine RuP.step (pc' := 1) (ls' := [some (.inr (.inr (some 84))), some (.inl x0), some (.inl x1)]) (st' := [.inr (.inr (some 84))]) (h1 := hp L s c e) rfl ?_
  refine RuP.step (pc' := 4) (ls' := [some (.inr (.inr (some 84))), some (.inl x0), some (.inl x1)]) (st' := [.inr (.inr (some 128))]) (h1 := hp L s c e) rfl ?_
  refine RuP.step (pc' := 5) (ls' := [some (.inr (.inr (some 84))), some (.inl x0), some (.inl x1)]) (st' := [.inl x0, .inr (.inr (some 128))]) (h1 := hp L s c e) rfl ?_
  obtain ⟨b0, h⟩ := gd_some h
  refine RuP.ald (f := fun t => t == 0) (j := x0) (a := 128) rfl rfl b0.1 b0.2 ?_
  by_cases h1 : s 128 x0.toNat < 0
  · rw [if_pos h1] at h
    refine RuP.jy rfl h1 ?_
    cases h
    exact RuP.dV rfl
  · rw [if_neg h1] at h
    refine RuP.jn rfl h1 ?_
    refine RuP.step (pc' := 10) (ls' := [some (.inr (.inr (some 84))), some (.inl x0), some (.inl x1)]) (st' := [.inr (.inr (some 84))]) (h1 := hp L s c e) rfl ?_
    refine RuP.step (pc' := 13) (ls' := [some (.inr (.inr (some 84))), some (.inl x0), some (.inl x1)]) (st' := [.inr (.inr (some 116))]) (h1 := hp L s c e) rfl ?_
    refine RuP.step (pc' := 14) (ls' := [some (.inr (.inr (some 84))), some (.inl x0), some (.inl x1)]) (st' := [.inr (.inr (some 84)), .inr (.inr (some 116))]) (h1 := hp L s c e) rfl ?_
    refine RuP.step (pc' := 17) (ls' := [some (.inr (.inr (some 84))), some (.inl x0), some (.inl x1)]) (st' := [.inr (.inr (some 126)), .inr (.inr (some 116))]) (h1 := hp L s c e) rfl ?_
    refine RuP.step (pc' := 18) (ls' := [some (.inr (.inr (some 84))), some (.inl x0), some (.inl x1)]) (st' := [.inl x0, .inr (.inr (some 126)), .inr (.inr (some 116))]) (h1 := hp L s c e) rfl ?_
    obtain ⟨b2, h⟩ := gd_some h
    refine RuP.ald (f := fun t => t == 0) (j := x0) (a := 126) rfl rfl b2.1 b2.2 ?_
    obtain ⟨b3, h⟩ := gd_some h
    refine RuP.ald (f := fun t => t == 0) (j := s 126 x0.toNat) (a := 116) rfl rfl b3.1 b3.2 ?_
    refine RuP.cI rfl ((ev_268 (s 116 ((s 126 x0.toNat).toNat))).up (by decide)) ?_
    refine RuP.step (pc' := 24) (ls' := [some (.inr (.inr (some 84))), some (.inl x0), some (.inl x1)]) (st' := [.inl x1, .inl (f_268 (s 116 ((s 126 x0.toNat).toNat)) s)]) (h1 := hp L s c e) rfl ?_
    by_cases h4 : x1 ≤ f_268 (s 116 ((s 126 x0.toNat).toNat)) s
    · rw [if_pos h4] at h
      refine RuP.jy rfl h4 ?_
      refine RuP.step (pc' := 29) (ls' := [some (.inr (.inr (some 84))), some (.inl x0), some (.inl x1)]) (st' := [.inr (.inr (some 84))]) (h1 := hp L s c e) rfl ?_
      refine RuP.step (pc' := 32) (ls' := [some (.inr (.inr (some 84))), some (.inl x0), some (.inl x1)]) (st' := [.inr (.inr (some 91))]) (h1 := hp L s c e) rfl ?_
      refine RuP.step (pc' := 33) (ls' := [some (.inr (.inr (some 84))), some (.inl x0), some (.inl x1)]) (st' := [.inr (.inr (some 84)), .inr (.inr (some 91))]) (h1 := hp L s c e) rfl ?_
      refine RuP.step (pc' := 36) (ls' := [some (.inr (.inr (some 84))), some (.inl x0), some (.inl x1)]) (st' := [.inr (.inr (some 128)), .inr (.inr (some 91))]) (h1 := hp L s c e) rfl ?_
      refine RuP.step (pc' := 37) (ls' := [some (.inr (.inr (some 84))), some (.inl x0), some (.inl x1)]) (st' := [.inl x0, .inr (.inr (some 128)), .inr (.inr (some 91))]) (h1 := hp L s c e) rfl ?_
      obtain ⟨b5, h⟩ := gd_some h
      refine RuP.ald (f := fun t => t == 0) (j := x0) (a := 128) rfl rfl b5.1 b5.2 ?_
      refine RuP.step (pc' := 39) (ls' := [some (.inr (.inr (some 84))), some (.inl x0), some (.inl x1)]) (st' := [.inl 1, .inl (s 128 x0.toNat), .inr (.inr (some 91))]) (h1 := hp L s c e) rfl ?_
      obtain ⟨b6, h⟩ := gd_some h
      refine RuP.ast (f := fun t => t == 1 || t == 3) (j := s 128 x0.toNat) (a := 91) rfl rfl (by decide) rfl rfl b6.1 b6.2 ?_
      refine RuP.step (pc' := 41) (ls' := [some (.inr (.inr (some 84))), some (.inl x0), some (.inl x1)]) (st' := [.inr (.inr (some 84))]) (h1 := hp L (ax_u2 s 91 ((s 128 x0.toNat).toNat) 1) c e) rfl ?_
      refine RuP.step (pc' := 44) (ls' := [some (.inr (.inr (some 84))), some (.inl x0), some (.inl x1)]) (st' := [.inr (.inr (some 91))]) (h1 := hp L (ax_u2 s 91 ((s 128 x0.toNat).toNat) 1) c e) rfl ?_
      refine RuP.step (pc' := 45) (ls' := [some (.inr (.inr (some 84))), some (.inl x0), some (.inl x1)]) (st' := [.inr (.inr (some 84)), .inr (.inr (some 91))]) (h1 := hp L (ax_u2 s 91 ((s 128 x0.toNat).toNat) 1) c e) rfl ?_
      refine RuP.step (pc' := 48) (ls' := [some (.inr (.inr (some 84))), some (.inl x0), some (.inl x1)]) (st' := [.inr (.inr (some 132)), .inr (.inr (some 91))]) (h1 := hp L (ax_u2 s 91 ((s 128 x0.toNat).toNat) 1) c e) rfl ?_
      refine RuP.step (pc' := 49) (ls' := [some (.inr (.inr (some 84))), some (.inl x0), some (.inl x1)]) (st' := [.inr (.inr (some 84)), .inr (.inr (some 132)), .inr (.inr (some 91))]) (h1 := hp L (ax_u2 s 91 ((s 128 x0.toNat).toNat) 1) c e) rfl ?_
      refine RuP.step (pc' := 52) (ls' := [some (.inr (.inr (some 84))), some (.inl x0), some (.inl x1)]) (st' := [.inr (.inr (some 128)), .inr (.inr (some 132)), .inr (.inr (some 91))]) (h1 := hp L (ax_u2 s 91 ((s 128 x0.toNat).toNat) 1) c e) rfl ?_
      refine RuP.step (pc' := 53) (ls' := [some (.inr (.inr (some 84))), some (.inl x0), some (.inl x1)]) (st' := [.inl x0, .inr (.inr (some 128)), .inr (.inr (some 132)), .inr (.inr (some 91))]) (h1 := hp L (ax_u2 s 91 ((s 128 x0.toNat).toNat) 1) c e) rfl ?_
      obtain ⟨b7, h⟩ := gd_some h
      refine RuP.ald (f := fun t => t == 0) (j := x0) (a := 128) rfl rfl b7.1 b7.2 ?_
      obtain ⟨b8, h⟩ := gd_some h
      refine RuP.ald (f := fun t => t == 0) (j := s 128 x0.toNat) (a := 132) rfl rfl b8.1 b8.2 ?_
      refine RuP.step (pc' := 56) (ls' := [some (.inr (.inr (some 84))), some (.inl x0), some (.inl x1)]) (st' := [.inl 1, .inl (s 132 ((s 128 x0.toNat).toNat)), .inr (.inr (some 91))]) (h1 := hp L (ax_u2 s 91 ((s 128 x0.toNat).toNat) 1) c e) rfl ?_
      obtain ⟨b9, h⟩ := gd_some h
      refine RuP.ast (f := fun t => t == 1 || t == 3) (j := s 132 ((s 128 x0.toNat).toNat)) (a := 91) rfl rfl (by decide) rfl rfl b9.1 b9.2 ?_
      cases h
      exact RuP.dV rfl
    · rw [if_neg h4] at h
      refine RuP.jn rfl h4 ?_
      cases h
      exact RuP.dV rfl
/-- MachineTextModel.reduce(I)V -/
noncomputable def j_269_178 (k0 : (Int → Sg → Option Sg)) (l1 : Int) (s : Sg) : Option Sg :=
  k0 l1 s
theorem bl_269_178 {L c : Nat} {e : Nat → Nat} {k0 : (Int → Sg → Option Sg)} (hk0 : ∀ (d2 d3 : Option ax_V) (l1 : Int) (s : Sg) (q : Sg), k0 l1 s = some q → RuP 2 tb_m269 0 [some (.inr (.inr (some 84))), some (.inl l1), d2, d3] [] (hp L s c e) (oV L c e q)) : ∀ (d3 : Option ax_V) (z2 : Int) (l1 : Int) (s : Sg) (q : Sg), j_269_178 k0 l1 s = some q → RuP 2 tb_m269 178 [some (.inr (.inr (some 84))), some (.inl l1), some (.inl z2), d3] [] (hp L s c e) (oV L c e q) := by
  intro d3 z2 l1 s q h
  unfold j_269_178 at h
  refine RuP.step (pc' := 0) (ls' := [some (.inr (.inr (some 84))), some (.inl l1), some (.inl z2), d3]) (st' := []) (h1 := hp L s c e) rfl ?_
  exact hk0 _ _ _ _ _ h
noncomputable def j_269_73 (k0 : (Int → Sg → Option Sg)) (l1 l2 : Int) (s : Sg) : Option Sg :=
  ((f_265 (ax_w32 ((s 84 59) - 1)) 8 s).bind fun q1 =>
  (gd (0 ≤ q1 84 63 ∧ q1 84 63 < 8200) (
  (gd (0 ≤ q1 84 63 ∧ q1 84 63 < 8200) (
  ((f_266 l2 (q1 130 ((q1 84 63).toNat)) (q1 130 ((q1 84 63).toNat)) (-1) 1 q1).bind fun q2 =>
  j_269_178 k0 l1 q2))))))
theorem bl_269_73 {L c : Nat} {e : Nat → Nat} {k0 : (Int → Sg → Option Sg)} (hk0 : ∀ (d2 d3 : Option ax_V) (l1 : Int) (s : Sg) (q : Sg), k0 l1 s = some q → RuP 2 tb_m269 0 [some (.inr (.inr (some 84))), some (.inl l1), d2, d3] [] (hp L s c e) (oV L c e q)) : ∀ (d3 : Option ax_V) (l1 l2 : Int) (s : Sg) (q : Sg), j_269_73 k0 l1 l2 s = some q → RuP 2 tb_m269 73 [some (.inr (.inr (some 84))), some (.inl l1), some (.inl l2), d3] [] (hp L s c e) (oV L c e q) := by
  intro d3 l1 l2 s q h
  unfold j_269_73 at h
  refine RuP.step (pc' := 74) (ls' := [some (.inr (.inr (some 84))), some (.inl l1), some (.inl l2), d3]) (st' := [.inr (.inr (some 84))]) (h1 := hp L s c e) rfl ?_
  refine RuP.step (pc' := 75) (ls' := [some (.inr (.inr (some 84))), some (.inl l1), some (.inl l2), d3]) (st' := [.inr (.inr (some 84)), .inr (.inr (some 84))]) (h1 := hp L s c e) rfl ?_
  refine RuP.step (pc' := 78) (ls' := [some (.inr (.inr (some 84))), some (.inl l1), some (.inl l2), d3]) (st' := [.inl (s 84 59), .inr (.inr (some 84))]) (h1 := hp L s c e) rfl ?_
  refine RuP.step (pc' := 79) (ls' := [some (.inr (.inr (some 84))), some (.inl l1), some (.inl l2), d3]) (st' := [.inl 1, .inl (s 84 59), .inr (.inr (some 84))]) (h1 := hp L s c e) rfl ?_
  refine RuP.step (pc' := 80) (ls' := [some (.inr (.inr (some 84))), some (.inl l1), some (.inl l2), d3]) (st' := [.inl (ax_w32 ((s 84 59) - 1)), .inr (.inr (some 84))]) (h1 := hp L s c e) rfl ?_
  refine RuP.step (pc' := 82) (ls' := [some (.inr (.inr (some 84))), some (.inl l1), some (.inl l2), d3]) (st' := [.inl 8, .inl (ax_w32 ((s 84 59) - 1)), .inr (.inr (some 84))]) (h1 := hp L s c e) rfl ?_
  obtain ⟨q1, h1, h⟩ := bd_some h
  refine RuP.cV rfl ((ev_265 h1).up (by decide)) ?_
  refine RuP.step (pc' := 86) (ls' := [some (.inr (.inr (some 84))), some (.inl l1), some (.inl l2), d3]) (st' := [.inr (.inr (some 84))]) (h1 := hp L q1 c e) rfl ?_
  refine RuP.step (pc' := 87) (ls' := [some (.inr (.inr (some 84))), some (.inl l1), some (.inl l2), d3]) (st' := [.inl l2, .inr (.inr (some 84))]) (h1 := hp L q1 c e) rfl ?_
  refine RuP.step (pc' := 88) (ls' := [some (.inr (.inr (some 84))), some (.inl l1), some (.inl l2), d3]) (st' := [.inr (.inr (some 84)), .inl l2, .inr (.inr (some 84))]) (h1 := hp L q1 c e) rfl ?_
  refine RuP.step (pc' := 91) (ls' := [some (.inr (.inr (some 84))), some (.inl l1), some (.inl l2), d3]) (st' := [.inr (.inr (some 130)), .inl l2, .inr (.inr (some 84))]) (h1 := hp L q1 c e) rfl ?_
  refine RuP.step (pc' := 92) (ls' := [some (.inr (.inr (some 84))), some (.inl l1), some (.inl l2), d3]) (st' := [.inr (.inr (some 84)), .inr (.inr (some 130)), .inl l2, .inr (.inr (some 84))]) (h1 := hp L q1 c e) rfl ?_
  refine RuP.step (pc' := 95) (ls' := [some (.inr (.inr (some 84))), some (.inl l1), some (.inl l2), d3]) (st' := [.inl (q1 84 63), .inr (.inr (some 130)), .inl l2, .inr (.inr (some 84))]) (h1 := hp L q1 c e) rfl ?_
  obtain ⟨b0, h⟩ := gd_some h
  refine RuP.ald (f := fun t => t == 0) (j := q1 84 63) (a := 130) rfl rfl b0.1 b0.2 ?_
  refine RuP.step (pc' := 97) (ls' := [some (.inr (.inr (some 84))), some (.inl l1), some (.inl l2), d3]) (st' := [.inr (.inr (some 84)), .inl (q1 130 ((q1 84 63).toNat)), .inl l2, .inr (.inr (some 84))]) (h1 := hp L q1 c e) rfl ?_
  refine RuP.step (pc' := 100) (ls' := [some (.inr (.inr (some 84))), some (.inl l1), some (.inl l2), d3]) (st' := [.inr (.inr (some 130)), .inl (q1 130 ((q1 84 63).toNat)), .inl l2, .inr (.inr (some 84))]) (h1 := hp L q1 c e) rfl ?_
  refine RuP.step (pc' := 101) (ls' := [some (.inr (.inr (some 84))), some (.inl l1), some (.inl l2), d3]) (st' := [.inr (.inr (some 84)), .inr (.inr (some 130)), .inl (q1 130 ((q1 84 63).toNat)), .inl l2, .inr (.inr (some 84))]) (h1 := hp L q1 c e) rfl ?_
  refine RuP.step (pc' := 104) (ls' := [some (.inr (.inr (some 84))), some (.inl l1), some (.inl l2), d3]) (st' := [.inl (q1 84 63), .inr (.inr (some 130)), .inl (q1 130 ((q1 84 63).toNat)), .inl l2, .inr (.inr (some 84))]) (h1 := hp L q1 c e) rfl ?_
  obtain ⟨b1, h⟩ := gd_some h
  refine RuP.ald (f := fun t => t == 0) (j := q1 84 63) (a := 130) rfl rfl b1.1 b1.2 ?_
  refine RuP.step (pc' := 106) (ls' := [some (.inr (.inr (some 84))), some (.inl l1), some (.inl l2), d3]) (st' := [.inl (-1), .inl (q1 130 ((q1 84 63).toNat)), .inl (q1 130 ((q1 84 63).toNat)), .inl l2, .inr (.inr (some 84))]) (h1 := hp L q1 c e) rfl ?_
  refine RuP.step (pc' := 107) (ls' := [some (.inr (.inr (some 84))), some (.inl l1), some (.inl l2), d3]) (st' := [.inl 1, .inl (-1), .inl (q1 130 ((q1 84 63).toNat)), .inl (q1 130 ((q1 84 63).toNat)), .inl l2, .inr (.inr (some 84))]) (h1 := hp L q1 c e) rfl ?_
  obtain ⟨q2, h1, h⟩ := bd_some h
  refine RuP.cV rfl ((ev_266 h1).up (by decide)) ?_
  refine RuP.step (pc' := 178) (ls' := [some (.inr (.inr (some 84))), some (.inl l1), some (.inl l2), d3]) (st' := []) (h1 := hp L q2 c e) rfl ?_
  exact bl_269_178 hk0 _ _ _ _ _ h
noncomputable def j_269_0 : Nat → Int → Sg → Option Sg
  | 0, _, _ => none
  | F + 1, l1, s =>
    (if s 84 63 ≤ 0 then
      some s
    else
      (gd (0 ≤ ax_w32 ((s 84 63) - 1) ∧ ax_w32 ((s 84 63) - 1) < 8200) (
      (if 100 ≤ s 129 ((ax_w32 ((s 84 63) - 1)).toNat) then
        some s
      else
        (gd (0 ≤ ax_w32 ((s 84 63) - 1) ∧ ax_w32 ((s 84 63) - 1) < 8200) (
        (if f_268 (s 129 ((ax_w32 ((s 84 63) - 1)).toNat)) s < l1 then
          some s
        else
          (gd (0 ≤ ax_w32 ((s 84 63) - 1) ∧ ax_w32 ((s 84 63) - 1) < 8200) (
          (if s 129 ((ax_w32 ((s 84 63) - 1)).toNat) = 8 then
            j_269_73 (j_269_0 F) l1 (s 129 ((ax_w32 ((s 84 63) - 1)).toNat)) (ax_u2 s 84 63 (ax_w32 ((s 84 63) - 1)))
          else
            (if ¬ (s 129 ((ax_w32 ((s 84 63) - 1)).toNat)) = 9 then
              ((f_265 (ax_w32 ((s 84 59) - 2)) ((if ¬ (f_268 (s 129 ((ax_w32 ((s 84 63) - 1)).toNat)) (ax_u2 s 84 63 (ax_w32 ((s 84 63) - 1)))) = 1 then f_268 (s 129 ((ax_w32 ((s 84 63) - 1)).toNat)) (ax_u2 s 84 63 (ax_w32 ((s 84 63) - 1))) else 2) : Int) (ax_u2 s 84 63 (ax_w32 ((s 84 63) - 1)))).bind fun q3 =>
              ((f_265 (ax_w32 ((q3 84 59) - 1)) (ax_w32 ((f_268 (s 129 ((ax_w32 ((s 84 63) - 1)).toNat)) (ax_u2 s 84 63 (ax_w32 ((s 84 63) - 1)))) + 1)) q3).bind fun q4 =>
              (gd (0 ≤ ax_w32 ((q4 84 59) - 2) ∧ ax_w32 ((q4 84 59) - 2) < 8200) (
              (gd (0 ≤ q4 84 63 ∧ q4 84 63 < 8200) (
              ((f_266 (s 129 ((ax_w32 ((s 84 63) - 1)).toNat)) (q4 127 ((ax_w32 ((q4 84 59) - 2)).toNat)) (q4 130 ((q4 84 63).toNat)) (-1) 2 q4).bind fun q5 =>
              j_269_178 (j_269_0 F) l1 q5)))))))
            else
              j_269_73 (j_269_0 F) l1 (s 129 ((ax_w32 ((s 84 63) - 1)).toNat)) (ax_u2 s 84 63 (ax_w32 ((s 84 63) - 1))))))))))))))
theorem bl_269_0 {L c : Nat} {e : Nat → Nat} : ∀ (F : Nat) (d2 d3 : Option ax_V) (l1 : Int) (s : Sg) (q : Sg), j_269_0 F l1 s = some q → RuP 2 tb_m269 0 [some (.inr (.inr (some 84))), some (.inl l1), d2, d3] [] (hp L s c e) (oV L c e q) := by
  intro F
  induction F with
  | zero =>
    intro d2 d3 l1 s q h
    rw [j_269_0] at h
    cases h
  | succ F ih =>
    intro d2 d3 l1 s q h
    rw [j_269_0] at h
    refine RuP.step (pc' := 1) (ls' := [some (.inr (.inr (some 84))), some (.inl l1), d2, d3]) (st' := [.inr (.inr (some 84))]) (h1 := hp L s c e) rfl ?_
    refine RuP.step (pc' := 4) (ls' := [some (.inr (.inr (some 84))), some (.inl l1), d2, d3]) (st' := [.inl (s 84 63)]) (h1 := hp L s c e) rfl ?_
    by_cases h0 : s 84 63 ≤ 0
    · rw [if_pos h0] at h
      refine RuP.jy rfl h0 ?_
      cases h
      exact RuP.dV rfl
    · rw [if_neg h0] at h
      refine RuP.jn rfl h0 ?_
      refine RuP.step (pc' := 8) (ls' := [some (.inr (.inr (some 84))), some (.inl l1), d2, d3]) (st' := [.inr (.inr (some 84))]) (h1 := hp L s c e) rfl ?_
      refine RuP.step (pc' := 11) (ls' := [some (.inr (.inr (some 84))), some (.inl l1), d2, d3]) (st' := [.inr (.inr (some 129))]) (h1 := hp L s c e) rfl ?_
      refine RuP.step (pc' := 12) (ls' := [some (.inr (.inr (some 84))), some (.inl l1), d2, d3]) (st' := [.inr (.inr (some 84)), .inr (.inr (some 129))]) (h1 := hp L s c e) rfl ?_
      refine RuP.step (pc' := 15) (ls' := [some (.inr (.inr (some 84))), some (.inl l1), d2, d3]) (st' := [.inl (s 84 63), .inr (.inr (some 129))]) (h1 := hp L s c e) rfl ?_
      refine RuP.step (pc' := 16) (ls' := [some (.inr (.inr (some 84))), some (.inl l1), d2, d3]) (st' := [.inl 1, .inl (s 84 63), .inr (.inr (some 129))]) (h1 := hp L s c e) rfl ?_
      refine RuP.step (pc' := 17) (ls' := [some (.inr (.inr (some 84))), some (.inl l1), d2, d3]) (st' := [.inl (ax_w32 ((s 84 63) - 1)), .inr (.inr (some 129))]) (h1 := hp L s c e) rfl ?_
      obtain ⟨b1, h⟩ := gd_some h
      refine RuP.ald (f := fun t => t == 0) (j := ax_w32 ((s 84 63) - 1)) (a := 129) rfl rfl b1.1 b1.2 ?_
      refine RuP.step (pc' := 20) (ls' := [some (.inr (.inr (some 84))), some (.inl l1), d2, d3]) (st' := [.inl 100, .inl (s 129 ((ax_w32 ((s 84 63) - 1)).toNat))]) (h1 := hp L s c e) rfl ?_
      by_cases h2 : 100 ≤ s 129 ((ax_w32 ((s 84 63) - 1)).toNat)
      · rw [if_pos h2] at h
        refine RuP.jy rfl h2 ?_
        cases h
        exact RuP.dV rfl
      · rw [if_neg h2] at h
        refine RuP.jn rfl h2 ?_
        refine RuP.step (pc' := 24) (ls' := [some (.inr (.inr (some 84))), some (.inl l1), d2, d3]) (st' := [.inr (.inr (some 84))]) (h1 := hp L s c e) rfl ?_
        refine RuP.step (pc' := 27) (ls' := [some (.inr (.inr (some 84))), some (.inl l1), d2, d3]) (st' := [.inr (.inr (some 129))]) (h1 := hp L s c e) rfl ?_
        refine RuP.step (pc' := 28) (ls' := [some (.inr (.inr (some 84))), some (.inl l1), d2, d3]) (st' := [.inr (.inr (some 84)), .inr (.inr (some 129))]) (h1 := hp L s c e) rfl ?_
        refine RuP.step (pc' := 31) (ls' := [some (.inr (.inr (some 84))), some (.inl l1), d2, d3]) (st' := [.inl (s 84 63), .inr (.inr (some 129))]) (h1 := hp L s c e) rfl ?_
        refine RuP.step (pc' := 32) (ls' := [some (.inr (.inr (some 84))), some (.inl l1), d2, d3]) (st' := [.inl 1, .inl (s 84 63), .inr (.inr (some 129))]) (h1 := hp L s c e) rfl ?_
        refine RuP.step (pc' := 33) (ls' := [some (.inr (.inr (some 84))), some (.inl l1), d2, d3]) (st' := [.inl (ax_w32 ((s 84 63) - 1)), .inr (.inr (some 129))]) (h1 := hp L s c e) rfl ?_
        obtain ⟨b3, h⟩ := gd_some h
        refine RuP.ald (f := fun t => t == 0) (j := ax_w32 ((s 84 63) - 1)) (a := 129) rfl rfl b3.1 b3.2 ?_
        refine RuP.cI rfl ((ev_268 (s 129 ((ax_w32 ((s 84 63) - 1)).toNat))).up (by decide)) ?_
        refine RuP.step (pc' := 38) (ls' := [some (.inr (.inr (some 84))), some (.inl l1), d2, d3]) (st' := [.inl l1, .inl (f_268 (s 129 ((ax_w32 ((s 84 63) - 1)).toNat)) s)]) (h1 := hp L s c e) rfl ?_
        by_cases h4 : f_268 (s 129 ((ax_w32 ((s 84 63) - 1)).toNat)) s < l1
        · rw [if_pos h4] at h
          refine RuP.jy rfl h4 ?_
          cases h
          exact RuP.dV rfl
        · rw [if_neg h4] at h
          refine RuP.jn rfl h4 ?_
          refine RuP.step (pc' := 42) (ls' := [some (.inr (.inr (some 84))), some (.inl l1), d2, d3]) (st' := [.inr (.inr (some 84))]) (h1 := hp L s c e) rfl ?_
          refine RuP.step (pc' := 43) (ls' := [some (.inr (.inr (some 84))), some (.inl l1), d2, d3]) (st' := [.inr (.inr (some 84)), .inr (.inr (some 84))]) (h1 := hp L s c e) rfl ?_
          refine RuP.step (pc' := 46) (ls' := [some (.inr (.inr (some 84))), some (.inl l1), d2, d3]) (st' := [.inl (s 84 63), .inr (.inr (some 84))]) (h1 := hp L s c e) rfl ?_
          refine RuP.step (pc' := 47) (ls' := [some (.inr (.inr (some 84))), some (.inl l1), d2, d3]) (st' := [.inl 1, .inl (s 84 63), .inr (.inr (some 84))]) (h1 := hp L s c e) rfl ?_
          refine RuP.step (pc' := 48) (ls' := [some (.inr (.inr (some 84))), some (.inl l1), d2, d3]) (st' := [.inl (ax_w32 ((s 84 63) - 1)), .inr (.inr (some 84))]) (h1 := hp L s c e) rfl ?_
          refine RuP.step (pc' := 51) (ls' := [some (.inr (.inr (some 84))), some (.inl l1), d2, d3]) (st' := []) (h1 := hp L (ax_u2 s 84 63 (ax_w32 ((s 84 63) - 1))) c e) rfl ?_
          refine RuP.step (pc' := 52) (ls' := [some (.inr (.inr (some 84))), some (.inl l1), d2, d3]) (st' := [.inr (.inr (some 84))]) (h1 := hp L (ax_u2 s 84 63 (ax_w32 ((s 84 63) - 1))) c e) rfl ?_
          refine RuP.step (pc' := 55) (ls' := [some (.inr (.inr (some 84))), some (.inl l1), d2, d3]) (st' := [.inr (.inr (some 129))]) (h1 := hp L (ax_u2 s 84 63 (ax_w32 ((s 84 63) - 1))) c e) rfl ?_
          refine RuP.step (pc' := 56) (ls' := [some (.inr (.inr (some 84))), some (.inl l1), d2, d3]) (st' := [.inr (.inr (some 84)), .inr (.inr (some 129))]) (h1 := hp L (ax_u2 s 84 63 (ax_w32 ((s 84 63) - 1))) c e) rfl ?_
          refine RuP.step (pc' := 59) (ls' := [some (.inr (.inr (some 84))), some (.inl l1), d2, d3]) (st' := [.inl (ax_w32 ((s 84 63) - 1)), .inr (.inr (some 129))]) (h1 := hp L (ax_u2 s 84 63 (ax_w32 ((s 84 63) - 1))) c e) rfl ?_
          obtain ⟨b5, h⟩ := gd_some h
          refine RuP.ald (f := fun t => t == 0) (j := ax_w32 ((s 84 63) - 1)) (a := 129) rfl rfl b5.1 b5.2 ?_
          refine RuP.step (pc' := 61) (ls' := [some (.inr (.inr (some 84))), some (.inl l1), some (.inl (s 129 ((ax_w32 ((s 84 63) - 1)).toNat))), d3]) (st' := []) (h1 := hp L (ax_u2 s 84 63 (ax_w32 ((s 84 63) - 1))) c e) rfl ?_
          refine RuP.step (pc' := 62) (ls' := [some (.inr (.inr (some 84))), some (.inl l1), some (.inl (s 129 ((ax_w32 ((s 84 63) - 1)).toNat))), d3]) (st' := [.inl (s 129 ((ax_w32 ((s 84 63) - 1)).toNat))]) (h1 := hp L (ax_u2 s 84 63 (ax_w32 ((s 84 63) - 1))) c e) rfl ?_
          refine RuP.step (pc' := 64) (ls' := [some (.inr (.inr (some 84))), some (.inl l1), some (.inl (s 129 ((ax_w32 ((s 84 63) - 1)).toNat))), d3]) (st' := [.inl 8, .inl (s 129 ((ax_w32 ((s 84 63) - 1)).toNat))]) (h1 := hp L (ax_u2 s 84 63 (ax_w32 ((s 84 63) - 1))) c e) rfl ?_
          by_cases h6 : s 129 ((ax_w32 ((s 84 63) - 1)).toNat) = 8
          · rw [if_pos h6] at h
            refine RuP.jy rfl h6 ?_
            exact bl_269_73 ih _ _ _ _ _ h
          · rw [if_neg h6] at h
            refine RuP.jn rfl h6 ?_
            refine RuP.step (pc' := 68) (ls' := [some (.inr (.inr (some 84))), some (.inl l1), some (.inl (s 129 ((ax_w32 ((s 84 63) - 1)).toNat))), d3]) (st' := [.inl (s 129 ((ax_w32 ((s 84 63) - 1)).toNat))]) (h1 := hp L (ax_u2 s 84 63 (ax_w32 ((s 84 63) - 1))) c e) rfl ?_
            refine RuP.step (pc' := 70) (ls' := [some (.inr (.inr (some 84))), some (.inl l1), some (.inl (s 129 ((ax_w32 ((s 84 63) - 1)).toNat))), d3]) (st' := [.inl 9, .inl (s 129 ((ax_w32 ((s 84 63) - 1)).toNat))]) (h1 := hp L (ax_u2 s 84 63 (ax_w32 ((s 84 63) - 1))) c e) rfl ?_
            by_cases h7 : ¬ (s 129 ((ax_w32 ((s 84 63) - 1)).toNat)) = 9
            · rw [if_pos h7] at h
              refine RuP.jy rfl h7 ?_
              refine RuP.step (pc' := 114) (ls' := [some (.inr (.inr (some 84))), some (.inl l1), some (.inl (s 129 ((ax_w32 ((s 84 63) - 1)).toNat))), d3]) (st' := [.inl (s 129 ((ax_w32 ((s 84 63) - 1)).toNat))]) (h1 := hp L (ax_u2 s 84 63 (ax_w32 ((s 84 63) - 1))) c e) rfl ?_
              refine RuP.cI rfl ((ev_268 (s 129 ((ax_w32 ((s 84 63) - 1)).toNat))).up (by decide)) ?_
              refine RuP.step (pc' := 118) (ls' := [some (.inr (.inr (some 84))), some (.inl l1), some (.inl (s 129 ((ax_w32 ((s 84 63) - 1)).toNat))), some (.inl (f_268 (s 129 ((ax_w32 ((s 84 63) - 1)).toNat)) (ax_u2 s 84 63 (ax_w32 ((s 84 63) - 1)))))]) (st' := []) (h1 := hp L (ax_u2 s 84 63 (ax_w32 ((s 84 63) - 1))) c e) rfl ?_
              refine RuP.step (pc' := 119) (ls' := [some (.inr (.inr (some 84))), some (.inl l1), some (.inl (s 129 ((ax_w32 ((s 84 63) - 1)).toNat))), some (.inl (f_268 (s 129 ((ax_w32 ((s 84 63) - 1)).toNat)) (ax_u2 s 84 63 (ax_w32 ((s 84 63) - 1)))))]) (st' := [.inr (.inr (some 84))]) (h1 := hp L (ax_u2 s 84 63 (ax_w32 ((s 84 63) - 1))) c e) rfl ?_
              refine RuP.step (pc' := 120) (ls' := [some (.inr (.inr (some 84))), some (.inl l1), some (.inl (s 129 ((ax_w32 ((s 84 63) - 1)).toNat))), some (.inl (f_268 (s 129 ((ax_w32 ((s 84 63) - 1)).toNat)) (ax_u2 s 84 63 (ax_w32 ((s 84 63) - 1)))))]) (st' := [.inr (.inr (some 84)), .inr (.inr (some 84))]) (h1 := hp L (ax_u2 s 84 63 (ax_w32 ((s 84 63) - 1))) c e) rfl ?_
              refine RuP.step (pc' := 123) (ls' := [some (.inr (.inr (some 84))), some (.inl l1), some (.inl (s 129 ((ax_w32 ((s 84 63) - 1)).toNat))), some (.inl (f_268 (s 129 ((ax_w32 ((s 84 63) - 1)).toNat)) (ax_u2 s 84 63 (ax_w32 ((s 84 63) - 1)))))]) (st' := [.inl (s 84 59), .inr (.inr (some 84))]) (h1 := hp L (ax_u2 s 84 63 (ax_w32 ((s 84 63) - 1))) c e) rfl ?_
              refine RuP.step (pc' := 124) (ls' := [some (.inr (.inr (some 84))), some (.inl l1), some (.inl (s 129 ((ax_w32 ((s 84 63) - 1)).toNat))), some (.inl (f_268 (s 129 ((ax_w32 ((s 84 63) - 1)).toNat)) (ax_u2 s 84 63 (ax_w32 ((s 84 63) - 1)))))]) (st' := [.inl 2, .inl (s 84 59), .inr (.inr (some 84))]) (h1 := hp L (ax_u2 s 84 63 (ax_w32 ((s 84 63) - 1))) c e) rfl ?_
              refine RuP.step (pc' := 125) (ls' := [some (.inr (.inr (some 84))), some (.inl l1), some (.inl (s 129 ((ax_w32 ((s 84 63) - 1)).toNat))), some (.inl (f_268 (s 129 ((ax_w32 ((s 84 63) - 1)).toNat)) (ax_u2 s 84 63 (ax_w32 ((s 84 63) - 1)))))]) (st' := [.inl (ax_w32 ((s 84 59) - 2)), .inr (.inr (some 84))]) (h1 := hp L (ax_u2 s 84 63 (ax_w32 ((s 84 63) - 1))) c e) rfl ?_
              refine RuP.step (pc' := 126) (ls' := [some (.inr (.inr (some 84))), some (.inl l1), some (.inl (s 129 ((ax_w32 ((s 84 63) - 1)).toNat))), some (.inl (f_268 (s 129 ((ax_w32 ((s 84 63) - 1)).toNat)) (ax_u2 s 84 63 (ax_w32 ((s 84 63) - 1)))))]) (st' := [.inl (f_268 (s 129 ((ax_w32 ((s 84 63) - 1)).toNat)) (ax_u2 s 84 63 (ax_w32 ((s 84 63) - 1)))), .inl (ax_w32 ((s 84 59) - 2)), .inr (.inr (some 84))]) (h1 := hp L (ax_u2 s 84 63 (ax_w32 ((s 84 63) - 1))) c e) rfl ?_
              refine RuP.step (pc' := 127) (ls' := [some (.inr (.inr (some 84))), some (.inl l1), some (.inl (s 129 ((ax_w32 ((s 84 63) - 1)).toNat))), some (.inl (f_268 (s 129 ((ax_w32 ((s 84 63) - 1)).toNat)) (ax_u2 s 84 63 (ax_w32 ((s 84 63) - 1)))))]) (st' := [.inl 1, .inl (f_268 (s 129 ((ax_w32 ((s 84 63) - 1)).toNat)) (ax_u2 s 84 63 (ax_w32 ((s 84 63) - 1)))), .inl (ax_w32 ((s 84 59) - 2)), .inr (.inr (some 84))]) (h1 := hp L (ax_u2 s 84 63 (ax_w32 ((s 84 63) - 1))) c e) rfl ?_
              have J9 : ∀ v8_0 : Int, v8_0 = ((if ¬ (f_268 (s 129 ((ax_w32 ((s 84 63) - 1)).toNat)) (ax_u2 s 84 63 (ax_w32 ((s 84 63) - 1)))) = 1 then f_268 (s 129 ((ax_w32 ((s 84 63) - 1)).toNat)) (ax_u2 s 84 63 (ax_w32 ((s 84 63) - 1))) else 2) : Int) → RuP 2 tb_m269 135 [some (.inr (.inr (some 84))), some (.inl l1), some (.inl (s 129 ((ax_w32 ((s 84 63) - 1)).toNat))), some (.inl (f_268 (s 129 ((ax_w32 ((s 84 63) - 1)).toNat)) (ax_u2 s 84 63 (ax_w32 ((s 84 63) - 1)))))] [.inl v8_0, .inl (ax_w32 ((s 84 59) - 2)), .inr (.inr (some 84))] (hp L (ax_u2 s 84 63 (ax_w32 ((s 84 63) - 1))) c e) (oV L c e q) := by
                intro v8_0 ev8_0
                subst ev8_0
                obtain ⟨q3, h1, h⟩ := bd_some h
                refine RuP.cV rfl ((ev_265 h1).up (by decide)) ?_
                refine RuP.step (pc' := 139) (ls' := [some (.inr (.inr (some 84))), some (.inl l1), some (.inl (s 129 ((ax_w32 ((s 84 63) - 1)).toNat))), some (.inl (f_268 (s 129 ((ax_w32 ((s 84 63) - 1)).toNat)) (ax_u2 s 84 63 (ax_w32 ((s 84 63) - 1)))))]) (st' := [.inr (.inr (some 84))]) (h1 := hp L q3 c e) rfl ?_
                refine RuP.step (pc' := 140) (ls' := [some (.inr (.inr (some 84))), some (.inl l1), some (.inl (s 129 ((ax_w32 ((s 84 63) - 1)).toNat))), some (.inl (f_268 (s 129 ((ax_w32 ((s 84 63) - 1)).toNat)) (ax_u2 s 84 63 (ax_w32 ((s 84 63) - 1)))))]) (st' := [.inr (.inr (some 84)), .inr (.inr (some 84))]) (h1 := hp L q3 c e) rfl ?_
                refine RuP.step (pc' := 143) (ls' := [some (.inr (.inr (some 84))), some (.inl l1), some (.inl (s 129 ((ax_w32 ((s 84 63) - 1)).toNat))), some (.inl (f_268 (s 129 ((ax_w32 ((s 84 63) - 1)).toNat)) (ax_u2 s 84 63 (ax_w32 ((s 84 63) - 1)))))]) (st' := [.inl (q3 84 59), .inr (.inr (some 84))]) (h1 := hp L q3 c e) rfl ?_
                refine RuP.step (pc' := 144) (ls' := [some (.inr (.inr (some 84))), some (.inl l1), some (.inl (s 129 ((ax_w32 ((s 84 63) - 1)).toNat))), some (.inl (f_268 (s 129 ((ax_w32 ((s 84 63) - 1)).toNat)) (ax_u2 s 84 63 (ax_w32 ((s 84 63) - 1)))))]) (st' := [.inl 1, .inl (q3 84 59), .inr (.inr (some 84))]) (h1 := hp L q3 c e) rfl ?_
                refine RuP.step (pc' := 145) (ls' := [some (.inr (.inr (some 84))), some (.inl l1), some (.inl (s 129 ((ax_w32 ((s 84 63) - 1)).toNat))), some (.inl (f_268 (s 129 ((ax_w32 ((s 84 63) - 1)).toNat)) (ax_u2 s 84 63 (ax_w32 ((s 84 63) - 1)))))]) (st' := [.inl (ax_w32 ((q3 84 59) - 1)), .inr (.inr (some 84))]) (h1 := hp L q3 c e) rfl ?_
                refine RuP.step (pc' := 146) (ls' := [some (.inr (.inr (some 84))), some (.inl l1), some (.inl (s 129 ((ax_w32 ((s 84 63) - 1)).toNat))), some (.inl (f_268 (s 129 ((ax_w32 ((s 84 63) - 1)).toNat)) (ax_u2 s 84 63 (ax_w32 ((s 84 63) - 1)))))]) (st' := [.inl (f_268 (s 129 ((ax_w32 ((s 84 63) - 1)).toNat)) (ax_u2 s 84 63 (ax_w32 ((s 84 63) - 1)))), .inl (ax_w32 ((q3 84 59) - 1)), .inr (.inr (some 84))]) (h1 := hp L q3 c e) rfl ?_
                refine RuP.step (pc' := 147) (ls' := [some (.inr (.inr (some 84))), some (.inl l1), some (.inl (s 129 ((ax_w32 ((s 84 63) - 1)).toNat))), some (.inl (f_268 (s 129 ((ax_w32 ((s 84 63) - 1)).toNat)) (ax_u2 s 84 63 (ax_w32 ((s 84 63) - 1)))))]) (st' := [.inl 1, .inl (f_268 (s 129 ((ax_w32 ((s 84 63) - 1)).toNat)) (ax_u2 s 84 63 (ax_w32 ((s 84 63) - 1)))), .inl (ax_w32 ((q3 84 59) - 1)), .inr (.inr (some 84))]) (h1 := hp L q3 c e) rfl ?_
                refine RuP.step (pc' := 148) (ls' := [some (.inr (.inr (some 84))), some (.inl l1), some (.inl (s 129 ((ax_w32 ((s 84 63) - 1)).toNat))), some (.inl (f_268 (s 129 ((ax_w32 ((s 84 63) - 1)).toNat)) (ax_u2 s 84 63 (ax_w32 ((s 84 63) - 1)))))]) (st' := [.inl (ax_w32 ((f_268 (s 129 ((ax_w32 ((s 84 63) - 1)).toNat)) (ax_u2 s 84 63 (ax_w32 ((s 84 63) - 1)))) + 1)), .inl (ax_w32 ((q3 84 59) - 1)), .inr (.inr (some 84))]) (h1 := hp L q3 c e) rfl ?_
                obtain ⟨q4, h1, h⟩ := bd_some h
                refine RuP.cV rfl ((ev_265 h1).up (by decide)) ?_
                refine RuP.step (pc' := 152) (ls' := [some (.inr (.inr (some 84))), some (.inl l1), some (.inl (s 129 ((ax_w32 ((s 84 63) - 1)).toNat))), some (.inl (f_268 (s 129 ((ax_w32 ((s 84 63) - 1)).toNat)) (ax_u2 s 84 63 (ax_w32 ((s 84 63) - 1)))))]) (st' := [.inr (.inr (some 84))]) (h1 := hp L q4 c e) rfl ?_
                refine RuP.step (pc' := 153) (ls' := [some (.inr (.inr (some 84))), some (.inl l1), some (.inl (s 129 ((ax_w32 ((s 84 63) - 1)).toNat))), some (.inl (f_268 (s 129 ((ax_w32 ((s 84 63) - 1)).toNat)) (ax_u2 s 84 63 (ax_w32 ((s 84 63) - 1)))))]) (st' := [.inl (s 129 ((ax_w32 ((s 84 63) - 1)).toNat)), .inr (.inr (some 84))]) (h1 := hp L q4 c e) rfl ?_
                refine RuP.step (pc' := 154) (ls' := [some (.inr (.inr (some 84))), some (.inl l1), some (.inl (s 129 ((ax_w32 ((s 84 63) - 1)).toNat))), some (.inl (f_268 (s 129 ((ax_w32 ((s 84 63) - 1)).toNat)) (ax_u2 s 84 63 (ax_w32 ((s 84 63) - 1)))))]) (st' := [.inr (.inr (some 84)), .inl (s 129 ((ax_w32 ((s 84 63) - 1)).toNat)), .inr (.inr (some 84))]) (h1 := hp L q4 c e) rfl ?_
                refine RuP.step (pc' := 157) (ls' := [some (.inr (.inr (some 84))), some (.inl l1), some (.inl (s 129 ((ax_w32 ((s 84 63) - 1)).toNat))), some (.inl (f_268 (s 129 ((ax_w32 ((s 84 63) - 1)).toNat)) (ax_u2 s 84 63 (ax_w32 ((s 84 63) - 1)))))]) (st' := [.inr (.inr (some 127)), .inl (s 129 ((ax_w32 ((s 84 63) - 1)).toNat)), .inr (.inr (some 84))]) (h1 := hp L q4 c e) rfl ?_
                refine RuP.step (pc' := 158) (ls' := [some (.inr (.inr (some 84))), some (.inl l1), some (.inl (s 129 ((ax_w32 ((s 84 63) - 1)).toNat))), some (.inl (f_268 (s 129 ((ax_w32 ((s 84 63) - 1)).toNat)) (ax_u2 s 84 63 (ax_w32 ((s 84 63) - 1)))))]) (st' := [.inr (.inr (some 84)), .inr (.inr (some 127)), .inl (s 129 ((ax_w32 ((s 84 63) - 1)).toNat)), .inr (.inr (some 84))]) (h1 := hp L q4 c e) rfl ?_
                refine RuP.step (pc' := 161) (ls' := [some (.inr (.inr (some 84))), some (.inl l1), some (.inl (s 129 ((ax_w32 ((s 84 63) - 1)).toNat))), some (.inl (f_268 (s 129 ((ax_w32 ((s 84 63) - 1)).toNat)) (ax_u2 s 84 63 (ax_w32 ((s 84 63) - 1)))))]) (st' := [.inl (q4 84 59), .inr (.inr (some 127)), .inl (s 129 ((ax_w32 ((s 84 63) - 1)).toNat)), .inr (.inr (some 84))]) (h1 := hp L q4 c e) rfl ?_
                refine RuP.step (pc' := 162) (ls' := [some (.inr (.inr (some 84))), some (.inl l1), some (.inl (s 129 ((ax_w32 ((s 84 63) - 1)).toNat))), some (.inl (f_268 (s 129 ((ax_w32 ((s 84 63) - 1)).toNat)) (ax_u2 s 84 63 (ax_w32 ((s 84 63) - 1)))))]) (st' := [.inl 2, .inl (q4 84 59), .inr (.inr (some 127)), .inl (s 129 ((ax_w32 ((s 84 63) - 1)).toNat)), .inr (.inr (some 84))]) (h1 := hp L q4 c e) rfl ?_
                refine RuP.step (pc' := 163) (ls' := [some (.inr (.inr (some 84))), some (.inl l1), some (.inl (s 129 ((ax_w32 ((s 84 63) - 1)).toNat))), some (.inl (f_268 (s 129 ((ax_w32 ((s 84 63) - 1)).toNat)) (ax_u2 s 84 63 (ax_w32 ((s 84 63) - 1)))))]) (st' := [.inl (ax_w32 ((q4 84 59) - 2)), .inr (.inr (some 127)), .inl (s 129 ((ax_w32 ((s 84 63) - 1)).toNat)), .inr (.inr (some 84))]) (h1 := hp L q4 c e) rfl ?_
                obtain ⟨b9, h⟩ := gd_some h
                refine RuP.ald (f := fun t => t == 0) (j := ax_w32 ((q4 84 59) - 2)) (a := 127) rfl rfl b9.1 b9.2 ?_
                refine RuP.step (pc' := 165) (ls' := [some (.inr (.inr (some 84))), some (.inl l1), some (.inl (s 129 ((ax_w32 ((s 84 63) - 1)).toNat))), some (.inl (f_268 (s 129 ((ax_w32 ((s 84 63) - 1)).toNat)) (ax_u2 s 84 63 (ax_w32 ((s 84 63) - 1)))))]) (st' := [.inr (.inr (some 84)), .inl (q4 127 ((ax_w32 ((q4 84 59) - 2)).toNat)), .inl (s 129 ((ax_w32 ((s 84 63) - 1)).toNat)), .inr (.inr (some 84))]) (h1 := hp L q4 c e) rfl ?_
                refine RuP.step (pc' := 168) (ls' := [some (.inr (.inr (some 84))), some (.inl l1), some (.inl (s 129 ((ax_w32 ((s 84 63) - 1)).toNat))), some (.inl (f_268 (s 129 ((ax_w32 ((s 84 63) - 1)).toNat)) (ax_u2 s 84 63 (ax_w32 ((s 84 63) - 1)))))]) (st' := [.inr (.inr (some 130)), .inl (q4 127 ((ax_w32 ((q4 84 59) - 2)).toNat)), .inl (s 129 ((ax_w32 ((s 84 63) - 1)).toNat)), .inr (.inr (some 84))]) (h1 := hp L q4 c e) rfl ?_
                refine RuP.step (pc' := 169) (ls' := [some (.inr (.inr (some 84))), some (.inl l1), some (.inl (s 129 ((ax_w32 ((s 84 63) - 1)).toNat))), some (.inl (f_268 (s 129 ((ax_w32 ((s 84 63) - 1)).toNat)) (ax_u2 s 84 63 (ax_w32 ((s 84 63) - 1)))))]) (st' := [.inr (.inr (some 84)), .inr (.inr (some 130)), .inl (q4 127 ((ax_w32 ((q4 84 59) - 2)).toNat)), .inl (s 129 ((ax_w32 ((s 84 63) - 1)).toNat)), .inr (.inr (some 84))]) (h1 := hp L q4 c e) rfl ?_
                refine RuP.step (pc' := 172) (ls' := [some (.inr (.inr (some 84))), some (.inl l1), some (.inl (s 129 ((ax_w32 ((s 84 63) - 1)).toNat))), some (.inl (f_268 (s 129 ((ax_w32 ((s 84 63) - 1)).toNat)) (ax_u2 s 84 63 (ax_w32 ((s 84 63) - 1)))))]) (st' := [.inl (q4 84 63), .inr (.inr (some 130)), .inl (q4 127 ((ax_w32 ((q4 84 59) - 2)).toNat)), .inl (s 129 ((ax_w32 ((s 84 63) - 1)).toNat)), .inr (.inr (some 84))]) (h1 := hp L q4 c e) rfl ?_
                obtain ⟨b10, h⟩ := gd_some h
                refine RuP.ald (f := fun t => t == 0) (j := q4 84 63) (a := 130) rfl rfl b10.1 b10.2 ?_
                refine RuP.step (pc' := 174) (ls' := [some (.inr (.inr (some 84))), some (.inl l1), some (.inl (s 129 ((ax_w32 ((s 84 63) - 1)).toNat))), some (.inl (f_268 (s 129 ((ax_w32 ((s 84 63) - 1)).toNat)) (ax_u2 s 84 63 (ax_w32 ((s 84 63) - 1)))))]) (st' := [.inl (-1), .inl (q4 130 ((q4 84 63).toNat)), .inl (q4 127 ((ax_w32 ((q4 84 59) - 2)).toNat)), .inl (s 129 ((ax_w32 ((s 84 63) - 1)).toNat)), .inr (.inr (some 84))]) (h1 := hp L q4 c e) rfl ?_
                refine RuP.step (pc' := 175) (ls' := [some (.inr (.inr (some 84))), some (.inl l1), some (.inl (s 129 ((ax_w32 ((s 84 63) - 1)).toNat))), some (.inl (f_268 (s 129 ((ax_w32 ((s 84 63) - 1)).toNat)) (ax_u2 s 84 63 (ax_w32 ((s 84 63) - 1)))))]) (st' := [.inl 2, .inl (-1), .inl (q4 130 ((q4 84 63).toNat)), .inl (q4 127 ((ax_w32 ((q4 84 59) - 2)).toNat)), .inl (s 129 ((ax_w32 ((s 84 63) - 1)).toNat)), .inr (.inr (some 84))]) (h1 := hp L q4 c e) rfl ?_
                obtain ⟨q5, h1, h⟩ := bd_some h
                refine RuP.cV rfl ((ev_266 h1).up (by decide)) ?_
                exact bl_269_178 ih _ _ _ _ _ h
              by_cases h11 : ¬ (f_268 (s 129 ((ax_w32 ((s 84 63) - 1)).toNat)) (ax_u2 s 84 63 (ax_w32 ((s 84 63) - 1)))) = 1
              · refine RuP.jy rfl h11 ?_
                refine RuP.step (pc' := 135) (ls' := [some (.inr (.inr (some 84))), some (.inl l1), some (.inl (s 129 ((ax_w32 ((s 84 63) - 1)).toNat))), some (.inl (f_268 (s 129 ((ax_w32 ((s 84 63) - 1)).toNat)) (ax_u2 s 84 63 (ax_w32 ((s 84 63) - 1)))))]) (st' := [.inl (f_268 (s 129 ((ax_w32 ((s 84 63) - 1)).toNat)) (ax_u2 s 84 63 (ax_w32 ((s 84 63) - 1)))), .inl (ax_w32 ((s 84 59) - 2)), .inr (.inr (some 84))]) (h1 := hp L (ax_u2 s 84 63 (ax_w32 ((s 84 63) - 1))) c e) rfl ?_
                exact J9 _ (by simp only [if_pos h11])
              · refine RuP.jn rfl h11 ?_
                refine RuP.step (pc' := 131) (ls' := [some (.inr (.inr (some 84))), some (.inl l1), some (.inl (s 129 ((ax_w32 ((s 84 63) - 1)).toNat))), some (.inl (f_268 (s 129 ((ax_w32 ((s 84 63) - 1)).toNat)) (ax_u2 s 84 63 (ax_w32 ((s 84 63) - 1)))))]) (st' := [.inl 2, .inl (ax_w32 ((s 84 59) - 2)), .inr (.inr (some 84))]) (h1 := hp L (ax_u2 s 84 63 (ax_w32 ((s 84 63) - 1))) c e) rfl ?_
                refine RuP.step (pc' := 135) (ls' := [some (.inr (.inr (some 84))), some (.inl l1), some (.inl (s 129 ((ax_w32 ((s 84 63) - 1)).toNat))), some (.inl (f_268 (s 129 ((ax_w32 ((s 84 63) - 1)).toNat)) (ax_u2 s 84 63 (ax_w32 ((s 84 63) - 1)))))]) (st' := [.inl 2, .inl (ax_w32 ((s 84 59) - 2)), .inr (.inr (some 84))]) (h1 := hp L (ax_u2 s 84 63 (ax_w32 ((s 84 63) - 1))) c e) rfl ?_
                exact J9 _ (by simp only [if_neg h11])
            · rw [if_neg h7] at h
              refine RuP.jn rfl h7 ?_
              exact bl_269_73 ih _ _ _ _ _ h
noncomputable def f_269 (x0 : Int) (s : Sg) : Option Sg :=
  j_269_0 FU x0 s
theorem ev_269 {L c : Nat} {e : Nat → Nat} {s : Sg} {x0 : Int} {q : Sg} (h : f_269 x0 s = some q) : EvP 3 269 [.inr (.inr (some 84)), .inl x0] (hp L s c e) (oV L c e q) := by
  unfold f_269 at h
  refine EvP.of (μ := tb_m269) (ls := [some (.inr (.inr (some 84))), some (.inl x0), none, none]) rfl (Nat.le_of_ble_eq_true rfl) rfl ?_
  exact bl_269_0 FU _ _ _ _ _ h
/-- MachineTextModel.close()I -/
noncomputable def j_270_191 (l1 : Int) (s : Sg) : Option (Int × Sg) :=
  ((f_231 17 s).bind fun q9 =>
  (gd (0 ≤ l1 ∧ l1 < 8200) (
  some (1, (ax_u2 q9.2 129 l1.toNat 107)))))
set_option maxRecDepth 20000 in
theorem bl_270_191 {L c : Nat} {e : Nat → Nat} : ∀ (d3 : Option ax_V) (z2 : Int) (l1 : Int) (s : Sg) (q : Int × Sg), j_270_191 l1 s = some q → RuP 3 tb_m270 191 [some (.inr (.inr (some 84))), some (.inl l1), some (.inl z2), d3] [] (hp L s c e) (oI L c e q) := by
  intro d3 z2 l1 s q h
  unfold j_270_191 at h
  refine RuP.step (pc' := 192) (ls' := [some (.inr (.inr (some 84))), some (.inl l1), some (.inl z2), d3]) (st' := [.inr (.inr (some 84))]) (h1 := hp L s c e) rfl ?_
  refine RuP.step (pc' := 194) (ls' := [some (.inr (.inr (some 84))), some (.inl l1), some (.inl z2), d3]) (st' := [.inl 17, .inr (.inr (some 84))]) (h1 := hp L s c e) rfl ?_
  obtain ⟨q9, h1, h⟩ := bd_some h
  refine RuP.cI rfl ((ev_231 h1).up (by decide)) ?_
  refine RuP.step (pc' := 198) (ls' := [some (.inr (.inr (some 84))), some (.inl l1), some (.inl z2), d3]) (st' := []) (h1 := hp L q9.2 c e) rfl ?_
  refine RuP.step (pc' := 199) (ls' := [some (.inr (.inr (some 84))), some (.inl l1), some (.inl z2), d3]) (st' := [.inr (.inr (some 84))]) (h1 := hp L q9.2 c e) rfl ?_
  refine RuP.step (pc' := 202) (ls' := [some (.inr (.inr (some 84))), some (.inl l1), some (.inl z2), d3]) (st' := [.inr (.inr (some 129))]) (h1 := hp L q9.2 c e) rfl ?_
  refine RuP.step (pc' := 203) (ls' := [some (.inr (.inr (some 84))), some (.inl l1), some (.inl z2), d3]) (st' := [.inl l1, .inr (.inr (some 129))]) (h1 := hp L q9.2 c e) rfl ?_
  refine RuP.step (pc' := 205) (ls' := [some (.inr (.inr (some 84))), some (.inl l1), some (.inl z2), d3]) (st' := [.inl 107, .inl l1, .inr (.inr (some 129))]) (h1 := hp L q9.2 c e) rfl ?_
  obtain ⟨b0, h⟩ := gd_some h
  refine RuP.ast (f := fun t => t == 0) (j := l1) (a := 129) rfl rfl (by decide) rfl rfl b0.1 b0.2 ?_
  refine RuP.step (pc' := 207) (ls' := [some (.inr (.inr (some 84))), some (.inl l1), some (.inl z2), d3]) (st' := [.inl 1]) (h1 := hp L (ax_u2 q9.2 129 l1.toNat 107) c e) rfl ?_
  cases h
  exact RuP.dI rfl
noncomputable def j_270_85 (s : Sg) : Option (Int × Sg) :=
  (if ¬ (s 84 63) = 0 then
    (gd (0 ≤ ax_w32 ((s 84 63) - 1) ∧ ax_w32 ((s 84 63) - 1) < 8200) (
    ((f_265 (ax_w32 ((s 84 59) - 1)) 0 s).bind fun q1 =>
    (gd (0 ≤ ax_w32 ((s 84 63) - 1) ∧ ax_w32 ((s 84 63) - 1) < 8200) (
    (if ax_w32 ((q1 129 ((ax_w32 ((s 84 63) - 1)).toNat)) - 100) = 1 then
      ((f_231 12 q1).bind fun q2 =>
      (gd (0 ≤ s 130 ((ax_w32 ((s 84 63) - 1)).toNat) ∧ s 130 ((ax_w32 ((s 84 63) - 1)).toNat) < 8200) (
      (gd (0 ≤ ax_w32 ((q2.2 84 59) - 1) ∧ ax_w32 ((q2.2 84 59) - 1) < 8200) (
      (gd (0 ≤ ax_w32 ((q2.2 84 59) - 1) ∧ ax_w32 ((q2.2 84 59) - 1) < 8200) (
      some (0, (ax_u2 (ax_u2 (ax_u2 (ax_u2 (ax_u2 q2.2 132 ((s 130 ((ax_w32 ((s 84 63) - 1)).toNat)).toNat) q2.1) 84 63 (ax_w32 ((q2.2 84 63) - 1))) 84 67 (ax_w32 ((q2.2 84 67) - 1))) 127 ((ax_w32 ((q2.2 84 59) - 1)).toNat) (s 130 ((ax_w32 ((s 84 63) - 1)).toNat))) 128 ((ax_w32 ((q2.2 84 59) - 1)).toNat) (s 130 ((ax_w32 ((s 84 63) - 1)).toNat)))))))))))
    else
    (if ax_w32 ((q1 129 ((ax_w32 ((s 84 63) - 1)).toNat)) - 100) = 2 then
      ((f_231 16 q1).bind fun q3 =>
      ((f_266 2 (s 130 ((ax_w32 ((s 84 63) - 1)).toNat)) (s 130 ((ax_w32 ((s 84 63) - 1)).toNat)) (-1) 1 (ax_u2 (ax_u2 q3.2 84 63 (ax_w32 ((q3.2 84 63) - 1))) 84 67 (ax_w32 ((q3.2 84 67) - 1)))).bind fun q4 =>
      some (0, q4)))
    else
    (if ax_w32 ((q1 129 ((ax_w32 ((s 84 63) - 1)).toNat)) - 100) = 4 then
      ((f_231 8 q1).bind fun q5 =>
      ((f_231 2 q5.2).bind fun q6 =>
      ((f_231 12 q6.2).bind fun q7 =>
      (gd (0 ≤ s 130 ((ax_w32 ((s 84 63) - 1)).toNat) ∧ s 130 ((ax_w32 ((s 84 63) - 1)).toNat) < 8200) (
      ((f_266 ((if ¬ (q7.2 88 ((s 130 ((ax_w32 ((s 84 63) - 1)).toNat)).toNat)) = 39 then 5 else 4) : Int) (s 130 ((ax_w32 ((s 84 63) - 1)).toNat)) (s 130 ((ax_w32 ((s 84 63) - 1)).toNat)) q6.1 1 (ax_u2 (ax_u2 q7.2 84 63 (ax_w32 ((q7.2 84 63) - 1))) 84 67 (ax_w32 ((q7.2 84 67) - 1)))).bind fun q8 =>
      some (0, q8)))))))
    else
    (if ax_w32 ((q1 129 ((ax_w32 ((s 84 63) - 1)).toNat)) - 100) = 6 then
      (gd (g_232 17 q1) (
      (if f_232 17 q1 = 0 then
        j_270_191 (ax_w32 ((s 84 63) - 1)) q1
      else
        (gd (0 ≤ q1 84 18 ∧ q1 84 18 < 8200) (
        j_270_191 (ax_w32 ((s 84 63) - 1)) (ax_u2 q1 92 ((q1 84 18).toNat) 1))))))
    else
      ((f_271 (ax_w32 ((s 84 63) - 1)) (s 130 ((ax_w32 ((s 84 63) - 1)).toNat)) q1).bind fun q10 =>
      some (q10.1, q10.2)))))))))))
  else
    ((f_265 0 0 s).bind fun q11 =>
    some (2, q11)))
set_option maxRecDepth 20000 in
theorem bl_270_85 {L c : Nat} {e : Nat → Nat} : ∀ (d1 d2 d3 : Option ax_V) (s : Sg) (q : Int × Sg), j_270_85 s = some q → RuP 3 tb_m270 85 [some (.inr (.inr (some 84))), d1, d2, d3] [] (hp L s c e) (oI L c e q) := by
  intro d1 d2 d3 s q h
  unfold j_270_85 at h
  refine RuP.step (pc' := 86) (ls' := [some (.inr (.inr (some 84))), d1, d2, d3]) (st' := [.inr (.inr (some 84))]) (h1 := hp L s c e) rfl ?_
  refine RuP.step (pc' := 89) (ls' := [some (.inr (.inr (some 84))), d1, d2, d3]) (st' := [.inl (s 84 63)]) (h1 := hp L s c e) rfl ?_
  by_cases h0 : ¬ (s 84 63) = 0
  · rw [if_pos h0] at h
    refine RuP.jy rfl h0 ?_
    refine RuP.step (pc' := 101) (ls' := [some (.inr (.inr (some 84))), d1, d2, d3]) (st' := [.inr (.inr (some 84))]) (h1 := hp L s c e) rfl ?_
    refine RuP.step (pc' := 104) (ls' := [some (.inr (.inr (some 84))), d1, d2, d3]) (st' := [.inl (s 84 63)]) (h1 := hp L s c e) rfl ?_
    refine RuP.step (pc' := 105) (ls' := [some (.inr (.inr (some 84))), d1, d2, d3]) (st' := [.inl 1, .inl (s 84 63)]) (h1 := hp L s c e) rfl ?_
    refine RuP.step (pc' := 106) (ls' := [some (.inr (.inr (some 84))), d1, d2, d3]) (st' := [.inl (ax_w32 ((s 84 63) - 1))]) (h1 := hp L s c e) rfl ?_
    refine RuP.step (pc' := 107) (ls' := [some (.inr (.inr (some 84))), some (.inl (ax_w32 ((s 84 63) - 1))), d2, d3]) (st' := []) (h1 := hp L s c e) rfl ?_
    refine RuP.step (pc' := 108) (ls' := [some (.inr (.inr (some 84))), some (.inl (ax_w32 ((s 84 63) - 1))), d2, d3]) (st' := [.inr (.inr (some 84))]) (h1 := hp L s c e) rfl ?_
    refine RuP.step (pc' := 111) (ls' := [some (.inr (.inr (some 84))), some (.inl (ax_w32 ((s 84 63) - 1))), d2, d3]) (st' := [.inr (.inr (some 130))]) (h1 := hp L s c e) rfl ?_
    refine RuP.step (pc' := 112) (ls' := [some (.inr (.inr (some 84))), some (.inl (ax_w32 ((s 84 63) - 1))), d2, d3]) (st' := [.inl (ax_w32 ((s 84 63) - 1)), .inr (.inr (some 130))]) (h1 := hp L s c e) rfl ?_
    obtain ⟨b1, h⟩ := gd_some h
    refine RuP.ald (f := fun t => t == 0) (j := ax_w32 ((s 84 63) - 1)) (a := 130) rfl rfl b1.1 b1.2 ?_
    refine RuP.step (pc' := 114) (ls' := [some (.inr (.inr (some 84))), some (.inl (ax_w32 ((s 84 63) - 1))), some (.inl (s 130 ((ax_w32 ((s 84 63) - 1)).toNat))), d3]) (st' := []) (h1 := hp L s c e) rfl ?_
    refine RuP.step (pc' := 115) (ls' := [some (.inr (.inr (some 84))), some (.inl (ax_w32 ((s 84 63) - 1))), some (.inl (s 130 ((ax_w32 ((s 84 63) - 1)).toNat))), d3]) (st' := [.inr (.inr (some 84))]) (h1 := hp L s c e) rfl ?_
    refine RuP.step (pc' := 116) (ls' := [some (.inr (.inr (some 84))), some (.inl (ax_w32 ((s 84 63) - 1))), some (.inl (s 130 ((ax_w32 ((s 84 63) - 1)).toNat))), d3]) (st' := [.inr (.inr (some 84)), .inr (.inr (some 84))]) (h1 := hp L s c e) rfl ?_
    refine RuP.step (pc' := 119) (ls' := [some (.inr (.inr (some 84))), some (.inl (ax_w32 ((s 84 63) - 1))), some (.inl (s 130 ((ax_w32 ((s 84 63) - 1)).toNat))), d3]) (st' := [.inl (s 84 59), .inr (.inr (some 84))]) (h1 := hp L s c e) rfl ?_
    refine RuP.step (pc' := 120) (ls' := [some (.inr (.inr (some 84))), some (.inl (ax_w32 ((s 84 63) - 1))), some (.inl (s 130 ((ax_w32 ((s 84 63) - 1)).toNat))), d3]) (st' := [.inl 1, .inl (s 84 59), .inr (.inr (some 84))]) (h1 := hp L s c e) rfl ?_
    refine RuP.step (pc' := 121) (ls' := [some (.inr (.inr (some 84))), some (.inl (ax_w32 ((s 84 63) - 1))), some (.inl (s 130 ((ax_w32 ((s 84 63) - 1)).toNat))), d3]) (st' := [.inl (ax_w32 ((s 84 59) - 1)), .inr (.inr (some 84))]) (h1 := hp L s c e) rfl ?_
    refine RuP.step (pc' := 122) (ls' := [some (.inr (.inr (some 84))), some (.inl (ax_w32 ((s 84 63) - 1))), some (.inl (s 130 ((ax_w32 ((s 84 63) - 1)).toNat))), d3]) (st' := [.inl 0, .inl (ax_w32 ((s 84 59) - 1)), .inr (.inr (some 84))]) (h1 := hp L s c e) rfl ?_
    obtain ⟨q1, h1, h⟩ := bd_some h
    refine RuP.cV rfl ((ev_265 h1).up (by decide)) ?_
    refine RuP.step (pc' := 126) (ls' := [some (.inr (.inr (some 84))), some (.inl (ax_w32 ((s 84 63) - 1))), some (.inl (s 130 ((ax_w32 ((s 84 63) - 1)).toNat))), d3]) (st' := [.inr (.inr (some 84))]) (h1 := hp L q1 c e) rfl ?_
    refine RuP.step (pc' := 129) (ls' := [some (.inr (.inr (some 84))), some (.inl (ax_w32 ((s 84 63) - 1))), some (.inl (s 130 ((ax_w32 ((s 84 63) - 1)).toNat))), d3]) (st' := [.inr (.inr (some 129))]) (h1 := hp L q1 c e) rfl ?_
    refine RuP.step (pc' := 130) (ls' := [some (.inr (.inr (some 84))), some (.inl (ax_w32 ((s 84 63) - 1))), some (.inl (s 130 ((ax_w32 ((s 84 63) - 1)).toNat))), d3]) (st' := [.inl (ax_w32 ((s 84 63) - 1)), .inr (.inr (some 129))]) (h1 := hp L q1 c e) rfl ?_
    obtain ⟨b2, h⟩ := gd_some h
    refine RuP.ald (f := fun t => t == 0) (j := ax_w32 ((s 84 63) - 1)) (a := 129) rfl rfl b2.1 b2.2 ?_
    refine RuP.step (pc' := 133) (ls' := [some (.inr (.inr (some 84))), some (.inl (ax_w32 ((s 84 63) - 1))), some (.inl (s 130 ((ax_w32 ((s 84 63) - 1)).toNat))), d3]) (st' := [.inl 100, .inl (q1 129 ((ax_w32 ((s 84 63) - 1)).toNat))]) (h1 := hp L q1 c e) rfl ?_
    refine RuP.step (pc' := 134) (ls' := [some (.inr (.inr (some 84))), some (.inl (ax_w32 ((s 84 63) - 1))), some (.inl (s 130 ((ax_w32 ((s 84 63) - 1)).toNat))), d3]) (st' := [.inl (ax_w32 ((q1 129 ((ax_w32 ((s 84 63) - 1)).toNat)) - 100))]) (h1 := hp L q1 c e) rfl ?_
    by_cases h3 : ax_w32 ((q1 129 ((ax_w32 ((s 84 63) - 1)).toNat)) - 100) = 1
    · rw [if_pos h3] at h
      have J4 : RuP 3 tb_m270 208 [some (.inr (.inr (some 84))), some (.inl (ax_w32 ((s 84 63) - 1))), some (.inl (s 130 ((ax_w32 ((s 84 63) - 1)).toNat))), d3] [] (hp L q1 c e) (oI L c e q) := by
        refine RuP.step (pc' := 209) (ls' := [some (.inr (.inr (some 84))), some (.inl (ax_w32 ((s 84 63) - 1))), some (.inl (s 130 ((ax_w32 ((s 84 63) - 1)).toNat))), d3]) (st' := [.inr (.inr (some 84))]) (h1 := hp L q1 c e) rfl ?_
        refine RuP.step (pc' := 212) (ls' := [some (.inr (.inr (some 84))), some (.inl (ax_w32 ((s 84 63) - 1))), some (.inl (s 130 ((ax_w32 ((s 84 63) - 1)).toNat))), d3]) (st' := [.inr (.inr (some 132))]) (h1 := hp L q1 c e) rfl ?_
        refine RuP.step (pc' := 213) (ls' := [some (.inr (.inr (some 84))), some (.inl (ax_w32 ((s 84 63) - 1))), some (.inl (s 130 ((ax_w32 ((s 84 63) - 1)).toNat))), d3]) (st' := [.inl (s 130 ((ax_w32 ((s 84 63) - 1)).toNat)), .inr (.inr (some 132))]) (h1 := hp L q1 c e) rfl ?_
        refine RuP.step (pc' := 214) (ls' := [some (.inr (.inr (some 84))), some (.inl (ax_w32 ((s 84 63) - 1))), some (.inl (s 130 ((ax_w32 ((s 84 63) - 1)).toNat))), d3]) (st' := [.inr (.inr (some 84)), .inl (s 130 ((ax_w32 ((s 84 63) - 1)).toNat)), .inr (.inr (some 132))]) (h1 := hp L q1 c e) rfl ?_
        refine RuP.step (pc' := 216) (ls' := [some (.inr (.inr (some 84))), some (.inl (ax_w32 ((s 84 63) - 1))), some (.inl (s 130 ((ax_w32 ((s 84 63) - 1)).toNat))), d3]) (st' := [.inl 12, .inr (.inr (some 84)), .inl (s 130 ((ax_w32 ((s 84 63) - 1)).toNat)), .inr (.inr (some 132))]) (h1 := hp L q1 c e) rfl ?_
        obtain ⟨q2, h1, h⟩ := bd_some h
        refine RuP.cI rfl ((ev_231 h1).up (by decide)) ?_
        obtain ⟨b4, h⟩ := gd_some h
        refine RuP.ast (f := fun t => t == 0) (j := s 130 ((ax_w32 ((s 84 63) - 1)).toNat)) (a := 132) rfl rfl (by decide) rfl rfl b4.1 b4.2 ?_
        refine RuP.step (pc' := 221) (ls' := [some (.inr (.inr (some 84))), some (.inl (ax_w32 ((s 84 63) - 1))), some (.inl (s 130 ((ax_w32 ((s 84 63) - 1)).toNat))), d3]) (st' := [.inr (.inr (some 84))]) (h1 := hp L (ax_u2 q2.2 132 ((s 130 ((ax_w32 ((s 84 63) - 1)).toNat)).toNat) q2.1) c e) rfl ?_
        refine RuP.step (pc' := 222) (ls' := [some (.inr (.inr (some 84))), some (.inl (ax_w32 ((s 84 63) - 1))), some (.inl (s 130 ((ax_w32 ((s 84 63) - 1)).toNat))), d3]) (st' := [.inr (.inr (some 84)), .inr (.inr (some 84))]) (h1 := hp L (ax_u2 q2.2 132 ((s 130 ((ax_w32 ((s 84 63) - 1)).toNat)).toNat) q2.1) c e) rfl ?_
        refine RuP.step (pc' := 225) (ls' := [some (.inr (.inr (some 84))), some (.inl (ax_w32 ((s 84 63) - 1))), some (.inl (s 130 ((ax_w32 ((s 84 63) - 1)).toNat))), d3]) (st' := [.inl (q2.2 84 63), .inr (.inr (some 84))]) (h1 := hp L (ax_u2 q2.2 132 ((s 130 ((ax_w32 ((s 84 63) - 1)).toNat)).toNat) q2.1) c e) rfl ?_
        refine RuP.step (pc' := 226) (ls' := [some (.inr (.inr (some 84))), some (.inl (ax_w32 ((s 84 63) - 1))), some (.inl (s 130 ((ax_w32 ((s 84 63) - 1)).toNat))), d3]) (st' := [.inl 1, .inl (q2.2 84 63), .inr (.inr (some 84))]) (h1 := hp L (ax_u2 q2.2 132 ((s 130 ((ax_w32 ((s 84 63) - 1)).toNat)).toNat) q2.1) c e) rfl ?_
        refine RuP.step (pc' := 227) (ls' := [some (.inr (.inr (some 84))), some (.inl (ax_w32 ((s 84 63) - 1))), some (.inl (s 130 ((ax_w32 ((s 84 63) - 1)).toNat))), d3]) (st' := [.inl (ax_w32 ((q2.2 84 63) - 1)), .inr (.inr (some 84))]) (h1 := hp L (ax_u2 q2.2 132 ((s 130 ((ax_w32 ((s 84 63) - 1)).toNat)).toNat) q2.1) c e) rfl ?_
        refine RuP.step (pc' := 230) (ls' := [some (.inr (.inr (some 84))), some (.inl (ax_w32 ((s 84 63) - 1))), some (.inl (s 130 ((ax_w32 ((s 84 63) - 1)).toNat))), d3]) (st' := []) (h1 := hp L (ax_u2 (ax_u2 q2.2 132 ((s 130 ((ax_w32 ((s 84 63) - 1)).toNat)).toNat) q2.1) 84 63 (ax_w32 ((q2.2 84 63) - 1))) c e) rfl ?_
        refine RuP.step (pc' := 231) (ls' := [some (.inr (.inr (some 84))), some (.inl (ax_w32 ((s 84 63) - 1))), some (.inl (s 130 ((ax_w32 ((s 84 63) - 1)).toNat))), d3]) (st' := [.inr (.inr (some 84))]) (h1 := hp L (ax_u2 (ax_u2 q2.2 132 ((s 130 ((ax_w32 ((s 84 63) - 1)).toNat)).toNat) q2.1) 84 63 (ax_w32 ((q2.2 84 63) - 1))) c e) rfl ?_
        refine RuP.step (pc' := 232) (ls' := [some (.inr (.inr (some 84))), some (.inl (ax_w32 ((s 84 63) - 1))), some (.inl (s 130 ((ax_w32 ((s 84 63) - 1)).toNat))), d3]) (st' := [.inr (.inr (some 84)), .inr (.inr (some 84))]) (h1 := hp L (ax_u2 (ax_u2 q2.2 132 ((s 130 ((ax_w32 ((s 84 63) - 1)).toNat)).toNat) q2.1) 84 63 (ax_w32 ((q2.2 84 63) - 1))) c e) rfl ?_
        refine RuP.step (pc' := 235) (ls' := [some (.inr (.inr (some 84))), some (.inl (ax_w32 ((s 84 63) - 1))), some (.inl (s 130 ((ax_w32 ((s 84 63) - 1)).toNat))), d3]) (st' := [.inl (q2.2 84 67), .inr (.inr (some 84))]) (h1 := hp L (ax_u2 (ax_u2 q2.2 132 ((s 130 ((ax_w32 ((s 84 63) - 1)).toNat)).toNat) q2.1) 84 63 (ax_w32 ((q2.2 84 63) - 1))) c e) rfl ?_
        refine RuP.step (pc' := 236) (ls' := [some (.inr (.inr (some 84))), some (.inl (ax_w32 ((s 84 63) - 1))), some (.inl (s 130 ((ax_w32 ((s 84 63) - 1)).toNat))), d3]) (st' := [.inl 1, .inl (q2.2 84 67), .inr (.inr (some 84))]) (h1 := hp L (ax_u2 (ax_u2 q2.2 132 ((s 130 ((ax_w32 ((s 84 63) - 1)).toNat)).toNat) q2.1) 84 63 (ax_w32 ((q2.2 84 63) - 1))) c e) rfl ?_
        refine RuP.step (pc' := 237) (ls' := [some (.inr (.inr (some 84))), some (.inl (ax_w32 ((s 84 63) - 1))), some (.inl (s 130 ((ax_w32 ((s 84 63) - 1)).toNat))), d3]) (st' := [.inl (ax_w32 ((q2.2 84 67) - 1)), .inr (.inr (some 84))]) (h1 := hp L (ax_u2 (ax_u2 q2.2 132 ((s 130 ((ax_w32 ((s 84 63) - 1)).toNat)).toNat) q2.1) 84 63 (ax_w32 ((q2.2 84 63) - 1))) c e) rfl ?_
        refine RuP.step (pc' := 240) (ls' := [some (.inr (.inr (some 84))), some (.inl (ax_w32 ((s 84 63) - 1))), some (.inl (s 130 ((ax_w32 ((s 84 63) - 1)).toNat))), d3]) (st' := []) (h1 := hp L (ax_u2 (ax_u2 (ax_u2 q2.2 132 ((s 130 ((ax_w32 ((s 84 63) - 1)).toNat)).toNat) q2.1) 84 63 (ax_w32 ((q2.2 84 63) - 1))) 84 67 (ax_w32 ((q2.2 84 67) - 1))) c e) rfl ?_
        refine RuP.step (pc' := 241) (ls' := [some (.inr (.inr (some 84))), some (.inl (ax_w32 ((s 84 63) - 1))), some (.inl (s 130 ((ax_w32 ((s 84 63) - 1)).toNat))), d3]) (st' := [.inr (.inr (some 84))]) (h1 := hp L (ax_u2 (ax_u2 (ax_u2 q2.2 132 ((s 130 ((ax_w32 ((s 84 63) - 1)).toNat)).toNat) q2.1) 84 63 (ax_w32 ((q2.2 84 63) - 1))) 84 67 (ax_w32 ((q2.2 84 67) - 1))) c e) rfl ?_
        refine RuP.step (pc' := 244) (ls' := [some (.inr (.inr (some 84))), some (.inl (ax_w32 ((s 84 63) - 1))), some (.inl (s 130 ((ax_w32 ((s 84 63) - 1)).toNat))), d3]) (st' := [.inr (.inr (some 127))]) (h1 := hp L (ax_u2 (ax_u2 (ax_u2 q2.2 132 ((s 130 ((ax_w32 ((s 84 63) - 1)).toNat)).toNat) q2.1) 84 63 (ax_w32 ((q2.2 84 63) - 1))) 84 67 (ax_w32 ((q2.2 84 67) - 1))) c e) rfl ?_
        refine RuP.step (pc' := 245) (ls' := [some (.inr (.inr (some 84))), some (.inl (ax_w32 ((s 84 63) - 1))), some (.inl (s 130 ((ax_w32 ((s 84 63) - 1)).toNat))), d3]) (st' := [.inr (.inr (some 84)), .inr (.inr (some 127))]) (h1 := hp L (ax_u2 (ax_u2 (ax_u2 q2.2 132 ((s 130 ((ax_w32 ((s 84 63) - 1)).toNat)).toNat) q2.1) 84 63 (ax_w32 ((q2.2 84 63) - 1))) 84 67 (ax_w32 ((q2.2 84 67) - 1))) c e) rfl ?_
        refine RuP.step (pc' := 248) (ls' := [some (.inr (.inr (some 84))), some (.inl (ax_w32 ((s 84 63) - 1))), some (.inl (s 130 ((ax_w32 ((s 84 63) - 1)).toNat))), d3]) (st' := [.inl (q2.2 84 59), .inr (.inr (some 127))]) (h1 := hp L (ax_u2 (ax_u2 (ax_u2 q2.2 132 ((s 130 ((ax_w32 ((s 84 63) - 1)).toNat)).toNat) q2.1) 84 63 (ax_w32 ((q2.2 84 63) - 1))) 84 67 (ax_w32 ((q2.2 84 67) - 1))) c e) rfl ?_
        refine RuP.step (pc' := 249) (ls' := [some (.inr (.inr (some 84))), some (.inl (ax_w32 ((s 84 63) - 1))), some (.inl (s 130 ((ax_w32 ((s 84 63) - 1)).toNat))), d3]) (st' := [.inl 1, .inl (q2.2 84 59), .inr (.inr (some 127))]) (h1 := hp L (ax_u2 (ax_u2 (ax_u2 q2.2 132 ((s 130 ((ax_w32 ((s 84 63) - 1)).toNat)).toNat) q2.1) 84 63 (ax_w32 ((q2.2 84 63) - 1))) 84 67 (ax_w32 ((q2.2 84 67) - 1))) c e) rfl ?_
        refine RuP.step (pc' := 250) (ls' := [some (.inr (.inr (some 84))), some (.inl (ax_w32 ((s 84 63) - 1))), some (.inl (s 130 ((ax_w32 ((s 84 63) - 1)).toNat))), d3]) (st' := [.inl (ax_w32 ((q2.2 84 59) - 1)), .inr (.inr (some 127))]) (h1 := hp L (ax_u2 (ax_u2 (ax_u2 q2.2 132 ((s 130 ((ax_w32 ((s 84 63) - 1)).toNat)).toNat) q2.1) 84 63 (ax_w32 ((q2.2 84 63) - 1))) 84 67 (ax_w32 ((q2.2 84 67) - 1))) c e) rfl ?_
        refine RuP.step (pc' := 251) (ls' := [some (.inr (.inr (some 84))), some (.inl (ax_w32 ((s 84 63) - 1))), some (.inl (s 130 ((ax_w32 ((s 84 63) - 1)).toNat))), d3]) (st' := [.inl (s 130 ((ax_w32 ((s 84 63) - 1)).toNat)), .inl (ax_w32 ((q2.2 84 59) - 1)), .inr (.inr (some 127))]) (h1 := hp L (ax_u2 (ax_u2 (ax_u2 q2.2 132 ((s 130 ((ax_w32 ((s 84 63) - 1)).toNat)).toNat) q2.1) 84 63 (ax_w32 ((q2.2 84 63) - 1))) 84 67 (ax_w32 ((q2.2 84 67) - 1))) c e) rfl ?_
        obtain ⟨b5, h⟩ := gd_some h
        refine RuP.ast (f := fun t => t == 0) (j := ax_w32 ((q2.2 84 59) - 1)) (a := 127) rfl rfl (by decide) rfl rfl b5.1 b5.2 ?_
        refine RuP.step (pc' := 253) (ls' := [some (.inr (.inr (some 84))), some (.inl (ax_w32 ((s 84 63) - 1))), some (.inl (s 130 ((ax_w32 ((s 84 63) - 1)).toNat))), d3]) (st' := [.inr (.inr (some 84))]) (h1 := hp L (ax_u2 (ax_u2 (ax_u2 (ax_u2 q2.2 132 ((s 130 ((ax_w32 ((s 84 63) - 1)).toNat)).toNat) q2.1) 84 63 (ax_w32 ((q2.2 84 63) - 1))) 84 67 (ax_w32 ((q2.2 84 67) - 1))) 127 ((ax_w32 ((q2.2 84 59) - 1)).toNat) (s 130 ((ax_w32 ((s 84 63) - 1)).toNat))) c e) rfl ?_
        refine RuP.step (pc' := 256) (ls' := [some (.inr (.inr (some 84))), some (.inl (ax_w32 ((s 84 63) - 1))), some (.inl (s 130 ((ax_w32 ((s 84 63) - 1)).toNat))), d3]) (st' := [.inr (.inr (some 128))]) (h1 := hp L (ax_u2 (ax_u2 (ax_u2 (ax_u2 q2.2 132 ((s 130 ((ax_w32 ((s 84 63) - 1)).toNat)).toNat) q2.1) 84 63 (ax_w32 ((q2.2 84 63) - 1))) 84 67 (ax_w32 ((q2.2 84 67) - 1))) 127 ((ax_w32 ((q2.2 84 59) - 1)).toNat) (s 130 ((ax_w32 ((s 84 63) - 1)).toNat))) c e) rfl ?_
        refine RuP.step (pc' := 257) (ls' := [some (.inr (.inr (some 84))), some (.inl (ax_w32 ((s 84 63) - 1))), some (.inl (s 130 ((ax_w32 ((s 84 63) - 1)).toNat))), d3]) (st' := [.inr (.inr (some 84)), .inr (.inr (some 128))]) (h1 := hp L (ax_u2 (ax_u2 (ax_u2 (ax_u2 q2.2 132 ((s 130 ((ax_w32 ((s 84 63) - 1)).toNat)).toNat) q2.1) 84 63 (ax_w32 ((q2.2 84 63) - 1))) 84 67 (ax_w32 ((q2.2 84 67) - 1))) 127 ((ax_w32 ((q2.2 84 59) - 1)).toNat) (s 130 ((ax_w32 ((s 84 63) - 1)).toNat))) c e) rfl ?_
        refine RuP.step (pc' := 260) (ls' := [some (.inr (.inr (some 84))), some (.inl (ax_w32 ((s 84 63) - 1))), some (.inl (s 130 ((ax_w32 ((s 84 63) - 1)).toNat))), d3]) (st' := [.inl (q2.2 84 59), .inr (.inr (some 128))]) (h1 := hp L (ax_u2 (ax_u2 (ax_u2 (ax_u2 q2.2 132 ((s 130 ((ax_w32 ((s 84 63) - 1)).toNat)).toNat) q2.1) 84 63 (ax_w32 ((q2.2 84 63) - 1))) 84 67 (ax_w32 ((q2.2 84 67) - 1))) 127 ((ax_w32 ((q2.2 84 59) - 1)).toNat) (s 130 ((ax_w32 ((s 84 63) - 1)).toNat))) c e) rfl ?_
        refine RuP.step (pc' := 261) (ls' := [some (.inr (.inr (some 84))), some (.inl (ax_w32 ((s 84 63) - 1))), some (.inl (s 130 ((ax_w32 ((s 84 63) - 1)).toNat))), d3]) (st' := [.inl 1, .inl (q2.2 84 59), .inr (.inr (some 128))]) (h1 := hp L (ax_u2 (ax_u2 (ax_u2 (ax_u2 q2.2 132 ((s 130 ((ax_w32 ((s 84 63) - 1)).toNat)).toNat) q2.1) 84 63 (ax_w32 ((q2.2 84 63) - 1))) 84 67 (ax_w32 ((q2.2 84 67) - 1))) 127 ((ax_w32 ((q2.2 84 59) - 1)).toNat) (s 130 ((ax_w32 ((s 84 63) - 1)).toNat))) c e) rfl ?_
        refine RuP.step (pc' := 262) (ls' := [some (.inr (.inr (some 84))), some (.inl (ax_w32 ((s 84 63) - 1))), some (.inl (s 130 ((ax_w32 ((s 84 63) - 1)).toNat))), d3]) (st' := [.inl (ax_w32 ((q2.2 84 59) - 1)), .inr (.inr (some 128))]) (h1 := hp L (ax_u2 (ax_u2 (ax_u2 (ax_u2 q2.2 132 ((s 130 ((ax_w32 ((s 84 63) - 1)).toNat)).toNat) q2.1) 84 63 (ax_w32 ((q2.2 84 63) - 1))) 84 67 (ax_w32 ((q2.2 84 67) - 1))) 127 ((ax_w32 ((q2.2 84 59) - 1)).toNat) (s 130 ((ax_w32 ((s 84 63) - 1)).toNat))) c e) rfl ?_
        refine RuP.step (pc' := 263) (ls' := [some (.inr (.inr (some 84))), some (.inl (ax_w32 ((s 84 63) - 1))), some (.inl (s 130 ((ax_w32 ((s 84 63) - 1)).toNat))), d3]) (st' := [.inl (s 130 ((ax_w32 ((s 84 63) - 1)).toNat)), .inl (ax_w32 ((q2.2 84 59) - 1)), .inr (.inr (some 128))]) (h1 := hp L (ax_u2 (ax_u2 (ax_u2 (ax_u2 q2.2 132 ((s 130 ((ax_w32 ((s 84 63) - 1)).toNat)).toNat) q2.1) 84 63 (ax_w32 ((q2.2 84 63) - 1))) 84 67 (ax_w32 ((q2.2 84 67) - 1))) 127 ((ax_w32 ((q2.2 84 59) - 1)).toNat) (s 130 ((ax_w32 ((s 84 63) - 1)).toNat))) c e) rfl ?_
        obtain ⟨b6, h⟩ := gd_some h
        refine RuP.ast (f := fun t => t == 0) (j := ax_w32 ((q2.2 84 59) - 1)) (a := 128) rfl rfl (by decide) rfl rfl b6.1 b6.2 ?_
        refine RuP.step (pc' := 265) (ls' := [some (.inr (.inr (some 84))), some (.inl (ax_w32 ((s 84 63) - 1))), some (.inl (s 130 ((ax_w32 ((s 84 63) - 1)).toNat))), d3]) (st' := [.inl 0]) (h1 := hp L (ax_u2 (ax_u2 (ax_u2 (ax_u2 (ax_u2 q2.2 132 ((s 130 ((ax_w32 ((s 84 63) - 1)).toNat)).toNat) q2.1) 84 63 (ax_w32 ((q2.2 84 63) - 1))) 84 67 (ax_w32 ((q2.2 84 67) - 1))) 127 ((ax_w32 ((q2.2 84 59) - 1)).toNat) (s 130 ((ax_w32 ((s 84 63) - 1)).toNat))) 128 ((ax_w32 ((q2.2 84 59) - 1)).toNat) (s 130 ((ax_w32 ((s 84 63) - 1)).toNat))) c e) rfl ?_
        cases h
        exact RuP.dI rfl
      exact RuP.sw (i := .tableswitch (236) (1) (6) #[74, 132, 236, 170, 236, 38]) rfl h3 rfl J4
    rw [if_neg h3] at h
    by_cases h7 : ax_w32 ((q1 129 ((ax_w32 ((s 84 63) - 1)).toNat)) - 100) = 2
    · rw [if_pos h7] at h
      have J8 : RuP 3 tb_m270 266 [some (.inr (.inr (some 84))), some (.inl (ax_w32 ((s 84 63) - 1))), some (.inl (s 130 ((ax_w32 ((s 84 63) - 1)).toNat))), d3] [] (hp L q1 c e) (oI L c e q) := by
        refine RuP.step (pc' := 267) (ls' := [some (.inr (.inr (some 84))), some (.inl (ax_w32 ((s 84 63) - 1))), some (.inl (s 130 ((ax_w32 ((s 84 63) - 1)).toNat))), d3]) (st' := [.inr (.inr (some 84))]) (h1 := hp L q1 c e) rfl ?_
        refine RuP.step (pc' := 269) (ls' := [some (.inr (.inr (some 84))), some (.inl (ax_w32 ((s 84 63) - 1))), some (.inl (s 130 ((ax_w32 ((s 84 63) - 1)).toNat))), d3]) (st' := [.inl 16, .inr (.inr (some 84))]) (h1 := hp L q1 c e) rfl ?_
        obtain ⟨q3, h1, h⟩ := bd_some h
        refine RuP.cI rfl ((ev_231 h1).up (by decide)) ?_
        refine RuP.step (pc' := 273) (ls' := [some (.inr (.inr (some 84))), some (.inl (ax_w32 ((s 84 63) - 1))), some (.inl (s 130 ((ax_w32 ((s 84 63) - 1)).toNat))), d3]) (st' := []) (h1 := hp L q3.2 c e) rfl ?_
        refine RuP.step (pc' := 274) (ls' := [some (.inr (.inr (some 84))), some (.inl (ax_w32 ((s 84 63) - 1))), some (.inl (s 130 ((ax_w32 ((s 84 63) - 1)).toNat))), d3]) (st' := [.inr (.inr (some 84))]) (h1 := hp L q3.2 c e) rfl ?_
        refine RuP.step (pc' := 275) (ls' := [some (.inr (.inr (some 84))), some (.inl (ax_w32 ((s 84 63) - 1))), some (.inl (s 130 ((ax_w32 ((s 84 63) - 1)).toNat))), d3]) (st' := [.inr (.inr (some 84)), .inr (.inr (some 84))]) (h1 := hp L q3.2 c e) rfl ?_
        refine RuP.step (pc' := 278) (ls' := [some (.inr (.inr (some 84))), some (.inl (ax_w32 ((s 84 63) - 1))), some (.inl (s 130 ((ax_w32 ((s 84 63) - 1)).toNat))), d3]) (st' := [.inl (q3.2 84 63), .inr (.inr (some 84))]) (h1 := hp L q3.2 c e) rfl ?_
        refine RuP.step (pc' := 279) (ls' := [some (.inr (.inr (some 84))), some (.inl (ax_w32 ((s 84 63) - 1))), some (.inl (s 130 ((ax_w32 ((s 84 63) - 1)).toNat))), d3]) (st' := [.inl 1, .inl (q3.2 84 63), .inr (.inr (some 84))]) (h1 := hp L q3.2 c e) rfl ?_
        refine RuP.step (pc' := 280) (ls' := [some (.inr (.inr (some 84))), some (.inl (ax_w32 ((s 84 63) - 1))), some (.inl (s 130 ((ax_w32 ((s 84 63) - 1)).toNat))), d3]) (st' := [.inl (ax_w32 ((q3.2 84 63) - 1)), .inr (.inr (some 84))]) (h1 := hp L q3.2 c e) rfl ?_
        refine RuP.step (pc' := 283) (ls' := [some (.inr (.inr (some 84))), some (.inl (ax_w32 ((s 84 63) - 1))), some (.inl (s 130 ((ax_w32 ((s 84 63) - 1)).toNat))), d3]) (st' := []) (h1 := hp L (ax_u2 q3.2 84 63 (ax_w32 ((q3.2 84 63) - 1))) c e) rfl ?_
        refine RuP.step (pc' := 284) (ls' := [some (.inr (.inr (some 84))), some (.inl (ax_w32 ((s 84 63) - 1))), some (.inl (s 130 ((ax_w32 ((s 84 63) - 1)).toNat))), d3]) (st' := [.inr (.inr (some 84))]) (h1 := hp L (ax_u2 q3.2 84 63 (ax_w32 ((q3.2 84 63) - 1))) c e) rfl ?_
        refine RuP.step (pc' := 285) (ls' := [some (.inr (.inr (some 84))), some (.inl (ax_w32 ((s 84 63) - 1))), some (.inl (s 130 ((ax_w32 ((s 84 63) - 1)).toNat))), d3]) (st' := [.inr (.inr (some 84)), .inr (.inr (some 84))]) (h1 := hp L (ax_u2 q3.2 84 63 (ax_w32 ((q3.2 84 63) - 1))) c e) rfl ?_
        refine RuP.step (pc' := 288) (ls' := [some (.inr (.inr (some 84))), some (.inl (ax_w32 ((s 84 63) - 1))), some (.inl (s 130 ((ax_w32 ((s 84 63) - 1)).toNat))), d3]) (st' := [.inl (q3.2 84 67), .inr (.inr (some 84))]) (h1 := hp L (ax_u2 q3.2 84 63 (ax_w32 ((q3.2 84 63) - 1))) c e) rfl ?_
        refine RuP.step (pc' := 289) (ls' := [some (.inr (.inr (some 84))), some (.inl (ax_w32 ((s 84 63) - 1))), some (.inl (s 130 ((ax_w32 ((s 84 63) - 1)).toNat))), d3]) (st' := [.inl 1, .inl (q3.2 84 67), .inr (.inr (some 84))]) (h1 := hp L (ax_u2 q3.2 84 63 (ax_w32 ((q3.2 84 63) - 1))) c e) rfl ?_
        refine RuP.step (pc' := 290) (ls' := [some (.inr (.inr (some 84))), some (.inl (ax_w32 ((s 84 63) - 1))), some (.inl (s 130 ((ax_w32 ((s 84 63) - 1)).toNat))), d3]) (st' := [.inl (ax_w32 ((q3.2 84 67) - 1)), .inr (.inr (some 84))]) (h1 := hp L (ax_u2 q3.2 84 63 (ax_w32 ((q3.2 84 63) - 1))) c e) rfl ?_
        refine RuP.step (pc' := 293) (ls' := [some (.inr (.inr (some 84))), some (.inl (ax_w32 ((s 84 63) - 1))), some (.inl (s 130 ((ax_w32 ((s 84 63) - 1)).toNat))), d3]) (st' := []) (h1 := hp L (ax_u2 (ax_u2 q3.2 84 63 (ax_w32 ((q3.2 84 63) - 1))) 84 67 (ax_w32 ((q3.2 84 67) - 1))) c e) rfl ?_
        refine RuP.step (pc' := 294) (ls' := [some (.inr (.inr (some 84))), some (.inl (ax_w32 ((s 84 63) - 1))), some (.inl (s 130 ((ax_w32 ((s 84 63) - 1)).toNat))), d3]) (st' := [.inr (.inr (some 84))]) (h1 := hp L (ax_u2 (ax_u2 q3.2 84 63 (ax_w32 ((q3.2 84 63) - 1))) 84 67 (ax_w32 ((q3.2 84 67) - 1))) c e) rfl ?_
        refine RuP.step (pc' := 295) (ls' := [some (.inr (.inr (some 84))), some (.inl (ax_w32 ((s 84 63) - 1))), some (.inl (s 130 ((ax_w32 ((s 84 63) - 1)).toNat))), d3]) (st' := [.inl 2, .inr (.inr (some 84))]) (h1 := hp L (ax_u2 (ax_u2 q3.2 84 63 (ax_w32 ((q3.2 84 63) - 1))) 84 67 (ax_w32 ((q3.2 84 67) - 1))) c e) rfl ?_
        refine RuP.step (pc' := 296) (ls' := [some (.inr (.inr (some 84))), some (.inl (ax_w32 ((s 84 63) - 1))), some (.inl (s 130 ((ax_w32 ((s 84 63) - 1)).toNat))), d3]) (st' := [.inl (s 130 ((ax_w32 ((s 84 63) - 1)).toNat)), .inl 2, .inr (.inr (some 84))]) (h1 := hp L (ax_u2 (ax_u2 q3.2 84 63 (ax_w32 ((q3.2 84 63) - 1))) 84 67 (ax_w32 ((q3.2 84 67) - 1))) c e) rfl ?_
        refine RuP.step (pc' := 297) (ls' := [some (.inr (.inr (some 84))), some (.inl (ax_w32 ((s 84 63) - 1))), some (.inl (s 130 ((ax_w32 ((s 84 63) - 1)).toNat))), d3]) (st' := [.inl (s 130 ((ax_w32 ((s 84 63) - 1)).toNat)), .inl (s 130 ((ax_w32 ((s 84 63) - 1)).toNat)), .inl 2, .inr (.inr (some 84))]) (h1 := hp L (ax_u2 (ax_u2 q3.2 84 63 (ax_w32 ((q3.2 84 63) - 1))) 84 67 (ax_w32 ((q3.2 84 67) - 1))) c e) rfl ?_
        refine RuP.step (pc' := 298) (ls' := [some (.inr (.inr (some 84))), some (.inl (ax_w32 ((s 84 63) - 1))), some (.inl (s 130 ((ax_w32 ((s 84 63) - 1)).toNat))), d3]) (st' := [.inl (-1), .inl (s 130 ((ax_w32 ((s 84 63) - 1)).toNat)), .inl (s 130 ((ax_w32 ((s 84 63) - 1)).toNat)), .inl 2, .inr (.inr (some 84))]) (h1 := hp L (ax_u2 (ax_u2 q3.2 84 63 (ax_w32 ((q3.2 84 63) - 1))) 84 67 (ax_w32 ((q3.2 84 67) - 1))) c e) rfl ?_
        refine RuP.step (pc' := 299) (ls' := [some (.inr (.inr (some 84))), some (.inl (ax_w32 ((s 84 63) - 1))), some (.inl (s 130 ((ax_w32 ((s 84 63) - 1)).toNat))), d3]) (st' := [.inl 1, .inl (-1), .inl (s 130 ((ax_w32 ((s 84 63) - 1)).toNat)), .inl (s 130 ((ax_w32 ((s 84 63) - 1)).toNat)), .inl 2, .inr (.inr (some 84))]) (h1 := hp L (ax_u2 (ax_u2 q3.2 84 63 (ax_w32 ((q3.2 84 63) - 1))) 84 67 (ax_w32 ((q3.2 84 67) - 1))) c e) rfl ?_
        obtain ⟨q4, h1, h⟩ := bd_some h
        refine RuP.cV rfl ((ev_266 h1).up (by decide)) ?_
        refine RuP.step (pc' := 303) (ls' := [some (.inr (.inr (some 84))), some (.inl (ax_w32 ((s 84 63) - 1))), some (.inl (s 130 ((ax_w32 ((s 84 63) - 1)).toNat))), d3]) (st' := [.inl 0]) (h1 := hp L q4 c e) rfl ?_
        cases h
        exact RuP.dI rfl
      exact RuP.sw (i := .tableswitch (236) (1) (6) #[74, 132, 236, 170, 236, 38]) rfl h7 rfl J8
    rw [if_neg h7] at h
    by_cases h8 : ax_w32 ((q1 129 ((ax_w32 ((s 84 63) - 1)).toNat)) - 100) = 4
    · rw [if_pos h8] at h
      have J9 : RuP 3 tb_m270 304 [some (.inr (.inr (some 84))), some (.inl (ax_w32 ((s 84 63) - 1))), some (.inl (s 130 ((ax_w32 ((s 84 63) - 1)).toNat))), d3] [] (hp L q1 c e) (oI L c e q) := by
        refine RuP.step (pc' := 305) (ls' := [some (.inr (.inr (some 84))), some (.inl (ax_w32 ((s 84 63) - 1))), some (.inl (s 130 ((ax_w32 ((s 84 63) - 1)).toNat))), d3]) (st' := [.inr (.inr (some 84))]) (h1 := hp L q1 c e) rfl ?_
        refine RuP.step (pc' := 307) (ls' := [some (.inr (.inr (some 84))), some (.inl (ax_w32 ((s 84 63) - 1))), some (.inl (s 130 ((ax_w32 ((s 84 63) - 1)).toNat))), d3]) (st' := [.inl 8, .inr (.inr (some 84))]) (h1 := hp L q1 c e) rfl ?_
        obtain ⟨q5, h1, h⟩ := bd_some h
        refine RuP.cI rfl ((ev_231 h1).up (by decide)) ?_
        refine RuP.step (pc' := 311) (ls' := [some (.inr (.inr (some 84))), some (.inl (ax_w32 ((s 84 63) - 1))), some (.inl (s 130 ((ax_w32 ((s 84 63) - 1)).toNat))), d3]) (st' := []) (h1 := hp L q5.2 c e) rfl ?_
        refine RuP.step (pc' := 312) (ls' := [some (.inr (.inr (some 84))), some (.inl (ax_w32 ((s 84 63) - 1))), some (.inl (s 130 ((ax_w32 ((s 84 63) - 1)).toNat))), d3]) (st' := [.inr (.inr (some 84))]) (h1 := hp L q5.2 c e) rfl ?_
        refine RuP.step (pc' := 313) (ls' := [some (.inr (.inr (some 84))), some (.inl (ax_w32 ((s 84 63) - 1))), some (.inl (s 130 ((ax_w32 ((s 84 63) - 1)).toNat))), d3]) (st' := [.inl 2, .inr (.inr (some 84))]) (h1 := hp L q5.2 c e) rfl ?_
        obtain ⟨q6, h1, h⟩ := bd_some h
        refine RuP.cI rfl ((ev_231 h1).up (by decide)) ?_
        refine RuP.step (pc' := 317) (ls' := [some (.inr (.inr (some 84))), some (.inl (ax_w32 ((s 84 63) - 1))), some (.inl (s 130 ((ax_w32 ((s 84 63) - 1)).toNat))), some (.inl q6.1)]) (st' := []) (h1 := hp L q6.2 c e) rfl ?_
        refine RuP.step (pc' := 318) (ls' := [some (.inr (.inr (some 84))), some (.inl (ax_w32 ((s 84 63) - 1))), some (.inl (s 130 ((ax_w32 ((s 84 63) - 1)).toNat))), some (.inl q6.1)]) (st' := [.inr (.inr (some 84))]) (h1 := hp L q6.2 c e) rfl ?_
        refine RuP.step (pc' := 320) (ls' := [some (.inr (.inr (some 84))), some (.inl (ax_w32 ((s 84 63) - 1))), some (.inl (s 130 ((ax_w32 ((s 84 63) - 1)).toNat))), some (.inl q6.1)]) (st' := [.inl 12, .inr (.inr (some 84))]) (h1 := hp L q6.2 c e) rfl ?_
        obtain ⟨q7, h1, h⟩ := bd_some h
        refine RuP.cI rfl ((ev_231 h1).up (by decide)) ?_
        refine RuP.step (pc' := 324) (ls' := [some (.inr (.inr (some 84))), some (.inl (ax_w32 ((s 84 63) - 1))), some (.inl (s 130 ((ax_w32 ((s 84 63) - 1)).toNat))), some (.inl q6.1)]) (st' := []) (h1 := hp L q7.2 c e) rfl ?_
        refine RuP.step (pc' := 325) (ls' := [some (.inr (.inr (some 84))), some (.inl (ax_w32 ((s 84 63) - 1))), some (.inl (s 130 ((ax_w32 ((s 84 63) - 1)).toNat))), some (.inl q6.1)]) (st' := [.inr (.inr (some 84))]) (h1 := hp L q7.2 c e) rfl ?_
        refine RuP.step (pc' := 326) (ls' := [some (.inr (.inr (some 84))), some (.inl (ax_w32 ((s 84 63) - 1))), some (.inl (s 130 ((ax_w32 ((s 84 63) - 1)).toNat))), some (.inl q6.1)]) (st' := [.inr (.inr (some 84)), .inr (.inr (some 84))]) (h1 := hp L q7.2 c e) rfl ?_
        refine RuP.step (pc' := 329) (ls' := [some (.inr (.inr (some 84))), some (.inl (ax_w32 ((s 84 63) - 1))), some (.inl (s 130 ((ax_w32 ((s 84 63) - 1)).toNat))), some (.inl q6.1)]) (st' := [.inl (q7.2 84 63), .inr (.inr (some 84))]) (h1 := hp L q7.2 c e) rfl ?_
        refine RuP.step (pc' := 330) (ls' := [some (.inr (.inr (some 84))), some (.inl (ax_w32 ((s 84 63) - 1))), some (.inl (s 130 ((ax_w32 ((s 84 63) - 1)).toNat))), some (.inl q6.1)]) (st' := [.inl 1, .inl (q7.2 84 63), .inr (.inr (some 84))]) (h1 := hp L q7.2 c e) rfl ?_
        refine RuP.step (pc' := 331) (ls' := [some (.inr (.inr (some 84))), some (.inl (ax_w32 ((s 84 63) - 1))), some (.inl (s 130 ((ax_w32 ((s 84 63) - 1)).toNat))), some (.inl q6.1)]) (st' := [.inl (ax_w32 ((q7.2 84 63) - 1)), .inr (.inr (some 84))]) (h1 := hp L q7.2 c e) rfl ?_
        refine RuP.step (pc' := 334) (ls' := [some (.inr (.inr (some 84))), some (.inl (ax_w32 ((s 84 63) - 1))), some (.inl (s 130 ((ax_w32 ((s 84 63) - 1)).toNat))), some (.inl q6.1)]) (st' := []) (h1 := hp L (ax_u2 q7.2 84 63 (ax_w32 ((q7.2 84 63) - 1))) c e) rfl ?_
        refine RuP.step (pc' := 335) (ls' := [some (.inr (.inr (some 84))), some (.inl (ax_w32 ((s 84 63) - 1))), some (.inl (s 130 ((ax_w32 ((s 84 63) - 1)).toNat))), some (.inl q6.1)]) (st' := [.inr (.inr (some 84))]) (h1 := hp L (ax_u2 q7.2 84 63 (ax_w32 ((q7.2 84 63) - 1))) c e) rfl ?_
        refine RuP.step (pc' := 336) (ls' := [some (.inr (.inr (some 84))), some (.inl (ax_w32 ((s 84 63) - 1))), some (.inl (s 130 ((ax_w32 ((s 84 63) - 1)).toNat))), some (.inl q6.1)]) (st' := [.inr (.inr (some 84)), .inr (.inr (some 84))]) (h1 := hp L (ax_u2 q7.2 84 63 (ax_w32 ((q7.2 84 63) - 1))) c e) rfl ?_
        refine RuP.step (pc' := 339) (ls' := [some (.inr (.inr (some 84))), some (.inl (ax_w32 ((s 84 63) - 1))), some (.inl (s 130 ((ax_w32 ((s 84 63) - 1)).toNat))), some (.inl q6.1)]) (st' := [.inl (q7.2 84 67), .inr (.inr (some 84))]) (h1 := hp L (ax_u2 q7.2 84 63 (ax_w32 ((q7.2 84 63) - 1))) c e) rfl ?_
        refine RuP.step (pc' := 340) (ls' := [some (.inr (.inr (some 84))), some (.inl (ax_w32 ((s 84 63) - 1))), some (.inl (s 130 ((ax_w32 ((s 84 63) - 1)).toNat))), some (.inl q6.1)]) (st' := [.inl 1, .inl (q7.2 84 67), .inr (.inr (some 84))]) (h1 := hp L (ax_u2 q7.2 84 63 (ax_w32 ((q7.2 84 63) - 1))) c e) rfl ?_
        refine RuP.step (pc' := 341) (ls' := [some (.inr (.inr (some 84))), some (.inl (ax_w32 ((s 84 63) - 1))), some (.inl (s 130 ((ax_w32 ((s 84 63) - 1)).toNat))), some (.inl q6.1)]) (st' := [.inl (ax_w32 ((q7.2 84 67) - 1)), .inr (.inr (some 84))]) (h1 := hp L (ax_u2 q7.2 84 63 (ax_w32 ((q7.2 84 63) - 1))) c e) rfl ?_
        refine RuP.step (pc' := 344) (ls' := [some (.inr (.inr (some 84))), some (.inl (ax_w32 ((s 84 63) - 1))), some (.inl (s 130 ((ax_w32 ((s 84 63) - 1)).toNat))), some (.inl q6.1)]) (st' := []) (h1 := hp L (ax_u2 (ax_u2 q7.2 84 63 (ax_w32 ((q7.2 84 63) - 1))) 84 67 (ax_w32 ((q7.2 84 67) - 1))) c e) rfl ?_
        refine RuP.step (pc' := 345) (ls' := [some (.inr (.inr (some 84))), some (.inl (ax_w32 ((s 84 63) - 1))), some (.inl (s 130 ((ax_w32 ((s 84 63) - 1)).toNat))), some (.inl q6.1)]) (st' := [.inr (.inr (some 84))]) (h1 := hp L (ax_u2 (ax_u2 q7.2 84 63 (ax_w32 ((q7.2 84 63) - 1))) 84 67 (ax_w32 ((q7.2 84 67) - 1))) c e) rfl ?_
        refine RuP.step (pc' := 346) (ls' := [some (.inr (.inr (some 84))), some (.inl (ax_w32 ((s 84 63) - 1))), some (.inl (s 130 ((ax_w32 ((s 84 63) - 1)).toNat))), some (.inl q6.1)]) (st' := [.inr (.inr (some 84)), .inr (.inr (some 84))]) (h1 := hp L (ax_u2 (ax_u2 q7.2 84 63 (ax_w32 ((q7.2 84 63) - 1))) 84 67 (ax_w32 ((q7.2 84 67) - 1))) c e) rfl ?_
        refine RuP.step (pc' := 349) (ls' := [some (.inr (.inr (some 84))), some (.inl (ax_w32 ((s 84 63) - 1))), some (.inl (s 130 ((ax_w32 ((s 84 63) - 1)).toNat))), some (.inl q6.1)]) (st' := [.inr (.inr (some 88)), .inr (.inr (some 84))]) (h1 := hp L (ax_u2 (ax_u2 q7.2 84 63 (ax_w32 ((q7.2 84 63) - 1))) 84 67 (ax_w32 ((q7.2 84 67) - 1))) c e) rfl ?_
        refine RuP.step (pc' := 350) (ls' := [some (.inr (.inr (some 84))), some (.inl (ax_w32 ((s 84 63) - 1))), some (.inl (s 130 ((ax_w32 ((s 84 63) - 1)).toNat))), some (.inl q6.1)]) (st' := [.inl (s 130 ((ax_w32 ((s 84 63) - 1)).toNat)), .inr (.inr (some 88)), .inr (.inr (some 84))]) (h1 := hp L (ax_u2 (ax_u2 q7.2 84 63 (ax_w32 ((q7.2 84 63) - 1))) 84 67 (ax_w32 ((q7.2 84 67) - 1))) c e) rfl ?_
        obtain ⟨b9, h⟩ := gd_some h
        refine RuP.ald (f := fun t => t == 0) (j := s 130 ((ax_w32 ((s 84 63) - 1)).toNat)) (a := 88) rfl rfl b9.1 b9.2 ?_
        refine RuP.step (pc' := 353) (ls' := [some (.inr (.inr (some 84))), some (.inl (ax_w32 ((s 84 63) - 1))), some (.inl (s 130 ((ax_w32 ((s 84 63) - 1)).toNat))), some (.inl q6.1)]) (st' := [.inl 39, .inl (q7.2 88 ((s 130 ((ax_w32 ((s 84 63) - 1)).toNat)).toNat)), .inr (.inr (some 84))]) (h1 := hp L (ax_u2 (ax_u2 q7.2 84 63 (ax_w32 ((q7.2 84 63) - 1))) 84 67 (ax_w32 ((q7.2 84 67) - 1))) c e) rfl ?_
        have J11 : ∀ v10_0 : Int, v10_0 = ((if ¬ (q7.2 88 ((s 130 ((ax_w32 ((s 84 63) - 1)).toNat)).toNat)) = 39 then 5 else 4) : Int) → RuP 3 tb_m270 361 [some (.inr (.inr (some 84))), some (.inl (ax_w32 ((s 84 63) - 1))), some (.inl (s 130 ((ax_w32 ((s 84 63) - 1)).toNat))), some (.inl q6.1)] [.inl v10_0, .inr (.inr (some 84))] (hp L (ax_u2 (ax_u2 q7.2 84 63 (ax_w32 ((q7.2 84 63) - 1))) 84 67 (ax_w32 ((q7.2 84 67) - 1))) c e) (oI L c e q) := by
          intro v10_0 ev10_0
          subst ev10_0
          refine RuP.step (pc' := 362) (ls' := [some (.inr (.inr (some 84))), some (.inl (ax_w32 ((s 84 63) - 1))), some (.inl (s 130 ((ax_w32 ((s 84 63) - 1)).toNat))), some (.inl q6.1)]) (st' := [.inl (s 130 ((ax_w32 ((s 84 63) - 1)).toNat)), .inl ((if ¬ (q7.2 88 ((s 130 ((ax_w32 ((s 84 63) - 1)).toNat)).toNat)) = 39 then 5 else 4) : Int), .inr (.inr (some 84))]) (h1 := hp L (ax_u2 (ax_u2 q7.2 84 63 (ax_w32 ((q7.2 84 63) - 1))) 84 67 (ax_w32 ((q7.2 84 67) - 1))) c e) rfl ?_
          refine RuP.step (pc' := 363) (ls' := [some (.inr (.inr (some 84))), some (.inl (ax_w32 ((s 84 63) - 1))), some (.inl (s 130 ((ax_w32 ((s 84 63) - 1)).toNat))), some (.inl q6.1)]) (st' := [.inl (s 130 ((ax_w32 ((s 84 63) - 1)).toNat)), .inl (s 130 ((ax_w32 ((s 84 63) - 1)).toNat)), .inl ((if ¬ (q7.2 88 ((s 130 ((ax_w32 ((s 84 63) - 1)).toNat)).toNat)) = 39 then 5 else 4) : Int), .inr (.inr (some 84))]) (h1 := hp L (ax_u2 (ax_u2 q7.2 84 63 (ax_w32 ((q7.2 84 63) - 1))) 84 67 (ax_w32 ((q7.2 84 67) - 1))) c e) rfl ?_
          refine RuP.step (pc' := 364) (ls' := [some (.inr (.inr (some 84))), some (.inl (ax_w32 ((s 84 63) - 1))), some (.inl (s 130 ((ax_w32 ((s 84 63) - 1)).toNat))), some (.inl q6.1)]) (st' := [.inl q6.1, .inl (s 130 ((ax_w32 ((s 84 63) - 1)).toNat)), .inl (s 130 ((ax_w32 ((s 84 63) - 1)).toNat)), .inl ((if ¬ (q7.2 88 ((s 130 ((ax_w32 ((s 84 63) - 1)).toNat)).toNat)) = 39 then 5 else 4) : Int), .inr (.inr (some 84))]) (h1 := hp L (ax_u2 (ax_u2 q7.2 84 63 (ax_w32 ((q7.2 84 63) - 1))) 84 67 (ax_w32 ((q7.2 84 67) - 1))) c e) rfl ?_
          refine RuP.step (pc' := 365) (ls' := [some (.inr (.inr (some 84))), some (.inl (ax_w32 ((s 84 63) - 1))), some (.inl (s 130 ((ax_w32 ((s 84 63) - 1)).toNat))), some (.inl q6.1)]) (st' := [.inl 1, .inl q6.1, .inl (s 130 ((ax_w32 ((s 84 63) - 1)).toNat)), .inl (s 130 ((ax_w32 ((s 84 63) - 1)).toNat)), .inl ((if ¬ (q7.2 88 ((s 130 ((ax_w32 ((s 84 63) - 1)).toNat)).toNat)) = 39 then 5 else 4) : Int), .inr (.inr (some 84))]) (h1 := hp L (ax_u2 (ax_u2 q7.2 84 63 (ax_w32 ((q7.2 84 63) - 1))) 84 67 (ax_w32 ((q7.2 84 67) - 1))) c e) rfl ?_
          obtain ⟨q8, h1, h⟩ := bd_some h
          refine RuP.cV rfl ((ev_266 h1).up (by decide)) ?_
          refine RuP.step (pc' := 369) (ls' := [some (.inr (.inr (some 84))), some (.inl (ax_w32 ((s 84 63) - 1))), some (.inl (s 130 ((ax_w32 ((s 84 63) - 1)).toNat))), some (.inl q6.1)]) (st' := [.inl 0]) (h1 := hp L q8 c e) rfl ?_
          cases h
          exact RuP.dI rfl
        by_cases h11 : ¬ (q7.2 88 ((s 130 ((ax_w32 ((s 84 63) - 1)).toNat)).toNat)) = 39
        · refine RuP.jy rfl h11 ?_
          refine RuP.step (pc' := 361) (ls' := [some (.inr (.inr (some 84))), some (.inl (ax_w32 ((s 84 63) - 1))), some (.inl (s 130 ((ax_w32 ((s 84 63) - 1)).toNat))), some (.inl q6.1)]) (st' := [.inl 5, .inr (.inr (some 84))]) (h1 := hp L (ax_u2 (ax_u2 q7.2 84 63 (ax_w32 ((q7.2 84 63) - 1))) 84 67 (ax_w32 ((q7.2 84 67) - 1))) c e) rfl ?_
          exact J11 _ (by simp only [if_pos h11])
        · refine RuP.jn rfl h11 ?_
          refine RuP.step (pc' := 357) (ls' := [some (.inr (.inr (some 84))), some (.inl (ax_w32 ((s 84 63) - 1))), some (.inl (s 130 ((ax_w32 ((s 84 63) - 1)).toNat))), some (.inl q6.1)]) (st' := [.inl 4, .inr (.inr (some 84))]) (h1 := hp L (ax_u2 (ax_u2 q7.2 84 63 (ax_w32 ((q7.2 84 63) - 1))) 84 67 (ax_w32 ((q7.2 84 67) - 1))) c e) rfl ?_
          refine RuP.step (pc' := 361) (ls' := [some (.inr (.inr (some 84))), some (.inl (ax_w32 ((s 84 63) - 1))), some (.inl (s 130 ((ax_w32 ((s 84 63) - 1)).toNat))), some (.inl q6.1)]) (st' := [.inl 4, .inr (.inr (some 84))]) (h1 := hp L (ax_u2 (ax_u2 q7.2 84 63 (ax_w32 ((q7.2 84 63) - 1))) 84 67 (ax_w32 ((q7.2 84 67) - 1))) c e) rfl ?_
          exact J11 _ (by simp only [if_neg h11])
      exact RuP.sw (i := .tableswitch (236) (1) (6) #[74, 132, 236, 170, 236, 38]) rfl h8 rfl J9
    rw [if_neg h8] at h
    by_cases h12 : ax_w32 ((q1 129 ((ax_w32 ((s 84 63) - 1)).toNat)) - 100) = 6
    · rw [if_pos h12] at h
      have J13 : RuP 3 tb_m270 172 [some (.inr (.inr (some 84))), some (.inl (ax_w32 ((s 84 63) - 1))), some (.inl (s 130 ((ax_w32 ((s 84 63) - 1)).toNat))), d3] [] (hp L q1 c e) (oI L c e q) := by
        refine RuP.step (pc' := 173) (ls' := [some (.inr (.inr (some 84))), some (.inl (ax_w32 ((s 84 63) - 1))), some (.inl (s 130 ((ax_w32 ((s 84 63) - 1)).toNat))), d3]) (st' := [.inr (.inr (some 84))]) (h1 := hp L q1 c e) rfl ?_
        refine RuP.step (pc' := 175) (ls' := [some (.inr (.inr (some 84))), some (.inl (ax_w32 ((s 84 63) - 1))), some (.inl (s 130 ((ax_w32 ((s 84 63) - 1)).toNat))), d3]) (st' := [.inl 17, .inr (.inr (some 84))]) (h1 := hp L q1 c e) rfl ?_
        obtain ⟨b13, h⟩ := gd_some h
        refine RuP.cI rfl (EvP.i ((ev_232 17 b13).up (by decide))) ?_
        by_cases h14 : f_232 17 q1 = 0
        · rw [if_pos h14] at h
          refine RuP.jy rfl h14 ?_
          exact bl_270_191 _ _ _ _ _ h
        · rw [if_neg h14] at h
          refine RuP.jn rfl h14 ?_
          refine RuP.step (pc' := 182) (ls' := [some (.inr (.inr (some 84))), some (.inl (ax_w32 ((s 84 63) - 1))), some (.inl (s 130 ((ax_w32 ((s 84 63) - 1)).toNat))), d3]) (st' := [.inr (.inr (some 84))]) (h1 := hp L q1 c e) rfl ?_
          refine RuP.step (pc' := 185) (ls' := [some (.inr (.inr (some 84))), some (.inl (ax_w32 ((s 84 63) - 1))), some (.inl (s 130 ((ax_w32 ((s 84 63) - 1)).toNat))), d3]) (st' := [.inr (.inr (some 92))]) (h1 := hp L q1 c e) rfl ?_
          refine RuP.step (pc' := 186) (ls' := [some (.inr (.inr (some 84))), some (.inl (ax_w32 ((s 84 63) - 1))), some (.inl (s 130 ((ax_w32 ((s 84 63) - 1)).toNat))), d3]) (st' := [.inr (.inr (some 84)), .inr (.inr (some 92))]) (h1 := hp L q1 c e) rfl ?_
          refine RuP.step (pc' := 189) (ls' := [some (.inr (.inr (some 84))), some (.inl (ax_w32 ((s 84 63) - 1))), some (.inl (s 130 ((ax_w32 ((s 84 63) - 1)).toNat))), d3]) (st' := [.inl (q1 84 18), .inr (.inr (some 92))]) (h1 := hp L q1 c e) rfl ?_
          refine RuP.step (pc' := 190) (ls' := [some (.inr (.inr (some 84))), some (.inl (ax_w32 ((s 84 63) - 1))), some (.inl (s 130 ((ax_w32 ((s 84 63) - 1)).toNat))), d3]) (st' := [.inl 1, .inl (q1 84 18), .inr (.inr (some 92))]) (h1 := hp L q1 c e) rfl ?_
          obtain ⟨b15, h⟩ := gd_some h
          refine RuP.ast (f := fun t => t == 1 || t == 3) (j := q1 84 18) (a := 92) rfl rfl (by decide) rfl rfl b15.1 b15.2 ?_
          exact bl_270_191 _ _ _ _ _ h
      exact RuP.sw (i := .tableswitch (236) (1) (6) #[74, 132, 236, 170, 236, 38]) rfl h12 rfl J13
    rw [if_neg h12] at h
    refine RuP.swd (i := .tableswitch (236) (1) (6) #[74, 132, 236, 170, 236, 38]) (pc' := 370) rfl (sw_td [1, 2, 4, 6] (by intro k hk; simp only [List.mem_cons, List.not_mem_nil, or_false] at hk; omega) (by decide) (by decide)) ?_
    refine RuP.step (pc' := 371) (ls' := [some (.inr (.inr (some 84))), some (.inl (ax_w32 ((s 84 63) - 1))), some (.inl (s 130 ((ax_w32 ((s 84 63) - 1)).toNat))), d3]) (st' := [.inr (.inr (some 84))]) (h1 := hp L q1 c e) rfl ?_
    refine RuP.step (pc' := 372) (ls' := [some (.inr (.inr (some 84))), some (.inl (ax_w32 ((s 84 63) - 1))), some (.inl (s 130 ((ax_w32 ((s 84 63) - 1)).toNat))), d3]) (st' := [.inl (ax_w32 ((s 84 63) - 1)), .inr (.inr (some 84))]) (h1 := hp L q1 c e) rfl ?_
    refine RuP.step (pc' := 373) (ls' := [some (.inr (.inr (some 84))), some (.inl (ax_w32 ((s 84 63) - 1))), some (.inl (s 130 ((ax_w32 ((s 84 63) - 1)).toNat))), d3]) (st' := [.inl (s 130 ((ax_w32 ((s 84 63) - 1)).toNat)), .inl (ax_w32 ((s 84 63) - 1)), .inr (.inr (some 84))]) (h1 := hp L q1 c e) rfl ?_
    obtain ⟨q10, h1, h⟩ := bd_some h
    refine RuP.cI rfl ((ev_271 h1).up (by decide)) ?_
    cases h
    exact RuP.dI rfl
  · rw [if_neg h0] at h
    refine RuP.jn rfl h0 ?_
    refine RuP.step (pc' := 93) (ls' := [some (.inr (.inr (some 84))), d1, d2, d3]) (st' := [.inr (.inr (some 84))]) (h1 := hp L s c e) rfl ?_
    refine RuP.step (pc' := 94) (ls' := [some (.inr (.inr (some 84))), d1, d2, d3]) (st' := [.inl 0, .inr (.inr (some 84))]) (h1 := hp L s c e) rfl ?_
    refine RuP.step (pc' := 95) (ls' := [some (.inr (.inr (some 84))), d1, d2, d3]) (st' := [.inl 0, .inl 0, .inr (.inr (some 84))]) (h1 := hp L s c e) rfl ?_
    obtain ⟨q11, h1, h⟩ := bd_some h
    refine RuP.cV rfl ((ev_265 h1).up (by decide)) ?_
    refine RuP.step (pc' := 99) (ls' := [some (.inr (.inr (some 84))), d1, d2, d3]) (st' := [.inl 2]) (h1 := hp L q11 c e) rfl ?_
    cases h
    exact RuP.dI rfl
noncomputable def j_270_0 : Nat → Sg → Option (Int × Sg)
  | 0, _ => none
  | F + 1, s =>
    (if s 84 63 ≤ 0 then
      j_270_85 s
    else
      (gd (0 ≤ ax_w32 ((s 84 63) - 1) ∧ ax_w32 ((s 84 63) - 1) < 8200) (
      (if ¬ (s 129 ((ax_w32 ((s 84 63) - 1)).toNat)) = 107 then
        j_270_85 s
      else
        ((f_265 (ax_w32 ((s 84 59) - 1)) 0 s).bind fun q12 =>
        (gd (0 ≤ ax_w32 ((q12 84 59) - 3) ∧ ax_w32 ((q12 84 59) - 3) < 8200) (
        (gd (0 ≤ ax_w32 ((q12 84 63) - 1) ∧ ax_w32 ((q12 84 63) - 1) < 8200) (
        ((f_266 21 (q12 127 ((ax_w32 ((q12 84 59) - 3)).toNat)) (q12 130 ((ax_w32 ((q12 84 63) - 1)).toNat)) (-1) 3 (ax_u2 (ax_u2 q12 84 63 (ax_w32 ((q12 84 63) - 1))) 84 67 (ax_w32 ((q12 84 67) - 1)))).bind fun q13 =>
        (j_270_0 F) q13))))))))))
set_option maxRecDepth 20000 in
theorem bl_270_0 {L c : Nat} {e : Nat → Nat} : ∀ (F : Nat) (d1 d2 d3 : Option ax_V) (s : Sg) (q : Int × Sg), j_270_0 F s = some q → RuP 3 tb_m270 0 [some (.inr (.inr (some 84))), d1, d2, d3] [] (hp L s c e) (oI L c e q) := by
  intro F
  induction F with
  | zero =>
    intro d1 d2 d3 s q h
    rw [j_270_0] at h
    cases h
  | succ F ih =>
    intro d1 d2 d3 s q h
    rw [j_270_0] at h
    refine RuP.step (pc' := 1) (ls' := [some (.inr (.inr (some 84))), d1, d2, d3]) (st' := [.inr (.inr (some 84))]) (h1 := hp L s c e) rfl ?_
    refine RuP.step (pc' := 4) (ls' := [some (.inr (.inr (some 84))), d1, d2, d3]) (st' := [.inl (s 84 63)]) (h1 := hp L s c e) rfl ?_
    by_cases h0 : s 84 63 ≤ 0
    · rw [if_pos h0] at h
      refine RuP.jy rfl h0 ?_
      exact bl_270_85 _ _ _ _ _ h
    · rw [if_neg h0] at h
      refine RuP.jn rfl h0 ?_
      refine RuP.step (pc' := 8) (ls' := [some (.inr (.inr (some 84))), d1, d2, d3]) (st' := [.inr (.inr (some 84))]) (h1 := hp L s c e) rfl ?_
      refine RuP.step (pc' := 11) (ls' := [some (.inr (.inr (some 84))), d1, d2, d3]) (st' := [.inr (.inr (some 129))]) (h1 := hp L s c e) rfl ?_
      refine RuP.step (pc' := 12) (ls' := [some (.inr (.inr (some 84))), d1, d2, d3]) (st' := [.inr (.inr (some 84)), .inr (.inr (some 129))]) (h1 := hp L s c e) rfl ?_
      refine RuP.step (pc' := 15) (ls' := [some (.inr (.inr (some 84))), d1, d2, d3]) (st' := [.inl (s 84 63), .inr (.inr (some 129))]) (h1 := hp L s c e) rfl ?_
      refine RuP.step (pc' := 16) (ls' := [some (.inr (.inr (some 84))), d1, d2, d3]) (st' := [.inl 1, .inl (s 84 63), .inr (.inr (some 129))]) (h1 := hp L s c e) rfl ?_
      refine RuP.step (pc' := 17) (ls' := [some (.inr (.inr (some 84))), d1, d2, d3]) (st' := [.inl (ax_w32 ((s 84 63) - 1)), .inr (.inr (some 129))]) (h1 := hp L s c e) rfl ?_
      obtain ⟨b1, h⟩ := gd_some h
      refine RuP.ald (f := fun t => t == 0) (j := ax_w32 ((s 84 63) - 1)) (a := 129) rfl rfl b1.1 b1.2 ?_
      refine RuP.step (pc' := 20) (ls' := [some (.inr (.inr (some 84))), d1, d2, d3]) (st' := [.inl 107, .inl (s 129 ((ax_w32 ((s 84 63) - 1)).toNat))]) (h1 := hp L s c e) rfl ?_
      by_cases h2 : ¬ (s 129 ((ax_w32 ((s 84 63) - 1)).toNat)) = 107
      · rw [if_pos h2] at h
        refine RuP.jy rfl h2 ?_
        exact bl_270_85 _ _ _ _ _ h
      · rw [if_neg h2] at h
        refine RuP.jn rfl h2 ?_
        refine RuP.step (pc' := 24) (ls' := [some (.inr (.inr (some 84))), d1, d2, d3]) (st' := [.inr (.inr (some 84))]) (h1 := hp L s c e) rfl ?_
        refine RuP.step (pc' := 25) (ls' := [some (.inr (.inr (some 84))), d1, d2, d3]) (st' := [.inr (.inr (some 84)), .inr (.inr (some 84))]) (h1 := hp L s c e) rfl ?_
        refine RuP.step (pc' := 28) (ls' := [some (.inr (.inr (some 84))), d1, d2, d3]) (st' := [.inl (s 84 59), .inr (.inr (some 84))]) (h1 := hp L s c e) rfl ?_
        refine RuP.step (pc' := 29) (ls' := [some (.inr (.inr (some 84))), d1, d2, d3]) (st' := [.inl 1, .inl (s 84 59), .inr (.inr (some 84))]) (h1 := hp L s c e) rfl ?_
        refine RuP.step (pc' := 30) (ls' := [some (.inr (.inr (some 84))), d1, d2, d3]) (st' := [.inl (ax_w32 ((s 84 59) - 1)), .inr (.inr (some 84))]) (h1 := hp L s c e) rfl ?_
        refine RuP.step (pc' := 31) (ls' := [some (.inr (.inr (some 84))), d1, d2, d3]) (st' := [.inl 0, .inl (ax_w32 ((s 84 59) - 1)), .inr (.inr (some 84))]) (h1 := hp L s c e) rfl ?_
        obtain ⟨q12, h1, h⟩ := bd_some h
        refine RuP.cV rfl ((ev_265 h1).up (by decide)) ?_
        refine RuP.step (pc' := 35) (ls' := [some (.inr (.inr (some 84))), d1, d2, d3]) (st' := [.inr (.inr (some 84))]) (h1 := hp L q12 c e) rfl ?_
        refine RuP.step (pc' := 36) (ls' := [some (.inr (.inr (some 84))), d1, d2, d3]) (st' := [.inr (.inr (some 84)), .inr (.inr (some 84))]) (h1 := hp L q12 c e) rfl ?_
        refine RuP.step (pc' := 39) (ls' := [some (.inr (.inr (some 84))), d1, d2, d3]) (st' := [.inl (q12 84 63), .inr (.inr (some 84))]) (h1 := hp L q12 c e) rfl ?_
        refine RuP.step (pc' := 40) (ls' := [some (.inr (.inr (some 84))), d1, d2, d3]) (st' := [.inl 1, .inl (q12 84 63), .inr (.inr (some 84))]) (h1 := hp L q12 c e) rfl ?_
        refine RuP.step (pc' := 41) (ls' := [some (.inr (.inr (some 84))), d1, d2, d3]) (st' := [.inl (ax_w32 ((q12 84 63) - 1)), .inr (.inr (some 84))]) (h1 := hp L q12 c e) rfl ?_
        refine RuP.step (pc' := 44) (ls' := [some (.inr (.inr (some 84))), d1, d2, d3]) (st' := []) (h1 := hp L (ax_u2 q12 84 63 (ax_w32 ((q12 84 63) - 1))) c e) rfl ?_
        refine RuP.step (pc' := 45) (ls' := [some (.inr (.inr (some 84))), d1, d2, d3]) (st' := [.inr (.inr (some 84))]) (h1 := hp L (ax_u2 q12 84 63 (ax_w32 ((q12 84 63) - 1))) c e) rfl ?_
        refine RuP.step (pc' := 46) (ls' := [some (.inr (.inr (some 84))), d1, d2, d3]) (st' := [.inr (.inr (some 84)), .inr (.inr (some 84))]) (h1 := hp L (ax_u2 q12 84 63 (ax_w32 ((q12 84 63) - 1))) c e) rfl ?_
        refine RuP.step (pc' := 49) (ls' := [some (.inr (.inr (some 84))), d1, d2, d3]) (st' := [.inl (q12 84 67), .inr (.inr (some 84))]) (h1 := hp L (ax_u2 q12 84 63 (ax_w32 ((q12 84 63) - 1))) c e) rfl ?_
        refine RuP.step (pc' := 50) (ls' := [some (.inr (.inr (some 84))), d1, d2, d3]) (st' := [.inl 1, .inl (q12 84 67), .inr (.inr (some 84))]) (h1 := hp L (ax_u2 q12 84 63 (ax_w32 ((q12 84 63) - 1))) c e) rfl ?_
        refine RuP.step (pc' := 51) (ls' := [some (.inr (.inr (some 84))), d1, d2, d3]) (st' := [.inl (ax_w32 ((q12 84 67) - 1)), .inr (.inr (some 84))]) (h1 := hp L (ax_u2 q12 84 63 (ax_w32 ((q12 84 63) - 1))) c e) rfl ?_
        refine RuP.step (pc' := 54) (ls' := [some (.inr (.inr (some 84))), d1, d2, d3]) (st' := []) (h1 := hp L (ax_u2 (ax_u2 q12 84 63 (ax_w32 ((q12 84 63) - 1))) 84 67 (ax_w32 ((q12 84 67) - 1))) c e) rfl ?_
        refine RuP.step (pc' := 55) (ls' := [some (.inr (.inr (some 84))), d1, d2, d3]) (st' := [.inr (.inr (some 84))]) (h1 := hp L (ax_u2 (ax_u2 q12 84 63 (ax_w32 ((q12 84 63) - 1))) 84 67 (ax_w32 ((q12 84 67) - 1))) c e) rfl ?_
        refine RuP.step (pc' := 57) (ls' := [some (.inr (.inr (some 84))), d1, d2, d3]) (st' := [.inl 21, .inr (.inr (some 84))]) (h1 := hp L (ax_u2 (ax_u2 q12 84 63 (ax_w32 ((q12 84 63) - 1))) 84 67 (ax_w32 ((q12 84 67) - 1))) c e) rfl ?_
        refine RuP.step (pc' := 58) (ls' := [some (.inr (.inr (some 84))), d1, d2, d3]) (st' := [.inr (.inr (some 84)), .inl 21, .inr (.inr (some 84))]) (h1 := hp L (ax_u2 (ax_u2 q12 84 63 (ax_w32 ((q12 84 63) - 1))) 84 67 (ax_w32 ((q12 84 67) - 1))) c e) rfl ?_
        refine RuP.step (pc' := 61) (ls' := [some (.inr (.inr (some 84))), d1, d2, d3]) (st' := [.inr (.inr (some 127)), .inl 21, .inr (.inr (some 84))]) (h1 := hp L (ax_u2 (ax_u2 q12 84 63 (ax_w32 ((q12 84 63) - 1))) 84 67 (ax_w32 ((q12 84 67) - 1))) c e) rfl ?_
        refine RuP.step (pc' := 62) (ls' := [some (.inr (.inr (some 84))), d1, d2, d3]) (st' := [.inr (.inr (some 84)), .inr (.inr (some 127)), .inl 21, .inr (.inr (some 84))]) (h1 := hp L (ax_u2 (ax_u2 q12 84 63 (ax_w32 ((q12 84 63) - 1))) 84 67 (ax_w32 ((q12 84 67) - 1))) c e) rfl ?_
        refine RuP.step (pc' := 65) (ls' := [some (.inr (.inr (some 84))), d1, d2, d3]) (st' := [.inl (q12 84 59), .inr (.inr (some 127)), .inl 21, .inr (.inr (some 84))]) (h1 := hp L (ax_u2 (ax_u2 q12 84 63 (ax_w32 ((q12 84 63) - 1))) 84 67 (ax_w32 ((q12 84 67) - 1))) c e) rfl ?_
        refine RuP.step (pc' := 66) (ls' := [some (.inr (.inr (some 84))), d1, d2, d3]) (st' := [.inl 3, .inl (q12 84 59), .inr (.inr (some 127)), .inl 21, .inr (.inr (some 84))]) (h1 := hp L (ax_u2 (ax_u2 q12 84 63 (ax_w32 ((q12 84 63) - 1))) 84 67 (ax_w32 ((q12 84 67) - 1))) c e) rfl ?_
        refine RuP.step (pc' := 67) (ls' := [some (.inr (.inr (some 84))), d1, d2, d3]) (st' := [.inl (ax_w32 ((q12 84 59) - 3)), .inr (.inr (some 127)), .inl 21, .inr (.inr (some 84))]) (h1 := hp L (ax_u2 (ax_u2 q12 84 63 (ax_w32 ((q12 84 63) - 1))) 84 67 (ax_w32 ((q12 84 67) - 1))) c e) rfl ?_
        obtain ⟨b3, h⟩ := gd_some h
        refine RuP.ald (f := fun t => t == 0) (j := ax_w32 ((q12 84 59) - 3)) (a := 127) rfl rfl b3.1 b3.2 ?_
        refine RuP.step (pc' := 69) (ls' := [some (.inr (.inr (some 84))), d1, d2, d3]) (st' := [.inr (.inr (some 84)), .inl (q12 127 ((ax_w32 ((q12 84 59) - 3)).toNat)), .inl 21, .inr (.inr (some 84))]) (h1 := hp L (ax_u2 (ax_u2 q12 84 63 (ax_w32 ((q12 84 63) - 1))) 84 67 (ax_w32 ((q12 84 67) - 1))) c e) rfl ?_
        refine RuP.step (pc' := 72) (ls' := [some (.inr (.inr (some 84))), d1, d2, d3]) (st' := [.inr (.inr (some 130)), .inl (q12 127 ((ax_w32 ((q12 84 59) - 3)).toNat)), .inl 21, .inr (.inr (some 84))]) (h1 := hp L (ax_u2 (ax_u2 q12 84 63 (ax_w32 ((q12 84 63) - 1))) 84 67 (ax_w32 ((q12 84 67) - 1))) c e) rfl ?_
        refine RuP.step (pc' := 73) (ls' := [some (.inr (.inr (some 84))), d1, d2, d3]) (st' := [.inr (.inr (some 84)), .inr (.inr (some 130)), .inl (q12 127 ((ax_w32 ((q12 84 59) - 3)).toNat)), .inl 21, .inr (.inr (some 84))]) (h1 := hp L (ax_u2 (ax_u2 q12 84 63 (ax_w32 ((q12 84 63) - 1))) 84 67 (ax_w32 ((q12 84 67) - 1))) c e) rfl ?_
        refine RuP.step (pc' := 76) (ls' := [some (.inr (.inr (some 84))), d1, d2, d3]) (st' := [.inl (ax_w32 ((q12 84 63) - 1)), .inr (.inr (some 130)), .inl (q12 127 ((ax_w32 ((q12 84 59) - 3)).toNat)), .inl 21, .inr (.inr (some 84))]) (h1 := hp L (ax_u2 (ax_u2 q12 84 63 (ax_w32 ((q12 84 63) - 1))) 84 67 (ax_w32 ((q12 84 67) - 1))) c e) rfl ?_
        obtain ⟨b4, h⟩ := gd_some h
        refine RuP.ald (f := fun t => t == 0) (j := ax_w32 ((q12 84 63) - 1)) (a := 130) rfl rfl b4.1 b4.2 ?_
        refine RuP.step (pc' := 78) (ls' := [some (.inr (.inr (some 84))), d1, d2, d3]) (st' := [.inl (-1), .inl (q12 130 ((ax_w32 ((q12 84 63) - 1)).toNat)), .inl (q12 127 ((ax_w32 ((q12 84 59) - 3)).toNat)), .inl 21, .inr (.inr (some 84))]) (h1 := hp L (ax_u2 (ax_u2 q12 84 63 (ax_w32 ((q12 84 63) - 1))) 84 67 (ax_w32 ((q12 84 67) - 1))) c e) rfl ?_
        refine RuP.step (pc' := 79) (ls' := [some (.inr (.inr (some 84))), d1, d2, d3]) (st' := [.inl 3, .inl (-1), .inl (q12 130 ((ax_w32 ((q12 84 63) - 1)).toNat)), .inl (q12 127 ((ax_w32 ((q12 84 59) - 3)).toNat)), .inl 21, .inr (.inr (some 84))]) (h1 := hp L (ax_u2 (ax_u2 q12 84 63 (ax_w32 ((q12 84 63) - 1))) 84 67 (ax_w32 ((q12 84 67) - 1))) c e) rfl ?_
        obtain ⟨q13, h1, h⟩ := bd_some h
        refine RuP.cV rfl ((ev_266 h1).up (by decide)) ?_
        refine RuP.step (pc' := 0) (ls' := [some (.inr (.inr (some 84))), d1, d2, d3]) (st' := []) (h1 := hp L q13 c e) rfl ?_
        exact ih _ _ _ _ _ h
noncomputable def f_270 (s : Sg) : Option (Int × Sg) :=
  j_270_0 FU s
set_option maxRecDepth 20000 in
theorem ev_270 {L c : Nat} {e : Nat → Nat} {s : Sg} {q : Int × Sg} (h : f_270 s = some q) : EvP 4 270 [.inr (.inr (some 84))] (hp L s c e) (oI L c e q) := by
  unfold f_270 at h
  refine EvP.of (μ := tb_m270) (ls := [some (.inr (.inr (some 84))), none, none, none]) rfl (Nat.le_of_ble_eq_true rfl) rfl ?_
  exact bl_270_0 FU _ _ _ _ _ h
/-- MachineText$Printer.copyTo([B)I -/
noncomputable def f_131_28 (s : Sg) : Option (Int × Sg) :=
  (gd (0 ≤ f_291 (s 82 2) 8192 s ∧ 0 ≤ (0 : Int) ∧ 0 ≤ (0 : Int) ∧ 0 + f_291 (s 82 2) 8192 s ≤ 16384 ∧ 0 + f_291 (s 82 2) 8192 s ≤ 8192) (
  some (f_291 (s 82 2) 8192 s, (cpy s 83 28 (0 : Int).toNat (0 : Int).toNat (f_291 (s 82 2) 8192 s : Int).toNat))))
theorem ev_131_28 {L c : Nat} {e : Nat → Nat} {s : Sg} {q : Int × Sg} (h : f_131_28 s = some q) : EvP 2 131 [.inr (.inr (some 82)), .inr (.inr (some 28))] (hp L s c e) (oI L c e q) := by
  unfold f_131_28 at h
  refine EvP.of (μ := tb_m131) (ls := [some (.inr (.inr (some 82))), some (.inr (.inr (some 28))), none]) rfl (Nat.le_of_ble_eq_true rfl) rfl ?_
  refine RuP.step (pc' := 1) (ls' := [some (.inr (.inr (some 82))), some (.inr (.inr (some 28))), none]) (st' := [.inr (.inr (some 82))]) (h1 := hp L s c e) rfl ?_
  refine RuP.step (pc' := 4) (ls' := [some (.inr (.inr (some 82))), some (.inr (.inr (some 28))), none]) (st' := [.inl (s 82 2)]) (h1 := hp L s c e) rfl ?_
  refine RuP.step (pc' := 5) (ls' := [some (.inr (.inr (some 82))), some (.inr (.inr (some 28))), none]) (st' := [.inr (.inr (some 28)), .inl (s 82 2)]) (h1 := hp L s c e) rfl ?_
  refine RuP.step (pc' := 6) (ls' := [some (.inr (.inr (some 82))), some (.inr (.inr (some 28))), none]) (st' := [.inl 8192, .inl (s 82 2)]) (h1 := hp L s c e) rfl ?_
  refine RuP.cI rfl (EvP.i ((ev_291 (s 82 2) 8192).up (by decide))) ?_
  refine RuP.step (pc' := 10) (ls' := [some (.inr (.inr (some 82))), some (.inr (.inr (some 28))), some (.inl (f_291 (s 82 2) 8192 s))]) (st' := []) (h1 := hp L s c e) rfl ?_
  refine RuP.step (pc' := 11) (ls' := [some (.inr (.inr (some 82))), some (.inr (.inr (some 28))), some (.inl (f_291 (s 82 2) 8192 s))]) (st' := [.inr (.inr (some 82))]) (h1 := hp L s c e) rfl ?_
  refine RuP.step (pc' := 14) (ls' := [some (.inr (.inr (some 82))), some (.inr (.inr (some 28))), some (.inl (f_291 (s 82 2) 8192 s))]) (st' := [.inr (.inr (some 83))]) (h1 := hp L s c e) rfl ?_
  refine RuP.step (pc' := 15) (ls' := [some (.inr (.inr (some 82))), some (.inr (.inr (some 28))), some (.inl (f_291 (s 82 2) 8192 s))]) (st' := [.inl 0, .inr (.inr (some 83))]) (h1 := hp L s c e) rfl ?_
  refine RuP.step (pc' := 16) (ls' := [some (.inr (.inr (some 82))), some (.inr (.inr (some 28))), some (.inl (f_291 (s 82 2) 8192 s))]) (st' := [.inr (.inr (some 28)), .inl 0, .inr (.inr (some 83))]) (h1 := hp L s c e) rfl ?_
  refine RuP.step (pc' := 17) (ls' := [some (.inr (.inr (some 82))), some (.inr (.inr (some 28))), some (.inl (f_291 (s 82 2) 8192 s))]) (st' := [.inl 0, .inr (.inr (some 28)), .inl 0, .inr (.inr (some 83))]) (h1 := hp L s c e) rfl ?_
  refine RuP.step (pc' := 18) (ls' := [some (.inr (.inr (some 82))), some (.inr (.inr (some 28))), some (.inl (f_291 (s 82 2) 8192 s))]) (st' := [.inl (f_291 (s 82 2) 8192 s), .inl 0, .inr (.inr (some 28)), .inl 0, .inr (.inr (some 83))]) (h1 := hp L s c e) rfl ?_
  obtain ⟨b0, h⟩ := gd_some h
  refine RuP.cp rfl rfl rfl (by decide) (Nat.le_of_ble_eq_true rfl) b0 ?_
  refine RuP.step (pc' := 22) (ls' := [some (.inr (.inr (some 82))), some (.inr (.inr (some 28))), some (.inl (f_291 (s 82 2) 8192 s))]) (st' := [.inl (f_291 (s 82 2) 8192 s)]) (h1 := hp L (cpy s 83 28 (0 : Int).toNat (0 : Int).toNat (f_291 (s 82 2) 8192 s : Int).toNat) c e) rfl ?_
  cases h
  exact RuP.dI rfl
/-- java/util/Arrays.fill([II)V -/
noncomputable def j_301_30_5 : Nat → Int → Int → Int → Sg → Option Sg
  | 0, _, _, _, _ => none
  | F + 1, l1, l2, l3, s =>
    (if l3 ≤ l2 then
      some s
    else
      (gd (0 ≤ l2 ∧ l2 < 11) (
      (j_301_30_5 F) l1 (ax_w32 (l2 + 1)) l3 (ax_u2 s 30 l2.toNat l1))))
theorem bl_301_30_5 {L c : Nat} {e : Nat → Nat} : ∀ (F : Nat) (l1 l2 l3 : Int) (s : Sg) (q : Sg), j_301_30_5 F l1 l2 l3 s = some q → RuP 0 tb_m301 5 [some (.inr (.inr (some 30))), some (.inl l1), some (.inl l2), some (.inl l3)] [] (hp L s c e) (oV L c e q) := by
  intro F
  induction F with
  | zero =>
    intro l1 l2 l3 s q h
    rw [j_301_30_5] at h
    cases h
  | succ F ih =>
    intro l1 l2 l3 s q h
    rw [j_301_30_5] at h
    refine RuP.step (pc' := 6) (ls' := [some (.inr (.inr (some 30))), some (.inl l1), some (.inl l2), some (.inl l3)]) (st' := [.inl l2]) (h1 := hp L s c e) rfl ?_
    refine RuP.step (pc' := 7) (ls' := [some (.inr (.inr (some 30))), some (.inl l1), some (.inl l2), some (.inl l3)]) (st' := [.inl l3, .inl l2]) (h1 := hp L s c e) rfl ?_
    by_cases h0 : l3 ≤ l2
    · rw [if_pos h0] at h
      refine RuP.jy rfl h0 ?_
      cases h
      exact RuP.dV rfl
    · rw [if_neg h0] at h
      refine RuP.jn rfl h0 ?_
      refine RuP.step (pc' := 11) (ls' := [some (.inr (.inr (some 30))), some (.inl l1), some (.inl l2), some (.inl l3)]) (st' := [.inr (.inr (some 30))]) (h1 := hp L s c e) rfl ?_
      refine RuP.step (pc' := 12) (ls' := [some (.inr (.inr (some 30))), some (.inl l1), some (.inl l2), some (.inl l3)]) (st' := [.inl l2, .inr (.inr (some 30))]) (h1 := hp L s c e) rfl ?_
      refine RuP.step (pc' := 13) (ls' := [some (.inr (.inr (some 30))), some (.inl l1), some (.inl l2), some (.inl l3)]) (st' := [.inl l1, .inl l2, .inr (.inr (some 30))]) (h1 := hp L s c e) rfl ?_
      obtain ⟨b1, h⟩ := gd_some h
      refine RuP.ast (f := fun t => t == 0) (j := l2) (a := 30) rfl rfl (by decide) rfl rfl b1.1 b1.2 ?_
      refine RuP.step (pc' := 17) (ls' := [some (.inr (.inr (some 30))), some (.inl l1), some (.inl (ax_w32 (l2 + 1))), some (.inl l3)]) (st' := []) (h1 := hp L (ax_u2 s 30 l2.toNat l1) c e) rfl ?_
      refine RuP.step (pc' := 5) (ls' := [some (.inr (.inr (some 30))), some (.inl l1), some (.inl (ax_w32 (l2 + 1))), some (.inl l3)]) (st' := []) (h1 := hp L (ax_u2 s 30 l2.toNat l1) c e) rfl ?_
      exact ih _ _ _ _ _ h
noncomputable def f_301_30 (x1 : Int) (s : Sg) : Option Sg :=
  j_301_30_5 FU x1 0 11 s
theorem ev_301_30 {L c : Nat} {e : Nat → Nat} {s : Sg} {x1 : Int} {q : Sg} (h : f_301_30 x1 s = some q) : EvP 1 301 [.inr (.inr (some 30)), .inl x1] (hp L s c e) (oV L c e q) := by
  unfold f_301_30 at h
  refine EvP.of (μ := tb_m301) (ls := [some (.inr (.inr (some 30))), some (.inl x1), none, none]) rfl (Nat.le_of_ble_eq_true rfl) rfl ?_
  refine RuP.step (pc' := 1) (ls' := [some (.inr (.inr (some 30))), some (.inl x1), none, none]) (st' := [.inl 0]) (h1 := hp L s c e) rfl ?_
  refine RuP.step (pc' := 2) (ls' := [some (.inr (.inr (some 30))), some (.inl x1), some (.inl 0), none]) (st' := []) (h1 := hp L s c e) rfl ?_
  refine RuP.step (pc' := 3) (ls' := [some (.inr (.inr (some 30))), some (.inl x1), some (.inl 0), none]) (st' := [.inr (.inr (some 30))]) (h1 := hp L s c e) rfl ?_
  refine RuP.step (pc' := 4) (ls' := [some (.inr (.inr (some 30))), some (.inl x1), some (.inl 0), none]) (st' := [.inl 11]) (h1 := hp L s c e) rfl ?_
  refine RuP.step (pc' := 5) (ls' := [some (.inr (.inr (some 30))), some (.inl x1), some (.inl 0), some (.inl 11)]) (st' := []) (h1 := hp L s c e) rfl ?_
  exact bl_301_30_5 FU _ _ _ _ _ h
/-- jdk/internal/util/Preconditions.checkIndex(IILjava/util/function/BiFunction;)I -/
noncomputable def j_300_26_9 (l0 l1 : Int) (s : Sg) : Option Int :=
  none
theorem bl_300_26_9 {L c : Nat} {e : Nat → Nat} : ∀ (l0 l1 : Int) (s : Sg) (q : Int), j_300_26_9 l0 l1 s = some q → RuP 0 tb_m300 9 [some (.inl l0), some (.inl l1), some (.inr (.inr (some 26)))] [] (hp L s c e) (oI L c e (q, s)) := by
  intro l0 l1 s q h
  unfold j_300_26_9 at h
  refine RuP.step (pc' := 10) (ls' := [some (.inl l0), some (.inl l1), some (.inr (.inr (some 26)))]) (st' := [.inr (.inr (some 26))]) (h1 := hp L s c e) rfl ?_
  refine RuP.step (pc' := 11) (ls' := [some (.inl l0), some (.inl l1), some (.inr (.inr (some 26)))]) (st' := [.inl l0, .inr (.inr (some 26))]) (h1 := hp L s c e) rfl ?_
  refine RuP.step (pc' := 12) (ls' := [some (.inl l0), some (.inl l1), some (.inr (.inr (some 26)))]) (st' := [.inl l1, .inl l0, .inr (.inr (some 26))]) (h1 := hp L s c e) rfl ?_
  cases h
noncomputable def f_300_26 (x0 x1 : Int) (s : Sg) : Option Int :=
  (if x0 < 0 then
    j_300_26_9 x0 x1 s
  else
    (if x0 < x1 then
      some x0
    else
      j_300_26_9 x0 x1 s))
theorem ev_300_26 {L c : Nat} {e : Nat → Nat} {s : Sg} {x0 x1 : Int} {q : Int} (h : f_300_26 x0 x1 s = some q) : EvP 1 300 [.inl x0, .inl x1, .inr (.inr (some 26))] (hp L s c e) (oI L c e (q, s)) := by
  unfold f_300_26 at h
  refine EvP.of (μ := tb_m300) (ls := [some (.inl x0), some (.inl x1), some (.inr (.inr (some 26)))]) rfl (Nat.le_of_ble_eq_true rfl) rfl ?_
  refine RuP.step (pc' := 1) (ls' := [some (.inl x0), some (.inl x1), some (.inr (.inr (some 26)))]) (st' := [.inl x0]) (h1 := hp L s c e) rfl ?_
  by_cases h0 : x0 < 0
  · rw [if_pos h0] at h
    refine RuP.jy rfl h0 ?_
    exact bl_300_26_9 _ _ _ _ h
  · rw [if_neg h0] at h
    refine RuP.jn rfl h0 ?_
    refine RuP.step (pc' := 5) (ls' := [some (.inl x0), some (.inl x1), some (.inr (.inr (some 26)))]) (st' := [.inl x0]) (h1 := hp L s c e) rfl ?_
    refine RuP.step (pc' := 6) (ls' := [some (.inl x0), some (.inl x1), some (.inr (.inr (some 26)))]) (st' := [.inl x1, .inl x0]) (h1 := hp L s c e) rfl ?_
    by_cases h1 : x0 < x1
    · rw [if_pos h1] at h
      refine RuP.jy rfl h1 ?_
      refine RuP.step (pc' := 17) (ls' := [some (.inl x0), some (.inl x1), some (.inr (.inr (some 26)))]) (st' := [.inl x0]) (h1 := hp L s c e) rfl ?_
      cases h
      exact RuP.dI rfl
    · rw [if_neg h1] at h
      refine RuP.jn rfl h1 ?_
      exact bl_300_26_9 _ _ _ _ h
/-- MachineText.again()I -/
noncomputable def f_12 (s : Sg) : Option (Sum (Int × Sg) (Nat × Sg)) :=
  (if s 82 2 ≤ 8192 then
    ((f_131_28 s).bind fun q1 =>
    some (.inl (q1.1, (ax_u2 q1.2 27 1 q1.1))))
  else
    some (.inr (14, s)))
theorem ev_12 {L c : Nat} {e : Nat → Nat} {s : Sg} {q : Sum (Int × Sg) (Nat × Sg)} (h : f_12 s = some q) : EvP 3 12 [.inr (.inr (some 27))] (hp L s c e) (oX L c (oI L c e) q) := by
  unfold f_12 at h
  refine EvP.of (μ := tb_m12) (ls := [some (.inr (.inr (some 27)))]) rfl (Nat.le_of_ble_eq_true rfl) rfl ?_
  refine RuP.step (pc' := 1) (ls' := [some (.inr (.inr (some 27)))]) (st' := [.inr (.inr (some 27))]) (h1 := hp L s c e) rfl ?_
  refine RuP.step (pc' := 4) (ls' := [some (.inr (.inr (some 27)))]) (st' := [.inr (.inr (some 82))]) (h1 := hp L s c e) rfl ?_
  refine RuP.step (pc' := 7) (ls' := [some (.inr (.inr (some 27)))]) (st' := [.inl (s 82 2)]) (h1 := hp L s c e) rfl ?_
  refine RuP.step (pc' := 10) (ls' := [some (.inr (.inr (some 27)))]) (st' := [.inl 8192, .inl (s 82 2)]) (h1 := hp L s c e) rfl ?_
  by_cases h0 : s 82 2 ≤ 8192
  · rw [if_pos h0] at h
    refine RuP.jy rfl h0 ?_
    refine RuP.step (pc' := 24) (ls' := [some (.inr (.inr (some 27)))]) (st' := [.inr (.inr (some 27))]) (h1 := hp L s c e) rfl ?_
    refine RuP.step (pc' := 25) (ls' := [some (.inr (.inr (some 27)))]) (st' := [.inr (.inr (some 27)), .inr (.inr (some 27))]) (h1 := hp L s c e) rfl ?_
    refine RuP.step (pc' := 28) (ls' := [some (.inr (.inr (some 27)))]) (st' := [.inr (.inr (some 82)), .inr (.inr (some 27))]) (h1 := hp L s c e) rfl ?_
    refine RuP.step (pc' := 29) (ls' := [some (.inr (.inr (some 27)))]) (st' := [.inr (.inr (some 27)), .inr (.inr (some 82)), .inr (.inr (some 27))]) (h1 := hp L s c e) rfl ?_
    refine RuP.step (pc' := 32) (ls' := [some (.inr (.inr (some 27)))]) (st' := [.inr (.inr (some 28)), .inr (.inr (some 82)), .inr (.inr (some 27))]) (h1 := hp L s c e) rfl ?_
    obtain ⟨q1, h1, h⟩ := bd_some h
    refine RuP.cI rfl ((ev_131_28 h1).up (by decide)) ?_
    refine RuP.step (pc' := 38) (ls' := [some (.inr (.inr (some 27)))]) (st' := []) (h1 := hp L (ax_u2 q1.2 27 1 q1.1) c e) rfl ?_
    refine RuP.step (pc' := 39) (ls' := [some (.inr (.inr (some 27)))]) (st' := [.inr (.inr (some 27))]) (h1 := hp L (ax_u2 q1.2 27 1 q1.1) c e) rfl ?_
    refine RuP.step (pc' := 42) (ls' := [some (.inr (.inr (some 27)))]) (st' := [.inl q1.1]) (h1 := hp L (ax_u2 q1.2 27 1 q1.1) c e) rfl ?_
    cases h
    exact RuP.dI rfl
  · rw [if_neg h0] at h
    refine RuP.jn rfl h0 ?_
    cases h
    exact RuP.thr (m := 25) (p2 := 19) rfl (fun _ => rfl) (fun _ => rfl) (fun _ _ => rfl) (Nat.le_of_ble_eq_true rfl) rfl rfl
/-- MachineText$Checker.checkNames()V -/
noncomputable def j_18_124 (k72 : (Int → Sg → Option Sg)) (l1 : Int) (s : Sg) : Option Sg :=
  k72 (ax_w32 (l1 + 1)) s
theorem bl_18_124 {L c : Nat} {e : Nat → Nat} {k72 : (Int → Sg → Option Sg)} (hk72 : ∀ (d2 : Option ax_V) (l1 : Int) (s : Sg) (q : Sg), k72 l1 s = some q → RuP 4 tb_m18 72 [some (.inr (.inr (some 73))), some (.inl l1), d2] [] (hp L s c e) (oV L c e q)) : ∀ (d2 : Option ax_V) (l1 : Int) (s : Sg) (q : Sg), j_18_124 k72 l1 s = some q → RuP 4 tb_m18 124 [some (.inr (.inr (some 73))), some (.inl l1), d2] [] (hp L s c e) (oV L c e q) := by
  intro d2 l1 s q h
  unfold j_18_124 at h
  refine RuP.step (pc' := 127) (ls' := [some (.inr (.inr (some 73))), some (.inl (ax_w32 (l1 + 1))), d2]) (st' := []) (h1 := hp L s c e) rfl ?_
  refine RuP.step (pc' := 72) (ls' := [some (.inr (.inr (some 73))), some (.inl (ax_w32 (l1 + 1))), d2]) (st' := []) (h1 := hp L s c e) rfl ?_
  exact hk72 _ _ _ _ h
noncomputable def j_18_72 : Nat → Int → Sg → Option Sg
  | 0, _, _ => none
  | F + 1, l1, s =>
    (if s 61 4 ≤ l1 then
      some s
    else
      (gd (g_34 l1 s) (
      (if f_34 l1 s = 0 then
        j_18_124 (j_18_72 F) l1 s
      else
        (gd (g_35 l1 s) (
        (gd (g_36 l1 s) (
        ((f_21 (f_35 l1 s) ((if ¬ (f_36 l1 s) = (-1) then 2 else 1) : Int) 1 s).bind fun q1 =>
        j_18_124 (j_18_72 F) l1 q1)))))))))
theorem bl_18_72 {L c : Nat} {e : Nat → Nat} : ∀ (F : Nat) (d2 : Option ax_V) (l1 : Int) (s : Sg) (q : Sg), j_18_72 F l1 s = some q → RuP 4 tb_m18 72 [some (.inr (.inr (some 73))), some (.inl l1), d2] [] (hp L s c e) (oV L c e q) := by
  intro F
  induction F with
  | zero =>
    intro d2 l1 s q h
    rw [j_18_72] at h
    cases h
  | succ F ih =>
    intro d2 l1 s q h
    rw [j_18_72] at h
    refine RuP.step (pc' := 73) (ls' := [some (.inr (.inr (some 73))), some (.inl l1), d2]) (st' := [.inl l1]) (h1 := hp L s c e) rfl ?_
    refine RuP.step (pc' := 74) (ls' := [some (.inr (.inr (some 73))), some (.inl l1), d2]) (st' := [.inr (.inr (some 73)), .inl l1]) (h1 := hp L s c e) rfl ?_
    refine RuP.step (pc' := 77) (ls' := [some (.inr (.inr (some 73))), some (.inl l1), d2]) (st' := [.inr (.inr (some 61)), .inl l1]) (h1 := hp L s c e) rfl ?_
    refine RuP.step (pc' := 80) (ls' := [some (.inr (.inr (some 73))), some (.inl l1), d2]) (st' := [.inl (s 61 4), .inl l1]) (h1 := hp L s c e) rfl ?_
    by_cases h0 : s 61 4 ≤ l1
    · rw [if_pos h0] at h
      refine RuP.jy rfl h0 ?_
      cases h
      exact RuP.dV rfl
    · rw [if_neg h0] at h
      refine RuP.jn rfl h0 ?_
      refine RuP.step (pc' := 84) (ls' := [some (.inr (.inr (some 73))), some (.inl l1), d2]) (st' := [.inr (.inr (some 73))]) (h1 := hp L s c e) rfl ?_
      refine RuP.step (pc' := 87) (ls' := [some (.inr (.inr (some 73))), some (.inl l1), d2]) (st' := [.inr (.inr (some 61))]) (h1 := hp L s c e) rfl ?_
      refine RuP.step (pc' := 88) (ls' := [some (.inr (.inr (some 73))), some (.inl l1), d2]) (st' := [.inl l1, .inr (.inr (some 61))]) (h1 := hp L s c e) rfl ?_
      obtain ⟨b1, h⟩ := gd_some h
      refine RuP.cI rfl (EvP.i ((ev_34 l1 b1).up (by decide))) ?_
      by_cases h2 : f_34 l1 s = 0
      · rw [if_pos h2] at h
        refine RuP.jy rfl h2 ?_
        exact bl_18_124 ih _ _ _ _ h
      · rw [if_neg h2] at h
        refine RuP.jn rfl h2 ?_
        refine RuP.step (pc' := 95) (ls' := [some (.inr (.inr (some 73))), some (.inl l1), d2]) (st' := [.inr (.inr (some 73))]) (h1 := hp L s c e) rfl ?_
        refine RuP.step (pc' := 96) (ls' := [some (.inr (.inr (some 73))), some (.inl l1), d2]) (st' := [.inr (.inr (some 73)), .inr (.inr (some 73))]) (h1 := hp L s c e) rfl ?_
        refine RuP.step (pc' := 99) (ls' := [some (.inr (.inr (some 73))), some (.inl l1), d2]) (st' := [.inr (.inr (some 61)), .inr (.inr (some 73))]) (h1 := hp L s c e) rfl ?_
        refine RuP.step (pc' := 100) (ls' := [some (.inr (.inr (some 73))), some (.inl l1), d2]) (st' := [.inl l1, .inr (.inr (some 61)), .inr (.inr (some 73))]) (h1 := hp L s c e) rfl ?_
        obtain ⟨b3, h⟩ := gd_some h
        refine RuP.cI rfl (EvP.i ((ev_35 l1 b3).up (by decide))) ?_
        refine RuP.step (pc' := 104) (ls' := [some (.inr (.inr (some 73))), some (.inl l1), d2]) (st' := [.inr (.inr (some 73)), .inl (f_35 l1 s), .inr (.inr (some 73))]) (h1 := hp L s c e) rfl ?_
        refine RuP.step (pc' := 107) (ls' := [some (.inr (.inr (some 73))), some (.inl l1), d2]) (st' := [.inr (.inr (some 61)), .inl (f_35 l1 s), .inr (.inr (some 73))]) (h1 := hp L s c e) rfl ?_
        refine RuP.step (pc' := 108) (ls' := [some (.inr (.inr (some 73))), some (.inl l1), d2]) (st' := [.inl l1, .inr (.inr (some 61)), .inl (f_35 l1 s), .inr (.inr (some 73))]) (h1 := hp L s c e) rfl ?_
        obtain ⟨b4, h⟩ := gd_some h
        refine RuP.cI rfl (EvP.i ((ev_36 l1 b4).up (by decide))) ?_
        refine RuP.step (pc' := 112) (ls' := [some (.inr (.inr (some 73))), some (.inl l1), d2]) (st' := [.inl (-1), .inl (f_36 l1 s), .inl (f_35 l1 s), .inr (.inr (some 73))]) (h1 := hp L s c e) rfl ?_
        have J6 : ∀ v5_0 : Int, v5_0 = ((if ¬ (f_36 l1 s) = (-1) then 2 else 1) : Int) → RuP 4 tb_m18 120 [some (.inr (.inr (some 73))), some (.inl l1), d2] [.inl v5_0, .inl (f_35 l1 s), .inr (.inr (some 73))] (hp L s c e) (oV L c e q) := by
          intro v5_0 ev5_0
          subst ev5_0
          refine RuP.step (pc' := 121) (ls' := [some (.inr (.inr (some 73))), some (.inl l1), d2]) (st' := [.inl 1, .inl ((if ¬ (f_36 l1 s) = (-1) then 2 else 1) : Int), .inl (f_35 l1 s), .inr (.inr (some 73))]) (h1 := hp L s c e) rfl ?_
          obtain ⟨q1, h1, h⟩ := bd_some h
          refine RuP.cV rfl ((ev_21 h1).up (by decide)) ?_
          exact bl_18_124 ih _ _ _ _ h
        by_cases h6 : ¬ (f_36 l1 s) = (-1)
        · refine RuP.jy rfl h6 ?_
          refine RuP.step (pc' := 120) (ls' := [some (.inr (.inr (some 73))), some (.inl l1), d2]) (st' := [.inl 2, .inl (f_35 l1 s), .inr (.inr (some 73))]) (h1 := hp L s c e) rfl ?_
          exact J6 _ (by simp only [if_pos h6])
        · refine RuP.jn rfl h6 ?_
          refine RuP.step (pc' := 116) (ls' := [some (.inr (.inr (some 73))), some (.inl l1), d2]) (st' := [.inl 1, .inl (f_35 l1 s), .inr (.inr (some 73))]) (h1 := hp L s c e) rfl ?_
          refine RuP.step (pc' := 120) (ls' := [some (.inr (.inr (some 73))), some (.inl l1), d2]) (st' := [.inl 1, .inl (f_35 l1 s), .inr (.inr (some 73))]) (h1 := hp L s c e) rfl ?_
          exact J6 _ (by simp only [if_neg h6])
noncomputable def j_18_70 (s : Sg) : Option Sg :=
  j_18_72 FU 0 s
theorem bl_18_70 {L c : Nat} {e : Nat → Nat} : ∀ (d2 : Option ax_V) (z1 : Int) (s : Sg) (q : Sg), j_18_70 s = some q → RuP 4 tb_m18 70 [some (.inr (.inr (some 73))), some (.inl z1), d2] [] (hp L s c e) (oV L c e q) := by
  intro d2 z1 s q h
  unfold j_18_70 at h
  refine RuP.step (pc' := 71) (ls' := [some (.inr (.inr (some 73))), some (.inl z1), d2]) (st' := [.inl 0]) (h1 := hp L s c e) rfl ?_
  refine RuP.step (pc' := 72) (ls' := [some (.inr (.inr (some 73))), some (.inl 0), d2]) (st' := []) (h1 := hp L s c e) rfl ?_
  exact bl_18_72 FU _ _ _ _ h
noncomputable def j_18_64 (k2 : (Int → Sg → Option Sg)) (l1 : Int) (s : Sg) : Option Sg :=
  k2 (ax_w32 (l1 + 1)) s
theorem bl_18_64 {L c : Nat} {e : Nat → Nat} {k2 : (Int → Sg → Option Sg)} (hk2 : ∀ (d2 : Option ax_V) (l1 : Int) (s : Sg) (q : Sg), k2 l1 s = some q → RuP 4 tb_m18 2 [some (.inr (.inr (some 73))), some (.inl l1), d2] [] (hp L s c e) (oV L c e q)) : ∀ (z2 : Int) (l1 : Int) (s : Sg) (q : Sg), j_18_64 k2 l1 s = some q → RuP 4 tb_m18 64 [some (.inr (.inr (some 73))), some (.inl l1), some (.inl z2)] [] (hp L s c e) (oV L c e q) := by
  intro z2 l1 s q h
  unfold j_18_64 at h
  refine RuP.step (pc' := 67) (ls' := [some (.inr (.inr (some 73))), some (.inl (ax_w32 (l1 + 1))), some (.inl z2)]) (st' := []) (h1 := hp L s c e) rfl ?_
  refine RuP.step (pc' := 2) (ls' := [some (.inr (.inr (some 73))), some (.inl (ax_w32 (l1 + 1))), some (.inl z2)]) (st' := []) (h1 := hp L s c e) rfl ?_
  exact hk2 _ _ _ _ h
noncomputable def j_18_2 : Nat → Int → Sg → Option Sg
  | 0, _, _ => none
  | F + 1, l1, s =>
    (if s 46 7 ≤ l1 then
      j_18_70 s
    else
      (gd (g_116 l1 s) (
      (if f_116 l1 s < 1 then
        j_18_64 (j_18_2 F) l1 s
      else
        (if 3 < f_116 l1 s then
          j_18_64 (j_18_2 F) l1 s
        else
          (gd (g_117 l1 s) (
          (if ¬ (f_117 l1 s) = 0 then
            j_18_64 (j_18_2 F) l1 s
          else
            (gd (g_122 l1 s) (
            (gd (g_118 l1 s) (
            ((f_21 (f_122 l1 s) (f_116 l1 s) (f_118 l1 s) s).bind fun q2 =>
            j_18_64 (j_18_2 F) l1 q2)))))))))))))
theorem bl_18_2 {L c : Nat} {e : Nat → Nat} : ∀ (F : Nat) (d2 : Option ax_V) (l1 : Int) (s : Sg) (q : Sg), j_18_2 F l1 s = some q → RuP 4 tb_m18 2 [some (.inr (.inr (some 73))), some (.inl l1), d2] [] (hp L s c e) (oV L c e q) := by
  intro F
  induction F with
  | zero =>
    intro d2 l1 s q h
    rw [j_18_2] at h
    cases h
  | succ F ih =>
    intro d2 l1 s q h
    rw [j_18_2] at h
    refine RuP.step (pc' := 3) (ls' := [some (.inr (.inr (some 73))), some (.inl l1), d2]) (st' := [.inl l1]) (h1 := hp L s c e) rfl ?_
    refine RuP.step (pc' := 4) (ls' := [some (.inr (.inr (some 73))), some (.inl l1), d2]) (st' := [.inr (.inr (some 73)), .inl l1]) (h1 := hp L s c e) rfl ?_
    refine RuP.step (pc' := 7) (ls' := [some (.inr (.inr (some 73))), some (.inl l1), d2]) (st' := [.inr (.inr (some 46)), .inl l1]) (h1 := hp L s c e) rfl ?_
    refine RuP.step (pc' := 10) (ls' := [some (.inr (.inr (some 73))), some (.inl l1), d2]) (st' := [.inl (s 46 7), .inl l1]) (h1 := hp L s c e) rfl ?_
    by_cases h0 : s 46 7 ≤ l1
    · rw [if_pos h0] at h
      refine RuP.jy rfl h0 ?_
      exact bl_18_70 _ _ _ _ h
    · rw [if_neg h0] at h
      refine RuP.jn rfl h0 ?_
      refine RuP.step (pc' := 14) (ls' := [some (.inr (.inr (some 73))), some (.inl l1), d2]) (st' := [.inr (.inr (some 73))]) (h1 := hp L s c e) rfl ?_
      refine RuP.step (pc' := 17) (ls' := [some (.inr (.inr (some 73))), some (.inl l1), d2]) (st' := [.inr (.inr (some 46))]) (h1 := hp L s c e) rfl ?_
      refine RuP.step (pc' := 18) (ls' := [some (.inr (.inr (some 73))), some (.inl l1), d2]) (st' := [.inl l1, .inr (.inr (some 46))]) (h1 := hp L s c e) rfl ?_
      obtain ⟨b1, h⟩ := gd_some h
      refine RuP.cI rfl (EvP.i ((ev_116 l1 b1).up (by decide))) ?_
      refine RuP.step (pc' := 22) (ls' := [some (.inr (.inr (some 73))), some (.inl l1), some (.inl (f_116 l1 s))]) (st' := []) (h1 := hp L s c e) rfl ?_
      refine RuP.step (pc' := 23) (ls' := [some (.inr (.inr (some 73))), some (.inl l1), some (.inl (f_116 l1 s))]) (st' := [.inl (f_116 l1 s)]) (h1 := hp L s c e) rfl ?_
      refine RuP.step (pc' := 24) (ls' := [some (.inr (.inr (some 73))), some (.inl l1), some (.inl (f_116 l1 s))]) (st' := [.inl 1, .inl (f_116 l1 s)]) (h1 := hp L s c e) rfl ?_
      by_cases h2 : f_116 l1 s < 1
      · rw [if_pos h2] at h
        refine RuP.jy rfl h2 ?_
        exact bl_18_64 ih _ _ _ _ h
      · rw [if_neg h2] at h
        refine RuP.jn rfl h2 ?_
        refine RuP.step (pc' := 28) (ls' := [some (.inr (.inr (some 73))), some (.inl l1), some (.inl (f_116 l1 s))]) (st' := [.inl (f_116 l1 s)]) (h1 := hp L s c e) rfl ?_
        refine RuP.step (pc' := 29) (ls' := [some (.inr (.inr (some 73))), some (.inl l1), some (.inl (f_116 l1 s))]) (st' := [.inl 3, .inl (f_116 l1 s)]) (h1 := hp L s c e) rfl ?_
        by_cases h3 : 3 < f_116 l1 s
        · rw [if_pos h3] at h
          refine RuP.jy rfl h3 ?_
          exact bl_18_64 ih _ _ _ _ h
        · rw [if_neg h3] at h
          refine RuP.jn rfl h3 ?_
          refine RuP.step (pc' := 33) (ls' := [some (.inr (.inr (some 73))), some (.inl l1), some (.inl (f_116 l1 s))]) (st' := [.inr (.inr (some 73))]) (h1 := hp L s c e) rfl ?_
          refine RuP.step (pc' := 36) (ls' := [some (.inr (.inr (some 73))), some (.inl l1), some (.inl (f_116 l1 s))]) (st' := [.inr (.inr (some 46))]) (h1 := hp L s c e) rfl ?_
          refine RuP.step (pc' := 37) (ls' := [some (.inr (.inr (some 73))), some (.inl l1), some (.inl (f_116 l1 s))]) (st' := [.inl l1, .inr (.inr (some 46))]) (h1 := hp L s c e) rfl ?_
          obtain ⟨b4, h⟩ := gd_some h
          refine RuP.cI rfl (EvP.i ((ev_117 l1 b4).up (by decide))) ?_
          by_cases h5 : ¬ (f_117 l1 s) = 0
          · rw [if_pos h5] at h
            refine RuP.jy rfl h5 ?_
            exact bl_18_64 ih _ _ _ _ h
          · rw [if_neg h5] at h
            refine RuP.jn rfl h5 ?_
            refine RuP.step (pc' := 44) (ls' := [some (.inr (.inr (some 73))), some (.inl l1), some (.inl (f_116 l1 s))]) (st' := [.inr (.inr (some 73))]) (h1 := hp L s c e) rfl ?_
            refine RuP.step (pc' := 45) (ls' := [some (.inr (.inr (some 73))), some (.inl l1), some (.inl (f_116 l1 s))]) (st' := [.inr (.inr (some 73)), .inr (.inr (some 73))]) (h1 := hp L s c e) rfl ?_
            refine RuP.step (pc' := 48) (ls' := [some (.inr (.inr (some 73))), some (.inl l1), some (.inl (f_116 l1 s))]) (st' := [.inr (.inr (some 46)), .inr (.inr (some 73))]) (h1 := hp L s c e) rfl ?_
            refine RuP.step (pc' := 49) (ls' := [some (.inr (.inr (some 73))), some (.inl l1), some (.inl (f_116 l1 s))]) (st' := [.inl l1, .inr (.inr (some 46)), .inr (.inr (some 73))]) (h1 := hp L s c e) rfl ?_
            obtain ⟨b6, h⟩ := gd_some h
            refine RuP.cI rfl (EvP.i ((ev_122 l1 b6).up (by decide))) ?_
            refine RuP.step (pc' := 53) (ls' := [some (.inr (.inr (some 73))), some (.inl l1), some (.inl (f_116 l1 s))]) (st' := [.inl (f_116 l1 s), .inl (f_122 l1 s), .inr (.inr (some 73))]) (h1 := hp L s c e) rfl ?_
            refine RuP.step (pc' := 54) (ls' := [some (.inr (.inr (some 73))), some (.inl l1), some (.inl (f_116 l1 s))]) (st' := [.inr (.inr (some 73)), .inl (f_116 l1 s), .inl (f_122 l1 s), .inr (.inr (some 73))]) (h1 := hp L s c e) rfl ?_
            refine RuP.step (pc' := 57) (ls' := [some (.inr (.inr (some 73))), some (.inl l1), some (.inl (f_116 l1 s))]) (st' := [.inr (.inr (some 46)), .inl (f_116 l1 s), .inl (f_122 l1 s), .inr (.inr (some 73))]) (h1 := hp L s c e) rfl ?_
            refine RuP.step (pc' := 58) (ls' := [some (.inr (.inr (some 73))), some (.inl l1), some (.inl (f_116 l1 s))]) (st' := [.inl l1, .inr (.inr (some 46)), .inl (f_116 l1 s), .inl (f_122 l1 s), .inr (.inr (some 73))]) (h1 := hp L s c e) rfl ?_
            obtain ⟨b7, h⟩ := gd_some h
            refine RuP.cI rfl (EvP.i ((ev_118 l1 b7).up (by decide))) ?_
            obtain ⟨q2, h1, h⟩ := bd_some h
            refine RuP.cV rfl ((ev_21 h1).up (by decide)) ?_
            exact bl_18_64 ih _ _ _ _ h
noncomputable def f_18 (s : Sg) : Option Sg :=
  j_18_2 FU 0 s
theorem ev_18 {L c : Nat} {e : Nat → Nat} {s : Sg} {q : Sg} (h : f_18 s = some q) : EvP 5 18 [.inr (.inr (some 73))] (hp L s c e) (oV L c e q) := by
  unfold f_18 at h
  refine EvP.of (μ := tb_m18) (ls := [some (.inr (.inr (some 73))), none, none]) rfl (Nat.le_of_ble_eq_true rfl) rfl ?_
  refine RuP.step (pc' := 1) (ls' := [some (.inr (.inr (some 73))), none, none]) (st' := [.inl 0]) (h1 := hp L s c e) rfl ?_
  refine RuP.step (pc' := 2) (ls' := [some (.inr (.inr (some 73))), some (.inl 0), none]) (st' := []) (h1 := hp L s c e) rfl ?_
  exact bl_18_2 FU _ _ _ _ h
/-- MachineText$Checker.widthOf(I)I -/
noncomputable def f_23 (x0 : Int) (s : Sg) : Option Int :=
  (gd (g_117 x0 s) (
  (gd (g_120 x0 s) (
  (gd (g_117 (f_120 x0 s) s) (
  (gd (g_116 x0 s) (
  (if f_116 x0 s = 0 then
    some (f_117 x0 s)
  else
  (if f_116 x0 s = 1 then
    (if f_117 x0 s = 0 then
      (gd (g_122 x0 s) (
      (gd (g_26 (f_122 x0 s) s) (
      (gd (g_183 (f_26 (f_122 x0 s) s) s) (
      some (f_183 (f_26 (f_122 x0 s) s) s)))))))
    else
      some (f_117 x0 s))
  else
  (if f_116 x0 s = 2 then
    (gd (g_122 x0 s) (
    (gd (g_26 (f_122 x0 s) s) (
    ((f_28 (f_26 (f_122 x0 s) s) s).bind fun q1 =>
    (if ¬ (f_117 (f_120 x0 s) s) = q1 then
      some 0
    else
      (gd (g_183 (f_26 (f_122 x0 s) s) s) (
      some (f_183 (f_26 (f_122 x0 s) s) s)))))))))
  else
  (if f_116 x0 s = 3 then
    ((f_29 x0 s).bind fun q2 =>
    some q2)
  else
  (if f_116 x0 s = 4 ∨ f_116 x0 s = 5 then
    (if f_117 x0 s < f_117 (f_120 x0 s) s then
      some 0
    else
      some (f_117 x0 s))
  else
  (if f_116 x0 s = 6 then
    ((f_30 x0 s).bind fun q3 =>
    some q3)
  else
  (if f_116 x0 s = 7 then
    (gd (g_115 x0 s) (
    (if f_117 (f_120 x0 s) s ≤ ax_w32 ((ax_w32 ((f_115 x0 s) + (f_117 x0 s))) - 1) then
      some 0
    else
      some (f_117 x0 s))))
  else
  (if f_116 x0 s = 8 ∨ f_116 x0 s = 9 ∨ f_116 x0 s = 13 ∨ f_116 x0 s = 14 then
    some (f_117 (f_120 x0 s) s)
  else
  (if f_116 x0 s = 21 then
    ((f_119 x0 1 s).bind fun q4 =>
    (gd (g_117 q4 s) (
    (if ¬ (f_117 (f_120 x0 s) s) = 1 then
      some 0
    else
      ((f_119 x0 2 s).bind fun q5 =>
      (gd (g_117 q5 s) (
      (if ¬ (f_117 q4 s) = f_117 q5 s then
        some 0
      else
        some (f_117 q4 s)))))))))
  else
    ((f_31 x0 s).bind fun q6 =>
    some q6))))))))))))))))))
set_option maxRecDepth 20000 in
theorem ev_23 {L c : Nat} {e : Nat → Nat} {s : Sg} {x0 : Int} {q : Int} (h : f_23 x0 s = some q) : EvP 5 23 [.inr (.inr (some 73)), .inl x0] (hp L s c e) (oI L c e (q, s)) := by
  unfold f_23 at h
  refine EvP.of (μ := tb_m23) (ls := [some (.inr (.inr (some 73))), some (.inl x0), none, none, none, none]) rfl (Nat.le_of_ble_eq_true rfl) rfl ?_
  refine RuP.step (pc' := 1) (ls' := [some (.inr (.inr (some 73))), some (.inl x0), none, none, none, none]) (st' := [.inr (.inr (some 73))]) (h1 := hp L s c e) rfl ?_
  refine RuP.step (pc' := 4) (ls' := [some (.inr (.inr (some 73))), some (.inl x0), none, none, none, none]) (st' := [.inr (.inr (some 46))]) (h1 := hp L s c e) rfl ?_
  refine RuP.step (pc' := 5) (ls' := [some (.inr (.inr (some 73))), some (.inl x0), none, none, none, none]) (st' := [.inl x0, .inr (.inr (some 46))]) (h1 := hp L s c e) rfl ?_
  obtain ⟨b0, h⟩ := gd_some h
  refine RuP.cI rfl (EvP.i ((ev_117 x0 b0).up (by decide))) ?_
  refine RuP.step (pc' := 9) (ls' := [some (.inr (.inr (some 73))), some (.inl x0), some (.inl (f_117 x0 s)), none, none, none]) (st' := []) (h1 := hp L s c e) rfl ?_
  refine RuP.step (pc' := 10) (ls' := [some (.inr (.inr (some 73))), some (.inl x0), some (.inl (f_117 x0 s)), none, none, none]) (st' := [.inr (.inr (some 73))]) (h1 := hp L s c e) rfl ?_
  refine RuP.step (pc' := 13) (ls' := [some (.inr (.inr (some 73))), some (.inl x0), some (.inl (f_117 x0 s)), none, none, none]) (st' := [.inr (.inr (some 46))]) (h1 := hp L s c e) rfl ?_
  refine RuP.step (pc' := 14) (ls' := [some (.inr (.inr (some 73))), some (.inl x0), some (.inl (f_117 x0 s)), none, none, none]) (st' := [.inr (.inr (some 73)), .inr (.inr (some 46))]) (h1 := hp L s c e) rfl ?_
  refine RuP.step (pc' := 17) (ls' := [some (.inr (.inr (some 73))), some (.inl x0), some (.inl (f_117 x0 s)), none, none, none]) (st' := [.inr (.inr (some 46)), .inr (.inr (some 46))]) (h1 := hp L s c e) rfl ?_
  refine RuP.step (pc' := 18) (ls' := [some (.inr (.inr (some 73))), some (.inl x0), some (.inl (f_117 x0 s)), none, none, none]) (st' := [.inl x0, .inr (.inr (some 46)), .inr (.inr (some 46))]) (h1 := hp L s c e) rfl ?_
  obtain ⟨b1, h⟩ := gd_some h
  refine RuP.cI rfl (EvP.i ((ev_120 x0 b1).up (by decide))) ?_
  obtain ⟨b2, h⟩ := gd_some h
  refine RuP.cI rfl (EvP.i ((ev_117 (f_120 x0 s) b2).up (by decide))) ?_
  refine RuP.step (pc' := 25) (ls' := [some (.inr (.inr (some 73))), some (.inl x0), some (.inl (f_117 x0 s)), some (.inl (f_117 (f_120 x0 s) s)), none, none]) (st' := []) (h1 := hp L s c e) rfl ?_
  refine RuP.step (pc' := 26) (ls' := [some (.inr (.inr (some 73))), some (.inl x0), some (.inl (f_117 x0 s)), some (.inl (f_117 (f_120 x0 s) s)), none, none]) (st' := [.inr (.inr (some 73))]) (h1 := hp L s c e) rfl ?_
  refine RuP.step (pc' := 29) (ls' := [some (.inr (.inr (some 73))), some (.inl x0), some (.inl (f_117 x0 s)), some (.inl (f_117 (f_120 x0 s) s)), none, none]) (st' := [.inr (.inr (some 46))]) (h1 := hp L s c e) rfl ?_
  refine RuP.step (pc' := 30) (ls' := [some (.inr (.inr (some 73))), some (.inl x0), some (.inl (f_117 x0 s)), some (.inl (f_117 (f_120 x0 s) s)), none, none]) (st' := [.inl x0, .inr (.inr (some 46))]) (h1 := hp L s c e) rfl ?_
  obtain ⟨b3, h⟩ := gd_some h
  refine RuP.cI rfl (EvP.i ((ev_116 x0 b3).up (by decide))) ?_
  by_cases h4 : f_116 x0 s = 0
  · rw [if_pos h4] at h
    have J5 : RuP 4 tb_m23 136 [some (.inr (.inr (some 73))), some (.inl x0), some (.inl (f_117 x0 s)), some (.inl (f_117 (f_120 x0 s) s)), none, none] [] (hp L s c e) (oI L c e (q, s)) := by
      refine RuP.step (pc' := 137) (ls' := [some (.inr (.inr (some 73))), some (.inl x0), some (.inl (f_117 x0 s)), some (.inl (f_117 (f_120 x0 s) s)), none, none]) (st' := [.inl (f_117 x0 s)]) (h1 := hp L s c e) rfl ?_
      cases h
      exact RuP.dI rfl
    exact RuP.sw (i := .tableswitch (269) (0) (21) #[103, 105, 133, 171, 177, 177, 188, 194, 216, 216, 269, 269, 269, 216, 216, 269, 269, 269, 269, 269, 269, 218]) rfl h4 rfl J5
  rw [if_neg h4] at h
  by_cases h5 : f_116 x0 s = 1
  · rw [if_pos h5] at h
    have J6 : RuP 4 tb_m23 138 [some (.inr (.inr (some 73))), some (.inl x0), some (.inl (f_117 x0 s)), some (.inl (f_117 (f_120 x0 s) s)), none, none] [] (hp L s c e) (oI L c e (q, s)) := by
      refine RuP.step (pc' := 139) (ls' := [some (.inr (.inr (some 73))), some (.inl x0), some (.inl (f_117 x0 s)), some (.inl (f_117 (f_120 x0 s) s)), none, none]) (st' := [.inl (f_117 x0 s)]) (h1 := hp L s c e) rfl ?_
      by_cases h6 : f_117 x0 s = 0
      · rw [if_pos h6] at h
        refine RuP.jy rfl h6 ?_
        refine RuP.step (pc' := 147) (ls' := [some (.inr (.inr (some 73))), some (.inl x0), some (.inl (f_117 x0 s)), some (.inl (f_117 (f_120 x0 s) s)), none, none]) (st' := [.inr (.inr (some 73))]) (h1 := hp L s c e) rfl ?_
        refine RuP.step (pc' := 150) (ls' := [some (.inr (.inr (some 73))), some (.inl x0), some (.inl (f_117 x0 s)), some (.inl (f_117 (f_120 x0 s) s)), none, none]) (st' := [.inr (.inr (some 54))]) (h1 := hp L s c e) rfl ?_
        refine RuP.step (pc' := 151) (ls' := [some (.inr (.inr (some 73))), some (.inl x0), some (.inl (f_117 x0 s)), some (.inl (f_117 (f_120 x0 s) s)), none, none]) (st' := [.inr (.inr (some 73)), .inr (.inr (some 54))]) (h1 := hp L s c e) rfl ?_
        refine RuP.step (pc' := 152) (ls' := [some (.inr (.inr (some 73))), some (.inl x0), some (.inl (f_117 x0 s)), some (.inl (f_117 (f_120 x0 s) s)), none, none]) (st' := [.inr (.inr (some 73)), .inr (.inr (some 73)), .inr (.inr (some 54))]) (h1 := hp L s c e) rfl ?_
        refine RuP.step (pc' := 155) (ls' := [some (.inr (.inr (some 73))), some (.inl x0), some (.inl (f_117 x0 s)), some (.inl (f_117 (f_120 x0 s) s)), none, none]) (st' := [.inr (.inr (some 46)), .inr (.inr (some 73)), .inr (.inr (some 54))]) (h1 := hp L s c e) rfl ?_
        refine RuP.step (pc' := 156) (ls' := [some (.inr (.inr (some 73))), some (.inl x0), some (.inl (f_117 x0 s)), some (.inl (f_117 (f_120 x0 s) s)), none, none]) (st' := [.inl x0, .inr (.inr (some 46)), .inr (.inr (some 73)), .inr (.inr (some 54))]) (h1 := hp L s c e) rfl ?_
        obtain ⟨b7, h⟩ := gd_some h
        refine RuP.cI rfl (EvP.i ((ev_122 x0 b7).up (by decide))) ?_
        obtain ⟨b8, h⟩ := gd_some h
        refine RuP.cI rfl (EvP.i ((ev_26 (f_122 x0 s) b8).up (by decide))) ?_
        obtain ⟨b9, h⟩ := gd_some h
        refine RuP.cI rfl (EvP.i ((ev_183 (f_26 (f_122 x0 s) s) b9).up (by decide))) ?_
        cases h
        exact RuP.dI rfl
      · rw [if_neg h6] at h
        refine RuP.jn rfl h6 ?_
        refine RuP.step (pc' := 143) (ls' := [some (.inr (.inr (some 73))), some (.inl x0), some (.inl (f_117 x0 s)), some (.inl (f_117 (f_120 x0 s) s)), none, none]) (st' := [.inl (f_117 x0 s)]) (h1 := hp L s c e) rfl ?_
        refine RuP.step (pc' := 165) (ls' := [some (.inr (.inr (some 73))), some (.inl x0), some (.inl (f_117 x0 s)), some (.inl (f_117 (f_120 x0 s) s)), none, none]) (st' := [.inl (f_117 x0 s)]) (h1 := hp L s c e) rfl ?_
        cases h
        exact RuP.dI rfl
    exact RuP.sw (i := .tableswitch (269) (0) (21) #[103, 105, 133, 171, 177, 177, 188, 194, 216, 216, 269, 269, 269, 216, 216, 269, 269, 269, 269, 269, 269, 218]) rfl h5 rfl J6
  rw [if_neg h5] at h
  by_cases h10 : f_116 x0 s = 2
  · rw [if_pos h10] at h
    have J11 : RuP 4 tb_m23 166 [some (.inr (.inr (some 73))), some (.inl x0), some (.inl (f_117 x0 s)), some (.inl (f_117 (f_120 x0 s) s)), none, none] [] (hp L s c e) (oI L c e (q, s)) := by
      refine RuP.step (pc' := 167) (ls' := [some (.inr (.inr (some 73))), some (.inl x0), some (.inl (f_117 x0 s)), some (.inl (f_117 (f_120 x0 s) s)), none, none]) (st' := [.inr (.inr (some 73))]) (h1 := hp L s c e) rfl ?_
      refine RuP.step (pc' := 168) (ls' := [some (.inr (.inr (some 73))), some (.inl x0), some (.inl (f_117 x0 s)), some (.inl (f_117 (f_120 x0 s) s)), none, none]) (st' := [.inr (.inr (some 73)), .inr (.inr (some 73))]) (h1 := hp L s c e) rfl ?_
      refine RuP.step (pc' := 171) (ls' := [some (.inr (.inr (some 73))), some (.inl x0), some (.inl (f_117 x0 s)), some (.inl (f_117 (f_120 x0 s) s)), none, none]) (st' := [.inr (.inr (some 46)), .inr (.inr (some 73))]) (h1 := hp L s c e) rfl ?_
      refine RuP.step (pc' := 172) (ls' := [some (.inr (.inr (some 73))), some (.inl x0), some (.inl (f_117 x0 s)), some (.inl (f_117 (f_120 x0 s) s)), none, none]) (st' := [.inl x0, .inr (.inr (some 46)), .inr (.inr (some 73))]) (h1 := hp L s c e) rfl ?_
      obtain ⟨b11, h⟩ := gd_some h
      refine RuP.cI rfl (EvP.i ((ev_122 x0 b11).up (by decide))) ?_
      obtain ⟨b12, h⟩ := gd_some h
      refine RuP.cI rfl (EvP.i ((ev_26 (f_122 x0 s) b12).up (by decide))) ?_
      refine RuP.step (pc' := 180) (ls' := [some (.inr (.inr (some 73))), some (.inl x0), some (.inl (f_117 x0 s)), some (.inl (f_117 (f_120 x0 s) s)), some (.inl (f_26 (f_122 x0 s) s)), none]) (st' := []) (h1 := hp L s c e) rfl ?_
      refine RuP.step (pc' := 181) (ls' := [some (.inr (.inr (some 73))), some (.inl x0), some (.inl (f_117 x0 s)), some (.inl (f_117 (f_120 x0 s) s)), some (.inl (f_26 (f_122 x0 s) s)), none]) (st' := [.inl (f_117 (f_120 x0 s) s)]) (h1 := hp L s c e) rfl ?_
      refine RuP.step (pc' := 182) (ls' := [some (.inr (.inr (some 73))), some (.inl x0), some (.inl (f_117 x0 s)), some (.inl (f_117 (f_120 x0 s) s)), some (.inl (f_26 (f_122 x0 s) s)), none]) (st' := [.inr (.inr (some 73)), .inl (f_117 (f_120 x0 s) s)]) (h1 := hp L s c e) rfl ?_
      refine RuP.step (pc' := 184) (ls' := [some (.inr (.inr (some 73))), some (.inl x0), some (.inl (f_117 x0 s)), some (.inl (f_117 (f_120 x0 s) s)), some (.inl (f_26 (f_122 x0 s) s)), none]) (st' := [.inl (f_26 (f_122 x0 s) s), .inr (.inr (some 73)), .inl (f_117 (f_120 x0 s) s)]) (h1 := hp L s c e) rfl ?_
      obtain ⟨q1, h1, h⟩ := bd_some h
      refine RuP.cI rfl ((ev_28 h1).up (by decide)) ?_
      by_cases h13 : ¬ (f_117 (f_120 x0 s) s) = q1
      · rw [if_pos h13] at h
        refine RuP.jy rfl h13 ?_
        refine RuP.step (pc' := 203) (ls' := [some (.inr (.inr (some 73))), some (.inl x0), some (.inl (f_117 x0 s)), some (.inl (f_117 (f_120 x0 s) s)), some (.inl (f_26 (f_122 x0 s) s)), none]) (st' := [.inl 0]) (h1 := hp L s c e) rfl ?_
        cases h
        exact RuP.dI rfl
      · rw [if_neg h13] at h
        refine RuP.jn rfl h13 ?_
        refine RuP.step (pc' := 191) (ls' := [some (.inr (.inr (some 73))), some (.inl x0), some (.inl (f_117 x0 s)), some (.inl (f_117 (f_120 x0 s) s)), some (.inl (f_26 (f_122 x0 s) s)), none]) (st' := [.inr (.inr (some 73))]) (h1 := hp L s c e) rfl ?_
        refine RuP.step (pc' := 194) (ls' := [some (.inr (.inr (some 73))), some (.inl x0), some (.inl (f_117 x0 s)), some (.inl (f_117 (f_120 x0 s) s)), some (.inl (f_26 (f_122 x0 s) s)), none]) (st' := [.inr (.inr (some 54))]) (h1 := hp L s c e) rfl ?_
        refine RuP.step (pc' := 196) (ls' := [some (.inr (.inr (some 73))), some (.inl x0), some (.inl (f_117 x0 s)), some (.inl (f_117 (f_120 x0 s) s)), some (.inl (f_26 (f_122 x0 s) s)), none]) (st' := [.inl (f_26 (f_122 x0 s) s), .inr (.inr (some 54))]) (h1 := hp L s c e) rfl ?_
        obtain ⟨b14, h⟩ := gd_some h
        refine RuP.cI rfl (EvP.i ((ev_183 (f_26 (f_122 x0 s) s) b14).up (by decide))) ?_
        refine RuP.step (pc' := 203) (ls' := [some (.inr (.inr (some 73))), some (.inl x0), some (.inl (f_117 x0 s)), some (.inl (f_117 (f_120 x0 s) s)), some (.inl (f_26 (f_122 x0 s) s)), none]) (st' := [.inl (f_183 (f_26 (f_122 x0 s) s) s)]) (h1 := hp L s c e) rfl ?_
        cases h
        exact RuP.dI rfl
    exact RuP.sw (i := .tableswitch (269) (0) (21) #[103, 105, 133, 171, 177, 177, 188, 194, 216, 216, 269, 269, 269, 216, 216, 269, 269, 269, 269, 269, 269, 218]) rfl h10 rfl J11
  rw [if_neg h10] at h
  by_cases h15 : f_116 x0 s = 3
  · rw [if_pos h15] at h
    have J16 : RuP 4 tb_m23 204 [some (.inr (.inr (some 73))), some (.inl x0), some (.inl (f_117 x0 s)), some (.inl (f_117 (f_120 x0 s) s)), none, none] [] (hp L s c e) (oI L c e (q, s)) := by
      refine RuP.step (pc' := 205) (ls' := [some (.inr (.inr (some 73))), some (.inl x0), some (.inl (f_117 x0 s)), some (.inl (f_117 (f_120 x0 s) s)), none, none]) (st' := [.inr (.inr (some 73))]) (h1 := hp L s c e) rfl ?_
      refine RuP.step (pc' := 206) (ls' := [some (.inr (.inr (some 73))), some (.inl x0), some (.inl (f_117 x0 s)), some (.inl (f_117 (f_120 x0 s) s)), none, none]) (st' := [.inl x0, .inr (.inr (some 73))]) (h1 := hp L s c e) rfl ?_
      obtain ⟨q2, h1, h⟩ := bd_some h
      refine RuP.cI rfl ((ev_29 h1).up (by decide)) ?_
      cases h
      exact RuP.dI rfl
    exact RuP.sw (i := .tableswitch (269) (0) (21) #[103, 105, 133, 171, 177, 177, 188, 194, 216, 216, 269, 269, 269, 216, 216, 269, 269, 269, 269, 269, 269, 218]) rfl h15 rfl J16
  rw [if_neg h15] at h
  by_cases h16 : f_116 x0 s = 4 ∨ f_116 x0 s = 5
  · rw [if_pos h16] at h
    have J17 : RuP 4 tb_m23 210 [some (.inr (.inr (some 73))), some (.inl x0), some (.inl (f_117 x0 s)), some (.inl (f_117 (f_120 x0 s) s)), none, none] [] (hp L s c e) (oI L c e (q, s)) := by
      refine RuP.step (pc' := 211) (ls' := [some (.inr (.inr (some 73))), some (.inl x0), some (.inl (f_117 x0 s)), some (.inl (f_117 (f_120 x0 s) s)), none, none]) (st' := [.inl (f_117 x0 s)]) (h1 := hp L s c e) rfl ?_
      refine RuP.step (pc' := 212) (ls' := [some (.inr (.inr (some 73))), some (.inl x0), some (.inl (f_117 x0 s)), some (.inl (f_117 (f_120 x0 s) s)), none, none]) (st' := [.inl (f_117 (f_120 x0 s) s), .inl (f_117 x0 s)]) (h1 := hp L s c e) rfl ?_
      by_cases h17 : f_117 x0 s < f_117 (f_120 x0 s) s
      · rw [if_pos h17] at h
        refine RuP.jy rfl h17 ?_
        refine RuP.step (pc' := 220) (ls' := [some (.inr (.inr (some 73))), some (.inl x0), some (.inl (f_117 x0 s)), some (.inl (f_117 (f_120 x0 s) s)), none, none]) (st' := [.inl 0]) (h1 := hp L s c e) rfl ?_
        cases h
        exact RuP.dI rfl
      · rw [if_neg h17] at h
        refine RuP.jn rfl h17 ?_
        refine RuP.step (pc' := 216) (ls' := [some (.inr (.inr (some 73))), some (.inl x0), some (.inl (f_117 x0 s)), some (.inl (f_117 (f_120 x0 s) s)), none, none]) (st' := [.inl (f_117 x0 s)]) (h1 := hp L s c e) rfl ?_
        refine RuP.step (pc' := 220) (ls' := [some (.inr (.inr (some 73))), some (.inl x0), some (.inl (f_117 x0 s)), some (.inl (f_117 (f_120 x0 s) s)), none, none]) (st' := [.inl (f_117 x0 s)]) (h1 := hp L s c e) rfl ?_
        cases h
        exact RuP.dI rfl
    rcases h16 with h16 | h16 <;> exact RuP.sw (i := .tableswitch (269) (0) (21) #[103, 105, 133, 171, 177, 177, 188, 194, 216, 216, 269, 269, 269, 216, 216, 269, 269, 269, 269, 269, 269, 218]) rfl h16 rfl J17
  rw [if_neg h16] at h
  by_cases h18 : f_116 x0 s = 6
  · rw [if_pos h18] at h
    have J19 : RuP 4 tb_m23 221 [some (.inr (.inr (some 73))), some (.inl x0), some (.inl (f_117 x0 s)), some (.inl (f_117 (f_120 x0 s) s)), none, none] [] (hp L s c e) (oI L c e (q, s)) := by
      refine RuP.step (pc' := 222) (ls' := [some (.inr (.inr (some 73))), some (.inl x0), some (.inl (f_117 x0 s)), some (.inl (f_117 (f_120 x0 s) s)), none, none]) (st' := [.inr (.inr (some 73))]) (h1 := hp L s c e) rfl ?_
      refine RuP.step (pc' := 223) (ls' := [some (.inr (.inr (some 73))), some (.inl x0), some (.inl (f_117 x0 s)), some (.inl (f_117 (f_120 x0 s) s)), none, none]) (st' := [.inl x0, .inr (.inr (some 73))]) (h1 := hp L s c e) rfl ?_
      obtain ⟨q3, h1, h⟩ := bd_some h
      refine RuP.cI rfl ((ev_30 h1).up (by decide)) ?_
      cases h
      exact RuP.dI rfl
    exact RuP.sw (i := .tableswitch (269) (0) (21) #[103, 105, 133, 171, 177, 177, 188, 194, 216, 216, 269, 269, 269, 216, 216, 269, 269, 269, 269, 269, 269, 218]) rfl h18 rfl J19
  rw [if_neg h18] at h
  by_cases h19 : f_116 x0 s = 7
  · rw [if_pos h19] at h
    have J20 : RuP 4 tb_m23 227 [some (.inr (.inr (some 73))), some (.inl x0), some (.inl (f_117 x0 s)), some (.inl (f_117 (f_120 x0 s) s)), none, none] [] (hp L s c e) (oI L c e (q, s)) := by
      refine RuP.step (pc' := 228) (ls' := [some (.inr (.inr (some 73))), some (.inl x0), some (.inl (f_117 x0 s)), some (.inl (f_117 (f_120 x0 s) s)), none, none]) (st' := [.inr (.inr (some 73))]) (h1 := hp L s c e) rfl ?_
      refine RuP.step (pc' := 231) (ls' := [some (.inr (.inr (some 73))), some (.inl x0), some (.inl (f_117 x0 s)), some (.inl (f_117 (f_120 x0 s) s)), none, none]) (st' := [.inr (.inr (some 46))]) (h1 := hp L s c e) rfl ?_
      refine RuP.step (pc' := 232) (ls' := [some (.inr (.inr (some 73))), some (.inl x0), some (.inl (f_117 x0 s)), some (.inl (f_117 (f_120 x0 s) s)), none, none]) (st' := [.inl x0, .inr (.inr (some 46))]) (h1 := hp L s c e) rfl ?_
      obtain ⟨b20, h⟩ := gd_some h
      refine RuP.cI rfl (EvP.i ((ev_115 x0 b20).up (by decide))) ?_
      refine RuP.step (pc' := 236) (ls' := [some (.inr (.inr (some 73))), some (.inl x0), some (.inl (f_117 x0 s)), some (.inl (f_117 (f_120 x0 s) s)), none, none]) (st' := [.inl (f_117 x0 s), .inl (f_115 x0 s)]) (h1 := hp L s c e) rfl ?_
      refine RuP.step (pc' := 237) (ls' := [some (.inr (.inr (some 73))), some (.inl x0), some (.inl (f_117 x0 s)), some (.inl (f_117 (f_120 x0 s) s)), none, none]) (st' := [.inl (ax_w32 ((f_115 x0 s) + (f_117 x0 s)))]) (h1 := hp L s c e) rfl ?_
      refine RuP.step (pc' := 238) (ls' := [some (.inr (.inr (some 73))), some (.inl x0), some (.inl (f_117 x0 s)), some (.inl (f_117 (f_120 x0 s) s)), none, none]) (st' := [.inl 1, .inl (ax_w32 ((f_115 x0 s) + (f_117 x0 s)))]) (h1 := hp L s c e) rfl ?_
      refine RuP.step (pc' := 239) (ls' := [some (.inr (.inr (some 73))), some (.inl x0), some (.inl (f_117 x0 s)), some (.inl (f_117 (f_120 x0 s) s)), none, none]) (st' := [.inl (ax_w32 ((ax_w32 ((f_115 x0 s) + (f_117 x0 s))) - 1))]) (h1 := hp L s c e) rfl ?_
      refine RuP.step (pc' := 240) (ls' := [some (.inr (.inr (some 73))), some (.inl x0), some (.inl (f_117 x0 s)), some (.inl (f_117 (f_120 x0 s) s)), none, none]) (st' := [.inl (f_117 (f_120 x0 s) s), .inl (ax_w32 ((ax_w32 ((f_115 x0 s) + (f_117 x0 s))) - 1))]) (h1 := hp L s c e) rfl ?_
      by_cases h21 : f_117 (f_120 x0 s) s ≤ ax_w32 ((ax_w32 ((f_115 x0 s) + (f_117 x0 s))) - 1)
      · rw [if_pos h21] at h
        refine RuP.jy rfl h21 ?_
        refine RuP.step (pc' := 248) (ls' := [some (.inr (.inr (some 73))), some (.inl x0), some (.inl (f_117 x0 s)), some (.inl (f_117 (f_120 x0 s) s)), none, none]) (st' := [.inl 0]) (h1 := hp L s c e) rfl ?_
        cases h
        exact RuP.dI rfl
      · rw [if_neg h21] at h
        refine RuP.jn rfl h21 ?_
        refine RuP.step (pc' := 244) (ls' := [some (.inr (.inr (some 73))), some (.inl x0), some (.inl (f_117 x0 s)), some (.inl (f_117 (f_120 x0 s) s)), none, none]) (st' := [.inl (f_117 x0 s)]) (h1 := hp L s c e) rfl ?_
        refine RuP.step (pc' := 248) (ls' := [some (.inr (.inr (some 73))), some (.inl x0), some (.inl (f_117 x0 s)), some (.inl (f_117 (f_120 x0 s) s)), none, none]) (st' := [.inl (f_117 x0 s)]) (h1 := hp L s c e) rfl ?_
        cases h
        exact RuP.dI rfl
    exact RuP.sw (i := .tableswitch (269) (0) (21) #[103, 105, 133, 171, 177, 177, 188, 194, 216, 216, 269, 269, 269, 216, 216, 269, 269, 269, 269, 269, 269, 218]) rfl h19 rfl J20
  rw [if_neg h19] at h
  by_cases h22 : f_116 x0 s = 8 ∨ f_116 x0 s = 9 ∨ f_116 x0 s = 13 ∨ f_116 x0 s = 14
  · rw [if_pos h22] at h
    have J23 : RuP 4 tb_m23 249 [some (.inr (.inr (some 73))), some (.inl x0), some (.inl (f_117 x0 s)), some (.inl (f_117 (f_120 x0 s) s)), none, none] [] (hp L s c e) (oI L c e (q, s)) := by
      refine RuP.step (pc' := 250) (ls' := [some (.inr (.inr (some 73))), some (.inl x0), some (.inl (f_117 x0 s)), some (.inl (f_117 (f_120 x0 s) s)), none, none]) (st' := [.inl (f_117 (f_120 x0 s) s)]) (h1 := hp L s c e) rfl ?_
      cases h
      exact RuP.dI rfl
    rcases h22 with h22 | h22 | h22 | h22 <;> exact RuP.sw (i := .tableswitch (269) (0) (21) #[103, 105, 133, 171, 177, 177, 188, 194, 216, 216, 269, 269, 269, 216, 216, 269, 269, 269, 269, 269, 269, 218]) rfl h22 rfl J23
  rw [if_neg h22] at h
  by_cases h23 : f_116 x0 s = 21
  · rw [if_pos h23] at h
    have J24 : RuP 4 tb_m23 251 [some (.inr (.inr (some 73))), some (.inl x0), some (.inl (f_117 x0 s)), some (.inl (f_117 (f_120 x0 s) s)), none, none] [] (hp L s c e) (oI L c e (q, s)) := by
      refine RuP.step (pc' := 252) (ls' := [some (.inr (.inr (some 73))), some (.inl x0), some (.inl (f_117 x0 s)), some (.inl (f_117 (f_120 x0 s) s)), none, none]) (st' := [.inr (.inr (some 73))]) (h1 := hp L s c e) rfl ?_
      refine RuP.step (pc' := 255) (ls' := [some (.inr (.inr (some 73))), some (.inl x0), some (.inl (f_117 x0 s)), some (.inl (f_117 (f_120 x0 s) s)), none, none]) (st' := [.inr (.inr (some 46))]) (h1 := hp L s c e) rfl ?_
      refine RuP.step (pc' := 256) (ls' := [some (.inr (.inr (some 73))), some (.inl x0), some (.inl (f_117 x0 s)), some (.inl (f_117 (f_120 x0 s) s)), none, none]) (st' := [.inr (.inr (some 73)), .inr (.inr (some 46))]) (h1 := hp L s c e) rfl ?_
      refine RuP.step (pc' := 259) (ls' := [some (.inr (.inr (some 73))), some (.inl x0), some (.inl (f_117 x0 s)), some (.inl (f_117 (f_120 x0 s) s)), none, none]) (st' := [.inr (.inr (some 46)), .inr (.inr (some 46))]) (h1 := hp L s c e) rfl ?_
      refine RuP.step (pc' := 260) (ls' := [some (.inr (.inr (some 73))), some (.inl x0), some (.inl (f_117 x0 s)), some (.inl (f_117 (f_120 x0 s) s)), none, none]) (st' := [.inl x0, .inr (.inr (some 46)), .inr (.inr (some 46))]) (h1 := hp L s c e) rfl ?_
      refine RuP.step (pc' := 261) (ls' := [some (.inr (.inr (some 73))), some (.inl x0), some (.inl (f_117 x0 s)), some (.inl (f_117 (f_120 x0 s) s)), none, none]) (st' := [.inl 1, .inl x0, .inr (.inr (some 46)), .inr (.inr (some 46))]) (h1 := hp L s c e) rfl ?_
      obtain ⟨q4, h1, h⟩ := bd_some h
      refine RuP.cI rfl ((ev_119 h1).up (by decide)) ?_
      obtain ⟨b24, h⟩ := gd_some h
      refine RuP.cI rfl (EvP.i ((ev_117 q4 b24).up (by decide))) ?_
      refine RuP.step (pc' := 269) (ls' := [some (.inr (.inr (some 73))), some (.inl x0), some (.inl (f_117 x0 s)), some (.inl (f_117 (f_120 x0 s) s)), none, some (.inl (f_117 q4 s))]) (st' := []) (h1 := hp L s c e) rfl ?_
      refine RuP.step (pc' := 270) (ls' := [some (.inr (.inr (some 73))), some (.inl x0), some (.inl (f_117 x0 s)), some (.inl (f_117 (f_120 x0 s) s)), none, some (.inl (f_117 q4 s))]) (st' := [.inl (f_117 (f_120 x0 s) s)]) (h1 := hp L s c e) rfl ?_
      refine RuP.step (pc' := 271) (ls' := [some (.inr (.inr (some 73))), some (.inl x0), some (.inl (f_117 x0 s)), some (.inl (f_117 (f_120 x0 s) s)), none, some (.inl (f_117 q4 s))]) (st' := [.inl 1, .inl (f_117 (f_120 x0 s) s)]) (h1 := hp L s c e) rfl ?_
      by_cases h25 : ¬ (f_117 (f_120 x0 s) s) = 1
      · rw [if_pos h25] at h
        refine RuP.jy rfl h25 ?_
        refine RuP.step (pc' := 301) (ls' := [some (.inr (.inr (some 73))), some (.inl x0), some (.inl (f_117 x0 s)), some (.inl (f_117 (f_120 x0 s) s)), none, some (.inl (f_117 q4 s))]) (st' := [.inl 0]) (h1 := hp L s c e) rfl ?_
        cases h
        exact RuP.dI rfl
      · rw [if_neg h25] at h
        refine RuP.jn rfl h25 ?_
        refine RuP.step (pc' := 276) (ls' := [some (.inr (.inr (some 73))), some (.inl x0), some (.inl (f_117 x0 s)), some (.inl (f_117 (f_120 x0 s) s)), none, some (.inl (f_117 q4 s))]) (st' := [.inl (f_117 q4 s)]) (h1 := hp L s c e) rfl ?_
        refine RuP.step (pc' := 277) (ls' := [some (.inr (.inr (some 73))), some (.inl x0), some (.inl (f_117 x0 s)), some (.inl (f_117 (f_120 x0 s) s)), none, some (.inl (f_117 q4 s))]) (st' := [.inr (.inr (some 73)), .inl (f_117 q4 s)]) (h1 := hp L s c e) rfl ?_
        refine RuP.step (pc' := 280) (ls' := [some (.inr (.inr (some 73))), some (.inl x0), some (.inl (f_117 x0 s)), some (.inl (f_117 (f_120 x0 s) s)), none, some (.inl (f_117 q4 s))]) (st' := [.inr (.inr (some 46)), .inl (f_117 q4 s)]) (h1 := hp L s c e) rfl ?_
        refine RuP.step (pc' := 281) (ls' := [some (.inr (.inr (some 73))), some (.inl x0), some (.inl (f_117 x0 s)), some (.inl (f_117 (f_120 x0 s) s)), none, some (.inl (f_117 q4 s))]) (st' := [.inr (.inr (some 73)), .inr (.inr (some 46)), .inl (f_117 q4 s)]) (h1 := hp L s c e) rfl ?_
        refine RuP.step (pc' := 284) (ls' := [some (.inr (.inr (some 73))), some (.inl x0), some (.inl (f_117 x0 s)), some (.inl (f_117 (f_120 x0 s) s)), none, some (.inl (f_117 q4 s))]) (st' := [.inr (.inr (some 46)), .inr (.inr (some 46)), .inl (f_117 q4 s)]) (h1 := hp L s c e) rfl ?_
        refine RuP.step (pc' := 285) (ls' := [some (.inr (.inr (some 73))), some (.inl x0), some (.inl (f_117 x0 s)), some (.inl (f_117 (f_120 x0 s) s)), none, some (.inl (f_117 q4 s))]) (st' := [.inl x0, .inr (.inr (some 46)), .inr (.inr (some 46)), .inl (f_117 q4 s)]) (h1 := hp L s c e) rfl ?_
        refine RuP.step (pc' := 286) (ls' := [some (.inr (.inr (some 73))), some (.inl x0), some (.inl (f_117 x0 s)), some (.inl (f_117 (f_120 x0 s) s)), none, some (.inl (f_117 q4 s))]) (st' := [.inl 2, .inl x0, .inr (.inr (some 46)), .inr (.inr (some 46)), .inl (f_117 q4 s)]) (h1 := hp L s c e) rfl ?_
        obtain ⟨q5, h1, h⟩ := bd_some h
        refine RuP.cI rfl ((ev_119 h1).up (by decide)) ?_
        obtain ⟨b26, h⟩ := gd_some h
        refine RuP.cI rfl (EvP.i ((ev_117 q5 b26).up (by decide))) ?_
        by_cases h27 : ¬ (f_117 q4 s) = f_117 q5 s
        · rw [if_pos h27] at h
          refine RuP.jy rfl h27 ?_
          refine RuP.step (pc' := 301) (ls' := [some (.inr (.inr (some 73))), some (.inl x0), some (.inl (f_117 x0 s)), some (.inl (f_117 (f_120 x0 s) s)), none, some (.inl (f_117 q4 s))]) (st' := [.inl 0]) (h1 := hp L s c e) rfl ?_
          cases h
          exact RuP.dI rfl
        · rw [if_neg h27] at h
          refine RuP.jn rfl h27 ?_
          refine RuP.step (pc' := 297) (ls' := [some (.inr (.inr (some 73))), some (.inl x0), some (.inl (f_117 x0 s)), some (.inl (f_117 (f_120 x0 s) s)), none, some (.inl (f_117 q4 s))]) (st' := [.inl (f_117 q4 s)]) (h1 := hp L s c e) rfl ?_
          refine RuP.step (pc' := 301) (ls' := [some (.inr (.inr (some 73))), some (.inl x0), some (.inl (f_117 x0 s)), some (.inl (f_117 (f_120 x0 s) s)), none, some (.inl (f_117 q4 s))]) (st' := [.inl (f_117 q4 s)]) (h1 := hp L s c e) rfl ?_
          cases h
          exact RuP.dI rfl
    exact RuP.sw (i := .tableswitch (269) (0) (21) #[103, 105, 133, 171, 177, 177, 188, 194, 216, 216, 269, 269, 269, 216, 216, 269, 269, 269, 269, 269, 269, 218]) rfl h23 rfl J24
  rw [if_neg h23] at h
  refine RuP.swd (i := .tableswitch (269) (0) (21) #[103, 105, 133, 171, 177, 177, 188, 194, 216, 216, 269, 269, 269, 216, 216, 269, 269, 269, 269, 269, 269, 218]) (pc' := 302) rfl (sw_td [0, 1, 2, 3, 4, 5, 6, 7, 8, 9, 13, 14, 21] (by intro k hk; simp only [List.mem_cons, List.not_mem_nil, or_false] at hk; omega) (by decide) (by decide)) ?_
  refine RuP.step (pc' := 303) (ls' := [some (.inr (.inr (some 73))), some (.inl x0), some (.inl (f_117 x0 s)), some (.inl (f_117 (f_120 x0 s) s)), none, none]) (st' := [.inr (.inr (some 73))]) (h1 := hp L s c e) rfl ?_
  refine RuP.step (pc' := 304) (ls' := [some (.inr (.inr (some 73))), some (.inl x0), some (.inl (f_117 x0 s)), some (.inl (f_117 (f_120 x0 s) s)), none, none]) (st' := [.inl x0, .inr (.inr (some 73))]) (h1 := hp L s c e) rfl ?_
  obtain ⟨q6, h1, h⟩ := bd_some h
  refine RuP.cI rfl ((ev_31 h1).up (by decide)) ?_
  cases h
  exact RuP.dI rfl
/-- MachineText$Checker.isTargetRight(I)Z -/
noncomputable def j_24_56 (l1 l2 : Int) (s : Sg) : Option Int :=
  (gd (g_40 l1 s) (
  (gd (g_117 (f_40 l1 s) s) (
  (if f_117 (f_40 l1 s) s = 0 then
    some 1
  else
    (gd (g_183 l2 s) (
    (if ¬ (f_117 (f_40 l1 s) s) = f_183 l2 s then
      some 0
    else
      some 1))))))))
theorem bl_24_56 {L c : Nat} {e : Nat → Nat} : ∀ (d4 : Option ax_V) (z3 : Int) (l1 l2 : Int) (s : Sg) (q : Int), j_24_56 l1 l2 s = some q → RuP 3 tb_m24 56 [some (.inr (.inr (some 73))), some (.inl l1), some (.inl l2), some (.inl z3), d4] [] (hp L s c e) (oI L c e (q, s)) := by
  intro d4 z3 l1 l2 s q h
  unfold j_24_56 at h
  refine RuP.step (pc' := 57) (ls' := [some (.inr (.inr (some 73))), some (.inl l1), some (.inl l2), some (.inl z3), d4]) (st' := [.inr (.inr (some 73))]) (h1 := hp L s c e) rfl ?_
  refine RuP.step (pc' := 60) (ls' := [some (.inr (.inr (some 73))), some (.inl l1), some (.inl l2), some (.inl z3), d4]) (st' := [.inr (.inr (some 46))]) (h1 := hp L s c e) rfl ?_
  refine RuP.step (pc' := 61) (ls' := [some (.inr (.inr (some 73))), some (.inl l1), some (.inl l2), some (.inl z3), d4]) (st' := [.inr (.inr (some 73)), .inr (.inr (some 46))]) (h1 := hp L s c e) rfl ?_
  refine RuP.step (pc' := 64) (ls' := [some (.inr (.inr (some 73))), some (.inl l1), some (.inl l2), some (.inl z3), d4]) (st' := [.inr (.inr (some 61)), .inr (.inr (some 46))]) (h1 := hp L s c e) rfl ?_
  refine RuP.step (pc' := 65) (ls' := [some (.inr (.inr (some 73))), some (.inl l1), some (.inl l2), some (.inl z3), d4]) (st' := [.inl l1, .inr (.inr (some 61)), .inr (.inr (some 46))]) (h1 := hp L s c e) rfl ?_
  obtain ⟨b0, h⟩ := gd_some h
  refine RuP.cI rfl (EvP.i ((ev_40 l1 b0).up (by decide))) ?_
  obtain ⟨b1, h⟩ := gd_some h
  refine RuP.cI rfl (EvP.i ((ev_117 (f_40 l1 s) b1).up (by decide))) ?_
  refine RuP.step (pc' := 73) (ls' := [some (.inr (.inr (some 73))), some (.inl l1), some (.inl l2), some (.inl z3), some (.inl (f_117 (f_40 l1 s) s))]) (st' := []) (h1 := hp L s c e) rfl ?_
  refine RuP.step (pc' := 75) (ls' := [some (.inr (.inr (some 73))), some (.inl l1), some (.inl l2), some (.inl z3), some (.inl (f_117 (f_40 l1 s) s))]) (st' := [.inl (f_117 (f_40 l1 s) s)]) (h1 := hp L s c e) rfl ?_
  by_cases h2 : f_117 (f_40 l1 s) s = 0
  · rw [if_pos h2] at h
    refine RuP.jy rfl h2 ?_
    refine RuP.step (pc' := 92) (ls' := [some (.inr (.inr (some 73))), some (.inl l1), some (.inl l2), some (.inl z3), some (.inl (f_117 (f_40 l1 s) s))]) (st' := [.inl 1]) (h1 := hp L s c e) rfl ?_
    refine RuP.step (pc' := 96) (ls' := [some (.inr (.inr (some 73))), some (.inl l1), some (.inl l2), some (.inl z3), some (.inl (f_117 (f_40 l1 s) s))]) (st' := [.inl 1]) (h1 := hp L s c e) rfl ?_
    cases h
    exact RuP.dI rfl
  · rw [if_neg h2] at h
    refine RuP.jn rfl h2 ?_
    refine RuP.step (pc' := 80) (ls' := [some (.inr (.inr (some 73))), some (.inl l1), some (.inl l2), some (.inl z3), some (.inl (f_117 (f_40 l1 s) s))]) (st' := [.inl (f_117 (f_40 l1 s) s)]) (h1 := hp L s c e) rfl ?_
    refine RuP.step (pc' := 81) (ls' := [some (.inr (.inr (some 73))), some (.inl l1), some (.inl l2), some (.inl z3), some (.inl (f_117 (f_40 l1 s) s))]) (st' := [.inr (.inr (some 73)), .inl (f_117 (f_40 l1 s) s)]) (h1 := hp L s c e) rfl ?_
    refine RuP.step (pc' := 84) (ls' := [some (.inr (.inr (some 73))), some (.inl l1), some (.inl l2), some (.inl z3), some (.inl (f_117 (f_40 l1 s) s))]) (st' := [.inr (.inr (some 54)), .inl (f_117 (f_40 l1 s) s)]) (h1 := hp L s c e) rfl ?_
    refine RuP.step (pc' := 85) (ls' := [some (.inr (.inr (some 73))), some (.inl l1), some (.inl l2), some (.inl z3), some (.inl (f_117 (f_40 l1 s) s))]) (st' := [.inl l2, .inr (.inr (some 54)), .inl (f_117 (f_40 l1 s) s)]) (h1 := hp L s c e) rfl ?_
    obtain ⟨b3, h⟩ := gd_some h
    refine RuP.cI rfl (EvP.i ((ev_183 l2 b3).up (by decide))) ?_
    by_cases h4 : ¬ (f_117 (f_40 l1 s) s) = f_183 l2 s
    · rw [if_pos h4] at h
      refine RuP.jy rfl h4 ?_
      refine RuP.step (pc' := 96) (ls' := [some (.inr (.inr (some 73))), some (.inl l1), some (.inl l2), some (.inl z3), some (.inl (f_117 (f_40 l1 s) s))]) (st' := [.inl 0]) (h1 := hp L s c e) rfl ?_
      cases h
      exact RuP.dI rfl
    · rw [if_neg h4] at h
      refine RuP.jn rfl h4 ?_
      refine RuP.step (pc' := 92) (ls' := [some (.inr (.inr (some 73))), some (.inl l1), some (.inl l2), some (.inl z3), some (.inl (f_117 (f_40 l1 s) s))]) (st' := [.inl 1]) (h1 := hp L s c e) rfl ?_
      refine RuP.step (pc' := 96) (ls' := [some (.inr (.inr (some 73))), some (.inl l1), some (.inl l2), some (.inl z3), some (.inl (f_117 (f_40 l1 s) s))]) (st' := [.inl 1]) (h1 := hp L s c e) rfl ?_
      cases h
      exact RuP.dI rfl
noncomputable def f_24 (x0 : Int) (s : Sg) : Option Int :=
  (gd (g_35 x0 s) (
  (gd (g_26 (f_35 x0 s) s) (
  (gd (g_36 x0 s) (
  (if f_36 x0 s = (-1) then
    j_24_56 x0 (f_26 (f_35 x0 s) s) s
  else
    (gd (g_117 (f_36 x0 s) s) (
    (if ¬ (f_117 (f_36 x0 s) s) = 0 then
      ((f_28 (f_26 (f_35 x0 s) s) s).bind fun q1 =>
      (if f_117 (f_36 x0 s) s = q1 then
        j_24_56 x0 (f_26 (f_35 x0 s) s) s
      else
        some 0))
    else
      some 1))))))))))
theorem ev_24 {L c : Nat} {e : Nat → Nat} {s : Sg} {x0 : Int} {q : Int} (h : f_24 x0 s = some q) : EvP 4 24 [.inr (.inr (some 73)), .inl x0] (hp L s c e) (oI L c e (q, s)) := by
  unfold f_24 at h
  refine EvP.of (μ := tb_m24) (ls := [some (.inr (.inr (some 73))), some (.inl x0), none, none, none]) rfl (Nat.le_of_ble_eq_true rfl) rfl ?_
  refine RuP.step (pc' := 1) (ls' := [some (.inr (.inr (some 73))), some (.inl x0), none, none, none]) (st' := [.inr (.inr (some 73))]) (h1 := hp L s c e) rfl ?_
  refine RuP.step (pc' := 2) (ls' := [some (.inr (.inr (some 73))), some (.inl x0), none, none, none]) (st' := [.inr (.inr (some 73)), .inr (.inr (some 73))]) (h1 := hp L s c e) rfl ?_
  refine RuP.step (pc' := 5) (ls' := [some (.inr (.inr (some 73))), some (.inl x0), none, none, none]) (st' := [.inr (.inr (some 61)), .inr (.inr (some 73))]) (h1 := hp L s c e) rfl ?_
  refine RuP.step (pc' := 6) (ls' := [some (.inr (.inr (some 73))), some (.inl x0), none, none, none]) (st' := [.inl x0, .inr (.inr (some 61)), .inr (.inr (some 73))]) (h1 := hp L s c e) rfl ?_
  obtain ⟨b0, h⟩ := gd_some h
  refine RuP.cI rfl (EvP.i ((ev_35 x0 b0).up (by decide))) ?_
  obtain ⟨b1, h⟩ := gd_some h
  refine RuP.cI rfl (EvP.i ((ev_26 (f_35 x0 s) b1).up (by decide))) ?_
  refine RuP.step (pc' := 13) (ls' := [some (.inr (.inr (some 73))), some (.inl x0), some (.inl (f_26 (f_35 x0 s) s)), none, none]) (st' := []) (h1 := hp L s c e) rfl ?_
  refine RuP.step (pc' := 14) (ls' := [some (.inr (.inr (some 73))), some (.inl x0), some (.inl (f_26 (f_35 x0 s) s)), none, none]) (st' := [.inr (.inr (some 73))]) (h1 := hp L s c e) rfl ?_
  refine RuP.step (pc' := 17) (ls' := [some (.inr (.inr (some 73))), some (.inl x0), some (.inl (f_26 (f_35 x0 s) s)), none, none]) (st' := [.inr (.inr (some 61))]) (h1 := hp L s c e) rfl ?_
  refine RuP.step (pc' := 18) (ls' := [some (.inr (.inr (some 73))), some (.inl x0), some (.inl (f_26 (f_35 x0 s) s)), none, none]) (st' := [.inl x0, .inr (.inr (some 61))]) (h1 := hp L s c e) rfl ?_
  obtain ⟨b2, h⟩ := gd_some h
  refine RuP.cI rfl (EvP.i ((ev_36 x0 b2).up (by decide))) ?_
  refine RuP.step (pc' := 22) (ls' := [some (.inr (.inr (some 73))), some (.inl x0), some (.inl (f_26 (f_35 x0 s) s)), some (.inl (f_36 x0 s)), none]) (st' := []) (h1 := hp L s c e) rfl ?_
  refine RuP.step (pc' := 23) (ls' := [some (.inr (.inr (some 73))), some (.inl x0), some (.inl (f_26 (f_35 x0 s) s)), some (.inl (f_36 x0 s)), none]) (st' := [.inl (f_36 x0 s)]) (h1 := hp L s c e) rfl ?_
  refine RuP.step (pc' := 24) (ls' := [some (.inr (.inr (some 73))), some (.inl x0), some (.inl (f_26 (f_35 x0 s) s)), some (.inl (f_36 x0 s)), none]) (st' := [.inl (-1), .inl (f_36 x0 s)]) (h1 := hp L s c e) rfl ?_
  by_cases h3 : f_36 x0 s = (-1)
  · rw [if_pos h3] at h
    refine RuP.jy rfl h3 ?_
    exact bl_24_56 _ _ _ _ _ _ h
  · rw [if_neg h3] at h
    refine RuP.jn rfl h3 ?_
    refine RuP.step (pc' := 28) (ls' := [some (.inr (.inr (some 73))), some (.inl x0), some (.inl (f_26 (f_35 x0 s) s)), some (.inl (f_36 x0 s)), none]) (st' := [.inr (.inr (some 73))]) (h1 := hp L s c e) rfl ?_
    refine RuP.step (pc' := 31) (ls' := [some (.inr (.inr (some 73))), some (.inl x0), some (.inl (f_26 (f_35 x0 s) s)), some (.inl (f_36 x0 s)), none]) (st' := [.inr (.inr (some 46))]) (h1 := hp L s c e) rfl ?_
    refine RuP.step (pc' := 32) (ls' := [some (.inr (.inr (some 73))), some (.inl x0), some (.inl (f_26 (f_35 x0 s) s)), some (.inl (f_36 x0 s)), none]) (st' := [.inl (f_36 x0 s), .inr (.inr (some 46))]) (h1 := hp L s c e) rfl ?_
    obtain ⟨b4, h⟩ := gd_some h
    refine RuP.cI rfl (EvP.i ((ev_117 (f_36 x0 s) b4).up (by decide))) ?_
    refine RuP.step (pc' := 37) (ls' := [some (.inr (.inr (some 73))), some (.inl x0), some (.inl (f_26 (f_35 x0 s) s)), some (.inl (f_36 x0 s)), some (.inl (f_117 (f_36 x0 s) s))]) (st' := []) (h1 := hp L s c e) rfl ?_
    refine RuP.step (pc' := 39) (ls' := [some (.inr (.inr (some 73))), some (.inl x0), some (.inl (f_26 (f_35 x0 s) s)), some (.inl (f_36 x0 s)), some (.inl (f_117 (f_36 x0 s) s))]) (st' := [.inl (f_117 (f_36 x0 s) s)]) (h1 := hp L s c e) rfl ?_
    by_cases h5 : ¬ (f_117 (f_36 x0 s) s) = 0
    · rw [if_pos h5] at h
      refine RuP.jy rfl h5 ?_
      refine RuP.step (pc' := 46) (ls' := [some (.inr (.inr (some 73))), some (.inl x0), some (.inl (f_26 (f_35 x0 s) s)), some (.inl (f_36 x0 s)), some (.inl (f_117 (f_36 x0 s) s))]) (st' := [.inl (f_117 (f_36 x0 s) s)]) (h1 := hp L s c e) rfl ?_
      refine RuP.step (pc' := 47) (ls' := [some (.inr (.inr (some 73))), some (.inl x0), some (.inl (f_26 (f_35 x0 s) s)), some (.inl (f_36 x0 s)), some (.inl (f_117 (f_36 x0 s) s))]) (st' := [.inr (.inr (some 73)), .inl (f_117 (f_36 x0 s) s)]) (h1 := hp L s c e) rfl ?_
      refine RuP.step (pc' := 48) (ls' := [some (.inr (.inr (some 73))), some (.inl x0), some (.inl (f_26 (f_35 x0 s) s)), some (.inl (f_36 x0 s)), some (.inl (f_117 (f_36 x0 s) s))]) (st' := [.inl (f_26 (f_35 x0 s) s), .inr (.inr (some 73)), .inl (f_117 (f_36 x0 s) s)]) (h1 := hp L s c e) rfl ?_
      obtain ⟨q1, h1, h⟩ := bd_some h
      refine RuP.cI rfl ((ev_28 h1).up (by decide)) ?_
      by_cases h6 : f_117 (f_36 x0 s) s = q1
      · rw [if_pos h6] at h
        refine RuP.jy rfl h6 ?_
        exact bl_24_56 _ _ _ _ _ _ h
      · rw [if_neg h6] at h
        refine RuP.jn rfl h6 ?_
        refine RuP.step (pc' := 55) (ls' := [some (.inr (.inr (some 73))), some (.inl x0), some (.inl (f_26 (f_35 x0 s) s)), some (.inl (f_36 x0 s)), some (.inl (f_117 (f_36 x0 s) s))]) (st' := [.inl 0]) (h1 := hp L s c e) rfl ?_
        cases h
        exact RuP.dI rfl
    · rw [if_neg h5] at h
      refine RuP.jn rfl h5 ?_
      refine RuP.step (pc' := 43) (ls' := [some (.inr (.inr (some 73))), some (.inl x0), some (.inl (f_26 (f_35 x0 s) s)), some (.inl (f_36 x0 s)), some (.inl (f_117 (f_36 x0 s) s))]) (st' := [.inl 1]) (h1 := hp L s c e) rfl ?_
      cases h
      exact RuP.dI rfl
/-- MachineText$Expressions.expression(I)V -/
noncomputable def j_45_228 (ex : Int → Sg → Option (Sum Sg (Nat × Sg))) (l1 : Int) (s : Sg) : Option (Sum (Sg) (Nat × Sg)) :=
  (if ¬ (s 39 11) = 63 then
    some (.inl s)
  else
    (xb (f_60 ex l1 s) fun q1 =>
    some (.inl q1)))
theorem bl_45_228 {L c : Nat} {e : Nat → Nat} {m : Nat} {ex : Int → Sg → Option (Sum Sg (Nat × Sg))} (hm : 20 ≤ m) (hex : ∀ d s q, ex d s = some q → EvP m 45 [.inr (.inr (some 66)), .inl d] (hp L s c e) (oX L c (oV L c e) q)) : ∀ (d5 d6 d7 : Option ax_V) (z2 z3 z4 : Int) (l1 : Int) (s : Sg) (q : Sum (Sg) (Nat × Sg)), j_45_228 ex l1 s = some q → RuP (m + 1) tb_m45 228 [some (.inr (.inr (some 66))), some (.inl l1), some (.inl z2), some (.inl z3), some (.inl z4), d5, d6, d7] [] (hp L s c e) (oX L c (oV L c e) q) := by
  intro d5 d6 d7 z2 z3 z4 l1 s q h
  unfold j_45_228 at h
  refine RuP.step (pc' := 229) (ls' := [some (.inr (.inr (some 66))), some (.inl l1), some (.inl z2), some (.inl z3), some (.inl z4), d5, d6, d7]) (st' := [.inr (.inr (some 66))]) (h1 := hp L s c e) rfl ?_
  refine RuP.step (pc' := 232) (ls' := [some (.inr (.inr (some 66))), some (.inl l1), some (.inl z2), some (.inl z3), some (.inl z4), d5, d6, d7]) (st' := [.inr (.inr (some 39))]) (h1 := hp L s c e) rfl ?_
  refine RuP.step (pc' := 235) (ls' := [some (.inr (.inr (some 66))), some (.inl l1), some (.inl z2), some (.inl z3), some (.inl z4), d5, d6, d7]) (st' := [.inl (s 39 11)]) (h1 := hp L s c e) rfl ?_
  refine RuP.step (pc' := 237) (ls' := [some (.inr (.inr (some 66))), some (.inl l1), some (.inl z2), some (.inl z3), some (.inl z4), d5, d6, d7]) (st' := [.inl 63, .inl (s 39 11)]) (h1 := hp L s c e) rfl ?_
  by_cases h0 : ¬ (s 39 11) = 63
  · rw [if_pos h0] at h
    refine RuP.jy rfl h0 ?_
    cases h
    exact RuP.dV rfl
  · rw [if_neg h0] at h
    refine RuP.jn rfl h0 ?_
    refine RuP.step (pc' := 241) (ls' := [some (.inr (.inr (some 66))), some (.inl l1), some (.inl z2), some (.inl z3), some (.inl z4), d5, d6, d7]) (st' := [.inr (.inr (some 66))]) (h1 := hp L s c e) rfl ?_
    refine RuP.step (pc' := 242) (ls' := [some (.inr (.inr (some 66))), some (.inl l1), some (.inl z2), some (.inl z3), some (.inl z4), d5, d6, d7]) (st' := [.inl l1, .inr (.inr (some 66))]) (h1 := hp L s c e) rfl ?_
    rcases xb_some h with ⟨q1, h1, h⟩ | ⟨xx1, h1, h2⟩
    rotate_left
    · subst h2
      exact RuP.pass rfl rfl ((ev_60 hm hex h1).up (by omega))
    refine RuP.cV rfl ((ev_60 hm hex h1).up (by omega)) ?_
    cases h
    exact RuP.dV rfl
noncomputable def j_45_222 (ex : Int → Sg → Option (Sum Sg (Nat × Sg))) (k26 : (Int → Int → Int → Int → Sg → Option (Sum (Sg) (Nat × Sg)))) (l1 l2 l3 l4 : Int) (s : Sg) : Option (Sum (Sg) (Nat × Sg)) :=
  k26 l1 l2 l3 (ax_w32 (l4 + 1)) s
theorem bl_45_222 {L c : Nat} {e : Nat → Nat} {m : Nat} {ex : Int → Sg → Option (Sum Sg (Nat × Sg))} (hm : 20 ≤ m) (hex : ∀ d s q, ex d s = some q → EvP m 45 [.inr (.inr (some 66)), .inl d] (hp L s c e) (oX L c (oV L c e) q)) {k26 : (Int → Int → Int → Int → Sg → Option (Sum (Sg) (Nat × Sg)))} (hk26 : ∀ (d5 d6 d7 : Option ax_V) (l1 l2 l3 l4 : Int) (s : Sg) (q : Sum (Sg) (Nat × Sg)), k26 l1 l2 l3 l4 s = some q → RuP (m + 1) tb_m45 26 [some (.inr (.inr (some 66))), some (.inl l1), some (.inl l2), some (.inl l3), some (.inl l4), d5, d6, d7] [] (hp L s c e) (oX L c (oV L c e) q)) : ∀ (z5 z6 z7 : Int) (l1 l2 l3 l4 : Int) (s : Sg) (q : Sum (Sg) (Nat × Sg)), j_45_222 ex k26 l1 l2 l3 l4 s = some q → RuP (m + 1) tb_m45 222 [some (.inr (.inr (some 66))), some (.inl l1), some (.inl l2), some (.inl l3), some (.inl l4), some (.inl z5), some (.inl z6), some (.inl z7)] [] (hp L s c e) (oX L c (oV L c e) q) := by
  intro z5 z6 z7 l1 l2 l3 l4 s q h
  unfold j_45_222 at h
  refine RuP.step (pc' := 225) (ls' := [some (.inr (.inr (some 66))), some (.inl l1), some (.inl l2), some (.inl l3), some (.inl (ax_w32 (l4 + 1))), some (.inl z5), some (.inl z6), some (.inl z7)]) (st' := []) (h1 := hp L s c e) rfl ?_
  refine RuP.step (pc' := 26) (ls' := [some (.inr (.inr (some 66))), some (.inl l1), some (.inl l2), some (.inl l3), some (.inl (ax_w32 (l4 + 1))), some (.inl z5), some (.inl z6), some (.inl z7)]) (st' := []) (h1 := hp L s c e) rfl ?_
  exact hk26 _ _ _ _ _ _ _ _ _ h
noncomputable def j_45_197 (ex : Int → Sg → Option (Sum Sg (Nat × Sg))) (k26 : (Int → Int → Int → Int → Sg → Option (Sum (Sg) (Nat × Sg)))) (l1 l2 l4 l7 t0 t1 : Int) (s : Sg) : Option (Sum (Sg) (Nat × Sg)) :=
  ((f_58 t1 t0 s).bind fun q8 =>
  (if ((if l7 = (-1) then 0 else 1) : Int) = 0 then
    j_45_222 ex k26 l1 l2 ((if l7 = (-1) then 0 else 1) : Int) l4 q8
  else
    ((f_59 l7 q8).bind fun q9 =>
    j_45_222 ex k26 l1 l2 ((if l7 = (-1) then 0 else 1) : Int) l4 q9)))
theorem bl_45_197 {L c : Nat} {e : Nat → Nat} {m : Nat} {ex : Int → Sg → Option (Sum Sg (Nat × Sg))} (hm : 20 ≤ m) (hex : ∀ d s q, ex d s = some q → EvP m 45 [.inr (.inr (some 66)), .inl d] (hp L s c e) (oX L c (oV L c e) q)) {k26 : (Int → Int → Int → Int → Sg → Option (Sum (Sg) (Nat × Sg)))} (hk26 : ∀ (d5 d6 d7 : Option ax_V) (l1 l2 l3 l4 : Int) (s : Sg) (q : Sum (Sg) (Nat × Sg)), k26 l1 l2 l3 l4 s = some q → RuP (m + 1) tb_m45 26 [some (.inr (.inr (some 66))), some (.inl l1), some (.inl l2), some (.inl l3), some (.inl l4), d5, d6, d7] [] (hp L s c e) (oX L c (oV L c e) q)) : ∀ (z3 z5 z6 : Int) (l1 l2 l4 l7 t0 t1 : Int) (s : Sg) (q : Sum (Sg) (Nat × Sg)), j_45_197 ex k26 l1 l2 l4 l7 t0 t1 s = some q → RuP (m + 1) tb_m45 197 [some (.inr (.inr (some 66))), some (.inl l1), some (.inl l2), some (.inl z3), some (.inl l4), some (.inl z5), some (.inl z6), some (.inl l7)] [.inl t0, .inl t1, .inr (.inr (some 66))] (hp L s c e) (oX L c (oV L c e) q) := by
  intro z3 z5 z6 l1 l2 l4 l7 t0 t1 s q h
  unfold j_45_197 at h
  obtain ⟨q8, h1, h⟩ := bd_some h
  refine RuP.cV rfl ((ev_58 h1).up (by omega)) ?_
  refine RuP.step (pc' := 202) (ls' := [some (.inr (.inr (some 66))), some (.inl l1), some (.inl l2), some (.inl z3), some (.inl l4), some (.inl z5), some (.inl z6), some (.inl l7)]) (st' := [.inl l7]) (h1 := hp L q8 c e) rfl ?_
  refine RuP.step (pc' := 203) (ls' := [some (.inr (.inr (some 66))), some (.inl l1), some (.inl l2), some (.inl z3), some (.inl l4), some (.inl z5), some (.inl z6), some (.inl l7)]) (st' := [.inl (-1), .inl l7]) (h1 := hp L q8 c e) rfl ?_
  have J1 : ∀ v0_0 : Int, v0_0 = ((if l7 = (-1) then 0 else 1) : Int) → RuP (m + 1) tb_m45 211 [some (.inr (.inr (some 66))), some (.inl l1), some (.inl l2), some (.inl z3), some (.inl l4), some (.inl z5), some (.inl z6), some (.inl l7)] [.inl v0_0] (hp L q8 c e) (oX L c (oV L c e) q) := by
    intro v0_0 ev0_0
    subst ev0_0
    refine RuP.step (pc' := 212) (ls' := [some (.inr (.inr (some 66))), some (.inl l1), some (.inl l2), some (.inl ((if l7 = (-1) then 0 else 1) : Int)), some (.inl l4), some (.inl z5), some (.inl z6), some (.inl l7)]) (st' := []) (h1 := hp L q8 c e) rfl ?_
    refine RuP.step (pc' := 213) (ls' := [some (.inr (.inr (some 66))), some (.inl l1), some (.inl l2), some (.inl ((if l7 = (-1) then 0 else 1) : Int)), some (.inl l4), some (.inl z5), some (.inl z6), some (.inl l7)]) (st' := [.inl ((if l7 = (-1) then 0 else 1) : Int)]) (h1 := hp L q8 c e) rfl ?_
    by_cases h1 : ((if l7 = (-1) then 0 else 1) : Int) = 0
    · rw [if_pos h1] at h
      refine RuP.jy rfl h1 ?_
      exact bl_45_222 hm hex hk26 _ _ _ _ _ _ _ _ _ h
    · rw [if_neg h1] at h
      refine RuP.jn rfl h1 ?_
      refine RuP.step (pc' := 217) (ls' := [some (.inr (.inr (some 66))), some (.inl l1), some (.inl l2), some (.inl ((if l7 = (-1) then 0 else 1) : Int)), some (.inl l4), some (.inl z5), some (.inl z6), some (.inl l7)]) (st' := [.inr (.inr (some 66))]) (h1 := hp L q8 c e) rfl ?_
      refine RuP.step (pc' := 219) (ls' := [some (.inr (.inr (some 66))), some (.inl l1), some (.inl l2), some (.inl ((if l7 = (-1) then 0 else 1) : Int)), some (.inl l4), some (.inl z5), some (.inl z6), some (.inl l7)]) (st' := [.inl l7, .inr (.inr (some 66))]) (h1 := hp L q8 c e) rfl ?_
      obtain ⟨q9, h1, h⟩ := bd_some h
      refine RuP.cV rfl ((ev_59 h1).up (by omega)) ?_
      exact bl_45_222 hm hex hk26 _ _ _ _ _ _ _ _ _ h
  by_cases h2 : l7 = (-1)
  · refine RuP.jy rfl h2 ?_
    refine RuP.step (pc' := 211) (ls' := [some (.inr (.inr (some 66))), some (.inl l1), some (.inl l2), some (.inl z3), some (.inl l4), some (.inl z5), some (.inl z6), some (.inl l7)]) (st' := [.inl 0]) (h1 := hp L q8 c e) rfl ?_
    exact J1 _ (by simp only [if_pos h2])
  · refine RuP.jn rfl h2 ?_
    refine RuP.step (pc' := 207) (ls' := [some (.inr (.inr (some 66))), some (.inl l1), some (.inl l2), some (.inl z3), some (.inl l4), some (.inl z5), some (.inl z6), some (.inl l7)]) (st' := [.inl 1]) (h1 := hp L q8 c e) rfl ?_
    refine RuP.step (pc' := 211) (ls' := [some (.inr (.inr (some 66))), some (.inl l1), some (.inl l2), some (.inl z3), some (.inl l4), some (.inl z5), some (.inl z6), some (.inl l7)]) (st' := [.inl 1]) (h1 := hp L q8 c e) rfl ?_
    exact J1 _ (by simp only [if_neg h2])
noncomputable def j_45_163 (ex : Int → Sg → Option (Sum Sg (Nat × Sg))) (k26 : (Int → Int → Int → Int → Sg → Option (Sum (Sg) (Nat × Sg)))) (l1 l2 l4 l5 : Int) (s : Sg) : Option (Sum (Sg) (Nat × Sg)) :=
  ((f_54 l5 s).bind fun q5 =>
  (xb (f_55 q5) fun q6 =>
  ((f_56 l2 q6).bind fun q7 =>
  (if ¬ q7 = (-1) then
    (gd (g_57 q7 q6) (
    j_45_197 ex k26 l1 l2 l4 q7 (f_57 q7 q6) l2 q6))
  else
    j_45_197 ex k26 l1 l2 l4 q7 1 l2 q6))))
theorem bl_45_163 {L c : Nat} {e : Nat → Nat} {m : Nat} {ex : Int → Sg → Option (Sum Sg (Nat × Sg))} (hm : 20 ≤ m) (hex : ∀ d s q, ex d s = some q → EvP m 45 [.inr (.inr (some 66)), .inl d] (hp L s c e) (oX L c (oV L c e) q)) {k26 : (Int → Int → Int → Int → Sg → Option (Sum (Sg) (Nat × Sg)))} (hk26 : ∀ (d5 d6 d7 : Option ax_V) (l1 l2 l3 l4 : Int) (s : Sg) (q : Sum (Sg) (Nat × Sg)), k26 l1 l2 l3 l4 s = some q → RuP (m + 1) tb_m45 26 [some (.inr (.inr (some 66))), some (.inl l1), some (.inl l2), some (.inl l3), some (.inl l4), d5, d6, d7] [] (hp L s c e) (oX L c (oV L c e) q)) : ∀ (d7 : Option ax_V) (z3 z6 : Int) (l1 l2 l4 l5 : Int) (s : Sg) (q : Sum (Sg) (Nat × Sg)), j_45_163 ex k26 l1 l2 l4 l5 s = some q → RuP (m + 1) tb_m45 163 [some (.inr (.inr (some 66))), some (.inl l1), some (.inl l2), some (.inl z3), some (.inl l4), some (.inl l5), some (.inl z6), d7] [] (hp L s c e) (oX L c (oV L c e) q) := by
  intro d7 z3 z6 l1 l2 l4 l5 s q h
  unfold j_45_163 at h
  refine RuP.step (pc' := 164) (ls' := [some (.inr (.inr (some 66))), some (.inl l1), some (.inl l2), some (.inl z3), some (.inl l4), some (.inl l5), some (.inl z6), d7]) (st' := [.inr (.inr (some 66))]) (h1 := hp L s c e) rfl ?_
  refine RuP.step (pc' := 166) (ls' := [some (.inr (.inr (some 66))), some (.inl l1), some (.inl l2), some (.inl z3), some (.inl l4), some (.inl l5), some (.inl z6), d7]) (st' := [.inl l5, .inr (.inr (some 66))]) (h1 := hp L s c e) rfl ?_
  obtain ⟨q5, h1, h⟩ := bd_some h
  refine RuP.cV rfl ((ev_54 h1).up (by omega)) ?_
  refine RuP.step (pc' := 170) (ls' := [some (.inr (.inr (some 66))), some (.inl l1), some (.inl l2), some (.inl z3), some (.inl l4), some (.inl l5), some (.inl z6), d7]) (st' := [.inr (.inr (some 66))]) (h1 := hp L q5 c e) rfl ?_
  rcases xb_some h with ⟨q6, h1, h⟩ | ⟨xx1, h1, h2⟩
  rotate_left
  · subst h2
    exact RuP.pass rfl rfl ((ev_55 h1).up (by omega))
  refine RuP.cV rfl ((ev_55 h1).up (by omega)) ?_
  refine RuP.step (pc' := 174) (ls' := [some (.inr (.inr (some 66))), some (.inl l1), some (.inl l2), some (.inl z3), some (.inl l4), some (.inl l5), some (.inl z6), d7]) (st' := [.inr (.inr (some 66))]) (h1 := hp L q6 c e) rfl ?_
  refine RuP.step (pc' := 175) (ls' := [some (.inr (.inr (some 66))), some (.inl l1), some (.inl l2), some (.inl z3), some (.inl l4), some (.inl l5), some (.inl z6), d7]) (st' := [.inl l2, .inr (.inr (some 66))]) (h1 := hp L q6 c e) rfl ?_
  obtain ⟨q7, h1, h⟩ := bd_some h
  refine RuP.cI rfl ((ev_56 h1).up (by omega)) ?_
  refine RuP.step (pc' := 180) (ls' := [some (.inr (.inr (some 66))), some (.inl l1), some (.inl l2), some (.inl z3), some (.inl l4), some (.inl l5), some (.inl z6), some (.inl q7)]) (st' := []) (h1 := hp L q6 c e) rfl ?_
  refine RuP.step (pc' := 181) (ls' := [some (.inr (.inr (some 66))), some (.inl l1), some (.inl l2), some (.inl z3), some (.inl l4), some (.inl l5), some (.inl z6), some (.inl q7)]) (st' := [.inr (.inr (some 66))]) (h1 := hp L q6 c e) rfl ?_
  refine RuP.step (pc' := 182) (ls' := [some (.inr (.inr (some 66))), some (.inl l1), some (.inl l2), some (.inl z3), some (.inl l4), some (.inl l5), some (.inl z6), some (.inl q7)]) (st' := [.inl l2, .inr (.inr (some 66))]) (h1 := hp L q6 c e) rfl ?_
  refine RuP.step (pc' := 184) (ls' := [some (.inr (.inr (some 66))), some (.inl l1), some (.inl l2), some (.inl z3), some (.inl l4), some (.inl l5), some (.inl z6), some (.inl q7)]) (st' := [.inl q7, .inl l2, .inr (.inr (some 66))]) (h1 := hp L q6 c e) rfl ?_
  refine RuP.step (pc' := 185) (ls' := [some (.inr (.inr (some 66))), some (.inl l1), some (.inl l2), some (.inl z3), some (.inl l4), some (.inl l5), some (.inl z6), some (.inl q7)]) (st' := [.inl (-1), .inl q7, .inl l2, .inr (.inr (some 66))]) (h1 := hp L q6 c e) rfl ?_
  by_cases h0 : ¬ q7 = (-1)
  · rw [if_pos h0] at h
    refine RuP.jy rfl h0 ?_
    refine RuP.step (pc' := 194) (ls' := [some (.inr (.inr (some 66))), some (.inl l1), some (.inl l2), some (.inl z3), some (.inl l4), some (.inl l5), some (.inl z6), some (.inl q7)]) (st' := [.inl q7, .inl l2, .inr (.inr (some 66))]) (h1 := hp L q6 c e) rfl ?_
    obtain ⟨b1, h⟩ := gd_some h
    refine RuP.cI rfl (EvP.i ((ev_57 q7 b1).up (by omega))) ?_
    exact bl_45_197 hm hex hk26 _ _ _ _ _ _ _ _ _ _ _ h
  · rw [if_neg h0] at h
    refine RuP.jn rfl h0 ?_
    refine RuP.step (pc' := 189) (ls' := [some (.inr (.inr (some 66))), some (.inl l1), some (.inl l2), some (.inl z3), some (.inl l4), some (.inl l5), some (.inl z6), some (.inl q7)]) (st' := [.inl 1, .inl l2, .inr (.inr (some 66))]) (h1 := hp L q6 c e) rfl ?_
    refine RuP.step (pc' := 197) (ls' := [some (.inr (.inr (some 66))), some (.inl l1), some (.inl l2), some (.inl z3), some (.inl l4), some (.inl l5), some (.inl z6), some (.inl q7)]) (st' := [.inl 1, .inl l2, .inr (.inr (some 66))]) (h1 := hp L q6 c e) rfl ?_
    exact bl_45_197 hm hex hk26 _ _ _ _ _ _ _ _ _ _ _ h
noncomputable def j_45_26 (ex : Int → Sg → Option (Sum Sg (Nat × Sg))) : Nat → Int → Int → Int → Int → Sg → Option (Sum (Sg) (Nat × Sg))
  | 0, _, _, _, _, _ => none
  | F + 1, l1, l2, l3, l4, s =>
    (if l3 = 0 then
      j_45_228 ex l1 s
    else
      (if 8192 < l4 then
        j_45_228 ex l1 s
      else
        ((f_46 s).bind fun q2 =>
        (xb (f_47 q2) fun q3 =>
        (if q3.1 = 0 then
          (xb (f_48 q3.2) fun q4 =>
          j_45_163 ex (j_45_26 ex F) l1 l2 l4 (q2 39 10) q4)
        else
        (if q3.1 = 1 then
          (xb (f_49 q3.2) fun q10 =>
          j_45_163 ex (j_45_26 ex F) l1 l2 l4 (q2 39 10) q10)
        else
        (if q3.1 = 2 then
          (xb (f_50 ex l1 q3.2) fun q11 =>
          j_45_163 ex (j_45_26 ex F) l1 l2 l4 (q2 39 10) q11)
        else
        (if q3.1 = 4 ∨ q3.1 = 5 then
          (xb (f_51 ex l1 q3.1 q3.2) fun q12 =>
          j_45_163 ex (j_45_26 ex F) l1 l2 l4 (q2 39 10) q12)
        else
        (if q3.1 = 22 then
          (xb (f_52 ex l1 q3.2) fun q13 =>
          j_45_163 ex (j_45_26 ex F) l1 l2 l4 (q2 39 10) q13)
        else
          (xb (f_53 ex l1 q3.1 q3.2) fun q14 =>
          j_45_163 ex (j_45_26 ex F) l1 l2 l4 (q2 39 10) q14))))))))))
theorem bl_45_26 {L c : Nat} {e : Nat → Nat} {m : Nat} {ex : Int → Sg → Option (Sum Sg (Nat × Sg))} (hm : 20 ≤ m) (hex : ∀ d s q, ex d s = some q → EvP m 45 [.inr (.inr (some 66)), .inl d] (hp L s c e) (oX L c (oV L c e) q)) : ∀ (F : Nat) (d5 d6 d7 : Option ax_V) (l1 l2 l3 l4 : Int) (s : Sg) (q : Sum (Sg) (Nat × Sg)), j_45_26 ex F l1 l2 l3 l4 s = some q → RuP (m + 1) tb_m45 26 [some (.inr (.inr (some 66))), some (.inl l1), some (.inl l2), some (.inl l3), some (.inl l4), d5, d6, d7] [] (hp L s c e) (oX L c (oV L c e) q) := by
  intro F
  induction F with
  | zero =>
    intro d5 d6 d7 l1 l2 l3 l4 s q h
    rw [j_45_26] at h
    cases h
  | succ F ih =>
    intro d5 d6 d7 l1 l2 l3 l4 s q h
    rw [j_45_26] at h
    refine RuP.step (pc' := 27) (ls' := [some (.inr (.inr (some 66))), some (.inl l1), some (.inl l2), some (.inl l3), some (.inl l4), d5, d6, d7]) (st' := [.inl l3]) (h1 := hp L s c e) rfl ?_
    by_cases h0 : l3 = 0
    · rw [if_pos h0] at h
      refine RuP.jy rfl h0 ?_
      exact bl_45_228 hm hex _ _ _ _ _ _ _ _ _ h
    · rw [if_neg h0] at h
      refine RuP.jn rfl h0 ?_
      refine RuP.step (pc' := 32) (ls' := [some (.inr (.inr (some 66))), some (.inl l1), some (.inl l2), some (.inl l3), some (.inl l4), d5, d6, d7]) (st' := [.inl l4]) (h1 := hp L s c e) rfl ?_
      refine RuP.step (pc' := 35) (ls' := [some (.inr (.inr (some 66))), some (.inl l1), some (.inl l2), some (.inl l3), some (.inl l4), d5, d6, d7]) (st' := [.inl 8192, .inl l4]) (h1 := hp L s c e) rfl ?_
      by_cases h1 : 8192 < l4
      · rw [if_pos h1] at h
        refine RuP.jy rfl h1 ?_
        exact bl_45_228 hm hex _ _ _ _ _ _ _ _ _ h
      · rw [if_neg h1] at h
        refine RuP.jn rfl h1 ?_
        refine RuP.step (pc' := 39) (ls' := [some (.inr (.inr (some 66))), some (.inl l1), some (.inl l2), some (.inl l3), some (.inl l4), d5, d6, d7]) (st' := [.inr (.inr (some 66))]) (h1 := hp L s c e) rfl ?_
        obtain ⟨q2, h1, h⟩ := bd_some h
        refine RuP.cV rfl ((ev_46 h1).up (by omega)) ?_
        refine RuP.step (pc' := 43) (ls' := [some (.inr (.inr (some 66))), some (.inl l1), some (.inl l2), some (.inl l3), some (.inl l4), d5, d6, d7]) (st' := [.inr (.inr (some 66))]) (h1 := hp L q2 c e) rfl ?_
        refine RuP.step (pc' := 46) (ls' := [some (.inr (.inr (some 66))), some (.inl l1), some (.inl l2), some (.inl l3), some (.inl l4), d5, d6, d7]) (st' := [.inr (.inr (some 39))]) (h1 := hp L q2 c e) rfl ?_
        refine RuP.step (pc' := 49) (ls' := [some (.inr (.inr (some 66))), some (.inl l1), some (.inl l2), some (.inl l3), some (.inl l4), d5, d6, d7]) (st' := [.inl (q2 39 10)]) (h1 := hp L q2 c e) rfl ?_
        refine RuP.step (pc' := 51) (ls' := [some (.inr (.inr (some 66))), some (.inl l1), some (.inl l2), some (.inl l3), some (.inl l4), some (.inl (q2 39 10)), d6, d7]) (st' := []) (h1 := hp L q2 c e) rfl ?_
        refine RuP.step (pc' := 52) (ls' := [some (.inr (.inr (some 66))), some (.inl l1), some (.inl l2), some (.inl l3), some (.inl l4), some (.inl (q2 39 10)), d6, d7]) (st' := [.inr (.inr (some 66))]) (h1 := hp L q2 c e) rfl ?_
        rcases xb_some h with ⟨q3, h1, h⟩ | ⟨xx1, h1, h2⟩
        rotate_left
        · subst h2
          exact RuP.pass rfl rfl ((ev_47 h1).up (by omega))
        refine RuP.cI rfl ((ev_47 h1).up (by omega)) ?_
        refine RuP.step (pc' := 57) (ls' := [some (.inr (.inr (some 66))), some (.inl l1), some (.inl l2), some (.inl l3), some (.inl l4), some (.inl (q2 39 10)), some (.inl q3.1), d7]) (st' := []) (h1 := hp L q3.2 c e) rfl ?_
        refine RuP.step (pc' := 59) (ls' := [some (.inr (.inr (some 66))), some (.inl l1), some (.inl l2), some (.inl l3), some (.inl l4), some (.inl (q2 39 10)), some (.inl q3.1), d7]) (st' := [.inl q3.1]) (h1 := hp L q3.2 c e) rfl ?_
        by_cases h2 : q3.1 = 0
        · rw [if_pos h2] at h
          have J3 : RuP (m + 1) tb_m45 116 [some (.inr (.inr (some 66))), some (.inl l1), some (.inl l2), some (.inl l3), some (.inl l4), some (.inl (q2 39 10)), some (.inl q3.1), d7] [] (hp L q3.2 c e) (oX L c (oV L c e) q) := by
            refine RuP.step (pc' := 117) (ls' := [some (.inr (.inr (some 66))), some (.inl l1), some (.inl l2), some (.inl l3), some (.inl l4), some (.inl (q2 39 10)), some (.inl q3.1), d7]) (st' := [.inr (.inr (some 66))]) (h1 := hp L q3.2 c e) rfl ?_
            rcases xb_some h with ⟨q4, h1, h⟩ | ⟨xx1, h1, h2⟩
            rotate_left
            · subst h2
              exact RuP.pass rfl rfl ((ev_48 h1).up (by omega))
            refine RuP.cV rfl ((ev_48 h1).up (by omega)) ?_
            refine RuP.step (pc' := 163) (ls' := [some (.inr (.inr (some 66))), some (.inl l1), some (.inl l2), some (.inl l3), some (.inl l4), some (.inl (q2 39 10)), some (.inl q3.1), d7]) (st' := []) (h1 := hp L q4 c e) rfl ?_
            exact bl_45_163 hm hex ih _ _ _ _ _ _ _ _ _ h
          exact RuP.sw (i := .lookupswitch (97) #[((0), (57)), ((1), (64)), ((2), (71)), ((4), (79)), ((5), (79)), ((22), (89))]) rfl h2 rfl J3
        rw [if_neg h2] at h
        by_cases h3 : q3.1 = 1
        · rw [if_pos h3] at h
          have J4 : RuP (m + 1) tb_m45 123 [some (.inr (.inr (some 66))), some (.inl l1), some (.inl l2), some (.inl l3), some (.inl l4), some (.inl (q2 39 10)), some (.inl q3.1), d7] [] (hp L q3.2 c e) (oX L c (oV L c e) q) := by
            refine RuP.step (pc' := 124) (ls' := [some (.inr (.inr (some 66))), some (.inl l1), some (.inl l2), some (.inl l3), some (.inl l4), some (.inl (q2 39 10)), some (.inl q3.1), d7]) (st' := [.inr (.inr (some 66))]) (h1 := hp L q3.2 c e) rfl ?_
            rcases xb_some h with ⟨q10, h1, h⟩ | ⟨xx1, h1, h2⟩
            rotate_left
            · subst h2
              exact RuP.pass rfl rfl ((ev_49 h1).up (by omega))
            refine RuP.cV rfl ((ev_49 h1).up (by omega)) ?_
            refine RuP.step (pc' := 163) (ls' := [some (.inr (.inr (some 66))), some (.inl l1), some (.inl l2), some (.inl l3), some (.inl l4), some (.inl (q2 39 10)), some (.inl q3.1), d7]) (st' := []) (h1 := hp L q10 c e) rfl ?_
            exact bl_45_163 hm hex ih _ _ _ _ _ _ _ _ _ h
          exact RuP.sw (i := .lookupswitch (97) #[((0), (57)), ((1), (64)), ((2), (71)), ((4), (79)), ((5), (79)), ((22), (89))]) rfl h3 rfl J4
        rw [if_neg h3] at h
        by_cases h4 : q3.1 = 2
        · rw [if_pos h4] at h
          have J5 : RuP (m + 1) tb_m45 130 [some (.inr (.inr (some 66))), some (.inl l1), some (.inl l2), some (.inl l3), some (.inl l4), some (.inl (q2 39 10)), some (.inl q3.1), d7] [] (hp L q3.2 c e) (oX L c (oV L c e) q) := by
            refine RuP.step (pc' := 131) (ls' := [some (.inr (.inr (some 66))), some (.inl l1), some (.inl l2), some (.inl l3), some (.inl l4), some (.inl (q2 39 10)), some (.inl q3.1), d7]) (st' := [.inr (.inr (some 66))]) (h1 := hp L q3.2 c e) rfl ?_
            refine RuP.step (pc' := 132) (ls' := [some (.inr (.inr (some 66))), some (.inl l1), some (.inl l2), some (.inl l3), some (.inl l4), some (.inl (q2 39 10)), some (.inl q3.1), d7]) (st' := [.inl l1, .inr (.inr (some 66))]) (h1 := hp L q3.2 c e) rfl ?_
            rcases xb_some h with ⟨q11, h1, h⟩ | ⟨xx1, h1, h2⟩
            rotate_left
            · subst h2
              exact RuP.pass rfl rfl ((ev_50 hm hex h1).up (by omega))
            refine RuP.cV rfl ((ev_50 hm hex h1).up (by omega)) ?_
            refine RuP.step (pc' := 163) (ls' := [some (.inr (.inr (some 66))), some (.inl l1), some (.inl l2), some (.inl l3), some (.inl l4), some (.inl (q2 39 10)), some (.inl q3.1), d7]) (st' := []) (h1 := hp L q11 c e) rfl ?_
            exact bl_45_163 hm hex ih _ _ _ _ _ _ _ _ _ h
          exact RuP.sw (i := .lookupswitch (97) #[((0), (57)), ((1), (64)), ((2), (71)), ((4), (79)), ((5), (79)), ((22), (89))]) rfl h4 rfl J5
        rw [if_neg h4] at h
        by_cases h5 : q3.1 = 4 ∨ q3.1 = 5
        · rw [if_pos h5] at h
          have J6 : RuP (m + 1) tb_m45 138 [some (.inr (.inr (some 66))), some (.inl l1), some (.inl l2), some (.inl l3), some (.inl l4), some (.inl (q2 39 10)), some (.inl q3.1), d7] [] (hp L q3.2 c e) (oX L c (oV L c e) q) := by
            refine RuP.step (pc' := 139) (ls' := [some (.inr (.inr (some 66))), some (.inl l1), some (.inl l2), some (.inl l3), some (.inl l4), some (.inl (q2 39 10)), some (.inl q3.1), d7]) (st' := [.inr (.inr (some 66))]) (h1 := hp L q3.2 c e) rfl ?_
            refine RuP.step (pc' := 140) (ls' := [some (.inr (.inr (some 66))), some (.inl l1), some (.inl l2), some (.inl l3), some (.inl l4), some (.inl (q2 39 10)), some (.inl q3.1), d7]) (st' := [.inl l1, .inr (.inr (some 66))]) (h1 := hp L q3.2 c e) rfl ?_
            refine RuP.step (pc' := 142) (ls' := [some (.inr (.inr (some 66))), some (.inl l1), some (.inl l2), some (.inl l3), some (.inl l4), some (.inl (q2 39 10)), some (.inl q3.1), d7]) (st' := [.inl q3.1, .inl l1, .inr (.inr (some 66))]) (h1 := hp L q3.2 c e) rfl ?_
            rcases xb_some h with ⟨q12, h1, h⟩ | ⟨xx1, h1, h2⟩
            rotate_left
            · subst h2
              exact RuP.pass rfl rfl ((ev_51 hm hex h1).up (by omega))
            refine RuP.cV rfl ((ev_51 hm hex h1).up (by omega)) ?_
            refine RuP.step (pc' := 163) (ls' := [some (.inr (.inr (some 66))), some (.inl l1), some (.inl l2), some (.inl l3), some (.inl l4), some (.inl (q2 39 10)), some (.inl q3.1), d7]) (st' := []) (h1 := hp L q12 c e) rfl ?_
            exact bl_45_163 hm hex ih _ _ _ _ _ _ _ _ _ h
          rcases h5 with h5 | h5 <;> exact RuP.sw (i := .lookupswitch (97) #[((0), (57)), ((1), (64)), ((2), (71)), ((4), (79)), ((5), (79)), ((22), (89))]) rfl h5 rfl J6
        rw [if_neg h5] at h
        by_cases h6 : q3.1 = 22
        · rw [if_pos h6] at h
          have J7 : RuP (m + 1) tb_m45 148 [some (.inr (.inr (some 66))), some (.inl l1), some (.inl l2), some (.inl l3), some (.inl l4), some (.inl (q2 39 10)), some (.inl q3.1), d7] [] (hp L q3.2 c e) (oX L c (oV L c e) q) := by
            refine RuP.step (pc' := 149) (ls' := [some (.inr (.inr (some 66))), some (.inl l1), some (.inl l2), some (.inl l3), some (.inl l4), some (.inl (q2 39 10)), some (.inl q3.1), d7]) (st' := [.inr (.inr (some 66))]) (h1 := hp L q3.2 c e) rfl ?_
            refine RuP.step (pc' := 150) (ls' := [some (.inr (.inr (some 66))), some (.inl l1), some (.inl l2), some (.inl l3), some (.inl l4), some (.inl (q2 39 10)), some (.inl q3.1), d7]) (st' := [.inl l1, .inr (.inr (some 66))]) (h1 := hp L q3.2 c e) rfl ?_
            rcases xb_some h with ⟨q13, h1, h⟩ | ⟨xx1, h1, h2⟩
            rotate_left
            · subst h2
              exact RuP.pass rfl rfl ((ev_52 hm hex h1).up (by omega))
            refine RuP.cV rfl ((ev_52 hm hex h1).up (by omega)) ?_
            refine RuP.step (pc' := 163) (ls' := [some (.inr (.inr (some 66))), some (.inl l1), some (.inl l2), some (.inl l3), some (.inl l4), some (.inl (q2 39 10)), some (.inl q3.1), d7]) (st' := []) (h1 := hp L q13 c e) rfl ?_
            exact bl_45_163 hm hex ih _ _ _ _ _ _ _ _ _ h
          exact RuP.sw (i := .lookupswitch (97) #[((0), (57)), ((1), (64)), ((2), (71)), ((4), (79)), ((5), (79)), ((22), (89))]) rfl h6 rfl J7
        rw [if_neg h6] at h
        refine RuP.swd (i := .lookupswitch (97) #[((0), (57)), ((1), (64)), ((2), (71)), ((4), (79)), ((5), (79)), ((22), (89))]) (pc' := 156) rfl (sw_l (by simp only [List.mem_cons, List.not_mem_nil, or_false, forall_eq_or_imp, forall_eq]; omega)) ?_
        refine RuP.step (pc' := 157) (ls' := [some (.inr (.inr (some 66))), some (.inl l1), some (.inl l2), some (.inl l3), some (.inl l4), some (.inl (q2 39 10)), some (.inl q3.1), d7]) (st' := [.inr (.inr (some 66))]) (h1 := hp L q3.2 c e) rfl ?_
        refine RuP.step (pc' := 158) (ls' := [some (.inr (.inr (some 66))), some (.inl l1), some (.inl l2), some (.inl l3), some (.inl l4), some (.inl (q2 39 10)), some (.inl q3.1), d7]) (st' := [.inl l1, .inr (.inr (some 66))]) (h1 := hp L q3.2 c e) rfl ?_
        refine RuP.step (pc' := 160) (ls' := [some (.inr (.inr (some 66))), some (.inl l1), some (.inl l2), some (.inl l3), some (.inl l4), some (.inl (q2 39 10)), some (.inl q3.1), d7]) (st' := [.inl q3.1, .inl l1, .inr (.inr (some 66))]) (h1 := hp L q3.2 c e) rfl ?_
        rcases xb_some h with ⟨q14, h1, h⟩ | ⟨xx1, h1, h2⟩
        rotate_left
        · subst h2
          exact RuP.pass rfl rfl ((ev_53 hm hex h1).up (by omega))
        refine RuP.cV rfl ((ev_53 hm hex h1).up (by omega)) ?_
        exact bl_45_163 hm hex ih _ _ _ _ _ _ _ _ _ h
noncomputable def fb_45 (ex : Int → Sg → Option (Sum Sg (Nat × Sg))) (x0 : Int) (s : Sg) : Option (Sum (Sg) (Nat × Sg)) :=
  (if x0 < 80 then
    j_45_26 ex FU x0 (s 66 7) 1 0 s
  else
    some (.inr (14, s)))
theorem evb_45 {L c : Nat} {e : Nat → Nat} {m : Nat} {ex : Int → Sg → Option (Sum Sg (Nat × Sg))} (hm : 20 ≤ m) (hex : ∀ d s q, ex d s = some q → EvP m 45 [.inr (.inr (some 66)), .inl d] (hp L s c e) (oX L c (oV L c e) q)) {s : Sg} {x0 : Int} {q : Sum (Sg) (Nat × Sg)} (h : fb_45 ex x0 s = some q) : EvP (m + 2) 45 [.inr (.inr (some 66)), .inl x0] (hp L s c e) (oX L c (oV L c e) q) := by
  unfold fb_45 at h
  refine EvP.of (μ := tb_m45) (ls := [some (.inr (.inr (some 66))), some (.inl x0), none, none, none, none, none, none]) rfl (Nat.le_of_ble_eq_true rfl) rfl ?_
  refine RuP.step (pc' := 1) (ls' := [some (.inr (.inr (some 66))), some (.inl x0), none, none, none, none, none, none]) (st' := [.inl x0]) (h1 := hp L s c e) rfl ?_
  refine RuP.step (pc' := 3) (ls' := [some (.inr (.inr (some 66))), some (.inl x0), none, none, none, none, none, none]) (st' := [.inl 80, .inl x0]) (h1 := hp L s c e) rfl ?_
  by_cases h0 : x0 < 80
  · rw [if_pos h0] at h
    refine RuP.jy rfl h0 ?_
    refine RuP.step (pc' := 17) (ls' := [some (.inr (.inr (some 66))), some (.inl x0), none, none, none, none, none, none]) (st' := [.inr (.inr (some 66))]) (h1 := hp L s c e) rfl ?_
    refine RuP.step (pc' := 20) (ls' := [some (.inr (.inr (some 66))), some (.inl x0), none, none, none, none, none, none]) (st' := [.inl (s 66 7)]) (h1 := hp L s c e) rfl ?_
    refine RuP.step (pc' := 21) (ls' := [some (.inr (.inr (some 66))), some (.inl x0), some (.inl (s 66 7)), none, none, none, none, none]) (st' := []) (h1 := hp L s c e) rfl ?_
    refine RuP.step (pc' := 22) (ls' := [some (.inr (.inr (some 66))), some (.inl x0), some (.inl (s 66 7)), none, none, none, none, none]) (st' := [.inl 1]) (h1 := hp L s c e) rfl ?_
    refine RuP.step (pc' := 23) (ls' := [some (.inr (.inr (some 66))), some (.inl x0), some (.inl (s 66 7)), some (.inl 1), none, none, none, none]) (st' := []) (h1 := hp L s c e) rfl ?_
    refine RuP.step (pc' := 24) (ls' := [some (.inr (.inr (some 66))), some (.inl x0), some (.inl (s 66 7)), some (.inl 1), none, none, none, none]) (st' := [.inl 0]) (h1 := hp L s c e) rfl ?_
    refine RuP.step (pc' := 26) (ls' := [some (.inr (.inr (some 66))), some (.inl x0), some (.inl (s 66 7)), some (.inl 1), some (.inl 0), none, none, none]) (st' := []) (h1 := hp L s c e) rfl ?_
    exact bl_45_26 hm hex FU _ _ _ _ _ _ _ _ _ h
  · rw [if_neg h0] at h
    refine RuP.jn rfl h0 ?_
    cases h
    exact RuP.thr (m := 13) (p2 := 12) rfl (fun _ => rfl) (fun _ => rfl) (fun _ _ => rfl) (Nat.le_of_ble_eq_true rfl) rfl rfl
noncomputable def f_45 : Nat → Int → Sg → Option (Sum Sg (Nat × Sg))
  | 0, _, _ => none
  | r + 1, d, s => fb_45 (f_45 r) d s
theorem ev_45 {L c : Nat} {e : Nat → Nat} : ∀ (r : Nat) (d : Int) (s : Sg) (q : Sum Sg (Nat × Sg)), f_45 r d s = some q → EvP (20 + 2 * r) 45 [.inr (.inr (some 66)), .inl d] (hp L s c e) (oX L c (oV L c e) q) := by
  intro r
  induction r with
  | zero => intro d s q h; rw [f_45] at h; cases h
  | succ r ih =>
    intro d s q h
    rw [f_45] at h
    exact evb_45 (m := 20 + 2 * r) (by omega) ih h
/-- MachineText$Faults.clear()V -/
noncomputable def f_70 (s : Sg) : Option Sg :=
  ((f_301_30 (-1) s).bind fun q1 =>
  some q1)
theorem ev_70 {L c : Nat} {e : Nat → Nat} {s : Sg} {q : Sg} (h : f_70 s = some q) : EvP 2 70 [.inr (.inr (some 29))] (hp L s c e) (oV L c e q) := by
  unfold f_70 at h
  refine EvP.of (μ := tb_m70) (ls := [some (.inr (.inr (some 29)))]) rfl (Nat.le_of_ble_eq_true rfl) rfl ?_
  refine RuP.step (pc' := 1) (ls' := [some (.inr (.inr (some 29)))]) (st' := [.inr (.inr (some 29))]) (h1 := hp L s c e) rfl ?_
  refine RuP.step (pc' := 4) (ls' := [some (.inr (.inr (some 29)))]) (st' := [.inr (.inr (some 30))]) (h1 := hp L s c e) rfl ?_
  refine RuP.step (pc' := 5) (ls' := [some (.inr (.inr (some 29)))]) (st' := [.inl (-1), .inr (.inr (some 30))]) (h1 := hp L s c e) rfl ?_
  obtain ⟨q1, h1, h⟩ := bd_some h
  refine RuP.cV rfl ((ev_301_30 h1).up (by decide)) ?_
  cases h
  exact RuP.dV rfl
/-- MachineText$Lexemes.cutName(I)I -/
noncomputable def j_86_50 (l1 l2 : Int) (s : Sg) : Option (Int × Sg) :=
  ((f_104 s).bind fun q1 =>
  (if ax_w32 (l2 - l1) ≤ 16 then
    (gd (g_78 ((if q1.1 < 0 then 1 else (if 12 ≤ q1.1 then 1 else ax_w32 (16 + q1.1))) : Int) l1 l2 q1.1 q1.2) (
    ((some (f_78 ((if q1.1 < 0 then 1 else (if 12 ≤ q1.1 then 1 else ax_w32 (16 + q1.1))) : Int) l1 l2 q1.1 q1.2)).bind fun q2 =>
    some (l2, q2))))
  else
    some ((-1), q1.2)))
theorem bl_86_50 {L c : Nat} {e : Nat → Nat} : ∀ (d3 : Option ax_V) (l1 l2 : Int) (s : Sg) (q : Int × Sg), j_86_50 l1 l2 s = some q → RuP 3 tb_m86 50 [some (.inr (.inr (some 39))), some (.inl l1), some (.inl l2), d3] [] (hp L s c e) (oI L c e q) := by
  intro d3 l1 l2 s q h
  unfold j_86_50 at h
  refine RuP.step (pc' := 51) (ls' := [some (.inr (.inr (some 39))), some (.inl l1), some (.inl l2), d3]) (st' := [.inr (.inr (some 39))]) (h1 := hp L s c e) rfl ?_
  refine RuP.step (pc' := 54) (ls' := [some (.inr (.inr (some 39))), some (.inl l1), some (.inl l2), d3]) (st' := [.inr (.inr (some 31))]) (h1 := hp L s c e) rfl ?_
  obtain ⟨q1, h1, h⟩ := bd_some h
  refine RuP.cI rfl ((ev_104 h1).up (by decide)) ?_
  refine RuP.step (pc' := 58) (ls' := [some (.inr (.inr (some 39))), some (.inl l1), some (.inl l2), some (.inl q1.1)]) (st' := []) (h1 := hp L q1.2 c e) rfl ?_
  refine RuP.step (pc' := 59) (ls' := [some (.inr (.inr (some 39))), some (.inl l1), some (.inl l2), some (.inl q1.1)]) (st' := [.inl l2]) (h1 := hp L q1.2 c e) rfl ?_
  refine RuP.step (pc' := 60) (ls' := [some (.inr (.inr (some 39))), some (.inl l1), some (.inl l2), some (.inl q1.1)]) (st' := [.inl l1, .inl l2]) (h1 := hp L q1.2 c e) rfl ?_
  refine RuP.step (pc' := 61) (ls' := [some (.inr (.inr (some 39))), some (.inl l1), some (.inl l2), some (.inl q1.1)]) (st' := [.inl (ax_w32 (l2 - l1))]) (h1 := hp L q1.2 c e) rfl ?_
  refine RuP.step (pc' := 63) (ls' := [some (.inr (.inr (some 39))), some (.inl l1), some (.inl l2), some (.inl q1.1)]) (st' := [.inl 16, .inl (ax_w32 (l2 - l1))]) (h1 := hp L q1.2 c e) rfl ?_
  by_cases h0 : ax_w32 (l2 - l1) ≤ 16
  · rw [if_pos h0] at h
    refine RuP.jy rfl h0 ?_
    refine RuP.step (pc' := 69) (ls' := [some (.inr (.inr (some 39))), some (.inl l1), some (.inl l2), some (.inl q1.1)]) (st' := [.inr (.inr (some 39))]) (h1 := hp L q1.2 c e) rfl ?_
    refine RuP.step (pc' := 70) (ls' := [some (.inr (.inr (some 39))), some (.inl l1), some (.inl l2), some (.inl q1.1)]) (st' := [.inl q1.1, .inr (.inr (some 39))]) (h1 := hp L q1.2 c e) rfl ?_
    have J2 : ∀ v1_0 : Int, v1_0 = ((if q1.1 < 0 then 1 else (if 12 ≤ q1.1 then 1 else ax_w32 (16 + q1.1))) : Int) → RuP 3 tb_m86 87 [some (.inr (.inr (some 39))), some (.inl l1), some (.inl l2), some (.inl q1.1)] [.inl v1_0, .inr (.inr (some 39))] (hp L q1.2 c e) (oI L c e q) := by
      intro v1_0 ev1_0
      subst ev1_0
      refine RuP.step (pc' := 88) (ls' := [some (.inr (.inr (some 39))), some (.inl l1), some (.inl l2), some (.inl q1.1)]) (st' := [.inl l1, .inl ((if q1.1 < 0 then 1 else (if 12 ≤ q1.1 then 1 else ax_w32 (16 + q1.1))) : Int), .inr (.inr (some 39))]) (h1 := hp L q1.2 c e) rfl ?_
      refine RuP.step (pc' := 89) (ls' := [some (.inr (.inr (some 39))), some (.inl l1), some (.inl l2), some (.inl q1.1)]) (st' := [.inl l2, .inl l1, .inl ((if q1.1 < 0 then 1 else (if 12 ≤ q1.1 then 1 else ax_w32 (16 + q1.1))) : Int), .inr (.inr (some 39))]) (h1 := hp L q1.2 c e) rfl ?_
      refine RuP.step (pc' := 90) (ls' := [some (.inr (.inr (some 39))), some (.inl l1), some (.inl l2), some (.inl q1.1)]) (st' := [.inl q1.1, .inl l2, .inl l1, .inl ((if q1.1 < 0 then 1 else (if 12 ≤ q1.1 then 1 else ax_w32 (16 + q1.1))) : Int), .inr (.inr (some 39))]) (h1 := hp L q1.2 c e) rfl ?_
      refine RuP.step (pc' := 91) (ls' := [some (.inr (.inr (some 39))), some (.inl l1), some (.inl l2), some (.inl q1.1)]) (st' := [.inr (.inl q1.1), .inl l2, .inl l1, .inl ((if q1.1 < 0 then 1 else (if 12 ≤ q1.1 then 1 else ax_w32 (16 + q1.1))) : Int), .inr (.inr (some 39))]) (h1 := hp L q1.2 c e) rfl ?_
      obtain ⟨b2, h⟩ := gd_some h
      obtain ⟨q2, h1, h⟩ := bd_some h
      refine RuP.cVe h1 rfl (EvP.v ((ev_78 ((if q1.1 < 0 then 1 else (if 12 ≤ q1.1 then 1 else ax_w32 (16 + q1.1))) : Int) l1 l2 q1.1 b2).up (by decide))) ?_
      refine RuP.step (pc' := 95) (ls' := [some (.inr (.inr (some 39))), some (.inl l1), some (.inl l2), some (.inl q1.1)]) (st' := [.inl l2]) (h1 := hp L q2 c e) rfl ?_
      cases h
      exact RuP.dI rfl
    by_cases h3 : q1.1 < 0
    · refine RuP.jy rfl h3 ?_
      refine RuP.step (pc' := 87) (ls' := [some (.inr (.inr (some 39))), some (.inl l1), some (.inl l2), some (.inl q1.1)]) (st' := [.inl 1, .inr (.inr (some 39))]) (h1 := hp L q1.2 c e) rfl ?_
      exact J2 _ (by simp only [if_pos h3])
    · refine RuP.jn rfl h3 ?_
      refine RuP.step (pc' := 74) (ls' := [some (.inr (.inr (some 39))), some (.inl l1), some (.inl l2), some (.inl q1.1)]) (st' := [.inl q1.1, .inr (.inr (some 39))]) (h1 := hp L q1.2 c e) rfl ?_
      refine RuP.step (pc' := 76) (ls' := [some (.inr (.inr (some 39))), some (.inl l1), some (.inl l2), some (.inl q1.1)]) (st' := [.inl 12, .inl q1.1, .inr (.inr (some 39))]) (h1 := hp L q1.2 c e) rfl ?_
      by_cases h4 : 12 ≤ q1.1
      · refine RuP.jy rfl h4 ?_
        refine RuP.step (pc' := 87) (ls' := [some (.inr (.inr (some 39))), some (.inl l1), some (.inl l2), some (.inl q1.1)]) (st' := [.inl 1, .inr (.inr (some 39))]) (h1 := hp L q1.2 c e) rfl ?_
        exact J2 _ (by simp only [if_neg h3, if_pos h4])
      · refine RuP.jn rfl h4 ?_
        refine RuP.step (pc' := 81) (ls' := [some (.inr (.inr (some 39))), some (.inl l1), some (.inl l2), some (.inl q1.1)]) (st' := [.inl 16, .inr (.inr (some 39))]) (h1 := hp L q1.2 c e) rfl ?_
        refine RuP.step (pc' := 82) (ls' := [some (.inr (.inr (some 39))), some (.inl l1), some (.inl l2), some (.inl q1.1)]) (st' := [.inl q1.1, .inl 16, .inr (.inr (some 39))]) (h1 := hp L q1.2 c e) rfl ?_
        refine RuP.step (pc' := 83) (ls' := [some (.inr (.inr (some 39))), some (.inl l1), some (.inl l2), some (.inl q1.1)]) (st' := [.inl (ax_w32 (16 + q1.1)), .inr (.inr (some 39))]) (h1 := hp L q1.2 c e) rfl ?_
        refine RuP.step (pc' := 87) (ls' := [some (.inr (.inr (some 39))), some (.inl l1), some (.inl l2), some (.inl q1.1)]) (st' := [.inl (ax_w32 (16 + q1.1)), .inr (.inr (some 39))]) (h1 := hp L q1.2 c e) rfl ?_
        exact J2 _ (by simp only [if_neg h3, if_neg h4])
  · rw [if_neg h0] at h
    refine RuP.jn rfl h0 ?_
    refine RuP.step (pc' := 67) (ls' := [some (.inr (.inr (some 39))), some (.inl l1), some (.inl l2), some (.inl q1.1)]) (st' := [.inl (-1)]) (h1 := hp L q1.2 c e) rfl ?_
    cases h
    exact RuP.dI rfl
noncomputable def j_86_32 (k2 : (Int → Int → Sg → Option (Int × Sg))) (l1 l2 : Int) (s : Sg) : Option (Int × Sg) :=
  (gd (g_83 l2 s) (
  ((some (f_105 (f_83 l2 s) s)).bind fun q3 =>
  k2 l1 (ax_w32 (l2 + 1)) q3)))
theorem bl_86_32 {L c : Nat} {e : Nat → Nat} {k2 : (Int → Int → Sg → Option (Int × Sg))} (hk2 : ∀ (d3 : Option ax_V) (l1 l2 : Int) (s : Sg) (q : Int × Sg), k2 l1 l2 s = some q → RuP 3 tb_m86 2 [some (.inr (.inr (some 39))), some (.inl l1), some (.inl l2), d3] [] (hp L s c e) (oI L c e q)) : ∀ (d3 : Option ax_V) (l1 l2 : Int) (s : Sg) (q : Int × Sg), j_86_32 k2 l1 l2 s = some q → RuP 3 tb_m86 32 [some (.inr (.inr (some 39))), some (.inl l1), some (.inl l2), d3] [] (hp L s c e) (oI L c e q) := by
  intro d3 l1 l2 s q h
  unfold j_86_32 at h
  refine RuP.step (pc' := 33) (ls' := [some (.inr (.inr (some 39))), some (.inl l1), some (.inl l2), d3]) (st' := [.inr (.inr (some 39))]) (h1 := hp L s c e) rfl ?_
  refine RuP.step (pc' := 36) (ls' := [some (.inr (.inr (some 39))), some (.inl l1), some (.inl l2), d3]) (st' := [.inr (.inr (some 31))]) (h1 := hp L s c e) rfl ?_
  refine RuP.step (pc' := 37) (ls' := [some (.inr (.inr (some 39))), some (.inl l1), some (.inl l2), d3]) (st' := [.inr (.inr (some 39)), .inr (.inr (some 31))]) (h1 := hp L s c e) rfl ?_
  refine RuP.step (pc' := 38) (ls' := [some (.inr (.inr (some 39))), some (.inl l1), some (.inl l2), d3]) (st' := [.inl l2, .inr (.inr (some 39)), .inr (.inr (some 31))]) (h1 := hp L s c e) rfl ?_
  obtain ⟨b0, h⟩ := gd_some h
  refine RuP.cI rfl (EvP.i ((ev_83 l2 b0).up (by decide))) ?_
  obtain ⟨q3, h1, h⟩ := bd_some h
  refine RuP.cVe h1 rfl (EvP.v ((ev_105 (f_83 l2 s)).up (by decide))) ?_
  refine RuP.step (pc' := 47) (ls' := [some (.inr (.inr (some 39))), some (.inl l1), some (.inl (ax_w32 (l2 + 1))), d3]) (st' := []) (h1 := hp L q3 c e) rfl ?_
  refine RuP.step (pc' := 2) (ls' := [some (.inr (.inr (some 39))), some (.inl l1), some (.inl (ax_w32 (l2 + 1))), d3]) (st' := []) (h1 := hp L q3 c e) rfl ?_
  exact hk2 _ _ _ _ _ h
noncomputable def j_86_2 : Nat → Int → Int → Sg → Option (Int × Sg)
  | 0, _, _, _ => none
  | F + 1, l1, l2, s =>
    (if s 39 8 ≤ l2 then
      j_86_50 l1 l2 s
    else
      (gd (g_83 l2 s) (
      (if ¬ (f_85 (f_83 l2 s) s) = 0 then
        j_86_32 (j_86_2 F) l1 l2 s
      else
        (gd (g_83 l2 s) (
        (if f_87 (f_83 l2 s) s = 0 then
          j_86_50 l1 l2 s
        else
          j_86_32 (j_86_2 F) l1 l2 s)))))))
theorem bl_86_2 {L c : Nat} {e : Nat → Nat} : ∀ (F : Nat) (d3 : Option ax_V) (l1 l2 : Int) (s : Sg) (q : Int × Sg), j_86_2 F l1 l2 s = some q → RuP 3 tb_m86 2 [some (.inr (.inr (some 39))), some (.inl l1), some (.inl l2), d3] [] (hp L s c e) (oI L c e q) := by
  intro F
  induction F with
  | zero =>
    intro d3 l1 l2 s q h
    rw [j_86_2] at h
    cases h
  | succ F ih =>
    intro d3 l1 l2 s q h
    rw [j_86_2] at h
    refine RuP.step (pc' := 3) (ls' := [some (.inr (.inr (some 39))), some (.inl l1), some (.inl l2), d3]) (st' := [.inl l2]) (h1 := hp L s c e) rfl ?_
    refine RuP.step (pc' := 4) (ls' := [some (.inr (.inr (some 39))), some (.inl l1), some (.inl l2), d3]) (st' := [.inr (.inr (some 39)), .inl l2]) (h1 := hp L s c e) rfl ?_
    refine RuP.step (pc' := 7) (ls' := [some (.inr (.inr (some 39))), some (.inl l1), some (.inl l2), d3]) (st' := [.inl (s 39 8), .inl l2]) (h1 := hp L s c e) rfl ?_
    by_cases h0 : s 39 8 ≤ l2
    · rw [if_pos h0] at h
      refine RuP.jy rfl h0 ?_
      exact bl_86_50 _ _ _ _ _ h
    · rw [if_neg h0] at h
      refine RuP.jn rfl h0 ?_
      refine RuP.step (pc' := 11) (ls' := [some (.inr (.inr (some 39))), some (.inl l1), some (.inl l2), d3]) (st' := [.inr (.inr (some 39))]) (h1 := hp L s c e) rfl ?_
      refine RuP.step (pc' := 12) (ls' := [some (.inr (.inr (some 39))), some (.inl l1), some (.inl l2), d3]) (st' := [.inl l2, .inr (.inr (some 39))]) (h1 := hp L s c e) rfl ?_
      obtain ⟨b1, h⟩ := gd_some h
      refine RuP.cI rfl (EvP.i ((ev_83 l2 b1).up (by decide))) ?_
      refine RuP.cI rfl (EvP.i ((ev_85 (f_83 l2 s)).up (by decide))) ?_
      by_cases h2 : ¬ (f_85 (f_83 l2 s) s) = 0
      · rw [if_pos h2] at h
        refine RuP.jy rfl h2 ?_
        exact bl_86_32 ih _ _ _ _ _ h
      · rw [if_neg h2] at h
        refine RuP.jn rfl h2 ?_
        refine RuP.step (pc' := 22) (ls' := [some (.inr (.inr (some 39))), some (.inl l1), some (.inl l2), d3]) (st' := [.inr (.inr (some 39))]) (h1 := hp L s c e) rfl ?_
        refine RuP.step (pc' := 23) (ls' := [some (.inr (.inr (some 39))), some (.inl l1), some (.inl l2), d3]) (st' := [.inl l2, .inr (.inr (some 39))]) (h1 := hp L s c e) rfl ?_
        obtain ⟨b3, h⟩ := gd_some h
        refine RuP.cI rfl (EvP.i ((ev_83 l2 b3).up (by decide))) ?_
        refine RuP.cI rfl (EvP.i ((ev_87 (f_83 l2 s)).up (by decide))) ?_
        by_cases h4 : f_87 (f_83 l2 s) s = 0
        · rw [if_pos h4] at h
          refine RuP.jy rfl h4 ?_
          exact bl_86_50 _ _ _ _ _ h
        · rw [if_neg h4] at h
          refine RuP.jn rfl h4 ?_
          exact bl_86_32 ih _ _ _ _ _ h
noncomputable def f_86 (x0 : Int) (s : Sg) : Option (Int × Sg) :=
  j_86_2 FU x0 x0 s
theorem ev_86 {L c : Nat} {e : Nat → Nat} {s : Sg} {x0 : Int} {q : Int × Sg} (h : f_86 x0 s = some q) : EvP 4 86 [.inr (.inr (some 39)), .inl x0] (hp L s c e) (oI L c e q) := by
  unfold f_86 at h
  refine EvP.of (μ := tb_m86) (ls := [some (.inr (.inr (some 39))), some (.inl x0), none, none]) rfl (Nat.le_of_ble_eq_true rfl) rfl ?_
  refine RuP.step (pc' := 1) (ls' := [some (.inr (.inr (some 39))), some (.inl x0), none, none]) (st' := [.inl x0]) (h1 := hp L s c e) rfl ?_
  refine RuP.step (pc' := 2) (ls' := [some (.inr (.inr (some 39))), some (.inl x0), some (.inl x0), none]) (st' := []) (h1 := hp L s c e) rfl ?_
  exact bl_86_2 FU _ _ _ _ _ h
/-- MachineText$Printer.write()V -/
noncomputable def j_128_51 (s : Sg) : Option Sg :=
  (gd (g_134 10 s) (
  ((some (f_134 10 s)).bind fun q1 =>
  some q1)))
theorem bl_128_51 {L c : Nat} {e : Nat → Nat} : ∀ (z1 z2 : Int) (s : Sg) (q : Sg), j_128_51 s = some q → RuP 3 tb_m128 51 [some (.inr (.inr (some 82))), some (.inl z1), some (.inl z2)] [] (hp L s c e) (oV L c e q) := by
  intro z1 z2 s q h
  unfold j_128_51 at h
  refine RuP.step (pc' := 52) (ls' := [some (.inr (.inr (some 82))), some (.inl z1), some (.inl z2)]) (st' := [.inr (.inr (some 82))]) (h1 := hp L s c e) rfl ?_
  refine RuP.step (pc' := 54) (ls' := [some (.inr (.inr (some 82))), some (.inl z1), some (.inl z2)]) (st' := [.inl 10, .inr (.inr (some 82))]) (h1 := hp L s c e) rfl ?_
  obtain ⟨b0, h⟩ := gd_some h
  obtain ⟨q1, h1, h⟩ := bd_some h
  refine RuP.cVe h1 rfl (EvP.v ((ev_134 10 b0).up (by decide))) ?_
  cases h
  exact RuP.dV rfl
noncomputable def j_128_45 (k9 : (Int → Int → Sg → Option Sg)) (l1 l2 : Int) (s : Sg) : Option Sg :=
  k9 l1 (ax_w32 (l2 + 1)) s
theorem bl_128_45 {L c : Nat} {e : Nat → Nat} {k9 : (Int → Int → Sg → Option Sg)} (hk9 : ∀ (l1 l2 : Int) (s : Sg) (q : Sg), k9 l1 l2 s = some q → RuP 3 tb_m128 9 [some (.inr (.inr (some 82))), some (.inl l1), some (.inl l2)] [] (hp L s c e) (oV L c e q)) : ∀ (l1 l2 : Int) (s : Sg) (q : Sg), j_128_45 k9 l1 l2 s = some q → RuP 3 tb_m128 45 [some (.inr (.inr (some 82))), some (.inl l1), some (.inl l2)] [] (hp L s c e) (oV L c e q) := by
  intro l1 l2 s q h
  unfold j_128_45 at h
  refine RuP.step (pc' := 48) (ls' := [some (.inr (.inr (some 82))), some (.inl l1), some (.inl (ax_w32 (l2 + 1)))]) (st' := []) (h1 := hp L s c e) rfl ?_
  refine RuP.step (pc' := 9) (ls' := [some (.inr (.inr (some 82))), some (.inl l1), some (.inl (ax_w32 (l2 + 1)))]) (st' := []) (h1 := hp L s c e) rfl ?_
  exact hk9 _ _ _ _ h
noncomputable def j_128_9 : Nat → Int → Int → Sg → Option Sg
  | 0, _, _, _ => none
  | F + 1, l1, l2, s =>
    (if s 39 9 ≤ l2 then
      j_128_51 s
    else
      (gd (g_84 l2 s) (
      (if f_84 l2 s = 2 then
        j_128_45 (j_128_9 F) l1 l2 s
      else
        ((f_132 l1 l2 s).bind fun q2 =>
        ((f_133 l2 q2).bind fun q3 =>
        j_128_45 (j_128_9 F) l2 l2 q3))))))
theorem bl_128_9 {L c : Nat} {e : Nat → Nat} : ∀ (F : Nat) (l1 l2 : Int) (s : Sg) (q : Sg), j_128_9 F l1 l2 s = some q → RuP 3 tb_m128 9 [some (.inr (.inr (some 82))), some (.inl l1), some (.inl l2)] [] (hp L s c e) (oV L c e q) := by
  intro F
  induction F with
  | zero =>
    intro l1 l2 s q h
    rw [j_128_9] at h
    cases h
  | succ F ih =>
    intro l1 l2 s q h
    rw [j_128_9] at h
    refine RuP.step (pc' := 10) (ls' := [some (.inr (.inr (some 82))), some (.inl l1), some (.inl l2)]) (st' := [.inl l2]) (h1 := hp L s c e) rfl ?_
    refine RuP.step (pc' := 11) (ls' := [some (.inr (.inr (some 82))), some (.inl l1), some (.inl l2)]) (st' := [.inr (.inr (some 82)), .inl l2]) (h1 := hp L s c e) rfl ?_
    refine RuP.step (pc' := 14) (ls' := [some (.inr (.inr (some 82))), some (.inl l1), some (.inl l2)]) (st' := [.inr (.inr (some 39)), .inl l2]) (h1 := hp L s c e) rfl ?_
    refine RuP.step (pc' := 17) (ls' := [some (.inr (.inr (some 82))), some (.inl l1), some (.inl l2)]) (st' := [.inl (s 39 9), .inl l2]) (h1 := hp L s c e) rfl ?_
    by_cases h0 : s 39 9 ≤ l2
    · rw [if_pos h0] at h
      refine RuP.jy rfl h0 ?_
      exact bl_128_51 _ _ _ _ h
    · rw [if_neg h0] at h
      refine RuP.jn rfl h0 ?_
      refine RuP.step (pc' := 21) (ls' := [some (.inr (.inr (some 82))), some (.inl l1), some (.inl l2)]) (st' := [.inr (.inr (some 82))]) (h1 := hp L s c e) rfl ?_
      refine RuP.step (pc' := 24) (ls' := [some (.inr (.inr (some 82))), some (.inl l1), some (.inl l2)]) (st' := [.inr (.inr (some 39))]) (h1 := hp L s c e) rfl ?_
      refine RuP.step (pc' := 25) (ls' := [some (.inr (.inr (some 82))), some (.inl l1), some (.inl l2)]) (st' := [.inl l2, .inr (.inr (some 39))]) (h1 := hp L s c e) rfl ?_
      obtain ⟨b1, h⟩ := gd_some h
      refine RuP.cI rfl (EvP.i ((ev_84 l2 b1).up (by decide))) ?_
      refine RuP.step (pc' := 29) (ls' := [some (.inr (.inr (some 82))), some (.inl l1), some (.inl l2)]) (st' := [.inl 2, .inl (f_84 l2 s)]) (h1 := hp L s c e) rfl ?_
      by_cases h2 : f_84 l2 s = 2
      · rw [if_pos h2] at h
        refine RuP.jy rfl h2 ?_
        exact bl_128_45 ih _ _ _ _ h
      · rw [if_neg h2] at h
        refine RuP.jn rfl h2 ?_
        refine RuP.step (pc' := 33) (ls' := [some (.inr (.inr (some 82))), some (.inl l1), some (.inl l2)]) (st' := [.inr (.inr (some 82))]) (h1 := hp L s c e) rfl ?_
        refine RuP.step (pc' := 34) (ls' := [some (.inr (.inr (some 82))), some (.inl l1), some (.inl l2)]) (st' := [.inl l1, .inr (.inr (some 82))]) (h1 := hp L s c e) rfl ?_
        refine RuP.step (pc' := 35) (ls' := [some (.inr (.inr (some 82))), some (.inl l1), some (.inl l2)]) (st' := [.inl l2, .inl l1, .inr (.inr (some 82))]) (h1 := hp L s c e) rfl ?_
        obtain ⟨q2, h1, h⟩ := bd_some h
        refine RuP.cV rfl ((ev_132 h1).up (by decide)) ?_
        refine RuP.step (pc' := 39) (ls' := [some (.inr (.inr (some 82))), some (.inl l1), some (.inl l2)]) (st' := [.inr (.inr (some 82))]) (h1 := hp L q2 c e) rfl ?_
        refine RuP.step (pc' := 40) (ls' := [some (.inr (.inr (some 82))), some (.inl l1), some (.inl l2)]) (st' := [.inl l2, .inr (.inr (some 82))]) (h1 := hp L q2 c e) rfl ?_
        obtain ⟨q3, h1, h⟩ := bd_some h
        refine RuP.cV rfl ((ev_133 h1).up (by decide)) ?_
        refine RuP.step (pc' := 44) (ls' := [some (.inr (.inr (some 82))), some (.inl l1), some (.inl l2)]) (st' := [.inl l2]) (h1 := hp L q3 c e) rfl ?_
        refine RuP.step (pc' := 45) (ls' := [some (.inr (.inr (some 82))), some (.inl l2), some (.inl l2)]) (st' := []) (h1 := hp L q3 c e) rfl ?_
        exact bl_128_45 ih _ _ _ _ h
noncomputable def f_128 (s : Sg) : Option Sg :=
  j_128_9 FU (-1) 0 (ax_u2 s 82 2 0)
theorem ev_128 {L c : Nat} {e : Nat → Nat} {s : Sg} {q : Sg} (h : f_128 s = some q) : EvP 4 128 [.inr (.inr (some 82))] (hp L s c e) (oV L c e q) := by
  unfold f_128 at h
  refine EvP.of (μ := tb_m128) (ls := [some (.inr (.inr (some 82))), none, none]) rfl (Nat.le_of_ble_eq_true rfl) rfl ?_
  refine RuP.step (pc' := 1) (ls' := [some (.inr (.inr (some 82))), none, none]) (st' := [.inr (.inr (some 82))]) (h1 := hp L s c e) rfl ?_
  refine RuP.step (pc' := 2) (ls' := [some (.inr (.inr (some 82))), none, none]) (st' := [.inl 0, .inr (.inr (some 82))]) (h1 := hp L s c e) rfl ?_
  refine RuP.step (pc' := 5) (ls' := [some (.inr (.inr (some 82))), none, none]) (st' := []) (h1 := hp L (ax_u2 s 82 2 0) c e) rfl ?_
  refine RuP.step (pc' := 6) (ls' := [some (.inr (.inr (some 82))), none, none]) (st' := [.inl (-1)]) (h1 := hp L (ax_u2 s 82 2 0) c e) rfl ?_
  refine RuP.step (pc' := 7) (ls' := [some (.inr (.inr (some 82))), some (.inl (-1)), none]) (st' := []) (h1 := hp L (ax_u2 s 82 2 0) c e) rfl ?_
  refine RuP.step (pc' := 8) (ls' := [some (.inr (.inr (some 82))), some (.inl (-1)), none]) (st' := [.inl 0]) (h1 := hp L (ax_u2 s 82 2 0) c e) rfl ?_
  refine RuP.step (pc' := 9) (ls' := [some (.inr (.inr (some 82))), some (.inl (-1)), some (.inl 0)]) (st' := []) (h1 := hp L (ax_u2 s 82 2 0) c e) rfl ?_
  exact bl_128_9 FU _ _ _ _ h
/-- MachineText$Reader.assignment()V -/
noncomputable def j_147_67 (l1 l2 l3 : Int) (s : Sg) : Option (Sum (Sg) (Nat × Sg)) :=
  (xb (f_92 61 s) fun q2 =>
  (xb (f_45 100 (ax_w32 ((q2 70 9) - 1)) q2) fun q3 =>
  (xb (f_92 59 q3) fun q4 =>
  (gd (g_106 l2 q4) (
  (if f_106 l2 q4 = 0 then
    ((f_37 l1 l3 (q4 66 8) q4).bind fun q5 =>
    some (.inl q5))
  else
    (gd (g_80 l1 q4) (
    (gd (g_71 7 (f_80 l1 q4) q4) (
    ((some (f_71 7 (f_80 l1 q4) q4)).bind fun q6 =>
    some (.inl q6))))))))))))
theorem bl_147_67 {L c : Nat} {e : Nat → Nat} : ∀ (l1 l2 l3 : Int) (s : Sg) (q : Sum (Sg) (Nat × Sg)), j_147_67 l1 l2 l3 s = some q → RuP 220 tb_m147 67 [some (.inr (.inr (some 70))), some (.inl l1), some (.inl l2), some (.inl l3)] [] (hp L s c e) (oX L c (oV L c e) q) := by
  intro l1 l2 l3 s q h
  unfold j_147_67 at h
  refine RuP.step (pc' := 68) (ls' := [some (.inr (.inr (some 70))), some (.inl l1), some (.inl l2), some (.inl l3)]) (st' := [.inr (.inr (some 70))]) (h1 := hp L s c e) rfl ?_
  refine RuP.step (pc' := 71) (ls' := [some (.inr (.inr (some 70))), some (.inl l1), some (.inl l2), some (.inl l3)]) (st' := [.inr (.inr (some 39))]) (h1 := hp L s c e) rfl ?_
  refine RuP.step (pc' := 73) (ls' := [some (.inr (.inr (some 70))), some (.inl l1), some (.inl l2), some (.inl l3)]) (st' := [.inl 61, .inr (.inr (some 39))]) (h1 := hp L s c e) rfl ?_
  rcases xb_some h with ⟨q2, h1, h⟩ | ⟨xx1, h1, h2⟩
  rotate_left
  · subst h2
    exact RuP.pass rfl rfl ((ev_92 h1).up (by decide))
  refine RuP.cV rfl ((ev_92 h1).up (by decide)) ?_
  refine RuP.step (pc' := 77) (ls' := [some (.inr (.inr (some 70))), some (.inl l1), some (.inl l2), some (.inl l3)]) (st' := [.inr (.inr (some 70))]) (h1 := hp L q2 c e) rfl ?_
  refine RuP.step (pc' := 80) (ls' := [some (.inr (.inr (some 70))), some (.inl l1), some (.inl l2), some (.inl l3)]) (st' := [.inr (.inr (some 66))]) (h1 := hp L q2 c e) rfl ?_
  refine RuP.step (pc' := 81) (ls' := [some (.inr (.inr (some 70))), some (.inl l1), some (.inl l2), some (.inl l3)]) (st' := [.inr (.inr (some 70)), .inr (.inr (some 66))]) (h1 := hp L q2 c e) rfl ?_
  refine RuP.step (pc' := 84) (ls' := [some (.inr (.inr (some 70))), some (.inl l1), some (.inl l2), some (.inl l3)]) (st' := [.inl (q2 70 9), .inr (.inr (some 66))]) (h1 := hp L q2 c e) rfl ?_
  refine RuP.step (pc' := 85) (ls' := [some (.inr (.inr (some 70))), some (.inl l1), some (.inl l2), some (.inl l3)]) (st' := [.inl 1, .inl (q2 70 9), .inr (.inr (some 66))]) (h1 := hp L q2 c e) rfl ?_
  refine RuP.step (pc' := 86) (ls' := [some (.inr (.inr (some 70))), some (.inl l1), some (.inl l2), some (.inl l3)]) (st' := [.inl (ax_w32 ((q2 70 9) - 1)), .inr (.inr (some 66))]) (h1 := hp L q2 c e) rfl ?_
  rcases xb_some h with ⟨q3, h1, h⟩ | ⟨xx1, h1, h2⟩
  rotate_left
  · subst h2
    exact RuP.pass rfl rfl ((ev_45 100 _ _ _ h1).up (by decide))
  refine RuP.cV rfl ((ev_45 100 _ _ _ h1).up (by decide)) ?_
  refine RuP.step (pc' := 90) (ls' := [some (.inr (.inr (some 70))), some (.inl l1), some (.inl l2), some (.inl l3)]) (st' := [.inr (.inr (some 70))]) (h1 := hp L q3 c e) rfl ?_
  refine RuP.step (pc' := 93) (ls' := [some (.inr (.inr (some 70))), some (.inl l1), some (.inl l2), some (.inl l3)]) (st' := [.inr (.inr (some 39))]) (h1 := hp L q3 c e) rfl ?_
  refine RuP.step (pc' := 95) (ls' := [some (.inr (.inr (some 70))), some (.inl l1), some (.inl l2), some (.inl l3)]) (st' := [.inl 59, .inr (.inr (some 39))]) (h1 := hp L q3 c e) rfl ?_
  rcases xb_some h with ⟨q4, h1, h⟩ | ⟨xx1, h1, h2⟩
  rotate_left
  · subst h2
    exact RuP.pass rfl rfl ((ev_92 h1).up (by decide))
  refine RuP.cV rfl ((ev_92 h1).up (by decide)) ?_
  refine RuP.step (pc' := 99) (ls' := [some (.inr (.inr (some 70))), some (.inl l1), some (.inl l2), some (.inl l3)]) (st' := [.inr (.inr (some 70))]) (h1 := hp L q4 c e) rfl ?_
  refine RuP.step (pc' := 102) (ls' := [some (.inr (.inr (some 70))), some (.inl l1), some (.inl l2), some (.inl l3)]) (st' := [.inr (.inr (some 31))]) (h1 := hp L q4 c e) rfl ?_
  refine RuP.step (pc' := 103) (ls' := [some (.inr (.inr (some 70))), some (.inl l1), some (.inl l2), some (.inl l3)]) (st' := [.inl l2, .inr (.inr (some 31))]) (h1 := hp L q4 c e) rfl ?_
  obtain ⟨b0, h⟩ := gd_some h
  refine RuP.cI rfl (EvP.i ((ev_106 l2 b0).up (by decide))) ?_
  by_cases h1 : f_106 l2 q4 = 0
  · rw [if_pos h1] at h
    refine RuP.jy rfl h1 ?_
    refine RuP.step (pc' := 130) (ls' := [some (.inr (.inr (some 70))), some (.inl l1), some (.inl l2), some (.inl l3)]) (st' := [.inr (.inr (some 70))]) (h1 := hp L q4 c e) rfl ?_
    refine RuP.step (pc' := 133) (ls' := [some (.inr (.inr (some 70))), some (.inl l1), some (.inl l2), some (.inl l3)]) (st' := [.inr (.inr (some 61))]) (h1 := hp L q4 c e) rfl ?_
    refine RuP.step (pc' := 134) (ls' := [some (.inr (.inr (some 70))), some (.inl l1), some (.inl l2), some (.inl l3)]) (st' := [.inl l1, .inr (.inr (some 61))]) (h1 := hp L q4 c e) rfl ?_
    refine RuP.step (pc' := 135) (ls' := [some (.inr (.inr (some 70))), some (.inl l1), some (.inl l2), some (.inl l3)]) (st' := [.inl l3, .inl l1, .inr (.inr (some 61))]) (h1 := hp L q4 c e) rfl ?_
    refine RuP.step (pc' := 136) (ls' := [some (.inr (.inr (some 70))), some (.inl l1), some (.inl l2), some (.inl l3)]) (st' := [.inr (.inr (some 70)), .inl l3, .inl l1, .inr (.inr (some 61))]) (h1 := hp L q4 c e) rfl ?_
    refine RuP.step (pc' := 139) (ls' := [some (.inr (.inr (some 70))), some (.inl l1), some (.inl l2), some (.inl l3)]) (st' := [.inr (.inr (some 66)), .inl l3, .inl l1, .inr (.inr (some 61))]) (h1 := hp L q4 c e) rfl ?_
    refine RuP.step (pc' := 142) (ls' := [some (.inr (.inr (some 70))), some (.inl l1), some (.inl l2), some (.inl l3)]) (st' := [.inl (q4 66 8), .inl l3, .inl l1, .inr (.inr (some 61))]) (h1 := hp L q4 c e) rfl ?_
    obtain ⟨q5, h1, h⟩ := bd_some h
    refine RuP.cV rfl ((ev_37 h1).up (by decide)) ?_
    cases h
    exact RuP.dV rfl
  · rw [if_neg h1] at h
    refine RuP.jn rfl h1 ?_
    refine RuP.step (pc' := 110) (ls' := [some (.inr (.inr (some 70))), some (.inl l1), some (.inl l2), some (.inl l3)]) (st' := [.inr (.inr (some 70))]) (h1 := hp L q4 c e) rfl ?_
    refine RuP.step (pc' := 113) (ls' := [some (.inr (.inr (some 70))), some (.inl l1), some (.inl l2), some (.inl l3)]) (st' := [.inr (.inr (some 29))]) (h1 := hp L q4 c e) rfl ?_
    refine RuP.step (pc' := 115) (ls' := [some (.inr (.inr (some 70))), some (.inl l1), some (.inl l2), some (.inl l3)]) (st' := [.inl 7, .inr (.inr (some 29))]) (h1 := hp L q4 c e) rfl ?_
    refine RuP.step (pc' := 116) (ls' := [some (.inr (.inr (some 70))), some (.inl l1), some (.inl l2), some (.inl l3)]) (st' := [.inr (.inr (some 70)), .inl 7, .inr (.inr (some 29))]) (h1 := hp L q4 c e) rfl ?_
    refine RuP.step (pc' := 119) (ls' := [some (.inr (.inr (some 70))), some (.inl l1), some (.inl l2), some (.inl l3)]) (st' := [.inr (.inr (some 39)), .inl 7, .inr (.inr (some 29))]) (h1 := hp L q4 c e) rfl ?_
    refine RuP.step (pc' := 120) (ls' := [some (.inr (.inr (some 70))), some (.inl l1), some (.inl l2), some (.inl l3)]) (st' := [.inl l1, .inr (.inr (some 39)), .inl 7, .inr (.inr (some 29))]) (h1 := hp L q4 c e) rfl ?_
    obtain ⟨b2, h⟩ := gd_some h
    refine RuP.cI rfl (EvP.i ((ev_80 l1 b2).up (by decide))) ?_
    obtain ⟨b3, h⟩ := gd_some h
    obtain ⟨q6, h1, h⟩ := bd_some h
    refine RuP.cVe h1 rfl (EvP.v ((ev_71 7 (f_80 l1 q4) b3).up (by decide))) ?_
    refine RuP.step (pc' := 145) (ls' := [some (.inr (.inr (some 70))), some (.inl l1), some (.inl l2), some (.inl l3)]) (st' := []) (h1 := hp L q6 c e) rfl ?_
    cases h
    exact RuP.dV rfl
noncomputable def f_147 (s : Sg) : Option (Sum (Sg) (Nat × Sg)) :=
  (xb (f_96 s) fun q1 =>
  (if ¬ (q1.2 39 11) = 91 then
    j_147_67 (s 39 10) q1.1 (-1) q1.2
  else
    (gd (g_94 q1.2) (
    ((some (f_94 q1.2)).bind fun q7 =>
    (xb (f_45 100 (ax_w32 ((q7 70 9) - 1)) q7) fun q8 =>
    (xb (f_92 93 q8) fun q9 =>
    j_147_67 (s 39 10) q1.1 (q8 66 8) q9)))))))
theorem ev_147 {L c : Nat} {e : Nat → Nat} {s : Sg} {q : Sum (Sg) (Nat × Sg)} (h : f_147 s = some q) : EvP 221 147 [.inr (.inr (some 70))] (hp L s c e) (oX L c (oV L c e) q) := by
  unfold f_147 at h
  refine EvP.of (μ := tb_m147) (ls := [some (.inr (.inr (some 70))), none, none, none]) rfl (Nat.le_of_ble_eq_true rfl) rfl ?_
  refine RuP.step (pc' := 1) (ls' := [some (.inr (.inr (some 70))), none, none, none]) (st' := [.inr (.inr (some 70))]) (h1 := hp L s c e) rfl ?_
  refine RuP.step (pc' := 4) (ls' := [some (.inr (.inr (some 70))), none, none, none]) (st' := [.inr (.inr (some 39))]) (h1 := hp L s c e) rfl ?_
  refine RuP.step (pc' := 7) (ls' := [some (.inr (.inr (some 70))), none, none, none]) (st' := [.inl (s 39 10)]) (h1 := hp L s c e) rfl ?_
  refine RuP.step (pc' := 8) (ls' := [some (.inr (.inr (some 70))), some (.inl (s 39 10)), none, none]) (st' := []) (h1 := hp L s c e) rfl ?_
  refine RuP.step (pc' := 9) (ls' := [some (.inr (.inr (some 70))), some (.inl (s 39 10)), none, none]) (st' := [.inr (.inr (some 70))]) (h1 := hp L s c e) rfl ?_
  refine RuP.step (pc' := 12) (ls' := [some (.inr (.inr (some 70))), some (.inl (s 39 10)), none, none]) (st' := [.inr (.inr (some 39))]) (h1 := hp L s c e) rfl ?_
  rcases xb_some h with ⟨q1, h1, h⟩ | ⟨xx1, h1, h2⟩
  rotate_left
  · subst h2
    exact RuP.pass rfl rfl ((ev_96 h1).up (by decide))
  refine RuP.cI rfl ((ev_96 h1).up (by decide)) ?_
  refine RuP.step (pc' := 16) (ls' := [some (.inr (.inr (some 70))), some (.inl (s 39 10)), some (.inl q1.1), none]) (st' := []) (h1 := hp L q1.2 c e) rfl ?_
  refine RuP.step (pc' := 17) (ls' := [some (.inr (.inr (some 70))), some (.inl (s 39 10)), some (.inl q1.1), none]) (st' := [.inl (-1)]) (h1 := hp L q1.2 c e) rfl ?_
  refine RuP.step (pc' := 18) (ls' := [some (.inr (.inr (some 70))), some (.inl (s 39 10)), some (.inl q1.1), some (.inl (-1))]) (st' := []) (h1 := hp L q1.2 c e) rfl ?_
  refine RuP.step (pc' := 19) (ls' := [some (.inr (.inr (some 70))), some (.inl (s 39 10)), some (.inl q1.1), some (.inl (-1))]) (st' := [.inr (.inr (some 70))]) (h1 := hp L q1.2 c e) rfl ?_
  refine RuP.step (pc' := 22) (ls' := [some (.inr (.inr (some 70))), some (.inl (s 39 10)), some (.inl q1.1), some (.inl (-1))]) (st' := [.inr (.inr (some 39))]) (h1 := hp L q1.2 c e) rfl ?_
  refine RuP.step (pc' := 25) (ls' := [some (.inr (.inr (some 70))), some (.inl (s 39 10)), some (.inl q1.1), some (.inl (-1))]) (st' := [.inl (q1.2 39 11)]) (h1 := hp L q1.2 c e) rfl ?_
  refine RuP.step (pc' := 27) (ls' := [some (.inr (.inr (some 70))), some (.inl (s 39 10)), some (.inl q1.1), some (.inl (-1))]) (st' := [.inl 91, .inl (q1.2 39 11)]) (h1 := hp L q1.2 c e) rfl ?_
  by_cases h0 : ¬ (q1.2 39 11) = 91
  · rw [if_pos h0] at h
    refine RuP.jy rfl h0 ?_
    exact bl_147_67 _ _ _ _ _ h
  · rw [if_neg h0] at h
    refine RuP.jn rfl h0 ?_
    refine RuP.step (pc' := 31) (ls' := [some (.inr (.inr (some 70))), some (.inl (s 39 10)), some (.inl q1.1), some (.inl (-1))]) (st' := [.inr (.inr (some 70))]) (h1 := hp L q1.2 c e) rfl ?_
    refine RuP.step (pc' := 34) (ls' := [some (.inr (.inr (some 70))), some (.inl (s 39 10)), some (.inl q1.1), some (.inl (-1))]) (st' := [.inr (.inr (some 39))]) (h1 := hp L q1.2 c e) rfl ?_
    obtain ⟨b1, h⟩ := gd_some h
    obtain ⟨q7, h1, h⟩ := bd_some h
    refine RuP.cVe h1 rfl (EvP.v ((ev_94  b1).up (by decide))) ?_
    refine RuP.step (pc' := 38) (ls' := [some (.inr (.inr (some 70))), some (.inl (s 39 10)), some (.inl q1.1), some (.inl (-1))]) (st' := [.inr (.inr (some 70))]) (h1 := hp L q7 c e) rfl ?_
    refine RuP.step (pc' := 41) (ls' := [some (.inr (.inr (some 70))), some (.inl (s 39 10)), some (.inl q1.1), some (.inl (-1))]) (st' := [.inr (.inr (some 66))]) (h1 := hp L q7 c e) rfl ?_
    refine RuP.step (pc' := 42) (ls' := [some (.inr (.inr (some 70))), some (.inl (s 39 10)), some (.inl q1.1), some (.inl (-1))]) (st' := [.inr (.inr (some 70)), .inr (.inr (some 66))]) (h1 := hp L q7 c e) rfl ?_
    refine RuP.step (pc' := 45) (ls' := [some (.inr (.inr (some 70))), some (.inl (s 39 10)), some (.inl q1.1), some (.inl (-1))]) (st' := [.inl (q7 70 9), .inr (.inr (some 66))]) (h1 := hp L q7 c e) rfl ?_
    refine RuP.step (pc' := 46) (ls' := [some (.inr (.inr (some 70))), some (.inl (s 39 10)), some (.inl q1.1), some (.inl (-1))]) (st' := [.inl 1, .inl (q7 70 9), .inr (.inr (some 66))]) (h1 := hp L q7 c e) rfl ?_
    refine RuP.step (pc' := 47) (ls' := [some (.inr (.inr (some 70))), some (.inl (s 39 10)), some (.inl q1.1), some (.inl (-1))]) (st' := [.inl (ax_w32 ((q7 70 9) - 1)), .inr (.inr (some 66))]) (h1 := hp L q7 c e) rfl ?_
    rcases xb_some h with ⟨q8, h1, h⟩ | ⟨xx1, h1, h2⟩
    rotate_left
    · subst h2
      exact RuP.pass rfl rfl ((ev_45 100 _ _ _ h1).up (by decide))
    refine RuP.cV rfl ((ev_45 100 _ _ _ h1).up (by decide)) ?_
    refine RuP.step (pc' := 51) (ls' := [some (.inr (.inr (some 70))), some (.inl (s 39 10)), some (.inl q1.1), some (.inl (-1))]) (st' := [.inr (.inr (some 70))]) (h1 := hp L q8 c e) rfl ?_
    refine RuP.step (pc' := 54) (ls' := [some (.inr (.inr (some 70))), some (.inl (s 39 10)), some (.inl q1.1), some (.inl (-1))]) (st' := [.inr (.inr (some 66))]) (h1 := hp L q8 c e) rfl ?_
    refine RuP.step (pc' := 57) (ls' := [some (.inr (.inr (some 70))), some (.inl (s 39 10)), some (.inl q1.1), some (.inl (-1))]) (st' := [.inl (q8 66 8)]) (h1 := hp L q8 c e) rfl ?_
    refine RuP.step (pc' := 58) (ls' := [some (.inr (.inr (some 70))), some (.inl (s 39 10)), some (.inl q1.1), some (.inl (q8 66 8))]) (st' := []) (h1 := hp L q8 c e) rfl ?_
    refine RuP.step (pc' := 59) (ls' := [some (.inr (.inr (some 70))), some (.inl (s 39 10)), some (.inl q1.1), some (.inl (q8 66 8))]) (st' := [.inr (.inr (some 70))]) (h1 := hp L q8 c e) rfl ?_
    refine RuP.step (pc' := 62) (ls' := [some (.inr (.inr (some 70))), some (.inl (s 39 10)), some (.inl q1.1), some (.inl (q8 66 8))]) (st' := [.inr (.inr (some 39))]) (h1 := hp L q8 c e) rfl ?_
    refine RuP.step (pc' := 64) (ls' := [some (.inr (.inr (some 70))), some (.inl (s 39 10)), some (.inl q1.1), some (.inl (q8 66 8))]) (st' := [.inl 93, .inr (.inr (some 39))]) (h1 := hp L q8 c e) rfl ?_
    rcases xb_some h with ⟨q9, h1, h⟩ | ⟨xx1, h1, h2⟩
    rotate_left
    · subst h2
      exact RuP.pass rfl rfl ((ev_92 h1).up (by decide))
    refine RuP.cV rfl ((ev_92 h1).up (by decide)) ?_
    exact bl_147_67 _ _ _ _ _ h
/-- MachineText$Reader.branch()V -/
noncomputable def f_148 (s : Sg) : Option (Sum (Sg) (Nat × Sg)) :=
  (gd (g_94 s) (
  ((some (f_94 s)).bind fun q1 =>
  (xb (f_45 100 (ax_w32 ((q1 70 9) - 1)) q1) fun q2 =>
  ((f_38 (q1 39 10) (q2 66 8) 1 q2).bind fun q3 =>
  (xb (f_154 21 (q3 31 8) q3) fun q4 =>
  some (.inl q4)))))))
theorem ev_148 {L c : Nat} {e : Nat → Nat} {s : Sg} {q : Sum (Sg) (Nat × Sg)} (h : f_148 s = some q) : EvP 221 148 [.inr (.inr (some 70))] (hp L s c e) (oX L c (oV L c e) q) := by
  unfold f_148 at h
  refine EvP.of (μ := tb_m148) (ls := [some (.inr (.inr (some 70))), none]) rfl (Nat.le_of_ble_eq_true rfl) rfl ?_
  refine RuP.step (pc' := 1) (ls' := [some (.inr (.inr (some 70))), none]) (st' := [.inr (.inr (some 70))]) (h1 := hp L s c e) rfl ?_
  refine RuP.step (pc' := 4) (ls' := [some (.inr (.inr (some 70))), none]) (st' := [.inr (.inr (some 39))]) (h1 := hp L s c e) rfl ?_
  obtain ⟨b0, h⟩ := gd_some h
  obtain ⟨q1, h1, h⟩ := bd_some h
  refine RuP.cVe h1 rfl (EvP.v ((ev_94  b0).up (by decide))) ?_
  refine RuP.step (pc' := 8) (ls' := [some (.inr (.inr (some 70))), none]) (st' := [.inr (.inr (some 70))]) (h1 := hp L q1 c e) rfl ?_
  refine RuP.step (pc' := 11) (ls' := [some (.inr (.inr (some 70))), none]) (st' := [.inr (.inr (some 39))]) (h1 := hp L q1 c e) rfl ?_
  refine RuP.step (pc' := 14) (ls' := [some (.inr (.inr (some 70))), none]) (st' := [.inl (q1 39 10)]) (h1 := hp L q1 c e) rfl ?_
  refine RuP.step (pc' := 15) (ls' := [some (.inr (.inr (some 70))), some (.inl (q1 39 10))]) (st' := []) (h1 := hp L q1 c e) rfl ?_
  refine RuP.step (pc' := 16) (ls' := [some (.inr (.inr (some 70))), some (.inl (q1 39 10))]) (st' := [.inr (.inr (some 70))]) (h1 := hp L q1 c e) rfl ?_
  refine RuP.step (pc' := 19) (ls' := [some (.inr (.inr (some 70))), some (.inl (q1 39 10))]) (st' := [.inr (.inr (some 66))]) (h1 := hp L q1 c e) rfl ?_
  refine RuP.step (pc' := 20) (ls' := [some (.inr (.inr (some 70))), some (.inl (q1 39 10))]) (st' := [.inr (.inr (some 70)), .inr (.inr (some 66))]) (h1 := hp L q1 c e) rfl ?_
  refine RuP.step (pc' := 23) (ls' := [some (.inr (.inr (some 70))), some (.inl (q1 39 10))]) (st' := [.inl (q1 70 9), .inr (.inr (some 66))]) (h1 := hp L q1 c e) rfl ?_
  refine RuP.step (pc' := 24) (ls' := [some (.inr (.inr (some 70))), some (.inl (q1 39 10))]) (st' := [.inl 1, .inl (q1 70 9), .inr (.inr (some 66))]) (h1 := hp L q1 c e) rfl ?_
  refine RuP.step (pc' := 25) (ls' := [some (.inr (.inr (some 70))), some (.inl (q1 39 10))]) (st' := [.inl (ax_w32 ((q1 70 9) - 1)), .inr (.inr (some 66))]) (h1 := hp L q1 c e) rfl ?_
  rcases xb_some h with ⟨q2, h1, h⟩ | ⟨xx1, h1, h2⟩
  rotate_left
  · subst h2
    exact RuP.pass rfl rfl ((ev_45 100 _ _ _ h1).up (by decide))
  refine RuP.cV rfl ((ev_45 100 _ _ _ h1).up (by decide)) ?_
  refine RuP.step (pc' := 29) (ls' := [some (.inr (.inr (some 70))), some (.inl (q1 39 10))]) (st' := [.inr (.inr (some 70))]) (h1 := hp L q2 c e) rfl ?_
  refine RuP.step (pc' := 32) (ls' := [some (.inr (.inr (some 70))), some (.inl (q1 39 10))]) (st' := [.inr (.inr (some 61))]) (h1 := hp L q2 c e) rfl ?_
  refine RuP.step (pc' := 33) (ls' := [some (.inr (.inr (some 70))), some (.inl (q1 39 10))]) (st' := [.inl (q1 39 10), .inr (.inr (some 61))]) (h1 := hp L q2 c e) rfl ?_
  refine RuP.step (pc' := 34) (ls' := [some (.inr (.inr (some 70))), some (.inl (q1 39 10))]) (st' := [.inr (.inr (some 70)), .inl (q1 39 10), .inr (.inr (some 61))]) (h1 := hp L q2 c e) rfl ?_
  refine RuP.step (pc' := 37) (ls' := [some (.inr (.inr (some 70))), some (.inl (q1 39 10))]) (st' := [.inr (.inr (some 66)), .inl (q1 39 10), .inr (.inr (some 61))]) (h1 := hp L q2 c e) rfl ?_
  refine RuP.step (pc' := 40) (ls' := [some (.inr (.inr (some 70))), some (.inl (q1 39 10))]) (st' := [.inl (q2 66 8), .inl (q1 39 10), .inr (.inr (some 61))]) (h1 := hp L q2 c e) rfl ?_
  refine RuP.step (pc' := 41) (ls' := [some (.inr (.inr (some 70))), some (.inl (q1 39 10))]) (st' := [.inl 1, .inl (q2 66 8), .inl (q1 39 10), .inr (.inr (some 61))]) (h1 := hp L q2 c e) rfl ?_
  obtain ⟨q3, h1, h⟩ := bd_some h
  refine RuP.cV rfl ((ev_38 h1).up (by decide)) ?_
  refine RuP.step (pc' := 45) (ls' := [some (.inr (.inr (some 70))), some (.inl (q1 39 10))]) (st' := [.inr (.inr (some 70))]) (h1 := hp L q3 c e) rfl ?_
  refine RuP.step (pc' := 47) (ls' := [some (.inr (.inr (some 70))), some (.inl (q1 39 10))]) (st' := [.inl 21, .inr (.inr (some 70))]) (h1 := hp L q3 c e) rfl ?_
  refine RuP.step (pc' := 48) (ls' := [some (.inr (.inr (some 70))), some (.inl (q1 39 10))]) (st' := [.inr (.inr (some 70)), .inl 21, .inr (.inr (some 70))]) (h1 := hp L q3 c e) rfl ?_
  refine RuP.step (pc' := 51) (ls' := [some (.inr (.inr (some 70))), some (.inl (q1 39 10))]) (st' := [.inr (.inr (some 31)), .inl 21, .inr (.inr (some 70))]) (h1 := hp L q3 c e) rfl ?_
  refine RuP.step (pc' := 54) (ls' := [some (.inr (.inr (some 70))), some (.inl (q1 39 10))]) (st' := [.inl (q3 31 8), .inl 21, .inr (.inr (some 70))]) (h1 := hp L q3 c e) rfl ?_
  rcases xb_some h with ⟨q4, h1, h⟩ | ⟨xx1, h1, h2⟩
  rotate_left
  · subst h2
    exact RuP.pass rfl rfl ((ev_154 h1).up (by decide))
  refine RuP.cV rfl ((ev_154 h1).up (by decide)) ?_
  cases h
  exact RuP.dV rfl
/-- MachineText$Reader.helper()V -/
noncomputable def j_152_84 (s : Sg) : Option (Sum (Sg) (Nat × Sg)) :=
  (xb (f_92 41 s) fun q3 =>
  (xb (f_93 1 32 q3) fun q4 =>
  (gd (g_190 q4.1 q4.2) (
  ((some (f_190 q4.1 q4.2)).bind fun q5 =>
  (xb (f_92 61 q5) fun q6 =>
  (xb (f_45 100 0 q6) fun q7 =>
  ((f_38 (q6 39 10) (q7 66 8) q4.1 q7).bind fun q8 =>
  (xb (f_92 59 q8) fun q9 =>
  ((f_102 0 q9).bind fun q10 =>
  some (.inl q10)))))))))))
theorem bl_152_84 {L c : Nat} {e : Nat → Nat} : ∀ (d3 : Option ax_V) (z1 z2 : Int) (s : Sg) (q : Sum (Sg) (Nat × Sg)), j_152_84 s = some q → RuP 220 tb_m152 84 [some (.inr (.inr (some 70))), some (.inl z1), some (.inl z2), d3] [] (hp L s c e) (oX L c (oV L c e) q) := by
  intro d3 z1 z2 s q h
  unfold j_152_84 at h
  refine RuP.step (pc' := 85) (ls' := [some (.inr (.inr (some 70))), some (.inl z1), some (.inl z2), d3]) (st' := [.inr (.inr (some 70))]) (h1 := hp L s c e) rfl ?_
  refine RuP.step (pc' := 88) (ls' := [some (.inr (.inr (some 70))), some (.inl z1), some (.inl z2), d3]) (st' := [.inr (.inr (some 39))]) (h1 := hp L s c e) rfl ?_
  refine RuP.step (pc' := 90) (ls' := [some (.inr (.inr (some 70))), some (.inl z1), some (.inl z2), d3]) (st' := [.inl 41, .inr (.inr (some 39))]) (h1 := hp L s c e) rfl ?_
  rcases xb_some h with ⟨q3, h1, h⟩ | ⟨xx1, h1, h2⟩
  rotate_left
  · subst h2
    exact RuP.pass rfl rfl ((ev_92 h1).up (by decide))
  refine RuP.cV rfl ((ev_92 h1).up (by decide)) ?_
  refine RuP.step (pc' := 94) (ls' := [some (.inr (.inr (some 70))), some (.inl z1), some (.inl z2), d3]) (st' := [.inr (.inr (some 70))]) (h1 := hp L q3 c e) rfl ?_
  refine RuP.step (pc' := 97) (ls' := [some (.inr (.inr (some 70))), some (.inl z1), some (.inl z2), d3]) (st' := [.inr (.inr (some 39))]) (h1 := hp L q3 c e) rfl ?_
  refine RuP.step (pc' := 98) (ls' := [some (.inr (.inr (some 70))), some (.inl z1), some (.inl z2), d3]) (st' := [.inl 1, .inr (.inr (some 39))]) (h1 := hp L q3 c e) rfl ?_
  refine RuP.step (pc' := 100) (ls' := [some (.inr (.inr (some 70))), some (.inl z1), some (.inl z2), d3]) (st' := [.inl 32, .inl 1, .inr (.inr (some 39))]) (h1 := hp L q3 c e) rfl ?_
  rcases xb_some h with ⟨q4, h1, h⟩ | ⟨xx1, h1, h2⟩
  rotate_left
  · subst h2
    exact RuP.pass rfl rfl ((ev_93 h1).up (by decide))
  refine RuP.cI rfl ((ev_93 h1).up (by decide)) ?_
  refine RuP.step (pc' := 104) (ls' := [some (.inr (.inr (some 70))), some (.inl z1), some (.inl q4.1), d3]) (st' := []) (h1 := hp L q4.2 c e) rfl ?_
  refine RuP.step (pc' := 105) (ls' := [some (.inr (.inr (some 70))), some (.inl z1), some (.inl q4.1), d3]) (st' := [.inr (.inr (some 70))]) (h1 := hp L q4.2 c e) rfl ?_
  refine RuP.step (pc' := 108) (ls' := [some (.inr (.inr (some 70))), some (.inl z1), some (.inl q4.1), d3]) (st' := [.inr (.inr (some 54))]) (h1 := hp L q4.2 c e) rfl ?_
  refine RuP.step (pc' := 109) (ls' := [some (.inr (.inr (some 70))), some (.inl z1), some (.inl q4.1), d3]) (st' := [.inl q4.1, .inr (.inr (some 54))]) (h1 := hp L q4.2 c e) rfl ?_
  obtain ⟨b0, h⟩ := gd_some h
  obtain ⟨q5, h1, h⟩ := bd_some h
  refine RuP.cVe h1 rfl (EvP.v ((ev_190 q4.1 b0).up (by decide))) ?_
  refine RuP.step (pc' := 113) (ls' := [some (.inr (.inr (some 70))), some (.inl z1), some (.inl q4.1), d3]) (st' := [.inr (.inr (some 70))]) (h1 := hp L q5 c e) rfl ?_
  refine RuP.step (pc' := 116) (ls' := [some (.inr (.inr (some 70))), some (.inl z1), some (.inl q4.1), d3]) (st' := [.inr (.inr (some 39))]) (h1 := hp L q5 c e) rfl ?_
  refine RuP.step (pc' := 118) (ls' := [some (.inr (.inr (some 70))), some (.inl z1), some (.inl q4.1), d3]) (st' := [.inl 61, .inr (.inr (some 39))]) (h1 := hp L q5 c e) rfl ?_
  rcases xb_some h with ⟨q6, h1, h⟩ | ⟨xx1, h1, h2⟩
  rotate_left
  · subst h2
    exact RuP.pass rfl rfl ((ev_92 h1).up (by decide))
  refine RuP.cV rfl ((ev_92 h1).up (by decide)) ?_
  refine RuP.step (pc' := 122) (ls' := [some (.inr (.inr (some 70))), some (.inl z1), some (.inl q4.1), d3]) (st' := [.inr (.inr (some 70))]) (h1 := hp L q6 c e) rfl ?_
  refine RuP.step (pc' := 125) (ls' := [some (.inr (.inr (some 70))), some (.inl z1), some (.inl q4.1), d3]) (st' := [.inr (.inr (some 39))]) (h1 := hp L q6 c e) rfl ?_
  refine RuP.step (pc' := 128) (ls' := [some (.inr (.inr (some 70))), some (.inl z1), some (.inl q4.1), d3]) (st' := [.inl (q6 39 10)]) (h1 := hp L q6 c e) rfl ?_
  refine RuP.step (pc' := 129) (ls' := [some (.inr (.inr (some 70))), some (.inl z1), some (.inl q4.1), some (.inl (q6 39 10))]) (st' := []) (h1 := hp L q6 c e) rfl ?_
  refine RuP.step (pc' := 130) (ls' := [some (.inr (.inr (some 70))), some (.inl z1), some (.inl q4.1), some (.inl (q6 39 10))]) (st' := [.inr (.inr (some 70))]) (h1 := hp L q6 c e) rfl ?_
  refine RuP.step (pc' := 133) (ls' := [some (.inr (.inr (some 70))), some (.inl z1), some (.inl q4.1), some (.inl (q6 39 10))]) (st' := [.inr (.inr (some 66))]) (h1 := hp L q6 c e) rfl ?_
  refine RuP.step (pc' := 134) (ls' := [some (.inr (.inr (some 70))), some (.inl z1), some (.inl q4.1), some (.inl (q6 39 10))]) (st' := [.inl 0, .inr (.inr (some 66))]) (h1 := hp L q6 c e) rfl ?_
  rcases xb_some h with ⟨q7, h1, h⟩ | ⟨xx1, h1, h2⟩
  rotate_left
  · subst h2
    exact RuP.pass rfl rfl ((ev_45 100 _ _ _ h1).up (by decide))
  refine RuP.cV rfl ((ev_45 100 _ _ _ h1).up (by decide)) ?_
  refine RuP.step (pc' := 138) (ls' := [some (.inr (.inr (some 70))), some (.inl z1), some (.inl q4.1), some (.inl (q6 39 10))]) (st' := [.inr (.inr (some 70))]) (h1 := hp L q7 c e) rfl ?_
  refine RuP.step (pc' := 141) (ls' := [some (.inr (.inr (some 70))), some (.inl z1), some (.inl q4.1), some (.inl (q6 39 10))]) (st' := [.inr (.inr (some 61))]) (h1 := hp L q7 c e) rfl ?_
  refine RuP.step (pc' := 142) (ls' := [some (.inr (.inr (some 70))), some (.inl z1), some (.inl q4.1), some (.inl (q6 39 10))]) (st' := [.inl (q6 39 10), .inr (.inr (some 61))]) (h1 := hp L q7 c e) rfl ?_
  refine RuP.step (pc' := 143) (ls' := [some (.inr (.inr (some 70))), some (.inl z1), some (.inl q4.1), some (.inl (q6 39 10))]) (st' := [.inr (.inr (some 70)), .inl (q6 39 10), .inr (.inr (some 61))]) (h1 := hp L q7 c e) rfl ?_
  refine RuP.step (pc' := 146) (ls' := [some (.inr (.inr (some 70))), some (.inl z1), some (.inl q4.1), some (.inl (q6 39 10))]) (st' := [.inr (.inr (some 66)), .inl (q6 39 10), .inr (.inr (some 61))]) (h1 := hp L q7 c e) rfl ?_
  refine RuP.step (pc' := 149) (ls' := [some (.inr (.inr (some 70))), some (.inl z1), some (.inl q4.1), some (.inl (q6 39 10))]) (st' := [.inl (q7 66 8), .inl (q6 39 10), .inr (.inr (some 61))]) (h1 := hp L q7 c e) rfl ?_
  refine RuP.step (pc' := 150) (ls' := [some (.inr (.inr (some 70))), some (.inl z1), some (.inl q4.1), some (.inl (q6 39 10))]) (st' := [.inl q4.1, .inl (q7 66 8), .inl (q6 39 10), .inr (.inr (some 61))]) (h1 := hp L q7 c e) rfl ?_
  obtain ⟨q8, h1, h⟩ := bd_some h
  refine RuP.cV rfl ((ev_38 h1).up (by decide)) ?_
  refine RuP.step (pc' := 154) (ls' := [some (.inr (.inr (some 70))), some (.inl z1), some (.inl q4.1), some (.inl (q6 39 10))]) (st' := [.inr (.inr (some 70))]) (h1 := hp L q8 c e) rfl ?_
  refine RuP.step (pc' := 157) (ls' := [some (.inr (.inr (some 70))), some (.inl z1), some (.inl q4.1), some (.inl (q6 39 10))]) (st' := [.inr (.inr (some 39))]) (h1 := hp L q8 c e) rfl ?_
  refine RuP.step (pc' := 159) (ls' := [some (.inr (.inr (some 70))), some (.inl z1), some (.inl q4.1), some (.inl (q6 39 10))]) (st' := [.inl 59, .inr (.inr (some 39))]) (h1 := hp L q8 c e) rfl ?_
  rcases xb_some h with ⟨q9, h1, h⟩ | ⟨xx1, h1, h2⟩
  rotate_left
  · subst h2
    exact RuP.pass rfl rfl ((ev_92 h1).up (by decide))
  refine RuP.cV rfl ((ev_92 h1).up (by decide)) ?_
  refine RuP.step (pc' := 163) (ls' := [some (.inr (.inr (some 70))), some (.inl z1), some (.inl q4.1), some (.inl (q6 39 10))]) (st' := [.inr (.inr (some 70))]) (h1 := hp L q9 c e) rfl ?_
  refine RuP.step (pc' := 166) (ls' := [some (.inr (.inr (some 70))), some (.inl z1), some (.inl q4.1), some (.inl (q6 39 10))]) (st' := [.inr (.inr (some 31))]) (h1 := hp L q9 c e) rfl ?_
  refine RuP.step (pc' := 167) (ls' := [some (.inr (.inr (some 70))), some (.inl z1), some (.inl q4.1), some (.inl (q6 39 10))]) (st' := [.inl 0, .inr (.inr (some 31))]) (h1 := hp L q9 c e) rfl ?_
  obtain ⟨q10, h1, h⟩ := bd_some h
  refine RuP.cV rfl ((ev_102 h1).up (by decide)) ?_
  cases h
  exact RuP.dV rfl
noncomputable def j_152_78 (k34 : (Int → Int → Sg → Option (Sum (Sg) (Nat × Sg)))) (l1 l2 : Int) (s : Sg) : Option (Sum (Sg) (Nat × Sg)) :=
  k34 l1 (ax_w32 (l2 + 1)) s
theorem bl_152_78 {L c : Nat} {e : Nat → Nat} {k34 : (Int → Int → Sg → Option (Sum (Sg) (Nat × Sg)))} (hk34 : ∀ (d3 : Option ax_V) (l1 l2 : Int) (s : Sg) (q : Sum (Sg) (Nat × Sg)), k34 l1 l2 s = some q → RuP 220 tb_m152 34 [some (.inr (.inr (some 70))), some (.inl l1), some (.inl l2), d3] [] (hp L s c e) (oX L c (oV L c e) q)) : ∀ (d3 : Option ax_V) (l1 l2 : Int) (s : Sg) (q : Sum (Sg) (Nat × Sg)), j_152_78 k34 l1 l2 s = some q → RuP 220 tb_m152 78 [some (.inr (.inr (some 70))), some (.inl l1), some (.inl l2), d3] [] (hp L s c e) (oX L c (oV L c e) q) := by
  intro d3 l1 l2 s q h
  unfold j_152_78 at h
  refine RuP.step (pc' := 81) (ls' := [some (.inr (.inr (some 70))), some (.inl l1), some (.inl (ax_w32 (l2 + 1))), d3]) (st' := []) (h1 := hp L s c e) rfl ?_
  refine RuP.step (pc' := 34) (ls' := [some (.inr (.inr (some 70))), some (.inl l1), some (.inl (ax_w32 (l2 + 1))), d3]) (st' := []) (h1 := hp L s c e) rfl ?_
  exact hk34 _ _ _ _ _ h
noncomputable def j_152_34 : Nat → Int → Int → Sg → Option (Sum (Sg) (Nat × Sg))
  | 0, _, _, _ => none
  | F + 1, l1, l2, s =>
    (if l1 = 0 then
      j_152_84 s
    else
      (if 8192 < l2 then
        j_152_84 s
      else
        (xb (f_157 s) fun q11 =>
        (if ((if ¬ (q11 39 11) = 44 then 0 else 1) : Int) = 0 then
          j_152_78 (j_152_34 F) ((if ¬ (q11 39 11) = 44 then 0 else 1) : Int) l2 q11
        else
          (gd (g_94 q11) (
          ((some (f_94 q11)).bind fun q12 =>
          j_152_78 (j_152_34 F) ((if ¬ (q11 39 11) = 44 then 0 else 1) : Int) l2 q12)))))))
theorem bl_152_34 {L c : Nat} {e : Nat → Nat} : ∀ (F : Nat) (d3 : Option ax_V) (l1 l2 : Int) (s : Sg) (q : Sum (Sg) (Nat × Sg)), j_152_34 F l1 l2 s = some q → RuP 220 tb_m152 34 [some (.inr (.inr (some 70))), some (.inl l1), some (.inl l2), d3] [] (hp L s c e) (oX L c (oV L c e) q) := by
  intro F
  induction F with
  | zero =>
    intro d3 l1 l2 s q h
    rw [j_152_34] at h
    cases h
  | succ F ih =>
    intro d3 l1 l2 s q h
    rw [j_152_34] at h
    refine RuP.step (pc' := 35) (ls' := [some (.inr (.inr (some 70))), some (.inl l1), some (.inl l2), d3]) (st' := [.inl l1]) (h1 := hp L s c e) rfl ?_
    by_cases h0 : l1 = 0
    · rw [if_pos h0] at h
      refine RuP.jy rfl h0 ?_
      exact bl_152_84 _ _ _ _ _ h
    · rw [if_neg h0] at h
      refine RuP.jn rfl h0 ?_
      refine RuP.step (pc' := 39) (ls' := [some (.inr (.inr (some 70))), some (.inl l1), some (.inl l2), d3]) (st' := [.inl l2]) (h1 := hp L s c e) rfl ?_
      refine RuP.step (pc' := 42) (ls' := [some (.inr (.inr (some 70))), some (.inl l1), some (.inl l2), d3]) (st' := [.inl 8192, .inl l2]) (h1 := hp L s c e) rfl ?_
      by_cases h1 : 8192 < l2
      · rw [if_pos h1] at h
        refine RuP.jy rfl h1 ?_
        exact bl_152_84 _ _ _ _ _ h
      · rw [if_neg h1] at h
        refine RuP.jn rfl h1 ?_
        refine RuP.step (pc' := 46) (ls' := [some (.inr (.inr (some 70))), some (.inl l1), some (.inl l2), d3]) (st' := [.inr (.inr (some 70))]) (h1 := hp L s c e) rfl ?_
        rcases xb_some h with ⟨q11, h1, h⟩ | ⟨xx1, h1, h2⟩
        rotate_left
        · subst h2
          exact RuP.pass rfl rfl ((ev_157 h1).up (by decide))
        refine RuP.cV rfl ((ev_157 h1).up (by decide)) ?_
        refine RuP.step (pc' := 50) (ls' := [some (.inr (.inr (some 70))), some (.inl l1), some (.inl l2), d3]) (st' := [.inr (.inr (some 70))]) (h1 := hp L q11 c e) rfl ?_
        refine RuP.step (pc' := 53) (ls' := [some (.inr (.inr (some 70))), some (.inl l1), some (.inl l2), d3]) (st' := [.inr (.inr (some 39))]) (h1 := hp L q11 c e) rfl ?_
        refine RuP.step (pc' := 56) (ls' := [some (.inr (.inr (some 70))), some (.inl l1), some (.inl l2), d3]) (st' := [.inl (q11 39 11)]) (h1 := hp L q11 c e) rfl ?_
        refine RuP.step (pc' := 58) (ls' := [some (.inr (.inr (some 70))), some (.inl l1), some (.inl l2), d3]) (st' := [.inl 44, .inl (q11 39 11)]) (h1 := hp L q11 c e) rfl ?_
        have J3 : ∀ v2_0 : Int, v2_0 = ((if ¬ (q11 39 11) = 44 then 0 else 1) : Int) → RuP 220 tb_m152 66 [some (.inr (.inr (some 70))), some (.inl l1), some (.inl l2), d3] [.inl v2_0] (hp L q11 c e) (oX L c (oV L c e) q) := by
          intro v2_0 ev2_0
          subst ev2_0
          refine RuP.step (pc' := 67) (ls' := [some (.inr (.inr (some 70))), some (.inl ((if ¬ (q11 39 11) = 44 then 0 else 1) : Int)), some (.inl l2), d3]) (st' := []) (h1 := hp L q11 c e) rfl ?_
          refine RuP.step (pc' := 68) (ls' := [some (.inr (.inr (some 70))), some (.inl ((if ¬ (q11 39 11) = 44 then 0 else 1) : Int)), some (.inl l2), d3]) (st' := [.inl ((if ¬ (q11 39 11) = 44 then 0 else 1) : Int)]) (h1 := hp L q11 c e) rfl ?_
          by_cases h3 : ((if ¬ (q11 39 11) = 44 then 0 else 1) : Int) = 0
          · rw [if_pos h3] at h
            refine RuP.jy rfl h3 ?_
            exact bl_152_78 ih _ _ _ _ _ h
          · rw [if_neg h3] at h
            refine RuP.jn rfl h3 ?_
            refine RuP.step (pc' := 72) (ls' := [some (.inr (.inr (some 70))), some (.inl ((if ¬ (q11 39 11) = 44 then 0 else 1) : Int)), some (.inl l2), d3]) (st' := [.inr (.inr (some 70))]) (h1 := hp L q11 c e) rfl ?_
            refine RuP.step (pc' := 75) (ls' := [some (.inr (.inr (some 70))), some (.inl ((if ¬ (q11 39 11) = 44 then 0 else 1) : Int)), some (.inl l2), d3]) (st' := [.inr (.inr (some 39))]) (h1 := hp L q11 c e) rfl ?_
            obtain ⟨b4, h⟩ := gd_some h
            obtain ⟨q12, h1, h⟩ := bd_some h
            refine RuP.cVe h1 rfl (EvP.v ((ev_94  b4).up (by decide))) ?_
            exact bl_152_78 ih _ _ _ _ _ h
        by_cases h5 : ¬ (q11 39 11) = 44
        · refine RuP.jy rfl h5 ?_
          refine RuP.step (pc' := 66) (ls' := [some (.inr (.inr (some 70))), some (.inl l1), some (.inl l2), d3]) (st' := [.inl 0]) (h1 := hp L q11 c e) rfl ?_
          exact J3 _ (by simp only [if_pos h5])
        · refine RuP.jn rfl h5 ?_
          refine RuP.step (pc' := 62) (ls' := [some (.inr (.inr (some 70))), some (.inl l1), some (.inl l2), d3]) (st' := [.inl 1]) (h1 := hp L q11 c e) rfl ?_
          refine RuP.step (pc' := 66) (ls' := [some (.inr (.inr (some 70))), some (.inl l1), some (.inl l2), d3]) (st' := [.inl 1]) (h1 := hp L q11 c e) rfl ?_
          exact J3 _ (by simp only [if_neg h5])
noncomputable def f_152 (s : Sg) : Option (Sum (Sg) (Nat × Sg)) :=
  (xb (f_156 2 s) fun q1 =>
  (xb (f_92 40 q1) fun q2 =>
  j_152_34 FU ((if q2 39 11 = 41 then 0 else 1) : Int) 0 q2))
theorem ev_152 {L c : Nat} {e : Nat → Nat} {s : Sg} {q : Sum (Sg) (Nat × Sg)} (h : f_152 s = some q) : EvP 221 152 [.inr (.inr (some 70))] (hp L s c e) (oX L c (oV L c e) q) := by
  unfold f_152 at h
  refine EvP.of (μ := tb_m152) (ls := [some (.inr (.inr (some 70))), none, none, none]) rfl (Nat.le_of_ble_eq_true rfl) rfl ?_
  refine RuP.step (pc' := 1) (ls' := [some (.inr (.inr (some 70))), none, none, none]) (st' := [.inr (.inr (some 70))]) (h1 := hp L s c e) rfl ?_
  refine RuP.step (pc' := 2) (ls' := [some (.inr (.inr (some 70))), none, none, none]) (st' := [.inl 2, .inr (.inr (some 70))]) (h1 := hp L s c e) rfl ?_
  rcases xb_some h with ⟨q1, h1, h⟩ | ⟨xx1, h1, h2⟩
  rotate_left
  · subst h2
    exact RuP.pass rfl rfl ((ev_156 h1).up (by decide))
  refine RuP.cV rfl ((ev_156 h1).up (by decide)) ?_
  refine RuP.step (pc' := 6) (ls' := [some (.inr (.inr (some 70))), none, none, none]) (st' := [.inr (.inr (some 70))]) (h1 := hp L q1 c e) rfl ?_
  refine RuP.step (pc' := 9) (ls' := [some (.inr (.inr (some 70))), none, none, none]) (st' := [.inr (.inr (some 39))]) (h1 := hp L q1 c e) rfl ?_
  refine RuP.step (pc' := 11) (ls' := [some (.inr (.inr (some 70))), none, none, none]) (st' := [.inl 40, .inr (.inr (some 39))]) (h1 := hp L q1 c e) rfl ?_
  rcases xb_some h with ⟨q2, h1, h⟩ | ⟨xx1, h1, h2⟩
  rotate_left
  · subst h2
    exact RuP.pass rfl rfl ((ev_92 h1).up (by decide))
  refine RuP.cV rfl ((ev_92 h1).up (by decide)) ?_
  refine RuP.step (pc' := 15) (ls' := [some (.inr (.inr (some 70))), none, none, none]) (st' := [.inr (.inr (some 70))]) (h1 := hp L q2 c e) rfl ?_
  refine RuP.step (pc' := 18) (ls' := [some (.inr (.inr (some 70))), none, none, none]) (st' := [.inr (.inr (some 39))]) (h1 := hp L q2 c e) rfl ?_
  refine RuP.step (pc' := 21) (ls' := [some (.inr (.inr (some 70))), none, none, none]) (st' := [.inl (q2 39 11)]) (h1 := hp L q2 c e) rfl ?_
  refine RuP.step (pc' := 23) (ls' := [some (.inr (.inr (some 70))), none, none, none]) (st' := [.inl 41, .inl (q2 39 11)]) (h1 := hp L q2 c e) rfl ?_
  have J1 : ∀ v0_0 : Int, v0_0 = ((if q2 39 11 = 41 then 0 else 1) : Int) → RuP 220 tb_m152 31 [some (.inr (.inr (some 70))), none, none, none] [.inl v0_0] (hp L q2 c e) (oX L c (oV L c e) q) := by
    intro v0_0 ev0_0
    subst ev0_0
    refine RuP.step (pc' := 32) (ls' := [some (.inr (.inr (some 70))), some (.inl ((if q2 39 11 = 41 then 0 else 1) : Int)), none, none]) (st' := []) (h1 := hp L q2 c e) rfl ?_
    refine RuP.step (pc' := 33) (ls' := [some (.inr (.inr (some 70))), some (.inl ((if q2 39 11 = 41 then 0 else 1) : Int)), none, none]) (st' := [.inl 0]) (h1 := hp L q2 c e) rfl ?_
    refine RuP.step (pc' := 34) (ls' := [some (.inr (.inr (some 70))), some (.inl ((if q2 39 11 = 41 then 0 else 1) : Int)), some (.inl 0), none]) (st' := []) (h1 := hp L q2 c e) rfl ?_
    exact bl_152_34 FU _ _ _ _ _ h
  by_cases h1 : q2 39 11 = 41
  · refine RuP.jy rfl h1 ?_
    refine RuP.step (pc' := 31) (ls' := [some (.inr (.inr (some 70))), none, none, none]) (st' := [.inl 0]) (h1 := hp L q2 c e) rfl ?_
    exact J1 _ (by simp only [if_pos h1])
  · refine RuP.jn rfl h1 ?_
    refine RuP.step (pc' := 27) (ls' := [some (.inr (.inr (some 70))), none, none, none]) (st' := [.inl 1]) (h1 := hp L q2 c e) rfl ?_
    refine RuP.step (pc' := 31) (ls' := [some (.inr (.inr (some 70))), none, none, none]) (st' := [.inl 1]) (h1 := hp L q2 c e) rfl ?_
    exact J1 _ (by simp only [if_neg h1])
/-- MachineText$Rings.search()V -/
noncomputable def j_164_39 (l1 : Int) (s : Sg) : Option Sg :=
  ((f_169 l1 s).bind fun q5 =>
  (gd (g_187 l1 q5) (
  (gd (g_80 (f_187 l1 q5) q5) (
  (gd (g_71 8 (f_80 (f_187 l1 q5) q5) q5) (
  ((some (f_71 8 (f_80 (f_187 l1 q5) q5) q5)).bind fun q6 =>
  some q6))))))))
theorem bl_164_39 {L c : Nat} {e : Nat → Nat} : ∀ (l1 : Int) (s : Sg) (q : Sg), j_164_39 l1 s = some q → RuP 5 tb_m164 39 [some (.inr (.inr (some 74))), some (.inl l1)] [] (hp L s c e) (oV L c e q) := by
  intro l1 s q h
  unfold j_164_39 at h
  refine RuP.step (pc' := 40) (ls' := [some (.inr (.inr (some 74))), some (.inl l1)]) (st' := [.inr (.inr (some 74))]) (h1 := hp L s c e) rfl ?_
  refine RuP.step (pc' := 41) (ls' := [some (.inr (.inr (some 74))), some (.inl l1)]) (st' := [.inl l1, .inr (.inr (some 74))]) (h1 := hp L s c e) rfl ?_
  obtain ⟨q5, h1, h⟩ := bd_some h
  refine RuP.cV rfl ((ev_169 h1).up (by decide)) ?_
  refine RuP.step (pc' := 45) (ls' := [some (.inr (.inr (some 74))), some (.inl l1)]) (st' := [.inr (.inr (some 74))]) (h1 := hp L q5 c e) rfl ?_
  refine RuP.step (pc' := 48) (ls' := [some (.inr (.inr (some 74))), some (.inl l1)]) (st' := [.inr (.inr (some 29))]) (h1 := hp L q5 c e) rfl ?_
  refine RuP.step (pc' := 50) (ls' := [some (.inr (.inr (some 74))), some (.inl l1)]) (st' := [.inl 8, .inr (.inr (some 29))]) (h1 := hp L q5 c e) rfl ?_
  refine RuP.step (pc' := 51) (ls' := [some (.inr (.inr (some 74))), some (.inl l1)]) (st' := [.inr (.inr (some 74)), .inl 8, .inr (.inr (some 29))]) (h1 := hp L q5 c e) rfl ?_
  refine RuP.step (pc' := 54) (ls' := [some (.inr (.inr (some 74))), some (.inl l1)]) (st' := [.inr (.inr (some 39)), .inl 8, .inr (.inr (some 29))]) (h1 := hp L q5 c e) rfl ?_
  refine RuP.step (pc' := 55) (ls' := [some (.inr (.inr (some 74))), some (.inl l1)]) (st' := [.inr (.inr (some 74)), .inr (.inr (some 39)), .inl 8, .inr (.inr (some 29))]) (h1 := hp L q5 c e) rfl ?_
  refine RuP.step (pc' := 58) (ls' := [some (.inr (.inr (some 74))), some (.inl l1)]) (st' := [.inr (.inr (some 54)), .inr (.inr (some 39)), .inl 8, .inr (.inr (some 29))]) (h1 := hp L q5 c e) rfl ?_
  refine RuP.step (pc' := 59) (ls' := [some (.inr (.inr (some 74))), some (.inl l1)]) (st' := [.inl l1, .inr (.inr (some 54)), .inr (.inr (some 39)), .inl 8, .inr (.inr (some 29))]) (h1 := hp L q5 c e) rfl ?_
  obtain ⟨b0, h⟩ := gd_some h
  refine RuP.cI rfl (EvP.i ((ev_187 l1 b0).up (by decide))) ?_
  obtain ⟨b1, h⟩ := gd_some h
  refine RuP.cI rfl (EvP.i ((ev_80 (f_187 l1 q5) b1).up (by decide))) ?_
  obtain ⟨b2, h⟩ := gd_some h
  obtain ⟨q6, h1, h⟩ := bd_some h
  refine RuP.cVe h1 rfl (EvP.v ((ev_71 8 (f_80 (f_187 l1 q5) q5) b2).up (by decide))) ?_
  cases h
  exact RuP.dV rfl
noncomputable def j_164_14 : Nat → Int → Sg → Option Sg
  | 0, _, _ => none
  | F + 1, l1, s =>
    (if s 54 6 ≤ l1 then
      some s
    else
      ((f_167 l1 s).bind fun q3 =>
      ((f_168 l1 q3).bind fun q4 =>
      (if q4 = (-1) then
        (j_164_14 F) (ax_w32 (l1 + 1)) q3
      else
        j_164_39 l1 q3))))
theorem bl_164_14 {L c : Nat} {e : Nat → Nat} : ∀ (F : Nat) (l1 : Int) (s : Sg) (q : Sg), j_164_14 F l1 s = some q → RuP 5 tb_m164 14 [some (.inr (.inr (some 74))), some (.inl l1)] [] (hp L s c e) (oV L c e q) := by
  intro F
  induction F with
  | zero =>
    intro l1 s q h
    rw [j_164_14] at h
    cases h
  | succ F ih =>
    intro l1 s q h
    rw [j_164_14] at h
    refine RuP.step (pc' := 15) (ls' := [some (.inr (.inr (some 74))), some (.inl l1)]) (st' := [.inl l1]) (h1 := hp L s c e) rfl ?_
    refine RuP.step (pc' := 16) (ls' := [some (.inr (.inr (some 74))), some (.inl l1)]) (st' := [.inr (.inr (some 74)), .inl l1]) (h1 := hp L s c e) rfl ?_
    refine RuP.step (pc' := 19) (ls' := [some (.inr (.inr (some 74))), some (.inl l1)]) (st' := [.inr (.inr (some 54)), .inl l1]) (h1 := hp L s c e) rfl ?_
    refine RuP.step (pc' := 22) (ls' := [some (.inr (.inr (some 74))), some (.inl l1)]) (st' := [.inl (s 54 6), .inl l1]) (h1 := hp L s c e) rfl ?_
    by_cases h0 : s 54 6 ≤ l1
    · rw [if_pos h0] at h
      refine RuP.jy rfl h0 ?_
      cases h
      exact RuP.dV rfl
    · rw [if_neg h0] at h
      refine RuP.jn rfl h0 ?_
      refine RuP.step (pc' := 26) (ls' := [some (.inr (.inr (some 74))), some (.inl l1)]) (st' := [.inr (.inr (some 74))]) (h1 := hp L s c e) rfl ?_
      refine RuP.step (pc' := 27) (ls' := [some (.inr (.inr (some 74))), some (.inl l1)]) (st' := [.inl l1, .inr (.inr (some 74))]) (h1 := hp L s c e) rfl ?_
      obtain ⟨q3, h1, h⟩ := bd_some h
      refine RuP.cV rfl ((ev_167 h1).up (by decide)) ?_
      refine RuP.step (pc' := 31) (ls' := [some (.inr (.inr (some 74))), some (.inl l1)]) (st' := [.inr (.inr (some 74))]) (h1 := hp L q3 c e) rfl ?_
      refine RuP.step (pc' := 32) (ls' := [some (.inr (.inr (some 74))), some (.inl l1)]) (st' := [.inl l1, .inr (.inr (some 74))]) (h1 := hp L q3 c e) rfl ?_
      obtain ⟨q4, h1, h⟩ := bd_some h
      refine RuP.cI rfl ((ev_168 h1).up (by decide)) ?_
      refine RuP.step (pc' := 36) (ls' := [some (.inr (.inr (some 74))), some (.inl l1)]) (st' := [.inl (-1), .inl q4]) (h1 := hp L q3 c e) rfl ?_
      by_cases h1 : q4 = (-1)
      · rw [if_pos h1] at h
        refine RuP.jy rfl h1 ?_
        refine RuP.step (pc' := 72) (ls' := [some (.inr (.inr (some 74))), some (.inl (ax_w32 (l1 + 1)))]) (st' := []) (h1 := hp L q3 c e) rfl ?_
        refine RuP.step (pc' := 14) (ls' := [some (.inr (.inr (some 74))), some (.inl (ax_w32 (l1 + 1)))]) (st' := []) (h1 := hp L q3 c e) rfl ?_
        exact ih _ _ _ h
      · rw [if_neg h1] at h
        refine RuP.jn rfl h1 ?_
        exact bl_164_39 _ _ _ h
noncomputable def f_164 (s : Sg) : Option Sg :=
  ((f_165 s).bind fun q1 =>
  ((f_166 q1).bind fun q2 =>
  (if q2.1 = 0 then
    j_164_14 FU 0 q2.2
  else
    some q2.2)))
theorem ev_164 {L c : Nat} {e : Nat → Nat} {s : Sg} {q : Sg} (h : f_164 s = some q) : EvP 6 164 [.inr (.inr (some 74))] (hp L s c e) (oV L c e q) := by
  unfold f_164 at h
  refine EvP.of (μ := tb_m164) (ls := [some (.inr (.inr (some 74))), none]) rfl (Nat.le_of_ble_eq_true rfl) rfl ?_
  refine RuP.step (pc' := 1) (ls' := [some (.inr (.inr (some 74))), none]) (st' := [.inr (.inr (some 74))]) (h1 := hp L s c e) rfl ?_
  obtain ⟨q1, h1, h⟩ := bd_some h
  refine RuP.cV rfl ((ev_165 h1).up (by decide)) ?_
  refine RuP.step (pc' := 5) (ls' := [some (.inr (.inr (some 74))), none]) (st' := [.inr (.inr (some 74))]) (h1 := hp L q1 c e) rfl ?_
  obtain ⟨q2, h1, h⟩ := bd_some h
  refine RuP.cI rfl ((ev_166 h1).up (by decide)) ?_
  by_cases h0 : q2.1 = 0
  · rw [if_pos h0] at h
    refine RuP.jy rfl h0 ?_
    refine RuP.step (pc' := 13) (ls' := [some (.inr (.inr (some 74))), none]) (st' := [.inl 0]) (h1 := hp L q2.2 c e) rfl ?_
    refine RuP.step (pc' := 14) (ls' := [some (.inr (.inr (some 74))), some (.inl 0)]) (st' := []) (h1 := hp L q2.2 c e) rfl ?_
    exact bl_164_14 FU _ _ _ h
  · rw [if_neg h0] at h
    refine RuP.jn rfl h0 ?_
    cases h
    exact RuP.dV rfl
/-- MachineTextModel.statement(II)I -/
noncomputable def j_198_25 (s : Sg) : Option (Int × Sg) :=
  ((some (f_206 1 s)).bind fun q1 =>
  some (q1.1, q1.2))
theorem bl_198_25 {L c : Nat} {e : Nat → Nat} : ∀ (z1 z2 : Int) (s : Sg) (q : Int × Sg), j_198_25 s = some q → RuP 3 tb_m198 25 [some (.inr (.inr (some 84))), some (.inl z1), some (.inl z2)] [] (hp L s c e) (oI L c e q) := by
  intro z1 z2 s q h
  unfold j_198_25 at h
  refine RuP.step (pc' := 26) (ls' := [some (.inr (.inr (some 84))), some (.inl z1), some (.inl z2)]) (st' := [.inr (.inr (some 84))]) (h1 := hp L s c e) rfl ?_
  refine RuP.step (pc' := 27) (ls' := [some (.inr (.inr (some 84))), some (.inl z1), some (.inl z2)]) (st' := [.inl 1, .inr (.inr (some 84))]) (h1 := hp L s c e) rfl ?_
  obtain ⟨q1, h1, h⟩ := bd_some h
  refine RuP.cIe h1 rfl (EvP.ip ((ev_206 1).up (by decide))) ?_
  cases h
  exact RuP.dI rfl
noncomputable def j_198_71 (t0 : Int) (s : Sg) : Option (Int × Sg) :=
  ((f_218 t0 s).bind fun q3 =>
  some (ax_w32 q3, s))
theorem bl_198_71 {L c : Nat} {e : Nat → Nat} : ∀ (z1 z2 : Int) (t0 : Int) (s : Sg) (q : Int × Sg), j_198_71 t0 s = some q → RuP 3 tb_m198 71 [some (.inr (.inr (some 84))), some (.inl z1), some (.inl z2)] [.inl t0, .inr (.inr (some 84))] (hp L s c e) (oI L c e q) := by
  intro z1 z2 t0 s q h
  unfold j_198_71 at h
  obtain ⟨q3, h1, h⟩ := bd_some h
  refine RuP.cJ rfl ((ev_218 h1).up (by decide)) ?_
  refine RuP.step (pc' := 75) (ls' := [some (.inr (.inr (some 84))), some (.inl z1), some (.inl z2)]) (st' := [.inl (ax_w32 q3)]) (h1 := hp L s c e) rfl ?_
  cases h
  exact RuP.dI rfl
noncomputable def f_198 (x0 x1 : Int) (s : Sg) : Option (Int × Sg) :=
  (if f_217 x0 (ax_u2 s 84 0 0) = 0 then
    j_198_25 (ax_u2 s 84 0 0)
  else
    (if ¬ (f_207 x1 0 4 (ax_u2 s 84 0 0)) = 0 then
      (if ¬ x1 = 0 then
        (if ¬ x1 = 1 then
          (if ¬ x1 = 2 then
            (if ¬ x1 = 3 then
              (gd (0 ≤ x0 ∧ x0 < 4100) (
              some (s 103 x0.toNat, (ax_u2 s 84 0 0))))
            else
              (gd (0 ≤ x0 ∧ x0 < 4100) (
              some (s 102 x0.toNat, (ax_u2 s 84 0 0)))))
          else
            (gd (0 ≤ x0 ∧ x0 < 4100) (
            (if s 94 x0.toNat ≤ 1 then
              (gd (0 ≤ x0 ∧ x0 < 4100) (
              (if 0 ≤ s 96 x0.toNat then
                (gd (0 ≤ x0 ∧ x0 < 4100) (
                ((f_218 (s 96 x0.toNat) (ax_u2 s 84 0 0)).bind fun q2 =>
                some (ax_w32 q2, (ax_u2 s 84 0 0)))))
              else
                some (0, (ax_u2 s 84 0 0)))))
            else
              (gd (0 ≤ x0 ∧ x0 < 4100) (
              some (s 99 x0.toNat, (ax_u2 s 84 0 0))))))))
        else
          (gd (0 ≤ x0 ∧ x0 < 4100) (
          (if ¬ (s 94 x0.toNat) = 3 then
            (gd (0 ≤ x0 ∧ x0 < 4100) (
            j_198_71 (s 97 x0.toNat) (ax_u2 s 84 0 0)))
          else
            j_198_71 (s 84 30) (ax_u2 s 84 0 0)))))
      else
        (gd (0 ≤ x0 ∧ x0 < 4100) (
        some (s 94 x0.toNat, (ax_u2 s 84 0 0)))))
    else
      j_198_25 (ax_u2 s 84 0 0)))
theorem ev_198 {L c : Nat} {e : Nat → Nat} {s : Sg} {x0 x1 : Int} {q : Int × Sg} (h : f_198 x0 x1 s = some q) : EvP 4 198 [.inr (.inr (some 84)), .inl x0, .inl x1] (hp L s c e) (oI L c e q) := by
  unfold f_198 at h
  refine EvP.of (μ := tb_m198) (ls := [some (.inr (.inr (some 84))), some (.inl x0), some (.inl x1)]) rfl (Nat.le_of_ble_eq_true rfl) rfl ?_
  refine RuP.step (pc' := 1) (ls' := [some (.inr (.inr (some 84))), some (.inl x0), some (.inl x1)]) (st' := [.inr (.inr (some 84))]) (h1 := hp L s c e) rfl ?_
  refine RuP.step (pc' := 2) (ls' := [some (.inr (.inr (some 84))), some (.inl x0), some (.inl x1)]) (st' := [.inl 0, .inr (.inr (some 84))]) (h1 := hp L s c e) rfl ?_
  refine RuP.step (pc' := 5) (ls' := [some (.inr (.inr (some 84))), some (.inl x0), some (.inl x1)]) (st' := []) (h1 := hp L (ax_u2 s 84 0 0) c e) rfl ?_
  refine RuP.step (pc' := 6) (ls' := [some (.inr (.inr (some 84))), some (.inl x0), some (.inl x1)]) (st' := [.inr (.inr (some 84))]) (h1 := hp L (ax_u2 s 84 0 0) c e) rfl ?_
  refine RuP.step (pc' := 7) (ls' := [some (.inr (.inr (some 84))), some (.inl x0), some (.inl x1)]) (st' := [.inl x0, .inr (.inr (some 84))]) (h1 := hp L (ax_u2 s 84 0 0) c e) rfl ?_
  refine RuP.cI rfl (EvP.i ((ev_217 x0).up (by decide))) ?_
  by_cases h0 : f_217 x0 (ax_u2 s 84 0 0) = 0
  · rw [if_pos h0] at h
    refine RuP.jy rfl h0 ?_
    exact bl_198_25 _ _ _ _ h
  · rw [if_neg h0] at h
    refine RuP.jn rfl h0 ?_
    refine RuP.step (pc' := 14) (ls' := [some (.inr (.inr (some 84))), some (.inl x0), some (.inl x1)]) (st' := [.inl x1]) (h1 := hp L (ax_u2 s 84 0 0) c e) rfl ?_
    refine RuP.step (pc' := 15) (ls' := [some (.inr (.inr (some 84))), some (.inl x0), some (.inl x1)]) (st' := [.inr (.inl x1)]) (h1 := hp L (ax_u2 s 84 0 0) c e) rfl ?_
    refine RuP.step (pc' := 16) (ls' := [some (.inr (.inr (some 84))), some (.inl x0), some (.inl x1)]) (st' := [.inr (.inl 0), .inr (.inl x1)]) (h1 := hp L (ax_u2 s 84 0 0) c e) rfl ?_
    refine RuP.step (pc' := 19) (ls' := [some (.inr (.inr (some 84))), some (.inl x0), some (.inl x1)]) (st' := [.inr (.inl 4), .inr (.inl 0), .inr (.inl x1)]) (h1 := hp L (ax_u2 s 84 0 0) c e) rfl ?_
    refine RuP.cI rfl (EvP.i ((ev_207 x1 0 4).up (by decide))) ?_
    by_cases h1 : ¬ (f_207 x1 0 4 (ax_u2 s 84 0 0)) = 0
    · rw [if_pos h1] at h
      refine RuP.jy rfl h1 ?_
      refine RuP.step (pc' := 32) (ls' := [some (.inr (.inr (some 84))), some (.inl x0), some (.inl x1)]) (st' := [.inl x1]) (h1 := hp L (ax_u2 s 84 0 0) c e) rfl ?_
      by_cases h2 : ¬ x1 = 0
      · rw [if_pos h2] at h
        refine RuP.jy rfl h2 ?_
        refine RuP.step (pc' := 43) (ls' := [some (.inr (.inr (some 84))), some (.inl x0), some (.inl x1)]) (st' := [.inl x1]) (h1 := hp L (ax_u2 s 84 0 0) c e) rfl ?_
        refine RuP.step (pc' := 44) (ls' := [some (.inr (.inr (some 84))), some (.inl x0), some (.inl x1)]) (st' := [.inl 1, .inl x1]) (h1 := hp L (ax_u2 s 84 0 0) c e) rfl ?_
        by_cases h3 : ¬ x1 = 1
        · rw [if_pos h3] at h
          refine RuP.jy rfl h3 ?_
          refine RuP.step (pc' := 77) (ls' := [some (.inr (.inr (some 84))), some (.inl x0), some (.inl x1)]) (st' := [.inl x1]) (h1 := hp L (ax_u2 s 84 0 0) c e) rfl ?_
          refine RuP.step (pc' := 78) (ls' := [some (.inr (.inr (some 84))), some (.inl x0), some (.inl x1)]) (st' := [.inl 2, .inl x1]) (h1 := hp L (ax_u2 s 84 0 0) c e) rfl ?_
          by_cases h4 : ¬ x1 = 2
          · rw [if_pos h4] at h
            refine RuP.jy rfl h4 ?_
            refine RuP.step (pc' := 126) (ls' := [some (.inr (.inr (some 84))), some (.inl x0), some (.inl x1)]) (st' := [.inl x1]) (h1 := hp L (ax_u2 s 84 0 0) c e) rfl ?_
            refine RuP.step (pc' := 127) (ls' := [some (.inr (.inr (some 84))), some (.inl x0), some (.inl x1)]) (st' := [.inl 3, .inl x1]) (h1 := hp L (ax_u2 s 84 0 0) c e) rfl ?_
            by_cases h5 : ¬ x1 = 3
            · rw [if_pos h5] at h
              refine RuP.jy rfl h5 ?_
              refine RuP.step (pc' := 140) (ls' := [some (.inr (.inr (some 84))), some (.inl x0), some (.inl x1)]) (st' := [.inr (.inr (some 84))]) (h1 := hp L (ax_u2 s 84 0 0) c e) rfl ?_
              refine RuP.step (pc' := 143) (ls' := [some (.inr (.inr (some 84))), some (.inl x0), some (.inl x1)]) (st' := [.inr (.inr (some 103))]) (h1 := hp L (ax_u2 s 84 0 0) c e) rfl ?_
              refine RuP.step (pc' := 144) (ls' := [some (.inr (.inr (some 84))), some (.inl x0), some (.inl x1)]) (st' := [.inl x0, .inr (.inr (some 103))]) (h1 := hp L (ax_u2 s 84 0 0) c e) rfl ?_
              obtain ⟨b6, h⟩ := gd_some h
              refine RuP.ald (f := fun t => t == 0) (j := x0) (a := 103) rfl rfl b6.1 b6.2 ?_
              cases h
              exact RuP.dI rfl
            · rw [if_neg h5] at h
              refine RuP.jn rfl h5 ?_
              refine RuP.step (pc' := 131) (ls' := [some (.inr (.inr (some 84))), some (.inl x0), some (.inl x1)]) (st' := [.inr (.inr (some 84))]) (h1 := hp L (ax_u2 s 84 0 0) c e) rfl ?_
              refine RuP.step (pc' := 134) (ls' := [some (.inr (.inr (some 84))), some (.inl x0), some (.inl x1)]) (st' := [.inr (.inr (some 102))]) (h1 := hp L (ax_u2 s 84 0 0) c e) rfl ?_
              refine RuP.step (pc' := 135) (ls' := [some (.inr (.inr (some 84))), some (.inl x0), some (.inl x1)]) (st' := [.inl x0, .inr (.inr (some 102))]) (h1 := hp L (ax_u2 s 84 0 0) c e) rfl ?_
              obtain ⟨b7, h⟩ := gd_some h
              refine RuP.ald (f := fun t => t == 0) (j := x0) (a := 102) rfl rfl b7.1 b7.2 ?_
              refine RuP.step (pc' := 145) (ls' := [some (.inr (.inr (some 84))), some (.inl x0), some (.inl x1)]) (st' := [.inl (s 102 x0.toNat)]) (h1 := hp L (ax_u2 s 84 0 0) c e) rfl ?_
              cases h
              exact RuP.dI rfl
          · rw [if_neg h4] at h
            refine RuP.jn rfl h4 ?_
            refine RuP.step (pc' := 82) (ls' := [some (.inr (.inr (some 84))), some (.inl x0), some (.inl x1)]) (st' := [.inr (.inr (some 84))]) (h1 := hp L (ax_u2 s 84 0 0) c e) rfl ?_
            refine RuP.step (pc' := 85) (ls' := [some (.inr (.inr (some 84))), some (.inl x0), some (.inl x1)]) (st' := [.inr (.inr (some 94))]) (h1 := hp L (ax_u2 s 84 0 0) c e) rfl ?_
            refine RuP.step (pc' := 86) (ls' := [some (.inr (.inr (some 84))), some (.inl x0), some (.inl x1)]) (st' := [.inl x0, .inr (.inr (some 94))]) (h1 := hp L (ax_u2 s 84 0 0) c e) rfl ?_
            obtain ⟨b8, h⟩ := gd_some h
            refine RuP.ald (f := fun t => t == 0) (j := x0) (a := 94) rfl rfl b8.1 b8.2 ?_
            refine RuP.step (pc' := 88) (ls' := [some (.inr (.inr (some 84))), some (.inl x0), some (.inl x1)]) (st' := [.inl 1, .inl (s 94 x0.toNat)]) (h1 := hp L (ax_u2 s 84 0 0) c e) rfl ?_
            by_cases h9 : s 94 x0.toNat ≤ 1
            · rw [if_pos h9] at h
              refine RuP.jy rfl h9 ?_
              refine RuP.step (pc' := 101) (ls' := [some (.inr (.inr (some 84))), some (.inl x0), some (.inl x1)]) (st' := [.inr (.inr (some 84))]) (h1 := hp L (ax_u2 s 84 0 0) c e) rfl ?_
              refine RuP.step (pc' := 104) (ls' := [some (.inr (.inr (some 84))), some (.inl x0), some (.inl x1)]) (st' := [.inr (.inr (some 96))]) (h1 := hp L (ax_u2 s 84 0 0) c e) rfl ?_
              refine RuP.step (pc' := 105) (ls' := [some (.inr (.inr (some 84))), some (.inl x0), some (.inl x1)]) (st' := [.inl x0, .inr (.inr (some 96))]) (h1 := hp L (ax_u2 s 84 0 0) c e) rfl ?_
              obtain ⟨b10, h⟩ := gd_some h
              refine RuP.ald (f := fun t => t == 0) (j := x0) (a := 96) rfl rfl b10.1 b10.2 ?_
              by_cases h11 : 0 ≤ s 96 x0.toNat
              · rw [if_pos h11] at h
                refine RuP.jy rfl h11 ?_
                refine RuP.step (pc' := 114) (ls' := [some (.inr (.inr (some 84))), some (.inl x0), some (.inl x1)]) (st' := [.inr (.inr (some 84))]) (h1 := hp L (ax_u2 s 84 0 0) c e) rfl ?_
                refine RuP.step (pc' := 115) (ls' := [some (.inr (.inr (some 84))), some (.inl x0), some (.inl x1)]) (st' := [.inr (.inr (some 84)), .inr (.inr (some 84))]) (h1 := hp L (ax_u2 s 84 0 0) c e) rfl ?_
                refine RuP.step (pc' := 118) (ls' := [some (.inr (.inr (some 84))), some (.inl x0), some (.inl x1)]) (st' := [.inr (.inr (some 96)), .inr (.inr (some 84))]) (h1 := hp L (ax_u2 s 84 0 0) c e) rfl ?_
                refine RuP.step (pc' := 119) (ls' := [some (.inr (.inr (some 84))), some (.inl x0), some (.inl x1)]) (st' := [.inl x0, .inr (.inr (some 96)), .inr (.inr (some 84))]) (h1 := hp L (ax_u2 s 84 0 0) c e) rfl ?_
                obtain ⟨b12, h⟩ := gd_some h
                refine RuP.ald (f := fun t => t == 0) (j := x0) (a := 96) rfl rfl b12.1 b12.2 ?_
                obtain ⟨q2, h1, h⟩ := bd_some h
                refine RuP.cJ rfl ((ev_218 h1).up (by decide)) ?_
                refine RuP.step (pc' := 124) (ls' := [some (.inr (.inr (some 84))), some (.inl x0), some (.inl x1)]) (st' := [.inl (ax_w32 q2)]) (h1 := hp L (ax_u2 s 84 0 0) c e) rfl ?_
                cases h
                exact RuP.dI rfl
              · rw [if_neg h11] at h
                refine RuP.jn rfl h11 ?_
                refine RuP.step (pc' := 110) (ls' := [some (.inr (.inr (some 84))), some (.inl x0), some (.inl x1)]) (st' := [.inl 0]) (h1 := hp L (ax_u2 s 84 0 0) c e) rfl ?_
                refine RuP.step (pc' := 124) (ls' := [some (.inr (.inr (some 84))), some (.inl x0), some (.inl x1)]) (st' := [.inl 0]) (h1 := hp L (ax_u2 s 84 0 0) c e) rfl ?_
                cases h
                exact RuP.dI rfl
            · rw [if_neg h9] at h
              refine RuP.jn rfl h9 ?_
              refine RuP.step (pc' := 92) (ls' := [some (.inr (.inr (some 84))), some (.inl x0), some (.inl x1)]) (st' := [.inr (.inr (some 84))]) (h1 := hp L (ax_u2 s 84 0 0) c e) rfl ?_
              refine RuP.step (pc' := 95) (ls' := [some (.inr (.inr (some 84))), some (.inl x0), some (.inl x1)]) (st' := [.inr (.inr (some 99))]) (h1 := hp L (ax_u2 s 84 0 0) c e) rfl ?_
              refine RuP.step (pc' := 96) (ls' := [some (.inr (.inr (some 84))), some (.inl x0), some (.inl x1)]) (st' := [.inl x0, .inr (.inr (some 99))]) (h1 := hp L (ax_u2 s 84 0 0) c e) rfl ?_
              obtain ⟨b13, h⟩ := gd_some h
              refine RuP.ald (f := fun t => t == 0) (j := x0) (a := 99) rfl rfl b13.1 b13.2 ?_
              refine RuP.step (pc' := 124) (ls' := [some (.inr (.inr (some 84))), some (.inl x0), some (.inl x1)]) (st' := [.inl (s 99 x0.toNat)]) (h1 := hp L (ax_u2 s 84 0 0) c e) rfl ?_
              cases h
              exact RuP.dI rfl
        · rw [if_neg h3] at h
          refine RuP.jn rfl h3 ?_
          refine RuP.step (pc' := 48) (ls' := [some (.inr (.inr (some 84))), some (.inl x0), some (.inl x1)]) (st' := [.inr (.inr (some 84))]) (h1 := hp L (ax_u2 s 84 0 0) c e) rfl ?_
          refine RuP.step (pc' := 49) (ls' := [some (.inr (.inr (some 84))), some (.inl x0), some (.inl x1)]) (st' := [.inr (.inr (some 84)), .inr (.inr (some 84))]) (h1 := hp L (ax_u2 s 84 0 0) c e) rfl ?_
          refine RuP.step (pc' := 52) (ls' := [some (.inr (.inr (some 84))), some (.inl x0), some (.inl x1)]) (st' := [.inr (.inr (some 94)), .inr (.inr (some 84))]) (h1 := hp L (ax_u2 s 84 0 0) c e) rfl ?_
          refine RuP.step (pc' := 53) (ls' := [some (.inr (.inr (some 84))), some (.inl x0), some (.inl x1)]) (st' := [.inl x0, .inr (.inr (some 94)), .inr (.inr (some 84))]) (h1 := hp L (ax_u2 s 84 0 0) c e) rfl ?_
          obtain ⟨b14, h⟩ := gd_some h
          refine RuP.ald (f := fun t => t == 0) (j := x0) (a := 94) rfl rfl b14.1 b14.2 ?_
          refine RuP.step (pc' := 55) (ls' := [some (.inr (.inr (some 84))), some (.inl x0), some (.inl x1)]) (st' := [.inl 3, .inl (s 94 x0.toNat), .inr (.inr (some 84))]) (h1 := hp L (ax_u2 s 84 0 0) c e) rfl ?_
          by_cases h15 : ¬ (s 94 x0.toNat) = 3
          · rw [if_pos h15] at h
            refine RuP.jy rfl h15 ?_
            refine RuP.step (pc' := 66) (ls' := [some (.inr (.inr (some 84))), some (.inl x0), some (.inl x1)]) (st' := [.inr (.inr (some 84)), .inr (.inr (some 84))]) (h1 := hp L (ax_u2 s 84 0 0) c e) rfl ?_
            refine RuP.step (pc' := 69) (ls' := [some (.inr (.inr (some 84))), some (.inl x0), some (.inl x1)]) (st' := [.inr (.inr (some 97)), .inr (.inr (some 84))]) (h1 := hp L (ax_u2 s 84 0 0) c e) rfl ?_
            refine RuP.step (pc' := 70) (ls' := [some (.inr (.inr (some 84))), some (.inl x0), some (.inl x1)]) (st' := [.inl x0, .inr (.inr (some 97)), .inr (.inr (some 84))]) (h1 := hp L (ax_u2 s 84 0 0) c e) rfl ?_
            obtain ⟨b16, h⟩ := gd_some h
            refine RuP.ald (f := fun t => t == 0) (j := x0) (a := 97) rfl rfl b16.1 b16.2 ?_
            exact bl_198_71 _ _ _ _ _ h
          · rw [if_neg h15] at h
            refine RuP.jn rfl h15 ?_
            refine RuP.step (pc' := 59) (ls' := [some (.inr (.inr (some 84))), some (.inl x0), some (.inl x1)]) (st' := [.inr (.inr (some 84)), .inr (.inr (some 84))]) (h1 := hp L (ax_u2 s 84 0 0) c e) rfl ?_
            refine RuP.step (pc' := 62) (ls' := [some (.inr (.inr (some 84))), some (.inl x0), some (.inl x1)]) (st' := [.inl (s 84 30), .inr (.inr (some 84))]) (h1 := hp L (ax_u2 s 84 0 0) c e) rfl ?_
            refine RuP.step (pc' := 71) (ls' := [some (.inr (.inr (some 84))), some (.inl x0), some (.inl x1)]) (st' := [.inl (s 84 30), .inr (.inr (some 84))]) (h1 := hp L (ax_u2 s 84 0 0) c e) rfl ?_
            exact bl_198_71 _ _ _ _ _ h
      · rw [if_neg h2] at h
        refine RuP.jn rfl h2 ?_
        refine RuP.step (pc' := 36) (ls' := [some (.inr (.inr (some 84))), some (.inl x0), some (.inl x1)]) (st' := [.inr (.inr (some 84))]) (h1 := hp L (ax_u2 s 84 0 0) c e) rfl ?_
        refine RuP.step (pc' := 39) (ls' := [some (.inr (.inr (some 84))), some (.inl x0), some (.inl x1)]) (st' := [.inr (.inr (some 94))]) (h1 := hp L (ax_u2 s 84 0 0) c e) rfl ?_
        refine RuP.step (pc' := 40) (ls' := [some (.inr (.inr (some 84))), some (.inl x0), some (.inl x1)]) (st' := [.inl x0, .inr (.inr (some 94))]) (h1 := hp L (ax_u2 s 84 0 0) c e) rfl ?_
        obtain ⟨b17, h⟩ := gd_some h
        refine RuP.ald (f := fun t => t == 0) (j := x0) (a := 94) rfl rfl b17.1 b17.2 ?_
        cases h
        exact RuP.dI rfl
    · rw [if_neg h1] at h
      refine RuP.jn rfl h1 ?_
      exact bl_198_25 _ _ _ _ h
