/-! METHODS, second form, by program. -/
/-- MachineText.count(I)I -/
def f_1 (x0 : Int) (s : Sg) : Int :=
  (if x0 = 0 then
    (s 27 1)
  else
  (if x0 = 1 then
    (s 39 9)
  else
  (if x0 = 2 then
    (s 54 6)
  else
  (if x0 = 3 then
    (s 46 7)
  else
  (if x0 = 4 then
    (s 82 2)
  else
    (-1))))))
theorem ev_1 {L c : Nat} {e : Nat → Nat} {s : Sg} (x0 : Int) : EvP 1 1 [.inr (.inr (some 27)), .inl x0] (hp L s c e) (oI L c e (f_1 x0 s, s)) := by
  have key : ∀ q, f_1 x0 s = q → RuP 0 tb_m1 0 [some (.inr (.inr (some 27))), some (.inl x0)] [] (hp L s c e) (oI L c e (q, s)) := by
    intro q h
    unfold f_1 at h
    refine RuP.step (pc' := 1) (ls' := [some (.inr (.inr (some 27))), some (.inl x0)]) (st' := [.inl x0]) (h1 := hp L s c e) rfl ?_
    by_cases h0 : x0 = 0
    · rw [if_pos h0] at h
      have J1 : RuP 0 tb_m1 36 [some (.inr (.inr (some 27))), some (.inl x0)] [] (hp L s c e) (oI L c e (q, s)) := by
        refine RuP.step (pc' := 37) (ls' := [some (.inr (.inr (some 27))), some (.inl x0)]) (st' := [.inr (.inr (some 27))]) (h1 := hp L s c e) rfl ?_
        refine RuP.step (pc' := 40) (ls' := [some (.inr (.inr (some 27))), some (.inl x0)]) (st' := [.inl (s 27 1)]) (h1 := hp L s c e) rfl ?_
        subst h
        exact RuP.dI rfl
      exact RuP.sw (i := .tableswitch (72) (0) (4) #[35, 40, 48, 56, 64]) rfl h0 rfl J1
    rw [if_neg h0] at h
    by_cases h1 : x0 = 1
    · rw [if_pos h1] at h
      have J2 : RuP 0 tb_m1 41 [some (.inr (.inr (some 27))), some (.inl x0)] [] (hp L s c e) (oI L c e (q, s)) := by
        refine RuP.step (pc' := 42) (ls' := [some (.inr (.inr (some 27))), some (.inl x0)]) (st' := [.inr (.inr (some 27))]) (h1 := hp L s c e) rfl ?_
        refine RuP.step (pc' := 45) (ls' := [some (.inr (.inr (some 27))), some (.inl x0)]) (st' := [.inr (.inr (some 39))]) (h1 := hp L s c e) rfl ?_
        refine RuP.step (pc' := 48) (ls' := [some (.inr (.inr (some 27))), some (.inl x0)]) (st' := [.inl (s 39 9)]) (h1 := hp L s c e) rfl ?_
        subst h
        exact RuP.dI rfl
      exact RuP.sw (i := .tableswitch (72) (0) (4) #[35, 40, 48, 56, 64]) rfl h1 rfl J2
    rw [if_neg h1] at h
    by_cases h2 : x0 = 2
    · rw [if_pos h2] at h
      have J3 : RuP 0 tb_m1 49 [some (.inr (.inr (some 27))), some (.inl x0)] [] (hp L s c e) (oI L c e (q, s)) := by
        refine RuP.step (pc' := 50) (ls' := [some (.inr (.inr (some 27))), some (.inl x0)]) (st' := [.inr (.inr (some 27))]) (h1 := hp L s c e) rfl ?_
        refine RuP.step (pc' := 53) (ls' := [some (.inr (.inr (some 27))), some (.inl x0)]) (st' := [.inr (.inr (some 54))]) (h1 := hp L s c e) rfl ?_
        refine RuP.step (pc' := 56) (ls' := [some (.inr (.inr (some 27))), some (.inl x0)]) (st' := [.inl (s 54 6)]) (h1 := hp L s c e) rfl ?_
        subst h
        exact RuP.dI rfl
      exact RuP.sw (i := .tableswitch (72) (0) (4) #[35, 40, 48, 56, 64]) rfl h2 rfl J3
    rw [if_neg h2] at h
    by_cases h3 : x0 = 3
    · rw [if_pos h3] at h
      have J4 : RuP 0 tb_m1 57 [some (.inr (.inr (some 27))), some (.inl x0)] [] (hp L s c e) (oI L c e (q, s)) := by
        refine RuP.step (pc' := 58) (ls' := [some (.inr (.inr (some 27))), some (.inl x0)]) (st' := [.inr (.inr (some 27))]) (h1 := hp L s c e) rfl ?_
        refine RuP.step (pc' := 61) (ls' := [some (.inr (.inr (some 27))), some (.inl x0)]) (st' := [.inr (.inr (some 46))]) (h1 := hp L s c e) rfl ?_
        refine RuP.step (pc' := 64) (ls' := [some (.inr (.inr (some 27))), some (.inl x0)]) (st' := [.inl (s 46 7)]) (h1 := hp L s c e) rfl ?_
        subst h
        exact RuP.dI rfl
      exact RuP.sw (i := .tableswitch (72) (0) (4) #[35, 40, 48, 56, 64]) rfl h3 rfl J4
    rw [if_neg h3] at h
    by_cases h4 : x0 = 4
    · rw [if_pos h4] at h
      have J5 : RuP 0 tb_m1 65 [some (.inr (.inr (some 27))), some (.inl x0)] [] (hp L s c e) (oI L c e (q, s)) := by
        refine RuP.step (pc' := 66) (ls' := [some (.inr (.inr (some 27))), some (.inl x0)]) (st' := [.inr (.inr (some 27))]) (h1 := hp L s c e) rfl ?_
        refine RuP.step (pc' := 69) (ls' := [some (.inr (.inr (some 27))), some (.inl x0)]) (st' := [.inr (.inr (some 82))]) (h1 := hp L s c e) rfl ?_
        refine RuP.step (pc' := 72) (ls' := [some (.inr (.inr (some 27))), some (.inl x0)]) (st' := [.inl (s 82 2)]) (h1 := hp L s c e) rfl ?_
        subst h
        exact RuP.dI rfl
      exact RuP.sw (i := .tableswitch (72) (0) (4) #[35, 40, 48, 56, 64]) rfl h4 rfl J5
    rw [if_neg h4] at h
    refine RuP.swd (i := .tableswitch (72) (0) (4) #[35, 40, 48, 56, 64]) (pc' := 73) rfl (sw_td [0, 1, 2, 3, 4] (by intro k hk; simp only [List.mem_cons, List.not_mem_nil, or_false] at hk; omega) (by decide) (by decide)) ?_
    refine RuP.step (pc' := 74) (ls' := [some (.inr (.inr (some 27))), some (.inl x0)]) (st' := [.inl (-1)]) (h1 := hp L s c e) rfl ?_
    subst h
    exact RuP.dI rfl
  exact EvP.of (μ := tb_m1) (ls := [some (.inr (.inr (some 27))), some (.inl x0)]) rfl (Nat.le_of_ble_eq_true rfl) rfl (key _ rfl)
/-- MachineText.end(I)I -/
noncomputable def j_3_10 (s : Sg) : Option (Sum (Int × Sg) (Nat × Sg)) :=
  some (.inr (15, s))
theorem bl_3_10 {L c : Nat} {e : Nat → Nat} : ∀ (z1 : Int) (s : Sg) (q : Sum (Int × Sg) (Nat × Sg)), j_3_10 s = some q → RuP 0 tb_m3 10 [some (.inr (.inr (some 27))), some (.inl z1)] [] (hp L s c e) (oX L c (oI L c e) q) := by
  intro z1 s q h
  unfold j_3_10 at h
  cases h
  exact RuP.thr (m := 7) (p2 := 16) rfl (fun _ => rfl) (fun _ => rfl) (fun _ _ => rfl) (Nat.le_of_ble_eq_true rfl) rfl rfl
noncomputable def f_3 (x0 : Int) (s : Sg) : Option (Sum (Int × Sg) (Nat × Sg)) :=
  (if x0 < 0 then
    j_3_10 s
  else
    (if x0 ≤ 16 then
      (if 16 ≤ s 27 1 then
        some (.inl (ax_w32 ((s 27 1) - (ax_w32 (16 - x0))), (ax_u2 s 27 1 (ax_w32 ((s 27 1) - (ax_w32 (16 - x0)))))))
      else
        some (.inr (14, s)))
    else
      j_3_10 s))
theorem ev_3 {L c : Nat} {e : Nat → Nat} {s : Sg} {x0 : Int} {q : Sum (Int × Sg) (Nat × Sg)} (h : f_3 x0 s = some q) : EvP 1 3 [.inr (.inr (some 27)), .inl x0] (hp L s c e) (oX L c (oI L c e) q) := by
  unfold f_3 at h
  refine EvP.of (μ := tb_m3) (ls := [some (.inr (.inr (some 27))), some (.inl x0)]) rfl (Nat.le_of_ble_eq_true rfl) rfl ?_
  refine RuP.step (pc' := 1) (ls' := [some (.inr (.inr (some 27))), some (.inl x0)]) (st' := [.inl x0]) (h1 := hp L s c e) rfl ?_
  by_cases h0 : x0 < 0
  · rw [if_pos h0] at h
    refine RuP.jy rfl h0 ?_
    exact bl_3_10 _ _ _ h
  · rw [if_neg h0] at h
    refine RuP.jn rfl h0 ?_
    refine RuP.step (pc' := 5) (ls' := [some (.inr (.inr (some 27))), some (.inl x0)]) (st' := [.inl x0]) (h1 := hp L s c e) rfl ?_
    refine RuP.step (pc' := 7) (ls' := [some (.inr (.inr (some 27))), some (.inl x0)]) (st' := [.inl 16, .inl x0]) (h1 := hp L s c e) rfl ?_
    by_cases h1 : x0 ≤ 16
    · rw [if_pos h1] at h
      refine RuP.jy rfl h1 ?_
      refine RuP.step (pc' := 21) (ls' := [some (.inr (.inr (some 27))), some (.inl x0)]) (st' := [.inr (.inr (some 27))]) (h1 := hp L s c e) rfl ?_
      refine RuP.step (pc' := 24) (ls' := [some (.inr (.inr (some 27))), some (.inl x0)]) (st' := [.inl (s 27 1)]) (h1 := hp L s c e) rfl ?_
      refine RuP.step (pc' := 26) (ls' := [some (.inr (.inr (some 27))), some (.inl x0)]) (st' := [.inl 16, .inl (s 27 1)]) (h1 := hp L s c e) rfl ?_
      by_cases h2 : 16 ≤ s 27 1
      · rw [if_pos h2] at h
        refine RuP.jy rfl h2 ?_
        refine RuP.step (pc' := 40) (ls' := [some (.inr (.inr (some 27))), some (.inl x0)]) (st' := [.inr (.inr (some 27))]) (h1 := hp L s c e) rfl ?_
        refine RuP.step (pc' := 41) (ls' := [some (.inr (.inr (some 27))), some (.inl x0)]) (st' := [.inr (.inr (some 27)), .inr (.inr (some 27))]) (h1 := hp L s c e) rfl ?_
        refine RuP.step (pc' := 44) (ls' := [some (.inr (.inr (some 27))), some (.inl x0)]) (st' := [.inl (s 27 1), .inr (.inr (some 27))]) (h1 := hp L s c e) rfl ?_
        refine RuP.step (pc' := 46) (ls' := [some (.inr (.inr (some 27))), some (.inl x0)]) (st' := [.inl 16, .inl (s 27 1), .inr (.inr (some 27))]) (h1 := hp L s c e) rfl ?_
        refine RuP.step (pc' := 47) (ls' := [some (.inr (.inr (some 27))), some (.inl x0)]) (st' := [.inl x0, .inl 16, .inl (s 27 1), .inr (.inr (some 27))]) (h1 := hp L s c e) rfl ?_
        refine RuP.step (pc' := 48) (ls' := [some (.inr (.inr (some 27))), some (.inl x0)]) (st' := [.inl (ax_w32 (16 - x0)), .inl (s 27 1), .inr (.inr (some 27))]) (h1 := hp L s c e) rfl ?_
        refine RuP.step (pc' := 49) (ls' := [some (.inr (.inr (some 27))), some (.inl x0)]) (st' := [.inl (ax_w32 ((s 27 1) - (ax_w32 (16 - x0)))), .inr (.inr (some 27))]) (h1 := hp L s c e) rfl ?_
        refine RuP.step (pc' := 52) (ls' := [some (.inr (.inr (some 27))), some (.inl x0)]) (st' := []) (h1 := hp L (ax_u2 s 27 1 (ax_w32 ((s 27 1) - (ax_w32 (16 - x0))))) c e) rfl ?_
        refine RuP.step (pc' := 53) (ls' := [some (.inr (.inr (some 27))), some (.inl x0)]) (st' := [.inr (.inr (some 27))]) (h1 := hp L (ax_u2 s 27 1 (ax_w32 ((s 27 1) - (ax_w32 (16 - x0))))) c e) rfl ?_
        refine RuP.step (pc' := 56) (ls' := [some (.inr (.inr (some 27))), some (.inl x0)]) (st' := [.inl (ax_w32 ((s 27 1) - (ax_w32 (16 - x0))))]) (h1 := hp L (ax_u2 s 27 1 (ax_w32 ((s 27 1) - (ax_w32 (16 - x0))))) c e) rfl ?_
        cases h
        exact RuP.dI rfl
      · rw [if_neg h2] at h
        refine RuP.jn rfl h2 ?_
        cases h
        exact RuP.thr (m := 8) (p2 := 35) rfl (fun _ => rfl) (fun _ => rfl) (fun _ _ => rfl) (Nat.le_of_ble_eq_true rfl) rfl rfl
    · rw [if_neg h1] at h
      refine RuP.jn rfl h1 ?_
      exact bl_3_10 _ _ _ h
/-- MachineText.statement(II)I -/
noncomputable def j_6_20 (s : Sg) : Option (Sum (Int × Sg) (Nat × Sg)) :=
  some (.inr (16, s))
theorem bl_6_20 {L c : Nat} {e : Nat → Nat} : ∀ (d3 : Option ax_V) (z1 z2 : Int) (s : Sg) (q : Sum (Int × Sg) (Nat × Sg)), j_6_20 s = some q → RuP 2 tb_m6 20 [some (.inr (.inr (some 27))), some (.inl z1), some (.inl z2), d3] [] (hp L s c e) (oX L c (oI L c e) q) := by
  intro d3 z1 z2 s q h
  unfold j_6_20 at h
  cases h
  exact RuP.thr (m := 19) (p2 := 26) rfl (fun _ => rfl) (fun _ => rfl) (fun _ _ => rfl) (Nat.le_of_ble_eq_true rfl) rfl rfl
noncomputable def j_6_129 (l1 t0 : Int) (s : Sg) : Option (Sum (Int × Sg) (Nat × Sg)) :=
  (gd (g_186 l1 s) (
  some (.inl (ax_w32 (t0 - (f_186 l1 s)), s))))
theorem bl_6_129 {L c : Nat} {e : Nat → Nat} : ∀ (d3 : Option ax_V) (z2 : Int) (l1 t0 : Int) (s : Sg) (q : Sum (Int × Sg) (Nat × Sg)), j_6_129 l1 t0 s = some q → RuP 2 tb_m6 129 [some (.inr (.inr (some 27))), some (.inl l1), some (.inl z2), d3] [.inl t0] (hp L s c e) (oX L c (oI L c e) q) := by
  intro d3 z2 l1 t0 s q h
  unfold j_6_129 at h
  refine RuP.step (pc' := 130) (ls' := [some (.inr (.inr (some 27))), some (.inl l1), some (.inl z2), some (.inl t0)]) (st' := []) (h1 := hp L s c e) rfl ?_
  refine RuP.step (pc' := 131) (ls' := [some (.inr (.inr (some 27))), some (.inl l1), some (.inl z2), some (.inl t0)]) (st' := [.inl t0]) (h1 := hp L s c e) rfl ?_
  refine RuP.step (pc' := 132) (ls' := [some (.inr (.inr (some 27))), some (.inl l1), some (.inl z2), some (.inl t0)]) (st' := [.inr (.inr (some 27)), .inl t0]) (h1 := hp L s c e) rfl ?_
  refine RuP.step (pc' := 135) (ls' := [some (.inr (.inr (some 27))), some (.inl l1), some (.inl z2), some (.inl t0)]) (st' := [.inr (.inr (some 54)), .inl t0]) (h1 := hp L s c e) rfl ?_
  refine RuP.step (pc' := 136) (ls' := [some (.inr (.inr (some 27))), some (.inl l1), some (.inl z2), some (.inl t0)]) (st' := [.inl l1, .inr (.inr (some 54)), .inl t0]) (h1 := hp L s c e) rfl ?_
  obtain ⟨b0, h⟩ := gd_some h
  refine RuP.cI rfl (EvP.i ((ev_186 l1 b0).up (by decide))) ?_
  refine RuP.step (pc' := 140) (ls' := [some (.inr (.inr (some 27))), some (.inl l1), some (.inl z2), some (.inl t0)]) (st' := [.inl (ax_w32 (t0 - (f_186 l1 s)))]) (h1 := hp L s c e) rfl ?_
  cases h
  exact RuP.dI rfl
noncomputable def f_6 (x0 x1 : Int) (s : Sg) : Option (Sum (Int × Sg) (Nat × Sg)) :=
  (if f_181 x0 s = 0 then
    j_6_20 s
  else
    (if x1 < 0 then
      j_6_20 s
    else
      (if x1 ≤ 4 then
        (if x1 = 0 then
          (gd (g_182 x0 s) (
          some (.inl (f_182 x0 s, s))))
        else
        (if x1 = 1 then
          (gd (g_183 x0 s) (
          some (.inl (f_183 x0 s, s))))
        else
        (if x1 = 2 then
          (gd (g_184 x0 s) (
          some (.inl (f_184 x0 s, s))))
        else
        (if x1 = 3 then
          (gd (g_185 x0 s) (
          some (.inl (f_185 x0 s, s))))
        else
          (if f_181 (ax_w32 (x0 + 1)) s = 0 then
            j_6_129 x0 (s 46 7) s
          else
            (gd (g_186 (ax_w32 (x0 + 1)) s) (
            j_6_129 x0 (f_186 (ax_w32 (x0 + 1)) s) s)))))))
      else
        j_6_20 s)))
theorem ev_6 {L c : Nat} {e : Nat → Nat} {s : Sg} {x0 x1 : Int} {q : Sum (Int × Sg) (Nat × Sg)} (h : f_6 x0 x1 s = some q) : EvP 3 6 [.inr (.inr (some 27)), .inl x0, .inl x1] (hp L s c e) (oX L c (oI L c e) q) := by
  unfold f_6 at h
  refine EvP.of (μ := tb_m6) (ls := [some (.inr (.inr (some 27))), some (.inl x0), some (.inl x1), none]) rfl (Nat.le_of_ble_eq_true rfl) rfl ?_
  refine RuP.step (pc' := 1) (ls' := [some (.inr (.inr (some 27))), some (.inl x0), some (.inl x1), none]) (st' := [.inr (.inr (some 27))]) (h1 := hp L s c e) rfl ?_
  refine RuP.step (pc' := 4) (ls' := [some (.inr (.inr (some 27))), some (.inl x0), some (.inl x1), none]) (st' := [.inr (.inr (some 54))]) (h1 := hp L s c e) rfl ?_
  refine RuP.step (pc' := 5) (ls' := [some (.inr (.inr (some 27))), some (.inl x0), some (.inl x1), none]) (st' := [.inl x0, .inr (.inr (some 54))]) (h1 := hp L s c e) rfl ?_
  refine RuP.cI rfl (EvP.i ((ev_181 x0).up (by decide))) ?_
  by_cases h0 : f_181 x0 s = 0
  · rw [if_pos h0] at h
    refine RuP.jy rfl h0 ?_
    exact bl_6_20 _ _ _ _ _ h
  · rw [if_neg h0] at h
    refine RuP.jn rfl h0 ?_
    refine RuP.step (pc' := 12) (ls' := [some (.inr (.inr (some 27))), some (.inl x0), some (.inl x1), none]) (st' := [.inl x1]) (h1 := hp L s c e) rfl ?_
    by_cases h1 : x1 < 0
    · rw [if_pos h1] at h
      refine RuP.jy rfl h1 ?_
      exact bl_6_20 _ _ _ _ _ h
    · rw [if_neg h1] at h
      refine RuP.jn rfl h1 ?_
      refine RuP.step (pc' := 16) (ls' := [some (.inr (.inr (some 27))), some (.inl x0), some (.inl x1), none]) (st' := [.inl x1]) (h1 := hp L s c e) rfl ?_
      refine RuP.step (pc' := 17) (ls' := [some (.inr (.inr (some 27))), some (.inl x0), some (.inl x1), none]) (st' := [.inl 4, .inl x1]) (h1 := hp L s c e) rfl ?_
      by_cases h2 : x1 ≤ 4
      · rw [if_pos h2] at h
        refine RuP.jy rfl h2 ?_
        refine RuP.step (pc' := 31) (ls' := [some (.inr (.inr (some 27))), some (.inl x0), some (.inl x1), none]) (st' := [.inl x1]) (h1 := hp L s c e) rfl ?_
        by_cases h3 : x1 = 0
        · rw [if_pos h3] at h
          have J4 : RuP 2 tb_m6 60 [some (.inr (.inr (some 27))), some (.inl x0), some (.inl x1), none] [] (hp L s c e) (oX L c (oI L c e) q) := by
            refine RuP.step (pc' := 61) (ls' := [some (.inr (.inr (some 27))), some (.inl x0), some (.inl x1), none]) (st' := [.inr (.inr (some 27))]) (h1 := hp L s c e) rfl ?_
            refine RuP.step (pc' := 64) (ls' := [some (.inr (.inr (some 27))), some (.inl x0), some (.inl x1), none]) (st' := [.inr (.inr (some 54))]) (h1 := hp L s c e) rfl ?_
            refine RuP.step (pc' := 65) (ls' := [some (.inr (.inr (some 27))), some (.inl x0), some (.inl x1), none]) (st' := [.inl x0, .inr (.inr (some 54))]) (h1 := hp L s c e) rfl ?_
            obtain ⟨b4, h⟩ := gd_some h
            refine RuP.cI rfl (EvP.i ((ev_182 x0 b4).up (by decide))) ?_
            cases h
            exact RuP.dI rfl
          exact RuP.sw (i := .tableswitch (65) (0) (3) #[29, 38, 47, 56]) rfl h3 rfl J4
        rw [if_neg h3] at h
        by_cases h5 : x1 = 1
        · rw [if_pos h5] at h
          have J6 : RuP 2 tb_m6 69 [some (.inr (.inr (some 27))), some (.inl x0), some (.inl x1), none] [] (hp L s c e) (oX L c (oI L c e) q) := by
            refine RuP.step (pc' := 70) (ls' := [some (.inr (.inr (some 27))), some (.inl x0), some (.inl x1), none]) (st' := [.inr (.inr (some 27))]) (h1 := hp L s c e) rfl ?_
            refine RuP.step (pc' := 73) (ls' := [some (.inr (.inr (some 27))), some (.inl x0), some (.inl x1), none]) (st' := [.inr (.inr (some 54))]) (h1 := hp L s c e) rfl ?_
            refine RuP.step (pc' := 74) (ls' := [some (.inr (.inr (some 27))), some (.inl x0), some (.inl x1), none]) (st' := [.inl x0, .inr (.inr (some 54))]) (h1 := hp L s c e) rfl ?_
            obtain ⟨b6, h⟩ := gd_some h
            refine RuP.cI rfl (EvP.i ((ev_183 x0 b6).up (by decide))) ?_
            cases h
            exact RuP.dI rfl
          exact RuP.sw (i := .tableswitch (65) (0) (3) #[29, 38, 47, 56]) rfl h5 rfl J6
        rw [if_neg h5] at h
        by_cases h7 : x1 = 2
        · rw [if_pos h7] at h
          have J8 : RuP 2 tb_m6 78 [some (.inr (.inr (some 27))), some (.inl x0), some (.inl x1), none] [] (hp L s c e) (oX L c (oI L c e) q) := by
            refine RuP.step (pc' := 79) (ls' := [some (.inr (.inr (some 27))), some (.inl x0), some (.inl x1), none]) (st' := [.inr (.inr (some 27))]) (h1 := hp L s c e) rfl ?_
            refine RuP.step (pc' := 82) (ls' := [some (.inr (.inr (some 27))), some (.inl x0), some (.inl x1), none]) (st' := [.inr (.inr (some 54))]) (h1 := hp L s c e) rfl ?_
            refine RuP.step (pc' := 83) (ls' := [some (.inr (.inr (some 27))), some (.inl x0), some (.inl x1), none]) (st' := [.inl x0, .inr (.inr (some 54))]) (h1 := hp L s c e) rfl ?_
            obtain ⟨b8, h⟩ := gd_some h
            refine RuP.cI rfl (EvP.i ((ev_184 x0 b8).up (by decide))) ?_
            cases h
            exact RuP.dI rfl
          exact RuP.sw (i := .tableswitch (65) (0) (3) #[29, 38, 47, 56]) rfl h7 rfl J8
        rw [if_neg h7] at h
        by_cases h9 : x1 = 3
        · rw [if_pos h9] at h
          have J10 : RuP 2 tb_m6 87 [some (.inr (.inr (some 27))), some (.inl x0), some (.inl x1), none] [] (hp L s c e) (oX L c (oI L c e) q) := by
            refine RuP.step (pc' := 88) (ls' := [some (.inr (.inr (some 27))), some (.inl x0), some (.inl x1), none]) (st' := [.inr (.inr (some 27))]) (h1 := hp L s c e) rfl ?_
            refine RuP.step (pc' := 91) (ls' := [some (.inr (.inr (some 27))), some (.inl x0), some (.inl x1), none]) (st' := [.inr (.inr (some 54))]) (h1 := hp L s c e) rfl ?_
            refine RuP.step (pc' := 92) (ls' := [some (.inr (.inr (some 27))), some (.inl x0), some (.inl x1), none]) (st' := [.inl x0, .inr (.inr (some 54))]) (h1 := hp L s c e) rfl ?_
            obtain ⟨b10, h⟩ := gd_some h
            refine RuP.cI rfl (EvP.i ((ev_185 x0 b10).up (by decide))) ?_
            cases h
            exact RuP.dI rfl
          exact RuP.sw (i := .tableswitch (65) (0) (3) #[29, 38, 47, 56]) rfl h9 rfl J10
        rw [if_neg h9] at h
        refine RuP.swd (i := .tableswitch (65) (0) (3) #[29, 38, 47, 56]) (pc' := 96) rfl (sw_td [0, 1, 2, 3] (by intro k hk; simp only [List.mem_cons, List.not_mem_nil, or_false] at hk; omega) (by decide) (by decide)) ?_
        refine RuP.step (pc' := 97) (ls' := [some (.inr (.inr (some 27))), some (.inl x0), some (.inl x1), none]) (st' := [.inr (.inr (some 27))]) (h1 := hp L s c e) rfl ?_
        refine RuP.step (pc' := 100) (ls' := [some (.inr (.inr (some 27))), some (.inl x0), some (.inl x1), none]) (st' := [.inr (.inr (some 54))]) (h1 := hp L s c e) rfl ?_
        refine RuP.step (pc' := 101) (ls' := [some (.inr (.inr (some 27))), some (.inl x0), some (.inl x1), none]) (st' := [.inl x0, .inr (.inr (some 54))]) (h1 := hp L s c e) rfl ?_
        refine RuP.step (pc' := 102) (ls' := [some (.inr (.inr (some 27))), some (.inl x0), some (.inl x1), none]) (st' := [.inl 1, .inl x0, .inr (.inr (some 54))]) (h1 := hp L s c e) rfl ?_
        refine RuP.step (pc' := 103) (ls' := [some (.inr (.inr (some 27))), some (.inl x0), some (.inl x1), none]) (st' := [.inl (ax_w32 (x0 + 1)), .inr (.inr (some 54))]) (h1 := hp L s c e) rfl ?_
        refine RuP.cI rfl (EvP.i ((ev_181 (ax_w32 (x0 + 1))).up (by decide))) ?_
        by_cases h11 : f_181 (ax_w32 (x0 + 1)) s = 0
        · rw [if_pos h11] at h
          refine RuP.jy rfl h11 ?_
          refine RuP.step (pc' := 123) (ls' := [some (.inr (.inr (some 27))), some (.inl x0), some (.inl x1), none]) (st' := [.inr (.inr (some 27))]) (h1 := hp L s c e) rfl ?_
          refine RuP.step (pc' := 126) (ls' := [some (.inr (.inr (some 27))), some (.inl x0), some (.inl x1), none]) (st' := [.inr (.inr (some 46))]) (h1 := hp L s c e) rfl ?_
          refine RuP.step (pc' := 129) (ls' := [some (.inr (.inr (some 27))), some (.inl x0), some (.inl x1), none]) (st' := [.inl (s 46 7)]) (h1 := hp L s c e) rfl ?_
          exact bl_6_129 _ _ _ _ _ _ h
        · rw [if_neg h11] at h
          refine RuP.jn rfl h11 ?_
          refine RuP.step (pc' := 110) (ls' := [some (.inr (.inr (some 27))), some (.inl x0), some (.inl x1), none]) (st' := [.inr (.inr (some 27))]) (h1 := hp L s c e) rfl ?_
          refine RuP.step (pc' := 113) (ls' := [some (.inr (.inr (some 27))), some (.inl x0), some (.inl x1), none]) (st' := [.inr (.inr (some 54))]) (h1 := hp L s c e) rfl ?_
          refine RuP.step (pc' := 114) (ls' := [some (.inr (.inr (some 27))), some (.inl x0), some (.inl x1), none]) (st' := [.inl x0, .inr (.inr (some 54))]) (h1 := hp L s c e) rfl ?_
          refine RuP.step (pc' := 115) (ls' := [some (.inr (.inr (some 27))), some (.inl x0), some (.inl x1), none]) (st' := [.inl 1, .inl x0, .inr (.inr (some 54))]) (h1 := hp L s c e) rfl ?_
          refine RuP.step (pc' := 116) (ls' := [some (.inr (.inr (some 27))), some (.inl x0), some (.inl x1), none]) (st' := [.inl (ax_w32 (x0 + 1)), .inr (.inr (some 54))]) (h1 := hp L s c e) rfl ?_
          obtain ⟨b12, h⟩ := gd_some h
          refine RuP.cI rfl (EvP.i ((ev_186 (ax_w32 (x0 + 1)) b12).up (by decide))) ?_
          refine RuP.step (pc' := 129) (ls' := [some (.inr (.inr (some 27))), some (.inl x0), some (.inl x1), none]) (st' := [.inl (f_186 (ax_w32 (x0 + 1)) s)]) (h1 := hp L s c e) rfl ?_
          exact bl_6_129 _ _ _ _ _ _ h
      · rw [if_neg h2] at h
        refine RuP.jn rfl h2 ?_
        exact bl_6_20 _ _ _ _ _ h
/-- MachineText.ring(I)I -/
noncomputable def f_9 (x0 : Int) (s : Sg) : Option (Sum (Int × Sg) (Nat × Sg)) :=
  (if ¬ (f_161 x0 s) = 0 then
    (gd (g_162 x0 s) (
    some (.inl (f_162 x0 s, s))))
  else
    some (.inr (16, s)))
theorem ev_9 {L c : Nat} {e : Nat → Nat} {s : Sg} {x0 : Int} {q : Sum (Int × Sg) (Nat × Sg)} (h : f_9 x0 s = some q) : EvP 3 9 [.inr (.inr (some 27)), .inl x0] (hp L s c e) (oX L c (oI L c e) q) := by
  unfold f_9 at h
  refine EvP.of (μ := tb_m9) (ls := [some (.inr (.inr (some 27))), some (.inl x0)]) rfl (Nat.le_of_ble_eq_true rfl) rfl ?_
  refine RuP.step (pc' := 1) (ls' := [some (.inr (.inr (some 27))), some (.inl x0)]) (st' := [.inr (.inr (some 27))]) (h1 := hp L s c e) rfl ?_
  refine RuP.step (pc' := 4) (ls' := [some (.inr (.inr (some 27))), some (.inl x0)]) (st' := [.inr (.inr (some 74))]) (h1 := hp L s c e) rfl ?_
  refine RuP.step (pc' := 5) (ls' := [some (.inr (.inr (some 27))), some (.inl x0)]) (st' := [.inl x0, .inr (.inr (some 74))]) (h1 := hp L s c e) rfl ?_
  refine RuP.cI rfl (EvP.i ((ev_161 x0).up (by decide))) ?_
  by_cases h0 : ¬ (f_161 x0 s) = 0
  · rw [if_pos h0] at h
    refine RuP.jy rfl h0 ?_
    refine RuP.step (pc' := 22) (ls' := [some (.inr (.inr (some 27))), some (.inl x0)]) (st' := [.inr (.inr (some 27))]) (h1 := hp L s c e) rfl ?_
    refine RuP.step (pc' := 25) (ls' := [some (.inr (.inr (some 27))), some (.inl x0)]) (st' := [.inr (.inr (some 74))]) (h1 := hp L s c e) rfl ?_
    refine RuP.step (pc' := 26) (ls' := [some (.inr (.inr (some 27))), some (.inl x0)]) (st' := [.inl x0, .inr (.inr (some 74))]) (h1 := hp L s c e) rfl ?_
    obtain ⟨b1, h⟩ := gd_some h
    refine RuP.cI rfl (EvP.i ((ev_162 x0 b1).up (by decide))) ?_
    cases h
    exact RuP.dI rfl
  · rw [if_neg h0] at h
    refine RuP.jn rfl h0 ?_
    cases h
    exact RuP.thr (m := 22) (p2 := 17) rfl (fun _ => rfl) (fun _ => rfl) (fun _ _ => rfl) (Nat.le_of_ble_eq_true rfl) rfl rfl
/-- MachineText.out(I)I -/
noncomputable def f_11 (x0 : Int) (s : Sg) : Option (Sum (Int × Sg) (Nat × Sg)) :=
  (if ¬ (f_129 x0 s) = 0 then
    (gd (g_130 x0 s) (
    some (.inl (f_130 x0 s, s))))
  else
    some (.inr (16, s)))
theorem ev_11 {L c : Nat} {e : Nat → Nat} {s : Sg} {x0 : Int} {q : Sum (Int × Sg) (Nat × Sg)} (h : f_11 x0 s = some q) : EvP 3 11 [.inr (.inr (some 27)), .inl x0] (hp L s c e) (oX L c (oI L c e) q) := by
  unfold f_11 at h
  refine EvP.of (μ := tb_m11) (ls := [some (.inr (.inr (some 27))), some (.inl x0)]) rfl (Nat.le_of_ble_eq_true rfl) rfl ?_
  refine RuP.step (pc' := 1) (ls' := [some (.inr (.inr (some 27))), some (.inl x0)]) (st' := [.inr (.inr (some 27))]) (h1 := hp L s c e) rfl ?_
  refine RuP.step (pc' := 4) (ls' := [some (.inr (.inr (some 27))), some (.inl x0)]) (st' := [.inr (.inr (some 82))]) (h1 := hp L s c e) rfl ?_
  refine RuP.step (pc' := 5) (ls' := [some (.inr (.inr (some 27))), some (.inl x0)]) (st' := [.inl x0, .inr (.inr (some 82))]) (h1 := hp L s c e) rfl ?_
  refine RuP.cI rfl (EvP.i ((ev_129 x0).up (by decide))) ?_
  by_cases h0 : ¬ (f_129 x0 s) = 0
  · rw [if_pos h0] at h
    refine RuP.jy rfl h0 ?_
    refine RuP.step (pc' := 22) (ls' := [some (.inr (.inr (some 27))), some (.inl x0)]) (st' := [.inr (.inr (some 27))]) (h1 := hp L s c e) rfl ?_
    refine RuP.step (pc' := 25) (ls' := [some (.inr (.inr (some 27))), some (.inl x0)]) (st' := [.inr (.inr (some 82))]) (h1 := hp L s c e) rfl ?_
    refine RuP.step (pc' := 26) (ls' := [some (.inr (.inr (some 27))), some (.inl x0)]) (st' := [.inl x0, .inr (.inr (some 82))]) (h1 := hp L s c e) rfl ?_
    obtain ⟨b1, h⟩ := gd_some h
    refine RuP.cI rfl (EvP.i ((ev_130 x0 b1).up (by decide))) ?_
    cases h
    exact RuP.dI rfl
  · rw [if_neg h0] at h
    refine RuP.jn rfl h0 ?_
    cases h
    exact RuP.thr (m := 24) (p2 := 17) rfl (fun _ => rfl) (fun _ => rfl) (fun _ _ => rfl) (Nat.le_of_ble_eq_true rfl) rfl rfl
/-- MachineText.putFour(I)V -/
noncomputable def j_13_42 (k3 : (Int → Int → Sg → Option Sg)) (l1 l2 : Int) (s : Sg) : Option Sg :=
  k3 l1 (ax_w32 (l2 + (-8))) s
theorem bl_13_42 {L c : Nat} {e : Nat → Nat} {k3 : (Int → Int → Sg → Option Sg)} (hk3 : ∀ (l1 l2 : Int) (s : Sg) (q : Sg), k3 l1 l2 s = some q → RuP 0 tb_m13 3 [some (.inr (.inr (some 27))), some (.inl l1), some (.inl l2)] [] (hp L s c e) (oV L c e q)) : ∀ (l1 l2 : Int) (s : Sg) (q : Sg), j_13_42 k3 l1 l2 s = some q → RuP 0 tb_m13 42 [some (.inr (.inr (some 27))), some (.inl l1), some (.inl l2)] [] (hp L s c e) (oV L c e q) := by
  intro l1 l2 s q h
  unfold j_13_42 at h
  refine RuP.step (pc' := 45) (ls' := [some (.inr (.inr (some 27))), some (.inl l1), some (.inl (ax_w32 (l2 + (-8))))]) (st' := []) (h1 := hp L s c e) rfl ?_
  refine RuP.step (pc' := 3) (ls' := [some (.inr (.inr (some 27))), some (.inl l1), some (.inl (ax_w32 (l2 + (-8))))]) (st' := []) (h1 := hp L s c e) rfl ?_
  exact hk3 _ _ _ _ h
noncomputable def j_13_3 : Nat → Int → Int → Sg → Option Sg
  | 0, _, _, _ => none
  | F + 1, l1, l2, s =>
    (if l2 < 0 then
      some s
    else
      (if 8192 ≤ s 27 1 then
        j_13_42 (j_13_3 F) l1 l2 s
      else
        (gd (0 ≤ s 27 1 ∧ s 27 1 < 8192) (
        j_13_42 (j_13_3 F) l1 l2 (ax_u2 (ax_u2 s 28 ((s 27 1).toNat) (ax_w8 (ax_w8 (ax_iushr l1 l2)))) 27 1 (ax_w32 ((s 27 1) + 1)))))))
theorem bl_13_3 {L c : Nat} {e : Nat → Nat} : ∀ (F : Nat) (l1 l2 : Int) (s : Sg) (q : Sg), j_13_3 F l1 l2 s = some q → RuP 0 tb_m13 3 [some (.inr (.inr (some 27))), some (.inl l1), some (.inl l2)] [] (hp L s c e) (oV L c e q) := by
  intro F
  induction F with
  | zero =>
    intro l1 l2 s q h
    rw [j_13_3] at h
    cases h
  | succ F ih =>
    intro l1 l2 s q h
    rw [j_13_3] at h
    refine RuP.step (pc' := 4) (ls' := [some (.inr (.inr (some 27))), some (.inl l1), some (.inl l2)]) (st' := [.inl l2]) (h1 := hp L s c e) rfl ?_
    by_cases h0 : l2 < 0
    · rw [if_pos h0] at h
      refine RuP.jy rfl h0 ?_
      cases h
      exact RuP.dV rfl
    · rw [if_neg h0] at h
      refine RuP.jn rfl h0 ?_
      refine RuP.step (pc' := 8) (ls' := [some (.inr (.inr (some 27))), some (.inl l1), some (.inl l2)]) (st' := [.inr (.inr (some 27))]) (h1 := hp L s c e) rfl ?_
      refine RuP.step (pc' := 11) (ls' := [some (.inr (.inr (some 27))), some (.inl l1), some (.inl l2)]) (st' := [.inl (s 27 1)]) (h1 := hp L s c e) rfl ?_
      refine RuP.step (pc' := 12) (ls' := [some (.inr (.inr (some 27))), some (.inl l1), some (.inl l2)]) (st' := [.inr (.inr (some 27)), .inl (s 27 1)]) (h1 := hp L s c e) rfl ?_
      refine RuP.step (pc' := 15) (ls' := [some (.inr (.inr (some 27))), some (.inl l1), some (.inl l2)]) (st' := [.inr (.inr (some 28)), .inl (s 27 1)]) (h1 := hp L s c e) rfl ?_
      refine RuP.step (pc' := 16) (ls' := [some (.inr (.inr (some 27))), some (.inl l1), some (.inl l2)]) (st' := [.inl 8192, .inl (s 27 1)]) (h1 := hp L s c e) rfl ?_
      by_cases h1 : 8192 ≤ s 27 1
      · rw [if_pos h1] at h
        refine RuP.jy rfl h1 ?_
        exact bl_13_42 ih _ _ _ _ h
      · rw [if_neg h1] at h
        refine RuP.jn rfl h1 ?_
        refine RuP.step (pc' := 20) (ls' := [some (.inr (.inr (some 27))), some (.inl l1), some (.inl l2)]) (st' := [.inr (.inr (some 27))]) (h1 := hp L s c e) rfl ?_
        refine RuP.step (pc' := 23) (ls' := [some (.inr (.inr (some 27))), some (.inl l1), some (.inl l2)]) (st' := [.inr (.inr (some 28))]) (h1 := hp L s c e) rfl ?_
        refine RuP.step (pc' := 24) (ls' := [some (.inr (.inr (some 27))), some (.inl l1), some (.inl l2)]) (st' := [.inr (.inr (some 27)), .inr (.inr (some 28))]) (h1 := hp L s c e) rfl ?_
        refine RuP.step (pc' := 27) (ls' := [some (.inr (.inr (some 27))), some (.inl l1), some (.inl l2)]) (st' := [.inl (s 27 1), .inr (.inr (some 28))]) (h1 := hp L s c e) rfl ?_
        refine RuP.step (pc' := 28) (ls' := [some (.inr (.inr (some 27))), some (.inl l1), some (.inl l2)]) (st' := [.inl l1, .inl (s 27 1), .inr (.inr (some 28))]) (h1 := hp L s c e) rfl ?_
        refine RuP.step (pc' := 29) (ls' := [some (.inr (.inr (some 27))), some (.inl l1), some (.inl l2)]) (st' := [.inl l2, .inl l1, .inl (s 27 1), .inr (.inr (some 28))]) (h1 := hp L s c e) rfl ?_
        refine RuP.step (pc' := 30) (ls' := [some (.inr (.inr (some 27))), some (.inl l1), some (.inl l2)]) (st' := [.inl (ax_iushr l1 l2), .inl (s 27 1), .inr (.inr (some 28))]) (h1 := hp L s c e) rfl ?_
        refine RuP.step (pc' := 31) (ls' := [some (.inr (.inr (some 27))), some (.inl l1), some (.inl l2)]) (st' := [.inl (ax_w8 (ax_iushr l1 l2)), .inl (s 27 1), .inr (.inr (some 28))]) (h1 := hp L s c e) rfl ?_
        obtain ⟨b2, h⟩ := gd_some h
        refine RuP.ast (f := fun t => t == 1 || t == 3) (j := s 27 1) (a := 28) rfl rfl (by decide) rfl rfl b2.1 b2.2 ?_
        refine RuP.step (pc' := 33) (ls' := [some (.inr (.inr (some 27))), some (.inl l1), some (.inl l2)]) (st' := [.inr (.inr (some 27))]) (h1 := hp L (ax_u2 s 28 ((s 27 1).toNat) (ax_w8 (ax_w8 (ax_iushr l1 l2)))) c e) rfl ?_
        refine RuP.step (pc' := 34) (ls' := [some (.inr (.inr (some 27))), some (.inl l1), some (.inl l2)]) (st' := [.inr (.inr (some 27)), .inr (.inr (some 27))]) (h1 := hp L (ax_u2 s 28 ((s 27 1).toNat) (ax_w8 (ax_w8 (ax_iushr l1 l2)))) c e) rfl ?_
        refine RuP.step (pc' := 37) (ls' := [some (.inr (.inr (some 27))), some (.inl l1), some (.inl l2)]) (st' := [.inl (s 27 1), .inr (.inr (some 27))]) (h1 := hp L (ax_u2 s 28 ((s 27 1).toNat) (ax_w8 (ax_w8 (ax_iushr l1 l2)))) c e) rfl ?_
        refine RuP.step (pc' := 38) (ls' := [some (.inr (.inr (some 27))), some (.inl l1), some (.inl l2)]) (st' := [.inl 1, .inl (s 27 1), .inr (.inr (some 27))]) (h1 := hp L (ax_u2 s 28 ((s 27 1).toNat) (ax_w8 (ax_w8 (ax_iushr l1 l2)))) c e) rfl ?_
        refine RuP.step (pc' := 39) (ls' := [some (.inr (.inr (some 27))), some (.inl l1), some (.inl l2)]) (st' := [.inl (ax_w32 ((s 27 1) + 1)), .inr (.inr (some 27))]) (h1 := hp L (ax_u2 s 28 ((s 27 1).toNat) (ax_w8 (ax_w8 (ax_iushr l1 l2)))) c e) rfl ?_
        refine RuP.step (pc' := 42) (ls' := [some (.inr (.inr (some 27))), some (.inl l1), some (.inl l2)]) (st' := []) (h1 := hp L (ax_u2 (ax_u2 s 28 ((s 27 1).toNat) (ax_w8 (ax_w8 (ax_iushr l1 l2)))) 27 1 (ax_w32 ((s 27 1) + 1))) c e) rfl ?_
        exact bl_13_42 ih _ _ _ _ h
noncomputable def f_13 (x0 : Int) (s : Sg) : Option Sg :=
  j_13_3 FU x0 24 s
theorem ev_13 {L c : Nat} {e : Nat → Nat} {s : Sg} {x0 : Int} {q : Sg} (h : f_13 x0 s = some q) : EvP 1 13 [.inr (.inr (some 27)), .inl x0] (hp L s c e) (oV L c e q) := by
  unfold f_13 at h
  refine EvP.of (μ := tb_m13) (ls := [some (.inr (.inr (some 27))), some (.inl x0), none]) rfl (Nat.le_of_ble_eq_true rfl) rfl ?_
  refine RuP.step (pc' := 2) (ls' := [some (.inr (.inr (some 27))), some (.inl x0), none]) (st' := [.inl 24]) (h1 := hp L s c e) rfl ?_
  refine RuP.step (pc' := 3) (ls' := [some (.inr (.inr (some 27))), some (.inl x0), some (.inl 24)]) (st' := []) (h1 := hp L s c e) rfl ?_
  exact bl_13_3 FU _ _ _ _ h
/-- MachineText$Checker.checkInstructions()V -/
noncomputable def j_20_77 (k2 : (Int → Sg → Option Sg)) (l1 : Int) (s : Sg) : Option Sg :=
  k2 (ax_w32 (l1 + 1)) s
theorem bl_20_77 {L c : Nat} {e : Nat → Nat} {k2 : (Int → Sg → Option Sg)} (hk2 : ∀ (d2 : Option ax_V) (l1 : Int) (s : Sg) (q : Sg), k2 l1 s = some q → RuP 2 tb_m20 2 [some (.inr (.inr (some 73))), some (.inl l1), d2] [] (hp L s c e) (oV L c e q)) : ∀ (z2 : Int) (l1 : Int) (s : Sg) (q : Sg), j_20_77 k2 l1 s = some q → RuP 2 tb_m20 77 [some (.inr (.inr (some 73))), some (.inl l1), some (.inl z2)] [] (hp L s c e) (oV L c e q) := by
  intro z2 l1 s q h
  unfold j_20_77 at h
  refine RuP.step (pc' := 80) (ls' := [some (.inr (.inr (some 73))), some (.inl (ax_w32 (l1 + 1))), some (.inl z2)]) (st' := []) (h1 := hp L s c e) rfl ?_
  refine RuP.step (pc' := 2) (ls' := [some (.inr (.inr (some 73))), some (.inl (ax_w32 (l1 + 1))), some (.inl z2)]) (st' := []) (h1 := hp L s c e) rfl ?_
  exact hk2 _ _ _ _ h
noncomputable def j_20_2 : Nat → Int → Sg → Option Sg
  | 0, _, _ => none
  | F + 1, l1, s =>
    (if s 54 6 ≤ l1 then
      some s
    else
      (gd (g_182 l1 s) (
      (if ((if ¬ (f_182 l1 s) = 3 then 0 else 1) : Int) = 0 then
        j_20_77 (j_20_2 F) l1 s
      else
        (gd (g_183 l1 s) (
        (if f_183 l1 s = s 54 7 then
          j_20_77 (j_20_2 F) l1 s
        else
          (gd (g_187 l1 s) (
          (gd (g_80 (f_187 l1 s) s) (
          (gd (g_71 10 (f_80 (f_187 l1 s) s) s) (
          ((some (f_71 10 (f_80 (f_187 l1 s) s) s)).bind fun q1 =>
          j_20_77 (j_20_2 F) l1 q1))))))))))))))
theorem bl_20_2 {L c : Nat} {e : Nat → Nat} : ∀ (F : Nat) (d2 : Option ax_V) (l1 : Int) (s : Sg) (q : Sg), j_20_2 F l1 s = some q → RuP 2 tb_m20 2 [some (.inr (.inr (some 73))), some (.inl l1), d2] [] (hp L s c e) (oV L c e q) := by
  intro F
  induction F with
  | zero =>
    intro d2 l1 s q h
    rw [j_20_2] at h
    cases h
  | succ F ih =>
    intro d2 l1 s q h
    rw [j_20_2] at h
    refine RuP.step (pc' := 3) (ls' := [some (.inr (.inr (some 73))), some (.inl l1), d2]) (st' := [.inl l1]) (h1 := hp L s c e) rfl ?_
    refine RuP.step (pc' := 4) (ls' := [some (.inr (.inr (some 73))), some (.inl l1), d2]) (st' := [.inr (.inr (some 73)), .inl l1]) (h1 := hp L s c e) rfl ?_
    refine RuP.step (pc' := 7) (ls' := [some (.inr (.inr (some 73))), some (.inl l1), d2]) (st' := [.inr (.inr (some 54)), .inl l1]) (h1 := hp L s c e) rfl ?_
    refine RuP.step (pc' := 10) (ls' := [some (.inr (.inr (some 73))), some (.inl l1), d2]) (st' := [.inl (s 54 6), .inl l1]) (h1 := hp L s c e) rfl ?_
    by_cases h0 : s 54 6 ≤ l1
    · rw [if_pos h0] at h
      refine RuP.jy rfl h0 ?_
      cases h
      exact RuP.dV rfl
    · rw [if_neg h0] at h
      refine RuP.jn rfl h0 ?_
      refine RuP.step (pc' := 14) (ls' := [some (.inr (.inr (some 73))), some (.inl l1), d2]) (st' := [.inr (.inr (some 73))]) (h1 := hp L s c e) rfl ?_
      refine RuP.step (pc' := 17) (ls' := [some (.inr (.inr (some 73))), some (.inl l1), d2]) (st' := [.inr (.inr (some 54))]) (h1 := hp L s c e) rfl ?_
      refine RuP.step (pc' := 18) (ls' := [some (.inr (.inr (some 73))), some (.inl l1), d2]) (st' := [.inl l1, .inr (.inr (some 54))]) (h1 := hp L s c e) rfl ?_
      obtain ⟨b1, h⟩ := gd_some h
      refine RuP.cI rfl (EvP.i ((ev_182 l1 b1).up (by decide))) ?_
      refine RuP.step (pc' := 22) (ls' := [some (.inr (.inr (some 73))), some (.inl l1), d2]) (st' := [.inl 3, .inl (f_182 l1 s)]) (h1 := hp L s c e) rfl ?_
      have J3 : ∀ v2_0 : Int, v2_0 = ((if ¬ (f_182 l1 s) = 3 then 0 else 1) : Int) → RuP 2 tb_m20 30 [some (.inr (.inr (some 73))), some (.inl l1), d2] [.inl v2_0] (hp L s c e) (oV L c e q) := by
        intro v2_0 ev2_0
        subst ev2_0
        refine RuP.step (pc' := 31) (ls' := [some (.inr (.inr (some 73))), some (.inl l1), some (.inl ((if ¬ (f_182 l1 s) = 3 then 0 else 1) : Int))]) (st' := []) (h1 := hp L s c e) rfl ?_
        refine RuP.step (pc' := 32) (ls' := [some (.inr (.inr (some 73))), some (.inl l1), some (.inl ((if ¬ (f_182 l1 s) = 3 then 0 else 1) : Int))]) (st' := [.inl ((if ¬ (f_182 l1 s) = 3 then 0 else 1) : Int)]) (h1 := hp L s c e) rfl ?_
        by_cases h3 : ((if ¬ (f_182 l1 s) = 3 then 0 else 1) : Int) = 0
        · rw [if_pos h3] at h
          refine RuP.jy rfl h3 ?_
          exact bl_20_77 ih _ _ _ _ h
        · rw [if_neg h3] at h
          refine RuP.jn rfl h3 ?_
          refine RuP.step (pc' := 36) (ls' := [some (.inr (.inr (some 73))), some (.inl l1), some (.inl ((if ¬ (f_182 l1 s) = 3 then 0 else 1) : Int))]) (st' := [.inr (.inr (some 73))]) (h1 := hp L s c e) rfl ?_
          refine RuP.step (pc' := 39) (ls' := [some (.inr (.inr (some 73))), some (.inl l1), some (.inl ((if ¬ (f_182 l1 s) = 3 then 0 else 1) : Int))]) (st' := [.inr (.inr (some 54))]) (h1 := hp L s c e) rfl ?_
          refine RuP.step (pc' := 40) (ls' := [some (.inr (.inr (some 73))), some (.inl l1), some (.inl ((if ¬ (f_182 l1 s) = 3 then 0 else 1) : Int))]) (st' := [.inl l1, .inr (.inr (some 54))]) (h1 := hp L s c e) rfl ?_
          obtain ⟨b4, h⟩ := gd_some h
          refine RuP.cI rfl (EvP.i ((ev_183 l1 b4).up (by decide))) ?_
          refine RuP.step (pc' := 44) (ls' := [some (.inr (.inr (some 73))), some (.inl l1), some (.inl ((if ¬ (f_182 l1 s) = 3 then 0 else 1) : Int))]) (st' := [.inr (.inr (some 73)), .inl (f_183 l1 s)]) (h1 := hp L s c e) rfl ?_
          refine RuP.step (pc' := 47) (ls' := [some (.inr (.inr (some 73))), some (.inl l1), some (.inl ((if ¬ (f_182 l1 s) = 3 then 0 else 1) : Int))]) (st' := [.inr (.inr (some 54)), .inl (f_183 l1 s)]) (h1 := hp L s c e) rfl ?_
          refine RuP.step (pc' := 50) (ls' := [some (.inr (.inr (some 73))), some (.inl l1), some (.inl ((if ¬ (f_182 l1 s) = 3 then 0 else 1) : Int))]) (st' := [.inl (s 54 7), .inl (f_183 l1 s)]) (h1 := hp L s c e) rfl ?_
          by_cases h5 : f_183 l1 s = s 54 7
          · rw [if_pos h5] at h
            refine RuP.jy rfl h5 ?_
            exact bl_20_77 ih _ _ _ _ h
          · rw [if_neg h5] at h
            refine RuP.jn rfl h5 ?_
            refine RuP.step (pc' := 54) (ls' := [some (.inr (.inr (some 73))), some (.inl l1), some (.inl ((if ¬ (f_182 l1 s) = 3 then 0 else 1) : Int))]) (st' := [.inr (.inr (some 73))]) (h1 := hp L s c e) rfl ?_
            refine RuP.step (pc' := 57) (ls' := [some (.inr (.inr (some 73))), some (.inl l1), some (.inl ((if ¬ (f_182 l1 s) = 3 then 0 else 1) : Int))]) (st' := [.inr (.inr (some 29))]) (h1 := hp L s c e) rfl ?_
            refine RuP.step (pc' := 59) (ls' := [some (.inr (.inr (some 73))), some (.inl l1), some (.inl ((if ¬ (f_182 l1 s) = 3 then 0 else 1) : Int))]) (st' := [.inl 10, .inr (.inr (some 29))]) (h1 := hp L s c e) rfl ?_
            refine RuP.step (pc' := 60) (ls' := [some (.inr (.inr (some 73))), some (.inl l1), some (.inl ((if ¬ (f_182 l1 s) = 3 then 0 else 1) : Int))]) (st' := [.inr (.inr (some 73)), .inl 10, .inr (.inr (some 29))]) (h1 := hp L s c e) rfl ?_
            refine RuP.step (pc' := 63) (ls' := [some (.inr (.inr (some 73))), some (.inl l1), some (.inl ((if ¬ (f_182 l1 s) = 3 then 0 else 1) : Int))]) (st' := [.inr (.inr (some 39)), .inl 10, .inr (.inr (some 29))]) (h1 := hp L s c e) rfl ?_
            refine RuP.step (pc' := 64) (ls' := [some (.inr (.inr (some 73))), some (.inl l1), some (.inl ((if ¬ (f_182 l1 s) = 3 then 0 else 1) : Int))]) (st' := [.inr (.inr (some 73)), .inr (.inr (some 39)), .inl 10, .inr (.inr (some 29))]) (h1 := hp L s c e) rfl ?_
            refine RuP.step (pc' := 67) (ls' := [some (.inr (.inr (some 73))), some (.inl l1), some (.inl ((if ¬ (f_182 l1 s) = 3 then 0 else 1) : Int))]) (st' := [.inr (.inr (some 54)), .inr (.inr (some 39)), .inl 10, .inr (.inr (some 29))]) (h1 := hp L s c e) rfl ?_
            refine RuP.step (pc' := 68) (ls' := [some (.inr (.inr (some 73))), some (.inl l1), some (.inl ((if ¬ (f_182 l1 s) = 3 then 0 else 1) : Int))]) (st' := [.inl l1, .inr (.inr (some 54)), .inr (.inr (some 39)), .inl 10, .inr (.inr (some 29))]) (h1 := hp L s c e) rfl ?_
            obtain ⟨b6, h⟩ := gd_some h
            refine RuP.cI rfl (EvP.i ((ev_187 l1 b6).up (by decide))) ?_
            obtain ⟨b7, h⟩ := gd_some h
            refine RuP.cI rfl (EvP.i ((ev_80 (f_187 l1 s) b7).up (by decide))) ?_
            obtain ⟨b8, h⟩ := gd_some h
            obtain ⟨q1, h1, h⟩ := bd_some h
            refine RuP.cVe h1 rfl (EvP.v ((ev_71 10 (f_80 (f_187 l1 s) s) b8).up (by decide))) ?_
            exact bl_20_77 ih _ _ _ _ h
      by_cases h9 : ¬ (f_182 l1 s) = 3
      · refine RuP.jy rfl h9 ?_
        refine RuP.step (pc' := 30) (ls' := [some (.inr (.inr (some 73))), some (.inl l1), d2]) (st' := [.inl 0]) (h1 := hp L s c e) rfl ?_
        exact J3 _ (by simp only [if_pos h9])
      · refine RuP.jn rfl h9 ?_
        refine RuP.step (pc' := 26) (ls' := [some (.inr (.inr (some 73))), some (.inl l1), d2]) (st' := [.inl 1]) (h1 := hp L s c e) rfl ?_
        refine RuP.step (pc' := 30) (ls' := [some (.inr (.inr (some 73))), some (.inl l1), d2]) (st' := [.inl 1]) (h1 := hp L s c e) rfl ?_
        exact J3 _ (by simp only [if_neg h9])
noncomputable def f_20 (s : Sg) : Option Sg :=
  j_20_2 FU 0 s
theorem ev_20 {L c : Nat} {e : Nat → Nat} {s : Sg} {q : Sg} (h : f_20 s = some q) : EvP 3 20 [.inr (.inr (some 73))] (hp L s c e) (oV L c e q) := by
  unfold f_20 at h
  refine EvP.of (μ := tb_m20) (ls := [some (.inr (.inr (some 73))), none, none]) rfl (Nat.le_of_ble_eq_true rfl) rfl ?_
  refine RuP.step (pc' := 1) (ls' := [some (.inr (.inr (some 73))), none, none]) (st' := [.inl 0]) (h1 := hp L s c e) rfl ?_
  refine RuP.step (pc' := 2) (ls' := [some (.inr (.inr (some 73))), some (.inl 0), none]) (st' := []) (h1 := hp L s c e) rfl ?_
  exact bl_20_2 FU _ _ _ _ h
/-- MachineText$Checker.hasRightParts(I)Z -/
noncomputable def j_22_11 : Nat → Int → Int → Int → Sg → Option Int
  | 0, _, _, _, _ => none
  | F + 1, l1, l2, l3, s =>
    (gd (g_118 l1 s) (
    (if f_118 l1 s ≤ l3 then
      some 1
    else
      (gd (g_117 l2 s) (
      (if ¬ (f_117 l2 s) = 0 then
        (gd (g_121 l2 s) (
        (j_22_11 F) l1 (f_121 l2 s) (ax_w32 (l3 + 1)) s))
      else
        some 0))))))
theorem bl_22_11 {L c : Nat} {e : Nat → Nat} : ∀ (F : Nat) (l1 l2 l3 : Int) (s : Sg) (q : Int), j_22_11 F l1 l2 l3 s = some q → RuP 2 tb_m22 11 [some (.inr (.inr (some 73))), some (.inl l1), some (.inl l2), some (.inl l3)] [] (hp L s c e) (oI L c e (q, s)) := by
  intro F
  induction F with
  | zero =>
    intro l1 l2 l3 s q h
    rw [j_22_11] at h
    cases h
  | succ F ih =>
    intro l1 l2 l3 s q h
    rw [j_22_11] at h
    refine RuP.step (pc' := 12) (ls' := [some (.inr (.inr (some 73))), some (.inl l1), some (.inl l2), some (.inl l3)]) (st' := [.inl l3]) (h1 := hp L s c e) rfl ?_
    refine RuP.step (pc' := 13) (ls' := [some (.inr (.inr (some 73))), some (.inl l1), some (.inl l2), some (.inl l3)]) (st' := [.inr (.inr (some 73)), .inl l3]) (h1 := hp L s c e) rfl ?_
    refine RuP.step (pc' := 16) (ls' := [some (.inr (.inr (some 73))), some (.inl l1), some (.inl l2), some (.inl l3)]) (st' := [.inr (.inr (some 46)), .inl l3]) (h1 := hp L s c e) rfl ?_
    refine RuP.step (pc' := 17) (ls' := [some (.inr (.inr (some 73))), some (.inl l1), some (.inl l2), some (.inl l3)]) (st' := [.inl l1, .inr (.inr (some 46)), .inl l3]) (h1 := hp L s c e) rfl ?_
    obtain ⟨b0, h⟩ := gd_some h
    refine RuP.cI rfl (EvP.i ((ev_118 l1 b0).up (by decide))) ?_
    by_cases h1 : f_118 l1 s ≤ l3
    · rw [if_pos h1] at h
      refine RuP.jy rfl h1 ?_
      refine RuP.step (pc' := 52) (ls' := [some (.inr (.inr (some 73))), some (.inl l1), some (.inl l2), some (.inl l3)]) (st' := [.inl 1]) (h1 := hp L s c e) rfl ?_
      cases h
      exact RuP.dI rfl
    · rw [if_neg h1] at h
      refine RuP.jn rfl h1 ?_
      refine RuP.step (pc' := 24) (ls' := [some (.inr (.inr (some 73))), some (.inl l1), some (.inl l2), some (.inl l3)]) (st' := [.inr (.inr (some 73))]) (h1 := hp L s c e) rfl ?_
      refine RuP.step (pc' := 27) (ls' := [some (.inr (.inr (some 73))), some (.inl l1), some (.inl l2), some (.inl l3)]) (st' := [.inr (.inr (some 46))]) (h1 := hp L s c e) rfl ?_
      refine RuP.step (pc' := 28) (ls' := [some (.inr (.inr (some 73))), some (.inl l1), some (.inl l2), some (.inl l3)]) (st' := [.inl l2, .inr (.inr (some 46))]) (h1 := hp L s c e) rfl ?_
      obtain ⟨b2, h⟩ := gd_some h
      refine RuP.cI rfl (EvP.i ((ev_117 l2 b2).up (by decide))) ?_
      by_cases h3 : ¬ (f_117 l2 s) = 0
      · rw [if_pos h3] at h
        refine RuP.jy rfl h3 ?_
        refine RuP.step (pc' := 37) (ls' := [some (.inr (.inr (some 73))), some (.inl l1), some (.inl l2), some (.inl l3)]) (st' := [.inr (.inr (some 73))]) (h1 := hp L s c e) rfl ?_
        refine RuP.step (pc' := 40) (ls' := [some (.inr (.inr (some 73))), some (.inl l1), some (.inl l2), some (.inl l3)]) (st' := [.inr (.inr (some 46))]) (h1 := hp L s c e) rfl ?_
        refine RuP.step (pc' := 41) (ls' := [some (.inr (.inr (some 73))), some (.inl l1), some (.inl l2), some (.inl l3)]) (st' := [.inl l2, .inr (.inr (some 46))]) (h1 := hp L s c e) rfl ?_
        obtain ⟨b4, h⟩ := gd_some h
        refine RuP.cI rfl (EvP.i ((ev_121 l2 b4).up (by decide))) ?_
        refine RuP.step (pc' := 45) (ls' := [some (.inr (.inr (some 73))), some (.inl l1), some (.inl (f_121 l2 s)), some (.inl l3)]) (st' := []) (h1 := hp L s c e) rfl ?_
        refine RuP.step (pc' := 48) (ls' := [some (.inr (.inr (some 73))), some (.inl l1), some (.inl (f_121 l2 s)), some (.inl (ax_w32 (l3 + 1)))]) (st' := []) (h1 := hp L s c e) rfl ?_
        refine RuP.step (pc' := 11) (ls' := [some (.inr (.inr (some 73))), some (.inl l1), some (.inl (f_121 l2 s)), some (.inl (ax_w32 (l3 + 1)))]) (st' := []) (h1 := hp L s c e) rfl ?_
        exact ih _ _ _ _ _ h
      · rw [if_neg h3] at h
        refine RuP.jn rfl h3 ?_
        refine RuP.step (pc' := 35) (ls' := [some (.inr (.inr (some 73))), some (.inl l1), some (.inl l2), some (.inl l3)]) (st' := [.inl 0]) (h1 := hp L s c e) rfl ?_
        cases h
        exact RuP.dI rfl
noncomputable def f_22 (x0 : Int) (s : Sg) : Option Int :=
  (gd (g_120 x0 s) (
  j_22_11 FU x0 (f_120 x0 s) 0 s))
theorem ev_22 {L c : Nat} {e : Nat → Nat} {s : Sg} {x0 : Int} {q : Int} (h : f_22 x0 s = some q) : EvP 3 22 [.inr (.inr (some 73)), .inl x0] (hp L s c e) (oI L c e (q, s)) := by
  unfold f_22 at h
  refine EvP.of (μ := tb_m22) (ls := [some (.inr (.inr (some 73))), some (.inl x0), none, none]) rfl (Nat.le_of_ble_eq_true rfl) rfl ?_
  refine RuP.step (pc' := 1) (ls' := [some (.inr (.inr (some 73))), some (.inl x0), none, none]) (st' := [.inr (.inr (some 73))]) (h1 := hp L s c e) rfl ?_
  refine RuP.step (pc' := 4) (ls' := [some (.inr (.inr (some 73))), some (.inl x0), none, none]) (st' := [.inr (.inr (some 46))]) (h1 := hp L s c e) rfl ?_
  refine RuP.step (pc' := 5) (ls' := [some (.inr (.inr (some 73))), some (.inl x0), none, none]) (st' := [.inl x0, .inr (.inr (some 46))]) (h1 := hp L s c e) rfl ?_
  obtain ⟨b0, h⟩ := gd_some h
  refine RuP.cI rfl (EvP.i ((ev_120 x0 b0).up (by decide))) ?_
  refine RuP.step (pc' := 9) (ls' := [some (.inr (.inr (some 73))), some (.inl x0), some (.inl (f_120 x0 s)), none]) (st' := []) (h1 := hp L s c e) rfl ?_
  refine RuP.step (pc' := 10) (ls' := [some (.inr (.inr (some 73))), some (.inl x0), some (.inl (f_120 x0 s)), none]) (st' := [.inl 0]) (h1 := hp L s c e) rfl ?_
  refine RuP.step (pc' := 11) (ls' := [some (.inr (.inr (some 73))), some (.inl x0), some (.inl (f_120 x0 s)), some (.inl 0)]) (st' := []) (h1 := hp L s c e) rfl ?_
  exact bl_22_11 FU _ _ _ _ _ h
/-- MachineText$Checker.fits(III)Z -/
noncomputable def f_27 (x0 x1 x2 : Int) (s : Sg) : Option Int :=
  (gd (g_182 x0 s) (
  (gd (g_184 x0 s) (
  (if x1 = 1 then
    (if ¬ (f_182 x0 s) = 0 then
      some 0
    else
      (if ¬ (f_184 x0 s) = 0 then
        some 0
      else
        some 1))
  else
  (if x1 = 2 then
    (if f_182 x0 s = 1 then
      some 1
    else
      (if ¬ (f_182 x0 s) = 0 then
        some 0
      else
        (if f_184 x0 s = 0 then
          some 0
        else
          some 1)))
  else
    (if ¬ (f_182 x0 s) = 2 then
      some 0
    else
      (if ¬ (f_184 x0 s) = x2 then
        some 0
      else
        some 1))))))))
theorem ev_27 {L c : Nat} {e : Nat → Nat} {s : Sg} {x0 x1 x2 : Int} {q : Int} (h : f_27 x0 x1 x2 s = some q) : EvP 3 27 [.inr (.inr (some 73)), .inl x0, .inl x1, .inl x2] (hp L s c e) (oI L c e (q, s)) := by
  unfold f_27 at h
  refine EvP.of (μ := tb_m27) (ls := [some (.inr (.inr (some 73))), some (.inl x0), some (.inl x1), some (.inl x2), none, none]) rfl (Nat.le_of_ble_eq_true rfl) rfl ?_
  refine RuP.step (pc' := 1) (ls' := [some (.inr (.inr (some 73))), some (.inl x0), some (.inl x1), some (.inl x2), none, none]) (st' := [.inr (.inr (some 73))]) (h1 := hp L s c e) rfl ?_
  refine RuP.step (pc' := 4) (ls' := [some (.inr (.inr (some 73))), some (.inl x0), some (.inl x1), some (.inl x2), none, none]) (st' := [.inr (.inr (some 54))]) (h1 := hp L s c e) rfl ?_
  refine RuP.step (pc' := 5) (ls' := [some (.inr (.inr (some 73))), some (.inl x0), some (.inl x1), some (.inl x2), none, none]) (st' := [.inl x0, .inr (.inr (some 54))]) (h1 := hp L s c e) rfl ?_
  obtain ⟨b0, h⟩ := gd_some h
  refine RuP.cI rfl (EvP.i ((ev_182 x0 b0).up (by decide))) ?_
  refine RuP.step (pc' := 10) (ls' := [some (.inr (.inr (some 73))), some (.inl x0), some (.inl x1), some (.inl x2), some (.inl (f_182 x0 s)), none]) (st' := []) (h1 := hp L s c e) rfl ?_
  refine RuP.step (pc' := 11) (ls' := [some (.inr (.inr (some 73))), some (.inl x0), some (.inl x1), some (.inl x2), some (.inl (f_182 x0 s)), none]) (st' := [.inr (.inr (some 73))]) (h1 := hp L s c e) rfl ?_
  refine RuP.step (pc' := 14) (ls' := [some (.inr (.inr (some 73))), some (.inl x0), some (.inl x1), some (.inl x2), some (.inl (f_182 x0 s)), none]) (st' := [.inr (.inr (some 54))]) (h1 := hp L s c e) rfl ?_
  refine RuP.step (pc' := 15) (ls' := [some (.inr (.inr (some 73))), some (.inl x0), some (.inl x1), some (.inl x2), some (.inl (f_182 x0 s)), none]) (st' := [.inl x0, .inr (.inr (some 54))]) (h1 := hp L s c e) rfl ?_
  obtain ⟨b1, h⟩ := gd_some h
  refine RuP.cI rfl (EvP.i ((ev_184 x0 b1).up (by decide))) ?_
  refine RuP.step (pc' := 20) (ls' := [some (.inr (.inr (some 73))), some (.inl x0), some (.inl x1), some (.inl x2), some (.inl (f_182 x0 s)), some (.inl (f_184 x0 s))]) (st' := []) (h1 := hp L s c e) rfl ?_
  refine RuP.step (pc' := 21) (ls' := [some (.inr (.inr (some 73))), some (.inl x0), some (.inl x1), some (.inl x2), some (.inl (f_182 x0 s)), some (.inl (f_184 x0 s))]) (st' := [.inl x1]) (h1 := hp L s c e) rfl ?_
  by_cases h2 : x1 = 1
  · rw [if_pos h2] at h
    have J3 : RuP 2 tb_m27 48 [some (.inr (.inr (some 73))), some (.inl x0), some (.inl x1), some (.inl x2), some (.inl (f_182 x0 s)), some (.inl (f_184 x0 s))] [] (hp L s c e) (oI L c e (q, s)) := by
      refine RuP.step (pc' := 50) (ls' := [some (.inr (.inr (some 73))), some (.inl x0), some (.inl x1), some (.inl x2), some (.inl (f_182 x0 s)), some (.inl (f_184 x0 s))]) (st' := [.inl (f_182 x0 s)]) (h1 := hp L s c e) rfl ?_
      by_cases h3 : ¬ (f_182 x0 s) = 0
      · rw [if_pos h3] at h
        refine RuP.jy rfl h3 ?_
        refine RuP.step (pc' := 63) (ls' := [some (.inr (.inr (some 73))), some (.inl x0), some (.inl x1), some (.inl x2), some (.inl (f_182 x0 s)), some (.inl (f_184 x0 s))]) (st' := [.inl 0]) (h1 := hp L s c e) rfl ?_
        cases h
        exact RuP.dI rfl
      · rw [if_neg h3] at h
        refine RuP.jn rfl h3 ?_
        refine RuP.step (pc' := 55) (ls' := [some (.inr (.inr (some 73))), some (.inl x0), some (.inl x1), some (.inl x2), some (.inl (f_182 x0 s)), some (.inl (f_184 x0 s))]) (st' := [.inl (f_184 x0 s)]) (h1 := hp L s c e) rfl ?_
        by_cases h4 : ¬ (f_184 x0 s) = 0
        · rw [if_pos h4] at h
          refine RuP.jy rfl h4 ?_
          refine RuP.step (pc' := 63) (ls' := [some (.inr (.inr (some 73))), some (.inl x0), some (.inl x1), some (.inl x2), some (.inl (f_182 x0 s)), some (.inl (f_184 x0 s))]) (st' := [.inl 0]) (h1 := hp L s c e) rfl ?_
          cases h
          exact RuP.dI rfl
        · rw [if_neg h4] at h
          refine RuP.jn rfl h4 ?_
          refine RuP.step (pc' := 59) (ls' := [some (.inr (.inr (some 73))), some (.inl x0), some (.inl x1), some (.inl x2), some (.inl (f_182 x0 s)), some (.inl (f_184 x0 s))]) (st' := [.inl 1]) (h1 := hp L s c e) rfl ?_
          refine RuP.step (pc' := 63) (ls' := [some (.inr (.inr (some 73))), some (.inl x0), some (.inl x1), some (.inl x2), some (.inl (f_182 x0 s)), some (.inl (f_184 x0 s))]) (st' := [.inl 1]) (h1 := hp L s c e) rfl ?_
          cases h
          exact RuP.dI rfl
    exact RuP.sw (i := .lookupswitch (65) #[((1), (27)), ((2), (43))]) rfl h2 rfl J3
  rw [if_neg h2] at h
  by_cases h5 : x1 = 2
  · rw [if_pos h5] at h
    have J6 : RuP 2 tb_m27 64 [some (.inr (.inr (some 73))), some (.inl x0), some (.inl x1), some (.inl x2), some (.inl (f_182 x0 s)), some (.inl (f_184 x0 s))] [] (hp L s c e) (oI L c e (q, s)) := by
      refine RuP.step (pc' := 66) (ls' := [some (.inr (.inr (some 73))), some (.inl x0), some (.inl x1), some (.inl x2), some (.inl (f_182 x0 s)), some (.inl (f_184 x0 s))]) (st' := [.inl (f_182 x0 s)]) (h1 := hp L s c e) rfl ?_
      refine RuP.step (pc' := 67) (ls' := [some (.inr (.inr (some 73))), some (.inl x0), some (.inl x1), some (.inl x2), some (.inl (f_182 x0 s)), some (.inl (f_184 x0 s))]) (st' := [.inl 1, .inl (f_182 x0 s)]) (h1 := hp L s c e) rfl ?_
      by_cases h6 : f_182 x0 s = 1
      · rw [if_pos h6] at h
        refine RuP.jy rfl h6 ?_
        refine RuP.step (pc' := 81) (ls' := [some (.inr (.inr (some 73))), some (.inl x0), some (.inl x1), some (.inl x2), some (.inl (f_182 x0 s)), some (.inl (f_184 x0 s))]) (st' := [.inl 1]) (h1 := hp L s c e) rfl ?_
        refine RuP.step (pc' := 85) (ls' := [some (.inr (.inr (some 73))), some (.inl x0), some (.inl x1), some (.inl x2), some (.inl (f_182 x0 s)), some (.inl (f_184 x0 s))]) (st' := [.inl 1]) (h1 := hp L s c e) rfl ?_
        cases h
        exact RuP.dI rfl
      · rw [if_neg h6] at h
        refine RuP.jn rfl h6 ?_
        refine RuP.step (pc' := 72) (ls' := [some (.inr (.inr (some 73))), some (.inl x0), some (.inl x1), some (.inl x2), some (.inl (f_182 x0 s)), some (.inl (f_184 x0 s))]) (st' := [.inl (f_182 x0 s)]) (h1 := hp L s c e) rfl ?_
        by_cases h7 : ¬ (f_182 x0 s) = 0
        · rw [if_pos h7] at h
          refine RuP.jy rfl h7 ?_
          refine RuP.step (pc' := 85) (ls' := [some (.inr (.inr (some 73))), some (.inl x0), some (.inl x1), some (.inl x2), some (.inl (f_182 x0 s)), some (.inl (f_184 x0 s))]) (st' := [.inl 0]) (h1 := hp L s c e) rfl ?_
          cases h
          exact RuP.dI rfl
        · rw [if_neg h7] at h
          refine RuP.jn rfl h7 ?_
          refine RuP.step (pc' := 77) (ls' := [some (.inr (.inr (some 73))), some (.inl x0), some (.inl x1), some (.inl x2), some (.inl (f_182 x0 s)), some (.inl (f_184 x0 s))]) (st' := [.inl (f_184 x0 s)]) (h1 := hp L s c e) rfl ?_
          by_cases h8 : f_184 x0 s = 0
          · rw [if_pos h8] at h
            refine RuP.jy rfl h8 ?_
            refine RuP.step (pc' := 85) (ls' := [some (.inr (.inr (some 73))), some (.inl x0), some (.inl x1), some (.inl x2), some (.inl (f_182 x0 s)), some (.inl (f_184 x0 s))]) (st' := [.inl 0]) (h1 := hp L s c e) rfl ?_
            cases h
            exact RuP.dI rfl
          · rw [if_neg h8] at h
            refine RuP.jn rfl h8 ?_
            refine RuP.step (pc' := 81) (ls' := [some (.inr (.inr (some 73))), some (.inl x0), some (.inl x1), some (.inl x2), some (.inl (f_182 x0 s)), some (.inl (f_184 x0 s))]) (st' := [.inl 1]) (h1 := hp L s c e) rfl ?_
            refine RuP.step (pc' := 85) (ls' := [some (.inr (.inr (some 73))), some (.inl x0), some (.inl x1), some (.inl x2), some (.inl (f_182 x0 s)), some (.inl (f_184 x0 s))]) (st' := [.inl 1]) (h1 := hp L s c e) rfl ?_
            cases h
            exact RuP.dI rfl
    exact RuP.sw (i := .lookupswitch (65) #[((1), (27)), ((2), (43))]) rfl h5 rfl J6
  rw [if_neg h5] at h
  refine RuP.swd (i := .lookupswitch (65) #[((1), (27)), ((2), (43))]) (pc' := 86) rfl (sw_l (by simp only [List.mem_cons, List.not_mem_nil, or_false, forall_eq_or_imp, forall_eq]; omega)) ?_
  refine RuP.step (pc' := 88) (ls' := [some (.inr (.inr (some 73))), some (.inl x0), some (.inl x1), some (.inl x2), some (.inl (f_182 x0 s)), some (.inl (f_184 x0 s))]) (st' := [.inl (f_182 x0 s)]) (h1 := hp L s c e) rfl ?_
  refine RuP.step (pc' := 89) (ls' := [some (.inr (.inr (some 73))), some (.inl x0), some (.inl x1), some (.inl x2), some (.inl (f_182 x0 s)), some (.inl (f_184 x0 s))]) (st' := [.inl 2, .inl (f_182 x0 s)]) (h1 := hp L s c e) rfl ?_
  by_cases h9 : ¬ (f_182 x0 s) = 2
  · rw [if_pos h9] at h
    refine RuP.jy rfl h9 ?_
    refine RuP.step (pc' := 103) (ls' := [some (.inr (.inr (some 73))), some (.inl x0), some (.inl x1), some (.inl x2), some (.inl (f_182 x0 s)), some (.inl (f_184 x0 s))]) (st' := [.inl 0]) (h1 := hp L s c e) rfl ?_
    cases h
    exact RuP.dI rfl
  · rw [if_neg h9] at h
    refine RuP.jn rfl h9 ?_
    refine RuP.step (pc' := 94) (ls' := [some (.inr (.inr (some 73))), some (.inl x0), some (.inl x1), some (.inl x2), some (.inl (f_182 x0 s)), some (.inl (f_184 x0 s))]) (st' := [.inl (f_184 x0 s)]) (h1 := hp L s c e) rfl ?_
    refine RuP.step (pc' := 95) (ls' := [some (.inr (.inr (some 73))), some (.inl x0), some (.inl x1), some (.inl x2), some (.inl (f_182 x0 s)), some (.inl (f_184 x0 s))]) (st' := [.inl x2, .inl (f_184 x0 s)]) (h1 := hp L s c e) rfl ?_
    by_cases h10 : ¬ (f_184 x0 s) = x2
    · rw [if_pos h10] at h
      refine RuP.jy rfl h10 ?_
      refine RuP.step (pc' := 103) (ls' := [some (.inr (.inr (some 73))), some (.inl x0), some (.inl x1), some (.inl x2), some (.inl (f_182 x0 s)), some (.inl (f_184 x0 s))]) (st' := [.inl 0]) (h1 := hp L s c e) rfl ?_
      cases h
      exact RuP.dI rfl
    · rw [if_neg h10] at h
      refine RuP.jn rfl h10 ?_
      refine RuP.step (pc' := 99) (ls' := [some (.inr (.inr (some 73))), some (.inl x0), some (.inl x1), some (.inl x2), some (.inl (f_182 x0 s)), some (.inl (f_184 x0 s))]) (st' := [.inl 1]) (h1 := hp L s c e) rfl ?_
      refine RuP.step (pc' := 103) (ls' := [some (.inr (.inr (some 73))), some (.inl x0), some (.inl x1), some (.inl x2), some (.inl (f_182 x0 s)), some (.inl (f_184 x0 s))]) (st' := [.inl 1]) (h1 := hp L s c e) rfl ?_
      cases h
      exact RuP.dI rfl
/-- MachineText$Checker.callWidth(I)I -/
noncomputable def j_29_94 (l2 : Int) (s : Sg) : Option Int :=
  (gd (g_183 l2 s) (
  some (f_183 l2 s)))
theorem bl_29_94 {L c : Nat} {e : Nat → Nat} : ∀ (z1 z3 z4 z5 : Int) (l2 : Int) (s : Sg) (q : Int), j_29_94 l2 s = some q → RuP 2 tb_m29 94 [some (.inr (.inr (some 73))), some (.inl z1), some (.inl l2), some (.inl z3), some (.inl z4), some (.inl z5)] [] (hp L s c e) (oI L c e (q, s)) := by
  intro z1 z3 z4 z5 l2 s q h
  unfold j_29_94 at h
  refine RuP.step (pc' := 95) (ls' := [some (.inr (.inr (some 73))), some (.inl z1), some (.inl l2), some (.inl z3), some (.inl z4), some (.inl z5)]) (st' := [.inr (.inr (some 73))]) (h1 := hp L s c e) rfl ?_
  refine RuP.step (pc' := 98) (ls' := [some (.inr (.inr (some 73))), some (.inl z1), some (.inl l2), some (.inl z3), some (.inl z4), some (.inl z5)]) (st' := [.inr (.inr (some 54))]) (h1 := hp L s c e) rfl ?_
  refine RuP.step (pc' := 99) (ls' := [some (.inr (.inr (some 73))), some (.inl z1), some (.inl l2), some (.inl z3), some (.inl z4), some (.inl z5)]) (st' := [.inl l2, .inr (.inr (some 54))]) (h1 := hp L s c e) rfl ?_
  obtain ⟨b0, h⟩ := gd_some h
  refine RuP.cI rfl (EvP.i ((ev_183 l2 b0).up (by decide))) ?_
  cases h
  exact RuP.dI rfl
noncomputable def j_29_37 : Nat → Int → Int → Int → Int → Int → Sg → Option Int
  | 0, _, _, _, _, _, _ => none
  | F + 1, l1, l2, l3, l4, l5, s =>
    (gd (g_118 l1 s) (
    (if f_118 l1 s ≤ l5 then
      j_29_94 l2 s
    else
      (gd (g_117 l4 s) (
      (gd (g_81 l3 s) (
      (if ax_cmp (f_117 l4 s) (f_81 l3 s) = 0 then
        (gd (g_121 l4 s) (
        (j_29_37 F) l1 l2 (ax_w32 (l3 + 3)) (f_121 l4 s) (ax_w32 (l5 + 1)) s))
      else
        some 0))))))))
theorem bl_29_37 {L c : Nat} {e : Nat → Nat} : ∀ (F : Nat) (l1 l2 l3 l4 l5 : Int) (s : Sg) (q : Int), j_29_37 F l1 l2 l3 l4 l5 s = some q → RuP 2 tb_m29 37 [some (.inr (.inr (some 73))), some (.inl l1), some (.inl l2), some (.inl l3), some (.inl l4), some (.inl l5)] [] (hp L s c e) (oI L c e (q, s)) := by
  intro F
  induction F with
  | zero =>
    intro l1 l2 l3 l4 l5 s q h
    rw [j_29_37] at h
    cases h
  | succ F ih =>
    intro l1 l2 l3 l4 l5 s q h
    rw [j_29_37] at h
    refine RuP.step (pc' := 39) (ls' := [some (.inr (.inr (some 73))), some (.inl l1), some (.inl l2), some (.inl l3), some (.inl l4), some (.inl l5)]) (st' := [.inl l5]) (h1 := hp L s c e) rfl ?_
    refine RuP.step (pc' := 40) (ls' := [some (.inr (.inr (some 73))), some (.inl l1), some (.inl l2), some (.inl l3), some (.inl l4), some (.inl l5)]) (st' := [.inr (.inr (some 73)), .inl l5]) (h1 := hp L s c e) rfl ?_
    refine RuP.step (pc' := 43) (ls' := [some (.inr (.inr (some 73))), some (.inl l1), some (.inl l2), some (.inl l3), some (.inl l4), some (.inl l5)]) (st' := [.inr (.inr (some 46)), .inl l5]) (h1 := hp L s c e) rfl ?_
    refine RuP.step (pc' := 44) (ls' := [some (.inr (.inr (some 73))), some (.inl l1), some (.inl l2), some (.inl l3), some (.inl l4), some (.inl l5)]) (st' := [.inl l1, .inr (.inr (some 46)), .inl l5]) (h1 := hp L s c e) rfl ?_
    obtain ⟨b0, h⟩ := gd_some h
    refine RuP.cI rfl (EvP.i ((ev_118 l1 b0).up (by decide))) ?_
    by_cases h1 : f_118 l1 s ≤ l5
    · rw [if_pos h1] at h
      refine RuP.jy rfl h1 ?_
      exact bl_29_94 _ _ _ _ _ _ _ h
    · rw [if_neg h1] at h
      refine RuP.jn rfl h1 ?_
      refine RuP.step (pc' := 51) (ls' := [some (.inr (.inr (some 73))), some (.inl l1), some (.inl l2), some (.inl l3), some (.inl l4), some (.inl l5)]) (st' := [.inr (.inr (some 73))]) (h1 := hp L s c e) rfl ?_
      refine RuP.step (pc' := 54) (ls' := [some (.inr (.inr (some 73))), some (.inl l1), some (.inl l2), some (.inl l3), some (.inl l4), some (.inl l5)]) (st' := [.inr (.inr (some 46))]) (h1 := hp L s c e) rfl ?_
      refine RuP.step (pc' := 56) (ls' := [some (.inr (.inr (some 73))), some (.inl l1), some (.inl l2), some (.inl l3), some (.inl l4), some (.inl l5)]) (st' := [.inl l4, .inr (.inr (some 46))]) (h1 := hp L s c e) rfl ?_
      obtain ⟨b2, h⟩ := gd_some h
      refine RuP.cI rfl (EvP.i ((ev_117 l4 b2).up (by decide))) ?_
      refine RuP.step (pc' := 60) (ls' := [some (.inr (.inr (some 73))), some (.inl l1), some (.inl l2), some (.inl l3), some (.inl l4), some (.inl l5)]) (st' := [.inr (.inl (f_117 l4 s))]) (h1 := hp L s c e) rfl ?_
      refine RuP.step (pc' := 61) (ls' := [some (.inr (.inr (some 73))), some (.inl l1), some (.inl l2), some (.inl l3), some (.inl l4), some (.inl l5)]) (st' := [.inr (.inr (some 73)), .inr (.inl (f_117 l4 s))]) (h1 := hp L s c e) rfl ?_
      refine RuP.step (pc' := 64) (ls' := [some (.inr (.inr (some 73))), some (.inl l1), some (.inl l2), some (.inl l3), some (.inl l4), some (.inl l5)]) (st' := [.inr (.inr (some 39)), .inr (.inl (f_117 l4 s))]) (h1 := hp L s c e) rfl ?_
      refine RuP.step (pc' := 65) (ls' := [some (.inr (.inr (some 73))), some (.inl l1), some (.inl l2), some (.inl l3), some (.inl l4), some (.inl l5)]) (st' := [.inl l3, .inr (.inr (some 39)), .inr (.inl (f_117 l4 s))]) (h1 := hp L s c e) rfl ?_
      obtain ⟨b3, h⟩ := gd_some h
      refine RuP.cJ rfl (EvP.j ((ev_81 l3 b3).up (by decide))) ?_
      refine RuP.step (pc' := 69) (ls' := [some (.inr (.inr (some 73))), some (.inl l1), some (.inl l2), some (.inl l3), some (.inl l4), some (.inl l5)]) (st' := [.inl (ax_cmp (f_117 l4 s) (f_81 l3 s))]) (h1 := hp L s c e) rfl ?_
      by_cases h4 : ax_cmp (f_117 l4 s) (f_81 l3 s) = 0
      · rw [if_pos h4] at h
        refine RuP.jy rfl h4 ?_
        refine RuP.step (pc' := 75) (ls' := [some (.inr (.inr (some 73))), some (.inl l1), some (.inl l2), some (.inl l3), some (.inl l4), some (.inl l5)]) (st' := [.inr (.inr (some 73))]) (h1 := hp L s c e) rfl ?_
        refine RuP.step (pc' := 78) (ls' := [some (.inr (.inr (some 73))), some (.inl l1), some (.inl l2), some (.inl l3), some (.inl l4), some (.inl l5)]) (st' := [.inr (.inr (some 46))]) (h1 := hp L s c e) rfl ?_
        refine RuP.step (pc' := 80) (ls' := [some (.inr (.inr (some 73))), some (.inl l1), some (.inl l2), some (.inl l3), some (.inl l4), some (.inl l5)]) (st' := [.inl l4, .inr (.inr (some 46))]) (h1 := hp L s c e) rfl ?_
        obtain ⟨b5, h⟩ := gd_some h
        refine RuP.cI rfl (EvP.i ((ev_121 l4 b5).up (by decide))) ?_
        refine RuP.step (pc' := 85) (ls' := [some (.inr (.inr (some 73))), some (.inl l1), some (.inl l2), some (.inl l3), some (.inl (f_121 l4 s)), some (.inl l5)]) (st' := []) (h1 := hp L s c e) rfl ?_
        refine RuP.step (pc' := 88) (ls' := [some (.inr (.inr (some 73))), some (.inl l1), some (.inl l2), some (.inl (ax_w32 (l3 + 3))), some (.inl (f_121 l4 s)), some (.inl l5)]) (st' := []) (h1 := hp L s c e) rfl ?_
        refine RuP.step (pc' := 91) (ls' := [some (.inr (.inr (some 73))), some (.inl l1), some (.inl l2), some (.inl (ax_w32 (l3 + 3))), some (.inl (f_121 l4 s)), some (.inl (ax_w32 (l5 + 1)))]) (st' := []) (h1 := hp L s c e) rfl ?_
        refine RuP.step (pc' := 37) (ls' := [some (.inr (.inr (some 73))), some (.inl l1), some (.inl l2), some (.inl (ax_w32 (l3 + 3))), some (.inl (f_121 l4 s)), some (.inl (ax_w32 (l5 + 1)))]) (st' := []) (h1 := hp L s c e) rfl ?_
        exact ih _ _ _ _ _ _ _ h
      · rw [if_neg h4] at h
        refine RuP.jn rfl h4 ?_
        refine RuP.step (pc' := 73) (ls' := [some (.inr (.inr (some 73))), some (.inl l1), some (.inl l2), some (.inl l3), some (.inl l4), some (.inl l5)]) (st' := [.inl 0]) (h1 := hp L s c e) rfl ?_
        cases h
        exact RuP.dI rfl
noncomputable def f_29 (x0 : Int) (s : Sg) : Option Int :=
  (gd (g_122 x0 s) (
  (gd (g_26 (f_122 x0 s) s) (
  (gd (g_187 (f_26 (f_122 x0 s) s) s) (
  (gd (g_120 x0 s) (
  j_29_37 FU x0 (f_26 (f_122 x0 s) s) (ax_w32 ((f_187 (f_26 (f_122 x0 s) s) s) + 3)) (f_120 x0 s) 0 s))))))))
theorem ev_29 {L c : Nat} {e : Nat → Nat} {s : Sg} {x0 : Int} {q : Int} (h : f_29 x0 s = some q) : EvP 3 29 [.inr (.inr (some 73)), .inl x0] (hp L s c e) (oI L c e (q, s)) := by
  unfold f_29 at h
  refine EvP.of (μ := tb_m29) (ls := [some (.inr (.inr (some 73))), some (.inl x0), none, none, none, none]) rfl (Nat.le_of_ble_eq_true rfl) rfl ?_
  refine RuP.step (pc' := 1) (ls' := [some (.inr (.inr (some 73))), some (.inl x0), none, none, none, none]) (st' := [.inr (.inr (some 73))]) (h1 := hp L s c e) rfl ?_
  refine RuP.step (pc' := 2) (ls' := [some (.inr (.inr (some 73))), some (.inl x0), none, none, none, none]) (st' := [.inr (.inr (some 73)), .inr (.inr (some 73))]) (h1 := hp L s c e) rfl ?_
  refine RuP.step (pc' := 5) (ls' := [some (.inr (.inr (some 73))), some (.inl x0), none, none, none, none]) (st' := [.inr (.inr (some 46)), .inr (.inr (some 73))]) (h1 := hp L s c e) rfl ?_
  refine RuP.step (pc' := 6) (ls' := [some (.inr (.inr (some 73))), some (.inl x0), none, none, none, none]) (st' := [.inl x0, .inr (.inr (some 46)), .inr (.inr (some 73))]) (h1 := hp L s c e) rfl ?_
  obtain ⟨b0, h⟩ := gd_some h
  refine RuP.cI rfl (EvP.i ((ev_122 x0 b0).up (by decide))) ?_
  obtain ⟨b1, h⟩ := gd_some h
  refine RuP.cI rfl (EvP.i ((ev_26 (f_122 x0 s) b1).up (by decide))) ?_
  refine RuP.step (pc' := 13) (ls' := [some (.inr (.inr (some 73))), some (.inl x0), some (.inl (f_26 (f_122 x0 s) s)), none, none, none]) (st' := []) (h1 := hp L s c e) rfl ?_
  refine RuP.step (pc' := 14) (ls' := [some (.inr (.inr (some 73))), some (.inl x0), some (.inl (f_26 (f_122 x0 s) s)), none, none, none]) (st' := [.inr (.inr (some 73))]) (h1 := hp L s c e) rfl ?_
  refine RuP.step (pc' := 17) (ls' := [some (.inr (.inr (some 73))), some (.inl x0), some (.inl (f_26 (f_122 x0 s) s)), none, none, none]) (st' := [.inr (.inr (some 54))]) (h1 := hp L s c e) rfl ?_
  refine RuP.step (pc' := 18) (ls' := [some (.inr (.inr (some 73))), some (.inl x0), some (.inl (f_26 (f_122 x0 s) s)), none, none, none]) (st' := [.inl (f_26 (f_122 x0 s) s), .inr (.inr (some 54))]) (h1 := hp L s c e) rfl ?_
  obtain ⟨b2, h⟩ := gd_some h
  refine RuP.cI rfl (EvP.i ((ev_187 (f_26 (f_122 x0 s) s) b2).up (by decide))) ?_
  refine RuP.step (pc' := 22) (ls' := [some (.inr (.inr (some 73))), some (.inl x0), some (.inl (f_26 (f_122 x0 s) s)), none, none, none]) (st' := [.inl 3, .inl (f_187 (f_26 (f_122 x0 s) s) s)]) (h1 := hp L s c e) rfl ?_
  refine RuP.step (pc' := 23) (ls' := [some (.inr (.inr (some 73))), some (.inl x0), some (.inl (f_26 (f_122 x0 s) s)), none, none, none]) (st' := [.inl (ax_w32 ((f_187 (f_26 (f_122 x0 s) s) s) + 3))]) (h1 := hp L s c e) rfl ?_
  refine RuP.step (pc' := 24) (ls' := [some (.inr (.inr (some 73))), some (.inl x0), some (.inl (f_26 (f_122 x0 s) s)), some (.inl (ax_w32 ((f_187 (f_26 (f_122 x0 s) s) s) + 3))), none, none]) (st' := []) (h1 := hp L s c e) rfl ?_
  refine RuP.step (pc' := 25) (ls' := [some (.inr (.inr (some 73))), some (.inl x0), some (.inl (f_26 (f_122 x0 s) s)), some (.inl (ax_w32 ((f_187 (f_26 (f_122 x0 s) s) s) + 3))), none, none]) (st' := [.inr (.inr (some 73))]) (h1 := hp L s c e) rfl ?_
  refine RuP.step (pc' := 28) (ls' := [some (.inr (.inr (some 73))), some (.inl x0), some (.inl (f_26 (f_122 x0 s) s)), some (.inl (ax_w32 ((f_187 (f_26 (f_122 x0 s) s) s) + 3))), none, none]) (st' := [.inr (.inr (some 46))]) (h1 := hp L s c e) rfl ?_
  refine RuP.step (pc' := 29) (ls' := [some (.inr (.inr (some 73))), some (.inl x0), some (.inl (f_26 (f_122 x0 s) s)), some (.inl (ax_w32 ((f_187 (f_26 (f_122 x0 s) s) s) + 3))), none, none]) (st' := [.inl x0, .inr (.inr (some 46))]) (h1 := hp L s c e) rfl ?_
  obtain ⟨b3, h⟩ := gd_some h
  refine RuP.cI rfl (EvP.i ((ev_120 x0 b3).up (by decide))) ?_
  refine RuP.step (pc' := 34) (ls' := [some (.inr (.inr (some 73))), some (.inl x0), some (.inl (f_26 (f_122 x0 s) s)), some (.inl (ax_w32 ((f_187 (f_26 (f_122 x0 s) s) s) + 3))), some (.inl (f_120 x0 s)), none]) (st' := []) (h1 := hp L s c e) rfl ?_
  refine RuP.step (pc' := 35) (ls' := [some (.inr (.inr (some 73))), some (.inl x0), some (.inl (f_26 (f_122 x0 s) s)), some (.inl (ax_w32 ((f_187 (f_26 (f_122 x0 s) s) s) + 3))), some (.inl (f_120 x0 s)), none]) (st' := [.inl 0]) (h1 := hp L s c e) rfl ?_
  refine RuP.step (pc' := 37) (ls' := [some (.inr (.inr (some 73))), some (.inl x0), some (.inl (f_26 (f_122 x0 s) s)), some (.inl (ax_w32 ((f_187 (f_26 (f_122 x0 s) s) s) + 3))), some (.inl (f_120 x0 s)), some (.inl 0)]) (st' := []) (h1 := hp L s c e) rfl ?_
  exact bl_29_37 FU _ _ _ _ _ _ _ h
/-- MachineText$Checker.joinedWidth(I)I -/
noncomputable def j_30_53 (l2 : Int) (s : Sg) : Option Int :=
  (if 32 < l2 then
    some 0
  else
    some l2)
theorem bl_30_53 {L c : Nat} {e : Nat → Nat} : ∀ (z1 z3 z4 : Int) (l2 : Int) (s : Sg) (q : Int), j_30_53 l2 s = some q → RuP 2 tb_m30 53 [some (.inr (.inr (some 73))), some (.inl z1), some (.inl l2), some (.inl z3), some (.inl z4)] [] (hp L s c e) (oI L c e (q, s)) := by
  intro z1 z3 z4 l2 s q h
  unfold j_30_53 at h
  refine RuP.step (pc' := 54) (ls' := [some (.inr (.inr (some 73))), some (.inl z1), some (.inl l2), some (.inl z3), some (.inl z4)]) (st' := [.inl l2]) (h1 := hp L s c e) rfl ?_
  refine RuP.step (pc' := 56) (ls' := [some (.inr (.inr (some 73))), some (.inl z1), some (.inl l2), some (.inl z3), some (.inl z4)]) (st' := [.inl 32, .inl l2]) (h1 := hp L s c e) rfl ?_
  by_cases h0 : 32 < l2
  · rw [if_pos h0] at h
    refine RuP.jy rfl h0 ?_
    refine RuP.step (pc' := 64) (ls' := [some (.inr (.inr (some 73))), some (.inl z1), some (.inl l2), some (.inl z3), some (.inl z4)]) (st' := [.inl 0]) (h1 := hp L s c e) rfl ?_
    cases h
    exact RuP.dI rfl
  · rw [if_neg h0] at h
    refine RuP.jn rfl h0 ?_
    refine RuP.step (pc' := 60) (ls' := [some (.inr (.inr (some 73))), some (.inl z1), some (.inl l2), some (.inl z3), some (.inl z4)]) (st' := [.inl l2]) (h1 := hp L s c e) rfl ?_
    refine RuP.step (pc' := 64) (ls' := [some (.inr (.inr (some 73))), some (.inl z1), some (.inl l2), some (.inl z3), some (.inl z4)]) (st' := [.inl l2]) (h1 := hp L s c e) rfl ?_
    cases h
    exact RuP.dI rfl
noncomputable def j_30_14 : Nat → Int → Int → Int → Int → Sg → Option Int
  | 0, _, _, _, _, _ => none
  | F + 1, l1, l2, l3, l4, s =>
    (gd (g_118 l1 s) (
    (if f_118 l1 s ≤ l4 then
      j_30_53 l2 s
    else
      (gd (g_117 l3 s) (
      (gd (g_121 l3 s) (
      (j_30_14 F) l1 (ax_w32 (l2 + (f_117 l3 s))) (f_121 l3 s) (ax_w32 (l4 + 1)) s)))))))
theorem bl_30_14 {L c : Nat} {e : Nat → Nat} : ∀ (F : Nat) (l1 l2 l3 l4 : Int) (s : Sg) (q : Int), j_30_14 F l1 l2 l3 l4 s = some q → RuP 2 tb_m30 14 [some (.inr (.inr (some 73))), some (.inl l1), some (.inl l2), some (.inl l3), some (.inl l4)] [] (hp L s c e) (oI L c e (q, s)) := by
  intro F
  induction F with
  | zero =>
    intro l1 l2 l3 l4 s q h
    rw [j_30_14] at h
    cases h
  | succ F ih =>
    intro l1 l2 l3 l4 s q h
    rw [j_30_14] at h
    refine RuP.step (pc' := 16) (ls' := [some (.inr (.inr (some 73))), some (.inl l1), some (.inl l2), some (.inl l3), some (.inl l4)]) (st' := [.inl l4]) (h1 := hp L s c e) rfl ?_
    refine RuP.step (pc' := 17) (ls' := [some (.inr (.inr (some 73))), some (.inl l1), some (.inl l2), some (.inl l3), some (.inl l4)]) (st' := [.inr (.inr (some 73)), .inl l4]) (h1 := hp L s c e) rfl ?_
    refine RuP.step (pc' := 20) (ls' := [some (.inr (.inr (some 73))), some (.inl l1), some (.inl l2), some (.inl l3), some (.inl l4)]) (st' := [.inr (.inr (some 46)), .inl l4]) (h1 := hp L s c e) rfl ?_
    refine RuP.step (pc' := 21) (ls' := [some (.inr (.inr (some 73))), some (.inl l1), some (.inl l2), some (.inl l3), some (.inl l4)]) (st' := [.inl l1, .inr (.inr (some 46)), .inl l4]) (h1 := hp L s c e) rfl ?_
    obtain ⟨b0, h⟩ := gd_some h
    refine RuP.cI rfl (EvP.i ((ev_118 l1 b0).up (by decide))) ?_
    by_cases h1 : f_118 l1 s ≤ l4
    · rw [if_pos h1] at h
      refine RuP.jy rfl h1 ?_
      exact bl_30_53 _ _ _ _ _ _ h
    · rw [if_neg h1] at h
      refine RuP.jn rfl h1 ?_
      refine RuP.step (pc' := 28) (ls' := [some (.inr (.inr (some 73))), some (.inl l1), some (.inl l2), some (.inl l3), some (.inl l4)]) (st' := [.inl l2]) (h1 := hp L s c e) rfl ?_
      refine RuP.step (pc' := 29) (ls' := [some (.inr (.inr (some 73))), some (.inl l1), some (.inl l2), some (.inl l3), some (.inl l4)]) (st' := [.inr (.inr (some 73)), .inl l2]) (h1 := hp L s c e) rfl ?_
      refine RuP.step (pc' := 32) (ls' := [some (.inr (.inr (some 73))), some (.inl l1), some (.inl l2), some (.inl l3), some (.inl l4)]) (st' := [.inr (.inr (some 46)), .inl l2]) (h1 := hp L s c e) rfl ?_
      refine RuP.step (pc' := 33) (ls' := [some (.inr (.inr (some 73))), some (.inl l1), some (.inl l2), some (.inl l3), some (.inl l4)]) (st' := [.inl l3, .inr (.inr (some 46)), .inl l2]) (h1 := hp L s c e) rfl ?_
      obtain ⟨b2, h⟩ := gd_some h
      refine RuP.cI rfl (EvP.i ((ev_117 l3 b2).up (by decide))) ?_
      refine RuP.step (pc' := 37) (ls' := [some (.inr (.inr (some 73))), some (.inl l1), some (.inl l2), some (.inl l3), some (.inl l4)]) (st' := [.inl (ax_w32 (l2 + (f_117 l3 s)))]) (h1 := hp L s c e) rfl ?_
      refine RuP.step (pc' := 38) (ls' := [some (.inr (.inr (some 73))), some (.inl l1), some (.inl (ax_w32 (l2 + (f_117 l3 s)))), some (.inl l3), some (.inl l4)]) (st' := []) (h1 := hp L s c e) rfl ?_
      refine RuP.step (pc' := 39) (ls' := [some (.inr (.inr (some 73))), some (.inl l1), some (.inl (ax_w32 (l2 + (f_117 l3 s)))), some (.inl l3), some (.inl l4)]) (st' := [.inr (.inr (some 73))]) (h1 := hp L s c e) rfl ?_
      refine RuP.step (pc' := 42) (ls' := [some (.inr (.inr (some 73))), some (.inl l1), some (.inl (ax_w32 (l2 + (f_117 l3 s)))), some (.inl l3), some (.inl l4)]) (st' := [.inr (.inr (some 46))]) (h1 := hp L s c e) rfl ?_
      refine RuP.step (pc' := 43) (ls' := [some (.inr (.inr (some 73))), some (.inl l1), some (.inl (ax_w32 (l2 + (f_117 l3 s)))), some (.inl l3), some (.inl l4)]) (st' := [.inl l3, .inr (.inr (some 46))]) (h1 := hp L s c e) rfl ?_
      obtain ⟨b3, h⟩ := gd_some h
      refine RuP.cI rfl (EvP.i ((ev_121 l3 b3).up (by decide))) ?_
      refine RuP.step (pc' := 47) (ls' := [some (.inr (.inr (some 73))), some (.inl l1), some (.inl (ax_w32 (l2 + (f_117 l3 s)))), some (.inl (f_121 l3 s)), some (.inl l4)]) (st' := []) (h1 := hp L s c e) rfl ?_
      refine RuP.step (pc' := 50) (ls' := [some (.inr (.inr (some 73))), some (.inl l1), some (.inl (ax_w32 (l2 + (f_117 l3 s)))), some (.inl (f_121 l3 s)), some (.inl (ax_w32 (l4 + 1)))]) (st' := []) (h1 := hp L s c e) rfl ?_
      refine RuP.step (pc' := 14) (ls' := [some (.inr (.inr (some 73))), some (.inl l1), some (.inl (ax_w32 (l2 + (f_117 l3 s)))), some (.inl (f_121 l3 s)), some (.inl (ax_w32 (l4 + 1)))]) (st' := []) (h1 := hp L s c e) rfl ?_
      exact ih _ _ _ _ _ _ h
noncomputable def f_30 (x0 : Int) (s : Sg) : Option Int :=
  (gd (g_120 x0 s) (
  j_30_14 FU x0 0 (f_120 x0 s) 0 s))
theorem ev_30 {L c : Nat} {e : Nat → Nat} {s : Sg} {x0 : Int} {q : Int} (h : f_30 x0 s = some q) : EvP 3 30 [.inr (.inr (some 73)), .inl x0] (hp L s c e) (oI L c e (q, s)) := by
  unfold f_30 at h
  refine EvP.of (μ := tb_m30) (ls := [some (.inr (.inr (some 73))), some (.inl x0), none, none, none]) rfl (Nat.le_of_ble_eq_true rfl) rfl ?_
  refine RuP.step (pc' := 1) (ls' := [some (.inr (.inr (some 73))), some (.inl x0), none, none, none]) (st' := [.inl 0]) (h1 := hp L s c e) rfl ?_
  refine RuP.step (pc' := 2) (ls' := [some (.inr (.inr (some 73))), some (.inl x0), some (.inl 0), none, none]) (st' := []) (h1 := hp L s c e) rfl ?_
  refine RuP.step (pc' := 3) (ls' := [some (.inr (.inr (some 73))), some (.inl x0), some (.inl 0), none, none]) (st' := [.inr (.inr (some 73))]) (h1 := hp L s c e) rfl ?_
  refine RuP.step (pc' := 6) (ls' := [some (.inr (.inr (some 73))), some (.inl x0), some (.inl 0), none, none]) (st' := [.inr (.inr (some 46))]) (h1 := hp L s c e) rfl ?_
  refine RuP.step (pc' := 7) (ls' := [some (.inr (.inr (some 73))), some (.inl x0), some (.inl 0), none, none]) (st' := [.inl x0, .inr (.inr (some 46))]) (h1 := hp L s c e) rfl ?_
  obtain ⟨b0, h⟩ := gd_some h
  refine RuP.cI rfl (EvP.i ((ev_120 x0 b0).up (by decide))) ?_
  refine RuP.step (pc' := 11) (ls' := [some (.inr (.inr (some 73))), some (.inl x0), some (.inl 0), some (.inl (f_120 x0 s)), none]) (st' := []) (h1 := hp L s c e) rfl ?_
  refine RuP.step (pc' := 12) (ls' := [some (.inr (.inr (some 73))), some (.inl x0), some (.inl 0), some (.inl (f_120 x0 s)), none]) (st' := [.inl 0]) (h1 := hp L s c e) rfl ?_
  refine RuP.step (pc' := 14) (ls' := [some (.inr (.inr (some 73))), some (.inl x0), some (.inl 0), some (.inl (f_120 x0 s)), some (.inl 0)]) (st' := []) (h1 := hp L s c e) rfl ?_
  exact bl_30_14 FU _ _ _ _ _ _ h
/-- MachineText$Claims.addTarget(III)V -/
noncomputable def f_37 (x0 x1 x2 : Int) (s : Sg) : Option Sg :=
  (gd (g_42 x0 x1 x2 0 s) (
  ((some (f_42 x0 x1 x2 0 s)).bind fun q1 =>
  some q1)))
theorem ev_37 {L c : Nat} {e : Nat → Nat} {s : Sg} {x0 x1 x2 : Int} {q : Sg} (h : f_37 x0 x1 x2 s = some q) : EvP 2 37 [.inr (.inr (some 61)), .inl x0, .inl x1, .inl x2] (hp L s c e) (oV L c e q) := by
  unfold f_37 at h
  refine EvP.of (μ := tb_m37) (ls := [some (.inr (.inr (some 61))), some (.inl x0), some (.inl x1), some (.inl x2)]) rfl (Nat.le_of_ble_eq_true rfl) rfl ?_
  refine RuP.step (pc' := 1) (ls' := [some (.inr (.inr (some 61))), some (.inl x0), some (.inl x1), some (.inl x2)]) (st' := [.inr (.inr (some 61))]) (h1 := hp L s c e) rfl ?_
  refine RuP.step (pc' := 2) (ls' := [some (.inr (.inr (some 61))), some (.inl x0), some (.inl x1), some (.inl x2)]) (st' := [.inl x0, .inr (.inr (some 61))]) (h1 := hp L s c e) rfl ?_
  refine RuP.step (pc' := 3) (ls' := [some (.inr (.inr (some 61))), some (.inl x0), some (.inl x1), some (.inl x2)]) (st' := [.inl x1, .inl x0, .inr (.inr (some 61))]) (h1 := hp L s c e) rfl ?_
  refine RuP.step (pc' := 4) (ls' := [some (.inr (.inr (some 61))), some (.inl x0), some (.inl x1), some (.inl x2)]) (st' := [.inl x2, .inl x1, .inl x0, .inr (.inr (some 61))]) (h1 := hp L s c e) rfl ?_
  refine RuP.step (pc' := 5) (ls' := [some (.inr (.inr (some 61))), some (.inl x0), some (.inl x1), some (.inl x2)]) (st' := [.inl 0, .inl x2, .inl x1, .inl x0, .inr (.inr (some 61))]) (h1 := hp L s c e) rfl ?_
  obtain ⟨b0, h⟩ := gd_some h
  obtain ⟨q1, h1, h⟩ := bd_some h
  refine RuP.cVe h1 rfl (EvP.v ((ev_42 x0 x1 x2 0 b0).up (by decide))) ?_
  cases h
  exact RuP.dV rfl
/-- MachineText$Claims.addWidth(III)V -/
noncomputable def f_38 (x0 x1 x2 : Int) (s : Sg) : Option Sg :=
  (gd (g_42 x0 (-1) x1 (f_292 1 x2 s) s) (
  ((some (f_42 x0 (-1) x1 (f_292 1 x2 s) s)).bind fun q1 =>
  some q1)))
theorem ev_38 {L c : Nat} {e : Nat → Nat} {s : Sg} {x0 x1 x2 : Int} {q : Sg} (h : f_38 x0 x1 x2 s = some q) : EvP 2 38 [.inr (.inr (some 61)), .inl x0, .inl x1, .inl x2] (hp L s c e) (oV L c e q) := by
  unfold f_38 at h
  refine EvP.of (μ := tb_m38) (ls := [some (.inr (.inr (some 61))), some (.inl x0), some (.inl x1), some (.inl x2)]) rfl (Nat.le_of_ble_eq_true rfl) rfl ?_
  refine RuP.step (pc' := 1) (ls' := [some (.inr (.inr (some 61))), some (.inl x0), some (.inl x1), some (.inl x2)]) (st' := [.inr (.inr (some 61))]) (h1 := hp L s c e) rfl ?_
  refine RuP.step (pc' := 2) (ls' := [some (.inr (.inr (some 61))), some (.inl x0), some (.inl x1), some (.inl x2)]) (st' := [.inl x0, .inr (.inr (some 61))]) (h1 := hp L s c e) rfl ?_
  refine RuP.step (pc' := 3) (ls' := [some (.inr (.inr (some 61))), some (.inl x0), some (.inl x1), some (.inl x2)]) (st' := [.inl (-1), .inl x0, .inr (.inr (some 61))]) (h1 := hp L s c e) rfl ?_
  refine RuP.step (pc' := 4) (ls' := [some (.inr (.inr (some 61))), some (.inl x0), some (.inl x1), some (.inl x2)]) (st' := [.inl x1, .inl (-1), .inl x0, .inr (.inr (some 61))]) (h1 := hp L s c e) rfl ?_
  refine RuP.step (pc' := 5) (ls' := [some (.inr (.inr (some 61))), some (.inl x0), some (.inl x1), some (.inl x2)]) (st' := [.inl 1, .inl x1, .inl (-1), .inl x0, .inr (.inr (some 61))]) (h1 := hp L s c e) rfl ?_
  refine RuP.step (pc' := 6) (ls' := [some (.inr (.inr (some 61))), some (.inl x0), some (.inl x1), some (.inl x2)]) (st' := [.inl x2, .inl 1, .inl x1, .inl (-1), .inl x0, .inr (.inr (some 61))]) (h1 := hp L s c e) rfl ?_
  refine RuP.cI rfl (EvP.i ((ev_292 1 x2).up (by decide))) ?_
  obtain ⟨b0, h⟩ := gd_some h
  obtain ⟨q1, h1, h⟩ := bd_some h
  refine RuP.cVe h1 rfl (EvP.v ((ev_42 x0 (-1) x1 (f_292 1 x2 s) b0).up (by decide))) ?_
  cases h
  exact RuP.dV rfl
/-- MachineText$Expressions.prefixes()V -/
noncomputable def j_46_68 (k2 : (Int → Sg → Option Sg)) (l1 : Int) (s : Sg) : Option Sg :=
  (gd (g_94 s) (
  ((some (f_94 s)).bind fun q2 =>
  k2 (ax_w32 (l1 + 1)) q2)))
theorem bl_46_68 {L c : Nat} {e : Nat → Nat} {k2 : (Int → Sg → Option Sg)} (hk2 : ∀ (l1 : Int) (s : Sg) (q : Sg), k2 l1 s = some q → RuP 1 tb_m46 2 [some (.inr (.inr (some 66))), some (.inl l1)] [] (hp L s c e) (oV L c e q)) : ∀ (l1 : Int) (s : Sg) (q : Sg), j_46_68 k2 l1 s = some q → RuP 1 tb_m46 68 [some (.inr (.inr (some 66))), some (.inl l1)] [] (hp L s c e) (oV L c e q) := by
  intro l1 s q h
  unfold j_46_68 at h
  refine RuP.step (pc' := 69) (ls' := [some (.inr (.inr (some 66))), some (.inl l1)]) (st' := [.inr (.inr (some 66))]) (h1 := hp L s c e) rfl ?_
  refine RuP.step (pc' := 72) (ls' := [some (.inr (.inr (some 66))), some (.inl l1)]) (st' := [.inr (.inr (some 39))]) (h1 := hp L s c e) rfl ?_
  obtain ⟨b0, h⟩ := gd_some h
  obtain ⟨q2, h1, h⟩ := bd_some h
  refine RuP.cVe h1 rfl (EvP.v ((ev_94  b0).up (by decide))) ?_
  refine RuP.step (pc' := 78) (ls' := [some (.inr (.inr (some 66))), some (.inl (ax_w32 (l1 + 1)))]) (st' := []) (h1 := hp L q2 c e) rfl ?_
  refine RuP.step (pc' := 2) (ls' := [some (.inr (.inr (some 66))), some (.inl (ax_w32 (l1 + 1)))]) (st' := []) (h1 := hp L q2 c e) rfl ?_
  exact hk2 _ _ _ h
noncomputable def j_46_2 : Nat → Int → Sg → Option Sg
  | 0, _, _ => none
  | F + 1, l1, s =>
    (if 8192 < l1 then
      some s
    else
      (if ¬ (s 39 11) = 126 then
        (if ¬ (s 39 11) = 45 then
          some s
        else
          (gd (g_61 9 (-1) (s 39 10) s) (
          ((some (f_61 9 (-1) (s 39 10) s)).bind fun q1 =>
          j_46_68 (j_46_2 F) l1 q1))))
      else
        (gd (g_61 8 (-1) (s 39 10) s) (
        ((some (f_61 8 (-1) (s 39 10) s)).bind fun q3 =>
        j_46_68 (j_46_2 F) l1 q3)))))
theorem bl_46_2 {L c : Nat} {e : Nat → Nat} : ∀ (F : Nat) (l1 : Int) (s : Sg) (q : Sg), j_46_2 F l1 s = some q → RuP 1 tb_m46 2 [some (.inr (.inr (some 66))), some (.inl l1)] [] (hp L s c e) (oV L c e q) := by
  intro F
  induction F with
  | zero =>
    intro l1 s q h
    rw [j_46_2] at h
    cases h
  | succ F ih =>
    intro l1 s q h
    rw [j_46_2] at h
    refine RuP.step (pc' := 3) (ls' := [some (.inr (.inr (some 66))), some (.inl l1)]) (st' := [.inl l1]) (h1 := hp L s c e) rfl ?_
    refine RuP.step (pc' := 6) (ls' := [some (.inr (.inr (some 66))), some (.inl l1)]) (st' := [.inl 8192, .inl l1]) (h1 := hp L s c e) rfl ?_
    by_cases h0 : 8192 < l1
    · rw [if_pos h0] at h
      refine RuP.jy rfl h0 ?_
      cases h
      exact RuP.dV rfl
    · rw [if_neg h0] at h
      refine RuP.jn rfl h0 ?_
      refine RuP.step (pc' := 10) (ls' := [some (.inr (.inr (some 66))), some (.inl l1)]) (st' := [.inr (.inr (some 66))]) (h1 := hp L s c e) rfl ?_
      refine RuP.step (pc' := 13) (ls' := [some (.inr (.inr (some 66))), some (.inl l1)]) (st' := [.inr (.inr (some 39))]) (h1 := hp L s c e) rfl ?_
      refine RuP.step (pc' := 16) (ls' := [some (.inr (.inr (some 66))), some (.inl l1)]) (st' := [.inl (s 39 11)]) (h1 := hp L s c e) rfl ?_
      refine RuP.step (pc' := 18) (ls' := [some (.inr (.inr (some 66))), some (.inl l1)]) (st' := [.inl 126, .inl (s 39 11)]) (h1 := hp L s c e) rfl ?_
      by_cases h1 : ¬ (s 39 11) = 126
      · rw [if_pos h1] at h
        refine RuP.jy rfl h1 ?_
        refine RuP.step (pc' := 39) (ls' := [some (.inr (.inr (some 66))), some (.inl l1)]) (st' := [.inr (.inr (some 66))]) (h1 := hp L s c e) rfl ?_
        refine RuP.step (pc' := 42) (ls' := [some (.inr (.inr (some 66))), some (.inl l1)]) (st' := [.inr (.inr (some 39))]) (h1 := hp L s c e) rfl ?_
        refine RuP.step (pc' := 45) (ls' := [some (.inr (.inr (some 66))), some (.inl l1)]) (st' := [.inl (s 39 11)]) (h1 := hp L s c e) rfl ?_
        refine RuP.step (pc' := 47) (ls' := [some (.inr (.inr (some 66))), some (.inl l1)]) (st' := [.inl 45, .inl (s 39 11)]) (h1 := hp L s c e) rfl ?_
        by_cases h2 : ¬ (s 39 11) = 45
        · rw [if_pos h2] at h
          refine RuP.jy rfl h2 ?_
          cases h
          exact RuP.dV rfl
        · rw [if_neg h2] at h
          refine RuP.jn rfl h2 ?_
          refine RuP.step (pc' := 51) (ls' := [some (.inr (.inr (some 66))), some (.inl l1)]) (st' := [.inr (.inr (some 66))]) (h1 := hp L s c e) rfl ?_
          refine RuP.step (pc' := 53) (ls' := [some (.inr (.inr (some 66))), some (.inl l1)]) (st' := [.inl 9, .inr (.inr (some 66))]) (h1 := hp L s c e) rfl ?_
          refine RuP.step (pc' := 54) (ls' := [some (.inr (.inr (some 66))), some (.inl l1)]) (st' := [.inl (-1), .inl 9, .inr (.inr (some 66))]) (h1 := hp L s c e) rfl ?_
          refine RuP.step (pc' := 55) (ls' := [some (.inr (.inr (some 66))), some (.inl l1)]) (st' := [.inr (.inr (some 66)), .inl (-1), .inl 9, .inr (.inr (some 66))]) (h1 := hp L s c e) rfl ?_
          refine RuP.step (pc' := 58) (ls' := [some (.inr (.inr (some 66))), some (.inl l1)]) (st' := [.inr (.inr (some 39)), .inl (-1), .inl 9, .inr (.inr (some 66))]) (h1 := hp L s c e) rfl ?_
          refine RuP.step (pc' := 61) (ls' := [some (.inr (.inr (some 66))), some (.inl l1)]) (st' := [.inl (s 39 10), .inl (-1), .inl 9, .inr (.inr (some 66))]) (h1 := hp L s c e) rfl ?_
          obtain ⟨b3, h⟩ := gd_some h
          obtain ⟨q1, h1, h⟩ := bd_some h
          refine RuP.cVe h1 rfl (EvP.v ((ev_61 9 (-1) (s 39 10) b3).up (by decide))) ?_
          refine RuP.step (pc' := 68) (ls' := [some (.inr (.inr (some 66))), some (.inl l1)]) (st' := []) (h1 := hp L q1 c e) rfl ?_
          exact bl_46_68 ih _ _ _ h
      · rw [if_neg h1] at h
        refine RuP.jn rfl h1 ?_
        refine RuP.step (pc' := 22) (ls' := [some (.inr (.inr (some 66))), some (.inl l1)]) (st' := [.inr (.inr (some 66))]) (h1 := hp L s c e) rfl ?_
        refine RuP.step (pc' := 24) (ls' := [some (.inr (.inr (some 66))), some (.inl l1)]) (st' := [.inl 8, .inr (.inr (some 66))]) (h1 := hp L s c e) rfl ?_
        refine RuP.step (pc' := 25) (ls' := [some (.inr (.inr (some 66))), some (.inl l1)]) (st' := [.inl (-1), .inl 8, .inr (.inr (some 66))]) (h1 := hp L s c e) rfl ?_
        refine RuP.step (pc' := 26) (ls' := [some (.inr (.inr (some 66))), some (.inl l1)]) (st' := [.inr (.inr (some 66)), .inl (-1), .inl 8, .inr (.inr (some 66))]) (h1 := hp L s c e) rfl ?_
        refine RuP.step (pc' := 29) (ls' := [some (.inr (.inr (some 66))), some (.inl l1)]) (st' := [.inr (.inr (some 39)), .inl (-1), .inl 8, .inr (.inr (some 66))]) (h1 := hp L s c e) rfl ?_
        refine RuP.step (pc' := 32) (ls' := [some (.inr (.inr (some 66))), some (.inl l1)]) (st' := [.inl (s 39 10), .inl (-1), .inl 8, .inr (.inr (some 66))]) (h1 := hp L s c e) rfl ?_
        obtain ⟨b4, h⟩ := gd_some h
        obtain ⟨q3, h1, h⟩ := bd_some h
        refine RuP.cVe h1 rfl (EvP.v ((ev_61 8 (-1) (s 39 10) b4).up (by decide))) ?_
        refine RuP.step (pc' := 68) (ls' := [some (.inr (.inr (some 66))), some (.inl l1)]) (st' := []) (h1 := hp L q3 c e) rfl ?_
        exact bl_46_68 ih _ _ _ h
noncomputable def f_46 (s : Sg) : Option Sg :=
  j_46_2 FU 0 s
theorem ev_46 {L c : Nat} {e : Nat → Nat} {s : Sg} {q : Sg} (h : f_46 s = some q) : EvP 2 46 [.inr (.inr (some 66))] (hp L s c e) (oV L c e q) := by
  unfold f_46 at h
  refine EvP.of (μ := tb_m46) (ls := [some (.inr (.inr (some 66))), none]) rfl (Nat.le_of_ble_eq_true rfl) rfl ?_
  refine RuP.step (pc' := 1) (ls' := [some (.inr (.inr (some 66))), none]) (st' := [.inl 0]) (h1 := hp L s c e) rfl ?_
  refine RuP.step (pc' := 2) (ls' := [some (.inr (.inr (some 66))), some (.inl 0)]) (st' := []) (h1 := hp L s c e) rfl ?_
  exact bl_46_2 FU _ _ _ h
/-- MachineText$Expressions.operandKind()I -/
noncomputable def f_47 (s : Sg) : Option (Sum (Int × Sg) (Nat × Sg)) :=
  (if s 39 11 = 1 then
    (gd (g_79 (ax_w32 ((s 39 10) + 1)) s) (
    (if ¬ (f_79 (ax_w32 ((s 39 10) + 1)) s) = 91 then
      (if ¬ (f_79 (ax_w32 ((s 39 10) + 1)) s) = 40 then
        some (.inl (1, s))
      else
        some (.inl (3, s)))
    else
      some (.inl (2, s)))))
  else
  (if s 39 11 = 2 then
    some (.inl (0, s))
  else
  (if s 39 11 = 25 then
    some (.inl (4, s))
  else
  (if s 39 11 = 26 then
    some (.inl (5, s))
  else
  (if s 39 11 = 27 then
    some (.inl (6, s))
  else
  (if s 39 11 = 40 then
    some (.inl (22, s))
  else
    some (.inr (15, s))))))))
theorem ev_47 {L c : Nat} {e : Nat → Nat} {s : Sg} {q : Sum (Int × Sg) (Nat × Sg)} (h : f_47 s = some q) : EvP 2 47 [.inr (.inr (some 66))] (hp L s c e) (oX L c (oI L c e) q) := by
  unfold f_47 at h
  refine EvP.of (μ := tb_m47) (ls := [some (.inr (.inr (some 66))), none]) rfl (Nat.le_of_ble_eq_true rfl) rfl ?_
  refine RuP.step (pc' := 1) (ls' := [some (.inr (.inr (some 66))), none]) (st' := [.inr (.inr (some 66))]) (h1 := hp L s c e) rfl ?_
  refine RuP.step (pc' := 4) (ls' := [some (.inr (.inr (some 66))), none]) (st' := [.inr (.inr (some 39))]) (h1 := hp L s c e) rfl ?_
  refine RuP.step (pc' := 7) (ls' := [some (.inr (.inr (some 66))), none]) (st' := [.inl (s 39 11)]) (h1 := hp L s c e) rfl ?_
  by_cases h0 : s 39 11 = 1
  · rw [if_pos h0] at h
    have J1 : RuP 1 tb_m47 66 [some (.inr (.inr (some 66))), none] [] (hp L s c e) (oX L c (oI L c e) q) := by
      refine RuP.step (pc' := 67) (ls' := [some (.inr (.inr (some 66))), none]) (st' := [.inr (.inr (some 66))]) (h1 := hp L s c e) rfl ?_
      refine RuP.step (pc' := 70) (ls' := [some (.inr (.inr (some 66))), none]) (st' := [.inr (.inr (some 39))]) (h1 := hp L s c e) rfl ?_
      refine RuP.step (pc' := 71) (ls' := [some (.inr (.inr (some 66))), none]) (st' := [.inr (.inr (some 66)), .inr (.inr (some 39))]) (h1 := hp L s c e) rfl ?_
      refine RuP.step (pc' := 74) (ls' := [some (.inr (.inr (some 66))), none]) (st' := [.inr (.inr (some 39)), .inr (.inr (some 39))]) (h1 := hp L s c e) rfl ?_
      refine RuP.step (pc' := 77) (ls' := [some (.inr (.inr (some 66))), none]) (st' := [.inl (s 39 10), .inr (.inr (some 39))]) (h1 := hp L s c e) rfl ?_
      refine RuP.step (pc' := 78) (ls' := [some (.inr (.inr (some 66))), none]) (st' := [.inl 1, .inl (s 39 10), .inr (.inr (some 39))]) (h1 := hp L s c e) rfl ?_
      refine RuP.step (pc' := 79) (ls' := [some (.inr (.inr (some 66))), none]) (st' := [.inl (ax_w32 ((s 39 10) + 1)), .inr (.inr (some 39))]) (h1 := hp L s c e) rfl ?_
      obtain ⟨b1, h⟩ := gd_some h
      refine RuP.cI rfl (EvP.i ((ev_79 (ax_w32 ((s 39 10) + 1)) b1).up (by decide))) ?_
      refine RuP.step (pc' := 83) (ls' := [some (.inr (.inr (some 66))), some (.inl (f_79 (ax_w32 ((s 39 10) + 1)) s))]) (st' := []) (h1 := hp L s c e) rfl ?_
      refine RuP.step (pc' := 84) (ls' := [some (.inr (.inr (some 66))), some (.inl (f_79 (ax_w32 ((s 39 10) + 1)) s))]) (st' := [.inl (f_79 (ax_w32 ((s 39 10) + 1)) s)]) (h1 := hp L s c e) rfl ?_
      refine RuP.step (pc' := 86) (ls' := [some (.inr (.inr (some 66))), some (.inl (f_79 (ax_w32 ((s 39 10) + 1)) s))]) (st' := [.inl 91, .inl (f_79 (ax_w32 ((s 39 10) + 1)) s)]) (h1 := hp L s c e) rfl ?_
      by_cases h2 : ¬ (f_79 (ax_w32 ((s 39 10) + 1)) s) = 91
      · rw [if_pos h2] at h
        refine RuP.jy rfl h2 ?_
        refine RuP.step (pc' := 94) (ls' := [some (.inr (.inr (some 66))), some (.inl (f_79 (ax_w32 ((s 39 10) + 1)) s))]) (st' := [.inl (f_79 (ax_w32 ((s 39 10) + 1)) s)]) (h1 := hp L s c e) rfl ?_
        refine RuP.step (pc' := 96) (ls' := [some (.inr (.inr (some 66))), some (.inl (f_79 (ax_w32 ((s 39 10) + 1)) s))]) (st' := [.inl 40, .inl (f_79 (ax_w32 ((s 39 10) + 1)) s)]) (h1 := hp L s c e) rfl ?_
        by_cases h3 : ¬ (f_79 (ax_w32 ((s 39 10) + 1)) s) = 40
        · rw [if_pos h3] at h
          refine RuP.jy rfl h3 ?_
          refine RuP.step (pc' := 104) (ls' := [some (.inr (.inr (some 66))), some (.inl (f_79 (ax_w32 ((s 39 10) + 1)) s))]) (st' := [.inl 1]) (h1 := hp L s c e) rfl ?_
          cases h
          exact RuP.dI rfl
        · rw [if_neg h3] at h
          refine RuP.jn rfl h3 ?_
          refine RuP.step (pc' := 100) (ls' := [some (.inr (.inr (some 66))), some (.inl (f_79 (ax_w32 ((s 39 10) + 1)) s))]) (st' := [.inl 3]) (h1 := hp L s c e) rfl ?_
          refine RuP.step (pc' := 104) (ls' := [some (.inr (.inr (some 66))), some (.inl (f_79 (ax_w32 ((s 39 10) + 1)) s))]) (st' := [.inl 3]) (h1 := hp L s c e) rfl ?_
          cases h
          exact RuP.dI rfl
      · rw [if_neg h2] at h
        refine RuP.jn rfl h2 ?_
        refine RuP.step (pc' := 90) (ls' := [some (.inr (.inr (some 66))), some (.inl (f_79 (ax_w32 ((s 39 10) + 1)) s))]) (st' := [.inl 2]) (h1 := hp L s c e) rfl ?_
        refine RuP.step (pc' := 104) (ls' := [some (.inr (.inr (some 66))), some (.inl (f_79 (ax_w32 ((s 39 10) + 1)) s))]) (st' := [.inl 2]) (h1 := hp L s c e) rfl ?_
        cases h
        exact RuP.dI rfl
    exact RuP.sw (i := .lookupswitch (108) #[((1), (59)), ((2), (57)), ((25), (98)), ((26), (100)), ((27), (102)), ((40), (105))]) rfl h0 rfl J1
  rw [if_neg h0] at h
  by_cases h4 : s 39 11 = 2
  · rw [if_pos h4] at h
    have J5 : RuP 1 tb_m47 64 [some (.inr (.inr (some 66))), none] [] (hp L s c e) (oX L c (oI L c e) q) := by
      refine RuP.step (pc' := 65) (ls' := [some (.inr (.inr (some 66))), none]) (st' := [.inl 0]) (h1 := hp L s c e) rfl ?_
      cases h
      exact RuP.dI rfl
    exact RuP.sw (i := .lookupswitch (108) #[((1), (59)), ((2), (57)), ((25), (98)), ((26), (100)), ((27), (102)), ((40), (105))]) rfl h4 rfl J5
  rw [if_neg h4] at h
  by_cases h5 : s 39 11 = 25
  · rw [if_pos h5] at h
    have J6 : RuP 1 tb_m47 105 [some (.inr (.inr (some 66))), none] [] (hp L s c e) (oX L c (oI L c e) q) := by
      refine RuP.step (pc' := 106) (ls' := [some (.inr (.inr (some 66))), none]) (st' := [.inl 4]) (h1 := hp L s c e) rfl ?_
      cases h
      exact RuP.dI rfl
    exact RuP.sw (i := .lookupswitch (108) #[((1), (59)), ((2), (57)), ((25), (98)), ((26), (100)), ((27), (102)), ((40), (105))]) rfl h5 rfl J6
  rw [if_neg h5] at h
  by_cases h6 : s 39 11 = 26
  · rw [if_pos h6] at h
    have J7 : RuP 1 tb_m47 107 [some (.inr (.inr (some 66))), none] [] (hp L s c e) (oX L c (oI L c e) q) := by
      refine RuP.step (pc' := 108) (ls' := [some (.inr (.inr (some 66))), none]) (st' := [.inl 5]) (h1 := hp L s c e) rfl ?_
      cases h
      exact RuP.dI rfl
    exact RuP.sw (i := .lookupswitch (108) #[((1), (59)), ((2), (57)), ((25), (98)), ((26), (100)), ((27), (102)), ((40), (105))]) rfl h6 rfl J7
  rw [if_neg h6] at h
  by_cases h7 : s 39 11 = 27
  · rw [if_pos h7] at h
    have J8 : RuP 1 tb_m47 109 [some (.inr (.inr (some 66))), none] [] (hp L s c e) (oX L c (oI L c e) q) := by
      refine RuP.step (pc' := 111) (ls' := [some (.inr (.inr (some 66))), none]) (st' := [.inl 6]) (h1 := hp L s c e) rfl ?_
      cases h
      exact RuP.dI rfl
    exact RuP.sw (i := .lookupswitch (108) #[((1), (59)), ((2), (57)), ((25), (98)), ((26), (100)), ((27), (102)), ((40), (105))]) rfl h7 rfl J8
  rw [if_neg h7] at h
  by_cases h8 : s 39 11 = 40
  · rw [if_pos h8] at h
    have J9 : RuP 1 tb_m47 112 [some (.inr (.inr (some 66))), none] [] (hp L s c e) (oX L c (oI L c e) q) := by
      refine RuP.step (pc' := 114) (ls' := [some (.inr (.inr (some 66))), none]) (st' := [.inl 22]) (h1 := hp L s c e) rfl ?_
      cases h
      exact RuP.dI rfl
    exact RuP.sw (i := .lookupswitch (108) #[((1), (59)), ((2), (57)), ((25), (98)), ((26), (100)), ((27), (102)), ((40), (105))]) rfl h8 rfl J9
  rw [if_neg h8] at h
  refine RuP.swd (i := .lookupswitch (108) #[((1), (59)), ((2), (57)), ((25), (98)), ((26), (100)), ((27), (102)), ((40), (105))]) (pc' := 115) rfl (sw_l (by simp only [List.mem_cons, List.not_mem_nil, or_false, forall_eq_or_imp, forall_eq]; omega)) ?_
  cases h
  exact RuP.thr (m := 14) (p2 := 121) rfl (fun _ => rfl) (fun _ => rfl) (fun _ _ => rfl) (Nat.le_of_ble_eq_true rfl) rfl rfl
/-- MachineText$Expressions.hide(I)V -/
noncomputable def f_54 (x0 : Int) (s : Sg) : Option Sg :=
  (gd (g_97 x0 s) (
  (gd (g_106 (f_97 x0 s) s) (
  (if ¬ (f_106 (f_97 x0 s) s) = 0 then
    (gd (g_123 (s 66 8) (f_106 (f_97 x0 s) s) s) (
    ((some (f_123 (s 66 8) (f_106 (f_97 x0 s) s) s)).bind fun q1 =>
    (gd (g_116 (q1 66 8) q1) (
    (if f_116 (q1 66 8) q1 = 1 then
      some q1
    else
      (gd (g_80 x0 q1) (
      (gd (g_71 7 (f_80 x0 q1) q1) (
      ((some (f_71 7 (f_80 x0 q1) q1)).bind fun q2 =>
      some q2)))))))))))
  else
    some s)))))
theorem ev_54 {L c : Nat} {e : Nat → Nat} {s : Sg} {x0 : Int} {q : Sg} (h : f_54 x0 s = some q) : EvP 3 54 [.inr (.inr (some 66)), .inl x0] (hp L s c e) (oV L c e q) := by
  unfold f_54 at h
  refine EvP.of (μ := tb_m54) (ls := [some (.inr (.inr (some 66))), some (.inl x0), none]) rfl (Nat.le_of_ble_eq_true rfl) rfl ?_
  refine RuP.step (pc' := 1) (ls' := [some (.inr (.inr (some 66))), some (.inl x0), none]) (st' := [.inr (.inr (some 66))]) (h1 := hp L s c e) rfl ?_
  refine RuP.step (pc' := 4) (ls' := [some (.inr (.inr (some 66))), some (.inl x0), none]) (st' := [.inr (.inr (some 31))]) (h1 := hp L s c e) rfl ?_
  refine RuP.step (pc' := 5) (ls' := [some (.inr (.inr (some 66))), some (.inl x0), none]) (st' := [.inr (.inr (some 66)), .inr (.inr (some 31))]) (h1 := hp L s c e) rfl ?_
  refine RuP.step (pc' := 8) (ls' := [some (.inr (.inr (some 66))), some (.inl x0), none]) (st' := [.inr (.inr (some 39)), .inr (.inr (some 31))]) (h1 := hp L s c e) rfl ?_
  refine RuP.step (pc' := 9) (ls' := [some (.inr (.inr (some 66))), some (.inl x0), none]) (st' := [.inl x0, .inr (.inr (some 39)), .inr (.inr (some 31))]) (h1 := hp L s c e) rfl ?_
  obtain ⟨b0, h⟩ := gd_some h
  refine RuP.cI rfl (EvP.i ((ev_97 x0 b0).up (by decide))) ?_
  obtain ⟨b1, h⟩ := gd_some h
  refine RuP.cI rfl (EvP.i ((ev_106 (f_97 x0 s) b1).up (by decide))) ?_
  refine RuP.step (pc' := 16) (ls' := [some (.inr (.inr (some 66))), some (.inl x0), some (.inl (f_106 (f_97 x0 s) s))]) (st' := []) (h1 := hp L s c e) rfl ?_
  refine RuP.step (pc' := 17) (ls' := [some (.inr (.inr (some 66))), some (.inl x0), some (.inl (f_106 (f_97 x0 s) s))]) (st' := [.inl (f_106 (f_97 x0 s) s)]) (h1 := hp L s c e) rfl ?_
  by_cases h2 : ¬ (f_106 (f_97 x0 s) s) = 0
  · rw [if_pos h2] at h
    refine RuP.jy rfl h2 ?_
    refine RuP.step (pc' := 22) (ls' := [some (.inr (.inr (some 66))), some (.inl x0), some (.inl (f_106 (f_97 x0 s) s))]) (st' := [.inr (.inr (some 66))]) (h1 := hp L s c e) rfl ?_
    refine RuP.step (pc' := 25) (ls' := [some (.inr (.inr (some 66))), some (.inl x0), some (.inl (f_106 (f_97 x0 s) s))]) (st' := [.inr (.inr (some 46))]) (h1 := hp L s c e) rfl ?_
    refine RuP.step (pc' := 26) (ls' := [some (.inr (.inr (some 66))), some (.inl x0), some (.inl (f_106 (f_97 x0 s) s))]) (st' := [.inr (.inr (some 66)), .inr (.inr (some 46))]) (h1 := hp L s c e) rfl ?_
    refine RuP.step (pc' := 29) (ls' := [some (.inr (.inr (some 66))), some (.inl x0), some (.inl (f_106 (f_97 x0 s) s))]) (st' := [.inl (s 66 8), .inr (.inr (some 46))]) (h1 := hp L s c e) rfl ?_
    refine RuP.step (pc' := 30) (ls' := [some (.inr (.inr (some 66))), some (.inl x0), some (.inl (f_106 (f_97 x0 s) s))]) (st' := [.inl (f_106 (f_97 x0 s) s), .inl (s 66 8), .inr (.inr (some 46))]) (h1 := hp L s c e) rfl ?_
    obtain ⟨b3, h⟩ := gd_some h
    obtain ⟨q1, h1, h⟩ := bd_some h
    refine RuP.cVe h1 rfl (EvP.v ((ev_123 (s 66 8) (f_106 (f_97 x0 s) s) b3).up (by decide))) ?_
    refine RuP.step (pc' := 34) (ls' := [some (.inr (.inr (some 66))), some (.inl x0), some (.inl (f_106 (f_97 x0 s) s))]) (st' := [.inr (.inr (some 66))]) (h1 := hp L q1 c e) rfl ?_
    refine RuP.step (pc' := 37) (ls' := [some (.inr (.inr (some 66))), some (.inl x0), some (.inl (f_106 (f_97 x0 s) s))]) (st' := [.inr (.inr (some 46))]) (h1 := hp L q1 c e) rfl ?_
    refine RuP.step (pc' := 38) (ls' := [some (.inr (.inr (some 66))), some (.inl x0), some (.inl (f_106 (f_97 x0 s) s))]) (st' := [.inr (.inr (some 66)), .inr (.inr (some 46))]) (h1 := hp L q1 c e) rfl ?_
    refine RuP.step (pc' := 41) (ls' := [some (.inr (.inr (some 66))), some (.inl x0), some (.inl (f_106 (f_97 x0 s) s))]) (st' := [.inl (q1 66 8), .inr (.inr (some 46))]) (h1 := hp L q1 c e) rfl ?_
    obtain ⟨b4, h⟩ := gd_some h
    refine RuP.cI rfl (EvP.i ((ev_116 (q1 66 8) b4).up (by decide))) ?_
    refine RuP.step (pc' := 45) (ls' := [some (.inr (.inr (some 66))), some (.inl x0), some (.inl (f_106 (f_97 x0 s) s))]) (st' := [.inl 1, .inl (f_116 (q1 66 8) q1)]) (h1 := hp L q1 c e) rfl ?_
    by_cases h5 : f_116 (q1 66 8) q1 = 1
    · rw [if_pos h5] at h
      refine RuP.jy rfl h5 ?_
      cases h
      exact RuP.dV rfl
    · rw [if_neg h5] at h
      refine RuP.jn rfl h5 ?_
      refine RuP.step (pc' := 49) (ls' := [some (.inr (.inr (some 66))), some (.inl x0), some (.inl (f_106 (f_97 x0 s) s))]) (st' := [.inr (.inr (some 66))]) (h1 := hp L q1 c e) rfl ?_
      refine RuP.step (pc' := 52) (ls' := [some (.inr (.inr (some 66))), some (.inl x0), some (.inl (f_106 (f_97 x0 s) s))]) (st' := [.inr (.inr (some 29))]) (h1 := hp L q1 c e) rfl ?_
      refine RuP.step (pc' := 54) (ls' := [some (.inr (.inr (some 66))), some (.inl x0), some (.inl (f_106 (f_97 x0 s) s))]) (st' := [.inl 7, .inr (.inr (some 29))]) (h1 := hp L q1 c e) rfl ?_
      refine RuP.step (pc' := 55) (ls' := [some (.inr (.inr (some 66))), some (.inl x0), some (.inl (f_106 (f_97 x0 s) s))]) (st' := [.inr (.inr (some 66)), .inl 7, .inr (.inr (some 29))]) (h1 := hp L q1 c e) rfl ?_
      refine RuP.step (pc' := 58) (ls' := [some (.inr (.inr (some 66))), some (.inl x0), some (.inl (f_106 (f_97 x0 s) s))]) (st' := [.inr (.inr (some 39)), .inl 7, .inr (.inr (some 29))]) (h1 := hp L q1 c e) rfl ?_
      refine RuP.step (pc' := 59) (ls' := [some (.inr (.inr (some 66))), some (.inl x0), some (.inl (f_106 (f_97 x0 s) s))]) (st' := [.inl x0, .inr (.inr (some 39)), .inl 7, .inr (.inr (some 29))]) (h1 := hp L q1 c e) rfl ?_
      obtain ⟨b6, h⟩ := gd_some h
      refine RuP.cI rfl (EvP.i ((ev_80 x0 b6).up (by decide))) ?_
      obtain ⟨b7, h⟩ := gd_some h
      obtain ⟨q2, h1, h⟩ := bd_some h
      refine RuP.cVe h1 rfl (EvP.v ((ev_71 7 (f_80 x0 q1) b7).up (by decide))) ?_
      cases h
      exact RuP.dV rfl
  · rw [if_neg h2] at h
    refine RuP.jn rfl h2 ?_
    cases h
    exact RuP.dV rfl
/-- MachineText$Expressions.primary(II)V -/
noncomputable def f_62 (x0 x1 : Int) (s : Sg) : Option Sg :=
  ((some (f_64 x0 x1 10 s)).bind fun q1 =>
  some q1)
theorem ev_62 {L c : Nat} {e : Nat → Nat} {s : Sg} {x0 x1 : Int} {q : Sg} (h : f_62 x0 x1 s = some q) : EvP 2 62 [.inr (.inr (some 66)), .inl x0, .inl x1] (hp L s c e) (oV L c e q) := by
  unfold f_62 at h
  refine EvP.of (μ := tb_m62) (ls := [some (.inr (.inr (some 66))), some (.inl x0), some (.inl x1)]) rfl (Nat.le_of_ble_eq_true rfl) rfl ?_
  refine RuP.step (pc' := 1) (ls' := [some (.inr (.inr (some 66))), some (.inl x0), some (.inl x1)]) (st' := [.inr (.inr (some 66))]) (h1 := hp L s c e) rfl ?_
  refine RuP.step (pc' := 2) (ls' := [some (.inr (.inr (some 66))), some (.inl x0), some (.inl x1)]) (st' := [.inl x0, .inr (.inr (some 66))]) (h1 := hp L s c e) rfl ?_
  refine RuP.step (pc' := 3) (ls' := [some (.inr (.inr (some 66))), some (.inl x0), some (.inl x1)]) (st' := [.inl x1, .inl x0, .inr (.inr (some 66))]) (h1 := hp L s c e) rfl ?_
  refine RuP.step (pc' := 5) (ls' := [some (.inr (.inr (some 66))), some (.inl x0), some (.inl x1)]) (st' := [.inl 10, .inl x1, .inl x0, .inr (.inr (some 66))]) (h1 := hp L s c e) rfl ?_
  obtain ⟨q1, h1, h⟩ := bd_some h
  refine RuP.cVe h1 rfl (EvP.v ((ev_64 x0 x1 10).up (by decide))) ?_
  cases h
  exact RuP.dV rfl
/-- MachineText$Expressions.want(I)V -/
noncomputable def f_63 (x0 : Int) (s : Sg) : Option Sg :=
  (if x0 ≤ s 66 10 then
    some s
  else
    (gd (g_99 (s 66 11) 0 s) (
    ((some (f_99 (s 66 11) 0 s)).bind fun q1 =>
    (gd (g_99 (q1 66 12) 0 q1) (
    ((some (f_99 (q1 66 12) 0 q1)).bind fun q2 =>
    some q2)))))))
theorem ev_63 {L c : Nat} {e : Nat → Nat} {s : Sg} {x0 : Int} {q : Sg} (h : f_63 x0 s = some q) : EvP 2 63 [.inr (.inr (some 66)), .inl x0] (hp L s c e) (oV L c e q) := by
  unfold f_63 at h
  refine EvP.of (μ := tb_m63) (ls := [some (.inr (.inr (some 66))), some (.inl x0)]) rfl (Nat.le_of_ble_eq_true rfl) rfl ?_
  refine RuP.step (pc' := 1) (ls' := [some (.inr (.inr (some 66))), some (.inl x0)]) (st' := [.inr (.inr (some 66))]) (h1 := hp L s c e) rfl ?_
  refine RuP.step (pc' := 4) (ls' := [some (.inr (.inr (some 66))), some (.inl x0)]) (st' := [.inl (s 66 10)]) (h1 := hp L s c e) rfl ?_
  refine RuP.step (pc' := 5) (ls' := [some (.inr (.inr (some 66))), some (.inl x0)]) (st' := [.inl x0, .inl (s 66 10)]) (h1 := hp L s c e) rfl ?_
  by_cases h0 : x0 ≤ s 66 10
  · rw [if_pos h0] at h
    refine RuP.jy rfl h0 ?_
    cases h
    exact RuP.dV rfl
  · rw [if_neg h0] at h
    refine RuP.jn rfl h0 ?_
    refine RuP.step (pc' := 9) (ls' := [some (.inr (.inr (some 66))), some (.inl x0)]) (st' := [.inr (.inr (some 66))]) (h1 := hp L s c e) rfl ?_
    refine RuP.step (pc' := 12) (ls' := [some (.inr (.inr (some 66))), some (.inl x0)]) (st' := [.inr (.inr (some 39))]) (h1 := hp L s c e) rfl ?_
    refine RuP.step (pc' := 13) (ls' := [some (.inr (.inr (some 66))), some (.inl x0)]) (st' := [.inr (.inr (some 66)), .inr (.inr (some 39))]) (h1 := hp L s c e) rfl ?_
    refine RuP.step (pc' := 16) (ls' := [some (.inr (.inr (some 66))), some (.inl x0)]) (st' := [.inl (s 66 11), .inr (.inr (some 39))]) (h1 := hp L s c e) rfl ?_
    refine RuP.step (pc' := 17) (ls' := [some (.inr (.inr (some 66))), some (.inl x0)]) (st' := [.inl 0, .inl (s 66 11), .inr (.inr (some 39))]) (h1 := hp L s c e) rfl ?_
    obtain ⟨b1, h⟩ := gd_some h
    obtain ⟨q1, h1, h⟩ := bd_some h
    refine RuP.cVe h1 rfl (EvP.v ((ev_99 (s 66 11) 0 b1).up (by decide))) ?_
    refine RuP.step (pc' := 21) (ls' := [some (.inr (.inr (some 66))), some (.inl x0)]) (st' := [.inr (.inr (some 66))]) (h1 := hp L q1 c e) rfl ?_
    refine RuP.step (pc' := 24) (ls' := [some (.inr (.inr (some 66))), some (.inl x0)]) (st' := [.inr (.inr (some 39))]) (h1 := hp L q1 c e) rfl ?_
    refine RuP.step (pc' := 25) (ls' := [some (.inr (.inr (some 66))), some (.inl x0)]) (st' := [.inr (.inr (some 66)), .inr (.inr (some 39))]) (h1 := hp L q1 c e) rfl ?_
    refine RuP.step (pc' := 28) (ls' := [some (.inr (.inr (some 66))), some (.inl x0)]) (st' := [.inl (q1 66 12), .inr (.inr (some 39))]) (h1 := hp L q1 c e) rfl ?_
    refine RuP.step (pc' := 29) (ls' := [some (.inr (.inr (some 66))), some (.inl x0)]) (st' := [.inl 0, .inl (q1 66 12), .inr (.inr (some 39))]) (h1 := hp L q1 c e) rfl ?_
    obtain ⟨b2, h⟩ := gd_some h
    obtain ⟨q2, h1, h⟩ := bd_some h
    refine RuP.cVe h1 rfl (EvP.v ((ev_99 (q1 66 12) 0 b2).up (by decide))) ?_
    cases h
    exact RuP.dV rfl
/-- MachineText$Expressions.binaryKind(I)I -/
def f_65 (x0 : Int) (s : Sg) : Int :=
  (if x0 = 38 then
    15
  else
  (if x0 = 42 then
    10
  else
  (if x0 = 43 then
    11
  else
  (if x0 = 45 then
    12
  else
  (if x0 = 60 then
    20
  else
  (if x0 = 94 then
    16
  else
  (if x0 = 124 then
    17
  else
  (if x0 = 128 then
    18
  else
  (if x0 = 129 then
    19
  else
  (if x0 = 130 then
    13
  else
  (if x0 = 131 then
    14
  else
    (-1))))))))))))
theorem ev_65 {L c : Nat} {e : Nat → Nat} {s : Sg} (x0 : Int) : EvP 1 65 [.inl x0] (hp L s c e) (oI L c e (f_65 x0 s, s)) := by
  have key : ∀ q, f_65 x0 s = q → RuP 0 tb_m65 0 [some (.inl x0)] [] (hp L s c e) (oI L c e (q, s)) := by
    intro q h
    unfold f_65 at h
    refine RuP.step (pc' := 1) (ls' := [some (.inl x0)]) (st' := [.inl x0]) (h1 := hp L s c e) rfl ?_
    by_cases h0 : x0 = 38
    · rw [if_pos h0] at h
      have J1 : RuP 0 tb_m65 115 [some (.inl x0)] [] (hp L s c e) (oI L c e (q, s)) := by
        refine RuP.step (pc' := 117) (ls' := [some (.inl x0)]) (st' := [.inl 15]) (h1 := hp L s c e) rfl ?_
        subst h
        exact RuP.dI rfl
      exact RuP.sw (i := .lookupswitch (132) #[((38), (114)), ((42), (99)), ((43), (102)), ((45), (105)), ((60), (129)), ((94), (117)), ((124), (120)), ((128), (123)), ((129), (126)), ((130), (108)), ((131), (111))]) rfl h0 rfl J1
    rw [if_neg h0] at h
    by_cases h1 : x0 = 42
    · rw [if_pos h1] at h
      have J2 : RuP 0 tb_m65 100 [some (.inl x0)] [] (hp L s c e) (oI L c e (q, s)) := by
        refine RuP.step (pc' := 102) (ls' := [some (.inl x0)]) (st' := [.inl 10]) (h1 := hp L s c e) rfl ?_
        subst h
        exact RuP.dI rfl
      exact RuP.sw (i := .lookupswitch (132) #[((38), (114)), ((42), (99)), ((43), (102)), ((45), (105)), ((60), (129)), ((94), (117)), ((124), (120)), ((128), (123)), ((129), (126)), ((130), (108)), ((131), (111))]) rfl h1 rfl J2
    rw [if_neg h1] at h
    by_cases h2 : x0 = 43
    · rw [if_pos h2] at h
      have J3 : RuP 0 tb_m65 103 [some (.inl x0)] [] (hp L s c e) (oI L c e (q, s)) := by
        refine RuP.step (pc' := 105) (ls' := [some (.inl x0)]) (st' := [.inl 11]) (h1 := hp L s c e) rfl ?_
        subst h
        exact RuP.dI rfl
      exact RuP.sw (i := .lookupswitch (132) #[((38), (114)), ((42), (99)), ((43), (102)), ((45), (105)), ((60), (129)), ((94), (117)), ((124), (120)), ((128), (123)), ((129), (126)), ((130), (108)), ((131), (111))]) rfl h2 rfl J3
    rw [if_neg h2] at h
    by_cases h3 : x0 = 45
    · rw [if_pos h3] at h
      have J4 : RuP 0 tb_m65 106 [some (.inl x0)] [] (hp L s c e) (oI L c e (q, s)) := by
        refine RuP.step (pc' := 108) (ls' := [some (.inl x0)]) (st' := [.inl 12]) (h1 := hp L s c e) rfl ?_
        subst h
        exact RuP.dI rfl
      exact RuP.sw (i := .lookupswitch (132) #[((38), (114)), ((42), (99)), ((43), (102)), ((45), (105)), ((60), (129)), ((94), (117)), ((124), (120)), ((128), (123)), ((129), (126)), ((130), (108)), ((131), (111))]) rfl h3 rfl J4
    rw [if_neg h3] at h
    by_cases h4 : x0 = 60
    · rw [if_pos h4] at h
      have J5 : RuP 0 tb_m65 130 [some (.inl x0)] [] (hp L s c e) (oI L c e (q, s)) := by
        refine RuP.step (pc' := 132) (ls' := [some (.inl x0)]) (st' := [.inl 20]) (h1 := hp L s c e) rfl ?_
        subst h
        exact RuP.dI rfl
      exact RuP.sw (i := .lookupswitch (132) #[((38), (114)), ((42), (99)), ((43), (102)), ((45), (105)), ((60), (129)), ((94), (117)), ((124), (120)), ((128), (123)), ((129), (126)), ((130), (108)), ((131), (111))]) rfl h4 rfl J5
    rw [if_neg h4] at h
    by_cases h5 : x0 = 94
    · rw [if_pos h5] at h
      have J6 : RuP 0 tb_m65 118 [some (.inl x0)] [] (hp L s c e) (oI L c e (q, s)) := by
        refine RuP.step (pc' := 120) (ls' := [some (.inl x0)]) (st' := [.inl 16]) (h1 := hp L s c e) rfl ?_
        subst h
        exact RuP.dI rfl
      exact RuP.sw (i := .lookupswitch (132) #[((38), (114)), ((42), (99)), ((43), (102)), ((45), (105)), ((60), (129)), ((94), (117)), ((124), (120)), ((128), (123)), ((129), (126)), ((130), (108)), ((131), (111))]) rfl h5 rfl J6
    rw [if_neg h5] at h
    by_cases h6 : x0 = 124
    · rw [if_pos h6] at h
      have J7 : RuP 0 tb_m65 121 [some (.inl x0)] [] (hp L s c e) (oI L c e (q, s)) := by
        refine RuP.step (pc' := 123) (ls' := [some (.inl x0)]) (st' := [.inl 17]) (h1 := hp L s c e) rfl ?_
        subst h
        exact RuP.dI rfl
      exact RuP.sw (i := .lookupswitch (132) #[((38), (114)), ((42), (99)), ((43), (102)), ((45), (105)), ((60), (129)), ((94), (117)), ((124), (120)), ((128), (123)), ((129), (126)), ((130), (108)), ((131), (111))]) rfl h6 rfl J7
    rw [if_neg h6] at h
    by_cases h7 : x0 = 128
    · rw [if_pos h7] at h
      have J8 : RuP 0 tb_m65 124 [some (.inl x0)] [] (hp L s c e) (oI L c e (q, s)) := by
        refine RuP.step (pc' := 126) (ls' := [some (.inl x0)]) (st' := [.inl 18]) (h1 := hp L s c e) rfl ?_
        subst h
        exact RuP.dI rfl
      exact RuP.sw (i := .lookupswitch (132) #[((38), (114)), ((42), (99)), ((43), (102)), ((45), (105)), ((60), (129)), ((94), (117)), ((124), (120)), ((128), (123)), ((129), (126)), ((130), (108)), ((131), (111))]) rfl h7 rfl J8
    rw [if_neg h7] at h
    by_cases h8 : x0 = 129
    · rw [if_pos h8] at h
      have J9 : RuP 0 tb_m65 127 [some (.inl x0)] [] (hp L s c e) (oI L c e (q, s)) := by
        refine RuP.step (pc' := 129) (ls' := [some (.inl x0)]) (st' := [.inl 19]) (h1 := hp L s c e) rfl ?_
        subst h
        exact RuP.dI rfl
      exact RuP.sw (i := .lookupswitch (132) #[((38), (114)), ((42), (99)), ((43), (102)), ((45), (105)), ((60), (129)), ((94), (117)), ((124), (120)), ((128), (123)), ((129), (126)), ((130), (108)), ((131), (111))]) rfl h8 rfl J9
    rw [if_neg h8] at h
    by_cases h9 : x0 = 130
    · rw [if_pos h9] at h
      have J10 : RuP 0 tb_m65 109 [some (.inl x0)] [] (hp L s c e) (oI L c e (q, s)) := by
        refine RuP.step (pc' := 111) (ls' := [some (.inl x0)]) (st' := [.inl 13]) (h1 := hp L s c e) rfl ?_
        subst h
        exact RuP.dI rfl
      exact RuP.sw (i := .lookupswitch (132) #[((38), (114)), ((42), (99)), ((43), (102)), ((45), (105)), ((60), (129)), ((94), (117)), ((124), (120)), ((128), (123)), ((129), (126)), ((130), (108)), ((131), (111))]) rfl h9 rfl J10
    rw [if_neg h9] at h
    by_cases h10 : x0 = 131
    · rw [if_pos h10] at h
      have J11 : RuP 0 tb_m65 112 [some (.inl x0)] [] (hp L s c e) (oI L c e (q, s)) := by
        refine RuP.step (pc' := 114) (ls' := [some (.inl x0)]) (st' := [.inl 14]) (h1 := hp L s c e) rfl ?_
        subst h
        exact RuP.dI rfl
      exact RuP.sw (i := .lookupswitch (132) #[((38), (114)), ((42), (99)), ((43), (102)), ((45), (105)), ((60), (129)), ((94), (117)), ((124), (120)), ((128), (123)), ((129), (126)), ((130), (108)), ((131), (111))]) rfl h10 rfl J11
    rw [if_neg h10] at h
    refine RuP.swd (i := .lookupswitch (132) #[((38), (114)), ((42), (99)), ((43), (102)), ((45), (105)), ((60), (129)), ((94), (117)), ((124), (120)), ((128), (123)), ((129), (126)), ((130), (108)), ((131), (111))]) (pc' := 133) rfl (sw_l (by simp only [List.mem_cons, List.not_mem_nil, or_false, forall_eq_or_imp, forall_eq]; omega)) ?_
    refine RuP.step (pc' := 134) (ls' := [some (.inl x0)]) (st' := [.inl (-1)]) (h1 := hp L s c e) rfl ?_
    subst h
    exact RuP.dI rfl
  exact EvP.of (μ := tb_m65) (ls := [some (.inl x0)]) rfl (Nat.le_of_ble_eq_true rfl) rfl (key _ rfl)
/-- MachineText$Faults.found()I -/
noncomputable def j_68_2 : Nat → Int → Sg → Option Int
  | 0, _, _ => none
  | F + 1, l1, s =>
    (if 11 ≤ l1 then
      some 0
    else
      (gd (0 ≤ l1 ∧ l1 < 11) (
      (if s 30 l1.toNat = (-1) then
        (j_68_2 F) (ax_w32 (l1 + 1)) s
      else
        some l1))))
theorem bl_68_2 {L c : Nat} {e : Nat → Nat} : ∀ (F : Nat) (l1 : Int) (s : Sg) (q : Int), j_68_2 F l1 s = some q → RuP 0 tb_m68 2 [some (.inr (.inr (some 29))), some (.inl l1)] [] (hp L s c e) (oI L c e (q, s)) := by
  intro F
  induction F with
  | zero =>
    intro l1 s q h
    rw [j_68_2] at h
    cases h
  | succ F ih =>
    intro l1 s q h
    rw [j_68_2] at h
    refine RuP.step (pc' := 3) (ls' := [some (.inr (.inr (some 29))), some (.inl l1)]) (st' := [.inl l1]) (h1 := hp L s c e) rfl ?_
    refine RuP.step (pc' := 4) (ls' := [some (.inr (.inr (some 29))), some (.inl l1)]) (st' := [.inr (.inr (some 29)), .inl l1]) (h1 := hp L s c e) rfl ?_
    refine RuP.step (pc' := 7) (ls' := [some (.inr (.inr (some 29))), some (.inl l1)]) (st' := [.inr (.inr (some 30)), .inl l1]) (h1 := hp L s c e) rfl ?_
    refine RuP.step (pc' := 8) (ls' := [some (.inr (.inr (some 29))), some (.inl l1)]) (st' := [.inl 11, .inl l1]) (h1 := hp L s c e) rfl ?_
    by_cases h0 : 11 ≤ l1
    · rw [if_pos h0] at h
      refine RuP.jy rfl h0 ?_
      refine RuP.step (pc' := 30) (ls' := [some (.inr (.inr (some 29))), some (.inl l1)]) (st' := [.inl 0]) (h1 := hp L s c e) rfl ?_
      cases h
      exact RuP.dI rfl
    · rw [if_neg h0] at h
      refine RuP.jn rfl h0 ?_
      refine RuP.step (pc' := 12) (ls' := [some (.inr (.inr (some 29))), some (.inl l1)]) (st' := [.inr (.inr (some 29))]) (h1 := hp L s c e) rfl ?_
      refine RuP.step (pc' := 15) (ls' := [some (.inr (.inr (some 29))), some (.inl l1)]) (st' := [.inr (.inr (some 30))]) (h1 := hp L s c e) rfl ?_
      refine RuP.step (pc' := 16) (ls' := [some (.inr (.inr (some 29))), some (.inl l1)]) (st' := [.inl l1, .inr (.inr (some 30))]) (h1 := hp L s c e) rfl ?_
      obtain ⟨b1, h⟩ := gd_some h
      refine RuP.ald (f := fun t => t == 0) (j := l1) (a := 30) rfl rfl b1.1 b1.2 ?_
      refine RuP.step (pc' := 18) (ls' := [some (.inr (.inr (some 29))), some (.inl l1)]) (st' := [.inl (-1), .inl (s 30 l1.toNat)]) (h1 := hp L s c e) rfl ?_
      by_cases h2 : s 30 l1.toNat = (-1)
      · rw [if_pos h2] at h
        refine RuP.jy rfl h2 ?_
        refine RuP.step (pc' := 26) (ls' := [some (.inr (.inr (some 29))), some (.inl (ax_w32 (l1 + 1)))]) (st' := []) (h1 := hp L s c e) rfl ?_
        refine RuP.step (pc' := 2) (ls' := [some (.inr (.inr (some 29))), some (.inl (ax_w32 (l1 + 1)))]) (st' := []) (h1 := hp L s c e) rfl ?_
        exact ih _ _ _ h
      · rw [if_neg h2] at h
        refine RuP.jn rfl h2 ?_
        refine RuP.step (pc' := 22) (ls' := [some (.inr (.inr (some 29))), some (.inl l1)]) (st' := [.inl l1]) (h1 := hp L s c e) rfl ?_
        cases h
        exact RuP.dI rfl
noncomputable def f_68 (s : Sg) : Option Int :=
  j_68_2 FU 1 s
theorem ev_68 {L c : Nat} {e : Nat → Nat} {s : Sg} {q : Int} (h : f_68 s = some q) : EvP 1 68 [.inr (.inr (some 29))] (hp L s c e) (oI L c e (q, s)) := by
  unfold f_68 at h
  refine EvP.of (μ := tb_m68) (ls := [some (.inr (.inr (some 29))), none]) rfl (Nat.le_of_ble_eq_true rfl) rfl ?_
  refine RuP.step (pc' := 1) (ls' := [some (.inr (.inr (some 29))), none]) (st' := [.inl 1]) (h1 := hp L s c e) rfl ?_
  refine RuP.step (pc' := 2) (ls' := [some (.inr (.inr (some 29))), some (.inl 1)]) (st' := []) (h1 := hp L s c e) rfl ?_
  exact bl_68_2 FU _ _ _ h
/-- MachineText$Faults.foundPlace()I -/
noncomputable def j_69_21 (l1 : Int) (s : Sg) : Option Int :=
  (gd (0 ≤ l1 ∧ l1 < 11) (
  some (s 30 l1.toNat)))
theorem bl_69_21 {L c : Nat} {e : Nat → Nat} : ∀ (l1 : Int) (s : Sg) (q : Int), j_69_21 l1 s = some q → RuP 0 tb_m69 21 [some (.inr (.inr (some 29))), some (.inl l1)] [] (hp L s c e) (oI L c e (q, s)) := by
  intro l1 s q h
  unfold j_69_21 at h
  refine RuP.step (pc' := 22) (ls' := [some (.inr (.inr (some 29))), some (.inl l1)]) (st' := [.inr (.inr (some 29))]) (h1 := hp L s c e) rfl ?_
  refine RuP.step (pc' := 25) (ls' := [some (.inr (.inr (some 29))), some (.inl l1)]) (st' := [.inr (.inr (some 30))]) (h1 := hp L s c e) rfl ?_
  refine RuP.step (pc' := 26) (ls' := [some (.inr (.inr (some 29))), some (.inl l1)]) (st' := [.inl l1, .inr (.inr (some 30))]) (h1 := hp L s c e) rfl ?_
  obtain ⟨b0, h⟩ := gd_some h
  refine RuP.ald (f := fun t => t == 0) (j := l1) (a := 30) rfl rfl b0.1 b0.2 ?_
  cases h
  exact RuP.dI rfl
noncomputable def j_69_2 : Nat → Int → Sg → Option Int
  | 0, _, _ => none
  | F + 1, l1, s =>
    (if 11 ≤ l1 then
      some 0
    else
      (gd (0 ≤ l1 ∧ l1 < 11) (
      (if s 30 l1.toNat = (-1) then
        (j_69_2 F) (ax_w32 (l1 + 1)) s
      else
        j_69_21 l1 s))))
theorem bl_69_2 {L c : Nat} {e : Nat → Nat} : ∀ (F : Nat) (l1 : Int) (s : Sg) (q : Int), j_69_2 F l1 s = some q → RuP 0 tb_m69 2 [some (.inr (.inr (some 29))), some (.inl l1)] [] (hp L s c e) (oI L c e (q, s)) := by
  intro F
  induction F with
  | zero =>
    intro l1 s q h
    rw [j_69_2] at h
    cases h
  | succ F ih =>
    intro l1 s q h
    rw [j_69_2] at h
    refine RuP.step (pc' := 3) (ls' := [some (.inr (.inr (some 29))), some (.inl l1)]) (st' := [.inl l1]) (h1 := hp L s c e) rfl ?_
    refine RuP.step (pc' := 4) (ls' := [some (.inr (.inr (some 29))), some (.inl l1)]) (st' := [.inr (.inr (some 29)), .inl l1]) (h1 := hp L s c e) rfl ?_
    refine RuP.step (pc' := 7) (ls' := [some (.inr (.inr (some 29))), some (.inl l1)]) (st' := [.inr (.inr (some 30)), .inl l1]) (h1 := hp L s c e) rfl ?_
    refine RuP.step (pc' := 8) (ls' := [some (.inr (.inr (some 29))), some (.inl l1)]) (st' := [.inl 11, .inl l1]) (h1 := hp L s c e) rfl ?_
    by_cases h0 : 11 ≤ l1
    · rw [if_pos h0] at h
      refine RuP.jy rfl h0 ?_
      refine RuP.step (pc' := 35) (ls' := [some (.inr (.inr (some 29))), some (.inl l1)]) (st' := [.inl 0]) (h1 := hp L s c e) rfl ?_
      cases h
      exact RuP.dI rfl
    · rw [if_neg h0] at h
      refine RuP.jn rfl h0 ?_
      refine RuP.step (pc' := 12) (ls' := [some (.inr (.inr (some 29))), some (.inl l1)]) (st' := [.inr (.inr (some 29))]) (h1 := hp L s c e) rfl ?_
      refine RuP.step (pc' := 15) (ls' := [some (.inr (.inr (some 29))), some (.inl l1)]) (st' := [.inr (.inr (some 30))]) (h1 := hp L s c e) rfl ?_
      refine RuP.step (pc' := 16) (ls' := [some (.inr (.inr (some 29))), some (.inl l1)]) (st' := [.inl l1, .inr (.inr (some 30))]) (h1 := hp L s c e) rfl ?_
      obtain ⟨b1, h⟩ := gd_some h
      refine RuP.ald (f := fun t => t == 0) (j := l1) (a := 30) rfl rfl b1.1 b1.2 ?_
      refine RuP.step (pc' := 18) (ls' := [some (.inr (.inr (some 29))), some (.inl l1)]) (st' := [.inl (-1), .inl (s 30 l1.toNat)]) (h1 := hp L s c e) rfl ?_
      by_cases h2 : s 30 l1.toNat = (-1)
      · rw [if_pos h2] at h
        refine RuP.jy rfl h2 ?_
        refine RuP.step (pc' := 31) (ls' := [some (.inr (.inr (some 29))), some (.inl (ax_w32 (l1 + 1)))]) (st' := []) (h1 := hp L s c e) rfl ?_
        refine RuP.step (pc' := 2) (ls' := [some (.inr (.inr (some 29))), some (.inl (ax_w32 (l1 + 1)))]) (st' := []) (h1 := hp L s c e) rfl ?_
        exact ih _ _ _ h
      · rw [if_neg h2] at h
        refine RuP.jn rfl h2 ?_
        exact bl_69_21 _ _ _ h
noncomputable def f_69 (s : Sg) : Option Int :=
  j_69_2 FU 1 s
theorem ev_69 {L c : Nat} {e : Nat → Nat} {s : Sg} {q : Int} (h : f_69 s = some q) : EvP 1 69 [.inr (.inr (some 29))] (hp L s c e) (oI L c e (q, s)) := by
  unfold f_69 at h
  refine EvP.of (μ := tb_m69) (ls := [some (.inr (.inr (some 29))), none]) rfl (Nat.le_of_ble_eq_true rfl) rfl ?_
  refine RuP.step (pc' := 1) (ls' := [some (.inr (.inr (some 29))), none]) (st' := [.inl 1]) (h1 := hp L s c e) rfl ?_
  refine RuP.step (pc' := 2) (ls' := [some (.inr (.inr (some 29))), some (.inl 1)]) (st' := []) (h1 := hp L s c e) rfl ?_
  exact bl_69_2 FU _ _ _ h
/-- MachineText$Lexemes.toldBits(IZ)J -/
noncomputable def j_75_129 (k5 : (Int → Int → Int → Sg → Option Int)) (l2 l3 l5 : Int) (s : Sg) : Option Int :=
  k5 l2 l3 (ax_w32 (l5 + 1)) s
theorem bl_75_129 {L c : Nat} {e : Nat → Nat} {k5 : (Int → Int → Int → Sg → Option Int)} (hk5 : ∀ (d6 d7 : Option ax_V) (z1 : Int) (l2 l3 l5 : Int) (s : Sg) (q : Int), k5 l2 l3 l5 s = some q → RuP 1 tb_m75 5 [some (.inr (.inr (some 39))), some (.inl z1), some (.inl l2), some (.inr (.inl l3)), none, some (.inl l5), d6, d7] [] (hp L s c e) (oJ L c e (q, s))) : ∀ (d6 d7 : Option ax_V) (z1 : Int) (l2 l3 l5 : Int) (s : Sg) (q : Int), j_75_129 k5 l2 l3 l5 s = some q → RuP 1 tb_m75 129 [some (.inr (.inr (some 39))), some (.inl z1), some (.inl l2), some (.inr (.inl l3)), none, some (.inl l5), d6, d7] [] (hp L s c e) (oJ L c e (q, s)) := by
  intro d6 d7 z1 l2 l3 l5 s q h
  unfold j_75_129 at h
  refine RuP.step (pc' := 132) (ls' := [some (.inr (.inr (some 39))), some (.inl z1), some (.inl l2), some (.inr (.inl l3)), none, some (.inl (ax_w32 (l5 + 1))), d6, d7]) (st' := []) (h1 := hp L s c e) rfl ?_
  refine RuP.step (pc' := 5) (ls' := [some (.inr (.inr (some 39))), some (.inl z1), some (.inl l2), some (.inr (.inl l3)), none, some (.inl (ax_w32 (l5 + 1))), d6, d7]) (st' := []) (h1 := hp L s c e) rfl ?_
  exact hk5 _ _ _ _ _ _ _ _ h
noncomputable def j_75_67 (k5 : (Int → Int → Int → Sg → Option Int)) : Nat → Int → Int → Int → Int → Sg → Option Int
  | 0, _, _, _, _, _ => none
  | F + 1, l2, l3, l5, l6, s =>
    (gd (g_82 l5 s) (
    (if f_82 l5 s ≤ l6 then
      j_75_129 k5 l2 l3 l5 s
    else
      (gd (g_80 l5 s) (
      (gd (g_83 (ax_w32 ((f_80 l5 s) + l6)) s) (
      (j_75_67 k5 F) l2 (ax_lor (ax_lshl l3 1) ((if ¬ ((if ¬ (f_83 (ax_w32 ((f_80 l5 s) + l6)) s) = 49 then 0 else 1) : Int) = 0 then 1 else (if ¬ l2 = 0 then 0 else 1)) : Int)) l5 (ax_w32 (l6 + 1)) s)))))))
theorem bl_75_67 {L c : Nat} {e : Nat → Nat} {k5 : (Int → Int → Int → Sg → Option Int)} (hk5 : ∀ (d6 d7 : Option ax_V) (z1 : Int) (l2 l3 l5 : Int) (s : Sg) (q : Int), k5 l2 l3 l5 s = some q → RuP 1 tb_m75 5 [some (.inr (.inr (some 39))), some (.inl z1), some (.inl l2), some (.inr (.inl l3)), none, some (.inl l5), d6, d7] [] (hp L s c e) (oJ L c e (q, s))) : ∀ (F : Nat) (d7 : Option ax_V) (z1 : Int) (l2 l3 l5 l6 : Int) (s : Sg) (q : Int), j_75_67 k5 F l2 l3 l5 l6 s = some q → RuP 1 tb_m75 67 [some (.inr (.inr (some 39))), some (.inl z1), some (.inl l2), some (.inr (.inl l3)), none, some (.inl l5), some (.inl l6), d7] [] (hp L s c e) (oJ L c e (q, s)) := by
  intro F
  induction F with
  | zero =>
    intro d7 z1 l2 l3 l5 l6 s q h
    rw [j_75_67] at h
    cases h
  | succ F ih =>
    intro d7 z1 l2 l3 l5 l6 s q h
    rw [j_75_67] at h
    refine RuP.step (pc' := 69) (ls' := [some (.inr (.inr (some 39))), some (.inl z1), some (.inl l2), some (.inr (.inl l3)), none, some (.inl l5), some (.inl l6), d7]) (st' := [.inl l6]) (h1 := hp L s c e) rfl ?_
    refine RuP.step (pc' := 70) (ls' := [some (.inr (.inr (some 39))), some (.inl z1), some (.inl l2), some (.inr (.inl l3)), none, some (.inl l5), some (.inl l6), d7]) (st' := [.inr (.inr (some 39)), .inl l6]) (h1 := hp L s c e) rfl ?_
    refine RuP.step (pc' := 72) (ls' := [some (.inr (.inr (some 39))), some (.inl z1), some (.inl l2), some (.inr (.inl l3)), none, some (.inl l5), some (.inl l6), d7]) (st' := [.inl l5, .inr (.inr (some 39)), .inl l6]) (h1 := hp L s c e) rfl ?_
    obtain ⟨b0, h⟩ := gd_some h
    refine RuP.cI rfl (EvP.i ((ev_82 l5 b0).up (by decide))) ?_
    by_cases h1 : f_82 l5 s ≤ l6
    · rw [if_pos h1] at h
      refine RuP.jy rfl h1 ?_
      exact bl_75_129 hk5 _ _ _ _ _ _ _ _ h
    · rw [if_neg h1] at h
      refine RuP.jn rfl h1 ?_
      refine RuP.step (pc' := 79) (ls' := [some (.inr (.inr (some 39))), some (.inl z1), some (.inl l2), some (.inr (.inl l3)), none, some (.inl l5), some (.inl l6), d7]) (st' := [.inr (.inr (some 39))]) (h1 := hp L s c e) rfl ?_
      refine RuP.step (pc' := 80) (ls' := [some (.inr (.inr (some 39))), some (.inl z1), some (.inl l2), some (.inr (.inl l3)), none, some (.inl l5), some (.inl l6), d7]) (st' := [.inr (.inr (some 39)), .inr (.inr (some 39))]) (h1 := hp L s c e) rfl ?_
      refine RuP.step (pc' := 82) (ls' := [some (.inr (.inr (some 39))), some (.inl z1), some (.inl l2), some (.inr (.inl l3)), none, some (.inl l5), some (.inl l6), d7]) (st' := [.inl l5, .inr (.inr (some 39)), .inr (.inr (some 39))]) (h1 := hp L s c e) rfl ?_
      obtain ⟨b2, h⟩ := gd_some h
      refine RuP.cI rfl (EvP.i ((ev_80 l5 b2).up (by decide))) ?_
      refine RuP.step (pc' := 87) (ls' := [some (.inr (.inr (some 39))), some (.inl z1), some (.inl l2), some (.inr (.inl l3)), none, some (.inl l5), some (.inl l6), d7]) (st' := [.inl l6, .inl (f_80 l5 s), .inr (.inr (some 39))]) (h1 := hp L s c e) rfl ?_
      refine RuP.step (pc' := 88) (ls' := [some (.inr (.inr (some 39))), some (.inl z1), some (.inl l2), some (.inr (.inl l3)), none, some (.inl l5), some (.inl l6), d7]) (st' := [.inl (ax_w32 ((f_80 l5 s) + l6)), .inr (.inr (some 39))]) (h1 := hp L s c e) rfl ?_
      obtain ⟨b3, h⟩ := gd_some h
      refine RuP.cI rfl (EvP.i ((ev_83 (ax_w32 ((f_80 l5 s) + l6)) b3).up (by decide))) ?_
      refine RuP.step (pc' := 93) (ls' := [some (.inr (.inr (some 39))), some (.inl z1), some (.inl l2), some (.inr (.inl l3)), none, some (.inl l5), some (.inl l6), d7]) (st' := [.inl 49, .inl (f_83 (ax_w32 ((f_80 l5 s) + l6)) s)]) (h1 := hp L s c e) rfl ?_
      have J5 : ∀ v4_0 : Int, v4_0 = ((if ¬ (f_83 (ax_w32 ((f_80 l5 s) + l6)) s) = 49 then 0 else 1) : Int) → RuP 1 tb_m75 101 [some (.inr (.inr (some 39))), some (.inl z1), some (.inl l2), some (.inr (.inl l3)), none, some (.inl l5), some (.inl l6), d7] [.inl v4_0] (hp L s c e) (oJ L c e (q, s)) := by
        intro v4_0 ev4_0
        subst ev4_0
        refine RuP.step (pc' := 103) (ls' := [some (.inr (.inr (some 39))), some (.inl z1), some (.inl l2), some (.inr (.inl l3)), none, some (.inl l5), some (.inl l6), some (.inl ((if ¬ (f_83 (ax_w32 ((f_80 l5 s) + l6)) s) = 49 then 0 else 1) : Int))]) (st' := []) (h1 := hp L s c e) rfl ?_
        refine RuP.step (pc' := 104) (ls' := [some (.inr (.inr (some 39))), some (.inl z1), some (.inl l2), some (.inr (.inl l3)), none, some (.inl l5), some (.inl l6), some (.inl ((if ¬ (f_83 (ax_w32 ((f_80 l5 s) + l6)) s) = 49 then 0 else 1) : Int))]) (st' := [.inr (.inl l3)]) (h1 := hp L s c e) rfl ?_
        refine RuP.step (pc' := 105) (ls' := [some (.inr (.inr (some 39))), some (.inl z1), some (.inl l2), some (.inr (.inl l3)), none, some (.inl l5), some (.inl l6), some (.inl ((if ¬ (f_83 (ax_w32 ((f_80 l5 s) + l6)) s) = 49 then 0 else 1) : Int))]) (st' := [.inl 1, .inr (.inl l3)]) (h1 := hp L s c e) rfl ?_
        refine RuP.step (pc' := 106) (ls' := [some (.inr (.inr (some 39))), some (.inl z1), some (.inl l2), some (.inr (.inl l3)), none, some (.inl l5), some (.inl l6), some (.inl ((if ¬ (f_83 (ax_w32 ((f_80 l5 s) + l6)) s) = 49 then 0 else 1) : Int))]) (st' := [.inr (.inl (ax_lshl l3 1))]) (h1 := hp L s c e) rfl ?_
        refine RuP.step (pc' := 108) (ls' := [some (.inr (.inr (some 39))), some (.inl z1), some (.inl l2), some (.inr (.inl l3)), none, some (.inl l5), some (.inl l6), some (.inl ((if ¬ (f_83 (ax_w32 ((f_80 l5 s) + l6)) s) = 49 then 0 else 1) : Int))]) (st' := [.inl ((if ¬ (f_83 (ax_w32 ((f_80 l5 s) + l6)) s) = 49 then 0 else 1) : Int), .inr (.inl (ax_lshl l3 1))]) (h1 := hp L s c e) rfl ?_
        have J6 : ∀ v5_0 : Int, v5_0 = ((if ¬ ((if ¬ (f_83 (ax_w32 ((f_80 l5 s) + l6)) s) = 49 then 0 else 1) : Int) = 0 then 1 else (if ¬ l2 = 0 then 0 else 1)) : Int) → RuP 1 tb_m75 120 [some (.inr (.inr (some 39))), some (.inl z1), some (.inl l2), some (.inr (.inl l3)), none, some (.inl l5), some (.inl l6), some (.inl ((if ¬ (f_83 (ax_w32 ((f_80 l5 s) + l6)) s) = 49 then 0 else 1) : Int))] [.inl v5_0, .inr (.inl (ax_lshl l3 1))] (hp L s c e) (oJ L c e (q, s)) := by
          intro v5_0 ev5_0
          subst ev5_0
          refine RuP.step (pc' := 121) (ls' := [some (.inr (.inr (some 39))), some (.inl z1), some (.inl l2), some (.inr (.inl l3)), none, some (.inl l5), some (.inl l6), some (.inl ((if ¬ (f_83 (ax_w32 ((f_80 l5 s) + l6)) s) = 49 then 0 else 1) : Int))]) (st' := [.inr (.inl ((if ¬ ((if ¬ (f_83 (ax_w32 ((f_80 l5 s) + l6)) s) = 49 then 0 else 1) : Int) = 0 then 1 else (if ¬ l2 = 0 then 0 else 1)) : Int)), .inr (.inl (ax_lshl l3 1))]) (h1 := hp L s c e) rfl ?_
          refine RuP.step (pc' := 122) (ls' := [some (.inr (.inr (some 39))), some (.inl z1), some (.inl l2), some (.inr (.inl l3)), none, some (.inl l5), some (.inl l6), some (.inl ((if ¬ (f_83 (ax_w32 ((f_80 l5 s) + l6)) s) = 49 then 0 else 1) : Int))]) (st' := [.inr (.inl (ax_lor (ax_lshl l3 1) ((if ¬ ((if ¬ (f_83 (ax_w32 ((f_80 l5 s) + l6)) s) = 49 then 0 else 1) : Int) = 0 then 1 else (if ¬ l2 = 0 then 0 else 1)) : Int)))]) (h1 := hp L s c e) rfl ?_
          refine RuP.step (pc' := 123) (ls' := [some (.inr (.inr (some 39))), some (.inl z1), some (.inl l2), some (.inr (.inl (ax_lor (ax_lshl l3 1) ((if ¬ ((if ¬ (f_83 (ax_w32 ((f_80 l5 s) + l6)) s) = 49 then 0 else 1) : Int) = 0 then 1 else (if ¬ l2 = 0 then 0 else 1)) : Int)))), none, some (.inl l5), some (.inl l6), some (.inl ((if ¬ (f_83 (ax_w32 ((f_80 l5 s) + l6)) s) = 49 then 0 else 1) : Int))]) (st' := []) (h1 := hp L s c e) rfl ?_
          refine RuP.step (pc' := 126) (ls' := [some (.inr (.inr (some 39))), some (.inl z1), some (.inl l2), some (.inr (.inl (ax_lor (ax_lshl l3 1) ((if ¬ ((if ¬ (f_83 (ax_w32 ((f_80 l5 s) + l6)) s) = 49 then 0 else 1) : Int) = 0 then 1 else (if ¬ l2 = 0 then 0 else 1)) : Int)))), none, some (.inl l5), some (.inl (ax_w32 (l6 + 1))), some (.inl ((if ¬ (f_83 (ax_w32 ((f_80 l5 s) + l6)) s) = 49 then 0 else 1) : Int))]) (st' := []) (h1 := hp L s c e) rfl ?_
          refine RuP.step (pc' := 67) (ls' := [some (.inr (.inr (some 39))), some (.inl z1), some (.inl l2), some (.inr (.inl (ax_lor (ax_lshl l3 1) ((if ¬ ((if ¬ (f_83 (ax_w32 ((f_80 l5 s) + l6)) s) = 49 then 0 else 1) : Int) = 0 then 1 else (if ¬ l2 = 0 then 0 else 1)) : Int)))), none, some (.inl l5), some (.inl (ax_w32 (l6 + 1))), some (.inl ((if ¬ (f_83 (ax_w32 ((f_80 l5 s) + l6)) s) = 49 then 0 else 1) : Int))]) (st' := []) (h1 := hp L s c e) rfl ?_
          exact ih _ _ _ _ _ _ _ _ h
        by_cases h6 : ¬ ((if ¬ (f_83 (ax_w32 ((f_80 l5 s) + l6)) s) = 49 then 0 else 1) : Int) = 0
        · refine RuP.jy rfl h6 ?_
          refine RuP.step (pc' := 116) (ls' := [some (.inr (.inr (some 39))), some (.inl z1), some (.inl l2), some (.inr (.inl l3)), none, some (.inl l5), some (.inl l6), some (.inl ((if ¬ (f_83 (ax_w32 ((f_80 l5 s) + l6)) s) = 49 then 0 else 1) : Int))]) (st' := [.inl 1, .inr (.inl (ax_lshl l3 1))]) (h1 := hp L s c e) rfl ?_
          refine RuP.step (pc' := 120) (ls' := [some (.inr (.inr (some 39))), some (.inl z1), some (.inl l2), some (.inr (.inl l3)), none, some (.inl l5), some (.inl l6), some (.inl ((if ¬ (f_83 (ax_w32 ((f_80 l5 s) + l6)) s) = 49 then 0 else 1) : Int))]) (st' := [.inl 1, .inr (.inl (ax_lshl l3 1))]) (h1 := hp L s c e) rfl ?_
          exact J6 _ (by simp only [if_pos h6])
        · refine RuP.jn rfl h6 ?_
          refine RuP.step (pc' := 112) (ls' := [some (.inr (.inr (some 39))), some (.inl z1), some (.inl l2), some (.inr (.inl l3)), none, some (.inl l5), some (.inl l6), some (.inl ((if ¬ (f_83 (ax_w32 ((f_80 l5 s) + l6)) s) = 49 then 0 else 1) : Int))]) (st' := [.inl l2, .inr (.inl (ax_lshl l3 1))]) (h1 := hp L s c e) rfl ?_
          by_cases h7 : ¬ l2 = 0
          · refine RuP.jy rfl h7 ?_
            refine RuP.step (pc' := 120) (ls' := [some (.inr (.inr (some 39))), some (.inl z1), some (.inl l2), some (.inr (.inl l3)), none, some (.inl l5), some (.inl l6), some (.inl ((if ¬ (f_83 (ax_w32 ((f_80 l5 s) + l6)) s) = 49 then 0 else 1) : Int))]) (st' := [.inl 0, .inr (.inl (ax_lshl l3 1))]) (h1 := hp L s c e) rfl ?_
            exact J6 _ (by simp only [if_neg h6, if_pos h7])
          · refine RuP.jn rfl h7 ?_
            refine RuP.step (pc' := 116) (ls' := [some (.inr (.inr (some 39))), some (.inl z1), some (.inl l2), some (.inr (.inl l3)), none, some (.inl l5), some (.inl l6), some (.inl ((if ¬ (f_83 (ax_w32 ((f_80 l5 s) + l6)) s) = 49 then 0 else 1) : Int))]) (st' := [.inl 1, .inr (.inl (ax_lshl l3 1))]) (h1 := hp L s c e) rfl ?_
            refine RuP.step (pc' := 120) (ls' := [some (.inr (.inr (some 39))), some (.inl z1), some (.inl l2), some (.inr (.inl l3)), none, some (.inl l5), some (.inl l6), some (.inl ((if ¬ (f_83 (ax_w32 ((f_80 l5 s) + l6)) s) = 49 then 0 else 1) : Int))]) (st' := [.inl 1, .inr (.inl (ax_lshl l3 1))]) (h1 := hp L s c e) rfl ?_
            exact J6 _ (by simp only [if_neg h6, if_neg h7])
      by_cases h8 : ¬ (f_83 (ax_w32 ((f_80 l5 s) + l6)) s) = 49
      · refine RuP.jy rfl h8 ?_
        refine RuP.step (pc' := 101) (ls' := [some (.inr (.inr (some 39))), some (.inl z1), some (.inl l2), some (.inr (.inl l3)), none, some (.inl l5), some (.inl l6), d7]) (st' := [.inl 0]) (h1 := hp L s c e) rfl ?_
        exact J5 _ (by simp only [if_pos h8])
      · refine RuP.jn rfl h8 ?_
        refine RuP.step (pc' := 97) (ls' := [some (.inr (.inr (some 39))), some (.inl z1), some (.inl l2), some (.inr (.inl l3)), none, some (.inl l5), some (.inl l6), d7]) (st' := [.inl 1]) (h1 := hp L s c e) rfl ?_
        refine RuP.step (pc' := 101) (ls' := [some (.inr (.inr (some 39))), some (.inl z1), some (.inl l2), some (.inr (.inl l3)), none, some (.inl l5), some (.inl l6), d7]) (st' := [.inl 1]) (h1 := hp L s c e) rfl ?_
        exact J5 _ (by simp only [if_neg h8])
noncomputable def j_75_5 : Nat → Int → Int → Int → Sg → Option Int
  | 0, _, _, _, _ => none
  | F + 1, l2, l3, l5, s =>
    (if s 39 9 ≤ l5 then
      some l3
    else
      (gd (g_79 l5 s) (
      (if f_79 l5 s = 123 then
        some l3
      else
        (gd (g_79 l5 s) (
        (if f_79 l5 s = 2 then
          (gd (g_79 (ax_w32 (l5 - 1)) s) (
          (if ¬ (f_79 (ax_w32 (l5 - 1)) s) = 58 then
            j_75_67 (j_75_5 F) FU l2 l3 l5 0 s
          else
            (gd (g_81 l5 s) (
            j_75_129 (j_75_5 F) l2 (ax_lshl l3 (ax_w32 (f_81 l5 s))) l5 s)))))
        else
          j_75_129 (j_75_5 F) l2 l3 l5 s)))))))
theorem bl_75_5 {L c : Nat} {e : Nat → Nat} : ∀ (F : Nat) (d6 d7 : Option ax_V) (z1 : Int) (l2 l3 l5 : Int) (s : Sg) (q : Int), j_75_5 F l2 l3 l5 s = some q → RuP 1 tb_m75 5 [some (.inr (.inr (some 39))), some (.inl z1), some (.inl l2), some (.inr (.inl l3)), none, some (.inl l5), d6, d7] [] (hp L s c e) (oJ L c e (q, s)) := by
  intro F
  induction F with
  | zero =>
    intro d6 d7 z1 l2 l3 l5 s q h
    rw [j_75_5] at h
    cases h
  | succ F ih =>
    intro d6 d7 z1 l2 l3 l5 s q h
    rw [j_75_5] at h
    refine RuP.step (pc' := 7) (ls' := [some (.inr (.inr (some 39))), some (.inl z1), some (.inl l2), some (.inr (.inl l3)), none, some (.inl l5), d6, d7]) (st' := [.inl l5]) (h1 := hp L s c e) rfl ?_
    refine RuP.step (pc' := 8) (ls' := [some (.inr (.inr (some 39))), some (.inl z1), some (.inl l2), some (.inr (.inl l3)), none, some (.inl l5), d6, d7]) (st' := [.inr (.inr (some 39)), .inl l5]) (h1 := hp L s c e) rfl ?_
    refine RuP.step (pc' := 11) (ls' := [some (.inr (.inr (some 39))), some (.inl z1), some (.inl l2), some (.inr (.inl l3)), none, some (.inl l5), d6, d7]) (st' := [.inl (s 39 9), .inl l5]) (h1 := hp L s c e) rfl ?_
    by_cases h0 : s 39 9 ≤ l5
    · rw [if_pos h0] at h
      refine RuP.jy rfl h0 ?_
      refine RuP.step (pc' := 136) (ls' := [some (.inr (.inr (some 39))), some (.inl z1), some (.inl l2), some (.inr (.inl l3)), none, some (.inl l5), d6, d7]) (st' := [.inr (.inl l3)]) (h1 := hp L s c e) rfl ?_
      cases h
      exact RuP.dJ rfl
    · rw [if_neg h0] at h
      refine RuP.jn rfl h0 ?_
      refine RuP.step (pc' := 15) (ls' := [some (.inr (.inr (some 39))), some (.inl z1), some (.inl l2), some (.inr (.inl l3)), none, some (.inl l5), d6, d7]) (st' := [.inr (.inr (some 39))]) (h1 := hp L s c e) rfl ?_
      refine RuP.step (pc' := 17) (ls' := [some (.inr (.inr (some 39))), some (.inl z1), some (.inl l2), some (.inr (.inl l3)), none, some (.inl l5), d6, d7]) (st' := [.inl l5, .inr (.inr (some 39))]) (h1 := hp L s c e) rfl ?_
      obtain ⟨b1, h⟩ := gd_some h
      refine RuP.cI rfl (EvP.i ((ev_79 l5 b1).up (by decide))) ?_
      refine RuP.step (pc' := 22) (ls' := [some (.inr (.inr (some 39))), some (.inl z1), some (.inl l2), some (.inr (.inl l3)), none, some (.inl l5), d6, d7]) (st' := [.inl 123, .inl (f_79 l5 s)]) (h1 := hp L s c e) rfl ?_
      by_cases h2 : f_79 l5 s = 123
      · rw [if_pos h2] at h
        refine RuP.jy rfl h2 ?_
        refine RuP.step (pc' := 136) (ls' := [some (.inr (.inr (some 39))), some (.inl z1), some (.inl l2), some (.inr (.inl l3)), none, some (.inl l5), d6, d7]) (st' := [.inr (.inl l3)]) (h1 := hp L s c e) rfl ?_
        cases h
        exact RuP.dJ rfl
      · rw [if_neg h2] at h
        refine RuP.jn rfl h2 ?_
        refine RuP.step (pc' := 26) (ls' := [some (.inr (.inr (some 39))), some (.inl z1), some (.inl l2), some (.inr (.inl l3)), none, some (.inl l5), d6, d7]) (st' := [.inr (.inr (some 39))]) (h1 := hp L s c e) rfl ?_
        refine RuP.step (pc' := 28) (ls' := [some (.inr (.inr (some 39))), some (.inl z1), some (.inl l2), some (.inr (.inl l3)), none, some (.inl l5), d6, d7]) (st' := [.inl l5, .inr (.inr (some 39))]) (h1 := hp L s c e) rfl ?_
        obtain ⟨b3, h⟩ := gd_some h
        refine RuP.cI rfl (EvP.i ((ev_79 l5 b3).up (by decide))) ?_
        refine RuP.step (pc' := 32) (ls' := [some (.inr (.inr (some 39))), some (.inl z1), some (.inl l2), some (.inr (.inl l3)), none, some (.inl l5), d6, d7]) (st' := [.inl 2, .inl (f_79 l5 s)]) (h1 := hp L s c e) rfl ?_
        by_cases h4 : f_79 l5 s = 2
        · rw [if_pos h4] at h
          refine RuP.jy rfl h4 ?_
          refine RuP.step (pc' := 39) (ls' := [some (.inr (.inr (some 39))), some (.inl z1), some (.inl l2), some (.inr (.inl l3)), none, some (.inl l5), d6, d7]) (st' := [.inr (.inr (some 39))]) (h1 := hp L s c e) rfl ?_
          refine RuP.step (pc' := 41) (ls' := [some (.inr (.inr (some 39))), some (.inl z1), some (.inl l2), some (.inr (.inl l3)), none, some (.inl l5), d6, d7]) (st' := [.inl l5, .inr (.inr (some 39))]) (h1 := hp L s c e) rfl ?_
          refine RuP.step (pc' := 42) (ls' := [some (.inr (.inr (some 39))), some (.inl z1), some (.inl l2), some (.inr (.inl l3)), none, some (.inl l5), d6, d7]) (st' := [.inl 1, .inl l5, .inr (.inr (some 39))]) (h1 := hp L s c e) rfl ?_
          refine RuP.step (pc' := 43) (ls' := [some (.inr (.inr (some 39))), some (.inl z1), some (.inl l2), some (.inr (.inl l3)), none, some (.inl l5), d6, d7]) (st' := [.inl (ax_w32 (l5 - 1)), .inr (.inr (some 39))]) (h1 := hp L s c e) rfl ?_
          obtain ⟨b5, h⟩ := gd_some h
          refine RuP.cI rfl (EvP.i ((ev_79 (ax_w32 (l5 - 1)) b5).up (by decide))) ?_
          refine RuP.step (pc' := 48) (ls' := [some (.inr (.inr (some 39))), some (.inl z1), some (.inl l2), some (.inr (.inl l3)), none, some (.inl l5), d6, d7]) (st' := [.inl 58, .inl (f_79 (ax_w32 (l5 - 1)) s)]) (h1 := hp L s c e) rfl ?_
          by_cases h6 : ¬ (f_79 (ax_w32 (l5 - 1)) s) = 58
          · rw [if_pos h6] at h
            refine RuP.jy rfl h6 ?_
            refine RuP.step (pc' := 65) (ls' := [some (.inr (.inr (some 39))), some (.inl z1), some (.inl l2), some (.inr (.inl l3)), none, some (.inl l5), d6, d7]) (st' := [.inl 0]) (h1 := hp L s c e) rfl ?_
            refine RuP.step (pc' := 67) (ls' := [some (.inr (.inr (some 39))), some (.inl z1), some (.inl l2), some (.inr (.inl l3)), none, some (.inl l5), some (.inl 0), d7]) (st' := []) (h1 := hp L s c e) rfl ?_
            exact bl_75_67 ih FU _ _ _ _ _ _ _ _ h
          · rw [if_neg h6] at h
            refine RuP.jn rfl h6 ?_
            refine RuP.step (pc' := 52) (ls' := [some (.inr (.inr (some 39))), some (.inl z1), some (.inl l2), some (.inr (.inl l3)), none, some (.inl l5), d6, d7]) (st' := [.inr (.inl l3)]) (h1 := hp L s c e) rfl ?_
            refine RuP.step (pc' := 53) (ls' := [some (.inr (.inr (some 39))), some (.inl z1), some (.inl l2), some (.inr (.inl l3)), none, some (.inl l5), d6, d7]) (st' := [.inr (.inr (some 39)), .inr (.inl l3)]) (h1 := hp L s c e) rfl ?_
            refine RuP.step (pc' := 55) (ls' := [some (.inr (.inr (some 39))), some (.inl z1), some (.inl l2), some (.inr (.inl l3)), none, some (.inl l5), d6, d7]) (st' := [.inl l5, .inr (.inr (some 39)), .inr (.inl l3)]) (h1 := hp L s c e) rfl ?_
            obtain ⟨b7, h⟩ := gd_some h
            refine RuP.cJ rfl (EvP.j ((ev_81 l5 b7).up (by decide))) ?_
            refine RuP.step (pc' := 59) (ls' := [some (.inr (.inr (some 39))), some (.inl z1), some (.inl l2), some (.inr (.inl l3)), none, some (.inl l5), d6, d7]) (st' := [.inl (ax_w32 (f_81 l5 s)), .inr (.inl l3)]) (h1 := hp L s c e) rfl ?_
            refine RuP.step (pc' := 60) (ls' := [some (.inr (.inr (some 39))), some (.inl z1), some (.inl l2), some (.inr (.inl l3)), none, some (.inl l5), d6, d7]) (st' := [.inr (.inl (ax_lshl l3 (ax_w32 (f_81 l5 s))))]) (h1 := hp L s c e) rfl ?_
            refine RuP.step (pc' := 61) (ls' := [some (.inr (.inr (some 39))), some (.inl z1), some (.inl l2), some (.inr (.inl (ax_lshl l3 (ax_w32 (f_81 l5 s))))), none, some (.inl l5), d6, d7]) (st' := []) (h1 := hp L s c e) rfl ?_
            refine RuP.step (pc' := 129) (ls' := [some (.inr (.inr (some 39))), some (.inl z1), some (.inl l2), some (.inr (.inl (ax_lshl l3 (ax_w32 (f_81 l5 s))))), none, some (.inl l5), d6, d7]) (st' := []) (h1 := hp L s c e) rfl ?_
            exact bl_75_129 ih _ _ _ _ _ _ _ _ h
        · rw [if_neg h4] at h
          refine RuP.jn rfl h4 ?_
          refine RuP.step (pc' := 129) (ls' := [some (.inr (.inr (some 39))), some (.inl z1), some (.inl l2), some (.inr (.inl l3)), none, some (.inl l5), d6, d7]) (st' := []) (h1 := hp L s c e) rfl ?_
          exact bl_75_129 ih _ _ _ _ _ _ _ _ h
noncomputable def f_75 (x0 x1 : Int) (s : Sg) : Option Int :=
  j_75_5 FU x1 0 x0 s
theorem ev_75 {L c : Nat} {e : Nat → Nat} {s : Sg} {x0 x1 : Int} {q : Int} (h : f_75 x0 x1 s = some q) : EvP 2 75 [.inr (.inr (some 39)), .inl x0, .inl x1] (hp L s c e) (oJ L c e (q, s)) := by
  unfold f_75 at h
  refine EvP.of (μ := tb_m75) (ls := [some (.inr (.inr (some 39))), some (.inl x0), some (.inl x1), none, none, none, none, none]) rfl (Nat.le_of_ble_eq_true rfl) rfl ?_
  refine RuP.step (pc' := 1) (ls' := [some (.inr (.inr (some 39))), some (.inl x0), some (.inl x1), none, none, none, none, none]) (st' := [.inr (.inl 0)]) (h1 := hp L s c e) rfl ?_
  refine RuP.step (pc' := 2) (ls' := [some (.inr (.inr (some 39))), some (.inl x0), some (.inl x1), some (.inr (.inl 0)), none, none, none, none]) (st' := []) (h1 := hp L s c e) rfl ?_
  refine RuP.step (pc' := 3) (ls' := [some (.inr (.inr (some 39))), some (.inl x0), some (.inl x1), some (.inr (.inl 0)), none, none, none, none]) (st' := [.inl x0]) (h1 := hp L s c e) rfl ?_
  refine RuP.step (pc' := 5) (ls' := [some (.inr (.inr (some 39))), some (.inl x0), some (.inl x1), some (.inr (.inl 0)), none, some (.inl x0), none, none]) (st' := []) (h1 := hp L s c e) rfl ?_
  exact bl_75_5 FU _ _ _ _ _ _ _ _ h
/-- MachineText$Lexemes.behindWhite(I)I -/
noncomputable def j_76_89 (k4 : (Int → Int → Sg → Option Int)) (l2 l3 : Int) (s : Sg) : Option Int :=
  k4 l2 (ax_w32 (l3 + 1)) s
theorem bl_76_89 {L c : Nat} {e : Nat → Nat} {k4 : (Int → Int → Sg → Option Int)} (hk4 : ∀ (d4 d5 : Option ax_V) (z1 : Int) (l2 l3 : Int) (s : Sg) (q : Int), k4 l2 l3 s = some q → RuP 1 tb_m76 4 [some (.inr (.inr (some 39))), some (.inl z1), some (.inl l2), some (.inl l3), d4, d5] [] (hp L s c e) (oI L c e (q, s))) : ∀ (z1 z4 z5 : Int) (l2 l3 : Int) (s : Sg) (q : Int), j_76_89 k4 l2 l3 s = some q → RuP 1 tb_m76 89 [some (.inr (.inr (some 39))), some (.inl z1), some (.inl l2), some (.inl l3), some (.inl z4), some (.inl z5)] [] (hp L s c e) (oI L c e (q, s)) := by
  intro z1 z4 z5 l2 l3 s q h
  unfold j_76_89 at h
  refine RuP.step (pc' := 92) (ls' := [some (.inr (.inr (some 39))), some (.inl z1), some (.inl l2), some (.inl (ax_w32 (l3 + 1))), some (.inl z4), some (.inl z5)]) (st' := []) (h1 := hp L s c e) rfl ?_
  refine RuP.step (pc' := 4) (ls' := [some (.inr (.inr (some 39))), some (.inl z1), some (.inl l2), some (.inl (ax_w32 (l3 + 1))), some (.inl z4), some (.inl z5)]) (st' := []) (h1 := hp L s c e) rfl ?_
  exact hk4 _ _ _ _ _ _ _ h
noncomputable def j_76_4 : Nat → Int → Int → Sg → Option Int
  | 0, _, _, _ => none
  | F + 1, l2, l3, s =>
    (if s 39 8 ≤ l3 then
      some (s 39 8)
    else
      (gd (g_83 l3 s) (
      (if ¬ ((if f_83 l3 s = 9 then 1 else (if f_83 l3 s = 10 then 1 else (if f_83 l3 s = 13 then 1 else (if ¬ (f_83 l3 s) = 32 then 0 else 1)))) : Int) = 0 then
        j_76_89 (j_76_4 F) ((if f_83 l3 s = 35 then 1 else (if l2 = 0 then 0 else (if f_83 l3 s = 10 then 0 else 1))) : Int) l3 s
      else
        (if ¬ ((if f_83 l3 s = 35 then 1 else (if l2 = 0 then 0 else (if f_83 l3 s = 10 then 0 else 1))) : Int) = 0 then
          j_76_89 (j_76_4 F) ((if f_83 l3 s = 35 then 1 else (if l2 = 0 then 0 else (if f_83 l3 s = 10 then 0 else 1))) : Int) l3 s
        else
          some l3)))))
theorem bl_76_4 {L c : Nat} {e : Nat → Nat} : ∀ (F : Nat) (d4 d5 : Option ax_V) (z1 : Int) (l2 l3 : Int) (s : Sg) (q : Int), j_76_4 F l2 l3 s = some q → RuP 1 tb_m76 4 [some (.inr (.inr (some 39))), some (.inl z1), some (.inl l2), some (.inl l3), d4, d5] [] (hp L s c e) (oI L c e (q, s)) := by
  intro F
  induction F with
  | zero =>
    intro d4 d5 z1 l2 l3 s q h
    rw [j_76_4] at h
    cases h
  | succ F ih =>
    intro d4 d5 z1 l2 l3 s q h
    rw [j_76_4] at h
    refine RuP.step (pc' := 5) (ls' := [some (.inr (.inr (some 39))), some (.inl z1), some (.inl l2), some (.inl l3), d4, d5]) (st' := [.inl l3]) (h1 := hp L s c e) rfl ?_
    refine RuP.step (pc' := 6) (ls' := [some (.inr (.inr (some 39))), some (.inl z1), some (.inl l2), some (.inl l3), d4, d5]) (st' := [.inr (.inr (some 39)), .inl l3]) (h1 := hp L s c e) rfl ?_
    refine RuP.step (pc' := 9) (ls' := [some (.inr (.inr (some 39))), some (.inl z1), some (.inl l2), some (.inl l3), d4, d5]) (st' := [.inl (s 39 8), .inl l3]) (h1 := hp L s c e) rfl ?_
    by_cases h0 : s 39 8 ≤ l3
    · rw [if_pos h0] at h
      refine RuP.jy rfl h0 ?_
      refine RuP.step (pc' := 96) (ls' := [some (.inr (.inr (some 39))), some (.inl z1), some (.inl l2), some (.inl l3), d4, d5]) (st' := [.inr (.inr (some 39))]) (h1 := hp L s c e) rfl ?_
      refine RuP.step (pc' := 99) (ls' := [some (.inr (.inr (some 39))), some (.inl z1), some (.inl l2), some (.inl l3), d4, d5]) (st' := [.inl (s 39 8)]) (h1 := hp L s c e) rfl ?_
      cases h
      exact RuP.dI rfl
    · rw [if_neg h0] at h
      refine RuP.jn rfl h0 ?_
      refine RuP.step (pc' := 13) (ls' := [some (.inr (.inr (some 39))), some (.inl z1), some (.inl l2), some (.inl l3), d4, d5]) (st' := [.inr (.inr (some 39))]) (h1 := hp L s c e) rfl ?_
      refine RuP.step (pc' := 14) (ls' := [some (.inr (.inr (some 39))), some (.inl z1), some (.inl l2), some (.inl l3), d4, d5]) (st' := [.inl l3, .inr (.inr (some 39))]) (h1 := hp L s c e) rfl ?_
      obtain ⟨b1, h⟩ := gd_some h
      refine RuP.cI rfl (EvP.i ((ev_83 l3 b1).up (by decide))) ?_
      refine RuP.step (pc' := 19) (ls' := [some (.inr (.inr (some 39))), some (.inl z1), some (.inl l2), some (.inl l3), some (.inl (f_83 l3 s)), d5]) (st' := []) (h1 := hp L s c e) rfl ?_
      refine RuP.step (pc' := 21) (ls' := [some (.inr (.inr (some 39))), some (.inl z1), some (.inl l2), some (.inl l3), some (.inl (f_83 l3 s)), d5]) (st' := [.inl (f_83 l3 s)]) (h1 := hp L s c e) rfl ?_
      refine RuP.step (pc' := 23) (ls' := [some (.inr (.inr (some 39))), some (.inl z1), some (.inl l2), some (.inl l3), some (.inl (f_83 l3 s)), d5]) (st' := [.inl 9, .inl (f_83 l3 s)]) (h1 := hp L s c e) rfl ?_
      have J3 : ∀ v2_0 : Int, v2_0 = ((if f_83 l3 s = 9 then 1 else (if f_83 l3 s = 10 then 1 else (if f_83 l3 s = 13 then 1 else (if ¬ (f_83 l3 s) = 32 then 0 else 1)))) : Int) → RuP 1 tb_m76 52 [some (.inr (.inr (some 39))), some (.inl z1), some (.inl l2), some (.inl l3), some (.inl (f_83 l3 s)), d5] [.inl v2_0] (hp L s c e) (oI L c e (q, s)) := by
        intro v2_0 ev2_0
        subst ev2_0
        refine RuP.step (pc' := 54) (ls' := [some (.inr (.inr (some 39))), some (.inl z1), some (.inl l2), some (.inl l3), some (.inl (f_83 l3 s)), some (.inl ((if f_83 l3 s = 9 then 1 else (if f_83 l3 s = 10 then 1 else (if f_83 l3 s = 13 then 1 else (if ¬ (f_83 l3 s) = 32 then 0 else 1)))) : Int))]) (st' := []) (h1 := hp L s c e) rfl ?_
        refine RuP.step (pc' := 56) (ls' := [some (.inr (.inr (some 39))), some (.inl z1), some (.inl l2), some (.inl l3), some (.inl (f_83 l3 s)), some (.inl ((if f_83 l3 s = 9 then 1 else (if f_83 l3 s = 10 then 1 else (if f_83 l3 s = 13 then 1 else (if ¬ (f_83 l3 s) = 32 then 0 else 1)))) : Int))]) (st' := [.inl (f_83 l3 s)]) (h1 := hp L s c e) rfl ?_
        refine RuP.step (pc' := 58) (ls' := [some (.inr (.inr (some 39))), some (.inl z1), some (.inl l2), some (.inl l3), some (.inl (f_83 l3 s)), some (.inl ((if f_83 l3 s = 9 then 1 else (if f_83 l3 s = 10 then 1 else (if f_83 l3 s = 13 then 1 else (if ¬ (f_83 l3 s) = 32 then 0 else 1)))) : Int))]) (st' := [.inl 35, .inl (f_83 l3 s)]) (h1 := hp L s c e) rfl ?_
        have J4 : ∀ v3_0 : Int, v3_0 = ((if f_83 l3 s = 35 then 1 else (if l2 = 0 then 0 else (if f_83 l3 s = 10 then 0 else 1))) : Int) → RuP 1 tb_m76 77 [some (.inr (.inr (some 39))), some (.inl z1), some (.inl l2), some (.inl l3), some (.inl (f_83 l3 s)), some (.inl ((if f_83 l3 s = 9 then 1 else (if f_83 l3 s = 10 then 1 else (if f_83 l3 s = 13 then 1 else (if ¬ (f_83 l3 s) = 32 then 0 else 1)))) : Int))] [.inl v3_0] (hp L s c e) (oI L c e (q, s)) := by
          intro v3_0 ev3_0
          subst ev3_0
          refine RuP.step (pc' := 78) (ls' := [some (.inr (.inr (some 39))), some (.inl z1), some (.inl ((if f_83 l3 s = 35 then 1 else (if l2 = 0 then 0 else (if f_83 l3 s = 10 then 0 else 1))) : Int)), some (.inl l3), some (.inl (f_83 l3 s)), some (.inl ((if f_83 l3 s = 9 then 1 else (if f_83 l3 s = 10 then 1 else (if f_83 l3 s = 13 then 1 else (if ¬ (f_83 l3 s) = 32 then 0 else 1)))) : Int))]) (st' := []) (h1 := hp L s c e) rfl ?_
          refine RuP.step (pc' := 80) (ls' := [some (.inr (.inr (some 39))), some (.inl z1), some (.inl ((if f_83 l3 s = 35 then 1 else (if l2 = 0 then 0 else (if f_83 l3 s = 10 then 0 else 1))) : Int)), some (.inl l3), some (.inl (f_83 l3 s)), some (.inl ((if f_83 l3 s = 9 then 1 else (if f_83 l3 s = 10 then 1 else (if f_83 l3 s = 13 then 1 else (if ¬ (f_83 l3 s) = 32 then 0 else 1)))) : Int))]) (st' := [.inl ((if f_83 l3 s = 9 then 1 else (if f_83 l3 s = 10 then 1 else (if f_83 l3 s = 13 then 1 else (if ¬ (f_83 l3 s) = 32 then 0 else 1)))) : Int)]) (h1 := hp L s c e) rfl ?_
          by_cases h4 : ¬ ((if f_83 l3 s = 9 then 1 else (if f_83 l3 s = 10 then 1 else (if f_83 l3 s = 13 then 1 else (if ¬ (f_83 l3 s) = 32 then 0 else 1)))) : Int) = 0
          · rw [if_pos h4] at h
            refine RuP.jy rfl h4 ?_
            exact bl_76_89 ih _ _ _ _ _ _ _ h
          · rw [if_neg h4] at h
            refine RuP.jn rfl h4 ?_
            refine RuP.step (pc' := 84) (ls' := [some (.inr (.inr (some 39))), some (.inl z1), some (.inl ((if f_83 l3 s = 35 then 1 else (if l2 = 0 then 0 else (if f_83 l3 s = 10 then 0 else 1))) : Int)), some (.inl l3), some (.inl (f_83 l3 s)), some (.inl ((if f_83 l3 s = 9 then 1 else (if f_83 l3 s = 10 then 1 else (if f_83 l3 s = 13 then 1 else (if ¬ (f_83 l3 s) = 32 then 0 else 1)))) : Int))]) (st' := [.inl ((if f_83 l3 s = 35 then 1 else (if l2 = 0 then 0 else (if f_83 l3 s = 10 then 0 else 1))) : Int)]) (h1 := hp L s c e) rfl ?_
            by_cases h5 : ¬ ((if f_83 l3 s = 35 then 1 else (if l2 = 0 then 0 else (if f_83 l3 s = 10 then 0 else 1))) : Int) = 0
            · rw [if_pos h5] at h
              refine RuP.jy rfl h5 ?_
              exact bl_76_89 ih _ _ _ _ _ _ _ h
            · rw [if_neg h5] at h
              refine RuP.jn rfl h5 ?_
              refine RuP.step (pc' := 88) (ls' := [some (.inr (.inr (some 39))), some (.inl z1), some (.inl ((if f_83 l3 s = 35 then 1 else (if l2 = 0 then 0 else (if f_83 l3 s = 10 then 0 else 1))) : Int)), some (.inl l3), some (.inl (f_83 l3 s)), some (.inl ((if f_83 l3 s = 9 then 1 else (if f_83 l3 s = 10 then 1 else (if f_83 l3 s = 13 then 1 else (if ¬ (f_83 l3 s) = 32 then 0 else 1)))) : Int))]) (st' := [.inl l3]) (h1 := hp L s c e) rfl ?_
              cases h
              exact RuP.dI rfl
        by_cases h6 : f_83 l3 s = 35
        · refine RuP.jy rfl h6 ?_
          refine RuP.step (pc' := 73) (ls' := [some (.inr (.inr (some 39))), some (.inl z1), some (.inl l2), some (.inl l3), some (.inl (f_83 l3 s)), some (.inl ((if f_83 l3 s = 9 then 1 else (if f_83 l3 s = 10 then 1 else (if f_83 l3 s = 13 then 1 else (if ¬ (f_83 l3 s) = 32 then 0 else 1)))) : Int))]) (st' := [.inl 1]) (h1 := hp L s c e) rfl ?_
          refine RuP.step (pc' := 77) (ls' := [some (.inr (.inr (some 39))), some (.inl z1), some (.inl l2), some (.inl l3), some (.inl (f_83 l3 s)), some (.inl ((if f_83 l3 s = 9 then 1 else (if f_83 l3 s = 10 then 1 else (if f_83 l3 s = 13 then 1 else (if ¬ (f_83 l3 s) = 32 then 0 else 1)))) : Int))]) (st' := [.inl 1]) (h1 := hp L s c e) rfl ?_
          exact J4 _ (by simp only [if_pos h6])
        · refine RuP.jn rfl h6 ?_
          refine RuP.step (pc' := 62) (ls' := [some (.inr (.inr (some 39))), some (.inl z1), some (.inl l2), some (.inl l3), some (.inl (f_83 l3 s)), some (.inl ((if f_83 l3 s = 9 then 1 else (if f_83 l3 s = 10 then 1 else (if f_83 l3 s = 13 then 1 else (if ¬ (f_83 l3 s) = 32 then 0 else 1)))) : Int))]) (st' := [.inl l2]) (h1 := hp L s c e) rfl ?_
          by_cases h7 : l2 = 0
          · refine RuP.jy rfl h7 ?_
            refine RuP.step (pc' := 77) (ls' := [some (.inr (.inr (some 39))), some (.inl z1), some (.inl l2), some (.inl l3), some (.inl (f_83 l3 s)), some (.inl ((if f_83 l3 s = 9 then 1 else (if f_83 l3 s = 10 then 1 else (if f_83 l3 s = 13 then 1 else (if ¬ (f_83 l3 s) = 32 then 0 else 1)))) : Int))]) (st' := [.inl 0]) (h1 := hp L s c e) rfl ?_
            exact J4 _ (by simp only [if_neg h6, if_pos h7])
          · refine RuP.jn rfl h7 ?_
            refine RuP.step (pc' := 67) (ls' := [some (.inr (.inr (some 39))), some (.inl z1), some (.inl l2), some (.inl l3), some (.inl (f_83 l3 s)), some (.inl ((if f_83 l3 s = 9 then 1 else (if f_83 l3 s = 10 then 1 else (if f_83 l3 s = 13 then 1 else (if ¬ (f_83 l3 s) = 32 then 0 else 1)))) : Int))]) (st' := [.inl (f_83 l3 s)]) (h1 := hp L s c e) rfl ?_
            refine RuP.step (pc' := 69) (ls' := [some (.inr (.inr (some 39))), some (.inl z1), some (.inl l2), some (.inl l3), some (.inl (f_83 l3 s)), some (.inl ((if f_83 l3 s = 9 then 1 else (if f_83 l3 s = 10 then 1 else (if f_83 l3 s = 13 then 1 else (if ¬ (f_83 l3 s) = 32 then 0 else 1)))) : Int))]) (st' := [.inl 10, .inl (f_83 l3 s)]) (h1 := hp L s c e) rfl ?_
            by_cases h8 : f_83 l3 s = 10
            · refine RuP.jy rfl h8 ?_
              refine RuP.step (pc' := 77) (ls' := [some (.inr (.inr (some 39))), some (.inl z1), some (.inl l2), some (.inl l3), some (.inl (f_83 l3 s)), some (.inl ((if f_83 l3 s = 9 then 1 else (if f_83 l3 s = 10 then 1 else (if f_83 l3 s = 13 then 1 else (if ¬ (f_83 l3 s) = 32 then 0 else 1)))) : Int))]) (st' := [.inl 0]) (h1 := hp L s c e) rfl ?_
              exact J4 _ (by simp only [if_neg h6, if_neg h7, if_pos h8])
            · refine RuP.jn rfl h8 ?_
              refine RuP.step (pc' := 73) (ls' := [some (.inr (.inr (some 39))), some (.inl z1), some (.inl l2), some (.inl l3), some (.inl (f_83 l3 s)), some (.inl ((if f_83 l3 s = 9 then 1 else (if f_83 l3 s = 10 then 1 else (if f_83 l3 s = 13 then 1 else (if ¬ (f_83 l3 s) = 32 then 0 else 1)))) : Int))]) (st' := [.inl 1]) (h1 := hp L s c e) rfl ?_
              refine RuP.step (pc' := 77) (ls' := [some (.inr (.inr (some 39))), some (.inl z1), some (.inl l2), some (.inl l3), some (.inl (f_83 l3 s)), some (.inl ((if f_83 l3 s = 9 then 1 else (if f_83 l3 s = 10 then 1 else (if f_83 l3 s = 13 then 1 else (if ¬ (f_83 l3 s) = 32 then 0 else 1)))) : Int))]) (st' := [.inl 1]) (h1 := hp L s c e) rfl ?_
              exact J4 _ (by simp only [if_neg h6, if_neg h7, if_neg h8])
      by_cases h9 : f_83 l3 s = 9
      · refine RuP.jy rfl h9 ?_
        refine RuP.step (pc' := 48) (ls' := [some (.inr (.inr (some 39))), some (.inl z1), some (.inl l2), some (.inl l3), some (.inl (f_83 l3 s)), d5]) (st' := [.inl 1]) (h1 := hp L s c e) rfl ?_
        refine RuP.step (pc' := 52) (ls' := [some (.inr (.inr (some 39))), some (.inl z1), some (.inl l2), some (.inl l3), some (.inl (f_83 l3 s)), d5]) (st' := [.inl 1]) (h1 := hp L s c e) rfl ?_
        exact J3 _ (by simp only [if_pos h9])
      · refine RuP.jn rfl h9 ?_
        refine RuP.step (pc' := 28) (ls' := [some (.inr (.inr (some 39))), some (.inl z1), some (.inl l2), some (.inl l3), some (.inl (f_83 l3 s)), d5]) (st' := [.inl (f_83 l3 s)]) (h1 := hp L s c e) rfl ?_
        refine RuP.step (pc' := 30) (ls' := [some (.inr (.inr (some 39))), some (.inl z1), some (.inl l2), some (.inl l3), some (.inl (f_83 l3 s)), d5]) (st' := [.inl 10, .inl (f_83 l3 s)]) (h1 := hp L s c e) rfl ?_
        by_cases h10 : f_83 l3 s = 10
        · refine RuP.jy rfl h10 ?_
          refine RuP.step (pc' := 48) (ls' := [some (.inr (.inr (some 39))), some (.inl z1), some (.inl l2), some (.inl l3), some (.inl (f_83 l3 s)), d5]) (st' := [.inl 1]) (h1 := hp L s c e) rfl ?_
          refine RuP.step (pc' := 52) (ls' := [some (.inr (.inr (some 39))), some (.inl z1), some (.inl l2), some (.inl l3), some (.inl (f_83 l3 s)), d5]) (st' := [.inl 1]) (h1 := hp L s c e) rfl ?_
          exact J3 _ (by simp only [if_neg h9, if_pos h10])
        · refine RuP.jn rfl h10 ?_
          refine RuP.step (pc' := 35) (ls' := [some (.inr (.inr (some 39))), some (.inl z1), some (.inl l2), some (.inl l3), some (.inl (f_83 l3 s)), d5]) (st' := [.inl (f_83 l3 s)]) (h1 := hp L s c e) rfl ?_
          refine RuP.step (pc' := 37) (ls' := [some (.inr (.inr (some 39))), some (.inl z1), some (.inl l2), some (.inl l3), some (.inl (f_83 l3 s)), d5]) (st' := [.inl 13, .inl (f_83 l3 s)]) (h1 := hp L s c e) rfl ?_
          by_cases h11 : f_83 l3 s = 13
          · refine RuP.jy rfl h11 ?_
            refine RuP.step (pc' := 48) (ls' := [some (.inr (.inr (some 39))), some (.inl z1), some (.inl l2), some (.inl l3), some (.inl (f_83 l3 s)), d5]) (st' := [.inl 1]) (h1 := hp L s c e) rfl ?_
            refine RuP.step (pc' := 52) (ls' := [some (.inr (.inr (some 39))), some (.inl z1), some (.inl l2), some (.inl l3), some (.inl (f_83 l3 s)), d5]) (st' := [.inl 1]) (h1 := hp L s c e) rfl ?_
            exact J3 _ (by simp only [if_neg h9, if_neg h10, if_pos h11])
          · refine RuP.jn rfl h11 ?_
            refine RuP.step (pc' := 42) (ls' := [some (.inr (.inr (some 39))), some (.inl z1), some (.inl l2), some (.inl l3), some (.inl (f_83 l3 s)), d5]) (st' := [.inl (f_83 l3 s)]) (h1 := hp L s c e) rfl ?_
            refine RuP.step (pc' := 44) (ls' := [some (.inr (.inr (some 39))), some (.inl z1), some (.inl l2), some (.inl l3), some (.inl (f_83 l3 s)), d5]) (st' := [.inl 32, .inl (f_83 l3 s)]) (h1 := hp L s c e) rfl ?_
            by_cases h12 : ¬ (f_83 l3 s) = 32
            · refine RuP.jy rfl h12 ?_
              refine RuP.step (pc' := 52) (ls' := [some (.inr (.inr (some 39))), some (.inl z1), some (.inl l2), some (.inl l3), some (.inl (f_83 l3 s)), d5]) (st' := [.inl 0]) (h1 := hp L s c e) rfl ?_
              exact J3 _ (by simp only [if_neg h9, if_neg h10, if_neg h11, if_pos h12])
            · refine RuP.jn rfl h12 ?_
              refine RuP.step (pc' := 48) (ls' := [some (.inr (.inr (some 39))), some (.inl z1), some (.inl l2), some (.inl l3), some (.inl (f_83 l3 s)), d5]) (st' := [.inl 1]) (h1 := hp L s c e) rfl ?_
              refine RuP.step (pc' := 52) (ls' := [some (.inr (.inr (some 39))), some (.inl z1), some (.inl l2), some (.inl l3), some (.inl (f_83 l3 s)), d5]) (st' := [.inl 1]) (h1 := hp L s c e) rfl ?_
              exact J3 _ (by simp only [if_neg h9, if_neg h10, if_neg h11, if_neg h12])
noncomputable def f_76 (x0 : Int) (s : Sg) : Option Int :=
  j_76_4 FU 0 x0 s
theorem ev_76 {L c : Nat} {e : Nat → Nat} {s : Sg} {x0 : Int} {q : Int} (h : f_76 x0 s = some q) : EvP 2 76 [.inr (.inr (some 39)), .inl x0] (hp L s c e) (oI L c e (q, s)) := by
  unfold f_76 at h
  refine EvP.of (μ := tb_m76) (ls := [some (.inr (.inr (some 39))), some (.inl x0), none, none, none, none]) rfl (Nat.le_of_ble_eq_true rfl) rfl ?_
  refine RuP.step (pc' := 1) (ls' := [some (.inr (.inr (some 39))), some (.inl x0), none, none, none, none]) (st' := [.inl 0]) (h1 := hp L s c e) rfl ?_
  refine RuP.step (pc' := 2) (ls' := [some (.inr (.inr (some 39))), some (.inl x0), some (.inl 0), none, none, none]) (st' := []) (h1 := hp L s c e) rfl ?_
  refine RuP.step (pc' := 3) (ls' := [some (.inr (.inr (some 39))), some (.inl x0), some (.inl 0), none, none, none]) (st' := [.inl x0]) (h1 := hp L s c e) rfl ?_
  refine RuP.step (pc' := 4) (ls' := [some (.inr (.inr (some 39))), some (.inl x0), some (.inl 0), some (.inl x0), none, none]) (st' := []) (h1 := hp L s c e) rfl ?_
  exact bl_76_4 FU _ _ _ _ _ _ _ h
/-- MachineText$Lexemes.cutHex(I)I -/
noncomputable def j_90_54 (l1 l2 l3 : Int) (s : Sg) : Option (Int × Sg) :=
  (if ax_w32 (l2 - l1) ≤ 10 then
    (gd (g_78 2 l1 l2 l3 s) (
    ((some (f_78 2 l1 l2 l3 s)).bind fun q1 =>
    some (l2, q1))))
  else
    some ((-1), s))
theorem bl_90_54 {L c : Nat} {e : Nat → Nat} : ∀ (l1 l2 l3 : Int) (s : Sg) (q : Int × Sg), j_90_54 l1 l2 l3 s = some q → RuP 2 tb_m90 54 [some (.inr (.inr (some 39))), some (.inl l1), some (.inl l2), some (.inr (.inl l3)), none] [] (hp L s c e) (oI L c e q) := by
  intro l1 l2 l3 s q h
  unfold j_90_54 at h
  refine RuP.step (pc' := 55) (ls' := [some (.inr (.inr (some 39))), some (.inl l1), some (.inl l2), some (.inr (.inl l3)), none]) (st' := [.inl l2]) (h1 := hp L s c e) rfl ?_
  refine RuP.step (pc' := 56) (ls' := [some (.inr (.inr (some 39))), some (.inl l1), some (.inl l2), some (.inr (.inl l3)), none]) (st' := [.inl l1, .inl l2]) (h1 := hp L s c e) rfl ?_
  refine RuP.step (pc' := 57) (ls' := [some (.inr (.inr (some 39))), some (.inl l1), some (.inl l2), some (.inr (.inl l3)), none]) (st' := [.inl (ax_w32 (l2 - l1))]) (h1 := hp L s c e) rfl ?_
  refine RuP.step (pc' := 59) (ls' := [some (.inr (.inr (some 39))), some (.inl l1), some (.inl l2), some (.inr (.inl l3)), none]) (st' := [.inl 10, .inl (ax_w32 (l2 - l1))]) (h1 := hp L s c e) rfl ?_
  by_cases h0 : ax_w32 (l2 - l1) ≤ 10
  · rw [if_pos h0] at h
    refine RuP.jy rfl h0 ?_
    refine RuP.step (pc' := 65) (ls' := [some (.inr (.inr (some 39))), some (.inl l1), some (.inl l2), some (.inr (.inl l3)), none]) (st' := [.inr (.inr (some 39))]) (h1 := hp L s c e) rfl ?_
    refine RuP.step (pc' := 66) (ls' := [some (.inr (.inr (some 39))), some (.inl l1), some (.inl l2), some (.inr (.inl l3)), none]) (st' := [.inl 2, .inr (.inr (some 39))]) (h1 := hp L s c e) rfl ?_
    refine RuP.step (pc' := 67) (ls' := [some (.inr (.inr (some 39))), some (.inl l1), some (.inl l2), some (.inr (.inl l3)), none]) (st' := [.inl l1, .inl 2, .inr (.inr (some 39))]) (h1 := hp L s c e) rfl ?_
    refine RuP.step (pc' := 68) (ls' := [some (.inr (.inr (some 39))), some (.inl l1), some (.inl l2), some (.inr (.inl l3)), none]) (st' := [.inl l2, .inl l1, .inl 2, .inr (.inr (some 39))]) (h1 := hp L s c e) rfl ?_
    refine RuP.step (pc' := 69) (ls' := [some (.inr (.inr (some 39))), some (.inl l1), some (.inl l2), some (.inr (.inl l3)), none]) (st' := [.inr (.inl l3), .inl l2, .inl l1, .inl 2, .inr (.inr (some 39))]) (h1 := hp L s c e) rfl ?_
    obtain ⟨b1, h⟩ := gd_some h
    obtain ⟨q1, h1, h⟩ := bd_some h
    refine RuP.cVe h1 rfl (EvP.v ((ev_78 2 l1 l2 l3 b1).up (by decide))) ?_
    refine RuP.step (pc' := 73) (ls' := [some (.inr (.inr (some 39))), some (.inl l1), some (.inl l2), some (.inr (.inl l3)), none]) (st' := [.inl l2]) (h1 := hp L q1 c e) rfl ?_
    cases h
    exact RuP.dI rfl
  · rw [if_neg h0] at h
    refine RuP.jn rfl h0 ?_
    refine RuP.step (pc' := 63) (ls' := [some (.inr (.inr (some 39))), some (.inl l1), some (.inl l2), some (.inr (.inl l3)), none]) (st' := [.inl (-1)]) (h1 := hp L s c e) rfl ?_
    cases h
    exact RuP.dI rfl
noncomputable def j_90_6 : Nat → Int → Int → Int → Sg → Option (Int × Sg)
  | 0, _, _, _, _ => none
  | F + 1, l1, l2, l3, s =>
    (if s 39 8 ≤ l2 then
      j_90_54 l1 l2 l3 s
    else
      (gd (g_83 l2 s) (
      (if f_89 (f_83 l2 s) s = (-1) then
        j_90_54 l1 l2 l3 s
      else
        (gd (g_83 l2 s) (
        (j_90_6 F) l1 (ax_w32 (l2 + 1)) (f_293 (ax_w64 ((ax_w64 (l3 * 16)) + (f_89 (f_83 l2 s) s))) 1099511627776 s) s))))))
theorem bl_90_6 {L c : Nat} {e : Nat → Nat} : ∀ (F : Nat) (l1 l2 l3 : Int) (s : Sg) (q : Int × Sg), j_90_6 F l1 l2 l3 s = some q → RuP 2 tb_m90 6 [some (.inr (.inr (some 39))), some (.inl l1), some (.inl l2), some (.inr (.inl l3)), none] [] (hp L s c e) (oI L c e q) := by
  intro F
  induction F with
  | zero =>
    intro l1 l2 l3 s q h
    rw [j_90_6] at h
    cases h
  | succ F ih =>
    intro l1 l2 l3 s q h
    rw [j_90_6] at h
    refine RuP.step (pc' := 7) (ls' := [some (.inr (.inr (some 39))), some (.inl l1), some (.inl l2), some (.inr (.inl l3)), none]) (st' := [.inl l2]) (h1 := hp L s c e) rfl ?_
    refine RuP.step (pc' := 8) (ls' := [some (.inr (.inr (some 39))), some (.inl l1), some (.inl l2), some (.inr (.inl l3)), none]) (st' := [.inr (.inr (some 39)), .inl l2]) (h1 := hp L s c e) rfl ?_
    refine RuP.step (pc' := 11) (ls' := [some (.inr (.inr (some 39))), some (.inl l1), some (.inl l2), some (.inr (.inl l3)), none]) (st' := [.inl (s 39 8), .inl l2]) (h1 := hp L s c e) rfl ?_
    by_cases h0 : s 39 8 ≤ l2
    · rw [if_pos h0] at h
      refine RuP.jy rfl h0 ?_
      exact bl_90_54 _ _ _ _ _ h
    · rw [if_neg h0] at h
      refine RuP.jn rfl h0 ?_
      refine RuP.step (pc' := 15) (ls' := [some (.inr (.inr (some 39))), some (.inl l1), some (.inl l2), some (.inr (.inl l3)), none]) (st' := [.inr (.inr (some 39))]) (h1 := hp L s c e) rfl ?_
      refine RuP.step (pc' := 16) (ls' := [some (.inr (.inr (some 39))), some (.inl l1), some (.inl l2), some (.inr (.inl l3)), none]) (st' := [.inl l2, .inr (.inr (some 39))]) (h1 := hp L s c e) rfl ?_
      obtain ⟨b1, h⟩ := gd_some h
      refine RuP.cI rfl (EvP.i ((ev_83 l2 b1).up (by decide))) ?_
      refine RuP.cI rfl (EvP.i ((ev_89 (f_83 l2 s)).up (by decide))) ?_
      refine RuP.step (pc' := 23) (ls' := [some (.inr (.inr (some 39))), some (.inl l1), some (.inl l2), some (.inr (.inl l3)), none]) (st' := [.inl (-1), .inl (f_89 (f_83 l2 s) s)]) (h1 := hp L s c e) rfl ?_
      by_cases h2 : f_89 (f_83 l2 s) s = (-1)
      · rw [if_pos h2] at h
        refine RuP.jy rfl h2 ?_
        exact bl_90_54 _ _ _ _ _ h
      · rw [if_neg h2] at h
        refine RuP.jn rfl h2 ?_
        refine RuP.step (pc' := 27) (ls' := [some (.inr (.inr (some 39))), some (.inl l1), some (.inl l2), some (.inr (.inl l3)), none]) (st' := [.inr (.inl l3)]) (h1 := hp L s c e) rfl ?_
        refine RuP.step (pc' := 30) (ls' := [some (.inr (.inr (some 39))), some (.inl l1), some (.inl l2), some (.inr (.inl l3)), none]) (st' := [.inr (.inl 16), .inr (.inl l3)]) (h1 := hp L s c e) rfl ?_
        refine RuP.step (pc' := 31) (ls' := [some (.inr (.inr (some 39))), some (.inl l1), some (.inl l2), some (.inr (.inl l3)), none]) (st' := [.inr (.inl (ax_w64 (l3 * 16)))]) (h1 := hp L s c e) rfl ?_
        refine RuP.step (pc' := 32) (ls' := [some (.inr (.inr (some 39))), some (.inl l1), some (.inl l2), some (.inr (.inl l3)), none]) (st' := [.inr (.inr (some 39)), .inr (.inl (ax_w64 (l3 * 16)))]) (h1 := hp L s c e) rfl ?_
        refine RuP.step (pc' := 33) (ls' := [some (.inr (.inr (some 39))), some (.inl l1), some (.inl l2), some (.inr (.inl l3)), none]) (st' := [.inl l2, .inr (.inr (some 39)), .inr (.inl (ax_w64 (l3 * 16)))]) (h1 := hp L s c e) rfl ?_
        obtain ⟨b3, h⟩ := gd_some h
        refine RuP.cI rfl (EvP.i ((ev_83 l2 b3).up (by decide))) ?_
        refine RuP.cI rfl (EvP.i ((ev_89 (f_83 l2 s)).up (by decide))) ?_
        refine RuP.step (pc' := 40) (ls' := [some (.inr (.inr (some 39))), some (.inl l1), some (.inl l2), some (.inr (.inl l3)), none]) (st' := [.inr (.inl (f_89 (f_83 l2 s) s)), .inr (.inl (ax_w64 (l3 * 16)))]) (h1 := hp L s c e) rfl ?_
        refine RuP.step (pc' := 41) (ls' := [some (.inr (.inr (some 39))), some (.inl l1), some (.inl l2), some (.inr (.inl l3)), none]) (st' := [.inr (.inl (ax_w64 ((ax_w64 (l3 * 16)) + (f_89 (f_83 l2 s) s))))]) (h1 := hp L s c e) rfl ?_
        refine RuP.step (pc' := 44) (ls' := [some (.inr (.inr (some 39))), some (.inl l1), some (.inl l2), some (.inr (.inl l3)), none]) (st' := [.inr (.inl 1099511627776), .inr (.inl (ax_w64 ((ax_w64 (l3 * 16)) + (f_89 (f_83 l2 s) s))))]) (h1 := hp L s c e) rfl ?_
        refine RuP.cJ rfl (EvP.j ((ev_293 (ax_w64 ((ax_w64 (l3 * 16)) + (f_89 (f_83 l2 s) s))) 1099511627776).up (by decide))) ?_
        refine RuP.step (pc' := 48) (ls' := [some (.inr (.inr (some 39))), some (.inl l1), some (.inl l2), some (.inr (.inl (f_293 (ax_w64 ((ax_w64 (l3 * 16)) + (f_89 (f_83 l2 s) s))) 1099511627776 s))), none]) (st' := []) (h1 := hp L s c e) rfl ?_
        refine RuP.step (pc' := 51) (ls' := [some (.inr (.inr (some 39))), some (.inl l1), some (.inl (ax_w32 (l2 + 1))), some (.inr (.inl (f_293 (ax_w64 ((ax_w64 (l3 * 16)) + (f_89 (f_83 l2 s) s))) 1099511627776 s))), none]) (st' := []) (h1 := hp L s c e) rfl ?_
        refine RuP.step (pc' := 6) (ls' := [some (.inr (.inr (some 39))), some (.inl l1), some (.inl (ax_w32 (l2 + 1))), some (.inr (.inl (f_293 (ax_w64 ((ax_w64 (l3 * 16)) + (f_89 (f_83 l2 s) s))) 1099511627776 s))), none]) (st' := []) (h1 := hp L s c e) rfl ?_
        exact ih _ _ _ _ _ h
noncomputable def f_90 (x0 : Int) (s : Sg) : Option (Int × Sg) :=
  j_90_6 FU x0 (ax_w32 (x0 + 2)) 0 s
theorem ev_90 {L c : Nat} {e : Nat → Nat} {s : Sg} {x0 : Int} {q : Int × Sg} (h : f_90 x0 s = some q) : EvP 3 90 [.inr (.inr (some 39)), .inl x0] (hp L s c e) (oI L c e q) := by
  unfold f_90 at h
  refine EvP.of (μ := tb_m90) (ls := [some (.inr (.inr (some 39))), some (.inl x0), none, none, none]) rfl (Nat.le_of_ble_eq_true rfl) rfl ?_
  refine RuP.step (pc' := 1) (ls' := [some (.inr (.inr (some 39))), some (.inl x0), none, none, none]) (st' := [.inl x0]) (h1 := hp L s c e) rfl ?_
  refine RuP.step (pc' := 2) (ls' := [some (.inr (.inr (some 39))), some (.inl x0), none, none, none]) (st' := [.inl 2, .inl x0]) (h1 := hp L s c e) rfl ?_
  refine RuP.step (pc' := 3) (ls' := [some (.inr (.inr (some 39))), some (.inl x0), none, none, none]) (st' := [.inl (ax_w32 (x0 + 2))]) (h1 := hp L s c e) rfl ?_
  refine RuP.step (pc' := 4) (ls' := [some (.inr (.inr (some 39))), some (.inl x0), some (.inl (ax_w32 (x0 + 2))), none, none]) (st' := []) (h1 := hp L s c e) rfl ?_
  refine RuP.step (pc' := 5) (ls' := [some (.inr (.inr (some 39))), some (.inl x0), some (.inl (ax_w32 (x0 + 2))), none, none]) (st' := [.inr (.inl 0)]) (h1 := hp L s c e) rfl ?_
  refine RuP.step (pc' := 6) (ls' := [some (.inr (.inr (some 39))), some (.inl x0), some (.inl (ax_w32 (x0 + 2))), some (.inr (.inl 0)), none]) (st' := []) (h1 := hp L s c e) rfl ?_
  exact bl_90_6 FU _ _ _ _ _ h
/-- MachineText$Lexemes.cutDecimal(I)I -/
noncomputable def j_91_51 (l1 l2 l3 : Int) (s : Sg) : Option (Int × Sg) :=
  (if ax_w32 (l2 - l1) ≤ 32 then
    (gd (g_78 2 l1 l2 l3 s) (
    ((some (f_78 2 l1 l2 l3 s)).bind fun q1 =>
    some (l2, q1))))
  else
    some ((-1), s))
theorem bl_91_51 {L c : Nat} {e : Nat → Nat} : ∀ (l1 l2 l3 : Int) (s : Sg) (q : Int × Sg), j_91_51 l1 l2 l3 s = some q → RuP 1 tb_m91 51 [some (.inr (.inr (some 39))), some (.inl l1), some (.inl l2), some (.inr (.inl l3)), none] [] (hp L s c e) (oI L c e q) := by
  intro l1 l2 l3 s q h
  unfold j_91_51 at h
  refine RuP.step (pc' := 52) (ls' := [some (.inr (.inr (some 39))), some (.inl l1), some (.inl l2), some (.inr (.inl l3)), none]) (st' := [.inl l2]) (h1 := hp L s c e) rfl ?_
  refine RuP.step (pc' := 53) (ls' := [some (.inr (.inr (some 39))), some (.inl l1), some (.inl l2), some (.inr (.inl l3)), none]) (st' := [.inl l1, .inl l2]) (h1 := hp L s c e) rfl ?_
  refine RuP.step (pc' := 54) (ls' := [some (.inr (.inr (some 39))), some (.inl l1), some (.inl l2), some (.inr (.inl l3)), none]) (st' := [.inl (ax_w32 (l2 - l1))]) (h1 := hp L s c e) rfl ?_
  refine RuP.step (pc' := 56) (ls' := [some (.inr (.inr (some 39))), some (.inl l1), some (.inl l2), some (.inr (.inl l3)), none]) (st' := [.inl 32, .inl (ax_w32 (l2 - l1))]) (h1 := hp L s c e) rfl ?_
  by_cases h0 : ax_w32 (l2 - l1) ≤ 32
  · rw [if_pos h0] at h
    refine RuP.jy rfl h0 ?_
    refine RuP.step (pc' := 62) (ls' := [some (.inr (.inr (some 39))), some (.inl l1), some (.inl l2), some (.inr (.inl l3)), none]) (st' := [.inr (.inr (some 39))]) (h1 := hp L s c e) rfl ?_
    refine RuP.step (pc' := 63) (ls' := [some (.inr (.inr (some 39))), some (.inl l1), some (.inl l2), some (.inr (.inl l3)), none]) (st' := [.inl 2, .inr (.inr (some 39))]) (h1 := hp L s c e) rfl ?_
    refine RuP.step (pc' := 64) (ls' := [some (.inr (.inr (some 39))), some (.inl l1), some (.inl l2), some (.inr (.inl l3)), none]) (st' := [.inl l1, .inl 2, .inr (.inr (some 39))]) (h1 := hp L s c e) rfl ?_
    refine RuP.step (pc' := 65) (ls' := [some (.inr (.inr (some 39))), some (.inl l1), some (.inl l2), some (.inr (.inl l3)), none]) (st' := [.inl l2, .inl l1, .inl 2, .inr (.inr (some 39))]) (h1 := hp L s c e) rfl ?_
    refine RuP.step (pc' := 66) (ls' := [some (.inr (.inr (some 39))), some (.inl l1), some (.inl l2), some (.inr (.inl l3)), none]) (st' := [.inr (.inl l3), .inl l2, .inl l1, .inl 2, .inr (.inr (some 39))]) (h1 := hp L s c e) rfl ?_
    obtain ⟨b1, h⟩ := gd_some h
    obtain ⟨q1, h1, h⟩ := bd_some h
    refine RuP.cVe h1 rfl (EvP.v ((ev_78 2 l1 l2 l3 b1).up (by decide))) ?_
    refine RuP.step (pc' := 70) (ls' := [some (.inr (.inr (some 39))), some (.inl l1), some (.inl l2), some (.inr (.inl l3)), none]) (st' := [.inl l2]) (h1 := hp L q1 c e) rfl ?_
    cases h
    exact RuP.dI rfl
  · rw [if_neg h0] at h
    refine RuP.jn rfl h0 ?_
    refine RuP.step (pc' := 60) (ls' := [some (.inr (.inr (some 39))), some (.inl l1), some (.inl l2), some (.inr (.inl l3)), none]) (st' := [.inl (-1)]) (h1 := hp L s c e) rfl ?_
    cases h
    exact RuP.dI rfl
noncomputable def j_91_4 : Nat → Int → Int → Int → Sg → Option (Int × Sg)
  | 0, _, _, _, _ => none
  | F + 1, l1, l2, l3, s =>
    (if s 39 8 ≤ l2 then
      j_91_51 l1 l2 l3 s
    else
      (gd (g_83 l2 s) (
      (if f_87 (f_83 l2 s) s = 0 then
        j_91_51 l1 l2 l3 s
      else
        (gd (g_83 l2 s) (
        (j_91_4 F) l1 (ax_w32 (l2 + 1)) (f_293 (ax_w64 ((ax_w64 (l3 * 10)) + (ax_w32 ((f_83 l2 s) - 48)))) 1099511627776 s) s))))))
theorem bl_91_4 {L c : Nat} {e : Nat → Nat} : ∀ (F : Nat) (l1 l2 l3 : Int) (s : Sg) (q : Int × Sg), j_91_4 F l1 l2 l3 s = some q → RuP 1 tb_m91 4 [some (.inr (.inr (some 39))), some (.inl l1), some (.inl l2), some (.inr (.inl l3)), none] [] (hp L s c e) (oI L c e q) := by
  intro F
  induction F with
  | zero =>
    intro l1 l2 l3 s q h
    rw [j_91_4] at h
    cases h
  | succ F ih =>
    intro l1 l2 l3 s q h
    rw [j_91_4] at h
    refine RuP.step (pc' := 5) (ls' := [some (.inr (.inr (some 39))), some (.inl l1), some (.inl l2), some (.inr (.inl l3)), none]) (st' := [.inl l2]) (h1 := hp L s c e) rfl ?_
    refine RuP.step (pc' := 6) (ls' := [some (.inr (.inr (some 39))), some (.inl l1), some (.inl l2), some (.inr (.inl l3)), none]) (st' := [.inr (.inr (some 39)), .inl l2]) (h1 := hp L s c e) rfl ?_
    refine RuP.step (pc' := 9) (ls' := [some (.inr (.inr (some 39))), some (.inl l1), some (.inl l2), some (.inr (.inl l3)), none]) (st' := [.inl (s 39 8), .inl l2]) (h1 := hp L s c e) rfl ?_
    by_cases h0 : s 39 8 ≤ l2
    · rw [if_pos h0] at h
      refine RuP.jy rfl h0 ?_
      exact bl_91_51 _ _ _ _ _ h
    · rw [if_neg h0] at h
      refine RuP.jn rfl h0 ?_
      refine RuP.step (pc' := 13) (ls' := [some (.inr (.inr (some 39))), some (.inl l1), some (.inl l2), some (.inr (.inl l3)), none]) (st' := [.inr (.inr (some 39))]) (h1 := hp L s c e) rfl ?_
      refine RuP.step (pc' := 14) (ls' := [some (.inr (.inr (some 39))), some (.inl l1), some (.inl l2), some (.inr (.inl l3)), none]) (st' := [.inl l2, .inr (.inr (some 39))]) (h1 := hp L s c e) rfl ?_
      obtain ⟨b1, h⟩ := gd_some h
      refine RuP.cI rfl (EvP.i ((ev_83 l2 b1).up (by decide))) ?_
      refine RuP.cI rfl (EvP.i ((ev_87 (f_83 l2 s)).up (by decide))) ?_
      by_cases h2 : f_87 (f_83 l2 s) s = 0
      · rw [if_pos h2] at h
        refine RuP.jy rfl h2 ?_
        exact bl_91_51 _ _ _ _ _ h
      · rw [if_neg h2] at h
        refine RuP.jn rfl h2 ?_
        refine RuP.step (pc' := 24) (ls' := [some (.inr (.inr (some 39))), some (.inl l1), some (.inl l2), some (.inr (.inl l3)), none]) (st' := [.inr (.inl l3)]) (h1 := hp L s c e) rfl ?_
        refine RuP.step (pc' := 27) (ls' := [some (.inr (.inr (some 39))), some (.inl l1), some (.inl l2), some (.inr (.inl l3)), none]) (st' := [.inr (.inl 10), .inr (.inl l3)]) (h1 := hp L s c e) rfl ?_
        refine RuP.step (pc' := 28) (ls' := [some (.inr (.inr (some 39))), some (.inl l1), some (.inl l2), some (.inr (.inl l3)), none]) (st' := [.inr (.inl (ax_w64 (l3 * 10)))]) (h1 := hp L s c e) rfl ?_
        refine RuP.step (pc' := 29) (ls' := [some (.inr (.inr (some 39))), some (.inl l1), some (.inl l2), some (.inr (.inl l3)), none]) (st' := [.inr (.inr (some 39)), .inr (.inl (ax_w64 (l3 * 10)))]) (h1 := hp L s c e) rfl ?_
        refine RuP.step (pc' := 30) (ls' := [some (.inr (.inr (some 39))), some (.inl l1), some (.inl l2), some (.inr (.inl l3)), none]) (st' := [.inl l2, .inr (.inr (some 39)), .inr (.inl (ax_w64 (l3 * 10)))]) (h1 := hp L s c e) rfl ?_
        obtain ⟨b3, h⟩ := gd_some h
        refine RuP.cI rfl (EvP.i ((ev_83 l2 b3).up (by decide))) ?_
        refine RuP.step (pc' := 35) (ls' := [some (.inr (.inr (some 39))), some (.inl l1), some (.inl l2), some (.inr (.inl l3)), none]) (st' := [.inl 48, .inl (f_83 l2 s), .inr (.inl (ax_w64 (l3 * 10)))]) (h1 := hp L s c e) rfl ?_
        refine RuP.step (pc' := 36) (ls' := [some (.inr (.inr (some 39))), some (.inl l1), some (.inl l2), some (.inr (.inl l3)), none]) (st' := [.inl (ax_w32 ((f_83 l2 s) - 48)), .inr (.inl (ax_w64 (l3 * 10)))]) (h1 := hp L s c e) rfl ?_
        refine RuP.step (pc' := 37) (ls' := [some (.inr (.inr (some 39))), some (.inl l1), some (.inl l2), some (.inr (.inl l3)), none]) (st' := [.inr (.inl (ax_w32 ((f_83 l2 s) - 48))), .inr (.inl (ax_w64 (l3 * 10)))]) (h1 := hp L s c e) rfl ?_
        refine RuP.step (pc' := 38) (ls' := [some (.inr (.inr (some 39))), some (.inl l1), some (.inl l2), some (.inr (.inl l3)), none]) (st' := [.inr (.inl (ax_w64 ((ax_w64 (l3 * 10)) + (ax_w32 ((f_83 l2 s) - 48)))))]) (h1 := hp L s c e) rfl ?_
        refine RuP.step (pc' := 41) (ls' := [some (.inr (.inr (some 39))), some (.inl l1), some (.inl l2), some (.inr (.inl l3)), none]) (st' := [.inr (.inl 1099511627776), .inr (.inl (ax_w64 ((ax_w64 (l3 * 10)) + (ax_w32 ((f_83 l2 s) - 48)))))]) (h1 := hp L s c e) rfl ?_
        refine RuP.cJ rfl (EvP.j ((ev_293 (ax_w64 ((ax_w64 (l3 * 10)) + (ax_w32 ((f_83 l2 s) - 48)))) 1099511627776).up (by decide))) ?_
        refine RuP.step (pc' := 45) (ls' := [some (.inr (.inr (some 39))), some (.inl l1), some (.inl l2), some (.inr (.inl (f_293 (ax_w64 ((ax_w64 (l3 * 10)) + (ax_w32 ((f_83 l2 s) - 48)))) 1099511627776 s))), none]) (st' := []) (h1 := hp L s c e) rfl ?_
        refine RuP.step (pc' := 48) (ls' := [some (.inr (.inr (some 39))), some (.inl l1), some (.inl (ax_w32 (l2 + 1))), some (.inr (.inl (f_293 (ax_w64 ((ax_w64 (l3 * 10)) + (ax_w32 ((f_83 l2 s) - 48)))) 1099511627776 s))), none]) (st' := []) (h1 := hp L s c e) rfl ?_
        refine RuP.step (pc' := 4) (ls' := [some (.inr (.inr (some 39))), some (.inl l1), some (.inl (ax_w32 (l2 + 1))), some (.inr (.inl (f_293 (ax_w64 ((ax_w64 (l3 * 10)) + (ax_w32 ((f_83 l2 s) - 48)))) 1099511627776 s))), none]) (st' := []) (h1 := hp L s c e) rfl ?_
        exact ih _ _ _ _ _ h
noncomputable def f_91 (x0 : Int) (s : Sg) : Option (Int × Sg) :=
  j_91_4 FU x0 x0 0 s
theorem ev_91 {L c : Nat} {e : Nat → Nat} {s : Sg} {x0 : Int} {q : Int × Sg} (h : f_91 x0 s = some q) : EvP 2 91 [.inr (.inr (some 39)), .inl x0] (hp L s c e) (oI L c e q) := by
  unfold f_91 at h
  refine EvP.of (μ := tb_m91) (ls := [some (.inr (.inr (some 39))), some (.inl x0), none, none, none]) rfl (Nat.le_of_ble_eq_true rfl) rfl ?_
  refine RuP.step (pc' := 1) (ls' := [some (.inr (.inr (some 39))), some (.inl x0), none, none, none]) (st' := [.inl x0]) (h1 := hp L s c e) rfl ?_
  refine RuP.step (pc' := 2) (ls' := [some (.inr (.inr (some 39))), some (.inl x0), some (.inl x0), none, none]) (st' := []) (h1 := hp L s c e) rfl ?_
  refine RuP.step (pc' := 3) (ls' := [some (.inr (.inr (some 39))), some (.inl x0), some (.inl x0), none, none]) (st' := [.inr (.inl 0)]) (h1 := hp L s c e) rfl ?_
  refine RuP.step (pc' := 4) (ls' := [some (.inr (.inr (some 39))), some (.inl x0), some (.inl x0), some (.inr (.inl 0)), none]) (st' := []) (h1 := hp L s c e) rfl ?_
  exact bl_91_4 FU _ _ _ _ _ h
/-- MachineText$Lexemes.expect(I)V -/
noncomputable def f_92 (x0 : Int) (s : Sg) : Option (Sum (Sg) (Nat × Sg)) :=
  (if s 39 11 = x0 then
    (gd (g_94 s) (
    ((some (f_94 s)).bind fun q1 =>
    some (.inl q1))))
  else
    some (.inr (15, s)))
theorem ev_92 {L c : Nat} {e : Nat → Nat} {s : Sg} {x0 : Int} {q : Sum (Sg) (Nat × Sg)} (h : f_92 x0 s = some q) : EvP 2 92 [.inr (.inr (some 39)), .inl x0] (hp L s c e) (oX L c (oV L c e) q) := by
  unfold f_92 at h
  refine EvP.of (μ := tb_m92) (ls := [some (.inr (.inr (some 39))), some (.inl x0)]) rfl (Nat.le_of_ble_eq_true rfl) rfl ?_
  refine RuP.step (pc' := 1) (ls' := [some (.inr (.inr (some 39))), some (.inl x0)]) (st' := [.inr (.inr (some 39))]) (h1 := hp L s c e) rfl ?_
  refine RuP.step (pc' := 4) (ls' := [some (.inr (.inr (some 39))), some (.inl x0)]) (st' := [.inl (s 39 11)]) (h1 := hp L s c e) rfl ?_
  refine RuP.step (pc' := 5) (ls' := [some (.inr (.inr (some 39))), some (.inl x0)]) (st' := [.inl x0, .inl (s 39 11)]) (h1 := hp L s c e) rfl ?_
  by_cases h0 : s 39 11 = x0
  · rw [if_pos h0] at h
    refine RuP.jy rfl h0 ?_
    refine RuP.step (pc' := 19) (ls' := [some (.inr (.inr (some 39))), some (.inl x0)]) (st' := [.inr (.inr (some 39))]) (h1 := hp L s c e) rfl ?_
    obtain ⟨b1, h⟩ := gd_some h
    obtain ⟨q1, h1, h⟩ := bd_some h
    refine RuP.cVe h1 rfl (EvP.v ((ev_94  b1).up (by decide))) ?_
    cases h
    exact RuP.dV rfl
  · rw [if_neg h0] at h
    refine RuP.jn rfl h0 ?_
    cases h
    exact RuP.thr (m := 9) (p2 := 14) rfl (fun _ => rfl) (fun _ => rfl) (fun _ _ => rfl) (Nat.le_of_ble_eq_true rfl) rfl rfl
/-- MachineText$Lexemes.number(II)I -/
noncomputable def j_93_57 (l3 : Int) (s : Sg) : Option (Sum (Int × Sg) (Nat × Sg)) :=
  (gd (g_94 s) (
  ((some (f_94 s)).bind fun q2 =>
  some (.inl (ax_w32 (f_293 l3 1073741824 q2), q2)))))
theorem bl_93_57 {L c : Nat} {e : Nat → Nat} : ∀ (z1 z2 : Int) (l3 : Int) (s : Sg) (q : Sum (Int × Sg) (Nat × Sg)), j_93_57 l3 s = some q → RuP 1 tb_m93 57 [some (.inr (.inr (some 39))), some (.inl z1), some (.inl z2), some (.inr (.inl l3)), none] [] (hp L s c e) (oX L c (oI L c e) q) := by
  intro z1 z2 l3 s q h
  unfold j_93_57 at h
  refine RuP.step (pc' := 58) (ls' := [some (.inr (.inr (some 39))), some (.inl z1), some (.inl z2), some (.inr (.inl l3)), none]) (st' := [.inr (.inr (some 39))]) (h1 := hp L s c e) rfl ?_
  obtain ⟨b0, h⟩ := gd_some h
  obtain ⟨q2, h1, h⟩ := bd_some h
  refine RuP.cVe h1 rfl (EvP.v ((ev_94  b0).up (by decide))) ?_
  refine RuP.step (pc' := 62) (ls' := [some (.inr (.inr (some 39))), some (.inl z1), some (.inl z2), some (.inr (.inl l3)), none]) (st' := [.inr (.inl l3)]) (h1 := hp L q2 c e) rfl ?_
  refine RuP.step (pc' := 65) (ls' := [some (.inr (.inr (some 39))), some (.inl z1), some (.inl z2), some (.inr (.inl l3)), none]) (st' := [.inr (.inl 1073741824), .inr (.inl l3)]) (h1 := hp L q2 c e) rfl ?_
  refine RuP.cJ rfl (EvP.j ((ev_293 l3 1073741824).up (by decide))) ?_
  refine RuP.step (pc' := 69) (ls' := [some (.inr (.inr (some 39))), some (.inl z1), some (.inl z2), some (.inr (.inl l3)), none]) (st' := [.inl (ax_w32 (f_293 l3 1073741824 q2))]) (h1 := hp L q2 c e) rfl ?_
  cases h
  exact RuP.dI rfl
noncomputable def j_93_41 (l3 : Int) (s : Sg) : Option (Sum (Int × Sg) (Nat × Sg)) :=
  (gd (g_80 (s 39 10) s) (
  (gd (g_71 4 (f_80 (s 39 10) s) s) (
  ((some (f_71 4 (f_80 (s 39 10) s) s)).bind fun q1 =>
  j_93_57 l3 q1)))))
theorem bl_93_41 {L c : Nat} {e : Nat → Nat} : ∀ (z1 z2 : Int) (l3 : Int) (s : Sg) (q : Sum (Int × Sg) (Nat × Sg)), j_93_41 l3 s = some q → RuP 1 tb_m93 41 [some (.inr (.inr (some 39))), some (.inl z1), some (.inl z2), some (.inr (.inl l3)), none] [] (hp L s c e) (oX L c (oI L c e) q) := by
  intro z1 z2 l3 s q h
  unfold j_93_41 at h
  refine RuP.step (pc' := 42) (ls' := [some (.inr (.inr (some 39))), some (.inl z1), some (.inl z2), some (.inr (.inl l3)), none]) (st' := [.inr (.inr (some 39))]) (h1 := hp L s c e) rfl ?_
  refine RuP.step (pc' := 45) (ls' := [some (.inr (.inr (some 39))), some (.inl z1), some (.inl z2), some (.inr (.inl l3)), none]) (st' := [.inr (.inr (some 29))]) (h1 := hp L s c e) rfl ?_
  refine RuP.step (pc' := 46) (ls' := [some (.inr (.inr (some 39))), some (.inl z1), some (.inl z2), some (.inr (.inl l3)), none]) (st' := [.inl 4, .inr (.inr (some 29))]) (h1 := hp L s c e) rfl ?_
  refine RuP.step (pc' := 47) (ls' := [some (.inr (.inr (some 39))), some (.inl z1), some (.inl z2), some (.inr (.inl l3)), none]) (st' := [.inr (.inr (some 39)), .inl 4, .inr (.inr (some 29))]) (h1 := hp L s c e) rfl ?_
  refine RuP.step (pc' := 48) (ls' := [some (.inr (.inr (some 39))), some (.inl z1), some (.inl z2), some (.inr (.inl l3)), none]) (st' := [.inr (.inr (some 39)), .inr (.inr (some 39)), .inl 4, .inr (.inr (some 29))]) (h1 := hp L s c e) rfl ?_
  refine RuP.step (pc' := 51) (ls' := [some (.inr (.inr (some 39))), some (.inl z1), some (.inl z2), some (.inr (.inl l3)), none]) (st' := [.inl (s 39 10), .inr (.inr (some 39)), .inl 4, .inr (.inr (some 29))]) (h1 := hp L s c e) rfl ?_
  obtain ⟨b0, h⟩ := gd_some h
  refine RuP.cI rfl (EvP.i ((ev_80 (s 39 10) b0).up (by decide))) ?_
  obtain ⟨b1, h⟩ := gd_some h
  obtain ⟨q1, h1, h⟩ := bd_some h
  refine RuP.cVe h1 rfl (EvP.v ((ev_71 4 (f_80 (s 39 10) s) b1).up (by decide))) ?_
  exact bl_93_57 _ _ _ _ _ h
noncomputable def f_93 (x0 x1 : Int) (s : Sg) : Option (Sum (Int × Sg) (Nat × Sg)) :=
  (if s 39 11 = 2 then
    (gd (g_81 (s 39 10) s) (
    (if ax_cmp (f_81 (s 39 10) s) x0 < 0 then
      j_93_41 (f_81 (s 39 10) s) s
    else
      (if ax_cmp (f_81 (s 39 10) s) x1 ≤ 0 then
        j_93_57 (f_81 (s 39 10) s) s
      else
        j_93_41 (f_81 (s 39 10) s) s))))
  else
    some (.inr (15, s)))
theorem ev_93 {L c : Nat} {e : Nat → Nat} {s : Sg} {x0 x1 : Int} {q : Sum (Int × Sg) (Nat × Sg)} (h : f_93 x0 x1 s = some q) : EvP 2 93 [.inr (.inr (some 39)), .inl x0, .inl x1] (hp L s c e) (oX L c (oI L c e) q) := by
  unfold f_93 at h
  refine EvP.of (μ := tb_m93) (ls := [some (.inr (.inr (some 39))), some (.inl x0), some (.inl x1), none, none]) rfl (Nat.le_of_ble_eq_true rfl) rfl ?_
  refine RuP.step (pc' := 1) (ls' := [some (.inr (.inr (some 39))), some (.inl x0), some (.inl x1), none, none]) (st' := [.inr (.inr (some 39))]) (h1 := hp L s c e) rfl ?_
  refine RuP.step (pc' := 4) (ls' := [some (.inr (.inr (some 39))), some (.inl x0), some (.inl x1), none, none]) (st' := [.inl (s 39 11)]) (h1 := hp L s c e) rfl ?_
  refine RuP.step (pc' := 5) (ls' := [some (.inr (.inr (some 39))), some (.inl x0), some (.inl x1), none, none]) (st' := [.inl 2, .inl (s 39 11)]) (h1 := hp L s c e) rfl ?_
  by_cases h0 : s 39 11 = 2
  · rw [if_pos h0] at h
    refine RuP.jy rfl h0 ?_
    refine RuP.step (pc' := 19) (ls' := [some (.inr (.inr (some 39))), some (.inl x0), some (.inl x1), none, none]) (st' := [.inr (.inr (some 39))]) (h1 := hp L s c e) rfl ?_
    refine RuP.step (pc' := 20) (ls' := [some (.inr (.inr (some 39))), some (.inl x0), some (.inl x1), none, none]) (st' := [.inr (.inr (some 39)), .inr (.inr (some 39))]) (h1 := hp L s c e) rfl ?_
    refine RuP.step (pc' := 23) (ls' := [some (.inr (.inr (some 39))), some (.inl x0), some (.inl x1), none, none]) (st' := [.inl (s 39 10), .inr (.inr (some 39))]) (h1 := hp L s c e) rfl ?_
    obtain ⟨b1, h⟩ := gd_some h
    refine RuP.cJ rfl (EvP.j ((ev_81 (s 39 10) b1).up (by decide))) ?_
    refine RuP.step (pc' := 27) (ls' := [some (.inr (.inr (some 39))), some (.inl x0), some (.inl x1), some (.inr (.inl (f_81 (s 39 10) s))), none]) (st' := []) (h1 := hp L s c e) rfl ?_
    refine RuP.step (pc' := 28) (ls' := [some (.inr (.inr (some 39))), some (.inl x0), some (.inl x1), some (.inr (.inl (f_81 (s 39 10) s))), none]) (st' := [.inr (.inl (f_81 (s 39 10) s))]) (h1 := hp L s c e) rfl ?_
    refine RuP.step (pc' := 29) (ls' := [some (.inr (.inr (some 39))), some (.inl x0), some (.inl x1), some (.inr (.inl (f_81 (s 39 10) s))), none]) (st' := [.inl x0, .inr (.inl (f_81 (s 39 10) s))]) (h1 := hp L s c e) rfl ?_
    refine RuP.step (pc' := 30) (ls' := [some (.inr (.inr (some 39))), some (.inl x0), some (.inl x1), some (.inr (.inl (f_81 (s 39 10) s))), none]) (st' := [.inr (.inl x0), .inr (.inl (f_81 (s 39 10) s))]) (h1 := hp L s c e) rfl ?_
    refine RuP.step (pc' := 31) (ls' := [some (.inr (.inr (some 39))), some (.inl x0), some (.inl x1), some (.inr (.inl (f_81 (s 39 10) s))), none]) (st' := [.inl (ax_cmp (f_81 (s 39 10) s) x0)]) (h1 := hp L s c e) rfl ?_
    by_cases h2 : ax_cmp (f_81 (s 39 10) s) x0 < 0
    · rw [if_pos h2] at h
      refine RuP.jy rfl h2 ?_
      exact bl_93_41 _ _ _ _ _ h
    · rw [if_neg h2] at h
      refine RuP.jn rfl h2 ?_
      refine RuP.step (pc' := 35) (ls' := [some (.inr (.inr (some 39))), some (.inl x0), some (.inl x1), some (.inr (.inl (f_81 (s 39 10) s))), none]) (st' := [.inr (.inl (f_81 (s 39 10) s))]) (h1 := hp L s c e) rfl ?_
      refine RuP.step (pc' := 36) (ls' := [some (.inr (.inr (some 39))), some (.inl x0), some (.inl x1), some (.inr (.inl (f_81 (s 39 10) s))), none]) (st' := [.inl x1, .inr (.inl (f_81 (s 39 10) s))]) (h1 := hp L s c e) rfl ?_
      refine RuP.step (pc' := 37) (ls' := [some (.inr (.inr (some 39))), some (.inl x0), some (.inl x1), some (.inr (.inl (f_81 (s 39 10) s))), none]) (st' := [.inr (.inl x1), .inr (.inl (f_81 (s 39 10) s))]) (h1 := hp L s c e) rfl ?_
      refine RuP.step (pc' := 38) (ls' := [some (.inr (.inr (some 39))), some (.inl x0), some (.inl x1), some (.inr (.inl (f_81 (s 39 10) s))), none]) (st' := [.inl (ax_cmp (f_81 (s 39 10) s) x1)]) (h1 := hp L s c e) rfl ?_
      by_cases h3 : ax_cmp (f_81 (s 39 10) s) x1 ≤ 0
      · rw [if_pos h3] at h
        refine RuP.jy rfl h3 ?_
        exact bl_93_57 _ _ _ _ _ h
      · rw [if_neg h3] at h
        refine RuP.jn rfl h3 ?_
        exact bl_93_41 _ _ _ _ _ h
  · rw [if_neg h0] at h
    refine RuP.jn rfl h0 ?_
    cases h
    exact RuP.thr (m := 10) (p2 := 14) rfl (fun _ => rfl) (fun _ => rfl) (fun _ _ => rfl) (Nat.le_of_ble_eq_true rfl) rfl rfl
/-- MachineText$Lexemes.name()I -/
noncomputable def f_96 (s : Sg) : Option (Sum (Int × Sg) (Nat × Sg)) :=
  (if s 39 11 = 1 then
    (gd (g_97 (s 39 10) s) (
    (gd (g_94 s) (
    ((some (f_94 s)).bind fun q1 =>
    some (.inl (f_97 (s 39 10) s, q1)))))))
  else
    some (.inr (15, s)))
theorem ev_96 {L c : Nat} {e : Nat → Nat} {s : Sg} {q : Sum (Int × Sg) (Nat × Sg)} (h : f_96 s = some q) : EvP 2 96 [.inr (.inr (some 39))] (hp L s c e) (oX L c (oI L c e) q) := by
  unfold f_96 at h
  refine EvP.of (μ := tb_m96) (ls := [some (.inr (.inr (some 39))), none]) rfl (Nat.le_of_ble_eq_true rfl) rfl ?_
  refine RuP.step (pc' := 1) (ls' := [some (.inr (.inr (some 39))), none]) (st' := [.inr (.inr (some 39))]) (h1 := hp L s c e) rfl ?_
  refine RuP.step (pc' := 4) (ls' := [some (.inr (.inr (some 39))), none]) (st' := [.inl (s 39 11)]) (h1 := hp L s c e) rfl ?_
  refine RuP.step (pc' := 5) (ls' := [some (.inr (.inr (some 39))), none]) (st' := [.inl 1, .inl (s 39 11)]) (h1 := hp L s c e) rfl ?_
  by_cases h0 : s 39 11 = 1
  · rw [if_pos h0] at h
    refine RuP.jy rfl h0 ?_
    refine RuP.step (pc' := 19) (ls' := [some (.inr (.inr (some 39))), none]) (st' := [.inr (.inr (some 39))]) (h1 := hp L s c e) rfl ?_
    refine RuP.step (pc' := 20) (ls' := [some (.inr (.inr (some 39))), none]) (st' := [.inr (.inr (some 39)), .inr (.inr (some 39))]) (h1 := hp L s c e) rfl ?_
    refine RuP.step (pc' := 23) (ls' := [some (.inr (.inr (some 39))), none]) (st' := [.inl (s 39 10), .inr (.inr (some 39))]) (h1 := hp L s c e) rfl ?_
    obtain ⟨b1, h⟩ := gd_some h
    refine RuP.cI rfl (EvP.i ((ev_97 (s 39 10) b1).up (by decide))) ?_
    refine RuP.step (pc' := 27) (ls' := [some (.inr (.inr (some 39))), some (.inl (f_97 (s 39 10) s))]) (st' := []) (h1 := hp L s c e) rfl ?_
    refine RuP.step (pc' := 28) (ls' := [some (.inr (.inr (some 39))), some (.inl (f_97 (s 39 10) s))]) (st' := [.inr (.inr (some 39))]) (h1 := hp L s c e) rfl ?_
    obtain ⟨b2, h⟩ := gd_some h
    obtain ⟨q1, h1, h⟩ := bd_some h
    refine RuP.cVe h1 rfl (EvP.v ((ev_94  b2).up (by decide))) ?_
    refine RuP.step (pc' := 32) (ls' := [some (.inr (.inr (some 39))), some (.inl (f_97 (s 39 10) s))]) (st' := [.inl (f_97 (s 39 10) s)]) (h1 := hp L q1 c e) rfl ?_
    cases h
    exact RuP.dI rfl
  · rw [if_neg h0] at h
    refine RuP.jn rfl h0 ?_
    cases h
    exact RuP.thr (m := 12) (p2 := 14) rfl (fun _ => rfl) (fun _ => rfl) (fun _ _ => rfl) (Nat.le_of_ble_eq_true rfl) rfl rfl
/-- MachineText$Lexemes.isBinary(I)Z -/
noncomputable def j_98_42 (k8 : (Int → Int → Int → Sg → Option Int)) (l1 l2 l3 : Int) (s : Sg) : Option Int :=
  k8 l1 l2 (ax_w32 (l3 + 1)) s
theorem bl_98_42 {L c : Nat} {e : Nat → Nat} {k8 : (Int → Int → Int → Sg → Option Int)} (hk8 : ∀ (d4 : Option ax_V) (l1 l2 l3 : Int) (s : Sg) (q : Int), k8 l1 l2 l3 s = some q → RuP 1 tb_m98 8 [some (.inr (.inr (some 39))), some (.inl l1), some (.inl l2), some (.inl l3), d4] [] (hp L s c e) (oI L c e (q, s))) : ∀ (z4 : Int) (l1 l2 l3 : Int) (s : Sg) (q : Int), j_98_42 k8 l1 l2 l3 s = some q → RuP 1 tb_m98 42 [some (.inr (.inr (some 39))), some (.inl l1), some (.inl l2), some (.inl l3), some (.inl z4)] [] (hp L s c e) (oI L c e (q, s)) := by
  intro z4 l1 l2 l3 s q h
  unfold j_98_42 at h
  refine RuP.step (pc' := 45) (ls' := [some (.inr (.inr (some 39))), some (.inl l1), some (.inl l2), some (.inl (ax_w32 (l3 + 1))), some (.inl z4)]) (st' := []) (h1 := hp L s c e) rfl ?_
  refine RuP.step (pc' := 8) (ls' := [some (.inr (.inr (some 39))), some (.inl l1), some (.inl l2), some (.inl (ax_w32 (l3 + 1))), some (.inl z4)]) (st' := []) (h1 := hp L s c e) rfl ?_
  exact hk8 _ _ _ _ _ _ h
noncomputable def j_98_8 : Nat → Int → Int → Int → Sg → Option Int
  | 0, _, _, _, _ => none
  | F + 1, l1, l2, l3, s =>
    (gd (g_82 l1 s) (
    (if f_82 l1 s ≤ l3 then
      some 1
    else
      (gd (g_83 (ax_w32 (l2 + l3)) s) (
      (if f_83 (ax_w32 (l2 + l3)) s = 48 then
        j_98_42 (j_98_8 F) l1 l2 l3 s
      else
        (if f_83 (ax_w32 (l2 + l3)) s = 49 then
          j_98_42 (j_98_8 F) l1 l2 l3 s
        else
          some 0)))))))
theorem bl_98_8 {L c : Nat} {e : Nat → Nat} : ∀ (F : Nat) (d4 : Option ax_V) (l1 l2 l3 : Int) (s : Sg) (q : Int), j_98_8 F l1 l2 l3 s = some q → RuP 1 tb_m98 8 [some (.inr (.inr (some 39))), some (.inl l1), some (.inl l2), some (.inl l3), d4] [] (hp L s c e) (oI L c e (q, s)) := by
  intro F
  induction F with
  | zero =>
    intro d4 l1 l2 l3 s q h
    rw [j_98_8] at h
    cases h
  | succ F ih =>
    intro d4 l1 l2 l3 s q h
    rw [j_98_8] at h
    refine RuP.step (pc' := 9) (ls' := [some (.inr (.inr (some 39))), some (.inl l1), some (.inl l2), some (.inl l3), d4]) (st' := [.inl l3]) (h1 := hp L s c e) rfl ?_
    refine RuP.step (pc' := 10) (ls' := [some (.inr (.inr (some 39))), some (.inl l1), some (.inl l2), some (.inl l3), d4]) (st' := [.inr (.inr (some 39)), .inl l3]) (h1 := hp L s c e) rfl ?_
    refine RuP.step (pc' := 11) (ls' := [some (.inr (.inr (some 39))), some (.inl l1), some (.inl l2), some (.inl l3), d4]) (st' := [.inl l1, .inr (.inr (some 39)), .inl l3]) (h1 := hp L s c e) rfl ?_
    obtain ⟨b0, h⟩ := gd_some h
    refine RuP.cI rfl (EvP.i ((ev_82 l1 b0).up (by decide))) ?_
    by_cases h1 : f_82 l1 s ≤ l3
    · rw [if_pos h1] at h
      refine RuP.jy rfl h1 ?_
      refine RuP.step (pc' := 49) (ls' := [some (.inr (.inr (some 39))), some (.inl l1), some (.inl l2), some (.inl l3), d4]) (st' := [.inl 1]) (h1 := hp L s c e) rfl ?_
      cases h
      exact RuP.dI rfl
    · rw [if_neg h1] at h
      refine RuP.jn rfl h1 ?_
      refine RuP.step (pc' := 18) (ls' := [some (.inr (.inr (some 39))), some (.inl l1), some (.inl l2), some (.inl l3), d4]) (st' := [.inr (.inr (some 39))]) (h1 := hp L s c e) rfl ?_
      refine RuP.step (pc' := 19) (ls' := [some (.inr (.inr (some 39))), some (.inl l1), some (.inl l2), some (.inl l3), d4]) (st' := [.inl l2, .inr (.inr (some 39))]) (h1 := hp L s c e) rfl ?_
      refine RuP.step (pc' := 20) (ls' := [some (.inr (.inr (some 39))), some (.inl l1), some (.inl l2), some (.inl l3), d4]) (st' := [.inl l3, .inl l2, .inr (.inr (some 39))]) (h1 := hp L s c e) rfl ?_
      refine RuP.step (pc' := 21) (ls' := [some (.inr (.inr (some 39))), some (.inl l1), some (.inl l2), some (.inl l3), d4]) (st' := [.inl (ax_w32 (l2 + l3)), .inr (.inr (some 39))]) (h1 := hp L s c e) rfl ?_
      obtain ⟨b2, h⟩ := gd_some h
      refine RuP.cI rfl (EvP.i ((ev_83 (ax_w32 (l2 + l3)) b2).up (by decide))) ?_
      refine RuP.step (pc' := 26) (ls' := [some (.inr (.inr (some 39))), some (.inl l1), some (.inl l2), some (.inl l3), some (.inl (f_83 (ax_w32 (l2 + l3)) s))]) (st' := []) (h1 := hp L s c e) rfl ?_
      refine RuP.step (pc' := 28) (ls' := [some (.inr (.inr (some 39))), some (.inl l1), some (.inl l2), some (.inl l3), some (.inl (f_83 (ax_w32 (l2 + l3)) s))]) (st' := [.inl (f_83 (ax_w32 (l2 + l3)) s)]) (h1 := hp L s c e) rfl ?_
      refine RuP.step (pc' := 30) (ls' := [some (.inr (.inr (some 39))), some (.inl l1), some (.inl l2), some (.inl l3), some (.inl (f_83 (ax_w32 (l2 + l3)) s))]) (st' := [.inl 48, .inl (f_83 (ax_w32 (l2 + l3)) s)]) (h1 := hp L s c e) rfl ?_
      by_cases h3 : f_83 (ax_w32 (l2 + l3)) s = 48
      · rw [if_pos h3] at h
        refine RuP.jy rfl h3 ?_
        exact bl_98_42 ih _ _ _ _ _ _ h
      · rw [if_neg h3] at h
        refine RuP.jn rfl h3 ?_
        refine RuP.step (pc' := 35) (ls' := [some (.inr (.inr (some 39))), some (.inl l1), some (.inl l2), some (.inl l3), some (.inl (f_83 (ax_w32 (l2 + l3)) s))]) (st' := [.inl (f_83 (ax_w32 (l2 + l3)) s)]) (h1 := hp L s c e) rfl ?_
        refine RuP.step (pc' := 37) (ls' := [some (.inr (.inr (some 39))), some (.inl l1), some (.inl l2), some (.inl l3), some (.inl (f_83 (ax_w32 (l2 + l3)) s))]) (st' := [.inl 49, .inl (f_83 (ax_w32 (l2 + l3)) s)]) (h1 := hp L s c e) rfl ?_
        by_cases h4 : f_83 (ax_w32 (l2 + l3)) s = 49
        · rw [if_pos h4] at h
          refine RuP.jy rfl h4 ?_
          exact bl_98_42 ih _ _ _ _ _ _ h
        · rw [if_neg h4] at h
          refine RuP.jn rfl h4 ?_
          refine RuP.step (pc' := 41) (ls' := [some (.inr (.inr (some 39))), some (.inl l1), some (.inl l2), some (.inl l3), some (.inl (f_83 (ax_w32 (l2 + l3)) s))]) (st' := [.inl 0]) (h1 := hp L s c e) rfl ?_
          cases h
          exact RuP.dI rfl
noncomputable def f_98 (x0 : Int) (s : Sg) : Option Int :=
  (gd (g_80 x0 s) (
  j_98_8 FU x0 (f_80 x0 s) 0 s))
theorem ev_98 {L c : Nat} {e : Nat → Nat} {s : Sg} {x0 : Int} {q : Int} (h : f_98 x0 s = some q) : EvP 2 98 [.inr (.inr (some 39)), .inl x0] (hp L s c e) (oI L c e (q, s)) := by
  unfold f_98 at h
  refine EvP.of (μ := tb_m98) (ls := [some (.inr (.inr (some 39))), some (.inl x0), none, none, none]) rfl (Nat.le_of_ble_eq_true rfl) rfl ?_
  refine RuP.step (pc' := 1) (ls' := [some (.inr (.inr (some 39))), some (.inl x0), none, none, none]) (st' := [.inr (.inr (some 39))]) (h1 := hp L s c e) rfl ?_
  refine RuP.step (pc' := 2) (ls' := [some (.inr (.inr (some 39))), some (.inl x0), none, none, none]) (st' := [.inl x0, .inr (.inr (some 39))]) (h1 := hp L s c e) rfl ?_
  obtain ⟨b0, h⟩ := gd_some h
  refine RuP.cI rfl (EvP.i ((ev_80 x0 b0).up (by decide))) ?_
  refine RuP.step (pc' := 6) (ls' := [some (.inr (.inr (some 39))), some (.inl x0), some (.inl (f_80 x0 s)), none, none]) (st' := []) (h1 := hp L s c e) rfl ?_
  refine RuP.step (pc' := 7) (ls' := [some (.inr (.inr (some 39))), some (.inl x0), some (.inl (f_80 x0 s)), none, none]) (st' := [.inl 0]) (h1 := hp L s c e) rfl ?_
  refine RuP.step (pc' := 8) (ls' := [some (.inr (.inr (some 39))), some (.inl x0), some (.inl (f_80 x0 s)), some (.inl 0), none]) (st' := []) (h1 := hp L s c e) rfl ?_
  exact bl_98_8 FU _ _ _ _ _ _ h
/-- MachineText$Names.release(I)V -/
noncomputable def j_102_53 (k0 : (Int → Sg → Option Sg)) (l1 : Int) (s : Sg) : Option Sg :=
  k0 l1 s
theorem bl_102_53 {L c : Nat} {e : Nat → Nat} {k0 : (Int → Sg → Option Sg)} (hk0 : ∀ (d2 : Option ax_V) (l1 : Int) (s : Sg) (q : Sg), k0 l1 s = some q → RuP 0 tb_m102 0 [some (.inr (.inr (some 31))), some (.inl l1), d2] [] (hp L s c e) (oV L c e q)) : ∀ (z2 : Int) (l1 : Int) (s : Sg) (q : Sg), j_102_53 k0 l1 s = some q → RuP 0 tb_m102 53 [some (.inr (.inr (some 31))), some (.inl l1), some (.inl z2)] [] (hp L s c e) (oV L c e q) := by
  intro z2 l1 s q h
  unfold j_102_53 at h
  refine RuP.step (pc' := 0) (ls' := [some (.inr (.inr (some 31))), some (.inl l1), some (.inl z2)]) (st' := []) (h1 := hp L s c e) rfl ?_
  exact hk0 _ _ _ _ h
noncomputable def j_102_0 : Nat → Int → Sg → Option Sg
  | 0, _, _ => none
  | F + 1, l1, s =>
    (if s 31 8 ≤ l1 then
      some s
    else
      (if s 31 8 ≤ 0 then
        some s
      else
        (gd (0 ≤ ax_w32 ((s 31 8) - 1) ∧ ax_w32 ((s 31 8) - 1) < 4112) (
        (if s 38 ((ax_w32 ((s 31 8) - 1)).toNat) < 0 then
          j_102_53 (j_102_0 F) l1 (ax_u2 s 31 8 (ax_w32 ((s 31 8) - 1)))
        else
          (if 4112 ≤ s 38 ((ax_w32 ((s 31 8) - 1)).toNat) then
            j_102_53 (j_102_0 F) l1 (ax_u2 s 31 8 (ax_w32 ((s 31 8) - 1)))
          else
            (gd (0 ≤ s 38 ((ax_w32 ((s 31 8) - 1)).toNat) ∧ s 38 ((ax_w32 ((s 31 8) - 1)).toNat) < 4112) (
            j_102_53 (j_102_0 F) l1 (ax_u2 (ax_u2 s 31 8 (ax_w32 ((s 31 8) - 1))) 37 ((s 38 ((ax_w32 ((s 31 8) - 1)).toNat)).toNat) 0)))))))))
theorem bl_102_0 {L c : Nat} {e : Nat → Nat} : ∀ (F : Nat) (d2 : Option ax_V) (l1 : Int) (s : Sg) (q : Sg), j_102_0 F l1 s = some q → RuP 0 tb_m102 0 [some (.inr (.inr (some 31))), some (.inl l1), d2] [] (hp L s c e) (oV L c e q) := by
  intro F
  induction F with
  | zero =>
    intro d2 l1 s q h
    rw [j_102_0] at h
    cases h
  | succ F ih =>
    intro d2 l1 s q h
    rw [j_102_0] at h
    refine RuP.step (pc' := 1) (ls' := [some (.inr (.inr (some 31))), some (.inl l1), d2]) (st' := [.inr (.inr (some 31))]) (h1 := hp L s c e) rfl ?_
    refine RuP.step (pc' := 4) (ls' := [some (.inr (.inr (some 31))), some (.inl l1), d2]) (st' := [.inl (s 31 8)]) (h1 := hp L s c e) rfl ?_
    refine RuP.step (pc' := 5) (ls' := [some (.inr (.inr (some 31))), some (.inl l1), d2]) (st' := [.inl l1, .inl (s 31 8)]) (h1 := hp L s c e) rfl ?_
    by_cases h0 : s 31 8 ≤ l1
    · rw [if_pos h0] at h
      refine RuP.jy rfl h0 ?_
      cases h
      exact RuP.dV rfl
    · rw [if_neg h0] at h
      refine RuP.jn rfl h0 ?_
      refine RuP.step (pc' := 9) (ls' := [some (.inr (.inr (some 31))), some (.inl l1), d2]) (st' := [.inr (.inr (some 31))]) (h1 := hp L s c e) rfl ?_
      refine RuP.step (pc' := 12) (ls' := [some (.inr (.inr (some 31))), some (.inl l1), d2]) (st' := [.inl (s 31 8)]) (h1 := hp L s c e) rfl ?_
      by_cases h1 : s 31 8 ≤ 0
      · rw [if_pos h1] at h
        refine RuP.jy rfl h1 ?_
        cases h
        exact RuP.dV rfl
      · rw [if_neg h1] at h
        refine RuP.jn rfl h1 ?_
        refine RuP.step (pc' := 16) (ls' := [some (.inr (.inr (some 31))), some (.inl l1), d2]) (st' := [.inr (.inr (some 31))]) (h1 := hp L s c e) rfl ?_
        refine RuP.step (pc' := 17) (ls' := [some (.inr (.inr (some 31))), some (.inl l1), d2]) (st' := [.inr (.inr (some 31)), .inr (.inr (some 31))]) (h1 := hp L s c e) rfl ?_
        refine RuP.step (pc' := 20) (ls' := [some (.inr (.inr (some 31))), some (.inl l1), d2]) (st' := [.inl (s 31 8), .inr (.inr (some 31))]) (h1 := hp L s c e) rfl ?_
        refine RuP.step (pc' := 21) (ls' := [some (.inr (.inr (some 31))), some (.inl l1), d2]) (st' := [.inl 1, .inl (s 31 8), .inr (.inr (some 31))]) (h1 := hp L s c e) rfl ?_
        refine RuP.step (pc' := 22) (ls' := [some (.inr (.inr (some 31))), some (.inl l1), d2]) (st' := [.inl (ax_w32 ((s 31 8) - 1)), .inr (.inr (some 31))]) (h1 := hp L s c e) rfl ?_
        refine RuP.step (pc' := 25) (ls' := [some (.inr (.inr (some 31))), some (.inl l1), d2]) (st' := []) (h1 := hp L (ax_u2 s 31 8 (ax_w32 ((s 31 8) - 1))) c e) rfl ?_
        refine RuP.step (pc' := 26) (ls' := [some (.inr (.inr (some 31))), some (.inl l1), d2]) (st' := [.inr (.inr (some 31))]) (h1 := hp L (ax_u2 s 31 8 (ax_w32 ((s 31 8) - 1))) c e) rfl ?_
        refine RuP.step (pc' := 29) (ls' := [some (.inr (.inr (some 31))), some (.inl l1), d2]) (st' := [.inr (.inr (some 38))]) (h1 := hp L (ax_u2 s 31 8 (ax_w32 ((s 31 8) - 1))) c e) rfl ?_
        refine RuP.step (pc' := 30) (ls' := [some (.inr (.inr (some 31))), some (.inl l1), d2]) (st' := [.inr (.inr (some 31)), .inr (.inr (some 38))]) (h1 := hp L (ax_u2 s 31 8 (ax_w32 ((s 31 8) - 1))) c e) rfl ?_
        refine RuP.step (pc' := 33) (ls' := [some (.inr (.inr (some 31))), some (.inl l1), d2]) (st' := [.inl (ax_w32 ((s 31 8) - 1)), .inr (.inr (some 38))]) (h1 := hp L (ax_u2 s 31 8 (ax_w32 ((s 31 8) - 1))) c e) rfl ?_
        obtain ⟨b2, h⟩ := gd_some h
        refine RuP.ald (f := fun t => t == 0) (j := ax_w32 ((s 31 8) - 1)) (a := 38) rfl rfl b2.1 b2.2 ?_
        refine RuP.step (pc' := 35) (ls' := [some (.inr (.inr (some 31))), some (.inl l1), some (.inl (s 38 ((ax_w32 ((s 31 8) - 1)).toNat)))]) (st' := []) (h1 := hp L (ax_u2 s 31 8 (ax_w32 ((s 31 8) - 1))) c e) rfl ?_
        refine RuP.step (pc' := 36) (ls' := [some (.inr (.inr (some 31))), some (.inl l1), some (.inl (s 38 ((ax_w32 ((s 31 8) - 1)).toNat)))]) (st' := [.inl (s 38 ((ax_w32 ((s 31 8) - 1)).toNat))]) (h1 := hp L (ax_u2 s 31 8 (ax_w32 ((s 31 8) - 1))) c e) rfl ?_
        by_cases h3 : s 38 ((ax_w32 ((s 31 8) - 1)).toNat) < 0
        · rw [if_pos h3] at h
          refine RuP.jy rfl h3 ?_
          exact bl_102_53 ih _ _ _ _ h
        · rw [if_neg h3] at h
          refine RuP.jn rfl h3 ?_
          refine RuP.step (pc' := 40) (ls' := [some (.inr (.inr (some 31))), some (.inl l1), some (.inl (s 38 ((ax_w32 ((s 31 8) - 1)).toNat)))]) (st' := [.inl (s 38 ((ax_w32 ((s 31 8) - 1)).toNat))]) (h1 := hp L (ax_u2 s 31 8 (ax_w32 ((s 31 8) - 1))) c e) rfl ?_
          refine RuP.step (pc' := 43) (ls' := [some (.inr (.inr (some 31))), some (.inl l1), some (.inl (s 38 ((ax_w32 ((s 31 8) - 1)).toNat)))]) (st' := [.inl 4112, .inl (s 38 ((ax_w32 ((s 31 8) - 1)).toNat))]) (h1 := hp L (ax_u2 s 31 8 (ax_w32 ((s 31 8) - 1))) c e) rfl ?_
          by_cases h4 : 4112 ≤ s 38 ((ax_w32 ((s 31 8) - 1)).toNat)
          · rw [if_pos h4] at h
            refine RuP.jy rfl h4 ?_
            exact bl_102_53 ih _ _ _ _ h
          · rw [if_neg h4] at h
            refine RuP.jn rfl h4 ?_
            refine RuP.step (pc' := 47) (ls' := [some (.inr (.inr (some 31))), some (.inl l1), some (.inl (s 38 ((ax_w32 ((s 31 8) - 1)).toNat)))]) (st' := [.inr (.inr (some 31))]) (h1 := hp L (ax_u2 s 31 8 (ax_w32 ((s 31 8) - 1))) c e) rfl ?_
            refine RuP.step (pc' := 50) (ls' := [some (.inr (.inr (some 31))), some (.inl l1), some (.inl (s 38 ((ax_w32 ((s 31 8) - 1)).toNat)))]) (st' := [.inr (.inr (some 37))]) (h1 := hp L (ax_u2 s 31 8 (ax_w32 ((s 31 8) - 1))) c e) rfl ?_
            refine RuP.step (pc' := 51) (ls' := [some (.inr (.inr (some 31))), some (.inl l1), some (.inl (s 38 ((ax_w32 ((s 31 8) - 1)).toNat)))]) (st' := [.inl (s 38 ((ax_w32 ((s 31 8) - 1)).toNat)), .inr (.inr (some 37))]) (h1 := hp L (ax_u2 s 31 8 (ax_w32 ((s 31 8) - 1))) c e) rfl ?_
            refine RuP.step (pc' := 52) (ls' := [some (.inr (.inr (some 31))), some (.inl l1), some (.inl (s 38 ((ax_w32 ((s 31 8) - 1)).toNat)))]) (st' := [.inl 0, .inl (s 38 ((ax_w32 ((s 31 8) - 1)).toNat)), .inr (.inr (some 37))]) (h1 := hp L (ax_u2 s 31 8 (ax_w32 ((s 31 8) - 1))) c e) rfl ?_
            obtain ⟨b5, h⟩ := gd_some h
            refine RuP.ast (f := fun t => t == 0) (j := s 38 ((ax_w32 ((s 31 8) - 1)).toNat)) (a := 37) rfl rfl (by decide) rfl rfl b5.1 b5.2 ?_
            exact bl_102_53 ih _ _ _ _ h
noncomputable def f_102 (x0 : Int) (s : Sg) : Option Sg :=
  j_102_0 FU x0 s
theorem ev_102 {L c : Nat} {e : Nat → Nat} {s : Sg} {x0 : Int} {q : Sg} (h : f_102 x0 s = some q) : EvP 1 102 [.inr (.inr (some 31)), .inl x0] (hp L s c e) (oV L c e q) := by
  unfold f_102 at h
  refine EvP.of (μ := tb_m102) (ls := [some (.inr (.inr (some 31))), some (.inl x0), none]) rfl (Nat.le_of_ble_eq_true rfl) rfl ?_
  exact bl_102_0 FU _ _ _ _ h
/-- MachineText$Names.idOf(JJ)I -/
noncomputable def j_107_93 (k24 : (Int → Int → Int → Int → Sg → Option (Int × Sg))) (l1 l3 l5 l6 : Int) (s : Sg) : Option (Int × Sg) :=
  k24 l1 l3 (ax_iand (ax_w32 (l5 + 1)) 8191) (ax_w32 (l6 + 1)) s
theorem bl_107_93 {L c : Nat} {e : Nat → Nat} {k24 : (Int → Int → Int → Int → Sg → Option (Int × Sg))} (hk24 : ∀ (d7 : Option ax_V) (l1 l3 l5 l6 : Int) (s : Sg) (q : Int × Sg), k24 l1 l3 l5 l6 s = some q → RuP 1 tb_m107 24 [some (.inr (.inr (some 31))), some (.inr (.inl l1)), none, some (.inr (.inl l3)), none, some (.inl l5), some (.inl l6), d7] [] (hp L s c e) (oI L c e q)) : ∀ (z7 : Int) (l1 l3 l5 l6 : Int) (s : Sg) (q : Int × Sg), j_107_93 k24 l1 l3 l5 l6 s = some q → RuP 1 tb_m107 93 [some (.inr (.inr (some 31))), some (.inr (.inl l1)), none, some (.inr (.inl l3)), none, some (.inl l5), some (.inl l6), some (.inl z7)] [] (hp L s c e) (oI L c e q) := by
  intro z7 l1 l3 l5 l6 s q h
  unfold j_107_93 at h
  refine RuP.step (pc' := 95) (ls' := [some (.inr (.inr (some 31))), some (.inr (.inl l1)), none, some (.inr (.inl l3)), none, some (.inl l5), some (.inl l6), some (.inl z7)]) (st' := [.inl l5]) (h1 := hp L s c e) rfl ?_
  refine RuP.step (pc' := 96) (ls' := [some (.inr (.inr (some 31))), some (.inr (.inl l1)), none, some (.inr (.inl l3)), none, some (.inl l5), some (.inl l6), some (.inl z7)]) (st' := [.inl 1, .inl l5]) (h1 := hp L s c e) rfl ?_
  refine RuP.step (pc' := 97) (ls' := [some (.inr (.inr (some 31))), some (.inr (.inl l1)), none, some (.inr (.inl l3)), none, some (.inl l5), some (.inl l6), some (.inl z7)]) (st' := [.inl (ax_w32 (l5 + 1))]) (h1 := hp L s c e) rfl ?_
  refine RuP.step (pc' := 100) (ls' := [some (.inr (.inr (some 31))), some (.inr (.inl l1)), none, some (.inr (.inl l3)), none, some (.inl l5), some (.inl l6), some (.inl z7)]) (st' := [.inl 8191, .inl (ax_w32 (l5 + 1))]) (h1 := hp L s c e) rfl ?_
  refine RuP.step (pc' := 101) (ls' := [some (.inr (.inr (some 31))), some (.inr (.inl l1)), none, some (.inr (.inl l3)), none, some (.inl l5), some (.inl l6), some (.inl z7)]) (st' := [.inl (ax_iand (ax_w32 (l5 + 1)) 8191)]) (h1 := hp L s c e) rfl ?_
  refine RuP.step (pc' := 103) (ls' := [some (.inr (.inr (some 31))), some (.inr (.inl l1)), none, some (.inr (.inl l3)), none, some (.inl (ax_iand (ax_w32 (l5 + 1)) 8191)), some (.inl l6), some (.inl z7)]) (st' := []) (h1 := hp L s c e) rfl ?_
  refine RuP.step (pc' := 106) (ls' := [some (.inr (.inr (some 31))), some (.inr (.inl l1)), none, some (.inr (.inl l3)), none, some (.inl (ax_iand (ax_w32 (l5 + 1)) 8191)), some (.inl (ax_w32 (l6 + 1))), some (.inl z7)]) (st' := []) (h1 := hp L s c e) rfl ?_
  refine RuP.step (pc' := 24) (ls' := [some (.inr (.inr (some 31))), some (.inr (.inl l1)), none, some (.inr (.inl l3)), none, some (.inl (ax_iand (ax_w32 (l5 + 1)) 8191)), some (.inl (ax_w32 (l6 + 1))), some (.inl z7)]) (st' := []) (h1 := hp L s c e) rfl ?_
  exact hk24 _ _ _ _ _ _ _ h
noncomputable def j_107_48 (l1 l3 l5 : Int) (s : Sg) : Option (Int × Sg) :=
  (gd (g_111 l1 l3 l5 s) (
  ((some (f_111 l1 l3 l5 s)).bind fun q1 =>
  some (q1.1, q1.2))))
theorem bl_107_48 {L c : Nat} {e : Nat → Nat} : ∀ (z6 z7 : Int) (l1 l3 l5 : Int) (s : Sg) (q : Int × Sg), j_107_48 l1 l3 l5 s = some q → RuP 1 tb_m107 48 [some (.inr (.inr (some 31))), some (.inr (.inl l1)), none, some (.inr (.inl l3)), none, some (.inl l5), some (.inl z6), some (.inl z7)] [] (hp L s c e) (oI L c e q) := by
  intro z6 z7 l1 l3 l5 s q h
  unfold j_107_48 at h
  refine RuP.step (pc' := 49) (ls' := [some (.inr (.inr (some 31))), some (.inr (.inl l1)), none, some (.inr (.inl l3)), none, some (.inl l5), some (.inl z6), some (.inl z7)]) (st' := [.inr (.inr (some 31))]) (h1 := hp L s c e) rfl ?_
  refine RuP.step (pc' := 50) (ls' := [some (.inr (.inr (some 31))), some (.inr (.inl l1)), none, some (.inr (.inl l3)), none, some (.inl l5), some (.inl z6), some (.inl z7)]) (st' := [.inr (.inl l1), .inr (.inr (some 31))]) (h1 := hp L s c e) rfl ?_
  refine RuP.step (pc' := 51) (ls' := [some (.inr (.inr (some 31))), some (.inr (.inl l1)), none, some (.inr (.inl l3)), none, some (.inl l5), some (.inl z6), some (.inl z7)]) (st' := [.inr (.inl l3), .inr (.inl l1), .inr (.inr (some 31))]) (h1 := hp L s c e) rfl ?_
  refine RuP.step (pc' := 53) (ls' := [some (.inr (.inr (some 31))), some (.inr (.inl l1)), none, some (.inr (.inl l3)), none, some (.inl l5), some (.inl z6), some (.inl z7)]) (st' := [.inl l5, .inr (.inl l3), .inr (.inl l1), .inr (.inr (some 31))]) (h1 := hp L s c e) rfl ?_
  obtain ⟨b0, h⟩ := gd_some h
  obtain ⟨q1, h1, h⟩ := bd_some h
  refine RuP.cIe h1 rfl (EvP.ip ((ev_111 l1 l3 l5 b0).up (by decide))) ?_
  cases h
  exact RuP.dI rfl
noncomputable def j_107_24 : Nat → Int → Int → Int → Int → Sg → Option (Int × Sg)
  | 0, _, _, _, _, _ => none
  | F + 1, l1, l3, l5, l6, s =>
    (if 8192 ≤ l6 then
      some ((-1), s)
    else
      (gd (0 ≤ l5 ∧ l5 < 8192) (
      (if 0 ≤ ax_w32 ((s 32 l5.toNat) - 1) then
        (if s 31 7 ≤ ax_w32 ((s 32 l5.toNat) - 1) then
          j_107_93 (j_107_24 F) l1 l3 l5 l6 s
        else
          (gd (0 ≤ ax_w32 ((s 32 l5.toNat) - 1) ∧ ax_w32 ((s 32 l5.toNat) - 1) < 4112) (
          (if ¬ (ax_cmp (s 34 ((ax_w32 ((s 32 l5.toNat) - 1)).toNat)) l1) = 0 then
            j_107_93 (j_107_24 F) l1 l3 l5 l6 s
          else
            (gd (0 ≤ ax_w32 ((s 32 l5.toNat) - 1) ∧ ax_w32 ((s 32 l5.toNat) - 1) < 4112) (
            (if ¬ (ax_cmp (s 35 ((ax_w32 ((s 32 l5.toNat) - 1)).toNat)) l3) = 0 then
              j_107_93 (j_107_24 F) l1 l3 l5 l6 s
            else
              some (ax_w32 ((s 32 l5.toNat) - 1), s))))))))
      else
        j_107_48 l1 l3 l5 s))))
theorem bl_107_24 {L c : Nat} {e : Nat → Nat} : ∀ (F : Nat) (d7 : Option ax_V) (l1 l3 l5 l6 : Int) (s : Sg) (q : Int × Sg), j_107_24 F l1 l3 l5 l6 s = some q → RuP 1 tb_m107 24 [some (.inr (.inr (some 31))), some (.inr (.inl l1)), none, some (.inr (.inl l3)), none, some (.inl l5), some (.inl l6), d7] [] (hp L s c e) (oI L c e q) := by
  intro F
  induction F with
  | zero =>
    intro d7 l1 l3 l5 l6 s q h
    rw [j_107_24] at h
    cases h
  | succ F ih =>
    intro d7 l1 l3 l5 l6 s q h
    rw [j_107_24] at h
    refine RuP.step (pc' := 26) (ls' := [some (.inr (.inr (some 31))), some (.inr (.inl l1)), none, some (.inr (.inl l3)), none, some (.inl l5), some (.inl l6), d7]) (st' := [.inl l6]) (h1 := hp L s c e) rfl ?_
    refine RuP.step (pc' := 29) (ls' := [some (.inr (.inr (some 31))), some (.inr (.inl l1)), none, some (.inr (.inl l3)), none, some (.inl l5), some (.inl l6), d7]) (st' := [.inl 8192, .inl l6]) (h1 := hp L s c e) rfl ?_
    by_cases h0 : 8192 ≤ l6
    · rw [if_pos h0] at h
      refine RuP.jy rfl h0 ?_
      refine RuP.step (pc' := 110) (ls' := [some (.inr (.inr (some 31))), some (.inr (.inl l1)), none, some (.inr (.inl l3)), none, some (.inl l5), some (.inl l6), d7]) (st' := [.inl (-1)]) (h1 := hp L s c e) rfl ?_
      cases h
      exact RuP.dI rfl
    · rw [if_neg h0] at h
      refine RuP.jn rfl h0 ?_
      refine RuP.step (pc' := 33) (ls' := [some (.inr (.inr (some 31))), some (.inr (.inl l1)), none, some (.inr (.inl l3)), none, some (.inl l5), some (.inl l6), d7]) (st' := [.inr (.inr (some 31))]) (h1 := hp L s c e) rfl ?_
      refine RuP.step (pc' := 36) (ls' := [some (.inr (.inr (some 31))), some (.inr (.inl l1)), none, some (.inr (.inl l3)), none, some (.inl l5), some (.inl l6), d7]) (st' := [.inr (.inr (some 32))]) (h1 := hp L s c e) rfl ?_
      refine RuP.step (pc' := 38) (ls' := [some (.inr (.inr (some 31))), some (.inr (.inl l1)), none, some (.inr (.inl l3)), none, some (.inl l5), some (.inl l6), d7]) (st' := [.inl l5, .inr (.inr (some 32))]) (h1 := hp L s c e) rfl ?_
      obtain ⟨b1, h⟩ := gd_some h
      refine RuP.ald (f := fun t => t == 0) (j := l5) (a := 32) rfl rfl b1.1 b1.2 ?_
      refine RuP.step (pc' := 40) (ls' := [some (.inr (.inr (some 31))), some (.inr (.inl l1)), none, some (.inr (.inl l3)), none, some (.inl l5), some (.inl l6), d7]) (st' := [.inl 1, .inl (s 32 l5.toNat)]) (h1 := hp L s c e) rfl ?_
      refine RuP.step (pc' := 41) (ls' := [some (.inr (.inr (some 31))), some (.inr (.inl l1)), none, some (.inr (.inl l3)), none, some (.inl l5), some (.inl l6), d7]) (st' := [.inl (ax_w32 ((s 32 l5.toNat) - 1))]) (h1 := hp L s c e) rfl ?_
      refine RuP.step (pc' := 43) (ls' := [some (.inr (.inr (some 31))), some (.inr (.inl l1)), none, some (.inr (.inl l3)), none, some (.inl l5), some (.inl l6), some (.inl (ax_w32 ((s 32 l5.toNat) - 1)))]) (st' := []) (h1 := hp L s c e) rfl ?_
      refine RuP.step (pc' := 45) (ls' := [some (.inr (.inr (some 31))), some (.inr (.inl l1)), none, some (.inr (.inl l3)), none, some (.inl l5), some (.inl l6), some (.inl (ax_w32 ((s 32 l5.toNat) - 1)))]) (st' := [.inl (ax_w32 ((s 32 l5.toNat) - 1))]) (h1 := hp L s c e) rfl ?_
      by_cases h2 : 0 ≤ ax_w32 ((s 32 l5.toNat) - 1)
      · rw [if_pos h2] at h
        refine RuP.jy rfl h2 ?_
        refine RuP.step (pc' := 59) (ls' := [some (.inr (.inr (some 31))), some (.inr (.inl l1)), none, some (.inr (.inl l3)), none, some (.inl l5), some (.inl l6), some (.inl (ax_w32 ((s 32 l5.toNat) - 1)))]) (st' := [.inl (ax_w32 ((s 32 l5.toNat) - 1))]) (h1 := hp L s c e) rfl ?_
        refine RuP.step (pc' := 60) (ls' := [some (.inr (.inr (some 31))), some (.inr (.inl l1)), none, some (.inr (.inl l3)), none, some (.inl l5), some (.inl l6), some (.inl (ax_w32 ((s 32 l5.toNat) - 1)))]) (st' := [.inr (.inr (some 31)), .inl (ax_w32 ((s 32 l5.toNat) - 1))]) (h1 := hp L s c e) rfl ?_
        refine RuP.step (pc' := 63) (ls' := [some (.inr (.inr (some 31))), some (.inr (.inl l1)), none, some (.inr (.inl l3)), none, some (.inl l5), some (.inl l6), some (.inl (ax_w32 ((s 32 l5.toNat) - 1)))]) (st' := [.inl (s 31 7), .inl (ax_w32 ((s 32 l5.toNat) - 1))]) (h1 := hp L s c e) rfl ?_
        by_cases h3 : s 31 7 ≤ ax_w32 ((s 32 l5.toNat) - 1)
        · rw [if_pos h3] at h
          refine RuP.jy rfl h3 ?_
          exact bl_107_93 ih _ _ _ _ _ _ _ h
        · rw [if_neg h3] at h
          refine RuP.jn rfl h3 ?_
          refine RuP.step (pc' := 67) (ls' := [some (.inr (.inr (some 31))), some (.inr (.inl l1)), none, some (.inr (.inl l3)), none, some (.inl l5), some (.inl l6), some (.inl (ax_w32 ((s 32 l5.toNat) - 1)))]) (st' := [.inr (.inr (some 31))]) (h1 := hp L s c e) rfl ?_
          refine RuP.step (pc' := 70) (ls' := [some (.inr (.inr (some 31))), some (.inr (.inl l1)), none, some (.inr (.inl l3)), none, some (.inl l5), some (.inl l6), some (.inl (ax_w32 ((s 32 l5.toNat) - 1)))]) (st' := [.inr (.inr (some 34))]) (h1 := hp L s c e) rfl ?_
          refine RuP.step (pc' := 72) (ls' := [some (.inr (.inr (some 31))), some (.inr (.inl l1)), none, some (.inr (.inl l3)), none, some (.inl l5), some (.inl l6), some (.inl (ax_w32 ((s 32 l5.toNat) - 1)))]) (st' := [.inl (ax_w32 ((s 32 l5.toNat) - 1)), .inr (.inr (some 34))]) (h1 := hp L s c e) rfl ?_
          obtain ⟨b4, h⟩ := gd_some h
          refine RuP.ald (f := fun t => t == 2) (j := ax_w32 ((s 32 l5.toNat) - 1)) (a := 34) rfl rfl b4.1 b4.2 ?_
          refine RuP.step (pc' := 74) (ls' := [some (.inr (.inr (some 31))), some (.inr (.inl l1)), none, some (.inr (.inl l3)), none, some (.inl l5), some (.inl l6), some (.inl (ax_w32 ((s 32 l5.toNat) - 1)))]) (st' := [.inr (.inl l1), .inr (.inl (s 34 ((ax_w32 ((s 32 l5.toNat) - 1)).toNat)))]) (h1 := hp L s c e) rfl ?_
          refine RuP.step (pc' := 75) (ls' := [some (.inr (.inr (some 31))), some (.inr (.inl l1)), none, some (.inr (.inl l3)), none, some (.inl l5), some (.inl l6), some (.inl (ax_w32 ((s 32 l5.toNat) - 1)))]) (st' := [.inl (ax_cmp (s 34 ((ax_w32 ((s 32 l5.toNat) - 1)).toNat)) l1)]) (h1 := hp L s c e) rfl ?_
          by_cases h5 : ¬ (ax_cmp (s 34 ((ax_w32 ((s 32 l5.toNat) - 1)).toNat)) l1) = 0
          · rw [if_pos h5] at h
            refine RuP.jy rfl h5 ?_
            exact bl_107_93 ih _ _ _ _ _ _ _ h
          · rw [if_neg h5] at h
            refine RuP.jn rfl h5 ?_
            refine RuP.step (pc' := 79) (ls' := [some (.inr (.inr (some 31))), some (.inr (.inl l1)), none, some (.inr (.inl l3)), none, some (.inl l5), some (.inl l6), some (.inl (ax_w32 ((s 32 l5.toNat) - 1)))]) (st' := [.inr (.inr (some 31))]) (h1 := hp L s c e) rfl ?_
            refine RuP.step (pc' := 82) (ls' := [some (.inr (.inr (some 31))), some (.inr (.inl l1)), none, some (.inr (.inl l3)), none, some (.inl l5), some (.inl l6), some (.inl (ax_w32 ((s 32 l5.toNat) - 1)))]) (st' := [.inr (.inr (some 35))]) (h1 := hp L s c e) rfl ?_
            refine RuP.step (pc' := 84) (ls' := [some (.inr (.inr (some 31))), some (.inr (.inl l1)), none, some (.inr (.inl l3)), none, some (.inl l5), some (.inl l6), some (.inl (ax_w32 ((s 32 l5.toNat) - 1)))]) (st' := [.inl (ax_w32 ((s 32 l5.toNat) - 1)), .inr (.inr (some 35))]) (h1 := hp L s c e) rfl ?_
            obtain ⟨b6, h⟩ := gd_some h
            refine RuP.ald (f := fun t => t == 2) (j := ax_w32 ((s 32 l5.toNat) - 1)) (a := 35) rfl rfl b6.1 b6.2 ?_
            refine RuP.step (pc' := 86) (ls' := [some (.inr (.inr (some 31))), some (.inr (.inl l1)), none, some (.inr (.inl l3)), none, some (.inl l5), some (.inl l6), some (.inl (ax_w32 ((s 32 l5.toNat) - 1)))]) (st' := [.inr (.inl l3), .inr (.inl (s 35 ((ax_w32 ((s 32 l5.toNat) - 1)).toNat)))]) (h1 := hp L s c e) rfl ?_
            refine RuP.step (pc' := 87) (ls' := [some (.inr (.inr (some 31))), some (.inr (.inl l1)), none, some (.inr (.inl l3)), none, some (.inl l5), some (.inl l6), some (.inl (ax_w32 ((s 32 l5.toNat) - 1)))]) (st' := [.inl (ax_cmp (s 35 ((ax_w32 ((s 32 l5.toNat) - 1)).toNat)) l3)]) (h1 := hp L s c e) rfl ?_
            by_cases h7 : ¬ (ax_cmp (s 35 ((ax_w32 ((s 32 l5.toNat) - 1)).toNat)) l3) = 0
            · rw [if_pos h7] at h
              refine RuP.jy rfl h7 ?_
              exact bl_107_93 ih _ _ _ _ _ _ _ h
            · rw [if_neg h7] at h
              refine RuP.jn rfl h7 ?_
              refine RuP.step (pc' := 92) (ls' := [some (.inr (.inr (some 31))), some (.inr (.inl l1)), none, some (.inr (.inl l3)), none, some (.inl l5), some (.inl l6), some (.inl (ax_w32 ((s 32 l5.toNat) - 1)))]) (st' := [.inl (ax_w32 ((s 32 l5.toNat) - 1))]) (h1 := hp L s c e) rfl ?_
              cases h
              exact RuP.dI rfl
      · rw [if_neg h2] at h
        refine RuP.jn rfl h2 ?_
        exact bl_107_48 _ _ _ _ _ _ _ h
noncomputable def f_107 (x0 x1 : Int) (s : Sg) : Option (Int × Sg) :=
  j_107_24 FU x0 x1 (ax_iand (ax_w32 (ax_lushr (ax_w64 ((ax_w64 ((ax_w64 (x0 * 31)) + x1)) * (-7046029254386353131))) 51)) 8191) 0 s
theorem ev_107 {L c : Nat} {e : Nat → Nat} {s : Sg} {x0 x1 : Int} {q : Int × Sg} (h : f_107 x0 x1 s = some q) : EvP 2 107 [.inr (.inr (some 31)), .inr (.inl x0), .inr (.inl x1)] (hp L s c e) (oI L c e q) := by
  unfold f_107 at h
  refine EvP.of (μ := tb_m107) (ls := [some (.inr (.inr (some 31))), some (.inr (.inl x0)), none, some (.inr (.inl x1)), none, none, none, none]) rfl (Nat.le_of_ble_eq_true rfl) rfl ?_
  refine RuP.step (pc' := 1) (ls' := [some (.inr (.inr (some 31))), some (.inr (.inl x0)), none, some (.inr (.inl x1)), none, none, none, none]) (st' := [.inr (.inl x0)]) (h1 := hp L s c e) rfl ?_
  refine RuP.step (pc' := 4) (ls' := [some (.inr (.inr (some 31))), some (.inr (.inl x0)), none, some (.inr (.inl x1)), none, none, none, none]) (st' := [.inr (.inl 31), .inr (.inl x0)]) (h1 := hp L s c e) rfl ?_
  refine RuP.step (pc' := 5) (ls' := [some (.inr (.inr (some 31))), some (.inr (.inl x0)), none, some (.inr (.inl x1)), none, none, none, none]) (st' := [.inr (.inl (ax_w64 (x0 * 31)))]) (h1 := hp L s c e) rfl ?_
  refine RuP.step (pc' := 6) (ls' := [some (.inr (.inr (some 31))), some (.inr (.inl x0)), none, some (.inr (.inl x1)), none, none, none, none]) (st' := [.inr (.inl x1), .inr (.inl (ax_w64 (x0 * 31)))]) (h1 := hp L s c e) rfl ?_
  refine RuP.step (pc' := 7) (ls' := [some (.inr (.inr (some 31))), some (.inr (.inl x0)), none, some (.inr (.inl x1)), none, none, none, none]) (st' := [.inr (.inl (ax_w64 ((ax_w64 (x0 * 31)) + x1)))]) (h1 := hp L s c e) rfl ?_
  refine RuP.step (pc' := 10) (ls' := [some (.inr (.inr (some 31))), some (.inr (.inl x0)), none, some (.inr (.inl x1)), none, none, none, none]) (st' := [.inr (.inl (-7046029254386353131)), .inr (.inl (ax_w64 ((ax_w64 (x0 * 31)) + x1)))]) (h1 := hp L s c e) rfl ?_
  refine RuP.step (pc' := 11) (ls' := [some (.inr (.inr (some 31))), some (.inr (.inl x0)), none, some (.inr (.inl x1)), none, none, none, none]) (st' := [.inr (.inl (ax_w64 ((ax_w64 ((ax_w64 (x0 * 31)) + x1)) * (-7046029254386353131))))]) (h1 := hp L s c e) rfl ?_
  refine RuP.step (pc' := 13) (ls' := [some (.inr (.inr (some 31))), some (.inr (.inl x0)), none, some (.inr (.inl x1)), none, none, none, none]) (st' := [.inl 51, .inr (.inl (ax_w64 ((ax_w64 ((ax_w64 (x0 * 31)) + x1)) * (-7046029254386353131))))]) (h1 := hp L s c e) rfl ?_
  refine RuP.step (pc' := 14) (ls' := [some (.inr (.inr (some 31))), some (.inr (.inl x0)), none, some (.inr (.inl x1)), none, none, none, none]) (st' := [.inr (.inl (ax_lushr (ax_w64 ((ax_w64 ((ax_w64 (x0 * 31)) + x1)) * (-7046029254386353131))) 51))]) (h1 := hp L s c e) rfl ?_
  refine RuP.step (pc' := 15) (ls' := [some (.inr (.inr (some 31))), some (.inr (.inl x0)), none, some (.inr (.inl x1)), none, none, none, none]) (st' := [.inl (ax_w32 (ax_lushr (ax_w64 ((ax_w64 ((ax_w64 (x0 * 31)) + x1)) * (-7046029254386353131))) 51))]) (h1 := hp L s c e) rfl ?_
  refine RuP.step (pc' := 18) (ls' := [some (.inr (.inr (some 31))), some (.inr (.inl x0)), none, some (.inr (.inl x1)), none, none, none, none]) (st' := [.inl 8191, .inl (ax_w32 (ax_lushr (ax_w64 ((ax_w64 ((ax_w64 (x0 * 31)) + x1)) * (-7046029254386353131))) 51))]) (h1 := hp L s c e) rfl ?_
  refine RuP.step (pc' := 19) (ls' := [some (.inr (.inr (some 31))), some (.inr (.inl x0)), none, some (.inr (.inl x1)), none, none, none, none]) (st' := [.inl (ax_iand (ax_w32 (ax_lushr (ax_w64 ((ax_w64 ((ax_w64 (x0 * 31)) + x1)) * (-7046029254386353131))) 51)) 8191)]) (h1 := hp L s c e) rfl ?_
  refine RuP.step (pc' := 21) (ls' := [some (.inr (.inr (some 31))), some (.inr (.inl x0)), none, some (.inr (.inl x1)), none, some (.inl (ax_iand (ax_w32 (ax_lushr (ax_w64 ((ax_w64 ((ax_w64 (x0 * 31)) + x1)) * (-7046029254386353131))) 51)) 8191)), none, none]) (st' := []) (h1 := hp L s c e) rfl ?_
  refine RuP.step (pc' := 22) (ls' := [some (.inr (.inr (some 31))), some (.inr (.inl x0)), none, some (.inr (.inl x1)), none, some (.inl (ax_iand (ax_w32 (ax_lushr (ax_w64 ((ax_w64 ((ax_w64 (x0 * 31)) + x1)) * (-7046029254386353131))) 51)) 8191)), none, none]) (st' := [.inl 0]) (h1 := hp L s c e) rfl ?_
  refine RuP.step (pc' := 24) (ls' := [some (.inr (.inr (some 31))), some (.inr (.inl x0)), none, some (.inr (.inl x1)), none, some (.inl (ax_iand (ax_w32 (ax_lushr (ax_w64 ((ax_w64 ((ax_w64 (x0 * 31)) + x1)) * (-7046029254386353131))) 51)) 8191)), some (.inl 0), none]) (st' := []) (h1 := hp L s c e) rfl ?_
  exact bl_107_24 FU _ _ _ _ _ _ _ h
/-- MachineText$Nodes.partOf(II)I -/
noncomputable def j_119_9 : Nat → Int → Int → Int → Sg → Option Int
  | 0, _, _, _, _ => none
  | F + 1, l2, l3, l4, s =>
    (if l2 ≤ l4 then
      some l3
    else
      (gd (g_121 l3 s) (
      (j_119_9 F) l2 (f_121 l3 s) (ax_w32 (l4 + 1)) s)))
theorem bl_119_9 {L c : Nat} {e : Nat → Nat} : ∀ (F : Nat) (z1 : Int) (l2 l3 l4 : Int) (s : Sg) (q : Int), j_119_9 F l2 l3 l4 s = some q → RuP 2 tb_m119 9 [some (.inr (.inr (some 46))), some (.inl z1), some (.inl l2), some (.inl l3), some (.inl l4)] [] (hp L s c e) (oI L c e (q, s)) := by
  intro F
  induction F with
  | zero =>
    intro z1 l2 l3 l4 s q h
    rw [j_119_9] at h
    cases h
  | succ F ih =>
    intro z1 l2 l3 l4 s q h
    rw [j_119_9] at h
    refine RuP.step (pc' := 11) (ls' := [some (.inr (.inr (some 46))), some (.inl z1), some (.inl l2), some (.inl l3), some (.inl l4)]) (st' := [.inl l4]) (h1 := hp L s c e) rfl ?_
    refine RuP.step (pc' := 12) (ls' := [some (.inr (.inr (some 46))), some (.inl z1), some (.inl l2), some (.inl l3), some (.inl l4)]) (st' := [.inl l2, .inl l4]) (h1 := hp L s c e) rfl ?_
    by_cases h0 : l2 ≤ l4
    · rw [if_pos h0] at h
      refine RuP.jy rfl h0 ?_
      refine RuP.step (pc' := 28) (ls' := [some (.inr (.inr (some 46))), some (.inl z1), some (.inl l2), some (.inl l3), some (.inl l4)]) (st' := [.inl l3]) (h1 := hp L s c e) rfl ?_
      cases h
      exact RuP.dI rfl
    · rw [if_neg h0] at h
      refine RuP.jn rfl h0 ?_
      refine RuP.step (pc' := 16) (ls' := [some (.inr (.inr (some 46))), some (.inl z1), some (.inl l2), some (.inl l3), some (.inl l4)]) (st' := [.inr (.inr (some 46))]) (h1 := hp L s c e) rfl ?_
      refine RuP.step (pc' := 17) (ls' := [some (.inr (.inr (some 46))), some (.inl z1), some (.inl l2), some (.inl l3), some (.inl l4)]) (st' := [.inl l3, .inr (.inr (some 46))]) (h1 := hp L s c e) rfl ?_
      obtain ⟨b1, h⟩ := gd_some h
      refine RuP.cI rfl (EvP.i ((ev_121 l3 b1).up (by decide))) ?_
      refine RuP.step (pc' := 21) (ls' := [some (.inr (.inr (some 46))), some (.inl z1), some (.inl l2), some (.inl (f_121 l3 s)), some (.inl l4)]) (st' := []) (h1 := hp L s c e) rfl ?_
      refine RuP.step (pc' := 24) (ls' := [some (.inr (.inr (some 46))), some (.inl z1), some (.inl l2), some (.inl (f_121 l3 s)), some (.inl (ax_w32 (l4 + 1)))]) (st' := []) (h1 := hp L s c e) rfl ?_
      refine RuP.step (pc' := 9) (ls' := [some (.inr (.inr (some 46))), some (.inl z1), some (.inl l2), some (.inl (f_121 l3 s)), some (.inl (ax_w32 (l4 + 1)))]) (st' := []) (h1 := hp L s c e) rfl ?_
      exact ih _ _ _ _ _ _ h
noncomputable def f_119 (x0 x1 : Int) (s : Sg) : Option Int :=
  (gd (g_120 x0 s) (
  j_119_9 FU x1 (f_120 x0 s) 0 s))
theorem ev_119 {L c : Nat} {e : Nat → Nat} {s : Sg} {x0 x1 : Int} {q : Int} (h : f_119 x0 x1 s = some q) : EvP 3 119 [.inr (.inr (some 46)), .inl x0, .inl x1] (hp L s c e) (oI L c e (q, s)) := by
  unfold f_119 at h
  refine EvP.of (μ := tb_m119) (ls := [some (.inr (.inr (some 46))), some (.inl x0), some (.inl x1), none, none]) rfl (Nat.le_of_ble_eq_true rfl) rfl ?_
  refine RuP.step (pc' := 1) (ls' := [some (.inr (.inr (some 46))), some (.inl x0), some (.inl x1), none, none]) (st' := [.inr (.inr (some 46))]) (h1 := hp L s c e) rfl ?_
  refine RuP.step (pc' := 2) (ls' := [some (.inr (.inr (some 46))), some (.inl x0), some (.inl x1), none, none]) (st' := [.inl x0, .inr (.inr (some 46))]) (h1 := hp L s c e) rfl ?_
  obtain ⟨b0, h⟩ := gd_some h
  refine RuP.cI rfl (EvP.i ((ev_120 x0 b0).up (by decide))) ?_
  refine RuP.step (pc' := 6) (ls' := [some (.inr (.inr (some 46))), some (.inl x0), some (.inl x1), some (.inl (f_120 x0 s)), none]) (st' := []) (h1 := hp L s c e) rfl ?_
  refine RuP.step (pc' := 7) (ls' := [some (.inr (.inr (some 46))), some (.inl x0), some (.inl x1), some (.inl (f_120 x0 s)), none]) (st' := [.inl 0]) (h1 := hp L s c e) rfl ?_
  refine RuP.step (pc' := 9) (ls' := [some (.inr (.inr (some 46))), some (.inl x0), some (.inl x1), some (.inl (f_120 x0 s)), some (.inl 0)]) (st' := []) (h1 := hp L s c e) rfl ?_
  exact bl_119_9 FU _ _ _ _ _ _ h
/-- MachineText$Printer.isApart(II)Z -/
def f_136 (x0 x1 : Int) (s : Sg) : Int :=
  (if x0 = 41 ∨ x0 = 93 then
    (if x1 = 2 then
      1
    else
      (if x1 = 123 then
        1
      else
        (if ¬ x1 = 125 then
          0
        else
          1)))
  else
  (if x0 = 44 ∨ x0 = 59 ∨ x0 = 123 ∨ x0 = 125 then
    1
  else
    (if x1 = 123 then
      1
    else
      (if x1 = 125 then
        1
      else
        (if f_138 x0 s = 0 then
          0
        else
          (if f_138 x1 s = 0 then
            0
          else
            1))))))
theorem ev_136 {L c : Nat} {e : Nat → Nat} {s : Sg} (x0 x1 : Int) : EvP 2 136 [.inl x0, .inl x1] (hp L s c e) (oI L c e (f_136 x0 x1 s, s)) := by
  have key : ∀ q, f_136 x0 x1 s = q → RuP 1 tb_m136 0 [some (.inl x0), some (.inl x1)] [] (hp L s c e) (oI L c e (q, s)) := by
    intro q h
    unfold f_136 at h
    refine RuP.step (pc' := 1) (ls' := [some (.inl x0), some (.inl x1)]) (st' := [.inl x0]) (h1 := hp L s c e) rfl ?_
    by_cases h0 : x0 = 41 ∨ x0 = 93
    · rw [if_pos h0] at h
      have J1 : RuP 1 tb_m136 62 [some (.inl x0), some (.inl x1)] [] (hp L s c e) (oI L c e (q, s)) := by
        refine RuP.step (pc' := 63) (ls' := [some (.inl x0), some (.inl x1)]) (st' := [.inl x1]) (h1 := hp L s c e) rfl ?_
        refine RuP.step (pc' := 64) (ls' := [some (.inl x0), some (.inl x1)]) (st' := [.inl 2, .inl x1]) (h1 := hp L s c e) rfl ?_
        by_cases h1 : x1 = 2
        · rw [if_pos h1] at h
          refine RuP.jy rfl h1 ?_
          refine RuP.step (pc' := 80) (ls' := [some (.inl x0), some (.inl x1)]) (st' := [.inl 1]) (h1 := hp L s c e) rfl ?_
          refine RuP.step (pc' := 84) (ls' := [some (.inl x0), some (.inl x1)]) (st' := [.inl 1]) (h1 := hp L s c e) rfl ?_
          subst h
          exact RuP.dI rfl
        · rw [if_neg h1] at h
          refine RuP.jn rfl h1 ?_
          refine RuP.step (pc' := 68) (ls' := [some (.inl x0), some (.inl x1)]) (st' := [.inl x1]) (h1 := hp L s c e) rfl ?_
          refine RuP.step (pc' := 70) (ls' := [some (.inl x0), some (.inl x1)]) (st' := [.inl 123, .inl x1]) (h1 := hp L s c e) rfl ?_
          by_cases h2 : x1 = 123
          · rw [if_pos h2] at h
            refine RuP.jy rfl h2 ?_
            refine RuP.step (pc' := 80) (ls' := [some (.inl x0), some (.inl x1)]) (st' := [.inl 1]) (h1 := hp L s c e) rfl ?_
            refine RuP.step (pc' := 84) (ls' := [some (.inl x0), some (.inl x1)]) (st' := [.inl 1]) (h1 := hp L s c e) rfl ?_
            subst h
            exact RuP.dI rfl
          · rw [if_neg h2] at h
            refine RuP.jn rfl h2 ?_
            refine RuP.step (pc' := 74) (ls' := [some (.inl x0), some (.inl x1)]) (st' := [.inl x1]) (h1 := hp L s c e) rfl ?_
            refine RuP.step (pc' := 76) (ls' := [some (.inl x0), some (.inl x1)]) (st' := [.inl 125, .inl x1]) (h1 := hp L s c e) rfl ?_
            by_cases h3 : ¬ x1 = 125
            · rw [if_pos h3] at h
              refine RuP.jy rfl h3 ?_
              refine RuP.step (pc' := 84) (ls' := [some (.inl x0), some (.inl x1)]) (st' := [.inl 0]) (h1 := hp L s c e) rfl ?_
              subst h
              exact RuP.dI rfl
            · rw [if_neg h3] at h
              refine RuP.jn rfl h3 ?_
              refine RuP.step (pc' := 80) (ls' := [some (.inl x0), some (.inl x1)]) (st' := [.inl 1]) (h1 := hp L s c e) rfl ?_
              refine RuP.step (pc' := 84) (ls' := [some (.inl x0), some (.inl x1)]) (st' := [.inl 1]) (h1 := hp L s c e) rfl ?_
              subst h
              exact RuP.dI rfl
      rcases h0 with h0 | h0 <;> exact RuP.sw (i := .lookupswitch (84) #[((41), (61)), ((44), (59)), ((59), (59)), ((93), (61)), ((123), (59)), ((125), (59))]) rfl h0 rfl J1
    rw [if_neg h0] at h
    by_cases h4 : x0 = 44 ∨ x0 = 59 ∨ x0 = 123 ∨ x0 = 125
    · rw [if_pos h4] at h
      have J5 : RuP 1 tb_m136 60 [some (.inl x0), some (.inl x1)] [] (hp L s c e) (oI L c e (q, s)) := by
        refine RuP.step (pc' := 61) (ls' := [some (.inl x0), some (.inl x1)]) (st' := [.inl 1]) (h1 := hp L s c e) rfl ?_
        subst h
        exact RuP.dI rfl
      rcases h4 with h4 | h4 | h4 | h4 <;> exact RuP.sw (i := .lookupswitch (84) #[((41), (61)), ((44), (59)), ((59), (59)), ((93), (61)), ((123), (59)), ((125), (59))]) rfl h4 rfl J5
    rw [if_neg h4] at h
    refine RuP.swd (i := .lookupswitch (84) #[((41), (61)), ((44), (59)), ((59), (59)), ((93), (61)), ((123), (59)), ((125), (59))]) (pc' := 85) rfl (sw_l (by simp only [List.mem_cons, List.not_mem_nil, or_false, forall_eq_or_imp, forall_eq]; omega)) ?_
    refine RuP.step (pc' := 86) (ls' := [some (.inl x0), some (.inl x1)]) (st' := [.inl x1]) (h1 := hp L s c e) rfl ?_
    refine RuP.step (pc' := 88) (ls' := [some (.inl x0), some (.inl x1)]) (st' := [.inl 123, .inl x1]) (h1 := hp L s c e) rfl ?_
    by_cases h5 : x1 = 123
    · rw [if_pos h5] at h
      refine RuP.jy rfl h5 ?_
      refine RuP.step (pc' := 112) (ls' := [some (.inl x0), some (.inl x1)]) (st' := [.inl 1]) (h1 := hp L s c e) rfl ?_
      refine RuP.step (pc' := 116) (ls' := [some (.inl x0), some (.inl x1)]) (st' := [.inl 1]) (h1 := hp L s c e) rfl ?_
      subst h
      exact RuP.dI rfl
    · rw [if_neg h5] at h
      refine RuP.jn rfl h5 ?_
      refine RuP.step (pc' := 92) (ls' := [some (.inl x0), some (.inl x1)]) (st' := [.inl x1]) (h1 := hp L s c e) rfl ?_
      refine RuP.step (pc' := 94) (ls' := [some (.inl x0), some (.inl x1)]) (st' := [.inl 125, .inl x1]) (h1 := hp L s c e) rfl ?_
      by_cases h6 : x1 = 125
      · rw [if_pos h6] at h
        refine RuP.jy rfl h6 ?_
        refine RuP.step (pc' := 112) (ls' := [some (.inl x0), some (.inl x1)]) (st' := [.inl 1]) (h1 := hp L s c e) rfl ?_
        refine RuP.step (pc' := 116) (ls' := [some (.inl x0), some (.inl x1)]) (st' := [.inl 1]) (h1 := hp L s c e) rfl ?_
        subst h
        exact RuP.dI rfl
      · rw [if_neg h6] at h
        refine RuP.jn rfl h6 ?_
        refine RuP.step (pc' := 98) (ls' := [some (.inl x0), some (.inl x1)]) (st' := [.inl x0]) (h1 := hp L s c e) rfl ?_
        refine RuP.cI rfl (EvP.i ((ev_138 x0).up (by decide))) ?_
        by_cases h7 : f_138 x0 s = 0
        · rw [if_pos h7] at h
          refine RuP.jy rfl h7 ?_
          refine RuP.step (pc' := 116) (ls' := [some (.inl x0), some (.inl x1)]) (st' := [.inl 0]) (h1 := hp L s c e) rfl ?_
          subst h
          exact RuP.dI rfl
        · rw [if_neg h7] at h
          refine RuP.jn rfl h7 ?_
          refine RuP.step (pc' := 105) (ls' := [some (.inl x0), some (.inl x1)]) (st' := [.inl x1]) (h1 := hp L s c e) rfl ?_
          refine RuP.cI rfl (EvP.i ((ev_138 x1).up (by decide))) ?_
          by_cases h8 : f_138 x1 s = 0
          · rw [if_pos h8] at h
            refine RuP.jy rfl h8 ?_
            refine RuP.step (pc' := 116) (ls' := [some (.inl x0), some (.inl x1)]) (st' := [.inl 0]) (h1 := hp L s c e) rfl ?_
            subst h
            exact RuP.dI rfl
          · rw [if_neg h8] at h
            refine RuP.jn rfl h8 ?_
            refine RuP.step (pc' := 112) (ls' := [some (.inl x0), some (.inl x1)]) (st' := [.inl 1]) (h1 := hp L s c e) rfl ?_
            refine RuP.step (pc' := 116) (ls' := [some (.inl x0), some (.inl x1)]) (st' := [.inl 1]) (h1 := hp L s c e) rfl ?_
            subst h
            exact RuP.dI rfl
  exact EvP.of (μ := tb_m136) (ls := [some (.inl x0), some (.inl x1)]) rfl (Nat.le_of_ble_eq_true rfl) rfl (key _ rfl)
/-- MachineText$Printer.writeDecimal(J)V -/
noncomputable def j_137_37 : Nat → Int → Int → Int → Sg → Option Sg
  | 0, _, _, _, _ => none
  | F + 1, l1, l3, l5, s =>
    (if 13 ≤ l5 then
      some s
    else
      (if ax_cmp l3 0 ≤ 0 then
        some s
      else
        (gd (¬ l3 = 0) (
        (gd (g_134 (ax_w32 (48 + (ax_w32 (ax_lrem (ax_ldiv l1 l3) 10)))) s) (
        ((some (f_134 (ax_w32 (48 + (ax_w32 (ax_lrem (ax_ldiv l1 l3) 10)))) s)).bind fun q1 =>
        (j_137_37 F) l1 (ax_ldiv l3 10) (ax_w32 (l5 + 1)) q1)))))))
theorem bl_137_37 {L c : Nat} {e : Nat → Nat} : ∀ (F : Nat) (l1 l3 l5 : Int) (s : Sg) (q : Sg), j_137_37 F l1 l3 l5 s = some q → RuP 1 tb_m137 37 [some (.inr (.inr (some 82))), some (.inr (.inl l1)), none, some (.inr (.inl l3)), none, some (.inl l5)] [] (hp L s c e) (oV L c e q) := by
  intro F
  induction F with
  | zero =>
    intro l1 l3 l5 s q h
    rw [j_137_37] at h
    cases h
  | succ F ih =>
    intro l1 l3 l5 s q h
    rw [j_137_37] at h
    refine RuP.step (pc' := 39) (ls' := [some (.inr (.inr (some 82))), some (.inr (.inl l1)), none, some (.inr (.inl l3)), none, some (.inl l5)]) (st' := [.inl l5]) (h1 := hp L s c e) rfl ?_
    refine RuP.step (pc' := 41) (ls' := [some (.inr (.inr (some 82))), some (.inr (.inl l1)), none, some (.inr (.inl l3)), none, some (.inl l5)]) (st' := [.inl 13, .inl l5]) (h1 := hp L s c e) rfl ?_
    by_cases h0 : 13 ≤ l5
    · rw [if_pos h0] at h
      refine RuP.jy rfl h0 ?_
      cases h
      exact RuP.dV rfl
    · rw [if_neg h0] at h
      refine RuP.jn rfl h0 ?_
      refine RuP.step (pc' := 45) (ls' := [some (.inr (.inr (some 82))), some (.inr (.inl l1)), none, some (.inr (.inl l3)), none, some (.inl l5)]) (st' := [.inr (.inl l3)]) (h1 := hp L s c e) rfl ?_
      refine RuP.step (pc' := 46) (ls' := [some (.inr (.inr (some 82))), some (.inr (.inl l1)), none, some (.inr (.inl l3)), none, some (.inl l5)]) (st' := [.inr (.inl 0), .inr (.inl l3)]) (h1 := hp L s c e) rfl ?_
      refine RuP.step (pc' := 47) (ls' := [some (.inr (.inr (some 82))), some (.inr (.inl l1)), none, some (.inr (.inl l3)), none, some (.inl l5)]) (st' := [.inl (ax_cmp l3 0)]) (h1 := hp L s c e) rfl ?_
      by_cases h1 : ax_cmp l3 0 ≤ 0
      · rw [if_pos h1] at h
        refine RuP.jy rfl h1 ?_
        cases h
        exact RuP.dV rfl
      · rw [if_neg h1] at h
        refine RuP.jn rfl h1 ?_
        refine RuP.step (pc' := 51) (ls' := [some (.inr (.inr (some 82))), some (.inr (.inl l1)), none, some (.inr (.inl l3)), none, some (.inl l5)]) (st' := [.inr (.inr (some 82))]) (h1 := hp L s c e) rfl ?_
        refine RuP.step (pc' := 53) (ls' := [some (.inr (.inr (some 82))), some (.inr (.inl l1)), none, some (.inr (.inl l3)), none, some (.inl l5)]) (st' := [.inl 48, .inr (.inr (some 82))]) (h1 := hp L s c e) rfl ?_
        refine RuP.step (pc' := 54) (ls' := [some (.inr (.inr (some 82))), some (.inr (.inl l1)), none, some (.inr (.inl l3)), none, some (.inl l5)]) (st' := [.inr (.inl l1), .inl 48, .inr (.inr (some 82))]) (h1 := hp L s c e) rfl ?_
        refine RuP.step (pc' := 55) (ls' := [some (.inr (.inr (some 82))), some (.inr (.inl l1)), none, some (.inr (.inl l3)), none, some (.inl l5)]) (st' := [.inr (.inl l3), .inr (.inl l1), .inl 48, .inr (.inr (some 82))]) (h1 := hp L s c e) rfl ?_
        obtain ⟨b2, h⟩ := gd_some h
        refine RuP.dv (x := 0) (z := 0) (v := .inr (.inl (ax_ldiv l1 l3))) (pc' := 56) (r := [.inl 48, .inr (.inr (some 82))]) rfl b2 ?_
        refine RuP.step (pc' := 59) (ls' := [some (.inr (.inr (some 82))), some (.inr (.inl l1)), none, some (.inr (.inl l3)), none, some (.inl l5)]) (st' := [.inr (.inl 10), .inr (.inl (ax_ldiv l1 l3)), .inl 48, .inr (.inr (some 82))]) (h1 := hp L s c e) rfl ?_
        refine RuP.step (pc' := 60) (ls' := [some (.inr (.inr (some 82))), some (.inr (.inl l1)), none, some (.inr (.inl l3)), none, some (.inl l5)]) (st' := [.inr (.inl (ax_lrem (ax_ldiv l1 l3) 10)), .inl 48, .inr (.inr (some 82))]) (h1 := hp L s c e) rfl ?_
        refine RuP.step (pc' := 61) (ls' := [some (.inr (.inr (some 82))), some (.inr (.inl l1)), none, some (.inr (.inl l3)), none, some (.inl l5)]) (st' := [.inl (ax_w32 (ax_lrem (ax_ldiv l1 l3) 10)), .inl 48, .inr (.inr (some 82))]) (h1 := hp L s c e) rfl ?_
        refine RuP.step (pc' := 62) (ls' := [some (.inr (.inr (some 82))), some (.inr (.inl l1)), none, some (.inr (.inl l3)), none, some (.inl l5)]) (st' := [.inl (ax_w32 (48 + (ax_w32 (ax_lrem (ax_ldiv l1 l3) 10)))), .inr (.inr (some 82))]) (h1 := hp L s c e) rfl ?_
        obtain ⟨b3, h⟩ := gd_some h
        obtain ⟨q1, h1, h⟩ := bd_some h
        refine RuP.cVe h1 rfl (EvP.v ((ev_134 (ax_w32 (48 + (ax_w32 (ax_lrem (ax_ldiv l1 l3) 10)))) b3).up (by decide))) ?_
        refine RuP.step (pc' := 66) (ls' := [some (.inr (.inr (some 82))), some (.inr (.inl l1)), none, some (.inr (.inl l3)), none, some (.inl l5)]) (st' := [.inr (.inl l3)]) (h1 := hp L q1 c e) rfl ?_
        refine RuP.step (pc' := 69) (ls' := [some (.inr (.inr (some 82))), some (.inr (.inl l1)), none, some (.inr (.inl l3)), none, some (.inl l5)]) (st' := [.inr (.inl 10), .inr (.inl l3)]) (h1 := hp L q1 c e) rfl ?_
        refine RuP.step (pc' := 70) (ls' := [some (.inr (.inr (some 82))), some (.inr (.inl l1)), none, some (.inr (.inl l3)), none, some (.inl l5)]) (st' := [.inr (.inl (ax_ldiv l3 10))]) (h1 := hp L q1 c e) rfl ?_
        refine RuP.step (pc' := 71) (ls' := [some (.inr (.inr (some 82))), some (.inr (.inl l1)), none, some (.inr (.inl (ax_ldiv l3 10))), none, some (.inl l5)]) (st' := []) (h1 := hp L q1 c e) rfl ?_
        refine RuP.step (pc' := 74) (ls' := [some (.inr (.inr (some 82))), some (.inr (.inl l1)), none, some (.inr (.inl (ax_ldiv l3 10))), none, some (.inl (ax_w32 (l5 + 1)))]) (st' := []) (h1 := hp L q1 c e) rfl ?_
        refine RuP.step (pc' := 37) (ls' := [some (.inr (.inr (some 82))), some (.inr (.inl l1)), none, some (.inr (.inl (ax_ldiv l3 10))), none, some (.inl (ax_w32 (l5 + 1)))]) (st' := []) (h1 := hp L q1 c e) rfl ?_
        exact ih _ _ _ _ _ h
noncomputable def j_137_34 (l1 l3 : Int) (s : Sg) : Option Sg :=
  j_137_37 FU l1 l3 0 s
theorem bl_137_34 {L c : Nat} {e : Nat → Nat} : ∀ (z5 : Int) (l1 l3 : Int) (s : Sg) (q : Sg), j_137_34 l1 l3 s = some q → RuP 1 tb_m137 34 [some (.inr (.inr (some 82))), some (.inr (.inl l1)), none, some (.inr (.inl l3)), none, some (.inl z5)] [] (hp L s c e) (oV L c e q) := by
  intro z5 l1 l3 s q h
  unfold j_137_34 at h
  refine RuP.step (pc' := 35) (ls' := [some (.inr (.inr (some 82))), some (.inr (.inl l1)), none, some (.inr (.inl l3)), none, some (.inl z5)]) (st' := [.inl 0]) (h1 := hp L s c e) rfl ?_
  refine RuP.step (pc' := 37) (ls' := [some (.inr (.inr (some 82))), some (.inr (.inl l1)), none, some (.inr (.inl l3)), none, some (.inl 0)]) (st' := []) (h1 := hp L s c e) rfl ?_
  exact bl_137_37 FU _ _ _ _ _ h
noncomputable def j_137_5 : Nat → Int → Int → Int → Sg → Option Sg
  | 0, _, _, _, _ => none
  | F + 1, l1, l3, l5, s =>
    (if 12 ≤ l5 then
      j_137_34 l1 l3 s
    else
      (gd (¬ l3 = 0) (
      (if ax_cmp (ax_ldiv l1 l3) 10 < 0 then
        j_137_34 l1 l3 s
      else
        (j_137_5 F) l1 (ax_w64 (l3 * 10)) (ax_w32 (l5 + 1)) s))))
theorem bl_137_5 {L c : Nat} {e : Nat → Nat} : ∀ (F : Nat) (l1 l3 l5 : Int) (s : Sg) (q : Sg), j_137_5 F l1 l3 l5 s = some q → RuP 1 tb_m137 5 [some (.inr (.inr (some 82))), some (.inr (.inl l1)), none, some (.inr (.inl l3)), none, some (.inl l5)] [] (hp L s c e) (oV L c e q) := by
  intro F
  induction F with
  | zero =>
    intro l1 l3 l5 s q h
    rw [j_137_5] at h
    cases h
  | succ F ih =>
    intro l1 l3 l5 s q h
    rw [j_137_5] at h
    refine RuP.step (pc' := 7) (ls' := [some (.inr (.inr (some 82))), some (.inr (.inl l1)), none, some (.inr (.inl l3)), none, some (.inl l5)]) (st' := [.inl l5]) (h1 := hp L s c e) rfl ?_
    refine RuP.step (pc' := 9) (ls' := [some (.inr (.inr (some 82))), some (.inr (.inl l1)), none, some (.inr (.inl l3)), none, some (.inl l5)]) (st' := [.inl 12, .inl l5]) (h1 := hp L s c e) rfl ?_
    by_cases h0 : 12 ≤ l5
    · rw [if_pos h0] at h
      refine RuP.jy rfl h0 ?_
      exact bl_137_34 _ _ _ _ _ h
    · rw [if_neg h0] at h
      refine RuP.jn rfl h0 ?_
      refine RuP.step (pc' := 13) (ls' := [some (.inr (.inr (some 82))), some (.inr (.inl l1)), none, some (.inr (.inl l3)), none, some (.inl l5)]) (st' := [.inr (.inl l1)]) (h1 := hp L s c e) rfl ?_
      refine RuP.step (pc' := 14) (ls' := [some (.inr (.inr (some 82))), some (.inr (.inl l1)), none, some (.inr (.inl l3)), none, some (.inl l5)]) (st' := [.inr (.inl l3), .inr (.inl l1)]) (h1 := hp L s c e) rfl ?_
      obtain ⟨b1, h⟩ := gd_some h
      refine RuP.dv (x := 0) (z := 0) (v := .inr (.inl (ax_ldiv l1 l3))) (pc' := 15) (r := []) rfl b1 ?_
      refine RuP.step (pc' := 18) (ls' := [some (.inr (.inr (some 82))), some (.inr (.inl l1)), none, some (.inr (.inl l3)), none, some (.inl l5)]) (st' := [.inr (.inl 10), .inr (.inl (ax_ldiv l1 l3))]) (h1 := hp L s c e) rfl ?_
      refine RuP.step (pc' := 19) (ls' := [some (.inr (.inr (some 82))), some (.inr (.inl l1)), none, some (.inr (.inl l3)), none, some (.inl l5)]) (st' := [.inl (ax_cmp (ax_ldiv l1 l3) 10)]) (h1 := hp L s c e) rfl ?_
      by_cases h2 : ax_cmp (ax_ldiv l1 l3) 10 < 0
      · rw [if_pos h2] at h
        refine RuP.jy rfl h2 ?_
        exact bl_137_34 _ _ _ _ _ h
      · rw [if_neg h2] at h
        refine RuP.jn rfl h2 ?_
        refine RuP.step (pc' := 23) (ls' := [some (.inr (.inr (some 82))), some (.inr (.inl l1)), none, some (.inr (.inl l3)), none, some (.inl l5)]) (st' := [.inr (.inl l3)]) (h1 := hp L s c e) rfl ?_
        refine RuP.step (pc' := 26) (ls' := [some (.inr (.inr (some 82))), some (.inr (.inl l1)), none, some (.inr (.inl l3)), none, some (.inl l5)]) (st' := [.inr (.inl 10), .inr (.inl l3)]) (h1 := hp L s c e) rfl ?_
        refine RuP.step (pc' := 27) (ls' := [some (.inr (.inr (some 82))), some (.inr (.inl l1)), none, some (.inr (.inl l3)), none, some (.inl l5)]) (st' := [.inr (.inl (ax_w64 (l3 * 10)))]) (h1 := hp L s c e) rfl ?_
        refine RuP.step (pc' := 28) (ls' := [some (.inr (.inr (some 82))), some (.inr (.inl l1)), none, some (.inr (.inl (ax_w64 (l3 * 10)))), none, some (.inl l5)]) (st' := []) (h1 := hp L s c e) rfl ?_
        refine RuP.step (pc' := 31) (ls' := [some (.inr (.inr (some 82))), some (.inr (.inl l1)), none, some (.inr (.inl (ax_w64 (l3 * 10)))), none, some (.inl (ax_w32 (l5 + 1)))]) (st' := []) (h1 := hp L s c e) rfl ?_
        refine RuP.step (pc' := 5) (ls' := [some (.inr (.inr (some 82))), some (.inr (.inl l1)), none, some (.inr (.inl (ax_w64 (l3 * 10)))), none, some (.inl (ax_w32 (l5 + 1)))]) (st' := []) (h1 := hp L s c e) rfl ?_
        exact ih _ _ _ _ _ h
noncomputable def f_137 (x0 : Int) (s : Sg) : Option Sg :=
  j_137_5 FU x0 1 0 s
theorem ev_137 {L c : Nat} {e : Nat → Nat} {s : Sg} {x0 : Int} {q : Sg} (h : f_137 x0 s = some q) : EvP 2 137 [.inr (.inr (some 82)), .inr (.inl x0)] (hp L s c e) (oV L c e q) := by
  unfold f_137 at h
  refine EvP.of (μ := tb_m137) (ls := [some (.inr (.inr (some 82))), some (.inr (.inl x0)), none, none, none, none]) rfl (Nat.le_of_ble_eq_true rfl) rfl ?_
  refine RuP.step (pc' := 1) (ls' := [some (.inr (.inr (some 82))), some (.inr (.inl x0)), none, none, none, none]) (st' := [.inr (.inl 1)]) (h1 := hp L s c e) rfl ?_
  refine RuP.step (pc' := 2) (ls' := [some (.inr (.inr (some 82))), some (.inr (.inl x0)), none, some (.inr (.inl 1)), none, none]) (st' := []) (h1 := hp L s c e) rfl ?_
  refine RuP.step (pc' := 3) (ls' := [some (.inr (.inr (some 82))), some (.inr (.inl x0)), none, some (.inr (.inl 1)), none, none]) (st' := [.inl 0]) (h1 := hp L s c e) rfl ?_
  refine RuP.step (pc' := 5) (ls' := [some (.inr (.inr (some 82))), some (.inr (.inl x0)), none, some (.inr (.inl 1)), none, some (.inl 0)]) (st' := []) (h1 := hp L s c e) rfl ?_
  exact bl_137_5 FU _ _ _ _ _ h
/-- MachineText$Reader.wordLine()V -/
noncomputable def f_141 (s : Sg) : Option (Sum (Sg) (Nat × Sg)) :=
  (xb (f_92 16 s) fun q1 =>
  (xb (f_93 1 64 q1) fun q2 =>
  (xb (f_92 59 (ax_u2 q2.2 54 7 q2.1)) fun q3 =>
  some (.inl q3))))
theorem ev_141 {L c : Nat} {e : Nat → Nat} {s : Sg} {q : Sum (Sg) (Nat × Sg)} (h : f_141 s = some q) : EvP 3 141 [.inr (.inr (some 70))] (hp L s c e) (oX L c (oV L c e) q) := by
  unfold f_141 at h
  refine EvP.of (μ := tb_m141) (ls := [some (.inr (.inr (some 70)))]) rfl (Nat.le_of_ble_eq_true rfl) rfl ?_
  refine RuP.step (pc' := 1) (ls' := [some (.inr (.inr (some 70)))]) (st' := [.inr (.inr (some 70))]) (h1 := hp L s c e) rfl ?_
  refine RuP.step (pc' := 4) (ls' := [some (.inr (.inr (some 70)))]) (st' := [.inr (.inr (some 39))]) (h1 := hp L s c e) rfl ?_
  refine RuP.step (pc' := 6) (ls' := [some (.inr (.inr (some 70)))]) (st' := [.inl 16, .inr (.inr (some 39))]) (h1 := hp L s c e) rfl ?_
  rcases xb_some h with ⟨q1, h1, h⟩ | ⟨xx1, h1, h2⟩
  rotate_left
  · subst h2
    exact RuP.pass rfl rfl ((ev_92 h1).up (by decide))
  refine RuP.cV rfl ((ev_92 h1).up (by decide)) ?_
  refine RuP.step (pc' := 10) (ls' := [some (.inr (.inr (some 70)))]) (st' := [.inr (.inr (some 70))]) (h1 := hp L q1 c e) rfl ?_
  refine RuP.step (pc' := 13) (ls' := [some (.inr (.inr (some 70)))]) (st' := [.inr (.inr (some 54))]) (h1 := hp L q1 c e) rfl ?_
  refine RuP.step (pc' := 14) (ls' := [some (.inr (.inr (some 70)))]) (st' := [.inr (.inr (some 70)), .inr (.inr (some 54))]) (h1 := hp L q1 c e) rfl ?_
  refine RuP.step (pc' := 17) (ls' := [some (.inr (.inr (some 70)))]) (st' := [.inr (.inr (some 39)), .inr (.inr (some 54))]) (h1 := hp L q1 c e) rfl ?_
  refine RuP.step (pc' := 18) (ls' := [some (.inr (.inr (some 70)))]) (st' := [.inl 1, .inr (.inr (some 39)), .inr (.inr (some 54))]) (h1 := hp L q1 c e) rfl ?_
  refine RuP.step (pc' := 20) (ls' := [some (.inr (.inr (some 70)))]) (st' := [.inl 64, .inl 1, .inr (.inr (some 39)), .inr (.inr (some 54))]) (h1 := hp L q1 c e) rfl ?_
  rcases xb_some h with ⟨q2, h1, h⟩ | ⟨xx1, h1, h2⟩
  rotate_left
  · subst h2
    exact RuP.pass rfl rfl ((ev_93 h1).up (by decide))
  refine RuP.cI rfl ((ev_93 h1).up (by decide)) ?_
  refine RuP.step (pc' := 26) (ls' := [some (.inr (.inr (some 70)))]) (st' := []) (h1 := hp L (ax_u2 q2.2 54 7 q2.1) c e) rfl ?_
  refine RuP.step (pc' := 27) (ls' := [some (.inr (.inr (some 70)))]) (st' := [.inr (.inr (some 70))]) (h1 := hp L (ax_u2 q2.2 54 7 q2.1) c e) rfl ?_
  refine RuP.step (pc' := 30) (ls' := [some (.inr (.inr (some 70)))]) (st' := [.inr (.inr (some 39))]) (h1 := hp L (ax_u2 q2.2 54 7 q2.1) c e) rfl ?_
  refine RuP.step (pc' := 32) (ls' := [some (.inr (.inr (some 70)))]) (st' := [.inl 59, .inr (.inr (some 39))]) (h1 := hp L (ax_u2 q2.2 54 7 q2.1) c e) rfl ?_
  rcases xb_some h with ⟨q3, h1, h⟩ | ⟨xx1, h1, h2⟩
  rotate_left
  · subst h2
    exact RuP.pass rfl rfl ((ev_92 h1).up (by decide))
  refine RuP.cV rfl ((ev_92 h1).up (by decide)) ?_
  cases h
  exact RuP.dV rfl
/-- MachineText$Reader.openBody(II)V -/
noncomputable def f_154 (x0 x1 : Int) (s : Sg) : Option (Sum (Sg) (Nat × Sg)) :=
  (if s 70 9 < 80 then
    (xb (f_92 123 s) fun q1 =>
    (gd (0 ≤ q1 70 9 ∧ q1 70 9 < 80) (
    (gd (0 ≤ q1 70 9 ∧ q1 70 9 < 80) (
    some (.inl (ax_u2 (ax_u2 (ax_u2 q1 71 ((q1 70 9).toNat) x0) 72 ((q1 70 9).toNat) x1) 70 9 (ax_w32 ((q1 70 9) + 1)))))))))
  else
    some (.inr (14, s)))
theorem ev_154 {L c : Nat} {e : Nat → Nat} {s : Sg} {x0 x1 : Int} {q : Sum (Sg) (Nat × Sg)} (h : f_154 x0 x1 s = some q) : EvP 3 154 [.inr (.inr (some 70)), .inl x0, .inl x1] (hp L s c e) (oX L c (oV L c e) q) := by
  unfold f_154 at h
  refine EvP.of (μ := tb_m154) (ls := [some (.inr (.inr (some 70))), some (.inl x0), some (.inl x1)]) rfl (Nat.le_of_ble_eq_true rfl) rfl ?_
  refine RuP.step (pc' := 1) (ls' := [some (.inr (.inr (some 70))), some (.inl x0), some (.inl x1)]) (st' := [.inr (.inr (some 70))]) (h1 := hp L s c e) rfl ?_
  refine RuP.step (pc' := 4) (ls' := [some (.inr (.inr (some 70))), some (.inl x0), some (.inl x1)]) (st' := [.inl (s 70 9)]) (h1 := hp L s c e) rfl ?_
  refine RuP.step (pc' := 6) (ls' := [some (.inr (.inr (some 70))), some (.inl x0), some (.inl x1)]) (st' := [.inl 80, .inl (s 70 9)]) (h1 := hp L s c e) rfl ?_
  by_cases h0 : s 70 9 < 80
  · rw [if_pos h0] at h
    refine RuP.jy rfl h0 ?_
    refine RuP.step (pc' := 20) (ls' := [some (.inr (.inr (some 70))), some (.inl x0), some (.inl x1)]) (st' := [.inr (.inr (some 70))]) (h1 := hp L s c e) rfl ?_
    refine RuP.step (pc' := 23) (ls' := [some (.inr (.inr (some 70))), some (.inl x0), some (.inl x1)]) (st' := [.inr (.inr (some 39))]) (h1 := hp L s c e) rfl ?_
    refine RuP.step (pc' := 25) (ls' := [some (.inr (.inr (some 70))), some (.inl x0), some (.inl x1)]) (st' := [.inl 123, .inr (.inr (some 39))]) (h1 := hp L s c e) rfl ?_
    rcases xb_some h with ⟨q1, h1, h⟩ | ⟨xx1, h1, h2⟩
    rotate_left
    · subst h2
      exact RuP.pass rfl rfl ((ev_92 h1).up (by decide))
    refine RuP.cV rfl ((ev_92 h1).up (by decide)) ?_
    refine RuP.step (pc' := 29) (ls' := [some (.inr (.inr (some 70))), some (.inl x0), some (.inl x1)]) (st' := [.inr (.inr (some 70))]) (h1 := hp L q1 c e) rfl ?_
    refine RuP.step (pc' := 32) (ls' := [some (.inr (.inr (some 70))), some (.inl x0), some (.inl x1)]) (st' := [.inr (.inr (some 71))]) (h1 := hp L q1 c e) rfl ?_
    refine RuP.step (pc' := 33) (ls' := [some (.inr (.inr (some 70))), some (.inl x0), some (.inl x1)]) (st' := [.inr (.inr (some 70)), .inr (.inr (some 71))]) (h1 := hp L q1 c e) rfl ?_
    refine RuP.step (pc' := 36) (ls' := [some (.inr (.inr (some 70))), some (.inl x0), some (.inl x1)]) (st' := [.inl (q1 70 9), .inr (.inr (some 71))]) (h1 := hp L q1 c e) rfl ?_
    refine RuP.step (pc' := 37) (ls' := [some (.inr (.inr (some 70))), some (.inl x0), some (.inl x1)]) (st' := [.inl x0, .inl (q1 70 9), .inr (.inr (some 71))]) (h1 := hp L q1 c e) rfl ?_
    obtain ⟨b1, h⟩ := gd_some h
    refine RuP.ast (f := fun t => t == 0) (j := q1 70 9) (a := 71) rfl rfl (by decide) rfl rfl b1.1 b1.2 ?_
    refine RuP.step (pc' := 39) (ls' := [some (.inr (.inr (some 70))), some (.inl x0), some (.inl x1)]) (st' := [.inr (.inr (some 70))]) (h1 := hp L (ax_u2 q1 71 ((q1 70 9).toNat) x0) c e) rfl ?_
    refine RuP.step (pc' := 42) (ls' := [some (.inr (.inr (some 70))), some (.inl x0), some (.inl x1)]) (st' := [.inr (.inr (some 72))]) (h1 := hp L (ax_u2 q1 71 ((q1 70 9).toNat) x0) c e) rfl ?_
    refine RuP.step (pc' := 43) (ls' := [some (.inr (.inr (some 70))), some (.inl x0), some (.inl x1)]) (st' := [.inr (.inr (some 70)), .inr (.inr (some 72))]) (h1 := hp L (ax_u2 q1 71 ((q1 70 9).toNat) x0) c e) rfl ?_
    refine RuP.step (pc' := 46) (ls' := [some (.inr (.inr (some 70))), some (.inl x0), some (.inl x1)]) (st' := [.inl (q1 70 9), .inr (.inr (some 72))]) (h1 := hp L (ax_u2 q1 71 ((q1 70 9).toNat) x0) c e) rfl ?_
    refine RuP.step (pc' := 47) (ls' := [some (.inr (.inr (some 70))), some (.inl x0), some (.inl x1)]) (st' := [.inl x1, .inl (q1 70 9), .inr (.inr (some 72))]) (h1 := hp L (ax_u2 q1 71 ((q1 70 9).toNat) x0) c e) rfl ?_
    obtain ⟨b2, h⟩ := gd_some h
    refine RuP.ast (f := fun t => t == 0) (j := q1 70 9) (a := 72) rfl rfl (by decide) rfl rfl b2.1 b2.2 ?_
    refine RuP.step (pc' := 49) (ls' := [some (.inr (.inr (some 70))), some (.inl x0), some (.inl x1)]) (st' := [.inr (.inr (some 70))]) (h1 := hp L (ax_u2 (ax_u2 q1 71 ((q1 70 9).toNat) x0) 72 ((q1 70 9).toNat) x1) c e) rfl ?_
    refine RuP.step (pc' := 50) (ls' := [some (.inr (.inr (some 70))), some (.inl x0), some (.inl x1)]) (st' := [.inr (.inr (some 70)), .inr (.inr (some 70))]) (h1 := hp L (ax_u2 (ax_u2 q1 71 ((q1 70 9).toNat) x0) 72 ((q1 70 9).toNat) x1) c e) rfl ?_
    refine RuP.step (pc' := 53) (ls' := [some (.inr (.inr (some 70))), some (.inl x0), some (.inl x1)]) (st' := [.inl (q1 70 9), .inr (.inr (some 70))]) (h1 := hp L (ax_u2 (ax_u2 q1 71 ((q1 70 9).toNat) x0) 72 ((q1 70 9).toNat) x1) c e) rfl ?_
    refine RuP.step (pc' := 54) (ls' := [some (.inr (.inr (some 70))), some (.inl x0), some (.inl x1)]) (st' := [.inl 1, .inl (q1 70 9), .inr (.inr (some 70))]) (h1 := hp L (ax_u2 (ax_u2 q1 71 ((q1 70 9).toNat) x0) 72 ((q1 70 9).toNat) x1) c e) rfl ?_
    refine RuP.step (pc' := 55) (ls' := [some (.inr (.inr (some 70))), some (.inl x0), some (.inl x1)]) (st' := [.inl (ax_w32 ((q1 70 9) + 1)), .inr (.inr (some 70))]) (h1 := hp L (ax_u2 (ax_u2 q1 71 ((q1 70 9).toNat) x0) 72 ((q1 70 9).toNat) x1) c e) rfl ?_
    refine RuP.step (pc' := 58) (ls' := [some (.inr (.inr (some 70))), some (.inl x0), some (.inl x1)]) (st' := []) (h1 := hp L (ax_u2 (ax_u2 (ax_u2 q1 71 ((q1 70 9).toNat) x0) 72 ((q1 70 9).toNat) x1) 70 9 (ax_w32 ((q1 70 9) + 1))) c e) rfl ?_
    cases h
    exact RuP.dV rfl
  · rw [if_neg h0] at h
    refine RuP.jn rfl h0 ?_
    cases h
    exact RuP.thr (m := 11) (p2 := 15) rfl (fun _ => rfl) (fun _ => rfl) (fun _ _ => rfl) (Nat.le_of_ble_eq_true rfl) rfl rfl
/-- MachineText$Reader.bind(III)V -/
noncomputable def j_155_27 (l1 l3 : Int) (s : Sg) : Option Sg :=
  (gd (g_108 l1 l3 s) (
  ((some (f_108 l1 l3 s)).bind fun q1 =>
  some q1)))
theorem bl_155_27 {L c : Nat} {e : Nat → Nat} : ∀ (z2 : Int) (l1 l3 : Int) (s : Sg) (q : Sg), j_155_27 l1 l3 s = some q → RuP 2 tb_m155 27 [some (.inr (.inr (some 70))), some (.inl l1), some (.inl z2), some (.inl l3)] [] (hp L s c e) (oV L c e q) := by
  intro z2 l1 l3 s q h
  unfold j_155_27 at h
  refine RuP.step (pc' := 28) (ls' := [some (.inr (.inr (some 70))), some (.inl l1), some (.inl z2), some (.inl l3)]) (st' := [.inr (.inr (some 70))]) (h1 := hp L s c e) rfl ?_
  refine RuP.step (pc' := 31) (ls' := [some (.inr (.inr (some 70))), some (.inl l1), some (.inl z2), some (.inl l3)]) (st' := [.inr (.inr (some 31))]) (h1 := hp L s c e) rfl ?_
  refine RuP.step (pc' := 32) (ls' := [some (.inr (.inr (some 70))), some (.inl l1), some (.inl z2), some (.inl l3)]) (st' := [.inl l1, .inr (.inr (some 31))]) (h1 := hp L s c e) rfl ?_
  refine RuP.step (pc' := 33) (ls' := [some (.inr (.inr (some 70))), some (.inl l1), some (.inl z2), some (.inl l3)]) (st' := [.inl l3, .inl l1, .inr (.inr (some 31))]) (h1 := hp L s c e) rfl ?_
  obtain ⟨b0, h⟩ := gd_some h
  obtain ⟨q1, h1, h⟩ := bd_some h
  refine RuP.cVe h1 rfl (EvP.v ((ev_108 l1 l3 b0).up (by decide))) ?_
  cases h
  exact RuP.dV rfl
noncomputable def f_155 (x0 x1 x2 : Int) (s : Sg) : Option Sg :=
  (gd (g_106 x0 s) (
  (if f_106 x0 s = 0 then
    j_155_27 x0 x2 s
  else
    (gd (g_80 x1 s) (
    (gd (g_71 5 (f_80 x1 s) s) (
    ((some (f_71 5 (f_80 x1 s) s)).bind fun q2 =>
    j_155_27 x0 x2 q2))))))))
theorem ev_155 {L c : Nat} {e : Nat → Nat} {s : Sg} {x0 x1 x2 : Int} {q : Sg} (h : f_155 x0 x1 x2 s = some q) : EvP 3 155 [.inr (.inr (some 70)), .inl x0, .inl x1, .inl x2] (hp L s c e) (oV L c e q) := by
  unfold f_155 at h
  refine EvP.of (μ := tb_m155) (ls := [some (.inr (.inr (some 70))), some (.inl x0), some (.inl x1), some (.inl x2)]) rfl (Nat.le_of_ble_eq_true rfl) rfl ?_
  refine RuP.step (pc' := 1) (ls' := [some (.inr (.inr (some 70))), some (.inl x0), some (.inl x1), some (.inl x2)]) (st' := [.inr (.inr (some 70))]) (h1 := hp L s c e) rfl ?_
  refine RuP.step (pc' := 4) (ls' := [some (.inr (.inr (some 70))), some (.inl x0), some (.inl x1), some (.inl x2)]) (st' := [.inr (.inr (some 31))]) (h1 := hp L s c e) rfl ?_
  refine RuP.step (pc' := 5) (ls' := [some (.inr (.inr (some 70))), some (.inl x0), some (.inl x1), some (.inl x2)]) (st' := [.inl x0, .inr (.inr (some 31))]) (h1 := hp L s c e) rfl ?_
  obtain ⟨b0, h⟩ := gd_some h
  refine RuP.cI rfl (EvP.i ((ev_106 x0 b0).up (by decide))) ?_
  by_cases h1 : f_106 x0 s = 0
  · rw [if_pos h1] at h
    refine RuP.jy rfl h1 ?_
    exact bl_155_27 _ _ _ _ _ h
  · rw [if_neg h1] at h
    refine RuP.jn rfl h1 ?_
    refine RuP.step (pc' := 12) (ls' := [some (.inr (.inr (some 70))), some (.inl x0), some (.inl x1), some (.inl x2)]) (st' := [.inr (.inr (some 70))]) (h1 := hp L s c e) rfl ?_
    refine RuP.step (pc' := 15) (ls' := [some (.inr (.inr (some 70))), some (.inl x0), some (.inl x1), some (.inl x2)]) (st' := [.inr (.inr (some 29))]) (h1 := hp L s c e) rfl ?_
    refine RuP.step (pc' := 16) (ls' := [some (.inr (.inr (some 70))), some (.inl x0), some (.inl x1), some (.inl x2)]) (st' := [.inl 5, .inr (.inr (some 29))]) (h1 := hp L s c e) rfl ?_
    refine RuP.step (pc' := 17) (ls' := [some (.inr (.inr (some 70))), some (.inl x0), some (.inl x1), some (.inl x2)]) (st' := [.inr (.inr (some 70)), .inl 5, .inr (.inr (some 29))]) (h1 := hp L s c e) rfl ?_
    refine RuP.step (pc' := 20) (ls' := [some (.inr (.inr (some 70))), some (.inl x0), some (.inl x1), some (.inl x2)]) (st' := [.inr (.inr (some 39)), .inl 5, .inr (.inr (some 29))]) (h1 := hp L s c e) rfl ?_
    refine RuP.step (pc' := 21) (ls' := [some (.inr (.inr (some 70))), some (.inl x0), some (.inl x1), some (.inl x2)]) (st' := [.inl x1, .inr (.inr (some 39)), .inl 5, .inr (.inr (some 29))]) (h1 := hp L s c e) rfl ?_
    obtain ⟨b2, h⟩ := gd_some h
    refine RuP.cI rfl (EvP.i ((ev_80 x1 b2).up (by decide))) ?_
    obtain ⟨b3, h⟩ := gd_some h
    obtain ⟨q2, h1, h⟩ := bd_some h
    refine RuP.cVe h1 rfl (EvP.v ((ev_71 5 (f_80 x1 s) b3).up (by decide))) ?_
    exact bl_155_27 _ _ _ _ _ h
/-- MachineText$Reader.head(I)V -/
noncomputable def j_156_51 (l1 l2 l3 : Int) (s : Sg) : Option (Sum (Sg) (Nat × Sg)) :=
  (gd (g_191 l1 l2 (s 46 7) s) (
  ((some (f_191 l1 l2 (s 46 7) s)).bind fun q3 =>
  (gd (g_110 l3 q3.1 q3.2) (
  ((some (f_110 l3 q3.1 q3.2)).bind fun q4 =>
  some (.inl q4)))))))
theorem bl_156_51 {L c : Nat} {e : Nat → Nat} : ∀ (l1 l2 l3 : Int) (s : Sg) (q : Sum (Sg) (Nat × Sg)), j_156_51 l1 l2 l3 s = some q → RuP 2 tb_m156 51 [some (.inr (.inr (some 70))), some (.inl l1), some (.inl l2), some (.inl l3)] [] (hp L s c e) (oX L c (oV L c e) q) := by
  intro l1 l2 l3 s q h
  unfold j_156_51 at h
  refine RuP.step (pc' := 52) (ls' := [some (.inr (.inr (some 70))), some (.inl l1), some (.inl l2), some (.inl l3)]) (st' := [.inr (.inr (some 70))]) (h1 := hp L s c e) rfl ?_
  refine RuP.step (pc' := 55) (ls' := [some (.inr (.inr (some 70))), some (.inl l1), some (.inl l2), some (.inl l3)]) (st' := [.inr (.inr (some 31))]) (h1 := hp L s c e) rfl ?_
  refine RuP.step (pc' := 56) (ls' := [some (.inr (.inr (some 70))), some (.inl l1), some (.inl l2), some (.inl l3)]) (st' := [.inl l3, .inr (.inr (some 31))]) (h1 := hp L s c e) rfl ?_
  refine RuP.step (pc' := 57) (ls' := [some (.inr (.inr (some 70))), some (.inl l1), some (.inl l2), some (.inl l3)]) (st' := [.inr (.inr (some 70)), .inl l3, .inr (.inr (some 31))]) (h1 := hp L s c e) rfl ?_
  refine RuP.step (pc' := 60) (ls' := [some (.inr (.inr (some 70))), some (.inl l1), some (.inl l2), some (.inl l3)]) (st' := [.inr (.inr (some 54)), .inl l3, .inr (.inr (some 31))]) (h1 := hp L s c e) rfl ?_
  refine RuP.step (pc' := 61) (ls' := [some (.inr (.inr (some 70))), some (.inl l1), some (.inl l2), some (.inl l3)]) (st' := [.inl l1, .inr (.inr (some 54)), .inl l3, .inr (.inr (some 31))]) (h1 := hp L s c e) rfl ?_
  refine RuP.step (pc' := 62) (ls' := [some (.inr (.inr (some 70))), some (.inl l1), some (.inl l2), some (.inl l3)]) (st' := [.inl l2, .inl l1, .inr (.inr (some 54)), .inl l3, .inr (.inr (some 31))]) (h1 := hp L s c e) rfl ?_
  refine RuP.step (pc' := 63) (ls' := [some (.inr (.inr (some 70))), some (.inl l1), some (.inl l2), some (.inl l3)]) (st' := [.inr (.inr (some 70)), .inl l2, .inl l1, .inr (.inr (some 54)), .inl l3, .inr (.inr (some 31))]) (h1 := hp L s c e) rfl ?_
  refine RuP.step (pc' := 66) (ls' := [some (.inr (.inr (some 70))), some (.inl l1), some (.inl l2), some (.inl l3)]) (st' := [.inr (.inr (some 46)), .inl l2, .inl l1, .inr (.inr (some 54)), .inl l3, .inr (.inr (some 31))]) (h1 := hp L s c e) rfl ?_
  refine RuP.step (pc' := 69) (ls' := [some (.inr (.inr (some 70))), some (.inl l1), some (.inl l2), some (.inl l3)]) (st' := [.inl (s 46 7), .inl l2, .inl l1, .inr (.inr (some 54)), .inl l3, .inr (.inr (some 31))]) (h1 := hp L s c e) rfl ?_
  obtain ⟨b0, h⟩ := gd_some h
  obtain ⟨q3, h1, h⟩ := bd_some h
  refine RuP.cIe h1 rfl (EvP.ip ((ev_191 l1 l2 (s 46 7) b0).up (by decide))) ?_
  obtain ⟨b1, h⟩ := gd_some h
  obtain ⟨q4, h1, h⟩ := bd_some h
  refine RuP.cVe h1 rfl (EvP.v ((ev_110 l3 q3.1 b1).up (by decide))) ?_
  cases h
  exact RuP.dV rfl
noncomputable def f_156 (x0 : Int) (s : Sg) : Option (Sum (Sg) (Nat × Sg)) :=
  (gd (g_94 s) (
  ((some (f_94 s)).bind fun q1 =>
  (xb (f_96 q1) fun q2 =>
  (gd (g_109 q2.1 q2.2) (
  (if f_109 q2.1 q2.2 = (-1) then
    j_156_51 x0 (q1 39 10) q2.1 q2.2
  else
    (gd (g_80 (q1 39 10) q2.2) (
    (gd (g_71 5 (f_80 (q1 39 10) q2.2) q2.2) (
    ((some (f_71 5 (f_80 (q1 39 10) q2.2) q2.2)).bind fun q5 =>
    j_156_51 x0 (q1 39 10) q2.1 q5))))))))))))
theorem ev_156 {L c : Nat} {e : Nat → Nat} {s : Sg} {x0 : Int} {q : Sum (Sg) (Nat × Sg)} (h : f_156 x0 s = some q) : EvP 3 156 [.inr (.inr (some 70)), .inl x0] (hp L s c e) (oX L c (oV L c e) q) := by
  unfold f_156 at h
  refine EvP.of (μ := tb_m156) (ls := [some (.inr (.inr (some 70))), some (.inl x0), none, none]) rfl (Nat.le_of_ble_eq_true rfl) rfl ?_
  refine RuP.step (pc' := 1) (ls' := [some (.inr (.inr (some 70))), some (.inl x0), none, none]) (st' := [.inr (.inr (some 70))]) (h1 := hp L s c e) rfl ?_
  refine RuP.step (pc' := 4) (ls' := [some (.inr (.inr (some 70))), some (.inl x0), none, none]) (st' := [.inr (.inr (some 39))]) (h1 := hp L s c e) rfl ?_
  obtain ⟨b0, h⟩ := gd_some h
  obtain ⟨q1, h1, h⟩ := bd_some h
  refine RuP.cVe h1 rfl (EvP.v ((ev_94  b0).up (by decide))) ?_
  refine RuP.step (pc' := 8) (ls' := [some (.inr (.inr (some 70))), some (.inl x0), none, none]) (st' := [.inr (.inr (some 70))]) (h1 := hp L q1 c e) rfl ?_
  refine RuP.step (pc' := 11) (ls' := [some (.inr (.inr (some 70))), some (.inl x0), none, none]) (st' := [.inr (.inr (some 39))]) (h1 := hp L q1 c e) rfl ?_
  refine RuP.step (pc' := 14) (ls' := [some (.inr (.inr (some 70))), some (.inl x0), none, none]) (st' := [.inl (q1 39 10)]) (h1 := hp L q1 c e) rfl ?_
  refine RuP.step (pc' := 15) (ls' := [some (.inr (.inr (some 70))), some (.inl x0), some (.inl (q1 39 10)), none]) (st' := []) (h1 := hp L q1 c e) rfl ?_
  refine RuP.step (pc' := 16) (ls' := [some (.inr (.inr (some 70))), some (.inl x0), some (.inl (q1 39 10)), none]) (st' := [.inr (.inr (some 70))]) (h1 := hp L q1 c e) rfl ?_
  refine RuP.step (pc' := 19) (ls' := [some (.inr (.inr (some 70))), some (.inl x0), some (.inl (q1 39 10)), none]) (st' := [.inr (.inr (some 39))]) (h1 := hp L q1 c e) rfl ?_
  rcases xb_some h with ⟨q2, h1, h⟩ | ⟨xx1, h1, h2⟩
  rotate_left
  · subst h2
    exact RuP.pass rfl rfl ((ev_96 h1).up (by decide))
  refine RuP.cI rfl ((ev_96 h1).up (by decide)) ?_
  refine RuP.step (pc' := 23) (ls' := [some (.inr (.inr (some 70))), some (.inl x0), some (.inl (q1 39 10)), some (.inl q2.1)]) (st' := []) (h1 := hp L q2.2 c e) rfl ?_
  refine RuP.step (pc' := 24) (ls' := [some (.inr (.inr (some 70))), some (.inl x0), some (.inl (q1 39 10)), some (.inl q2.1)]) (st' := [.inr (.inr (some 70))]) (h1 := hp L q2.2 c e) rfl ?_
  refine RuP.step (pc' := 27) (ls' := [some (.inr (.inr (some 70))), some (.inl x0), some (.inl (q1 39 10)), some (.inl q2.1)]) (st' := [.inr (.inr (some 31))]) (h1 := hp L q2.2 c e) rfl ?_
  refine RuP.step (pc' := 28) (ls' := [some (.inr (.inr (some 70))), some (.inl x0), some (.inl (q1 39 10)), some (.inl q2.1)]) (st' := [.inl q2.1, .inr (.inr (some 31))]) (h1 := hp L q2.2 c e) rfl ?_
  obtain ⟨b1, h⟩ := gd_some h
  refine RuP.cI rfl (EvP.i ((ev_109 q2.1 b1).up (by decide))) ?_
  refine RuP.step (pc' := 32) (ls' := [some (.inr (.inr (some 70))), some (.inl x0), some (.inl (q1 39 10)), some (.inl q2.1)]) (st' := [.inl (-1), .inl (f_109 q2.1 q2.2)]) (h1 := hp L q2.2 c e) rfl ?_
  by_cases h2 : f_109 q2.1 q2.2 = (-1)
  · rw [if_pos h2] at h
    refine RuP.jy rfl h2 ?_
    exact bl_156_51 _ _ _ _ _ h
  · rw [if_neg h2] at h
    refine RuP.jn rfl h2 ?_
    refine RuP.step (pc' := 36) (ls' := [some (.inr (.inr (some 70))), some (.inl x0), some (.inl (q1 39 10)), some (.inl q2.1)]) (st' := [.inr (.inr (some 70))]) (h1 := hp L q2.2 c e) rfl ?_
    refine RuP.step (pc' := 39) (ls' := [some (.inr (.inr (some 70))), some (.inl x0), some (.inl (q1 39 10)), some (.inl q2.1)]) (st' := [.inr (.inr (some 29))]) (h1 := hp L q2.2 c e) rfl ?_
    refine RuP.step (pc' := 40) (ls' := [some (.inr (.inr (some 70))), some (.inl x0), some (.inl (q1 39 10)), some (.inl q2.1)]) (st' := [.inl 5, .inr (.inr (some 29))]) (h1 := hp L q2.2 c e) rfl ?_
    refine RuP.step (pc' := 41) (ls' := [some (.inr (.inr (some 70))), some (.inl x0), some (.inl (q1 39 10)), some (.inl q2.1)]) (st' := [.inr (.inr (some 70)), .inl 5, .inr (.inr (some 29))]) (h1 := hp L q2.2 c e) rfl ?_
    refine RuP.step (pc' := 44) (ls' := [some (.inr (.inr (some 70))), some (.inl x0), some (.inl (q1 39 10)), some (.inl q2.1)]) (st' := [.inr (.inr (some 39)), .inl 5, .inr (.inr (some 29))]) (h1 := hp L q2.2 c e) rfl ?_
    refine RuP.step (pc' := 45) (ls' := [some (.inr (.inr (some 70))), some (.inl x0), some (.inl (q1 39 10)), some (.inl q2.1)]) (st' := [.inl (q1 39 10), .inr (.inr (some 39)), .inl 5, .inr (.inr (some 29))]) (h1 := hp L q2.2 c e) rfl ?_
    obtain ⟨b3, h⟩ := gd_some h
    refine RuP.cI rfl (EvP.i ((ev_80 (q1 39 10) b3).up (by decide))) ?_
    obtain ⟨b4, h⟩ := gd_some h
    obtain ⟨q5, h1, h⟩ := bd_some h
    refine RuP.cVe h1 rfl (EvP.v ((ev_71 5 (f_80 (q1 39 10) q2.2) b4).up (by decide))) ?_
    exact bl_156_51 _ _ _ _ _ h
/-- MachineText$Reader.parameter()V -/
noncomputable def f_157 (s : Sg) : Option (Sum (Sg) (Nat × Sg)) :=
  (xb (f_96 s) fun q1 =>
  (xb (f_93 1 32 q1.2) fun q2 =>
  ((f_155 q1.1 (s 39 10) q2.1 q2.2).bind fun q3 =>
  (gd (g_189 1 q3) (
  ((some (f_189 1 q3)).bind fun q4 =>
  some (.inl q4)))))))
theorem ev_157 {L c : Nat} {e : Nat → Nat} {s : Sg} {q : Sum (Sg) (Nat × Sg)} (h : f_157 s = some q) : EvP 4 157 [.inr (.inr (some 70))] (hp L s c e) (oX L c (oV L c e) q) := by
  unfold f_157 at h
  refine EvP.of (μ := tb_m157) (ls := [some (.inr (.inr (some 70))), none, none]) rfl (Nat.le_of_ble_eq_true rfl) rfl ?_
  refine RuP.step (pc' := 1) (ls' := [some (.inr (.inr (some 70))), none, none]) (st' := [.inr (.inr (some 70))]) (h1 := hp L s c e) rfl ?_
  refine RuP.step (pc' := 4) (ls' := [some (.inr (.inr (some 70))), none, none]) (st' := [.inr (.inr (some 39))]) (h1 := hp L s c e) rfl ?_
  refine RuP.step (pc' := 7) (ls' := [some (.inr (.inr (some 70))), none, none]) (st' := [.inl (s 39 10)]) (h1 := hp L s c e) rfl ?_
  refine RuP.step (pc' := 8) (ls' := [some (.inr (.inr (some 70))), some (.inl (s 39 10)), none]) (st' := []) (h1 := hp L s c e) rfl ?_
  refine RuP.step (pc' := 9) (ls' := [some (.inr (.inr (some 70))), some (.inl (s 39 10)), none]) (st' := [.inr (.inr (some 70))]) (h1 := hp L s c e) rfl ?_
  refine RuP.step (pc' := 12) (ls' := [some (.inr (.inr (some 70))), some (.inl (s 39 10)), none]) (st' := [.inr (.inr (some 39))]) (h1 := hp L s c e) rfl ?_
  rcases xb_some h with ⟨q1, h1, h⟩ | ⟨xx1, h1, h2⟩
  rotate_left
  · subst h2
    exact RuP.pass rfl rfl ((ev_96 h1).up (by decide))
  refine RuP.cI rfl ((ev_96 h1).up (by decide)) ?_
  refine RuP.step (pc' := 16) (ls' := [some (.inr (.inr (some 70))), some (.inl (s 39 10)), some (.inl q1.1)]) (st' := []) (h1 := hp L q1.2 c e) rfl ?_
  refine RuP.step (pc' := 17) (ls' := [some (.inr (.inr (some 70))), some (.inl (s 39 10)), some (.inl q1.1)]) (st' := [.inr (.inr (some 70))]) (h1 := hp L q1.2 c e) rfl ?_
  refine RuP.step (pc' := 18) (ls' := [some (.inr (.inr (some 70))), some (.inl (s 39 10)), some (.inl q1.1)]) (st' := [.inl q1.1, .inr (.inr (some 70))]) (h1 := hp L q1.2 c e) rfl ?_
  refine RuP.step (pc' := 19) (ls' := [some (.inr (.inr (some 70))), some (.inl (s 39 10)), some (.inl q1.1)]) (st' := [.inl (s 39 10), .inl q1.1, .inr (.inr (some 70))]) (h1 := hp L q1.2 c e) rfl ?_
  refine RuP.step (pc' := 20) (ls' := [some (.inr (.inr (some 70))), some (.inl (s 39 10)), some (.inl q1.1)]) (st' := [.inr (.inr (some 70)), .inl (s 39 10), .inl q1.1, .inr (.inr (some 70))]) (h1 := hp L q1.2 c e) rfl ?_
  refine RuP.step (pc' := 23) (ls' := [some (.inr (.inr (some 70))), some (.inl (s 39 10)), some (.inl q1.1)]) (st' := [.inr (.inr (some 39)), .inl (s 39 10), .inl q1.1, .inr (.inr (some 70))]) (h1 := hp L q1.2 c e) rfl ?_
  refine RuP.step (pc' := 24) (ls' := [some (.inr (.inr (some 70))), some (.inl (s 39 10)), some (.inl q1.1)]) (st' := [.inl 1, .inr (.inr (some 39)), .inl (s 39 10), .inl q1.1, .inr (.inr (some 70))]) (h1 := hp L q1.2 c e) rfl ?_
  refine RuP.step (pc' := 26) (ls' := [some (.inr (.inr (some 70))), some (.inl (s 39 10)), some (.inl q1.1)]) (st' := [.inl 32, .inl 1, .inr (.inr (some 39)), .inl (s 39 10), .inl q1.1, .inr (.inr (some 70))]) (h1 := hp L q1.2 c e) rfl ?_
  rcases xb_some h with ⟨q2, h1, h⟩ | ⟨xx1, h1, h2⟩
  rotate_left
  · subst h2
    exact RuP.pass rfl rfl ((ev_93 h1).up (by decide))
  refine RuP.cI rfl ((ev_93 h1).up (by decide)) ?_
  obtain ⟨q3, h1, h⟩ := bd_some h
  refine RuP.cV rfl ((ev_155 h1).up (by decide)) ?_
  refine RuP.step (pc' := 33) (ls' := [some (.inr (.inr (some 70))), some (.inl (s 39 10)), some (.inl q1.1)]) (st' := [.inr (.inr (some 70))]) (h1 := hp L q3 c e) rfl ?_
  refine RuP.step (pc' := 36) (ls' := [some (.inr (.inr (some 70))), some (.inl (s 39 10)), some (.inl q1.1)]) (st' := [.inr (.inr (some 54))]) (h1 := hp L q3 c e) rfl ?_
  refine RuP.step (pc' := 37) (ls' := [some (.inr (.inr (some 70))), some (.inl (s 39 10)), some (.inl q1.1)]) (st' := [.inl 1, .inr (.inr (some 54))]) (h1 := hp L q3 c e) rfl ?_
  obtain ⟨b0, h⟩ := gd_some h
  obtain ⟨q4, h1, h⟩ := bd_some h
  refine RuP.cVe h1 rfl (EvP.v ((ev_189 1 b0).up (by decide))) ?_
  cases h
  exact RuP.dV rfl
/-- MachineText$Reader.bitsPart()V -/
noncomputable def j_158_35 (l1 : Int) (s : Sg) : Option Sg :=
  (gd (g_99 l1 3 s) (
  ((some (f_99 l1 3 s)).bind fun q2 =>
  (gd (g_82 l1 q2) (
  (gd (g_190 (f_82 l1 q2) q2) (
  ((some (f_190 (f_82 l1 q2) q2)).bind fun q3 =>
  (gd (g_94 q3) (
  ((some (f_94 q3)).bind fun q4 =>
  some q4)))))))))))
theorem bl_158_35 {L c : Nat} {e : Nat → Nat} : ∀ (l1 : Int) (s : Sg) (q : Sg), j_158_35 l1 s = some q → RuP 2 tb_m158 35 [some (.inr (.inr (some 70))), some (.inl l1)] [] (hp L s c e) (oV L c e q) := by
  intro l1 s q h
  unfold j_158_35 at h
  refine RuP.step (pc' := 36) (ls' := [some (.inr (.inr (some 70))), some (.inl l1)]) (st' := [.inr (.inr (some 70))]) (h1 := hp L s c e) rfl ?_
  refine RuP.step (pc' := 39) (ls' := [some (.inr (.inr (some 70))), some (.inl l1)]) (st' := [.inr (.inr (some 39))]) (h1 := hp L s c e) rfl ?_
  refine RuP.step (pc' := 40) (ls' := [some (.inr (.inr (some 70))), some (.inl l1)]) (st' := [.inl l1, .inr (.inr (some 39))]) (h1 := hp L s c e) rfl ?_
  refine RuP.step (pc' := 41) (ls' := [some (.inr (.inr (some 70))), some (.inl l1)]) (st' := [.inl 3, .inl l1, .inr (.inr (some 39))]) (h1 := hp L s c e) rfl ?_
  obtain ⟨b0, h⟩ := gd_some h
  obtain ⟨q2, h1, h⟩ := bd_some h
  refine RuP.cVe h1 rfl (EvP.v ((ev_99 l1 3 b0).up (by decide))) ?_
  refine RuP.step (pc' := 45) (ls' := [some (.inr (.inr (some 70))), some (.inl l1)]) (st' := [.inr (.inr (some 70))]) (h1 := hp L q2 c e) rfl ?_
  refine RuP.step (pc' := 48) (ls' := [some (.inr (.inr (some 70))), some (.inl l1)]) (st' := [.inr (.inr (some 54))]) (h1 := hp L q2 c e) rfl ?_
  refine RuP.step (pc' := 49) (ls' := [some (.inr (.inr (some 70))), some (.inl l1)]) (st' := [.inr (.inr (some 70)), .inr (.inr (some 54))]) (h1 := hp L q2 c e) rfl ?_
  refine RuP.step (pc' := 52) (ls' := [some (.inr (.inr (some 70))), some (.inl l1)]) (st' := [.inr (.inr (some 39)), .inr (.inr (some 54))]) (h1 := hp L q2 c e) rfl ?_
  refine RuP.step (pc' := 53) (ls' := [some (.inr (.inr (some 70))), some (.inl l1)]) (st' := [.inl l1, .inr (.inr (some 39)), .inr (.inr (some 54))]) (h1 := hp L q2 c e) rfl ?_
  obtain ⟨b1, h⟩ := gd_some h
  refine RuP.cI rfl (EvP.i ((ev_82 l1 b1).up (by decide))) ?_
  obtain ⟨b2, h⟩ := gd_some h
  obtain ⟨q3, h1, h⟩ := bd_some h
  refine RuP.cVe h1 rfl (EvP.v ((ev_190 (f_82 l1 q2) b2).up (by decide))) ?_
  refine RuP.step (pc' := 60) (ls' := [some (.inr (.inr (some 70))), some (.inl l1)]) (st' := [.inr (.inr (some 70))]) (h1 := hp L q3 c e) rfl ?_
  refine RuP.step (pc' := 63) (ls' := [some (.inr (.inr (some 70))), some (.inl l1)]) (st' := [.inr (.inr (some 39))]) (h1 := hp L q3 c e) rfl ?_
  obtain ⟨b3, h⟩ := gd_some h
  obtain ⟨q4, h1, h⟩ := bd_some h
  refine RuP.cVe h1 rfl (EvP.v ((ev_94  b3).up (by decide))) ?_
  cases h
  exact RuP.dV rfl
noncomputable def f_158 (s : Sg) : Option Sg :=
  ((f_98 (s 39 10) s).bind fun q1 =>
  (if ¬ q1 = 0 then
    j_158_35 (s 39 10) s
  else
    (gd (g_80 (s 39 10) s) (
    (gd (g_71 4 (f_80 (s 39 10) s) s) (
    ((some (f_71 4 (f_80 (s 39 10) s) s)).bind fun q5 =>
    j_158_35 (s 39 10) q5)))))))
theorem ev_158 {L c : Nat} {e : Nat → Nat} {s : Sg} {q : Sg} (h : f_158 s = some q) : EvP 3 158 [.inr (.inr (some 70))] (hp L s c e) (oV L c e q) := by
  unfold f_158 at h
  refine EvP.of (μ := tb_m158) (ls := [some (.inr (.inr (some 70))), none]) rfl (Nat.le_of_ble_eq_true rfl) rfl ?_
  refine RuP.step (pc' := 1) (ls' := [some (.inr (.inr (some 70))), none]) (st' := [.inr (.inr (some 70))]) (h1 := hp L s c e) rfl ?_
  refine RuP.step (pc' := 4) (ls' := [some (.inr (.inr (some 70))), none]) (st' := [.inr (.inr (some 39))]) (h1 := hp L s c e) rfl ?_
  refine RuP.step (pc' := 7) (ls' := [some (.inr (.inr (some 70))), none]) (st' := [.inl (s 39 10)]) (h1 := hp L s c e) rfl ?_
  refine RuP.step (pc' := 8) (ls' := [some (.inr (.inr (some 70))), some (.inl (s 39 10))]) (st' := []) (h1 := hp L s c e) rfl ?_
  refine RuP.step (pc' := 9) (ls' := [some (.inr (.inr (some 70))), some (.inl (s 39 10))]) (st' := [.inr (.inr (some 70))]) (h1 := hp L s c e) rfl ?_
  refine RuP.step (pc' := 12) (ls' := [some (.inr (.inr (some 70))), some (.inl (s 39 10))]) (st' := [.inr (.inr (some 39))]) (h1 := hp L s c e) rfl ?_
  refine RuP.step (pc' := 13) (ls' := [some (.inr (.inr (some 70))), some (.inl (s 39 10))]) (st' := [.inl (s 39 10), .inr (.inr (some 39))]) (h1 := hp L s c e) rfl ?_
  obtain ⟨q1, h1, h⟩ := bd_some h
  refine RuP.cI rfl ((ev_98 h1).up (by decide)) ?_
  by_cases h0 : ¬ q1 = 0
  · rw [if_pos h0] at h
    refine RuP.jy rfl h0 ?_
    exact bl_158_35 _ _ _ h
  · rw [if_neg h0] at h
    refine RuP.jn rfl h0 ?_
    refine RuP.step (pc' := 20) (ls' := [some (.inr (.inr (some 70))), some (.inl (s 39 10))]) (st' := [.inr (.inr (some 70))]) (h1 := hp L s c e) rfl ?_
    refine RuP.step (pc' := 23) (ls' := [some (.inr (.inr (some 70))), some (.inl (s 39 10))]) (st' := [.inr (.inr (some 29))]) (h1 := hp L s c e) rfl ?_
    refine RuP.step (pc' := 24) (ls' := [some (.inr (.inr (some 70))), some (.inl (s 39 10))]) (st' := [.inl 4, .inr (.inr (some 29))]) (h1 := hp L s c e) rfl ?_
    refine RuP.step (pc' := 25) (ls' := [some (.inr (.inr (some 70))), some (.inl (s 39 10))]) (st' := [.inr (.inr (some 70)), .inl 4, .inr (.inr (some 29))]) (h1 := hp L s c e) rfl ?_
    refine RuP.step (pc' := 28) (ls' := [some (.inr (.inr (some 70))), some (.inl (s 39 10))]) (st' := [.inr (.inr (some 39)), .inl 4, .inr (.inr (some 29))]) (h1 := hp L s c e) rfl ?_
    refine RuP.step (pc' := 29) (ls' := [some (.inr (.inr (some 70))), some (.inl (s 39 10))]) (st' := [.inl (s 39 10), .inr (.inr (some 39)), .inl 4, .inr (.inr (some 29))]) (h1 := hp L s c e) rfl ?_
    obtain ⟨b1, h⟩ := gd_some h
    refine RuP.cI rfl (EvP.i ((ev_80 (s 39 10) b1).up (by decide))) ?_
    obtain ⟨b2, h⟩ := gd_some h
    obtain ⟨q5, h1, h⟩ := bd_some h
    refine RuP.cVe h1 rfl (EvP.v ((ev_71 4 (f_80 (s 39 10) s) b2).up (by decide))) ?_
    exact bl_158_35 _ _ _ h
/-- MachineText$Reader.namedPart()V -/
noncomputable def f_159 (s : Sg) : Option (Sum (Sg) (Nat × Sg)) :=
  (xb (f_96 s) fun q1 =>
  (xb (f_92 58 q1.2) fun q2 =>
  (xb (f_93 1 32 q2) fun q3 =>
  ((f_155 q1.1 (s 39 10) q3.1 q3.2).bind fun q4 =>
  (gd (g_190 q3.1 q4) (
  ((some (f_190 q3.1 q4)).bind fun q5 =>
  some (.inl q5))))))))
theorem ev_159 {L c : Nat} {e : Nat → Nat} {s : Sg} {q : Sum (Sg) (Nat × Sg)} (h : f_159 s = some q) : EvP 4 159 [.inr (.inr (some 70))] (hp L s c e) (oX L c (oV L c e) q) := by
  unfold f_159 at h
  refine EvP.of (μ := tb_m159) (ls := [some (.inr (.inr (some 70))), none, none, none]) rfl (Nat.le_of_ble_eq_true rfl) rfl ?_
  refine RuP.step (pc' := 1) (ls' := [some (.inr (.inr (some 70))), none, none, none]) (st' := [.inr (.inr (some 70))]) (h1 := hp L s c e) rfl ?_
  refine RuP.step (pc' := 4) (ls' := [some (.inr (.inr (some 70))), none, none, none]) (st' := [.inr (.inr (some 39))]) (h1 := hp L s c e) rfl ?_
  refine RuP.step (pc' := 7) (ls' := [some (.inr (.inr (some 70))), none, none, none]) (st' := [.inl (s 39 10)]) (h1 := hp L s c e) rfl ?_
  refine RuP.step (pc' := 8) (ls' := [some (.inr (.inr (some 70))), some (.inl (s 39 10)), none, none]) (st' := []) (h1 := hp L s c e) rfl ?_
  refine RuP.step (pc' := 9) (ls' := [some (.inr (.inr (some 70))), some (.inl (s 39 10)), none, none]) (st' := [.inr (.inr (some 70))]) (h1 := hp L s c e) rfl ?_
  refine RuP.step (pc' := 12) (ls' := [some (.inr (.inr (some 70))), some (.inl (s 39 10)), none, none]) (st' := [.inr (.inr (some 39))]) (h1 := hp L s c e) rfl ?_
  rcases xb_some h with ⟨q1, h1, h⟩ | ⟨xx1, h1, h2⟩
  rotate_left
  · subst h2
    exact RuP.pass rfl rfl ((ev_96 h1).up (by decide))
  refine RuP.cI rfl ((ev_96 h1).up (by decide)) ?_
  refine RuP.step (pc' := 16) (ls' := [some (.inr (.inr (some 70))), some (.inl (s 39 10)), some (.inl q1.1), none]) (st' := []) (h1 := hp L q1.2 c e) rfl ?_
  refine RuP.step (pc' := 17) (ls' := [some (.inr (.inr (some 70))), some (.inl (s 39 10)), some (.inl q1.1), none]) (st' := [.inr (.inr (some 70))]) (h1 := hp L q1.2 c e) rfl ?_
  refine RuP.step (pc' := 20) (ls' := [some (.inr (.inr (some 70))), some (.inl (s 39 10)), some (.inl q1.1), none]) (st' := [.inr (.inr (some 39))]) (h1 := hp L q1.2 c e) rfl ?_
  refine RuP.step (pc' := 22) (ls' := [some (.inr (.inr (some 70))), some (.inl (s 39 10)), some (.inl q1.1), none]) (st' := [.inl 58, .inr (.inr (some 39))]) (h1 := hp L q1.2 c e) rfl ?_
  rcases xb_some h with ⟨q2, h1, h⟩ | ⟨xx1, h1, h2⟩
  rotate_left
  · subst h2
    exact RuP.pass rfl rfl ((ev_92 h1).up (by decide))
  refine RuP.cV rfl ((ev_92 h1).up (by decide)) ?_
  refine RuP.step (pc' := 26) (ls' := [some (.inr (.inr (some 70))), some (.inl (s 39 10)), some (.inl q1.1), none]) (st' := [.inr (.inr (some 70))]) (h1 := hp L q2 c e) rfl ?_
  refine RuP.step (pc' := 29) (ls' := [some (.inr (.inr (some 70))), some (.inl (s 39 10)), some (.inl q1.1), none]) (st' := [.inr (.inr (some 39))]) (h1 := hp L q2 c e) rfl ?_
  refine RuP.step (pc' := 30) (ls' := [some (.inr (.inr (some 70))), some (.inl (s 39 10)), some (.inl q1.1), none]) (st' := [.inl 1, .inr (.inr (some 39))]) (h1 := hp L q2 c e) rfl ?_
  refine RuP.step (pc' := 32) (ls' := [some (.inr (.inr (some 70))), some (.inl (s 39 10)), some (.inl q1.1), none]) (st' := [.inl 32, .inl 1, .inr (.inr (some 39))]) (h1 := hp L q2 c e) rfl ?_
  rcases xb_some h with ⟨q3, h1, h⟩ | ⟨xx1, h1, h2⟩
  rotate_left
  · subst h2
    exact RuP.pass rfl rfl ((ev_93 h1).up (by decide))
  refine RuP.cI rfl ((ev_93 h1).up (by decide)) ?_
  refine RuP.step (pc' := 36) (ls' := [some (.inr (.inr (some 70))), some (.inl (s 39 10)), some (.inl q1.1), some (.inl q3.1)]) (st' := []) (h1 := hp L q3.2 c e) rfl ?_
  refine RuP.step (pc' := 37) (ls' := [some (.inr (.inr (some 70))), some (.inl (s 39 10)), some (.inl q1.1), some (.inl q3.1)]) (st' := [.inr (.inr (some 70))]) (h1 := hp L q3.2 c e) rfl ?_
  refine RuP.step (pc' := 38) (ls' := [some (.inr (.inr (some 70))), some (.inl (s 39 10)), some (.inl q1.1), some (.inl q3.1)]) (st' := [.inl q1.1, .inr (.inr (some 70))]) (h1 := hp L q3.2 c e) rfl ?_
  refine RuP.step (pc' := 39) (ls' := [some (.inr (.inr (some 70))), some (.inl (s 39 10)), some (.inl q1.1), some (.inl q3.1)]) (st' := [.inl (s 39 10), .inl q1.1, .inr (.inr (some 70))]) (h1 := hp L q3.2 c e) rfl ?_
  refine RuP.step (pc' := 40) (ls' := [some (.inr (.inr (some 70))), some (.inl (s 39 10)), some (.inl q1.1), some (.inl q3.1)]) (st' := [.inl q3.1, .inl (s 39 10), .inl q1.1, .inr (.inr (some 70))]) (h1 := hp L q3.2 c e) rfl ?_
  obtain ⟨q4, h1, h⟩ := bd_some h
  refine RuP.cV rfl ((ev_155 h1).up (by decide)) ?_
  refine RuP.step (pc' := 44) (ls' := [some (.inr (.inr (some 70))), some (.inl (s 39 10)), some (.inl q1.1), some (.inl q3.1)]) (st' := [.inr (.inr (some 70))]) (h1 := hp L q4 c e) rfl ?_
  refine RuP.step (pc' := 47) (ls' := [some (.inr (.inr (some 70))), some (.inl (s 39 10)), some (.inl q1.1), some (.inl q3.1)]) (st' := [.inr (.inr (some 54))]) (h1 := hp L q4 c e) rfl ?_
  refine RuP.step (pc' := 48) (ls' := [some (.inr (.inr (some 70))), some (.inl (s 39 10)), some (.inl q1.1), some (.inl q3.1)]) (st' := [.inl q3.1, .inr (.inr (some 54))]) (h1 := hp L q4 c e) rfl ?_
  obtain ⟨b0, h⟩ := gd_some h
  obtain ⟨q5, h1, h⟩ := bd_some h
  refine RuP.cVe h1 rfl (EvP.v ((ev_190 q3.1 b0).up (by decide))) ?_
  cases h
  exact RuP.dV rfl
/-- MachineText$Rings.lastLexeme(I)I -/
noncomputable def j_170_25 : Nat → Int → Sg → Option Int
  | 0, _, _ => none
  | F + 1, l3, s =>
    (if s 39 9 ≤ l3 then
      some (s 39 9)
    else
      (gd (g_79 l3 s) (
      (if ¬ (f_79 l3 s) = 59 then
        (j_170_25 F) (ax_w32 (l3 + 1)) s
      else
        some l3))))
theorem bl_170_25 {L c : Nat} {e : Nat → Nat} : ∀ (F : Nat) (z1 z2 : Int) (l3 : Int) (s : Sg) (q : Int), j_170_25 F l3 s = some q → RuP 2 tb_m170 25 [some (.inr (.inr (some 74))), some (.inl z1), some (.inl z2), some (.inl l3)] [] (hp L s c e) (oI L c e (q, s)) := by
  intro F
  induction F with
  | zero =>
    intro z1 z2 l3 s q h
    rw [j_170_25] at h
    cases h
  | succ F ih =>
    intro z1 z2 l3 s q h
    rw [j_170_25] at h
    refine RuP.step (pc' := 26) (ls' := [some (.inr (.inr (some 74))), some (.inl z1), some (.inl z2), some (.inl l3)]) (st' := [.inl l3]) (h1 := hp L s c e) rfl ?_
    refine RuP.step (pc' := 27) (ls' := [some (.inr (.inr (some 74))), some (.inl z1), some (.inl z2), some (.inl l3)]) (st' := [.inr (.inr (some 74)), .inl l3]) (h1 := hp L s c e) rfl ?_
    refine RuP.step (pc' := 30) (ls' := [some (.inr (.inr (some 74))), some (.inl z1), some (.inl z2), some (.inl l3)]) (st' := [.inr (.inr (some 39)), .inl l3]) (h1 := hp L s c e) rfl ?_
    refine RuP.step (pc' := 33) (ls' := [some (.inr (.inr (some 74))), some (.inl z1), some (.inl z2), some (.inl l3)]) (st' := [.inl (s 39 9), .inl l3]) (h1 := hp L s c e) rfl ?_
    by_cases h0 : s 39 9 ≤ l3
    · rw [if_pos h0] at h
      refine RuP.jy rfl h0 ?_
      refine RuP.step (pc' := 58) (ls' := [some (.inr (.inr (some 74))), some (.inl z1), some (.inl z2), some (.inl l3)]) (st' := [.inr (.inr (some 74))]) (h1 := hp L s c e) rfl ?_
      refine RuP.step (pc' := 61) (ls' := [some (.inr (.inr (some 74))), some (.inl z1), some (.inl z2), some (.inl l3)]) (st' := [.inr (.inr (some 39))]) (h1 := hp L s c e) rfl ?_
      refine RuP.step (pc' := 64) (ls' := [some (.inr (.inr (some 74))), some (.inl z1), some (.inl z2), some (.inl l3)]) (st' := [.inl (s 39 9)]) (h1 := hp L s c e) rfl ?_
      cases h
      exact RuP.dI rfl
    · rw [if_neg h0] at h
      refine RuP.jn rfl h0 ?_
      refine RuP.step (pc' := 37) (ls' := [some (.inr (.inr (some 74))), some (.inl z1), some (.inl z2), some (.inl l3)]) (st' := [.inr (.inr (some 74))]) (h1 := hp L s c e) rfl ?_
      refine RuP.step (pc' := 40) (ls' := [some (.inr (.inr (some 74))), some (.inl z1), some (.inl z2), some (.inl l3)]) (st' := [.inr (.inr (some 39))]) (h1 := hp L s c e) rfl ?_
      refine RuP.step (pc' := 41) (ls' := [some (.inr (.inr (some 74))), some (.inl z1), some (.inl z2), some (.inl l3)]) (st' := [.inl l3, .inr (.inr (some 39))]) (h1 := hp L s c e) rfl ?_
      obtain ⟨b1, h⟩ := gd_some h
      refine RuP.cI rfl (EvP.i ((ev_79 l3 b1).up (by decide))) ?_
      refine RuP.step (pc' := 46) (ls' := [some (.inr (.inr (some 74))), some (.inl z1), some (.inl z2), some (.inl l3)]) (st' := [.inl 59, .inl (f_79 l3 s)]) (h1 := hp L s c e) rfl ?_
      by_cases h2 : ¬ (f_79 l3 s) = 59
      · rw [if_pos h2] at h
        refine RuP.jy rfl h2 ?_
        refine RuP.step (pc' := 54) (ls' := [some (.inr (.inr (some 74))), some (.inl z1), some (.inl z2), some (.inl (ax_w32 (l3 + 1)))]) (st' := []) (h1 := hp L s c e) rfl ?_
        refine RuP.step (pc' := 25) (ls' := [some (.inr (.inr (some 74))), some (.inl z1), some (.inl z2), some (.inl (ax_w32 (l3 + 1)))]) (st' := []) (h1 := hp L s c e) rfl ?_
        exact ih _ _ _ _ _ h
      · rw [if_neg h2] at h
        refine RuP.jn rfl h2 ?_
        refine RuP.step (pc' := 50) (ls' := [some (.inr (.inr (some 74))), some (.inl z1), some (.inl z2), some (.inl l3)]) (st' := [.inl l3]) (h1 := hp L s c e) rfl ?_
        cases h
        exact RuP.dI rfl
noncomputable def f_170 (x0 : Int) (s : Sg) : Option Int :=
  (gd (g_187 x0 s) (
  (gd (g_182 x0 s) (
  (if f_182 x0 s = 2 then
    j_170_25 FU (f_187 x0 s) s
  else
    some (f_187 x0 s))))))
theorem ev_170 {L c : Nat} {e : Nat → Nat} {s : Sg} {x0 : Int} {q : Int} (h : f_170 x0 s = some q) : EvP 3 170 [.inr (.inr (some 74)), .inl x0] (hp L s c e) (oI L c e (q, s)) := by
  unfold f_170 at h
  refine EvP.of (μ := tb_m170) (ls := [some (.inr (.inr (some 74))), some (.inl x0), none, none]) rfl (Nat.le_of_ble_eq_true rfl) rfl ?_
  refine RuP.step (pc' := 1) (ls' := [some (.inr (.inr (some 74))), some (.inl x0), none, none]) (st' := [.inr (.inr (some 74))]) (h1 := hp L s c e) rfl ?_
  refine RuP.step (pc' := 4) (ls' := [some (.inr (.inr (some 74))), some (.inl x0), none, none]) (st' := [.inr (.inr (some 54))]) (h1 := hp L s c e) rfl ?_
  refine RuP.step (pc' := 5) (ls' := [some (.inr (.inr (some 74))), some (.inl x0), none, none]) (st' := [.inl x0, .inr (.inr (some 54))]) (h1 := hp L s c e) rfl ?_
  obtain ⟨b0, h⟩ := gd_some h
  refine RuP.cI rfl (EvP.i ((ev_187 x0 b0).up (by decide))) ?_
  refine RuP.step (pc' := 9) (ls' := [some (.inr (.inr (some 74))), some (.inl x0), some (.inl (f_187 x0 s)), none]) (st' := []) (h1 := hp L s c e) rfl ?_
  refine RuP.step (pc' := 10) (ls' := [some (.inr (.inr (some 74))), some (.inl x0), some (.inl (f_187 x0 s)), none]) (st' := [.inr (.inr (some 74))]) (h1 := hp L s c e) rfl ?_
  refine RuP.step (pc' := 13) (ls' := [some (.inr (.inr (some 74))), some (.inl x0), some (.inl (f_187 x0 s)), none]) (st' := [.inr (.inr (some 54))]) (h1 := hp L s c e) rfl ?_
  refine RuP.step (pc' := 14) (ls' := [some (.inr (.inr (some 74))), some (.inl x0), some (.inl (f_187 x0 s)), none]) (st' := [.inl x0, .inr (.inr (some 54))]) (h1 := hp L s c e) rfl ?_
  obtain ⟨b1, h⟩ := gd_some h
  refine RuP.cI rfl (EvP.i ((ev_182 x0 b1).up (by decide))) ?_
  refine RuP.step (pc' := 18) (ls' := [some (.inr (.inr (some 74))), some (.inl x0), some (.inl (f_187 x0 s)), none]) (st' := [.inl 2, .inl (f_182 x0 s)]) (h1 := hp L s c e) rfl ?_
  by_cases h2 : f_182 x0 s = 2
  · rw [if_pos h2] at h
    refine RuP.jy rfl h2 ?_
    refine RuP.step (pc' := 24) (ls' := [some (.inr (.inr (some 74))), some (.inl x0), some (.inl (f_187 x0 s)), none]) (st' := [.inl (f_187 x0 s)]) (h1 := hp L s c e) rfl ?_
    refine RuP.step (pc' := 25) (ls' := [some (.inr (.inr (some 74))), some (.inl x0), some (.inl (f_187 x0 s)), some (.inl (f_187 x0 s))]) (st' := []) (h1 := hp L s c e) rfl ?_
    exact bl_170_25 FU _ _ _ _ _ h
  · rw [if_neg h2] at h
    refine RuP.jn rfl h2 ?_
    refine RuP.step (pc' := 22) (ls' := [some (.inr (.inr (some 74))), some (.inl x0), some (.inl (f_187 x0 s)), none]) (st' := [.inl (f_187 x0 s)]) (h1 := hp L s c e) rfl ?_
    cases h
    exact RuP.dI rfl
/-- MachineText$Rings.settleOne(I)V -/
noncomputable def f_177 (x0 : Int) (s : Sg) : Option Sg :=
  (if f_173 x0 s = 0 then
    some s
  else
    (gd (0 ≤ x0 ∧ x0 < 1171) (
    (gd (0 ≤ x0 ∧ x0 < 1171) (
    (gd (0 ≤ x0 ∧ x0 < 1171) (
    (if ¬ ((ax_u2 s 78 x0.toNat (ax_w32 ((s 78 x0.toNat) - 1))) 78 (x0.toNat)) = 0 then
      some (ax_u2 s 78 x0.toNat (ax_w32 ((s 78 x0.toNat) - 1)))
    else
      (gd (g_174 x0 (ax_u2 s 78 x0.toNat (ax_w32 ((s 78 x0.toNat) - 1)))) (
      ((some (f_174 x0 (ax_u2 s 78 x0.toNat (ax_w32 ((s 78 x0.toNat) - 1))))).bind fun q1 =>
      some q1)))))))))))
theorem ev_177 {L c : Nat} {e : Nat → Nat} {s : Sg} {x0 : Int} {q : Sg} (h : f_177 x0 s = some q) : EvP 2 177 [.inr (.inr (some 74)), .inl x0] (hp L s c e) (oV L c e q) := by
  unfold f_177 at h
  refine EvP.of (μ := tb_m177) (ls := [some (.inr (.inr (some 74))), some (.inl x0)]) rfl (Nat.le_of_ble_eq_true rfl) rfl ?_
  refine RuP.step (pc' := 1) (ls' := [some (.inr (.inr (some 74))), some (.inl x0)]) (st' := [.inr (.inr (some 74))]) (h1 := hp L s c e) rfl ?_
  refine RuP.step (pc' := 2) (ls' := [some (.inr (.inr (some 74))), some (.inl x0)]) (st' := [.inl x0, .inr (.inr (some 74))]) (h1 := hp L s c e) rfl ?_
  refine RuP.cI rfl (EvP.i ((ev_173 x0).up (by decide))) ?_
  by_cases h0 : f_173 x0 s = 0
  · rw [if_pos h0] at h
    refine RuP.jy rfl h0 ?_
    cases h
    exact RuP.dV rfl
  · rw [if_neg h0] at h
    refine RuP.jn rfl h0 ?_
    refine RuP.step (pc' := 9) (ls' := [some (.inr (.inr (some 74))), some (.inl x0)]) (st' := [.inr (.inr (some 74))]) (h1 := hp L s c e) rfl ?_
    refine RuP.step (pc' := 12) (ls' := [some (.inr (.inr (some 74))), some (.inl x0)]) (st' := [.inr (.inr (some 78))]) (h1 := hp L s c e) rfl ?_
    refine RuP.step (pc' := 13) (ls' := [some (.inr (.inr (some 74))), some (.inl x0)]) (st' := [.inl x0, .inr (.inr (some 78))]) (h1 := hp L s c e) rfl ?_
    refine RuP.step (pc' := 14) (ls' := [some (.inr (.inr (some 74))), some (.inl x0)]) (st' := [.inl x0, .inr (.inr (some 78)), .inl x0, .inr (.inr (some 78))]) (h1 := hp L s c e) rfl ?_
    obtain ⟨b1, h⟩ := gd_some h
    refine RuP.ald (f := fun t => t == 0) (j := x0) (a := 78) rfl rfl b1.1 b1.2 ?_
    refine RuP.step (pc' := 16) (ls' := [some (.inr (.inr (some 74))), some (.inl x0)]) (st' := [.inl 1, .inl (s 78 x0.toNat), .inl x0, .inr (.inr (some 78))]) (h1 := hp L s c e) rfl ?_
    refine RuP.step (pc' := 17) (ls' := [some (.inr (.inr (some 74))), some (.inl x0)]) (st' := [.inl (ax_w32 ((s 78 x0.toNat) - 1)), .inl x0, .inr (.inr (some 78))]) (h1 := hp L s c e) rfl ?_
    obtain ⟨b2, h⟩ := gd_some h
    refine RuP.ast (f := fun t => t == 0) (j := x0) (a := 78) rfl rfl (by decide) rfl rfl b2.1 b2.2 ?_
    refine RuP.step (pc' := 19) (ls' := [some (.inr (.inr (some 74))), some (.inl x0)]) (st' := [.inr (.inr (some 74))]) (h1 := hp L (ax_u2 s 78 x0.toNat (ax_w32 ((s 78 x0.toNat) - 1))) c e) rfl ?_
    refine RuP.step (pc' := 22) (ls' := [some (.inr (.inr (some 74))), some (.inl x0)]) (st' := [.inr (.inr (some 78))]) (h1 := hp L (ax_u2 s 78 x0.toNat (ax_w32 ((s 78 x0.toNat) - 1))) c e) rfl ?_
    refine RuP.step (pc' := 23) (ls' := [some (.inr (.inr (some 74))), some (.inl x0)]) (st' := [.inl x0, .inr (.inr (some 78))]) (h1 := hp L (ax_u2 s 78 x0.toNat (ax_w32 ((s 78 x0.toNat) - 1))) c e) rfl ?_
    obtain ⟨b3, h⟩ := gd_some h
    refine RuP.ald (f := fun t => t == 0) (j := x0) (a := 78) rfl rfl b3.1 b3.2 ?_
    by_cases h4 : ¬ ((ax_u2 s 78 x0.toNat (ax_w32 ((s 78 x0.toNat) - 1))) 78 (x0.toNat)) = 0
    · rw [if_pos h4] at h
      refine RuP.jy rfl h4 ?_
      cases h
      exact RuP.dV rfl
    · rw [if_neg h4] at h
      refine RuP.jn rfl h4 ?_
      refine RuP.step (pc' := 28) (ls' := [some (.inr (.inr (some 74))), some (.inl x0)]) (st' := [.inr (.inr (some 74))]) (h1 := hp L (ax_u2 s 78 x0.toNat (ax_w32 ((s 78 x0.toNat) - 1))) c e) rfl ?_
      refine RuP.step (pc' := 29) (ls' := [some (.inr (.inr (some 74))), some (.inl x0)]) (st' := [.inl x0, .inr (.inr (some 74))]) (h1 := hp L (ax_u2 s 78 x0.toNat (ax_w32 ((s 78 x0.toNat) - 1))) c e) rfl ?_
      obtain ⟨b5, h⟩ := gd_some h
      obtain ⟨q1, h1, h⟩ := bd_some h
      refine RuP.cVe h1 rfl (EvP.v ((ev_174 x0 b5).up (by decide))) ?_
      cases h
      exact RuP.dV rfl
/-- MachineText$Rings.reach(II)V -/
noncomputable def f_178 (x0 x1 : Int) (s : Sg) : Option Sg :=
  (if f_173 x0 s = 0 then
    some s
  else
    (if f_173 x1 s = 0 then
      some s
    else
      (gd (0 ≤ x0 ∧ x0 < 1171) (
      (if ¬ (s 79 x0.toNat) = (-1) then
        some s
      else
        (gd (0 ≤ x1 ∧ x1 < 1171) (
        (gd (0 ≤ x0 ∧ x0 < 1171) (
        (gd (g_174 x0 (ax_u2 s 79 x0.toNat (ax_w32 ((s 79 x1.toNat) + 1)))) (
        ((some (f_174 x0 (ax_u2 s 79 x0.toNat (ax_w32 ((s 79 x1.toNat) + 1))))).bind fun q1 =>
        some q1))))))))))))
theorem ev_178 {L c : Nat} {e : Nat → Nat} {s : Sg} {x0 x1 : Int} {q : Sg} (h : f_178 x0 x1 s = some q) : EvP 2 178 [.inr (.inr (some 74)), .inl x0, .inl x1] (hp L s c e) (oV L c e q) := by
  unfold f_178 at h
  refine EvP.of (μ := tb_m178) (ls := [some (.inr (.inr (some 74))), some (.inl x0), some (.inl x1)]) rfl (Nat.le_of_ble_eq_true rfl) rfl ?_
  refine RuP.step (pc' := 1) (ls' := [some (.inr (.inr (some 74))), some (.inl x0), some (.inl x1)]) (st' := [.inr (.inr (some 74))]) (h1 := hp L s c e) rfl ?_
  refine RuP.step (pc' := 2) (ls' := [some (.inr (.inr (some 74))), some (.inl x0), some (.inl x1)]) (st' := [.inl x0, .inr (.inr (some 74))]) (h1 := hp L s c e) rfl ?_
  refine RuP.cI rfl (EvP.i ((ev_173 x0).up (by decide))) ?_
  by_cases h0 : f_173 x0 s = 0
  · rw [if_pos h0] at h
    refine RuP.jy rfl h0 ?_
    cases h
    exact RuP.dV rfl
  · rw [if_neg h0] at h
    refine RuP.jn rfl h0 ?_
    refine RuP.step (pc' := 9) (ls' := [some (.inr (.inr (some 74))), some (.inl x0), some (.inl x1)]) (st' := [.inr (.inr (some 74))]) (h1 := hp L s c e) rfl ?_
    refine RuP.step (pc' := 10) (ls' := [some (.inr (.inr (some 74))), some (.inl x0), some (.inl x1)]) (st' := [.inl x1, .inr (.inr (some 74))]) (h1 := hp L s c e) rfl ?_
    refine RuP.cI rfl (EvP.i ((ev_173 x1).up (by decide))) ?_
    by_cases h1 : f_173 x1 s = 0
    · rw [if_pos h1] at h
      refine RuP.jy rfl h1 ?_
      cases h
      exact RuP.dV rfl
    · rw [if_neg h1] at h
      refine RuP.jn rfl h1 ?_
      refine RuP.step (pc' := 17) (ls' := [some (.inr (.inr (some 74))), some (.inl x0), some (.inl x1)]) (st' := [.inr (.inr (some 74))]) (h1 := hp L s c e) rfl ?_
      refine RuP.step (pc' := 20) (ls' := [some (.inr (.inr (some 74))), some (.inl x0), some (.inl x1)]) (st' := [.inr (.inr (some 79))]) (h1 := hp L s c e) rfl ?_
      refine RuP.step (pc' := 21) (ls' := [some (.inr (.inr (some 74))), some (.inl x0), some (.inl x1)]) (st' := [.inl x0, .inr (.inr (some 79))]) (h1 := hp L s c e) rfl ?_
      obtain ⟨b2, h⟩ := gd_some h
      refine RuP.ald (f := fun t => t == 0) (j := x0) (a := 79) rfl rfl b2.1 b2.2 ?_
      refine RuP.step (pc' := 23) (ls' := [some (.inr (.inr (some 74))), some (.inl x0), some (.inl x1)]) (st' := [.inl (-1), .inl (s 79 x0.toNat)]) (h1 := hp L s c e) rfl ?_
      by_cases h3 : ¬ (s 79 x0.toNat) = (-1)
      · rw [if_pos h3] at h
        refine RuP.jy rfl h3 ?_
        cases h
        exact RuP.dV rfl
      · rw [if_neg h3] at h
        refine RuP.jn rfl h3 ?_
        refine RuP.step (pc' := 27) (ls' := [some (.inr (.inr (some 74))), some (.inl x0), some (.inl x1)]) (st' := [.inr (.inr (some 74))]) (h1 := hp L s c e) rfl ?_
        refine RuP.step (pc' := 30) (ls' := [some (.inr (.inr (some 74))), some (.inl x0), some (.inl x1)]) (st' := [.inr (.inr (some 79))]) (h1 := hp L s c e) rfl ?_
        refine RuP.step (pc' := 31) (ls' := [some (.inr (.inr (some 74))), some (.inl x0), some (.inl x1)]) (st' := [.inl x0, .inr (.inr (some 79))]) (h1 := hp L s c e) rfl ?_
        refine RuP.step (pc' := 32) (ls' := [some (.inr (.inr (some 74))), some (.inl x0), some (.inl x1)]) (st' := [.inr (.inr (some 74)), .inl x0, .inr (.inr (some 79))]) (h1 := hp L s c e) rfl ?_
        refine RuP.step (pc' := 35) (ls' := [some (.inr (.inr (some 74))), some (.inl x0), some (.inl x1)]) (st' := [.inr (.inr (some 79)), .inl x0, .inr (.inr (some 79))]) (h1 := hp L s c e) rfl ?_
        refine RuP.step (pc' := 36) (ls' := [some (.inr (.inr (some 74))), some (.inl x0), some (.inl x1)]) (st' := [.inl x1, .inr (.inr (some 79)), .inl x0, .inr (.inr (some 79))]) (h1 := hp L s c e) rfl ?_
        obtain ⟨b4, h⟩ := gd_some h
        refine RuP.ald (f := fun t => t == 0) (j := x1) (a := 79) rfl rfl b4.1 b4.2 ?_
        refine RuP.step (pc' := 38) (ls' := [some (.inr (.inr (some 74))), some (.inl x0), some (.inl x1)]) (st' := [.inl 1, .inl (s 79 x1.toNat), .inl x0, .inr (.inr (some 79))]) (h1 := hp L s c e) rfl ?_
        refine RuP.step (pc' := 39) (ls' := [some (.inr (.inr (some 74))), some (.inl x0), some (.inl x1)]) (st' := [.inl (ax_w32 ((s 79 x1.toNat) + 1)), .inl x0, .inr (.inr (some 79))]) (h1 := hp L s c e) rfl ?_
        obtain ⟨b5, h⟩ := gd_some h
        refine RuP.ast (f := fun t => t == 0) (j := x0) (a := 79) rfl rfl (by decide) rfl rfl b5.1 b5.2 ?_
        refine RuP.step (pc' := 41) (ls' := [some (.inr (.inr (some 74))), some (.inl x0), some (.inl x1)]) (st' := [.inr (.inr (some 74))]) (h1 := hp L (ax_u2 s 79 x0.toNat (ax_w32 ((s 79 x1.toNat) + 1))) c e) rfl ?_
        refine RuP.step (pc' := 42) (ls' := [some (.inr (.inr (some 74))), some (.inl x0), some (.inl x1)]) (st' := [.inl x0, .inr (.inr (some 74))]) (h1 := hp L (ax_u2 s 79 x0.toNat (ax_w32 ((s 79 x1.toNat) + 1))) c e) rfl ?_
        obtain ⟨b6, h⟩ := gd_some h
        obtain ⟨q1, h1, h⟩ := bd_some h
        refine RuP.cVe h1 rfl (EvP.v ((ev_174 x0 b6).up (by decide))) ?_
        cases h
        exact RuP.dV rfl
/-- MachineTextModel.feed(IIII)I -/
noncomputable def j_193_101 (s : Sg) : Option (Int × Sg) :=
  some (ax_w32 ((s 84 1) + 16), (ax_u2 s 84 1 (ax_w32 ((s 84 1) + 16))))
theorem bl_193_101 {L c : Nat} {e : Nat → Nat} : ∀ (z1 z2 z3 z4 z5 : Int) (s : Sg) (q : Int × Sg), j_193_101 s = some q → RuP 1 tb_m193 101 [some (.inr (.inr (some 84))), some (.inl z1), some (.inl z2), some (.inl z3), some (.inl z4), some (.inl z5)] [] (hp L s c e) (oI L c e q) := by
  intro z1 z2 z3 z4 z5 s q h
  unfold j_193_101 at h
  refine RuP.step (pc' := 102) (ls' := [some (.inr (.inr (some 84))), some (.inl z1), some (.inl z2), some (.inl z3), some (.inl z4), some (.inl z5)]) (st' := [.inr (.inr (some 84))]) (h1 := hp L s c e) rfl ?_
  refine RuP.step (pc' := 103) (ls' := [some (.inr (.inr (some 84))), some (.inl z1), some (.inl z2), some (.inl z3), some (.inl z4), some (.inl z5)]) (st' := [.inr (.inr (some 84)), .inr (.inr (some 84))]) (h1 := hp L s c e) rfl ?_
  refine RuP.step (pc' := 106) (ls' := [some (.inr (.inr (some 84))), some (.inl z1), some (.inl z2), some (.inl z3), some (.inl z4), some (.inl z5)]) (st' := [.inl (s 84 1), .inr (.inr (some 84))]) (h1 := hp L s c e) rfl ?_
  refine RuP.step (pc' := 108) (ls' := [some (.inr (.inr (some 84))), some (.inl z1), some (.inl z2), some (.inl z3), some (.inl z4), some (.inl z5)]) (st' := [.inl 16, .inl (s 84 1), .inr (.inr (some 84))]) (h1 := hp L s c e) rfl ?_
  refine RuP.step (pc' := 109) (ls' := [some (.inr (.inr (some 84))), some (.inl z1), some (.inl z2), some (.inl z3), some (.inl z4), some (.inl z5)]) (st' := [.inl (ax_w32 ((s 84 1) + 16)), .inr (.inr (some 84))]) (h1 := hp L s c e) rfl ?_
  refine RuP.step (pc' := 112) (ls' := [some (.inr (.inr (some 84))), some (.inl z1), some (.inl z2), some (.inl z3), some (.inl z4), some (.inl z5)]) (st' := []) (h1 := hp L (ax_u2 s 84 1 (ax_w32 ((s 84 1) + 16))) c e) rfl ?_
  refine RuP.step (pc' := 113) (ls' := [some (.inr (.inr (some 84))), some (.inl z1), some (.inl z2), some (.inl z3), some (.inl z4), some (.inl z5)]) (st' := [.inr (.inr (some 84))]) (h1 := hp L (ax_u2 s 84 1 (ax_w32 ((s 84 1) + 16))) c e) rfl ?_
  refine RuP.step (pc' := 116) (ls' := [some (.inr (.inr (some 84))), some (.inl z1), some (.inl z2), some (.inl z3), some (.inl z4), some (.inl z5)]) (st' := [.inl (ax_w32 ((s 84 1) + 16))]) (h1 := hp L (ax_u2 s 84 1 (ax_w32 ((s 84 1) + 16))) c e) rfl ?_
  cases h
  exact RuP.dI rfl
noncomputable def j_193_27 : Nat → Int → Int → Int → Int → Int → Sg → Option (Int × Sg)
  | 0, _, _, _, _, _, _ => none
  | F + 1, l1, l2, l3, l4, l5, s =>
    (if 16 ≤ l5 then
      j_193_101 s
    else
      (gd (0 ≤ ax_w32 ((s 84 1) + l5) ∧ ax_w32 ((s 84 1) + l5) < 8192) (
      (j_193_27 F) l1 l2 l3 l4 (ax_w32 (l5 + 1)) (ax_u2 s 85 ((ax_w32 ((s 84 1) + l5)).toNat) (ax_iand (ax_ishr ((if 4 ≤ l5 then (if 8 ≤ l5 then (if 12 ≤ l5 then l4 else l3) else l2) else l1) : Int) (ax_w32 (24 - (ax_w32 (8 * (ax_irem l5 4)))))) 255)))))
theorem bl_193_27 {L c : Nat} {e : Nat → Nat} : ∀ (F : Nat) (l1 l2 l3 l4 l5 : Int) (s : Sg) (q : Int × Sg), j_193_27 F l1 l2 l3 l4 l5 s = some q → RuP 1 tb_m193 27 [some (.inr (.inr (some 84))), some (.inl l1), some (.inl l2), some (.inl l3), some (.inl l4), some (.inl l5)] [] (hp L s c e) (oI L c e q) := by
  intro F
  induction F with
  | zero =>
    intro l1 l2 l3 l4 l5 s q h
    rw [j_193_27] at h
    cases h
  | succ F ih =>
    intro l1 l2 l3 l4 l5 s q h
    rw [j_193_27] at h
    refine RuP.step (pc' := 29) (ls' := [some (.inr (.inr (some 84))), some (.inl l1), some (.inl l2), some (.inl l3), some (.inl l4), some (.inl l5)]) (st' := [.inl l5]) (h1 := hp L s c e) rfl ?_
    refine RuP.step (pc' := 31) (ls' := [some (.inr (.inr (some 84))), some (.inl l1), some (.inl l2), some (.inl l3), some (.inl l4), some (.inl l5)]) (st' := [.inl 16, .inl l5]) (h1 := hp L s c e) rfl ?_
    by_cases h0 : 16 ≤ l5
    · rw [if_pos h0] at h
      refine RuP.jy rfl h0 ?_
      exact bl_193_101 _ _ _ _ _ _ _ h
    · rw [if_neg h0] at h
      refine RuP.jn rfl h0 ?_
      refine RuP.step (pc' := 35) (ls' := [some (.inr (.inr (some 84))), some (.inl l1), some (.inl l2), some (.inl l3), some (.inl l4), some (.inl l5)]) (st' := [.inr (.inr (some 84))]) (h1 := hp L s c e) rfl ?_
      refine RuP.step (pc' := 38) (ls' := [some (.inr (.inr (some 84))), some (.inl l1), some (.inl l2), some (.inl l3), some (.inl l4), some (.inl l5)]) (st' := [.inr (.inr (some 85))]) (h1 := hp L s c e) rfl ?_
      refine RuP.step (pc' := 39) (ls' := [some (.inr (.inr (some 84))), some (.inl l1), some (.inl l2), some (.inl l3), some (.inl l4), some (.inl l5)]) (st' := [.inr (.inr (some 84)), .inr (.inr (some 85))]) (h1 := hp L s c e) rfl ?_
      refine RuP.step (pc' := 42) (ls' := [some (.inr (.inr (some 84))), some (.inl l1), some (.inl l2), some (.inl l3), some (.inl l4), some (.inl l5)]) (st' := [.inl (s 84 1), .inr (.inr (some 85))]) (h1 := hp L s c e) rfl ?_
      refine RuP.step (pc' := 44) (ls' := [some (.inr (.inr (some 84))), some (.inl l1), some (.inl l2), some (.inl l3), some (.inl l4), some (.inl l5)]) (st' := [.inl l5, .inl (s 84 1), .inr (.inr (some 85))]) (h1 := hp L s c e) rfl ?_
      refine RuP.step (pc' := 45) (ls' := [some (.inr (.inr (some 84))), some (.inl l1), some (.inl l2), some (.inl l3), some (.inl l4), some (.inl l5)]) (st' := [.inl (ax_w32 ((s 84 1) + l5)), .inr (.inr (some 85))]) (h1 := hp L s c e) rfl ?_
      refine RuP.step (pc' := 47) (ls' := [some (.inr (.inr (some 84))), some (.inl l1), some (.inl l2), some (.inl l3), some (.inl l4), some (.inl l5)]) (st' := [.inl l5, .inl (ax_w32 ((s 84 1) + l5)), .inr (.inr (some 85))]) (h1 := hp L s c e) rfl ?_
      refine RuP.step (pc' := 48) (ls' := [some (.inr (.inr (some 84))), some (.inl l1), some (.inl l2), some (.inl l3), some (.inl l4), some (.inl l5)]) (st' := [.inl 4, .inl l5, .inl (ax_w32 ((s 84 1) + l5)), .inr (.inr (some 85))]) (h1 := hp L s c e) rfl ?_
      have J2 : ∀ v1_0 : Int, v1_0 = ((if 4 ≤ l5 then (if 8 ≤ l5 then (if 12 ≤ l5 then l4 else l3) else l2) else l1) : Int) → RuP 1 tb_m193 79 [some (.inr (.inr (some 84))), some (.inl l1), some (.inl l2), some (.inl l3), some (.inl l4), some (.inl l5)] [.inl v1_0, .inl (ax_w32 ((s 84 1) + l5)), .inr (.inr (some 85))] (hp L s c e) (oI L c e q) := by
        intro v1_0 ev1_0
        subst ev1_0
        refine RuP.step (pc' := 81) (ls' := [some (.inr (.inr (some 84))), some (.inl l1), some (.inl l2), some (.inl l3), some (.inl l4), some (.inl l5)]) (st' := [.inl 24, .inl ((if 4 ≤ l5 then (if 8 ≤ l5 then (if 12 ≤ l5 then l4 else l3) else l2) else l1) : Int), .inl (ax_w32 ((s 84 1) + l5)), .inr (.inr (some 85))]) (h1 := hp L s c e) rfl ?_
        refine RuP.step (pc' := 83) (ls' := [some (.inr (.inr (some 84))), some (.inl l1), some (.inl l2), some (.inl l3), some (.inl l4), some (.inl l5)]) (st' := [.inl 8, .inl 24, .inl ((if 4 ≤ l5 then (if 8 ≤ l5 then (if 12 ≤ l5 then l4 else l3) else l2) else l1) : Int), .inl (ax_w32 ((s 84 1) + l5)), .inr (.inr (some 85))]) (h1 := hp L s c e) rfl ?_
        refine RuP.step (pc' := 85) (ls' := [some (.inr (.inr (some 84))), some (.inl l1), some (.inl l2), some (.inl l3), some (.inl l4), some (.inl l5)]) (st' := [.inl l5, .inl 8, .inl 24, .inl ((if 4 ≤ l5 then (if 8 ≤ l5 then (if 12 ≤ l5 then l4 else l3) else l2) else l1) : Int), .inl (ax_w32 ((s 84 1) + l5)), .inr (.inr (some 85))]) (h1 := hp L s c e) rfl ?_
        refine RuP.step (pc' := 86) (ls' := [some (.inr (.inr (some 84))), some (.inl l1), some (.inl l2), some (.inl l3), some (.inl l4), some (.inl l5)]) (st' := [.inl 4, .inl l5, .inl 8, .inl 24, .inl ((if 4 ≤ l5 then (if 8 ≤ l5 then (if 12 ≤ l5 then l4 else l3) else l2) else l1) : Int), .inl (ax_w32 ((s 84 1) + l5)), .inr (.inr (some 85))]) (h1 := hp L s c e) rfl ?_
        refine RuP.step (pc' := 87) (ls' := [some (.inr (.inr (some 84))), some (.inl l1), some (.inl l2), some (.inl l3), some (.inl l4), some (.inl l5)]) (st' := [.inl (ax_irem l5 4), .inl 8, .inl 24, .inl ((if 4 ≤ l5 then (if 8 ≤ l5 then (if 12 ≤ l5 then l4 else l3) else l2) else l1) : Int), .inl (ax_w32 ((s 84 1) + l5)), .inr (.inr (some 85))]) (h1 := hp L s c e) rfl ?_
        refine RuP.step (pc' := 88) (ls' := [some (.inr (.inr (some 84))), some (.inl l1), some (.inl l2), some (.inl l3), some (.inl l4), some (.inl l5)]) (st' := [.inl (ax_w32 (8 * (ax_irem l5 4))), .inl 24, .inl ((if 4 ≤ l5 then (if 8 ≤ l5 then (if 12 ≤ l5 then l4 else l3) else l2) else l1) : Int), .inl (ax_w32 ((s 84 1) + l5)), .inr (.inr (some 85))]) (h1 := hp L s c e) rfl ?_
        refine RuP.step (pc' := 89) (ls' := [some (.inr (.inr (some 84))), some (.inl l1), some (.inl l2), some (.inl l3), some (.inl l4), some (.inl l5)]) (st' := [.inl (ax_w32 (24 - (ax_w32 (8 * (ax_irem l5 4))))), .inl ((if 4 ≤ l5 then (if 8 ≤ l5 then (if 12 ≤ l5 then l4 else l3) else l2) else l1) : Int), .inl (ax_w32 ((s 84 1) + l5)), .inr (.inr (some 85))]) (h1 := hp L s c e) rfl ?_
        refine RuP.step (pc' := 90) (ls' := [some (.inr (.inr (some 84))), some (.inl l1), some (.inl l2), some (.inl l3), some (.inl l4), some (.inl l5)]) (st' := [.inl (ax_ishr ((if 4 ≤ l5 then (if 8 ≤ l5 then (if 12 ≤ l5 then l4 else l3) else l2) else l1) : Int) (ax_w32 (24 - (ax_w32 (8 * (ax_irem l5 4)))))), .inl (ax_w32 ((s 84 1) + l5)), .inr (.inr (some 85))]) (h1 := hp L s c e) rfl ?_
        refine RuP.step (pc' := 93) (ls' := [some (.inr (.inr (some 84))), some (.inl l1), some (.inl l2), some (.inl l3), some (.inl l4), some (.inl l5)]) (st' := [.inl 255, .inl (ax_ishr ((if 4 ≤ l5 then (if 8 ≤ l5 then (if 12 ≤ l5 then l4 else l3) else l2) else l1) : Int) (ax_w32 (24 - (ax_w32 (8 * (ax_irem l5 4)))))), .inl (ax_w32 ((s 84 1) + l5)), .inr (.inr (some 85))]) (h1 := hp L s c e) rfl ?_
        refine RuP.step (pc' := 94) (ls' := [some (.inr (.inr (some 84))), some (.inl l1), some (.inl l2), some (.inl l3), some (.inl l4), some (.inl l5)]) (st' := [.inl (ax_iand (ax_ishr ((if 4 ≤ l5 then (if 8 ≤ l5 then (if 12 ≤ l5 then l4 else l3) else l2) else l1) : Int) (ax_w32 (24 - (ax_w32 (8 * (ax_irem l5 4)))))) 255), .inl (ax_w32 ((s 84 1) + l5)), .inr (.inr (some 85))]) (h1 := hp L s c e) rfl ?_
        obtain ⟨b2, h⟩ := gd_some h
        refine RuP.ast (f := fun t => t == 0) (j := ax_w32 ((s 84 1) + l5)) (a := 85) rfl rfl (by decide) rfl rfl b2.1 b2.2 ?_
        refine RuP.step (pc' := 98) (ls' := [some (.inr (.inr (some 84))), some (.inl l1), some (.inl l2), some (.inl l3), some (.inl l4), some (.inl (ax_w32 (l5 + 1)))]) (st' := []) (h1 := hp L (ax_u2 s 85 ((ax_w32 ((s 84 1) + l5)).toNat) (ax_iand (ax_ishr ((if 4 ≤ l5 then (if 8 ≤ l5 then (if 12 ≤ l5 then l4 else l3) else l2) else l1) : Int) (ax_w32 (24 - (ax_w32 (8 * (ax_irem l5 4)))))) 255)) c e) rfl ?_
        refine RuP.step (pc' := 27) (ls' := [some (.inr (.inr (some 84))), some (.inl l1), some (.inl l2), some (.inl l3), some (.inl l4), some (.inl (ax_w32 (l5 + 1)))]) (st' := []) (h1 := hp L (ax_u2 s 85 ((ax_w32 ((s 84 1) + l5)).toNat) (ax_iand (ax_ishr ((if 4 ≤ l5 then (if 8 ≤ l5 then (if 12 ≤ l5 then l4 else l3) else l2) else l1) : Int) (ax_w32 (24 - (ax_w32 (8 * (ax_irem l5 4)))))) 255)) c e) rfl ?_
        exact ih _ _ _ _ _ _ _ h
      by_cases h3 : 4 ≤ l5
      · refine RuP.jy rfl h3 ?_
        refine RuP.step (pc' := 57) (ls' := [some (.inr (.inr (some 84))), some (.inl l1), some (.inl l2), some (.inl l3), some (.inl l4), some (.inl l5)]) (st' := [.inl l5, .inl (ax_w32 ((s 84 1) + l5)), .inr (.inr (some 85))]) (h1 := hp L s c e) rfl ?_
        refine RuP.step (pc' := 59) (ls' := [some (.inr (.inr (some 84))), some (.inl l1), some (.inl l2), some (.inl l3), some (.inl l4), some (.inl l5)]) (st' := [.inl 8, .inl l5, .inl (ax_w32 ((s 84 1) + l5)), .inr (.inr (some 85))]) (h1 := hp L s c e) rfl ?_
        by_cases h4 : 8 ≤ l5
        · refine RuP.jy rfl h4 ?_
          refine RuP.step (pc' := 68) (ls' := [some (.inr (.inr (some 84))), some (.inl l1), some (.inl l2), some (.inl l3), some (.inl l4), some (.inl l5)]) (st' := [.inl l5, .inl (ax_w32 ((s 84 1) + l5)), .inr (.inr (some 85))]) (h1 := hp L s c e) rfl ?_
          refine RuP.step (pc' := 70) (ls' := [some (.inr (.inr (some 84))), some (.inl l1), some (.inl l2), some (.inl l3), some (.inl l4), some (.inl l5)]) (st' := [.inl 12, .inl l5, .inl (ax_w32 ((s 84 1) + l5)), .inr (.inr (some 85))]) (h1 := hp L s c e) rfl ?_
          by_cases h5 : 12 ≤ l5
          · refine RuP.jy rfl h5 ?_
            refine RuP.step (pc' := 79) (ls' := [some (.inr (.inr (some 84))), some (.inl l1), some (.inl l2), some (.inl l3), some (.inl l4), some (.inl l5)]) (st' := [.inl l4, .inl (ax_w32 ((s 84 1) + l5)), .inr (.inr (some 85))]) (h1 := hp L s c e) rfl ?_
            exact J2 _ (by simp only [if_pos h3, if_pos h4, if_pos h5])
          · refine RuP.jn rfl h5 ?_
            refine RuP.step (pc' := 74) (ls' := [some (.inr (.inr (some 84))), some (.inl l1), some (.inl l2), some (.inl l3), some (.inl l4), some (.inl l5)]) (st' := [.inl l3, .inl (ax_w32 ((s 84 1) + l5)), .inr (.inr (some 85))]) (h1 := hp L s c e) rfl ?_
            refine RuP.step (pc' := 79) (ls' := [some (.inr (.inr (some 84))), some (.inl l1), some (.inl l2), some (.inl l3), some (.inl l4), some (.inl l5)]) (st' := [.inl l3, .inl (ax_w32 ((s 84 1) + l5)), .inr (.inr (some 85))]) (h1 := hp L s c e) rfl ?_
            exact J2 _ (by simp only [if_pos h3, if_pos h4, if_neg h5])
        · refine RuP.jn rfl h4 ?_
          refine RuP.step (pc' := 63) (ls' := [some (.inr (.inr (some 84))), some (.inl l1), some (.inl l2), some (.inl l3), some (.inl l4), some (.inl l5)]) (st' := [.inl l2, .inl (ax_w32 ((s 84 1) + l5)), .inr (.inr (some 85))]) (h1 := hp L s c e) rfl ?_
          refine RuP.step (pc' := 79) (ls' := [some (.inr (.inr (some 84))), some (.inl l1), some (.inl l2), some (.inl l3), some (.inl l4), some (.inl l5)]) (st' := [.inl l2, .inl (ax_w32 ((s 84 1) + l5)), .inr (.inr (some 85))]) (h1 := hp L s c e) rfl ?_
          exact J2 _ (by simp only [if_pos h3, if_neg h4])
      · refine RuP.jn rfl h3 ?_
        refine RuP.step (pc' := 52) (ls' := [some (.inr (.inr (some 84))), some (.inl l1), some (.inl l2), some (.inl l3), some (.inl l4), some (.inl l5)]) (st' := [.inl l1, .inl (ax_w32 ((s 84 1) + l5)), .inr (.inr (some 85))]) (h1 := hp L s c e) rfl ?_
        refine RuP.step (pc' := 79) (ls' := [some (.inr (.inr (some 84))), some (.inl l1), some (.inl l2), some (.inl l3), some (.inl l4), some (.inl l5)]) (st' := [.inl l1, .inl (ax_w32 ((s 84 1) + l5)), .inr (.inr (some 85))]) (h1 := hp L s c e) rfl ?_
        exact J2 _ (by simp only [if_neg h3])
noncomputable def f_193 (x0 x1 x2 x3 : Int) (s : Sg) : Option (Int × Sg) :=
  (if ax_w32 ((s 84 1) + 16) ≤ 8192 then
    j_193_27 FU x0 x1 x2 x3 0 (ax_u2 s 84 0 0)
  else
    ((some (f_206 1 (ax_u2 s 84 0 0))).bind fun q1 =>
    some (q1.1, q1.2)))
theorem ev_193 {L c : Nat} {e : Nat → Nat} {s : Sg} {x0 x1 x2 x3 : Int} {q : Int × Sg} (h : f_193 x0 x1 x2 x3 s = some q) : EvP 2 193 [.inr (.inr (some 84)), .inl x0, .inl x1, .inl x2, .inl x3] (hp L s c e) (oI L c e q) := by
  unfold f_193 at h
  refine EvP.of (μ := tb_m193) (ls := [some (.inr (.inr (some 84))), some (.inl x0), some (.inl x1), some (.inl x2), some (.inl x3), none]) rfl (Nat.le_of_ble_eq_true rfl) rfl ?_
  refine RuP.step (pc' := 1) (ls' := [some (.inr (.inr (some 84))), some (.inl x0), some (.inl x1), some (.inl x2), some (.inl x3), none]) (st' := [.inr (.inr (some 84))]) (h1 := hp L s c e) rfl ?_
  refine RuP.step (pc' := 2) (ls' := [some (.inr (.inr (some 84))), some (.inl x0), some (.inl x1), some (.inl x2), some (.inl x3), none]) (st' := [.inl 0, .inr (.inr (some 84))]) (h1 := hp L s c e) rfl ?_
  refine RuP.step (pc' := 5) (ls' := [some (.inr (.inr (some 84))), some (.inl x0), some (.inl x1), some (.inl x2), some (.inl x3), none]) (st' := []) (h1 := hp L (ax_u2 s 84 0 0) c e) rfl ?_
  refine RuP.step (pc' := 6) (ls' := [some (.inr (.inr (some 84))), some (.inl x0), some (.inl x1), some (.inl x2), some (.inl x3), none]) (st' := [.inr (.inr (some 84))]) (h1 := hp L (ax_u2 s 84 0 0) c e) rfl ?_
  refine RuP.step (pc' := 9) (ls' := [some (.inr (.inr (some 84))), some (.inl x0), some (.inl x1), some (.inl x2), some (.inl x3), none]) (st' := [.inl (s 84 1)]) (h1 := hp L (ax_u2 s 84 0 0) c e) rfl ?_
  refine RuP.step (pc' := 11) (ls' := [some (.inr (.inr (some 84))), some (.inl x0), some (.inl x1), some (.inl x2), some (.inl x3), none]) (st' := [.inl 16, .inl (s 84 1)]) (h1 := hp L (ax_u2 s 84 0 0) c e) rfl ?_
  refine RuP.step (pc' := 12) (ls' := [some (.inr (.inr (some 84))), some (.inl x0), some (.inl x1), some (.inl x2), some (.inl x3), none]) (st' := [.inl (ax_w32 ((s 84 1) + 16))]) (h1 := hp L (ax_u2 s 84 0 0) c e) rfl ?_
  refine RuP.step (pc' := 15) (ls' := [some (.inr (.inr (some 84))), some (.inl x0), some (.inl x1), some (.inl x2), some (.inl x3), none]) (st' := [.inl 8192, .inl (ax_w32 ((s 84 1) + 16))]) (h1 := hp L (ax_u2 s 84 0 0) c e) rfl ?_
  by_cases h0 : ax_w32 ((s 84 1) + 16) ≤ 8192
  · rw [if_pos h0] at h
    refine RuP.jy rfl h0 ?_
    refine RuP.step (pc' := 25) (ls' := [some (.inr (.inr (some 84))), some (.inl x0), some (.inl x1), some (.inl x2), some (.inl x3), none]) (st' := [.inl 0]) (h1 := hp L (ax_u2 s 84 0 0) c e) rfl ?_
    refine RuP.step (pc' := 27) (ls' := [some (.inr (.inr (some 84))), some (.inl x0), some (.inl x1), some (.inl x2), some (.inl x3), some (.inl 0)]) (st' := []) (h1 := hp L (ax_u2 s 84 0 0) c e) rfl ?_
    exact bl_193_27 FU _ _ _ _ _ _ _ h
  · rw [if_neg h0] at h
    refine RuP.jn rfl h0 ?_
    refine RuP.step (pc' := 19) (ls' := [some (.inr (.inr (some 84))), some (.inl x0), some (.inl x1), some (.inl x2), some (.inl x3), none]) (st' := [.inr (.inr (some 84))]) (h1 := hp L (ax_u2 s 84 0 0) c e) rfl ?_
    refine RuP.step (pc' := 20) (ls' := [some (.inr (.inr (some 84))), some (.inl x0), some (.inl x1), some (.inl x2), some (.inl x3), none]) (st' := [.inl 1, .inr (.inr (some 84))]) (h1 := hp L (ax_u2 s 84 0 0) c e) rfl ?_
    obtain ⟨q1, h1, h⟩ := bd_some h
    refine RuP.cIe h1 rfl (EvP.ip ((ev_206 1).up (by decide))) ?_
    cases h
    exact RuP.dI rfl
/-- MachineTextModel.end(I)I -/
noncomputable def f_195 (x0 : Int) (s : Sg) : Option (Int × Sg) :=
  (if ¬ (f_207 x0 0 16 (ax_u2 s 84 0 0)) = 0 then
    (if 16 ≤ s 84 1 then
      some (ax_w32 ((s 84 1) - (ax_w32 (16 - x0))), (ax_u2 (ax_u2 s 84 0 0) 84 1 (ax_w32 ((s 84 1) - (ax_w32 (16 - x0))))))
    else
      ((some (f_206 2 (ax_u2 s 84 0 0))).bind fun q1 =>
      some (q1.1, q1.2)))
  else
    ((some (f_206 1 (ax_u2 s 84 0 0))).bind fun q2 =>
    some (q2.1, q2.2)))
theorem ev_195 {L c : Nat} {e : Nat → Nat} {s : Sg} {x0 : Int} {q : Int × Sg} (h : f_195 x0 s = some q) : EvP 2 195 [.inr (.inr (some 84)), .inl x0] (hp L s c e) (oI L c e q) := by
  unfold f_195 at h
  refine EvP.of (μ := tb_m195) (ls := [some (.inr (.inr (some 84))), some (.inl x0)]) rfl (Nat.le_of_ble_eq_true rfl) rfl ?_
  refine RuP.step (pc' := 1) (ls' := [some (.inr (.inr (some 84))), some (.inl x0)]) (st' := [.inr (.inr (some 84))]) (h1 := hp L s c e) rfl ?_
  refine RuP.step (pc' := 2) (ls' := [some (.inr (.inr (some 84))), some (.inl x0)]) (st' := [.inl 0, .inr (.inr (some 84))]) (h1 := hp L s c e) rfl ?_
  refine RuP.step (pc' := 5) (ls' := [some (.inr (.inr (some 84))), some (.inl x0)]) (st' := []) (h1 := hp L (ax_u2 s 84 0 0) c e) rfl ?_
  refine RuP.step (pc' := 6) (ls' := [some (.inr (.inr (some 84))), some (.inl x0)]) (st' := [.inl x0]) (h1 := hp L (ax_u2 s 84 0 0) c e) rfl ?_
  refine RuP.step (pc' := 7) (ls' := [some (.inr (.inr (some 84))), some (.inl x0)]) (st' := [.inr (.inl x0)]) (h1 := hp L (ax_u2 s 84 0 0) c e) rfl ?_
  refine RuP.step (pc' := 8) (ls' := [some (.inr (.inr (some 84))), some (.inl x0)]) (st' := [.inr (.inl 0), .inr (.inl x0)]) (h1 := hp L (ax_u2 s 84 0 0) c e) rfl ?_
  refine RuP.step (pc' := 11) (ls' := [some (.inr (.inr (some 84))), some (.inl x0)]) (st' := [.inr (.inl 16), .inr (.inl 0), .inr (.inl x0)]) (h1 := hp L (ax_u2 s 84 0 0) c e) rfl ?_
  refine RuP.cI rfl (EvP.i ((ev_207 x0 0 16).up (by decide))) ?_
  by_cases h0 : ¬ (f_207 x0 0 16 (ax_u2 s 84 0 0)) = 0
  · rw [if_pos h0] at h
    refine RuP.jy rfl h0 ?_
    refine RuP.step (pc' := 24) (ls' := [some (.inr (.inr (some 84))), some (.inl x0)]) (st' := [.inr (.inr (some 84))]) (h1 := hp L (ax_u2 s 84 0 0) c e) rfl ?_
    refine RuP.step (pc' := 27) (ls' := [some (.inr (.inr (some 84))), some (.inl x0)]) (st' := [.inl (s 84 1)]) (h1 := hp L (ax_u2 s 84 0 0) c e) rfl ?_
    refine RuP.step (pc' := 29) (ls' := [some (.inr (.inr (some 84))), some (.inl x0)]) (st' := [.inl 16, .inl (s 84 1)]) (h1 := hp L (ax_u2 s 84 0 0) c e) rfl ?_
    by_cases h1 : 16 ≤ s 84 1
    · rw [if_pos h1] at h
      refine RuP.jy rfl h1 ?_
      refine RuP.step (pc' := 39) (ls' := [some (.inr (.inr (some 84))), some (.inl x0)]) (st' := [.inr (.inr (some 84))]) (h1 := hp L (ax_u2 s 84 0 0) c e) rfl ?_
      refine RuP.step (pc' := 40) (ls' := [some (.inr (.inr (some 84))), some (.inl x0)]) (st' := [.inr (.inr (some 84)), .inr (.inr (some 84))]) (h1 := hp L (ax_u2 s 84 0 0) c e) rfl ?_
      refine RuP.step (pc' := 43) (ls' := [some (.inr (.inr (some 84))), some (.inl x0)]) (st' := [.inl (s 84 1), .inr (.inr (some 84))]) (h1 := hp L (ax_u2 s 84 0 0) c e) rfl ?_
      refine RuP.step (pc' := 45) (ls' := [some (.inr (.inr (some 84))), some (.inl x0)]) (st' := [.inl 16, .inl (s 84 1), .inr (.inr (some 84))]) (h1 := hp L (ax_u2 s 84 0 0) c e) rfl ?_
      refine RuP.step (pc' := 46) (ls' := [some (.inr (.inr (some 84))), some (.inl x0)]) (st' := [.inl x0, .inl 16, .inl (s 84 1), .inr (.inr (some 84))]) (h1 := hp L (ax_u2 s 84 0 0) c e) rfl ?_
      refine RuP.step (pc' := 47) (ls' := [some (.inr (.inr (some 84))), some (.inl x0)]) (st' := [.inl (ax_w32 (16 - x0)), .inl (s 84 1), .inr (.inr (some 84))]) (h1 := hp L (ax_u2 s 84 0 0) c e) rfl ?_
      refine RuP.step (pc' := 48) (ls' := [some (.inr (.inr (some 84))), some (.inl x0)]) (st' := [.inl (ax_w32 ((s 84 1) - (ax_w32 (16 - x0)))), .inr (.inr (some 84))]) (h1 := hp L (ax_u2 s 84 0 0) c e) rfl ?_
      refine RuP.step (pc' := 51) (ls' := [some (.inr (.inr (some 84))), some (.inl x0)]) (st' := []) (h1 := hp L (ax_u2 (ax_u2 s 84 0 0) 84 1 (ax_w32 ((s 84 1) - (ax_w32 (16 - x0))))) c e) rfl ?_
      refine RuP.step (pc' := 52) (ls' := [some (.inr (.inr (some 84))), some (.inl x0)]) (st' := [.inr (.inr (some 84))]) (h1 := hp L (ax_u2 (ax_u2 s 84 0 0) 84 1 (ax_w32 ((s 84 1) - (ax_w32 (16 - x0))))) c e) rfl ?_
      refine RuP.step (pc' := 55) (ls' := [some (.inr (.inr (some 84))), some (.inl x0)]) (st' := [.inl (ax_w32 ((s 84 1) - (ax_w32 (16 - x0))))]) (h1 := hp L (ax_u2 (ax_u2 s 84 0 0) 84 1 (ax_w32 ((s 84 1) - (ax_w32 (16 - x0))))) c e) rfl ?_
      cases h
      exact RuP.dI rfl
    · rw [if_neg h1] at h
      refine RuP.jn rfl h1 ?_
      refine RuP.step (pc' := 33) (ls' := [some (.inr (.inr (some 84))), some (.inl x0)]) (st' := [.inr (.inr (some 84))]) (h1 := hp L (ax_u2 s 84 0 0) c e) rfl ?_
      refine RuP.step (pc' := 34) (ls' := [some (.inr (.inr (some 84))), some (.inl x0)]) (st' := [.inl 2, .inr (.inr (some 84))]) (h1 := hp L (ax_u2 s 84 0 0) c e) rfl ?_
      obtain ⟨q1, h1, h⟩ := bd_some h
      refine RuP.cIe h1 rfl (EvP.ip ((ev_206 2).up (by decide))) ?_
      cases h
      exact RuP.dI rfl
  · rw [if_neg h0] at h
    refine RuP.jn rfl h0 ?_
    refine RuP.step (pc' := 18) (ls' := [some (.inr (.inr (some 84))), some (.inl x0)]) (st' := [.inr (.inr (some 84))]) (h1 := hp L (ax_u2 s 84 0 0) c e) rfl ?_
    refine RuP.step (pc' := 19) (ls' := [some (.inr (.inr (some 84))), some (.inl x0)]) (st' := [.inl 1, .inr (.inr (some 84))]) (h1 := hp L (ax_u2 s 84 0 0) c e) rfl ?_
    obtain ⟨q2, h1, h⟩ := bd_some h
    refine RuP.cIe h1 rfl (EvP.ip ((ev_206 1).up (by decide))) ?_
    cases h
    exact RuP.dI rfl
/-- MachineTextModel.fault(I)I -/
noncomputable def f_197 (x0 : Int) (s : Sg) : Option (Int × Sg) :=
  (if ¬ x0 = 0 then
    (if ¬ x0 = 1 then
      ((some (f_206 1 (ax_u2 s 84 0 0))).bind fun q1 =>
      some (q1.1, q1.2))
    else
      some (s 84 7, (ax_u2 s 84 0 0)))
  else
    some (s 84 6, (ax_u2 s 84 0 0)))
theorem ev_197 {L c : Nat} {e : Nat → Nat} {s : Sg} {x0 : Int} {q : Int × Sg} (h : f_197 x0 s = some q) : EvP 2 197 [.inr (.inr (some 84)), .inl x0] (hp L s c e) (oI L c e q) := by
  unfold f_197 at h
  refine EvP.of (μ := tb_m197) (ls := [some (.inr (.inr (some 84))), some (.inl x0)]) rfl (Nat.le_of_ble_eq_true rfl) rfl ?_
  refine RuP.step (pc' := 1) (ls' := [some (.inr (.inr (some 84))), some (.inl x0)]) (st' := [.inr (.inr (some 84))]) (h1 := hp L s c e) rfl ?_
  refine RuP.step (pc' := 2) (ls' := [some (.inr (.inr (some 84))), some (.inl x0)]) (st' := [.inl 0, .inr (.inr (some 84))]) (h1 := hp L s c e) rfl ?_
  refine RuP.step (pc' := 5) (ls' := [some (.inr (.inr (some 84))), some (.inl x0)]) (st' := []) (h1 := hp L (ax_u2 s 84 0 0) c e) rfl ?_
  refine RuP.step (pc' := 6) (ls' := [some (.inr (.inr (some 84))), some (.inl x0)]) (st' := [.inl x0]) (h1 := hp L (ax_u2 s 84 0 0) c e) rfl ?_
  by_cases h0 : ¬ x0 = 0
  · rw [if_pos h0] at h
    refine RuP.jy rfl h0 ?_
    refine RuP.step (pc' := 17) (ls' := [some (.inr (.inr (some 84))), some (.inl x0)]) (st' := [.inl x0]) (h1 := hp L (ax_u2 s 84 0 0) c e) rfl ?_
    refine RuP.step (pc' := 18) (ls' := [some (.inr (.inr (some 84))), some (.inl x0)]) (st' := [.inl 1, .inl x0]) (h1 := hp L (ax_u2 s 84 0 0) c e) rfl ?_
    by_cases h1 : ¬ x0 = 1
    · rw [if_pos h1] at h
      refine RuP.jy rfl h1 ?_
      refine RuP.step (pc' := 29) (ls' := [some (.inr (.inr (some 84))), some (.inl x0)]) (st' := [.inr (.inr (some 84))]) (h1 := hp L (ax_u2 s 84 0 0) c e) rfl ?_
      refine RuP.step (pc' := 30) (ls' := [some (.inr (.inr (some 84))), some (.inl x0)]) (st' := [.inl 1, .inr (.inr (some 84))]) (h1 := hp L (ax_u2 s 84 0 0) c e) rfl ?_
      obtain ⟨q1, h1, h⟩ := bd_some h
      refine RuP.cIe h1 rfl (EvP.ip ((ev_206 1).up (by decide))) ?_
      cases h
      exact RuP.dI rfl
    · rw [if_neg h1] at h
      refine RuP.jn rfl h1 ?_
      refine RuP.step (pc' := 22) (ls' := [some (.inr (.inr (some 84))), some (.inl x0)]) (st' := [.inr (.inr (some 84))]) (h1 := hp L (ax_u2 s 84 0 0) c e) rfl ?_
      refine RuP.step (pc' := 25) (ls' := [some (.inr (.inr (some 84))), some (.inl x0)]) (st' := [.inl (s 84 7)]) (h1 := hp L (ax_u2 s 84 0 0) c e) rfl ?_
      refine RuP.step (pc' := 33) (ls' := [some (.inr (.inr (some 84))), some (.inl x0)]) (st' := [.inl (s 84 7)]) (h1 := hp L (ax_u2 s 84 0 0) c e) rfl ?_
      cases h
      exact RuP.dI rfl
  · rw [if_neg h0] at h
    refine RuP.jn rfl h0 ?_
    refine RuP.step (pc' := 10) (ls' := [some (.inr (.inr (some 84))), some (.inl x0)]) (st' := [.inr (.inr (some 84))]) (h1 := hp L (ax_u2 s 84 0 0) c e) rfl ?_
    refine RuP.step (pc' := 13) (ls' := [some (.inr (.inr (some 84))), some (.inl x0)]) (st' := [.inl (s 84 6)]) (h1 := hp L (ax_u2 s 84 0 0) c e) rfl ?_
    refine RuP.step (pc' := 33) (ls' := [some (.inr (.inr (some 84))), some (.inl x0)]) (st' := [.inl (s 84 6)]) (h1 := hp L (ax_u2 s 84 0 0) c e) rfl ?_
    cases h
    exact RuP.dI rfl
/-- MachineTextModel.ring(I)I -/
noncomputable def j_201_39 (s : Sg) : Option (Int × Sg) :=
  ((some (f_206 1 s)).bind fun q1 =>
  some (q1.1, q1.2))
theorem bl_201_39 {L c : Nat} {e : Nat → Nat} : ∀ (z1 : Int) (s : Sg) (q : Int × Sg), j_201_39 s = some q → RuP 1 tb_m201 39 [some (.inr (.inr (some 84))), some (.inl z1)] [] (hp L s c e) (oI L c e q) := by
  intro z1 s q h
  unfold j_201_39 at h
  refine RuP.step (pc' := 40) (ls' := [some (.inr (.inr (some 84))), some (.inl z1)]) (st' := [.inr (.inr (some 84))]) (h1 := hp L s c e) rfl ?_
  refine RuP.step (pc' := 41) (ls' := [some (.inr (.inr (some 84))), some (.inl z1)]) (st' := [.inl 1, .inr (.inr (some 84))]) (h1 := hp L s c e) rfl ?_
  obtain ⟨q1, h1, h⟩ := bd_some h
  refine RuP.cIe h1 rfl (EvP.ip ((ev_206 1).up (by decide))) ?_
  cases h
  exact RuP.dI rfl
noncomputable def f_201 (x0 : Int) (s : Sg) : Option (Int × Sg) :=
  (if ¬ (s 84 6) = 8 then
    j_201_39 (ax_u2 s 84 0 0)
  else
    (if f_207 x0 0 (ax_w32 ((s 84 72) - 1)) (ax_u2 s 84 0 0) = 0 then
      j_201_39 (ax_u2 s 84 0 0)
    else
      (gd (0 ≤ x0 ∧ x0 < 4100) (
      some (s 134 x0.toNat, (ax_u2 s 84 0 0))))))
theorem ev_201 {L c : Nat} {e : Nat → Nat} {s : Sg} {x0 : Int} {q : Int × Sg} (h : f_201 x0 s = some q) : EvP 2 201 [.inr (.inr (some 84)), .inl x0] (hp L s c e) (oI L c e q) := by
  unfold f_201 at h
  refine EvP.of (μ := tb_m201) (ls := [some (.inr (.inr (some 84))), some (.inl x0)]) rfl (Nat.le_of_ble_eq_true rfl) rfl ?_
  refine RuP.step (pc' := 1) (ls' := [some (.inr (.inr (some 84))), some (.inl x0)]) (st' := [.inr (.inr (some 84))]) (h1 := hp L s c e) rfl ?_
  refine RuP.step (pc' := 2) (ls' := [some (.inr (.inr (some 84))), some (.inl x0)]) (st' := [.inl 0, .inr (.inr (some 84))]) (h1 := hp L s c e) rfl ?_
  refine RuP.step (pc' := 5) (ls' := [some (.inr (.inr (some 84))), some (.inl x0)]) (st' := []) (h1 := hp L (ax_u2 s 84 0 0) c e) rfl ?_
  refine RuP.step (pc' := 6) (ls' := [some (.inr (.inr (some 84))), some (.inl x0)]) (st' := [.inr (.inr (some 84))]) (h1 := hp L (ax_u2 s 84 0 0) c e) rfl ?_
  refine RuP.step (pc' := 9) (ls' := [some (.inr (.inr (some 84))), some (.inl x0)]) (st' := [.inl (s 84 6)]) (h1 := hp L (ax_u2 s 84 0 0) c e) rfl ?_
  refine RuP.step (pc' := 11) (ls' := [some (.inr (.inr (some 84))), some (.inl x0)]) (st' := [.inl 8, .inl (s 84 6)]) (h1 := hp L (ax_u2 s 84 0 0) c e) rfl ?_
  by_cases h0 : ¬ (s 84 6) = 8
  · rw [if_pos h0] at h
    refine RuP.jy rfl h0 ?_
    exact bl_201_39 _ _ _ h
  · rw [if_neg h0] at h
    refine RuP.jn rfl h0 ?_
    refine RuP.step (pc' := 15) (ls' := [some (.inr (.inr (some 84))), some (.inl x0)]) (st' := [.inl x0]) (h1 := hp L (ax_u2 s 84 0 0) c e) rfl ?_
    refine RuP.step (pc' := 16) (ls' := [some (.inr (.inr (some 84))), some (.inl x0)]) (st' := [.inr (.inl x0)]) (h1 := hp L (ax_u2 s 84 0 0) c e) rfl ?_
    refine RuP.step (pc' := 17) (ls' := [some (.inr (.inr (some 84))), some (.inl x0)]) (st' := [.inr (.inl 0), .inr (.inl x0)]) (h1 := hp L (ax_u2 s 84 0 0) c e) rfl ?_
    refine RuP.step (pc' := 18) (ls' := [some (.inr (.inr (some 84))), some (.inl x0)]) (st' := [.inr (.inr (some 84)), .inr (.inl 0), .inr (.inl x0)]) (h1 := hp L (ax_u2 s 84 0 0) c e) rfl ?_
    refine RuP.step (pc' := 21) (ls' := [some (.inr (.inr (some 84))), some (.inl x0)]) (st' := [.inl (s 84 72), .inr (.inl 0), .inr (.inl x0)]) (h1 := hp L (ax_u2 s 84 0 0) c e) rfl ?_
    refine RuP.step (pc' := 22) (ls' := [some (.inr (.inr (some 84))), some (.inl x0)]) (st' := [.inl 1, .inl (s 84 72), .inr (.inl 0), .inr (.inl x0)]) (h1 := hp L (ax_u2 s 84 0 0) c e) rfl ?_
    refine RuP.step (pc' := 23) (ls' := [some (.inr (.inr (some 84))), some (.inl x0)]) (st' := [.inl (ax_w32 ((s 84 72) - 1)), .inr (.inl 0), .inr (.inl x0)]) (h1 := hp L (ax_u2 s 84 0 0) c e) rfl ?_
    refine RuP.step (pc' := 24) (ls' := [some (.inr (.inr (some 84))), some (.inl x0)]) (st' := [.inr (.inl (ax_w32 ((s 84 72) - 1))), .inr (.inl 0), .inr (.inl x0)]) (h1 := hp L (ax_u2 s 84 0 0) c e) rfl ?_
    refine RuP.cI rfl (EvP.i ((ev_207 x0 0 (ax_w32 ((s 84 72) - 1))).up (by decide))) ?_
    by_cases h1 : f_207 x0 0 (ax_w32 ((s 84 72) - 1)) (ax_u2 s 84 0 0) = 0
    · rw [if_pos h1] at h
      refine RuP.jy rfl h1 ?_
      exact bl_201_39 _ _ _ h
    · rw [if_neg h1] at h
      refine RuP.jn rfl h1 ?_
      refine RuP.step (pc' := 31) (ls' := [some (.inr (.inr (some 84))), some (.inl x0)]) (st' := [.inr (.inr (some 84))]) (h1 := hp L (ax_u2 s 84 0 0) c e) rfl ?_
      refine RuP.step (pc' := 34) (ls' := [some (.inr (.inr (some 84))), some (.inl x0)]) (st' := [.inr (.inr (some 134))]) (h1 := hp L (ax_u2 s 84 0 0) c e) rfl ?_
      refine RuP.step (pc' := 35) (ls' := [some (.inr (.inr (some 84))), some (.inl x0)]) (st' := [.inl x0, .inr (.inr (some 134))]) (h1 := hp L (ax_u2 s 84 0 0) c e) rfl ?_
      obtain ⟨b2, h⟩ := gd_some h
      refine RuP.ald (f := fun t => t == 0) (j := x0) (a := 134) rfl rfl b2.1 b2.2 ?_
      refine RuP.step (pc' := 44) (ls' := [some (.inr (.inr (some 84))), some (.inl x0)]) (st' := [.inl (s 134 x0.toNat)]) (h1 := hp L (ax_u2 s 84 0 0) c e) rfl ?_
      cases h
      exact RuP.dI rfl
/-- MachineTextModel.out(I)I -/
noncomputable def f_203 (x0 : Int) (s : Sg) : Option (Int × Sg) :=
  (if f_207 x0 0 (ax_w32 ((s 84 9) - 1)) (ax_u2 s 84 0 0) = 0 then
    ((some (f_206 1 (ax_u2 s 84 0 0))).bind fun q1 =>
    some (q1.1, q1.2))
  else
    (gd (0 ≤ x0 ∧ x0 < 25000) (
    some (s 87 x0.toNat, (ax_u2 s 84 0 0)))))
theorem ev_203 {L c : Nat} {e : Nat → Nat} {s : Sg} {x0 : Int} {q : Int × Sg} (h : f_203 x0 s = some q) : EvP 2 203 [.inr (.inr (some 84)), .inl x0] (hp L s c e) (oI L c e q) := by
  unfold f_203 at h
  refine EvP.of (μ := tb_m203) (ls := [some (.inr (.inr (some 84))), some (.inl x0)]) rfl (Nat.le_of_ble_eq_true rfl) rfl ?_
  refine RuP.step (pc' := 1) (ls' := [some (.inr (.inr (some 84))), some (.inl x0)]) (st' := [.inr (.inr (some 84))]) (h1 := hp L s c e) rfl ?_
  refine RuP.step (pc' := 2) (ls' := [some (.inr (.inr (some 84))), some (.inl x0)]) (st' := [.inl 0, .inr (.inr (some 84))]) (h1 := hp L s c e) rfl ?_
  refine RuP.step (pc' := 5) (ls' := [some (.inr (.inr (some 84))), some (.inl x0)]) (st' := []) (h1 := hp L (ax_u2 s 84 0 0) c e) rfl ?_
  refine RuP.step (pc' := 6) (ls' := [some (.inr (.inr (some 84))), some (.inl x0)]) (st' := [.inl x0]) (h1 := hp L (ax_u2 s 84 0 0) c e) rfl ?_
  refine RuP.step (pc' := 7) (ls' := [some (.inr (.inr (some 84))), some (.inl x0)]) (st' := [.inr (.inl x0)]) (h1 := hp L (ax_u2 s 84 0 0) c e) rfl ?_
  refine RuP.step (pc' := 8) (ls' := [some (.inr (.inr (some 84))), some (.inl x0)]) (st' := [.inr (.inl 0), .inr (.inl x0)]) (h1 := hp L (ax_u2 s 84 0 0) c e) rfl ?_
  refine RuP.step (pc' := 9) (ls' := [some (.inr (.inr (some 84))), some (.inl x0)]) (st' := [.inr (.inr (some 84)), .inr (.inl 0), .inr (.inl x0)]) (h1 := hp L (ax_u2 s 84 0 0) c e) rfl ?_
  refine RuP.step (pc' := 12) (ls' := [some (.inr (.inr (some 84))), some (.inl x0)]) (st' := [.inl (s 84 9), .inr (.inl 0), .inr (.inl x0)]) (h1 := hp L (ax_u2 s 84 0 0) c e) rfl ?_
  refine RuP.step (pc' := 13) (ls' := [some (.inr (.inr (some 84))), some (.inl x0)]) (st' := [.inl 1, .inl (s 84 9), .inr (.inl 0), .inr (.inl x0)]) (h1 := hp L (ax_u2 s 84 0 0) c e) rfl ?_
  refine RuP.step (pc' := 14) (ls' := [some (.inr (.inr (some 84))), some (.inl x0)]) (st' := [.inl (ax_w32 ((s 84 9) - 1)), .inr (.inl 0), .inr (.inl x0)]) (h1 := hp L (ax_u2 s 84 0 0) c e) rfl ?_
  refine RuP.step (pc' := 15) (ls' := [some (.inr (.inr (some 84))), some (.inl x0)]) (st' := [.inr (.inl (ax_w32 ((s 84 9) - 1))), .inr (.inl 0), .inr (.inl x0)]) (h1 := hp L (ax_u2 s 84 0 0) c e) rfl ?_
  refine RuP.cI rfl (EvP.i ((ev_207 x0 0 (ax_w32 ((s 84 9) - 1))).up (by decide))) ?_
  by_cases h0 : f_207 x0 0 (ax_w32 ((s 84 9) - 1)) (ax_u2 s 84 0 0) = 0
  · rw [if_pos h0] at h
    refine RuP.jy rfl h0 ?_
    refine RuP.step (pc' := 31) (ls' := [some (.inr (.inr (some 84))), some (.inl x0)]) (st' := [.inr (.inr (some 84))]) (h1 := hp L (ax_u2 s 84 0 0) c e) rfl ?_
    refine RuP.step (pc' := 32) (ls' := [some (.inr (.inr (some 84))), some (.inl x0)]) (st' := [.inl 1, .inr (.inr (some 84))]) (h1 := hp L (ax_u2 s 84 0 0) c e) rfl ?_
    obtain ⟨q1, h1, h⟩ := bd_some h
    refine RuP.cIe h1 rfl (EvP.ip ((ev_206 1).up (by decide))) ?_
    cases h
    exact RuP.dI rfl
  · rw [if_neg h0] at h
    refine RuP.jn rfl h0 ?_
    refine RuP.step (pc' := 22) (ls' := [some (.inr (.inr (some 84))), some (.inl x0)]) (st' := [.inr (.inr (some 84))]) (h1 := hp L (ax_u2 s 84 0 0) c e) rfl ?_
    refine RuP.step (pc' := 25) (ls' := [some (.inr (.inr (some 84))), some (.inl x0)]) (st' := [.inr (.inr (some 87))]) (h1 := hp L (ax_u2 s 84 0 0) c e) rfl ?_
    refine RuP.step (pc' := 26) (ls' := [some (.inr (.inr (some 84))), some (.inl x0)]) (st' := [.inl x0, .inr (.inr (some 87))]) (h1 := hp L (ax_u2 s 84 0 0) c e) rfl ?_
    obtain ⟨b1, h⟩ := gd_some h
    refine RuP.ald (f := fun t => t == 0) (j := x0) (a := 87) rfl rfl b1.1 b1.2 ?_
    refine RuP.step (pc' := 35) (ls' := [some (.inr (.inr (some 84))), some (.inl x0)]) (st' := [.inl (s 87 x0.toNat)]) (h1 := hp L (ax_u2 s 84 0 0) c e) rfl ?_
    cases h
    exact RuP.dI rfl
/-- MachineTextModel.again()I -/
noncomputable def j_204_49 (s : Sg) : Option (Int × Sg) :=
  some (s 84 9, (ax_u2 s 84 1 (s 84 9)))
theorem bl_204_49 {L c : Nat} {e : Nat → Nat} : ∀ (z1 : Int) (s : Sg) (q : Int × Sg), j_204_49 s = some q → RuP 1 tb_m204 49 [some (.inr (.inr (some 84))), some (.inl z1)] [] (hp L s c e) (oI L c e q) := by
  intro z1 s q h
  unfold j_204_49 at h
  refine RuP.step (pc' := 50) (ls' := [some (.inr (.inr (some 84))), some (.inl z1)]) (st' := [.inr (.inr (some 84))]) (h1 := hp L s c e) rfl ?_
  refine RuP.step (pc' := 51) (ls' := [some (.inr (.inr (some 84))), some (.inl z1)]) (st' := [.inr (.inr (some 84)), .inr (.inr (some 84))]) (h1 := hp L s c e) rfl ?_
  refine RuP.step (pc' := 54) (ls' := [some (.inr (.inr (some 84))), some (.inl z1)]) (st' := [.inl (s 84 9), .inr (.inr (some 84))]) (h1 := hp L s c e) rfl ?_
  refine RuP.step (pc' := 57) (ls' := [some (.inr (.inr (some 84))), some (.inl z1)]) (st' := []) (h1 := hp L (ax_u2 s 84 1 (s 84 9)) c e) rfl ?_
  refine RuP.step (pc' := 58) (ls' := [some (.inr (.inr (some 84))), some (.inl z1)]) (st' := [.inr (.inr (some 84))]) (h1 := hp L (ax_u2 s 84 1 (s 84 9)) c e) rfl ?_
  refine RuP.step (pc' := 61) (ls' := [some (.inr (.inr (some 84))), some (.inl z1)]) (st' := [.inl (s 84 9)]) (h1 := hp L (ax_u2 s 84 1 (s 84 9)) c e) rfl ?_
  cases h
  exact RuP.dI rfl
noncomputable def j_204_23 : Nat → Int → Sg → Option (Int × Sg)
  | 0, _, _ => none
  | F + 1, l1, s =>
    (if s 84 9 ≤ l1 then
      j_204_49 s
    else
      (gd (0 ≤ l1 ∧ l1 < 25000) (
      (gd (0 ≤ l1 ∧ l1 < 8192) (
      (j_204_23 F) (ax_w32 (l1 + 1)) (ax_u2 s 85 l1.toNat (s 87 l1.toNat)))))))
theorem bl_204_23 {L c : Nat} {e : Nat → Nat} : ∀ (F : Nat) (l1 : Int) (s : Sg) (q : Int × Sg), j_204_23 F l1 s = some q → RuP 1 tb_m204 23 [some (.inr (.inr (some 84))), some (.inl l1)] [] (hp L s c e) (oI L c e q) := by
  intro F
  induction F with
  | zero =>
    intro l1 s q h
    rw [j_204_23] at h
    cases h
  | succ F ih =>
    intro l1 s q h
    rw [j_204_23] at h
    refine RuP.step (pc' := 24) (ls' := [some (.inr (.inr (some 84))), some (.inl l1)]) (st' := [.inl l1]) (h1 := hp L s c e) rfl ?_
    refine RuP.step (pc' := 25) (ls' := [some (.inr (.inr (some 84))), some (.inl l1)]) (st' := [.inr (.inr (some 84)), .inl l1]) (h1 := hp L s c e) rfl ?_
    refine RuP.step (pc' := 28) (ls' := [some (.inr (.inr (some 84))), some (.inl l1)]) (st' := [.inl (s 84 9), .inl l1]) (h1 := hp L s c e) rfl ?_
    by_cases h0 : s 84 9 ≤ l1
    · rw [if_pos h0] at h
      refine RuP.jy rfl h0 ?_
      exact bl_204_49 _ _ _ h
    · rw [if_neg h0] at h
      refine RuP.jn rfl h0 ?_
      refine RuP.step (pc' := 32) (ls' := [some (.inr (.inr (some 84))), some (.inl l1)]) (st' := [.inr (.inr (some 84))]) (h1 := hp L s c e) rfl ?_
      refine RuP.step (pc' := 35) (ls' := [some (.inr (.inr (some 84))), some (.inl l1)]) (st' := [.inr (.inr (some 85))]) (h1 := hp L s c e) rfl ?_
      refine RuP.step (pc' := 36) (ls' := [some (.inr (.inr (some 84))), some (.inl l1)]) (st' := [.inl l1, .inr (.inr (some 85))]) (h1 := hp L s c e) rfl ?_
      refine RuP.step (pc' := 37) (ls' := [some (.inr (.inr (some 84))), some (.inl l1)]) (st' := [.inr (.inr (some 84)), .inl l1, .inr (.inr (some 85))]) (h1 := hp L s c e) rfl ?_
      refine RuP.step (pc' := 40) (ls' := [some (.inr (.inr (some 84))), some (.inl l1)]) (st' := [.inr (.inr (some 87)), .inl l1, .inr (.inr (some 85))]) (h1 := hp L s c e) rfl ?_
      refine RuP.step (pc' := 41) (ls' := [some (.inr (.inr (some 84))), some (.inl l1)]) (st' := [.inl l1, .inr (.inr (some 87)), .inl l1, .inr (.inr (some 85))]) (h1 := hp L s c e) rfl ?_
      obtain ⟨b1, h⟩ := gd_some h
      refine RuP.ald (f := fun t => t == 0) (j := l1) (a := 87) rfl rfl b1.1 b1.2 ?_
      obtain ⟨b2, h⟩ := gd_some h
      refine RuP.ast (f := fun t => t == 0) (j := l1) (a := 85) rfl rfl (by decide) rfl rfl b2.1 b2.2 ?_
      refine RuP.step (pc' := 46) (ls' := [some (.inr (.inr (some 84))), some (.inl (ax_w32 (l1 + 1)))]) (st' := []) (h1 := hp L (ax_u2 s 85 l1.toNat (s 87 l1.toNat)) c e) rfl ?_
      refine RuP.step (pc' := 23) (ls' := [some (.inr (.inr (some 84))), some (.inl (ax_w32 (l1 + 1)))]) (st' := []) (h1 := hp L (ax_u2 s 85 l1.toNat (s 87 l1.toNat)) c e) rfl ?_
      exact ih _ _ _ h
noncomputable def f_204 (s : Sg) : Option (Int × Sg) :=
  (if s 84 9 ≤ 8192 then
    j_204_23 FU 0 (ax_u2 s 84 0 0)
  else
    ((some (f_206 1 (ax_u2 s 84 0 0))).bind fun q1 =>
    some (q1.1, q1.2)))
theorem ev_204 {L c : Nat} {e : Nat → Nat} {s : Sg} {q : Int × Sg} (h : f_204 s = some q) : EvP 2 204 [.inr (.inr (some 84))] (hp L s c e) (oI L c e q) := by
  unfold f_204 at h
  refine EvP.of (μ := tb_m204) (ls := [some (.inr (.inr (some 84))), none]) rfl (Nat.le_of_ble_eq_true rfl) rfl ?_
  refine RuP.step (pc' := 1) (ls' := [some (.inr (.inr (some 84))), none]) (st' := [.inr (.inr (some 84))]) (h1 := hp L s c e) rfl ?_
  refine RuP.step (pc' := 2) (ls' := [some (.inr (.inr (some 84))), none]) (st' := [.inl 0, .inr (.inr (some 84))]) (h1 := hp L s c e) rfl ?_
  refine RuP.step (pc' := 5) (ls' := [some (.inr (.inr (some 84))), none]) (st' := []) (h1 := hp L (ax_u2 s 84 0 0) c e) rfl ?_
  refine RuP.step (pc' := 6) (ls' := [some (.inr (.inr (some 84))), none]) (st' := [.inr (.inr (some 84))]) (h1 := hp L (ax_u2 s 84 0 0) c e) rfl ?_
  refine RuP.step (pc' := 9) (ls' := [some (.inr (.inr (some 84))), none]) (st' := [.inl (s 84 9)]) (h1 := hp L (ax_u2 s 84 0 0) c e) rfl ?_
  refine RuP.step (pc' := 12) (ls' := [some (.inr (.inr (some 84))), none]) (st' := [.inl 8192, .inl (s 84 9)]) (h1 := hp L (ax_u2 s 84 0 0) c e) rfl ?_
  by_cases h0 : s 84 9 ≤ 8192
  · rw [if_pos h0] at h
    refine RuP.jy rfl h0 ?_
    refine RuP.step (pc' := 22) (ls' := [some (.inr (.inr (some 84))), none]) (st' := [.inl 0]) (h1 := hp L (ax_u2 s 84 0 0) c e) rfl ?_
    refine RuP.step (pc' := 23) (ls' := [some (.inr (.inr (some 84))), some (.inl 0)]) (st' := []) (h1 := hp L (ax_u2 s 84 0 0) c e) rfl ?_
    exact bl_204_23 FU _ _ _ h
  · rw [if_neg h0] at h
    refine RuP.jn rfl h0 ?_
    refine RuP.step (pc' := 16) (ls' := [some (.inr (.inr (some 84))), none]) (st' := [.inr (.inr (some 84))]) (h1 := hp L (ax_u2 s 84 0 0) c e) rfl ?_
    refine RuP.step (pc' := 17) (ls' := [some (.inr (.inr (some 84))), none]) (st' := [.inl 1, .inr (.inr (some 84))]) (h1 := hp L (ax_u2 s 84 0 0) c e) rfl ?_
    obtain ⟨q1, h1, h⟩ := bd_some h
    refine RuP.cIe h1 rfl (EvP.ip ((ev_206 1).up (by decide))) ?_
    cases h
    exact RuP.dI rfl
/-- MachineTextModel.isBlank(II)Z -/
noncomputable def j_220_64 (l4 : Int) (s : Sg) : Option Int :=
  (if l4 = 7 then
    some 0
  else
    (if l4 = 8 then
      some 0
    else
      some 1))
theorem bl_220_64 {L c : Nat} {e : Nat → Nat} : ∀ (z1 z2 z3 : Int) (l4 : Int) (s : Sg) (q : Int), j_220_64 l4 s = some q → RuP 1 tb_m220 64 [some (.inr (.inr (some 84))), some (.inl z1), some (.inl z2), some (.inl z3), some (.inl l4)] [] (hp L s c e) (oI L c e (q, s)) := by
  intro z1 z2 z3 l4 s q h
  unfold j_220_64 at h
  refine RuP.step (pc' := 66) (ls' := [some (.inr (.inr (some 84))), some (.inl z1), some (.inl z2), some (.inl z3), some (.inl l4)]) (st' := [.inl l4]) (h1 := hp L s c e) rfl ?_
  refine RuP.step (pc' := 68) (ls' := [some (.inr (.inr (some 84))), some (.inl z1), some (.inl z2), some (.inl z3), some (.inl l4)]) (st' := [.inl 7, .inl l4]) (h1 := hp L s c e) rfl ?_
  by_cases h0 : l4 = 7
  · rw [if_pos h0] at h
    refine RuP.jy rfl h0 ?_
    refine RuP.step (pc' := 83) (ls' := [some (.inr (.inr (some 84))), some (.inl z1), some (.inl z2), some (.inl z3), some (.inl l4)]) (st' := [.inl 0]) (h1 := hp L s c e) rfl ?_
    cases h
    exact RuP.dI rfl
  · rw [if_neg h0] at h
    refine RuP.jn rfl h0 ?_
    refine RuP.step (pc' := 73) (ls' := [some (.inr (.inr (some 84))), some (.inl z1), some (.inl z2), some (.inl z3), some (.inl l4)]) (st' := [.inl l4]) (h1 := hp L s c e) rfl ?_
    refine RuP.step (pc' := 75) (ls' := [some (.inr (.inr (some 84))), some (.inl z1), some (.inl z2), some (.inl z3), some (.inl l4)]) (st' := [.inl 8, .inl l4]) (h1 := hp L s c e) rfl ?_
    by_cases h1 : l4 = 8
    · rw [if_pos h1] at h
      refine RuP.jy rfl h1 ?_
      refine RuP.step (pc' := 83) (ls' := [some (.inr (.inr (some 84))), some (.inl z1), some (.inl z2), some (.inl z3), some (.inl l4)]) (st' := [.inl 0]) (h1 := hp L s c e) rfl ?_
      cases h
      exact RuP.dI rfl
    · rw [if_neg h1] at h
      refine RuP.jn rfl h1 ?_
      refine RuP.step (pc' := 79) (ls' := [some (.inr (.inr (some 84))), some (.inl z1), some (.inl z2), some (.inl z3), some (.inl l4)]) (st' := [.inl 1]) (h1 := hp L s c e) rfl ?_
      refine RuP.step (pc' := 83) (ls' := [some (.inr (.inr (some 84))), some (.inl z1), some (.inl z2), some (.inl z3), some (.inl l4)]) (st' := [.inl 1]) (h1 := hp L s c e) rfl ?_
      cases h
      exact RuP.dI rfl
noncomputable def j_220_112 (l4 : Int) (s : Sg) : Option Int :=
  (if f_250 l4 s = 0 then
    some 0
  else
    some 1)
theorem bl_220_112 {L c : Nat} {e : Nat → Nat} : ∀ (z1 z2 z3 : Int) (l4 : Int) (s : Sg) (q : Int), j_220_112 l4 s = some q → RuP 1 tb_m220 112 [some (.inr (.inr (some 84))), some (.inl z1), some (.inl z2), some (.inl z3), some (.inl l4)] [] (hp L s c e) (oI L c e (q, s)) := by
  intro z1 z2 z3 l4 s q h
  unfold j_220_112 at h
  refine RuP.step (pc' := 114) (ls' := [some (.inr (.inr (some 84))), some (.inl z1), some (.inl z2), some (.inl z3), some (.inl l4)]) (st' := [.inl l4]) (h1 := hp L s c e) rfl ?_
  refine RuP.cI rfl (EvP.i ((ev_250 l4).up (by decide))) ?_
  by_cases h0 : f_250 l4 s = 0
  · rw [if_pos h0] at h
    refine RuP.jy rfl h0 ?_
    refine RuP.step (pc' := 125) (ls' := [some (.inr (.inr (some 84))), some (.inl z1), some (.inl z2), some (.inl z3), some (.inl l4)]) (st' := [.inl 0]) (h1 := hp L s c e) rfl ?_
    cases h
    exact RuP.dI rfl
  · rw [if_neg h0] at h
    refine RuP.jn rfl h0 ?_
    refine RuP.step (pc' := 121) (ls' := [some (.inr (.inr (some 84))), some (.inl z1), some (.inl z2), some (.inl z3), some (.inl l4)]) (st' := [.inl 1]) (h1 := hp L s c e) rfl ?_
    refine RuP.step (pc' := 125) (ls' := [some (.inr (.inr (some 84))), some (.inl z1), some (.inl z2), some (.inl z3), some (.inl l4)]) (st' := [.inl 1]) (h1 := hp L s c e) rfl ?_
    cases h
    exact RuP.dI rfl
noncomputable def f_220 (x0 x1 : Int) (s : Sg) : Option Int :=
  (gd (0 ≤ x0 ∧ x0 < 8200) (
  (gd (0 ≤ x1 ∧ x1 < 8200) (
  (gd (0 ≤ x0 ∧ x0 < 8200) (
  (if ¬ (s 92 x0.toNat) = 0 then
    j_220_64 (s 88 x1.toNat) s
  else
    (gd (0 ≤ x1 ∧ x1 < 8200) (
    (if ¬ (s 92 x1.toNat) = 0 then
      j_220_64 (s 88 x1.toNat) s
    else
      (if s 88 x0.toNat = 8 then
        j_220_64 (s 88 x1.toNat) s
      else
        (if s 88 x0.toNat = 7 then
          j_220_64 (s 88 x1.toNat) s
        else
          (if s 88 x0.toNat = 13 then
            j_220_64 (s 88 x1.toNat) s
          else
            (if s 88 x0.toNat = 14 then
              j_220_64 (s 88 x1.toNat) s
            else
              (if ¬ (s 88 x1.toNat) = 14 then
                (if ¬ (s 88 x1.toNat) = 13 then
                  (if ¬ (f_250 (s 88 x0.toNat) s) = 0 then
                    j_220_112 (s 88 x1.toNat) s
                  else
                    (if s 88 x0.toNat = 16 then
                      j_220_112 (s 88 x1.toNat) s
                    else
                      (if ¬ (s 88 x0.toNat) = 12 then
                        some 0
                      else
                        j_220_112 (s 88 x1.toNat) s)))
                else
                  some 1)
              else
                j_220_64 (s 88 x1.toNat) s)))))))))))))))
theorem ev_220 {L c : Nat} {e : Nat → Nat} {s : Sg} {x0 x1 : Int} {q : Int} (h : f_220 x0 x1 s = some q) : EvP 2 220 [.inr (.inr (some 84)), .inl x0, .inl x1] (hp L s c e) (oI L c e (q, s)) := by
  unfold f_220 at h
  refine EvP.of (μ := tb_m220) (ls := [some (.inr (.inr (some 84))), some (.inl x0), some (.inl x1), none, none]) rfl (Nat.le_of_ble_eq_true rfl) rfl ?_
  refine RuP.step (pc' := 1) (ls' := [some (.inr (.inr (some 84))), some (.inl x0), some (.inl x1), none, none]) (st' := [.inr (.inr (some 84))]) (h1 := hp L s c e) rfl ?_
  refine RuP.step (pc' := 4) (ls' := [some (.inr (.inr (some 84))), some (.inl x0), some (.inl x1), none, none]) (st' := [.inr (.inr (some 88))]) (h1 := hp L s c e) rfl ?_
  refine RuP.step (pc' := 5) (ls' := [some (.inr (.inr (some 84))), some (.inl x0), some (.inl x1), none, none]) (st' := [.inl x0, .inr (.inr (some 88))]) (h1 := hp L s c e) rfl ?_
  obtain ⟨b0, h⟩ := gd_some h
  refine RuP.ald (f := fun t => t == 0) (j := x0) (a := 88) rfl rfl b0.1 b0.2 ?_
  refine RuP.step (pc' := 7) (ls' := [some (.inr (.inr (some 84))), some (.inl x0), some (.inl x1), some (.inl (s 88 x0.toNat)), none]) (st' := []) (h1 := hp L s c e) rfl ?_
  refine RuP.step (pc' := 8) (ls' := [some (.inr (.inr (some 84))), some (.inl x0), some (.inl x1), some (.inl (s 88 x0.toNat)), none]) (st' := [.inr (.inr (some 84))]) (h1 := hp L s c e) rfl ?_
  refine RuP.step (pc' := 11) (ls' := [some (.inr (.inr (some 84))), some (.inl x0), some (.inl x1), some (.inl (s 88 x0.toNat)), none]) (st' := [.inr (.inr (some 88))]) (h1 := hp L s c e) rfl ?_
  refine RuP.step (pc' := 12) (ls' := [some (.inr (.inr (some 84))), some (.inl x0), some (.inl x1), some (.inl (s 88 x0.toNat)), none]) (st' := [.inl x1, .inr (.inr (some 88))]) (h1 := hp L s c e) rfl ?_
  obtain ⟨b1, h⟩ := gd_some h
  refine RuP.ald (f := fun t => t == 0) (j := x1) (a := 88) rfl rfl b1.1 b1.2 ?_
  refine RuP.step (pc' := 15) (ls' := [some (.inr (.inr (some 84))), some (.inl x0), some (.inl x1), some (.inl (s 88 x0.toNat)), some (.inl (s 88 x1.toNat))]) (st' := []) (h1 := hp L s c e) rfl ?_
  refine RuP.step (pc' := 16) (ls' := [some (.inr (.inr (some 84))), some (.inl x0), some (.inl x1), some (.inl (s 88 x0.toNat)), some (.inl (s 88 x1.toNat))]) (st' := [.inr (.inr (some 84))]) (h1 := hp L s c e) rfl ?_
  refine RuP.step (pc' := 19) (ls' := [some (.inr (.inr (some 84))), some (.inl x0), some (.inl x1), some (.inl (s 88 x0.toNat)), some (.inl (s 88 x1.toNat))]) (st' := [.inr (.inr (some 92))]) (h1 := hp L s c e) rfl ?_
  refine RuP.step (pc' := 20) (ls' := [some (.inr (.inr (some 84))), some (.inl x0), some (.inl x1), some (.inl (s 88 x0.toNat)), some (.inl (s 88 x1.toNat))]) (st' := [.inl x0, .inr (.inr (some 92))]) (h1 := hp L s c e) rfl ?_
  obtain ⟨b2, h⟩ := gd_some h
  refine RuP.ald (f := fun t => t == 1 || t == 3) (j := x0) (a := 92) rfl rfl b2.1 b2.2 ?_
  by_cases h3 : ¬ (s 92 x0.toNat) = 0
  · rw [if_pos h3] at h
    refine RuP.jy rfl h3 ?_
    exact bl_220_64 _ _ _ _ _ _ h
  · rw [if_neg h3] at h
    refine RuP.jn rfl h3 ?_
    refine RuP.step (pc' := 25) (ls' := [some (.inr (.inr (some 84))), some (.inl x0), some (.inl x1), some (.inl (s 88 x0.toNat)), some (.inl (s 88 x1.toNat))]) (st' := [.inr (.inr (some 84))]) (h1 := hp L s c e) rfl ?_
    refine RuP.step (pc' := 28) (ls' := [some (.inr (.inr (some 84))), some (.inl x0), some (.inl x1), some (.inl (s 88 x0.toNat)), some (.inl (s 88 x1.toNat))]) (st' := [.inr (.inr (some 92))]) (h1 := hp L s c e) rfl ?_
    refine RuP.step (pc' := 29) (ls' := [some (.inr (.inr (some 84))), some (.inl x0), some (.inl x1), some (.inl (s 88 x0.toNat)), some (.inl (s 88 x1.toNat))]) (st' := [.inl x1, .inr (.inr (some 92))]) (h1 := hp L s c e) rfl ?_
    obtain ⟨b4, h⟩ := gd_some h
    refine RuP.ald (f := fun t => t == 1 || t == 3) (j := x1) (a := 92) rfl rfl b4.1 b4.2 ?_
    by_cases h5 : ¬ (s 92 x1.toNat) = 0
    · rw [if_pos h5] at h
      refine RuP.jy rfl h5 ?_
      exact bl_220_64 _ _ _ _ _ _ h
    · rw [if_neg h5] at h
      refine RuP.jn rfl h5 ?_
      refine RuP.step (pc' := 34) (ls' := [some (.inr (.inr (some 84))), some (.inl x0), some (.inl x1), some (.inl (s 88 x0.toNat)), some (.inl (s 88 x1.toNat))]) (st' := [.inl (s 88 x0.toNat)]) (h1 := hp L s c e) rfl ?_
      refine RuP.step (pc' := 36) (ls' := [some (.inr (.inr (some 84))), some (.inl x0), some (.inl x1), some (.inl (s 88 x0.toNat)), some (.inl (s 88 x1.toNat))]) (st' := [.inl 8, .inl (s 88 x0.toNat)]) (h1 := hp L s c e) rfl ?_
      by_cases h6 : s 88 x0.toNat = 8
      · rw [if_pos h6] at h
        refine RuP.jy rfl h6 ?_
        exact bl_220_64 _ _ _ _ _ _ h
      · rw [if_neg h6] at h
        refine RuP.jn rfl h6 ?_
        refine RuP.step (pc' := 40) (ls' := [some (.inr (.inr (some 84))), some (.inl x0), some (.inl x1), some (.inl (s 88 x0.toNat)), some (.inl (s 88 x1.toNat))]) (st' := [.inl (s 88 x0.toNat)]) (h1 := hp L s c e) rfl ?_
        refine RuP.step (pc' := 42) (ls' := [some (.inr (.inr (some 84))), some (.inl x0), some (.inl x1), some (.inl (s 88 x0.toNat)), some (.inl (s 88 x1.toNat))]) (st' := [.inl 7, .inl (s 88 x0.toNat)]) (h1 := hp L s c e) rfl ?_
        by_cases h7 : s 88 x0.toNat = 7
        · rw [if_pos h7] at h
          refine RuP.jy rfl h7 ?_
          exact bl_220_64 _ _ _ _ _ _ h
        · rw [if_neg h7] at h
          refine RuP.jn rfl h7 ?_
          refine RuP.step (pc' := 46) (ls' := [some (.inr (.inr (some 84))), some (.inl x0), some (.inl x1), some (.inl (s 88 x0.toNat)), some (.inl (s 88 x1.toNat))]) (st' := [.inl (s 88 x0.toNat)]) (h1 := hp L s c e) rfl ?_
          refine RuP.step (pc' := 48) (ls' := [some (.inr (.inr (some 84))), some (.inl x0), some (.inl x1), some (.inl (s 88 x0.toNat)), some (.inl (s 88 x1.toNat))]) (st' := [.inl 13, .inl (s 88 x0.toNat)]) (h1 := hp L s c e) rfl ?_
          by_cases h8 : s 88 x0.toNat = 13
          · rw [if_pos h8] at h
            refine RuP.jy rfl h8 ?_
            exact bl_220_64 _ _ _ _ _ _ h
          · rw [if_neg h8] at h
            refine RuP.jn rfl h8 ?_
            refine RuP.step (pc' := 52) (ls' := [some (.inr (.inr (some 84))), some (.inl x0), some (.inl x1), some (.inl (s 88 x0.toNat)), some (.inl (s 88 x1.toNat))]) (st' := [.inl (s 88 x0.toNat)]) (h1 := hp L s c e) rfl ?_
            refine RuP.step (pc' := 54) (ls' := [some (.inr (.inr (some 84))), some (.inl x0), some (.inl x1), some (.inl (s 88 x0.toNat)), some (.inl (s 88 x1.toNat))]) (st' := [.inl 14, .inl (s 88 x0.toNat)]) (h1 := hp L s c e) rfl ?_
            by_cases h9 : s 88 x0.toNat = 14
            · rw [if_pos h9] at h
              refine RuP.jy rfl h9 ?_
              exact bl_220_64 _ _ _ _ _ _ h
            · rw [if_neg h9] at h
              refine RuP.jn rfl h9 ?_
              refine RuP.step (pc' := 59) (ls' := [some (.inr (.inr (some 84))), some (.inl x0), some (.inl x1), some (.inl (s 88 x0.toNat)), some (.inl (s 88 x1.toNat))]) (st' := [.inl (s 88 x1.toNat)]) (h1 := hp L s c e) rfl ?_
              refine RuP.step (pc' := 61) (ls' := [some (.inr (.inr (some 84))), some (.inl x0), some (.inl x1), some (.inl (s 88 x0.toNat)), some (.inl (s 88 x1.toNat))]) (st' := [.inl 14, .inl (s 88 x1.toNat)]) (h1 := hp L s c e) rfl ?_
              by_cases h10 : ¬ (s 88 x1.toNat) = 14
              · rw [if_pos h10] at h
                refine RuP.jy rfl h10 ?_
                refine RuP.step (pc' := 86) (ls' := [some (.inr (.inr (some 84))), some (.inl x0), some (.inl x1), some (.inl (s 88 x0.toNat)), some (.inl (s 88 x1.toNat))]) (st' := [.inl (s 88 x1.toNat)]) (h1 := hp L s c e) rfl ?_
                refine RuP.step (pc' := 88) (ls' := [some (.inr (.inr (some 84))), some (.inl x0), some (.inl x1), some (.inl (s 88 x0.toNat)), some (.inl (s 88 x1.toNat))]) (st' := [.inl 13, .inl (s 88 x1.toNat)]) (h1 := hp L s c e) rfl ?_
                by_cases h11 : ¬ (s 88 x1.toNat) = 13
                · rw [if_pos h11] at h
                  refine RuP.jy rfl h11 ?_
                  refine RuP.step (pc' := 94) (ls' := [some (.inr (.inr (some 84))), some (.inl x0), some (.inl x1), some (.inl (s 88 x0.toNat)), some (.inl (s 88 x1.toNat))]) (st' := [.inl (s 88 x0.toNat)]) (h1 := hp L s c e) rfl ?_
                  refine RuP.cI rfl (EvP.i ((ev_250 (s 88 x0.toNat)).up (by decide))) ?_
                  by_cases h12 : ¬ (f_250 (s 88 x0.toNat) s) = 0
                  · rw [if_pos h12] at h
                    refine RuP.jy rfl h12 ?_
                    exact bl_220_112 _ _ _ _ _ _ h
                  · rw [if_neg h12] at h
                    refine RuP.jn rfl h12 ?_
                    refine RuP.step (pc' := 101) (ls' := [some (.inr (.inr (some 84))), some (.inl x0), some (.inl x1), some (.inl (s 88 x0.toNat)), some (.inl (s 88 x1.toNat))]) (st' := [.inl (s 88 x0.toNat)]) (h1 := hp L s c e) rfl ?_
                    refine RuP.step (pc' := 103) (ls' := [some (.inr (.inr (some 84))), some (.inl x0), some (.inl x1), some (.inl (s 88 x0.toNat)), some (.inl (s 88 x1.toNat))]) (st' := [.inl 16, .inl (s 88 x0.toNat)]) (h1 := hp L s c e) rfl ?_
                    by_cases h13 : s 88 x0.toNat = 16
                    · rw [if_pos h13] at h
                      refine RuP.jy rfl h13 ?_
                      exact bl_220_112 _ _ _ _ _ _ h
                    · rw [if_neg h13] at h
                      refine RuP.jn rfl h13 ?_
                      refine RuP.step (pc' := 107) (ls' := [some (.inr (.inr (some 84))), some (.inl x0), some (.inl x1), some (.inl (s 88 x0.toNat)), some (.inl (s 88 x1.toNat))]) (st' := [.inl (s 88 x0.toNat)]) (h1 := hp L s c e) rfl ?_
                      refine RuP.step (pc' := 109) (ls' := [some (.inr (.inr (some 84))), some (.inl x0), some (.inl x1), some (.inl (s 88 x0.toNat)), some (.inl (s 88 x1.toNat))]) (st' := [.inl 12, .inl (s 88 x0.toNat)]) (h1 := hp L s c e) rfl ?_
                      by_cases h14 : ¬ (s 88 x0.toNat) = 12
                      · rw [if_pos h14] at h
                        refine RuP.jy rfl h14 ?_
                        refine RuP.step (pc' := 125) (ls' := [some (.inr (.inr (some 84))), some (.inl x0), some (.inl x1), some (.inl (s 88 x0.toNat)), some (.inl (s 88 x1.toNat))]) (st' := [.inl 0]) (h1 := hp L s c e) rfl ?_
                        cases h
                        exact RuP.dI rfl
                      · rw [if_neg h14] at h
                        refine RuP.jn rfl h14 ?_
                        exact bl_220_112 _ _ _ _ _ _ h
                · rw [if_neg h11] at h
                  refine RuP.jn rfl h11 ?_
                  refine RuP.step (pc' := 92) (ls' := [some (.inr (.inr (some 84))), some (.inl x0), some (.inl x1), some (.inl (s 88 x0.toNat)), some (.inl (s 88 x1.toNat))]) (st' := [.inl 1]) (h1 := hp L s c e) rfl ?_
                  cases h
                  exact RuP.dI rfl
              · rw [if_neg h10] at h
                refine RuP.jn rfl h10 ?_
                exact bl_220_64 _ _ _ _ _ _ h
/-- MachineTextModel.skip(I)I -/
noncomputable def j_223_48 (k4 : (Int → Int → Sg → Option Int)) (l2 l3 : Int) (s : Sg) : Option Int :=
  k4 (ax_w32 (l2 + 1)) l3 s
theorem bl_223_48 {L c : Nat} {e : Nat → Nat} {k4 : (Int → Int → Sg → Option Int)} (hk4 : ∀ (z1 : Int) (l2 l3 : Int) (s : Sg) (q : Int), k4 l2 l3 s = some q → RuP 1 tb_m223 4 [some (.inr (.inr (some 84))), some (.inl z1), some (.inl l2), some (.inl l3)] [] (hp L s c e) (oI L c e (q, s))) : ∀ (z1 : Int) (l2 l3 : Int) (s : Sg) (q : Int), j_223_48 k4 l2 l3 s = some q → RuP 1 tb_m223 48 [some (.inr (.inr (some 84))), some (.inl z1), some (.inl l2), some (.inl l3)] [] (hp L s c e) (oI L c e (q, s)) := by
  intro z1 l2 l3 s q h
  unfold j_223_48 at h
  refine RuP.step (pc' := 51) (ls' := [some (.inr (.inr (some 84))), some (.inl z1), some (.inl (ax_w32 (l2 + 1))), some (.inl l3)]) (st' := []) (h1 := hp L s c e) rfl ?_
  refine RuP.step (pc' := 4) (ls' := [some (.inr (.inr (some 84))), some (.inl z1), some (.inl (ax_w32 (l2 + 1))), some (.inl l3)]) (st' := []) (h1 := hp L s c e) rfl ?_
  exact hk4 _ _ _ _ _ h
noncomputable def j_223_64 (k4 : (Int → Int → Sg → Option Int)) : Nat → Int → Int → Sg → Option Int
  | 0, _, _, _ => none
  | F + 1, l2, l3, s =>
    (if s 84 3 ≤ l2 then
      k4 l2 l3 s
    else
      (gd (g_224 l2 s) (
      (if f_224 l2 s = 10 then
        k4 l2 l3 s
      else
        (j_223_64 k4 F) (ax_w32 (l2 + 1)) l3 s))))
theorem bl_223_64 {L c : Nat} {e : Nat → Nat} {k4 : (Int → Int → Sg → Option Int)} (hk4 : ∀ (z1 : Int) (l2 l3 : Int) (s : Sg) (q : Int), k4 l2 l3 s = some q → RuP 1 tb_m223 4 [some (.inr (.inr (some 84))), some (.inl z1), some (.inl l2), some (.inl l3)] [] (hp L s c e) (oI L c e (q, s))) : ∀ (F : Nat) (z1 : Int) (l2 l3 : Int) (s : Sg) (q : Int), j_223_64 k4 F l2 l3 s = some q → RuP 1 tb_m223 64 [some (.inr (.inr (some 84))), some (.inl z1), some (.inl l2), some (.inl l3)] [] (hp L s c e) (oI L c e (q, s)) := by
  intro F
  induction F with
  | zero =>
    intro z1 l2 l3 s q h
    rw [j_223_64] at h
    cases h
  | succ F ih =>
    intro z1 l2 l3 s q h
    rw [j_223_64] at h
    refine RuP.step (pc' := 65) (ls' := [some (.inr (.inr (some 84))), some (.inl z1), some (.inl l2), some (.inl l3)]) (st' := [.inl l2]) (h1 := hp L s c e) rfl ?_
    refine RuP.step (pc' := 66) (ls' := [some (.inr (.inr (some 84))), some (.inl z1), some (.inl l2), some (.inl l3)]) (st' := [.inr (.inr (some 84)), .inl l2]) (h1 := hp L s c e) rfl ?_
    refine RuP.step (pc' := 69) (ls' := [some (.inr (.inr (some 84))), some (.inl z1), some (.inl l2), some (.inl l3)]) (st' := [.inl (s 84 3), .inl l2]) (h1 := hp L s c e) rfl ?_
    by_cases h0 : s 84 3 ≤ l2
    · rw [if_pos h0] at h
      refine RuP.jy rfl h0 ?_
      exact hk4 _ _ _ _ _ h
    · rw [if_neg h0] at h
      refine RuP.jn rfl h0 ?_
      refine RuP.step (pc' := 73) (ls' := [some (.inr (.inr (some 84))), some (.inl z1), some (.inl l2), some (.inl l3)]) (st' := [.inr (.inr (some 84))]) (h1 := hp L s c e) rfl ?_
      refine RuP.step (pc' := 74) (ls' := [some (.inr (.inr (some 84))), some (.inl z1), some (.inl l2), some (.inl l3)]) (st' := [.inl l2, .inr (.inr (some 84))]) (h1 := hp L s c e) rfl ?_
      obtain ⟨b1, h⟩ := gd_some h
      refine RuP.cI rfl (EvP.i ((ev_224 l2 b1).up (by decide))) ?_
      refine RuP.step (pc' := 79) (ls' := [some (.inr (.inr (some 84))), some (.inl z1), some (.inl l2), some (.inl l3)]) (st' := [.inl 10, .inl (f_224 l2 s)]) (h1 := hp L s c e) rfl ?_
      by_cases h2 : f_224 l2 s = 10
      · rw [if_pos h2] at h
        refine RuP.jy rfl h2 ?_
        exact hk4 _ _ _ _ _ h
      · rw [if_neg h2] at h
        refine RuP.jn rfl h2 ?_
        refine RuP.step (pc' := 85) (ls' := [some (.inr (.inr (some 84))), some (.inl z1), some (.inl (ax_w32 (l2 + 1))), some (.inl l3)]) (st' := []) (h1 := hp L s c e) rfl ?_
        refine RuP.step (pc' := 64) (ls' := [some (.inr (.inr (some 84))), some (.inl z1), some (.inl (ax_w32 (l2 + 1))), some (.inl l3)]) (st' := []) (h1 := hp L s c e) rfl ?_
        exact ih _ _ _ _ _ h
noncomputable def j_223_4 : Nat → Int → Int → Sg → Option Int
  | 0, _, _, _ => none
  | F + 1, l2, l3, s =>
    (if l3 = 0 then
      some l2
    else
      (gd (g_224 l2 s) (
      (if f_224 l2 s = 9 then
        j_223_48 (j_223_4 F) l2 l3 s
      else
        (gd (g_224 l2 s) (
        (if f_224 l2 s = 10 then
          j_223_48 (j_223_4 F) l2 l3 s
        else
          (gd (g_224 l2 s) (
          (if f_224 l2 s = 13 then
            j_223_48 (j_223_4 F) l2 l3 s
          else
            (gd (g_224 l2 s) (
            (if ¬ (f_224 l2 s) = 32 then
              (gd (g_224 l2 s) (
              (if ¬ (f_224 l2 s) = 35 then
                (j_223_4 F) l2 0 s
              else
                j_223_64 (j_223_4 F) FU l2 l3 s)))
            else
              j_223_48 (j_223_4 F) l2 l3 s)))))))))))))
theorem bl_223_4 {L c : Nat} {e : Nat → Nat} : ∀ (F : Nat) (z1 : Int) (l2 l3 : Int) (s : Sg) (q : Int), j_223_4 F l2 l3 s = some q → RuP 1 tb_m223 4 [some (.inr (.inr (some 84))), some (.inl z1), some (.inl l2), some (.inl l3)] [] (hp L s c e) (oI L c e (q, s)) := by
  intro F
  induction F with
  | zero =>
    intro z1 l2 l3 s q h
    rw [j_223_4] at h
    cases h
  | succ F ih =>
    intro z1 l2 l3 s q h
    rw [j_223_4] at h
    refine RuP.step (pc' := 5) (ls' := [some (.inr (.inr (some 84))), some (.inl z1), some (.inl l2), some (.inl l3)]) (st' := [.inl l3]) (h1 := hp L s c e) rfl ?_
    by_cases h0 : l3 = 0
    · rw [if_pos h0] at h
      refine RuP.jy rfl h0 ?_
      refine RuP.step (pc' := 94) (ls' := [some (.inr (.inr (some 84))), some (.inl z1), some (.inl l2), some (.inl l3)]) (st' := [.inl l2]) (h1 := hp L s c e) rfl ?_
      cases h
      exact RuP.dI rfl
    · rw [if_neg h0] at h
      refine RuP.jn rfl h0 ?_
      refine RuP.step (pc' := 9) (ls' := [some (.inr (.inr (some 84))), some (.inl z1), some (.inl l2), some (.inl l3)]) (st' := [.inr (.inr (some 84))]) (h1 := hp L s c e) rfl ?_
      refine RuP.step (pc' := 10) (ls' := [some (.inr (.inr (some 84))), some (.inl z1), some (.inl l2), some (.inl l3)]) (st' := [.inl l2, .inr (.inr (some 84))]) (h1 := hp L s c e) rfl ?_
      obtain ⟨b1, h⟩ := gd_some h
      refine RuP.cI rfl (EvP.i ((ev_224 l2 b1).up (by decide))) ?_
      refine RuP.step (pc' := 15) (ls' := [some (.inr (.inr (some 84))), some (.inl z1), some (.inl l2), some (.inl l3)]) (st' := [.inl 9, .inl (f_224 l2 s)]) (h1 := hp L s c e) rfl ?_
      by_cases h2 : f_224 l2 s = 9
      · rw [if_pos h2] at h
        refine RuP.jy rfl h2 ?_
        exact bl_223_48 ih _ _ _ _ _ h
      · rw [if_neg h2] at h
        refine RuP.jn rfl h2 ?_
        refine RuP.step (pc' := 19) (ls' := [some (.inr (.inr (some 84))), some (.inl z1), some (.inl l2), some (.inl l3)]) (st' := [.inr (.inr (some 84))]) (h1 := hp L s c e) rfl ?_
        refine RuP.step (pc' := 20) (ls' := [some (.inr (.inr (some 84))), some (.inl z1), some (.inl l2), some (.inl l3)]) (st' := [.inl l2, .inr (.inr (some 84))]) (h1 := hp L s c e) rfl ?_
        obtain ⟨b3, h⟩ := gd_some h
        refine RuP.cI rfl (EvP.i ((ev_224 l2 b3).up (by decide))) ?_
        refine RuP.step (pc' := 25) (ls' := [some (.inr (.inr (some 84))), some (.inl z1), some (.inl l2), some (.inl l3)]) (st' := [.inl 10, .inl (f_224 l2 s)]) (h1 := hp L s c e) rfl ?_
        by_cases h4 : f_224 l2 s = 10
        · rw [if_pos h4] at h
          refine RuP.jy rfl h4 ?_
          exact bl_223_48 ih _ _ _ _ _ h
        · rw [if_neg h4] at h
          refine RuP.jn rfl h4 ?_
          refine RuP.step (pc' := 29) (ls' := [some (.inr (.inr (some 84))), some (.inl z1), some (.inl l2), some (.inl l3)]) (st' := [.inr (.inr (some 84))]) (h1 := hp L s c e) rfl ?_
          refine RuP.step (pc' := 30) (ls' := [some (.inr (.inr (some 84))), some (.inl z1), some (.inl l2), some (.inl l3)]) (st' := [.inl l2, .inr (.inr (some 84))]) (h1 := hp L s c e) rfl ?_
          obtain ⟨b5, h⟩ := gd_some h
          refine RuP.cI rfl (EvP.i ((ev_224 l2 b5).up (by decide))) ?_
          refine RuP.step (pc' := 35) (ls' := [some (.inr (.inr (some 84))), some (.inl z1), some (.inl l2), some (.inl l3)]) (st' := [.inl 13, .inl (f_224 l2 s)]) (h1 := hp L s c e) rfl ?_
          by_cases h6 : f_224 l2 s = 13
          · rw [if_pos h6] at h
            refine RuP.jy rfl h6 ?_
            exact bl_223_48 ih _ _ _ _ _ h
          · rw [if_neg h6] at h
            refine RuP.jn rfl h6 ?_
            refine RuP.step (pc' := 39) (ls' := [some (.inr (.inr (some 84))), some (.inl z1), some (.inl l2), some (.inl l3)]) (st' := [.inr (.inr (some 84))]) (h1 := hp L s c e) rfl ?_
            refine RuP.step (pc' := 40) (ls' := [some (.inr (.inr (some 84))), some (.inl z1), some (.inl l2), some (.inl l3)]) (st' := [.inl l2, .inr (.inr (some 84))]) (h1 := hp L s c e) rfl ?_
            obtain ⟨b7, h⟩ := gd_some h
            refine RuP.cI rfl (EvP.i ((ev_224 l2 b7).up (by decide))) ?_
            refine RuP.step (pc' := 45) (ls' := [some (.inr (.inr (some 84))), some (.inl z1), some (.inl l2), some (.inl l3)]) (st' := [.inl 32, .inl (f_224 l2 s)]) (h1 := hp L s c e) rfl ?_
            by_cases h8 : ¬ (f_224 l2 s) = 32
            · rw [if_pos h8] at h
              refine RuP.jy rfl h8 ?_
              refine RuP.step (pc' := 55) (ls' := [some (.inr (.inr (some 84))), some (.inl z1), some (.inl l2), some (.inl l3)]) (st' := [.inr (.inr (some 84))]) (h1 := hp L s c e) rfl ?_
              refine RuP.step (pc' := 56) (ls' := [some (.inr (.inr (some 84))), some (.inl z1), some (.inl l2), some (.inl l3)]) (st' := [.inl l2, .inr (.inr (some 84))]) (h1 := hp L s c e) rfl ?_
              obtain ⟨b9, h⟩ := gd_some h
              refine RuP.cI rfl (EvP.i ((ev_224 l2 b9).up (by decide))) ?_
              refine RuP.step (pc' := 61) (ls' := [some (.inr (.inr (some 84))), some (.inl z1), some (.inl l2), some (.inl l3)]) (st' := [.inl 35, .inl (f_224 l2 s)]) (h1 := hp L s c e) rfl ?_
              by_cases h10 : ¬ (f_224 l2 s) = 35
              · rw [if_pos h10] at h
                refine RuP.jy rfl h10 ?_
                refine RuP.step (pc' := 89) (ls' := [some (.inr (.inr (some 84))), some (.inl z1), some (.inl l2), some (.inl l3)]) (st' := [.inl 0]) (h1 := hp L s c e) rfl ?_
                refine RuP.step (pc' := 90) (ls' := [some (.inr (.inr (some 84))), some (.inl z1), some (.inl l2), some (.inl 0)]) (st' := []) (h1 := hp L s c e) rfl ?_
                refine RuP.step (pc' := 4) (ls' := [some (.inr (.inr (some 84))), some (.inl z1), some (.inl l2), some (.inl 0)]) (st' := []) (h1 := hp L s c e) rfl ?_
                exact ih _ _ _ _ _ h
              · rw [if_neg h10] at h
                refine RuP.jn rfl h10 ?_
                exact bl_223_64 ih FU _ _ _ _ _ h
            · rw [if_neg h8] at h
              refine RuP.jn rfl h8 ?_
              exact bl_223_48 ih _ _ _ _ _ h
noncomputable def f_223 (x0 : Int) (s : Sg) : Option Int :=
  j_223_4 FU x0 1 s
theorem ev_223 {L c : Nat} {e : Nat → Nat} {s : Sg} {x0 : Int} {q : Int} (h : f_223 x0 s = some q) : EvP 2 223 [.inr (.inr (some 84)), .inl x0] (hp L s c e) (oI L c e (q, s)) := by
  unfold f_223 at h
  refine EvP.of (μ := tb_m223) (ls := [some (.inr (.inr (some 84))), some (.inl x0), none, none]) rfl (Nat.le_of_ble_eq_true rfl) rfl ?_
  refine RuP.step (pc' := 1) (ls' := [some (.inr (.inr (some 84))), some (.inl x0), none, none]) (st' := [.inl x0]) (h1 := hp L s c e) rfl ?_
  refine RuP.step (pc' := 2) (ls' := [some (.inr (.inr (some 84))), some (.inl x0), some (.inl x0), none]) (st' := []) (h1 := hp L s c e) rfl ?_
  refine RuP.step (pc' := 3) (ls' := [some (.inr (.inr (some 84))), some (.inl x0), some (.inl x0), none]) (st' := [.inl 1]) (h1 := hp L s c e) rfl ?_
  refine RuP.step (pc' := 4) (ls' := [some (.inr (.inr (some 84))), some (.inl x0), some (.inl x0), some (.inl 1)]) (st' := []) (h1 := hp L s c e) rfl ?_
  exact bl_223_4 FU _ _ _ _ _ h
/-- MachineTextModel.isDigit(I)Z -/
def f_226 (x0 : Int) (s : Sg) : Int :=
  (f_207 x0 48 57 s)
theorem ev_226 {L c : Nat} {e : Nat → Nat} {s : Sg} (x0 : Int) : EvP 2 226 [.inl x0] (hp L s c e) (oI L c e (f_226 x0 s, s)) := by
  have key : ∀ q, f_226 x0 s = q → RuP 1 tb_m226 0 [some (.inl x0)] [] (hp L s c e) (oI L c e (q, s)) := by
    intro q h
    unfold f_226 at h
    refine RuP.step (pc' := 1) (ls' := [some (.inl x0)]) (st' := [.inl x0]) (h1 := hp L s c e) rfl ?_
    refine RuP.step (pc' := 2) (ls' := [some (.inl x0)]) (st' := [.inr (.inl x0)]) (h1 := hp L s c e) rfl ?_
    refine RuP.step (pc' := 5) (ls' := [some (.inl x0)]) (st' := [.inr (.inl 48), .inr (.inl x0)]) (h1 := hp L s c e) rfl ?_
    refine RuP.step (pc' := 8) (ls' := [some (.inl x0)]) (st' := [.inr (.inl 57), .inr (.inl 48), .inr (.inl x0)]) (h1 := hp L s c e) rfl ?_
    refine RuP.cI rfl (EvP.i ((ev_207 x0 48 57).up (by decide))) ?_
    subst h
    exact RuP.dB rfl (rok3 (EvP.i (ev_207 (L := L) (c := c) (e := e) (s := s) x0 48 57)) rfl rfl)
  exact EvP.of (μ := tb_m226) (ls := [some (.inl x0)]) rfl (Nat.le_of_ble_eq_true rfl) rfl (key _ rfl)
/-- MachineTextModel.nameKind(II)I -/
noncomputable def j_228_40 (l3 : Int) (s : Sg) : Option Int :=
  (if ¬ (ax_cmp l3 2003792484) = 0 then
    (if ¬ (ax_cmp l3 7497063) = 0 then
      (if ¬ (ax_cmp l3 7169389) = 0 then
        (if ¬ (ax_cmp l3 6579558) = 0 then
          (if ¬ (ax_cmp l3 6909555) = 0 then
            (if ¬ (ax_cmp l3 26982) = 0 then
              (if ¬ (ax_cmp l3 1701606245) = 0 then
                (if ¬ (ax_cmp l3 7497072) = 0 then
                  (if ¬ (ax_cmp l3 491260572517) = 0 then
                    (if ¬ (ax_cmp l3 29560) = 0 then
                      (if ¬ (ax_cmp l3 31352) = 0 then
                        (if ¬ (ax_cmp l3 6513012) = 0 then
                          some 1
                        else
                          some 41)
                      else
                        some 40)
                    else
                      some 39)
                  else
                    some 38)
                else
                  some 37)
              else
                some 36)
            else
              some 35)
          else
            some 34)
        else
          some 33)
      else
        some 32)
    else
      some 31)
  else
    some 30)
theorem bl_228_40 {L c : Nat} {e : Nat → Nat} : ∀ (z1 z2 z5 : Int) (l3 : Int) (s : Sg) (q : Int), j_228_40 l3 s = some q → RuP 0 tb_m228 40 [some (.inr (.inr (some 84))), some (.inl z1), some (.inl z2), some (.inr (.inl l3)), none, some (.inl z5)] [] (hp L s c e) (oI L c e (q, s)) := by
  intro z1 z2 z5 l3 s q h
  unfold j_228_40 at h
  refine RuP.step (pc' := 41) (ls' := [some (.inr (.inr (some 84))), some (.inl z1), some (.inl z2), some (.inr (.inl l3)), none, some (.inl z5)]) (st' := [.inr (.inl l3)]) (h1 := hp L s c e) rfl ?_
  refine RuP.step (pc' := 44) (ls' := [some (.inr (.inr (some 84))), some (.inl z1), some (.inl z2), some (.inr (.inl l3)), none, some (.inl z5)]) (st' := [.inr (.inl 2003792484), .inr (.inl l3)]) (h1 := hp L s c e) rfl ?_
  refine RuP.step (pc' := 45) (ls' := [some (.inr (.inr (some 84))), some (.inl z1), some (.inl z2), some (.inr (.inl l3)), none, some (.inl z5)]) (st' := [.inl (ax_cmp l3 2003792484)]) (h1 := hp L s c e) rfl ?_
  by_cases h0 : ¬ (ax_cmp l3 2003792484) = 0
  · rw [if_pos h0] at h
    refine RuP.jy rfl h0 ?_
    refine RuP.step (pc' := 54) (ls' := [some (.inr (.inr (some 84))), some (.inl z1), some (.inl z2), some (.inr (.inl l3)), none, some (.inl z5)]) (st' := [.inr (.inl l3)]) (h1 := hp L s c e) rfl ?_
    refine RuP.step (pc' := 57) (ls' := [some (.inr (.inr (some 84))), some (.inl z1), some (.inl z2), some (.inr (.inl l3)), none, some (.inl z5)]) (st' := [.inr (.inl 7497063), .inr (.inl l3)]) (h1 := hp L s c e) rfl ?_
    refine RuP.step (pc' := 58) (ls' := [some (.inr (.inr (some 84))), some (.inl z1), some (.inl z2), some (.inr (.inl l3)), none, some (.inl z5)]) (st' := [.inl (ax_cmp l3 7497063)]) (h1 := hp L s c e) rfl ?_
    by_cases h1 : ¬ (ax_cmp l3 7497063) = 0
    · rw [if_pos h1] at h
      refine RuP.jy rfl h1 ?_
      refine RuP.step (pc' := 67) (ls' := [some (.inr (.inr (some 84))), some (.inl z1), some (.inl z2), some (.inr (.inl l3)), none, some (.inl z5)]) (st' := [.inr (.inl l3)]) (h1 := hp L s c e) rfl ?_
      refine RuP.step (pc' := 70) (ls' := [some (.inr (.inr (some 84))), some (.inl z1), some (.inl z2), some (.inr (.inl l3)), none, some (.inl z5)]) (st' := [.inr (.inl 7169389), .inr (.inl l3)]) (h1 := hp L s c e) rfl ?_
      refine RuP.step (pc' := 71) (ls' := [some (.inr (.inr (some 84))), some (.inl z1), some (.inl z2), some (.inr (.inl l3)), none, some (.inl z5)]) (st' := [.inl (ax_cmp l3 7169389)]) (h1 := hp L s c e) rfl ?_
      by_cases h2 : ¬ (ax_cmp l3 7169389) = 0
      · rw [if_pos h2] at h
        refine RuP.jy rfl h2 ?_
        refine RuP.step (pc' := 80) (ls' := [some (.inr (.inr (some 84))), some (.inl z1), some (.inl z2), some (.inr (.inl l3)), none, some (.inl z5)]) (st' := [.inr (.inl l3)]) (h1 := hp L s c e) rfl ?_
        refine RuP.step (pc' := 83) (ls' := [some (.inr (.inr (some 84))), some (.inl z1), some (.inl z2), some (.inr (.inl l3)), none, some (.inl z5)]) (st' := [.inr (.inl 6579558), .inr (.inl l3)]) (h1 := hp L s c e) rfl ?_
        refine RuP.step (pc' := 84) (ls' := [some (.inr (.inr (some 84))), some (.inl z1), some (.inl z2), some (.inr (.inl l3)), none, some (.inl z5)]) (st' := [.inl (ax_cmp l3 6579558)]) (h1 := hp L s c e) rfl ?_
        by_cases h3 : ¬ (ax_cmp l3 6579558) = 0
        · rw [if_pos h3] at h
          refine RuP.jy rfl h3 ?_
          refine RuP.step (pc' := 93) (ls' := [some (.inr (.inr (some 84))), some (.inl z1), some (.inl z2), some (.inr (.inl l3)), none, some (.inl z5)]) (st' := [.inr (.inl l3)]) (h1 := hp L s c e) rfl ?_
          refine RuP.step (pc' := 96) (ls' := [some (.inr (.inr (some 84))), some (.inl z1), some (.inl z2), some (.inr (.inl l3)), none, some (.inl z5)]) (st' := [.inr (.inl 6909555), .inr (.inl l3)]) (h1 := hp L s c e) rfl ?_
          refine RuP.step (pc' := 97) (ls' := [some (.inr (.inr (some 84))), some (.inl z1), some (.inl z2), some (.inr (.inl l3)), none, some (.inl z5)]) (st' := [.inl (ax_cmp l3 6909555)]) (h1 := hp L s c e) rfl ?_
          by_cases h4 : ¬ (ax_cmp l3 6909555) = 0
          · rw [if_pos h4] at h
            refine RuP.jy rfl h4 ?_
            refine RuP.step (pc' := 106) (ls' := [some (.inr (.inr (some 84))), some (.inl z1), some (.inl z2), some (.inr (.inl l3)), none, some (.inl z5)]) (st' := [.inr (.inl l3)]) (h1 := hp L s c e) rfl ?_
            refine RuP.step (pc' := 109) (ls' := [some (.inr (.inr (some 84))), some (.inl z1), some (.inl z2), some (.inr (.inl l3)), none, some (.inl z5)]) (st' := [.inr (.inl 26982), .inr (.inl l3)]) (h1 := hp L s c e) rfl ?_
            refine RuP.step (pc' := 110) (ls' := [some (.inr (.inr (some 84))), some (.inl z1), some (.inl z2), some (.inr (.inl l3)), none, some (.inl z5)]) (st' := [.inl (ax_cmp l3 26982)]) (h1 := hp L s c e) rfl ?_
            by_cases h5 : ¬ (ax_cmp l3 26982) = 0
            · rw [if_pos h5] at h
              refine RuP.jy rfl h5 ?_
              refine RuP.step (pc' := 119) (ls' := [some (.inr (.inr (some 84))), some (.inl z1), some (.inl z2), some (.inr (.inl l3)), none, some (.inl z5)]) (st' := [.inr (.inl l3)]) (h1 := hp L s c e) rfl ?_
              refine RuP.step (pc' := 122) (ls' := [some (.inr (.inr (some 84))), some (.inl z1), some (.inl z2), some (.inr (.inl l3)), none, some (.inl z5)]) (st' := [.inr (.inl 1701606245), .inr (.inl l3)]) (h1 := hp L s c e) rfl ?_
              refine RuP.step (pc' := 123) (ls' := [some (.inr (.inr (some 84))), some (.inl z1), some (.inl z2), some (.inr (.inl l3)), none, some (.inl z5)]) (st' := [.inl (ax_cmp l3 1701606245)]) (h1 := hp L s c e) rfl ?_
              by_cases h6 : ¬ (ax_cmp l3 1701606245) = 0
              · rw [if_pos h6] at h
                refine RuP.jy rfl h6 ?_
                refine RuP.step (pc' := 132) (ls' := [some (.inr (.inr (some 84))), some (.inl z1), some (.inl z2), some (.inr (.inl l3)), none, some (.inl z5)]) (st' := [.inr (.inl l3)]) (h1 := hp L s c e) rfl ?_
                refine RuP.step (pc' := 135) (ls' := [some (.inr (.inr (some 84))), some (.inl z1), some (.inl z2), some (.inr (.inl l3)), none, some (.inl z5)]) (st' := [.inr (.inl 7497072), .inr (.inl l3)]) (h1 := hp L s c e) rfl ?_
                refine RuP.step (pc' := 136) (ls' := [some (.inr (.inr (some 84))), some (.inl z1), some (.inl z2), some (.inr (.inl l3)), none, some (.inl z5)]) (st' := [.inl (ax_cmp l3 7497072)]) (h1 := hp L s c e) rfl ?_
                by_cases h7 : ¬ (ax_cmp l3 7497072) = 0
                · rw [if_pos h7] at h
                  refine RuP.jy rfl h7 ?_
                  refine RuP.step (pc' := 145) (ls' := [some (.inr (.inr (some 84))), some (.inl z1), some (.inl z2), some (.inr (.inl l3)), none, some (.inl z5)]) (st' := [.inr (.inl l3)]) (h1 := hp L s c e) rfl ?_
                  refine RuP.step (pc' := 148) (ls' := [some (.inr (.inr (some 84))), some (.inl z1), some (.inl z2), some (.inr (.inl l3)), none, some (.inl z5)]) (st' := [.inr (.inl 491260572517), .inr (.inl l3)]) (h1 := hp L s c e) rfl ?_
                  refine RuP.step (pc' := 149) (ls' := [some (.inr (.inr (some 84))), some (.inl z1), some (.inl z2), some (.inr (.inl l3)), none, some (.inl z5)]) (st' := [.inl (ax_cmp l3 491260572517)]) (h1 := hp L s c e) rfl ?_
                  by_cases h8 : ¬ (ax_cmp l3 491260572517) = 0
                  · rw [if_pos h8] at h
                    refine RuP.jy rfl h8 ?_
                    refine RuP.step (pc' := 158) (ls' := [some (.inr (.inr (some 84))), some (.inl z1), some (.inl z2), some (.inr (.inl l3)), none, some (.inl z5)]) (st' := [.inr (.inl l3)]) (h1 := hp L s c e) rfl ?_
                    refine RuP.step (pc' := 161) (ls' := [some (.inr (.inr (some 84))), some (.inl z1), some (.inl z2), some (.inr (.inl l3)), none, some (.inl z5)]) (st' := [.inr (.inl 29560), .inr (.inl l3)]) (h1 := hp L s c e) rfl ?_
                    refine RuP.step (pc' := 162) (ls' := [some (.inr (.inr (some 84))), some (.inl z1), some (.inl z2), some (.inr (.inl l3)), none, some (.inl z5)]) (st' := [.inl (ax_cmp l3 29560)]) (h1 := hp L s c e) rfl ?_
                    by_cases h9 : ¬ (ax_cmp l3 29560) = 0
                    · rw [if_pos h9] at h
                      refine RuP.jy rfl h9 ?_
                      refine RuP.step (pc' := 171) (ls' := [some (.inr (.inr (some 84))), some (.inl z1), some (.inl z2), some (.inr (.inl l3)), none, some (.inl z5)]) (st' := [.inr (.inl l3)]) (h1 := hp L s c e) rfl ?_
                      refine RuP.step (pc' := 174) (ls' := [some (.inr (.inr (some 84))), some (.inl z1), some (.inl z2), some (.inr (.inl l3)), none, some (.inl z5)]) (st' := [.inr (.inl 31352), .inr (.inl l3)]) (h1 := hp L s c e) rfl ?_
                      refine RuP.step (pc' := 175) (ls' := [some (.inr (.inr (some 84))), some (.inl z1), some (.inl z2), some (.inr (.inl l3)), none, some (.inl z5)]) (st' := [.inl (ax_cmp l3 31352)]) (h1 := hp L s c e) rfl ?_
                      by_cases h10 : ¬ (ax_cmp l3 31352) = 0
                      · rw [if_pos h10] at h
                        refine RuP.jy rfl h10 ?_
                        refine RuP.step (pc' := 184) (ls' := [some (.inr (.inr (some 84))), some (.inl z1), some (.inl z2), some (.inr (.inl l3)), none, some (.inl z5)]) (st' := [.inr (.inl l3)]) (h1 := hp L s c e) rfl ?_
                        refine RuP.step (pc' := 187) (ls' := [some (.inr (.inr (some 84))), some (.inl z1), some (.inl z2), some (.inr (.inl l3)), none, some (.inl z5)]) (st' := [.inr (.inl 6513012), .inr (.inl l3)]) (h1 := hp L s c e) rfl ?_
                        refine RuP.step (pc' := 188) (ls' := [some (.inr (.inr (some 84))), some (.inl z1), some (.inl z2), some (.inr (.inl l3)), none, some (.inl z5)]) (st' := [.inl (ax_cmp l3 6513012)]) (h1 := hp L s c e) rfl ?_
                        by_cases h11 : ¬ (ax_cmp l3 6513012) = 0
                        · rw [if_pos h11] at h
                          refine RuP.jy rfl h11 ?_
                          refine RuP.step (pc' := 197) (ls' := [some (.inr (.inr (some 84))), some (.inl z1), some (.inl z2), some (.inr (.inl l3)), none, some (.inl z5)]) (st' := [.inl 1]) (h1 := hp L s c e) rfl ?_
                          cases h
                          exact RuP.dI rfl
                        · rw [if_neg h11] at h
                          refine RuP.jn rfl h11 ?_
                          refine RuP.step (pc' := 193) (ls' := [some (.inr (.inr (some 84))), some (.inl z1), some (.inl z2), some (.inr (.inl l3)), none, some (.inl z5)]) (st' := [.inl 41]) (h1 := hp L s c e) rfl ?_
                          refine RuP.step (pc' := 197) (ls' := [some (.inr (.inr (some 84))), some (.inl z1), some (.inl z2), some (.inr (.inl l3)), none, some (.inl z5)]) (st' := [.inl 41]) (h1 := hp L s c e) rfl ?_
                          cases h
                          exact RuP.dI rfl
                      · rw [if_neg h10] at h
                        refine RuP.jn rfl h10 ?_
                        refine RuP.step (pc' := 180) (ls' := [some (.inr (.inr (some 84))), some (.inl z1), some (.inl z2), some (.inr (.inl l3)), none, some (.inl z5)]) (st' := [.inl 40]) (h1 := hp L s c e) rfl ?_
                        refine RuP.step (pc' := 197) (ls' := [some (.inr (.inr (some 84))), some (.inl z1), some (.inl z2), some (.inr (.inl l3)), none, some (.inl z5)]) (st' := [.inl 40]) (h1 := hp L s c e) rfl ?_
                        cases h
                        exact RuP.dI rfl
                    · rw [if_neg h9] at h
                      refine RuP.jn rfl h9 ?_
                      refine RuP.step (pc' := 167) (ls' := [some (.inr (.inr (some 84))), some (.inl z1), some (.inl z2), some (.inr (.inl l3)), none, some (.inl z5)]) (st' := [.inl 39]) (h1 := hp L s c e) rfl ?_
                      refine RuP.step (pc' := 197) (ls' := [some (.inr (.inr (some 84))), some (.inl z1), some (.inl z2), some (.inr (.inl l3)), none, some (.inl z5)]) (st' := [.inl 39]) (h1 := hp L s c e) rfl ?_
                      cases h
                      exact RuP.dI rfl
                  · rw [if_neg h8] at h
                    refine RuP.jn rfl h8 ?_
                    refine RuP.step (pc' := 154) (ls' := [some (.inr (.inr (some 84))), some (.inl z1), some (.inl z2), some (.inr (.inl l3)), none, some (.inl z5)]) (st' := [.inl 38]) (h1 := hp L s c e) rfl ?_
                    refine RuP.step (pc' := 197) (ls' := [some (.inr (.inr (some 84))), some (.inl z1), some (.inl z2), some (.inr (.inl l3)), none, some (.inl z5)]) (st' := [.inl 38]) (h1 := hp L s c e) rfl ?_
                    cases h
                    exact RuP.dI rfl
                · rw [if_neg h7] at h
                  refine RuP.jn rfl h7 ?_
                  refine RuP.step (pc' := 141) (ls' := [some (.inr (.inr (some 84))), some (.inl z1), some (.inl z2), some (.inr (.inl l3)), none, some (.inl z5)]) (st' := [.inl 37]) (h1 := hp L s c e) rfl ?_
                  refine RuP.step (pc' := 197) (ls' := [some (.inr (.inr (some 84))), some (.inl z1), some (.inl z2), some (.inr (.inl l3)), none, some (.inl z5)]) (st' := [.inl 37]) (h1 := hp L s c e) rfl ?_
                  cases h
                  exact RuP.dI rfl
              · rw [if_neg h6] at h
                refine RuP.jn rfl h6 ?_
                refine RuP.step (pc' := 128) (ls' := [some (.inr (.inr (some 84))), some (.inl z1), some (.inl z2), some (.inr (.inl l3)), none, some (.inl z5)]) (st' := [.inl 36]) (h1 := hp L s c e) rfl ?_
                refine RuP.step (pc' := 197) (ls' := [some (.inr (.inr (some 84))), some (.inl z1), some (.inl z2), some (.inr (.inl l3)), none, some (.inl z5)]) (st' := [.inl 36]) (h1 := hp L s c e) rfl ?_
                cases h
                exact RuP.dI rfl
            · rw [if_neg h5] at h
              refine RuP.jn rfl h5 ?_
              refine RuP.step (pc' := 115) (ls' := [some (.inr (.inr (some 84))), some (.inl z1), some (.inl z2), some (.inr (.inl l3)), none, some (.inl z5)]) (st' := [.inl 35]) (h1 := hp L s c e) rfl ?_
              refine RuP.step (pc' := 197) (ls' := [some (.inr (.inr (some 84))), some (.inl z1), some (.inl z2), some (.inr (.inl l3)), none, some (.inl z5)]) (st' := [.inl 35]) (h1 := hp L s c e) rfl ?_
              cases h
              exact RuP.dI rfl
          · rw [if_neg h4] at h
            refine RuP.jn rfl h4 ?_
            refine RuP.step (pc' := 102) (ls' := [some (.inr (.inr (some 84))), some (.inl z1), some (.inl z2), some (.inr (.inl l3)), none, some (.inl z5)]) (st' := [.inl 34]) (h1 := hp L s c e) rfl ?_
            refine RuP.step (pc' := 197) (ls' := [some (.inr (.inr (some 84))), some (.inl z1), some (.inl z2), some (.inr (.inl l3)), none, some (.inl z5)]) (st' := [.inl 34]) (h1 := hp L s c e) rfl ?_
            cases h
            exact RuP.dI rfl
        · rw [if_neg h3] at h
          refine RuP.jn rfl h3 ?_
          refine RuP.step (pc' := 89) (ls' := [some (.inr (.inr (some 84))), some (.inl z1), some (.inl z2), some (.inr (.inl l3)), none, some (.inl z5)]) (st' := [.inl 33]) (h1 := hp L s c e) rfl ?_
          refine RuP.step (pc' := 197) (ls' := [some (.inr (.inr (some 84))), some (.inl z1), some (.inl z2), some (.inr (.inl l3)), none, some (.inl z5)]) (st' := [.inl 33]) (h1 := hp L s c e) rfl ?_
          cases h
          exact RuP.dI rfl
      · rw [if_neg h2] at h
        refine RuP.jn rfl h2 ?_
        refine RuP.step (pc' := 76) (ls' := [some (.inr (.inr (some 84))), some (.inl z1), some (.inl z2), some (.inr (.inl l3)), none, some (.inl z5)]) (st' := [.inl 32]) (h1 := hp L s c e) rfl ?_
        refine RuP.step (pc' := 197) (ls' := [some (.inr (.inr (some 84))), some (.inl z1), some (.inl z2), some (.inr (.inl l3)), none, some (.inl z5)]) (st' := [.inl 32]) (h1 := hp L s c e) rfl ?_
        cases h
        exact RuP.dI rfl
    · rw [if_neg h1] at h
      refine RuP.jn rfl h1 ?_
      refine RuP.step (pc' := 63) (ls' := [some (.inr (.inr (some 84))), some (.inl z1), some (.inl z2), some (.inr (.inl l3)), none, some (.inl z5)]) (st' := [.inl 31]) (h1 := hp L s c e) rfl ?_
      refine RuP.step (pc' := 197) (ls' := [some (.inr (.inr (some 84))), some (.inl z1), some (.inl z2), some (.inr (.inl l3)), none, some (.inl z5)]) (st' := [.inl 31]) (h1 := hp L s c e) rfl ?_
      cases h
      exact RuP.dI rfl
  · rw [if_neg h0] at h
    refine RuP.jn rfl h0 ?_
    refine RuP.step (pc' := 50) (ls' := [some (.inr (.inr (some 84))), some (.inl z1), some (.inl z2), some (.inr (.inl l3)), none, some (.inl z5)]) (st' := [.inl 30]) (h1 := hp L s c e) rfl ?_
    refine RuP.step (pc' := 197) (ls' := [some (.inr (.inr (some 84))), some (.inl z1), some (.inl z2), some (.inr (.inl l3)), none, some (.inl z5)]) (st' := [.inl 30]) (h1 := hp L s c e) rfl ?_
    cases h
    exact RuP.dI rfl
noncomputable def j_228_14 : Nat → Int → Int → Int → Sg → Option Int
  | 0, _, _, _, _ => none
  | F + 1, l2, l3, l5, s =>
    (if l2 ≤ l5 then
      j_228_40 l3 s
    else
      (gd (0 ≤ l5 ∧ l5 < 8192) (
      (j_228_14 F) l2 (ax_lor (ax_lshl l3 8) (s 86 l5.toNat)) (ax_w32 (l5 + 1)) s)))
theorem bl_228_14 {L c : Nat} {e : Nat → Nat} : ∀ (F : Nat) (z1 : Int) (l2 l3 l5 : Int) (s : Sg) (q : Int), j_228_14 F l2 l3 l5 s = some q → RuP 0 tb_m228 14 [some (.inr (.inr (some 84))), some (.inl z1), some (.inl l2), some (.inr (.inl l3)), none, some (.inl l5)] [] (hp L s c e) (oI L c e (q, s)) := by
  intro F
  induction F with
  | zero =>
    intro z1 l2 l3 l5 s q h
    rw [j_228_14] at h
    cases h
  | succ F ih =>
    intro z1 l2 l3 l5 s q h
    rw [j_228_14] at h
    refine RuP.step (pc' := 16) (ls' := [some (.inr (.inr (some 84))), some (.inl z1), some (.inl l2), some (.inr (.inl l3)), none, some (.inl l5)]) (st' := [.inl l5]) (h1 := hp L s c e) rfl ?_
    refine RuP.step (pc' := 17) (ls' := [some (.inr (.inr (some 84))), some (.inl z1), some (.inl l2), some (.inr (.inl l3)), none, some (.inl l5)]) (st' := [.inl l2, .inl l5]) (h1 := hp L s c e) rfl ?_
    by_cases h0 : l2 ≤ l5
    · rw [if_pos h0] at h
      refine RuP.jy rfl h0 ?_
      exact bl_228_40 _ _ _ _ _ _ h
    · rw [if_neg h0] at h
      refine RuP.jn rfl h0 ?_
      refine RuP.step (pc' := 21) (ls' := [some (.inr (.inr (some 84))), some (.inl z1), some (.inl l2), some (.inr (.inl l3)), none, some (.inl l5)]) (st' := [.inr (.inl l3)]) (h1 := hp L s c e) rfl ?_
      refine RuP.step (pc' := 23) (ls' := [some (.inr (.inr (some 84))), some (.inl z1), some (.inl l2), some (.inr (.inl l3)), none, some (.inl l5)]) (st' := [.inl 8, .inr (.inl l3)]) (h1 := hp L s c e) rfl ?_
      refine RuP.step (pc' := 24) (ls' := [some (.inr (.inr (some 84))), some (.inl z1), some (.inl l2), some (.inr (.inl l3)), none, some (.inl l5)]) (st' := [.inr (.inl (ax_lshl l3 8))]) (h1 := hp L s c e) rfl ?_
      refine RuP.step (pc' := 25) (ls' := [some (.inr (.inr (some 84))), some (.inl z1), some (.inl l2), some (.inr (.inl l3)), none, some (.inl l5)]) (st' := [.inr (.inr (some 84)), .inr (.inl (ax_lshl l3 8))]) (h1 := hp L s c e) rfl ?_
      refine RuP.step (pc' := 28) (ls' := [some (.inr (.inr (some 84))), some (.inl z1), some (.inl l2), some (.inr (.inl l3)), none, some (.inl l5)]) (st' := [.inr (.inr (some 86)), .inr (.inl (ax_lshl l3 8))]) (h1 := hp L s c e) rfl ?_
      refine RuP.step (pc' := 30) (ls' := [some (.inr (.inr (some 84))), some (.inl z1), some (.inl l2), some (.inr (.inl l3)), none, some (.inl l5)]) (st' := [.inl l5, .inr (.inr (some 86)), .inr (.inl (ax_lshl l3 8))]) (h1 := hp L s c e) rfl ?_
      obtain ⟨b1, h⟩ := gd_some h
      refine RuP.ald (f := fun t => t == 0) (j := l5) (a := 86) rfl rfl b1.1 b1.2 ?_
      refine RuP.step (pc' := 32) (ls' := [some (.inr (.inr (some 84))), some (.inl z1), some (.inl l2), some (.inr (.inl l3)), none, some (.inl l5)]) (st' := [.inr (.inl (s 86 l5.toNat)), .inr (.inl (ax_lshl l3 8))]) (h1 := hp L s c e) rfl ?_
      refine RuP.step (pc' := 33) (ls' := [some (.inr (.inr (some 84))), some (.inl z1), some (.inl l2), some (.inr (.inl l3)), none, some (.inl l5)]) (st' := [.inr (.inl (ax_lor (ax_lshl l3 8) (s 86 l5.toNat)))]) (h1 := hp L s c e) rfl ?_
      refine RuP.step (pc' := 34) (ls' := [some (.inr (.inr (some 84))), some (.inl z1), some (.inl l2), some (.inr (.inl (ax_lor (ax_lshl l3 8) (s 86 l5.toNat)))), none, some (.inl l5)]) (st' := []) (h1 := hp L s c e) rfl ?_
      refine RuP.step (pc' := 37) (ls' := [some (.inr (.inr (some 84))), some (.inl z1), some (.inl l2), some (.inr (.inl (ax_lor (ax_lshl l3 8) (s 86 l5.toNat)))), none, some (.inl (ax_w32 (l5 + 1)))]) (st' := []) (h1 := hp L s c e) rfl ?_
      refine RuP.step (pc' := 14) (ls' := [some (.inr (.inr (some 84))), some (.inl z1), some (.inl l2), some (.inr (.inl (ax_lor (ax_lshl l3 8) (s 86 l5.toNat)))), none, some (.inl (ax_w32 (l5 + 1)))]) (st' := []) (h1 := hp L s c e) rfl ?_
      exact ih _ _ _ _ _ _ h
noncomputable def f_228 (x0 x1 : Int) (s : Sg) : Option Int :=
  (if ax_w32 (x1 - x0) ≤ 5 then
    j_228_14 FU x1 0 x0 s
  else
    some 1)
theorem ev_228 {L c : Nat} {e : Nat → Nat} {s : Sg} {x0 x1 : Int} {q : Int} (h : f_228 x0 x1 s = some q) : EvP 1 228 [.inr (.inr (some 84)), .inl x0, .inl x1] (hp L s c e) (oI L c e (q, s)) := by
  unfold f_228 at h
  refine EvP.of (μ := tb_m228) (ls := [some (.inr (.inr (some 84))), some (.inl x0), some (.inl x1), none, none, none]) rfl (Nat.le_of_ble_eq_true rfl) rfl ?_
  refine RuP.step (pc' := 1) (ls' := [some (.inr (.inr (some 84))), some (.inl x0), some (.inl x1), none, none, none]) (st' := [.inr (.inl 0)]) (h1 := hp L s c e) rfl ?_
  refine RuP.step (pc' := 2) (ls' := [some (.inr (.inr (some 84))), some (.inl x0), some (.inl x1), some (.inr (.inl 0)), none, none]) (st' := []) (h1 := hp L s c e) rfl ?_
  refine RuP.step (pc' := 3) (ls' := [some (.inr (.inr (some 84))), some (.inl x0), some (.inl x1), some (.inr (.inl 0)), none, none]) (st' := [.inl x1]) (h1 := hp L s c e) rfl ?_
  refine RuP.step (pc' := 4) (ls' := [some (.inr (.inr (some 84))), some (.inl x0), some (.inl x1), some (.inr (.inl 0)), none, none]) (st' := [.inl x0, .inl x1]) (h1 := hp L s c e) rfl ?_
  refine RuP.step (pc' := 5) (ls' := [some (.inr (.inr (some 84))), some (.inl x0), some (.inl x1), some (.inr (.inl 0)), none, none]) (st' := [.inl (ax_w32 (x1 - x0))]) (h1 := hp L s c e) rfl ?_
  refine RuP.step (pc' := 6) (ls' := [some (.inr (.inr (some 84))), some (.inl x0), some (.inl x1), some (.inr (.inl 0)), none, none]) (st' := [.inl 5, .inl (ax_w32 (x1 - x0))]) (h1 := hp L s c e) rfl ?_
  by_cases h0 : ax_w32 (x1 - x0) ≤ 5
  · rw [if_pos h0] at h
    refine RuP.jy rfl h0 ?_
    refine RuP.step (pc' := 12) (ls' := [some (.inr (.inr (some 84))), some (.inl x0), some (.inl x1), some (.inr (.inl 0)), none, none]) (st' := [.inl x0]) (h1 := hp L s c e) rfl ?_
    refine RuP.step (pc' := 14) (ls' := [some (.inr (.inr (some 84))), some (.inl x0), some (.inl x1), some (.inr (.inl 0)), none, some (.inl x0)]) (st' := []) (h1 := hp L s c e) rfl ?_
    exact bl_228_14 FU _ _ _ _ _ _ h
  · rw [if_neg h0] at h
    refine RuP.jn rfl h0 ?_
    refine RuP.step (pc' := 10) (ls' := [some (.inr (.inr (some 84))), some (.inl x0), some (.inl x1), some (.inr (.inl 0)), none, none]) (st' := [.inl 1]) (h1 := hp L s c e) rfl ?_
    cases h
    exact RuP.dI rfl
/-- MachineTextModel.sign(I)I -/
noncomputable def j_230_80 (l1 l2 t0 : Int) (s : Sg) : Option (Int × Sg) :=
  (if t0 < 0 then
    (if l2 = 38 then
      (gd (0 ≤ s 84 11 ∧ s 84 11 < 8200) (
      some (ax_w32 (l1 + 1), (ax_u2 s 88 ((s 84 11).toNat) 22))))
    else
    (if l2 = 40 then
      (gd (0 ≤ s 84 11 ∧ s 84 11 < 8200) (
      some (ax_w32 (l1 + 1), (ax_u2 s 88 ((s 84 11).toNat) 11))))
    else
    (if l2 = 41 then
      (gd (0 ≤ s 84 11 ∧ s 84 11 < 8200) (
      some (ax_w32 (l1 + 1), (ax_u2 s 88 ((s 84 11).toNat) 12))))
    else
    (if l2 = 42 then
      (gd (0 ≤ s 84 11 ∧ s 84 11 < 8200) (
      some (ax_w32 (l1 + 1), (ax_u2 s 88 ((s 84 11).toNat) 21))))
    else
    (if l2 = 43 then
      (gd (0 ≤ s 84 11 ∧ s 84 11 < 8200) (
      some (ax_w32 (l1 + 1), (ax_u2 s 88 ((s 84 11).toNat) 19))))
    else
    (if l2 = 44 then
      (gd (0 ≤ s 84 11 ∧ s 84 11 < 8200) (
      some (ax_w32 (l1 + 1), (ax_u2 s 88 ((s 84 11).toNat) 8))))
    else
    (if l2 = 45 then
      (gd (0 ≤ s 84 11 ∧ s 84 11 < 8200) (
      some (ax_w32 (l1 + 1), (ax_u2 s 88 ((s 84 11).toNat) 20))))
    else
    (if l2 = 46 then
      (gd (0 ≤ s 84 11 ∧ s 84 11 < 8200) (
      some (ax_w32 (l1 + 1), (ax_u2 s 88 ((s 84 11).toNat) 9))))
    else
    (if l2 = 58 then
      (gd (0 ≤ s 84 11 ∧ s 84 11 < 8200) (
      some (ax_w32 (l1 + 1), (ax_u2 s 88 ((s 84 11).toNat) 17))))
    else
    (if l2 = 59 then
      (gd (0 ≤ s 84 11 ∧ s 84 11 < 8200) (
      some (ax_w32 (l1 + 1), (ax_u2 s 88 ((s 84 11).toNat) 7))))
    else
    (if l2 = 60 then
      (gd (0 ≤ s 84 11 ∧ s 84 11 < 8200) (
      some (ax_w32 (l1 + 1), (ax_u2 s 88 ((s 84 11).toNat) 26))))
    else
    (if l2 = 61 then
      (gd (0 ≤ s 84 11 ∧ s 84 11 < 8200) (
      some (ax_w32 (l1 + 1), (ax_u2 s 88 ((s 84 11).toNat) 10))))
    else
    (if l2 = 63 then
      (gd (0 ≤ s 84 11 ∧ s 84 11 < 8200) (
      some (ax_w32 (l1 + 1), (ax_u2 s 88 ((s 84 11).toNat) 18))))
    else
    (if l2 = 91 then
      (gd (0 ≤ s 84 11 ∧ s 84 11 < 8200) (
      some (ax_w32 (l1 + 1), (ax_u2 s 88 ((s 84 11).toNat) 15))))
    else
    (if l2 = 93 then
      (gd (0 ≤ s 84 11 ∧ s 84 11 < 8200) (
      some (ax_w32 (l1 + 1), (ax_u2 s 88 ((s 84 11).toNat) 16))))
    else
    (if l2 = 94 then
      (gd (0 ≤ s 84 11 ∧ s 84 11 < 8200) (
      some (ax_w32 (l1 + 1), (ax_u2 s 88 ((s 84 11).toNat) 24))))
    else
    (if l2 = 123 then
      (gd (0 ≤ s 84 11 ∧ s 84 11 < 8200) (
      some (ax_w32 (l1 + 1), (ax_u2 s 88 ((s 84 11).toNat) 13))))
    else
    (if l2 = 124 then
      (gd (0 ≤ s 84 11 ∧ s 84 11 < 8200) (
      some (ax_w32 (l1 + 1), (ax_u2 s 88 ((s 84 11).toNat) 23))))
    else
    (if l2 = 125 then
      (gd (0 ≤ s 84 11 ∧ s 84 11 < 8200) (
      some (ax_w32 (l1 + 1), (ax_u2 s 88 ((s 84 11).toNat) 14))))
    else
    (if l2 = 126 then
      (gd (0 ≤ s 84 11 ∧ s 84 11 < 8200) (
      some (ax_w32 (l1 + 1), (ax_u2 s 88 ((s 84 11).toNat) 25))))
    else
      ((some (f_227 1 l1 s)).bind fun q1 =>
      some (ax_w32 (l1 + 1), q1))))))))))))))))))))))
  else
    (gd (0 ≤ s 84 11 ∧ s 84 11 < 8200) (
    some (ax_w32 (l1 + 2), (ax_u2 s 88 ((s 84 11).toNat) t0)))))
set_option maxRecDepth 20000 in
theorem bl_230_80 {L c : Nat} {e : Nat → Nat} : ∀ (d4 : Option ax_V) (z3 : Int) (l1 l2 t0 : Int) (s : Sg) (q : Int × Sg), j_230_80 l1 l2 t0 s = some q → RuP 1 tb_m230 80 [some (.inr (.inr (some 84))), some (.inl l1), some (.inl l2), some (.inl z3), d4] [.inl t0] (hp L s c e) (oI L c e q) := by
  intro d4 z3 l1 l2 t0 s q h
  unfold j_230_80 at h
  refine RuP.step (pc' := 82) (ls' := [some (.inr (.inr (some 84))), some (.inl l1), some (.inl l2), some (.inl z3), some (.inl t0)]) (st' := []) (h1 := hp L s c e) rfl ?_
  refine RuP.step (pc' := 84) (ls' := [some (.inr (.inr (some 84))), some (.inl l1), some (.inl l2), some (.inl z3), some (.inl t0)]) (st' := [.inl t0]) (h1 := hp L s c e) rfl ?_
  by_cases h0 : t0 < 0
  · rw [if_pos h0] at h
    refine RuP.jy rfl h0 ?_
    refine RuP.step (pc' := 103) (ls' := [some (.inr (.inr (some 84))), some (.inl l1), some (.inl l2), some (.inl z3), some (.inl t0)]) (st' := [.inl l2]) (h1 := hp L s c e) rfl ?_
    by_cases h1 : l2 = 38
    · rw [if_pos h1] at h
      have J2 : RuP 1 tb_m230 682 [some (.inr (.inr (some 84))), some (.inl l1), some (.inl l2), some (.inl z3), some (.inl t0)] [] (hp L s c e) (oI L c e q) := by
        refine RuP.step (pc' := 683) (ls' := [some (.inr (.inr (some 84))), some (.inl l1), some (.inl l2), some (.inl z3), some (.inl t0)]) (st' := [.inr (.inr (some 84))]) (h1 := hp L s c e) rfl ?_
        refine RuP.step (pc' := 686) (ls' := [some (.inr (.inr (some 84))), some (.inl l1), some (.inl l2), some (.inl z3), some (.inl t0)]) (st' := [.inr (.inr (some 88))]) (h1 := hp L s c e) rfl ?_
        refine RuP.step (pc' := 687) (ls' := [some (.inr (.inr (some 84))), some (.inl l1), some (.inl l2), some (.inl z3), some (.inl t0)]) (st' := [.inr (.inr (some 84)), .inr (.inr (some 88))]) (h1 := hp L s c e) rfl ?_
        refine RuP.step (pc' := 690) (ls' := [some (.inr (.inr (some 84))), some (.inl l1), some (.inl l2), some (.inl z3), some (.inl t0)]) (st' := [.inl (s 84 11), .inr (.inr (some 88))]) (h1 := hp L s c e) rfl ?_
        refine RuP.step (pc' := 692) (ls' := [some (.inr (.inr (some 84))), some (.inl l1), some (.inl l2), some (.inl z3), some (.inl t0)]) (st' := [.inl 22, .inl (s 84 11), .inr (.inr (some 88))]) (h1 := hp L s c e) rfl ?_
        obtain ⟨b2, h⟩ := gd_some h
        refine RuP.ast (f := fun t => t == 0) (j := s 84 11) (a := 88) rfl rfl (by decide) rfl rfl b2.1 b2.2 ?_
        refine RuP.step (pc' := 758) (ls' := [some (.inr (.inr (some 84))), some (.inl l1), some (.inl l2), some (.inl z3), some (.inl t0)]) (st' := []) (h1 := hp L (ax_u2 s 88 ((s 84 11).toNat) 22) c e) rfl ?_
        refine RuP.step (pc' := 759) (ls' := [some (.inr (.inr (some 84))), some (.inl l1), some (.inl l2), some (.inl z3), some (.inl t0)]) (st' := [.inl l1]) (h1 := hp L (ax_u2 s 88 ((s 84 11).toNat) 22) c e) rfl ?_
        refine RuP.step (pc' := 760) (ls' := [some (.inr (.inr (some 84))), some (.inl l1), some (.inl l2), some (.inl z3), some (.inl t0)]) (st' := [.inl 1, .inl l1]) (h1 := hp L (ax_u2 s 88 ((s 84 11).toNat) 22) c e) rfl ?_
        refine RuP.step (pc' := 761) (ls' := [some (.inr (.inr (some 84))), some (.inl l1), some (.inl l2), some (.inl z3), some (.inl t0)]) (st' := [.inl (ax_w32 (l1 + 1))]) (h1 := hp L (ax_u2 s 88 ((s 84 11).toNat) 22) c e) rfl ?_
        cases h
        exact RuP.dI rfl
      exact RuP.sw (i := .tableswitch (649) (38) (126) #[579, 649, 425, 439, 565, 537, 383, 551, 397, 649, 649, 649, 649, 649, 649, 649, 649, 649, 649, 649, 509, 369, 635, 411, 649, 523, 649, 649, 649, 649, 649, 649, 649, 649, 649, 649, 649, 649, 649, 649, 649, 649, 649, 649, 649, 649, 649, 649, 649, 649, 649, 649, 649, 481, 649, 495, 607, 649, 649, 649, 649, 649, 649, 649, 649, 649, 649, 649, 649, 649, 649, 649, 649, 649, 649, 649, 649, 649, 649, 649, 649, 649, 649, 649, 649, 453, 593, 467, 621]) rfl h1 rfl J2
    rw [if_neg h1] at h
    by_cases h3 : l2 = 40
    · rw [if_pos h3] at h
      have J4 : RuP 1 tb_m230 528 [some (.inr (.inr (some 84))), some (.inl l1), some (.inl l2), some (.inl z3), some (.inl t0)] [] (hp L s c e) (oI L c e q) := by
        refine RuP.step (pc' := 529) (ls' := [some (.inr (.inr (some 84))), some (.inl l1), some (.inl l2), some (.inl z3), some (.inl t0)]) (st' := [.inr (.inr (some 84))]) (h1 := hp L s c e) rfl ?_
        refine RuP.step (pc' := 532) (ls' := [some (.inr (.inr (some 84))), some (.inl l1), some (.inl l2), some (.inl z3), some (.inl t0)]) (st' := [.inr (.inr (some 88))]) (h1 := hp L s c e) rfl ?_
        refine RuP.step (pc' := 533) (ls' := [some (.inr (.inr (some 84))), some (.inl l1), some (.inl l2), some (.inl z3), some (.inl t0)]) (st' := [.inr (.inr (some 84)), .inr (.inr (some 88))]) (h1 := hp L s c e) rfl ?_
        refine RuP.step (pc' := 536) (ls' := [some (.inr (.inr (some 84))), some (.inl l1), some (.inl l2), some (.inl z3), some (.inl t0)]) (st' := [.inl (s 84 11), .inr (.inr (some 88))]) (h1 := hp L s c e) rfl ?_
        refine RuP.step (pc' := 538) (ls' := [some (.inr (.inr (some 84))), some (.inl l1), some (.inl l2), some (.inl z3), some (.inl t0)]) (st' := [.inl 11, .inl (s 84 11), .inr (.inr (some 88))]) (h1 := hp L s c e) rfl ?_
        obtain ⟨b4, h⟩ := gd_some h
        refine RuP.ast (f := fun t => t == 0) (j := s 84 11) (a := 88) rfl rfl (by decide) rfl rfl b4.1 b4.2 ?_
        refine RuP.step (pc' := 758) (ls' := [some (.inr (.inr (some 84))), some (.inl l1), some (.inl l2), some (.inl z3), some (.inl t0)]) (st' := []) (h1 := hp L (ax_u2 s 88 ((s 84 11).toNat) 11) c e) rfl ?_
        refine RuP.step (pc' := 759) (ls' := [some (.inr (.inr (some 84))), some (.inl l1), some (.inl l2), some (.inl z3), some (.inl t0)]) (st' := [.inl l1]) (h1 := hp L (ax_u2 s 88 ((s 84 11).toNat) 11) c e) rfl ?_
        refine RuP.step (pc' := 760) (ls' := [some (.inr (.inr (some 84))), some (.inl l1), some (.inl l2), some (.inl z3), some (.inl t0)]) (st' := [.inl 1, .inl l1]) (h1 := hp L (ax_u2 s 88 ((s 84 11).toNat) 11) c e) rfl ?_
        refine RuP.step (pc' := 761) (ls' := [some (.inr (.inr (some 84))), some (.inl l1), some (.inl l2), some (.inl z3), some (.inl t0)]) (st' := [.inl (ax_w32 (l1 + 1))]) (h1 := hp L (ax_u2 s 88 ((s 84 11).toNat) 11) c e) rfl ?_
        cases h
        exact RuP.dI rfl
      exact RuP.sw (i := .tableswitch (649) (38) (126) #[579, 649, 425, 439, 565, 537, 383, 551, 397, 649, 649, 649, 649, 649, 649, 649, 649, 649, 649, 649, 509, 369, 635, 411, 649, 523, 649, 649, 649, 649, 649, 649, 649, 649, 649, 649, 649, 649, 649, 649, 649, 649, 649, 649, 649, 649, 649, 649, 649, 649, 649, 649, 649, 481, 649, 495, 607, 649, 649, 649, 649, 649, 649, 649, 649, 649, 649, 649, 649, 649, 649, 649, 649, 649, 649, 649, 649, 649, 649, 649, 649, 649, 649, 649, 649, 453, 593, 467, 621]) rfl h3 rfl J4
    rw [if_neg h3] at h
    by_cases h5 : l2 = 41
    · rw [if_pos h5] at h
      have J6 : RuP 1 tb_m230 542 [some (.inr (.inr (some 84))), some (.inl l1), some (.inl l2), some (.inl z3), some (.inl t0)] [] (hp L s c e) (oI L c e q) := by
        refine RuP.step (pc' := 543) (ls' := [some (.inr (.inr (some 84))), some (.inl l1), some (.inl l2), some (.inl z3), some (.inl t0)]) (st' := [.inr (.inr (some 84))]) (h1 := hp L s c e) rfl ?_
        refine RuP.step (pc' := 546) (ls' := [some (.inr (.inr (some 84))), some (.inl l1), some (.inl l2), some (.inl z3), some (.inl t0)]) (st' := [.inr (.inr (some 88))]) (h1 := hp L s c e) rfl ?_
        refine RuP.step (pc' := 547) (ls' := [some (.inr (.inr (some 84))), some (.inl l1), some (.inl l2), some (.inl z3), some (.inl t0)]) (st' := [.inr (.inr (some 84)), .inr (.inr (some 88))]) (h1 := hp L s c e) rfl ?_
        refine RuP.step (pc' := 550) (ls' := [some (.inr (.inr (some 84))), some (.inl l1), some (.inl l2), some (.inl z3), some (.inl t0)]) (st' := [.inl (s 84 11), .inr (.inr (some 88))]) (h1 := hp L s c e) rfl ?_
        refine RuP.step (pc' := 552) (ls' := [some (.inr (.inr (some 84))), some (.inl l1), some (.inl l2), some (.inl z3), some (.inl t0)]) (st' := [.inl 12, .inl (s 84 11), .inr (.inr (some 88))]) (h1 := hp L s c e) rfl ?_
        obtain ⟨b6, h⟩ := gd_some h
        refine RuP.ast (f := fun t => t == 0) (j := s 84 11) (a := 88) rfl rfl (by decide) rfl rfl b6.1 b6.2 ?_
        refine RuP.step (pc' := 758) (ls' := [some (.inr (.inr (some 84))), some (.inl l1), some (.inl l2), some (.inl z3), some (.inl t0)]) (st' := []) (h1 := hp L (ax_u2 s 88 ((s 84 11).toNat) 12) c e) rfl ?_
        refine RuP.step (pc' := 759) (ls' := [some (.inr (.inr (some 84))), some (.inl l1), some (.inl l2), some (.inl z3), some (.inl t0)]) (st' := [.inl l1]) (h1 := hp L (ax_u2 s 88 ((s 84 11).toNat) 12) c e) rfl ?_
        refine RuP.step (pc' := 760) (ls' := [some (.inr (.inr (some 84))), some (.inl l1), some (.inl l2), some (.inl z3), some (.inl t0)]) (st' := [.inl 1, .inl l1]) (h1 := hp L (ax_u2 s 88 ((s 84 11).toNat) 12) c e) rfl ?_
        refine RuP.step (pc' := 761) (ls' := [some (.inr (.inr (some 84))), some (.inl l1), some (.inl l2), some (.inl z3), some (.inl t0)]) (st' := [.inl (ax_w32 (l1 + 1))]) (h1 := hp L (ax_u2 s 88 ((s 84 11).toNat) 12) c e) rfl ?_
        cases h
        exact RuP.dI rfl
      exact RuP.sw (i := .tableswitch (649) (38) (126) #[579, 649, 425, 439, 565, 537, 383, 551, 397, 649, 649, 649, 649, 649, 649, 649, 649, 649, 649, 649, 509, 369, 635, 411, 649, 523, 649, 649, 649, 649, 649, 649, 649, 649, 649, 649, 649, 649, 649, 649, 649, 649, 649, 649, 649, 649, 649, 649, 649, 649, 649, 649, 649, 481, 649, 495, 607, 649, 649, 649, 649, 649, 649, 649, 649, 649, 649, 649, 649, 649, 649, 649, 649, 649, 649, 649, 649, 649, 649, 649, 649, 649, 649, 649, 649, 453, 593, 467, 621]) rfl h5 rfl J6
    rw [if_neg h5] at h
    by_cases h7 : l2 = 42
    · rw [if_pos h7] at h
      have J8 : RuP 1 tb_m230 668 [some (.inr (.inr (some 84))), some (.inl l1), some (.inl l2), some (.inl z3), some (.inl t0)] [] (hp L s c e) (oI L c e q) := by
        refine RuP.step (pc' := 669) (ls' := [some (.inr (.inr (some 84))), some (.inl l1), some (.inl l2), some (.inl z3), some (.inl t0)]) (st' := [.inr (.inr (some 84))]) (h1 := hp L s c e) rfl ?_
        refine RuP.step (pc' := 672) (ls' := [some (.inr (.inr (some 84))), some (.inl l1), some (.inl l2), some (.inl z3), some (.inl t0)]) (st' := [.inr (.inr (some 88))]) (h1 := hp L s c e) rfl ?_
        refine RuP.step (pc' := 673) (ls' := [some (.inr (.inr (some 84))), some (.inl l1), some (.inl l2), some (.inl z3), some (.inl t0)]) (st' := [.inr (.inr (some 84)), .inr (.inr (some 88))]) (h1 := hp L s c e) rfl ?_
        refine RuP.step (pc' := 676) (ls' := [some (.inr (.inr (some 84))), some (.inl l1), some (.inl l2), some (.inl z3), some (.inl t0)]) (st' := [.inl (s 84 11), .inr (.inr (some 88))]) (h1 := hp L s c e) rfl ?_
        refine RuP.step (pc' := 678) (ls' := [some (.inr (.inr (some 84))), some (.inl l1), some (.inl l2), some (.inl z3), some (.inl t0)]) (st' := [.inl 21, .inl (s 84 11), .inr (.inr (some 88))]) (h1 := hp L s c e) rfl ?_
        obtain ⟨b8, h⟩ := gd_some h
        refine RuP.ast (f := fun t => t == 0) (j := s 84 11) (a := 88) rfl rfl (by decide) rfl rfl b8.1 b8.2 ?_
        refine RuP.step (pc' := 758) (ls' := [some (.inr (.inr (some 84))), some (.inl l1), some (.inl l2), some (.inl z3), some (.inl t0)]) (st' := []) (h1 := hp L (ax_u2 s 88 ((s 84 11).toNat) 21) c e) rfl ?_
        refine RuP.step (pc' := 759) (ls' := [some (.inr (.inr (some 84))), some (.inl l1), some (.inl l2), some (.inl z3), some (.inl t0)]) (st' := [.inl l1]) (h1 := hp L (ax_u2 s 88 ((s 84 11).toNat) 21) c e) rfl ?_
        refine RuP.step (pc' := 760) (ls' := [some (.inr (.inr (some 84))), some (.inl l1), some (.inl l2), some (.inl z3), some (.inl t0)]) (st' := [.inl 1, .inl l1]) (h1 := hp L (ax_u2 s 88 ((s 84 11).toNat) 21) c e) rfl ?_
        refine RuP.step (pc' := 761) (ls' := [some (.inr (.inr (some 84))), some (.inl l1), some (.inl l2), some (.inl z3), some (.inl t0)]) (st' := [.inl (ax_w32 (l1 + 1))]) (h1 := hp L (ax_u2 s 88 ((s 84 11).toNat) 21) c e) rfl ?_
        cases h
        exact RuP.dI rfl
      exact RuP.sw (i := .tableswitch (649) (38) (126) #[579, 649, 425, 439, 565, 537, 383, 551, 397, 649, 649, 649, 649, 649, 649, 649, 649, 649, 649, 649, 509, 369, 635, 411, 649, 523, 649, 649, 649, 649, 649, 649, 649, 649, 649, 649, 649, 649, 649, 649, 649, 649, 649, 649, 649, 649, 649, 649, 649, 649, 649, 649, 649, 481, 649, 495, 607, 649, 649, 649, 649, 649, 649, 649, 649, 649, 649, 649, 649, 649, 649, 649, 649, 649, 649, 649, 649, 649, 649, 649, 649, 649, 649, 649, 649, 453, 593, 467, 621]) rfl h7 rfl J8
    rw [if_neg h7] at h
    by_cases h9 : l2 = 43
    · rw [if_pos h9] at h
      have J10 : RuP 1 tb_m230 640 [some (.inr (.inr (some 84))), some (.inl l1), some (.inl l2), some (.inl z3), some (.inl t0)] [] (hp L s c e) (oI L c e q) := by
        refine RuP.step (pc' := 641) (ls' := [some (.inr (.inr (some 84))), some (.inl l1), some (.inl l2), some (.inl z3), some (.inl t0)]) (st' := [.inr (.inr (some 84))]) (h1 := hp L s c e) rfl ?_
        refine RuP.step (pc' := 644) (ls' := [some (.inr (.inr (some 84))), some (.inl l1), some (.inl l2), some (.inl z3), some (.inl t0)]) (st' := [.inr (.inr (some 88))]) (h1 := hp L s c e) rfl ?_
        refine RuP.step (pc' := 645) (ls' := [some (.inr (.inr (some 84))), some (.inl l1), some (.inl l2), some (.inl z3), some (.inl t0)]) (st' := [.inr (.inr (some 84)), .inr (.inr (some 88))]) (h1 := hp L s c e) rfl ?_
        refine RuP.step (pc' := 648) (ls' := [some (.inr (.inr (some 84))), some (.inl l1), some (.inl l2), some (.inl z3), some (.inl t0)]) (st' := [.inl (s 84 11), .inr (.inr (some 88))]) (h1 := hp L s c e) rfl ?_
        refine RuP.step (pc' := 650) (ls' := [some (.inr (.inr (some 84))), some (.inl l1), some (.inl l2), some (.inl z3), some (.inl t0)]) (st' := [.inl 19, .inl (s 84 11), .inr (.inr (some 88))]) (h1 := hp L s c e) rfl ?_
        obtain ⟨b10, h⟩ := gd_some h
        refine RuP.ast (f := fun t => t == 0) (j := s 84 11) (a := 88) rfl rfl (by decide) rfl rfl b10.1 b10.2 ?_
        refine RuP.step (pc' := 758) (ls' := [some (.inr (.inr (some 84))), some (.inl l1), some (.inl l2), some (.inl z3), some (.inl t0)]) (st' := []) (h1 := hp L (ax_u2 s 88 ((s 84 11).toNat) 19) c e) rfl ?_
        refine RuP.step (pc' := 759) (ls' := [some (.inr (.inr (some 84))), some (.inl l1), some (.inl l2), some (.inl z3), some (.inl t0)]) (st' := [.inl l1]) (h1 := hp L (ax_u2 s 88 ((s 84 11).toNat) 19) c e) rfl ?_
        refine RuP.step (pc' := 760) (ls' := [some (.inr (.inr (some 84))), some (.inl l1), some (.inl l2), some (.inl z3), some (.inl t0)]) (st' := [.inl 1, .inl l1]) (h1 := hp L (ax_u2 s 88 ((s 84 11).toNat) 19) c e) rfl ?_
        refine RuP.step (pc' := 761) (ls' := [some (.inr (.inr (some 84))), some (.inl l1), some (.inl l2), some (.inl z3), some (.inl t0)]) (st' := [.inl (ax_w32 (l1 + 1))]) (h1 := hp L (ax_u2 s 88 ((s 84 11).toNat) 19) c e) rfl ?_
        cases h
        exact RuP.dI rfl
      exact RuP.sw (i := .tableswitch (649) (38) (126) #[579, 649, 425, 439, 565, 537, 383, 551, 397, 649, 649, 649, 649, 649, 649, 649, 649, 649, 649, 649, 509, 369, 635, 411, 649, 523, 649, 649, 649, 649, 649, 649, 649, 649, 649, 649, 649, 649, 649, 649, 649, 649, 649, 649, 649, 649, 649, 649, 649, 649, 649, 649, 649, 481, 649, 495, 607, 649, 649, 649, 649, 649, 649, 649, 649, 649, 649, 649, 649, 649, 649, 649, 649, 649, 649, 649, 649, 649, 649, 649, 649, 649, 649, 649, 649, 453, 593, 467, 621]) rfl h9 rfl J10
    rw [if_neg h9] at h
    by_cases h11 : l2 = 44
    · rw [if_pos h11] at h
      have J12 : RuP 1 tb_m230 486 [some (.inr (.inr (some 84))), some (.inl l1), some (.inl l2), some (.inl z3), some (.inl t0)] [] (hp L s c e) (oI L c e q) := by
        refine RuP.step (pc' := 487) (ls' := [some (.inr (.inr (some 84))), some (.inl l1), some (.inl l2), some (.inl z3), some (.inl t0)]) (st' := [.inr (.inr (some 84))]) (h1 := hp L s c e) rfl ?_
        refine RuP.step (pc' := 490) (ls' := [some (.inr (.inr (some 84))), some (.inl l1), some (.inl l2), some (.inl z3), some (.inl t0)]) (st' := [.inr (.inr (some 88))]) (h1 := hp L s c e) rfl ?_
        refine RuP.step (pc' := 491) (ls' := [some (.inr (.inr (some 84))), some (.inl l1), some (.inl l2), some (.inl z3), some (.inl t0)]) (st' := [.inr (.inr (some 84)), .inr (.inr (some 88))]) (h1 := hp L s c e) rfl ?_
        refine RuP.step (pc' := 494) (ls' := [some (.inr (.inr (some 84))), some (.inl l1), some (.inl l2), some (.inl z3), some (.inl t0)]) (st' := [.inl (s 84 11), .inr (.inr (some 88))]) (h1 := hp L s c e) rfl ?_
        refine RuP.step (pc' := 496) (ls' := [some (.inr (.inr (some 84))), some (.inl l1), some (.inl l2), some (.inl z3), some (.inl t0)]) (st' := [.inl 8, .inl (s 84 11), .inr (.inr (some 88))]) (h1 := hp L s c e) rfl ?_
        obtain ⟨b12, h⟩ := gd_some h
        refine RuP.ast (f := fun t => t == 0) (j := s 84 11) (a := 88) rfl rfl (by decide) rfl rfl b12.1 b12.2 ?_
        refine RuP.step (pc' := 758) (ls' := [some (.inr (.inr (some 84))), some (.inl l1), some (.inl l2), some (.inl z3), some (.inl t0)]) (st' := []) (h1 := hp L (ax_u2 s 88 ((s 84 11).toNat) 8) c e) rfl ?_
        refine RuP.step (pc' := 759) (ls' := [some (.inr (.inr (some 84))), some (.inl l1), some (.inl l2), some (.inl z3), some (.inl t0)]) (st' := [.inl l1]) (h1 := hp L (ax_u2 s 88 ((s 84 11).toNat) 8) c e) rfl ?_
        refine RuP.step (pc' := 760) (ls' := [some (.inr (.inr (some 84))), some (.inl l1), some (.inl l2), some (.inl z3), some (.inl t0)]) (st' := [.inl 1, .inl l1]) (h1 := hp L (ax_u2 s 88 ((s 84 11).toNat) 8) c e) rfl ?_
        refine RuP.step (pc' := 761) (ls' := [some (.inr (.inr (some 84))), some (.inl l1), some (.inl l2), some (.inl z3), some (.inl t0)]) (st' := [.inl (ax_w32 (l1 + 1))]) (h1 := hp L (ax_u2 s 88 ((s 84 11).toNat) 8) c e) rfl ?_
        cases h
        exact RuP.dI rfl
      exact RuP.sw (i := .tableswitch (649) (38) (126) #[579, 649, 425, 439, 565, 537, 383, 551, 397, 649, 649, 649, 649, 649, 649, 649, 649, 649, 649, 649, 509, 369, 635, 411, 649, 523, 649, 649, 649, 649, 649, 649, 649, 649, 649, 649, 649, 649, 649, 649, 649, 649, 649, 649, 649, 649, 649, 649, 649, 649, 649, 649, 649, 481, 649, 495, 607, 649, 649, 649, 649, 649, 649, 649, 649, 649, 649, 649, 649, 649, 649, 649, 649, 649, 649, 649, 649, 649, 649, 649, 649, 649, 649, 649, 649, 453, 593, 467, 621]) rfl h11 rfl J12
    rw [if_neg h11] at h
    by_cases h13 : l2 = 45
    · rw [if_pos h13] at h
      have J14 : RuP 1 tb_m230 654 [some (.inr (.inr (some 84))), some (.inl l1), some (.inl l2), some (.inl z3), some (.inl t0)] [] (hp L s c e) (oI L c e q) := by
        refine RuP.step (pc' := 655) (ls' := [some (.inr (.inr (some 84))), some (.inl l1), some (.inl l2), some (.inl z3), some (.inl t0)]) (st' := [.inr (.inr (some 84))]) (h1 := hp L s c e) rfl ?_
        refine RuP.step (pc' := 658) (ls' := [some (.inr (.inr (some 84))), some (.inl l1), some (.inl l2), some (.inl z3), some (.inl t0)]) (st' := [.inr (.inr (some 88))]) (h1 := hp L s c e) rfl ?_
        refine RuP.step (pc' := 659) (ls' := [some (.inr (.inr (some 84))), some (.inl l1), some (.inl l2), some (.inl z3), some (.inl t0)]) (st' := [.inr (.inr (some 84)), .inr (.inr (some 88))]) (h1 := hp L s c e) rfl ?_
        refine RuP.step (pc' := 662) (ls' := [some (.inr (.inr (some 84))), some (.inl l1), some (.inl l2), some (.inl z3), some (.inl t0)]) (st' := [.inl (s 84 11), .inr (.inr (some 88))]) (h1 := hp L s c e) rfl ?_
        refine RuP.step (pc' := 664) (ls' := [some (.inr (.inr (some 84))), some (.inl l1), some (.inl l2), some (.inl z3), some (.inl t0)]) (st' := [.inl 20, .inl (s 84 11), .inr (.inr (some 88))]) (h1 := hp L s c e) rfl ?_
        obtain ⟨b14, h⟩ := gd_some h
        refine RuP.ast (f := fun t => t == 0) (j := s 84 11) (a := 88) rfl rfl (by decide) rfl rfl b14.1 b14.2 ?_
        refine RuP.step (pc' := 758) (ls' := [some (.inr (.inr (some 84))), some (.inl l1), some (.inl l2), some (.inl z3), some (.inl t0)]) (st' := []) (h1 := hp L (ax_u2 s 88 ((s 84 11).toNat) 20) c e) rfl ?_
        refine RuP.step (pc' := 759) (ls' := [some (.inr (.inr (some 84))), some (.inl l1), some (.inl l2), some (.inl z3), some (.inl t0)]) (st' := [.inl l1]) (h1 := hp L (ax_u2 s 88 ((s 84 11).toNat) 20) c e) rfl ?_
        refine RuP.step (pc' := 760) (ls' := [some (.inr (.inr (some 84))), some (.inl l1), some (.inl l2), some (.inl z3), some (.inl t0)]) (st' := [.inl 1, .inl l1]) (h1 := hp L (ax_u2 s 88 ((s 84 11).toNat) 20) c e) rfl ?_
        refine RuP.step (pc' := 761) (ls' := [some (.inr (.inr (some 84))), some (.inl l1), some (.inl l2), some (.inl z3), some (.inl t0)]) (st' := [.inl (ax_w32 (l1 + 1))]) (h1 := hp L (ax_u2 s 88 ((s 84 11).toNat) 20) c e) rfl ?_
        cases h
        exact RuP.dI rfl
      exact RuP.sw (i := .tableswitch (649) (38) (126) #[579, 649, 425, 439, 565, 537, 383, 551, 397, 649, 649, 649, 649, 649, 649, 649, 649, 649, 649, 649, 509, 369, 635, 411, 649, 523, 649, 649, 649, 649, 649, 649, 649, 649, 649, 649, 649, 649, 649, 649, 649, 649, 649, 649, 649, 649, 649, 649, 649, 649, 649, 649, 649, 481, 649, 495, 607, 649, 649, 649, 649, 649, 649, 649, 649, 649, 649, 649, 649, 649, 649, 649, 649, 649, 649, 649, 649, 649, 649, 649, 649, 649, 649, 649, 649, 453, 593, 467, 621]) rfl h13 rfl J14
    rw [if_neg h13] at h
    by_cases h15 : l2 = 46
    · rw [if_pos h15] at h
      have J16 : RuP 1 tb_m230 500 [some (.inr (.inr (some 84))), some (.inl l1), some (.inl l2), some (.inl z3), some (.inl t0)] [] (hp L s c e) (oI L c e q) := by
        refine RuP.step (pc' := 501) (ls' := [some (.inr (.inr (some 84))), some (.inl l1), some (.inl l2), some (.inl z3), some (.inl t0)]) (st' := [.inr (.inr (some 84))]) (h1 := hp L s c e) rfl ?_
        refine RuP.step (pc' := 504) (ls' := [some (.inr (.inr (some 84))), some (.inl l1), some (.inl l2), some (.inl z3), some (.inl t0)]) (st' := [.inr (.inr (some 88))]) (h1 := hp L s c e) rfl ?_
        refine RuP.step (pc' := 505) (ls' := [some (.inr (.inr (some 84))), some (.inl l1), some (.inl l2), some (.inl z3), some (.inl t0)]) (st' := [.inr (.inr (some 84)), .inr (.inr (some 88))]) (h1 := hp L s c e) rfl ?_
        refine RuP.step (pc' := 508) (ls' := [some (.inr (.inr (some 84))), some (.inl l1), some (.inl l2), some (.inl z3), some (.inl t0)]) (st' := [.inl (s 84 11), .inr (.inr (some 88))]) (h1 := hp L s c e) rfl ?_
        refine RuP.step (pc' := 510) (ls' := [some (.inr (.inr (some 84))), some (.inl l1), some (.inl l2), some (.inl z3), some (.inl t0)]) (st' := [.inl 9, .inl (s 84 11), .inr (.inr (some 88))]) (h1 := hp L s c e) rfl ?_
        obtain ⟨b16, h⟩ := gd_some h
        refine RuP.ast (f := fun t => t == 0) (j := s 84 11) (a := 88) rfl rfl (by decide) rfl rfl b16.1 b16.2 ?_
        refine RuP.step (pc' := 758) (ls' := [some (.inr (.inr (some 84))), some (.inl l1), some (.inl l2), some (.inl z3), some (.inl t0)]) (st' := []) (h1 := hp L (ax_u2 s 88 ((s 84 11).toNat) 9) c e) rfl ?_
        refine RuP.step (pc' := 759) (ls' := [some (.inr (.inr (some 84))), some (.inl l1), some (.inl l2), some (.inl z3), some (.inl t0)]) (st' := [.inl l1]) (h1 := hp L (ax_u2 s 88 ((s 84 11).toNat) 9) c e) rfl ?_
        refine RuP.step (pc' := 760) (ls' := [some (.inr (.inr (some 84))), some (.inl l1), some (.inl l2), some (.inl z3), some (.inl t0)]) (st' := [.inl 1, .inl l1]) (h1 := hp L (ax_u2 s 88 ((s 84 11).toNat) 9) c e) rfl ?_
        refine RuP.step (pc' := 761) (ls' := [some (.inr (.inr (some 84))), some (.inl l1), some (.inl l2), some (.inl z3), some (.inl t0)]) (st' := [.inl (ax_w32 (l1 + 1))]) (h1 := hp L (ax_u2 s 88 ((s 84 11).toNat) 9) c e) rfl ?_
        cases h
        exact RuP.dI rfl
      exact RuP.sw (i := .tableswitch (649) (38) (126) #[579, 649, 425, 439, 565, 537, 383, 551, 397, 649, 649, 649, 649, 649, 649, 649, 649, 649, 649, 649, 509, 369, 635, 411, 649, 523, 649, 649, 649, 649, 649, 649, 649, 649, 649, 649, 649, 649, 649, 649, 649, 649, 649, 649, 649, 649, 649, 649, 649, 649, 649, 649, 649, 481, 649, 495, 607, 649, 649, 649, 649, 649, 649, 649, 649, 649, 649, 649, 649, 649, 649, 649, 649, 649, 649, 649, 649, 649, 649, 649, 649, 649, 649, 649, 649, 453, 593, 467, 621]) rfl h15 rfl J16
    rw [if_neg h15] at h
    by_cases h17 : l2 = 58
    · rw [if_pos h17] at h
      have J18 : RuP 1 tb_m230 612 [some (.inr (.inr (some 84))), some (.inl l1), some (.inl l2), some (.inl z3), some (.inl t0)] [] (hp L s c e) (oI L c e q) := by
        refine RuP.step (pc' := 613) (ls' := [some (.inr (.inr (some 84))), some (.inl l1), some (.inl l2), some (.inl z3), some (.inl t0)]) (st' := [.inr (.inr (some 84))]) (h1 := hp L s c e) rfl ?_
        refine RuP.step (pc' := 616) (ls' := [some (.inr (.inr (some 84))), some (.inl l1), some (.inl l2), some (.inl z3), some (.inl t0)]) (st' := [.inr (.inr (some 88))]) (h1 := hp L s c e) rfl ?_
        refine RuP.step (pc' := 617) (ls' := [some (.inr (.inr (some 84))), some (.inl l1), some (.inl l2), some (.inl z3), some (.inl t0)]) (st' := [.inr (.inr (some 84)), .inr (.inr (some 88))]) (h1 := hp L s c e) rfl ?_
        refine RuP.step (pc' := 620) (ls' := [some (.inr (.inr (some 84))), some (.inl l1), some (.inl l2), some (.inl z3), some (.inl t0)]) (st' := [.inl (s 84 11), .inr (.inr (some 88))]) (h1 := hp L s c e) rfl ?_
        refine RuP.step (pc' := 622) (ls' := [some (.inr (.inr (some 84))), some (.inl l1), some (.inl l2), some (.inl z3), some (.inl t0)]) (st' := [.inl 17, .inl (s 84 11), .inr (.inr (some 88))]) (h1 := hp L s c e) rfl ?_
        obtain ⟨b18, h⟩ := gd_some h
        refine RuP.ast (f := fun t => t == 0) (j := s 84 11) (a := 88) rfl rfl (by decide) rfl rfl b18.1 b18.2 ?_
        refine RuP.step (pc' := 758) (ls' := [some (.inr (.inr (some 84))), some (.inl l1), some (.inl l2), some (.inl z3), some (.inl t0)]) (st' := []) (h1 := hp L (ax_u2 s 88 ((s 84 11).toNat) 17) c e) rfl ?_
        refine RuP.step (pc' := 759) (ls' := [some (.inr (.inr (some 84))), some (.inl l1), some (.inl l2), some (.inl z3), some (.inl t0)]) (st' := [.inl l1]) (h1 := hp L (ax_u2 s 88 ((s 84 11).toNat) 17) c e) rfl ?_
        refine RuP.step (pc' := 760) (ls' := [some (.inr (.inr (some 84))), some (.inl l1), some (.inl l2), some (.inl z3), some (.inl t0)]) (st' := [.inl 1, .inl l1]) (h1 := hp L (ax_u2 s 88 ((s 84 11).toNat) 17) c e) rfl ?_
        refine RuP.step (pc' := 761) (ls' := [some (.inr (.inr (some 84))), some (.inl l1), some (.inl l2), some (.inl z3), some (.inl t0)]) (st' := [.inl (ax_w32 (l1 + 1))]) (h1 := hp L (ax_u2 s 88 ((s 84 11).toNat) 17) c e) rfl ?_
        cases h
        exact RuP.dI rfl
      exact RuP.sw (i := .tableswitch (649) (38) (126) #[579, 649, 425, 439, 565, 537, 383, 551, 397, 649, 649, 649, 649, 649, 649, 649, 649, 649, 649, 649, 509, 369, 635, 411, 649, 523, 649, 649, 649, 649, 649, 649, 649, 649, 649, 649, 649, 649, 649, 649, 649, 649, 649, 649, 649, 649, 649, 649, 649, 649, 649, 649, 649, 481, 649, 495, 607, 649, 649, 649, 649, 649, 649, 649, 649, 649, 649, 649, 649, 649, 649, 649, 649, 649, 649, 649, 649, 649, 649, 649, 649, 649, 649, 649, 649, 453, 593, 467, 621]) rfl h17 rfl J18
    rw [if_neg h17] at h
    by_cases h19 : l2 = 59
    · rw [if_pos h19] at h
      have J20 : RuP 1 tb_m230 472 [some (.inr (.inr (some 84))), some (.inl l1), some (.inl l2), some (.inl z3), some (.inl t0)] [] (hp L s c e) (oI L c e q) := by
        refine RuP.step (pc' := 473) (ls' := [some (.inr (.inr (some 84))), some (.inl l1), some (.inl l2), some (.inl z3), some (.inl t0)]) (st' := [.inr (.inr (some 84))]) (h1 := hp L s c e) rfl ?_
        refine RuP.step (pc' := 476) (ls' := [some (.inr (.inr (some 84))), some (.inl l1), some (.inl l2), some (.inl z3), some (.inl t0)]) (st' := [.inr (.inr (some 88))]) (h1 := hp L s c e) rfl ?_
        refine RuP.step (pc' := 477) (ls' := [some (.inr (.inr (some 84))), some (.inl l1), some (.inl l2), some (.inl z3), some (.inl t0)]) (st' := [.inr (.inr (some 84)), .inr (.inr (some 88))]) (h1 := hp L s c e) rfl ?_
        refine RuP.step (pc' := 480) (ls' := [some (.inr (.inr (some 84))), some (.inl l1), some (.inl l2), some (.inl z3), some (.inl t0)]) (st' := [.inl (s 84 11), .inr (.inr (some 88))]) (h1 := hp L s c e) rfl ?_
        refine RuP.step (pc' := 482) (ls' := [some (.inr (.inr (some 84))), some (.inl l1), some (.inl l2), some (.inl z3), some (.inl t0)]) (st' := [.inl 7, .inl (s 84 11), .inr (.inr (some 88))]) (h1 := hp L s c e) rfl ?_
        obtain ⟨b20, h⟩ := gd_some h
        refine RuP.ast (f := fun t => t == 0) (j := s 84 11) (a := 88) rfl rfl (by decide) rfl rfl b20.1 b20.2 ?_
        refine RuP.step (pc' := 758) (ls' := [some (.inr (.inr (some 84))), some (.inl l1), some (.inl l2), some (.inl z3), some (.inl t0)]) (st' := []) (h1 := hp L (ax_u2 s 88 ((s 84 11).toNat) 7) c e) rfl ?_
        refine RuP.step (pc' := 759) (ls' := [some (.inr (.inr (some 84))), some (.inl l1), some (.inl l2), some (.inl z3), some (.inl t0)]) (st' := [.inl l1]) (h1 := hp L (ax_u2 s 88 ((s 84 11).toNat) 7) c e) rfl ?_
        refine RuP.step (pc' := 760) (ls' := [some (.inr (.inr (some 84))), some (.inl l1), some (.inl l2), some (.inl z3), some (.inl t0)]) (st' := [.inl 1, .inl l1]) (h1 := hp L (ax_u2 s 88 ((s 84 11).toNat) 7) c e) rfl ?_
        refine RuP.step (pc' := 761) (ls' := [some (.inr (.inr (some 84))), some (.inl l1), some (.inl l2), some (.inl z3), some (.inl t0)]) (st' := [.inl (ax_w32 (l1 + 1))]) (h1 := hp L (ax_u2 s 88 ((s 84 11).toNat) 7) c e) rfl ?_
        cases h
        exact RuP.dI rfl
      exact RuP.sw (i := .tableswitch (649) (38) (126) #[579, 649, 425, 439, 565, 537, 383, 551, 397, 649, 649, 649, 649, 649, 649, 649, 649, 649, 649, 649, 509, 369, 635, 411, 649, 523, 649, 649, 649, 649, 649, 649, 649, 649, 649, 649, 649, 649, 649, 649, 649, 649, 649, 649, 649, 649, 649, 649, 649, 649, 649, 649, 649, 481, 649, 495, 607, 649, 649, 649, 649, 649, 649, 649, 649, 649, 649, 649, 649, 649, 649, 649, 649, 649, 649, 649, 649, 649, 649, 649, 649, 649, 649, 649, 649, 453, 593, 467, 621]) rfl h19 rfl J20
    rw [if_neg h19] at h
    by_cases h21 : l2 = 60
    · rw [if_pos h21] at h
      have J22 : RuP 1 tb_m230 738 [some (.inr (.inr (some 84))), some (.inl l1), some (.inl l2), some (.inl z3), some (.inl t0)] [] (hp L s c e) (oI L c e q) := by
        refine RuP.step (pc' := 739) (ls' := [some (.inr (.inr (some 84))), some (.inl l1), some (.inl l2), some (.inl z3), some (.inl t0)]) (st' := [.inr (.inr (some 84))]) (h1 := hp L s c e) rfl ?_
        refine RuP.step (pc' := 742) (ls' := [some (.inr (.inr (some 84))), some (.inl l1), some (.inl l2), some (.inl z3), some (.inl t0)]) (st' := [.inr (.inr (some 88))]) (h1 := hp L s c e) rfl ?_
        refine RuP.step (pc' := 743) (ls' := [some (.inr (.inr (some 84))), some (.inl l1), some (.inl l2), some (.inl z3), some (.inl t0)]) (st' := [.inr (.inr (some 84)), .inr (.inr (some 88))]) (h1 := hp L s c e) rfl ?_
        refine RuP.step (pc' := 746) (ls' := [some (.inr (.inr (some 84))), some (.inl l1), some (.inl l2), some (.inl z3), some (.inl t0)]) (st' := [.inl (s 84 11), .inr (.inr (some 88))]) (h1 := hp L s c e) rfl ?_
        refine RuP.step (pc' := 748) (ls' := [some (.inr (.inr (some 84))), some (.inl l1), some (.inl l2), some (.inl z3), some (.inl t0)]) (st' := [.inl 26, .inl (s 84 11), .inr (.inr (some 88))]) (h1 := hp L s c e) rfl ?_
        obtain ⟨b22, h⟩ := gd_some h
        refine RuP.ast (f := fun t => t == 0) (j := s 84 11) (a := 88) rfl rfl (by decide) rfl rfl b22.1 b22.2 ?_
        refine RuP.step (pc' := 758) (ls' := [some (.inr (.inr (some 84))), some (.inl l1), some (.inl l2), some (.inl z3), some (.inl t0)]) (st' := []) (h1 := hp L (ax_u2 s 88 ((s 84 11).toNat) 26) c e) rfl ?_
        refine RuP.step (pc' := 759) (ls' := [some (.inr (.inr (some 84))), some (.inl l1), some (.inl l2), some (.inl z3), some (.inl t0)]) (st' := [.inl l1]) (h1 := hp L (ax_u2 s 88 ((s 84 11).toNat) 26) c e) rfl ?_
        refine RuP.step (pc' := 760) (ls' := [some (.inr (.inr (some 84))), some (.inl l1), some (.inl l2), some (.inl z3), some (.inl t0)]) (st' := [.inl 1, .inl l1]) (h1 := hp L (ax_u2 s 88 ((s 84 11).toNat) 26) c e) rfl ?_
        refine RuP.step (pc' := 761) (ls' := [some (.inr (.inr (some 84))), some (.inl l1), some (.inl l2), some (.inl z3), some (.inl t0)]) (st' := [.inl (ax_w32 (l1 + 1))]) (h1 := hp L (ax_u2 s 88 ((s 84 11).toNat) 26) c e) rfl ?_
        cases h
        exact RuP.dI rfl
      exact RuP.sw (i := .tableswitch (649) (38) (126) #[579, 649, 425, 439, 565, 537, 383, 551, 397, 649, 649, 649, 649, 649, 649, 649, 649, 649, 649, 649, 509, 369, 635, 411, 649, 523, 649, 649, 649, 649, 649, 649, 649, 649, 649, 649, 649, 649, 649, 649, 649, 649, 649, 649, 649, 649, 649, 649, 649, 649, 649, 649, 649, 481, 649, 495, 607, 649, 649, 649, 649, 649, 649, 649, 649, 649, 649, 649, 649, 649, 649, 649, 649, 649, 649, 649, 649, 649, 649, 649, 649, 649, 649, 649, 649, 453, 593, 467, 621]) rfl h21 rfl J22
    rw [if_neg h21] at h
    by_cases h23 : l2 = 61
    · rw [if_pos h23] at h
      have J24 : RuP 1 tb_m230 514 [some (.inr (.inr (some 84))), some (.inl l1), some (.inl l2), some (.inl z3), some (.inl t0)] [] (hp L s c e) (oI L c e q) := by
        refine RuP.step (pc' := 515) (ls' := [some (.inr (.inr (some 84))), some (.inl l1), some (.inl l2), some (.inl z3), some (.inl t0)]) (st' := [.inr (.inr (some 84))]) (h1 := hp L s c e) rfl ?_
        refine RuP.step (pc' := 518) (ls' := [some (.inr (.inr (some 84))), some (.inl l1), some (.inl l2), some (.inl z3), some (.inl t0)]) (st' := [.inr (.inr (some 88))]) (h1 := hp L s c e) rfl ?_
        refine RuP.step (pc' := 519) (ls' := [some (.inr (.inr (some 84))), some (.inl l1), some (.inl l2), some (.inl z3), some (.inl t0)]) (st' := [.inr (.inr (some 84)), .inr (.inr (some 88))]) (h1 := hp L s c e) rfl ?_
        refine RuP.step (pc' := 522) (ls' := [some (.inr (.inr (some 84))), some (.inl l1), some (.inl l2), some (.inl z3), some (.inl t0)]) (st' := [.inl (s 84 11), .inr (.inr (some 88))]) (h1 := hp L s c e) rfl ?_
        refine RuP.step (pc' := 524) (ls' := [some (.inr (.inr (some 84))), some (.inl l1), some (.inl l2), some (.inl z3), some (.inl t0)]) (st' := [.inl 10, .inl (s 84 11), .inr (.inr (some 88))]) (h1 := hp L s c e) rfl ?_
        obtain ⟨b24, h⟩ := gd_some h
        refine RuP.ast (f := fun t => t == 0) (j := s 84 11) (a := 88) rfl rfl (by decide) rfl rfl b24.1 b24.2 ?_
        refine RuP.step (pc' := 758) (ls' := [some (.inr (.inr (some 84))), some (.inl l1), some (.inl l2), some (.inl z3), some (.inl t0)]) (st' := []) (h1 := hp L (ax_u2 s 88 ((s 84 11).toNat) 10) c e) rfl ?_
        refine RuP.step (pc' := 759) (ls' := [some (.inr (.inr (some 84))), some (.inl l1), some (.inl l2), some (.inl z3), some (.inl t0)]) (st' := [.inl l1]) (h1 := hp L (ax_u2 s 88 ((s 84 11).toNat) 10) c e) rfl ?_
        refine RuP.step (pc' := 760) (ls' := [some (.inr (.inr (some 84))), some (.inl l1), some (.inl l2), some (.inl z3), some (.inl t0)]) (st' := [.inl 1, .inl l1]) (h1 := hp L (ax_u2 s 88 ((s 84 11).toNat) 10) c e) rfl ?_
        refine RuP.step (pc' := 761) (ls' := [some (.inr (.inr (some 84))), some (.inl l1), some (.inl l2), some (.inl z3), some (.inl t0)]) (st' := [.inl (ax_w32 (l1 + 1))]) (h1 := hp L (ax_u2 s 88 ((s 84 11).toNat) 10) c e) rfl ?_
        cases h
        exact RuP.dI rfl
      exact RuP.sw (i := .tableswitch (649) (38) (126) #[579, 649, 425, 439, 565, 537, 383, 551, 397, 649, 649, 649, 649, 649, 649, 649, 649, 649, 649, 649, 509, 369, 635, 411, 649, 523, 649, 649, 649, 649, 649, 649, 649, 649, 649, 649, 649, 649, 649, 649, 649, 649, 649, 649, 649, 649, 649, 649, 649, 649, 649, 649, 649, 481, 649, 495, 607, 649, 649, 649, 649, 649, 649, 649, 649, 649, 649, 649, 649, 649, 649, 649, 649, 649, 649, 649, 649, 649, 649, 649, 649, 649, 649, 649, 649, 453, 593, 467, 621]) rfl h23 rfl J24
    rw [if_neg h23] at h
    by_cases h25 : l2 = 63
    · rw [if_pos h25] at h
      have J26 : RuP 1 tb_m230 626 [some (.inr (.inr (some 84))), some (.inl l1), some (.inl l2), some (.inl z3), some (.inl t0)] [] (hp L s c e) (oI L c e q) := by
        refine RuP.step (pc' := 627) (ls' := [some (.inr (.inr (some 84))), some (.inl l1), some (.inl l2), some (.inl z3), some (.inl t0)]) (st' := [.inr (.inr (some 84))]) (h1 := hp L s c e) rfl ?_
        refine RuP.step (pc' := 630) (ls' := [some (.inr (.inr (some 84))), some (.inl l1), some (.inl l2), some (.inl z3), some (.inl t0)]) (st' := [.inr (.inr (some 88))]) (h1 := hp L s c e) rfl ?_
        refine RuP.step (pc' := 631) (ls' := [some (.inr (.inr (some 84))), some (.inl l1), some (.inl l2), some (.inl z3), some (.inl t0)]) (st' := [.inr (.inr (some 84)), .inr (.inr (some 88))]) (h1 := hp L s c e) rfl ?_
        refine RuP.step (pc' := 634) (ls' := [some (.inr (.inr (some 84))), some (.inl l1), some (.inl l2), some (.inl z3), some (.inl t0)]) (st' := [.inl (s 84 11), .inr (.inr (some 88))]) (h1 := hp L s c e) rfl ?_
        refine RuP.step (pc' := 636) (ls' := [some (.inr (.inr (some 84))), some (.inl l1), some (.inl l2), some (.inl z3), some (.inl t0)]) (st' := [.inl 18, .inl (s 84 11), .inr (.inr (some 88))]) (h1 := hp L s c e) rfl ?_
        obtain ⟨b26, h⟩ := gd_some h
        refine RuP.ast (f := fun t => t == 0) (j := s 84 11) (a := 88) rfl rfl (by decide) rfl rfl b26.1 b26.2 ?_
        refine RuP.step (pc' := 758) (ls' := [some (.inr (.inr (some 84))), some (.inl l1), some (.inl l2), some (.inl z3), some (.inl t0)]) (st' := []) (h1 := hp L (ax_u2 s 88 ((s 84 11).toNat) 18) c e) rfl ?_
        refine RuP.step (pc' := 759) (ls' := [some (.inr (.inr (some 84))), some (.inl l1), some (.inl l2), some (.inl z3), some (.inl t0)]) (st' := [.inl l1]) (h1 := hp L (ax_u2 s 88 ((s 84 11).toNat) 18) c e) rfl ?_
        refine RuP.step (pc' := 760) (ls' := [some (.inr (.inr (some 84))), some (.inl l1), some (.inl l2), some (.inl z3), some (.inl t0)]) (st' := [.inl 1, .inl l1]) (h1 := hp L (ax_u2 s 88 ((s 84 11).toNat) 18) c e) rfl ?_
        refine RuP.step (pc' := 761) (ls' := [some (.inr (.inr (some 84))), some (.inl l1), some (.inl l2), some (.inl z3), some (.inl t0)]) (st' := [.inl (ax_w32 (l1 + 1))]) (h1 := hp L (ax_u2 s 88 ((s 84 11).toNat) 18) c e) rfl ?_
        cases h
        exact RuP.dI rfl
      exact RuP.sw (i := .tableswitch (649) (38) (126) #[579, 649, 425, 439, 565, 537, 383, 551, 397, 649, 649, 649, 649, 649, 649, 649, 649, 649, 649, 649, 509, 369, 635, 411, 649, 523, 649, 649, 649, 649, 649, 649, 649, 649, 649, 649, 649, 649, 649, 649, 649, 649, 649, 649, 649, 649, 649, 649, 649, 649, 649, 649, 649, 481, 649, 495, 607, 649, 649, 649, 649, 649, 649, 649, 649, 649, 649, 649, 649, 649, 649, 649, 649, 649, 649, 649, 649, 649, 649, 649, 649, 649, 649, 649, 649, 453, 593, 467, 621]) rfl h25 rfl J26
    rw [if_neg h25] at h
    by_cases h27 : l2 = 91
    · rw [if_pos h27] at h
      have J28 : RuP 1 tb_m230 584 [some (.inr (.inr (some 84))), some (.inl l1), some (.inl l2), some (.inl z3), some (.inl t0)] [] (hp L s c e) (oI L c e q) := by
        refine RuP.step (pc' := 585) (ls' := [some (.inr (.inr (some 84))), some (.inl l1), some (.inl l2), some (.inl z3), some (.inl t0)]) (st' := [.inr (.inr (some 84))]) (h1 := hp L s c e) rfl ?_
        refine RuP.step (pc' := 588) (ls' := [some (.inr (.inr (some 84))), some (.inl l1), some (.inl l2), some (.inl z3), some (.inl t0)]) (st' := [.inr (.inr (some 88))]) (h1 := hp L s c e) rfl ?_
        refine RuP.step (pc' := 589) (ls' := [some (.inr (.inr (some 84))), some (.inl l1), some (.inl l2), some (.inl z3), some (.inl t0)]) (st' := [.inr (.inr (some 84)), .inr (.inr (some 88))]) (h1 := hp L s c e) rfl ?_
        refine RuP.step (pc' := 592) (ls' := [some (.inr (.inr (some 84))), some (.inl l1), some (.inl l2), some (.inl z3), some (.inl t0)]) (st' := [.inl (s 84 11), .inr (.inr (some 88))]) (h1 := hp L s c e) rfl ?_
        refine RuP.step (pc' := 594) (ls' := [some (.inr (.inr (some 84))), some (.inl l1), some (.inl l2), some (.inl z3), some (.inl t0)]) (st' := [.inl 15, .inl (s 84 11), .inr (.inr (some 88))]) (h1 := hp L s c e) rfl ?_
        obtain ⟨b28, h⟩ := gd_some h
        refine RuP.ast (f := fun t => t == 0) (j := s 84 11) (a := 88) rfl rfl (by decide) rfl rfl b28.1 b28.2 ?_
        refine RuP.step (pc' := 758) (ls' := [some (.inr (.inr (some 84))), some (.inl l1), some (.inl l2), some (.inl z3), some (.inl t0)]) (st' := []) (h1 := hp L (ax_u2 s 88 ((s 84 11).toNat) 15) c e) rfl ?_
        refine RuP.step (pc' := 759) (ls' := [some (.inr (.inr (some 84))), some (.inl l1), some (.inl l2), some (.inl z3), some (.inl t0)]) (st' := [.inl l1]) (h1 := hp L (ax_u2 s 88 ((s 84 11).toNat) 15) c e) rfl ?_
        refine RuP.step (pc' := 760) (ls' := [some (.inr (.inr (some 84))), some (.inl l1), some (.inl l2), some (.inl z3), some (.inl t0)]) (st' := [.inl 1, .inl l1]) (h1 := hp L (ax_u2 s 88 ((s 84 11).toNat) 15) c e) rfl ?_
        refine RuP.step (pc' := 761) (ls' := [some (.inr (.inr (some 84))), some (.inl l1), some (.inl l2), some (.inl z3), some (.inl t0)]) (st' := [.inl (ax_w32 (l1 + 1))]) (h1 := hp L (ax_u2 s 88 ((s 84 11).toNat) 15) c e) rfl ?_
        cases h
        exact RuP.dI rfl
      exact RuP.sw (i := .tableswitch (649) (38) (126) #[579, 649, 425, 439, 565, 537, 383, 551, 397, 649, 649, 649, 649, 649, 649, 649, 649, 649, 649, 649, 509, 369, 635, 411, 649, 523, 649, 649, 649, 649, 649, 649, 649, 649, 649, 649, 649, 649, 649, 649, 649, 649, 649, 649, 649, 649, 649, 649, 649, 649, 649, 649, 649, 481, 649, 495, 607, 649, 649, 649, 649, 649, 649, 649, 649, 649, 649, 649, 649, 649, 649, 649, 649, 649, 649, 649, 649, 649, 649, 649, 649, 649, 649, 649, 649, 453, 593, 467, 621]) rfl h27 rfl J28
    rw [if_neg h27] at h
    by_cases h29 : l2 = 93
    · rw [if_pos h29] at h
      have J30 : RuP 1 tb_m230 598 [some (.inr (.inr (some 84))), some (.inl l1), some (.inl l2), some (.inl z3), some (.inl t0)] [] (hp L s c e) (oI L c e q) := by
        refine RuP.step (pc' := 599) (ls' := [some (.inr (.inr (some 84))), some (.inl l1), some (.inl l2), some (.inl z3), some (.inl t0)]) (st' := [.inr (.inr (some 84))]) (h1 := hp L s c e) rfl ?_
        refine RuP.step (pc' := 602) (ls' := [some (.inr (.inr (some 84))), some (.inl l1), some (.inl l2), some (.inl z3), some (.inl t0)]) (st' := [.inr (.inr (some 88))]) (h1 := hp L s c e) rfl ?_
        refine RuP.step (pc' := 603) (ls' := [some (.inr (.inr (some 84))), some (.inl l1), some (.inl l2), some (.inl z3), some (.inl t0)]) (st' := [.inr (.inr (some 84)), .inr (.inr (some 88))]) (h1 := hp L s c e) rfl ?_
        refine RuP.step (pc' := 606) (ls' := [some (.inr (.inr (some 84))), some (.inl l1), some (.inl l2), some (.inl z3), some (.inl t0)]) (st' := [.inl (s 84 11), .inr (.inr (some 88))]) (h1 := hp L s c e) rfl ?_
        refine RuP.step (pc' := 608) (ls' := [some (.inr (.inr (some 84))), some (.inl l1), some (.inl l2), some (.inl z3), some (.inl t0)]) (st' := [.inl 16, .inl (s 84 11), .inr (.inr (some 88))]) (h1 := hp L s c e) rfl ?_
        obtain ⟨b30, h⟩ := gd_some h
        refine RuP.ast (f := fun t => t == 0) (j := s 84 11) (a := 88) rfl rfl (by decide) rfl rfl b30.1 b30.2 ?_
        refine RuP.step (pc' := 758) (ls' := [some (.inr (.inr (some 84))), some (.inl l1), some (.inl l2), some (.inl z3), some (.inl t0)]) (st' := []) (h1 := hp L (ax_u2 s 88 ((s 84 11).toNat) 16) c e) rfl ?_
        refine RuP.step (pc' := 759) (ls' := [some (.inr (.inr (some 84))), some (.inl l1), some (.inl l2), some (.inl z3), some (.inl t0)]) (st' := [.inl l1]) (h1 := hp L (ax_u2 s 88 ((s 84 11).toNat) 16) c e) rfl ?_
        refine RuP.step (pc' := 760) (ls' := [some (.inr (.inr (some 84))), some (.inl l1), some (.inl l2), some (.inl z3), some (.inl t0)]) (st' := [.inl 1, .inl l1]) (h1 := hp L (ax_u2 s 88 ((s 84 11).toNat) 16) c e) rfl ?_
        refine RuP.step (pc' := 761) (ls' := [some (.inr (.inr (some 84))), some (.inl l1), some (.inl l2), some (.inl z3), some (.inl t0)]) (st' := [.inl (ax_w32 (l1 + 1))]) (h1 := hp L (ax_u2 s 88 ((s 84 11).toNat) 16) c e) rfl ?_
        cases h
        exact RuP.dI rfl
      exact RuP.sw (i := .tableswitch (649) (38) (126) #[579, 649, 425, 439, 565, 537, 383, 551, 397, 649, 649, 649, 649, 649, 649, 649, 649, 649, 649, 649, 509, 369, 635, 411, 649, 523, 649, 649, 649, 649, 649, 649, 649, 649, 649, 649, 649, 649, 649, 649, 649, 649, 649, 649, 649, 649, 649, 649, 649, 649, 649, 649, 649, 481, 649, 495, 607, 649, 649, 649, 649, 649, 649, 649, 649, 649, 649, 649, 649, 649, 649, 649, 649, 649, 649, 649, 649, 649, 649, 649, 649, 649, 649, 649, 649, 453, 593, 467, 621]) rfl h29 rfl J30
    rw [if_neg h29] at h
    by_cases h31 : l2 = 94
    · rw [if_pos h31] at h
      have J32 : RuP 1 tb_m230 710 [some (.inr (.inr (some 84))), some (.inl l1), some (.inl l2), some (.inl z3), some (.inl t0)] [] (hp L s c e) (oI L c e q) := by
        refine RuP.step (pc' := 711) (ls' := [some (.inr (.inr (some 84))), some (.inl l1), some (.inl l2), some (.inl z3), some (.inl t0)]) (st' := [.inr (.inr (some 84))]) (h1 := hp L s c e) rfl ?_
        refine RuP.step (pc' := 714) (ls' := [some (.inr (.inr (some 84))), some (.inl l1), some (.inl l2), some (.inl z3), some (.inl t0)]) (st' := [.inr (.inr (some 88))]) (h1 := hp L s c e) rfl ?_
        refine RuP.step (pc' := 715) (ls' := [some (.inr (.inr (some 84))), some (.inl l1), some (.inl l2), some (.inl z3), some (.inl t0)]) (st' := [.inr (.inr (some 84)), .inr (.inr (some 88))]) (h1 := hp L s c e) rfl ?_
        refine RuP.step (pc' := 718) (ls' := [some (.inr (.inr (some 84))), some (.inl l1), some (.inl l2), some (.inl z3), some (.inl t0)]) (st' := [.inl (s 84 11), .inr (.inr (some 88))]) (h1 := hp L s c e) rfl ?_
        refine RuP.step (pc' := 720) (ls' := [some (.inr (.inr (some 84))), some (.inl l1), some (.inl l2), some (.inl z3), some (.inl t0)]) (st' := [.inl 24, .inl (s 84 11), .inr (.inr (some 88))]) (h1 := hp L s c e) rfl ?_
        obtain ⟨b32, h⟩ := gd_some h
        refine RuP.ast (f := fun t => t == 0) (j := s 84 11) (a := 88) rfl rfl (by decide) rfl rfl b32.1 b32.2 ?_
        refine RuP.step (pc' := 758) (ls' := [some (.inr (.inr (some 84))), some (.inl l1), some (.inl l2), some (.inl z3), some (.inl t0)]) (st' := []) (h1 := hp L (ax_u2 s 88 ((s 84 11).toNat) 24) c e) rfl ?_
        refine RuP.step (pc' := 759) (ls' := [some (.inr (.inr (some 84))), some (.inl l1), some (.inl l2), some (.inl z3), some (.inl t0)]) (st' := [.inl l1]) (h1 := hp L (ax_u2 s 88 ((s 84 11).toNat) 24) c e) rfl ?_
        refine RuP.step (pc' := 760) (ls' := [some (.inr (.inr (some 84))), some (.inl l1), some (.inl l2), some (.inl z3), some (.inl t0)]) (st' := [.inl 1, .inl l1]) (h1 := hp L (ax_u2 s 88 ((s 84 11).toNat) 24) c e) rfl ?_
        refine RuP.step (pc' := 761) (ls' := [some (.inr (.inr (some 84))), some (.inl l1), some (.inl l2), some (.inl z3), some (.inl t0)]) (st' := [.inl (ax_w32 (l1 + 1))]) (h1 := hp L (ax_u2 s 88 ((s 84 11).toNat) 24) c e) rfl ?_
        cases h
        exact RuP.dI rfl
      exact RuP.sw (i := .tableswitch (649) (38) (126) #[579, 649, 425, 439, 565, 537, 383, 551, 397, 649, 649, 649, 649, 649, 649, 649, 649, 649, 649, 649, 509, 369, 635, 411, 649, 523, 649, 649, 649, 649, 649, 649, 649, 649, 649, 649, 649, 649, 649, 649, 649, 649, 649, 649, 649, 649, 649, 649, 649, 649, 649, 649, 649, 481, 649, 495, 607, 649, 649, 649, 649, 649, 649, 649, 649, 649, 649, 649, 649, 649, 649, 649, 649, 649, 649, 649, 649, 649, 649, 649, 649, 649, 649, 649, 649, 453, 593, 467, 621]) rfl h31 rfl J32
    rw [if_neg h31] at h
    by_cases h33 : l2 = 123
    · rw [if_pos h33] at h
      have J34 : RuP 1 tb_m230 556 [some (.inr (.inr (some 84))), some (.inl l1), some (.inl l2), some (.inl z3), some (.inl t0)] [] (hp L s c e) (oI L c e q) := by
        refine RuP.step (pc' := 557) (ls' := [some (.inr (.inr (some 84))), some (.inl l1), some (.inl l2), some (.inl z3), some (.inl t0)]) (st' := [.inr (.inr (some 84))]) (h1 := hp L s c e) rfl ?_
        refine RuP.step (pc' := 560) (ls' := [some (.inr (.inr (some 84))), some (.inl l1), some (.inl l2), some (.inl z3), some (.inl t0)]) (st' := [.inr (.inr (some 88))]) (h1 := hp L s c e) rfl ?_
        refine RuP.step (pc' := 561) (ls' := [some (.inr (.inr (some 84))), some (.inl l1), some (.inl l2), some (.inl z3), some (.inl t0)]) (st' := [.inr (.inr (some 84)), .inr (.inr (some 88))]) (h1 := hp L s c e) rfl ?_
        refine RuP.step (pc' := 564) (ls' := [some (.inr (.inr (some 84))), some (.inl l1), some (.inl l2), some (.inl z3), some (.inl t0)]) (st' := [.inl (s 84 11), .inr (.inr (some 88))]) (h1 := hp L s c e) rfl ?_
        refine RuP.step (pc' := 566) (ls' := [some (.inr (.inr (some 84))), some (.inl l1), some (.inl l2), some (.inl z3), some (.inl t0)]) (st' := [.inl 13, .inl (s 84 11), .inr (.inr (some 88))]) (h1 := hp L s c e) rfl ?_
        obtain ⟨b34, h⟩ := gd_some h
        refine RuP.ast (f := fun t => t == 0) (j := s 84 11) (a := 88) rfl rfl (by decide) rfl rfl b34.1 b34.2 ?_
        refine RuP.step (pc' := 758) (ls' := [some (.inr (.inr (some 84))), some (.inl l1), some (.inl l2), some (.inl z3), some (.inl t0)]) (st' := []) (h1 := hp L (ax_u2 s 88 ((s 84 11).toNat) 13) c e) rfl ?_
        refine RuP.step (pc' := 759) (ls' := [some (.inr (.inr (some 84))), some (.inl l1), some (.inl l2), some (.inl z3), some (.inl t0)]) (st' := [.inl l1]) (h1 := hp L (ax_u2 s 88 ((s 84 11).toNat) 13) c e) rfl ?_
        refine RuP.step (pc' := 760) (ls' := [some (.inr (.inr (some 84))), some (.inl l1), some (.inl l2), some (.inl z3), some (.inl t0)]) (st' := [.inl 1, .inl l1]) (h1 := hp L (ax_u2 s 88 ((s 84 11).toNat) 13) c e) rfl ?_
        refine RuP.step (pc' := 761) (ls' := [some (.inr (.inr (some 84))), some (.inl l1), some (.inl l2), some (.inl z3), some (.inl t0)]) (st' := [.inl (ax_w32 (l1 + 1))]) (h1 := hp L (ax_u2 s 88 ((s 84 11).toNat) 13) c e) rfl ?_
        cases h
        exact RuP.dI rfl
      exact RuP.sw (i := .tableswitch (649) (38) (126) #[579, 649, 425, 439, 565, 537, 383, 551, 397, 649, 649, 649, 649, 649, 649, 649, 649, 649, 649, 649, 509, 369, 635, 411, 649, 523, 649, 649, 649, 649, 649, 649, 649, 649, 649, 649, 649, 649, 649, 649, 649, 649, 649, 649, 649, 649, 649, 649, 649, 649, 649, 649, 649, 481, 649, 495, 607, 649, 649, 649, 649, 649, 649, 649, 649, 649, 649, 649, 649, 649, 649, 649, 649, 649, 649, 649, 649, 649, 649, 649, 649, 649, 649, 649, 649, 453, 593, 467, 621]) rfl h33 rfl J34
    rw [if_neg h33] at h
    by_cases h35 : l2 = 124
    · rw [if_pos h35] at h
      have J36 : RuP 1 tb_m230 696 [some (.inr (.inr (some 84))), some (.inl l1), some (.inl l2), some (.inl z3), some (.inl t0)] [] (hp L s c e) (oI L c e q) := by
        refine RuP.step (pc' := 697) (ls' := [some (.inr (.inr (some 84))), some (.inl l1), some (.inl l2), some (.inl z3), some (.inl t0)]) (st' := [.inr (.inr (some 84))]) (h1 := hp L s c e) rfl ?_
        refine RuP.step (pc' := 700) (ls' := [some (.inr (.inr (some 84))), some (.inl l1), some (.inl l2), some (.inl z3), some (.inl t0)]) (st' := [.inr (.inr (some 88))]) (h1 := hp L s c e) rfl ?_
        refine RuP.step (pc' := 701) (ls' := [some (.inr (.inr (some 84))), some (.inl l1), some (.inl l2), some (.inl z3), some (.inl t0)]) (st' := [.inr (.inr (some 84)), .inr (.inr (some 88))]) (h1 := hp L s c e) rfl ?_
        refine RuP.step (pc' := 704) (ls' := [some (.inr (.inr (some 84))), some (.inl l1), some (.inl l2), some (.inl z3), some (.inl t0)]) (st' := [.inl (s 84 11), .inr (.inr (some 88))]) (h1 := hp L s c e) rfl ?_
        refine RuP.step (pc' := 706) (ls' := [some (.inr (.inr (some 84))), some (.inl l1), some (.inl l2), some (.inl z3), some (.inl t0)]) (st' := [.inl 23, .inl (s 84 11), .inr (.inr (some 88))]) (h1 := hp L s c e) rfl ?_
        obtain ⟨b36, h⟩ := gd_some h
        refine RuP.ast (f := fun t => t == 0) (j := s 84 11) (a := 88) rfl rfl (by decide) rfl rfl b36.1 b36.2 ?_
        refine RuP.step (pc' := 758) (ls' := [some (.inr (.inr (some 84))), some (.inl l1), some (.inl l2), some (.inl z3), some (.inl t0)]) (st' := []) (h1 := hp L (ax_u2 s 88 ((s 84 11).toNat) 23) c e) rfl ?_
        refine RuP.step (pc' := 759) (ls' := [some (.inr (.inr (some 84))), some (.inl l1), some (.inl l2), some (.inl z3), some (.inl t0)]) (st' := [.inl l1]) (h1 := hp L (ax_u2 s 88 ((s 84 11).toNat) 23) c e) rfl ?_
        refine RuP.step (pc' := 760) (ls' := [some (.inr (.inr (some 84))), some (.inl l1), some (.inl l2), some (.inl z3), some (.inl t0)]) (st' := [.inl 1, .inl l1]) (h1 := hp L (ax_u2 s 88 ((s 84 11).toNat) 23) c e) rfl ?_
        refine RuP.step (pc' := 761) (ls' := [some (.inr (.inr (some 84))), some (.inl l1), some (.inl l2), some (.inl z3), some (.inl t0)]) (st' := [.inl (ax_w32 (l1 + 1))]) (h1 := hp L (ax_u2 s 88 ((s 84 11).toNat) 23) c e) rfl ?_
        cases h
        exact RuP.dI rfl
      exact RuP.sw (i := .tableswitch (649) (38) (126) #[579, 649, 425, 439, 565, 537, 383, 551, 397, 649, 649, 649, 649, 649, 649, 649, 649, 649, 649, 649, 509, 369, 635, 411, 649, 523, 649, 649, 649, 649, 649, 649, 649, 649, 649, 649, 649, 649, 649, 649, 649, 649, 649, 649, 649, 649, 649, 649, 649, 649, 649, 649, 649, 481, 649, 495, 607, 649, 649, 649, 649, 649, 649, 649, 649, 649, 649, 649, 649, 649, 649, 649, 649, 649, 649, 649, 649, 649, 649, 649, 649, 649, 649, 649, 649, 453, 593, 467, 621]) rfl h35 rfl J36
    rw [if_neg h35] at h
    by_cases h37 : l2 = 125
    · rw [if_pos h37] at h
      have J38 : RuP 1 tb_m230 570 [some (.inr (.inr (some 84))), some (.inl l1), some (.inl l2), some (.inl z3), some (.inl t0)] [] (hp L s c e) (oI L c e q) := by
        refine RuP.step (pc' := 571) (ls' := [some (.inr (.inr (some 84))), some (.inl l1), some (.inl l2), some (.inl z3), some (.inl t0)]) (st' := [.inr (.inr (some 84))]) (h1 := hp L s c e) rfl ?_
        refine RuP.step (pc' := 574) (ls' := [some (.inr (.inr (some 84))), some (.inl l1), some (.inl l2), some (.inl z3), some (.inl t0)]) (st' := [.inr (.inr (some 88))]) (h1 := hp L s c e) rfl ?_
        refine RuP.step (pc' := 575) (ls' := [some (.inr (.inr (some 84))), some (.inl l1), some (.inl l2), some (.inl z3), some (.inl t0)]) (st' := [.inr (.inr (some 84)), .inr (.inr (some 88))]) (h1 := hp L s c e) rfl ?_
        refine RuP.step (pc' := 578) (ls' := [some (.inr (.inr (some 84))), some (.inl l1), some (.inl l2), some (.inl z3), some (.inl t0)]) (st' := [.inl (s 84 11), .inr (.inr (some 88))]) (h1 := hp L s c e) rfl ?_
        refine RuP.step (pc' := 580) (ls' := [some (.inr (.inr (some 84))), some (.inl l1), some (.inl l2), some (.inl z3), some (.inl t0)]) (st' := [.inl 14, .inl (s 84 11), .inr (.inr (some 88))]) (h1 := hp L s c e) rfl ?_
        obtain ⟨b38, h⟩ := gd_some h
        refine RuP.ast (f := fun t => t == 0) (j := s 84 11) (a := 88) rfl rfl (by decide) rfl rfl b38.1 b38.2 ?_
        refine RuP.step (pc' := 758) (ls' := [some (.inr (.inr (some 84))), some (.inl l1), some (.inl l2), some (.inl z3), some (.inl t0)]) (st' := []) (h1 := hp L (ax_u2 s 88 ((s 84 11).toNat) 14) c e) rfl ?_
        refine RuP.step (pc' := 759) (ls' := [some (.inr (.inr (some 84))), some (.inl l1), some (.inl l2), some (.inl z3), some (.inl t0)]) (st' := [.inl l1]) (h1 := hp L (ax_u2 s 88 ((s 84 11).toNat) 14) c e) rfl ?_
        refine RuP.step (pc' := 760) (ls' := [some (.inr (.inr (some 84))), some (.inl l1), some (.inl l2), some (.inl z3), some (.inl t0)]) (st' := [.inl 1, .inl l1]) (h1 := hp L (ax_u2 s 88 ((s 84 11).toNat) 14) c e) rfl ?_
        refine RuP.step (pc' := 761) (ls' := [some (.inr (.inr (some 84))), some (.inl l1), some (.inl l2), some (.inl z3), some (.inl t0)]) (st' := [.inl (ax_w32 (l1 + 1))]) (h1 := hp L (ax_u2 s 88 ((s 84 11).toNat) 14) c e) rfl ?_
        cases h
        exact RuP.dI rfl
      exact RuP.sw (i := .tableswitch (649) (38) (126) #[579, 649, 425, 439, 565, 537, 383, 551, 397, 649, 649, 649, 649, 649, 649, 649, 649, 649, 649, 649, 509, 369, 635, 411, 649, 523, 649, 649, 649, 649, 649, 649, 649, 649, 649, 649, 649, 649, 649, 649, 649, 649, 649, 649, 649, 649, 649, 649, 649, 649, 649, 649, 649, 481, 649, 495, 607, 649, 649, 649, 649, 649, 649, 649, 649, 649, 649, 649, 649, 649, 649, 649, 649, 649, 649, 649, 649, 649, 649, 649, 649, 649, 649, 649, 649, 453, 593, 467, 621]) rfl h37 rfl J38
    rw [if_neg h37] at h
    by_cases h39 : l2 = 126
    · rw [if_pos h39] at h
      have J40 : RuP 1 tb_m230 724 [some (.inr (.inr (some 84))), some (.inl l1), some (.inl l2), some (.inl z3), some (.inl t0)] [] (hp L s c e) (oI L c e q) := by
        refine RuP.step (pc' := 725) (ls' := [some (.inr (.inr (some 84))), some (.inl l1), some (.inl l2), some (.inl z3), some (.inl t0)]) (st' := [.inr (.inr (some 84))]) (h1 := hp L s c e) rfl ?_
        refine RuP.step (pc' := 728) (ls' := [some (.inr (.inr (some 84))), some (.inl l1), some (.inl l2), some (.inl z3), some (.inl t0)]) (st' := [.inr (.inr (some 88))]) (h1 := hp L s c e) rfl ?_
        refine RuP.step (pc' := 729) (ls' := [some (.inr (.inr (some 84))), some (.inl l1), some (.inl l2), some (.inl z3), some (.inl t0)]) (st' := [.inr (.inr (some 84)), .inr (.inr (some 88))]) (h1 := hp L s c e) rfl ?_
        refine RuP.step (pc' := 732) (ls' := [some (.inr (.inr (some 84))), some (.inl l1), some (.inl l2), some (.inl z3), some (.inl t0)]) (st' := [.inl (s 84 11), .inr (.inr (some 88))]) (h1 := hp L s c e) rfl ?_
        refine RuP.step (pc' := 734) (ls' := [some (.inr (.inr (some 84))), some (.inl l1), some (.inl l2), some (.inl z3), some (.inl t0)]) (st' := [.inl 25, .inl (s 84 11), .inr (.inr (some 88))]) (h1 := hp L s c e) rfl ?_
        obtain ⟨b40, h⟩ := gd_some h
        refine RuP.ast (f := fun t => t == 0) (j := s 84 11) (a := 88) rfl rfl (by decide) rfl rfl b40.1 b40.2 ?_
        refine RuP.step (pc' := 758) (ls' := [some (.inr (.inr (some 84))), some (.inl l1), some (.inl l2), some (.inl z3), some (.inl t0)]) (st' := []) (h1 := hp L (ax_u2 s 88 ((s 84 11).toNat) 25) c e) rfl ?_
        refine RuP.step (pc' := 759) (ls' := [some (.inr (.inr (some 84))), some (.inl l1), some (.inl l2), some (.inl z3), some (.inl t0)]) (st' := [.inl l1]) (h1 := hp L (ax_u2 s 88 ((s 84 11).toNat) 25) c e) rfl ?_
        refine RuP.step (pc' := 760) (ls' := [some (.inr (.inr (some 84))), some (.inl l1), some (.inl l2), some (.inl z3), some (.inl t0)]) (st' := [.inl 1, .inl l1]) (h1 := hp L (ax_u2 s 88 ((s 84 11).toNat) 25) c e) rfl ?_
        refine RuP.step (pc' := 761) (ls' := [some (.inr (.inr (some 84))), some (.inl l1), some (.inl l2), some (.inl z3), some (.inl t0)]) (st' := [.inl (ax_w32 (l1 + 1))]) (h1 := hp L (ax_u2 s 88 ((s 84 11).toNat) 25) c e) rfl ?_
        cases h
        exact RuP.dI rfl
      exact RuP.sw (i := .tableswitch (649) (38) (126) #[579, 649, 425, 439, 565, 537, 383, 551, 397, 649, 649, 649, 649, 649, 649, 649, 649, 649, 649, 649, 509, 369, 635, 411, 649, 523, 649, 649, 649, 649, 649, 649, 649, 649, 649, 649, 649, 649, 649, 649, 649, 649, 649, 649, 649, 649, 649, 649, 649, 649, 649, 649, 649, 481, 649, 495, 607, 649, 649, 649, 649, 649, 649, 649, 649, 649, 649, 649, 649, 649, 649, 649, 649, 649, 649, 649, 649, 649, 649, 649, 649, 649, 649, 649, 649, 453, 593, 467, 621]) rfl h39 rfl J40
    rw [if_neg h39] at h
    refine RuP.swd (i := .tableswitch (649) (38) (126) #[579, 649, 425, 439, 565, 537, 383, 551, 397, 649, 649, 649, 649, 649, 649, 649, 649, 649, 649, 649, 509, 369, 635, 411, 649, 523, 649, 649, 649, 649, 649, 649, 649, 649, 649, 649, 649, 649, 649, 649, 649, 649, 649, 649, 649, 649, 649, 649, 649, 649, 649, 649, 649, 481, 649, 495, 607, 649, 649, 649, 649, 649, 649, 649, 649, 649, 649, 649, 649, 649, 649, 649, 649, 649, 649, 649, 649, 649, 649, 649, 649, 649, 649, 649, 649, 453, 593, 467, 621]) (pc' := 752) rfl (sw_td [38, 40, 41, 42, 43, 44, 45, 46, 58, 59, 60, 61, 63, 91, 93, 94, 123, 124, 125, 126] (by intro k hk; simp only [List.mem_cons, List.not_mem_nil, or_false] at hk; omega) (by decide) (by decide)) ?_
    refine RuP.step (pc' := 753) (ls' := [some (.inr (.inr (some 84))), some (.inl l1), some (.inl l2), some (.inl z3), some (.inl t0)]) (st' := [.inr (.inr (some 84))]) (h1 := hp L s c e) rfl ?_
    refine RuP.step (pc' := 754) (ls' := [some (.inr (.inr (some 84))), some (.inl l1), some (.inl l2), some (.inl z3), some (.inl t0)]) (st' := [.inl 1, .inr (.inr (some 84))]) (h1 := hp L s c e) rfl ?_
    refine RuP.step (pc' := 755) (ls' := [some (.inr (.inr (some 84))), some (.inl l1), some (.inl l2), some (.inl z3), some (.inl t0)]) (st' := [.inl l1, .inl 1, .inr (.inr (some 84))]) (h1 := hp L s c e) rfl ?_
    obtain ⟨q1, h1, h⟩ := bd_some h
    refine RuP.cVe h1 rfl (EvP.v ((ev_227 1 l1).up (by decide))) ?_
    refine RuP.step (pc' := 759) (ls' := [some (.inr (.inr (some 84))), some (.inl l1), some (.inl l2), some (.inl z3), some (.inl t0)]) (st' := [.inl l1]) (h1 := hp L q1 c e) rfl ?_
    refine RuP.step (pc' := 760) (ls' := [some (.inr (.inr (some 84))), some (.inl l1), some (.inl l2), some (.inl z3), some (.inl t0)]) (st' := [.inl 1, .inl l1]) (h1 := hp L q1 c e) rfl ?_
    refine RuP.step (pc' := 761) (ls' := [some (.inr (.inr (some 84))), some (.inl l1), some (.inl l2), some (.inl z3), some (.inl t0)]) (st' := [.inl (ax_w32 (l1 + 1))]) (h1 := hp L q1 c e) rfl ?_
    cases h
    exact RuP.dI rfl
  · rw [if_neg h0] at h
    refine RuP.jn rfl h0 ?_
    refine RuP.step (pc' := 88) (ls' := [some (.inr (.inr (some 84))), some (.inl l1), some (.inl l2), some (.inl z3), some (.inl t0)]) (st' := [.inr (.inr (some 84))]) (h1 := hp L s c e) rfl ?_
    refine RuP.step (pc' := 91) (ls' := [some (.inr (.inr (some 84))), some (.inl l1), some (.inl l2), some (.inl z3), some (.inl t0)]) (st' := [.inr (.inr (some 88))]) (h1 := hp L s c e) rfl ?_
    refine RuP.step (pc' := 92) (ls' := [some (.inr (.inr (some 84))), some (.inl l1), some (.inl l2), some (.inl z3), some (.inl t0)]) (st' := [.inr (.inr (some 84)), .inr (.inr (some 88))]) (h1 := hp L s c e) rfl ?_
    refine RuP.step (pc' := 95) (ls' := [some (.inr (.inr (some 84))), some (.inl l1), some (.inl l2), some (.inl z3), some (.inl t0)]) (st' := [.inl (s 84 11), .inr (.inr (some 88))]) (h1 := hp L s c e) rfl ?_
    refine RuP.step (pc' := 97) (ls' := [some (.inr (.inr (some 84))), some (.inl l1), some (.inl l2), some (.inl z3), some (.inl t0)]) (st' := [.inl t0, .inl (s 84 11), .inr (.inr (some 88))]) (h1 := hp L s c e) rfl ?_
    obtain ⟨b41, h⟩ := gd_some h
    refine RuP.ast (f := fun t => t == 0) (j := s 84 11) (a := 88) rfl rfl (by decide) rfl rfl b41.1 b41.2 ?_
    refine RuP.step (pc' := 99) (ls' := [some (.inr (.inr (some 84))), some (.inl l1), some (.inl l2), some (.inl z3), some (.inl t0)]) (st' := [.inl l1]) (h1 := hp L (ax_u2 s 88 ((s 84 11).toNat) t0) c e) rfl ?_
    refine RuP.step (pc' := 100) (ls' := [some (.inr (.inr (some 84))), some (.inl l1), some (.inl l2), some (.inl z3), some (.inl t0)]) (st' := [.inl 2, .inl l1]) (h1 := hp L (ax_u2 s 88 ((s 84 11).toNat) t0) c e) rfl ?_
    refine RuP.step (pc' := 101) (ls' := [some (.inr (.inr (some 84))), some (.inl l1), some (.inl l2), some (.inl z3), some (.inl t0)]) (st' := [.inl (ax_w32 (l1 + 2))]) (h1 := hp L (ax_u2 s 88 ((s 84 11).toNat) t0) c e) rfl ?_
    cases h
    exact RuP.dI rfl
noncomputable def j_230_46 (l1 l2 l3 : Int) (s : Sg) : Option (Int × Sg) :=
  j_230_80 l1 l2 ((if ¬ l2 = 60 then (if ¬ l2 = 62 then (-1) else (if ¬ l3 = 62 then (-1) else 6)) else (if ¬ l3 = 60 then (if ¬ l2 = 62 then (-1) else (if ¬ l3 = 62 then (-1) else 6)) else 5)) : Int) s
set_option maxRecDepth 20000 in
theorem bl_230_46 {L c : Nat} {e : Nat → Nat} : ∀ (d4 : Option ax_V) (l1 l2 l3 : Int) (s : Sg) (q : Int × Sg), j_230_46 l1 l2 l3 s = some q → RuP 1 tb_m230 46 [some (.inr (.inr (some 84))), some (.inl l1), some (.inl l2), some (.inl l3), d4] [] (hp L s c e) (oI L c e q) := by
  intro d4 l1 l2 l3 s q h
  unfold j_230_46 at h
  refine RuP.step (pc' := 47) (ls' := [some (.inr (.inr (some 84))), some (.inl l1), some (.inl l2), some (.inl l3), d4]) (st' := [.inl l2]) (h1 := hp L s c e) rfl ?_
  refine RuP.step (pc' := 49) (ls' := [some (.inr (.inr (some 84))), some (.inl l1), some (.inl l2), some (.inl l3), d4]) (st' := [.inl 60, .inl l2]) (h1 := hp L s c e) rfl ?_
  have J1 : ∀ v0_0 : Int, v0_0 = ((if ¬ l2 = 60 then (if ¬ l2 = 62 then (-1) else (if ¬ l3 = 62 then (-1) else 6)) else (if ¬ l3 = 60 then (if ¬ l2 = 62 then (-1) else (if ¬ l3 = 62 then (-1) else 6)) else 5)) : Int) → RuP 1 tb_m230 80 [some (.inr (.inr (some 84))), some (.inl l1), some (.inl l2), some (.inl l3), d4] [.inl v0_0] (hp L s c e) (oI L c e q) := by
    intro v0_0 ev0_0
    subst ev0_0
    exact bl_230_80 _ _ _ _ _ _ _ h
  by_cases h1 : ¬ l2 = 60
  · refine RuP.jy rfl h1 ?_
    refine RuP.step (pc' := 63) (ls' := [some (.inr (.inr (some 84))), some (.inl l1), some (.inl l2), some (.inl l3), d4]) (st' := [.inl l2]) (h1 := hp L s c e) rfl ?_
    refine RuP.step (pc' := 65) (ls' := [some (.inr (.inr (some 84))), some (.inl l1), some (.inl l2), some (.inl l3), d4]) (st' := [.inl 62, .inl l2]) (h1 := hp L s c e) rfl ?_
    by_cases h2 : ¬ l2 = 62
    · refine RuP.jy rfl h2 ?_
      refine RuP.step (pc' := 80) (ls' := [some (.inr (.inr (some 84))), some (.inl l1), some (.inl l2), some (.inl l3), d4]) (st' := [.inl (-1)]) (h1 := hp L s c e) rfl ?_
      exact J1 _ (by simp only [if_pos h1, if_pos h2])
    · refine RuP.jn rfl h2 ?_
      refine RuP.step (pc' := 69) (ls' := [some (.inr (.inr (some 84))), some (.inl l1), some (.inl l2), some (.inl l3), d4]) (st' := [.inl l3]) (h1 := hp L s c e) rfl ?_
      refine RuP.step (pc' := 71) (ls' := [some (.inr (.inr (some 84))), some (.inl l1), some (.inl l2), some (.inl l3), d4]) (st' := [.inl 62, .inl l3]) (h1 := hp L s c e) rfl ?_
      by_cases h3 : ¬ l3 = 62
      · refine RuP.jy rfl h3 ?_
        refine RuP.step (pc' := 80) (ls' := [some (.inr (.inr (some 84))), some (.inl l1), some (.inl l2), some (.inl l3), d4]) (st' := [.inl (-1)]) (h1 := hp L s c e) rfl ?_
        exact J1 _ (by simp only [if_pos h1, if_neg h2, if_pos h3])
      · refine RuP.jn rfl h3 ?_
        refine RuP.step (pc' := 76) (ls' := [some (.inr (.inr (some 84))), some (.inl l1), some (.inl l2), some (.inl l3), d4]) (st' := [.inl 6]) (h1 := hp L s c e) rfl ?_
        refine RuP.step (pc' := 80) (ls' := [some (.inr (.inr (some 84))), some (.inl l1), some (.inl l2), some (.inl l3), d4]) (st' := [.inl 6]) (h1 := hp L s c e) rfl ?_
        exact J1 _ (by simp only [if_pos h1, if_neg h2, if_neg h3])
  · refine RuP.jn rfl h1 ?_
    refine RuP.step (pc' := 53) (ls' := [some (.inr (.inr (some 84))), some (.inl l1), some (.inl l2), some (.inl l3), d4]) (st' := [.inl l3]) (h1 := hp L s c e) rfl ?_
    refine RuP.step (pc' := 55) (ls' := [some (.inr (.inr (some 84))), some (.inl l1), some (.inl l2), some (.inl l3), d4]) (st' := [.inl 60, .inl l3]) (h1 := hp L s c e) rfl ?_
    by_cases h4 : ¬ l3 = 60
    · refine RuP.jy rfl h4 ?_
      refine RuP.step (pc' := 63) (ls' := [some (.inr (.inr (some 84))), some (.inl l1), some (.inl l2), some (.inl l3), d4]) (st' := [.inl l2]) (h1 := hp L s c e) rfl ?_
      refine RuP.step (pc' := 65) (ls' := [some (.inr (.inr (some 84))), some (.inl l1), some (.inl l2), some (.inl l3), d4]) (st' := [.inl 62, .inl l2]) (h1 := hp L s c e) rfl ?_
      by_cases h5 : ¬ l2 = 62
      · refine RuP.jy rfl h5 ?_
        refine RuP.step (pc' := 80) (ls' := [some (.inr (.inr (some 84))), some (.inl l1), some (.inl l2), some (.inl l3), d4]) (st' := [.inl (-1)]) (h1 := hp L s c e) rfl ?_
        exact J1 _ (by simp only [if_neg h1, if_pos h4, if_pos h5])
      · refine RuP.jn rfl h5 ?_
        refine RuP.step (pc' := 69) (ls' := [some (.inr (.inr (some 84))), some (.inl l1), some (.inl l2), some (.inl l3), d4]) (st' := [.inl l3]) (h1 := hp L s c e) rfl ?_
        refine RuP.step (pc' := 71) (ls' := [some (.inr (.inr (some 84))), some (.inl l1), some (.inl l2), some (.inl l3), d4]) (st' := [.inl 62, .inl l3]) (h1 := hp L s c e) rfl ?_
        by_cases h6 : ¬ l3 = 62
        · refine RuP.jy rfl h6 ?_
          refine RuP.step (pc' := 80) (ls' := [some (.inr (.inr (some 84))), some (.inl l1), some (.inl l2), some (.inl l3), d4]) (st' := [.inl (-1)]) (h1 := hp L s c e) rfl ?_
          exact J1 _ (by simp only [if_neg h1, if_pos h4, if_neg h5, if_pos h6])
        · refine RuP.jn rfl h6 ?_
          refine RuP.step (pc' := 76) (ls' := [some (.inr (.inr (some 84))), some (.inl l1), some (.inl l2), some (.inl l3), d4]) (st' := [.inl 6]) (h1 := hp L s c e) rfl ?_
          refine RuP.step (pc' := 80) (ls' := [some (.inr (.inr (some 84))), some (.inl l1), some (.inl l2), some (.inl l3), d4]) (st' := [.inl 6]) (h1 := hp L s c e) rfl ?_
          exact J1 _ (by simp only [if_neg h1, if_pos h4, if_neg h5, if_neg h6])
    · refine RuP.jn rfl h4 ?_
      refine RuP.step (pc' := 59) (ls' := [some (.inr (.inr (some 84))), some (.inl l1), some (.inl l2), some (.inl l3), d4]) (st' := [.inl 5]) (h1 := hp L s c e) rfl ?_
      refine RuP.step (pc' := 80) (ls' := [some (.inr (.inr (some 84))), some (.inl l1), some (.inl l2), some (.inl l3), d4]) (st' := [.inl 5]) (h1 := hp L s c e) rfl ?_
      exact J1 _ (by simp only [if_neg h1, if_neg h4])
noncomputable def j_230_30 (l1 l2 l3 : Int) (s : Sg) : Option (Int × Sg) :=
  (if ¬ l2 = 33 then
    j_230_46 l1 l2 l3 s
  else
    j_230_80 l1 l2 ((if ¬ l3 = 61 then (if ¬ l2 = 60 then (if ¬ l2 = 62 then (-1) else (if ¬ l3 = 62 then (-1) else 6)) else (if ¬ l3 = 60 then (if ¬ l2 = 62 then (-1) else (if ¬ l3 = 62 then (-1) else 6)) else 5)) else 4) : Int) s)
set_option maxRecDepth 20000 in
theorem bl_230_30 {L c : Nat} {e : Nat → Nat} : ∀ (d4 : Option ax_V) (l1 l2 l3 : Int) (s : Sg) (q : Int × Sg), j_230_30 l1 l2 l3 s = some q → RuP 1 tb_m230 30 [some (.inr (.inr (some 84))), some (.inl l1), some (.inl l2), some (.inl l3), d4] [] (hp L s c e) (oI L c e q) := by
  intro d4 l1 l2 l3 s q h
  unfold j_230_30 at h
  refine RuP.step (pc' := 31) (ls' := [some (.inr (.inr (some 84))), some (.inl l1), some (.inl l2), some (.inl l3), d4]) (st' := [.inl l2]) (h1 := hp L s c e) rfl ?_
  refine RuP.step (pc' := 33) (ls' := [some (.inr (.inr (some 84))), some (.inl l1), some (.inl l2), some (.inl l3), d4]) (st' := [.inl 33, .inl l2]) (h1 := hp L s c e) rfl ?_
  by_cases h0 : ¬ l2 = 33
  · rw [if_pos h0] at h
    refine RuP.jy rfl h0 ?_
    exact bl_230_46 _ _ _ _ _ _ h
  · rw [if_neg h0] at h
    refine RuP.jn rfl h0 ?_
    refine RuP.step (pc' := 37) (ls' := [some (.inr (.inr (some 84))), some (.inl l1), some (.inl l2), some (.inl l3), d4]) (st' := [.inl l3]) (h1 := hp L s c e) rfl ?_
    refine RuP.step (pc' := 39) (ls' := [some (.inr (.inr (some 84))), some (.inl l1), some (.inl l2), some (.inl l3), d4]) (st' := [.inl 61, .inl l3]) (h1 := hp L s c e) rfl ?_
    have J2 : ∀ v1_0 : Int, v1_0 = ((if ¬ l3 = 61 then (if ¬ l2 = 60 then (if ¬ l2 = 62 then (-1) else (if ¬ l3 = 62 then (-1) else 6)) else (if ¬ l3 = 60 then (if ¬ l2 = 62 then (-1) else (if ¬ l3 = 62 then (-1) else 6)) else 5)) else 4) : Int) → RuP 1 tb_m230 80 [some (.inr (.inr (some 84))), some (.inl l1), some (.inl l2), some (.inl l3), d4] [.inl v1_0] (hp L s c e) (oI L c e q) := by
      intro v1_0 ev1_0
      subst ev1_0
      exact bl_230_80 _ _ _ _ _ _ _ h
    by_cases h2 : ¬ l3 = 61
    · refine RuP.jy rfl h2 ?_
      refine RuP.step (pc' := 47) (ls' := [some (.inr (.inr (some 84))), some (.inl l1), some (.inl l2), some (.inl l3), d4]) (st' := [.inl l2]) (h1 := hp L s c e) rfl ?_
      refine RuP.step (pc' := 49) (ls' := [some (.inr (.inr (some 84))), some (.inl l1), some (.inl l2), some (.inl l3), d4]) (st' := [.inl 60, .inl l2]) (h1 := hp L s c e) rfl ?_
      by_cases h3 : ¬ l2 = 60
      · refine RuP.jy rfl h3 ?_
        refine RuP.step (pc' := 63) (ls' := [some (.inr (.inr (some 84))), some (.inl l1), some (.inl l2), some (.inl l3), d4]) (st' := [.inl l2]) (h1 := hp L s c e) rfl ?_
        refine RuP.step (pc' := 65) (ls' := [some (.inr (.inr (some 84))), some (.inl l1), some (.inl l2), some (.inl l3), d4]) (st' := [.inl 62, .inl l2]) (h1 := hp L s c e) rfl ?_
        by_cases h4 : ¬ l2 = 62
        · refine RuP.jy rfl h4 ?_
          refine RuP.step (pc' := 80) (ls' := [some (.inr (.inr (some 84))), some (.inl l1), some (.inl l2), some (.inl l3), d4]) (st' := [.inl (-1)]) (h1 := hp L s c e) rfl ?_
          exact J2 _ (by simp only [if_pos h2, if_pos h3, if_pos h4])
        · refine RuP.jn rfl h4 ?_
          refine RuP.step (pc' := 69) (ls' := [some (.inr (.inr (some 84))), some (.inl l1), some (.inl l2), some (.inl l3), d4]) (st' := [.inl l3]) (h1 := hp L s c e) rfl ?_
          refine RuP.step (pc' := 71) (ls' := [some (.inr (.inr (some 84))), some (.inl l1), some (.inl l2), some (.inl l3), d4]) (st' := [.inl 62, .inl l3]) (h1 := hp L s c e) rfl ?_
          by_cases h5 : ¬ l3 = 62
          · refine RuP.jy rfl h5 ?_
            refine RuP.step (pc' := 80) (ls' := [some (.inr (.inr (some 84))), some (.inl l1), some (.inl l2), some (.inl l3), d4]) (st' := [.inl (-1)]) (h1 := hp L s c e) rfl ?_
            exact J2 _ (by simp only [if_pos h2, if_pos h3, if_neg h4, if_pos h5])
          · refine RuP.jn rfl h5 ?_
            refine RuP.step (pc' := 76) (ls' := [some (.inr (.inr (some 84))), some (.inl l1), some (.inl l2), some (.inl l3), d4]) (st' := [.inl 6]) (h1 := hp L s c e) rfl ?_
            refine RuP.step (pc' := 80) (ls' := [some (.inr (.inr (some 84))), some (.inl l1), some (.inl l2), some (.inl l3), d4]) (st' := [.inl 6]) (h1 := hp L s c e) rfl ?_
            exact J2 _ (by simp only [if_pos h2, if_pos h3, if_neg h4, if_neg h5])
      · refine RuP.jn rfl h3 ?_
        refine RuP.step (pc' := 53) (ls' := [some (.inr (.inr (some 84))), some (.inl l1), some (.inl l2), some (.inl l3), d4]) (st' := [.inl l3]) (h1 := hp L s c e) rfl ?_
        refine RuP.step (pc' := 55) (ls' := [some (.inr (.inr (some 84))), some (.inl l1), some (.inl l2), some (.inl l3), d4]) (st' := [.inl 60, .inl l3]) (h1 := hp L s c e) rfl ?_
        by_cases h6 : ¬ l3 = 60
        · refine RuP.jy rfl h6 ?_
          refine RuP.step (pc' := 63) (ls' := [some (.inr (.inr (some 84))), some (.inl l1), some (.inl l2), some (.inl l3), d4]) (st' := [.inl l2]) (h1 := hp L s c e) rfl ?_
          refine RuP.step (pc' := 65) (ls' := [some (.inr (.inr (some 84))), some (.inl l1), some (.inl l2), some (.inl l3), d4]) (st' := [.inl 62, .inl l2]) (h1 := hp L s c e) rfl ?_
          by_cases h7 : ¬ l2 = 62
          · refine RuP.jy rfl h7 ?_
            refine RuP.step (pc' := 80) (ls' := [some (.inr (.inr (some 84))), some (.inl l1), some (.inl l2), some (.inl l3), d4]) (st' := [.inl (-1)]) (h1 := hp L s c e) rfl ?_
            exact J2 _ (by simp only [if_pos h2, if_neg h3, if_pos h6, if_pos h7])
          · refine RuP.jn rfl h7 ?_
            refine RuP.step (pc' := 69) (ls' := [some (.inr (.inr (some 84))), some (.inl l1), some (.inl l2), some (.inl l3), d4]) (st' := [.inl l3]) (h1 := hp L s c e) rfl ?_
            refine RuP.step (pc' := 71) (ls' := [some (.inr (.inr (some 84))), some (.inl l1), some (.inl l2), some (.inl l3), d4]) (st' := [.inl 62, .inl l3]) (h1 := hp L s c e) rfl ?_
            by_cases h8 : ¬ l3 = 62
            · refine RuP.jy rfl h8 ?_
              refine RuP.step (pc' := 80) (ls' := [some (.inr (.inr (some 84))), some (.inl l1), some (.inl l2), some (.inl l3), d4]) (st' := [.inl (-1)]) (h1 := hp L s c e) rfl ?_
              exact J2 _ (by simp only [if_pos h2, if_neg h3, if_pos h6, if_neg h7, if_pos h8])
            · refine RuP.jn rfl h8 ?_
              refine RuP.step (pc' := 76) (ls' := [some (.inr (.inr (some 84))), some (.inl l1), some (.inl l2), some (.inl l3), d4]) (st' := [.inl 6]) (h1 := hp L s c e) rfl ?_
              refine RuP.step (pc' := 80) (ls' := [some (.inr (.inr (some 84))), some (.inl l1), some (.inl l2), some (.inl l3), d4]) (st' := [.inl 6]) (h1 := hp L s c e) rfl ?_
              exact J2 _ (by simp only [if_pos h2, if_neg h3, if_pos h6, if_neg h7, if_neg h8])
        · refine RuP.jn rfl h6 ?_
          refine RuP.step (pc' := 59) (ls' := [some (.inr (.inr (some 84))), some (.inl l1), some (.inl l2), some (.inl l3), d4]) (st' := [.inl 5]) (h1 := hp L s c e) rfl ?_
          refine RuP.step (pc' := 80) (ls' := [some (.inr (.inr (some 84))), some (.inl l1), some (.inl l2), some (.inl l3), d4]) (st' := [.inl 5]) (h1 := hp L s c e) rfl ?_
          exact J2 _ (by simp only [if_pos h2, if_neg h3, if_neg h6])
    · refine RuP.jn rfl h2 ?_
      refine RuP.step (pc' := 43) (ls' := [some (.inr (.inr (some 84))), some (.inl l1), some (.inl l2), some (.inl l3), d4]) (st' := [.inl 4]) (h1 := hp L s c e) rfl ?_
      refine RuP.step (pc' := 80) (ls' := [some (.inr (.inr (some 84))), some (.inl l1), some (.inl l2), some (.inl l3), d4]) (st' := [.inl 4]) (h1 := hp L s c e) rfl ?_
      exact J2 _ (by simp only [if_neg h2])
noncomputable def f_230 (x0 : Int) (s : Sg) : Option (Int × Sg) :=
  (gd (g_224 x0 s) (
  (gd (g_224 (ax_w32 (x0 + 1)) s) (
  (if ¬ (f_224 x0 s) = 61 then
    j_230_30 x0 (f_224 x0 s) (f_224 (ax_w32 (x0 + 1)) s) s
  else
    (if ¬ (f_224 (ax_w32 (x0 + 1)) s) = 61 then
      j_230_30 x0 (f_224 x0 s) (f_224 (ax_w32 (x0 + 1)) s) s
    else
      j_230_80 x0 (f_224 x0 s) 3 s))))))
set_option maxRecDepth 20000 in
theorem ev_230 {L c : Nat} {e : Nat → Nat} {s : Sg} {x0 : Int} {q : Int × Sg} (h : f_230 x0 s = some q) : EvP 2 230 [.inr (.inr (some 84)), .inl x0] (hp L s c e) (oI L c e q) := by
  unfold f_230 at h
  refine EvP.of (μ := tb_m230) (ls := [some (.inr (.inr (some 84))), some (.inl x0), none, none, none]) rfl (Nat.le_of_ble_eq_true rfl) rfl ?_
  refine RuP.step (pc' := 1) (ls' := [some (.inr (.inr (some 84))), some (.inl x0), none, none, none]) (st' := [.inr (.inr (some 84))]) (h1 := hp L s c e) rfl ?_
  refine RuP.step (pc' := 2) (ls' := [some (.inr (.inr (some 84))), some (.inl x0), none, none, none]) (st' := [.inl x0, .inr (.inr (some 84))]) (h1 := hp L s c e) rfl ?_
  obtain ⟨b0, h⟩ := gd_some h
  refine RuP.cI rfl (EvP.i ((ev_224 x0 b0).up (by decide))) ?_
  refine RuP.step (pc' := 6) (ls' := [some (.inr (.inr (some 84))), some (.inl x0), some (.inl (f_224 x0 s)), none, none]) (st' := []) (h1 := hp L s c e) rfl ?_
  refine RuP.step (pc' := 7) (ls' := [some (.inr (.inr (some 84))), some (.inl x0), some (.inl (f_224 x0 s)), none, none]) (st' := [.inr (.inr (some 84))]) (h1 := hp L s c e) rfl ?_
  refine RuP.step (pc' := 8) (ls' := [some (.inr (.inr (some 84))), some (.inl x0), some (.inl (f_224 x0 s)), none, none]) (st' := [.inl x0, .inr (.inr (some 84))]) (h1 := hp L s c e) rfl ?_
  refine RuP.step (pc' := 9) (ls' := [some (.inr (.inr (some 84))), some (.inl x0), some (.inl (f_224 x0 s)), none, none]) (st' := [.inl 1, .inl x0, .inr (.inr (some 84))]) (h1 := hp L s c e) rfl ?_
  refine RuP.step (pc' := 10) (ls' := [some (.inr (.inr (some 84))), some (.inl x0), some (.inl (f_224 x0 s)), none, none]) (st' := [.inl (ax_w32 (x0 + 1)), .inr (.inr (some 84))]) (h1 := hp L s c e) rfl ?_
  obtain ⟨b1, h⟩ := gd_some h
  refine RuP.cI rfl (EvP.i ((ev_224 (ax_w32 (x0 + 1)) b1).up (by decide))) ?_
  refine RuP.step (pc' := 14) (ls' := [some (.inr (.inr (some 84))), some (.inl x0), some (.inl (f_224 x0 s)), some (.inl (f_224 (ax_w32 (x0 + 1)) s)), none]) (st' := []) (h1 := hp L s c e) rfl ?_
  refine RuP.step (pc' := 15) (ls' := [some (.inr (.inr (some 84))), some (.inl x0), some (.inl (f_224 x0 s)), some (.inl (f_224 (ax_w32 (x0 + 1)) s)), none]) (st' := [.inl (f_224 x0 s)]) (h1 := hp L s c e) rfl ?_
  refine RuP.step (pc' := 17) (ls' := [some (.inr (.inr (some 84))), some (.inl x0), some (.inl (f_224 x0 s)), some (.inl (f_224 (ax_w32 (x0 + 1)) s)), none]) (st' := [.inl 61, .inl (f_224 x0 s)]) (h1 := hp L s c e) rfl ?_
  by_cases h2 : ¬ (f_224 x0 s) = 61
  · rw [if_pos h2] at h
    refine RuP.jy rfl h2 ?_
    exact bl_230_30 _ _ _ _ _ _ h
  · rw [if_neg h2] at h
    refine RuP.jn rfl h2 ?_
    refine RuP.step (pc' := 21) (ls' := [some (.inr (.inr (some 84))), some (.inl x0), some (.inl (f_224 x0 s)), some (.inl (f_224 (ax_w32 (x0 + 1)) s)), none]) (st' := [.inl (f_224 (ax_w32 (x0 + 1)) s)]) (h1 := hp L s c e) rfl ?_
    refine RuP.step (pc' := 23) (ls' := [some (.inr (.inr (some 84))), some (.inl x0), some (.inl (f_224 x0 s)), some (.inl (f_224 (ax_w32 (x0 + 1)) s)), none]) (st' := [.inl 61, .inl (f_224 (ax_w32 (x0 + 1)) s)]) (h1 := hp L s c e) rfl ?_
    by_cases h3 : ¬ (f_224 (ax_w32 (x0 + 1)) s) = 61
    · rw [if_pos h3] at h
      refine RuP.jy rfl h3 ?_
      exact bl_230_30 _ _ _ _ _ _ h
    · rw [if_neg h3] at h
      refine RuP.jn rfl h3 ?_
      refine RuP.step (pc' := 27) (ls' := [some (.inr (.inr (some 84))), some (.inl x0), some (.inl (f_224 x0 s)), some (.inl (f_224 (ax_w32 (x0 + 1)) s)), none]) (st' := [.inl 3]) (h1 := hp L s c e) rfl ?_
      refine RuP.step (pc' := 80) (ls' := [some (.inr (.inr (some 84))), some (.inl x0), some (.inl (f_224 x0 s)), some (.inl (f_224 (ax_w32 (x0 + 1)) s)), none]) (st' := [.inl 3]) (h1 := hp L s c e) rfl ?_
      exact bl_230_80 _ _ _ _ _ _ _ h
/-- MachineTextModel.take(I)I -/
noncomputable def f_231 (x0 : Int) (s : Sg) : Option (Int × Sg) :=
  (if s 84 6 ≤ 0 then
    (gd (g_232 x0 s) (
    (if ¬ (f_232 x0 s) = 0 then
      some (ax_w32 ((ax_w32 ((s 84 18) + 1)) - 1), (ax_u2 s 84 18 (ax_w32 ((s 84 18) + 1))))
    else
      (gd (0 ≤ s 84 18 ∧ s 84 18 < 8200) (
      ((some (f_227 2 (s 89 ((s 84 18).toNat)) s)).bind fun q1 =>
      some (0, q1)))))))
  else
    some (0, s))
theorem ev_231 {L c : Nat} {e : Nat → Nat} {s : Sg} {x0 : Int} {q : Int × Sg} (h : f_231 x0 s = some q) : EvP 2 231 [.inr (.inr (some 84)), .inl x0] (hp L s c e) (oI L c e q) := by
  unfold f_231 at h
  refine EvP.of (μ := tb_m231) (ls := [some (.inr (.inr (some 84))), some (.inl x0)]) rfl (Nat.le_of_ble_eq_true rfl) rfl ?_
  refine RuP.step (pc' := 1) (ls' := [some (.inr (.inr (some 84))), some (.inl x0)]) (st' := [.inr (.inr (some 84))]) (h1 := hp L s c e) rfl ?_
  refine RuP.step (pc' := 4) (ls' := [some (.inr (.inr (some 84))), some (.inl x0)]) (st' := [.inl (s 84 6)]) (h1 := hp L s c e) rfl ?_
  by_cases h0 : s 84 6 ≤ 0
  · rw [if_pos h0] at h
    refine RuP.jy rfl h0 ?_
    refine RuP.step (pc' := 10) (ls' := [some (.inr (.inr (some 84))), some (.inl x0)]) (st' := [.inr (.inr (some 84))]) (h1 := hp L s c e) rfl ?_
    refine RuP.step (pc' := 11) (ls' := [some (.inr (.inr (some 84))), some (.inl x0)]) (st' := [.inl x0, .inr (.inr (some 84))]) (h1 := hp L s c e) rfl ?_
    obtain ⟨b1, h⟩ := gd_some h
    refine RuP.cI rfl (EvP.i ((ev_232 x0 b1).up (by decide))) ?_
    by_cases h2 : ¬ (f_232 x0 s) = 0
    · rw [if_pos h2] at h
      refine RuP.jy rfl h2 ?_
      refine RuP.step (pc' := 34) (ls' := [some (.inr (.inr (some 84))), some (.inl x0)]) (st' := [.inr (.inr (some 84))]) (h1 := hp L s c e) rfl ?_
      refine RuP.step (pc' := 35) (ls' := [some (.inr (.inr (some 84))), some (.inl x0)]) (st' := [.inr (.inr (some 84)), .inr (.inr (some 84))]) (h1 := hp L s c e) rfl ?_
      refine RuP.step (pc' := 38) (ls' := [some (.inr (.inr (some 84))), some (.inl x0)]) (st' := [.inl (s 84 18), .inr (.inr (some 84))]) (h1 := hp L s c e) rfl ?_
      refine RuP.step (pc' := 39) (ls' := [some (.inr (.inr (some 84))), some (.inl x0)]) (st' := [.inl 1, .inl (s 84 18), .inr (.inr (some 84))]) (h1 := hp L s c e) rfl ?_
      refine RuP.step (pc' := 40) (ls' := [some (.inr (.inr (some 84))), some (.inl x0)]) (st' := [.inl (ax_w32 ((s 84 18) + 1)), .inr (.inr (some 84))]) (h1 := hp L s c e) rfl ?_
      refine RuP.step (pc' := 43) (ls' := [some (.inr (.inr (some 84))), some (.inl x0)]) (st' := []) (h1 := hp L (ax_u2 s 84 18 (ax_w32 ((s 84 18) + 1))) c e) rfl ?_
      refine RuP.step (pc' := 44) (ls' := [some (.inr (.inr (some 84))), some (.inl x0)]) (st' := [.inr (.inr (some 84))]) (h1 := hp L (ax_u2 s 84 18 (ax_w32 ((s 84 18) + 1))) c e) rfl ?_
      refine RuP.step (pc' := 47) (ls' := [some (.inr (.inr (some 84))), some (.inl x0)]) (st' := [.inl (ax_w32 ((s 84 18) + 1))]) (h1 := hp L (ax_u2 s 84 18 (ax_w32 ((s 84 18) + 1))) c e) rfl ?_
      refine RuP.step (pc' := 48) (ls' := [some (.inr (.inr (some 84))), some (.inl x0)]) (st' := [.inl 1, .inl (ax_w32 ((s 84 18) + 1))]) (h1 := hp L (ax_u2 s 84 18 (ax_w32 ((s 84 18) + 1))) c e) rfl ?_
      refine RuP.step (pc' := 49) (ls' := [some (.inr (.inr (some 84))), some (.inl x0)]) (st' := [.inl (ax_w32 ((ax_w32 ((s 84 18) + 1)) - 1))]) (h1 := hp L (ax_u2 s 84 18 (ax_w32 ((s 84 18) + 1))) c e) rfl ?_
      cases h
      exact RuP.dI rfl
    · rw [if_neg h2] at h
      refine RuP.jn rfl h2 ?_
      refine RuP.step (pc' := 18) (ls' := [some (.inr (.inr (some 84))), some (.inl x0)]) (st' := [.inr (.inr (some 84))]) (h1 := hp L s c e) rfl ?_
      refine RuP.step (pc' := 19) (ls' := [some (.inr (.inr (some 84))), some (.inl x0)]) (st' := [.inl 2, .inr (.inr (some 84))]) (h1 := hp L s c e) rfl ?_
      refine RuP.step (pc' := 20) (ls' := [some (.inr (.inr (some 84))), some (.inl x0)]) (st' := [.inr (.inr (some 84)), .inl 2, .inr (.inr (some 84))]) (h1 := hp L s c e) rfl ?_
      refine RuP.step (pc' := 23) (ls' := [some (.inr (.inr (some 84))), some (.inl x0)]) (st' := [.inr (.inr (some 89)), .inl 2, .inr (.inr (some 84))]) (h1 := hp L s c e) rfl ?_
      refine RuP.step (pc' := 24) (ls' := [some (.inr (.inr (some 84))), some (.inl x0)]) (st' := [.inr (.inr (some 84)), .inr (.inr (some 89)), .inl 2, .inr (.inr (some 84))]) (h1 := hp L s c e) rfl ?_
      refine RuP.step (pc' := 27) (ls' := [some (.inr (.inr (some 84))), some (.inl x0)]) (st' := [.inl (s 84 18), .inr (.inr (some 89)), .inl 2, .inr (.inr (some 84))]) (h1 := hp L s c e) rfl ?_
      obtain ⟨b3, h⟩ := gd_some h
      refine RuP.ald (f := fun t => t == 0) (j := s 84 18) (a := 89) rfl rfl b3.1 b3.2 ?_
      obtain ⟨q1, h1, h⟩ := bd_some h
      refine RuP.cVe h1 rfl (EvP.v ((ev_227 2 (s 89 ((s 84 18).toNat))).up (by decide))) ?_
      refine RuP.step (pc' := 32) (ls' := [some (.inr (.inr (some 84))), some (.inl x0)]) (st' := [.inl 0]) (h1 := hp L q1 c e) rfl ?_
      cases h
      exact RuP.dI rfl
  · rw [if_neg h0] at h
    refine RuP.jn rfl h0 ?_
    refine RuP.step (pc' := 8) (ls' := [some (.inr (.inr (some 84))), some (.inl x0)]) (st' := [.inl 0]) (h1 := hp L s c e) rfl ?_
    cases h
    exact RuP.dI rfl
