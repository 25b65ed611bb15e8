/-! METHODS, second form, by program. -/
/-- MachineTextModel.bits(II)J -/
noncomputable def j_199_23 (s : Sg) : Option (Int × Sg) :=
  ((some (f_206 1 s)).bind fun q1 =>
  some (q1.1, q1.2))
theorem bl_199_23 {L c : Nat} {e : Nat → Nat} : ∀ (d3 d4 d5 d6 d7 : Option ax_V) (z1 z2 : Int) (s : Sg) (q : Int × Sg), j_199_23 s = some q → RuP 4 tb_m199 23 [some (.inr (.inr (some 84))), some (.inl z1), some (.inl z2), d3, d4, d5, d6, d7] [] (hp L s c e) (oJ L c e q) := by
  intro d3 d4 d5 d6 d7 z1 z2 s q h
  unfold j_199_23 at h
  refine RuP.step (pc' := 24) (ls' := [some (.inr (.inr (some 84))), some (.inl z1), some (.inl z2), d3, d4, d5, d6, d7]) (st' := [.inr (.inr (some 84))]) (h1 := hp L s c e) rfl ?_
  refine RuP.step (pc' := 25) (ls' := [some (.inr (.inr (some 84))), some (.inl z1), some (.inl z2), d3, d4, d5, d6, d7]) (st' := [.inl 1, .inr (.inr (some 84))]) (h1 := hp L s c e) rfl ?_
  obtain ⟨q1, h1, h⟩ := bd_some h
  refine RuP.cIe h1 rfl (EvP.ip ((ev_206 1).up (by decide))) ?_
  refine RuP.step (pc' := 29) (ls' := [some (.inr (.inr (some 84))), some (.inl z1), some (.inl z2), d3, d4, d5, d6, d7]) (st' := [.inr (.inl q1.1)]) (h1 := hp L q1.2 c e) rfl ?_
  cases h
  exact RuP.dJ rfl
noncomputable def j_199_157 (k57 : (Int → Int → Int → Int → Sg → Option (Int × Sg))) (l1 l2 l3 l5 : Int) (s : Sg) : Option (Int × Sg) :=
  k57 l1 l2 l3 (ax_w32 (l5 + 1)) s
theorem bl_199_157 {L c : Nat} {e : Nat → Nat} {k57 : (Int → Int → Int → Int → Sg → Option (Int × Sg))} (hk57 : ∀ (d6 d7 : Option ax_V) (l1 l2 l3 l5 : Int) (s : Sg) (q : Int × Sg), k57 l1 l2 l3 l5 s = some q → RuP 4 tb_m199 57 [some (.inr (.inr (some 84))), some (.inl l1), some (.inl l2), some (.inr (.inl l3)), none, some (.inl l5), d6, d7] [] (hp L s c e) (oJ L c e q)) : ∀ (d7 : Option ax_V) (z6 : Int) (l1 l2 l3 l5 : Int) (s : Sg) (q : Int × Sg), j_199_157 k57 l1 l2 l3 l5 s = some q → RuP 4 tb_m199 157 [some (.inr (.inr (some 84))), some (.inl l1), some (.inl l2), some (.inr (.inl l3)), none, some (.inl l5), some (.inl z6), d7] [] (hp L s c e) (oJ L c e q) := by
  intro d7 z6 l1 l2 l3 l5 s q h
  unfold j_199_157 at h
  refine RuP.step (pc' := 160) (ls' := [some (.inr (.inr (some 84))), some (.inl l1), some (.inl l2), some (.inr (.inl l3)), none, some (.inl (ax_w32 (l5 + 1))), some (.inl z6), d7]) (st' := []) (h1 := hp L s c e) rfl ?_
  refine RuP.step (pc' := 57) (ls' := [some (.inr (.inr (some 84))), some (.inl l1), some (.inl l2), some (.inr (.inl l3)), none, some (.inl (ax_w32 (l5 + 1))), some (.inl z6), d7]) (st' := []) (h1 := hp L s c e) rfl ?_
  exact hk57 _ _ _ _ _ _ _ _ h
noncomputable def j_199_134 (k57 : (Int → Int → Int → Int → Sg → Option (Int × Sg))) (k78 : (Int → Int → Int → Int → Int → Sg → Option (Int × Sg))) (l1 l2 l3 l5 l6 t0 : Int) (s : Sg) : Option (Int × Sg) :=
  k78 l1 l2 (ax_lor (ax_lshl l3 1) ((if t0 = 0 then 0 else 1) : Int)) l5 (ax_w32 (l6 + 1)) s
theorem bl_199_134 {L c : Nat} {e : Nat → Nat} {k57 : (Int → Int → Int → Int → Sg → Option (Int × Sg))} {k78 : (Int → Int → Int → Int → Int → Sg → Option (Int × Sg))} (hk57 : ∀ (d6 d7 : Option ax_V) (l1 l2 l3 l5 : Int) (s : Sg) (q : Int × Sg), k57 l1 l2 l3 l5 s = some q → RuP 4 tb_m199 57 [some (.inr (.inr (some 84))), some (.inl l1), some (.inl l2), some (.inr (.inl l3)), none, some (.inl l5), d6, d7] [] (hp L s c e) (oJ L c e q)) (hk78 : ∀ (d7 : Option ax_V) (l1 l2 l3 l5 l6 : Int) (s : Sg) (q : Int × Sg), k78 l1 l2 l3 l5 l6 s = some q → RuP 4 tb_m199 78 [some (.inr (.inr (some 84))), some (.inl l1), some (.inl l2), some (.inr (.inl l3)), none, some (.inl l5), some (.inl l6), d7] [] (hp L s c e) (oJ L c e q)) : ∀ (d7 : Option ax_V) (l1 l2 l3 l5 l6 t0 : Int) (s : Sg) (q : Int × Sg), j_199_134 k57 k78 l1 l2 l3 l5 l6 t0 s = some q → RuP 4 tb_m199 134 [some (.inr (.inr (some 84))), some (.inl l1), some (.inl l2), some (.inr (.inl l3)), none, some (.inl l5), some (.inl l6), d7] [.inl t0] (hp L s c e) (oJ L c e q) := by
  intro d7 l1 l2 l3 l5 l6 t0 s q h
  unfold j_199_134 at h
  refine RuP.step (pc' := 136) (ls' := [some (.inr (.inr (some 84))), some (.inl l1), some (.inl l2), some (.inr (.inl l3)), none, some (.inl l5), some (.inl l6), some (.inl t0)]) (st' := []) (h1 := hp L s c e) rfl ?_
  refine RuP.step (pc' := 137) (ls' := [some (.inr (.inr (some 84))), some (.inl l1), some (.inl l2), some (.inr (.inl l3)), none, some (.inl l5), some (.inl l6), some (.inl t0)]) (st' := [.inr (.inl l3)]) (h1 := hp L s c e) rfl ?_
  refine RuP.step (pc' := 138) (ls' := [some (.inr (.inr (some 84))), some (.inl l1), some (.inl l2), some (.inr (.inl l3)), none, some (.inl l5), some (.inl l6), some (.inl t0)]) (st' := [.inl 1, .inr (.inl l3)]) (h1 := hp L s c e) rfl ?_
  refine RuP.step (pc' := 139) (ls' := [some (.inr (.inr (some 84))), some (.inl l1), some (.inl l2), some (.inr (.inl l3)), none, some (.inl l5), some (.inl l6), some (.inl t0)]) (st' := [.inr (.inl (ax_lshl l3 1))]) (h1 := hp L s c e) rfl ?_
  refine RuP.step (pc' := 141) (ls' := [some (.inr (.inr (some 84))), some (.inl l1), some (.inl l2), some (.inr (.inl l3)), none, some (.inl l5), some (.inl l6), some (.inl t0)]) (st' := [.inl t0, .inr (.inl (ax_lshl l3 1))]) (h1 := hp L s c e) rfl ?_
  have J1 : ∀ v0_0 : Int, v0_0 = ((if t0 = 0 then 0 else 1) : Int) → RuP 4 tb_m199 149 [some (.inr (.inr (some 84))), some (.inl l1), some (.inl l2), some (.inr (.inl l3)), none, some (.inl l5), some (.inl l6), some (.inl t0)] [.inr (.inl v0_0), .inr (.inl (ax_lshl l3 1))] (hp L s c e) (oJ L c e q) := by
    intro v0_0 ev0_0
    subst ev0_0
    refine RuP.step (pc' := 150) (ls' := [some (.inr (.inr (some 84))), some (.inl l1), some (.inl l2), some (.inr (.inl l3)), none, some (.inl l5), some (.inl l6), some (.inl t0)]) (st' := [.inr (.inl (ax_lor (ax_lshl l3 1) ((if t0 = 0 then 0 else 1) : Int)))]) (h1 := hp L s c e) rfl ?_
    refine RuP.step (pc' := 151) (ls' := [some (.inr (.inr (some 84))), some (.inl l1), some (.inl l2), some (.inr (.inl (ax_lor (ax_lshl l3 1) ((if t0 = 0 then 0 else 1) : Int)))), none, some (.inl l5), some (.inl l6), some (.inl t0)]) (st' := []) (h1 := hp L s c e) rfl ?_
    refine RuP.step (pc' := 154) (ls' := [some (.inr (.inr (some 84))), some (.inl l1), some (.inl l2), some (.inr (.inl (ax_lor (ax_lshl l3 1) ((if t0 = 0 then 0 else 1) : Int)))), none, some (.inl l5), some (.inl (ax_w32 (l6 + 1))), some (.inl t0)]) (st' := []) (h1 := hp L s c e) rfl ?_
    refine RuP.step (pc' := 78) (ls' := [some (.inr (.inr (some 84))), some (.inl l1), some (.inl l2), some (.inr (.inl (ax_lor (ax_lshl l3 1) ((if t0 = 0 then 0 else 1) : Int)))), none, some (.inl l5), some (.inl (ax_w32 (l6 + 1))), some (.inl t0)]) (st' := []) (h1 := hp L s c e) rfl ?_
    exact hk78 _ _ _ _ _ _ _ _ h
  by_cases h1 : t0 = 0
  · refine RuP.jy rfl h1 ?_
    refine RuP.step (pc' := 149) (ls' := [some (.inr (.inr (some 84))), some (.inl l1), some (.inl l2), some (.inr (.inl l3)), none, some (.inl l5), some (.inl l6), some (.inl t0)]) (st' := [.inr (.inl 0), .inr (.inl (ax_lshl l3 1))]) (h1 := hp L s c e) rfl ?_
    exact J1 _ (by simp only [if_pos h1])
  · refine RuP.jn rfl h1 ?_
    refine RuP.step (pc' := 145) (ls' := [some (.inr (.inr (some 84))), some (.inl l1), some (.inl l2), some (.inr (.inl l3)), none, some (.inl l5), some (.inl l6), some (.inl t0)]) (st' := [.inr (.inl 1), .inr (.inl (ax_lshl l3 1))]) (h1 := hp L s c e) rfl ?_
    refine RuP.step (pc' := 149) (ls' := [some (.inr (.inr (some 84))), some (.inl l1), some (.inl l2), some (.inr (.inl l3)), none, some (.inl l5), some (.inl l6), some (.inl t0)]) (st' := [.inr (.inl 1), .inr (.inl (ax_lshl l3 1))]) (h1 := hp L s c e) rfl ?_
    exact J1 _ (by simp only [if_neg h1])
noncomputable def j_199_133 (k57 : (Int → Int → Int → Int → Sg → Option (Int × Sg))) (k78 : (Int → Int → Int → Int → Int → Sg → Option (Int × Sg))) (l1 l2 l3 l5 l6 : Int) (s : Sg) : Option (Int × Sg) :=
  j_199_134 k57 k78 l1 l2 l3 l5 l6 0 s
theorem bl_199_133 {L c : Nat} {e : Nat → Nat} {k57 : (Int → Int → Int → Int → Sg → Option (Int × Sg))} {k78 : (Int → Int → Int → Int → Int → Sg → Option (Int × Sg))} (hk57 : ∀ (d6 d7 : Option ax_V) (l1 l2 l3 l5 : Int) (s : Sg) (q : Int × Sg), k57 l1 l2 l3 l5 s = some q → RuP 4 tb_m199 57 [some (.inr (.inr (some 84))), some (.inl l1), some (.inl l2), some (.inr (.inl l3)), none, some (.inl l5), d6, d7] [] (hp L s c e) (oJ L c e q)) (hk78 : ∀ (d7 : Option ax_V) (l1 l2 l3 l5 l6 : Int) (s : Sg) (q : Int × Sg), k78 l1 l2 l3 l5 l6 s = some q → RuP 4 tb_m199 78 [some (.inr (.inr (some 84))), some (.inl l1), some (.inl l2), some (.inr (.inl l3)), none, some (.inl l5), some (.inl l6), d7] [] (hp L s c e) (oJ L c e q)) : ∀ (d7 : Option ax_V) (l1 l2 l3 l5 l6 : Int) (s : Sg) (q : Int × Sg), j_199_133 k57 k78 l1 l2 l3 l5 l6 s = some q → RuP 4 tb_m199 133 [some (.inr (.inr (some 84))), some (.inl l1), some (.inl l2), some (.inr (.inl l3)), none, some (.inl l5), some (.inl l6), d7] [] (hp L s c e) (oJ L c e q) := by
  intro d7 l1 l2 l3 l5 l6 s q h
  unfold j_199_133 at h
  refine RuP.step (pc' := 134) (ls' := [some (.inr (.inr (some 84))), some (.inl l1), some (.inl l2), some (.inr (.inl l3)), none, some (.inl l5), some (.inl l6), d7]) (st' := [.inl 0]) (h1 := hp L s c e) rfl ?_
  exact bl_199_134 hk57 hk78 _ _ _ _ _ _ _ _ _ h
noncomputable def j_199_129 (k57 : (Int → Int → Int → Int → Sg → Option (Int × Sg))) (k78 : (Int → Int → Int → Int → Int → Sg → Option (Int × Sg))) (l1 l2 l3 l5 l6 : Int) (s : Sg) : Option (Int × Sg) :=
  j_199_134 k57 k78 l1 l2 l3 l5 l6 1 s
theorem bl_199_129 {L c : Nat} {e : Nat → Nat} {k57 : (Int → Int → Int → Int → Sg → Option (Int × Sg))} {k78 : (Int → Int → Int → Int → Int → Sg → Option (Int × Sg))} (hk57 : ∀ (d6 d7 : Option ax_V) (l1 l2 l3 l5 : Int) (s : Sg) (q : Int × Sg), k57 l1 l2 l3 l5 s = some q → RuP 4 tb_m199 57 [some (.inr (.inr (some 84))), some (.inl l1), some (.inl l2), some (.inr (.inl l3)), none, some (.inl l5), d6, d7] [] (hp L s c e) (oJ L c e q)) (hk78 : ∀ (d7 : Option ax_V) (l1 l2 l3 l5 l6 : Int) (s : Sg) (q : Int × Sg), k78 l1 l2 l3 l5 l6 s = some q → RuP 4 tb_m199 78 [some (.inr (.inr (some 84))), some (.inl l1), some (.inl l2), some (.inr (.inl l3)), none, some (.inl l5), some (.inl l6), d7] [] (hp L s c e) (oJ L c e q)) : ∀ (d7 : Option ax_V) (l1 l2 l3 l5 l6 : Int) (s : Sg) (q : Int × Sg), j_199_129 k57 k78 l1 l2 l3 l5 l6 s = some q → RuP 4 tb_m199 129 [some (.inr (.inr (some 84))), some (.inl l1), some (.inl l2), some (.inr (.inl l3)), none, some (.inl l5), some (.inl l6), d7] [] (hp L s c e) (oJ L c e q) := by
  intro d7 l1 l2 l3 l5 l6 s q h
  unfold j_199_129 at h
  refine RuP.step (pc' := 130) (ls' := [some (.inr (.inr (some 84))), some (.inl l1), some (.inl l2), some (.inr (.inl l3)), none, some (.inl l5), some (.inl l6), d7]) (st' := [.inl 1]) (h1 := hp L s c e) rfl ?_
  refine RuP.step (pc' := 134) (ls' := [some (.inr (.inr (some 84))), some (.inl l1), some (.inl l2), some (.inr (.inl l3)), none, some (.inl l5), some (.inl l6), d7]) (st' := [.inl 1]) (h1 := hp L s c e) rfl ?_
  exact bl_199_134 hk57 hk78 _ _ _ _ _ _ _ _ _ h
noncomputable def j_199_78 (k57 : (Int → Int → Int → Int → Sg → Option (Int × Sg))) : Nat → Int → Int → Int → Int → Int → Sg → Option (Int × Sg)
  | 0, _, _, _, _, _, _ => none
  | F + 1, l1, l2, l3, l5, l6, s =>
    ((f_219 l5 s).bind fun q2 =>
    (if q2 ≤ l6 then
      j_199_157 k57 l1 l2 l3 l5 s
    else
      (gd (0 ≤ l5 ∧ l5 < 8200) (
      (if 0 ≤ s 104 l5.toNat then
        j_199_133 k57 (j_199_78 k57 F) l1 l2 l3 l5 l6 s
      else
        (if l2 = 1 then
          j_199_129 k57 (j_199_78 k57 F) l1 l2 l3 l5 l6 s
        else
          (gd (0 ≤ l5 ∧ l5 < 8200) (
          (gd (0 ≤ s 105 l5.toNat ∧ s 105 l5.toNat < 8200) (
          (gd (0 ≤ ax_w32 ((s 89 ((s 105 l5.toNat).toNat)) + l6) ∧ ax_w32 ((s 89 ((s 105 l5.toNat).toNat)) + l6) < 8192) (
          j_199_134 k57 (j_199_78 k57 F) l1 l2 l3 l5 l6 ((if ¬ (s 86 ((ax_w32 ((s 89 ((s 105 l5.toNat).toNat)) + l6)).toNat)) = 49 then 0 else 1) : Int) s))))))))))))
theorem bl_199_78 {L c : Nat} {e : Nat → Nat} {k57 : (Int → Int → Int → Int → Sg → Option (Int × Sg))} (hk57 : ∀ (d6 d7 : Option ax_V) (l1 l2 l3 l5 : Int) (s : Sg) (q : Int × Sg), k57 l1 l2 l3 l5 s = some q → RuP 4 tb_m199 57 [some (.inr (.inr (some 84))), some (.inl l1), some (.inl l2), some (.inr (.inl l3)), none, some (.inl l5), d6, d7] [] (hp L s c e) (oJ L c e q)) : ∀ (F : Nat) (d7 : Option ax_V) (l1 l2 l3 l5 l6 : Int) (s : Sg) (q : Int × Sg), j_199_78 k57 F l1 l2 l3 l5 l6 s = some q → RuP 4 tb_m199 78 [some (.inr (.inr (some 84))), some (.inl l1), some (.inl l2), some (.inr (.inl l3)), none, some (.inl l5), some (.inl l6), d7] [] (hp L s c e) (oJ L c e q) := by
  intro F
  induction F with
  | zero =>
    intro d7 l1 l2 l3 l5 l6 s q h
    rw [j_199_78] at h
    cases h
  | succ F ih =>
    intro d7 l1 l2 l3 l5 l6 s q h
    rw [j_199_78] at h
    refine RuP.step (pc' := 80) (ls' := [some (.inr (.inr (some 84))), some (.inl l1), some (.inl l2), some (.inr (.inl l3)), none, some (.inl l5), some (.inl l6), d7]) (st' := [.inl l6]) (h1 := hp L s c e) rfl ?_
    refine RuP.step (pc' := 81) (ls' := [some (.inr (.inr (some 84))), some (.inl l1), some (.inl l2), some (.inr (.inl l3)), none, some (.inl l5), some (.inl l6), d7]) (st' := [.inr (.inr (some 84)), .inl l6]) (h1 := hp L s c e) rfl ?_
    refine RuP.step (pc' := 83) (ls' := [some (.inr (.inr (some 84))), some (.inl l1), some (.inl l2), some (.inr (.inl l3)), none, some (.inl l5), some (.inl l6), d7]) (st' := [.inl l5, .inr (.inr (some 84)), .inl l6]) (h1 := hp L s c e) rfl ?_
    obtain ⟨q2, h1, h⟩ := bd_some h
    refine RuP.cI rfl ((ev_219 h1).up (by decide)) ?_
    by_cases h0 : q2 ≤ l6
    · rw [if_pos h0] at h
      refine RuP.jy rfl h0 ?_
      exact bl_199_157 hk57 _ _ _ _ _ _ _ _ h
    · rw [if_neg h0] at h
      refine RuP.jn rfl h0 ?_
      refine RuP.step (pc' := 90) (ls' := [some (.inr (.inr (some 84))), some (.inl l1), some (.inl l2), some (.inr (.inl l3)), none, some (.inl l5), some (.inl l6), d7]) (st' := [.inr (.inr (some 84))]) (h1 := hp L s c e) rfl ?_
      refine RuP.step (pc' := 93) (ls' := [some (.inr (.inr (some 84))), some (.inl l1), some (.inl l2), some (.inr (.inl l3)), none, some (.inl l5), some (.inl l6), d7]) (st' := [.inr (.inr (some 104))]) (h1 := hp L s c e) rfl ?_
      refine RuP.step (pc' := 95) (ls' := [some (.inr (.inr (some 84))), some (.inl l1), some (.inl l2), some (.inr (.inl l3)), none, some (.inl l5), some (.inl l6), d7]) (st' := [.inl l5, .inr (.inr (some 104))]) (h1 := hp L s c e) rfl ?_
      obtain ⟨b1, h⟩ := gd_some h
      refine RuP.ald (f := fun t => t == 0) (j := l5) (a := 104) rfl rfl b1.1 b1.2 ?_
      by_cases h2 : 0 ≤ s 104 l5.toNat
      · rw [if_pos h2] at h
        refine RuP.jy rfl h2 ?_
        exact bl_199_133 hk57 ih _ _ _ _ _ _ _ _ h
      · rw [if_neg h2] at h
        refine RuP.jn rfl h2 ?_
        refine RuP.step (pc' := 100) (ls' := [some (.inr (.inr (some 84))), some (.inl l1), some (.inl l2), some (.inr (.inl l3)), none, some (.inl l5), some (.inl l6), d7]) (st' := [.inl l2]) (h1 := hp L s c e) rfl ?_
        refine RuP.step (pc' := 101) (ls' := [some (.inr (.inr (some 84))), some (.inl l1), some (.inl l2), some (.inr (.inl l3)), none, some (.inl l5), some (.inl l6), d7]) (st' := [.inl 1, .inl l2]) (h1 := hp L s c e) rfl ?_
        by_cases h3 : l2 = 1
        · rw [if_pos h3] at h
          refine RuP.jy rfl h3 ?_
          exact bl_199_129 hk57 ih _ _ _ _ _ _ _ _ h
        · rw [if_neg h3] at h
          refine RuP.jn rfl h3 ?_
          refine RuP.step (pc' := 105) (ls' := [some (.inr (.inr (some 84))), some (.inl l1), some (.inl l2), some (.inr (.inl l3)), none, some (.inl l5), some (.inl l6), d7]) (st' := [.inr (.inr (some 84))]) (h1 := hp L s c e) rfl ?_
          refine RuP.step (pc' := 108) (ls' := [some (.inr (.inr (some 84))), some (.inl l1), some (.inl l2), some (.inr (.inl l3)), none, some (.inl l5), some (.inl l6), d7]) (st' := [.inr (.inr (some 86))]) (h1 := hp L s c e) rfl ?_
          refine RuP.step (pc' := 109) (ls' := [some (.inr (.inr (some 84))), some (.inl l1), some (.inl l2), some (.inr (.inl l3)), none, some (.inl l5), some (.inl l6), d7]) (st' := [.inr (.inr (some 84)), .inr (.inr (some 86))]) (h1 := hp L s c e) rfl ?_
          refine RuP.step (pc' := 112) (ls' := [some (.inr (.inr (some 84))), some (.inl l1), some (.inl l2), some (.inr (.inl l3)), none, some (.inl l5), some (.inl l6), d7]) (st' := [.inr (.inr (some 89)), .inr (.inr (some 86))]) (h1 := hp L s c e) rfl ?_
          refine RuP.step (pc' := 113) (ls' := [some (.inr (.inr (some 84))), some (.inl l1), some (.inl l2), some (.inr (.inl l3)), none, some (.inl l5), some (.inl l6), d7]) (st' := [.inr (.inr (some 84)), .inr (.inr (some 89)), .inr (.inr (some 86))]) (h1 := hp L s c e) rfl ?_
          refine RuP.step (pc' := 116) (ls' := [some (.inr (.inr (some 84))), some (.inl l1), some (.inl l2), some (.inr (.inl l3)), none, some (.inl l5), some (.inl l6), d7]) (st' := [.inr (.inr (some 105)), .inr (.inr (some 89)), .inr (.inr (some 86))]) (h1 := hp L s c e) rfl ?_
          refine RuP.step (pc' := 118) (ls' := [some (.inr (.inr (some 84))), some (.inl l1), some (.inl l2), some (.inr (.inl l3)), none, some (.inl l5), some (.inl l6), d7]) (st' := [.inl l5, .inr (.inr (some 105)), .inr (.inr (some 89)), .inr (.inr (some 86))]) (h1 := hp L s c e) rfl ?_
          obtain ⟨b4, h⟩ := gd_some h
          refine RuP.ald (f := fun t => t == 0) (j := l5) (a := 105) rfl rfl b4.1 b4.2 ?_
          obtain ⟨b5, h⟩ := gd_some h
          refine RuP.ald (f := fun t => t == 0) (j := s 105 l5.toNat) (a := 89) rfl rfl b5.1 b5.2 ?_
          refine RuP.step (pc' := 122) (ls' := [some (.inr (.inr (some 84))), some (.inl l1), some (.inl l2), some (.inr (.inl l3)), none, some (.inl l5), some (.inl l6), d7]) (st' := [.inl l6, .inl (s 89 ((s 105 l5.toNat).toNat)), .inr (.inr (some 86))]) (h1 := hp L s c e) rfl ?_
          refine RuP.step (pc' := 123) (ls' := [some (.inr (.inr (some 84))), some (.inl l1), some (.inl l2), some (.inr (.inl l3)), none, some (.inl l5), some (.inl l6), d7]) (st' := [.inl (ax_w32 ((s 89 ((s 105 l5.toNat).toNat)) + l6)), .inr (.inr (some 86))]) (h1 := hp L s c e) rfl ?_
          obtain ⟨b6, h⟩ := gd_some h
          refine RuP.ald (f := fun t => t == 0) (j := ax_w32 ((s 89 ((s 105 l5.toNat).toNat)) + l6)) (a := 86) rfl rfl b6.1 b6.2 ?_
          refine RuP.step (pc' := 126) (ls' := [some (.inr (.inr (some 84))), some (.inl l1), some (.inl l2), some (.inr (.inl l3)), none, some (.inl l5), some (.inl l6), d7]) (st' := [.inl 49, .inl (s 86 ((ax_w32 ((s 89 ((s 105 l5.toNat).toNat)) + l6)).toNat))]) (h1 := hp L s c e) rfl ?_
          have J8 : ∀ v7_0 : Int, v7_0 = ((if ¬ (s 86 ((ax_w32 ((s 89 ((s 105 l5.toNat).toNat)) + l6)).toNat)) = 49 then 0 else 1) : Int) → RuP 4 tb_m199 134 [some (.inr (.inr (some 84))), some (.inl l1), some (.inl l2), some (.inr (.inl l3)), none, some (.inl l5), some (.inl l6), d7] [.inl v7_0] (hp L s c e) (oJ L c e q) := by
            intro v7_0 ev7_0
            subst ev7_0
            exact bl_199_134 hk57 ih _ _ _ _ _ _ _ _ _ h
          by_cases h8 : ¬ (s 86 ((ax_w32 ((s 89 ((s 105 l5.toNat).toNat)) + l6)).toNat)) = 49
          · refine RuP.jy rfl h8 ?_
            refine RuP.step (pc' := 134) (ls' := [some (.inr (.inr (some 84))), some (.inl l1), some (.inl l2), some (.inr (.inl l3)), none, some (.inl l5), some (.inl l6), d7]) (st' := [.inl 0]) (h1 := hp L s c e) rfl ?_
            exact J8 _ (by simp only [if_pos h8])
          · refine RuP.jn rfl h8 ?_
            refine RuP.step (pc' := 130) (ls' := [some (.inr (.inr (some 84))), some (.inl l1), some (.inl l2), some (.inr (.inl l3)), none, some (.inl l5), some (.inl l6), d7]) (st' := [.inl 1]) (h1 := hp L s c e) rfl ?_
            refine RuP.step (pc' := 134) (ls' := [some (.inr (.inr (some 84))), some (.inl l1), some (.inl l2), some (.inr (.inl l3)), none, some (.inl l5), some (.inl l6), d7]) (st' := [.inl 1]) (h1 := hp L s c e) rfl ?_
            exact J8 _ (by simp only [if_neg h8])
noncomputable def j_199_57 : Nat → Int → Int → Int → Int → Sg → Option (Int × Sg)
  | 0, _, _, _, _, _ => none
  | F + 1, l1, l2, l3, l5, s =>
    (gd (0 ≤ l1 ∧ l1 < 4100) (
    (gd (0 ≤ l1 ∧ l1 < 4100) (
    (if ax_w32 ((s 98 l1.toNat) + (s 99 l1.toNat)) ≤ l5 then
      some (l3, s)
    else
      j_199_78 (j_199_57 F) FU l1 l2 l3 l5 0 s)))))
theorem bl_199_57 {L c : Nat} {e : Nat → Nat} : ∀ (F : Nat) (d6 d7 : Option ax_V) (l1 l2 l3 l5 : Int) (s : Sg) (q : Int × Sg), j_199_57 F l1 l2 l3 l5 s = some q → RuP 4 tb_m199 57 [some (.inr (.inr (some 84))), some (.inl l1), some (.inl l2), some (.inr (.inl l3)), none, some (.inl l5), d6, d7] [] (hp L s c e) (oJ L c e q) := by
  intro F
  induction F with
  | zero =>
    intro d6 d7 l1 l2 l3 l5 s q h
    rw [j_199_57] at h
    cases h
  | succ F ih =>
    intro d6 d7 l1 l2 l3 l5 s q h
    rw [j_199_57] at h
    refine RuP.step (pc' := 59) (ls' := [some (.inr (.inr (some 84))), some (.inl l1), some (.inl l2), some (.inr (.inl l3)), none, some (.inl l5), d6, d7]) (st' := [.inl l5]) (h1 := hp L s c e) rfl ?_
    refine RuP.step (pc' := 60) (ls' := [some (.inr (.inr (some 84))), some (.inl l1), some (.inl l2), some (.inr (.inl l3)), none, some (.inl l5), d6, d7]) (st' := [.inr (.inr (some 84)), .inl l5]) (h1 := hp L s c e) rfl ?_
    refine RuP.step (pc' := 63) (ls' := [some (.inr (.inr (some 84))), some (.inl l1), some (.inl l2), some (.inr (.inl l3)), none, some (.inl l5), d6, d7]) (st' := [.inr (.inr (some 98)), .inl l5]) (h1 := hp L s c e) rfl ?_
    refine RuP.step (pc' := 64) (ls' := [some (.inr (.inr (some 84))), some (.inl l1), some (.inl l2), some (.inr (.inl l3)), none, some (.inl l5), d6, d7]) (st' := [.inl l1, .inr (.inr (some 98)), .inl l5]) (h1 := hp L s c e) rfl ?_
    obtain ⟨b0, h⟩ := gd_some h
    refine RuP.ald (f := fun t => t == 0) (j := l1) (a := 98) rfl rfl b0.1 b0.2 ?_
    refine RuP.step (pc' := 66) (ls' := [some (.inr (.inr (some 84))), some (.inl l1), some (.inl l2), some (.inr (.inl l3)), none, some (.inl l5), d6, d7]) (st' := [.inr (.inr (some 84)), .inl (s 98 l1.toNat), .inl l5]) (h1 := hp L s c e) rfl ?_
    refine RuP.step (pc' := 69) (ls' := [some (.inr (.inr (some 84))), some (.inl l1), some (.inl l2), some (.inr (.inl l3)), none, some (.inl l5), d6, d7]) (st' := [.inr (.inr (some 99)), .inl (s 98 l1.toNat), .inl l5]) (h1 := hp L s c e) rfl ?_
    refine RuP.step (pc' := 70) (ls' := [some (.inr (.inr (some 84))), some (.inl l1), some (.inl l2), some (.inr (.inl l3)), none, some (.inl l5), d6, d7]) (st' := [.inl l1, .inr (.inr (some 99)), .inl (s 98 l1.toNat), .inl l5]) (h1 := hp L s c e) rfl ?_
    obtain ⟨b1, h⟩ := gd_some h
    refine RuP.ald (f := fun t => t == 0) (j := l1) (a := 99) rfl rfl b1.1 b1.2 ?_
    refine RuP.step (pc' := 72) (ls' := [some (.inr (.inr (some 84))), some (.inl l1), some (.inl l2), some (.inr (.inl l3)), none, some (.inl l5), d6, d7]) (st' := [.inl (ax_w32 ((s 98 l1.toNat) + (s 99 l1.toNat))), .inl l5]) (h1 := hp L s c e) rfl ?_
    by_cases h2 : ax_w32 ((s 98 l1.toNat) + (s 99 l1.toNat)) ≤ l5
    · rw [if_pos h2] at h
      refine RuP.jy rfl h2 ?_
      refine RuP.step (pc' := 164) (ls' := [some (.inr (.inr (some 84))), some (.inl l1), some (.inl l2), some (.inr (.inl l3)), none, some (.inl l5), d6, d7]) (st' := [.inr (.inl l3)]) (h1 := hp L s c e) rfl ?_
      cases h
      exact RuP.dJ rfl
    · rw [if_neg h2] at h
      refine RuP.jn rfl h2 ?_
      refine RuP.step (pc' := 76) (ls' := [some (.inr (.inr (some 84))), some (.inl l1), some (.inl l2), some (.inr (.inl l3)), none, some (.inl l5), d6, d7]) (st' := [.inl 0]) (h1 := hp L s c e) rfl ?_
      refine RuP.step (pc' := 78) (ls' := [some (.inr (.inr (some 84))), some (.inl l1), some (.inl l2), some (.inr (.inl l3)), none, some (.inl l5), some (.inl 0), d7]) (st' := []) (h1 := hp L s c e) rfl ?_
      exact bl_199_78 ih FU _ _ _ _ _ _ _ _ h
noncomputable def f_199 (x0 x1 : Int) (s : Sg) : Option (Int × Sg) :=
  (if f_217 x0 (ax_u2 s 84 0 0) = 0 then
    j_199_23 (ax_u2 s 84 0 0)
  else
    (if ¬ (f_207 x1 0 1 (ax_u2 s 84 0 0)) = 0 then
      (gd (0 ≤ x0 ∧ x0 < 4100) (
      (if s 94 x0.toNat = 3 then
        (gd (0 ≤ x0 ∧ x0 < 4100) (
        j_199_57 FU x0 x1 0 (s 98 x0.toNat) (ax_u2 s 84 0 0)))
      else
        ((some (f_206 2 (ax_u2 s 84 0 0))).bind fun q3 =>
        some (q3.1, q3.2)))))
    else
      j_199_23 (ax_u2 s 84 0 0)))
theorem ev_199 {L c : Nat} {e : Nat → Nat} {s : Sg} {x0 x1 : Int} {q : Int × Sg} (h : f_199 x0 x1 s = some q) : EvP 5 199 [.inr (.inr (some 84)), .inl x0, .inl x1] (hp L s c e) (oJ L c e q) := by
  unfold f_199 at h
  refine EvP.of (μ := tb_m199) (ls := [some (.inr (.inr (some 84))), some (.inl x0), some (.inl x1), none, none, none, none, none]) rfl (Nat.le_of_ble_eq_true rfl) rfl ?_
  refine RuP.step (pc' := 1) (ls' := [some (.inr (.inr (some 84))), some (.inl x0), some (.inl x1), none, none, none, none, none]) (st' := [.inr (.inr (some 84))]) (h1 := hp L s c e) rfl ?_
  refine RuP.step (pc' := 2) (ls' := [some (.inr (.inr (some 84))), some (.inl x0), some (.inl x1), none, none, none, none, none]) (st' := [.inl 0, .inr (.inr (some 84))]) (h1 := hp L s c e) rfl ?_
  refine RuP.step (pc' := 5) (ls' := [some (.inr (.inr (some 84))), some (.inl x0), some (.inl x1), none, none, none, none, none]) (st' := []) (h1 := hp L (ax_u2 s 84 0 0) c e) rfl ?_
  refine RuP.step (pc' := 6) (ls' := [some (.inr (.inr (some 84))), some (.inl x0), some (.inl x1), none, none, none, none, none]) (st' := [.inr (.inr (some 84))]) (h1 := hp L (ax_u2 s 84 0 0) c e) rfl ?_
  refine RuP.step (pc' := 7) (ls' := [some (.inr (.inr (some 84))), some (.inl x0), some (.inl x1), none, none, none, none, none]) (st' := [.inl x0, .inr (.inr (some 84))]) (h1 := hp L (ax_u2 s 84 0 0) c e) rfl ?_
  refine RuP.cI rfl (EvP.i ((ev_217 x0).up (by decide))) ?_
  by_cases h0 : f_217 x0 (ax_u2 s 84 0 0) = 0
  · rw [if_pos h0] at h
    refine RuP.jy rfl h0 ?_
    exact bl_199_23 _ _ _ _ _ _ _ _ _ h
  · rw [if_neg h0] at h
    refine RuP.jn rfl h0 ?_
    refine RuP.step (pc' := 14) (ls' := [some (.inr (.inr (some 84))), some (.inl x0), some (.inl x1), none, none, none, none, none]) (st' := [.inl x1]) (h1 := hp L (ax_u2 s 84 0 0) c e) rfl ?_
    refine RuP.step (pc' := 15) (ls' := [some (.inr (.inr (some 84))), some (.inl x0), some (.inl x1), none, none, none, none, none]) (st' := [.inr (.inl x1)]) (h1 := hp L (ax_u2 s 84 0 0) c e) rfl ?_
    refine RuP.step (pc' := 16) (ls' := [some (.inr (.inr (some 84))), some (.inl x0), some (.inl x1), none, none, none, none, none]) (st' := [.inr (.inl 0), .inr (.inl x1)]) (h1 := hp L (ax_u2 s 84 0 0) c e) rfl ?_
    refine RuP.step (pc' := 17) (ls' := [some (.inr (.inr (some 84))), some (.inl x0), some (.inl x1), none, none, none, none, none]) (st' := [.inr (.inl 1), .inr (.inl 0), .inr (.inl x1)]) (h1 := hp L (ax_u2 s 84 0 0) c e) rfl ?_
    refine RuP.cI rfl (EvP.i ((ev_207 x1 0 1).up (by decide))) ?_
    by_cases h1 : ¬ (f_207 x1 0 1 (ax_u2 s 84 0 0)) = 0
    · rw [if_pos h1] at h
      refine RuP.jy rfl h1 ?_
      refine RuP.step (pc' := 31) (ls' := [some (.inr (.inr (some 84))), some (.inl x0), some (.inl x1), none, none, none, none, none]) (st' := [.inr (.inr (some 84))]) (h1 := hp L (ax_u2 s 84 0 0) c e) rfl ?_
      refine RuP.step (pc' := 34) (ls' := [some (.inr (.inr (some 84))), some (.inl x0), some (.inl x1), none, none, none, none, none]) (st' := [.inr (.inr (some 94))]) (h1 := hp L (ax_u2 s 84 0 0) c e) rfl ?_
      refine RuP.step (pc' := 35) (ls' := [some (.inr (.inr (some 84))), some (.inl x0), some (.inl x1), none, none, none, none, none]) (st' := [.inl x0, .inr (.inr (some 94))]) (h1 := hp L (ax_u2 s 84 0 0) c e) rfl ?_
      obtain ⟨b2, h⟩ := gd_some h
      refine RuP.ald (f := fun t => t == 0) (j := x0) (a := 94) rfl rfl b2.1 b2.2 ?_
      refine RuP.step (pc' := 37) (ls' := [some (.inr (.inr (some 84))), some (.inl x0), some (.inl x1), none, none, none, none, none]) (st' := [.inl 3, .inl (s 94 x0.toNat)]) (h1 := hp L (ax_u2 s 84 0 0) c e) rfl ?_
      by_cases h3 : s 94 x0.toNat = 3
      · rw [if_pos h3] at h
        refine RuP.jy rfl h3 ?_
        refine RuP.step (pc' := 48) (ls' := [some (.inr (.inr (some 84))), some (.inl x0), some (.inl x1), none, none, none, none, none]) (st' := [.inr (.inl 0)]) (h1 := hp L (ax_u2 s 84 0 0) c e) rfl ?_
        refine RuP.step (pc' := 49) (ls' := [some (.inr (.inr (some 84))), some (.inl x0), some (.inl x1), some (.inr (.inl 0)), none, none, none, none]) (st' := []) (h1 := hp L (ax_u2 s 84 0 0) c e) rfl ?_
        refine RuP.step (pc' := 50) (ls' := [some (.inr (.inr (some 84))), some (.inl x0), some (.inl x1), some (.inr (.inl 0)), none, none, none, none]) (st' := [.inr (.inr (some 84))]) (h1 := hp L (ax_u2 s 84 0 0) c e) rfl ?_
        refine RuP.step (pc' := 53) (ls' := [some (.inr (.inr (some 84))), some (.inl x0), some (.inl x1), some (.inr (.inl 0)), none, none, none, none]) (st' := [.inr (.inr (some 98))]) (h1 := hp L (ax_u2 s 84 0 0) c e) rfl ?_
        refine RuP.step (pc' := 54) (ls' := [some (.inr (.inr (some 84))), some (.inl x0), some (.inl x1), some (.inr (.inl 0)), none, none, none, none]) (st' := [.inl x0, .inr (.inr (some 98))]) (h1 := hp L (ax_u2 s 84 0 0) c e) rfl ?_
        obtain ⟨b4, h⟩ := gd_some h
        refine RuP.ald (f := fun t => t == 0) (j := x0) (a := 98) rfl rfl b4.1 b4.2 ?_
        refine RuP.step (pc' := 57) (ls' := [some (.inr (.inr (some 84))), some (.inl x0), some (.inl x1), some (.inr (.inl 0)), none, some (.inl (s 98 x0.toNat)), none, none]) (st' := []) (h1 := hp L (ax_u2 s 84 0 0) c e) rfl ?_
        exact bl_199_57 FU _ _ _ _ _ _ _ _ h
      · rw [if_neg h3] at h
        refine RuP.jn rfl h3 ?_
        refine RuP.step (pc' := 41) (ls' := [some (.inr (.inr (some 84))), some (.inl x0), some (.inl x1), none, none, none, none, none]) (st' := [.inr (.inr (some 84))]) (h1 := hp L (ax_u2 s 84 0 0) c e) rfl ?_
        refine RuP.step (pc' := 42) (ls' := [some (.inr (.inr (some 84))), some (.inl x0), some (.inl x1), none, none, none, none, none]) (st' := [.inl 2, .inr (.inr (some 84))]) (h1 := hp L (ax_u2 s 84 0 0) c e) rfl ?_
        obtain ⟨q3, h1, h⟩ := bd_some h
        refine RuP.cIe h1 rfl (EvP.ip ((ev_206 2).up (by decide))) ?_
        refine RuP.step (pc' := 46) (ls' := [some (.inr (.inr (some 84))), some (.inl x0), some (.inl x1), none, none, none, none, none]) (st' := [.inr (.inl q3.1)]) (h1 := hp L q3.2 c e) rfl ?_
        cases h
        exact RuP.dJ rfl
    · rw [if_neg h1] at h
      refine RuP.jn rfl h1 ?_
      exact bl_199_23 _ _ _ _ _ _ _ _ _ h
/-- MachineTextModel.node(II)I -/
noncomputable def j_200_42 (s : Sg) : Option (Int × Sg) :=
  ((some (f_206 1 s)).bind fun q1 =>
  some (q1.1, q1.2))
theorem bl_200_42 {L c : Nat} {e : Nat → Nat} : ∀ (z1 z2 : Int) (s : Sg) (q : Int × Sg), j_200_42 s = some q → RuP 3 tb_m200 42 [some (.inr (.inr (some 84))), some (.inl z1), some (.inl z2)] [] (hp L s c e) (oI L c e q) := by
  intro z1 z2 s q h
  unfold j_200_42 at h
  refine RuP.step (pc' := 43) (ls' := [some (.inr (.inr (some 84))), some (.inl z1), some (.inl z2)]) (st' := [.inr (.inr (some 84))]) (h1 := hp L s c e) rfl ?_
  refine RuP.step (pc' := 44) (ls' := [some (.inr (.inr (some 84))), some (.inl z1), some (.inl z2)]) (st' := [.inl 1, .inr (.inr (some 84))]) (h1 := hp L s c e) rfl ?_
  obtain ⟨q1, h1, h⟩ := bd_some h
  refine RuP.cIe h1 rfl (EvP.ip ((ev_206 1).up (by decide))) ?_
  cases h
  exact RuP.dI rfl
noncomputable def f_200 (x0 x1 : Int) (s : Sg) : Option (Int × Sg) :=
  (if s 84 5 = 0 then
    j_200_42 (ax_u2 s 84 0 0)
  else
    (if f_207 x0 0 (ax_w32 ((s 84 47) - 1)) (ax_u2 s 84 0 0) = 0 then
      j_200_42 (ax_u2 s 84 0 0)
    else
      (if ¬ (f_207 x1 (-1) 6 (ax_u2 s 84 0 0)) = 0 then
        (if ¬ x1 = (-1) then
          (if 3 ≤ x1 then
            (gd (0 ≤ x0 ∧ x0 < 8200) (
            (if s 120 x0.toNat ≤ ax_w32 (x1 - 3) then
              some ((-1), (ax_u2 s 84 0 0))
            else
              (gd (0 ≤ x0 ∧ x0 < 8200) (
              (gd (0 ≤ ax_w32 ((ax_w32 ((s 121 x0.toNat) + x1)) - 3) ∧ ax_w32 ((ax_w32 ((s 121 x0.toNat) + x1)) - 3) < 16400) (
              some (s 125 ((ax_w32 ((ax_w32 ((s 121 x0.toNat) + x1)) - 3)).toNat), (ax_u2 s 84 0 0)))))))))
          else
            (if ¬ x1 = 0 then
              (if ¬ x1 = 1 then
                (gd (0 ≤ x0 ∧ x0 < 8200) (
                some (s 120 x0.toNat, (ax_u2 s 84 0 0))))
              else
                (gd (0 ≤ x0 ∧ x0 < 8200) (
                some (s 122 x0.toNat, (ax_u2 s 84 0 0)))))
            else
              (gd (0 ≤ x0 ∧ x0 < 8200) (
              some (s 116 x0.toNat, (ax_u2 s 84 0 0))))))
        else
          (gd (0 ≤ x0 ∧ x0 < 8200) (
          (if ¬ (s 116 x0.toNat) = 0 then
            (gd (0 ≤ x0 ∧ x0 < 8200) (
            (if ¬ (s 116 x0.toNat) = 7 then
              some ((-1), (ax_u2 s 84 0 0))
            else
              (gd (0 ≤ x0 ∧ x0 < 8200) (
              ((f_218 (s 119 x0.toNat) (ax_u2 s 84 0 0)).bind fun q2 =>
              some (ax_w32 q2, (ax_u2 s 84 0 0))))))))
          else
            (gd (0 ≤ x0 ∧ x0 < 8200) (
            ((f_218 (s 118 x0.toNat) (ax_u2 s 84 0 0)).bind fun q3 =>
            some (ax_w32 q3, (ax_u2 s 84 0 0)))))))))
      else
        j_200_42 (ax_u2 s 84 0 0))))
theorem ev_200 {L c : Nat} {e : Nat → Nat} {s : Sg} {x0 x1 : Int} {q : Int × Sg} (h : f_200 x0 x1 s = some q) : EvP 4 200 [.inr (.inr (some 84)), .inl x0, .inl x1] (hp L s c e) (oI L c e q) := by
  unfold f_200 at h
  refine EvP.of (μ := tb_m200) (ls := [some (.inr (.inr (some 84))), some (.inl x0), some (.inl x1)]) rfl (Nat.le_of_ble_eq_true rfl) rfl ?_
  refine RuP.step (pc' := 1) (ls' := [some (.inr (.inr (some 84))), some (.inl x0), some (.inl x1)]) (st' := [.inr (.inr (some 84))]) (h1 := hp L s c e) rfl ?_
  refine RuP.step (pc' := 2) (ls' := [some (.inr (.inr (some 84))), some (.inl x0), some (.inl x1)]) (st' := [.inl 0, .inr (.inr (some 84))]) (h1 := hp L s c e) rfl ?_
  refine RuP.step (pc' := 5) (ls' := [some (.inr (.inr (some 84))), some (.inl x0), some (.inl x1)]) (st' := []) (h1 := hp L (ax_u2 s 84 0 0) c e) rfl ?_
  refine RuP.step (pc' := 6) (ls' := [some (.inr (.inr (some 84))), some (.inl x0), some (.inl x1)]) (st' := [.inr (.inr (some 84))]) (h1 := hp L (ax_u2 s 84 0 0) c e) rfl ?_
  refine RuP.step (pc' := 9) (ls' := [some (.inr (.inr (some 84))), some (.inl x0), some (.inl x1)]) (st' := [.inl (s 84 5)]) (h1 := hp L (ax_u2 s 84 0 0) c e) rfl ?_
  by_cases h0 : s 84 5 = 0
  · rw [if_pos h0] at h
    refine RuP.jy rfl h0 ?_
    exact bl_200_42 _ _ _ _ h
  · rw [if_neg h0] at h
    refine RuP.jn rfl h0 ?_
    refine RuP.step (pc' := 13) (ls' := [some (.inr (.inr (some 84))), some (.inl x0), some (.inl x1)]) (st' := [.inl x0]) (h1 := hp L (ax_u2 s 84 0 0) c e) rfl ?_
    refine RuP.step (pc' := 14) (ls' := [some (.inr (.inr (some 84))), some (.inl x0), some (.inl x1)]) (st' := [.inr (.inl x0)]) (h1 := hp L (ax_u2 s 84 0 0) c e) rfl ?_
    refine RuP.step (pc' := 15) (ls' := [some (.inr (.inr (some 84))), some (.inl x0), some (.inl x1)]) (st' := [.inr (.inl 0), .inr (.inl x0)]) (h1 := hp L (ax_u2 s 84 0 0) c e) rfl ?_
    refine RuP.step (pc' := 16) (ls' := [some (.inr (.inr (some 84))), some (.inl x0), some (.inl x1)]) (st' := [.inr (.inr (some 84)), .inr (.inl 0), .inr (.inl x0)]) (h1 := hp L (ax_u2 s 84 0 0) c e) rfl ?_
    refine RuP.step (pc' := 19) (ls' := [some (.inr (.inr (some 84))), some (.inl x0), some (.inl x1)]) (st' := [.inl (s 84 47), .inr (.inl 0), .inr (.inl x0)]) (h1 := hp L (ax_u2 s 84 0 0) c e) rfl ?_
    refine RuP.step (pc' := 20) (ls' := [some (.inr (.inr (some 84))), some (.inl x0), some (.inl x1)]) (st' := [.inl 1, .inl (s 84 47), .inr (.inl 0), .inr (.inl x0)]) (h1 := hp L (ax_u2 s 84 0 0) c e) rfl ?_
    refine RuP.step (pc' := 21) (ls' := [some (.inr (.inr (some 84))), some (.inl x0), some (.inl x1)]) (st' := [.inl (ax_w32 ((s 84 47) - 1)), .inr (.inl 0), .inr (.inl x0)]) (h1 := hp L (ax_u2 s 84 0 0) c e) rfl ?_
    refine RuP.step (pc' := 22) (ls' := [some (.inr (.inr (some 84))), some (.inl x0), some (.inl x1)]) (st' := [.inr (.inl (ax_w32 ((s 84 47) - 1))), .inr (.inl 0), .inr (.inl x0)]) (h1 := hp L (ax_u2 s 84 0 0) c e) rfl ?_
    refine RuP.cI rfl (EvP.i ((ev_207 x0 0 (ax_w32 ((s 84 47) - 1))).up (by decide))) ?_
    by_cases h1 : f_207 x0 0 (ax_w32 ((s 84 47) - 1)) (ax_u2 s 84 0 0) = 0
    · rw [if_pos h1] at h
      refine RuP.jy rfl h1 ?_
      exact bl_200_42 _ _ _ _ h
    · rw [if_neg h1] at h
      refine RuP.jn rfl h1 ?_
      refine RuP.step (pc' := 29) (ls' := [some (.inr (.inr (some 84))), some (.inl x0), some (.inl x1)]) (st' := [.inl x1]) (h1 := hp L (ax_u2 s 84 0 0) c e) rfl ?_
      refine RuP.step (pc' := 30) (ls' := [some (.inr (.inr (some 84))), some (.inl x0), some (.inl x1)]) (st' := [.inr (.inl x1)]) (h1 := hp L (ax_u2 s 84 0 0) c e) rfl ?_
      refine RuP.step (pc' := 33) (ls' := [some (.inr (.inr (some 84))), some (.inl x0), some (.inl x1)]) (st' := [.inr (.inl (-1)), .inr (.inl x1)]) (h1 := hp L (ax_u2 s 84 0 0) c e) rfl ?_
      refine RuP.step (pc' := 36) (ls' := [some (.inr (.inr (some 84))), some (.inl x0), some (.inl x1)]) (st' := [.inr (.inl 6), .inr (.inl (-1)), .inr (.inl x1)]) (h1 := hp L (ax_u2 s 84 0 0) c e) rfl ?_
      refine RuP.cI rfl (EvP.i ((ev_207 x1 (-1) 6).up (by decide))) ?_
      by_cases h2 : ¬ (f_207 x1 (-1) 6 (ax_u2 s 84 0 0)) = 0
      · rw [if_pos h2] at h
        refine RuP.jy rfl h2 ?_
        refine RuP.step (pc' := 49) (ls' := [some (.inr (.inr (some 84))), some (.inl x0), some (.inl x1)]) (st' := [.inl x1]) (h1 := hp L (ax_u2 s 84 0 0) c e) rfl ?_
        refine RuP.step (pc' := 50) (ls' := [some (.inr (.inr (some 84))), some (.inl x0), some (.inl x1)]) (st' := [.inl (-1), .inl x1]) (h1 := hp L (ax_u2 s 84 0 0) c e) rfl ?_
        by_cases h3 : ¬ x1 = (-1)
        · rw [if_pos h3] at h
          refine RuP.jy rfl h3 ?_
          refine RuP.step (pc' := 104) (ls' := [some (.inr (.inr (some 84))), some (.inl x0), some (.inl x1)]) (st' := [.inl x1]) (h1 := hp L (ax_u2 s 84 0 0) c e) rfl ?_
          refine RuP.step (pc' := 105) (ls' := [some (.inr (.inr (some 84))), some (.inl x0), some (.inl x1)]) (st' := [.inl 3, .inl x1]) (h1 := hp L (ax_u2 s 84 0 0) c e) rfl ?_
          by_cases h4 : 3 ≤ x1
          · rw [if_pos h4] at h
            refine RuP.jy rfl h4 ?_
            refine RuP.step (pc' := 143) (ls' := [some (.inr (.inr (some 84))), some (.inl x0), some (.inl x1)]) (st' := [.inl x1]) (h1 := hp L (ax_u2 s 84 0 0) c e) rfl ?_
            refine RuP.step (pc' := 144) (ls' := [some (.inr (.inr (some 84))), some (.inl x0), some (.inl x1)]) (st' := [.inl 3, .inl x1]) (h1 := hp L (ax_u2 s 84 0 0) c e) rfl ?_
            refine RuP.step (pc' := 145) (ls' := [some (.inr (.inr (some 84))), some (.inl x0), some (.inl x1)]) (st' := [.inl (ax_w32 (x1 - 3))]) (h1 := hp L (ax_u2 s 84 0 0) c e) rfl ?_
            refine RuP.step (pc' := 146) (ls' := [some (.inr (.inr (some 84))), some (.inl x0), some (.inl x1)]) (st' := [.inr (.inr (some 84)), .inl (ax_w32 (x1 - 3))]) (h1 := hp L (ax_u2 s 84 0 0) c e) rfl ?_
            refine RuP.step (pc' := 149) (ls' := [some (.inr (.inr (some 84))), some (.inl x0), some (.inl x1)]) (st' := [.inr (.inr (some 120)), .inl (ax_w32 (x1 - 3))]) (h1 := hp L (ax_u2 s 84 0 0) c e) rfl ?_
            refine RuP.step (pc' := 150) (ls' := [some (.inr (.inr (some 84))), some (.inl x0), some (.inl x1)]) (st' := [.inl x0, .inr (.inr (some 120)), .inl (ax_w32 (x1 - 3))]) (h1 := hp L (ax_u2 s 84 0 0) c e) rfl ?_
            obtain ⟨b5, h⟩ := gd_some h
            refine RuP.ald (f := fun t => t == 0) (j := x0) (a := 120) rfl rfl b5.1 b5.2 ?_
            by_cases h6 : s 120 x0.toNat ≤ ax_w32 (x1 - 3)
            · rw [if_pos h6] at h
              refine RuP.jy rfl h6 ?_
              refine RuP.step (pc' := 173) (ls' := [some (.inr (.inr (some 84))), some (.inl x0), some (.inl x1)]) (st' := [.inl (-1)]) (h1 := hp L (ax_u2 s 84 0 0) c e) rfl ?_
              cases h
              exact RuP.dI rfl
            · rw [if_neg h6] at h
              refine RuP.jn rfl h6 ?_
              refine RuP.step (pc' := 155) (ls' := [some (.inr (.inr (some 84))), some (.inl x0), some (.inl x1)]) (st' := [.inr (.inr (some 84))]) (h1 := hp L (ax_u2 s 84 0 0) c e) rfl ?_
              refine RuP.step (pc' := 158) (ls' := [some (.inr (.inr (some 84))), some (.inl x0), some (.inl x1)]) (st' := [.inr (.inr (some 125))]) (h1 := hp L (ax_u2 s 84 0 0) c e) rfl ?_
              refine RuP.step (pc' := 159) (ls' := [some (.inr (.inr (some 84))), some (.inl x0), some (.inl x1)]) (st' := [.inr (.inr (some 84)), .inr (.inr (some 125))]) (h1 := hp L (ax_u2 s 84 0 0) c e) rfl ?_
              refine RuP.step (pc' := 162) (ls' := [some (.inr (.inr (some 84))), some (.inl x0), some (.inl x1)]) (st' := [.inr (.inr (some 121)), .inr (.inr (some 125))]) (h1 := hp L (ax_u2 s 84 0 0) c e) rfl ?_
              refine RuP.step (pc' := 163) (ls' := [some (.inr (.inr (some 84))), some (.inl x0), some (.inl x1)]) (st' := [.inl x0, .inr (.inr (some 121)), .inr (.inr (some 125))]) (h1 := hp L (ax_u2 s 84 0 0) c e) rfl ?_
              obtain ⟨b7, h⟩ := gd_some h
              refine RuP.ald (f := fun t => t == 0) (j := x0) (a := 121) rfl rfl b7.1 b7.2 ?_
              refine RuP.step (pc' := 165) (ls' := [some (.inr (.inr (some 84))), some (.inl x0), some (.inl x1)]) (st' := [.inl x1, .inl (s 121 x0.toNat), .inr (.inr (some 125))]) (h1 := hp L (ax_u2 s 84 0 0) c e) rfl ?_
              refine RuP.step (pc' := 166) (ls' := [some (.inr (.inr (some 84))), some (.inl x0), some (.inl x1)]) (st' := [.inl (ax_w32 ((s 121 x0.toNat) + x1)), .inr (.inr (some 125))]) (h1 := hp L (ax_u2 s 84 0 0) c e) rfl ?_
              refine RuP.step (pc' := 167) (ls' := [some (.inr (.inr (some 84))), some (.inl x0), some (.inl x1)]) (st' := [.inl 3, .inl (ax_w32 ((s 121 x0.toNat) + x1)), .inr (.inr (some 125))]) (h1 := hp L (ax_u2 s 84 0 0) c e) rfl ?_
              refine RuP.step (pc' := 168) (ls' := [some (.inr (.inr (some 84))), some (.inl x0), some (.inl x1)]) (st' := [.inl (ax_w32 ((ax_w32 ((s 121 x0.toNat) + x1)) - 3)), .inr (.inr (some 125))]) (h1 := hp L (ax_u2 s 84 0 0) c e) rfl ?_
              obtain ⟨b8, h⟩ := gd_some h
              refine RuP.ald (f := fun t => t == 0) (j := ax_w32 ((ax_w32 ((s 121 x0.toNat) + x1)) - 3)) (a := 125) rfl rfl b8.1 b8.2 ?_
              refine RuP.step (pc' := 173) (ls' := [some (.inr (.inr (some 84))), some (.inl x0), some (.inl x1)]) (st' := [.inl (s 125 ((ax_w32 ((ax_w32 ((s 121 x0.toNat) + x1)) - 3)).toNat))]) (h1 := hp L (ax_u2 s 84 0 0) c e) rfl ?_
              cases h
              exact RuP.dI rfl
          · rw [if_neg h4] at h
            refine RuP.jn rfl h4 ?_
            refine RuP.step (pc' := 109) (ls' := [some (.inr (.inr (some 84))), some (.inl x0), some (.inl x1)]) (st' := [.inl x1]) (h1 := hp L (ax_u2 s 84 0 0) c e) rfl ?_
            by_cases h9 : ¬ x1 = 0
            · rw [if_pos h9] at h
              refine RuP.jy rfl h9 ?_
              refine RuP.step (pc' := 122) (ls' := [some (.inr (.inr (some 84))), some (.inl x0), some (.inl x1)]) (st' := [.inl x1]) (h1 := hp L (ax_u2 s 84 0 0) c e) rfl ?_
              refine RuP.step (pc' := 123) (ls' := [some (.inr (.inr (some 84))), some (.inl x0), some (.inl x1)]) (st' := [.inl 1, .inl x1]) (h1 := hp L (ax_u2 s 84 0 0) c e) rfl ?_
              by_cases h10 : ¬ x1 = 1
              · rw [if_pos h10] at h
                refine RuP.jy rfl h10 ?_
                refine RuP.step (pc' := 136) (ls' := [some (.inr (.inr (some 84))), some (.inl x0), some (.inl x1)]) (st' := [.inr (.inr (some 84))]) (h1 := hp L (ax_u2 s 84 0 0) c e) rfl ?_
                refine RuP.step (pc' := 139) (ls' := [some (.inr (.inr (some 84))), some (.inl x0), some (.inl x1)]) (st' := [.inr (.inr (some 120))]) (h1 := hp L (ax_u2 s 84 0 0) c e) rfl ?_
                refine RuP.step (pc' := 140) (ls' := [some (.inr (.inr (some 84))), some (.inl x0), some (.inl x1)]) (st' := [.inl x0, .inr (.inr (some 120))]) (h1 := hp L (ax_u2 s 84 0 0) c e) rfl ?_
                obtain ⟨b11, h⟩ := gd_some h
                refine RuP.ald (f := fun t => t == 0) (j := x0) (a := 120) rfl rfl b11.1 b11.2 ?_
                cases h
                exact RuP.dI rfl
              · rw [if_neg h10] at h
                refine RuP.jn rfl h10 ?_
                refine RuP.step (pc' := 127) (ls' := [some (.inr (.inr (some 84))), some (.inl x0), some (.inl x1)]) (st' := [.inr (.inr (some 84))]) (h1 := hp L (ax_u2 s 84 0 0) c e) rfl ?_
                refine RuP.step (pc' := 130) (ls' := [some (.inr (.inr (some 84))), some (.inl x0), some (.inl x1)]) (st' := [.inr (.inr (some 122))]) (h1 := hp L (ax_u2 s 84 0 0) c e) rfl ?_
                refine RuP.step (pc' := 131) (ls' := [some (.inr (.inr (some 84))), some (.inl x0), some (.inl x1)]) (st' := [.inl x0, .inr (.inr (some 122))]) (h1 := hp L (ax_u2 s 84 0 0) c e) rfl ?_
                obtain ⟨b12, h⟩ := gd_some h
                refine RuP.ald (f := fun t => t == 0) (j := x0) (a := 122) rfl rfl b12.1 b12.2 ?_
                refine RuP.step (pc' := 141) (ls' := [some (.inr (.inr (some 84))), some (.inl x0), some (.inl x1)]) (st' := [.inl (s 122 x0.toNat)]) (h1 := hp L (ax_u2 s 84 0 0) c e) rfl ?_
                cases h
                exact RuP.dI rfl
            · rw [if_neg h9] at h
              refine RuP.jn rfl h9 ?_
              refine RuP.step (pc' := 113) (ls' := [some (.inr (.inr (some 84))), some (.inl x0), some (.inl x1)]) (st' := [.inr (.inr (some 84))]) (h1 := hp L (ax_u2 s 84 0 0) c e) rfl ?_
              refine RuP.step (pc' := 116) (ls' := [some (.inr (.inr (some 84))), some (.inl x0), some (.inl x1)]) (st' := [.inr (.inr (some 116))]) (h1 := hp L (ax_u2 s 84 0 0) c e) rfl ?_
              refine RuP.step (pc' := 117) (ls' := [some (.inr (.inr (some 84))), some (.inl x0), some (.inl x1)]) (st' := [.inl x0, .inr (.inr (some 116))]) (h1 := hp L (ax_u2 s 84 0 0) c e) rfl ?_
              obtain ⟨b13, h⟩ := gd_some h
              refine RuP.ald (f := fun t => t == 0) (j := x0) (a := 116) rfl rfl b13.1 b13.2 ?_
              refine RuP.step (pc' := 141) (ls' := [some (.inr (.inr (some 84))), some (.inl x0), some (.inl x1)]) (st' := [.inl (s 116 x0.toNat)]) (h1 := hp L (ax_u2 s 84 0 0) c e) rfl ?_
              cases h
              exact RuP.dI rfl
        · rw [if_neg h3] at h
          refine RuP.jn rfl h3 ?_
          refine RuP.step (pc' := 54) (ls' := [some (.inr (.inr (some 84))), some (.inl x0), some (.inl x1)]) (st' := [.inr (.inr (some 84))]) (h1 := hp L (ax_u2 s 84 0 0) c e) rfl ?_
          refine RuP.step (pc' := 57) (ls' := [some (.inr (.inr (some 84))), some (.inl x0), some (.inl x1)]) (st' := [.inr (.inr (some 116))]) (h1 := hp L (ax_u2 s 84 0 0) c e) rfl ?_
          refine RuP.step (pc' := 58) (ls' := [some (.inr (.inr (some 84))), some (.inl x0), some (.inl x1)]) (st' := [.inl x0, .inr (.inr (some 116))]) (h1 := hp L (ax_u2 s 84 0 0) c e) rfl ?_
          obtain ⟨b14, h⟩ := gd_some h
          refine RuP.ald (f := fun t => t == 0) (j := x0) (a := 116) rfl rfl b14.1 b14.2 ?_
          by_cases h15 : ¬ (s 116 x0.toNat) = 0
          · rw [if_pos h15] at h
            refine RuP.jy rfl h15 ?_
            refine RuP.step (pc' := 77) (ls' := [some (.inr (.inr (some 84))), some (.inl x0), some (.inl x1)]) (st' := [.inr (.inr (some 84))]) (h1 := hp L (ax_u2 s 84 0 0) c e) rfl ?_
            refine RuP.step (pc' := 80) (ls' := [some (.inr (.inr (some 84))), some (.inl x0), some (.inl x1)]) (st' := [.inr (.inr (some 116))]) (h1 := hp L (ax_u2 s 84 0 0) c e) rfl ?_
            refine RuP.step (pc' := 81) (ls' := [some (.inr (.inr (some 84))), some (.inl x0), some (.inl x1)]) (st' := [.inl x0, .inr (.inr (some 116))]) (h1 := hp L (ax_u2 s 84 0 0) c e) rfl ?_
            obtain ⟨b16, h⟩ := gd_some h
            refine RuP.ald (f := fun t => t == 0) (j := x0) (a := 116) rfl rfl b16.1 b16.2 ?_
            refine RuP.step (pc' := 84) (ls' := [some (.inr (.inr (some 84))), some (.inl x0), some (.inl x1)]) (st' := [.inl 7, .inl (s 116 x0.toNat)]) (h1 := hp L (ax_u2 s 84 0 0) c e) rfl ?_
            by_cases h17 : ¬ (s 116 x0.toNat) = 7
            · rw [if_pos h17] at h
              refine RuP.jy rfl h17 ?_
              refine RuP.step (pc' := 102) (ls' := [some (.inr (.inr (some 84))), some (.inl x0), some (.inl x1)]) (st' := [.inl (-1)]) (h1 := hp L (ax_u2 s 84 0 0) c e) rfl ?_
              cases h
              exact RuP.dI rfl
            · rw [if_neg h17] at h
              refine RuP.jn rfl h17 ?_
              refine RuP.step (pc' := 88) (ls' := [some (.inr (.inr (some 84))), some (.inl x0), some (.inl x1)]) (st' := [.inr (.inr (some 84))]) (h1 := hp L (ax_u2 s 84 0 0) c e) rfl ?_
              refine RuP.step (pc' := 89) (ls' := [some (.inr (.inr (some 84))), some (.inl x0), some (.inl x1)]) (st' := [.inr (.inr (some 84)), .inr (.inr (some 84))]) (h1 := hp L (ax_u2 s 84 0 0) c e) rfl ?_
              refine RuP.step (pc' := 92) (ls' := [some (.inr (.inr (some 84))), some (.inl x0), some (.inl x1)]) (st' := [.inr (.inr (some 119)), .inr (.inr (some 84))]) (h1 := hp L (ax_u2 s 84 0 0) c e) rfl ?_
              refine RuP.step (pc' := 93) (ls' := [some (.inr (.inr (some 84))), some (.inl x0), some (.inl x1)]) (st' := [.inl x0, .inr (.inr (some 119)), .inr (.inr (some 84))]) (h1 := hp L (ax_u2 s 84 0 0) c e) rfl ?_
              obtain ⟨b18, h⟩ := gd_some h
              refine RuP.ald (f := fun t => t == 0) (j := x0) (a := 119) rfl rfl b18.1 b18.2 ?_
              obtain ⟨q2, h1, h⟩ := bd_some h
              refine RuP.cJ rfl ((ev_218 h1).up (by decide)) ?_
              refine RuP.step (pc' := 98) (ls' := [some (.inr (.inr (some 84))), some (.inl x0), some (.inl x1)]) (st' := [.inl (ax_w32 q2)]) (h1 := hp L (ax_u2 s 84 0 0) c e) rfl ?_
              refine RuP.step (pc' := 102) (ls' := [some (.inr (.inr (some 84))), some (.inl x0), some (.inl x1)]) (st' := [.inl (ax_w32 q2)]) (h1 := hp L (ax_u2 s 84 0 0) c e) rfl ?_
              cases h
              exact RuP.dI rfl
          · rw [if_neg h15] at h
            refine RuP.jn rfl h15 ?_
            refine RuP.step (pc' := 63) (ls' := [some (.inr (.inr (some 84))), some (.inl x0), some (.inl x1)]) (st' := [.inr (.inr (some 84))]) (h1 := hp L (ax_u2 s 84 0 0) c e) rfl ?_
            refine RuP.step (pc' := 64) (ls' := [some (.inr (.inr (some 84))), some (.inl x0), some (.inl x1)]) (st' := [.inr (.inr (some 84)), .inr (.inr (some 84))]) (h1 := hp L (ax_u2 s 84 0 0) c e) rfl ?_
            refine RuP.step (pc' := 67) (ls' := [some (.inr (.inr (some 84))), some (.inl x0), some (.inl x1)]) (st' := [.inr (.inr (some 118)), .inr (.inr (some 84))]) (h1 := hp L (ax_u2 s 84 0 0) c e) rfl ?_
            refine RuP.step (pc' := 68) (ls' := [some (.inr (.inr (some 84))), some (.inl x0), some (.inl x1)]) (st' := [.inl x0, .inr (.inr (some 118)), .inr (.inr (some 84))]) (h1 := hp L (ax_u2 s 84 0 0) c e) rfl ?_
            obtain ⟨b19, h⟩ := gd_some h
            refine RuP.ald (f := fun t => t == 0) (j := x0) (a := 118) rfl rfl b19.1 b19.2 ?_
            obtain ⟨q3, h1, h⟩ := bd_some h
            refine RuP.cJ rfl ((ev_218 h1).up (by decide)) ?_
            refine RuP.step (pc' := 73) (ls' := [some (.inr (.inr (some 84))), some (.inl x0), some (.inl x1)]) (st' := [.inl (ax_w32 q3)]) (h1 := hp L (ax_u2 s 84 0 0) c e) rfl ?_
            refine RuP.step (pc' := 102) (ls' := [some (.inr (.inr (some 84))), some (.inl x0), some (.inl x1)]) (st' := [.inl (ax_w32 q3)]) (h1 := hp L (ax_u2 s 84 0 0) c e) rfl ?_
            cases h
            exact RuP.dI rfl
      · rw [if_neg h2] at h
        refine RuP.jn rfl h2 ?_
        exact bl_200_42 _ _ _ _ h
/-- MachineTextModel.print()I -/
noncomputable def j_202_152 (k29 : (Int → Int → Int → Sg → Option (Int × Sg))) (l1 l2 l3 : Int) (s : Sg) : Option (Int × Sg) :=
  k29 l1 l2 (ax_w32 (l3 + 1)) s
theorem bl_202_152 {L c : Nat} {e : Nat → Nat} {k29 : (Int → Int → Int → Sg → Option (Int × Sg))} (hk29 : ∀ (d4 : Option ax_V) (l1 l2 l3 : Int) (s : Sg) (q : Int × Sg), k29 l1 l2 l3 s = some q → RuP 4 tb_m202 29 [some (.inr (.inr (some 84))), some (.inl l1), some (.inl l2), some (.inl l3), d4] [] (hp L s c e) (oI L c e q)) : ∀ (d4 : Option ax_V) (l1 l2 l3 : Int) (s : Sg) (q : Int × Sg), j_202_152 k29 l1 l2 l3 s = some q → RuP 4 tb_m202 152 [some (.inr (.inr (some 84))), some (.inl l1), some (.inl l2), some (.inl l3), d4] [] (hp L s c e) (oI L c e q) := by
  intro d4 l1 l2 l3 s q h
  unfold j_202_152 at h
  refine RuP.step (pc' := 155) (ls' := [some (.inr (.inr (some 84))), some (.inl l1), some (.inl l2), some (.inl (ax_w32 (l3 + 1))), d4]) (st' := []) (h1 := hp L s c e) rfl ?_
  refine RuP.step (pc' := 29) (ls' := [some (.inr (.inr (some 84))), some (.inl l1), some (.inl l2), some (.inl (ax_w32 (l3 + 1))), d4]) (st' := []) (h1 := hp L s c e) rfl ?_
  exact hk29 _ _ _ _ _ _ h
noncomputable def j_202_137 (k29 : (Int → Int → Int → Sg → Option (Int × Sg))) (l1 l2 l3 t0 : Int) (s : Sg) : Option (Int × Sg) :=
  (if t0 = 0 then
    j_202_152 k29 l1 l2 l3 s
  else
    (gd (g_221 10 s) (
    ((some (f_221 10 s)).bind fun q2 =>
    j_202_152 k29 (-1) l2 l3 q2))))
theorem bl_202_137 {L c : Nat} {e : Nat → Nat} {k29 : (Int → Int → Int → Sg → Option (Int × Sg))} (hk29 : ∀ (d4 : Option ax_V) (l1 l2 l3 : Int) (s : Sg) (q : Int × Sg), k29 l1 l2 l3 s = some q → RuP 4 tb_m202 29 [some (.inr (.inr (some 84))), some (.inl l1), some (.inl l2), some (.inl l3), d4] [] (hp L s c e) (oI L c e q)) : ∀ (d4 : Option ax_V) (l1 l2 l3 t0 : Int) (s : Sg) (q : Int × Sg), j_202_137 k29 l1 l2 l3 t0 s = some q → RuP 4 tb_m202 137 [some (.inr (.inr (some 84))), some (.inl l1), some (.inl l2), some (.inl l3), d4] [.inl t0] (hp L s c e) (oI L c e q) := by
  intro d4 l1 l2 l3 t0 s q h
  unfold j_202_137 at h
  refine RuP.step (pc' := 139) (ls' := [some (.inr (.inr (some 84))), some (.inl l1), some (.inl l2), some (.inl l3), some (.inl t0)]) (st' := []) (h1 := hp L s c e) rfl ?_
  refine RuP.step (pc' := 141) (ls' := [some (.inr (.inr (some 84))), some (.inl l1), some (.inl l2), some (.inl l3), some (.inl t0)]) (st' := [.inl t0]) (h1 := hp L s c e) rfl ?_
  by_cases h0 : t0 = 0
  · rw [if_pos h0] at h
    refine RuP.jy rfl h0 ?_
    exact bl_202_152 hk29 _ _ _ _ _ _ h
  · rw [if_neg h0] at h
    refine RuP.jn rfl h0 ?_
    refine RuP.step (pc' := 145) (ls' := [some (.inr (.inr (some 84))), some (.inl l1), some (.inl l2), some (.inl l3), some (.inl t0)]) (st' := [.inr (.inr (some 84))]) (h1 := hp L s c e) rfl ?_
    refine RuP.step (pc' := 147) (ls' := [some (.inr (.inr (some 84))), some (.inl l1), some (.inl l2), some (.inl l3), some (.inl t0)]) (st' := [.inl 10, .inr (.inr (some 84))]) (h1 := hp L s c e) rfl ?_
    obtain ⟨b1, h⟩ := gd_some h
    obtain ⟨q2, h1, h⟩ := bd_some h
    refine RuP.cVe h1 rfl (EvP.v ((ev_221 10 b1).up (by decide))) ?_
    refine RuP.step (pc' := 151) (ls' := [some (.inr (.inr (some 84))), some (.inl l1), some (.inl l2), some (.inl l3), some (.inl t0)]) (st' := [.inl (-1)]) (h1 := hp L q2 c e) rfl ?_
    refine RuP.step (pc' := 152) (ls' := [some (.inr (.inr (some 84))), some (.inl (-1)), some (.inl l2), some (.inl l3), some (.inl t0)]) (st' := []) (h1 := hp L q2 c e) rfl ?_
    exact bl_202_152 hk29 _ _ _ _ _ _ h
noncomputable def j_202_136 (k29 : (Int → Int → Int → Sg → Option (Int × Sg))) (l1 l2 l3 : Int) (s : Sg) : Option (Int × Sg) :=
  j_202_137 k29 l1 l2 l3 0 s
theorem bl_202_136 {L c : Nat} {e : Nat → Nat} {k29 : (Int → Int → Int → Sg → Option (Int × Sg))} (hk29 : ∀ (d4 : Option ax_V) (l1 l2 l3 : Int) (s : Sg) (q : Int × Sg), k29 l1 l2 l3 s = some q → RuP 4 tb_m202 29 [some (.inr (.inr (some 84))), some (.inl l1), some (.inl l2), some (.inl l3), d4] [] (hp L s c e) (oI L c e q)) : ∀ (d4 : Option ax_V) (l1 l2 l3 : Int) (s : Sg) (q : Int × Sg), j_202_136 k29 l1 l2 l3 s = some q → RuP 4 tb_m202 136 [some (.inr (.inr (some 84))), some (.inl l1), some (.inl l2), some (.inl l3), d4] [] (hp L s c e) (oI L c e q) := by
  intro d4 l1 l2 l3 s q h
  unfold j_202_136 at h
  refine RuP.step (pc' := 137) (ls' := [some (.inr (.inr (some 84))), some (.inl l1), some (.inl l2), some (.inl l3), d4]) (st' := [.inl 0]) (h1 := hp L s c e) rfl ?_
  exact bl_202_137 hk29 _ _ _ _ _ _ _ h
noncomputable def j_202_132 (k29 : (Int → Int → Int → Sg → Option (Int × Sg))) (l1 l2 l3 : Int) (s : Sg) : Option (Int × Sg) :=
  j_202_137 k29 l1 l2 l3 1 s
theorem bl_202_132 {L c : Nat} {e : Nat → Nat} {k29 : (Int → Int → Int → Sg → Option (Int × Sg))} (hk29 : ∀ (d4 : Option ax_V) (l1 l2 l3 : Int) (s : Sg) (q : Int × Sg), k29 l1 l2 l3 s = some q → RuP 4 tb_m202 29 [some (.inr (.inr (some 84))), some (.inl l1), some (.inl l2), some (.inl l3), d4] [] (hp L s c e) (oI L c e q)) : ∀ (d4 : Option ax_V) (l1 l2 l3 : Int) (s : Sg) (q : Int × Sg), j_202_132 k29 l1 l2 l3 s = some q → RuP 4 tb_m202 132 [some (.inr (.inr (some 84))), some (.inl l1), some (.inl l2), some (.inl l3), d4] [] (hp L s c e) (oI L c e q) := by
  intro d4 l1 l2 l3 s q h
  unfold j_202_132 at h
  refine RuP.step (pc' := 133) (ls' := [some (.inr (.inr (some 84))), some (.inl l1), some (.inl l2), some (.inl l3), d4]) (st' := [.inl 1]) (h1 := hp L s c e) rfl ?_
  refine RuP.step (pc' := 137) (ls' := [some (.inr (.inr (some 84))), some (.inl l1), some (.inl l2), some (.inl l3), d4]) (st' := [.inl 1]) (h1 := hp L s c e) rfl ?_
  exact bl_202_137 hk29 _ _ _ _ _ _ _ h
noncomputable def j_202_104 (k29 : (Int → Int → Int → Sg → Option (Int × Sg))) (l1 l3 t0 t1 : Int) (s : Sg) : Option (Int × Sg) :=
  (if ¬ (ax_w32 (t1 + t0)) = 0 then
    j_202_136 k29 l1 (ax_w32 (t1 + t0)) l3 s
  else
    (gd (0 ≤ l3 ∧ l3 < 8200) (
    (if s 88 l3.toNat = 7 then
      j_202_132 k29 l1 (ax_w32 (t1 + t0)) l3 s
    else
      (gd (0 ≤ l3 ∧ l3 < 8200) (
      j_202_137 k29 l1 (ax_w32 (t1 + t0)) l3 ((if ¬ (s 88 l3.toNat) = 14 then 0 else 1) : Int) s))))))
theorem bl_202_104 {L c : Nat} {e : Nat → Nat} {k29 : (Int → Int → Int → Sg → Option (Int × Sg))} (hk29 : ∀ (d4 : Option ax_V) (l1 l2 l3 : Int) (s : Sg) (q : Int × Sg), k29 l1 l2 l3 s = some q → RuP 4 tb_m202 29 [some (.inr (.inr (some 84))), some (.inl l1), some (.inl l2), some (.inl l3), d4] [] (hp L s c e) (oI L c e q)) : ∀ (d4 : Option ax_V) (z2 : Int) (l1 l3 t0 t1 : Int) (s : Sg) (q : Int × Sg), j_202_104 k29 l1 l3 t0 t1 s = some q → RuP 4 tb_m202 104 [some (.inr (.inr (some 84))), some (.inl l1), some (.inl z2), some (.inl l3), d4] [.inl t0, .inl t1] (hp L s c e) (oI L c e q) := by
  intro d4 z2 l1 l3 t0 t1 s q h
  unfold j_202_104 at h
  refine RuP.step (pc' := 105) (ls' := [some (.inr (.inr (some 84))), some (.inl l1), some (.inl z2), some (.inl l3), d4]) (st' := [.inl (ax_w32 (t1 + t0))]) (h1 := hp L s c e) rfl ?_
  refine RuP.step (pc' := 106) (ls' := [some (.inr (.inr (some 84))), some (.inl l1), some (.inl (ax_w32 (t1 + t0))), some (.inl l3), d4]) (st' := []) (h1 := hp L s c e) rfl ?_
  refine RuP.step (pc' := 107) (ls' := [some (.inr (.inr (some 84))), some (.inl l1), some (.inl (ax_w32 (t1 + t0))), some (.inl l3), d4]) (st' := [.inl (ax_w32 (t1 + t0))]) (h1 := hp L s c e) rfl ?_
  by_cases h0 : ¬ (ax_w32 (t1 + t0)) = 0
  · rw [if_pos h0] at h
    refine RuP.jy rfl h0 ?_
    exact bl_202_136 hk29 _ _ _ _ _ _ h
  · rw [if_neg h0] at h
    refine RuP.jn rfl h0 ?_
    refine RuP.step (pc' := 111) (ls' := [some (.inr (.inr (some 84))), some (.inl l1), some (.inl (ax_w32 (t1 + t0))), some (.inl l3), d4]) (st' := [.inr (.inr (some 84))]) (h1 := hp L s c e) rfl ?_
    refine RuP.step (pc' := 114) (ls' := [some (.inr (.inr (some 84))), some (.inl l1), some (.inl (ax_w32 (t1 + t0))), some (.inl l3), d4]) (st' := [.inr (.inr (some 88))]) (h1 := hp L s c e) rfl ?_
    refine RuP.step (pc' := 115) (ls' := [some (.inr (.inr (some 84))), some (.inl l1), some (.inl (ax_w32 (t1 + t0))), some (.inl l3), d4]) (st' := [.inl l3, .inr (.inr (some 88))]) (h1 := hp L s c e) rfl ?_
    obtain ⟨b1, h⟩ := gd_some h
    refine RuP.ald (f := fun t => t == 0) (j := l3) (a := 88) rfl rfl b1.1 b1.2 ?_
    refine RuP.step (pc' := 118) (ls' := [some (.inr (.inr (some 84))), some (.inl l1), some (.inl (ax_w32 (t1 + t0))), some (.inl l3), d4]) (st' := [.inl 7, .inl (s 88 l3.toNat)]) (h1 := hp L s c e) rfl ?_
    by_cases h2 : s 88 l3.toNat = 7
    · rw [if_pos h2] at h
      refine RuP.jy rfl h2 ?_
      exact bl_202_132 hk29 _ _ _ _ _ _ h
    · rw [if_neg h2] at h
      refine RuP.jn rfl h2 ?_
      refine RuP.step (pc' := 122) (ls' := [some (.inr (.inr (some 84))), some (.inl l1), some (.inl (ax_w32 (t1 + t0))), some (.inl l3), d4]) (st' := [.inr (.inr (some 84))]) (h1 := hp L s c e) rfl ?_
      refine RuP.step (pc' := 125) (ls' := [some (.inr (.inr (some 84))), some (.inl l1), some (.inl (ax_w32 (t1 + t0))), some (.inl l3), d4]) (st' := [.inr (.inr (some 88))]) (h1 := hp L s c e) rfl ?_
      refine RuP.step (pc' := 126) (ls' := [some (.inr (.inr (some 84))), some (.inl l1), some (.inl (ax_w32 (t1 + t0))), some (.inl l3), d4]) (st' := [.inl l3, .inr (.inr (some 88))]) (h1 := hp L s c e) rfl ?_
      obtain ⟨b3, h⟩ := gd_some h
      refine RuP.ald (f := fun t => t == 0) (j := l3) (a := 88) rfl rfl b3.1 b3.2 ?_
      refine RuP.step (pc' := 129) (ls' := [some (.inr (.inr (some 84))), some (.inl l1), some (.inl (ax_w32 (t1 + t0))), some (.inl l3), d4]) (st' := [.inl 14, .inl (s 88 l3.toNat)]) (h1 := hp L s c e) rfl ?_
      have J5 : ∀ v4_0 : Int, v4_0 = ((if ¬ (s 88 l3.toNat) = 14 then 0 else 1) : Int) → RuP 4 tb_m202 137 [some (.inr (.inr (some 84))), some (.inl l1), some (.inl (ax_w32 (t1 + t0))), some (.inl l3), d4] [.inl v4_0] (hp L s c e) (oI L c e q) := by
        intro v4_0 ev4_0
        subst ev4_0
        exact bl_202_137 hk29 _ _ _ _ _ _ _ h
      by_cases h5 : ¬ (s 88 l3.toNat) = 14
      · refine RuP.jy rfl h5 ?_
        refine RuP.step (pc' := 137) (ls' := [some (.inr (.inr (some 84))), some (.inl l1), some (.inl (ax_w32 (t1 + t0))), some (.inl l3), d4]) (st' := [.inl 0]) (h1 := hp L s c e) rfl ?_
        exact J5 _ (by simp only [if_pos h5])
      · refine RuP.jn rfl h5 ?_
        refine RuP.step (pc' := 133) (ls' := [some (.inr (.inr (some 84))), some (.inl l1), some (.inl (ax_w32 (t1 + t0))), some (.inl l3), d4]) (st' := [.inl 1]) (h1 := hp L s c e) rfl ?_
        refine RuP.step (pc' := 137) (ls' := [some (.inr (.inr (some 84))), some (.inl l1), some (.inl (ax_w32 (t1 + t0))), some (.inl l3), d4]) (st' := [.inl 1]) (h1 := hp L s c e) rfl ?_
        exact J5 _ (by simp only [if_neg h5])
noncomputable def j_202_65 (k29 : (Int → Int → Int → Sg → Option (Int × Sg))) (l2 l3 : Int) (s : Sg) : Option (Int × Sg) :=
  ((f_222 l3 s).bind fun q1 =>
  (gd (0 ≤ l3 ∧ l3 < 8200) (
  (if ¬ (q1 88 l3.toNat) = 13 then
    (gd (0 ≤ l3 ∧ l3 < 8200) (
    j_202_104 k29 l3 l3 ((if ¬ (q1 88 l3.toNat) = 14 then 0 else (-1)) : Int) l2 q1))
  else
    j_202_104 k29 l3 l3 1 l2 q1))))
theorem bl_202_65 {L c : Nat} {e : Nat → Nat} {k29 : (Int → Int → Int → Sg → Option (Int × Sg))} (hk29 : ∀ (d4 : Option ax_V) (l1 l2 l3 : Int) (s : Sg) (q : Int × Sg), k29 l1 l2 l3 s = some q → RuP 4 tb_m202 29 [some (.inr (.inr (some 84))), some (.inl l1), some (.inl l2), some (.inl l3), d4] [] (hp L s c e) (oI L c e q)) : ∀ (d4 : Option ax_V) (z1 : Int) (l2 l3 : Int) (s : Sg) (q : Int × Sg), j_202_65 k29 l2 l3 s = some q → RuP 4 tb_m202 65 [some (.inr (.inr (some 84))), some (.inl z1), some (.inl l2), some (.inl l3), d4] [] (hp L s c e) (oI L c e q) := by
  intro d4 z1 l2 l3 s q h
  unfold j_202_65 at h
  refine RuP.step (pc' := 66) (ls' := [some (.inr (.inr (some 84))), some (.inl z1), some (.inl l2), some (.inl l3), d4]) (st' := [.inr (.inr (some 84))]) (h1 := hp L s c e) rfl ?_
  refine RuP.step (pc' := 67) (ls' := [some (.inr (.inr (some 84))), some (.inl z1), some (.inl l2), some (.inl l3), d4]) (st' := [.inl l3, .inr (.inr (some 84))]) (h1 := hp L s c e) rfl ?_
  obtain ⟨q1, h1, h⟩ := bd_some h
  refine RuP.cV rfl ((ev_222 h1).up (by decide)) ?_
  refine RuP.step (pc' := 71) (ls' := [some (.inr (.inr (some 84))), some (.inl z1), some (.inl l2), some (.inl l3), d4]) (st' := [.inl l3]) (h1 := hp L q1 c e) rfl ?_
  refine RuP.step (pc' := 72) (ls' := [some (.inr (.inr (some 84))), some (.inl l3), some (.inl l2), some (.inl l3), d4]) (st' := []) (h1 := hp L q1 c e) rfl ?_
  refine RuP.step (pc' := 73) (ls' := [some (.inr (.inr (some 84))), some (.inl l3), some (.inl l2), some (.inl l3), d4]) (st' := [.inl l2]) (h1 := hp L q1 c e) rfl ?_
  refine RuP.step (pc' := 74) (ls' := [some (.inr (.inr (some 84))), some (.inl l3), some (.inl l2), some (.inl l3), d4]) (st' := [.inr (.inr (some 84)), .inl l2]) (h1 := hp L q1 c e) rfl ?_
  refine RuP.step (pc' := 77) (ls' := [some (.inr (.inr (some 84))), some (.inl l3), some (.inl l2), some (.inl l3), d4]) (st' := [.inr (.inr (some 88)), .inl l2]) (h1 := hp L q1 c e) rfl ?_
  refine RuP.step (pc' := 78) (ls' := [some (.inr (.inr (some 84))), some (.inl l3), some (.inl l2), some (.inl l3), d4]) (st' := [.inl l3, .inr (.inr (some 88)), .inl l2]) (h1 := hp L q1 c e) rfl ?_
  obtain ⟨b0, h⟩ := gd_some h
  refine RuP.ald (f := fun t => t == 0) (j := l3) (a := 88) rfl rfl b0.1 b0.2 ?_
  refine RuP.step (pc' := 81) (ls' := [some (.inr (.inr (some 84))), some (.inl l3), some (.inl l2), some (.inl l3), d4]) (st' := [.inl 13, .inl (q1 88 l3.toNat), .inl l2]) (h1 := hp L q1 c e) rfl ?_
  by_cases h1 : ¬ (q1 88 l3.toNat) = 13
  · rw [if_pos h1] at h
    refine RuP.jy rfl h1 ?_
    refine RuP.step (pc' := 89) (ls' := [some (.inr (.inr (some 84))), some (.inl l3), some (.inl l2), some (.inl l3), d4]) (st' := [.inr (.inr (some 84)), .inl l2]) (h1 := hp L q1 c e) rfl ?_
    refine RuP.step (pc' := 92) (ls' := [some (.inr (.inr (some 84))), some (.inl l3), some (.inl l2), some (.inl l3), d4]) (st' := [.inr (.inr (some 88)), .inl l2]) (h1 := hp L q1 c e) rfl ?_
    refine RuP.step (pc' := 93) (ls' := [some (.inr (.inr (some 84))), some (.inl l3), some (.inl l2), some (.inl l3), d4]) (st' := [.inl l3, .inr (.inr (some 88)), .inl l2]) (h1 := hp L q1 c e) rfl ?_
    obtain ⟨b2, h⟩ := gd_some h
    refine RuP.ald (f := fun t => t == 0) (j := l3) (a := 88) rfl rfl b2.1 b2.2 ?_
    refine RuP.step (pc' := 96) (ls' := [some (.inr (.inr (some 84))), some (.inl l3), some (.inl l2), some (.inl l3), d4]) (st' := [.inl 14, .inl (q1 88 l3.toNat), .inl l2]) (h1 := hp L q1 c e) rfl ?_
    have J4 : ∀ v3_0 : Int, v3_0 = ((if ¬ (q1 88 l3.toNat) = 14 then 0 else (-1)) : Int) → RuP 4 tb_m202 104 [some (.inr (.inr (some 84))), some (.inl l3), some (.inl l2), some (.inl l3), d4] [.inl v3_0, .inl l2] (hp L q1 c e) (oI L c e q) := by
      intro v3_0 ev3_0
      subst ev3_0
      exact bl_202_104 hk29 _ _ _ _ _ _ _ _ h
    by_cases h4 : ¬ (q1 88 l3.toNat) = 14
    · refine RuP.jy rfl h4 ?_
      refine RuP.step (pc' := 104) (ls' := [some (.inr (.inr (some 84))), some (.inl l3), some (.inl l2), some (.inl l3), d4]) (st' := [.inl 0, .inl l2]) (h1 := hp L q1 c e) rfl ?_
      exact J4 _ (by simp only [if_pos h4])
    · refine RuP.jn rfl h4 ?_
      refine RuP.step (pc' := 100) (ls' := [some (.inr (.inr (some 84))), some (.inl l3), some (.inl l2), some (.inl l3), d4]) (st' := [.inl (-1), .inl l2]) (h1 := hp L q1 c e) rfl ?_
      refine RuP.step (pc' := 104) (ls' := [some (.inr (.inr (some 84))), some (.inl l3), some (.inl l2), some (.inl l3), d4]) (st' := [.inl (-1), .inl l2]) (h1 := hp L q1 c e) rfl ?_
      exact J4 _ (by simp only [if_neg h4])
  · rw [if_neg h1] at h
    refine RuP.jn rfl h1 ?_
    refine RuP.step (pc' := 85) (ls' := [some (.inr (.inr (some 84))), some (.inl l3), some (.inl l2), some (.inl l3), d4]) (st' := [.inl 1, .inl l2]) (h1 := hp L q1 c e) rfl ?_
    refine RuP.step (pc' := 104) (ls' := [some (.inr (.inr (some 84))), some (.inl l3), some (.inl l2), some (.inl l3), d4]) (st' := [.inl 1, .inl l2]) (h1 := hp L q1 c e) rfl ?_
    exact bl_202_104 hk29 _ _ _ _ _ _ _ _ h
noncomputable def j_202_29 : Nat → Int → Int → Int → Sg → Option (Int × Sg)
  | 0, _, _, _, _ => none
  | F + 1, l1, l2, l3, s =>
    (if s 84 11 ≤ l3 then
      some (s 84 9, s)
    else
      (gd (0 ≤ l3 ∧ l3 < 8200) (
      (if ¬ (s 91 l3.toNat) = 0 then
        j_202_152 (j_202_29 F) l1 l2 l3 s
      else
        (if l1 < 0 then
          j_202_65 (j_202_29 F) l2 l3 s
        else
          ((f_220 l1 l3 s).bind fun q3 =>
          (if q3 = 0 then
            j_202_65 (j_202_29 F) l2 l3 s
          else
            (gd (g_221 32 s) (
            ((some (f_221 32 s)).bind fun q4 =>
            j_202_65 (j_202_29 F) l2 l3 q4))))))))))
theorem bl_202_29 {L c : Nat} {e : Nat → Nat} : ∀ (F : Nat) (d4 : Option ax_V) (l1 l2 l3 : Int) (s : Sg) (q : Int × Sg), j_202_29 F l1 l2 l3 s = some q → RuP 4 tb_m202 29 [some (.inr (.inr (some 84))), some (.inl l1), some (.inl l2), some (.inl l3), d4] [] (hp L s c e) (oI L c e q) := by
  intro F
  induction F with
  | zero =>
    intro d4 l1 l2 l3 s q h
    rw [j_202_29] at h
    cases h
  | succ F ih =>
    intro d4 l1 l2 l3 s q h
    rw [j_202_29] at h
    refine RuP.step (pc' := 30) (ls' := [some (.inr (.inr (some 84))), some (.inl l1), some (.inl l2), some (.inl l3), d4]) (st' := [.inl l3]) (h1 := hp L s c e) rfl ?_
    refine RuP.step (pc' := 31) (ls' := [some (.inr (.inr (some 84))), some (.inl l1), some (.inl l2), some (.inl l3), d4]) (st' := [.inr (.inr (some 84)), .inl l3]) (h1 := hp L s c e) rfl ?_
    refine RuP.step (pc' := 34) (ls' := [some (.inr (.inr (some 84))), some (.inl l1), some (.inl l2), some (.inl l3), d4]) (st' := [.inl (s 84 11), .inl l3]) (h1 := hp L s c e) rfl ?_
    by_cases h0 : s 84 11 ≤ l3
    · rw [if_pos h0] at h
      refine RuP.jy rfl h0 ?_
      refine RuP.step (pc' := 159) (ls' := [some (.inr (.inr (some 84))), some (.inl l1), some (.inl l2), some (.inl l3), d4]) (st' := [.inr (.inr (some 84))]) (h1 := hp L s c e) rfl ?_
      refine RuP.step (pc' := 162) (ls' := [some (.inr (.inr (some 84))), some (.inl l1), some (.inl l2), some (.inl l3), d4]) (st' := [.inl (s 84 9)]) (h1 := hp L s c e) rfl ?_
      cases h
      exact RuP.dI rfl
    · rw [if_neg h0] at h
      refine RuP.jn rfl h0 ?_
      refine RuP.step (pc' := 38) (ls' := [some (.inr (.inr (some 84))), some (.inl l1), some (.inl l2), some (.inl l3), d4]) (st' := [.inr (.inr (some 84))]) (h1 := hp L s c e) rfl ?_
      refine RuP.step (pc' := 41) (ls' := [some (.inr (.inr (some 84))), some (.inl l1), some (.inl l2), some (.inl l3), d4]) (st' := [.inr (.inr (some 91))]) (h1 := hp L s c e) rfl ?_
      refine RuP.step (pc' := 42) (ls' := [some (.inr (.inr (some 84))), some (.inl l1), some (.inl l2), some (.inl l3), d4]) (st' := [.inl l3, .inr (.inr (some 91))]) (h1 := hp L s c e) rfl ?_
      obtain ⟨b1, h⟩ := gd_some h
      refine RuP.ald (f := fun t => t == 1 || t == 3) (j := l3) (a := 91) rfl rfl b1.1 b1.2 ?_
      by_cases h2 : ¬ (s 91 l3.toNat) = 0
      · rw [if_pos h2] at h
        refine RuP.jy rfl h2 ?_
        exact bl_202_152 ih _ _ _ _ _ _ h
      · rw [if_neg h2] at h
        refine RuP.jn rfl h2 ?_
        refine RuP.step (pc' := 47) (ls' := [some (.inr (.inr (some 84))), some (.inl l1), some (.inl l2), some (.inl l3), d4]) (st' := [.inl l1]) (h1 := hp L s c e) rfl ?_
        by_cases h3 : l1 < 0
        · rw [if_pos h3] at h
          refine RuP.jy rfl h3 ?_
          exact bl_202_65 ih _ _ _ _ _ _ h
        · rw [if_neg h3] at h
          refine RuP.jn rfl h3 ?_
          refine RuP.step (pc' := 51) (ls' := [some (.inr (.inr (some 84))), some (.inl l1), some (.inl l2), some (.inl l3), d4]) (st' := [.inr (.inr (some 84))]) (h1 := hp L s c e) rfl ?_
          refine RuP.step (pc' := 52) (ls' := [some (.inr (.inr (some 84))), some (.inl l1), some (.inl l2), some (.inl l3), d4]) (st' := [.inl l1, .inr (.inr (some 84))]) (h1 := hp L s c e) rfl ?_
          refine RuP.step (pc' := 53) (ls' := [some (.inr (.inr (some 84))), some (.inl l1), some (.inl l2), some (.inl l3), d4]) (st' := [.inl l3, .inl l1, .inr (.inr (some 84))]) (h1 := hp L s c e) rfl ?_
          obtain ⟨q3, h1, h⟩ := bd_some h
          refine RuP.cI rfl ((ev_220 h1).up (by decide)) ?_
          by_cases h4 : q3 = 0
          · rw [if_pos h4] at h
            refine RuP.jy rfl h4 ?_
            exact bl_202_65 ih _ _ _ _ _ _ h
          · rw [if_neg h4] at h
            refine RuP.jn rfl h4 ?_
            refine RuP.step (pc' := 60) (ls' := [some (.inr (.inr (some 84))), some (.inl l1), some (.inl l2), some (.inl l3), d4]) (st' := [.inr (.inr (some 84))]) (h1 := hp L s c e) rfl ?_
            refine RuP.step (pc' := 62) (ls' := [some (.inr (.inr (some 84))), some (.inl l1), some (.inl l2), some (.inl l3), d4]) (st' := [.inl 32, .inr (.inr (some 84))]) (h1 := hp L s c e) rfl ?_
            obtain ⟨b5, h⟩ := gd_some h
            obtain ⟨q4, h1, h⟩ := bd_some h
            refine RuP.cVe h1 rfl (EvP.v ((ev_221 32 b5).up (by decide))) ?_
            exact bl_202_65 ih _ _ _ _ _ _ h
noncomputable def f_202 (s : Sg) : Option (Int × Sg) :=
  (if ¬ (s 84 5) = 0 then
    j_202_29 FU (-1) 0 0 (ax_u2 (ax_u2 s 84 0 0) 84 9 0)
  else
    ((some (f_206 1 (ax_u2 s 84 0 0))).bind fun q5 =>
    some (q5.1, q5.2)))
theorem ev_202 {L c : Nat} {e : Nat → Nat} {s : Sg} {q : Int × Sg} (h : f_202 s = some q) : EvP 5 202 [.inr (.inr (some 84))] (hp L s c e) (oI L c e q) := by
  unfold f_202 at h
  refine EvP.of (μ := tb_m202) (ls := [some (.inr (.inr (some 84))), none, none, none, none]) rfl (Nat.le_of_ble_eq_true rfl) rfl ?_
  refine RuP.step (pc' := 1) (ls' := [some (.inr (.inr (some 84))), none, none, none, none]) (st' := [.inr (.inr (some 84))]) (h1 := hp L s c e) rfl ?_
  refine RuP.step (pc' := 2) (ls' := [some (.inr (.inr (some 84))), none, none, none, none]) (st' := [.inl 0, .inr (.inr (some 84))]) (h1 := hp L s c e) rfl ?_
  refine RuP.step (pc' := 5) (ls' := [some (.inr (.inr (some 84))), none, none, none, none]) (st' := []) (h1 := hp L (ax_u2 s 84 0 0) c e) rfl ?_
  refine RuP.step (pc' := 6) (ls' := [some (.inr (.inr (some 84))), none, none, none, none]) (st' := [.inr (.inr (some 84))]) (h1 := hp L (ax_u2 s 84 0 0) c e) rfl ?_
  refine RuP.step (pc' := 9) (ls' := [some (.inr (.inr (some 84))), none, none, none, none]) (st' := [.inl (s 84 5)]) (h1 := hp L (ax_u2 s 84 0 0) c e) rfl ?_
  by_cases h0 : ¬ (s 84 5) = 0
  · rw [if_pos h0] at h
    refine RuP.jy rfl h0 ?_
    refine RuP.step (pc' := 19) (ls' := [some (.inr (.inr (some 84))), none, none, none, none]) (st' := [.inr (.inr (some 84))]) (h1 := hp L (ax_u2 s 84 0 0) c e) rfl ?_
    refine RuP.step (pc' := 20) (ls' := [some (.inr (.inr (some 84))), none, none, none, none]) (st' := [.inl 0, .inr (.inr (some 84))]) (h1 := hp L (ax_u2 s 84 0 0) c e) rfl ?_
    refine RuP.step (pc' := 23) (ls' := [some (.inr (.inr (some 84))), none, none, none, none]) (st' := []) (h1 := hp L (ax_u2 (ax_u2 s 84 0 0) 84 9 0) c e) rfl ?_
    refine RuP.step (pc' := 24) (ls' := [some (.inr (.inr (some 84))), none, none, none, none]) (st' := [.inl (-1)]) (h1 := hp L (ax_u2 (ax_u2 s 84 0 0) 84 9 0) c e) rfl ?_
    refine RuP.step (pc' := 25) (ls' := [some (.inr (.inr (some 84))), some (.inl (-1)), none, none, none]) (st' := []) (h1 := hp L (ax_u2 (ax_u2 s 84 0 0) 84 9 0) c e) rfl ?_
    refine RuP.step (pc' := 26) (ls' := [some (.inr (.inr (some 84))), some (.inl (-1)), none, none, none]) (st' := [.inl 0]) (h1 := hp L (ax_u2 (ax_u2 s 84 0 0) 84 9 0) c e) rfl ?_
    refine RuP.step (pc' := 27) (ls' := [some (.inr (.inr (some 84))), some (.inl (-1)), some (.inl 0), none, none]) (st' := []) (h1 := hp L (ax_u2 (ax_u2 s 84 0 0) 84 9 0) c e) rfl ?_
    refine RuP.step (pc' := 28) (ls' := [some (.inr (.inr (some 84))), some (.inl (-1)), some (.inl 0), none, none]) (st' := [.inl 0]) (h1 := hp L (ax_u2 (ax_u2 s 84 0 0) 84 9 0) c e) rfl ?_
    refine RuP.step (pc' := 29) (ls' := [some (.inr (.inr (some 84))), some (.inl (-1)), some (.inl 0), some (.inl 0), none]) (st' := []) (h1 := hp L (ax_u2 (ax_u2 s 84 0 0) 84 9 0) c e) rfl ?_
    exact bl_202_29 FU _ _ _ _ _ _ h
  · rw [if_neg h0] at h
    refine RuP.jn rfl h0 ?_
    refine RuP.step (pc' := 13) (ls' := [some (.inr (.inr (some 84))), none, none, none, none]) (st' := [.inr (.inr (some 84))]) (h1 := hp L (ax_u2 s 84 0 0) c e) rfl ?_
    refine RuP.step (pc' := 14) (ls' := [some (.inr (.inr (some 84))), none, none, none, none]) (st' := [.inl 1, .inr (.inr (some 84))]) (h1 := hp L (ax_u2 s 84 0 0) c e) rfl ?_
    obtain ⟨q5, h1, h⟩ := bd_some h
    refine RuP.cIe h1 rfl (EvP.ip ((ev_206 1).up (by decide))) ?_
    cases h
    exact RuP.dI rfl
/-- MachineTextModel.cut()V -/
noncomputable def j_208_222 (s : Sg) : Option Sg :=
  (gd (0 ≤ s 84 11 ∧ s 84 11 < 8200) (
  (gd (0 ≤ s 84 11 ∧ s 84 11 < 8200) (
  (gd (0 ≤ s 84 11 ∧ s 84 11 < 8200) (
  some (ax_u2 (ax_u2 (ax_u2 s 88 ((s 84 11).toNat) 0) 89 ((s 84 11).toNat) (s 84 3)) 90 ((s 84 11).toNat) (s 84 3))))))))
set_option maxRecDepth 20000 in
theorem bl_208_222 {L c : Nat} {e : Nat → Nat} : ∀ (d2 : Option ax_V) (z1 : Int) (s : Sg) (q : Sg), j_208_222 s = some q → RuP 4 tb_m208 222 [some (.inr (.inr (some 84))), some (.inl z1), d2] [] (hp L s c e) (oV L c e q) := by
  intro d2 z1 s q h
  unfold j_208_222 at h
  refine RuP.step (pc' := 223) (ls' := [some (.inr (.inr (some 84))), some (.inl z1), d2]) (st' := [.inr (.inr (some 84))]) (h1 := hp L s c e) rfl ?_
  refine RuP.step (pc' := 226) (ls' := [some (.inr (.inr (some 84))), some (.inl z1), d2]) (st' := [.inr (.inr (some 88))]) (h1 := hp L s c e) rfl ?_
  refine RuP.step (pc' := 227) (ls' := [some (.inr (.inr (some 84))), some (.inl z1), d2]) (st' := [.inr (.inr (some 84)), .inr (.inr (some 88))]) (h1 := hp L s c e) rfl ?_
  refine RuP.step (pc' := 230) (ls' := [some (.inr (.inr (some 84))), some (.inl z1), d2]) (st' := [.inl (s 84 11), .inr (.inr (some 88))]) (h1 := hp L s c e) rfl ?_
  refine RuP.step (pc' := 231) (ls' := [some (.inr (.inr (some 84))), some (.inl z1), d2]) (st' := [.inl 0, .inl (s 84 11), .inr (.inr (some 88))]) (h1 := hp L s c e) rfl ?_
  obtain ⟨b0, h⟩ := gd_some h
  refine RuP.ast (f := fun t => t == 0) (j := s 84 11) (a := 88) rfl rfl (by decide) rfl rfl b0.1 b0.2 ?_
  refine RuP.step (pc' := 233) (ls' := [some (.inr (.inr (some 84))), some (.inl z1), d2]) (st' := [.inr (.inr (some 84))]) (h1 := hp L (ax_u2 s 88 ((s 84 11).toNat) 0) c e) rfl ?_
  refine RuP.step (pc' := 236) (ls' := [some (.inr (.inr (some 84))), some (.inl z1), d2]) (st' := [.inr (.inr (some 89))]) (h1 := hp L (ax_u2 s 88 ((s 84 11).toNat) 0) c e) rfl ?_
  refine RuP.step (pc' := 237) (ls' := [some (.inr (.inr (some 84))), some (.inl z1), d2]) (st' := [.inr (.inr (some 84)), .inr (.inr (some 89))]) (h1 := hp L (ax_u2 s 88 ((s 84 11).toNat) 0) c e) rfl ?_
  refine RuP.step (pc' := 240) (ls' := [some (.inr (.inr (some 84))), some (.inl z1), d2]) (st' := [.inl (s 84 11), .inr (.inr (some 89))]) (h1 := hp L (ax_u2 s 88 ((s 84 11).toNat) 0) c e) rfl ?_
  refine RuP.step (pc' := 241) (ls' := [some (.inr (.inr (some 84))), some (.inl z1), d2]) (st' := [.inr (.inr (some 84)), .inl (s 84 11), .inr (.inr (some 89))]) (h1 := hp L (ax_u2 s 88 ((s 84 11).toNat) 0) c e) rfl ?_
  refine RuP.step (pc' := 244) (ls' := [some (.inr (.inr (some 84))), some (.inl z1), d2]) (st' := [.inl (s 84 3), .inl (s 84 11), .inr (.inr (some 89))]) (h1 := hp L (ax_u2 s 88 ((s 84 11).toNat) 0) c e) rfl ?_
  obtain ⟨b1, h⟩ := gd_some h
  refine RuP.ast (f := fun t => t == 0) (j := s 84 11) (a := 89) rfl rfl (by decide) rfl rfl b1.1 b1.2 ?_
  refine RuP.step (pc' := 246) (ls' := [some (.inr (.inr (some 84))), some (.inl z1), d2]) (st' := [.inr (.inr (some 84))]) (h1 := hp L (ax_u2 (ax_u2 s 88 ((s 84 11).toNat) 0) 89 ((s 84 11).toNat) (s 84 3)) c e) rfl ?_
  refine RuP.step (pc' := 249) (ls' := [some (.inr (.inr (some 84))), some (.inl z1), d2]) (st' := [.inr (.inr (some 90))]) (h1 := hp L (ax_u2 (ax_u2 s 88 ((s 84 11).toNat) 0) 89 ((s 84 11).toNat) (s 84 3)) c e) rfl ?_
  refine RuP.step (pc' := 250) (ls' := [some (.inr (.inr (some 84))), some (.inl z1), d2]) (st' := [.inr (.inr (some 84)), .inr (.inr (some 90))]) (h1 := hp L (ax_u2 (ax_u2 s 88 ((s 84 11).toNat) 0) 89 ((s 84 11).toNat) (s 84 3)) c e) rfl ?_
  refine RuP.step (pc' := 253) (ls' := [some (.inr (.inr (some 84))), some (.inl z1), d2]) (st' := [.inl (s 84 11), .inr (.inr (some 90))]) (h1 := hp L (ax_u2 (ax_u2 s 88 ((s 84 11).toNat) 0) 89 ((s 84 11).toNat) (s 84 3)) c e) rfl ?_
  refine RuP.step (pc' := 254) (ls' := [some (.inr (.inr (some 84))), some (.inl z1), d2]) (st' := [.inr (.inr (some 84)), .inl (s 84 11), .inr (.inr (some 90))]) (h1 := hp L (ax_u2 (ax_u2 s 88 ((s 84 11).toNat) 0) 89 ((s 84 11).toNat) (s 84 3)) c e) rfl ?_
  refine RuP.step (pc' := 257) (ls' := [some (.inr (.inr (some 84))), some (.inl z1), d2]) (st' := [.inl (s 84 3), .inl (s 84 11), .inr (.inr (some 90))]) (h1 := hp L (ax_u2 (ax_u2 s 88 ((s 84 11).toNat) 0) 89 ((s 84 11).toNat) (s 84 3)) c e) rfl ?_
  obtain ⟨b2, h⟩ := gd_some h
  refine RuP.ast (f := fun t => t == 0) (j := s 84 11) (a := 90) rfl rfl (by decide) rfl rfl b2.1 b2.2 ?_
  cases h
  exact RuP.dV rfl
noncomputable def j_208_135 (k11 : (Int → Sg → Option Sg)) (l1 l2 : Int) (s : Sg) : Option Sg :=
  (gd (0 ≤ s 84 11 ∧ s 84 11 < 8200) (
  (gd (0 ≤ s 84 11 ∧ s 84 11 < 8200) (
  (gd (0 ≤ s 84 11 ∧ s 84 11 < 8200) (
  (gd (0 ≤ s 84 11 ∧ s 84 11 < 8200) (
  (gd ((0 ≤ s 84 11 ∧ s 84 11 < 8200) ∧ (((if ¬ (s 88 ((s 84 11).toNat)) = 10 then 0 else 1) : Int) = 0 ∨ ((if ¬ (s 88 ((s 84 11).toNat)) = 10 then 0 else 1) : Int) = 1)) (
  (gd (0 ≤ s 84 11 ∧ s 84 11 < 8200) (
  ((f_223 l2 (ax_u2 (ax_u2 (ax_u2 (ax_u2 (ax_u2 (ax_u2 s 89 ((s 84 11).toNat) l1) 90 ((s 84 11).toNat) l2) 91 ((s 84 11).toNat) 0) 92 ((s 84 11).toNat) ((if ¬ (s 88 ((s 84 11).toNat)) = 10 then 0 else 1) : Int)) 93 ((s 84 11).toNat) 0) 84 11 (ax_w32 ((s 84 11) + 1)))).bind fun q3 =>
  k11 q3 (ax_u2 (ax_u2 (ax_u2 (ax_u2 (ax_u2 (ax_u2 s 89 ((s 84 11).toNat) l1) 90 ((s 84 11).toNat) l2) 91 ((s 84 11).toNat) 0) 92 ((s 84 11).toNat) ((if ¬ (s 88 ((s 84 11).toNat)) = 10 then 0 else 1) : Int)) 93 ((s 84 11).toNat) 0) 84 11 (ax_w32 ((s 84 11) + 1))))))))))))))))
set_option maxRecDepth 20000 in
theorem bl_208_135 {L c : Nat} {e : Nat → Nat} {k11 : (Int → Sg → Option Sg)} (hk11 : ∀ (d2 : Option ax_V) (l1 : Int) (s : Sg) (q : Sg), k11 l1 s = some q → RuP 4 tb_m208 11 [some (.inr (.inr (some 84))), some (.inl l1), d2] [] (hp L s c e) (oV L c e q)) : ∀ (l1 l2 : Int) (s : Sg) (q : Sg), j_208_135 k11 l1 l2 s = some q → RuP 4 tb_m208 135 [some (.inr (.inr (some 84))), some (.inl l1), some (.inl l2)] [] (hp L s c e) (oV L c e q) := by
  intro l1 l2 s q h
  unfold j_208_135 at h
  refine RuP.step (pc' := 136) (ls' := [some (.inr (.inr (some 84))), some (.inl l1), some (.inl l2)]) (st' := [.inr (.inr (some 84))]) (h1 := hp L s c e) rfl ?_
  refine RuP.step (pc' := 139) (ls' := [some (.inr (.inr (some 84))), some (.inl l1), some (.inl l2)]) (st' := [.inr (.inr (some 89))]) (h1 := hp L s c e) rfl ?_
  refine RuP.step (pc' := 140) (ls' := [some (.inr (.inr (some 84))), some (.inl l1), some (.inl l2)]) (st' := [.inr (.inr (some 84)), .inr (.inr (some 89))]) (h1 := hp L s c e) rfl ?_
  refine RuP.step (pc' := 143) (ls' := [some (.inr (.inr (some 84))), some (.inl l1), some (.inl l2)]) (st' := [.inl (s 84 11), .inr (.inr (some 89))]) (h1 := hp L s c e) rfl ?_
  refine RuP.step (pc' := 144) (ls' := [some (.inr (.inr (some 84))), some (.inl l1), some (.inl l2)]) (st' := [.inl l1, .inl (s 84 11), .inr (.inr (some 89))]) (h1 := hp L s c e) rfl ?_
  obtain ⟨b0, h⟩ := gd_some h
  refine RuP.ast (f := fun t => t == 0) (j := s 84 11) (a := 89) rfl rfl (by decide) rfl rfl b0.1 b0.2 ?_
  refine RuP.step (pc' := 146) (ls' := [some (.inr (.inr (some 84))), some (.inl l1), some (.inl l2)]) (st' := [.inr (.inr (some 84))]) (h1 := hp L (ax_u2 s 89 ((s 84 11).toNat) l1) c e) rfl ?_
  refine RuP.step (pc' := 149) (ls' := [some (.inr (.inr (some 84))), some (.inl l1), some (.inl l2)]) (st' := [.inr (.inr (some 90))]) (h1 := hp L (ax_u2 s 89 ((s 84 11).toNat) l1) c e) rfl ?_
  refine RuP.step (pc' := 150) (ls' := [some (.inr (.inr (some 84))), some (.inl l1), some (.inl l2)]) (st' := [.inr (.inr (some 84)), .inr (.inr (some 90))]) (h1 := hp L (ax_u2 s 89 ((s 84 11).toNat) l1) c e) rfl ?_
  refine RuP.step (pc' := 153) (ls' := [some (.inr (.inr (some 84))), some (.inl l1), some (.inl l2)]) (st' := [.inl (s 84 11), .inr (.inr (some 90))]) (h1 := hp L (ax_u2 s 89 ((s 84 11).toNat) l1) c e) rfl ?_
  refine RuP.step (pc' := 154) (ls' := [some (.inr (.inr (some 84))), some (.inl l1), some (.inl l2)]) (st' := [.inl l2, .inl (s 84 11), .inr (.inr (some 90))]) (h1 := hp L (ax_u2 s 89 ((s 84 11).toNat) l1) c e) rfl ?_
  obtain ⟨b1, h⟩ := gd_some h
  refine RuP.ast (f := fun t => t == 0) (j := s 84 11) (a := 90) rfl rfl (by decide) rfl rfl b1.1 b1.2 ?_
  refine RuP.step (pc' := 156) (ls' := [some (.inr (.inr (some 84))), some (.inl l1), some (.inl l2)]) (st' := [.inr (.inr (some 84))]) (h1 := hp L (ax_u2 (ax_u2 s 89 ((s 84 11).toNat) l1) 90 ((s 84 11).toNat) l2) c e) rfl ?_
  refine RuP.step (pc' := 159) (ls' := [some (.inr (.inr (some 84))), some (.inl l1), some (.inl l2)]) (st' := [.inr (.inr (some 91))]) (h1 := hp L (ax_u2 (ax_u2 s 89 ((s 84 11).toNat) l1) 90 ((s 84 11).toNat) l2) c e) rfl ?_
  refine RuP.step (pc' := 160) (ls' := [some (.inr (.inr (some 84))), some (.inl l1), some (.inl l2)]) (st' := [.inr (.inr (some 84)), .inr (.inr (some 91))]) (h1 := hp L (ax_u2 (ax_u2 s 89 ((s 84 11).toNat) l1) 90 ((s 84 11).toNat) l2) c e) rfl ?_
  refine RuP.step (pc' := 163) (ls' := [some (.inr (.inr (some 84))), some (.inl l1), some (.inl l2)]) (st' := [.inl (s 84 11), .inr (.inr (some 91))]) (h1 := hp L (ax_u2 (ax_u2 s 89 ((s 84 11).toNat) l1) 90 ((s 84 11).toNat) l2) c e) rfl ?_
  refine RuP.step (pc' := 164) (ls' := [some (.inr (.inr (some 84))), some (.inl l1), some (.inl l2)]) (st' := [.inl 0, .inl (s 84 11), .inr (.inr (some 91))]) (h1 := hp L (ax_u2 (ax_u2 s 89 ((s 84 11).toNat) l1) 90 ((s 84 11).toNat) l2) c e) rfl ?_
  obtain ⟨b2, h⟩ := gd_some h
  refine RuP.ast (f := fun t => t == 1 || t == 3) (j := s 84 11) (a := 91) rfl rfl (by decide) rfl rfl b2.1 b2.2 ?_
  refine RuP.step (pc' := 166) (ls' := [some (.inr (.inr (some 84))), some (.inl l1), some (.inl l2)]) (st' := [.inr (.inr (some 84))]) (h1 := hp L (ax_u2 (ax_u2 (ax_u2 s 89 ((s 84 11).toNat) l1) 90 ((s 84 11).toNat) l2) 91 ((s 84 11).toNat) 0) c e) rfl ?_
  refine RuP.step (pc' := 169) (ls' := [some (.inr (.inr (some 84))), some (.inl l1), some (.inl l2)]) (st' := [.inr (.inr (some 92))]) (h1 := hp L (ax_u2 (ax_u2 (ax_u2 s 89 ((s 84 11).toNat) l1) 90 ((s 84 11).toNat) l2) 91 ((s 84 11).toNat) 0) c e) rfl ?_
  refine RuP.step (pc' := 170) (ls' := [some (.inr (.inr (some 84))), some (.inl l1), some (.inl l2)]) (st' := [.inr (.inr (some 84)), .inr (.inr (some 92))]) (h1 := hp L (ax_u2 (ax_u2 (ax_u2 s 89 ((s 84 11).toNat) l1) 90 ((s 84 11).toNat) l2) 91 ((s 84 11).toNat) 0) c e) rfl ?_
  refine RuP.step (pc' := 173) (ls' := [some (.inr (.inr (some 84))), some (.inl l1), some (.inl l2)]) (st' := [.inl (s 84 11), .inr (.inr (some 92))]) (h1 := hp L (ax_u2 (ax_u2 (ax_u2 s 89 ((s 84 11).toNat) l1) 90 ((s 84 11).toNat) l2) 91 ((s 84 11).toNat) 0) c e) rfl ?_
  refine RuP.step (pc' := 174) (ls' := [some (.inr (.inr (some 84))), some (.inl l1), some (.inl l2)]) (st' := [.inr (.inr (some 84)), .inl (s 84 11), .inr (.inr (some 92))]) (h1 := hp L (ax_u2 (ax_u2 (ax_u2 s 89 ((s 84 11).toNat) l1) 90 ((s 84 11).toNat) l2) 91 ((s 84 11).toNat) 0) c e) rfl ?_
  refine RuP.step (pc' := 177) (ls' := [some (.inr (.inr (some 84))), some (.inl l1), some (.inl l2)]) (st' := [.inr (.inr (some 88)), .inl (s 84 11), .inr (.inr (some 92))]) (h1 := hp L (ax_u2 (ax_u2 (ax_u2 s 89 ((s 84 11).toNat) l1) 90 ((s 84 11).toNat) l2) 91 ((s 84 11).toNat) 0) c e) rfl ?_
  refine RuP.step (pc' := 178) (ls' := [some (.inr (.inr (some 84))), some (.inl l1), some (.inl l2)]) (st' := [.inr (.inr (some 84)), .inr (.inr (some 88)), .inl (s 84 11), .inr (.inr (some 92))]) (h1 := hp L (ax_u2 (ax_u2 (ax_u2 s 89 ((s 84 11).toNat) l1) 90 ((s 84 11).toNat) l2) 91 ((s 84 11).toNat) 0) c e) rfl ?_
  refine RuP.step (pc' := 181) (ls' := [some (.inr (.inr (some 84))), some (.inl l1), some (.inl l2)]) (st' := [.inl (s 84 11), .inr (.inr (some 88)), .inl (s 84 11), .inr (.inr (some 92))]) (h1 := hp L (ax_u2 (ax_u2 (ax_u2 s 89 ((s 84 11).toNat) l1) 90 ((s 84 11).toNat) l2) 91 ((s 84 11).toNat) 0) c e) rfl ?_
  obtain ⟨b3, h⟩ := gd_some h
  refine RuP.ald (f := fun t => t == 0) (j := s 84 11) (a := 88) rfl rfl b3.1 b3.2 ?_
  refine RuP.step (pc' := 184) (ls' := [some (.inr (.inr (some 84))), some (.inl l1), some (.inl l2)]) (st' := [.inl 10, .inl (s 88 ((s 84 11).toNat)), .inl (s 84 11), .inr (.inr (some 92))]) (h1 := hp L (ax_u2 (ax_u2 (ax_u2 s 89 ((s 84 11).toNat) l1) 90 ((s 84 11).toNat) l2) 91 ((s 84 11).toNat) 0) c e) rfl ?_
  have J5 : ∀ v4_0 : Int, v4_0 = ((if ¬ (s 88 ((s 84 11).toNat)) = 10 then 0 else 1) : Int) → RuP 4 tb_m208 192 [some (.inr (.inr (some 84))), some (.inl l1), some (.inl l2)] [.inl v4_0, .inl (s 84 11), .inr (.inr (some 92))] (hp L (ax_u2 (ax_u2 (ax_u2 s 89 ((s 84 11).toNat) l1) 90 ((s 84 11).toNat) l2) 91 ((s 84 11).toNat) 0) c e) (oV L c e q) := by
    intro v4_0 ev4_0
    subst ev4_0
    obtain ⟨b5, h⟩ := gd_some h
    refine RuP.ast (f := fun t => t == 1 || t == 3) (j := s 84 11) (a := 92) rfl rfl (by decide) rfl (tk3 b5.2) b5.1.1 b5.1.2 ?_
    refine RuP.step (pc' := 194) (ls' := [some (.inr (.inr (some 84))), some (.inl l1), some (.inl l2)]) (st' := [.inr (.inr (some 84))]) (h1 := hp L (ax_u2 (ax_u2 (ax_u2 (ax_u2 s 89 ((s 84 11).toNat) l1) 90 ((s 84 11).toNat) l2) 91 ((s 84 11).toNat) 0) 92 ((s 84 11).toNat) ((if ¬ (s 88 ((s 84 11).toNat)) = 10 then 0 else 1) : Int)) c e) rfl ?_
    refine RuP.step (pc' := 197) (ls' := [some (.inr (.inr (some 84))), some (.inl l1), some (.inl l2)]) (st' := [.inr (.inr (some 93))]) (h1 := hp L (ax_u2 (ax_u2 (ax_u2 (ax_u2 s 89 ((s 84 11).toNat) l1) 90 ((s 84 11).toNat) l2) 91 ((s 84 11).toNat) 0) 92 ((s 84 11).toNat) ((if ¬ (s 88 ((s 84 11).toNat)) = 10 then 0 else 1) : Int)) c e) rfl ?_
    refine RuP.step (pc' := 198) (ls' := [some (.inr (.inr (some 84))), some (.inl l1), some (.inl l2)]) (st' := [.inr (.inr (some 84)), .inr (.inr (some 93))]) (h1 := hp L (ax_u2 (ax_u2 (ax_u2 (ax_u2 s 89 ((s 84 11).toNat) l1) 90 ((s 84 11).toNat) l2) 91 ((s 84 11).toNat) 0) 92 ((s 84 11).toNat) ((if ¬ (s 88 ((s 84 11).toNat)) = 10 then 0 else 1) : Int)) c e) rfl ?_
    refine RuP.step (pc' := 201) (ls' := [some (.inr (.inr (some 84))), some (.inl l1), some (.inl l2)]) (st' := [.inl (s 84 11), .inr (.inr (some 93))]) (h1 := hp L (ax_u2 (ax_u2 (ax_u2 (ax_u2 s 89 ((s 84 11).toNat) l1) 90 ((s 84 11).toNat) l2) 91 ((s 84 11).toNat) 0) 92 ((s 84 11).toNat) ((if ¬ (s 88 ((s 84 11).toNat)) = 10 then 0 else 1) : Int)) c e) rfl ?_
    refine RuP.step (pc' := 202) (ls' := [some (.inr (.inr (some 84))), some (.inl l1), some (.inl l2)]) (st' := [.inl 0, .inl (s 84 11), .inr (.inr (some 93))]) (h1 := hp L (ax_u2 (ax_u2 (ax_u2 (ax_u2 s 89 ((s 84 11).toNat) l1) 90 ((s 84 11).toNat) l2) 91 ((s 84 11).toNat) 0) 92 ((s 84 11).toNat) ((if ¬ (s 88 ((s 84 11).toNat)) = 10 then 0 else 1) : Int)) c e) rfl ?_
    obtain ⟨b6, h⟩ := gd_some h
    refine RuP.ast (f := fun t => t == 1 || t == 3) (j := s 84 11) (a := 93) rfl rfl (by decide) rfl rfl b6.1 b6.2 ?_
    refine RuP.step (pc' := 204) (ls' := [some (.inr (.inr (some 84))), some (.inl l1), some (.inl l2)]) (st' := [.inr (.inr (some 84))]) (h1 := hp L (ax_u2 (ax_u2 (ax_u2 (ax_u2 (ax_u2 s 89 ((s 84 11).toNat) l1) 90 ((s 84 11).toNat) l2) 91 ((s 84 11).toNat) 0) 92 ((s 84 11).toNat) ((if ¬ (s 88 ((s 84 11).toNat)) = 10 then 0 else 1) : Int)) 93 ((s 84 11).toNat) 0) c e) rfl ?_
    refine RuP.step (pc' := 205) (ls' := [some (.inr (.inr (some 84))), some (.inl l1), some (.inl l2)]) (st' := [.inr (.inr (some 84)), .inr (.inr (some 84))]) (h1 := hp L (ax_u2 (ax_u2 (ax_u2 (ax_u2 (ax_u2 s 89 ((s 84 11).toNat) l1) 90 ((s 84 11).toNat) l2) 91 ((s 84 11).toNat) 0) 92 ((s 84 11).toNat) ((if ¬ (s 88 ((s 84 11).toNat)) = 10 then 0 else 1) : Int)) 93 ((s 84 11).toNat) 0) c e) rfl ?_
    refine RuP.step (pc' := 208) (ls' := [some (.inr (.inr (some 84))), some (.inl l1), some (.inl l2)]) (st' := [.inl (s 84 11), .inr (.inr (some 84))]) (h1 := hp L (ax_u2 (ax_u2 (ax_u2 (ax_u2 (ax_u2 s 89 ((s 84 11).toNat) l1) 90 ((s 84 11).toNat) l2) 91 ((s 84 11).toNat) 0) 92 ((s 84 11).toNat) ((if ¬ (s 88 ((s 84 11).toNat)) = 10 then 0 else 1) : Int)) 93 ((s 84 11).toNat) 0) c e) rfl ?_
    refine RuP.step (pc' := 209) (ls' := [some (.inr (.inr (some 84))), some (.inl l1), some (.inl l2)]) (st' := [.inl 1, .inl (s 84 11), .inr (.inr (some 84))]) (h1 := hp L (ax_u2 (ax_u2 (ax_u2 (ax_u2 (ax_u2 s 89 ((s 84 11).toNat) l1) 90 ((s 84 11).toNat) l2) 91 ((s 84 11).toNat) 0) 92 ((s 84 11).toNat) ((if ¬ (s 88 ((s 84 11).toNat)) = 10 then 0 else 1) : Int)) 93 ((s 84 11).toNat) 0) c e) rfl ?_
    refine RuP.step (pc' := 210) (ls' := [some (.inr (.inr (some 84))), some (.inl l1), some (.inl l2)]) (st' := [.inl (ax_w32 ((s 84 11) + 1)), .inr (.inr (some 84))]) (h1 := hp L (ax_u2 (ax_u2 (ax_u2 (ax_u2 (ax_u2 s 89 ((s 84 11).toNat) l1) 90 ((s 84 11).toNat) l2) 91 ((s 84 11).toNat) 0) 92 ((s 84 11).toNat) ((if ¬ (s 88 ((s 84 11).toNat)) = 10 then 0 else 1) : Int)) 93 ((s 84 11).toNat) 0) c e) rfl ?_
    refine RuP.step (pc' := 213) (ls' := [some (.inr (.inr (some 84))), some (.inl l1), some (.inl l2)]) (st' := []) (h1 := hp L (ax_u2 (ax_u2 (ax_u2 (ax_u2 (ax_u2 (ax_u2 s 89 ((s 84 11).toNat) l1) 90 ((s 84 11).toNat) l2) 91 ((s 84 11).toNat) 0) 92 ((s 84 11).toNat) ((if ¬ (s 88 ((s 84 11).toNat)) = 10 then 0 else 1) : Int)) 93 ((s 84 11).toNat) 0) 84 11 (ax_w32 ((s 84 11) + 1))) c e) rfl ?_
    refine RuP.step (pc' := 214) (ls' := [some (.inr (.inr (some 84))), some (.inl l1), some (.inl l2)]) (st' := [.inr (.inr (some 84))]) (h1 := hp L (ax_u2 (ax_u2 (ax_u2 (ax_u2 (ax_u2 (ax_u2 s 89 ((s 84 11).toNat) l1) 90 ((s 84 11).toNat) l2) 91 ((s 84 11).toNat) 0) 92 ((s 84 11).toNat) ((if ¬ (s 88 ((s 84 11).toNat)) = 10 then 0 else 1) : Int)) 93 ((s 84 11).toNat) 0) 84 11 (ax_w32 ((s 84 11) + 1))) c e) rfl ?_
    refine RuP.step (pc' := 215) (ls' := [some (.inr (.inr (some 84))), some (.inl l1), some (.inl l2)]) (st' := [.inl l2, .inr (.inr (some 84))]) (h1 := hp L (ax_u2 (ax_u2 (ax_u2 (ax_u2 (ax_u2 (ax_u2 s 89 ((s 84 11).toNat) l1) 90 ((s 84 11).toNat) l2) 91 ((s 84 11).toNat) 0) 92 ((s 84 11).toNat) ((if ¬ (s 88 ((s 84 11).toNat)) = 10 then 0 else 1) : Int)) 93 ((s 84 11).toNat) 0) 84 11 (ax_w32 ((s 84 11) + 1))) c e) rfl ?_
    obtain ⟨q3, h1, h⟩ := bd_some h
    refine RuP.cI rfl ((ev_223 h1).up (by decide)) ?_
    refine RuP.step (pc' := 219) (ls' := [some (.inr (.inr (some 84))), some (.inl q3), some (.inl l2)]) (st' := []) (h1 := hp L (ax_u2 (ax_u2 (ax_u2 (ax_u2 (ax_u2 (ax_u2 s 89 ((s 84 11).toNat) l1) 90 ((s 84 11).toNat) l2) 91 ((s 84 11).toNat) 0) 92 ((s 84 11).toNat) ((if ¬ (s 88 ((s 84 11).toNat)) = 10 then 0 else 1) : Int)) 93 ((s 84 11).toNat) 0) 84 11 (ax_w32 ((s 84 11) + 1))) c e) rfl ?_
    refine RuP.step (pc' := 11) (ls' := [some (.inr (.inr (some 84))), some (.inl q3), some (.inl l2)]) (st' := []) (h1 := hp L (ax_u2 (ax_u2 (ax_u2 (ax_u2 (ax_u2 (ax_u2 s 89 ((s 84 11).toNat) l1) 90 ((s 84 11).toNat) l2) 91 ((s 84 11).toNat) 0) 92 ((s 84 11).toNat) ((if ¬ (s 88 ((s 84 11).toNat)) = 10 then 0 else 1) : Int)) 93 ((s 84 11).toNat) 0) 84 11 (ax_w32 ((s 84 11) + 1))) c e) rfl ?_
    exact hk11 _ _ _ _ h
  by_cases h7 : ¬ (s 88 ((s 84 11).toNat)) = 10
  · refine RuP.jy rfl h7 ?_
    refine RuP.step (pc' := 192) (ls' := [some (.inr (.inr (some 84))), some (.inl l1), some (.inl l2)]) (st' := [.inl 0, .inl (s 84 11), .inr (.inr (some 92))]) (h1 := hp L (ax_u2 (ax_u2 (ax_u2 s 89 ((s 84 11).toNat) l1) 90 ((s 84 11).toNat) l2) 91 ((s 84 11).toNat) 0) c e) rfl ?_
    exact J5 _ (by simp only [if_pos h7])
  · refine RuP.jn rfl h7 ?_
    refine RuP.step (pc' := 188) (ls' := [some (.inr (.inr (some 84))), some (.inl l1), some (.inl l2)]) (st' := [.inl 1, .inl (s 84 11), .inr (.inr (some 92))]) (h1 := hp L (ax_u2 (ax_u2 (ax_u2 s 89 ((s 84 11).toNat) l1) 90 ((s 84 11).toNat) l2) 91 ((s 84 11).toNat) 0) c e) rfl ?_
    refine RuP.step (pc' := 192) (ls' := [some (.inr (.inr (some 84))), some (.inl l1), some (.inl l2)]) (st' := [.inl 1, .inl (s 84 11), .inr (.inr (some 92))]) (h1 := hp L (ax_u2 (ax_u2 (ax_u2 s 89 ((s 84 11).toNat) l1) 90 ((s 84 11).toNat) l2) 91 ((s 84 11).toNat) 0) c e) rfl ?_
    exact J5 _ (by simp only [if_neg h7])
noncomputable def j_208_61 (k11 : (Int → Sg → Option Sg)) (k39 : (Int → Int → Sg → Option Sg)) (l1 l2 : Int) (s : Sg) : Option Sg :=
  k39 l1 (ax_w32 (l2 + 1)) s
set_option maxRecDepth 20000 in
theorem bl_208_61 {L c : Nat} {e : Nat → Nat} {k11 : (Int → Sg → Option Sg)} {k39 : (Int → Int → Sg → Option Sg)} (hk11 : ∀ (d2 : Option ax_V) (l1 : Int) (s : Sg) (q : Sg), k11 l1 s = some q → RuP 4 tb_m208 11 [some (.inr (.inr (some 84))), some (.inl l1), d2] [] (hp L s c e) (oV L c e q)) (hk39 : ∀ (l1 l2 : Int) (s : Sg) (q : Sg), k39 l1 l2 s = some q → RuP 4 tb_m208 39 [some (.inr (.inr (some 84))), some (.inl l1), some (.inl l2)] [] (hp L s c e) (oV L c e q)) : ∀ (l1 l2 : Int) (s : Sg) (q : Sg), j_208_61 k11 k39 l1 l2 s = some q → RuP 4 tb_m208 61 [some (.inr (.inr (some 84))), some (.inl l1), some (.inl l2)] [] (hp L s c e) (oV L c e q) := by
  intro l1 l2 s q h
  unfold j_208_61 at h
  refine RuP.step (pc' := 64) (ls' := [some (.inr (.inr (some 84))), some (.inl l1), some (.inl (ax_w32 (l2 + 1)))]) (st' := []) (h1 := hp L s c e) rfl ?_
  refine RuP.step (pc' := 39) (ls' := [some (.inr (.inr (some 84))), some (.inl l1), some (.inl (ax_w32 (l2 + 1)))]) (st' := []) (h1 := hp L s c e) rfl ?_
  exact hk39 _ _ _ _ h
noncomputable def j_208_81 (k11 : (Int → Sg → Option Sg)) (l1 l2 : Int) (s : Sg) : Option Sg :=
  ((f_228 l1 l2 s).bind fun q5 =>
  (gd (0 ≤ s 84 11 ∧ s 84 11 < 8200) (
  j_208_135 k11 l1 l2 (ax_u2 s 88 ((s 84 11).toNat) q5))))
set_option maxRecDepth 20000 in
theorem bl_208_81 {L c : Nat} {e : Nat → Nat} {k11 : (Int → Sg → Option Sg)} (hk11 : ∀ (d2 : Option ax_V) (l1 : Int) (s : Sg) (q : Sg), k11 l1 s = some q → RuP 4 tb_m208 11 [some (.inr (.inr (some 84))), some (.inl l1), d2] [] (hp L s c e) (oV L c e q)) : ∀ (l1 l2 : Int) (s : Sg) (q : Sg), j_208_81 k11 l1 l2 s = some q → RuP 4 tb_m208 81 [some (.inr (.inr (some 84))), some (.inl l1), some (.inl l2)] [] (hp L s c e) (oV L c e q) := by
  intro l1 l2 s q h
  unfold j_208_81 at h
  refine RuP.step (pc' := 82) (ls' := [some (.inr (.inr (some 84))), some (.inl l1), some (.inl l2)]) (st' := [.inr (.inr (some 84))]) (h1 := hp L s c e) rfl ?_
  refine RuP.step (pc' := 85) (ls' := [some (.inr (.inr (some 84))), some (.inl l1), some (.inl l2)]) (st' := [.inr (.inr (some 88))]) (h1 := hp L s c e) rfl ?_
  refine RuP.step (pc' := 86) (ls' := [some (.inr (.inr (some 84))), some (.inl l1), some (.inl l2)]) (st' := [.inr (.inr (some 84)), .inr (.inr (some 88))]) (h1 := hp L s c e) rfl ?_
  refine RuP.step (pc' := 89) (ls' := [some (.inr (.inr (some 84))), some (.inl l1), some (.inl l2)]) (st' := [.inl (s 84 11), .inr (.inr (some 88))]) (h1 := hp L s c e) rfl ?_
  refine RuP.step (pc' := 90) (ls' := [some (.inr (.inr (some 84))), some (.inl l1), some (.inl l2)]) (st' := [.inr (.inr (some 84)), .inl (s 84 11), .inr (.inr (some 88))]) (h1 := hp L s c e) rfl ?_
  refine RuP.step (pc' := 91) (ls' := [some (.inr (.inr (some 84))), some (.inl l1), some (.inl l2)]) (st' := [.inl l1, .inr (.inr (some 84)), .inl (s 84 11), .inr (.inr (some 88))]) (h1 := hp L s c e) rfl ?_
  refine RuP.step (pc' := 92) (ls' := [some (.inr (.inr (some 84))), some (.inl l1), some (.inl l2)]) (st' := [.inl l2, .inl l1, .inr (.inr (some 84)), .inl (s 84 11), .inr (.inr (some 88))]) (h1 := hp L s c e) rfl ?_
  obtain ⟨q5, h1, h⟩ := bd_some h
  refine RuP.cI rfl ((ev_228 h1).up (by decide)) ?_
  obtain ⟨b0, h⟩ := gd_some h
  refine RuP.ast (f := fun t => t == 0) (j := s 84 11) (a := 88) rfl rfl (by decide) rfl rfl b0.1 b0.2 ?_
  refine RuP.step (pc' := 135) (ls' := [some (.inr (.inr (some 84))), some (.inl l1), some (.inl l2)]) (st' := []) (h1 := hp L (ax_u2 s 88 ((s 84 11).toNat) q5) c e) rfl ?_
  exact bl_208_135 hk11 _ _ _ _ h
noncomputable def j_208_67 (k11 : (Int → Sg → Option Sg)) (l1 l2 : Int) (s : Sg) : Option Sg :=
  (if ax_w32 (l2 - l1) ≤ 16 then
    j_208_81 k11 l1 l2 s
  else
    ((some (f_227 1 l1 s)).bind fun q6 =>
    j_208_81 k11 l1 l2 q6))
set_option maxRecDepth 20000 in
theorem bl_208_67 {L c : Nat} {e : Nat → Nat} {k11 : (Int → Sg → Option Sg)} (hk11 : ∀ (d2 : Option ax_V) (l1 : Int) (s : Sg) (q : Sg), k11 l1 s = some q → RuP 4 tb_m208 11 [some (.inr (.inr (some 84))), some (.inl l1), d2] [] (hp L s c e) (oV L c e q)) : ∀ (l1 l2 : Int) (s : Sg) (q : Sg), j_208_67 k11 l1 l2 s = some q → RuP 4 tb_m208 67 [some (.inr (.inr (some 84))), some (.inl l1), some (.inl l2)] [] (hp L s c e) (oV L c e q) := by
  intro l1 l2 s q h
  unfold j_208_67 at h
  refine RuP.step (pc' := 68) (ls' := [some (.inr (.inr (some 84))), some (.inl l1), some (.inl l2)]) (st' := [.inl l2]) (h1 := hp L s c e) rfl ?_
  refine RuP.step (pc' := 69) (ls' := [some (.inr (.inr (some 84))), some (.inl l1), some (.inl l2)]) (st' := [.inl l1, .inl l2]) (h1 := hp L s c e) rfl ?_
  refine RuP.step (pc' := 70) (ls' := [some (.inr (.inr (some 84))), some (.inl l1), some (.inl l2)]) (st' := [.inl (ax_w32 (l2 - l1))]) (h1 := hp L s c e) rfl ?_
  refine RuP.step (pc' := 72) (ls' := [some (.inr (.inr (some 84))), some (.inl l1), some (.inl l2)]) (st' := [.inl 16, .inl (ax_w32 (l2 - l1))]) (h1 := hp L s c e) rfl ?_
  by_cases h0 : ax_w32 (l2 - l1) ≤ 16
  · rw [if_pos h0] at h
    refine RuP.jy rfl h0 ?_
    exact bl_208_81 hk11 _ _ _ _ h
  · rw [if_neg h0] at h
    refine RuP.jn rfl h0 ?_
    refine RuP.step (pc' := 76) (ls' := [some (.inr (.inr (some 84))), some (.inl l1), some (.inl l2)]) (st' := [.inr (.inr (some 84))]) (h1 := hp L s c e) rfl ?_
    refine RuP.step (pc' := 77) (ls' := [some (.inr (.inr (some 84))), some (.inl l1), some (.inl l2)]) (st' := [.inl 1, .inr (.inr (some 84))]) (h1 := hp L s c e) rfl ?_
    refine RuP.step (pc' := 78) (ls' := [some (.inr (.inr (some 84))), some (.inl l1), some (.inl l2)]) (st' := [.inl l1, .inl 1, .inr (.inr (some 84))]) (h1 := hp L s c e) rfl ?_
    obtain ⟨q6, h1, h⟩ := bd_some h
    refine RuP.cVe h1 rfl (EvP.v ((ev_227 1 l1).up (by decide))) ?_
    exact bl_208_81 hk11 _ _ _ _ h
noncomputable def j_208_39 (k11 : (Int → Sg → Option Sg)) : Nat → Int → Int → Sg → Option Sg
  | 0, _, _, _ => none
  | F + 1, l1, l2, s =>
    (gd (g_224 l2 s) (
    (if ¬ (f_225 (f_224 l2 s) s) = 0 then
      j_208_61 k11 (j_208_39 k11 F) l1 l2 s
    else
      (gd (g_224 l2 s) (
      (if f_226 (f_224 l2 s) s = 0 then
        j_208_67 k11 l1 l2 s
      else
        j_208_61 k11 (j_208_39 k11 F) l1 l2 s))))))
set_option maxRecDepth 20000 in
theorem bl_208_39 {L c : Nat} {e : Nat → Nat} {k11 : (Int → Sg → Option Sg)} (hk11 : ∀ (d2 : Option ax_V) (l1 : Int) (s : Sg) (q : Sg), k11 l1 s = some q → RuP 4 tb_m208 11 [some (.inr (.inr (some 84))), some (.inl l1), d2] [] (hp L s c e) (oV L c e q)) : ∀ (F : Nat) (l1 l2 : Int) (s : Sg) (q : Sg), j_208_39 k11 F l1 l2 s = some q → RuP 4 tb_m208 39 [some (.inr (.inr (some 84))), some (.inl l1), some (.inl l2)] [] (hp L s c e) (oV L c e q) := by
  intro F
  induction F with
  | zero =>
    intro l1 l2 s q h
    rw [j_208_39] at h
    cases h
  | succ F ih =>
    intro l1 l2 s q h
    rw [j_208_39] at h
    refine RuP.step (pc' := 40) (ls' := [some (.inr (.inr (some 84))), some (.inl l1), some (.inl l2)]) (st' := [.inr (.inr (some 84))]) (h1 := hp L s c e) rfl ?_
    refine RuP.step (pc' := 41) (ls' := [some (.inr (.inr (some 84))), some (.inl l1), some (.inl l2)]) (st' := [.inl l2, .inr (.inr (some 84))]) (h1 := hp L s c e) rfl ?_
    obtain ⟨b0, h⟩ := gd_some h
    refine RuP.cI rfl (EvP.i ((ev_224 l2 b0).up (by decide))) ?_
    refine RuP.cI rfl (EvP.i ((ev_225 (f_224 l2 s)).up (by decide))) ?_
    by_cases h1 : ¬ (f_225 (f_224 l2 s) s) = 0
    · rw [if_pos h1] at h
      refine RuP.jy rfl h1 ?_
      exact bl_208_61 hk11 ih _ _ _ _ h
    · rw [if_neg h1] at h
      refine RuP.jn rfl h1 ?_
      refine RuP.step (pc' := 51) (ls' := [some (.inr (.inr (some 84))), some (.inl l1), some (.inl l2)]) (st' := [.inr (.inr (some 84))]) (h1 := hp L s c e) rfl ?_
      refine RuP.step (pc' := 52) (ls' := [some (.inr (.inr (some 84))), some (.inl l1), some (.inl l2)]) (st' := [.inl l2, .inr (.inr (some 84))]) (h1 := hp L s c e) rfl ?_
      obtain ⟨b2, h⟩ := gd_some h
      refine RuP.cI rfl (EvP.i ((ev_224 l2 b2).up (by decide))) ?_
      refine RuP.cI rfl ((ev_226 (f_224 l2 s)).up (by decide)) ?_
      by_cases h3 : f_226 (f_224 l2 s) s = 0
      · rw [if_pos h3] at h
        refine RuP.jy rfl h3 ?_
        exact bl_208_67 hk11 _ _ _ _ h
      · rw [if_neg h3] at h
        refine RuP.jn rfl h3 ?_
        exact bl_208_61 hk11 ih _ _ _ _ h
noncomputable def j_208_11 : Nat → Int → Sg → Option Sg
  | 0, _, _ => none
  | F + 1, l1, s =>
    (if ¬ (s 84 6) = 0 then
      j_208_222 s
    else
      (if s 84 3 ≤ l1 then
        j_208_222 s
      else
        (gd (g_224 l1 s) (
        (if f_225 (f_224 l1 s) s = 0 then
          (gd (g_224 l1 s) (
          (if f_226 (f_224 l1 s) s = 0 then
            ((f_230 l1 s).bind fun q2 =>
            j_208_135 (j_208_11 F) l1 q2.1 q2.2)
          else
            ((f_229 l1 s).bind fun q4 =>
            (gd (0 ≤ q4.2 84 11 ∧ q4.2 84 11 < 8200) (
            j_208_135 (j_208_11 F) l1 q4.1 (ax_u2 q4.2 88 ((q4.2 84 11).toNat) 2)))))))
        else
          j_208_39 (j_208_11 F) FU l1 l1 s)))))
set_option maxRecDepth 20000 in
theorem bl_208_11 {L c : Nat} {e : Nat → Nat} : ∀ (F : Nat) (d2 : Option ax_V) (l1 : Int) (s : Sg) (q : Sg), j_208_11 F l1 s = some q → RuP 4 tb_m208 11 [some (.inr (.inr (some 84))), some (.inl l1), d2] [] (hp L s c e) (oV L c e q) := by
  intro F
  induction F with
  | zero =>
    intro d2 l1 s q h
    rw [j_208_11] at h
    cases h
  | succ F ih =>
    intro d2 l1 s q h
    rw [j_208_11] at h
    refine RuP.step (pc' := 12) (ls' := [some (.inr (.inr (some 84))), some (.inl l1), d2]) (st' := [.inr (.inr (some 84))]) (h1 := hp L s c e) rfl ?_
    refine RuP.step (pc' := 15) (ls' := [some (.inr (.inr (some 84))), some (.inl l1), d2]) (st' := [.inl (s 84 6)]) (h1 := hp L s c e) rfl ?_
    by_cases h0 : ¬ (s 84 6) = 0
    · rw [if_pos h0] at h
      refine RuP.jy rfl h0 ?_
      exact bl_208_222 _ _ _ _ h
    · rw [if_neg h0] at h
      refine RuP.jn rfl h0 ?_
      refine RuP.step (pc' := 19) (ls' := [some (.inr (.inr (some 84))), some (.inl l1), d2]) (st' := [.inl l1]) (h1 := hp L s c e) rfl ?_
      refine RuP.step (pc' := 20) (ls' := [some (.inr (.inr (some 84))), some (.inl l1), d2]) (st' := [.inr (.inr (some 84)), .inl l1]) (h1 := hp L s c e) rfl ?_
      refine RuP.step (pc' := 23) (ls' := [some (.inr (.inr (some 84))), some (.inl l1), d2]) (st' := [.inl (s 84 3), .inl l1]) (h1 := hp L s c e) rfl ?_
      by_cases h1 : s 84 3 ≤ l1
      · rw [if_pos h1] at h
        refine RuP.jy rfl h1 ?_
        exact bl_208_222 _ _ _ _ h
      · rw [if_neg h1] at h
        refine RuP.jn rfl h1 ?_
        refine RuP.step (pc' := 27) (ls' := [some (.inr (.inr (some 84))), some (.inl l1), d2]) (st' := [.inl l1]) (h1 := hp L s c e) rfl ?_
        refine RuP.step (pc' := 28) (ls' := [some (.inr (.inr (some 84))), some (.inl l1), some (.inl l1)]) (st' := []) (h1 := hp L s c e) rfl ?_
        refine RuP.step (pc' := 29) (ls' := [some (.inr (.inr (some 84))), some (.inl l1), some (.inl l1)]) (st' := [.inr (.inr (some 84))]) (h1 := hp L s c e) rfl ?_
        refine RuP.step (pc' := 30) (ls' := [some (.inr (.inr (some 84))), some (.inl l1), some (.inl l1)]) (st' := [.inl l1, .inr (.inr (some 84))]) (h1 := hp L s c e) rfl ?_
        obtain ⟨b2, h⟩ := gd_some h
        refine RuP.cI rfl (EvP.i ((ev_224 l1 b2).up (by decide))) ?_
        refine RuP.cI rfl (EvP.i ((ev_225 (f_224 l1 s)).up (by decide))) ?_
        by_cases h3 : f_225 (f_224 l1 s) s = 0
        · rw [if_pos h3] at h
          refine RuP.jy rfl h3 ?_
          refine RuP.step (pc' := 100) (ls' := [some (.inr (.inr (some 84))), some (.inl l1), some (.inl l1)]) (st' := [.inr (.inr (some 84))]) (h1 := hp L s c e) rfl ?_
          refine RuP.step (pc' := 101) (ls' := [some (.inr (.inr (some 84))), some (.inl l1), some (.inl l1)]) (st' := [.inl l1, .inr (.inr (some 84))]) (h1 := hp L s c e) rfl ?_
          obtain ⟨b4, h⟩ := gd_some h
          refine RuP.cI rfl (EvP.i ((ev_224 l1 b4).up (by decide))) ?_
          refine RuP.cI rfl ((ev_226 (f_224 l1 s)).up (by decide)) ?_
          by_cases h5 : f_226 (f_224 l1 s) s = 0
          · rw [if_pos h5] at h
            refine RuP.jy rfl h5 ?_
            refine RuP.step (pc' := 130) (ls' := [some (.inr (.inr (some 84))), some (.inl l1), some (.inl l1)]) (st' := [.inr (.inr (some 84))]) (h1 := hp L s c e) rfl ?_
            refine RuP.step (pc' := 131) (ls' := [some (.inr (.inr (some 84))), some (.inl l1), some (.inl l1)]) (st' := [.inl l1, .inr (.inr (some 84))]) (h1 := hp L s c e) rfl ?_
            obtain ⟨q2, h1, h⟩ := bd_some h
            refine RuP.cI rfl ((ev_230 h1).up (by decide)) ?_
            refine RuP.step (pc' := 135) (ls' := [some (.inr (.inr (some 84))), some (.inl l1), some (.inl q2.1)]) (st' := []) (h1 := hp L q2.2 c e) rfl ?_
            exact bl_208_135 ih _ _ _ _ h
          · rw [if_neg h5] at h
            refine RuP.jn rfl h5 ?_
            refine RuP.step (pc' := 111) (ls' := [some (.inr (.inr (some 84))), some (.inl l1), some (.inl l1)]) (st' := [.inr (.inr (some 84))]) (h1 := hp L s c e) rfl ?_
            refine RuP.step (pc' := 112) (ls' := [some (.inr (.inr (some 84))), some (.inl l1), some (.inl l1)]) (st' := [.inl l1, .inr (.inr (some 84))]) (h1 := hp L s c e) rfl ?_
            obtain ⟨q4, h1, h⟩ := bd_some h
            refine RuP.cI rfl ((ev_229 h1).up (by decide)) ?_
            refine RuP.step (pc' := 116) (ls' := [some (.inr (.inr (some 84))), some (.inl l1), some (.inl q4.1)]) (st' := []) (h1 := hp L q4.2 c e) rfl ?_
            refine RuP.step (pc' := 117) (ls' := [some (.inr (.inr (some 84))), some (.inl l1), some (.inl q4.1)]) (st' := [.inr (.inr (some 84))]) (h1 := hp L q4.2 c e) rfl ?_
            refine RuP.step (pc' := 120) (ls' := [some (.inr (.inr (some 84))), some (.inl l1), some (.inl q4.1)]) (st' := [.inr (.inr (some 88))]) (h1 := hp L q4.2 c e) rfl ?_
            refine RuP.step (pc' := 121) (ls' := [some (.inr (.inr (some 84))), some (.inl l1), some (.inl q4.1)]) (st' := [.inr (.inr (some 84)), .inr (.inr (some 88))]) (h1 := hp L q4.2 c e) rfl ?_
            refine RuP.step (pc' := 124) (ls' := [some (.inr (.inr (some 84))), some (.inl l1), some (.inl q4.1)]) (st' := [.inl (q4.2 84 11), .inr (.inr (some 88))]) (h1 := hp L q4.2 c e) rfl ?_
            refine RuP.step (pc' := 125) (ls' := [some (.inr (.inr (some 84))), some (.inl l1), some (.inl q4.1)]) (st' := [.inl 2, .inl (q4.2 84 11), .inr (.inr (some 88))]) (h1 := hp L q4.2 c e) rfl ?_
            obtain ⟨b6, h⟩ := gd_some h
            refine RuP.ast (f := fun t => t == 0) (j := q4.2 84 11) (a := 88) rfl rfl (by decide) rfl rfl b6.1 b6.2 ?_
            refine RuP.step (pc' := 135) (ls' := [some (.inr (.inr (some 84))), some (.inl l1), some (.inl q4.1)]) (st' := []) (h1 := hp L (ax_u2 q4.2 88 ((q4.2 84 11).toNat) 2) c e) rfl ?_
            exact bl_208_135 ih _ _ _ _ h
        · rw [if_neg h3] at h
          refine RuP.jn rfl h3 ?_
          exact bl_208_39 ih FU _ _ _ _ h
noncomputable def f_208 (s : Sg) : Option Sg :=
  ((f_223 0 (ax_u2 s 84 11 0)).bind fun q1 =>
  j_208_11 FU q1 (ax_u2 s 84 11 0))
set_option maxRecDepth 20000 in
theorem ev_208 {L c : Nat} {e : Nat → Nat} {s : Sg} {q : Sg} (h : f_208 s = some q) : EvP 5 208 [.inr (.inr (some 84))] (hp L s c e) (oV L c e q) := by
  unfold f_208 at h
  refine EvP.of (μ := tb_m208) (ls := [some (.inr (.inr (some 84))), none, none]) rfl (Nat.le_of_ble_eq_true rfl) rfl ?_
  refine RuP.step (pc' := 1) (ls' := [some (.inr (.inr (some 84))), none, none]) (st' := [.inr (.inr (some 84))]) (h1 := hp L s c e) rfl ?_
  refine RuP.step (pc' := 2) (ls' := [some (.inr (.inr (some 84))), none, none]) (st' := [.inl 0, .inr (.inr (some 84))]) (h1 := hp L s c e) rfl ?_
  refine RuP.step (pc' := 5) (ls' := [some (.inr (.inr (some 84))), none, none]) (st' := []) (h1 := hp L (ax_u2 s 84 11 0) c e) rfl ?_
  refine RuP.step (pc' := 6) (ls' := [some (.inr (.inr (some 84))), none, none]) (st' := [.inr (.inr (some 84))]) (h1 := hp L (ax_u2 s 84 11 0) c e) rfl ?_
  refine RuP.step (pc' := 7) (ls' := [some (.inr (.inr (some 84))), none, none]) (st' := [.inl 0, .inr (.inr (some 84))]) (h1 := hp L (ax_u2 s 84 11 0) c e) rfl ?_
  obtain ⟨q1, h1, h⟩ := bd_some h
  refine RuP.cI rfl ((ev_223 h1).up (by decide)) ?_
  refine RuP.step (pc' := 11) (ls' := [some (.inr (.inr (some 84))), some (.inl q1), none]) (st' := []) (h1 := hp L (ax_u2 s 84 11 0) c e) rfl ?_
  exact bl_208_11 FU _ _ _ _ h
/-- MachineTextModel.checkNumbers()V -/
noncomputable def j_210_473 (s : Sg) : Option Sg :=
  ((f_237 4 s).bind fun q2 =>
  some q2)
set_option maxRecDepth 20000 in
theorem bl_210_473 {L c : Nat} {e : Nat → Nat} : ∀ (d2 d3 : Option ax_V) (z1 : Int) (s : Sg) (q : Sg), j_210_473 s = some q → RuP 4 tb_m210 473 [some (.inr (.inr (some 84))), some (.inl z1), d2, d3] [] (hp L s c e) (oV L c e q) := by
  intro d2 d3 z1 s q h
  unfold j_210_473 at h
  refine RuP.step (pc' := 474) (ls' := [some (.inr (.inr (some 84))), some (.inl z1), d2, d3]) (st' := [.inr (.inr (some 84))]) (h1 := hp L s c e) rfl ?_
  refine RuP.step (pc' := 475) (ls' := [some (.inr (.inr (some 84))), some (.inl z1), d2, d3]) (st' := [.inl 4, .inr (.inr (some 84))]) (h1 := hp L s c e) rfl ?_
  obtain ⟨q2, h1, h⟩ := bd_some h
  refine RuP.cV rfl ((ev_237 h1).up (by decide)) ?_
  cases h
  exact RuP.dV rfl
noncomputable def j_210_467 (k285 : (Int → Sg → Option Sg)) (l1 : Int) (s : Sg) : Option Sg :=
  k285 (ax_w32 (l1 + 1)) s
set_option maxRecDepth 20000 in
theorem bl_210_467 {L c : Nat} {e : Nat → Nat} {k285 : (Int → Sg → Option Sg)} (hk285 : ∀ (d2 d3 : Option ax_V) (l1 : Int) (s : Sg) (q : Sg), k285 l1 s = some q → RuP 4 tb_m210 285 [some (.inr (.inr (some 84))), some (.inl l1), d2, d3] [] (hp L s c e) (oV L c e q)) : ∀ (d2 d3 : Option ax_V) (l1 : Int) (s : Sg) (q : Sg), j_210_467 k285 l1 s = some q → RuP 4 tb_m210 467 [some (.inr (.inr (some 84))), some (.inl l1), d2, d3] [] (hp L s c e) (oV L c e q) := by
  intro d2 d3 l1 s q h
  unfold j_210_467 at h
  refine RuP.step (pc' := 470) (ls' := [some (.inr (.inr (some 84))), some (.inl (ax_w32 (l1 + 1))), d2, d3]) (st' := []) (h1 := hp L s c e) rfl ?_
  refine RuP.step (pc' := 285) (ls' := [some (.inr (.inr (some 84))), some (.inl (ax_w32 (l1 + 1))), d2, d3]) (st' := []) (h1 := hp L s c e) rfl ?_
  exact hk285 _ _ _ _ _ h
noncomputable def j_210_381 (k285 : (Int → Sg → Option Sg)) (l1 : Int) (s : Sg) : Option Sg :=
  (gd (0 ≤ l1 ∧ l1 < 8200) (
  (if ¬ (s 116 l1.toNat) = 7 then
    j_210_467 k285 l1 s
  else
    (gd (0 ≤ l1 ∧ l1 < 8200) (
    ((f_234 (s 118 l1.toNat) 0 31 s).bind fun q4 =>
    (gd (0 ≤ l1 ∧ l1 < 8200) (
    ((f_234 (q4.2 119 l1.toNat) 0 31 q4.2).bind fun q5 =>
    (if q5.1 = 0 then
      j_210_467 k285 l1 q5.2
    else
      (if q4.1 = 0 then
        j_210_467 k285 l1 q5.2
      else
        (gd (0 ≤ l1 ∧ l1 < 8200) (
        ((f_218 (q5.2 118 l1.toNat) q5.2).bind fun q6 =>
        (gd (0 ≤ l1 ∧ l1 < 8200) (
        ((f_218 (q5.2 119 l1.toNat) q5.2).bind fun q7 =>
        (if 0 ≤ ax_cmp q6 q7 then
          j_210_467 k285 l1 q5.2
        else
          (gd (0 ≤ l1 ∧ l1 < 8200) (
          (gd (0 ≤ q5.2 119 l1.toNat ∧ q5.2 119 l1.toNat < 8200) (
          ((some (f_235 (q5.2 89 ((q5.2 119 l1.toNat).toNat)) q5.2)).bind fun q8 =>
          j_210_467 k285 l1 q8)))))))))))))))))))))))
set_option maxRecDepth 20000 in
theorem bl_210_381 {L c : Nat} {e : Nat → Nat} {k285 : (Int → Sg → Option Sg)} (hk285 : ∀ (d2 d3 : Option ax_V) (l1 : Int) (s : Sg) (q : Sg), k285 l1 s = some q → RuP 4 tb_m210 285 [some (.inr (.inr (some 84))), some (.inl l1), d2, d3] [] (hp L s c e) (oV L c e q)) : ∀ (d2 d3 : Option ax_V) (l1 : Int) (s : Sg) (q : Sg), j_210_381 k285 l1 s = some q → RuP 4 tb_m210 381 [some (.inr (.inr (some 84))), some (.inl l1), d2, d3] [] (hp L s c e) (oV L c e q) := by
  intro d2 d3 l1 s q h
  unfold j_210_381 at h
  refine RuP.step (pc' := 382) (ls' := [some (.inr (.inr (some 84))), some (.inl l1), d2, d3]) (st' := [.inr (.inr (some 84))]) (h1 := hp L s c e) rfl ?_
  refine RuP.step (pc' := 385) (ls' := [some (.inr (.inr (some 84))), some (.inl l1), d2, d3]) (st' := [.inr (.inr (some 116))]) (h1 := hp L s c e) rfl ?_
  refine RuP.step (pc' := 386) (ls' := [some (.inr (.inr (some 84))), some (.inl l1), d2, d3]) (st' := [.inl l1, .inr (.inr (some 116))]) (h1 := hp L s c e) rfl ?_
  obtain ⟨b0, h⟩ := gd_some h
  refine RuP.ald (f := fun t => t == 0) (j := l1) (a := 116) rfl rfl b0.1 b0.2 ?_
  refine RuP.step (pc' := 389) (ls' := [some (.inr (.inr (some 84))), some (.inl l1), d2, d3]) (st' := [.inl 7, .inl (s 116 l1.toNat)]) (h1 := hp L s c e) rfl ?_
  by_cases h1 : ¬ (s 116 l1.toNat) = 7
  · rw [if_pos h1] at h
    refine RuP.jy rfl h1 ?_
    exact bl_210_467 hk285 _ _ _ _ _ h
  · rw [if_neg h1] at h
    refine RuP.jn rfl h1 ?_
    refine RuP.step (pc' := 393) (ls' := [some (.inr (.inr (some 84))), some (.inl l1), d2, d3]) (st' := [.inr (.inr (some 84))]) (h1 := hp L s c e) rfl ?_
    refine RuP.step (pc' := 394) (ls' := [some (.inr (.inr (some 84))), some (.inl l1), d2, d3]) (st' := [.inr (.inr (some 84)), .inr (.inr (some 84))]) (h1 := hp L s c e) rfl ?_
    refine RuP.step (pc' := 397) (ls' := [some (.inr (.inr (some 84))), some (.inl l1), d2, d3]) (st' := [.inr (.inr (some 118)), .inr (.inr (some 84))]) (h1 := hp L s c e) rfl ?_
    refine RuP.step (pc' := 398) (ls' := [some (.inr (.inr (some 84))), some (.inl l1), d2, d3]) (st' := [.inl l1, .inr (.inr (some 118)), .inr (.inr (some 84))]) (h1 := hp L s c e) rfl ?_
    obtain ⟨b2, h⟩ := gd_some h
    refine RuP.ald (f := fun t => t == 0) (j := l1) (a := 118) rfl rfl b2.1 b2.2 ?_
    refine RuP.step (pc' := 400) (ls' := [some (.inr (.inr (some 84))), some (.inl l1), d2, d3]) (st' := [.inr (.inl 0), .inl (s 118 l1.toNat), .inr (.inr (some 84))]) (h1 := hp L s c e) rfl ?_
    refine RuP.step (pc' := 403) (ls' := [some (.inr (.inr (some 84))), some (.inl l1), d2, d3]) (st' := [.inr (.inl 31), .inr (.inl 0), .inl (s 118 l1.toNat), .inr (.inr (some 84))]) (h1 := hp L s c e) rfl ?_
    obtain ⟨q4, h1, h⟩ := bd_some h
    refine RuP.cI rfl ((ev_234 h1).up (by decide)) ?_
    refine RuP.step (pc' := 407) (ls' := [some (.inr (.inr (some 84))), some (.inl l1), some (.inl q4.1), d3]) (st' := []) (h1 := hp L q4.2 c e) rfl ?_
    refine RuP.step (pc' := 408) (ls' := [some (.inr (.inr (some 84))), some (.inl l1), some (.inl q4.1), d3]) (st' := [.inr (.inr (some 84))]) (h1 := hp L q4.2 c e) rfl ?_
    refine RuP.step (pc' := 409) (ls' := [some (.inr (.inr (some 84))), some (.inl l1), some (.inl q4.1), d3]) (st' := [.inr (.inr (some 84)), .inr (.inr (some 84))]) (h1 := hp L q4.2 c e) rfl ?_
    refine RuP.step (pc' := 412) (ls' := [some (.inr (.inr (some 84))), some (.inl l1), some (.inl q4.1), d3]) (st' := [.inr (.inr (some 119)), .inr (.inr (some 84))]) (h1 := hp L q4.2 c e) rfl ?_
    refine RuP.step (pc' := 413) (ls' := [some (.inr (.inr (some 84))), some (.inl l1), some (.inl q4.1), d3]) (st' := [.inl l1, .inr (.inr (some 119)), .inr (.inr (some 84))]) (h1 := hp L q4.2 c e) rfl ?_
    obtain ⟨b3, h⟩ := gd_some h
    refine RuP.ald (f := fun t => t == 0) (j := l1) (a := 119) rfl rfl b3.1 b3.2 ?_
    refine RuP.step (pc' := 415) (ls' := [some (.inr (.inr (some 84))), some (.inl l1), some (.inl q4.1), d3]) (st' := [.inr (.inl 0), .inl (q4.2 119 l1.toNat), .inr (.inr (some 84))]) (h1 := hp L q4.2 c e) rfl ?_
    refine RuP.step (pc' := 418) (ls' := [some (.inr (.inr (some 84))), some (.inl l1), some (.inl q4.1), d3]) (st' := [.inr (.inl 31), .inr (.inl 0), .inl (q4.2 119 l1.toNat), .inr (.inr (some 84))]) (h1 := hp L q4.2 c e) rfl ?_
    obtain ⟨q5, h1, h⟩ := bd_some h
    refine RuP.cI rfl ((ev_234 h1).up (by decide)) ?_
    by_cases h4 : q5.1 = 0
    · rw [if_pos h4] at h
      refine RuP.jy rfl h4 ?_
      exact bl_210_467 hk285 _ _ _ _ _ h
    · rw [if_neg h4] at h
      refine RuP.jn rfl h4 ?_
      refine RuP.step (pc' := 425) (ls' := [some (.inr (.inr (some 84))), some (.inl l1), some (.inl q4.1), d3]) (st' := [.inl q4.1]) (h1 := hp L q5.2 c e) rfl ?_
      by_cases h5 : q4.1 = 0
      · rw [if_pos h5] at h
        refine RuP.jy rfl h5 ?_
        exact bl_210_467 hk285 _ _ _ _ _ h
      · rw [if_neg h5] at h
        refine RuP.jn rfl h5 ?_
        refine RuP.step (pc' := 429) (ls' := [some (.inr (.inr (some 84))), some (.inl l1), some (.inl q4.1), d3]) (st' := [.inr (.inr (some 84))]) (h1 := hp L q5.2 c e) rfl ?_
        refine RuP.step (pc' := 430) (ls' := [some (.inr (.inr (some 84))), some (.inl l1), some (.inl q4.1), d3]) (st' := [.inr (.inr (some 84)), .inr (.inr (some 84))]) (h1 := hp L q5.2 c e) rfl ?_
        refine RuP.step (pc' := 433) (ls' := [some (.inr (.inr (some 84))), some (.inl l1), some (.inl q4.1), d3]) (st' := [.inr (.inr (some 118)), .inr (.inr (some 84))]) (h1 := hp L q5.2 c e) rfl ?_
        refine RuP.step (pc' := 434) (ls' := [some (.inr (.inr (some 84))), some (.inl l1), some (.inl q4.1), d3]) (st' := [.inl l1, .inr (.inr (some 118)), .inr (.inr (some 84))]) (h1 := hp L q5.2 c e) rfl ?_
        obtain ⟨b6, h⟩ := gd_some h
        refine RuP.ald (f := fun t => t == 0) (j := l1) (a := 118) rfl rfl b6.1 b6.2 ?_
        obtain ⟨q6, h1, h⟩ := bd_some h
        refine RuP.cJ rfl ((ev_218 h1).up (by decide)) ?_
        refine RuP.step (pc' := 439) (ls' := [some (.inr (.inr (some 84))), some (.inl l1), some (.inl q4.1), d3]) (st' := [.inr (.inr (some 84)), .inr (.inl q6)]) (h1 := hp L q5.2 c e) rfl ?_
        refine RuP.step (pc' := 440) (ls' := [some (.inr (.inr (some 84))), some (.inl l1), some (.inl q4.1), d3]) (st' := [.inr (.inr (some 84)), .inr (.inr (some 84)), .inr (.inl q6)]) (h1 := hp L q5.2 c e) rfl ?_
        refine RuP.step (pc' := 443) (ls' := [some (.inr (.inr (some 84))), some (.inl l1), some (.inl q4.1), d3]) (st' := [.inr (.inr (some 119)), .inr (.inr (some 84)), .inr (.inl q6)]) (h1 := hp L q5.2 c e) rfl ?_
        refine RuP.step (pc' := 444) (ls' := [some (.inr (.inr (some 84))), some (.inl l1), some (.inl q4.1), d3]) (st' := [.inl l1, .inr (.inr (some 119)), .inr (.inr (some 84)), .inr (.inl q6)]) (h1 := hp L q5.2 c e) rfl ?_
        obtain ⟨b7, h⟩ := gd_some h
        refine RuP.ald (f := fun t => t == 0) (j := l1) (a := 119) rfl rfl b7.1 b7.2 ?_
        obtain ⟨q7, h1, h⟩ := bd_some h
        refine RuP.cJ rfl ((ev_218 h1).up (by decide)) ?_
        refine RuP.step (pc' := 449) (ls' := [some (.inr (.inr (some 84))), some (.inl l1), some (.inl q4.1), d3]) (st' := [.inl (ax_cmp q6 q7)]) (h1 := hp L q5.2 c e) rfl ?_
        by_cases h8 : 0 ≤ ax_cmp q6 q7
        · rw [if_pos h8] at h
          refine RuP.jy rfl h8 ?_
          exact bl_210_467 hk285 _ _ _ _ _ h
        · rw [if_neg h8] at h
          refine RuP.jn rfl h8 ?_
          refine RuP.step (pc' := 453) (ls' := [some (.inr (.inr (some 84))), some (.inl l1), some (.inl q4.1), d3]) (st' := [.inr (.inr (some 84))]) (h1 := hp L q5.2 c e) rfl ?_
          refine RuP.step (pc' := 454) (ls' := [some (.inr (.inr (some 84))), some (.inl l1), some (.inl q4.1), d3]) (st' := [.inr (.inr (some 84)), .inr (.inr (some 84))]) (h1 := hp L q5.2 c e) rfl ?_
          refine RuP.step (pc' := 457) (ls' := [some (.inr (.inr (some 84))), some (.inl l1), some (.inl q4.1), d3]) (st' := [.inr (.inr (some 89)), .inr (.inr (some 84))]) (h1 := hp L q5.2 c e) rfl ?_
          refine RuP.step (pc' := 458) (ls' := [some (.inr (.inr (some 84))), some (.inl l1), some (.inl q4.1), d3]) (st' := [.inr (.inr (some 84)), .inr (.inr (some 89)), .inr (.inr (some 84))]) (h1 := hp L q5.2 c e) rfl ?_
          refine RuP.step (pc' := 461) (ls' := [some (.inr (.inr (some 84))), some (.inl l1), some (.inl q4.1), d3]) (st' := [.inr (.inr (some 119)), .inr (.inr (some 89)), .inr (.inr (some 84))]) (h1 := hp L q5.2 c e) rfl ?_
          refine RuP.step (pc' := 462) (ls' := [some (.inr (.inr (some 84))), some (.inl l1), some (.inl q4.1), d3]) (st' := [.inl l1, .inr (.inr (some 119)), .inr (.inr (some 89)), .inr (.inr (some 84))]) (h1 := hp L q5.2 c e) rfl ?_
          obtain ⟨b9, h⟩ := gd_some h
          refine RuP.ald (f := fun t => t == 0) (j := l1) (a := 119) rfl rfl b9.1 b9.2 ?_
          obtain ⟨b10, h⟩ := gd_some h
          refine RuP.ald (f := fun t => t == 0) (j := q5.2 119 l1.toNat) (a := 89) rfl rfl b10.1 b10.2 ?_
          obtain ⟨q8, h1, h⟩ := bd_some h
          refine RuP.cVe h1 rfl (EvP.v ((ev_235 (q5.2 89 ((q5.2 119 l1.toNat).toNat))).up (by decide))) ?_
          exact bl_210_467 hk285 _ _ _ _ _ h
noncomputable def j_210_328 (k285 : (Int → Sg → Option Sg)) (l1 : Int) (s : Sg) : Option Sg :=
  (gd (0 ≤ l1 ∧ l1 < 8200) (
  (if ¬ (s 116 l1.toNat) = 0 then
    j_210_381 k285 l1 s
  else
    (gd (0 ≤ l1 ∧ l1 < 8200) (
    ((f_234 (s 119 l1.toNat) 1 32 s).bind fun q9 =>
    (if q9.1 = 0 then
      j_210_381 k285 l1 q9.2
    else
      (gd (0 ≤ l1 ∧ l1 < 8200) (
      (gd (0 ≤ l1 ∧ l1 < 8200) (
      ((f_218 (q9.2 119 l1.toNat) q9.2).bind fun q10 =>
      ((f_234 (q9.2 118 l1.toNat) 0 (ax_w64 ((ax_lshl 1 (ax_w32 q10)) - 1)) q9.2).bind fun q11 =>
      j_210_381 k285 l1 q11.2)))))))))))))
set_option maxRecDepth 20000 in
theorem bl_210_328 {L c : Nat} {e : Nat → Nat} {k285 : (Int → Sg → Option Sg)} (hk285 : ∀ (d2 d3 : Option ax_V) (l1 : Int) (s : Sg) (q : Sg), k285 l1 s = some q → RuP 4 tb_m210 285 [some (.inr (.inr (some 84))), some (.inl l1), d2, d3] [] (hp L s c e) (oV L c e q)) : ∀ (d2 d3 : Option ax_V) (l1 : Int) (s : Sg) (q : Sg), j_210_328 k285 l1 s = some q → RuP 4 tb_m210 328 [some (.inr (.inr (some 84))), some (.inl l1), d2, d3] [] (hp L s c e) (oV L c e q) := by
  intro d2 d3 l1 s q h
  unfold j_210_328 at h
  refine RuP.step (pc' := 329) (ls' := [some (.inr (.inr (some 84))), some (.inl l1), d2, d3]) (st' := [.inr (.inr (some 84))]) (h1 := hp L s c e) rfl ?_
  refine RuP.step (pc' := 332) (ls' := [some (.inr (.inr (some 84))), some (.inl l1), d2, d3]) (st' := [.inr (.inr (some 116))]) (h1 := hp L s c e) rfl ?_
  refine RuP.step (pc' := 333) (ls' := [some (.inr (.inr (some 84))), some (.inl l1), d2, d3]) (st' := [.inl l1, .inr (.inr (some 116))]) (h1 := hp L s c e) rfl ?_
  obtain ⟨b0, h⟩ := gd_some h
  refine RuP.ald (f := fun t => t == 0) (j := l1) (a := 116) rfl rfl b0.1 b0.2 ?_
  by_cases h1 : ¬ (s 116 l1.toNat) = 0
  · rw [if_pos h1] at h
    refine RuP.jy rfl h1 ?_
    exact bl_210_381 hk285 _ _ _ _ _ h
  · rw [if_neg h1] at h
    refine RuP.jn rfl h1 ?_
    refine RuP.step (pc' := 338) (ls' := [some (.inr (.inr (some 84))), some (.inl l1), d2, d3]) (st' := [.inr (.inr (some 84))]) (h1 := hp L s c e) rfl ?_
    refine RuP.step (pc' := 339) (ls' := [some (.inr (.inr (some 84))), some (.inl l1), d2, d3]) (st' := [.inr (.inr (some 84)), .inr (.inr (some 84))]) (h1 := hp L s c e) rfl ?_
    refine RuP.step (pc' := 342) (ls' := [some (.inr (.inr (some 84))), some (.inl l1), d2, d3]) (st' := [.inr (.inr (some 119)), .inr (.inr (some 84))]) (h1 := hp L s c e) rfl ?_
    refine RuP.step (pc' := 343) (ls' := [some (.inr (.inr (some 84))), some (.inl l1), d2, d3]) (st' := [.inl l1, .inr (.inr (some 119)), .inr (.inr (some 84))]) (h1 := hp L s c e) rfl ?_
    obtain ⟨b2, h⟩ := gd_some h
    refine RuP.ald (f := fun t => t == 0) (j := l1) (a := 119) rfl rfl b2.1 b2.2 ?_
    refine RuP.step (pc' := 345) (ls' := [some (.inr (.inr (some 84))), some (.inl l1), d2, d3]) (st' := [.inr (.inl 1), .inl (s 119 l1.toNat), .inr (.inr (some 84))]) (h1 := hp L s c e) rfl ?_
    refine RuP.step (pc' := 348) (ls' := [some (.inr (.inr (some 84))), some (.inl l1), d2, d3]) (st' := [.inr (.inl 32), .inr (.inl 1), .inl (s 119 l1.toNat), .inr (.inr (some 84))]) (h1 := hp L s c e) rfl ?_
    obtain ⟨q9, h1, h⟩ := bd_some h
    refine RuP.cI rfl ((ev_234 h1).up (by decide)) ?_
    by_cases h3 : q9.1 = 0
    · rw [if_pos h3] at h
      refine RuP.jy rfl h3 ?_
      exact bl_210_381 hk285 _ _ _ _ _ h
    · rw [if_neg h3] at h
      refine RuP.jn rfl h3 ?_
      refine RuP.step (pc' := 355) (ls' := [some (.inr (.inr (some 84))), some (.inl l1), d2, d3]) (st' := [.inr (.inr (some 84))]) (h1 := hp L q9.2 c e) rfl ?_
      refine RuP.step (pc' := 356) (ls' := [some (.inr (.inr (some 84))), some (.inl l1), d2, d3]) (st' := [.inr (.inr (some 84)), .inr (.inr (some 84))]) (h1 := hp L q9.2 c e) rfl ?_
      refine RuP.step (pc' := 359) (ls' := [some (.inr (.inr (some 84))), some (.inl l1), d2, d3]) (st' := [.inr (.inr (some 118)), .inr (.inr (some 84))]) (h1 := hp L q9.2 c e) rfl ?_
      refine RuP.step (pc' := 360) (ls' := [some (.inr (.inr (some 84))), some (.inl l1), d2, d3]) (st' := [.inl l1, .inr (.inr (some 118)), .inr (.inr (some 84))]) (h1 := hp L q9.2 c e) rfl ?_
      obtain ⟨b4, h⟩ := gd_some h
      refine RuP.ald (f := fun t => t == 0) (j := l1) (a := 118) rfl rfl b4.1 b4.2 ?_
      refine RuP.step (pc' := 362) (ls' := [some (.inr (.inr (some 84))), some (.inl l1), d2, d3]) (st' := [.inr (.inl 0), .inl (q9.2 118 l1.toNat), .inr (.inr (some 84))]) (h1 := hp L q9.2 c e) rfl ?_
      refine RuP.step (pc' := 363) (ls' := [some (.inr (.inr (some 84))), some (.inl l1), d2, d3]) (st' := [.inr (.inl 1), .inr (.inl 0), .inl (q9.2 118 l1.toNat), .inr (.inr (some 84))]) (h1 := hp L q9.2 c e) rfl ?_
      refine RuP.step (pc' := 364) (ls' := [some (.inr (.inr (some 84))), some (.inl l1), d2, d3]) (st' := [.inr (.inr (some 84)), .inr (.inl 1), .inr (.inl 0), .inl (q9.2 118 l1.toNat), .inr (.inr (some 84))]) (h1 := hp L q9.2 c e) rfl ?_
      refine RuP.step (pc' := 365) (ls' := [some (.inr (.inr (some 84))), some (.inl l1), d2, d3]) (st' := [.inr (.inr (some 84)), .inr (.inr (some 84)), .inr (.inl 1), .inr (.inl 0), .inl (q9.2 118 l1.toNat), .inr (.inr (some 84))]) (h1 := hp L q9.2 c e) rfl ?_
      refine RuP.step (pc' := 368) (ls' := [some (.inr (.inr (some 84))), some (.inl l1), d2, d3]) (st' := [.inr (.inr (some 119)), .inr (.inr (some 84)), .inr (.inl 1), .inr (.inl 0), .inl (q9.2 118 l1.toNat), .inr (.inr (some 84))]) (h1 := hp L q9.2 c e) rfl ?_
      refine RuP.step (pc' := 369) (ls' := [some (.inr (.inr (some 84))), some (.inl l1), d2, d3]) (st' := [.inl l1, .inr (.inr (some 119)), .inr (.inr (some 84)), .inr (.inl 1), .inr (.inl 0), .inl (q9.2 118 l1.toNat), .inr (.inr (some 84))]) (h1 := hp L q9.2 c e) rfl ?_
      obtain ⟨b5, h⟩ := gd_some h
      refine RuP.ald (f := fun t => t == 0) (j := l1) (a := 119) rfl rfl b5.1 b5.2 ?_
      obtain ⟨q10, h1, h⟩ := bd_some h
      refine RuP.cJ rfl ((ev_218 h1).up (by decide)) ?_
      refine RuP.step (pc' := 374) (ls' := [some (.inr (.inr (some 84))), some (.inl l1), d2, d3]) (st' := [.inl (ax_w32 q10), .inr (.inl 1), .inr (.inl 0), .inl (q9.2 118 l1.toNat), .inr (.inr (some 84))]) (h1 := hp L q9.2 c e) rfl ?_
      refine RuP.step (pc' := 375) (ls' := [some (.inr (.inr (some 84))), some (.inl l1), d2, d3]) (st' := [.inr (.inl (ax_lshl 1 (ax_w32 q10))), .inr (.inl 0), .inl (q9.2 118 l1.toNat), .inr (.inr (some 84))]) (h1 := hp L q9.2 c e) rfl ?_
      refine RuP.step (pc' := 376) (ls' := [some (.inr (.inr (some 84))), some (.inl l1), d2, d3]) (st' := [.inr (.inl 1), .inr (.inl (ax_lshl 1 (ax_w32 q10))), .inr (.inl 0), .inl (q9.2 118 l1.toNat), .inr (.inr (some 84))]) (h1 := hp L q9.2 c e) rfl ?_
      refine RuP.step (pc' := 377) (ls' := [some (.inr (.inr (some 84))), some (.inl l1), d2, d3]) (st' := [.inr (.inl (ax_w64 ((ax_lshl 1 (ax_w32 q10)) - 1))), .inr (.inl 0), .inl (q9.2 118 l1.toNat), .inr (.inr (some 84))]) (h1 := hp L q9.2 c e) rfl ?_
      obtain ⟨q11, h1, h⟩ := bd_some h
      refine RuP.cI rfl ((ev_234 h1).up (by decide)) ?_
      refine RuP.step (pc' := 381) (ls' := [some (.inr (.inr (some 84))), some (.inl l1), d2, d3]) (st' := []) (h1 := hp L q11.2 c e) rfl ?_
      exact bl_210_381 hk285 _ _ _ _ _ h
noncomputable def j_210_313 (k285 : (Int → Sg → Option Sg)) (l1 : Int) (s : Sg) : Option Sg :=
  (gd (0 ≤ l1 ∧ l1 < 8200) (
  ((f_234 (s 119 l1.toNat) 1 32 s).bind fun q3 =>
  j_210_328 k285 l1 q3.2)))
set_option maxRecDepth 20000 in
theorem bl_210_313 {L c : Nat} {e : Nat → Nat} {k285 : (Int → Sg → Option Sg)} (hk285 : ∀ (d2 d3 : Option ax_V) (l1 : Int) (s : Sg) (q : Sg), k285 l1 s = some q → RuP 4 tb_m210 285 [some (.inr (.inr (some 84))), some (.inl l1), d2, d3] [] (hp L s c e) (oV L c e q)) : ∀ (d2 d3 : Option ax_V) (l1 : Int) (s : Sg) (q : Sg), j_210_313 k285 l1 s = some q → RuP 4 tb_m210 313 [some (.inr (.inr (some 84))), some (.inl l1), d2, d3] [] (hp L s c e) (oV L c e q) := by
  intro d2 d3 l1 s q h
  unfold j_210_313 at h
  refine RuP.step (pc' := 314) (ls' := [some (.inr (.inr (some 84))), some (.inl l1), d2, d3]) (st' := [.inr (.inr (some 84))]) (h1 := hp L s c e) rfl ?_
  refine RuP.step (pc' := 315) (ls' := [some (.inr (.inr (some 84))), some (.inl l1), d2, d3]) (st' := [.inr (.inr (some 84)), .inr (.inr (some 84))]) (h1 := hp L s c e) rfl ?_
  refine RuP.step (pc' := 318) (ls' := [some (.inr (.inr (some 84))), some (.inl l1), d2, d3]) (st' := [.inr (.inr (some 119)), .inr (.inr (some 84))]) (h1 := hp L s c e) rfl ?_
  refine RuP.step (pc' := 319) (ls' := [some (.inr (.inr (some 84))), some (.inl l1), d2, d3]) (st' := [.inl l1, .inr (.inr (some 119)), .inr (.inr (some 84))]) (h1 := hp L s c e) rfl ?_
  obtain ⟨b0, h⟩ := gd_some h
  refine RuP.ald (f := fun t => t == 0) (j := l1) (a := 119) rfl rfl b0.1 b0.2 ?_
  refine RuP.step (pc' := 321) (ls' := [some (.inr (.inr (some 84))), some (.inl l1), d2, d3]) (st' := [.inr (.inl 1), .inl (s 119 l1.toNat), .inr (.inr (some 84))]) (h1 := hp L s c e) rfl ?_
  refine RuP.step (pc' := 324) (ls' := [some (.inr (.inr (some 84))), some (.inl l1), d2, d3]) (st' := [.inr (.inl 32), .inr (.inl 1), .inl (s 119 l1.toNat), .inr (.inr (some 84))]) (h1 := hp L s c e) rfl ?_
  obtain ⟨q3, h1, h⟩ := bd_some h
  refine RuP.cI rfl ((ev_234 h1).up (by decide)) ?_
  refine RuP.step (pc' := 328) (ls' := [some (.inr (.inr (some 84))), some (.inl l1), d2, d3]) (st' := []) (h1 := hp L q3.2 c e) rfl ?_
  exact bl_210_328 hk285 _ _ _ _ _ h
noncomputable def j_210_285 : Nat → Int → Sg → Option Sg
  | 0, _, _ => none
  | F + 1, l1, s =>
    (if s 84 47 ≤ l1 then
      j_210_473 s
    else
      (gd (0 ≤ l1 ∧ l1 < 8200) (
      (if s 116 l1.toNat = 4 then
        j_210_313 (j_210_285 F) l1 s
      else
        (gd (0 ≤ l1 ∧ l1 < 8200) (
        (if ¬ (s 116 l1.toNat) = 5 then
          j_210_328 (j_210_285 F) l1 s
        else
          j_210_313 (j_210_285 F) l1 s)))))))
set_option maxRecDepth 20000 in
theorem bl_210_285 {L c : Nat} {e : Nat → Nat} : ∀ (F : Nat) (d2 d3 : Option ax_V) (l1 : Int) (s : Sg) (q : Sg), j_210_285 F l1 s = some q → RuP 4 tb_m210 285 [some (.inr (.inr (some 84))), some (.inl l1), d2, d3] [] (hp L s c e) (oV L c e q) := by
  intro F
  induction F with
  | zero =>
    intro d2 d3 l1 s q h
    rw [j_210_285] at h
    cases h
  | succ F ih =>
    intro d2 d3 l1 s q h
    rw [j_210_285] at h
    refine RuP.step (pc' := 286) (ls' := [some (.inr (.inr (some 84))), some (.inl l1), d2, d3]) (st' := [.inl l1]) (h1 := hp L s c e) rfl ?_
    refine RuP.step (pc' := 287) (ls' := [some (.inr (.inr (some 84))), some (.inl l1), d2, d3]) (st' := [.inr (.inr (some 84)), .inl l1]) (h1 := hp L s c e) rfl ?_
    refine RuP.step (pc' := 290) (ls' := [some (.inr (.inr (some 84))), some (.inl l1), d2, d3]) (st' := [.inl (s 84 47), .inl l1]) (h1 := hp L s c e) rfl ?_
    by_cases h0 : s 84 47 ≤ l1
    · rw [if_pos h0] at h
      refine RuP.jy rfl h0 ?_
      exact bl_210_473 _ _ _ _ _ h
    · rw [if_neg h0] at h
      refine RuP.jn rfl h0 ?_
      refine RuP.step (pc' := 294) (ls' := [some (.inr (.inr (some 84))), some (.inl l1), d2, d3]) (st' := [.inr (.inr (some 84))]) (h1 := hp L s c e) rfl ?_
      refine RuP.step (pc' := 297) (ls' := [some (.inr (.inr (some 84))), some (.inl l1), d2, d3]) (st' := [.inr (.inr (some 116))]) (h1 := hp L s c e) rfl ?_
      refine RuP.step (pc' := 298) (ls' := [some (.inr (.inr (some 84))), some (.inl l1), d2, d3]) (st' := [.inl l1, .inr (.inr (some 116))]) (h1 := hp L s c e) rfl ?_
      obtain ⟨b1, h⟩ := gd_some h
      refine RuP.ald (f := fun t => t == 0) (j := l1) (a := 116) rfl rfl b1.1 b1.2 ?_
      refine RuP.step (pc' := 300) (ls' := [some (.inr (.inr (some 84))), some (.inl l1), d2, d3]) (st' := [.inl 4, .inl (s 116 l1.toNat)]) (h1 := hp L s c e) rfl ?_
      by_cases h2 : s 116 l1.toNat = 4
      · rw [if_pos h2] at h
        refine RuP.jy rfl h2 ?_
        exact bl_210_313 ih _ _ _ _ _ h
      · rw [if_neg h2] at h
        refine RuP.jn rfl h2 ?_
        refine RuP.step (pc' := 304) (ls' := [some (.inr (.inr (some 84))), some (.inl l1), d2, d3]) (st' := [.inr (.inr (some 84))]) (h1 := hp L s c e) rfl ?_
        refine RuP.step (pc' := 307) (ls' := [some (.inr (.inr (some 84))), some (.inl l1), d2, d3]) (st' := [.inr (.inr (some 116))]) (h1 := hp L s c e) rfl ?_
        refine RuP.step (pc' := 308) (ls' := [some (.inr (.inr (some 84))), some (.inl l1), d2, d3]) (st' := [.inl l1, .inr (.inr (some 116))]) (h1 := hp L s c e) rfl ?_
        obtain ⟨b3, h⟩ := gd_some h
        refine RuP.ald (f := fun t => t == 0) (j := l1) (a := 116) rfl rfl b3.1 b3.2 ?_
        refine RuP.step (pc' := 310) (ls' := [some (.inr (.inr (some 84))), some (.inl l1), d2, d3]) (st' := [.inl 5, .inl (s 116 l1.toNat)]) (h1 := hp L s c e) rfl ?_
        by_cases h4 : ¬ (s 116 l1.toNat) = 5
        · rw [if_pos h4] at h
          refine RuP.jy rfl h4 ?_
          exact bl_210_328 ih _ _ _ _ _ h
        · rw [if_neg h4] at h
          refine RuP.jn rfl h4 ?_
          exact bl_210_313 ih _ _ _ _ _ h
noncomputable def j_210_283 (s : Sg) : Option Sg :=
  j_210_285 FU 0 s
set_option maxRecDepth 20000 in
theorem bl_210_283 {L c : Nat} {e : Nat → Nat} : ∀ (d2 d3 : Option ax_V) (z1 : Int) (s : Sg) (q : Sg), j_210_283 s = some q → RuP 4 tb_m210 283 [some (.inr (.inr (some 84))), some (.inl z1), d2, d3] [] (hp L s c e) (oV L c e q) := by
  intro d2 d3 z1 s q h
  unfold j_210_283 at h
  refine RuP.step (pc' := 284) (ls' := [some (.inr (.inr (some 84))), some (.inl z1), d2, d3]) (st' := [.inl 0]) (h1 := hp L s c e) rfl ?_
  refine RuP.step (pc' := 285) (ls' := [some (.inr (.inr (some 84))), some (.inl 0), d2, d3]) (st' := []) (h1 := hp L s c e) rfl ?_
  exact bl_210_285 FU _ _ _ _ _ h
noncomputable def j_210_277 (k219 : (Int → Sg → Option Sg)) (l1 : Int) (s : Sg) : Option Sg :=
  k219 (ax_w32 (l1 + 1)) s
set_option maxRecDepth 20000 in
theorem bl_210_277 {L c : Nat} {e : Nat → Nat} {k219 : (Int → Sg → Option Sg)} (hk219 : ∀ (d2 d3 : Option ax_V) (l1 : Int) (s : Sg) (q : Sg), k219 l1 s = some q → RuP 4 tb_m210 219 [some (.inr (.inr (some 84))), some (.inl l1), d2, d3] [] (hp L s c e) (oV L c e q)) : ∀ (d2 d3 : Option ax_V) (l1 : Int) (s : Sg) (q : Sg), j_210_277 k219 l1 s = some q → RuP 4 tb_m210 277 [some (.inr (.inr (some 84))), some (.inl l1), d2, d3] [] (hp L s c e) (oV L c e q) := by
  intro d2 d3 l1 s q h
  unfold j_210_277 at h
  refine RuP.step (pc' := 280) (ls' := [some (.inr (.inr (some 84))), some (.inl (ax_w32 (l1 + 1))), d2, d3]) (st' := []) (h1 := hp L s c e) rfl ?_
  refine RuP.step (pc' := 219) (ls' := [some (.inr (.inr (some 84))), some (.inl (ax_w32 (l1 + 1))), d2, d3]) (st' := []) (h1 := hp L s c e) rfl ?_
  exact hk219 _ _ _ _ _ h
noncomputable def j_210_252 (k219 : (Int → Sg → Option Sg)) (l1 : Int) (s : Sg) : Option Sg :=
  (gd (0 ≤ l1 ∧ l1 < 8200) (
  (if ¬ (s 106 l1.toNat) = 3 then
    j_210_277 k219 l1 s
  else
    (gd (0 ≤ l1 ∧ l1 < 8200) (
    ((f_234 (s 108 l1.toNat) 0 255 s).bind fun q12 =>
    j_210_277 k219 l1 q12.2))))))
set_option maxRecDepth 20000 in
theorem bl_210_252 {L c : Nat} {e : Nat → Nat} {k219 : (Int → Sg → Option Sg)} (hk219 : ∀ (d2 d3 : Option ax_V) (l1 : Int) (s : Sg) (q : Sg), k219 l1 s = some q → RuP 4 tb_m210 219 [some (.inr (.inr (some 84))), some (.inl l1), d2, d3] [] (hp L s c e) (oV L c e q)) : ∀ (d2 d3 : Option ax_V) (l1 : Int) (s : Sg) (q : Sg), j_210_252 k219 l1 s = some q → RuP 4 tb_m210 252 [some (.inr (.inr (some 84))), some (.inl l1), d2, d3] [] (hp L s c e) (oV L c e q) := by
  intro d2 d3 l1 s q h
  unfold j_210_252 at h
  refine RuP.step (pc' := 253) (ls' := [some (.inr (.inr (some 84))), some (.inl l1), d2, d3]) (st' := [.inr (.inr (some 84))]) (h1 := hp L s c e) rfl ?_
  refine RuP.step (pc' := 256) (ls' := [some (.inr (.inr (some 84))), some (.inl l1), d2, d3]) (st' := [.inr (.inr (some 106))]) (h1 := hp L s c e) rfl ?_
  refine RuP.step (pc' := 257) (ls' := [some (.inr (.inr (some 84))), some (.inl l1), d2, d3]) (st' := [.inl l1, .inr (.inr (some 106))]) (h1 := hp L s c e) rfl ?_
  obtain ⟨b0, h⟩ := gd_some h
  refine RuP.ald (f := fun t => t == 0) (j := l1) (a := 106) rfl rfl b0.1 b0.2 ?_
  refine RuP.step (pc' := 259) (ls' := [some (.inr (.inr (some 84))), some (.inl l1), d2, d3]) (st' := [.inl 3, .inl (s 106 l1.toNat)]) (h1 := hp L s c e) rfl ?_
  by_cases h1 : ¬ (s 106 l1.toNat) = 3
  · rw [if_pos h1] at h
    refine RuP.jy rfl h1 ?_
    exact bl_210_277 hk219 _ _ _ _ _ h
  · rw [if_neg h1] at h
    refine RuP.jn rfl h1 ?_
    refine RuP.step (pc' := 263) (ls' := [some (.inr (.inr (some 84))), some (.inl l1), d2, d3]) (st' := [.inr (.inr (some 84))]) (h1 := hp L s c e) rfl ?_
    refine RuP.step (pc' := 264) (ls' := [some (.inr (.inr (some 84))), some (.inl l1), d2, d3]) (st' := [.inr (.inr (some 84)), .inr (.inr (some 84))]) (h1 := hp L s c e) rfl ?_
    refine RuP.step (pc' := 267) (ls' := [some (.inr (.inr (some 84))), some (.inl l1), d2, d3]) (st' := [.inr (.inr (some 108)), .inr (.inr (some 84))]) (h1 := hp L s c e) rfl ?_
    refine RuP.step (pc' := 268) (ls' := [some (.inr (.inr (some 84))), some (.inl l1), d2, d3]) (st' := [.inl l1, .inr (.inr (some 108)), .inr (.inr (some 84))]) (h1 := hp L s c e) rfl ?_
    obtain ⟨b2, h⟩ := gd_some h
    refine RuP.ald (f := fun t => t == 0) (j := l1) (a := 108) rfl rfl b2.1 b2.2 ?_
    refine RuP.step (pc' := 270) (ls' := [some (.inr (.inr (some 84))), some (.inl l1), d2, d3]) (st' := [.inr (.inl 0), .inl (s 108 l1.toNat), .inr (.inr (some 84))]) (h1 := hp L s c e) rfl ?_
    refine RuP.step (pc' := 273) (ls' := [some (.inr (.inr (some 84))), some (.inl l1), d2, d3]) (st' := [.inr (.inl 255), .inr (.inl 0), .inl (s 108 l1.toNat), .inr (.inr (some 84))]) (h1 := hp L s c e) rfl ?_
    obtain ⟨q12, h1, h⟩ := bd_some h
    refine RuP.cI rfl ((ev_234 h1).up (by decide)) ?_
    refine RuP.step (pc' := 277) (ls' := [some (.inr (.inr (some 84))), some (.inl l1), d2, d3]) (st' := []) (h1 := hp L q12.2 c e) rfl ?_
    exact bl_210_277 hk219 _ _ _ _ _ h
noncomputable def j_210_219 : Nat → Int → Sg → Option Sg
  | 0, _, _ => none
  | F + 1, l1, s =>
    (if s 84 34 ≤ l1 then
      j_210_283 s
    else
      (gd (0 ≤ l1 ∧ l1 < 8200) (
      (if ¬ (s 106 l1.toNat) = 2 then
        j_210_252 (j_210_219 F) l1 s
      else
        (gd (0 ≤ l1 ∧ l1 < 8200) (
        ((f_234 (s 108 l1.toNat) 1 255 s).bind fun q13 =>
        j_210_252 (j_210_219 F) l1 q13.2)))))))
set_option maxRecDepth 20000 in
theorem bl_210_219 {L c : Nat} {e : Nat → Nat} : ∀ (F : Nat) (d2 d3 : Option ax_V) (l1 : Int) (s : Sg) (q : Sg), j_210_219 F l1 s = some q → RuP 4 tb_m210 219 [some (.inr (.inr (some 84))), some (.inl l1), d2, d3] [] (hp L s c e) (oV L c e q) := by
  intro F
  induction F with
  | zero =>
    intro d2 d3 l1 s q h
    rw [j_210_219] at h
    cases h
  | succ F ih =>
    intro d2 d3 l1 s q h
    rw [j_210_219] at h
    refine RuP.step (pc' := 220) (ls' := [some (.inr (.inr (some 84))), some (.inl l1), d2, d3]) (st' := [.inl l1]) (h1 := hp L s c e) rfl ?_
    refine RuP.step (pc' := 221) (ls' := [some (.inr (.inr (some 84))), some (.inl l1), d2, d3]) (st' := [.inr (.inr (some 84)), .inl l1]) (h1 := hp L s c e) rfl ?_
    refine RuP.step (pc' := 224) (ls' := [some (.inr (.inr (some 84))), some (.inl l1), d2, d3]) (st' := [.inl (s 84 34), .inl l1]) (h1 := hp L s c e) rfl ?_
    by_cases h0 : s 84 34 ≤ l1
    · rw [if_pos h0] at h
      refine RuP.jy rfl h0 ?_
      exact bl_210_283 _ _ _ _ _ h
    · rw [if_neg h0] at h
      refine RuP.jn rfl h0 ?_
      refine RuP.step (pc' := 228) (ls' := [some (.inr (.inr (some 84))), some (.inl l1), d2, d3]) (st' := [.inr (.inr (some 84))]) (h1 := hp L s c e) rfl ?_
      refine RuP.step (pc' := 231) (ls' := [some (.inr (.inr (some 84))), some (.inl l1), d2, d3]) (st' := [.inr (.inr (some 106))]) (h1 := hp L s c e) rfl ?_
      refine RuP.step (pc' := 232) (ls' := [some (.inr (.inr (some 84))), some (.inl l1), d2, d3]) (st' := [.inl l1, .inr (.inr (some 106))]) (h1 := hp L s c e) rfl ?_
      obtain ⟨b1, h⟩ := gd_some h
      refine RuP.ald (f := fun t => t == 0) (j := l1) (a := 106) rfl rfl b1.1 b1.2 ?_
      refine RuP.step (pc' := 234) (ls' := [some (.inr (.inr (some 84))), some (.inl l1), d2, d3]) (st' := [.inl 2, .inl (s 106 l1.toNat)]) (h1 := hp L s c e) rfl ?_
      by_cases h2 : ¬ (s 106 l1.toNat) = 2
      · rw [if_pos h2] at h
        refine RuP.jy rfl h2 ?_
        exact bl_210_252 ih _ _ _ _ _ h
      · rw [if_neg h2] at h
        refine RuP.jn rfl h2 ?_
        refine RuP.step (pc' := 238) (ls' := [some (.inr (.inr (some 84))), some (.inl l1), d2, d3]) (st' := [.inr (.inr (some 84))]) (h1 := hp L s c e) rfl ?_
        refine RuP.step (pc' := 239) (ls' := [some (.inr (.inr (some 84))), some (.inl l1), d2, d3]) (st' := [.inr (.inr (some 84)), .inr (.inr (some 84))]) (h1 := hp L s c e) rfl ?_
        refine RuP.step (pc' := 242) (ls' := [some (.inr (.inr (some 84))), some (.inl l1), d2, d3]) (st' := [.inr (.inr (some 108)), .inr (.inr (some 84))]) (h1 := hp L s c e) rfl ?_
        refine RuP.step (pc' := 243) (ls' := [some (.inr (.inr (some 84))), some (.inl l1), d2, d3]) (st' := [.inl l1, .inr (.inr (some 108)), .inr (.inr (some 84))]) (h1 := hp L s c e) rfl ?_
        obtain ⟨b3, h⟩ := gd_some h
        refine RuP.ald (f := fun t => t == 0) (j := l1) (a := 108) rfl rfl b3.1 b3.2 ?_
        refine RuP.step (pc' := 245) (ls' := [some (.inr (.inr (some 84))), some (.inl l1), d2, d3]) (st' := [.inr (.inl 1), .inl (s 108 l1.toNat), .inr (.inr (some 84))]) (h1 := hp L s c e) rfl ?_
        refine RuP.step (pc' := 248) (ls' := [some (.inr (.inr (some 84))), some (.inl l1), d2, d3]) (st' := [.inr (.inl 255), .inr (.inl 1), .inl (s 108 l1.toNat), .inr (.inr (some 84))]) (h1 := hp L s c e) rfl ?_
        obtain ⟨q13, h1, h⟩ := bd_some h
        refine RuP.cI rfl ((ev_234 h1).up (by decide)) ?_
        refine RuP.step (pc' := 252) (ls' := [some (.inr (.inr (some 84))), some (.inl l1), d2, d3]) (st' := []) (h1 := hp L q13.2 c e) rfl ?_
        exact bl_210_252 ih _ _ _ _ _ h
noncomputable def j_210_217 (s : Sg) : Option Sg :=
  j_210_219 FU 0 s
set_option maxRecDepth 20000 in
theorem bl_210_217 {L c : Nat} {e : Nat → Nat} : ∀ (d2 d3 : Option ax_V) (z1 : Int) (s : Sg) (q : Sg), j_210_217 s = some q → RuP 4 tb_m210 217 [some (.inr (.inr (some 84))), some (.inl z1), d2, d3] [] (hp L s c e) (oV L c e q) := by
  intro d2 d3 z1 s q h
  unfold j_210_217 at h
  refine RuP.step (pc' := 218) (ls' := [some (.inr (.inr (some 84))), some (.inl z1), d2, d3]) (st' := [.inl 0]) (h1 := hp L s c e) rfl ?_
  refine RuP.step (pc' := 219) (ls' := [some (.inr (.inr (some 84))), some (.inl 0), d2, d3]) (st' := []) (h1 := hp L s c e) rfl ?_
  exact bl_210_219 FU _ _ _ _ _ h
noncomputable def j_210_211 (k148 : (Int → Sg → Option Sg)) (l1 : Int) (s : Sg) : Option Sg :=
  k148 (ax_w32 (l1 + 1)) s
set_option maxRecDepth 20000 in
theorem bl_210_211 {L c : Nat} {e : Nat → Nat} {k148 : (Int → Sg → Option Sg)} (hk148 : ∀ (d2 d3 : Option ax_V) (l1 : Int) (s : Sg) (q : Sg), k148 l1 s = some q → RuP 4 tb_m210 148 [some (.inr (.inr (some 84))), some (.inl l1), d2, d3] [] (hp L s c e) (oV L c e q)) : ∀ (d2 d3 : Option ax_V) (l1 : Int) (s : Sg) (q : Sg), j_210_211 k148 l1 s = some q → RuP 4 tb_m210 211 [some (.inr (.inr (some 84))), some (.inl l1), d2, d3] [] (hp L s c e) (oV L c e q) := by
  intro d2 d3 l1 s q h
  unfold j_210_211 at h
  refine RuP.step (pc' := 214) (ls' := [some (.inr (.inr (some 84))), some (.inl (ax_w32 (l1 + 1))), d2, d3]) (st' := []) (h1 := hp L s c e) rfl ?_
  refine RuP.step (pc' := 148) (ls' := [some (.inr (.inr (some 84))), some (.inl (ax_w32 (l1 + 1))), d2, d3]) (st' := []) (h1 := hp L s c e) rfl ?_
  exact hk148 _ _ _ _ _ h
noncomputable def j_210_148 : Nat → Int → Sg → Option Sg
  | 0, _, _ => none
  | F + 1, l1, s =>
    (if s 84 31 ≤ l1 then
      j_210_217 s
    else
      (gd (0 ≤ l1 ∧ l1 < 8200) (
      (if s 104 l1.toNat < 0 then
        (gd (0 ≤ l1 ∧ l1 < 8200) (
        ((f_236 (s 105 l1.toNat) s).bind fun q14 =>
        (if ¬ q14 = 0 then
          j_210_211 (j_210_148 F) l1 s
        else
          (gd (0 ≤ l1 ∧ l1 < 8200) (
          (gd (0 ≤ s 105 l1.toNat ∧ s 105 l1.toNat < 8200) (
          ((some (f_235 (s 89 ((s 105 l1.toNat).toNat)) s)).bind fun q15 =>
          j_210_211 (j_210_148 F) l1 q15)))))))))
      else
        (gd (0 ≤ l1 ∧ l1 < 8200) (
        ((f_234 (s 105 l1.toNat) 1 32 s).bind fun q16 =>
        j_210_211 (j_210_148 F) l1 q16.2)))))))
set_option maxRecDepth 20000 in
theorem bl_210_148 {L c : Nat} {e : Nat → Nat} : ∀ (F : Nat) (d2 d3 : Option ax_V) (l1 : Int) (s : Sg) (q : Sg), j_210_148 F l1 s = some q → RuP 4 tb_m210 148 [some (.inr (.inr (some 84))), some (.inl l1), d2, d3] [] (hp L s c e) (oV L c e q) := by
  intro F
  induction F with
  | zero =>
    intro d2 d3 l1 s q h
    rw [j_210_148] at h
    cases h
  | succ F ih =>
    intro d2 d3 l1 s q h
    rw [j_210_148] at h
    refine RuP.step (pc' := 149) (ls' := [some (.inr (.inr (some 84))), some (.inl l1), d2, d3]) (st' := [.inl l1]) (h1 := hp L s c e) rfl ?_
    refine RuP.step (pc' := 150) (ls' := [some (.inr (.inr (some 84))), some (.inl l1), d2, d3]) (st' := [.inr (.inr (some 84)), .inl l1]) (h1 := hp L s c e) rfl ?_
    refine RuP.step (pc' := 153) (ls' := [some (.inr (.inr (some 84))), some (.inl l1), d2, d3]) (st' := [.inl (s 84 31), .inl l1]) (h1 := hp L s c e) rfl ?_
    by_cases h0 : s 84 31 ≤ l1
    · rw [if_pos h0] at h
      refine RuP.jy rfl h0 ?_
      exact bl_210_217 _ _ _ _ _ h
    · rw [if_neg h0] at h
      refine RuP.jn rfl h0 ?_
      refine RuP.step (pc' := 157) (ls' := [some (.inr (.inr (some 84))), some (.inl l1), d2, d3]) (st' := [.inr (.inr (some 84))]) (h1 := hp L s c e) rfl ?_
      refine RuP.step (pc' := 160) (ls' := [some (.inr (.inr (some 84))), some (.inl l1), d2, d3]) (st' := [.inr (.inr (some 104))]) (h1 := hp L s c e) rfl ?_
      refine RuP.step (pc' := 161) (ls' := [some (.inr (.inr (some 84))), some (.inl l1), d2, d3]) (st' := [.inl l1, .inr (.inr (some 104))]) (h1 := hp L s c e) rfl ?_
      obtain ⟨b1, h⟩ := gd_some h
      refine RuP.ald (f := fun t => t == 0) (j := l1) (a := 104) rfl rfl b1.1 b1.2 ?_
      by_cases h2 : s 104 l1.toNat < 0
      · rw [if_pos h2] at h
        refine RuP.jy rfl h2 ?_
        refine RuP.step (pc' := 184) (ls' := [some (.inr (.inr (some 84))), some (.inl l1), d2, d3]) (st' := [.inr (.inr (some 84))]) (h1 := hp L s c e) rfl ?_
        refine RuP.step (pc' := 185) (ls' := [some (.inr (.inr (some 84))), some (.inl l1), d2, d3]) (st' := [.inr (.inr (some 84)), .inr (.inr (some 84))]) (h1 := hp L s c e) rfl ?_
        refine RuP.step (pc' := 188) (ls' := [some (.inr (.inr (some 84))), some (.inl l1), d2, d3]) (st' := [.inr (.inr (some 105)), .inr (.inr (some 84))]) (h1 := hp L s c e) rfl ?_
        refine RuP.step (pc' := 189) (ls' := [some (.inr (.inr (some 84))), some (.inl l1), d2, d3]) (st' := [.inl l1, .inr (.inr (some 105)), .inr (.inr (some 84))]) (h1 := hp L s c e) rfl ?_
        obtain ⟨b3, h⟩ := gd_some h
        refine RuP.ald (f := fun t => t == 0) (j := l1) (a := 105) rfl rfl b3.1 b3.2 ?_
        obtain ⟨q14, h1, h⟩ := bd_some h
        refine RuP.cI rfl ((ev_236 h1).up (by decide)) ?_
        by_cases h4 : ¬ q14 = 0
        · rw [if_pos h4] at h
          refine RuP.jy rfl h4 ?_
          exact bl_210_211 ih _ _ _ _ _ h
        · rw [if_neg h4] at h
          refine RuP.jn rfl h4 ?_
          refine RuP.step (pc' := 197) (ls' := [some (.inr (.inr (some 84))), some (.inl l1), d2, d3]) (st' := [.inr (.inr (some 84))]) (h1 := hp L s c e) rfl ?_
          refine RuP.step (pc' := 198) (ls' := [some (.inr (.inr (some 84))), some (.inl l1), d2, d3]) (st' := [.inr (.inr (some 84)), .inr (.inr (some 84))]) (h1 := hp L s c e) rfl ?_
          refine RuP.step (pc' := 201) (ls' := [some (.inr (.inr (some 84))), some (.inl l1), d2, d3]) (st' := [.inr (.inr (some 89)), .inr (.inr (some 84))]) (h1 := hp L s c e) rfl ?_
          refine RuP.step (pc' := 202) (ls' := [some (.inr (.inr (some 84))), some (.inl l1), d2, d3]) (st' := [.inr (.inr (some 84)), .inr (.inr (some 89)), .inr (.inr (some 84))]) (h1 := hp L s c e) rfl ?_
          refine RuP.step (pc' := 205) (ls' := [some (.inr (.inr (some 84))), some (.inl l1), d2, d3]) (st' := [.inr (.inr (some 105)), .inr (.inr (some 89)), .inr (.inr (some 84))]) (h1 := hp L s c e) rfl ?_
          refine RuP.step (pc' := 206) (ls' := [some (.inr (.inr (some 84))), some (.inl l1), d2, d3]) (st' := [.inl l1, .inr (.inr (some 105)), .inr (.inr (some 89)), .inr (.inr (some 84))]) (h1 := hp L s c e) rfl ?_
          obtain ⟨b5, h⟩ := gd_some h
          refine RuP.ald (f := fun t => t == 0) (j := l1) (a := 105) rfl rfl b5.1 b5.2 ?_
          obtain ⟨b6, h⟩ := gd_some h
          refine RuP.ald (f := fun t => t == 0) (j := s 105 l1.toNat) (a := 89) rfl rfl b6.1 b6.2 ?_
          obtain ⟨q15, h1, h⟩ := bd_some h
          refine RuP.cVe h1 rfl (EvP.v ((ev_235 (s 89 ((s 105 l1.toNat).toNat))).up (by decide))) ?_
          exact bl_210_211 ih _ _ _ _ _ h
      · rw [if_neg h2] at h
        refine RuP.jn rfl h2 ?_
        refine RuP.step (pc' := 166) (ls' := [some (.inr (.inr (some 84))), some (.inl l1), d2, d3]) (st' := [.inr (.inr (some 84))]) (h1 := hp L s c e) rfl ?_
        refine RuP.step (pc' := 167) (ls' := [some (.inr (.inr (some 84))), some (.inl l1), d2, d3]) (st' := [.inr (.inr (some 84)), .inr (.inr (some 84))]) (h1 := hp L s c e) rfl ?_
        refine RuP.step (pc' := 170) (ls' := [some (.inr (.inr (some 84))), some (.inl l1), d2, d3]) (st' := [.inr (.inr (some 105)), .inr (.inr (some 84))]) (h1 := hp L s c e) rfl ?_
        refine RuP.step (pc' := 171) (ls' := [some (.inr (.inr (some 84))), some (.inl l1), d2, d3]) (st' := [.inl l1, .inr (.inr (some 105)), .inr (.inr (some 84))]) (h1 := hp L s c e) rfl ?_
        obtain ⟨b7, h⟩ := gd_some h
        refine RuP.ald (f := fun t => t == 0) (j := l1) (a := 105) rfl rfl b7.1 b7.2 ?_
        refine RuP.step (pc' := 173) (ls' := [some (.inr (.inr (some 84))), some (.inl l1), d2, d3]) (st' := [.inr (.inl 1), .inl (s 105 l1.toNat), .inr (.inr (some 84))]) (h1 := hp L s c e) rfl ?_
        refine RuP.step (pc' := 176) (ls' := [some (.inr (.inr (some 84))), some (.inl l1), d2, d3]) (st' := [.inr (.inl 32), .inr (.inl 1), .inl (s 105 l1.toNat), .inr (.inr (some 84))]) (h1 := hp L s c e) rfl ?_
        obtain ⟨q16, h1, h⟩ := bd_some h
        refine RuP.cI rfl ((ev_234 h1).up (by decide)) ?_
        refine RuP.step (pc' := 180) (ls' := [some (.inr (.inr (some 84))), some (.inl l1), d2, d3]) (st' := []) (h1 := hp L q16.2 c e) rfl ?_
        refine RuP.step (pc' := 211) (ls' := [some (.inr (.inr (some 84))), some (.inl l1), d2, d3]) (st' := []) (h1 := hp L q16.2 c e) rfl ?_
        exact bl_210_211 ih _ _ _ _ _ h
noncomputable def j_210_146 (s : Sg) : Option Sg :=
  j_210_148 FU 0 s
set_option maxRecDepth 20000 in
theorem bl_210_146 {L c : Nat} {e : Nat → Nat} : ∀ (d2 d3 : Option ax_V) (z1 : Int) (s : Sg) (q : Sg), j_210_146 s = some q → RuP 4 tb_m210 146 [some (.inr (.inr (some 84))), some (.inl z1), d2, d3] [] (hp L s c e) (oV L c e q) := by
  intro d2 d3 z1 s q h
  unfold j_210_146 at h
  refine RuP.step (pc' := 147) (ls' := [some (.inr (.inr (some 84))), some (.inl z1), d2, d3]) (st' := [.inl 0]) (h1 := hp L s c e) rfl ?_
  refine RuP.step (pc' := 148) (ls' := [some (.inr (.inr (some 84))), some (.inl 0), d2, d3]) (st' := []) (h1 := hp L s c e) rfl ?_
  exact bl_210_148 FU _ _ _ _ _ h
noncomputable def j_210_140 (k15 : (Int → Sg → Option Sg)) (l1 : Int) (s : Sg) : Option Sg :=
  k15 (ax_w32 (l1 + 1)) s
set_option maxRecDepth 20000 in
theorem bl_210_140 {L c : Nat} {e : Nat → Nat} {k15 : (Int → Sg → Option Sg)} (hk15 : ∀ (d2 d3 : Option ax_V) (l1 : Int) (s : Sg) (q : Sg), k15 l1 s = some q → RuP 4 tb_m210 15 [some (.inr (.inr (some 84))), some (.inl l1), d2, d3] [] (hp L s c e) (oV L c e q)) : ∀ (d2 d3 : Option ax_V) (l1 : Int) (s : Sg) (q : Sg), j_210_140 k15 l1 s = some q → RuP 4 tb_m210 140 [some (.inr (.inr (some 84))), some (.inl l1), d2, d3] [] (hp L s c e) (oV L c e q) := by
  intro d2 d3 l1 s q h
  unfold j_210_140 at h
  refine RuP.step (pc' := 143) (ls' := [some (.inr (.inr (some 84))), some (.inl (ax_w32 (l1 + 1))), d2, d3]) (st' := []) (h1 := hp L s c e) rfl ?_
  refine RuP.step (pc' := 15) (ls' := [some (.inr (.inr (some 84))), some (.inl (ax_w32 (l1 + 1))), d2, d3]) (st' := []) (h1 := hp L s c e) rfl ?_
  exact hk15 _ _ _ _ _ h
noncomputable def j_210_125 (k15 : (Int → Sg → Option Sg)) (l1 : Int) (s : Sg) : Option Sg :=
  (gd (0 ≤ l1 ∧ l1 < 4100) (
  (gd (0 ≤ s 96 l1.toNat ∧ s 96 l1.toNat < 8200) (
  ((some (f_235 (s 89 ((s 96 l1.toNat).toNat)) s)).bind fun q18 =>
  j_210_140 k15 l1 q18)))))
set_option maxRecDepth 20000 in
theorem bl_210_125 {L c : Nat} {e : Nat → Nat} {k15 : (Int → Sg → Option Sg)} (hk15 : ∀ (d2 d3 : Option ax_V) (l1 : Int) (s : Sg) (q : Sg), k15 l1 s = some q → RuP 4 tb_m210 15 [some (.inr (.inr (some 84))), some (.inl l1), d2, d3] [] (hp L s c e) (oV L c e q)) : ∀ (z2 : Int) (l1 : Int) (s : Sg) (q : Sg), j_210_125 k15 l1 s = some q → RuP 4 tb_m210 125 [some (.inr (.inr (some 84))), some (.inl l1), some (.inr (.inl z2)), none] [] (hp L s c e) (oV L c e q) := by
  intro z2 l1 s q h
  unfold j_210_125 at h
  refine RuP.step (pc' := 126) (ls' := [some (.inr (.inr (some 84))), some (.inl l1), some (.inr (.inl z2)), none]) (st' := [.inr (.inr (some 84))]) (h1 := hp L s c e) rfl ?_
  refine RuP.step (pc' := 127) (ls' := [some (.inr (.inr (some 84))), some (.inl l1), some (.inr (.inl z2)), none]) (st' := [.inr (.inr (some 84)), .inr (.inr (some 84))]) (h1 := hp L s c e) rfl ?_
  refine RuP.step (pc' := 130) (ls' := [some (.inr (.inr (some 84))), some (.inl l1), some (.inr (.inl z2)), none]) (st' := [.inr (.inr (some 89)), .inr (.inr (some 84))]) (h1 := hp L s c e) rfl ?_
  refine RuP.step (pc' := 131) (ls' := [some (.inr (.inr (some 84))), some (.inl l1), some (.inr (.inl z2)), none]) (st' := [.inr (.inr (some 84)), .inr (.inr (some 89)), .inr (.inr (some 84))]) (h1 := hp L s c e) rfl ?_
  refine RuP.step (pc' := 134) (ls' := [some (.inr (.inr (some 84))), some (.inl l1), some (.inr (.inl z2)), none]) (st' := [.inr (.inr (some 96)), .inr (.inr (some 89)), .inr (.inr (some 84))]) (h1 := hp L s c e) rfl ?_
  refine RuP.step (pc' := 135) (ls' := [some (.inr (.inr (some 84))), some (.inl l1), some (.inr (.inl z2)), none]) (st' := [.inl l1, .inr (.inr (some 96)), .inr (.inr (some 89)), .inr (.inr (some 84))]) (h1 := hp L s c e) rfl ?_
  obtain ⟨b0, h⟩ := gd_some h
  refine RuP.ald (f := fun t => t == 0) (j := l1) (a := 96) rfl rfl b0.1 b0.2 ?_
  obtain ⟨b1, h⟩ := gd_some h
  refine RuP.ald (f := fun t => t == 0) (j := s 96 l1.toNat) (a := 89) rfl rfl b1.1 b1.2 ?_
  obtain ⟨q18, h1, h⟩ := bd_some h
  refine RuP.cVe h1 rfl (EvP.v ((ev_235 (s 89 ((s 96 l1.toNat).toNat))).up (by decide))) ?_
  exact bl_210_140 hk15 _ _ _ _ _ h
noncomputable def j_210_73 (k15 : (Int → Sg → Option Sg)) (l1 : Int) (s : Sg) : Option Sg :=
  (gd (0 ≤ l1 ∧ l1 < 4100) (
  (if ¬ (s 94 l1.toNat) = 0 then
    j_210_140 k15 l1 s
  else
    (gd (0 ≤ l1 ∧ l1 < 4100) (
    (if s 96 l1.toNat < 0 then
      j_210_140 k15 l1 s
    else
      (gd (0 ≤ l1 ∧ l1 < 4100) (
      ((f_218 (s 96 l1.toNat) s).bind fun q17 =>
      (if f_207 q17 2 64 s = 0 then
        j_210_125 k15 l1 s
      else
        (if ax_cmp (ax_land q17 (ax_w64 (q17 - 1))) 0 = 0 then
          j_210_140 k15 l1 s
        else
          j_210_125 k15 l1 s)))))))))))
set_option maxRecDepth 20000 in
theorem bl_210_73 {L c : Nat} {e : Nat → Nat} {k15 : (Int → Sg → Option Sg)} (hk15 : ∀ (d2 d3 : Option ax_V) (l1 : Int) (s : Sg) (q : Sg), k15 l1 s = some q → RuP 4 tb_m210 15 [some (.inr (.inr (some 84))), some (.inl l1), d2, d3] [] (hp L s c e) (oV L c e q)) : ∀ (d2 d3 : Option ax_V) (l1 : Int) (s : Sg) (q : Sg), j_210_73 k15 l1 s = some q → RuP 4 tb_m210 73 [some (.inr (.inr (some 84))), some (.inl l1), d2, d3] [] (hp L s c e) (oV L c e q) := by
  intro d2 d3 l1 s q h
  unfold j_210_73 at h
  refine RuP.step (pc' := 74) (ls' := [some (.inr (.inr (some 84))), some (.inl l1), d2, d3]) (st' := [.inr (.inr (some 84))]) (h1 := hp L s c e) rfl ?_
  refine RuP.step (pc' := 77) (ls' := [some (.inr (.inr (some 84))), some (.inl l1), d2, d3]) (st' := [.inr (.inr (some 94))]) (h1 := hp L s c e) rfl ?_
  refine RuP.step (pc' := 78) (ls' := [some (.inr (.inr (some 84))), some (.inl l1), d2, d3]) (st' := [.inl l1, .inr (.inr (some 94))]) (h1 := hp L s c e) rfl ?_
  obtain ⟨b0, h⟩ := gd_some h
  refine RuP.ald (f := fun t => t == 0) (j := l1) (a := 94) rfl rfl b0.1 b0.2 ?_
  by_cases h1 : ¬ (s 94 l1.toNat) = 0
  · rw [if_pos h1] at h
    refine RuP.jy rfl h1 ?_
    exact bl_210_140 hk15 _ _ _ _ _ h
  · rw [if_neg h1] at h
    refine RuP.jn rfl h1 ?_
    refine RuP.step (pc' := 83) (ls' := [some (.inr (.inr (some 84))), some (.inl l1), d2, d3]) (st' := [.inr (.inr (some 84))]) (h1 := hp L s c e) rfl ?_
    refine RuP.step (pc' := 86) (ls' := [some (.inr (.inr (some 84))), some (.inl l1), d2, d3]) (st' := [.inr (.inr (some 96))]) (h1 := hp L s c e) rfl ?_
    refine RuP.step (pc' := 87) (ls' := [some (.inr (.inr (some 84))), some (.inl l1), d2, d3]) (st' := [.inl l1, .inr (.inr (some 96))]) (h1 := hp L s c e) rfl ?_
    obtain ⟨b2, h⟩ := gd_some h
    refine RuP.ald (f := fun t => t == 0) (j := l1) (a := 96) rfl rfl b2.1 b2.2 ?_
    by_cases h3 : s 96 l1.toNat < 0
    · rw [if_pos h3] at h
      refine RuP.jy rfl h3 ?_
      exact bl_210_140 hk15 _ _ _ _ _ h
    · rw [if_neg h3] at h
      refine RuP.jn rfl h3 ?_
      refine RuP.step (pc' := 92) (ls' := [some (.inr (.inr (some 84))), some (.inl l1), d2, d3]) (st' := [.inr (.inr (some 84))]) (h1 := hp L s c e) rfl ?_
      refine RuP.step (pc' := 93) (ls' := [some (.inr (.inr (some 84))), some (.inl l1), d2, d3]) (st' := [.inr (.inr (some 84)), .inr (.inr (some 84))]) (h1 := hp L s c e) rfl ?_
      refine RuP.step (pc' := 96) (ls' := [some (.inr (.inr (some 84))), some (.inl l1), d2, d3]) (st' := [.inr (.inr (some 96)), .inr (.inr (some 84))]) (h1 := hp L s c e) rfl ?_
      refine RuP.step (pc' := 97) (ls' := [some (.inr (.inr (some 84))), some (.inl l1), d2, d3]) (st' := [.inl l1, .inr (.inr (some 96)), .inr (.inr (some 84))]) (h1 := hp L s c e) rfl ?_
      obtain ⟨b4, h⟩ := gd_some h
      refine RuP.ald (f := fun t => t == 0) (j := l1) (a := 96) rfl rfl b4.1 b4.2 ?_
      obtain ⟨q17, h1, h⟩ := bd_some h
      refine RuP.cJ rfl ((ev_218 h1).up (by decide)) ?_
      refine RuP.step (pc' := 102) (ls' := [some (.inr (.inr (some 84))), some (.inl l1), some (.inr (.inl q17)), none]) (st' := []) (h1 := hp L s c e) rfl ?_
      refine RuP.step (pc' := 103) (ls' := [some (.inr (.inr (some 84))), some (.inl l1), some (.inr (.inl q17)), none]) (st' := [.inr (.inl q17)]) (h1 := hp L s c e) rfl ?_
      refine RuP.step (pc' := 106) (ls' := [some (.inr (.inr (some 84))), some (.inl l1), some (.inr (.inl q17)), none]) (st' := [.inr (.inl 2), .inr (.inl q17)]) (h1 := hp L s c e) rfl ?_
      refine RuP.step (pc' := 109) (ls' := [some (.inr (.inr (some 84))), some (.inl l1), some (.inr (.inl q17)), none]) (st' := [.inr (.inl 64), .inr (.inl 2), .inr (.inl q17)]) (h1 := hp L s c e) rfl ?_
      refine RuP.cI rfl (EvP.i ((ev_207 q17 2 64).up (by decide))) ?_
      by_cases h5 : f_207 q17 2 64 s = 0
      · rw [if_pos h5] at h
        refine RuP.jy rfl h5 ?_
        exact bl_210_125 hk15 _ _ _ _ h
      · rw [if_neg h5] at h
        refine RuP.jn rfl h5 ?_
        refine RuP.step (pc' := 116) (ls' := [some (.inr (.inr (some 84))), some (.inl l1), some (.inr (.inl q17)), none]) (st' := [.inr (.inl q17)]) (h1 := hp L s c e) rfl ?_
        refine RuP.step (pc' := 117) (ls' := [some (.inr (.inr (some 84))), some (.inl l1), some (.inr (.inl q17)), none]) (st' := [.inr (.inl q17), .inr (.inl q17)]) (h1 := hp L s c e) rfl ?_
        refine RuP.step (pc' := 118) (ls' := [some (.inr (.inr (some 84))), some (.inl l1), some (.inr (.inl q17)), none]) (st' := [.inr (.inl 1), .inr (.inl q17), .inr (.inl q17)]) (h1 := hp L s c e) rfl ?_
        refine RuP.step (pc' := 119) (ls' := [some (.inr (.inr (some 84))), some (.inl l1), some (.inr (.inl q17)), none]) (st' := [.inr (.inl (ax_w64 (q17 - 1))), .inr (.inl q17)]) (h1 := hp L s c e) rfl ?_
        refine RuP.step (pc' := 120) (ls' := [some (.inr (.inr (some 84))), some (.inl l1), some (.inr (.inl q17)), none]) (st' := [.inr (.inl (ax_land q17 (ax_w64 (q17 - 1))))]) (h1 := hp L s c e) rfl ?_
        refine RuP.step (pc' := 121) (ls' := [some (.inr (.inr (some 84))), some (.inl l1), some (.inr (.inl q17)), none]) (st' := [.inr (.inl 0), .inr (.inl (ax_land q17 (ax_w64 (q17 - 1))))]) (h1 := hp L s c e) rfl ?_
        refine RuP.step (pc' := 122) (ls' := [some (.inr (.inr (some 84))), some (.inl l1), some (.inr (.inl q17)), none]) (st' := [.inl (ax_cmp (ax_land q17 (ax_w64 (q17 - 1))) 0)]) (h1 := hp L s c e) rfl ?_
        by_cases h6 : ax_cmp (ax_land q17 (ax_w64 (q17 - 1))) 0 = 0
        · rw [if_pos h6] at h
          refine RuP.jy rfl h6 ?_
          exact bl_210_140 hk15 _ _ _ _ _ h
        · rw [if_neg h6] at h
          refine RuP.jn rfl h6 ?_
          exact bl_210_125 hk15 _ _ _ _ h
noncomputable def j_210_48 (k15 : (Int → Sg → Option Sg)) (l1 : Int) (s : Sg) : Option Sg :=
  (gd (0 ≤ l1 ∧ l1 < 4100) (
  (if ¬ (s 94 l1.toNat) = 1 then
    j_210_73 k15 l1 s
  else
    (gd (0 ≤ l1 ∧ l1 < 4100) (
    ((f_234 (s 96 l1.toNat) 1 20 s).bind fun q19 =>
    j_210_73 k15 l1 q19.2))))))
set_option maxRecDepth 20000 in
theorem bl_210_48 {L c : Nat} {e : Nat → Nat} {k15 : (Int → Sg → Option Sg)} (hk15 : ∀ (d2 d3 : Option ax_V) (l1 : Int) (s : Sg) (q : Sg), k15 l1 s = some q → RuP 4 tb_m210 15 [some (.inr (.inr (some 84))), some (.inl l1), d2, d3] [] (hp L s c e) (oV L c e q)) : ∀ (d2 d3 : Option ax_V) (l1 : Int) (s : Sg) (q : Sg), j_210_48 k15 l1 s = some q → RuP 4 tb_m210 48 [some (.inr (.inr (some 84))), some (.inl l1), d2, d3] [] (hp L s c e) (oV L c e q) := by
  intro d2 d3 l1 s q h
  unfold j_210_48 at h
  refine RuP.step (pc' := 49) (ls' := [some (.inr (.inr (some 84))), some (.inl l1), d2, d3]) (st' := [.inr (.inr (some 84))]) (h1 := hp L s c e) rfl ?_
  refine RuP.step (pc' := 52) (ls' := [some (.inr (.inr (some 84))), some (.inl l1), d2, d3]) (st' := [.inr (.inr (some 94))]) (h1 := hp L s c e) rfl ?_
  refine RuP.step (pc' := 53) (ls' := [some (.inr (.inr (some 84))), some (.inl l1), d2, d3]) (st' := [.inl l1, .inr (.inr (some 94))]) (h1 := hp L s c e) rfl ?_
  obtain ⟨b0, h⟩ := gd_some h
  refine RuP.ald (f := fun t => t == 0) (j := l1) (a := 94) rfl rfl b0.1 b0.2 ?_
  refine RuP.step (pc' := 55) (ls' := [some (.inr (.inr (some 84))), some (.inl l1), d2, d3]) (st' := [.inl 1, .inl (s 94 l1.toNat)]) (h1 := hp L s c e) rfl ?_
  by_cases h1 : ¬ (s 94 l1.toNat) = 1
  · rw [if_pos h1] at h
    refine RuP.jy rfl h1 ?_
    exact bl_210_73 hk15 _ _ _ _ _ h
  · rw [if_neg h1] at h
    refine RuP.jn rfl h1 ?_
    refine RuP.step (pc' := 59) (ls' := [some (.inr (.inr (some 84))), some (.inl l1), d2, d3]) (st' := [.inr (.inr (some 84))]) (h1 := hp L s c e) rfl ?_
    refine RuP.step (pc' := 60) (ls' := [some (.inr (.inr (some 84))), some (.inl l1), d2, d3]) (st' := [.inr (.inr (some 84)), .inr (.inr (some 84))]) (h1 := hp L s c e) rfl ?_
    refine RuP.step (pc' := 63) (ls' := [some (.inr (.inr (some 84))), some (.inl l1), d2, d3]) (st' := [.inr (.inr (some 96)), .inr (.inr (some 84))]) (h1 := hp L s c e) rfl ?_
    refine RuP.step (pc' := 64) (ls' := [some (.inr (.inr (some 84))), some (.inl l1), d2, d3]) (st' := [.inl l1, .inr (.inr (some 96)), .inr (.inr (some 84))]) (h1 := hp L s c e) rfl ?_
    obtain ⟨b2, h⟩ := gd_some h
    refine RuP.ald (f := fun t => t == 0) (j := l1) (a := 96) rfl rfl b2.1 b2.2 ?_
    refine RuP.step (pc' := 66) (ls' := [some (.inr (.inr (some 84))), some (.inl l1), d2, d3]) (st' := [.inr (.inl 1), .inl (s 96 l1.toNat), .inr (.inr (some 84))]) (h1 := hp L s c e) rfl ?_
    refine RuP.step (pc' := 69) (ls' := [some (.inr (.inr (some 84))), some (.inl l1), d2, d3]) (st' := [.inr (.inl 20), .inr (.inl 1), .inl (s 96 l1.toNat), .inr (.inr (some 84))]) (h1 := hp L s c e) rfl ?_
    obtain ⟨q19, h1, h⟩ := bd_some h
    refine RuP.cI rfl ((ev_234 h1).up (by decide)) ?_
    refine RuP.step (pc' := 73) (ls' := [some (.inr (.inr (some 84))), some (.inl l1), d2, d3]) (st' := []) (h1 := hp L q19.2 c e) rfl ?_
    exact bl_210_73 hk15 _ _ _ _ _ h
noncomputable def j_210_15 : Nat → Int → Sg → Option Sg
  | 0, _, _ => none
  | F + 1, l1, s =>
    (if s 84 19 ≤ l1 then
      j_210_146 s
    else
      (gd (0 ≤ l1 ∧ l1 < 4100) (
      (if 3 ≤ s 94 l1.toNat then
        j_210_48 (j_210_15 F) l1 s
      else
        (gd (0 ≤ l1 ∧ l1 < 4100) (
        ((f_234 (s 97 l1.toNat) 1 32 s).bind fun q20 =>
        j_210_48 (j_210_15 F) l1 q20.2)))))))
set_option maxRecDepth 20000 in
theorem bl_210_15 {L c : Nat} {e : Nat → Nat} : ∀ (F : Nat) (d2 d3 : Option ax_V) (l1 : Int) (s : Sg) (q : Sg), j_210_15 F l1 s = some q → RuP 4 tb_m210 15 [some (.inr (.inr (some 84))), some (.inl l1), d2, d3] [] (hp L s c e) (oV L c e q) := by
  intro F
  induction F with
  | zero =>
    intro d2 d3 l1 s q h
    rw [j_210_15] at h
    cases h
  | succ F ih =>
    intro d2 d3 l1 s q h
    rw [j_210_15] at h
    refine RuP.step (pc' := 16) (ls' := [some (.inr (.inr (some 84))), some (.inl l1), d2, d3]) (st' := [.inl l1]) (h1 := hp L s c e) rfl ?_
    refine RuP.step (pc' := 17) (ls' := [some (.inr (.inr (some 84))), some (.inl l1), d2, d3]) (st' := [.inr (.inr (some 84)), .inl l1]) (h1 := hp L s c e) rfl ?_
    refine RuP.step (pc' := 20) (ls' := [some (.inr (.inr (some 84))), some (.inl l1), d2, d3]) (st' := [.inl (s 84 19), .inl l1]) (h1 := hp L s c e) rfl ?_
    by_cases h0 : s 84 19 ≤ l1
    · rw [if_pos h0] at h
      refine RuP.jy rfl h0 ?_
      exact bl_210_146 _ _ _ _ _ h
    · rw [if_neg h0] at h
      refine RuP.jn rfl h0 ?_
      refine RuP.step (pc' := 24) (ls' := [some (.inr (.inr (some 84))), some (.inl l1), d2, d3]) (st' := [.inr (.inr (some 84))]) (h1 := hp L s c e) rfl ?_
      refine RuP.step (pc' := 27) (ls' := [some (.inr (.inr (some 84))), some (.inl l1), d2, d3]) (st' := [.inr (.inr (some 94))]) (h1 := hp L s c e) rfl ?_
      refine RuP.step (pc' := 28) (ls' := [some (.inr (.inr (some 84))), some (.inl l1), d2, d3]) (st' := [.inl l1, .inr (.inr (some 94))]) (h1 := hp L s c e) rfl ?_
      obtain ⟨b1, h⟩ := gd_some h
      refine RuP.ald (f := fun t => t == 0) (j := l1) (a := 94) rfl rfl b1.1 b1.2 ?_
      refine RuP.step (pc' := 30) (ls' := [some (.inr (.inr (some 84))), some (.inl l1), d2, d3]) (st' := [.inl 3, .inl (s 94 l1.toNat)]) (h1 := hp L s c e) rfl ?_
      by_cases h2 : 3 ≤ s 94 l1.toNat
      · rw [if_pos h2] at h
        refine RuP.jy rfl h2 ?_
        exact bl_210_48 ih _ _ _ _ _ h
      · rw [if_neg h2] at h
        refine RuP.jn rfl h2 ?_
        refine RuP.step (pc' := 34) (ls' := [some (.inr (.inr (some 84))), some (.inl l1), d2, d3]) (st' := [.inr (.inr (some 84))]) (h1 := hp L s c e) rfl ?_
        refine RuP.step (pc' := 35) (ls' := [some (.inr (.inr (some 84))), some (.inl l1), d2, d3]) (st' := [.inr (.inr (some 84)), .inr (.inr (some 84))]) (h1 := hp L s c e) rfl ?_
        refine RuP.step (pc' := 38) (ls' := [some (.inr (.inr (some 84))), some (.inl l1), d2, d3]) (st' := [.inr (.inr (some 97)), .inr (.inr (some 84))]) (h1 := hp L s c e) rfl ?_
        refine RuP.step (pc' := 39) (ls' := [some (.inr (.inr (some 84))), some (.inl l1), d2, d3]) (st' := [.inl l1, .inr (.inr (some 97)), .inr (.inr (some 84))]) (h1 := hp L s c e) rfl ?_
        obtain ⟨b3, h⟩ := gd_some h
        refine RuP.ald (f := fun t => t == 0) (j := l1) (a := 97) rfl rfl b3.1 b3.2 ?_
        refine RuP.step (pc' := 41) (ls' := [some (.inr (.inr (some 84))), some (.inl l1), d2, d3]) (st' := [.inr (.inl 1), .inl (s 97 l1.toNat), .inr (.inr (some 84))]) (h1 := hp L s c e) rfl ?_
        refine RuP.step (pc' := 44) (ls' := [some (.inr (.inr (some 84))), some (.inl l1), d2, d3]) (st' := [.inr (.inl 32), .inr (.inl 1), .inl (s 97 l1.toNat), .inr (.inr (some 84))]) (h1 := hp L s c e) rfl ?_
        obtain ⟨q20, h1, h⟩ := bd_some h
        refine RuP.cI rfl ((ev_234 h1).up (by decide)) ?_
        refine RuP.step (pc' := 48) (ls' := [some (.inr (.inr (some 84))), some (.inl l1), d2, d3]) (st' := []) (h1 := hp L q20.2 c e) rfl ?_
        exact bl_210_48 ih _ _ _ _ _ h
noncomputable def f_210 (s : Sg) : Option Sg :=
  ((f_234 (s 84 30) 1 64 s).bind fun q1 =>
  j_210_15 FU 0 q1.2)
set_option maxRecDepth 20000 in
theorem ev_210 {L c : Nat} {e : Nat → Nat} {s : Sg} {q : Sg} (h : f_210 s = some q) : EvP 5 210 [.inr (.inr (some 84))] (hp L s c e) (oV L c e q) := by
  unfold f_210 at h
  refine EvP.of (μ := tb_m210) (ls := [some (.inr (.inr (some 84))), none, none, none]) rfl (Nat.le_of_ble_eq_true rfl) rfl ?_
  refine RuP.step (pc' := 1) (ls' := [some (.inr (.inr (some 84))), none, none, none]) (st' := [.inr (.inr (some 84))]) (h1 := hp L s c e) rfl ?_
  refine RuP.step (pc' := 2) (ls' := [some (.inr (.inr (some 84))), none, none, none]) (st' := [.inr (.inr (some 84)), .inr (.inr (some 84))]) (h1 := hp L s c e) rfl ?_
  refine RuP.step (pc' := 5) (ls' := [some (.inr (.inr (some 84))), none, none, none]) (st' := [.inl (s 84 30), .inr (.inr (some 84))]) (h1 := hp L s c e) rfl ?_
  refine RuP.step (pc' := 6) (ls' := [some (.inr (.inr (some 84))), none, none, none]) (st' := [.inr (.inl 1), .inl (s 84 30), .inr (.inr (some 84))]) (h1 := hp L s c e) rfl ?_
  refine RuP.step (pc' := 9) (ls' := [some (.inr (.inr (some 84))), none, none, none]) (st' := [.inr (.inl 64), .inr (.inl 1), .inl (s 84 30), .inr (.inr (some 84))]) (h1 := hp L s c e) rfl ?_
  obtain ⟨q1, h1, h⟩ := bd_some h
  refine RuP.cI rfl ((ev_234 h1).up (by decide)) ?_
  refine RuP.step (pc' := 13) (ls' := [some (.inr (.inr (some 84))), none, none, none]) (st' := []) (h1 := hp L q1.2 c e) rfl ?_
  refine RuP.step (pc' := 14) (ls' := [some (.inr (.inr (some 84))), none, none, none]) (st' := [.inl 0]) (h1 := hp L q1.2 c e) rfl ?_
  refine RuP.step (pc' := 15) (ls' := [some (.inr (.inr (some 84))), some (.inl 0), none, none]) (st' := []) (h1 := hp L q1.2 c e) rfl ?_
  exact bl_210_15 FU _ _ _ _ _ h
/-- MachineTextModel.checkTwice()V -/
noncomputable def j_211_211 (s : Sg) : Option Sg :=
  ((f_237 5 s).bind fun q1 =>
  some q1)
theorem bl_211_211 {L c : Nat} {e : Nat → Nat} : ∀ (d2 d3 : Option ax_V) (z1 : Int) (s : Sg) (q : Sg), j_211_211 s = some q → RuP 2 tb_m211 211 [some (.inr (.inr (some 84))), some (.inl z1), d2, d3] [] (hp L s c e) (oV L c e q) := by
  intro d2 d3 z1 s q h
  unfold j_211_211 at h
  refine RuP.step (pc' := 212) (ls' := [some (.inr (.inr (some 84))), some (.inl z1), d2, d3]) (st' := [.inr (.inr (some 84))]) (h1 := hp L s c e) rfl ?_
  refine RuP.step (pc' := 213) (ls' := [some (.inr (.inr (some 84))), some (.inl z1), d2, d3]) (st' := [.inl 5, .inr (.inr (some 84))]) (h1 := hp L s c e) rfl ?_
  obtain ⟨q1, h1, h⟩ := bd_some h
  refine RuP.cV rfl ((ev_237 h1).up (by decide)) ?_
  cases h
  exact RuP.dV rfl
noncomputable def j_211_205 (k147 : (Int → Sg → Option Sg)) (l1 : Int) (s : Sg) : Option Sg :=
  k147 (ax_w32 (l1 + 1)) s
theorem bl_211_205 {L c : Nat} {e : Nat → Nat} {k147 : (Int → Sg → Option Sg)} (hk147 : ∀ (d2 d3 : Option ax_V) (l1 : Int) (s : Sg) (q : Sg), k147 l1 s = some q → RuP 2 tb_m211 147 [some (.inr (.inr (some 84))), some (.inl l1), d2, d3] [] (hp L s c e) (oV L c e q)) : ∀ (d2 d3 : Option ax_V) (l1 : Int) (s : Sg) (q : Sg), j_211_205 k147 l1 s = some q → RuP 2 tb_m211 205 [some (.inr (.inr (some 84))), some (.inl l1), d2, d3] [] (hp L s c e) (oV L c e q) := by
  intro d2 d3 l1 s q h
  unfold j_211_205 at h
  refine RuP.step (pc' := 208) (ls' := [some (.inr (.inr (some 84))), some (.inl (ax_w32 (l1 + 1))), d2, d3]) (st' := []) (h1 := hp L s c e) rfl ?_
  refine RuP.step (pc' := 147) (ls' := [some (.inr (.inr (some 84))), some (.inl (ax_w32 (l1 + 1))), d2, d3]) (st' := []) (h1 := hp L s c e) rfl ?_
  exact hk147 _ _ _ _ _ h
noncomputable def j_211_147 : Nat → Int → Sg → Option Sg
  | 0, _, _ => none
  | F + 1, l1, s =>
    (if s 84 34 ≤ l1 then
      j_211_211 s
    else
      (gd (0 ≤ l1 ∧ l1 < 8200) (
      (if ¬ (s 106 l1.toNat) = 2 then
        j_211_205 (j_211_147 F) l1 s
      else
        (gd (0 ≤ l1 ∧ l1 < 8200) (
        (gd (0 ≤ l1 ∧ l1 < 8200) (
        (gd (0 ≤ l1 ∧ l1 < 8200) (
        ((f_240 (s 112 l1.toNat) (s 113 l1.toNat) (s 107 l1.toNat) s).bind fun q2 =>
        (if q2 = 0 then
          j_211_205 (j_211_147 F) l1 s
        else
          (gd (0 ≤ l1 ∧ l1 < 8200) (
          (gd (0 ≤ s 107 l1.toNat ∧ s 107 l1.toNat < 8200) (
          ((some (f_235 (s 89 ((s 107 l1.toNat).toNat)) s)).bind fun q3 =>
          j_211_205 (j_211_147 F) l1 q3)))))))))))))))))
theorem bl_211_147 {L c : Nat} {e : Nat → Nat} : ∀ (F : Nat) (d2 d3 : Option ax_V) (l1 : Int) (s : Sg) (q : Sg), j_211_147 F l1 s = some q → RuP 2 tb_m211 147 [some (.inr (.inr (some 84))), some (.inl l1), d2, d3] [] (hp L s c e) (oV L c e q) := by
  intro F
  induction F with
  | zero =>
    intro d2 d3 l1 s q h
    rw [j_211_147] at h
    cases h
  | succ F ih =>
    intro d2 d3 l1 s q h
    rw [j_211_147] at h
    refine RuP.step (pc' := 148) (ls' := [some (.inr (.inr (some 84))), some (.inl l1), d2, d3]) (st' := [.inl l1]) (h1 := hp L s c e) rfl ?_
    refine RuP.step (pc' := 149) (ls' := [some (.inr (.inr (some 84))), some (.inl l1), d2, d3]) (st' := [.inr (.inr (some 84)), .inl l1]) (h1 := hp L s c e) rfl ?_
    refine RuP.step (pc' := 152) (ls' := [some (.inr (.inr (some 84))), some (.inl l1), d2, d3]) (st' := [.inl (s 84 34), .inl l1]) (h1 := hp L s c e) rfl ?_
    by_cases h0 : s 84 34 ≤ l1
    · rw [if_pos h0] at h
      refine RuP.jy rfl h0 ?_
      exact bl_211_211 _ _ _ _ _ h
    · rw [if_neg h0] at h
      refine RuP.jn rfl h0 ?_
      refine RuP.step (pc' := 156) (ls' := [some (.inr (.inr (some 84))), some (.inl l1), d2, d3]) (st' := [.inr (.inr (some 84))]) (h1 := hp L s c e) rfl ?_
      refine RuP.step (pc' := 159) (ls' := [some (.inr (.inr (some 84))), some (.inl l1), d2, d3]) (st' := [.inr (.inr (some 106))]) (h1 := hp L s c e) rfl ?_
      refine RuP.step (pc' := 160) (ls' := [some (.inr (.inr (some 84))), some (.inl l1), d2, d3]) (st' := [.inl l1, .inr (.inr (some 106))]) (h1 := hp L s c e) rfl ?_
      obtain ⟨b1, h⟩ := gd_some h
      refine RuP.ald (f := fun t => t == 0) (j := l1) (a := 106) rfl rfl b1.1 b1.2 ?_
      refine RuP.step (pc' := 162) (ls' := [some (.inr (.inr (some 84))), some (.inl l1), d2, d3]) (st' := [.inl 2, .inl (s 106 l1.toNat)]) (h1 := hp L s c e) rfl ?_
      by_cases h2 : ¬ (s 106 l1.toNat) = 2
      · rw [if_pos h2] at h
        refine RuP.jy rfl h2 ?_
        exact bl_211_205 ih _ _ _ _ _ h
      · rw [if_neg h2] at h
        refine RuP.jn rfl h2 ?_
        refine RuP.step (pc' := 166) (ls' := [some (.inr (.inr (some 84))), some (.inl l1), d2, d3]) (st' := [.inr (.inr (some 84))]) (h1 := hp L s c e) rfl ?_
        refine RuP.step (pc' := 167) (ls' := [some (.inr (.inr (some 84))), some (.inl l1), d2, d3]) (st' := [.inr (.inr (some 84)), .inr (.inr (some 84))]) (h1 := hp L s c e) rfl ?_
        refine RuP.step (pc' := 170) (ls' := [some (.inr (.inr (some 84))), some (.inl l1), d2, d3]) (st' := [.inr (.inr (some 112)), .inr (.inr (some 84))]) (h1 := hp L s c e) rfl ?_
        refine RuP.step (pc' := 171) (ls' := [some (.inr (.inr (some 84))), some (.inl l1), d2, d3]) (st' := [.inl l1, .inr (.inr (some 112)), .inr (.inr (some 84))]) (h1 := hp L s c e) rfl ?_
        obtain ⟨b3, h⟩ := gd_some h
        refine RuP.ald (f := fun t => t == 0) (j := l1) (a := 112) rfl rfl b3.1 b3.2 ?_
        refine RuP.step (pc' := 173) (ls' := [some (.inr (.inr (some 84))), some (.inl l1), d2, d3]) (st' := [.inr (.inr (some 84)), .inl (s 112 l1.toNat), .inr (.inr (some 84))]) (h1 := hp L s c e) rfl ?_
        refine RuP.step (pc' := 176) (ls' := [some (.inr (.inr (some 84))), some (.inl l1), d2, d3]) (st' := [.inr (.inr (some 113)), .inl (s 112 l1.toNat), .inr (.inr (some 84))]) (h1 := hp L s c e) rfl ?_
        refine RuP.step (pc' := 177) (ls' := [some (.inr (.inr (some 84))), some (.inl l1), d2, d3]) (st' := [.inl l1, .inr (.inr (some 113)), .inl (s 112 l1.toNat), .inr (.inr (some 84))]) (h1 := hp L s c e) rfl ?_
        obtain ⟨b4, h⟩ := gd_some h
        refine RuP.ald (f := fun t => t == 0) (j := l1) (a := 113) rfl rfl b4.1 b4.2 ?_
        refine RuP.step (pc' := 179) (ls' := [some (.inr (.inr (some 84))), some (.inl l1), d2, d3]) (st' := [.inr (.inr (some 84)), .inl (s 113 l1.toNat), .inl (s 112 l1.toNat), .inr (.inr (some 84))]) (h1 := hp L s c e) rfl ?_
        refine RuP.step (pc' := 182) (ls' := [some (.inr (.inr (some 84))), some (.inl l1), d2, d3]) (st' := [.inr (.inr (some 107)), .inl (s 113 l1.toNat), .inl (s 112 l1.toNat), .inr (.inr (some 84))]) (h1 := hp L s c e) rfl ?_
        refine RuP.step (pc' := 183) (ls' := [some (.inr (.inr (some 84))), some (.inl l1), d2, d3]) (st' := [.inl l1, .inr (.inr (some 107)), .inl (s 113 l1.toNat), .inl (s 112 l1.toNat), .inr (.inr (some 84))]) (h1 := hp L s c e) rfl ?_
        obtain ⟨b5, h⟩ := gd_some h
        refine RuP.ald (f := fun t => t == 0) (j := l1) (a := 107) rfl rfl b5.1 b5.2 ?_
        obtain ⟨q2, h1, h⟩ := bd_some h
        refine RuP.cI rfl ((ev_240 h1).up (by decide)) ?_
        by_cases h6 : q2 = 0
        · rw [if_pos h6] at h
          refine RuP.jy rfl h6 ?_
          exact bl_211_205 ih _ _ _ _ _ h
        · rw [if_neg h6] at h
          refine RuP.jn rfl h6 ?_
          refine RuP.step (pc' := 191) (ls' := [some (.inr (.inr (some 84))), some (.inl l1), d2, d3]) (st' := [.inr (.inr (some 84))]) (h1 := hp L s c e) rfl ?_
          refine RuP.step (pc' := 192) (ls' := [some (.inr (.inr (some 84))), some (.inl l1), d2, d3]) (st' := [.inr (.inr (some 84)), .inr (.inr (some 84))]) (h1 := hp L s c e) rfl ?_
          refine RuP.step (pc' := 195) (ls' := [some (.inr (.inr (some 84))), some (.inl l1), d2, d3]) (st' := [.inr (.inr (some 89)), .inr (.inr (some 84))]) (h1 := hp L s c e) rfl ?_
          refine RuP.step (pc' := 196) (ls' := [some (.inr (.inr (some 84))), some (.inl l1), d2, d3]) (st' := [.inr (.inr (some 84)), .inr (.inr (some 89)), .inr (.inr (some 84))]) (h1 := hp L s c e) rfl ?_
          refine RuP.step (pc' := 199) (ls' := [some (.inr (.inr (some 84))), some (.inl l1), d2, d3]) (st' := [.inr (.inr (some 107)), .inr (.inr (some 89)), .inr (.inr (some 84))]) (h1 := hp L s c e) rfl ?_
          refine RuP.step (pc' := 200) (ls' := [some (.inr (.inr (some 84))), some (.inl l1), d2, d3]) (st' := [.inl l1, .inr (.inr (some 107)), .inr (.inr (some 89)), .inr (.inr (some 84))]) (h1 := hp L s c e) rfl ?_
          obtain ⟨b7, h⟩ := gd_some h
          refine RuP.ald (f := fun t => t == 0) (j := l1) (a := 107) rfl rfl b7.1 b7.2 ?_
          obtain ⟨b8, h⟩ := gd_some h
          refine RuP.ald (f := fun t => t == 0) (j := s 107 l1.toNat) (a := 89) rfl rfl b8.1 b8.2 ?_
          obtain ⟨q3, h1, h⟩ := bd_some h
          refine RuP.cVe h1 rfl (EvP.v ((ev_235 (s 89 ((s 107 l1.toNat).toNat))).up (by decide))) ?_
          exact bl_211_205 ih _ _ _ _ _ h
noncomputable def j_211_145 (s : Sg) : Option Sg :=
  j_211_147 FU 0 s
theorem bl_211_145 {L c : Nat} {e : Nat → Nat} : ∀ (d2 d3 : Option ax_V) (z1 : Int) (s : Sg) (q : Sg), j_211_145 s = some q → RuP 2 tb_m211 145 [some (.inr (.inr (some 84))), some (.inl z1), d2, d3] [] (hp L s c e) (oV L c e q) := by
  intro d2 d3 z1 s q h
  unfold j_211_145 at h
  refine RuP.step (pc' := 146) (ls' := [some (.inr (.inr (some 84))), some (.inl z1), d2, d3]) (st' := [.inl 0]) (h1 := hp L s c e) rfl ?_
  refine RuP.step (pc' := 147) (ls' := [some (.inr (.inr (some 84))), some (.inl 0), d2, d3]) (st' := []) (h1 := hp L s c e) rfl ?_
  exact bl_211_147 FU _ _ _ _ _ h
noncomputable def j_211_139 (k2 : (Int → Sg → Option Sg)) (l1 : Int) (s : Sg) : Option Sg :=
  k2 (ax_w32 (l1 + 1)) s
theorem bl_211_139 {L c : Nat} {e : Nat → Nat} {k2 : (Int → Sg → Option Sg)} (hk2 : ∀ (d2 d3 : Option ax_V) (l1 : Int) (s : Sg) (q : Sg), k2 l1 s = some q → RuP 2 tb_m211 2 [some (.inr (.inr (some 84))), some (.inl l1), d2, d3] [] (hp L s c e) (oV L c e q)) : ∀ (d3 : Option ax_V) (z2 : Int) (l1 : Int) (s : Sg) (q : Sg), j_211_139 k2 l1 s = some q → RuP 2 tb_m211 139 [some (.inr (.inr (some 84))), some (.inl l1), some (.inl z2), d3] [] (hp L s c e) (oV L c e q) := by
  intro d3 z2 l1 s q h
  unfold j_211_139 at h
  refine RuP.step (pc' := 142) (ls' := [some (.inr (.inr (some 84))), some (.inl (ax_w32 (l1 + 1))), some (.inl z2), d3]) (st' := []) (h1 := hp L s c e) rfl ?_
  refine RuP.step (pc' := 2) (ls' := [some (.inr (.inr (some 84))), some (.inl (ax_w32 (l1 + 1))), some (.inl z2), d3]) (st' := []) (h1 := hp L s c e) rfl ?_
  exact hk2 _ _ _ _ _ h
noncomputable def j_211_133 (k2 : (Int → Sg → Option Sg)) (k46 : (Int → Int → Sg → Option Sg)) (l1 l2 : Int) (s : Sg) : Option Sg :=
  k46 l1 (ax_w32 (l2 + 1)) s
theorem bl_211_133 {L c : Nat} {e : Nat → Nat} {k2 : (Int → Sg → Option Sg)} {k46 : (Int → Int → Sg → Option Sg)} (hk2 : ∀ (d2 d3 : Option ax_V) (l1 : Int) (s : Sg) (q : Sg), k2 l1 s = some q → RuP 2 tb_m211 2 [some (.inr (.inr (some 84))), some (.inl l1), d2, d3] [] (hp L s c e) (oV L c e q)) (hk46 : ∀ (d3 : Option ax_V) (l1 l2 : Int) (s : Sg) (q : Sg), k46 l1 l2 s = some q → RuP 2 tb_m211 46 [some (.inr (.inr (some 84))), some (.inl l1), some (.inl l2), d3] [] (hp L s c e) (oV L c e q)) : ∀ (z3 : Int) (l1 l2 : Int) (s : Sg) (q : Sg), j_211_133 k2 k46 l1 l2 s = some q → RuP 2 tb_m211 133 [some (.inr (.inr (some 84))), some (.inl l1), some (.inl l2), some (.inl z3)] [] (hp L s c e) (oV L c e q) := by
  intro z3 l1 l2 s q h
  unfold j_211_133 at h
  refine RuP.step (pc' := 136) (ls' := [some (.inr (.inr (some 84))), some (.inl l1), some (.inl (ax_w32 (l2 + 1))), some (.inl z3)]) (st' := []) (h1 := hp L s c e) rfl ?_
  refine RuP.step (pc' := 46) (ls' := [some (.inr (.inr (some 84))), some (.inl l1), some (.inl (ax_w32 (l2 + 1))), some (.inl z3)]) (st' := []) (h1 := hp L s c e) rfl ?_
  exact hk46 _ _ _ _ _ h
noncomputable def j_211_127 (k2 : (Int → Sg → Option Sg)) (k46 : (Int → Int → Sg → Option Sg)) (k70 : (Int → Int → Int → Sg → Option Sg)) (l1 l2 l3 : Int) (s : Sg) : Option Sg :=
  k70 l1 l2 (ax_w32 (l3 + 1)) s
theorem bl_211_127 {L c : Nat} {e : Nat → Nat} {k2 : (Int → Sg → Option Sg)} {k46 : (Int → Int → Sg → Option Sg)} {k70 : (Int → Int → Int → Sg → Option Sg)} (hk2 : ∀ (d2 d3 : Option ax_V) (l1 : Int) (s : Sg) (q : Sg), k2 l1 s = some q → RuP 2 tb_m211 2 [some (.inr (.inr (some 84))), some (.inl l1), d2, d3] [] (hp L s c e) (oV L c e q)) (hk46 : ∀ (d3 : Option ax_V) (l1 l2 : Int) (s : Sg) (q : Sg), k46 l1 l2 s = some q → RuP 2 tb_m211 46 [some (.inr (.inr (some 84))), some (.inl l1), some (.inl l2), d3] [] (hp L s c e) (oV L c e q)) (hk70 : ∀ (l1 l2 l3 : Int) (s : Sg) (q : Sg), k70 l1 l2 l3 s = some q → RuP 2 tb_m211 70 [some (.inr (.inr (some 84))), some (.inl l1), some (.inl l2), some (.inl l3)] [] (hp L s c e) (oV L c e q)) : ∀ (l1 l2 l3 : Int) (s : Sg) (q : Sg), j_211_127 k2 k46 k70 l1 l2 l3 s = some q → RuP 2 tb_m211 127 [some (.inr (.inr (some 84))), some (.inl l1), some (.inl l2), some (.inl l3)] [] (hp L s c e) (oV L c e q) := by
  intro l1 l2 l3 s q h
  unfold j_211_127 at h
  refine RuP.step (pc' := 130) (ls' := [some (.inr (.inr (some 84))), some (.inl l1), some (.inl l2), some (.inl (ax_w32 (l3 + 1)))]) (st' := []) (h1 := hp L s c e) rfl ?_
  refine RuP.step (pc' := 70) (ls' := [some (.inr (.inr (some 84))), some (.inl l1), some (.inl l2), some (.inl (ax_w32 (l3 + 1)))]) (st' := []) (h1 := hp L s c e) rfl ?_
  exact hk70 _ _ _ _ _ h
noncomputable def j_211_70 (k2 : (Int → Sg → Option Sg)) (k46 : (Int → Int → Sg → Option Sg)) : Nat → Int → Int → Int → Sg → Option Sg
  | 0, _, _, _, _ => none
  | F + 1, l1, l2, l3, s =>
    (if l2 ≤ l3 then
      j_211_133 k2 k46 l1 l2 s
    else
      (gd (0 ≤ l2 ∧ l2 < 8200) (
      (if s 104 l2.toNat < 0 then
        j_211_127 k2 k46 (j_211_70 k2 k46 F) l1 l2 l3 s
      else
        (gd (0 ≤ l3 ∧ l3 < 8200) (
        (if s 104 l3.toNat < 0 then
          j_211_127 k2 k46 (j_211_70 k2 k46 F) l1 l2 l3 s
        else
          (gd (0 ≤ l2 ∧ l2 < 8200) (
          (gd (0 ≤ l3 ∧ l3 < 8200) (
          ((f_239 (s 104 l2.toNat) (s 104 l3.toNat) s).bind fun q5 =>
          (if q5 = 0 then
            j_211_127 k2 k46 (j_211_70 k2 k46 F) l1 l2 l3 s
          else
            (gd (0 ≤ l2 ∧ l2 < 8200) (
            (gd (0 ≤ s 104 l2.toNat ∧ s 104 l2.toNat < 8200) (
            ((some (f_235 (s 89 ((s 104 l2.toNat).toNat)) s)).bind fun q6 =>
            j_211_127 k2 k46 (j_211_70 k2 k46 F) l1 l2 l3 q6))))))))))))))))))
theorem bl_211_70 {L c : Nat} {e : Nat → Nat} {k2 : (Int → Sg → Option Sg)} {k46 : (Int → Int → Sg → Option Sg)} (hk2 : ∀ (d2 d3 : Option ax_V) (l1 : Int) (s : Sg) (q : Sg), k2 l1 s = some q → RuP 2 tb_m211 2 [some (.inr (.inr (some 84))), some (.inl l1), d2, d3] [] (hp L s c e) (oV L c e q)) (hk46 : ∀ (d3 : Option ax_V) (l1 l2 : Int) (s : Sg) (q : Sg), k46 l1 l2 s = some q → RuP 2 tb_m211 46 [some (.inr (.inr (some 84))), some (.inl l1), some (.inl l2), d3] [] (hp L s c e) (oV L c e q)) : ∀ (F : Nat) (l1 l2 l3 : Int) (s : Sg) (q : Sg), j_211_70 k2 k46 F l1 l2 l3 s = some q → RuP 2 tb_m211 70 [some (.inr (.inr (some 84))), some (.inl l1), some (.inl l2), some (.inl l3)] [] (hp L s c e) (oV L c e q) := by
  intro F
  induction F with
  | zero =>
    intro l1 l2 l3 s q h
    rw [j_211_70] at h
    cases h
  | succ F ih =>
    intro l1 l2 l3 s q h
    rw [j_211_70] at h
    refine RuP.step (pc' := 71) (ls' := [some (.inr (.inr (some 84))), some (.inl l1), some (.inl l2), some (.inl l3)]) (st' := [.inl l3]) (h1 := hp L s c e) rfl ?_
    refine RuP.step (pc' := 72) (ls' := [some (.inr (.inr (some 84))), some (.inl l1), some (.inl l2), some (.inl l3)]) (st' := [.inl l2, .inl l3]) (h1 := hp L s c e) rfl ?_
    by_cases h0 : l2 ≤ l3
    · rw [if_pos h0] at h
      refine RuP.jy rfl h0 ?_
      exact bl_211_133 hk2 hk46 _ _ _ _ _ h
    · rw [if_neg h0] at h
      refine RuP.jn rfl h0 ?_
      refine RuP.step (pc' := 76) (ls' := [some (.inr (.inr (some 84))), some (.inl l1), some (.inl l2), some (.inl l3)]) (st' := [.inr (.inr (some 84))]) (h1 := hp L s c e) rfl ?_
      refine RuP.step (pc' := 79) (ls' := [some (.inr (.inr (some 84))), some (.inl l1), some (.inl l2), some (.inl l3)]) (st' := [.inr (.inr (some 104))]) (h1 := hp L s c e) rfl ?_
      refine RuP.step (pc' := 80) (ls' := [some (.inr (.inr (some 84))), some (.inl l1), some (.inl l2), some (.inl l3)]) (st' := [.inl l2, .inr (.inr (some 104))]) (h1 := hp L s c e) rfl ?_
      obtain ⟨b1, h⟩ := gd_some h
      refine RuP.ald (f := fun t => t == 0) (j := l2) (a := 104) rfl rfl b1.1 b1.2 ?_
      by_cases h2 : s 104 l2.toNat < 0
      · rw [if_pos h2] at h
        refine RuP.jy rfl h2 ?_
        exact bl_211_127 hk2 hk46 ih _ _ _ _ _ h
      · rw [if_neg h2] at h
        refine RuP.jn rfl h2 ?_
        refine RuP.step (pc' := 85) (ls' := [some (.inr (.inr (some 84))), some (.inl l1), some (.inl l2), some (.inl l3)]) (st' := [.inr (.inr (some 84))]) (h1 := hp L s c e) rfl ?_
        refine RuP.step (pc' := 88) (ls' := [some (.inr (.inr (some 84))), some (.inl l1), some (.inl l2), some (.inl l3)]) (st' := [.inr (.inr (some 104))]) (h1 := hp L s c e) rfl ?_
        refine RuP.step (pc' := 89) (ls' := [some (.inr (.inr (some 84))), some (.inl l1), some (.inl l2), some (.inl l3)]) (st' := [.inl l3, .inr (.inr (some 104))]) (h1 := hp L s c e) rfl ?_
        obtain ⟨b3, h⟩ := gd_some h
        refine RuP.ald (f := fun t => t == 0) (j := l3) (a := 104) rfl rfl b3.1 b3.2 ?_
        by_cases h4 : s 104 l3.toNat < 0
        · rw [if_pos h4] at h
          refine RuP.jy rfl h4 ?_
          exact bl_211_127 hk2 hk46 ih _ _ _ _ _ h
        · rw [if_neg h4] at h
          refine RuP.jn rfl h4 ?_
          refine RuP.step (pc' := 94) (ls' := [some (.inr (.inr (some 84))), some (.inl l1), some (.inl l2), some (.inl l3)]) (st' := [.inr (.inr (some 84))]) (h1 := hp L s c e) rfl ?_
          refine RuP.step (pc' := 95) (ls' := [some (.inr (.inr (some 84))), some (.inl l1), some (.inl l2), some (.inl l3)]) (st' := [.inr (.inr (some 84)), .inr (.inr (some 84))]) (h1 := hp L s c e) rfl ?_
          refine RuP.step (pc' := 98) (ls' := [some (.inr (.inr (some 84))), some (.inl l1), some (.inl l2), some (.inl l3)]) (st' := [.inr (.inr (some 104)), .inr (.inr (some 84))]) (h1 := hp L s c e) rfl ?_
          refine RuP.step (pc' := 99) (ls' := [some (.inr (.inr (some 84))), some (.inl l1), some (.inl l2), some (.inl l3)]) (st' := [.inl l2, .inr (.inr (some 104)), .inr (.inr (some 84))]) (h1 := hp L s c e) rfl ?_
          obtain ⟨b5, h⟩ := gd_some h
          refine RuP.ald (f := fun t => t == 0) (j := l2) (a := 104) rfl rfl b5.1 b5.2 ?_
          refine RuP.step (pc' := 101) (ls' := [some (.inr (.inr (some 84))), some (.inl l1), some (.inl l2), some (.inl l3)]) (st' := [.inr (.inr (some 84)), .inl (s 104 l2.toNat), .inr (.inr (some 84))]) (h1 := hp L s c e) rfl ?_
          refine RuP.step (pc' := 104) (ls' := [some (.inr (.inr (some 84))), some (.inl l1), some (.inl l2), some (.inl l3)]) (st' := [.inr (.inr (some 104)), .inl (s 104 l2.toNat), .inr (.inr (some 84))]) (h1 := hp L s c e) rfl ?_
          refine RuP.step (pc' := 105) (ls' := [some (.inr (.inr (some 84))), some (.inl l1), some (.inl l2), some (.inl l3)]) (st' := [.inl l3, .inr (.inr (some 104)), .inl (s 104 l2.toNat), .inr (.inr (some 84))]) (h1 := hp L s c e) rfl ?_
          obtain ⟨b6, h⟩ := gd_some h
          refine RuP.ald (f := fun t => t == 0) (j := l3) (a := 104) rfl rfl b6.1 b6.2 ?_
          obtain ⟨q5, h1, h⟩ := bd_some h
          refine RuP.cI rfl ((ev_239 h1).up (by decide)) ?_
          by_cases h7 : q5 = 0
          · rw [if_pos h7] at h
            refine RuP.jy rfl h7 ?_
            exact bl_211_127 hk2 hk46 ih _ _ _ _ _ h
          · rw [if_neg h7] at h
            refine RuP.jn rfl h7 ?_
            refine RuP.step (pc' := 113) (ls' := [some (.inr (.inr (some 84))), some (.inl l1), some (.inl l2), some (.inl l3)]) (st' := [.inr (.inr (some 84))]) (h1 := hp L s c e) rfl ?_
            refine RuP.step (pc' := 114) (ls' := [some (.inr (.inr (some 84))), some (.inl l1), some (.inl l2), some (.inl l3)]) (st' := [.inr (.inr (some 84)), .inr (.inr (some 84))]) (h1 := hp L s c e) rfl ?_
            refine RuP.step (pc' := 117) (ls' := [some (.inr (.inr (some 84))), some (.inl l1), some (.inl l2), some (.inl l3)]) (st' := [.inr (.inr (some 89)), .inr (.inr (some 84))]) (h1 := hp L s c e) rfl ?_
            refine RuP.step (pc' := 118) (ls' := [some (.inr (.inr (some 84))), some (.inl l1), some (.inl l2), some (.inl l3)]) (st' := [.inr (.inr (some 84)), .inr (.inr (some 89)), .inr (.inr (some 84))]) (h1 := hp L s c e) rfl ?_
            refine RuP.step (pc' := 121) (ls' := [some (.inr (.inr (some 84))), some (.inl l1), some (.inl l2), some (.inl l3)]) (st' := [.inr (.inr (some 104)), .inr (.inr (some 89)), .inr (.inr (some 84))]) (h1 := hp L s c e) rfl ?_
            refine RuP.step (pc' := 122) (ls' := [some (.inr (.inr (some 84))), some (.inl l1), some (.inl l2), some (.inl l3)]) (st' := [.inl l2, .inr (.inr (some 104)), .inr (.inr (some 89)), .inr (.inr (some 84))]) (h1 := hp L s c e) rfl ?_
            obtain ⟨b8, h⟩ := gd_some h
            refine RuP.ald (f := fun t => t == 0) (j := l2) (a := 104) rfl rfl b8.1 b8.2 ?_
            obtain ⟨b9, h⟩ := gd_some h
            refine RuP.ald (f := fun t => t == 0) (j := s 104 l2.toNat) (a := 89) rfl rfl b9.1 b9.2 ?_
            obtain ⟨q6, h1, h⟩ := bd_some h
            refine RuP.cVe h1 rfl (EvP.v ((ev_235 (s 89 ((s 104 l2.toNat).toNat))).up (by decide))) ?_
            exact bl_211_127 hk2 hk46 ih _ _ _ _ _ h
noncomputable def j_211_46 (k2 : (Int → Sg → Option Sg)) : Nat → Int → Int → Sg → Option Sg
  | 0, _, _, _ => none
  | F + 1, l1, l2, s =>
    (gd (0 ≤ l1 ∧ l1 < 4100) (
    (gd (0 ≤ l1 ∧ l1 < 4100) (
    (if ax_w32 ((s 98 l1.toNat) + (s 99 l1.toNat)) ≤ l2 then
      j_211_139 k2 l1 s
    else
      (gd (0 ≤ l1 ∧ l1 < 4100) (
      j_211_70 k2 (j_211_46 k2 F) FU l1 l2 (s 98 l1.toNat) s)))))))
theorem bl_211_46 {L c : Nat} {e : Nat → Nat} {k2 : (Int → Sg → Option Sg)} (hk2 : ∀ (d2 d3 : Option ax_V) (l1 : Int) (s : Sg) (q : Sg), k2 l1 s = some q → RuP 2 tb_m211 2 [some (.inr (.inr (some 84))), some (.inl l1), d2, d3] [] (hp L s c e) (oV L c e q)) : ∀ (F : Nat) (d3 : Option ax_V) (l1 l2 : Int) (s : Sg) (q : Sg), j_211_46 k2 F l1 l2 s = some q → RuP 2 tb_m211 46 [some (.inr (.inr (some 84))), some (.inl l1), some (.inl l2), d3] [] (hp L s c e) (oV L c e q) := by
  intro F
  induction F with
  | zero =>
    intro d3 l1 l2 s q h
    rw [j_211_46] at h
    cases h
  | succ F ih =>
    intro d3 l1 l2 s q h
    rw [j_211_46] at h
    refine RuP.step (pc' := 47) (ls' := [some (.inr (.inr (some 84))), some (.inl l1), some (.inl l2), d3]) (st' := [.inl l2]) (h1 := hp L s c e) rfl ?_
    refine RuP.step (pc' := 48) (ls' := [some (.inr (.inr (some 84))), some (.inl l1), some (.inl l2), d3]) (st' := [.inr (.inr (some 84)), .inl l2]) (h1 := hp L s c e) rfl ?_
    refine RuP.step (pc' := 51) (ls' := [some (.inr (.inr (some 84))), some (.inl l1), some (.inl l2), d3]) (st' := [.inr (.inr (some 98)), .inl l2]) (h1 := hp L s c e) rfl ?_
    refine RuP.step (pc' := 52) (ls' := [some (.inr (.inr (some 84))), some (.inl l1), some (.inl l2), d3]) (st' := [.inl l1, .inr (.inr (some 98)), .inl l2]) (h1 := hp L s c e) rfl ?_
    obtain ⟨b0, h⟩ := gd_some h
    refine RuP.ald (f := fun t => t == 0) (j := l1) (a := 98) rfl rfl b0.1 b0.2 ?_
    refine RuP.step (pc' := 54) (ls' := [some (.inr (.inr (some 84))), some (.inl l1), some (.inl l2), d3]) (st' := [.inr (.inr (some 84)), .inl (s 98 l1.toNat), .inl l2]) (h1 := hp L s c e) rfl ?_
    refine RuP.step (pc' := 57) (ls' := [some (.inr (.inr (some 84))), some (.inl l1), some (.inl l2), d3]) (st' := [.inr (.inr (some 99)), .inl (s 98 l1.toNat), .inl l2]) (h1 := hp L s c e) rfl ?_
    refine RuP.step (pc' := 58) (ls' := [some (.inr (.inr (some 84))), some (.inl l1), some (.inl l2), d3]) (st' := [.inl l1, .inr (.inr (some 99)), .inl (s 98 l1.toNat), .inl l2]) (h1 := hp L s c e) rfl ?_
    obtain ⟨b1, h⟩ := gd_some h
    refine RuP.ald (f := fun t => t == 0) (j := l1) (a := 99) rfl rfl b1.1 b1.2 ?_
    refine RuP.step (pc' := 60) (ls' := [some (.inr (.inr (some 84))), some (.inl l1), some (.inl l2), d3]) (st' := [.inl (ax_w32 ((s 98 l1.toNat) + (s 99 l1.toNat))), .inl l2]) (h1 := hp L s c e) rfl ?_
    by_cases h2 : ax_w32 ((s 98 l1.toNat) + (s 99 l1.toNat)) ≤ l2
    · rw [if_pos h2] at h
      refine RuP.jy rfl h2 ?_
      exact bl_211_139 hk2 _ _ _ _ _ h
    · rw [if_neg h2] at h
      refine RuP.jn rfl h2 ?_
      refine RuP.step (pc' := 64) (ls' := [some (.inr (.inr (some 84))), some (.inl l1), some (.inl l2), d3]) (st' := [.inr (.inr (some 84))]) (h1 := hp L s c e) rfl ?_
      refine RuP.step (pc' := 67) (ls' := [some (.inr (.inr (some 84))), some (.inl l1), some (.inl l2), d3]) (st' := [.inr (.inr (some 98))]) (h1 := hp L s c e) rfl ?_
      refine RuP.step (pc' := 68) (ls' := [some (.inr (.inr (some 84))), some (.inl l1), some (.inl l2), d3]) (st' := [.inl l1, .inr (.inr (some 98))]) (h1 := hp L s c e) rfl ?_
      obtain ⟨b3, h⟩ := gd_some h
      refine RuP.ald (f := fun t => t == 0) (j := l1) (a := 98) rfl rfl b3.1 b3.2 ?_
      refine RuP.step (pc' := 70) (ls' := [some (.inr (.inr (some 84))), some (.inl l1), some (.inl l2), some (.inl (s 98 l1.toNat))]) (st' := []) (h1 := hp L s c e) rfl ?_
      exact bl_211_70 hk2 ih FU _ _ _ _ _ h
noncomputable def j_211_39 (k2 : (Int → Sg → Option Sg)) (l1 : Int) (s : Sg) : Option Sg :=
  (gd (0 ≤ l1 ∧ l1 < 4100) (
  j_211_46 k2 FU l1 (s 98 l1.toNat) s))
theorem bl_211_39 {L c : Nat} {e : Nat → Nat} {k2 : (Int → Sg → Option Sg)} (hk2 : ∀ (d2 d3 : Option ax_V) (l1 : Int) (s : Sg) (q : Sg), k2 l1 s = some q → RuP 2 tb_m211 2 [some (.inr (.inr (some 84))), some (.inl l1), d2, d3] [] (hp L s c e) (oV L c e q)) : ∀ (d2 d3 : Option ax_V) (l1 : Int) (s : Sg) (q : Sg), j_211_39 k2 l1 s = some q → RuP 2 tb_m211 39 [some (.inr (.inr (some 84))), some (.inl l1), d2, d3] [] (hp L s c e) (oV L c e q) := by
  intro d2 d3 l1 s q h
  unfold j_211_39 at h
  refine RuP.step (pc' := 40) (ls' := [some (.inr (.inr (some 84))), some (.inl l1), d2, d3]) (st' := [.inr (.inr (some 84))]) (h1 := hp L s c e) rfl ?_
  refine RuP.step (pc' := 43) (ls' := [some (.inr (.inr (some 84))), some (.inl l1), d2, d3]) (st' := [.inr (.inr (some 98))]) (h1 := hp L s c e) rfl ?_
  refine RuP.step (pc' := 44) (ls' := [some (.inr (.inr (some 84))), some (.inl l1), d2, d3]) (st' := [.inl l1, .inr (.inr (some 98))]) (h1 := hp L s c e) rfl ?_
  obtain ⟨b0, h⟩ := gd_some h
  refine RuP.ald (f := fun t => t == 0) (j := l1) (a := 98) rfl rfl b0.1 b0.2 ?_
  refine RuP.step (pc' := 46) (ls' := [some (.inr (.inr (some 84))), some (.inl l1), some (.inl (s 98 l1.toNat)), d3]) (st' := []) (h1 := hp L s c e) rfl ?_
  exact bl_211_46 hk2 FU _ _ _ _ _ h
noncomputable def j_211_2 : Nat → Int → Sg → Option Sg
  | 0, _, _ => none
  | F + 1, l1, s =>
    (if s 84 19 ≤ l1 then
      j_211_145 s
    else
      (gd (0 ≤ l1 ∧ l1 < 4100) (
      ((f_238 (s 95 l1.toNat) s).bind fun q4 =>
      (if l1 ≤ q4 then
        j_211_39 (j_211_2 F) l1 s
      else
        (gd (0 ≤ l1 ∧ l1 < 4100) (
        (gd (0 ≤ s 95 l1.toNat ∧ s 95 l1.toNat < 8200) (
        ((some (f_235 (s 89 ((s 95 l1.toNat).toNat)) s)).bind fun q7 =>
        j_211_39 (j_211_2 F) l1 q7))))))))))
theorem bl_211_2 {L c : Nat} {e : Nat → Nat} : ∀ (F : Nat) (d2 d3 : Option ax_V) (l1 : Int) (s : Sg) (q : Sg), j_211_2 F l1 s = some q → RuP 2 tb_m211 2 [some (.inr (.inr (some 84))), some (.inl l1), d2, d3] [] (hp L s c e) (oV L c e q) := by
  intro F
  induction F with
  | zero =>
    intro d2 d3 l1 s q h
    rw [j_211_2] at h
    cases h
  | succ F ih =>
    intro d2 d3 l1 s q h
    rw [j_211_2] at h
    refine RuP.step (pc' := 3) (ls' := [some (.inr (.inr (some 84))), some (.inl l1), d2, d3]) (st' := [.inl l1]) (h1 := hp L s c e) rfl ?_
    refine RuP.step (pc' := 4) (ls' := [some (.inr (.inr (some 84))), some (.inl l1), d2, d3]) (st' := [.inr (.inr (some 84)), .inl l1]) (h1 := hp L s c e) rfl ?_
    refine RuP.step (pc' := 7) (ls' := [some (.inr (.inr (some 84))), some (.inl l1), d2, d3]) (st' := [.inl (s 84 19), .inl l1]) (h1 := hp L s c e) rfl ?_
    by_cases h0 : s 84 19 ≤ l1
    · rw [if_pos h0] at h
      refine RuP.jy rfl h0 ?_
      exact bl_211_145 _ _ _ _ _ h
    · rw [if_neg h0] at h
      refine RuP.jn rfl h0 ?_
      refine RuP.step (pc' := 11) (ls' := [some (.inr (.inr (some 84))), some (.inl l1), d2, d3]) (st' := [.inr (.inr (some 84))]) (h1 := hp L s c e) rfl ?_
      refine RuP.step (pc' := 12) (ls' := [some (.inr (.inr (some 84))), some (.inl l1), d2, d3]) (st' := [.inr (.inr (some 84)), .inr (.inr (some 84))]) (h1 := hp L s c e) rfl ?_
      refine RuP.step (pc' := 15) (ls' := [some (.inr (.inr (some 84))), some (.inl l1), d2, d3]) (st' := [.inr (.inr (some 95)), .inr (.inr (some 84))]) (h1 := hp L s c e) rfl ?_
      refine RuP.step (pc' := 16) (ls' := [some (.inr (.inr (some 84))), some (.inl l1), d2, d3]) (st' := [.inl l1, .inr (.inr (some 95)), .inr (.inr (some 84))]) (h1 := hp L s c e) rfl ?_
      obtain ⟨b1, h⟩ := gd_some h
      refine RuP.ald (f := fun t => t == 0) (j := l1) (a := 95) rfl rfl b1.1 b1.2 ?_
      obtain ⟨q4, h1, h⟩ := bd_some h
      refine RuP.cI rfl ((ev_238 h1).up (by decide)) ?_
      refine RuP.step (pc' := 21) (ls' := [some (.inr (.inr (some 84))), some (.inl l1), d2, d3]) (st' := [.inl l1, .inl q4]) (h1 := hp L s c e) rfl ?_
      by_cases h2 : l1 ≤ q4
      · rw [if_pos h2] at h
        refine RuP.jy rfl h2 ?_
        exact bl_211_39 ih _ _ _ _ _ h
      · rw [if_neg h2] at h
        refine RuP.jn rfl h2 ?_
        refine RuP.step (pc' := 25) (ls' := [some (.inr (.inr (some 84))), some (.inl l1), d2, d3]) (st' := [.inr (.inr (some 84))]) (h1 := hp L s c e) rfl ?_
        refine RuP.step (pc' := 26) (ls' := [some (.inr (.inr (some 84))), some (.inl l1), d2, d3]) (st' := [.inr (.inr (some 84)), .inr (.inr (some 84))]) (h1 := hp L s c e) rfl ?_
        refine RuP.step (pc' := 29) (ls' := [some (.inr (.inr (some 84))), some (.inl l1), d2, d3]) (st' := [.inr (.inr (some 89)), .inr (.inr (some 84))]) (h1 := hp L s c e) rfl ?_
        refine RuP.step (pc' := 30) (ls' := [some (.inr (.inr (some 84))), some (.inl l1), d2, d3]) (st' := [.inr (.inr (some 84)), .inr (.inr (some 89)), .inr (.inr (some 84))]) (h1 := hp L s c e) rfl ?_
        refine RuP.step (pc' := 33) (ls' := [some (.inr (.inr (some 84))), some (.inl l1), d2, d3]) (st' := [.inr (.inr (some 95)), .inr (.inr (some 89)), .inr (.inr (some 84))]) (h1 := hp L s c e) rfl ?_
        refine RuP.step (pc' := 34) (ls' := [some (.inr (.inr (some 84))), some (.inl l1), d2, d3]) (st' := [.inl l1, .inr (.inr (some 95)), .inr (.inr (some 89)), .inr (.inr (some 84))]) (h1 := hp L s c e) rfl ?_
        obtain ⟨b3, h⟩ := gd_some h
        refine RuP.ald (f := fun t => t == 0) (j := l1) (a := 95) rfl rfl b3.1 b3.2 ?_
        obtain ⟨b4, h⟩ := gd_some h
        refine RuP.ald (f := fun t => t == 0) (j := s 95 l1.toNat) (a := 89) rfl rfl b4.1 b4.2 ?_
        obtain ⟨q7, h1, h⟩ := bd_some h
        refine RuP.cVe h1 rfl (EvP.v ((ev_235 (s 89 ((s 95 l1.toNat).toNat))).up (by decide))) ?_
        exact bl_211_39 ih _ _ _ _ _ h
noncomputable def f_211 (s : Sg) : Option Sg :=
  j_211_2 FU 0 s
theorem ev_211 {L c : Nat} {e : Nat → Nat} {s : Sg} {q : Sg} (h : f_211 s = some q) : EvP 3 211 [.inr (.inr (some 84))] (hp L s c e) (oV L c e q) := by
  unfold f_211 at h
  refine EvP.of (μ := tb_m211) (ls := [some (.inr (.inr (some 84))), none, none, none]) rfl (Nat.le_of_ble_eq_true rfl) rfl ?_
  refine RuP.step (pc' := 1) (ls' := [some (.inr (.inr (some 84))), none, none, none]) (st' := [.inl 0]) (h1 := hp L s c e) rfl ?_
  refine RuP.step (pc' := 2) (ls' := [some (.inr (.inr (some 84))), some (.inl 0), none, none]) (st' := []) (h1 := hp L s c e) rfl ?_
  exact bl_211_2 FU _ _ _ _ _ h
/-- MachineTextModel.checkUnknown()V -/
noncomputable def j_212_155 (s : Sg) : Option Sg :=
  ((f_237 6 s).bind fun q1 =>
  some q1)
theorem bl_212_155 {L c : Nat} {e : Nat → Nat} : ∀ (z1 : Int) (s : Sg) (q : Sg), j_212_155 s = some q → RuP 2 tb_m212 155 [some (.inr (.inr (some 84))), some (.inl z1)] [] (hp L s c e) (oV L c e q) := by
  intro z1 s q h
  unfold j_212_155 at h
  refine RuP.step (pc' := 156) (ls' := [some (.inr (.inr (some 84))), some (.inl z1)]) (st' := [.inr (.inr (some 84))]) (h1 := hp L s c e) rfl ?_
  refine RuP.step (pc' := 158) (ls' := [some (.inr (.inr (some 84))), some (.inl z1)]) (st' := [.inl 6, .inr (.inr (some 84))]) (h1 := hp L s c e) rfl ?_
  obtain ⟨q1, h1, h⟩ := bd_some h
  refine RuP.cV rfl ((ev_237 h1).up (by decide)) ?_
  cases h
  exact RuP.dV rfl
noncomputable def j_212_149 (k79 : (Int → Sg → Option Sg)) (l1 : Int) (s : Sg) : Option Sg :=
  k79 (ax_w32 (l1 + 1)) s
theorem bl_212_149 {L c : Nat} {e : Nat → Nat} {k79 : (Int → Sg → Option Sg)} (hk79 : ∀ (l1 : Int) (s : Sg) (q : Sg), k79 l1 s = some q → RuP 2 tb_m212 79 [some (.inr (.inr (some 84))), some (.inl l1)] [] (hp L s c e) (oV L c e q)) : ∀ (l1 : Int) (s : Sg) (q : Sg), j_212_149 k79 l1 s = some q → RuP 2 tb_m212 149 [some (.inr (.inr (some 84))), some (.inl l1)] [] (hp L s c e) (oV L c e q) := by
  intro l1 s q h
  unfold j_212_149 at h
  refine RuP.step (pc' := 152) (ls' := [some (.inr (.inr (some 84))), some (.inl (ax_w32 (l1 + 1)))]) (st' := []) (h1 := hp L s c e) rfl ?_
  refine RuP.step (pc' := 79) (ls' := [some (.inr (.inr (some 84))), some (.inl (ax_w32 (l1 + 1)))]) (st' := []) (h1 := hp L s c e) rfl ?_
  exact hk79 _ _ _ h
noncomputable def j_212_79 : Nat → Int → Sg → Option Sg
  | 0, _, _ => none
  | F + 1, l1, s =>
    (if s 84 34 ≤ l1 then
      j_212_155 s
    else
      (gd (0 ≤ l1 ∧ l1 < 8200) (
      (if ¬ (s 106 l1.toNat) = 0 then
        j_212_149 (j_212_79 F) l1 s
      else
        (gd (0 ≤ l1 ∧ l1 < 8200) (
        (gd (0 ≤ l1 ∧ l1 < 8200) (
        (gd (0 ≤ l1 ∧ l1 < 8200) (
        ((f_240 (s 112 l1.toNat) (s 113 l1.toNat) (s 107 l1.toNat) s).bind fun q2 =>
        (if ¬ q2 = 0 then
          j_212_149 (j_212_79 F) l1 s
        else
          (gd (0 ≤ l1 ∧ l1 < 8200) (
          ((f_238 (s 107 l1.toNat) s).bind fun q3 =>
          (if 0 ≤ q3 then
            j_212_149 (j_212_79 F) l1 s
          else
            (gd (0 ≤ l1 ∧ l1 < 8200) (
            (gd (0 ≤ s 107 l1.toNat ∧ s 107 l1.toNat < 8200) (
            ((some (f_235 (s 89 ((s 107 l1.toNat).toNat)) s)).bind fun q4 =>
            j_212_149 (j_212_79 F) l1 q4)))))))))))))))))))))
theorem bl_212_79 {L c : Nat} {e : Nat → Nat} : ∀ (F : Nat) (l1 : Int) (s : Sg) (q : Sg), j_212_79 F l1 s = some q → RuP 2 tb_m212 79 [some (.inr (.inr (some 84))), some (.inl l1)] [] (hp L s c e) (oV L c e q) := by
  intro F
  induction F with
  | zero =>
    intro l1 s q h
    rw [j_212_79] at h
    cases h
  | succ F ih =>
    intro l1 s q h
    rw [j_212_79] at h
    refine RuP.step (pc' := 80) (ls' := [some (.inr (.inr (some 84))), some (.inl l1)]) (st' := [.inl l1]) (h1 := hp L s c e) rfl ?_
    refine RuP.step (pc' := 81) (ls' := [some (.inr (.inr (some 84))), some (.inl l1)]) (st' := [.inr (.inr (some 84)), .inl l1]) (h1 := hp L s c e) rfl ?_
    refine RuP.step (pc' := 84) (ls' := [some (.inr (.inr (some 84))), some (.inl l1)]) (st' := [.inl (s 84 34), .inl l1]) (h1 := hp L s c e) rfl ?_
    by_cases h0 : s 84 34 ≤ l1
    · rw [if_pos h0] at h
      refine RuP.jy rfl h0 ?_
      exact bl_212_155 _ _ _ h
    · rw [if_neg h0] at h
      refine RuP.jn rfl h0 ?_
      refine RuP.step (pc' := 88) (ls' := [some (.inr (.inr (some 84))), some (.inl l1)]) (st' := [.inr (.inr (some 84))]) (h1 := hp L s c e) rfl ?_
      refine RuP.step (pc' := 91) (ls' := [some (.inr (.inr (some 84))), some (.inl l1)]) (st' := [.inr (.inr (some 106))]) (h1 := hp L s c e) rfl ?_
      refine RuP.step (pc' := 92) (ls' := [some (.inr (.inr (some 84))), some (.inl l1)]) (st' := [.inl l1, .inr (.inr (some 106))]) (h1 := hp L s c e) rfl ?_
      obtain ⟨b1, h⟩ := gd_some h
      refine RuP.ald (f := fun t => t == 0) (j := l1) (a := 106) rfl rfl b1.1 b1.2 ?_
      by_cases h2 : ¬ (s 106 l1.toNat) = 0
      · rw [if_pos h2] at h
        refine RuP.jy rfl h2 ?_
        exact bl_212_149 ih _ _ _ h
      · rw [if_neg h2] at h
        refine RuP.jn rfl h2 ?_
        refine RuP.step (pc' := 97) (ls' := [some (.inr (.inr (some 84))), some (.inl l1)]) (st' := [.inr (.inr (some 84))]) (h1 := hp L s c e) rfl ?_
        refine RuP.step (pc' := 98) (ls' := [some (.inr (.inr (some 84))), some (.inl l1)]) (st' := [.inr (.inr (some 84)), .inr (.inr (some 84))]) (h1 := hp L s c e) rfl ?_
        refine RuP.step (pc' := 101) (ls' := [some (.inr (.inr (some 84))), some (.inl l1)]) (st' := [.inr (.inr (some 112)), .inr (.inr (some 84))]) (h1 := hp L s c e) rfl ?_
        refine RuP.step (pc' := 102) (ls' := [some (.inr (.inr (some 84))), some (.inl l1)]) (st' := [.inl l1, .inr (.inr (some 112)), .inr (.inr (some 84))]) (h1 := hp L s c e) rfl ?_
        obtain ⟨b3, h⟩ := gd_some h
        refine RuP.ald (f := fun t => t == 0) (j := l1) (a := 112) rfl rfl b3.1 b3.2 ?_
        refine RuP.step (pc' := 104) (ls' := [some (.inr (.inr (some 84))), some (.inl l1)]) (st' := [.inr (.inr (some 84)), .inl (s 112 l1.toNat), .inr (.inr (some 84))]) (h1 := hp L s c e) rfl ?_
        refine RuP.step (pc' := 107) (ls' := [some (.inr (.inr (some 84))), some (.inl l1)]) (st' := [.inr (.inr (some 113)), .inl (s 112 l1.toNat), .inr (.inr (some 84))]) (h1 := hp L s c e) rfl ?_
        refine RuP.step (pc' := 108) (ls' := [some (.inr (.inr (some 84))), some (.inl l1)]) (st' := [.inl l1, .inr (.inr (some 113)), .inl (s 112 l1.toNat), .inr (.inr (some 84))]) (h1 := hp L s c e) rfl ?_
        obtain ⟨b4, h⟩ := gd_some h
        refine RuP.ald (f := fun t => t == 0) (j := l1) (a := 113) rfl rfl b4.1 b4.2 ?_
        refine RuP.step (pc' := 110) (ls' := [some (.inr (.inr (some 84))), some (.inl l1)]) (st' := [.inr (.inr (some 84)), .inl (s 113 l1.toNat), .inl (s 112 l1.toNat), .inr (.inr (some 84))]) (h1 := hp L s c e) rfl ?_
        refine RuP.step (pc' := 113) (ls' := [some (.inr (.inr (some 84))), some (.inl l1)]) (st' := [.inr (.inr (some 107)), .inl (s 113 l1.toNat), .inl (s 112 l1.toNat), .inr (.inr (some 84))]) (h1 := hp L s c e) rfl ?_
        refine RuP.step (pc' := 114) (ls' := [some (.inr (.inr (some 84))), some (.inl l1)]) (st' := [.inl l1, .inr (.inr (some 107)), .inl (s 113 l1.toNat), .inl (s 112 l1.toNat), .inr (.inr (some 84))]) (h1 := hp L s c e) rfl ?_
        obtain ⟨b5, h⟩ := gd_some h
        refine RuP.ald (f := fun t => t == 0) (j := l1) (a := 107) rfl rfl b5.1 b5.2 ?_
        obtain ⟨q2, h1, h⟩ := bd_some h
        refine RuP.cI rfl ((ev_240 h1).up (by decide)) ?_
        by_cases h6 : ¬ q2 = 0
        · rw [if_pos h6] at h
          refine RuP.jy rfl h6 ?_
          exact bl_212_149 ih _ _ _ h
        · rw [if_neg h6] at h
          refine RuP.jn rfl h6 ?_
          refine RuP.step (pc' := 122) (ls' := [some (.inr (.inr (some 84))), some (.inl l1)]) (st' := [.inr (.inr (some 84))]) (h1 := hp L s c e) rfl ?_
          refine RuP.step (pc' := 123) (ls' := [some (.inr (.inr (some 84))), some (.inl l1)]) (st' := [.inr (.inr (some 84)), .inr (.inr (some 84))]) (h1 := hp L s c e) rfl ?_
          refine RuP.step (pc' := 126) (ls' := [some (.inr (.inr (some 84))), some (.inl l1)]) (st' := [.inr (.inr (some 107)), .inr (.inr (some 84))]) (h1 := hp L s c e) rfl ?_
          refine RuP.step (pc' := 127) (ls' := [some (.inr (.inr (some 84))), some (.inl l1)]) (st' := [.inl l1, .inr (.inr (some 107)), .inr (.inr (some 84))]) (h1 := hp L s c e) rfl ?_
          obtain ⟨b7, h⟩ := gd_some h
          refine RuP.ald (f := fun t => t == 0) (j := l1) (a := 107) rfl rfl b7.1 b7.2 ?_
          obtain ⟨q3, h1, h⟩ := bd_some h
          refine RuP.cI rfl ((ev_238 h1).up (by decide)) ?_
          by_cases h8 : 0 ≤ q3
          · rw [if_pos h8] at h
            refine RuP.jy rfl h8 ?_
            exact bl_212_149 ih _ _ _ h
          · rw [if_neg h8] at h
            refine RuP.jn rfl h8 ?_
            refine RuP.step (pc' := 135) (ls' := [some (.inr (.inr (some 84))), some (.inl l1)]) (st' := [.inr (.inr (some 84))]) (h1 := hp L s c e) rfl ?_
            refine RuP.step (pc' := 136) (ls' := [some (.inr (.inr (some 84))), some (.inl l1)]) (st' := [.inr (.inr (some 84)), .inr (.inr (some 84))]) (h1 := hp L s c e) rfl ?_
            refine RuP.step (pc' := 139) (ls' := [some (.inr (.inr (some 84))), some (.inl l1)]) (st' := [.inr (.inr (some 89)), .inr (.inr (some 84))]) (h1 := hp L s c e) rfl ?_
            refine RuP.step (pc' := 140) (ls' := [some (.inr (.inr (some 84))), some (.inl l1)]) (st' := [.inr (.inr (some 84)), .inr (.inr (some 89)), .inr (.inr (some 84))]) (h1 := hp L s c e) rfl ?_
            refine RuP.step (pc' := 143) (ls' := [some (.inr (.inr (some 84))), some (.inl l1)]) (st' := [.inr (.inr (some 107)), .inr (.inr (some 89)), .inr (.inr (some 84))]) (h1 := hp L s c e) rfl ?_
            refine RuP.step (pc' := 144) (ls' := [some (.inr (.inr (some 84))), some (.inl l1)]) (st' := [.inl l1, .inr (.inr (some 107)), .inr (.inr (some 89)), .inr (.inr (some 84))]) (h1 := hp L s c e) rfl ?_
            obtain ⟨b9, h⟩ := gd_some h
            refine RuP.ald (f := fun t => t == 0) (j := l1) (a := 107) rfl rfl b9.1 b9.2 ?_
            obtain ⟨b10, h⟩ := gd_some h
            refine RuP.ald (f := fun t => t == 0) (j := s 107 l1.toNat) (a := 89) rfl rfl b10.1 b10.2 ?_
            obtain ⟨q4, h1, h⟩ := bd_some h
            refine RuP.cVe h1 rfl (EvP.v ((ev_235 (s 89 ((s 107 l1.toNat).toNat))).up (by decide))) ?_
            exact bl_212_149 ih _ _ _ h
noncomputable def j_212_77 (s : Sg) : Option Sg :=
  j_212_79 FU 0 s
theorem bl_212_77 {L c : Nat} {e : Nat → Nat} : ∀ (z1 : Int) (s : Sg) (q : Sg), j_212_77 s = some q → RuP 2 tb_m212 77 [some (.inr (.inr (some 84))), some (.inl z1)] [] (hp L s c e) (oV L c e q) := by
  intro z1 s q h
  unfold j_212_77 at h
  refine RuP.step (pc' := 78) (ls' := [some (.inr (.inr (some 84))), some (.inl z1)]) (st' := [.inl 0]) (h1 := hp L s c e) rfl ?_
  refine RuP.step (pc' := 79) (ls' := [some (.inr (.inr (some 84))), some (.inl 0)]) (st' := []) (h1 := hp L s c e) rfl ?_
  exact bl_212_79 FU _ _ _ h
noncomputable def j_212_71 (k2 : (Int → Sg → Option Sg)) (l1 : Int) (s : Sg) : Option Sg :=
  k2 (ax_w32 (l1 + 1)) s
theorem bl_212_71 {L c : Nat} {e : Nat → Nat} {k2 : (Int → Sg → Option Sg)} (hk2 : ∀ (l1 : Int) (s : Sg) (q : Sg), k2 l1 s = some q → RuP 2 tb_m212 2 [some (.inr (.inr (some 84))), some (.inl l1)] [] (hp L s c e) (oV L c e q)) : ∀ (l1 : Int) (s : Sg) (q : Sg), j_212_71 k2 l1 s = some q → RuP 2 tb_m212 71 [some (.inr (.inr (some 84))), some (.inl l1)] [] (hp L s c e) (oV L c e q) := by
  intro l1 s q h
  unfold j_212_71 at h
  refine RuP.step (pc' := 74) (ls' := [some (.inr (.inr (some 84))), some (.inl (ax_w32 (l1 + 1)))]) (st' := []) (h1 := hp L s c e) rfl ?_
  refine RuP.step (pc' := 2) (ls' := [some (.inr (.inr (some 84))), some (.inl (ax_w32 (l1 + 1)))]) (st' := []) (h1 := hp L s c e) rfl ?_
  exact hk2 _ _ _ h
noncomputable def j_212_2 : Nat → Int → Sg → Option Sg
  | 0, _, _ => none
  | F + 1, l1, s =>
    (if s 84 47 ≤ l1 then
      j_212_77 s
    else
      (gd (g_241 l1 s) (
      (if f_241 l1 s = 0 then
        j_212_71 (j_212_2 F) l1 s
      else
        (gd (0 ≤ l1 ∧ l1 < 8200) (
        (gd (0 ≤ l1 ∧ l1 < 8200) (
        (gd (0 ≤ l1 ∧ l1 < 8200) (
        ((f_240 (s 123 l1.toNat) (s 124 l1.toNat) (s 118 l1.toNat) s).bind fun q5 =>
        (if ¬ q5 = 0 then
          j_212_71 (j_212_2 F) l1 s
        else
          (gd (0 ≤ l1 ∧ l1 < 8200) (
          ((f_238 (s 118 l1.toNat) s).bind fun q6 =>
          (if 0 ≤ q6 then
            j_212_71 (j_212_2 F) l1 s
          else
            (gd (0 ≤ l1 ∧ l1 < 8200) (
            (gd (0 ≤ s 118 l1.toNat ∧ s 118 l1.toNat < 8200) (
            ((some (f_235 (s 89 ((s 118 l1.toNat).toNat)) s)).bind fun q7 =>
            j_212_71 (j_212_2 F) l1 q7)))))))))))))))))))))
theorem bl_212_2 {L c : Nat} {e : Nat → Nat} : ∀ (F : Nat) (l1 : Int) (s : Sg) (q : Sg), j_212_2 F l1 s = some q → RuP 2 tb_m212 2 [some (.inr (.inr (some 84))), some (.inl l1)] [] (hp L s c e) (oV L c e q) := by
  intro F
  induction F with
  | zero =>
    intro l1 s q h
    rw [j_212_2] at h
    cases h
  | succ F ih =>
    intro l1 s q h
    rw [j_212_2] at h
    refine RuP.step (pc' := 3) (ls' := [some (.inr (.inr (some 84))), some (.inl l1)]) (st' := [.inl l1]) (h1 := hp L s c e) rfl ?_
    refine RuP.step (pc' := 4) (ls' := [some (.inr (.inr (some 84))), some (.inl l1)]) (st' := [.inr (.inr (some 84)), .inl l1]) (h1 := hp L s c e) rfl ?_
    refine RuP.step (pc' := 7) (ls' := [some (.inr (.inr (some 84))), some (.inl l1)]) (st' := [.inl (s 84 47), .inl l1]) (h1 := hp L s c e) rfl ?_
    by_cases h0 : s 84 47 ≤ l1
    · rw [if_pos h0] at h
      refine RuP.jy rfl h0 ?_
      exact bl_212_77 _ _ _ h
    · rw [if_neg h0] at h
      refine RuP.jn rfl h0 ?_
      refine RuP.step (pc' := 11) (ls' := [some (.inr (.inr (some 84))), some (.inl l1)]) (st' := [.inr (.inr (some 84))]) (h1 := hp L s c e) rfl ?_
      refine RuP.step (pc' := 12) (ls' := [some (.inr (.inr (some 84))), some (.inl l1)]) (st' := [.inl l1, .inr (.inr (some 84))]) (h1 := hp L s c e) rfl ?_
      obtain ⟨b1, h⟩ := gd_some h
      refine RuP.cI rfl (EvP.i ((ev_241 l1 b1).up (by decide))) ?_
      by_cases h2 : f_241 l1 s = 0
      · rw [if_pos h2] at h
        refine RuP.jy rfl h2 ?_
        exact bl_212_71 ih _ _ _ h
      · rw [if_neg h2] at h
        refine RuP.jn rfl h2 ?_
        refine RuP.step (pc' := 19) (ls' := [some (.inr (.inr (some 84))), some (.inl l1)]) (st' := [.inr (.inr (some 84))]) (h1 := hp L s c e) rfl ?_
        refine RuP.step (pc' := 20) (ls' := [some (.inr (.inr (some 84))), some (.inl l1)]) (st' := [.inr (.inr (some 84)), .inr (.inr (some 84))]) (h1 := hp L s c e) rfl ?_
        refine RuP.step (pc' := 23) (ls' := [some (.inr (.inr (some 84))), some (.inl l1)]) (st' := [.inr (.inr (some 123)), .inr (.inr (some 84))]) (h1 := hp L s c e) rfl ?_
        refine RuP.step (pc' := 24) (ls' := [some (.inr (.inr (some 84))), some (.inl l1)]) (st' := [.inl l1, .inr (.inr (some 123)), .inr (.inr (some 84))]) (h1 := hp L s c e) rfl ?_
        obtain ⟨b3, h⟩ := gd_some h
        refine RuP.ald (f := fun t => t == 0) (j := l1) (a := 123) rfl rfl b3.1 b3.2 ?_
        refine RuP.step (pc' := 26) (ls' := [some (.inr (.inr (some 84))), some (.inl l1)]) (st' := [.inr (.inr (some 84)), .inl (s 123 l1.toNat), .inr (.inr (some 84))]) (h1 := hp L s c e) rfl ?_
        refine RuP.step (pc' := 29) (ls' := [some (.inr (.inr (some 84))), some (.inl l1)]) (st' := [.inr (.inr (some 124)), .inl (s 123 l1.toNat), .inr (.inr (some 84))]) (h1 := hp L s c e) rfl ?_
        refine RuP.step (pc' := 30) (ls' := [some (.inr (.inr (some 84))), some (.inl l1)]) (st' := [.inl l1, .inr (.inr (some 124)), .inl (s 123 l1.toNat), .inr (.inr (some 84))]) (h1 := hp L s c e) rfl ?_
        obtain ⟨b4, h⟩ := gd_some h
        refine RuP.ald (f := fun t => t == 0) (j := l1) (a := 124) rfl rfl b4.1 b4.2 ?_
        refine RuP.step (pc' := 32) (ls' := [some (.inr (.inr (some 84))), some (.inl l1)]) (st' := [.inr (.inr (some 84)), .inl (s 124 l1.toNat), .inl (s 123 l1.toNat), .inr (.inr (some 84))]) (h1 := hp L s c e) rfl ?_
        refine RuP.step (pc' := 35) (ls' := [some (.inr (.inr (some 84))), some (.inl l1)]) (st' := [.inr (.inr (some 118)), .inl (s 124 l1.toNat), .inl (s 123 l1.toNat), .inr (.inr (some 84))]) (h1 := hp L s c e) rfl ?_
        refine RuP.step (pc' := 36) (ls' := [some (.inr (.inr (some 84))), some (.inl l1)]) (st' := [.inl l1, .inr (.inr (some 118)), .inl (s 124 l1.toNat), .inl (s 123 l1.toNat), .inr (.inr (some 84))]) (h1 := hp L s c e) rfl ?_
        obtain ⟨b5, h⟩ := gd_some h
        refine RuP.ald (f := fun t => t == 0) (j := l1) (a := 118) rfl rfl b5.1 b5.2 ?_
        obtain ⟨q5, h1, h⟩ := bd_some h
        refine RuP.cI rfl ((ev_240 h1).up (by decide)) ?_
        by_cases h6 : ¬ q5 = 0
        · rw [if_pos h6] at h
          refine RuP.jy rfl h6 ?_
          exact bl_212_71 ih _ _ _ h
        · rw [if_neg h6] at h
          refine RuP.jn rfl h6 ?_
          refine RuP.step (pc' := 44) (ls' := [some (.inr (.inr (some 84))), some (.inl l1)]) (st' := [.inr (.inr (some 84))]) (h1 := hp L s c e) rfl ?_
          refine RuP.step (pc' := 45) (ls' := [some (.inr (.inr (some 84))), some (.inl l1)]) (st' := [.inr (.inr (some 84)), .inr (.inr (some 84))]) (h1 := hp L s c e) rfl ?_
          refine RuP.step (pc' := 48) (ls' := [some (.inr (.inr (some 84))), some (.inl l1)]) (st' := [.inr (.inr (some 118)), .inr (.inr (some 84))]) (h1 := hp L s c e) rfl ?_
          refine RuP.step (pc' := 49) (ls' := [some (.inr (.inr (some 84))), some (.inl l1)]) (st' := [.inl l1, .inr (.inr (some 118)), .inr (.inr (some 84))]) (h1 := hp L s c e) rfl ?_
          obtain ⟨b7, h⟩ := gd_some h
          refine RuP.ald (f := fun t => t == 0) (j := l1) (a := 118) rfl rfl b7.1 b7.2 ?_
          obtain ⟨q6, h1, h⟩ := bd_some h
          refine RuP.cI rfl ((ev_238 h1).up (by decide)) ?_
          by_cases h8 : 0 ≤ q6
          · rw [if_pos h8] at h
            refine RuP.jy rfl h8 ?_
            exact bl_212_71 ih _ _ _ h
          · rw [if_neg h8] at h
            refine RuP.jn rfl h8 ?_
            refine RuP.step (pc' := 57) (ls' := [some (.inr (.inr (some 84))), some (.inl l1)]) (st' := [.inr (.inr (some 84))]) (h1 := hp L s c e) rfl ?_
            refine RuP.step (pc' := 58) (ls' := [some (.inr (.inr (some 84))), some (.inl l1)]) (st' := [.inr (.inr (some 84)), .inr (.inr (some 84))]) (h1 := hp L s c e) rfl ?_
            refine RuP.step (pc' := 61) (ls' := [some (.inr (.inr (some 84))), some (.inl l1)]) (st' := [.inr (.inr (some 89)), .inr (.inr (some 84))]) (h1 := hp L s c e) rfl ?_
            refine RuP.step (pc' := 62) (ls' := [some (.inr (.inr (some 84))), some (.inl l1)]) (st' := [.inr (.inr (some 84)), .inr (.inr (some 89)), .inr (.inr (some 84))]) (h1 := hp L s c e) rfl ?_
            refine RuP.step (pc' := 65) (ls' := [some (.inr (.inr (some 84))), some (.inl l1)]) (st' := [.inr (.inr (some 118)), .inr (.inr (some 89)), .inr (.inr (some 84))]) (h1 := hp L s c e) rfl ?_
            refine RuP.step (pc' := 66) (ls' := [some (.inr (.inr (some 84))), some (.inl l1)]) (st' := [.inl l1, .inr (.inr (some 118)), .inr (.inr (some 89)), .inr (.inr (some 84))]) (h1 := hp L s c e) rfl ?_
            obtain ⟨b9, h⟩ := gd_some h
            refine RuP.ald (f := fun t => t == 0) (j := l1) (a := 118) rfl rfl b9.1 b9.2 ?_
            obtain ⟨b10, h⟩ := gd_some h
            refine RuP.ald (f := fun t => t == 0) (j := s 118 l1.toNat) (a := 89) rfl rfl b10.1 b10.2 ?_
            obtain ⟨q7, h1, h⟩ := bd_some h
            refine RuP.cVe h1 rfl (EvP.v ((ev_235 (s 89 ((s 118 l1.toNat).toNat))).up (by decide))) ?_
            exact bl_212_71 ih _ _ _ h
noncomputable def f_212 (s : Sg) : Option Sg :=
  j_212_2 FU 0 s
theorem ev_212 {L c : Nat} {e : Nat → Nat} {s : Sg} {q : Sg} (h : f_212 s = some q) : EvP 3 212 [.inr (.inr (some 84))] (hp L s c e) (oV L c e q) := by
  unfold f_212 at h
  refine EvP.of (μ := tb_m212) (ls := [some (.inr (.inr (some 84))), none]) rfl (Nat.le_of_ble_eq_true rfl) rfl ?_
  refine RuP.step (pc' := 1) (ls' := [some (.inr (.inr (some 84))), none]) (st' := [.inl 0]) (h1 := hp L s c e) rfl ?_
  refine RuP.step (pc' := 2) (ls' := [some (.inr (.inr (some 84))), some (.inl 0)]) (st' := []) (h1 := hp L s c e) rfl ?_
  exact bl_212_2 FU _ _ _ h
/-- MachineTextModel.checkMeaning()V -/
noncomputable def j_213_290 (s : Sg) : Option Sg :=
  ((f_237 7 s).bind fun q1 =>
  some q1)
set_option maxRecDepth 20000 in
theorem bl_213_290 {L c : Nat} {e : Nat → Nat} : ∀ (d2 d3 d4 : Option ax_V) (z1 : Int) (s : Sg) (q : Sg), j_213_290 s = some q → RuP 2 tb_m213 290 [some (.inr (.inr (some 84))), some (.inl z1), d2, d3, d4] [] (hp L s c e) (oV L c e q) := by
  intro d2 d3 d4 z1 s q h
  unfold j_213_290 at h
  refine RuP.step (pc' := 291) (ls' := [some (.inr (.inr (some 84))), some (.inl z1), d2, d3, d4]) (st' := [.inr (.inr (some 84))]) (h1 := hp L s c e) rfl ?_
  refine RuP.step (pc' := 293) (ls' := [some (.inr (.inr (some 84))), some (.inl z1), d2, d3, d4]) (st' := [.inl 7, .inr (.inr (some 84))]) (h1 := hp L s c e) rfl ?_
  obtain ⟨q1, h1, h⟩ := bd_some h
  refine RuP.cV rfl ((ev_237 h1).up (by decide)) ?_
  cases h
  exact RuP.dV rfl
noncomputable def j_213_284 (k178 : (Int → Sg → Option Sg)) (l1 : Int) (s : Sg) : Option Sg :=
  k178 (ax_w32 (l1 + 1)) s
set_option maxRecDepth 20000 in
theorem bl_213_284 {L c : Nat} {e : Nat → Nat} {k178 : (Int → Sg → Option Sg)} (hk178 : ∀ (d2 d3 d4 : Option ax_V) (l1 : Int) (s : Sg) (q : Sg), k178 l1 s = some q → RuP 2 tb_m213 178 [some (.inr (.inr (some 84))), some (.inl l1), d2, d3, d4] [] (hp L s c e) (oV L c e q)) : ∀ (d2 d3 d4 : Option ax_V) (l1 : Int) (s : Sg) (q : Sg), j_213_284 k178 l1 s = some q → RuP 2 tb_m213 284 [some (.inr (.inr (some 84))), some (.inl l1), d2, d3, d4] [] (hp L s c e) (oV L c e q) := by
  intro d2 d3 d4 l1 s q h
  unfold j_213_284 at h
  refine RuP.step (pc' := 287) (ls' := [some (.inr (.inr (some 84))), some (.inl (ax_w32 (l1 + 1))), d2, d3, d4]) (st' := []) (h1 := hp L s c e) rfl ?_
  refine RuP.step (pc' := 178) (ls' := [some (.inr (.inr (some 84))), some (.inl (ax_w32 (l1 + 1))), d2, d3, d4]) (st' := []) (h1 := hp L s c e) rfl ?_
  exact hk178 _ _ _ _ _ _ h
noncomputable def j_213_269 (k178 : (Int → Sg → Option Sg)) (l1 : Int) (s : Sg) : Option Sg :=
  (gd (0 ≤ l1 ∧ l1 < 8200) (
  (gd (0 ≤ s 107 l1.toNat ∧ s 107 l1.toNat < 8200) (
  ((some (f_235 (s 89 ((s 107 l1.toNat).toNat)) s)).bind fun q4 =>
  j_213_284 k178 l1 q4)))))
set_option maxRecDepth 20000 in
theorem bl_213_269 {L c : Nat} {e : Nat → Nat} {k178 : (Int → Sg → Option Sg)} (hk178 : ∀ (d2 d3 d4 : Option ax_V) (l1 : Int) (s : Sg) (q : Sg), k178 l1 s = some q → RuP 2 tb_m213 178 [some (.inr (.inr (some 84))), some (.inl l1), d2, d3, d4] [] (hp L s c e) (oV L c e q)) : ∀ (d4 : Option ax_V) (z2 z3 : Int) (l1 : Int) (s : Sg) (q : Sg), j_213_269 k178 l1 s = some q → RuP 2 tb_m213 269 [some (.inr (.inr (some 84))), some (.inl l1), some (.inl z2), some (.inl z3), d4] [] (hp L s c e) (oV L c e q) := by
  intro d4 z2 z3 l1 s q h
  unfold j_213_269 at h
  refine RuP.step (pc' := 270) (ls' := [some (.inr (.inr (some 84))), some (.inl l1), some (.inl z2), some (.inl z3), d4]) (st' := [.inr (.inr (some 84))]) (h1 := hp L s c e) rfl ?_
  refine RuP.step (pc' := 271) (ls' := [some (.inr (.inr (some 84))), some (.inl l1), some (.inl z2), some (.inl z3), d4]) (st' := [.inr (.inr (some 84)), .inr (.inr (some 84))]) (h1 := hp L s c e) rfl ?_
  refine RuP.step (pc' := 274) (ls' := [some (.inr (.inr (some 84))), some (.inl l1), some (.inl z2), some (.inl z3), d4]) (st' := [.inr (.inr (some 89)), .inr (.inr (some 84))]) (h1 := hp L s c e) rfl ?_
  refine RuP.step (pc' := 275) (ls' := [some (.inr (.inr (some 84))), some (.inl l1), some (.inl z2), some (.inl z3), d4]) (st' := [.inr (.inr (some 84)), .inr (.inr (some 89)), .inr (.inr (some 84))]) (h1 := hp L s c e) rfl ?_
  refine RuP.step (pc' := 278) (ls' := [some (.inr (.inr (some 84))), some (.inl l1), some (.inl z2), some (.inl z3), d4]) (st' := [.inr (.inr (some 107)), .inr (.inr (some 89)), .inr (.inr (some 84))]) (h1 := hp L s c e) rfl ?_
  refine RuP.step (pc' := 279) (ls' := [some (.inr (.inr (some 84))), some (.inl l1), some (.inl z2), some (.inl z3), d4]) (st' := [.inl l1, .inr (.inr (some 107)), .inr (.inr (some 89)), .inr (.inr (some 84))]) (h1 := hp L s c e) rfl ?_
  obtain ⟨b0, h⟩ := gd_some h
  refine RuP.ald (f := fun t => t == 0) (j := l1) (a := 107) rfl rfl b0.1 b0.2 ?_
  obtain ⟨b1, h⟩ := gd_some h
  refine RuP.ald (f := fun t => t == 0) (j := s 107 l1.toNat) (a := 89) rfl rfl b1.1 b1.2 ?_
  obtain ⟨q4, h1, h⟩ := bd_some h
  refine RuP.cVe h1 rfl (EvP.v ((ev_235 (s 89 ((s 107 l1.toNat).toNat))).up (by decide))) ?_
  exact bl_213_284 hk178 _ _ _ _ _ _ h
noncomputable def j_213_236 (k178 : (Int → Sg → Option Sg)) (l1 l2 t0 : Int) (s : Sg) : Option Sg :=
  (if ¬ l2 = 0 then
    j_213_269 k178 l1 s
  else
    (gd (0 ≤ l1 ∧ l1 < 8200) (
    (if 0 ≤ s 109 l1.toNat then
      (gd (g_243 t0 s) (
      (if ¬ (f_243 t0 s) = 0 then
        j_213_284 k178 l1 s
      else
        j_213_269 k178 l1 s)))
    else
      (gd (g_242 t0 s) (
      (if f_242 t0 s = 0 then
        j_213_269 k178 l1 s
      else
        j_213_284 k178 l1 s)))))))
set_option maxRecDepth 20000 in
theorem bl_213_236 {L c : Nat} {e : Nat → Nat} {k178 : (Int → Sg → Option Sg)} (hk178 : ∀ (d2 d3 d4 : Option ax_V) (l1 : Int) (s : Sg) (q : Sg), k178 l1 s = some q → RuP 2 tb_m213 178 [some (.inr (.inr (some 84))), some (.inl l1), d2, d3, d4] [] (hp L s c e) (oV L c e q)) : ∀ (d3 d4 : Option ax_V) (l1 l2 t0 : Int) (s : Sg) (q : Sg), j_213_236 k178 l1 l2 t0 s = some q → RuP 2 tb_m213 236 [some (.inr (.inr (some 84))), some (.inl l1), some (.inl l2), d3, d4] [.inl t0] (hp L s c e) (oV L c e q) := by
  intro d3 d4 l1 l2 t0 s q h
  unfold j_213_236 at h
  refine RuP.step (pc' := 237) (ls' := [some (.inr (.inr (some 84))), some (.inl l1), some (.inl l2), some (.inl t0), d4]) (st' := []) (h1 := hp L s c e) rfl ?_
  refine RuP.step (pc' := 238) (ls' := [some (.inr (.inr (some 84))), some (.inl l1), some (.inl l2), some (.inl t0), d4]) (st' := [.inl l2]) (h1 := hp L s c e) rfl ?_
  by_cases h0 : ¬ l2 = 0
  · rw [if_pos h0] at h
    refine RuP.jy rfl h0 ?_
    exact bl_213_269 hk178 _ _ _ _ _ _ h
  · rw [if_neg h0] at h
    refine RuP.jn rfl h0 ?_
    refine RuP.step (pc' := 242) (ls' := [some (.inr (.inr (some 84))), some (.inl l1), some (.inl l2), some (.inl t0), d4]) (st' := [.inr (.inr (some 84))]) (h1 := hp L s c e) rfl ?_
    refine RuP.step (pc' := 245) (ls' := [some (.inr (.inr (some 84))), some (.inl l1), some (.inl l2), some (.inl t0), d4]) (st' := [.inr (.inr (some 109))]) (h1 := hp L s c e) rfl ?_
    refine RuP.step (pc' := 246) (ls' := [some (.inr (.inr (some 84))), some (.inl l1), some (.inl l2), some (.inl t0), d4]) (st' := [.inl l1, .inr (.inr (some 109))]) (h1 := hp L s c e) rfl ?_
    obtain ⟨b1, h⟩ := gd_some h
    refine RuP.ald (f := fun t => t == 0) (j := l1) (a := 109) rfl rfl b1.1 b1.2 ?_
    by_cases h2 : 0 ≤ s 109 l1.toNat
    · rw [if_pos h2] at h
      refine RuP.jy rfl h2 ?_
      refine RuP.step (pc' := 262) (ls' := [some (.inr (.inr (some 84))), some (.inl l1), some (.inl l2), some (.inl t0), d4]) (st' := [.inr (.inr (some 84))]) (h1 := hp L s c e) rfl ?_
      refine RuP.step (pc' := 263) (ls' := [some (.inr (.inr (some 84))), some (.inl l1), some (.inl l2), some (.inl t0), d4]) (st' := [.inl t0, .inr (.inr (some 84))]) (h1 := hp L s c e) rfl ?_
      obtain ⟨b3, h⟩ := gd_some h
      refine RuP.cI rfl (EvP.i ((ev_243 t0 b3).up (by decide))) ?_
      by_cases h4 : ¬ (f_243 t0 s) = 0
      · rw [if_pos h4] at h
        refine RuP.jy rfl h4 ?_
        exact bl_213_284 hk178 _ _ _ _ _ _ h
      · rw [if_neg h4] at h
        refine RuP.jn rfl h4 ?_
        exact bl_213_269 hk178 _ _ _ _ _ _ h
    · rw [if_neg h2] at h
      refine RuP.jn rfl h2 ?_
      refine RuP.step (pc' := 251) (ls' := [some (.inr (.inr (some 84))), some (.inl l1), some (.inl l2), some (.inl t0), d4]) (st' := [.inr (.inr (some 84))]) (h1 := hp L s c e) rfl ?_
      refine RuP.step (pc' := 252) (ls' := [some (.inr (.inr (some 84))), some (.inl l1), some (.inl l2), some (.inl t0), d4]) (st' := [.inl t0, .inr (.inr (some 84))]) (h1 := hp L s c e) rfl ?_
      obtain ⟨b5, h⟩ := gd_some h
      refine RuP.cI rfl (EvP.i ((ev_242 t0 b5).up (by decide))) ?_
      by_cases h6 : f_242 t0 s = 0
      · rw [if_pos h6] at h
        refine RuP.jy rfl h6 ?_
        exact bl_213_269 hk178 _ _ _ _ _ _ h
      · rw [if_neg h6] at h
        refine RuP.jn rfl h6 ?_
        refine RuP.step (pc' := 284) (ls' := [some (.inr (.inr (some 84))), some (.inl l1), some (.inl l2), some (.inl t0), d4]) (st' := []) (h1 := hp L s c e) rfl ?_
        exact bl_213_284 hk178 _ _ _ _ _ _ h
noncomputable def j_213_178 : Nat → Int → Sg → Option Sg
  | 0, _, _ => none
  | F + 1, l1, s =>
    (if s 84 34 ≤ l1 then
      j_213_290 s
    else
      (gd (0 ≤ l1 ∧ l1 < 8200) (
      (if ¬ (s 106 l1.toNat) = 0 then
        j_213_284 (j_213_178 F) l1 s
      else
        (gd (0 ≤ l1 ∧ l1 < 8200) (
        (gd (0 ≤ l1 ∧ l1 < 8200) (
        (gd (0 ≤ l1 ∧ l1 < 8200) (
        ((f_240 (s 112 l1.toNat) (s 113 l1.toNat) (s 107 l1.toNat) s).bind fun q2 =>
        (if q2 = 0 then
          (gd (0 ≤ l1 ∧ l1 < 8200) (
          ((f_238 (s 107 l1.toNat) s).bind fun q3 =>
          j_213_236 (j_213_178 F) l1 q2 q3 s)))
        else
          j_213_236 (j_213_178 F) l1 q2 (-1) s))))))))))))
set_option maxRecDepth 20000 in
theorem bl_213_178 {L c : Nat} {e : Nat → Nat} : ∀ (F : Nat) (d2 d3 d4 : Option ax_V) (l1 : Int) (s : Sg) (q : Sg), j_213_178 F l1 s = some q → RuP 2 tb_m213 178 [some (.inr (.inr (some 84))), some (.inl l1), d2, d3, d4] [] (hp L s c e) (oV L c e q) := by
  intro F
  induction F with
  | zero =>
    intro d2 d3 d4 l1 s q h
    rw [j_213_178] at h
    cases h
  | succ F ih =>
    intro d2 d3 d4 l1 s q h
    rw [j_213_178] at h
    refine RuP.step (pc' := 179) (ls' := [some (.inr (.inr (some 84))), some (.inl l1), d2, d3, d4]) (st' := [.inl l1]) (h1 := hp L s c e) rfl ?_
    refine RuP.step (pc' := 180) (ls' := [some (.inr (.inr (some 84))), some (.inl l1), d2, d3, d4]) (st' := [.inr (.inr (some 84)), .inl l1]) (h1 := hp L s c e) rfl ?_
    refine RuP.step (pc' := 183) (ls' := [some (.inr (.inr (some 84))), some (.inl l1), d2, d3, d4]) (st' := [.inl (s 84 34), .inl l1]) (h1 := hp L s c e) rfl ?_
    by_cases h0 : s 84 34 ≤ l1
    · rw [if_pos h0] at h
      refine RuP.jy rfl h0 ?_
      exact bl_213_290 _ _ _ _ _ _ h
    · rw [if_neg h0] at h
      refine RuP.jn rfl h0 ?_
      refine RuP.step (pc' := 187) (ls' := [some (.inr (.inr (some 84))), some (.inl l1), d2, d3, d4]) (st' := [.inr (.inr (some 84))]) (h1 := hp L s c e) rfl ?_
      refine RuP.step (pc' := 190) (ls' := [some (.inr (.inr (some 84))), some (.inl l1), d2, d3, d4]) (st' := [.inr (.inr (some 106))]) (h1 := hp L s c e) rfl ?_
      refine RuP.step (pc' := 191) (ls' := [some (.inr (.inr (some 84))), some (.inl l1), d2, d3, d4]) (st' := [.inl l1, .inr (.inr (some 106))]) (h1 := hp L s c e) rfl ?_
      obtain ⟨b1, h⟩ := gd_some h
      refine RuP.ald (f := fun t => t == 0) (j := l1) (a := 106) rfl rfl b1.1 b1.2 ?_
      by_cases h2 : ¬ (s 106 l1.toNat) = 0
      · rw [if_pos h2] at h
        refine RuP.jy rfl h2 ?_
        exact bl_213_284 ih _ _ _ _ _ _ h
      · rw [if_neg h2] at h
        refine RuP.jn rfl h2 ?_
        refine RuP.step (pc' := 196) (ls' := [some (.inr (.inr (some 84))), some (.inl l1), d2, d3, d4]) (st' := [.inr (.inr (some 84))]) (h1 := hp L s c e) rfl ?_
        refine RuP.step (pc' := 197) (ls' := [some (.inr (.inr (some 84))), some (.inl l1), d2, d3, d4]) (st' := [.inr (.inr (some 84)), .inr (.inr (some 84))]) (h1 := hp L s c e) rfl ?_
        refine RuP.step (pc' := 200) (ls' := [some (.inr (.inr (some 84))), some (.inl l1), d2, d3, d4]) (st' := [.inr (.inr (some 112)), .inr (.inr (some 84))]) (h1 := hp L s c e) rfl ?_
        refine RuP.step (pc' := 201) (ls' := [some (.inr (.inr (some 84))), some (.inl l1), d2, d3, d4]) (st' := [.inl l1, .inr (.inr (some 112)), .inr (.inr (some 84))]) (h1 := hp L s c e) rfl ?_
        obtain ⟨b3, h⟩ := gd_some h
        refine RuP.ald (f := fun t => t == 0) (j := l1) (a := 112) rfl rfl b3.1 b3.2 ?_
        refine RuP.step (pc' := 203) (ls' := [some (.inr (.inr (some 84))), some (.inl l1), d2, d3, d4]) (st' := [.inr (.inr (some 84)), .inl (s 112 l1.toNat), .inr (.inr (some 84))]) (h1 := hp L s c e) rfl ?_
        refine RuP.step (pc' := 206) (ls' := [some (.inr (.inr (some 84))), some (.inl l1), d2, d3, d4]) (st' := [.inr (.inr (some 113)), .inl (s 112 l1.toNat), .inr (.inr (some 84))]) (h1 := hp L s c e) rfl ?_
        refine RuP.step (pc' := 207) (ls' := [some (.inr (.inr (some 84))), some (.inl l1), d2, d3, d4]) (st' := [.inl l1, .inr (.inr (some 113)), .inl (s 112 l1.toNat), .inr (.inr (some 84))]) (h1 := hp L s c e) rfl ?_
        obtain ⟨b4, h⟩ := gd_some h
        refine RuP.ald (f := fun t => t == 0) (j := l1) (a := 113) rfl rfl b4.1 b4.2 ?_
        refine RuP.step (pc' := 209) (ls' := [some (.inr (.inr (some 84))), some (.inl l1), d2, d3, d4]) (st' := [.inr (.inr (some 84)), .inl (s 113 l1.toNat), .inl (s 112 l1.toNat), .inr (.inr (some 84))]) (h1 := hp L s c e) rfl ?_
        refine RuP.step (pc' := 212) (ls' := [some (.inr (.inr (some 84))), some (.inl l1), d2, d3, d4]) (st' := [.inr (.inr (some 107)), .inl (s 113 l1.toNat), .inl (s 112 l1.toNat), .inr (.inr (some 84))]) (h1 := hp L s c e) rfl ?_
        refine RuP.step (pc' := 213) (ls' := [some (.inr (.inr (some 84))), some (.inl l1), d2, d3, d4]) (st' := [.inl l1, .inr (.inr (some 107)), .inl (s 113 l1.toNat), .inl (s 112 l1.toNat), .inr (.inr (some 84))]) (h1 := hp L s c e) rfl ?_
        obtain ⟨b5, h⟩ := gd_some h
        refine RuP.ald (f := fun t => t == 0) (j := l1) (a := 107) rfl rfl b5.1 b5.2 ?_
        obtain ⟨q2, h1, h⟩ := bd_some h
        refine RuP.cI rfl ((ev_240 h1).up (by decide)) ?_
        refine RuP.step (pc' := 218) (ls' := [some (.inr (.inr (some 84))), some (.inl l1), some (.inl q2), d3, d4]) (st' := []) (h1 := hp L s c e) rfl ?_
        refine RuP.step (pc' := 219) (ls' := [some (.inr (.inr (some 84))), some (.inl l1), some (.inl q2), d3, d4]) (st' := [.inl q2]) (h1 := hp L s c e) rfl ?_
        by_cases h6 : q2 = 0
        · rw [if_pos h6] at h
          refine RuP.jy rfl h6 ?_
          refine RuP.step (pc' := 227) (ls' := [some (.inr (.inr (some 84))), some (.inl l1), some (.inl q2), d3, d4]) (st' := [.inr (.inr (some 84))]) (h1 := hp L s c e) rfl ?_
          refine RuP.step (pc' := 228) (ls' := [some (.inr (.inr (some 84))), some (.inl l1), some (.inl q2), d3, d4]) (st' := [.inr (.inr (some 84)), .inr (.inr (some 84))]) (h1 := hp L s c e) rfl ?_
          refine RuP.step (pc' := 231) (ls' := [some (.inr (.inr (some 84))), some (.inl l1), some (.inl q2), d3, d4]) (st' := [.inr (.inr (some 107)), .inr (.inr (some 84))]) (h1 := hp L s c e) rfl ?_
          refine RuP.step (pc' := 232) (ls' := [some (.inr (.inr (some 84))), some (.inl l1), some (.inl q2), d3, d4]) (st' := [.inl l1, .inr (.inr (some 107)), .inr (.inr (some 84))]) (h1 := hp L s c e) rfl ?_
          obtain ⟨b7, h⟩ := gd_some h
          refine RuP.ald (f := fun t => t == 0) (j := l1) (a := 107) rfl rfl b7.1 b7.2 ?_
          obtain ⟨q3, h1, h⟩ := bd_some h
          refine RuP.cI rfl ((ev_238 h1).up (by decide)) ?_
          exact bl_213_236 ih _ _ _ _ _ _ _ h
        · rw [if_neg h6] at h
          refine RuP.jn rfl h6 ?_
          refine RuP.step (pc' := 223) (ls' := [some (.inr (.inr (some 84))), some (.inl l1), some (.inl q2), d3, d4]) (st' := [.inl (-1)]) (h1 := hp L s c e) rfl ?_
          refine RuP.step (pc' := 236) (ls' := [some (.inr (.inr (some 84))), some (.inl l1), some (.inl q2), d3, d4]) (st' := [.inl (-1)]) (h1 := hp L s c e) rfl ?_
          exact bl_213_236 ih _ _ _ _ _ _ _ h
noncomputable def j_213_176 (s : Sg) : Option Sg :=
  j_213_178 FU 0 s
set_option maxRecDepth 20000 in
theorem bl_213_176 {L c : Nat} {e : Nat → Nat} : ∀ (d2 d3 d4 : Option ax_V) (z1 : Int) (s : Sg) (q : Sg), j_213_176 s = some q → RuP 2 tb_m213 176 [some (.inr (.inr (some 84))), some (.inl z1), d2, d3, d4] [] (hp L s c e) (oV L c e q) := by
  intro d2 d3 d4 z1 s q h
  unfold j_213_176 at h
  refine RuP.step (pc' := 177) (ls' := [some (.inr (.inr (some 84))), some (.inl z1), d2, d3, d4]) (st' := [.inl 0]) (h1 := hp L s c e) rfl ?_
  refine RuP.step (pc' := 178) (ls' := [some (.inr (.inr (some 84))), some (.inl 0), d2, d3, d4]) (st' := []) (h1 := hp L s c e) rfl ?_
  exact bl_213_178 FU _ _ _ _ _ _ h
noncomputable def j_213_170 (k2 : (Int → Sg → Option Sg)) (l1 : Int) (s : Sg) : Option Sg :=
  k2 (ax_w32 (l1 + 1)) s
set_option maxRecDepth 20000 in
theorem bl_213_170 {L c : Nat} {e : Nat → Nat} {k2 : (Int → Sg → Option Sg)} (hk2 : ∀ (d2 d3 d4 : Option ax_V) (l1 : Int) (s : Sg) (q : Sg), k2 l1 s = some q → RuP 2 tb_m213 2 [some (.inr (.inr (some 84))), some (.inl l1), d2, d3, d4] [] (hp L s c e) (oV L c e q)) : ∀ (d2 d3 d4 : Option ax_V) (l1 : Int) (s : Sg) (q : Sg), j_213_170 k2 l1 s = some q → RuP 2 tb_m213 170 [some (.inr (.inr (some 84))), some (.inl l1), d2, d3, d4] [] (hp L s c e) (oV L c e q) := by
  intro d2 d3 d4 l1 s q h
  unfold j_213_170 at h
  refine RuP.step (pc' := 173) (ls' := [some (.inr (.inr (some 84))), some (.inl (ax_w32 (l1 + 1))), d2, d3, d4]) (st' := []) (h1 := hp L s c e) rfl ?_
  refine RuP.step (pc' := 2) (ls' := [some (.inr (.inr (some 84))), some (.inl (ax_w32 (l1 + 1))), d2, d3, d4]) (st' := []) (h1 := hp L s c e) rfl ?_
  exact hk2 _ _ _ _ _ _ h
noncomputable def j_213_148 (k2 : (Int → Sg → Option Sg)) (l1 t0 : Int) (s : Sg) : Option Sg :=
  (if ¬ t0 = 0 then
    j_213_170 k2 l1 s
  else
    (gd (0 ≤ l1 ∧ l1 < 8200) (
    (gd (0 ≤ s 118 l1.toNat ∧ s 118 l1.toNat < 8200) (
    ((some (f_235 (s 89 ((s 118 l1.toNat).toNat)) s)).bind fun q7 =>
    j_213_170 k2 l1 q7))))))
set_option maxRecDepth 20000 in
theorem bl_213_148 {L c : Nat} {e : Nat → Nat} {k2 : (Int → Sg → Option Sg)} (hk2 : ∀ (d2 d3 d4 : Option ax_V) (l1 : Int) (s : Sg) (q : Sg), k2 l1 s = some q → RuP 2 tb_m213 2 [some (.inr (.inr (some 84))), some (.inl l1), d2, d3, d4] [] (hp L s c e) (oV L c e q)) : ∀ (d4 : Option ax_V) (z2 z3 : Int) (l1 t0 : Int) (s : Sg) (q : Sg), j_213_148 k2 l1 t0 s = some q → RuP 2 tb_m213 148 [some (.inr (.inr (some 84))), some (.inl l1), some (.inl z2), some (.inl z3), d4] [.inl t0] (hp L s c e) (oV L c e q) := by
  intro d4 z2 z3 l1 t0 s q h
  unfold j_213_148 at h
  refine RuP.step (pc' := 150) (ls' := [some (.inr (.inr (some 84))), some (.inl l1), some (.inl z2), some (.inl z3), some (.inl t0)]) (st' := []) (h1 := hp L s c e) rfl ?_
  refine RuP.step (pc' := 152) (ls' := [some (.inr (.inr (some 84))), some (.inl l1), some (.inl z2), some (.inl z3), some (.inl t0)]) (st' := [.inl t0]) (h1 := hp L s c e) rfl ?_
  by_cases h0 : ¬ t0 = 0
  · rw [if_pos h0] at h
    refine RuP.jy rfl h0 ?_
    exact bl_213_170 hk2 _ _ _ _ _ _ h
  · rw [if_neg h0] at h
    refine RuP.jn rfl h0 ?_
    refine RuP.step (pc' := 156) (ls' := [some (.inr (.inr (some 84))), some (.inl l1), some (.inl z2), some (.inl z3), some (.inl t0)]) (st' := [.inr (.inr (some 84))]) (h1 := hp L s c e) rfl ?_
    refine RuP.step (pc' := 157) (ls' := [some (.inr (.inr (some 84))), some (.inl l1), some (.inl z2), some (.inl z3), some (.inl t0)]) (st' := [.inr (.inr (some 84)), .inr (.inr (some 84))]) (h1 := hp L s c e) rfl ?_
    refine RuP.step (pc' := 160) (ls' := [some (.inr (.inr (some 84))), some (.inl l1), some (.inl z2), some (.inl z3), some (.inl t0)]) (st' := [.inr (.inr (some 89)), .inr (.inr (some 84))]) (h1 := hp L s c e) rfl ?_
    refine RuP.step (pc' := 161) (ls' := [some (.inr (.inr (some 84))), some (.inl l1), some (.inl z2), some (.inl z3), some (.inl t0)]) (st' := [.inr (.inr (some 84)), .inr (.inr (some 89)), .inr (.inr (some 84))]) (h1 := hp L s c e) rfl ?_
    refine RuP.step (pc' := 164) (ls' := [some (.inr (.inr (some 84))), some (.inl l1), some (.inl z2), some (.inl z3), some (.inl t0)]) (st' := [.inr (.inr (some 118)), .inr (.inr (some 89)), .inr (.inr (some 84))]) (h1 := hp L s c e) rfl ?_
    refine RuP.step (pc' := 165) (ls' := [some (.inr (.inr (some 84))), some (.inl l1), some (.inl z2), some (.inl z3), some (.inl t0)]) (st' := [.inl l1, .inr (.inr (some 118)), .inr (.inr (some 89)), .inr (.inr (some 84))]) (h1 := hp L s c e) rfl ?_
    obtain ⟨b1, h⟩ := gd_some h
    refine RuP.ald (f := fun t => t == 0) (j := l1) (a := 118) rfl rfl b1.1 b1.2 ?_
    obtain ⟨b2, h⟩ := gd_some h
    refine RuP.ald (f := fun t => t == 0) (j := s 118 l1.toNat) (a := 89) rfl rfl b2.1 b2.2 ?_
    obtain ⟨q7, h1, h⟩ := bd_some h
    refine RuP.cVe h1 rfl (EvP.v ((ev_235 (s 89 ((s 118 l1.toNat).toNat))).up (by decide))) ?_
    exact bl_213_170 hk2 _ _ _ _ _ _ h
noncomputable def j_213_147 (k2 : (Int → Sg → Option Sg)) (l1 : Int) (s : Sg) : Option Sg :=
  j_213_148 k2 l1 0 s
set_option maxRecDepth 20000 in
theorem bl_213_147 {L c : Nat} {e : Nat → Nat} {k2 : (Int → Sg → Option Sg)} (hk2 : ∀ (d2 d3 d4 : Option ax_V) (l1 : Int) (s : Sg) (q : Sg), k2 l1 s = some q → RuP 2 tb_m213 2 [some (.inr (.inr (some 84))), some (.inl l1), d2, d3, d4] [] (hp L s c e) (oV L c e q)) : ∀ (d4 : Option ax_V) (z2 z3 : Int) (l1 : Int) (s : Sg) (q : Sg), j_213_147 k2 l1 s = some q → RuP 2 tb_m213 147 [some (.inr (.inr (some 84))), some (.inl l1), some (.inl z2), some (.inl z3), d4] [] (hp L s c e) (oV L c e q) := by
  intro d4 z2 z3 l1 s q h
  unfold j_213_147 at h
  refine RuP.step (pc' := 148) (ls' := [some (.inr (.inr (some 84))), some (.inl l1), some (.inl z2), some (.inl z3), d4]) (st' := [.inl 0]) (h1 := hp L s c e) rfl ?_
  exact bl_213_148 hk2 _ _ _ _ _ _ _ h
noncomputable def j_213_59 (k2 : (Int → Sg → Option Sg)) (l1 l2 t0 : Int) (s : Sg) : Option Sg :=
  (if l2 = 0 then
    (gd (0 ≤ l1 ∧ l1 < 8200) (
    (if ¬ (s 116 l1.toNat) = 1 then
      (gd (0 ≤ l1 ∧ l1 < 8200) (
      (if ¬ (s 116 l1.toNat) = 2 then
        (gd (0 ≤ t0 ∧ t0 < 4100) (
        (if ¬ (s 94 t0.toNat) = 2 then
          j_213_147 k2 l1 s
        else
          (gd (0 ≤ t0 ∧ t0 < 4100) (
          (gd (0 ≤ l1 ∧ l1 < 8200) (
          j_213_148 k2 l1 ((if ¬ (s 99 t0.toNat) = s 120 l1.toNat then 0 else 1) : Int) s)))))))
      else
        (gd (g_243 t0 s) (
        j_213_148 k2 l1 (f_243 t0 s) s)))))
    else
      (gd (g_242 t0 s) (
      j_213_148 k2 l1 (f_242 t0 s) s)))))
  else
    (gd (0 ≤ l1 ∧ l1 < 8200) (
    j_213_148 k2 l1 ((if ¬ (s 116 l1.toNat) = 1 then 0 else 1) : Int) s)))
set_option maxRecDepth 20000 in
theorem bl_213_59 {L c : Nat} {e : Nat → Nat} {k2 : (Int → Sg → Option Sg)} (hk2 : ∀ (d2 d3 d4 : Option ax_V) (l1 : Int) (s : Sg) (q : Sg), k2 l1 s = some q → RuP 2 tb_m213 2 [some (.inr (.inr (some 84))), some (.inl l1), d2, d3, d4] [] (hp L s c e) (oV L c e q)) : ∀ (d3 d4 : Option ax_V) (l1 l2 t0 : Int) (s : Sg) (q : Sg), j_213_59 k2 l1 l2 t0 s = some q → RuP 2 tb_m213 59 [some (.inr (.inr (some 84))), some (.inl l1), some (.inl l2), d3, d4] [.inl t0] (hp L s c e) (oV L c e q) := by
  intro d3 d4 l1 l2 t0 s q h
  unfold j_213_59 at h
  refine RuP.step (pc' := 60) (ls' := [some (.inr (.inr (some 84))), some (.inl l1), some (.inl l2), some (.inl t0), d4]) (st' := []) (h1 := hp L s c e) rfl ?_
  refine RuP.step (pc' := 61) (ls' := [some (.inr (.inr (some 84))), some (.inl l1), some (.inl l2), some (.inl t0), d4]) (st' := [.inl l2]) (h1 := hp L s c e) rfl ?_
  by_cases h0 : l2 = 0
  · rw [if_pos h0] at h
    refine RuP.jy rfl h0 ?_
    refine RuP.step (pc' := 83) (ls' := [some (.inr (.inr (some 84))), some (.inl l1), some (.inl l2), some (.inl t0), d4]) (st' := [.inr (.inr (some 84))]) (h1 := hp L s c e) rfl ?_
    refine RuP.step (pc' := 86) (ls' := [some (.inr (.inr (some 84))), some (.inl l1), some (.inl l2), some (.inl t0), d4]) (st' := [.inr (.inr (some 116))]) (h1 := hp L s c e) rfl ?_
    refine RuP.step (pc' := 87) (ls' := [some (.inr (.inr (some 84))), some (.inl l1), some (.inl l2), some (.inl t0), d4]) (st' := [.inl l1, .inr (.inr (some 116))]) (h1 := hp L s c e) rfl ?_
    obtain ⟨b1, h⟩ := gd_some h
    refine RuP.ald (f := fun t => t == 0) (j := l1) (a := 116) rfl rfl b1.1 b1.2 ?_
    refine RuP.step (pc' := 89) (ls' := [some (.inr (.inr (some 84))), some (.inl l1), some (.inl l2), some (.inl t0), d4]) (st' := [.inl 1, .inl (s 116 l1.toNat)]) (h1 := hp L s c e) rfl ?_
    by_cases h2 : ¬ (s 116 l1.toNat) = 1
    · rw [if_pos h2] at h
      refine RuP.jy rfl h2 ?_
      refine RuP.step (pc' := 101) (ls' := [some (.inr (.inr (some 84))), some (.inl l1), some (.inl l2), some (.inl t0), d4]) (st' := [.inr (.inr (some 84))]) (h1 := hp L s c e) rfl ?_
      refine RuP.step (pc' := 104) (ls' := [some (.inr (.inr (some 84))), some (.inl l1), some (.inl l2), some (.inl t0), d4]) (st' := [.inr (.inr (some 116))]) (h1 := hp L s c e) rfl ?_
      refine RuP.step (pc' := 105) (ls' := [some (.inr (.inr (some 84))), some (.inl l1), some (.inl l2), some (.inl t0), d4]) (st' := [.inl l1, .inr (.inr (some 116))]) (h1 := hp L s c e) rfl ?_
      obtain ⟨b3, h⟩ := gd_some h
      refine RuP.ald (f := fun t => t == 0) (j := l1) (a := 116) rfl rfl b3.1 b3.2 ?_
      refine RuP.step (pc' := 107) (ls' := [some (.inr (.inr (some 84))), some (.inl l1), some (.inl l2), some (.inl t0), d4]) (st' := [.inl 2, .inl (s 116 l1.toNat)]) (h1 := hp L s c e) rfl ?_
      by_cases h4 : ¬ (s 116 l1.toNat) = 2
      · rw [if_pos h4] at h
        refine RuP.jy rfl h4 ?_
        refine RuP.step (pc' := 119) (ls' := [some (.inr (.inr (some 84))), some (.inl l1), some (.inl l2), some (.inl t0), d4]) (st' := [.inr (.inr (some 84))]) (h1 := hp L s c e) rfl ?_
        refine RuP.step (pc' := 122) (ls' := [some (.inr (.inr (some 84))), some (.inl l1), some (.inl l2), some (.inl t0), d4]) (st' := [.inr (.inr (some 94))]) (h1 := hp L s c e) rfl ?_
        refine RuP.step (pc' := 123) (ls' := [some (.inr (.inr (some 84))), some (.inl l1), some (.inl l2), some (.inl t0), d4]) (st' := [.inl t0, .inr (.inr (some 94))]) (h1 := hp L s c e) rfl ?_
        obtain ⟨b5, h⟩ := gd_some h
        refine RuP.ald (f := fun t => t == 0) (j := t0) (a := 94) rfl rfl b5.1 b5.2 ?_
        refine RuP.step (pc' := 125) (ls' := [some (.inr (.inr (some 84))), some (.inl l1), some (.inl l2), some (.inl t0), d4]) (st' := [.inl 2, .inl (s 94 t0.toNat)]) (h1 := hp L s c e) rfl ?_
        by_cases h6 : ¬ (s 94 t0.toNat) = 2
        · rw [if_pos h6] at h
          refine RuP.jy rfl h6 ?_
          exact bl_213_147 hk2 _ _ _ _ _ _ h
        · rw [if_neg h6] at h
          refine RuP.jn rfl h6 ?_
          refine RuP.step (pc' := 129) (ls' := [some (.inr (.inr (some 84))), some (.inl l1), some (.inl l2), some (.inl t0), d4]) (st' := [.inr (.inr (some 84))]) (h1 := hp L s c e) rfl ?_
          refine RuP.step (pc' := 132) (ls' := [some (.inr (.inr (some 84))), some (.inl l1), some (.inl l2), some (.inl t0), d4]) (st' := [.inr (.inr (some 99))]) (h1 := hp L s c e) rfl ?_
          refine RuP.step (pc' := 133) (ls' := [some (.inr (.inr (some 84))), some (.inl l1), some (.inl l2), some (.inl t0), d4]) (st' := [.inl t0, .inr (.inr (some 99))]) (h1 := hp L s c e) rfl ?_
          obtain ⟨b7, h⟩ := gd_some h
          refine RuP.ald (f := fun t => t == 0) (j := t0) (a := 99) rfl rfl b7.1 b7.2 ?_
          refine RuP.step (pc' := 135) (ls' := [some (.inr (.inr (some 84))), some (.inl l1), some (.inl l2), some (.inl t0), d4]) (st' := [.inr (.inr (some 84)), .inl (s 99 t0.toNat)]) (h1 := hp L s c e) rfl ?_
          refine RuP.step (pc' := 138) (ls' := [some (.inr (.inr (some 84))), some (.inl l1), some (.inl l2), some (.inl t0), d4]) (st' := [.inr (.inr (some 120)), .inl (s 99 t0.toNat)]) (h1 := hp L s c e) rfl ?_
          refine RuP.step (pc' := 139) (ls' := [some (.inr (.inr (some 84))), some (.inl l1), some (.inl l2), some (.inl t0), d4]) (st' := [.inl l1, .inr (.inr (some 120)), .inl (s 99 t0.toNat)]) (h1 := hp L s c e) rfl ?_
          obtain ⟨b8, h⟩ := gd_some h
          refine RuP.ald (f := fun t => t == 0) (j := l1) (a := 120) rfl rfl b8.1 b8.2 ?_
          have J10 : ∀ v9_0 : Int, v9_0 = ((if ¬ (s 99 t0.toNat) = s 120 l1.toNat then 0 else 1) : Int) → RuP 2 tb_m213 148 [some (.inr (.inr (some 84))), some (.inl l1), some (.inl l2), some (.inl t0), d4] [.inl v9_0] (hp L s c e) (oV L c e q) := by
            intro v9_0 ev9_0
            subst ev9_0
            exact bl_213_148 hk2 _ _ _ _ _ _ _ h
          by_cases h10 : ¬ (s 99 t0.toNat) = s 120 l1.toNat
          · refine RuP.jy rfl h10 ?_
            refine RuP.step (pc' := 148) (ls' := [some (.inr (.inr (some 84))), some (.inl l1), some (.inl l2), some (.inl t0), d4]) (st' := [.inl 0]) (h1 := hp L s c e) rfl ?_
            exact J10 _ (by simp only [if_pos h10])
          · refine RuP.jn rfl h10 ?_
            refine RuP.step (pc' := 144) (ls' := [some (.inr (.inr (some 84))), some (.inl l1), some (.inl l2), some (.inl t0), d4]) (st' := [.inl 1]) (h1 := hp L s c e) rfl ?_
            refine RuP.step (pc' := 148) (ls' := [some (.inr (.inr (some 84))), some (.inl l1), some (.inl l2), some (.inl t0), d4]) (st' := [.inl 1]) (h1 := hp L s c e) rfl ?_
            exact J10 _ (by simp only [if_neg h10])
      · rw [if_neg h4] at h
        refine RuP.jn rfl h4 ?_
        refine RuP.step (pc' := 111) (ls' := [some (.inr (.inr (some 84))), some (.inl l1), some (.inl l2), some (.inl t0), d4]) (st' := [.inr (.inr (some 84))]) (h1 := hp L s c e) rfl ?_
        refine RuP.step (pc' := 112) (ls' := [some (.inr (.inr (some 84))), some (.inl l1), some (.inl l2), some (.inl t0), d4]) (st' := [.inl t0, .inr (.inr (some 84))]) (h1 := hp L s c e) rfl ?_
        obtain ⟨b11, h⟩ := gd_some h
        refine RuP.cI rfl (EvP.i ((ev_243 t0 b11).up (by decide))) ?_
        refine RuP.step (pc' := 148) (ls' := [some (.inr (.inr (some 84))), some (.inl l1), some (.inl l2), some (.inl t0), d4]) (st' := [.inl (f_243 t0 s)]) (h1 := hp L s c e) rfl ?_
        exact bl_213_148 hk2 _ _ _ _ _ _ _ h
    · rw [if_neg h2] at h
      refine RuP.jn rfl h2 ?_
      refine RuP.step (pc' := 93) (ls' := [some (.inr (.inr (some 84))), some (.inl l1), some (.inl l2), some (.inl t0), d4]) (st' := [.inr (.inr (some 84))]) (h1 := hp L s c e) rfl ?_
      refine RuP.step (pc' := 94) (ls' := [some (.inr (.inr (some 84))), some (.inl l1), some (.inl l2), some (.inl t0), d4]) (st' := [.inl t0, .inr (.inr (some 84))]) (h1 := hp L s c e) rfl ?_
      obtain ⟨b12, h⟩ := gd_some h
      refine RuP.cI rfl (EvP.i ((ev_242 t0 b12).up (by decide))) ?_
      refine RuP.step (pc' := 148) (ls' := [some (.inr (.inr (some 84))), some (.inl l1), some (.inl l2), some (.inl t0), d4]) (st' := [.inl (f_242 t0 s)]) (h1 := hp L s c e) rfl ?_
      exact bl_213_148 hk2 _ _ _ _ _ _ _ h
  · rw [if_neg h0] at h
    refine RuP.jn rfl h0 ?_
    refine RuP.step (pc' := 65) (ls' := [some (.inr (.inr (some 84))), some (.inl l1), some (.inl l2), some (.inl t0), d4]) (st' := [.inr (.inr (some 84))]) (h1 := hp L s c e) rfl ?_
    refine RuP.step (pc' := 68) (ls' := [some (.inr (.inr (some 84))), some (.inl l1), some (.inl l2), some (.inl t0), d4]) (st' := [.inr (.inr (some 116))]) (h1 := hp L s c e) rfl ?_
    refine RuP.step (pc' := 69) (ls' := [some (.inr (.inr (some 84))), some (.inl l1), some (.inl l2), some (.inl t0), d4]) (st' := [.inl l1, .inr (.inr (some 116))]) (h1 := hp L s c e) rfl ?_
    obtain ⟨b13, h⟩ := gd_some h
    refine RuP.ald (f := fun t => t == 0) (j := l1) (a := 116) rfl rfl b13.1 b13.2 ?_
    refine RuP.step (pc' := 71) (ls' := [some (.inr (.inr (some 84))), some (.inl l1), some (.inl l2), some (.inl t0), d4]) (st' := [.inl 1, .inl (s 116 l1.toNat)]) (h1 := hp L s c e) rfl ?_
    have J15 : ∀ v14_0 : Int, v14_0 = ((if ¬ (s 116 l1.toNat) = 1 then 0 else 1) : Int) → RuP 2 tb_m213 148 [some (.inr (.inr (some 84))), some (.inl l1), some (.inl l2), some (.inl t0), d4] [.inl v14_0] (hp L s c e) (oV L c e q) := by
      intro v14_0 ev14_0
      subst ev14_0
      exact bl_213_148 hk2 _ _ _ _ _ _ _ h
    by_cases h15 : ¬ (s 116 l1.toNat) = 1
    · refine RuP.jy rfl h15 ?_
      refine RuP.step (pc' := 79) (ls' := [some (.inr (.inr (some 84))), some (.inl l1), some (.inl l2), some (.inl t0), d4]) (st' := [.inl 0]) (h1 := hp L s c e) rfl ?_
      refine RuP.step (pc' := 148) (ls' := [some (.inr (.inr (some 84))), some (.inl l1), some (.inl l2), some (.inl t0), d4]) (st' := [.inl 0]) (h1 := hp L s c e) rfl ?_
      exact J15 _ (by simp only [if_pos h15])
    · refine RuP.jn rfl h15 ?_
      refine RuP.step (pc' := 75) (ls' := [some (.inr (.inr (some 84))), some (.inl l1), some (.inl l2), some (.inl t0), d4]) (st' := [.inl 1]) (h1 := hp L s c e) rfl ?_
      refine RuP.step (pc' := 148) (ls' := [some (.inr (.inr (some 84))), some (.inl l1), some (.inl l2), some (.inl t0), d4]) (st' := [.inl 1]) (h1 := hp L s c e) rfl ?_
      exact J15 _ (by simp only [if_neg h15])
noncomputable def j_213_2 : Nat → Int → Sg → Option Sg
  | 0, _, _ => none
  | F + 1, l1, s =>
    (if s 84 47 ≤ l1 then
      j_213_176 s
    else
      (gd (g_241 l1 s) (
      (if f_241 l1 s = 0 then
        j_213_170 (j_213_2 F) l1 s
      else
        (gd (0 ≤ l1 ∧ l1 < 8200) (
        (gd (0 ≤ l1 ∧ l1 < 8200) (
        (gd (0 ≤ l1 ∧ l1 < 8200) (
        ((f_240 (s 123 l1.toNat) (s 124 l1.toNat) (s 118 l1.toNat) s).bind fun q5 =>
        (if q5 = 0 then
          (gd (0 ≤ l1 ∧ l1 < 8200) (
          ((f_238 (s 118 l1.toNat) s).bind fun q6 =>
          j_213_59 (j_213_2 F) l1 q5 q6 s)))
        else
          j_213_59 (j_213_2 F) l1 q5 (-1) s))))))))))))
set_option maxRecDepth 20000 in
theorem bl_213_2 {L c : Nat} {e : Nat → Nat} : ∀ (F : Nat) (d2 d3 d4 : Option ax_V) (l1 : Int) (s : Sg) (q : Sg), j_213_2 F l1 s = some q → RuP 2 tb_m213 2 [some (.inr (.inr (some 84))), some (.inl l1), d2, d3, d4] [] (hp L s c e) (oV L c e q) := by
  intro F
  induction F with
  | zero =>
    intro d2 d3 d4 l1 s q h
    rw [j_213_2] at h
    cases h
  | succ F ih =>
    intro d2 d3 d4 l1 s q h
    rw [j_213_2] at h
    refine RuP.step (pc' := 3) (ls' := [some (.inr (.inr (some 84))), some (.inl l1), d2, d3, d4]) (st' := [.inl l1]) (h1 := hp L s c e) rfl ?_
    refine RuP.step (pc' := 4) (ls' := [some (.inr (.inr (some 84))), some (.inl l1), d2, d3, d4]) (st' := [.inr (.inr (some 84)), .inl l1]) (h1 := hp L s c e) rfl ?_
    refine RuP.step (pc' := 7) (ls' := [some (.inr (.inr (some 84))), some (.inl l1), d2, d3, d4]) (st' := [.inl (s 84 47), .inl l1]) (h1 := hp L s c e) rfl ?_
    by_cases h0 : s 84 47 ≤ l1
    · rw [if_pos h0] at h
      refine RuP.jy rfl h0 ?_
      exact bl_213_176 _ _ _ _ _ _ h
    · rw [if_neg h0] at h
      refine RuP.jn rfl h0 ?_
      refine RuP.step (pc' := 11) (ls' := [some (.inr (.inr (some 84))), some (.inl l1), d2, d3, d4]) (st' := [.inr (.inr (some 84))]) (h1 := hp L s c e) rfl ?_
      refine RuP.step (pc' := 12) (ls' := [some (.inr (.inr (some 84))), some (.inl l1), d2, d3, d4]) (st' := [.inl l1, .inr (.inr (some 84))]) (h1 := hp L s c e) rfl ?_
      obtain ⟨b1, h⟩ := gd_some h
      refine RuP.cI rfl (EvP.i ((ev_241 l1 b1).up (by decide))) ?_
      by_cases h2 : f_241 l1 s = 0
      · rw [if_pos h2] at h
        refine RuP.jy rfl h2 ?_
        exact bl_213_170 ih _ _ _ _ _ _ h
      · rw [if_neg h2] at h
        refine RuP.jn rfl h2 ?_
        refine RuP.step (pc' := 19) (ls' := [some (.inr (.inr (some 84))), some (.inl l1), d2, d3, d4]) (st' := [.inr (.inr (some 84))]) (h1 := hp L s c e) rfl ?_
        refine RuP.step (pc' := 20) (ls' := [some (.inr (.inr (some 84))), some (.inl l1), d2, d3, d4]) (st' := [.inr (.inr (some 84)), .inr (.inr (some 84))]) (h1 := hp L s c e) rfl ?_
        refine RuP.step (pc' := 23) (ls' := [some (.inr (.inr (some 84))), some (.inl l1), d2, d3, d4]) (st' := [.inr (.inr (some 123)), .inr (.inr (some 84))]) (h1 := hp L s c e) rfl ?_
        refine RuP.step (pc' := 24) (ls' := [some (.inr (.inr (some 84))), some (.inl l1), d2, d3, d4]) (st' := [.inl l1, .inr (.inr (some 123)), .inr (.inr (some 84))]) (h1 := hp L s c e) rfl ?_
        obtain ⟨b3, h⟩ := gd_some h
        refine RuP.ald (f := fun t => t == 0) (j := l1) (a := 123) rfl rfl b3.1 b3.2 ?_
        refine RuP.step (pc' := 26) (ls' := [some (.inr (.inr (some 84))), some (.inl l1), d2, d3, d4]) (st' := [.inr (.inr (some 84)), .inl (s 123 l1.toNat), .inr (.inr (some 84))]) (h1 := hp L s c e) rfl ?_
        refine RuP.step (pc' := 29) (ls' := [some (.inr (.inr (some 84))), some (.inl l1), d2, d3, d4]) (st' := [.inr (.inr (some 124)), .inl (s 123 l1.toNat), .inr (.inr (some 84))]) (h1 := hp L s c e) rfl ?_
        refine RuP.step (pc' := 30) (ls' := [some (.inr (.inr (some 84))), some (.inl l1), d2, d3, d4]) (st' := [.inl l1, .inr (.inr (some 124)), .inl (s 123 l1.toNat), .inr (.inr (some 84))]) (h1 := hp L s c e) rfl ?_
        obtain ⟨b4, h⟩ := gd_some h
        refine RuP.ald (f := fun t => t == 0) (j := l1) (a := 124) rfl rfl b4.1 b4.2 ?_
        refine RuP.step (pc' := 32) (ls' := [some (.inr (.inr (some 84))), some (.inl l1), d2, d3, d4]) (st' := [.inr (.inr (some 84)), .inl (s 124 l1.toNat), .inl (s 123 l1.toNat), .inr (.inr (some 84))]) (h1 := hp L s c e) rfl ?_
        refine RuP.step (pc' := 35) (ls' := [some (.inr (.inr (some 84))), some (.inl l1), d2, d3, d4]) (st' := [.inr (.inr (some 118)), .inl (s 124 l1.toNat), .inl (s 123 l1.toNat), .inr (.inr (some 84))]) (h1 := hp L s c e) rfl ?_
        refine RuP.step (pc' := 36) (ls' := [some (.inr (.inr (some 84))), some (.inl l1), d2, d3, d4]) (st' := [.inl l1, .inr (.inr (some 118)), .inl (s 124 l1.toNat), .inl (s 123 l1.toNat), .inr (.inr (some 84))]) (h1 := hp L s c e) rfl ?_
        obtain ⟨b5, h⟩ := gd_some h
        refine RuP.ald (f := fun t => t == 0) (j := l1) (a := 118) rfl rfl b5.1 b5.2 ?_
        obtain ⟨q5, h1, h⟩ := bd_some h
        refine RuP.cI rfl ((ev_240 h1).up (by decide)) ?_
        refine RuP.step (pc' := 41) (ls' := [some (.inr (.inr (some 84))), some (.inl l1), some (.inl q5), d3, d4]) (st' := []) (h1 := hp L s c e) rfl ?_
        refine RuP.step (pc' := 42) (ls' := [some (.inr (.inr (some 84))), some (.inl l1), some (.inl q5), d3, d4]) (st' := [.inl q5]) (h1 := hp L s c e) rfl ?_
        by_cases h6 : q5 = 0
        · rw [if_pos h6] at h
          refine RuP.jy rfl h6 ?_
          refine RuP.step (pc' := 50) (ls' := [some (.inr (.inr (some 84))), some (.inl l1), some (.inl q5), d3, d4]) (st' := [.inr (.inr (some 84))]) (h1 := hp L s c e) rfl ?_
          refine RuP.step (pc' := 51) (ls' := [some (.inr (.inr (some 84))), some (.inl l1), some (.inl q5), d3, d4]) (st' := [.inr (.inr (some 84)), .inr (.inr (some 84))]) (h1 := hp L s c e) rfl ?_
          refine RuP.step (pc' := 54) (ls' := [some (.inr (.inr (some 84))), some (.inl l1), some (.inl q5), d3, d4]) (st' := [.inr (.inr (some 118)), .inr (.inr (some 84))]) (h1 := hp L s c e) rfl ?_
          refine RuP.step (pc' := 55) (ls' := [some (.inr (.inr (some 84))), some (.inl l1), some (.inl q5), d3, d4]) (st' := [.inl l1, .inr (.inr (some 118)), .inr (.inr (some 84))]) (h1 := hp L s c e) rfl ?_
          obtain ⟨b7, h⟩ := gd_some h
          refine RuP.ald (f := fun t => t == 0) (j := l1) (a := 118) rfl rfl b7.1 b7.2 ?_
          obtain ⟨q6, h1, h⟩ := bd_some h
          refine RuP.cI rfl ((ev_238 h1).up (by decide)) ?_
          exact bl_213_59 ih _ _ _ _ _ _ _ h
        · rw [if_neg h6] at h
          refine RuP.jn rfl h6 ?_
          refine RuP.step (pc' := 46) (ls' := [some (.inr (.inr (some 84))), some (.inl l1), some (.inl q5), d3, d4]) (st' := [.inl (-1)]) (h1 := hp L s c e) rfl ?_
          refine RuP.step (pc' := 59) (ls' := [some (.inr (.inr (some 84))), some (.inl l1), some (.inl q5), d3, d4]) (st' := [.inl (-1)]) (h1 := hp L s c e) rfl ?_
          exact bl_213_59 ih _ _ _ _ _ _ _ h
noncomputable def f_213 (s : Sg) : Option Sg :=
  j_213_2 FU 0 s
set_option maxRecDepth 20000 in
theorem ev_213 {L c : Nat} {e : Nat → Nat} {s : Sg} {q : Sg} (h : f_213 s = some q) : EvP 3 213 [.inr (.inr (some 84))] (hp L s c e) (oV L c e q) := by
  unfold f_213 at h
  refine EvP.of (μ := tb_m213) (ls := [some (.inr (.inr (some 84))), none, none, none, none]) rfl (Nat.le_of_ble_eq_true rfl) rfl ?_
  refine RuP.step (pc' := 1) (ls' := [some (.inr (.inr (some 84))), none, none, none, none]) (st' := [.inl 0]) (h1 := hp L s c e) rfl ?_
  refine RuP.step (pc' := 2) (ls' := [some (.inr (.inr (some 84))), some (.inl 0), none, none, none]) (st' := []) (h1 := hp L s c e) rfl ?_
  exact bl_213_2 FU _ _ _ _ _ _ h
/-- MachineTextModel.checkRings()V -/
noncomputable def j_214_201 (s : Sg) : Option Sg :=
  ((f_237 8 s).bind fun q1 =>
  some q1)
theorem bl_214_201 {L c : Nat} {e : Nat → Nat} : ∀ (d2 d3 : Option ax_V) (z1 : Int) (s : Sg) (q : Sg), j_214_201 s = some q → RuP 3 tb_m214 201 [some (.inr (.inr (some 84))), some (.inl z1), d2, d3] [] (hp L s c e) (oV L c e q) := by
  intro d2 d3 z1 s q h
  unfold j_214_201 at h
  refine RuP.step (pc' := 202) (ls' := [some (.inr (.inr (some 84))), some (.inl z1), d2, d3]) (st' := [.inr (.inr (some 84))]) (h1 := hp L s c e) rfl ?_
  refine RuP.step (pc' := 204) (ls' := [some (.inr (.inr (some 84))), some (.inl z1), d2, d3]) (st' := [.inl 8, .inr (.inr (some 84))]) (h1 := hp L s c e) rfl ?_
  obtain ⟨q1, h1, h⟩ := bd_some h
  refine RuP.cV rfl ((ev_237 h1).up (by decide)) ?_
  cases h
  exact RuP.dV rfl
noncomputable def j_214_195 (k68 : (Int → Sg → Option Sg)) (l1 : Int) (s : Sg) : Option Sg :=
  k68 (ax_w32 (l1 + 1)) s
theorem bl_214_195 {L c : Nat} {e : Nat → Nat} {k68 : (Int → Sg → Option Sg)} (hk68 : ∀ (d2 d3 : Option ax_V) (l1 : Int) (s : Sg) (q : Sg), k68 l1 s = some q → RuP 3 tb_m214 68 [some (.inr (.inr (some 84))), some (.inl l1), d2, d3] [] (hp L s c e) (oV L c e q)) : ∀ (d2 d3 : Option ax_V) (l1 : Int) (s : Sg) (q : Sg), j_214_195 k68 l1 s = some q → RuP 3 tb_m214 195 [some (.inr (.inr (some 84))), some (.inl l1), d2, d3] [] (hp L s c e) (oV L c e q) := by
  intro d2 d3 l1 s q h
  unfold j_214_195 at h
  refine RuP.step (pc' := 198) (ls' := [some (.inr (.inr (some 84))), some (.inl (ax_w32 (l1 + 1))), d2, d3]) (st' := []) (h1 := hp L s c e) rfl ?_
  refine RuP.step (pc' := 68) (ls' := [some (.inr (.inr (some 84))), some (.inl (ax_w32 (l1 + 1))), d2, d3]) (st' := []) (h1 := hp L s c e) rfl ?_
  exact hk68 _ _ _ _ _ h
noncomputable def j_214_141 (k68 : (Int → Sg → Option Sg)) : Nat → Int → Int → Int → Sg → Option Sg
  | 0, _, _, _, _ => none
  | F + 1, l1, l2, l3, s =>
    (if l3 = 0 then
      j_214_195 k68 l1 s
    else
      (gd (0 ≤ l2 ∧ l2 < 4100) (
      (gd (0 ≤ s 95 l2.toNat ∧ s 95 l2.toNat < 8200) (
      (gd (0 ≤ s 84 72 ∧ s 84 72 < 4100) (
      ((f_245 l2 (ax_u2 (ax_u2 s 134 ((s 84 72).toNat) (s 89 ((s 95 l2.toNat).toNat))) 84 72 (ax_w32 ((s 84 72) + 1)))).bind fun q5 =>
      (j_214_141 k68 F) l1 q5 ((if q5 = l1 then 0 else 1) : Int) (ax_u2 (ax_u2 s 134 ((s 84 72).toNat) (s 89 ((s 95 l2.toNat).toNat))) 84 72 (ax_w32 ((s 84 72) + 1)))))))))))
theorem bl_214_141 {L c : Nat} {e : Nat → Nat} {k68 : (Int → Sg → Option Sg)} (hk68 : ∀ (d2 d3 : Option ax_V) (l1 : Int) (s : Sg) (q : Sg), k68 l1 s = some q → RuP 3 tb_m214 68 [some (.inr (.inr (some 84))), some (.inl l1), d2, d3] [] (hp L s c e) (oV L c e q)) : ∀ (F : Nat) (l1 l2 l3 : Int) (s : Sg) (q : Sg), j_214_141 k68 F l1 l2 l3 s = some q → RuP 3 tb_m214 141 [some (.inr (.inr (some 84))), some (.inl l1), some (.inl l2), some (.inl l3)] [] (hp L s c e) (oV L c e q) := by
  intro F
  induction F with
  | zero =>
    intro l1 l2 l3 s q h
    rw [j_214_141] at h
    cases h
  | succ F ih =>
    intro l1 l2 l3 s q h
    rw [j_214_141] at h
    refine RuP.step (pc' := 142) (ls' := [some (.inr (.inr (some 84))), some (.inl l1), some (.inl l2), some (.inl l3)]) (st' := [.inl l3]) (h1 := hp L s c e) rfl ?_
    by_cases h0 : l3 = 0
    · rw [if_pos h0] at h
      refine RuP.jy rfl h0 ?_
      exact bl_214_195 hk68 _ _ _ _ _ h
    · rw [if_neg h0] at h
      refine RuP.jn rfl h0 ?_
      refine RuP.step (pc' := 146) (ls' := [some (.inr (.inr (some 84))), some (.inl l1), some (.inl l2), some (.inl l3)]) (st' := [.inr (.inr (some 84))]) (h1 := hp L s c e) rfl ?_
      refine RuP.step (pc' := 149) (ls' := [some (.inr (.inr (some 84))), some (.inl l1), some (.inl l2), some (.inl l3)]) (st' := [.inr (.inr (some 134))]) (h1 := hp L s c e) rfl ?_
      refine RuP.step (pc' := 150) (ls' := [some (.inr (.inr (some 84))), some (.inl l1), some (.inl l2), some (.inl l3)]) (st' := [.inr (.inr (some 84)), .inr (.inr (some 134))]) (h1 := hp L s c e) rfl ?_
      refine RuP.step (pc' := 153) (ls' := [some (.inr (.inr (some 84))), some (.inl l1), some (.inl l2), some (.inl l3)]) (st' := [.inl (s 84 72), .inr (.inr (some 134))]) (h1 := hp L s c e) rfl ?_
      refine RuP.step (pc' := 154) (ls' := [some (.inr (.inr (some 84))), some (.inl l1), some (.inl l2), some (.inl l3)]) (st' := [.inr (.inr (some 84)), .inl (s 84 72), .inr (.inr (some 134))]) (h1 := hp L s c e) rfl ?_
      refine RuP.step (pc' := 157) (ls' := [some (.inr (.inr (some 84))), some (.inl l1), some (.inl l2), some (.inl l3)]) (st' := [.inr (.inr (some 89)), .inl (s 84 72), .inr (.inr (some 134))]) (h1 := hp L s c e) rfl ?_
      refine RuP.step (pc' := 158) (ls' := [some (.inr (.inr (some 84))), some (.inl l1), some (.inl l2), some (.inl l3)]) (st' := [.inr (.inr (some 84)), .inr (.inr (some 89)), .inl (s 84 72), .inr (.inr (some 134))]) (h1 := hp L s c e) rfl ?_
      refine RuP.step (pc' := 161) (ls' := [some (.inr (.inr (some 84))), some (.inl l1), some (.inl l2), some (.inl l3)]) (st' := [.inr (.inr (some 95)), .inr (.inr (some 89)), .inl (s 84 72), .inr (.inr (some 134))]) (h1 := hp L s c e) rfl ?_
      refine RuP.step (pc' := 162) (ls' := [some (.inr (.inr (some 84))), some (.inl l1), some (.inl l2), some (.inl l3)]) (st' := [.inl l2, .inr (.inr (some 95)), .inr (.inr (some 89)), .inl (s 84 72), .inr (.inr (some 134))]) (h1 := hp L s c e) rfl ?_
      obtain ⟨b1, h⟩ := gd_some h
      refine RuP.ald (f := fun t => t == 0) (j := l2) (a := 95) rfl rfl b1.1 b1.2 ?_
      obtain ⟨b2, h⟩ := gd_some h
      refine RuP.ald (f := fun t => t == 0) (j := s 95 l2.toNat) (a := 89) rfl rfl b2.1 b2.2 ?_
      obtain ⟨b3, h⟩ := gd_some h
      refine RuP.ast (f := fun t => t == 0) (j := s 84 72) (a := 134) rfl rfl (by decide) rfl rfl b3.1 b3.2 ?_
      refine RuP.step (pc' := 166) (ls' := [some (.inr (.inr (some 84))), some (.inl l1), some (.inl l2), some (.inl l3)]) (st' := [.inr (.inr (some 84))]) (h1 := hp L (ax_u2 s 134 ((s 84 72).toNat) (s 89 ((s 95 l2.toNat).toNat))) c e) rfl ?_
      refine RuP.step (pc' := 167) (ls' := [some (.inr (.inr (some 84))), some (.inl l1), some (.inl l2), some (.inl l3)]) (st' := [.inr (.inr (some 84)), .inr (.inr (some 84))]) (h1 := hp L (ax_u2 s 134 ((s 84 72).toNat) (s 89 ((s 95 l2.toNat).toNat))) c e) rfl ?_
      refine RuP.step (pc' := 170) (ls' := [some (.inr (.inr (some 84))), some (.inl l1), some (.inl l2), some (.inl l3)]) (st' := [.inl (s 84 72), .inr (.inr (some 84))]) (h1 := hp L (ax_u2 s 134 ((s 84 72).toNat) (s 89 ((s 95 l2.toNat).toNat))) c e) rfl ?_
      refine RuP.step (pc' := 171) (ls' := [some (.inr (.inr (some 84))), some (.inl l1), some (.inl l2), some (.inl l3)]) (st' := [.inl 1, .inl (s 84 72), .inr (.inr (some 84))]) (h1 := hp L (ax_u2 s 134 ((s 84 72).toNat) (s 89 ((s 95 l2.toNat).toNat))) c e) rfl ?_
      refine RuP.step (pc' := 172) (ls' := [some (.inr (.inr (some 84))), some (.inl l1), some (.inl l2), some (.inl l3)]) (st' := [.inl (ax_w32 ((s 84 72) + 1)), .inr (.inr (some 84))]) (h1 := hp L (ax_u2 s 134 ((s 84 72).toNat) (s 89 ((s 95 l2.toNat).toNat))) c e) rfl ?_
      refine RuP.step (pc' := 175) (ls' := [some (.inr (.inr (some 84))), some (.inl l1), some (.inl l2), some (.inl l3)]) (st' := []) (h1 := hp L (ax_u2 (ax_u2 s 134 ((s 84 72).toNat) (s 89 ((s 95 l2.toNat).toNat))) 84 72 (ax_w32 ((s 84 72) + 1))) c e) rfl ?_
      refine RuP.step (pc' := 176) (ls' := [some (.inr (.inr (some 84))), some (.inl l1), some (.inl l2), some (.inl l3)]) (st' := [.inr (.inr (some 84))]) (h1 := hp L (ax_u2 (ax_u2 s 134 ((s 84 72).toNat) (s 89 ((s 95 l2.toNat).toNat))) 84 72 (ax_w32 ((s 84 72) + 1))) c e) rfl ?_
      refine RuP.step (pc' := 177) (ls' := [some (.inr (.inr (some 84))), some (.inl l1), some (.inl l2), some (.inl l3)]) (st' := [.inl l2, .inr (.inr (some 84))]) (h1 := hp L (ax_u2 (ax_u2 s 134 ((s 84 72).toNat) (s 89 ((s 95 l2.toNat).toNat))) 84 72 (ax_w32 ((s 84 72) + 1))) c e) rfl ?_
      obtain ⟨q5, h1, h⟩ := bd_some h
      refine RuP.cI rfl ((ev_245 h1).up (by decide)) ?_
      refine RuP.step (pc' := 181) (ls' := [some (.inr (.inr (some 84))), some (.inl l1), some (.inl q5), some (.inl l3)]) (st' := []) (h1 := hp L (ax_u2 (ax_u2 s 134 ((s 84 72).toNat) (s 89 ((s 95 l2.toNat).toNat))) 84 72 (ax_w32 ((s 84 72) + 1))) c e) rfl ?_
      refine RuP.step (pc' := 182) (ls' := [some (.inr (.inr (some 84))), some (.inl l1), some (.inl q5), some (.inl l3)]) (st' := [.inl q5]) (h1 := hp L (ax_u2 (ax_u2 s 134 ((s 84 72).toNat) (s 89 ((s 95 l2.toNat).toNat))) 84 72 (ax_w32 ((s 84 72) + 1))) c e) rfl ?_
      refine RuP.step (pc' := 183) (ls' := [some (.inr (.inr (some 84))), some (.inl l1), some (.inl q5), some (.inl l3)]) (st' := [.inl l1, .inl q5]) (h1 := hp L (ax_u2 (ax_u2 s 134 ((s 84 72).toNat) (s 89 ((s 95 l2.toNat).toNat))) 84 72 (ax_w32 ((s 84 72) + 1))) c e) rfl ?_
      have J5 : ∀ v4_0 : Int, v4_0 = ((if q5 = l1 then 0 else 1) : Int) → RuP 3 tb_m214 191 [some (.inr (.inr (some 84))), some (.inl l1), some (.inl q5), some (.inl l3)] [.inl v4_0] (hp L (ax_u2 (ax_u2 s 134 ((s 84 72).toNat) (s 89 ((s 95 l2.toNat).toNat))) 84 72 (ax_w32 ((s 84 72) + 1))) c e) (oV L c e q) := by
        intro v4_0 ev4_0
        subst ev4_0
        refine RuP.step (pc' := 192) (ls' := [some (.inr (.inr (some 84))), some (.inl l1), some (.inl q5), some (.inl ((if q5 = l1 then 0 else 1) : Int))]) (st' := []) (h1 := hp L (ax_u2 (ax_u2 s 134 ((s 84 72).toNat) (s 89 ((s 95 l2.toNat).toNat))) 84 72 (ax_w32 ((s 84 72) + 1))) c e) rfl ?_
        refine RuP.step (pc' := 141) (ls' := [some (.inr (.inr (some 84))), some (.inl l1), some (.inl q5), some (.inl ((if q5 = l1 then 0 else 1) : Int))]) (st' := []) (h1 := hp L (ax_u2 (ax_u2 s 134 ((s 84 72).toNat) (s 89 ((s 95 l2.toNat).toNat))) 84 72 (ax_w32 ((s 84 72) + 1))) c e) rfl ?_
        exact ih _ _ _ _ _ h
      by_cases h5 : q5 = l1
      · refine RuP.jy rfl h5 ?_
        refine RuP.step (pc' := 191) (ls' := [some (.inr (.inr (some 84))), some (.inl l1), some (.inl q5), some (.inl l3)]) (st' := [.inl 0]) (h1 := hp L (ax_u2 (ax_u2 s 134 ((s 84 72).toNat) (s 89 ((s 95 l2.toNat).toNat))) 84 72 (ax_w32 ((s 84 72) + 1))) c e) rfl ?_
        exact J5 _ (by simp only [if_pos h5])
      · refine RuP.jn rfl h5 ?_
        refine RuP.step (pc' := 187) (ls' := [some (.inr (.inr (some 84))), some (.inl l1), some (.inl q5), some (.inl l3)]) (st' := [.inl 1]) (h1 := hp L (ax_u2 (ax_u2 s 134 ((s 84 72).toNat) (s 89 ((s 95 l2.toNat).toNat))) 84 72 (ax_w32 ((s 84 72) + 1))) c e) rfl ?_
        refine RuP.step (pc' := 191) (ls' := [some (.inr (.inr (some 84))), some (.inl l1), some (.inl q5), some (.inl l3)]) (st' := [.inl 1]) (h1 := hp L (ax_u2 (ax_u2 s 134 ((s 84 72).toNat) (s 89 ((s 95 l2.toNat).toNat))) 84 72 (ax_w32 ((s 84 72) + 1))) c e) rfl ?_
        exact J5 _ (by simp only [if_neg h5])
noncomputable def j_214_68 : Nat → Int → Sg → Option Sg
  | 0, _, _ => none
  | F + 1, l1, s =>
    (if s 84 19 ≤ l1 then
      j_214_201 s
    else
      (if 0 ≤ s 84 8 then
        j_214_201 s
      else
        (gd (0 ≤ l1 ∧ l1 < 4100) (
        (if ¬ (s 94 l1.toNat) = 2 then
          j_214_195 (j_214_68 F) l1 s
        else
          (gd (0 ≤ l1 ∧ l1 < 4100) (
          (gd (0 ≤ l1 ∧ l1 < 4100) (
          (if ax_w32 ((s 99 l1.toNat) + (s 103 l1.toNat)) ≤ 0 then
            j_214_195 (j_214_68 F) l1 s
          else
            ((f_244 l1 s).bind fun q2 =>
            ((f_245 l1 q2).bind fun q3 =>
            (if q3 < 0 then
              j_214_195 (j_214_68 F) l1 q2
            else
              (gd (0 ≤ l1 ∧ l1 < 4100) (
              (gd (0 ≤ q2 95 l1.toNat ∧ q2 95 l1.toNat < 8200) (
              ((some (f_235 (q2 89 ((q2 95 l1.toNat).toNat)) q2)).bind fun q4 =>
              j_214_141 (j_214_68 F) FU l1 l1 1 q4))))))))))))))))))
theorem bl_214_68 {L c : Nat} {e : Nat → Nat} : ∀ (F : Nat) (d2 d3 : Option ax_V) (l1 : Int) (s : Sg) (q : Sg), j_214_68 F l1 s = some q → RuP 3 tb_m214 68 [some (.inr (.inr (some 84))), some (.inl l1), d2, d3] [] (hp L s c e) (oV L c e q) := by
  intro F
  induction F with
  | zero =>
    intro d2 d3 l1 s q h
    rw [j_214_68] at h
    cases h
  | succ F ih =>
    intro d2 d3 l1 s q h
    rw [j_214_68] at h
    refine RuP.step (pc' := 69) (ls' := [some (.inr (.inr (some 84))), some (.inl l1), d2, d3]) (st' := [.inl l1]) (h1 := hp L s c e) rfl ?_
    refine RuP.step (pc' := 70) (ls' := [some (.inr (.inr (some 84))), some (.inl l1), d2, d3]) (st' := [.inr (.inr (some 84)), .inl l1]) (h1 := hp L s c e) rfl ?_
    refine RuP.step (pc' := 73) (ls' := [some (.inr (.inr (some 84))), some (.inl l1), d2, d3]) (st' := [.inl (s 84 19), .inl l1]) (h1 := hp L s c e) rfl ?_
    by_cases h0 : s 84 19 ≤ l1
    · rw [if_pos h0] at h
      refine RuP.jy rfl h0 ?_
      exact bl_214_201 _ _ _ _ _ h
    · rw [if_neg h0] at h
      refine RuP.jn rfl h0 ?_
      refine RuP.step (pc' := 77) (ls' := [some (.inr (.inr (some 84))), some (.inl l1), d2, d3]) (st' := [.inr (.inr (some 84))]) (h1 := hp L s c e) rfl ?_
      refine RuP.step (pc' := 80) (ls' := [some (.inr (.inr (some 84))), some (.inl l1), d2, d3]) (st' := [.inl (s 84 8)]) (h1 := hp L s c e) rfl ?_
      by_cases h1 : 0 ≤ s 84 8
      · rw [if_pos h1] at h
        refine RuP.jy rfl h1 ?_
        exact bl_214_201 _ _ _ _ _ h
      · rw [if_neg h1] at h
        refine RuP.jn rfl h1 ?_
        refine RuP.step (pc' := 84) (ls' := [some (.inr (.inr (some 84))), some (.inl l1), d2, d3]) (st' := [.inr (.inr (some 84))]) (h1 := hp L s c e) rfl ?_
        refine RuP.step (pc' := 87) (ls' := [some (.inr (.inr (some 84))), some (.inl l1), d2, d3]) (st' := [.inr (.inr (some 94))]) (h1 := hp L s c e) rfl ?_
        refine RuP.step (pc' := 88) (ls' := [some (.inr (.inr (some 84))), some (.inl l1), d2, d3]) (st' := [.inl l1, .inr (.inr (some 94))]) (h1 := hp L s c e) rfl ?_
        obtain ⟨b2, h⟩ := gd_some h
        refine RuP.ald (f := fun t => t == 0) (j := l1) (a := 94) rfl rfl b2.1 b2.2 ?_
        refine RuP.step (pc' := 90) (ls' := [some (.inr (.inr (some 84))), some (.inl l1), d2, d3]) (st' := [.inl 2, .inl (s 94 l1.toNat)]) (h1 := hp L s c e) rfl ?_
        by_cases h3 : ¬ (s 94 l1.toNat) = 2
        · rw [if_pos h3] at h
          refine RuP.jy rfl h3 ?_
          exact bl_214_195 ih _ _ _ _ _ h
        · rw [if_neg h3] at h
          refine RuP.jn rfl h3 ?_
          refine RuP.step (pc' := 94) (ls' := [some (.inr (.inr (some 84))), some (.inl l1), d2, d3]) (st' := [.inr (.inr (some 84))]) (h1 := hp L s c e) rfl ?_
          refine RuP.step (pc' := 97) (ls' := [some (.inr (.inr (some 84))), some (.inl l1), d2, d3]) (st' := [.inr (.inr (some 99))]) (h1 := hp L s c e) rfl ?_
          refine RuP.step (pc' := 98) (ls' := [some (.inr (.inr (some 84))), some (.inl l1), d2, d3]) (st' := [.inl l1, .inr (.inr (some 99))]) (h1 := hp L s c e) rfl ?_
          obtain ⟨b4, h⟩ := gd_some h
          refine RuP.ald (f := fun t => t == 0) (j := l1) (a := 99) rfl rfl b4.1 b4.2 ?_
          refine RuP.step (pc' := 100) (ls' := [some (.inr (.inr (some 84))), some (.inl l1), d2, d3]) (st' := [.inr (.inr (some 84)), .inl (s 99 l1.toNat)]) (h1 := hp L s c e) rfl ?_
          refine RuP.step (pc' := 103) (ls' := [some (.inr (.inr (some 84))), some (.inl l1), d2, d3]) (st' := [.inr (.inr (some 103)), .inl (s 99 l1.toNat)]) (h1 := hp L s c e) rfl ?_
          refine RuP.step (pc' := 104) (ls' := [some (.inr (.inr (some 84))), some (.inl l1), d2, d3]) (st' := [.inl l1, .inr (.inr (some 103)), .inl (s 99 l1.toNat)]) (h1 := hp L s c e) rfl ?_
          obtain ⟨b5, h⟩ := gd_some h
          refine RuP.ald (f := fun t => t == 0) (j := l1) (a := 103) rfl rfl b5.1 b5.2 ?_
          refine RuP.step (pc' := 106) (ls' := [some (.inr (.inr (some 84))), some (.inl l1), d2, d3]) (st' := [.inl (ax_w32 ((s 99 l1.toNat) + (s 103 l1.toNat)))]) (h1 := hp L s c e) rfl ?_
          by_cases h6 : ax_w32 ((s 99 l1.toNat) + (s 103 l1.toNat)) ≤ 0
          · rw [if_pos h6] at h
            refine RuP.jy rfl h6 ?_
            exact bl_214_195 ih _ _ _ _ _ h
          · rw [if_neg h6] at h
            refine RuP.jn rfl h6 ?_
            refine RuP.step (pc' := 110) (ls' := [some (.inr (.inr (some 84))), some (.inl l1), d2, d3]) (st' := [.inr (.inr (some 84))]) (h1 := hp L s c e) rfl ?_
            refine RuP.step (pc' := 111) (ls' := [some (.inr (.inr (some 84))), some (.inl l1), d2, d3]) (st' := [.inl l1, .inr (.inr (some 84))]) (h1 := hp L s c e) rfl ?_
            obtain ⟨q2, h1, h⟩ := bd_some h
            refine RuP.cV rfl ((ev_244 h1).up (by decide)) ?_
            refine RuP.step (pc' := 115) (ls' := [some (.inr (.inr (some 84))), some (.inl l1), d2, d3]) (st' := [.inr (.inr (some 84))]) (h1 := hp L q2 c e) rfl ?_
            refine RuP.step (pc' := 116) (ls' := [some (.inr (.inr (some 84))), some (.inl l1), d2, d3]) (st' := [.inl l1, .inr (.inr (some 84))]) (h1 := hp L q2 c e) rfl ?_
            obtain ⟨q3, h1, h⟩ := bd_some h
            refine RuP.cI rfl ((ev_245 h1).up (by decide)) ?_
            by_cases h7 : q3 < 0
            · rw [if_pos h7] at h
              refine RuP.jy rfl h7 ?_
              exact bl_214_195 ih _ _ _ _ _ h
            · rw [if_neg h7] at h
              refine RuP.jn rfl h7 ?_
              refine RuP.step (pc' := 123) (ls' := [some (.inr (.inr (some 84))), some (.inl l1), d2, d3]) (st' := [.inr (.inr (some 84))]) (h1 := hp L q2 c e) rfl ?_
              refine RuP.step (pc' := 124) (ls' := [some (.inr (.inr (some 84))), some (.inl l1), d2, d3]) (st' := [.inr (.inr (some 84)), .inr (.inr (some 84))]) (h1 := hp L q2 c e) rfl ?_
              refine RuP.step (pc' := 127) (ls' := [some (.inr (.inr (some 84))), some (.inl l1), d2, d3]) (st' := [.inr (.inr (some 89)), .inr (.inr (some 84))]) (h1 := hp L q2 c e) rfl ?_
              refine RuP.step (pc' := 128) (ls' := [some (.inr (.inr (some 84))), some (.inl l1), d2, d3]) (st' := [.inr (.inr (some 84)), .inr (.inr (some 89)), .inr (.inr (some 84))]) (h1 := hp L q2 c e) rfl ?_
              refine RuP.step (pc' := 131) (ls' := [some (.inr (.inr (some 84))), some (.inl l1), d2, d3]) (st' := [.inr (.inr (some 95)), .inr (.inr (some 89)), .inr (.inr (some 84))]) (h1 := hp L q2 c e) rfl ?_
              refine RuP.step (pc' := 132) (ls' := [some (.inr (.inr (some 84))), some (.inl l1), d2, d3]) (st' := [.inl l1, .inr (.inr (some 95)), .inr (.inr (some 89)), .inr (.inr (some 84))]) (h1 := hp L q2 c e) rfl ?_
              obtain ⟨b8, h⟩ := gd_some h
              refine RuP.ald (f := fun t => t == 0) (j := l1) (a := 95) rfl rfl b8.1 b8.2 ?_
              obtain ⟨b9, h⟩ := gd_some h
              refine RuP.ald (f := fun t => t == 0) (j := q2 95 l1.toNat) (a := 89) rfl rfl b9.1 b9.2 ?_
              obtain ⟨q4, h1, h⟩ := bd_some h
              refine RuP.cVe h1 rfl (EvP.v ((ev_235 (q2 89 ((q2 95 l1.toNat).toNat))).up (by decide))) ?_
              refine RuP.step (pc' := 138) (ls' := [some (.inr (.inr (some 84))), some (.inl l1), d2, d3]) (st' := [.inl l1]) (h1 := hp L q4 c e) rfl ?_
              refine RuP.step (pc' := 139) (ls' := [some (.inr (.inr (some 84))), some (.inl l1), some (.inl l1), d3]) (st' := []) (h1 := hp L q4 c e) rfl ?_
              refine RuP.step (pc' := 140) (ls' := [some (.inr (.inr (some 84))), some (.inl l1), some (.inl l1), d3]) (st' := [.inl 1]) (h1 := hp L q4 c e) rfl ?_
              refine RuP.step (pc' := 141) (ls' := [some (.inr (.inr (some 84))), some (.inl l1), some (.inl l1), some (.inl 1)]) (st' := []) (h1 := hp L q4 c e) rfl ?_
              exact bl_214_141 ih FU _ _ _ _ _ h
noncomputable def j_214_66 (s : Sg) : Option Sg :=
  j_214_68 FU 0 s
theorem bl_214_66 {L c : Nat} {e : Nat → Nat} : ∀ (d2 d3 : Option ax_V) (z1 : Int) (s : Sg) (q : Sg), j_214_66 s = some q → RuP 3 tb_m214 66 [some (.inr (.inr (some 84))), some (.inl z1), d2, d3] [] (hp L s c e) (oV L c e q) := by
  intro d2 d3 z1 s q h
  unfold j_214_66 at h
  refine RuP.step (pc' := 67) (ls' := [some (.inr (.inr (some 84))), some (.inl z1), d2, d3]) (st' := [.inl 0]) (h1 := hp L s c e) rfl ?_
  refine RuP.step (pc' := 68) (ls' := [some (.inr (.inr (some 84))), some (.inl 0), d2, d3]) (st' := []) (h1 := hp L s c e) rfl ?_
  exact bl_214_68 FU _ _ _ _ _ h
noncomputable def j_214_60 (k30 : (Int → Sg → Option Sg)) (l1 : Int) (s : Sg) : Option Sg :=
  k30 (ax_w32 (l1 + 1)) s
theorem bl_214_60 {L c : Nat} {e : Nat → Nat} {k30 : (Int → Sg → Option Sg)} (hk30 : ∀ (d2 d3 : Option ax_V) (l1 : Int) (s : Sg) (q : Sg), k30 l1 s = some q → RuP 3 tb_m214 30 [some (.inr (.inr (some 84))), some (.inl l1), d2, d3] [] (hp L s c e) (oV L c e q)) : ∀ (d2 d3 : Option ax_V) (l1 : Int) (s : Sg) (q : Sg), j_214_60 k30 l1 s = some q → RuP 3 tb_m214 60 [some (.inr (.inr (some 84))), some (.inl l1), d2, d3] [] (hp L s c e) (oV L c e q) := by
  intro d2 d3 l1 s q h
  unfold j_214_60 at h
  refine RuP.step (pc' := 63) (ls' := [some (.inr (.inr (some 84))), some (.inl (ax_w32 (l1 + 1))), d2, d3]) (st' := []) (h1 := hp L s c e) rfl ?_
  refine RuP.step (pc' := 30) (ls' := [some (.inr (.inr (some 84))), some (.inl (ax_w32 (l1 + 1))), d2, d3]) (st' := []) (h1 := hp L s c e) rfl ?_
  exact hk30 _ _ _ _ _ h
noncomputable def j_214_30 : Nat → Int → Sg → Option Sg
  | 0, _, _ => none
  | F + 1, l1, s =>
    (if s 84 47 ≤ l1 then
      j_214_66 s
    else
      (gd (0 ≤ l1 ∧ l1 < 8200) (
      (if ¬ (s 116 l1.toNat) = 3 then
        j_214_60 (j_214_30 F) l1 s
      else
        (gd (0 ≤ l1 ∧ l1 < 8200) (
        (gd (0 ≤ s 118 l1.toNat ∧ s 118 l1.toNat < 8200) (
        j_214_60 (j_214_30 F) l1 (ax_u2 s 135 ((s 118 l1.toNat).toNat) l1)))))))))
theorem bl_214_30 {L c : Nat} {e : Nat → Nat} : ∀ (F : Nat) (d2 d3 : Option ax_V) (l1 : Int) (s : Sg) (q : Sg), j_214_30 F l1 s = some q → RuP 3 tb_m214 30 [some (.inr (.inr (some 84))), some (.inl l1), d2, d3] [] (hp L s c e) (oV L c e q) := by
  intro F
  induction F with
  | zero =>
    intro d2 d3 l1 s q h
    rw [j_214_30] at h
    cases h
  | succ F ih =>
    intro d2 d3 l1 s q h
    rw [j_214_30] at h
    refine RuP.step (pc' := 31) (ls' := [some (.inr (.inr (some 84))), some (.inl l1), d2, d3]) (st' := [.inl l1]) (h1 := hp L s c e) rfl ?_
    refine RuP.step (pc' := 32) (ls' := [some (.inr (.inr (some 84))), some (.inl l1), d2, d3]) (st' := [.inr (.inr (some 84)), .inl l1]) (h1 := hp L s c e) rfl ?_
    refine RuP.step (pc' := 35) (ls' := [some (.inr (.inr (some 84))), some (.inl l1), d2, d3]) (st' := [.inl (s 84 47), .inl l1]) (h1 := hp L s c e) rfl ?_
    by_cases h0 : s 84 47 ≤ l1
    · rw [if_pos h0] at h
      refine RuP.jy rfl h0 ?_
      exact bl_214_66 _ _ _ _ _ h
    · rw [if_neg h0] at h
      refine RuP.jn rfl h0 ?_
      refine RuP.step (pc' := 39) (ls' := [some (.inr (.inr (some 84))), some (.inl l1), d2, d3]) (st' := [.inr (.inr (some 84))]) (h1 := hp L s c e) rfl ?_
      refine RuP.step (pc' := 42) (ls' := [some (.inr (.inr (some 84))), some (.inl l1), d2, d3]) (st' := [.inr (.inr (some 116))]) (h1 := hp L s c e) rfl ?_
      refine RuP.step (pc' := 43) (ls' := [some (.inr (.inr (some 84))), some (.inl l1), d2, d3]) (st' := [.inl l1, .inr (.inr (some 116))]) (h1 := hp L s c e) rfl ?_
      obtain ⟨b1, h⟩ := gd_some h
      refine RuP.ald (f := fun t => t == 0) (j := l1) (a := 116) rfl rfl b1.1 b1.2 ?_
      refine RuP.step (pc' := 45) (ls' := [some (.inr (.inr (some 84))), some (.inl l1), d2, d3]) (st' := [.inl 3, .inl (s 116 l1.toNat)]) (h1 := hp L s c e) rfl ?_
      by_cases h2 : ¬ (s 116 l1.toNat) = 3
      · rw [if_pos h2] at h
        refine RuP.jy rfl h2 ?_
        exact bl_214_60 ih _ _ _ _ _ h
      · rw [if_neg h2] at h
        refine RuP.jn rfl h2 ?_
        refine RuP.step (pc' := 49) (ls' := [some (.inr (.inr (some 84))), some (.inl l1), d2, d3]) (st' := [.inr (.inr (some 84))]) (h1 := hp L s c e) rfl ?_
        refine RuP.step (pc' := 52) (ls' := [some (.inr (.inr (some 84))), some (.inl l1), d2, d3]) (st' := [.inr (.inr (some 135))]) (h1 := hp L s c e) rfl ?_
        refine RuP.step (pc' := 53) (ls' := [some (.inr (.inr (some 84))), some (.inl l1), d2, d3]) (st' := [.inr (.inr (some 84)), .inr (.inr (some 135))]) (h1 := hp L s c e) rfl ?_
        refine RuP.step (pc' := 56) (ls' := [some (.inr (.inr (some 84))), some (.inl l1), d2, d3]) (st' := [.inr (.inr (some 118)), .inr (.inr (some 135))]) (h1 := hp L s c e) rfl ?_
        refine RuP.step (pc' := 57) (ls' := [some (.inr (.inr (some 84))), some (.inl l1), d2, d3]) (st' := [.inl l1, .inr (.inr (some 118)), .inr (.inr (some 135))]) (h1 := hp L s c e) rfl ?_
        obtain ⟨b3, h⟩ := gd_some h
        refine RuP.ald (f := fun t => t == 0) (j := l1) (a := 118) rfl rfl b3.1 b3.2 ?_
        refine RuP.step (pc' := 59) (ls' := [some (.inr (.inr (some 84))), some (.inl l1), d2, d3]) (st' := [.inl l1, .inl (s 118 l1.toNat), .inr (.inr (some 135))]) (h1 := hp L s c e) rfl ?_
        obtain ⟨b4, h⟩ := gd_some h
        refine RuP.ast (f := fun t => t == 0) (j := s 118 l1.toNat) (a := 135) rfl rfl (by decide) rfl rfl b4.1 b4.2 ?_
        exact bl_214_60 ih _ _ _ _ _ h
noncomputable def j_214_28 (s : Sg) : Option Sg :=
  j_214_30 FU 0 s
theorem bl_214_28 {L c : Nat} {e : Nat → Nat} : ∀ (d2 d3 : Option ax_V) (z1 : Int) (s : Sg) (q : Sg), j_214_28 s = some q → RuP 3 tb_m214 28 [some (.inr (.inr (some 84))), some (.inl z1), d2, d3] [] (hp L s c e) (oV L c e q) := by
  intro d2 d3 z1 s q h
  unfold j_214_28 at h
  refine RuP.step (pc' := 29) (ls' := [some (.inr (.inr (some 84))), some (.inl z1), d2, d3]) (st' := [.inl 0]) (h1 := hp L s c e) rfl ?_
  refine RuP.step (pc' := 30) (ls' := [some (.inr (.inr (some 84))), some (.inl 0), d2, d3]) (st' := []) (h1 := hp L s c e) rfl ?_
  exact bl_214_30 FU _ _ _ _ _ h
noncomputable def j_214_7 : Nat → Int → Sg → Option Sg
  | 0, _, _ => none
  | F + 1, l1, s =>
    (if s 84 11 < l1 then
      j_214_28 s
    else
      (gd (0 ≤ l1 ∧ l1 < 8200) (
      (j_214_7 F) (ax_w32 (l1 + 1)) (ax_u2 s 135 l1.toNat (-1)))))
theorem bl_214_7 {L c : Nat} {e : Nat → Nat} : ∀ (F : Nat) (d2 d3 : Option ax_V) (l1 : Int) (s : Sg) (q : Sg), j_214_7 F l1 s = some q → RuP 3 tb_m214 7 [some (.inr (.inr (some 84))), some (.inl l1), d2, d3] [] (hp L s c e) (oV L c e q) := by
  intro F
  induction F with
  | zero =>
    intro d2 d3 l1 s q h
    rw [j_214_7] at h
    cases h
  | succ F ih =>
    intro d2 d3 l1 s q h
    rw [j_214_7] at h
    refine RuP.step (pc' := 8) (ls' := [some (.inr (.inr (some 84))), some (.inl l1), d2, d3]) (st' := [.inl l1]) (h1 := hp L s c e) rfl ?_
    refine RuP.step (pc' := 9) (ls' := [some (.inr (.inr (some 84))), some (.inl l1), d2, d3]) (st' := [.inr (.inr (some 84)), .inl l1]) (h1 := hp L s c e) rfl ?_
    refine RuP.step (pc' := 12) (ls' := [some (.inr (.inr (some 84))), some (.inl l1), d2, d3]) (st' := [.inl (s 84 11), .inl l1]) (h1 := hp L s c e) rfl ?_
    by_cases h0 : s 84 11 < l1
    · rw [if_pos h0] at h
      refine RuP.jy rfl h0 ?_
      exact bl_214_28 _ _ _ _ _ h
    · rw [if_neg h0] at h
      refine RuP.jn rfl h0 ?_
      refine RuP.step (pc' := 16) (ls' := [some (.inr (.inr (some 84))), some (.inl l1), d2, d3]) (st' := [.inr (.inr (some 84))]) (h1 := hp L s c e) rfl ?_
      refine RuP.step (pc' := 19) (ls' := [some (.inr (.inr (some 84))), some (.inl l1), d2, d3]) (st' := [.inr (.inr (some 135))]) (h1 := hp L s c e) rfl ?_
      refine RuP.step (pc' := 20) (ls' := [some (.inr (.inr (some 84))), some (.inl l1), d2, d3]) (st' := [.inl l1, .inr (.inr (some 135))]) (h1 := hp L s c e) rfl ?_
      refine RuP.step (pc' := 21) (ls' := [some (.inr (.inr (some 84))), some (.inl l1), d2, d3]) (st' := [.inl (-1), .inl l1, .inr (.inr (some 135))]) (h1 := hp L s c e) rfl ?_
      obtain ⟨b1, h⟩ := gd_some h
      refine RuP.ast (f := fun t => t == 0) (j := l1) (a := 135) rfl rfl (by decide) rfl rfl b1.1 b1.2 ?_
      refine RuP.step (pc' := 25) (ls' := [some (.inr (.inr (some 84))), some (.inl (ax_w32 (l1 + 1))), d2, d3]) (st' := []) (h1 := hp L (ax_u2 s 135 l1.toNat (-1)) c e) rfl ?_
      refine RuP.step (pc' := 7) (ls' := [some (.inr (.inr (some 84))), some (.inl (ax_w32 (l1 + 1))), d2, d3]) (st' := []) (h1 := hp L (ax_u2 s 135 l1.toNat (-1)) c e) rfl ?_
      exact ih _ _ _ _ _ h
noncomputable def f_214 (s : Sg) : Option Sg :=
  j_214_7 FU 0 (ax_u2 s 84 72 0)
theorem ev_214 {L c : Nat} {e : Nat → Nat} {s : Sg} {q : Sg} (h : f_214 s = some q) : EvP 4 214 [.inr (.inr (some 84))] (hp L s c e) (oV L c e q) := by
  unfold f_214 at h
  refine EvP.of (μ := tb_m214) (ls := [some (.inr (.inr (some 84))), none, none, none]) rfl (Nat.le_of_ble_eq_true rfl) rfl ?_
  refine RuP.step (pc' := 1) (ls' := [some (.inr (.inr (some 84))), none, none, none]) (st' := [.inr (.inr (some 84))]) (h1 := hp L s c e) rfl ?_
  refine RuP.step (pc' := 2) (ls' := [some (.inr (.inr (some 84))), none, none, none]) (st' := [.inl 0, .inr (.inr (some 84))]) (h1 := hp L s c e) rfl ?_
  refine RuP.step (pc' := 5) (ls' := [some (.inr (.inr (some 84))), none, none, none]) (st' := []) (h1 := hp L (ax_u2 s 84 72 0) c e) rfl ?_
  refine RuP.step (pc' := 6) (ls' := [some (.inr (.inr (some 84))), none, none, none]) (st' := [.inl 0]) (h1 := hp L (ax_u2 s 84 72 0) c e) rfl ?_
  refine RuP.step (pc' := 7) (ls' := [some (.inr (.inr (some 84))), some (.inl 0), none, none]) (st' := []) (h1 := hp L (ax_u2 s 84 72 0) c e) rfl ?_
  exact bl_214_7 FU _ _ _ _ _ h
/-- MachineTextModel.checkBits()V -/
noncomputable def j_216_94 (s : Sg) : Option Sg :=
  ((f_237 10 s).bind fun q1 =>
  some q1)
theorem bl_216_94 {L c : Nat} {e : Nat → Nat} : ∀ (d2 d3 : Option ax_V) (z1 : Int) (s : Sg) (q : Sg), j_216_94 s = some q → RuP 4 tb_m216 94 [some (.inr (.inr (some 84))), some (.inl z1), d2, d3] [] (hp L s c e) (oV L c e q) := by
  intro d2 d3 z1 s q h
  unfold j_216_94 at h
  refine RuP.step (pc' := 95) (ls' := [some (.inr (.inr (some 84))), some (.inl z1), d2, d3]) (st' := [.inr (.inr (some 84))]) (h1 := hp L s c e) rfl ?_
  refine RuP.step (pc' := 97) (ls' := [some (.inr (.inr (some 84))), some (.inl z1), d2, d3]) (st' := [.inl 10, .inr (.inr (some 84))]) (h1 := hp L s c e) rfl ?_
  obtain ⟨q1, h1, h⟩ := bd_some h
  refine RuP.cV rfl ((ev_237 h1).up (by decide)) ?_
  cases h
  exact RuP.dV rfl
noncomputable def j_216_88 (k2 : (Int → Sg → Option Sg)) (l1 : Int) (s : Sg) : Option Sg :=
  k2 (ax_w32 (l1 + 1)) s
theorem bl_216_88 {L c : Nat} {e : Nat → Nat} {k2 : (Int → Sg → Option Sg)} (hk2 : ∀ (d2 d3 : Option ax_V) (l1 : Int) (s : Sg) (q : Sg), k2 l1 s = some q → RuP 4 tb_m216 2 [some (.inr (.inr (some 84))), some (.inl l1), d2, d3] [] (hp L s c e) (oV L c e q)) : ∀ (d2 d3 : Option ax_V) (l1 : Int) (s : Sg) (q : Sg), j_216_88 k2 l1 s = some q → RuP 4 tb_m216 88 [some (.inr (.inr (some 84))), some (.inl l1), d2, d3] [] (hp L s c e) (oV L c e q) := by
  intro d2 d3 l1 s q h
  unfold j_216_88 at h
  refine RuP.step (pc' := 91) (ls' := [some (.inr (.inr (some 84))), some (.inl (ax_w32 (l1 + 1))), d2, d3]) (st' := []) (h1 := hp L s c e) rfl ?_
  refine RuP.step (pc' := 2) (ls' := [some (.inr (.inr (some 84))), some (.inl (ax_w32 (l1 + 1))), d2, d3]) (st' := []) (h1 := hp L s c e) rfl ?_
  exact hk2 _ _ _ _ _ h
noncomputable def j_216_60 (k2 : (Int → Sg → Option Sg)) (l1 l2 : Int) (s : Sg) : Option Sg :=
  ((f_218 (s 84 30) s).bind fun q2 =>
  (if l2 = ax_w32 q2 then
    j_216_88 k2 l1 s
  else
    (gd (0 ≤ l1 ∧ l1 < 4100) (
    (gd (0 ≤ s 95 l1.toNat ∧ s 95 l1.toNat < 8200) (
    ((some (f_235 (s 89 ((s 95 l1.toNat).toNat)) s)).bind fun q3 =>
    j_216_88 k2 l1 q3)))))))
theorem bl_216_60 {L c : Nat} {e : Nat → Nat} {k2 : (Int → Sg → Option Sg)} (hk2 : ∀ (d2 d3 : Option ax_V) (l1 : Int) (s : Sg) (q : Sg), k2 l1 s = some q → RuP 4 tb_m216 2 [some (.inr (.inr (some 84))), some (.inl l1), d2, d3] [] (hp L s c e) (oV L c e q)) : ∀ (z3 : Int) (l1 l2 : Int) (s : Sg) (q : Sg), j_216_60 k2 l1 l2 s = some q → RuP 4 tb_m216 60 [some (.inr (.inr (some 84))), some (.inl l1), some (.inl l2), some (.inl z3)] [] (hp L s c e) (oV L c e q) := by
  intro z3 l1 l2 s q h
  unfold j_216_60 at h
  refine RuP.step (pc' := 61) (ls' := [some (.inr (.inr (some 84))), some (.inl l1), some (.inl l2), some (.inl z3)]) (st' := [.inl l2]) (h1 := hp L s c e) rfl ?_
  refine RuP.step (pc' := 62) (ls' := [some (.inr (.inr (some 84))), some (.inl l1), some (.inl l2), some (.inl z3)]) (st' := [.inr (.inr (some 84)), .inl l2]) (h1 := hp L s c e) rfl ?_
  refine RuP.step (pc' := 63) (ls' := [some (.inr (.inr (some 84))), some (.inl l1), some (.inl l2), some (.inl z3)]) (st' := [.inr (.inr (some 84)), .inr (.inr (some 84)), .inl l2]) (h1 := hp L s c e) rfl ?_
  refine RuP.step (pc' := 66) (ls' := [some (.inr (.inr (some 84))), some (.inl l1), some (.inl l2), some (.inl z3)]) (st' := [.inl (s 84 30), .inr (.inr (some 84)), .inl l2]) (h1 := hp L s c e) rfl ?_
  obtain ⟨q2, h1, h⟩ := bd_some h
  refine RuP.cJ rfl ((ev_218 h1).up (by decide)) ?_
  refine RuP.step (pc' := 70) (ls' := [some (.inr (.inr (some 84))), some (.inl l1), some (.inl l2), some (.inl z3)]) (st' := [.inl (ax_w32 q2), .inl l2]) (h1 := hp L s c e) rfl ?_
  by_cases h0 : l2 = ax_w32 q2
  · rw [if_pos h0] at h
    refine RuP.jy rfl h0 ?_
    exact bl_216_88 hk2 _ _ _ _ _ h
  · rw [if_neg h0] at h
    refine RuP.jn rfl h0 ?_
    refine RuP.step (pc' := 74) (ls' := [some (.inr (.inr (some 84))), some (.inl l1), some (.inl l2), some (.inl z3)]) (st' := [.inr (.inr (some 84))]) (h1 := hp L s c e) rfl ?_
    refine RuP.step (pc' := 75) (ls' := [some (.inr (.inr (some 84))), some (.inl l1), some (.inl l2), some (.inl z3)]) (st' := [.inr (.inr (some 84)), .inr (.inr (some 84))]) (h1 := hp L s c e) rfl ?_
    refine RuP.step (pc' := 78) (ls' := [some (.inr (.inr (some 84))), some (.inl l1), some (.inl l2), some (.inl z3)]) (st' := [.inr (.inr (some 89)), .inr (.inr (some 84))]) (h1 := hp L s c e) rfl ?_
    refine RuP.step (pc' := 79) (ls' := [some (.inr (.inr (some 84))), some (.inl l1), some (.inl l2), some (.inl z3)]) (st' := [.inr (.inr (some 84)), .inr (.inr (some 89)), .inr (.inr (some 84))]) (h1 := hp L s c e) rfl ?_
    refine RuP.step (pc' := 82) (ls' := [some (.inr (.inr (some 84))), some (.inl l1), some (.inl l2), some (.inl z3)]) (st' := [.inr (.inr (some 95)), .inr (.inr (some 89)), .inr (.inr (some 84))]) (h1 := hp L s c e) rfl ?_
    refine RuP.step (pc' := 83) (ls' := [some (.inr (.inr (some 84))), some (.inl l1), some (.inl l2), some (.inl z3)]) (st' := [.inl l1, .inr (.inr (some 95)), .inr (.inr (some 89)), .inr (.inr (some 84))]) (h1 := hp L s c e) rfl ?_
    obtain ⟨b1, h⟩ := gd_some h
    refine RuP.ald (f := fun t => t == 0) (j := l1) (a := 95) rfl rfl b1.1 b1.2 ?_
    obtain ⟨b2, h⟩ := gd_some h
    refine RuP.ald (f := fun t => t == 0) (j := s 95 l1.toNat) (a := 89) rfl rfl b2.1 b2.2 ?_
    obtain ⟨q3, h1, h⟩ := bd_some h
    refine RuP.cVe h1 rfl (EvP.v ((ev_235 (s 89 ((s 95 l1.toNat).toNat))).up (by decide))) ?_
    exact bl_216_88 hk2 _ _ _ _ _ h
noncomputable def j_216_29 (k2 : (Int → Sg → Option Sg)) : Nat → Int → Int → Int → Sg → Option Sg
  | 0, _, _, _, _ => none
  | F + 1, l1, l2, l3, s =>
    (gd (0 ≤ l1 ∧ l1 < 4100) (
    (gd (0 ≤ l1 ∧ l1 < 4100) (
    (if ax_w32 ((s 98 l1.toNat) + (s 99 l1.toNat)) ≤ l3 then
      j_216_60 k2 l1 l2 s
    else
      ((f_219 l3 s).bind fun q4 =>
      (j_216_29 k2 F) l1 (ax_w32 (l2 + q4)) (ax_w32 (l3 + 1)) s))))))
theorem bl_216_29 {L c : Nat} {e : Nat → Nat} {k2 : (Int → Sg → Option Sg)} (hk2 : ∀ (d2 d3 : Option ax_V) (l1 : Int) (s : Sg) (q : Sg), k2 l1 s = some q → RuP 4 tb_m216 2 [some (.inr (.inr (some 84))), some (.inl l1), d2, d3] [] (hp L s c e) (oV L c e q)) : ∀ (F : Nat) (l1 l2 l3 : Int) (s : Sg) (q : Sg), j_216_29 k2 F l1 l2 l3 s = some q → RuP 4 tb_m216 29 [some (.inr (.inr (some 84))), some (.inl l1), some (.inl l2), some (.inl l3)] [] (hp L s c e) (oV L c e q) := by
  intro F
  induction F with
  | zero =>
    intro l1 l2 l3 s q h
    rw [j_216_29] at h
    cases h
  | succ F ih =>
    intro l1 l2 l3 s q h
    rw [j_216_29] at h
    refine RuP.step (pc' := 30) (ls' := [some (.inr (.inr (some 84))), some (.inl l1), some (.inl l2), some (.inl l3)]) (st' := [.inl l3]) (h1 := hp L s c e) rfl ?_
    refine RuP.step (pc' := 31) (ls' := [some (.inr (.inr (some 84))), some (.inl l1), some (.inl l2), some (.inl l3)]) (st' := [.inr (.inr (some 84)), .inl l3]) (h1 := hp L s c e) rfl ?_
    refine RuP.step (pc' := 34) (ls' := [some (.inr (.inr (some 84))), some (.inl l1), some (.inl l2), some (.inl l3)]) (st' := [.inr (.inr (some 98)), .inl l3]) (h1 := hp L s c e) rfl ?_
    refine RuP.step (pc' := 35) (ls' := [some (.inr (.inr (some 84))), some (.inl l1), some (.inl l2), some (.inl l3)]) (st' := [.inl l1, .inr (.inr (some 98)), .inl l3]) (h1 := hp L s c e) rfl ?_
    obtain ⟨b0, h⟩ := gd_some h
    refine RuP.ald (f := fun t => t == 0) (j := l1) (a := 98) rfl rfl b0.1 b0.2 ?_
    refine RuP.step (pc' := 37) (ls' := [some (.inr (.inr (some 84))), some (.inl l1), some (.inl l2), some (.inl l3)]) (st' := [.inr (.inr (some 84)), .inl (s 98 l1.toNat), .inl l3]) (h1 := hp L s c e) rfl ?_
    refine RuP.step (pc' := 40) (ls' := [some (.inr (.inr (some 84))), some (.inl l1), some (.inl l2), some (.inl l3)]) (st' := [.inr (.inr (some 99)), .inl (s 98 l1.toNat), .inl l3]) (h1 := hp L s c e) rfl ?_
    refine RuP.step (pc' := 41) (ls' := [some (.inr (.inr (some 84))), some (.inl l1), some (.inl l2), some (.inl l3)]) (st' := [.inl l1, .inr (.inr (some 99)), .inl (s 98 l1.toNat), .inl l3]) (h1 := hp L s c e) rfl ?_
    obtain ⟨b1, h⟩ := gd_some h
    refine RuP.ald (f := fun t => t == 0) (j := l1) (a := 99) rfl rfl b1.1 b1.2 ?_
    refine RuP.step (pc' := 43) (ls' := [some (.inr (.inr (some 84))), some (.inl l1), some (.inl l2), some (.inl l3)]) (st' := [.inl (ax_w32 ((s 98 l1.toNat) + (s 99 l1.toNat))), .inl l3]) (h1 := hp L s c e) rfl ?_
    by_cases h2 : ax_w32 ((s 98 l1.toNat) + (s 99 l1.toNat)) ≤ l3
    · rw [if_pos h2] at h
      refine RuP.jy rfl h2 ?_
      exact bl_216_60 hk2 _ _ _ _ _ h
    · rw [if_neg h2] at h
      refine RuP.jn rfl h2 ?_
      refine RuP.step (pc' := 47) (ls' := [some (.inr (.inr (some 84))), some (.inl l1), some (.inl l2), some (.inl l3)]) (st' := [.inl l2]) (h1 := hp L s c e) rfl ?_
      refine RuP.step (pc' := 48) (ls' := [some (.inr (.inr (some 84))), some (.inl l1), some (.inl l2), some (.inl l3)]) (st' := [.inr (.inr (some 84)), .inl l2]) (h1 := hp L s c e) rfl ?_
      refine RuP.step (pc' := 49) (ls' := [some (.inr (.inr (some 84))), some (.inl l1), some (.inl l2), some (.inl l3)]) (st' := [.inl l3, .inr (.inr (some 84)), .inl l2]) (h1 := hp L s c e) rfl ?_
      obtain ⟨q4, h1, h⟩ := bd_some h
      refine RuP.cI rfl ((ev_219 h1).up (by decide)) ?_
      refine RuP.step (pc' := 53) (ls' := [some (.inr (.inr (some 84))), some (.inl l1), some (.inl l2), some (.inl l3)]) (st' := [.inl (ax_w32 (l2 + q4))]) (h1 := hp L s c e) rfl ?_
      refine RuP.step (pc' := 54) (ls' := [some (.inr (.inr (some 84))), some (.inl l1), some (.inl (ax_w32 (l2 + q4))), some (.inl l3)]) (st' := []) (h1 := hp L s c e) rfl ?_
      refine RuP.step (pc' := 57) (ls' := [some (.inr (.inr (some 84))), some (.inl l1), some (.inl (ax_w32 (l2 + q4))), some (.inl (ax_w32 (l3 + 1)))]) (st' := []) (h1 := hp L s c e) rfl ?_
      refine RuP.step (pc' := 29) (ls' := [some (.inr (.inr (some 84))), some (.inl l1), some (.inl (ax_w32 (l2 + q4))), some (.inl (ax_w32 (l3 + 1)))]) (st' := []) (h1 := hp L s c e) rfl ?_
      exact ih _ _ _ _ _ h
noncomputable def j_216_2 : Nat → Int → Sg → Option Sg
  | 0, _, _ => none
  | F + 1, l1, s =>
    (if s 84 19 ≤ l1 then
      j_216_94 s
    else
      (gd (0 ≤ l1 ∧ l1 < 4100) (
      (if ¬ (s 94 l1.toNat) = 3 then
        j_216_88 (j_216_2 F) l1 s
      else
        (gd (0 ≤ l1 ∧ l1 < 4100) (
        j_216_29 (j_216_2 F) FU l1 0 (s 98 l1.toNat) s))))))
theorem bl_216_2 {L c : Nat} {e : Nat → Nat} : ∀ (F : Nat) (d2 d3 : Option ax_V) (l1 : Int) (s : Sg) (q : Sg), j_216_2 F l1 s = some q → RuP 4 tb_m216 2 [some (.inr (.inr (some 84))), some (.inl l1), d2, d3] [] (hp L s c e) (oV L c e q) := by
  intro F
  induction F with
  | zero =>
    intro d2 d3 l1 s q h
    rw [j_216_2] at h
    cases h
  | succ F ih =>
    intro d2 d3 l1 s q h
    rw [j_216_2] at h
    refine RuP.step (pc' := 3) (ls' := [some (.inr (.inr (some 84))), some (.inl l1), d2, d3]) (st' := [.inl l1]) (h1 := hp L s c e) rfl ?_
    refine RuP.step (pc' := 4) (ls' := [some (.inr (.inr (some 84))), some (.inl l1), d2, d3]) (st' := [.inr (.inr (some 84)), .inl l1]) (h1 := hp L s c e) rfl ?_
    refine RuP.step (pc' := 7) (ls' := [some (.inr (.inr (some 84))), some (.inl l1), d2, d3]) (st' := [.inl (s 84 19), .inl l1]) (h1 := hp L s c e) rfl ?_
    by_cases h0 : s 84 19 ≤ l1
    · rw [if_pos h0] at h
      refine RuP.jy rfl h0 ?_
      exact bl_216_94 _ _ _ _ _ h
    · rw [if_neg h0] at h
      refine RuP.jn rfl h0 ?_
      refine RuP.step (pc' := 11) (ls' := [some (.inr (.inr (some 84))), some (.inl l1), d2, d3]) (st' := [.inr (.inr (some 84))]) (h1 := hp L s c e) rfl ?_
      refine RuP.step (pc' := 14) (ls' := [some (.inr (.inr (some 84))), some (.inl l1), d2, d3]) (st' := [.inr (.inr (some 94))]) (h1 := hp L s c e) rfl ?_
      refine RuP.step (pc' := 15) (ls' := [some (.inr (.inr (some 84))), some (.inl l1), d2, d3]) (st' := [.inl l1, .inr (.inr (some 94))]) (h1 := hp L s c e) rfl ?_
      obtain ⟨b1, h⟩ := gd_some h
      refine RuP.ald (f := fun t => t == 0) (j := l1) (a := 94) rfl rfl b1.1 b1.2 ?_
      refine RuP.step (pc' := 17) (ls' := [some (.inr (.inr (some 84))), some (.inl l1), d2, d3]) (st' := [.inl 3, .inl (s 94 l1.toNat)]) (h1 := hp L s c e) rfl ?_
      by_cases h2 : ¬ (s 94 l1.toNat) = 3
      · rw [if_pos h2] at h
        refine RuP.jy rfl h2 ?_
        exact bl_216_88 ih _ _ _ _ _ h
      · rw [if_neg h2] at h
        refine RuP.jn rfl h2 ?_
        refine RuP.step (pc' := 21) (ls' := [some (.inr (.inr (some 84))), some (.inl l1), d2, d3]) (st' := [.inl 0]) (h1 := hp L s c e) rfl ?_
        refine RuP.step (pc' := 22) (ls' := [some (.inr (.inr (some 84))), some (.inl l1), some (.inl 0), d3]) (st' := []) (h1 := hp L s c e) rfl ?_
        refine RuP.step (pc' := 23) (ls' := [some (.inr (.inr (some 84))), some (.inl l1), some (.inl 0), d3]) (st' := [.inr (.inr (some 84))]) (h1 := hp L s c e) rfl ?_
        refine RuP.step (pc' := 26) (ls' := [some (.inr (.inr (some 84))), some (.inl l1), some (.inl 0), d3]) (st' := [.inr (.inr (some 98))]) (h1 := hp L s c e) rfl ?_
        refine RuP.step (pc' := 27) (ls' := [some (.inr (.inr (some 84))), some (.inl l1), some (.inl 0), d3]) (st' := [.inl l1, .inr (.inr (some 98))]) (h1 := hp L s c e) rfl ?_
        obtain ⟨b3, h⟩ := gd_some h
        refine RuP.ald (f := fun t => t == 0) (j := l1) (a := 98) rfl rfl b3.1 b3.2 ?_
        refine RuP.step (pc' := 29) (ls' := [some (.inr (.inr (some 84))), some (.inl l1), some (.inl 0), some (.inl (s 98 l1.toNat))]) (st' := []) (h1 := hp L s c e) rfl ?_
        exact bl_216_29 ih FU _ _ _ _ _ h
noncomputable def f_216 (s : Sg) : Option Sg :=
  j_216_2 FU 0 s
theorem ev_216 {L c : Nat} {e : Nat → Nat} {s : Sg} {q : Sg} (h : f_216 s = some q) : EvP 5 216 [.inr (.inr (some 84))] (hp L s c e) (oV L c e q) := by
  unfold f_216 at h
  refine EvP.of (μ := tb_m216) (ls := [some (.inr (.inr (some 84))), none, none, none]) rfl (Nat.le_of_ble_eq_true rfl) rfl ?_
  refine RuP.step (pc' := 1) (ls' := [some (.inr (.inr (some 84))), none, none, none]) (st' := [.inl 0]) (h1 := hp L s c e) rfl ?_
  refine RuP.step (pc' := 2) (ls' := [some (.inr (.inr (some 84))), some (.inl 0), none, none]) (st' := []) (h1 := hp L s c e) rfl ?_
  exact bl_216_2 FU _ _ _ _ _ h
/-- MachineTextModel.work(I)I -/
noncomputable def j_247_231 (l1 l3 : Int) (s : Sg) : Option Int :=
  (gd (0 ≤ l1 ∧ l1 < 8200) (
  ((f_218 (s 119 l1.toNat) s).bind fun q1 =>
  (if ax_cmp q1 l3 < 0 then
    some (-2)
  else
    (gd (0 ≤ l1 ∧ l1 < 8200) (
    ((f_218 (s 119 l1.toNat) s).bind fun q2 =>
    some (ax_w32 q2))))))))
set_option maxRecDepth 20000 in
theorem bl_247_231 {L c : Nat} {e : Nat → Nat} : ∀ (d5 d6 : Option ax_V) (z2 z4 : Int) (l1 l3 : Int) (s : Sg) (q : Int), j_247_231 l1 l3 s = some q → RuP 4 tb_m247 231 [some (.inr (.inr (some 84))), some (.inl l1), some (.inl z2), some (.inl l3), some (.inl z4), d5, d6] [] (hp L s c e) (oI L c e (q, s)) := by
  intro d5 d6 z2 z4 l1 l3 s q h
  unfold j_247_231 at h
  refine RuP.step (pc' := 232) (ls' := [some (.inr (.inr (some 84))), some (.inl l1), some (.inl z2), some (.inl l3), some (.inl z4), d5, d6]) (st' := [.inr (.inr (some 84))]) (h1 := hp L s c e) rfl ?_
  refine RuP.step (pc' := 233) (ls' := [some (.inr (.inr (some 84))), some (.inl l1), some (.inl z2), some (.inl l3), some (.inl z4), d5, d6]) (st' := [.inr (.inr (some 84)), .inr (.inr (some 84))]) (h1 := hp L s c e) rfl ?_
  refine RuP.step (pc' := 236) (ls' := [some (.inr (.inr (some 84))), some (.inl l1), some (.inl z2), some (.inl l3), some (.inl z4), d5, d6]) (st' := [.inr (.inr (some 119)), .inr (.inr (some 84))]) (h1 := hp L s c e) rfl ?_
  refine RuP.step (pc' := 237) (ls' := [some (.inr (.inr (some 84))), some (.inl l1), some (.inl z2), some (.inl l3), some (.inl z4), d5, d6]) (st' := [.inl l1, .inr (.inr (some 119)), .inr (.inr (some 84))]) (h1 := hp L s c e) rfl ?_
  obtain ⟨b0, h⟩ := gd_some h
  refine RuP.ald (f := fun t => t == 0) (j := l1) (a := 119) rfl rfl b0.1 b0.2 ?_
  obtain ⟨q1, h1, h⟩ := bd_some h
  refine RuP.cJ rfl ((ev_218 h1).up (by decide)) ?_
  refine RuP.step (pc' := 242) (ls' := [some (.inr (.inr (some 84))), some (.inl l1), some (.inl z2), some (.inl l3), some (.inl z4), d5, d6]) (st' := [.inl l3, .inr (.inl q1)]) (h1 := hp L s c e) rfl ?_
  refine RuP.step (pc' := 243) (ls' := [some (.inr (.inr (some 84))), some (.inl l1), some (.inl z2), some (.inl l3), some (.inl z4), d5, d6]) (st' := [.inr (.inl l3), .inr (.inl q1)]) (h1 := hp L s c e) rfl ?_
  refine RuP.step (pc' := 244) (ls' := [some (.inr (.inr (some 84))), some (.inl l1), some (.inl z2), some (.inl l3), some (.inl z4), d5, d6]) (st' := [.inl (ax_cmp q1 l3)]) (h1 := hp L s c e) rfl ?_
  by_cases h1 : ax_cmp q1 l3 < 0
  · rw [if_pos h1] at h
    refine RuP.jy rfl h1 ?_
    refine RuP.step (pc' := 263) (ls' := [some (.inr (.inr (some 84))), some (.inl l1), some (.inl z2), some (.inl l3), some (.inl z4), d5, d6]) (st' := [.inl (-2)]) (h1 := hp L s c e) rfl ?_
    cases h
    exact RuP.dI rfl
  · rw [if_neg h1] at h
    refine RuP.jn rfl h1 ?_
    refine RuP.step (pc' := 248) (ls' := [some (.inr (.inr (some 84))), some (.inl l1), some (.inl z2), some (.inl l3), some (.inl z4), d5, d6]) (st' := [.inr (.inr (some 84))]) (h1 := hp L s c e) rfl ?_
    refine RuP.step (pc' := 249) (ls' := [some (.inr (.inr (some 84))), some (.inl l1), some (.inl z2), some (.inl l3), some (.inl z4), d5, d6]) (st' := [.inr (.inr (some 84)), .inr (.inr (some 84))]) (h1 := hp L s c e) rfl ?_
    refine RuP.step (pc' := 252) (ls' := [some (.inr (.inr (some 84))), some (.inl l1), some (.inl z2), some (.inl l3), some (.inl z4), d5, d6]) (st' := [.inr (.inr (some 119)), .inr (.inr (some 84))]) (h1 := hp L s c e) rfl ?_
    refine RuP.step (pc' := 253) (ls' := [some (.inr (.inr (some 84))), some (.inl l1), some (.inl z2), some (.inl l3), some (.inl z4), d5, d6]) (st' := [.inl l1, .inr (.inr (some 119)), .inr (.inr (some 84))]) (h1 := hp L s c e) rfl ?_
    obtain ⟨b2, h⟩ := gd_some h
    refine RuP.ald (f := fun t => t == 0) (j := l1) (a := 119) rfl rfl b2.1 b2.2 ?_
    obtain ⟨q2, h1, h⟩ := bd_some h
    refine RuP.cJ rfl ((ev_218 h1).up (by decide)) ?_
    refine RuP.step (pc' := 258) (ls' := [some (.inr (.inr (some 84))), some (.inl l1), some (.inl z2), some (.inl l3), some (.inl z4), d5, d6]) (st' := [.inl (ax_w32 q2)]) (h1 := hp L s c e) rfl ?_
    refine RuP.step (pc' := 263) (ls' := [some (.inr (.inr (some 84))), some (.inl l1), some (.inl z2), some (.inl l3), some (.inl z4), d5, d6]) (st' := [.inl (ax_w32 q2)]) (h1 := hp L s c e) rfl ?_
    cases h
    exact RuP.dI rfl
noncomputable def j_247_305 (l5 : Int) (s : Sg) : Option Int :=
  (if 32 < l5 then
    some (-2)
  else
    some l5)
set_option maxRecDepth 20000 in
theorem bl_247_305 {L c : Nat} {e : Nat → Nat} : ∀ (z1 z2 z3 z4 z6 : Int) (l5 : Int) (s : Sg) (q : Int), j_247_305 l5 s = some q → RuP 4 tb_m247 305 [some (.inr (.inr (some 84))), some (.inl z1), some (.inl z2), some (.inl z3), some (.inl z4), some (.inl l5), some (.inl z6)] [] (hp L s c e) (oI L c e (q, s)) := by
  intro z1 z2 z3 z4 z6 l5 s q h
  unfold j_247_305 at h
  refine RuP.step (pc' := 307) (ls' := [some (.inr (.inr (some 84))), some (.inl z1), some (.inl z2), some (.inl z3), some (.inl z4), some (.inl l5), some (.inl z6)]) (st' := [.inl l5]) (h1 := hp L s c e) rfl ?_
  refine RuP.step (pc' := 309) (ls' := [some (.inr (.inr (some 84))), some (.inl z1), some (.inl z2), some (.inl z3), some (.inl z4), some (.inl l5), some (.inl z6)]) (st' := [.inl 32, .inl l5]) (h1 := hp L s c e) rfl ?_
  by_cases h0 : 32 < l5
  · rw [if_pos h0] at h
    refine RuP.jy rfl h0 ?_
    refine RuP.step (pc' := 319) (ls' := [some (.inr (.inr (some 84))), some (.inl z1), some (.inl z2), some (.inl z3), some (.inl z4), some (.inl l5), some (.inl z6)]) (st' := [.inl (-2)]) (h1 := hp L s c e) rfl ?_
    cases h
    exact RuP.dI rfl
  · rw [if_neg h0] at h
    refine RuP.jn rfl h0 ?_
    refine RuP.step (pc' := 314) (ls' := [some (.inr (.inr (some 84))), some (.inl z1), some (.inl z2), some (.inl z3), some (.inl z4), some (.inl l5), some (.inl z6)]) (st' := [.inl l5]) (h1 := hp L s c e) rfl ?_
    refine RuP.step (pc' := 319) (ls' := [some (.inr (.inr (some 84))), some (.inl z1), some (.inl z2), some (.inl z3), some (.inl z4), some (.inl l5), some (.inl z6)]) (st' := [.inl l5]) (h1 := hp L s c e) rfl ?_
    cases h
    exact RuP.dI rfl
noncomputable def j_247_276 : Nat → Int → Int → Int → Sg → Option Int
  | 0, _, _, _, _ => none
  | F + 1, l1, l5, l6, s =>
    (gd (0 ≤ l1 ∧ l1 < 8200) (
    (if s 120 l1.toNat ≤ l6 then
      j_247_305 l5 s
    else
      (gd (g_246 l1 l6 s) (
      (j_247_276 F) l1 (ax_w32 (l5 + (f_246 l1 l6 s))) (ax_w32 (l6 + 1)) s)))))
set_option maxRecDepth 20000 in
theorem bl_247_276 {L c : Nat} {e : Nat → Nat} : ∀ (F : Nat) (z2 z3 z4 : Int) (l1 l5 l6 : Int) (s : Sg) (q : Int), j_247_276 F l1 l5 l6 s = some q → RuP 4 tb_m247 276 [some (.inr (.inr (some 84))), some (.inl l1), some (.inl z2), some (.inl z3), some (.inl z4), some (.inl l5), some (.inl l6)] [] (hp L s c e) (oI L c e (q, s)) := by
  intro F
  induction F with
  | zero =>
    intro z2 z3 z4 l1 l5 l6 s q h
    rw [j_247_276] at h
    cases h
  | succ F ih =>
    intro z2 z3 z4 l1 l5 l6 s q h
    rw [j_247_276] at h
    refine RuP.step (pc' := 278) (ls' := [some (.inr (.inr (some 84))), some (.inl l1), some (.inl z2), some (.inl z3), some (.inl z4), some (.inl l5), some (.inl l6)]) (st' := [.inl l6]) (h1 := hp L s c e) rfl ?_
    refine RuP.step (pc' := 279) (ls' := [some (.inr (.inr (some 84))), some (.inl l1), some (.inl z2), some (.inl z3), some (.inl z4), some (.inl l5), some (.inl l6)]) (st' := [.inr (.inr (some 84)), .inl l6]) (h1 := hp L s c e) rfl ?_
    refine RuP.step (pc' := 282) (ls' := [some (.inr (.inr (some 84))), some (.inl l1), some (.inl z2), some (.inl z3), some (.inl z4), some (.inl l5), some (.inl l6)]) (st' := [.inr (.inr (some 120)), .inl l6]) (h1 := hp L s c e) rfl ?_
    refine RuP.step (pc' := 283) (ls' := [some (.inr (.inr (some 84))), some (.inl l1), some (.inl z2), some (.inl z3), some (.inl z4), some (.inl l5), some (.inl l6)]) (st' := [.inl l1, .inr (.inr (some 120)), .inl l6]) (h1 := hp L s c e) rfl ?_
    obtain ⟨b0, h⟩ := gd_some h
    refine RuP.ald (f := fun t => t == 0) (j := l1) (a := 120) rfl rfl b0.1 b0.2 ?_
    by_cases h1 : s 120 l1.toNat ≤ l6
    · rw [if_pos h1] at h
      refine RuP.jy rfl h1 ?_
      exact bl_247_305 _ _ _ _ _ _ _ _ h
    · rw [if_neg h1] at h
      refine RuP.jn rfl h1 ?_
      refine RuP.step (pc' := 289) (ls' := [some (.inr (.inr (some 84))), some (.inl l1), some (.inl z2), some (.inl z3), some (.inl z4), some (.inl l5), some (.inl l6)]) (st' := [.inl l5]) (h1 := hp L s c e) rfl ?_
      refine RuP.step (pc' := 290) (ls' := [some (.inr (.inr (some 84))), some (.inl l1), some (.inl z2), some (.inl z3), some (.inl z4), some (.inl l5), some (.inl l6)]) (st' := [.inr (.inr (some 84)), .inl l5]) (h1 := hp L s c e) rfl ?_
      refine RuP.step (pc' := 291) (ls' := [some (.inr (.inr (some 84))), some (.inl l1), some (.inl z2), some (.inl z3), some (.inl z4), some (.inl l5), some (.inl l6)]) (st' := [.inl l1, .inr (.inr (some 84)), .inl l5]) (h1 := hp L s c e) rfl ?_
      refine RuP.step (pc' := 293) (ls' := [some (.inr (.inr (some 84))), some (.inl l1), some (.inl z2), some (.inl z3), some (.inl z4), some (.inl l5), some (.inl l6)]) (st' := [.inl l6, .inl l1, .inr (.inr (some 84)), .inl l5]) (h1 := hp L s c e) rfl ?_
      obtain ⟨b2, h⟩ := gd_some h
      refine RuP.cI rfl (EvP.i ((ev_246 l1 l6 b2).up (by decide))) ?_
      refine RuP.step (pc' := 297) (ls' := [some (.inr (.inr (some 84))), some (.inl l1), some (.inl z2), some (.inl z3), some (.inl z4), some (.inl l5), some (.inl l6)]) (st' := [.inl (ax_w32 (l5 + (f_246 l1 l6 s)))]) (h1 := hp L s c e) rfl ?_
      refine RuP.step (pc' := 299) (ls' := [some (.inr (.inr (some 84))), some (.inl l1), some (.inl z2), some (.inl z3), some (.inl z4), some (.inl (ax_w32 (l5 + (f_246 l1 l6 s)))), some (.inl l6)]) (st' := []) (h1 := hp L s c e) rfl ?_
      refine RuP.step (pc' := 302) (ls' := [some (.inr (.inr (some 84))), some (.inl l1), some (.inl z2), some (.inl z3), some (.inl z4), some (.inl (ax_w32 (l5 + (f_246 l1 l6 s)))), some (.inl (ax_w32 (l6 + 1)))]) (st' := []) (h1 := hp L s c e) rfl ?_
      refine RuP.step (pc' := 276) (ls' := [some (.inr (.inr (some 84))), some (.inl l1), some (.inl z2), some (.inl z3), some (.inl z4), some (.inl (ax_w32 (l5 + (f_246 l1 l6 s)))), some (.inl (ax_w32 (l6 + 1)))]) (st' := []) (h1 := hp L s c e) rfl ?_
      exact ih _ _ _ _ _ _ _ _ h
noncomputable def j_247_208 (l5 : Int) (s : Sg) : Option Int :=
  (gd (0 ≤ l5 ∧ l5 < 4100) (
  ((f_218 (s 97 l5.toNat) s).bind fun q7 =>
  some (ax_w32 q7))))
set_option maxRecDepth 20000 in
theorem bl_247_208 {L c : Nat} {e : Nat → Nat} : ∀ (z1 z2 z3 z4 z6 : Int) (l5 : Int) (s : Sg) (q : Int), j_247_208 l5 s = some q → RuP 4 tb_m247 208 [some (.inr (.inr (some 84))), some (.inl z1), some (.inl z2), some (.inl z3), some (.inl z4), some (.inl l5), some (.inl z6)] [] (hp L s c e) (oI L c e (q, s)) := by
  intro z1 z2 z3 z4 z6 l5 s q h
  unfold j_247_208 at h
  refine RuP.step (pc' := 209) (ls' := [some (.inr (.inr (some 84))), some (.inl z1), some (.inl z2), some (.inl z3), some (.inl z4), some (.inl l5), some (.inl z6)]) (st' := [.inr (.inr (some 84))]) (h1 := hp L s c e) rfl ?_
  refine RuP.step (pc' := 210) (ls' := [some (.inr (.inr (some 84))), some (.inl z1), some (.inl z2), some (.inl z3), some (.inl z4), some (.inl l5), some (.inl z6)]) (st' := [.inr (.inr (some 84)), .inr (.inr (some 84))]) (h1 := hp L s c e) rfl ?_
  refine RuP.step (pc' := 213) (ls' := [some (.inr (.inr (some 84))), some (.inl z1), some (.inl z2), some (.inl z3), some (.inl z4), some (.inl l5), some (.inl z6)]) (st' := [.inr (.inr (some 97)), .inr (.inr (some 84))]) (h1 := hp L s c e) rfl ?_
  refine RuP.step (pc' := 215) (ls' := [some (.inr (.inr (some 84))), some (.inl z1), some (.inl z2), some (.inl z3), some (.inl z4), some (.inl l5), some (.inl z6)]) (st' := [.inl l5, .inr (.inr (some 97)), .inr (.inr (some 84))]) (h1 := hp L s c e) rfl ?_
  obtain ⟨b0, h⟩ := gd_some h
  refine RuP.ald (f := fun t => t == 0) (j := l5) (a := 97) rfl rfl b0.1 b0.2 ?_
  obtain ⟨q7, h1, h⟩ := bd_some h
  refine RuP.cJ rfl ((ev_218 h1).up (by decide)) ?_
  refine RuP.step (pc' := 220) (ls' := [some (.inr (.inr (some 84))), some (.inl z1), some (.inl z2), some (.inl z3), some (.inl z4), some (.inl l5), some (.inl z6)]) (st' := [.inl (ax_w32 q7)]) (h1 := hp L s c e) rfl ?_
  cases h
  exact RuP.dI rfl
noncomputable def j_247_158 : Nat → Int → Int → Int → Sg → Option Int
  | 0, _, _, _, _ => none
  | F + 1, l1, l5, l6, s =>
    (gd (0 ≤ l1 ∧ l1 < 8200) (
    (if s 120 l1.toNat ≤ l6 then
      j_247_208 l5 s
    else
      (gd (g_246 l1 l6 s) (
      (gd (0 ≤ l5 ∧ l5 < 4100) (
      (gd (0 ≤ ax_w32 ((s 98 l5.toNat) + l6) ∧ ax_w32 ((s 98 l5.toNat) + l6) < 8200) (
      ((f_218 (s 105 ((ax_w32 ((s 98 l5.toNat) + l6)).toNat)) s).bind fun q8 =>
      (if f_246 l1 l6 s = ax_w32 q8 then
        (j_247_158 F) l1 l5 (ax_w32 (l6 + 1)) s
      else
        some (-2))))))))))))
set_option maxRecDepth 20000 in
theorem bl_247_158 {L c : Nat} {e : Nat → Nat} : ∀ (F : Nat) (z2 z3 z4 : Int) (l1 l5 l6 : Int) (s : Sg) (q : Int), j_247_158 F l1 l5 l6 s = some q → RuP 4 tb_m247 158 [some (.inr (.inr (some 84))), some (.inl l1), some (.inl z2), some (.inl z3), some (.inl z4), some (.inl l5), some (.inl l6)] [] (hp L s c e) (oI L c e (q, s)) := by
  intro F
  induction F with
  | zero =>
    intro z2 z3 z4 l1 l5 l6 s q h
    rw [j_247_158] at h
    cases h
  | succ F ih =>
    intro z2 z3 z4 l1 l5 l6 s q h
    rw [j_247_158] at h
    refine RuP.step (pc' := 160) (ls' := [some (.inr (.inr (some 84))), some (.inl l1), some (.inl z2), some (.inl z3), some (.inl z4), some (.inl l5), some (.inl l6)]) (st' := [.inl l6]) (h1 := hp L s c e) rfl ?_
    refine RuP.step (pc' := 161) (ls' := [some (.inr (.inr (some 84))), some (.inl l1), some (.inl z2), some (.inl z3), some (.inl z4), some (.inl l5), some (.inl l6)]) (st' := [.inr (.inr (some 84)), .inl l6]) (h1 := hp L s c e) rfl ?_
    refine RuP.step (pc' := 164) (ls' := [some (.inr (.inr (some 84))), some (.inl l1), some (.inl z2), some (.inl z3), some (.inl z4), some (.inl l5), some (.inl l6)]) (st' := [.inr (.inr (some 120)), .inl l6]) (h1 := hp L s c e) rfl ?_
    refine RuP.step (pc' := 165) (ls' := [some (.inr (.inr (some 84))), some (.inl l1), some (.inl z2), some (.inl z3), some (.inl z4), some (.inl l5), some (.inl l6)]) (st' := [.inl l1, .inr (.inr (some 120)), .inl l6]) (h1 := hp L s c e) rfl ?_
    obtain ⟨b0, h⟩ := gd_some h
    refine RuP.ald (f := fun t => t == 0) (j := l1) (a := 120) rfl rfl b0.1 b0.2 ?_
    by_cases h1 : s 120 l1.toNat ≤ l6
    · rw [if_pos h1] at h
      refine RuP.jy rfl h1 ?_
      exact bl_247_208 _ _ _ _ _ _ _ _ h
    · rw [if_neg h1] at h
      refine RuP.jn rfl h1 ?_
      refine RuP.step (pc' := 170) (ls' := [some (.inr (.inr (some 84))), some (.inl l1), some (.inl z2), some (.inl z3), some (.inl z4), some (.inl l5), some (.inl l6)]) (st' := [.inr (.inr (some 84))]) (h1 := hp L s c e) rfl ?_
      refine RuP.step (pc' := 171) (ls' := [some (.inr (.inr (some 84))), some (.inl l1), some (.inl z2), some (.inl z3), some (.inl z4), some (.inl l5), some (.inl l6)]) (st' := [.inl l1, .inr (.inr (some 84))]) (h1 := hp L s c e) rfl ?_
      refine RuP.step (pc' := 173) (ls' := [some (.inr (.inr (some 84))), some (.inl l1), some (.inl z2), some (.inl z3), some (.inl z4), some (.inl l5), some (.inl l6)]) (st' := [.inl l6, .inl l1, .inr (.inr (some 84))]) (h1 := hp L s c e) rfl ?_
      obtain ⟨b2, h⟩ := gd_some h
      refine RuP.cI rfl (EvP.i ((ev_246 l1 l6 b2).up (by decide))) ?_
      refine RuP.step (pc' := 177) (ls' := [some (.inr (.inr (some 84))), some (.inl l1), some (.inl z2), some (.inl z3), some (.inl z4), some (.inl l5), some (.inl l6)]) (st' := [.inr (.inr (some 84)), .inl (f_246 l1 l6 s)]) (h1 := hp L s c e) rfl ?_
      refine RuP.step (pc' := 178) (ls' := [some (.inr (.inr (some 84))), some (.inl l1), some (.inl z2), some (.inl z3), some (.inl z4), some (.inl l5), some (.inl l6)]) (st' := [.inr (.inr (some 84)), .inr (.inr (some 84)), .inl (f_246 l1 l6 s)]) (h1 := hp L s c e) rfl ?_
      refine RuP.step (pc' := 181) (ls' := [some (.inr (.inr (some 84))), some (.inl l1), some (.inl z2), some (.inl z3), some (.inl z4), some (.inl l5), some (.inl l6)]) (st' := [.inr (.inr (some 105)), .inr (.inr (some 84)), .inl (f_246 l1 l6 s)]) (h1 := hp L s c e) rfl ?_
      refine RuP.step (pc' := 182) (ls' := [some (.inr (.inr (some 84))), some (.inl l1), some (.inl z2), some (.inl z3), some (.inl z4), some (.inl l5), some (.inl l6)]) (st' := [.inr (.inr (some 84)), .inr (.inr (some 105)), .inr (.inr (some 84)), .inl (f_246 l1 l6 s)]) (h1 := hp L s c e) rfl ?_
      refine RuP.step (pc' := 185) (ls' := [some (.inr (.inr (some 84))), some (.inl l1), some (.inl z2), some (.inl z3), some (.inl z4), some (.inl l5), some (.inl l6)]) (st' := [.inr (.inr (some 98)), .inr (.inr (some 105)), .inr (.inr (some 84)), .inl (f_246 l1 l6 s)]) (h1 := hp L s c e) rfl ?_
      refine RuP.step (pc' := 187) (ls' := [some (.inr (.inr (some 84))), some (.inl l1), some (.inl z2), some (.inl z3), some (.inl z4), some (.inl l5), some (.inl l6)]) (st' := [.inl l5, .inr (.inr (some 98)), .inr (.inr (some 105)), .inr (.inr (some 84)), .inl (f_246 l1 l6 s)]) (h1 := hp L s c e) rfl ?_
      obtain ⟨b3, h⟩ := gd_some h
      refine RuP.ald (f := fun t => t == 0) (j := l5) (a := 98) rfl rfl b3.1 b3.2 ?_
      refine RuP.step (pc' := 190) (ls' := [some (.inr (.inr (some 84))), some (.inl l1), some (.inl z2), some (.inl z3), some (.inl z4), some (.inl l5), some (.inl l6)]) (st' := [.inl l6, .inl (s 98 l5.toNat), .inr (.inr (some 105)), .inr (.inr (some 84)), .inl (f_246 l1 l6 s)]) (h1 := hp L s c e) rfl ?_
      refine RuP.step (pc' := 191) (ls' := [some (.inr (.inr (some 84))), some (.inl l1), some (.inl z2), some (.inl z3), some (.inl z4), some (.inl l5), some (.inl l6)]) (st' := [.inl (ax_w32 ((s 98 l5.toNat) + l6)), .inr (.inr (some 105)), .inr (.inr (some 84)), .inl (f_246 l1 l6 s)]) (h1 := hp L s c e) rfl ?_
      obtain ⟨b4, h⟩ := gd_some h
      refine RuP.ald (f := fun t => t == 0) (j := ax_w32 ((s 98 l5.toNat) + l6)) (a := 105) rfl rfl b4.1 b4.2 ?_
      obtain ⟨q8, h1, h⟩ := bd_some h
      refine RuP.cJ rfl ((ev_218 h1).up (by decide)) ?_
      refine RuP.step (pc' := 196) (ls' := [some (.inr (.inr (some 84))), some (.inl l1), some (.inl z2), some (.inl z3), some (.inl z4), some (.inl l5), some (.inl l6)]) (st' := [.inl (ax_w32 q8), .inl (f_246 l1 l6 s)]) (h1 := hp L s c e) rfl ?_
      by_cases h5 : f_246 l1 l6 s = ax_w32 q8
      · rw [if_pos h5] at h
        refine RuP.jy rfl h5 ?_
        refine RuP.step (pc' := 205) (ls' := [some (.inr (.inr (some 84))), some (.inl l1), some (.inl z2), some (.inl z3), some (.inl z4), some (.inl l5), some (.inl (ax_w32 (l6 + 1)))]) (st' := []) (h1 := hp L s c e) rfl ?_
        refine RuP.step (pc' := 158) (ls' := [some (.inr (.inr (some 84))), some (.inl l1), some (.inl z2), some (.inl z3), some (.inl z4), some (.inl l5), some (.inl (ax_w32 (l6 + 1)))]) (st' := []) (h1 := hp L s c e) rfl ?_
        exact ih _ _ _ _ _ _ _ _ h
      · rw [if_neg h5] at h
        refine RuP.jn rfl h5 ?_
        refine RuP.step (pc' := 201) (ls' := [some (.inr (.inr (some 84))), some (.inl l1), some (.inl z2), some (.inl z3), some (.inl z4), some (.inl l5), some (.inl l6)]) (st' := [.inl (-2)]) (h1 := hp L s c e) rfl ?_
        cases h
        exact RuP.dI rfl
noncomputable def j_247_47 (l1 l2 l3 t0 : Int) (s : Sg) : Option Int :=
  (if ¬ l2 = 0 then
    (if ¬ l2 = 1 then
      (if ¬ l2 = 2 then
        (if ¬ l2 = 3 then
          (if l2 = 4 then
            j_247_231 l1 l3 s
          else
            (if ¬ l2 = 5 then
              (if ¬ l2 = 6 then
                (if ¬ l2 = 7 then
                  (if ¬ l2 = 21 then
                    (if l2 = 8 then
                      some l3
                    else
                      (if l2 = 9 then
                        some l3
                      else
                        (if l2 = 13 then
                          some l3
                        else
                          (if ¬ l2 = 14 then
                            (if l3 = t0 then
                              (if l2 < 18 then
                                some l3
                              else
                                some 1)
                            else
                              some (-2))
                          else
                            some l3))))
                  else
                    (if ¬ l3 = 1 then
                      some (-2)
                    else
                      (gd (g_246 l1 2 s) (
                      (if ¬ t0 = f_246 l1 2 s then
                        some (-2)
                      else
                        some t0)))))
                else
                  (gd (0 ≤ l1 ∧ l1 < 8200) (
                  ((f_218 (s 118 l1.toNat) s).bind fun q3 =>
                  (if 0 ≤ ax_cmp q3 l3 then
                    some (-2)
                  else
                    (gd (0 ≤ l1 ∧ l1 < 8200) (
                    ((f_218 (s 118 l1.toNat) s).bind fun q4 =>
                    (gd (0 ≤ l1 ∧ l1 < 8200) (
                    ((f_218 (s 119 l1.toNat) s).bind fun q5 =>
                    some (ax_w32 ((ax_w32 (ax_w64 (q4 - q5))) + 1)))))))))))))
              else
                j_247_276 FU l1 0 0 s)
            else
              j_247_231 l1 l3 s))
        else
          (gd (0 ≤ l1 ∧ l1 < 8200) (
          ((f_238 (s 118 l1.toNat) s).bind fun q6 =>
          j_247_158 FU l1 q6 0 s))))
      else
        (gd (0 ≤ l1 ∧ l1 < 8200) (
        ((f_238 (s 118 l1.toNat) s).bind fun q9 =>
        ((f_256 q9 s).bind fun q10 =>
        (if ¬ l3 = q10 then
          some (-2)
        else
          (gd (0 ≤ q9 ∧ q9 < 4100) (
          ((f_218 (s 97 q9.toNat) s).bind fun q11 =>
          some (ax_w32 q11))))))))))
    else
      (gd (0 ≤ l1 ∧ l1 < 8200) (
      (gd (0 ≤ l1 ∧ l1 < 8200) (
      (gd (0 ≤ l1 ∧ l1 < 8200) (
      ((f_255 (s 123 l1.toNat) (s 124 l1.toNat) (s 118 l1.toNat) s).bind fun q12 =>
      some q12))))))))
  else
    (gd (0 ≤ l1 ∧ l1 < 8200) (
    ((f_218 (s 119 l1.toNat) s).bind fun q13 =>
    some (ax_w32 q13)))))
set_option maxRecDepth 20000 in
theorem bl_247_47 {L c : Nat} {e : Nat → Nat} : ∀ (d4 d5 d6 : Option ax_V) (l1 l2 l3 t0 : Int) (s : Sg) (q : Int), j_247_47 l1 l2 l3 t0 s = some q → RuP 4 tb_m247 47 [some (.inr (.inr (some 84))), some (.inl l1), some (.inl l2), some (.inl l3), d4, d5, d6] [.inl t0] (hp L s c e) (oI L c e (q, s)) := by
  intro d4 d5 d6 l1 l2 l3 t0 s q h
  unfold j_247_47 at h
  refine RuP.step (pc' := 49) (ls' := [some (.inr (.inr (some 84))), some (.inl l1), some (.inl l2), some (.inl l3), some (.inl t0), d5, d6]) (st' := []) (h1 := hp L s c e) rfl ?_
  refine RuP.step (pc' := 50) (ls' := [some (.inr (.inr (some 84))), some (.inl l1), some (.inl l2), some (.inl l3), some (.inl t0), d5, d6]) (st' := [.inl l2]) (h1 := hp L s c e) rfl ?_
  by_cases h0 : ¬ l2 = 0
  · rw [if_pos h0] at h
    refine RuP.jy rfl h0 ?_
    refine RuP.step (pc' := 66) (ls' := [some (.inr (.inr (some 84))), some (.inl l1), some (.inl l2), some (.inl l3), some (.inl t0), d5, d6]) (st' := [.inl l2]) (h1 := hp L s c e) rfl ?_
    refine RuP.step (pc' := 67) (ls' := [some (.inr (.inr (some 84))), some (.inl l1), some (.inl l2), some (.inl l3), some (.inl t0), d5, d6]) (st' := [.inl 1, .inl l2]) (h1 := hp L s c e) rfl ?_
    by_cases h1 : ¬ l2 = 1
    · rw [if_pos h1] at h
      refine RuP.jy rfl h1 ?_
      refine RuP.step (pc' := 94) (ls' := [some (.inr (.inr (some 84))), some (.inl l1), some (.inl l2), some (.inl l3), some (.inl t0), d5, d6]) (st' := [.inl l2]) (h1 := hp L s c e) rfl ?_
      refine RuP.step (pc' := 95) (ls' := [some (.inr (.inr (some 84))), some (.inl l1), some (.inl l2), some (.inl l3), some (.inl t0), d5, d6]) (st' := [.inl 2, .inl l2]) (h1 := hp L s c e) rfl ?_
      by_cases h2 : ¬ l2 = 2
      · rw [if_pos h2] at h
        refine RuP.jy rfl h2 ?_
        refine RuP.step (pc' := 139) (ls' := [some (.inr (.inr (some 84))), some (.inl l1), some (.inl l2), some (.inl l3), some (.inl t0), d5, d6]) (st' := [.inl l2]) (h1 := hp L s c e) rfl ?_
        refine RuP.step (pc' := 140) (ls' := [some (.inr (.inr (some 84))), some (.inl l1), some (.inl l2), some (.inl l3), some (.inl t0), d5, d6]) (st' := [.inl 3, .inl l2]) (h1 := hp L s c e) rfl ?_
        by_cases h3 : ¬ l2 = 3
        · rw [if_pos h3] at h
          refine RuP.jy rfl h3 ?_
          refine RuP.step (pc' := 222) (ls' := [some (.inr (.inr (some 84))), some (.inl l1), some (.inl l2), some (.inl l3), some (.inl t0), d5, d6]) (st' := [.inl l2]) (h1 := hp L s c e) rfl ?_
          refine RuP.step (pc' := 223) (ls' := [some (.inr (.inr (some 84))), some (.inl l1), some (.inl l2), some (.inl l3), some (.inl t0), d5, d6]) (st' := [.inl 4, .inl l2]) (h1 := hp L s c e) rfl ?_
          by_cases h4 : l2 = 4
          · rw [if_pos h4] at h
            refine RuP.jy rfl h4 ?_
            exact bl_247_231 _ _ _ _ _ _ _ _ h
          · rw [if_neg h4] at h
            refine RuP.jn rfl h4 ?_
            refine RuP.step (pc' := 227) (ls' := [some (.inr (.inr (some 84))), some (.inl l1), some (.inl l2), some (.inl l3), some (.inl t0), d5, d6]) (st' := [.inl l2]) (h1 := hp L s c e) rfl ?_
            refine RuP.step (pc' := 228) (ls' := [some (.inr (.inr (some 84))), some (.inl l1), some (.inl l2), some (.inl l3), some (.inl t0), d5, d6]) (st' := [.inl 5, .inl l2]) (h1 := hp L s c e) rfl ?_
            by_cases h5 : ¬ l2 = 5
            · rw [if_pos h5] at h
              refine RuP.jy rfl h5 ?_
              refine RuP.step (pc' := 265) (ls' := [some (.inr (.inr (some 84))), some (.inl l1), some (.inl l2), some (.inl l3), some (.inl t0), d5, d6]) (st' := [.inl l2]) (h1 := hp L s c e) rfl ?_
              refine RuP.step (pc' := 267) (ls' := [some (.inr (.inr (some 84))), some (.inl l1), some (.inl l2), some (.inl l3), some (.inl t0), d5, d6]) (st' := [.inl 6, .inl l2]) (h1 := hp L s c e) rfl ?_
              by_cases h6 : ¬ l2 = 6
              · rw [if_pos h6] at h
                refine RuP.jy rfl h6 ?_
                refine RuP.step (pc' := 321) (ls' := [some (.inr (.inr (some 84))), some (.inl l1), some (.inl l2), some (.inl l3), some (.inl t0), d5, d6]) (st' := [.inl l2]) (h1 := hp L s c e) rfl ?_
                refine RuP.step (pc' := 323) (ls' := [some (.inr (.inr (some 84))), some (.inl l1), some (.inl l2), some (.inl l3), some (.inl t0), d5, d6]) (st' := [.inl 7, .inl l2]) (h1 := hp L s c e) rfl ?_
                by_cases h7 : ¬ l2 = 7
                · rw [if_pos h7] at h
                  refine RuP.jy rfl h7 ?_
                  refine RuP.step (pc' := 373) (ls' := [some (.inr (.inr (some 84))), some (.inl l1), some (.inl l2), some (.inl l3), some (.inl t0), d5, d6]) (st' := [.inl l2]) (h1 := hp L s c e) rfl ?_
                  refine RuP.step (pc' := 375) (ls' := [some (.inr (.inr (some 84))), some (.inl l1), some (.inl l2), some (.inl l3), some (.inl t0), d5, d6]) (st' := [.inl 21, .inl l2]) (h1 := hp L s c e) rfl ?_
                  by_cases h8 : ¬ l2 = 21
                  · rw [if_pos h8] at h
                    refine RuP.jy rfl h8 ?_
                    refine RuP.step (pc' := 403) (ls' := [some (.inr (.inr (some 84))), some (.inl l1), some (.inl l2), some (.inl l3), some (.inl t0), d5, d6]) (st' := [.inl l2]) (h1 := hp L s c e) rfl ?_
                    refine RuP.step (pc' := 405) (ls' := [some (.inr (.inr (some 84))), some (.inl l1), some (.inl l2), some (.inl l3), some (.inl t0), d5, d6]) (st' := [.inl 8, .inl l2]) (h1 := hp L s c e) rfl ?_
                    by_cases h9 : l2 = 8
                    · rw [if_pos h9] at h
                      refine RuP.jy rfl h9 ?_
                      refine RuP.step (pc' := 427) (ls' := [some (.inr (.inr (some 84))), some (.inl l1), some (.inl l2), some (.inl l3), some (.inl t0), d5, d6]) (st' := [.inl l3]) (h1 := hp L s c e) rfl ?_
                      cases h
                      exact RuP.dI rfl
                    · rw [if_neg h9] at h
                      refine RuP.jn rfl h9 ?_
                      refine RuP.step (pc' := 409) (ls' := [some (.inr (.inr (some 84))), some (.inl l1), some (.inl l2), some (.inl l3), some (.inl t0), d5, d6]) (st' := [.inl l2]) (h1 := hp L s c e) rfl ?_
                      refine RuP.step (pc' := 411) (ls' := [some (.inr (.inr (some 84))), some (.inl l1), some (.inl l2), some (.inl l3), some (.inl t0), d5, d6]) (st' := [.inl 9, .inl l2]) (h1 := hp L s c e) rfl ?_
                      by_cases h10 : l2 = 9
                      · rw [if_pos h10] at h
                        refine RuP.jy rfl h10 ?_
                        refine RuP.step (pc' := 427) (ls' := [some (.inr (.inr (some 84))), some (.inl l1), some (.inl l2), some (.inl l3), some (.inl t0), d5, d6]) (st' := [.inl l3]) (h1 := hp L s c e) rfl ?_
                        cases h
                        exact RuP.dI rfl
                      · rw [if_neg h10] at h
                        refine RuP.jn rfl h10 ?_
                        refine RuP.step (pc' := 415) (ls' := [some (.inr (.inr (some 84))), some (.inl l1), some (.inl l2), some (.inl l3), some (.inl t0), d5, d6]) (st' := [.inl l2]) (h1 := hp L s c e) rfl ?_
                        refine RuP.step (pc' := 417) (ls' := [some (.inr (.inr (some 84))), some (.inl l1), some (.inl l2), some (.inl l3), some (.inl t0), d5, d6]) (st' := [.inl 13, .inl l2]) (h1 := hp L s c e) rfl ?_
                        by_cases h11 : l2 = 13
                        · rw [if_pos h11] at h
                          refine RuP.jy rfl h11 ?_
                          refine RuP.step (pc' := 427) (ls' := [some (.inr (.inr (some 84))), some (.inl l1), some (.inl l2), some (.inl l3), some (.inl t0), d5, d6]) (st' := [.inl l3]) (h1 := hp L s c e) rfl ?_
                          cases h
                          exact RuP.dI rfl
                        · rw [if_neg h11] at h
                          refine RuP.jn rfl h11 ?_
                          refine RuP.step (pc' := 421) (ls' := [some (.inr (.inr (some 84))), some (.inl l1), some (.inl l2), some (.inl l3), some (.inl t0), d5, d6]) (st' := [.inl l2]) (h1 := hp L s c e) rfl ?_
                          refine RuP.step (pc' := 423) (ls' := [some (.inr (.inr (some 84))), some (.inl l1), some (.inl l2), some (.inl l3), some (.inl t0), d5, d6]) (st' := [.inl 14, .inl l2]) (h1 := hp L s c e) rfl ?_
                          by_cases h12 : ¬ l2 = 14
                          · rw [if_pos h12] at h
                            refine RuP.jy rfl h12 ?_
                            refine RuP.step (pc' := 429) (ls' := [some (.inr (.inr (some 84))), some (.inl l1), some (.inl l2), some (.inl l3), some (.inl t0), d5, d6]) (st' := [.inl l3]) (h1 := hp L s c e) rfl ?_
                            refine RuP.step (pc' := 431) (ls' := [some (.inr (.inr (some 84))), some (.inl l1), some (.inl l2), some (.inl l3), some (.inl t0), d5, d6]) (st' := [.inl t0, .inl l3]) (h1 := hp L s c e) rfl ?_
                            by_cases h13 : l3 = t0
                            · rw [if_pos h13] at h
                              refine RuP.jy rfl h13 ?_
                              refine RuP.step (pc' := 438) (ls' := [some (.inr (.inr (some 84))), some (.inl l1), some (.inl l2), some (.inl l3), some (.inl t0), d5, d6]) (st' := [.inl l2]) (h1 := hp L s c e) rfl ?_
                              refine RuP.step (pc' := 440) (ls' := [some (.inr (.inr (some 84))), some (.inl l1), some (.inl l2), some (.inl l3), some (.inl t0), d5, d6]) (st' := [.inl 18, .inl l2]) (h1 := hp L s c e) rfl ?_
                              by_cases h14 : l2 < 18
                              · rw [if_pos h14] at h
                                refine RuP.jy rfl h14 ?_
                                refine RuP.step (pc' := 448) (ls' := [some (.inr (.inr (some 84))), some (.inl l1), some (.inl l2), some (.inl l3), some (.inl t0), d5, d6]) (st' := [.inl l3]) (h1 := hp L s c e) rfl ?_
                                cases h
                                exact RuP.dI rfl
                              · rw [if_neg h14] at h
                                refine RuP.jn rfl h14 ?_
                                refine RuP.step (pc' := 444) (ls' := [some (.inr (.inr (some 84))), some (.inl l1), some (.inl l2), some (.inl l3), some (.inl t0), d5, d6]) (st' := [.inl 1]) (h1 := hp L s c e) rfl ?_
                                refine RuP.step (pc' := 448) (ls' := [some (.inr (.inr (some 84))), some (.inl l1), some (.inl l2), some (.inl l3), some (.inl t0), d5, d6]) (st' := [.inl 1]) (h1 := hp L s c e) rfl ?_
                                cases h
                                exact RuP.dI rfl
                            · rw [if_neg h13] at h
                              refine RuP.jn rfl h13 ?_
                              refine RuP.step (pc' := 436) (ls' := [some (.inr (.inr (some 84))), some (.inl l1), some (.inl l2), some (.inl l3), some (.inl t0), d5, d6]) (st' := [.inl (-2)]) (h1 := hp L s c e) rfl ?_
                              cases h
                              exact RuP.dI rfl
                          · rw [if_neg h12] at h
                            refine RuP.jn rfl h12 ?_
                            refine RuP.step (pc' := 427) (ls' := [some (.inr (.inr (some 84))), some (.inl l1), some (.inl l2), some (.inl l3), some (.inl t0), d5, d6]) (st' := [.inl l3]) (h1 := hp L s c e) rfl ?_
                            cases h
                            exact RuP.dI rfl
                  · rw [if_neg h8] at h
                    refine RuP.jn rfl h8 ?_
                    refine RuP.step (pc' := 379) (ls' := [some (.inr (.inr (some 84))), some (.inl l1), some (.inl l2), some (.inl l3), some (.inl t0), d5, d6]) (st' := [.inl l3]) (h1 := hp L s c e) rfl ?_
                    refine RuP.step (pc' := 380) (ls' := [some (.inr (.inr (some 84))), some (.inl l1), some (.inl l2), some (.inl l3), some (.inl t0), d5, d6]) (st' := [.inl 1, .inl l3]) (h1 := hp L s c e) rfl ?_
                    by_cases h15 : ¬ l3 = 1
                    · rw [if_pos h15] at h
                      refine RuP.jy rfl h15 ?_
                      refine RuP.step (pc' := 401) (ls' := [some (.inr (.inr (some 84))), some (.inl l1), some (.inl l2), some (.inl l3), some (.inl t0), d5, d6]) (st' := [.inl (-2)]) (h1 := hp L s c e) rfl ?_
                      cases h
                      exact RuP.dI rfl
                    · rw [if_neg h15] at h
                      refine RuP.jn rfl h15 ?_
                      refine RuP.step (pc' := 385) (ls' := [some (.inr (.inr (some 84))), some (.inl l1), some (.inl l2), some (.inl l3), some (.inl t0), d5, d6]) (st' := [.inl t0]) (h1 := hp L s c e) rfl ?_
                      refine RuP.step (pc' := 386) (ls' := [some (.inr (.inr (some 84))), some (.inl l1), some (.inl l2), some (.inl l3), some (.inl t0), d5, d6]) (st' := [.inr (.inr (some 84)), .inl t0]) (h1 := hp L s c e) rfl ?_
                      refine RuP.step (pc' := 387) (ls' := [some (.inr (.inr (some 84))), some (.inl l1), some (.inl l2), some (.inl l3), some (.inl t0), d5, d6]) (st' := [.inl l1, .inr (.inr (some 84)), .inl t0]) (h1 := hp L s c e) rfl ?_
                      refine RuP.step (pc' := 388) (ls' := [some (.inr (.inr (some 84))), some (.inl l1), some (.inl l2), some (.inl l3), some (.inl t0), d5, d6]) (st' := [.inl 2, .inl l1, .inr (.inr (some 84)), .inl t0]) (h1 := hp L s c e) rfl ?_
                      obtain ⟨b16, h⟩ := gd_some h
                      refine RuP.cI rfl (EvP.i ((ev_246 l1 2 b16).up (by decide))) ?_
                      by_cases h17 : ¬ t0 = f_246 l1 2 s
                      · rw [if_pos h17] at h
                        refine RuP.jy rfl h17 ?_
                        refine RuP.step (pc' := 401) (ls' := [some (.inr (.inr (some 84))), some (.inl l1), some (.inl l2), some (.inl l3), some (.inl t0), d5, d6]) (st' := [.inl (-2)]) (h1 := hp L s c e) rfl ?_
                        cases h
                        exact RuP.dI rfl
                      · rw [if_neg h17] at h
                        refine RuP.jn rfl h17 ?_
                        refine RuP.step (pc' := 396) (ls' := [some (.inr (.inr (some 84))), some (.inl l1), some (.inl l2), some (.inl l3), some (.inl t0), d5, d6]) (st' := [.inl t0]) (h1 := hp L s c e) rfl ?_
                        refine RuP.step (pc' := 401) (ls' := [some (.inr (.inr (some 84))), some (.inl l1), some (.inl l2), some (.inl l3), some (.inl t0), d5, d6]) (st' := [.inl t0]) (h1 := hp L s c e) rfl ?_
                        cases h
                        exact RuP.dI rfl
                · rw [if_neg h7] at h
                  refine RuP.jn rfl h7 ?_
                  refine RuP.step (pc' := 327) (ls' := [some (.inr (.inr (some 84))), some (.inl l1), some (.inl l2), some (.inl l3), some (.inl t0), d5, d6]) (st' := [.inr (.inr (some 84))]) (h1 := hp L s c e) rfl ?_
                  refine RuP.step (pc' := 328) (ls' := [some (.inr (.inr (some 84))), some (.inl l1), some (.inl l2), some (.inl l3), some (.inl t0), d5, d6]) (st' := [.inr (.inr (some 84)), .inr (.inr (some 84))]) (h1 := hp L s c e) rfl ?_
                  refine RuP.step (pc' := 331) (ls' := [some (.inr (.inr (some 84))), some (.inl l1), some (.inl l2), some (.inl l3), some (.inl t0), d5, d6]) (st' := [.inr (.inr (some 118)), .inr (.inr (some 84))]) (h1 := hp L s c e) rfl ?_
                  refine RuP.step (pc' := 332) (ls' := [some (.inr (.inr (some 84))), some (.inl l1), some (.inl l2), some (.inl l3), some (.inl t0), d5, d6]) (st' := [.inl l1, .inr (.inr (some 118)), .inr (.inr (some 84))]) (h1 := hp L s c e) rfl ?_
                  obtain ⟨b18, h⟩ := gd_some h
                  refine RuP.ald (f := fun t => t == 0) (j := l1) (a := 118) rfl rfl b18.1 b18.2 ?_
                  obtain ⟨q3, h1, h⟩ := bd_some h
                  refine RuP.cJ rfl ((ev_218 h1).up (by decide)) ?_
                  refine RuP.step (pc' := 337) (ls' := [some (.inr (.inr (some 84))), some (.inl l1), some (.inl l2), some (.inl l3), some (.inl t0), d5, d6]) (st' := [.inl l3, .inr (.inl q3)]) (h1 := hp L s c e) rfl ?_
                  refine RuP.step (pc' := 338) (ls' := [some (.inr (.inr (some 84))), some (.inl l1), some (.inl l2), some (.inl l3), some (.inl t0), d5, d6]) (st' := [.inr (.inl l3), .inr (.inl q3)]) (h1 := hp L s c e) rfl ?_
                  refine RuP.step (pc' := 339) (ls' := [some (.inr (.inr (some 84))), some (.inl l1), some (.inl l2), some (.inl l3), some (.inl t0), d5, d6]) (st' := [.inl (ax_cmp q3 l3)]) (h1 := hp L s c e) rfl ?_
                  by_cases h19 : 0 ≤ ax_cmp q3 l3
                  · rw [if_pos h19] at h
                    refine RuP.jy rfl h19 ?_
                    refine RuP.step (pc' := 371) (ls' := [some (.inr (.inr (some 84))), some (.inl l1), some (.inl l2), some (.inl l3), some (.inl t0), d5, d6]) (st' := [.inl (-2)]) (h1 := hp L s c e) rfl ?_
                    cases h
                    exact RuP.dI rfl
                  · rw [if_neg h19] at h
                    refine RuP.jn rfl h19 ?_
                    refine RuP.step (pc' := 343) (ls' := [some (.inr (.inr (some 84))), some (.inl l1), some (.inl l2), some (.inl l3), some (.inl t0), d5, d6]) (st' := [.inr (.inr (some 84))]) (h1 := hp L s c e) rfl ?_
                    refine RuP.step (pc' := 344) (ls' := [some (.inr (.inr (some 84))), some (.inl l1), some (.inl l2), some (.inl l3), some (.inl t0), d5, d6]) (st' := [.inr (.inr (some 84)), .inr (.inr (some 84))]) (h1 := hp L s c e) rfl ?_
                    refine RuP.step (pc' := 347) (ls' := [some (.inr (.inr (some 84))), some (.inl l1), some (.inl l2), some (.inl l3), some (.inl t0), d5, d6]) (st' := [.inr (.inr (some 118)), .inr (.inr (some 84))]) (h1 := hp L s c e) rfl ?_
                    refine RuP.step (pc' := 348) (ls' := [some (.inr (.inr (some 84))), some (.inl l1), some (.inl l2), some (.inl l3), some (.inl t0), d5, d6]) (st' := [.inl l1, .inr (.inr (some 118)), .inr (.inr (some 84))]) (h1 := hp L s c e) rfl ?_
                    obtain ⟨b20, h⟩ := gd_some h
                    refine RuP.ald (f := fun t => t == 0) (j := l1) (a := 118) rfl rfl b20.1 b20.2 ?_
                    obtain ⟨q4, h1, h⟩ := bd_some h
                    refine RuP.cJ rfl ((ev_218 h1).up (by decide)) ?_
                    refine RuP.step (pc' := 353) (ls' := [some (.inr (.inr (some 84))), some (.inl l1), some (.inl l2), some (.inl l3), some (.inl t0), d5, d6]) (st' := [.inr (.inr (some 84)), .inr (.inl q4)]) (h1 := hp L s c e) rfl ?_
                    refine RuP.step (pc' := 354) (ls' := [some (.inr (.inr (some 84))), some (.inl l1), some (.inl l2), some (.inl l3), some (.inl t0), d5, d6]) (st' := [.inr (.inr (some 84)), .inr (.inr (some 84)), .inr (.inl q4)]) (h1 := hp L s c e) rfl ?_
                    refine RuP.step (pc' := 357) (ls' := [some (.inr (.inr (some 84))), some (.inl l1), some (.inl l2), some (.inl l3), some (.inl t0), d5, d6]) (st' := [.inr (.inr (some 119)), .inr (.inr (some 84)), .inr (.inl q4)]) (h1 := hp L s c e) rfl ?_
                    refine RuP.step (pc' := 358) (ls' := [some (.inr (.inr (some 84))), some (.inl l1), some (.inl l2), some (.inl l3), some (.inl t0), d5, d6]) (st' := [.inl l1, .inr (.inr (some 119)), .inr (.inr (some 84)), .inr (.inl q4)]) (h1 := hp L s c e) rfl ?_
                    obtain ⟨b21, h⟩ := gd_some h
                    refine RuP.ald (f := fun t => t == 0) (j := l1) (a := 119) rfl rfl b21.1 b21.2 ?_
                    obtain ⟨q5, h1, h⟩ := bd_some h
                    refine RuP.cJ rfl ((ev_218 h1).up (by decide)) ?_
                    refine RuP.step (pc' := 363) (ls' := [some (.inr (.inr (some 84))), some (.inl l1), some (.inl l2), some (.inl l3), some (.inl t0), d5, d6]) (st' := [.inr (.inl (ax_w64 (q4 - q5)))]) (h1 := hp L s c e) rfl ?_
                    refine RuP.step (pc' := 364) (ls' := [some (.inr (.inr (some 84))), some (.inl l1), some (.inl l2), some (.inl l3), some (.inl t0), d5, d6]) (st' := [.inl (ax_w32 (ax_w64 (q4 - q5)))]) (h1 := hp L s c e) rfl ?_
                    refine RuP.step (pc' := 365) (ls' := [some (.inr (.inr (some 84))), some (.inl l1), some (.inl l2), some (.inl l3), some (.inl t0), d5, d6]) (st' := [.inl 1, .inl (ax_w32 (ax_w64 (q4 - q5)))]) (h1 := hp L s c e) rfl ?_
                    refine RuP.step (pc' := 366) (ls' := [some (.inr (.inr (some 84))), some (.inl l1), some (.inl l2), some (.inl l3), some (.inl t0), d5, d6]) (st' := [.inl (ax_w32 ((ax_w32 (ax_w64 (q4 - q5))) + 1))]) (h1 := hp L s c e) rfl ?_
                    refine RuP.step (pc' := 371) (ls' := [some (.inr (.inr (some 84))), some (.inl l1), some (.inl l2), some (.inl l3), some (.inl t0), d5, d6]) (st' := [.inl (ax_w32 ((ax_w32 (ax_w64 (q4 - q5))) + 1))]) (h1 := hp L s c e) rfl ?_
                    cases h
                    exact RuP.dI rfl
              · rw [if_neg h6] at h
                refine RuP.jn rfl h6 ?_
                refine RuP.step (pc' := 271) (ls' := [some (.inr (.inr (some 84))), some (.inl l1), some (.inl l2), some (.inl l3), some (.inl t0), d5, d6]) (st' := [.inl 0]) (h1 := hp L s c e) rfl ?_
                refine RuP.step (pc' := 273) (ls' := [some (.inr (.inr (some 84))), some (.inl l1), some (.inl l2), some (.inl l3), some (.inl t0), some (.inl 0), d6]) (st' := []) (h1 := hp L s c e) rfl ?_
                refine RuP.step (pc' := 274) (ls' := [some (.inr (.inr (some 84))), some (.inl l1), some (.inl l2), some (.inl l3), some (.inl t0), some (.inl 0), d6]) (st' := [.inl 0]) (h1 := hp L s c e) rfl ?_
                refine RuP.step (pc' := 276) (ls' := [some (.inr (.inr (some 84))), some (.inl l1), some (.inl l2), some (.inl l3), some (.inl t0), some (.inl 0), some (.inl 0)]) (st' := []) (h1 := hp L s c e) rfl ?_
                exact bl_247_276 FU _ _ _ _ _ _ _ _ h
            · rw [if_neg h5] at h
              refine RuP.jn rfl h5 ?_
              exact bl_247_231 _ _ _ _ _ _ _ _ h
        · rw [if_neg h3] at h
          refine RuP.jn rfl h3 ?_
          refine RuP.step (pc' := 144) (ls' := [some (.inr (.inr (some 84))), some (.inl l1), some (.inl l2), some (.inl l3), some (.inl t0), d5, d6]) (st' := [.inr (.inr (some 84))]) (h1 := hp L s c e) rfl ?_
          refine RuP.step (pc' := 145) (ls' := [some (.inr (.inr (some 84))), some (.inl l1), some (.inl l2), some (.inl l3), some (.inl t0), d5, d6]) (st' := [.inr (.inr (some 84)), .inr (.inr (some 84))]) (h1 := hp L s c e) rfl ?_
          refine RuP.step (pc' := 148) (ls' := [some (.inr (.inr (some 84))), some (.inl l1), some (.inl l2), some (.inl l3), some (.inl t0), d5, d6]) (st' := [.inr (.inr (some 118)), .inr (.inr (some 84))]) (h1 := hp L s c e) rfl ?_
          refine RuP.step (pc' := 149) (ls' := [some (.inr (.inr (some 84))), some (.inl l1), some (.inl l2), some (.inl l3), some (.inl t0), d5, d6]) (st' := [.inl l1, .inr (.inr (some 118)), .inr (.inr (some 84))]) (h1 := hp L s c e) rfl ?_
          obtain ⟨b22, h⟩ := gd_some h
          refine RuP.ald (f := fun t => t == 0) (j := l1) (a := 118) rfl rfl b22.1 b22.2 ?_
          obtain ⟨q6, h1, h⟩ := bd_some h
          refine RuP.cI rfl ((ev_238 h1).up (by decide)) ?_
          refine RuP.step (pc' := 155) (ls' := [some (.inr (.inr (some 84))), some (.inl l1), some (.inl l2), some (.inl l3), some (.inl t0), some (.inl q6), d6]) (st' := []) (h1 := hp L s c e) rfl ?_
          refine RuP.step (pc' := 156) (ls' := [some (.inr (.inr (some 84))), some (.inl l1), some (.inl l2), some (.inl l3), some (.inl t0), some (.inl q6), d6]) (st' := [.inl 0]) (h1 := hp L s c e) rfl ?_
          refine RuP.step (pc' := 158) (ls' := [some (.inr (.inr (some 84))), some (.inl l1), some (.inl l2), some (.inl l3), some (.inl t0), some (.inl q6), some (.inl 0)]) (st' := []) (h1 := hp L s c e) rfl ?_
          exact bl_247_158 FU _ _ _ _ _ _ _ _ h
      · rw [if_neg h2] at h
        refine RuP.jn rfl h2 ?_
        refine RuP.step (pc' := 99) (ls' := [some (.inr (.inr (some 84))), some (.inl l1), some (.inl l2), some (.inl l3), some (.inl t0), d5, d6]) (st' := [.inr (.inr (some 84))]) (h1 := hp L s c e) rfl ?_
        refine RuP.step (pc' := 100) (ls' := [some (.inr (.inr (some 84))), some (.inl l1), some (.inl l2), some (.inl l3), some (.inl t0), d5, d6]) (st' := [.inr (.inr (some 84)), .inr (.inr (some 84))]) (h1 := hp L s c e) rfl ?_
        refine RuP.step (pc' := 103) (ls' := [some (.inr (.inr (some 84))), some (.inl l1), some (.inl l2), some (.inl l3), some (.inl t0), d5, d6]) (st' := [.inr (.inr (some 118)), .inr (.inr (some 84))]) (h1 := hp L s c e) rfl ?_
        refine RuP.step (pc' := 104) (ls' := [some (.inr (.inr (some 84))), some (.inl l1), some (.inl l2), some (.inl l3), some (.inl t0), d5, d6]) (st' := [.inl l1, .inr (.inr (some 118)), .inr (.inr (some 84))]) (h1 := hp L s c e) rfl ?_
        obtain ⟨b23, h⟩ := gd_some h
        refine RuP.ald (f := fun t => t == 0) (j := l1) (a := 118) rfl rfl b23.1 b23.2 ?_
        obtain ⟨q9, h1, h⟩ := bd_some h
        refine RuP.cI rfl ((ev_238 h1).up (by decide)) ?_
        refine RuP.step (pc' := 110) (ls' := [some (.inr (.inr (some 84))), some (.inl l1), some (.inl l2), some (.inl l3), some (.inl t0), some (.inl q9), d6]) (st' := []) (h1 := hp L s c e) rfl ?_
        refine RuP.step (pc' := 111) (ls' := [some (.inr (.inr (some 84))), some (.inl l1), some (.inl l2), some (.inl l3), some (.inl t0), some (.inl q9), d6]) (st' := [.inl l3]) (h1 := hp L s c e) rfl ?_
        refine RuP.step (pc' := 112) (ls' := [some (.inr (.inr (some 84))), some (.inl l1), some (.inl l2), some (.inl l3), some (.inl t0), some (.inl q9), d6]) (st' := [.inr (.inr (some 84)), .inl l3]) (h1 := hp L s c e) rfl ?_
        refine RuP.step (pc' := 114) (ls' := [some (.inr (.inr (some 84))), some (.inl l1), some (.inl l2), some (.inl l3), some (.inl t0), some (.inl q9), d6]) (st' := [.inl q9, .inr (.inr (some 84)), .inl l3]) (h1 := hp L s c e) rfl ?_
        obtain ⟨q10, h1, h⟩ := bd_some h
        refine RuP.cI rfl ((ev_256 h1).up (by decide)) ?_
        by_cases h24 : ¬ l3 = q10
        · rw [if_pos h24] at h
          refine RuP.jy rfl h24 ?_
          refine RuP.step (pc' := 137) (ls' := [some (.inr (.inr (some 84))), some (.inl l1), some (.inl l2), some (.inl l3), some (.inl t0), some (.inl q9), d6]) (st' := [.inl (-2)]) (h1 := hp L s c e) rfl ?_
          cases h
          exact RuP.dI rfl
        · rw [if_neg h24] at h
          refine RuP.jn rfl h24 ?_
          refine RuP.step (pc' := 121) (ls' := [some (.inr (.inr (some 84))), some (.inl l1), some (.inl l2), some (.inl l3), some (.inl t0), some (.inl q9), d6]) (st' := [.inr (.inr (some 84))]) (h1 := hp L s c e) rfl ?_
          refine RuP.step (pc' := 122) (ls' := [some (.inr (.inr (some 84))), some (.inl l1), some (.inl l2), some (.inl l3), some (.inl t0), some (.inl q9), d6]) (st' := [.inr (.inr (some 84)), .inr (.inr (some 84))]) (h1 := hp L s c e) rfl ?_
          refine RuP.step (pc' := 125) (ls' := [some (.inr (.inr (some 84))), some (.inl l1), some (.inl l2), some (.inl l3), some (.inl t0), some (.inl q9), d6]) (st' := [.inr (.inr (some 97)), .inr (.inr (some 84))]) (h1 := hp L s c e) rfl ?_
          refine RuP.step (pc' := 127) (ls' := [some (.inr (.inr (some 84))), some (.inl l1), some (.inl l2), some (.inl l3), some (.inl t0), some (.inl q9), d6]) (st' := [.inl q9, .inr (.inr (some 97)), .inr (.inr (some 84))]) (h1 := hp L s c e) rfl ?_
          obtain ⟨b25, h⟩ := gd_some h
          refine RuP.ald (f := fun t => t == 0) (j := q9) (a := 97) rfl rfl b25.1 b25.2 ?_
          obtain ⟨q11, h1, h⟩ := bd_some h
          refine RuP.cJ rfl ((ev_218 h1).up (by decide)) ?_
          refine RuP.step (pc' := 132) (ls' := [some (.inr (.inr (some 84))), some (.inl l1), some (.inl l2), some (.inl l3), some (.inl t0), some (.inl q9), d6]) (st' := [.inl (ax_w32 q11)]) (h1 := hp L s c e) rfl ?_
          refine RuP.step (pc' := 137) (ls' := [some (.inr (.inr (some 84))), some (.inl l1), some (.inl l2), some (.inl l3), some (.inl t0), some (.inl q9), d6]) (st' := [.inl (ax_w32 q11)]) (h1 := hp L s c e) rfl ?_
          cases h
          exact RuP.dI rfl
    · rw [if_neg h1] at h
      refine RuP.jn rfl h1 ?_
      refine RuP.step (pc' := 71) (ls' := [some (.inr (.inr (some 84))), some (.inl l1), some (.inl l2), some (.inl l3), some (.inl t0), d5, d6]) (st' := [.inr (.inr (some 84))]) (h1 := hp L s c e) rfl ?_
      refine RuP.step (pc' := 72) (ls' := [some (.inr (.inr (some 84))), some (.inl l1), some (.inl l2), some (.inl l3), some (.inl t0), d5, d6]) (st' := [.inr (.inr (some 84)), .inr (.inr (some 84))]) (h1 := hp L s c e) rfl ?_
      refine RuP.step (pc' := 75) (ls' := [some (.inr (.inr (some 84))), some (.inl l1), some (.inl l2), some (.inl l3), some (.inl t0), d5, d6]) (st' := [.inr (.inr (some 123)), .inr (.inr (some 84))]) (h1 := hp L s c e) rfl ?_
      refine RuP.step (pc' := 76) (ls' := [some (.inr (.inr (some 84))), some (.inl l1), some (.inl l2), some (.inl l3), some (.inl t0), d5, d6]) (st' := [.inl l1, .inr (.inr (some 123)), .inr (.inr (some 84))]) (h1 := hp L s c e) rfl ?_
      obtain ⟨b26, h⟩ := gd_some h
      refine RuP.ald (f := fun t => t == 0) (j := l1) (a := 123) rfl rfl b26.1 b26.2 ?_
      refine RuP.step (pc' := 78) (ls' := [some (.inr (.inr (some 84))), some (.inl l1), some (.inl l2), some (.inl l3), some (.inl t0), d5, d6]) (st' := [.inr (.inr (some 84)), .inl (s 123 l1.toNat), .inr (.inr (some 84))]) (h1 := hp L s c e) rfl ?_
      refine RuP.step (pc' := 81) (ls' := [some (.inr (.inr (some 84))), some (.inl l1), some (.inl l2), some (.inl l3), some (.inl t0), d5, d6]) (st' := [.inr (.inr (some 124)), .inl (s 123 l1.toNat), .inr (.inr (some 84))]) (h1 := hp L s c e) rfl ?_
      refine RuP.step (pc' := 82) (ls' := [some (.inr (.inr (some 84))), some (.inl l1), some (.inl l2), some (.inl l3), some (.inl t0), d5, d6]) (st' := [.inl l1, .inr (.inr (some 124)), .inl (s 123 l1.toNat), .inr (.inr (some 84))]) (h1 := hp L s c e) rfl ?_
      obtain ⟨b27, h⟩ := gd_some h
      refine RuP.ald (f := fun t => t == 0) (j := l1) (a := 124) rfl rfl b27.1 b27.2 ?_
      refine RuP.step (pc' := 84) (ls' := [some (.inr (.inr (some 84))), some (.inl l1), some (.inl l2), some (.inl l3), some (.inl t0), d5, d6]) (st' := [.inr (.inr (some 84)), .inl (s 124 l1.toNat), .inl (s 123 l1.toNat), .inr (.inr (some 84))]) (h1 := hp L s c e) rfl ?_
      refine RuP.step (pc' := 87) (ls' := [some (.inr (.inr (some 84))), some (.inl l1), some (.inl l2), some (.inl l3), some (.inl t0), d5, d6]) (st' := [.inr (.inr (some 118)), .inl (s 124 l1.toNat), .inl (s 123 l1.toNat), .inr (.inr (some 84))]) (h1 := hp L s c e) rfl ?_
      refine RuP.step (pc' := 88) (ls' := [some (.inr (.inr (some 84))), some (.inl l1), some (.inl l2), some (.inl l3), some (.inl t0), d5, d6]) (st' := [.inl l1, .inr (.inr (some 118)), .inl (s 124 l1.toNat), .inl (s 123 l1.toNat), .inr (.inr (some 84))]) (h1 := hp L s c e) rfl ?_
      obtain ⟨b28, h⟩ := gd_some h
      refine RuP.ald (f := fun t => t == 0) (j := l1) (a := 118) rfl rfl b28.1 b28.2 ?_
      obtain ⟨q12, h1, h⟩ := bd_some h
      refine RuP.cI rfl ((ev_255 h1).up (by decide)) ?_
      cases h
      exact RuP.dI rfl
  · rw [if_neg h0] at h
    refine RuP.jn rfl h0 ?_
    refine RuP.step (pc' := 54) (ls' := [some (.inr (.inr (some 84))), some (.inl l1), some (.inl l2), some (.inl l3), some (.inl t0), d5, d6]) (st' := [.inr (.inr (some 84))]) (h1 := hp L s c e) rfl ?_
    refine RuP.step (pc' := 55) (ls' := [some (.inr (.inr (some 84))), some (.inl l1), some (.inl l2), some (.inl l3), some (.inl t0), d5, d6]) (st' := [.inr (.inr (some 84)), .inr (.inr (some 84))]) (h1 := hp L s c e) rfl ?_
    refine RuP.step (pc' := 58) (ls' := [some (.inr (.inr (some 84))), some (.inl l1), some (.inl l2), some (.inl l3), some (.inl t0), d5, d6]) (st' := [.inr (.inr (some 119)), .inr (.inr (some 84))]) (h1 := hp L s c e) rfl ?_
    refine RuP.step (pc' := 59) (ls' := [some (.inr (.inr (some 84))), some (.inl l1), some (.inl l2), some (.inl l3), some (.inl t0), d5, d6]) (st' := [.inl l1, .inr (.inr (some 119)), .inr (.inr (some 84))]) (h1 := hp L s c e) rfl ?_
    obtain ⟨b29, h⟩ := gd_some h
    refine RuP.ald (f := fun t => t == 0) (j := l1) (a := 119) rfl rfl b29.1 b29.2 ?_
    obtain ⟨q13, h1, h⟩ := bd_some h
    refine RuP.cJ rfl ((ev_218 h1).up (by decide)) ?_
    refine RuP.step (pc' := 64) (ls' := [some (.inr (.inr (some 84))), some (.inl l1), some (.inl l2), some (.inl l3), some (.inl t0), d5, d6]) (st' := [.inl (ax_w32 q13)]) (h1 := hp L s c e) rfl ?_
    cases h
    exact RuP.dI rfl
noncomputable def j_247_26 (l1 l2 t0 : Int) (s : Sg) : Option Int :=
  (gd (0 ≤ l1 ∧ l1 < 8200) (
  (if s 120 l1.toNat ≤ 1 then
    j_247_47 l1 l2 t0 0 s
  else
    (gd (g_246 l1 1 s) (
    j_247_47 l1 l2 t0 (f_246 l1 1 s) s)))))
set_option maxRecDepth 20000 in
theorem bl_247_26 {L c : Nat} {e : Nat → Nat} : ∀ (d3 d4 d5 d6 : Option ax_V) (l1 l2 t0 : Int) (s : Sg) (q : Int), j_247_26 l1 l2 t0 s = some q → RuP 4 tb_m247 26 [some (.inr (.inr (some 84))), some (.inl l1), some (.inl l2), d3, d4, d5, d6] [.inl t0] (hp L s c e) (oI L c e (q, s)) := by
  intro d3 d4 d5 d6 l1 l2 t0 s q h
  unfold j_247_26 at h
  refine RuP.step (pc' := 27) (ls' := [some (.inr (.inr (some 84))), some (.inl l1), some (.inl l2), some (.inl t0), d4, d5, d6]) (st' := []) (h1 := hp L s c e) rfl ?_
  refine RuP.step (pc' := 28) (ls' := [some (.inr (.inr (some 84))), some (.inl l1), some (.inl l2), some (.inl t0), d4, d5, d6]) (st' := [.inr (.inr (some 84))]) (h1 := hp L s c e) rfl ?_
  refine RuP.step (pc' := 31) (ls' := [some (.inr (.inr (some 84))), some (.inl l1), some (.inl l2), some (.inl t0), d4, d5, d6]) (st' := [.inr (.inr (some 120))]) (h1 := hp L s c e) rfl ?_
  refine RuP.step (pc' := 32) (ls' := [some (.inr (.inr (some 84))), some (.inl l1), some (.inl l2), some (.inl t0), d4, d5, d6]) (st' := [.inl l1, .inr (.inr (some 120))]) (h1 := hp L s c e) rfl ?_
  obtain ⟨b0, h⟩ := gd_some h
  refine RuP.ald (f := fun t => t == 0) (j := l1) (a := 120) rfl rfl b0.1 b0.2 ?_
  refine RuP.step (pc' := 34) (ls' := [some (.inr (.inr (some 84))), some (.inl l1), some (.inl l2), some (.inl t0), d4, d5, d6]) (st' := [.inl 1, .inl (s 120 l1.toNat)]) (h1 := hp L s c e) rfl ?_
  by_cases h1 : s 120 l1.toNat ≤ 1
  · rw [if_pos h1] at h
    refine RuP.jy rfl h1 ?_
    refine RuP.step (pc' := 47) (ls' := [some (.inr (.inr (some 84))), some (.inl l1), some (.inl l2), some (.inl t0), d4, d5, d6]) (st' := [.inl 0]) (h1 := hp L s c e) rfl ?_
    exact bl_247_47 _ _ _ _ _ _ _ _ _ h
  · rw [if_neg h1] at h
    refine RuP.jn rfl h1 ?_
    refine RuP.step (pc' := 38) (ls' := [some (.inr (.inr (some 84))), some (.inl l1), some (.inl l2), some (.inl t0), d4, d5, d6]) (st' := [.inr (.inr (some 84))]) (h1 := hp L s c e) rfl ?_
    refine RuP.step (pc' := 39) (ls' := [some (.inr (.inr (some 84))), some (.inl l1), some (.inl l2), some (.inl t0), d4, d5, d6]) (st' := [.inl l1, .inr (.inr (some 84))]) (h1 := hp L s c e) rfl ?_
    refine RuP.step (pc' := 40) (ls' := [some (.inr (.inr (some 84))), some (.inl l1), some (.inl l2), some (.inl t0), d4, d5, d6]) (st' := [.inl 1, .inl l1, .inr (.inr (some 84))]) (h1 := hp L s c e) rfl ?_
    obtain ⟨b2, h⟩ := gd_some h
    refine RuP.cI rfl (EvP.i ((ev_246 l1 1 b2).up (by decide))) ?_
    refine RuP.step (pc' := 47) (ls' := [some (.inr (.inr (some 84))), some (.inl l1), some (.inl l2), some (.inl t0), d4, d5, d6]) (st' := [.inl (f_246 l1 1 s)]) (h1 := hp L s c e) rfl ?_
    exact bl_247_47 _ _ _ _ _ _ _ _ _ h
noncomputable def f_247 (x0 : Int) (s : Sg) : Option Int :=
  (gd (0 ≤ x0 ∧ x0 < 8200) (
  (gd (0 ≤ x0 ∧ x0 < 8200) (
  (if s 120 x0.toNat ≤ 0 then
    j_247_26 x0 (s 116 x0.toNat) 0 s
  else
    (gd (g_246 x0 0 s) (
    j_247_26 x0 (s 116 x0.toNat) (f_246 x0 0 s) s)))))))
set_option maxRecDepth 20000 in
theorem ev_247 {L c : Nat} {e : Nat → Nat} {s : Sg} {x0 : Int} {q : Int} (h : f_247 x0 s = some q) : EvP 5 247 [.inr (.inr (some 84)), .inl x0] (hp L s c e) (oI L c e (q, s)) := by
  unfold f_247 at h
  refine EvP.of (μ := tb_m247) (ls := [some (.inr (.inr (some 84))), some (.inl x0), none, none, none, none, none]) rfl (Nat.le_of_ble_eq_true rfl) rfl ?_
  refine RuP.step (pc' := 1) (ls' := [some (.inr (.inr (some 84))), some (.inl x0), none, none, none, none, none]) (st' := [.inr (.inr (some 84))]) (h1 := hp L s c e) rfl ?_
  refine RuP.step (pc' := 4) (ls' := [some (.inr (.inr (some 84))), some (.inl x0), none, none, none, none, none]) (st' := [.inr (.inr (some 116))]) (h1 := hp L s c e) rfl ?_
  refine RuP.step (pc' := 5) (ls' := [some (.inr (.inr (some 84))), some (.inl x0), none, none, none, none, none]) (st' := [.inl x0, .inr (.inr (some 116))]) (h1 := hp L s c e) rfl ?_
  obtain ⟨b0, h⟩ := gd_some h
  refine RuP.ald (f := fun t => t == 0) (j := x0) (a := 116) rfl rfl b0.1 b0.2 ?_
  refine RuP.step (pc' := 7) (ls' := [some (.inr (.inr (some 84))), some (.inl x0), some (.inl (s 116 x0.toNat)), none, none, none, none]) (st' := []) (h1 := hp L s c e) rfl ?_
  refine RuP.step (pc' := 8) (ls' := [some (.inr (.inr (some 84))), some (.inl x0), some (.inl (s 116 x0.toNat)), none, none, none, none]) (st' := [.inr (.inr (some 84))]) (h1 := hp L s c e) rfl ?_
  refine RuP.step (pc' := 11) (ls' := [some (.inr (.inr (some 84))), some (.inl x0), some (.inl (s 116 x0.toNat)), none, none, none, none]) (st' := [.inr (.inr (some 120))]) (h1 := hp L s c e) rfl ?_
  refine RuP.step (pc' := 12) (ls' := [some (.inr (.inr (some 84))), some (.inl x0), some (.inl (s 116 x0.toNat)), none, none, none, none]) (st' := [.inl x0, .inr (.inr (some 120))]) (h1 := hp L s c e) rfl ?_
  obtain ⟨b1, h⟩ := gd_some h
  refine RuP.ald (f := fun t => t == 0) (j := x0) (a := 120) rfl rfl b1.1 b1.2 ?_
  by_cases h2 : s 120 x0.toNat ≤ 0
  · rw [if_pos h2] at h
    refine RuP.jy rfl h2 ?_
    refine RuP.step (pc' := 26) (ls' := [some (.inr (.inr (some 84))), some (.inl x0), some (.inl (s 116 x0.toNat)), none, none, none, none]) (st' := [.inl 0]) (h1 := hp L s c e) rfl ?_
    exact bl_247_26 _ _ _ _ _ _ _ _ _ h
  · rw [if_neg h2] at h
    refine RuP.jn rfl h2 ?_
    refine RuP.step (pc' := 17) (ls' := [some (.inr (.inr (some 84))), some (.inl x0), some (.inl (s 116 x0.toNat)), none, none, none, none]) (st' := [.inr (.inr (some 84))]) (h1 := hp L s c e) rfl ?_
    refine RuP.step (pc' := 18) (ls' := [some (.inr (.inr (some 84))), some (.inl x0), some (.inl (s 116 x0.toNat)), none, none, none, none]) (st' := [.inl x0, .inr (.inr (some 84))]) (h1 := hp L s c e) rfl ?_
    refine RuP.step (pc' := 19) (ls' := [some (.inr (.inr (some 84))), some (.inl x0), some (.inl (s 116 x0.toNat)), none, none, none, none]) (st' := [.inl 0, .inl x0, .inr (.inr (some 84))]) (h1 := hp L s c e) rfl ?_
    obtain ⟨b3, h⟩ := gd_some h
    refine RuP.cI rfl (EvP.i ((ev_246 x0 0 b3).up (by decide))) ?_
    refine RuP.step (pc' := 26) (ls' := [some (.inr (.inr (some 84))), some (.inl x0), some (.inl (s 116 x0.toNat)), none, none, none, none]) (st' := [.inl (f_246 x0 0 s)]) (h1 := hp L s c e) rfl ?_
    exact bl_247_26 _ _ _ _ _ _ _ _ _ h
/-- MachineTextModel.checkSet(I)V -/
noncomputable def j_248_64 (l1 l2 : Int) (s : Sg) : Option Sg :=
  (gd (0 ≤ l1 ∧ l1 < 8200) (
  (gd (0 ≤ s 110 l1.toNat ∧ s 110 l1.toNat < 8200) (
  (if s 122 ((s 110 l1.toNat).toNat) ≤ 0 then
    some s
  else
    (gd (0 ≤ l1 ∧ l1 < 8200) (
    (gd (0 ≤ s 110 l1.toNat ∧ s 110 l1.toNat < 8200) (
    (gd (0 ≤ l2 ∧ l2 < 4100) (
    ((f_218 (s 97 l2.toNat) s).bind fun q2 =>
    (if s 122 ((s 110 l1.toNat).toNat) = ax_w32 q2 then
      some s
    else
      (gd (0 ≤ l1 ∧ l1 < 8200) (
      (gd (0 ≤ s 107 l1.toNat ∧ s 107 l1.toNat < 8200) (
      ((some (f_235 (s 89 ((s 107 l1.toNat).toNat)) s)).bind fun q3 =>
      some q3))))))))))))))))))
theorem bl_248_64 {L c : Nat} {e : Nat → Nat} : ∀ (d3 : Option ax_V) (l1 l2 : Int) (s : Sg) (q : Sg), j_248_64 l1 l2 s = some q → RuP 4 tb_m248 64 [some (.inr (.inr (some 84))), some (.inl l1), some (.inl l2), d3] [] (hp L s c e) (oV L c e q) := by
  intro d3 l1 l2 s q h
  unfold j_248_64 at h
  refine RuP.step (pc' := 65) (ls' := [some (.inr (.inr (some 84))), some (.inl l1), some (.inl l2), d3]) (st' := [.inr (.inr (some 84))]) (h1 := hp L s c e) rfl ?_
  refine RuP.step (pc' := 68) (ls' := [some (.inr (.inr (some 84))), some (.inl l1), some (.inl l2), d3]) (st' := [.inr (.inr (some 122))]) (h1 := hp L s c e) rfl ?_
  refine RuP.step (pc' := 69) (ls' := [some (.inr (.inr (some 84))), some (.inl l1), some (.inl l2), d3]) (st' := [.inr (.inr (some 84)), .inr (.inr (some 122))]) (h1 := hp L s c e) rfl ?_
  refine RuP.step (pc' := 72) (ls' := [some (.inr (.inr (some 84))), some (.inl l1), some (.inl l2), d3]) (st' := [.inr (.inr (some 110)), .inr (.inr (some 122))]) (h1 := hp L s c e) rfl ?_
  refine RuP.step (pc' := 73) (ls' := [some (.inr (.inr (some 84))), some (.inl l1), some (.inl l2), d3]) (st' := [.inl l1, .inr (.inr (some 110)), .inr (.inr (some 122))]) (h1 := hp L s c e) rfl ?_
  obtain ⟨b0, h⟩ := gd_some h
  refine RuP.ald (f := fun t => t == 0) (j := l1) (a := 110) rfl rfl b0.1 b0.2 ?_
  obtain ⟨b1, h⟩ := gd_some h
  refine RuP.ald (f := fun t => t == 0) (j := s 110 l1.toNat) (a := 122) rfl rfl b1.1 b1.2 ?_
  by_cases h2 : s 122 ((s 110 l1.toNat).toNat) ≤ 0
  · rw [if_pos h2] at h
    refine RuP.jy rfl h2 ?_
    cases h
    exact RuP.dV rfl
  · rw [if_neg h2] at h
    refine RuP.jn rfl h2 ?_
    refine RuP.step (pc' := 79) (ls' := [some (.inr (.inr (some 84))), some (.inl l1), some (.inl l2), d3]) (st' := [.inr (.inr (some 84))]) (h1 := hp L s c e) rfl ?_
    refine RuP.step (pc' := 82) (ls' := [some (.inr (.inr (some 84))), some (.inl l1), some (.inl l2), d3]) (st' := [.inr (.inr (some 122))]) (h1 := hp L s c e) rfl ?_
    refine RuP.step (pc' := 83) (ls' := [some (.inr (.inr (some 84))), some (.inl l1), some (.inl l2), d3]) (st' := [.inr (.inr (some 84)), .inr (.inr (some 122))]) (h1 := hp L s c e) rfl ?_
    refine RuP.step (pc' := 86) (ls' := [some (.inr (.inr (some 84))), some (.inl l1), some (.inl l2), d3]) (st' := [.inr (.inr (some 110)), .inr (.inr (some 122))]) (h1 := hp L s c e) rfl ?_
    refine RuP.step (pc' := 87) (ls' := [some (.inr (.inr (some 84))), some (.inl l1), some (.inl l2), d3]) (st' := [.inl l1, .inr (.inr (some 110)), .inr (.inr (some 122))]) (h1 := hp L s c e) rfl ?_
    obtain ⟨b3, h⟩ := gd_some h
    refine RuP.ald (f := fun t => t == 0) (j := l1) (a := 110) rfl rfl b3.1 b3.2 ?_
    obtain ⟨b4, h⟩ := gd_some h
    refine RuP.ald (f := fun t => t == 0) (j := s 110 l1.toNat) (a := 122) rfl rfl b4.1 b4.2 ?_
    refine RuP.step (pc' := 90) (ls' := [some (.inr (.inr (some 84))), some (.inl l1), some (.inl l2), d3]) (st' := [.inr (.inr (some 84)), .inl (s 122 ((s 110 l1.toNat).toNat))]) (h1 := hp L s c e) rfl ?_
    refine RuP.step (pc' := 91) (ls' := [some (.inr (.inr (some 84))), some (.inl l1), some (.inl l2), d3]) (st' := [.inr (.inr (some 84)), .inr (.inr (some 84)), .inl (s 122 ((s 110 l1.toNat).toNat))]) (h1 := hp L s c e) rfl ?_
    refine RuP.step (pc' := 94) (ls' := [some (.inr (.inr (some 84))), some (.inl l1), some (.inl l2), d3]) (st' := [.inr (.inr (some 97)), .inr (.inr (some 84)), .inl (s 122 ((s 110 l1.toNat).toNat))]) (h1 := hp L s c e) rfl ?_
    refine RuP.step (pc' := 95) (ls' := [some (.inr (.inr (some 84))), some (.inl l1), some (.inl l2), d3]) (st' := [.inl l2, .inr (.inr (some 97)), .inr (.inr (some 84)), .inl (s 122 ((s 110 l1.toNat).toNat))]) (h1 := hp L s c e) rfl ?_
    obtain ⟨b5, h⟩ := gd_some h
    refine RuP.ald (f := fun t => t == 0) (j := l2) (a := 97) rfl rfl b5.1 b5.2 ?_
    obtain ⟨q2, h1, h⟩ := bd_some h
    refine RuP.cJ rfl ((ev_218 h1).up (by decide)) ?_
    refine RuP.step (pc' := 100) (ls' := [some (.inr (.inr (some 84))), some (.inl l1), some (.inl l2), d3]) (st' := [.inl (ax_w32 q2), .inl (s 122 ((s 110 l1.toNat).toNat))]) (h1 := hp L s c e) rfl ?_
    by_cases h6 : s 122 ((s 110 l1.toNat).toNat) = ax_w32 q2
    · rw [if_pos h6] at h
      refine RuP.jy rfl h6 ?_
      cases h
      exact RuP.dV rfl
    · rw [if_neg h6] at h
      refine RuP.jn rfl h6 ?_
      refine RuP.step (pc' := 104) (ls' := [some (.inr (.inr (some 84))), some (.inl l1), some (.inl l2), d3]) (st' := [.inr (.inr (some 84))]) (h1 := hp L s c e) rfl ?_
      refine RuP.step (pc' := 105) (ls' := [some (.inr (.inr (some 84))), some (.inl l1), some (.inl l2), d3]) (st' := [.inr (.inr (some 84)), .inr (.inr (some 84))]) (h1 := hp L s c e) rfl ?_
      refine RuP.step (pc' := 108) (ls' := [some (.inr (.inr (some 84))), some (.inl l1), some (.inl l2), d3]) (st' := [.inr (.inr (some 89)), .inr (.inr (some 84))]) (h1 := hp L s c e) rfl ?_
      refine RuP.step (pc' := 109) (ls' := [some (.inr (.inr (some 84))), some (.inl l1), some (.inl l2), d3]) (st' := [.inr (.inr (some 84)), .inr (.inr (some 89)), .inr (.inr (some 84))]) (h1 := hp L s c e) rfl ?_
      refine RuP.step (pc' := 112) (ls' := [some (.inr (.inr (some 84))), some (.inl l1), some (.inl l2), d3]) (st' := [.inr (.inr (some 107)), .inr (.inr (some 89)), .inr (.inr (some 84))]) (h1 := hp L s c e) rfl ?_
      refine RuP.step (pc' := 113) (ls' := [some (.inr (.inr (some 84))), some (.inl l1), some (.inl l2), d3]) (st' := [.inl l1, .inr (.inr (some 107)), .inr (.inr (some 89)), .inr (.inr (some 84))]) (h1 := hp L s c e) rfl ?_
      obtain ⟨b7, h⟩ := gd_some h
      refine RuP.ald (f := fun t => t == 0) (j := l1) (a := 107) rfl rfl b7.1 b7.2 ?_
      obtain ⟨b8, h⟩ := gd_some h
      refine RuP.ald (f := fun t => t == 0) (j := s 107 l1.toNat) (a := 89) rfl rfl b8.1 b8.2 ?_
      obtain ⟨q3, h1, h⟩ := bd_some h
      refine RuP.cVe h1 rfl (EvP.v ((ev_235 (s 89 ((s 107 l1.toNat).toNat))).up (by decide))) ?_
      cases h
      exact RuP.dV rfl
noncomputable def f_248 (x0 : Int) (s : Sg) : Option Sg :=
  (gd (0 ≤ x0 ∧ x0 < 8200) (
  ((f_238 (s 107 x0.toNat) s).bind fun q1 =>
  (gd (0 ≤ x0 ∧ x0 < 8200) (
  (if s 109 x0.toNat < 0 then
    j_248_64 x0 q1 s
  else
    (gd (0 ≤ x0 ∧ x0 < 8200) (
    (gd (0 ≤ s 109 x0.toNat ∧ s 109 x0.toNat < 8200) (
    (if ¬ (s 122 ((s 109 x0.toNat).toNat)) = (-2) then
      ((f_256 q1 s).bind fun q4 =>
      (if s 122 ((s 109 x0.toNat).toNat) = q4 then
        j_248_64 x0 q1 s
      else
        (gd (0 ≤ x0 ∧ x0 < 8200) (
        (gd (0 ≤ s 107 x0.toNat ∧ s 107 x0.toNat < 8200) (
        ((some (f_235 (s 89 ((s 107 x0.toNat).toNat)) s)).bind fun q5 =>
        some q5)))))))
    else
      some s)))))))))))
theorem ev_248 {L c : Nat} {e : Nat → Nat} {s : Sg} {x0 : Int} {q : Sg} (h : f_248 x0 s = some q) : EvP 5 248 [.inr (.inr (some 84)), .inl x0] (hp L s c e) (oV L c e q) := by
  unfold f_248 at h
  refine EvP.of (μ := tb_m248) (ls := [some (.inr (.inr (some 84))), some (.inl x0), none, none]) rfl (Nat.le_of_ble_eq_true rfl) rfl ?_
  refine RuP.step (pc' := 1) (ls' := [some (.inr (.inr (some 84))), some (.inl x0), none, none]) (st' := [.inr (.inr (some 84))]) (h1 := hp L s c e) rfl ?_
  refine RuP.step (pc' := 2) (ls' := [some (.inr (.inr (some 84))), some (.inl x0), none, none]) (st' := [.inr (.inr (some 84)), .inr (.inr (some 84))]) (h1 := hp L s c e) rfl ?_
  refine RuP.step (pc' := 5) (ls' := [some (.inr (.inr (some 84))), some (.inl x0), none, none]) (st' := [.inr (.inr (some 107)), .inr (.inr (some 84))]) (h1 := hp L s c e) rfl ?_
  refine RuP.step (pc' := 6) (ls' := [some (.inr (.inr (some 84))), some (.inl x0), none, none]) (st' := [.inl x0, .inr (.inr (some 107)), .inr (.inr (some 84))]) (h1 := hp L s c e) rfl ?_
  obtain ⟨b0, h⟩ := gd_some h
  refine RuP.ald (f := fun t => t == 0) (j := x0) (a := 107) rfl rfl b0.1 b0.2 ?_
  obtain ⟨q1, h1, h⟩ := bd_some h
  refine RuP.cI rfl ((ev_238 h1).up (by decide)) ?_
  refine RuP.step (pc' := 11) (ls' := [some (.inr (.inr (some 84))), some (.inl x0), some (.inl q1), none]) (st' := []) (h1 := hp L s c e) rfl ?_
  refine RuP.step (pc' := 12) (ls' := [some (.inr (.inr (some 84))), some (.inl x0), some (.inl q1), none]) (st' := [.inr (.inr (some 84))]) (h1 := hp L s c e) rfl ?_
  refine RuP.step (pc' := 15) (ls' := [some (.inr (.inr (some 84))), some (.inl x0), some (.inl q1), none]) (st' := [.inr (.inr (some 109))]) (h1 := hp L s c e) rfl ?_
  refine RuP.step (pc' := 16) (ls' := [some (.inr (.inr (some 84))), some (.inl x0), some (.inl q1), none]) (st' := [.inl x0, .inr (.inr (some 109))]) (h1 := hp L s c e) rfl ?_
  obtain ⟨b1, h⟩ := gd_some h
  refine RuP.ald (f := fun t => t == 0) (j := x0) (a := 109) rfl rfl b1.1 b1.2 ?_
  by_cases h2 : s 109 x0.toNat < 0
  · rw [if_pos h2] at h
    refine RuP.jy rfl h2 ?_
    exact bl_248_64 _ _ _ _ _ h
  · rw [if_neg h2] at h
    refine RuP.jn rfl h2 ?_
    refine RuP.step (pc' := 21) (ls' := [some (.inr (.inr (some 84))), some (.inl x0), some (.inl q1), none]) (st' := [.inr (.inr (some 84))]) (h1 := hp L s c e) rfl ?_
    refine RuP.step (pc' := 24) (ls' := [some (.inr (.inr (some 84))), some (.inl x0), some (.inl q1), none]) (st' := [.inr (.inr (some 122))]) (h1 := hp L s c e) rfl ?_
    refine RuP.step (pc' := 25) (ls' := [some (.inr (.inr (some 84))), some (.inl x0), some (.inl q1), none]) (st' := [.inr (.inr (some 84)), .inr (.inr (some 122))]) (h1 := hp L s c e) rfl ?_
    refine RuP.step (pc' := 28) (ls' := [some (.inr (.inr (some 84))), some (.inl x0), some (.inl q1), none]) (st' := [.inr (.inr (some 109)), .inr (.inr (some 122))]) (h1 := hp L s c e) rfl ?_
    refine RuP.step (pc' := 29) (ls' := [some (.inr (.inr (some 84))), some (.inl x0), some (.inl q1), none]) (st' := [.inl x0, .inr (.inr (some 109)), .inr (.inr (some 122))]) (h1 := hp L s c e) rfl ?_
    obtain ⟨b3, h⟩ := gd_some h
    refine RuP.ald (f := fun t => t == 0) (j := x0) (a := 109) rfl rfl b3.1 b3.2 ?_
    obtain ⟨b4, h⟩ := gd_some h
    refine RuP.ald (f := fun t => t == 0) (j := s 109 x0.toNat) (a := 122) rfl rfl b4.1 b4.2 ?_
    refine RuP.step (pc' := 32) (ls' := [some (.inr (.inr (some 84))), some (.inl x0), some (.inl q1), some (.inl (s 122 ((s 109 x0.toNat).toNat)))]) (st' := []) (h1 := hp L s c e) rfl ?_
    refine RuP.step (pc' := 33) (ls' := [some (.inr (.inr (some 84))), some (.inl x0), some (.inl q1), some (.inl (s 122 ((s 109 x0.toNat).toNat)))]) (st' := [.inl (s 122 ((s 109 x0.toNat).toNat))]) (h1 := hp L s c e) rfl ?_
    refine RuP.step (pc' := 35) (ls' := [some (.inr (.inr (some 84))), some (.inl x0), some (.inl q1), some (.inl (s 122 ((s 109 x0.toNat).toNat)))]) (st' := [.inl (-2), .inl (s 122 ((s 109 x0.toNat).toNat))]) (h1 := hp L s c e) rfl ?_
    by_cases h5 : ¬ (s 122 ((s 109 x0.toNat).toNat)) = (-2)
    · rw [if_pos h5] at h
      refine RuP.jy rfl h5 ?_
      refine RuP.step (pc' := 40) (ls' := [some (.inr (.inr (some 84))), some (.inl x0), some (.inl q1), some (.inl (s 122 ((s 109 x0.toNat).toNat)))]) (st' := [.inl (s 122 ((s 109 x0.toNat).toNat))]) (h1 := hp L s c e) rfl ?_
      refine RuP.step (pc' := 41) (ls' := [some (.inr (.inr (some 84))), some (.inl x0), some (.inl q1), some (.inl (s 122 ((s 109 x0.toNat).toNat)))]) (st' := [.inr (.inr (some 84)), .inl (s 122 ((s 109 x0.toNat).toNat))]) (h1 := hp L s c e) rfl ?_
      refine RuP.step (pc' := 42) (ls' := [some (.inr (.inr (some 84))), some (.inl x0), some (.inl q1), some (.inl (s 122 ((s 109 x0.toNat).toNat)))]) (st' := [.inl q1, .inr (.inr (some 84)), .inl (s 122 ((s 109 x0.toNat).toNat))]) (h1 := hp L s c e) rfl ?_
      obtain ⟨q4, h1, h⟩ := bd_some h
      refine RuP.cI rfl ((ev_256 h1).up (by decide)) ?_
      by_cases h6 : s 122 ((s 109 x0.toNat).toNat) = q4
      · rw [if_pos h6] at h
        refine RuP.jy rfl h6 ?_
        exact bl_248_64 _ _ _ _ _ h
      · rw [if_neg h6] at h
        refine RuP.jn rfl h6 ?_
        refine RuP.step (pc' := 49) (ls' := [some (.inr (.inr (some 84))), some (.inl x0), some (.inl q1), some (.inl (s 122 ((s 109 x0.toNat).toNat)))]) (st' := [.inr (.inr (some 84))]) (h1 := hp L s c e) rfl ?_
        refine RuP.step (pc' := 50) (ls' := [some (.inr (.inr (some 84))), some (.inl x0), some (.inl q1), some (.inl (s 122 ((s 109 x0.toNat).toNat)))]) (st' := [.inr (.inr (some 84)), .inr (.inr (some 84))]) (h1 := hp L s c e) rfl ?_
        refine RuP.step (pc' := 53) (ls' := [some (.inr (.inr (some 84))), some (.inl x0), some (.inl q1), some (.inl (s 122 ((s 109 x0.toNat).toNat)))]) (st' := [.inr (.inr (some 89)), .inr (.inr (some 84))]) (h1 := hp L s c e) rfl ?_
        refine RuP.step (pc' := 54) (ls' := [some (.inr (.inr (some 84))), some (.inl x0), some (.inl q1), some (.inl (s 122 ((s 109 x0.toNat).toNat)))]) (st' := [.inr (.inr (some 84)), .inr (.inr (some 89)), .inr (.inr (some 84))]) (h1 := hp L s c e) rfl ?_
        refine RuP.step (pc' := 57) (ls' := [some (.inr (.inr (some 84))), some (.inl x0), some (.inl q1), some (.inl (s 122 ((s 109 x0.toNat).toNat)))]) (st' := [.inr (.inr (some 107)), .inr (.inr (some 89)), .inr (.inr (some 84))]) (h1 := hp L s c e) rfl ?_
        refine RuP.step (pc' := 58) (ls' := [some (.inr (.inr (some 84))), some (.inl x0), some (.inl q1), some (.inl (s 122 ((s 109 x0.toNat).toNat)))]) (st' := [.inl x0, .inr (.inr (some 107)), .inr (.inr (some 89)), .inr (.inr (some 84))]) (h1 := hp L s c e) rfl ?_
        obtain ⟨b7, h⟩ := gd_some h
        refine RuP.ald (f := fun t => t == 0) (j := x0) (a := 107) rfl rfl b7.1 b7.2 ?_
        obtain ⟨b8, h⟩ := gd_some h
        refine RuP.ald (f := fun t => t == 0) (j := s 107 x0.toNat) (a := 89) rfl rfl b8.1 b8.2 ?_
        obtain ⟨q5, h1, h⟩ := bd_some h
        refine RuP.cVe h1 rfl (EvP.v ((ev_235 (s 89 ((s 107 x0.toNat).toNat))).up (by decide))) ?_
        cases h
        exact RuP.dV rfl
    · rw [if_neg h5] at h
      refine RuP.jn rfl h5 ?_
      cases h
      exact RuP.dV rfl
/-- MachineTextModel.behind()I -/
noncomputable def j_261_161 (l1 : Int) (s : Sg) : Option (Int × Sg) :=
  (gd (0 ≤ s 84 18 ∧ s 84 18 < 8200) (
  (gd (0 ≤ s 84 63 ∧ s 84 63 < 8200) (
  (gd (0 ≤ s 84 63 ∧ s 84 63 < 8200) (
  some (1, (ax_u2 (ax_u2 (ax_u2 (ax_u2 (ax_u2 (ax_u2 s 92 ((s 84 18).toNat) 1) 129 ((s 84 63).toNat) l1) 130 ((s 84 63).toNat) (s 84 18)) 84 63 (ax_w32 ((s 84 63) + 1))) 84 18 (ax_w32 ((s 84 18) + 1))) 84 70 1))))))))
set_option maxRecDepth 20000 in
theorem bl_261_161 {L c : Nat} {e : Nat → Nat} : ∀ (z2 : Int) (l1 : Int) (s : Sg) (q : Int × Sg), j_261_161 l1 s = some q → RuP 4 tb_m261 161 [some (.inr (.inr (some 84))), some (.inl l1), some (.inl z2)] [] (hp L s c e) (oI L c e q) := by
  intro z2 l1 s q h
  unfold j_261_161 at h
  refine RuP.step (pc' := 162) (ls' := [some (.inr (.inr (some 84))), some (.inl l1), some (.inl z2)]) (st' := [.inr (.inr (some 84))]) (h1 := hp L s c e) rfl ?_
  refine RuP.step (pc' := 165) (ls' := [some (.inr (.inr (some 84))), some (.inl l1), some (.inl z2)]) (st' := [.inr (.inr (some 92))]) (h1 := hp L s c e) rfl ?_
  refine RuP.step (pc' := 166) (ls' := [some (.inr (.inr (some 84))), some (.inl l1), some (.inl z2)]) (st' := [.inr (.inr (some 84)), .inr (.inr (some 92))]) (h1 := hp L s c e) rfl ?_
  refine RuP.step (pc' := 169) (ls' := [some (.inr (.inr (some 84))), some (.inl l1), some (.inl z2)]) (st' := [.inl (s 84 18), .inr (.inr (some 92))]) (h1 := hp L s c e) rfl ?_
  refine RuP.step (pc' := 170) (ls' := [some (.inr (.inr (some 84))), some (.inl l1), some (.inl z2)]) (st' := [.inl 1, .inl (s 84 18), .inr (.inr (some 92))]) (h1 := hp L s c e) rfl ?_
  obtain ⟨b0, h⟩ := gd_some h
  refine RuP.ast (f := fun t => t == 1 || t == 3) (j := s 84 18) (a := 92) rfl rfl (by decide) rfl rfl b0.1 b0.2 ?_
  refine RuP.step (pc' := 172) (ls' := [some (.inr (.inr (some 84))), some (.inl l1), some (.inl z2)]) (st' := [.inr (.inr (some 84))]) (h1 := hp L (ax_u2 s 92 ((s 84 18).toNat) 1) c e) rfl ?_
  refine RuP.step (pc' := 175) (ls' := [some (.inr (.inr (some 84))), some (.inl l1), some (.inl z2)]) (st' := [.inr (.inr (some 129))]) (h1 := hp L (ax_u2 s 92 ((s 84 18).toNat) 1) c e) rfl ?_
  refine RuP.step (pc' := 176) (ls' := [some (.inr (.inr (some 84))), some (.inl l1), some (.inl z2)]) (st' := [.inr (.inr (some 84)), .inr (.inr (some 129))]) (h1 := hp L (ax_u2 s 92 ((s 84 18).toNat) 1) c e) rfl ?_
  refine RuP.step (pc' := 179) (ls' := [some (.inr (.inr (some 84))), some (.inl l1), some (.inl z2)]) (st' := [.inl (s 84 63), .inr (.inr (some 129))]) (h1 := hp L (ax_u2 s 92 ((s 84 18).toNat) 1) c e) rfl ?_
  refine RuP.step (pc' := 180) (ls' := [some (.inr (.inr (some 84))), some (.inl l1), some (.inl z2)]) (st' := [.inl l1, .inl (s 84 63), .inr (.inr (some 129))]) (h1 := hp L (ax_u2 s 92 ((s 84 18).toNat) 1) c e) rfl ?_
  obtain ⟨b1, h⟩ := gd_some h
  refine RuP.ast (f := fun t => t == 0) (j := s 84 63) (a := 129) rfl rfl (by decide) rfl rfl b1.1 b1.2 ?_
  refine RuP.step (pc' := 182) (ls' := [some (.inr (.inr (some 84))), some (.inl l1), some (.inl z2)]) (st' := [.inr (.inr (some 84))]) (h1 := hp L (ax_u2 (ax_u2 s 92 ((s 84 18).toNat) 1) 129 ((s 84 63).toNat) l1) c e) rfl ?_
  refine RuP.step (pc' := 185) (ls' := [some (.inr (.inr (some 84))), some (.inl l1), some (.inl z2)]) (st' := [.inr (.inr (some 130))]) (h1 := hp L (ax_u2 (ax_u2 s 92 ((s 84 18).toNat) 1) 129 ((s 84 63).toNat) l1) c e) rfl ?_
  refine RuP.step (pc' := 186) (ls' := [some (.inr (.inr (some 84))), some (.inl l1), some (.inl z2)]) (st' := [.inr (.inr (some 84)), .inr (.inr (some 130))]) (h1 := hp L (ax_u2 (ax_u2 s 92 ((s 84 18).toNat) 1) 129 ((s 84 63).toNat) l1) c e) rfl ?_
  refine RuP.step (pc' := 189) (ls' := [some (.inr (.inr (some 84))), some (.inl l1), some (.inl z2)]) (st' := [.inl (s 84 63), .inr (.inr (some 130))]) (h1 := hp L (ax_u2 (ax_u2 s 92 ((s 84 18).toNat) 1) 129 ((s 84 63).toNat) l1) c e) rfl ?_
  refine RuP.step (pc' := 190) (ls' := [some (.inr (.inr (some 84))), some (.inl l1), some (.inl z2)]) (st' := [.inr (.inr (some 84)), .inl (s 84 63), .inr (.inr (some 130))]) (h1 := hp L (ax_u2 (ax_u2 s 92 ((s 84 18).toNat) 1) 129 ((s 84 63).toNat) l1) c e) rfl ?_
  refine RuP.step (pc' := 193) (ls' := [some (.inr (.inr (some 84))), some (.inl l1), some (.inl z2)]) (st' := [.inl (s 84 18), .inl (s 84 63), .inr (.inr (some 130))]) (h1 := hp L (ax_u2 (ax_u2 s 92 ((s 84 18).toNat) 1) 129 ((s 84 63).toNat) l1) c e) rfl ?_
  obtain ⟨b2, h⟩ := gd_some h
  refine RuP.ast (f := fun t => t == 0) (j := s 84 63) (a := 130) rfl rfl (by decide) rfl rfl b2.1 b2.2 ?_
  refine RuP.step (pc' := 195) (ls' := [some (.inr (.inr (some 84))), some (.inl l1), some (.inl z2)]) (st' := [.inr (.inr (some 84))]) (h1 := hp L (ax_u2 (ax_u2 (ax_u2 s 92 ((s 84 18).toNat) 1) 129 ((s 84 63).toNat) l1) 130 ((s 84 63).toNat) (s 84 18)) c e) rfl ?_
  refine RuP.step (pc' := 196) (ls' := [some (.inr (.inr (some 84))), some (.inl l1), some (.inl z2)]) (st' := [.inr (.inr (some 84)), .inr (.inr (some 84))]) (h1 := hp L (ax_u2 (ax_u2 (ax_u2 s 92 ((s 84 18).toNat) 1) 129 ((s 84 63).toNat) l1) 130 ((s 84 63).toNat) (s 84 18)) c e) rfl ?_
  refine RuP.step (pc' := 199) (ls' := [some (.inr (.inr (some 84))), some (.inl l1), some (.inl z2)]) (st' := [.inl (s 84 63), .inr (.inr (some 84))]) (h1 := hp L (ax_u2 (ax_u2 (ax_u2 s 92 ((s 84 18).toNat) 1) 129 ((s 84 63).toNat) l1) 130 ((s 84 63).toNat) (s 84 18)) c e) rfl ?_
  refine RuP.step (pc' := 200) (ls' := [some (.inr (.inr (some 84))), some (.inl l1), some (.inl z2)]) (st' := [.inl 1, .inl (s 84 63), .inr (.inr (some 84))]) (h1 := hp L (ax_u2 (ax_u2 (ax_u2 s 92 ((s 84 18).toNat) 1) 129 ((s 84 63).toNat) l1) 130 ((s 84 63).toNat) (s 84 18)) c e) rfl ?_
  refine RuP.step (pc' := 201) (ls' := [some (.inr (.inr (some 84))), some (.inl l1), some (.inl z2)]) (st' := [.inl (ax_w32 ((s 84 63) + 1)), .inr (.inr (some 84))]) (h1 := hp L (ax_u2 (ax_u2 (ax_u2 s 92 ((s 84 18).toNat) 1) 129 ((s 84 63).toNat) l1) 130 ((s 84 63).toNat) (s 84 18)) c e) rfl ?_
  refine RuP.step (pc' := 204) (ls' := [some (.inr (.inr (some 84))), some (.inl l1), some (.inl z2)]) (st' := []) (h1 := hp L (ax_u2 (ax_u2 (ax_u2 (ax_u2 s 92 ((s 84 18).toNat) 1) 129 ((s 84 63).toNat) l1) 130 ((s 84 63).toNat) (s 84 18)) 84 63 (ax_w32 ((s 84 63) + 1))) c e) rfl ?_
  refine RuP.step (pc' := 205) (ls' := [some (.inr (.inr (some 84))), some (.inl l1), some (.inl z2)]) (st' := [.inr (.inr (some 84))]) (h1 := hp L (ax_u2 (ax_u2 (ax_u2 (ax_u2 s 92 ((s 84 18).toNat) 1) 129 ((s 84 63).toNat) l1) 130 ((s 84 63).toNat) (s 84 18)) 84 63 (ax_w32 ((s 84 63) + 1))) c e) rfl ?_
  refine RuP.step (pc' := 206) (ls' := [some (.inr (.inr (some 84))), some (.inl l1), some (.inl z2)]) (st' := [.inr (.inr (some 84)), .inr (.inr (some 84))]) (h1 := hp L (ax_u2 (ax_u2 (ax_u2 (ax_u2 s 92 ((s 84 18).toNat) 1) 129 ((s 84 63).toNat) l1) 130 ((s 84 63).toNat) (s 84 18)) 84 63 (ax_w32 ((s 84 63) + 1))) c e) rfl ?_
  refine RuP.step (pc' := 209) (ls' := [some (.inr (.inr (some 84))), some (.inl l1), some (.inl z2)]) (st' := [.inl (s 84 18), .inr (.inr (some 84))]) (h1 := hp L (ax_u2 (ax_u2 (ax_u2 (ax_u2 s 92 ((s 84 18).toNat) 1) 129 ((s 84 63).toNat) l1) 130 ((s 84 63).toNat) (s 84 18)) 84 63 (ax_w32 ((s 84 63) + 1))) c e) rfl ?_
  refine RuP.step (pc' := 210) (ls' := [some (.inr (.inr (some 84))), some (.inl l1), some (.inl z2)]) (st' := [.inl 1, .inl (s 84 18), .inr (.inr (some 84))]) (h1 := hp L (ax_u2 (ax_u2 (ax_u2 (ax_u2 s 92 ((s 84 18).toNat) 1) 129 ((s 84 63).toNat) l1) 130 ((s 84 63).toNat) (s 84 18)) 84 63 (ax_w32 ((s 84 63) + 1))) c e) rfl ?_
  refine RuP.step (pc' := 211) (ls' := [some (.inr (.inr (some 84))), some (.inl l1), some (.inl z2)]) (st' := [.inl (ax_w32 ((s 84 18) + 1)), .inr (.inr (some 84))]) (h1 := hp L (ax_u2 (ax_u2 (ax_u2 (ax_u2 s 92 ((s 84 18).toNat) 1) 129 ((s 84 63).toNat) l1) 130 ((s 84 63).toNat) (s 84 18)) 84 63 (ax_w32 ((s 84 63) + 1))) c e) rfl ?_
  refine RuP.step (pc' := 214) (ls' := [some (.inr (.inr (some 84))), some (.inl l1), some (.inl z2)]) (st' := []) (h1 := hp L (ax_u2 (ax_u2 (ax_u2 (ax_u2 (ax_u2 s 92 ((s 84 18).toNat) 1) 129 ((s 84 63).toNat) l1) 130 ((s 84 63).toNat) (s 84 18)) 84 63 (ax_w32 ((s 84 63) + 1))) 84 18 (ax_w32 ((s 84 18) + 1))) c e) rfl ?_
  refine RuP.step (pc' := 215) (ls' := [some (.inr (.inr (some 84))), some (.inl l1), some (.inl z2)]) (st' := [.inr (.inr (some 84))]) (h1 := hp L (ax_u2 (ax_u2 (ax_u2 (ax_u2 (ax_u2 s 92 ((s 84 18).toNat) 1) 129 ((s 84 63).toNat) l1) 130 ((s 84 63).toNat) (s 84 18)) 84 63 (ax_w32 ((s 84 63) + 1))) 84 18 (ax_w32 ((s 84 18) + 1))) c e) rfl ?_
  refine RuP.step (pc' := 216) (ls' := [some (.inr (.inr (some 84))), some (.inl l1), some (.inl z2)]) (st' := [.inl 1, .inr (.inr (some 84))]) (h1 := hp L (ax_u2 (ax_u2 (ax_u2 (ax_u2 (ax_u2 s 92 ((s 84 18).toNat) 1) 129 ((s 84 63).toNat) l1) 130 ((s 84 63).toNat) (s 84 18)) 84 63 (ax_w32 ((s 84 63) + 1))) 84 18 (ax_w32 ((s 84 18) + 1))) c e) rfl ?_
  refine RuP.step (pc' := 219) (ls' := [some (.inr (.inr (some 84))), some (.inl l1), some (.inl z2)]) (st' := []) (h1 := hp L (ax_u2 (ax_u2 (ax_u2 (ax_u2 (ax_u2 (ax_u2 s 92 ((s 84 18).toNat) 1) 129 ((s 84 63).toNat) l1) 130 ((s 84 63).toNat) (s 84 18)) 84 63 (ax_w32 ((s 84 63) + 1))) 84 18 (ax_w32 ((s 84 18) + 1))) 84 70 1) c e) rfl ?_
  refine RuP.step (pc' := 220) (ls' := [some (.inr (.inr (some 84))), some (.inl l1), some (.inl z2)]) (st' := [.inl 1]) (h1 := hp L (ax_u2 (ax_u2 (ax_u2 (ax_u2 (ax_u2 (ax_u2 s 92 ((s 84 18).toNat) 1) 129 ((s 84 63).toNat) l1) 130 ((s 84 63).toNat) (s 84 18)) 84 63 (ax_w32 ((s 84 63) + 1))) 84 18 (ax_w32 ((s 84 18) + 1))) 84 70 1) c e) rfl ?_
  cases h
  exact RuP.dI rfl
noncomputable def f_261 (s : Sg) : Option (Int × Sg) :=
  (gd (g_252 9 s) (
  ((some (f_252 9 s)).bind fun q1 =>
  (if q1.1 = 0 then
    (gd (0 ≤ q1.2 84 18 ∧ q1.2 84 18 < 8200) (
    (if f_267 (q1.2 88 ((q1.2 84 18).toNat)) q1.2 < 0 then
      ((f_269 1 q1.2).bind fun q2 =>
      (gd (g_232 18 q2) (
      (if f_232 18 q2 = 0 then
        ((f_270 q2).bind fun q3 =>
        some (q3.1, q3.2))
      else
        ((f_265 (ax_w32 ((q2 84 59) - 1)) 1 q2).bind fun q4 =>
        (gd (0 ≤ q4 84 18 ∧ q4 84 18 < 8200) (
        (gd (g_262 6 (q4 84 18) (ax_u2 q4 92 ((q4 84 18).toNat) 1)) (
        ((some (f_262 6 (q4 84 18) (ax_u2 q4 92 ((q4 84 18).toNat) 1))).bind fun q5 =>
        some (1, (ax_u2 q5 84 18 (ax_w32 ((q5 84 18) + 1))))))))))))))
    else
      ((f_269 ((if ¬ (f_268 (f_267 (q1.2 88 ((q1.2 84 18).toNat)) q1.2) q1.2) = 1 then f_268 (f_267 (q1.2 88 ((q1.2 84 18).toNat)) q1.2) q1.2 else 2) : Int) q1.2).bind fun q6 =>
      (if ¬ (f_268 (f_267 (q1.2 88 ((q1.2 84 18).toNat)) q1.2) q1.2) = 1 then
        j_261_161 (f_267 (q1.2 88 ((q1.2 84 18).toNat)) q1.2) q6
      else
        (if q6 84 63 ≤ 0 then
          j_261_161 (f_267 (q1.2 88 ((q1.2 84 18).toNat)) q1.2) q6
        else
          (gd (0 ≤ ax_w32 ((q6 84 63) - 1) ∧ ax_w32 ((q6 84 63) - 1) < 8200) (
          (if 100 ≤ q6 129 ((ax_w32 ((q6 84 63) - 1)).toNat) then
            j_261_161 (f_267 (q1.2 88 ((q1.2 84 18).toNat)) q1.2) q6
          else
            (gd (0 ≤ ax_w32 ((q6 84 63) - 1) ∧ ax_w32 ((q6 84 63) - 1) < 8200) (
            (if ¬ (f_268 (q6 129 ((ax_w32 ((q6 84 63) - 1)).toNat)) q6) = 1 then
              j_261_161 (f_267 (q1.2 88 ((q1.2 84 18).toNat)) q1.2) q6
            else
              (gd (0 ≤ q6 84 18 ∧ q6 84 18 < 8200) (
              ((some (f_227 2 (q6 89 ((q6 84 18).toNat)) q6)).bind fun q7 =>
              some (0, q7))))))))))))))))
  else
    ((f_265 (ax_w32 ((q1.2 84 59) - 1)) 9 q1.2).bind fun q8 =>
    ((f_231 2 q8).bind fun q9 =>
    ((f_231 17 q9.2).bind fun q10 =>
    ((f_231 2 q10.2).bind fun q11 =>
    (gd (0 ≤ ax_w32 ((q11.2 84 59) - 1) ∧ ax_w32 ((q11.2 84 59) - 1) < 8200) (
    ((f_266 7 (q11.2 127 ((ax_w32 ((q11.2 84 59) - 1)).toNat)) q9.1 q11.1 1 q11.2).bind fun q12 =>
    some (0, q12))))))))))))
set_option maxRecDepth 20000 in
theorem ev_261 {L c : Nat} {e : Nat → Nat} {s : Sg} {q : Int × Sg} (h : f_261 s = some q) : EvP 5 261 [.inr (.inr (some 84))] (hp L s c e) (oI L c e q) := by
  unfold f_261 at h
  refine EvP.of (μ := tb_m261) (ls := [some (.inr (.inr (some 84))), none, none]) rfl (Nat.le_of_ble_eq_true rfl) rfl ?_
  refine RuP.step (pc' := 1) (ls' := [some (.inr (.inr (some 84))), none, none]) (st' := [.inr (.inr (some 84))]) (h1 := hp L s c e) rfl ?_
  refine RuP.step (pc' := 3) (ls' := [some (.inr (.inr (some 84))), none, none]) (st' := [.inl 9, .inr (.inr (some 84))]) (h1 := hp L s c e) rfl ?_
  obtain ⟨b0, h⟩ := gd_some h
  obtain ⟨q1, h1, h⟩ := bd_some h
  refine RuP.cIe h1 rfl (EvP.ip ((ev_252 9 b0).up (by decide))) ?_
  by_cases h1 : q1.1 = 0
  · rw [if_pos h1] at h
    refine RuP.jy rfl h1 ?_
    refine RuP.step (pc' := 63) (ls' := [some (.inr (.inr (some 84))), none, none]) (st' := [.inr (.inr (some 84))]) (h1 := hp L q1.2 c e) rfl ?_
    refine RuP.step (pc' := 64) (ls' := [some (.inr (.inr (some 84))), none, none]) (st' := [.inr (.inr (some 84)), .inr (.inr (some 84))]) (h1 := hp L q1.2 c e) rfl ?_
    refine RuP.step (pc' := 67) (ls' := [some (.inr (.inr (some 84))), none, none]) (st' := [.inr (.inr (some 88)), .inr (.inr (some 84))]) (h1 := hp L q1.2 c e) rfl ?_
    refine RuP.step (pc' := 68) (ls' := [some (.inr (.inr (some 84))), none, none]) (st' := [.inr (.inr (some 84)), .inr (.inr (some 88)), .inr (.inr (some 84))]) (h1 := hp L q1.2 c e) rfl ?_
    refine RuP.step (pc' := 71) (ls' := [some (.inr (.inr (some 84))), none, none]) (st' := [.inl (q1.2 84 18), .inr (.inr (some 88)), .inr (.inr (some 84))]) (h1 := hp L q1.2 c e) rfl ?_
    obtain ⟨b2, h⟩ := gd_some h
    refine RuP.ald (f := fun t => t == 0) (j := q1.2 84 18) (a := 88) rfl rfl b2.1 b2.2 ?_
    refine RuP.cI rfl ((ev_267 (q1.2 88 ((q1.2 84 18).toNat))).up (by decide)) ?_
    refine RuP.step (pc' := 76) (ls' := [some (.inr (.inr (some 84))), some (.inl (f_267 (q1.2 88 ((q1.2 84 18).toNat)) q1.2)), none]) (st' := []) (h1 := hp L q1.2 c e) rfl ?_
    refine RuP.step (pc' := 77) (ls' := [some (.inr (.inr (some 84))), some (.inl (f_267 (q1.2 88 ((q1.2 84 18).toNat)) q1.2)), none]) (st' := [.inl (f_267 (q1.2 88 ((q1.2 84 18).toNat)) q1.2)]) (h1 := hp L q1.2 c e) rfl ?_
    by_cases h3 : f_267 (q1.2 88 ((q1.2 84 18).toNat)) q1.2 < 0
    · rw [if_pos h3] at h
      refine RuP.jy rfl h3 ?_
      refine RuP.step (pc' := 222) (ls' := [some (.inr (.inr (some 84))), some (.inl (f_267 (q1.2 88 ((q1.2 84 18).toNat)) q1.2)), none]) (st' := [.inr (.inr (some 84))]) (h1 := hp L q1.2 c e) rfl ?_
      refine RuP.step (pc' := 223) (ls' := [some (.inr (.inr (some 84))), some (.inl (f_267 (q1.2 88 ((q1.2 84 18).toNat)) q1.2)), none]) (st' := [.inl 1, .inr (.inr (some 84))]) (h1 := hp L q1.2 c e) rfl ?_
      obtain ⟨q2, h1, h⟩ := bd_some h
      refine RuP.cV rfl ((ev_269 h1).up (by decide)) ?_
      refine RuP.step (pc' := 227) (ls' := [some (.inr (.inr (some 84))), some (.inl (f_267 (q1.2 88 ((q1.2 84 18).toNat)) q1.2)), none]) (st' := [.inr (.inr (some 84))]) (h1 := hp L q2 c e) rfl ?_
      refine RuP.step (pc' := 229) (ls' := [some (.inr (.inr (some 84))), some (.inl (f_267 (q1.2 88 ((q1.2 84 18).toNat)) q1.2)), none]) (st' := [.inl 18, .inr (.inr (some 84))]) (h1 := hp L q2 c e) rfl ?_
      obtain ⟨b4, h⟩ := gd_some h
      refine RuP.cI rfl (EvP.i ((ev_232 18 b4).up (by decide))) ?_
      by_cases h5 : f_232 18 q2 = 0
      · rw [if_pos h5] at h
        refine RuP.jy rfl h5 ?_
        refine RuP.step (pc' := 279) (ls' := [some (.inr (.inr (some 84))), some (.inl (f_267 (q1.2 88 ((q1.2 84 18).toNat)) q1.2)), none]) (st' := [.inr (.inr (some 84))]) (h1 := hp L q2 c e) rfl ?_
        obtain ⟨q3, h1, h⟩ := bd_some h
        refine RuP.cI rfl ((ev_270 h1).up (by decide)) ?_
        cases h
        exact RuP.dI rfl
      · rw [if_neg h5] at h
        refine RuP.jn rfl h5 ?_
        refine RuP.step (pc' := 236) (ls' := [some (.inr (.inr (some 84))), some (.inl (f_267 (q1.2 88 ((q1.2 84 18).toNat)) q1.2)), none]) (st' := [.inr (.inr (some 84))]) (h1 := hp L q2 c e) rfl ?_
        refine RuP.step (pc' := 237) (ls' := [some (.inr (.inr (some 84))), some (.inl (f_267 (q1.2 88 ((q1.2 84 18).toNat)) q1.2)), none]) (st' := [.inr (.inr (some 84)), .inr (.inr (some 84))]) (h1 := hp L q2 c e) rfl ?_
        refine RuP.step (pc' := 240) (ls' := [some (.inr (.inr (some 84))), some (.inl (f_267 (q1.2 88 ((q1.2 84 18).toNat)) q1.2)), none]) (st' := [.inl (q2 84 59), .inr (.inr (some 84))]) (h1 := hp L q2 c e) rfl ?_
        refine RuP.step (pc' := 241) (ls' := [some (.inr (.inr (some 84))), some (.inl (f_267 (q1.2 88 ((q1.2 84 18).toNat)) q1.2)), none]) (st' := [.inl 1, .inl (q2 84 59), .inr (.inr (some 84))]) (h1 := hp L q2 c e) rfl ?_
        refine RuP.step (pc' := 242) (ls' := [some (.inr (.inr (some 84))), some (.inl (f_267 (q1.2 88 ((q1.2 84 18).toNat)) q1.2)), none]) (st' := [.inl (ax_w32 ((q2 84 59) - 1)), .inr (.inr (some 84))]) (h1 := hp L q2 c e) rfl ?_
        refine RuP.step (pc' := 243) (ls' := [some (.inr (.inr (some 84))), some (.inl (f_267 (q1.2 88 ((q1.2 84 18).toNat)) q1.2)), none]) (st' := [.inl 1, .inl (ax_w32 ((q2 84 59) - 1)), .inr (.inr (some 84))]) (h1 := hp L q2 c e) rfl ?_
        obtain ⟨q4, h1, h⟩ := bd_some h
        refine RuP.cV rfl ((ev_265 h1).up (by decide)) ?_
        refine RuP.step (pc' := 247) (ls' := [some (.inr (.inr (some 84))), some (.inl (f_267 (q1.2 88 ((q1.2 84 18).toNat)) q1.2)), none]) (st' := [.inr (.inr (some 84))]) (h1 := hp L q4 c e) rfl ?_
        refine RuP.step (pc' := 250) (ls' := [some (.inr (.inr (some 84))), some (.inl (f_267 (q1.2 88 ((q1.2 84 18).toNat)) q1.2)), none]) (st' := [.inr (.inr (some 92))]) (h1 := hp L q4 c e) rfl ?_
        refine RuP.step (pc' := 251) (ls' := [some (.inr (.inr (some 84))), some (.inl (f_267 (q1.2 88 ((q1.2 84 18).toNat)) q1.2)), none]) (st' := [.inr (.inr (some 84)), .inr (.inr (some 92))]) (h1 := hp L q4 c e) rfl ?_
        refine RuP.step (pc' := 254) (ls' := [some (.inr (.inr (some 84))), some (.inl (f_267 (q1.2 88 ((q1.2 84 18).toNat)) q1.2)), none]) (st' := [.inl (q4 84 18), .inr (.inr (some 92))]) (h1 := hp L q4 c e) rfl ?_
        refine RuP.step (pc' := 255) (ls' := [some (.inr (.inr (some 84))), some (.inl (f_267 (q1.2 88 ((q1.2 84 18).toNat)) q1.2)), none]) (st' := [.inl 1, .inl (q4 84 18), .inr (.inr (some 92))]) (h1 := hp L q4 c e) rfl ?_
        obtain ⟨b6, h⟩ := gd_some h
        refine RuP.ast (f := fun t => t == 1 || t == 3) (j := q4 84 18) (a := 92) rfl rfl (by decide) rfl rfl b6.1 b6.2 ?_
        refine RuP.step (pc' := 257) (ls' := [some (.inr (.inr (some 84))), some (.inl (f_267 (q1.2 88 ((q1.2 84 18).toNat)) q1.2)), none]) (st' := [.inr (.inr (some 84))]) (h1 := hp L (ax_u2 q4 92 ((q4 84 18).toNat) 1) c e) rfl ?_
        refine RuP.step (pc' := 259) (ls' := [some (.inr (.inr (some 84))), some (.inl (f_267 (q1.2 88 ((q1.2 84 18).toNat)) q1.2)), none]) (st' := [.inl 6, .inr (.inr (some 84))]) (h1 := hp L (ax_u2 q4 92 ((q4 84 18).toNat) 1) c e) rfl ?_
        refine RuP.step (pc' := 260) (ls' := [some (.inr (.inr (some 84))), some (.inl (f_267 (q1.2 88 ((q1.2 84 18).toNat)) q1.2)), none]) (st' := [.inr (.inr (some 84)), .inl 6, .inr (.inr (some 84))]) (h1 := hp L (ax_u2 q4 92 ((q4 84 18).toNat) 1) c e) rfl ?_
        refine RuP.step (pc' := 263) (ls' := [some (.inr (.inr (some 84))), some (.inl (f_267 (q1.2 88 ((q1.2 84 18).toNat)) q1.2)), none]) (st' := [.inl (q4 84 18), .inl 6, .inr (.inr (some 84))]) (h1 := hp L (ax_u2 q4 92 ((q4 84 18).toNat) 1) c e) rfl ?_
        obtain ⟨b7, h⟩ := gd_some h
        obtain ⟨q5, h1, h⟩ := bd_some h
        refine RuP.cVe h1 rfl (EvP.v ((ev_262 6 (q4 84 18) b7).up (by decide))) ?_
        refine RuP.step (pc' := 267) (ls' := [some (.inr (.inr (some 84))), some (.inl (f_267 (q1.2 88 ((q1.2 84 18).toNat)) q1.2)), none]) (st' := [.inr (.inr (some 84))]) (h1 := hp L q5 c e) rfl ?_
        refine RuP.step (pc' := 268) (ls' := [some (.inr (.inr (some 84))), some (.inl (f_267 (q1.2 88 ((q1.2 84 18).toNat)) q1.2)), none]) (st' := [.inr (.inr (some 84)), .inr (.inr (some 84))]) (h1 := hp L q5 c e) rfl ?_
        refine RuP.step (pc' := 271) (ls' := [some (.inr (.inr (some 84))), some (.inl (f_267 (q1.2 88 ((q1.2 84 18).toNat)) q1.2)), none]) (st' := [.inl (q5 84 18), .inr (.inr (some 84))]) (h1 := hp L q5 c e) rfl ?_
        refine RuP.step (pc' := 272) (ls' := [some (.inr (.inr (some 84))), some (.inl (f_267 (q1.2 88 ((q1.2 84 18).toNat)) q1.2)), none]) (st' := [.inl 1, .inl (q5 84 18), .inr (.inr (some 84))]) (h1 := hp L q5 c e) rfl ?_
        refine RuP.step (pc' := 273) (ls' := [some (.inr (.inr (some 84))), some (.inl (f_267 (q1.2 88 ((q1.2 84 18).toNat)) q1.2)), none]) (st' := [.inl (ax_w32 ((q5 84 18) + 1)), .inr (.inr (some 84))]) (h1 := hp L q5 c e) rfl ?_
        refine RuP.step (pc' := 276) (ls' := [some (.inr (.inr (some 84))), some (.inl (f_267 (q1.2 88 ((q1.2 84 18).toNat)) q1.2)), none]) (st' := []) (h1 := hp L (ax_u2 q5 84 18 (ax_w32 ((q5 84 18) + 1))) c e) rfl ?_
        refine RuP.step (pc' := 277) (ls' := [some (.inr (.inr (some 84))), some (.inl (f_267 (q1.2 88 ((q1.2 84 18).toNat)) q1.2)), none]) (st' := [.inl 1]) (h1 := hp L (ax_u2 q5 84 18 (ax_w32 ((q5 84 18) + 1))) c e) rfl ?_
        cases h
        exact RuP.dI rfl
    · rw [if_neg h3] at h
      refine RuP.jn rfl h3 ?_
      refine RuP.step (pc' := 81) (ls' := [some (.inr (.inr (some 84))), some (.inl (f_267 (q1.2 88 ((q1.2 84 18).toNat)) q1.2)), none]) (st' := [.inl (f_267 (q1.2 88 ((q1.2 84 18).toNat)) q1.2)]) (h1 := hp L q1.2 c e) rfl ?_
      refine RuP.cI rfl ((ev_268 (f_267 (q1.2 88 ((q1.2 84 18).toNat)) q1.2)).up (by decide)) ?_
      refine RuP.step (pc' := 85) (ls' := [some (.inr (.inr (some 84))), some (.inl (f_267 (q1.2 88 ((q1.2 84 18).toNat)) q1.2)), some (.inl (f_268 (f_267 (q1.2 88 ((q1.2 84 18).toNat)) q1.2) q1.2))]) (st' := []) (h1 := hp L q1.2 c e) rfl ?_
      refine RuP.step (pc' := 86) (ls' := [some (.inr (.inr (some 84))), some (.inl (f_267 (q1.2 88 ((q1.2 84 18).toNat)) q1.2)), some (.inl (f_268 (f_267 (q1.2 88 ((q1.2 84 18).toNat)) q1.2) q1.2))]) (st' := [.inr (.inr (some 84))]) (h1 := hp L q1.2 c e) rfl ?_
      refine RuP.step (pc' := 87) (ls' := [some (.inr (.inr (some 84))), some (.inl (f_267 (q1.2 88 ((q1.2 84 18).toNat)) q1.2)), some (.inl (f_268 (f_267 (q1.2 88 ((q1.2 84 18).toNat)) q1.2) q1.2))]) (st' := [.inl (f_268 (f_267 (q1.2 88 ((q1.2 84 18).toNat)) q1.2) q1.2), .inr (.inr (some 84))]) (h1 := hp L q1.2 c e) rfl ?_
      refine RuP.step (pc' := 88) (ls' := [some (.inr (.inr (some 84))), some (.inl (f_267 (q1.2 88 ((q1.2 84 18).toNat)) q1.2)), some (.inl (f_268 (f_267 (q1.2 88 ((q1.2 84 18).toNat)) q1.2) q1.2))]) (st' := [.inl 1, .inl (f_268 (f_267 (q1.2 88 ((q1.2 84 18).toNat)) q1.2) q1.2), .inr (.inr (some 84))]) (h1 := hp L q1.2 c e) rfl ?_
      have J9 : ∀ v8_0 : Int, v8_0 = ((if ¬ (f_268 (f_267 (q1.2 88 ((q1.2 84 18).toNat)) q1.2) q1.2) = 1 then f_268 (f_267 (q1.2 88 ((q1.2 84 18).toNat)) q1.2) q1.2 else 2) : Int) → RuP 4 tb_m261 96 [some (.inr (.inr (some 84))), some (.inl (f_267 (q1.2 88 ((q1.2 84 18).toNat)) q1.2)), some (.inl (f_268 (f_267 (q1.2 88 ((q1.2 84 18).toNat)) q1.2) q1.2))] [.inl v8_0, .inr (.inr (some 84))] (hp L q1.2 c e) (oI L c e q) := by
        intro v8_0 ev8_0
        subst ev8_0
        obtain ⟨q6, h1, h⟩ := bd_some h
        refine RuP.cV rfl ((ev_269 h1).up (by decide)) ?_
        refine RuP.step (pc' := 100) (ls' := [some (.inr (.inr (some 84))), some (.inl (f_267 (q1.2 88 ((q1.2 84 18).toNat)) q1.2)), some (.inl (f_268 (f_267 (q1.2 88 ((q1.2 84 18).toNat)) q1.2) q1.2))]) (st' := [.inl (f_268 (f_267 (q1.2 88 ((q1.2 84 18).toNat)) q1.2) q1.2)]) (h1 := hp L q6 c e) rfl ?_
        refine RuP.step (pc' := 101) (ls' := [some (.inr (.inr (some 84))), some (.inl (f_267 (q1.2 88 ((q1.2 84 18).toNat)) q1.2)), some (.inl (f_268 (f_267 (q1.2 88 ((q1.2 84 18).toNat)) q1.2) q1.2))]) (st' := [.inl 1, .inl (f_268 (f_267 (q1.2 88 ((q1.2 84 18).toNat)) q1.2) q1.2)]) (h1 := hp L q6 c e) rfl ?_
        by_cases h9 : ¬ (f_268 (f_267 (q1.2 88 ((q1.2 84 18).toNat)) q1.2) q1.2) = 1
        · rw [if_pos h9] at h
          refine RuP.jy rfl h9 ?_
          exact bl_261_161 _ _ _ _ h
        · rw [if_neg h9] at h
          refine RuP.jn rfl h9 ?_
          refine RuP.step (pc' := 105) (ls' := [some (.inr (.inr (some 84))), some (.inl (f_267 (q1.2 88 ((q1.2 84 18).toNat)) q1.2)), some (.inl (f_268 (f_267 (q1.2 88 ((q1.2 84 18).toNat)) q1.2) q1.2))]) (st' := [.inr (.inr (some 84))]) (h1 := hp L q6 c e) rfl ?_
          refine RuP.step (pc' := 108) (ls' := [some (.inr (.inr (some 84))), some (.inl (f_267 (q1.2 88 ((q1.2 84 18).toNat)) q1.2)), some (.inl (f_268 (f_267 (q1.2 88 ((q1.2 84 18).toNat)) q1.2) q1.2))]) (st' := [.inl (q6 84 63)]) (h1 := hp L q6 c e) rfl ?_
          by_cases h10 : q6 84 63 ≤ 0
          · rw [if_pos h10] at h
            refine RuP.jy rfl h10 ?_
            exact bl_261_161 _ _ _ _ h
          · rw [if_neg h10] at h
            refine RuP.jn rfl h10 ?_
            refine RuP.step (pc' := 112) (ls' := [some (.inr (.inr (some 84))), some (.inl (f_267 (q1.2 88 ((q1.2 84 18).toNat)) q1.2)), some (.inl (f_268 (f_267 (q1.2 88 ((q1.2 84 18).toNat)) q1.2) q1.2))]) (st' := [.inr (.inr (some 84))]) (h1 := hp L q6 c e) rfl ?_
            refine RuP.step (pc' := 115) (ls' := [some (.inr (.inr (some 84))), some (.inl (f_267 (q1.2 88 ((q1.2 84 18).toNat)) q1.2)), some (.inl (f_268 (f_267 (q1.2 88 ((q1.2 84 18).toNat)) q1.2) q1.2))]) (st' := [.inr (.inr (some 129))]) (h1 := hp L q6 c e) rfl ?_
            refine RuP.step (pc' := 116) (ls' := [some (.inr (.inr (some 84))), some (.inl (f_267 (q1.2 88 ((q1.2 84 18).toNat)) q1.2)), some (.inl (f_268 (f_267 (q1.2 88 ((q1.2 84 18).toNat)) q1.2) q1.2))]) (st' := [.inr (.inr (some 84)), .inr (.inr (some 129))]) (h1 := hp L q6 c e) rfl ?_
            refine RuP.step (pc' := 119) (ls' := [some (.inr (.inr (some 84))), some (.inl (f_267 (q1.2 88 ((q1.2 84 18).toNat)) q1.2)), some (.inl (f_268 (f_267 (q1.2 88 ((q1.2 84 18).toNat)) q1.2) q1.2))]) (st' := [.inl (q6 84 63), .inr (.inr (some 129))]) (h1 := hp L q6 c e) rfl ?_
            refine RuP.step (pc' := 120) (ls' := [some (.inr (.inr (some 84))), some (.inl (f_267 (q1.2 88 ((q1.2 84 18).toNat)) q1.2)), some (.inl (f_268 (f_267 (q1.2 88 ((q1.2 84 18).toNat)) q1.2) q1.2))]) (st' := [.inl 1, .inl (q6 84 63), .inr (.inr (some 129))]) (h1 := hp L q6 c e) rfl ?_
            refine RuP.step (pc' := 121) (ls' := [some (.inr (.inr (some 84))), some (.inl (f_267 (q1.2 88 ((q1.2 84 18).toNat)) q1.2)), some (.inl (f_268 (f_267 (q1.2 88 ((q1.2 84 18).toNat)) q1.2) q1.2))]) (st' := [.inl (ax_w32 ((q6 84 63) - 1)), .inr (.inr (some 129))]) (h1 := hp L q6 c e) rfl ?_
            obtain ⟨b11, h⟩ := gd_some h
            refine RuP.ald (f := fun t => t == 0) (j := ax_w32 ((q6 84 63) - 1)) (a := 129) rfl rfl b11.1 b11.2 ?_
            refine RuP.step (pc' := 124) (ls' := [some (.inr (.inr (some 84))), some (.inl (f_267 (q1.2 88 ((q1.2 84 18).toNat)) q1.2)), some (.inl (f_268 (f_267 (q1.2 88 ((q1.2 84 18).toNat)) q1.2) q1.2))]) (st' := [.inl 100, .inl (q6 129 ((ax_w32 ((q6 84 63) - 1)).toNat))]) (h1 := hp L q6 c e) rfl ?_
            by_cases h12 : 100 ≤ q6 129 ((ax_w32 ((q6 84 63) - 1)).toNat)
            · rw [if_pos h12] at h
              refine RuP.jy rfl h12 ?_
              exact bl_261_161 _ _ _ _ h
            · rw [if_neg h12] at h
              refine RuP.jn rfl h12 ?_
              refine RuP.step (pc' := 128) (ls' := [some (.inr (.inr (some 84))), some (.inl (f_267 (q1.2 88 ((q1.2 84 18).toNat)) q1.2)), some (.inl (f_268 (f_267 (q1.2 88 ((q1.2 84 18).toNat)) q1.2) q1.2))]) (st' := [.inr (.inr (some 84))]) (h1 := hp L q6 c e) rfl ?_
              refine RuP.step (pc' := 131) (ls' := [some (.inr (.inr (some 84))), some (.inl (f_267 (q1.2 88 ((q1.2 84 18).toNat)) q1.2)), some (.inl (f_268 (f_267 (q1.2 88 ((q1.2 84 18).toNat)) q1.2) q1.2))]) (st' := [.inr (.inr (some 129))]) (h1 := hp L q6 c e) rfl ?_
              refine RuP.step (pc' := 132) (ls' := [some (.inr (.inr (some 84))), some (.inl (f_267 (q1.2 88 ((q1.2 84 18).toNat)) q1.2)), some (.inl (f_268 (f_267 (q1.2 88 ((q1.2 84 18).toNat)) q1.2) q1.2))]) (st' := [.inr (.inr (some 84)), .inr (.inr (some 129))]) (h1 := hp L q6 c e) rfl ?_
              refine RuP.step (pc' := 135) (ls' := [some (.inr (.inr (some 84))), some (.inl (f_267 (q1.2 88 ((q1.2 84 18).toNat)) q1.2)), some (.inl (f_268 (f_267 (q1.2 88 ((q1.2 84 18).toNat)) q1.2) q1.2))]) (st' := [.inl (q6 84 63), .inr (.inr (some 129))]) (h1 := hp L q6 c e) rfl ?_
              refine RuP.step (pc' := 136) (ls' := [some (.inr (.inr (some 84))), some (.inl (f_267 (q1.2 88 ((q1.2 84 18).toNat)) q1.2)), some (.inl (f_268 (f_267 (q1.2 88 ((q1.2 84 18).toNat)) q1.2) q1.2))]) (st' := [.inl 1, .inl (q6 84 63), .inr (.inr (some 129))]) (h1 := hp L q6 c e) rfl ?_
              refine RuP.step (pc' := 137) (ls' := [some (.inr (.inr (some 84))), some (.inl (f_267 (q1.2 88 ((q1.2 84 18).toNat)) q1.2)), some (.inl (f_268 (f_267 (q1.2 88 ((q1.2 84 18).toNat)) q1.2) q1.2))]) (st' := [.inl (ax_w32 ((q6 84 63) - 1)), .inr (.inr (some 129))]) (h1 := hp L q6 c e) rfl ?_
              obtain ⟨b13, h⟩ := gd_some h
              refine RuP.ald (f := fun t => t == 0) (j := ax_w32 ((q6 84 63) - 1)) (a := 129) rfl rfl b13.1 b13.2 ?_
              refine RuP.cI rfl ((ev_268 (q6 129 ((ax_w32 ((q6 84 63) - 1)).toNat))).up (by decide)) ?_
              refine RuP.step (pc' := 142) (ls' := [some (.inr (.inr (some 84))), some (.inl (f_267 (q1.2 88 ((q1.2 84 18).toNat)) q1.2)), some (.inl (f_268 (f_267 (q1.2 88 ((q1.2 84 18).toNat)) q1.2) q1.2))]) (st' := [.inl 1, .inl (f_268 (q6 129 ((ax_w32 ((q6 84 63) - 1)).toNat)) q6)]) (h1 := hp L q6 c e) rfl ?_
              by_cases h14 : ¬ (f_268 (q6 129 ((ax_w32 ((q6 84 63) - 1)).toNat)) q6) = 1
              · rw [if_pos h14] at h
                refine RuP.jy rfl h14 ?_
                exact bl_261_161 _ _ _ _ h
              · rw [if_neg h14] at h
                refine RuP.jn rfl h14 ?_
                refine RuP.step (pc' := 146) (ls' := [some (.inr (.inr (some 84))), some (.inl (f_267 (q1.2 88 ((q1.2 84 18).toNat)) q1.2)), some (.inl (f_268 (f_267 (q1.2 88 ((q1.2 84 18).toNat)) q1.2) q1.2))]) (st' := [.inr (.inr (some 84))]) (h1 := hp L q6 c e) rfl ?_
                refine RuP.step (pc' := 147) (ls' := [some (.inr (.inr (some 84))), some (.inl (f_267 (q1.2 88 ((q1.2 84 18).toNat)) q1.2)), some (.inl (f_268 (f_267 (q1.2 88 ((q1.2 84 18).toNat)) q1.2) q1.2))]) (st' := [.inl 2, .inr (.inr (some 84))]) (h1 := hp L q6 c e) rfl ?_
                refine RuP.step (pc' := 148) (ls' := [some (.inr (.inr (some 84))), some (.inl (f_267 (q1.2 88 ((q1.2 84 18).toNat)) q1.2)), some (.inl (f_268 (f_267 (q1.2 88 ((q1.2 84 18).toNat)) q1.2) q1.2))]) (st' := [.inr (.inr (some 84)), .inl 2, .inr (.inr (some 84))]) (h1 := hp L q6 c e) rfl ?_
                refine RuP.step (pc' := 151) (ls' := [some (.inr (.inr (some 84))), some (.inl (f_267 (q1.2 88 ((q1.2 84 18).toNat)) q1.2)), some (.inl (f_268 (f_267 (q1.2 88 ((q1.2 84 18).toNat)) q1.2) q1.2))]) (st' := [.inr (.inr (some 89)), .inl 2, .inr (.inr (some 84))]) (h1 := hp L q6 c e) rfl ?_
                refine RuP.step (pc' := 152) (ls' := [some (.inr (.inr (some 84))), some (.inl (f_267 (q1.2 88 ((q1.2 84 18).toNat)) q1.2)), some (.inl (f_268 (f_267 (q1.2 88 ((q1.2 84 18).toNat)) q1.2) q1.2))]) (st' := [.inr (.inr (some 84)), .inr (.inr (some 89)), .inl 2, .inr (.inr (some 84))]) (h1 := hp L q6 c e) rfl ?_
                refine RuP.step (pc' := 155) (ls' := [some (.inr (.inr (some 84))), some (.inl (f_267 (q1.2 88 ((q1.2 84 18).toNat)) q1.2)), some (.inl (f_268 (f_267 (q1.2 88 ((q1.2 84 18).toNat)) q1.2) q1.2))]) (st' := [.inl (q6 84 18), .inr (.inr (some 89)), .inl 2, .inr (.inr (some 84))]) (h1 := hp L q6 c e) rfl ?_
                obtain ⟨b15, h⟩ := gd_some h
                refine RuP.ald (f := fun t => t == 0) (j := q6 84 18) (a := 89) rfl rfl b15.1 b15.2 ?_
                obtain ⟨q7, h1, h⟩ := bd_some h
                refine RuP.cVe h1 rfl (EvP.v ((ev_227 2 (q6 89 ((q6 84 18).toNat))).up (by decide))) ?_
                refine RuP.step (pc' := 160) (ls' := [some (.inr (.inr (some 84))), some (.inl (f_267 (q1.2 88 ((q1.2 84 18).toNat)) q1.2)), some (.inl (f_268 (f_267 (q1.2 88 ((q1.2 84 18).toNat)) q1.2) q1.2))]) (st' := [.inl 0]) (h1 := hp L q7 c e) rfl ?_
                cases h
                exact RuP.dI rfl
      by_cases h16 : ¬ (f_268 (f_267 (q1.2 88 ((q1.2 84 18).toNat)) q1.2) q1.2) = 1
      · refine RuP.jy rfl h16 ?_
        refine RuP.step (pc' := 96) (ls' := [some (.inr (.inr (some 84))), some (.inl (f_267 (q1.2 88 ((q1.2 84 18).toNat)) q1.2)), some (.inl (f_268 (f_267 (q1.2 88 ((q1.2 84 18).toNat)) q1.2) q1.2))]) (st' := [.inl (f_268 (f_267 (q1.2 88 ((q1.2 84 18).toNat)) q1.2) q1.2), .inr (.inr (some 84))]) (h1 := hp L q1.2 c e) rfl ?_
        exact J9 _ (by simp only [if_pos h16])
      · refine RuP.jn rfl h16 ?_
        refine RuP.step (pc' := 92) (ls' := [some (.inr (.inr (some 84))), some (.inl (f_267 (q1.2 88 ((q1.2 84 18).toNat)) q1.2)), some (.inl (f_268 (f_267 (q1.2 88 ((q1.2 84 18).toNat)) q1.2) q1.2))]) (st' := [.inl 2, .inr (.inr (some 84))]) (h1 := hp L q1.2 c e) rfl ?_
        refine RuP.step (pc' := 96) (ls' := [some (.inr (.inr (some 84))), some (.inl (f_267 (q1.2 88 ((q1.2 84 18).toNat)) q1.2)), some (.inl (f_268 (f_267 (q1.2 88 ((q1.2 84 18).toNat)) q1.2) q1.2))]) (st' := [.inl 2, .inr (.inr (some 84))]) (h1 := hp L q1.2 c e) rfl ?_
        exact J9 _ (by simp only [if_neg h16])
  · rw [if_neg h1] at h
    refine RuP.jn rfl h1 ?_
    refine RuP.step (pc' := 10) (ls' := [some (.inr (.inr (some 84))), none, none]) (st' := [.inr (.inr (some 84))]) (h1 := hp L q1.2 c e) rfl ?_
    refine RuP.step (pc' := 11) (ls' := [some (.inr (.inr (some 84))), none, none]) (st' := [.inr (.inr (some 84)), .inr (.inr (some 84))]) (h1 := hp L q1.2 c e) rfl ?_
    refine RuP.step (pc' := 14) (ls' := [some (.inr (.inr (some 84))), none, none]) (st' := [.inl (q1.2 84 59), .inr (.inr (some 84))]) (h1 := hp L q1.2 c e) rfl ?_
    refine RuP.step (pc' := 15) (ls' := [some (.inr (.inr (some 84))), none, none]) (st' := [.inl 1, .inl (q1.2 84 59), .inr (.inr (some 84))]) (h1 := hp L q1.2 c e) rfl ?_
    refine RuP.step (pc' := 16) (ls' := [some (.inr (.inr (some 84))), none, none]) (st' := [.inl (ax_w32 ((q1.2 84 59) - 1)), .inr (.inr (some 84))]) (h1 := hp L q1.2 c e) rfl ?_
    refine RuP.step (pc' := 18) (ls' := [some (.inr (.inr (some 84))), none, none]) (st' := [.inl 9, .inl (ax_w32 ((q1.2 84 59) - 1)), .inr (.inr (some 84))]) (h1 := hp L q1.2 c e) rfl ?_
    obtain ⟨q8, h1, h⟩ := bd_some h
    refine RuP.cV rfl ((ev_265 h1).up (by decide)) ?_
    refine RuP.step (pc' := 22) (ls' := [some (.inr (.inr (some 84))), none, none]) (st' := [.inr (.inr (some 84))]) (h1 := hp L q8 c e) rfl ?_
    refine RuP.step (pc' := 23) (ls' := [some (.inr (.inr (some 84))), none, none]) (st' := [.inl 2, .inr (.inr (some 84))]) (h1 := hp L q8 c e) rfl ?_
    obtain ⟨q9, h1, h⟩ := bd_some h
    refine RuP.cI rfl ((ev_231 h1).up (by decide)) ?_
    refine RuP.step (pc' := 27) (ls' := [some (.inr (.inr (some 84))), some (.inl q9.1), none]) (st' := []) (h1 := hp L q9.2 c e) rfl ?_
    refine RuP.step (pc' := 28) (ls' := [some (.inr (.inr (some 84))), some (.inl q9.1), none]) (st' := [.inr (.inr (some 84))]) (h1 := hp L q9.2 c e) rfl ?_
    refine RuP.step (pc' := 30) (ls' := [some (.inr (.inr (some 84))), some (.inl q9.1), none]) (st' := [.inl 17, .inr (.inr (some 84))]) (h1 := hp L q9.2 c e) rfl ?_
    obtain ⟨q10, h1, h⟩ := bd_some h
    refine RuP.cI rfl ((ev_231 h1).up (by decide)) ?_
    refine RuP.step (pc' := 34) (ls' := [some (.inr (.inr (some 84))), some (.inl q9.1), none]) (st' := []) (h1 := hp L q10.2 c e) rfl ?_
    refine RuP.step (pc' := 35) (ls' := [some (.inr (.inr (some 84))), some (.inl q9.1), none]) (st' := [.inr (.inr (some 84))]) (h1 := hp L q10.2 c e) rfl ?_
    refine RuP.step (pc' := 36) (ls' := [some (.inr (.inr (some 84))), some (.inl q9.1), none]) (st' := [.inl 2, .inr (.inr (some 84))]) (h1 := hp L q10.2 c e) rfl ?_
    obtain ⟨q11, h1, h⟩ := bd_some h
    refine RuP.cI rfl ((ev_231 h1).up (by decide)) ?_
    refine RuP.step (pc' := 40) (ls' := [some (.inr (.inr (some 84))), some (.inl q9.1), some (.inl q11.1)]) (st' := []) (h1 := hp L q11.2 c e) rfl ?_
    refine RuP.step (pc' := 41) (ls' := [some (.inr (.inr (some 84))), some (.inl q9.1), some (.inl q11.1)]) (st' := [.inr (.inr (some 84))]) (h1 := hp L q11.2 c e) rfl ?_
    refine RuP.step (pc' := 43) (ls' := [some (.inr (.inr (some 84))), some (.inl q9.1), some (.inl q11.1)]) (st' := [.inl 7, .inr (.inr (some 84))]) (h1 := hp L q11.2 c e) rfl ?_
    refine RuP.step (pc' := 44) (ls' := [some (.inr (.inr (some 84))), some (.inl q9.1), some (.inl q11.1)]) (st' := [.inr (.inr (some 84)), .inl 7, .inr (.inr (some 84))]) (h1 := hp L q11.2 c e) rfl ?_
    refine RuP.step (pc' := 47) (ls' := [some (.inr (.inr (some 84))), some (.inl q9.1), some (.inl q11.1)]) (st' := [.inr (.inr (some 127)), .inl 7, .inr (.inr (some 84))]) (h1 := hp L q11.2 c e) rfl ?_
    refine RuP.step (pc' := 48) (ls' := [some (.inr (.inr (some 84))), some (.inl q9.1), some (.inl q11.1)]) (st' := [.inr (.inr (some 84)), .inr (.inr (some 127)), .inl 7, .inr (.inr (some 84))]) (h1 := hp L q11.2 c e) rfl ?_
    refine RuP.step (pc' := 51) (ls' := [some (.inr (.inr (some 84))), some (.inl q9.1), some (.inl q11.1)]) (st' := [.inl (q11.2 84 59), .inr (.inr (some 127)), .inl 7, .inr (.inr (some 84))]) (h1 := hp L q11.2 c e) rfl ?_
    refine RuP.step (pc' := 52) (ls' := [some (.inr (.inr (some 84))), some (.inl q9.1), some (.inl q11.1)]) (st' := [.inl 1, .inl (q11.2 84 59), .inr (.inr (some 127)), .inl 7, .inr (.inr (some 84))]) (h1 := hp L q11.2 c e) rfl ?_
    refine RuP.step (pc' := 53) (ls' := [some (.inr (.inr (some 84))), some (.inl q9.1), some (.inl q11.1)]) (st' := [.inl (ax_w32 ((q11.2 84 59) - 1)), .inr (.inr (some 127)), .inl 7, .inr (.inr (some 84))]) (h1 := hp L q11.2 c e) rfl ?_
    obtain ⟨b17, h⟩ := gd_some h
    refine RuP.ald (f := fun t => t == 0) (j := ax_w32 ((q11.2 84 59) - 1)) (a := 127) rfl rfl b17.1 b17.2 ?_
    refine RuP.step (pc' := 55) (ls' := [some (.inr (.inr (some 84))), some (.inl q9.1), some (.inl q11.1)]) (st' := [.inl q9.1, .inl (q11.2 127 ((ax_w32 ((q11.2 84 59) - 1)).toNat)), .inl 7, .inr (.inr (some 84))]) (h1 := hp L q11.2 c e) rfl ?_
    refine RuP.step (pc' := 56) (ls' := [some (.inr (.inr (some 84))), some (.inl q9.1), some (.inl q11.1)]) (st' := [.inl q11.1, .inl q9.1, .inl (q11.2 127 ((ax_w32 ((q11.2 84 59) - 1)).toNat)), .inl 7, .inr (.inr (some 84))]) (h1 := hp L q11.2 c e) rfl ?_
    refine RuP.step (pc' := 57) (ls' := [some (.inr (.inr (some 84))), some (.inl q9.1), some (.inl q11.1)]) (st' := [.inl 1, .inl q11.1, .inl q9.1, .inl (q11.2 127 ((ax_w32 ((q11.2 84 59) - 1)).toNat)), .inl 7, .inr (.inr (some 84))]) (h1 := hp L q11.2 c e) rfl ?_
    obtain ⟨q12, h1, h⟩ := bd_some h
    refine RuP.cV rfl ((ev_266 h1).up (by decide)) ?_
    refine RuP.step (pc' := 61) (ls' := [some (.inr (.inr (some 84))), some (.inl q9.1), some (.inl q11.1)]) (st' := [.inl 0]) (h1 := hp L q12 c e) rfl ?_
    cases h
    exact RuP.dI rfl
/-- java/lang/String.checkIndex(II)V -/
noncomputable def f_278 (x0 x1 : Int) (s : Sg) : Option Sg :=
  ((f_300_26 x0 x1 s).bind fun q1 =>
  some s)
theorem ev_278 {L c : Nat} {e : Nat → Nat} {s : Sg} {x0 x1 : Int} {q : Sg} (h : f_278 x0 x1 s = some q) : EvP 2 278 [.inl x0, .inl x1] (hp L s c e) (oV L c e q) := by
  unfold f_278 at h
  refine EvP.of (μ := tb_m278) (ls := [some (.inl x0), some (.inl x1)]) rfl (Nat.le_of_ble_eq_true rfl) rfl ?_
  refine RuP.step (pc' := 1) (ls' := [some (.inl x0), some (.inl x1)]) (st' := [.inl x0]) (h1 := hp L s c e) rfl ?_
  refine RuP.step (pc' := 2) (ls' := [some (.inl x0), some (.inl x1)]) (st' := [.inl x1, .inl x0]) (h1 := hp L s c e) rfl ?_
  refine RuP.step (pc' := 5) (ls' := [some (.inl x0), some (.inl x1)]) (st' := [.inr (.inr (some 26)), .inl x1, .inl x0]) (h1 := hp L s c e) rfl ?_
  obtain ⟨q1, h1, h⟩ := bd_some h
  refine RuP.cI rfl ((ev_300_26 h1).up (by decide)) ?_
  refine RuP.step (pc' := 9) (ls' := [some (.inl x0), some (.inl x1)]) (st' := []) (h1 := hp L s c e) rfl ?_
  cases h
  exact RuP.dV rfl
/-- java/lang/String.coder()B -/
noncomputable def f_275_2 (s : Sg) : Option Int :=
  (gd (-128 ≤ s 2 1 ∧ s 2 1 < 128) (
  some (s 2 1)))
theorem ev_275_2 {L c : Nat} {e : Nat → Nat} {s : Sg} {q : Int} (h : f_275_2 s = some q) : EvP 1 275 [.inr (.inr (some 2))] (hp L s c e) (oI L c e (q, s)) := by
  unfold f_275_2 at h
  refine EvP.of (μ := tb_m275) (ls := [some (.inr (.inr (some 2)))]) rfl (Nat.le_of_ble_eq_true rfl) rfl ?_
  refine RuP.step (pc' := 3) (ls' := [some (.inr (.inr (some 2)))]) (st' := [.inl 1]) (h1 := hp L s c e) rfl ?_
  refine RuP.step (pc' := 6) (ls' := [some (.inr (.inr (some 2)))]) (st' := []) (h1 := hp L s c e) rfl ?_
  refine RuP.step (pc' := 7) (ls' := [some (.inr (.inr (some 2)))]) (st' := [.inr (.inr (some 2))]) (h1 := hp L s c e) rfl ?_
  refine RuP.step (pc' := 10) (ls' := [some (.inr (.inr (some 2)))]) (st' := [.inl (s 2 1)]) (h1 := hp L s c e) rfl ?_
  refine RuP.step (pc' := 14) (ls' := [some (.inr (.inr (some 2)))]) (st' := [.inl (s 2 1)]) (h1 := hp L s c e) rfl ?_
  obtain ⟨b0, h⟩ := gd_some h
  cases h
  exact RuP.dY rfl b0
/-- MachineText.print()I -/
noncomputable def f_10 (s : Sg) : Option (Sum (Int × Sg) (Nat × Sg)) :=
  (if ¬ (s 27 2) = 0 then
    ((f_128 s).bind fun q1 =>
    some (.inl (q1 82 2, q1)))
  else
    some (.inr (14, s)))
theorem ev_10 {L c : Nat} {e : Nat → Nat} {s : Sg} {q : Sum (Int × Sg) (Nat × Sg)} (h : f_10 s = some q) : EvP 5 10 [.inr (.inr (some 27))] (hp L s c e) (oX L c (oI L c e) q) := by
  unfold f_10 at h
  refine EvP.of (μ := tb_m10) (ls := [some (.inr (.inr (some 27)))]) rfl (Nat.le_of_ble_eq_true rfl) rfl ?_
  refine RuP.step (pc' := 1) (ls' := [some (.inr (.inr (some 27)))]) (st' := [.inr (.inr (some 27))]) (h1 := hp L s c e) rfl ?_
  refine RuP.step (pc' := 4) (ls' := [some (.inr (.inr (some 27)))]) (st' := [.inl (s 27 2)]) (h1 := hp L s c e) rfl ?_
  by_cases h0 : ¬ (s 27 2) = 0
  · rw [if_pos h0] at h
    refine RuP.jy rfl h0 ?_
    refine RuP.step (pc' := 18) (ls' := [some (.inr (.inr (some 27)))]) (st' := [.inr (.inr (some 27))]) (h1 := hp L s c e) rfl ?_
    refine RuP.step (pc' := 21) (ls' := [some (.inr (.inr (some 27)))]) (st' := [.inr (.inr (some 82))]) (h1 := hp L s c e) rfl ?_
    obtain ⟨q1, h1, h⟩ := bd_some h
    refine RuP.cV rfl ((ev_128 h1).up (by decide)) ?_
    refine RuP.step (pc' := 25) (ls' := [some (.inr (.inr (some 27)))]) (st' := [.inr (.inr (some 27))]) (h1 := hp L q1 c e) rfl ?_
    refine RuP.step (pc' := 28) (ls' := [some (.inr (.inr (some 27)))]) (st' := [.inr (.inr (some 82))]) (h1 := hp L q1 c e) rfl ?_
    refine RuP.step (pc' := 31) (ls' := [some (.inr (.inr (some 27)))]) (st' := [.inl (q1 82 2)]) (h1 := hp L q1 c e) rfl ?_
    cases h
    exact RuP.dI rfl
  · rw [if_neg h0] at h
    refine RuP.jn rfl h0 ?_
    cases h
    exact RuP.thr (m := 23) (p2 := 13) rfl (fun _ => rfl) (fun _ => rfl) (fun _ _ => rfl) (Nat.le_of_ble_eq_true rfl) rfl rfl
/-- MachineText$Checker.checkWidths()V -/
noncomputable def j_19_146 (k82 : (Int → Sg → Option Sg)) (l1 : Int) (s : Sg) : Option Sg :=
  k82 (ax_w32 (l1 + 1)) s
theorem bl_19_146 {L c : Nat} {e : Nat → Nat} {k82 : (Int → Sg → Option Sg)} (hk82 : ∀ (d2 d3 : Option ax_V) (l1 : Int) (s : Sg) (q : Sg), k82 l1 s = some q → RuP 5 tb_m19 82 [some (.inr (.inr (some 73))), some (.inl l1), d2, d3] [] (hp L s c e) (oV L c e q)) : ∀ (d3 : Option ax_V) (z2 : Int) (l1 : Int) (s : Sg) (q : Sg), j_19_146 k82 l1 s = some q → RuP 5 tb_m19 146 [some (.inr (.inr (some 73))), some (.inl l1), some (.inl z2), d3] [] (hp L s c e) (oV L c e q) := by
  intro d3 z2 l1 s q h
  unfold j_19_146 at h
  refine RuP.step (pc' := 149) (ls' := [some (.inr (.inr (some 73))), some (.inl (ax_w32 (l1 + 1))), some (.inl z2), d3]) (st' := []) (h1 := hp L s c e) rfl ?_
  refine RuP.step (pc' := 82) (ls' := [some (.inr (.inr (some 73))), some (.inl (ax_w32 (l1 + 1))), some (.inl z2), d3]) (st' := []) (h1 := hp L s c e) rfl ?_
  exact hk82 _ _ _ _ _ h
noncomputable def j_19_117 (k82 : (Int → Sg → Option Sg)) (l1 t0 : Int) (s : Sg) : Option Sg :=
  (if ¬ t0 = 0 then
    j_19_146 k82 l1 s
  else
    (gd (g_35 l1 s) (
    (gd (g_80 (f_35 l1 s) s) (
    (gd (g_71 9 (f_80 (f_35 l1 s) s) s) (
    ((some (f_71 9 (f_80 (f_35 l1 s) s) s)).bind fun q1 =>
    j_19_146 k82 l1 q1))))))))
theorem bl_19_117 {L c : Nat} {e : Nat → Nat} {k82 : (Int → Sg → Option Sg)} (hk82 : ∀ (d2 d3 : Option ax_V) (l1 : Int) (s : Sg) (q : Sg), k82 l1 s = some q → RuP 5 tb_m19 82 [some (.inr (.inr (some 73))), some (.inl l1), d2, d3] [] (hp L s c e) (oV L c e q)) : ∀ (d2 d3 : Option ax_V) (l1 t0 : Int) (s : Sg) (q : Sg), j_19_117 k82 l1 t0 s = some q → RuP 5 tb_m19 117 [some (.inr (.inr (some 73))), some (.inl l1), d2, d3] [.inl t0] (hp L s c e) (oV L c e q) := by
  intro d2 d3 l1 t0 s q h
  unfold j_19_117 at h
  refine RuP.step (pc' := 118) (ls' := [some (.inr (.inr (some 73))), some (.inl l1), some (.inl t0), d3]) (st' := []) (h1 := hp L s c e) rfl ?_
  refine RuP.step (pc' := 119) (ls' := [some (.inr (.inr (some 73))), some (.inl l1), some (.inl t0), d3]) (st' := [.inl t0]) (h1 := hp L s c e) rfl ?_
  by_cases h0 : ¬ t0 = 0
  · rw [if_pos h0] at h
    refine RuP.jy rfl h0 ?_
    exact bl_19_146 hk82 _ _ _ _ _ h
  · rw [if_neg h0] at h
    refine RuP.jn rfl h0 ?_
    refine RuP.step (pc' := 123) (ls' := [some (.inr (.inr (some 73))), some (.inl l1), some (.inl t0), d3]) (st' := [.inr (.inr (some 73))]) (h1 := hp L s c e) rfl ?_
    refine RuP.step (pc' := 126) (ls' := [some (.inr (.inr (some 73))), some (.inl l1), some (.inl t0), d3]) (st' := [.inr (.inr (some 29))]) (h1 := hp L s c e) rfl ?_
    refine RuP.step (pc' := 128) (ls' := [some (.inr (.inr (some 73))), some (.inl l1), some (.inl t0), d3]) (st' := [.inl 9, .inr (.inr (some 29))]) (h1 := hp L s c e) rfl ?_
    refine RuP.step (pc' := 129) (ls' := [some (.inr (.inr (some 73))), some (.inl l1), some (.inl t0), d3]) (st' := [.inr (.inr (some 73)), .inl 9, .inr (.inr (some 29))]) (h1 := hp L s c e) rfl ?_
    refine RuP.step (pc' := 132) (ls' := [some (.inr (.inr (some 73))), some (.inl l1), some (.inl t0), d3]) (st' := [.inr (.inr (some 39)), .inl 9, .inr (.inr (some 29))]) (h1 := hp L s c e) rfl ?_
    refine RuP.step (pc' := 133) (ls' := [some (.inr (.inr (some 73))), some (.inl l1), some (.inl t0), d3]) (st' := [.inr (.inr (some 73)), .inr (.inr (some 39)), .inl 9, .inr (.inr (some 29))]) (h1 := hp L s c e) rfl ?_
    refine RuP.step (pc' := 136) (ls' := [some (.inr (.inr (some 73))), some (.inl l1), some (.inl t0), d3]) (st' := [.inr (.inr (some 61)), .inr (.inr (some 39)), .inl 9, .inr (.inr (some 29))]) (h1 := hp L s c e) rfl ?_
    refine RuP.step (pc' := 137) (ls' := [some (.inr (.inr (some 73))), some (.inl l1), some (.inl t0), d3]) (st' := [.inl l1, .inr (.inr (some 61)), .inr (.inr (some 39)), .inl 9, .inr (.inr (some 29))]) (h1 := hp L s c e) rfl ?_
    obtain ⟨b1, h⟩ := gd_some h
    refine RuP.cI rfl (EvP.i ((ev_35 l1 b1).up (by decide))) ?_
    obtain ⟨b2, h⟩ := gd_some h
    refine RuP.cI rfl (EvP.i ((ev_80 (f_35 l1 s) b2).up (by decide))) ?_
    obtain ⟨b3, h⟩ := gd_some h
    obtain ⟨q1, h1, h⟩ := bd_some h
    refine RuP.cVe h1 rfl (EvP.v ((ev_71 9 (f_80 (f_35 l1 s) s) b3).up (by decide))) ?_
    exact bl_19_146 hk82 _ _ _ _ _ h
noncomputable def j_19_82 : Nat → Int → Sg → Option Sg
  | 0, _, _ => none
  | F + 1, l1, s =>
    (if s 61 4 ≤ l1 then
      some s
    else
      (gd (g_34 l1 s) (
      (if f_34 l1 s = 0 then
        (gd (g_25 l1 s) (
        j_19_117 (j_19_82 F) l1 (f_25 l1 s) s))
      else
        ((f_24 l1 s).bind fun q2 =>
        j_19_117 (j_19_82 F) l1 q2 s)))))
theorem bl_19_82 {L c : Nat} {e : Nat → Nat} : ∀ (F : Nat) (d2 d3 : Option ax_V) (l1 : Int) (s : Sg) (q : Sg), j_19_82 F l1 s = some q → RuP 5 tb_m19 82 [some (.inr (.inr (some 73))), some (.inl l1), d2, d3] [] (hp L s c e) (oV L c e q) := by
  intro F
  induction F with
  | zero =>
    intro d2 d3 l1 s q h
    rw [j_19_82] at h
    cases h
  | succ F ih =>
    intro d2 d3 l1 s q h
    rw [j_19_82] at h
    refine RuP.step (pc' := 83) (ls' := [some (.inr (.inr (some 73))), some (.inl l1), d2, d3]) (st' := [.inl l1]) (h1 := hp L s c e) rfl ?_
    refine RuP.step (pc' := 84) (ls' := [some (.inr (.inr (some 73))), some (.inl l1), d2, d3]) (st' := [.inr (.inr (some 73)), .inl l1]) (h1 := hp L s c e) rfl ?_
    refine RuP.step (pc' := 87) (ls' := [some (.inr (.inr (some 73))), some (.inl l1), d2, d3]) (st' := [.inr (.inr (some 61)), .inl l1]) (h1 := hp L s c e) rfl ?_
    refine RuP.step (pc' := 90) (ls' := [some (.inr (.inr (some 73))), some (.inl l1), d2, d3]) (st' := [.inl (s 61 4), .inl l1]) (h1 := hp L s c e) rfl ?_
    by_cases h0 : s 61 4 ≤ l1
    · rw [if_pos h0] at h
      refine RuP.jy rfl h0 ?_
      cases h
      exact RuP.dV rfl
    · rw [if_neg h0] at h
      refine RuP.jn rfl h0 ?_
      refine RuP.step (pc' := 94) (ls' := [some (.inr (.inr (some 73))), some (.inl l1), d2, d3]) (st' := [.inr (.inr (some 73))]) (h1 := hp L s c e) rfl ?_
      refine RuP.step (pc' := 97) (ls' := [some (.inr (.inr (some 73))), some (.inl l1), d2, d3]) (st' := [.inr (.inr (some 61))]) (h1 := hp L s c e) rfl ?_
      refine RuP.step (pc' := 98) (ls' := [some (.inr (.inr (some 73))), some (.inl l1), d2, d3]) (st' := [.inl l1, .inr (.inr (some 61))]) (h1 := hp L s c e) rfl ?_
      obtain ⟨b1, h⟩ := gd_some h
      refine RuP.cI rfl (EvP.i ((ev_34 l1 b1).up (by decide))) ?_
      by_cases h2 : f_34 l1 s = 0
      · rw [if_pos h2] at h
        refine RuP.jy rfl h2 ?_
        refine RuP.step (pc' := 113) (ls' := [some (.inr (.inr (some 73))), some (.inl l1), d2, d3]) (st' := [.inr (.inr (some 73))]) (h1 := hp L s c e) rfl ?_
        refine RuP.step (pc' := 114) (ls' := [some (.inr (.inr (some 73))), some (.inl l1), d2, d3]) (st' := [.inl l1, .inr (.inr (some 73))]) (h1 := hp L s c e) rfl ?_
        obtain ⟨b3, h⟩ := gd_some h
        refine RuP.cI rfl (EvP.i ((ev_25 l1 b3).up (by decide))) ?_
        exact bl_19_117 ih _ _ _ _ _ _ h
      · rw [if_neg h2] at h
        refine RuP.jn rfl h2 ?_
        refine RuP.step (pc' := 105) (ls' := [some (.inr (.inr (some 73))), some (.inl l1), d2, d3]) (st' := [.inr (.inr (some 73))]) (h1 := hp L s c e) rfl ?_
        refine RuP.step (pc' := 106) (ls' := [some (.inr (.inr (some 73))), some (.inl l1), d2, d3]) (st' := [.inl l1, .inr (.inr (some 73))]) (h1 := hp L s c e) rfl ?_
        obtain ⟨q2, h1, h⟩ := bd_some h
        refine RuP.cI rfl ((ev_24 h1).up (by decide)) ?_
        refine RuP.step (pc' := 117) (ls' := [some (.inr (.inr (some 73))), some (.inl l1), d2, d3]) (st' := [.inl q2]) (h1 := hp L s c e) rfl ?_
        exact bl_19_117 ih _ _ _ _ _ _ h
noncomputable def j_19_80 (s : Sg) : Option Sg :=
  j_19_82 FU 0 s
theorem bl_19_80 {L c : Nat} {e : Nat → Nat} : ∀ (d2 d3 : Option ax_V) (z1 : Int) (s : Sg) (q : Sg), j_19_80 s = some q → RuP 5 tb_m19 80 [some (.inr (.inr (some 73))), some (.inl z1), d2, d3] [] (hp L s c e) (oV L c e q) := by
  intro d2 d3 z1 s q h
  unfold j_19_80 at h
  refine RuP.step (pc' := 81) (ls' := [some (.inr (.inr (some 73))), some (.inl z1), d2, d3]) (st' := [.inl 0]) (h1 := hp L s c e) rfl ?_
  refine RuP.step (pc' := 82) (ls' := [some (.inr (.inr (some 73))), some (.inl 0), d2, d3]) (st' := []) (h1 := hp L s c e) rfl ?_
  exact bl_19_82 FU _ _ _ _ _ h
noncomputable def j_19_74 (k2 : (Int → Sg → Option Sg)) (l1 : Int) (s : Sg) : Option Sg :=
  k2 (ax_w32 (l1 + 1)) s
theorem bl_19_74 {L c : Nat} {e : Nat → Nat} {k2 : (Int → Sg → Option Sg)} (hk2 : ∀ (d2 d3 : Option ax_V) (l1 : Int) (s : Sg) (q : Sg), k2 l1 s = some q → RuP 5 tb_m19 2 [some (.inr (.inr (some 73))), some (.inl l1), d2, d3] [] (hp L s c e) (oV L c e q)) : ∀ (z2 z3 : Int) (l1 : Int) (s : Sg) (q : Sg), j_19_74 k2 l1 s = some q → RuP 5 tb_m19 74 [some (.inr (.inr (some 73))), some (.inl l1), some (.inl z2), some (.inl z3)] [] (hp L s c e) (oV L c e q) := by
  intro z2 z3 l1 s q h
  unfold j_19_74 at h
  refine RuP.step (pc' := 77) (ls' := [some (.inr (.inr (some 73))), some (.inl (ax_w32 (l1 + 1))), some (.inl z2), some (.inl z3)]) (st' := []) (h1 := hp L s c e) rfl ?_
  refine RuP.step (pc' := 2) (ls' := [some (.inr (.inr (some 73))), some (.inl (ax_w32 (l1 + 1))), some (.inl z2), some (.inl z3)]) (st' := []) (h1 := hp L s c e) rfl ?_
  exact hk2 _ _ _ _ _ h
noncomputable def j_19_32 (k2 : (Int → Sg → Option Sg)) (l1 l2 t0 : Int) (s : Sg) : Option Sg :=
  (gd (g_123 l1 t0 s) (
  ((some (f_123 l1 t0 s)).bind fun q4 =>
  (if l2 = 0 then
    j_19_74 k2 l1 q4
  else
    (if ¬ t0 = 0 then
      j_19_74 k2 l1 q4
    else
      (gd (g_122 l1 q4) (
      (gd (g_80 (f_122 l1 q4) q4) (
      (gd (g_71 9 (f_80 (f_122 l1 q4) q4) q4) (
      ((some (f_71 9 (f_80 (f_122 l1 q4) q4) q4)).bind fun q5 =>
      j_19_74 k2 l1 q5))))))))))))
theorem bl_19_32 {L c : Nat} {e : Nat → Nat} {k2 : (Int → Sg → Option Sg)} (hk2 : ∀ (d2 d3 : Option ax_V) (l1 : Int) (s : Sg) (q : Sg), k2 l1 s = some q → RuP 5 tb_m19 2 [some (.inr (.inr (some 73))), some (.inl l1), d2, d3] [] (hp L s c e) (oV L c e q)) : ∀ (d3 : Option ax_V) (l1 l2 t0 : Int) (s : Sg) (q : Sg), j_19_32 k2 l1 l2 t0 s = some q → RuP 5 tb_m19 32 [some (.inr (.inr (some 73))), some (.inl l1), some (.inl l2), d3] [.inl t0] (hp L s c e) (oV L c e q) := by
  intro d3 l1 l2 t0 s q h
  unfold j_19_32 at h
  refine RuP.step (pc' := 33) (ls' := [some (.inr (.inr (some 73))), some (.inl l1), some (.inl l2), some (.inl t0)]) (st' := []) (h1 := hp L s c e) rfl ?_
  refine RuP.step (pc' := 34) (ls' := [some (.inr (.inr (some 73))), some (.inl l1), some (.inl l2), some (.inl t0)]) (st' := [.inr (.inr (some 73))]) (h1 := hp L s c e) rfl ?_
  refine RuP.step (pc' := 37) (ls' := [some (.inr (.inr (some 73))), some (.inl l1), some (.inl l2), some (.inl t0)]) (st' := [.inr (.inr (some 46))]) (h1 := hp L s c e) rfl ?_
  refine RuP.step (pc' := 38) (ls' := [some (.inr (.inr (some 73))), some (.inl l1), some (.inl l2), some (.inl t0)]) (st' := [.inl l1, .inr (.inr (some 46))]) (h1 := hp L s c e) rfl ?_
  refine RuP.step (pc' := 39) (ls' := [some (.inr (.inr (some 73))), some (.inl l1), some (.inl l2), some (.inl t0)]) (st' := [.inl t0, .inl l1, .inr (.inr (some 46))]) (h1 := hp L s c e) rfl ?_
  obtain ⟨b0, h⟩ := gd_some h
  obtain ⟨q4, h1, h⟩ := bd_some h
  refine RuP.cVe h1 rfl (EvP.v ((ev_123 l1 t0 b0).up (by decide))) ?_
  refine RuP.step (pc' := 43) (ls' := [some (.inr (.inr (some 73))), some (.inl l1), some (.inl l2), some (.inl t0)]) (st' := [.inl l2]) (h1 := hp L q4 c e) rfl ?_
  by_cases h1 : l2 = 0
  · rw [if_pos h1] at h
    refine RuP.jy rfl h1 ?_
    exact bl_19_74 hk2 _ _ _ _ _ h
  · rw [if_neg h1] at h
    refine RuP.jn rfl h1 ?_
    refine RuP.step (pc' := 47) (ls' := [some (.inr (.inr (some 73))), some (.inl l1), some (.inl l2), some (.inl t0)]) (st' := [.inl t0]) (h1 := hp L q4 c e) rfl ?_
    by_cases h2 : ¬ t0 = 0
    · rw [if_pos h2] at h
      refine RuP.jy rfl h2 ?_
      exact bl_19_74 hk2 _ _ _ _ _ h
    · rw [if_neg h2] at h
      refine RuP.jn rfl h2 ?_
      refine RuP.step (pc' := 51) (ls' := [some (.inr (.inr (some 73))), some (.inl l1), some (.inl l2), some (.inl t0)]) (st' := [.inr (.inr (some 73))]) (h1 := hp L q4 c e) rfl ?_
      refine RuP.step (pc' := 54) (ls' := [some (.inr (.inr (some 73))), some (.inl l1), some (.inl l2), some (.inl t0)]) (st' := [.inr (.inr (some 29))]) (h1 := hp L q4 c e) rfl ?_
      refine RuP.step (pc' := 56) (ls' := [some (.inr (.inr (some 73))), some (.inl l1), some (.inl l2), some (.inl t0)]) (st' := [.inl 9, .inr (.inr (some 29))]) (h1 := hp L q4 c e) rfl ?_
      refine RuP.step (pc' := 57) (ls' := [some (.inr (.inr (some 73))), some (.inl l1), some (.inl l2), some (.inl t0)]) (st' := [.inr (.inr (some 73)), .inl 9, .inr (.inr (some 29))]) (h1 := hp L q4 c e) rfl ?_
      refine RuP.step (pc' := 60) (ls' := [some (.inr (.inr (some 73))), some (.inl l1), some (.inl l2), some (.inl t0)]) (st' := [.inr (.inr (some 39)), .inl 9, .inr (.inr (some 29))]) (h1 := hp L q4 c e) rfl ?_
      refine RuP.step (pc' := 61) (ls' := [some (.inr (.inr (some 73))), some (.inl l1), some (.inl l2), some (.inl t0)]) (st' := [.inr (.inr (some 73)), .inr (.inr (some 39)), .inl 9, .inr (.inr (some 29))]) (h1 := hp L q4 c e) rfl ?_
      refine RuP.step (pc' := 64) (ls' := [some (.inr (.inr (some 73))), some (.inl l1), some (.inl l2), some (.inl t0)]) (st' := [.inr (.inr (some 46)), .inr (.inr (some 39)), .inl 9, .inr (.inr (some 29))]) (h1 := hp L q4 c e) rfl ?_
      refine RuP.step (pc' := 65) (ls' := [some (.inr (.inr (some 73))), some (.inl l1), some (.inl l2), some (.inl t0)]) (st' := [.inl l1, .inr (.inr (some 46)), .inr (.inr (some 39)), .inl 9, .inr (.inr (some 29))]) (h1 := hp L q4 c e) rfl ?_
      obtain ⟨b3, h⟩ := gd_some h
      refine RuP.cI rfl (EvP.i ((ev_122 l1 b3).up (by decide))) ?_
      obtain ⟨b4, h⟩ := gd_some h
      refine RuP.cI rfl (EvP.i ((ev_80 (f_122 l1 q4) b4).up (by decide))) ?_
      obtain ⟨b5, h⟩ := gd_some h
      obtain ⟨q5, h1, h⟩ := bd_some h
      refine RuP.cVe h1 rfl (EvP.v ((ev_71 9 (f_80 (f_122 l1 q4) q4) b5).up (by decide))) ?_
      exact bl_19_74 hk2 _ _ _ _ _ h
noncomputable def j_19_2 : Nat → Int → Sg → Option Sg
  | 0, _, _ => none
  | F + 1, l1, s =>
    (if s 46 7 ≤ l1 then
      j_19_80 s
    else
      ((f_22 l1 s).bind fun q3 =>
      (if q3 = 0 then
        j_19_32 (j_19_2 F) l1 q3 0 s
      else
        ((f_23 l1 s).bind fun q6 =>
        j_19_32 (j_19_2 F) l1 q3 q6 s))))
theorem bl_19_2 {L c : Nat} {e : Nat → Nat} : ∀ (F : Nat) (d2 d3 : Option ax_V) (l1 : Int) (s : Sg) (q : Sg), j_19_2 F l1 s = some q → RuP 5 tb_m19 2 [some (.inr (.inr (some 73))), some (.inl l1), d2, d3] [] (hp L s c e) (oV L c e q) := by
  intro F
  induction F with
  | zero =>
    intro d2 d3 l1 s q h
    rw [j_19_2] at h
    cases h
  | succ F ih =>
    intro d2 d3 l1 s q h
    rw [j_19_2] at h
    refine RuP.step (pc' := 3) (ls' := [some (.inr (.inr (some 73))), some (.inl l1), d2, d3]) (st' := [.inl l1]) (h1 := hp L s c e) rfl ?_
    refine RuP.step (pc' := 4) (ls' := [some (.inr (.inr (some 73))), some (.inl l1), d2, d3]) (st' := [.inr (.inr (some 73)), .inl l1]) (h1 := hp L s c e) rfl ?_
    refine RuP.step (pc' := 7) (ls' := [some (.inr (.inr (some 73))), some (.inl l1), d2, d3]) (st' := [.inr (.inr (some 46)), .inl l1]) (h1 := hp L s c e) rfl ?_
    refine RuP.step (pc' := 10) (ls' := [some (.inr (.inr (some 73))), some (.inl l1), d2, d3]) (st' := [.inl (s 46 7), .inl l1]) (h1 := hp L s c e) rfl ?_
    by_cases h0 : s 46 7 ≤ l1
    · rw [if_pos h0] at h
      refine RuP.jy rfl h0 ?_
      exact bl_19_80 _ _ _ _ _ h
    · rw [if_neg h0] at h
      refine RuP.jn rfl h0 ?_
      refine RuP.step (pc' := 14) (ls' := [some (.inr (.inr (some 73))), some (.inl l1), d2, d3]) (st' := [.inr (.inr (some 73))]) (h1 := hp L s c e) rfl ?_
      refine RuP.step (pc' := 15) (ls' := [some (.inr (.inr (some 73))), some (.inl l1), d2, d3]) (st' := [.inl l1, .inr (.inr (some 73))]) (h1 := hp L s c e) rfl ?_
      obtain ⟨q3, h1, h⟩ := bd_some h
      refine RuP.cI rfl ((ev_22 h1).up (by decide)) ?_
      refine RuP.step (pc' := 19) (ls' := [some (.inr (.inr (some 73))), some (.inl l1), some (.inl q3), d3]) (st' := []) (h1 := hp L s c e) rfl ?_
      refine RuP.step (pc' := 20) (ls' := [some (.inr (.inr (some 73))), some (.inl l1), some (.inl q3), d3]) (st' := [.inl q3]) (h1 := hp L s c e) rfl ?_
      by_cases h1 : q3 = 0
      · rw [if_pos h1] at h
        refine RuP.jy rfl h1 ?_
        refine RuP.step (pc' := 32) (ls' := [some (.inr (.inr (some 73))), some (.inl l1), some (.inl q3), d3]) (st' := [.inl 0]) (h1 := hp L s c e) rfl ?_
        exact bl_19_32 ih _ _ _ _ _ _ h
      · rw [if_neg h1] at h
        refine RuP.jn rfl h1 ?_
        refine RuP.step (pc' := 24) (ls' := [some (.inr (.inr (some 73))), some (.inl l1), some (.inl q3), d3]) (st' := [.inr (.inr (some 73))]) (h1 := hp L s c e) rfl ?_
        refine RuP.step (pc' := 25) (ls' := [some (.inr (.inr (some 73))), some (.inl l1), some (.inl q3), d3]) (st' := [.inl l1, .inr (.inr (some 73))]) (h1 := hp L s c e) rfl ?_
        obtain ⟨q6, h1, h⟩ := bd_some h
        refine RuP.cI rfl ((ev_23 h1).up (by decide)) ?_
        refine RuP.step (pc' := 32) (ls' := [some (.inr (.inr (some 73))), some (.inl l1), some (.inl q3), d3]) (st' := [.inl q6]) (h1 := hp L s c e) rfl ?_
        exact bl_19_32 ih _ _ _ _ _ _ h
noncomputable def f_19 (s : Sg) : Option Sg :=
  j_19_2 FU 0 s
theorem ev_19 {L c : Nat} {e : Nat → Nat} {s : Sg} {q : Sg} (h : f_19 s = some q) : EvP 6 19 [.inr (.inr (some 73))] (hp L s c e) (oV L c e q) := by
  unfold f_19 at h
  refine EvP.of (μ := tb_m19) (ls := [some (.inr (.inr (some 73))), none, none, none]) rfl (Nat.le_of_ble_eq_true rfl) rfl ?_
  refine RuP.step (pc' := 1) (ls' := [some (.inr (.inr (some 73))), none, none, none]) (st' := [.inl 0]) (h1 := hp L s c e) rfl ?_
  refine RuP.step (pc' := 2) (ls' := [some (.inr (.inr (some 73))), some (.inl 0), none, none]) (st' := []) (h1 := hp L s c e) rfl ?_
  exact bl_19_2 FU _ _ _ _ _ h
/-- MachineText$Reader.action()V -/
noncomputable def f_144 (s : Sg) : Option (Sum (Sg) (Nat × Sg)) :=
  (if ¬ (s 39 11) = 125 then
    (gd (g_188 s) (
    ((some (f_188 s)).bind fun q1 =>
    (if q1 39 11 = 1 then
      (xb (f_147 q1) fun q2 =>
      some (.inl q2))
    else
    (if q1 39 11 = 21 then
      (xb (f_148 q1) fun q3 =>
      some (.inl q3))
    else
    (if q1 39 11 = 23 then
      (xb (f_149 q1) fun q4 =>
      some (.inl q4))
    else
    (if q1 39 11 = 24 then
      (gd (g_94 q1) (
      ((some (f_94 q1)).bind fun q5 =>
      (xb (f_93 0 255 q5) fun q6 =>
      (xb (f_92 59 q6.2) fun q7 =>
      some (.inl q7))))))
    else
      some (.inr (15, q1)))))))))
  else
    (xb (f_146 s) fun q8 =>
    some (.inl q8)))
theorem ev_144 {L c : Nat} {e : Nat → Nat} {s : Sg} {q : Sum (Sg) (Nat × Sg)} (h : f_144 s = some q) : EvP 222 144 [.inr (.inr (some 70))] (hp L s c e) (oX L c (oV L c e) q) := by
  unfold f_144 at h
  refine EvP.of (μ := tb_m144) (ls := [some (.inr (.inr (some 70)))]) rfl (Nat.le_of_ble_eq_true rfl) rfl ?_
  refine RuP.step (pc' := 1) (ls' := [some (.inr (.inr (some 70)))]) (st' := [.inr (.inr (some 70))]) (h1 := hp L s c e) rfl ?_
  refine RuP.step (pc' := 4) (ls' := [some (.inr (.inr (some 70)))]) (st' := [.inr (.inr (some 39))]) (h1 := hp L s c e) rfl ?_
  refine RuP.step (pc' := 7) (ls' := [some (.inr (.inr (some 70)))]) (st' := [.inl (s 39 11)]) (h1 := hp L s c e) rfl ?_
  refine RuP.step (pc' := 9) (ls' := [some (.inr (.inr (some 70)))]) (st' := [.inl 125, .inl (s 39 11)]) (h1 := hp L s c e) rfl ?_
  by_cases h0 : ¬ (s 39 11) = 125
  · rw [if_pos h0] at h
    refine RuP.jy rfl h0 ?_
    refine RuP.step (pc' := 18) (ls' := [some (.inr (.inr (some 70)))]) (st' := [.inr (.inr (some 70))]) (h1 := hp L s c e) rfl ?_
    refine RuP.step (pc' := 21) (ls' := [some (.inr (.inr (some 70)))]) (st' := [.inr (.inr (some 54))]) (h1 := hp L s c e) rfl ?_
    obtain ⟨b1, h⟩ := gd_some h
    obtain ⟨q1, h1, h⟩ := bd_some h
    refine RuP.cVe h1 rfl (EvP.v ((ev_188  b1).up (by decide))) ?_
    refine RuP.step (pc' := 25) (ls' := [some (.inr (.inr (some 70)))]) (st' := [.inr (.inr (some 70))]) (h1 := hp L q1 c e) rfl ?_
    refine RuP.step (pc' := 28) (ls' := [some (.inr (.inr (some 70)))]) (st' := [.inr (.inr (some 39))]) (h1 := hp L q1 c e) rfl ?_
    refine RuP.step (pc' := 31) (ls' := [some (.inr (.inr (some 70)))]) (st' := [.inl (q1 39 11)]) (h1 := hp L q1 c e) rfl ?_
    by_cases h2 : q1 39 11 = 1
    · rw [if_pos h2] at h
      have J3 : RuP 221 tb_m144 72 [some (.inr (.inr (some 70)))] [] (hp L q1 c e) (oX L c (oV L c e) q) := by
        refine RuP.step (pc' := 73) (ls' := [some (.inr (.inr (some 70)))]) (st' := [.inr (.inr (some 70))]) (h1 := hp L q1 c e) rfl ?_
        rcases xb_some h with ⟨q2, h1, h⟩ | ⟨xx1, h1, h2⟩
        rotate_left
        · subst h2
          exact RuP.pass rfl rfl ((ev_147 h1).up (by decide))
        refine RuP.cV rfl ((ev_147 h1).up (by decide)) ?_
        refine RuP.step (pc' := 134) (ls' := [some (.inr (.inr (some 70)))]) (st' := []) (h1 := hp L q2 c e) rfl ?_
        cases h
        exact RuP.dV rfl
      exact RuP.sw (i := .lookupswitch (93) #[((1), (41)), ((21), (48)), ((23), (55)), ((24), (62))]) rfl h2 rfl J3
    rw [if_neg h2] at h
    by_cases h3 : q1 39 11 = 21
    · rw [if_pos h3] at h
      have J4 : RuP 221 tb_m144 79 [some (.inr (.inr (some 70)))] [] (hp L q1 c e) (oX L c (oV L c e) q) := by
        refine RuP.step (pc' := 80) (ls' := [some (.inr (.inr (some 70)))]) (st' := [.inr (.inr (some 70))]) (h1 := hp L q1 c e) rfl ?_
        rcases xb_some h with ⟨q3, h1, h⟩ | ⟨xx1, h1, h2⟩
        rotate_left
        · subst h2
          exact RuP.pass rfl rfl ((ev_148 h1).up (by decide))
        refine RuP.cV rfl ((ev_148 h1).up (by decide)) ?_
        refine RuP.step (pc' := 134) (ls' := [some (.inr (.inr (some 70)))]) (st' := []) (h1 := hp L q3 c e) rfl ?_
        cases h
        exact RuP.dV rfl
      exact RuP.sw (i := .lookupswitch (93) #[((1), (41)), ((21), (48)), ((23), (55)), ((24), (62))]) rfl h3 rfl J4
    rw [if_neg h3] at h
    by_cases h4 : q1 39 11 = 23
    · rw [if_pos h4] at h
      have J5 : RuP 221 tb_m144 86 [some (.inr (.inr (some 70)))] [] (hp L q1 c e) (oX L c (oV L c e) q) := by
        refine RuP.step (pc' := 87) (ls' := [some (.inr (.inr (some 70)))]) (st' := [.inr (.inr (some 70))]) (h1 := hp L q1 c e) rfl ?_
        rcases xb_some h with ⟨q4, h1, h⟩ | ⟨xx1, h1, h2⟩
        rotate_left
        · subst h2
          exact RuP.pass rfl rfl ((ev_149 h1).up (by decide))
        refine RuP.cV rfl ((ev_149 h1).up (by decide)) ?_
        refine RuP.step (pc' := 134) (ls' := [some (.inr (.inr (some 70)))]) (st' := []) (h1 := hp L q4 c e) rfl ?_
        cases h
        exact RuP.dV rfl
      exact RuP.sw (i := .lookupswitch (93) #[((1), (41)), ((21), (48)), ((23), (55)), ((24), (62))]) rfl h4 rfl J5
    rw [if_neg h4] at h
    by_cases h5 : q1 39 11 = 24
    · rw [if_pos h5] at h
      have J6 : RuP 221 tb_m144 93 [some (.inr (.inr (some 70)))] [] (hp L q1 c e) (oX L c (oV L c e) q) := by
        refine RuP.step (pc' := 94) (ls' := [some (.inr (.inr (some 70)))]) (st' := [.inr (.inr (some 70))]) (h1 := hp L q1 c e) rfl ?_
        refine RuP.step (pc' := 97) (ls' := [some (.inr (.inr (some 70)))]) (st' := [.inr (.inr (some 39))]) (h1 := hp L q1 c e) rfl ?_
        obtain ⟨b6, h⟩ := gd_some h
        obtain ⟨q5, h1, h⟩ := bd_some h
        refine RuP.cVe h1 rfl (EvP.v ((ev_94  b6).up (by decide))) ?_
        refine RuP.step (pc' := 101) (ls' := [some (.inr (.inr (some 70)))]) (st' := [.inr (.inr (some 70))]) (h1 := hp L q5 c e) rfl ?_
        refine RuP.step (pc' := 104) (ls' := [some (.inr (.inr (some 70)))]) (st' := [.inr (.inr (some 39))]) (h1 := hp L q5 c e) rfl ?_
        refine RuP.step (pc' := 105) (ls' := [some (.inr (.inr (some 70)))]) (st' := [.inl 0, .inr (.inr (some 39))]) (h1 := hp L q5 c e) rfl ?_
        refine RuP.step (pc' := 108) (ls' := [some (.inr (.inr (some 70)))]) (st' := [.inl 255, .inl 0, .inr (.inr (some 39))]) (h1 := hp L q5 c e) rfl ?_
        rcases xb_some h with ⟨q6, h1, h⟩ | ⟨xx1, h1, h2⟩
        rotate_left
        · subst h2
          exact RuP.pass rfl rfl ((ev_93 h1).up (by decide))
        refine RuP.cI rfl ((ev_93 h1).up (by decide)) ?_
        refine RuP.step (pc' := 112) (ls' := [some (.inr (.inr (some 70)))]) (st' := []) (h1 := hp L q6.2 c e) rfl ?_
        refine RuP.step (pc' := 113) (ls' := [some (.inr (.inr (some 70)))]) (st' := [.inr (.inr (some 70))]) (h1 := hp L q6.2 c e) rfl ?_
        refine RuP.step (pc' := 116) (ls' := [some (.inr (.inr (some 70)))]) (st' := [.inr (.inr (some 39))]) (h1 := hp L q6.2 c e) rfl ?_
        refine RuP.step (pc' := 118) (ls' := [some (.inr (.inr (some 70)))]) (st' := [.inl 59, .inr (.inr (some 39))]) (h1 := hp L q6.2 c e) rfl ?_
        rcases xb_some h with ⟨q7, h1, h⟩ | ⟨xx1, h1, h2⟩
        rotate_left
        · subst h2
          exact RuP.pass rfl rfl ((ev_92 h1).up (by decide))
        refine RuP.cV rfl ((ev_92 h1).up (by decide)) ?_
        refine RuP.step (pc' := 134) (ls' := [some (.inr (.inr (some 70)))]) (st' := []) (h1 := hp L q7 c e) rfl ?_
        cases h
        exact RuP.dV rfl
      exact RuP.sw (i := .lookupswitch (93) #[((1), (41)), ((21), (48)), ((23), (55)), ((24), (62))]) rfl h5 rfl J6
    rw [if_neg h5] at h
    refine RuP.swd (i := .lookupswitch (93) #[((1), (41)), ((21), (48)), ((23), (55)), ((24), (62))]) (pc' := 124) rfl (sw_l (by simp only [List.mem_cons, List.not_mem_nil, or_false, forall_eq_or_imp, forall_eq]; omega)) ?_
    cases h
    exact RuP.thr (m := 15) (p2 := 130) rfl (fun _ => rfl) (fun _ => rfl) (fun _ _ => rfl) (Nat.le_of_ble_eq_true rfl) rfl rfl
  · rw [if_neg h0] at h
    refine RuP.jn rfl h0 ?_
    refine RuP.step (pc' := 13) (ls' := [some (.inr (.inr (some 70)))]) (st' := [.inr (.inr (some 70))]) (h1 := hp L s c e) rfl ?_
    rcases xb_some h with ⟨q8, h1, h⟩ | ⟨xx1, h1, h2⟩
    rotate_left
    · subst h2
      exact RuP.pass rfl rfl ((ev_146 h1).up (by decide))
    refine RuP.cV rfl ((ev_146 h1).up (by decide)) ?_
    cases h
    exact RuP.dV rfl
/-- MachineText$Reader.declaration()V -/
noncomputable def f_145 (s : Sg) : Option (Sum (Sg) (Nat × Sg)) :=
  (if s 39 11 = 17 then
    (xb (f_150 s) fun q1 =>
    some (.inl q1))
  else
  (if s 39 11 = 18 then
    (xb (f_151 s) fun q2 =>
    some (.inl q2))
  else
  (if s 39 11 = 19 then
    (xb (f_152 s) fun q3 =>
    some (.inl q3))
  else
  (if s 39 11 = 20 then
    (xb (f_153 s) fun q4 =>
    some (.inl q4))
  else
    some (.inr (15, s))))))
theorem ev_145 {L c : Nat} {e : Nat → Nat} {s : Sg} {q : Sum (Sg) (Nat × Sg)} (h : f_145 s = some q) : EvP 222 145 [.inr (.inr (some 70))] (hp L s c e) (oX L c (oV L c e) q) := by
  unfold f_145 at h
  refine EvP.of (μ := tb_m145) (ls := [some (.inr (.inr (some 70)))]) rfl (Nat.le_of_ble_eq_true rfl) rfl ?_
  refine RuP.step (pc' := 1) (ls' := [some (.inr (.inr (some 70)))]) (st' := [.inr (.inr (some 70))]) (h1 := hp L s c e) rfl ?_
  refine RuP.step (pc' := 4) (ls' := [some (.inr (.inr (some 70)))]) (st' := [.inr (.inr (some 39))]) (h1 := hp L s c e) rfl ?_
  refine RuP.step (pc' := 7) (ls' := [some (.inr (.inr (some 70)))]) (st' := [.inl (s 39 11)]) (h1 := hp L s c e) rfl ?_
  by_cases h0 : s 39 11 = 17
  · rw [if_pos h0] at h
    have J1 : RuP 221 tb_m145 36 [some (.inr (.inr (some 70)))] [] (hp L s c e) (oX L c (oV L c e) q) := by
      refine RuP.step (pc' := 37) (ls' := [some (.inr (.inr (some 70)))]) (st' := [.inr (.inr (some 70))]) (h1 := hp L s c e) rfl ?_
      rcases xb_some h with ⟨q1, h1, h⟩ | ⟨xx1, h1, h2⟩
      rotate_left
      · subst h2
        exact RuP.pass rfl rfl ((ev_150 h1).up (by decide))
      refine RuP.cV rfl ((ev_150 h1).up (by decide)) ?_
      refine RuP.step (pc' := 74) (ls' := [some (.inr (.inr (some 70)))]) (st' := []) (h1 := hp L q1 c e) rfl ?_
      cases h
      exact RuP.dV rfl
    exact RuP.sw (i := .tableswitch (57) (17) (20) #[29, 36, 43, 50]) rfl h0 rfl J1
  rw [if_neg h0] at h
  by_cases h1 : s 39 11 = 18
  · rw [if_pos h1] at h
    have J2 : RuP 221 tb_m145 43 [some (.inr (.inr (some 70)))] [] (hp L s c e) (oX L c (oV L c e) q) := by
      refine RuP.step (pc' := 44) (ls' := [some (.inr (.inr (some 70)))]) (st' := [.inr (.inr (some 70))]) (h1 := hp L s c e) rfl ?_
      rcases xb_some h with ⟨q2, h1, h⟩ | ⟨xx1, h1, h2⟩
      rotate_left
      · subst h2
        exact RuP.pass rfl rfl ((ev_151 h1).up (by decide))
      refine RuP.cV rfl ((ev_151 h1).up (by decide)) ?_
      refine RuP.step (pc' := 74) (ls' := [some (.inr (.inr (some 70)))]) (st' := []) (h1 := hp L q2 c e) rfl ?_
      cases h
      exact RuP.dV rfl
    exact RuP.sw (i := .tableswitch (57) (17) (20) #[29, 36, 43, 50]) rfl h1 rfl J2
  rw [if_neg h1] at h
  by_cases h2 : s 39 11 = 19
  · rw [if_pos h2] at h
    have J3 : RuP 221 tb_m145 50 [some (.inr (.inr (some 70)))] [] (hp L s c e) (oX L c (oV L c e) q) := by
      refine RuP.step (pc' := 51) (ls' := [some (.inr (.inr (some 70)))]) (st' := [.inr (.inr (some 70))]) (h1 := hp L s c e) rfl ?_
      rcases xb_some h with ⟨q3, h1, h⟩ | ⟨xx1, h1, h2⟩
      rotate_left
      · subst h2
        exact RuP.pass rfl rfl ((ev_152 h1).up (by decide))
      refine RuP.cV rfl ((ev_152 h1).up (by decide)) ?_
      refine RuP.step (pc' := 74) (ls' := [some (.inr (.inr (some 70)))]) (st' := []) (h1 := hp L q3 c e) rfl ?_
      cases h
      exact RuP.dV rfl
    exact RuP.sw (i := .tableswitch (57) (17) (20) #[29, 36, 43, 50]) rfl h2 rfl J3
  rw [if_neg h2] at h
  by_cases h3 : s 39 11 = 20
  · rw [if_pos h3] at h
    have J4 : RuP 221 tb_m145 57 [some (.inr (.inr (some 70)))] [] (hp L s c e) (oX L c (oV L c e) q) := by
      refine RuP.step (pc' := 58) (ls' := [some (.inr (.inr (some 70)))]) (st' := [.inr (.inr (some 70))]) (h1 := hp L s c e) rfl ?_
      rcases xb_some h with ⟨q4, h1, h⟩ | ⟨xx1, h1, h2⟩
      rotate_left
      · subst h2
        exact RuP.pass rfl rfl ((ev_153 h1).up (by decide))
      refine RuP.cV rfl ((ev_153 h1).up (by decide)) ?_
      refine RuP.step (pc' := 74) (ls' := [some (.inr (.inr (some 70)))]) (st' := []) (h1 := hp L q4 c e) rfl ?_
      cases h
      exact RuP.dV rfl
    exact RuP.sw (i := .tableswitch (57) (17) (20) #[29, 36, 43, 50]) rfl h3 rfl J4
  rw [if_neg h3] at h
  refine RuP.swd (i := .tableswitch (57) (17) (20) #[29, 36, 43, 50]) (pc' := 64) rfl (sw_td [17, 18, 19, 20] (by intro k hk; simp only [List.mem_cons, List.not_mem_nil, or_false] at hk; omega) (by decide) (by decide)) ?_
  cases h
  exact RuP.thr (m := 16) (p2 := 70) rfl (fun _ => rfl) (fun _ => rfl) (fun _ _ => rfl) (Nat.le_of_ble_eq_true rfl) rfl rfl
/-- MachineTextModel.checkWidths()V -/
noncomputable def j_215_255 (s : Sg) : Option Sg :=
  ((f_237 9 s).bind fun q1 =>
  some q1)
set_option maxRecDepth 20000 in
theorem bl_215_255 {L c : Nat} {e : Nat → Nat} : ∀ (d2 d3 : Option ax_V) (z1 : Int) (s : Sg) (q : Sg), j_215_255 s = some q → RuP 5 tb_m215 255 [some (.inr (.inr (some 84))), some (.inl z1), d2, d3] [] (hp L s c e) (oV L c e q) := by
  intro d2 d3 z1 s q h
  unfold j_215_255 at h
  refine RuP.step (pc' := 256) (ls' := [some (.inr (.inr (some 84))), some (.inl z1), d2, d3]) (st' := [.inr (.inr (some 84))]) (h1 := hp L s c e) rfl ?_
  refine RuP.step (pc' := 258) (ls' := [some (.inr (.inr (some 84))), some (.inl z1), d2, d3]) (st' := [.inl 9, .inr (.inr (some 84))]) (h1 := hp L s c e) rfl ?_
  obtain ⟨q1, h1, h⟩ := bd_some h
  refine RuP.cV rfl ((ev_237 h1).up (by decide)) ?_
  cases h
  exact RuP.dV rfl
noncomputable def j_215_249 (k187 : (Int → Sg → Option Sg)) (l1 : Int) (s : Sg) : Option Sg :=
  k187 (ax_w32 (l1 + 1)) s
set_option maxRecDepth 20000 in
theorem bl_215_249 {L c : Nat} {e : Nat → Nat} {k187 : (Int → Sg → Option Sg)} (hk187 : ∀ (d2 d3 : Option ax_V) (l1 : Int) (s : Sg) (q : Sg), k187 l1 s = some q → RuP 5 tb_m215 187 [some (.inr (.inr (some 84))), some (.inl l1), d2, d3] [] (hp L s c e) (oV L c e q)) : ∀ (d2 d3 : Option ax_V) (l1 : Int) (s : Sg) (q : Sg), j_215_249 k187 l1 s = some q → RuP 5 tb_m215 249 [some (.inr (.inr (some 84))), some (.inl l1), d2, d3] [] (hp L s c e) (oV L c e q) := by
  intro d2 d3 l1 s q h
  unfold j_215_249 at h
  refine RuP.step (pc' := 252) (ls' := [some (.inr (.inr (some 84))), some (.inl (ax_w32 (l1 + 1))), d2, d3]) (st' := []) (h1 := hp L s c e) rfl ?_
  refine RuP.step (pc' := 187) (ls' := [some (.inr (.inr (some 84))), some (.inl (ax_w32 (l1 + 1))), d2, d3]) (st' := []) (h1 := hp L s c e) rfl ?_
  exact hk187 _ _ _ _ _ h
noncomputable def j_215_235 (k187 : (Int → Sg → Option Sg)) (l1 : Int) (s : Sg) : Option Sg :=
  (gd (0 ≤ l1 ∧ l1 < 8200) (
  (if ¬ (s 106 l1.toNat) = 0 then
    j_215_249 k187 l1 s
  else
    ((f_248 l1 s).bind fun q2 =>
    j_215_249 k187 l1 q2))))
set_option maxRecDepth 20000 in
theorem bl_215_235 {L c : Nat} {e : Nat → Nat} {k187 : (Int → Sg → Option Sg)} (hk187 : ∀ (d2 d3 : Option ax_V) (l1 : Int) (s : Sg) (q : Sg), k187 l1 s = some q → RuP 5 tb_m215 187 [some (.inr (.inr (some 84))), some (.inl l1), d2, d3] [] (hp L s c e) (oV L c e q)) : ∀ (d2 d3 : Option ax_V) (l1 : Int) (s : Sg) (q : Sg), j_215_235 k187 l1 s = some q → RuP 5 tb_m215 235 [some (.inr (.inr (some 84))), some (.inl l1), d2, d3] [] (hp L s c e) (oV L c e q) := by
  intro d2 d3 l1 s q h
  unfold j_215_235 at h
  refine RuP.step (pc' := 236) (ls' := [some (.inr (.inr (some 84))), some (.inl l1), d2, d3]) (st' := [.inr (.inr (some 84))]) (h1 := hp L s c e) rfl ?_
  refine RuP.step (pc' := 239) (ls' := [some (.inr (.inr (some 84))), some (.inl l1), d2, d3]) (st' := [.inr (.inr (some 106))]) (h1 := hp L s c e) rfl ?_
  refine RuP.step (pc' := 240) (ls' := [some (.inr (.inr (some 84))), some (.inl l1), d2, d3]) (st' := [.inl l1, .inr (.inr (some 106))]) (h1 := hp L s c e) rfl ?_
  obtain ⟨b0, h⟩ := gd_some h
  refine RuP.ald (f := fun t => t == 0) (j := l1) (a := 106) rfl rfl b0.1 b0.2 ?_
  by_cases h1 : ¬ (s 106 l1.toNat) = 0
  · rw [if_pos h1] at h
    refine RuP.jy rfl h1 ?_
    exact bl_215_249 hk187 _ _ _ _ _ h
  · rw [if_neg h1] at h
    refine RuP.jn rfl h1 ?_
    refine RuP.step (pc' := 245) (ls' := [some (.inr (.inr (some 84))), some (.inl l1), d2, d3]) (st' := [.inr (.inr (some 84))]) (h1 := hp L s c e) rfl ?_
    refine RuP.step (pc' := 246) (ls' := [some (.inr (.inr (some 84))), some (.inl l1), d2, d3]) (st' := [.inl l1, .inr (.inr (some 84))]) (h1 := hp L s c e) rfl ?_
    obtain ⟨q2, h1, h⟩ := bd_some h
    refine RuP.cV rfl ((ev_248 h1).up (by decide)) ?_
    exact bl_215_249 hk187 _ _ _ _ _ h
noncomputable def j_215_187 : Nat → Int → Sg → Option Sg
  | 0, _, _ => none
  | F + 1, l1, s =>
    (if s 84 34 ≤ l1 then
      j_215_255 s
    else
      (gd (0 ≤ l1 ∧ l1 < 8200) (
      (if ¬ (s 106 l1.toNat) = 1 then
        j_215_235 (j_215_187 F) l1 s
      else
        (gd (0 ≤ l1 ∧ l1 < 8200) (
        (gd (0 ≤ s 110 l1.toNat ∧ s 110 l1.toNat < 8200) (
        (if s 122 ((s 110 l1.toNat).toNat) ≤ 1 then
          j_215_235 (j_215_187 F) l1 s
        else
          (gd (0 ≤ l1 ∧ l1 < 8200) (
          (gd (0 ≤ s 111 l1.toNat ∧ s 111 l1.toNat < 8200) (
          ((some (f_235 (s 89 ((s 111 l1.toNat).toNat)) s)).bind fun q3 =>
          j_215_235 (j_215_187 F) l1 q3))))))))))))))
set_option maxRecDepth 20000 in
theorem bl_215_187 {L c : Nat} {e : Nat → Nat} : ∀ (F : Nat) (d2 d3 : Option ax_V) (l1 : Int) (s : Sg) (q : Sg), j_215_187 F l1 s = some q → RuP 5 tb_m215 187 [some (.inr (.inr (some 84))), some (.inl l1), d2, d3] [] (hp L s c e) (oV L c e q) := by
  intro F
  induction F with
  | zero =>
    intro d2 d3 l1 s q h
    rw [j_215_187] at h
    cases h
  | succ F ih =>
    intro d2 d3 l1 s q h
    rw [j_215_187] at h
    refine RuP.step (pc' := 188) (ls' := [some (.inr (.inr (some 84))), some (.inl l1), d2, d3]) (st' := [.inl l1]) (h1 := hp L s c e) rfl ?_
    refine RuP.step (pc' := 189) (ls' := [some (.inr (.inr (some 84))), some (.inl l1), d2, d3]) (st' := [.inr (.inr (some 84)), .inl l1]) (h1 := hp L s c e) rfl ?_
    refine RuP.step (pc' := 192) (ls' := [some (.inr (.inr (some 84))), some (.inl l1), d2, d3]) (st' := [.inl (s 84 34), .inl l1]) (h1 := hp L s c e) rfl ?_
    by_cases h0 : s 84 34 ≤ l1
    · rw [if_pos h0] at h
      refine RuP.jy rfl h0 ?_
      exact bl_215_255 _ _ _ _ _ h
    · rw [if_neg h0] at h
      refine RuP.jn rfl h0 ?_
      refine RuP.step (pc' := 196) (ls' := [some (.inr (.inr (some 84))), some (.inl l1), d2, d3]) (st' := [.inr (.inr (some 84))]) (h1 := hp L s c e) rfl ?_
      refine RuP.step (pc' := 199) (ls' := [some (.inr (.inr (some 84))), some (.inl l1), d2, d3]) (st' := [.inr (.inr (some 106))]) (h1 := hp L s c e) rfl ?_
      refine RuP.step (pc' := 200) (ls' := [some (.inr (.inr (some 84))), some (.inl l1), d2, d3]) (st' := [.inl l1, .inr (.inr (some 106))]) (h1 := hp L s c e) rfl ?_
      obtain ⟨b1, h⟩ := gd_some h
      refine RuP.ald (f := fun t => t == 0) (j := l1) (a := 106) rfl rfl b1.1 b1.2 ?_
      refine RuP.step (pc' := 202) (ls' := [some (.inr (.inr (some 84))), some (.inl l1), d2, d3]) (st' := [.inl 1, .inl (s 106 l1.toNat)]) (h1 := hp L s c e) rfl ?_
      by_cases h2 : ¬ (s 106 l1.toNat) = 1
      · rw [if_pos h2] at h
        refine RuP.jy rfl h2 ?_
        exact bl_215_235 ih _ _ _ _ _ h
      · rw [if_neg h2] at h
        refine RuP.jn rfl h2 ?_
        refine RuP.step (pc' := 206) (ls' := [some (.inr (.inr (some 84))), some (.inl l1), d2, d3]) (st' := [.inr (.inr (some 84))]) (h1 := hp L s c e) rfl ?_
        refine RuP.step (pc' := 209) (ls' := [some (.inr (.inr (some 84))), some (.inl l1), d2, d3]) (st' := [.inr (.inr (some 122))]) (h1 := hp L s c e) rfl ?_
        refine RuP.step (pc' := 210) (ls' := [some (.inr (.inr (some 84))), some (.inl l1), d2, d3]) (st' := [.inr (.inr (some 84)), .inr (.inr (some 122))]) (h1 := hp L s c e) rfl ?_
        refine RuP.step (pc' := 213) (ls' := [some (.inr (.inr (some 84))), some (.inl l1), d2, d3]) (st' := [.inr (.inr (some 110)), .inr (.inr (some 122))]) (h1 := hp L s c e) rfl ?_
        refine RuP.step (pc' := 214) (ls' := [some (.inr (.inr (some 84))), some (.inl l1), d2, d3]) (st' := [.inl l1, .inr (.inr (some 110)), .inr (.inr (some 122))]) (h1 := hp L s c e) rfl ?_
        obtain ⟨b3, h⟩ := gd_some h
        refine RuP.ald (f := fun t => t == 0) (j := l1) (a := 110) rfl rfl b3.1 b3.2 ?_
        obtain ⟨b4, h⟩ := gd_some h
        refine RuP.ald (f := fun t => t == 0) (j := s 110 l1.toNat) (a := 122) rfl rfl b4.1 b4.2 ?_
        refine RuP.step (pc' := 217) (ls' := [some (.inr (.inr (some 84))), some (.inl l1), d2, d3]) (st' := [.inl 1, .inl (s 122 ((s 110 l1.toNat).toNat))]) (h1 := hp L s c e) rfl ?_
        by_cases h5 : s 122 ((s 110 l1.toNat).toNat) ≤ 1
        · rw [if_pos h5] at h
          refine RuP.jy rfl h5 ?_
          exact bl_215_235 ih _ _ _ _ _ h
        · rw [if_neg h5] at h
          refine RuP.jn rfl h5 ?_
          refine RuP.step (pc' := 221) (ls' := [some (.inr (.inr (some 84))), some (.inl l1), d2, d3]) (st' := [.inr (.inr (some 84))]) (h1 := hp L s c e) rfl ?_
          refine RuP.step (pc' := 222) (ls' := [some (.inr (.inr (some 84))), some (.inl l1), d2, d3]) (st' := [.inr (.inr (some 84)), .inr (.inr (some 84))]) (h1 := hp L s c e) rfl ?_
          refine RuP.step (pc' := 225) (ls' := [some (.inr (.inr (some 84))), some (.inl l1), d2, d3]) (st' := [.inr (.inr (some 89)), .inr (.inr (some 84))]) (h1 := hp L s c e) rfl ?_
          refine RuP.step (pc' := 226) (ls' := [some (.inr (.inr (some 84))), some (.inl l1), d2, d3]) (st' := [.inr (.inr (some 84)), .inr (.inr (some 89)), .inr (.inr (some 84))]) (h1 := hp L s c e) rfl ?_
          refine RuP.step (pc' := 229) (ls' := [some (.inr (.inr (some 84))), some (.inl l1), d2, d3]) (st' := [.inr (.inr (some 111)), .inr (.inr (some 89)), .inr (.inr (some 84))]) (h1 := hp L s c e) rfl ?_
          refine RuP.step (pc' := 230) (ls' := [some (.inr (.inr (some 84))), some (.inl l1), d2, d3]) (st' := [.inl l1, .inr (.inr (some 111)), .inr (.inr (some 89)), .inr (.inr (some 84))]) (h1 := hp L s c e) rfl ?_
          obtain ⟨b6, h⟩ := gd_some h
          refine RuP.ald (f := fun t => t == 0) (j := l1) (a := 111) rfl rfl b6.1 b6.2 ?_
          obtain ⟨b7, h⟩ := gd_some h
          refine RuP.ald (f := fun t => t == 0) (j := s 111 l1.toNat) (a := 89) rfl rfl b7.1 b7.2 ?_
          obtain ⟨q3, h1, h⟩ := bd_some h
          refine RuP.cVe h1 rfl (EvP.v ((ev_235 (s 89 ((s 111 l1.toNat).toNat))).up (by decide))) ?_
          exact bl_215_235 ih _ _ _ _ _ h
noncomputable def j_215_185 (s : Sg) : Option Sg :=
  j_215_187 FU 0 s
set_option maxRecDepth 20000 in
theorem bl_215_185 {L c : Nat} {e : Nat → Nat} : ∀ (d2 d3 : Option ax_V) (z1 : Int) (s : Sg) (q : Sg), j_215_185 s = some q → RuP 5 tb_m215 185 [some (.inr (.inr (some 84))), some (.inl z1), d2, d3] [] (hp L s c e) (oV L c e q) := by
  intro d2 d3 z1 s q h
  unfold j_215_185 at h
  refine RuP.step (pc' := 186) (ls' := [some (.inr (.inr (some 84))), some (.inl z1), d2, d3]) (st' := [.inl 0]) (h1 := hp L s c e) rfl ?_
  refine RuP.step (pc' := 187) (ls' := [some (.inr (.inr (some 84))), some (.inl 0), d2, d3]) (st' := []) (h1 := hp L s c e) rfl ?_
  exact bl_215_187 FU _ _ _ _ _ h
noncomputable def j_215_179 (k107 : (Int → Sg → Option Sg)) (l1 : Int) (s : Sg) : Option Sg :=
  k107 (ax_w32 (l1 + 1)) s
set_option maxRecDepth 20000 in
theorem bl_215_179 {L c : Nat} {e : Nat → Nat} {k107 : (Int → Sg → Option Sg)} (hk107 : ∀ (d2 d3 : Option ax_V) (l1 : Int) (s : Sg) (q : Sg), k107 l1 s = some q → RuP 5 tb_m215 107 [some (.inr (.inr (some 84))), some (.inl l1), d2, d3] [] (hp L s c e) (oV L c e q)) : ∀ (d2 d3 : Option ax_V) (l1 : Int) (s : Sg) (q : Sg), j_215_179 k107 l1 s = some q → RuP 5 tb_m215 179 [some (.inr (.inr (some 84))), some (.inl l1), d2, d3] [] (hp L s c e) (oV L c e q) := by
  intro d2 d3 l1 s q h
  unfold j_215_179 at h
  refine RuP.step (pc' := 182) (ls' := [some (.inr (.inr (some 84))), some (.inl (ax_w32 (l1 + 1))), d2, d3]) (st' := []) (h1 := hp L s c e) rfl ?_
  refine RuP.step (pc' := 107) (ls' := [some (.inr (.inr (some 84))), some (.inl (ax_w32 (l1 + 1))), d2, d3]) (st' := []) (h1 := hp L s c e) rfl ?_
  exact hk107 _ _ _ _ _ h
noncomputable def j_215_107 : Nat → Int → Sg → Option Sg
  | 0, _, _ => none
  | F + 1, l1, s =>
    (if s 84 19 ≤ l1 then
      j_215_185 s
    else
      (gd (0 ≤ l1 ∧ l1 < 4100) (
      (if ¬ (s 94 l1.toNat) = 2 then
        j_215_179 (j_215_107 F) l1 s
      else
        (gd (0 ≤ l1 ∧ l1 < 4100) (
        (gd (0 ≤ s 100 l1.toNat ∧ s 100 l1.toNat < 8200) (
        (if s 122 ((s 100 l1.toNat).toNat) ≤ 0 then
          j_215_179 (j_215_107 F) l1 s
        else
          (gd (0 ≤ l1 ∧ l1 < 4100) (
          (gd (0 ≤ s 100 l1.toNat ∧ s 100 l1.toNat < 8200) (
          (gd (0 ≤ l1 ∧ l1 < 4100) (
          ((f_218 (s 97 l1.toNat) s).bind fun q4 =>
          (if s 122 ((s 100 l1.toNat).toNat) = ax_w32 q4 then
            j_215_179 (j_215_107 F) l1 s
          else
            (gd (0 ≤ l1 ∧ l1 < 4100) (
            (gd (0 ≤ s 101 l1.toNat ∧ s 101 l1.toNat < 8200) (
            ((some (f_235 (s 89 ((s 101 l1.toNat).toNat)) s)).bind fun q5 =>
            j_215_179 (j_215_107 F) l1 q5))))))))))))))))))))))
set_option maxRecDepth 20000 in
theorem bl_215_107 {L c : Nat} {e : Nat → Nat} : ∀ (F : Nat) (d2 d3 : Option ax_V) (l1 : Int) (s : Sg) (q : Sg), j_215_107 F l1 s = some q → RuP 5 tb_m215 107 [some (.inr (.inr (some 84))), some (.inl l1), d2, d3] [] (hp L s c e) (oV L c e q) := by
  intro F
  induction F with
  | zero =>
    intro d2 d3 l1 s q h
    rw [j_215_107] at h
    cases h
  | succ F ih =>
    intro d2 d3 l1 s q h
    rw [j_215_107] at h
    refine RuP.step (pc' := 108) (ls' := [some (.inr (.inr (some 84))), some (.inl l1), d2, d3]) (st' := [.inl l1]) (h1 := hp L s c e) rfl ?_
    refine RuP.step (pc' := 109) (ls' := [some (.inr (.inr (some 84))), some (.inl l1), d2, d3]) (st' := [.inr (.inr (some 84)), .inl l1]) (h1 := hp L s c e) rfl ?_
    refine RuP.step (pc' := 112) (ls' := [some (.inr (.inr (some 84))), some (.inl l1), d2, d3]) (st' := [.inl (s 84 19), .inl l1]) (h1 := hp L s c e) rfl ?_
    by_cases h0 : s 84 19 ≤ l1
    · rw [if_pos h0] at h
      refine RuP.jy rfl h0 ?_
      exact bl_215_185 _ _ _ _ _ h
    · rw [if_neg h0] at h
      refine RuP.jn rfl h0 ?_
      refine RuP.step (pc' := 116) (ls' := [some (.inr (.inr (some 84))), some (.inl l1), d2, d3]) (st' := [.inr (.inr (some 84))]) (h1 := hp L s c e) rfl ?_
      refine RuP.step (pc' := 119) (ls' := [some (.inr (.inr (some 84))), some (.inl l1), d2, d3]) (st' := [.inr (.inr (some 94))]) (h1 := hp L s c e) rfl ?_
      refine RuP.step (pc' := 120) (ls' := [some (.inr (.inr (some 84))), some (.inl l1), d2, d3]) (st' := [.inl l1, .inr (.inr (some 94))]) (h1 := hp L s c e) rfl ?_
      obtain ⟨b1, h⟩ := gd_some h
      refine RuP.ald (f := fun t => t == 0) (j := l1) (a := 94) rfl rfl b1.1 b1.2 ?_
      refine RuP.step (pc' := 122) (ls' := [some (.inr (.inr (some 84))), some (.inl l1), d2, d3]) (st' := [.inl 2, .inl (s 94 l1.toNat)]) (h1 := hp L s c e) rfl ?_
      by_cases h2 : ¬ (s 94 l1.toNat) = 2
      · rw [if_pos h2] at h
        refine RuP.jy rfl h2 ?_
        exact bl_215_179 ih _ _ _ _ _ h
      · rw [if_neg h2] at h
        refine RuP.jn rfl h2 ?_
        refine RuP.step (pc' := 126) (ls' := [some (.inr (.inr (some 84))), some (.inl l1), d2, d3]) (st' := [.inr (.inr (some 84))]) (h1 := hp L s c e) rfl ?_
        refine RuP.step (pc' := 129) (ls' := [some (.inr (.inr (some 84))), some (.inl l1), d2, d3]) (st' := [.inr (.inr (some 122))]) (h1 := hp L s c e) rfl ?_
        refine RuP.step (pc' := 130) (ls' := [some (.inr (.inr (some 84))), some (.inl l1), d2, d3]) (st' := [.inr (.inr (some 84)), .inr (.inr (some 122))]) (h1 := hp L s c e) rfl ?_
        refine RuP.step (pc' := 133) (ls' := [some (.inr (.inr (some 84))), some (.inl l1), d2, d3]) (st' := [.inr (.inr (some 100)), .inr (.inr (some 122))]) (h1 := hp L s c e) rfl ?_
        refine RuP.step (pc' := 134) (ls' := [some (.inr (.inr (some 84))), some (.inl l1), d2, d3]) (st' := [.inl l1, .inr (.inr (some 100)), .inr (.inr (some 122))]) (h1 := hp L s c e) rfl ?_
        obtain ⟨b3, h⟩ := gd_some h
        refine RuP.ald (f := fun t => t == 0) (j := l1) (a := 100) rfl rfl b3.1 b3.2 ?_
        obtain ⟨b4, h⟩ := gd_some h
        refine RuP.ald (f := fun t => t == 0) (j := s 100 l1.toNat) (a := 122) rfl rfl b4.1 b4.2 ?_
        by_cases h5 : s 122 ((s 100 l1.toNat).toNat) ≤ 0
        · rw [if_pos h5] at h
          refine RuP.jy rfl h5 ?_
          exact bl_215_179 ih _ _ _ _ _ h
        · rw [if_neg h5] at h
          refine RuP.jn rfl h5 ?_
          refine RuP.step (pc' := 140) (ls' := [some (.inr (.inr (some 84))), some (.inl l1), d2, d3]) (st' := [.inr (.inr (some 84))]) (h1 := hp L s c e) rfl ?_
          refine RuP.step (pc' := 143) (ls' := [some (.inr (.inr (some 84))), some (.inl l1), d2, d3]) (st' := [.inr (.inr (some 122))]) (h1 := hp L s c e) rfl ?_
          refine RuP.step (pc' := 144) (ls' := [some (.inr (.inr (some 84))), some (.inl l1), d2, d3]) (st' := [.inr (.inr (some 84)), .inr (.inr (some 122))]) (h1 := hp L s c e) rfl ?_
          refine RuP.step (pc' := 147) (ls' := [some (.inr (.inr (some 84))), some (.inl l1), d2, d3]) (st' := [.inr (.inr (some 100)), .inr (.inr (some 122))]) (h1 := hp L s c e) rfl ?_
          refine RuP.step (pc' := 148) (ls' := [some (.inr (.inr (some 84))), some (.inl l1), d2, d3]) (st' := [.inl l1, .inr (.inr (some 100)), .inr (.inr (some 122))]) (h1 := hp L s c e) rfl ?_
          obtain ⟨b6, h⟩ := gd_some h
          refine RuP.ald (f := fun t => t == 0) (j := l1) (a := 100) rfl rfl b6.1 b6.2 ?_
          obtain ⟨b7, h⟩ := gd_some h
          refine RuP.ald (f := fun t => t == 0) (j := s 100 l1.toNat) (a := 122) rfl rfl b7.1 b7.2 ?_
          refine RuP.step (pc' := 151) (ls' := [some (.inr (.inr (some 84))), some (.inl l1), d2, d3]) (st' := [.inr (.inr (some 84)), .inl (s 122 ((s 100 l1.toNat).toNat))]) (h1 := hp L s c e) rfl ?_
          refine RuP.step (pc' := 152) (ls' := [some (.inr (.inr (some 84))), some (.inl l1), d2, d3]) (st' := [.inr (.inr (some 84)), .inr (.inr (some 84)), .inl (s 122 ((s 100 l1.toNat).toNat))]) (h1 := hp L s c e) rfl ?_
          refine RuP.step (pc' := 155) (ls' := [some (.inr (.inr (some 84))), some (.inl l1), d2, d3]) (st' := [.inr (.inr (some 97)), .inr (.inr (some 84)), .inl (s 122 ((s 100 l1.toNat).toNat))]) (h1 := hp L s c e) rfl ?_
          refine RuP.step (pc' := 156) (ls' := [some (.inr (.inr (some 84))), some (.inl l1), d2, d3]) (st' := [.inl l1, .inr (.inr (some 97)), .inr (.inr (some 84)), .inl (s 122 ((s 100 l1.toNat).toNat))]) (h1 := hp L s c e) rfl ?_
          obtain ⟨b8, h⟩ := gd_some h
          refine RuP.ald (f := fun t => t == 0) (j := l1) (a := 97) rfl rfl b8.1 b8.2 ?_
          obtain ⟨q4, h1, h⟩ := bd_some h
          refine RuP.cJ rfl ((ev_218 h1).up (by decide)) ?_
          refine RuP.step (pc' := 161) (ls' := [some (.inr (.inr (some 84))), some (.inl l1), d2, d3]) (st' := [.inl (ax_w32 q4), .inl (s 122 ((s 100 l1.toNat).toNat))]) (h1 := hp L s c e) rfl ?_
          by_cases h9 : s 122 ((s 100 l1.toNat).toNat) = ax_w32 q4
          · rw [if_pos h9] at h
            refine RuP.jy rfl h9 ?_
            exact bl_215_179 ih _ _ _ _ _ h
          · rw [if_neg h9] at h
            refine RuP.jn rfl h9 ?_
            refine RuP.step (pc' := 165) (ls' := [some (.inr (.inr (some 84))), some (.inl l1), d2, d3]) (st' := [.inr (.inr (some 84))]) (h1 := hp L s c e) rfl ?_
            refine RuP.step (pc' := 166) (ls' := [some (.inr (.inr (some 84))), some (.inl l1), d2, d3]) (st' := [.inr (.inr (some 84)), .inr (.inr (some 84))]) (h1 := hp L s c e) rfl ?_
            refine RuP.step (pc' := 169) (ls' := [some (.inr (.inr (some 84))), some (.inl l1), d2, d3]) (st' := [.inr (.inr (some 89)), .inr (.inr (some 84))]) (h1 := hp L s c e) rfl ?_
            refine RuP.step (pc' := 170) (ls' := [some (.inr (.inr (some 84))), some (.inl l1), d2, d3]) (st' := [.inr (.inr (some 84)), .inr (.inr (some 89)), .inr (.inr (some 84))]) (h1 := hp L s c e) rfl ?_
            refine RuP.step (pc' := 173) (ls' := [some (.inr (.inr (some 84))), some (.inl l1), d2, d3]) (st' := [.inr (.inr (some 101)), .inr (.inr (some 89)), .inr (.inr (some 84))]) (h1 := hp L s c e) rfl ?_
            refine RuP.step (pc' := 174) (ls' := [some (.inr (.inr (some 84))), some (.inl l1), d2, d3]) (st' := [.inl l1, .inr (.inr (some 101)), .inr (.inr (some 89)), .inr (.inr (some 84))]) (h1 := hp L s c e) rfl ?_
            obtain ⟨b10, h⟩ := gd_some h
            refine RuP.ald (f := fun t => t == 0) (j := l1) (a := 101) rfl rfl b10.1 b10.2 ?_
            obtain ⟨b11, h⟩ := gd_some h
            refine RuP.ald (f := fun t => t == 0) (j := s 101 l1.toNat) (a := 89) rfl rfl b11.1 b11.2 ?_
            obtain ⟨q5, h1, h⟩ := bd_some h
            refine RuP.cVe h1 rfl (EvP.v ((ev_235 (s 89 ((s 101 l1.toNat).toNat))).up (by decide))) ?_
            exact bl_215_179 ih _ _ _ _ _ h
noncomputable def j_215_105 (s : Sg) : Option Sg :=
  j_215_107 FU 0 s
set_option maxRecDepth 20000 in
theorem bl_215_105 {L c : Nat} {e : Nat → Nat} : ∀ (d2 d3 : Option ax_V) (z1 : Int) (s : Sg) (q : Sg), j_215_105 s = some q → RuP 5 tb_m215 105 [some (.inr (.inr (some 84))), some (.inl z1), d2, d3] [] (hp L s c e) (oV L c e q) := by
  intro d2 d3 z1 s q h
  unfold j_215_105 at h
  refine RuP.step (pc' := 106) (ls' := [some (.inr (.inr (some 84))), some (.inl z1), d2, d3]) (st' := [.inl 0]) (h1 := hp L s c e) rfl ?_
  refine RuP.step (pc' := 107) (ls' := [some (.inr (.inr (some 84))), some (.inl 0), d2, d3]) (st' := []) (h1 := hp L s c e) rfl ?_
  exact bl_215_107 FU _ _ _ _ _ h
noncomputable def j_215_99 (k2 : (Int → Sg → Option Sg)) (l1 : Int) (s : Sg) : Option Sg :=
  k2 (ax_w32 (l1 + 1)) s
set_option maxRecDepth 20000 in
theorem bl_215_99 {L c : Nat} {e : Nat → Nat} {k2 : (Int → Sg → Option Sg)} (hk2 : ∀ (d2 d3 : Option ax_V) (l1 : Int) (s : Sg) (q : Sg), k2 l1 s = some q → RuP 5 tb_m215 2 [some (.inr (.inr (some 84))), some (.inl l1), d2, d3] [] (hp L s c e) (oV L c e q)) : ∀ (z2 z3 : Int) (l1 : Int) (s : Sg) (q : Sg), j_215_99 k2 l1 s = some q → RuP 5 tb_m215 99 [some (.inr (.inr (some 84))), some (.inl l1), some (.inl z2), some (.inl z3)] [] (hp L s c e) (oV L c e q) := by
  intro z2 z3 l1 s q h
  unfold j_215_99 at h
  refine RuP.step (pc' := 102) (ls' := [some (.inr (.inr (some 84))), some (.inl (ax_w32 (l1 + 1))), some (.inl z2), some (.inl z3)]) (st' := []) (h1 := hp L s c e) rfl ?_
  refine RuP.step (pc' := 2) (ls' := [some (.inr (.inr (some 84))), some (.inl (ax_w32 (l1 + 1))), some (.inl z2), some (.inl z3)]) (st' := []) (h1 := hp L s c e) rfl ?_
  exact hk2 _ _ _ _ _ h
noncomputable def j_215_68 (k2 : (Int → Sg → Option Sg)) (l1 l2 t0 t1 : Int) (s : Sg) : Option Sg :=
  (gd (0 ≤ t1 ∧ t1 < 8200) (
  (if l2 = 0 then
    j_215_99 k2 l1 (ax_u2 s 122 t1.toNat t0)
  else
    (gd (0 ≤ l1 ∧ l1 < 8200) (
    (if ¬ ((ax_u2 s 122 t1.toNat t0) 122 (l1.toNat)) = (-2) then
      j_215_99 k2 l1 (ax_u2 s 122 t1.toNat t0)
    else
      (gd (0 ≤ l1 ∧ l1 < 8200) (
      (gd (0 ≤ s 117 l1.toNat ∧ s 117 l1.toNat < 8200) (
      ((some (f_235 (s 89 ((s 117 l1.toNat).toNat)) (ax_u2 s 122 t1.toNat t0))).bind fun q6 =>
      j_215_99 k2 l1 q6)))))))))))
set_option maxRecDepth 20000 in
theorem bl_215_68 {L c : Nat} {e : Nat → Nat} {k2 : (Int → Sg → Option Sg)} (hk2 : ∀ (d2 d3 : Option ax_V) (l1 : Int) (s : Sg) (q : Sg), k2 l1 s = some q → RuP 5 tb_m215 2 [some (.inr (.inr (some 84))), some (.inl l1), d2, d3] [] (hp L s c e) (oV L c e q)) : ∀ (z3 : Int) (l1 l2 t0 t1 : Int) (s : Sg) (q : Sg), j_215_68 k2 l1 l2 t0 t1 s = some q → RuP 5 tb_m215 68 [some (.inr (.inr (some 84))), some (.inl l1), some (.inl l2), some (.inl z3)] [.inl t0, .inl t1, .inr (.inr (some 122))] (hp L s c e) (oV L c e q) := by
  intro z3 l1 l2 t0 t1 s q h
  unfold j_215_68 at h
  obtain ⟨b0, h⟩ := gd_some h
  refine RuP.ast (f := fun t => t == 0) (j := t1) (a := 122) rfl rfl (by decide) rfl rfl b0.1 b0.2 ?_
  refine RuP.step (pc' := 70) (ls' := [some (.inr (.inr (some 84))), some (.inl l1), some (.inl l2), some (.inl z3)]) (st' := [.inl l2]) (h1 := hp L (ax_u2 s 122 t1.toNat t0) c e) rfl ?_
  by_cases h1 : l2 = 0
  · rw [if_pos h1] at h
    refine RuP.jy rfl h1 ?_
    exact bl_215_99 hk2 _ _ _ _ _ h
  · rw [if_neg h1] at h
    refine RuP.jn rfl h1 ?_
    refine RuP.step (pc' := 74) (ls' := [some (.inr (.inr (some 84))), some (.inl l1), some (.inl l2), some (.inl z3)]) (st' := [.inr (.inr (some 84))]) (h1 := hp L (ax_u2 s 122 t1.toNat t0) c e) rfl ?_
    refine RuP.step (pc' := 77) (ls' := [some (.inr (.inr (some 84))), some (.inl l1), some (.inl l2), some (.inl z3)]) (st' := [.inr (.inr (some 122))]) (h1 := hp L (ax_u2 s 122 t1.toNat t0) c e) rfl ?_
    refine RuP.step (pc' := 78) (ls' := [some (.inr (.inr (some 84))), some (.inl l1), some (.inl l2), some (.inl z3)]) (st' := [.inl l1, .inr (.inr (some 122))]) (h1 := hp L (ax_u2 s 122 t1.toNat t0) c e) rfl ?_
    obtain ⟨b2, h⟩ := gd_some h
    refine RuP.ald (f := fun t => t == 0) (j := l1) (a := 122) rfl rfl b2.1 b2.2 ?_
    refine RuP.step (pc' := 81) (ls' := [some (.inr (.inr (some 84))), some (.inl l1), some (.inl l2), some (.inl z3)]) (st' := [.inl (-2), .inl ((ax_u2 s 122 t1.toNat t0) 122 (l1.toNat))]) (h1 := hp L (ax_u2 s 122 t1.toNat t0) c e) rfl ?_
    by_cases h3 : ¬ ((ax_u2 s 122 t1.toNat t0) 122 (l1.toNat)) = (-2)
    · rw [if_pos h3] at h
      refine RuP.jy rfl h3 ?_
      exact bl_215_99 hk2 _ _ _ _ _ h
    · rw [if_neg h3] at h
      refine RuP.jn rfl h3 ?_
      refine RuP.step (pc' := 85) (ls' := [some (.inr (.inr (some 84))), some (.inl l1), some (.inl l2), some (.inl z3)]) (st' := [.inr (.inr (some 84))]) (h1 := hp L (ax_u2 s 122 t1.toNat t0) c e) rfl ?_
      refine RuP.step (pc' := 86) (ls' := [some (.inr (.inr (some 84))), some (.inl l1), some (.inl l2), some (.inl z3)]) (st' := [.inr (.inr (some 84)), .inr (.inr (some 84))]) (h1 := hp L (ax_u2 s 122 t1.toNat t0) c e) rfl ?_
      refine RuP.step (pc' := 89) (ls' := [some (.inr (.inr (some 84))), some (.inl l1), some (.inl l2), some (.inl z3)]) (st' := [.inr (.inr (some 89)), .inr (.inr (some 84))]) (h1 := hp L (ax_u2 s 122 t1.toNat t0) c e) rfl ?_
      refine RuP.step (pc' := 90) (ls' := [some (.inr (.inr (some 84))), some (.inl l1), some (.inl l2), some (.inl z3)]) (st' := [.inr (.inr (some 84)), .inr (.inr (some 89)), .inr (.inr (some 84))]) (h1 := hp L (ax_u2 s 122 t1.toNat t0) c e) rfl ?_
      refine RuP.step (pc' := 93) (ls' := [some (.inr (.inr (some 84))), some (.inl l1), some (.inl l2), some (.inl z3)]) (st' := [.inr (.inr (some 117)), .inr (.inr (some 89)), .inr (.inr (some 84))]) (h1 := hp L (ax_u2 s 122 t1.toNat t0) c e) rfl ?_
      refine RuP.step (pc' := 94) (ls' := [some (.inr (.inr (some 84))), some (.inl l1), some (.inl l2), some (.inl z3)]) (st' := [.inl l1, .inr (.inr (some 117)), .inr (.inr (some 89)), .inr (.inr (some 84))]) (h1 := hp L (ax_u2 s 122 t1.toNat t0) c e) rfl ?_
      obtain ⟨b4, h⟩ := gd_some h
      refine RuP.ald (f := fun t => t == 0) (j := l1) (a := 117) rfl rfl b4.1 b4.2 ?_
      obtain ⟨b5, h⟩ := gd_some h
      refine RuP.ald (f := fun t => t == 0) (j := s 117 l1.toNat) (a := 89) rfl rfl b5.1 b5.2 ?_
      obtain ⟨q6, h1, h⟩ := bd_some h
      refine RuP.cVe h1 rfl (EvP.v ((ev_235 (s 89 ((s 117 l1.toNat).toNat))).up (by decide))) ?_
      exact bl_215_99 hk2 _ _ _ _ _ h
noncomputable def j_215_49 (k2 : (Int → Sg → Option Sg)) (l1 l2 : Int) (s : Sg) : Option Sg :=
  (if l2 = 0 then
    j_215_68 k2 l1 l2 (-2) l1 s
  else
    ((f_247 l1 s).bind fun q7 =>
    j_215_68 k2 l1 l2 q7 l1 s))
set_option maxRecDepth 20000 in
theorem bl_215_49 {L c : Nat} {e : Nat → Nat} {k2 : (Int → Sg → Option Sg)} (hk2 : ∀ (d2 d3 : Option ax_V) (l1 : Int) (s : Sg) (q : Sg), k2 l1 s = some q → RuP 5 tb_m215 2 [some (.inr (.inr (some 84))), some (.inl l1), d2, d3] [] (hp L s c e) (oV L c e q)) : ∀ (z3 : Int) (l1 l2 : Int) (s : Sg) (q : Sg), j_215_49 k2 l1 l2 s = some q → RuP 5 tb_m215 49 [some (.inr (.inr (some 84))), some (.inl l1), some (.inl l2), some (.inl z3)] [] (hp L s c e) (oV L c e q) := by
  intro z3 l1 l2 s q h
  unfold j_215_49 at h
  refine RuP.step (pc' := 50) (ls' := [some (.inr (.inr (some 84))), some (.inl l1), some (.inl l2), some (.inl z3)]) (st' := [.inr (.inr (some 84))]) (h1 := hp L s c e) rfl ?_
  refine RuP.step (pc' := 53) (ls' := [some (.inr (.inr (some 84))), some (.inl l1), some (.inl l2), some (.inl z3)]) (st' := [.inr (.inr (some 122))]) (h1 := hp L s c e) rfl ?_
  refine RuP.step (pc' := 54) (ls' := [some (.inr (.inr (some 84))), some (.inl l1), some (.inl l2), some (.inl z3)]) (st' := [.inl l1, .inr (.inr (some 122))]) (h1 := hp L s c e) rfl ?_
  refine RuP.step (pc' := 55) (ls' := [some (.inr (.inr (some 84))), some (.inl l1), some (.inl l2), some (.inl z3)]) (st' := [.inl l2, .inl l1, .inr (.inr (some 122))]) (h1 := hp L s c e) rfl ?_
  by_cases h0 : l2 = 0
  · rw [if_pos h0] at h
    refine RuP.jy rfl h0 ?_
    refine RuP.step (pc' := 68) (ls' := [some (.inr (.inr (some 84))), some (.inl l1), some (.inl l2), some (.inl z3)]) (st' := [.inl (-2), .inl l1, .inr (.inr (some 122))]) (h1 := hp L s c e) rfl ?_
    exact bl_215_68 hk2 _ _ _ _ _ _ _ h
  · rw [if_neg h0] at h
    refine RuP.jn rfl h0 ?_
    refine RuP.step (pc' := 59) (ls' := [some (.inr (.inr (some 84))), some (.inl l1), some (.inl l2), some (.inl z3)]) (st' := [.inr (.inr (some 84)), .inl l1, .inr (.inr (some 122))]) (h1 := hp L s c e) rfl ?_
    refine RuP.step (pc' := 60) (ls' := [some (.inr (.inr (some 84))), some (.inl l1), some (.inl l2), some (.inl z3)]) (st' := [.inl l1, .inr (.inr (some 84)), .inl l1, .inr (.inr (some 122))]) (h1 := hp L s c e) rfl ?_
    obtain ⟨q7, h1, h⟩ := bd_some h
    refine RuP.cI rfl ((ev_247 h1).up (by decide)) ?_
    refine RuP.step (pc' := 68) (ls' := [some (.inr (.inr (some 84))), some (.inl l1), some (.inl l2), some (.inl z3)]) (st' := [.inl q7, .inl l1, .inr (.inr (some 122))]) (h1 := hp L s c e) rfl ?_
    exact bl_215_68 hk2 _ _ _ _ _ _ _ h
noncomputable def j_215_42 (k2 : (Int → Sg → Option Sg)) (k14 : (Int → Int → Int → Sg → Option Sg)) (l1 l3 t0 : Int) (s : Sg) : Option Sg :=
  k14 l1 t0 (ax_w32 (l3 + 1)) s
set_option maxRecDepth 20000 in
theorem bl_215_42 {L c : Nat} {e : Nat → Nat} {k2 : (Int → Sg → Option Sg)} {k14 : (Int → Int → Int → Sg → Option Sg)} (hk2 : ∀ (d2 d3 : Option ax_V) (l1 : Int) (s : Sg) (q : Sg), k2 l1 s = some q → RuP 5 tb_m215 2 [some (.inr (.inr (some 84))), some (.inl l1), d2, d3] [] (hp L s c e) (oV L c e q)) (hk14 : ∀ (l1 l2 l3 : Int) (s : Sg) (q : Sg), k14 l1 l2 l3 s = some q → RuP 5 tb_m215 14 [some (.inr (.inr (some 84))), some (.inl l1), some (.inl l2), some (.inl l3)] [] (hp L s c e) (oV L c e q)) : ∀ (z2 : Int) (l1 l3 t0 : Int) (s : Sg) (q : Sg), j_215_42 k2 k14 l1 l3 t0 s = some q → RuP 5 tb_m215 42 [some (.inr (.inr (some 84))), some (.inl l1), some (.inl z2), some (.inl l3)] [.inl t0] (hp L s c e) (oV L c e q) := by
  intro z2 l1 l3 t0 s q h
  unfold j_215_42 at h
  refine RuP.step (pc' := 43) (ls' := [some (.inr (.inr (some 84))), some (.inl l1), some (.inl t0), some (.inl l3)]) (st' := []) (h1 := hp L s c e) rfl ?_
  refine RuP.step (pc' := 46) (ls' := [some (.inr (.inr (some 84))), some (.inl l1), some (.inl t0), some (.inl (ax_w32 (l3 + 1)))]) (st' := []) (h1 := hp L s c e) rfl ?_
  refine RuP.step (pc' := 14) (ls' := [some (.inr (.inr (some 84))), some (.inl l1), some (.inl t0), some (.inl (ax_w32 (l3 + 1)))]) (st' := []) (h1 := hp L s c e) rfl ?_
  exact hk14 _ _ _ _ _ h
noncomputable def j_215_41 (k2 : (Int → Sg → Option Sg)) (k14 : (Int → Int → Int → Sg → Option Sg)) (l1 l3 : Int) (s : Sg) : Option Sg :=
  j_215_42 k2 k14 l1 l3 0 s
set_option maxRecDepth 20000 in
theorem bl_215_41 {L c : Nat} {e : Nat → Nat} {k2 : (Int → Sg → Option Sg)} {k14 : (Int → Int → Int → Sg → Option Sg)} (hk2 : ∀ (d2 d3 : Option ax_V) (l1 : Int) (s : Sg) (q : Sg), k2 l1 s = some q → RuP 5 tb_m215 2 [some (.inr (.inr (some 84))), some (.inl l1), d2, d3] [] (hp L s c e) (oV L c e q)) (hk14 : ∀ (l1 l2 l3 : Int) (s : Sg) (q : Sg), k14 l1 l2 l3 s = some q → RuP 5 tb_m215 14 [some (.inr (.inr (some 84))), some (.inl l1), some (.inl l2), some (.inl l3)] [] (hp L s c e) (oV L c e q)) : ∀ (z2 : Int) (l1 l3 : Int) (s : Sg) (q : Sg), j_215_41 k2 k14 l1 l3 s = some q → RuP 5 tb_m215 41 [some (.inr (.inr (some 84))), some (.inl l1), some (.inl z2), some (.inl l3)] [] (hp L s c e) (oV L c e q) := by
  intro z2 l1 l3 s q h
  unfold j_215_41 at h
  refine RuP.step (pc' := 42) (ls' := [some (.inr (.inr (some 84))), some (.inl l1), some (.inl z2), some (.inl l3)]) (st' := [.inl 0]) (h1 := hp L s c e) rfl ?_
  exact bl_215_42 hk2 hk14 _ _ _ _ _ _ h
noncomputable def j_215_14 (k2 : (Int → Sg → Option Sg)) : Nat → Int → Int → Int → Sg → Option Sg
  | 0, _, _, _, _ => none
  | F + 1, l1, l2, l3, s =>
    (gd (0 ≤ l1 ∧ l1 < 8200) (
    (if s 120 l1.toNat ≤ l3 then
      j_215_49 k2 l1 l2 s
    else
      (if l2 = 0 then
        j_215_41 k2 (j_215_14 k2 F) l1 l3 s
      else
        (gd (g_246 l1 l3 s) (
        j_215_42 k2 (j_215_14 k2 F) l1 l3 ((if f_246 l1 l3 s ≤ 0 then 0 else 1) : Int) s))))))
set_option maxRecDepth 20000 in
theorem bl_215_14 {L c : Nat} {e : Nat → Nat} {k2 : (Int → Sg → Option Sg)} (hk2 : ∀ (d2 d3 : Option ax_V) (l1 : Int) (s : Sg) (q : Sg), k2 l1 s = some q → RuP 5 tb_m215 2 [some (.inr (.inr (some 84))), some (.inl l1), d2, d3] [] (hp L s c e) (oV L c e q)) : ∀ (F : Nat) (l1 l2 l3 : Int) (s : Sg) (q : Sg), j_215_14 k2 F l1 l2 l3 s = some q → RuP 5 tb_m215 14 [some (.inr (.inr (some 84))), some (.inl l1), some (.inl l2), some (.inl l3)] [] (hp L s c e) (oV L c e q) := by
  intro F
  induction F with
  | zero =>
    intro l1 l2 l3 s q h
    rw [j_215_14] at h
    cases h
  | succ F ih =>
    intro l1 l2 l3 s q h
    rw [j_215_14] at h
    refine RuP.step (pc' := 15) (ls' := [some (.inr (.inr (some 84))), some (.inl l1), some (.inl l2), some (.inl l3)]) (st' := [.inl l3]) (h1 := hp L s c e) rfl ?_
    refine RuP.step (pc' := 16) (ls' := [some (.inr (.inr (some 84))), some (.inl l1), some (.inl l2), some (.inl l3)]) (st' := [.inr (.inr (some 84)), .inl l3]) (h1 := hp L s c e) rfl ?_
    refine RuP.step (pc' := 19) (ls' := [some (.inr (.inr (some 84))), some (.inl l1), some (.inl l2), some (.inl l3)]) (st' := [.inr (.inr (some 120)), .inl l3]) (h1 := hp L s c e) rfl ?_
    refine RuP.step (pc' := 20) (ls' := [some (.inr (.inr (some 84))), some (.inl l1), some (.inl l2), some (.inl l3)]) (st' := [.inl l1, .inr (.inr (some 120)), .inl l3]) (h1 := hp L s c e) rfl ?_
    obtain ⟨b0, h⟩ := gd_some h
    refine RuP.ald (f := fun t => t == 0) (j := l1) (a := 120) rfl rfl b0.1 b0.2 ?_
    by_cases h1 : s 120 l1.toNat ≤ l3
    · rw [if_pos h1] at h
      refine RuP.jy rfl h1 ?_
      exact bl_215_49 hk2 _ _ _ _ _ h
    · rw [if_neg h1] at h
      refine RuP.jn rfl h1 ?_
      refine RuP.step (pc' := 25) (ls' := [some (.inr (.inr (some 84))), some (.inl l1), some (.inl l2), some (.inl l3)]) (st' := [.inl l2]) (h1 := hp L s c e) rfl ?_
      by_cases h2 : l2 = 0
      · rw [if_pos h2] at h
        refine RuP.jy rfl h2 ?_
        exact bl_215_41 hk2 ih _ _ _ _ _ h
      · rw [if_neg h2] at h
        refine RuP.jn rfl h2 ?_
        refine RuP.step (pc' := 29) (ls' := [some (.inr (.inr (some 84))), some (.inl l1), some (.inl l2), some (.inl l3)]) (st' := [.inr (.inr (some 84))]) (h1 := hp L s c e) rfl ?_
        refine RuP.step (pc' := 30) (ls' := [some (.inr (.inr (some 84))), some (.inl l1), some (.inl l2), some (.inl l3)]) (st' := [.inl l1, .inr (.inr (some 84))]) (h1 := hp L s c e) rfl ?_
        refine RuP.step (pc' := 31) (ls' := [some (.inr (.inr (some 84))), some (.inl l1), some (.inl l2), some (.inl l3)]) (st' := [.inl l3, .inl l1, .inr (.inr (some 84))]) (h1 := hp L s c e) rfl ?_
        obtain ⟨b3, h⟩ := gd_some h
        refine RuP.cI rfl (EvP.i ((ev_246 l1 l3 b3).up (by decide))) ?_
        have J5 : ∀ v4_0 : Int, v4_0 = ((if f_246 l1 l3 s ≤ 0 then 0 else 1) : Int) → RuP 5 tb_m215 42 [some (.inr (.inr (some 84))), some (.inl l1), some (.inl l2), some (.inl l3)] [.inl v4_0] (hp L s c e) (oV L c e q) := by
          intro v4_0 ev4_0
          subst ev4_0
          exact bl_215_42 hk2 ih _ _ _ _ _ _ h
        by_cases h5 : f_246 l1 l3 s ≤ 0
        · refine RuP.jy rfl h5 ?_
          refine RuP.step (pc' := 42) (ls' := [some (.inr (.inr (some 84))), some (.inl l1), some (.inl l2), some (.inl l3)]) (st' := [.inl 0]) (h1 := hp L s c e) rfl ?_
          exact J5 _ (by simp only [if_pos h5])
        · refine RuP.jn rfl h5 ?_
          refine RuP.step (pc' := 38) (ls' := [some (.inr (.inr (some 84))), some (.inl l1), some (.inl l2), some (.inl l3)]) (st' := [.inl 1]) (h1 := hp L s c e) rfl ?_
          refine RuP.step (pc' := 42) (ls' := [some (.inr (.inr (some 84))), some (.inl l1), some (.inl l2), some (.inl l3)]) (st' := [.inl 1]) (h1 := hp L s c e) rfl ?_
          exact J5 _ (by simp only [if_neg h5])
noncomputable def j_215_2 : Nat → Int → Sg → Option Sg
  | 0, _, _ => none
  | F + 1, l1, s =>
    (if s 84 47 ≤ l1 then
      j_215_105 s
    else
      j_215_14 (j_215_2 F) FU l1 1 0 s)
set_option maxRecDepth 20000 in
theorem bl_215_2 {L c : Nat} {e : Nat → Nat} : ∀ (F : Nat) (d2 d3 : Option ax_V) (l1 : Int) (s : Sg) (q : Sg), j_215_2 F l1 s = some q → RuP 5 tb_m215 2 [some (.inr (.inr (some 84))), some (.inl l1), d2, d3] [] (hp L s c e) (oV L c e q) := by
  intro F
  induction F with
  | zero =>
    intro d2 d3 l1 s q h
    rw [j_215_2] at h
    cases h
  | succ F ih =>
    intro d2 d3 l1 s q h
    rw [j_215_2] at h
    refine RuP.step (pc' := 3) (ls' := [some (.inr (.inr (some 84))), some (.inl l1), d2, d3]) (st' := [.inl l1]) (h1 := hp L s c e) rfl ?_
    refine RuP.step (pc' := 4) (ls' := [some (.inr (.inr (some 84))), some (.inl l1), d2, d3]) (st' := [.inr (.inr (some 84)), .inl l1]) (h1 := hp L s c e) rfl ?_
    refine RuP.step (pc' := 7) (ls' := [some (.inr (.inr (some 84))), some (.inl l1), d2, d3]) (st' := [.inl (s 84 47), .inl l1]) (h1 := hp L s c e) rfl ?_
    by_cases h0 : s 84 47 ≤ l1
    · rw [if_pos h0] at h
      refine RuP.jy rfl h0 ?_
      exact bl_215_105 _ _ _ _ _ h
    · rw [if_neg h0] at h
      refine RuP.jn rfl h0 ?_
      refine RuP.step (pc' := 11) (ls' := [some (.inr (.inr (some 84))), some (.inl l1), d2, d3]) (st' := [.inl 1]) (h1 := hp L s c e) rfl ?_
      refine RuP.step (pc' := 12) (ls' := [some (.inr (.inr (some 84))), some (.inl l1), some (.inl 1), d3]) (st' := []) (h1 := hp L s c e) rfl ?_
      refine RuP.step (pc' := 13) (ls' := [some (.inr (.inr (some 84))), some (.inl l1), some (.inl 1), d3]) (st' := [.inl 0]) (h1 := hp L s c e) rfl ?_
      refine RuP.step (pc' := 14) (ls' := [some (.inr (.inr (some 84))), some (.inl l1), some (.inl 1), some (.inl 0)]) (st' := []) (h1 := hp L s c e) rfl ?_
      exact bl_215_14 ih FU _ _ _ _ _ h
noncomputable def f_215 (s : Sg) : Option Sg :=
  j_215_2 FU 0 s
set_option maxRecDepth 20000 in
theorem ev_215 {L c : Nat} {e : Nat → Nat} {s : Sg} {q : Sg} (h : f_215 s = some q) : EvP 6 215 [.inr (.inr (some 84))] (hp L s c e) (oV L c e q) := by
  unfold f_215 at h
  refine EvP.of (μ := tb_m215) (ls := [some (.inr (.inr (some 84))), none, none, none]) rfl (Nat.le_of_ble_eq_true rfl) rfl ?_
  refine RuP.step (pc' := 1) (ls' := [some (.inr (.inr (some 84))), none, none, none]) (st' := [.inl 0]) (h1 := hp L s c e) rfl ?_
  refine RuP.step (pc' := 2) (ls' := [some (.inr (.inr (some 84))), some (.inl 0), none, none]) (st' := []) (h1 := hp L s c e) rfl ?_
  exact bl_215_2 FU _ _ _ _ _ h
