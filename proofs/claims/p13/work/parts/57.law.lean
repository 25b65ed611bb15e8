/-! THE LAW'S LOOP, by program. -/
noncomputable def j_279_469 (L : Nat) (k23 : (Int → Sg → Option Int)) (l4 : Int) (s : Sg) : Option Int :=
  k23 (ax_w32 (l4 + 5)) s
set_option maxRecDepth 20000 in
theorem bl_279_469 {L B bF : Nat} {k23 : (Int → Sg → Option Int)} (hB : bF ≤ B) (hk23 : ∀ (c : Nat) (e : Nat → Nat) (d5 d6 d7 : Option ax_V) (l4 : Int) (s : Sg) (q : Int), c ≤ bF → k23 l4 s = some q → RuP 225 tb_m279 23 [some (.inr (.inr (some 0))), some (.inr (.inr (some 27))), some (.inr (.inr (some 84))), some (.inr (.inr (some 136))), some (.inl l4), d5, d6, d7] [] (hp L s c e) (oL L B q)) : ∀ (c : Nat) (e : Nat → Nat) (d5 d6 d7 : Option ax_V) (l4 : Int) (s : Sg) (q : Int), c ≤ bF → j_279_469 L k23 l4 s = some q → RuP 225 tb_m279 469 [some (.inr (.inr (some 0))), some (.inr (.inr (some 27))), some (.inr (.inr (some 84))), some (.inr (.inr (some 136))), some (.inl l4), d5, d6, d7] [] (hp L s c e) (oL L B q) := by
  intro c e d5 d6 d7 l4 s q hc h
  unfold j_279_469 at h
  refine RuP.step (pc' := 472) (ls' := [some (.inr (.inr (some 0))), some (.inr (.inr (some 27))), some (.inr (.inr (some 84))), some (.inr (.inr (some 136))), some (.inl (ax_w32 (l4 + 5))), d5, d6, d7]) (st' := []) (h1 := hp L s c e) rfl ?_
  refine RuP.step (pc' := 23) (ls' := [some (.inr (.inr (some 0))), some (.inr (.inr (some 27))), some (.inr (.inr (some 84))), some (.inr (.inr (some 136))), some (.inl (ax_w32 (l4 + 5))), d5, d6, d7]) (st' := []) (h1 := hp L s c e) rfl ?_
  exact hk23 _ _ _ _ _ _ _ _ (by omega) h
noncomputable def j_279_129 (L : Nat) (k23 : (Int → Sg → Option Int)) (l4 t0 : Int) (s : Sg) : Option Int :=
  (gd (0 ≤ ax_w32 (l4 + 1) ∧ ax_w32 (l4 + 1) < L) (
  (gd (0 ≤ ax_w32 (l4 + 2) ∧ ax_w32 (l4 + 2) < L) (
  (gd (0 ≤ ax_w32 (l4 + 3) ∧ ax_w32 (l4 + 3) < L) (
  (gd (0 ≤ ax_w32 (l4 + 4) ∧ ax_w32 (l4 + 4) < L) (
  ((f_193 (s 0 ((ax_w32 (l4 + 1)).toNat)) (s 0 ((ax_w32 (l4 + 2)).toNat)) (s 0 ((ax_w32 (l4 + 3)).toNat)) (s 0 ((ax_w32 (l4 + 4)).toNat)) s).bind fun q2 =>
  j_279_469 L k23 l4 q2.2)))))))))
set_option maxRecDepth 20000 in
theorem bl_279_129 {L B bF : Nat} {k23 : (Int → Sg → Option Int)} (hB : bF ≤ B) (hk23 : ∀ (c : Nat) (e : Nat → Nat) (d5 d6 d7 : Option ax_V) (l4 : Int) (s : Sg) (q : Int), c ≤ bF → k23 l4 s = some q → RuP 225 tb_m279 23 [some (.inr (.inr (some 0))), some (.inr (.inr (some 27))), some (.inr (.inr (some 84))), some (.inr (.inr (some 136))), some (.inl l4), d5, d6, d7] [] (hp L s c e) (oL L B q)) : ∀ (c : Nat) (e : Nat → Nat) (d5 d6 d7 : Option ax_V) (l4 t0 : Int) (s : Sg) (q : Int), c ≤ bF → j_279_129 L k23 l4 t0 s = some q → RuP 225 tb_m279 129 [some (.inr (.inr (some 0))), some (.inr (.inr (some 27))), some (.inr (.inr (some 84))), some (.inr (.inr (some 136))), some (.inl l4), d5, d6, d7] [.inl t0] (hp L s c e) (oL L B q) := by
  intro c e d5 d6 d7 l4 t0 s q hc h
  unfold j_279_129 at h
  refine RuP.step (pc' := 131) (ls' := [some (.inr (.inr (some 0))), some (.inr (.inr (some 27))), some (.inr (.inr (some 84))), some (.inr (.inr (some 136))), some (.inl l4), some (.inl t0), d6, d7]) (st' := []) (h1 := hp L s c e) rfl ?_
  refine RuP.step (pc' := 132) (ls' := [some (.inr (.inr (some 0))), some (.inr (.inr (some 27))), some (.inr (.inr (some 84))), some (.inr (.inr (some 136))), some (.inl l4), some (.inl t0), d6, d7]) (st' := [.inr (.inr (some 84))]) (h1 := hp L s c e) rfl ?_
  refine RuP.step (pc' := 133) (ls' := [some (.inr (.inr (some 0))), some (.inr (.inr (some 27))), some (.inr (.inr (some 84))), some (.inr (.inr (some 136))), some (.inl l4), some (.inl t0), d6, d7]) (st' := [.inr (.inr (some 0)), .inr (.inr (some 84))]) (h1 := hp L s c e) rfl ?_
  refine RuP.step (pc' := 135) (ls' := [some (.inr (.inr (some 0))), some (.inr (.inr (some 27))), some (.inr (.inr (some 84))), some (.inr (.inr (some 136))), some (.inl l4), some (.inl t0), d6, d7]) (st' := [.inl l4, .inr (.inr (some 0)), .inr (.inr (some 84))]) (h1 := hp L s c e) rfl ?_
  refine RuP.step (pc' := 136) (ls' := [some (.inr (.inr (some 0))), some (.inr (.inr (some 27))), some (.inr (.inr (some 84))), some (.inr (.inr (some 136))), some (.inl l4), some (.inl t0), d6, d7]) (st' := [.inl 1, .inl l4, .inr (.inr (some 0)), .inr (.inr (some 84))]) (h1 := hp L s c e) rfl ?_
  refine RuP.step (pc' := 137) (ls' := [some (.inr (.inr (some 0))), some (.inr (.inr (some 27))), some (.inr (.inr (some 84))), some (.inr (.inr (some 136))), some (.inl l4), some (.inl t0), d6, d7]) (st' := [.inl (ax_w32 (l4 + 1)), .inr (.inr (some 0)), .inr (.inr (some 84))]) (h1 := hp L s c e) rfl ?_
  obtain ⟨b0, h⟩ := gd_some h
  refine RuP.ald (f := fun t => t == 0) (j := ax_w32 (l4 + 1)) (a := 0) rfl rfl b0.1 b0.2 ?_
  refine RuP.step (pc' := 139) (ls' := [some (.inr (.inr (some 0))), some (.inr (.inr (some 27))), some (.inr (.inr (some 84))), some (.inr (.inr (some 136))), some (.inl l4), some (.inl t0), d6, d7]) (st' := [.inr (.inr (some 0)), .inl (s 0 ((ax_w32 (l4 + 1)).toNat)), .inr (.inr (some 84))]) (h1 := hp L s c e) rfl ?_
  refine RuP.step (pc' := 141) (ls' := [some (.inr (.inr (some 0))), some (.inr (.inr (some 27))), some (.inr (.inr (some 84))), some (.inr (.inr (some 136))), some (.inl l4), some (.inl t0), d6, d7]) (st' := [.inl l4, .inr (.inr (some 0)), .inl (s 0 ((ax_w32 (l4 + 1)).toNat)), .inr (.inr (some 84))]) (h1 := hp L s c e) rfl ?_
  refine RuP.step (pc' := 142) (ls' := [some (.inr (.inr (some 0))), some (.inr (.inr (some 27))), some (.inr (.inr (some 84))), some (.inr (.inr (some 136))), some (.inl l4), some (.inl t0), d6, d7]) (st' := [.inl 2, .inl l4, .inr (.inr (some 0)), .inl (s 0 ((ax_w32 (l4 + 1)).toNat)), .inr (.inr (some 84))]) (h1 := hp L s c e) rfl ?_
  refine RuP.step (pc' := 143) (ls' := [some (.inr (.inr (some 0))), some (.inr (.inr (some 27))), some (.inr (.inr (some 84))), some (.inr (.inr (some 136))), some (.inl l4), some (.inl t0), d6, d7]) (st' := [.inl (ax_w32 (l4 + 2)), .inr (.inr (some 0)), .inl (s 0 ((ax_w32 (l4 + 1)).toNat)), .inr (.inr (some 84))]) (h1 := hp L s c e) rfl ?_
  obtain ⟨b1, h⟩ := gd_some h
  refine RuP.ald (f := fun t => t == 0) (j := ax_w32 (l4 + 2)) (a := 0) rfl rfl b1.1 b1.2 ?_
  refine RuP.step (pc' := 145) (ls' := [some (.inr (.inr (some 0))), some (.inr (.inr (some 27))), some (.inr (.inr (some 84))), some (.inr (.inr (some 136))), some (.inl l4), some (.inl t0), d6, d7]) (st' := [.inr (.inr (some 0)), .inl (s 0 ((ax_w32 (l4 + 2)).toNat)), .inl (s 0 ((ax_w32 (l4 + 1)).toNat)), .inr (.inr (some 84))]) (h1 := hp L s c e) rfl ?_
  refine RuP.step (pc' := 147) (ls' := [some (.inr (.inr (some 0))), some (.inr (.inr (some 27))), some (.inr (.inr (some 84))), some (.inr (.inr (some 136))), some (.inl l4), some (.inl t0), d6, d7]) (st' := [.inl l4, .inr (.inr (some 0)), .inl (s 0 ((ax_w32 (l4 + 2)).toNat)), .inl (s 0 ((ax_w32 (l4 + 1)).toNat)), .inr (.inr (some 84))]) (h1 := hp L s c e) rfl ?_
  refine RuP.step (pc' := 148) (ls' := [some (.inr (.inr (some 0))), some (.inr (.inr (some 27))), some (.inr (.inr (some 84))), some (.inr (.inr (some 136))), some (.inl l4), some (.inl t0), d6, d7]) (st' := [.inl 3, .inl l4, .inr (.inr (some 0)), .inl (s 0 ((ax_w32 (l4 + 2)).toNat)), .inl (s 0 ((ax_w32 (l4 + 1)).toNat)), .inr (.inr (some 84))]) (h1 := hp L s c e) rfl ?_
  refine RuP.step (pc' := 149) (ls' := [some (.inr (.inr (some 0))), some (.inr (.inr (some 27))), some (.inr (.inr (some 84))), some (.inr (.inr (some 136))), some (.inl l4), some (.inl t0), d6, d7]) (st' := [.inl (ax_w32 (l4 + 3)), .inr (.inr (some 0)), .inl (s 0 ((ax_w32 (l4 + 2)).toNat)), .inl (s 0 ((ax_w32 (l4 + 1)).toNat)), .inr (.inr (some 84))]) (h1 := hp L s c e) rfl ?_
  obtain ⟨b2, h⟩ := gd_some h
  refine RuP.ald (f := fun t => t == 0) (j := ax_w32 (l4 + 3)) (a := 0) rfl rfl b2.1 b2.2 ?_
  refine RuP.step (pc' := 151) (ls' := [some (.inr (.inr (some 0))), some (.inr (.inr (some 27))), some (.inr (.inr (some 84))), some (.inr (.inr (some 136))), some (.inl l4), some (.inl t0), d6, d7]) (st' := [.inr (.inr (some 0)), .inl (s 0 ((ax_w32 (l4 + 3)).toNat)), .inl (s 0 ((ax_w32 (l4 + 2)).toNat)), .inl (s 0 ((ax_w32 (l4 + 1)).toNat)), .inr (.inr (some 84))]) (h1 := hp L s c e) rfl ?_
  refine RuP.step (pc' := 153) (ls' := [some (.inr (.inr (some 0))), some (.inr (.inr (some 27))), some (.inr (.inr (some 84))), some (.inr (.inr (some 136))), some (.inl l4), some (.inl t0), d6, d7]) (st' := [.inl l4, .inr (.inr (some 0)), .inl (s 0 ((ax_w32 (l4 + 3)).toNat)), .inl (s 0 ((ax_w32 (l4 + 2)).toNat)), .inl (s 0 ((ax_w32 (l4 + 1)).toNat)), .inr (.inr (some 84))]) (h1 := hp L s c e) rfl ?_
  refine RuP.step (pc' := 154) (ls' := [some (.inr (.inr (some 0))), some (.inr (.inr (some 27))), some (.inr (.inr (some 84))), some (.inr (.inr (some 136))), some (.inl l4), some (.inl t0), d6, d7]) (st' := [.inl 4, .inl l4, .inr (.inr (some 0)), .inl (s 0 ((ax_w32 (l4 + 3)).toNat)), .inl (s 0 ((ax_w32 (l4 + 2)).toNat)), .inl (s 0 ((ax_w32 (l4 + 1)).toNat)), .inr (.inr (some 84))]) (h1 := hp L s c e) rfl ?_
  refine RuP.step (pc' := 155) (ls' := [some (.inr (.inr (some 0))), some (.inr (.inr (some 27))), some (.inr (.inr (some 84))), some (.inr (.inr (some 136))), some (.inl l4), some (.inl t0), d6, d7]) (st' := [.inl (ax_w32 (l4 + 4)), .inr (.inr (some 0)), .inl (s 0 ((ax_w32 (l4 + 3)).toNat)), .inl (s 0 ((ax_w32 (l4 + 2)).toNat)), .inl (s 0 ((ax_w32 (l4 + 1)).toNat)), .inr (.inr (some 84))]) (h1 := hp L s c e) rfl ?_
  obtain ⟨b3, h⟩ := gd_some h
  refine RuP.ald (f := fun t => t == 0) (j := ax_w32 (l4 + 4)) (a := 0) rfl rfl b3.1 b3.2 ?_
  obtain ⟨q2, h1, h⟩ := bd_some h
  refine RuP.cI rfl ((ev_193 h1).up (by decide)) ?_
  refine RuP.step (pc' := 161) (ls' := [some (.inr (.inr (some 0))), some (.inr (.inr (some 27))), some (.inr (.inr (some 84))), some (.inr (.inr (some 136))), some (.inl l4), some (.inl t0), some (.inl q2.1), d7]) (st' := []) (h1 := hp L q2.2 c e) rfl ?_
  refine RuP.step (pc' := 469) (ls' := [some (.inr (.inr (some 0))), some (.inr (.inr (some 27))), some (.inr (.inr (some 84))), some (.inr (.inr (some 136))), some (.inl l4), some (.inl t0), some (.inl q2.1), d7]) (st' := []) (h1 := hp L q2.2 c e) rfl ?_
  exact bl_279_469 hB hk23 _ _ _ _ _ _ _ _ (by omega) h
noncomputable def j_279_175 (L : Nat) (k23 : (Int → Sg → Option Int)) (l4 t0 : Int) (s : Sg) : Option Int :=
  (gd (0 ≤ ax_w32 (l4 + 1) ∧ ax_w32 (l4 + 1) < L) (
  ((f_195 (s 0 ((ax_w32 (l4 + 1)).toNat)) s).bind fun q4 =>
  j_279_469 L k23 l4 q4.2)))
set_option maxRecDepth 20000 in
theorem bl_279_175 {L B bF : Nat} {k23 : (Int → Sg → Option Int)} (hB : bF ≤ B) (hk23 : ∀ (c : Nat) (e : Nat → Nat) (d5 d6 d7 : Option ax_V) (l4 : Int) (s : Sg) (q : Int), c ≤ bF → k23 l4 s = some q → RuP 225 tb_m279 23 [some (.inr (.inr (some 0))), some (.inr (.inr (some 27))), some (.inr (.inr (some 84))), some (.inr (.inr (some 136))), some (.inl l4), d5, d6, d7] [] (hp L s c e) (oL L B q)) : ∀ (c : Nat) (e : Nat → Nat) (d5 d6 d7 : Option ax_V) (l4 t0 : Int) (s : Sg) (q : Int), c ≤ bF → j_279_175 L k23 l4 t0 s = some q → RuP 225 tb_m279 175 [some (.inr (.inr (some 0))), some (.inr (.inr (some 27))), some (.inr (.inr (some 84))), some (.inr (.inr (some 136))), some (.inl l4), d5, d6, d7] [.inl t0] (hp L s c e) (oL L B q) := by
  intro c e d5 d6 d7 l4 t0 s q hc h
  unfold j_279_175 at h
  refine RuP.step (pc' := 177) (ls' := [some (.inr (.inr (some 0))), some (.inr (.inr (some 27))), some (.inr (.inr (some 84))), some (.inr (.inr (some 136))), some (.inl l4), some (.inl t0), d6, d7]) (st' := []) (h1 := hp L s c e) rfl ?_
  refine RuP.step (pc' := 178) (ls' := [some (.inr (.inr (some 0))), some (.inr (.inr (some 27))), some (.inr (.inr (some 84))), some (.inr (.inr (some 136))), some (.inl l4), some (.inl t0), d6, d7]) (st' := [.inr (.inr (some 84))]) (h1 := hp L s c e) rfl ?_
  refine RuP.step (pc' := 179) (ls' := [some (.inr (.inr (some 0))), some (.inr (.inr (some 27))), some (.inr (.inr (some 84))), some (.inr (.inr (some 136))), some (.inl l4), some (.inl t0), d6, d7]) (st' := [.inr (.inr (some 0)), .inr (.inr (some 84))]) (h1 := hp L s c e) rfl ?_
  refine RuP.step (pc' := 181) (ls' := [some (.inr (.inr (some 0))), some (.inr (.inr (some 27))), some (.inr (.inr (some 84))), some (.inr (.inr (some 136))), some (.inl l4), some (.inl t0), d6, d7]) (st' := [.inl l4, .inr (.inr (some 0)), .inr (.inr (some 84))]) (h1 := hp L s c e) rfl ?_
  refine RuP.step (pc' := 182) (ls' := [some (.inr (.inr (some 0))), some (.inr (.inr (some 27))), some (.inr (.inr (some 84))), some (.inr (.inr (some 136))), some (.inl l4), some (.inl t0), d6, d7]) (st' := [.inl 1, .inl l4, .inr (.inr (some 0)), .inr (.inr (some 84))]) (h1 := hp L s c e) rfl ?_
  refine RuP.step (pc' := 183) (ls' := [some (.inr (.inr (some 0))), some (.inr (.inr (some 27))), some (.inr (.inr (some 84))), some (.inr (.inr (some 136))), some (.inl l4), some (.inl t0), d6, d7]) (st' := [.inl (ax_w32 (l4 + 1)), .inr (.inr (some 0)), .inr (.inr (some 84))]) (h1 := hp L s c e) rfl ?_
  obtain ⟨b0, h⟩ := gd_some h
  refine RuP.ald (f := fun t => t == 0) (j := ax_w32 (l4 + 1)) (a := 0) rfl rfl b0.1 b0.2 ?_
  obtain ⟨q4, h1, h⟩ := bd_some h
  refine RuP.cI rfl ((ev_195 h1).up (by decide)) ?_
  refine RuP.step (pc' := 189) (ls' := [some (.inr (.inr (some 0))), some (.inr (.inr (some 27))), some (.inr (.inr (some 84))), some (.inr (.inr (some 136))), some (.inl l4), some (.inl t0), some (.inl q4.1), d7]) (st' := []) (h1 := hp L q4.2 c e) rfl ?_
  refine RuP.step (pc' := 469) (ls' := [some (.inr (.inr (some 0))), some (.inr (.inr (some 27))), some (.inr (.inr (some 84))), some (.inr (.inr (some 136))), some (.inl l4), some (.inl t0), some (.inl q4.1), d7]) (st' := []) (h1 := hp L q4.2 c e) rfl ?_
  exact bl_279_469 hB hk23 _ _ _ _ _ _ _ _ (by omega) h
noncomputable def j_279_197 (L : Nat) (k23 : (Int → Sg → Option Int)) (l4 t0 : Int) (s : Sg) : Option Int :=
  ((f_196 s).bind fun q6 =>
  j_279_469 L k23 l4 q6.2)
set_option maxRecDepth 20000 in
theorem bl_279_197 {L B bF : Nat} {k23 : (Int → Sg → Option Int)} (hB : bF ≤ B) (hk23 : ∀ (c : Nat) (e : Nat → Nat) (d5 d6 d7 : Option ax_V) (l4 : Int) (s : Sg) (q : Int), c ≤ bF → k23 l4 s = some q → RuP 225 tb_m279 23 [some (.inr (.inr (some 0))), some (.inr (.inr (some 27))), some (.inr (.inr (some 84))), some (.inr (.inr (some 136))), some (.inl l4), d5, d6, d7] [] (hp L s c e) (oL L B q)) : ∀ (c : Nat) (e : Nat → Nat) (d5 d6 d7 : Option ax_V) (l4 t0 : Int) (s : Sg) (q : Int), c ≤ bF → j_279_197 L k23 l4 t0 s = some q → RuP 225 tb_m279 197 [some (.inr (.inr (some 0))), some (.inr (.inr (some 27))), some (.inr (.inr (some 84))), some (.inr (.inr (some 136))), some (.inl l4), d5, d6, d7] [.inl t0] (hp L s c e) (oL L B q) := by
  intro c e d5 d6 d7 l4 t0 s q hc h
  unfold j_279_197 at h
  refine RuP.step (pc' := 199) (ls' := [some (.inr (.inr (some 0))), some (.inr (.inr (some 27))), some (.inr (.inr (some 84))), some (.inr (.inr (some 136))), some (.inl l4), some (.inl t0), d6, d7]) (st' := []) (h1 := hp L s c e) rfl ?_
  refine RuP.step (pc' := 200) (ls' := [some (.inr (.inr (some 0))), some (.inr (.inr (some 27))), some (.inr (.inr (some 84))), some (.inr (.inr (some 136))), some (.inl l4), some (.inl t0), d6, d7]) (st' := [.inr (.inr (some 84))]) (h1 := hp L s c e) rfl ?_
  obtain ⟨q6, h1, h⟩ := bd_some h
  refine RuP.cI rfl ((ev_196 h1).up (by decide)) ?_
  refine RuP.step (pc' := 205) (ls' := [some (.inr (.inr (some 0))), some (.inr (.inr (some 27))), some (.inr (.inr (some 84))), some (.inr (.inr (some 136))), some (.inl l4), some (.inl t0), some (.inl q6.1), d7]) (st' := []) (h1 := hp L q6.2 c e) rfl ?_
  refine RuP.step (pc' := 469) (ls' := [some (.inr (.inr (some 0))), some (.inr (.inr (some 27))), some (.inr (.inr (some 84))), some (.inr (.inr (some 136))), some (.inl l4), some (.inl t0), some (.inl q6.1), d7]) (st' := []) (h1 := hp L q6.2 c e) rfl ?_
  exact bl_279_469 hB hk23 _ _ _ _ _ _ _ _ (by omega) h
noncomputable def j_279_219 (L : Nat) (k23 : (Int → Sg → Option Int)) (l4 t0 : Int) (s : Sg) : Option Int :=
  (gd (0 ≤ ax_w32 (l4 + 1) ∧ ax_w32 (l4 + 1) < L) (
  ((f_197 (s 0 ((ax_w32 (l4 + 1)).toNat)) s).bind fun q8 =>
  j_279_469 L k23 l4 q8.2)))
set_option maxRecDepth 20000 in
theorem bl_279_219 {L B bF : Nat} {k23 : (Int → Sg → Option Int)} (hB : bF ≤ B) (hk23 : ∀ (c : Nat) (e : Nat → Nat) (d5 d6 d7 : Option ax_V) (l4 : Int) (s : Sg) (q : Int), c ≤ bF → k23 l4 s = some q → RuP 225 tb_m279 23 [some (.inr (.inr (some 0))), some (.inr (.inr (some 27))), some (.inr (.inr (some 84))), some (.inr (.inr (some 136))), some (.inl l4), d5, d6, d7] [] (hp L s c e) (oL L B q)) : ∀ (c : Nat) (e : Nat → Nat) (d5 d6 d7 : Option ax_V) (l4 t0 : Int) (s : Sg) (q : Int), c ≤ bF → j_279_219 L k23 l4 t0 s = some q → RuP 225 tb_m279 219 [some (.inr (.inr (some 0))), some (.inr (.inr (some 27))), some (.inr (.inr (some 84))), some (.inr (.inr (some 136))), some (.inl l4), d5, d6, d7] [.inl t0] (hp L s c e) (oL L B q) := by
  intro c e d5 d6 d7 l4 t0 s q hc h
  unfold j_279_219 at h
  refine RuP.step (pc' := 221) (ls' := [some (.inr (.inr (some 0))), some (.inr (.inr (some 27))), some (.inr (.inr (some 84))), some (.inr (.inr (some 136))), some (.inl l4), some (.inl t0), d6, d7]) (st' := []) (h1 := hp L s c e) rfl ?_
  refine RuP.step (pc' := 222) (ls' := [some (.inr (.inr (some 0))), some (.inr (.inr (some 27))), some (.inr (.inr (some 84))), some (.inr (.inr (some 136))), some (.inl l4), some (.inl t0), d6, d7]) (st' := [.inr (.inr (some 84))]) (h1 := hp L s c e) rfl ?_
  refine RuP.step (pc' := 223) (ls' := [some (.inr (.inr (some 0))), some (.inr (.inr (some 27))), some (.inr (.inr (some 84))), some (.inr (.inr (some 136))), some (.inl l4), some (.inl t0), d6, d7]) (st' := [.inr (.inr (some 0)), .inr (.inr (some 84))]) (h1 := hp L s c e) rfl ?_
  refine RuP.step (pc' := 225) (ls' := [some (.inr (.inr (some 0))), some (.inr (.inr (some 27))), some (.inr (.inr (some 84))), some (.inr (.inr (some 136))), some (.inl l4), some (.inl t0), d6, d7]) (st' := [.inl l4, .inr (.inr (some 0)), .inr (.inr (some 84))]) (h1 := hp L s c e) rfl ?_
  refine RuP.step (pc' := 226) (ls' := [some (.inr (.inr (some 0))), some (.inr (.inr (some 27))), some (.inr (.inr (some 84))), some (.inr (.inr (some 136))), some (.inl l4), some (.inl t0), d6, d7]) (st' := [.inl 1, .inl l4, .inr (.inr (some 0)), .inr (.inr (some 84))]) (h1 := hp L s c e) rfl ?_
  refine RuP.step (pc' := 227) (ls' := [some (.inr (.inr (some 0))), some (.inr (.inr (some 27))), some (.inr (.inr (some 84))), some (.inr (.inr (some 136))), some (.inl l4), some (.inl t0), d6, d7]) (st' := [.inl (ax_w32 (l4 + 1)), .inr (.inr (some 0)), .inr (.inr (some 84))]) (h1 := hp L s c e) rfl ?_
  obtain ⟨b0, h⟩ := gd_some h
  refine RuP.ald (f := fun t => t == 0) (j := ax_w32 (l4 + 1)) (a := 0) rfl rfl b0.1 b0.2 ?_
  obtain ⟨q8, h1, h⟩ := bd_some h
  refine RuP.cI rfl ((ev_197 h1).up (by decide)) ?_
  refine RuP.step (pc' := 233) (ls' := [some (.inr (.inr (some 0))), some (.inr (.inr (some 27))), some (.inr (.inr (some 84))), some (.inr (.inr (some 136))), some (.inl l4), some (.inl t0), some (.inl q8.1), d7]) (st' := []) (h1 := hp L q8.2 c e) rfl ?_
  refine RuP.step (pc' := 469) (ls' := [some (.inr (.inr (some 0))), some (.inr (.inr (some 27))), some (.inr (.inr (some 84))), some (.inr (.inr (some 136))), some (.inl l4), some (.inl t0), some (.inl q8.1), d7]) (st' := []) (h1 := hp L q8.2 c e) rfl ?_
  exact bl_279_469 hB hk23 _ _ _ _ _ _ _ _ (by omega) h
noncomputable def j_279_253 (L : Nat) (k23 : (Int → Sg → Option Int)) (l4 t0 : Int) (s : Sg) : Option Int :=
  (gd (0 ≤ ax_w32 (l4 + 1) ∧ ax_w32 (l4 + 1) < L) (
  (gd (0 ≤ ax_w32 (l4 + 2) ∧ ax_w32 (l4 + 2) < L) (
  ((f_198 (s 0 ((ax_w32 (l4 + 1)).toNat)) (s 0 ((ax_w32 (l4 + 2)).toNat)) s).bind fun q10 =>
  j_279_469 L k23 l4 q10.2)))))
set_option maxRecDepth 20000 in
theorem bl_279_253 {L B bF : Nat} {k23 : (Int → Sg → Option Int)} (hB : bF ≤ B) (hk23 : ∀ (c : Nat) (e : Nat → Nat) (d5 d6 d7 : Option ax_V) (l4 : Int) (s : Sg) (q : Int), c ≤ bF → k23 l4 s = some q → RuP 225 tb_m279 23 [some (.inr (.inr (some 0))), some (.inr (.inr (some 27))), some (.inr (.inr (some 84))), some (.inr (.inr (some 136))), some (.inl l4), d5, d6, d7] [] (hp L s c e) (oL L B q)) : ∀ (c : Nat) (e : Nat → Nat) (d5 d6 d7 : Option ax_V) (l4 t0 : Int) (s : Sg) (q : Int), c ≤ bF → j_279_253 L k23 l4 t0 s = some q → RuP 225 tb_m279 253 [some (.inr (.inr (some 0))), some (.inr (.inr (some 27))), some (.inr (.inr (some 84))), some (.inr (.inr (some 136))), some (.inl l4), d5, d6, d7] [.inl t0] (hp L s c e) (oL L B q) := by
  intro c e d5 d6 d7 l4 t0 s q hc h
  unfold j_279_253 at h
  refine RuP.step (pc' := 255) (ls' := [some (.inr (.inr (some 0))), some (.inr (.inr (some 27))), some (.inr (.inr (some 84))), some (.inr (.inr (some 136))), some (.inl l4), some (.inl t0), d6, d7]) (st' := []) (h1 := hp L s c e) rfl ?_
  refine RuP.step (pc' := 256) (ls' := [some (.inr (.inr (some 0))), some (.inr (.inr (some 27))), some (.inr (.inr (some 84))), some (.inr (.inr (some 136))), some (.inl l4), some (.inl t0), d6, d7]) (st' := [.inr (.inr (some 84))]) (h1 := hp L s c e) rfl ?_
  refine RuP.step (pc' := 257) (ls' := [some (.inr (.inr (some 0))), some (.inr (.inr (some 27))), some (.inr (.inr (some 84))), some (.inr (.inr (some 136))), some (.inl l4), some (.inl t0), d6, d7]) (st' := [.inr (.inr (some 0)), .inr (.inr (some 84))]) (h1 := hp L s c e) rfl ?_
  refine RuP.step (pc' := 259) (ls' := [some (.inr (.inr (some 0))), some (.inr (.inr (some 27))), some (.inr (.inr (some 84))), some (.inr (.inr (some 136))), some (.inl l4), some (.inl t0), d6, d7]) (st' := [.inl l4, .inr (.inr (some 0)), .inr (.inr (some 84))]) (h1 := hp L s c e) rfl ?_
  refine RuP.step (pc' := 260) (ls' := [some (.inr (.inr (some 0))), some (.inr (.inr (some 27))), some (.inr (.inr (some 84))), some (.inr (.inr (some 136))), some (.inl l4), some (.inl t0), d6, d7]) (st' := [.inl 1, .inl l4, .inr (.inr (some 0)), .inr (.inr (some 84))]) (h1 := hp L s c e) rfl ?_
  refine RuP.step (pc' := 261) (ls' := [some (.inr (.inr (some 0))), some (.inr (.inr (some 27))), some (.inr (.inr (some 84))), some (.inr (.inr (some 136))), some (.inl l4), some (.inl t0), d6, d7]) (st' := [.inl (ax_w32 (l4 + 1)), .inr (.inr (some 0)), .inr (.inr (some 84))]) (h1 := hp L s c e) rfl ?_
  obtain ⟨b0, h⟩ := gd_some h
  refine RuP.ald (f := fun t => t == 0) (j := ax_w32 (l4 + 1)) (a := 0) rfl rfl b0.1 b0.2 ?_
  refine RuP.step (pc' := 263) (ls' := [some (.inr (.inr (some 0))), some (.inr (.inr (some 27))), some (.inr (.inr (some 84))), some (.inr (.inr (some 136))), some (.inl l4), some (.inl t0), d6, d7]) (st' := [.inr (.inr (some 0)), .inl (s 0 ((ax_w32 (l4 + 1)).toNat)), .inr (.inr (some 84))]) (h1 := hp L s c e) rfl ?_
  refine RuP.step (pc' := 265) (ls' := [some (.inr (.inr (some 0))), some (.inr (.inr (some 27))), some (.inr (.inr (some 84))), some (.inr (.inr (some 136))), some (.inl l4), some (.inl t0), d6, d7]) (st' := [.inl l4, .inr (.inr (some 0)), .inl (s 0 ((ax_w32 (l4 + 1)).toNat)), .inr (.inr (some 84))]) (h1 := hp L s c e) rfl ?_
  refine RuP.step (pc' := 266) (ls' := [some (.inr (.inr (some 0))), some (.inr (.inr (some 27))), some (.inr (.inr (some 84))), some (.inr (.inr (some 136))), some (.inl l4), some (.inl t0), d6, d7]) (st' := [.inl 2, .inl l4, .inr (.inr (some 0)), .inl (s 0 ((ax_w32 (l4 + 1)).toNat)), .inr (.inr (some 84))]) (h1 := hp L s c e) rfl ?_
  refine RuP.step (pc' := 267) (ls' := [some (.inr (.inr (some 0))), some (.inr (.inr (some 27))), some (.inr (.inr (some 84))), some (.inr (.inr (some 136))), some (.inl l4), some (.inl t0), d6, d7]) (st' := [.inl (ax_w32 (l4 + 2)), .inr (.inr (some 0)), .inl (s 0 ((ax_w32 (l4 + 1)).toNat)), .inr (.inr (some 84))]) (h1 := hp L s c e) rfl ?_
  obtain ⟨b1, h⟩ := gd_some h
  refine RuP.ald (f := fun t => t == 0) (j := ax_w32 (l4 + 2)) (a := 0) rfl rfl b1.1 b1.2 ?_
  obtain ⟨q10, h1, h⟩ := bd_some h
  refine RuP.cI rfl ((ev_198 h1).up (by decide)) ?_
  refine RuP.step (pc' := 273) (ls' := [some (.inr (.inr (some 0))), some (.inr (.inr (some 27))), some (.inr (.inr (some 84))), some (.inr (.inr (some 136))), some (.inl l4), some (.inl t0), some (.inl q10.1), d7]) (st' := []) (h1 := hp L q10.2 c e) rfl ?_
  refine RuP.step (pc' := 469) (ls' := [some (.inr (.inr (some 0))), some (.inr (.inr (some 27))), some (.inr (.inr (some 84))), some (.inr (.inr (some 136))), some (.inl l4), some (.inl t0), some (.inl q10.1), d7]) (st' := []) (h1 := hp L q10.2 c e) rfl ?_
  exact bl_279_469 hB hk23 _ _ _ _ _ _ _ _ (by omega) h
noncomputable def j_279_293 (L : Nat) (k23 : (Int → Sg → Option Int)) (l4 t0 : Int) (s : Sg) : Option Int :=
  (gd (0 ≤ ax_w32 (l4 + 1) ∧ ax_w32 (l4 + 1) < L) (
  (gd (0 ≤ ax_w32 (l4 + 2) ∧ ax_w32 (l4 + 2) < L) (
  ((f_199 (s 0 ((ax_w32 (l4 + 1)).toNat)) (s 0 ((ax_w32 (l4 + 2)).toNat)) s).bind fun q12 =>
  j_279_469 L k23 l4 q12.2)))))
set_option maxRecDepth 20000 in
theorem bl_279_293 {L B bF : Nat} {k23 : (Int → Sg → Option Int)} (hB : bF ≤ B) (hk23 : ∀ (c : Nat) (e : Nat → Nat) (d5 d6 d7 : Option ax_V) (l4 : Int) (s : Sg) (q : Int), c ≤ bF → k23 l4 s = some q → RuP 225 tb_m279 23 [some (.inr (.inr (some 0))), some (.inr (.inr (some 27))), some (.inr (.inr (some 84))), some (.inr (.inr (some 136))), some (.inl l4), d5, d6, d7] [] (hp L s c e) (oL L B q)) : ∀ (c : Nat) (e : Nat → Nat) (d5 d6 d7 : Option ax_V) (l4 t0 : Int) (s : Sg) (q : Int), c ≤ bF → j_279_293 L k23 l4 t0 s = some q → RuP 225 tb_m279 293 [some (.inr (.inr (some 0))), some (.inr (.inr (some 27))), some (.inr (.inr (some 84))), some (.inr (.inr (some 136))), some (.inl l4), d5, d6, d7] [.inl t0] (hp L s c e) (oL L B q) := by
  intro c e d5 d6 d7 l4 t0 s q hc h
  unfold j_279_293 at h
  refine RuP.step (pc' := 295) (ls' := [some (.inr (.inr (some 0))), some (.inr (.inr (some 27))), some (.inr (.inr (some 84))), some (.inr (.inr (some 136))), some (.inl l4), some (.inl t0), d6, d7]) (st' := []) (h1 := hp L s c e) rfl ?_
  refine RuP.step (pc' := 296) (ls' := [some (.inr (.inr (some 0))), some (.inr (.inr (some 27))), some (.inr (.inr (some 84))), some (.inr (.inr (some 136))), some (.inl l4), some (.inl t0), d6, d7]) (st' := [.inr (.inr (some 84))]) (h1 := hp L s c e) rfl ?_
  refine RuP.step (pc' := 297) (ls' := [some (.inr (.inr (some 0))), some (.inr (.inr (some 27))), some (.inr (.inr (some 84))), some (.inr (.inr (some 136))), some (.inl l4), some (.inl t0), d6, d7]) (st' := [.inr (.inr (some 0)), .inr (.inr (some 84))]) (h1 := hp L s c e) rfl ?_
  refine RuP.step (pc' := 299) (ls' := [some (.inr (.inr (some 0))), some (.inr (.inr (some 27))), some (.inr (.inr (some 84))), some (.inr (.inr (some 136))), some (.inl l4), some (.inl t0), d6, d7]) (st' := [.inl l4, .inr (.inr (some 0)), .inr (.inr (some 84))]) (h1 := hp L s c e) rfl ?_
  refine RuP.step (pc' := 300) (ls' := [some (.inr (.inr (some 0))), some (.inr (.inr (some 27))), some (.inr (.inr (some 84))), some (.inr (.inr (some 136))), some (.inl l4), some (.inl t0), d6, d7]) (st' := [.inl 1, .inl l4, .inr (.inr (some 0)), .inr (.inr (some 84))]) (h1 := hp L s c e) rfl ?_
  refine RuP.step (pc' := 301) (ls' := [some (.inr (.inr (some 0))), some (.inr (.inr (some 27))), some (.inr (.inr (some 84))), some (.inr (.inr (some 136))), some (.inl l4), some (.inl t0), d6, d7]) (st' := [.inl (ax_w32 (l4 + 1)), .inr (.inr (some 0)), .inr (.inr (some 84))]) (h1 := hp L s c e) rfl ?_
  obtain ⟨b0, h⟩ := gd_some h
  refine RuP.ald (f := fun t => t == 0) (j := ax_w32 (l4 + 1)) (a := 0) rfl rfl b0.1 b0.2 ?_
  refine RuP.step (pc' := 303) (ls' := [some (.inr (.inr (some 0))), some (.inr (.inr (some 27))), some (.inr (.inr (some 84))), some (.inr (.inr (some 136))), some (.inl l4), some (.inl t0), d6, d7]) (st' := [.inr (.inr (some 0)), .inl (s 0 ((ax_w32 (l4 + 1)).toNat)), .inr (.inr (some 84))]) (h1 := hp L s c e) rfl ?_
  refine RuP.step (pc' := 305) (ls' := [some (.inr (.inr (some 0))), some (.inr (.inr (some 27))), some (.inr (.inr (some 84))), some (.inr (.inr (some 136))), some (.inl l4), some (.inl t0), d6, d7]) (st' := [.inl l4, .inr (.inr (some 0)), .inl (s 0 ((ax_w32 (l4 + 1)).toNat)), .inr (.inr (some 84))]) (h1 := hp L s c e) rfl ?_
  refine RuP.step (pc' := 306) (ls' := [some (.inr (.inr (some 0))), some (.inr (.inr (some 27))), some (.inr (.inr (some 84))), some (.inr (.inr (some 136))), some (.inl l4), some (.inl t0), d6, d7]) (st' := [.inl 2, .inl l4, .inr (.inr (some 0)), .inl (s 0 ((ax_w32 (l4 + 1)).toNat)), .inr (.inr (some 84))]) (h1 := hp L s c e) rfl ?_
  refine RuP.step (pc' := 307) (ls' := [some (.inr (.inr (some 0))), some (.inr (.inr (some 27))), some (.inr (.inr (some 84))), some (.inr (.inr (some 136))), some (.inl l4), some (.inl t0), d6, d7]) (st' := [.inl (ax_w32 (l4 + 2)), .inr (.inr (some 0)), .inl (s 0 ((ax_w32 (l4 + 1)).toNat)), .inr (.inr (some 84))]) (h1 := hp L s c e) rfl ?_
  obtain ⟨b1, h⟩ := gd_some h
  refine RuP.ald (f := fun t => t == 0) (j := ax_w32 (l4 + 2)) (a := 0) rfl rfl b1.1 b1.2 ?_
  obtain ⟨q12, h1, h⟩ := bd_some h
  refine RuP.cJ rfl ((ev_199 h1).up (by decide)) ?_
  refine RuP.step (pc' := 313) (ls' := [some (.inr (.inr (some 0))), some (.inr (.inr (some 27))), some (.inr (.inr (some 84))), some (.inr (.inr (some 136))), some (.inl l4), some (.inl t0), some (.inr (.inl q12.1)), none]) (st' := []) (h1 := hp L q12.2 c e) rfl ?_
  refine RuP.step (pc' := 469) (ls' := [some (.inr (.inr (some 0))), some (.inr (.inr (some 27))), some (.inr (.inr (some 84))), some (.inr (.inr (some 136))), some (.inl l4), some (.inl t0), some (.inr (.inl q12.1)), none]) (st' := []) (h1 := hp L q12.2 c e) rfl ?_
  exact bl_279_469 hB hk23 _ _ _ _ _ _ _ _ (by omega) h
noncomputable def j_279_333 (L : Nat) (k23 : (Int → Sg → Option Int)) (l4 t0 : Int) (s : Sg) : Option Int :=
  (gd (0 ≤ ax_w32 (l4 + 1) ∧ ax_w32 (l4 + 1) < L) (
  (gd (0 ≤ ax_w32 (l4 + 2) ∧ ax_w32 (l4 + 2) < L) (
  ((f_200 (s 0 ((ax_w32 (l4 + 1)).toNat)) (s 0 ((ax_w32 (l4 + 2)).toNat)) s).bind fun q14 =>
  j_279_469 L k23 l4 q14.2)))))
set_option maxRecDepth 20000 in
theorem bl_279_333 {L B bF : Nat} {k23 : (Int → Sg → Option Int)} (hB : bF ≤ B) (hk23 : ∀ (c : Nat) (e : Nat → Nat) (d5 d6 d7 : Option ax_V) (l4 : Int) (s : Sg) (q : Int), c ≤ bF → k23 l4 s = some q → RuP 225 tb_m279 23 [some (.inr (.inr (some 0))), some (.inr (.inr (some 27))), some (.inr (.inr (some 84))), some (.inr (.inr (some 136))), some (.inl l4), d5, d6, d7] [] (hp L s c e) (oL L B q)) : ∀ (c : Nat) (e : Nat → Nat) (d5 d6 d7 : Option ax_V) (l4 t0 : Int) (s : Sg) (q : Int), c ≤ bF → j_279_333 L k23 l4 t0 s = some q → RuP 225 tb_m279 333 [some (.inr (.inr (some 0))), some (.inr (.inr (some 27))), some (.inr (.inr (some 84))), some (.inr (.inr (some 136))), some (.inl l4), d5, d6, d7] [.inl t0] (hp L s c e) (oL L B q) := by
  intro c e d5 d6 d7 l4 t0 s q hc h
  unfold j_279_333 at h
  refine RuP.step (pc' := 335) (ls' := [some (.inr (.inr (some 0))), some (.inr (.inr (some 27))), some (.inr (.inr (some 84))), some (.inr (.inr (some 136))), some (.inl l4), some (.inl t0), d6, d7]) (st' := []) (h1 := hp L s c e) rfl ?_
  refine RuP.step (pc' := 336) (ls' := [some (.inr (.inr (some 0))), some (.inr (.inr (some 27))), some (.inr (.inr (some 84))), some (.inr (.inr (some 136))), some (.inl l4), some (.inl t0), d6, d7]) (st' := [.inr (.inr (some 84))]) (h1 := hp L s c e) rfl ?_
  refine RuP.step (pc' := 337) (ls' := [some (.inr (.inr (some 0))), some (.inr (.inr (some 27))), some (.inr (.inr (some 84))), some (.inr (.inr (some 136))), some (.inl l4), some (.inl t0), d6, d7]) (st' := [.inr (.inr (some 0)), .inr (.inr (some 84))]) (h1 := hp L s c e) rfl ?_
  refine RuP.step (pc' := 339) (ls' := [some (.inr (.inr (some 0))), some (.inr (.inr (some 27))), some (.inr (.inr (some 84))), some (.inr (.inr (some 136))), some (.inl l4), some (.inl t0), d6, d7]) (st' := [.inl l4, .inr (.inr (some 0)), .inr (.inr (some 84))]) (h1 := hp L s c e) rfl ?_
  refine RuP.step (pc' := 340) (ls' := [some (.inr (.inr (some 0))), some (.inr (.inr (some 27))), some (.inr (.inr (some 84))), some (.inr (.inr (some 136))), some (.inl l4), some (.inl t0), d6, d7]) (st' := [.inl 1, .inl l4, .inr (.inr (some 0)), .inr (.inr (some 84))]) (h1 := hp L s c e) rfl ?_
  refine RuP.step (pc' := 341) (ls' := [some (.inr (.inr (some 0))), some (.inr (.inr (some 27))), some (.inr (.inr (some 84))), some (.inr (.inr (some 136))), some (.inl l4), some (.inl t0), d6, d7]) (st' := [.inl (ax_w32 (l4 + 1)), .inr (.inr (some 0)), .inr (.inr (some 84))]) (h1 := hp L s c e) rfl ?_
  obtain ⟨b0, h⟩ := gd_some h
  refine RuP.ald (f := fun t => t == 0) (j := ax_w32 (l4 + 1)) (a := 0) rfl rfl b0.1 b0.2 ?_
  refine RuP.step (pc' := 343) (ls' := [some (.inr (.inr (some 0))), some (.inr (.inr (some 27))), some (.inr (.inr (some 84))), some (.inr (.inr (some 136))), some (.inl l4), some (.inl t0), d6, d7]) (st' := [.inr (.inr (some 0)), .inl (s 0 ((ax_w32 (l4 + 1)).toNat)), .inr (.inr (some 84))]) (h1 := hp L s c e) rfl ?_
  refine RuP.step (pc' := 345) (ls' := [some (.inr (.inr (some 0))), some (.inr (.inr (some 27))), some (.inr (.inr (some 84))), some (.inr (.inr (some 136))), some (.inl l4), some (.inl t0), d6, d7]) (st' := [.inl l4, .inr (.inr (some 0)), .inl (s 0 ((ax_w32 (l4 + 1)).toNat)), .inr (.inr (some 84))]) (h1 := hp L s c e) rfl ?_
  refine RuP.step (pc' := 346) (ls' := [some (.inr (.inr (some 0))), some (.inr (.inr (some 27))), some (.inr (.inr (some 84))), some (.inr (.inr (some 136))), some (.inl l4), some (.inl t0), d6, d7]) (st' := [.inl 2, .inl l4, .inr (.inr (some 0)), .inl (s 0 ((ax_w32 (l4 + 1)).toNat)), .inr (.inr (some 84))]) (h1 := hp L s c e) rfl ?_
  refine RuP.step (pc' := 347) (ls' := [some (.inr (.inr (some 0))), some (.inr (.inr (some 27))), some (.inr (.inr (some 84))), some (.inr (.inr (some 136))), some (.inl l4), some (.inl t0), d6, d7]) (st' := [.inl (ax_w32 (l4 + 2)), .inr (.inr (some 0)), .inl (s 0 ((ax_w32 (l4 + 1)).toNat)), .inr (.inr (some 84))]) (h1 := hp L s c e) rfl ?_
  obtain ⟨b1, h⟩ := gd_some h
  refine RuP.ald (f := fun t => t == 0) (j := ax_w32 (l4 + 2)) (a := 0) rfl rfl b1.1 b1.2 ?_
  obtain ⟨q14, h1, h⟩ := bd_some h
  refine RuP.cI rfl ((ev_200 h1).up (by decide)) ?_
  refine RuP.step (pc' := 353) (ls' := [some (.inr (.inr (some 0))), some (.inr (.inr (some 27))), some (.inr (.inr (some 84))), some (.inr (.inr (some 136))), some (.inl l4), some (.inl t0), some (.inl q14.1), d7]) (st' := []) (h1 := hp L q14.2 c e) rfl ?_
  refine RuP.step (pc' := 469) (ls' := [some (.inr (.inr (some 0))), some (.inr (.inr (some 27))), some (.inr (.inr (some 84))), some (.inr (.inr (some 136))), some (.inl l4), some (.inl t0), some (.inl q14.1), d7]) (st' := []) (h1 := hp L q14.2 c e) rfl ?_
  exact bl_279_469 hB hk23 _ _ _ _ _ _ _ _ (by omega) h
noncomputable def j_279_367 (L : Nat) (k23 : (Int → Sg → Option Int)) (l4 t0 : Int) (s : Sg) : Option Int :=
  (gd (0 ≤ ax_w32 (l4 + 1) ∧ ax_w32 (l4 + 1) < L) (
  ((f_201 (s 0 ((ax_w32 (l4 + 1)).toNat)) s).bind fun q16 =>
  j_279_469 L k23 l4 q16.2)))
set_option maxRecDepth 20000 in
theorem bl_279_367 {L B bF : Nat} {k23 : (Int → Sg → Option Int)} (hB : bF ≤ B) (hk23 : ∀ (c : Nat) (e : Nat → Nat) (d5 d6 d7 : Option ax_V) (l4 : Int) (s : Sg) (q : Int), c ≤ bF → k23 l4 s = some q → RuP 225 tb_m279 23 [some (.inr (.inr (some 0))), some (.inr (.inr (some 27))), some (.inr (.inr (some 84))), some (.inr (.inr (some 136))), some (.inl l4), d5, d6, d7] [] (hp L s c e) (oL L B q)) : ∀ (c : Nat) (e : Nat → Nat) (d5 d6 d7 : Option ax_V) (l4 t0 : Int) (s : Sg) (q : Int), c ≤ bF → j_279_367 L k23 l4 t0 s = some q → RuP 225 tb_m279 367 [some (.inr (.inr (some 0))), some (.inr (.inr (some 27))), some (.inr (.inr (some 84))), some (.inr (.inr (some 136))), some (.inl l4), d5, d6, d7] [.inl t0] (hp L s c e) (oL L B q) := by
  intro c e d5 d6 d7 l4 t0 s q hc h
  unfold j_279_367 at h
  refine RuP.step (pc' := 369) (ls' := [some (.inr (.inr (some 0))), some (.inr (.inr (some 27))), some (.inr (.inr (some 84))), some (.inr (.inr (some 136))), some (.inl l4), some (.inl t0), d6, d7]) (st' := []) (h1 := hp L s c e) rfl ?_
  refine RuP.step (pc' := 370) (ls' := [some (.inr (.inr (some 0))), some (.inr (.inr (some 27))), some (.inr (.inr (some 84))), some (.inr (.inr (some 136))), some (.inl l4), some (.inl t0), d6, d7]) (st' := [.inr (.inr (some 84))]) (h1 := hp L s c e) rfl ?_
  refine RuP.step (pc' := 371) (ls' := [some (.inr (.inr (some 0))), some (.inr (.inr (some 27))), some (.inr (.inr (some 84))), some (.inr (.inr (some 136))), some (.inl l4), some (.inl t0), d6, d7]) (st' := [.inr (.inr (some 0)), .inr (.inr (some 84))]) (h1 := hp L s c e) rfl ?_
  refine RuP.step (pc' := 373) (ls' := [some (.inr (.inr (some 0))), some (.inr (.inr (some 27))), some (.inr (.inr (some 84))), some (.inr (.inr (some 136))), some (.inl l4), some (.inl t0), d6, d7]) (st' := [.inl l4, .inr (.inr (some 0)), .inr (.inr (some 84))]) (h1 := hp L s c e) rfl ?_
  refine RuP.step (pc' := 374) (ls' := [some (.inr (.inr (some 0))), some (.inr (.inr (some 27))), some (.inr (.inr (some 84))), some (.inr (.inr (some 136))), some (.inl l4), some (.inl t0), d6, d7]) (st' := [.inl 1, .inl l4, .inr (.inr (some 0)), .inr (.inr (some 84))]) (h1 := hp L s c e) rfl ?_
  refine RuP.step (pc' := 375) (ls' := [some (.inr (.inr (some 0))), some (.inr (.inr (some 27))), some (.inr (.inr (some 84))), some (.inr (.inr (some 136))), some (.inl l4), some (.inl t0), d6, d7]) (st' := [.inl (ax_w32 (l4 + 1)), .inr (.inr (some 0)), .inr (.inr (some 84))]) (h1 := hp L s c e) rfl ?_
  obtain ⟨b0, h⟩ := gd_some h
  refine RuP.ald (f := fun t => t == 0) (j := ax_w32 (l4 + 1)) (a := 0) rfl rfl b0.1 b0.2 ?_
  obtain ⟨q16, h1, h⟩ := bd_some h
  refine RuP.cI rfl ((ev_201 h1).up (by decide)) ?_
  refine RuP.step (pc' := 381) (ls' := [some (.inr (.inr (some 0))), some (.inr (.inr (some 27))), some (.inr (.inr (some 84))), some (.inr (.inr (some 136))), some (.inl l4), some (.inl t0), some (.inl q16.1), d7]) (st' := []) (h1 := hp L q16.2 c e) rfl ?_
  refine RuP.step (pc' := 469) (ls' := [some (.inr (.inr (some 0))), some (.inr (.inr (some 27))), some (.inr (.inr (some 84))), some (.inr (.inr (some 136))), some (.inl l4), some (.inl t0), some (.inl q16.1), d7]) (st' := []) (h1 := hp L q16.2 c e) rfl ?_
  exact bl_279_469 hB hk23 _ _ _ _ _ _ _ _ (by omega) h
noncomputable def j_279_389 (L : Nat) (k23 : (Int → Sg → Option Int)) (l4 t0 : Int) (s : Sg) : Option Int :=
  ((f_202 s).bind fun q18 =>
  j_279_469 L k23 l4 q18.2)
set_option maxRecDepth 20000 in
theorem bl_279_389 {L B bF : Nat} {k23 : (Int → Sg → Option Int)} (hB : bF ≤ B) (hk23 : ∀ (c : Nat) (e : Nat → Nat) (d5 d6 d7 : Option ax_V) (l4 : Int) (s : Sg) (q : Int), c ≤ bF → k23 l4 s = some q → RuP 225 tb_m279 23 [some (.inr (.inr (some 0))), some (.inr (.inr (some 27))), some (.inr (.inr (some 84))), some (.inr (.inr (some 136))), some (.inl l4), d5, d6, d7] [] (hp L s c e) (oL L B q)) : ∀ (c : Nat) (e : Nat → Nat) (d5 d6 d7 : Option ax_V) (l4 t0 : Int) (s : Sg) (q : Int), c ≤ bF → j_279_389 L k23 l4 t0 s = some q → RuP 225 tb_m279 389 [some (.inr (.inr (some 0))), some (.inr (.inr (some 27))), some (.inr (.inr (some 84))), some (.inr (.inr (some 136))), some (.inl l4), d5, d6, d7] [.inl t0] (hp L s c e) (oL L B q) := by
  intro c e d5 d6 d7 l4 t0 s q hc h
  unfold j_279_389 at h
  refine RuP.step (pc' := 391) (ls' := [some (.inr (.inr (some 0))), some (.inr (.inr (some 27))), some (.inr (.inr (some 84))), some (.inr (.inr (some 136))), some (.inl l4), some (.inl t0), d6, d7]) (st' := []) (h1 := hp L s c e) rfl ?_
  refine RuP.step (pc' := 392) (ls' := [some (.inr (.inr (some 0))), some (.inr (.inr (some 27))), some (.inr (.inr (some 84))), some (.inr (.inr (some 136))), some (.inl l4), some (.inl t0), d6, d7]) (st' := [.inr (.inr (some 84))]) (h1 := hp L s c e) rfl ?_
  obtain ⟨q18, h1, h⟩ := bd_some h
  refine RuP.cI rfl ((ev_202 h1).up (by decide)) ?_
  refine RuP.step (pc' := 397) (ls' := [some (.inr (.inr (some 0))), some (.inr (.inr (some 27))), some (.inr (.inr (some 84))), some (.inr (.inr (some 136))), some (.inl l4), some (.inl t0), some (.inl q18.1), d7]) (st' := []) (h1 := hp L q18.2 c e) rfl ?_
  refine RuP.step (pc' := 469) (ls' := [some (.inr (.inr (some 0))), some (.inr (.inr (some 27))), some (.inr (.inr (some 84))), some (.inr (.inr (some 136))), some (.inl l4), some (.inl t0), some (.inl q18.1), d7]) (st' := []) (h1 := hp L q18.2 c e) rfl ?_
  exact bl_279_469 hB hk23 _ _ _ _ _ _ _ _ (by omega) h
noncomputable def j_279_411 (L : Nat) (k23 : (Int → Sg → Option Int)) (l4 t0 : Int) (s : Sg) : Option Int :=
  (gd (0 ≤ ax_w32 (l4 + 1) ∧ ax_w32 (l4 + 1) < L) (
  ((f_203 (s 0 ((ax_w32 (l4 + 1)).toNat)) s).bind fun q20 =>
  j_279_469 L k23 l4 q20.2)))
set_option maxRecDepth 20000 in
theorem bl_279_411 {L B bF : Nat} {k23 : (Int → Sg → Option Int)} (hB : bF ≤ B) (hk23 : ∀ (c : Nat) (e : Nat → Nat) (d5 d6 d7 : Option ax_V) (l4 : Int) (s : Sg) (q : Int), c ≤ bF → k23 l4 s = some q → RuP 225 tb_m279 23 [some (.inr (.inr (some 0))), some (.inr (.inr (some 27))), some (.inr (.inr (some 84))), some (.inr (.inr (some 136))), some (.inl l4), d5, d6, d7] [] (hp L s c e) (oL L B q)) : ∀ (c : Nat) (e : Nat → Nat) (d5 d6 d7 : Option ax_V) (l4 t0 : Int) (s : Sg) (q : Int), c ≤ bF → j_279_411 L k23 l4 t0 s = some q → RuP 225 tb_m279 411 [some (.inr (.inr (some 0))), some (.inr (.inr (some 27))), some (.inr (.inr (some 84))), some (.inr (.inr (some 136))), some (.inl l4), d5, d6, d7] [.inl t0] (hp L s c e) (oL L B q) := by
  intro c e d5 d6 d7 l4 t0 s q hc h
  unfold j_279_411 at h
  refine RuP.step (pc' := 413) (ls' := [some (.inr (.inr (some 0))), some (.inr (.inr (some 27))), some (.inr (.inr (some 84))), some (.inr (.inr (some 136))), some (.inl l4), some (.inl t0), d6, d7]) (st' := []) (h1 := hp L s c e) rfl ?_
  refine RuP.step (pc' := 414) (ls' := [some (.inr (.inr (some 0))), some (.inr (.inr (some 27))), some (.inr (.inr (some 84))), some (.inr (.inr (some 136))), some (.inl l4), some (.inl t0), d6, d7]) (st' := [.inr (.inr (some 84))]) (h1 := hp L s c e) rfl ?_
  refine RuP.step (pc' := 415) (ls' := [some (.inr (.inr (some 0))), some (.inr (.inr (some 27))), some (.inr (.inr (some 84))), some (.inr (.inr (some 136))), some (.inl l4), some (.inl t0), d6, d7]) (st' := [.inr (.inr (some 0)), .inr (.inr (some 84))]) (h1 := hp L s c e) rfl ?_
  refine RuP.step (pc' := 417) (ls' := [some (.inr (.inr (some 0))), some (.inr (.inr (some 27))), some (.inr (.inr (some 84))), some (.inr (.inr (some 136))), some (.inl l4), some (.inl t0), d6, d7]) (st' := [.inl l4, .inr (.inr (some 0)), .inr (.inr (some 84))]) (h1 := hp L s c e) rfl ?_
  refine RuP.step (pc' := 418) (ls' := [some (.inr (.inr (some 0))), some (.inr (.inr (some 27))), some (.inr (.inr (some 84))), some (.inr (.inr (some 136))), some (.inl l4), some (.inl t0), d6, d7]) (st' := [.inl 1, .inl l4, .inr (.inr (some 0)), .inr (.inr (some 84))]) (h1 := hp L s c e) rfl ?_
  refine RuP.step (pc' := 419) (ls' := [some (.inr (.inr (some 0))), some (.inr (.inr (some 27))), some (.inr (.inr (some 84))), some (.inr (.inr (some 136))), some (.inl l4), some (.inl t0), d6, d7]) (st' := [.inl (ax_w32 (l4 + 1)), .inr (.inr (some 0)), .inr (.inr (some 84))]) (h1 := hp L s c e) rfl ?_
  obtain ⟨b0, h⟩ := gd_some h
  refine RuP.ald (f := fun t => t == 0) (j := ax_w32 (l4 + 1)) (a := 0) rfl rfl b0.1 b0.2 ?_
  obtain ⟨q20, h1, h⟩ := bd_some h
  refine RuP.cI rfl ((ev_203 h1).up (by decide)) ?_
  refine RuP.step (pc' := 425) (ls' := [some (.inr (.inr (some 0))), some (.inr (.inr (some 27))), some (.inr (.inr (some 84))), some (.inr (.inr (some 136))), some (.inl l4), some (.inl t0), some (.inl q20.1), d7]) (st' := []) (h1 := hp L q20.2 c e) rfl ?_
  refine RuP.step (pc' := 469) (ls' := [some (.inr (.inr (some 0))), some (.inr (.inr (some 27))), some (.inr (.inr (some 84))), some (.inr (.inr (some 136))), some (.inl l4), some (.inl t0), some (.inl q20.1), d7]) (st' := []) (h1 := hp L q20.2 c e) rfl ?_
  exact bl_279_469 hB hk23 _ _ _ _ _ _ _ _ (by omega) h
noncomputable def j_279_433 (L : Nat) (k23 : (Int → Sg → Option Int)) (l4 t0 : Int) (s : Sg) : Option Int :=
  ((f_204 s).bind fun q22 =>
  j_279_469 L k23 l4 q22.2)
set_option maxRecDepth 20000 in
theorem bl_279_433 {L B bF : Nat} {k23 : (Int → Sg → Option Int)} (hB : bF ≤ B) (hk23 : ∀ (c : Nat) (e : Nat → Nat) (d5 d6 d7 : Option ax_V) (l4 : Int) (s : Sg) (q : Int), c ≤ bF → k23 l4 s = some q → RuP 225 tb_m279 23 [some (.inr (.inr (some 0))), some (.inr (.inr (some 27))), some (.inr (.inr (some 84))), some (.inr (.inr (some 136))), some (.inl l4), d5, d6, d7] [] (hp L s c e) (oL L B q)) : ∀ (c : Nat) (e : Nat → Nat) (d5 d6 d7 : Option ax_V) (l4 t0 : Int) (s : Sg) (q : Int), c ≤ bF → j_279_433 L k23 l4 t0 s = some q → RuP 225 tb_m279 433 [some (.inr (.inr (some 0))), some (.inr (.inr (some 27))), some (.inr (.inr (some 84))), some (.inr (.inr (some 136))), some (.inl l4), d5, d6, d7] [.inl t0] (hp L s c e) (oL L B q) := by
  intro c e d5 d6 d7 l4 t0 s q hc h
  unfold j_279_433 at h
  refine RuP.step (pc' := 435) (ls' := [some (.inr (.inr (some 0))), some (.inr (.inr (some 27))), some (.inr (.inr (some 84))), some (.inr (.inr (some 136))), some (.inl l4), some (.inl t0), d6, d7]) (st' := []) (h1 := hp L s c e) rfl ?_
  refine RuP.step (pc' := 436) (ls' := [some (.inr (.inr (some 0))), some (.inr (.inr (some 27))), some (.inr (.inr (some 84))), some (.inr (.inr (some 136))), some (.inl l4), some (.inl t0), d6, d7]) (st' := [.inr (.inr (some 84))]) (h1 := hp L s c e) rfl ?_
  obtain ⟨q22, h1, h⟩ := bd_some h
  refine RuP.cI rfl ((ev_204 h1).up (by decide)) ?_
  refine RuP.step (pc' := 441) (ls' := [some (.inr (.inr (some 0))), some (.inr (.inr (some 27))), some (.inr (.inr (some 84))), some (.inr (.inr (some 136))), some (.inl l4), some (.inl t0), some (.inl q22.1), d7]) (st' := []) (h1 := hp L q22.2 c e) rfl ?_
  refine RuP.step (pc' := 469) (ls' := [some (.inr (.inr (some 0))), some (.inr (.inr (some 27))), some (.inr (.inr (some 84))), some (.inr (.inr (some 136))), some (.inl l4), some (.inl t0), some (.inl q22.1), d7]) (st' := []) (h1 := hp L q22.2 c e) rfl ?_
  exact bl_279_469 hB hk23 _ _ _ _ _ _ _ _ (by omega) h
noncomputable def j_279_23 (L : Nat) : Nat → Int → Sg → Option Int
  | 0, _, _ => none
  | F + 1, l4, s =>
    (if ax_w32 ((L : Int) - 5) < l4 then
      some 1
    else
      (gd (0 ≤ l4 ∧ l4 < L) (
      (if ax_iand (s 0 l4.toNat) 15 = 0 then
        (gd (0 ≤ ax_w32 (l4 + 1) ∧ ax_w32 (l4 + 1) < L) (
        (gd (0 ≤ ax_w32 (l4 + 2) ∧ ax_w32 (l4 + 2) < L) (
        (gd (0 ≤ ax_w32 (l4 + 3) ∧ ax_w32 (l4 + 3) < L) (
        (gd (0 ≤ ax_w32 (l4 + 4) ∧ ax_w32 (l4 + 4) < L) (
        ((f_280 (s 0 ((ax_w32 (l4 + 1)).toNat)) (s 0 ((ax_w32 (l4 + 2)).toNat)) (s 0 ((ax_w32 (l4 + 3)).toNat)) (s 0 ((ax_w32 (l4 + 4)).toNat)) s).bind fun q1 =>
        j_279_129 L (j_279_23 L F) l4 q1.1 q1.2)))))))))
      else
      (if ax_iand (s 0 l4.toNat) 15 = 1 then
        (gd (0 ≤ ax_w32 (l4 + 1) ∧ ax_w32 (l4 + 1) < L) (
        ((f_281 (s 0 ((ax_w32 (l4 + 1)).toNat)) s).bind fun q3 =>
        j_279_175 L (j_279_23 L F) l4 q3.1 q3.2)))
      else
      (if ax_iand (s 0 l4.toNat) 15 = 2 then
        ((f_282 s).bind fun q5 =>
        j_279_197 L (j_279_23 L F) l4 q5.1 q5.2)
      else
      (if ax_iand (s 0 l4.toNat) 15 = 3 then
        (gd (0 ≤ ax_w32 (l4 + 1) ∧ ax_w32 (l4 + 1) < L) (
        ((f_283 (s 0 ((ax_w32 (l4 + 1)).toNat)) s).bind fun q7 =>
        j_279_219 L (j_279_23 L F) l4 q7.1 q7.2)))
      else
      (if ax_iand (s 0 l4.toNat) 15 = 4 then
        (gd (0 ≤ ax_w32 (l4 + 1) ∧ ax_w32 (l4 + 1) < L) (
        (gd (0 ≤ ax_w32 (l4 + 2) ∧ ax_w32 (l4 + 2) < L) (
        ((f_284 (s 0 ((ax_w32 (l4 + 1)).toNat)) (s 0 ((ax_w32 (l4 + 2)).toNat)) s).bind fun q9 =>
        j_279_253 L (j_279_23 L F) l4 q9.1 q9.2)))))
      else
      (if ax_iand (s 0 l4.toNat) 15 = 5 then
        (gd (0 ≤ ax_w32 (l4 + 1) ∧ ax_w32 (l4 + 1) < L) (
        (gd (0 ≤ ax_w32 (l4 + 2) ∧ ax_w32 (l4 + 2) < L) (
        ((f_285 (s 0 ((ax_w32 (l4 + 1)).toNat)) (s 0 ((ax_w32 (l4 + 2)).toNat)) s).bind fun q11 =>
        j_279_293 L (j_279_23 L F) l4 q11.1 q11.2)))))
      else
      (if ax_iand (s 0 l4.toNat) 15 = 6 then
        (gd (0 ≤ ax_w32 (l4 + 1) ∧ ax_w32 (l4 + 1) < L) (
        (gd (0 ≤ ax_w32 (l4 + 2) ∧ ax_w32 (l4 + 2) < L) (
        ((f_286 (s 0 ((ax_w32 (l4 + 1)).toNat)) (s 0 ((ax_w32 (l4 + 2)).toNat)) s).bind fun q13 =>
        j_279_333 L (j_279_23 L F) l4 q13.1 q13.2)))))
      else
      (if ax_iand (s 0 l4.toNat) 15 = 7 then
        (gd (0 ≤ ax_w32 (l4 + 1) ∧ ax_w32 (l4 + 1) < L) (
        ((f_287 (s 0 ((ax_w32 (l4 + 1)).toNat)) s).bind fun q15 =>
        j_279_367 L (j_279_23 L F) l4 q15.1 q15.2)))
      else
      (if ax_iand (s 0 l4.toNat) 15 = 8 then
        ((f_288 s).bind fun q17 =>
        j_279_389 L (j_279_23 L F) l4 q17.1 q17.2)
      else
      (if ax_iand (s 0 l4.toNat) 15 = 9 then
        (gd (0 ≤ ax_w32 (l4 + 1) ∧ ax_w32 (l4 + 1) < L) (
        ((f_289 (s 0 ((ax_w32 (l4 + 1)).toNat)) s).bind fun q19 =>
        j_279_411 L (j_279_23 L F) l4 q19.1 q19.2)))
      else
      (if ax_iand (s 0 l4.toNat) 15 = 10 then
        ((f_290 s).bind fun q21 =>
        j_279_433 L (j_279_23 L F) l4 q21.1 q21.2)
      else
      (if ax_iand (s 0 l4.toNat) 15 = 11 then
        (gd (0 ≤ ax_w32 (l4 + 1) ∧ ax_w32 (l4 + 1) < L) (
        (gd (0 ≤ ax_w32 (l4 + 1) ∧ ax_w32 (l4 + 1) < L) (
        ((some (f_205 (s 0 ((ax_w32 (l4 + 1)).toNat)) s)).bind fun q23 =>
        (if f_1 (s 0 ((ax_w32 (l4 + 1)).toNat)) s = q23.1 then
          j_279_469 L (j_279_23 L F) l4 q23.2
        else
          some 0))))))
      else
        j_279_469 L (j_279_23 L F) l4 s)))))))))))))))
set_option maxRecDepth 20000 in
theorem bl_279_23 {L B : Nat} : ∀ (F : Nat) (c : Nat) (e : Nat → Nat) (d5 d6 d7 : Option ax_V) (l4 : Int) (s : Sg) (q : Int), c + 2 * F ≤ B → j_279_23 L F l4 s = some q → RuP 225 tb_m279 23 [some (.inr (.inr (some 0))), some (.inr (.inr (some 27))), some (.inr (.inr (some 84))), some (.inr (.inr (some 136))), some (.inl l4), d5, d6, d7] [] (hp L s c e) (oL L B q) := by
  intro F
  induction F with
  | zero =>
    intro c e d5 d6 d7 l4 s q hc h
    rw [j_279_23] at h
    cases h
  | succ F ih0 =>
    intro c e d5 d6 d7 l4 s q hc h
    rw [j_279_23] at h
    have hB : B - 2 * F ≤ B := by omega
    have ih := fun c e d5 d6 d7 l4 s q (hc : c ≤ B - 2 * F) h => ih0 c e d5 d6 d7 l4 s q (by omega) h
    have hcc : c + 2 ≤ B - 2 * F := by omega
    refine RuP.step (pc' := 25) (ls' := [some (.inr (.inr (some 0))), some (.inr (.inr (some 27))), some (.inr (.inr (some 84))), some (.inr (.inr (some 136))), some (.inl l4), d5, d6, d7]) (st' := [.inl l4]) (h1 := hp L s c e) rfl ?_
    refine RuP.step (pc' := 26) (ls' := [some (.inr (.inr (some 0))), some (.inr (.inr (some 27))), some (.inr (.inr (some 84))), some (.inr (.inr (some 136))), some (.inl l4), d5, d6, d7]) (st' := [.inr (.inr (some 0)), .inl l4]) (h1 := hp L s c e) rfl ?_
    refine RuP.step (pc' := 27) (ls' := [some (.inr (.inr (some 0))), some (.inr (.inr (some 27))), some (.inr (.inr (some 84))), some (.inr (.inr (some 136))), some (.inl l4), d5, d6, d7]) (st' := [.inl (L : Int), .inl l4]) (h1 := hp L s c e) rfl ?_
    refine RuP.step (pc' := 28) (ls' := [some (.inr (.inr (some 0))), some (.inr (.inr (some 27))), some (.inr (.inr (some 84))), some (.inr (.inr (some 136))), some (.inl l4), d5, d6, d7]) (st' := [.inl 5, .inl (L : Int), .inl l4]) (h1 := hp L s c e) rfl ?_
    refine RuP.step (pc' := 29) (ls' := [some (.inr (.inr (some 0))), some (.inr (.inr (some 27))), some (.inr (.inr (some 84))), some (.inr (.inr (some 136))), some (.inl l4), d5, d6, d7]) (st' := [.inl (ax_w32 ((L : Int) - 5)), .inl l4]) (h1 := hp L s c e) rfl ?_
    by_cases h0 : ax_w32 ((L : Int) - 5) < l4
    · rw [if_pos h0] at h
      refine RuP.jy rfl h0 ?_
      refine RuP.step (pc' := 476) (ls' := [some (.inr (.inr (some 0))), some (.inr (.inr (some 27))), some (.inr (.inr (some 84))), some (.inr (.inr (some 136))), some (.inl l4), d5, d6, d7]) (st' := [.inl 1]) (h1 := hp L s c e) rfl ?_
      cases h
      exact RuP.dL rfl (by omega)
    · rw [if_neg h0] at h
      refine RuP.jn rfl h0 ?_
      refine RuP.step (pc' := 33) (ls' := [some (.inr (.inr (some 0))), some (.inr (.inr (some 27))), some (.inr (.inr (some 84))), some (.inr (.inr (some 136))), some (.inl l4), d5, d6, d7]) (st' := [.inr (.inr (some 0))]) (h1 := hp L s c e) rfl ?_
      refine RuP.step (pc' := 35) (ls' := [some (.inr (.inr (some 0))), some (.inr (.inr (some 27))), some (.inr (.inr (some 84))), some (.inr (.inr (some 136))), some (.inl l4), d5, d6, d7]) (st' := [.inl l4, .inr (.inr (some 0))]) (h1 := hp L s c e) rfl ?_
      obtain ⟨b1, h⟩ := gd_some h
      refine RuP.ald (f := fun t => t == 0) (j := l4) (a := 0) rfl rfl b1.1 b1.2 ?_
      refine RuP.step (pc' := 38) (ls' := [some (.inr (.inr (some 0))), some (.inr (.inr (some 27))), some (.inr (.inr (some 84))), some (.inr (.inr (some 136))), some (.inl l4), d5, d6, d7]) (st' := [.inl 15, .inl (s 0 l4.toNat)]) (h1 := hp L s c e) rfl ?_
      refine RuP.step (pc' := 39) (ls' := [some (.inr (.inr (some 0))), some (.inr (.inr (some 27))), some (.inr (.inr (some 84))), some (.inr (.inr (some 136))), some (.inl l4), d5, d6, d7]) (st' := [.inl (ax_iand (s 0 l4.toNat) 15)]) (h1 := hp L s c e) rfl ?_
      by_cases h2 : ax_iand (s 0 l4.toNat) 15 = 0
      · rw [if_pos h2] at h
        have J3 : RuP 225 tb_m279 100 [some (.inr (.inr (some 0))), some (.inr (.inr (some 27))), some (.inr (.inr (some 84))), some (.inr (.inr (some 136))), some (.inl l4), d5, d6, d7] [] (hp L s c e) (oL L B q) := by
          refine RuP.step (pc' := 101) (ls' := [some (.inr (.inr (some 0))), some (.inr (.inr (some 27))), some (.inr (.inr (some 84))), some (.inr (.inr (some 136))), some (.inl l4), d5, d6, d7]) (st' := [.inr (.inr (some 27))]) (h1 := hp L s c e) rfl ?_
          refine RuP.step (pc' := 102) (ls' := [some (.inr (.inr (some 0))), some (.inr (.inr (some 27))), some (.inr (.inr (some 84))), some (.inr (.inr (some 136))), some (.inl l4), d5, d6, d7]) (st' := [.inr (.inr (some 0)), .inr (.inr (some 27))]) (h1 := hp L s c e) rfl ?_
          refine RuP.step (pc' := 104) (ls' := [some (.inr (.inr (some 0))), some (.inr (.inr (some 27))), some (.inr (.inr (some 84))), some (.inr (.inr (some 136))), some (.inl l4), d5, d6, d7]) (st' := [.inl l4, .inr (.inr (some 0)), .inr (.inr (some 27))]) (h1 := hp L s c e) rfl ?_
          refine RuP.step (pc' := 105) (ls' := [some (.inr (.inr (some 0))), some (.inr (.inr (some 27))), some (.inr (.inr (some 84))), some (.inr (.inr (some 136))), some (.inl l4), d5, d6, d7]) (st' := [.inl 1, .inl l4, .inr (.inr (some 0)), .inr (.inr (some 27))]) (h1 := hp L s c e) rfl ?_
          refine RuP.step (pc' := 106) (ls' := [some (.inr (.inr (some 0))), some (.inr (.inr (some 27))), some (.inr (.inr (some 84))), some (.inr (.inr (some 136))), some (.inl l4), d5, d6, d7]) (st' := [.inl (ax_w32 (l4 + 1)), .inr (.inr (some 0)), .inr (.inr (some 27))]) (h1 := hp L s c e) rfl ?_
          obtain ⟨b3, h⟩ := gd_some h
          refine RuP.ald (f := fun t => t == 0) (j := ax_w32 (l4 + 1)) (a := 0) rfl rfl b3.1 b3.2 ?_
          refine RuP.step (pc' := 108) (ls' := [some (.inr (.inr (some 0))), some (.inr (.inr (some 27))), some (.inr (.inr (some 84))), some (.inr (.inr (some 136))), some (.inl l4), d5, d6, d7]) (st' := [.inr (.inr (some 0)), .inl (s 0 ((ax_w32 (l4 + 1)).toNat)), .inr (.inr (some 27))]) (h1 := hp L s c e) rfl ?_
          refine RuP.step (pc' := 110) (ls' := [some (.inr (.inr (some 0))), some (.inr (.inr (some 27))), some (.inr (.inr (some 84))), some (.inr (.inr (some 136))), some (.inl l4), d5, d6, d7]) (st' := [.inl l4, .inr (.inr (some 0)), .inl (s 0 ((ax_w32 (l4 + 1)).toNat)), .inr (.inr (some 27))]) (h1 := hp L s c e) rfl ?_
          refine RuP.step (pc' := 111) (ls' := [some (.inr (.inr (some 0))), some (.inr (.inr (some 27))), some (.inr (.inr (some 84))), some (.inr (.inr (some 136))), some (.inl l4), d5, d6, d7]) (st' := [.inl 2, .inl l4, .inr (.inr (some 0)), .inl (s 0 ((ax_w32 (l4 + 1)).toNat)), .inr (.inr (some 27))]) (h1 := hp L s c e) rfl ?_
          refine RuP.step (pc' := 112) (ls' := [some (.inr (.inr (some 0))), some (.inr (.inr (some 27))), some (.inr (.inr (some 84))), some (.inr (.inr (some 136))), some (.inl l4), d5, d6, d7]) (st' := [.inl (ax_w32 (l4 + 2)), .inr (.inr (some 0)), .inl (s 0 ((ax_w32 (l4 + 1)).toNat)), .inr (.inr (some 27))]) (h1 := hp L s c e) rfl ?_
          obtain ⟨b4, h⟩ := gd_some h
          refine RuP.ald (f := fun t => t == 0) (j := ax_w32 (l4 + 2)) (a := 0) rfl rfl b4.1 b4.2 ?_
          refine RuP.step (pc' := 114) (ls' := [some (.inr (.inr (some 0))), some (.inr (.inr (some 27))), some (.inr (.inr (some 84))), some (.inr (.inr (some 136))), some (.inl l4), d5, d6, d7]) (st' := [.inr (.inr (some 0)), .inl (s 0 ((ax_w32 (l4 + 2)).toNat)), .inl (s 0 ((ax_w32 (l4 + 1)).toNat)), .inr (.inr (some 27))]) (h1 := hp L s c e) rfl ?_
          refine RuP.step (pc' := 116) (ls' := [some (.inr (.inr (some 0))), some (.inr (.inr (some 27))), some (.inr (.inr (some 84))), some (.inr (.inr (some 136))), some (.inl l4), d5, d6, d7]) (st' := [.inl l4, .inr (.inr (some 0)), .inl (s 0 ((ax_w32 (l4 + 2)).toNat)), .inl (s 0 ((ax_w32 (l4 + 1)).toNat)), .inr (.inr (some 27))]) (h1 := hp L s c e) rfl ?_
          refine RuP.step (pc' := 117) (ls' := [some (.inr (.inr (some 0))), some (.inr (.inr (some 27))), some (.inr (.inr (some 84))), some (.inr (.inr (some 136))), some (.inl l4), d5, d6, d7]) (st' := [.inl 3, .inl l4, .inr (.inr (some 0)), .inl (s 0 ((ax_w32 (l4 + 2)).toNat)), .inl (s 0 ((ax_w32 (l4 + 1)).toNat)), .inr (.inr (some 27))]) (h1 := hp L s c e) rfl ?_
          refine RuP.step (pc' := 118) (ls' := [some (.inr (.inr (some 0))), some (.inr (.inr (some 27))), some (.inr (.inr (some 84))), some (.inr (.inr (some 136))), some (.inl l4), d5, d6, d7]) (st' := [.inl (ax_w32 (l4 + 3)), .inr (.inr (some 0)), .inl (s 0 ((ax_w32 (l4 + 2)).toNat)), .inl (s 0 ((ax_w32 (l4 + 1)).toNat)), .inr (.inr (some 27))]) (h1 := hp L s c e) rfl ?_
          obtain ⟨b5, h⟩ := gd_some h
          refine RuP.ald (f := fun t => t == 0) (j := ax_w32 (l4 + 3)) (a := 0) rfl rfl b5.1 b5.2 ?_
          refine RuP.step (pc' := 120) (ls' := [some (.inr (.inr (some 0))), some (.inr (.inr (some 27))), some (.inr (.inr (some 84))), some (.inr (.inr (some 136))), some (.inl l4), d5, d6, d7]) (st' := [.inr (.inr (some 0)), .inl (s 0 ((ax_w32 (l4 + 3)).toNat)), .inl (s 0 ((ax_w32 (l4 + 2)).toNat)), .inl (s 0 ((ax_w32 (l4 + 1)).toNat)), .inr (.inr (some 27))]) (h1 := hp L s c e) rfl ?_
          refine RuP.step (pc' := 122) (ls' := [some (.inr (.inr (some 0))), some (.inr (.inr (some 27))), some (.inr (.inr (some 84))), some (.inr (.inr (some 136))), some (.inl l4), d5, d6, d7]) (st' := [.inl l4, .inr (.inr (some 0)), .inl (s 0 ((ax_w32 (l4 + 3)).toNat)), .inl (s 0 ((ax_w32 (l4 + 2)).toNat)), .inl (s 0 ((ax_w32 (l4 + 1)).toNat)), .inr (.inr (some 27))]) (h1 := hp L s c e) rfl ?_
          refine RuP.step (pc' := 123) (ls' := [some (.inr (.inr (some 0))), some (.inr (.inr (some 27))), some (.inr (.inr (some 84))), some (.inr (.inr (some 136))), some (.inl l4), d5, d6, d7]) (st' := [.inl 4, .inl l4, .inr (.inr (some 0)), .inl (s 0 ((ax_w32 (l4 + 3)).toNat)), .inl (s 0 ((ax_w32 (l4 + 2)).toNat)), .inl (s 0 ((ax_w32 (l4 + 1)).toNat)), .inr (.inr (some 27))]) (h1 := hp L s c e) rfl ?_
          refine RuP.step (pc' := 124) (ls' := [some (.inr (.inr (some 0))), some (.inr (.inr (some 27))), some (.inr (.inr (some 84))), some (.inr (.inr (some 136))), some (.inl l4), d5, d6, d7]) (st' := [.inl (ax_w32 (l4 + 4)), .inr (.inr (some 0)), .inl (s 0 ((ax_w32 (l4 + 3)).toNat)), .inl (s 0 ((ax_w32 (l4 + 2)).toNat)), .inl (s 0 ((ax_w32 (l4 + 1)).toNat)), .inr (.inr (some 27))]) (h1 := hp L s c e) rfl ?_
          obtain ⟨b6, h⟩ := gd_some h
          refine RuP.ald (f := fun t => t == 0) (j := ax_w32 (l4 + 4)) (a := 0) rfl rfl b6.1 b6.2 ?_
          refine RuP.step (pc' := 126) (ls' := [some (.inr (.inr (some 0))), some (.inr (.inr (some 27))), some (.inr (.inr (some 84))), some (.inr (.inr (some 136))), some (.inl l4), d5, d6, d7]) (st' := [.inr (.inr (some 136)), .inl (s 0 ((ax_w32 (l4 + 4)).toNat)), .inl (s 0 ((ax_w32 (l4 + 3)).toNat)), .inl (s 0 ((ax_w32 (l4 + 2)).toNat)), .inl (s 0 ((ax_w32 (l4 + 1)).toNat)), .inr (.inr (some 27))]) (h1 := hp L s c e) rfl ?_
          obtain ⟨q1, h1, h⟩ := bd_some h
          refine RuP.cCI (k := 2) rfl ((ev_280 h1).up (by decide)) (fun c' e' hc' => ?_)
          exact bl_279_129 hB ih _ _ _ _ _ _ _ _ _ (by omega) h
        exact RuP.sw (i := .tableswitch (430) (0) (11) #[61, 125, 153, 169, 197, 237, 277, 317, 345, 361, 389, 405]) rfl h2 rfl J3
      rw [if_neg h2] at h
      by_cases h7 : ax_iand (s 0 l4.toNat) 15 = 1
      · rw [if_pos h7] at h
        have J8 : RuP 225 tb_m279 164 [some (.inr (.inr (some 0))), some (.inr (.inr (some 27))), some (.inr (.inr (some 84))), some (.inr (.inr (some 136))), some (.inl l4), d5, d6, d7] [] (hp L s c e) (oL L B q) := by
          refine RuP.step (pc' := 165) (ls' := [some (.inr (.inr (some 0))), some (.inr (.inr (some 27))), some (.inr (.inr (some 84))), some (.inr (.inr (some 136))), some (.inl l4), d5, d6, d7]) (st' := [.inr (.inr (some 27))]) (h1 := hp L s c e) rfl ?_
          refine RuP.step (pc' := 166) (ls' := [some (.inr (.inr (some 0))), some (.inr (.inr (some 27))), some (.inr (.inr (some 84))), some (.inr (.inr (some 136))), some (.inl l4), d5, d6, d7]) (st' := [.inr (.inr (some 0)), .inr (.inr (some 27))]) (h1 := hp L s c e) rfl ?_
          refine RuP.step (pc' := 168) (ls' := [some (.inr (.inr (some 0))), some (.inr (.inr (some 27))), some (.inr (.inr (some 84))), some (.inr (.inr (some 136))), some (.inl l4), d5, d6, d7]) (st' := [.inl l4, .inr (.inr (some 0)), .inr (.inr (some 27))]) (h1 := hp L s c e) rfl ?_
          refine RuP.step (pc' := 169) (ls' := [some (.inr (.inr (some 0))), some (.inr (.inr (some 27))), some (.inr (.inr (some 84))), some (.inr (.inr (some 136))), some (.inl l4), d5, d6, d7]) (st' := [.inl 1, .inl l4, .inr (.inr (some 0)), .inr (.inr (some 27))]) (h1 := hp L s c e) rfl ?_
          refine RuP.step (pc' := 170) (ls' := [some (.inr (.inr (some 0))), some (.inr (.inr (some 27))), some (.inr (.inr (some 84))), some (.inr (.inr (some 136))), some (.inl l4), d5, d6, d7]) (st' := [.inl (ax_w32 (l4 + 1)), .inr (.inr (some 0)), .inr (.inr (some 27))]) (h1 := hp L s c e) rfl ?_
          obtain ⟨b8, h⟩ := gd_some h
          refine RuP.ald (f := fun t => t == 0) (j := ax_w32 (l4 + 1)) (a := 0) rfl rfl b8.1 b8.2 ?_
          refine RuP.step (pc' := 172) (ls' := [some (.inr (.inr (some 0))), some (.inr (.inr (some 27))), some (.inr (.inr (some 84))), some (.inr (.inr (some 136))), some (.inl l4), d5, d6, d7]) (st' := [.inr (.inr (some 136)), .inl (s 0 ((ax_w32 (l4 + 1)).toNat)), .inr (.inr (some 27))]) (h1 := hp L s c e) rfl ?_
          obtain ⟨q3, h1, h⟩ := bd_some h
          refine RuP.cCI (k := 2) rfl ((ev_281 h1).up (by decide)) (fun c' e' hc' => ?_)
          exact bl_279_175 hB ih _ _ _ _ _ _ _ _ _ (by omega) h
        exact RuP.sw (i := .tableswitch (430) (0) (11) #[61, 125, 153, 169, 197, 237, 277, 317, 345, 361, 389, 405]) rfl h7 rfl J8
      rw [if_neg h7] at h
      by_cases h9 : ax_iand (s 0 l4.toNat) 15 = 2
      · rw [if_pos h9] at h
        have J10 : RuP 225 tb_m279 192 [some (.inr (.inr (some 0))), some (.inr (.inr (some 27))), some (.inr (.inr (some 84))), some (.inr (.inr (some 136))), some (.inl l4), d5, d6, d7] [] (hp L s c e) (oL L B q) := by
          refine RuP.step (pc' := 193) (ls' := [some (.inr (.inr (some 0))), some (.inr (.inr (some 27))), some (.inr (.inr (some 84))), some (.inr (.inr (some 136))), some (.inl l4), d5, d6, d7]) (st' := [.inr (.inr (some 27))]) (h1 := hp L s c e) rfl ?_
          refine RuP.step (pc' := 194) (ls' := [some (.inr (.inr (some 0))), some (.inr (.inr (some 27))), some (.inr (.inr (some 84))), some (.inr (.inr (some 136))), some (.inl l4), d5, d6, d7]) (st' := [.inr (.inr (some 136)), .inr (.inr (some 27))]) (h1 := hp L s c e) rfl ?_
          obtain ⟨q5, h1, h⟩ := bd_some h
          refine RuP.cCI (k := 2) rfl ((ev_282 h1).up (by decide)) (fun c' e' hc' => ?_)
          exact bl_279_197 hB ih _ _ _ _ _ _ _ _ _ (by omega) h
        exact RuP.sw (i := .tableswitch (430) (0) (11) #[61, 125, 153, 169, 197, 237, 277, 317, 345, 361, 389, 405]) rfl h9 rfl J10
      rw [if_neg h9] at h
      by_cases h10 : ax_iand (s 0 l4.toNat) 15 = 3
      · rw [if_pos h10] at h
        have J11 : RuP 225 tb_m279 208 [some (.inr (.inr (some 0))), some (.inr (.inr (some 27))), some (.inr (.inr (some 84))), some (.inr (.inr (some 136))), some (.inl l4), d5, d6, d7] [] (hp L s c e) (oL L B q) := by
          refine RuP.step (pc' := 209) (ls' := [some (.inr (.inr (some 0))), some (.inr (.inr (some 27))), some (.inr (.inr (some 84))), some (.inr (.inr (some 136))), some (.inl l4), d5, d6, d7]) (st' := [.inr (.inr (some 27))]) (h1 := hp L s c e) rfl ?_
          refine RuP.step (pc' := 210) (ls' := [some (.inr (.inr (some 0))), some (.inr (.inr (some 27))), some (.inr (.inr (some 84))), some (.inr (.inr (some 136))), some (.inl l4), d5, d6, d7]) (st' := [.inr (.inr (some 0)), .inr (.inr (some 27))]) (h1 := hp L s c e) rfl ?_
          refine RuP.step (pc' := 212) (ls' := [some (.inr (.inr (some 0))), some (.inr (.inr (some 27))), some (.inr (.inr (some 84))), some (.inr (.inr (some 136))), some (.inl l4), d5, d6, d7]) (st' := [.inl l4, .inr (.inr (some 0)), .inr (.inr (some 27))]) (h1 := hp L s c e) rfl ?_
          refine RuP.step (pc' := 213) (ls' := [some (.inr (.inr (some 0))), some (.inr (.inr (some 27))), some (.inr (.inr (some 84))), some (.inr (.inr (some 136))), some (.inl l4), d5, d6, d7]) (st' := [.inl 1, .inl l4, .inr (.inr (some 0)), .inr (.inr (some 27))]) (h1 := hp L s c e) rfl ?_
          refine RuP.step (pc' := 214) (ls' := [some (.inr (.inr (some 0))), some (.inr (.inr (some 27))), some (.inr (.inr (some 84))), some (.inr (.inr (some 136))), some (.inl l4), d5, d6, d7]) (st' := [.inl (ax_w32 (l4 + 1)), .inr (.inr (some 0)), .inr (.inr (some 27))]) (h1 := hp L s c e) rfl ?_
          obtain ⟨b11, h⟩ := gd_some h
          refine RuP.ald (f := fun t => t == 0) (j := ax_w32 (l4 + 1)) (a := 0) rfl rfl b11.1 b11.2 ?_
          refine RuP.step (pc' := 216) (ls' := [some (.inr (.inr (some 0))), some (.inr (.inr (some 27))), some (.inr (.inr (some 84))), some (.inr (.inr (some 136))), some (.inl l4), d5, d6, d7]) (st' := [.inr (.inr (some 136)), .inl (s 0 ((ax_w32 (l4 + 1)).toNat)), .inr (.inr (some 27))]) (h1 := hp L s c e) rfl ?_
          obtain ⟨q7, h1, h⟩ := bd_some h
          refine RuP.cCI (k := 2) rfl ((ev_283 h1).up (by decide)) (fun c' e' hc' => ?_)
          exact bl_279_219 hB ih _ _ _ _ _ _ _ _ _ (by omega) h
        exact RuP.sw (i := .tableswitch (430) (0) (11) #[61, 125, 153, 169, 197, 237, 277, 317, 345, 361, 389, 405]) rfl h10 rfl J11
      rw [if_neg h10] at h
      by_cases h12 : ax_iand (s 0 l4.toNat) 15 = 4
      · rw [if_pos h12] at h
        have J13 : RuP 225 tb_m279 236 [some (.inr (.inr (some 0))), some (.inr (.inr (some 27))), some (.inr (.inr (some 84))), some (.inr (.inr (some 136))), some (.inl l4), d5, d6, d7] [] (hp L s c e) (oL L B q) := by
          refine RuP.step (pc' := 237) (ls' := [some (.inr (.inr (some 0))), some (.inr (.inr (some 27))), some (.inr (.inr (some 84))), some (.inr (.inr (some 136))), some (.inl l4), d5, d6, d7]) (st' := [.inr (.inr (some 27))]) (h1 := hp L s c e) rfl ?_
          refine RuP.step (pc' := 238) (ls' := [some (.inr (.inr (some 0))), some (.inr (.inr (some 27))), some (.inr (.inr (some 84))), some (.inr (.inr (some 136))), some (.inl l4), d5, d6, d7]) (st' := [.inr (.inr (some 0)), .inr (.inr (some 27))]) (h1 := hp L s c e) rfl ?_
          refine RuP.step (pc' := 240) (ls' := [some (.inr (.inr (some 0))), some (.inr (.inr (some 27))), some (.inr (.inr (some 84))), some (.inr (.inr (some 136))), some (.inl l4), d5, d6, d7]) (st' := [.inl l4, .inr (.inr (some 0)), .inr (.inr (some 27))]) (h1 := hp L s c e) rfl ?_
          refine RuP.step (pc' := 241) (ls' := [some (.inr (.inr (some 0))), some (.inr (.inr (some 27))), some (.inr (.inr (some 84))), some (.inr (.inr (some 136))), some (.inl l4), d5, d6, d7]) (st' := [.inl 1, .inl l4, .inr (.inr (some 0)), .inr (.inr (some 27))]) (h1 := hp L s c e) rfl ?_
          refine RuP.step (pc' := 242) (ls' := [some (.inr (.inr (some 0))), some (.inr (.inr (some 27))), some (.inr (.inr (some 84))), some (.inr (.inr (some 136))), some (.inl l4), d5, d6, d7]) (st' := [.inl (ax_w32 (l4 + 1)), .inr (.inr (some 0)), .inr (.inr (some 27))]) (h1 := hp L s c e) rfl ?_
          obtain ⟨b13, h⟩ := gd_some h
          refine RuP.ald (f := fun t => t == 0) (j := ax_w32 (l4 + 1)) (a := 0) rfl rfl b13.1 b13.2 ?_
          refine RuP.step (pc' := 244) (ls' := [some (.inr (.inr (some 0))), some (.inr (.inr (some 27))), some (.inr (.inr (some 84))), some (.inr (.inr (some 136))), some (.inl l4), d5, d6, d7]) (st' := [.inr (.inr (some 0)), .inl (s 0 ((ax_w32 (l4 + 1)).toNat)), .inr (.inr (some 27))]) (h1 := hp L s c e) rfl ?_
          refine RuP.step (pc' := 246) (ls' := [some (.inr (.inr (some 0))), some (.inr (.inr (some 27))), some (.inr (.inr (some 84))), some (.inr (.inr (some 136))), some (.inl l4), d5, d6, d7]) (st' := [.inl l4, .inr (.inr (some 0)), .inl (s 0 ((ax_w32 (l4 + 1)).toNat)), .inr (.inr (some 27))]) (h1 := hp L s c e) rfl ?_
          refine RuP.step (pc' := 247) (ls' := [some (.inr (.inr (some 0))), some (.inr (.inr (some 27))), some (.inr (.inr (some 84))), some (.inr (.inr (some 136))), some (.inl l4), d5, d6, d7]) (st' := [.inl 2, .inl l4, .inr (.inr (some 0)), .inl (s 0 ((ax_w32 (l4 + 1)).toNat)), .inr (.inr (some 27))]) (h1 := hp L s c e) rfl ?_
          refine RuP.step (pc' := 248) (ls' := [some (.inr (.inr (some 0))), some (.inr (.inr (some 27))), some (.inr (.inr (some 84))), some (.inr (.inr (some 136))), some (.inl l4), d5, d6, d7]) (st' := [.inl (ax_w32 (l4 + 2)), .inr (.inr (some 0)), .inl (s 0 ((ax_w32 (l4 + 1)).toNat)), .inr (.inr (some 27))]) (h1 := hp L s c e) rfl ?_
          obtain ⟨b14, h⟩ := gd_some h
          refine RuP.ald (f := fun t => t == 0) (j := ax_w32 (l4 + 2)) (a := 0) rfl rfl b14.1 b14.2 ?_
          refine RuP.step (pc' := 250) (ls' := [some (.inr (.inr (some 0))), some (.inr (.inr (some 27))), some (.inr (.inr (some 84))), some (.inr (.inr (some 136))), some (.inl l4), d5, d6, d7]) (st' := [.inr (.inr (some 136)), .inl (s 0 ((ax_w32 (l4 + 2)).toNat)), .inl (s 0 ((ax_w32 (l4 + 1)).toNat)), .inr (.inr (some 27))]) (h1 := hp L s c e) rfl ?_
          obtain ⟨q9, h1, h⟩ := bd_some h
          refine RuP.cCI (k := 2) rfl ((ev_284 h1).up (by decide)) (fun c' e' hc' => ?_)
          exact bl_279_253 hB ih _ _ _ _ _ _ _ _ _ (by omega) h
        exact RuP.sw (i := .tableswitch (430) (0) (11) #[61, 125, 153, 169, 197, 237, 277, 317, 345, 361, 389, 405]) rfl h12 rfl J13
      rw [if_neg h12] at h
      by_cases h15 : ax_iand (s 0 l4.toNat) 15 = 5
      · rw [if_pos h15] at h
        have J16 : RuP 225 tb_m279 276 [some (.inr (.inr (some 0))), some (.inr (.inr (some 27))), some (.inr (.inr (some 84))), some (.inr (.inr (some 136))), some (.inl l4), d5, d6, d7] [] (hp L s c e) (oL L B q) := by
          refine RuP.step (pc' := 277) (ls' := [some (.inr (.inr (some 0))), some (.inr (.inr (some 27))), some (.inr (.inr (some 84))), some (.inr (.inr (some 136))), some (.inl l4), d5, d6, d7]) (st' := [.inr (.inr (some 27))]) (h1 := hp L s c e) rfl ?_
          refine RuP.step (pc' := 278) (ls' := [some (.inr (.inr (some 0))), some (.inr (.inr (some 27))), some (.inr (.inr (some 84))), some (.inr (.inr (some 136))), some (.inl l4), d5, d6, d7]) (st' := [.inr (.inr (some 0)), .inr (.inr (some 27))]) (h1 := hp L s c e) rfl ?_
          refine RuP.step (pc' := 280) (ls' := [some (.inr (.inr (some 0))), some (.inr (.inr (some 27))), some (.inr (.inr (some 84))), some (.inr (.inr (some 136))), some (.inl l4), d5, d6, d7]) (st' := [.inl l4, .inr (.inr (some 0)), .inr (.inr (some 27))]) (h1 := hp L s c e) rfl ?_
          refine RuP.step (pc' := 281) (ls' := [some (.inr (.inr (some 0))), some (.inr (.inr (some 27))), some (.inr (.inr (some 84))), some (.inr (.inr (some 136))), some (.inl l4), d5, d6, d7]) (st' := [.inl 1, .inl l4, .inr (.inr (some 0)), .inr (.inr (some 27))]) (h1 := hp L s c e) rfl ?_
          refine RuP.step (pc' := 282) (ls' := [some (.inr (.inr (some 0))), some (.inr (.inr (some 27))), some (.inr (.inr (some 84))), some (.inr (.inr (some 136))), some (.inl l4), d5, d6, d7]) (st' := [.inl (ax_w32 (l4 + 1)), .inr (.inr (some 0)), .inr (.inr (some 27))]) (h1 := hp L s c e) rfl ?_
          obtain ⟨b16, h⟩ := gd_some h
          refine RuP.ald (f := fun t => t == 0) (j := ax_w32 (l4 + 1)) (a := 0) rfl rfl b16.1 b16.2 ?_
          refine RuP.step (pc' := 284) (ls' := [some (.inr (.inr (some 0))), some (.inr (.inr (some 27))), some (.inr (.inr (some 84))), some (.inr (.inr (some 136))), some (.inl l4), d5, d6, d7]) (st' := [.inr (.inr (some 0)), .inl (s 0 ((ax_w32 (l4 + 1)).toNat)), .inr (.inr (some 27))]) (h1 := hp L s c e) rfl ?_
          refine RuP.step (pc' := 286) (ls' := [some (.inr (.inr (some 0))), some (.inr (.inr (some 27))), some (.inr (.inr (some 84))), some (.inr (.inr (some 136))), some (.inl l4), d5, d6, d7]) (st' := [.inl l4, .inr (.inr (some 0)), .inl (s 0 ((ax_w32 (l4 + 1)).toNat)), .inr (.inr (some 27))]) (h1 := hp L s c e) rfl ?_
          refine RuP.step (pc' := 287) (ls' := [some (.inr (.inr (some 0))), some (.inr (.inr (some 27))), some (.inr (.inr (some 84))), some (.inr (.inr (some 136))), some (.inl l4), d5, d6, d7]) (st' := [.inl 2, .inl l4, .inr (.inr (some 0)), .inl (s 0 ((ax_w32 (l4 + 1)).toNat)), .inr (.inr (some 27))]) (h1 := hp L s c e) rfl ?_
          refine RuP.step (pc' := 288) (ls' := [some (.inr (.inr (some 0))), some (.inr (.inr (some 27))), some (.inr (.inr (some 84))), some (.inr (.inr (some 136))), some (.inl l4), d5, d6, d7]) (st' := [.inl (ax_w32 (l4 + 2)), .inr (.inr (some 0)), .inl (s 0 ((ax_w32 (l4 + 1)).toNat)), .inr (.inr (some 27))]) (h1 := hp L s c e) rfl ?_
          obtain ⟨b17, h⟩ := gd_some h
          refine RuP.ald (f := fun t => t == 0) (j := ax_w32 (l4 + 2)) (a := 0) rfl rfl b17.1 b17.2 ?_
          refine RuP.step (pc' := 290) (ls' := [some (.inr (.inr (some 0))), some (.inr (.inr (some 27))), some (.inr (.inr (some 84))), some (.inr (.inr (some 136))), some (.inl l4), d5, d6, d7]) (st' := [.inr (.inr (some 136)), .inl (s 0 ((ax_w32 (l4 + 2)).toNat)), .inl (s 0 ((ax_w32 (l4 + 1)).toNat)), .inr (.inr (some 27))]) (h1 := hp L s c e) rfl ?_
          obtain ⟨q11, h1, h⟩ := bd_some h
          refine RuP.cCI (k := 2) rfl ((ev_285 h1).up (by decide)) (fun c' e' hc' => ?_)
          exact bl_279_293 hB ih _ _ _ _ _ _ _ _ _ (by omega) h
        exact RuP.sw (i := .tableswitch (430) (0) (11) #[61, 125, 153, 169, 197, 237, 277, 317, 345, 361, 389, 405]) rfl h15 rfl J16
      rw [if_neg h15] at h
      by_cases h18 : ax_iand (s 0 l4.toNat) 15 = 6
      · rw [if_pos h18] at h
        have J19 : RuP 225 tb_m279 316 [some (.inr (.inr (some 0))), some (.inr (.inr (some 27))), some (.inr (.inr (some 84))), some (.inr (.inr (some 136))), some (.inl l4), d5, d6, d7] [] (hp L s c e) (oL L B q) := by
          refine RuP.step (pc' := 317) (ls' := [some (.inr (.inr (some 0))), some (.inr (.inr (some 27))), some (.inr (.inr (some 84))), some (.inr (.inr (some 136))), some (.inl l4), d5, d6, d7]) (st' := [.inr (.inr (some 27))]) (h1 := hp L s c e) rfl ?_
          refine RuP.step (pc' := 318) (ls' := [some (.inr (.inr (some 0))), some (.inr (.inr (some 27))), some (.inr (.inr (some 84))), some (.inr (.inr (some 136))), some (.inl l4), d5, d6, d7]) (st' := [.inr (.inr (some 0)), .inr (.inr (some 27))]) (h1 := hp L s c e) rfl ?_
          refine RuP.step (pc' := 320) (ls' := [some (.inr (.inr (some 0))), some (.inr (.inr (some 27))), some (.inr (.inr (some 84))), some (.inr (.inr (some 136))), some (.inl l4), d5, d6, d7]) (st' := [.inl l4, .inr (.inr (some 0)), .inr (.inr (some 27))]) (h1 := hp L s c e) rfl ?_
          refine RuP.step (pc' := 321) (ls' := [some (.inr (.inr (some 0))), some (.inr (.inr (some 27))), some (.inr (.inr (some 84))), some (.inr (.inr (some 136))), some (.inl l4), d5, d6, d7]) (st' := [.inl 1, .inl l4, .inr (.inr (some 0)), .inr (.inr (some 27))]) (h1 := hp L s c e) rfl ?_
          refine RuP.step (pc' := 322) (ls' := [some (.inr (.inr (some 0))), some (.inr (.inr (some 27))), some (.inr (.inr (some 84))), some (.inr (.inr (some 136))), some (.inl l4), d5, d6, d7]) (st' := [.inl (ax_w32 (l4 + 1)), .inr (.inr (some 0)), .inr (.inr (some 27))]) (h1 := hp L s c e) rfl ?_
          obtain ⟨b19, h⟩ := gd_some h
          refine RuP.ald (f := fun t => t == 0) (j := ax_w32 (l4 + 1)) (a := 0) rfl rfl b19.1 b19.2 ?_
          refine RuP.step (pc' := 324) (ls' := [some (.inr (.inr (some 0))), some (.inr (.inr (some 27))), some (.inr (.inr (some 84))), some (.inr (.inr (some 136))), some (.inl l4), d5, d6, d7]) (st' := [.inr (.inr (some 0)), .inl (s 0 ((ax_w32 (l4 + 1)).toNat)), .inr (.inr (some 27))]) (h1 := hp L s c e) rfl ?_
          refine RuP.step (pc' := 326) (ls' := [some (.inr (.inr (some 0))), some (.inr (.inr (some 27))), some (.inr (.inr (some 84))), some (.inr (.inr (some 136))), some (.inl l4), d5, d6, d7]) (st' := [.inl l4, .inr (.inr (some 0)), .inl (s 0 ((ax_w32 (l4 + 1)).toNat)), .inr (.inr (some 27))]) (h1 := hp L s c e) rfl ?_
          refine RuP.step (pc' := 327) (ls' := [some (.inr (.inr (some 0))), some (.inr (.inr (some 27))), some (.inr (.inr (some 84))), some (.inr (.inr (some 136))), some (.inl l4), d5, d6, d7]) (st' := [.inl 2, .inl l4, .inr (.inr (some 0)), .inl (s 0 ((ax_w32 (l4 + 1)).toNat)), .inr (.inr (some 27))]) (h1 := hp L s c e) rfl ?_
          refine RuP.step (pc' := 328) (ls' := [some (.inr (.inr (some 0))), some (.inr (.inr (some 27))), some (.inr (.inr (some 84))), some (.inr (.inr (some 136))), some (.inl l4), d5, d6, d7]) (st' := [.inl (ax_w32 (l4 + 2)), .inr (.inr (some 0)), .inl (s 0 ((ax_w32 (l4 + 1)).toNat)), .inr (.inr (some 27))]) (h1 := hp L s c e) rfl ?_
          obtain ⟨b20, h⟩ := gd_some h
          refine RuP.ald (f := fun t => t == 0) (j := ax_w32 (l4 + 2)) (a := 0) rfl rfl b20.1 b20.2 ?_
          refine RuP.step (pc' := 330) (ls' := [some (.inr (.inr (some 0))), some (.inr (.inr (some 27))), some (.inr (.inr (some 84))), some (.inr (.inr (some 136))), some (.inl l4), d5, d6, d7]) (st' := [.inr (.inr (some 136)), .inl (s 0 ((ax_w32 (l4 + 2)).toNat)), .inl (s 0 ((ax_w32 (l4 + 1)).toNat)), .inr (.inr (some 27))]) (h1 := hp L s c e) rfl ?_
          obtain ⟨q13, h1, h⟩ := bd_some h
          refine RuP.cCI (k := 2) rfl ((ev_286 h1).up (by decide)) (fun c' e' hc' => ?_)
          exact bl_279_333 hB ih _ _ _ _ _ _ _ _ _ (by omega) h
        exact RuP.sw (i := .tableswitch (430) (0) (11) #[61, 125, 153, 169, 197, 237, 277, 317, 345, 361, 389, 405]) rfl h18 rfl J19
      rw [if_neg h18] at h
      by_cases h21 : ax_iand (s 0 l4.toNat) 15 = 7
      · rw [if_pos h21] at h
        have J22 : RuP 225 tb_m279 356 [some (.inr (.inr (some 0))), some (.inr (.inr (some 27))), some (.inr (.inr (some 84))), some (.inr (.inr (some 136))), some (.inl l4), d5, d6, d7] [] (hp L s c e) (oL L B q) := by
          refine RuP.step (pc' := 357) (ls' := [some (.inr (.inr (some 0))), some (.inr (.inr (some 27))), some (.inr (.inr (some 84))), some (.inr (.inr (some 136))), some (.inl l4), d5, d6, d7]) (st' := [.inr (.inr (some 27))]) (h1 := hp L s c e) rfl ?_
          refine RuP.step (pc' := 358) (ls' := [some (.inr (.inr (some 0))), some (.inr (.inr (some 27))), some (.inr (.inr (some 84))), some (.inr (.inr (some 136))), some (.inl l4), d5, d6, d7]) (st' := [.inr (.inr (some 0)), .inr (.inr (some 27))]) (h1 := hp L s c e) rfl ?_
          refine RuP.step (pc' := 360) (ls' := [some (.inr (.inr (some 0))), some (.inr (.inr (some 27))), some (.inr (.inr (some 84))), some (.inr (.inr (some 136))), some (.inl l4), d5, d6, d7]) (st' := [.inl l4, .inr (.inr (some 0)), .inr (.inr (some 27))]) (h1 := hp L s c e) rfl ?_
          refine RuP.step (pc' := 361) (ls' := [some (.inr (.inr (some 0))), some (.inr (.inr (some 27))), some (.inr (.inr (some 84))), some (.inr (.inr (some 136))), some (.inl l4), d5, d6, d7]) (st' := [.inl 1, .inl l4, .inr (.inr (some 0)), .inr (.inr (some 27))]) (h1 := hp L s c e) rfl ?_
          refine RuP.step (pc' := 362) (ls' := [some (.inr (.inr (some 0))), some (.inr (.inr (some 27))), some (.inr (.inr (some 84))), some (.inr (.inr (some 136))), some (.inl l4), d5, d6, d7]) (st' := [.inl (ax_w32 (l4 + 1)), .inr (.inr (some 0)), .inr (.inr (some 27))]) (h1 := hp L s c e) rfl ?_
          obtain ⟨b22, h⟩ := gd_some h
          refine RuP.ald (f := fun t => t == 0) (j := ax_w32 (l4 + 1)) (a := 0) rfl rfl b22.1 b22.2 ?_
          refine RuP.step (pc' := 364) (ls' := [some (.inr (.inr (some 0))), some (.inr (.inr (some 27))), some (.inr (.inr (some 84))), some (.inr (.inr (some 136))), some (.inl l4), d5, d6, d7]) (st' := [.inr (.inr (some 136)), .inl (s 0 ((ax_w32 (l4 + 1)).toNat)), .inr (.inr (some 27))]) (h1 := hp L s c e) rfl ?_
          obtain ⟨q15, h1, h⟩ := bd_some h
          refine RuP.cCI (k := 2) rfl ((ev_287 h1).up (by decide)) (fun c' e' hc' => ?_)
          exact bl_279_367 hB ih _ _ _ _ _ _ _ _ _ (by omega) h
        exact RuP.sw (i := .tableswitch (430) (0) (11) #[61, 125, 153, 169, 197, 237, 277, 317, 345, 361, 389, 405]) rfl h21 rfl J22
      rw [if_neg h21] at h
      by_cases h23 : ax_iand (s 0 l4.toNat) 15 = 8
      · rw [if_pos h23] at h
        have J24 : RuP 225 tb_m279 384 [some (.inr (.inr (some 0))), some (.inr (.inr (some 27))), some (.inr (.inr (some 84))), some (.inr (.inr (some 136))), some (.inl l4), d5, d6, d7] [] (hp L s c e) (oL L B q) := by
          refine RuP.step (pc' := 385) (ls' := [some (.inr (.inr (some 0))), some (.inr (.inr (some 27))), some (.inr (.inr (some 84))), some (.inr (.inr (some 136))), some (.inl l4), d5, d6, d7]) (st' := [.inr (.inr (some 27))]) (h1 := hp L s c e) rfl ?_
          refine RuP.step (pc' := 386) (ls' := [some (.inr (.inr (some 0))), some (.inr (.inr (some 27))), some (.inr (.inr (some 84))), some (.inr (.inr (some 136))), some (.inl l4), d5, d6, d7]) (st' := [.inr (.inr (some 136)), .inr (.inr (some 27))]) (h1 := hp L s c e) rfl ?_
          obtain ⟨q17, h1, h⟩ := bd_some h
          refine RuP.cCI (k := 2) rfl ((ev_288 h1).up (by decide)) (fun c' e' hc' => ?_)
          exact bl_279_389 hB ih _ _ _ _ _ _ _ _ _ (by omega) h
        exact RuP.sw (i := .tableswitch (430) (0) (11) #[61, 125, 153, 169, 197, 237, 277, 317, 345, 361, 389, 405]) rfl h23 rfl J24
      rw [if_neg h23] at h
      by_cases h24 : ax_iand (s 0 l4.toNat) 15 = 9
      · rw [if_pos h24] at h
        have J25 : RuP 225 tb_m279 400 [some (.inr (.inr (some 0))), some (.inr (.inr (some 27))), some (.inr (.inr (some 84))), some (.inr (.inr (some 136))), some (.inl l4), d5, d6, d7] [] (hp L s c e) (oL L B q) := by
          refine RuP.step (pc' := 401) (ls' := [some (.inr (.inr (some 0))), some (.inr (.inr (some 27))), some (.inr (.inr (some 84))), some (.inr (.inr (some 136))), some (.inl l4), d5, d6, d7]) (st' := [.inr (.inr (some 27))]) (h1 := hp L s c e) rfl ?_
          refine RuP.step (pc' := 402) (ls' := [some (.inr (.inr (some 0))), some (.inr (.inr (some 27))), some (.inr (.inr (some 84))), some (.inr (.inr (some 136))), some (.inl l4), d5, d6, d7]) (st' := [.inr (.inr (some 0)), .inr (.inr (some 27))]) (h1 := hp L s c e) rfl ?_
          refine RuP.step (pc' := 404) (ls' := [some (.inr (.inr (some 0))), some (.inr (.inr (some 27))), some (.inr (.inr (some 84))), some (.inr (.inr (some 136))), some (.inl l4), d5, d6, d7]) (st' := [.inl l4, .inr (.inr (some 0)), .inr (.inr (some 27))]) (h1 := hp L s c e) rfl ?_
          refine RuP.step (pc' := 405) (ls' := [some (.inr (.inr (some 0))), some (.inr (.inr (some 27))), some (.inr (.inr (some 84))), some (.inr (.inr (some 136))), some (.inl l4), d5, d6, d7]) (st' := [.inl 1, .inl l4, .inr (.inr (some 0)), .inr (.inr (some 27))]) (h1 := hp L s c e) rfl ?_
          refine RuP.step (pc' := 406) (ls' := [some (.inr (.inr (some 0))), some (.inr (.inr (some 27))), some (.inr (.inr (some 84))), some (.inr (.inr (some 136))), some (.inl l4), d5, d6, d7]) (st' := [.inl (ax_w32 (l4 + 1)), .inr (.inr (some 0)), .inr (.inr (some 27))]) (h1 := hp L s c e) rfl ?_
          obtain ⟨b25, h⟩ := gd_some h
          refine RuP.ald (f := fun t => t == 0) (j := ax_w32 (l4 + 1)) (a := 0) rfl rfl b25.1 b25.2 ?_
          refine RuP.step (pc' := 408) (ls' := [some (.inr (.inr (some 0))), some (.inr (.inr (some 27))), some (.inr (.inr (some 84))), some (.inr (.inr (some 136))), some (.inl l4), d5, d6, d7]) (st' := [.inr (.inr (some 136)), .inl (s 0 ((ax_w32 (l4 + 1)).toNat)), .inr (.inr (some 27))]) (h1 := hp L s c e) rfl ?_
          obtain ⟨q19, h1, h⟩ := bd_some h
          refine RuP.cCI (k := 2) rfl ((ev_289 h1).up (by decide)) (fun c' e' hc' => ?_)
          exact bl_279_411 hB ih _ _ _ _ _ _ _ _ _ (by omega) h
        exact RuP.sw (i := .tableswitch (430) (0) (11) #[61, 125, 153, 169, 197, 237, 277, 317, 345, 361, 389, 405]) rfl h24 rfl J25
      rw [if_neg h24] at h
      by_cases h26 : ax_iand (s 0 l4.toNat) 15 = 10
      · rw [if_pos h26] at h
        have J27 : RuP 225 tb_m279 428 [some (.inr (.inr (some 0))), some (.inr (.inr (some 27))), some (.inr (.inr (some 84))), some (.inr (.inr (some 136))), some (.inl l4), d5, d6, d7] [] (hp L s c e) (oL L B q) := by
          refine RuP.step (pc' := 429) (ls' := [some (.inr (.inr (some 0))), some (.inr (.inr (some 27))), some (.inr (.inr (some 84))), some (.inr (.inr (some 136))), some (.inl l4), d5, d6, d7]) (st' := [.inr (.inr (some 27))]) (h1 := hp L s c e) rfl ?_
          refine RuP.step (pc' := 430) (ls' := [some (.inr (.inr (some 0))), some (.inr (.inr (some 27))), some (.inr (.inr (some 84))), some (.inr (.inr (some 136))), some (.inl l4), d5, d6, d7]) (st' := [.inr (.inr (some 136)), .inr (.inr (some 27))]) (h1 := hp L s c e) rfl ?_
          obtain ⟨q21, h1, h⟩ := bd_some h
          refine RuP.cCI (k := 2) rfl ((ev_290 h1).up (by decide)) (fun c' e' hc' => ?_)
          exact bl_279_433 hB ih _ _ _ _ _ _ _ _ _ (by omega) h
        exact RuP.sw (i := .tableswitch (430) (0) (11) #[61, 125, 153, 169, 197, 237, 277, 317, 345, 361, 389, 405]) rfl h26 rfl J27
      rw [if_neg h26] at h
      by_cases h27 : ax_iand (s 0 l4.toNat) 15 = 11
      · rw [if_pos h27] at h
        have J28 : RuP 225 tb_m279 444 [some (.inr (.inr (some 0))), some (.inr (.inr (some 27))), some (.inr (.inr (some 84))), some (.inr (.inr (some 136))), some (.inl l4), d5, d6, d7] [] (hp L s c e) (oL L B q) := by
          refine RuP.step (pc' := 445) (ls' := [some (.inr (.inr (some 0))), some (.inr (.inr (some 27))), some (.inr (.inr (some 84))), some (.inr (.inr (some 136))), some (.inl l4), d5, d6, d7]) (st' := [.inr (.inr (some 27))]) (h1 := hp L s c e) rfl ?_
          refine RuP.step (pc' := 446) (ls' := [some (.inr (.inr (some 0))), some (.inr (.inr (some 27))), some (.inr (.inr (some 84))), some (.inr (.inr (some 136))), some (.inl l4), d5, d6, d7]) (st' := [.inr (.inr (some 0)), .inr (.inr (some 27))]) (h1 := hp L s c e) rfl ?_
          refine RuP.step (pc' := 448) (ls' := [some (.inr (.inr (some 0))), some (.inr (.inr (some 27))), some (.inr (.inr (some 84))), some (.inr (.inr (some 136))), some (.inl l4), d5, d6, d7]) (st' := [.inl l4, .inr (.inr (some 0)), .inr (.inr (some 27))]) (h1 := hp L s c e) rfl ?_
          refine RuP.step (pc' := 449) (ls' := [some (.inr (.inr (some 0))), some (.inr (.inr (some 27))), some (.inr (.inr (some 84))), some (.inr (.inr (some 136))), some (.inl l4), d5, d6, d7]) (st' := [.inl 1, .inl l4, .inr (.inr (some 0)), .inr (.inr (some 27))]) (h1 := hp L s c e) rfl ?_
          refine RuP.step (pc' := 450) (ls' := [some (.inr (.inr (some 0))), some (.inr (.inr (some 27))), some (.inr (.inr (some 84))), some (.inr (.inr (some 136))), some (.inl l4), d5, d6, d7]) (st' := [.inl (ax_w32 (l4 + 1)), .inr (.inr (some 0)), .inr (.inr (some 27))]) (h1 := hp L s c e) rfl ?_
          obtain ⟨b28, h⟩ := gd_some h
          refine RuP.ald (f := fun t => t == 0) (j := ax_w32 (l4 + 1)) (a := 0) rfl rfl b28.1 b28.2 ?_
          refine RuP.cI rfl ((ev_1 (s 0 ((ax_w32 (l4 + 1)).toNat))).up (by decide)) ?_
          refine RuP.step (pc' := 455) (ls' := [some (.inr (.inr (some 0))), some (.inr (.inr (some 27))), some (.inr (.inr (some 84))), some (.inr (.inr (some 136))), some (.inl l4), d5, d6, d7]) (st' := [.inr (.inr (some 84)), .inl (f_1 (s 0 ((ax_w32 (l4 + 1)).toNat)) s)]) (h1 := hp L s c e) rfl ?_
          refine RuP.step (pc' := 456) (ls' := [some (.inr (.inr (some 0))), some (.inr (.inr (some 27))), some (.inr (.inr (some 84))), some (.inr (.inr (some 136))), some (.inl l4), d5, d6, d7]) (st' := [.inr (.inr (some 0)), .inr (.inr (some 84)), .inl (f_1 (s 0 ((ax_w32 (l4 + 1)).toNat)) s)]) (h1 := hp L s c e) rfl ?_
          refine RuP.step (pc' := 458) (ls' := [some (.inr (.inr (some 0))), some (.inr (.inr (some 27))), some (.inr (.inr (some 84))), some (.inr (.inr (some 136))), some (.inl l4), d5, d6, d7]) (st' := [.inl l4, .inr (.inr (some 0)), .inr (.inr (some 84)), .inl (f_1 (s 0 ((ax_w32 (l4 + 1)).toNat)) s)]) (h1 := hp L s c e) rfl ?_
          refine RuP.step (pc' := 459) (ls' := [some (.inr (.inr (some 0))), some (.inr (.inr (some 27))), some (.inr (.inr (some 84))), some (.inr (.inr (some 136))), some (.inl l4), d5, d6, d7]) (st' := [.inl 1, .inl l4, .inr (.inr (some 0)), .inr (.inr (some 84)), .inl (f_1 (s 0 ((ax_w32 (l4 + 1)).toNat)) s)]) (h1 := hp L s c e) rfl ?_
          refine RuP.step (pc' := 460) (ls' := [some (.inr (.inr (some 0))), some (.inr (.inr (some 27))), some (.inr (.inr (some 84))), some (.inr (.inr (some 136))), some (.inl l4), d5, d6, d7]) (st' := [.inl (ax_w32 (l4 + 1)), .inr (.inr (some 0)), .inr (.inr (some 84)), .inl (f_1 (s 0 ((ax_w32 (l4 + 1)).toNat)) s)]) (h1 := hp L s c e) rfl ?_
          obtain ⟨b29, h⟩ := gd_some h
          refine RuP.ald (f := fun t => t == 0) (j := ax_w32 (l4 + 1)) (a := 0) rfl rfl b29.1 b29.2 ?_
          obtain ⟨q23, h1, h⟩ := bd_some h
          refine RuP.cIe h1 rfl (EvP.ip ((ev_205 (s 0 ((ax_w32 (l4 + 1)).toNat))).up (by decide))) ?_
          by_cases h30 : f_1 (s 0 ((ax_w32 (l4 + 1)).toNat)) s = q23.1
          · rw [if_pos h30] at h
            refine RuP.jy rfl h30 ?_
            exact bl_279_469 hB ih _ _ _ _ _ _ _ _ (by omega) h
          · rw [if_neg h30] at h
            refine RuP.jn rfl h30 ?_
            refine RuP.step (pc' := 468) (ls' := [some (.inr (.inr (some 0))), some (.inr (.inr (some 27))), some (.inr (.inr (some 84))), some (.inr (.inr (some 136))), some (.inl l4), d5, d6, d7]) (st' := [.inl 0]) (h1 := hp L q23.2 c e) rfl ?_
            cases h
            exact RuP.dL rfl (by omega)
        exact RuP.sw (i := .tableswitch (430) (0) (11) #[61, 125, 153, 169, 197, 237, 277, 317, 345, 361, 389, 405]) rfl h27 rfl J28
      rw [if_neg h27] at h
      refine RuP.swd (i := .tableswitch (430) (0) (11) #[61, 125, 153, 169, 197, 237, 277, 317, 345, 361, 389, 405]) (pc' := 469) rfl (sw_td [0, 1, 2, 3, 4, 5, 6, 7, 8, 9, 10, 11] (by intro k hk; simp only [List.mem_cons, List.not_mem_nil, or_false] at hk; omega) (by decide) (by decide)) ?_
      exact bl_279_469 hB ih _ _ _ _ _ _ _ _ (by omega) h
