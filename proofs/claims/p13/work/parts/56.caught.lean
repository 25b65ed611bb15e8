/-! CAUGHT EXCEPTIONS: parse, read, the law's helpers. -/
def xc {α β : Type} (o : Option (Sum α (Nat × Sg))) (k : α → Option β) (H : Nat × Sg → Option β) : Option β := match o with
  | none => none
  | some (.inl a) => k a
  | some (.inr x) => H x
theorem xc_some {α β : Type} {o : Option (Sum α (Nat × Sg))} {k : α → Option β} {H : Nat × Sg → Option β} {q : β} (h : xc o k H = some q) : (∃ a, o = some (.inl a) ∧ k a = some q) ∨ (∃ x, o = some (.inr x) ∧ H x = some q) := by
  cases o with
  | none => cases h
  | some o =>
    cases o with
    | inl a => exact Or.inl ⟨a, rfl, h⟩
    | inr x => exact Or.inr ⟨x, rfl, h⟩
/-- ends behind at most k more exceptions -/
def oCV (L c k : Nat) (q : Sg) (o : ax_O) (h : ax_H) : Prop := o = .inl none ∧ ∃ c' e', c' ≤ c + k ∧ h = hp L q c' e'
def oCI (L c k : Nat) (q : Int × Sg) (o : ax_O) (h : ax_H) : Prop := o = .inl (some (.inl q.1)) ∧ ∃ c' e', c' ≤ c + k ∧ h = hp L q.2 c' e'
def oCJ (L c k : Nat) (q : Int × Sg) (o : ax_O) (h : ax_H) : Prop := o = .inl (some (.inr (.inl q.1))) ∧ ∃ c' e', c' ≤ c + k ∧ h = hp L q.2 c' e'
def oD {α : Type} (L c k : Nat) (f : α → ax_O → ax_H → Prop) (q : Sum α (Nat × Sg)) : ax_O → ax_H → Prop := match q with
  | .inl a => f a
  | .inr x => fun o h => ∃ c1 e', c1 + 1 ≤ c + k ∧ o = .inr (27 + (110 + c1)) ∧ h = hp L x.2 (c1 + 1) e' ∧ e' (27 + (110 + c1)) = 2 * x.1 + 2
/-- the law's own end -/
def oL (L B : Nat) (q : Int) (o : ax_O) (h : ax_H) : Prop := o = .inl (some (.inl q)) ∧ ∃ s c' e', c' ≤ B ∧ h = hp L s c' e'
section XC
variable {n pc y L c k t B : Nat} {μ : ax_M} {ls : ax_L} {st as r : List ax_V} {h : ax_H} {Φ Ψ : ax_O → ax_H → Prop} {e : Nat → Nat} {q : Sg} {qi : Int × Sg} {x : Nat × Sg} {α : Type} {f : α → ax_O → ax_H → Prop}
theorem RuP.wk (k : RuP n μ pc ls st h Φ) (w : ∀ o h, Φ o h → Ψ o h) : RuP n μ pc ls st h Ψ := by
  obtain ⟨o, h', k, q⟩ := k
  exact ⟨o, h', k, w o h' q⟩
theorem EvP.wk (k : EvP n y as h Φ) (w : ∀ o h, Φ o h → Ψ o h) : EvP n y as h Ψ := by
  obtain ⟨o, h', k, q⟩ := k
  exact ⟨o, h', k, w o h' q⟩
theorem RuP.up {m : Nat} (k : RuP n μ pc ls st h Φ) (hm : n ≤ m) : RuP m μ pc ls st h Φ := by
  obtain ⟨o, h', ⟨F, f, k⟩, q⟩ := k
  exact ⟨o, h', ⟨F, f, ax_run_mono (ax_ev_mono (Nat.le_refl F) n m hm) μ f f _ _ _ _ _ (Nat.le_refl f) k⟩, q⟩
theorem oCV_of {j : Nat} (hj : c ≤ j + k) : ∀ o h, oV L c e q o h → oCV L j k q o h := fun _ _ ⟨a, b⟩ => ⟨a, c, e, hj, b⟩
theorem oCI_of {j : Nat} (hj : c ≤ j + k) : ∀ o h, oI L c e qi o h → oCI L j k qi o h := fun _ _ ⟨a, b⟩ => ⟨a, c, e, hj, b⟩
theorem oCJ_of {j : Nat} (hj : c ≤ j + k) : ∀ o h, oJ L c e qi o h → oCJ L j k qi o h := fun _ _ ⟨a, b⟩ => ⟨a, c, e, hj, b⟩
theorem oD_ofI {j : Nat} (hj : c + 1 ≤ j + k) {u : Sum (Int × Sg) (Nat × Sg)} : ∀ o h, oX L c (oI L c e) u o h → oD L j k (oCI L j k) u o h := by
  intro o h w
  cases u with
  | inl a => exact oCI_of (by omega) o h w
  | inr x =>
    obtain ⟨a, e', b, d⟩ := w
    exact ⟨c, e', hj, a, b, d⟩
theorem oD_ofJ {j : Nat} (hj : c + 1 ≤ j + k) {u : Sum (Int × Sg) (Nat × Sg)} : ∀ o h, oX L c (oJ L c e) u o h → oD L j k (oCJ L j k) u o h := by
  intro o h w
  cases u with
  | inl a => exact oCJ_of (by omega) o h w
  | inr x =>
    obtain ⟨a, e', b, d⟩ := w
    exact ⟨c, e', hj, a, b, d⟩
theorem RuP.cat (e1 : ax_step μ pc ls st h = some (.inr (.inr (y, as, r)))) (c1 : EvP n y as h (oX L c f (.inr x))) (hc : ax_catch μ.2.2.2.2.1 pc (2 * x.1 + 2) = some t) (k : ∀ e', RuP n μ t ls [.inr (.inr (some (27 + (110 + c))))] (hp L x.2 (c + 1) e') Φ) : RuP n μ pc ls st h Φ := by
  obtain ⟨o1, h1, c1, rfl, e', rfl, he⟩ := c1
  obtain ⟨o, h', k, q⟩ := k e'
  refine ⟨o, h', Ru.caught e1 c1 ?_ k, q⟩
  show ax_catch _ pc (e' (27 + (110 + c))) = _
  rw [he]
  exact hc
theorem RuP.catD (e1 : ax_step μ pc ls st h = some (.inr (.inr (y, as, r)))) (c1 : EvP n y as h (oD L c k f (.inr x))) (hc : ax_catch μ.2.2.2.2.1 pc (2 * x.1 + 2) = some t) (kk : ∀ c1 e', c1 + 1 ≤ c + k → RuP n μ t ls [.inr (.inr (some (27 + (110 + c1))))] (hp L x.2 (c1 + 1) e') Φ) : RuP n μ pc ls st h Φ := by
  obtain ⟨o1, h1, c1, c2, e', hk, rfl, rfl, he⟩ := c1
  obtain ⟨o, h', kk, q⟩ := kk c2 e' hk
  refine ⟨o, h', Ru.caught e1 c1 ?_ kk, q⟩
  show ax_catch _ pc (e' (27 + (110 + c2))) = _
  rw [he]
  exact hc
theorem RuP.cCV (e1 : ax_step μ pc ls st h = some (.inr (.inr (y, as, r)))) (c1 : EvP n y as h (oCV L c k q)) (kk : ∀ c' e', c' ≤ c + k → RuP n μ (pc + 3) ls r (hp L q c' e') Φ) : RuP n μ pc ls st h Φ := by
  obtain ⟨o1, h1, c1, rfl, c', e', hk, rfl⟩ := c1
  obtain ⟨o, h', kk, q⟩ := kk c' e' hk
  exact ⟨o, h', Ru.call e1 c1 kk, q⟩
theorem RuP.cCI (e1 : ax_step μ pc ls st h = some (.inr (.inr (y, as, r)))) (c1 : EvP n y as h (oCI L c k qi)) (kk : ∀ c' e', c' ≤ c + k → RuP n μ (pc + 3) ls (.inl qi.1 :: r) (hp L qi.2 c' e') Φ) : RuP n μ pc ls st h Φ := by
  obtain ⟨o1, h1, c1, rfl, c', e', hk, rfl⟩ := c1
  obtain ⟨o, h', kk, q⟩ := kk c' e' hk
  exact ⟨o, h', Ru.call e1 c1 kk, q⟩
theorem RuP.cCJ (e1 : ax_step μ pc ls st h = some (.inr (.inr (y, as, r)))) (c1 : EvP n y as h (oCJ L c k qi)) (kk : ∀ c' e', c' ≤ c + k → RuP n μ (pc + 3) ls (.inr (.inl qi.1) :: r) (hp L qi.2 c' e') Φ) : RuP n μ pc ls st h Φ := by
  obtain ⟨o1, h1, c1, rfl, c', e', hk, rfl⟩ := c1
  obtain ⟨o, h', kk, q⟩ := kk c' e' hk
  exact ⟨o, h', Ru.call e1 c1 kk, q⟩
section PF
variable {n pc pc' : Nat} {μ : ax_M} {ls : ax_L} {st r : List ax_V} {h : ax_H} {Φ : ax_O → ax_H → Prop} {z : Int}
theorem RuP.pf4 {b o : Nat} (e : ax_step μ pc ls st h = (match (match (if z = 0 ∨ z = 1 then some (ax_setn h o b z) else none : Option ax_H) with
      | some h' => some (r, h')
      | none => none : Option (List ax_V × ax_H)) with
    | some (st', h') => some (.inl (pc', ls, st', h'))
    | none => none)) (hz : z = 0 ∨ z = 1) (k : RuP n μ pc' ls r (ax_setn h o b z) Φ) : RuP n μ pc ls st h Φ := by
  rw [if_pos hz] at e
  exact RuP.step e k
end PF
theorem RuP.dL {z : Int} {s : Sg} (hs : ax_step μ pc ls st (hp L s c e) = some (.inr (.inl (.inl (some (.inl z)), hp L s c e)))) (hB : c ≤ B) : RuP n μ pc ls st (hp L s c e) (oL L B z) := ⟨_, _, Ru.done hs, rfl, s, c, e, hB, rfl⟩
end XC
noncomputable def j_15_62 (s : Sg) : Option Sg :=
  (gd (g_80 (s 39 10) s) (
  (gd (g_71 2 (f_80 (s 39 10) s) s) (
  ((some (f_71 2 (f_80 (s 39 10) s) s)).bind fun q1 =>
  some q1)))))
theorem bl_15_62 {L c : Nat} {e : Nat → Nat} : ∀ (xx : Nat) (d1 : Option ax_V) (s : Sg) (q : Sg), j_15_62 s = some q → RuP 222 tb_m15 62 [some (.inr (.inr (some 27))), d1] [.inr (.inr (some xx))] (hp L s c e) (oV L c e q) := by
  intro xx d1 s q h
  unfold j_15_62 at h
  refine RuP.step (pc' := 63) (ls' := [some (.inr (.inr (some 27))), some (.inr (.inr (some xx)))]) (st' := []) (h1 := hp L s c e) rfl ?_
  refine RuP.step (pc' := 64) (ls' := [some (.inr (.inr (some 27))), some (.inr (.inr (some xx)))]) (st' := [.inr (.inr (some 27))]) (h1 := hp L s c e) rfl ?_
  refine RuP.step (pc' := 67) (ls' := [some (.inr (.inr (some 27))), some (.inr (.inr (some xx)))]) (st' := [.inr (.inr (some 29))]) (h1 := hp L s c e) rfl ?_
  refine RuP.step (pc' := 68) (ls' := [some (.inr (.inr (some 27))), some (.inr (.inr (some xx)))]) (st' := [.inl 2, .inr (.inr (some 29))]) (h1 := hp L s c e) rfl ?_
  refine RuP.step (pc' := 69) (ls' := [some (.inr (.inr (some 27))), some (.inr (.inr (some xx)))]) (st' := [.inr (.inr (some 27)), .inl 2, .inr (.inr (some 29))]) (h1 := hp L s c e) rfl ?_
  refine RuP.step (pc' := 72) (ls' := [some (.inr (.inr (some 27))), some (.inr (.inr (some xx)))]) (st' := [.inr (.inr (some 39)), .inl 2, .inr (.inr (some 29))]) (h1 := hp L s c e) rfl ?_
  refine RuP.step (pc' := 73) (ls' := [some (.inr (.inr (some 27))), some (.inr (.inr (some xx)))]) (st' := [.inr (.inr (some 27)), .inr (.inr (some 39)), .inl 2, .inr (.inr (some 29))]) (h1 := hp L s c e) rfl ?_
  refine RuP.step (pc' := 76) (ls' := [some (.inr (.inr (some 27))), some (.inr (.inr (some xx)))]) (st' := [.inr (.inr (some 39)), .inr (.inr (some 39)), .inl 2, .inr (.inr (some 29))]) (h1 := hp L s c e) rfl ?_
  refine RuP.step (pc' := 79) (ls' := [some (.inr (.inr (some 27))), some (.inr (.inr (some xx)))]) (st' := [.inl (s 39 10), .inr (.inr (some 39)), .inl 2, .inr (.inr (some 29))]) (h1 := hp L s c e) rfl ?_
  obtain ⟨b0, h⟩ := gd_some h
  refine RuP.cI rfl (EvP.i ((ev_80 (s 39 10) b0).up (by decide))) ?_
  obtain ⟨b1, h⟩ := gd_some h
  obtain ⟨q1, h1, h⟩ := bd_some h
  refine RuP.cVe h1 rfl (EvP.v ((ev_71 2 (f_80 (s 39 10) s) b1).up (by decide))) ?_
  refine RuP.step (pc' := 111) (ls' := [some (.inr (.inr (some 27))), some (.inr (.inr (some xx)))]) (st' := []) (h1 := hp L q1 c e) rfl ?_
  cases h
  exact RuP.dV rfl
noncomputable def j_15_88 (s : Sg) : Option Sg :=
  (gd (g_80 (s 39 10) s) (
  (gd (g_71 3 (f_80 (s 39 10) s) s) (
  ((some (f_71 3 (f_80 (s 39 10) s) s)).bind fun q1 =>
  some q1)))))
theorem bl_15_88 {L c : Nat} {e : Nat → Nat} : ∀ (xx : Nat) (d1 : Option ax_V) (s : Sg) (q : Sg), j_15_88 s = some q → RuP 222 tb_m15 88 [some (.inr (.inr (some 27))), d1] [.inr (.inr (some xx))] (hp L s c e) (oV L c e q) := by
  intro xx d1 s q h
  unfold j_15_88 at h
  refine RuP.step (pc' := 89) (ls' := [some (.inr (.inr (some 27))), some (.inr (.inr (some xx)))]) (st' := []) (h1 := hp L s c e) rfl ?_
  refine RuP.step (pc' := 90) (ls' := [some (.inr (.inr (some 27))), some (.inr (.inr (some xx)))]) (st' := [.inr (.inr (some 27))]) (h1 := hp L s c e) rfl ?_
  refine RuP.step (pc' := 93) (ls' := [some (.inr (.inr (some 27))), some (.inr (.inr (some xx)))]) (st' := [.inr (.inr (some 29))]) (h1 := hp L s c e) rfl ?_
  refine RuP.step (pc' := 94) (ls' := [some (.inr (.inr (some 27))), some (.inr (.inr (some xx)))]) (st' := [.inl 3, .inr (.inr (some 29))]) (h1 := hp L s c e) rfl ?_
  refine RuP.step (pc' := 95) (ls' := [some (.inr (.inr (some 27))), some (.inr (.inr (some xx)))]) (st' := [.inr (.inr (some 27)), .inl 3, .inr (.inr (some 29))]) (h1 := hp L s c e) rfl ?_
  refine RuP.step (pc' := 98) (ls' := [some (.inr (.inr (some 27))), some (.inr (.inr (some xx)))]) (st' := [.inr (.inr (some 39)), .inl 3, .inr (.inr (some 29))]) (h1 := hp L s c e) rfl ?_
  refine RuP.step (pc' := 99) (ls' := [some (.inr (.inr (some 27))), some (.inr (.inr (some xx)))]) (st' := [.inr (.inr (some 27)), .inr (.inr (some 39)), .inl 3, .inr (.inr (some 29))]) (h1 := hp L s c e) rfl ?_
  refine RuP.step (pc' := 102) (ls' := [some (.inr (.inr (some 27))), some (.inr (.inr (some xx)))]) (st' := [.inr (.inr (some 39)), .inr (.inr (some 39)), .inl 3, .inr (.inr (some 29))]) (h1 := hp L s c e) rfl ?_
  refine RuP.step (pc' := 105) (ls' := [some (.inr (.inr (some 27))), some (.inr (.inr (some xx)))]) (st' := [.inl (s 39 10), .inr (.inr (some 39)), .inl 3, .inr (.inr (some 29))]) (h1 := hp L s c e) rfl ?_
  obtain ⟨b0, h⟩ := gd_some h
  refine RuP.cI rfl (EvP.i ((ev_80 (s 39 10) b0).up (by decide))) ?_
  obtain ⟨b1, h⟩ := gd_some h
  obtain ⟨q1, h1, h⟩ := bd_some h
  refine RuP.cVe h1 rfl (EvP.v ((ev_71 3 (f_80 (s 39 10) s) b1).up (by decide))) ?_
  cases h
  exact RuP.dV rfl
noncomputable def H_15 (x : Nat × Sg) : Option Sg := if x.1 = 15 then j_15_62 x.2 else if x.1 = 14 then j_15_88 x.2 else none
noncomputable def j_15_9 : Nat → Int → Sg → Option Sg
  | 0, _, _ => none
  | F + 1, l1, s =>
    (if 8192 < l1 then some s else
    (if ¬ (f_142 s) = 0 then some s else
    (if f_143 s = 0 then
      (xc (f_145 s) (fun q1 => j_15_9 F (ax_w32 (l1 + 1)) q1) H_15)
    else
      (xc (f_144 s) (fun q1 => j_15_9 F (ax_w32 (l1 + 1)) q1) H_15))))
noncomputable def f_15 (s : Sg) : Option Sg := xc (f_141 s) (fun q1 => j_15_9 FU 0 q1) H_15
theorem H15 {L c n pc y : Nat} {h : ax_H} {ls : ax_L} {st as r : List ax_V} {x : Nat × Sg} {q : Sg} {d1 : Option ax_V} {f : Sg → ax_O → ax_H → Prop} (hn : 222 ≤ n) (hls : ls = [some (.inr (.inr (some 27))), d1]) (hpc : pc < 59) (e1 : ax_step tb_m15 pc ls st h = some (.inr (.inr (y, as, r)))) (c1 : EvP n y as h (oX L c f (.inr x))) (hH : H_15 x = some q) : RuP n tb_m15 pc ls st h (oCV L c 1 q) := by
  subst hls
  unfold H_15 at hH
  split at hH
  · rename_i hx
    refine RuP.cat (t := 62) e1 c1 ?_ (fun e' => RuP.wk (RuP.up (bl_15_62 _ _ _ _ hH) hn) (oCV_of (by omega)))
    rw [hx]
    exact if_pos ⟨Nat.zero_le _, hpc, rfl⟩
  · split at hH
    · rename_i hx
      refine RuP.cat (t := 88) e1 c1 ?_ (fun e' => RuP.wk (RuP.up (bl_15_88 _ _ _ _ hH) hn) (oCV_of (by omega)))
      rw [hx]
      refine (if_neg (fun w => ?_)).trans (if_pos ⟨Nat.zero_le _, hpc, rfl⟩)
      exact absurd w.2.2 (by decide)
    · cases hH
theorem bl_15_9 {L : Nat} : ∀ (F : Nat) (l1 : Int) (s : Sg) (q : Sg) (c : Nat) (e : Nat → Nat), j_15_9 F l1 s = some q → RuP 222 tb_m15 9 [some (.inr (.inr (some 27))), some (.inl l1)] [] (hp L s c e) (oCV L c 1 q) := by
  intro F
  induction F with
  | zero =>
    intro l1 s q c e h
    rw [j_15_9] at h
    cases h
  | succ F ih =>
    intro l1 s q c e h
    rw [j_15_9] at h
    refine RuP.step (pc' := 10) (ls' := [some (.inr (.inr (some 27))), some (.inl l1)]) (st' := [.inl l1]) (h1 := hp L s c e) rfl ?_
    refine RuP.step (pc' := 13) (ls' := [some (.inr (.inr (some 27))), some (.inl l1)]) (st' := [.inl 8192, .inl l1]) (h1 := hp L s c e) rfl ?_
    by_cases h0 : 8192 < l1
    · rw [if_pos h0] at h
      refine RuP.jy rfl h0 ?_
      refine RuP.step (pc' := 111) (ls' := [some (.inr (.inr (some 27))), some (.inl l1)]) (st' := []) (h1 := hp L s c e) rfl ?_
      cases h
      exact RuP.wk (RuP.dV rfl) (oCV_of (by omega))
    rw [if_neg h0] at h
    refine RuP.jn rfl h0 ?_
    refine RuP.step (pc' := 17) (ls' := [some (.inr (.inr (some 27))), some (.inl l1)]) (st' := [.inr (.inr (some 27))]) (h1 := hp L s c e) rfl ?_
    refine RuP.step (pc' := 20) (ls' := [some (.inr (.inr (some 27))), some (.inl l1)]) (st' := [.inr (.inr (some 70))]) (h1 := hp L s c e) rfl ?_
    refine RuP.cI rfl (EvP.i (ev_142.up (by decide))) ?_
    by_cases h1 : ¬ (f_142 s) = 0
    · rw [if_pos h1] at h
      refine RuP.jy rfl h1 ?_
      refine RuP.step (pc' := 111) (ls' := [some (.inr (.inr (some 27))), some (.inl l1)]) (st' := []) (h1 := hp L s c e) rfl ?_
      cases h
      exact RuP.wk (RuP.dV rfl) (oCV_of (by omega))
    rw [if_neg h1] at h
    refine RuP.jn rfl h1 ?_
    refine RuP.step (pc' := 27) (ls' := [some (.inr (.inr (some 27))), some (.inl l1)]) (st' := [.inr (.inr (some 27))]) (h1 := hp L s c e) rfl ?_
    refine RuP.step (pc' := 30) (ls' := [some (.inr (.inr (some 27))), some (.inl l1)]) (st' := [.inr (.inr (some 70))]) (h1 := hp L s c e) rfl ?_
    refine RuP.cI rfl (EvP.i (ev_143.up (by decide))) ?_
    by_cases h2 : f_143 s = 0
    · rw [if_pos h2] at h
      refine RuP.jy rfl h2 ?_
      refine RuP.step (pc' := 47) (ls' := [some (.inr (.inr (some 27))), some (.inl l1)]) (st' := [.inr (.inr (some 27))]) (h1 := hp L s c e) rfl ?_
      refine RuP.step (pc' := 50) (ls' := [some (.inr (.inr (some 27))), some (.inl l1)]) (st' := [.inr (.inr (some 70))]) (h1 := hp L s c e) rfl ?_
      rcases xc_some h with ⟨q1, h3, h⟩ | ⟨x1, h3, h⟩
      · refine RuP.cV rfl ((ev_145 h3).up (by decide)) ?_
        refine RuP.step (pc' := 56) (ls' := [some (.inr (.inr (some 27))), some (.inl (ax_w32 (l1 + 1)))]) (st' := []) (h1 := hp L q1 c e) rfl ?_
        refine RuP.step (pc' := 9) (ls' := [some (.inr (.inr (some 27))), some (.inl (ax_w32 (l1 + 1)))]) (st' := []) (h1 := hp L q1 c e) rfl ?_
        exact ih _ _ _ _ _ h
      · exact H15 (n := 222) (by decide) rfl (by decide) rfl ((ev_145 (e := e) h3).up (by decide)) h
    · rw [if_neg h2] at h
      refine RuP.jn rfl h2 ?_
      refine RuP.step (pc' := 37) (ls' := [some (.inr (.inr (some 27))), some (.inl l1)]) (st' := [.inr (.inr (some 27))]) (h1 := hp L s c e) rfl ?_
      refine RuP.step (pc' := 40) (ls' := [some (.inr (.inr (some 27))), some (.inl l1)]) (st' := [.inr (.inr (some 70))]) (h1 := hp L s c e) rfl ?_
      rcases xc_some h with ⟨q1, h3, h⟩ | ⟨x1, h3, h⟩
      · refine RuP.cV rfl ((ev_144 h3).up (by decide)) ?_
        refine RuP.step (pc' := 53) (ls' := [some (.inr (.inr (some 27))), some (.inl l1)]) (st' := []) (h1 := hp L q1 c e) rfl ?_
        refine RuP.step (pc' := 56) (ls' := [some (.inr (.inr (some 27))), some (.inl (ax_w32 (l1 + 1)))]) (st' := []) (h1 := hp L q1 c e) rfl ?_
        refine RuP.step (pc' := 9) (ls' := [some (.inr (.inr (some 27))), some (.inl (ax_w32 (l1 + 1)))]) (st' := []) (h1 := hp L q1 c e) rfl ?_
        exact ih _ _ _ _ _ h
      · exact H15 (n := 222) (by decide) rfl (by decide) rfl ((ev_144 (e := e) h3).up (by decide)) h
theorem ev_15 {L c : Nat} {e : Nat → Nat} {s : Sg} {q : Sg} (h : f_15 s = some q) : EvP 223 15 [.inr (.inr (some 27))] (hp L s c e) (oCV L c 1 q) := by
  unfold f_15 at h
  refine EvP.of (μ := tb_m15) (ls := [some (.inr (.inr (some 27))), none]) rfl (Nat.le_of_ble_eq_true rfl) rfl ?_
  refine RuP.step (pc' := 1) (ls' := [some (.inr (.inr (some 27))), none]) (st' := [.inr (.inr (some 27))]) (h1 := hp L s c e) rfl ?_
  refine RuP.step (pc' := 4) (ls' := [some (.inr (.inr (some 27))), none]) (st' := [.inr (.inr (some 70))]) (h1 := hp L s c e) rfl ?_
  rcases xc_some h with ⟨q1, h3, h⟩ | ⟨x1, h3, h⟩
  · refine RuP.cV rfl ((ev_141 h3).up (by decide)) ?_
    refine RuP.step (pc' := 8) (ls' := [some (.inr (.inr (some 27))), none]) (st' := [.inl 0]) (h1 := hp L q1 c e) rfl ?_
    refine RuP.step (pc' := 9) (ls' := [some (.inr (.inr (some 27))), some (.inl 0)]) (st' := []) (h1 := hp L q1 c e) rfl ?_
    exact bl_15_9 _ _ _ _ _ _ h
  · exact H15 (n := 222) (by decide) rfl (by decide) rfl ((ev_141 (e := e) h3).up (by decide)) h
noncomputable def j_4_30 (s : Sg) : Option (Sum (Int × Sg) (Nat × Sg)) :=
  ((f_68 (ax_u2 s 27 1 0)).bind fun q2 =>
  (gd (((if ¬ q2 = 0 then 0 else 1) : Int) = 0 ∨ ((if ¬ q2 = 0 then 0 else 1) : Int) = 1) (
  (if ¬ ((if ¬ q2 = 0 then 0 else 1) : Int) = 0 then
    some (.inl (s 54 6, (ax_u2 (ax_u2 s 27 1 0) 27 2 ((if ¬ q2 = 0 then 0 else 1) : Int))))
  else
    ((some (f_74 (ax_u2 (ax_u2 s 27 1 0) 27 2 ((if ¬ q2 = 0 then 0 else 1) : Int)))).bind fun q3 =>
    ((some (f_113 q3)).bind fun q4 =>
    ((some (f_180 q4)).bind fun q5 =>
    some (.inr (15, q5)))))))))
theorem bl_4_30 {L c : Nat} {e : Nat → Nat} : ∀ (s : Sg) (q : Sum (Int × Sg) (Nat × Sg)), j_4_30 s = some q → RuP 223 tb_m4 30 [some (.inr (.inr (some 27)))] [] (hp L s c e) (oX L c (oI L c e) q) := by
  intro s q h
  unfold j_4_30 at h
  refine RuP.step (pc' := 31) (ls' := [some (.inr (.inr (some 27)))]) (st' := [.inr (.inr (some 27))]) (h1 := hp L s c e) rfl ?_
  refine RuP.step (pc' := 32) (ls' := [some (.inr (.inr (some 27)))]) (st' := [.inl 0, .inr (.inr (some 27))]) (h1 := hp L s c e) rfl ?_
  refine RuP.step (pc' := 35) (ls' := [some (.inr (.inr (some 27)))]) (st' := []) (h1 := hp L (ax_u2 s 27 1 0) c e) rfl ?_
  refine RuP.step (pc' := 36) (ls' := [some (.inr (.inr (some 27)))]) (st' := [.inr (.inr (some 27))]) (h1 := hp L (ax_u2 s 27 1 0) c e) rfl ?_
  refine RuP.step (pc' := 37) (ls' := [some (.inr (.inr (some 27)))]) (st' := [.inr (.inr (some 27)), .inr (.inr (some 27))]) (h1 := hp L (ax_u2 s 27 1 0) c e) rfl ?_
  refine RuP.step (pc' := 40) (ls' := [some (.inr (.inr (some 27)))]) (st' := [.inr (.inr (some 29)), .inr (.inr (some 27))]) (h1 := hp L (ax_u2 s 27 1 0) c e) rfl ?_
  obtain ⟨q2, h1, h⟩ := bd_some h
  refine RuP.cI rfl ((ev_68 h1).up (by decide)) ?_
  have J1 : ∀ v0_0 : Int, v0_0 = ((if ¬ q2 = 0 then 0 else 1) : Int) → RuP 223 tb_m4 51 [some (.inr (.inr (some 27)))] [.inl v0_0, .inr (.inr (some 27))] (hp L (ax_u2 s 27 1 0) c e) (oX L c (oI L c e) q) := by
    intro v0_0 ev0_0
    subst ev0_0
    obtain ⟨b1, h⟩ := gd_some h
    refine RuP.pf4 (o := 27) (b := 2) (z := ((if ¬ q2 = 0 then 0 else 1) : Int)) (pc' := 54) (r := []) rfl b1 ?_
    refine RuP.step (pc' := 55) (ls' := [some (.inr (.inr (some 27)))]) (st' := [.inr (.inr (some 27))]) (h1 := hp L (ax_u2 (ax_u2 s 27 1 0) 27 2 ((if ¬ q2 = 0 then 0 else 1) : Int)) c e) rfl ?_
    refine RuP.step (pc' := 58) (ls' := [some (.inr (.inr (some 27)))]) (st' := [.inl ((if ¬ q2 = 0 then 0 else 1) : Int)]) (h1 := hp L (ax_u2 (ax_u2 s 27 1 0) 27 2 ((if ¬ q2 = 0 then 0 else 1) : Int)) c e) rfl ?_
    by_cases h2 : ¬ ((if ¬ q2 = 0 then 0 else 1) : Int) = 0
    · rw [if_pos h2] at h
      refine RuP.jy rfl h2 ?_
      refine RuP.step (pc' := 93) (ls' := [some (.inr (.inr (some 27)))]) (st' := [.inr (.inr (some 27))]) (h1 := hp L (ax_u2 (ax_u2 s 27 1 0) 27 2 ((if ¬ q2 = 0 then 0 else 1) : Int)) c e) rfl ?_
      refine RuP.step (pc' := 96) (ls' := [some (.inr (.inr (some 27)))]) (st' := [.inr (.inr (some 54))]) (h1 := hp L (ax_u2 (ax_u2 s 27 1 0) 27 2 ((if ¬ q2 = 0 then 0 else 1) : Int)) c e) rfl ?_
      refine RuP.step (pc' := 99) (ls' := [some (.inr (.inr (some 27)))]) (st' := [.inl (s 54 6)]) (h1 := hp L (ax_u2 (ax_u2 s 27 1 0) 27 2 ((if ¬ q2 = 0 then 0 else 1) : Int)) c e) rfl ?_
      cases h
      exact RuP.dI rfl
    · rw [if_neg h2] at h
      refine RuP.jn rfl h2 ?_
      refine RuP.step (pc' := 62) (ls' := [some (.inr (.inr (some 27)))]) (st' := [.inr (.inr (some 27))]) (h1 := hp L (ax_u2 (ax_u2 s 27 1 0) 27 2 ((if ¬ q2 = 0 then 0 else 1) : Int)) c e) rfl ?_
      refine RuP.step (pc' := 65) (ls' := [some (.inr (.inr (some 27)))]) (st' := [.inr (.inr (some 39))]) (h1 := hp L (ax_u2 (ax_u2 s 27 1 0) 27 2 ((if ¬ q2 = 0 then 0 else 1) : Int)) c e) rfl ?_
      obtain ⟨q3, h1, h⟩ := bd_some h
      refine RuP.cVe h1 rfl (EvP.v ((ev_74 ).up (by decide))) ?_
      refine RuP.step (pc' := 69) (ls' := [some (.inr (.inr (some 27)))]) (st' := [.inr (.inr (some 27))]) (h1 := hp L q3 c e) rfl ?_
      refine RuP.step (pc' := 72) (ls' := [some (.inr (.inr (some 27)))]) (st' := [.inr (.inr (some 46))]) (h1 := hp L q3 c e) rfl ?_
      obtain ⟨q4, h1, h⟩ := bd_some h
      refine RuP.cVe h1 rfl (EvP.v ((ev_113 ).up (by decide))) ?_
      refine RuP.step (pc' := 76) (ls' := [some (.inr (.inr (some 27)))]) (st' := [.inr (.inr (some 27))]) (h1 := hp L q4 c e) rfl ?_
      refine RuP.step (pc' := 79) (ls' := [some (.inr (.inr (some 27)))]) (st' := [.inr (.inr (some 54))]) (h1 := hp L q4 c e) rfl ?_
      obtain ⟨q5, h1, h⟩ := bd_some h
      refine RuP.cVe h1 rfl (EvP.v ((ev_180 ).up (by decide))) ?_
      cases h
      exact RuP.thr (m := 17) (p2 := 88) rfl (fun _ => rfl) (fun _ => rfl) (fun _ _ => rfl) (Nat.le_of_ble_eq_true rfl) rfl rfl
  by_cases h3 : ¬ q2 = 0
  · refine RuP.jy rfl h3 ?_
    refine RuP.step (pc' := 51) (ls' := [some (.inr (.inr (some 27)))]) (st' := [.inl 0, .inr (.inr (some 27))]) (h1 := hp L (ax_u2 s 27 1 0) c e) rfl ?_
    exact J1 _ (by simp only [if_pos h3])
  · refine RuP.jn rfl h3 ?_
    refine RuP.step (pc' := 47) (ls' := [some (.inr (.inr (some 27)))]) (st' := [.inl 1, .inr (.inr (some 27))]) (h1 := hp L (ax_u2 s 27 1 0) c e) rfl ?_
    refine RuP.step (pc' := 51) (ls' := [some (.inr (.inr (some 27)))]) (st' := [.inl 1, .inr (.inr (some 27))]) (h1 := hp L (ax_u2 s 27 1 0) c e) rfl ?_
    exact J1 _ (by simp only [if_neg h3])
noncomputable def j_4_26 (s : Sg) : Option (Sum (Int × Sg) (Nat × Sg)) :=
  ((f_16 s).bind fun q1 =>
  j_4_30 q1)
theorem bl_4_26 {L c : Nat} {e : Nat → Nat} : ∀ (s : Sg) (q : Sum (Int × Sg) (Nat × Sg)), j_4_26 s = some q → RuP 223 tb_m4 26 [some (.inr (.inr (some 27)))] [] (hp L s c e) (oX L c (oI L c e) q) := by
  intro s q h
  unfold j_4_26 at h
  refine RuP.step (pc' := 27) (ls' := [some (.inr (.inr (some 27)))]) (st' := [.inr (.inr (some 27))]) (h1 := hp L s c e) rfl ?_
  obtain ⟨q1, h1, h⟩ := bd_some h
  refine RuP.cV rfl ((ev_16 h1).up (by decide)) ?_
  exact bl_4_30 _ _ h
noncomputable def f_4 (s : Sg) : Option (Sum (Int × Sg) (Nat × Sg)) :=
  (f_14 s).bind fun q1 => (f_73_28 (q1 27 1) q1).bind fun q2 => (if q2.1 = 0 then j_4_30 q2.2 else (f_15 q2.2).bind fun q3 => j_4_26 q3)
theorem ev_4 {L c : Nat} {e : Nat → Nat} {s : Sg} {q : Sum (Int × Sg) (Nat × Sg)} (h : f_4 s = some q) : EvP 224 4 [.inr (.inr (some 27))] (hp L s c e) (oD L c 2 (oCI L c 2) q) := by
  unfold f_4 at h
  refine EvP.of (μ := tb_m4) (ls := [some (.inr (.inr (some 27)))]) rfl (Nat.le_of_ble_eq_true rfl) rfl ?_
  refine RuP.step (pc' := 1) (ls' := [some (.inr (.inr (some 27)))]) (st' := [.inr (.inr (some 27))]) (h1 := hp L s c e) rfl ?_
  obtain ⟨q1, h1, h⟩ := bd_some h
  refine RuP.cV rfl ((ev_14 h1).up (by decide)) ?_
  refine RuP.step (pc' := 5) (ls' := [some (.inr (.inr (some 27)))]) (st' := [.inr (.inr (some 27))]) (h1 := hp L q1 c e) rfl ?_
  refine RuP.step (pc' := 8) (ls' := [some (.inr (.inr (some 27)))]) (st' := [.inr (.inr (some 39))]) (h1 := hp L q1 c e) rfl ?_
  refine RuP.step (pc' := 9) (ls' := [some (.inr (.inr (some 27)))]) (st' := [.inr (.inr (some 27)), .inr (.inr (some 39))]) (h1 := hp L q1 c e) rfl ?_
  refine RuP.step (pc' := 12) (ls' := [some (.inr (.inr (some 27)))]) (st' := [.inr (.inr (some 28)), .inr (.inr (some 39))]) (h1 := hp L q1 c e) rfl ?_
  refine RuP.step (pc' := 13) (ls' := [some (.inr (.inr (some 27)))]) (st' := [.inr (.inr (some 27)), .inr (.inr (some 28)), .inr (.inr (some 39))]) (h1 := hp L q1 c e) rfl ?_
  refine RuP.step (pc' := 16) (ls' := [some (.inr (.inr (some 27)))]) (st' := [.inl (q1 27 1), .inr (.inr (some 28)), .inr (.inr (some 39))]) (h1 := hp L q1 c e) rfl ?_
  obtain ⟨q2, h1, h⟩ := bd_some h
  refine RuP.cI rfl ((ev_73_28 h1).up (by decide)) ?_
  by_cases h0 : q2.1 = 0
  · rw [if_pos h0] at h
    refine RuP.jy rfl h0 ?_
    exact RuP.wk (bl_4_30 _ _ h) (oD_ofI (by omega))
  · rw [if_neg h0] at h
    refine RuP.jn rfl h0 ?_
    refine RuP.step (pc' := 23) (ls' := [some (.inr (.inr (some 27)))]) (st' := [.inr (.inr (some 27))]) (h1 := hp L q2.2 c e) rfl ?_
    obtain ⟨q3, h1, h⟩ := bd_some h
    exact RuP.cCV rfl ((ev_15 h1).up (by decide)) (fun c' e' hc => RuP.wk (bl_4_26 _ _ h) (oD_ofI (by omega)))
/-- MachineTextLaw.feed -/
noncomputable def f_280 (x1 x2 x3 x4 : Int) (s : Sg) : Option (Int × Sg) := xc (f_2 x1 x2 x3 x4 s) (fun a => some (0, ax_u2 a.2 136 (0 : Int).toNat a.1)) (fun x => if x.1 = 14 then some (1, x.2) else none)
theorem ev_280 {L c : Nat} {e : Nat → Nat} {s : Sg} {x1 x2 x3 x4 : Int} {q : Int × Sg} (h : f_280 x1 x2 x3 x4 s = some q) : EvP 3 280 [.inr (.inr (some 27)), .inl x1, .inl x2, .inl x3, .inl x4, .inr (.inr (some 136))] (hp L s c e) (oCI L c 2 q) := by
  unfold f_280 at h
  refine EvP.of (μ := tb_m280) (ls := [some (.inr (.inr (some 27))), some (.inl x1), some (.inl x2), some (.inl x3), some (.inl x4), some (.inr (.inr (some 136))), none]) rfl (Nat.le_of_ble_eq_true rfl) rfl ?_
  refine RuP.step (pc' := 2) (ls' := [some (.inr (.inr (some 27))), some (.inl x1), some (.inl x2), some (.inl x3), some (.inl x4), some (.inr (.inr (some 136))), none]) (st' := [.inr (.inr (some 136))]) (h1 := hp L s c e) rfl ?_
  refine RuP.step (pc' := 3) (ls' := [some (.inr (.inr (some 27))), some (.inl x1), some (.inl x2), some (.inl x3), some (.inl x4), some (.inr (.inr (some 136))), none]) (st' := [.inl 0, .inr (.inr (some 136))]) (h1 := hp L s c e) rfl ?_
  refine RuP.step (pc' := 4) (ls' := [some (.inr (.inr (some 27))), some (.inl x1), some (.inl x2), some (.inl x3), some (.inl x4), some (.inr (.inr (some 136))), none]) (st' := [.inr (.inr (some 27)), .inl 0, .inr (.inr (some 136))]) (h1 := hp L s c e) rfl ?_
  refine RuP.step (pc' := 5) (ls' := [some (.inr (.inr (some 27))), some (.inl x1), some (.inl x2), some (.inl x3), some (.inl x4), some (.inr (.inr (some 136))), none]) (st' := [.inl x1, .inr (.inr (some 27)), .inl 0, .inr (.inr (some 136))]) (h1 := hp L s c e) rfl ?_
  refine RuP.step (pc' := 6) (ls' := [some (.inr (.inr (some 27))), some (.inl x1), some (.inl x2), some (.inl x3), some (.inl x4), some (.inr (.inr (some 136))), none]) (st' := [.inl x2, .inl x1, .inr (.inr (some 27)), .inl 0, .inr (.inr (some 136))]) (h1 := hp L s c e) rfl ?_
  refine RuP.step (pc' := 7) (ls' := [some (.inr (.inr (some 27))), some (.inl x1), some (.inl x2), some (.inl x3), some (.inl x4), some (.inr (.inr (some 136))), none]) (st' := [.inl x3, .inl x2, .inl x1, .inr (.inr (some 27)), .inl 0, .inr (.inr (some 136))]) (h1 := hp L s c e) rfl ?_
  refine RuP.step (pc' := 9) (ls' := [some (.inr (.inr (some 27))), some (.inl x1), some (.inl x2), some (.inl x3), some (.inl x4), some (.inr (.inr (some 136))), none]) (st' := [.inl x4, .inl x3, .inl x2, .inl x1, .inr (.inr (some 27)), .inl 0, .inr (.inr (some 136))]) (h1 := hp L s c e) rfl ?_
  rcases xc_some h with ⟨a, h1, h⟩ | ⟨x, h1, h⟩
  · refine RuP.cCI (k := 2) rfl (EvP.wk (ev_2 (L := L) (c := c) (e := e) h1) (oD_ofI (j := c) (k := 2) (by omega))) (fun c' e' hc => ?_)
    refine RuP.step (pc' := 13) (ls' := [some (.inr (.inr (some 27))), some (.inl x1), some (.inl x2), some (.inl x3), some (.inl x4), some (.inr (.inr (some 136))), none]) (st' := [.inr (.inl a.1), .inl 0, .inr (.inr (some 136))]) (h1 := hp L a.2 c' e') rfl ?_
    refine RuP.ast (f := fun t => t == 2) (j := (0 : Int)) (a := 136) rfl rfl (by decide) rfl rfl (by decide) (show (0 : Int) < (1 : Int) by decide) ?_
    refine RuP.step (pc' := 21) (ls' := [some (.inr (.inr (some 27))), some (.inl x1), some (.inl x2), some (.inl x3), some (.inl x4), some (.inr (.inr (some 136))), none]) (st' := []) (h1 := hp L (ax_u2 a.2 136 (0 : Int).toNat a.1) c' e') rfl ?_
    refine RuP.step (pc' := 22) (ls' := [some (.inr (.inr (some 27))), some (.inl x1), some (.inl x2), some (.inl x3), some (.inl x4), some (.inr (.inr (some 136))), none]) (st' := [.inl 0]) (h1 := hp L (ax_u2 a.2 136 (0 : Int).toNat a.1) c' e') rfl ?_
    cases h
    exact RuP.wk (RuP.dI rfl) (oCI_of hc)
  · by_cases hx0 : x.1 = 14
    · rw [if_pos hx0] at h
      cases h
      refine RuP.catD (t := 17) (k := 2) rfl (EvP.wk (ev_2 (L := L) (c := c) (e := e) h1) (oD_ofI (j := c) (k := 2) (by omega))) ?_ (fun c1 e' hc => ?_)
      · rw [hx0]
        rfl
      refine RuP.step (pc' := 19) (ls' := [some (.inr (.inr (some 27))), some (.inl x1), some (.inl x2), some (.inl x3), some (.inl x4), some (.inr (.inr (some 136))), some (.inr (.inr (some (27 + (110 + c1)))))]) (st' := []) (h1 := hp L x.2 (c1 + 1) e') rfl ?_
      refine RuP.step (pc' := 20) (ls' := [some (.inr (.inr (some 27))), some (.inl x1), some (.inl x2), some (.inl x3), some (.inl x4), some (.inr (.inr (some 136))), some (.inr (.inr (some (27 + (110 + c1)))))]) (st' := [.inl 1]) (h1 := hp L x.2 (c1 + 1) e') rfl ?_
      exact RuP.wk (RuP.dI rfl) (oCI_of hc)
    rw [if_neg hx0] at h
    cases h
/-- MachineTextLaw.end -/
noncomputable def f_281 (x1 : Int) (s : Sg) : Option (Int × Sg) := xc (f_3 x1 s) (fun a => some (0, ax_u2 a.2 136 (0 : Int).toNat a.1)) (fun x => if x.1 = 15 then some (1, x.2) else if x.1 = 14 then some (2, x.2) else none)
theorem ev_281 {L c : Nat} {e : Nat → Nat} {s : Sg} {x1 : Int} {q : Int × Sg} (h : f_281 x1 s = some q) : EvP 2 281 [.inr (.inr (some 27)), .inl x1, .inr (.inr (some 136))] (hp L s c e) (oCI L c 2 q) := by
  unfold f_281 at h
  refine EvP.of (μ := tb_m281) (ls := [some (.inr (.inr (some 27))), some (.inl x1), some (.inr (.inr (some 136))), none]) rfl (Nat.le_of_ble_eq_true rfl) rfl ?_
  refine RuP.step (pc' := 1) (ls' := [some (.inr (.inr (some 27))), some (.inl x1), some (.inr (.inr (some 136))), none]) (st' := [.inr (.inr (some 136))]) (h1 := hp L s c e) rfl ?_
  refine RuP.step (pc' := 2) (ls' := [some (.inr (.inr (some 27))), some (.inl x1), some (.inr (.inr (some 136))), none]) (st' := [.inl 0, .inr (.inr (some 136))]) (h1 := hp L s c e) rfl ?_
  refine RuP.step (pc' := 3) (ls' := [some (.inr (.inr (some 27))), some (.inl x1), some (.inr (.inr (some 136))), none]) (st' := [.inr (.inr (some 27)), .inl 0, .inr (.inr (some 136))]) (h1 := hp L s c e) rfl ?_
  refine RuP.step (pc' := 4) (ls' := [some (.inr (.inr (some 27))), some (.inl x1), some (.inr (.inr (some 136))), none]) (st' := [.inl x1, .inr (.inr (some 27)), .inl 0, .inr (.inr (some 136))]) (h1 := hp L s c e) rfl ?_
  rcases xc_some h with ⟨a, h1, h⟩ | ⟨x, h1, h⟩
  · refine RuP.cCI (k := 2) rfl (EvP.wk (ev_3 (L := L) (c := c) (e := e) h1) (oD_ofI (j := c) (k := 2) (by omega))) (fun c' e' hc => ?_)
    refine RuP.step (pc' := 8) (ls' := [some (.inr (.inr (some 27))), some (.inl x1), some (.inr (.inr (some 136))), none]) (st' := [.inr (.inl a.1), .inl 0, .inr (.inr (some 136))]) (h1 := hp L a.2 c' e') rfl ?_
    refine RuP.ast (f := fun t => t == 2) (j := (0 : Int)) (a := 136) rfl rfl (by decide) rfl rfl (by decide) (show (0 : Int) < (1 : Int) by decide) ?_
    refine RuP.step (pc' := 18) (ls' := [some (.inr (.inr (some 27))), some (.inl x1), some (.inr (.inr (some 136))), none]) (st' := []) (h1 := hp L (ax_u2 a.2 136 (0 : Int).toNat a.1) c' e') rfl ?_
    refine RuP.step (pc' := 19) (ls' := [some (.inr (.inr (some 27))), some (.inl x1), some (.inr (.inr (some 136))), none]) (st' := [.inl 0]) (h1 := hp L (ax_u2 a.2 136 (0 : Int).toNat a.1) c' e') rfl ?_
    cases h
    exact RuP.wk (RuP.dI rfl) (oCI_of hc)
  · by_cases hx0 : x.1 = 15
    · rw [if_pos hx0] at h
      cases h
      refine RuP.catD (t := 12) (k := 2) rfl (EvP.wk (ev_3 (L := L) (c := c) (e := e) h1) (oD_ofI (j := c) (k := 2) (by omega))) ?_ (fun c1 e' hc => ?_)
      · rw [hx0]
        rfl
      refine RuP.step (pc' := 13) (ls' := [some (.inr (.inr (some 27))), some (.inl x1), some (.inr (.inr (some 136))), some (.inr (.inr (some (27 + (110 + c1)))))]) (st' := []) (h1 := hp L x.2 (c1 + 1) e') rfl ?_
      refine RuP.step (pc' := 14) (ls' := [some (.inr (.inr (some 27))), some (.inl x1), some (.inr (.inr (some 136))), some (.inr (.inr (some (27 + (110 + c1)))))]) (st' := [.inl 1]) (h1 := hp L x.2 (c1 + 1) e') rfl ?_
      exact RuP.wk (RuP.dI rfl) (oCI_of hc)
    rw [if_neg hx0] at h
    by_cases hx1 : x.1 = 14
    · rw [if_pos hx1] at h
      cases h
      refine RuP.catD (t := 15) (k := 2) rfl (EvP.wk (ev_3 (L := L) (c := c) (e := e) h1) (oD_ofI (j := c) (k := 2) (by omega))) ?_ (fun c1 e' hc => ?_)
      · rw [hx1]
        rfl
      refine RuP.step (pc' := 16) (ls' := [some (.inr (.inr (some 27))), some (.inl x1), some (.inr (.inr (some 136))), some (.inr (.inr (some (27 + (110 + c1)))))]) (st' := []) (h1 := hp L x.2 (c1 + 1) e') rfl ?_
      refine RuP.step (pc' := 17) (ls' := [some (.inr (.inr (some 27))), some (.inl x1), some (.inr (.inr (some 136))), some (.inr (.inr (some (27 + (110 + c1)))))]) (st' := [.inl 2]) (h1 := hp L x.2 (c1 + 1) e') rfl ?_
      exact RuP.wk (RuP.dI rfl) (oCI_of hc)
    rw [if_neg hx1] at h
    cases h
/-- MachineTextLaw.read -/
noncomputable def f_282 (s : Sg) : Option (Int × Sg) := xc (f_4 s) (fun a => some (0, ax_u2 a.2 136 (0 : Int).toNat a.1)) (fun x => if x.1 = 15 then some (1, x.2) else none)
theorem ev_282 {L c : Nat} {e : Nat → Nat} {s : Sg} {q : Int × Sg} (h : f_282 s = some q) : EvP 225 282 [.inr (.inr (some 27)), .inr (.inr (some 136))] (hp L s c e) (oCI L c 2 q) := by
  unfold f_282 at h
  refine EvP.of (μ := tb_m282) (ls := [some (.inr (.inr (some 27))), some (.inr (.inr (some 136))), none]) rfl (Nat.le_of_ble_eq_true rfl) rfl ?_
  refine RuP.step (pc' := 1) (ls' := [some (.inr (.inr (some 27))), some (.inr (.inr (some 136))), none]) (st' := [.inr (.inr (some 136))]) (h1 := hp L s c e) rfl ?_
  refine RuP.step (pc' := 2) (ls' := [some (.inr (.inr (some 27))), some (.inr (.inr (some 136))), none]) (st' := [.inl 0, .inr (.inr (some 136))]) (h1 := hp L s c e) rfl ?_
  refine RuP.step (pc' := 3) (ls' := [some (.inr (.inr (some 27))), some (.inr (.inr (some 136))), none]) (st' := [.inr (.inr (some 27)), .inl 0, .inr (.inr (some 136))]) (h1 := hp L s c e) rfl ?_
  rcases xc_some h with ⟨a, h1, h⟩ | ⟨x, h1, h⟩
  · refine RuP.cCI (k := 2) rfl (ev_4 (L := L) (c := c) (e := e) h1) (fun c' e' hc => ?_)
    refine RuP.step (pc' := 7) (ls' := [some (.inr (.inr (some 27))), some (.inr (.inr (some 136))), none]) (st' := [.inr (.inl a.1), .inl 0, .inr (.inr (some 136))]) (h1 := hp L a.2 c' e') rfl ?_
    refine RuP.ast (f := fun t => t == 2) (j := (0 : Int)) (a := 136) rfl rfl (by decide) rfl rfl (by decide) (show (0 : Int) < (1 : Int) by decide) ?_
    refine RuP.step (pc' := 14) (ls' := [some (.inr (.inr (some 27))), some (.inr (.inr (some 136))), none]) (st' := []) (h1 := hp L (ax_u2 a.2 136 (0 : Int).toNat a.1) c' e') rfl ?_
    refine RuP.step (pc' := 15) (ls' := [some (.inr (.inr (some 27))), some (.inr (.inr (some 136))), none]) (st' := [.inl 0]) (h1 := hp L (ax_u2 a.2 136 (0 : Int).toNat a.1) c' e') rfl ?_
    cases h
    exact RuP.wk (RuP.dI rfl) (oCI_of hc)
  · by_cases hx0 : x.1 = 15
    · rw [if_pos hx0] at h
      cases h
      refine RuP.catD (t := 11) (k := 2) rfl (ev_4 (L := L) (c := c) (e := e) h1) ?_ (fun c1 e' hc => ?_)
      · rw [hx0]
        rfl
      refine RuP.step (pc' := 12) (ls' := [some (.inr (.inr (some 27))), some (.inr (.inr (some 136))), some (.inr (.inr (some (27 + (110 + c1)))))]) (st' := []) (h1 := hp L x.2 (c1 + 1) e') rfl ?_
      refine RuP.step (pc' := 13) (ls' := [some (.inr (.inr (some 27))), some (.inr (.inr (some 136))), some (.inr (.inr (some (27 + (110 + c1)))))]) (st' := [.inl 1]) (h1 := hp L x.2 (c1 + 1) e') rfl ?_
      exact RuP.wk (RuP.dI rfl) (oCI_of hc)
    rw [if_neg hx0] at h
    cases h
/-- MachineTextLaw.fault -/
noncomputable def f_283 (x1 : Int) (s : Sg) : Option (Int × Sg) := xc (f_5 x1 s) (fun a => some (0, ax_u2 a.2 136 (0 : Int).toNat a.1)) (fun x => if x.1 = 16 then some (1, x.2) else none)
theorem ev_283 {L c : Nat} {e : Nat → Nat} {s : Sg} {x1 : Int} {q : Int × Sg} (h : f_283 x1 s = some q) : EvP 3 283 [.inr (.inr (some 27)), .inl x1, .inr (.inr (some 136))] (hp L s c e) (oCI L c 2 q) := by
  unfold f_283 at h
  refine EvP.of (μ := tb_m283) (ls := [some (.inr (.inr (some 27))), some (.inl x1), some (.inr (.inr (some 136))), none]) rfl (Nat.le_of_ble_eq_true rfl) rfl ?_
  refine RuP.step (pc' := 1) (ls' := [some (.inr (.inr (some 27))), some (.inl x1), some (.inr (.inr (some 136))), none]) (st' := [.inr (.inr (some 136))]) (h1 := hp L s c e) rfl ?_
  refine RuP.step (pc' := 2) (ls' := [some (.inr (.inr (some 27))), some (.inl x1), some (.inr (.inr (some 136))), none]) (st' := [.inl 0, .inr (.inr (some 136))]) (h1 := hp L s c e) rfl ?_
  refine RuP.step (pc' := 3) (ls' := [some (.inr (.inr (some 27))), some (.inl x1), some (.inr (.inr (some 136))), none]) (st' := [.inr (.inr (some 27)), .inl 0, .inr (.inr (some 136))]) (h1 := hp L s c e) rfl ?_
  refine RuP.step (pc' := 4) (ls' := [some (.inr (.inr (some 27))), some (.inl x1), some (.inr (.inr (some 136))), none]) (st' := [.inl x1, .inr (.inr (some 27)), .inl 0, .inr (.inr (some 136))]) (h1 := hp L s c e) rfl ?_
  rcases xc_some h with ⟨a, h1, h⟩ | ⟨x, h1, h⟩
  · refine RuP.cCI (k := 2) rfl (EvP.wk (ev_5 (L := L) (c := c) (e := e) h1) (oD_ofI (j := c) (k := 2) (by omega))) (fun c' e' hc => ?_)
    refine RuP.step (pc' := 8) (ls' := [some (.inr (.inr (some 27))), some (.inl x1), some (.inr (.inr (some 136))), none]) (st' := [.inr (.inl a.1), .inl 0, .inr (.inr (some 136))]) (h1 := hp L a.2 c' e') rfl ?_
    refine RuP.ast (f := fun t => t == 2) (j := (0 : Int)) (a := 136) rfl rfl (by decide) rfl rfl (by decide) (show (0 : Int) < (1 : Int) by decide) ?_
    refine RuP.step (pc' := 15) (ls' := [some (.inr (.inr (some 27))), some (.inl x1), some (.inr (.inr (some 136))), none]) (st' := []) (h1 := hp L (ax_u2 a.2 136 (0 : Int).toNat a.1) c' e') rfl ?_
    refine RuP.step (pc' := 16) (ls' := [some (.inr (.inr (some 27))), some (.inl x1), some (.inr (.inr (some 136))), none]) (st' := [.inl 0]) (h1 := hp L (ax_u2 a.2 136 (0 : Int).toNat a.1) c' e') rfl ?_
    cases h
    exact RuP.wk (RuP.dI rfl) (oCI_of hc)
  · by_cases hx0 : x.1 = 16
    · rw [if_pos hx0] at h
      cases h
      refine RuP.catD (t := 12) (k := 2) rfl (EvP.wk (ev_5 (L := L) (c := c) (e := e) h1) (oD_ofI (j := c) (k := 2) (by omega))) ?_ (fun c1 e' hc => ?_)
      · rw [hx0]
        rfl
      refine RuP.step (pc' := 13) (ls' := [some (.inr (.inr (some 27))), some (.inl x1), some (.inr (.inr (some 136))), some (.inr (.inr (some (27 + (110 + c1)))))]) (st' := []) (h1 := hp L x.2 (c1 + 1) e') rfl ?_
      refine RuP.step (pc' := 14) (ls' := [some (.inr (.inr (some 27))), some (.inl x1), some (.inr (.inr (some 136))), some (.inr (.inr (some (27 + (110 + c1)))))]) (st' := [.inl 1]) (h1 := hp L x.2 (c1 + 1) e') rfl ?_
      exact RuP.wk (RuP.dI rfl) (oCI_of hc)
    rw [if_neg hx0] at h
    cases h
/-- MachineTextLaw.statement -/
noncomputable def f_284 (x1 x2 : Int) (s : Sg) : Option (Int × Sg) := xc (f_6 x1 x2 s) (fun a => some (0, ax_u2 a.2 136 (0 : Int).toNat a.1)) (fun x => if x.1 = 16 then some (1, x.2) else none)
theorem ev_284 {L c : Nat} {e : Nat → Nat} {s : Sg} {x1 x2 : Int} {q : Int × Sg} (h : f_284 x1 x2 s = some q) : EvP 4 284 [.inr (.inr (some 27)), .inl x1, .inl x2, .inr (.inr (some 136))] (hp L s c e) (oCI L c 2 q) := by
  unfold f_284 at h
  refine EvP.of (μ := tb_m284) (ls := [some (.inr (.inr (some 27))), some (.inl x1), some (.inl x2), some (.inr (.inr (some 136))), none]) rfl (Nat.le_of_ble_eq_true rfl) rfl ?_
  refine RuP.step (pc' := 1) (ls' := [some (.inr (.inr (some 27))), some (.inl x1), some (.inl x2), some (.inr (.inr (some 136))), none]) (st' := [.inr (.inr (some 136))]) (h1 := hp L s c e) rfl ?_
  refine RuP.step (pc' := 2) (ls' := [some (.inr (.inr (some 27))), some (.inl x1), some (.inl x2), some (.inr (.inr (some 136))), none]) (st' := [.inl 0, .inr (.inr (some 136))]) (h1 := hp L s c e) rfl ?_
  refine RuP.step (pc' := 3) (ls' := [some (.inr (.inr (some 27))), some (.inl x1), some (.inl x2), some (.inr (.inr (some 136))), none]) (st' := [.inr (.inr (some 27)), .inl 0, .inr (.inr (some 136))]) (h1 := hp L s c e) rfl ?_
  refine RuP.step (pc' := 4) (ls' := [some (.inr (.inr (some 27))), some (.inl x1), some (.inl x2), some (.inr (.inr (some 136))), none]) (st' := [.inl x1, .inr (.inr (some 27)), .inl 0, .inr (.inr (some 136))]) (h1 := hp L s c e) rfl ?_
  refine RuP.step (pc' := 5) (ls' := [some (.inr (.inr (some 27))), some (.inl x1), some (.inl x2), some (.inr (.inr (some 136))), none]) (st' := [.inl x2, .inl x1, .inr (.inr (some 27)), .inl 0, .inr (.inr (some 136))]) (h1 := hp L s c e) rfl ?_
  rcases xc_some h with ⟨a, h1, h⟩ | ⟨x, h1, h⟩
  · refine RuP.cCI (k := 2) rfl (EvP.wk (ev_6 (L := L) (c := c) (e := e) h1) (oD_ofI (j := c) (k := 2) (by omega))) (fun c' e' hc => ?_)
    refine RuP.step (pc' := 9) (ls' := [some (.inr (.inr (some 27))), some (.inl x1), some (.inl x2), some (.inr (.inr (some 136))), none]) (st' := [.inr (.inl a.1), .inl 0, .inr (.inr (some 136))]) (h1 := hp L a.2 c' e') rfl ?_
    refine RuP.ast (f := fun t => t == 2) (j := (0 : Int)) (a := 136) rfl rfl (by decide) rfl rfl (by decide) (show (0 : Int) < (1 : Int) by decide) ?_
    refine RuP.step (pc' := 17) (ls' := [some (.inr (.inr (some 27))), some (.inl x1), some (.inl x2), some (.inr (.inr (some 136))), none]) (st' := []) (h1 := hp L (ax_u2 a.2 136 (0 : Int).toNat a.1) c' e') rfl ?_
    refine RuP.step (pc' := 18) (ls' := [some (.inr (.inr (some 27))), some (.inl x1), some (.inl x2), some (.inr (.inr (some 136))), none]) (st' := [.inl 0]) (h1 := hp L (ax_u2 a.2 136 (0 : Int).toNat a.1) c' e') rfl ?_
    cases h
    exact RuP.wk (RuP.dI rfl) (oCI_of hc)
  · by_cases hx0 : x.1 = 16
    · rw [if_pos hx0] at h
      cases h
      refine RuP.catD (t := 13) (k := 2) rfl (EvP.wk (ev_6 (L := L) (c := c) (e := e) h1) (oD_ofI (j := c) (k := 2) (by omega))) ?_ (fun c1 e' hc => ?_)
      · rw [hx0]
        rfl
      refine RuP.step (pc' := 15) (ls' := [some (.inr (.inr (some 27))), some (.inl x1), some (.inl x2), some (.inr (.inr (some 136))), some (.inr (.inr (some (27 + (110 + c1)))))]) (st' := []) (h1 := hp L x.2 (c1 + 1) e') rfl ?_
      refine RuP.step (pc' := 16) (ls' := [some (.inr (.inr (some 27))), some (.inl x1), some (.inl x2), some (.inr (.inr (some 136))), some (.inr (.inr (some (27 + (110 + c1)))))]) (st' := [.inl 1]) (h1 := hp L x.2 (c1 + 1) e') rfl ?_
      exact RuP.wk (RuP.dI rfl) (oCI_of hc)
    rw [if_neg hx0] at h
    cases h
/-- MachineTextLaw.bits -/
noncomputable def f_285 (x1 x2 : Int) (s : Sg) : Option (Int × Sg) := xc (f_7 x1 x2 s) (fun a => some (0, ax_u2 a.2 136 (0 : Int).toNat a.1)) (fun x => if x.1 = 16 then some (1, x.2) else if x.1 = 14 then some (2, x.2) else none)
theorem ev_285 {L c : Nat} {e : Nat → Nat} {s : Sg} {x1 x2 : Int} {q : Int × Sg} (h : f_285 x1 x2 s = some q) : EvP 4 285 [.inr (.inr (some 27)), .inl x1, .inl x2, .inr (.inr (some 136))] (hp L s c e) (oCI L c 2 q) := by
  unfold f_285 at h
  refine EvP.of (μ := tb_m285) (ls := [some (.inr (.inr (some 27))), some (.inl x1), some (.inl x2), some (.inr (.inr (some 136))), none]) rfl (Nat.le_of_ble_eq_true rfl) rfl ?_
  refine RuP.step (pc' := 1) (ls' := [some (.inr (.inr (some 27))), some (.inl x1), some (.inl x2), some (.inr (.inr (some 136))), none]) (st' := [.inr (.inr (some 136))]) (h1 := hp L s c e) rfl ?_
  refine RuP.step (pc' := 2) (ls' := [some (.inr (.inr (some 27))), some (.inl x1), some (.inl x2), some (.inr (.inr (some 136))), none]) (st' := [.inl 0, .inr (.inr (some 136))]) (h1 := hp L s c e) rfl ?_
  refine RuP.step (pc' := 3) (ls' := [some (.inr (.inr (some 27))), some (.inl x1), some (.inl x2), some (.inr (.inr (some 136))), none]) (st' := [.inr (.inr (some 27)), .inl 0, .inr (.inr (some 136))]) (h1 := hp L s c e) rfl ?_
  refine RuP.step (pc' := 4) (ls' := [some (.inr (.inr (some 27))), some (.inl x1), some (.inl x2), some (.inr (.inr (some 136))), none]) (st' := [.inl x1, .inr (.inr (some 27)), .inl 0, .inr (.inr (some 136))]) (h1 := hp L s c e) rfl ?_
  refine RuP.step (pc' := 5) (ls' := [some (.inr (.inr (some 27))), some (.inl x1), some (.inl x2), some (.inr (.inr (some 136))), none]) (st' := [.inl x2, .inl x1, .inr (.inr (some 27)), .inl 0, .inr (.inr (some 136))]) (h1 := hp L s c e) rfl ?_
  rcases xc_some h with ⟨a, h1, h⟩ | ⟨x, h1, h⟩
  · refine RuP.cCJ (k := 2) rfl (EvP.wk (ev_7 (L := L) (c := c) (e := e) h1) (oD_ofJ (j := c) (k := 2) (by omega))) (fun c' e' hc => ?_)
    refine RuP.ast (f := fun t => t == 2) (j := (0 : Int)) (a := 136) rfl rfl (by decide) rfl rfl (by decide) (show (0 : Int) < (1 : Int) by decide) ?_
    refine RuP.step (pc' := 20) (ls' := [some (.inr (.inr (some 27))), some (.inl x1), some (.inl x2), some (.inr (.inr (some 136))), none]) (st' := []) (h1 := hp L (ax_u2 a.2 136 (0 : Int).toNat a.1) c' e') rfl ?_
    refine RuP.step (pc' := 21) (ls' := [some (.inr (.inr (some 27))), some (.inl x1), some (.inl x2), some (.inr (.inr (some 136))), none]) (st' := [.inl 0]) (h1 := hp L (ax_u2 a.2 136 (0 : Int).toNat a.1) c' e') rfl ?_
    cases h
    exact RuP.wk (RuP.dI rfl) (oCI_of hc)
  · by_cases hx0 : x.1 = 16
    · rw [if_pos hx0] at h
      cases h
      refine RuP.catD (t := 12) (k := 2) rfl (EvP.wk (ev_7 (L := L) (c := c) (e := e) h1) (oD_ofJ (j := c) (k := 2) (by omega))) ?_ (fun c1 e' hc => ?_)
      · rw [hx0]
        rfl
      refine RuP.step (pc' := 14) (ls' := [some (.inr (.inr (some 27))), some (.inl x1), some (.inl x2), some (.inr (.inr (some 136))), some (.inr (.inr (some (27 + (110 + c1)))))]) (st' := []) (h1 := hp L x.2 (c1 + 1) e') rfl ?_
      refine RuP.step (pc' := 15) (ls' := [some (.inr (.inr (some 27))), some (.inl x1), some (.inl x2), some (.inr (.inr (some 136))), some (.inr (.inr (some (27 + (110 + c1)))))]) (st' := [.inl 1]) (h1 := hp L x.2 (c1 + 1) e') rfl ?_
      exact RuP.wk (RuP.dI rfl) (oCI_of hc)
    rw [if_neg hx0] at h
    by_cases hx1 : x.1 = 14
    · rw [if_pos hx1] at h
      cases h
      refine RuP.catD (t := 16) (k := 2) rfl (EvP.wk (ev_7 (L := L) (c := c) (e := e) h1) (oD_ofJ (j := c) (k := 2) (by omega))) ?_ (fun c1 e' hc => ?_)
      · rw [hx1]
        rfl
      refine RuP.step (pc' := 18) (ls' := [some (.inr (.inr (some 27))), some (.inl x1), some (.inl x2), some (.inr (.inr (some 136))), some (.inr (.inr (some (27 + (110 + c1)))))]) (st' := []) (h1 := hp L x.2 (c1 + 1) e') rfl ?_
      refine RuP.step (pc' := 19) (ls' := [some (.inr (.inr (some 27))), some (.inl x1), some (.inl x2), some (.inr (.inr (some 136))), some (.inr (.inr (some (27 + (110 + c1)))))]) (st' := [.inl 2]) (h1 := hp L x.2 (c1 + 1) e') rfl ?_
      exact RuP.wk (RuP.dI rfl) (oCI_of hc)
    rw [if_neg hx1] at h
    cases h
/-- MachineTextLaw.node -/
noncomputable def f_286 (x1 x2 : Int) (s : Sg) : Option (Int × Sg) := xc (f_8 x1 x2 s) (fun a => some (0, ax_u2 a.2 136 (0 : Int).toNat a.1)) (fun x => if x.1 = 16 then some (1, x.2) else none)
theorem ev_286 {L c : Nat} {e : Nat → Nat} {s : Sg} {x1 x2 : Int} {q : Int × Sg} (h : f_286 x1 x2 s = some q) : EvP 5 286 [.inr (.inr (some 27)), .inl x1, .inl x2, .inr (.inr (some 136))] (hp L s c e) (oCI L c 2 q) := by
  unfold f_286 at h
  refine EvP.of (μ := tb_m286) (ls := [some (.inr (.inr (some 27))), some (.inl x1), some (.inl x2), some (.inr (.inr (some 136))), none]) rfl (Nat.le_of_ble_eq_true rfl) rfl ?_
  refine RuP.step (pc' := 1) (ls' := [some (.inr (.inr (some 27))), some (.inl x1), some (.inl x2), some (.inr (.inr (some 136))), none]) (st' := [.inr (.inr (some 136))]) (h1 := hp L s c e) rfl ?_
  refine RuP.step (pc' := 2) (ls' := [some (.inr (.inr (some 27))), some (.inl x1), some (.inl x2), some (.inr (.inr (some 136))), none]) (st' := [.inl 0, .inr (.inr (some 136))]) (h1 := hp L s c e) rfl ?_
  refine RuP.step (pc' := 3) (ls' := [some (.inr (.inr (some 27))), some (.inl x1), some (.inl x2), some (.inr (.inr (some 136))), none]) (st' := [.inr (.inr (some 27)), .inl 0, .inr (.inr (some 136))]) (h1 := hp L s c e) rfl ?_
  refine RuP.step (pc' := 4) (ls' := [some (.inr (.inr (some 27))), some (.inl x1), some (.inl x2), some (.inr (.inr (some 136))), none]) (st' := [.inl x1, .inr (.inr (some 27)), .inl 0, .inr (.inr (some 136))]) (h1 := hp L s c e) rfl ?_
  refine RuP.step (pc' := 5) (ls' := [some (.inr (.inr (some 27))), some (.inl x1), some (.inl x2), some (.inr (.inr (some 136))), none]) (st' := [.inl x2, .inl x1, .inr (.inr (some 27)), .inl 0, .inr (.inr (some 136))]) (h1 := hp L s c e) rfl ?_
  rcases xc_some h with ⟨a, h1, h⟩ | ⟨x, h1, h⟩
  · refine RuP.cCI (k := 2) rfl (EvP.wk (ev_8 (L := L) (c := c) (e := e) h1) (oD_ofI (j := c) (k := 2) (by omega))) (fun c' e' hc => ?_)
    refine RuP.step (pc' := 9) (ls' := [some (.inr (.inr (some 27))), some (.inl x1), some (.inl x2), some (.inr (.inr (some 136))), none]) (st' := [.inr (.inl a.1), .inl 0, .inr (.inr (some 136))]) (h1 := hp L a.2 c' e') rfl ?_
    refine RuP.ast (f := fun t => t == 2) (j := (0 : Int)) (a := 136) rfl rfl (by decide) rfl rfl (by decide) (show (0 : Int) < (1 : Int) by decide) ?_
    refine RuP.step (pc' := 17) (ls' := [some (.inr (.inr (some 27))), some (.inl x1), some (.inl x2), some (.inr (.inr (some 136))), none]) (st' := []) (h1 := hp L (ax_u2 a.2 136 (0 : Int).toNat a.1) c' e') rfl ?_
    refine RuP.step (pc' := 18) (ls' := [some (.inr (.inr (some 27))), some (.inl x1), some (.inl x2), some (.inr (.inr (some 136))), none]) (st' := [.inl 0]) (h1 := hp L (ax_u2 a.2 136 (0 : Int).toNat a.1) c' e') rfl ?_
    cases h
    exact RuP.wk (RuP.dI rfl) (oCI_of hc)
  · by_cases hx0 : x.1 = 16
    · rw [if_pos hx0] at h
      cases h
      refine RuP.catD (t := 13) (k := 2) rfl (EvP.wk (ev_8 (L := L) (c := c) (e := e) h1) (oD_ofI (j := c) (k := 2) (by omega))) ?_ (fun c1 e' hc => ?_)
      · rw [hx0]
        rfl
      refine RuP.step (pc' := 15) (ls' := [some (.inr (.inr (some 27))), some (.inl x1), some (.inl x2), some (.inr (.inr (some 136))), some (.inr (.inr (some (27 + (110 + c1)))))]) (st' := []) (h1 := hp L x.2 (c1 + 1) e') rfl ?_
      refine RuP.step (pc' := 16) (ls' := [some (.inr (.inr (some 27))), some (.inl x1), some (.inl x2), some (.inr (.inr (some 136))), some (.inr (.inr (some (27 + (110 + c1)))))]) (st' := [.inl 1]) (h1 := hp L x.2 (c1 + 1) e') rfl ?_
      exact RuP.wk (RuP.dI rfl) (oCI_of hc)
    rw [if_neg hx0] at h
    cases h
/-- MachineTextLaw.ring -/
noncomputable def f_287 (x1 : Int) (s : Sg) : Option (Int × Sg) := xc (f_9 x1 s) (fun a => some (0, ax_u2 a.2 136 (0 : Int).toNat a.1)) (fun x => if x.1 = 16 then some (1, x.2) else none)
theorem ev_287 {L c : Nat} {e : Nat → Nat} {s : Sg} {x1 : Int} {q : Int × Sg} (h : f_287 x1 s = some q) : EvP 4 287 [.inr (.inr (some 27)), .inl x1, .inr (.inr (some 136))] (hp L s c e) (oCI L c 2 q) := by
  unfold f_287 at h
  refine EvP.of (μ := tb_m287) (ls := [some (.inr (.inr (some 27))), some (.inl x1), some (.inr (.inr (some 136))), none]) rfl (Nat.le_of_ble_eq_true rfl) rfl ?_
  refine RuP.step (pc' := 1) (ls' := [some (.inr (.inr (some 27))), some (.inl x1), some (.inr (.inr (some 136))), none]) (st' := [.inr (.inr (some 136))]) (h1 := hp L s c e) rfl ?_
  refine RuP.step (pc' := 2) (ls' := [some (.inr (.inr (some 27))), some (.inl x1), some (.inr (.inr (some 136))), none]) (st' := [.inl 0, .inr (.inr (some 136))]) (h1 := hp L s c e) rfl ?_
  refine RuP.step (pc' := 3) (ls' := [some (.inr (.inr (some 27))), some (.inl x1), some (.inr (.inr (some 136))), none]) (st' := [.inr (.inr (some 27)), .inl 0, .inr (.inr (some 136))]) (h1 := hp L s c e) rfl ?_
  refine RuP.step (pc' := 4) (ls' := [some (.inr (.inr (some 27))), some (.inl x1), some (.inr (.inr (some 136))), none]) (st' := [.inl x1, .inr (.inr (some 27)), .inl 0, .inr (.inr (some 136))]) (h1 := hp L s c e) rfl ?_
  rcases xc_some h with ⟨a, h1, h⟩ | ⟨x, h1, h⟩
  · refine RuP.cCI (k := 2) rfl (EvP.wk (ev_9 (L := L) (c := c) (e := e) h1) (oD_ofI (j := c) (k := 2) (by omega))) (fun c' e' hc => ?_)
    refine RuP.step (pc' := 8) (ls' := [some (.inr (.inr (some 27))), some (.inl x1), some (.inr (.inr (some 136))), none]) (st' := [.inr (.inl a.1), .inl 0, .inr (.inr (some 136))]) (h1 := hp L a.2 c' e') rfl ?_
    refine RuP.ast (f := fun t => t == 2) (j := (0 : Int)) (a := 136) rfl rfl (by decide) rfl rfl (by decide) (show (0 : Int) < (1 : Int) by decide) ?_
    refine RuP.step (pc' := 15) (ls' := [some (.inr (.inr (some 27))), some (.inl x1), some (.inr (.inr (some 136))), none]) (st' := []) (h1 := hp L (ax_u2 a.2 136 (0 : Int).toNat a.1) c' e') rfl ?_
    refine RuP.step (pc' := 16) (ls' := [some (.inr (.inr (some 27))), some (.inl x1), some (.inr (.inr (some 136))), none]) (st' := [.inl 0]) (h1 := hp L (ax_u2 a.2 136 (0 : Int).toNat a.1) c' e') rfl ?_
    cases h
    exact RuP.wk (RuP.dI rfl) (oCI_of hc)
  · by_cases hx0 : x.1 = 16
    · rw [if_pos hx0] at h
      cases h
      refine RuP.catD (t := 12) (k := 2) rfl (EvP.wk (ev_9 (L := L) (c := c) (e := e) h1) (oD_ofI (j := c) (k := 2) (by omega))) ?_ (fun c1 e' hc => ?_)
      · rw [hx0]
        rfl
      refine RuP.step (pc' := 13) (ls' := [some (.inr (.inr (some 27))), some (.inl x1), some (.inr (.inr (some 136))), some (.inr (.inr (some (27 + (110 + c1)))))]) (st' := []) (h1 := hp L x.2 (c1 + 1) e') rfl ?_
      refine RuP.step (pc' := 14) (ls' := [some (.inr (.inr (some 27))), some (.inl x1), some (.inr (.inr (some 136))), some (.inr (.inr (some (27 + (110 + c1)))))]) (st' := [.inl 1]) (h1 := hp L x.2 (c1 + 1) e') rfl ?_
      exact RuP.wk (RuP.dI rfl) (oCI_of hc)
    rw [if_neg hx0] at h
    cases h
/-- MachineTextLaw.print -/
noncomputable def f_288 (s : Sg) : Option (Int × Sg) := xc (f_10 s) (fun a => some (0, ax_u2 a.2 136 (0 : Int).toNat a.1)) (fun x => if x.1 = 14 then some (1, x.2) else none)
theorem ev_288 {L c : Nat} {e : Nat → Nat} {s : Sg} {q : Int × Sg} (h : f_288 s = some q) : EvP 6 288 [.inr (.inr (some 27)), .inr (.inr (some 136))] (hp L s c e) (oCI L c 2 q) := by
  unfold f_288 at h
  refine EvP.of (μ := tb_m288) (ls := [some (.inr (.inr (some 27))), some (.inr (.inr (some 136))), none]) rfl (Nat.le_of_ble_eq_true rfl) rfl ?_
  refine RuP.step (pc' := 1) (ls' := [some (.inr (.inr (some 27))), some (.inr (.inr (some 136))), none]) (st' := [.inr (.inr (some 136))]) (h1 := hp L s c e) rfl ?_
  refine RuP.step (pc' := 2) (ls' := [some (.inr (.inr (some 27))), some (.inr (.inr (some 136))), none]) (st' := [.inl 0, .inr (.inr (some 136))]) (h1 := hp L s c e) rfl ?_
  refine RuP.step (pc' := 3) (ls' := [some (.inr (.inr (some 27))), some (.inr (.inr (some 136))), none]) (st' := [.inr (.inr (some 27)), .inl 0, .inr (.inr (some 136))]) (h1 := hp L s c e) rfl ?_
  rcases xc_some h with ⟨a, h1, h⟩ | ⟨x, h1, h⟩
  · refine RuP.cCI (k := 2) rfl (EvP.wk (ev_10 (L := L) (c := c) (e := e) h1) (oD_ofI (j := c) (k := 2) (by omega))) (fun c' e' hc => ?_)
    refine RuP.step (pc' := 7) (ls' := [some (.inr (.inr (some 27))), some (.inr (.inr (some 136))), none]) (st' := [.inr (.inl a.1), .inl 0, .inr (.inr (some 136))]) (h1 := hp L a.2 c' e') rfl ?_
    refine RuP.ast (f := fun t => t == 2) (j := (0 : Int)) (a := 136) rfl rfl (by decide) rfl rfl (by decide) (show (0 : Int) < (1 : Int) by decide) ?_
    refine RuP.step (pc' := 14) (ls' := [some (.inr (.inr (some 27))), some (.inr (.inr (some 136))), none]) (st' := []) (h1 := hp L (ax_u2 a.2 136 (0 : Int).toNat a.1) c' e') rfl ?_
    refine RuP.step (pc' := 15) (ls' := [some (.inr (.inr (some 27))), some (.inr (.inr (some 136))), none]) (st' := [.inl 0]) (h1 := hp L (ax_u2 a.2 136 (0 : Int).toNat a.1) c' e') rfl ?_
    cases h
    exact RuP.wk (RuP.dI rfl) (oCI_of hc)
  · by_cases hx0 : x.1 = 14
    · rw [if_pos hx0] at h
      cases h
      refine RuP.catD (t := 11) (k := 2) rfl (EvP.wk (ev_10 (L := L) (c := c) (e := e) h1) (oD_ofI (j := c) (k := 2) (by omega))) ?_ (fun c1 e' hc => ?_)
      · rw [hx0]
        rfl
      refine RuP.step (pc' := 12) (ls' := [some (.inr (.inr (some 27))), some (.inr (.inr (some 136))), some (.inr (.inr (some (27 + (110 + c1)))))]) (st' := []) (h1 := hp L x.2 (c1 + 1) e') rfl ?_
      refine RuP.step (pc' := 13) (ls' := [some (.inr (.inr (some 27))), some (.inr (.inr (some 136))), some (.inr (.inr (some (27 + (110 + c1)))))]) (st' := [.inl 1]) (h1 := hp L x.2 (c1 + 1) e') rfl ?_
      exact RuP.wk (RuP.dI rfl) (oCI_of hc)
    rw [if_neg hx0] at h
    cases h
/-- MachineTextLaw.out -/
noncomputable def f_289 (x1 : Int) (s : Sg) : Option (Int × Sg) := xc (f_11 x1 s) (fun a => some (0, ax_u2 a.2 136 (0 : Int).toNat a.1)) (fun x => if x.1 = 16 then some (1, x.2) else none)
theorem ev_289 {L c : Nat} {e : Nat → Nat} {s : Sg} {x1 : Int} {q : Int × Sg} (h : f_289 x1 s = some q) : EvP 4 289 [.inr (.inr (some 27)), .inl x1, .inr (.inr (some 136))] (hp L s c e) (oCI L c 2 q) := by
  unfold f_289 at h
  refine EvP.of (μ := tb_m289) (ls := [some (.inr (.inr (some 27))), some (.inl x1), some (.inr (.inr (some 136))), none]) rfl (Nat.le_of_ble_eq_true rfl) rfl ?_
  refine RuP.step (pc' := 1) (ls' := [some (.inr (.inr (some 27))), some (.inl x1), some (.inr (.inr (some 136))), none]) (st' := [.inr (.inr (some 136))]) (h1 := hp L s c e) rfl ?_
  refine RuP.step (pc' := 2) (ls' := [some (.inr (.inr (some 27))), some (.inl x1), some (.inr (.inr (some 136))), none]) (st' := [.inl 0, .inr (.inr (some 136))]) (h1 := hp L s c e) rfl ?_
  refine RuP.step (pc' := 3) (ls' := [some (.inr (.inr (some 27))), some (.inl x1), some (.inr (.inr (some 136))), none]) (st' := [.inr (.inr (some 27)), .inl 0, .inr (.inr (some 136))]) (h1 := hp L s c e) rfl ?_
  refine RuP.step (pc' := 4) (ls' := [some (.inr (.inr (some 27))), some (.inl x1), some (.inr (.inr (some 136))), none]) (st' := [.inl x1, .inr (.inr (some 27)), .inl 0, .inr (.inr (some 136))]) (h1 := hp L s c e) rfl ?_
  rcases xc_some h with ⟨a, h1, h⟩ | ⟨x, h1, h⟩
  · refine RuP.cCI (k := 2) rfl (EvP.wk (ev_11 (L := L) (c := c) (e := e) h1) (oD_ofI (j := c) (k := 2) (by omega))) (fun c' e' hc => ?_)
    refine RuP.step (pc' := 8) (ls' := [some (.inr (.inr (some 27))), some (.inl x1), some (.inr (.inr (some 136))), none]) (st' := [.inr (.inl a.1), .inl 0, .inr (.inr (some 136))]) (h1 := hp L a.2 c' e') rfl ?_
    refine RuP.ast (f := fun t => t == 2) (j := (0 : Int)) (a := 136) rfl rfl (by decide) rfl rfl (by decide) (show (0 : Int) < (1 : Int) by decide) ?_
    refine RuP.step (pc' := 15) (ls' := [some (.inr (.inr (some 27))), some (.inl x1), some (.inr (.inr (some 136))), none]) (st' := []) (h1 := hp L (ax_u2 a.2 136 (0 : Int).toNat a.1) c' e') rfl ?_
    refine RuP.step (pc' := 16) (ls' := [some (.inr (.inr (some 27))), some (.inl x1), some (.inr (.inr (some 136))), none]) (st' := [.inl 0]) (h1 := hp L (ax_u2 a.2 136 (0 : Int).toNat a.1) c' e') rfl ?_
    cases h
    exact RuP.wk (RuP.dI rfl) (oCI_of hc)
  · by_cases hx0 : x.1 = 16
    · rw [if_pos hx0] at h
      cases h
      refine RuP.catD (t := 12) (k := 2) rfl (EvP.wk (ev_11 (L := L) (c := c) (e := e) h1) (oD_ofI (j := c) (k := 2) (by omega))) ?_ (fun c1 e' hc => ?_)
      · rw [hx0]
        rfl
      refine RuP.step (pc' := 13) (ls' := [some (.inr (.inr (some 27))), some (.inl x1), some (.inr (.inr (some 136))), some (.inr (.inr (some (27 + (110 + c1)))))]) (st' := []) (h1 := hp L x.2 (c1 + 1) e') rfl ?_
      refine RuP.step (pc' := 14) (ls' := [some (.inr (.inr (some 27))), some (.inl x1), some (.inr (.inr (some 136))), some (.inr (.inr (some (27 + (110 + c1)))))]) (st' := [.inl 1]) (h1 := hp L x.2 (c1 + 1) e') rfl ?_
      exact RuP.wk (RuP.dI rfl) (oCI_of hc)
    rw [if_neg hx0] at h
    cases h
/-- MachineTextLaw.again -/
noncomputable def f_290 (s : Sg) : Option (Int × Sg) := xc (f_12 s) (fun a => some (0, ax_u2 a.2 136 (0 : Int).toNat a.1)) (fun x => if x.1 = 14 then some (1, x.2) else none)
theorem ev_290 {L c : Nat} {e : Nat → Nat} {s : Sg} {q : Int × Sg} (h : f_290 s = some q) : EvP 4 290 [.inr (.inr (some 27)), .inr (.inr (some 136))] (hp L s c e) (oCI L c 2 q) := by
  unfold f_290 at h
  refine EvP.of (μ := tb_m290) (ls := [some (.inr (.inr (some 27))), some (.inr (.inr (some 136))), none]) rfl (Nat.le_of_ble_eq_true rfl) rfl ?_
  refine RuP.step (pc' := 1) (ls' := [some (.inr (.inr (some 27))), some (.inr (.inr (some 136))), none]) (st' := [.inr (.inr (some 136))]) (h1 := hp L s c e) rfl ?_
  refine RuP.step (pc' := 2) (ls' := [some (.inr (.inr (some 27))), some (.inr (.inr (some 136))), none]) (st' := [.inl 0, .inr (.inr (some 136))]) (h1 := hp L s c e) rfl ?_
  refine RuP.step (pc' := 3) (ls' := [some (.inr (.inr (some 27))), some (.inr (.inr (some 136))), none]) (st' := [.inr (.inr (some 27)), .inl 0, .inr (.inr (some 136))]) (h1 := hp L s c e) rfl ?_
  rcases xc_some h with ⟨a, h1, h⟩ | ⟨x, h1, h⟩
  · refine RuP.cCI (k := 2) rfl (EvP.wk (ev_12 (L := L) (c := c) (e := e) h1) (oD_ofI (j := c) (k := 2) (by omega))) (fun c' e' hc => ?_)
    refine RuP.step (pc' := 7) (ls' := [some (.inr (.inr (some 27))), some (.inr (.inr (some 136))), none]) (st' := [.inr (.inl a.1), .inl 0, .inr (.inr (some 136))]) (h1 := hp L a.2 c' e') rfl ?_
    refine RuP.ast (f := fun t => t == 2) (j := (0 : Int)) (a := 136) rfl rfl (by decide) rfl rfl (by decide) (show (0 : Int) < (1 : Int) by decide) ?_
    refine RuP.step (pc' := 14) (ls' := [some (.inr (.inr (some 27))), some (.inr (.inr (some 136))), none]) (st' := []) (h1 := hp L (ax_u2 a.2 136 (0 : Int).toNat a.1) c' e') rfl ?_
    refine RuP.step (pc' := 15) (ls' := [some (.inr (.inr (some 27))), some (.inr (.inr (some 136))), none]) (st' := [.inl 0]) (h1 := hp L (ax_u2 a.2 136 (0 : Int).toNat a.1) c' e') rfl ?_
    cases h
    exact RuP.wk (RuP.dI rfl) (oCI_of hc)
  · by_cases hx0 : x.1 = 14
    · rw [if_pos hx0] at h
      cases h
      refine RuP.catD (t := 11) (k := 2) rfl (EvP.wk (ev_12 (L := L) (c := c) (e := e) h1) (oD_ofI (j := c) (k := 2) (by omega))) ?_ (fun c1 e' hc => ?_)
      · rw [hx0]
        rfl
      refine RuP.step (pc' := 12) (ls' := [some (.inr (.inr (some 27))), some (.inr (.inr (some 136))), some (.inr (.inr (some (27 + (110 + c1)))))]) (st' := []) (h1 := hp L x.2 (c1 + 1) e') rfl ?_
      refine RuP.step (pc' := 13) (ls' := [some (.inr (.inr (some 27))), some (.inr (.inr (some 136))), some (.inr (.inr (some (27 + (110 + c1)))))]) (st' := [.inl 1]) (h1 := hp L x.2 (c1 + 1) e') rfl ?_
      exact RuP.wk (RuP.dI rfl) (oCI_of hc)
    rw [if_neg hx0] at h
    cases h
