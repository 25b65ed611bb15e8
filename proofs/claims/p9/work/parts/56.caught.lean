/-! CAUGHT EXCEPTIONS: parse, read, the law's helpers. -/
def xc {α β : Type} (o : Option (Sum α (Nat × Sg))) (k : α → Option β) (H : Nat × Sg → Option β) : Option β := match o with
  | none => none
  | some (.inl a) => k a
  | some (.inr x) => H x
theorem xc_some {α β : Type} {o : Option (Sum α (Nat × Sg))} {k : α → Option β} {H : Nat × Sg → Option β} {q : β} (h : xc o k H = some q) : (∃ a, o = some (.inl a) ∧ k a = some q) ∨ (∃ x, o = some (.inr x) ∧ H x = some q) := by
  cases o with
  | none => cases h
  | some o =>
    cases o with
    | inl a => exact Or.inl ⟨a, rfl, h⟩
    | inr x => exact Or.inr ⟨x, rfl, h⟩
/-- ends behind at most k more exceptions -/
def oCV (L c k : Nat) (q : Sg) (o : ax_O) (h : ax_H) : Prop := o = .inl none ∧ ∃ c' e', c' ≤ c + k ∧ h = hp L q c' e'
def oCI (L c k : Nat) (q : Int × Sg) (o : ax_O) (h : ax_H) : Prop := o = .inl (some (.inl q.1)) ∧ ∃ c' e', c' ≤ c + k ∧ h = hp L q.2 c' e'
def oCJ (L c k : Nat) (q : Int × Sg) (o : ax_O) (h : ax_H) : Prop := o = .inl (some (.inr (.inl q.1))) ∧ ∃ c' e', c' ≤ c + k ∧ h = hp L q.2 c' e'
def oD {α : Type} (L c k : Nat) (f : α → ax_O → ax_H → Prop) (q : Sum α (Nat × Sg)) : ax_O → ax_H → Prop := match q with
  | .inl a => f a
  | .inr x => fun o h => ∃ c1 e', c1 + 1 ≤ c + k ∧ o = .inr (27 + (110 + c1)) ∧ h = hp L x.2 (c1 + 1) e' ∧ e' (27 + (110 + c1)) = 2 * x.1 + 2
/-- the law's own end -/
def oL (L B : Nat) (q : Int) (o : ax_O) (h : ax_H) : Prop := o = .inl (some (.inl q)) ∧ ∃ s c' e', c' ≤ B ∧ h = hp L s c' e'
section XC
variable {n pc y L c k t B : Nat} {μ : ax_M} {ls : ax_L} {st as r : List ax_V} {h : ax_H} {Φ Ψ : ax_O → ax_H → Prop} {e : Nat → Nat} {q : Sg} {qi : Int × Sg} {x : Nat × Sg} {α : Type} {f : α → ax_O → ax_H → Prop}
theorem RuP.wk (k : RuP n μ pc ls st h Φ) (w : ∀ o h, Φ o h → Ψ o h) : RuP n μ pc ls st h Ψ := by
  obtain ⟨o, h', k, q⟩ := k
  exact ⟨o, h', k, w o h' q⟩
theorem EvP.wk (k : EvP n y as h Φ) (w : ∀ o h, Φ o h → Ψ o h) : EvP n y as h Ψ := by
  obtain ⟨o, h', k, q⟩ := k
  exact ⟨o, h', k, w o h' q⟩
theorem RuP.up {m : Nat} (k : RuP n μ pc ls st h Φ) (hm : n ≤ m) : RuP m μ pc ls st h Φ := by
  obtain ⟨o, h', ⟨F, f, k⟩, q⟩ := k
  exact ⟨o, h', ⟨F, f, ax_run_mono (ax_ev_mono (Nat.le_refl F) n m hm) μ f f _ _ _ _ _ (Nat.le_refl f) k⟩, q⟩
theorem oCV_of {j : Nat} (hj : c ≤ j + k) : ∀ o h, oV L c e q o h → oCV L j k q o h := fun _ _ ⟨a, b⟩ => ⟨a, c, e, hj, b⟩
theorem oCI_of {j : Nat} (hj : c ≤ j + k) : ∀ o h, oI L c e qi o h → oCI L j k qi o h := fun _ _ ⟨a, b⟩ => ⟨a, c, e, hj, b⟩
theorem oCJ_of {j : Nat} (hj : c ≤ j + k) : ∀ o h, oJ L c e qi o h → oCJ L j k qi o h := fun _ _ ⟨a, b⟩ => ⟨a, c, e, hj, b⟩
theorem oD_ofI {j : Nat} (hj : c + 1 ≤ j + k) {u : Sum (Int × Sg) (Nat × Sg)} : ∀ o h, oX L c (oI L c e) u o h → oD L j k (oCI L j k) u o h := by
  intro o h w
  cases u with
  | inl a => exact oCI_of (by omega) o h w
  | inr x =>
    obtain ⟨a, e', b, d⟩ := w
    exact ⟨c, e', hj, a, b, d⟩
theorem oD_ofJ {j : Nat} (hj : c + 1 ≤ j + k) {u : Sum (Int × Sg) (Nat × Sg)} : ∀ o h, oX L c (oJ L c e) u o h → oD L j k (oCJ L j k) u o h := by
  intro o h w
  cases u with
  | inl a => exact oCJ_of (by omega) o h w
  | inr x =>
    obtain ⟨a, e', b, d⟩ := w
    exact ⟨c, e', hj, a, b, d⟩
theorem RuP.cat (e1 : ax_step μ pc ls st h = some (.inr (.inr (y, as, r)))) (c1 : EvP n y as h (oX L c f (.inr x))) (hc : ax_catch μ.2.2.2.2.1 pc (2 * x.1 + 2) = some t) (k : ∀ e', RuP n μ t ls [.inr (.inr (some (27 + (110 + c))))] (hp L x.2 (c + 1) e') Φ) : RuP n μ pc ls st h Φ := by
  obtain ⟨o1, h1, c1, rfl, e', rfl, he⟩ := c1
  obtain ⟨o, h', k, q⟩ := k e'
  refine ⟨o, h', Ru.caught e1 c1 ?_ k, q⟩
  show ax_catch _ pc (e' (27 + (110 + c))) = _
  rw [he]
  exact hc
theorem RuP.catD (e1 : ax_step μ pc ls st h = some (.inr (.inr (y, as, r)))) (c1 : EvP n y as h (oD L c k f (.inr x))) (hc : ax_catch μ.2.2.2.2.1 pc (2 * x.1 + 2) = some t) (kk : ∀ c1 e', c1 + 1 ≤ c + k → RuP n μ t ls [.inr (.inr (some (27 + (110 + c1))))] (hp L x.2 (c1 + 1) e') Φ) : RuP n μ pc ls st h Φ := by
  obtain ⟨o1, h1, c1, c2, e', hk, rfl, rfl, he⟩ := c1
  obtain ⟨o, h', kk, q⟩ := kk c2 e' hk
  refine ⟨o, h', Ru.caught e1 c1 ?_ kk, q⟩
  show ax_catch _ pc (e' (27 + (110 + c2))) = _
  rw [he]
  exact hc
theorem RuP.cCV (e1 : ax_step μ pc ls st h = some (.inr (.inr (y, as, r)))) (c1 : EvP n y as h (oCV L c k q)) (kk : ∀ c' e', c' ≤ c + k → RuP n μ (pc + 3) ls r (hp L q c' e') Φ) : RuP n μ pc ls st h Φ := by
  obtain ⟨o1, h1, c1, rfl, c', e', hk, rfl⟩ := c1
  obtain ⟨o, h', kk, q⟩ := kk c' e' hk
  exact ⟨o, h', Ru.call e1 c1 kk, q⟩
theorem RuP.cCI (e1 : ax_step μ pc ls st h = some (.inr (.inr (y, as, r)))) (c1 : EvP n y as h (oCI L c k qi)) (kk : ∀ c' e', c' ≤ c + k → RuP n μ (pc + 3) ls (.inl qi.1 :: r) (hp L qi.2 c' e') Φ) : RuP n μ pc ls st h Φ := by
  obtain ⟨o1, h1, c1, rfl, c', e', hk, rfl⟩ := c1
  obtain ⟨o, h', kk, q⟩ := kk c' e' hk
  exact ⟨o, h', Ru.call e1 c1 kk, q⟩
theorem RuP.cCJ (e1 : ax_step μ pc ls st h = some (.inr (.inr (y, as, r)))) (c1 : EvP n y as h (oCJ L c k qi)) (kk : ∀ c' e', c' ≤ c + k → RuP n μ (pc + 3) ls (.inr (.inl qi.1) :: r) (hp L qi.2 c' e') Φ) : RuP n μ pc ls st h Φ := by
  obtain ⟨o1, h1, c1, rfl, c', e', hk, rfl⟩ := c1
  obtain ⟨o, h', kk, q⟩ := kk c' e' hk
  exact ⟨o, h', Ru.call e1 c1 kk, q⟩
section PF
variable {n pc pc' : Nat} {μ : ax_M} {ls : ax_L} {st r : List ax_V} {h : ax_H} {Φ : ax_O → ax_H → Prop} {z : Int}
theorem RuP.pf4 {b o : Nat} (e : ax_step μ pc ls st h = (match (match (if z = 0 ∨ z = 1 then some (ax_setn h o b z) else none : Option ax_H) with
      | some h' => some (r, h')
      | none => none : Option (List ax_V × ax_H)) with
    | some (st', h') => some (.inl (pc', ls, st', h'))
    | none => none)) (hz : z = 0 ∨ z = 1) (k : RuP n μ pc' ls r (ax_setn h o b z) Φ) : RuP n μ pc ls st h Φ := by
  rw [if_pos hz] at e
  exact RuP.step e k
end PF
theorem RuP.dL {z : Int} {s : Sg} (hs : ax_step μ pc ls st (hp L s c e) = some (.inr (.inl (.inl (some (.inl z)), hp L s c e)))) (hB : c ≤ B) : RuP n μ pc ls st (hp L s c e) (oL L B z) := ⟨_, _, Ru.done hs, rfl, s, c, e, hB, rfl⟩
end XC
noncomputable def j_15_62 (s : Sg) : Option Sg :=
  (gd (g_80 (s 39 10) s) (
  (gd (g_71 2 (f_80 (s 39 10) s) s) (
  ((some (f_71 2 (f_80 (s 39 10) s) s)).bind fun q1 =>
  some q1)))))
theorem bl_15_62 {L c : Nat} {e : Nat → Nat} : ∀ (xx : Nat) (d1 : Option ax_V) (s : Sg) (q : Sg), j_15_62 s = some q → RuP 222 tb_m15 62 [some (.inr (.inr (some 27))), d1] [.inr (.inr (some xx))] (hp L s c e) (oV L c e q) := by
  intro xx d1 s q h
  unfold j_15_62 at h
  refine RuP.step (pc' := 63) (ls' := [some (.inr (.inr (some 27))), some (.inr (.inr (some xx)))]) (st' := []) (h1 := hp L s c e) rfl ?_
  refine RuP.step (pc' := 64) (ls' := [some (.inr (.inr (some 27))), some (.inr (.inr (some xx)))]) (st' := [.inr (.inr (some 27))]) (h1 := hp L s c e) rfl ?_
  refine RuP.step (pc' := 67) (ls' := [some (.inr (.inr (some 27))), some (.inr (.inr (some xx)))]) (st' := [.inr (.inr (some 29))]) (h1 := hp L s c e) rfl ?_
  refine RuP.step (pc' := 68) (ls' := [some (.inr (.inr (some 27))), some (.inr (.inr (some xx)))]) (st' := [.inl 2, .inr (.inr (some 29))]) (h1 := hp L s c e) rfl ?_
  refine RuP.step (pc' := 69) (ls' := [some (.inr (.inr (some 27))), some (.inr (.inr (some xx)))]) (st' := [.inr (.inr (some 27)), .inl 2, .inr (.inr (some 29))]) (h1 := hp L s c e) rfl ?_
  refine RuP.step (pc' := 72) (ls' := [some (.inr (.inr (some 27))), some (.inr (.inr (some xx)))]) (st' := [.inr (.inr (some 39)), .inl 2, .inr (.inr (some 29))]) (h1 := hp L s c e) rfl ?_
  refine RuP.step (pc' := 73) (ls' := [some (.inr (.inr (some 27))), some (.inr (.inr (some xx)))]) (st' := [.inr (.inr (some 27)), .inr (.inr (some 39)), .inl 2, .inr (.inr (some 29))]) (h1 := hp L s c e) rfl ?_
  refine RuP.step (pc' := 76) (ls' := [some (.inr (.inr (some 27))), some (.inr (.inr (some xx)))]) (st' := [.inr (.inr (some 39)), .inr (.inr (some 39)), .inl 2, .inr (.inr (some 29))]) (h1 := hp L s c e) rfl ?_
  refine RuP.step (pc' := 79) (ls' := [some (.inr (.inr (some 27))), some (.inr (.inr (some xx)))]) (st' := [.inl (s 39 10), .inr (.inr (some 39)), .inl 2, .inr (.inr (some 29))]) (h1 := hp L s c e) rfl ?_
  obtain ⟨b0, h⟩ := gd_some h
  refine RuP.cI rfl (EvP.i ((ev_80 (s 39 10) b0).up (by decide))) ?_
  obtain ⟨b1, h⟩ := gd_some h
  obtain ⟨q1, h1, h⟩ := bd_some h
  refine RuP.cVe h1 rfl (EvP.v ((ev_71 2 (f_80 (s 39 10) s) b1).up (by decide))) ?_
  refine RuP.step (pc' := 111) (ls' := [some (.inr (.inr (some 27))), some (.inr (.inr (some xx)))]) (st' := []) (h1 := hp L q1 c e) rfl ?_
  cases h
  exact RuP.dV rfl
noncomputable def j_15_88 (s : Sg) : Option Sg :=
  (gd (g_80 (s 39 10) s) (
  (gd (g_71 3 (f_80 (s 39 10) s) s) (
  ((some (f_71 3 (f_80 (s 39 10) s) s)).bind fun q1 =>
  some q1)))))
theorem bl_15_88 {L c : Nat} {e : Nat → Nat} : ∀ (xx : Nat) (d1 : Option ax_V) (s : Sg) (q : Sg), j_15_88 s = some q → RuP 222 tb_m15 88 [some (.inr (.inr (some 27))), d1] [.inr (.inr (some xx))] (hp L s c e) (oV L c e q) := by
  intro xx d1 s q h
  unfold j_15_88 at h
  refine RuP.step (pc' := 89) (ls' := [some (.inr (.inr (some 27))), some (.inr (.inr (some xx)))]) (st' := []) (h1 := hp L s c e) rfl ?_
  refine RuP.step (pc' := 90) (ls' := [some (.inr (.inr (some 27))), some (.inr (.inr (some xx)))]) (st' := [.inr (.inr (some 27))]) (h1 := hp L s c e) rfl ?_
  refine RuP.step (pc' := 93) (ls' := [some (.inr (.inr (some 27))), some (.inr (.inr (some xx)))]) (st' := [.inr (.inr (some 29))]) (h1 := hp L s c e) rfl ?_
  refine RuP.step (pc' := 94) (ls' := [some (.inr (.inr (some 27))), some (.inr (.inr (some xx)))]) (st' := [.inl 3, .inr (.inr (some 29))]) (h1 := hp L s c e) rfl ?_
  refine RuP.step (pc' := 95) (ls' := [some (.inr (.inr (some 27))), some (.inr (.inr (some xx)))]) (st' := [.inr (.inr (some 27)), .inl 3, .inr (.inr (some 29))]) (h1 := hp L s c e) rfl ?_
  refine RuP.step (pc' := 98) (ls' := [some (.inr (.inr (some 27))), some (.inr (.inr (some xx)))]) (st' := [.inr (.inr (some 39)), .inl 3, .inr (.inr (some 29))]) (h1 := hp L s c e) rfl ?_
  refine RuP.step (pc' := 99) (ls' := [some (.inr (.inr (some 27))), some (.inr (.inr (some xx)))]) (st' := [.inr (.inr (some 27)), .inr (.inr (some 39)), .inl 3, .inr (.inr (some 29))]) (h1 := hp L s c e) rfl ?_
  refine RuP.step (pc' := 102) (ls' := [some (.inr (.inr (some 27))), some (.inr (.inr (some xx)))]) (st' := [.inr (.inr (some 39)), .inr (.inr (some 39)), .inl 3, .inr (.inr (some 29))]) (h1 := hp L s c e) rfl ?_
  refine RuP.step (pc' := 105) (ls' := [some (.inr (.inr (some 27))), some (.inr (.inr (some xx)))]) (st' := [.inl (s 39 10), .inr (.inr (some 39)), .inl 3, .inr (.inr (some 29))]) (h1 := hp L s c e) rfl ?_
  obtain ⟨b0, h⟩ := gd_some h
  refine RuP.cI rfl (EvP.i ((ev_80 (s 39 10) b0).up (by decide))) ?_
  obtain ⟨b1, h⟩ := gd_some h
  obtain ⟨q1, h1, h⟩ := bd_some h
  refine RuP.cVe h1 rfl (EvP.v ((ev_71 3 (f_80 (s 39 10) s) b1).up (by decide))) ?_
  cases h
  exact RuP.dV rfl
noncomputable def H_15 (x : Nat × Sg) : Option Sg := if x.1 = 15 then j_15_62 x.2 else if x.1 = 14 then j_15_88 x.2 else none
noncomputable def j_15_9 : Nat → Int → Sg → Option Sg
  | 0, _, _ => none
  | F + 1, l1, s =>
    (if 8192 < l1 then some s else
    (if ¬ (f_142 s) = 0 then some s else
    (if f_143 s = 0 then
      (xc (f_145 s) (fun q1 => j_15_9 F (ax_w32 (l1 + 1)) q1) H_15)
    else
      (xc (f_144 s) (fun q1 => j_15_9 F (ax_w32 (l1 + 1)) q1) H_15))))
noncomputable def f_15 (s : Sg) : Option Sg := xc (f_141 s) (fun q1 => j_15_9 FU 0 q1) H_15
theorem H15 {L c n pc y : Nat} {h : ax_H} {ls : ax_L} {st as r : List ax_V} {x : Nat × Sg} {q : Sg} {d1 : Option ax_V} {f : Sg → ax_O → ax_H → Prop} (hn : 222 ≤ n) (hls : ls = [some (.inr (.inr (some 27))), d1]) (hpc : pc < 59) (e1 : ax_step tb_m15 pc ls st h = some (.inr (.inr (y, as, r)))) (c1 : EvP n y as h (oX L c f (.inr x))) (hH : H_15 x = some q) : RuP n tb_m15 pc ls st h (oCV L c 1 q) := by
  subst hls
  unfold H_15 at hH
  split at hH
  · rename_i hx
    refine RuP.cat (t := 62) e1 c1 ?_ (fun e' => RuP.wk (RuP.up (bl_15_62 _ _ _ _ hH) hn) (oCV_of (by omega)))
    rw [hx]
    exact if_pos ⟨Nat.zero_le _, hpc, rfl⟩
  · split at hH
    · rename_i hx
      refine RuP.cat (t := 88) e1 c1 ?_ (fun e' => RuP.wk (RuP.up (bl_15_88 _ _ _ _ hH) hn) (oCV_of (by omega)))
      rw [hx]
      refine (if_neg (fun w => ?_)).trans (if_pos ⟨Nat.zero_le _, hpc, rfl⟩)
      exact absurd w.2.2 (by decide)
    · cases hH
theorem bl_15_9 {L : Nat} : ∀ (F : Nat) (l1 : Int) (s : Sg) (q : Sg) (c : Nat) (e : Nat → Nat), j_15_9 F l1 s = some q → RuP 222 tb_m15 9 [some (.inr (.inr (some 27))), some (.inl l1)] [] (hp L s c e) (oCV L c 1 q) := by
  intro F
  induction F with
  | zero =>
    intro l1 s q c e h
    rw [j_15_9] at h
    cases h
  | succ F ih =>
    intro l1 s q c e h
    rw [j_15_9] at h
    refine RuP.step (pc' := 10) (ls' := [some (.inr (.inr (some 27))), some (.inl l1)]) (st' := [.inl l1]) (h1 := hp L s c e) rfl ?_
    refine RuP.step (pc' := 13) (ls' := [some (.inr (.inr (some 27))), some (.inl l1)]) (st' := [.inl 8192, .inl l1]) (h1 := hp L s c e) rfl ?_
    by_cases h0 : 8192 < l1
    · rw [if_pos h0] at h
      refine RuP.jy rfl h0 ?_
      refine RuP.step (pc' := 111) (ls' := [some (.inr (.inr (some 27))), some (.inl l1)]) (st' := []) (h1 := hp L s c e) rfl ?_
      cases h
      exact RuP.wk (RuP.dV rfl) (oCV_of (by omega))
    rw [if_neg h0] at h
    refine RuP.jn rfl h0 ?_
    refine RuP.step (pc' := 17) (ls' := [some (.inr (.inr (some 27))), some (.inl l1)]) (st' := [.inr (.inr (some 27))]) (h1 := hp L s c e) rfl ?_
    refine RuP.step (pc' := 20) (ls' := [some (.inr (.inr (some 27))), some (.inl l1)]) (st' := [.inr (.inr (some 70))]) (h1 := hp L s c e) rfl ?_
    refine RuP.cI rfl (EvP.i (ev_142.up (by decide))) ?_
    by_cases h1 : ¬ (f_142 s) = 0
    · rw [if_pos h1] at h
      refine RuP.jy rfl h1 ?_
      refine RuP.step (pc' := 111) (ls' := [some (.inr (.inr (some 27))), some (.inl l1)]) (st' := []) (h1 := hp L s c e) rfl ?_
      cases h
      exact RuP.wk (RuP.dV rfl) (oCV_of (by omega))
    rw [if_neg h1] at h
    refine RuP.jn rfl h1 ?_
    refine RuP.step (pc' := 27) (ls' := [some (.inr (.inr (some 27))), some (.inl l1)]) (st' := [.inr (.inr (some 27))]) (h1 := hp L s c e) rfl ?_
    refine RuP.step (pc' := 30) (ls' := [some (.inr (.inr (some 27))), some (.inl l1)]) (st' := [.inr (.inr (some 70))]) (h1 := hp L s c e) rfl ?_
    refine RuP.cI rfl (EvP.i (ev_143.up (by decide))) ?_
    by_cases h2 : f_143 s = 0
    · rw [if_pos h2] at h
      refine RuP.jy rfl h2 ?_
      refine RuP.step (pc' := 47) (ls' := [some (.inr (.inr (some 27))), some (.inl l1)]) (st' := [.inr (.inr (some 27))]) (h1 := hp L s c e) rfl ?_
      refine RuP.step (pc' := 50) (ls' := [some (.inr (.inr (some 27))), some (.inl l1)]) (st' := [.inr (.inr (some 70))]) (h1 := hp L s c e) rfl ?_
      rcases xc_some h with ⟨q1, h3, h⟩ | ⟨x1, h3, h⟩
      · refine RuP.cV rfl ((ev_145 h3).up (by decide)) ?_
        refine RuP.step (pc' := 56) (ls' := [some (.inr (.inr (some 27))), some (.inl (ax_w32 (l1 + 1)))]) (st' := []) (h1 := hp L q1 c e) rfl ?_
        refine RuP.step (pc' := 9) (ls' := [some (.inr (.inr (some 27))), some (.inl (ax_w32 (l1 + 1)))]) (st' := []) (h1 := hp L q1 c e) rfl ?_
        exact ih _ _ _ _ _ h
      · exact H15 (n := 222) (by decide) rfl (by decide) rfl ((ev_145 (e := e) h3).up (by decide)) h
    · rw [if_neg h2] at h
      refine RuP.jn rfl h2 ?_
      refine RuP.step (pc' := 37) (ls' := [some (.inr (.inr (some 27))), some (.inl l1)]) (st' := [.inr (.inr (some 27))]) (h1 := hp L s c e) rfl ?_
      refine RuP.step (pc' := 40) (ls' := [some (.inr (.inr (some 27))), some (.inl l1)]) (st' := [.inr (.inr (some 70))]) (h1 := hp L s c e) rfl ?_
      rcases xc_some h with ⟨q1, h3, h⟩ | ⟨x1, h3, h⟩
      · refine RuP.cV rfl ((ev_144 h3).up (by decide)) ?_
        refine RuP.step (pc' := 53) (ls' := [some (.inr (.inr (some 27))), some (.inl l1)]) (st' := []) (h1 := hp L q1 c e) rfl ?_
        refine RuP.step (pc' := 56) (ls' := [some (.inr (.inr (some 27))), some (.inl (ax_w32 (l1 + 1)))]) (st' := []) (h1 := hp L q1 c e) rfl ?_
        refine RuP.step (pc' := 9) (ls' := [some (.inr (.inr (some 27))), some (.inl (ax_w32 (l1 + 1)))]) (st' := []) (h1 := hp L q1 c e) rfl ?_
        exact ih _ _ _ _ _ h
      · exact H15 (n := 222) (by decide) rfl (by decide) rfl ((ev_144 (e := e) h3).up (by decide)) h
theorem ev_15 {L c : Nat} {e : Nat → Nat} {s : Sg} {q : Sg} (h : f_15 s = some q) : EvP 223 15 [.inr (.inr (some 27))] (hp L s c e) (oCV L c 1 q) := by
  unfold f_15 at h
  refine EvP.of (μ := tb_m15) (ls := [some (.inr (.inr (some 27))), none]) rfl (Nat.le_of_ble_eq_true rfl) rfl ?_
  refine RuP.step (pc' := 1) (ls' := [some (.inr (.inr (some 27))), none]) (st' := [.inr (.inr (some 27))]) (h1 := hp L s c e) rfl ?_
  refine RuP.step (pc' := 4) (ls' := [some (.inr (.inr (some 27))), none]) (st' := [.inr (.inr (some 70))]) (h1 := hp L s c e) rfl ?_
  rcases xc_some h with ⟨q1, h3, h⟩ | ⟨x1, h3, h⟩
  · refine RuP.cV rfl ((ev_141 h3).up (by decide)) ?_
    refine RuP.step (pc' := 8) (ls' := [some (.inr (.inr (some 27))), none]) (st' := [.inl 0]) (h1 := hp L q1 c e) rfl ?_
    refine RuP.step (pc' := 9) (ls' := [some (.inr (.inr (some 27))), some (.inl 0)]) (st' := []) (h1 := hp L q1 c e) rfl ?_
    exact bl_15_9 _ _ _ _ _ _ h
  · exact H15 (n := 222) (by decide) rfl (by decide) rfl ((ev_141 (e := e) h3).up (by decide)) h
noncomputable def j_4_30 (s : Sg) : Option (Sum (Int × Sg) (Nat × Sg)) :=
  ((f_68 (ax_u2 s 27 1 0)).bind fun q2 =>
  (gd (((if ¬ q2 = 0 then 0 else 1) : Int) = 0 ∨ ((if ¬ q2 = 0 then 0 else 1) : Int) = 1) (
  (if ¬ ((if ¬ q2 = 0 then 0 else 1) : Int) = 0 then
    some (.inl (s 54 6, (ax_u2 (ax_u2 s 27 1 0) 27 2 ((if ¬ q2 = 0 then 0 else 1) : Int))))
  else
    ((some (f_74 (ax_u2 (ax_u2 s 27 1 0) 27 2 ((if ¬ q2 = 0 then 0 else 1) : Int)))).bind fun q3 =>
    ((some (f_113 q3)).bind fun q4 =>
    ((some (f_180 q4)).bind fun q5 =>
    some (.inr (15, q5)))))))))
theorem bl_4_30 {L c : Nat} {e : Nat → Nat} : ∀ (s : Sg) (q : Sum (Int × Sg) (Nat × Sg)), j_4_30 s = some q → RuP 223 tb_m4 30 [some (.inr (.inr (some 27)))] [] (hp L s c e) (oX L c (oI L c e) q) := by
  intro s q h
  unfold j_4_30 at h
  refine RuP.step (pc' := 31) (ls' := [some (.inr (.inr (some 27)))]) (st' := [.inr (.inr (some 27))]) (h1 := hp L s c e) rfl ?_
  refine RuP.step (pc' := 32) (ls' := [some (.inr (.inr (some 27)))]) (st' := [.inl 0, .inr (.inr (some 27))]) (h1 := hp L s c e) rfl ?_
  refine RuP.step (pc' := 35) (ls' := [some (.inr (.inr (some 27)))]) (st' := []) (h1 := hp L (ax_u2 s 27 1 0) c e) rfl ?_
  refine RuP.step (pc' := 36) (ls' := [some (.inr (.inr (some 27)))]) (st' := [.inr (.inr (some 27))]) (h1 := hp L (ax_u2 s 27 1 0) c e) rfl ?_
  refine RuP.step (pc' := 37) (ls' := [some (.inr (.inr (some 27)))]) (st' := [.inr (.inr (some 27)), .inr (.inr (some 27))]) (h1 := hp L (ax_u2 s 27 1 0) c e) rfl ?_
  refine RuP.step (pc' := 40) (ls' := [some (.inr (.inr (some 27)))]) (st' := [.inr (.inr (some 29)), .inr (.inr (some 27))]) (h1 := hp L (ax_u2 s 27 1 0) c e) rfl ?_
  obtain ⟨q2, h1, h⟩ := bd_some h
  refine RuP.cI rfl ((ev_68 h1).up (by decide)) ?_
  have J1 : ∀ v0_0 : Int, v0_0 = ((if ¬ q2 = 0 then 0 else 1) : Int) → RuP 223 tb_m4 51 [some (.inr (.inr (some 27)))] [.inl v0_0, .inr (.inr (some 27))] (hp L (ax_u2 s 27 1 0) c e) (oX L c (oI L c e) q) := by
    intro v0_0 ev0_0
    subst ev0_0
    obtain ⟨b1, h⟩ := gd_some h
    refine RuP.pf4 (o := 27) (b := 2) (z := ((if ¬ q2 = 0 then 0 else 1) : Int)) (pc' := 54) (r := []) rfl b1 ?_
    refine RuP.step (pc' := 55) (ls' := [some (.inr (.inr (some 27)))]) (st' := [.inr (.inr (some 27))]) (h1 := hp L (ax_u2 (ax_u2 s 27 1 0) 27 2 ((if ¬ q2 = 0 then 0 else 1) : Int)) c e) rfl ?_
    refine RuP.step (pc' := 58) (ls' := [some (.inr (.inr (some 27)))]) (st' := [.inl ((if ¬ q2 = 0 then 0 else 1) : Int)]) (h1 := hp L (ax_u2 (ax_u2 s 27 1 0) 27 2 ((if ¬ q2 = 0 then 0 else 1) : Int)) c e) rfl ?_
    by_cases h2 : ¬ ((if ¬ q2 = 0 then 0 else 1) : Int) = 0
    · rw [if_pos h2] at h
      refine RuP.jy rfl h2 ?_
      refine RuP.step (pc' := 93) (ls' := [some (.inr (.inr (some 27)))]) (st' := [.inr (.inr (some 27))]) (h1 := hp L (ax_u2 (ax_u2 s 27 1 0) 27 2 ((if ¬ q2 = 0 then 0 else 1) : Int)) c e) rfl ?_
      refine RuP.step (pc' := 96) (ls' := [some (.inr (.inr (some 27)))]) (st' := [.inr (.inr (some 54))]) (h1 := hp L (ax_u2 (ax_u2 s 27 1 0) 27 2 ((if ¬ q2 = 0 then 0 else 1) : Int)) c e) rfl ?_
      refine RuP.step (pc' := 99) (ls' := [some (.inr (.inr (some 27)))]) (st' := [.inl (s 54 6)]) (h1 := hp L (ax_u2 (ax_u2 s 27 1 0) 27 2 ((if ¬ q2 = 0 then 0 else 1) : Int)) c e) rfl ?_
      cases h
      exact RuP.dI rfl
    · rw [if_neg h2] at h
      refine RuP.jn rfl h2 ?_
      refine RuP.step (pc' := 62) (ls' := [some (.inr (.inr (some 27)))]) (st' := [.inr (.inr (some 27))]) (h1 := hp L (ax_u2 (ax_u2 s 27 1 0) 27 2 ((if ¬ q2 = 0 then 0 else 1) : Int)) c e) rfl ?_
      refine RuP.step (pc' := 65) (ls' := [some (.inr (.inr (some 27)))]) (st' := [.inr (.inr (some 39))]) (h1 := hp L (ax_u2 (ax_u2 s 27 1 0) 27 2 ((if ¬ q2 = 0 then 0 else 1) : Int)) c e) rfl ?_
      obtain ⟨q3, h1, h⟩ := bd_some h
      refine RuP.cVe h1 rfl (EvP.v ((ev_74 ).up (by decide))) ?_
      refine RuP.step (pc' := 69) (ls' := [some (.inr (.inr (some 27)))]) (st' := [.inr (.inr (some 27))]) (h1 := hp L q3 c e) rfl ?_
      refine RuP.step (pc' := 72) (ls' := [some (.inr (.inr (some 27)))]) (st' := [.inr (.inr (some 46))]) (h1 := hp L q3 c e) rfl ?_
      obtain ⟨q4, h1, h⟩ := bd_some h
      refine RuP.cVe h1 rfl (EvP.v ((ev_113 ).up (by decide))) ?_
      refine RuP.step (pc' := 76) (ls' := [some (.inr (.inr (some 27)))]) (st' := [.inr (.inr (some 27))]) (h1 := hp L q4 c e) rfl ?_
      refine RuP.step (pc' := 79) (ls' := [some (.inr (.inr (some 27)))]) (st' := [.inr (.inr (some 54))]) (h1 := hp L q4 c e) rfl ?_
      obtain ⟨q5, h1, h⟩ := bd_some h
      refine RuP.cVe h1 rfl (EvP.v ((ev_180 ).up (by decide))) ?_
      cases h
      exact RuP.thr (m := 17) (p2 := 88) rfl (fun _ => rfl) (fun _ => rfl) (fun _ _ => rfl) (Nat.le_of_ble_eq_true rfl) rfl rfl
  by_cases h3 : ¬ q2 = 0
  · refine RuP.jy rfl h3 ?_
    refine RuP.step (pc' := 51) (ls' := [some (.inr (.inr (some 27)))]) (st' := [.inl 0, .inr (.inr (some 27))]) (h1 := hp L (ax_u2 s 27 1 0) c e) rfl ?_
    exact J1 _ (by simp only [if_pos h3])
  · refine RuP.jn rfl h3 ?_
    refine RuP.step (pc' := 47) (ls' := [some (.inr (.inr (some 27)))]) (st' := [.inl 1, .inr (.inr (some 27))]) (h1 := hp L (ax_u2 s 27 1 0) c e) rfl ?_
    refine RuP.step (pc' := 51) (ls' := [some (.inr (.inr (some 27)))]) (st' := [.inl 1, .inr (.inr (some 27))]) (h1 := hp L (ax_u2 s 27 1 0) c e) rfl ?_
    exact J1 _ (by simp only [if_neg h3])
noncomputable def j_4_26 (s : Sg) : Option (Sum (Int × Sg) (Nat × Sg)) :=
  ((f_16 s).bind fun q1 =>
  j_4_30 q1)
theorem bl_4_26 {L c : Nat} {e : Nat → Nat} : ∀ (s : Sg) (q : Sum (Int × Sg) (Nat × Sg)), j_4_26 s = some q → RuP 223 tb_m4 26 [some (.inr (.inr (some 27)))] [] (hp L s c e) (oX L c (oI L c e) q) := by
  intro s q h
  unfold j_4_26 at h
  refine RuP.step (pc' := 27) (ls' := [some (.inr (.inr (some 27)))]) (st' := [.inr (.inr (some 27))]) (h1 := hp L s c e) rfl ?_
  obtain ⟨q1, h1, h⟩ := bd_some h
  refine RuP.cV rfl ((ev_16 h1).up (by decide)) ?_
  exact bl_4_30 _ _ h
noncomputable def f_4 (s : Sg) : Option (Sum (Int × Sg) (Nat × Sg)) :=
  (f_14 s).bind fun q1 => (f_73_28 (q1 27 1) q1).bind fun q2 => (if q2.1 = 0 then j_4_30 q2.2 else (f_15 q2.2).bind fun q3 => j_4_26 q3)
theorem ev_4 {L c : Nat} {e : Nat → Nat} {s : Sg} {q : Sum (Int × Sg) (Nat × Sg)} (h : f_4 s = some q) : EvP 224 4 [.inr (.inr (some 27))] (hp L s c e) (oD L c 2 (oCI L c 2) q) := by
  unfold f_4 at h
  refine EvP.of (μ := tb_m4) (ls := [some (.inr (.inr (some 27)))]) rfl (Nat.le_of_ble_eq_true rfl) rfl ?_
  refine RuP.step (pc' := 1) (ls' := [some (.inr (.inr (some 27)))]) (st' := [.inr (.inr (some 27))]) (h1 := hp L s c e) rfl ?_
  obtain ⟨q1, h1, h⟩ := bd_some h
  refine RuP.cV rfl ((ev_14 h1).up (by decide)) ?_
  refine RuP.step (pc' := 5) (ls' := [some (.inr (.inr (some 27)))]) (st' := [.inr (.inr (some 27))]) (h1 := hp L q1 c e) rfl ?_
  refine RuP.step (pc' := 8) (ls' := [some (.inr (.inr (some 27)))]) (st' := [.inr (.inr (some 39))]) (h1 := hp L q1 c e) rfl ?_
  refine RuP.step (pc' := 9) (ls' := [some (.inr (.inr (some 27)))]) (st' := [.inr (.inr (some 27)), .inr (.inr (some 39))]) (h1 := hp L q1 c e) rfl ?_
  refine RuP.step (pc' := 12) (ls' := [some (.inr (.inr (some 27)))]) (st' := [.inr (.inr (some 28)), .inr (.inr (some 39))]) (h1 := hp L q1 c e) rfl ?_
  refine RuP.step (pc' := 13) (ls' := [some (.inr (.inr (some 27)))]) (st' := [.inr (.inr (some 27)), .inr (.inr (some 28)), .inr (.inr (some 39))]) (h1 := hp L q1 c e) rfl ?_
  refine RuP.step (pc' := 16) (ls' := [some (.inr (.inr (some 27)))]) (st' := [.inl (q1 27 1), .inr (.inr (some 28)), .inr (.inr (some 39))]) (h1 := hp L q1 c e) rfl ?_
  obtain ⟨q2, h1, h⟩ := bd_some h
  refine RuP.cI rfl ((ev_73_28 h1).up (by decide)) ?_
  by_cases h0 : q2.1 = 0
  · rw [if_pos h0] at h
    refine RuP.jy rfl h0 ?_
    exact RuP.wk (bl_4_30 _ _ h) (oD_ofI (by omega))
  · rw [if_neg h0] at h
    refine RuP.jn rfl h0 ?_
    refine RuP.step (pc' := 23) (ls' := [some (.inr (.inr (some 27)))]) (st' := [.inr (.inr (some 27))]) (h1 := hp L q2.2 c e) rfl ?_
    obtain ⟨q3, h1, h⟩ := bd_some h
    exact RuP.cCV rfl ((ev_15 h1).up (by decide)) (fun c' e' hc => RuP.wk (bl_4_26 _ _ h) (oD_ofI (by omega)))
/-- MachineTextLaw.feed -/
noncomputable def f_280 (x1 x2 x3 x4 : Int) (s : Sg) : Option (Int × Sg) := xc (f_2 x1 x2 x3 x4 s) (fun a => some (0, ax_u2 a.2 136 (0 : Int).toNat a.1)) (fun x => if x.1 = 14 then some (1, x.2) else none)
theorem ev_280 {L c : Nat} {e : Nat → Nat} {s : Sg} {x1 x2 x3 x4 : Int} {q : Int × Sg} (h : f_280 x1 x2 x3 x4 s = some q) : EvP 3 280 [.inr (.inr (some 27)), .inl x1, .inl x2, .inl x3, .inl x4, .inr (.inr (some 136))] (hp L s c e) (oCI L c 2 q) := by
  unfold f_280 at h
  refine EvP.of (μ := tb_m280) (ls := [some (.inr (.inr (some 27))), some (.inl x1), some (.inl x2), some (.inl x3), some (.inl x4), some (.inr (.inr (some 136))), none]) rfl (Nat.le_of_ble_eq_true rfl) rfl ?_
  refine RuP.step (pc' := 2) (ls' := [some (.inr (.inr (some 27))), some (.inl x1), some (.inl x2), some (.inl x3), some (.inl x4), some (.inr (.inr (some 136))), none]) (st' := [.inr (.inr (some 136))]) (h1 := hp L s c e) rfl ?_
  refine RuP.step (pc' := 3) (ls' := [some (.inr (.inr (some 27))), some (.inl x1), some (.inl x2), some (.inl x3), some (.inl x4), some (.inr (.inr (some 136))), none]) (st' := [.inl 0, .inr (.inr (some 136))]) (h1 := hp L s c e) rfl ?_
  refine RuP.step (pc' := 4) (ls' := [some (.inr (.inr (some 27))), some (.inl x1), some (.inl x2), some (.inl x3), some (.inl x4), some (.inr (.inr (some 136))), none]) (st' := [.inr (.inr (some 27)), .inl 0, .inr (.inr (some 136))]) (h1 := hp L s c e) rfl ?_
  refine RuP.step (pc' := 5) (ls' := [some (.inr (.inr (some 27))), some (.inl x1), some (.inl x2), some (.inl x3), some (.inl x4), some (.inr (.inr (some 136))), none]) (st' := [.inl x1, .inr (.inr (some 27)), .inl 0, .inr (.inr (some 136))]) (h1 := hp L s c e) rfl ?_
  refine RuP.step (pc' := 6) (ls' := [some (.inr (.inr (some 27))), some (.inl x1), some (.inl x2), some (.inl x3), some (.inl x4), some (.inr (.inr (some 136))), none]) (st' := [.inl x2, .inl x1, .inr (.inr (some 27)), .inl 0, .inr (.inr (some 136))]) (h1 := hp L s c e) rfl ?_
  refine RuP.step (pc' := 7) (ls' := [some (.inr (.inr (some 27))), some (.inl x1), some (.inl x2), some (.inl x3), some (.inl x4), some (.inr (.inr (some 136))), none]) (st' := [.inl x3, .inl x2, .inl x1, .inr (.inr (some 27)), .inl 0, .inr (.inr (some 136))]) (h1 := hp L s c e) rfl ?_
  refine RuP.step (pc' := 9) (ls' := [some (.inr (.inr (some 27))), some (.inl x1), some (.inl x2), some (.inl x3), some (.inl x4), some (.inr (.inr (some 136))), none]) (st' := [.inl x4, .inl x3, .inl x2, .inl x1, .inr (.inr (some 27)), .inl 0, .inr (.inr (some 136))]) (h1 := hp L s c e) rfl ?_
  rcases xc_some h with ⟨a, h1, h⟩ | ⟨x, h1, h⟩
  · refine RuP.cCI (k := 2) rfl (EvP.wk (ev_2 (L := L) (c := c) (e := e) h1) (oD_ofI (j := c) (k := 2) (by omega))) (fun c' e' hc => ?_)
    refine RuP.step (pc' := 13) (ls' := [some (.inr (.inr (some 27))), some (.inl x1), some (.inl x2), some (.inl x3), some (.inl x4), some (.inr (.inr (some 136))), none]) (st' := [.inr (.inl a.1), .inl 0, .inr (.inr (some 136))]) (h1 := hp L a.2 c' e') rfl ?_
    refine RuP.ast (f := fun t => t == 2) (j := (0 : Int)) (a := 136) rfl rfl (by decide) rfl rfl (by decide) (show (0 : Int) < (1 : Int) by decide) ?_
    refine RuP.step (pc' := 21) (ls' := [some (.inr (.inr (some 27))), some (.inl x1), some (.inl x2), some (.inl x3), some (.inl x4), some (.inr (.inr (some 136))), none]) (st' := []) (h1 := hp L (ax_u2 a.2 136 (0 : Int).toNat a.1) c' e') rfl ?_
    refine RuP.step (pc' := 22) (ls' := [some (.inr (.inr (some 27))), some (.inl x1), some (.inl x2), some (.inl x3), some (.inl x4), some (.inr (.inr (some 136))), none]) (st' := [.inl 0]) (h1 := hp L (ax_u2 a.2 136 (0 : Int).toNat a.1) c' e') rfl ?_
    cases h
    exact RuP.wk (RuP.dI rfl) (oCI_of hc)
  · by_cases hx0 : x.1 = 14
    · rw [if_pos hx0] at h
      cases h
      refine RuP.catD (t := 17) (k := 2) rfl (EvP.wk (ev_2 (L := L) (c := c) (e := e) h1) (oD_ofI (j := c) (k := 2) (by omega))) ?_ (fun c1 e' hc => ?_)
      · rw [hx0]
        rfl
      refine RuP.step (pc' := 19) (ls' := [some (.inr (.inr (some 27))), some (.inl x1), some (.inl x2), some (.inl x3), some (.inl x4), some (.inr (.inr (some 136))), some (.inr (.inr (some (27 + (110 + c1)))))]) (st' := []) (h1 := hp L x.2 (c1 + 1) e') rfl ?_
      refine RuP.step (pc' := 20) (ls' := [some (.inr (.inr (some 27))), some (.inl x1), some (.inl x2), some (.inl x3), some (.inl x4), some (.inr (.inr (some 136))), some (.inr (.inr (some (27 + (110 + c1)))))]) (st' := [.inl 1]) (h1 := hp L x.2 (c1 + 1) e') rfl ?_
      exact RuP.wk (RuP.dI rfl) (oCI_of hc)
    rw [if_neg hx0] at h
    cases h
/-- MachineTextLaw.end -/
noncomputable def f_281 (x1 : Int) (s : Sg) : Option (Int × Sg) := xc (f_3 x1 s) (fun a => some (0, ax_u2 a.2 136 (0 : Int).toNat a.1)) (fun x => if x.1 = 15 then some (1, x.2) else if x.1 = 14 then some (2, x.2) else none)
theorem ev_281 {L c : Nat} {e : Nat → Nat} {s : Sg} {x1 : Int} {q : Int × Sg} (h : f_281 x1 s = some q) : EvP 2 281 [.inr (.inr (some 27)), .inl x1, .inr (.inr (some 136))] (hp L s c e) (oCI L c 2 q) := by
  unfold f_281 at h
  refine EvP.of (μ := tb_m281) (ls := [some (.inr (.inr (some 27))), some (.inl x1), some (.inr (.inr (some 136))), none]) rfl (Nat.le_of_ble_eq_true rfl) rfl ?_
  refine RuP.step (pc' := 1) (ls' := [some (.inr (.inr (some 27))), some (.inl x1), some (.inr (.inr (some 136))), none]) (st' := [.inr (.inr (some 136))]) (h1 := hp L s c e) rfl ?_
  refine RuP.step (pc' := 2) (ls' := [some (.inr (.inr (some 27))), some (.inl x1), some (.inr (.inr (some 136))), none]) (st' := [.inl 0, .inr (.inr (some 136))]) (h1 := hp L s c e) rfl ?_
  refine RuP.step (pc' := 3) (ls' := [some (.inr (.inr (some 27))), some (.inl x1), some (.inr (.inr (some 136))), none]) (st' := [.inr (.inr (some 27)), .inl 0, .inr (.inr (some 136))]) (h1 := hp L s c e) rfl ?_
  refine RuP.step (pc' := 4) (ls' := [some (.inr (.inr (some 27))), some (.inl x1), some (.inr (.inr (some 136))), none]) (st' := [.inl x1, .inr (.inr (some 27)), .inl 0, .inr (.inr (some 136))]) (h1 := hp L s c e) rfl ?_
  rcases xc_some h with ⟨a, h1, h⟩ | ⟨x, h1, h⟩
  · refine RuP.cCI (k := 2) rfl (EvP.wk (ev_3 (L := L) (c := c) (e := e) h1) (oD_ofI (j := c) (k := 2) (by omega))) (fun c' e' hc => ?_)
    refine RuP.step (pc' := 8) (ls' := [some (.inr (.inr (some 27))), some (.inl x1), some (.inr (.inr (some 136))), none]) (st' := [.inr (.inl a.1), .inl 0, .inr (.inr (some 136))]) (h1 := hp L a.2 c' e') rfl ?_
    refine RuP.ast (f := fun t => t == 2) (j := (0 : Int)) (a := 136) rfl rfl (by decide) rfl rfl (by decide) (show (0 : Int) < (1 : Int) by decide) ?_
    refine RuP.step (pc' := 18) (ls' := [some (.inr (.inr (some 27))), some (.inl x1), some (.inr (.inr (some 136))), none]) (st' := []) (h1 := hp L (ax_u2 a.2 136 (0 : Int).toNat a.1) c' e') rfl ?_
    refine RuP.step (pc' := 19) (ls' := [some (.inr (.inr (some 27))), some (.inl x1), some (.inr (.inr (some 136))), none]) (st' := [.inl 0]) (h1 := hp L (ax_u2 a.2 136 (0 : Int).toNat a.1) c' e') rfl ?_
    cases h
    exact RuP.wk (RuP.dI rfl) (oCI_of hc)
  · by_cases hx0 : x.1 = 15
    · rw [if_pos hx0] at h
      cases h
      refine RuP.catD (t := 12) (k := 2) rfl (EvP.wk (ev_3 (L := L) (c := c) (e := e) h1) (oD_ofI (j := c) (k := 2) (by omega))) ?_ (fun c1 e' hc => ?_)
      · rw [hx0]
        rfl
      refine RuP.step (pc' := 13) (ls' := [some (.inr (.inr (some 27))), some (.inl x1), some (.inr (.inr (some 136))), some (.inr (.inr (some (27 + (110 + c1)))))]) (st' := []) (h1 := hp L x.2 (c1 + 1) e') rfl ?_
      refine RuP.step (pc' := 14) (ls' := [some (.inr (.inr (some 27))), some (.inl x1), some (.inr (.inr (some 136))), some (.inr (.inr (some (27 + (110 + c1)))))]) (st' := [.inl 1]) (h1 := hp L x.2 (c1 + 1) e') rfl ?_
      exact RuP.wk (RuP.dI rfl) (oCI_of hc)
    rw [if_neg hx0] at h
    by_cases hx1 : x.1 = 14
    · rw [if_pos hx1] at h
      cases h
      refine RuP.catD (t := 15) (k := 2) rfl (EvP.wk (ev_3 (L := L) (c := c) (e := e) h1) (oD_ofI (j := c) (k := 2) (by omega))) ?_ (fun c1 e' hc => ?_)
      · rw [hx1]
        rfl
      refine RuP.step (pc' := 16) (ls' := [some (.inr (.inr (some 27))), some (.inl x1), some (.inr (.inr (some 136))), some (.inr (.inr (some (27 + (110 + c1)))))]) (st' := []) (h1 := hp L x.2 (c1 + 1) e') rfl ?_
      refine RuP.step (pc' := 17) (ls' := [some (.inr (.inr (some 27))), some (.inl x1), some (.inr (.inr (some 136))), some (.inr (.inr (some (27 + (110 + c1)))))]) (st' := [.inl 2]) (h1 := hp L x.2 (c1 + 1) e') rfl ?_
      exact RuP.wk (RuP.dI rfl) (oCI_of hc)
    rw [if_neg hx1] at h
    cases h
/-- MachineTextLaw.read -/
noncomputable def f_282 (s : Sg) : Option (Int × Sg) := xc (f_4 s) (fun a => some (0, ax_u2 a.2 136 (0 : Int).toNat a.1)) (fun x => if x.1 = 15 then some (1, x.2) else none)
theorem ev_282 {L c : Nat} {e : Nat → Nat} {s : Sg} {q : Int × Sg} (h : f_282 s = some q) : EvP 225 282 [.inr (.inr (some 27)), .inr (.inr (some 136))] (hp L s c e) (oCI L c 2 q) := by
  unfold f_282 at h
  refine EvP.of (μ := tb_m282) (ls := [some (.inr (.inr (some 27))), some (.inr (.inr (some 136))), none]) rfl (Nat.le_of_ble_eq_true rfl) rfl ?_
  refine RuP.step (pc' := 1) (ls' := [some (.inr (.inr (some 27))), some (.inr (.inr (some 136))), none]) (st' := [.inr (.inr (some 136))]) (h1 := hp L s c e) rfl ?_
  refine RuP.step (pc' := 2) (ls' := [some (.inr (.inr (some 27))), some (.inr (.inr (some 136))), none]) (st' := [.inl 0, .inr (.inr (some 136))]) (h1 := hp L s c e) rfl ?_
  refine RuP.step (pc' := 3) (ls' := [some (.inr (.inr (some 27))), some (.inr (.inr (some 136))), none]) (st' := [.inr (.inr (some 27)), .inl 0, .inr (.inr (some 136))]) (h1 := hp L s c e) rfl ?_
  rcases xc_some h with ⟨a, h1, h⟩ | ⟨x, h1, h⟩
  · refine RuP.cCI (k := 2) rfl (ev_4 (L := L) (c := c) (e := e) h1) (fun c' e' hc => ?_)
    refine RuP.step (pc' := 7) (ls' := [some (.inr (.inr (some 27))), some (.inr (.inr (some 136))), none]) (st' := [.inr (.inl a.1), .inl 0, .inr (.inr (some 136))]) (h1 := hp L a.2 c' e') rfl ?_
    refine RuP.ast (f := fun t => t == 2) (j := (0 : Int)) (a := 136) rfl rfl (by decide) rfl rfl (by decide) (show (0 : Int) < (1 : Int) by decide) ?_
    refine RuP.step (pc' := 14) (ls' := [some (.inr (.inr (some 27))), some (.inr (.inr (some 136))), none]) (st' := []) (h1 := hp L (ax_u2 a.2 136 (0 : Int).toNat a.1) c' e') rfl ?_
    refine RuP.step (pc' := 15) (ls' := [some (.inr (.inr (some 27))), some (.inr (.inr (some 136))), none]) (st' := [.inl 0]) (h1 := hp L (ax_u2 a.2 136 (0 : Int).toNat a.1) c' e') rfl ?_
    cases h
    exact RuP.wk (RuP.dI rfl) (oCI_of hc)
  · by_cases hx0 : x.1 = 15
    · rw [if_pos hx0] at h
      cases h
      refine RuP.catD (t := 11) (k := 2) rfl (ev_4 (L := L) (c := c) (e := e) h1) ?_ (fun c1 e' hc => ?_)
      · rw [hx0]
        rfl
      refine RuP.step (pc' := 12) (ls' := [some (.inr (.inr (some 27))), some (.inr (.inr (some 136))), some (.inr (.inr (some (27 + (110 + c1)))))]) (st' := []) (h1 := hp L x.2 (c1 + 1) e') rfl ?_
      refine RuP.step (pc' := 13) (ls' := [some (.inr (.inr (some 27))), some (.inr (.inr (some 136))), some (.inr (.inr (some (27 + (110 + c1)))))]) (st' := [.inl 1]) (h1 := hp L x.2 (c1 + 1) e') rfl ?_
      exact RuP.wk (RuP.dI rfl) (oCI_of hc)
    rw [if_neg hx0] at h
    cases h
/-- MachineTextLaw.fault -/
noncomputable def f_283 (x1 : Int) (s : Sg) : Option (Int × Sg) := xc (f_5 x1 s) (fun a => some (0, ax_u2 a.2 136 (0 : Int).toNat a.1)) (fun x => if x.1 = 16 then some (1, x.2) else none)
theorem ev_283 {L c : Nat} {e : Nat → Nat} {s : Sg} {x1 : Int} {q : Int × Sg} (h : f_283 x1 s = some q) : EvP 3 283 [.inr (.inr (some 27)), .inl x1, .inr (.inr (some 136))] (hp L s c e) (oCI L c 2 q) := by
  unfold f_283 at h
  refine EvP.of (μ := tb_m283) (ls := [some (.inr (.inr (some 27))), some (.inl x1), some (.inr (.inr (some 136))), none]) rfl (Nat.le_of_ble_eq_true rfl) rfl ?_
  refine RuP.step (pc' := 1) (ls' := [some (.inr (.inr (some 27))), some (.inl x1), some (.inr (.inr (some 136))), none]) (st' := [.inr (.inr (some 136))]) (h1 := hp L s c e) rfl ?_
  refine RuP.step (pc' := 2) (ls' := [some (.inr (.inr (some 27))), some (.inl x1), some (.inr (.inr (some 136))), none]) (st' := [.inl 0, .inr (.inr (some 136))]) (h1 := hp L s c e) rfl ?_
  refine RuP.step (pc' := 3) (ls' := [some (.inr (.inr (some 27))), some (.inl x1), some (.inr (.inr (some 136))), none]) (st' := [.inr (.inr (some 27)), .inl 0, .inr (.inr (some 136))]) (h1 := hp L s c e) rfl ?_
  refine RuP.step (pc' := 4) (ls' := [some (.inr (.inr (some 27))), some (.inl x1), some (.inr (.inr (some 136))), none]) (st' := [.inl x1, .inr (.inr (some 27)), .inl 0, .inr (.inr (some 136))]) (h1 := hp L s c e) rfl ?_
  rcases xc_some h with ⟨a, h1, h⟩ | ⟨x, h1, h⟩
  · refine RuP.cCI (k := 2) rfl (EvP.wk (ev_5 (L := L) (c := c) (e := e) h1) (oD_ofI (j := c) (k := 2) (by omega))) (fun c' e' hc => ?_)
    refine RuP.step (pc' := 8) (ls' := [some (.inr (.inr (some 27))), some (.inl x1), some (.inr (.inr (some 136))), none]) (st' := [.inr (.inl a.1), .inl 0, .inr (.inr (some 136))]) (h1 := hp L a.2 c' e') rfl ?_
    refine RuP.ast (f := fun t => t == 2) (j := (0 : Int)) (a := 136) rfl rfl (by decide) rfl rfl (by decide) (show (0 : Int) < (1 : Int) by decide) ?_
    refine RuP.step (pc' := 15) (ls' := [some (.inr (.inr (some 27))), some (.inl x1), some (.inr (.inr (some 136))), none]) (st' := []) (h1 := hp L (ax_u2 a.2 136 (0 : Int).toNat a.1) c' e') rfl ?_
    refine RuP.step (pc' := 16) (ls' := [some (.inr (.inr (some 27))), some (.inl x1), some (.inr (.inr (some 136))), none]) (st' := [.inl 0]) (h1 := hp L (ax_u2 a.2 136 (0 : Int).toNat a.1) c' e') rfl ?_
    cases h
    exact RuP.wk (RuP.dI rfl) (oCI_of hc)
  · by_cases hx0 : x.1 = 16
    · rw [if_pos hx0] at h
      cases h
      refine RuP.catD (t := 12) (k := 2) rfl (EvP.wk (ev_5 (L := L) (c := c) (e := e) h1) (oD_ofI (j := c) (k := 2) (by omega))) ?_ (fun c1 e' hc => ?_)
      · rw [hx0]
        rfl
      refine RuP.step (pc' := 13) (ls' := [some (.inr (.inr (some 27))), some (.inl x1), some (.inr (.inr (some 136))), some (.inr (.inr (some (27 + (110 + c1)))))]) (st' := []) (h1 := hp L x.2 (c1 + 1) e') rfl ?_
      refine RuP.step (pc' := 14) (ls' := [some (.inr (.inr (some 27))), some (.inl x1), some (.inr (.inr (some 136))), some (.inr (.inr (some (27 + (110 + c1)))))]) (st' := [.inl 1]) (h1 := hp L x.2 (c1 + 1) e') rfl ?_
      exact RuP.wk (RuP.dI rfl) (oCI_of hc)
    rw [if_neg hx0] at h
    cases h
/-- MachineTextLaw.statement -/
noncomputable def f_284 (x1 x2 : Int) (s : Sg) : Option (Int × Sg) := xc (f_6 x1 x2 s) (fun a => some (0, ax_u2 a.2 136 (0 : Int).toNat a.1)) (fun x => if x.1 = 16 then some (1, x.2) else none)
theorem ev_284 {L c : Nat} {e : Nat → Nat} {s : Sg} {x1 x2 : Int} {q : Int × Sg} (h : f_284 x1 x2 s = some q) : EvP 4 284 [.inr (.inr (some 27)), .inl x1, .inl x2, .inr (.inr (some 136))] (hp L s c e) (oCI L c 2 q) := by
  unfold f_284 at h
  refine EvP.of (μ := tb_m284) (ls := [some (.inr (.inr (some 27))), some (.inl x1), some (.inl x2), some (.inr (.inr (some 136))), none]) rfl (Nat.le_of_ble_eq_true rfl) rfl ?_
  refine RuP.step (pc' := 1) (ls' := [some (.inr (.inr (some 27))), some (.inl x1), some (.inl x2), some (.inr (.inr (some 136))), none]) (st' := [.inr (.inr (some 136))]) (h1 := hp L s c e) rfl ?_
  refine RuP.step (pc' := 2) (ls' := [some (.inr (.inr (some 27))), some (.inl x1), some (.inl x2), some (.inr (.inr (some 136))), none]) (st' := [.inl 0, .inr (.inr (some 136))]) (h1 := hp L s c e) rfl ?_
  refine RuP.step (pc' := 3) (ls' := [some (.inr (.inr (some 27))), some (.inl x1), some (.inl x2), some (.inr (.inr (some 136))), none]) (st' := [.inr (.inr (some 27)), .inl 0, .inr (.inr (some 136))]) (h1 := hp L s c e) rfl ?_
  refine RuP.step (pc' := 4) (ls' := [some (.inr (.inr (some 27))), some (.inl x1), some (.inl x2), some (.inr (.inr (some 136))), none]) (st' := [.inl x1, .inr (.inr (some 27)), .inl 0, .inr (.inr (some 136))]) (h1 := hp L s c e) rfl ?_
  refine RuP.step (pc' := 5) (ls' := [some (.inr (.inr (some 27))), some (.inl x1), some (.inl x2), some (.inr (.inr (some 136))), none]) (st' := [.inl x2, .inl x1, .inr (.inr (some 27)), .inl 0, .inr (.inr (some 136))]) (h1 := hp L s c e) rfl ?_
  rcases xc_some h with ⟨a, h1, h⟩ | ⟨x, h1, h⟩
  · refine RuP.cCI (k := 2) rfl (EvP.wk (ev_6 (L := L) (c := c) (e := e) h1) (oD_ofI (j := c) (k := 2) (by omega))) (fun c' e' hc => ?_)
    refine RuP.step (pc' := 9) (ls' := [some (.inr (.inr (some 27))), some (.inl x1), some (.inl x2), some (.inr (.inr (some 136))), none]) (st' := [.inr (.inl a.1), .inl 0, .inr (.inr (some 136))]) (h1 := hp L a.2 c' e') rfl ?_
    refine RuP.ast (f := fun t => t == 2) (j := (0 : Int)) (a := 136) rfl rfl (by decide) rfl rfl (by decide) (show (0 : Int) < (1 : Int) by decide) ?_
    refine RuP.step (pc' := 17) (ls' := [some (.inr (.inr (some 27))), some (.inl x1), some (.inl x2), some (.inr (.inr (some 136))), none]) (st' := []) (h1 := hp L (ax_u2 a.2 136 (0 : Int).toNat a.1) c' e') rfl ?_
    refine RuP.step (pc' := 18) (ls' := [some (.inr (.inr (some 27))), some (.inl x1), some (.inl x2), some (.inr (.inr (some 136))), none]) (st' := [.inl 0]) (h1 := hp L (ax_u2 a.2 136 (0 : Int).toNat a.1) c' e') rfl ?_
    cases h
    exact RuP.wk (RuP.dI rfl) (oCI_of hc)
  · by_cases hx0 : x.1 = 16
    · rw [if_pos hx0] at h
      cases h
      refine RuP.catD (t := 13) (k := 2) rfl (EvP.wk (ev_6 (L := L) (c := c) (e := e) h1) (oD_ofI (j := c) (k := 2) (by omega))) ?_ (fun c1 e' hc => ?_)
      · rw [hx0]
        rfl
      refine RuP.step (pc' := 15) (ls' := [some (.inr (.inr (some 27))), some (.inl x1), some (.inl x2), some (.inr (.inr (some 136))), some (.inr (.inr (some (27 + (110 + c1)))))]) (st' := []) (h1 := hp L x.2 (c1 + 1) e') rfl ?_
      refine RuP.step (pc' := 16) (ls' := [some (.inr (.inr (some 27))), some (.inl x1), some (.inl x2), some (.inr (.inr (some 136))), some (.inr (.inr (some (27 + (110 + c1)))))]) (st' := [.inl 1]) (h1 := hp L x.2 (c1 + 1) e') rfl ?_
      exact RuP.wk (RuP.dI rfl) (oCI_of hc)
    rw [if_neg hx0] at h
    cases h
/-- MachineTextLaw.bits -/
noncomputable def f_285 (x1 x2 : Int) (s : Sg) : Option (Int × Sg) := xc (f_7 x1 x2 s) (fun a => some (0, ax_u2 a.2 136 (0 : Int).toNat a.1)) (fun x => if x.1 = 16 then some (1, x.2) else if x.1 = 14 then some (2, x.2) else none)
theorem ev_285 {L c : Nat} {e : Nat → Nat} {s : Sg} {x1 x2 : Int} {q : Int × Sg} (h : f_285 x1 x2 s = some q) : EvP 4 285 [.inr (.inr (some 27)), .inl x1, .inl x2, .inr (.inr (some 136))] (hp L s c e) (oCI L c 2 q) := by
  unfold f_285 at h
  refine EvP.of (μ := tb_m285) (ls := [some (.inr (.inr (some 27))), some (.inl x1), some (.inl x2), some (.inr (.inr (some 136))), none]) rfl (Nat.le_of_ble_eq_true rfl) rfl ?_
  refine RuP.step (pc' := 1) (ls' := [some (.inr (.inr (some 27))), some (.inl x1), some (.inl x2), some (.inr (.inr (some 136))), none]) (st' := [.inr (.inr (some 136))]) (h1 := hp L s c e) rfl ?_
  refine RuP.step (pc' := 2) (ls' := [some (.inr (.inr (some 27))), some (.inl x1), some (.inl x2), some (.inr (.inr (some 136))), none]) (st' := [.inl 0, .inr (.inr (some 136))]) (h1 := hp L s c e) rfl ?_
  refine RuP.step (pc' := 3) (ls' := [some (.inr (.inr (some 27))), some (.inl x1), some (.inl x2), some (.inr (.inr (some 136))), none]) (st' := [.inr (.inr (some 27)), .inl 0, .inr (.inr (some 136))]) (h1 := hp L s c e) rfl ?_
  refine RuP.step (pc' := 4) (ls' := [some (.inr (.inr (some 27))), some (.inl x1), some (.inl x2), some (.inr (.inr (some 136))), none]) (st' := [.inl x1, .inr (.inr (some 27)), .inl 0, .inr (.inr (some 136))]) (h1 := hp L s c e) rfl ?_
  refine RuP.step (pc' := 5) (ls' := [some (.inr (.inr (some 27))), some (.inl x1), some (.inl x2), some (.inr (.inr (some 136))), none]) (st' := [.inl x2, .inl x1, .inr (.inr (some 27)), .inl 0, .inr (.inr (some 136))]) (h1 := hp L s c e) rfl ?_
  rcases xc_some h with ⟨a, h1, h⟩ | ⟨x, h1, h⟩
  · refine RuP.cCJ (k := 2) rfl (EvP.wk (ev_7 (L := L) (c := c) (e := e) h1) (oD_ofJ (j := c) (k := 2) (by omega))) (fun c' e' hc => ?_)
    refine RuP.ast (f := fun t => t == 2) (j := (0 : Int)) (a := 136) rfl rfl (by decide) rfl rfl (by decide) (show (0 : Int) < (1 : Int) by decide) ?_
    refine RuP.step (pc' := 20) (ls' := [some (.inr (.inr (some 27))), some (.inl x1), some (.inl x2), some (.inr (.inr (some 136))), none]) (st' := []) (h1 := hp L (ax_u2 a.2 136 (0 : Int).toNat a.1) c' e') rfl ?_
    refine RuP.step (pc' := 21) (ls' := [some (.inr (.inr (some 27))), some (.inl x1), some (.inl x2), some (.inr (.inr (some 136))), none]) (st' := [.inl 0]) (h1 := hp L (ax_u2 a.2 136 (0 : Int).toNat a.1) c' e') rfl ?_
    cases h
    exact RuP.wk (RuP.dI rfl) (oCI_of hc)
  · by_cases hx0 : x.1 = 16
    · rw [if_pos hx0] at h
      cases h
      refine RuP.catD (t := 12) (k := 2) rfl (EvP.wk (ev_7 (L := L) (c := c) (e := e) h1) (oD_ofJ (j := c) (k := 2) (by omega))) ?_ (fun c1 e' hc => ?_)
      · rw [hx0]
        rfl
      refine RuP.step (pc' := 14) (ls' := [some (.inr (.inr (some 27))), some (.inl x1), some (.inl x2), some (.inr (.inr (some 136))), some (.inr (.inr (some (27 + (110 + c1)))))]) (st' := []) (h1 := hp L x.2 (c1 + 1) e') rfl ?_
      refine RuP.step (pc' := 15) (ls' := [some (.inr (.inr (some 27))), some (.inl x1), some (.inl x2), some (.inr (.inr (some 136))), some (.inr (.inr (some (27 + (110 + c1)))))]) (st' := [.inl 1]) (h1 := hp L x.2 (c1 + 1) e') rfl ?_
      exact RuP.wk (RuP.dI rfl) (oCI_of hc)
    rw [if_neg hx0] at h
    by_cases hx1 : x.1 = 14
    · rw [if_pos hx1] at h
      cases h
      refine RuP.catD (t := 16) (k := 2) rfl (EvP.wk (ev_7 (L := L) (c := c) (e := e) h1) (oD_ofJ (j := c) (k := 2) (by omega))) ?_ (fun c1 e' hc => ?_)
      · rw [hx1]
        rfl
      refine RuP.step (pc' := 18) (ls' := [some (.inr (.inr (some 27))), some (.inl x1), some (.inl x2), some (.inr (.inr (some 136))), some (.inr (.inr (some (27 + (110 + c1)))))]) (st' := []) (h1 := hp L x.2 (c1 + 1) e') rfl ?_
      refine RuP.step (pc' := 19) (ls' := [some (.inr (.inr (some 27))), some (.inl x1), some (.inl x2), some (.inr (.inr (some 136))), some (.inr (.inr (some (27 + (110 + c1)))))]) (st' := [.inl 2]) (h1 := hp L x.2 (c1 + 1) e') rfl ?_
      exact RuP.wk (RuP.dI rfl) (oCI_of hc)
    rw [if_neg hx1] at h
    cases h
/-- MachineTextLaw.node -/
noncomputable def f_286 (x1 x2 : Int) (s : Sg) : Option (Int × Sg) := xc (f_8 x1 x2 s) (fun a => some (0, ax_u2 a.2 136 (0 : Int).toNat a.1)) (fun x => if x.1 = 16 then some (1, x.2) else none)
theorem ev_286 {L c : Nat} {e : Nat → Nat} {s : Sg} {x1 x2 : Int} {q : Int × Sg} (h : f_286 x1 x2 s = some q) : EvP 5 286 [.inr (.inr (some 27)), .inl x1, .inl x2, .inr (.inr (some 136))] (hp L s c e) (oCI L c 2 q) := by
  unfold f_286 at h
  refine EvP.of (μ := tb_m286) (ls := [some (.inr (.inr (some 27))), some (.inl x1), some (.inl x2), some (.inr (.inr (some 136))), none]) rfl (Nat.le_of_ble_eq_true rfl) rfl ?_
  refine RuP.step (pc' := 1) (ls' := [some (.inr (.inr (some 27))), some (.inl x1), some (.inl x2), some (.inr (.inr (some 136))), none]) (st' := [.inr (.inr (some 136))]) (h1 := hp L s c e) rfl ?_
  refine RuP.step (pc' := 2) (ls' := [some (.inr (.inr (some 27))), some (.inl x1), some (.inl x2), some (.inr (.inr (some 136))), none]) (st' := [.inl 0, .inr (.inr (some 136))]) (h1 := hp L s c e) rfl ?_
  refine RuP.step (pc' := 3) (ls' := [some (.inr (.inr (some 27))), some (.inl x1), some (.inl x2), some (.inr (.inr (some 136))), none]) (st' := [.inr (.inr (some 27)), .inl 0, .inr (.inr (some 136))]) (h1 := hp L s c e) rfl ?_
  refine RuP.step (pc' := 4) (ls' := [some (.inr (.inr (some 27))), some (.inl x1), some (.inl x2), some (.inr (.inr (some 136))), none]) (st' := [.inl x1, .inr (.inr (some 27)), .inl 0, .inr (.inr (some 136))]) (h1 := hp L s c e) rfl ?_
  refine RuP.step (pc' := 5) (ls' := [some (.inr (.inr (some 27))), some (.inl x1), some (.inl x2), some (.inr (.inr (some 136))), none]) (st' := [.inl x2, .inl x1, .inr (.inr (some 27)), .inl 0, .inr (.inr (some 136))]) (h1 := hp L s c e) rfl ?_
  rcases xc_some h with ⟨a, h1, h⟩ | ⟨x, h1, h⟩
  · refine RuP.cCI (k := 2) rfl (EvP.wk (ev_8 (L := L) (c := c) (e := e) h1) (oD_ofI (j := c) (k := 2) (by omega))) (fun c' e' hc => ?_)
    refine RuP.step (pc' := 9) (ls' := [some (.inr (.inr (some 27))), some (.inl x1), some (.inl x2), some (.inr (.inr (some 136))), none]) (st' := [.inr (.inl a.1), .inl 0, .inr (.inr (some 136))]) (h1 := hp L a.2 c' e') rfl ?_
    refine RuP.ast (f := fun t => t == 2) (j := (0 : Int)) (a := 136) rfl rfl (by decide) rfl rfl (by decide) (show (0 : Int) < (1 : Int) by decide) ?_
    refine RuP.step (pc' := 17) (ls' := [some (.inr (.inr (some 27))), some (.inl x1), some (.inl x2), some (.inr (.inr (some 136))), none]) (st' := []) (h1 := hp L (ax_u2 a.2 136 (0 : Int).toNat a.1) c' e') rfl ?_
    refine RuP.step (pc' := 18) (ls' := [some (.inr (.inr (some 27))), some (.inl x1), some (.inl x2), some (.inr (.inr (some 136))), none]) (st' := [.inl 0]) (h1 := hp L (ax_u2 a.2 136 (0 : Int).toNat a.1) c' e') rfl ?_
    cases h
    exact RuP.wk (RuP.dI rfl) (oCI_of hc)
  · by_cases hx0 : x.1 = 16
    · rw [if_pos hx0] at h
      cases h
      refine RuP.catD (t := 13) (k := 2) rfl (EvP.wk (ev_8 (L := L) (c := c) (e := e) h1) (oD_ofI (j := c) (k := 2) (by omega))) ?_ (fun c1 e' hc => ?_)
      · rw [hx0]
        rfl
      refine RuP.step (pc' := 15) (ls' := [some (.inr (.inr (some 27))), some (.inl x1), some (.inl x2), some (.inr (.inr (some 136))), some (.inr (.inr (some (27 + (110 + c1)))))]) (st' := []) (h1 := hp L x.2 (c1 + 1) e') rfl ?_
      refine RuP.step (pc' := 16) (ls' := [some (.inr (.inr (some 27))), some (.inl x1), some (.inl x2), some (.inr (.inr (some 136))), some (.inr (.inr (some (27 + (110 + c1)))))]) (st' := [.inl 1]) (h1 := hp L x.2 (c1 + 1) e') rfl ?_
      exact RuP.wk (RuP.dI rfl) (oCI_of hc)
    rw [if_neg hx0] at h
    cases h
/-- MachineTextLaw.ring -/
noncomputable def f_287 (x1 : Int) (s : Sg) : Option (Int × Sg) := xc (f_9 x1 s) (fun a => some (0, ax_u2 a.2 136 (0 : Int).toNat a.1)) (fun x => if x.1 = 16 then some (1, x.2) else none)
theorem ev_287 {L c : Nat} {e : Nat → Nat} {s : Sg} {x1 : Int} {q : Int × Sg} (h : f_287 x1 s = some q) : EvP 4 287 [.inr (.inr (some 27)), .inl x1, .inr (.inr (some 136))] (hp L s c e) (oCI L c 2 q) := by
  unfold f_287 at h
  refine EvP.of (μ := tb_m287) (ls := [some (.inr (.inr (some 27))), some (.inl x1), some (.inr (.inr (some 136))), none]) rfl (Nat.le_of_ble_eq_true rfl) rfl ?_
  refine RuP.step (pc' := 1) (ls' := [some (.inr (.inr (some 27))), some (.inl x1), some (.inr (.inr (some 136))), none]) (st' := [.inr (.inr (some 136))]) (h1 := hp L s c e) rfl ?_
  refine RuP.step (pc' := 2) (ls' := [some (.inr (.inr (some 27))), some (.inl x1), some (.inr (.inr (some 136))), none]) (st' := [.inl 0, .inr (.inr (some 136))]) (h1 := hp L s c e) rfl ?_
  refine RuP.step (pc' := 3) (ls' := [some (.inr (.inr (some 27))), some (.inl x1), some (.inr (.inr (some 136))), none]) (st' := [.inr (.inr (some 27)), .inl 0, .inr (.inr (some 136))]) (h1 := hp L s c e) rfl ?_
  refine RuP.step (pc' := 4) (ls' := [some (.inr (.inr (some 27))), some (.inl x1), some (.inr (.inr (some 136))), none]) (st' := [.inl x1, .inr (.inr (some 27)), .inl 0, .inr (.inr (some 136))]) (h1 := hp L s c e) rfl ?_
  rcases xc_some h with ⟨a, h1, h⟩ | ⟨x, h1, h⟩
  · refine RuP.cCI (k := 2) rfl (EvP.wk (ev_9 (L := L) (c := c) (e := e) h1) (oD_ofI (j := c) (k := 2) (by omega))) (fun c' e' hc => ?_)
    refine RuP.step (pc' := 8) (ls' := [some (.inr (.inr (some 27))), some (.inl x1), some (.inr (.inr (some 136))), none]) (st' := [.inr (.inl a.1), .inl 0, .inr (.inr (some 136))]) (h1 := hp L a.2 c' e') rfl ?_
    refine RuP.ast (f := fun t => t == 2) (j := (0 : Int)) (a := 136) rfl rfl (by decide) rfl rfl (by decide) (show (0 : Int) < (1 : Int) by decide) ?_
    refine RuP.step (pc' := 15) (ls' := [some (.inr (.inr (some 27))), some (.inl x1), some (.inr (.inr (some 136))), none]) (st' := []) (h1 := hp L (ax_u2 a.2 136 (0 : Int).toNat a.1) c' e') rfl ?_
    refine RuP.step (pc' := 16) (ls' := [some (.inr (.inr (some 27))), some (.inl x1), some (.inr (.inr (some 136))), none]) (st' := [.inl 0]) (h1 := hp L (ax_u2 a.2 136 (0 : Int).toNat a.1) c' e') rfl ?_
    cases h
    exact RuP.wk (RuP.dI rfl) (oCI_of hc)
  · by_cases hx0 : x.1 = 16
    · rw [if_pos hx0] at h
      cases h
      refine RuP.catD (t := 12) (k := 2) rfl (EvP.wk (ev_9 (L := L) (c := c) (e := e) h1) (oD_ofI (j := c) (k := 2) (by omega))) ?_ (fun c1 e' hc => ?_)
      · rw [hx0]
        rfl
      refine RuP.step (pc' := 13) (ls' := [some (.inr (.inr (some 27))), some (.inl x1), some (.inr (.inr (some 136))), some (.inr (.inr (some (27 + (110 + c1)))))]) (st' := []) (h1 := hp L x.2 (c1 + 1) e') rfl ?_
      refine RuP.step (pc' := 14) (ls' := [some (.inr (.inr (some 27))), some (.inl x1), some (.inr (.inr (some 136))), some (.inr (.inr (some (27 + (110 + c1)))))]) (st' := [.inl 1]) (h1 := hp L x.2 (c1 + 1) e') rfl ?_
      exact RuP.wk (RuP.dI rfl) (oCI_of hc)
    rw [if_neg hx0] at h
    cases h
/-- MachineTextLaw.print -/
noncomputable def f_288 (s : Sg) : Option (Int × Sg) := xc (f_10 s) (fun a => some (0, ax_u2 a.2 136 (0 : Int).toNat a.1)) (fun x => if x.1 = 14 then some (1, x.2) else none)
theorem ev_288 {L c : Nat} {e : Nat → Nat} {s : Sg} {q : Int × Sg} (h : f_288 s = some q) : EvP 6 288 [.inr (.inr (some 27)), .inr (.inr (some 136))] (hp L s c e) (oCI L c 2 q) := by
  unfold f_288 at h
  refine EvP.of (μ := tb_m288) (ls := [some (.inr (.inr (some 27))), some (.inr (.inr (some 136))), none]) rfl (Nat.le_of_ble_eq_true rfl) rfl ?_
  refine RuP.step (pc' := 1) (ls' := [some (.inr (.inr (some 27))), some (.inr (.inr (some 136))), none]) (st' := [.inr (.inr (some 136))]) (h1 := hp L s c e) rfl ?_
  refine RuP.step (pc' := 2) (ls' := [some (.inr (.inr (some 27))), some (.inr (.inr (some 136))), none]) (st' := [.inl 0, .inr (.inr (some 136))]) (h1 := hp L s c e) rfl ?_
  refine RuP.step (pc' := 3) (ls' := [some (.inr (.inr (some 27))), some (.inr (.inr (some 136))), none]) (st' := [.inr (.inr (some 27)), .inl 0, .inr (.inr (some 136))]) (h1 := hp L s c e) rfl ?_
  rcases xc_some h with ⟨a, h1, h⟩ | ⟨x, h1, h⟩
  · refine RuP.cCI (k := 2) rfl (EvP.wk (ev_10 (L := L) (c := c) (e := e) h1) (oD_ofI (j := c) (k := 2) (by omega))) (fun c' e' hc => ?_)
    refine RuP.step (pc' := 7) (ls' := [some (.inr (.inr (some 27))), some (.inr (.inr (some 136))), none]) (st' := [.inr (.inl a.1), .inl 0, .inr (.inr (some 136))]) (h1 := hp L a.2 c' e') rfl ?_
    refine RuP.ast (f := fun t => t == 2) (j := (0 : Int)) (a := 136) rfl rfl (by decide) rfl rfl (by decide) (show (0 : Int) < (1 : Int) by decide) ?_
    refine RuP.step (pc' := 14) (ls' := [some (.inr (.inr (some 27))), some (.inr (.inr (some 136))), none]) (st' := []) (h1 := hp L (ax_u2 a.2 136 (0 : Int).toNat a.1) c' e') rfl ?_
    refine RuP.step (pc' := 15) (ls' := [some (.inr (.inr (some 27))), some (.inr (.inr (some 136))), none]) (st' := [.inl 0]) (h1 := hp L (ax_u2 a.2 136 (0 : Int).toNat a.1) c' e') rfl ?_
    cases h
    exact RuP.wk (RuP.dI rfl) (oCI_of hc)
  · by_cases hx0 : x.1 = 14
    · rw [if_pos hx0] at h
      cases h
      refine RuP.catD (t := 11) (k := 2) rfl (EvP.wk (ev_10 (L := L) (c := c) (e := e) h1) (oD_ofI (j := c) (k := 2) (by omega))) ?_ (fun c1 e' hc => ?_)
      · rw [hx0]
        rfl
      refine RuP.step (pc' := 12) (ls' := [some (.inr (.inr (some 27))), some (.inr (.inr (some 136))), some (.inr (.inr (some (27 + (110 + c1)))))]) (st' := []) (h1 := hp L x.2 (c1 + 1) e') rfl ?_
      refine RuP.step (pc' := 13) (ls' := [some (.inr (.inr (some 27))), some (.inr (.inr (some 136))), some (.inr (.inr (some (27 + (110 + c1)))))]) (st' := [.inl 1]) (h1 := hp L x.2 (c1 + 1) e') rfl ?_
      exact RuP.wk (RuP.dI rfl) (oCI_of hc)
    rw [if_neg hx0] at h
    cases h
/-- MachineTextLaw.out -/
noncomputable def f_289 (x1 : Int) (s : Sg) : Option (Int × Sg) := xc (f_11 x1 s) (fun a => some (0, ax_u2 a.2 136 (0 : Int).toNat a.1)) (fun x => if x.1 = 16 then some (1, x.2) else none)
theorem ev_289 {L c : Nat} {e : Nat → Nat} {s : Sg} {x1 : Int} {q : Int × Sg} (h : f_289 x1 s = some q) : EvP 4 289 [.inr (.inr (some 27)), .inl x1, .inr (.inr (some 136))] (hp L s c e) (oCI L c 2 q) := by
  unfold f_289 at h
  refine EvP.of (μ := tb_m289) (ls := [some (.inr (.inr (some 27))), some (.inl x1), some (.inr (.inr (some 136))), none]) rfl (Nat.le_of_ble_eq_true rfl) rfl ?_
  refine RuP.step (pc' := 1) (ls' := [some (.inr (.inr (some 27))), some (.inl x1), some (.inr (.inr (some 136))), none]) (st' := [.inr (.inr (some 136))]) (h1 := hp L s c e) rfl ?_
  refine RuP.step (pc' := 2) (ls' := [some (.inr (.inr (some 27))), some (.inl x1), some (.inr (.inr (some 136))), none]) (st' := [.inl 0, .inr (.inr (some 136))]) (h1 := hp L s c e) rfl ?_
  refine RuP.step (pc' := 3) (ls' := [some (.inr (.inr (some 27))), some (.inl x1), some (.inr (.inr (some 136))), none]) (st' := [.inr (.inr (some 27)), .inl 0, .inr (.inr (some 136))]) (h1 := hp L s c e) rfl ?_
  refine RuP.step (pc' := 4) (ls' := [some (.inr (.inr (some 27))), some (.inl x1), some (.inr (.inr (some 136))), none]) (st' := [.inl x1, .inr (.inr (some 27)), .inl 0, .inr (.inr (some 136))]) (h1 := hp L s c e) rfl ?_
  rcases xc_some h with ⟨a, h1, h⟩ | ⟨x, h1, h⟩
  · refine RuP.cCI (k := 2) rfl (EvP.wk (ev_11 (L := L) (c := c) (e := e) h1) (oD_ofI (j := c) (k := 2) (by omega))) (fun c' e' hc => ?_)
    refine RuP.step (pc' := 8) (ls' := [some (.inr (.inr (some 27))), some (.inl x1), some (.inr (.inr (some 136))), none]) (st' := [.inr (.inl a.1), .inl 0, .inr (.inr (some 136))]) (h1 := hp L a.2 c' e') rfl ?_
    refine RuP.ast (f := fun t => t == 2) (j := (0 : Int)) (a := 136) rfl rfl (by decide) rfl rfl (by decide) (show (0 : Int) < (1 : Int) by decide) ?_
    refine RuP.step (pc' := 15) (ls' := [some (.inr (.inr (some 27))), some (.inl x1), some (.inr (.inr (some 136))), none]) (st' := []) (h1 := hp L (ax_u2 a.2 136 (0 : Int).toNat a.1) c' e') rfl ?_
    refine RuP.step (pc' := 16) (ls' := [some (.inr (.inr (some 27))), some (.inl x1), some (.inr (.inr (some 136))), none]) (st' := [.inl 0]) (h1 := hp L (ax_u2 a.2 136 (0 : Int).toNat a.1) c' e') rfl ?_
    cases h
    exact RuP.wk (RuP.dI rfl) (oCI_of hc)
  · by_cases hx0 : x.1 = 16
    · rw [if_pos hx0] at h
      cases h
      refine RuP.catD (t := 12) (k := 2) rfl (EvP.wk (ev_11 (L := L) (c := c) (e := e) h1) (oD_ofI (j := c) (k := 2) (by omega))) ?_ (fun c1 e' hc => ?_)
      · rw [hx0]
        rfl
      refine RuP.step (pc' := 13) (ls' := [some (.inr (.inr (some 27))), some (.inl x1), some (.inr (.inr (some 136))), some (.inr (.inr (some (27 + (110 + c1)))))]) (st' := []) (h1 := hp L x.2 (c1 + 1) e') rfl ?_
      refine RuP.step (pc' := 14) (ls' := [some (.inr (.inr (some 27))), some (.inl x1), some (.inr (.inr (some 136))), some (.inr (.inr (some (27 + (110 + c1)))))]) (st' := [.inl 1]) (h1 := hp L x.2 (c1 + 1) e') rfl ?_
      exact RuP.wk (RuP.dI rfl) (oCI_of hc)
    rw [if_neg hx0] at h
    cases h
/-- MachineTextLaw.again -/
noncomputable def f_290 (s : Sg) : Option (Int × Sg) := xc (f_12 s) (fun a => some (0, ax_u2 a.2 136 (0 : Int).toNat a.1)) (fun x => if x.1 = 14 then some (1, x.2) else none)
theorem ev_290 {L c : Nat} {e : Nat → Nat} {s : Sg} {q : Int × Sg} (h : f_290 s = some q) : EvP 4 290 [.inr (.inr (some 27)), .inr (.inr (some 136))] (hp L s c e) (oCI L c 2 q) := by
  unfold f_290 at h
  refine EvP.of (μ := tb_m290) (ls := [some (.inr (.inr (some 27))), some (.inr (.inr (some 136))), none]) rfl (Nat.le_of_ble_eq_true rfl) rfl ?_
  refine RuP.step (pc' := 1) (ls' := [some (.inr (.inr (some 27))), some (.inr (.inr (some 136))), none]) (st' := [.inr (.inr (some 136))]) (h1 := hp L s c e) rfl ?_
  refine RuP.step (pc' := 2) (ls' := [some (.inr (.inr (some 27))), some (.inr (.inr (some 136))), none]) (st' := [.inl 0, .inr (.inr (some 136))]) (h1 := hp L s c e) rfl ?_
  refine RuP.step (pc' := 3) (ls' := [some (.inr (.inr (some 27))), some (.inr (.inr (some 136))), none]) (st' := [.inr (.inr (some 27)), .inl 0, .inr (.inr (some 136))]) (h1 := hp L s c e) rfl ?_
  rcases xc_some h with ⟨a, h1, h⟩ | ⟨x, h1, h⟩
  · refine RuP.cCI (k := 2) rfl (EvP.wk (ev_12 (L := L) (c := c) (e := e) h1) (oD_ofI (j := c) (k := 2) (by omega))) (fun c' e' hc => ?_)
    refine RuP.step (pc' := 7) (ls' := [some (.inr (.inr (some 27))), some (.inr (.inr (some 136))), none]) (st' := [.inr (.inl a.1), .inl 0, .inr (.inr (some 136))]) (h1 := hp L a.2 c' e') rfl ?_
    refine RuP.ast (f := fun t => t == 2) (j := (0 : Int)) (a := 136) rfl rfl (by decide) rfl rfl (by decide) (show (0 : Int) < (1 : Int) by decide) ?_
    refine RuP.step (pc' := 14) (ls' := [some (.inr (.inr (some 27))), some (.inr (.inr (some 136))), none]) (st' := []) (h1 := hp L (ax_u2 a.2 136 (0 : Int).toNat a.1) c' e') rfl ?_
    refine RuP.step (pc' := 15) (ls' := [some (.inr (.inr (some 27))), some (.inr (.inr (some 136))), none]) (st' := [.inl 0]) (h1 := hp L (ax_u2 a.2 136 (0 : Int).toNat a.1) c' e') rfl ?_
    cases h
    exact RuP.wk (RuP.dI rfl) (oCI_of hc)
  · by_cases hx0 : x.1 = 14
    · rw [if_pos hx0] at h
      cases h
      refine RuP.catD (t := 11) (k := 2) rfl (EvP.wk (ev_12 (L := L) (c := c) (e := e) h1) (oD_ofI (j := c) (k := 2) (by omega))) ?_ (fun c1 e' hc => ?_)
      · rw [hx0]
        rfl
      refine RuP.step (pc' := 12) (ls' := [some (.inr (.inr (some 27))), some (.inr (.inr (some 136))), some (.inr (.inr (some (27 + (110 + c1)))))]) (st' := []) (h1 := hp L x.2 (c1 + 1) e') rfl ?_
      refine RuP.step (pc' := 13) (ls' := [some (.inr (.inr (some 27))), some (.inr (.inr (some 136))), some (.inr (.inr (some (27 + (110 + c1)))))]) (st' := [.inl 1]) (h1 := hp L x.2 (c1 + 1) e') rfl ?_
      exact RuP.wk (RuP.dI rfl) (oCI_of hc)
    rw [if_neg hx0] at h
    cases h
/-! THE LAW'S LOOP, by program. -/
noncomputable def j_279_497 (L : Nat) (k23 : (Int → Sg → Option Int)) (l4 : Int) (s : Sg) : Option Int :=
  k23 (ax_w32 (l4 + 5)) s
set_option maxRecDepth 20000 in
theorem bl_279_497 {L B bF : Nat} {k23 : (Int → Sg → Option Int)} (hB : bF ≤ B) (hk23 : ∀ (c : Nat) (e : Nat → Nat) (d5 d6 d7 : Option ax_V) (l4 : Int) (s : Sg) (q : Int), c ≤ bF → k23 l4 s = some q → RuP 225 tb_m279 23 [some (.inr (.inr (some 0))), some (.inr (.inr (some 27))), some (.inr (.inr (some 84))), some (.inr (.inr (some 136))), some (.inl l4), d5, d6, d7] [] (hp L s c e) (oL L B q)) : ∀ (c : Nat) (e : Nat → Nat) (d5 d6 d7 : Option ax_V) (l4 : Int) (s : Sg) (q : Int), c ≤ bF → j_279_497 L k23 l4 s = some q → RuP 225 tb_m279 497 [some (.inr (.inr (some 0))), some (.inr (.inr (some 27))), some (.inr (.inr (some 84))), some (.inr (.inr (some 136))), some (.inl l4), d5, d6, d7] [] (hp L s c e) (oL L B q) := by
  intro c e d5 d6 d7 l4 s q hc h
  unfold j_279_497 at h
  refine RuP.step (pc' := 500) (ls' := [some (.inr (.inr (some 0))), some (.inr (.inr (some 27))), some (.inr (.inr (some 84))), some (.inr (.inr (some 136))), some (.inl (ax_w32 (l4 + 5))), d5, d6, d7]) (st' := []) (h1 := hp L s c e) rfl ?_
  refine RuP.step (pc' := 23) (ls' := [some (.inr (.inr (some 0))), some (.inr (.inr (some 27))), some (.inr (.inr (some 84))), some (.inr (.inr (some 136))), some (.inl (ax_w32 (l4 + 5))), d5, d6, d7]) (st' := []) (h1 := hp L s c e) rfl ?_
  exact hk23 _ _ _ _ _ _ _ _ (by omega) h
noncomputable def j_279_129 (L : Nat) (k23 : (Int → Sg → Option Int)) (l4 t0 : Int) (s : Sg) : Option Int :=
  (gd (0 ≤ ax_w32 (l4 + 1) ∧ ax_w32 (l4 + 1) < L) (
  (gd (0 ≤ ax_w32 (l4 + 2) ∧ ax_w32 (l4 + 2) < L) (
  (gd (0 ≤ ax_w32 (l4 + 3) ∧ ax_w32 (l4 + 3) < L) (
  (gd (0 ≤ ax_w32 (l4 + 4) ∧ ax_w32 (l4 + 4) < L) (
  ((f_193 (s 0 ((ax_w32 (l4 + 1)).toNat)) (s 0 ((ax_w32 (l4 + 2)).toNat)) (s 0 ((ax_w32 (l4 + 3)).toNat)) (s 0 ((ax_w32 (l4 + 4)).toNat)) s).bind fun q2 =>
  j_279_497 L k23 l4 q2.2)))))))))
set_option maxRecDepth 20000 in
theorem bl_279_129 {L B bF : Nat} {k23 : (Int → Sg → Option Int)} (hB : bF ≤ B) (hk23 : ∀ (c : Nat) (e : Nat → Nat) (d5 d6 d7 : Option ax_V) (l4 : Int) (s : Sg) (q : Int), c ≤ bF → k23 l4 s = some q → RuP 225 tb_m279 23 [some (.inr (.inr (some 0))), some (.inr (.inr (some 27))), some (.inr (.inr (some 84))), some (.inr (.inr (some 136))), some (.inl l4), d5, d6, d7] [] (hp L s c e) (oL L B q)) : ∀ (c : Nat) (e : Nat → Nat) (d5 d6 d7 : Option ax_V) (l4 t0 : Int) (s : Sg) (q : Int), c ≤ bF → j_279_129 L k23 l4 t0 s = some q → RuP 225 tb_m279 129 [some (.inr (.inr (some 0))), some (.inr (.inr (some 27))), some (.inr (.inr (some 84))), some (.inr (.inr (some 136))), some (.inl l4), d5, d6, d7] [.inl t0] (hp L s c e) (oL L B q) := by
  intro c e d5 d6 d7 l4 t0 s q hc h
  unfold j_279_129 at h
  refine RuP.step (pc' := 131) (ls' := [some (.inr (.inr (some 0))), some (.inr (.inr (some 27))), some (.inr (.inr (some 84))), some (.inr (.inr (some 136))), some (.inl l4), some (.inl t0), d6, d7]) (st' := []) (h1 := hp L s c e) rfl ?_
  refine RuP.step (pc' := 132) (ls' := [some (.inr (.inr (some 0))), some (.inr (.inr (some 27))), some (.inr (.inr (some 84))), some (.inr (.inr (some 136))), some (.inl l4), some (.inl t0), d6, d7]) (st' := [.inr (.inr (some 84))]) (h1 := hp L s c e) rfl ?_
  refine RuP.step (pc' := 133) (ls' := [some (.inr (.inr (some 0))), some (.inr (.inr (some 27))), some (.inr (.inr (some 84))), some (.inr (.inr (some 136))), some (.inl l4), some (.inl t0), d6, d7]) (st' := [.inr (.inr (some 0)), .inr (.inr (some 84))]) (h1 := hp L s c e) rfl ?_
  refine RuP.step (pc' := 135) (ls' := [some (.inr (.inr (some 0))), some (.inr (.inr (some 27))), some (.inr (.inr (some 84))), some (.inr (.inr (some 136))), some (.inl l4), some (.inl t0), d6, d7]) (st' := [.inl l4, .inr (.inr (some 0)), .inr (.inr (some 84))]) (h1 := hp L s c e) rfl ?_
  refine RuP.step (pc' := 136) (ls' := [some (.inr (.inr (some 0))), some (.inr (.inr (some 27))), some (.inr (.inr (some 84))), some (.inr (.inr (some 136))), some (.inl l4), some (.inl t0), d6, d7]) (st' := [.inl 1, .inl l4, .inr (.inr (some 0)), .inr (.inr (some 84))]) (h1 := hp L s c e) rfl ?_
  refine RuP.step (pc' := 137) (ls' := [some (.inr (.inr (some 0))), some (.inr (.inr (some 27))), some (.inr (.inr (some 84))), some (.inr (.inr (some 136))), some (.inl l4), some (.inl t0), d6, d7]) (st' := [.inl (ax_w32 (l4 + 1)), .inr (.inr (some 0)), .inr (.inr (some 84))]) (h1 := hp L s c e) rfl ?_
  obtain ⟨b0, h⟩ := gd_some h
  refine RuP.ald (f := fun t => t == 0) (j := ax_w32 (l4 + 1)) (a := 0) rfl rfl b0.1 b0.2 ?_
  refine RuP.step (pc' := 139) (ls' := [some (.inr (.inr (some 0))), some (.inr (.inr (some 27))), some (.inr (.inr (some 84))), some (.inr (.inr (some 136))), some (.inl l4), some (.inl t0), d6, d7]) (st' := [.inr (.inr (some 0)), .inl (s 0 ((ax_w32 (l4 + 1)).toNat)), .inr (.inr (some 84))]) (h1 := hp L s c e) rfl ?_
  refine RuP.step (pc' := 141) (ls' := [some (.inr (.inr (some 0))), some (.inr (.inr (some 27))), some (.inr (.inr (some 84))), some (.inr (.inr (some 136))), some (.inl l4), some (.inl t0), d6, d7]) (st' := [.inl l4, .inr (.inr (some 0)), .inl (s 0 ((ax_w32 (l4 + 1)).toNat)), .inr (.inr (some 84))]) (h1 := hp L s c e) rfl ?_
  refine RuP.step (pc' := 142) (ls' := [some (.inr (.inr (some 0))), some (.inr (.inr (some 27))), some (.inr (.inr (some 84))), some (.inr (.inr (some 136))), some (.inl l4), some (.inl t0), d6, d7]) (st' := [.inl 2, .inl l4, .inr (.inr (some 0)), .inl (s 0 ((ax_w32 (l4 + 1)).toNat)), .inr (.inr (some 84))]) (h1 := hp L s c e) rfl ?_
  refine RuP.step (pc' := 143) (ls' := [some (.inr (.inr (some 0))), some (.inr (.inr (some 27))), some (.inr (.inr (some 84))), some (.inr (.inr (some 136))), some (.inl l4), some (.inl t0), d6, d7]) (st' := [.inl (ax_w32 (l4 + 2)), .inr (.inr (some 0)), .inl (s 0 ((ax_w32 (l4 + 1)).toNat)), .inr (.inr (some 84))]) (h1 := hp L s c e) rfl ?_
  obtain ⟨b1, h⟩ := gd_some h
  refine RuP.ald (f := fun t => t == 0) (j := ax_w32 (l4 + 2)) (a := 0) rfl rfl b1.1 b1.2 ?_
  refine RuP.step (pc' := 145) (ls' := [some (.inr (.inr (some 0))), some (.inr (.inr (some 27))), some (.inr (.inr (some 84))), some (.inr (.inr (some 136))), some (.inl l4), some (.inl t0), d6, d7]) (st' := [.inr (.inr (some 0)), .inl (s 0 ((ax_w32 (l4 + 2)).toNat)), .inl (s 0 ((ax_w32 (l4 + 1)).toNat)), .inr (.inr (some 84))]) (h1 := hp L s c e) rfl ?_
  refine RuP.step (pc' := 147) (ls' := [some (.inr (.inr (some 0))), some (.inr (.inr (some 27))), some (.inr (.inr (some 84))), some (.inr (.inr (some 136))), some (.inl l4), some (.inl t0), d6, d7]) (st' := [.inl l4, .inr (.inr (some 0)), .inl (s 0 ((ax_w32 (l4 + 2)).toNat)), .inl (s 0 ((ax_w32 (l4 + 1)).toNat)), .inr (.inr (some 84))]) (h1 := hp L s c e) rfl ?_
  refine RuP.step (pc' := 148) (ls' := [some (.inr (.inr (some 0))), some (.inr (.inr (some 27))), some (.inr (.inr (some 84))), some (.inr (.inr (some 136))), some (.inl l4), some (.inl t0), d6, d7]) (st' := [.inl 3, .inl l4, .inr (.inr (some 0)), .inl (s 0 ((ax_w32 (l4 + 2)).toNat)), .inl (s 0 ((ax_w32 (l4 + 1)).toNat)), .inr (.inr (some 84))]) (h1 := hp L s c e) rfl ?_
  refine RuP.step (pc' := 149) (ls' := [some (.inr (.inr (some 0))), some (.inr (.inr (some 27))), some (.inr (.inr (some 84))), some (.inr (.inr (some 136))), some (.inl l4), some (.inl t0), d6, d7]) (st' := [.inl (ax_w32 (l4 + 3)), .inr (.inr (some 0)), .inl (s 0 ((ax_w32 (l4 + 2)).toNat)), .inl (s 0 ((ax_w32 (l4 + 1)).toNat)), .inr (.inr (some 84))]) (h1 := hp L s c e) rfl ?_
  obtain ⟨b2, h⟩ := gd_some h
  refine RuP.ald (f := fun t => t == 0) (j := ax_w32 (l4 + 3)) (a := 0) rfl rfl b2.1 b2.2 ?_
  refine RuP.step (pc' := 151) (ls' := [some (.inr (.inr (some 0))), some (.inr (.inr (some 27))), some (.inr (.inr (some 84))), some (.inr (.inr (some 136))), some (.inl l4), some (.inl t0), d6, d7]) (st' := [.inr (.inr (some 0)), .inl (s 0 ((ax_w32 (l4 + 3)).toNat)), .inl (s 0 ((ax_w32 (l4 + 2)).toNat)), .inl (s 0 ((ax_w32 (l4 + 1)).toNat)), .inr (.inr (some 84))]) (h1 := hp L s c e) rfl ?_
  refine RuP.step (pc' := 153) (ls' := [some (.inr (.inr (some 0))), some (.inr (.inr (some 27))), some (.inr (.inr (some 84))), some (.inr (.inr (some 136))), some (.inl l4), some (.inl t0), d6, d7]) (st' := [.inl l4, .inr (.inr (some 0)), .inl (s 0 ((ax_w32 (l4 + 3)).toNat)), .inl (s 0 ((ax_w32 (l4 + 2)).toNat)), .inl (s 0 ((ax_w32 (l4 + 1)).toNat)), .inr (.inr (some 84))]) (h1 := hp L s c e) rfl ?_
  refine RuP.step (pc' := 154) (ls' := [some (.inr (.inr (some 0))), some (.inr (.inr (some 27))), some (.inr (.inr (some 84))), some (.inr (.inr (some 136))), some (.inl l4), some (.inl t0), d6, d7]) (st' := [.inl 4, .inl l4, .inr (.inr (some 0)), .inl (s 0 ((ax_w32 (l4 + 3)).toNat)), .inl (s 0 ((ax_w32 (l4 + 2)).toNat)), .inl (s 0 ((ax_w32 (l4 + 1)).toNat)), .inr (.inr (some 84))]) (h1 := hp L s c e) rfl ?_
  refine RuP.step (pc' := 155) (ls' := [some (.inr (.inr (some 0))), some (.inr (.inr (some 27))), some (.inr (.inr (some 84))), some (.inr (.inr (some 136))), some (.inl l4), some (.inl t0), d6, d7]) (st' := [.inl (ax_w32 (l4 + 4)), .inr (.inr (some 0)), .inl (s 0 ((ax_w32 (l4 + 3)).toNat)), .inl (s 0 ((ax_w32 (l4 + 2)).toNat)), .inl (s 0 ((ax_w32 (l4 + 1)).toNat)), .inr (.inr (some 84))]) (h1 := hp L s c e) rfl ?_
  obtain ⟨b3, h⟩ := gd_some h
  refine RuP.ald (f := fun t => t == 0) (j := ax_w32 (l4 + 4)) (a := 0) rfl rfl b3.1 b3.2 ?_
  obtain ⟨q2, h1, h⟩ := bd_some h
  refine RuP.cI rfl ((ev_193 h1).up (by decide)) ?_
  refine RuP.step (pc' := 161) (ls' := [some (.inr (.inr (some 0))), some (.inr (.inr (some 27))), some (.inr (.inr (some 84))), some (.inr (.inr (some 136))), some (.inl l4), some (.inl t0), some (.inl q2.1), d7]) (st' := []) (h1 := hp L q2.2 c e) rfl ?_
  refine RuP.step (pc' := 497) (ls' := [some (.inr (.inr (some 0))), some (.inr (.inr (some 27))), some (.inr (.inr (some 84))), some (.inr (.inr (some 136))), some (.inl l4), some (.inl t0), some (.inl q2.1), d7]) (st' := []) (h1 := hp L q2.2 c e) rfl ?_
  exact bl_279_497 hB hk23 _ _ _ _ _ _ _ _ (by omega) h
noncomputable def j_279_175 (L : Nat) (k23 : (Int → Sg → Option Int)) (l4 t0 : Int) (s : Sg) : Option Int :=
  (gd (0 ≤ ax_w32 (l4 + 1) ∧ ax_w32 (l4 + 1) < L) (
  ((f_195 (s 0 ((ax_w32 (l4 + 1)).toNat)) s).bind fun q4 =>
  j_279_497 L k23 l4 q4.2)))
set_option maxRecDepth 20000 in
theorem bl_279_175 {L B bF : Nat} {k23 : (Int → Sg → Option Int)} (hB : bF ≤ B) (hk23 : ∀ (c : Nat) (e : Nat → Nat) (d5 d6 d7 : Option ax_V) (l4 : Int) (s : Sg) (q : Int), c ≤ bF → k23 l4 s = some q → RuP 225 tb_m279 23 [some (.inr (.inr (some 0))), some (.inr (.inr (some 27))), some (.inr (.inr (some 84))), some (.inr (.inr (some 136))), some (.inl l4), d5, d6, d7] [] (hp L s c e) (oL L B q)) : ∀ (c : Nat) (e : Nat → Nat) (d5 d6 d7 : Option ax_V) (l4 t0 : Int) (s : Sg) (q : Int), c ≤ bF → j_279_175 L k23 l4 t0 s = some q → RuP 225 tb_m279 175 [some (.inr (.inr (some 0))), some (.inr (.inr (some 27))), some (.inr (.inr (some 84))), some (.inr (.inr (some 136))), some (.inl l4), d5, d6, d7] [.inl t0] (hp L s c e) (oL L B q) := by
  intro c e d5 d6 d7 l4 t0 s q hc h
  unfold j_279_175 at h
  refine RuP.step (pc' := 177) (ls' := [some (.inr (.inr (some 0))), some (.inr (.inr (some 27))), some (.inr (.inr (some 84))), some (.inr (.inr (some 136))), some (.inl l4), some (.inl t0), d6, d7]) (st' := []) (h1 := hp L s c e) rfl ?_
  refine RuP.step (pc' := 178) (ls' := [some (.inr (.inr (some 0))), some (.inr (.inr (some 27))), some (.inr (.inr (some 84))), some (.inr (.inr (some 136))), some (.inl l4), some (.inl t0), d6, d7]) (st' := [.inr (.inr (some 84))]) (h1 := hp L s c e) rfl ?_
  refine RuP.step (pc' := 179) (ls' := [some (.inr (.inr (some 0))), some (.inr (.inr (some 27))), some (.inr (.inr (some 84))), some (.inr (.inr (some 136))), some (.inl l4), some (.inl t0), d6, d7]) (st' := [.inr (.inr (some 0)), .inr (.inr (some 84))]) (h1 := hp L s c e) rfl ?_
  refine RuP.step (pc' := 181) (ls' := [some (.inr (.inr (some 0))), some (.inr (.inr (some 27))), some (.inr (.inr (some 84))), some (.inr (.inr (some 136))), some (.inl l4), some (.inl t0), d6, d7]) (st' := [.inl l4, .inr (.inr (some 0)), .inr (.inr (some 84))]) (h1 := hp L s c e) rfl ?_
  refine RuP.step (pc' := 182) (ls' := [some (.inr (.inr (some 0))), some (.inr (.inr (some 27))), some (.inr (.inr (some 84))), some (.inr (.inr (some 136))), some (.inl l4), some (.inl t0), d6, d7]) (st' := [.inl 1, .inl l4, .inr (.inr (some 0)), .inr (.inr (some 84))]) (h1 := hp L s c e) rfl ?_
  refine RuP.step (pc' := 183) (ls' := [some (.inr (.inr (some 0))), some (.inr (.inr (some 27))), some (.inr (.inr (some 84))), some (.inr (.inr (some 136))), some (.inl l4), some (.inl t0), d6, d7]) (st' := [.inl (ax_w32 (l4 + 1)), .inr (.inr (some 0)), .inr (.inr (some 84))]) (h1 := hp L s c e) rfl ?_
  obtain ⟨b0, h⟩ := gd_some h
  refine RuP.ald (f := fun t => t == 0) (j := ax_w32 (l4 + 1)) (a := 0) rfl rfl b0.1 b0.2 ?_
  obtain ⟨q4, h1, h⟩ := bd_some h
  refine RuP.cI rfl ((ev_195 h1).up (by decide)) ?_
  refine RuP.step (pc' := 189) (ls' := [some (.inr (.inr (some 0))), some (.inr (.inr (some 27))), some (.inr (.inr (some 84))), some (.inr (.inr (some 136))), some (.inl l4), some (.inl t0), some (.inl q4.1), d7]) (st' := []) (h1 := hp L q4.2 c e) rfl ?_
  refine RuP.step (pc' := 497) (ls' := [some (.inr (.inr (some 0))), some (.inr (.inr (some 27))), some (.inr (.inr (some 84))), some (.inr (.inr (some 136))), some (.inl l4), some (.inl t0), some (.inl q4.1), d7]) (st' := []) (h1 := hp L q4.2 c e) rfl ?_
  exact bl_279_497 hB hk23 _ _ _ _ _ _ _ _ (by omega) h
noncomputable def j_279_197 (L : Nat) (k23 : (Int → Sg → Option Int)) (l4 t0 : Int) (s : Sg) : Option Int :=
  ((f_196 s).bind fun q6 =>
  j_279_497 L k23 l4 q6.2)
set_option maxRecDepth 20000 in
theorem bl_279_197 {L B bF : Nat} {k23 : (Int → Sg → Option Int)} (hB : bF ≤ B) (hk23 : ∀ (c : Nat) (e : Nat → Nat) (d5 d6 d7 : Option ax_V) (l4 : Int) (s : Sg) (q : Int), c ≤ bF → k23 l4 s = some q → RuP 225 tb_m279 23 [some (.inr (.inr (some 0))), some (.inr (.inr (some 27))), some (.inr (.inr (some 84))), some (.inr (.inr (some 136))), some (.inl l4), d5, d6, d7] [] (hp L s c e) (oL L B q)) : ∀ (c : Nat) (e : Nat → Nat) (d5 d6 d7 : Option ax_V) (l4 t0 : Int) (s : Sg) (q : Int), c ≤ bF → j_279_197 L k23 l4 t0 s = some q → RuP 225 tb_m279 197 [some (.inr (.inr (some 0))), some (.inr (.inr (some 27))), some (.inr (.inr (some 84))), some (.inr (.inr (some 136))), some (.inl l4), d5, d6, d7] [.inl t0] (hp L s c e) (oL L B q) := by
  intro c e d5 d6 d7 l4 t0 s q hc h
  unfold j_279_197 at h
  refine RuP.step (pc' := 199) (ls' := [some (.inr (.inr (some 0))), some (.inr (.inr (some 27))), some (.inr (.inr (some 84))), some (.inr (.inr (some 136))), some (.inl l4), some (.inl t0), d6, d7]) (st' := []) (h1 := hp L s c e) rfl ?_
  refine RuP.step (pc' := 200) (ls' := [some (.inr (.inr (some 0))), some (.inr (.inr (some 27))), some (.inr (.inr (some 84))), some (.inr (.inr (some 136))), some (.inl l4), some (.inl t0), d6, d7]) (st' := [.inr (.inr (some 84))]) (h1 := hp L s c e) rfl ?_
  obtain ⟨q6, h1, h⟩ := bd_some h
  refine RuP.cI rfl ((ev_196 h1).up (by decide)) ?_
  refine RuP.step (pc' := 205) (ls' := [some (.inr (.inr (some 0))), some (.inr (.inr (some 27))), some (.inr (.inr (some 84))), some (.inr (.inr (some 136))), some (.inl l4), some (.inl t0), some (.inl q6.1), d7]) (st' := []) (h1 := hp L q6.2 c e) rfl ?_
  refine RuP.step (pc' := 497) (ls' := [some (.inr (.inr (some 0))), some (.inr (.inr (some 27))), some (.inr (.inr (some 84))), some (.inr (.inr (some 136))), some (.inl l4), some (.inl t0), some (.inl q6.1), d7]) (st' := []) (h1 := hp L q6.2 c e) rfl ?_
  exact bl_279_497 hB hk23 _ _ _ _ _ _ _ _ (by omega) h
noncomputable def j_279_219 (L : Nat) (k23 : (Int → Sg → Option Int)) (l4 t0 : Int) (s : Sg) : Option Int :=
  (gd (0 ≤ ax_w32 (l4 + 1) ∧ ax_w32 (l4 + 1) < L) (
  ((f_197 (s 0 ((ax_w32 (l4 + 1)).toNat)) s).bind fun q8 =>
  j_279_497 L k23 l4 q8.2)))
set_option maxRecDepth 20000 in
theorem bl_279_219 {L B bF : Nat} {k23 : (Int → Sg → Option Int)} (hB : bF ≤ B) (hk23 : ∀ (c : Nat) (e : Nat → Nat) (d5 d6 d7 : Option ax_V) (l4 : Int) (s : Sg) (q : Int), c ≤ bF → k23 l4 s = some q → RuP 225 tb_m279 23 [some (.inr (.inr (some 0))), some (.inr (.inr (some 27))), some (.inr (.inr (some 84))), some (.inr (.inr (some 136))), some (.inl l4), d5, d6, d7] [] (hp L s c e) (oL L B q)) : ∀ (c : Nat) (e : Nat → Nat) (d5 d6 d7 : Option ax_V) (l4 t0 : Int) (s : Sg) (q : Int), c ≤ bF → j_279_219 L k23 l4 t0 s = some q → RuP 225 tb_m279 219 [some (.inr (.inr (some 0))), some (.inr (.inr (some 27))), some (.inr (.inr (some 84))), some (.inr (.inr (some 136))), some (.inl l4), d5, d6, d7] [.inl t0] (hp L s c e) (oL L B q) := by
  intro c e d5 d6 d7 l4 t0 s q hc h
  unfold j_279_219 at h
  refine RuP.step (pc' := 221) (ls' := [some (.inr (.inr (some 0))), some (.inr (.inr (some 27))), some (.inr (.inr (some 84))), some (.inr (.inr (some 136))), some (.inl l4), some (.inl t0), d6, d7]) (st' := []) (h1 := hp L s c e) rfl ?_
  refine RuP.step (pc' := 222) (ls' := [some (.inr (.inr (some 0))), some (.inr (.inr (some 27))), some (.inr (.inr (some 84))), some (.inr (.inr (some 136))), some (.inl l4), some (.inl t0), d6, d7]) (st' := [.inr (.inr (some 84))]) (h1 := hp L s c e) rfl ?_
  refine RuP.step (pc' := 223) (ls' := [some (.inr (.inr (some 0))), some (.inr (.inr (some 27))), some (.inr (.inr (some 84))), some (.inr (.inr (some 136))), some (.inl l4), some (.inl t0), d6, d7]) (st' := [.inr (.inr (some 0)), .inr (.inr (some 84))]) (h1 := hp L s c e) rfl ?_
  refine RuP.step (pc' := 225) (ls' := [some (.inr (.inr (some 0))), some (.inr (.inr (some 27))), some (.inr (.inr (some 84))), some (.inr (.inr (some 136))), some (.inl l4), some (.inl t0), d6, d7]) (st' := [.inl l4, .inr (.inr (some 0)), .inr (.inr (some 84))]) (h1 := hp L s c e) rfl ?_
  refine RuP.step (pc' := 226) (ls' := [some (.inr (.inr (some 0))), some (.inr (.inr (some 27))), some (.inr (.inr (some 84))), some (.inr (.inr (some 136))), some (.inl l4), some (.inl t0), d6, d7]) (st' := [.inl 1, .inl l4, .inr (.inr (some 0)), .inr (.inr (some 84))]) (h1 := hp L s c e) rfl ?_
  refine RuP.step (pc' := 227) (ls' := [some (.inr (.inr (some 0))), some (.inr (.inr (some 27))), some (.inr (.inr (some 84))), some (.inr (.inr (some 136))), some (.inl l4), some (.inl t0), d6, d7]) (st' := [.inl (ax_w32 (l4 + 1)), .inr (.inr (some 0)), .inr (.inr (some 84))]) (h1 := hp L s c e) rfl ?_
  obtain ⟨b0, h⟩ := gd_some h
  refine RuP.ald (f := fun t => t == 0) (j := ax_w32 (l4 + 1)) (a := 0) rfl rfl b0.1 b0.2 ?_
  obtain ⟨q8, h1, h⟩ := bd_some h
  refine RuP.cI rfl ((ev_197 h1).up (by decide)) ?_
  refine RuP.step (pc' := 233) (ls' := [some (.inr (.inr (some 0))), some (.inr (.inr (some 27))), some (.inr (.inr (some 84))), some (.inr (.inr (some 136))), some (.inl l4), some (.inl t0), some (.inl q8.1), d7]) (st' := []) (h1 := hp L q8.2 c e) rfl ?_
  refine RuP.step (pc' := 497) (ls' := [some (.inr (.inr (some 0))), some (.inr (.inr (some 27))), some (.inr (.inr (some 84))), some (.inr (.inr (some 136))), some (.inl l4), some (.inl t0), some (.inl q8.1), d7]) (st' := []) (h1 := hp L q8.2 c e) rfl ?_
  exact bl_279_497 hB hk23 _ _ _ _ _ _ _ _ (by omega) h
noncomputable def j_279_253 (L : Nat) (k23 : (Int → Sg → Option Int)) (l4 t0 : Int) (s : Sg) : Option Int :=
  (gd (0 ≤ ax_w32 (l4 + 1) ∧ ax_w32 (l4 + 1) < L) (
  (gd (0 ≤ ax_w32 (l4 + 2) ∧ ax_w32 (l4 + 2) < L) (
  ((f_198 (s 0 ((ax_w32 (l4 + 1)).toNat)) (s 0 ((ax_w32 (l4 + 2)).toNat)) s).bind fun q10 =>
  j_279_497 L k23 l4 q10.2)))))
set_option maxRecDepth 20000 in
theorem bl_279_253 {L B bF : Nat} {k23 : (Int → Sg → Option Int)} (hB : bF ≤ B) (hk23 : ∀ (c : Nat) (e : Nat → Nat) (d5 d6 d7 : Option ax_V) (l4 : Int) (s : Sg) (q : Int), c ≤ bF → k23 l4 s = some q → RuP 225 tb_m279 23 [some (.inr (.inr (some 0))), some (.inr (.inr (some 27))), some (.inr (.inr (some 84))), some (.inr (.inr (some 136))), some (.inl l4), d5, d6, d7] [] (hp L s c e) (oL L B q)) : ∀ (c : Nat) (e : Nat → Nat) (d5 d6 d7 : Option ax_V) (l4 t0 : Int) (s : Sg) (q : Int), c ≤ bF → j_279_253 L k23 l4 t0 s = some q → RuP 225 tb_m279 253 [some (.inr (.inr (some 0))), some (.inr (.inr (some 27))), some (.inr (.inr (some 84))), some (.inr (.inr (some 136))), some (.inl l4), d5, d6, d7] [.inl t0] (hp L s c e) (oL L B q) := by
  intro c e d5 d6 d7 l4 t0 s q hc h
  unfold j_279_253 at h
  refine RuP.step (pc' := 255) (ls' := [some (.inr (.inr (some 0))), some (.inr (.inr (some 27))), some (.inr (.inr (some 84))), some (.inr (.inr (some 136))), some (.inl l4), some (.inl t0), d6, d7]) (st' := []) (h1 := hp L s c e) rfl ?_
  refine RuP.step (pc' := 256) (ls' := [some (.inr (.inr (some 0))), some (.inr (.inr (some 27))), some (.inr (.inr (some 84))), some (.inr (.inr (some 136))), some (.inl l4), some (.inl t0), d6, d7]) (st' := [.inr (.inr (some 84))]) (h1 := hp L s c e) rfl ?_
  refine RuP.step (pc' := 257) (ls' := [some (.inr (.inr (some 0))), some (.inr (.inr (some 27))), some (.inr (.inr (some 84))), some (.inr (.inr (some 136))), some (.inl l4), some (.inl t0), d6, d7]) (st' := [.inr (.inr (some 0)), .inr (.inr (some 84))]) (h1 := hp L s c e) rfl ?_
  refine RuP.step (pc' := 259) (ls' := [some (.inr (.inr (some 0))), some (.inr (.inr (some 27))), some (.inr (.inr (some 84))), some (.inr (.inr (some 136))), some (.inl l4), some (.inl t0), d6, d7]) (st' := [.inl l4, .inr (.inr (some 0)), .inr (.inr (some 84))]) (h1 := hp L s c e) rfl ?_
  refine RuP.step (pc' := 260) (ls' := [some (.inr (.inr (some 0))), some (.inr (.inr (some 27))), some (.inr (.inr (some 84))), some (.inr (.inr (some 136))), some (.inl l4), some (.inl t0), d6, d7]) (st' := [.inl 1, .inl l4, .inr (.inr (some 0)), .inr (.inr (some 84))]) (h1 := hp L s c e) rfl ?_
  refine RuP.step (pc' := 261) (ls' := [some (.inr (.inr (some 0))), some (.inr (.inr (some 27))), some (.inr (.inr (some 84))), some (.inr (.inr (some 136))), some (.inl l4), some (.inl t0), d6, d7]) (st' := [.inl (ax_w32 (l4 + 1)), .inr (.inr (some 0)), .inr (.inr (some 84))]) (h1 := hp L s c e) rfl ?_
  obtain ⟨b0, h⟩ := gd_some h
  refine RuP.ald (f := fun t => t == 0) (j := ax_w32 (l4 + 1)) (a := 0) rfl rfl b0.1 b0.2 ?_
  refine RuP.step (pc' := 263) (ls' := [some (.inr (.inr (some 0))), some (.inr (.inr (some 27))), some (.inr (.inr (some 84))), some (.inr (.inr (some 136))), some (.inl l4), some (.inl t0), d6, d7]) (st' := [.inr (.inr (some 0)), .inl (s 0 ((ax_w32 (l4 + 1)).toNat)), .inr (.inr (some 84))]) (h1 := hp L s c e) rfl ?_
  refine RuP.step (pc' := 265) (ls' := [some (.inr (.inr (some 0))), some (.inr (.inr (some 27))), some (.inr (.inr (some 84))), some (.inr (.inr (some 136))), some (.inl l4), some (.inl t0), d6, d7]) (st' := [.inl l4, .inr (.inr (some 0)), .inl (s 0 ((ax_w32 (l4 + 1)).toNat)), .inr (.inr (some 84))]) (h1 := hp L s c e) rfl ?_
  refine RuP.step (pc' := 266) (ls' := [some (.inr (.inr (some 0))), some (.inr (.inr (some 27))), some (.inr (.inr (some 84))), some (.inr (.inr (some 136))), some (.inl l4), some (.inl t0), d6, d7]) (st' := [.inl 2, .inl l4, .inr (.inr (some 0)), .inl (s 0 ((ax_w32 (l4 + 1)).toNat)), .inr (.inr (some 84))]) (h1 := hp L s c e) rfl ?_
  refine RuP.step (pc' := 267) (ls' := [some (.inr (.inr (some 0))), some (.inr (.inr (some 27))), some (.inr (.inr (some 84))), some (.inr (.inr (some 136))), some (.inl l4), some (.inl t0), d6, d7]) (st' := [.inl (ax_w32 (l4 + 2)), .inr (.inr (some 0)), .inl (s 0 ((ax_w32 (l4 + 1)).toNat)), .inr (.inr (some 84))]) (h1 := hp L s c e) rfl ?_
  obtain ⟨b1, h⟩ := gd_some h
  refine RuP.ald (f := fun t => t == 0) (j := ax_w32 (l4 + 2)) (a := 0) rfl rfl b1.1 b1.2 ?_
  obtain ⟨q10, h1, h⟩ := bd_some h
  refine RuP.cI rfl ((ev_198 h1).up (by decide)) ?_
  refine RuP.step (pc' := 273) (ls' := [some (.inr (.inr (some 0))), some (.inr (.inr (some 27))), some (.inr (.inr (some 84))), some (.inr (.inr (some 136))), some (.inl l4), some (.inl t0), some (.inl q10.1), d7]) (st' := []) (h1 := hp L q10.2 c e) rfl ?_
  refine RuP.step (pc' := 497) (ls' := [some (.inr (.inr (some 0))), some (.inr (.inr (some 27))), some (.inr (.inr (some 84))), some (.inr (.inr (some 136))), some (.inl l4), some (.inl t0), some (.inl q10.1), d7]) (st' := []) (h1 := hp L q10.2 c e) rfl ?_
  exact bl_279_497 hB hk23 _ _ _ _ _ _ _ _ (by omega) h
noncomputable def j_279_293 (L : Nat) (k23 : (Int → Sg → Option Int)) (l4 t0 : Int) (s : Sg) : Option Int :=
  (gd (0 ≤ ax_w32 (l4 + 1) ∧ ax_w32 (l4 + 1) < L) (
  (gd (0 ≤ ax_w32 (l4 + 2) ∧ ax_w32 (l4 + 2) < L) (
  ((f_199 (s 0 ((ax_w32 (l4 + 1)).toNat)) (s 0 ((ax_w32 (l4 + 2)).toNat)) s).bind fun q12 =>
  j_279_497 L k23 l4 q12.2)))))
set_option maxRecDepth 20000 in
theorem bl_279_293 {L B bF : Nat} {k23 : (Int → Sg → Option Int)} (hB : bF ≤ B) (hk23 : ∀ (c : Nat) (e : Nat → Nat) (d5 d6 d7 : Option ax_V) (l4 : Int) (s : Sg) (q : Int), c ≤ bF → k23 l4 s = some q → RuP 225 tb_m279 23 [some (.inr (.inr (some 0))), some (.inr (.inr (some 27))), some (.inr (.inr (some 84))), some (.inr (.inr (some 136))), some (.inl l4), d5, d6, d7] [] (hp L s c e) (oL L B q)) : ∀ (c : Nat) (e : Nat → Nat) (d5 d6 d7 : Option ax_V) (l4 t0 : Int) (s : Sg) (q : Int), c ≤ bF → j_279_293 L k23 l4 t0 s = some q → RuP 225 tb_m279 293 [some (.inr (.inr (some 0))), some (.inr (.inr (some 27))), some (.inr (.inr (some 84))), some (.inr (.inr (some 136))), some (.inl l4), d5, d6, d7] [.inl t0] (hp L s c e) (oL L B q) := by
  intro c e d5 d6 d7 l4 t0 s q hc h
  unfold j_279_293 at h
  refine RuP.step (pc' := 295) (ls' := [some (.inr (.inr (some 0))), some (.inr (.inr (some 27))), some (.inr (.inr (some 84))), some (.inr (.inr (some 136))), some (.inl l4), some (.inl t0), d6, d7]) (st' := []) (h1 := hp L s c e) rfl ?_
  refine RuP.step (pc' := 296) (ls' := [some (.inr (.inr (some 0))), some (.inr (.inr (some 27))), some (.inr (.inr (some 84))), some (.inr (.inr (some 136))), some (.inl l4), some (.inl t0), d6, d7]) (st' := [.inr (.inr (some 84))]) (h1 := hp L s c e) rfl ?_
  refine RuP.step (pc' := 297) (ls' := [some (.inr (.inr (some 0))), some (.inr (.inr (some 27))), some (.inr (.inr (some 84))), some (.inr (.inr (some 136))), some (.inl l4), some (.inl t0), d6, d7]) (st' := [.inr (.inr (some 0)), .inr (.inr (some 84))]) (h1 := hp L s c e) rfl ?_
  refine RuP.step (pc' := 299) (ls' := [some (.inr (.inr (some 0))), some (.inr (.inr (some 27))), some (.inr (.inr (some 84))), some (.inr (.inr (some 136))), some (.inl l4), some (.inl t0), d6, d7]) (st' := [.inl l4, .inr (.inr (some 0)), .inr (.inr (some 84))]) (h1 := hp L s c e) rfl ?_
  refine RuP.step (pc' := 300) (ls' := [some (.inr (.inr (some 0))), some (.inr (.inr (some 27))), some (.inr (.inr (some 84))), some (.inr (.inr (some 136))), some (.inl l4), some (.inl t0), d6, d7]) (st' := [.inl 1, .inl l4, .inr (.inr (some 0)), .inr (.inr (some 84))]) (h1 := hp L s c e) rfl ?_
  refine RuP.step (pc' := 301) (ls' := [some (.inr (.inr (some 0))), some (.inr (.inr (some 27))), some (.inr (.inr (some 84))), some (.inr (.inr (some 136))), some (.inl l4), some (.inl t0), d6, d7]) (st' := [.inl (ax_w32 (l4 + 1)), .inr (.inr (some 0)), .inr (.inr (some 84))]) (h1 := hp L s c e) rfl ?_
  obtain ⟨b0, h⟩ := gd_some h
  refine RuP.ald (f := fun t => t == 0) (j := ax_w32 (l4 + 1)) (a := 0) rfl rfl b0.1 b0.2 ?_
  refine RuP.step (pc' := 303) (ls' := [some (.inr (.inr (some 0))), some (.inr (.inr (some 27))), some (.inr (.inr (some 84))), some (.inr (.inr (some 136))), some (.inl l4), some (.inl t0), d6, d7]) (st' := [.inr (.inr (some 0)), .inl (s 0 ((ax_w32 (l4 + 1)).toNat)), .inr (.inr (some 84))]) (h1 := hp L s c e) rfl ?_
  refine RuP.step (pc' := 305) (ls' := [some (.inr (.inr (some 0))), some (.inr (.inr (some 27))), some (.inr (.inr (some 84))), some (.inr (.inr (some 136))), some (.inl l4), some (.inl t0), d6, d7]) (st' := [.inl l4, .inr (.inr (some 0)), .inl (s 0 ((ax_w32 (l4 + 1)).toNat)), .inr (.inr (some 84))]) (h1 := hp L s c e) rfl ?_
  refine RuP.step (pc' := 306) (ls' := [some (.inr (.inr (some 0))), some (.inr (.inr (some 27))), some (.inr (.inr (some 84))), some (.inr (.inr (some 136))), some (.inl l4), some (.inl t0), d6, d7]) (st' := [.inl 2, .inl l4, .inr (.inr (some 0)), .inl (s 0 ((ax_w32 (l4 + 1)).toNat)), .inr (.inr (some 84))]) (h1 := hp L s c e) rfl ?_
  refine RuP.step (pc' := 307) (ls' := [some (.inr (.inr (some 0))), some (.inr (.inr (some 27))), some (.inr (.inr (some 84))), some (.inr (.inr (some 136))), some (.inl l4), some (.inl t0), d6, d7]) (st' := [.inl (ax_w32 (l4 + 2)), .inr (.inr (some 0)), .inl (s 0 ((ax_w32 (l4 + 1)).toNat)), .inr (.inr (some 84))]) (h1 := hp L s c e) rfl ?_
  obtain ⟨b1, h⟩ := gd_some h
  refine RuP.ald (f := fun t => t == 0) (j := ax_w32 (l4 + 2)) (a := 0) rfl rfl b1.1 b1.2 ?_
  obtain ⟨q12, h1, h⟩ := bd_some h
  refine RuP.cJ rfl ((ev_199 h1).up (by decide)) ?_
  refine RuP.step (pc' := 313) (ls' := [some (.inr (.inr (some 0))), some (.inr (.inr (some 27))), some (.inr (.inr (some 84))), some (.inr (.inr (some 136))), some (.inl l4), some (.inl t0), some (.inr (.inl q12.1)), none]) (st' := []) (h1 := hp L q12.2 c e) rfl ?_
  refine RuP.step (pc' := 497) (ls' := [some (.inr (.inr (some 0))), some (.inr (.inr (some 27))), some (.inr (.inr (some 84))), some (.inr (.inr (some 136))), some (.inl l4), some (.inl t0), some (.inr (.inl q12.1)), none]) (st' := []) (h1 := hp L q12.2 c e) rfl ?_
  exact bl_279_497 hB hk23 _ _ _ _ _ _ _ _ (by omega) h
noncomputable def j_279_333 (L : Nat) (k23 : (Int → Sg → Option Int)) (l4 t0 : Int) (s : Sg) : Option Int :=
  (gd (0 ≤ ax_w32 (l4 + 1) ∧ ax_w32 (l4 + 1) < L) (
  (gd (0 ≤ ax_w32 (l4 + 2) ∧ ax_w32 (l4 + 2) < L) (
  ((f_200 (s 0 ((ax_w32 (l4 + 1)).toNat)) (s 0 ((ax_w32 (l4 + 2)).toNat)) s).bind fun q14 =>
  j_279_497 L k23 l4 q14.2)))))
set_option maxRecDepth 20000 in
theorem bl_279_333 {L B bF : Nat} {k23 : (Int → Sg → Option Int)} (hB : bF ≤ B) (hk23 : ∀ (c : Nat) (e : Nat → Nat) (d5 d6 d7 : Option ax_V) (l4 : Int) (s : Sg) (q : Int), c ≤ bF → k23 l4 s = some q → RuP 225 tb_m279 23 [some (.inr (.inr (some 0))), some (.inr (.inr (some 27))), some (.inr (.inr (some 84))), some (.inr (.inr (some 136))), some (.inl l4), d5, d6, d7] [] (hp L s c e) (oL L B q)) : ∀ (c : Nat) (e : Nat → Nat) (d5 d6 d7 : Option ax_V) (l4 t0 : Int) (s : Sg) (q : Int), c ≤ bF → j_279_333 L k23 l4 t0 s = some q → RuP 225 tb_m279 333 [some (.inr (.inr (some 0))), some (.inr (.inr (some 27))), some (.inr (.inr (some 84))), some (.inr (.inr (some 136))), some (.inl l4), d5, d6, d7] [.inl t0] (hp L s c e) (oL L B q) := by
  intro c e d5 d6 d7 l4 t0 s q hc h
  unfold j_279_333 at h
  refine RuP.step (pc' := 335) (ls' := [some (.inr (.inr (some 0))), some (.inr (.inr (some 27))), some (.inr (.inr (some 84))), some (.inr (.inr (some 136))), some (.inl l4), some (.inl t0), d6, d7]) (st' := []) (h1 := hp L s c e) rfl ?_
  refine RuP.step (pc' := 336) (ls' := [some (.inr (.inr (some 0))), some (.inr (.inr (some 27))), some (.inr (.inr (some 84))), some (.inr (.inr (some 136))), some (.inl l4), some (.inl t0), d6, d7]) (st' := [.inr (.inr (some 84))]) (h1 := hp L s c e) rfl ?_
  refine RuP.step (pc' := 337) (ls' := [some (.inr (.inr (some 0))), some (.inr (.inr (some 27))), some (.inr (.inr (some 84))), some (.inr (.inr (some 136))), some (.inl l4), some (.inl t0), d6, d7]) (st' := [.inr (.inr (some 0)), .inr (.inr (some 84))]) (h1 := hp L s c e) rfl ?_
  refine RuP.step (pc' := 339) (ls' := [some (.inr (.inr (some 0))), some (.inr (.inr (some 27))), some (.inr (.inr (some 84))), some (.inr (.inr (some 136))), some (.inl l4), some (.inl t0), d6, d7]) (st' := [.inl l4, .inr (.inr (some 0)), .inr (.inr (some 84))]) (h1 := hp L s c e) rfl ?_
  refine RuP.step (pc' := 340) (ls' := [some (.inr (.inr (some 0))), some (.inr (.inr (some 27))), some (.inr (.inr (some 84))), some (.inr (.inr (some 136))), some (.inl l4), some (.inl t0), d6, d7]) (st' := [.inl 1, .inl l4, .inr (.inr (some 0)), .inr (.inr (some 84))]) (h1 := hp L s c e) rfl ?_
  refine RuP.step (pc' := 341) (ls' := [some (.inr (.inr (some 0))), some (.inr (.inr (some 27))), some (.inr (.inr (some 84))), some (.inr (.inr (some 136))), some (.inl l4), some (.inl t0), d6, d7]) (st' := [.inl (ax_w32 (l4 + 1)), .inr (.inr (some 0)), .inr (.inr (some 84))]) (h1 := hp L s c e) rfl ?_
  obtain ⟨b0, h⟩ := gd_some h
  refine RuP.ald (f := fun t => t == 0) (j := ax_w32 (l4 + 1)) (a := 0) rfl rfl b0.1 b0.2 ?_
  refine RuP.step (pc' := 343) (ls' := [some (.inr (.inr (some 0))), some (.inr (.inr (some 27))), some (.inr (.inr (some 84))), some (.inr (.inr (some 136))), some (.inl l4), some (.inl t0), d6, d7]) (st' := [.inr (.inr (some 0)), .inl (s 0 ((ax_w32 (l4 + 1)).toNat)), .inr (.inr (some 84))]) (h1 := hp L s c e) rfl ?_
  refine RuP.step (pc' := 345) (ls' := [some (.inr (.inr (some 0))), some (.inr (.inr (some 27))), some (.inr (.inr (some 84))), some (.inr (.inr (some 136))), some (.inl l4), some (.inl t0), d6, d7]) (st' := [.inl l4, .inr (.inr (some 0)), .inl (s 0 ((ax_w32 (l4 + 1)).toNat)), .inr (.inr (some 84))]) (h1 := hp L s c e) rfl ?_
  refine RuP.step (pc' := 346) (ls' := [some (.inr (.inr (some 0))), some (.inr (.inr (some 27))), some (.inr (.inr (some 84))), some (.inr (.inr (some 136))), some (.inl l4), some (.inl t0), d6, d7]) (st' := [.inl 2, .inl l4, .inr (.inr (some 0)), .inl (s 0 ((ax_w32 (l4 + 1)).toNat)), .inr (.inr (some 84))]) (h1 := hp L s c e) rfl ?_
  refine RuP.step (pc' := 347) (ls' := [some (.inr (.inr (some 0))), some (.inr (.inr (some 27))), some (.inr (.inr (some 84))), some (.inr (.inr (some 136))), some (.inl l4), some (.inl t0), d6, d7]) (st' := [.inl (ax_w32 (l4 + 2)), .inr (.inr (some 0)), .inl (s 0 ((ax_w32 (l4 + 1)).toNat)), .inr (.inr (some 84))]) (h1 := hp L s c e) rfl ?_
  obtain ⟨b1, h⟩ := gd_some h
  refine RuP.ald (f := fun t => t == 0) (j := ax_w32 (l4 + 2)) (a := 0) rfl rfl b1.1 b1.2 ?_
  obtain ⟨q14, h1, h⟩ := bd_some h
  refine RuP.cI rfl ((ev_200 h1).up (by decide)) ?_
  refine RuP.step (pc' := 353) (ls' := [some (.inr (.inr (some 0))), some (.inr (.inr (some 27))), some (.inr (.inr (some 84))), some (.inr (.inr (some 136))), some (.inl l4), some (.inl t0), some (.inl q14.1), d7]) (st' := []) (h1 := hp L q14.2 c e) rfl ?_
  refine RuP.step (pc' := 497) (ls' := [some (.inr (.inr (some 0))), some (.inr (.inr (some 27))), some (.inr (.inr (some 84))), some (.inr (.inr (some 136))), some (.inl l4), some (.inl t0), some (.inl q14.1), d7]) (st' := []) (h1 := hp L q14.2 c e) rfl ?_
  exact bl_279_497 hB hk23 _ _ _ _ _ _ _ _ (by omega) h
noncomputable def j_279_409 (L : Nat) (k23 : (Int → Sg → Option Int)) (l4 : Int) (s : Sg) : Option Int :=
  j_279_497 L k23 l4 s
set_option maxRecDepth 20000 in
theorem bl_279_409 {L B bF : Nat} {k23 : (Int → Sg → Option Int)} (hB : bF ≤ B) (hk23 : ∀ (c : Nat) (e : Nat → Nat) (d5 d6 d7 : Option ax_V) (l4 : Int) (s : Sg) (q : Int), c ≤ bF → k23 l4 s = some q → RuP 225 tb_m279 23 [some (.inr (.inr (some 0))), some (.inr (.inr (some 27))), some (.inr (.inr (some 84))), some (.inr (.inr (some 136))), some (.inl l4), d5, d6, d7] [] (hp L s c e) (oL L B q)) : ∀ (c : Nat) (e : Nat → Nat) (d7 : Option ax_V) (z5 z6 : Int) (l4 : Int) (s : Sg) (q : Int), c ≤ bF → j_279_409 L k23 l4 s = some q → RuP 225 tb_m279 409 [some (.inr (.inr (some 0))), some (.inr (.inr (some 27))), some (.inr (.inr (some 84))), some (.inr (.inr (some 136))), some (.inl l4), some (.inl z5), some (.inl z6), d7] [] (hp L s c e) (oL L B q) := by
  intro c e d7 z5 z6 l4 s q hc h
  unfold j_279_409 at h
  refine RuP.step (pc' := 497) (ls' := [some (.inr (.inr (some 0))), some (.inr (.inr (some 27))), some (.inr (.inr (some 84))), some (.inr (.inr (some 136))), some (.inl l4), some (.inl z5), some (.inl z6), d7]) (st' := []) (h1 := hp L s c e) rfl ?_
  exact bl_279_497 hB hk23 _ _ _ _ _ _ _ _ (by omega) h
noncomputable def j_279_367 (L : Nat) (k23 : (Int → Sg → Option Int)) (l4 t0 : Int) (s : Sg) : Option Int :=
  (gd (0 ≤ ax_w32 (l4 + 1) ∧ ax_w32 (l4 + 1) < L) (
  ((f_201 (s 0 ((ax_w32 (l4 + 1)).toNat)) s).bind fun q16 =>
  (if f_194 q16.2 = t0 then
    (if ¬ t0 = 0 then
      j_279_409 L k23 l4 q16.2
    else
      (if ax_cmp (q16.2 136 ((0 : Int).toNat)) q16.1 = 0 then
        j_279_409 L k23 l4 q16.2
      else
        some 0))
  else
    some 0))))
set_option maxRecDepth 20000 in
theorem bl_279_367 {L B bF : Nat} {k23 : (Int → Sg → Option Int)} (hB : bF ≤ B) (hk23 : ∀ (c : Nat) (e : Nat → Nat) (d5 d6 d7 : Option ax_V) (l4 : Int) (s : Sg) (q : Int), c ≤ bF → k23 l4 s = some q → RuP 225 tb_m279 23 [some (.inr (.inr (some 0))), some (.inr (.inr (some 27))), some (.inr (.inr (some 84))), some (.inr (.inr (some 136))), some (.inl l4), d5, d6, d7] [] (hp L s c e) (oL L B q)) : ∀ (c : Nat) (e : Nat → Nat) (d5 d6 d7 : Option ax_V) (l4 t0 : Int) (s : Sg) (q : Int), c ≤ bF → j_279_367 L k23 l4 t0 s = some q → RuP 225 tb_m279 367 [some (.inr (.inr (some 0))), some (.inr (.inr (some 27))), some (.inr (.inr (some 84))), some (.inr (.inr (some 136))), some (.inl l4), d5, d6, d7] [.inl t0] (hp L s c e) (oL L B q) := by
  intro c e d5 d6 d7 l4 t0 s q hc h
  unfold j_279_367 at h
  refine RuP.step (pc' := 369) (ls' := [some (.inr (.inr (some 0))), some (.inr (.inr (some 27))), some (.inr (.inr (some 84))), some (.inr (.inr (some 136))), some (.inl l4), some (.inl t0), d6, d7]) (st' := []) (h1 := hp L s c e) rfl ?_
  refine RuP.step (pc' := 370) (ls' := [some (.inr (.inr (some 0))), some (.inr (.inr (some 27))), some (.inr (.inr (some 84))), some (.inr (.inr (some 136))), some (.inl l4), some (.inl t0), d6, d7]) (st' := [.inr (.inr (some 84))]) (h1 := hp L s c e) rfl ?_
  refine RuP.step (pc' := 371) (ls' := [some (.inr (.inr (some 0))), some (.inr (.inr (some 27))), some (.inr (.inr (some 84))), some (.inr (.inr (some 136))), some (.inl l4), some (.inl t0), d6, d7]) (st' := [.inr (.inr (some 0)), .inr (.inr (some 84))]) (h1 := hp L s c e) rfl ?_
  refine RuP.step (pc' := 373) (ls' := [some (.inr (.inr (some 0))), some (.inr (.inr (some 27))), some (.inr (.inr (some 84))), some (.inr (.inr (some 136))), some (.inl l4), some (.inl t0), d6, d7]) (st' := [.inl l4, .inr (.inr (some 0)), .inr (.inr (some 84))]) (h1 := hp L s c e) rfl ?_
  refine RuP.step (pc' := 374) (ls' := [some (.inr (.inr (some 0))), some (.inr (.inr (some 27))), some (.inr (.inr (some 84))), some (.inr (.inr (some 136))), some (.inl l4), some (.inl t0), d6, d7]) (st' := [.inl 1, .inl l4, .inr (.inr (some 0)), .inr (.inr (some 84))]) (h1 := hp L s c e) rfl ?_
  refine RuP.step (pc' := 375) (ls' := [some (.inr (.inr (some 0))), some (.inr (.inr (some 27))), some (.inr (.inr (some 84))), some (.inr (.inr (some 136))), some (.inl l4), some (.inl t0), d6, d7]) (st' := [.inl (ax_w32 (l4 + 1)), .inr (.inr (some 0)), .inr (.inr (some 84))]) (h1 := hp L s c e) rfl ?_
  obtain ⟨b0, h⟩ := gd_some h
  refine RuP.ald (f := fun t => t == 0) (j := ax_w32 (l4 + 1)) (a := 0) rfl rfl b0.1 b0.2 ?_
  obtain ⟨q16, h1, h⟩ := bd_some h
  refine RuP.cI rfl ((ev_201 h1).up (by decide)) ?_
  refine RuP.step (pc' := 381) (ls' := [some (.inr (.inr (some 0))), some (.inr (.inr (some 27))), some (.inr (.inr (some 84))), some (.inr (.inr (some 136))), some (.inl l4), some (.inl t0), some (.inl q16.1), d7]) (st' := []) (h1 := hp L q16.2 c e) rfl ?_
  refine RuP.step (pc' := 382) (ls' := [some (.inr (.inr (some 0))), some (.inr (.inr (some 27))), some (.inr (.inr (some 84))), some (.inr (.inr (some 136))), some (.inl l4), some (.inl t0), some (.inl q16.1), d7]) (st' := [.inr (.inr (some 84))]) (h1 := hp L q16.2 c e) rfl ?_
  refine RuP.cI rfl (EvP.i ((ev_194 ).up (by decide))) ?_
  refine RuP.step (pc' := 387) (ls' := [some (.inr (.inr (some 0))), some (.inr (.inr (some 27))), some (.inr (.inr (some 84))), some (.inr (.inr (some 136))), some (.inl l4), some (.inl t0), some (.inl q16.1), d7]) (st' := [.inl t0, .inl (f_194 q16.2)]) (h1 := hp L q16.2 c e) rfl ?_
  by_cases h1 : f_194 q16.2 = t0
  · rw [if_pos h1] at h
    refine RuP.jy rfl h1 ?_
    refine RuP.step (pc' := 394) (ls' := [some (.inr (.inr (some 0))), some (.inr (.inr (some 27))), some (.inr (.inr (some 84))), some (.inr (.inr (some 136))), some (.inl l4), some (.inl t0), some (.inl q16.1), d7]) (st' := [.inl t0]) (h1 := hp L q16.2 c e) rfl ?_
    by_cases h2 : ¬ t0 = 0
    · rw [if_pos h2] at h
      refine RuP.jy rfl h2 ?_
      exact bl_279_409 hB hk23 _ _ _ _ _ _ _ _ (by omega) h
    · rw [if_neg h2] at h
      refine RuP.jn rfl h2 ?_
      refine RuP.step (pc' := 398) (ls' := [some (.inr (.inr (some 0))), some (.inr (.inr (some 27))), some (.inr (.inr (some 84))), some (.inr (.inr (some 136))), some (.inl l4), some (.inl t0), some (.inl q16.1), d7]) (st' := [.inr (.inr (some 136))]) (h1 := hp L q16.2 c e) rfl ?_
      refine RuP.step (pc' := 399) (ls' := [some (.inr (.inr (some 0))), some (.inr (.inr (some 27))), some (.inr (.inr (some 84))), some (.inr (.inr (some 136))), some (.inl l4), some (.inl t0), some (.inl q16.1), d7]) (st' := [.inl 0, .inr (.inr (some 136))]) (h1 := hp L q16.2 c e) rfl ?_
      refine RuP.ald (f := fun t => t == 2) (j := (0 : Int)) (a := 136) rfl rfl (by decide) (show ((0 : Int) : Int) < (1 : Int) by decide) ?_
      refine RuP.step (pc' := 402) (ls' := [some (.inr (.inr (some 0))), some (.inr (.inr (some 27))), some (.inr (.inr (some 84))), some (.inr (.inr (some 136))), some (.inl l4), some (.inl t0), some (.inl q16.1), d7]) (st' := [.inl q16.1, .inr (.inl (q16.2 136 ((0 : Int).toNat)))]) (h1 := hp L q16.2 c e) rfl ?_
      refine RuP.step (pc' := 403) (ls' := [some (.inr (.inr (some 0))), some (.inr (.inr (some 27))), some (.inr (.inr (some 84))), some (.inr (.inr (some 136))), some (.inl l4), some (.inl t0), some (.inl q16.1), d7]) (st' := [.inr (.inl q16.1), .inr (.inl (q16.2 136 ((0 : Int).toNat)))]) (h1 := hp L q16.2 c e) rfl ?_
      refine RuP.step (pc' := 404) (ls' := [some (.inr (.inr (some 0))), some (.inr (.inr (some 27))), some (.inr (.inr (some 84))), some (.inr (.inr (some 136))), some (.inl l4), some (.inl t0), some (.inl q16.1), d7]) (st' := [.inl (ax_cmp (q16.2 136 ((0 : Int).toNat)) q16.1)]) (h1 := hp L q16.2 c e) rfl ?_
      by_cases h3 : ax_cmp (q16.2 136 ((0 : Int).toNat)) q16.1 = 0
      · rw [if_pos h3] at h
        refine RuP.jy rfl h3 ?_
        exact bl_279_409 hB hk23 _ _ _ _ _ _ _ _ (by omega) h
      · rw [if_neg h3] at h
        refine RuP.jn rfl h3 ?_
        refine RuP.step (pc' := 408) (ls' := [some (.inr (.inr (some 0))), some (.inr (.inr (some 27))), some (.inr (.inr (some 84))), some (.inr (.inr (some 136))), some (.inl l4), some (.inl t0), some (.inl q16.1), d7]) (st' := [.inl 0]) (h1 := hp L q16.2 c e) rfl ?_
        cases h
        exact RuP.dL rfl (by omega)
  · rw [if_neg h1] at h
    refine RuP.jn rfl h1 ?_
    refine RuP.step (pc' := 391) (ls' := [some (.inr (.inr (some 0))), some (.inr (.inr (some 27))), some (.inr (.inr (some 84))), some (.inr (.inr (some 136))), some (.inl l4), some (.inl t0), some (.inl q16.1), d7]) (st' := [.inl 0]) (h1 := hp L q16.2 c e) rfl ?_
    cases h
    exact RuP.dL rfl (by omega)
noncomputable def j_279_417 (L : Nat) (k23 : (Int → Sg → Option Int)) (l4 t0 : Int) (s : Sg) : Option Int :=
  ((f_202 s).bind fun q18 =>
  j_279_497 L k23 l4 q18.2)
set_option maxRecDepth 20000 in
theorem bl_279_417 {L B bF : Nat} {k23 : (Int → Sg → Option Int)} (hB : bF ≤ B) (hk23 : ∀ (c : Nat) (e : Nat → Nat) (d5 d6 d7 : Option ax_V) (l4 : Int) (s : Sg) (q : Int), c ≤ bF → k23 l4 s = some q → RuP 225 tb_m279 23 [some (.inr (.inr (some 0))), some (.inr (.inr (some 27))), some (.inr (.inr (some 84))), some (.inr (.inr (some 136))), some (.inl l4), d5, d6, d7] [] (hp L s c e) (oL L B q)) : ∀ (c : Nat) (e : Nat → Nat) (d5 d6 d7 : Option ax_V) (l4 t0 : Int) (s : Sg) (q : Int), c ≤ bF → j_279_417 L k23 l4 t0 s = some q → RuP 225 tb_m279 417 [some (.inr (.inr (some 0))), some (.inr (.inr (some 27))), some (.inr (.inr (some 84))), some (.inr (.inr (some 136))), some (.inl l4), d5, d6, d7] [.inl t0] (hp L s c e) (oL L B q) := by
  intro c e d5 d6 d7 l4 t0 s q hc h
  unfold j_279_417 at h
  refine RuP.step (pc' := 419) (ls' := [some (.inr (.inr (some 0))), some (.inr (.inr (some 27))), some (.inr (.inr (some 84))), some (.inr (.inr (some 136))), some (.inl l4), some (.inl t0), d6, d7]) (st' := []) (h1 := hp L s c e) rfl ?_
  refine RuP.step (pc' := 420) (ls' := [some (.inr (.inr (some 0))), some (.inr (.inr (some 27))), some (.inr (.inr (some 84))), some (.inr (.inr (some 136))), some (.inl l4), some (.inl t0), d6, d7]) (st' := [.inr (.inr (some 84))]) (h1 := hp L s c e) rfl ?_
  obtain ⟨q18, h1, h⟩ := bd_some h
  refine RuP.cI rfl ((ev_202 h1).up (by decide)) ?_
  refine RuP.step (pc' := 425) (ls' := [some (.inr (.inr (some 0))), some (.inr (.inr (some 27))), some (.inr (.inr (some 84))), some (.inr (.inr (some 136))), some (.inl l4), some (.inl t0), some (.inl q18.1), d7]) (st' := []) (h1 := hp L q18.2 c e) rfl ?_
  refine RuP.step (pc' := 497) (ls' := [some (.inr (.inr (some 0))), some (.inr (.inr (some 27))), some (.inr (.inr (some 84))), some (.inr (.inr (some 136))), some (.inl l4), some (.inl t0), some (.inl q18.1), d7]) (st' := []) (h1 := hp L q18.2 c e) rfl ?_
  exact bl_279_497 hB hk23 _ _ _ _ _ _ _ _ (by omega) h
noncomputable def j_279_439 (L : Nat) (k23 : (Int → Sg → Option Int)) (l4 t0 : Int) (s : Sg) : Option Int :=
  (gd (0 ≤ ax_w32 (l4 + 1) ∧ ax_w32 (l4 + 1) < L) (
  ((f_203 (s 0 ((ax_w32 (l4 + 1)).toNat)) s).bind fun q20 =>
  j_279_497 L k23 l4 q20.2)))
set_option maxRecDepth 20000 in
theorem bl_279_439 {L B bF : Nat} {k23 : (Int → Sg → Option Int)} (hB : bF ≤ B) (hk23 : ∀ (c : Nat) (e : Nat → Nat) (d5 d6 d7 : Option ax_V) (l4 : Int) (s : Sg) (q : Int), c ≤ bF → k23 l4 s = some q → RuP 225 tb_m279 23 [some (.inr (.inr (some 0))), some (.inr (.inr (some 27))), some (.inr (.inr (some 84))), some (.inr (.inr (some 136))), some (.inl l4), d5, d6, d7] [] (hp L s c e) (oL L B q)) : ∀ (c : Nat) (e : Nat → Nat) (d5 d6 d7 : Option ax_V) (l4 t0 : Int) (s : Sg) (q : Int), c ≤ bF → j_279_439 L k23 l4 t0 s = some q → RuP 225 tb_m279 439 [some (.inr (.inr (some 0))), some (.inr (.inr (some 27))), some (.inr (.inr (some 84))), some (.inr (.inr (some 136))), some (.inl l4), d5, d6, d7] [.inl t0] (hp L s c e) (oL L B q) := by
  intro c e d5 d6 d7 l4 t0 s q hc h
  unfold j_279_439 at h
  refine RuP.step (pc' := 441) (ls' := [some (.inr (.inr (some 0))), some (.inr (.inr (some 27))), some (.inr (.inr (some 84))), some (.inr (.inr (some 136))), some (.inl l4), some (.inl t0), d6, d7]) (st' := []) (h1 := hp L s c e) rfl ?_
  refine RuP.step (pc' := 442) (ls' := [some (.inr (.inr (some 0))), some (.inr (.inr (some 27))), some (.inr (.inr (some 84))), some (.inr (.inr (some 136))), some (.inl l4), some (.inl t0), d6, d7]) (st' := [.inr (.inr (some 84))]) (h1 := hp L s c e) rfl ?_
  refine RuP.step (pc' := 443) (ls' := [some (.inr (.inr (some 0))), some (.inr (.inr (some 27))), some (.inr (.inr (some 84))), some (.inr (.inr (some 136))), some (.inl l4), some (.inl t0), d6, d7]) (st' := [.inr (.inr (some 0)), .inr (.inr (some 84))]) (h1 := hp L s c e) rfl ?_
  refine RuP.step (pc' := 445) (ls' := [some (.inr (.inr (some 0))), some (.inr (.inr (some 27))), some (.inr (.inr (some 84))), some (.inr (.inr (some 136))), some (.inl l4), some (.inl t0), d6, d7]) (st' := [.inl l4, .inr (.inr (some 0)), .inr (.inr (some 84))]) (h1 := hp L s c e) rfl ?_
  refine RuP.step (pc' := 446) (ls' := [some (.inr (.inr (some 0))), some (.inr (.inr (some 27))), some (.inr (.inr (some 84))), some (.inr (.inr (some 136))), some (.inl l4), some (.inl t0), d6, d7]) (st' := [.inl 1, .inl l4, .inr (.inr (some 0)), .inr (.inr (some 84))]) (h1 := hp L s c e) rfl ?_
  refine RuP.step (pc' := 447) (ls' := [some (.inr (.inr (some 0))), some (.inr (.inr (some 27))), some (.inr (.inr (some 84))), some (.inr (.inr (some 136))), some (.inl l4), some (.inl t0), d6, d7]) (st' := [.inl (ax_w32 (l4 + 1)), .inr (.inr (some 0)), .inr (.inr (some 84))]) (h1 := hp L s c e) rfl ?_
  obtain ⟨b0, h⟩ := gd_some h
  refine RuP.ald (f := fun t => t == 0) (j := ax_w32 (l4 + 1)) (a := 0) rfl rfl b0.1 b0.2 ?_
  obtain ⟨q20, h1, h⟩ := bd_some h
  refine RuP.cI rfl ((ev_203 h1).up (by decide)) ?_
  refine RuP.step (pc' := 453) (ls' := [some (.inr (.inr (some 0))), some (.inr (.inr (some 27))), some (.inr (.inr (some 84))), some (.inr (.inr (some 136))), some (.inl l4), some (.inl t0), some (.inl q20.1), d7]) (st' := []) (h1 := hp L q20.2 c e) rfl ?_
  refine RuP.step (pc' := 497) (ls' := [some (.inr (.inr (some 0))), some (.inr (.inr (some 27))), some (.inr (.inr (some 84))), some (.inr (.inr (some 136))), some (.inl l4), some (.inl t0), some (.inl q20.1), d7]) (st' := []) (h1 := hp L q20.2 c e) rfl ?_
  exact bl_279_497 hB hk23 _ _ _ _ _ _ _ _ (by omega) h
noncomputable def j_279_461 (L : Nat) (k23 : (Int → Sg → Option Int)) (l4 t0 : Int) (s : Sg) : Option Int :=
  ((f_204 s).bind fun q22 =>
  j_279_497 L k23 l4 q22.2)
set_option maxRecDepth 20000 in
theorem bl_279_461 {L B bF : Nat} {k23 : (Int → Sg → Option Int)} (hB : bF ≤ B) (hk23 : ∀ (c : Nat) (e : Nat → Nat) (d5 d6 d7 : Option ax_V) (l4 : Int) (s : Sg) (q : Int), c ≤ bF → k23 l4 s = some q → RuP 225 tb_m279 23 [some (.inr (.inr (some 0))), some (.inr (.inr (some 27))), some (.inr (.inr (some 84))), some (.inr (.inr (some 136))), some (.inl l4), d5, d6, d7] [] (hp L s c e) (oL L B q)) : ∀ (c : Nat) (e : Nat → Nat) (d5 d6 d7 : Option ax_V) (l4 t0 : Int) (s : Sg) (q : Int), c ≤ bF → j_279_461 L k23 l4 t0 s = some q → RuP 225 tb_m279 461 [some (.inr (.inr (some 0))), some (.inr (.inr (some 27))), some (.inr (.inr (some 84))), some (.inr (.inr (some 136))), some (.inl l4), d5, d6, d7] [.inl t0] (hp L s c e) (oL L B q) := by
  intro c e d5 d6 d7 l4 t0 s q hc h
  unfold j_279_461 at h
  refine RuP.step (pc' := 463) (ls' := [some (.inr (.inr (some 0))), some (.inr (.inr (some 27))), some (.inr (.inr (some 84))), some (.inr (.inr (some 136))), some (.inl l4), some (.inl t0), d6, d7]) (st' := []) (h1 := hp L s c e) rfl ?_
  refine RuP.step (pc' := 464) (ls' := [some (.inr (.inr (some 0))), some (.inr (.inr (some 27))), some (.inr (.inr (some 84))), some (.inr (.inr (some 136))), some (.inl l4), some (.inl t0), d6, d7]) (st' := [.inr (.inr (some 84))]) (h1 := hp L s c e) rfl ?_
  obtain ⟨q22, h1, h⟩ := bd_some h
  refine RuP.cI rfl ((ev_204 h1).up (by decide)) ?_
  refine RuP.step (pc' := 469) (ls' := [some (.inr (.inr (some 0))), some (.inr (.inr (some 27))), some (.inr (.inr (some 84))), some (.inr (.inr (some 136))), some (.inl l4), some (.inl t0), some (.inl q22.1), d7]) (st' := []) (h1 := hp L q22.2 c e) rfl ?_
  refine RuP.step (pc' := 497) (ls' := [some (.inr (.inr (some 0))), some (.inr (.inr (some 27))), some (.inr (.inr (some 84))), some (.inr (.inr (some 136))), some (.inl l4), some (.inl t0), some (.inl q22.1), d7]) (st' := []) (h1 := hp L q22.2 c e) rfl ?_
  exact bl_279_497 hB hk23 _ _ _ _ _ _ _ _ (by omega) h
noncomputable def j_279_23 (L : Nat) : Nat → Int → Sg → Option Int
  | 0, _, _ => none
  | F + 1, l4, s =>
    (if ax_w32 ((L : Int) - 5) < l4 then
      some 1
    else
      (gd (0 ≤ l4 ∧ l4 < L) (
      (if ax_iand (s 0 l4.toNat) 15 = 0 then
        (gd (0 ≤ ax_w32 (l4 + 1) ∧ ax_w32 (l4 + 1) < L) (
        (gd (0 ≤ ax_w32 (l4 + 2) ∧ ax_w32 (l4 + 2) < L) (
        (gd (0 ≤ ax_w32 (l4 + 3) ∧ ax_w32 (l4 + 3) < L) (
        (gd (0 ≤ ax_w32 (l4 + 4) ∧ ax_w32 (l4 + 4) < L) (
        ((f_280 (s 0 ((ax_w32 (l4 + 1)).toNat)) (s 0 ((ax_w32 (l4 + 2)).toNat)) (s 0 ((ax_w32 (l4 + 3)).toNat)) (s 0 ((ax_w32 (l4 + 4)).toNat)) s).bind fun q1 =>
        j_279_129 L (j_279_23 L F) l4 q1.1 q1.2)))))))))
      else
      (if ax_iand (s 0 l4.toNat) 15 = 1 then
        (gd (0 ≤ ax_w32 (l4 + 1) ∧ ax_w32 (l4 + 1) < L) (
        ((f_281 (s 0 ((ax_w32 (l4 + 1)).toNat)) s).bind fun q3 =>
        j_279_175 L (j_279_23 L F) l4 q3.1 q3.2)))
      else
      (if ax_iand (s 0 l4.toNat) 15 = 2 then
        ((f_282 s).bind fun q5 =>
        j_279_197 L (j_279_23 L F) l4 q5.1 q5.2)
      else
      (if ax_iand (s 0 l4.toNat) 15 = 3 then
        (gd (0 ≤ ax_w32 (l4 + 1) ∧ ax_w32 (l4 + 1) < L) (
        ((f_283 (s 0 ((ax_w32 (l4 + 1)).toNat)) s).bind fun q7 =>
        j_279_219 L (j_279_23 L F) l4 q7.1 q7.2)))
      else
      (if ax_iand (s 0 l4.toNat) 15 = 4 then
        (gd (0 ≤ ax_w32 (l4 + 1) ∧ ax_w32 (l4 + 1) < L) (
        (gd (0 ≤ ax_w32 (l4 + 2) ∧ ax_w32 (l4 + 2) < L) (
        ((f_284 (s 0 ((ax_w32 (l4 + 1)).toNat)) (s 0 ((ax_w32 (l4 + 2)).toNat)) s).bind fun q9 =>
        j_279_253 L (j_279_23 L F) l4 q9.1 q9.2)))))
      else
      (if ax_iand (s 0 l4.toNat) 15 = 5 then
        (gd (0 ≤ ax_w32 (l4 + 1) ∧ ax_w32 (l4 + 1) < L) (
        (gd (0 ≤ ax_w32 (l4 + 2) ∧ ax_w32 (l4 + 2) < L) (
        ((f_285 (s 0 ((ax_w32 (l4 + 1)).toNat)) (s 0 ((ax_w32 (l4 + 2)).toNat)) s).bind fun q11 =>
        j_279_293 L (j_279_23 L F) l4 q11.1 q11.2)))))
      else
      (if ax_iand (s 0 l4.toNat) 15 = 6 then
        (gd (0 ≤ ax_w32 (l4 + 1) ∧ ax_w32 (l4 + 1) < L) (
        (gd (0 ≤ ax_w32 (l4 + 2) ∧ ax_w32 (l4 + 2) < L) (
        ((f_286 (s 0 ((ax_w32 (l4 + 1)).toNat)) (s 0 ((ax_w32 (l4 + 2)).toNat)) s).bind fun q13 =>
        j_279_333 L (j_279_23 L F) l4 q13.1 q13.2)))))
      else
      (if ax_iand (s 0 l4.toNat) 15 = 7 then
        (gd (0 ≤ ax_w32 (l4 + 1) ∧ ax_w32 (l4 + 1) < L) (
        ((f_287 (s 0 ((ax_w32 (l4 + 1)).toNat)) s).bind fun q15 =>
        j_279_367 L (j_279_23 L F) l4 q15.1 q15.2)))
      else
      (if ax_iand (s 0 l4.toNat) 15 = 8 then
        ((f_288 s).bind fun q17 =>
        j_279_417 L (j_279_23 L F) l4 q17.1 q17.2)
      else
      (if ax_iand (s 0 l4.toNat) 15 = 9 then
        (gd (0 ≤ ax_w32 (l4 + 1) ∧ ax_w32 (l4 + 1) < L) (
        ((f_289 (s 0 ((ax_w32 (l4 + 1)).toNat)) s).bind fun q19 =>
        j_279_439 L (j_279_23 L F) l4 q19.1 q19.2)))
      else
      (if ax_iand (s 0 l4.toNat) 15 = 10 then
        ((f_290 s).bind fun q21 =>
        j_279_461 L (j_279_23 L F) l4 q21.1 q21.2)
      else
      (if ax_iand (s 0 l4.toNat) 15 = 11 then
        (gd (0 ≤ ax_w32 (l4 + 1) ∧ ax_w32 (l4 + 1) < L) (
        (gd (0 ≤ ax_w32 (l4 + 1) ∧ ax_w32 (l4 + 1) < L) (
        ((some (f_205 (s 0 ((ax_w32 (l4 + 1)).toNat)) s)).bind fun q23 =>
        j_279_497 L (j_279_23 L F) l4 q23.2)))))
      else
        j_279_497 L (j_279_23 L F) l4 s)))))))))))))))
set_option maxRecDepth 20000 in
theorem bl_279_23 {L B : Nat} : ∀ (F : Nat) (c : Nat) (e : Nat → Nat) (d5 d6 d7 : Option ax_V) (l4 : Int) (s : Sg) (q : Int), c + 2 * F ≤ B → j_279_23 L F l4 s = some q → RuP 225 tb_m279 23 [some (.inr (.inr (some 0))), some (.inr (.inr (some 27))), some (.inr (.inr (some 84))), some (.inr (.inr (some 136))), some (.inl l4), d5, d6, d7] [] (hp L s c e) (oL L B q) := by
  intro F
  induction F with
  | zero =>
    intro c e d5 d6 d7 l4 s q hc h
    rw [j_279_23] at h
    cases h
  | succ F ih0 =>
    intro c e d5 d6 d7 l4 s q hc h
    rw [j_279_23] at h
    have hB : B - 2 * F ≤ B := by omega
    have ih := fun c e d5 d6 d7 l4 s q (hc : c ≤ B - 2 * F) h => ih0 c e d5 d6 d7 l4 s q (by omega) h
    have hcc : c + 2 ≤ B - 2 * F := by omega
    refine RuP.step (pc' := 25) (ls' := [some (.inr (.inr (some 0))), some (.inr (.inr (some 27))), some (.inr (.inr (some 84))), some (.inr (.inr (some 136))), some (.inl l4), d5, d6, d7]) (st' := [.inl l4]) (h1 := hp L s c e) rfl ?_
    refine RuP.step (pc' := 26) (ls' := [some (.inr (.inr (some 0))), some (.inr (.inr (some 27))), some (.inr (.inr (some 84))), some (.inr (.inr (some 136))), some (.inl l4), d5, d6, d7]) (st' := [.inr (.inr (some 0)), .inl l4]) (h1 := hp L s c e) rfl ?_
    refine RuP.step (pc' := 27) (ls' := [some (.inr (.inr (some 0))), some (.inr (.inr (some 27))), some (.inr (.inr (some 84))), some (.inr (.inr (some 136))), some (.inl l4), d5, d6, d7]) (st' := [.inl (L : Int), .inl l4]) (h1 := hp L s c e) rfl ?_
    refine RuP.step (pc' := 28) (ls' := [some (.inr (.inr (some 0))), some (.inr (.inr (some 27))), some (.inr (.inr (some 84))), some (.inr (.inr (some 136))), some (.inl l4), d5, d6, d7]) (st' := [.inl 5, .inl (L : Int), .inl l4]) (h1 := hp L s c e) rfl ?_
    refine RuP.step (pc' := 29) (ls' := [some (.inr (.inr (some 0))), some (.inr (.inr (some 27))), some (.inr (.inr (some 84))), some (.inr (.inr (some 136))), some (.inl l4), d5, d6, d7]) (st' := [.inl (ax_w32 ((L : Int) - 5)), .inl l4]) (h1 := hp L s c e) rfl ?_
    by_cases h0 : ax_w32 ((L : Int) - 5) < l4
    · rw [if_pos h0] at h
      refine RuP.jy rfl h0 ?_
      refine RuP.step (pc' := 504) (ls' := [some (.inr (.inr (some 0))), some (.inr (.inr (some 27))), some (.inr (.inr (some 84))), some (.inr (.inr (some 136))), some (.inl l4), d5, d6, d7]) (st' := [.inl 1]) (h1 := hp L s c e) rfl ?_
      cases h
      exact RuP.dL rfl (by omega)
    · rw [if_neg h0] at h
      refine RuP.jn rfl h0 ?_
      refine RuP.step (pc' := 33) (ls' := [some (.inr (.inr (some 0))), some (.inr (.inr (some 27))), some (.inr (.inr (some 84))), some (.inr (.inr (some 136))), some (.inl l4), d5, d6, d7]) (st' := [.inr (.inr (some 0))]) (h1 := hp L s c e) rfl ?_
      refine RuP.step (pc' := 35) (ls' := [some (.inr (.inr (some 0))), some (.inr (.inr (some 27))), some (.inr (.inr (some 84))), some (.inr (.inr (some 136))), some (.inl l4), d5, d6, d7]) (st' := [.inl l4, .inr (.inr (some 0))]) (h1 := hp L s c e) rfl ?_
      obtain ⟨b1, h⟩ := gd_some h
      refine RuP.ald (f := fun t => t == 0) (j := l4) (a := 0) rfl rfl b1.1 b1.2 ?_
      refine RuP.step (pc' := 38) (ls' := [some (.inr (.inr (some 0))), some (.inr (.inr (some 27))), some (.inr (.inr (some 84))), some (.inr (.inr (some 136))), some (.inl l4), d5, d6, d7]) (st' := [.inl 15, .inl (s 0 l4.toNat)]) (h1 := hp L s c e) rfl ?_
      refine RuP.step (pc' := 39) (ls' := [some (.inr (.inr (some 0))), some (.inr (.inr (some 27))), some (.inr (.inr (some 84))), some (.inr (.inr (some 136))), some (.inl l4), d5, d6, d7]) (st' := [.inl (ax_iand (s 0 l4.toNat) 15)]) (h1 := hp L s c e) rfl ?_
      by_cases h2 : ax_iand (s 0 l4.toNat) 15 = 0
      · rw [if_pos h2] at h
        have J3 : RuP 225 tb_m279 100 [some (.inr (.inr (some 0))), some (.inr (.inr (some 27))), some (.inr (.inr (some 84))), some (.inr (.inr (some 136))), some (.inl l4), d5, d6, d7] [] (hp L s c e) (oL L B q) := by
          refine RuP.step (pc' := 101) (ls' := [some (.inr (.inr (some 0))), some (.inr (.inr (some 27))), some (.inr (.inr (some 84))), some (.inr (.inr (some 136))), some (.inl l4), d5, d6, d7]) (st' := [.inr (.inr (some 27))]) (h1 := hp L s c e) rfl ?_
          refine RuP.step (pc' := 102) (ls' := [some (.inr (.inr (some 0))), some (.inr (.inr (some 27))), some (.inr (.inr (some 84))), some (.inr (.inr (some 136))), some (.inl l4), d5, d6, d7]) (st' := [.inr (.inr (some 0)), .inr (.inr (some 27))]) (h1 := hp L s c e) rfl ?_
          refine RuP.step (pc' := 104) (ls' := [some (.inr (.inr (some 0))), some (.inr (.inr (some 27))), some (.inr (.inr (some 84))), some (.inr (.inr (some 136))), some (.inl l4), d5, d6, d7]) (st' := [.inl l4, .inr (.inr (some 0)), .inr (.inr (some 27))]) (h1 := hp L s c e) rfl ?_
          refine RuP.step (pc' := 105) (ls' := [some (.inr (.inr (some 0))), some (.inr (.inr (some 27))), some (.inr (.inr (some 84))), some (.inr (.inr (some 136))), some (.inl l4), d5, d6, d7]) (st' := [.inl 1, .inl l4, .inr (.inr (some 0)), .inr (.inr (some 27))]) (h1 := hp L s c e) rfl ?_
          refine RuP.step (pc' := 106) (ls' := [some (.inr (.inr (some 0))), some (.inr (.inr (some 27))), some (.inr (.inr (some 84))), some (.inr (.inr (some 136))), some (.inl l4), d5, d6, d7]) (st' := [.inl (ax_w32 (l4 + 1)), .inr (.inr (some 0)), .inr (.inr (some 27))]) (h1 := hp L s c e) rfl ?_
          obtain ⟨b3, h⟩ := gd_some h
          refine RuP.ald (f := fun t => t == 0) (j := ax_w32 (l4 + 1)) (a := 0) rfl rfl b3.1 b3.2 ?_
          refine RuP.step (pc' := 108) (ls' := [some (.inr (.inr (some 0))), some (.inr (.inr (some 27))), some (.inr (.inr (some 84))), some (.inr (.inr (some 136))), some (.inl l4), d5, d6, d7]) (st' := [.inr (.inr (some 0)), .inl (s 0 ((ax_w32 (l4 + 1)).toNat)), .inr (.inr (some 27))]) (h1 := hp L s c e) rfl ?_
          refine RuP.step (pc' := 110) (ls' := [some (.inr (.inr (some 0))), some (.inr (.inr (some 27))), some (.inr (.inr (some 84))), some (.inr (.inr (some 136))), some (.inl l4), d5, d6, d7]) (st' := [.inl l4, .inr (.inr (some 0)), .inl (s 0 ((ax_w32 (l4 + 1)).toNat)), .inr (.inr (some 27))]) (h1 := hp L s c e) rfl ?_
          refine RuP.step (pc' := 111) (ls' := [some (.inr (.inr (some 0))), some (.inr (.inr (some 27))), some (.inr (.inr (some 84))), some (.inr (.inr (some 136))), some (.inl l4), d5, d6, d7]) (st' := [.inl 2, .inl l4, .inr (.inr (some 0)), .inl (s 0 ((ax_w32 (l4 + 1)).toNat)), .inr (.inr (some 27))]) (h1 := hp L s c e) rfl ?_
          refine RuP.step (pc' := 112) (ls' := [some (.inr (.inr (some 0))), some (.inr (.inr (some 27))), some (.inr (.inr (some 84))), some (.inr (.inr (some 136))), some (.inl l4), d5, d6, d7]) (st' := [.inl (ax_w32 (l4 + 2)), .inr (.inr (some 0)), .inl (s 0 ((ax_w32 (l4 + 1)).toNat)), .inr (.inr (some 27))]) (h1 := hp L s c e) rfl ?_
          obtain ⟨b4, h⟩ := gd_some h
          refine RuP.ald (f := fun t => t == 0) (j := ax_w32 (l4 + 2)) (a := 0) rfl rfl b4.1 b4.2 ?_
          refine RuP.step (pc' := 114) (ls' := [some (.inr (.inr (some 0))), some (.inr (.inr (some 27))), some (.inr (.inr (some 84))), some (.inr (.inr (some 136))), some (.inl l4), d5, d6, d7]) (st' := [.inr (.inr (some 0)), .inl (s 0 ((ax_w32 (l4 + 2)).toNat)), .inl (s 0 ((ax_w32 (l4 + 1)).toNat)), .inr (.inr (some 27))]) (h1 := hp L s c e) rfl ?_
          refine RuP.step (pc' := 116) (ls' := [some (.inr (.inr (some 0))), some (.inr (.inr (some 27))), some (.inr (.inr (some 84))), some (.inr (.inr (some 136))), some (.inl l4), d5, d6, d7]) (st' := [.inl l4, .inr (.inr (some 0)), .inl (s 0 ((ax_w32 (l4 + 2)).toNat)), .inl (s 0 ((ax_w32 (l4 + 1)).toNat)), .inr (.inr (some 27))]) (h1 := hp L s c e) rfl ?_
          refine RuP.step (pc' := 117) (ls' := [some (.inr (.inr (some 0))), some (.inr (.inr (some 27))), some (.inr (.inr (some 84))), some (.inr (.inr (some 136))), some (.inl l4), d5, d6, d7]) (st' := [.inl 3, .inl l4, .inr (.inr (some 0)), .inl (s 0 ((ax_w32 (l4 + 2)).toNat)), .inl (s 0 ((ax_w32 (l4 + 1)).toNat)), .inr (.inr (some 27))]) (h1 := hp L s c e) rfl ?_
          refine RuP.step (pc' := 118) (ls' := [some (.inr (.inr (some 0))), some (.inr (.inr (some 27))), some (.inr (.inr (some 84))), some (.inr (.inr (some 136))), some (.inl l4), d5, d6, d7]) (st' := [.inl (ax_w32 (l4 + 3)), .inr (.inr (some 0)), .inl (s 0 ((ax_w32 (l4 + 2)).toNat)), .inl (s 0 ((ax_w32 (l4 + 1)).toNat)), .inr (.inr (some 27))]) (h1 := hp L s c e) rfl ?_
          obtain ⟨b5, h⟩ := gd_some h
          refine RuP.ald (f := fun t => t == 0) (j := ax_w32 (l4 + 3)) (a := 0) rfl rfl b5.1 b5.2 ?_
          refine RuP.step (pc' := 120) (ls' := [some (.inr (.inr (some 0))), some (.inr (.inr (some 27))), some (.inr (.inr (some 84))), some (.inr (.inr (some 136))), some (.inl l4), d5, d6, d7]) (st' := [.inr (.inr (some 0)), .inl (s 0 ((ax_w32 (l4 + 3)).toNat)), .inl (s 0 ((ax_w32 (l4 + 2)).toNat)), .inl (s 0 ((ax_w32 (l4 + 1)).toNat)), .inr (.inr (some 27))]) (h1 := hp L s c e) rfl ?_
          refine RuP.step (pc' := 122) (ls' := [some (.inr (.inr (some 0))), some (.inr (.inr (some 27))), some (.inr (.inr (some 84))), some (.inr (.inr (some 136))), some (.inl l4), d5, d6, d7]) (st' := [.inl l4, .inr (.inr (some 0)), .inl (s 0 ((ax_w32 (l4 + 3)).toNat)), .inl (s 0 ((ax_w32 (l4 + 2)).toNat)), .inl (s 0 ((ax_w32 (l4 + 1)).toNat)), .inr (.inr (some 27))]) (h1 := hp L s c e) rfl ?_
          refine RuP.step (pc' := 123) (ls' := [some (.inr (.inr (some 0))), some (.inr (.inr (some 27))), some (.inr (.inr (some 84))), some (.inr (.inr (some 136))), some (.inl l4), d5, d6, d7]) (st' := [.inl 4, .inl l4, .inr (.inr (some 0)), .inl (s 0 ((ax_w32 (l4 + 3)).toNat)), .inl (s 0 ((ax_w32 (l4 + 2)).toNat)), .inl (s 0 ((ax_w32 (l4 + 1)).toNat)), .inr (.inr (some 27))]) (h1 := hp L s c e) rfl ?_
          refine RuP.step (pc' := 124) (ls' := [some (.inr (.inr (some 0))), some (.inr (.inr (some 27))), some (.inr (.inr (some 84))), some (.inr (.inr (some 136))), some (.inl l4), d5, d6, d7]) (st' := [.inl (ax_w32 (l4 + 4)), .inr (.inr (some 0)), .inl (s 0 ((ax_w32 (l4 + 3)).toNat)), .inl (s 0 ((ax_w32 (l4 + 2)).toNat)), .inl (s 0 ((ax_w32 (l4 + 1)).toNat)), .inr (.inr (some 27))]) (h1 := hp L s c e) rfl ?_
          obtain ⟨b6, h⟩ := gd_some h
          refine RuP.ald (f := fun t => t == 0) (j := ax_w32 (l4 + 4)) (a := 0) rfl rfl b6.1 b6.2 ?_
          refine RuP.step (pc' := 126) (ls' := [some (.inr (.inr (some 0))), some (.inr (.inr (some 27))), some (.inr (.inr (some 84))), some (.inr (.inr (some 136))), some (.inl l4), d5, d6, d7]) (st' := [.inr (.inr (some 136)), .inl (s 0 ((ax_w32 (l4 + 4)).toNat)), .inl (s 0 ((ax_w32 (l4 + 3)).toNat)), .inl (s 0 ((ax_w32 (l4 + 2)).toNat)), .inl (s 0 ((ax_w32 (l4 + 1)).toNat)), .inr (.inr (some 27))]) (h1 := hp L s c e) rfl ?_
          obtain ⟨q1, h1, h⟩ := bd_some h
          refine RuP.cCI (k := 2) rfl ((ev_280 h1).up (by decide)) (fun c' e' hc' => ?_)
          exact bl_279_129 hB ih _ _ _ _ _ _ _ _ _ (by omega) h
        exact RuP.sw (i := .tableswitch (458) (0) (11) #[61, 125, 153, 169, 197, 237, 277, 317, 373, 389, 417, 433]) rfl h2 rfl J3
      rw [if_neg h2] at h
      by_cases h7 : ax_iand (s 0 l4.toNat) 15 = 1
      · rw [if_pos h7] at h
        have J8 : RuP 225 tb_m279 164 [some (.inr (.inr (some 0))), some (.inr (.inr (some 27))), some (.inr (.inr (some 84))), some (.inr (.inr (some 136))), some (.inl l4), d5, d6, d7] [] (hp L s c e) (oL L B q) := by
          refine RuP.step (pc' := 165) (ls' := [some (.inr (.inr (some 0))), some (.inr (.inr (some 27))), some (.inr (.inr (some 84))), some (.inr (.inr (some 136))), some (.inl l4), d5, d6, d7]) (st' := [.inr (.inr (some 27))]) (h1 := hp L s c e) rfl ?_
          refine RuP.step (pc' := 166) (ls' := [some (.inr (.inr (some 0))), some (.inr (.inr (some 27))), some (.inr (.inr (some 84))), some (.inr (.inr (some 136))), some (.inl l4), d5, d6, d7]) (st' := [.inr (.inr (some 0)), .inr (.inr (some 27))]) (h1 := hp L s c e) rfl ?_
          refine RuP.step (pc' := 168) (ls' := [some (.inr (.inr (some 0))), some (.inr (.inr (some 27))), some (.inr (.inr (some 84))), some (.inr (.inr (some 136))), some (.inl l4), d5, d6, d7]) (st' := [.inl l4, .inr (.inr (some 0)), .inr (.inr (some 27))]) (h1 := hp L s c e) rfl ?_
          refine RuP.step (pc' := 169) (ls' := [some (.inr (.inr (some 0))), some (.inr (.inr (some 27))), some (.inr (.inr (some 84))), some (.inr (.inr (some 136))), some (.inl l4), d5, d6, d7]) (st' := [.inl 1, .inl l4, .inr (.inr (some 0)), .inr (.inr (some 27))]) (h1 := hp L s c e) rfl ?_
          refine RuP.step (pc' := 170) (ls' := [some (.inr (.inr (some 0))), some (.inr (.inr (some 27))), some (.inr (.inr (some 84))), some (.inr (.inr (some 136))), some (.inl l4), d5, d6, d7]) (st' := [.inl (ax_w32 (l4 + 1)), .inr (.inr (some 0)), .inr (.inr (some 27))]) (h1 := hp L s c e) rfl ?_
          obtain ⟨b8, h⟩ := gd_some h
          refine RuP.ald (f := fun t => t == 0) (j := ax_w32 (l4 + 1)) (a := 0) rfl rfl b8.1 b8.2 ?_
          refine RuP.step (pc' := 172) (ls' := [some (.inr (.inr (some 0))), some (.inr (.inr (some 27))), some (.inr (.inr (some 84))), some (.inr (.inr (some 136))), some (.inl l4), d5, d6, d7]) (st' := [.inr (.inr (some 136)), .inl (s 0 ((ax_w32 (l4 + 1)).toNat)), .inr (.inr (some 27))]) (h1 := hp L s c e) rfl ?_
          obtain ⟨q3, h1, h⟩ := bd_some h
          refine RuP.cCI (k := 2) rfl ((ev_281 h1).up (by decide)) (fun c' e' hc' => ?_)
          exact bl_279_175 hB ih _ _ _ _ _ _ _ _ _ (by omega) h
        exact RuP.sw (i := .tableswitch (458) (0) (11) #[61, 125, 153, 169, 197, 237, 277, 317, 373, 389, 417, 433]) rfl h7 rfl J8
      rw [if_neg h7] at h
      by_cases h9 : ax_iand (s 0 l4.toNat) 15 = 2
      · rw [if_pos h9] at h
        have J10 : RuP 225 tb_m279 192 [some (.inr (.inr (some 0))), some (.inr (.inr (some 27))), some (.inr (.inr (some 84))), some (.inr (.inr (some 136))), some (.inl l4), d5, d6, d7] [] (hp L s c e) (oL L B q) := by
          refine RuP.step (pc' := 193) (ls' := [some (.inr (.inr (some 0))), some (.inr (.inr (some 27))), some (.inr (.inr (some 84))), some (.inr (.inr (some 136))), some (.inl l4), d5, d6, d7]) (st' := [.inr (.inr (some 27))]) (h1 := hp L s c e) rfl ?_
          refine RuP.step (pc' := 194) (ls' := [some (.inr (.inr (some 0))), some (.inr (.inr (some 27))), some (.inr (.inr (some 84))), some (.inr (.inr (some 136))), some (.inl l4), d5, d6, d7]) (st' := [.inr (.inr (some 136)), .inr (.inr (some 27))]) (h1 := hp L s c e) rfl ?_
          obtain ⟨q5, h1, h⟩ := bd_some h
          refine RuP.cCI (k := 2) rfl ((ev_282 h1).up (by decide)) (fun c' e' hc' => ?_)
          exact bl_279_197 hB ih _ _ _ _ _ _ _ _ _ (by omega) h
        exact RuP.sw (i := .tableswitch (458) (0) (11) #[61, 125, 153, 169, 197, 237, 277, 317, 373, 389, 417, 433]) rfl h9 rfl J10
      rw [if_neg h9] at h
      by_cases h10 : ax_iand (s 0 l4.toNat) 15 = 3
      · rw [if_pos h10] at h
        have J11 : RuP 225 tb_m279 208 [some (.inr (.inr (some 0))), some (.inr (.inr (some 27))), some (.inr (.inr (some 84))), some (.inr (.inr (some 136))), some (.inl l4), d5, d6, d7] [] (hp L s c e) (oL L B q) := by
          refine RuP.step (pc' := 209) (ls' := [some (.inr (.inr (some 0))), some (.inr (.inr (some 27))), some (.inr (.inr (some 84))), some (.inr (.inr (some 136))), some (.inl l4), d5, d6, d7]) (st' := [.inr (.inr (some 27))]) (h1 := hp L s c e) rfl ?_
          refine RuP.step (pc' := 210) (ls' := [some (.inr (.inr (some 0))), some (.inr (.inr (some 27))), some (.inr (.inr (some 84))), some (.inr (.inr (some 136))), some (.inl l4), d5, d6, d7]) (st' := [.inr (.inr (some 0)), .inr (.inr (some 27))]) (h1 := hp L s c e) rfl ?_
          refine RuP.step (pc' := 212) (ls' := [some (.inr (.inr (some 0))), some (.inr (.inr (some 27))), some (.inr (.inr (some 84))), some (.inr (.inr (some 136))), some (.inl l4), d5, d6, d7]) (st' := [.inl l4, .inr (.inr (some 0)), .inr (.inr (some 27))]) (h1 := hp L s c e) rfl ?_
          refine RuP.step (pc' := 213) (ls' := [some (.inr (.inr (some 0))), some (.inr (.inr (some 27))), some (.inr (.inr (some 84))), some (.inr (.inr (some 136))), some (.inl l4), d5, d6, d7]) (st' := [.inl 1, .inl l4, .inr (.inr (some 0)), .inr (.inr (some 27))]) (h1 := hp L s c e) rfl ?_
          refine RuP.step (pc' := 214) (ls' := [some (.inr (.inr (some 0))), some (.inr (.inr (some 27))), some (.inr (.inr (some 84))), some (.inr (.inr (some 136))), some (.inl l4), d5, d6, d7]) (st' := [.inl (ax_w32 (l4 + 1)), .inr (.inr (some 0)), .inr (.inr (some 27))]) (h1 := hp L s c e) rfl ?_
          obtain ⟨b11, h⟩ := gd_some h
          refine RuP.ald (f := fun t => t == 0) (j := ax_w32 (l4 + 1)) (a := 0) rfl rfl b11.1 b11.2 ?_
          refine RuP.step (pc' := 216) (ls' := [some (.inr (.inr (some 0))), some (.inr (.inr (some 27))), some (.inr (.inr (some 84))), some (.inr (.inr (some 136))), some (.inl l4), d5, d6, d7]) (st' := [.inr (.inr (some 136)), .inl (s 0 ((ax_w32 (l4 + 1)).toNat)), .inr (.inr (some 27))]) (h1 := hp L s c e) rfl ?_
          obtain ⟨q7, h1, h⟩ := bd_some h
          refine RuP.cCI (k := 2) rfl ((ev_283 h1).up (by decide)) (fun c' e' hc' => ?_)
          exact bl_279_219 hB ih _ _ _ _ _ _ _ _ _ (by omega) h
        exact RuP.sw (i := .tableswitch (458) (0) (11) #[61, 125, 153, 169, 197, 237, 277, 317, 373, 389, 417, 433]) rfl h10 rfl J11
      rw [if_neg h10] at h
      by_cases h12 : ax_iand (s 0 l4.toNat) 15 = 4
      · rw [if_pos h12] at h
        have J13 : RuP 225 tb_m279 236 [some (.inr (.inr (some 0))), some (.inr (.inr (some 27))), some (.inr (.inr (some 84))), some (.inr (.inr (some 136))), some (.inl l4), d5, d6, d7] [] (hp L s c e) (oL L B q) := by
          refine RuP.step (pc' := 237) (ls' := [some (.inr (.inr (some 0))), some (.inr (.inr (some 27))), some (.inr (.inr (some 84))), some (.inr (.inr (some 136))), some (.inl l4), d5, d6, d7]) (st' := [.inr (.inr (some 27))]) (h1 := hp L s c e) rfl ?_
          refine RuP.step (pc' := 238) (ls' := [some (.inr (.inr (some 0))), some (.inr (.inr (some 27))), some (.inr (.inr (some 84))), some (.inr (.inr (some 136))), some (.inl l4), d5, d6, d7]) (st' := [.inr (.inr (some 0)), .inr (.inr (some 27))]) (h1 := hp L s c e) rfl ?_
          refine RuP.step (pc' := 240) (ls' := [some (.inr (.inr (some 0))), some (.inr (.inr (some 27))), some (.inr (.inr (some 84))), some (.inr (.inr (some 136))), some (.inl l4), d5, d6, d7]) (st' := [.inl l4, .inr (.inr (some 0)), .inr (.inr (some 27))]) (h1 := hp L s c e) rfl ?_
          refine RuP.step (pc' := 241) (ls' := [some (.inr (.inr (some 0))), some (.inr (.inr (some 27))), some (.inr (.inr (some 84))), some (.inr (.inr (some 136))), some (.inl l4), d5, d6, d7]) (st' := [.inl 1, .inl l4, .inr (.inr (some 0)), .inr (.inr (some 27))]) (h1 := hp L s c e) rfl ?_
          refine RuP.step (pc' := 242) (ls' := [some (.inr (.inr (some 0))), some (.inr (.inr (some 27))), some (.inr (.inr (some 84))), some (.inr (.inr (some 136))), some (.inl l4), d5, d6, d7]) (st' := [.inl (ax_w32 (l4 + 1)), .inr (.inr (some 0)), .inr (.inr (some 27))]) (h1 := hp L s c e) rfl ?_
          obtain ⟨b13, h⟩ := gd_some h
          refine RuP.ald (f := fun t => t == 0) (j := ax_w32 (l4 + 1)) (a := 0) rfl rfl b13.1 b13.2 ?_
          refine RuP.step (pc' := 244) (ls' := [some (.inr (.inr (some 0))), some (.inr (.inr (some 27))), some (.inr (.inr (some 84))), some (.inr (.inr (some 136))), some (.inl l4), d5, d6, d7]) (st' := [.inr (.inr (some 0)), .inl (s 0 ((ax_w32 (l4 + 1)).toNat)), .inr (.inr (some 27))]) (h1 := hp L s c e) rfl ?_
          refine RuP.step (pc' := 246) (ls' := [some (.inr (.inr (some 0))), some (.inr (.inr (some 27))), some (.inr (.inr (some 84))), some (.inr (.inr (some 136))), some (.inl l4), d5, d6, d7]) (st' := [.inl l4, .inr (.inr (some 0)), .inl (s 0 ((ax_w32 (l4 + 1)).toNat)), .inr (.inr (some 27))]) (h1 := hp L s c e) rfl ?_
          refine RuP.step (pc' := 247) (ls' := [some (.inr (.inr (some 0))), some (.inr (.inr (some 27))), some (.inr (.inr (some 84))), some (.inr (.inr (some 136))), some (.inl l4), d5, d6, d7]) (st' := [.inl 2, .inl l4, .inr (.inr (some 0)), .inl (s 0 ((ax_w32 (l4 + 1)).toNat)), .inr (.inr (some 27))]) (h1 := hp L s c e) rfl ?_
          refine RuP.step (pc' := 248) (ls' := [some (.inr (.inr (some 0))), some (.inr (.inr (some 27))), some (.inr (.inr (some 84))), some (.inr (.inr (some 136))), some (.inl l4), d5, d6, d7]) (st' := [.inl (ax_w32 (l4 + 2)), .inr (.inr (some 0)), .inl (s 0 ((ax_w32 (l4 + 1)).toNat)), .inr (.inr (some 27))]) (h1 := hp L s c e) rfl ?_
          obtain ⟨b14, h⟩ := gd_some h
          refine RuP.ald (f := fun t => t == 0) (j := ax_w32 (l4 + 2)) (a := 0) rfl rfl b14.1 b14.2 ?_
          refine RuP.step (pc' := 250) (ls' := [some (.inr (.inr (some 0))), some (.inr (.inr (some 27))), some (.inr (.inr (some 84))), some (.inr (.inr (some 136))), some (.inl l4), d5, d6, d7]) (st' := [.inr (.inr (some 136)), .inl (s 0 ((ax_w32 (l4 + 2)).toNat)), .inl (s 0 ((ax_w32 (l4 + 1)).toNat)), .inr (.inr (some 27))]) (h1 := hp L s c e) rfl ?_
          obtain ⟨q9, h1, h⟩ := bd_some h
          refine RuP.cCI (k := 2) rfl ((ev_284 h1).up (by decide)) (fun c' e' hc' => ?_)
          exact bl_279_253 hB ih _ _ _ _ _ _ _ _ _ (by omega) h
        exact RuP.sw (i := .tableswitch (458) (0) (11) #[61, 125, 153, 169, 197, 237, 277, 317, 373, 389, 417, 433]) rfl h12 rfl J13
      rw [if_neg h12] at h
      by_cases h15 : ax_iand (s 0 l4.toNat) 15 = 5
      · rw [if_pos h15] at h
        have J16 : RuP 225 tb_m279 276 [some (.inr (.inr (some 0))), some (.inr (.inr (some 27))), some (.inr (.inr (some 84))), some (.inr (.inr (some 136))), some (.inl l4), d5, d6, d7] [] (hp L s c e) (oL L B q) := by
          refine RuP.step (pc' := 277) (ls' := [some (.inr (.inr (some 0))), some (.inr (.inr (some 27))), some (.inr (.inr (some 84))), some (.inr (.inr (some 136))), some (.inl l4), d5, d6, d7]) (st' := [.inr (.inr (some 27))]) (h1 := hp L s c e) rfl ?_
          refine RuP.step (pc' := 278) (ls' := [some (.inr (.inr (some 0))), some (.inr (.inr (some 27))), some (.inr (.inr (some 84))), some (.inr (.inr (some 136))), some (.inl l4), d5, d6, d7]) (st' := [.inr (.inr (some 0)), .inr (.inr (some 27))]) (h1 := hp L s c e) rfl ?_
          refine RuP.step (pc' := 280) (ls' := [some (.inr (.inr (some 0))), some (.inr (.inr (some 27))), some (.inr (.inr (some 84))), some (.inr (.inr (some 136))), some (.inl l4), d5, d6, d7]) (st' := [.inl l4, .inr (.inr (some 0)), .inr (.inr (some 27))]) (h1 := hp L s c e) rfl ?_
          refine RuP.step (pc' := 281) (ls' := [some (.inr (.inr (some 0))), some (.inr (.inr (some 27))), some (.inr (.inr (some 84))), some (.inr (.inr (some 136))), some (.inl l4), d5, d6, d7]) (st' := [.inl 1, .inl l4, .inr (.inr (some 0)), .inr (.inr (some 27))]) (h1 := hp L s c e) rfl ?_
          refine RuP.step (pc' := 282) (ls' := [some (.inr (.inr (some 0))), some (.inr (.inr (some 27))), some (.inr (.inr (some 84))), some (.inr (.inr (some 136))), some (.inl l4), d5, d6, d7]) (st' := [.inl (ax_w32 (l4 + 1)), .inr (.inr (some 0)), .inr (.inr (some 27))]) (h1 := hp L s c e) rfl ?_
          obtain ⟨b16, h⟩ := gd_some h
          refine RuP.ald (f := fun t => t == 0) (j := ax_w32 (l4 + 1)) (a := 0) rfl rfl b16.1 b16.2 ?_
          refine RuP.step (pc' := 284) (ls' := [some (.inr (.inr (some 0))), some (.inr (.inr (some 27))), some (.inr (.inr (some 84))), some (.inr (.inr (some 136))), some (.inl l4), d5, d6, d7]) (st' := [.inr (.inr (some 0)), .inl (s 0 ((ax_w32 (l4 + 1)).toNat)), .inr (.inr (some 27))]) (h1 := hp L s c e) rfl ?_
          refine RuP.step (pc' := 286) (ls' := [some (.inr (.inr (some 0))), some (.inr (.inr (some 27))), some (.inr (.inr (some 84))), some (.inr (.inr (some 136))), some (.inl l4), d5, d6, d7]) (st' := [.inl l4, .inr (.inr (some 0)), .inl (s 0 ((ax_w32 (l4 + 1)).toNat)), .inr (.inr (some 27))]) (h1 := hp L s c e) rfl ?_
          refine RuP.step (pc' := 287) (ls' := [some (.inr (.inr (some 0))), some (.inr (.inr (some 27))), some (.inr (.inr (some 84))), some (.inr (.inr (some 136))), some (.inl l4), d5, d6, d7]) (st' := [.inl 2, .inl l4, .inr (.inr (some 0)), .inl (s 0 ((ax_w32 (l4 + 1)).toNat)), .inr (.inr (some 27))]) (h1 := hp L s c e) rfl ?_
          refine RuP.step (pc' := 288) (ls' := [some (.inr (.inr (some 0))), some (.inr (.inr (some 27))), some (.inr (.inr (some 84))), some (.inr (.inr (some 136))), some (.inl l4), d5, d6, d7]) (st' := [.inl (ax_w32 (l4 + 2)), .inr (.inr (some 0)), .inl (s 0 ((ax_w32 (l4 + 1)).toNat)), .inr (.inr (some 27))]) (h1 := hp L s c e) rfl ?_
          obtain ⟨b17, h⟩ := gd_some h
          refine RuP.ald (f := fun t => t == 0) (j := ax_w32 (l4 + 2)) (a := 0) rfl rfl b17.1 b17.2 ?_
          refine RuP.step (pc' := 290) (ls' := [some (.inr (.inr (some 0))), some (.inr (.inr (some 27))), some (.inr (.inr (some 84))), some (.inr (.inr (some 136))), some (.inl l4), d5, d6, d7]) (st' := [.inr (.inr (some 136)), .inl (s 0 ((ax_w32 (l4 + 2)).toNat)), .inl (s 0 ((ax_w32 (l4 + 1)).toNat)), .inr (.inr (some 27))]) (h1 := hp L s c e) rfl ?_
          obtain ⟨q11, h1, h⟩ := bd_some h
          refine RuP.cCI (k := 2) rfl ((ev_285 h1).up (by decide)) (fun c' e' hc' => ?_)
          exact bl_279_293 hB ih _ _ _ _ _ _ _ _ _ (by omega) h
        exact RuP.sw (i := .tableswitch (458) (0) (11) #[61, 125, 153, 169, 197, 237, 277, 317, 373, 389, 417, 433]) rfl h15 rfl J16
      rw [if_neg h15] at h
      by_cases h18 : ax_iand (s 0 l4.toNat) 15 = 6
      · rw [if_pos h18] at h
        have J19 : RuP 225 tb_m279 316 [some (.inr (.inr (some 0))), some (.inr (.inr (some 27))), some (.inr (.inr (some 84))), some (.inr (.inr (some 136))), some (.inl l4), d5, d6, d7] [] (hp L s c e) (oL L B q) := by
          refine RuP.step (pc' := 317) (ls' := [some (.inr (.inr (some 0))), some (.inr (.inr (some 27))), some (.inr (.inr (some 84))), some (.inr (.inr (some 136))), some (.inl l4), d5, d6, d7]) (st' := [.inr (.inr (some 27))]) (h1 := hp L s c e) rfl ?_
          refine RuP.step (pc' := 318) (ls' := [some (.inr (.inr (some 0))), some (.inr (.inr (some 27))), some (.inr (.inr (some 84))), some (.inr (.inr (some 136))), some (.inl l4), d5, d6, d7]) (st' := [.inr (.inr (some 0)), .inr (.inr (some 27))]) (h1 := hp L s c e) rfl ?_
          refine RuP.step (pc' := 320) (ls' := [some (.inr (.inr (some 0))), some (.inr (.inr (some 27))), some (.inr (.inr (some 84))), some (.inr (.inr (some 136))), some (.inl l4), d5, d6, d7]) (st' := [.inl l4, .inr (.inr (some 0)), .inr (.inr (some 27))]) (h1 := hp L s c e) rfl ?_
          refine RuP.step (pc' := 321) (ls' := [some (.inr (.inr (some 0))), some (.inr (.inr (some 27))), some (.inr (.inr (some 84))), some (.inr (.inr (some 136))), some (.inl l4), d5, d6, d7]) (st' := [.inl 1, .inl l4, .inr (.inr (some 0)), .inr (.inr (some 27))]) (h1 := hp L s c e) rfl ?_
          refine RuP.step (pc' := 322) (ls' := [some (.inr (.inr (some 0))), some (.inr (.inr (some 27))), some (.inr (.inr (some 84))), some (.inr (.inr (some 136))), some (.inl l4), d5, d6, d7]) (st' := [.inl (ax_w32 (l4 + 1)), .inr (.inr (some 0)), .inr (.inr (some 27))]) (h1 := hp L s c e) rfl ?_
          obtain ⟨b19, h⟩ := gd_some h
          refine RuP.ald (f := fun t => t == 0) (j := ax_w32 (l4 + 1)) (a := 0) rfl rfl b19.1 b19.2 ?_
          refine RuP.step (pc' := 324) (ls' := [some (.inr (.inr (some 0))), some (.inr (.inr (some 27))), some (.inr (.inr (some 84))), some (.inr (.inr (some 136))), some (.inl l4), d5, d6, d7]) (st' := [.inr (.inr (some 0)), .inl (s 0 ((ax_w32 (l4 + 1)).toNat)), .inr (.inr (some 27))]) (h1 := hp L s c e) rfl ?_
          refine RuP.step (pc' := 326) (ls' := [some (.inr (.inr (some 0))), some (.inr (.inr (some 27))), some (.inr (.inr (some 84))), some (.inr (.inr (some 136))), some (.inl l4), d5, d6, d7]) (st' := [.inl l4, .inr (.inr (some 0)), .inl (s 0 ((ax_w32 (l4 + 1)).toNat)), .inr (.inr (some 27))]) (h1 := hp L s c e) rfl ?_
          refine RuP.step (pc' := 327) (ls' := [some (.inr (.inr (some 0))), some (.inr (.inr (some 27))), some (.inr (.inr (some 84))), some (.inr (.inr (some 136))), some (.inl l4), d5, d6, d7]) (st' := [.inl 2, .inl l4, .inr (.inr (some 0)), .inl (s 0 ((ax_w32 (l4 + 1)).toNat)), .inr (.inr (some 27))]) (h1 := hp L s c e) rfl ?_
          refine RuP.step (pc' := 328) (ls' := [some (.inr (.inr (some 0))), some (.inr (.inr (some 27))), some (.inr (.inr (some 84))), some (.inr (.inr (some 136))), some (.inl l4), d5, d6, d7]) (st' := [.inl (ax_w32 (l4 + 2)), .inr (.inr (some 0)), .inl (s 0 ((ax_w32 (l4 + 1)).toNat)), .inr (.inr (some 27))]) (h1 := hp L s c e) rfl ?_
          obtain ⟨b20, h⟩ := gd_some h
          refine RuP.ald (f := fun t => t == 0) (j := ax_w32 (l4 + 2)) (a := 0) rfl rfl b20.1 b20.2 ?_
          refine RuP.step (pc' := 330) (ls' := [some (.inr (.inr (some 0))), some (.inr (.inr (some 27))), some (.inr (.inr (some 84))), some (.inr (.inr (some 136))), some (.inl l4), d5, d6, d7]) (st' := [.inr (.inr (some 136)), .inl (s 0 ((ax_w32 (l4 + 2)).toNat)), .inl (s 0 ((ax_w32 (l4 + 1)).toNat)), .inr (.inr (some 27))]) (h1 := hp L s c e) rfl ?_
          obtain ⟨q13, h1, h⟩ := bd_some h
          refine RuP.cCI (k := 2) rfl ((ev_286 h1).up (by decide)) (fun c' e' hc' => ?_)
          exact bl_279_333 hB ih _ _ _ _ _ _ _ _ _ (by omega) h
        exact RuP.sw (i := .tableswitch (458) (0) (11) #[61, 125, 153, 169, 197, 237, 277, 317, 373, 389, 417, 433]) rfl h18 rfl J19
      rw [if_neg h18] at h
      by_cases h21 : ax_iand (s 0 l4.toNat) 15 = 7
      · rw [if_pos h21] at h
        have J22 : RuP 225 tb_m279 356 [some (.inr (.inr (some 0))), some (.inr (.inr (some 27))), some (.inr (.inr (some 84))), some (.inr (.inr (some 136))), some (.inl l4), d5, d6, d7] [] (hp L s c e) (oL L B q) := by
          refine RuP.step (pc' := 357) (ls' := [some (.inr (.inr (some 0))), some (.inr (.inr (some 27))), some (.inr (.inr (some 84))), some (.inr (.inr (some 136))), some (.inl l4), d5, d6, d7]) (st' := [.inr (.inr (some 27))]) (h1 := hp L s c e) rfl ?_
          refine RuP.step (pc' := 358) (ls' := [some (.inr (.inr (some 0))), some (.inr (.inr (some 27))), some (.inr (.inr (some 84))), some (.inr (.inr (some 136))), some (.inl l4), d5, d6, d7]) (st' := [.inr (.inr (some 0)), .inr (.inr (some 27))]) (h1 := hp L s c e) rfl ?_
          refine RuP.step (pc' := 360) (ls' := [some (.inr (.inr (some 0))), some (.inr (.inr (some 27))), some (.inr (.inr (some 84))), some (.inr (.inr (some 136))), some (.inl l4), d5, d6, d7]) (st' := [.inl l4, .inr (.inr (some 0)), .inr (.inr (some 27))]) (h1 := hp L s c e) rfl ?_
          refine RuP.step (pc' := 361) (ls' := [some (.inr (.inr (some 0))), some (.inr (.inr (some 27))), some (.inr (.inr (some 84))), some (.inr (.inr (some 136))), some (.inl l4), d5, d6, d7]) (st' := [.inl 1, .inl l4, .inr (.inr (some 0)), .inr (.inr (some 27))]) (h1 := hp L s c e) rfl ?_
          refine RuP.step (pc' := 362) (ls' := [some (.inr (.inr (some 0))), some (.inr (.inr (some 27))), some (.inr (.inr (some 84))), some (.inr (.inr (some 136))), some (.inl l4), d5, d6, d7]) (st' := [.inl (ax_w32 (l4 + 1)), .inr (.inr (some 0)), .inr (.inr (some 27))]) (h1 := hp L s c e) rfl ?_
          obtain ⟨b22, h⟩ := gd_some h
          refine RuP.ald (f := fun t => t == 0) (j := ax_w32 (l4 + 1)) (a := 0) rfl rfl b22.1 b22.2 ?_
          refine RuP.step (pc' := 364) (ls' := [some (.inr (.inr (some 0))), some (.inr (.inr (some 27))), some (.inr (.inr (some 84))), some (.inr (.inr (some 136))), some (.inl l4), d5, d6, d7]) (st' := [.inr (.inr (some 136)), .inl (s 0 ((ax_w32 (l4 + 1)).toNat)), .inr (.inr (some 27))]) (h1 := hp L s c e) rfl ?_
          obtain ⟨q15, h1, h⟩ := bd_some h
          refine RuP.cCI (k := 2) rfl ((ev_287 h1).up (by decide)) (fun c' e' hc' => ?_)
          exact bl_279_367 hB ih _ _ _ _ _ _ _ _ _ (by omega) h
        exact RuP.sw (i := .tableswitch (458) (0) (11) #[61, 125, 153, 169, 197, 237, 277, 317, 373, 389, 417, 433]) rfl h21 rfl J22
      rw [if_neg h21] at h
      by_cases h23 : ax_iand (s 0 l4.toNat) 15 = 8
      · rw [if_pos h23] at h
        have J24 : RuP 225 tb_m279 412 [some (.inr (.inr (some 0))), some (.inr (.inr (some 27))), some (.inr (.inr (some 84))), some (.inr (.inr (some 136))), some (.inl l4), d5, d6, d7] [] (hp L s c e) (oL L B q) := by
          refine RuP.step (pc' := 413) (ls' := [some (.inr (.inr (some 0))), some (.inr (.inr (some 27))), some (.inr (.inr (some 84))), some (.inr (.inr (some 136))), some (.inl l4), d5, d6, d7]) (st' := [.inr (.inr (some 27))]) (h1 := hp L s c e) rfl ?_
          refine RuP.step (pc' := 414) (ls' := [some (.inr (.inr (some 0))), some (.inr (.inr (some 27))), some (.inr (.inr (some 84))), some (.inr (.inr (some 136))), some (.inl l4), d5, d6, d7]) (st' := [.inr (.inr (some 136)), .inr (.inr (some 27))]) (h1 := hp L s c e) rfl ?_
          obtain ⟨q17, h1, h⟩ := bd_some h
          refine RuP.cCI (k := 2) rfl ((ev_288 h1).up (by decide)) (fun c' e' hc' => ?_)
          exact bl_279_417 hB ih _ _ _ _ _ _ _ _ _ (by omega) h
        exact RuP.sw (i := .tableswitch (458) (0) (11) #[61, 125, 153, 169, 197, 237, 277, 317, 373, 389, 417, 433]) rfl h23 rfl J24
      rw [if_neg h23] at h
      by_cases h24 : ax_iand (s 0 l4.toNat) 15 = 9
      · rw [if_pos h24] at h
        have J25 : RuP 225 tb_m279 428 [some (.inr (.inr (some 0))), some (.inr (.inr (some 27))), some (.inr (.inr (some 84))), some (.inr (.inr (some 136))), some (.inl l4), d5, d6, d7] [] (hp L s c e) (oL L B q) := by
          refine RuP.step (pc' := 429) (ls' := [some (.inr (.inr (some 0))), some (.inr (.inr (some 27))), some (.inr (.inr (some 84))), some (.inr (.inr (some 136))), some (.inl l4), d5, d6, d7]) (st' := [.inr (.inr (some 27))]) (h1 := hp L s c e) rfl ?_
          refine RuP.step (pc' := 430) (ls' := [some (.inr (.inr (some 0))), some (.inr (.inr (some 27))), some (.inr (.inr (some 84))), some (.inr (.inr (some 136))), some (.inl l4), d5, d6, d7]) (st' := [.inr (.inr (some 0)), .inr (.inr (some 27))]) (h1 := hp L s c e) rfl ?_
          refine RuP.step (pc' := 432) (ls' := [some (.inr (.inr (some 0))), some (.inr (.inr (some 27))), some (.inr (.inr (some 84))), some (.inr (.inr (some 136))), some (.inl l4), d5, d6, d7]) (st' := [.inl l4, .inr (.inr (some 0)), .inr (.inr (some 27))]) (h1 := hp L s c e) rfl ?_
          refine RuP.step (pc' := 433) (ls' := [some (.inr (.inr (some 0))), some (.inr (.inr (some 27))), some (.inr (.inr (some 84))), some (.inr (.inr (some 136))), some (.inl l4), d5, d6, d7]) (st' := [.inl 1, .inl l4, .inr (.inr (some 0)), .inr (.inr (some 27))]) (h1 := hp L s c e) rfl ?_
          refine RuP.step (pc' := 434) (ls' := [some (.inr (.inr (some 0))), some (.inr (.inr (some 27))), some (.inr (.inr (some 84))), some (.inr (.inr (some 136))), some (.inl l4), d5, d6, d7]) (st' := [.inl (ax_w32 (l4 + 1)), .inr (.inr (some 0)), .inr (.inr (some 27))]) (h1 := hp L s c e) rfl ?_
          obtain ⟨b25, h⟩ := gd_some h
          refine RuP.ald (f := fun t => t == 0) (j := ax_w32 (l4 + 1)) (a := 0) rfl rfl b25.1 b25.2 ?_
          refine RuP.step (pc' := 436) (ls' := [some (.inr (.inr (some 0))), some (.inr (.inr (some 27))), some (.inr (.inr (some 84))), some (.inr (.inr (some 136))), some (.inl l4), d5, d6, d7]) (st' := [.inr (.inr (some 136)), .inl (s 0 ((ax_w32 (l4 + 1)).toNat)), .inr (.inr (some 27))]) (h1 := hp L s c e) rfl ?_
          obtain ⟨q19, h1, h⟩ := bd_some h
          refine RuP.cCI (k := 2) rfl ((ev_289 h1).up (by decide)) (fun c' e' hc' => ?_)
          exact bl_279_439 hB ih _ _ _ _ _ _ _ _ _ (by omega) h
        exact RuP.sw (i := .tableswitch (458) (0) (11) #[61, 125, 153, 169, 197, 237, 277, 317, 373, 389, 417, 433]) rfl h24 rfl J25
      rw [if_neg h24] at h
      by_cases h26 : ax_iand (s 0 l4.toNat) 15 = 10
      · rw [if_pos h26] at h
        have J27 : RuP 225 tb_m279 456 [some (.inr (.inr (some 0))), some (.inr (.inr (some 27))), some (.inr (.inr (some 84))), some (.inr (.inr (some 136))), some (.inl l4), d5, d6, d7] [] (hp L s c e) (oL L B q) := by
          refine RuP.step (pc' := 457) (ls' := [some (.inr (.inr (some 0))), some (.inr (.inr (some 27))), some (.inr (.inr (some 84))), some (.inr (.inr (some 136))), some (.inl l4), d5, d6, d7]) (st' := [.inr (.inr (some 27))]) (h1 := hp L s c e) rfl ?_
          refine RuP.step (pc' := 458) (ls' := [some (.inr (.inr (some 0))), some (.inr (.inr (some 27))), some (.inr (.inr (some 84))), some (.inr (.inr (some 136))), some (.inl l4), d5, d6, d7]) (st' := [.inr (.inr (some 136)), .inr (.inr (some 27))]) (h1 := hp L s c e) rfl ?_
          obtain ⟨q21, h1, h⟩ := bd_some h
          refine RuP.cCI (k := 2) rfl ((ev_290 h1).up (by decide)) (fun c' e' hc' => ?_)
          exact bl_279_461 hB ih _ _ _ _ _ _ _ _ _ (by omega) h
        exact RuP.sw (i := .tableswitch (458) (0) (11) #[61, 125, 153, 169, 197, 237, 277, 317, 373, 389, 417, 433]) rfl h26 rfl J27
      rw [if_neg h26] at h
      by_cases h27 : ax_iand (s 0 l4.toNat) 15 = 11
      · rw [if_pos h27] at h
        have J28 : RuP 225 tb_m279 472 [some (.inr (.inr (some 0))), some (.inr (.inr (some 27))), some (.inr (.inr (some 84))), some (.inr (.inr (some 136))), some (.inl l4), d5, d6, d7] [] (hp L s c e) (oL L B q) := by
          refine RuP.step (pc' := 473) (ls' := [some (.inr (.inr (some 0))), some (.inr (.inr (some 27))), some (.inr (.inr (some 84))), some (.inr (.inr (some 136))), some (.inl l4), d5, d6, d7]) (st' := [.inr (.inr (some 27))]) (h1 := hp L s c e) rfl ?_
          refine RuP.step (pc' := 474) (ls' := [some (.inr (.inr (some 0))), some (.inr (.inr (some 27))), some (.inr (.inr (some 84))), some (.inr (.inr (some 136))), some (.inl l4), d5, d6, d7]) (st' := [.inr (.inr (some 0)), .inr (.inr (some 27))]) (h1 := hp L s c e) rfl ?_
          refine RuP.step (pc' := 476) (ls' := [some (.inr (.inr (some 0))), some (.inr (.inr (some 27))), some (.inr (.inr (some 84))), some (.inr (.inr (some 136))), some (.inl l4), d5, d6, d7]) (st' := [.inl l4, .inr (.inr (some 0)), .inr (.inr (some 27))]) (h1 := hp L s c e) rfl ?_
          refine RuP.step (pc' := 477) (ls' := [some (.inr (.inr (some 0))), some (.inr (.inr (some 27))), some (.inr (.inr (some 84))), some (.inr (.inr (some 136))), some (.inl l4), d5, d6, d7]) (st' := [.inl 1, .inl l4, .inr (.inr (some 0)), .inr (.inr (some 27))]) (h1 := hp L s c e) rfl ?_
          refine RuP.step (pc' := 478) (ls' := [some (.inr (.inr (some 0))), some (.inr (.inr (some 27))), some (.inr (.inr (some 84))), some (.inr (.inr (some 136))), some (.inl l4), d5, d6, d7]) (st' := [.inl (ax_w32 (l4 + 1)), .inr (.inr (some 0)), .inr (.inr (some 27))]) (h1 := hp L s c e) rfl ?_
          obtain ⟨b28, h⟩ := gd_some h
          refine RuP.ald (f := fun t => t == 0) (j := ax_w32 (l4 + 1)) (a := 0) rfl rfl b28.1 b28.2 ?_
          refine RuP.cI rfl ((ev_1 (s 0 ((ax_w32 (l4 + 1)).toNat))).up (by decide)) ?_
          refine RuP.step (pc' := 483) (ls' := [some (.inr (.inr (some 0))), some (.inr (.inr (some 27))), some (.inr (.inr (some 84))), some (.inr (.inr (some 136))), some (.inl l4), d5, d6, d7]) (st' := []) (h1 := hp L s c e) rfl ?_
          refine RuP.step (pc' := 484) (ls' := [some (.inr (.inr (some 0))), some (.inr (.inr (some 27))), some (.inr (.inr (some 84))), some (.inr (.inr (some 136))), some (.inl l4), d5, d6, d7]) (st' := [.inr (.inr (some 84))]) (h1 := hp L s c e) rfl ?_
          refine RuP.step (pc' := 485) (ls' := [some (.inr (.inr (some 0))), some (.inr (.inr (some 27))), some (.inr (.inr (some 84))), some (.inr (.inr (some 136))), some (.inl l4), d5, d6, d7]) (st' := [.inr (.inr (some 0)), .inr (.inr (some 84))]) (h1 := hp L s c e) rfl ?_
          refine RuP.step (pc' := 487) (ls' := [some (.inr (.inr (some 0))), some (.inr (.inr (some 27))), some (.inr (.inr (some 84))), some (.inr (.inr (some 136))), some (.inl l4), d5, d6, d7]) (st' := [.inl l4, .inr (.inr (some 0)), .inr (.inr (some 84))]) (h1 := hp L s c e) rfl ?_
          refine RuP.step (pc' := 488) (ls' := [some (.inr (.inr (some 0))), some (.inr (.inr (some 27))), some (.inr (.inr (some 84))), some (.inr (.inr (some 136))), some (.inl l4), d5, d6, d7]) (st' := [.inl 1, .inl l4, .inr (.inr (some 0)), .inr (.inr (some 84))]) (h1 := hp L s c e) rfl ?_
          refine RuP.step (pc' := 489) (ls' := [some (.inr (.inr (some 0))), some (.inr (.inr (some 27))), some (.inr (.inr (some 84))), some (.inr (.inr (some 136))), some (.inl l4), d5, d6, d7]) (st' := [.inl (ax_w32 (l4 + 1)), .inr (.inr (some 0)), .inr (.inr (some 84))]) (h1 := hp L s c e) rfl ?_
          obtain ⟨b29, h⟩ := gd_some h
          refine RuP.ald (f := fun t => t == 0) (j := ax_w32 (l4 + 1)) (a := 0) rfl rfl b29.1 b29.2 ?_
          obtain ⟨q23, h1, h⟩ := bd_some h
          refine RuP.cIe h1 rfl (EvP.ip ((ev_205 (s 0 ((ax_w32 (l4 + 1)).toNat))).up (by decide))) ?_
          refine RuP.step (pc' := 494) (ls' := [some (.inr (.inr (some 0))), some (.inr (.inr (some 27))), some (.inr (.inr (some 84))), some (.inr (.inr (some 136))), some (.inl l4), d5, d6, d7]) (st' := []) (h1 := hp L q23.2 c e) rfl ?_
          refine RuP.step (pc' := 497) (ls' := [some (.inr (.inr (some 0))), some (.inr (.inr (some 27))), some (.inr (.inr (some 84))), some (.inr (.inr (some 136))), some (.inl l4), d5, d6, d7]) (st' := []) (h1 := hp L q23.2 c e) rfl ?_
          exact bl_279_497 hB ih _ _ _ _ _ _ _ _ (by omega) h
        exact RuP.sw (i := .tableswitch (458) (0) (11) #[61, 125, 153, 169, 197, 237, 277, 317, 373, 389, 417, 433]) rfl h27 rfl J28
      rw [if_neg h27] at h
      refine RuP.swd (i := .tableswitch (458) (0) (11) #[61, 125, 153, 169, 197, 237, 277, 317, 373, 389, 417, 433]) (pc' := 497) rfl (sw_td [0, 1, 2, 3, 4, 5, 6, 7, 8, 9, 10, 11] (by intro k hk; simp only [List.mem_cons, List.not_mem_nil, or_false] at hk; omega) (by decide) (by decide)) ?_
      exact bl_279_497 hB ih _ _ _ _ _ _ _ _ (by omega) h
/-! SMALL FACTS of the functions. -/
theorem u2_same {α : Type} (f : Nat → Nat → α) (a j : Nat) (z : α) : ax_u2 f a j z a j = z := by simp [ax_u2]
theorem u2_row {α : Type} (f : Nat → Nat → α) {a b : Nat} (j : Nat) (z : α) (h : b ≠ a) : ax_u2 f a j z b = f b := by funext k; simp [ax_u2, h]
theorem u2_col {α : Type} (f : Nat → Nat → α) (a : Nat) {j k : Nat} (z : α) (h : k ≠ j) : ax_u2 f a j z a k = f a k := by simp [ax_u2, h]
theorem u2_at {α : Type} (f : Nat → Nat → α) (a j k : Nat) (z : α) : ax_u2 f a j z a k = if k = j then z else f a k := by simp [ax_u2]
theorem w32_id {z : Int} (h : -2147483648 ≤ z) (h2 : z < 2147483648) : ax_w32 z = z := by unfold ax_w32; rw [Int.bmod_eq_of_le]  <;> omega
theorem w64_id {z : Int} (h : -9223372036854775808 ≤ z) (h2 : z < 9223372036854775808) : ax_w64 z = z := by unfold ax_w64; rw [Int.bmod_eq_of_le] <;> omega
theorem w8_mod (z : Int) : ax_w8 z % 256 = z % 256 := by unfold ax_w8; exact Int.bmod_emod (x := z) (m := 256)
theorem w8_lo (z : Int) : -128 ≤ ax_w8 z := by unfold ax_w8; have := Int.le_bmod (x := z) (m := 256) (by decide); omega
theorem w8_hi (z : Int) : ax_w8 z < 128 := by unfold ax_w8; have := Int.bmod_lt (x := z) (m := 256) (by decide); omega
theorem cmp_eq {x y : Int} : ax_cmp x y = 0 ↔ x = y := by
  unfold ax_cmp
  split
  · constructor
    · intro h; omega
    · intro h; omega
  · split
    · constructor
      · intro _; assumption
      · intro _; rfl
    · constructor
      · intro h; omega
      · intro h; contradiction
theorem cmp_lt {x y : Int} : ax_cmp x y < 0 ↔ x < y := by
  unfold ax_cmp
  split
  · constructor <;> intro h <;> omega
  · split
    · constructor <;> intro h <;> omega
    · constructor <;> intro h <;> omega
theorem cmp_gt {x y : Int} : 0 < ax_cmp x y ↔ y < x := by
  unfold ax_cmp
  split
  · constructor <;> intro h <;> omega
  · split
    · constructor <;> intro h <;> omega
    · constructor <;> intro h <;> omega
theorem cmp_le {x y : Int} : ax_cmp x y ≤ 0 ↔ x ≤ y := by
  unfold ax_cmp
  split
  · constructor <;> intro h <;> omega
  · split
    · constructor <;> intro h <;> omega
    · constructor <;> intro h <;> omega
theorem within_eq (x a b : Int) (s : Sg) : f_207 x a b s = if a ≤ x ∧ x ≤ b then 1 else 0 := by
  unfold f_207
  simp only [cmp_lt, cmp_gt]
  split
  · rw [if_neg (by omega)]
  · split
    · rw [if_neg (by omega)]
    · rw [if_pos (by omega)]
theorem iand_mod (x : Int) (k : Nat) (hk : k < 31) : ax_iand x ((2 ^ k - 1 : Nat) : Int) = x % ((2 ^ k : Nat) : Int) := by
  have hp : 2 ^ k ≤ 2 ^ 30 := Nat.pow_le_pow_right (by decide) (by omega)
  have hp0 : 0 < 2 ^ k := Nat.two_pow_pos k
  have h30 : (2 : Nat) ^ 30 = 1073741824 := by decide
  have hb : (BitVec.ofInt 32 ((2 ^ k - 1 : Nat) : Int)).toNat = 2 ^ k - 1 := by
    rw [BitVec.toNat_ofInt]
    have : (((2 ^ k - 1 : Nat) : Int) % ((2 ^ 32 : Nat) : Int)) = ((2 ^ k - 1 : Nat) : Int) := Int.emod_eq_of_lt (by omega) (by omega)
    rw [this]
    omega
  have e : (BitVec.ofInt 32 x &&& BitVec.ofInt 32 ((2 ^ k - 1 : Nat) : Int)).toNat = (x % ((2 ^ 32 : Nat) : Int)).toNat % 2 ^ k := by
    rw [BitVec.toNat_and, hb, Nat.and_two_pow_sub_one_eq_mod, BitVec.toNat_ofInt]
  have hlt : (x % ((2 ^ 32 : Nat) : Int)).toNat % 2 ^ k < 2 ^ k := Nat.mod_lt _ hp0
  show (BitVec.ofInt 32 x &&& BitVec.ofInt 32 ((2 ^ k - 1 : Nat) : Int)).toInt = _
  rw [BitVec.toInt_eq_toNat_of_lt (by rw [e]; omega), e]
  have h0 : 0 ≤ x % ((2 ^ 32 : Nat) : Int) := Int.emod_nonneg _ (by decide)
  have e2 : (((x % ((2 ^ 32 : Nat) : Int)).toNat % 2 ^ k : Nat) : Int) = (x % ((2 ^ 32 : Nat) : Int)) % ((2 ^ k : Nat) : Int) := by
    rw [Int.natCast_emod, Int.toNat_of_nonneg h0]
  rw [e2]
  have hd : ((2 ^ k : Nat) : Int) ∣ ((2 ^ 32 : Nat) : Int) := by
    refine ⟨((2 ^ (32 - k) : Nat) : Int), ?_⟩
    rw [← Int.natCast_mul, ← Nat.pow_add, show k + (32 - k) = 32 by omega]
  exact Int.emod_emod_of_dvd x hd
theorem iand255 (x : Int) : ax_iand x 255 = x % 256 := iand_mod x 8 (by decide)
theorem iand15 (x : Int) : ax_iand x 15 = x % 16 := iand_mod x 4 (by decide)
theorem iand8191 (x : Int) : ax_iand x 8191 = x % 8192 := iand_mod x 13 (by decide)
theorem FU_split {k : Nat} (h : k ≤ 1000000) : ∃ F, FU = F + k := ⟨1000000 - k, by unfold FU; omega⟩
/-! WHITE: behindWhite and skip. -/
def chs (t : Nat → Int) (n i : Nat) : Int := if i < n then t i else -1
def wht (c : Int) : Bool := c == 9 || c == 10 || c == 13 || c == 32
def wsk (t : Nat → Int) : Nat → Bool → Nat → Nat
  | 0, _, i => i
  | k + 1, cm, i => if wht (t i) || (t i == 35 || (cm && t i != 10)) then wsk t k (t i == 35 || (cm && t i != 10)) (i + 1) else i
def nlk (t : Nat → Int) : Nat → Nat → Nat
  | 0, i => i
  | k + 1, i => if t i = 10 then i else nlk t k (i + 1)
theorem nlk_ge (t : Nat → Int) : ∀ k i, i ≤ nlk t k i ∧ nlk t k i ≤ i + k := by
  intro k
  induction k with
  | zero => intro i; exact ⟨Nat.le_refl _, Nat.le_refl _⟩
  | succ k ih =>
    intro i
    simp only [nlk]
    split
    · omega
    · have := ih (i + 1); omega
theorem wsk_ge (t : Nat → Int) : ∀ k cm i, i ≤ wsk t k cm i ∧ wsk t k cm i ≤ i + k := by
  intro k
  induction k with
  | zero => intro cm i; exact ⟨Nat.le_refl _, Nat.le_refl _⟩
  | succ k ih =>
    intro cm i
    simp only [wsk]
    split
    · have := ih (t i == 35 || (cm && t i != 10)) (i + 1); omega
    · omega
theorem wsk_true (t : Nat → Int) : ∀ k i, wsk t k true i = wsk t (k - (nlk t k i - i)) false (nlk t k i) := by
  intro k
  induction k with
  | zero => intro i; simp [wsk, nlk]
  | succ k ih =>
    intro i
    by_cases h : t i = 10
    · simp [wsk, nlk, h, wht]
    · have hg := nlk_ge t k (i + 1)
      have e : nlk t (k + 1) i = nlk t k (i + 1) := by simp [nlk, h]
      rw [e, show k + 1 - (nlk t k (i + 1) - i) = k - (nlk t k (i + 1) - (i + 1)) by omega, ← ih]
      have b : (t i != 10) = true := by simp [h]
      simp [wsk, b]
section SK
variable {s : Sg} {n : Nat}
theorem c83 (hn : s 39 8 = (n : Int)) (h8 : n ≤ 8192) (i : Nat) : f_83 (i : Int) s = chs (fun i => s 40 i % 256) n i ∧ g_83 (i : Int) s := by
  unfold f_83 g_83 chs
  rw [hn]
  have h0 : ¬ (i : Int) < 0 := by omega
  rw [if_neg h0]
  by_cases h : i < n
  · rw [if_neg (by omega), if_pos h, iand255, Int.toNat_natCast]
    exact ⟨rfl, fun h1 => absurd h1 h0, fun _ => ⟨fun _ => trivial, fun _ => ⟨⟨by omega, by omega⟩, trivial⟩⟩⟩
  · rw [if_pos (by omega), if_neg h]
    exact ⟨rfl, fun h1 => absurd h1 h0, fun _ => ⟨fun _ => trivial, fun h2 => absurd (show (n : Int) ≤ i by omega) h2⟩⟩
theorem m224 (hn : s 84 3 = (n : Int)) (h8 : n ≤ 8192) (i : Nat) : f_224 (i : Int) s = chs (s 86) n i ∧ g_224 (i : Int) s := by
  unfold f_224 g_224 chs
  rw [hn]
  by_cases h : i < n
  · rw [if_neg (by omega), if_pos h, Int.toNat_natCast]
    exact ⟨rfl, fun _ => trivial, fun _ => ⟨⟨by omega, by omega⟩, trivial⟩⟩
  · rw [if_pos (by omega), if_neg h]
    exact ⟨rfl, fun _ => trivial, fun h2 => absurd (show (n : Int) ≤ i by omega) h2⟩
theorem w32_nat {i : Nat} (h : i ≤ 100000) : ax_w32 ((i : Int) + 1) = ((i + 1 : Nat) : Int) := by rw [w32_id (by omega) (by omega)]; omega
theorem c76l (hn : s 39 8 = (n : Int)) (h8 : n ≤ 8192) : ∀ (k i F : Nat) (cm : Bool), i + k = n → j_76_4 (F + k + 1) (if cm then 1 else 0) (i : Int) s = some ((wsk (fun i => s 40 i % 256) k cm i : Nat) : Int) := by
  intro k
  induction k with
  | zero =>
    intro i F cm h
    rw [j_76_4, if_pos (by omega)]
    simp only [wsk]
    rw [hn, show n = i by omega]
  | succ k ih =>
    intro i F cm h
    obtain ⟨e, g⟩ := c83 hn h8 i
    have hi : chs (fun i => s 40 i % 256) n i = s 40 i % 256 := if_pos (by omega)
    rw [j_76_4, if_neg (by omega), gd_pos g, e, hi]
    generalize hc : s 40 i % 256 = c
    have e1 : ((if c = 9 then 1 else (if c = 10 then 1 else (if c = 13 then 1 else (if ¬ c = 32 then 0 else 1)))) : Int) = if wht c then 1 else 0 := by
      unfold wht
      by_cases h1 : c = 9
      · simp [h1]
      by_cases h2 : c = 10
      · simp [h2]
      by_cases h3 : c = 13
      · simp [h3]
      by_cases h4 : c = 32
      · simp [h4]
      simp [h1, h2, h3, h4]
    have e2 : ((if c = 35 then 1 else (if ((if cm then 1 else 0) : Int) = 0 then 0 else (if c = 10 then 0 else 1))) : Int) = if (c == 35 || (cm && c != 10)) then 1 else 0 := by
      by_cases h1 : c = 35
      · simp [h1]
      by_cases h2 : c = 10
      · cases cm <;> simp [h2]
      cases cm <;> simp [h1, h2]
    rw [e1, e2]
    have step := ih (i + 1) F (c == 35 || (cm && c != 10)) (by omega)
    have w : wsk (fun i => s 40 i % 256) (k + 1) cm i = if wht c || (c == 35 || (cm && c != 10)) then wsk (fun i => s 40 i % 256) k (c == 35 || (cm && c != 10)) (i + 1) else i := by
      simp only [wsk, hc]
    rw [w]
    unfold j_76_89
    rw [w32_nat (by omega)]
    have hF : F + (k + 1) = F + k + 1 := by omega
    rw [hF]
    by_cases q1 : wht c = true
    · rw [if_pos (by simp [q1]), step]
      simp [q1]
    · by_cases q2 : (c == 35 || (cm && c != 10)) = true
      · rw [if_neg (by simp [q1]), if_pos (by simp [q2]), step]
        simp [q2]
      · rw [if_neg (by simp [q1]), if_neg (by simp [q2])]
        simp [q1, q2]
theorem c76 (hn : s 39 8 = (n : Int)) (h8 : n ≤ 8192) (i : Nat) (hi : i ≤ n) : f_76 (i : Int) s = some ((wsk (fun i => s 40 i % 256) (n - i) false i : Nat) : Int) := by
  obtain ⟨F, hF⟩ := FU_split (k := n - i + 1) (by omega)
  unfold f_76
  rw [hF, show F + (n - i + 1) = F + (n - i) + 1 by omega]
  exact c76l hn h8 (n - i) i F false (by omega)
theorem m223n (hn : s 84 3 = (n : Int)) (h8 : n ≤ 8192) {k4 : Int → Int → Sg → Option Int} : ∀ (k i F : Nat), i + k = n → j_223_64 k4 (F + k + 1) (i : Int) 1 s = k4 ((nlk (s 86) k i : Nat) : Int) 1 s := by
  intro k
  induction k with
  | zero =>
    intro i F h
    rw [j_223_64, if_pos (by omega)]
    simp only [nlk]
  | succ k ih =>
    intro i F h
    obtain ⟨e, g⟩ := m224 hn h8 i
    have hi : chs (s 86) n i = s 86 i := if_pos (by omega)
    rw [j_223_64, if_neg (by omega), gd_pos g, e, hi]
    simp only [nlk]
    split
    · rfl
    · rw [w32_nat (by omega), show F + (k + 1) = F + k + 1 by omega]
      exact ih (i + 1) F (by omega)
theorem m223l (hn : s 84 3 = (n : Int)) (h8 : n ≤ 8192) : ∀ (k i F : Nat), i + k = n → j_223_4 (F + 2 * k + 2) (i : Int) 1 s = some ((wsk (s 86) k false i : Nat) : Int) := by
  intro k
  induction k using Nat.strongRecOn with
  | ind k ih =>
    intro i F h
    obtain ⟨e, g⟩ := m224 hn h8 i
    have fin : ∀ G, j_223_4 (G + 1) (i : Int) 0 s = some ((i : Nat) : Int) := fun G => by rw [j_223_4, if_pos rfl]
    rw [j_223_4, if_neg (by decide), gd_pos g, gd_pos g, gd_pos g, gd_pos g, gd_pos g, e]
    cases k with
    | zero =>
      have hi : chs (s 86) n i = -1 := if_neg (by omega)
      rw [hi]
      simp only [wsk]
      simp only [show ¬ (-1 : Int) = 9 by decide, show ¬ (-1 : Int) = 10 by decide, show ¬ (-1 : Int) = 13 by decide, show ¬ (-1 : Int) = 32 by decide, show ¬ (-1 : Int) = 35 by decide, if_false, not_false_eq_true, if_true]
      exact fin F
    | succ k =>
      have hi : chs (s 86) n i = s 86 i := if_pos (by omega)
      rw [hi]
      have nx : j_223_48 (j_223_4 (F + 2 * (k + 1) + 1)) (i : Int) 1 s = some ((wsk (s 86) k false (i + 1) : Nat) : Int) := by
        unfold j_223_48
        rw [w32_nat (by omega), show F + 2 * (k + 1) + 1 = F + 1 + 2 * k + 2 by omega]
        exact ih k (by omega) (i + 1) (F + 1) (by omega)
      have w : wsk (s 86) (k + 1) false i = if wht (s 86 i) || (s 86 i == 35) then wsk (s 86) k (s 86 i == 35) (i + 1) else i := by
        simp only [wsk, Bool.false_and, Bool.or_false]
      rw [w]
      by_cases h1 : s 86 i = 9
      · rw [if_pos h1, nx]; simp [h1, wht]
      by_cases h2 : s 86 i = 10
      · rw [if_neg h1, if_pos h2, nx]; simp [h2, wht]
      by_cases h3 : s 86 i = 13
      · rw [if_neg h1, if_neg h2, if_pos h3, nx]; simp [h3, wht]
      by_cases h4 : s 86 i = 32
      · rw [if_neg h1, if_neg h2, if_neg h3, if_neg (by simp [h4]), nx]; simp [h4, wht]
      by_cases h5 : s 86 i = 35
      · rw [if_neg h1, if_neg h2, if_neg h3, if_pos h4, if_neg (by simp [h5])]
        obtain ⟨G, hG⟩ := FU_split (k := k + 1 + 1) (by omega)
        rw [hG, show G + (k + 1 + 1) = G + (k + 1) + 1 by omega, m223n hn h8 (k + 1) i G (by omega)]
        have hg := nlk_ge (s 86) k (i + 1)
        have en : nlk (s 86) (k + 1) i = nlk (s 86) k (i + 1) := by simp [nlk, h5]
        rw [en]
        have := ih (k - (nlk (s 86) k (i + 1) - (i + 1))) (by omega) (nlk (s 86) k (i + 1)) (F + 1 + 2 * k - 2 * (k - (nlk (s 86) k (i + 1) - (i + 1)))) (by omega)
        rw [show F + 2 * (k + 1) + 1 = F + 1 + 2 * k - 2 * (k - (nlk (s 86) k (i + 1) - (i + 1))) + 2 * (k - (nlk (s 86) k (i + 1) - (i + 1))) + 2 by omega, this, ← wsk_true]
        simp [h5]
      · rw [if_neg h1, if_neg h2, if_neg h3, if_pos h4, if_pos h5]
        simp only [wht, h1, h2, h3, h4, h5, beq_iff_eq, Bool.or_eq_true, or_self, if_false]
        exact fin _
theorem m223 (hn : s 84 3 = (n : Int)) (h8 : n ≤ 8192) (i : Nat) (hi : i ≤ n) : f_223 (i : Int) s = some ((wsk (s 86) (n - i) false i : Nat) : Int) := by
  obtain ⟨F, hF⟩ := FU_split (k := 2 * (n - i) + 2) (by omega)
  unfold f_223
  rw [hF, show F + (2 * (n - i) + 2) = F + 2 * (n - i) + 2 by omega]
  exact m223l hn h8 (n - i) i F (by omega)
end SK
/-! THE TABLE OF NAMES. -/
theorem php : ∀ (n m : Nat) (f : Nat → Nat), (∀ i, i < n → f i < m) → (∀ i j, i < n → j < n → f i = f j → i = j) → n ≤ m := by
  intro n
  induction n with
  | zero => intro m f _ _; omega
  | succ n ih =>
    intro m f h1 h2
    have h3 := h1 n (by omega)
    obtain ⟨m, rfl⟩ : ∃ k, m = k + 1 := ⟨m - 1, by omega⟩
    have h4 := ih m (fun i => if f i = m then f n else f i) (fun i hi => by
      have a := h1 i (by omega)
      show (if f i = m then f n else f i) < m
      split
      · rename_i e
        have : f n ≠ m := fun e2 => by
          have := h2 i n (by omega) (by omega) (by omega)
          omega
        omega
      · omega) (fun i j hi hj e => by
      have e' : (if f i = m then f n else f i) = (if f j = m then f n else f j) := e
      split at e'
      · split at e'
        · exact h2 i j (by omega) (by omega) (by omega)
        · have := h2 n j (by omega) (by omega) e'
          omega
      · split at e'
        · have := h2 i n (by omega) (by omega) e'
          omega
        · exact h2 i j (by omega) (by omega) e')
    omega
def hsh (hi lo : Int) : Int := ax_iand (ax_w32 (ax_lushr (ax_w64 ((ax_w64 ((ax_w64 (hi * 31)) + lo)) * (-7046029254386353131))) 51)) 8191
def hs (hi lo : Int) : Nat := (hsh hi lo).toNat
theorem hs_eq (hi lo : Int) : hsh hi lo = ((hs hi lo : Nat) : Int) := by
  unfold hs
  rw [Int.toNat_of_nonneg]
  unfold hsh
  rw [iand8191]
  exact Int.emod_nonneg _ (by decide)
theorem hs_lt (hi lo : Int) : hs hi lo < 8192 := by
  have h := hs_eq hi lo
  have : hsh hi lo < 8192 := by
    unfold hsh
    rw [iand8191]
    exact Int.emod_lt_of_pos _ (by decide)
  omega
def pb (h e : Nat) : Nat := (h + e) % 8192
theorem pb_lt (h e : Nat) : pb h e < 8192 := Nat.mod_lt _ (by decide)
theorem pb_next {h e : Nat} : ax_iand (ax_w32 (((pb h e : Nat) : Int) + 1)) 8191 = ((pb h (e + 1) : Nat) : Int) := by
  have h1 := pb_lt h e
  rw [w32_id (by omega) (by omega), iand8191]
  unfold pb at *
  omega
theorem pb_inj {h e e' : Nat} (he : e < 8192) (he' : e' < 8192) (q : pb h e = pb h e') : e = e' := by
  unfold pb at q
  omega
/-- the table holds m names -/
def NI (s : Sg) (m : Nat) : Prop :=
  s 31 7 = (m : Int) ∧ m ≤ 4112 ∧
  (∀ q : Nat, q < 8192 → 0 ≤ s 32 q ∧ s 32 q ≤ (m : Int)) ∧
  (∀ k, k < m → ∃ q : Nat, q < 8192 ∧ s 33 k = (q : Int) ∧ s 32 q = (k : Int) + 1) ∧
  (∀ q : Nat, q < 8192 → s 32 q ≠ 0 → s 33 ((s 32 q) - 1).toNat = (q : Int)) ∧
  (∀ k, k < m → ∃ d, d < 8192 ∧ s 33 k = ((pb (hs (s 34 k) (s 35 k)) d : Nat) : Int) ∧ ∀ e, e < d → 1 ≤ s 32 (pb (hs (s 34 k) (s 35 k)) e) ∧ s 32 (pb (hs (s 34 k) (s 35 k)) e) ≤ (k : Int)) ∧
  (∀ k l, k < m → l < m → s 34 k = s 34 l → s 35 k = s 35 l → k = l)
/-- what a new name changes -/
def NNew (s s' : Sg) (m : Nat) (hi lo : Int) : Prop :=
  NI s' (m + 1) ∧ (∀ k, k < m → s' 34 k = s 34 k ∧ s' 35 k = s 35 k ∧ s' 36 k = s 36 k ∧ s' 37 k = s 37 k) ∧ s' 34 m = hi ∧ s' 35 m = lo ∧ s' 36 m = -1 ∧ s' 37 m = 0 ∧
  (∀ j, j ≠ 7 → s' 31 j = s 31 j) ∧ (∀ a, a < 31 ∨ 37 < a → s' a = s a)
theorem NI.free {s : Sg} {m : Nat} (h : NI s m) (g : Nat) (hm : ∀ e, e < 8192 → s 32 (pb g e) ≠ 0) : False := by
  obtain ⟨h1, h2, h3, h4, h5, h6, h7⟩ := h
  have := php 8192 m (fun e => (s 32 (pb g e) - 1).toNat) (fun e he => by
    have a := h3 (pb g e) (pb_lt g e)
    have b := hm e he
    show (s 32 (pb g e) - 1).toNat < m
    omega) (fun e e' he he' q => by
    have q' : (s 32 (pb g e) - 1).toNat = (s 32 (pb g e') - 1).toNat := q
    have a := h5 (pb g e) (pb_lt g e) (hm e he)
    have b := h5 (pb g e') (pb_lt g e') (hm e' he')
    rw [q', b] at a
    exact pb_inj (h := g) he he' (by omega))
  omega
theorem added_ok {s : Sg} {m : Nat} (h : NI s m) (hm : m < 4112) (hi lo : Int) (e : Nat) (he : e < 8192) (h0 : s 32 (pb (hs hi lo) e) = 0)
    (hv : ∀ e', e' < e → 1 ≤ s 32 (pb (hs hi lo) e') ∧ ¬ (s 34 (s 32 (pb (hs hi lo) e') - 1).toNat = hi ∧ s 35 (s 32 (pb (hs hi lo) e') - 1).toNat = lo)) :
    g_111 hi lo ((pb (hs hi lo) e : Nat) : Int) s ∧ (f_111 hi lo ((pb (hs hi lo) e : Nat) : Int) s).1 = (m : Int) ∧ NNew s (f_111 hi lo ((pb (hs hi lo) e : Nat) : Int) s).2 m hi lo ∧ (∀ k, k < m → ¬ (s 34 k = hi ∧ s 35 k = lo)) := by
  have hp := pb_lt (hs hi lo) e
  generalize hgp : pb (hs hi lo) e = p at *
  obtain ⟨h1, h2, h3, h4, h5, h6, h7⟩ := id h
  have no : ∀ k, k < m → ¬ (s 34 k = hi ∧ s 35 k = lo) := by
    intro k hk ⟨e1, e2⟩
    obtain ⟨d, hd, a, b⟩ := h6 k hk
    rw [e1, e2] at a b
    obtain ⟨q, hq, a2, b2⟩ := h4 k hk
    have hqd : q = pb (hs hi lo) d := by omega
    by_cases c : d < e
    · have := (hv d c).2
      rw [← hqd, b2] at this
      exact this ⟨by rw [show ((k : Int) + 1 - 1).toNat = k by omega]; exact e1, by rw [show ((k : Int) + 1 - 1).toNat = k by omega]; exact e2⟩
    · by_cases c2 : d = e
      · subst c2
        rw [hqd, hgp] at b2
        omega
      · have := (b e (by omega)).1
        rw [hgp] at this
        omega
  have t7 : (s 31 7).toNat = m := by omega
  have w1 : ax_w32 (s 31 7 + 1) = (m : Int) + 1 := by rw [h1, w32_id (by omega) (by omega)]
  have w2 : ax_w32 ((m : Int) + 1 - 1) = (m : Int) := by rw [w32_id (by omega) (by omega)]; omega
  refine ⟨?_, ?_, ?_, no⟩
  · unfold g_111
    refine ⟨fun _ => trivial, fun _ => ⟨fun _ => trivial, fun _ => ⟨fun _ => ?_, fun _ => trivial⟩⟩⟩
    have : 0 ≤ s 31 7 ∧ s 31 7 < 4112 := by omega
    exact ⟨this, this, this, this, this, ⟨by omega, by omega⟩, trivial⟩
  · unfold f_111
    rw [if_neg (by omega), if_neg (by omega), if_pos (by omega), w1]
    exact w2
  · have ef : (f_111 hi lo ((p : Nat) : Int) s).2 = (ax_u2 (ax_u2 (ax_u2 (ax_u2 (ax_u2 (ax_u2 (ax_u2 s 33 m p) 34 m hi) 35 m lo) 36 m (-1)) 37 m 0) 31 7 ((m : Int) + 1)) 32 p ((m : Int) + 1)) := by
      unfold f_111
      rw [if_neg (by omega), if_neg (by omega), if_pos (by omega), w1, t7, Int.toNat_natCast]
    rw [ef]
    generalize hs' : (ax_u2 (ax_u2 (ax_u2 (ax_u2 (ax_u2 (ax_u2 (ax_u2 s 33 m p) 34 m hi) 35 m lo) 36 m (-1)) 37 m 0) 31 7 ((m : Int) + 1)) 32 p ((m : Int) + 1)) = s'
    have r32 : ∀ q, s' 32 q = if q = p then (m : Int) + 1 else s 32 q := by intro q; rw [← hs']; simp [ax_u2]
    have r33 : ∀ q, s' 33 q = if q = m then (p : Int) else s 33 q := by intro q; rw [← hs']; simp [ax_u2]
    have r34 : ∀ q, s' 34 q = if q = m then hi else s 34 q := by intro q; rw [← hs']; simp [ax_u2]
    have r35 : ∀ q, s' 35 q = if q = m then lo else s 35 q := by intro q; rw [← hs']; simp [ax_u2]
    have r36 : ∀ q, s' 36 q = if q = m then -1 else s 36 q := by intro q; rw [← hs']; simp [ax_u2]
    have r37 : ∀ q, s' 37 q = if q = m then 0 else s 37 q := by intro q; rw [← hs']; simp [ax_u2]
    have r31 : ∀ q, s' 31 q = if q = 7 then (m : Int) + 1 else s 31 q := by intro q; rw [← hs']; simp [ax_u2]
    refine ⟨⟨?_, by omega, ?_, ?_, ?_, ?_, ?_⟩, ?_, ?_, ?_, ?_, ?_, ?_, ?_⟩
    · rw [r31, if_pos rfl]; omega
    · intro q hq
      rw [r32]
      have := h3 q hq
      split <;> omega
    · intro k hk
      by_cases c : k = m
      · subst c
        exact ⟨p, hp, by rw [r33, if_pos rfl], by rw [r32, if_pos rfl]⟩
      · obtain ⟨q, hq, a, b⟩ := h4 k (by omega)
        exact ⟨q, hq, by rw [r33, if_neg c]; exact a, by rw [r32, if_neg (fun e => by rw [e] at b; omega)]; exact b⟩
    · intro q hq hz
      rw [r32] at hz ⊢
      by_cases c : q = p
      · rw [if_pos c, r33, if_pos (by omega), c]
      · rw [if_neg c] at hz ⊢
        have := h3 q hq
        rw [r33, if_neg (by omega)]
        exact h5 q hq hz
    · intro k hk
      by_cases c : k = m
      · subst c
        refine ⟨e, he, ?_, ?_⟩
        · rw [r33, r34, r35, if_pos rfl, if_pos rfl, if_pos rfl, hgp]
        · intro e' he'
          have a := hv e' he'
          have b := h3 (pb (hs hi lo) e') (pb_lt _ _)
          rw [r34, r35, if_pos rfl, if_pos rfl, r32, if_neg (fun x => by rw [x] at a; omega)]
          omega
      · obtain ⟨d, hd, a, b⟩ := h6 k (by omega)
        refine ⟨d, hd, ?_, ?_⟩
        · rw [r33, r34, r35, if_neg c, if_neg c, if_neg c]
          exact a
        · intro e' he'
          have b1 := b e' he'
          rw [r34, r35, if_neg c, if_neg c, r32, if_neg (fun x => by rw [x] at b1; omega)]
          exact b1
    · intro k l hk hl e1 e2
      rw [r34, r34] at e1
      rw [r35, r35] at e2
      by_cases c : k = m
      · by_cases c2 : l = m
        · omega
        · rw [if_pos c, if_neg c2] at e1 e2
          exact absurd ⟨e1.symm, e2.symm⟩ (no l (by omega))
      · by_cases c2 : l = m
        · rw [if_neg c, if_pos c2] at e1 e2
          exact absurd ⟨e1, e2⟩ (no k (by omega))
        · rw [if_neg c, if_neg c2] at e1 e2
          exact h7 k l (by omega) (by omega) e1 e2
    · intro k hk
      rw [r34, r35, r36, r37, if_neg (by omega), if_neg (by omega), if_neg (by omega), if_neg (by omega)]
      exact ⟨rfl, rfl, rfl, rfl⟩
    · rw [r34, if_pos rfl]
    · rw [r35, if_pos rfl]
    · rw [r36, if_pos rfl]
    · rw [r37, if_pos rfl]
    · intro j hj
      rw [r31, if_neg hj]
    · intro a ha
      rw [← hs']
      funext j
      simp only [ax_u2]
      rw [if_neg (by omega), if_neg (by omega), if_neg (by omega), if_neg (by omega), if_neg (by omega), if_neg (by omega), if_neg (by omega)]
theorem idOf_l {s : Sg} {m : Nat} (h : NI s m) (hm : m < 4112) (hi lo : Int) : ∀ (r e F : Nat), e + r = 8192 →
    (∀ e', e' < e → 1 ≤ s 32 (pb (hs hi lo) e') ∧ ¬ (s 34 (s 32 (pb (hs hi lo) e') - 1).toNat = hi ∧ s 35 (s 32 (pb (hs hi lo) e') - 1).toNat = lo)) →
    (∃ k, k < m ∧ s 34 k = hi ∧ s 35 k = lo ∧ j_107_24 (F + r + 1) hi lo ((pb (hs hi lo) e : Nat) : Int) (e : Int) s = some ((k : Int), s)) ∨
    (∃ s', NNew s s' m hi lo ∧ (∀ k, k < m → ¬ (s 34 k = hi ∧ s 35 k = lo)) ∧ j_107_24 (F + r + 1) hi lo ((pb (hs hi lo) e : Nat) : Int) (e : Int) s = some ((m : Int), s')) := by
  intro r
  induction r with
  | zero =>
    intro e F he hv
    exact absurd h (fun h => h.free (hs hi lo) (fun e' he' => by have := (hv e' (by omega)).1; omega))
  | succ r ih =>
    intro e F he hv
    have hp := pb_lt (hs hi lo) e
    obtain ⟨h1, h2, h3, h4, h5, h6, h7⟩ := id h
    have a3 := h3 _ hp
    rw [j_107_24, if_neg (by omega), gd_pos (by omega), Int.toNat_natCast]
    by_cases c : s 32 (pb (hs hi lo) e) = 0
    · obtain ⟨g, f1, f2, f3⟩ := added_ok h hm hi lo e (by omega) c hv
      refine Or.inr ⟨_, f2, f3, ?_⟩
      rw [if_neg (by rw [c, w32_id (by omega) (by omega)]; omega)]
      unfold j_107_48
      rw [gd_pos g]
      show some ((f_111 hi lo _ s).1, _) = _
      rw [f1]
    · have w : ax_w32 (s 32 (pb (hs hi lo) e) - 1) = s 32 (pb (hs hi lo) e) - 1 := w32_id (by omega) (by omega)
      rw [w, if_pos (by omega), if_neg (by omega), gd_pos (by omega), gd_pos (by omega)]
      have nx : ¬ (s 34 (s 32 (pb (hs hi lo) e) - 1).toNat = hi ∧ s 35 (s 32 (pb (hs hi lo) e) - 1).toNat = lo) → (∃ k, k < m ∧ s 34 k = hi ∧ s 35 k = lo ∧ j_107_93 (j_107_24 (F + (r + 1))) hi lo ((pb (hs hi lo) e : Nat) : Int) (e : Int) s = some ((k : Int), s)) ∨
    (∃ s', NNew s s' m hi lo ∧ (∀ k, k < m → ¬ (s 34 k = hi ∧ s 35 k = lo)) ∧ j_107_93 (j_107_24 (F + (r + 1))) hi lo ((pb (hs hi lo) e : Nat) : Int) (e : Int) s = some ((m : Int), s')) := by
        intro d
        unfold j_107_93
        rw [pb_next, w32_nat (by omega), show F + (r + 1) = F + r + 1 by omega]
        refine ih (e + 1) F (by omega) (fun e' he' => ?_)
        by_cases x : e' = e
        · subst x
          exact ⟨by omega, d⟩
        · exact hv e' (by omega)
      by_cases d1 : s 34 (s 32 (pb (hs hi lo) e) - 1).toNat = hi
      · by_cases d2 : s 35 (s 32 (pb (hs hi lo) e) - 1).toNat = lo
        · refine Or.inl ⟨(s 32 (pb (hs hi lo) e) - 1).toNat, by omega, d1, d2, ?_⟩
          rw [if_neg (by rw [d1]; simp [cmp_eq]), if_neg (by rw [d2]; simp [cmp_eq]), Int.toNat_of_nonneg (by omega)]
        · rw [if_neg (by rw [d1]; simp [cmp_eq]), if_pos (by rw [cmp_eq]; exact d2)]
          exact nx (fun x => d2 x.2)
      · rw [if_pos (by rw [cmp_eq]; exact d1)]
        exact nx (fun x => d1 x.1)
theorem idOf_ok {s : Sg} {m : Nat} (h : NI s m) (hm : m < 4112) (hi lo : Int) :
    (∃ k, k < m ∧ s 34 k = hi ∧ s 35 k = lo ∧ f_107 hi lo s = some ((k : Int), s)) ∨
    (∃ s', NNew s s' m hi lo ∧ (∀ k, k < m → ¬ (s 34 k = hi ∧ s 35 k = lo)) ∧ f_107 hi lo s = some ((m : Int), s')) := by
  obtain ⟨F, hF⟩ := FU_split (k := 8193) (by omega)
  have e := hs_eq hi lo
  unfold hsh at e
  unfold f_107
  rw [hF, e]
  have := idOf_l h hm hi lo 8192 0 F (by omega) (fun e' he' => by omega)
  rw [show pb (hs hi lo) 0 = hs hi lo by have := hs_lt hi lo; unfold pb; omega] at this
  exact this
/-! KEYS: the bytes of a name in two longs. -/
def u64 (x : Int) : Nat := (BitVec.ofInt 64 x).toNat
theorem u64_or (a b : Int) : u64 (ax_lor a b) = u64 a ||| u64 b := by
  unfold u64 ax_lor
  have e : BitVec.ofInt 64 (Int64.ofInt a ||| Int64.ofInt b).toInt = BitVec.ofInt 64 a ||| BitVec.ofInt 64 b := BitVec.ofInt_toInt
  rw [e, BitVec.toNat_or]
theorem u64_shl8 (a : Int) : u64 (ax_lshl a 8) = u64 a * 256 % 18446744073709551616 := by
  unfold u64 ax_lshl
  have e : BitVec.ofInt 64 (Int64.ofInt a <<< ((Int32.ofInt 8).toInt64 &&& 63)).toInt = BitVec.ofInt 64 a <<< 8 := BitVec.ofInt_toInt
  rw [e, BitVec.toNat_shiftLeft, Nat.shiftLeft_eq]
theorem u64_ushr56 (a : Int) : u64 (ax_lushr a 56) = u64 a / 72057594037927936 := by
  unfold u64 ax_lushr
  have e : BitVec.ofInt 64 (((Int64.ofInt a).toUInt64 >>> ((Int32.ofInt 56).toInt64.toUInt64 &&& Int64.toUInt64 63)).toInt64.toInt) = BitVec.ofInt 64 a >>> 56 := BitVec.ofInt_toInt
  rw [e, BitVec.toNat_ushiftRight, Nat.shiftRight_eq_div_pow]
theorem u64_lt (a : Int) : u64 a < 18446744073709551616 := (BitVec.ofInt 64 a).isLt
theorem u64_nat {c : Nat} (h : c < 18446744073709551616) : u64 (c : Int) = c := by
  unfold u64
  rw [BitVec.ofInt_natCast, BitVec.toNat_ofNat]
  exact Nat.mod_eq_of_lt h
/-- in the bounds of a long -/
def inl64 (a : Int) : Prop := (BitVec.ofInt 64 a).toInt = a
theorem inl64_or (a b : Int) : inl64 (ax_lor a b) := by
  unfold inl64 ax_lor
  have e : BitVec.ofInt 64 (Int64.ofInt a ||| Int64.ofInt b).toInt = BitVec.ofInt 64 a ||| BitVec.ofInt 64 b := BitVec.ofInt_toInt
  rw [e]
  rfl
theorem inl64_inj {a b : Int} (ha : inl64 a) (hb : inl64 b) (h : u64 a = u64 b) : a = b := by
  unfold inl64 at ha hb
  have : BitVec.ofInt 64 a = BitVec.ofInt 64 b := BitVec.eq_of_toNat_eq h
  rw [← ha, ← hb, this]
theorem or_add {a b : Nat} (hb : b < 256) : a * 256 % 18446744073709551616 ||| b = a * 256 % 18446744073709551616 + b := by
  have e : a * 256 % 18446744073709551616 = (a % 72057594037927936) <<< 8 := by
    rw [Nat.shiftLeft_eq]
    omega
  rw [e, ← Nat.shiftLeft_add_eq_or_of_lt (by exact hb)]
theorem or_lo {l c : Int} (h0 : 0 ≤ c) (h1 : c < 256) : u64 (ax_lor (ax_lshl l 8) c) = (u64 l * 256) % 18446744073709551616 + c.toNat := by
  obtain ⟨c, rfl⟩ := Int.eq_ofNat_of_zero_le h0
  rw [u64_or, u64_shl8, u64_nat (by omega), or_add (by omega)]
  rfl
theorem or_hi {u l : Int} : u64 (ax_lor (ax_lshl u 8) (ax_lushr l 56)) = (u64 u * 256) % 18446744073709551616 + u64 l / 72057594037927936 := by
  have := u64_lt l
  rw [u64_or, u64_shl8, u64_ushr56, or_add (by omega)]
/-- a name's letters spelled -/
def spl (t : Nat → Int) : Nat → Nat → Int × Int
  | 0, _ => (0, 0)
  | k + 1, i => (ax_lor (ax_lshl (spl t k i).1 8) (ax_lushr (spl t k i).2 56), ax_lor (ax_lshl (spl t k i).2 8) (t (i + k)))
def pk (t : Nat → Int) : Nat → Nat → Nat
  | 0, _ => 0
  | k + 1, i => pk t k i * 256 + (t (i + k)).toNat
theorem pkn_lt (t : Nat → Int) (i : Nat) : ∀ k, (∀ e, e < k → 0 < t (i + e) ∧ t (i + e) < 256) → pk t k i < 256 ^ k := by
  intro k
  induction k with
  | zero => intro _; exact Nat.one_pos
  | succ k ih =>
    intro h
    have a := ih (fun e he => h e (by omega))
    have b := h k (by omega)
    simp only [pk]
    rw [Nat.pow_succ]
    omega
set_option maxRecDepth 20000 in
theorem spl_pk (t : Nat → Int) (i : Nat) : ∀ k, (∀ e, e < k → 0 < t (i + e) ∧ t (i + e) < 256) → k ≤ 16 → u64 (spl t k i).1 * 18446744073709551616 + u64 (spl t k i).2 = pk t k i ∧ inl64 (spl t k i).1 ∧ inl64 (spl t k i).2 := by
  intro k
  induction k with
  | zero => intro _ _; exact ⟨(by decide : u64 0 * 18446744073709551616 + u64 0 = 0), (by decide : (BitVec.ofInt 64 0).toInt = 0), (by decide : (BitVec.ofInt 64 0).toInt = 0)⟩
  | succ k ih =>
    intro h hk
    obtain ⟨a, b, c⟩ := ih (fun e he => h e (by omega)) (by omega)
    have d := h k (by omega)
    have lt := pkn_lt t i k (fun e he => h e (by omega))
    have l1 := u64_lt (spl t k i).1
    have l2 := u64_lt (spl t k i).2
    have hp : 256 ^ k ≤ 256 ^ 15 := Nat.pow_le_pow_right (by decide) (by omega)
    have hp2 : (256 : Nat) ^ 15 = 1329227995784915872903807060280344576 := by decide
    rw [hp2] at hp
    have lt2 := Nat.lt_of_lt_of_le lt hp
    clear lt hp hp2
    refine ⟨?_, inl64_or _ _, inl64_or _ _⟩
    simp only [spl, pk]
    rw [or_hi, or_lo (by omega) (by omega), ← a]
    rw [← a] at lt2
    clear a b c
    generalize u64 (spl t k i).1 = A at *
    generalize u64 (spl t k i).2 = B at *
    generalize (t (i + k)).toNat = C
    have hA : A < 72057594037927936 := by omega
    have e1 : A * 256 % 18446744073709551616 = A * 256 := Nat.mod_eq_of_lt (by omega)
    have e2 := Nat.div_add_mod B 72057594037927936
    have e3 := Nat.mod_lt B (show 72057594037927936 > 0 by decide)
    generalize B / 72057594037927936 = D at *
    generalize B % 72057594037927936 = E at *
    have e4 : B * 256 % 18446744073709551616 = E * 256 := by
      rw [← e2, show (72057594037927936 * D + E) * 256 = E * 256 + 18446744073709551616 * D by omega, Nat.add_mul_mod_self_left]
      exact Nat.mod_eq_of_lt (by omega)
    rw [e1, e4, ← e2]
    omega
theorem pkn_inj (t t' : Nat → Int) : ∀ (k k' i i' : Nat), (∀ e, e < k → 0 < t (i + e) ∧ t (i + e) < 256) → (∀ e, e < k' → 0 < t' (i' + e) ∧ t' (i' + e) < 256) → pk t k i = pk t' k' i' → k = k' ∧ ∀ e, e < k → t (i + e) = t' (i' + e) := by
  intro k
  induction k with
  | zero =>
    intro k' i i' _ h' e
    cases k' with
    | zero => exact ⟨rfl, fun e he => absurd he (by omega)⟩
    | succ k' =>
      have := h' k' (by omega)
      simp only [pk] at e
      omega
  | succ k ih =>
    intro k' i i' h h' e
    cases k' with
    | zero =>
      have := h k (by omega)
      simp only [pk] at e
      omega
    | succ k' =>
      have a := h k (by omega)
      have b := h' k' (by omega)
      simp only [pk] at e
      obtain ⟨e1, e2⟩ := ih k' i i' (fun e he => h e (by omega)) (fun e he => h' e (by omega)) (by omega)
      subst e1
      refine ⟨rfl, fun e0 he => ?_⟩
      by_cases x : e0 = k
      · subst x
        omega
      · exact e2 e0 (by omega)
theorem spl_inj {t t' : Nat → Int} {k k' i i' : Nat} (h : ∀ e, e < k → 0 < t (i + e) ∧ t (i + e) < 256) (h' : ∀ e, e < k' → 0 < t' (i' + e) ∧ t' (i' + e) < 256) (hk : k ≤ 16) (hk' : k' ≤ 16) (e1 : (spl t k i).1 = (spl t' k' i').1) (e2 : (spl t k i).2 = (spl t' k' i').2) : k = k' ∧ ∀ e, e < k → t (i + e) = t' (i' + e) := by
  obtain ⟨a, -, -⟩ := spl_pk t i k h hk
  obtain ⟨b, -, -⟩ := spl_pk t' i' k' h' hk'
  exact pkn_inj t t' k k' i i' h h' (by rw [← a, ← b, e1, e2])
theorem spl_congr {t t' : Nat → Int} {i i' : Nat} : ∀ k, (∀ e, e < k → t (i + e) = t' (i' + e)) → spl t k i = spl t' k i' := by
  intro k
  induction k with
  | zero => intro _; rfl
  | succ k ih =>
    intro h
    simp only [spl]
    rw [ih (fun e he => h e (by omega)), h k (by omega)]
theorem pkn_congr {t t' : Nat → Int} {i i' : Nat} : ∀ k, (∀ e, e < k → t (i + e) = t' (i' + e)) → pk t k i = pk t' k i' := by
  intro k
  induction k with
  | zero => intro _; rfl
  | succ k ih =>
    intro h
    simp only [pk]
    rw [ih (fun e he => h e (by omega)), h k (by omega)]
/-- a short name is its lower long -/
theorem spl_short {t : Nat → Int} {k i : Nat} (h : ∀ e, e < k → 0 < t (i + e) ∧ t (i + e) < 256) (hk : k ≤ 16) (v : Nat) (hv : v < 9223372036854775808) : (spl t k i = (0, (v : Int))) ↔ pk t k i = v := by
  obtain ⟨a, b, c⟩ := spl_pk t i k h hk
  constructor
  · intro e
    rw [e] at a
    have z : u64 0 = 0 := by decide
    rw [← a]
    simp only [z, u64_nat (show v < 18446744073709551616 by omega), Nat.zero_mul, Nat.zero_add]
  · intro e
    have l1 := u64_lt (spl t k i).1
    have l2 := u64_lt (spl t k i).2
    have q1 : (spl t k i).1 = 0 := inl64_inj b (by unfold inl64; decide) (by rw [show u64 0 = 0 by decide]; omega)
    have q2 : (spl t k i).2 = (v : Int) := inl64_inj c (by
      unfold inl64
      rw [BitVec.toInt_ofInt, Int.bmod_eq_of_le] <;> omega) (by rw [u64_nat (by omega)]; omega)
    exact Prod.ext q1 q2
/-! LETTERS, DIGITS, RUNS. -/
def isL (c : Int) : Bool := decide (97 ≤ c ∧ c ≤ 122 ∨ 65 ≤ c ∧ c ≤ 90 ∨ c = 95)
def isD (c : Int) : Bool := decide (48 ≤ c ∧ c ≤ 57)
def isH (c : Int) : Bool := decide (48 ≤ c ∧ c ≤ 57 ∨ 97 ≤ c ∧ c ≤ 102)
def isLD (c : Int) : Bool := isL c || isD c
def b01 (b : Bool) : Int := if b then 1 else 0
theorem b01_t : b01 true = 1 := rfl
theorem b01_f : b01 false = 0 := rfl
theorem b01_0 {b : Bool} : b01 b = 0 ↔ b = false := by cases b <;> decide
theorem b01_dec {p : Prop} [Decidable p] : b01 (decide p) = if p then 1 else 0 := by
  unfold b01
  by_cases h : p <;> simp [h]
theorem c85 (c : Int) (s : Sg) : f_85 c s = b01 (isL c) := by
  unfold f_85 isL
  rw [b01_dec]
  repeat' split
  all_goals first | rfl | (exfalso; omega)
theorem c87 (c : Int) (s : Sg) : f_87 c s = b01 (isD c) := by
  unfold f_87 isD
  rw [b01_dec]
  repeat' split
  all_goals first | rfl | (exfalso; omega)
theorem m225 (c : Int) (s : Sg) : f_225 c s = b01 (isL c) := by
  unfold f_225 isL
  rw [b01_dec]
  simp only [within_eq]
  repeat' split
  all_goals first | rfl | (exfalso; omega)
theorem m226 (c : Int) (s : Sg) : f_226 c s = b01 (isD c) := by
  unfold f_226 isD
  rw [b01_dec, within_eq]
theorem m251 (c : Int) (s : Sg) : f_251 c s = b01 (isH c) := by
  unfold f_251 isH
  rw [b01_dec, m226]
  simp only [within_eq, isD, b01_dec]
  repeat' split
  all_goals first | rfl | (exfalso; omega)
/-- a hex digit's value -/
def hxv (c : Int) : Int := if c ≤ 57 then c - 48 else c - 87
theorem c89 (c : Int) (s : Sg) : f_89 c s = if isH c then hxv c else -1 := by
  unfold f_89 isH hxv
  rw [c87]
  simp only [isD, b01_dec, decide_eq_true_eq]
  repeat' split
  all_goals first | rfl | (exfalso; omega) | (rw [w32_id (by omega) (by omega)] <;> omega) | (rw [w32_id (z := c - 97) (by omega) (by omega), w32_id (by omega) (by omega)]; omega)
theorem hxv_b {c : Int} (h : isH c = true) : 0 ≤ hxv c ∧ hxv c < 16 := by
  have := of_decide_eq_true h
  unfold hxv
  split <;> omega
def rn (p : Int → Bool) (t : Nat → Int) : Nat → Nat → Nat
  | 0, i => i
  | k + 1, i => if p (t i) then rn p t k (i + 1) else i
theorem rn_ge (p : Int → Bool) (t : Nat → Int) : ∀ k i, i ≤ rn p t k i ∧ rn p t k i ≤ i + k := by
  intro k
  induction k with
  | zero => intro i; exact ⟨Nat.le_refl _, Nat.le_refl _⟩
  | succ k ih =>
    intro i
    simp only [rn]
    split
    · have := ih (i + 1); omega
    · omega
theorem rn_all (p : Int → Bool) (t : Nat → Int) : ∀ k i e, i ≤ e → e < rn p t k i → p (t e) = true := by
  intro k
  induction k with
  | zero => intro i e h1 h2; simp only [rn] at h2; omega
  | succ k ih =>
    intro i e h1 h2
    simp only [rn] at h2
    split at h2
    · by_cases x : e = i
      · subst x; assumption
      · exact ih (i + 1) e (by omega) h2
    · omega
theorem rn_stop (p : Int → Bool) (t : Nat → Int) : ∀ k i, rn p t k i < i + k → p (t (rn p t k i)) = false := by
  intro k
  induction k with
  | zero => intro i h; simp only [rn] at h; omega
  | succ k ih =>
    intro i h
    simp only [rn] at h ⊢
    split at h
    · rename_i c
      rw [if_pos c]
      exact ih (i + 1) (by omega)
    · rename_i c
      rw [if_neg c]
      simpa using c
/-- numbers, as long as they are told apart -/
def cap (x : Int) : Int := if 1099511627776 < x then 1099511627776 else x
def dvl (t : Nat → Int) : Nat → Nat → Int → Int
  | 0, _, v => v
  | k + 1, i, v => dvl t k (i + 1) (cap (v * 10 + (t i - 48)))
def hvl (t : Nat → Int) : Nat → Nat → Int → Int
  | 0, _, v => v
  | k + 1, i, v => hvl t k (i + 1) (cap (v * 16 + hxv (t i)))
theorem cap_b {x : Int} (h : 0 ≤ x) : 0 ≤ cap x ∧ cap x ≤ 1099511627776 := by unfold cap; split <;> omega
theorem dvl_b (t : Nat → Int) : ∀ k i v, (∀ e, i ≤ e → e < i + k → isD (t e) = true) → 0 ≤ v → v ≤ 1099511627776 → 0 ≤ dvl t k i v ∧ dvl t k i v ≤ 1099511627776 := by
  intro k
  induction k with
  | zero => intro i v _ h0 h1; exact ⟨h0, h1⟩
  | succ k ih =>
    intro i v h h0 h1
    have a := of_decide_eq_true (h i (by omega) (by omega))
    have b := cap_b (x := v * 10 + (t i - 48)) (by omega)
    exact ih (i + 1) _ (fun e he he2 => h e (by omega) (by omega)) b.1 b.2
theorem hvl_b (t : Nat → Int) : ∀ k i v, (∀ e, i ≤ e → e < i + k → isH (t e) = true) → 0 ≤ v → v ≤ 1099511627776 → 0 ≤ hvl t k i v ∧ hvl t k i v ≤ 1099511627776 := by
  intro k
  induction k with
  | zero => intro i v _ h0 h1; exact ⟨h0, h1⟩
  | succ k ih =>
    intro i v h h0 h1
    have a := hxv_b (h i (by omega) (by omega))
    have b := cap_b (x := v * 16 + hxv (t i)) (by omega)
    exact ih (i + 1) _ (fun e he he2 => h e (by omega) (by omega)) b.1 b.2
theorem cap_293 (x : Int) (s : Sg) : f_293 x 1099511627776 s = cap x := by
  unfold f_293 cap
  simp only [cmp_gt]
section CN
variable {s : Sg} {n : Nat} {t : Nat → Int}
/-- the class's text -/
def CT (s : Sg) (n : Nat) (t : Nat → Int) : Prop := s 39 8 = (n : Int) ∧ n ≤ 8192 ∧ ∀ i, i < n → s 40 i % 256 = t i ∧ 0 ≤ t i ∧ t i < 256
theorem CT.at (h : CT s n t) (i : Nat) : f_83 (i : Int) s = chs t n i ∧ g_83 (i : Int) s := by
  obtain ⟨a, b⟩ := c83 h.1 h.2.1 i
  refine ⟨a.trans ?_, b⟩
  unfold chs
  split
  · exact (h.2.2 i (by assumption)).1
  · rfl
theorem CT.ch {i : Nat} (_ : CT s n t) (hi : i < n) : chs t n i = t i := if_pos hi
theorem CT.congr {s' : Sg} (h : CT s n t) (h1 : s' 39 8 = s 39 8) (h2 : s' 40 = s 40) : CT s' n t := by
  unfold CT
  rw [h1, h2]
  exact h
theorem c91l (h : CT s n t) (i0 : Nat) : ∀ (k i F : Nat) (v : Int), i + k = n → i0 ≤ i → 0 ≤ v → v ≤ 1099511627776 →
    j_91_4 (F + k + 1) (i0 : Int) (i : Int) v s = j_91_51 (i0 : Int) ((rn isD t k i : Nat) : Int) (dvl t (rn isD t k i - i) i v) s := by
  intro k
  induction k with
  | zero =>
    intro i F v hi h0 h1 h2
    rw [j_91_4, if_pos (by have := h.1; omega)]
    simp only [rn, Nat.sub_self, dvl]
  | succ k ih =>
    intro i F v hi h0 h1 h2
    have h8 := h.2.1
    obtain ⟨e, g⟩ := h.at i
    rw [h.ch (by omega)] at e
    rw [j_91_4, if_neg (by have := h.1; omega), gd_pos g, gd_pos g, e, c87]
    cases c : isD (t i) with
    | false =>
      rw [if_pos (show b01 false = 0 from rfl)]
      simp only [rn, c, Bool.false_eq_true, if_false, Nat.sub_self, dvl]
    | true =>
      have a := of_decide_eq_true c
      have b := cap_b (x := v * 10 + (t i - 48)) (by omega)
      have hr := rn_ge isD t k (i + 1)
      rw [if_neg (by decide), w32_id (z := t i - 48) (by omega) (by omega), w64_id (z := v * 10) (by omega) (by omega), w64_id (by omega) (by omega), cap_293, w32_nat (by omega), show F + (k + 1) = F + k + 1 by omega, ih (i + 1) F _ (by omega) (by omega) b.1 b.2]
      have er : rn isD t (k + 1) i = rn isD t k (i + 1) := by simp only [rn, c, if_true]
      rw [er, show rn isD t k (i + 1) - i = (rn isD t k (i + 1) - (i + 1)) + 1 by omega]
      simp only [dvl]
theorem c91 (h : CT s n t) (i : Nat) (hi : i ≤ n) : f_91 (i : Int) s = j_91_51 (i : Int) ((rn isD t (n - i) i : Nat) : Int) (dvl t (rn isD t (n - i) i - i) i 0) s := by
  obtain ⟨F, hF⟩ := FU_split (k := n - i + 1) (by have := h.2.1; omega)
  unfold f_91
  rw [hF, show F + (n - i + 1) = F + (n - i) + 1 by omega]
  exact c91l h i (n - i) i F 0 (by omega) (by omega) (by omega) (by omega)
theorem c90l (h : CT s n t) (i0 : Nat) : ∀ (k i F : Nat) (v : Int), i + k = n → i0 ≤ i → 0 ≤ v → v ≤ 1099511627776 →
    j_90_6 (F + k + 1) (i0 : Int) (i : Int) v s = j_90_54 (i0 : Int) ((rn isH t k i : Nat) : Int) (hvl t (rn isH t k i - i) i v) s := by
  intro k
  induction k with
  | zero =>
    intro i F v hi h0 h1 h2
    rw [j_90_6, if_pos (by have := h.1; omega)]
    simp only [rn, Nat.sub_self, hvl]
  | succ k ih =>
    intro i F v hi h0 h1 h2
    have h8 := h.2.1
    obtain ⟨e, g⟩ := h.at i
    rw [h.ch (by omega)] at e
    rw [j_90_6, if_neg (by have := h.1; omega), gd_pos g, gd_pos g, e, c89]
    cases c : isH (t i) with
    | false =>
      rw [if_pos (show (if false = true then hxv (t i) else -1) = -1 from rfl)]
      simp only [rn, c, Bool.false_eq_true, if_false, Nat.sub_self, hvl]
    | true =>
      have a := hxv_b c
      have b := cap_b (x := v * 16 + hxv (t i)) (by omega)
      have hr := rn_ge isH t k (i + 1)
      rw [show (if true = true then hxv (t i) else -1) = hxv (t i) from rfl, if_neg (by omega), w64_id (z := v * 16) (by omega) (by omega), w64_id (by omega) (by omega), cap_293, w32_nat (by omega), show F + (k + 1) = F + k + 1 by omega, ih (i + 1) F _ (by omega) (by omega) b.1 b.2]
      have er : rn isH t (k + 1) i = rn isH t k (i + 1) := by simp only [rn, c, if_true]
      rw [er, show rn isH t k (i + 1) - i = (rn isH t k (i + 1) - (i + 1)) + 1 by omega]
      simp only [hvl]
theorem c90 (h : CT s n t) (i : Nat) (hi : i + 2 ≤ n) : f_90 (i : Int) s = j_90_54 (i : Int) ((rn isH t (n - (i + 2)) (i + 2) : Nat) : Int) (hvl t (rn isH t (n - (i + 2)) (i + 2) - (i + 2)) (i + 2) 0) s := by
  have h8 := h.2.1
  obtain ⟨F, hF⟩ := FU_split (k := n - (i + 2) + 1) (by omega)
  unfold f_90
  rw [hF, show F + (n - (i + 2) + 1) = F + (n - (i + 2)) + 1 by omega, w32_id (z := (i : Int) + 2) (by omega) (by omega), show (i : Int) + 2 = ((i + 2 : Nat) : Int) by omega]
  exact c90l h i (n - (i + 2)) (i + 2) F 0 (by omega) (by omega) (by omega) (by omega)
end CN
/-! ONE LEXEME: names and signs. -/
def AD (s : Sg) (z : Nat) (k i j v : Int) : Sg := ax_u2 (ax_u2 (ax_u2 (ax_u2 (ax_u2 (ax_u2 s 41 z k) 42 z i) 43 z (j - i)) 44 z v) 45 z 0) 39 9 ((z : Int) + 1)
theorem c78 {s : Sg} {z : Nat} (hz : s 39 9 = (z : Int)) (h8 : z < 8193) {i j : Nat} (hi : i ≤ j) (hj : j ≤ 8192) (k v : Int) : f_78 k (i : Int) (j : Int) v s = AD s z k (i : Int) (j : Int) v ∧ g_78 k (i : Int) (j : Int) v s := by
  unfold f_78 g_78 AD
  rw [hz, if_pos (by omega), w32_id (z := (j : Int) - i) (by omega) (by omega), w32_id (by omega) (by omega), Int.toNat_natCast]
  have : 0 ≤ (z : Int) ∧ (z : Int) < 8193 := by omega
  exact ⟨rfl, fun _ => ⟨this, this, this, this, this, trivial⟩, fun _ => trivial⟩
theorem u2_self (s : Sg) {a j : Nat} {z : Int} (h : s a j = z) : ax_u2 s a j z = s := by
  funext b k
  simp only [ax_u2]
  split
  · split
    · rename_i e1 e2
      rw [e1, e2, h]
    · rfl
  · rfl
theorem sp_over (s : Sg) (a b c d : Int) : ax_u2 (ax_u2 (ax_u2 (ax_u2 s 31 9 a) 31 10 b) 31 9 c) 31 10 d = ax_u2 (ax_u2 s 31 9 c) 31 10 d := by
  funext x k
  simp only [ax_u2]
  by_cases h1 : x = 31
  · by_cases h2 : k = 10
    · simp [h1, h2]
    · by_cases h3 : k = 9
      · simp [h1, h3]
      · simp [h1, h2, h3]
  · simp [h1]
theorem NI.congr {s s' : Sg} {m : Nat} (h : NI s m) (h1 : s' 31 7 = s 31 7) (h2 : s' 32 = s 32) (h3 : s' 33 = s 33) (h4 : s' 34 = s 34) (h5 : s' 35 = s 35) : NI s' m := by
  unfold NI
  rw [h1, h2, h3, h4, h5]
  exact h
theorem c104 {s : Sg} {m : Nat} (h : NI s m) (hm : m < 4112) (h9 : s 31 9 = 0) (h10 : s 31 10 = 0) (hi lo : Int) :
    ∃ (id : Nat) (s1 : Sg), f_104 (ax_u2 (ax_u2 s 31 9 hi) 31 10 lo) = some ((id : Int), s1) ∧ ((id < m ∧ s 34 id = hi ∧ s 35 id = lo ∧ s1 = s) ∨ (id = m ∧ NNew s s1 m hi lo ∧ ∀ k, k < m → ¬ (s 34 k = hi ∧ s 35 k = lo))) := by
  have a1 : (ax_u2 (ax_u2 s 31 9 hi) 31 10 lo) 31 9 = hi := by simp [ax_u2]
  have a2 : (ax_u2 (ax_u2 s 31 9 hi) 31 10 lo) 31 10 = lo := by simp [ax_u2]
  have hS : NI (ax_u2 (ax_u2 s 31 9 hi) 31 10 lo) m := h.congr (by simp [ax_u2]) (by funext x; simp [ax_u2]) (by funext x; simp [ax_u2]) (by funext x; simp [ax_u2]) (by funext x; simp [ax_u2])
  have r34 : (ax_u2 (ax_u2 s 31 9 hi) 31 10 lo) 34 = s 34 := by funext x; simp [ax_u2]
  have r35 : (ax_u2 (ax_u2 s 31 9 hi) 31 10 lo) 35 = s 35 := by funext x; simp [ax_u2]
  unfold f_104
  rw [a1, a2]
  rcases idOf_ok hS hm hi lo with ⟨k, hk, b1, b2, e⟩ | ⟨s', b, no, e⟩
  · refine ⟨k, s, ?_, Or.inl ⟨hk, by rw [← r34]; exact b1, by rw [← r35]; exact b2, rfl⟩⟩
    rw [e]
    show some ((k : Int), ax_u2 (ax_u2 (ax_u2 (ax_u2 s 31 9 hi) 31 10 lo) 31 9 0) 31 10 0) = _
    rw [sp_over, u2_self s h9, u2_self s h10]
  · refine ⟨m, ax_u2 (ax_u2 s' 31 9 0) 31 10 0, ?_, Or.inr ⟨rfl, ?_, ?_⟩⟩
    · rw [e]
      rfl
    · obtain ⟨c1, c2, c3, c4, c5, c6, c7, c8⟩ := b
      refine ⟨c1.congr (by simp [ax_u2]) (by funext x; simp [ax_u2]) (by funext x; simp [ax_u2]) (by funext x; simp [ax_u2]) (by funext x; simp [ax_u2]), ?_, ?_, ?_, ?_, ?_, ?_, ?_⟩
      · intro k hk
        have := c2 k hk
        simp [ax_u2] at this ⊢
        exact this
      · simpa [ax_u2] using c3
      · simpa [ax_u2] using c4
      · simpa [ax_u2] using c5
      · simpa [ax_u2] using c6
      · intro j hj
        have := c7 j hj
        simp only [ax_u2] at this ⊢
        by_cases x9 : j = 9
        · simp [x9, h9]
        · by_cases x10 : j = 10
          · simp [x10, h10]
          · simp [x9, x10] at this ⊢
            exact this
      · intro a ha
        have := c8 a ha
        funext k
        have := congrFun this k
        simp only [ax_u2] at this ⊢
        rw [if_neg (by omega), if_neg (by omega)] at this
        rw [if_neg (by omega), if_neg (by omega)]
        exact this
    · intro k hk
      have := no k hk
      rw [r34, r35] at this
      exact this
section CL
variable {s : Sg} {n : Nat} {t : Nat → Int}
theorem c86l (h : CT s n t) (i0 : Nat) : ∀ (k i F : Nat), i + k = n → i0 ≤ i →
    j_86_2 (F + k + 1) (i0 : Int) (i : Int) (ax_u2 (ax_u2 s 31 9 (spl t (i - i0) i0).1) 31 10 (spl t (i - i0) i0).2) = j_86_50 (i0 : Int) ((rn isLD t k i : Nat) : Int) (ax_u2 (ax_u2 s 31 9 (spl t (rn isLD t k i - i0) i0).1) 31 10 (spl t (rn isLD t k i - i0) i0).2) := by
  intro k
  induction k with
  | zero =>
    intro i F hi h0
    have hS : CT (ax_u2 (ax_u2 s 31 9 (spl t (i - i0) i0).1) 31 10 (spl t (i - i0) i0).2) n t := h.congr (by simp [ax_u2]) (by funext x; simp [ax_u2])
    rw [j_86_2, if_pos (by have := hS.1; omega)]
    simp only [rn]
  | succ k ih =>
    intro i F hi h0
    have h8 := h.2.1
    have hS : CT (ax_u2 (ax_u2 s 31 9 (spl t (i - i0) i0).1) 31 10 (spl t (i - i0) i0).2) n t := h.congr (by simp [ax_u2]) (by funext x; simp [ax_u2])
    obtain ⟨e, g⟩ := hS.at i
    rw [hS.ch (by omega)] at e
    have nx : isLD (t i) = true → j_86_32 (j_86_2 (F + (k + 1))) (i0 : Int) (i : Int) (ax_u2 (ax_u2 s 31 9 (spl t (i - i0) i0).1) 31 10 (spl t (i - i0) i0).2) = j_86_50 (i0 : Int) ((rn isLD t (k + 1) i : Nat) : Int) (ax_u2 (ax_u2 s 31 9 (spl t (rn isLD t (k + 1) i - i0) i0).1) 31 10 (spl t (rn isLD t (k + 1) i - i0) i0).2) := by
      intro c
      have er : rn isLD t (k + 1) i = rn isLD t k (i + 1) := by simp only [rn, c, if_true]
      rw [er, ← ih (i + 1) F (by omega) (by omega)]
      unfold j_86_32
      rw [gd_pos g, e, w32_nat (by omega)]
      show j_86_2 (F + (k + 1)) (i0 : Int) ((i + 1 : Nat) : Int) (f_105 (t i) _) = _
      rw [show F + (k + 1) = F + k + 1 by omega]
      congr 1
      unfold f_105
      rw [sp_over, show i + 1 - i0 = (i - i0) + 1 by omega]
      simp only [spl]
      rw [show i0 + (i - i0) = i by omega]
      simp only [ax_u2]
      rfl
    rw [j_86_2, if_neg (by have := hS.1; omega), gd_pos g, gd_pos g, e, c85, c87]
    cases c : isL (t i) with
    | true =>
      rw [if_pos (by decide)]
      exact nx (by simp [isLD, c])
    | false =>
      rw [if_neg (by decide)]
      cases d : isD (t i) with
      | true =>
        rw [if_neg (by decide)]
        exact nx (by simp [isLD, d])
      | false =>
        rw [if_pos (show b01 false = 0 from rfl)]
        have er : rn isLD t (k + 1) i = i := by simp only [rn, isLD, c, d, Bool.or_self, Bool.false_eq_true, if_false]
        rw [er]
/-- a name: its id, and the state with it -/
theorem c86 {m z : Nat} (h : CT s n t) (hN : NI s m) (hm : m < 4112) (h9 : s 31 9 = 0) (h10 : s 31 10 = 0) (hz : s 39 9 = (z : Int)) (hz8 : z < 8193) (i : Nat) (hi : i ≤ n) :
    ∃ (id : Nat) (s1 : Sg), f_86 (i : Int) s = (if rn isLD t (n - i) i - i ≤ 16 then some (((rn isLD t (n - i) i : Nat) : Int), AD s1 z (if 12 ≤ id then 1 else 16 + (id : Int)) (i : Int) ((rn isLD t (n - i) i : Nat) : Int) (id : Int)) else some (-1, s1)) ∧
      ((id < m ∧ s 34 id = (spl t (rn isLD t (n - i) i - i) i).1 ∧ s 35 id = (spl t (rn isLD t (n - i) i - i) i).2 ∧ s1 = s) ∨ (id = m ∧ NNew s s1 m (spl t (rn isLD t (n - i) i - i) i).1 (spl t (rn isLD t (n - i) i - i) i).2 ∧ ∀ k, k < m → ¬ (s 34 k = (spl t (rn isLD t (n - i) i - i) i).1 ∧ s 35 k = (spl t (rn isLD t (n - i) i - i) i).2))) := by
  have h8 := h.2.1
  have hr := rn_ge isLD t (n - i) i
  obtain ⟨F, hF⟩ := FU_split (k := n - i + 1) (by omega)
  have e0 := c86l h i (n - i) i F (by omega) (by omega)
  rw [show i - i = 0 by omega] at e0
  have z0 : ax_u2 (ax_u2 s 31 9 (spl t 0 i).1) 31 10 (spl t 0 i).2 = s := by
    show ax_u2 (ax_u2 s 31 9 0) 31 10 0 = s
    rw [u2_self s h9, u2_self s h10]
  rw [z0] at e0
  have e1 : f_86 (i : Int) s = j_86_50 (i : Int) ((rn isLD t (n - i) i : Nat) : Int) (ax_u2 (ax_u2 s 31 9 (spl t (rn isLD t (n - i) i - i) i).1) 31 10 (spl t (rn isLD t (n - i) i - i) i).2) := by
    unfold f_86
    rw [hF, show F + (n - i + 1) = F + (n - i) + 1 by omega]
    exact e0
  generalize rn isLD t (n - i) i = j at *
  obtain ⟨id, s1, e2, hc⟩ := c104 hN hm h9 h10 (spl t (j - i) i).1 (spl t (j - i) i).2
  refine ⟨id, s1, ?_, hc⟩
  rw [e1]
  unfold j_86_50
  rw [e2]
  show (if ax_w32 ((j : Int) - i) ≤ 16 then _ else some (-1, s1)) = _
  have hz1 : s1 39 9 = (z : Int) := by
    rcases hc with ⟨-, -, -, e⟩ | ⟨-, e, -⟩
    · rw [e]; exact hz
    · rw [e.2.2.2.2.2.2.2 39 (by omega)]; exact hz
  have hid : id < 4112 := by
    rcases hc with ⟨e, -⟩ | ⟨e, -⟩ <;> omega
  rw [w32_id (by omega) (by omega)]
  have ek : (if (id : Int) < 0 then (1 : Int) else (if 12 ≤ (id : Int) then 1 else ax_w32 (16 + (id : Int)))) = (if 12 ≤ id then 1 else 16 + (id : Int)) := by
    rw [if_neg (by omega)]
    by_cases c : 12 ≤ id
    · rw [if_pos (by omega), if_pos c]
    · rw [if_neg (by omega), if_neg c, w32_id (by omega) (by omega)]
  by_cases c : j - i ≤ 16
  · rw [if_pos (by omega), if_pos c]
    obtain ⟨q1, q2⟩ := c78 hz1 hz8 (i := i) (j := j) (by omega) (by omega) (if 12 ≤ id then 1 else 16 + (id : Int)) (id : Int)
    show gd (g_78 (if (id : Int) < 0 then (1 : Int) else (if 12 ≤ (id : Int) then 1 else ax_w32 (16 + (id : Int)))) _ _ _ _) _ = _
    rw [ek, gd_pos q2]
    show some ((j : Int), f_78 _ _ _ _ _) = _
    rw [q1]
  · rw [if_neg (by omega), if_neg c]
end CL
