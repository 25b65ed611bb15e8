/-! RUNS WITH A POSTCONDITION; functions that may stop, throw, or be given up. -/
abbrev Sg : Type := Nat → Nat → Int
def FU : Nat := 1000000
noncomputable def gd {α : Type} (p : Prop) (a : Option α) : Option α := @ite _ p (Classical.propDecidable p) a none
theorem gd_pos {α : Type} {p : Prop} {a : Option α} (h : p) : gd p a = a := if_pos h
theorem gd_some {α : Type} {p : Prop} {a : Option α} {q : α} (h : gd p a = some q) : p ∧ a = some q := by
  unfold gd at h
  split at h
  · exact ⟨by assumption, h⟩
  · cases h
theorem bd_some {α β : Type} {o : Option α} {k : α → Option β} {q : β} (h : o.bind k = some q) : ∃ a, o = some a ∧ k a = some q := by
  cases o with
  | none => cases h
  | some a => exact ⟨a, rfl, h⟩
def xb {α β : Type} (o : Option (Sum α (Nat × Sg))) (k : α → Option (Sum β (Nat × Sg))) : Option (Sum β (Nat × Sg)) := match o with
  | none => none
  | some (.inl a) => k a
  | some (.inr x) => some (.inr x)
theorem xb_some {α β : Type} {o : Option (Sum α (Nat × Sg))} {k : α → Option (Sum β (Nat × Sg))} {q : Sum β (Nat × Sg)} (h : xb o k = some q) : (∃ a, o = some (.inl a) ∧ k a = some q) ∨ (∃ x, o = some (.inr x) ∧ q = .inr x) := by
  cases o with
  | none => cases h
  | some o =>
    cases o with
    | inl a => exact Or.inl ⟨a, rfl, h⟩
    | inr x => exact Or.inr ⟨x, rfl, (Option.some.inj h).symm⟩
def RuP (n : Nat) (μ : ax_M) (pc : Nat) (ls : ax_L) (st : List ax_V) (h : ax_H) (Φ : ax_O → ax_H → Prop) : Prop := ∃ o h', Ru n μ pc ls st h o h' ∧ Φ o h'
def EvP (n y : Nat) (av : List ax_V) (h : ax_H) (Φ : ax_O → ax_H → Prop) : Prop := ∃ o h', Ev n y av h o h' ∧ Φ o h'
/-- ends: nothing is given back; an int; a long -/
def oV (L c : Nat) (e : Nat → Nat) (q : Sg) (o : ax_O) (h : ax_H) : Prop := o = .inl none ∧ h = hp L q c e
def oI (L c : Nat) (e : Nat → Nat) (q : Int × Sg) (o : ax_O) (h : ax_H) : Prop := o = .inl (some (.inl q.1)) ∧ h = hp L q.2 c e
def oJ (L c : Nat) (e : Nat → Nat) (q : Int × Sg) (o : ax_O) (h : ax_H) : Prop := o = .inl (some (.inr (.inl q.1))) ∧ h = hp L q.2 c e
/-- or an exception of the class x is thrown, a new one -/
def oX {α : Type} (L c : Nat) (f : α → ax_O → ax_H → Prop) (q : Sum α (Nat × Sg)) : ax_O → ax_H → Prop := match q with
  | .inl a => f a
  | .inr x => fun o h => o = .inr (27 + (110 + c)) ∧ ∃ e', h = hp L x.2 (c + 1) e' ∧ e' (27 + (110 + c)) = 2 * x.1 + 2
theorem EvP.up {n m y : Nat} {av : List ax_V} {h : ax_H} {Φ : ax_O → ax_H → Prop} (k : EvP n y av h Φ) (hm : n ≤ m) : EvP m y av h Φ := by
  obtain ⟨o, h', k, q⟩ := k
  exact ⟨o, h', k.up hm, q⟩
section RP
variable {n pc pc' y L c : Nat} {μ : ax_M} {ls ls' : ax_L} {st st' as r : List ax_V} {h h1 h' : ax_H} {o : ax_O} {Φ : ax_O → ax_H → Prop} {e : Nat → Nat} {s q : Sg} {qi : Int × Sg}
theorem RuP.step (e : ax_step μ pc ls st h = some (.inl (pc', ls', st', h1))) (k : RuP n μ pc' ls' st' h1 Φ) : RuP n μ pc ls st h Φ := by
  obtain ⟨o, h', k, q⟩ := k
  exact ⟨o, h', Ru.step e k, q⟩
theorem RuP.dV (e1 : ax_step μ pc ls st h = some (.inr (.inl (.inl none, hp L q c e)))) : RuP n μ pc ls st h (oV L c e q) := ⟨_, _, Ru.done e1, rfl, rfl⟩
theorem RuP.dI (e1 : ax_step μ pc ls st h = some (.inr (.inl (.inl (some (.inl qi.1)), hp L qi.2 c e)))) : RuP n μ pc ls st h (oI L c e qi) := ⟨_, _, Ru.done e1, rfl, rfl⟩
theorem RuP.dJ (e1 : ax_step μ pc ls st h = some (.inr (.inl (.inl (some (.inr (.inl qi.1))), hp L qi.2 c e)))) : RuP n μ pc ls st h (oJ L c e qi) := ⟨_, _, Ru.done e1, rfl, rfl⟩
theorem RuP.cV (e1 : ax_step μ pc ls st h = some (.inr (.inr (y, as, r)))) (c1 : EvP n y as h (oV L c e q)) (k : RuP n μ (pc + 3) ls r (hp L q c e) Φ) : RuP n μ pc ls st h Φ := by
  obtain ⟨o1, h1, c1, rfl, rfl⟩ := c1
  obtain ⟨o, h', k, q⟩ := k
  exact ⟨o, h', Ru.call e1 c1 k, q⟩
theorem RuP.cI (e1 : ax_step μ pc ls st h = some (.inr (.inr (y, as, r)))) (c1 : EvP n y as h (oI L c e qi)) (k : RuP n μ (pc + 3) ls (.inl qi.1 :: r) (hp L qi.2 c e) Φ) : RuP n μ pc ls st h Φ := by
  obtain ⟨o1, h1, c1, rfl, rfl⟩ := c1
  obtain ⟨o, h', k, q⟩ := k
  exact ⟨o, h', Ru.call e1 c1 k, q⟩
theorem RuP.cJ (e1 : ax_step μ pc ls st h = some (.inr (.inr (y, as, r)))) (c1 : EvP n y as h (oJ L c e qi)) (k : RuP n μ (pc + 3) ls (.inr (.inl qi.1) :: r) (hp L qi.2 c e) Φ) : RuP n μ pc ls st h Φ := by
  obtain ⟨o1, h1, c1, rfl, rfl⟩ := c1
  obtain ⟨o, h', k, q⟩ := k
  exact ⟨o, h', Ru.call e1 c1 k, q⟩
theorem RuP.pass {α β : Type} {f : α → ax_O → ax_H → Prop} {g : β → ax_O → ax_H → Prop} {x : Nat × Sg} (e1 : ax_step μ pc ls st h = some (.inr (.inr (y, as, r)))) (hn : μ.2.2.2.2.1 = []) (c1 : EvP n y as h (oX L c f (.inr x))) : RuP n μ pc ls st h (oX L c g (.inr x)) := by
  obtain ⟨o1, h1, c1, rfl, q⟩ := c1
  exact ⟨_, h1, Ru.passed e1 c1 hn, rfl, q⟩
theorem EvP.of {av : List ax_V} (hμ : tb_ms[y]? = some μ) (hl : (ax_ent av).length ≤ μ.2.1) (hls : ax_ent av ++ List.replicate (μ.2.1 - (ax_ent av).length) none = ls) (k : RuP n μ 0 ls [] h Φ) : EvP (n + 1) y av h Φ := by
  obtain ⟨o, h', k, q⟩ := k
  exact ⟨o, h', Ev.of hμ hl hls k, q⟩
theorem EvP.v (k : Ev n y as h (.inl none) (hp L q c e)) : EvP n y as h (oV L c e q) := ⟨_, _, k, rfl, rfl⟩
theorem EvP.i {z : Int} (k : Ev n y as h (.inl (some (.inl z))) (hp L q c e)) : EvP n y as h (oI L c e (z, q)) := ⟨_, _, k, rfl, rfl⟩
theorem EvP.j {z : Int} (k : Ev n y as h (.inl (some (.inr (.inl z)))) (hp L q c e)) : EvP n y as h (oJ L c e (z, q)) := ⟨_, _, k, rfl, rfl⟩
end RP
section RPJ
variable {n pc : Nat} {μ : ax_M} {ls : ax_L} {st r : List ax_V} {h : ax_H} {Φ : ax_O → ax_H → Prop} {off : Int} {P : Prop} {inst : Decidable P}
theorem RuP.jy (e : ax_step μ pc ls st h = (match @ax_jif P inst pc off r with
    | some (pc', st') => some (.inl (pc', ls, st', h))
    | none => none)) (q : P) (k : RuP n μ (ax_to pc off) ls r h Φ) : RuP n μ pc ls st h Φ := by
  rw [ax_jy inst q] at e
  exact RuP.step e k
theorem RuP.jn (e : ax_step μ pc ls st h = (match @ax_jif P inst pc off r with
    | some (pc', st') => some (.inl (pc', ls, st', h))
    | none => none)) (q : ¬ P) (k : RuP n μ (pc + 3) ls r h Φ) : RuP n μ pc ls st h Φ := by
  rw [ax_jn inst q] at e
  exact RuP.step e k
/-- switches: a case, or none of them -/
theorem RuP.sw {pc' : Nat} {i : Instr} {x x' : Int} (e : ax_step μ pc ls (.inl x :: r) h = (match ax_jump i pc (.inl x :: r) with
    | some (pc', st') => some (.inl (pc', ls, st', h))
    | none => none)) (q : x = x') (j : ax_jump i pc (.inl x' :: r) = some (pc', r)) (k : RuP n μ pc' ls r h Φ) : RuP n μ pc ls (.inl x :: r) h Φ := by
  subst q
  rw [j] at e
  exact RuP.step e k
theorem RuP.swd {pc' : Nat} {i : Instr} {x : Int} (e : ax_step μ pc ls (.inl x :: r) h = (match ax_jump i pc (.inl x :: r) with
    | some (pc', st') => some (.inl (pc', ls, st', h))
    | none => none)) (j : ax_jump i pc (.inl x :: r) = some (pc', r)) (k : RuP n μ pc' ls r h Φ) : RuP n μ pc ls (.inl x :: r) h Φ := by
  rw [j] at e
  exact RuP.step e k
theorem sw_t {d lo hi : Int} {offs : Array Int} {x : Int} (h : x < lo ∨ hi < x) : ax_jump (.tableswitch d lo hi offs) pc (.inl x :: r) = some (ax_to pc d, r) := if_pos h
/-- the default of a table whose places in between are taken, or go there too -/
def sw_all (d lo : Int) (offs : List Int) (ks : List Int) : Bool := match offs with
  | [] => true
  | a :: t => (decide (a = d) || ks.contains lo) && sw_all d (lo + 1) t ks
theorem sw_allp {d : Int} {ks : List Int} : ∀ (offs : List Int) (lo x : Int), sw_all d lo offs ks = true → (∀ k ∈ ks, x ≠ k) → lo ≤ x → x < lo + offs.length → offs[(x - lo).toNat]? = some d := by
  intro offs
  induction offs with
  | nil => intro lo x _ _ h1 h2; simp at h2; omega
  | cons a t ih =>
    intro lo x h hk h1 h2
    simp only [sw_all, Bool.and_eq_true, Bool.or_eq_true, decide_eq_true_eq] at h
    by_cases e : x = lo
    · subst e
      simp only [Int.sub_self, Int.toNat_zero, List.getElem?_cons_zero]
      rcases h.1 with h3 | h3
      · rw [h3]
      · exact absurd rfl (hk x (List.contains_iff_mem.mp h3))
    · have h4 := ih (lo + 1) x h.2 hk (by omega) (by simp only [List.length_cons] at h2; omega)
      rw [show (x - lo).toNat = (x - (lo + 1)).toNat + 1 by omega, List.getElem?_cons_succ]
      exact h4
theorem sw_td {d lo hi : Int} {offs : Array Int} {x : Int} (ks : List Int) (hk : ∀ k ∈ ks, x ≠ k) (h1 : sw_all d lo offs.toList ks = true) (h2 : hi + 1 = lo + offs.toList.length) : ax_jump (.tableswitch d lo hi offs) pc (.inl x :: r) = some (ax_to pc d, r) := by
  by_cases h : x < lo ∨ hi < x
  · exact if_pos h
  · have h3 := sw_allp offs.toList lo x h1 hk (by omega) (by omega)
    rw [Array.getElem?_toList] at h3
    show (if x < lo ∨ hi < x then _ else _) = _
    rw [if_neg h, h3]
theorem sw_offd {d x : Int} : ∀ ps : List (Int × Int), (∀ q ∈ ps, q.2 = d ∨ x ≠ q.1) → Op.lookupswitch.offset ps d x = d := by
  intro ps
  induction ps with
  | nil => intro _; rfl
  | cons a t ih =>
    intro h
    obtain ⟨a1, a2⟩ := a
    rw [Op.lookupswitch.offset_cons]
    split
    · rename_i e
      rcases h _ List.mem_cons_self with h1 | h1
      · exact h1
      · exact absurd (by first | exact e | exact e.symm | simpa using e | (have e2 := e; simp at e2; exact e2.symm) | (have e2 := e; simp at e2; exact e2)) h1
    · exact ih (fun q hq => h q (List.mem_cons_of_mem _ hq))
theorem sw_l {d x : Int} {ps : Array (Int × Int)} (h : ∀ q ∈ ps.toList, q.2 = d ∨ x ≠ q.1) : ax_jump (.lookupswitch d ps) pc (.inl x :: r) = some (ax_to pc d, r) := by
  show some (ax_to pc (Op.lookupswitch.offset ps.toList d x), r) = _
  rw [sw_offd _ h]
end RPJ
section RPA
variable {n pc pc' a : Nat} {μ : ax_M} {ls : ax_L} {st r : List ax_V} {h : ax_H} {Φ : ax_O → ax_H → Prop} {f : Nat → Bool} {j z w : Int} {v : ax_V}
theorem RuP.ald (e : ax_step μ pc ls st h = (match ax_ald f (.inl j :: .inr (.inr (some a)) :: r) h with
    | some (st', h') => some (.inl (pc', ls, st', h'))
    | none => none)) (k1 : f (ax_kd h a).1 = true) (h0 : 0 ≤ j) (h1 : j < ((ax_kd h a).2 : Int)) (k : RuP n μ pc' ls (ax_el (ax_kd h a).1 (ax_nu h a j.toNat) :: r) h Φ) : RuP n μ pc ls st h Φ := by
  obtain ⟨o, h', k, q⟩ := k
  exact ⟨o, h', Ru.ald e k1 h0 h1 k, q⟩
theorem RuP.ast (e : ax_step μ pc ls st h = (match ax_ast f v (.inl j :: .inr (.inr (some a)) :: r) z h with
    | some (st', h') => some (.inl (pc', ls, st', h'))
    | none => none)) (k1 : f (ax_kd h a).1 = true) (k2 : 27 ≤ a) (k3 : ax_el (ax_kd h a).1 z = v) (k4 : ax_tk (ax_kd h a).1 z = some w) (h0 : 0 ≤ j) (h1 : j < ((ax_kd h a).2 : Int)) (k : RuP n μ pc' ls r (ax_setn h a j.toNat w) Φ) : RuP n μ pc ls st h Φ := by
  obtain ⟨o, h', k, q⟩ := k
  exact ⟨o, h', Ru.ast e k1 k2 k3 k4 h0 h1 k, q⟩
theorem tk3 (h : z = 0 ∨ z = 1) : ax_tk 3 z = some z := if_pos h
theorem RuP.pf3 {b o : Nat} (e : ax_step μ pc ls st h = (match (if z = 0 ∨ z = 1 then some (ax_setn h o b z) else none : Option ax_H) with
    | some h' => some (.inl (pc', ls, r, h'))
    | none => none)) (hz : z = 0 ∨ z = 1) (k : RuP n μ pc' ls r (ax_setn h o b z) Φ) : RuP n μ pc ls st h Φ := by
  rw [if_pos hz] at e
  exact RuP.step e k
/-- two numbers to one, the second of which is not 0 -/
theorem RuP.dv {x y z : Int} (e : ax_step μ pc ls st h = (match (if y = 0 then none else some (ls, v :: r) : Option (ax_L × List ax_V)) with
    | some (ls', st') => some (.inl (pc', ls', st', h))
    | none => none)) (hy : ¬ y = 0) (k : RuP n μ pc' ls (v :: r) h Φ) : RuP n μ pc ls st h Φ := by
  rw [if_neg hy] at e
  exact RuP.step e k
end RPA
section RPT
variable {n pc L c x m : Nat} {μ : ax_M} {ls : ax_L} {r : List ax_V} {s : Sg} {e : Nat → Nat} {α : Type} {f : α → ax_O → ax_H → Prop} {Φ : ax_O → ax_H → Prop}
/-- an exception is made, and thrown as it is made -/
theorem RuP.thr {p2 : Nat} (e1 : ax_step μ pc ls r (hp L s c e) = some (.inl (pc + 3, ls, .inr (.inr (some (27 + (110 + c)))) :: r, ax_newx (hp L s c e) x)))
    (e2 : ∀ h, ax_step μ (pc + 3) ls (.inr (.inr (some (27 + (110 + c)))) :: r) h = some (.inl (pc + 4, ls, .inr (.inr (some (27 + (110 + c)))) :: .inr (.inr (some (27 + (110 + c)))) :: r, h)))
    (e3 : ∀ h, ax_step μ (pc + 4) ls (.inr (.inr (some (27 + (110 + c)))) :: .inr (.inr (some (27 + (110 + c)))) :: r) h = some (.inl (p2, ls, .inr (.inr (some m)) :: .inr (.inr (some (27 + (110 + c)))) :: .inr (.inr (some (27 + (110 + c)))) :: r, h)))
    (e4 : ∀ st h, ax_step μ p2 ls st h = (match ax_throw μ p2 x st h with
      | some r => some (.inr (.inl r))
      | none => none)) (hw : ax_wt r ≤ 20) (hn : ax_nexta μ p2 = true) (hh : μ.2.2.2.2.1 = []) : RuP n μ pc ls r (hp L s c e) (oX L c f (.inr (x, s))) := by
  have q : ax_throw μ p2 x (.inr (.inr (some m)) :: .inr (.inr (some (27 + (110 + c)))) :: .inr (.inr (some (27 + (110 + c)))) :: r) (ax_newx (hp L s c e) x) = some (.inr (27 + (110 + c)), ax_sete (ax_newx (hp L s c e) x) (27 + (110 + c)) (2 * x + 2)) := by
    refine if_pos ⟨rfl, ?_, ⟨by omega, ?_⟩, hw, hn, hh⟩
    · show ax_u1 e (27 + (110 + c)) (2 * x + 1) (27 + (110 + c)) = _
      exact if_pos rfl
    · show 27 + (110 + c) + 1 = 27 + (110 + c + 1)
      omega
  have e5 := e4 (.inr (.inr (some m)) :: .inr (.inr (some (27 + (110 + c)))) :: .inr (.inr (some (27 + (110 + c)))) :: r) (ax_newx (hp L s c e) x)
  rw [q] at e5
  refine ⟨_, _, Ru.step e1 (Ru.step (e2 _) (Ru.step (e3 _) (Ru.done e5))), rfl, ?_⟩
  refine ⟨ax_u1 (ax_u1 e (27 + (110 + c)) (2 * x + 1)) (27 + (110 + c)) (2 * x + 2), ?_, if_pos rfl⟩
  show (110 + c + 1, 593192 + 6 * c + 6, _) = (110 + (c + 1), 593192 + 6 * (c + 1), _)
  rw [show 110 + c + 1 = 110 + (c + 1) by omega, show 593192 + 6 * c + 6 = 593192 + 6 * (c + 1) by omega]
  rfl
/-- System.arraycopy -/
def cpy (s : Sg) (o t sp dp n : Nat) : Sg := fun b => if b = t then ax_cpy (s o) (s t) sp dp n else s b
theorem RuP.cp {o t : Nat} {sp dp z : Int} (e1 : ax_step μ pc ls (.inl z :: .inl dp :: .inr (.inr (some t)) :: .inl sp :: .inr (.inr (some o)) :: r) (hp L s c e) = (match ax_copy (.inl z :: .inl dp :: .inr (.inr (some t)) :: .inl sp :: .inr (.inr (some o)) :: r) (hp L s c e) with
      | some (st', h') => if ax_wt st' ≤ 20 then some (.inl (pc + 3, ls, st', h')) else none
      | none => none)) (k1 : (bx_k L o).1 = 1) (k2 : (bx_k L t).1 = 1) (k3 : 27 ≤ t ∧ 27 ≤ o ∧ o ≠ t) (hw : ax_wt r ≤ 20) (hz : 0 ≤ z ∧ 0 ≤ dp ∧ 0 ≤ sp ∧ sp + z ≤ ((bx_k L o).2 : Int) ∧ dp + z ≤ ((bx_k L t).2 : Int))
    (k : RuP n μ (pc + 3) ls r (hp L (cpy s o t sp.toNat dp.toNat z.toNat) c e) Φ) : RuP n μ pc ls (.inl z :: .inl dp :: .inr (.inr (some t)) :: .inl sp :: .inr (.inr (some o)) :: r) (hp L s c e) Φ := by
  have q : ax_copy (.inl z :: .inl dp :: .inr (.inr (some t)) :: .inl sp :: .inr (.inr (some o)) :: r) (hp L s c e) = some (r, hp L (cpy s o t sp.toNat dp.toNat z.toNat) c e) := if_pos ⟨k1, k2, hz.1, hz.2.1, hz.2.2.1, hz.2.2.2.1, hz.2.2.2.2, k3.1, k3.2.1, k3.2.2⟩
  rw [q] at e1
  dsimp only at e1
  rw [if_pos hw] at e1
  exact RuP.step e1 k
end RPT
/-! what a boolean method gives back -/
theorem ax_run_rok {call : Nat → List ax_V → ax_H → Option (ax_O × ax_H)} {μ : ax_M} : ∀ (f pc : Nat) (ls : ax_L) (st : List ax_V) (h : ax_H) (z : Int) (h' : ax_H), ax_run call μ f pc ls st h = some (.inl (some (.inl z)), h') → ax_rok μ.2.2.1 z = true := by
  intro f
  induction f with
  | zero => intro pc ls st h z h' e; cases e
  | succ f ih =>
    intro pc ls st h z h' e
    simp only [ax_run] at e
    split at e
    · cases e
    · exact ih _ _ _ _ _ _ e
    · rename_i r e1
      cases e
      revert e1
      unfold ax_step
      split
      · intro e1; cases e1
      · unfold ax_do
        split
        · intro e1; split at e1 <;> cases e1
        · intro e1; split at e1 <;> cases e1
        · intro e1; split at e1 <;> cases e1
        · unfold ax_inv
          intro e1
          split at e1
          · split at e1
            · split at e1 <;> cases e1
            · cases e1
          · split at e1
            · split at e1
              · split at e1 <;> cases e1
              · cases e1
            · split at e1
              · split at e1
                · rename_i r2 e2
                  cases e1
                  unfold ax_throw at e2
                  split at e2
                  · split at e2 <;> cases e2
                  · cases e2
                · cases e1
              · split at e1
                · cases e1
                · split at e1 <;> cases e1
        · intro e1
          split at e1
          · rename_i v e2
            cases e1
            unfold ax_rtn at e2
            split at e2
            · split at e2
              · split at e2
                · cases e2
                  assumption
                · cases e2
              · cases e2
            · split at e2
              · split at e2 <;> cases e2
              · cases e2
            · split at e2
              · split at e2 <;> cases e2
              · cases e2
            · cases e2
          · cases e1
    · split at e
      · cases e
      · exact ih _ _ _ _ _ _ e
      · split at e
        · exact ih _ _ _ _ _ _ e
        · split at e <;> cases e
theorem rok3 {n y : Nat} {as : List ax_V} {h : ax_H} {L c : Nat} {e : Nat → Nat} {q : Int × Sg} {μ : ax_M} (k : EvP n y as h (oI L c e q)) (hμ : tb_ms[y]? = some μ) (h3 : μ.2.2.1 = 3) : q.1 = 0 ∨ q.1 = 1 := by
  obtain ⟨o, h', ⟨F, k⟩, rfl, rfl⟩ := k
  cases n with
  | zero => cases k
  | succ n =>
    simp only [ax_ev, hμ] at k
    split at k
    · have k1 := ax_run_rok _ _ _ _ _ _ _ k
      rw [h3] at k1
      exact of_decide_eq_true k1
    · cases k
section RPB
variable {n pc L c y : Nat} {μ : ax_M} {ls : ax_L} {st as : List ax_V} {h : ax_H} {e : Nat → Nat} {z : Int} {q : Sg}
theorem RuP.dB (hs : ax_step μ pc ls st (hp L q c e) = (match (if ax_rok 3 z = true then some (some (.inl z)) else none : Option (Option ax_V)) with
    | some v => some (.inr (.inl (.inl v, hp L q c e)))
    | none => none)) (hz : z = 0 ∨ z = 1) : RuP n μ pc ls st (hp L q c e) (oI L c e (z, q)) := by
  rw [if_pos (show ax_rok 3 z = true from decide_eq_true hz)] at hs
  exact RuP.dI (qi := (z, q)) hs
theorem RuP.dC (hs : ax_step μ pc ls st (hp L q c e) = (match (if ax_rok 4 z = true then some (some (.inl z)) else none : Option (Option ax_V)) with
    | some v => some (.inr (.inl (.inl v, hp L q c e)))
    | none => none)) (hz : 0 ≤ z ∧ z < 65536) : RuP n μ pc ls st (hp L q c e) (oI L c e (z, q)) := by
  rw [if_pos (show ax_rok 4 z = true from decide_eq_true hz)] at hs
  exact RuP.dI (qi := (z, q)) hs
theorem RuP.dY (hs : ax_step μ pc ls st (hp L q c e) = (match (if ax_rok 5 z = true then some (some (.inl z)) else none : Option (Option ax_V)) with
    | some v => some (.inr (.inl (.inl v, hp L q c e)))
    | none => none)) (hz : -128 ≤ z ∧ z < 128) : RuP n μ pc ls st (hp L q c e) (oI L c e (z, q)) := by
  rw [if_pos (show ax_rok 5 z = true from decide_eq_true hz)] at hs
  exact RuP.dI (qi := (z, q)) hs
theorem u16_ok (z : Int) : 0 ≤ ax_u16 z ∧ ax_u16 z < 65536 := ⟨Int.emod_nonneg _ (by decide), Int.emod_lt_of_pos _ (by decide)⟩
end RPB
section RPE
variable {n pc y L c : Nat} {μ : ax_M} {ls : ax_L} {st as r : List ax_V} {h : ax_H} {Φ : ax_O → ax_H → Prop} {e : Nat → Nat} {X q : Sg} {XI qi : Int × Sg}
theorem RuP.cVe (hq : some X = some q) (e1 : ax_step μ pc ls st h = some (.inr (.inr (y, as, r)))) (c1 : EvP n y as h (oV L c e X)) (k : RuP n μ (pc + 3) ls r (hp L q c e) Φ) : RuP n μ pc ls st h Φ := by
  cases hq
  exact RuP.cV e1 c1 k
theorem RuP.cIe (hq : some XI = some qi) (e1 : ax_step μ pc ls st h = some (.inr (.inr (y, as, r)))) (c1 : EvP n y as h (oI L c e XI)) (k : RuP n μ (pc + 3) ls (.inl qi.1 :: r) (hp L qi.2 c e) Φ) : RuP n μ pc ls st h Φ := by
  cases hq
  exact RuP.cI e1 c1 k
theorem EvP.ip (k : Ev n y as h (.inl (some (.inl XI.1))) (hp L XI.2 c e)) : EvP n y as h (oI L c e XI) := ⟨_, _, k, rfl, rfl⟩
end RPE
