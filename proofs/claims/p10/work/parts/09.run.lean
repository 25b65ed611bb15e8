/-! THE ABSTRACT MACHINE's heap, calls, and run. -/
def ax_at : List (Option ax_E) → Nat → Option ax_E
  | [], _ => none
  | a :: _, 0 => a
  | _ :: r, n + 1 => ax_at r n
def tb_RN (k : Nat) : String := tb_rn.getD k ""
def tb_f (ci j : Nat) : String × String × Nat × Bool := (tb_fl.getD ci []).getD j ("", "", 9, true)
def tb_N (ci : Nat) : Nat := (tb_fl.getD ci []).length
def ax_kd (h : ax_H) (a : Nat) : Nat × Nat := h.2.2.1 a
def ax_nu (h : ax_H) (a j : Nat) : Int := h.2.2.2.1 a j
def ax_rf (h : ax_H) (a j : Nat) : Option Nat := h.2.2.2.2.1 a j
def ax_ex (h : ax_H) (a : Nat) : Nat := h.2.2.2.2.2 a
def ax_u2 {α : Type} (f : Nat → Nat → α) (a j : Nat) (z : α) : Nat → Nat → α := fun b k => if b = a then (if k = j then z else f b k) else f b k
def ax_u1 {α : Type} (f : Nat → α) (a : Nat) (z : α) : Nat → α := fun b => if b = a then z else f b
def ax_setn (h : ax_H) (a j : Nat) (z : Int) : ax_H := (h.1, h.2.1, h.2.2.1, ax_u2 h.2.2.2.1 a j z, h.2.2.2.2)
def ax_setr (h : ax_H) (a j : Nat) (x : Option Nat) : ax_H := (h.1, h.2.1, h.2.2.1, h.2.2.2.1, ax_u2 h.2.2.2.2.1 a j x, h.2.2.2.2.2)
def ax_sete (h : ax_H) (a x : Nat) : ax_H := (h.1, h.2.1, h.2.2.1, h.2.2.2.1, h.2.2.2.2.1, ax_u1 h.2.2.2.2.2 a x)
/-- a new cell of a kind, of n slots -/
def ax_new (h : ax_H) (k : Nat × Nat) (n : Nat) : ax_H := (h.1 + 1, h.2.1 + n, ax_u1 h.2.2.1 (27 + h.1) k, h.2.2.2)
/-- a new exception -/
def ax_newx (h : ax_H) (x : Nat) : ax_H := (h.1 + 1, h.2.1 + 6, h.2.2.1, h.2.2.2.1, h.2.2.2.2.1, ax_u1 h.2.2.2.2.2 (27 + h.1) (2 * x + 1))
def ax_fv (ft : Nat) (h : ax_H) (o j : Nat) : Option ax_V := match ft with
  | 0 => some (.inl (ax_nu h o j))
  | 1 => some (.inr (.inl (ax_nu h o j)))
  | 2 => some (.inr (.inr (ax_rf h o j)))
  | 3 => some (.inl (ax_nu h o j))
  | _ => none
def ax_pf (ft : Nat) (h : ax_H) (o j : Nat) (v : ax_V) : Option ax_H := match ft with
  | 0 => match v with
    | .inl z => some (ax_setn h o j z)
    | _ => none
  | 1 => match v with
    | .inr (.inl z) => some (ax_setn h o j z)
    | _ => none
  | 2 => match v with
    | .inr (.inr x) => some (ax_setr h o j x)
    | _ => none
  | 3 => match v with
    | .inl z => if z = 0 ∨ z = 1 then some (ax_setn h o j z) else none
    | _ => none
  | _ => none
/-- an element of an array of the type t -/
def ax_el (t : Nat) (z : Int) : ax_V := if t = 2 then .inr (.inl z) else .inl z
def ax_ald (t : Nat → Bool) (st : List ax_V) (h : ax_H) : Option (List ax_V × ax_H) := match st with
  | .inl j :: .inr (.inr (some o)) :: r => if t (ax_kd h o).1 = true ∧ 0 ≤ j ∧ j < ((ax_kd h o).2 : Int) then some (ax_el (ax_kd h o).1 (ax_nu h o j.toNat) :: r, h) else none
  | _ => none
/-- what an array of the type t takes of a number -/
def ax_tk (t : Nat) (z : Int) : Option Int := match t with
  | 0 => some z
  | 1 => some (ax_w8 z)
  | 2 => some z
  | 3 => if z = 0 ∨ z = 1 then some z else none
  | _ => none
def ax_ast (t : Nat → Bool) (v : ax_V) (st : List ax_V) (z : Int) (h : ax_H) : Option (List ax_V × ax_H) := match st with
  | .inl j :: .inr (.inr (some o)) :: r => if t (ax_kd h o).1 = true ∧ 0 ≤ j ∧ j < ((ax_kd h o).2 : Int) ∧ 27 ≤ o ∧ ax_el (ax_kd h o).1 z = v then (match ax_tk (ax_kd h o).1 z with
    | some y => some (r, ax_setn h o j.toNat y)
    | none => none) else none
  | _ => none
/-- an instruction that reads or writes the heap -/
def ax_heap (i : Instr) (a b : Nat) (d : Int) (st : List ax_V) (h : ax_H) : Option (List ax_V × ax_H) := match i with
  | .getfield _ => match st with
    | .inr (.inr (some o)) :: r => if (ax_kd h o).1 = 100 + a then (match ax_fv (tb_f a b).2.2.1 h o b with
      | some v => some (v :: r, h)
      | none => none) else none
    | _ => none
  | .putfield _ => match st with
    | v :: .inr (.inr (some o)) :: r => if (ax_kd h o).1 = 100 + a ∧ 27 ≤ o then (match ax_pf (tb_f a b).2.2.1 h o b v with
      | some h' => some (r, h')
      | none => none) else none
    | _ => none
  | .getstatic _ => some ((if a = 0 then .inr (.inr (some b)) else .inl d) :: st, h)
  | .ldc _ => some ((if a = 0 then .inl d else .inr (.inr (some b))) :: st, h)
  | .ldc_w _ => some ((if a = 0 then .inl d else .inr (.inr (some b))) :: st, h)
  | .ldc2_w _ => some (.inr (.inl d) :: st, h)
  | .arraylength => match st with
    | .inr (.inr (some o)) :: r => if (ax_kd h o).1 < 4 then some (.inl ((ax_kd h o).2 : Int) :: r, h) else none
    | _ => none
  | .iaload => ax_ald (fun t => t == 0) st h
  | .baload => ax_ald (fun t => t == 1 || t == 3) st h
  | .laload => ax_ald (fun t => t == 2) st h
  | .iastore => match st with
    | .inl z :: r => ax_ast (fun t => t == 0) (.inl z) r z h
    | _ => none
  | .bastore => match st with
    | .inl z :: r => ax_ast (fun t => t == 1 || t == 3) (.inl z) r z h
    | _ => none
  | .lastore => match st with
    | .inr (.inl z) :: r => ax_ast (fun t => t == 2) (.inr (.inl z)) r z h
    | _ => none
  | .new _ => if a = 0 then some (.inr (.inr (some (27 + h.1))) :: st, ax_new h (100 + b, tb_N b) (tb_ci.getD b (0, 0, 0, [])).2.2.1) else some (.inr (.inr (some (27 + h.1))) :: st, ax_newx h b)
  | .newarray _ => match st with
    | .inl n :: r => if 0 ≤ n ∧ n ≤ 1000000 then some (.inr (.inr (some (27 + h.1))) :: r, ax_new h (a, n.toNat) n.toNat) else none
    | _ => none
  | _ => none
/-- how an invocation ends: it returns, or throws a cell -/
abbrev ax_O : Type := Sum (Option ax_V) Nat
def ax_pop : Nat → List ax_V → Option (List ax_V × List ax_V)
  | 0, st => some ([], st)
  | n + 1, st => match st with
    | v :: r => match ax_pop n r with
      | some (as, q) => some (as ++ [v], q)
      | none => none
    | [] => none
def ax_wt (st : List ax_V) : Nat := (st.map ax_cat).sum
def ax_ent : List ax_V → ax_L
  | [] => []
  | v :: r => if ax_cat v = 2 then some v :: none :: ax_ent r else some v :: ax_ent r
def ax_rok (rt : Nat) (z : Int) : Bool := match rt with
  | 1 => true
  | 3 => decide (z = 0 ∨ z = 1)
  | 4 => decide (0 ≤ z ∧ z < 65536)
  | 5 => decide (-128 ≤ z ∧ z < 128)
  | _ => false
/-- where the exception of the class x, thrown at pc, is caught -/
def ax_catch (hs : List (Nat × Nat × Nat × Nat × Nat × Nat)) (pc x : Nat) : Option Nat := match hs with
  | [] => none
  | (s, e, t, _, y, _) :: r => if s ≤ pc ∧ pc < e ∧ 2 * y + 2 = x then some t else ax_catch r pc x
def ax_grp (i : Instr) : Nat := match i with
  | .goto _ => 1
  | .ifCond _ _ => 1
  | .if_icmp _ _ => 1
  | .tableswitch _ _ _ _ => 1
  | .lookupswitch _ _ => 1
  | .getfield _ => 2
  | .putfield _ => 2
  | .getstatic _ => 2
  | .ldc _ => 2
  | .ldc_w _ => 2
  | .ldc2_w _ => 2
  | .arraylength => 2
  | .iaload => 2
  | .baload => 2
  | .laload => 2
  | .iastore => 2
  | .bastore => 2
  | .lastore => 2
  | .new _ => 2
  | .newarray _ => 2
  | .invokevirtual _ => 3
  | .invokespecial _ => 3
  | .invokestatic _ => 3
  | .ireturn => 4
  | .lreturn => 4
  | .return_ => 4
  | _ => 0
def ax_cls (y : Nat) : Nat := (tb_ms.getD y (99, 0, 0, false, [], [])).1
/-- a call's arguments, and what is left of the stack -/
def ax_args (mode y n : Nat) (st : List ax_V) (h : ax_H) : Option (List ax_V × List ax_V) := match ax_pop n st with
  | none => none
  | some (as, r) => if mode = 2 then some (as, r) else match r with
    | .inr (.inr (some o)) :: q => if (ax_kd h o).1 = 100 + ax_cls y then some (.inr (.inr (some o)) :: as, q) else none
    | _ => none
def ax_cpy (f g : Nat → Int) (sp dp n : Nat) : Nat → Int := fun k => if dp ≤ k ∧ k < dp + n then f (sp + (k - dp)) else g k
/-- System.arraycopy of bytes -/
def ax_copy (st : List ax_V) (h : ax_H) : Option (List ax_V × ax_H) := match st with
  | .inl n :: .inl dp :: .inr (.inr (some t)) :: .inl sp :: .inr (.inr (some o)) :: r =>
    if (ax_kd h o).1 = 1 ∧ (ax_kd h t).1 = 1 ∧ 0 ≤ n ∧ 0 ≤ dp ∧ 0 ≤ sp ∧ sp + n ≤ ((ax_kd h o).2 : Int) ∧ dp + n ≤ ((ax_kd h t).2 : Int) ∧ 27 ≤ t ∧ 27 ≤ o ∧ o ≠ t then
      some (r, (h.1, h.2.1, h.2.2.1, (fun b => if b = t then ax_cpy (ax_nu h o) (ax_nu h t) sp.toNat dp.toNat n.toNat else h.2.2.2.1 b), h.2.2.2.2))
    else none
  | _ => none
/-- what stands behind it is athrow -/
def ax_nexta (μ : ax_M) (pc : Nat) : Bool := match ax_at μ.2.2.2.2.2 (pc + 3) with
  | some (.athrow, _) => true
  | _ => false
/-- new exceptions are thrown as they are made: where no handler is -/
def ax_throw (μ : ax_M) (pc x : Nat) (st : List ax_V) (h : ax_H) : Option (ax_O × ax_H) := match st with
  | .inr (.inr (some _)) :: .inr (.inr (some o)) :: .inr (.inr (some o2)) :: r =>
    if o = o2 ∧ ax_ex h o = 2 * x + 1 ∧ (27 ≤ o ∧ o + 1 = 27 + h.1) ∧ ax_wt r ≤ 20 ∧ ax_nexta μ pc = true ∧ μ.2.2.2.2.1 = [] then some (.inr o, ax_sete h o (2 * x + 2)) else none
  | _ => none
/-- what a step comes to: it goes on; the invocation ends; a method is called, with these arguments, and this is left of the stack -/
abbrev ax_S : Type := Sum (Nat × ax_L × List ax_V × ax_H) (Sum (ax_O × ax_H) (Nat × List ax_V × List ax_V))
def ax_inv (μ : ax_M) (a b : Nat) (d : Int) (pc : Nat) (ls : ax_L) (st : List ax_V) (h : ax_H) : Option ax_S :=
  if a = 5 then (match st with
    | .inr (.inr (some o)) :: r => if 27 ≤ o ∧ ax_wt r ≤ 20 then some (.inl (pc + 3, ls, r, h)) else none
    | _ => none)
  else if a = 6 then (match ax_copy st h with
    | some (st', h') => if ax_wt st' ≤ 20 then some (.inl (pc + 3, ls, st', h')) else none
    | none => none)
  else if a = 7 then (match ax_throw μ pc b st h with
    | some r => some (.inr (.inl r))
    | none => none)
  else match ax_args a b d.toNat st h with
    | none => none
    | some (as, r) => if ax_wt r ≤ 20 then some (.inr (.inr (b, as, r))) else none
def ax_rtn (μ : ax_M) (i : Instr) (st : List ax_V) : Option (Option ax_V) := match i with
  | .ireturn => (match st with
    | [.inl z] => if ax_rok μ.2.2.1 z = true then some (some (.inl z)) else none
    | _ => none)
  | .lreturn => (match st with
    | [.inr (.inl z)] => if μ.2.2.1 = 2 then some (some (.inr (.inl z))) else none
    | _ => none)
  | .return_ => (match st with
    | [] => if μ.2.2.1 = 0 then some none else none
    | _ => none)
  | _ => none
def ax_do (μ : ax_M) (i : Instr) (a b : Nat) (d : Int) (pc : Nat) (ls : ax_L) (st : List ax_V) (h : ax_H) : Option ax_S := match ax_grp i with
  | 0 => (match ax_pure i ls st with
    | some (ls', st') => some (.inl (pc + ax_len i, ls', st', h))
    | none => none)
  | 1 => (match ax_jump i pc st with
    | some (pc', st') => some (.inl (pc', ls, st', h))
    | none => none)
  | 2 => (match ax_heap i a b d st h with
    | some (st', h') => some (.inl (pc + ax_len i, ls, st', h'))
    | none => none)
  | 3 => ax_inv μ a b d pc ls st h
  | _ => (match ax_rtn μ i st with
    | some v => some (.inr (.inl (.inl v, h)))
    | none => none)
def ax_step (μ : ax_M) (pc : Nat) (ls : ax_L) (st : List ax_V) (h : ax_H) : Option ax_S := match ax_at μ.2.2.2.2.2 pc with
  | none => none
  | some (i, a, b, _, d) => ax_do μ i a b d pc ls st h
def ax_run (call : Nat → List ax_V → ax_H → Option (ax_O × ax_H)) (μ : ax_M) : Nat → Nat → ax_L → List ax_V → ax_H → Option (ax_O × ax_H)
  | 0, _, _, _, _ => none
  | f + 1, pc, ls, st, h => match ax_step μ pc ls st h with
    | none => none
    | some (.inl (pc', ls', st', h')) => ax_run call μ f pc' ls' st' h'
    | some (.inr (.inl r)) => some r
    | some (.inr (.inr (y, as, r))) => match call y as h with
      | none => none
      | some (.inl v, h') => ax_run call μ f (pc + 3) ls (v.toList ++ r) h'
      | some (.inr x, h') => match ax_catch μ.2.2.2.2.1 pc (ax_ex h' x) with
        | some t => ax_run call μ f t ls [.inr (.inr (some x))] h'
        | none => if μ.2.2.2.2.1 = [] then some (.inr x, h') else none
def ax_ev (F : Nat) : Nat → Nat → List ax_V → ax_H → Option (ax_O × ax_H)
  | 0 => fun _ _ _ => none
  | n + 1 => fun y as h => match tb_ms[y]? with
    | none => none
    | some μ => if (ax_ent as).length ≤ μ.2.1 then ax_run (ax_ev F n) μ F 0 (ax_ent as ++ List.replicate (μ.2.1 - (ax_ent as).length) none) [] h else none
/-! THE HEAP BEHIND THE CONSTRUCTORS: kinds and references stay as they are; numbers change, exceptions are made. -/
def bx_kl : List (Nat × Nat) := [(0, 0), (0, 22), (113, 2), (1, 49), (113, 2), (1, 20), (50, 0), (50, 0), (50, 0), (50, 0), (50, 0), (50, 0), (50, 0), (50, 0), (50, 0), (50, 0), (50, 0), (50, 0), (50, 0), (50, 0), (50, 0), (50, 0), (50, 0), (50, 0), (50, 0), (50, 0), (50, 0), (100, 14), (1, 8192), (104, 1), (0, 11), (106, 11), (0, 8192), (0, 4112), (2, 4112), (2, 4112), (0, 4112), (0, 4112), (0, 4112), (105, 12), (1, 8192), (0, 8193), (0, 8193), (0, 8193), (2, 8193), (0, 8193), (107, 8), (0, 8192), (0, 8192), (0, 8192), (0, 8192), (0, 8192), (0, 8192), (0, 8192), (111, 8), (0, 1171), (0, 1171), (0, 1171), (0, 1171), (0, 1171), (0, 1171), (102, 5), (0, 2049), (0, 2049), (0, 2049), (0, 2049), (103, 13), (0, 8192), (0, 8192), (0, 8192), (109, 10), (0, 80), (0, 80), (101, 6), (110, 14), (0, 1171), (0, 2731), (0, 2731), (0, 1171), (0, 1171), (0, 1171), (0, 1171), (108, 3), (1, 16384), (112, 75), (0, 8192), (0, 8192), (0, 25000), (0, 8200), (0, 8200), (0, 8200), (3, 8200), (3, 8200), (3, 8200), (0, 4100), (0, 4100), (0, 4100), (0, 4100), (0, 4100), (0, 4100), (0, 4100), (0, 4100), (0, 4100), (0, 4100), (0, 8200), (0, 8200), (0, 8200), (0, 8200), (0, 8200), (0, 8200), (0, 8200), (0, 8200), (0, 8200), (0, 8200), (3, 100), (0, 100), (0, 8200), (0, 8200), (0, 8200), (0, 8200), (0, 8200), (0, 8200), (0, 8200), (0, 8200), (0, 8200), (0, 16400), (0, 8200), (0, 8200), (0, 8200), (0, 8200), (0, 8200), (0, 8200), (0, 8200), (0, 4100), (0, 4100), (0, 8200), (2, 1)]
def bx_rl : List (List (Option Nat)) := [[], [], [some 3, none], [], [some 5, none], [], [], [], [], [], [], [], [], [], [], [], [], [], [], [], [], [], [], [], [], [], [], [some 28, none, none, some 29, some 31, some 39, some 46, some 54, some 61, some 66, some 70, some 73, some 74, some 82], [], [some 30], [], [some 32, some 33, some 34, some 35, some 36, some 37, some 38, none, none, none, none], [], [], [], [], [], [], [], [some 29, some 31, some 40, some 41, some 42, some 43, some 44, some 45, none, none, none, none], [], [], [], [], [], [], [some 47, some 48, some 49, some 50, some 51, some 52, some 53, none], [], [], [], [], [], [], [], [some 55, some 56, some 57, some 58, some 59, some 60, none, none], [], [], [], [], [], [], [some 62, some 63, some 64, some 65, none], [], [], [], [], [some 29, some 31, some 39, some 46, some 67, some 68, some 69, none, none, none, none, none, none], [], [], [], [some 29, some 31, some 39, some 46, some 54, some 61, some 66, some 71, some 72, none], [], [], [some 29, some 31, some 39, some 46, some 54, some 61], [some 29, some 31, some 39, some 54, some 75, some 76, some 77, none, some 78, some 79, some 80, none, some 81, none], [], [], [], [], [], [], [], [some 39, some 83, none], [], [none, none, some 85, none, some 86, none, none, none, none, none, some 87, none, some 88, some 89, some 90, some 91, some 92, some 93, none, none, some 94, some 95, some 96, some 97, some 98, some 99, some 100, some 101, some 102, some 103, none, none, some 104, some 105, none, some 106, some 107, some 108, some 109, some 110, some 111, some 112, some 113, none, some 114, some 115, none, none, some 116, some 117, some 118, some 119, some 120, some 121, some 122, some 123, some 124, none, some 125, none, some 126, some 127, some 128, none, some 129, some 130, some 131, none, none, some 132, none, some 133, none, some 134, some 135], [], [], [], [], [], [], [], [], [], [], [], [], [], [], [], [], [], [], [], [], [], [], [], [], [], [], [], [], [], [], [], [], [], [], [], [], [], [], [], [], [], [], [], [], [], [], [], [], [], [], [], []]
def bx_k (L a : Nat) : Nat × Nat := match a with
  | 0 => (0, L)
  | a + 1 => bx_kl.getD (a + 1) (50, 0)
def bx_r (a j : Nat) : Option Nat := (bx_rl.getD a []).getD j none
/-- the heap with the numbers s, behind c exceptions -/
def hp (L : Nat) (s : Nat → Nat → Int) (c : Nat) (e : Nat → Nat) : ax_H := (110 + c, 593192 + 6 * c, bx_k L, s, bx_r, e)
/-! BIG STEPS: an invocation, and a run from a place, without fuel. -/
def ax_sub (f g : Nat → List ax_V → ax_H → Option (ax_O × ax_H)) : Prop := ∀ y av h r, f y av h = some r → g y av h = some r
theorem ax_run_mono {f g : Nat → List ax_V → ax_H → Option (ax_O × ax_H)} (hs : ax_sub f g) (μ : ax_M) : ∀ (a b pc : Nat) (ls : ax_L) (st : List ax_V) (h : ax_H) (r : ax_O × ax_H), a ≤ b → ax_run f μ a pc ls st h = some r → ax_run g μ b pc ls st h = some r := by
  intro a
  induction a with
  | zero => intro b pc ls st h r _ e; cases e
  | succ a ih =>
    intro b pc ls st h r hb e
    obtain ⟨b, rfl⟩ : ∃ k, b = k + 1 := ⟨b - 1, by omega⟩
    have hb : a ≤ b := by omega
    simp only [ax_run] at e ⊢
    split at e
    · cases e
    · rename_i e1
      try rw [e1]
      exact ih b _ _ _ _ r hb e
    · rename_i e1
      try rw [e1]
      exact e
    · rename_i y as q e1
      try rw [e1]
      try dsimp only
      split at e
      · cases e
      · rename_i v h1 e2
        rw [hs _ _ _ _ e2]
        exact ih b _ _ _ _ r hb e
      · rename_i x h1 e2
        rw [hs _ _ _ _ e2]
        try dsimp only
        split at e
        · rename_i t e3
          try rw [e3]
          exact ih b _ _ _ _ r hb e
        · rename_i e3
          try rw [e3]
          exact e
theorem ax_ev_mono {F G : Nat} (hF : F ≤ G) : ∀ (n m : Nat), n ≤ m → ax_sub (ax_ev F n) (ax_ev G m) := by
  intro n
  induction n with
  | zero => intro m _ y av h r e; cases e
  | succ n ih =>
    intro m hm y av h r e
    obtain ⟨m, rfl⟩ : ∃ k, m = k + 1 := ⟨m - 1, by omega⟩
    simp only [ax_ev] at e ⊢
    split at e
    · cases e
    · rename_i μ e1
      try rw [e1]
      try dsimp only
      split at e
      · rename_i c
        rw [if_pos c]
        exact ax_run_mono (ih m (by omega)) μ F G 0 _ _ h r hF e
      · cases e
/-- the method y, called with av over h, comes to o over h', in at most n frames -/
def Ev (n y : Nat) (av : List ax_V) (h : ax_H) (o : ax_O) (h' : ax_H) : Prop := ∃ F, ax_ev F n y av h = some (o, h')
/-- from a place of a method, over frames of at most n -/
def Ru (n : Nat) (μ : ax_M) (pc : Nat) (ls : ax_L) (st : List ax_V) (h : ax_H) (o : ax_O) (h' : ax_H) : Prop := ∃ F f, ax_run (ax_ev F n) μ f pc ls st h = some (o, h')
theorem Ev.up {n m y : Nat} {av : List ax_V} {h h' : ax_H} {o : ax_O} (k : Ev n y av h o h') (hm : n ≤ m) : Ev m y av h o h' := by
  obtain ⟨F, e⟩ := k
  exact ⟨F, ax_ev_mono (Nat.le_refl F) n m hm _ _ _ _ e⟩
section RU
variable {n pc pc' y : Nat} {μ : ax_M} {ls ls' : ax_L} {st st' as r : List ax_V} {h h1 h' : ax_H} {o : ax_O} {v : Option ax_V} {x t : Nat}
theorem Ru.step (e : ax_step μ pc ls st h = some (.inl (pc', ls', st', h1))) (k : Ru n μ pc' ls' st' h1 o h') : Ru n μ pc ls st h o h' := by
  obtain ⟨F, f, k⟩ := k
  refine ⟨F, f + 1, ?_⟩
  simp only [ax_run, e]
  exact k
theorem Ru.done (e : ax_step μ pc ls st h = some (.inr (.inl (o, h')))) : Ru n μ pc ls st h o h' := by
  refine ⟨0, 1, ?_⟩
  simp only [ax_run, e]
theorem Ru.call (e : ax_step μ pc ls st h = some (.inr (.inr (y, as, r)))) (c : Ev n y as h (.inl v) h1) (k : Ru n μ (pc + 3) ls (v.toList ++ r) h1 o h') : Ru n μ pc ls st h o h' := by
  obtain ⟨F, f, k⟩ := k
  obtain ⟨G, c⟩ := c
  refine ⟨max F G, f + 1, ?_⟩
  simp only [ax_run, e]
  rw [ax_ev_mono (Nat.le_max_right F G) n n (Nat.le_refl n) _ _ _ _ c]
  exact ax_run_mono (ax_ev_mono (Nat.le_max_left F G) n n (Nat.le_refl n)) μ f f _ _ _ _ _ (Nat.le_refl f) k
theorem Ru.caught (e : ax_step μ pc ls st h = some (.inr (.inr (y, as, r)))) (c : Ev n y as h (.inr x) h1) (hc : ax_catch μ.2.2.2.2.1 pc (ax_ex h1 x) = some t) (k : Ru n μ t ls [.inr (.inr (some x))] h1 o h') : Ru n μ pc ls st h o h' := by
  obtain ⟨F, f, k⟩ := k
  obtain ⟨G, c⟩ := c
  refine ⟨max F G, f + 1, ?_⟩
  simp only [ax_run, e]
  rw [ax_ev_mono (Nat.le_max_right F G) n n (Nat.le_refl n) _ _ _ _ c]
  dsimp only
  rw [hc]
  exact ax_run_mono (ax_ev_mono (Nat.le_max_left F G) n n (Nat.le_refl n)) μ f f _ _ _ _ _ (Nat.le_refl f) k
theorem Ru.passed (e : ax_step μ pc ls st h = some (.inr (.inr (y, as, r)))) (c : Ev n y as h (.inr x) h1) (hn : μ.2.2.2.2.1 = []) : Ru n μ pc ls st h (.inr x) h1 := by
  obtain ⟨G, c⟩ := c
  refine ⟨G, 1, ?_⟩
  simp only [ax_run, e]
  rw [c]
  dsimp only
  rw [hn]
  rfl
theorem Ev.of {av : List ax_V} (hμ : tb_ms[y]? = some μ) (hl : (ax_ent av).length ≤ μ.2.1) (hls : ax_ent av ++ List.replicate (μ.2.1 - (ax_ent av).length) none = ls) (k : Ru n μ 0 ls [] h o h') : Ev (n + 1) y av h o h' := by
  obtain ⟨F, f, k⟩ := k
  refine ⟨max F f, ?_⟩
  simp only [ax_ev, hμ]
  rw [if_pos hl, hls]
  exact ax_run_mono (ax_ev_mono (Nat.le_max_left F f) n n (Nat.le_refl n)) μ f (max F f) _ _ _ _ _ (Nat.le_max_right F f) k
end RU
/-- a jump that is taken, and one that isn't -/
theorem ax_jy {P : Prop} (inst : Decidable P) {pc : Nat} {off : Int} {r : List ax_V} (h : P) : @ax_jif P inst pc off r = some (ax_to pc off, r) := if_pos h
theorem ax_jn {P : Prop} (inst : Decidable P) {pc : Nat} {off : Int} {r : List ax_V} (h : ¬ P) : @ax_jif P inst pc off r = some (pc + 3, r) := if_neg h
section RUJ
variable {n pc : Nat} {μ : ax_M} {ls : ax_L} {st r : List ax_V} {h h' : ax_H} {o : ax_O} {off : Int} {P : Prop} {inst : Decidable P}
theorem Ru.jy (e : ax_step μ pc ls st h = (match @ax_jif P inst pc off r with
    | some (pc', st') => some (.inl (pc', ls, st', h))
    | none => none)) (q : P) (k : Ru n μ (ax_to pc off) ls r h o h') : Ru n μ pc ls st h o h' := by
  rw [ax_jy inst q] at e
  exact Ru.step e k
theorem Ru.jn (e : ax_step μ pc ls st h = (match @ax_jif P inst pc off r with
    | some (pc', st') => some (.inl (pc', ls, st', h))
    | none => none)) (q : ¬ P) (k : Ru n μ (pc + 3) ls r h o h') : Ru n μ pc ls st h o h' := by
  rw [ax_jn inst q] at e
  exact Ru.step e k
end RUJ
section RUA
variable {n pc pc' a : Nat} {μ : ax_M} {ls : ax_L} {st r : List ax_V} {h h' : ax_H} {o : ax_O} {f : Nat → Bool} {j z w : Int} {v : ax_V}
theorem Ru.ald (e : ax_step μ pc ls st h = (match ax_ald f (.inl j :: .inr (.inr (some a)) :: r) h with
    | some (st', h') => some (.inl (pc', ls, st', h'))
    | none => none)) (k1 : f (ax_kd h a).1 = true) (h0 : 0 ≤ j) (h1 : j < ((ax_kd h a).2 : Int)) (k : Ru n μ pc' ls (ax_el (ax_kd h a).1 (ax_nu h a j.toNat) :: r) h o h') : Ru n μ pc ls st h o h' := by
  have q : ax_ald f (.inl j :: .inr (.inr (some a)) :: r) h = some (ax_el (ax_kd h a).1 (ax_nu h a j.toNat) :: r, h) := if_pos ⟨k1, h0, h1⟩
  rw [q] at e
  exact Ru.step e k
theorem Ru.ast (e : ax_step μ pc ls st h = (match ax_ast f v (.inl j :: .inr (.inr (some a)) :: r) z h with
    | some (st', h') => some (.inl (pc', ls, st', h'))
    | none => none)) (k1 : f (ax_kd h a).1 = true) (k2 : 27 ≤ a) (k3 : ax_el (ax_kd h a).1 z = v) (k4 : ax_tk (ax_kd h a).1 z = some w) (h0 : 0 ≤ j) (h1 : j < ((ax_kd h a).2 : Int)) (k : Ru n μ pc' ls r (ax_setn h a j.toNat w) o h') : Ru n μ pc ls st h o h' := by
  have q : ax_ast f v (.inl j :: .inr (.inr (some a)) :: r) z h = some (r, ax_setn h a j.toNat w) := by
    show (if _ then _ else _) = _
    rw [if_pos ⟨k1, h0, h1, k2, k3⟩, k4]
  rw [q] at e
  exact Ru.step e k
end RUA
