/-! THE ABSTRACT MACHINE's heap, calls, and run. -/
def ax_at : List (Option ax_E) → Nat → Option ax_E
  | [], _ => none
  | a :: _, 0 => a
  | _ :: r, n + 1 => ax_at r n
def tb_RN (k : Nat) : String := tb_rn.getD k ""
def tb_f (ci j : Nat) : String × String × Nat × Bool := (tb_fl.getD ci []).getD j ("", "", 9, true)
def tb_N (ci : Nat) : Nat := (tb_fl.getD ci []).length
def ax_kd (h : ax_H) (a : Nat) : Nat × Nat := h.2.2.1 a
def ax_nu (h : ax_H) (a j : Nat) : Int := h.2.2.2.1 a j
def ax_rf (h : ax_H) (a j : Nat) : Option Nat := h.2.2.2.2.1 a j
def ax_ex (h : ax_H) (a : Nat) : Nat := h.2.2.2.2.2 a
def ax_u2 {α : Type} (f : Nat → Nat → α) (a j : Nat) (z : α) : Nat → Nat → α := fun b k => if b = a then (if k = j then z else f b k) else f b k
def ax_u1 {α : Type} (f : Nat → α) (a : Nat) (z : α) : Nat → α := fun b => if b = a then z else f b
def ax_setn (h : ax_H) (a j : Nat) (z : Int) : ax_H := (h.1, h.2.1, h.2.2.1, ax_u2 h.2.2.2.1 a j z, h.2.2.2.2)
def ax_setr (h : ax_H) (a j : Nat) (x : Option Nat) : ax_H := (h.1, h.2.1, h.2.2.1, h.2.2.2.1, ax_u2 h.2.2.2.2.1 a j x, h.2.2.2.2.2)
def ax_sete (h : ax_H) (a x : Nat) : ax_H := (h.1, h.2.1, h.2.2.1, h.2.2.2.1, h.2.2.2.2.1, ax_u1 h.2.2.2.2.2 a x)
/-- a new cell of a kind, of n slots -/
def ax_new (h : ax_H) (k : Nat × Nat) (n : Nat) : ax_H := (h.1 + 1, h.2.1 + n, ax_u1 h.2.2.1 (27 + h.1) k, h.2.2.2)
/-- a new exception -/
def ax_newx (h : ax_H) (x : Nat) : ax_H := (h.1 + 1, h.2.1 + 6, h.2.2.1, h.2.2.2.1, h.2.2.2.2.1, ax_u1 h.2.2.2.2.2 (27 + h.1) (2 * x + 1))
def ax_fv (ft : Nat) (h : ax_H) (o j : Nat) : Option ax_V := match ft with
  | 0 => some (.inl (ax_nu h o j))
  | 1 => some (.inr (.inl (ax_nu h o j)))
  | 2 => some (.inr (.inr (ax_rf h o j)))
  | 3 => some (.inl (ax_nu h o j))
  | _ => none
def ax_pf (ft : Nat) (h : ax_H) (o j : Nat) (v : ax_V) : Option ax_H := match ft with
  | 0 => match v with
    | .inl z => some (ax_setn h o j z)
    | _ => none
  | 1 => match v with
    | .inr (.inl z) => some (ax_setn h o j z)
    | _ => none
  | 2 => match v with
    | .inr (.inr x) => some (ax_setr h o j x)
    | _ => none
  | 3 => match v with
    | .inl z => if z = 0 ∨ z = 1 then some (ax_setn h o j z) else none
    | _ => none
  | _ => none
/-- an element of an array of the type t -/
def ax_el (t : Nat) (z : Int) : ax_V := if t = 2 then .inr (.inl z) else .inl z
def ax_ald (t : Nat → Bool) (st : List ax_V) (h : ax_H) : Option (List ax_V × ax_H) := match st with
  | .inl j :: .inr (.inr (some o)) :: r => if t (ax_kd h o).1 = true ∧ 0 ≤ j ∧ j < ((ax_kd h o).2 : Int) then some (ax_el (ax_kd h o).1 (ax_nu h o j.toNat) :: r, h) else none
  | _ => none
/-- what an array of the type t takes of a number -/
def ax_tk (t : Nat) (z : Int) : Option Int := match t with
  | 0 => some z
  | 1 => some (ax_w8 z)
  | 2 => some z
  | 3 => if z = 0 ∨ z = 1 then some z else none
  | _ => none
def ax_ast (t : Nat → Bool) (v : ax_V) (st : List ax_V) (z : Int) (h : ax_H) : Option (List ax_V × ax_H) := match st with
  | .inl j :: .inr (.inr (some o)) :: r => if t (ax_kd h o).1 = true ∧ 0 ≤ j ∧ j < ((ax_kd h o).2 : Int) ∧ 27 ≤ o ∧ ax_el (ax_kd h o).1 z = v then (match ax_tk (ax_kd h o).1 z with
    | some y => some (r, ax_setn h o j.toNat y)
    | none => none) else none
  | _ => none
/-- an instruction that reads or writes the heap -/
def ax_heap (i : Instr) (a b : Nat) (d : Int) (st : List ax_V) (h : ax_H) : Option (List ax_V × ax_H) := match i with
  | .getfield _ => match st with
    | .inr (.inr (some o)) :: r => if (ax_kd h o).1 = 100 + a then (match ax_fv (tb_f a b).2.2.1 h o b with
      | some v => some (v :: r, h)
      | none => none) else none
    | _ => none
  | .putfield _ => match st with
    | v :: .inr (.inr (some o)) :: r => if (ax_kd h o).1 = 100 + a ∧ 27 ≤ o then (match ax_pf (tb_f a b).2.2.1 h o b v with
      | some h' => some (r, h')
      | none => none) else none
    | _ => none
  | .getstatic _ => some ((if a = 0 then .inr (.inr (some b)) else .inl d) :: st, h)
  | .ldc _ => some ((if a = 0 then .inl d else .inr (.inr (some b))) :: st, h)
  | .ldc_w _ => some ((if a = 0 then .inl d else .inr (.inr (some b))) :: st, h)
  | .ldc2_w _ => some (.inr (.inl d) :: st, h)
  | .arraylength => match st with
    | .inr (.inr (some o)) :: r => if (ax_kd h o).1 < 4 then some (.inl ((ax_kd h o).2 : Int) :: r, h) else none
    | _ => none
  | .iaload => ax_ald (fun t => t == 0) st h
  | .baload => ax_ald (fun t => t == 1 || t == 3) st h
  | .laload => ax_ald (fun t => t == 2) st h
  | .iastore => match st with
    | .inl z :: r => ax_ast (fun t => t == 0) (.inl z) r z h
    | _ => none
  | .bastore => match st with
    | .inl z :: r => ax_ast (fun t => t == 1 || t == 3) (.inl z) r z h
    | _ => none
  | .lastore => match st with
    | .inr (.inl z) :: r => ax_ast (fun t => t == 2) (.inr (.inl z)) r z h
    | _ => none
  | .new _ => if a = 0 then some (.inr (.inr (some (27 + h.1))) :: st, ax_new h (100 + b, tb_N b) (tb_ci.getD b (0, 0, 0, [])).2.2.1) else some (.inr (.inr (some (27 + h.1))) :: st, ax_newx h b)
  | .newarray _ => match st with
    | .inl n :: r => if 0 ≤ n ∧ n ≤ 1000000 then some (.inr (.inr (some (27 + h.1))) :: r, ax_new h (a, n.toNat) n.toNat) else none
    | _ => none
  | _ => none
/-- how an invocation ends: it returns, or throws a cell -/
abbrev ax_O : Type := Sum (Option ax_V) Nat
def ax_pop : Nat → List ax_V → Option (List ax_V × List ax_V)
  | 0, st => some ([], st)
  | n + 1, st => match st with
    | v :: r => match ax_pop n r with
      | some (as, q) => some (as ++ [v], q)
      | none => none
    | [] => none
def ax_wt (st : List ax_V) : Nat := (st.map ax_cat).sum
def ax_ent : List ax_V → ax_L
  | [] => []
  | v :: r => if ax_cat v = 2 then some v :: none :: ax_ent r else some v :: ax_ent r
def ax_rok (rt : Nat) (z : Int) : Bool := match rt with
  | 1 => true
  | 3 => decide (z = 0 ∨ z = 1)
  | 4 => decide (0 ≤ z ∧ z < 65536)
  | 5 => decide (-128 ≤ z ∧ z < 128)
  | _ => false
/-- where the exception of the class x, thrown at pc, is caught -/
def ax_catch (hs : List (Nat × Nat × Nat × Nat × Nat × Nat)) (pc x : Nat) : Option Nat := match hs with
  | [] => none
  | (s, e, t, _, y, _) :: r => if s ≤ pc ∧ pc < e ∧ 2 * y + 2 = x then some t else ax_catch r pc x
def ax_grp (i : Instr) : Nat := match i with
  | .goto _ => 1
  | .ifCond _ _ => 1
  | .if_icmp _ _ => 1
  | .tableswitch _ _ _ _ => 1
  | .lookupswitch _ _ => 1
  | .getfield _ => 2
  | .putfield _ => 2
  | .getstatic _ => 2
  | .ldc _ => 2
  | .ldc_w _ => 2
  | .ldc2_w _ => 2
  | .arraylength => 2
  | .iaload => 2
  | .baload => 2
  | .laload => 2
  | .iastore => 2
  | .bastore => 2
  | .lastore => 2
  | .new _ => 2
  | .newarray _ => 2
  | .invokevirtual _ => 3
  | .invokespecial _ => 3
  | .invokestatic _ => 3
  | .ireturn => 4
  | .lreturn => 4
  | .return_ => 4
  | _ => 0
def ax_cls (y : Nat) : Nat := (tb_ms.getD y (99, 0, 0, false, [], [])).1
/-- a call's arguments, and what is left of the stack -/
def ax_args (mode y n : Nat) (st : List ax_V) (h : ax_H) : Option (List ax_V × List ax_V) := match ax_pop n st with
  | none => none
  | some (as, r) => if mode = 2 then some (as, r) else match r with
    | .inr (.inr (some o)) :: q => if (ax_kd h o).1 = 100 + ax_cls y then some (.inr (.inr (some o)) :: as, q) else none
    | _ => none
def ax_cpy (f g : Nat → Int) (sp dp n : Nat) : Nat → Int := fun k => if dp ≤ k ∧ k < dp + n then f (sp + (k - dp)) else g k
/-- System.arraycopy of bytes -/
def ax_copy (st : List ax_V) (h : ax_H) : Option (List ax_V × ax_H) := match st with
  | .inl n :: .inl dp :: .inr (.inr (some t)) :: .inl sp :: .inr (.inr (some o)) :: r =>
    if (ax_kd h o).1 = 1 ∧ (ax_kd h t).1 = 1 ∧ 0 ≤ n ∧ 0 ≤ dp ∧ 0 ≤ sp ∧ sp + n ≤ ((ax_kd h o).2 : Int) ∧ dp + n ≤ ((ax_kd h t).2 : Int) ∧ 27 ≤ t ∧ 27 ≤ o ∧ o ≠ t then
      some (r, (h.1, h.2.1, h.2.2.1, (fun b => if b = t then ax_cpy (ax_nu h o) (ax_nu h t) sp.toNat dp.toNat n.toNat else h.2.2.2.1 b), h.2.2.2.2))
    else none
  | _ => none
/-- what stands behind it is athrow -/
def ax_nexta (μ : ax_M) (pc : Nat) : Bool := match ax_at μ.2.2.2.2.2 (pc + 3) with
  | some (.athrow, _) => true
  | _ => false
/-- new exceptions are thrown as they are made: where no handler is -/
def ax_throw (μ : ax_M) (pc x : Nat) (st : List ax_V) (h : ax_H) : Option (ax_O × ax_H) := match st with
  | .inr (.inr (some _)) :: .inr (.inr (some o)) :: .inr (.inr (some o2)) :: r =>
    if o = o2 ∧ ax_ex h o = 2 * x + 1 ∧ (27 ≤ o ∧ o + 1 = 27 + h.1) ∧ ax_wt r ≤ 20 ∧ ax_nexta μ pc = true ∧ μ.2.2.2.2.1 = [] then some (.inr o, ax_sete h o (2 * x + 2)) else none
  | _ => none
/-- what a step comes to: it goes on; the invocation ends; a method is called, with these arguments, and this is left of the stack -/
abbrev ax_S : Type := Sum (Nat × ax_L × List ax_V × ax_H) (Sum (ax_O × ax_H) (Nat × List ax_V × List ax_V))
def ax_inv (μ : ax_M) (a b : Nat) (d : Int) (pc : Nat) (ls : ax_L) (st : List ax_V) (h : ax_H) : Option ax_S :=
  if a = 5 then (match st with
    | .inr (.inr (some o)) :: r => if 27 ≤ o ∧ ax_wt r ≤ 20 then some (.inl (pc + 3, ls, r, h)) else none
    | _ => none)
  else if a = 6 then (match ax_copy st h with
    | some (st', h') => if ax_wt st' ≤ 20 then some (.inl (pc + 3, ls, st', h')) else none
    | none => none)
  else if a = 7 then (match ax_throw μ pc b st h with
    | some r => some (.inr (.inl r))
    | none => none)
  else match ax_args a b d.toNat st h with
    | none => none
    | some (as, r) => if ax_wt r ≤ 20 then some (.inr (.inr (b, as, r))) else none
def ax_rtn (μ : ax_M) (i : Instr) (st : List ax_V) : Option (Option ax_V) := match i with
  | .ireturn => (match st with
    | [.inl z] => if ax_rok μ.2.2.1 z = true then some (some (.inl z)) else none
    | _ => none)
  | .lreturn => (match st with
    | [.inr (.inl z)] => if μ.2.2.1 = 2 then some (some (.inr (.inl z))) else none
    | _ => none)
  | .return_ => (match st with
    | [] => if μ.2.2.1 = 0 then some none else none
    | _ => none)
  | _ => none
def ax_do (μ : ax_M) (i : Instr) (a b : Nat) (d : Int) (pc : Nat) (ls : ax_L) (st : List ax_V) (h : ax_H) : Option ax_S := match ax_grp i with
  | 0 => (match ax_pure i ls st with
    | some (ls', st') => some (.inl (pc + ax_len i, ls', st', h))
    | none => none)
  | 1 => (match ax_jump i pc st with
    | some (pc', st') => some (.inl (pc', ls, st', h))
    | none => none)
  | 2 => (match ax_heap i a b d st h with
    | some (st', h') => some (.inl (pc + ax_len i, ls, st', h'))
    | none => none)
  | 3 => ax_inv μ a b d pc ls st h
  | _ => (match ax_rtn μ i st with
    | some v => some (.inr (.inl (.inl v, h)))
    | none => none)
def ax_step (μ : ax_M) (pc : Nat) (ls : ax_L) (st : List ax_V) (h : ax_H) : Option ax_S := match ax_at μ.2.2.2.2.2 pc with
  | none => none
  | some (i, a, b, _, d) => ax_do μ i a b d pc ls st h
def ax_run (call : Nat → List ax_V → ax_H → Option (ax_O × ax_H)) (μ : ax_M) : Nat → Nat → ax_L → List ax_V → ax_H → Option (ax_O × ax_H)
  | 0, _, _, _, _ => none
  | f + 1, pc, ls, st, h => match ax_step μ pc ls st h with
    | none => none
    | some (.inl (pc', ls', st', h')) => ax_run call μ f pc' ls' st' h'
    | some (.inr (.inl r)) => some r
    | some (.inr (.inr (y, as, r))) => match call y as h with
      | none => none
      | some (.inl v, h') => ax_run call μ f (pc + 3) ls (v.toList ++ r) h'
      | some (.inr x, h') => match ax_catch μ.2.2.2.2.1 pc (ax_ex h' x) with
        | some t => ax_run call μ f t ls [.inr (.inr (some x))] h'
        | none => if μ.2.2.2.2.1 = [] then some (.inr x, h') else none
def ax_ev (F : Nat) : Nat → Nat → List ax_V → ax_H → Option (ax_O × ax_H)
  | 0 => fun _ _ _ => none
  | n + 1 => fun y as h => match tb_ms[y]? with
    | none => none
    | some μ => if (ax_ent as).length ≤ μ.2.1 then ax_run (ax_ev F n) μ F 0 (ax_ent as ++ List.replicate (μ.2.1 - (ax_ent as).length) none) [] h else none
/-! A HANDLER WHOSE CATCH TYPE MAY NOT BE RESOLVED YET. -/
section SOC
variable {E : CtlPost} {e : Env} {d : Bool} {acts : List Action} {s : State} {f : JFrame} {a : Addr} {Q : Handler → Pre}
theorem so_go {x : ExceptionTableEntry} {t : List ExceptionTableEntry} {c : ClassId} {cell : Cell} {vm' : Vm} (hx : covers x f.pc = true) (h0 : x.catchType ≠ 0) (hg : (Jvm.resolveClass f.method.cls x.catchType).Gives e.toSetting s.vm (.ok c) vm') (hsz : vm'.classes.size ≤ s.vm.classes.size)
    (hcell : s.heap[a]? = some cell) (hobj : ∀ k, cell.vm ≠ .statics k) (hk : ∃ k, vm'.classes[cell.cls]? = some k) (hc : ∃ k, vm'.classes[c]? = some k) :
    wp (findHandler.go f a (x :: t)) Q E e d acts s ↔ if vm'.assignable cell.cls c = true then Q (.found x.handlerPc) d acts (s.setVm vm') else wp (findHandler.go f a t) Q E e d acts (s.setVm vm') := by
  obtain ⟨ha, ht⟩ := hg.op (op := VmOp.resolveClass f.method.cls x.catchType) rfl
  simp only [covers] at hx
  cases hfit : vm'.assignable cell.cls c
  · simp [findHandler.go, hx, h0, ha, ht, hsz, hcell, hobj, hk, hc, hfit, VmOp.dirties, VmOp.acts]
  · simp [findHandler.go, hx, h0, ha, ht, hsz, hcell, hobj, hk, hc, hfit, VmOp.dirties, VmOp.acts]
/-- what the search gives, and the tables that it leaves -/
def so_Finds (e : Env) (s : State) (f : JFrame) (a : Addr) (h : Handler) (vm' : Vm) : Prop :=
  ∀ (Q : Handler → Pre) (E : CtlPost) (d : Bool) (acts : List Action), wp (findHandler f a) Q E e d acts s ↔ Q h d acts (s.setVm vm')
theorem so_step_catch {r : List Frame} {pc : Nat} {vm' : Vm} (hfind : so_Finds e s f a (.found pc) vm') :
    (stepThrowing e s a (.java f :: r)).Is ((s.setVm vm').setFrames (.java { f with pc := pc, stack := [.ref a] } :: r)) [] := by
  simp only [stepThrowing, searchFrame, vmDo]
  generalize hr : Sem.go _ e false [] s = res
  obtain ⟨as, rfl, ha⟩ := Sem.eq_ok_of hr (a := Handler.found pc) (s' := s.setVm vm') (acts' := []) (by simp [hfind _ _ _ _])
  exact ⟨rfl, ha⟩
end SOC
section SOD
variable {tb : Tables} {e : Env} {s target : State} {g : JFrame} {c : Code} {below : List Frame} {a : Addr}
theorem so_caught (h : At s g.method c below) {pc : Nat} {vm' : Vm} (hfind : so_Finds e ((s.setTop g).pushFrame (.throwing a)) g a (.found pc) vm')
    (hrest : Steps tb e below ((s.setVm vm').setTop { g with pc := pc, stack := [.ref a] }) target) : Steps tb e below ((s.setTop g).pushFrame (.throwing a)) target := by
  obtain ⟨hgo, hw⟩ := h.throwing a
  refine Steps.head hgo hw ?_
  rw [stepThread_throwing (frames_entered h.top _), (so_step_catch (s := (s.setTop g).pushFrame (.throwing a)) hfind).1]
  obtain ⟨g₀, hg⟩ := Option.isSome_iff_exists.mp h.top
  obtain ⟨r, hr⟩ := State.topJava?_eq_some.mp hg
  have hr' : (s.setVm vm').frames = .java g₀ :: r := hr
  rw [State.setTop_of_frames _ hr'] at hrest
  rw [State.pushFrame, State.setTop_of_frames _ hr, State.setFrames_setFrames]
  have e1 : ∀ fs gs : List Frame, ((s.setFrames fs).setVm vm').setFrames gs = (s.setVm vm').setFrames gs := fun fs gs => by
    show ((s.setVm vm').setFrames fs).setFrames gs = _
    rw [State.setFrames_setFrames]
  rw [e1, show s.frames.tail = r by rw [hr]; rfl]
  exact hrest
end SOD
/-- the words that hold at every later state -/
def so_gw (w : Cond) : Bool := goodWord w || (match w with
  | .fieldLinkNest _ _ _ _ _ _ => true
  | .methodLinkNest _ _ _ _ => true
  | .castable _ _ => true
  | .declares _ => true
  | _ => false)
/-! THE ABSTRACT HEAP BESIDE THE MACHINE's. -/
/-- the numbers of cells: those from 27 on are new, at B and behind it; the others are old, below B -/
def so_AD (ad : Nat → Option Nat) (B : Nat) : Prop := (∀ k : Nat, ad (27 + k) = some (B + k)) ∧ ∀ a r : Nat, a < 26 → ad a = some r → r < B
theorem so_AD.apart {ad : Nat → Option Nat} {B : Nat} (h : so_AD ad B) {a o r q : Nat} (ho : 27 ≤ o) (hne : a ≠ o) (h26 : a ≠ 26) (ha : ad a = some r) (hq : ad o = some q) : r ≠ q := by
  have e1 := h.1 (o - 27)
  rw [show 27 + (o - 27) = o by omega, hq] at e1
  have e1 := Option.some.inj e1
  by_cases h27 : a < 27
  · have := h.2 a r (by omega) ha
    omega
  · have e2 := h.1 (a - 27)
    rw [show 27 + (a - 27) = a by omega, ha] at e2
    have e2 := Option.some.inj e2
    omega
theorem so_AD.new {ad : Nat → Option Nat} {B : Nat} (h : so_AD ad B) {o : Nat} (ho : 27 ≤ o) : ad o = some (B + (o - 27)) := by
  have e1 := h.1 (o - 27)
  rwa [show 27 + (o - 27) = o by omega] at e1
theorem so_AD.lt {ad : Nat → Option Nat} {B : Nat} (h : so_AD ad B) {a r n : Nat} (ha : a < 27 + n) (h26 : a ≠ 26) (hr : ad a = some r) : r < B + n := by
  by_cases h27 : a < 27
  · have := h.2 a r (by omega) hr
    omega
  · have e2 := h.new (o := a) (by omega)
    rw [hr] at e2
    have := Option.some.inj e2
    omega
def so_ty (t : Nat) : Option FieldType := match t with
  | 0 => some .int
  | 1 => some .byte
  | 2 => some .long
  | 3 => some .boolean
  | _ => none
/-- a length, as the machine tells it -/
def so_len (cell : Cell) (n : Nat) : Prop := n ≤ cell.slots.size ∧ cell.slots.size.toInt32 = Int32.ofNat n
theorem so_len.of {cell : Cell} {n : Nat} (h : cell.slots.size = n) : so_len cell n := ⟨Nat.le_of_eq h.symm, by rw [h]⟩
theorem so_len.set {cell cell' : Cell} {n : Nat} (h : so_len cell n) (e : cell'.slots.size = cell.slots.size) : so_len cell' n := ⟨by rw [e]; exact h.1, by rw [e]; exact h.2⟩
def so_arr (s : State) (H : Heap) (r : Nat) (ty : FieldType) (n : Nat) (V : Nat → Value) : Prop := ∃ cell : Cell, H[r]? = some cell ∧ s.isArrayOf cell ty ∧ cell.vm ≠ .unknown ∧ so_len cell n ∧ ∀ j : Nat, j < n → cell.slots[j]? = some (V j)
def so_obj (s : State) (H : Heap) (r ci : Nat) (V : Nat → Value) (new : Prop) : Prop := ∃ cell : Cell, H[r]? = some cell ∧ s.vm.findClass (tb_RN ci) = some cell.cls ∧ cell.vm ≠ .unknown ∧ cell.vm.isStatics = false ∧ (new → cell.vm = .none) ∧
  ∀ k : Nat, k < tb_N ci → ∃ (cf : ClassId) (kf : Class) (i : Nat) (f : Field), s.fieldFound? (tb_RN ci) (tb_f ci k).1 (tb_f ci k).2.1 = some (cf, kf, i, f) ∧ f.isStatic = false ∧ cell.slots[f.slot]? = some (V k)
def so_fv (ad : Nat → Option Nat) (h : ax_H) (a ci k : Nat) : Value := if (tb_f ci k).2.2.1 = 1 then .long (Int64.ofInt (ax_nu h a k)) else if (tb_f ci k).2.2.1 = 2 then so_v ad (.inr (.inr (ax_rf h a k))) else .int (Int32.ofInt (ax_nu h a k))
def so_cell (s : State) (ad : Nat → Option Nat) (h : ax_H) (H : Heap) (a : Nat) : Prop :=
  (∀ ty, so_ty (ax_kd h a).1 = some ty → ∃ r, ad a = some r ∧ so_arr s H r ty (ax_kd h a).2 (fun j => so_v ad (ax_el (ax_kd h a).1 (ax_nu h a j)))) ∧
  (∀ ci, (ax_kd h a).1 = 100 + ci → ∃ r, ad a = some r ∧ so_obj s H r ci (so_fv ad h a ci) (27 ≤ a)) ∧
  (∀ x, ax_ex h a = 2 * x + 1 → ∃ (r : Nat) (cX : ClassId) (kX : Class), ad a = some r ∧ s.vm.findClass (tb_RN x) = some cX ∧ s.vm.classes[cX]? = some kX ∧ H[r]? = some (blank cX kX)) ∧
  (∀ x, ax_ex h a = 2 * x + 2 → ∃ (r : Nat) (cell : Cell), ad a = some r ∧ H[r]? = some cell ∧ s.vm.findClass (tb_RN x) = some cell.cls ∧ cell.vm = .none)
/-- is the number there a long -/
def ax_isl (t j : Nat) : Bool := t == 2 || (decide (100 ≤ t) && (tb_f (t - 100) j).2.2.1 == 1)
def so_num (h : ax_H) : Prop := ∀ a j : Nat, (if ax_isl (ax_kd h a).1 j = true then (Int64.ofInt (ax_nu h a j)).toInt = ax_nu h a j else (Int32.ofInt (ax_nu h a j)).toInt = ax_nu h a j) ∧ ((ax_kd h a).1 = 1 → -128 ≤ ax_nu h a j ∧ ax_nu h a j < 128)
def so_rest (h : ax_H) : Prop := (∀ a : Nat, 27 + h.1 ≤ a → ax_kd h a = (50, 0) ∧ ax_ex h a = 0 ∧ ∀ j : Nat, ax_nu h a j = 0 ∧ ax_rf h a j = none) ∧ (∀ a : Nat, (ax_kd h a).2 < 2 ^ 31) ∧ (∀ a : Nat, ax_ex h a ≠ 0 → ax_kd h a = (50, 0) ∧ 27 ≤ a) ∧ ax_kd h 26 = (50, 0)
/-- it is no mere number -/
def so_is (h : ax_H) (a : Nat) : Prop := ax_kd h a ≠ (50, 0) ∨ ax_ex h a ≠ 0
theorem so_is.ne {h : ax_H} {a : Nat} (hr : so_rest h) (hi : so_is h a) : a ≠ 26 := by
  intro e
  subst e
  rcases hi with q | q
  · exact q hr.2.2.2
  · have := (hr.2.2.1 26 q).2
    omega
def so_Rel (s : State) (ad : Nat → Option Nat) (H0 : Heap) (h : ax_H) (H : Heap) : Prop := H.size = H0.size + h.1 ∧ (∀ q : Nat, q < H0.size → H[q]? = H0[q]?) ∧ (∀ a : Nat, a < 27 + h.1 → so_cell s ad h H a) ∧ so_num h ∧ so_rest h
theorem so_arr.kept {s : State} {H H' : Heap} {r n : Nat} {ty : FieldType} {V : Nat → Value} (h : so_arr s H r ty n V) (e : H'[r]? = H[r]?) : so_arr s H' r ty n V := by
  obtain ⟨cell, h1, h2⟩ := h
  exact ⟨cell, by rw [e]; exact h1, h2⟩
theorem so_obj.kept {s : State} {H H' : Heap} {r ci : Nat} {V : Nat → Value} {new : Prop} (h : so_obj s H r ci V new) (e : H'[r]? = H[r]?) : so_obj s H' r ci V new := by
  obtain ⟨cell, h1, h2⟩ := h
  exact ⟨cell, by rw [e]; exact h1, h2⟩
/-- another cell's change leaves it -/
theorem so_cell.kept {s : State} {ad : Nat → Option Nat} {h h' : ax_H} {H H' : Heap} {a : Nat} (hc : so_cell s ad h H a) (e : so_is h a → ∀ r, ad a = some r → H'[r]? = H[r]?) (k1 : ax_kd h' a = ax_kd h a) (k2 : ∀ j, ax_nu h' a j = ax_nu h a j) (k3 : ∀ j, ax_rf h' a j = ax_rf h a j) (k4 : ax_ex h' a = ax_ex h a) : so_cell s ad h' H' a := by
  obtain ⟨c1, c2, c3, c4⟩ := hc
  refine ⟨fun ty ht => ?_, fun ci hci => ?_, fun x hx => ?_, fun x hx => ?_⟩
  · rw [k1] at ht ⊢
    obtain ⟨r, hr, ha⟩ := c1 ty ht
    refine ⟨r, hr, ?_⟩
    rw [show (fun j => so_v ad (ax_el (ax_kd h a).1 (ax_nu h' a j))) = (fun j => so_v ad (ax_el (ax_kd h a).1 (ax_nu h a j))) from funext fun j => by rw [k2]]
    exact ha.kept (e (Or.inl (fun q => by rw [q] at ht; cases ht)) r hr)
  · rw [k1] at hci
    obtain ⟨r, hr, ho⟩ := c2 ci hci
    refine ⟨r, hr, ?_⟩
    rw [show so_fv ad h' a ci = so_fv ad h a ci from funext fun k => by unfold so_fv; rw [k2, k3]]
    exact ho.kept (e (Or.inl (fun q => by rw [q] at hci; have hci : 50 = 100 + ci := hci; omega)) r hr)
  · rw [k4] at hx
    obtain ⟨r, cX, kX, hr, h1, h2, h3⟩ := c3 x hx
    exact ⟨r, cX, kX, hr, h1, h2, by rw [e (Or.inr (by omega)) r hr]; exact h3⟩
  · rw [k4] at hx
    obtain ⟨r, cell, hr, h1, h2⟩ := c4 x hx
    exact ⟨r, cell, hr, by rw [e (Or.inr (by omega)) r hr]; exact h1, h2⟩
theorem so_cell.moved {s U : State} {ad : Nat → Option Nat} {h : ax_H} {H : Heap} {a : Nat} (hvm : s.vm.Alike U.vm) (hc : so_cell s ad h H a) : so_cell U ad h H a := by
  obtain ⟨c1, c2, c3, c4⟩ := hc
  refine ⟨fun ty ht => ?_, fun ci hci => ?_, fun x hx => ?_, fun x hx => ?_⟩
  · obtain ⟨r, hr, cell, h1, h2, h3⟩ := c1 ty ht
    exact ⟨r, hr, cell, h1, State.isArrayOf_alike hvm h2, h3⟩
  · obtain ⟨r, hr, cell, h1, h2, h3, h4, h5, h6⟩ := c2 ci hci
    refine ⟨r, hr, cell, h1, by rw [hvm.findClass]; exact h2, h3, h4, h5, fun k hk => ?_⟩
    obtain ⟨cf, kf, i, f, g1, g2, g3⟩ := h6 k hk
    obtain ⟨kf', g4, -⟩ := State.fieldFound?_setVm (s := s) hvm g1
    exact ⟨cf, kf', i, f, by simpa only [State.fieldFound?, State.vm_setVm] using g4, g2, g3⟩
  · obtain ⟨r, cX, kX, hr, h1, h2, h3⟩ := c3 x hx
    obtain ⟨kX', h2', he⟩ := hvm.2.2 _ _ h2
    refine ⟨r, cX, kX', hr, by rw [hvm.findClass]; exact h1, h2', ?_⟩
    rw [h3, he]
    rfl
  · obtain ⟨r, cell, hr, h1, h2, h3⟩ := c4 x hx
    exact ⟨r, cell, hr, h1, by rw [hvm.findClass]; exact h2, h3⟩
theorem so_Rel.moved {s U : State} {ad : Nat → Option Nat} {h : ax_H} {H0 H : Heap} (hvm : s.vm.Alike U.vm) (hR : so_Rel s ad H0 h H) : so_Rel U ad H0 h H :=
  ⟨hR.1, hR.2.1, fun a ha => (hR.2.2.1 a ha).moved hvm, hR.2.2.2⟩
/-- a number that is read is in its bounds -/
theorem so_num.ok {h : ax_H} (hn : so_num h) (a j : Nat) {t : Nat} (ht : (ax_kd h a).1 = t) (hs : t < 4) : so_ok (ax_el t (ax_nu h a j)) := by
  have h1 := (hn a j).1
  unfold ax_el
  rw [ht] at h1
  by_cases e : t = 2
  · rw [if_pos e]
    rw [if_pos (by subst e; rfl)] at h1
    exact h1
  · rw [if_neg e]
    rw [if_neg] at h1
    · exact h1
    · unfold ax_isl
      have e1 : (t == 2) = false := by simpa using e
      have e2 : decide (100 ≤ t) = false := by simp; omega
      rw [e1, e2]
      simp
theorem so_num.fld {h : ax_H} (hn : so_num h) {a ci : Nat} (j : Nat) (ht : (ax_kd h a).1 = 100 + ci) : if (tb_f ci j).2.2.1 = 1 then (Int64.ofInt (ax_nu h a j)).toInt = ax_nu h a j else (Int32.ofInt (ax_nu h a j)).toInt = ax_nu h a j := by
  have h1 := (hn a j).1
  rw [ht] at h1
  have e : ax_isl (100 + ci) j = ((tb_f ci j).2.2.1 == 1) := by
    unfold ax_isl
    have e1 : (100 + ci == 2) = false := by simp; omega
    have e2 : decide (100 ≤ 100 + ci) = true := by simp
    rw [e1, e2, show 100 + ci - 100 = ci by omega]
    simp
  rw [e] at h1
  by_cases q : (tb_f ci j).2.2.1 = 1
  · rw [if_pos q]
    rw [if_pos (by simpa using q)] at h1
    exact h1
  · rw [if_neg q]
    rw [if_neg (by simpa using q)] at h1
    exact h1
/-! what a change of the abstract heap leaves -/
theorem so_in {h : ax_H} (hr : so_rest h) {o : Nat} (hk : ax_kd h o ≠ (50, 0)) : o < 27 + h.1 := by
  rcases Nat.lt_or_ge o (27 + h.1) with q | q
  · exact q
  · exact absurd (hr.1 o q).1 hk
theorem so_slot (cell : Cell) (j k : Nat) (v : Value) : (cell.setSlot j v).slots[k]? = if j = k ∧ k < cell.slots.size then some v else cell.slots[k]? := by
  show (cell.slots.setIfInBounds j v)[k]? = _
  rw [Array.getElem?_setIfInBounds]
  by_cases e : j = k
  · subst e
    by_cases e2 : j < cell.slots.size
    · simp [e2]
    · simp [e2]
  · simp [e]
/-- a number is laid into a cell: all but that cell's own picture -/
theorem so_Rel.setn {s : State} {ad : Nat → Option Nat} {h : ax_H} {H0 H H' : Heap} {o r j : Nat} {z : Int} (hAD : so_AD ad H0.size) (hR : so_Rel s ad H0 h H) (ho : 27 ≤ o) (hk : ax_kd h o ≠ (50, 0)) (hr : ad o = some r)
    (h2 : H'.size = H.size) (h3 : ∀ q, q ≠ r → H'[q]? = H[q]?) (hz : if ax_isl (ax_kd h o).1 j = true then (Int64.ofInt z).toInt = z else (Int32.ofInt z).toInt = z) (hz1 : (ax_kd h o).1 = 1 → -128 ≤ z ∧ z < 128)
    (hc : so_cell s ad (ax_setn h o j z) H' o) : so_Rel s ad H0 (ax_setn h o j z) H' := by
  have hin := so_in hR.2.2.2.2 hk
  have hrr : H0.size ≤ r := by
    have := hAD.new ho
    rw [hr] at this
    have := Option.some.inj this
    omega
  refine ⟨h2.trans hR.1, fun q hq => ?_, fun a ha => ?_, fun a k => ?_, fun a ha => ?_, hR.2.2.2.2.2.1, hR.2.2.2.2.2.2⟩
  · rw [h3 q (by omega)]
    exact hR.2.1 q hq
  · by_cases e : a = o
    · subst e
      exact hc
    · refine (hR.2.2.1 a ha).kept (fun g q hq => h3 q (hAD.apart ho e (g.ne hR.2.2.2.2) hq hr)) rfl (fun k => ?_) (fun _ => rfl) rfl
      show (if a = o then _ else _) = _
      rw [if_neg e]
      rfl
  · show (if ax_isl (ax_kd h a).1 k = true then (Int64.ofInt (if a = o then (if k = j then z else ax_nu h a k) else ax_nu h a k)).toInt = (if a = o then (if k = j then z else ax_nu h a k) else ax_nu h a k) else (Int32.ofInt (if a = o then (if k = j then z else ax_nu h a k) else ax_nu h a k)).toInt = (if a = o then (if k = j then z else ax_nu h a k) else ax_nu h a k)) ∧ ((ax_kd h a).1 = 1 → -128 ≤ (if a = o then (if k = j then z else ax_nu h a k) else ax_nu h a k) ∧ (if a = o then (if k = j then z else ax_nu h a k) else ax_nu h a k) < 128)
    by_cases e : a = o
    · subst e
      by_cases e2 : k = j
      · subst e2
        simp only [if_true]
        exact ⟨hz, hz1⟩
      · simp only [if_true, if_neg e2]
        exact hR.2.2.2.1 a k
    · simp only [if_neg e]
      exact hR.2.2.2.1 a k
  · have e : a ≠ o := by
      have : 27 + h.1 ≤ a := ha
      omega
    obtain ⟨g1, g2, g3⟩ := hR.2.2.2.2.1 a ha
    refine ⟨g1, g2, fun k => ⟨?_, (g3 k).2⟩⟩
    show (if a = o then _ else _) = _
    rw [if_neg e]
    exact (g3 k).1
theorem so_Rel.setr {s : State} {ad : Nat → Option Nat} {h : ax_H} {H0 H H' : Heap} {o r j : Nat} {x : Option Nat} (hAD : so_AD ad H0.size) (hR : so_Rel s ad H0 h H) (ho : 27 ≤ o) (hk : ax_kd h o ≠ (50, 0)) (hr : ad o = some r)
    (h2 : H'.size = H.size) (h3 : ∀ q, q ≠ r → H'[q]? = H[q]?) (hc : so_cell s ad (ax_setr h o j x) H' o) : so_Rel s ad H0 (ax_setr h o j x) H' := by
  have hin := so_in hR.2.2.2.2 hk
  have hrr : H0.size ≤ r := by
    have := hAD.new ho
    rw [hr] at this
    have := Option.some.inj this
    omega
  refine ⟨h2.trans hR.1, fun q hq => ?_, fun a ha => ?_, hR.2.2.2.1, fun a ha => ?_, hR.2.2.2.2.2.1, hR.2.2.2.2.2.2⟩
  · rw [h3 q (by omega)]
    exact hR.2.1 q hq
  · by_cases e : a = o
    · subst e
      exact hc
    · refine (hR.2.2.1 a ha).kept (fun g q hq => h3 q (hAD.apart ho e (g.ne hR.2.2.2.2) hq hr)) rfl (fun _ => rfl) (fun k => ?_) rfl
      show (if a = o then _ else _) = _
      rw [if_neg e]
      rfl
  · have e : a ≠ o := by
      have : 27 + h.1 ≤ a := ha
      omega
    obtain ⟨g1, g2, g3⟩ := hR.2.2.2.2.1 a ha
    refine ⟨g1, g2, fun k => ⟨(g3 k).1, ?_⟩⟩
    show (if a = o then _ else _) = _
    rw [if_neg e]
    exact (g3 k).2
/-- an array's element is laid -/
theorem so_Rel.arrset {s : State} {ad : Nat → Option Nat} {h : ax_H} {H0 H H' : Heap} {o r j t : Nat} {z : Int} {ty : FieldType} (hAD : so_AD ad H0.size) (hR : so_Rel s ad H0 h H) (ho : 27 ≤ o) (ht : (ax_kd h o).1 = t) (hty : so_ty t = some ty) (hr : ad o = some r)
    {cell : Cell} (hcell : H[r]? = some cell) (h1 : H'[r]? = some (cell.setSlot j (so_v ad (ax_el t z)))) (h2 : H'.size = H.size) (h3 : ∀ q, q ≠ r → H'[q]? = H[q]?) (hz : so_ok (ax_el t z)) (hz1 : t = 1 → -128 ≤ z ∧ z < 128) : so_Rel s ad H0 (ax_setn h o j z) H' := by
  have ht4 : t < 4 := by
    rcases Nat.lt_or_ge t 4 with q | q
    · exact q
    · match t, q with
      | t + 4, _ => cases hty
  have hk : ax_kd h o ≠ (50, 0) := fun e => by rw [e] at ht; omega
  have hin := so_in hR.2.2.2.2 hk
  obtain ⟨c1, c2, c3, c4⟩ := hR.2.2.1 o hin
  obtain ⟨r', hr', cell', g1, g2, g3, g4, g5⟩ := c1 ty (by rw [ht]; exact hty)
  cases hr.symm.trans hr'
  cases hcell.symm.trans g1
  refine hR.setn hAD ho hk hr h2 h3 ?_ (fun e => hz1 (by rw [← ht]; exact e)) ⟨fun ty2 hty2 => ?_, fun ci hci => ?_, fun x hx => ?_, fun x hx => ?_⟩
  · rw [ht]
    unfold ax_el at hz
    by_cases e : t = 2
    · subst e
      exact hz
    · rw [if_neg e] at hz
      have e1 : ax_isl t j = false := by
        unfold ax_isl
        have e1 : (t == 2) = false := by simpa using e
        have e2 : decide (100 ≤ t) = false := by simp; omega
        rw [e1, e2]
        rfl
      rw [e1]
      exact hz
  · have hty3 : so_ty (ax_kd h o).1 = some ty2 := hty2
    rw [ht, hty] at hty3
    cases hty3
    refine ⟨r, hr, _, h1, ⟨g2.1, g2.2⟩, g3, ?_, fun k hk2 => ?_⟩
    · refine g4.set ?_
      show (cell.slots.setIfInBounds j _).size = _
      rw [Array.size_setIfInBounds]
    · have hk2 : k < (ax_kd h o).2 := hk2
      have g41 := g4.1
      rw [so_slot]
      show _ = some (so_v ad (ax_el (ax_kd h o).1 (if o = o then (if k = j then z else ax_nu h o k) else ax_nu h o k)))
      rw [if_pos rfl, ht]
      by_cases e : j = k
      · subst e
        rw [if_pos ⟨rfl, by omega⟩, if_pos rfl]
      · rw [if_neg (fun q => e q.1), if_neg (fun q => e q.symm), g5 k hk2, ht]
  · have hci : (ax_kd h o).1 = 100 + ci := hci
    omega
  · exact absurd (hR.2.2.2.2.2.2.1 o (by show ax_ex h o ≠ 0; have : ax_ex h o = 2 * x + 1 := hx; omega)).1 hk
  · exact absurd (hR.2.2.2.2.2.2.1 o (by show ax_ex h o ≠ 0; have : ax_ex h o = 2 * x + 2 := hx; omega)).1 hk
/-! WHAT THE TABLES SAY, and that they are right. -/
def tb_rt' (rt : Nat) : Option FieldType := match rt with
  | 1 => some .int
  | 2 => some .long
  | 3 => some .boolean
  | 4 => some .char
  | 5 => some .byte
  | _ => none
def tb_name (y : Nat) : MethodName := (tb_nm.getD y (⟨"", "", ""⟩, ⟨#[]⟩, none, 0, 0, 0, false)).1
def tb_bytes (y : Nat) : ByteArray := (tb_nm.getD y (⟨"", "", ""⟩, ⟨#[]⟩, none, 0, 0, 0, false)).2.1
def tb_ret (y : Nat) : Option FieldType := (tb_nm.getD y (⟨"", "", ""⟩, ⟨#[]⟩, none, 0, 0, 0, false)).2.2.1
def tb_static (y : Nat) : Bool := (tb_nm.getD y (⟨"", "", ""⟩, ⟨#[]⟩, none, 0, 0, 0, false)).2.2.2.2.2.2
def tb_M (y : Nat) : ax_M := tb_ms.getD y (99, 0, 0, false, [], [])
def lk_ok (r : Nat × Nat × Nat × Nat × Nat × Int) : Prop := match r with
  | (k, cls, idx, a, b, d) => match k with
    | 1 => Cond.fieldLink (tb_RN cls) idx (tb_RN a) (tb_f a b).1 (tb_f a b).2.1 ∈ lw_tbl
    | 2 => Cond.fieldLinkNest (tb_RN cls) idx (tb_RN a) (tb_f a b).1 (tb_f a b).2.1 "MachineText" ∈ lw_tbl
    | 3 => Cond.fieldLinkNest (tb_RN cls) idx "MachineText" "LEVELS" "[I" "MachineText" ∈ lw_tbl
    | 4 => Cond.fieldLink (tb_RN cls) idx "java/lang/String" "COMPACT_STRINGS" "Z" ∈ lw_tbl
    | 5 => Cond.fieldLink (tb_RN cls) idx "jdk/internal/util/Preconditions" "SIOOBE_FORMATTER" "Ljava/util/function/BiFunction;" ∈ lw_tbl
    | 6 => Cond.constant (tb_RN cls) idx (Int32.ofInt d) ∈ lw_tbl
    | 7 => Cond.stringRef (tb_RN cls) idx (tb_st.getD b (0, 0, "")).2.2 ∈ lw_tbl
    | 8 => Cond.constantLong (tb_RN cls) idx (Int64.ofInt d) ∈ lw_tbl
    | 9 => Cond.classLink (tb_RN cls) idx (tb_RN b) ∈ lw_tbl
    | 10 => Cond.classLink (tb_RN cls) idx (tb_RN b) ∈ lw_tbl
    | 11 => Cond.methodLink (tb_RN cls) idx (tb_name b) ∈ lw_tbl
    | 12 => Cond.methodLinkNest (tb_RN cls) idx (tb_name b) "MachineText" ∈ lw_tbl
    | 13 => Cond.methodLink (tb_RN cls) idx objectInit ∈ lw_tbl
    | 14 => Cond.methodLink (tb_RN cls) idx arraycopyName ∈ lw_tbl
    | 15 => Cond.methodLink (tb_RN cls) idx ⟨tb_RN b, "<init>", "(Ljava/lang/String;)V"⟩ ∈ lw_tbl
    | 16 => Cond.classLink (tb_RN cls) idx (tb_RN b) ∈ lw_tbl
    | _ => False
/-- a method's own words -/
def mw_ok (y : Nat) : Prop := (tb_name y).cls = tb_RN (tb_M y).1 ∧ tb_ret y = tb_rt' (tb_M y).2.2.1 ∧
  ((tb_M y).1 < 24 ∧ ((tb_M y).2.2.2.1 = true → (tb_name y).name = "<init>") ∧ (tb_M y).2.1 ≤ 20 ∧ (parseMethodDescriptor (tb_name y).desc).map (fun d => d.parameters.length) = some (tb_np.getD y 0)) ∧
  (match (tb_M y).2.2.2.2.1 with
    | [] => Cond.code (tb_name y) (tb_bytes y) (tb_M y).2.1 (tb_ret y) ∈ lw_tbl
    | q :: r => Cond.codeWith (tb_name y) (tb_bytes y) (tb_M y).2.1 (tb_ret y) ((q :: r).map fun q => (q.1, q.2.1, q.2.2.1, q.2.2.2.1)) ∈ lw_tbl) ∧
  (match tb_static y with
    | true => Cond.static (tb_name y) ∈ lw_tbl
    | false => Cond.instanceMethod (tb_name y) ∈ lw_tbl) ∧
  (match tb_static y || (tb_M y).2.2.2.1 with
    | true => True
    | false => Cond.selects (tb_RN (tb_M y).1) (tb_name y) (tb_name y) ∈ lw_tbl) ∧
  Cond.initialized (tb_RN (tb_M y).1) ∈ lw_tbl
def tb_d (bytes : ByteArray) (pc : Nat) (i : Instr) : Bool := match decode bytes pc with
  | .ok (j, n) => decide (j = i) && (ax_sw i || n == ax_len i) && ax_fine i && ax_jok i pc
  | .error _ => false
def tb_k (c : Nat) (r : Nat × Nat × Nat × Nat × Nat × Int) : Bool := decide (tb_lk[c]? = some r)
def tb_l (cls : Nat) (init : Bool) (e : ax_E) : Bool := match e with
  | (.getfield idx, a, b, c, d) => decide (a < 14) && decide (b < tb_N a) && tb_k c (if d = 0 then 1 else 2, cls, idx, a, b, 0)
  | (.putfield idx, a, b, c, d) => decide (a < 13) && decide (b < tb_N a) && tb_k c (if d = 0 then 1 else 2, cls, idx, a, b, 0) && (!(tb_f a b).2.2.2 || (init && cls == a && d == 0))
  | (.getstatic idx, a, b, c, d) => (a == 0 && b == 1 && tb_k c (3, cls, idx, 0, 1, 0)) || (a == 1 && d == 1 && tb_k c (4, cls, idx, 1, 0, 0)) || (a == 0 && b == 26 && tb_k c (5, cls, idx, 0, 26, 0))
  | (.ldc idx, a, b, c, d) => if a = 0 then tb_k c (6, cls, idx, 0, 0, d) && decide ((Int32.ofInt d).toInt = d) else decide (2 ≤ b) && decide (b < 26) && decide (b ≠ 3) && decide (b ≠ 5) && decide ((tb_st.getD b (0, 0, "")).1 = cls) && decide ((tb_st.getD b (0, 0, "")).2.1 = idx) && tb_k c (7, cls, idx, 1, b, 0)
  | (.ldc_w idx, a, _, c, d) => decide (a = 0) && tb_k c (6, cls, idx, 0, 0, d) && decide ((Int32.ofInt d).toInt = d)
  | (.ldc2_w idx, _, _, c, d) => tb_k c (8, cls, idx, 0, 0, d) && decide ((Int64.ofInt d).toInt = d)
  | (.new idx, a, b, c, _) => if a = 0 then decide (b < 13) && tb_k c (9, cls, idx, 0, b, 0) else decide (14 ≤ b) && decide (b < 17) && tb_k c (10, cls, idx, a, b, 0)
  | (.newarray t, a, _, _, _) => (a == 0 && decide (t = .int)) || (a == 1 && decide (t = .byte)) || (a == 2 && decide (t = .long)) || (a == 3 && decide (t = .boolean))
  | (.invokevirtual idx, a, b, c, d) => decide (a = 0) && tb_k c (11, cls, idx, 0, b, 0) && decide (b < 302) && decide (b ≠ tb_law) && decide (tb_np.getD b 0 = d.toNat) && !tb_static b && !(tb_M b).2.2.2.1
  | (.invokestatic idx, a, b, c, d) => if a = 6 then tb_k c (14, cls, idx, 0, 0, 0) else decide (a = 2) && tb_k c (11, cls, idx, 0, b, 0) && decide (b < 302) && decide (b ≠ tb_law) && decide (tb_np.getD b 0 = d.toNat) && tb_static b
  | (.invokespecial idx, a, b, c, d) => if a = 5 then tb_k c (13, cls, idx, 0, 0, 0) else if a = 7 then tb_k c (15, cls, idx, 0, b, 0) && decide (14 ≤ b) && decide (b < 17) else
    (tb_M b).2.2.2.1 && decide (b < 302) && decide (b ≠ tb_law) && decide (tb_np.getD b 0 = d.toNat) && !tb_static b && (if a = 3 then tb_k c (11, cls, idx, 0, b, 0) else decide (a = 4) && tb_k c (12, cls, idx, 0, b, 0))
  | _ => true
def tb_all (cls : Nat) (init : Bool) (bytes : ByteArray) : List (Option ax_E) → Nat → Bool
  | [], _ => true
  | none :: r, pc => tb_all cls init bytes r (pc + 1)
  | some e :: r, pc => tb_d bytes pc e.1 && tb_l cls init e && tb_all cls init bytes r (pc + 1)
def tb_mok (y : Nat) : Bool := tb_all (tb_M y).1 (tb_M y).2.2.2.1 (tb_bytes y) (tb_M y).2.2.2.2.2 0 && (tb_M y).2.2.2.2.1.all (fun q => decide (q.2.2.2.1 ≠ 0) && decide (14 ≤ q.2.2.2.2.1) && decide (q.2.2.2.2.1 < 17) && tb_k q.2.2.2.2.2 (16, (tb_M y).1, q.2.2.2.1, 0, q.2.2.2.2.1, 0))
def tb_moks (lo n : Nat) : Bool := (List.range' lo n).all tb_mok
/-! THE TABLES AGAINST THE BYTES, in one walk along them (the kit's windows: what the reader answers over a few bytes, decode answers over the code). -/
def tb_dw (W : ByteArray) (pc : Nat) (i : Instr) : Bool := match Jvm.ClassFile.Decoder.instr pc W (pc % 4) with
  | .ok (j, p) => decide (j = i) && (ax_sw i || p - pc % 4 == ax_len i) && ax_fine i && ax_jok i pc
  | .error _ => false
def tb_wn (i : Instr) : Nat := if ax_sw i = true then 400 else 8
def tb_lin (cls : Nat) (init : Bool) : List (Option ax_E) → List UInt8 → Nat → Bool
  | [], _, _ => true
  | none :: _, [], _ => false
  | some _ :: _, [], _ => false
  | none :: r, _ :: bs, pc => tb_lin cls init r bs (pc + 1)
  | some e :: r, b :: bs, pc => tb_dw (Jvm.Free.DS.win (b :: bs) pc (tb_wn e.1)) pc e.1 && tb_l cls init e && tb_lin cls init r bs (pc + 1)
theorem tb_dw_ok {bytes : ByteArray} {l : List UInt8} {pc n : Nat} {i : Instr} (hl : ∀ j, l[j]? = bytes.data.toList[pc + j]?) (hs : pc ≤ bytes.size) (h : tb_dw (Jvm.Free.DS.win l pc n) pc i = true) : tb_d bytes pc i = true := by
  unfold tb_dw at h
  cases hr : Jvm.ClassFile.Decoder.instr pc (Jvm.Free.DS.win l pc n) (pc % 4) with
  | error e =>
    rw [hr] at h
    have h' : false = true := h
    cases h'
  | ok jq =>
    obtain ⟨j, q⟩ := jq
    rw [hr] at h
    have h' : (decide (j = i) && (ax_sw i || q - pc % 4 == ax_len i) && ax_fine i && ax_jok i pc) = true := h
    have e := Jvm.Free.DS.shift (Jvm.Free.DS.win_agree (n := n) hl hs) hr
    unfold tb_d
    rw [e]
    exact h'
theorem tb_lin_all {cls : Nat} {init : Bool} {bytes : ByteArray} : ∀ (t : List (Option ax_E)) (l : List UInt8) (pc : Nat), tb_lin cls init t l pc = true → (∀ j, l[j]? = bytes.data.toList[pc + j]?) → tb_all cls init bytes t pc = true := by
  intro t
  induction t with
  | nil => intro l pc _ _; exact rfl
  | cons a r ih =>
    intro l pc h hl
    cases l with
    | nil =>
      cases a with
      | none =>
        have h' : false = true := h
        cases h'
      | some e =>
        have h' : false = true := h
        cases h'
    | cons b bs =>
      have hl' : ∀ j, bs[j]? = bytes.data.toList[pc + 1 + j]? := fun j => by
        have h0 := hl (j + 1)
        rw [List.getElem?_cons_succ] at h0
        rw [h0, show pc + (j + 1) = pc + 1 + j by omega]
      cases a with
      | none =>
        have h1 : tb_lin cls init r bs (pc + 1) = true := h
        exact ih bs (pc + 1) h1 hl'
      | some e =>
        have h1 : (tb_dw (Jvm.Free.DS.win (b :: bs) pc (tb_wn e.1)) pc e.1 && tb_l cls init e && tb_lin cls init r bs (pc + 1)) = true := h
        rw [Bool.and_eq_true, Bool.and_eq_true] at h1
        have hs : pc ≤ bytes.size := by
          have h0 := hl 0
          rw [List.getElem?_cons_zero] at h0
          have h2 := Jvm.Free.DS.bt_lt (A := bytes) (j := pc + 0) (x := b) h0.symm
          omega
        show (tb_d bytes pc e.1 && tb_l cls init e && tb_all cls init bytes r (pc + 1)) = true
        rw [Bool.and_eq_true, Bool.and_eq_true]
        exact ⟨⟨tb_dw_ok hl hs h1.1.1, h1.1.2⟩, ih bs (pc + 1) h1.2 hl'⟩
def tb_mlin (y : Nat) : Bool := tb_lin (tb_M y).1 (tb_M y).2.2.2.1 (tb_M y).2.2.2.2.2 (tb_bytes y).data.toList 0 && (tb_M y).2.2.2.2.1.all (fun q => decide (q.2.2.2.1 ≠ 0) && decide (14 ≤ q.2.2.2.2.1) && decide (q.2.2.2.2.1 < 17) && tb_k q.2.2.2.2.2 (16, (tb_M y).1, q.2.2.2.1, 0, q.2.2.2.2.1, 0))
theorem tb_mlin_ok {y : Nat} (h : tb_mlin y = true) : tb_mok y = true := by
  unfold tb_mlin at h
  unfold tb_mok
  rw [Bool.and_eq_true] at h ⊢
  exact ⟨tb_lin_all _ _ 0 h.1 (fun j => by rw [Nat.zero_add]), h.2⟩
def tb_mlins (lo n : Nat) : Bool := (List.range' lo n).all tb_mlin
theorem tb_lok {lo n : Nat} (h : tb_mlins lo n = true) : tb_moks lo n = true := List.all_eq_true.mpr fun y hy => tb_mlin_ok (List.all_eq_true.mp h y hy)
/-! THE HEAP BEHIND THE CONSTRUCTORS: kinds and references stay as they are; numbers change, exceptions are made. -/
def bx_kl : List (Nat × Nat) := [(0, 0), (0, 22), (113, 2), (1, 49), (113, 2), (1, 20), (50, 0), (50, 0), (50, 0), (50, 0), (50, 0), (50, 0), (50, 0), (50, 0), (50, 0), (50, 0), (50, 0), (50, 0), (50, 0), (50, 0), (50, 0), (50, 0), (50, 0), (50, 0), (50, 0), (50, 0), (50, 0), (100, 14), (1, 8192), (104, 1), (0, 11), (106, 11), (0, 8192), (0, 4112), (2, 4112), (2, 4112), (0, 4112), (0, 4112), (0, 4112), (105, 12), (1, 8192), (0, 8193), (0, 8193), (0, 8193), (2, 8193), (0, 8193), (107, 8), (0, 8192), (0, 8192), (0, 8192), (0, 8192), (0, 8192), (0, 8192), (0, 8192), (111, 8), (0, 1171), (0, 1171), (0, 1171), (0, 1171), (0, 1171), (0, 1171), (102, 5), (0, 2049), (0, 2049), (0, 2049), (0, 2049), (103, 13), (0, 8192), (0, 8192), (0, 8192), (109, 10), (0, 80), (0, 80), (101, 6), (110, 14), (0, 1171), (0, 2731), (0, 2731), (0, 1171), (0, 1171), (0, 1171), (0, 1171), (108, 3), (1, 16384), (112, 75), (0, 8192), (0, 8192), (0, 25000), (0, 8200), (0, 8200), (0, 8200), (3, 8200), (3, 8200), (3, 8200), (0, 4100), (0, 4100), (0, 4100), (0, 4100), (0, 4100), (0, 4100), (0, 4100), (0, 4100), (0, 4100), (0, 4100), (0, 8200), (0, 8200), (0, 8200), (0, 8200), (0, 8200), (0, 8200), (0, 8200), (0, 8200), (0, 8200), (0, 8200), (3, 100), (0, 100), (0, 8200), (0, 8200), (0, 8200), (0, 8200), (0, 8200), (0, 8200), (0, 8200), (0, 8200), (0, 8200), (0, 16400), (0, 8200), (0, 8200), (0, 8200), (0, 8200), (0, 8200), (0, 8200), (0, 8200), (0, 4100), (0, 4100), (0, 8200), (2, 1)]
def bx_rl : List (List (Option Nat)) := [[], [], [some 3, none], [], [some 5, none], [], [], [], [], [], [], [], [], [], [], [], [], [], [], [], [], [], [], [], [], [], [], [some 28, none, none, some 29, some 31, some 39, some 46, some 54, some 61, some 66, some 70, some 73, some 74, some 82], [], [some 30], [], [some 32, some 33, some 34, some 35, some 36, some 37, some 38, none, none, none, none], [], [], [], [], [], [], [], [some 29, some 31, some 40, some 41, some 42, some 43, some 44, some 45, none, none, none, none], [], [], [], [], [], [], [some 47, some 48, some 49, some 50, some 51, some 52, some 53, none], [], [], [], [], [], [], [], [some 55, some 56, some 57, some 58, some 59, some 60, none, none], [], [], [], [], [], [], [some 62, some 63, some 64, some 65, none], [], [], [], [], [some 29, some 31, some 39, some 46, some 67, some 68, some 69, none, none, none, none, none, none], [], [], [], [some 29, some 31, some 39, some 46, some 54, some 61, some 66, some 71, some 72, none], [], [], [some 29, some 31, some 39, some 46, some 54, some 61], [some 29, some 31, some 39, some 54, some 75, some 76, some 77, none, some 78, some 79, some 80, none, some 81, none], [], [], [], [], [], [], [], [some 39, some 83, none], [], [none, none, some 85, none, some 86, none, none, none, none, none, some 87, none, some 88, some 89, some 90, some 91, some 92, some 93, none, none, some 94, some 95, some 96, some 97, some 98, some 99, some 100, some 101, some 102, some 103, none, none, some 104, some 105, none, some 106, some 107, some 108, some 109, some 110, some 111, some 112, some 113, none, some 114, some 115, none, none, some 116, some 117, some 118, some 119, some 120, some 121, some 122, some 123, some 124, none, some 125, none, some 126, some 127, some 128, none, some 129, some 130, some 131, none, none, some 132, none, some 133, none, some 134, some 135], [], [], [], [], [], [], [], [], [], [], [], [], [], [], [], [], [], [], [], [], [], [], [], [], [], [], [], [], [], [], [], [], [], [], [], [], [], [], [], [], [], [], [], [], [], [], [], [], [], [], [], []]
def bx_k (L a : Nat) : Nat × Nat := match a with
  | 0 => (0, L)
  | a + 1 => bx_kl.getD (a + 1) (50, 0)
def bx_r (a j : Nat) : Option Nat := (bx_rl.getD a []).getD j none
/-- the heap with the numbers s, behind c exceptions -/
def hp (L : Nat) (s : Nat → Nat → Int) (c : Nat) (e : Nat → Nat) : ax_H := (110 + c, 593192 + 6 * c, bx_k L, s, bx_r, e)
/-! BIG STEPS: an invocation, and a run from a place, without fuel. -/
def ax_sub (f g : Nat → List ax_V → ax_H → Option (ax_O × ax_H)) : Prop := ∀ y av h r, f y av h = some r → g y av h = some r
theorem ax_run_mono {f g : Nat → List ax_V → ax_H → Option (ax_O × ax_H)} (hs : ax_sub f g) (μ : ax_M) : ∀ (a b pc : Nat) (ls : ax_L) (st : List ax_V) (h : ax_H) (r : ax_O × ax_H), a ≤ b → ax_run f μ a pc ls st h = some r → ax_run g μ b pc ls st h = some r := by
  intro a
  induction a with
  | zero => intro b pc ls st h r _ e; cases e
  | succ a ih =>
    intro b pc ls st h r hb e
    obtain ⟨b, rfl⟩ : ∃ k, b = k + 1 := ⟨b - 1, by omega⟩
    have hb : a ≤ b := by omega
    simp only [ax_run] at e ⊢
    split at e
    · cases e
    · rename_i e1
      try rw [e1]
      exact ih b _ _ _ _ r hb e
    · rename_i e1
      try rw [e1]
      exact e
    · rename_i y as q e1
      try rw [e1]
      try dsimp only
      split at e
      · cases e
      · rename_i v h1 e2
        rw [hs _ _ _ _ e2]
        exact ih b _ _ _ _ r hb e
      · rename_i x h1 e2
        rw [hs _ _ _ _ e2]
        try dsimp only
        split at e
        · rename_i t e3
          try rw [e3]
          exact ih b _ _ _ _ r hb e
        · rename_i e3
          try rw [e3]
          exact e
theorem ax_ev_mono {F G : Nat} (hF : F ≤ G) : ∀ (n m : Nat), n ≤ m → ax_sub (ax_ev F n) (ax_ev G m) := by
  intro n
  induction n with
  | zero => intro m _ y av h r e; cases e
  | succ n ih =>
    intro m hm y av h r e
    obtain ⟨m, rfl⟩ : ∃ k, m = k + 1 := ⟨m - 1, by omega⟩
    simp only [ax_ev] at e ⊢
    split at e
    · cases e
    · rename_i μ e1
      try rw [e1]
      try dsimp only
      split at e
      · rename_i c
        rw [if_pos c]
        exact ax_run_mono (ih m (by omega)) μ F G 0 _ _ h r hF e
      · cases e
/-- the method y, called with av over h, comes to o over h', in at most n frames -/
def Ev (n y : Nat) (av : List ax_V) (h : ax_H) (o : ax_O) (h' : ax_H) : Prop := ∃ F, ax_ev F n y av h = some (o, h')
/-- from a place of a method, over frames of at most n -/
def Ru (n : Nat) (μ : ax_M) (pc : Nat) (ls : ax_L) (st : List ax_V) (h : ax_H) (o : ax_O) (h' : ax_H) : Prop := ∃ F f, ax_run (ax_ev F n) μ f pc ls st h = some (o, h')
theorem Ev.up {n m y : Nat} {av : List ax_V} {h h' : ax_H} {o : ax_O} (k : Ev n y av h o h') (hm : n ≤ m) : Ev m y av h o h' := by
  obtain ⟨F, e⟩ := k
  exact ⟨F, ax_ev_mono (Nat.le_refl F) n m hm _ _ _ _ e⟩
section RU
variable {n pc pc' y : Nat} {μ : ax_M} {ls ls' : ax_L} {st st' as r : List ax_V} {h h1 h' : ax_H} {o : ax_O} {v : Option ax_V} {x t : Nat}
theorem Ru.step (e : ax_step μ pc ls st h = some (.inl (pc', ls', st', h1))) (k : Ru n μ pc' ls' st' h1 o h') : Ru n μ pc ls st h o h' := by
  obtain ⟨F, f, k⟩ := k
  refine ⟨F, f + 1, ?_⟩
  simp only [ax_run, e]
  exact k
theorem Ru.done (e : ax_step μ pc ls st h = some (.inr (.inl (o, h')))) : Ru n μ pc ls st h o h' := by
  refine ⟨0, 1, ?_⟩
  simp only [ax_run, e]
theorem Ru.call (e : ax_step μ pc ls st h = some (.inr (.inr (y, as, r)))) (c : Ev n y as h (.inl v) h1) (k : Ru n μ (pc + 3) ls (v.toList ++ r) h1 o h') : Ru n μ pc ls st h o h' := by
  obtain ⟨F, f, k⟩ := k
  obtain ⟨G, c⟩ := c
  refine ⟨max F G, f + 1, ?_⟩
  simp only [ax_run, e]
  rw [ax_ev_mono (Nat.le_max_right F G) n n (Nat.le_refl n) _ _ _ _ c]
  exact ax_run_mono (ax_ev_mono (Nat.le_max_left F G) n n (Nat.le_refl n)) μ f f _ _ _ _ _ (Nat.le_refl f) k
theorem Ru.caught (e : ax_step μ pc ls st h = some (.inr (.inr (y, as, r)))) (c : Ev n y as h (.inr x) h1) (hc : ax_catch μ.2.2.2.2.1 pc (ax_ex h1 x) = some t) (k : Ru n μ t ls [.inr (.inr (some x))] h1 o h') : Ru n μ pc ls st h o h' := by
  obtain ⟨F, f, k⟩ := k
  obtain ⟨G, c⟩ := c
  refine ⟨max F G, f + 1, ?_⟩
  simp only [ax_run, e]
  rw [ax_ev_mono (Nat.le_max_right F G) n n (Nat.le_refl n) _ _ _ _ c]
  dsimp only
  rw [hc]
  exact ax_run_mono (ax_ev_mono (Nat.le_max_left F G) n n (Nat.le_refl n)) μ f f _ _ _ _ _ (Nat.le_refl f) k
theorem Ru.passed (e : ax_step μ pc ls st h = some (.inr (.inr (y, as, r)))) (c : Ev n y as h (.inr x) h1) (hn : μ.2.2.2.2.1 = []) : Ru n μ pc ls st h (.inr x) h1 := by
  obtain ⟨G, c⟩ := c
  refine ⟨G, 1, ?_⟩
  simp only [ax_run, e]
  rw [c]
  dsimp only
  rw [hn]
  rfl
theorem Ev.of {av : List ax_V} (hμ : tb_ms[y]? = some μ) (hl : (ax_ent av).length ≤ μ.2.1) (hls : ax_ent av ++ List.replicate (μ.2.1 - (ax_ent av).length) none = ls) (k : Ru n μ 0 ls [] h o h') : Ev (n + 1) y av h o h' := by
  obtain ⟨F, f, k⟩ := k
  refine ⟨max F f, ?_⟩
  simp only [ax_ev, hμ]
  rw [if_pos hl, hls]
  exact ax_run_mono (ax_ev_mono (Nat.le_max_left F f) n n (Nat.le_refl n)) μ f (max F f) _ _ _ _ _ (Nat.le_max_right F f) k
end RU
/-- a jump that is taken, and one that isn't -/
theorem ax_jy {P : Prop} (inst : Decidable P) {pc : Nat} {off : Int} {r : List ax_V} (h : P) : @ax_jif P inst pc off r = some (ax_to pc off, r) := if_pos h
theorem ax_jn {P : Prop} (inst : Decidable P) {pc : Nat} {off : Int} {r : List ax_V} (h : ¬ P) : @ax_jif P inst pc off r = some (pc + 3, r) := if_neg h
section RUJ
variable {n pc : Nat} {μ : ax_M} {ls : ax_L} {st r : List ax_V} {h h' : ax_H} {o : ax_O} {off : Int} {P : Prop} {inst : Decidable P}
theorem Ru.jy (e : ax_step μ pc ls st h = (match @ax_jif P inst pc off r with
    | some (pc', st') => some (.inl (pc', ls, st', h))
    | none => none)) (q : P) (k : Ru n μ (ax_to pc off) ls r h o h') : Ru n μ pc ls st h o h' := by
  rw [ax_jy inst q] at e
  exact Ru.step e k
theorem Ru.jn (e : ax_step μ pc ls st h = (match @ax_jif P inst pc off r with
    | some (pc', st') => some (.inl (pc', ls, st', h))
    | none => none)) (q : ¬ P) (k : Ru n μ (pc + 3) ls r h o h') : Ru n μ pc ls st h o h' := by
  rw [ax_jn inst q] at e
  exact Ru.step e k
end RUJ
section RUA
variable {n pc pc' a : Nat} {μ : ax_M} {ls : ax_L} {st r : List ax_V} {h h' : ax_H} {o : ax_O} {f : Nat → Bool} {j z w : Int} {v : ax_V}
theorem Ru.ald (e : ax_step μ pc ls st h = (match ax_ald f (.inl j :: .inr (.inr (some a)) :: r) h with
    | some (st', h') => some (.inl (pc', ls, st', h'))
    | none => none)) (k1 : f (ax_kd h a).1 = true) (h0 : 0 ≤ j) (h1 : j < ((ax_kd h a).2 : Int)) (k : Ru n μ pc' ls (ax_el (ax_kd h a).1 (ax_nu h a j.toNat) :: r) h o h') : Ru n μ pc ls st h o h' := by
  have q : ax_ald f (.inl j :: .inr (.inr (some a)) :: r) h = some (ax_el (ax_kd h a).1 (ax_nu h a j.toNat) :: r, h) := if_pos ⟨k1, h0, h1⟩
  rw [q] at e
  exact Ru.step e k
theorem Ru.ast (e : ax_step μ pc ls st h = (match ax_ast f v (.inl j :: .inr (.inr (some a)) :: r) z h with
    | some (st', h') => some (.inl (pc', ls, st', h'))
    | none => none)) (k1 : f (ax_kd h a).1 = true) (k2 : 27 ≤ a) (k3 : ax_el (ax_kd h a).1 z = v) (k4 : ax_tk (ax_kd h a).1 z = some w) (h0 : 0 ≤ j) (h1 : j < ((ax_kd h a).2 : Int)) (k : Ru n μ pc' ls r (ax_setn h a j.toNat w) o h') : Ru n μ pc ls st h o h' := by
  have q : ax_ast f v (.inl j :: .inr (.inr (some a)) :: r) z h = some (r, ax_setn h a j.toNat w) := by
    show (if _ then _ else _) = _
    rw [if_pos ⟨k1, h0, h1, k2, k3⟩, k4]
  rw [q] at e
  exact Ru.step e k
end RUA
