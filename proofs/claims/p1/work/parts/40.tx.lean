/-! INTERVALS: a machine over known numbers and bounds of unknown ones, beside the abstract machine. -/
/-- a number that is known, or what is known of it: not below, not above, its four lowest bits -/
abbrev tx_I : Type := Sum Int (Option Int × Option Int × Option Int)
abbrev tx_V : Type := Sum tx_I (Sum tx_I (Option Nat))
abbrev tx_L : Type := List (Option tx_V)
abbrev tx_H : Type := Nat × Nat × (Nat → Nat × Nat) × (Nat → Nat → tx_I) × (Nat → Nat → Option Nat) × (Nat → Nat)
def tx_top : tx_I := .inr (none, none, none)
def tx_cat (v : tx_V) : Nat := match v with
  | .inr (.inl _) => 2
  | _ => 1
def tx_cut (ls : tx_L) (i : Nat) : tx_L := match i with
  | 0 => ls
  | j + 1 => match ls[j]? with
    | some (some (.inr (.inl _))) => ls.set j none
    | _ => ls
def tx_st1 (ls : tx_L) (i : Nat) (v : tx_V) : tx_L := (tx_cut ls i).set i (some v)
def tx_st2 (ls : tx_L) (i : Nat) (v : tx_V) : tx_L := ((tx_cut ls i).set i (some v)).set (i + 1) none
def tx_ld (ls : tx_L) (i : Nat) : Option tx_V := match ls[i]? with
  | some (some v) => some v
  | _ => none
def tx_iload (ls : tx_L) (st : List tx_V) (i : Nat) : Option (tx_L × List tx_V) := match tx_ld ls i with
  | some (.inl x) => some (ls, .inl x :: st)
  | _ => none
def tx_lload (ls : tx_L) (st : List tx_V) (i : Nat) : Option (tx_L × List tx_V) := match tx_ld ls i with
  | some (.inr (.inl x)) => some (ls, .inr (.inl x) :: st)
  | _ => none
def tx_aload (ls : tx_L) (st : List tx_V) (i : Nat) : Option (tx_L × List tx_V) := match tx_ld ls i with
  | some (.inr (.inr x)) => some (ls, .inr (.inr x) :: st)
  | _ => none
def tx_istore (ls : tx_L) (st : List tx_V) (i : Nat) : Option (tx_L × List tx_V) := match st with
  | .inl x :: r => if i < ls.length then some (tx_st1 ls i (.inl x), r) else none
  | _ => none
def tx_lstore (ls : tx_L) (st : List tx_V) (i : Nat) : Option (tx_L × List tx_V) := match st with
  | .inr (.inl x) :: r => if i + 1 < ls.length then some (tx_st2 ls i (.inr (.inl x)), r) else none
  | _ => none
def tx_astore (ls : tx_L) (st : List tx_V) (i : Nat) : Option (tx_L × List tx_V) := match st with
  | .inr (.inr x) :: r => if i < ls.length then some (tx_st1 ls i (.inr (.inr x)), r) else none
  | _ => none
def tx_f1 (f : Int → Int) (t : tx_I) : tx_I := match t with
  | .inl x => .inl (f x)
  | .inr _ => tx_top
def tx_f2 (f : Int → Int → Int) (t u : tx_I) : tx_I := match t with
  | .inl x => (match u with
    | .inl y => .inl (f x y)
    | .inr _ => tx_top)
  | .inr _ => tx_top
def tx_and (t u : tx_I) : tx_I := match u with
  | .inl y => (match t with
    | .inl x => .inl (ax_iand x y)
    | .inr (_, _, some k) => if y = 15 then .inl k else tx_top
    | .inr (_, _, none) => tx_top)
  | .inr _ => tx_top
def tx_iinc (ls : tx_L) (st : List tx_V) (i : Nat) (n : Int) : Option (tx_L × List tx_V) := match tx_ld ls i with
  | some (.inl x) => some (tx_st1 ls i (.inl (tx_f1 (fun z => ax_w32 (z + n)) x)), st)
  | _ => none
def tx_ii (F : tx_I → tx_I → tx_I) (ls : tx_L) (st : List tx_V) : Option (tx_L × List tx_V) := match st with
  | .inl y :: .inl x :: r => some (ls, .inl (F x y) :: r)
  | _ => none
def tx_ll (f : Int → Int → Int) (ls : tx_L) (st : List tx_V) : Option (tx_L × List tx_V) := match st with
  | .inr (.inl y) :: .inr (.inl x) :: r => some (ls, .inr (.inl (tx_f2 f x y)) :: r)
  | _ => none
def tx_li (f : Int → Int → Int) (ls : tx_L) (st : List tx_V) : Option (tx_L × List tx_V) := match st with
  | .inl y :: .inr (.inl x) :: r => some (ls, .inr (.inl (tx_f2 f x y)) :: r)
  | _ => none
def tx_i1 (f : Int → Int) (ls : tx_L) (st : List tx_V) : Option (tx_L × List tx_V) := match st with
  | .inl x :: r => some (ls, .inl (tx_f1 f x) :: r)
  | _ => none
def tx_i2l (ls : tx_L) (st : List tx_V) : Option (tx_L × List tx_V) := match st with
  | .inl x :: r => some (ls, .inr (.inl x) :: r)
  | _ => none
def tx_l2i (ls : tx_L) (st : List tx_V) : Option (tx_L × List tx_V) := match st with
  | .inr (.inl x) :: r => some (ls, .inl (tx_f1 ax_w32 x) :: r)
  | _ => none
def tx_lo (t : tx_I) : Option Int := match t with
  | .inl z => some z
  | .inr q => q.1
def tx_hi (t : tx_I) : Option Int := match t with
  | .inl z => some z
  | .inr q => q.2.1
/-- surely below -/
def tx_ltb (t u : tx_I) : Bool := match tx_hi t with
  | some a => (match tx_lo u with
    | some b => decide (a < b)
    | none => false)
  | none => false
/-- surely not above -/
def tx_leb (t u : tx_I) : Bool := match tx_hi t with
  | some a => (match tx_lo u with
    | some b => decide (a ≤ b)
    | none => false)
  | none => false
def tx_cmp0 (t u : tx_I) : tx_I := if tx_ltb t u = true then .inl (-1) else if tx_ltb u t = true then .inl 1 else if tx_leb u t = true then .inr (some 0, none, none) else if tx_leb t u = true then .inr (none, some 0, none) else tx_top
def tx_cmp (t u : tx_I) : tx_I := match t with
  | .inl x => (match u with
    | .inl y => .inl (ax_cmp x y)
    | .inr q => tx_cmp0 (.inl x) (.inr q))
  | .inr q => tx_cmp0 (.inr q) u
def tx_lcmp (ls : tx_L) (st : List tx_V) : Option (tx_L × List tx_V) := match st with
  | .inr (.inl y) :: .inr (.inl x) :: r => some (ls, .inl (tx_cmp x y) :: r)
  | _ => none
def tx_dup (ls : tx_L) (st : List tx_V) : Option (tx_L × List tx_V) := match st with
  | a :: r => if tx_cat a = 1 then some (ls, a :: a :: r) else none
  | _ => none
def tx_pop1 (ls : tx_L) (st : List tx_V) : Option (tx_L × List tx_V) := match st with
  | a :: r => if tx_cat a = 1 then some (ls, r) else none
  | _ => none
def tx_rem (ls : tx_L) (st : List tx_V) : Option (tx_L × List tx_V) := match st with
  | .inl (.inl y) :: .inl x :: r => if y = 0 then none else some (ls, .inl (tx_f2 ax_irem x (.inl y)) :: r)
  | _ => none
def tx_pure (i : Instr) (ls : tx_L) (st : List tx_V) : Option (tx_L × List tx_V) := match i with
  | .iconst n => some (ls, .inl (.inl n) :: st)
  | .bipush n => some (ls, .inl (.inl n) :: st)
  | .sipush n => some (ls, .inl (.inl n) :: st)
  | .lconst n => some (ls, .inr (.inl (.inl (n.val : Int))) :: st)
  | .iload k => tx_iload ls st k
  | .iload_n k => tx_iload ls st k.val
  | .lload k => tx_lload ls st k
  | .lload_n k => tx_lload ls st k.val
  | .aload k => tx_aload ls st k
  | .aload_n k => tx_aload ls st k.val
  | .istore k => tx_istore ls st k
  | .istore_n k => tx_istore ls st k.val
  | .lstore k => tx_lstore ls st k
  | .lstore_n k => tx_lstore ls st k.val
  | .astore k => tx_astore ls st k
  | .astore_n k => tx_astore ls st k.val
  | .iinc k n => tx_iinc ls st k n
  | .iadd => tx_ii (tx_f2 (fun x y => ax_w32 (x + y))) ls st
  | .isub => tx_ii (tx_f2 (fun x y => ax_w32 (x - y))) ls st
  | .imul => tx_ii (tx_f2 (fun x y => ax_w32 (x * y))) ls st
  | .iand => tx_ii tx_and ls st
  | .ishr => tx_ii (tx_f2 ax_ishr) ls st
  | .iushr => tx_ii (tx_f2 ax_iushr) ls st
  | .ladd => tx_ll (fun x y => ax_w64 (x + y)) ls st
  | .lmul => tx_ll (fun x y => ax_w64 (x * y)) ls st
  | .lor => tx_ll ax_lor ls st
  | .lshl => tx_li ax_lshl ls st
  | .lushr => tx_li ax_lushr ls st
  | .i2l => tx_i2l ls st
  | .l2i => tx_l2i ls st
  | .i2b => tx_i1 ax_w8 ls st
  | .i2c => tx_i1 ax_u16 ls st
  | .lcmp => tx_lcmp ls st
  | .dup => tx_dup ls st
  | .pop => tx_pop1 ls st
  | .irem => tx_rem ls st
  | _ => none
def tx_lt (t u : tx_I) : Option Bool := if tx_ltb t u = true then some true else if tx_leb u t = true then some false else none
def tx_eq (t u : tx_I) : Option Bool := if tx_ltb t u = true ∨ tx_ltb u t = true then some false else if tx_leb t u = true ∧ tx_leb u t = true then some true else none
def tx_jif (b : Option Bool) (n : Bool) (pc : Nat) (off : Int) (r : List tx_V) : Option (Nat × List tx_V) := match b with
  | none => none
  | some c => if c = n then some (ax_to pc off, r) else some (pc + 3, r)
def tx_jump (i : Instr) (pc : Nat) (st : List tx_V) : Option (Nat × List tx_V) := match i with
  | .goto off => some (ax_to pc off, st)
  | .ifCond cd off => match st with
    | .inl x :: r => match cd with
      | .eq => tx_jif (tx_eq x (.inl 0)) true pc off r
      | .ne => tx_jif (tx_eq x (.inl 0)) false pc off r
      | .lt => tx_jif (tx_lt x (.inl 0)) true pc off r
      | .ge => tx_jif (tx_lt x (.inl 0)) false pc off r
      | .gt => tx_jif (tx_lt (.inl 0) x) true pc off r
      | .le => tx_jif (tx_lt (.inl 0) x) false pc off r
    | _ => none
  | .if_icmp cd off => match st with
    | .inl y :: .inl x :: r => match cd with
      | .eq => tx_jif (tx_eq x y) true pc off r
      | .ne => tx_jif (tx_eq x y) false pc off r
      | .lt => tx_jif (tx_lt x y) true pc off r
      | .ge => tx_jif (tx_lt x y) false pc off r
      | .gt => tx_jif (tx_lt y x) true pc off r
      | .le => tx_jif (tx_lt y x) false pc off r
    | _ => none
  | .tableswitch d lo hi offs => match st with
    | .inl x :: r => match x with
      | .inl z => if z < lo ∨ hi < z then some (ax_to pc d, r) else match offs[(z - lo).toNat]? with
        | some off => some (ax_to pc off, r)
        | none => none
      | .inr q => if tx_ltb (.inr q) (.inl lo) = true ∨ tx_ltb (.inl hi) (.inr q) = true then some (ax_to pc d, r) else none
    | _ => none
  | _ => none
def tx_kd (h : tx_H) (a : Nat) : Nat × Nat := h.2.2.1 a
def tx_nu (h : tx_H) (a j : Nat) : tx_I := h.2.2.2.1 a j
def tx_rf (h : tx_H) (a j : Nat) : Option Nat := h.2.2.2.2.1 a j
def tx_ex (h : tx_H) (a : Nat) : Nat := h.2.2.2.2.2 a
def tx_setn (h : tx_H) (a j : Nat) (z : tx_I) : tx_H := (h.1, h.2.1, h.2.2.1, ax_u2 h.2.2.2.1 a j z, h.2.2.2.2)
def tx_setr (h : tx_H) (a j : Nat) (x : Option Nat) : tx_H := (h.1, h.2.1, h.2.2.1, h.2.2.2.1, ax_u2 h.2.2.2.2.1 a j x, h.2.2.2.2.2)
def tx_sete (h : tx_H) (a x : Nat) : tx_H := (h.1, h.2.1, h.2.2.1, h.2.2.2.1, h.2.2.2.2.1, ax_u1 h.2.2.2.2.2 a x)
def tx_new (h : tx_H) (k : Nat × Nat) (n : Nat) : tx_H := (h.1 + 1, h.2.1 + n, ax_u1 h.2.2.1 (27 + h.1) k, h.2.2.2)
def tx_newx (h : tx_H) (x : Nat) : tx_H := (h.1 + 1, h.2.1 + 6, h.2.2.1, h.2.2.2.1, h.2.2.2.2.1, ax_u1 h.2.2.2.2.2 (27 + h.1) (2 * x + 1))
def tx_fv (ft : Nat) (h : tx_H) (o j : Nat) : Option tx_V := match ft with
  | 0 => some (.inl (tx_nu h o j))
  | 1 => some (.inr (.inl (tx_nu h o j)))
  | 2 => some (.inr (.inr (tx_rf h o j)))
  | 3 => some (.inl (tx_nu h o j))
  | _ => none
def tx_pf (ft : Nat) (h : tx_H) (o j : Nat) (v : tx_V) : Option tx_H := match ft with
  | 0 => match v with
    | .inl z => some (tx_setn h o j z)
    | _ => none
  | 1 => match v with
    | .inr (.inl z) => some (tx_setn h o j z)
    | _ => none
  | 2 => match v with
    | .inr (.inr x) => some (tx_setr h o j x)
    | _ => none
  | 3 => match v with
    | .inl (.inl z) => if z = 0 ∨ z = 1 then some (tx_setn h o j (.inl z)) else none
    | _ => none
  | _ => none
def tx_el (t : Nat) (z : tx_I) : tx_V := if t = 2 then .inr (.inl z) else .inl z
def tx_ald (t : Nat → Bool) (st : List tx_V) (h : tx_H) : Option (List tx_V × tx_H) := match st with
  | .inl (.inl j) :: .inr (.inr (some o)) :: r => if t (tx_kd h o).1 = true ∧ 0 ≤ j ∧ j < ((tx_kd h o).2 : Int) then some (tx_el (tx_kd h o).1 (tx_nu h o j.toNat) :: r, h) else none
  | _ => none
def tx_tk (t : Nat) (z : tx_I) : Option tx_I := match t with
  | 0 => some z
  | 1 => some (tx_f1 ax_w8 z)
  | 2 => some z
  | _ => none
def tx_ast (t : Nat → Bool) (lg : Bool) (st : List tx_V) (z : tx_I) (h : tx_H) : Option (List tx_V × tx_H) := match st with
  | .inl (.inl j) :: .inr (.inr (some o)) :: r => if t (tx_kd h o).1 = true ∧ 0 ≤ j ∧ j < ((tx_kd h o).2 : Int) ∧ 27 ≤ o ∧ decide ((tx_kd h o).1 = 2) = lg then (match tx_tk (tx_kd h o).1 z with
    | some y => some (r, tx_setn h o j.toNat y)
    | none => none) else none
  | _ => none
def tx_heap (i : Instr) (a b : Nat) (d : Int) (st : List tx_V) (h : tx_H) : Option (List tx_V × tx_H) := match i with
  | .getfield _ => match st with
    | .inr (.inr (some o)) :: r => if (tx_kd h o).1 = 100 + a then (match tx_fv (tb_f a b).2.2.1 h o b with
      | some v => some (v :: r, h)
      | none => none) else none
    | _ => none
  | .putfield _ => match st with
    | v :: .inr (.inr (some o)) :: r => if (tx_kd h o).1 = 100 + a ∧ 27 ≤ o then (match tx_pf (tb_f a b).2.2.1 h o b v with
      | some h' => some (r, h')
      | none => none) else none
    | _ => none
  | .getstatic _ => some ((if a = 0 then .inr (.inr (some b)) else .inl (.inl d)) :: st, h)
  | .ldc _ => some ((if a = 0 then .inl (.inl d) else .inr (.inr (some b))) :: st, h)
  | .ldc_w _ => some ((if a = 0 then .inl (.inl d) else .inr (.inr (some b))) :: st, h)
  | .ldc2_w _ => some (.inr (.inl (.inl d)) :: st, h)
  | .arraylength => match st with
    | .inr (.inr (some o)) :: r => if (tx_kd h o).1 < 4 then some (.inl (.inl ((tx_kd h o).2 : Int)) :: r, h) else none
    | _ => none
  | .iaload => tx_ald (fun t => t == 0) st h
  | .baload => tx_ald (fun t => t == 1 || t == 3) st h
  | .laload => tx_ald (fun t => t == 2) st h
  | .iastore => match st with
    | .inl z :: r => tx_ast (fun t => t == 0) false r z h
    | _ => none
  | .bastore => match st with
    | .inl z :: r => tx_ast (fun t => t == 1 || t == 3) false r z h
    | _ => none
  | .lastore => match st with
    | .inr (.inl z) :: r => tx_ast (fun t => t == 2) true r z h
    | _ => none
  | .new _ => if a = 0 then some (.inr (.inr (some (27 + h.1))) :: st, tx_new h (100 + b, tb_N b) (tb_ci.getD b (0, 0, 0, [])).2.2.1) else some (.inr (.inr (some (27 + h.1))) :: st, tx_newx h b)
  | .newarray _ => match st with
    | .inl (.inl n) :: r => if 0 ≤ n ∧ n ≤ 1000000 then some (.inr (.inr (some (27 + h.1))) :: r, tx_new h (a, n.toNat) n.toNat) else none
    | _ => none
  | _ => none
abbrev tx_O : Type := Sum (Option tx_V) Nat
def tx_pop : Nat → List tx_V → Option (List tx_V × List tx_V)
  | 0, st => some ([], st)
  | n + 1, st => match st with
    | v :: r => match tx_pop n r with
      | some (as, q) => some (as ++ [v], q)
      | none => none
    | [] => none
def tx_wt (st : List tx_V) : Nat := (st.map tx_cat).sum
def tx_ent : List tx_V → tx_L
  | [] => []
  | v :: r => if tx_cat v = 2 then some v :: none :: tx_ent r else some v :: tx_ent r
def tx_args (mode y n : Nat) (st : List tx_V) (h : tx_H) : Option (List tx_V × List tx_V) := match tx_pop n st with
  | none => none
  | some (as, r) => if mode = 2 then some (as, r) else match r with
    | .inr (.inr (some o)) :: q => if (tx_kd h o).1 = 100 + ax_cls y then some (.inr (.inr (some o)) :: as, q) else none
    | _ => none
def tx_cpy (f g : Nat → tx_I) (sp dp n : Nat) : Nat → tx_I := fun k => if dp ≤ k ∧ k < dp + n then f (sp + (k - dp)) else g k
def tx_copy (st : List tx_V) (h : tx_H) : Option (List tx_V × tx_H) := match st with
  | .inl (.inl n) :: .inl (.inl dp) :: .inr (.inr (some t)) :: .inl (.inl sp) :: .inr (.inr (some o)) :: r =>
    if (tx_kd h o).1 = 1 ∧ (tx_kd h t).1 = 1 ∧ 0 ≤ n ∧ 0 ≤ dp ∧ 0 ≤ sp ∧ sp + n ≤ ((tx_kd h o).2 : Int) ∧ dp + n ≤ ((tx_kd h t).2 : Int) ∧ 27 ≤ t ∧ 27 ≤ o ∧ o ≠ t then
      some (r, (h.1, h.2.1, h.2.2.1, (fun b => if b = t then tx_cpy (tx_nu h o) (tx_nu h t) sp.toNat dp.toNat n.toNat else h.2.2.2.1 b), h.2.2.2.2))
    else none
  | _ => none
def tx_throw (μ : ax_M) (pc x : Nat) (st : List tx_V) (h : tx_H) : Option (tx_O × tx_H) := match st with
  | .inr (.inr (some _)) :: .inr (.inr (some o)) :: .inr (.inr (some o2)) :: r =>
    if o = o2 ∧ tx_ex h o = 2 * x + 1 ∧ (27 ≤ o ∧ o + 1 = 27 + h.1) ∧ tx_wt r ≤ 20 ∧ ax_nexta μ pc = true ∧ μ.2.2.2.2.1 = [] then some (.inr o, tx_sete h o (2 * x + 2)) else none
  | _ => none
abbrev tx_S : Type := Sum (Nat × tx_L × List tx_V × tx_H) (Sum (tx_O × tx_H) (Nat × List tx_V × List tx_V))
def tx_inv (μ : ax_M) (a b : Nat) (d : Int) (pc : Nat) (ls : tx_L) (st : List tx_V) (h : tx_H) : Option tx_S :=
  if a = 5 then (match st with
    | .inr (.inr (some o)) :: r => if 27 ≤ o ∧ tx_wt r ≤ 20 then some (.inl (pc + 3, ls, r, h)) else none
    | _ => none)
  else if a = 6 then (match tx_copy st h with
    | some (st', h') => if tx_wt st' ≤ 20 then some (.inl (pc + 3, ls, st', h')) else none
    | none => none)
  else if a = 7 then (match tx_throw μ pc b st h with
    | some r => some (.inr (.inl r))
    | none => none)
  else match tx_args a b d.toNat st h with
    | none => none
    | some (as, r) => if tx_wt r ≤ 20 then some (.inr (.inr (b, as, r))) else none
def tx_rtn (μ : ax_M) (i : Instr) (st : List tx_V) : Option (Option tx_V) := match i with
  | .ireturn => (match st with
    | [.inl (.inl z)] => if ax_rok μ.2.2.1 z = true then some (some (.inl (.inl z))) else none
    | [.inl (.inr q)] => if μ.2.2.1 = 1 then some (some (.inl (.inr q))) else none
    | _ => none)
  | .lreturn => (match st with
    | [.inr (.inl z)] => if μ.2.2.1 = 2 then some (some (.inr (.inl z))) else none
    | _ => none)
  | .return_ => (match st with
    | [] => if μ.2.2.1 = 0 then some none else none
    | _ => none)
  | _ => none
def tx_do (μ : ax_M) (i : Instr) (a b : Nat) (d : Int) (pc : Nat) (ls : tx_L) (st : List tx_V) (h : tx_H) : Option tx_S := match ax_grp i with
  | 0 => (match tx_pure i ls st with
    | some (ls', st') => some (.inl (pc + ax_len i, ls', st', h))
    | none => none)
  | 1 => (match tx_jump i pc st with
    | some (pc', st') => some (.inl (pc', ls, st', h))
    | none => none)
  | 2 => (match tx_heap i a b d st h with
    | some (st', h') => some (.inl (pc + ax_len i, ls, st', h'))
    | none => none)
  | 3 => tx_inv μ a b d pc ls st h
  | _ => (match tx_rtn μ i st with
    | some v => some (.inr (.inl (.inl v, h)))
    | none => none)
def tx_step (μ : ax_M) (pc : Nat) (ls : tx_L) (st : List tx_V) (h : tx_H) : Option tx_S := match ax_at μ.2.2.2.2.2 pc with
  | none => none
  | some (i, a, b, _, d) => tx_do μ i a b d pc ls st h
def tx_run (call : Nat → List tx_V → tx_H → Option (tx_O × tx_H)) (μ : ax_M) : Nat → Nat → tx_L → List tx_V → tx_H → Option (tx_O × tx_H)
  | 0, _, _, _, _ => none
  | f + 1, pc, ls, st, h => match tx_step μ pc ls st h with
    | none => none
    | some (.inl (pc', ls', st', h')) => tx_run call μ f pc' ls' st' h'
    | some (.inr (.inl r)) => some r
    | some (.inr (.inr (y, as, r))) => match call y as h with
      | none => none
      | some (.inl v, h') => tx_run call μ f (pc + 3) ls (v.toList ++ r) h'
      | some (.inr x, h') => match ax_catch μ.2.2.2.2.1 pc (tx_ex h' x) with
        | some t => tx_run call μ f t ls [.inr (.inr (some x))] h'
        | none => if μ.2.2.2.2.1 = [] then some (.inr x, h') else none
def tx_ev (F : Nat) : Nat → Nat → List tx_V → tx_H → Option (tx_O × tx_H)
  | 0 => fun _ _ _ => none
  | n + 1 => fun y as h => match tb_ms[y]? with
    | none => none
    | some μ => if (tx_ent as).length ≤ μ.2.1 then tx_run (tx_ev F n) μ F 0 (tx_ent as ++ List.replicate (μ.2.1 - (tx_ent as).length) none) [] h else none
