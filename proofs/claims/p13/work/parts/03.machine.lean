/-! THE ABSTRACT MACHINE: ints and longs as Int, cells by their number, arrays and objects as functions. -/
/-- a value: an int, a long, a reference or null -/
abbrev ax_V : Type := Sum Int (Sum Int (Option Nat))
/-- the locals, by their places -/
abbrev ax_L : Type := List (Option ax_V)
/-- the heap: how many cells were made, of how many slots; each cell's kind and length, its numbers, its references; which cells are exceptions -/
abbrev ax_H : Type := Nat × Nat × (Nat → Nat × Nat) × (Nat → Nat → Int) × (Nat → Nat → Option Nat) × (Nat → Nat)
def ax_w32 (z : Int) : Int := Int.bmod z 4294967296
def ax_w64 (z : Int) : Int := Int.bmod z 18446744073709551616
def ax_w8 (z : Int) : Int := Int.bmod z 256
def ax_w16 (z : Int) : Int := Int.bmod z 65536
def ax_u16 (z : Int) : Int := z % 65536
def ax_cat (v : ax_V) : Nat := match v with
  | .inr (.inl _) => 2
  | _ => 1
/-- is the place before it a long's? then that is gone -/
def ax_cut (ls : ax_L) (i : Nat) : ax_L := match i with
  | 0 => ls
  | j + 1 => match ls[j]? with
    | some (some (.inr (.inl _))) => ls.set j none
    | _ => ls
def ax_st1 (ls : ax_L) (i : Nat) (v : ax_V) : ax_L := (ax_cut ls i).set i (some v)
def ax_st2 (ls : ax_L) (i : Nat) (v : ax_V) : ax_L := ((ax_cut ls i).set i (some v)).set (i + 1) none
def ax_ld (ls : ax_L) (i : Nat) : Option ax_V := match ls[i]? with
  | some (some v) => some v
  | _ => none
def ax_iload (ls : ax_L) (st : List ax_V) (i : Nat) : Option (ax_L × List ax_V) := match ax_ld ls i with
  | some (.inl x) => some (ls, .inl x :: st)
  | _ => none
def ax_lload (ls : ax_L) (st : List ax_V) (i : Nat) : Option (ax_L × List ax_V) := match ax_ld ls i with
  | some (.inr (.inl x)) => some (ls, .inr (.inl x) :: st)
  | _ => none
def ax_aload (ls : ax_L) (st : List ax_V) (i : Nat) : Option (ax_L × List ax_V) := match ax_ld ls i with
  | some (.inr (.inr x)) => some (ls, .inr (.inr x) :: st)
  | _ => none
def ax_istore (ls : ax_L) (st : List ax_V) (i : Nat) : Option (ax_L × List ax_V) := match st with
  | .inl x :: r => if i < ls.length then some (ax_st1 ls i (.inl x), r) else none
  | _ => none
def ax_lstore (ls : ax_L) (st : List ax_V) (i : Nat) : Option (ax_L × List ax_V) := match st with
  | .inr (.inl x) :: r => if i + 1 < ls.length then some (ax_st2 ls i (.inr (.inl x)), r) else none
  | _ => none
def ax_astore (ls : ax_L) (st : List ax_V) (i : Nat) : Option (ax_L × List ax_V) := match st with
  | .inr (.inr x) :: r => if i < ls.length then some (ax_st1 ls i (.inr (.inr x)), r) else none
  | _ => none
def ax_iinc (ls : ax_L) (st : List ax_V) (i : Nat) (n : Int) : Option (ax_L × List ax_V) := match ax_ld ls i with
  | some (.inl x) => some (ax_st1 ls i (.inl (ax_w32 (x + n))), st)
  | _ => none
/-- two ints to an int -/
def ax_ii (f : Int → Int → Int) (ls : ax_L) (st : List ax_V) : Option (ax_L × List ax_V) := match st with
  | .inl y :: .inl x :: r => some (ls, .inl (f x y) :: r)
  | _ => none
def ax_ll (f : Int → Int → Int) (ls : ax_L) (st : List ax_V) : Option (ax_L × List ax_V) := match st with
  | .inr (.inl y) :: .inr (.inl x) :: r => some (ls, .inr (.inl (f x y)) :: r)
  | _ => none
/-- a long and an int to a long: the shifts -/
def ax_li (f : Int → Int → Int) (ls : ax_L) (st : List ax_V) : Option (ax_L × List ax_V) := match st with
  | .inl y :: .inr (.inl x) :: r => some (ls, .inr (.inl (f x y)) :: r)
  | _ => none
def ax_i1 (f : Int → ax_V) (ls : ax_L) (st : List ax_V) : Option (ax_L × List ax_V) := match st with
  | .inl x :: r => some (ls, f x :: r)
  | _ => none
def ax_l1 (f : Int → ax_V) (ls : ax_L) (st : List ax_V) : Option (ax_L × List ax_V) := match st with
  | .inr (.inl x) :: r => some (ls, f x :: r)
  | _ => none
def ax_iand (x y : Int) : Int := (Int32.ofInt x &&& Int32.ofInt y).toInt
def ax_ior (x y : Int) : Int := (Int32.ofInt x ||| Int32.ofInt y).toInt
def ax_ixor (x y : Int) : Int := (Int32.ofInt x ^^^ Int32.ofInt y).toInt
def ax_ishl (x y : Int) : Int := (Int32.ofInt x <<< (Int32.ofInt y &&& 31)).toInt
def ax_ishr (x y : Int) : Int := (Int32.ofInt x >>> (Int32.ofInt y &&& 31)).toInt
def ax_iushr (x y : Int) : Int := ((Int32.ofInt x).toUInt32 >>> ((Int32.ofInt y).toUInt32 &&& Int32.toUInt32 31)).toInt32.toInt
def ax_land (x y : Int) : Int := (Int64.ofInt x &&& Int64.ofInt y).toInt
def ax_lor (x y : Int) : Int := (Int64.ofInt x ||| Int64.ofInt y).toInt
def ax_lxor (x y : Int) : Int := (Int64.ofInt x ^^^ Int64.ofInt y).toInt
def ax_lshl (x y : Int) : Int := (Int64.ofInt x <<< ((Int32.ofInt y).toInt64 &&& 63)).toInt
def ax_lshr (x y : Int) : Int := (Int64.ofInt x >>> ((Int32.ofInt y).toInt64 &&& 63)).toInt
def ax_lushr (x y : Int) : Int := ((Int64.ofInt x).toUInt64 >>> ((Int32.ofInt y).toInt64.toUInt64 &&& Int64.toUInt64 63)).toInt64.toInt
def ax_idiv (x y : Int) : Int := (Int32.ofInt x / Int32.ofInt y).toInt
def ax_irem (x y : Int) : Int := (Int32.ofInt x - Int32.ofInt x / Int32.ofInt y * Int32.ofInt y).toInt
def ax_ldiv (x y : Int) : Int := (Int64.ofInt x / Int64.ofInt y).toInt
def ax_lrem (x y : Int) : Int := (Int64.ofInt x - Int64.ofInt x / Int64.ofInt y * Int64.ofInt y).toInt
def ax_cmp (x y : Int) : Int := if y < x then 1 else if x = y then 0 else -1
/-- how long an instruction is (the switches aside) -/
def ax_len (i : Instr) : Nat := match i with
  | .bipush _ => 2
  | .iload _ => 2
  | .lload _ => 2
  | .aload _ => 2
  | .istore _ => 2
  | .lstore _ => 2
  | .astore _ => 2
  | .ldc _ => 2
  | .newarray _ => 2
  | .sipush _ => 3
  | .iinc _ _ => 3
  | .ifCond _ _ => 3
  | .if_icmp _ _ => 3
  | .if_acmp _ _ => 3
  | .goto _ => 3
  | .getfield _ => 3
  | .putfield _ => 3
  | .getstatic _ => 3
  | .ldc2_w _ => 3
  | .ldc_w _ => 3
  | .new _ => 3
  | .anewarray _ => 3
  | .invokevirtual _ => 3
  | .invokespecial _ => 3
  | .invokestatic _ => 3
  | .checkcast _ => 3
  | _ => 1
/-- the operands are what the machine takes as they are -/
def ax_fine (i : Instr) : Bool := match i with
  | .iconst n => decide ((Int32.ofInt n).toInt = n)
  | .bipush n => decide ((Int8.ofInt n).toInt32.toInt = n)
  | .sipush n => decide ((Int16.ofInt n).toInt32.toInt = n)
  | .iinc _ n => decide ((Int32.ofInt n).toInt = n)
  | .lookupswitch _ ps => (ps.toList.zip (ps.toList.drop 1)).all (fun (a, next) => a.1 < next.1)
  | _ => true
/-- what an instruction without heap and jump does to locals and stack -/
def ax_pure (i : Instr) (ls : ax_L) (st : List ax_V) : Option (ax_L × List ax_V) := match i with
  | .iconst n => some (ls, .inl n :: st)
  | .bipush n => some (ls, .inl n :: st)
  | .sipush n => some (ls, .inl n :: st)
  | .lconst n => some (ls, .inr (.inl (n.val : Int)) :: st)
  | .aconst_null => some (ls, .inr (.inr none) :: st)
  | .iload k => ax_iload ls st k
  | .iload_n k => ax_iload ls st k.val
  | .lload k => ax_lload ls st k
  | .lload_n k => ax_lload ls st k.val
  | .aload k => ax_aload ls st k
  | .aload_n k => ax_aload ls st k.val
  | .istore k => ax_istore ls st k
  | .istore_n k => ax_istore ls st k.val
  | .lstore k => ax_lstore ls st k
  | .lstore_n k => ax_lstore ls st k.val
  | .astore k => ax_astore ls st k
  | .astore_n k => ax_astore ls st k.val
  | .iinc k n => ax_iinc ls st k n
  | .iadd => ax_ii (fun x y => ax_w32 (x + y)) ls st
  | .isub => ax_ii (fun x y => ax_w32 (x - y)) ls st
  | .imul => ax_ii (fun x y => ax_w32 (x * y)) ls st
  | .iand => ax_ii ax_iand ls st
  | .ior => ax_ii ax_ior ls st
  | .ixor => ax_ii ax_ixor ls st
  | .ishl => ax_ii ax_ishl ls st
  | .ishr => ax_ii ax_ishr ls st
  | .iushr => ax_ii ax_iushr ls st
  | .ineg => ax_i1 (fun x => .inl (ax_w32 (-x))) ls st
  | .ladd => ax_ll (fun x y => ax_w64 (x + y)) ls st
  | .lsub => ax_ll (fun x y => ax_w64 (x - y)) ls st
  | .lmul => ax_ll (fun x y => ax_w64 (x * y)) ls st
  | .land => ax_ll ax_land ls st
  | .lor => ax_ll ax_lor ls st
  | .lxor => ax_ll ax_lxor ls st
  | .lneg => ax_l1 (fun x => .inr (.inl (ax_w64 (-x)))) ls st
  | .lshl => ax_li ax_lshl ls st
  | .lshr => ax_li ax_lshr ls st
  | .lushr => ax_li ax_lushr ls st
  | .i2l => ax_i1 (fun x => .inr (.inl x)) ls st
  | .l2i => ax_l1 (fun x => .inl (ax_w32 x)) ls st
  | .i2b => ax_i1 (fun x => .inl (ax_w8 x)) ls st
  | .i2s => ax_i1 (fun x => .inl (ax_w16 x)) ls st
  | .i2c => ax_i1 (fun x => .inl (ax_u16 x)) ls st
  | .lcmp => match st with
    | .inr (.inl y) :: .inr (.inl x) :: r => some (ls, .inl (ax_cmp x y) :: r)
    | _ => none
  | .dup => match st with
    | a :: r => if ax_cat a = 1 then some (ls, a :: a :: r) else none
    | _ => none
  | .pop => match st with
    | a :: r => if ax_cat a = 1 then some (ls, r) else none
    | _ => none
  | .dup_x1 => match st with
    | a :: b :: r => if ax_cat a = 1 ∧ ax_cat b = 1 then some (ls, a :: b :: a :: r) else none
    | _ => none
  | .dup_x2 => match st with
    | a :: b :: d :: r => if ax_cat a = 1 ∧ ax_cat b = 1 ∧ ax_cat d = 1 then some (ls, a :: b :: d :: a :: r) else none
    | _ => none
  | .dup2 => match st with
    | a :: b :: r => if ax_cat a = 1 ∧ ax_cat b = 1 then some (ls, a :: b :: a :: b :: r) else none
    | _ => none
  | .idiv => match st with
    | .inl y :: .inl x :: r => if y = 0 then none else some (ls, .inl (ax_idiv x y) :: r)
    | _ => none
  | .irem => match st with
    | .inl y :: .inl x :: r => if y = 0 then none else some (ls, .inl (ax_irem x y) :: r)
    | _ => none
  | .ldiv => match st with
    | .inr (.inl y) :: .inr (.inl x) :: r => if y = 0 then none else some (ls, .inr (.inl (ax_ldiv x y)) :: r)
    | _ => none
  | .lrem => match st with
    | .inr (.inl y) :: .inr (.inl x) :: r => if y = 0 then none else some (ls, .inr (.inl (ax_lrem x y)) :: r)
    | _ => none
  | _ => none
/-- the place that is jumped to -/
def ax_to (pc : Nat) (off : Int) : Nat := ((pc : Int) + off).toNat
def ax_jif (t : Prop) [Decidable t] (pc : Nat) (off : Int) (r : List ax_V) : Option (Nat × List ax_V) := if t then some (ax_to pc off, r) else some (pc + 3, r)
/-- what a jump does -/
def ax_jump (i : Instr) (pc : Nat) (st : List ax_V) : Option (Nat × List ax_V) := match i with
  | .goto off => some (ax_to pc off, st)
  | .ifCond cd off => match st with
    | .inl x :: r => match cd with
      | .eq => ax_jif (x = 0) pc off r
      | .ne => ax_jif (¬ x = 0) pc off r
      | .lt => ax_jif (x < 0) pc off r
      | .ge => ax_jif (0 ≤ x) pc off r
      | .gt => ax_jif (0 < x) pc off r
      | .le => ax_jif (x ≤ 0) pc off r
    | _ => none
  | .if_icmp cd off => match st with
    | .inl y :: .inl x :: r => match cd with
      | .eq => ax_jif (x = y) pc off r
      | .ne => ax_jif (¬ x = y) pc off r
      | .lt => ax_jif (x < y) pc off r
      | .ge => ax_jif (y ≤ x) pc off r
      | .gt => ax_jif (y < x) pc off r
      | .le => ax_jif (x ≤ y) pc off r
    | _ => none
  | .tableswitch d lo hi offs => match st with
    | .inl x :: r => if x < lo ∨ hi < x then some (ax_to pc d, r) else match offs[(x - lo).toNat]? with
      | some off => some (ax_to pc off, r)
      | none => none
    | _ => none
  | .lookupswitch d ps => match st with
    | .inl x :: r => some (ax_to pc (Op.lookupswitch.offset ps.toList d x), r)
    | _ => none
  | _ => none
