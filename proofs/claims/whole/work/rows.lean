section
/-! A call whose callee may return or throw. -/
section SOA
variable {l : Launch} {R : Room} {p : Program} {e : Env} {below : List Frame} {s : State} {sargs : Array Value} {m : MethodId} {meth : Method} {c : Code} {T : State} {locs : List Loc} {cells slots : Nat}
/-- how an invocation ends: the tables are warmer, nothing has moved but the slots L and at most k new cells of n slots -/
def so_End (first t : State) (L : List Loc) (k n : Nat) : Prop := first.WarmedH t.vm ∧ first.sameButNew ({ t with vm := first.vm } : State) L k n
/-- what the tables say of a method that is called -/
def so_Callee (y : MethodName) (maxL : Nat) (U : State) : Prop := ∃ (my : MethodId) (methY : Method) (cY : Code) (kY : Class), U.methodNamed? y = some my ∧ U.vm.method? my = some methY ∧ methY.code = some cY ∧ cY.maxLocals = maxL ∧ U.vm.classes[my.cls]? = some kY ∧ kY.init = .initialized
theorem so_call (X : Stand p l e R s m sargs below meth c T locs cells slots) {y : MethodName} {S : Spec} {P : Array Value → State → Prop} {Q : Array Value → State → Outcome → State → Prop} {maxL WW : Nat}
    (hM : MetFree l y S P (fun _ _ _ _ _ => True) Q) {g : JFrame} {ig : Instr} {len : Nat} (hg : g.method = m) (hsize : g.locals.size = c.maxLocals) (hdg : decode c.code g.pc = .ok (ig, len))
    (hW : 2 * g.monitorRoom + (g.stack.map fun v => v.category).sum ≤ WW) {mk : MethodId} (hn : T.methodNamed? y = some mk) {a : Array Value} (hC : so_Callee y maxL T)
    (hframes : S.room.frames + 1 ≤ R.frames) (hlocals : WW + (maxL + 11) + S.room.locals ≤ R.locals) (hcells : cells + S.room.cells ≤ R.cells) (hslots : slots + S.room.slots ≤ R.slots)
    (hpre : S.pre.before a T = true) (hP : P a (T.calling g mk a)) (hQ : ∀ o t, Q a (T.calling g mk a) o t → ∃ L k n, so_End (T.calling g mk a) t L k n) :
    ∃ (o : Outcome) (t T' : State) (L : List Loc) (k n : Nat), Q a (T.calling g mk a) o t ∧ so_End (T.calling g mk a) t L k n ∧ Stand p l e R s m sargs below meth c T' (locs ++ L) (cells + k) (slots + n) ∧ T'.heap = t.heap ∧ T'.vm = t.vm ∧
      ((∃ v, o = .returned v ∧ Steps p.tables e below (doInvoke e (T.setTop g) [] mk a).1 (T'.setTop { g with pc := g.pc + len, stack := v.toList ++ g.stack })) ∨
       (∃ x, o = .threw x ∧ Steps p.tables e below (doInvoke e (T.setTop g) [] mk a).1 ((T'.setTop g).pushFrame (.throwing x)))) := by
  obtain ⟨my, methY, cY, kY, hn9, hmY, hcY, hlY, hkY, hinitY⟩ := hC
  cases hn.symm.trans hn9
  have h : At T g.method c below := by rw [hg]; exact X.here
  have happ : S.appliesLoose y e.platform (T.calling g mk a) = true :=
    Spec.appliesLoose_calling (g := g) h hdg hn hkY hinitY
      (X.room_calling (g := g) (R' := S.room) hsize hmY hcY hframes (by rw [hlY]; omega) hcells hslots) hpre
  obtain ⟨mid, hmid⟩ := h.above
  have hfr : (T.setTop g).frames = (.java g :: mid) ++ below := by rw [State.frames_setTop' g h.top, hmid]; rfl
  obtain ⟨o, s₂, hsteps, -, hend, hq⟩ := Steps.callFree hM p X.admits X.cas X.clock (acts := []) hfr happ hP trivial
  have hq' : Q a (T.calling g mk a) o s₂ := hq
  rw [State.frames_setTop' g h.top] at hend
  obtain ⟨L, k, n, hE⟩ := hQ _ _ hq'
  cases o with
  | returned v =>
    obtain ⟨hW₂, e2, q2, q3, q4, q5, q6⟩ := id hE
    have e3 : s₂ = ({ (T.calling g mk a).setFrames s₂.frames with heap := s₂.heap, slotsUsed := s₂.slotsUsed } : State).setVm s₂.vm := by
      have : s₂ = ({ s₂ with vm := (T.calling g mk a).vm } : State).setVm s₂.vm := rfl
      rw [e2] at this
      exact this
    obtain ⟨c₂, i₂, len₂, hc₂, hd₂, hf₂⟩ := hend
    have hW' : T.WarmedH s₂.vm := hW₂
    have hcc : c₂ = c := by
      have h1 : s₂.code? g.method = T.code? g.method := by
        rw [State.code?_eq, State.code?_eq, hW'.alike.method?]
      exact Option.some.inj (hc₂.symm.trans (h1.trans h.code))
    subst hcc
    have hlen : len₂ = len := by rw [hdg] at hd₂; cases hd₂; rfl
    subst hlen
    obtain ⟨g₀, hg0⟩ := Option.isSome_iff_exists.mp h.top
    obtain ⟨r, hr⟩ := State.topJava?_eq_some.mp hg0
    have hs₂ : s₂ = (({ T with heap := s₂.heap, slotsUsed := s₂.slotsUsed } : State).setVm s₂.vm).setTop { g with pc := g.pc + len₂, stack := v.toList ++ g.stack } := by
      have hr' : (({ T with heap := s₂.heap, slotsUsed := s₂.slotsUsed } : State).setVm s₂.vm).frames = .java g₀ :: r := hr
      refine e3.trans ?_
      rw [hf₂, State.calling_eq h.top, State.setFrames_setFrames, State.setTop_of_frames _ hr', hr]
      rfl
    have hsame : T.sameButNew ({ T with heap := s₂.heap, slotsUsed := s₂.slotsUsed } : State) L k n := by
      refine ⟨?_, q2, q3, q4, q5, q6⟩
      obtain ⟨t, ht, -⟩ := State.frames_cons hr
      show ({ T with heap := s₂.heap, slotsUsed := s₂.slotsUsed } : State) = { T.setFrames T.frames with heap := s₂.heap, slotsUsed := s₂.slotsUsed }
      rw [State.setFrames_self ht]
    subst hg
    refine ⟨.returned v, s₂, ({ T with heap := s₂.heap, slotsUsed := s₂.slotsUsed } : State).setVm s₂.vm, L, k, n, hq', hE,
      ⟨X.admits, X.cas, X.clock, X.frames, X.room, X.hears, X.method, X.code, (X.here.setHeapUsed s₂.heap s₂.slotsUsed).setVm hW'.alike, X.tail, State.WarmedH.trans X.warmed hW', X.limits, X.bytes, X.same.trans (hsame.setVm s.vm)⟩, rfl, rfl, Or.inl ⟨v, rfl, ?_⟩⟩
    rw [← hs₂]
    exact hsteps
  | threw x =>
    have htl : (T.frames.tail : List Frame) = below := X.tail
    rw [htl] at hend
    obtain ⟨T', X', hW', hB, ht⟩ := X.outOfThrown hg hend hE.1 hE.2
    refine ⟨.threw x, s₂, T', L, k, n, hq', hE, X', ?_, ?_, Or.inr ⟨x, rfl, ?_⟩⟩
    · rw [ht]; simp [State.pushFrame, State.setFrames, State.setTop, State.modifyTopJava]
    · rw [ht]; simp [State.pushFrame, State.setFrames, State.setTop, State.modifyTopJava]
    · rw [← ht]; exact hsteps
end SOA
end
section
/-! THE ABSTRACT MACHINE: ints and longs as Int, cells by their number, arrays and objects as functions. -/
/-- a value: an int, a long, a reference or null -/
abbrev ax_V : Type := Sum Int (Sum Int (Option Nat))
/-- the locals, by their places -/
abbrev ax_L : Type := List (Option ax_V)
/-- the heap: how many cells, how many slots, each cell's kind and length, its numbers, its references -/
abbrev ax_H : Type := Nat × Nat × (Nat → Nat × Nat) × (Nat → Nat → Int) × (Nat → Nat → Option Nat)
def ax_w32 (z : Int) : Int := Int.bmod z 4294967296
def ax_w64 (z : Int) : Int := Int.bmod z 18446744073709551616
def ax_w8 (z : Int) : Int := Int.bmod z 256
def ax_w16 (z : Int) : Int := Int.bmod z 65536
def ax_u16 (z : Int) : Int := z % 65536
def ax_cat (v : ax_V) : Nat := match v with
  | .inr (.inl _) => 2
  | _ => 1
/-- is the place before it a long's? then that is gone -/
def ax_cut (ls : ax_L) (i : Nat) : ax_L := match i with
  | 0 => ls
  | j + 1 => match ls[j]? with
    | some (some (.inr (.inl _))) => ls.set j none
    | _ => ls
def ax_st1 (ls : ax_L) (i : Nat) (v : ax_V) : ax_L := (ax_cut ls i).set i (some v)
def ax_st2 (ls : ax_L) (i : Nat) (v : ax_V) : ax_L := ((ax_cut ls i).set i (some v)).set (i + 1) none
def ax_ld (ls : ax_L) (i : Nat) : Option ax_V := match ls[i]? with
  | some (some v) => some v
  | _ => none
def ax_iload (ls : ax_L) (st : List ax_V) (i : Nat) : Option (ax_L × List ax_V) := match ax_ld ls i with
  | some (.inl x) => some (ls, .inl x :: st)
  | _ => none
def ax_lload (ls : ax_L) (st : List ax_V) (i : Nat) : Option (ax_L × List ax_V) := match ax_ld ls i with
  | some (.inr (.inl x)) => some (ls, .inr (.inl x) :: st)
  | _ => none
def ax_aload (ls : ax_L) (st : List ax_V) (i : Nat) : Option (ax_L × List ax_V) := match ax_ld ls i with
  | some (.inr (.inr x)) => some (ls, .inr (.inr x) :: st)
  | _ => none
def ax_istore (ls : ax_L) (st : List ax_V) (i : Nat) : Option (ax_L × List ax_V) := match st with
  | .inl x :: r => if i < ls.length then some (ax_st1 ls i (.inl x), r) else none
  | _ => none
def ax_lstore (ls : ax_L) (st : List ax_V) (i : Nat) : Option (ax_L × List ax_V) := match st with
  | .inr (.inl x) :: r => if i + 1 < ls.length then some (ax_st2 ls i (.inr (.inl x)), r) else none
  | _ => none
def ax_astore (ls : ax_L) (st : List ax_V) (i : Nat) : Option (ax_L × List ax_V) := match st with
  | .inr (.inr x) :: r => if i < ls.length then some (ax_st1 ls i (.inr (.inr x)), r) else none
  | _ => none
def ax_iinc (ls : ax_L) (st : List ax_V) (i : Nat) (n : Int) : Option (ax_L × List ax_V) := match ax_ld ls i with
  | some (.inl x) => some (ax_st1 ls i (.inl (ax_w32 (x + n))), st)
  | _ => none
/-- two ints to an int -/
def ax_ii (f : Int → Int → Int) (ls : ax_L) (st : List ax_V) : Option (ax_L × List ax_V) := match st with
  | .inl y :: .inl x :: r => some (ls, .inl (f x y) :: r)
  | _ => none
def ax_ll (f : Int → Int → Int) (ls : ax_L) (st : List ax_V) : Option (ax_L × List ax_V) := match st with
  | .inr (.inl y) :: .inr (.inl x) :: r => some (ls, .inr (.inl (f x y)) :: r)
  | _ => none
/-- a long and an int to a long: the shifts -/
def ax_li (f : Int → Int → Int) (ls : ax_L) (st : List ax_V) : Option (ax_L × List ax_V) := match st with
  | .inl y :: .inr (.inl x) :: r => some (ls, .inr (.inl (f x y)) :: r)
  | _ => none
def ax_i1 (f : Int → ax_V) (ls : ax_L) (st : List ax_V) : Option (ax_L × List ax_V) := match st with
  | .inl x :: r => some (ls, f x :: r)
  | _ => none
def ax_l1 (f : Int → ax_V) (ls : ax_L) (st : List ax_V) : Option (ax_L × List ax_V) := match st with
  | .inr (.inl x) :: r => some (ls, f x :: r)
  | _ => none
def ax_iand (x y : Int) : Int := (Int32.ofInt x &&& Int32.ofInt y).toInt
def ax_ior (x y : Int) : Int := (Int32.ofInt x ||| Int32.ofInt y).toInt
def ax_ixor (x y : Int) : Int := (Int32.ofInt x ^^^ Int32.ofInt y).toInt
def ax_ishl (x y : Int) : Int := (Int32.ofInt x <<< (Int32.ofInt y &&& 31)).toInt
def ax_ishr (x y : Int) : Int := (Int32.ofInt x >>> (Int32.ofInt y &&& 31)).toInt
def ax_iushr (x y : Int) : Int := ((Int32.ofInt x).toUInt32 >>> ((Int32.ofInt y).toUInt32 &&& Int32.toUInt32 31)).toInt32.toInt
def ax_land (x y : Int) : Int := (Int64.ofInt x &&& Int64.ofInt y).toInt
def ax_lor (x y : Int) : Int := (Int64.ofInt x ||| Int64.ofInt y).toInt
def ax_lxor (x y : Int) : Int := (Int64.ofInt x ^^^ Int64.ofInt y).toInt
def ax_lshl (x y : Int) : Int := (Int64.ofInt x <<< ((Int32.ofInt y).toInt64 &&& 63)).toInt
def ax_lshr (x y : Int) : Int := (Int64.ofInt x >>> ((Int32.ofInt y).toInt64 &&& 63)).toInt
def ax_lushr (x y : Int) : Int := ((Int64.ofInt x).toUInt64 >>> ((Int32.ofInt y).toInt64.toUInt64 &&& Int64.toUInt64 63)).toInt64.toInt
def ax_idiv (x y : Int) : Int := (Int32.ofInt x / Int32.ofInt y).toInt
def ax_irem (x y : Int) : Int := (Int32.ofInt x - Int32.ofInt x / Int32.ofInt y * Int32.ofInt y).toInt
def ax_ldiv (x y : Int) : Int := (Int64.ofInt x / Int64.ofInt y).toInt
def ax_lrem (x y : Int) : Int := (Int64.ofInt x - Int64.ofInt x / Int64.ofInt y * Int64.ofInt y).toInt
def ax_cmp (x y : Int) : Int := if y < x then 1 else if x = y then 0 else -1
/-- how long an instruction is (the switches aside) -/
def ax_len (i : Instr) : Nat := match i with
  | .bipush _ => 2
  | .iload _ => 2
  | .lload _ => 2
  | .aload _ => 2
  | .istore _ => 2
  | .lstore _ => 2
  | .astore _ => 2
  | .ldc _ => 2
  | .newarray _ => 2
  | .sipush _ => 3
  | .iinc _ _ => 3
  | .ifCond _ _ => 3
  | .if_icmp _ _ => 3
  | .if_acmp _ _ => 3
  | .ifnull _ => 3
  | .ifnonnull _ => 3
  | .goto _ => 3
  | .getfield _ => 3
  | .putfield _ => 3
  | .getstatic _ => 3
  | .ldc2_w _ => 3
  | .ldc_w _ => 3
  | .new _ => 3
  | .anewarray _ => 3
  | .invokevirtual _ => 3
  | .invokespecial _ => 3
  | .invokestatic _ => 3
  | .checkcast _ => 3
  | _ => 1
/-- the operands are what the machine takes as they are -/
def ax_fine (i : Instr) : Bool := match i with
  | .iconst n => decide ((Int32.ofInt n).toInt = n)
  | .bipush n => decide ((Int8.ofInt n).toInt32.toInt = n)
  | .sipush n => decide ((Int16.ofInt n).toInt32.toInt = n)
  | .iinc _ n => decide ((Int32.ofInt n).toInt = n)
  | .lookupswitch _ ps => (ps.toList.zip (ps.toList.drop 1)).all (fun (a, next) => a.1 < next.1)
  | _ => true
/-- what an instruction without heap and jump does to locals and stack -/
def ax_pure (i : Instr) (ls : ax_L) (st : List ax_V) : Option (ax_L × List ax_V) := match i with
  | .iconst n => some (ls, .inl n :: st)
  | .bipush n => some (ls, .inl n :: st)
  | .sipush n => some (ls, .inl n :: st)
  | .lconst n => some (ls, .inr (.inl (n.val : Int)) :: st)
  | .aconst_null => some (ls, .inr (.inr none) :: st)
  | .iload k => ax_iload ls st k
  | .iload_n k => ax_iload ls st k.val
  | .lload k => ax_lload ls st k
  | .lload_n k => ax_lload ls st k.val
  | .aload k => ax_aload ls st k
  | .aload_n k => ax_aload ls st k.val
  | .istore k => ax_istore ls st k
  | .istore_n k => ax_istore ls st k.val
  | .lstore k => ax_lstore ls st k
  | .lstore_n k => ax_lstore ls st k.val
  | .astore k => ax_astore ls st k
  | .astore_n k => ax_astore ls st k.val
  | .iinc k n => ax_iinc ls st k n
  | .iadd => ax_ii (fun x y => ax_w32 (x + y)) ls st
  | .isub => ax_ii (fun x y => ax_w32 (x - y)) ls st
  | .imul => ax_ii (fun x y => ax_w32 (x * y)) ls st
  | .iand => ax_ii ax_iand ls st
  | .ior => ax_ii ax_ior ls st
  | .ixor => ax_ii ax_ixor ls st
  | .ishl => ax_ii ax_ishl ls st
  | .ishr => ax_ii ax_ishr ls st
  | .iushr => ax_ii ax_iushr ls st
  | .ineg => ax_i1 (fun x => .inl (ax_w32 (-x))) ls st
  | .ladd => ax_ll (fun x y => ax_w64 (x + y)) ls st
  | .lsub => ax_ll (fun x y => ax_w64 (x - y)) ls st
  | .lmul => ax_ll (fun x y => ax_w64 (x * y)) ls st
  | .land => ax_ll ax_land ls st
  | .lor => ax_ll ax_lor ls st
  | .lxor => ax_ll ax_lxor ls st
  | .lneg => ax_l1 (fun x => .inr (.inl (ax_w64 (-x)))) ls st
  | .lshl => ax_li ax_lshl ls st
  | .lshr => ax_li ax_lshr ls st
  | .lushr => ax_li ax_lushr ls st
  | .i2l => ax_i1 (fun x => .inr (.inl x)) ls st
  | .l2i => ax_l1 (fun x => .inl (ax_w32 x)) ls st
  | .i2b => ax_i1 (fun x => .inl (ax_w8 x)) ls st
  | .i2s => ax_i1 (fun x => .inl (ax_w16 x)) ls st
  | .i2c => ax_i1 (fun x => .inl (ax_u16 x)) ls st
  | .lcmp => match st with
    | .inr (.inl y) :: .inr (.inl x) :: r => some (ls, .inl (ax_cmp x y) :: r)
    | _ => none
  | .dup => match st with
    | a :: r => if ax_cat a = 1 then some (ls, a :: a :: r) else none
    | _ => none
  | .pop => match st with
    | a :: r => if ax_cat a = 1 then some (ls, r) else none
    | _ => none
  | .dup_x1 => match st with
    | a :: b :: r => if ax_cat a = 1 ∧ ax_cat b = 1 then some (ls, a :: b :: a :: r) else none
    | _ => none
  | .dup_x2 => match st with
    | a :: b :: d :: r => if ax_cat a = 1 ∧ ax_cat b = 1 ∧ ax_cat d = 1 then some (ls, a :: b :: d :: a :: r) else none
    | _ => none
  | .dup2 => match st with
    | a :: b :: r => if ax_cat a = 1 ∧ ax_cat b = 1 then some (ls, a :: b :: a :: b :: r) else none
    | _ => none
  | .idiv => match st with
    | .inl y :: .inl x :: r => if y = 0 then none else some (ls, .inl (ax_idiv x y) :: r)
    | _ => none
  | .irem => match st with
    | .inl y :: .inl x :: r => if y = 0 then none else some (ls, .inl (ax_irem x y) :: r)
    | _ => none
  | .ldiv => match st with
    | .inr (.inl y) :: .inr (.inl x) :: r => if y = 0 then none else some (ls, .inr (.inl (ax_ldiv x y)) :: r)
    | _ => none
  | .lrem => match st with
    | .inr (.inl y) :: .inr (.inl x) :: r => if y = 0 then none else some (ls, .inr (.inl (ax_lrem x y)) :: r)
    | _ => none
  | _ => none
/-- the place that is jumped to -/
def ax_to (pc : Nat) (off : Int) : Nat := ((pc : Int) + off).toNat
def ax_jif (t : Prop) [Decidable t] (pc : Nat) (off : Int) (r : List ax_V) : Option (Nat × List ax_V) := if t then some (ax_to pc off, r) else some (pc + 3, r)
/-- what a jump does -/
def ax_jump (i : Instr) (pc : Nat) (st : List ax_V) : Option (Nat × List ax_V) := match i with
  | .goto off => some (ax_to pc off, st)
  | .ifCond cd off => match st with
    | .inl x :: r => match cd with
      | .eq => ax_jif (x = 0) pc off r
      | .ne => ax_jif (¬ x = 0) pc off r
      | .lt => ax_jif (x < 0) pc off r
      | .ge => ax_jif (0 ≤ x) pc off r
      | .gt => ax_jif (0 < x) pc off r
      | .le => ax_jif (x ≤ 0) pc off r
    | _ => none
  | .if_icmp cd off => match st with
    | .inl y :: .inl x :: r => match cd with
      | .eq => ax_jif (x = y) pc off r
      | .ne => ax_jif (¬ x = y) pc off r
      | .lt => ax_jif (x < y) pc off r
      | .ge => ax_jif (y ≤ x) pc off r
      | .gt => ax_jif (y < x) pc off r
      | .le => ax_jif (x ≤ y) pc off r
    | _ => none
  | .ifnull off => match st with
    | .inr (.inr none) :: r => some (ax_to pc off, r)
    | .inr (.inr (some _)) :: r => some (pc + 3, r)
    | _ => none
  | .ifnonnull off => match st with
    | .inr (.inr none) :: r => some (pc + 3, r)
    | .inr (.inr (some _)) :: r => some (ax_to pc off, r)
    | _ => none
  | .tableswitch d lo hi offs => match st with
    | .inl x :: r => if x < lo ∨ hi < x then some (ax_to pc d, r) else match offs[(x - lo).toNat]? with
      | some off => some (ax_to pc off, r)
      | none => none
    | _ => none
  | .lookupswitch d ps => match st with
    | .inl x :: r => some (ax_to pc (Op.lookupswitch.offset ps.toList d x), r)
    | _ => none
  | _ => none
end
section
/-! THE ABSTRACT MACHINE's values, locals and stack beside the machine's own. -/
def so_v (ad : Nat → Nat) (v : ax_V) : Value := match v with
  | .inl z => .int (Int32.ofInt z)
  | .inr (.inl z) => .long (Int64.ofInt z)
  | .inr (.inr none) => .null
  | .inr (.inr (some a)) => .ref (ad a)
def so_ok (v : ax_V) : Prop := match v with
  | .inl z => (Int32.ofInt z).toInt = z
  | .inr (.inl z) => (Int64.ofInt z).toInt = z
  | .inr (.inr _) => True
def so_okL (ls : ax_L) : Prop := ∀ (i : Nat) (v : ax_V), ls[i]? = some (some v) → so_ok v
def so_okS (st : List ax_V) : Prop := ∀ v ∈ st, so_ok v
def so_prs (ad : Nat → Nat) : Nat → ax_L → List (Nat × Value)
  | _, [] => []
  | k, none :: r => so_prs ad (k + 1) r
  | k, some v :: r => (k, so_v ad v) :: so_prs ad (k + 1) r
theorem so_cat (ad : Nat → Nat) (v : ax_V) : (so_v ad v).category = ax_cat v := by
  rcases v with z | z | _ | a <;> rfl
theorem so_prs_of (ad : Nat → Nat) : ∀ (ls : ax_L) (k : Nat) (q : Nat × Value), q ∈ so_prs ad k ls → ∃ (j : Nat) (v : ax_V), q = (k + j, so_v ad v) ∧ ls[j]? = some (some v) := by
  intro ls
  induction ls with
  | nil => intro k q h; cases h
  | cons a r ih =>
    intro k q h
    cases a with
    | none =>
      obtain ⟨j, v, e, g⟩ := ih (k + 1) q h
      exact ⟨j + 1, v, by rw [e]; congr 1; omega, by simpa using g⟩
    | some w =>
      rcases List.mem_cons.mp h with h | h
      · exact ⟨0, w, h, rfl⟩
      · obtain ⟨j, v, e, g⟩ := ih (k + 1) q h
        exact ⟨j + 1, v, by rw [e]; congr 1; omega, by simpa using g⟩
theorem so_prs_to (ad : Nat → Nat) : ∀ (ls : ax_L) (k j : Nat) (v : ax_V), ls[j]? = some (some v) → (k + j, so_v ad v) ∈ so_prs ad k ls := by
  intro ls
  induction ls with
  | nil => intro k j v h; simp at h
  | cons a r ih =>
    intro k j v h
    cases j with
    | zero =>
      have h : a = some v := by simpa using h
      subst h
      exact List.mem_cons_self
    | succ j =>
      have h : r[j]? = some (some v) := by simpa using h
      have h2 := ih (k + 1) j v h
      have e : k + 1 + j = k + (j + 1) := by omega
      rw [e] at h2
      cases a with
      | none => exact h2
      | some w => exact List.mem_cons_of_mem _ h2
/-- the machine's locals hold the abstract ones -/
def so_L (ad : Nat → Nat) (lsA : Array Slot) (nL : Nat) (ls : ax_L) : Prop := ls.length = nL ∧ lv_has lsA nL (so_prs ad 0 ls)
theorem so_L.get {ad : Nat → Nat} {lsA : Array Slot} {nL : Nat} {ls : ax_L} (h : so_L ad lsA nL ls) {i : Nat} {v : ax_V} (hi : ls[i]? = some (some v)) : lsA[i]? = some (.val (so_v ad v)) := by
  have h2 := so_prs_to ad ls 0 i v hi
  rw [Nat.zero_add] at h2
  exact h.2.2.2 _ h2
theorem so_cut_len (ls : ax_L) (i : Nat) : (ax_cut ls i).length = ls.length := by
  unfold ax_cut
  cases i with
  | zero => rfl
  | succ j => dsimp only; split <;> simp
theorem so_cut {ls : ax_L} {i j : Nat} {u : ax_V} (h : (ax_cut ls i)[j]? = some (some u)) : ls[j]? = some (some u) ∧ ¬ (j + 1 = i ∧ ax_cat u = 2) := by
  unfold ax_cut at h
  cases i with
  | zero => exact ⟨h, by omega⟩
  | succ k =>
    dsimp only at h
    split at h
    · rename_i z hz
      by_cases e : j = k
      · subst e
        rw [List.getElem?_set] at h
        simp only [if_true] at h
        split at h <;> cases h
      · rw [List.getElem?_set_ne (fun q => e q.symm)] at h
        exact ⟨h, by omega⟩
    · rename_i hz
      refine ⟨h, ?_⟩
      rintro ⟨e, g⟩
      have e : j = k := by omega
      subst e
      rcases u with z | z | z
      · simp [ax_cat] at g
      · exact hz z h
      · simp [ax_cat] at g
theorem so_st1_len (ls : ax_L) (i : Nat) (v : ax_V) : (ax_st1 ls i v).length = ls.length := by simp [ax_st1, so_cut_len]
theorem so_st2_len (ls : ax_L) (i : Nat) (v : ax_V) : (ax_st2 ls i v).length = ls.length := by simp [ax_st2, so_cut_len]
theorem so_st1_get {ls : ax_L} {i j : Nat} {v u : ax_V} (h : (ax_st1 ls i v)[j]? = some (some u)) : (j = i ∧ u = v) ∨ (j ≠ i ∧ ls[j]? = some (some u) ∧ ¬ (j + 1 = i ∧ ax_cat u = 2)) := by
  unfold ax_st1 at h
  by_cases e : j = i
  · subst e
    rw [List.getElem?_set] at h
    simp only [if_true] at h
    split at h
    · exact Or.inl ⟨rfl, (Option.some.inj (Option.some.inj h)).symm⟩
    · cases h
  · rw [List.getElem?_set_ne (fun q => e q.symm)] at h
    exact Or.inr ⟨e, so_cut h⟩
theorem so_st2_get {ls : ax_L} {i j : Nat} {v u : ax_V} (h : (ax_st2 ls i v)[j]? = some (some u)) : (j = i ∧ u = v) ∨ (j ≠ i ∧ j ≠ i + 1 ∧ ls[j]? = some (some u) ∧ ¬ (j + 1 = i ∧ ax_cat u = 2)) := by
  unfold ax_st2 at h
  by_cases e1 : j = i + 1
  · subst e1
    rw [List.getElem?_set] at h
    simp only [if_true] at h
    split at h <;> cases h
  · rw [List.getElem?_set_ne (fun q => e1 q.symm)] at h
    rcases so_st1_get (ls := ls) (i := i) (v := v) h with h | ⟨a, b⟩
    · exact Or.inl h
    · exact Or.inr ⟨a, e1, b⟩
theorem so_L.st1 {ad : Nat → Nat} {lsA lsB : Array Slot} {nL : Nat} {ls : ax_L} {i : Nat} {v : ax_V} (h : so_L ad lsA nL ls) (hs : lv_has lsB nL ((i, so_v ad v) :: (so_prs ad 0 ls).filter (fun q => !(q.1 == i) && !(q.1 + 1 == i && q.2.category == 2)))) : so_L ad lsB nL (ax_st1 ls i v) := by
  refine ⟨by rw [so_st1_len]; exact h.1, hs.1, hs.2.1, fun q hq => ?_⟩
  obtain ⟨j, u, e, g⟩ := so_prs_of ad _ 0 q hq
  rw [Nat.zero_add] at e
  subst e
  rcases so_st1_get g with ⟨e1, e2⟩ | ⟨e1, e2, e3⟩
  · subst e1; subst e2
    exact hs.2.2 _ List.mem_cons_self
  · refine hs.2.2 _ (List.mem_cons_of_mem _ (List.mem_filter.mpr ⟨?_, ?_⟩))
    · have h2 := so_prs_to ad ls 0 j u e2
      rw [Nat.zero_add] at h2
      exact h2
    · rw [so_cat]
      simp only [Bool.and_eq_true, Bool.not_eq_true', beq_eq_false_iff_ne, ne_eq, Bool.and_eq_false_iff]
      refine ⟨e1, ?_⟩
      by_cases z : j + 1 = i
      · exact Or.inr (fun w => e3 ⟨z, w⟩)
      · exact Or.inl z
theorem so_L.st2 {ad : Nat → Nat} {lsA lsB : Array Slot} {nL : Nat} {ls : ax_L} {i : Nat} {v : ax_V} (h : so_L ad lsA nL ls) (hs : lv_has lsB nL ((i, so_v ad v) :: (so_prs ad 0 ls).filter (fun q => !(q.1 == i) && (!(q.1 == i + 1) && !(q.1 + 1 == i && q.2.category == 2))))) : so_L ad lsB nL (ax_st2 ls i v) := by
  refine ⟨by rw [so_st2_len]; exact h.1, hs.1, hs.2.1, fun q hq => ?_⟩
  obtain ⟨j, u, e, g⟩ := so_prs_of ad _ 0 q hq
  rw [Nat.zero_add] at e
  subst e
  rcases so_st2_get g with ⟨e1, e2⟩ | ⟨e1, e0, e2, e3⟩
  · subst e1; subst e2
    exact hs.2.2 _ List.mem_cons_self
  · refine hs.2.2 _ (List.mem_cons_of_mem _ (List.mem_filter.mpr ⟨?_, ?_⟩))
    · have h2 := so_prs_to ad ls 0 j u e2
      rw [Nat.zero_add] at h2
      exact h2
    · rw [so_cat]
      simp only [Bool.and_eq_true, Bool.not_eq_true', beq_eq_false_iff_ne, ne_eq, Bool.and_eq_false_iff]
      refine ⟨e1, e0, ?_⟩
      by_cases z : j + 1 = i
      · exact Or.inr (fun w => e3 ⟨z, w⟩)
      · exact Or.inl z
theorem so_okL.st1 {ls : ax_L} {i : Nat} {v : ax_V} (h : so_okL ls) (hv : so_ok v) : so_okL (ax_st1 ls i v) := by
  intro j u g
  rcases so_st1_get g with ⟨-, e⟩ | ⟨-, e, -⟩
  · rw [e]; exact hv
  · exact h j u e
theorem so_okL.st2 {ls : ax_L} {i : Nat} {v : ax_V} (h : so_okL ls) (hv : so_ok v) : so_okL (ax_st2 ls i v) := by
  intro j u g
  rcases so_st2_get g with ⟨-, e⟩ | ⟨-, -, e, -⟩
  · rw [e]; exact hv
  · exact h j u e
theorem so_ld {ls : ax_L} {i : Nat} {v : ax_V} (h : ax_ld ls i = some v) : ls[i]? = some (some v) := by
  unfold ax_ld at h
  split at h
  · rename_i w e
    rw [e, Option.some.inj h]
  · cases h
/-! numbers -/
theorem so_w32 (z : Int) : (Int32.ofInt (ax_w32 z)) = Int32.ofInt z := by
  apply Int32.toInt_inj.mp
  simp [ax_w32, Int32.toInt_ofInt, Int32.size]
theorem so_w32_ok (z : Int) : (Int32.ofInt (ax_w32 z)).toInt = ax_w32 z := by
  rw [so_w32]
  simp [ax_w32, Int32.toInt_ofInt, Int32.size]
theorem so_w64 (z : Int) : (Int64.ofInt (ax_w64 z)) = Int64.ofInt z := by
  apply Int64.toInt_inj.mp
  simp [ax_w64, Int64.toInt_ofInt, Int64.size]
theorem so_w64_ok (z : Int) : (Int64.ofInt (ax_w64 z)).toInt = ax_w64 z := by
  rw [so_w64]
  simp [ax_w64, Int64.toInt_ofInt, Int64.size]
theorem so_oi (x : Int32) : Int32.ofInt x.toInt = x := Int32.ofInt_toInt x
theorem so_ol (x : Int64) : Int64.ofInt x.toInt = x := Int64.ofInt_toInt x
end
section
/-! AN INSTRUCTION WITHOUT HEAP AND JUMP. -/
theorem so_okS.cons {v : ax_V} {r : List ax_V} (h : so_ok v) (hr : so_okS r) : so_okS (v :: r) := fun w hw => by
  rcases List.mem_cons.mp hw with e | e
  · rw [e]; exact h
  · exact hr w e
theorem so_okS.hd {v : ax_V} {r : List ax_V} (h : so_okS (v :: r)) : so_ok v := h v List.mem_cons_self
theorem so_okS.tl {v : ax_V} {r : List ax_V} (h : so_okS (v :: r)) : so_okS r := fun w hw => h w (List.mem_cons_of_mem _ hw)
theorem so_i_ok (x : Int32) : so_ok (.inl x.toInt) := by show (Int32.ofInt x.toInt).toInt = x.toInt; rw [so_oi]
theorem so_l_ok (x : Int64) : so_ok (.inr (.inl x.toInt)) := by show (Int64.ofInt x.toInt).toInt = x.toInt; rw [so_ol]
section SOP
variable {p : Program} {l : Launch} {e : Env} {R : Room} {s : State} {m : MethodId} {args : Array Value} {below : List Frame} {meth : Method} {c : Code} {H : Heap} {locs : List Loc} {cells slots : Nat} {Q : State → Prop}
variable {cc : ByteArray} {pc nL : Nat} {lsA : Array Slot} {ls ls' : ax_L} {st st' : List ax_V} {ad : Nat → Nat}
theorem so_ii {f : Int → Int → Int} (F : Int32 → Int32 → Int32) (row : ∀ (rest : List Value) (x y : Int32), W p l e R s m args below meth c H locs cells slots Q (F0 m (pc + 1) lsA (.int (F x y) :: rest)) → W p l e R s m args below meth c H locs cells slots Q (F0 m pc lsA (.int y :: .int x :: rest)))
    (hf : ∀ x y : Int, Int32.ofInt (f x y) = F (Int32.ofInt x) (Int32.ofInt y)) (hr : ∀ x y : Int, (Int32.ofInt (f x y)).toInt = f x y) (hL : so_L ad lsA nL ls) (okL : so_okL ls) (okS : so_okS st) (h : ax_ii f ls st = some (ls', st'))
    (k : ∀ lsB : Array Slot, so_L ad lsB nL ls' → so_okL ls' → so_okS st' → W p l e R s m args below meth c H locs cells slots Q (F0 m (pc + 1) lsB (st'.map (so_v ad)))) : W p l e R s m args below meth c H locs cells slots Q (F0 m pc lsA (st.map (so_v ad))) := by
  unfold ax_ii at h
  split at h
  · rename_i y x r
    cases h
    refine row _ _ _ ?_
    rw [← hf]
    exact k lsA hL okL (so_okS.cons (hr x y) okS.tl.tl)
  · cases h
theorem so_ll {f : Int → Int → Int} (F : Int64 → Int64 → Int64) (row : ∀ (rest : List Value) (x y : Int64), W p l e R s m args below meth c H locs cells slots Q (F0 m (pc + 1) lsA (.long (F x y) :: rest)) → W p l e R s m args below meth c H locs cells slots Q (F0 m pc lsA (.long y :: .long x :: rest)))
    (hf : ∀ x y : Int, Int64.ofInt (f x y) = F (Int64.ofInt x) (Int64.ofInt y)) (hr : ∀ x y : Int, (Int64.ofInt (f x y)).toInt = f x y) (hL : so_L ad lsA nL ls) (okL : so_okL ls) (okS : so_okS st) (h : ax_ll f ls st = some (ls', st'))
    (k : ∀ lsB : Array Slot, so_L ad lsB nL ls' → so_okL ls' → so_okS st' → W p l e R s m args below meth c H locs cells slots Q (F0 m (pc + 1) lsB (st'.map (so_v ad)))) : W p l e R s m args below meth c H locs cells slots Q (F0 m pc lsA (st.map (so_v ad))) := by
  unfold ax_ll at h
  split at h
  · rename_i y x r
    cases h
    refine row _ _ _ ?_
    rw [← hf]
    exact k lsA hL okL (so_okS.cons (hr x y) okS.tl.tl)
  · cases h
theorem so_li {f : Int → Int → Int} (F : Int64 → Int32 → Int64) (row : ∀ (rest : List Value) (x : Int64) (y : Int32), W p l e R s m args below meth c H locs cells slots Q (F0 m (pc + 1) lsA (.long (F x y) :: rest)) → W p l e R s m args below meth c H locs cells slots Q (F0 m pc lsA (.int y :: .long x :: rest)))
    (hf : ∀ x y : Int, Int64.ofInt (f x y) = F (Int64.ofInt x) (Int32.ofInt y)) (hr : ∀ x y : Int, (Int64.ofInt (f x y)).toInt = f x y) (hL : so_L ad lsA nL ls) (okL : so_okL ls) (okS : so_okS st) (h : ax_li f ls st = some (ls', st'))
    (k : ∀ lsB : Array Slot, so_L ad lsB nL ls' → so_okL ls' → so_okS st' → W p l e R s m args below meth c H locs cells slots Q (F0 m (pc + 1) lsB (st'.map (so_v ad)))) : W p l e R s m args below meth c H locs cells slots Q (F0 m pc lsA (st.map (so_v ad))) := by
  unfold ax_li at h
  split at h
  · rename_i y x r
    cases h
    refine row _ _ _ ?_
    rw [← hf]
    exact k lsA hL okL (so_okS.cons (hr x y) okS.tl.tl)
  · cases h
theorem so_i1 {f : Int → ax_V} (F : Int32 → Value) (row : ∀ (rest : List Value) (x : Int32), W p l e R s m args below meth c H locs cells slots Q (F0 m (pc + 1) lsA (F x :: rest)) → W p l e R s m args below meth c H locs cells slots Q (F0 m pc lsA (.int x :: rest)))
    (hf : ∀ x : Int, (Int32.ofInt x).toInt = x → so_v ad (f x) = F (Int32.ofInt x) ∧ so_ok (f x)) (hL : so_L ad lsA nL ls) (okL : so_okL ls) (okS : so_okS st) (h : ax_i1 f ls st = some (ls', st'))
    (k : ∀ lsB : Array Slot, so_L ad lsB nL ls' → so_okL ls' → so_okS st' → W p l e R s m args below meth c H locs cells slots Q (F0 m (pc + 1) lsB (st'.map (so_v ad)))) : W p l e R s m args below meth c H locs cells slots Q (F0 m pc lsA (st.map (so_v ad))) := by
  unfold ax_i1 at h
  split at h
  · rename_i x r
    cases h
    refine row _ _ ?_
    rw [← (hf x okS.hd).1]
    exact k lsA hL okL (so_okS.cons (hf x okS.hd).2 okS.tl)
  · cases h
theorem so_l1 {f : Int → ax_V} (F : Int64 → Value) (row : ∀ (rest : List Value) (x : Int64), W p l e R s m args below meth c H locs cells slots Q (F0 m (pc + 1) lsA (F x :: rest)) → W p l e R s m args below meth c H locs cells slots Q (F0 m pc lsA (.long x :: rest)))
    (hf : ∀ x : Int, (Int64.ofInt x).toInt = x → so_v ad (f x) = F (Int64.ofInt x) ∧ so_ok (f x)) (hL : so_L ad lsA nL ls) (okL : so_okL ls) (okS : so_okS st) (h : ax_l1 f ls st = some (ls', st'))
    (k : ∀ lsB : Array Slot, so_L ad lsB nL ls' → so_okL ls' → so_okS st' → W p l e R s m args below meth c H locs cells slots Q (F0 m (pc + 1) lsB (st'.map (so_v ad)))) : W p l e R s m args below meth c H locs cells slots Q (F0 m pc lsA (st.map (so_v ad))) := by
  unfold ax_l1 at h
  split at h
  · rename_i x r
    cases h
    refine row _ _ ?_
    rw [← (hf x okS.hd).1]
    exact k lsA hL okL (so_okS.cons (hf x okS.hd).2 okS.tl)
  · cases h
theorem so_iload {i n : Nat} (row : ∀ (rest : List Value) (x : Int32), lsA[i]? = some (.val (.int x)) → W p l e R s m args below meth c H locs cells slots Q (F0 m (pc + n) lsA (.int x :: rest)) → W p l e R s m args below meth c H locs cells slots Q (F0 m pc lsA rest))
    (hL : so_L ad lsA nL ls) (okL : so_okL ls) (okS : so_okS st) (h : ax_iload ls st i = some (ls', st'))
    (k : ∀ lsB : Array Slot, so_L ad lsB nL ls' → so_okL ls' → so_okS st' → W p l e R s m args below meth c H locs cells slots Q (F0 m (pc + n) lsB (st'.map (so_v ad)))) : W p l e R s m args below meth c H locs cells slots Q (F0 m pc lsA (st.map (so_v ad))) := by
  unfold ax_iload at h
  split at h
  · rename_i x g
    cases h
    exact row _ _ (hL.get (so_ld g)) (k lsA hL okL (so_okS.cons (okL _ _ (so_ld g)) okS))
  · cases h
theorem so_lload {i n : Nat} (row : ∀ (rest : List Value) (x : Int64), lsA[i]? = some (.val (.long x)) → W p l e R s m args below meth c H locs cells slots Q (F0 m (pc + n) lsA (.long x :: rest)) → W p l e R s m args below meth c H locs cells slots Q (F0 m pc lsA rest))
    (hL : so_L ad lsA nL ls) (okL : so_okL ls) (okS : so_okS st) (h : ax_lload ls st i = some (ls', st'))
    (k : ∀ lsB : Array Slot, so_L ad lsB nL ls' → so_okL ls' → so_okS st' → W p l e R s m args below meth c H locs cells slots Q (F0 m (pc + n) lsB (st'.map (so_v ad)))) : W p l e R s m args below meth c H locs cells slots Q (F0 m pc lsA (st.map (so_v ad))) := by
  unfold ax_lload at h
  split at h
  · rename_i x g
    cases h
    exact row _ _ (hL.get (so_ld g)) (k lsA hL okL (so_okS.cons (okL _ _ (so_ld g)) okS))
  · cases h
theorem so_aload {i n : Nat} (row : ∀ (rest : List Value) (x : Nat), lsA[i]? = some (.val (.ref x)) → W p l e R s m args below meth c H locs cells slots Q (F0 m (pc + n) lsA (.ref x :: rest)) → W p l e R s m args below meth c H locs cells slots Q (F0 m pc lsA rest))
    (rowN : ∀ (rest : List Value), lsA[i]? = some (.val .null) → W p l e R s m args below meth c H locs cells slots Q (F0 m (pc + n) lsA (.null :: rest)) → W p l e R s m args below meth c H locs cells slots Q (F0 m pc lsA rest))
    (hL : so_L ad lsA nL ls) (okL : so_okL ls) (okS : so_okS st) (h : ax_aload ls st i = some (ls', st'))
    (k : ∀ lsB : Array Slot, so_L ad lsB nL ls' → so_okL ls' → so_okS st' → W p l e R s m args below meth c H locs cells slots Q (F0 m (pc + n) lsB (st'.map (so_v ad)))) : W p l e R s m args below meth c H locs cells slots Q (F0 m pc lsA (st.map (so_v ad))) := by
  unfold ax_aload at h
  split at h
  · rename_i x g
    cases h
    cases x with
    | none => exact rowN _ (hL.get (so_ld g)) (k lsA hL okL (so_okS.cons trivial okS))
    | some x => exact row _ _ (hL.get (so_ld g)) (k lsA hL okL (so_okS.cons trivial okS))
  · cases h
theorem so_istore {i n : Nat} (row : ∀ (rest : List Value) (x : Int32) (lv' : List (Nat × Value)), i < nL → (i, Value.int x) :: (so_prs ad 0 ls).filter (fun q => !(q.1 == i) && !(q.1 + 1 == i && q.2.category == 2)) = lv' → (∀ ls' : Array Slot, lv_has ls' nL lv' → W p l e R s m args below meth c H locs cells slots Q (F0 m (pc + n) ls' rest)) → W p l e R s m args below meth c H locs cells slots Q (F0 m pc lsA (.int x :: rest)))
    (hL : so_L ad lsA nL ls) (okL : so_okL ls) (okS : so_okS st) (h : ax_istore ls st i = some (ls', st'))
    (k : ∀ lsB : Array Slot, so_L ad lsB nL ls' → so_okL ls' → so_okS st' → W p l e R s m args below meth c H locs cells slots Q (F0 m (pc + n) lsB (st'.map (so_v ad)))) : W p l e R s m args below meth c H locs cells slots Q (F0 m pc lsA (st.map (so_v ad))) := by
  unfold ax_istore at h
  split at h
  · rename_i x r
    split at h
    · rename_i hi
      cases h
      exact row _ _ _ (by rw [← hL.1]; exact hi) rfl (fun lsB hB => k lsB (hL.st1 (v := .inl x) hB) (okL.st1 okS.hd) okS.tl)
    · cases h
  · cases h
theorem so_lstore {i n : Nat} (row : ∀ (rest : List Value) (x : Int64) (lv' : List (Nat × Value)), i + 1 < nL → (i, Value.long x) :: (so_prs ad 0 ls).filter (fun q => !(q.1 == i) && (!(q.1 == i + 1) && !(q.1 + 1 == i && q.2.category == 2))) = lv' → (∀ ls' : Array Slot, lv_has ls' nL lv' → W p l e R s m args below meth c H locs cells slots Q (F0 m (pc + n) ls' rest)) → W p l e R s m args below meth c H locs cells slots Q (F0 m pc lsA (.long x :: rest)))
    (hL : so_L ad lsA nL ls) (okL : so_okL ls) (okS : so_okS st) (h : ax_lstore ls st i = some (ls', st'))
    (k : ∀ lsB : Array Slot, so_L ad lsB nL ls' → so_okL ls' → so_okS st' → W p l e R s m args below meth c H locs cells slots Q (F0 m (pc + n) lsB (st'.map (so_v ad)))) : W p l e R s m args below meth c H locs cells slots Q (F0 m pc lsA (st.map (so_v ad))) := by
  unfold ax_lstore at h
  split at h
  · rename_i x r
    split at h
    · rename_i hi
      cases h
      exact row _ _ _ (by rw [← hL.1]; exact hi) rfl (fun lsB hB => k lsB (hL.st2 (v := .inr (.inl x)) hB) (okL.st2 okS.hd) okS.tl)
    · cases h
  · cases h
theorem so_astore {i n : Nat} (row : ∀ (rest : List Value) (x : Nat) (lv' : List (Nat × Value)), i < nL → (i, Value.ref x) :: (so_prs ad 0 ls).filter (fun q => !(q.1 == i) && !(q.1 + 1 == i && q.2.category == 2)) = lv' → (∀ ls' : Array Slot, lv_has ls' nL lv' → W p l e R s m args below meth c H locs cells slots Q (F0 m (pc + n) ls' rest)) → W p l e R s m args below meth c H locs cells slots Q (F0 m pc lsA (.ref x :: rest)))
    (rowN : ∀ (rest : List Value) (lv' : List (Nat × Value)), i < nL → (i, Value.null) :: (so_prs ad 0 ls).filter (fun q => !(q.1 == i) && !(q.1 + 1 == i && q.2.category == 2)) = lv' → (∀ ls' : Array Slot, lv_has ls' nL lv' → W p l e R s m args below meth c H locs cells slots Q (F0 m (pc + n) ls' rest)) → W p l e R s m args below meth c H locs cells slots Q (F0 m pc lsA (.null :: rest)))
    (hL : so_L ad lsA nL ls) (okL : so_okL ls) (okS : so_okS st) (h : ax_astore ls st i = some (ls', st'))
    (k : ∀ lsB : Array Slot, so_L ad lsB nL ls' → so_okL ls' → so_okS st' → W p l e R s m args below meth c H locs cells slots Q (F0 m (pc + n) lsB (st'.map (so_v ad)))) : W p l e R s m args below meth c H locs cells slots Q (F0 m pc lsA (st.map (so_v ad))) := by
  unfold ax_astore at h
  split at h
  · rename_i x r
    split at h
    · rename_i hi
      cases h
      cases x with
      | none => exact rowN _ _ (by rw [← hL.1]; exact hi) rfl (fun lsB hB => k lsB (hL.st1 (v := .inr (.inr none)) hB) (okL.st1 trivial) okS.tl)
      | some x => exact row _ _ _ (by rw [← hL.1]; exact hi) rfl (fun lsB hB => k lsB (hL.st1 (v := .inr (.inr (some x))) hB) (okL.st1 trivial) okS.tl)
    · cases h
  · cases h
end SOP
end
section
/-! ANY INSTRUCTION WITHOUT HEAP AND JUMP; any jump. -/
theorem so_cmp {x y : Int} (hx : (Int64.ofInt x).toInt = x) (hy : (Int64.ofInt y).toInt = y) : Int32.ofInt (ax_cmp x y) = lg_cmp (Int64.ofInt x) (Int64.ofInt y) := by
  unfold ax_cmp lg_cmp
  simp only [gt_iff_lt, Int64.lt_iff_toInt_lt, ← Int64.toInt_inj, hx, hy]
  split
  · rfl
  · split <;> rfl
theorem so_cmp_ok (x y : Int) : so_ok (.inl (ax_cmp x y)) := by
  unfold ax_cmp
  split
  · rfl
  · split <;> rfl
theorem so_lc : ∀ n : Fin 2, Int64.ofNat (n : Nat) = Int64.ofInt ((n.val : Nat) : Int) ∧ (Int64.ofInt ((n.val : Nat) : Int)).toInt = ((n.val : Nat) : Int) := by decide
theorem so_bp {n : Int} (h : (Int8.ofInt n).toInt32.toInt = n) : (Int8.ofInt n).toInt32 = Int32.ofInt n := by
  have e := so_oi (Int8.ofInt n).toInt32
  rw [h] at e
  exact e.symm
theorem so_sp {n : Int} (h : (Int16.ofInt n).toInt32.toInt = n) : (Int16.ofInt n).toInt32 = Int32.ofInt n := by
  have e := so_oi (Int16.ofInt n).toInt32
  rw [h] at e
  exact e.symm
theorem so_add32 (x y : Int) : Int32.ofInt (ax_w32 (x + y)) = Int32.ofInt x + Int32.ofInt y := by rw [so_w32, Int32.ofInt_add]
theorem so_sub32 (x y : Int) : Int32.ofInt (ax_w32 (x - y)) = Int32.ofInt x - Int32.ofInt y := by rw [so_w32, Int32.ofInt_sub]
theorem so_mul32 (x y : Int) : Int32.ofInt (ax_w32 (x * y)) = Int32.ofInt x * Int32.ofInt y := by rw [so_w32, Int32.ofInt_mul]
theorem so_neg32 (x : Int) : Int32.ofInt (ax_w32 (-x)) = -Int32.ofInt x := by rw [so_w32, Int32.ofInt_neg]
theorem so_add64 (x y : Int) : Int64.ofInt (ax_w64 (x + y)) = Int64.ofInt x + Int64.ofInt y := by rw [so_w64, Int64.ofInt_add]
theorem so_sub64 (x y : Int) : Int64.ofInt (ax_w64 (x - y)) = Int64.ofInt x - Int64.ofInt y := by rw [so_w64, Int64.ofInt_sub]
theorem so_mul64 (x y : Int) : Int64.ofInt (ax_w64 (x * y)) = Int64.ofInt x * Int64.ofInt y := by rw [so_w64, Int64.ofInt_mul]
theorem so_neg64 (x : Int) : Int64.ofInt (ax_w64 (-x)) = -Int64.ofInt x := by rw [so_w64, Int64.ofInt_neg]
theorem so_i2l {x : Int} (h : (Int32.ofInt x).toInt = x) : (Int32.ofInt x).toInt64 = Int64.ofInt x ∧ (Int64.ofInt x).toInt = x := by
  have e : (Int32.ofInt x).toInt64.toInt = x := by rw [Int32.toInt_toInt64]; exact h
  have e2 := so_ol (Int32.ofInt x).toInt64
  rw [e] at e2
  exact ⟨e2.symm, by rw [e2]; exact e⟩
theorem so_l2i {x : Int} (h : (Int64.ofInt x).toInt = x) : Int32.ofInt (ax_w32 x) = (Int64.ofInt x).toInt32 := by
  rw [so_w32]
  apply Int32.toInt_inj.mp
  rw [Int64.toInt_toInt32, h, Int32.toInt_ofInt]
theorem so_i2b {x : Int} (h : (Int32.ofInt x).toInt = x) : (Int32.ofInt x).toInt8.toInt32 = Int32.ofInt (ax_w8 x) ∧ (Int32.ofInt (ax_w8 x)).toInt = ax_w8 x := by
  have e : (Int32.ofInt x).toInt8.toInt32.toInt = ax_w8 x := by rw [Int8.toInt_toInt32, Int32.toInt_toInt8, h]; rfl
  have e2 := so_oi (Int32.ofInt x).toInt8.toInt32
  rw [e] at e2
  exact ⟨e2.symm, by rw [e2]; exact e⟩
theorem so_i2s {x : Int} (h : (Int32.ofInt x).toInt = x) : (Int32.ofInt x).toInt16.toInt32 = Int32.ofInt (ax_w16 x) ∧ (Int32.ofInt (ax_w16 x)).toInt = ax_w16 x := by
  have e : (Int32.ofInt x).toInt16.toInt32.toInt = ax_w16 x := by rw [Int16.toInt_toInt32, Int32.toInt_toInt16, h]; rfl
  have e2 := so_oi (Int32.ofInt x).toInt16.toInt32
  rw [e] at e2
  exact ⟨e2.symm, by rw [e2]; exact e⟩
theorem so_i2c {x : Int} (h : (Int32.ofInt x).toInt = x) : ((Int32.ofInt x).toUInt32 % 65536).toInt32 = Int32.ofInt (ax_u16 x) ∧ (Int32.ofInt (ax_u16 x)).toInt = ax_u16 x := by
  have e0 : (Int32.ofInt x).toBitVec.toInt = x := h
  have e1 : ((Int32.ofInt x).toBitVec.toNat : Int) % 65536 = x % 65536 := by
    have := BitVec.toInt_eq_toNat_cond (Int32.ofInt x).toBitVec
    rw [e0] at this
    split at this <;> omega
  have e : ((Int32.ofInt x).toUInt32 % 65536).toInt32.toInt = ax_u16 x := by
    rw [pk_char]
    unfold ax_u16
    have hl : (Int32.ofInt x).toBitVec.toNat % 65536 < 2 ^ 31 := by omega
    rw [nI_toInt hl]
    omega
  have e2 := so_oi ((Int32.ofInt x).toUInt32 % 65536).toInt32
  rw [e] at e2
  exact ⟨e2.symm, by rw [e2]; exact e⟩
section SOQ
variable {p : Program} {l : Launch} {e : Env} {R : Room} {s : State} {m : MethodId} {args : Array Value} {below : List Frame} {meth : Method} {c : Code} {H : Heap} {locs : List Loc} {cells slots : Nat} {Q : State → Prop}
variable {cc : ByteArray} {pc nL : Nat} {lsA : Array Slot} {ls ls' : ax_L} {st st' : List ax_V} {ad : Nat → Nat}
theorem so_iinc {i : Nat} {n : Int} (hexec : p.tables.exec = Jvm.exec) (hb : c.code = cc) (hdg : decode cc pc = .ok (.iinc i n, 3)) (hL : so_L ad lsA nL ls) (okL : so_okL ls) (okS : so_okS st) (h : ax_iinc ls st i n = some (ls', st'))
    (k : ∀ lsB : Array Slot, so_L ad lsB nL ls' → so_okL ls' → so_okS st' → W p l e R s m args below meth c H locs cells slots Q (F0 m (pc + 3) lsB (st'.map (so_v ad)))) : W p l e R s m args below meth c H locs cells slots Q (F0 m pc lsA (st.map (so_v ad))) := by
  unfold ax_iinc at h
  split at h
  · rename_i x g
    cases h
    have g1 := so_ld g
    have g2 := so_prs_to ad ls 0 i (.inl x) g1
    rw [Nat.zero_add] at g2
    obtain ⟨kk, hk⟩ := List.getElem?_of_mem g2
    have hi : i < nL := by rw [← hL.1]; exact (List.getElem?_eq_some_iff.mp g1).1
    exact lv_iinc hexec hb hdg hL.2 hk (so_add32 x n).symm hi rfl (fun lsB hB => k lsB (hL.st1 (v := .inl (ax_w32 (x + n))) hB) (okL.st1 (so_w32_ok _)) okS)
  · cases h
set_option maxHeartbeats 4000000 in
theorem so_pure {i : Instr} (hexec : p.tables.exec = Jvm.exec) (hb : c.code = cc) (hdg : decode cc pc = .ok (i, ax_len i)) (hf : ax_fine i = true) (hL : so_L ad lsA nL ls) (okL : so_okL ls) (okS : so_okS st) (h : ax_pure i ls st = some (ls', st'))
    (k : ∀ lsB : Array Slot, so_L ad lsB nL ls' → so_okL ls' → so_okS st' → W p l e R s m args below meth c H locs cells slots Q (F0 m (pc + ax_len i) lsB (st'.map (so_v ad)))) : W p l e R s m args below meth c H locs cells slots Q (F0 m pc lsA (st.map (so_v ad))) := by
  cases i with
  | iconst n =>
    have hn : (Int32.ofInt n).toInt = n := of_decide_eq_true hf
    cases h
    exact lv_iconst hexec hb hdg rfl (k lsA hL okL (so_okS.cons hn okS))
  | bipush n =>
    have hn : (Int8.ofInt n).toInt32.toInt = n := of_decide_eq_true hf
    cases h
    exact lv_bipush hexec hb hdg (so_bp hn) (k lsA hL okL (so_okS.cons (by show (Int32.ofInt n).toInt = n; rw [← so_bp hn]; exact hn) okS))
  | sipush n =>
    have hn : (Int16.ofInt n).toInt32.toInt = n := of_decide_eq_true hf
    cases h
    exact lv_sipush hexec hb hdg (so_sp hn) (k lsA hL okL (so_okS.cons (by show (Int32.ofInt n).toInt = n; rw [← so_sp hn]; exact hn) okS))
  | lconst n =>
    cases h
    exact lv_lconst hexec hb hdg (so_lc n).1 (k lsA hL okL (so_okS.cons (so_lc n).2 okS))
  | aconst_null =>
    cases h
    exact lv_null hexec hb hdg (k lsA hL okL (so_okS.cons trivial okS))
  | iload j => exact so_iload (n := 2) (fun rest x hx kk => lv_iload hexec hb hdg hx kk) hL okL okS h k
  | iload_n j => exact so_iload (n := 1) (fun rest x hx kk => lv_iload_n hexec hb hdg rfl hx kk) hL okL okS h k
  | lload j => exact so_lload (n := 2) (fun rest x hx kk => lv_lload hexec hb hdg hx kk) hL okL okS h k
  | lload_n j => exact so_lload (n := 1) (fun rest x hx kk => lv_lload_n hexec hb hdg rfl hx kk) hL okL okS h k
  | aload j => exact so_aload (n := 2) (fun rest x hx kk => lv_aload hexec hb hdg hx kk) (fun rest hx kk => lv_aloadN hexec hb hdg hx kk) hL okL okS h k
  | aload_n j => exact so_aload (n := 1) (fun rest x hx kk => lv_aload_n hexec hb hdg rfl hx kk) (fun rest hx kk => lv_aload_nN hexec hb hdg rfl hx kk) hL okL okS h k
  | istore j => exact so_istore (n := 2) (fun rest x lv hi hl kk => lv_istore hexec hb hdg hL.2 hi hl kk) hL okL okS h k
  | istore_n j => exact so_istore (n := 1) (fun rest x lv hi hl kk => lv_istore_n hexec hb hdg rfl hL.2 hi hl kk) hL okL okS h k
  | lstore j => exact so_lstore (n := 2) (fun rest x lv hi hl kk => lv_lstore hexec hb hdg hL.2 hi hl kk) hL okL okS h k
  | lstore_n j => exact so_lstore (n := 1) (fun rest x lv hi hl kk => lv_lstore_n hexec hb hdg rfl hL.2 hi hl kk) hL okL okS h k
  | astore j => exact so_astore (n := 2) (fun rest x lv hi hl kk => lv_astore hexec hb hdg hL.2 hi hl kk) (fun rest lv hi hl kk => lv_astoreN hexec hb hdg hL.2 hi hl kk) hL okL okS h k
  | astore_n j => exact so_astore (n := 1) (fun rest x lv hi hl kk => lv_astore_n hexec hb hdg rfl hL.2 hi hl kk) (fun rest lv hi hl kk => lv_astore_nN hexec hb hdg rfl hL.2 hi hl kk) hL okL okS h k
  | iinc j n => exact so_iinc hexec hb hdg hL okL okS h k
  | iadd => exact so_ii (fun x y => x + y) (fun rest x y kk => lv_iadd hexec hb hdg kk) so_add32 (fun x y => so_w32_ok _) hL okL okS h k
  | isub => exact so_ii (fun x y => x - y) (fun rest x y kk => lv_isub hexec hb hdg kk) so_sub32 (fun x y => so_w32_ok _) hL okL okS h k
  | imul => exact so_ii (fun x y => x * y) (fun rest x y kk => lv_imul hexec hb hdg kk) so_mul32 (fun x y => so_w32_ok _) hL okL okS h k
  | iand => exact so_ii (fun x y => x &&& y) (fun rest x y kk => lv_iand hexec hb hdg kk) (fun x y => so_oi _) (fun x y => so_i_ok _) hL okL okS h k
  | ior => exact so_ii (fun x y => x ||| y) (fun rest x y kk => lv_ior hexec hb hdg kk) (fun x y => so_oi _) (fun x y => so_i_ok _) hL okL okS h k
  | ixor => exact so_ii (fun x y => x ^^^ y) (fun rest x y kk => lv_ixor hexec hb hdg kk) (fun x y => so_oi _) (fun x y => so_i_ok _) hL okL okS h k
  | ishl => exact so_ii (fun x y => x <<< (y &&& 31)) (fun rest x y kk => lv_ishl hexec hb hdg kk) (fun x y => so_oi _) (fun x y => so_i_ok _) hL okL okS h k
  | ishr => exact so_ii (fun x y => x >>> (y &&& 31)) (fun rest x y kk => lv_ishr hexec hb hdg kk) (fun x y => so_oi _) (fun x y => so_i_ok _) hL okL okS h k
  | iushr => exact so_ii (fun x y => (x.toUInt32 >>> (y.toUInt32 &&& Int32.toUInt32 31)).toInt32) (fun rest x y kk => lv_iushr hexec hb hdg rfl kk) (fun x y => so_oi _) (fun x y => so_i_ok _) hL okL okS h k
  | ineg => exact so_i1 (f := fun x => .inl (ax_w32 (-x))) (fun x => .int (-x)) (fun rest x kk => lv_ineg hexec hb hdg kk) (fun x _ => ⟨congrArg Value.int (so_neg32 x), so_w32_ok _⟩) hL okL okS h k
  | ladd => exact so_ll (fun x y => x + y) (fun rest x y kk => lv_ladd hexec hb hdg kk) so_add64 (fun x y => so_w64_ok _) hL okL okS h k
  | lsub => exact so_ll (fun x y => x - y) (fun rest x y kk => lv_lsub hexec hb hdg kk) so_sub64 (fun x y => so_w64_ok _) hL okL okS h k
  | lmul => exact so_ll (fun x y => x * y) (fun rest x y kk => lv_lmul hexec hb hdg kk) so_mul64 (fun x y => so_w64_ok _) hL okL okS h k
  | land => exact so_ll (fun x y => x &&& y) (fun rest x y kk => lv_land hexec hb hdg kk) (fun x y => so_ol _) (fun x y => so_l_ok _) hL okL okS h k
  | lor => exact so_ll (fun x y => x ||| y) (fun rest x y kk => lv_lor hexec hb hdg kk) (fun x y => so_ol _) (fun x y => so_l_ok _) hL okL okS h k
  | lxor => exact so_ll (fun x y => x ^^^ y) (fun rest x y kk => lv_lxor hexec hb hdg kk) (fun x y => so_ol _) (fun x y => so_l_ok _) hL okL okS h k
  | lneg => exact so_l1 (f := fun x => .inr (.inl (ax_w64 (-x)))) (fun x => .long (-x)) (fun rest x kk => lv_lneg hexec hb hdg kk) (fun x _ => ⟨congrArg Value.long (so_neg64 x), so_w64_ok _⟩) hL okL okS h k
  | lshl => exact so_li (fun x y => x <<< (y.toInt64 &&& 63)) (fun rest x y kk => lv_lshl hexec hb hdg rfl kk) (fun x y => so_ol _) (fun x y => so_l_ok _) hL okL okS h k
  | lshr => exact so_li (fun x y => x >>> (y.toInt64 &&& 63)) (fun rest x y kk => lv_lshr hexec hb hdg rfl kk) (fun x y => so_ol _) (fun x y => so_l_ok _) hL okL okS h k
  | lushr => exact so_li (fun x y => (x.toUInt64 >>> (y.toInt64.toUInt64 &&& Int64.toUInt64 63)).toInt64) (fun rest x y kk => lv_lushr hexec hb hdg rfl kk) (fun x y => so_ol _) (fun x y => so_l_ok _) hL okL okS h k
  | i2l => exact so_i1 (f := fun x => .inr (.inl x)) (fun x => .long x.toInt64) (fun rest x kk => lv_i2l hexec hb hdg rfl kk) (fun x hx => ⟨congrArg Value.long (so_i2l hx).1.symm, (so_i2l hx).2⟩) hL okL okS h k
  | l2i => exact so_l1 (f := fun x => .inl (ax_w32 x)) (fun x => .int x.toInt32) (fun rest x kk => lv_l2i hexec hb hdg rfl kk) (fun x hx => ⟨congrArg Value.int (so_l2i hx), so_w32_ok _⟩) hL okL okS h k
  | i2b => exact so_i1 (f := fun x => .inl (ax_w8 x)) (fun x => .int x.toInt8.toInt32) (fun rest x kk => lv_i2b hexec hb hdg rfl kk) (fun x hx => ⟨congrArg Value.int (so_i2b hx).1.symm, (so_i2b hx).2⟩) hL okL okS h k
  | i2s => exact so_i1 (f := fun x => .inl (ax_w16 x)) (fun x => .int x.toInt16.toInt32) (fun rest x kk => lv_i2s hexec hb hdg rfl kk) (fun x hx => ⟨congrArg Value.int (so_i2s hx).1.symm, (so_i2s hx).2⟩) hL okL okS h k
  | i2c => exact so_i1 (f := fun x => .inl (ax_u16 x)) (fun x => .int (x.toUInt32 % 65536).toInt32) (fun rest x kk => lv_i2c hexec hb hdg rfl kk) (fun x hx => ⟨congrArg Value.int (so_i2c hx).1.symm, (so_i2c hx).2⟩) hL okL okS h k
  | lcmp =>
    dsimp only [ax_pure] at h
    split at h
    · rename_i y x r
      cases h
      refine W.lcmp hexec hb hdg ?_
      rw [← so_cmp okS.tl.hd okS.hd]
      exact k lsA hL okL (so_okS.cons (so_cmp_ok x y) okS.tl.tl)
    · cases h
  | dup =>
    dsimp only [ax_pure] at h
    split at h
    · split at h
      · rename_i a r g
        cases h
        exact lv_dup hexec hb hdg (by rw [so_cat]; exact g) (k lsA hL okL (so_okS.cons okS.hd okS))
      · cases h
    · cases h
  | pop =>
    dsimp only [ax_pure] at h
    split at h
    · split at h
      · rename_i a r g
        cases h
        exact lv_pop hexec hb hdg (by rw [so_cat]; exact g) (k lsA hL okL okS.tl)
      · cases h
    · cases h
  | dup_x1 =>
    dsimp only [ax_pure] at h
    split at h
    · split at h
      · rename_i a b r g
        cases h
        exact lv_dup_x1 hexec hb hdg (by rw [so_cat]; exact g.1) (by rw [so_cat]; exact g.2) (k lsA hL okL (so_okS.cons okS.hd (so_okS.cons okS.tl.hd (so_okS.cons okS.hd okS.tl.tl))))
      · cases h
    · cases h
  | dup_x2 =>
    dsimp only [ax_pure] at h
    split at h
    · split at h
      · rename_i a b d r g
        cases h
        exact lv_dup_x2 hexec hb hdg (by rw [so_cat]; exact g.1) (by rw [so_cat]; exact g.2.1) (by rw [so_cat]; exact g.2.2) (k lsA hL okL (so_okS.cons okS.hd (so_okS.cons okS.tl.hd (so_okS.cons okS.tl.tl.hd (so_okS.cons okS.hd okS.tl.tl.tl)))))
      · cases h
    · cases h
  | dup2 =>
    dsimp only [ax_pure] at h
    split at h
    · split at h
      · rename_i a b r g
        cases h
        exact lv_dup2_11 hexec hb hdg (by rw [so_cat]; exact g.1) (by rw [so_cat]; exact g.2) (k lsA hL okL (so_okS.cons okS.hd (so_okS.cons okS.tl.hd okS)))
      · cases h
    · cases h
  | idiv =>
    dsimp only [ax_pure] at h
    split at h
    · rename_i y x r
      split at h
      · cases h
      · rename_i g
        cases h
        refine lv_idiv hexec hb hdg (fun z => g ?_) ?_
        · have hy := okS.hd
          have hy : (Int32.ofInt y).toInt = y := hy
          rw [z] at hy
          exact hy.symm
        · have e1 : Int32.ofInt (ax_idiv x y) = Int32.ofInt x / Int32.ofInt y := so_oi _
          rw [← e1]
          exact k lsA hL okL (so_okS.cons (so_i_ok _) okS.tl.tl)
    · cases h
  | irem =>
    dsimp only [ax_pure] at h
    split at h
    · rename_i y x r
      split at h
      · cases h
      · rename_i g
        cases h
        refine lv_irem hexec hb hdg (fun z => g ?_) ?_
        · have hy := okS.hd
          have hy : (Int32.ofInt y).toInt = y := hy
          rw [z] at hy
          exact hy.symm
        · have e1 : Int32.ofInt (ax_irem x y) = Int32.ofInt x - Int32.ofInt x / Int32.ofInt y * Int32.ofInt y := so_oi _
          rw [← e1]
          exact k lsA hL okL (so_okS.cons (so_i_ok _) okS.tl.tl)
    · cases h
  | ldiv =>
    dsimp only [ax_pure] at h
    split at h
    · rename_i y x r
      split at h
      · cases h
      · rename_i g
        cases h
        refine lv_ldiv hexec hb hdg (fun z => g ?_) ?_
        · have hy := okS.hd
          have hy : (Int64.ofInt y).toInt = y := hy
          rw [z] at hy
          exact hy.symm
        · have e1 : Int64.ofInt (ax_ldiv x y) = Int64.ofInt x / Int64.ofInt y := so_ol _
          rw [← e1]
          exact k lsA hL okL (so_okS.cons (so_l_ok _) okS.tl.tl)
    · cases h
  | lrem =>
    dsimp only [ax_pure] at h
    split at h
    · rename_i y x r
      split at h
      · cases h
      · rename_i g
        cases h
        refine lv_lrem hexec hb hdg (fun z => g ?_) ?_
        · have hy := okS.hd
          have hy : (Int64.ofInt y).toInt = y := hy
          rw [z] at hy
          exact hy.symm
        · have e1 : Int64.ofInt (ax_lrem x y) = Int64.ofInt x - Int64.ofInt x / Int64.ofInt y * Int64.ofInt y := so_ol _
          rw [← e1]
          exact k lsA hL okL (so_okS.cons (so_l_ok _) okS.tl.tl)
    · cases h
  | _ => exact absurd h (by simp [ax_pure])

end SOQ
end
section
/-! ANY JUMP. -/
def ax_sw (i : Instr) : Bool := match i with
  | .tableswitch _ _ _ _ => true
  | .lookupswitch _ _ => true
  | _ => false
/-- no jump goes below 0 -/
def ax_jok (i : Instr) (pc : Nat) : Bool := match i with
  | .goto off => decide (0 ≤ (pc : Int) + off)
  | .ifCond _ off => decide (0 ≤ (pc : Int) + off)
  | .if_icmp _ off => decide (0 ≤ (pc : Int) + off)
  | .ifnull off => decide (0 ≤ (pc : Int) + off)
  | .ifnonnull off => decide (0 ≤ (pc : Int) + off)
  | .tableswitch d _ _ offs => decide (0 ≤ (pc : Int) + d) && offs.toList.all (fun off => decide (0 ≤ (pc : Int) + off))
  | .lookupswitch d ps => decide (0 ≤ (pc : Int) + d) && ps.toList.all (fun q => decide (0 ≤ (pc : Int) + q.2))
  | _ => true
theorem so_to {pc : Nat} {off : Int} (h : 0 ≤ (pc : Int) + off) : (pc : Int) + off = ((ax_to pc off : Nat) : Int) := by
  unfold ax_to
  omega
theorem so_offs (d : Int) (k : Int) (P : Int → Prop) (hd : P d) : ∀ l : List (Int × Int), (∀ q ∈ l, P q.2) → P (Op.lookupswitch.offset l d k) := by
  intro l
  induction l with
  | nil => intro _; exact hd
  | cons a r ih =>
    intro h
    obtain ⟨a1, a2⟩ := a
    rw [Op.lookupswitch.offset_cons]
    split
    · exact h _ List.mem_cons_self
    · exact ih (fun q hq => h q (List.mem_cons_of_mem _ hq))
section SOJ
variable {p : Program} {l : Launch} {e : Env} {R : Room} {s : State} {m : MethodId} {args : Array Value} {below : List Frame} {meth : Method} {c : Code} {H : Heap} {locs : List Loc} {cells slots : Nat} {Q : State → Prop}
variable {cc : ByteArray} {pc pc' nL : Nat} {lsA : Array Slot} {st st' : List ax_V} {ad : Nat → Nat}
theorem so_jif {t : Prop} [Decidable t] {off : Int} {r : List ax_V} (h : ax_jif t pc off r = some (pc', st')) (okS : so_okS r) (k : so_okS st' → W p l e R s m args below meth c H locs cells slots Q (F0 m pc' lsA (st'.map (so_v ad)))) :
    (t → W p l e R s m args below meth c H locs cells slots Q (F0 m (ax_to pc off) lsA (r.map (so_v ad)))) ∧ (¬ t → W p l e R s m args below meth c H locs cells slots Q (F0 m (pc + 3) lsA (r.map (so_v ad)))) := by
  unfold ax_jif at h
  constructor
  · intro ht
    rw [if_pos ht] at h
    cases h
    exact k okS
  · intro ht
    rw [if_neg ht] at h
    cases h
    exact k okS
theorem so_z32 {x : Int} (hx : (Int32.ofInt x).toInt = x) : (Int32.ofInt x = 0 ↔ x = 0) ∧ (Int32.ofInt x < 0 ↔ x < 0) ∧ (0 ≤ Int32.ofInt x ↔ 0 ≤ x) ∧ (0 < Int32.ofInt x ↔ 0 < x) ∧ (Int32.ofInt x ≤ 0 ↔ x ≤ 0) := by
  have z : (0 : Int32).toInt = 0 := rfl
  refine ⟨?_, ?_, ?_, ?_, ?_⟩
  · rw [← Int32.toInt_inj, hx, z]
  · rw [Int32.lt_iff_toInt_lt, hx, z]
  · rw [Int32.le_iff_toInt_le, hx, z]
  · rw [Int32.lt_iff_toInt_lt, hx, z]
  · rw [Int32.le_iff_toInt_le, hx, z]
theorem so_c32 {x y : Int} (hx : (Int32.ofInt x).toInt = x) (hy : (Int32.ofInt y).toInt = y) : (Int32.ofInt x = Int32.ofInt y ↔ x = y) ∧ (Int32.ofInt x < Int32.ofInt y ↔ x < y) ∧ (Int32.ofInt x ≤ Int32.ofInt y ↔ x ≤ y) := by
  refine ⟨?_, ?_, ?_⟩
  · rw [← Int32.toInt_inj, hx, hy]
  · rw [Int32.lt_iff_toInt_lt, hx, hy]
  · rw [Int32.le_iff_toInt_le, hx, hy]
set_option maxHeartbeats 4000000 in
theorem so_jump {i : Instr} {n : Nat} (hexec : p.tables.exec = Jvm.exec) (hb : c.code = cc) (hdg : decode cc pc = .ok (i, n)) (hn : ax_sw i = false → n = ax_len i) (hf : ax_fine i = true) (hj : ax_jok i pc = true) (okS : so_okS st) (h : ax_jump i pc st = some (pc', st'))
    (k : so_okS st' → W p l e R s m args below meth c H locs cells slots Q (F0 m pc' lsA (st'.map (so_v ad)))) : W p l e R s m args below meth c H locs cells slots Q (F0 m pc lsA (st.map (so_v ad))) := by
  cases i with
  | goto off =>
    cases hn rfl
    cases h
    exact lv_goto hexec hb hdg (so_to (of_decide_eq_true hj)) (k okS)
  | ifCond cd off =>
    cases hn rfl
    have ht := so_to (of_decide_eq_true hj)
    dsimp only [ax_jump] at h
    split at h
    · rename_i x r
      have hx : (Int32.ofInt x).toInt = x := okS.hd
      obtain ⟨z1, z2, z3, z4, z5⟩ := so_z32 hx
      cases cd with
      | eq =>
        obtain ⟨a, b⟩ := so_jif h okS.tl k
        exact lv_if_eq hexec hb hdg ht (fun g => a (z1.mp g)) (fun g => b (fun w => g (z1.mpr w)))
      | ne =>
        obtain ⟨a, b⟩ := so_jif h okS.tl k
        exact lv_if_ne hexec hb hdg ht (fun g => a (fun w => g (z1.mpr w))) (fun g => b (fun w => w (z1.mp g)))
      | lt =>
        obtain ⟨a, b⟩ := so_jif h okS.tl k
        exact lv_if_lt hexec hb hdg ht (fun g => a (z2.mp g)) (fun g => b (fun w => g (z2.mpr w)))
      | ge =>
        obtain ⟨a, b⟩ := so_jif h okS.tl k
        exact lv_if_ge hexec hb hdg ht (fun g => a (z3.mp g)) (fun g => b (fun w => g (z3.mpr w)))
      | gt =>
        obtain ⟨a, b⟩ := so_jif h okS.tl k
        exact lv_if_gt hexec hb hdg ht (fun g => a (z4.mp g)) (fun g => b (fun w => g (z4.mpr w)))
      | le =>
        obtain ⟨a, b⟩ := so_jif h okS.tl k
        exact lv_if_le hexec hb hdg ht (fun g => a (z5.mp g)) (fun g => b (fun w => g (z5.mpr w)))
    · cases h
  | if_icmp cd off =>
    cases hn rfl
    have ht := so_to (of_decide_eq_true hj)
    dsimp only [ax_jump] at h
    split at h
    · rename_i y x r
      have hx : (Int32.ofInt x).toInt = x := okS.tl.hd
      have hy : (Int32.ofInt y).toInt = y := okS.hd
      obtain ⟨z1, z2, z3⟩ := so_c32 hx hy
      obtain ⟨-, y2, y3⟩ := so_c32 hy hx
      cases cd with
      | eq =>
        obtain ⟨a, b⟩ := so_jif h okS.tl.tl k
        exact lv_icmp_eq hexec hb hdg ht (fun g => a (z1.mp g)) (fun g => b (fun w => g (z1.mpr w)))
      | ne =>
        obtain ⟨a, b⟩ := so_jif h okS.tl.tl k
        exact lv_icmp_ne hexec hb hdg ht (fun g => a (fun w => g (z1.mpr w))) (fun g => b (fun w => w (z1.mp g)))
      | lt =>
        obtain ⟨a, b⟩ := so_jif h okS.tl.tl k
        exact lv_icmp_lt hexec hb hdg ht (fun g => a (z2.mp g)) (fun g => b (fun w => g (z2.mpr w)))
      | ge =>
        obtain ⟨a, b⟩ := so_jif h okS.tl.tl k
        exact lv_icmp_ge hexec hb hdg ht (fun g => a (y3.mp g)) (fun g => b (fun w => g (y3.mpr w)))
      | gt =>
        obtain ⟨a, b⟩ := so_jif h okS.tl.tl k
        exact lv_icmp_gt hexec hb hdg ht (fun g => a (y2.mp g)) (fun g => b (fun w => g (y2.mpr w)))
      | le =>
        obtain ⟨a, b⟩ := so_jif h okS.tl.tl k
        exact lv_icmp_le hexec hb hdg ht (fun g => a (z3.mp g)) (fun g => b (fun w => g (z3.mpr w)))
    · cases h
  | ifnull off =>
    cases hn rfl
    dsimp only [ax_jump] at h
    split at h
    · cases h
      exact lv_ifnullN hexec hb hdg (so_to (of_decide_eq_true hj)) (k okS.tl)
    · cases h
      exact lv_ifnull hexec hb hdg (k okS.tl)
    · cases h
  | ifnonnull off =>
    cases hn rfl
    dsimp only [ax_jump] at h
    split at h
    · cases h
      exact lv_ifnonnullN hexec hb hdg (k okS.tl)
    · cases h
      exact lv_ifnonnull hexec hb hdg (so_to (of_decide_eq_true hj)) (k okS.tl)
    · cases h
  | tableswitch d lo hi offs =>
    simp only [ax_jok, Bool.and_eq_true, decide_eq_true_eq, List.all_eq_true] at hj
    dsimp only [ax_jump] at h
    split at h
    · rename_i x r
      have hx : (Int32.ofInt x).toInt = x := okS.hd
      split at h
      · rename_i g
        cases h
        exact lv_tableOut hexec hb hdg (by rw [hx]; exact g) (so_to hj.1) (k okS.tl)
      · rename_i g
        split at h
        · rename_i off ho
          cases h
          refine lv_tableIn hexec hb hdg (by rw [hx]; omega) (by rw [hx]; omega) (by rw [hx]; exact ho) (so_to (hj.2 off ?_)) (k okS.tl)
          rw [← Array.getElem?_toList] at ho
          exact List.mem_of_getElem? ho
        · cases h
    · cases h
  | lookupswitch d ps =>
    simp only [ax_jok, Bool.and_eq_true, decide_eq_true_eq, List.all_eq_true] at hj
    dsimp only [ax_jump] at h
    split at h
    · rename_i x r
      have hx : (Int32.ofInt x).toInt = x := okS.hd
      cases h
      refine lv_lookup hexec hb hdg hf (by rw [hx]) (so_to ?_) (k okS.tl)
      exact so_offs d x (fun z => 0 ≤ (pc : Int) + z) hj.1 _ hj.2
    · cases h
  | _ => exact absurd h (by simp [ax_jump])
end SOJ
end
