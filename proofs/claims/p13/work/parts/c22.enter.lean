/-! A METHOD OF THE TABLES, and its call. -/
/-- a method's own words, of all of them but the law's -/
def so_Mws : Prop := ∀ y, y < 302 → y ≠ tb_law → mw_ok y
def so_cw (y : Nat) : Cond := match (tb_M y).2.2.2.2.1 with
  | [] => Cond.code (tb_name y) (tb_bytes y) (tb_M y).2.1 (tb_ret y)
  | q :: r => Cond.codeWith (tb_name y) (tb_bytes y) (tb_M y).2.1 (tb_ret y) ((q :: r).map fun q => (q.1, q.2.1, q.2.2.1, q.2.2.2.1))
theorem so_plain : ∀ k, k < 24 → (True ∧ tb_RN k ≠ "java/lang/invoke/MethodHandle" ∧ tb_RN k ≠ "java/lang/invoke/VarHandle") := by decide +kernel
theorem so_cw_in {y : Nat} (h : mw_ok y) : so_cw y ∈ lw_tbl := by
  have h4 := h.2.2.2.1
  unfold so_cw
  split
  · rename_i e; rw [e] at h4; exact h4
  · rename_i e; rw [e] at h4; exact h4
theorem so_cw_good (y : Nat) : so_gw (so_cw y) = true := by
  unfold so_cw
  split <;> rfl
/-- what the word gives -/
theorem so_cw_spec {y : Nat} {args : Array Value} {s : State} (hw : (so_cw y).before args s = true) : ∃ (mk : MethodId) (meth : Method) (c : Code), s.methodNamed? (tb_name y) = some mk ∧ s.vm.method? mk = some meth ∧ meth.code = some c ∧ c.code = tb_bytes y ∧ c.maxLocals = (tb_M y).2.1 ∧ meth.sig.returnType = tb_ret y ∧ meth.locks = false ∧
    c.exceptionTable.toList = (tb_M y).2.2.2.2.1.map (fun q => ⟨q.1, q.2.1, q.2.2.1, q.2.2.2.1⟩) ∧ parseMethodDescriptor (tb_name y).desc = some meth.sig := by
  unfold so_cw at hw
  split at hw
  · rename_i e1
    obtain ⟨mk, hn⟩ := Cond.code_named hw
    obtain ⟨meth, c, h1, h2, h3, h4, h5, h6, h7, h8⟩ := Cond.code_spec hn hw
    refine ⟨mk, meth, c, hn, h1, h2, h3, h4, h5, h6, ?_, h8⟩
    rw [e1]
    have h0 : c.exceptionTable.size = 0 := by simpa [Array.isEmpty] using h7
    exact List.eq_nil_of_length_eq_zero (by simpa using h0)
  · rename_i q r e1
    obtain ⟨mk, meth, c, hn, h1, h2, h3, h4, h5, h6, h7, h8⟩ := Cond.codeWith_spec hw
    refine ⟨mk, meth, c, hn, h1, h2, h3, h4, h6, h7, ?_, h8⟩
    rw [e1]
    have key : ∀ (l : List ExceptionTableEntry) (m : List (Nat × Nat × Nat × Nat × Nat × Nat)), l.map (fun h => (h.startPc, h.endPc, h.handlerPc, h.catchType)) = m.map (fun q => (q.1, q.2.1, q.2.2.1, q.2.2.2.1)) → l = m.map (fun q => (⟨q.1, q.2.1, q.2.2.1, q.2.2.2.1⟩ : ExceptionTableEntry)) := by
      intro l
      induction l with
      | nil => intro m hm; cases m with
        | nil => rfl
        | cons a b => cases hm
      | cons a b ih => intro m hm; cases m with
        | nil => cases hm
        | cons x z =>
          rw [List.map_cons, List.map_cons] at hm
          obtain ⟨e1, e2⟩ := List.cons.inj hm
          rw [List.map_cons, ← ih z e2]
          obtain ⟨s1, s2, s3, s4⟩ := a
          simp only [Prod.mk.injEq] at e1
          obtain ⟨f1, f2, f3, f4⟩ := e1
          rw [f1, f2, f3, f4]
    exact key _ _ h5
section SOT
variable {p : Program} {l : Launch} {e : Env} {R : Room} {s : State} {m : MethodId} {args : Array Value} {below : List Frame} {meth : Method} {c : Code} {H : Heap} {locs : List Loc} {cells slots : Nat} {T : State}
variable {pc y : Nat} {lsA : Array Slot} {ad : Nat → Option Nat} {h h' : ax_H} {H0 : Heap}
theorem so_pop {n : Nat} : ∀ {st as r : List ax_V}, ax_pop n st = some (as, r) → st = as.reverse ++ r ∧ as.length = n := by
  induction n with
  | zero => intro st as r h1; cases h1; exact ⟨rfl, rfl⟩
  | succ n ih =>
    intro st as r h1
    cases st with
    | nil => cases h1
    | cons v q =>
      simp only [ax_pop] at h1
      split at h1
      · rename_i as2 q2 hh
        cases h1
        obtain ⟨e1, e2⟩ := ih hh
        rw [e1, List.reverse_append]
        exact ⟨rfl, by simp [e2]⟩
      · cases h1
theorem so_wt (st : List ax_V) : ((st.map (so_v ad)).map fun v => v.category).sum = ax_wt st := by
  unfold ax_wt
  rw [List.map_map]
  congr 1
  apply List.map_congr_left
  intro v _
  exact so_cat ad v
/-- the call is linked: what stands then -/
def so_Ent (p : Program) (l : Launch) (e : Env) (R : Room) (s : State) (m : MethodId) (args : Array Value) (below : List Frame) (meth : Method) (c : Code) (T : State) (locs : List Loc) (cells slots : Nat) (g : JFrame) (b : Nat) (av : Array Value) (rest : List Value) : Prop :=
  ∃ (vm₁ : Vm) (mk : MethodId), Stand p l e R s m args below meth c (T.setVm vm₁) locs cells slots ∧ s.methodNamed? (tb_name b) = some mk ∧ ∀ target, (∀ acts, Steps p.tables e below (doInvoke e ((T.setVm vm₁).setTop { g with stack := rest }) acts mk av).1 target) → Steps p.tables e below (T.setTop g) target
theorem so_entV {idx b : Nat} {As rest : List Value} {q : Addr} {cell : Cell} (X : so_Ctx p e s m args meth c ad H0 y) (S : Stand p l e R s m args below meth c T locs cells slots) (hmw : mw_ok b) (hst : tb_static b = false) (hni : (tb_M b).2.2.2.1 = false)
    (hlink : Cond.methodLink (tb_RN (tb_M y).1) idx (tb_name b) ∈ lw_tbl) (hcell : T.heap[q]? = some cell) (hobj : cell.vm.isStatics = false) (hcls : s.vm.findClass (tb_RN (tb_M b).1) = some cell.cls) (hlen : As.length = tb_np.getD b 0)
    {g : JFrame} (hg : g.method = m) (hstack : g.stack = As.reverse ++ .ref q :: rest) (hdg : decode (tb_bytes y) g.pc = .ok (.invokevirtual idx, 3)) : so_Ent p l e R s m args below meth c T locs cells slots g b (Value.ref q :: As).toArray rest := by
  obtain ⟨x1, x2, x3, x4, x5, x6, x7, x8, x9, x10, x11, x12, x13⟩ := id X
  obtain ⟨m1, m2, ⟨m3, m4, m5, m6⟩, m7, m8, m9, m10⟩ := id hmw
  rw [hst] at m8 m9
  rw [hni] at m9
  have hy := (so_plain _ m3).2
  rw [← m1] at hy
  obtain ⟨mk, methM, cM, hnamed, hmethM, -, -, -, -, -, -, hsigM⟩ := so_cw_spec (x10 _ (so_cw_in hmw) (so_cw_good b))
  obtain ⟨mk', methM', hnamed', hmethM', hstM, habM⟩ := Cond.instanceMethod_spec (x10 _ m8 rfl)
  cases hnamed.symm.trans hnamed'
  cases hmethM.symm.trans hmethM'
  obtain ⟨c2, r2, m2', q1, q2, q3, q4, kP, hkP, hkPi⟩ := Cond.selects_spec (x10 _ m9 rfl)
  cases hcls.symm.trans q1
  cases (State.methodFound?_of_named hnamed hy).symm.trans q2
  cases hnamed.symm.trans q3
  have hselP : selectMethod e.platform s.vm cell.cls mk = .method mk := by rw [Launch.admits_selectMethod S.admits]; exact q4
  obtain ⟨vm₁, X₁, hstep₁⟩ := S.invokevirtual x1 x4 (x10 _ hlink rfl) hnamed hmethM hstM hkP hkPi hy (a := q) (cell := cell) hcell
    (fun z h => by rw [h] at hobj; cases hobj) hselP hmethM habM hkP hkPi (g := g) hg (argsL := As) (rest := rest) (by rw [hlen]; rw [hsigM] at m6; exact (Option.some.inj m6).symm) hstack (by rw [x2]; exact hdg)
  exact ⟨vm₁, mk, X₁, hnamed, hstep₁⟩
theorem so_entS {idx b : Nat} {As rest : List Value} (X : so_Ctx p e s m args meth c ad H0 y) (S : Stand p l e R s m args below meth c T locs cells slots) (hmw : mw_ok b) (hst : tb_static b = true)
    (hlink : Cond.methodLink (tb_RN (tb_M y).1) idx (tb_name b) ∈ lw_tbl) (hlen : As.length = tb_np.getD b 0)
    {g : JFrame} (hg : g.method = m) (hstack : g.stack = As.reverse ++ rest) (hdg : decode (tb_bytes y) g.pc = .ok (.invokestatic idx, 3)) : so_Ent p l e R s m args below meth c T locs cells slots g b As.toArray rest := by
  obtain ⟨x1, x2, x3, x4, x5, x6, x7, x8, x9, x10, x11, x12, x13⟩ := id X
  obtain ⟨m1, m2, ⟨m3, m4, m5, m6⟩, m7, m8, m9, m10⟩ := id hmw
  rw [hst] at m8
  have hy := (so_plain _ m3).2
  rw [← m1] at hy
  obtain ⟨mk, methM, cM, hnamed, hmethM, -, -, -, -, -, -, hsigM⟩ := so_cw_spec (x10 _ (so_cw_in hmw) (so_cw_good b))
  have hstatic : methM.isStatic = true := Cond.static_spec hnamed hmethM (x10 _ m8 rfl)
  obtain ⟨kP, hkP, -⟩ := className_of_methodNamed hnamed
  have hini := x10 _ m10 rfl
  rw [← m1] at hini
  have hinitP : kP.init = .initialized := Cond.initialized_spec (findClass_of_methodNamed hnamed) hkP hini
  obtain ⟨vm₁, X₁, hstep₁⟩ := S.invokestatic x1 x4 (x10 _ hlink rfl) hnamed hmethM hstatic hkP hinitP hy (g := g) hg (argsL := As) (rest := rest) (by rw [hlen]; rw [hsigM] at m6; exact (Option.some.inj m6).symm) hstack (by rw [x2]; exact hdg)
  exact ⟨vm₁, mk, X₁, hnamed, hstep₁⟩
theorem so_entI {idx b : Nat} {As rest : List Value} {q : Addr} (X : so_Ctx p e s m args meth c ad H0 y) (S : Stand p l e R s m args below meth c T locs cells slots) (hmw : mw_ok b) (hst : tb_static b = false) (hni : (tb_M b).2.2.2.1 = true) (hnh : (tb_M b).2.2.2.2.1 = []) (hrt : tb_ret b = none)
    (hlink : Cond.methodLink (tb_RN (tb_M y).1) idx (tb_name b) ∈ lw_tbl ∨ ∃ host, Cond.methodLinkNest (tb_RN (tb_M y).1) idx (tb_name b) host ∈ lw_tbl) (hlen : As.length = tb_np.getD b 0)
    {g : JFrame} (hg : g.method = m) (hstack : g.stack = As.reverse ++ .ref q :: rest) (hdg : decode (tb_bytes y) g.pc = .ok (.invokespecial idx, 3)) : so_Ent p l e R s m args below meth c T locs cells slots g b (Value.ref q :: As).toArray rest := by
  obtain ⟨x1, x2, x3, x4, x5, x6, x7, x8, x9, x10, x11, x12, x13⟩ := id X
  obtain ⟨m1, m2, ⟨m3, m4, m5, m6⟩, m7, m8, m9, m10⟩ := id hmw
  rw [hst] at m8
  have hy := (so_plain _ m3).2
  rw [← m1] at hy
  have hcode := x10 _ (so_cw_in hmw) (so_cw_good b)
  unfold so_cw at hcode
  rw [hnh, hrt] at hcode
  have hpl : e.platform.magicAccessors = ({} : Platform).magicAccessors := by rw [S.admits.platform]
  have hl : ∀ sig, parseMethodDescriptor (tb_name b).desc = some sig → As.length = sig.parameters.length := fun sig hsig => by
    rw [hlen]; rw [hsig] at m6; exact (Option.some.inj m6).symm
  subst hg
  rcases hlink with hk | ⟨host, hk⟩
  · obtain ⟨mk, methM, cM, kP, vm₁, hnamed, hmethM, hcodeM, -, hlocalsM, -, hkP, -, hW₁, hstep₁⟩ := Steps.initColdArgs (e := e) S.here x1 S.warmed hpl x4 (m4 hni) hy (x10 _ hk rfl) (x10 _ m8 rfl) hcode (f := g) rfl hl hstack (by rw [x2]; exact hdg)
    exact ⟨vm₁, mk, S.noted hW₁, hnamed, hstep₁⟩
  · obtain ⟨mk, methM, cM, kP, vm₁, hnamed, hmethM, hcodeM, -, hlocalsM, -, hkP, -, hW₁, hstep₁⟩ := Steps.initColdArgsNest (e := e) S.here x1 S.warmed hpl x4 (m4 hni) hy (x10 _ hk rfl) (x10 _ m8 rfl) hcode (f := g) rfl hl hstack (by rw [x2]; exact hdg)
    exact ⟨vm₁, mk, S.noted hW₁, hnamed, hstep₁⟩
end SOT
