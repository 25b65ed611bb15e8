/-! WHAT STANDS AT EVERY INVOCATION; the heap's instructions by their tables. -/
theorem so_words {s U : State} {args a' : Array Value} (hW : s.WarmedH U.vm) (hts : ∀ w ∈ lw_tbl, so_gw w = true → w.before args s = true) : ∀ w ∈ lw_tbl, so_gw w = true → w.before a' U = true := by
  intro w hw h1
  have h2 := hts w hw h1
  unfold so_gw at h1
  rw [Bool.or_eq_true] at h1
  rcases h1 with h1 | h1
  · exact word_at hW (good_of_word h1) h2
  · cases w with
    | fieldLinkNest a b d n k q => exact (va_Nw.warmF hW (va_Nw.of rfl h2)).use rfl
    | methodLinkNest a b d n => exact (va_Nw.warmM hW (va_Nw.of rfl h2)).use rfl
    | castable a b => exact (va_Nw.warmC hW (va_Nw.of rfl h2)).use rfl
    | declares a => exact (va_Nw.warmD hW (va_Nw.of rfl h2)).use rfl
    | _ => cases h1
/-- the state at the start, where every word holds -/
def so_Src (s : State) (H0 : Heap) : Prop := ∃ (s0 : State) (a0 : Array Value), s0.WarmedH s.vm ∧ s0.heap = H0 ∧ (∀ w ∈ lw_tbl, w.before a0 s0 = true) ∧
  (Cond.isRef (.static "java/lang/Throwable" "UNASSIGNED_STACK" "[Ljava/lang/StackTraceElement;")).before a0 s0 = true ∧ (Cond.isRef (.static "java/lang/Throwable" "SUPPRESSED_SENTINEL" "Ljava/util/List;")).before a0 s0 = true
theorem so_Src.warm {s U : State} {H0 : Heap} (hW : s.WarmedH U.vm) (h : so_Src s H0) : so_Src U H0 := by
  obtain ⟨s0, a0, h1, h2⟩ := h
  exact ⟨s0, a0, State.WarmedH.trans h1 hW, h2⟩
/-- the old cells that are read: statics, strings; the three exceptions are no kin -/
def so_Old (s : State) (ad : Nat → Option Nat) (H0 : Heap) : Prop :=
  va_Z "MachineText" "LEVELS" "[I" (so_v ad (.inr (.inr (some 1)))) (fun q => H0.size ≤ q) s H0 ∧
  va_Z "java/lang/String" "COMPACT_STRINGS" "Z" (.int 1) (fun q => H0.size ≤ q) s H0 ∧
  va_Z "jdk/internal/util/Preconditions" "SIOOBE_FORMATTER" "Ljava/util/function/BiFunction;" (so_v ad (.inr (.inr (some 26)))) (fun q => H0.size ≤ q) s H0 ∧
  so_Src s H0 ∧
  (∀ b, 2 ≤ b → b < 26 → b ≠ 3 → b ≠ 5 → ∃ r, ad b = some r ∧ vk_R (tb_RN (tb_st.getD b (0, 0, "")).1) (tb_st.getD b (0, 0, "")).2.1 (tb_st.getD b (0, 0, "")).2.2 r s) ∧
  (∀ x y, 14 ≤ x → x < 17 → 14 ≤ y → y < 17 → x ≠ y → va_Nc (tb_RN x) (tb_RN y) s)
theorem so_Old.warm {s U : State} {ad : Nat → Option Nat} {H0 : Heap} (hW : s.WarmedH U.vm) (h : so_Old s ad H0) : so_Old U ad H0 := by
  obtain ⟨h1, h2, h3, h4, h6, h7⟩ := h
  refine ⟨h1.moved hW.alike, h2.moved hW.alike, h3.moved hW.alike, h4.warm hW, fun b q1 q2 q3 q4 => ?_, fun x y q1 q2 q3 q4 q5 => (h7 x y q1 q2 q3 q4 q5).moved hW.alike⟩
  obtain ⟨r, g1, g2⟩ := h6 b q1 q2 q3 q4
  exact ⟨r, g1, g2.warm hW⟩
/-- an invocation of the method y -/
def so_Ctx (p : Program) (e : Env) (s : State) (m : MethodId) (args : Array Value) (meth : Method) (c : Code) (ad : Nat → Option Nat) (H0 : Heap) (y : Nat) : Prop :=
  p.tables.exec = Jvm.exec ∧ c.code = tb_bytes y ∧ c.maxLocals = (tb_M y).2.1 ∧ s.vm.findClass (tb_RN (tb_M y).1) = some m.cls ∧ meth.sig.returnType = tb_rt' (tb_M y).2.2.1 ∧ meth.locks = false ∧ ((tb_M y).2.2.2.1 = true → meth.name = "<init>") ∧
  c.exceptionTable.toList = (tb_M y).2.2.2.2.1.map (fun q => ⟨q.1, q.2.1, q.2.2.1, q.2.2.2.1⟩) ∧ e.platform.stackTraces = false ∧ (∀ w ∈ lw_tbl, so_gw w = true → w.before args s = true) ∧ so_AD ad H0.size ∧ so_Old s ad H0 ∧ tb_mok y = true
theorem so_lk {c : Nat} {r : Nat × Nat × Nat × Nat × Nat × Int} (h : tb_k c r = true) : lk_ok r := lk_all r (List.mem_of_getElem? (of_decide_eq_true h))
theorem so_all {cls : Nat} {init : Bool} {bytes : ByteArray} : ∀ (t : List (Option ax_E)) (k pc : Nat) (x : ax_E), tb_all cls init bytes t k = true → ax_at t pc = some x → tb_d bytes (k + pc) x.1 = true ∧ tb_l cls init x = true := by
  intro t
  induction t with
  | nil => intro k pc x _ h; cases h
  | cons a r ih =>
    intro k pc x hall h
    cases pc with
    | zero =>
      have h : a = some x := h
      subst h
      simp only [tb_all, Bool.and_eq_true] at hall
      exact hall.1
    | succ n =>
      have h : ax_at r n = some x := h
      have h2 : tb_all cls init bytes r (k + 1) = true := by
        cases a with
        | none => exact hall
        | some w => simp only [tb_all, Bool.and_eq_true] at hall; exact hall.2
      have := ih (k + 1) n x h2 h
      rw [show k + 1 + n = k + (n + 1) by omega] at this
      exact this
theorem so_dec {bytes : ByteArray} {pc : Nat} {i : Instr} (h : tb_d bytes pc i = true) : ∃ n, decode bytes pc = .ok (i, n) ∧ (ax_sw i = false → n = ax_len i) ∧ ax_fine i = true ∧ ax_jok i pc = true := by
  unfold tb_d at h
  cases hd : decode bytes pc with
  | error x => rw [hd] at h; cases h
  | ok q =>
    obtain ⟨j, n⟩ := q
    rw [hd] at h
    simp only [Bool.and_eq_true, Bool.or_eq_true, decide_eq_true_eq, beq_iff_eq] at h
    obtain ⟨⟨⟨h1, h2⟩, h3⟩, h4⟩ := h
    subst h1
    refine ⟨n, rfl, fun q => ?_, h3, h4⟩
    rcases h2 with h2 | h2
    · rw [q] at h2; cases h2
    · exact h2
section SOK
variable {p : Program} {l : Launch} {e : Env} {R : Room} {s : State} {m : MethodId} {args : Array Value} {below : List Frame} {meth : Method} {c : Code} {H : Heap} {locs : List Loc} {cells slots : Nat} {Q : State → Prop}
variable {pc y : Nat} {lsA : Array Slot} {st st' : List ax_V} {ad : Nat → Option Nat} {h h' : ax_H} {H0 : Heap}
theorem so_gets {C n d : String} {v : Value} {index : Nat} {rest : List Value} {host : Option String} (X : so_Ctx p e s m args meth c ad H0 y) (hR : so_Rel s ad H0 h H) (hZ : va_Z C n d v (fun q => H0.size ≤ q) s H0) (hlink : match host with
      | none => (Cond.fieldLink (tb_RN (tb_M y).1) index C n d).before args s = true
      | some q => (Cond.fieldLinkNest (tb_RN (tb_M y).1) index C n d q).before args s = true) (hdg : decode (tb_bytes y) pc = .ok (.getstatic index, 3))
    (kk : W p l e R s m args below meth c H locs cells slots Q (F0 m (pc + 3) lsA (v :: rest))) : W p l e R s m args below meth c H locs cells slots Q (F0 m pc lsA rest) := by
  obtain ⟨cf, kf, fi, f, a, cell, h1, h2, h3, h4, h5, h6, h7, h8⟩ := hZ
  have h9 : H[a]? = some cell := by rw [hR.2.1 a (Array.getElem?_eq_some_iff.mp h5).1]; exact h5
  cases host with
  | none => exact W.gets X.1 X.2.1 X.2.2.2.1 hlink h1 h2 h3 h4 h9 (fun e => by rw [e] at h6; cases h6) h7 rfl hdg kk
  | some q => exact va_WgetsN X.1 X.2.1 X.2.2.2.1 hlink h1 h2 h3 h4 h9 (fun e => by rw [e] at h6; cases h6) h7 rfl hdg kk
end SOK
