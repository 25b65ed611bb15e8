/-! RETURNS, Object's constructor, arraycopy. -/
section SOY
variable {p : Program} {l : Launch} {e : Env} {R : Room} {s : State} {m : MethodId} {args : Array Value} {below : List Frame} {meth : Method} {c : Code} {H : Heap} {locs : List Loc} {cells slots : Nat} {Q : State → Prop}
variable {pc y : Nat} {lsA : Array Slot} {ad : Nat → Option Nat} {h h' : ax_H} {H0 : Heap}
theorem so_retI {z : Int} {ty : FieldType} (X : so_Ctx p e s m args meth c ad H0 y) (hR : so_Rel s ad H0 h H) (hlo : ∀ q ∈ locs, H0.size ≤ q.base) (hr : meth.sig.returnType = some ty) (hn : narrow ty (.int (Int32.ofInt z)) = .int (Int32.ofInt z)) (hok : so_ok (.inl z)) (hdg : decode (tb_bytes y) pc = .ok (.ireturn, 1)) :
    W p l e R s m args below meth c H locs cells slots (so_Z below ad H0 s (.inl (some (.inl z))) h cells slots) (F0 m pc lsA [.int (Int32.ofInt z)]) := by
  obtain ⟨x1, x2, x3, x4, x5, x6, x7, x8, x9, x10, x11, x12, x13⟩ := id X
  refine so_ret (i := .ireturn) (v := some (.inl z)) hR hlo x6 (fun q => by rw [hr] at q; cases q) (fun w hw => by cases hw; exact hok) (fun T fs S hret => ?_)
  have hmeth' : T.vm.method? m = some meth := S.method'
  have hret2 : ∀ (f : JFrame) (acts : List Action), f.method = m → f.locked = none → f.entered = [] → (doReturn e (T.setTop f) acts (some (.int (Int32.ofInt z)))).1 = T.setFrames fs := hret
  jvm_step S.here [S.here.top, x1, x2, hdg, hmeth', hr, hn, so_v]
  (try refine ⟨rfl, ?_⟩); (try refine ⟨rfl, ?_⟩)
  first | (intro acts; rw [hret2 _ acts rfl rfl rfl]) | rw [hret2 _ _ rfl rfl rfl]
  exact Steps.refl _
theorem so_retL {z : Int} (X : so_Ctx p e s m args meth c ad H0 y) (hR : so_Rel s ad H0 h H) (hlo : ∀ q ∈ locs, H0.size ≤ q.base) (hr : meth.sig.returnType = some .long) (hok : so_ok (.inr (.inl z))) (hdg : decode (tb_bytes y) pc = .ok (.lreturn, 1)) :
    W p l e R s m args below meth c H locs cells slots (so_Z below ad H0 s (.inl (some (.inr (.inl z)))) h cells slots) (F0 m pc lsA [.long (Int64.ofInt z)]) := by
  obtain ⟨x1, x2, x3, x4, x5, x6, x7, x8, x9, x10, x11, x12, x13⟩ := id X
  refine so_ret (i := .lreturn) (v := some (.inr (.inl z))) hR hlo x6 (fun q => by rw [hr] at q; cases q) (fun w hw => by cases hw; exact hok) (fun T fs S hret => ?_)
  have hmeth' : T.vm.method? m = some meth := S.method'
  have hret2 : ∀ (f : JFrame) (acts : List Action), f.method = m → f.locked = none → f.entered = [] → (doReturn e (T.setTop f) acts (some (.long (Int64.ofInt z)))).1 = T.setFrames fs := hret
  jvm_step S.here [S.here.top, x1, x2, hdg, hmeth', hr, so_v]
  (try refine ⟨rfl, ?_⟩); (try refine ⟨rfl, ?_⟩)
  first | (intro acts; rw [hret2 _ acts rfl rfl rfl]) | rw [hret2 _ _ rfl rfl rfl]
  exact Steps.refl _
theorem so_retV (X : so_Ctx p e s m args meth c ad H0 y) (hR : so_Rel s ad H0 h H) (hlo : ∀ q ∈ locs, H0.size ≤ q.base) (hr : meth.sig.returnType = none) (hdg : decode (tb_bytes y) pc = .ok (.return_, 1)) :
    W p l e R s m args below meth c H locs cells slots (so_Z below ad H0 s (.inl none) h cells slots) (F0 m pc lsA []) := by
  obtain ⟨x1, x2, x3, x4, x5, x6, x7, x8, x9, x10, x11, x12, x13⟩ := id X
  refine so_ret (i := .return_) (v := none) hR hlo x6 (fun _ => rfl) (fun w hw => by cases hw) (fun T fs S hret => ?_)
  have hmeth' : T.vm.method? m = some meth := S.method'
  have hret2 : ∀ (f : JFrame) (acts : List Action), f.method = m → f.locked = none → f.entered = [] → (doReturn e (T.setTop f) acts (none)).1 = T.setFrames fs := hret
  jvm_step S.here [S.here.top, x1, x2, hdg, hmeth', hr]
  (try refine ⟨rfl, ?_⟩); (try refine ⟨rfl, ?_⟩)
  first | (intro acts; rw [hret2 _ acts rfl rfl rfl]) | rw [hret2 _ _ rfl rfl rfl]
  exact Steps.refl _
theorem so_fitsn {rt : Nat} {z : Int} (hz : (Int32.ofInt z).toInt = z) (h : ax_rok rt z = true) : ∃ ty, tb_rt' rt = some ty ∧ narrow ty (.int (Int32.ofInt z)) = .int (Int32.ofInt z) := by
  unfold ax_rok at h
  split at h
  · exact ⟨.int, rfl, rfl⟩
  · refine ⟨.boolean, rfl, narrow_of_fits ?_⟩
    rcases of_decide_eq_true h with rfl | rfl <;> decide
  · refine ⟨.char, rfl, narrow_of_fits ?_⟩
    have h := of_decide_eq_true h
    simp only [fits, Bool.and_eq_true, decide_eq_true_eq]
    refine ⟨Int32.le_iff_toInt_le.mpr ?_, Int32.le_iff_toInt_le.mpr ?_⟩
    · rw [hz]; exact h.1
    · rw [hz]; show z ≤ 65535; omega
  · refine ⟨.byte, rfl, narrow_of_fits ?_⟩
    have h := of_decide_eq_true h
    simp only [fits, Bool.and_eq_true, decide_eq_true_eq]
    refine ⟨Int32.le_iff_toInt_le.mpr ?_, Int32.le_iff_toInt_le.mpr ?_⟩
    · rw [hz]; exact h.1
    · rw [hz]; show z ≤ 127; omega
  · cases h
theorem so_rets {i : Instr} {n : Nat} {st : List ax_V} {v : Option ax_V} (X : so_Ctx p e s m args meth c ad H0 y) (hR : so_Rel s ad H0 h H) (hlo : ∀ q ∈ locs, H0.size ≤ q.base) (okS : so_okS st) (hdg : decode (tb_bytes y) pc = .ok (i, n)) (hn : n = ax_len i) (hr : ax_rtn (tb_M y) i st = some v) :
    W p l e R s m args below meth c H locs cells slots (so_Z below ad H0 s (.inl v) h cells slots) (F0 m pc lsA (st.map (so_v ad))) := by
  subst hn
  have x5 := X.2.2.2.2.1
  unfold ax_rtn at hr
  split at hr
  · split at hr
    · split at hr
      · rename_i z hz
        cases hr
        have hz2 : (Int32.ofInt z).toInt = z := okS _ List.mem_cons_self
        obtain ⟨ty, t1, t2⟩ := so_fitsn hz2 hz
        rw [t1] at x5
        exact so_retI X hR hlo x5 t2 hz2 hdg
      · cases hr
    · cases hr
  · split at hr
    · split at hr
      · rename_i z hz
        cases hr
        rw [hz] at x5
        exact so_retL X hR hlo x5 (okS _ List.mem_cons_self) hdg
      · cases hr
    · cases hr
  · split at hr
    · split at hr
      · rename_i hz
        cases hr
        rw [hz] at x5
        exact so_retV X hR hlo x5 hdg
      · cases hr
    · cases hr
  · cases hr
set_option maxRecDepth 20000 in
theorem so_oinit : Cond.instanceMethod Lib.objectInit ∈ lw_tbl ∧ Cond.code Lib.objectInit ⟨#[0xb1]⟩ 1 none ∈ lw_tbl := ⟨tb_i1 (List.mem_of_getElem? (i := 35) rfl), tb_i1 (List.mem_of_getElem? (i := 36) rfl)⟩
theorem so_objW {idx o : Nat} {r : List ax_V} (X : so_Ctx p e s m args meth c ad H0 y) (hfr : 10 ≤ R.frames) (hloc : 200 ≤ R.locals) (hsize : lsA.size = c.maxLocals) (hlink : Cond.methodLink (tb_RN (tb_M y).1) idx Lib.objectInit ∈ lw_tbl) (hdg : decode (tb_bytes y) pc = .ok (.invokespecial idx, 3)) (hwt : ax_wt r ≤ 20)
    (ho : 27 ≤ o) (kk : W p l e R s m args below meth c H locs cells slots Q (F0 m (pc + 3) lsA (r.map (so_v ad)))) : W p l e R s m args below meth c H locs cells slots Q (F0 m pc lsA ((.inr (.inr (some o)) :: r : List ax_V).map (so_v ad))) := by
  obtain ⟨x1, x2, x3, x4, x5, x6, x7, x8, x9, x10, x11, x12, x13⟩ := id X
  have hq := x11.new ho
  generalize H0.size + (o - 27) = q at hq
  have hv : so_v ad (.inr (.inr (some o))) = .ref q := by show va_rf (ad o) = _; rw [hq]; rfl
  rw [List.map_cons, hv]
  exact W.objInit x1 x2 x4 (x10 _ hlink rfl) (x10 _ so_oinit.1 rfl) (x10 _ so_oinit.2 rfl) (g := F0 m pc lsA (.ref q :: r.map (so_v ad))) rfl hsize (a := q) (rest := r.map (so_v ad)) rfl hdg (by omega) (by
    show 2 * 0 + _ + 12 ≤ _
    rw [so_wt]; omega) kk
end SOY
