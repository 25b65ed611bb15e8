/-! A CALL's ENTRY, whatever its kind. -/
theorem so_ctors : (List.range 302).all (fun b => !(tb_M b).2.2.2.1 || ((tb_M b).2.2.2.2.1.isEmpty && (tb_ret b).isNone)) = true := by decide +kernel
theorem so_ctor {b : Nat} (hb : b < 302) (hi : (tb_M b).2.2.2.1 = true) : (tb_M b).2.2.2.2.1 = [] ∧ tb_ret b = none := by
  have h := List.all_eq_true.mp so_ctors b (List.mem_range.mpr hb)
  rw [hi] at h
  simp only [Bool.not_true, Bool.false_or, Bool.and_eq_true, List.isEmpty_iff, Option.isNone_iff_eq_none] at h
  exact h
section SOa
variable {p : Program} {l : Launch} {e : Env} {R : Room} {s : State} {m : MethodId} {args : Array Value} {below : List Frame} {meth : Method} {c : Code} {H : Heap} {locs : List Loc} {cells slots : Nat} {Q : State → Prop}
variable {pc y : Nat} {lsA : Array Slot} {ad : Nat → Option Nat} {h h' : ax_H} {H0 : Heap}
/-- the receiver -/
theorem so_recv {as r st : List ax_V} {mode b n : Nat} (hm : mode ≠ 2) (hR : so_Rel s ad H0 h H) (hargs : ax_args mode b n st h = some (as, r)) :
    ∃ (o q : Nat) (as2 : List ax_V) (cell : Cell), as = .inr (.inr (some o)) :: as2 ∧ st = as2.reverse ++ .inr (.inr (some o)) :: r ∧ as2.length = n ∧ so_v ad (.inr (.inr (some o))) = .ref q ∧ H[q]? = some cell ∧ cell.vm.isStatics = false ∧ s.vm.findClass (tb_RN (tb_M b).1) = some cell.cls := by
  unfold ax_args at hargs
  split at hargs
  · cases hargs
  · rename_i as2 r2 hp
    rw [if_neg hm] at hargs
    split at hargs
    · rename_i o q2
      split at hargs
      · rename_i hk
        cases hargs
        obtain ⟨e1, e2⟩ := so_pop hp
        have hne : ax_kd h o ≠ (50, 0) := fun e => by rw [e] at hk; have : 50 = 100 + ax_cls b := hk; omega
        obtain ⟨q, hq, cell, c1, c2, c3, c4, -⟩ := (hR.2.2.1 o (so_in hR.2.2.2.2 hne)).2.1 _ hk
        refine ⟨o, q, as2, cell, rfl, e1, e2, ?_, c1, c4, c2⟩
        show va_rf (ad o) = _
        rw [hq]
        rfl
      · cases hargs
    · cases hargs
theorem so_entA {i : Instr} {a b k : Nat} {d : Int} {as r st : List ax_V} (X : so_Ctx p e s m args meth c ad H0 y) (hR : so_Rel s ad H0 h H) (hMw : so_Mws) (hg : ax_grp i = 3) (h5 : a ≠ 5) (h6 : a ≠ 6) (h7 : a ≠ 7) (htl : tb_l (tb_M y).1 (tb_M y).2.2.2.1 (i, a, b, k, d) = true)
    (hdg : decode (tb_bytes y) pc = .ok (i, 3)) (hargs : ax_args a b d.toNat st h = some (as, r)) :
    b < 302 ∧ b ≠ tb_law ∧ ∀ T : State, T.heap = H → Stand p l e R s m args below meth c T locs cells slots → so_Ent p l e R s m args below meth c T locs cells slots (F0 m pc lsA (st.map (so_v ad))) b (as.map (so_v ad)).toArray (r.map (so_v ad)) := by
  cases i with
  | invokevirtual idx =>
    simp only [tb_l, Bool.and_eq_true, decide_eq_true_eq, Bool.not_eq_true'] at htl
    obtain ⟨⟨⟨⟨⟨⟨t1, t2⟩, t3⟩, t4⟩, t5⟩, t6⟩, t7⟩ := htl
    subst t1
    refine ⟨t3, t4, fun T hT S => ?_⟩
    obtain ⟨o, q, as2, cell, e1, e2, e3, e4, e5, e6, e7⟩ := so_recv (by decide) hR hargs
    rw [e1, e2, List.map_cons, e4]
    rw [← hT] at e5
    exact so_entV (As := as2.map (so_v ad)) (rest := r.map (so_v ad)) X S (hMw b t3 t4) t6 t7 (so_lk t2) e5 e6 e7 (by rw [List.length_map, e3]; exact t5.symm) (g := F0 m pc lsA _) rfl (by
      show List.map (so_v ad) (as2.reverse ++ .inr (.inr (some o)) :: r) = _
      rw [List.map_append, List.map_cons, e4, List.map_reverse]) hdg
  | invokestatic idx =>
    simp only [tb_l, if_neg h6, Bool.and_eq_true, decide_eq_true_eq] at htl
    obtain ⟨⟨⟨⟨⟨t1, t2⟩, t3⟩, t4⟩, t5⟩, t6⟩ := htl
    subst t1
    refine ⟨t3, t4, fun T hT S => ?_⟩
    unfold ax_args at hargs
    split at hargs
    · cases hargs
    · rename_i as2 r2 hp
      rw [if_pos rfl] at hargs
      cases hargs
      obtain ⟨e1, e2⟩ := so_pop hp
      rw [e1]
      exact so_entS (As := as.map (so_v ad)) (rest := r.map (so_v ad)) X S (hMw b t3 t4) t6 (so_lk t2) (by rw [List.length_map, e2]; exact t5.symm) (g := F0 m pc lsA _) rfl (by
        show List.map (so_v ad) (as.reverse ++ r) = _
        rw [List.map_append, List.map_reverse]) hdg
  | invokespecial idx =>
    simp only [tb_l, if_neg h5, if_neg h7, Bool.and_eq_true, decide_eq_true_eq, Bool.not_eq_true'] at htl
    obtain ⟨⟨⟨⟨⟨t1, t3⟩, t4⟩, t5⟩, t6⟩, t2⟩ := htl
    have hm2 : a ≠ 2 := by
      intro q
      subst q
      simp at t2
    have hlink : Cond.methodLink (tb_RN (tb_M y).1) idx (tb_name b) ∈ lw_tbl ∨ ∃ host, Cond.methodLinkNest (tb_RN (tb_M y).1) idx (tb_name b) host ∈ lw_tbl := by
      by_cases h3 : a = 3
      · rw [if_pos h3] at t2
        exact Or.inl (so_lk t2)
      · rw [if_neg h3, Bool.and_eq_true] at t2
        exact Or.inr ⟨_, so_lk t2.2⟩
    refine ⟨t3, t4, fun T hT S => ?_⟩
    obtain ⟨o, q, as2, cell, e1, e2, e3, e4, e5, e6, e7⟩ := so_recv hm2 hR hargs
    rw [e1, e2, List.map_cons, e4]
    obtain ⟨c1, c2⟩ := so_ctor t3 t1
    exact so_entI (As := as2.map (so_v ad)) (rest := r.map (so_v ad)) X S (hMw b t3 t4) t6 t1 c1 c2 hlink (by rw [List.length_map, e3]; exact t5.symm) (g := F0 m pc lsA _) rfl (by
      show List.map (so_v ad) (as2.reverse ++ .inr (.inr (some o)) :: r) = _
      rw [List.map_append, List.map_cons, e4, List.map_reverse]) hdg
  | _ => exact absurd hg (by simp [ax_grp])
/-- what an argument list keeps -/
theorem so_args_ok {mode b n : Nat} {as r st : List ax_V} (okS : so_okS st) (hargs : ax_args mode b n st h = some (as, r)) : so_okS as ∧ so_okS r := by
  unfold ax_args at hargs
  split at hargs
  · cases hargs
  · rename_i as2 r2 hp
    obtain ⟨e1, e2⟩ := so_pop hp
    have ok2 : so_okS as2 ∧ so_okS r2 := by
      rw [e1] at okS
      exact ⟨fun v hv => okS v (List.mem_append_left _ (List.mem_reverse.mpr hv)), fun v hv => okS v (List.mem_append_right _ hv)⟩
    split at hargs
    · cases hargs
      exact ok2
    · split at hargs
      · split at hargs
        · cases hargs
          exact ⟨so_okS.cons trivial ok2.1, ok2.2.tl⟩
        · cases hargs
      · cases hargs
end SOa
