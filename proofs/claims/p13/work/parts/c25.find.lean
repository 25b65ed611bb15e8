/-! WHERE AN EXCEPTION IS CAUGHT. -/
section SOF
variable {p : Program} {l : Launch} {e : Env} {R : Room} {s : State} {m : MethodId} {args : Array Value} {below : List Frame} {meth : Method} {c : Code} {H : Heap} {locs : List Loc} {cells slots : Nat} {Q : State → Prop}
variable {pc y : Nat} {lsA : Array Slot} {ad : Nat → Option Nat} {h h2 : ax_H} {H0 : Heap}
theorem so_xk {x : Nat} (h1 : 14 ≤ x) (h2 : x < 17) : Cond.castable (tb_RN x) (tb_RN x) ∈ lw_tbl ∧ Cond.instantiable (tb_RN x) 6 ∈ lw_tbl := by
  have h3 : x = 14 ∨ x = 15 ∨ x = 16 := by omega
  rcases h3 with rfl | rfl | rfl
  · exact ⟨ow_k14, xw_14.1⟩
  · exact ⟨ow_k15, xw_15.1⟩
  · exact ⟨ow_k16, xw_16.1⟩
theorem so_goN {E : CtlPost} {d : Bool} {acts : List Action} {s : State} {f : JFrame} {a : Addr} {Q : Handler → Pre} {x : ExceptionTableEntry} {t : List ExceptionTableEntry} (hx : covers x f.pc = false) :
    wp (findHandler.go f a (x :: t)) Q E e d acts s ↔ wp (findHandler.go f a t) Q E e d acts s := by
  simp only [covers] at hx
  simp [findHandler.go, hx]
theorem so_findgo (hpl : e.platform.magicAccessors = ({} : Platform).magicAccessors) {cls : Nat} {f : JFrame} {a : Addr} {cell : Cell} {z t : Nat} (hz1 : 14 ≤ z) (hz2 : z < 17) (hown : s.vm.findClass (tb_RN cls) = some f.method.cls)
    (hw : ∀ w ∈ lw_tbl, so_gw w = true → w.before args s = true) (hN : ∀ x y, 14 ≤ x → x < 17 → 14 ≤ y → y < 17 → x ≠ y → va_Nc (tb_RN x) (tb_RN y) s)
    (hcls : s.vm.findClass (tb_RN z) = some cell.cls) (hvm : cell.vm = .none) :
    ∀ (hs : List (Nat × Nat × Nat × Nat × Nat × Nat)) (U : State), s.WarmedH U.vm → U.heap[a]? = some cell →
      (hs.all (fun q => decide (q.2.2.2.1 ≠ 0) && decide (14 ≤ q.2.2.2.2.1) && decide (q.2.2.2.2.1 < 17) && tb_k q.2.2.2.2.2 (16, cls, q.2.2.2.1, 0, q.2.2.2.2.1, 0)) = true) → ax_catch hs f.pc (2 * z + 2) = some t →
      ∃ vm', s.WarmedH vm' ∧ ∀ (Q : Handler → Pre) (E : CtlPost) (d : Bool) (acts : List Action), wp (findHandler.go f a (hs.map (fun q => ⟨q.1, q.2.1, q.2.2.1, q.2.2.2.1⟩))) Q E e d acts U ↔ Q (.found t) d acts (U.setVm vm') := by
  intro hs
  induction hs with
  | nil => intro U _ _ _ hc; cases hc
  | cons q r ih =>
    intro U hW hcell hall hc
    obtain ⟨s1, e1, t1, ct, x, lk⟩ := q
    rw [List.all_cons, Bool.and_eq_true] at hall
    obtain ⟨hq, hall⟩ := hall
    simp only [Bool.and_eq_true, decide_eq_true_eq] at hq
    obtain ⟨⟨⟨q1, q2⟩, q3⟩, q4⟩ := hq
    have q5 : Cond.classLink (tb_RN cls) ct (tb_RN x) ∈ lw_tbl := so_lk q4
    simp only [ax_catch] at hc
    rw [List.map_cons]
    by_cases hcov : s1 ≤ f.pc ∧ f.pc < e1
    · have hx : covers ⟨s1, e1, t1, ct⟩ f.pc = true := by simp [covers, hcov.1, hcov.2]
      obtain ⟨cc, hcc, hlinks⟩ := Cond.classLink_spec hown (hw _ q5 rfl) e.platform hpl
      obtain ⟨g1, g2, g3⟩ := State.classEntry (e := e) hW hlinks
      obtain ⟨k1, k2⟩ := so_xk hz1 hz2
      obtain ⟨j1, j2⟩ := so_xk q2 q3
      obtain ⟨cz, kz, hcz, hkz, -⟩ := Cond.instantiable_spec (hw _ k2 rfl)
      obtain ⟨cx, kx, hcx, hkx, -⟩ := Cond.instantiable_spec (hw _ j2 rfl)
      cases Option.some.inj (hcz.symm.trans hcls)
      cases Option.some.inj (hcx.symm.trans hcc)
      obtain ⟨kz', hkz', -⟩ := g2.alike.2.2 _ _ hkz
      obtain ⟨kx', hkx', -⟩ := g2.alike.2.2 _ _ hkx
      have hgo := fun (Q : Handler → Pre) (E : CtlPost) (d : Bool) (acts : List Action) => so_go (E := E) (e := e) (d := d) (acts := acts) (s := U) (f := f) (a := a) (Q := Q) (t := r.map (fun q => ⟨q.1, q.2.1, q.2.2.1, q.2.2.2.1⟩)) hx q1 g1 (by rw [g2.2.1, hW.2.1]; exact Nat.le_refl _) hcell (fun k e => by rw [hvm] at e; cases e) ⟨_, hkz'⟩ ⟨_, hkx'⟩
      by_cases hxz : x = z
      · subst hxz
        rw [if_pos ⟨hcov.1, hcov.2, rfl⟩] at hc
        cases hc
        obtain ⟨c3, c4, hc3, hc4, hasg⟩ := Cond.castable_spec (hw _ k1 rfl)
        cases Option.some.inj (hc3.symm.trans hcls)
        cases Option.some.inj (hc4.symm.trans hcc)
        refine ⟨_, g2, fun Q E d acts => ?_⟩
        rw [hgo Q E d acts, if_pos (by rw [g2.alike.assignable]; exact hasg)]
      · rw [if_neg (fun q => hxz (by omega))] at hc
        obtain ⟨c3, c4, hc3, hc4, hasg⟩ := hN z x hz1 hz2 q2 q3 (fun e => hxz e.symm)
        cases Option.some.inj (hc3.symm.trans hcls)
        cases Option.some.inj (hc4.symm.trans hcc)
        obtain ⟨vm', i1, i2⟩ := ih (U.setVm (U.vm.noted f.method.cls ct (.cls cc))) g2 hcell hall hc
        refine ⟨vm', i1, fun Q E d acts => ?_⟩
        rw [hgo Q E d acts, if_neg (by rw [g2.alike.assignable, hasg]; exact Bool.false_ne_true)]
        exact i2 Q E d acts
    · rw [if_neg (fun q => hcov ⟨q.1, q.2.1⟩)] at hc
      obtain ⟨vm', i1, i2⟩ := ih U hW hcell hall hc
      refine ⟨vm', i1, fun Q E d acts => ?_⟩
      rw [so_goN]
      · exact i2 Q E d acts
      · simp only [covers]
        by_cases a1 : s1 ≤ f.pc
        · have : ¬ f.pc < e1 := fun q => hcov ⟨a1, q⟩
          simp [this]
        · simp [a1]
theorem so_xo_in {h : ax_H} (hr : so_rest h) {x z : Nat} (he : ax_ex h x = 2 * z + 2) : x < 27 + h.1 := by
  rcases Nat.lt_or_ge x (27 + h.1) with q | q
  · exact q
  · have := (hr.1 x q).2.1
    omega
theorem so_handler {T : State} {x z t : Nat} {stk : List Value} (X : so_Ctx p e s m args meth c ad H0 y) (S : Stand p l e R s m args below meth c T locs cells slots) (hR : so_Rel s ad H0 h T.heap)
    (h1 : 14 ≤ z) (h2 : z < 17) (hx : ax_ex h x = 2 * z + 2) (hc : ax_catch (tb_M y).2.2.2.2.1 pc (ax_ex h x) = some t)
    (kk : W p l e R s m args below meth c T.heap locs cells slots Q (F0 m t lsA [so_v ad (.inr (.inr (some x)))])) :
    ∃ t, Steps p.tables e below ((T.setTop (F0 m pc lsA stk)).pushFrame (.throwing (so_adr ad x))) t ∧ Q t := by
  obtain ⟨x1, x2, x3, x4, x5, x6, x7, x8, x9, x10, x11, x12, x13⟩ := id X
  obtain ⟨r, cell, hr, hcell, hcls, hvm⟩ := (hR.2.2.1 x (so_xo_in hR.2.2.2.2 hx)).2.2.2 z hx
  have ha : so_adr ad x = r := by unfold so_adr; rw [hr]; rfl
  have hv : so_v ad (.inr (.inr (some x))) = .ref r := by show va_rf (ad x) = _; rw [hr]; rfl
  rw [ha]
  rw [hv] at kk
  rw [hx] at hc
  have hpl : e.platform.magicAccessors = ({} : Platform).magicAccessors := by rw [S.admits.platform]
  unfold tb_mok at x13
  rw [Bool.and_eq_true] at x13
  obtain ⟨vm', w1, w2⟩ := so_findgo (e := e) (args := args) hpl (cls := (tb_M y).1) (f := F0 m pc lsA stk) (a := r) (cell := cell) h1 h2 x4 x10 x12.2.2.2.2.2 hcls hvm (tb_M y).2.2.2.2.1 ((T.setTop (F0 m pc lsA stk)).pushFrame (.throwing r))
    (by simpa [State.pushFrame, State.setFrames, State.setTop, State.modifyTopJava] using S.warmed) (by simpa [State.pushFrame, State.setFrames, State.setTop, State.modifyTopJava] using hcell) x13.2 hc
  obtain ⟨t2, a1, b1⟩ := kk (T.setVm vm') rfl (S.noted w1)
  refine ⟨t2, so_caught (g := F0 m pc lsA stk) (c := c) (a := r) S.here (pc := t) (vm' := vm') (fun Q E d acts => ?_) a1, b1⟩
  rw [← x8] at w2
  have hm : ((T.setTop (F0 m pc lsA stk)).pushFrame (.throwing r)).vm.method? (F0 m pc lsA stk).method = some meth := by
    have : ((T.setTop (F0 m pc lsA stk)).pushFrame (.throwing r)).vm = T.vm := by simp [State.pushFrame, State.setFrames, State.setTop, State.modifyTopJava]
    rw [this]
    exact S.method'
  exact (W.findHandler_eq hm S.code).trans (w2 Q E d acts)
theorem so_leave {T : State} {x : Nat} {stk : List Value} (X : so_Ctx p e s m args meth c ad H0 y) (S : Stand p l e R s m args below meth c T locs cells slots) (hR : so_Rel s ad H0 h T.heap) (hlo : ∀ q ∈ locs, H0.size ≤ q.base) (hn : (tb_M y).2.2.2.2.1 = []) (hfo : so_fo (.inr x) h) :
    ∃ t, Steps p.tables e below ((T.setTop (F0 m pc lsA stk)).pushFrame (.throwing (so_adr ad x))) t ∧ so_Z below ad H0 s (.inr x) h cells slots t := by
  obtain ⟨x1, x2, x3, x4, x5, x6, x7, x8, x9, x10, x11, x12, x13⟩ := id X
  rw [hn] at x8
  obtain ⟨g1, g2, g3, g4, g5⟩ := S.leaveThrown (so_adr ad x) (g := F0 m pc lsA stk) rfl rfl rfl (fun q hq => by rw [x8] at hq; cases hq) x6
  exact ⟨_, g1, g2, g3, g4, ⟨locs, g5, hlo⟩, hR, hfo⟩
end SOF
