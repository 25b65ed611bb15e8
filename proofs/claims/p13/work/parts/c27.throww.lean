/-! THE THROW's ROW. -/
section SOX
variable {p : Program} {l : Launch} {e : Env} {R : Room} {s : State} {m : MethodId} {args : Array Value} {below : List Frame} {meth : Method} {c : Code} {H : Heap} {locs : List Loc} {cells slots : Nat} {Q : State → Prop}
variable {pc y : Nat} {lsA : Array Slot} {ad : Nat → Option Nat} {h h' : ax_H} {H0 : Heap}
theorem so_throwW {ic x : Nat} {st : List ax_V} {oc : ax_O} (X : so_Ctx p e s m args meth c ad H0 y) (hR : so_Rel s ad H0 h H) (hlo : ∀ q ∈ locs, H0.size ≤ q.base) (hcells : cells ≤ R.cells) (hslots : slots ≤ R.slots) (hfr : 10 ≤ R.frames) (hloc : 200 ≤ R.locals) (hsize : lsA.size = c.maxLocals)
    (hx1 : 14 ≤ x) (hx2 : x < 17) (hlink : Cond.methodLink (tb_RN (tb_M y).1) ic ⟨tb_RN x, "<init>", "(Ljava/lang/String;)V"⟩ ∈ lw_tbl) (hdg : decode (tb_bytes y) pc = .ok (.invokespecial ic, 3)) (hda : decode (tb_bytes y) (pc + 3) = .ok (.athrow, 1))
    (hth : ax_throw (tb_M y) pc x st h = some (oc, h')) :
    W p l e R s m args below meth c H locs cells slots (so_Z below ad H0 s oc h' cells slots) (F0 m pc lsA (st.map (so_v ad))) := by
  intro T hT S
  obtain ⟨x1, x2, x3, x4, x5, x6, x7, x8, x9, x10, x11, x12, x13⟩ := id X
  unfold ax_throw at hth
  split at hth
  · rename_i ms o o2 r
    split at hth
    · rename_i hcond
      obtain ⟨rfl, hex, ⟨ho, hlast⟩, hwt, -, htab⟩ := hcond
      cases hth
      obtain ⟨ra, cX, kX, hra, hfX, hkX, hcell⟩ := (hR.2.2.1 o (by omega)).2.2.1 x hex
      rw [← hT] at hR hcell
      have hra2 := x11.new ho
      rw [hra] at hra2
      have hra2 := Option.some.inj hra2
      have hTs : T.heap.size = ra + 1 := by rw [hR.1]; omega
      have S2 := so_virt_stand S hcells hslots hTs hcell
      obtain ⟨s0, a0, hW0, hH0, hws, hr1, hr2⟩ := x12.2.2.2.1
      have hkeep : Jvm.Free.StaticsKept s0 (so_virt s T) := Jvm.Free.StaticsKept.of_kept (fun q cq hq => by
        show T.heap.pop[q]? = some cq
        have hlt : q < H0.size := by rw [← hH0]; exact (Array.getElem?_eq_some_iff.mp hq).1
        have hlt2 : q < T.heap.size - 1 := by rw [hTs]; exact Nat.lt_of_lt_of_le hlt (by rw [hra2]; exact Nat.le_add_right _ _)
        rw [Array.getElem?_pop, if_pos hlt2, hR.2.1 q hlt, ← hH0]
        exact hq)
      have hgood : ∀ w ∈ lw_tbl, so_gw w = true → w.before args (so_virt s T) = true := so_words (s := s) (U := so_virt s T) (State.WarmedH.refl s) x10
      have halike : s0.vm.Alike (so_virt s T).vm := hW0.alike
      obtain ⟨hat, hfit⟩ := so_owns hx1 hx2 hgood (fun cc n d hm => Jvm.Free.laysStatic_keep (a' := args) halike hkeep (hws _ hm)) (hgood _ hlink rfl) (Jvm.Free.isRefStatic_keep (a' := args) halike hkeep hr1) (Jvm.Free.isRefStatic_keep (a' := args) halike hkeep hr2)
      have hnm : ∀ n ∈ ow_names, Bundle.fit n = true := by decide +kernel
      have hst : (([.inr (.inr (some ms)), .inr (.inr (some o)), .inr (.inr (some o))] : List ax_V) ++ r).map (so_v ad) = va_rf (ad ms) :: .ref ra :: .ref ra :: r.map (so_v ad) := by
        show va_rf (ad ms) :: va_rf (ad o) :: va_rf (ad o) :: _ = _
        rw [hra]
        rfl
      have hmsg : (va_rf (ad ms)).isRef = true := by
        cases ad ms <;> rfl
      obtain ⟨U, k1, k2, k3, k4, k5, ce, k6, k7⟩ := S2.ctorThrowS (own := tb_RN (tb_M y).1) (cls := tb_RN x) (names := ow_names) (ic := ic) x1 x9 x4 hfit hnm hat (fun q hq => by cases hq) (a := ra) (cX := cX) (kX := kX) hfX hkX hcell
        (by show T.heap.pop.size ≤ ra; rw [Array.size_pop]; omega) (msg := va_rf (ad ms)) hmsg (g := F0 m pc lsA (va_rf (ad ms) :: .ref ra :: .ref ra :: r.map (so_v ad))) rfl hsize rfl rfl (rest := r.map (so_v ad)) rfl (by rw [x2]; exact hdg) (by rw [x2]; exact hda)
        (fun q hq => by rw [x8, htab] at hq; cases hq) (by show 2 + 3 < R.frames; omega) (by
          show 2 * 0 + (1 + ((r.map (so_v ad)).map fun v => v.category).sum) + (13 * (2 + 1) + 42) ≤ R.locals
          rw [so_wt]; omega) x6
      obtain ⟨f1, f2, f3, f4, f5, f6⟩ := k5
      have hps : T.heap.pop.size = ra := by rw [Array.size_pop, hTs]; rfl
      have f3 : U.heap.size ≤ T.heap.pop.size + 1 := f3
      have hlt := (Array.getElem?_eq_some_iff.mp k6).1
      have hUs : U.heap.size = T.heap.size := by omega
      have hne : ∀ q, q ≠ ra → U.heap[q]? = T.heap[q]? := fun q hq => by
        by_cases e : q < ra
        · have e2 : q < T.heap.size - 1 := by rw [hTs]; exact e
          have e3 : T.heap.pop[q]? = T.heap[q]? := by rw [Array.getElem?_pop, if_pos e2]
          have hqT : q < T.heap.size := by omega
          have e4 : T.heap[q]? = some T.heap[q] := Array.getElem?_eq_getElem hqT
          obtain ⟨c', i1, i2, i3, i4⟩ := f6 q T.heap[q] (e3.trans e4)
          have i1 : U.heap[q]? = some c' := i1
          rw [i1, e4, i2]
          have : c'.slots = T.heap[q].slots := by
            apply Array.ext_getElem?
            intro i
            exact i4 i (fun hh => by cases hh)
          rw [this]
        · rw [Array.getElem?_eq_none (by omega), Array.getElem?_eq_none (by omega)]
      obtain ⟨c1, kx2, hc1, hk1, -, -, -, hn6⟩ := Cond.instantiable_spec (x10 _ (so_xk hx1 hx2).2 rfl)
      cases Option.some.inj (hc1.symm.trans hfX)
      cases Option.some.inj (hk1.symm.trans hkX)
      have hcls : s.vm.findClass (tb_RN x) = some ce.cls := k7.cls
      have hcc : ce.cls = cX := Option.some.inj (hcls.symm.trans hfX)
      have he : ce = { blank cX kX with slots := ce.slots } := by
        have q1 := k7.monitor
        have q2 := k7.hash
        have q3 := k7.vm
        obtain ⟨z1, z2, z3, z4, z5⟩ := ce
        simp only at q1 q2 q3 hcc
        subst q1 q2 q3 hcc
        rfl
      have h6 : ce.slots.size = (blank cX kX).slots.size := by
        rw [k7.size]
        show 6 = (kX.instanceTypes.map defaultValue).size
        rw [Array.size_map, hn6]
      have hu : U.slotsUsed = T.slotsUsed := by
        have g4 := S2.same.2.2.2.1
        have g4 : T.slotsUsed = (so_virt s T).slotsUsed + ((T.heap.toList.drop T.heap.pop.size).map (·.slots.size)).sum := g4
        have f4 : U.slotsUsed = (so_virt s T).slotsUsed + ((U.heap.toList.drop T.heap.pop.size).map (·.slots.size)).sum := f4
        have hm : U.heap.toList.map (·.slots.size) = T.heap.toList.map (·.slots.size) := by
          apply List.ext_getElem?
          intro i
          rw [List.getElem?_map, List.getElem?_map, Array.getElem?_toList, Array.getElem?_toList]
          by_cases e : i = ra
          · subst e
            rw [k6, hcell]
            exact congrArg some h6
          · rw [hne i e]
        rw [g4, f4, List.map_drop, List.map_drop, hm]
      refine ⟨U, ?_, k2, ?_, k4, ⟨_, so_same6 S hcell k6 he h6 hUs hne hu f1 rfl, fun q hq => ?_⟩, hR.thrown x11 ho hex hra hUs hne k6 hcls k7.vm, (fun v hv => by cases hv), fun q hq => ?_⟩
      · rw [← hst] at k1
        exact k1
      · show Ended U below (.threw (so_adr ad o))
        unfold so_adr
        rw [hra]
        exact k3
      · rcases List.mem_append.mp hq with hh | hh
        · exact hlo q hh
        · obtain ⟨i, -, rfl⟩ := List.mem_map.mp hh
          show H0.size ≤ ra
          omega
      · cases hq
        exact ⟨x, hx1, hx2, if_pos rfl, ho⟩
    · cases hth
  · cases hth
end SOX
