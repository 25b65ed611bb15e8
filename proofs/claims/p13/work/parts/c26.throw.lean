/-! A THROW OF ONE'S OWN. -/
section SOW
variable {p : Program} {l : Launch} {e : Env} {R : Room} {s : State} {m : MethodId} {args : Array Value} {below : List Frame} {meth : Method} {c : Code} {H : Heap} {locs : List Loc} {cells slots : Nat} {Q : State → Prop}
variable {pc y : Nat} {lsA : Array Slot} {ad : Nat → Option Nat} {h h' : ax_H} {H0 : Heap}
theorem so_lastcell {H : Heap} {cell : Cell} {a : Nat} (hs : H.size = a + 1) (hc : H[a]? = some cell) : H = H.pop.push cell := by
  apply Array.ext_getElem?
  intro i
  rw [Array.getElem?_push, Array.getElem?_pop, Array.size_pop]
  by_cases e : i = H.size - 1
  · rw [if_pos e, e, show H.size - 1 = a by omega]
    exact hc
  · rw [if_neg e]
    by_cases e2 : i < H.size - 1
    · rw [if_pos e2]
    · rw [if_neg e2]
      rw [Array.getElem?_eq_none]
      omega
theorem so_owns {x : Nat} {a : Array Value} {U : State} {own : String} {ic : Nat} (h1 : 14 ≤ x) (h2 : x < 17) (hg : ∀ w ∈ lw_tbl, so_gw w = true → w.before a U = true) (hs : ∀ c n d, Cond.laysStatic c n d ∈ lw_tbl → (Cond.laysStatic c n d).before a U = true) (hl : (Cond.methodLink own ic ⟨tb_RN x, "<init>", "(Ljava/lang/String;)V"⟩).before a U = true) (r1 : (Cond.isRef (.static "java/lang/Throwable" "UNASSIGNED_STACK" "[Ljava/lang/StackTraceElement;")).before a U = true) (r2 : (Cond.isRef (.static "java/lang/Throwable" "SUPPRESSED_SENTINEL" "Ljava/util/List;")).before a U = true) :
    (∀ w ∈ Bundle.ownAtoms own ic (tb_RN x) ow_names, w.before a U = true) ∧ Bundle.fit (tb_RN x) = true := by
  have h3 : x = 14 ∨ x = 15 ∨ x = 16 := by omega
  rcases h3 with rfl | rfl | rfl
  · exact ⟨ow_14 hg hs hl r1 r2, by decide +kernel⟩
  · exact ⟨ow_15 hg hs hl r1 r2, by decide +kernel⟩
  · exact ⟨ow_16 hg hs hl r1 r2, by decide +kernel⟩
/-- the state as it would be if the invocation had begun with all that is there now, but the last cell -/
def so_virt (s T : State) : State := { s with heap := T.heap.pop, slotsUsed := T.heap.pop.foldl (fun n c => n + c.slots.size) 0 }
theorem so_virt_stand {T : State} {cell : Cell} {a : Nat} (S : Stand p l e R s m args below meth c T locs cells slots) (hcells : cells ≤ R.cells) (hslots : slots ≤ R.slots) (hs : T.heap.size = a + 1) (hc : T.heap[a]? = some cell) :
    Stand p l e { R with cells := 0, slots := 0 } (so_virt s T) m args below meth c T [] 1 cell.slots.size := by
  have hH := so_lastcell hs hc
  have hbook := S.book
  have hroom := S.room
  have hu := S.used
  have hz := S.heapSize
  have hsame := S.same
  simp only [State.slotsTrue, beq_iff_eq] at hbook
  have hfold : T.heap.foldl (fun n c => n + c.slots.size) 0 = T.heap.pop.foldl (fun n c => n + c.slots.size) 0 + cell.slots.size := by
    conv => lhs; rw [hH]
    rw [Array.foldl_push]
  rw [hfold] at hbook
  have hsz : T.heap.pop.size = a := by rw [Array.size_pop, hs]; rfl
  have hdrop : (T.heap.toList.drop T.heap.pop.size).map (·.slots.size) = [cell.slots.size] := by
    rw [hsz]
    conv => lhs; rw [hH]
    rw [Array.toList_push, List.drop_append_of_le_length (by simp [hs])]
    rw [List.drop_of_length_le (by simp [hs])]
    simp
  refine ⟨S.admits, S.cas, S.clock, S.frames, ?_, S.hears, S.method, S.code, S.here, S.tail, S.warmed, S.limits, S.bytes, ?_, ?_, ?_, ?_, ?_, ?_⟩
  · simp only [State.hasRoom, Bool.and_eq_true, decide_eq_true_eq] at hroom ⊢
    obtain ⟨⟨⟨⟨q1, q2⟩, q3⟩, q4⟩, q5⟩ := hroom
    refine ⟨⟨⟨⟨q1, q2⟩, ?_⟩, ?_⟩, ?_⟩
    · show T.heap.pop.size + 0 ≤ _
      omega
    · show T.heap.pop.foldl (fun n c => n + c.slots.size) 0 + 0 ≤ _
      omega
    · simp [State.slotsTrue, so_virt]
  · exact hsame.1
  · show T.heap.pop.size ≤ T.heap.size
    omega
  · show T.heap.size ≤ T.heap.pop.size + 1
    omega
  · show T.slotsUsed = T.heap.pop.foldl (fun n c => n + c.slots.size) 0 + ((T.heap.toList.drop T.heap.pop.size).map (·.slots.size)).sum
    rw [hdrop, List.sum_singleton]
    exact hbook
  · show ((T.heap.toList.drop T.heap.pop.size).map (·.slots.size)).sum ≤ _
    rw [hdrop, List.sum_singleton]
    exact Nat.le_refl _
  · intro q cq hq
    have hq : T.heap.pop[q]? = some cq := hq
    refine ⟨cq, ?_, rfl, rfl, fun _ _ => rfl⟩
    show T.heap[q]? = some cq
    rw [Array.getElem?_pop] at hq
    split at hq
    · exact hq
    · cases hq
/-- one cell of six slots has been written: nothing else -/
theorem so_same6 {T U : State} {cell ce : Cell} {a : Nat} {fU : List Frame} (S : Stand p l e R s m args below meth c T locs cells slots) (hT : T.heap[a]? = some cell) (hce : U.heap[a]? = some ce) (he : ce = { cell with slots := ce.slots }) (h6 : ce.slots.size = cell.slots.size)
    (hsz : U.heap.size = T.heap.size) (hne : ∀ q, q ≠ a → U.heap[q]? = T.heap[q]?) (hu : U.slotsUsed = T.slotsUsed) (h1 : ({ U with vm := s.vm } : State) = { s.setFrames fU with heap := U.heap, slotsUsed := U.slotsUsed }) (hf : U.frames = fU) :
    s.sameButNew ({ U with vm := s.vm } : State) (locs ++ (List.range cell.slots.size).map (fun i => ⟨a, i⟩)) cells slots := by
  obtain ⟨-, g2, g3, g4, g5, g6⟩ := S.same
  have g2 : s.heap.size ≤ T.heap.size := g2
  have g3 : T.heap.size ≤ s.heap.size + cells := g3
  have g4 : T.slotsUsed = s.slotsUsed + ((T.heap.toList.drop s.heap.size).map (·.slots.size)).sum := g4
  have g5 : ((T.heap.toList.drop s.heap.size).map (·.slots.size)).sum ≤ slots := g5
  have hm : U.heap.toList.map (·.slots.size) = T.heap.toList.map (·.slots.size) := by
    apply List.ext_getElem?
    intro i
    rw [List.getElem?_map, List.getElem?_map, Array.getElem?_toList, Array.getElem?_toList]
    by_cases e : i = a
    · subst e
      rw [hce, hT]
      exact congrArg some h6
    · rw [hne i e]
  have hd : (U.heap.toList.drop s.heap.size).map (·.slots.size) = (T.heap.toList.drop s.heap.size).map (·.slots.size) := by rw [List.map_drop, List.map_drop, hm]
  refine ⟨?_, ?_, ?_, ?_, ?_, fun q cq hq => ?_⟩
  · show ({ U with vm := s.vm } : State) = { s.setFrames U.frames with heap := U.heap, slotsUsed := U.slotsUsed }
    rw [hf]
    exact h1
  · show s.heap.size ≤ U.heap.size
    omega
  · show U.heap.size ≤ s.heap.size + cells
    omega
  · show U.slotsUsed = s.slotsUsed + ((U.heap.toList.drop s.heap.size).map (·.slots.size)).sum
    rw [hd, hu]
    exact g4
  · show ((U.heap.toList.drop s.heap.size).map (·.slots.size)).sum ≤ slots
    rw [hd]
    exact g5
  · obtain ⟨c', i1, i2, i3, i4⟩ := g6 q cq hq
    have i1 : T.heap[q]? = some c' := i1
    by_cases e : q = a
    · subst e
      cases hT.symm.trans i1
      refine ⟨ce, hce, ?_, h6.trans i3, fun i hi => ?_⟩
      · rw [he, i2]
      · have hi2 : ¬ i < cell.slots.size := fun hlt => hi (List.mem_append_right _ (List.mem_map.mpr ⟨i, List.mem_range.mpr hlt, rfl⟩))
        rw [Array.getElem?_eq_none (by omega), Array.getElem?_eq_none (by omega)]
    · exact ⟨c', (hne q e).trans i1, i2, i3, fun i hi => i4 i (fun hh => hi (List.mem_append_left _ hh))⟩
/-- the exception is made -/
theorem so_Rel.thrown {U : Heap} {o r x : Nat} {ce : Cell} (hAD : so_AD ad H0.size) (hR : so_Rel s ad H0 h H) (ho : 27 ≤ o) (hx : ax_ex h o = 2 * x + 1) (hr : ad o = some r) (hsz : U.size = H.size) (hne : ∀ q, q ≠ r → U[q]? = H[q]?) (hce : U[r]? = some ce) (hcls : s.vm.findClass (tb_RN x) = some ce.cls) (hvm : ce.vm = .none) :
    so_Rel s ad H0 (ax_sete h o (2 * x + 2)) U := by
  have hin : o < 27 + h.1 := by
    rcases Nat.lt_or_ge o (27 + h.1) with q | q
    · exact q
    · have := (hR.2.2.2.2.1 o q).2.1
      omega
  obtain ⟨hkd, -⟩ := hR.2.2.2.2.2.2.1 o (by omega)
  have hrr : H0.size ≤ r := by
    have := hAD.new ho
    rw [hr] at this
    have := Option.some.inj this
    omega
  have hex : ∀ b, ax_ex (ax_sete h o (2 * x + 2)) b = if b = o then 2 * x + 2 else ax_ex h b := fun b => rfl
  refine ⟨hsz.trans hR.1, fun q hq => ?_, fun a ha => ?_, hR.2.2.2.1, fun a ha => ?_, hR.2.2.2.2.2.1, fun a ha => ?_, hR.2.2.2.2.2.2.2⟩
  · rw [hne q (by omega)]
    exact hR.2.1 q hq
  · by_cases e : a = o
    · subst e
      refine ⟨fun ty hty => ?_, fun ci hci => ?_, fun z hz => ?_, fun z hz => ?_⟩
      · have hty : so_ty (ax_kd h a).1 = some ty := hty
        rw [hkd] at hty
        cases hty
      · have hci : (ax_kd h a).1 = 100 + ci := hci
        rw [hkd] at hci
        have hci : 50 = 100 + ci := hci
        omega
      · rw [hex, if_pos rfl] at hz
        omega
      · rw [hex, if_pos rfl] at hz
        have : z = x := by omega
        subst this
        exact ⟨r, ce, hr, hce, hcls, hvm⟩
    · refine (hR.2.2.1 a ha).kept (fun g q hq => hne q (hAD.apart ho e (g.ne hR.2.2.2.2) hq hr)) rfl (fun _ => rfl) (fun _ => rfl) ?_
      rw [hex, if_neg e]
  · have e : a ≠ o := by
      have : 27 + h.1 ≤ a := ha
      omega
    obtain ⟨g1, g2, g3⟩ := hR.2.2.2.2.1 a ha
    refine ⟨g1, ?_, g3⟩
    rw [hex, if_neg e]
    exact g2
  · by_cases e : a = o
    · subst e
      exact ⟨hkd, ho⟩
    · rw [hex, if_neg e] at ha
      exact hR.2.2.2.2.2.2.1 a ha
end SOW
