/-! ANY JUMP. -/
def ax_sw (i : Instr) : Bool := match i with
  | .tableswitch _ _ _ _ => true
  | .lookupswitch _ _ => true
  | _ => false
/-- no jump goes below 0 -/
def ax_jok (i : Instr) (pc : Nat) : Bool := match i with
  | .goto off => decide (0 ≤ (pc : Int) + off)
  | .ifCond _ off => decide (0 ≤ (pc : Int) + off)
  | .if_icmp _ off => decide (0 ≤ (pc : Int) + off)
  | .tableswitch d _ _ offs => decide (0 ≤ (pc : Int) + d) && offs.toList.all (fun off => decide (0 ≤ (pc : Int) + off))
  | .lookupswitch d ps => decide (0 ≤ (pc : Int) + d) && ps.toList.all (fun q => decide (0 ≤ (pc : Int) + q.2))
  | _ => true
theorem so_to {pc : Nat} {off : Int} (h : 0 ≤ (pc : Int) + off) : (pc : Int) + off = ((ax_to pc off : Nat) : Int) := by
  unfold ax_to
  omega
theorem so_offs (d : Int) (k : Int) (P : Int → Prop) (hd : P d) : ∀ l : List (Int × Int), (∀ q ∈ l, P q.2) → P (Op.lookupswitch.offset l d k) := by
  intro l
  induction l with
  | nil => intro _; exact hd
  | cons a r ih =>
    intro h
    obtain ⟨a1, a2⟩ := a
    rw [Op.lookupswitch.offset_cons]
    split
    · exact h _ List.mem_cons_self
    · exact ih (fun q hq => h q (List.mem_cons_of_mem _ hq))
section SOJ
variable {p : Program} {l : Launch} {e : Env} {R : Room} {s : State} {m : MethodId} {args : Array Value} {below : List Frame} {meth : Method} {c : Code} {H : Heap} {locs : List Loc} {cells slots : Nat} {Q : State → Prop}
variable {cc : ByteArray} {pc pc' nL : Nat} {lsA : Array Slot} {st st' : List ax_V} {ad : Nat → Option Nat}
theorem so_jif {t : Prop} [Decidable t] {off : Int} {r : List ax_V} (h : ax_jif t pc off r = some (pc', st')) (okS : so_okS r) (k : so_okS st' → W p l e R s m args below meth c H locs cells slots Q (F0 m pc' lsA (st'.map (so_v ad)))) :
    (t → W p l e R s m args below meth c H locs cells slots Q (F0 m (ax_to pc off) lsA (r.map (so_v ad)))) ∧ (¬ t → W p l e R s m args below meth c H locs cells slots Q (F0 m (pc + 3) lsA (r.map (so_v ad)))) := by
  unfold ax_jif at h
  constructor
  · intro ht
    rw [if_pos ht] at h
    cases h
    exact k okS
  · intro ht
    rw [if_neg ht] at h
    cases h
    exact k okS
theorem so_z32 {x : Int} (hx : (Int32.ofInt x).toInt = x) : (Int32.ofInt x = 0 ↔ x = 0) ∧ (Int32.ofInt x < 0 ↔ x < 0) ∧ (0 ≤ Int32.ofInt x ↔ 0 ≤ x) ∧ (0 < Int32.ofInt x ↔ 0 < x) ∧ (Int32.ofInt x ≤ 0 ↔ x ≤ 0) := by
  have z : (0 : Int32).toInt = 0 := rfl
  refine ⟨?_, ?_, ?_, ?_, ?_⟩
  · rw [← Int32.toInt_inj, hx, z]
  · rw [Int32.lt_iff_toInt_lt, hx, z]
  · rw [Int32.le_iff_toInt_le, hx, z]
  · rw [Int32.lt_iff_toInt_lt, hx, z]
  · rw [Int32.le_iff_toInt_le, hx, z]
theorem so_c32 {x y : Int} (hx : (Int32.ofInt x).toInt = x) (hy : (Int32.ofInt y).toInt = y) : (Int32.ofInt x = Int32.ofInt y ↔ x = y) ∧ (Int32.ofInt x < Int32.ofInt y ↔ x < y) ∧ (Int32.ofInt x ≤ Int32.ofInt y ↔ x ≤ y) := by
  refine ⟨?_, ?_, ?_⟩
  · rw [← Int32.toInt_inj, hx, hy]
  · rw [Int32.lt_iff_toInt_lt, hx, hy]
  · rw [Int32.le_iff_toInt_le, hx, hy]
set_option maxHeartbeats 4000000 in
theorem so_jump {i : Instr} {n : Nat} (hexec : p.tables.exec = Jvm.exec) (hb : c.code = cc) (hdg : decode cc pc = .ok (i, n)) (hn : ax_sw i = false → n = ax_len i) (hf : ax_fine i = true) (hj : ax_jok i pc = true) (okS : so_okS st) (h : ax_jump i pc st = some (pc', st'))
    (k : so_okS st' → W p l e R s m args below meth c H locs cells slots Q (F0 m pc' lsA (st'.map (so_v ad)))) : W p l e R s m args below meth c H locs cells slots Q (F0 m pc lsA (st.map (so_v ad))) := by
  cases i with
  | goto off =>
    cases hn rfl
    cases h
    exact lv_goto hexec hb hdg (so_to (of_decide_eq_true hj)) (k okS)
  | ifCond cd off =>
    cases hn rfl
    have ht := so_to (of_decide_eq_true hj)
    dsimp only [ax_jump] at h
    split at h
    · rename_i x r
      have hx : (Int32.ofInt x).toInt = x := okS.hd
      obtain ⟨z1, z2, z3, z4, z5⟩ := so_z32 hx
      cases cd with
      | eq =>
        obtain ⟨a, b⟩ := so_jif h okS.tl k
        exact lv_if_eq hexec hb hdg ht (fun g => a (z1.mp g)) (fun g => b (fun w => g (z1.mpr w)))
      | ne =>
        obtain ⟨a, b⟩ := so_jif h okS.tl k
        exact lv_if_ne hexec hb hdg ht (fun g => a (fun w => g (z1.mpr w))) (fun g => b (fun w => w (z1.mp g)))
      | lt =>
        obtain ⟨a, b⟩ := so_jif h okS.tl k
        exact lv_if_lt hexec hb hdg ht (fun g => a (z2.mp g)) (fun g => b (fun w => g (z2.mpr w)))
      | ge =>
        obtain ⟨a, b⟩ := so_jif h okS.tl k
        exact lv_if_ge hexec hb hdg ht (fun g => a (z3.mp g)) (fun g => b (fun w => g (z3.mpr w)))
      | gt =>
        obtain ⟨a, b⟩ := so_jif h okS.tl k
        exact lv_if_gt hexec hb hdg ht (fun g => a (z4.mp g)) (fun g => b (fun w => g (z4.mpr w)))
      | le =>
        obtain ⟨a, b⟩ := so_jif h okS.tl k
        exact lv_if_le hexec hb hdg ht (fun g => a (z5.mp g)) (fun g => b (fun w => g (z5.mpr w)))
    · cases h
  | if_icmp cd off =>
    cases hn rfl
    have ht := so_to (of_decide_eq_true hj)
    dsimp only [ax_jump] at h
    split at h
    · rename_i y x r
      have hx : (Int32.ofInt x).toInt = x := okS.tl.hd
      have hy : (Int32.ofInt y).toInt = y := okS.hd
      obtain ⟨z1, z2, z3⟩ := so_c32 hx hy
      obtain ⟨-, y2, y3⟩ := so_c32 hy hx
      cases cd with
      | eq =>
        obtain ⟨a, b⟩ := so_jif h okS.tl.tl k
        exact lv_icmp_eq hexec hb hdg ht (fun g => a (z1.mp g)) (fun g => b (fun w => g (z1.mpr w)))
      | ne =>
        obtain ⟨a, b⟩ := so_jif h okS.tl.tl k
        exact lv_icmp_ne hexec hb hdg ht (fun g => a (fun w => g (z1.mpr w))) (fun g => b (fun w => w (z1.mp g)))
      | lt =>
        obtain ⟨a, b⟩ := so_jif h okS.tl.tl k
        exact lv_icmp_lt hexec hb hdg ht (fun g => a (z2.mp g)) (fun g => b (fun w => g (z2.mpr w)))
      | ge =>
        obtain ⟨a, b⟩ := so_jif h okS.tl.tl k
        exact lv_icmp_ge hexec hb hdg ht (fun g => a (y3.mp g)) (fun g => b (fun w => g (y3.mpr w)))
      | gt =>
        obtain ⟨a, b⟩ := so_jif h okS.tl.tl k
        exact lv_icmp_gt hexec hb hdg ht (fun g => a (y2.mp g)) (fun g => b (fun w => g (y2.mpr w)))
      | le =>
        obtain ⟨a, b⟩ := so_jif h okS.tl.tl k
        exact lv_icmp_le hexec hb hdg ht (fun g => a (z3.mp g)) (fun g => b (fun w => g (z3.mpr w)))
    · cases h
  | tableswitch d lo hi offs =>
    simp only [ax_jok, Bool.and_eq_true, decide_eq_true_eq, List.all_eq_true] at hj
    dsimp only [ax_jump] at h
    split at h
    · rename_i x r
      have hx : (Int32.ofInt x).toInt = x := okS.hd
      split at h
      · rename_i g
        cases h
        exact lv_tableOut hexec hb hdg (by rw [hx]; exact g) (so_to hj.1) (k okS.tl)
      · rename_i g
        split at h
        · rename_i off ho
          cases h
          refine lv_tableIn hexec hb hdg (by rw [hx]; omega) (by rw [hx]; omega) (by rw [hx]; exact ho) (so_to (hj.2 off ?_)) (k okS.tl)
          rw [← Array.getElem?_toList] at ho
          exact List.mem_of_getElem? ho
        · cases h
    · cases h
  | lookupswitch d ps =>
    simp only [ax_jok, Bool.and_eq_true, decide_eq_true_eq, List.all_eq_true] at hj
    dsimp only [ax_jump] at h
    split at h
    · rename_i x r
      have hx : (Int32.ofInt x).toInt = x := okS.hd
      cases h
      refine lv_lookup hexec hb hdg hf (by rw [hx]) (so_to ?_) (k okS.tl)
      exact so_offs d x (fun z => 0 ≤ (pc : Int) + z) hj.1 _ hj.2
    · cases h
  | _ => exact absurd h (by simp [ax_jump])
end SOJ
