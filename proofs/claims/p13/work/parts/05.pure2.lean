/-! AN INSTRUCTION WITHOUT HEAP AND JUMP. -/
theorem so_okS.cons {v : ax_V} {r : List ax_V} (h : so_ok v) (hr : so_okS r) : so_okS (v :: r) := fun w hw => by
  rcases List.mem_cons.mp hw with e | e
  · rw [e]; exact h
  · exact hr w e
theorem so_okS.hd {v : ax_V} {r : List ax_V} (h : so_okS (v :: r)) : so_ok v := h v List.mem_cons_self
theorem so_okS.tl {v : ax_V} {r : List ax_V} (h : so_okS (v :: r)) : so_okS r := fun w hw => h w (List.mem_cons_of_mem _ hw)
theorem so_i_ok (x : Int32) : so_ok (.inl x.toInt) := by show (Int32.ofInt x.toInt).toInt = x.toInt; rw [so_oi]
theorem so_l_ok (x : Int64) : so_ok (.inr (.inl x.toInt)) := by show (Int64.ofInt x.toInt).toInt = x.toInt; rw [so_ol]
section SOP
variable {p : Program} {l : Launch} {e : Env} {R : Room} {s : State} {m : MethodId} {args : Array Value} {below : List Frame} {meth : Method} {c : Code} {H : Heap} {locs : List Loc} {cells slots : Nat} {Q : State → Prop}
variable {cc : ByteArray} {pc nL : Nat} {lsA : Array Slot} {ls ls' : ax_L} {st st' : List ax_V} {ad : Nat → Option Nat}
theorem so_ii {f : Int → Int → Int} (F : Int32 → Int32 → Int32) (row : ∀ (rest : List Value) (x y : Int32), W p l e R s m args below meth c H locs cells slots Q (F0 m (pc + 1) lsA (.int (F x y) :: rest)) → W p l e R s m args below meth c H locs cells slots Q (F0 m pc lsA (.int y :: .int x :: rest)))
    (hf : ∀ x y : Int, Int32.ofInt (f x y) = F (Int32.ofInt x) (Int32.ofInt y)) (hr : ∀ x y : Int, (Int32.ofInt (f x y)).toInt = f x y) (hL : so_L ad lsA nL ls) (okL : so_okL ls) (okS : so_okS st) (h : ax_ii f ls st = some (ls', st'))
    (k : ∀ lsB : Array Slot, so_L ad lsB nL ls' → so_okL ls' → so_okS st' → W p l e R s m args below meth c H locs cells slots Q (F0 m (pc + 1) lsB (st'.map (so_v ad)))) : W p l e R s m args below meth c H locs cells slots Q (F0 m pc lsA (st.map (so_v ad))) := by
  unfold ax_ii at h
  split at h
  · rename_i y x r
    cases h
    refine row _ _ _ ?_
    rw [← hf]
    exact k lsA hL okL (so_okS.cons (hr x y) okS.tl.tl)
  · cases h
theorem so_ll {f : Int → Int → Int} (F : Int64 → Int64 → Int64) (row : ∀ (rest : List Value) (x y : Int64), W p l e R s m args below meth c H locs cells slots Q (F0 m (pc + 1) lsA (.long (F x y) :: rest)) → W p l e R s m args below meth c H locs cells slots Q (F0 m pc lsA (.long y :: .long x :: rest)))
    (hf : ∀ x y : Int, Int64.ofInt (f x y) = F (Int64.ofInt x) (Int64.ofInt y)) (hr : ∀ x y : Int, (Int64.ofInt (f x y)).toInt = f x y) (hL : so_L ad lsA nL ls) (okL : so_okL ls) (okS : so_okS st) (h : ax_ll f ls st = some (ls', st'))
    (k : ∀ lsB : Array Slot, so_L ad lsB nL ls' → so_okL ls' → so_okS st' → W p l e R s m args below meth c H locs cells slots Q (F0 m (pc + 1) lsB (st'.map (so_v ad)))) : W p l e R s m args below meth c H locs cells slots Q (F0 m pc lsA (st.map (so_v ad))) := by
  unfold ax_ll at h
  split at h
  · rename_i y x r
    cases h
    refine row _ _ _ ?_
    rw [← hf]
    exact k lsA hL okL (so_okS.cons (hr x y) okS.tl.tl)
  · cases h
theorem so_li {f : Int → Int → Int} (F : Int64 → Int32 → Int64) (row : ∀ (rest : List Value) (x : Int64) (y : Int32), W p l e R s m args below meth c H locs cells slots Q (F0 m (pc + 1) lsA (.long (F x y) :: rest)) → W p l e R s m args below meth c H locs cells slots Q (F0 m pc lsA (.int y :: .long x :: rest)))
    (hf : ∀ x y : Int, Int64.ofInt (f x y) = F (Int64.ofInt x) (Int32.ofInt y)) (hr : ∀ x y : Int, (Int64.ofInt (f x y)).toInt = f x y) (hL : so_L ad lsA nL ls) (okL : so_okL ls) (okS : so_okS st) (h : ax_li f ls st = some (ls', st'))
    (k : ∀ lsB : Array Slot, so_L ad lsB nL ls' → so_okL ls' → so_okS st' → W p l e R s m args below meth c H locs cells slots Q (F0 m (pc + 1) lsB (st'.map (so_v ad)))) : W p l e R s m args below meth c H locs cells slots Q (F0 m pc lsA (st.map (so_v ad))) := by
  unfold ax_li at h
  split at h
  · rename_i y x r
    cases h
    refine row _ _ _ ?_
    rw [← hf]
    exact k lsA hL okL (so_okS.cons (hr x y) okS.tl.tl)
  · cases h
theorem so_i1 {f : Int → ax_V} (F : Int32 → Value) (row : ∀ (rest : List Value) (x : Int32), W p l e R s m args below meth c H locs cells slots Q (F0 m (pc + 1) lsA (F x :: rest)) → W p l e R s m args below meth c H locs cells slots Q (F0 m pc lsA (.int x :: rest)))
    (hf : ∀ x : Int, (Int32.ofInt x).toInt = x → so_v ad (f x) = F (Int32.ofInt x) ∧ so_ok (f x)) (hL : so_L ad lsA nL ls) (okL : so_okL ls) (okS : so_okS st) (h : ax_i1 f ls st = some (ls', st'))
    (k : ∀ lsB : Array Slot, so_L ad lsB nL ls' → so_okL ls' → so_okS st' → W p l e R s m args below meth c H locs cells slots Q (F0 m (pc + 1) lsB (st'.map (so_v ad)))) : W p l e R s m args below meth c H locs cells slots Q (F0 m pc lsA (st.map (so_v ad))) := by
  unfold ax_i1 at h
  split at h
  · rename_i x r
    cases h
    refine row _ _ ?_
    rw [← (hf x okS.hd).1]
    exact k lsA hL okL (so_okS.cons (hf x okS.hd).2 okS.tl)
  · cases h
theorem so_l1 {f : Int → ax_V} (F : Int64 → Value) (row : ∀ (rest : List Value) (x : Int64), W p l e R s m args below meth c H locs cells slots Q (F0 m (pc + 1) lsA (F x :: rest)) → W p l e R s m args below meth c H locs cells slots Q (F0 m pc lsA (.long x :: rest)))
    (hf : ∀ x : Int, (Int64.ofInt x).toInt = x → so_v ad (f x) = F (Int64.ofInt x) ∧ so_ok (f x)) (hL : so_L ad lsA nL ls) (okL : so_okL ls) (okS : so_okS st) (h : ax_l1 f ls st = some (ls', st'))
    (k : ∀ lsB : Array Slot, so_L ad lsB nL ls' → so_okL ls' → so_okS st' → W p l e R s m args below meth c H locs cells slots Q (F0 m (pc + 1) lsB (st'.map (so_v ad)))) : W p l e R s m args below meth c H locs cells slots Q (F0 m pc lsA (st.map (so_v ad))) := by
  unfold ax_l1 at h
  split at h
  · rename_i x r
    cases h
    refine row _ _ ?_
    rw [← (hf x okS.hd).1]
    exact k lsA hL okL (so_okS.cons (hf x okS.hd).2 okS.tl)
  · cases h
theorem so_iload {i n : Nat} (row : ∀ (rest : List Value) (x : Int32), lsA[i]? = some (.val (.int x)) → W p l e R s m args below meth c H locs cells slots Q (F0 m (pc + n) lsA (.int x :: rest)) → W p l e R s m args below meth c H locs cells slots Q (F0 m pc lsA rest))
    (hL : so_L ad lsA nL ls) (okL : so_okL ls) (okS : so_okS st) (h : ax_iload ls st i = some (ls', st'))
    (k : ∀ lsB : Array Slot, so_L ad lsB nL ls' → so_okL ls' → so_okS st' → W p l e R s m args below meth c H locs cells slots Q (F0 m (pc + n) lsB (st'.map (so_v ad)))) : W p l e R s m args below meth c H locs cells slots Q (F0 m pc lsA (st.map (so_v ad))) := by
  unfold ax_iload at h
  split at h
  · rename_i x g
    cases h
    exact row _ _ (hL.get (so_ld g)) (k lsA hL okL (so_okS.cons (okL _ _ (so_ld g)) okS))
  · cases h
theorem so_lload {i n : Nat} (row : ∀ (rest : List Value) (x : Int64), lsA[i]? = some (.val (.long x)) → W p l e R s m args below meth c H locs cells slots Q (F0 m (pc + n) lsA (.long x :: rest)) → W p l e R s m args below meth c H locs cells slots Q (F0 m pc lsA rest))
    (hL : so_L ad lsA nL ls) (okL : so_okL ls) (okS : so_okS st) (h : ax_lload ls st i = some (ls', st'))
    (k : ∀ lsB : Array Slot, so_L ad lsB nL ls' → so_okL ls' → so_okS st' → W p l e R s m args below meth c H locs cells slots Q (F0 m (pc + n) lsB (st'.map (so_v ad)))) : W p l e R s m args below meth c H locs cells slots Q (F0 m pc lsA (st.map (so_v ad))) := by
  unfold ax_lload at h
  split at h
  · rename_i x g
    cases h
    exact row _ _ (hL.get (so_ld g)) (k lsA hL okL (so_okS.cons (okL _ _ (so_ld g)) okS))
  · cases h
theorem so_aload {i n : Nat} (row : ∀ (rest : List Value) (x : Nat), lsA[i]? = some (.val (.ref x)) → W p l e R s m args below meth c H locs cells slots Q (F0 m (pc + n) lsA (.ref x :: rest)) → W p l e R s m args below meth c H locs cells slots Q (F0 m pc lsA rest))
    (rowN : ∀ (rest : List Value), lsA[i]? = some (.val .null) → W p l e R s m args below meth c H locs cells slots Q (F0 m (pc + n) lsA (.null :: rest)) → W p l e R s m args below meth c H locs cells slots Q (F0 m pc lsA rest))
    (hL : so_L ad lsA nL ls) (okL : so_okL ls) (okS : so_okS st) (h : ax_aload ls st i = some (ls', st'))
    (k : ∀ lsB : Array Slot, so_L ad lsB nL ls' → so_okL ls' → so_okS st' → W p l e R s m args below meth c H locs cells slots Q (F0 m (pc + n) lsB (st'.map (so_v ad)))) : W p l e R s m args below meth c H locs cells slots Q (F0 m pc lsA (st.map (so_v ad))) := by
  unfold ax_aload at h
  split at h
  · rename_i x g
    cases h
    cases x with
    | none => exact rowN _ (hL.get (so_ld g)) (k lsA hL okL (so_okS.cons trivial okS))
    | some x =>
      have g1 := hL.get (so_ld g)
      have k1 := k lsA hL okL (so_okS.cons trivial okS)
      cases hx : ad x with
      | none =>
        have e : so_v ad (.inr (.inr (some x))) = .null := by show va_rf (ad x) = _; rw [hx]; rfl
        rw [e] at g1
        rw [List.map_cons, e] at k1
        exact rowN _ g1 k1
      | some z =>
        have e : so_v ad (.inr (.inr (some x))) = .ref z := by show va_rf (ad x) = _; rw [hx]; rfl
        rw [e] at g1
        rw [List.map_cons, e] at k1
        exact row _ _ g1 k1
  · cases h
theorem so_istore {i n : Nat} (row : ∀ (rest : List Value) (x : Int32) (lv' : List (Nat × Value)), i < nL → (i, Value.int x) :: (so_prs ad 0 ls).filter (fun q => !(q.1 == i) && !(q.1 + 1 == i && q.2.category == 2)) = lv' → (∀ ls' : Array Slot, lv_has ls' nL lv' → W p l e R s m args below meth c H locs cells slots Q (F0 m (pc + n) ls' rest)) → W p l e R s m args below meth c H locs cells slots Q (F0 m pc lsA (.int x :: rest)))
    (hL : so_L ad lsA nL ls) (okL : so_okL ls) (okS : so_okS st) (h : ax_istore ls st i = some (ls', st'))
    (k : ∀ lsB : Array Slot, so_L ad lsB nL ls' → so_okL ls' → so_okS st' → W p l e R s m args below meth c H locs cells slots Q (F0 m (pc + n) lsB (st'.map (so_v ad)))) : W p l e R s m args below meth c H locs cells slots Q (F0 m pc lsA (st.map (so_v ad))) := by
  unfold ax_istore at h
  split at h
  · rename_i x r
    split at h
    · rename_i hi
      cases h
      exact row _ _ _ (by rw [← hL.1]; exact hi) rfl (fun lsB hB => k lsB (hL.st1 (v := .inl x) hB) (okL.st1 okS.hd) okS.tl)
    · cases h
  · cases h
theorem so_lstore {i n : Nat} (row : ∀ (rest : List Value) (x : Int64) (lv' : List (Nat × Value)), i + 1 < nL → (i, Value.long x) :: (so_prs ad 0 ls).filter (fun q => !(q.1 == i) && (!(q.1 == i + 1) && !(q.1 + 1 == i && q.2.category == 2))) = lv' → (∀ ls' : Array Slot, lv_has ls' nL lv' → W p l e R s m args below meth c H locs cells slots Q (F0 m (pc + n) ls' rest)) → W p l e R s m args below meth c H locs cells slots Q (F0 m pc lsA (.long x :: rest)))
    (hL : so_L ad lsA nL ls) (okL : so_okL ls) (okS : so_okS st) (h : ax_lstore ls st i = some (ls', st'))
    (k : ∀ lsB : Array Slot, so_L ad lsB nL ls' → so_okL ls' → so_okS st' → W p l e R s m args below meth c H locs cells slots Q (F0 m (pc + n) lsB (st'.map (so_v ad)))) : W p l e R s m args below meth c H locs cells slots Q (F0 m pc lsA (st.map (so_v ad))) := by
  unfold ax_lstore at h
  split at h
  · rename_i x r
    split at h
    · rename_i hi
      cases h
      exact row _ _ _ (by rw [← hL.1]; exact hi) rfl (fun lsB hB => k lsB (hL.st2 (v := .inr (.inl x)) hB) (okL.st2 okS.hd) okS.tl)
    · cases h
  · cases h
theorem so_astore {i n : Nat} (row : ∀ (rest : List Value) (x : Nat) (lv' : List (Nat × Value)), i < nL → (i, Value.ref x) :: (so_prs ad 0 ls).filter (fun q => !(q.1 == i) && !(q.1 + 1 == i && q.2.category == 2)) = lv' → (∀ ls' : Array Slot, lv_has ls' nL lv' → W p l e R s m args below meth c H locs cells slots Q (F0 m (pc + n) ls' rest)) → W p l e R s m args below meth c H locs cells slots Q (F0 m pc lsA (.ref x :: rest)))
    (rowN : ∀ (rest : List Value) (lv' : List (Nat × Value)), i < nL → (i, Value.null) :: (so_prs ad 0 ls).filter (fun q => !(q.1 == i) && !(q.1 + 1 == i && q.2.category == 2)) = lv' → (∀ ls' : Array Slot, lv_has ls' nL lv' → W p l e R s m args below meth c H locs cells slots Q (F0 m (pc + n) ls' rest)) → W p l e R s m args below meth c H locs cells slots Q (F0 m pc lsA (.null :: rest)))
    (hL : so_L ad lsA nL ls) (okL : so_okL ls) (okS : so_okS st) (h : ax_astore ls st i = some (ls', st'))
    (k : ∀ lsB : Array Slot, so_L ad lsB nL ls' → so_okL ls' → so_okS st' → W p l e R s m args below meth c H locs cells slots Q (F0 m (pc + n) lsB (st'.map (so_v ad)))) : W p l e R s m args below meth c H locs cells slots Q (F0 m pc lsA (st.map (so_v ad))) := by
  unfold ax_astore at h
  split at h
  · rename_i x r
    split at h
    · rename_i hi
      cases h
      cases x with
      | none => exact rowN _ _ (by rw [← hL.1]; exact hi) rfl (fun lsB hB => k lsB (hL.st1 (v := .inr (.inr none)) hB) (okL.st1 trivial) okS.tl)
      | some x =>
        cases hx : ad x with
        | none =>
          have e : so_v ad (.inr (.inr (some x))) = .null := by show va_rf (ad x) = _; rw [hx]; rfl
          rw [List.map_cons, e]
          exact rowN _ _ (by rw [← hL.1]; exact hi) rfl (fun lsB hB => k lsB (hL.st1 (v := .inr (.inr (some x))) (by rw [e]; exact hB)) (okL.st1 trivial) okS.tl)
        | some z =>
          have e : so_v ad (.inr (.inr (some x))) = .ref z := by show va_rf (ad x) = _; rw [hx]; rfl
          rw [List.map_cons, e]
          exact row _ _ _ (by rw [← hL.1]; exact hi) rfl (fun lsB hB => k lsB (hL.st1 (v := .inr (.inr (some x))) (by rw [e]; exact hB)) (okL.st1 trivial) okS.tl)
    · cases h
  · cases h
end SOP
