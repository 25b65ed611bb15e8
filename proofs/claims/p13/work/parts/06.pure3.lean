/-! ANY INSTRUCTION WITHOUT HEAP AND JUMP; any jump. -/
theorem so_cmp {x y : Int} (hx : (Int64.ofInt x).toInt = x) (hy : (Int64.ofInt y).toInt = y) : Int32.ofInt (ax_cmp x y) = lg_cmp (Int64.ofInt x) (Int64.ofInt y) := by
  unfold ax_cmp lg_cmp
  simp only [gt_iff_lt, Int64.lt_iff_toInt_lt, ← Int64.toInt_inj, hx, hy]
  split
  · rfl
  · split <;> rfl
theorem so_cmp_ok (x y : Int) : so_ok (.inl (ax_cmp x y)) := by
  unfold ax_cmp
  split
  · rfl
  · split <;> rfl
theorem so_lc : ∀ n : Fin 2, Int64.ofNat (n : Nat) = Int64.ofInt ((n.val : Nat) : Int) ∧ (Int64.ofInt ((n.val : Nat) : Int)).toInt = ((n.val : Nat) : Int) := by decide
theorem so_bp {n : Int} (h : (Int8.ofInt n).toInt32.toInt = n) : (Int8.ofInt n).toInt32 = Int32.ofInt n := by
  have e := so_oi (Int8.ofInt n).toInt32
  rw [h] at e
  exact e.symm
theorem so_sp {n : Int} (h : (Int16.ofInt n).toInt32.toInt = n) : (Int16.ofInt n).toInt32 = Int32.ofInt n := by
  have e := so_oi (Int16.ofInt n).toInt32
  rw [h] at e
  exact e.symm
theorem so_add32 (x y : Int) : Int32.ofInt (ax_w32 (x + y)) = Int32.ofInt x + Int32.ofInt y := by rw [so_w32, Int32.ofInt_add]
theorem so_sub32 (x y : Int) : Int32.ofInt (ax_w32 (x - y)) = Int32.ofInt x - Int32.ofInt y := by rw [so_w32, Int32.ofInt_sub]
theorem so_mul32 (x y : Int) : Int32.ofInt (ax_w32 (x * y)) = Int32.ofInt x * Int32.ofInt y := by rw [so_w32, Int32.ofInt_mul]
theorem so_neg32 (x : Int) : Int32.ofInt (ax_w32 (-x)) = -Int32.ofInt x := by rw [so_w32, Int32.ofInt_neg]
theorem so_add64 (x y : Int) : Int64.ofInt (ax_w64 (x + y)) = Int64.ofInt x + Int64.ofInt y := by rw [so_w64, Int64.ofInt_add]
theorem so_sub64 (x y : Int) : Int64.ofInt (ax_w64 (x - y)) = Int64.ofInt x - Int64.ofInt y := by rw [so_w64, Int64.ofInt_sub]
theorem so_mul64 (x y : Int) : Int64.ofInt (ax_w64 (x * y)) = Int64.ofInt x * Int64.ofInt y := by rw [so_w64, Int64.ofInt_mul]
theorem so_neg64 (x : Int) : Int64.ofInt (ax_w64 (-x)) = -Int64.ofInt x := by rw [so_w64, Int64.ofInt_neg]
theorem so_i2l {x : Int} (h : (Int32.ofInt x).toInt = x) : (Int32.ofInt x).toInt64 = Int64.ofInt x ∧ (Int64.ofInt x).toInt = x := by
  have e : (Int32.ofInt x).toInt64.toInt = x := by rw [Int32.toInt_toInt64]; exact h
  have e2 := so_ol (Int32.ofInt x).toInt64
  rw [e] at e2
  exact ⟨e2.symm, by rw [e2]; exact e⟩
theorem so_l2i {x : Int} (h : (Int64.ofInt x).toInt = x) : Int32.ofInt (ax_w32 x) = (Int64.ofInt x).toInt32 := by
  rw [so_w32]
  apply Int32.toInt_inj.mp
  rw [Int64.toInt_toInt32, h, Int32.toInt_ofInt]
theorem so_i2b {x : Int} (h : (Int32.ofInt x).toInt = x) : (Int32.ofInt x).toInt8.toInt32 = Int32.ofInt (ax_w8 x) ∧ (Int32.ofInt (ax_w8 x)).toInt = ax_w8 x := by
  have e : (Int32.ofInt x).toInt8.toInt32.toInt = ax_w8 x := by rw [Int8.toInt_toInt32, Int32.toInt_toInt8, h]; rfl
  have e2 := so_oi (Int32.ofInt x).toInt8.toInt32
  rw [e] at e2
  exact ⟨e2.symm, by rw [e2]; exact e⟩
theorem so_i2s {x : Int} (h : (Int32.ofInt x).toInt = x) : (Int32.ofInt x).toInt16.toInt32 = Int32.ofInt (ax_w16 x) ∧ (Int32.ofInt (ax_w16 x)).toInt = ax_w16 x := by
  have e : (Int32.ofInt x).toInt16.toInt32.toInt = ax_w16 x := by rw [Int16.toInt_toInt32, Int32.toInt_toInt16, h]; rfl
  have e2 := so_oi (Int32.ofInt x).toInt16.toInt32
  rw [e] at e2
  exact ⟨e2.symm, by rw [e2]; exact e⟩
theorem so_i2c {x : Int} (h : (Int32.ofInt x).toInt = x) : ((Int32.ofInt x).toUInt32 % 65536).toInt32 = Int32.ofInt (ax_u16 x) ∧ (Int32.ofInt (ax_u16 x)).toInt = ax_u16 x := by
  have e0 : (Int32.ofInt x).toBitVec.toInt = x := h
  have e1 : ((Int32.ofInt x).toBitVec.toNat : Int) % 65536 = x % 65536 := by
    have := BitVec.toInt_eq_toNat_cond (Int32.ofInt x).toBitVec
    rw [e0] at this
    split at this <;> omega
  have e : ((Int32.ofInt x).toUInt32 % 65536).toInt32.toInt = ax_u16 x := by
    rw [pk_char]
    unfold ax_u16
    have hl : (Int32.ofInt x).toBitVec.toNat % 65536 < 2 ^ 31 := by omega
    rw [nI_toInt hl]
    omega
  have e2 := so_oi ((Int32.ofInt x).toUInt32 % 65536).toInt32
  rw [e] at e2
  exact ⟨e2.symm, by rw [e2]; exact e⟩
section SOQ
variable {p : Program} {l : Launch} {e : Env} {R : Room} {s : State} {m : MethodId} {args : Array Value} {below : List Frame} {meth : Method} {c : Code} {H : Heap} {locs : List Loc} {cells slots : Nat} {Q : State → Prop}
variable {cc : ByteArray} {pc nL : Nat} {lsA : Array Slot} {ls ls' : ax_L} {st st' : List ax_V} {ad : Nat → Option Nat}
theorem so_iinc {i : Nat} {n : Int} (hexec : p.tables.exec = Jvm.exec) (hb : c.code = cc) (hdg : decode cc pc = .ok (.iinc i n, 3)) (hL : so_L ad lsA nL ls) (okL : so_okL ls) (okS : so_okS st) (h : ax_iinc ls st i n = some (ls', st'))
    (k : ∀ lsB : Array Slot, so_L ad lsB nL ls' → so_okL ls' → so_okS st' → W p l e R s m args below meth c H locs cells slots Q (F0 m (pc + 3) lsB (st'.map (so_v ad)))) : W p l e R s m args below meth c H locs cells slots Q (F0 m pc lsA (st.map (so_v ad))) := by
  unfold ax_iinc at h
  split at h
  · rename_i x g
    cases h
    have g1 := so_ld g
    have g2 := so_prs_to ad ls 0 i (.inl x) g1
    rw [Nat.zero_add] at g2
    obtain ⟨kk, hk⟩ := List.getElem?_of_mem g2
    have hi : i < nL := by rw [← hL.1]; exact (List.getElem?_eq_some_iff.mp g1).1
    exact lv_iinc hexec hb hdg hL.2 hk (so_add32 x n).symm hi rfl (fun lsB hB => k lsB (hL.st1 (v := .inl (ax_w32 (x + n))) hB) (okL.st1 (so_w32_ok _)) okS)
  · cases h
set_option maxHeartbeats 4000000 in
theorem so_pure {i : Instr} (hexec : p.tables.exec = Jvm.exec) (hb : c.code = cc) (hdg : decode cc pc = .ok (i, ax_len i)) (hf : ax_fine i = true) (hL : so_L ad lsA nL ls) (okL : so_okL ls) (okS : so_okS st) (h : ax_pure i ls st = some (ls', st'))
    (k : ∀ lsB : Array Slot, so_L ad lsB nL ls' → so_okL ls' → so_okS st' → W p l e R s m args below meth c H locs cells slots Q (F0 m (pc + ax_len i) lsB (st'.map (so_v ad)))) : W p l e R s m args below meth c H locs cells slots Q (F0 m pc lsA (st.map (so_v ad))) := by
  cases i with
  | iconst n =>
    have hn : (Int32.ofInt n).toInt = n := of_decide_eq_true hf
    cases h
    exact lv_iconst hexec hb hdg rfl (k lsA hL okL (so_okS.cons hn okS))
  | bipush n =>
    have hn : (Int8.ofInt n).toInt32.toInt = n := of_decide_eq_true hf
    cases h
    exact lv_bipush hexec hb hdg (so_bp hn) (k lsA hL okL (so_okS.cons (by show (Int32.ofInt n).toInt = n; rw [← so_bp hn]; exact hn) okS))
  | sipush n =>
    have hn : (Int16.ofInt n).toInt32.toInt = n := of_decide_eq_true hf
    cases h
    exact lv_sipush hexec hb hdg (so_sp hn) (k lsA hL okL (so_okS.cons (by show (Int32.ofInt n).toInt = n; rw [← so_sp hn]; exact hn) okS))
  | lconst n =>
    cases h
    exact lv_lconst hexec hb hdg (so_lc n).1 (k lsA hL okL (so_okS.cons (so_lc n).2 okS))
  | aconst_null =>
    cases h
    exact lv_null hexec hb hdg (k lsA hL okL (so_okS.cons trivial okS))
  | iload j => exact so_iload (n := 2) (fun rest x hx kk => lv_iload hexec hb hdg hx kk) hL okL okS h k
  | iload_n j => exact so_iload (n := 1) (fun rest x hx kk => lv_iload_n hexec hb hdg rfl hx kk) hL okL okS h k
  | lload j => exact so_lload (n := 2) (fun rest x hx kk => lv_lload hexec hb hdg hx kk) hL okL okS h k
  | lload_n j => exact so_lload (n := 1) (fun rest x hx kk => lv_lload_n hexec hb hdg rfl hx kk) hL okL okS h k
  | aload j => exact so_aload (n := 2) (fun rest x hx kk => lv_aload hexec hb hdg hx kk) (fun rest hx kk => lv_aloadN hexec hb hdg hx kk) hL okL okS h k
  | aload_n j => exact so_aload (n := 1) (fun rest x hx kk => lv_aload_n hexec hb hdg rfl hx kk) (fun rest hx kk => lv_aload_nN hexec hb hdg rfl hx kk) hL okL okS h k
  | istore j => exact so_istore (n := 2) (fun rest x lv hi hl kk => lv_istore hexec hb hdg hL.2 hi hl kk) hL okL okS h k
  | istore_n j => exact so_istore (n := 1) (fun rest x lv hi hl kk => lv_istore_n hexec hb hdg rfl hL.2 hi hl kk) hL okL okS h k
  | lstore j => exact so_lstore (n := 2) (fun rest x lv hi hl kk => lv_lstore hexec hb hdg hL.2 hi hl kk) hL okL okS h k
  | lstore_n j => exact so_lstore (n := 1) (fun rest x lv hi hl kk => lv_lstore_n hexec hb hdg rfl hL.2 hi hl kk) hL okL okS h k
  | astore j => exact so_astore (n := 2) (fun rest x lv hi hl kk => lv_astore hexec hb hdg hL.2 hi hl kk) (fun rest lv hi hl kk => lv_astoreN hexec hb hdg hL.2 hi hl kk) hL okL okS h k
  | astore_n j => exact so_astore (n := 1) (fun rest x lv hi hl kk => lv_astore_n hexec hb hdg rfl hL.2 hi hl kk) (fun rest lv hi hl kk => lv_astore_nN hexec hb hdg rfl hL.2 hi hl kk) hL okL okS h k
  | iinc j n => exact so_iinc hexec hb hdg hL okL okS h k
  | iadd => exact so_ii (fun x y => x + y) (fun rest x y kk => lv_iadd hexec hb hdg kk) so_add32 (fun x y => so_w32_ok _) hL okL okS h k
  | isub => exact so_ii (fun x y => x - y) (fun rest x y kk => lv_isub hexec hb hdg kk) so_sub32 (fun x y => so_w32_ok _) hL okL okS h k
  | imul => exact so_ii (fun x y => x * y) (fun rest x y kk => lv_imul hexec hb hdg kk) so_mul32 (fun x y => so_w32_ok _) hL okL okS h k
  | iand => exact so_ii (fun x y => x &&& y) (fun rest x y kk => lv_iand hexec hb hdg kk) (fun x y => so_oi _) (fun x y => so_i_ok _) hL okL okS h k
  | ior => exact so_ii (fun x y => x ||| y) (fun rest x y kk => lv_ior hexec hb hdg kk) (fun x y => so_oi _) (fun x y => so_i_ok _) hL okL okS h k
  | ixor => exact so_ii (fun x y => x ^^^ y) (fun rest x y kk => lv_ixor hexec hb hdg kk) (fun x y => so_oi _) (fun x y => so_i_ok _) hL okL okS h k
  | ishl => exact so_ii (fun x y => x <<< (y &&& 31)) (fun rest x y kk => lv_ishl hexec hb hdg kk) (fun x y => so_oi _) (fun x y => so_i_ok _) hL okL okS h k
  | ishr => exact so_ii (fun x y => x >>> (y &&& 31)) (fun rest x y kk => lv_ishr hexec hb hdg kk) (fun x y => so_oi _) (fun x y => so_i_ok _) hL okL okS h k
  | iushr => exact so_ii (fun x y => (x.toUInt32 >>> (y.toUInt32 &&& Int32.toUInt32 31)).toInt32) (fun rest x y kk => lv_iushr hexec hb hdg rfl kk) (fun x y => so_oi _) (fun x y => so_i_ok _) hL okL okS h k
  | ineg => exact so_i1 (f := fun x => .inl (ax_w32 (-x))) (fun x => .int (-x)) (fun rest x kk => lv_ineg hexec hb hdg kk) (fun x _ => ⟨congrArg Value.int (so_neg32 x), so_w32_ok _⟩) hL okL okS h k
  | ladd => exact so_ll (fun x y => x + y) (fun rest x y kk => lv_ladd hexec hb hdg kk) so_add64 (fun x y => so_w64_ok _) hL okL okS h k
  | lsub => exact so_ll (fun x y => x - y) (fun rest x y kk => lv_lsub hexec hb hdg kk) so_sub64 (fun x y => so_w64_ok _) hL okL okS h k
  | lmul => exact so_ll (fun x y => x * y) (fun rest x y kk => lv_lmul hexec hb hdg kk) so_mul64 (fun x y => so_w64_ok _) hL okL okS h k
  | land => exact so_ll (fun x y => x &&& y) (fun rest x y kk => lv_land hexec hb hdg kk) (fun x y => so_ol _) (fun x y => so_l_ok _) hL okL okS h k
  | lor => exact so_ll (fun x y => x ||| y) (fun rest x y kk => lv_lor hexec hb hdg kk) (fun x y => so_ol _) (fun x y => so_l_ok _) hL okL okS h k
  | lxor => exact so_ll (fun x y => x ^^^ y) (fun rest x y kk => lv_lxor hexec hb hdg kk) (fun x y => so_ol _) (fun x y => so_l_ok _) hL okL okS h k
  | lneg => exact so_l1 (f := fun x => .inr (.inl (ax_w64 (-x)))) (fun x => .long (-x)) (fun rest x kk => lv_lneg hexec hb hdg kk) (fun x _ => ⟨congrArg Value.long (so_neg64 x), so_w64_ok _⟩) hL okL okS h k
  | lshl => exact so_li (fun x y => x <<< (y.toInt64 &&& 63)) (fun rest x y kk => lv_lshl hexec hb hdg rfl kk) (fun x y => so_ol _) (fun x y => so_l_ok _) hL okL okS h k
  | lshr => exact so_li (fun x y => x >>> (y.toInt64 &&& 63)) (fun rest x y kk => lv_lshr hexec hb hdg rfl kk) (fun x y => so_ol _) (fun x y => so_l_ok _) hL okL okS h k
  | lushr => exact so_li (fun x y => (x.toUInt64 >>> (y.toInt64.toUInt64 &&& Int64.toUInt64 63)).toInt64) (fun rest x y kk => lv_lushr hexec hb hdg rfl kk) (fun x y => so_ol _) (fun x y => so_l_ok _) hL okL okS h k
  | i2l => exact so_i1 (f := fun x => .inr (.inl x)) (fun x => .long x.toInt64) (fun rest x kk => lv_i2l hexec hb hdg rfl kk) (fun x hx => ⟨congrArg Value.long (so_i2l hx).1.symm, (so_i2l hx).2⟩) hL okL okS h k
  | l2i => exact so_l1 (f := fun x => .inl (ax_w32 x)) (fun x => .int x.toInt32) (fun rest x kk => lv_l2i hexec hb hdg rfl kk) (fun x hx => ⟨congrArg Value.int (so_l2i hx), so_w32_ok _⟩) hL okL okS h k
  | i2b => exact so_i1 (f := fun x => .inl (ax_w8 x)) (fun x => .int x.toInt8.toInt32) (fun rest x kk => lv_i2b hexec hb hdg rfl kk) (fun x hx => ⟨congrArg Value.int (so_i2b hx).1.symm, (so_i2b hx).2⟩) hL okL okS h k
  | i2s => exact so_i1 (f := fun x => .inl (ax_w16 x)) (fun x => .int x.toInt16.toInt32) (fun rest x kk => lv_i2s hexec hb hdg rfl kk) (fun x hx => ⟨congrArg Value.int (so_i2s hx).1.symm, (so_i2s hx).2⟩) hL okL okS h k
  | i2c => exact so_i1 (f := fun x => .inl (ax_u16 x)) (fun x => .int (x.toUInt32 % 65536).toInt32) (fun rest x kk => lv_i2c hexec hb hdg rfl kk) (fun x hx => ⟨congrArg Value.int (so_i2c hx).1.symm, (so_i2c hx).2⟩) hL okL okS h k
  | lcmp =>
    dsimp only [ax_pure] at h
    split at h
    · rename_i y x r
      cases h
      refine W.lcmp hexec hb hdg ?_
      rw [← so_cmp okS.tl.hd okS.hd]
      exact k lsA hL okL (so_okS.cons (so_cmp_ok x y) okS.tl.tl)
    · cases h
  | dup =>
    dsimp only [ax_pure] at h
    split at h
    · split at h
      · rename_i a r g
        cases h
        exact lv_dup hexec hb hdg (by rw [so_cat]; exact g) (k lsA hL okL (so_okS.cons okS.hd okS))
      · cases h
    · cases h
  | pop =>
    dsimp only [ax_pure] at h
    split at h
    · split at h
      · rename_i a r g
        cases h
        exact lv_pop hexec hb hdg (by rw [so_cat]; exact g) (k lsA hL okL okS.tl)
      · cases h
    · cases h
  | dup_x1 =>
    dsimp only [ax_pure] at h
    split at h
    · split at h
      · rename_i a b r g
        cases h
        exact lv_dup_x1 hexec hb hdg (by rw [so_cat]; exact g.1) (by rw [so_cat]; exact g.2) (k lsA hL okL (so_okS.cons okS.hd (so_okS.cons okS.tl.hd (so_okS.cons okS.hd okS.tl.tl))))
      · cases h
    · cases h
  | dup_x2 =>
    dsimp only [ax_pure] at h
    split at h
    · split at h
      · rename_i a b d r g
        cases h
        exact lv_dup_x2 hexec hb hdg (by rw [so_cat]; exact g.1) (by rw [so_cat]; exact g.2.1) (by rw [so_cat]; exact g.2.2) (k lsA hL okL (so_okS.cons okS.hd (so_okS.cons okS.tl.hd (so_okS.cons okS.tl.tl.hd (so_okS.cons okS.hd okS.tl.tl.tl)))))
      · cases h
    · cases h
  | dup2 =>
    dsimp only [ax_pure] at h
    split at h
    · split at h
      · rename_i a b r g
        cases h
        exact lv_dup2_11 hexec hb hdg (by rw [so_cat]; exact g.1) (by rw [so_cat]; exact g.2) (k lsA hL okL (so_okS.cons okS.hd (so_okS.cons okS.tl.hd okS)))
      · cases h
    · cases h
  | idiv =>
    dsimp only [ax_pure] at h
    split at h
    · rename_i y x r
      split at h
      · cases h
      · rename_i g
        cases h
        refine lv_idiv hexec hb hdg (fun z => g ?_) ?_
        · have hy := okS.hd
          have hy : (Int32.ofInt y).toInt = y := hy
          rw [z] at hy
          exact hy.symm
        · have e1 : Int32.ofInt (ax_idiv x y) = Int32.ofInt x / Int32.ofInt y := so_oi _
          rw [← e1]
          exact k lsA hL okL (so_okS.cons (so_i_ok _) okS.tl.tl)
    · cases h
  | irem =>
    dsimp only [ax_pure] at h
    split at h
    · rename_i y x r
      split at h
      · cases h
      · rename_i g
        cases h
        refine lv_irem hexec hb hdg (fun z => g ?_) ?_
        · have hy := okS.hd
          have hy : (Int32.ofInt y).toInt = y := hy
          rw [z] at hy
          exact hy.symm
        · have e1 : Int32.ofInt (ax_irem x y) = Int32.ofInt x - Int32.ofInt x / Int32.ofInt y * Int32.ofInt y := so_oi _
          rw [← e1]
          exact k lsA hL okL (so_okS.cons (so_i_ok _) okS.tl.tl)
    · cases h
  | ldiv =>
    dsimp only [ax_pure] at h
    split at h
    · rename_i y x r
      split at h
      · cases h
      · rename_i g
        cases h
        refine lv_ldiv hexec hb hdg (fun z => g ?_) ?_
        · have hy := okS.hd
          have hy : (Int64.ofInt y).toInt = y := hy
          rw [z] at hy
          exact hy.symm
        · have e1 : Int64.ofInt (ax_ldiv x y) = Int64.ofInt x / Int64.ofInt y := so_ol _
          rw [← e1]
          exact k lsA hL okL (so_okS.cons (so_l_ok _) okS.tl.tl)
    · cases h
  | lrem =>
    dsimp only [ax_pure] at h
    split at h
    · rename_i y x r
      split at h
      · cases h
      · rename_i g
        cases h
        refine lv_lrem hexec hb hdg (fun z => g ?_) ?_
        · have hy := okS.hd
          have hy : (Int64.ofInt y).toInt = y := hy
          rw [z] at hy
          exact hy.symm
        · have e1 : Int64.ofInt (ax_lrem x y) = Int64.ofInt x - Int64.ofInt x / Int64.ofInt y * Int64.ofInt y := so_ol _
          rw [← e1]
          exact k lsA hL okL (so_okS.cons (so_l_ok _) okS.tl.tl)
    · cases h
  | _ => exact absurd h (by simp [ax_pure])

end SOQ
