/-! ANY INSTRUCTION OF THE HEAP. -/
theorem so_w0 {n m : Nat} (k : Nat) (e : n = m) : k + (n - m) = k := by omega
theorem so_rest.len {h : ax_H} (hr : so_rest h) (a : Nat) : so_ok (.inl ((ax_kd h a).2 : Int)) := by
  have h1 := hr.2.1 a
  show (Int32.ofInt ((ax_kd h a).2 : Int)).toInt = _
  exact nI_toInt h1
theorem so_w8 {z : Int} (hz : (Int32.ofInt z).toInt = z) : narrow .byte (.int (Int32.ofInt z)) = .int (Int32.ofInt (ax_w8 z)) ∧ (Int32.ofInt (ax_w8 z)).toInt = ax_w8 z ∧ -128 ≤ ax_w8 z ∧ ax_w8 z < 128 := by
  obtain ⟨h1, h2⟩ := so_i2b hz
  refine ⟨by rw [narrow_byte, h1], h2, ?_, ?_⟩
  · unfold ax_w8; rw [Int.bmod_def]; split <;> omega
  · unfold ax_w8; rw [Int.bmod_def]; split <;> omega
theorem so_Nlt : ∀ a, a < 13 → tb_N a < 2 ^ 31 := by decide +kernel
theorem so_xw (b : Nat) (h1 : 14 ≤ b) (h2 : b < 17) : Cond.instantiable (tb_RN b) 6 ∈ lw_tbl ∧ Cond.initialized (tb_RN b) ∈ lw_tbl := by
  rcases (show b = 14 ∨ b = 15 ∨ b = 16 by omega) with q | q | q <;> subst q
  · exact xw_14
  · exact xw_15
  · exact xw_16
section SON
variable {p : Program} {l : Launch} {e : Env} {R : Room} {s : State} {m : MethodId} {args : Array Value} {below : List Frame} {meth : Method} {c : Code} {H : Heap} {locs : List Loc} {cells slots : Nat} {Q : State → Prop}
variable {pc y : Nat} {lsA : Array Slot} {st st' : List ax_V} {ad : Nat → Option Nat} {h h' : ax_H} {H0 : Heap}
set_option maxHeartbeats 4000000 in
theorem so_heap {i : Instr} {a b k : Nat} {d : Int} (X : so_Ctx p e s m args meth c ad H0 y) (hR : so_Rel s ad H0 h H) (hlo : ∀ q ∈ locs, H0.size ≤ q.base) (okS : so_okS st) (hat : ax_at (tb_M y).2.2.2.2.2 pc = some (i, a, b, k, d)) (h1 : ax_heap i a b d st h = some (st', h'))
    (hcells : cells + (h'.1 - h.1) ≤ R.cells) (hslots : slots + (h'.2.1 - h.2.1) ≤ R.slots)
    (kk : ∀ (H' : Heap) (locs' : List Loc), so_Rel s ad H0 h' H' → (∀ q ∈ locs', H0.size ≤ q.base) → so_okS st' → W p l e R s m args below meth c H' locs' (cells + (h'.1 - h.1)) (slots + (h'.2.1 - h.2.1)) Q (F0 m (pc + ax_len i) lsA (st'.map (so_v ad)))) :
    W p l e R s m args below meth c H locs cells slots Q (F0 m pc lsA (st.map (so_v ad))) := by
  obtain ⟨x1, x2, x3, x4, x5, x6, x7, x8, x9, x10, x11, x12, x13⟩ := id X
  have hmok := x13
  unfold tb_mok at hmok
  rw [Bool.and_eq_true] at hmok
  obtain ⟨htd, htl⟩ := so_all _ 0 pc _ hmok.1 hat
  rw [Nat.zero_add] at htd
  obtain ⟨n, hdg, hn, hfine, -⟩ := so_dec htd
  -- nothing is made
  have kk0 : h'.1 = h.1 → h'.2.1 = h.2.1 → ∀ (H' : Heap) (locs' : List Loc), so_Rel s ad H0 h' H' → (∀ q ∈ locs', H0.size ≤ q.base) → so_okS st' → W p l e R s m args below meth c H' locs' cells slots Q (F0 m (pc + ax_len i) lsA (st'.map (so_v ad))) := by
    intro e1 e2 H' locs' g1 g2 g3
    have := kk H' locs' g1 g2 g3
    rwa [so_w0 cells e1, so_w0 slots e2] at this
  cases i with
  | getfield idx =>
    cases hn rfl
    simp only [tb_l, Bool.and_eq_true, decide_eq_true_eq] at htl
    obtain ⟨⟨t1, t2⟩, t3⟩ := htl
    simp only [ax_heap] at h1
    split at h1
    · rename_i o r
      split at h1
      · rename_i hk
        split at h1
        · rename_i v hv
          cases h1
          refine so_getf x1 x2 x4 hR hk t2 hv ?_ hdg (kk0 rfl rfl H locs hR hlo (so_okS.cons (so_fvo hR.2.2.2.1 hk rfl hv) okS.tl))
          have t4 := so_lk t3
          by_cases hd : d = 0
          · rw [if_pos hd] at t4
            exact Or.inl (x10 _ t4 rfl)
          · rw [if_neg hd] at t4
            exact Or.inr ⟨_, x10 _ t4 rfl⟩
        · cases h1
      · cases h1
    · cases h1
  | putfield idx =>
    cases hn rfl
    simp only [tb_l, Bool.and_eq_true, decide_eq_true_eq, Bool.or_eq_true, Bool.not_eq_true', beq_iff_eq] at htl
    obtain ⟨⟨⟨t1, t2⟩, t3⟩, t5⟩ := htl
    simp only [ax_heap] at h1
    split at h1
    · rename_i v o r
      split at h1
      · rename_i hk
        split at h1
        · rename_i h2 hv
          cases h1
          have e0 : h'.1 = h.1 ∧ h'.2.1 = h.2.1 := by
            obtain ⟨-, ⟨z, rfl, -⟩ | ⟨x, rfl⟩⟩ := so_pf (ad := ad) (a := a) rfl hv <;> exact ⟨rfl, rfl⟩
          have t4 := so_lk t3
          refine so_putf x1 x2 x4 x10 (cw_all a t1) x11 hR hlo hk.1 hk.2 t2 hv okS.hd ?_ (fun hf => ?_) hdg (fun H' locs' g1 g2 => kk0 e0.1 e0.2 H' locs' g1 g2 okS.tl.tl)
          · by_cases hd : d = 0
            · rw [if_pos hd] at t4
              exact Or.inl (x10 _ t4 rfl)
            · rw [if_neg hd] at t4
              exact Or.inr ⟨_, x10 _ t4 rfl⟩
          · rcases t5 with t5 | ⟨⟨t5, t6⟩, t7⟩
            · rw [hf] at t5; cases t5
            · rw [if_pos t7] at t4
              exact ⟨by rw [t6], x7 t5, x10 _ t4 rfl⟩
        · cases h1
      · cases h1
    · cases h1
  | getstatic idx =>
    cases hn rfl
    simp only [tb_l, Bool.and_eq_true, Bool.or_eq_true, beq_iff_eq] at htl
    simp only [ax_heap] at h1
    cases h1
    rcases htl with (⟨⟨t1, t2⟩, t3⟩ | ⟨⟨t1, t2⟩, t3⟩) | ⟨⟨t1, t2⟩, t3⟩
    · subst t1; subst t2
      exact so_gets (host := some "MachineText") X hR x12.1 (x10 _ (so_lk t3) rfl) hdg (kk0 rfl rfl H locs hR hlo (so_okS.cons trivial okS))
    · subst t1; subst t2
      exact so_gets (host := none) X hR x12.2.1 (x10 _ (so_lk t3) rfl) hdg (kk0 rfl rfl H locs hR hlo (so_okS.cons rfl okS))
    · subst t1; subst t2
      exact so_gets (host := none) X hR x12.2.2.1 (x10 _ (so_lk t3) rfl) hdg (kk0 rfl rfl H locs hR hlo (so_okS.cons trivial okS))
  | ldc idx =>
    cases hn rfl
    simp only [tb_l] at htl
    simp only [ax_heap] at h1
    cases h1
    by_cases ha : a = 0
    · rw [if_pos ha] at htl
      simp only [Bool.and_eq_true, decide_eq_true_eq] at htl
      rw [if_pos ha] at kk0
      exact lv_ldc x1 x2 x4 (x10 _ (so_lk htl.1) rfl) hdg (kk0 rfl rfl H locs hR hlo (so_okS.cons htl.2 okS))
    · rw [if_neg ha] at htl
      simp only [Bool.and_eq_true, decide_eq_true_eq] at htl
      obtain ⟨⟨⟨⟨⟨⟨t1, t2⟩, hb3⟩, hb5⟩, t3⟩, t4⟩, t5⟩ := htl
      rw [if_neg ha] at kk0
      obtain ⟨r, g1, g2⟩ := x12.2.2.2.2.1 b t1 t2 hb3 hb5
      rw [t3, t4] at g2
      have e1 : so_v ad (.inr (.inr (some b))) = .ref r := by show va_rf (ad b) = _; rw [g1]; rfl
      have := kk0 rfl rfl H locs hR hlo (so_okS.cons trivial okS)
      rw [List.map_cons, e1] at this
      exact va_ldcS x1 x2 x4 g2 hdg this
  | ldc_w idx =>
    cases hn rfl
    simp only [tb_l, Bool.and_eq_true, decide_eq_true_eq] at htl
    simp only [ax_heap] at h1
    cases h1
    rw [if_pos htl.1.1] at kk0
    exact lv_ldcw x1 x2 x4 (x10 _ (so_lk htl.1.2) rfl) hdg (kk0 rfl rfl H locs hR hlo (so_okS.cons htl.2 okS))
  | ldc2_w idx =>
    cases hn rfl
    simp only [tb_l, Bool.and_eq_true, decide_eq_true_eq] at htl
    simp only [ax_heap] at h1
    cases h1
    exact lv_ldc2 x1 x2 x4 (x10 _ (so_lk htl.1) rfl) hdg (kk0 rfl rfl H locs hR hlo (so_okS.cons htl.2 okS))
  | arraylength =>
    cases hn rfl
    simp only [ax_heap] at h1
    split at h1
    · rename_i o r
      split at h1
      · rename_i hk
        cases h1
        exact so_alen x1 x2 hR hk hdg (kk0 rfl rfl H locs hR hlo (so_okS.cons (hR.2.2.2.2.len o) okS.tl))
      · cases h1
    · cases h1
  | iaload =>
    cases hn rfl
    simp only [ax_heap, ax_ald] at h1
    split at h1
    · rename_i j o r
      split at h1
      · rename_i hk
        cases h1
        have hk1 : (ax_kd h o).1 = 0 := by simpa using hk.1
        refine so_ald (t := 0) (ty := .int) (i := .iaload) hR hk1 rfl okS.hd hk.2.1 hk.2.2 (fun q cell x v rest g1 g2 g3 g4 g5 g6 => W.iald x1 x2 g1 g2 g3 g4 g5 rfl rfl hdg g6) ?_
        have := kk0 rfl rfl H locs hR hlo (so_okS.cons (by rw [hk1]; exact hR.2.2.2.1.ok o _ hk1 (by omega)) okS.tl.tl)
        rw [hk1] at this
        exact this
      · cases h1
    · cases h1
  | laload =>
    cases hn rfl
    simp only [ax_heap, ax_ald] at h1
    split at h1
    · rename_i j o r
      split at h1
      · rename_i hk
        cases h1
        have hk1 : (ax_kd h o).1 = 2 := by simpa using hk.1
        refine so_ald (t := 2) (ty := .long) (i := .laload) hR hk1 rfl okS.hd hk.2.1 hk.2.2 (fun q cell x v rest g1 g2 g3 g4 g5 g6 => W.lald x1 x2 g1 g2 g3 g4 g5 rfl rfl hdg g6) ?_
        have := kk0 rfl rfl H locs hR hlo (so_okS.cons (by rw [hk1]; exact hR.2.2.2.1.ok o _ hk1 (by omega)) okS.tl.tl)
        rw [hk1] at this
        exact this
      · cases h1
    · cases h1
  | baload =>
    cases hn rfl
    simp only [ax_heap, ax_ald] at h1
    split at h1
    · rename_i j o r
      split at h1
      · rename_i hk
        cases h1
        have hk1 : (ax_kd h o).1 = 1 ∨ (ax_kd h o).1 = 3 := by simpa using hk.1
        rcases hk1 with hk1 | hk1
        · refine so_ald (t := 1) (ty := .byte) (i := .baload) hR hk1 rfl okS.hd hk.2.1 hk.2.2 (fun q cell x v rest g1 g2 g3 g4 g5 g6 => W.bald x1 x2 g1 g2 g3 g4 g5 rfl rfl hdg g6) ?_
          have := kk0 rfl rfl H locs hR hlo (so_okS.cons (by rw [hk1]; exact hR.2.2.2.1.ok o _ hk1 (by omega)) okS.tl.tl)
          rw [hk1] at this
          exact this
        · refine so_ald (t := 3) (ty := .boolean) (i := .baload) hR hk1 rfl okS.hd hk.2.1 hk.2.2 (fun q cell x v rest g1 g2 g3 g4 g5 g6 => W.zald x1 x2 g1 g2 g3 g4 g5 rfl rfl hdg g6) ?_
          have := kk0 rfl rfl H locs hR hlo (so_okS.cons (by rw [hk1]; exact hR.2.2.2.1.ok o _ hk1 (by omega)) okS.tl.tl)
          rw [hk1] at this
          exact this
      · cases h1
    · cases h1
  | iastore =>
    cases hn rfl
    simp only [ax_heap] at h1
    split at h1
    · rename_i z q
      simp only [ax_ast] at h1
      split at h1
      · rename_i j o r
        split at h1
        · rename_i hk
          obtain ⟨hk0, hk2, hk3, hk4, hk5⟩ := hk
          have hk1 : (ax_kd h o).1 = 0 := by simpa using hk0
          rw [hk1] at h1
          simp only [ax_tk] at h1
          cases h1
          exact so_ast (t := 0) (ty := .int) (z := z) (v := .int (Int32.ofInt z)) x11 hR hlo hk1 rfl hk4 okS.tl.hd hk2 hk3 okS.hd (fun q => by cases q) (fun q cell x rest g1 g2 g3 g4 g5 => W.iast x1 x2 g1 g2 g3 g4 rfl rfl hdg g5) (fun H' locs' g1 g2 => kk0 rfl rfl H' locs' g1 g2 okS.tl.tl.tl)
        · cases h1
      · cases h1
    · cases h1
  | lastore =>
    cases hn rfl
    simp only [ax_heap] at h1
    split at h1
    · rename_i z q
      simp only [ax_ast] at h1
      split at h1
      · rename_i j o r
        split at h1
        · rename_i hk
          obtain ⟨hk0, hk2, hk3, hk4, hk5⟩ := hk
          have hk1 : (ax_kd h o).1 = 2 := by simpa using hk0
          rw [hk1] at h1
          simp only [ax_tk] at h1
          cases h1
          exact so_ast (t := 2) (ty := .long) (z := z) (v := .long (Int64.ofInt z)) x11 hR hlo hk1 rfl hk4 okS.tl.hd hk2 hk3 okS.hd (fun q => by cases q) (fun q cell x rest g1 g2 g3 g4 g5 => W.last x1 x2 g1 g2 g3 g4 rfl rfl hdg g5) (fun H' locs' g1 g2 => kk0 rfl rfl H' locs' g1 g2 okS.tl.tl.tl)
        · cases h1
      · cases h1
    · cases h1
  | bastore =>
    cases hn rfl
    simp only [ax_heap] at h1
    split at h1
    · rename_i z q
      simp only [ax_ast] at h1
      split at h1
      · rename_i j o r
        split at h1
        · rename_i hk
          obtain ⟨hk0, hk2, hk3, hk4, hk5⟩ := hk
          have hk1 : (ax_kd h o).1 = 1 ∨ (ax_kd h o).1 = 3 := by simpa using hk0
          have hz : (Int32.ofInt z).toInt = z := okS.hd
          rcases hk1 with hk1 | hk1
          · rw [hk1] at h1
            simp only [ax_tk] at h1
            cases h1
            obtain ⟨w1, w2, w3, w4⟩ := so_w8 hz
            exact so_ast (t := 1) (ty := .byte) (z := ax_w8 z) (v := .int (Int32.ofInt z)) x11 hR hlo hk1 rfl hk4 okS.tl.hd hk2 hk3 w2 (fun _ => ⟨w3, w4⟩) (fun q cell x rest g1 g2 g3 g4 g5 => W.bast x1 x2 g1 g2 g3 g4 rfl rfl hdg (by rw [w1]; exact g5)) (fun H' locs' g1 g2 => kk0 rfl rfl H' locs' g1 g2 okS.tl.tl.tl)
          · rw [hk1] at h1
            simp only [ax_tk] at h1
            split at h1
            · rename_i y2 hy2
              split at hy2
              · rename_i hz2
                cases hy2
                cases h1
                have w1 : narrow .boolean (.int (Int32.ofInt z)) = .int (Int32.ofInt z) := by
                  rcases hz2 with q | q <;> subst q <;> decide
                exact so_ast (t := 3) (ty := .boolean) (z := z) (v := .int (Int32.ofInt z)) x11 hR hlo hk1 rfl hk4 okS.tl.hd hk2 hk3 okS.hd (fun q => by cases q) (fun q cell x rest g1 g2 g3 g4 g5 => W.zast x1 x2 g1 g2 g3 g4 rfl rfl hdg (by rw [w1]; exact g5)) (fun H' locs' g1 g2 => kk0 rfl rfl H' locs' g1 g2 okS.tl.tl.tl)
              · cases hy2
            · cases h1
        · cases h1
      · cases h1
    · cases h1
  | new idx =>
    cases hn rfl
    simp only [tb_l] at htl
    simp only [ax_heap] at h1
    by_cases ha : a = 0
    · rw [if_pos ha] at htl h1
      simp only [Bool.and_eq_true, decide_eq_true_eq] at htl
      cases h1
      have e1 : (ax_new h (100 + b, tb_N b) (tb_ci.getD b (0, 0, 0, [])).2.2.1).1 - h.1 = 1 := by show h.1 + 1 - h.1 = 1; omega
      have e2 : (ax_new h (100 + b, tb_N b) (tb_ci.getD b (0, 0, 0, [])).2.2.1).2.1 - h.2.1 = (tb_ci.getD b (0, 0, 0, [])).2.2.1 := by show h.2.1 + _ - h.2.1 = _; omega
      rw [e1] at hcells kk
      rw [e2] at hslots kk
      exact so_newo x1 x2 x4 x10 (cw_all b htl.1) (so_Nlt b htl.1) rfl x11 hR (x10 _ (so_lk htl.2) rfl) hcells hslots hdg (fun H' g1 => kk H' locs g1 hlo (so_okS.cons trivial okS))
    · rw [if_neg ha] at htl h1
      simp only [Bool.and_eq_true, decide_eq_true_eq] at htl
      cases h1
      have e1 : (ax_newx h b).1 - h.1 = 1 := by show h.1 + 1 - h.1 = 1; omega
      have e2 : (ax_newx h b).2.1 - h.2.1 = 6 := by show h.2.1 + 6 - h.2.1 = _; omega
      rw [e1] at hcells kk
      rw [e2] at hslots kk
      have hx : Cond.instantiable (tb_RN b) 6 ∈ lw_tbl ∧ Cond.initialized (tb_RN b) ∈ lw_tbl := so_xw b htl.1.1 htl.1.2
      exact so_newx x1 x2 x4 (x10 _ hx.1 rfl) (x10 _ hx.2 rfl) x11 hR (x10 _ (so_lk htl.2) rfl) hcells hslots hdg (fun H' g1 => kk H' locs g1 hlo (so_okS.cons trivial okS))
  | newarray t =>
    cases hn rfl
    simp only [tb_l, Bool.and_eq_true, Bool.or_eq_true, decide_eq_true_eq, beq_iff_eq] at htl
    simp only [ax_heap] at h1
    split at h1
    · rename_i z r
      split at h1
      · rename_i hz
        cases h1
        have e1 : (ax_new h (a, z.toNat) z.toNat).1 - h.1 = 1 := by show h.1 + 1 - h.1 = 1; omega
        have e2 : (ax_new h (a, z.toNat) z.toNat).2.1 - h.2.1 = z.toNat := by show h.2.1 + _ - h.2.1 = _; omega
        rw [e1] at hcells kk
        rw [e2] at hslots kk
        rcases htl with ((⟨t1, t2⟩ | ⟨t1, t2⟩) | ⟨t1, t2⟩) | ⟨t1, t2⟩
        · subst t1; subst t2
          exact so_newa (at' := .int) (ty := .int) x1 x2 x11 hR rfl rfl (x10 _ aw_int rfl) okS.hd hz.1 hz.2 hcells hslots hdg (fun H' g1 => kk H' locs g1 hlo (so_okS.cons trivial okS.tl))
        · subst t1; subst t2
          exact so_newa (at' := .byte) (ty := .byte) x1 x2 x11 hR rfl rfl (x10 _ aw_byte rfl) okS.hd hz.1 hz.2 hcells hslots hdg (fun H' g1 => kk H' locs g1 hlo (so_okS.cons trivial okS.tl))
        · subst t1; subst t2
          exact so_newa (at' := .long) (ty := .long) x1 x2 x11 hR rfl rfl (x10 _ aw_long rfl) okS.hd hz.1 hz.2 hcells hslots hdg (fun H' g1 => kk H' locs g1 hlo (so_okS.cons trivial okS.tl))
        · subst t1; subst t2
          exact so_newa (at' := .boolean) (ty := .boolean) x1 x2 x11 hR rfl rfl (x10 _ aw_boolean rfl) okS.hd hz.1 hz.2 hcells hslots hdg (fun H' g1 => kk H' locs g1 hlo (so_okS.cons trivial okS.tl))
      · cases h1
    · cases h1
  | _ => exact absurd h1 (by simp [ax_heap])
end SON
