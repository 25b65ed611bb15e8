/-! arraycopy of bytes. -/
section SOZ
variable {p : Program} {l : Launch} {e : Env} {R : Room} {s : State} {m : MethodId} {args : Array Value} {below : List Frame} {meth : Method} {c : Code} {H : Heap} {locs : List Loc} {cells slots : Nat} {Q : State → Prop}
variable {pc y : Nat} {lsA : Array Slot} {ad : Nat → Option Nat} {h h' : ax_H} {H0 : Heap}
def ax_setF (h : ax_H) (t : Nat) (F : Nat → Int) : ax_H := (h.1, h.2.1, h.2.2.1, (fun b => if b = t then F else h.2.2.2.1 b), h.2.2.2.2)
theorem so_b32 {z : Int} (h : -128 ≤ z ∧ z < 128) : (Int32.ofInt z).toInt = z := Int32.toInt_ofInt_of_le (by omega) (by omega)
/-- the bytes of an array are laid anew -/
theorem so_Rel.bytes {H' : Heap} {o r : Nat} {F : Nat → Int} {cell cell' : Cell} (hAD : so_AD ad H0.size) (hR : so_Rel s ad H0 h H) (ho : 27 ≤ o) (ht : (ax_kd h o).1 = 1) (hr : ad o = some r) (hF : ∀ j, -128 ≤ F j ∧ F j < 128)
    (hcell : H[r]? = some cell) (h1 : H'[r]? = some cell') (h2 : H'.size = H.size) (h3 : ∀ q, q ≠ r → H'[q]? = H[q]?) (hc1 : cell'.cls = cell.cls) (hc2 : cell'.vm = cell.vm) (hc3 : cell'.slots.size = cell.slots.size) (hc4 : ∀ j, j < (ax_kd h o).2 → cell'.slots[j]? = some (.int (Int32.ofInt (F j)))) :
    so_Rel s ad H0 (ax_setF h o F) H' := by
  have hk : ax_kd h o ≠ (50, 0) := fun e => by rw [e] at ht; cases ht
  have hin := so_in hR.2.2.2.2 hk
  have hrr : H0.size ≤ r := by
    have := hAD.new ho
    rw [hr] at this
    have := Option.some.inj this
    omega
  have hnu : ∀ b j, ax_nu (ax_setF h o F) b j = if b = o then F j else ax_nu h b j := fun b j => by
    show (if b = o then F else h.2.2.2.1 b) j = _
    by_cases e : b = o
    · rw [if_pos e, if_pos e]
    · rw [if_neg e, if_neg e]; rfl
  refine ⟨h2.trans hR.1, fun q hq => ?_, fun a ha => ?_, fun a k => ?_, fun a ha => ?_, hR.2.2.2.2.2.1, hR.2.2.2.2.2.2⟩
  · rw [h3 q (by omega)]
    exact hR.2.1 q hq
  · by_cases e : a = o
    · subst e
      refine ⟨fun ty hty => ?_, fun ci hci => ?_, fun x hx => ?_, fun x hx => ?_⟩
      · obtain ⟨r', hr', cell0, g1, g2, g3, g4, g5⟩ := (hR.2.2.1 a ha).1 ty hty
        cases hr.symm.trans hr'
        cases hcell.symm.trans g1
        refine ⟨r, hr, cell', h1, ⟨fun k => by rw [hc2]; exact g2.1 k, by rw [hc1]; exact g2.2⟩, by rw [hc2]; exact g3, g4.set hc3, fun j hj => ?_⟩
        have hj : j < (ax_kd h a).2 := hj
        rw [hc4 j hj]
        show _ = some (so_v ad (ax_el (ax_kd h a).1 (ax_nu (ax_setF h a F) a j)))
        rw [ht, hnu, if_pos rfl]
        rfl
      · have hci : (ax_kd h a).1 = 100 + ci := hci
        omega
      · exact absurd (hR.2.2.2.2.2.2.1 a (by show ax_ex h a ≠ 0; have : ax_ex h a = 2 * x + 1 := hx; omega)).1 hk
      · exact absurd (hR.2.2.2.2.2.2.1 a (by show ax_ex h a ≠ 0; have : ax_ex h a = 2 * x + 2 := hx; omega)).1 hk
    · refine (hR.2.2.1 a ha).kept (fun g q hq => h3 q (hAD.apart ho e (g.ne hR.2.2.2.2) hq hr)) rfl (fun k => ?_) (fun _ => rfl) rfl
      rw [hnu, if_neg e]
  · rw [hnu]
    show (if ax_isl (ax_kd h a).1 k = true then _ else _) ∧ ((ax_kd h a).1 = 1 → _)
    by_cases e : a = o
    · subst e
      rw [if_pos rfl]
      have hi : ax_isl (ax_kd h a).1 k = false := by rw [ht]; rfl
      rw [hi]
      refine ⟨?_, fun _ => hF k⟩
      have := hF k
      show (Int32.ofInt (F k)).toInt = F k
      exact so_b32 this
    · rw [if_neg e]
      exact hR.2.2.2.1 a k
  · have e : a ≠ o := by
      have : 27 + h.1 ≤ a := ha
      omega
    obtain ⟨g1, g2, g3⟩ := hR.2.2.2.2.1 a ha
    refine ⟨g1, g2, fun k => ⟨?_, (g3 k).2⟩⟩
    rw [hnu, if_neg e]
    exact (g3 k).1
set_option maxRecDepth 20000 in
theorem so_sysw : Cond.native arraycopyName ∈ lw_tbl ∧ Cond.static arraycopyName ∈ lw_tbl ∧ Cond.initialized "java/lang/System" ∈ lw_tbl := ⟨tb_i3 (List.mem_of_getElem? (i := 219) rfl), tb_i3 (List.mem_of_getElem? (i := 218) rfl), tb_i1 (List.mem_of_getElem? (i := 25) rfl)⟩
theorem so_clamp {z : Int} (h0 : 0 ≤ z) (hz : (Int32.ofInt z).toInt = z) : (Int32.ofInt z).toNatClampNeg = z.toNat := by
  show (Int32.ofInt z).toInt.toNat = _
  rw [hz]
theorem so_copyW {idx : Nat} {st st' : List ax_V} (X : so_Ctx p e s m args meth c ad H0 y) (hR : so_Rel s ad H0 h H) (hlo : ∀ q ∈ locs, H0.size ≤ q.base) (okS : so_okS st) (hfr : 10 ≤ R.frames) (hloc : 200 ≤ R.locals) (hsize : lsA.size = c.maxLocals) (hlink : Cond.methodLink (tb_RN (tb_M y).1) idx arraycopyName ∈ lw_tbl) (hdg : decode (tb_bytes y) pc = .ok (.invokestatic idx, 3))
    (hcp : ax_copy st h = some (st', h')) (hwt : ax_wt st' ≤ 20)
    (kk : ∀ (H' : Heap) (locs' : List Loc), so_Rel s ad H0 h' H' → (∀ q ∈ locs', H0.size ≤ q.base) → so_okS st' → W p l e R s m args below meth c H' locs' cells slots Q (F0 m (pc + 3) lsA (st'.map (so_v ad)))) :
    W p l e R s m args below meth c H locs cells slots Q (F0 m pc lsA (st.map (so_v ad))) := by
  intro T hT S
  obtain ⟨x1, x2, x3, x4, x5, x6, x7, x8, x9, x10, x11, x12, x13⟩ := id X
  unfold ax_copy at hcp
  split at hcp
  · rename_i n dp t sp o r0
    split at hcp
    · rename_i hc
      obtain ⟨k1, k2, n0, dp0, sp0, hs1, hs2, ht, ho, hne⟩ := hc
      cases hcp
      have zn : (Int32.ofInt n).toInt = n := okS (.inl n) (by simp)
      have zd : (Int32.ofInt dp).toInt = dp := okS (.inl dp) (by simp)
      have zs : (Int32.ofInt sp).toInt = sp := okS (.inl sp) (by simp)
      have hko : ax_kd h o ≠ (50, 0) := fun e => by rw [e] at k1; cases k1
      have hkt : ax_kd h t ≠ (50, 0) := fun e => by rw [e] at k2; cases k2
      obtain ⟨ro, hro, cs, g1, g2, g3, g4, g5⟩ := (hR.2.2.1 o (so_in hR.2.2.2.2 hko)).1 .byte (by rw [k1]; rfl)
      obtain ⟨rt, hrt, cd, f1, f2, f3, f4, f5⟩ := (hR.2.2.1 t (so_in hR.2.2.2.2 hkt)).1 .byte (by rw [k2]; rfl)
      obtain ⟨ks, hks, sComp, hsk⟩ := g2.2
      obtain ⟨kd, hkd, dComp, hdk⟩ := f2.2
      rw [← hT] at g1 f1
      have hval : ∀ i, i < n.toNat → cs.slots.getD (sp.toNat + i) .null = .int (Int32.ofInt (ax_nu h o (sp.toNat + i))) := fun i hi => by
        have := g5 (sp.toNat + i) (by omega)
        rw [k1] at this
        rw [Array.getD_eq_getD_getElem?, this]
        rfl
      have hst : (([.inl n, .inl dp, .inr (.inr (some t)), .inl sp, .inr (.inr (some o))] : List ax_V) ++ st').map (so_v ad) = .int (Int32.ofInt n) :: .int (Int32.ofInt dp) :: .ref rt :: .int (Int32.ofInt sp) :: .ref ro :: st'.map (so_v ad) := by
        show .int _ :: .int _ :: va_rf (ad t) :: .int _ :: va_rf (ad o) :: _ = _
        rw [hro, hrt]
        rfl
      obtain ⟨vm', S', step⟩ := S.arraycopy x1 (own := tb_RN (tb_M y).1) (index := idx) x4 (x10 _ hlink rfl) (x10 _ so_sysw.1 rfl) (x10 _ so_sysw.2.1 rfl) (x10 _ so_sysw.2.2 rfl) (src := ro) (dst := rt) (srcPos := Int32.ofInt sp) (destPos := Int32.ofInt dp) (n := Int32.ofInt n)
        g1 f1 g2.1 f2.1 g3 f3 hks hkd hsk hdk rfl (by rw [Int32.lt_iff_toInt_lt, zs]; exact Int.not_lt.mpr sp0) (by rw [Int32.lt_iff_toInt_lt, zd]; exact Int.not_lt.mpr dp0) (by rw [Int32.lt_iff_toInt_lt, zn]; exact Int.not_lt.mpr n0) (by rw [zs, zn]; have := g4.1; omega) (by rw [zd, zn]; have := f4.1; omega)
        (fun vm' _ i hi => by
          rw [so_clamp n0 zn] at hi
          rw [so_clamp sp0 zs, hval i hi]
          refine ⟨?_, trivial⟩
          obtain ⟨b1, b2⟩ := (hR.2.2.2.1 o (sp.toNat + i)).2 k1
          have hb : (Int32.ofInt (ax_nu h o (sp.toNat + i))).toInt = ax_nu h o (sp.toNat + i) := so_b32 ⟨b1, b2⟩
          simp only [fits, Bool.and_eq_true, decide_eq_true_eq]
          refine ⟨Int32.le_iff_toInt_le.mpr ?_, Int32.le_iff_toInt_le.mpr ?_⟩
          · rw [hb]; exact b1
          · rw [hb]; show _ ≤ (127 : Int); omega)
        (g := F0 m pc lsA (.int (Int32.ofInt n) :: .int (Int32.ofInt dp) :: .ref rt :: .int (Int32.ofInt sp) :: .ref ro :: st'.map (so_v ad))) rfl hsize (rest := st'.map (so_v ad)) rfl (by rw [x2]; exact hdg) (by omega) (by
          have hw : nativeFrameWords "java/lang/System" "arraycopy" 5 = 7 := by decide +kernel
          show 2 * 0 + _ + (_ + 11) ≤ _
          rw [so_wt, hw]; omega)
      have cn := so_clamp n0 zn
      have cd2 := so_clamp dp0 zd
      have csp := so_clamp sp0 zs
      have hlen : (cs.stretch (Int32.ofInt sp).toNatClampNeg (Int32.ofInt n).toNatClampNeg).length = n.toNat := by
        unfold Cell.stretch
        rw [List.length_map, List.length_range, cn]
      obtain ⟨w1, w2, w3, -, -⟩ := cd.storeRun_facts (Int32.ofInt dp).toNatClampNeg (cs.stretch (Int32.ofInt sp).toNatClampNeg (Int32.ofInt n).toNatClampNeg)
      have hRT : so_Rel s ad H0 h T.heap := by rw [hT]; exact hR
      have hltr : rt < T.heap.size := (Array.getElem?_eq_some_iff.mp f1).1
      have hH' : so_Rel s ad H0 (ax_setF h t (ax_cpy (ax_nu h o) (ax_nu h t) sp.toNat dp.toNat n.toNat)) (T.heap.setIfInBounds rt (copied cs cd (Int32.ofInt sp) (Int32.ofInt dp) (Int32.ofInt n))) := by
        refine hRT.bytes x11 ht k2 hrt (fun j => ?_) f1 (cell' := copied cs cd (Int32.ofInt sp) (Int32.ofInt dp) (Int32.ofInt n)) ?_ ?_ (fun q hq => ?_) w1 w2 w3 (fun j hj => ?_)
        · unfold ax_cpy
          split
          · exact (hR.2.2.2.1 o _).2 k1
          · exact (hR.2.2.2.1 t _).2 k2
        · rw [Array.getElem?_setIfInBounds, if_pos rfl, if_pos hltr]
        · exact Array.size_setIfInBounds
        · rw [Array.getElem?_setIfInBounds, if_neg (fun e => hq e.symm)]
        · rw [Cell.storeRun_get _ _ _ _ (by rw [hlen, cd2]; have := f4.1; omega), hlen, cd2]
          unfold ax_cpy
          by_cases hj2 : dp.toNat ≤ j ∧ j < dp.toNat + n.toNat
          · rw [if_pos hj2, if_pos hj2]
            unfold Cell.stretch
            rw [csp, cn, List.getElem?_map, List.getElem?_range (by omega)]
            exact congrArg some (hval (j - dp.toNat) (by omega))
          · rw [if_neg hj2, if_neg hj2]
            have := f5 j hj
            rw [this]
            show some (so_v ad (ax_el (ax_kd h t).1 (ax_nu h t j))) = _
            rw [k2]
            rfl
      obtain ⟨t2, a1, b1⟩ := kk _ (locs ++ (cs.stretch (Int32.ofInt sp).toNatClampNeg (Int32.ofInt n).toNatClampNeg).zipIdx.map fun q => ⟨rt, (Int32.ofInt dp).toNatClampNeg + q.2⟩) hH' (fun q hq => by
        rcases List.mem_append.mp hq with hh | hh
        · exact hlo q hh
        · obtain ⟨i, -, rfl⟩ := List.mem_map.mp hh
          show H0.size ≤ rt
          have := x11.new ht
          rw [hrt] at this
          have := Option.some.inj this
          omega) (fun v hv => okS v (List.mem_cons_of_mem _ (List.mem_cons_of_mem _ (List.mem_cons_of_mem _ (List.mem_cons_of_mem _ (List.mem_cons_of_mem _ hv)))))) ((T.setVm vm').setCell rt (copied cs cd (Int32.ofInt sp) (Int32.ofInt dp) (Int32.ofInt n))) rfl S'
      refine ⟨t2, ?_, b1⟩
      have := step t2 a1
      rw [← hst] at this
      exact this
    · cases hcp
  · cases hcp
end SOZ
