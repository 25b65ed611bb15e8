/-! FIELDS ARE WRITTEN, CELLS ARE MADE. -/
section SOI
variable {p : Program} {l : Launch} {e : Env} {R : Room} {s : State} {m : MethodId} {args : Array Value} {below : List Frame} {meth : Method} {c : Code} {H : Heap} {locs : List Loc} {cells slots : Nat} {Q : State → Prop}
variable {cc : ByteArray} {pc nL : Nat} {lsA : Array Slot} {st st' : List ax_V} {ad : Nat → Option Nat} {h h' : ax_H} {H0 : Heap}
theorem so_rv (x : Option Nat) : so_v ad (.inr (.inr x)) = .null ∨ ∃ a, so_v ad (.inr (.inr x)) = .ref a := by
  cases x with
  | none => exact Or.inl rfl
  | some y =>
    show va_rf (ad y) = _ ∨ ∃ a, va_rf (ad y) = _
    cases ad y with
    | none => exact Or.inl rfl
    | some z => exact Or.inr ⟨z, rfl⟩
theorem so_fits {a b o : Nat} {v : ax_V} {ty : FieldType} (hC : so_Cw a) (hb : b < tb_N a) (hp : parseFieldDescriptor (tb_f a b).2.1 = some ty) (hv : ax_pf (tb_f a b).2.2.1 h o b v = some h') : narrow ty (so_v ad v) = so_v ad v ∧ fits ty (so_v ad v) = true := by
  have h1 := hC.2.2.2.2 b hb
  rw [hp] at h1
  cases ty with
  | int =>
    have h1 : (tb_f a b).2.2.1 = 0 := h1
    rw [h1] at hv
    simp only [ax_pf] at hv
    split at hv
    · exact ⟨rfl, rfl⟩
    · cases hv
  | long =>
    have h1 : (tb_f a b).2.2.1 = 1 := h1
    rw [h1] at hv
    simp only [ax_pf] at hv
    split at hv
    · exact ⟨rfl, rfl⟩
    · cases hv
  | boolean =>
    have h1 : (tb_f a b).2.2.1 = 3 := h1
    rw [h1] at hv
    simp only [ax_pf] at hv
    split at hv
    · split at hv
      · rename_i z hz
        rcases hz with hz | hz
        · subst hz
          show narrow .boolean (.int (Int32.ofInt 0)) = .int (Int32.ofInt 0) ∧ fits .boolean (.int (Int32.ofInt 0)) = true
          exact ⟨by decide, by decide⟩
        · subst hz
          show narrow .boolean (.int (Int32.ofInt 1)) = .int (Int32.ofInt 1) ∧ fits .boolean (.int (Int32.ofInt 1)) = true
          exact ⟨by decide, by decide⟩
      · cases hv
    · cases hv
  | object n =>
    have h1 : (tb_f a b).2.2.1 = 2 := h1
    rw [h1] at hv
    simp only [ax_pf] at hv
    split at hv
    · rename_i x
      rcases so_rv (ad := ad) x with q | ⟨w, q⟩ <;> rw [q] <;> exact ⟨rfl, rfl⟩
    · cases hv
  | array n =>
    have h1 : (tb_f a b).2.2.1 = 2 := h1
    rw [h1] at hv
    simp only [ax_pf] at hv
    split at hv
    · rename_i x
      rcases so_rv (ad := ad) x with q | ⟨w, q⟩ <;> rw [q] <;> exact ⟨rfl, rfl⟩
    · cases hv
  | _ => exact absurd h1 id
theorem so_putf {own : String} {index o a b : Nat} {r : List ax_V} {v : ax_V} (hexec : p.tables.exec = Jvm.exec) (hb : c.code = cc) (hown : s.vm.findClass own = some m.cls) (hts : ∀ w ∈ lw_tbl, so_gw w = true → w.before args s = true) (hC : so_Cw a) (hAD : so_AD ad H0.size) (hR : so_Rel s ad H0 h H) (hlo : ∀ q ∈ locs, H0.size ≤ q.base)
    (hk : (ax_kd h o).1 = 100 + a) (ho : 27 ≤ o) (hbN : b < tb_N a) (hv : ax_pf (tb_f a b).2.2.1 h o b v = some h') (okv : so_ok v)
    (hlink : (Cond.fieldLink own index (tb_RN a) (tb_f a b).1 (tb_f a b).2.1).before args s = true ∨ ∃ host, (Cond.fieldLinkNest own index (tb_RN a) (tb_f a b).1 (tb_f a b).2.1 host).before args s = true)
    (hfin : (tb_f a b).2.2.2 = true → own = tb_RN a ∧ meth.name = "<init>" ∧ (Cond.fieldLink own index (tb_RN a) (tb_f a b).1 (tb_f a b).2.1).before args s = true) (hdg : decode cc pc = .ok (.putfield index, 3))
    (kk : ∀ (H' : Heap) (locs' : List Loc), so_Rel s ad H0 h' H' → (∀ q ∈ locs', H0.size ≤ q.base) → W p l e R s m args below meth c H' locs' cells slots Q (F0 m (pc + 3) lsA (r.map (so_v ad)))) : W p l e R s m args below meth c H locs cells slots Q (F0 m pc lsA ((v :: .inr (.inr (some o)) :: r : List ax_V).map (so_v ad))) := by
  have hk50 : ax_kd h o ≠ (50, 0) := fun e => by rw [e] at hk; simp at hk; omega
  have hin := so_in hR.2.2.2.2 hk50
  obtain ⟨c1, c2, c3, c4⟩ := hR.2.2.1 o hin
  obtain ⟨q, hq, hobj⟩ := c2 a hk
  obtain ⟨cell, g1, g2, g3, g4, g5, g6⟩ := id hobj
  obtain ⟨cf, kf, i, f, q1, q2, q3⟩ := g6 b hbN
  obtain ⟨ty, hty⟩ := so_pty hC hbN
  obtain ⟨hnar, hfit⟩ := so_fits (ad := ad) hC hbN hty hv
  obtain ⟨cC, kC, hfc, hkC, hkind, -⟩ := Cond.instantiable_spec (hts _ hC.2.2.1 rfl)
  cases g2.symm.trans hfc
  have hlt : f.slot < cell.slots.size := (Array.getElem?_eq_some_iff.mp q3).1
  have hqn : q = H0.size + (o - 27) := by
    have := hAD.new ho
    rw [hq] at this
    exact Option.some.inj this
  have e1 : so_v ad (.inr (.inr (some o))) = .ref q := by show va_rf (ad o) = _; rw [hq]; rfl
  obtain ⟨epf, hpf⟩ := so_pf (ad := ad) (a := a) rfl hv
  have fin : ∀ H' : Heap, H'[q]? = some (cell.setSlot f.slot (so_v ad v)) → H'.size = H.size → (∀ q', q' ≠ q → H'[q']? = H[q']?) → W p l e R s m args below meth c H' (locs ++ [⟨q, f.slot⟩]) cells slots Q (F0 m (pc + 3) lsA (r.map (so_v ad))) := by
    intro H' k1 k2 k3
    have ho2 := so_objset hC hts hbN hobj g1 q1 k1
    rw [epf] at ho2
    refine kk H' _ ?_ (fun x hx => ?_)
    · have cell_ok : ax_kd h' o = ax_kd h o → (ax_ex h' o = ax_ex h o) → so_cell s ad h' H' o := fun ek ee => by
        refine ⟨fun ty2 hty2 => ?_, fun ci hci => ?_, fun x hx => ?_, fun x hx => ?_⟩
        · rw [ek, hk] at hty2
          rw [show 100 + a = (96 + a) + 4 by omega] at hty2
          cases hty2
        · rw [ek, hk] at hci
          have : ci = a := by omega
          subst this
          exact ⟨q, hq, ho2⟩
        · rw [ee] at hx
          exact absurd (hR.2.2.2.2.2.2.1 o (by omega)).1 hk50
        · rw [ee] at hx
          exact absurd (hR.2.2.2.2.2.2.1 o (by omega)).1 hk50
      rcases hpf with ⟨z, rfl, hz⟩ | ⟨x, rfl⟩
      · refine hR.setn hAD ho hk50 hq k2 k3 ?_ (fun e => by rw [hk] at e; omega) (cell_ok rfl rfl)
        have hz := hz okv
        rw [hk]
        have e2 : ax_isl (100 + a) b = ((tb_f a b).2.2.1 == 1) := by
          unfold ax_isl
          have e1 : (100 + a == 2) = false := by simp; omega
          have e2 : decide (100 ≤ 100 + a) = true := by simp
          rw [e1, e2, show 100 + a - 100 = a by omega]
          simp
        rw [e2]
        by_cases w : (tb_f a b).2.2.1 = 1
        · rw [if_pos w] at hz
          rw [if_pos (by simpa using w)]
          exact hz
        · rw [if_neg w] at hz
          rw [if_neg (by simpa using w)]
          exact hz
      · exact hR.setr hAD ho hk50 hq k2 k3 (cell_ok rfl rfl)
    · rcases List.mem_append.mp hx with g | g
      · exact hlo x g
      · have e2 : x = ⟨q, f.slot⟩ := by simpa using g
        rw [e2]
        show H0.size ≤ q
        omega
  rw [List.map_cons, List.map_cons, e1]
  have hlay := hts _ (hC.1 b hbN) (by split <;> rfl)
  by_cases hfi : (tb_f a b).2.2.2 = true
  · obtain ⟨ho1, hin2, hl⟩ := hfin hfi
    rw [if_pos hfi] at hlay
    have hcf : m.cls = cf := by
      obtain ⟨_, _, c', _, _, _, -, -, hf', -, -, -, hown2, -⟩ := Cond.laysFinal_spec hlay
      have e1 : c' = cf := by have := q1.symm.trans hf'; simp at this; exact this.1.symm
      rw [ho1] at hown
      rw [← e1]; exact Option.some.inj (hown.symm.trans hown2)
    have h6 := u_fits hfc hkC hkind (Or.inr hlay) q1 hty hnar hfit
    exact W.putFinK hexec hb hown hl q1 q2 hcf hin2 h6 g1 (g5 ho) hlt rfl rfl hdg fin
  · rw [if_neg hfi] at hlay
    have h6 := u_store hfc hkC hkind hlay q1 hty hnar hfit
    rcases hlink with hl | ⟨host, hl⟩
    · exact W.putK hexec hb (f := f) ⟨hown, hl, ⟨_, _, _, q1⟩, q2⟩ h6 g1 (g5 ho) hlt rfl rfl hdg fin
    · exact va_WputK hexec hb hown hl q1 q2 h6 g1 (g5 ho) hlt rfl rfl hdg fin
/-- a new cell: all but its own picture -/
theorem so_Rel.made {H' : Heap} {k : Nat × Nat} {n : Nat} (hAD : so_AD ad H0.size) (hR : so_Rel s ad H0 h H) (hk2 : k.2 < 2 ^ 31) (h2 : H'.size = H.size + 1) (h3 : ∀ q, q < H.size → H'[q]? = H[q]?) (hc : so_cell s ad (ax_new h k n) H' (27 + h.1)) : so_Rel s ad H0 (ax_new h k n) H' := by
  have hs := hR.1
  have kd : ∀ a, ax_kd (ax_new h k n) a = if a = 27 + h.1 then k else ax_kd h a := fun a => rfl
  refine ⟨by rw [h2, hs]; show _ = H0.size + (h.1 + 1); omega, fun q hq => ?_, fun a ha => ?_, fun a j => ?_, ⟨fun a ha => ?_, fun a => ?_, fun a ha => ?_, by rw [kd, if_neg (by omega)]; exact hR.2.2.2.2.2.2.2⟩⟩
  · rw [h3 q (by omega)]
    exact hR.2.1 q hq
  · have ha : a < 27 + (h.1 + 1) := ha
    by_cases e : a = 27 + h.1
    · subst e; exact hc
    · refine (hR.2.2.1 a (by omega)).kept (fun g r hr => h3 r ?_) (by rw [kd, if_neg e]) (fun _ => rfl) (fun _ => rfl) rfl
      have := hAD.lt (n := h.1) (by omega) (g.ne hR.2.2.2.2) hr
      omega
  · rw [kd]
    by_cases e : a = 27 + h.1
    · have z : ax_nu (ax_new h k n) a j = 0 := ((hR.2.2.2.2.1 a (by omega)).2.2 j).1
      rw [z, if_pos e]
      refine ⟨?_, fun _ => by omega⟩
      split <;> rfl
    · rw [if_neg e]
      exact hR.2.2.2.1 a j
  · have ha : 27 + (h.1 + 1) ≤ a := ha
    rw [kd, if_neg (by omega)]
    exact hR.2.2.2.2.1 a (by omega)
  · rw [kd]
    by_cases e : a = 27 + h.1
    · rw [if_pos e]; exact hk2
    · rw [if_neg e]; exact hR.2.2.2.2.2.1 a
  · have ha : ax_ex h a ≠ 0 := ha
    have e : a ≠ 27 + h.1 := fun e => ha ((hR.2.2.2.2.1 a (by omega)).2.1)
    rw [kd, if_neg e]
    exact hR.2.2.2.2.2.2.1 a ha
theorem so_newa {t : Nat} {ty : FieldType} {at' : ArrayType} {n : Int} {r : List ax_V} (hexec : p.tables.exec = Jvm.exec) (hb : c.code = cc) (hAD : so_AD ad H0.size) (hR : so_Rel s ad H0 h H) (hty : so_ty t = some ty) (hat : newarray.typeOf at' = ty) (harr : (Cond.arrayClass ty).before args s = true) (hnr : (Int32.ofInt n).toInt = n) (h0 : 0 ≤ n) (h1 : n ≤ 1000000)
    (hcells : cells + 1 ≤ R.cells) (hslots : slots + n.toNat ≤ R.slots) (hdg : decode cc pc = .ok (.newarray at', 2))
    (kk : ∀ H' : Heap, so_Rel s ad H0 (ax_new h (t, n.toNat) n.toNat) H' → W p l e R s m args below meth c H' locs (cells + 1) (slots + n.toNat) Q (F0 m (pc + 2) lsA ((.inr (.inr (some (27 + h.1))) :: r : List ax_V).map (so_v ad)))) : W p l e R s m args below meth c H locs cells slots Q (F0 m pc lsA ((.inl n :: r : List ax_V).map (so_v ad))) := by
  subst hat
  obtain ⟨i1, i2⟩ := so_z32 hnr
  have hN : (Int32.ofInt n).toNatClampNeg = n.toNat := by show (Int32.ofInt n).toInt.toNat = _; rw [hnr]
  have hadn := hAD.new (o := 27 + h.1) (by omega)
  rw [show 27 + h.1 - 27 = h.1 by omega, ← hR.1] at hadn
  have hby : n.toNat * componentBytes (newarray.typeOf at') ≤ 536870912 := by
    have h4 : componentBytes (newarray.typeOf at') ≤ 8 := by cases at' <;> decide
    have h3 : n.toNat ≤ 1000000 := by omega
    have h5 := Nat.mul_le_mul h3 h4
    omega
  refine W.newaK hexec hb harr (g := F0 m pc lsA (.int (Int32.ofInt n) :: r.map (so_v ad))) rfl hdg rfl (by rw [i2.1]; omega) hN hby hcells hslots rfl (fun H' cA k1 k2 k3 k4 => ?_)
  have e1 : so_v ad (.inr (.inr (some (27 + h.1)))) = .ref H.size := by show va_rf (ad (27 + h.1)) = _; rw [hadn]; rfl
  have := kk H' ?_
  · rw [List.map_cons, e1] at this
    exact this
  · refine hR.made hAD (by show n.toNat < 2 ^ 31; omega) k2 k3 ⟨fun ty2 hty2 => ?_, fun ci hci => ?_, fun x hx => ?_, fun x hx => ?_⟩
    · have kd : ax_kd (ax_new h (t, n.toNat) n.toNat) (27 + h.1) = (t, n.toNat) := by show (if _ then _ else _) = _; rw [if_pos rfl]
      rw [kd] at hty2 ⊢
      have hty2 : so_ty t = some ty2 := hty2
      rw [hty] at hty2
      cases hty2
      refine ⟨H.size, hadn, _, k1, k4 _ _, (fun q => by cases q), so_len.of (arrV_size _ _ _), fun j hj => ?_⟩
      rw [arrV_read _ _ hj]
      have z : ax_nu (ax_new h (t, n.toNat) n.toNat) (27 + h.1) j = 0 := ((hR.2.2.2.2.1 (27 + h.1) (Nat.le_refl _)).2.2 j).1
      show some _ = some (so_v ad (ax_el t _))
      rw [z]
      match t, hty with
      | 0, hty => have hty : some FieldType.int = some (newarray.typeOf at') := hty
                  rw [← Option.some.inj hty]; rfl
      | 1, hty => have hty : some FieldType.byte = some (newarray.typeOf at') := hty
                  rw [← Option.some.inj hty]; rfl
      | 2, hty => have hty : some FieldType.long = some (newarray.typeOf at') := hty
                  rw [← Option.some.inj hty]; rfl
      | 3, hty => have hty : some FieldType.boolean = some (newarray.typeOf at') := hty
                  rw [← Option.some.inj hty]; rfl
    · have kd : ax_kd (ax_new h (t, n.toNat) n.toNat) (27 + h.1) = (t, n.toNat) := by show (if _ then _ else _) = _; rw [if_pos rfl]
      rw [kd] at hci
      have hci : t = 100 + ci := hci
      rw [hci, show 100 + ci = (96 + ci) + 4 by omega] at hty
      cases hty
    · have z : ax_ex h (27 + h.1) = 0 := (hR.2.2.2.2.1 (27 + h.1) (Nat.le_refl _)).2.1
      have hx : ax_ex h (27 + h.1) = 2 * x + 1 := hx
      omega
    · have z : ax_ex h (27 + h.1) = 0 := (hR.2.2.2.2.1 (27 + h.1) (Nat.le_refl _)).2.1
      have hx : ax_ex h (27 + h.1) = 2 * x + 2 := hx
      omega
theorem so_zero (ty : FieldType) (ft : Nat) (hm : (match some ty with
    | some .int => ft = 0
    | some .long => ft = 1
    | some .boolean => ft = 3
    | some (.object _) => ft = 2
    | some (.array _) => ft = 2
    | _ => False)) : defaultValue ty = (if ft = 1 then .long (Int64.ofInt 0) else if ft = 2 then .null else .int (Int32.ofInt 0)) := by
  cases ty with
  | int => have hm : ft = 0 := hm
           subst hm; rfl
  | long => have hm : ft = 1 := hm
            subst hm; rfl
  | boolean => have hm : ft = 3 := hm
               subst hm; rfl
  | object n => have hm : ft = 2 := hm
                subst hm; rfl
  | array n => have hm : ft = 2 := hm
               subst hm; rfl
  | _ => exact absurd hm id
theorem so_newo {own : String} {index a n : Nat} {r : List ax_V} (hexec : p.tables.exec = Jvm.exec) (hb : c.code = cc) (hown : s.vm.findClass own = some m.cls) (hts : ∀ w ∈ lw_tbl, so_gw w = true → w.before args s = true) (hC : so_Cw a) (hN : tb_N a < 2 ^ 31) (hn : (tb_ci.getD a (0, 0, 0, [])).2.2.1 = n) (hAD : so_AD ad H0.size) (hR : so_Rel s ad H0 h H)
    (hlink : (Cond.classLink own index (tb_RN a)).before args s = true) (hcells : cells + 1 ≤ R.cells) (hslots : slots + n ≤ R.slots) (hdg : decode cc pc = .ok (.new index, 3))
    (kk : ∀ H' : Heap, so_Rel s ad H0 (ax_new h (100 + a, tb_N a) n) H' → W p l e R s m args below meth c H' locs (cells + 1) (slots + n) Q (F0 m (pc + 3) lsA ((.inr (.inr (some (27 + h.1))) :: r : List ax_V).map (so_v ad)))) : W p l e R s m args below meth c H locs cells slots Q (F0 m pc lsA (r.map (so_v ad))) := by
  have hins := hts _ hC.2.2.1 rfl
  rw [hn] at hins
  obtain ⟨cC, kC, hfc, hkC, hkind, -⟩ := Cond.instantiable_spec hins
  have hadn := hAD.new (o := 27 + h.1) (by omega)
  rw [show 27 + h.1 - 27 = h.1 by omega, ← hR.1] at hadn
  refine W.newcK hexec hb hown hlink hins (hts _ hC.2.2.2.1 rfl) (g := F0 m pc lsA (r.map (so_v ad))) rfl hdg hcells hslots hfc rfl (fun H' kC' k0 k1 k2 k3 => ?_)
  cases hkC.symm.trans k0
  have e1 : so_v ad (.inr (.inr (some (27 + h.1)))) = .ref H.size := by show va_rf (ad (27 + h.1)) = _; rw [hadn]; rfl
  have := kk H' ?_
  · rw [List.map_cons, e1] at this
    exact this
  · have kd : ax_kd (ax_new h (100 + a, tb_N a) n) (27 + h.1) = (100 + a, tb_N a) := by show (if _ then _ else _) = _; rw [if_pos rfl]
    refine hR.made hAD hN k2 k3 ⟨fun ty2 hty2 => ?_, fun ci hci => ?_, fun x hx => ?_, fun x hx => ?_⟩
    · rw [kd] at hty2
      have hty2 : so_ty (100 + a) = some ty2 := hty2
      rw [show 100 + a = (96 + a) + 4 by omega] at hty2
      cases hty2
    · rw [kd] at hci
      have hci : 100 + a = 100 + ci := hci
      have hci : ci = a := by omega
      subst hci
      refine ⟨H.size, hadn, _, k1, hfc, (fun q => by cases q), rfl, fun _ => rfl, fun k hk => ?_⟩
      obtain ⟨ty, hty⟩ := so_pty hC hk
      obtain ⟨i, cf, kf, fi, fd, hi, -⟩ := u_found (so_lay (hC.1 k hk) hts)
      obtain ⟨f1, f2, f3⟩ := u_facts hfc hkC (so_lay (hC.1 k hk) hts) hi
      refine ⟨cf, kf, fi, fd, hi, f1, ?_⟩
      rw [(State.fieldFound?_type hi hty).2] at f3
      rw [k2_blank f3]
      have z1 : ax_nu (ax_new h (100 + ci, tb_N ci) n) (27 + h.1) k = 0 := ((hR.2.2.2.2.1 (27 + h.1) (Nat.le_refl _)).2.2 k).1
      have z2 : ax_rf (ax_new h (100 + ci, tb_N ci) n) (27 + h.1) k = none := ((hR.2.2.2.2.1 (27 + h.1) (Nat.le_refl _)).2.2 k).2
      unfold so_fv
      rw [z1, z2]
      have hm := hC.2.2.2.2 k hk
      rw [hty] at hm
      rw [so_zero ty _ hm]
      rfl
    · have z : ax_ex h (27 + h.1) = 0 := (hR.2.2.2.2.1 (27 + h.1) (Nat.le_refl _)).2.1
      have hx : ax_ex h (27 + h.1) = 2 * x + 1 := hx
      omega
    · have z : ax_ex h (27 + h.1) = 0 := (hR.2.2.2.2.1 (27 + h.1) (Nat.le_refl _)).2.1
      have hx : ax_ex h (27 + h.1) = 2 * x + 2 := hx
      omega
/-- a new exception -/
theorem so_newx {own : String} {index a : Nat} {r : List ax_V} (hexec : p.tables.exec = Jvm.exec) (hb : c.code = cc) (hown : s.vm.findClass own = some m.cls) (hins : (Cond.instantiable (tb_RN a) 6).before args s = true) (hini : (Cond.initialized (tb_RN a)).before args s = true) (hAD : so_AD ad H0.size) (hR : so_Rel s ad H0 h H)
    (hlink : (Cond.classLink own index (tb_RN a)).before args s = true) (hcells : cells + 1 ≤ R.cells) (hslots : slots + 6 ≤ R.slots) (hdg : decode cc pc = .ok (.new index, 3))
    (kk : ∀ H' : Heap, so_Rel s ad H0 (ax_newx h a) H' → W p l e R s m args below meth c H' locs (cells + 1) (slots + 6) Q (F0 m (pc + 3) lsA ((.inr (.inr (some (27 + h.1))) :: r : List ax_V).map (so_v ad)))) : W p l e R s m args below meth c H locs cells slots Q (F0 m pc lsA (r.map (so_v ad))) := by
  obtain ⟨cC, kC, hfc, hkC, hkind, -⟩ := Cond.instantiable_spec hins
  have hadn := hAD.new (o := 27 + h.1) (by omega)
  rw [show 27 + h.1 - 27 = h.1 by omega, ← hR.1] at hadn
  refine W.newcK hexec hb hown hlink hins hini (g := F0 m pc lsA (r.map (so_v ad))) rfl hdg hcells hslots hfc rfl (fun H' kC' k0 k1 k2 k3 => ?_)
  cases hkC.symm.trans k0
  have e1 : so_v ad (.inr (.inr (some (27 + h.1)))) = .ref H.size := by show va_rf (ad (27 + h.1)) = _; rw [hadn]; rfl
  have hs := hR.1
  have ex : ∀ b, ax_ex (ax_newx h a) b = if b = 27 + h.1 then 2 * a + 1 else ax_ex h b := fun b => rfl
  have z := hR.2.2.2.2.1 (27 + h.1) (Nat.le_refl _)
  have := kk H' ?_
  · rw [List.map_cons, e1] at this
    exact this
  · refine ⟨by rw [k2, hs]; show _ = H0.size + (h.1 + 1); omega, fun q hq => ?_, fun b hb2 => ?_, hR.2.2.2.1, ⟨fun b hb2 => ?_, hR.2.2.2.2.2.1, fun b hb2 => ?_, hR.2.2.2.2.2.2.2⟩⟩
    · rw [k3 q (by omega)]
      exact hR.2.1 q hq
    · have hb2 : b < 27 + (h.1 + 1) := hb2
      by_cases q : b = 27 + h.1
      · subst q
        have kd : ax_kd (ax_newx h a) (27 + h.1) = (50, 0) := z.1
        refine ⟨fun ty2 hty2 => ?_, fun ci hci => ?_, fun x hx => ?_, fun x hx => ?_⟩
        · rw [kd] at hty2
          cases hty2
        · rw [kd] at hci
          have hci : 50 = 100 + ci := hci
          omega
        · rw [ex, if_pos rfl] at hx
          have hx : x = a := by omega
          subst hx
          exact ⟨H.size, cC, kC, hadn, hfc, hkC, k1⟩
        · rw [ex, if_pos rfl] at hx
          omega
      · refine (hR.2.2.1 b (by omega)).kept (fun g w hw => k3 w ?_) rfl (fun _ => rfl) (fun _ => rfl) (by rw [ex, if_neg q])
        have := hAD.lt (n := h.1) (by omega) (g.ne hR.2.2.2.2) hw
        omega
    · have hb2 : 27 + (h.1 + 1) ≤ b := hb2
      have q := hR.2.2.2.2.1 b (by omega)
      exact ⟨q.1, by rw [ex, if_neg (by omega)]; exact q.2.1, q.2.2⟩
    · rw [ex] at hb2
      by_cases q : b = 27 + h.1
      · subst q
        exact ⟨z.1, by omega⟩
      · rw [if_neg q] at hb2
        exact hR.2.2.2.2.2.2.1 b hb2
end SOI
def so_Fd (a b : Nat) : Bool := match parseFieldDescriptor (tb_f a b).2.1 with
  | some .int => (tb_f a b).2.2.1 == 0
  | some .long => (tb_f a b).2.2.1 == 1
  | some .boolean => (tb_f a b).2.2.1 == 3
  | some (.object _) => (tb_f a b).2.2.1 == 2
  | some (.array _) => (tb_f a b).2.2.1 == 2
  | _ => false
theorem so_Fd_of {a b : Nat} (h : so_Fd a b = true) : (match parseFieldDescriptor (tb_f a b).2.1 with
    | some .int => (tb_f a b).2.2.1 = 0
    | some .long => (tb_f a b).2.2.1 = 1
    | some .boolean => (tb_f a b).2.2.1 = 3
    | some (.object _) => (tb_f a b).2.2.1 = 2
    | some (.array _) => (tb_f a b).2.2.1 = 2
    | _ => False) := by
  unfold so_Fd at h
  cases hp : parseFieldDescriptor (tb_f a b).2.1 with
  | none => rw [hp] at h; cases h
  | some ty =>
    rw [hp] at h
    cases ty <;> first | exact eq_of_beq h | cases h
