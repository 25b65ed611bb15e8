/-! THE INSTRUCTIONS OF THE HEAP. -/
theorem so_objF {s : State} {H : Heap} {r ci : Nat} {V : Nat → Value} {new : Prop} (h : so_obj s H r ci V new) {k : Nat} (hk : k < tb_N ci) : ∃ (cell : Cell) (cf : ClassId) (kf : Class) (i : Nat) (f : Field), H[r]? = some cell ∧ cell.vm ≠ .unknown ∧ s.fieldFound? (tb_RN ci) (tb_f ci k).1 (tb_f ci k).2.1 = some (cf, kf, i, f) ∧ f.isStatic = false ∧ cell.slots[f.slot]? = some (V k) := by
  obtain ⟨cell, h1, h2, h3, h4, h5, h6⟩ := h
  obtain ⟨cf, kf, i, f, g1, g2, g3⟩ := h6 k hk
  exact ⟨cell, cf, kf, i, f, h1, h3, g1, g2, g3⟩
section SOH
variable {p : Program} {l : Launch} {e : Env} {R : Room} {s : State} {m : MethodId} {args : Array Value} {below : List Frame} {meth : Method} {c : Code} {H : Heap} {locs : List Loc} {cells slots : Nat} {Q : State → Prop}
variable {cc : ByteArray} {pc nL : Nat} {lsA : Array Slot} {st st' : List ax_V} {ad : Nat → Option Nat} {h h' : ax_H} {H0 : Heap}
theorem so_fvv {h : ax_H} {o a b ft : Nat} {v : ax_V} (hft : (tb_f a b).2.2.1 = ft) (hv : ax_fv ft h o b = some v) : so_v ad v = so_fv ad h o a b := by
  unfold so_fv
  rw [hft]
  unfold ax_fv at hv
  split at hv <;> cases hv <;> rfl
theorem so_fvo {h : ax_H} (hn : so_num h) {o a b ft : Nat} {v : ax_V} (hk : (ax_kd h o).1 = 100 + a) (hft : (tb_f a b).2.2.1 = ft) (hv : ax_fv ft h o b = some v) : so_ok v := by
  have h1 := hn.fld b hk
  rw [hft] at h1
  unfold ax_fv at hv
  split at hv
  · cases hv; exact h1
  · cases hv; exact h1
  · cases hv; trivial
  · cases hv; exact h1
  · cases hv
theorem so_getf {own : String} {index o a b : Nat} {r : List ax_V} {v : ax_V} (hexec : p.tables.exec = Jvm.exec) (hb : c.code = cc) (hown : s.vm.findClass own = some m.cls) (hR : so_Rel s ad H0 h H) (hk : (ax_kd h o).1 = 100 + a) (hbN : b < tb_N a) (hv : ax_fv (tb_f a b).2.2.1 h o b = some v)
    (hlink : (Cond.fieldLink own index (tb_RN a) (tb_f a b).1 (tb_f a b).2.1).before args s = true ∨ ∃ host, (Cond.fieldLinkNest own index (tb_RN a) (tb_f a b).1 (tb_f a b).2.1 host).before args s = true) (hdg : decode cc pc = .ok (.getfield index, 3))
    (kk : W p l e R s m args below meth c H locs cells slots Q (F0 m (pc + 3) lsA ((v :: r).map (so_v ad)))) : W p l e R s m args below meth c H locs cells slots Q (F0 m pc lsA ((.inr (.inr (some o)) :: r : List ax_V).map (so_v ad))) := by
  have hin := so_in hR.2.2.2.2 (o := o) (fun e => by rw [e] at hk; simp at hk; omega)
  obtain ⟨q, hq, ho⟩ := (hR.2.2.1 o hin).2.1 a hk
  obtain ⟨cell, cf, kf, i, f, h1, h2, h3, h4, h5⟩ := so_objF ho hbN
  have e1 : so_v ad (.inr (.inr (some o))) = .ref q := by show va_rf (ad o) = _; rw [hq]; rfl
  rw [List.map_cons, e1]
  rw [List.map_cons, so_fvv rfl hv] at kk
  rcases hlink with hl | ⟨host, hl⟩
  · exact W.getf hexec hb hown hl h3 h4 h1 h2 (v := so_fv ad h o a b) h5 rfl rfl hdg kk
  · exact va_Wgetf hexec hb hown hl h3 h4 h1 h2 (v := so_fv ad h o a b) h5 rfl rfl hdg kk
theorem so_alen {o : Nat} {r : List ax_V} (hexec : p.tables.exec = Jvm.exec) (hb : c.code = cc) (hR : so_Rel s ad H0 h H) (hk : (ax_kd h o).1 < 4) (hdg : decode cc pc = .ok (.arraylength, 1))
    (kk : W p l e R s m args below meth c H locs cells slots Q (F0 m (pc + 1) lsA ((.inl ((ax_kd h o).2 : Int) :: r : List ax_V).map (so_v ad)))) : W p l e R s m args below meth c H locs cells slots Q (F0 m pc lsA ((.inr (.inr (some o)) :: r : List ax_V).map (so_v ad))) := by
  have hin := so_in hR.2.2.2.2 (o := o) (fun e => by rw [e] at hk; simp at hk)
  obtain ⟨ty, hty⟩ : ∃ ty, so_ty (ax_kd h o).1 = some ty := by
    match (ax_kd h o).1, hk with
    | 0, _ => exact ⟨_, rfl⟩
    | 1, _ => exact ⟨_, rfl⟩
    | 2, _ => exact ⟨_, rfl⟩
    | 3, _ => exact ⟨_, rfl⟩
  obtain ⟨q, hq, cell, h1, h2, h3, h4, h5⟩ := (hR.2.2.1 o hin).1 ty hty
  have e1 : so_v ad (.inr (.inr (some o))) = .ref q := by show va_rf (ad o) = _; rw [hq]; rfl
  rw [List.map_cons, e1]
  refine W.alen hexec hb h1 h2 (n := Int32.ofInt ((ax_kd h o).2 : Int)) ?_ rfl rfl hdg kk
  rw [h4.2]
  rfl
/-- the place of an element -/
theorem so_ix {j : Int} {n : Nat} (hj : (Int32.ofInt j).toInt = j) (h0 : 0 ≤ j) (h1 : j < (n : Int)) : ¬ (Int32.ofInt j < 0 ∨ n ≤ (Int32.ofInt j).toNatClampNeg) ∧ (Int32.ofInt j).toNatClampNeg = j.toNat := by
  have e : (Int32.ofInt j).toNatClampNeg = j.toNat := by show (Int32.ofInt j).toInt.toNat = _; rw [hj]
  refine ⟨?_, e⟩
  rw [e, (so_z32 hj).2.1]
  omega
theorem so_ald {t : Nat} {ty : FieldType} {o : Nat} {j : Int} {r : List ax_V} {i : Instr} (hR : so_Rel s ad H0 h H) (ht : (ax_kd h o).1 = t) (hty : so_ty t = some ty) (hj : (Int32.ofInt j).toInt = j) (h0 : 0 ≤ j) (h1 : j < ((ax_kd h o).2 : Int))
    (row : ∀ (q : Nat) (cell : Cell) (x : Int32) (v : Value) (rest : List Value), H[q]? = some cell → s.isArrayOf cell ty → cell.vm ≠ .unknown → ¬ (x < 0 ∨ cell.slots.size ≤ x.toNatClampNeg) → cell.slots[x.toNatClampNeg]? = some v → W p l e R s m args below meth c H locs cells slots Q (F0 m (pc + 1) lsA (v :: rest)) → W p l e R s m args below meth c H locs cells slots Q (F0 m pc lsA (.int x :: .ref q :: rest)))
    (kk : W p l e R s m args below meth c H locs cells slots Q (F0 m (pc + 1) lsA ((ax_el t (ax_nu h o j.toNat) :: r).map (so_v ad)))) : W p l e R s m args below meth c H locs cells slots Q (F0 m pc lsA ((.inl j :: .inr (.inr (some o)) :: r : List ax_V).map (so_v ad))) := by
  have ht4 : t < 4 := by
    rcases Nat.lt_or_ge t 4 with q | q
    · exact q
    · match t, q with
      | t + 4, _ => cases hty
  have hin := so_in hR.2.2.2.2 (o := o) (fun e => by rw [e] at ht; simp at ht; omega)
  obtain ⟨q, hq, cell, g1, g2, g3, g4, g5⟩ := (hR.2.2.1 o hin).1 ty (by rw [ht]; exact hty)
  have e1 : so_v ad (.inr (.inr (some o))) = .ref q := by show va_rf (ad o) = _; rw [hq]; rfl
  obtain ⟨i1, i2⟩ := so_ix hj h0 h1
  rw [List.map_cons, List.map_cons, e1]
  refine row q cell (Int32.ofInt j) (so_v ad (ax_el t (ax_nu h o j.toNat))) _ g1 g2 g3 (fun q => i1 (q.imp id (Nat.le_trans g4.1))) ?_ kk
  rw [i2, g5 _ (by omega), ht]
theorem so_ast {t : Nat} {ty : FieldType} {o : Nat} {j z : Int} {r : List ax_V} {v : Value} (hAD : so_AD ad H0.size) (hR : so_Rel s ad H0 h H) (hlo : ∀ q ∈ locs, H0.size ≤ q.base) (ht : (ax_kd h o).1 = t) (hty : so_ty t = some ty) (ho : 27 ≤ o) (hj : (Int32.ofInt j).toInt = j) (h0 : 0 ≤ j) (h1 : j < ((ax_kd h o).2 : Int)) (hz : so_ok (ax_el t z)) (hz1 : t = 1 → -128 ≤ z ∧ z < 128)
    (row : ∀ (q : Nat) (cell : Cell) (x : Int32) (rest : List Value), H[q]? = some cell → s.isArrayOf cell ty → cell.vm ≠ .unknown → ¬ (x < 0 ∨ cell.slots.size ≤ x.toNatClampNeg) →
      (∀ H' : Heap, H'[q]? = some (cell.setSlot x.toNatClampNeg (so_v ad (ax_el t z))) → H'.size = H.size → (∀ q', q' ≠ q → H'[q']? = H[q']?) → W p l e R s m args below meth c H' (locs ++ [⟨q, x.toNatClampNeg⟩]) cells slots Q (F0 m (pc + 1) lsA rest)) → W p l e R s m args below meth c H locs cells slots Q (F0 m pc lsA (v :: .int x :: .ref q :: rest)))
    (kk : ∀ (H' : Heap) (locs' : List Loc), so_Rel s ad H0 (ax_setn h o j.toNat z) H' → (∀ q ∈ locs', H0.size ≤ q.base) → W p l e R s m args below meth c H' locs' cells slots Q (F0 m (pc + 1) lsA (r.map (so_v ad)))) : W p l e R s m args below meth c H locs cells slots Q (F0 m pc lsA (v :: (.inl j :: .inr (.inr (some o)) :: r : List ax_V).map (so_v ad))) := by
  have ht4 : t < 4 := by
    rcases Nat.lt_or_ge t 4 with q | q
    · exact q
    · match t, q with
      | t + 4, _ => cases hty
  have hin := so_in hR.2.2.2.2 (o := o) (fun e => by rw [e] at ht; simp at ht; omega)
  obtain ⟨q, hq, cell, g1, g2, g3, g4, g5⟩ := (hR.2.2.1 o hin).1 ty (by rw [ht]; exact hty)
  have e1 : so_v ad (.inr (.inr (some o))) = .ref q := by show va_rf (ad o) = _; rw [hq]; rfl
  obtain ⟨i1, i2⟩ := so_ix hj h0 h1
  rw [List.map_cons, List.map_cons, e1]
  refine row q cell (Int32.ofInt j) _ g1 g2 g3 (fun q => i1 (q.imp id (Nat.le_trans g4.1))) (fun H' k1 k2 k3 => kk H' _ (hR.arrset hAD ho ht hty hq g1 (by rw [← i2]; exact k1) k2 k3 hz hz1) (fun x hx => ?_))
  rcases List.mem_append.mp hx with g | g
  · exact hlo x g
  · have e2 : x = ⟨q, (Int32.ofInt j).toNatClampNeg⟩ := by simpa using g
    have := hAD.new ho
    rw [hq] at this
    have := Option.some.inj this
    rw [e2]
    show H0.size ≤ q
    omega
/-- what the tables say of a field of a class of ours -/
def so_Fw (a b : Nat) : Prop := (if (tb_f a b).2.2.2 = true then Cond.laysFinal (tb_RN a) (tb_RN a) (tb_f a b).1 (tb_f a b).2.1 else Cond.lays (tb_RN a) (tb_RN a) (tb_f a b).1 (tb_f a b).2.1) ∈ lw_tbl
/-- what the tables say of a class of ours -/
def so_Cw (a : Nat) : Prop := (∀ b, b < tb_N a → so_Fw a b) ∧ (∀ b, b < tb_N a → ∀ k, k < tb_N a → b ≠ k → (tb_f a b).1 ≠ (tb_f a k).1) ∧ Cond.instantiable (tb_RN a) (tb_ci.getD a (0, 0, 0, [])).2.2.1 ∈ lw_tbl ∧ Cond.initialized (tb_RN a) ∈ lw_tbl ∧
  ∀ b, b < tb_N a → (match parseFieldDescriptor (tb_f a b).2.1 with
    | some .int => (tb_f a b).2.2.1 = 0
    | some .long => (tb_f a b).2.2.1 = 1
    | some .boolean => (tb_f a b).2.2.1 = 3
    | some (.object _) => (tb_f a b).2.2.1 = 2
    | some (.array _) => (tb_f a b).2.2.1 = 2
    | _ => False)
theorem so_lay {a b : Nat} (hw : so_Fw a b) (hts : ∀ w ∈ lw_tbl, so_gw w = true → w.before args s = true) : (Cond.lays (tb_RN a) (tb_RN a) (tb_f a b).1 (tb_f a b).2.1).before args s = true ∨ (Cond.laysFinal (tb_RN a) (tb_RN a) (tb_f a b).1 (tb_f a b).2.1).before args s = true := by
  have h1 := hts _ hw (by split <;> rfl)
  split at h1
  · exact Or.inr h1
  · exact Or.inl h1
theorem so_pty {a b : Nat} (hC : so_Cw a) (hb : b < tb_N a) : ∃ ty, parseFieldDescriptor (tb_f a b).2.1 = some ty := by
  have h1 := hC.2.2.2.2 b hb
  cases hp : parseFieldDescriptor (tb_f a b).2.1 with
  | none => rw [hp] at h1; exact absurd h1 id
  | some ty => exact ⟨ty, rfl⟩
theorem so_fapart {a b k : Nat} (hC : so_Cw a) (hts : ∀ w ∈ lw_tbl, so_gw w = true → w.before args s = true) (hb : b < tb_N a) (hk : k < tb_N a) (hne : b ≠ k) {cf kf i f cf' kf' i' f'} (h1 : s.fieldFound? (tb_RN a) (tb_f a b).1 (tb_f a b).2.1 = some (cf, kf, i, f)) (h2 : s.fieldFound? (tb_RN a) (tb_f a k).1 (tb_f a k).2.1 = some (cf', kf', i', f')) : f.slot ≠ f'.slot := by
  obtain ⟨t1, p1⟩ := so_pty hC hb
  obtain ⟨t2, p2⟩ := so_pty hC hk
  refine u_apart (so_lay (hC.1 b hb) hts) (so_lay (hC.1 k hk) hts) h1 h2 ?_
  rw [(State.fieldFound?_type h1 p1).1, (State.fieldFound?_type h2 p2).1]
  exact hC.2.1 b hb k hk hne
theorem so_objset {a b r : Nat} {V : Nat → Value} {w : Value} {H' : Heap} {new : Prop} (hC : so_Cw a) (hts : ∀ w ∈ lw_tbl, so_gw w = true → w.before args s = true) (hb : b < tb_N a) (ho : so_obj s H r a V new) {cell : Cell} {cf kf i f} (hcell : H[r]? = some cell) (hf : s.fieldFound? (tb_RN a) (tb_f a b).1 (tb_f a b).2.1 = some (cf, kf, i, f)) (h1 : H'[r]? = some (cell.setSlot f.slot w)) :
    so_obj s H' r a (fun k => if k = b then w else V k) new := by
  obtain ⟨cell', g1, g2, g3, g4, g5, g6⟩ := ho
  cases hcell.symm.trans g1
  refine ⟨_, h1, g2, g3, g4, g5, fun k hk => ?_⟩
  obtain ⟨cf', kf', i', f', q1, q2, q3⟩ := g6 k hk
  refine ⟨cf', kf', i', f', q1, q2, ?_⟩
  rw [so_slot]
  show _ = some (if k = b then w else V k)
  by_cases e : k = b
  · subst e
    cases hf.symm.trans q1
    rw [if_pos ⟨rfl, (Array.getElem?_eq_some_iff.mp q3).1⟩, if_pos rfl]
  · rw [if_neg, if_neg e]
    · exact q3
    · rintro ⟨z, -⟩
      exact so_fapart hC hts hb hk (fun q => e q.symm) hf q1 z
/-- what is laid into the field of a cell: the abstract heap's picture of it -/
theorem so_pf {a b o ft : Nat} {v : ax_V} (hft : (tb_f a b).2.2.1 = ft) (hv : ax_pf ft h o b v = some h') : (fun k => if k = b then so_v ad v else so_fv ad h o a k) = so_fv ad h' o a ∧ ((∃ z, h' = ax_setn h o b z ∧ (so_ok v → if ft = 1 then (Int64.ofInt z).toInt = z else (Int32.ofInt z).toInt = z)) ∨ ∃ x, h' = ax_setr h o b x) := by
  unfold ax_pf at hv
  have nu : ∀ (z : Int) (k : Nat), ax_nu (ax_setn h o b z) o k = if k = b then z else ax_nu h o k := fun z k => by
    show (if o = o then _ else _) = _
    rw [if_pos rfl]
    rfl
  have rf : ∀ (x : Option Nat) (k : Nat), ax_rf (ax_setr h o b x) o k = if k = b then x else ax_rf h o k := fun z k => by
    show (if o = o then _ else _) = _
    rw [if_pos rfl]
    rfl
  have fn : ∀ (z : Int), ft ≠ 2 → so_v ad v = (if ft = 1 then .long (Int64.ofInt z) else .int (Int32.ofInt z)) → (fun k => if k = b then so_v ad v else so_fv ad h o a k) = so_fv ad (ax_setn h o b z) o a := by
    intro z h2 e
    funext k
    unfold so_fv
    rw [nu]
    by_cases q : k = b
    · subst q
      simp only [if_true, hft, e, if_neg h2]
    · simp only [if_neg q]
      rfl
  split at hv
  · split at hv
    · rename_i z
      cases hv
      exact ⟨fn z (by decide) rfl, Or.inl ⟨z, rfl, fun q => q⟩⟩
    · cases hv
  · split at hv
    · rename_i z
      cases hv
      exact ⟨fn z (by decide) rfl, Or.inl ⟨z, rfl, fun q => q⟩⟩
    · cases hv
  · split at hv
    · rename_i x
      cases hv
      refine ⟨?_, Or.inr ⟨x, rfl⟩⟩
      funext k
      unfold so_fv
      rw [rf]
      by_cases q : k = b
      · subst q
        simp only [if_true, hft]
        rfl
      · simp only [if_neg q]
        rfl
    · cases hv
  · split at hv
    · rename_i z
      split at hv
      · cases hv
        exact ⟨fn z (by decide) rfl, Or.inl ⟨z, rfl, fun q => q⟩⟩
      · cases hv
    · cases hv
  · cases hv
end SOH
