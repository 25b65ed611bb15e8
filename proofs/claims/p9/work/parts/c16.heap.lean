/-! THE INSTRUCTIONS OF THE HEAP. -/
theorem so_objF {s : State} {H : Heap} {r ci : Nat} {V : Nat → Value} {new : Prop} (h : so_obj s H r ci V new) {k : Nat} (hk : k < tb_N ci) : ∃ (cell : Cell) (cf : ClassId) (kf : Class) (i : Nat) (f : Field), H[r]? = some cell ∧ cell.vm ≠ .unknown ∧ s.fieldFound? (tb_RN ci) (tb_f ci k).1 (tb_f ci k).2.1 = some (cf, kf, i, f) ∧ f.isStatic = false ∧ cell.slots[f.slot]? = some (V k) := by
  obtain ⟨cell, h1, h2, h3, h4, h5, h6⟩ := h
  obtain ⟨cf, kf, i, f, g1, g2, g3⟩ := h6 k hk
  exact ⟨cell, cf, kf, i, f, h1, h3, g1, g2, g3⟩
section SOH
variable {p : Program} {l : Launch} {e : Env} {R : Room} {s : State} {m : MethodId} {args : Array Value} {below : List Frame} {meth : Method} {c : Code} {H : Heap} {locs : List Loc} {cells slots : Nat} {Q : State → Prop}
variable {cc : ByteArray} {pc nL : Nat} {lsA : Array Slot} {st st' : List ax_V} {ad : Nat → Option Nat} {h h' : ax_H} {H0 : Heap}
theorem so_fvv {h : ax_H} {o a b ft : Nat} {v : ax_V} (hft : (tb_f a b).2.2.1 = ft) (hv : ax_fv ft h o b = some v) : so_v ad v = so_fv ad h o a b := by
  unfold so_fv
  rw [hft]
  unfold ax_fv at hv
  split at hv <;> cases hv <;> rfl
theorem so_fvo {h : ax_H} (hn : so_num h) {o a b ft : Nat} {v : ax_V} (hk : (ax_kd h o).1 = 100 + a) (hft : (tb_f a b).2.2.1 = ft) (hv : ax_fv ft h o b = some v) : so_ok v := by
  have h1 := hn.fld b hk
  rw [hft] at h1
  unfold ax_fv at hv
  split at hv
  · cases hv; exact h1
  · cases hv; exact h1
  · cases hv; trivial
  · cases hv; exact h1
  · cases hv
theorem so_getf {own : String} {index o a b : Nat} {r : List ax_V} {v : ax_V} (hexec : p.tables.exec = Jvm.exec) (hb : c.code = cc) (hown : s.vm.findClass own = some m.cls) (hR : so_Rel s ad H0 h H) (hk : (ax_kd h o).1 = 100 + a) (hbN : b < tb_N a) (hv : ax_fv (tb_f a b).2.2.1 h o b = some v)
    (hlink : (Cond.fieldLink own index (tb_RN a) (tb_f a b).1 (tb_f a b).2.1).before args s = true ∨ ∃ host, (Cond.fieldLinkNest own index (tb_RN a) (tb_f a b).1 (tb_f a b).2.1 host).before args s = true) (hdg : decode cc pc = .ok (.getfield index, 3))
    (kk : W p l e R s m args below meth c H locs cells slots Q (F0 m (pc + 3) lsA ((v :: r).map (so_v ad)))) : W p l e R s m args below meth c H locs cells slots Q (F0 m pc lsA ((.inr (.inr (some o)) :: r : List ax_V).map (so_v ad))) := by
  have hin := so_in hR.2.2.2.2 (o := o) (fun e => by rw [e] at hk; simp at hk; omega)
  obtain ⟨q, hq, ho⟩ := (hR.2.2.1 o hin).2.1 a hk
  obtain ⟨cell, cf, kf, i, f, h1, h2, h3, h4, h5⟩ := so_objF ho hbN
  have e1 : so_v ad (.inr (.inr (some o))) = .ref q := by show va_rf (ad o) = _; rw [hq]; rfl
  rw [List.map_cons, e1]
  rw [List.map_cons, so_fvv rfl hv] at kk
  rcases hlink with hl | ⟨host, hl⟩
  · exact W.getf hexec hb hown hl h3 h4 h1 h2 (v := so_fv ad h o a b) h5 rfl rfl hdg kk
  · exact va_Wgetf hexec hb hown hl h3 h4 h1 h2 (v := so_fv ad h o a b) h5 rfl rfl hdg kk
theorem so_alen {o : Nat} {r : List ax_V} (hexec : p.tables.exec = Jvm.exec) (hb : c.code = cc) (hR : so_Rel s ad H0 h H) (hk : (ax_kd h o).1 < 4) (hdg : decode cc pc = .ok (.arraylength, 1))
    (kk : W p l e R s m args below meth c H locs cells slots Q (F0 m (pc + 1) lsA ((.inl ((ax_kd h o).2 : Int) :: r : List ax_V).map (so_v ad)))) : W p l e R s m args below meth c H locs cells slots Q (F0 m pc lsA ((.inr (.inr (some o)) :: r : List ax_V).map (so_v ad))) := by
  have hin := so_in hR.2.2.2.2 (o := o) (fun e => by rw [e] at hk; simp at hk)
  obtain ⟨ty, hty⟩ : ∃ ty, so_ty (ax_kd h o).1 = some ty := by
    match (ax_kd h o).1, hk with
    | 0, _ => exact ⟨_, rfl⟩
    | 1, _ => exact ⟨_, rfl⟩
    | 2, _ => exact ⟨_, rfl⟩
    | 3, _ => exact ⟨_, rfl⟩
  obtain ⟨q, hq, cell, h1, h2, h3, h4, h5⟩ := (hR.2.2.1 o hin).1 ty hty
  have e1 : so_v ad (.inr (.inr (some o))) = .ref q := by show va_rf (ad o) = _; rw [hq]; rfl
  rw [List.map_cons, e1]
  refine W.alen hexec hb h1 h2 (n := Int32.ofInt ((ax_kd h o).2 : Int)) ?_ rfl rfl hdg kk
  rw [h4.2]
  rfl
/-- the place of an element -/
theorem so_ix {j : Int} {n : Nat} (hj : (Int32.ofInt j).toInt = j) (h0 : 0 ≤ j) (h1 : j < (n : Int)) : ¬ (Int32.ofInt j < 0 ∨ n ≤ (Int32.ofInt j).toNatClampNeg) ∧ (Int32.ofInt j).toNatClampNeg = j.toNat := by
  have e : (Int32.ofInt j).toNatClampNeg = j.toNat := by show (Int32.ofInt j).toInt.toNat = _; rw [hj]
  refine ⟨?_, e⟩
  rw [e, (so_z32 hj).2.1]
  omega
theorem so_ald {t : Nat} {ty : FieldType} {o : Nat} {j : Int} {r : List ax_V} {i : Instr} (hR : so_Rel s ad H0 h H) (ht : (ax_kd h o).1 = t) (hty : so_ty t = some ty) (hj : (Int32.ofInt j).toInt = j) (h0 : 0 ≤ j) (h1 : j < ((ax_kd h o).2 : Int))
    (row : ∀ (q : Nat) (cell : Cell) (x : Int32) (v : Value) (rest : List Value), H[q]? = some cell → s.isArrayOf cell ty → cell.vm ≠ .unknown → ¬ (x < 0 ∨ cell.slots.size ≤ x.toNatClampNeg) → cell.slots[x.toNatClampNeg]? = some v → W p l e R s m args below meth c H locs cells slots Q (F0 m (pc + 1) lsA (v :: rest)) → W p l e R s m args below meth c H locs cells slots Q (F0 m pc lsA (.int x :: .ref q :: rest)))
    (kk : W p l e R s m args below meth c H locs cells slots Q (F0 m (pc + 1) lsA ((ax_el t (ax_nu h o j.toNat) :: r).map (so_v ad)))) : W p l e R s m args below meth c H locs cells slots Q (F0 m pc lsA ((.inl j :: .inr (.inr (some o)) :: r : List ax_V).map (so_v ad))) := by
  have ht4 : t < 4 := by
    rcases Nat.lt_or_ge t 4 with q | q
    · exact q
    · match t, q with
      | t + 4, _ => cases hty
  have hin := so_in hR.2.2.2.2 (o := o) (fun e => by rw [e] at ht; simp at ht; omega)
  obtain ⟨q, hq, cell, g1, g2, g3, g4, g5⟩ := (hR.2.2.1 o hin).1 ty (by rw [ht]; exact hty)
  have e1 : so_v ad (.inr (.inr (some o))) = .ref q := by show va_rf (ad o) = _; rw [hq]; rfl
  obtain ⟨i1, i2⟩ := so_ix hj h0 h1
  rw [List.map_cons, List.map_cons, e1]
  refine row q cell (Int32.ofInt j) (so_v ad (ax_el t (ax_nu h o j.toNat))) _ g1 g2 g3 (fun q => i1 (q.imp id (Nat.le_trans g4.1))) ?_ kk
  rw [i2, g5 _ (by omega), ht]
theorem so_ast {t : Nat} {ty : FieldType} {o : Nat} {j z : Int} {r : List ax_V} {v : Value} (hAD : so_AD ad H0.size) (hR : so_Rel s ad H0 h H) (hlo : ∀ q ∈ locs, H0.size ≤ q.base) (ht : (ax_kd h o).1 = t) (hty : so_ty t = some ty) (ho : 27 ≤ o) (hj : (Int32.ofInt j).toInt = j) (h0 : 0 ≤ j) (h1 : j < ((ax_kd h o).2 : Int)) (hz : so_ok (ax_el t z)) (hz1 : t = 1 → -128 ≤ z ∧ z < 128)
    (row : ∀ (q : Nat) (cell : Cell) (x : Int32) (rest : List Value), H[q]? = some cell → s.isArrayOf cell ty → cell.vm ≠ .unknown → ¬ (x < 0 ∨ cell.slots.size ≤ x.toNatClampNeg) →
      (∀ H' : Heap, H'[q]? = some (cell.setSlot x.toNatClampNeg (so_v ad (ax_el t z))) → H'.size = H.size → (∀ q', q' ≠ q → H'[q']? = H[q']?) → W p l e R s m args below meth c H' (locs ++ [⟨q, x.toNatClampNeg⟩]) cells slots Q (F0 m (pc + 1) lsA rest)) → W p l e R s m args below meth c H locs cells slots Q (F0 m pc lsA (v :: .int x :: .ref q :: rest)))
    (kk : ∀ (H' : Heap) (locs' : List Loc), so_Rel s ad H0 (ax_setn h o j.toNat z) H' → (∀ q ∈ locs', H0.size ≤ q.base) → W p l e R s m args below meth c H' locs' cells slots Q (F0 m (pc + 1) lsA (r.map (so_v ad)))) : W p l e R s m args below meth c H locs cells slots Q (F0 m pc lsA (v :: (.inl j :: .inr (.inr (some o)) :: r : List ax_V).map (so_v ad))) := by
  have ht4 : t < 4 := by
    rcases Nat.lt_or_ge t 4 with q | q
    · exact q
    · match t, q with
      | t + 4, _ => cases hty
  have hin := so_in hR.2.2.2.2 (o := o) (fun e => by rw [e] at ht; simp at ht; omega)
  obtain ⟨q, hq, cell, g1, g2, g3, g4, g5⟩ := (hR.2.2.1 o hin).1 ty (by rw [ht]; exact hty)
  have e1 : so_v ad (.inr (.inr (some o))) = .ref q := by show va_rf (ad o) = _; rw [hq]; rfl
  obtain ⟨i1, i2⟩ := so_ix hj h0 h1
  rw [List.map_cons, List.map_cons, e1]
  refine row q cell (Int32.ofInt j) _ g1 g2 g3 (fun q => i1 (q.imp id (Nat.le_trans g4.1))) (fun H' k1 k2 k3 => kk H' _ (hR.arrset hAD ho ht hty hq g1 (by rw [← i2]; exact k1) k2 k3 hz hz1) (fun x hx => ?_))
  rcases List.mem_append.mp hx with g | g
  · exact hlo x g
  · have e2 : x = ⟨q, (Int32.ofInt j).toNatClampNeg⟩ := by simpa using g
    have := hAD.new ho
    rw [hq] at this
    have := Option.some.inj this
    rw [e2]
    show H0.size ≤ q
    omega
/-- what the tables say of a field of a class of ours -/
def so_Fw (a b : Nat) : Prop := (if (tb_f a b).2.2.2 = true then Cond.laysFinal (tb_RN a) (tb_RN a) (tb_f a b).1 (tb_f a b).2.1 else Cond.lays (tb_RN a) (tb_RN a) (tb_f a b).1 (tb_f a b).2.1) ∈ lw_tbl
/-- what the tables say of a class of ours -/
def so_Cw (a : Nat) : Prop := (∀ b, b < tb_N a → so_Fw a b) ∧ (∀ b, b < tb_N a → ∀ k, k < tb_N a → b ≠ k → (tb_f a b).1 ≠ (tb_f a k).1) ∧ Cond.instantiable (tb_RN a) (tb_ci.getD a (0, 0, 0, [])).2.2.1 ∈ lw_tbl ∧ Cond.initialized (tb_RN a) ∈ lw_tbl ∧
  ∀ b, b < tb_N a → (match parseFieldDescriptor (tb_f a b).2.1 with
    | some .int => (tb_f a b).2.2.1 = 0
    | some .long => (tb_f a b).2.2.1 = 1
    | some .boolean => (tb_f a b).2.2.1 = 3
    | some (.object _) => (tb_f a b).2.2.1 = 2
    | some (.array _) => (tb_f a b).2.2.1 = 2
    | _ => False)
theorem so_lay {a b : Nat} (hw : so_Fw a b) (hts : ∀ w ∈ lw_tbl, so_gw w = true → w.before args s = true) : (Cond.lays (tb_RN a) (tb_RN a) (tb_f a b).1 (tb_f a b).2.1).before args s = true ∨ (Cond.laysFinal (tb_RN a) (tb_RN a) (tb_f a b).1 (tb_f a b).2.1).before args s = true := by
  have h1 := hts _ hw (by split <;> rfl)
  split at h1
  · exact Or.inr h1
  · exact Or.inl h1
theorem so_pty {a b : Nat} (hC : so_Cw a) (hb : b < tb_N a) : ∃ ty, parseFieldDescriptor (tb_f a b).2.1 = some ty := by
  have h1 := hC.2.2.2.2 b hb
  cases hp : parseFieldDescriptor (tb_f a b).2.1 with
  | none => rw [hp] at h1; exact absurd h1 id
  | some ty => exact ⟨ty, rfl⟩
theorem so_fapart {a b k : Nat} (hC : so_Cw a) (hts : ∀ w ∈ lw_tbl, so_gw w = true → w.before args s = true) (hb : b < tb_N a) (hk : k < tb_N a) (hne : b ≠ k) {cf kf i f cf' kf' i' f'} (h1 : s.fieldFound? (tb_RN a) (tb_f a b).1 (tb_f a b).2.1 = some (cf, kf, i, f)) (h2 : s.fieldFound? (tb_RN a) (tb_f a k).1 (tb_f a k).2.1 = some (cf', kf', i', f')) : f.slot ≠ f'.slot := by
  obtain ⟨t1, p1⟩ := so_pty hC hb
  obtain ⟨t2, p2⟩ := so_pty hC hk
  refine u_apart (so_lay (hC.1 b hb) hts) (so_lay (hC.1 k hk) hts) h1 h2 ?_
  rw [(State.fieldFound?_type h1 p1).1, (State.fieldFound?_type h2 p2).1]
  exact hC.2.1 b hb k hk hne
theorem so_objset {a b r : Nat} {V : Nat → Value} {w : Value} {H' : Heap} {new : Prop} (hC : so_Cw a) (hts : ∀ w ∈ lw_tbl, so_gw w = true → w.before args s = true) (hb : b < tb_N a) (ho : so_obj s H r a V new) {cell : Cell} {cf kf i f} (hcell : H[r]? = some cell) (hf : s.fieldFound? (tb_RN a) (tb_f a b).1 (tb_f a b).2.1 = some (cf, kf, i, f)) (h1 : H'[r]? = some (cell.setSlot f.slot w)) :
    so_obj s H' r a (fun k => if k = b then w else V k) new := by
  obtain ⟨cell', g1, g2, g3, g4, g5, g6⟩ := ho
  cases hcell.symm.trans g1
  refine ⟨_, h1, g2, g3, g4, g5, fun k hk => ?_⟩
  obtain ⟨cf', kf', i', f', q1, q2, q3⟩ := g6 k hk
  refine ⟨cf', kf', i', f', q1, q2, ?_⟩
  rw [so_slot]
  show _ = some (if k = b then w else V k)
  by_cases e : k = b
  · subst e
    cases hf.symm.trans q1
    rw [if_pos ⟨rfl, (Array.getElem?_eq_some_iff.mp q3).1⟩, if_pos rfl]
  · rw [if_neg, if_neg e]
    · exact q3
    · rintro ⟨z, -⟩
      exact so_fapart hC hts hb hk (fun q => e q.symm) hf q1 z
/-- what is laid into the field of a cell: the abstract heap's picture of it -/
theorem so_pf {a b o ft : Nat} {v : ax_V} (hft : (tb_f a b).2.2.1 = ft) (hv : ax_pf ft h o b v = some h') : (fun k => if k = b then so_v ad v else so_fv ad h o a k) = so_fv ad h' o a ∧ ((∃ z, h' = ax_setn h o b z ∧ (so_ok v → if ft = 1 then (Int64.ofInt z).toInt = z else (Int32.ofInt z).toInt = z)) ∨ ∃ x, h' = ax_setr h o b x) := by
  unfold ax_pf at hv
  have nu : ∀ (z : Int) (k : Nat), ax_nu (ax_setn h o b z) o k = if k = b then z else ax_nu h o k := fun z k => by
    show (if o = o then _ else _) = _
    rw [if_pos rfl]
    rfl
  have rf : ∀ (x : Option Nat) (k : Nat), ax_rf (ax_setr h o b x) o k = if k = b then x else ax_rf h o k := fun z k => by
    show (if o = o then _ else _) = _
    rw [if_pos rfl]
    rfl
  have fn : ∀ (z : Int), ft ≠ 2 → so_v ad v = (if ft = 1 then .long (Int64.ofInt z) else .int (Int32.ofInt z)) → (fun k => if k = b then so_v ad v else so_fv ad h o a k) = so_fv ad (ax_setn h o b z) o a := by
    intro z h2 e
    funext k
    unfold so_fv
    rw [nu]
    by_cases q : k = b
    · subst q
      simp only [if_true, hft, e, if_neg h2]
    · simp only [if_neg q]
      rfl
  split at hv
  · split at hv
    · rename_i z
      cases hv
      exact ⟨fn z (by decide) rfl, Or.inl ⟨z, rfl, fun q => q⟩⟩
    · cases hv
  · split at hv
    · rename_i z
      cases hv
      exact ⟨fn z (by decide) rfl, Or.inl ⟨z, rfl, fun q => q⟩⟩
    · cases hv
  · split at hv
    · rename_i x
      cases hv
      refine ⟨?_, Or.inr ⟨x, rfl⟩⟩
      funext k
      unfold so_fv
      rw [rf]
      by_cases q : k = b
      · subst q
        simp only [if_true, hft]
        rfl
      · simp only [if_neg q]
        rfl
    · cases hv
  · split at hv
    · rename_i z
      split at hv
      · cases hv
        exact ⟨fn z (by decide) rfl, Or.inl ⟨z, rfl, fun q => q⟩⟩
      · cases hv
    · cases hv
  · cases hv
end SOH
/-! FIELDS ARE WRITTEN, CELLS ARE MADE. -/
section SOI
variable {p : Program} {l : Launch} {e : Env} {R : Room} {s : State} {m : MethodId} {args : Array Value} {below : List Frame} {meth : Method} {c : Code} {H : Heap} {locs : List Loc} {cells slots : Nat} {Q : State → Prop}
variable {cc : ByteArray} {pc nL : Nat} {lsA : Array Slot} {st st' : List ax_V} {ad : Nat → Option Nat} {h h' : ax_H} {H0 : Heap}
theorem so_rv (x : Option Nat) : so_v ad (.inr (.inr x)) = .null ∨ ∃ a, so_v ad (.inr (.inr x)) = .ref a := by
  cases x with
  | none => exact Or.inl rfl
  | some y =>
    show va_rf (ad y) = _ ∨ ∃ a, va_rf (ad y) = _
    cases ad y with
    | none => exact Or.inl rfl
    | some z => exact Or.inr ⟨z, rfl⟩
theorem so_fits {a b o : Nat} {v : ax_V} {ty : FieldType} (hC : so_Cw a) (hb : b < tb_N a) (hp : parseFieldDescriptor (tb_f a b).2.1 = some ty) (hv : ax_pf (tb_f a b).2.2.1 h o b v = some h') : narrow ty (so_v ad v) = so_v ad v ∧ fits ty (so_v ad v) = true := by
  have h1 := hC.2.2.2.2 b hb
  rw [hp] at h1
  cases ty with
  | int =>
    have h1 : (tb_f a b).2.2.1 = 0 := h1
    rw [h1] at hv
    simp only [ax_pf] at hv
    split at hv
    · exact ⟨rfl, rfl⟩
    · cases hv
  | long =>
    have h1 : (tb_f a b).2.2.1 = 1 := h1
    rw [h1] at hv
    simp only [ax_pf] at hv
    split at hv
    · exact ⟨rfl, rfl⟩
    · cases hv
  | boolean =>
    have h1 : (tb_f a b).2.2.1 = 3 := h1
    rw [h1] at hv
    simp only [ax_pf] at hv
    split at hv
    · split at hv
      · rename_i z hz
        rcases hz with hz | hz
        · subst hz
          show narrow .boolean (.int (Int32.ofInt 0)) = .int (Int32.ofInt 0) ∧ fits .boolean (.int (Int32.ofInt 0)) = true
          exact ⟨by decide, by decide⟩
        · subst hz
          show narrow .boolean (.int (Int32.ofInt 1)) = .int (Int32.ofInt 1) ∧ fits .boolean (.int (Int32.ofInt 1)) = true
          exact ⟨by decide, by decide⟩
      · cases hv
    · cases hv
  | object n =>
    have h1 : (tb_f a b).2.2.1 = 2 := h1
    rw [h1] at hv
    simp only [ax_pf] at hv
    split at hv
    · rename_i x
      rcases so_rv (ad := ad) x with q | ⟨w, q⟩ <;> rw [q] <;> exact ⟨rfl, rfl⟩
    · cases hv
  | array n =>
    have h1 : (tb_f a b).2.2.1 = 2 := h1
    rw [h1] at hv
    simp only [ax_pf] at hv
    split at hv
    · rename_i x
      rcases so_rv (ad := ad) x with q | ⟨w, q⟩ <;> rw [q] <;> exact ⟨rfl, rfl⟩
    · cases hv
  | _ => exact absurd h1 id
theorem so_putf {own : String} {index o a b : Nat} {r : List ax_V} {v : ax_V} (hexec : p.tables.exec = Jvm.exec) (hb : c.code = cc) (hown : s.vm.findClass own = some m.cls) (hts : ∀ w ∈ lw_tbl, so_gw w = true → w.before args s = true) (hC : so_Cw a) (hAD : so_AD ad H0.size) (hR : so_Rel s ad H0 h H) (hlo : ∀ q ∈ locs, H0.size ≤ q.base)
    (hk : (ax_kd h o).1 = 100 + a) (ho : 27 ≤ o) (hbN : b < tb_N a) (hv : ax_pf (tb_f a b).2.2.1 h o b v = some h') (okv : so_ok v)
    (hlink : (Cond.fieldLink own index (tb_RN a) (tb_f a b).1 (tb_f a b).2.1).before args s = true ∨ ∃ host, (Cond.fieldLinkNest own index (tb_RN a) (tb_f a b).1 (tb_f a b).2.1 host).before args s = true)
    (hfin : (tb_f a b).2.2.2 = true → own = tb_RN a ∧ meth.name = "<init>" ∧ (Cond.fieldLink own index (tb_RN a) (tb_f a b).1 (tb_f a b).2.1).before args s = true) (hdg : decode cc pc = .ok (.putfield index, 3))
    (kk : ∀ (H' : Heap) (locs' : List Loc), so_Rel s ad H0 h' H' → (∀ q ∈ locs', H0.size ≤ q.base) → W p l e R s m args below meth c H' locs' cells slots Q (F0 m (pc + 3) lsA (r.map (so_v ad)))) : W p l e R s m args below meth c H locs cells slots Q (F0 m pc lsA ((v :: .inr (.inr (some o)) :: r : List ax_V).map (so_v ad))) := by
  have hk50 : ax_kd h o ≠ (50, 0) := fun e => by rw [e] at hk; simp at hk; omega
  have hin := so_in hR.2.2.2.2 hk50
  obtain ⟨c1, c2, c3, c4⟩ := hR.2.2.1 o hin
  obtain ⟨q, hq, hobj⟩ := c2 a hk
  obtain ⟨cell, g1, g2, g3, g4, g5, g6⟩ := id hobj
  obtain ⟨cf, kf, i, f, q1, q2, q3⟩ := g6 b hbN
  obtain ⟨ty, hty⟩ := so_pty hC hbN
  obtain ⟨hnar, hfit⟩ := so_fits (ad := ad) hC hbN hty hv
  obtain ⟨cC, kC, hfc, hkC, hkind, -⟩ := Cond.instantiable_spec (hts _ hC.2.2.1 rfl)
  cases g2.symm.trans hfc
  have hlt : f.slot < cell.slots.size := (Array.getElem?_eq_some_iff.mp q3).1
  have hqn : q = H0.size + (o - 27) := by
    have := hAD.new ho
    rw [hq] at this
    exact Option.some.inj this
  have e1 : so_v ad (.inr (.inr (some o))) = .ref q := by show va_rf (ad o) = _; rw [hq]; rfl
  obtain ⟨epf, hpf⟩ := so_pf (ad := ad) (a := a) rfl hv
  have fin : ∀ H' : Heap, H'[q]? = some (cell.setSlot f.slot (so_v ad v)) → H'.size = H.size → (∀ q', q' ≠ q → H'[q']? = H[q']?) → W p l e R s m args below meth c H' (locs ++ [⟨q, f.slot⟩]) cells slots Q (F0 m (pc + 3) lsA (r.map (so_v ad))) := by
    intro H' k1 k2 k3
    have ho2 := so_objset hC hts hbN hobj g1 q1 k1
    rw [epf] at ho2
    refine kk H' _ ?_ (fun x hx => ?_)
    · have cell_ok : ax_kd h' o = ax_kd h o → (ax_ex h' o = ax_ex h o) → so_cell s ad h' H' o := fun ek ee => by
        refine ⟨fun ty2 hty2 => ?_, fun ci hci => ?_, fun x hx => ?_, fun x hx => ?_⟩
        · rw [ek, hk] at hty2
          rw [show 100 + a = (96 + a) + 4 by omega] at hty2
          cases hty2
        · rw [ek, hk] at hci
          have : ci = a := by omega
          subst this
          exact ⟨q, hq, ho2⟩
        · rw [ee] at hx
          exact absurd (hR.2.2.2.2.2.2.1 o (by omega)).1 hk50
        · rw [ee] at hx
          exact absurd (hR.2.2.2.2.2.2.1 o (by omega)).1 hk50
      rcases hpf with ⟨z, rfl, hz⟩ | ⟨x, rfl⟩
      · refine hR.setn hAD ho hk50 hq k2 k3 ?_ (fun e => by rw [hk] at e; omega) (cell_ok rfl rfl)
        have hz := hz okv
        rw [hk]
        have e2 : ax_isl (100 + a) b = ((tb_f a b).2.2.1 == 1) := by
          unfold ax_isl
          have e1 : (100 + a == 2) = false := by simp; omega
          have e2 : decide (100 ≤ 100 + a) = true := by simp
          rw [e1, e2, show 100 + a - 100 = a by omega]
          simp
        rw [e2]
        by_cases w : (tb_f a b).2.2.1 = 1
        · rw [if_pos w] at hz
          rw [if_pos (by simpa using w)]
          exact hz
        · rw [if_neg w] at hz
          rw [if_neg (by simpa using w)]
          exact hz
      · exact hR.setr hAD ho hk50 hq k2 k3 (cell_ok rfl rfl)
    · rcases List.mem_append.mp hx with g | g
      · exact hlo x g
      · have e2 : x = ⟨q, f.slot⟩ := by simpa using g
        rw [e2]
        show H0.size ≤ q
        omega
  rw [List.map_cons, List.map_cons, e1]
  have hlay := hts _ (hC.1 b hbN) (by split <;> rfl)
  by_cases hfi : (tb_f a b).2.2.2 = true
  · obtain ⟨ho1, hin2, hl⟩ := hfin hfi
    rw [if_pos hfi] at hlay
    have hcf : m.cls = cf := by
      obtain ⟨_, _, c', _, _, _, -, -, hf', -, -, -, hown2, -⟩ := Cond.laysFinal_spec hlay
      have e1 : c' = cf := by have := q1.symm.trans hf'; simp at this; exact this.1.symm
      rw [ho1] at hown
      rw [← e1]; exact Option.some.inj (hown.symm.trans hown2)
    have h6 := u_fits hfc hkC hkind (Or.inr hlay) q1 hty hnar hfit
    exact W.putFinK hexec hb hown hl q1 q2 hcf hin2 h6 g1 (g5 ho) hlt rfl rfl hdg fin
  · rw [if_neg hfi] at hlay
    have h6 := u_store hfc hkC hkind hlay q1 hty hnar hfit
    rcases hlink with hl | ⟨host, hl⟩
    · exact W.putK hexec hb (f := f) ⟨hown, hl, ⟨_, _, _, q1⟩, q2⟩ h6 g1 (g5 ho) hlt rfl rfl hdg fin
    · exact va_WputK hexec hb hown hl q1 q2 h6 g1 (g5 ho) hlt rfl rfl hdg fin
/-- a new cell: all but its own picture -/
theorem so_Rel.made {H' : Heap} {k : Nat × Nat} {n : Nat} (hAD : so_AD ad H0.size) (hR : so_Rel s ad H0 h H) (hk2 : k.2 < 2 ^ 31) (h2 : H'.size = H.size + 1) (h3 : ∀ q, q < H.size → H'[q]? = H[q]?) (hc : so_cell s ad (ax_new h k n) H' (27 + h.1)) : so_Rel s ad H0 (ax_new h k n) H' := by
  have hs := hR.1
  have kd : ∀ a, ax_kd (ax_new h k n) a = if a = 27 + h.1 then k else ax_kd h a := fun a => rfl
  refine ⟨by rw [h2, hs]; show _ = H0.size + (h.1 + 1); omega, fun q hq => ?_, fun a ha => ?_, fun a j => ?_, ⟨fun a ha => ?_, fun a => ?_, fun a ha => ?_, by rw [kd, if_neg (by omega)]; exact hR.2.2.2.2.2.2.2⟩⟩
  · rw [h3 q (by omega)]
    exact hR.2.1 q hq
  · have ha : a < 27 + (h.1 + 1) := ha
    by_cases e : a = 27 + h.1
    · subst e; exact hc
    · refine (hR.2.2.1 a (by omega)).kept (fun g r hr => h3 r ?_) (by rw [kd, if_neg e]) (fun _ => rfl) (fun _ => rfl) rfl
      have := hAD.lt (n := h.1) (by omega) (g.ne hR.2.2.2.2) hr
      omega
  · rw [kd]
    by_cases e : a = 27 + h.1
    · have z : ax_nu (ax_new h k n) a j = 0 := ((hR.2.2.2.2.1 a (by omega)).2.2 j).1
      rw [z, if_pos e]
      refine ⟨?_, fun _ => by omega⟩
      split <;> rfl
    · rw [if_neg e]
      exact hR.2.2.2.1 a j
  · have ha : 27 + (h.1 + 1) ≤ a := ha
    rw [kd, if_neg (by omega)]
    exact hR.2.2.2.2.1 a (by omega)
  · rw [kd]
    by_cases e : a = 27 + h.1
    · rw [if_pos e]; exact hk2
    · rw [if_neg e]; exact hR.2.2.2.2.2.1 a
  · have ha : ax_ex h a ≠ 0 := ha
    have e : a ≠ 27 + h.1 := fun e => ha ((hR.2.2.2.2.1 a (by omega)).2.1)
    rw [kd, if_neg e]
    exact hR.2.2.2.2.2.2.1 a ha
theorem so_newa {t : Nat} {ty : FieldType} {at' : ArrayType} {n : Int} {r : List ax_V} (hexec : p.tables.exec = Jvm.exec) (hb : c.code = cc) (hAD : so_AD ad H0.size) (hR : so_Rel s ad H0 h H) (hty : so_ty t = some ty) (hat : newarray.typeOf at' = ty) (harr : (Cond.arrayClass ty).before args s = true) (hnr : (Int32.ofInt n).toInt = n) (h0 : 0 ≤ n) (h1 : n ≤ 1000000)
    (hcells : cells + 1 ≤ R.cells) (hslots : slots + n.toNat ≤ R.slots) (hdg : decode cc pc = .ok (.newarray at', 2))
    (kk : ∀ H' : Heap, so_Rel s ad H0 (ax_new h (t, n.toNat) n.toNat) H' → W p l e R s m args below meth c H' locs (cells + 1) (slots + n.toNat) Q (F0 m (pc + 2) lsA ((.inr (.inr (some (27 + h.1))) :: r : List ax_V).map (so_v ad)))) : W p l e R s m args below meth c H locs cells slots Q (F0 m pc lsA ((.inl n :: r : List ax_V).map (so_v ad))) := by
  subst hat
  obtain ⟨i1, i2⟩ := so_z32 hnr
  have hN : (Int32.ofInt n).toNatClampNeg = n.toNat := by show (Int32.ofInt n).toInt.toNat = _; rw [hnr]
  have hadn := hAD.new (o := 27 + h.1) (by omega)
  rw [show 27 + h.1 - 27 = h.1 by omega, ← hR.1] at hadn
  have hby : n.toNat * componentBytes (newarray.typeOf at') ≤ 536870912 := by
    have h4 : componentBytes (newarray.typeOf at') ≤ 8 := by cases at' <;> decide
    have h3 : n.toNat ≤ 1000000 := by omega
    have h5 := Nat.mul_le_mul h3 h4
    omega
  refine W.newaK hexec hb harr (g := F0 m pc lsA (.int (Int32.ofInt n) :: r.map (so_v ad))) rfl hdg rfl (by rw [i2.1]; omega) hN hby hcells hslots rfl (fun H' cA k1 k2 k3 k4 => ?_)
  have e1 : so_v ad (.inr (.inr (some (27 + h.1)))) = .ref H.size := by show va_rf (ad (27 + h.1)) = _; rw [hadn]; rfl
  have := kk H' ?_
  · rw [List.map_cons, e1] at this
    exact this
  · refine hR.made hAD (by show n.toNat < 2 ^ 31; omega) k2 k3 ⟨fun ty2 hty2 => ?_, fun ci hci => ?_, fun x hx => ?_, fun x hx => ?_⟩
    · have kd : ax_kd (ax_new h (t, n.toNat) n.toNat) (27 + h.1) = (t, n.toNat) := by show (if _ then _ else _) = _; rw [if_pos rfl]
      rw [kd] at hty2 ⊢
      have hty2 : so_ty t = some ty2 := hty2
      rw [hty] at hty2
      cases hty2
      refine ⟨H.size, hadn, _, k1, k4 _ _, (fun q => by cases q), so_len.of (arrV_size _ _ _), fun j hj => ?_⟩
      rw [arrV_read _ _ hj]
      have z : ax_nu (ax_new h (t, n.toNat) n.toNat) (27 + h.1) j = 0 := ((hR.2.2.2.2.1 (27 + h.1) (Nat.le_refl _)).2.2 j).1
      show some _ = some (so_v ad (ax_el t _))
      rw [z]
      match t, hty with
      | 0, hty => have hty : some FieldType.int = some (newarray.typeOf at') := hty
                  rw [← Option.some.inj hty]; rfl
      | 1, hty => have hty : some FieldType.byte = some (newarray.typeOf at') := hty
                  rw [← Option.some.inj hty]; rfl
      | 2, hty => have hty : some FieldType.long = some (newarray.typeOf at') := hty
                  rw [← Option.some.inj hty]; rfl
      | 3, hty => have hty : some FieldType.boolean = some (newarray.typeOf at') := hty
                  rw [← Option.some.inj hty]; rfl
    · have kd : ax_kd (ax_new h (t, n.toNat) n.toNat) (27 + h.1) = (t, n.toNat) := by show (if _ then _ else _) = _; rw [if_pos rfl]
      rw [kd] at hci
      have hci : t = 100 + ci := hci
      rw [hci, show 100 + ci = (96 + ci) + 4 by omega] at hty
      cases hty
    · have z : ax_ex h (27 + h.1) = 0 := (hR.2.2.2.2.1 (27 + h.1) (Nat.le_refl _)).2.1
      have hx : ax_ex h (27 + h.1) = 2 * x + 1 := hx
      omega
    · have z : ax_ex h (27 + h.1) = 0 := (hR.2.2.2.2.1 (27 + h.1) (Nat.le_refl _)).2.1
      have hx : ax_ex h (27 + h.1) = 2 * x + 2 := hx
      omega
theorem so_zero (ty : FieldType) (ft : Nat) (hm : (match some ty with
    | some .int => ft = 0
    | some .long => ft = 1
    | some .boolean => ft = 3
    | some (.object _) => ft = 2
    | some (.array _) => ft = 2
    | _ => False)) : defaultValue ty = (if ft = 1 then .long (Int64.ofInt 0) else if ft = 2 then .null else .int (Int32.ofInt 0)) := by
  cases ty with
  | int => have hm : ft = 0 := hm
           subst hm; rfl
  | long => have hm : ft = 1 := hm
            subst hm; rfl
  | boolean => have hm : ft = 3 := hm
               subst hm; rfl
  | object n => have hm : ft = 2 := hm
                subst hm; rfl
  | array n => have hm : ft = 2 := hm
               subst hm; rfl
  | _ => exact absurd hm id
theorem so_newo {own : String} {index a n : Nat} {r : List ax_V} (hexec : p.tables.exec = Jvm.exec) (hb : c.code = cc) (hown : s.vm.findClass own = some m.cls) (hts : ∀ w ∈ lw_tbl, so_gw w = true → w.before args s = true) (hC : so_Cw a) (hN : tb_N a < 2 ^ 31) (hn : (tb_ci.getD a (0, 0, 0, [])).2.2.1 = n) (hAD : so_AD ad H0.size) (hR : so_Rel s ad H0 h H)
    (hlink : (Cond.classLink own index (tb_RN a)).before args s = true) (hcells : cells + 1 ≤ R.cells) (hslots : slots + n ≤ R.slots) (hdg : decode cc pc = .ok (.new index, 3))
    (kk : ∀ H' : Heap, so_Rel s ad H0 (ax_new h (100 + a, tb_N a) n) H' → W p l e R s m args below meth c H' locs (cells + 1) (slots + n) Q (F0 m (pc + 3) lsA ((.inr (.inr (some (27 + h.1))) :: r : List ax_V).map (so_v ad)))) : W p l e R s m args below meth c H locs cells slots Q (F0 m pc lsA (r.map (so_v ad))) := by
  have hins := hts _ hC.2.2.1 rfl
  rw [hn] at hins
  obtain ⟨cC, kC, hfc, hkC, hkind, -⟩ := Cond.instantiable_spec hins
  have hadn := hAD.new (o := 27 + h.1) (by omega)
  rw [show 27 + h.1 - 27 = h.1 by omega, ← hR.1] at hadn
  refine W.newcK hexec hb hown hlink hins (hts _ hC.2.2.2.1 rfl) (g := F0 m pc lsA (r.map (so_v ad))) rfl hdg hcells hslots hfc rfl (fun H' kC' k0 k1 k2 k3 => ?_)
  cases hkC.symm.trans k0
  have e1 : so_v ad (.inr (.inr (some (27 + h.1)))) = .ref H.size := by show va_rf (ad (27 + h.1)) = _; rw [hadn]; rfl
  have := kk H' ?_
  · rw [List.map_cons, e1] at this
    exact this
  · have kd : ax_kd (ax_new h (100 + a, tb_N a) n) (27 + h.1) = (100 + a, tb_N a) := by show (if _ then _ else _) = _; rw [if_pos rfl]
    refine hR.made hAD hN k2 k3 ⟨fun ty2 hty2 => ?_, fun ci hci => ?_, fun x hx => ?_, fun x hx => ?_⟩
    · rw [kd] at hty2
      have hty2 : so_ty (100 + a) = some ty2 := hty2
      rw [show 100 + a = (96 + a) + 4 by omega] at hty2
      cases hty2
    · rw [kd] at hci
      have hci : 100 + a = 100 + ci := hci
      have hci : ci = a := by omega
      subst hci
      refine ⟨H.size, hadn, _, k1, hfc, (fun q => by cases q), rfl, fun _ => rfl, fun k hk => ?_⟩
      obtain ⟨ty, hty⟩ := so_pty hC hk
      obtain ⟨i, cf, kf, fi, fd, hi, -⟩ := u_found (so_lay (hC.1 k hk) hts)
      obtain ⟨f1, f2, f3⟩ := u_facts hfc hkC (so_lay (hC.1 k hk) hts) hi
      refine ⟨cf, kf, fi, fd, hi, f1, ?_⟩
      rw [(State.fieldFound?_type hi hty).2] at f3
      rw [k2_blank f3]
      have z1 : ax_nu (ax_new h (100 + ci, tb_N ci) n) (27 + h.1) k = 0 := ((hR.2.2.2.2.1 (27 + h.1) (Nat.le_refl _)).2.2 k).1
      have z2 : ax_rf (ax_new h (100 + ci, tb_N ci) n) (27 + h.1) k = none := ((hR.2.2.2.2.1 (27 + h.1) (Nat.le_refl _)).2.2 k).2
      unfold so_fv
      rw [z1, z2]
      have hm := hC.2.2.2.2 k hk
      rw [hty] at hm
      rw [so_zero ty _ hm]
      rfl
    · have z : ax_ex h (27 + h.1) = 0 := (hR.2.2.2.2.1 (27 + h.1) (Nat.le_refl _)).2.1
      have hx : ax_ex h (27 + h.1) = 2 * x + 1 := hx
      omega
    · have z : ax_ex h (27 + h.1) = 0 := (hR.2.2.2.2.1 (27 + h.1) (Nat.le_refl _)).2.1
      have hx : ax_ex h (27 + h.1) = 2 * x + 2 := hx
      omega
/-- a new exception -/
theorem so_newx {own : String} {index a : Nat} {r : List ax_V} (hexec : p.tables.exec = Jvm.exec) (hb : c.code = cc) (hown : s.vm.findClass own = some m.cls) (hins : (Cond.instantiable (tb_RN a) 6).before args s = true) (hini : (Cond.initialized (tb_RN a)).before args s = true) (hAD : so_AD ad H0.size) (hR : so_Rel s ad H0 h H)
    (hlink : (Cond.classLink own index (tb_RN a)).before args s = true) (hcells : cells + 1 ≤ R.cells) (hslots : slots + 6 ≤ R.slots) (hdg : decode cc pc = .ok (.new index, 3))
    (kk : ∀ H' : Heap, so_Rel s ad H0 (ax_newx h a) H' → W p l e R s m args below meth c H' locs (cells + 1) (slots + 6) Q (F0 m (pc + 3) lsA ((.inr (.inr (some (27 + h.1))) :: r : List ax_V).map (so_v ad)))) : W p l e R s m args below meth c H locs cells slots Q (F0 m pc lsA (r.map (so_v ad))) := by
  obtain ⟨cC, kC, hfc, hkC, hkind, -⟩ := Cond.instantiable_spec hins
  have hadn := hAD.new (o := 27 + h.1) (by omega)
  rw [show 27 + h.1 - 27 = h.1 by omega, ← hR.1] at hadn
  refine W.newcK hexec hb hown hlink hins hini (g := F0 m pc lsA (r.map (so_v ad))) rfl hdg hcells hslots hfc rfl (fun H' kC' k0 k1 k2 k3 => ?_)
  cases hkC.symm.trans k0
  have e1 : so_v ad (.inr (.inr (some (27 + h.1)))) = .ref H.size := by show va_rf (ad (27 + h.1)) = _; rw [hadn]; rfl
  have hs := hR.1
  have ex : ∀ b, ax_ex (ax_newx h a) b = if b = 27 + h.1 then 2 * a + 1 else ax_ex h b := fun b => rfl
  have z := hR.2.2.2.2.1 (27 + h.1) (Nat.le_refl _)
  have := kk H' ?_
  · rw [List.map_cons, e1] at this
    exact this
  · refine ⟨by rw [k2, hs]; show _ = H0.size + (h.1 + 1); omega, fun q hq => ?_, fun b hb2 => ?_, hR.2.2.2.1, ⟨fun b hb2 => ?_, hR.2.2.2.2.2.1, fun b hb2 => ?_, hR.2.2.2.2.2.2.2⟩⟩
    · rw [k3 q (by omega)]
      exact hR.2.1 q hq
    · have hb2 : b < 27 + (h.1 + 1) := hb2
      by_cases q : b = 27 + h.1
      · subst q
        have kd : ax_kd (ax_newx h a) (27 + h.1) = (50, 0) := z.1
        refine ⟨fun ty2 hty2 => ?_, fun ci hci => ?_, fun x hx => ?_, fun x hx => ?_⟩
        · rw [kd] at hty2
          cases hty2
        · rw [kd] at hci
          have hci : 50 = 100 + ci := hci
          omega
        · rw [ex, if_pos rfl] at hx
          have hx : x = a := by omega
          subst hx
          exact ⟨H.size, cC, kC, hadn, hfc, hkC, k1⟩
        · rw [ex, if_pos rfl] at hx
          omega
      · refine (hR.2.2.1 b (by omega)).kept (fun g w hw => k3 w ?_) rfl (fun _ => rfl) (fun _ => rfl) (by rw [ex, if_neg q])
        have := hAD.lt (n := h.1) (by omega) (g.ne hR.2.2.2.2) hw
        omega
    · have hb2 : 27 + (h.1 + 1) ≤ b := hb2
      have q := hR.2.2.2.2.1 b (by omega)
      exact ⟨q.1, by rw [ex, if_neg (by omega)]; exact q.2.1, q.2.2⟩
    · rw [ex] at hb2
      by_cases q : b = 27 + h.1
      · subst q
        exact ⟨z.1, by omega⟩
      · rw [if_neg q] at hb2
        exact hR.2.2.2.2.2.2.1 b hb2
end SOI
def so_Fd (a b : Nat) : Bool := match parseFieldDescriptor (tb_f a b).2.1 with
  | some .int => (tb_f a b).2.2.1 == 0
  | some .long => (tb_f a b).2.2.1 == 1
  | some .boolean => (tb_f a b).2.2.1 == 3
  | some (.object _) => (tb_f a b).2.2.1 == 2
  | some (.array _) => (tb_f a b).2.2.1 == 2
  | _ => false
theorem so_Fd_of {a b : Nat} (h : so_Fd a b = true) : (match parseFieldDescriptor (tb_f a b).2.1 with
    | some .int => (tb_f a b).2.2.1 = 0
    | some .long => (tb_f a b).2.2.1 = 1
    | some .boolean => (tb_f a b).2.2.1 = 3
    | some (.object _) => (tb_f a b).2.2.1 = 2
    | some (.array _) => (tb_f a b).2.2.1 = 2
    | _ => False) := by
  unfold so_Fd at h
  cases hp : parseFieldDescriptor (tb_f a b).2.1 with
  | none => rw [hp] at h; cases h
  | some ty =>
    rw [hp] at h
    cases ty <;> first | exact eq_of_beq h | cases h
/-! THE CLASSES' FIELDS. -/
set_option maxRecDepth 20000 in
theorem fw_0_0 : so_Fw 0 0 := tb_i2 (List.mem_of_getElem? (i := 187) rfl)
set_option maxRecDepth 20000 in
theorem fw_0_1 : so_Fw 0 1 := tb_i2 (List.mem_of_getElem? (i := 189) rfl)
set_option maxRecDepth 20000 in
theorem fw_0_2 : so_Fw 0 2 := tb_i2 (List.mem_of_getElem? (i := 191) rfl)
set_option maxRecDepth 20000 in
theorem fw_0_3 : so_Fw 0 3 := tb_i2 (List.mem_of_getElem? (i := 193) rfl)
set_option maxRecDepth 20000 in
theorem fw_0_4 : so_Fw 0 4 := tb_i2 (List.mem_of_getElem? (i := 195) rfl)
set_option maxRecDepth 20000 in
theorem fw_0_5 : so_Fw 0 5 := tb_i2 (List.mem_of_getElem? (i := 197) rfl)
set_option maxRecDepth 20000 in
theorem fw_0_6 : so_Fw 0 6 := tb_i2 (List.mem_of_getElem? (i := 199) rfl)
set_option maxRecDepth 20000 in
theorem fw_0_7 : so_Fw 0 7 := tb_i2 (List.mem_of_getElem? (i := 201) rfl)
set_option maxRecDepth 20000 in
theorem fw_0_8 : so_Fw 0 8 := tb_i2 (List.mem_of_getElem? (i := 203) rfl)
set_option maxRecDepth 20000 in
theorem fw_0_9 : so_Fw 0 9 := tb_i2 (List.mem_of_getElem? (i := 205) rfl)
set_option maxRecDepth 20000 in
theorem fw_0_10 : so_Fw 0 10 := tb_i2 (List.mem_of_getElem? (i := 207) rfl)
set_option maxRecDepth 20000 in
theorem fw_0_11 : so_Fw 0 11 := tb_i2 (List.mem_of_getElem? (i := 209) rfl)
set_option maxRecDepth 20000 in
theorem fw_0_12 : so_Fw 0 12 := tb_i2 (List.mem_of_getElem? (i := 211) rfl)
set_option maxRecDepth 20000 in
theorem fw_0_13 : so_Fw 0 13 := tb_i2 (List.mem_of_getElem? (i := 213) rfl)
theorem fw_0 : ∀ b, b < tb_N 0 → so_Fw 0 b := fun b hb => match b, hb with
  | 0, _ => fw_0_0
  | 1, _ => fw_0_1
  | 2, _ => fw_0_2
  | 3, _ => fw_0_3
  | 4, _ => fw_0_4
  | 5, _ => fw_0_5
  | 6, _ => fw_0_6
  | 7, _ => fw_0_7
  | 8, _ => fw_0_8
  | 9, _ => fw_0_9
  | 10, _ => fw_0_10
  | 11, _ => fw_0_11
  | 12, _ => fw_0_12
  | 13, _ => fw_0_13
  | b + 14, hb => absurd hb (by show ¬ b + 14 < 14; omega)
set_option maxRecDepth 20000 in
theorem fn_0 : ∀ b, b < tb_N 0 → ∀ k, k < tb_N 0 → b ≠ k → (tb_f 0 b).1 ≠ (tb_f 0 k).1 := by decide +kernel
set_option maxRecDepth 20000 in
theorem fd_0 : ∀ b, b < tb_N 0 → so_Fd 0 b = true := by decide +kernel
set_option maxRecDepth 20000 in
theorem cw_0 : so_Cw 0 := ⟨fw_0, fn_0, tb_i1 (List.mem_of_getElem? (i := 30) rfl), tb_i1 (List.mem_of_getElem? (i := 1) rfl), fun b hb => so_Fd_of (fd_0 b hb)⟩
set_option maxRecDepth 20000 in
theorem fw_1_0 : so_Fw 1 0 := tb_i2 (List.mem_of_getElem? (i := 94) rfl)
set_option maxRecDepth 20000 in
theorem fw_1_1 : so_Fw 1 1 := tb_i2 (List.mem_of_getElem? (i := 96) rfl)
set_option maxRecDepth 20000 in
theorem fw_1_2 : so_Fw 1 2 := tb_i2 (List.mem_of_getElem? (i := 98) rfl)
set_option maxRecDepth 20000 in
theorem fw_1_3 : so_Fw 1 3 := tb_i2 (List.mem_of_getElem? (i := 100) rfl)
set_option maxRecDepth 20000 in
theorem fw_1_4 : so_Fw 1 4 := tb_i2 (List.mem_of_getElem? (i := 102) rfl)
set_option maxRecDepth 20000 in
theorem fw_1_5 : so_Fw 1 5 := tb_i2 (List.mem_of_getElem? (i := 104) rfl)
theorem fw_1 : ∀ b, b < tb_N 1 → so_Fw 1 b := fun b hb => match b, hb with
  | 0, _ => fw_1_0
  | 1, _ => fw_1_1
  | 2, _ => fw_1_2
  | 3, _ => fw_1_3
  | 4, _ => fw_1_4
  | 5, _ => fw_1_5
  | b + 6, hb => absurd hb (by show ¬ b + 6 < 6; omega)
set_option maxRecDepth 20000 in
theorem fn_1 : ∀ b, b < tb_N 1 → ∀ k, k < tb_N 1 → b ≠ k → (tb_f 1 b).1 ≠ (tb_f 1 k).1 := by decide +kernel
set_option maxRecDepth 20000 in
theorem fd_1 : ∀ b, b < tb_N 1 → so_Fd 1 b = true := by decide +kernel
set_option maxRecDepth 20000 in
theorem cw_1 : so_Cw 1 := ⟨fw_1, fn_1, tb_i2 (List.mem_of_getElem? (i := 83) rfl), tb_i1 (List.mem_of_getElem? (i := 11) rfl), fun b hb => so_Fd_of (fd_1 b hb)⟩
set_option maxRecDepth 20000 in
theorem fw_2_0 : so_Fw 2 0 := tb_i1 (List.mem_of_getElem? (i := 227) rfl)
set_option maxRecDepth 20000 in
theorem fw_2_1 : so_Fw 2 1 := tb_i1 (List.mem_of_getElem? (i := 229) rfl)
set_option maxRecDepth 20000 in
theorem fw_2_2 : so_Fw 2 2 := tb_i1 (List.mem_of_getElem? (i := 231) rfl)
set_option maxRecDepth 20000 in
theorem fw_2_3 : so_Fw 2 3 := tb_i1 (List.mem_of_getElem? (i := 233) rfl)
set_option maxRecDepth 20000 in
theorem fw_2_4 : so_Fw 2 4 := tb_i1 (List.mem_of_getElem? (i := 235) rfl)
theorem fw_2 : ∀ b, b < tb_N 2 → so_Fw 2 b := fun b hb => match b, hb with
  | 0, _ => fw_2_0
  | 1, _ => fw_2_1
  | 2, _ => fw_2_2
  | 3, _ => fw_2_3
  | 4, _ => fw_2_4
  | b + 5, hb => absurd hb (by show ¬ b + 5 < 5; omega)
set_option maxRecDepth 20000 in
theorem fn_2 : ∀ b, b < tb_N 2 → ∀ k, k < tb_N 2 → b ≠ k → (tb_f 2 b).1 ≠ (tb_f 2 k).1 := by decide +kernel
set_option maxRecDepth 20000 in
theorem fd_2 : ∀ b, b < tb_N 2 → so_Fd 2 b = true := by decide +kernel
set_option maxRecDepth 20000 in
theorem cw_2 : so_Cw 2 := ⟨fw_2, fn_2, tb_i1 (List.mem_of_getElem? (i := 216) rfl), tb_i1 (List.mem_of_getElem? (i := 8) rfl), fun b hb => so_Fd_of (fd_2 b hb)⟩
set_option maxRecDepth 20000 in
theorem fw_3_0 : so_Fw 3 0 := tb_i2 (List.mem_of_getElem? (i := 18) rfl)
set_option maxRecDepth 20000 in
theorem fw_3_1 : so_Fw 3 1 := tb_i2 (List.mem_of_getElem? (i := 20) rfl)
set_option maxRecDepth 20000 in
theorem fw_3_2 : so_Fw 3 2 := tb_i2 (List.mem_of_getElem? (i := 22) rfl)
set_option maxRecDepth 20000 in
theorem fw_3_3 : so_Fw 3 3 := tb_i2 (List.mem_of_getElem? (i := 24) rfl)
set_option maxRecDepth 20000 in
theorem fw_3_4 : so_Fw 3 4 := tb_i2 (List.mem_of_getElem? (i := 26) rfl)
set_option maxRecDepth 20000 in
theorem fw_3_5 : so_Fw 3 5 := tb_i2 (List.mem_of_getElem? (i := 28) rfl)
set_option maxRecDepth 20000 in
theorem fw_3_6 : so_Fw 3 6 := tb_i2 (List.mem_of_getElem? (i := 30) rfl)
set_option maxRecDepth 20000 in
theorem fw_3_7 : so_Fw 3 7 := tb_i2 (List.mem_of_getElem? (i := 32) rfl)
set_option maxRecDepth 20000 in
theorem fw_3_8 : so_Fw 3 8 := tb_i2 (List.mem_of_getElem? (i := 34) rfl)
set_option maxRecDepth 20000 in
theorem fw_3_9 : so_Fw 3 9 := tb_i2 (List.mem_of_getElem? (i := 36) rfl)
set_option maxRecDepth 20000 in
theorem fw_3_10 : so_Fw 3 10 := tb_i2 (List.mem_of_getElem? (i := 38) rfl)
set_option maxRecDepth 20000 in
theorem fw_3_11 : so_Fw 3 11 := tb_i2 (List.mem_of_getElem? (i := 40) rfl)
set_option maxRecDepth 20000 in
theorem fw_3_12 : so_Fw 3 12 := tb_i2 (List.mem_of_getElem? (i := 42) rfl)
theorem fw_3 : ∀ b, b < tb_N 3 → so_Fw 3 b := fun b hb => match b, hb with
  | 0, _ => fw_3_0
  | 1, _ => fw_3_1
  | 2, _ => fw_3_2
  | 3, _ => fw_3_3
  | 4, _ => fw_3_4
  | 5, _ => fw_3_5
  | 6, _ => fw_3_6
  | 7, _ => fw_3_7
  | 8, _ => fw_3_8
  | 9, _ => fw_3_9
  | 10, _ => fw_3_10
  | 11, _ => fw_3_11
  | 12, _ => fw_3_12
  | b + 13, hb => absurd hb (by show ¬ b + 13 < 13; omega)
set_option maxRecDepth 20000 in
theorem fn_3 : ∀ b, b < tb_N 3 → ∀ k, k < tb_N 3 → b ≠ k → (tb_f 3 b).1 ≠ (tb_f 3 k).1 := by decide +kernel
set_option maxRecDepth 20000 in
theorem fd_3 : ∀ b, b < tb_N 3 → so_Fd 3 b = true := by decide +kernel
set_option maxRecDepth 20000 in
theorem cw_3 : so_Cw 3 := ⟨fw_3, fn_3, tb_i1 (List.mem_of_getElem? (i := 239) rfl), tb_i1 (List.mem_of_getElem? (i := 9) rfl), fun b hb => so_Fd_of (fd_3 b hb)⟩
set_option maxRecDepth 20000 in
theorem fw_4_0 : so_Fw 4 0 := tb_i1 (List.mem_of_getElem? (i := 47) rfl)
theorem fw_4 : ∀ b, b < tb_N 4 → so_Fw 4 b := fun b hb => match b, hb with
  | 0, _ => fw_4_0
  | b + 1, hb => absurd hb (by show ¬ b + 1 < 1; omega)
set_option maxRecDepth 20000 in
theorem fn_4 : ∀ b, b < tb_N 4 → ∀ k, k < tb_N 4 → b ≠ k → (tb_f 4 b).1 ≠ (tb_f 4 k).1 := by decide +kernel
set_option maxRecDepth 20000 in
theorem fd_4 : ∀ b, b < tb_N 4 → so_Fd 4 b = true := by decide +kernel
set_option maxRecDepth 20000 in
theorem cw_4 : so_Cw 4 := ⟨fw_4, fn_4, tb_i1 (List.mem_of_getElem? (i := 38) rfl), tb_i1 (List.mem_of_getElem? (i := 2) rfl), fun b hb => so_Fd_of (fd_4 b hb)⟩
set_option maxRecDepth 20000 in
theorem fw_5_0 : so_Fw 5 0 := tb_i1 (List.mem_of_getElem? (i := 120) rfl)
set_option maxRecDepth 20000 in
theorem fw_5_1 : so_Fw 5 1 := tb_i1 (List.mem_of_getElem? (i := 122) rfl)
set_option maxRecDepth 20000 in
theorem fw_5_2 : so_Fw 5 2 := tb_i1 (List.mem_of_getElem? (i := 124) rfl)
set_option maxRecDepth 20000 in
theorem fw_5_3 : so_Fw 5 3 := tb_i1 (List.mem_of_getElem? (i := 126) rfl)
set_option maxRecDepth 20000 in
theorem fw_5_4 : so_Fw 5 4 := tb_i1 (List.mem_of_getElem? (i := 128) rfl)
set_option maxRecDepth 20000 in
theorem fw_5_5 : so_Fw 5 5 := tb_i1 (List.mem_of_getElem? (i := 130) rfl)
set_option maxRecDepth 20000 in
theorem fw_5_6 : so_Fw 5 6 := tb_i1 (List.mem_of_getElem? (i := 132) rfl)
set_option maxRecDepth 20000 in
theorem fw_5_7 : so_Fw 5 7 := tb_i1 (List.mem_of_getElem? (i := 134) rfl)
set_option maxRecDepth 20000 in
theorem fw_5_8 : so_Fw 5 8 := tb_i1 (List.mem_of_getElem? (i := 136) rfl)
set_option maxRecDepth 20000 in
theorem fw_5_9 : so_Fw 5 9 := tb_i1 (List.mem_of_getElem? (i := 138) rfl)
set_option maxRecDepth 20000 in
theorem fw_5_10 : so_Fw 5 10 := tb_i1 (List.mem_of_getElem? (i := 140) rfl)
set_option maxRecDepth 20000 in
theorem fw_5_11 : so_Fw 5 11 := tb_i1 (List.mem_of_getElem? (i := 142) rfl)
theorem fw_5 : ∀ b, b < tb_N 5 → so_Fw 5 b := fun b hb => match b, hb with
  | 0, _ => fw_5_0
  | 1, _ => fw_5_1
  | 2, _ => fw_5_2
  | 3, _ => fw_5_3
  | 4, _ => fw_5_4
  | 5, _ => fw_5_5
  | 6, _ => fw_5_6
  | 7, _ => fw_5_7
  | 8, _ => fw_5_8
  | 9, _ => fw_5_9
  | 10, _ => fw_5_10
  | 11, _ => fw_5_11
  | b + 12, hb => absurd hb (by show ¬ b + 12 < 12; omega)
set_option maxRecDepth 20000 in
theorem fn_5 : ∀ b, b < tb_N 5 → ∀ k, k < tb_N 5 → b ≠ k → (tb_f 5 b).1 ≠ (tb_f 5 k).1 := by decide +kernel
set_option maxRecDepth 20000 in
theorem fd_5 : ∀ b, b < tb_N 5 → so_Fd 5 b = true := by decide +kernel
set_option maxRecDepth 20000 in
theorem cw_5 : so_Cw 5 := ⟨fw_5, fn_5, tb_i1 (List.mem_of_getElem? (i := 95) rfl), tb_i1 (List.mem_of_getElem? (i := 5) rfl), fun b hb => so_Fd_of (fd_5 b hb)⟩
set_option maxRecDepth 20000 in
theorem fw_6_0 : so_Fw 6 0 := tb_i1 (List.mem_of_getElem? (i := 70) rfl)
set_option maxRecDepth 20000 in
theorem fw_6_1 : so_Fw 6 1 := tb_i1 (List.mem_of_getElem? (i := 72) rfl)
set_option maxRecDepth 20000 in
theorem fw_6_2 : so_Fw 6 2 := tb_i1 (List.mem_of_getElem? (i := 74) rfl)
set_option maxRecDepth 20000 in
theorem fw_6_3 : so_Fw 6 3 := tb_i1 (List.mem_of_getElem? (i := 76) rfl)
set_option maxRecDepth 20000 in
theorem fw_6_4 : so_Fw 6 4 := tb_i1 (List.mem_of_getElem? (i := 78) rfl)
set_option maxRecDepth 20000 in
theorem fw_6_5 : so_Fw 6 5 := tb_i1 (List.mem_of_getElem? (i := 80) rfl)
set_option maxRecDepth 20000 in
theorem fw_6_6 : so_Fw 6 6 := tb_i1 (List.mem_of_getElem? (i := 82) rfl)
set_option maxRecDepth 20000 in
theorem fw_6_7 : so_Fw 6 7 := tb_i1 (List.mem_of_getElem? (i := 84) rfl)
set_option maxRecDepth 20000 in
theorem fw_6_8 : so_Fw 6 8 := tb_i1 (List.mem_of_getElem? (i := 86) rfl)
set_option maxRecDepth 20000 in
theorem fw_6_9 : so_Fw 6 9 := tb_i1 (List.mem_of_getElem? (i := 88) rfl)
set_option maxRecDepth 20000 in
theorem fw_6_10 : so_Fw 6 10 := tb_i1 (List.mem_of_getElem? (i := 90) rfl)
theorem fw_6 : ∀ b, b < tb_N 6 → so_Fw 6 b := fun b hb => match b, hb with
  | 0, _ => fw_6_0
  | 1, _ => fw_6_1
  | 2, _ => fw_6_2
  | 3, _ => fw_6_3
  | 4, _ => fw_6_4
  | 5, _ => fw_6_5
  | 6, _ => fw_6_6
  | 7, _ => fw_6_7
  | 8, _ => fw_6_8
  | 9, _ => fw_6_9
  | 10, _ => fw_6_10
  | b + 11, hb => absurd hb (by show ¬ b + 11 < 11; omega)
set_option maxRecDepth 20000 in
theorem fn_6 : ∀ b, b < tb_N 6 → ∀ k, k < tb_N 6 → b ≠ k → (tb_f 6 b).1 ≠ (tb_f 6 k).1 := by decide +kernel
set_option maxRecDepth 20000 in
theorem fd_6 : ∀ b, b < tb_N 6 → so_Fd 6 b = true := by decide +kernel
set_option maxRecDepth 20000 in
theorem cw_6 : so_Cw 6 := ⟨fw_6, fn_6, tb_i1 (List.mem_of_getElem? (i := 53) rfl), tb_i1 (List.mem_of_getElem? (i := 4) rfl), fun b hb => so_Fd_of (fd_6 b hb)⟩
set_option maxRecDepth 20000 in
theorem fw_7_0 : so_Fw 7 0 := tb_i1 (List.mem_of_getElem? (i := 162) rfl)
set_option maxRecDepth 20000 in
theorem fw_7_1 : so_Fw 7 1 := tb_i1 (List.mem_of_getElem? (i := 164) rfl)
set_option maxRecDepth 20000 in
theorem fw_7_2 : so_Fw 7 2 := tb_i1 (List.mem_of_getElem? (i := 166) rfl)
set_option maxRecDepth 20000 in
theorem fw_7_3 : so_Fw 7 3 := tb_i1 (List.mem_of_getElem? (i := 168) rfl)
set_option maxRecDepth 20000 in
theorem fw_7_4 : so_Fw 7 4 := tb_i1 (List.mem_of_getElem? (i := 170) rfl)
set_option maxRecDepth 20000 in
theorem fw_7_5 : so_Fw 7 5 := tb_i1 (List.mem_of_getElem? (i := 172) rfl)
set_option maxRecDepth 20000 in
theorem fw_7_6 : so_Fw 7 6 := tb_i1 (List.mem_of_getElem? (i := 174) rfl)
set_option maxRecDepth 20000 in
theorem fw_7_7 : so_Fw 7 7 := tb_i1 (List.mem_of_getElem? (i := 176) rfl)
theorem fw_7 : ∀ b, b < tb_N 7 → so_Fw 7 b := fun b hb => match b, hb with
  | 0, _ => fw_7_0
  | 1, _ => fw_7_1
  | 2, _ => fw_7_2
  | 3, _ => fw_7_3
  | 4, _ => fw_7_4
  | 5, _ => fw_7_5
  | 6, _ => fw_7_6
  | 7, _ => fw_7_7
  | b + 8, hb => absurd hb (by show ¬ b + 8 < 8; omega)
set_option maxRecDepth 20000 in
theorem fn_7 : ∀ b, b < tb_N 7 → ∀ k, k < tb_N 7 → b ≠ k → (tb_f 7 b).1 ≠ (tb_f 7 k).1 := by decide +kernel
set_option maxRecDepth 20000 in
theorem fd_7 : ∀ b, b < tb_N 7 → so_Fd 7 b = true := by decide +kernel
set_option maxRecDepth 20000 in
theorem cw_7 : so_Cw 7 := ⟨fw_7, fn_7, tb_i1 (List.mem_of_getElem? (i := 146) rfl), tb_i1 (List.mem_of_getElem? (i := 6) rfl), fun b hb => so_Fd_of (fd_7 b hb)⟩
set_option maxRecDepth 20000 in
theorem fw_8_0 : so_Fw 8 0 := tb_i2 (List.mem_of_getElem? (i := 166) rfl)
set_option maxRecDepth 20000 in
theorem fw_8_1 : so_Fw 8 1 := tb_i2 (List.mem_of_getElem? (i := 168) rfl)
set_option maxRecDepth 20000 in
theorem fw_8_2 : so_Fw 8 2 := tb_i2 (List.mem_of_getElem? (i := 170) rfl)
theorem fw_8 : ∀ b, b < tb_N 8 → so_Fw 8 b := fun b hb => match b, hb with
  | 0, _ => fw_8_0
  | 1, _ => fw_8_1
  | 2, _ => fw_8_2
  | b + 3, hb => absurd hb (by show ¬ b + 3 < 3; omega)
set_option maxRecDepth 20000 in
theorem fn_8 : ∀ b, b < tb_N 8 → ∀ k, k < tb_N 8 → b ≠ k → (tb_f 8 b).1 ≠ (tb_f 8 k).1 := by decide +kernel
set_option maxRecDepth 20000 in
theorem fd_8 : ∀ b, b < tb_N 8 → so_Fd 8 b = true := by decide +kernel
set_option maxRecDepth 20000 in
theorem cw_8 : so_Cw 8 := ⟨fw_8, fn_8, tb_i2 (List.mem_of_getElem? (i := 157) rfl), tb_i1 (List.mem_of_getElem? (i := 13) rfl), fun b hb => so_Fd_of (fd_8 b hb)⟩
set_option maxRecDepth 20000 in
theorem fw_9_0 : so_Fw 9 0 := tb_i2 (List.mem_of_getElem? (i := 61) rfl)
set_option maxRecDepth 20000 in
theorem fw_9_1 : so_Fw 9 1 := tb_i2 (List.mem_of_getElem? (i := 63) rfl)
set_option maxRecDepth 20000 in
theorem fw_9_2 : so_Fw 9 2 := tb_i2 (List.mem_of_getElem? (i := 65) rfl)
set_option maxRecDepth 20000 in
theorem fw_9_3 : so_Fw 9 3 := tb_i2 (List.mem_of_getElem? (i := 67) rfl)
set_option maxRecDepth 20000 in
theorem fw_9_4 : so_Fw 9 4 := tb_i2 (List.mem_of_getElem? (i := 69) rfl)
set_option maxRecDepth 20000 in
theorem fw_9_5 : so_Fw 9 5 := tb_i2 (List.mem_of_getElem? (i := 71) rfl)
set_option maxRecDepth 20000 in
theorem fw_9_6 : so_Fw 9 6 := tb_i2 (List.mem_of_getElem? (i := 73) rfl)
set_option maxRecDepth 20000 in
theorem fw_9_7 : so_Fw 9 7 := tb_i2 (List.mem_of_getElem? (i := 75) rfl)
set_option maxRecDepth 20000 in
theorem fw_9_8 : so_Fw 9 8 := tb_i2 (List.mem_of_getElem? (i := 77) rfl)
set_option maxRecDepth 20000 in
theorem fw_9_9 : so_Fw 9 9 := tb_i2 (List.mem_of_getElem? (i := 79) rfl)
theorem fw_9 : ∀ b, b < tb_N 9 → so_Fw 9 b := fun b hb => match b, hb with
  | 0, _ => fw_9_0
  | 1, _ => fw_9_1
  | 2, _ => fw_9_2
  | 3, _ => fw_9_3
  | 4, _ => fw_9_4
  | 5, _ => fw_9_5
  | 6, _ => fw_9_6
  | 7, _ => fw_9_7
  | 8, _ => fw_9_8
  | 9, _ => fw_9_9
  | b + 10, hb => absurd hb (by show ¬ b + 10 < 10; omega)
set_option maxRecDepth 20000 in
theorem fn_9 : ∀ b, b < tb_N 9 → ∀ k, k < tb_N 9 → b ≠ k → (tb_f 9 b).1 ≠ (tb_f 9 k).1 := by decide +kernel
set_option maxRecDepth 20000 in
theorem fd_9 : ∀ b, b < tb_N 9 → so_Fd 9 b = true := by decide +kernel
set_option maxRecDepth 20000 in
theorem cw_9 : so_Cw 9 := ⟨fw_9, fn_9, tb_i2 (List.mem_of_getElem? (i := 46) rfl), tb_i1 (List.mem_of_getElem? (i := 10) rfl), fun b hb => so_Fd_of (fd_9 b hb)⟩
set_option maxRecDepth 20000 in
theorem fw_10_0 : so_Fw 10 0 := tb_i2 (List.mem_of_getElem? (i := 127) rfl)
set_option maxRecDepth 20000 in
theorem fw_10_1 : so_Fw 10 1 := tb_i2 (List.mem_of_getElem? (i := 129) rfl)
set_option maxRecDepth 20000 in
theorem fw_10_2 : so_Fw 10 2 := tb_i2 (List.mem_of_getElem? (i := 131) rfl)
set_option maxRecDepth 20000 in
theorem fw_10_3 : so_Fw 10 3 := tb_i2 (List.mem_of_getElem? (i := 133) rfl)
set_option maxRecDepth 20000 in
theorem fw_10_4 : so_Fw 10 4 := tb_i2 (List.mem_of_getElem? (i := 135) rfl)
set_option maxRecDepth 20000 in
theorem fw_10_5 : so_Fw 10 5 := tb_i2 (List.mem_of_getElem? (i := 137) rfl)
set_option maxRecDepth 20000 in
theorem fw_10_6 : so_Fw 10 6 := tb_i2 (List.mem_of_getElem? (i := 139) rfl)
set_option maxRecDepth 20000 in
theorem fw_10_7 : so_Fw 10 7 := tb_i2 (List.mem_of_getElem? (i := 141) rfl)
set_option maxRecDepth 20000 in
theorem fw_10_8 : so_Fw 10 8 := tb_i2 (List.mem_of_getElem? (i := 143) rfl)
set_option maxRecDepth 20000 in
theorem fw_10_9 : so_Fw 10 9 := tb_i2 (List.mem_of_getElem? (i := 145) rfl)
set_option maxRecDepth 20000 in
theorem fw_10_10 : so_Fw 10 10 := tb_i2 (List.mem_of_getElem? (i := 147) rfl)
set_option maxRecDepth 20000 in
theorem fw_10_11 : so_Fw 10 11 := tb_i2 (List.mem_of_getElem? (i := 149) rfl)
set_option maxRecDepth 20000 in
theorem fw_10_12 : so_Fw 10 12 := tb_i2 (List.mem_of_getElem? (i := 151) rfl)
set_option maxRecDepth 20000 in
theorem fw_10_13 : so_Fw 10 13 := tb_i2 (List.mem_of_getElem? (i := 153) rfl)
theorem fw_10 : ∀ b, b < tb_N 10 → so_Fw 10 b := fun b hb => match b, hb with
  | 0, _ => fw_10_0
  | 1, _ => fw_10_1
  | 2, _ => fw_10_2
  | 3, _ => fw_10_3
  | 4, _ => fw_10_4
  | 5, _ => fw_10_5
  | 6, _ => fw_10_6
  | 7, _ => fw_10_7
  | 8, _ => fw_10_8
  | 9, _ => fw_10_9
  | 10, _ => fw_10_10
  | 11, _ => fw_10_11
  | 12, _ => fw_10_12
  | 13, _ => fw_10_13
  | b + 14, hb => absurd hb (by show ¬ b + 14 < 14; omega)
set_option maxRecDepth 20000 in
theorem fn_10 : ∀ b, b < tb_N 10 → ∀ k, k < tb_N 10 → b ≠ k → (tb_f 10 b).1 ≠ (tb_f 10 k).1 := by decide +kernel
set_option maxRecDepth 20000 in
theorem fd_10 : ∀ b, b < tb_N 10 → so_Fd 10 b = true := by decide +kernel
set_option maxRecDepth 20000 in
theorem cw_10 : so_Cw 10 := ⟨fw_10, fn_10, tb_i2 (List.mem_of_getElem? (i := 108) rfl), tb_i1 (List.mem_of_getElem? (i := 12) rfl), fun b hb => so_Fd_of (fd_10 b hb)⟩
set_option maxRecDepth 20000 in
theorem fw_11_0 : so_Fw 11 0 := tb_i1 (List.mem_of_getElem? (i := 198) rfl)
set_option maxRecDepth 20000 in
theorem fw_11_1 : so_Fw 11 1 := tb_i1 (List.mem_of_getElem? (i := 200) rfl)
set_option maxRecDepth 20000 in
theorem fw_11_2 : so_Fw 11 2 := tb_i1 (List.mem_of_getElem? (i := 202) rfl)
set_option maxRecDepth 20000 in
theorem fw_11_3 : so_Fw 11 3 := tb_i1 (List.mem_of_getElem? (i := 204) rfl)
set_option maxRecDepth 20000 in
theorem fw_11_4 : so_Fw 11 4 := tb_i1 (List.mem_of_getElem? (i := 206) rfl)
set_option maxRecDepth 20000 in
theorem fw_11_5 : so_Fw 11 5 := tb_i1 (List.mem_of_getElem? (i := 208) rfl)
set_option maxRecDepth 20000 in
theorem fw_11_6 : so_Fw 11 6 := tb_i1 (List.mem_of_getElem? (i := 210) rfl)
set_option maxRecDepth 20000 in
theorem fw_11_7 : so_Fw 11 7 := tb_i1 (List.mem_of_getElem? (i := 212) rfl)
theorem fw_11 : ∀ b, b < tb_N 11 → so_Fw 11 b := fun b hb => match b, hb with
  | 0, _ => fw_11_0
  | 1, _ => fw_11_1
  | 2, _ => fw_11_2
  | 3, _ => fw_11_3
  | 4, _ => fw_11_4
  | 5, _ => fw_11_5
  | 6, _ => fw_11_6
  | 7, _ => fw_11_7
  | b + 8, hb => absurd hb (by show ¬ b + 8 < 8; omega)
set_option maxRecDepth 20000 in
theorem fn_11 : ∀ b, b < tb_N 11 → ∀ k, k < tb_N 11 → b ≠ k → (tb_f 11 b).1 ≠ (tb_f 11 k).1 := by decide +kernel
set_option maxRecDepth 20000 in
theorem fd_11 : ∀ b, b < tb_N 11 → so_Fd 11 b = true := by decide +kernel
set_option maxRecDepth 20000 in
theorem cw_11 : so_Cw 11 := ⟨fw_11, fn_11, tb_i1 (List.mem_of_getElem? (i := 180) rfl), tb_i1 (List.mem_of_getElem? (i := 7) rfl), fun b hb => so_Fd_of (fd_11 b hb)⟩
set_option maxRecDepth 20000 in
theorem fw_12_0 : so_Fw 12 0 := tb_i7 (List.mem_of_getElem? (i := 166) rfl)
set_option maxRecDepth 20000 in
theorem fw_12_1 : so_Fw 12 1 := tb_i7 (List.mem_of_getElem? (i := 168) rfl)
set_option maxRecDepth 20000 in
theorem fw_12_2 : so_Fw 12 2 := tb_i7 (List.mem_of_getElem? (i := 170) rfl)
set_option maxRecDepth 20000 in
theorem fw_12_3 : so_Fw 12 3 := tb_i7 (List.mem_of_getElem? (i := 172) rfl)
set_option maxRecDepth 20000 in
theorem fw_12_4 : so_Fw 12 4 := tb_i7 (List.mem_of_getElem? (i := 174) rfl)
set_option maxRecDepth 20000 in
theorem fw_12_5 : so_Fw 12 5 := tb_i7 (List.mem_of_getElem? (i := 176) rfl)
set_option maxRecDepth 20000 in
theorem fw_12_6 : so_Fw 12 6 := tb_i7 (List.mem_of_getElem? (i := 178) rfl)
set_option maxRecDepth 20000 in
theorem fw_12_7 : so_Fw 12 7 := tb_i7 (List.mem_of_getElem? (i := 180) rfl)
set_option maxRecDepth 20000 in
theorem fw_12_8 : so_Fw 12 8 := tb_i7 (List.mem_of_getElem? (i := 182) rfl)
set_option maxRecDepth 20000 in
theorem fw_12_9 : so_Fw 12 9 := tb_i7 (List.mem_of_getElem? (i := 184) rfl)
set_option maxRecDepth 20000 in
theorem fw_12_10 : so_Fw 12 10 := tb_i7 (List.mem_of_getElem? (i := 186) rfl)
set_option maxRecDepth 20000 in
theorem fw_12_11 : so_Fw 12 11 := tb_i7 (List.mem_of_getElem? (i := 188) rfl)
set_option maxRecDepth 20000 in
theorem fw_12_12 : so_Fw 12 12 := tb_i7 (List.mem_of_getElem? (i := 190) rfl)
set_option maxRecDepth 20000 in
theorem fw_12_13 : so_Fw 12 13 := tb_i7 (List.mem_of_getElem? (i := 192) rfl)
set_option maxRecDepth 20000 in
theorem fw_12_14 : so_Fw 12 14 := tb_i7 (List.mem_of_getElem? (i := 194) rfl)
set_option maxRecDepth 20000 in
theorem fw_12_15 : so_Fw 12 15 := tb_i7 (List.mem_of_getElem? (i := 196) rfl)
set_option maxRecDepth 20000 in
theorem fw_12_16 : so_Fw 12 16 := tb_i7 (List.mem_of_getElem? (i := 198) rfl)
set_option maxRecDepth 20000 in
theorem fw_12_17 : so_Fw 12 17 := tb_i7 (List.mem_of_getElem? (i := 200) rfl)
set_option maxRecDepth 20000 in
theorem fw_12_18 : so_Fw 12 18 := tb_i7 (List.mem_of_getElem? (i := 202) rfl)
set_option maxRecDepth 20000 in
theorem fw_12_19 : so_Fw 12 19 := tb_i7 (List.mem_of_getElem? (i := 204) rfl)
set_option maxRecDepth 20000 in
theorem fw_12_20 : so_Fw 12 20 := tb_i7 (List.mem_of_getElem? (i := 206) rfl)
set_option maxRecDepth 20000 in
theorem fw_12_21 : so_Fw 12 21 := tb_i7 (List.mem_of_getElem? (i := 208) rfl)
set_option maxRecDepth 20000 in
theorem fw_12_22 : so_Fw 12 22 := tb_i7 (List.mem_of_getElem? (i := 210) rfl)
set_option maxRecDepth 20000 in
theorem fw_12_23 : so_Fw 12 23 := tb_i7 (List.mem_of_getElem? (i := 212) rfl)
set_option maxRecDepth 20000 in
theorem fw_12_24 : so_Fw 12 24 := tb_i7 (List.mem_of_getElem? (i := 214) rfl)
set_option maxRecDepth 20000 in
theorem fw_12_25 : so_Fw 12 25 := tb_i7 (List.mem_of_getElem? (i := 216) rfl)
set_option maxRecDepth 20000 in
theorem fw_12_26 : so_Fw 12 26 := tb_i7 (List.mem_of_getElem? (i := 218) rfl)
set_option maxRecDepth 20000 in
theorem fw_12_27 : so_Fw 12 27 := tb_i7 (List.mem_of_getElem? (i := 220) rfl)
set_option maxRecDepth 20000 in
theorem fw_12_28 : so_Fw 12 28 := tb_i7 (List.mem_of_getElem? (i := 222) rfl)
set_option maxRecDepth 20000 in
theorem fw_12_29 : so_Fw 12 29 := tb_i7 (List.mem_of_getElem? (i := 224) rfl)
set_option maxRecDepth 20000 in
theorem fw_12_30 : so_Fw 12 30 := tb_i7 (List.mem_of_getElem? (i := 226) rfl)
set_option maxRecDepth 20000 in
theorem fw_12_31 : so_Fw 12 31 := tb_i7 (List.mem_of_getElem? (i := 228) rfl)
set_option maxRecDepth 20000 in
theorem fw_12_32 : so_Fw 12 32 := tb_i7 (List.mem_of_getElem? (i := 230) rfl)
set_option maxRecDepth 20000 in
theorem fw_12_33 : so_Fw 12 33 := tb_i7 (List.mem_of_getElem? (i := 232) rfl)
set_option maxRecDepth 20000 in
theorem fw_12_34 : so_Fw 12 34 := tb_i7 (List.mem_of_getElem? (i := 234) rfl)
set_option maxRecDepth 20000 in
theorem fw_12_35 : so_Fw 12 35 := tb_i7 (List.mem_of_getElem? (i := 236) rfl)
set_option maxRecDepth 20000 in
theorem fw_12_36 : so_Fw 12 36 := tb_i7 (List.mem_of_getElem? (i := 238) rfl)
set_option maxRecDepth 20000 in
theorem fw_12_37 : so_Fw 12 37 := tb_i8 (List.mem_of_getElem? (i := 0) rfl)
set_option maxRecDepth 20000 in
theorem fw_12_38 : so_Fw 12 38 := tb_i8 (List.mem_of_getElem? (i := 2) rfl)
set_option maxRecDepth 20000 in
theorem fw_12_39 : so_Fw 12 39 := tb_i8 (List.mem_of_getElem? (i := 4) rfl)
set_option maxRecDepth 20000 in
theorem fw_12_40 : so_Fw 12 40 := tb_i8 (List.mem_of_getElem? (i := 6) rfl)
set_option maxRecDepth 20000 in
theorem fw_12_41 : so_Fw 12 41 := tb_i8 (List.mem_of_getElem? (i := 8) rfl)
set_option maxRecDepth 20000 in
theorem fw_12_42 : so_Fw 12 42 := tb_i8 (List.mem_of_getElem? (i := 10) rfl)
set_option maxRecDepth 20000 in
theorem fw_12_43 : so_Fw 12 43 := tb_i8 (List.mem_of_getElem? (i := 12) rfl)
set_option maxRecDepth 20000 in
theorem fw_12_44 : so_Fw 12 44 := tb_i8 (List.mem_of_getElem? (i := 14) rfl)
set_option maxRecDepth 20000 in
theorem fw_12_45 : so_Fw 12 45 := tb_i8 (List.mem_of_getElem? (i := 16) rfl)
set_option maxRecDepth 20000 in
theorem fw_12_46 : so_Fw 12 46 := tb_i8 (List.mem_of_getElem? (i := 18) rfl)
set_option maxRecDepth 20000 in
theorem fw_12_47 : so_Fw 12 47 := tb_i8 (List.mem_of_getElem? (i := 20) rfl)
set_option maxRecDepth 20000 in
theorem fw_12_48 : so_Fw 12 48 := tb_i8 (List.mem_of_getElem? (i := 22) rfl)
set_option maxRecDepth 20000 in
theorem fw_12_49 : so_Fw 12 49 := tb_i8 (List.mem_of_getElem? (i := 24) rfl)
set_option maxRecDepth 20000 in
theorem fw_12_50 : so_Fw 12 50 := tb_i8 (List.mem_of_getElem? (i := 26) rfl)
set_option maxRecDepth 20000 in
theorem fw_12_51 : so_Fw 12 51 := tb_i8 (List.mem_of_getElem? (i := 28) rfl)
set_option maxRecDepth 20000 in
theorem fw_12_52 : so_Fw 12 52 := tb_i8 (List.mem_of_getElem? (i := 30) rfl)
set_option maxRecDepth 20000 in
theorem fw_12_53 : so_Fw 12 53 := tb_i8 (List.mem_of_getElem? (i := 32) rfl)
set_option maxRecDepth 20000 in
theorem fw_12_54 : so_Fw 12 54 := tb_i8 (List.mem_of_getElem? (i := 34) rfl)
set_option maxRecDepth 20000 in
theorem fw_12_55 : so_Fw 12 55 := tb_i8 (List.mem_of_getElem? (i := 36) rfl)
set_option maxRecDepth 20000 in
theorem fw_12_56 : so_Fw 12 56 := tb_i8 (List.mem_of_getElem? (i := 38) rfl)
set_option maxRecDepth 20000 in
theorem fw_12_57 : so_Fw 12 57 := tb_i8 (List.mem_of_getElem? (i := 40) rfl)
set_option maxRecDepth 20000 in
theorem fw_12_58 : so_Fw 12 58 := tb_i8 (List.mem_of_getElem? (i := 42) rfl)
set_option maxRecDepth 20000 in
theorem fw_12_59 : so_Fw 12 59 := tb_i8 (List.mem_of_getElem? (i := 44) rfl)
set_option maxRecDepth 20000 in
theorem fw_12_60 : so_Fw 12 60 := tb_i8 (List.mem_of_getElem? (i := 46) rfl)
set_option maxRecDepth 20000 in
theorem fw_12_61 : so_Fw 12 61 := tb_i8 (List.mem_of_getElem? (i := 48) rfl)
set_option maxRecDepth 20000 in
theorem fw_12_62 : so_Fw 12 62 := tb_i8 (List.mem_of_getElem? (i := 50) rfl)
set_option maxRecDepth 20000 in
theorem fw_12_63 : so_Fw 12 63 := tb_i8 (List.mem_of_getElem? (i := 52) rfl)
set_option maxRecDepth 20000 in
theorem fw_12_64 : so_Fw 12 64 := tb_i8 (List.mem_of_getElem? (i := 54) rfl)
set_option maxRecDepth 20000 in
theorem fw_12_65 : so_Fw 12 65 := tb_i8 (List.mem_of_getElem? (i := 56) rfl)
set_option maxRecDepth 20000 in
theorem fw_12_66 : so_Fw 12 66 := tb_i8 (List.mem_of_getElem? (i := 58) rfl)
set_option maxRecDepth 20000 in
theorem fw_12_67 : so_Fw 12 67 := tb_i8 (List.mem_of_getElem? (i := 60) rfl)
set_option maxRecDepth 20000 in
theorem fw_12_68 : so_Fw 12 68 := tb_i8 (List.mem_of_getElem? (i := 62) rfl)
set_option maxRecDepth 20000 in
theorem fw_12_69 : so_Fw 12 69 := tb_i8 (List.mem_of_getElem? (i := 64) rfl)
set_option maxRecDepth 20000 in
theorem fw_12_70 : so_Fw 12 70 := tb_i8 (List.mem_of_getElem? (i := 66) rfl)
set_option maxRecDepth 20000 in
theorem fw_12_71 : so_Fw 12 71 := tb_i8 (List.mem_of_getElem? (i := 68) rfl)
set_option maxRecDepth 20000 in
theorem fw_12_72 : so_Fw 12 72 := tb_i8 (List.mem_of_getElem? (i := 70) rfl)
set_option maxRecDepth 20000 in
theorem fw_12_73 : so_Fw 12 73 := tb_i8 (List.mem_of_getElem? (i := 72) rfl)
set_option maxRecDepth 20000 in
theorem fw_12_74 : so_Fw 12 74 := tb_i8 (List.mem_of_getElem? (i := 74) rfl)
theorem fw_12 : ∀ b, b < tb_N 12 → so_Fw 12 b := fun b hb => match b, hb with
  | 0, _ => fw_12_0
  | 1, _ => fw_12_1
  | 2, _ => fw_12_2
  | 3, _ => fw_12_3
  | 4, _ => fw_12_4
  | 5, _ => fw_12_5
  | 6, _ => fw_12_6
  | 7, _ => fw_12_7
  | 8, _ => fw_12_8
  | 9, _ => fw_12_9
  | 10, _ => fw_12_10
  | 11, _ => fw_12_11
  | 12, _ => fw_12_12
  | 13, _ => fw_12_13
  | 14, _ => fw_12_14
  | 15, _ => fw_12_15
  | 16, _ => fw_12_16
  | 17, _ => fw_12_17
  | 18, _ => fw_12_18
  | 19, _ => fw_12_19
  | 20, _ => fw_12_20
  | 21, _ => fw_12_21
  | 22, _ => fw_12_22
  | 23, _ => fw_12_23
  | 24, _ => fw_12_24
  | 25, _ => fw_12_25
  | 26, _ => fw_12_26
  | 27, _ => fw_12_27
  | 28, _ => fw_12_28
  | 29, _ => fw_12_29
  | 30, _ => fw_12_30
  | 31, _ => fw_12_31
  | 32, _ => fw_12_32
  | 33, _ => fw_12_33
  | 34, _ => fw_12_34
  | 35, _ => fw_12_35
  | 36, _ => fw_12_36
  | 37, _ => fw_12_37
  | 38, _ => fw_12_38
  | 39, _ => fw_12_39
  | 40, _ => fw_12_40
  | 41, _ => fw_12_41
  | 42, _ => fw_12_42
  | 43, _ => fw_12_43
  | 44, _ => fw_12_44
  | 45, _ => fw_12_45
  | 46, _ => fw_12_46
  | 47, _ => fw_12_47
  | 48, _ => fw_12_48
  | 49, _ => fw_12_49
  | 50, _ => fw_12_50
  | 51, _ => fw_12_51
  | 52, _ => fw_12_52
  | 53, _ => fw_12_53
  | 54, _ => fw_12_54
  | 55, _ => fw_12_55
  | 56, _ => fw_12_56
  | 57, _ => fw_12_57
  | 58, _ => fw_12_58
  | 59, _ => fw_12_59
  | 60, _ => fw_12_60
  | 61, _ => fw_12_61
  | 62, _ => fw_12_62
  | 63, _ => fw_12_63
  | 64, _ => fw_12_64
  | 65, _ => fw_12_65
  | 66, _ => fw_12_66
  | 67, _ => fw_12_67
  | 68, _ => fw_12_68
  | 69, _ => fw_12_69
  | 70, _ => fw_12_70
  | 71, _ => fw_12_71
  | 72, _ => fw_12_72
  | 73, _ => fw_12_73
  | 74, _ => fw_12_74
  | b + 75, hb => absurd hb (by show ¬ b + 75 < 75; omega)
set_option maxRecDepth 20000 in
theorem fn_12 : ∀ b, b < tb_N 12 → ∀ k, k < tb_N 12 → b ≠ k → (tb_f 12 b).1 ≠ (tb_f 12 k).1 := by decide +kernel
set_option maxRecDepth 20000 in
theorem fd_12 : ∀ b, b < tb_N 12 → so_Fd 12 b = true := by decide +kernel
set_option maxRecDepth 20000 in
theorem cw_12 : so_Cw 12 := ⟨fw_12, fn_12, tb_i7 (List.mem_of_getElem? (i := 86) rfl), tb_i1 (List.mem_of_getElem? (i := 14) rfl), fun b hb => so_Fd_of (fd_12 b hb)⟩
theorem cw_all : ∀ a, a < 13 → so_Cw a := fun a ha => match a, ha with
  | 0, _ => cw_0
  | 1, _ => cw_1
  | 2, _ => cw_2
  | 3, _ => cw_3
  | 4, _ => cw_4
  | 5, _ => cw_5
  | 6, _ => cw_6
  | 7, _ => cw_7
  | 8, _ => cw_8
  | 9, _ => cw_9
  | 10, _ => cw_10
  | 11, _ => cw_11
  | 12, _ => cw_12
  | a + 13, ha => absurd ha (by omega)
set_option maxRecDepth 20000 in
theorem xw_14 : Cond.instantiable (tb_RN 14) 6 ∈ lw_tbl ∧ Cond.initialized (tb_RN 14) ∈ lw_tbl := ⟨tb_i2 (List.mem_of_getElem? (i := 229) rfl), tb_i1 (List.mem_of_getElem? (i := 18) rfl)⟩
set_option maxRecDepth 20000 in
theorem xw_15 : Cond.instantiable (tb_RN 15) 6 ∈ lw_tbl ∧ Cond.initialized (tb_RN 15) ∈ lw_tbl := ⟨tb_i3 (List.mem_of_getElem? (i := 68) rfl), tb_i1 (List.mem_of_getElem? (i := 19) rfl)⟩
set_option maxRecDepth 20000 in
theorem xw_16 : Cond.instantiable (tb_RN 16) 6 ∈ lw_tbl ∧ Cond.initialized (tb_RN 16) ∈ lw_tbl := ⟨tb_i6 (List.mem_of_getElem? (i := 167) rfl), tb_i1 (List.mem_of_getElem? (i := 28) rfl)⟩
set_option maxRecDepth 20000 in
theorem aw_byte : Cond.arrayClass .byte ∈ lw_tbl := tb_i1 (List.mem_of_getElem? (i := 50) rfl)
set_option maxRecDepth 20000 in
theorem aw_int : Cond.arrayClass .int ∈ lw_tbl := tb_i1 (List.mem_of_getElem? (i := 51) rfl)
set_option maxRecDepth 20000 in
theorem aw_long : Cond.arrayClass .long ∈ lw_tbl := tb_i1 (List.mem_of_getElem? (i := 93) rfl)
set_option maxRecDepth 20000 in
theorem aw_boolean : Cond.arrayClass .boolean ∈ lw_tbl := tb_i8 (List.mem_of_getElem? (i := 77) rfl)
/-! WHAT STANDS AT EVERY INVOCATION; the heap's instructions by their tables. -/
theorem so_words {s U : State} {args a' : Array Value} (hW : s.WarmedH U.vm) (hts : ∀ w ∈ lw_tbl, so_gw w = true → w.before args s = true) : ∀ w ∈ lw_tbl, so_gw w = true → w.before a' U = true := by
  intro w hw h1
  have h2 := hts w hw h1
  unfold so_gw at h1
  rw [Bool.or_eq_true] at h1
  rcases h1 with h1 | h1
  · exact word_at hW (good_of_word h1) h2
  · cases w with
    | fieldLinkNest a b d n k q => exact (va_Nw.warmF hW (va_Nw.of rfl h2)).use rfl
    | methodLinkNest a b d n => exact (va_Nw.warmM hW (va_Nw.of rfl h2)).use rfl
    | castable a b => exact (va_Nw.warmC hW (va_Nw.of rfl h2)).use rfl
    | declares a => exact (va_Nw.warmD hW (va_Nw.of rfl h2)).use rfl
    | _ => cases h1
/-- the state at the start, where every word holds -/
def so_Src (s : State) (H0 : Heap) : Prop := ∃ (s0 : State) (a0 : Array Value), s0.WarmedH s.vm ∧ s0.heap = H0 ∧ (∀ w ∈ lw_tbl, w.before a0 s0 = true) ∧
  (Cond.isRef (.static "java/lang/Throwable" "UNASSIGNED_STACK" "[Ljava/lang/StackTraceElement;")).before a0 s0 = true ∧ (Cond.isRef (.static "java/lang/Throwable" "SUPPRESSED_SENTINEL" "Ljava/util/List;")).before a0 s0 = true
theorem so_Src.warm {s U : State} {H0 : Heap} (hW : s.WarmedH U.vm) (h : so_Src s H0) : so_Src U H0 := by
  obtain ⟨s0, a0, h1, h2⟩ := h
  exact ⟨s0, a0, State.WarmedH.trans h1 hW, h2⟩
/-- the old cells that are read: statics, strings; the three exceptions are no kin -/
def so_Old (s : State) (ad : Nat → Option Nat) (H0 : Heap) : Prop :=
  va_Z "MachineText" "LEVELS" "[I" (so_v ad (.inr (.inr (some 1)))) (fun q => H0.size ≤ q) s H0 ∧
  va_Z "java/lang/String" "COMPACT_STRINGS" "Z" (.int 1) (fun q => H0.size ≤ q) s H0 ∧
  va_Z "jdk/internal/util/Preconditions" "SIOOBE_FORMATTER" "Ljava/util/function/BiFunction;" (so_v ad (.inr (.inr (some 26)))) (fun q => H0.size ≤ q) s H0 ∧
  so_Src s H0 ∧
  (∀ b, 2 ≤ b → b < 26 → b ≠ 3 → b ≠ 5 → ∃ r, ad b = some r ∧ vk_R (tb_RN (tb_st.getD b (0, 0, "")).1) (tb_st.getD b (0, 0, "")).2.1 (tb_st.getD b (0, 0, "")).2.2 r s) ∧
  (∀ x y, 14 ≤ x → x < 17 → 14 ≤ y → y < 17 → x ≠ y → va_Nc (tb_RN x) (tb_RN y) s)
theorem so_Old.warm {s U : State} {ad : Nat → Option Nat} {H0 : Heap} (hW : s.WarmedH U.vm) (h : so_Old s ad H0) : so_Old U ad H0 := by
  obtain ⟨h1, h2, h3, h4, h6, h7⟩ := h
  refine ⟨h1.moved hW.alike, h2.moved hW.alike, h3.moved hW.alike, h4.warm hW, fun b q1 q2 q3 q4 => ?_, fun x y q1 q2 q3 q4 q5 => (h7 x y q1 q2 q3 q4 q5).moved hW.alike⟩
  obtain ⟨r, g1, g2⟩ := h6 b q1 q2 q3 q4
  exact ⟨r, g1, g2.warm hW⟩
/-- an invocation of the method y -/
def so_Ctx (p : Program) (e : Env) (s : State) (m : MethodId) (args : Array Value) (meth : Method) (c : Code) (ad : Nat → Option Nat) (H0 : Heap) (y : Nat) : Prop :=
  p.tables.exec = Jvm.exec ∧ c.code = tb_bytes y ∧ c.maxLocals = (tb_M y).2.1 ∧ s.vm.findClass (tb_RN (tb_M y).1) = some m.cls ∧ meth.sig.returnType = tb_rt' (tb_M y).2.2.1 ∧ meth.locks = false ∧ ((tb_M y).2.2.2.1 = true → meth.name = "<init>") ∧
  c.exceptionTable.toList = (tb_M y).2.2.2.2.1.map (fun q => ⟨q.1, q.2.1, q.2.2.1, q.2.2.2.1⟩) ∧ e.platform.stackTraces = false ∧ (∀ w ∈ lw_tbl, so_gw w = true → w.before args s = true) ∧ so_AD ad H0.size ∧ so_Old s ad H0 ∧ tb_mok y = true
theorem so_lk {c : Nat} {r : Nat × Nat × Nat × Nat × Nat × Int} (h : tb_k c r = true) : lk_ok r := lk_all r (List.mem_of_getElem? (of_decide_eq_true h))
theorem so_all {cls : Nat} {init : Bool} {bytes : ByteArray} : ∀ (t : List (Option ax_E)) (k pc : Nat) (x : ax_E), tb_all cls init bytes t k = true → ax_at t pc = some x → tb_d bytes (k + pc) x.1 = true ∧ tb_l cls init x = true := by
  intro t
  induction t with
  | nil => intro k pc x _ h; cases h
  | cons a r ih =>
    intro k pc x hall h
    cases pc with
    | zero =>
      have h : a = some x := h
      subst h
      simp only [tb_all, Bool.and_eq_true] at hall
      exact hall.1
    | succ n =>
      have h : ax_at r n = some x := h
      have h2 : tb_all cls init bytes r (k + 1) = true := by
        cases a with
        | none => exact hall
        | some w => simp only [tb_all, Bool.and_eq_true] at hall; exact hall.2
      have := ih (k + 1) n x h2 h
      rw [show k + 1 + n = k + (n + 1) by omega] at this
      exact this
theorem so_dec {bytes : ByteArray} {pc : Nat} {i : Instr} (h : tb_d bytes pc i = true) : ∃ n, decode bytes pc = .ok (i, n) ∧ (ax_sw i = false → n = ax_len i) ∧ ax_fine i = true ∧ ax_jok i pc = true := by
  unfold tb_d at h
  cases hd : decode bytes pc with
  | error x => rw [hd] at h; cases h
  | ok q =>
    obtain ⟨j, n⟩ := q
    rw [hd] at h
    simp only [Bool.and_eq_true, Bool.or_eq_true, decide_eq_true_eq, beq_iff_eq] at h
    obtain ⟨⟨⟨h1, h2⟩, h3⟩, h4⟩ := h
    subst h1
    refine ⟨n, rfl, fun q => ?_, h3, h4⟩
    rcases h2 with h2 | h2
    · rw [q] at h2; cases h2
    · exact h2
section SOK
variable {p : Program} {l : Launch} {e : Env} {R : Room} {s : State} {m : MethodId} {args : Array Value} {below : List Frame} {meth : Method} {c : Code} {H : Heap} {locs : List Loc} {cells slots : Nat} {Q : State → Prop}
variable {pc y : Nat} {lsA : Array Slot} {st st' : List ax_V} {ad : Nat → Option Nat} {h h' : ax_H} {H0 : Heap}
theorem so_gets {C n d : String} {v : Value} {index : Nat} {rest : List Value} {host : Option String} (X : so_Ctx p e s m args meth c ad H0 y) (hR : so_Rel s ad H0 h H) (hZ : va_Z C n d v (fun q => H0.size ≤ q) s H0) (hlink : match host with
      | none => (Cond.fieldLink (tb_RN (tb_M y).1) index C n d).before args s = true
      | some q => (Cond.fieldLinkNest (tb_RN (tb_M y).1) index C n d q).before args s = true) (hdg : decode (tb_bytes y) pc = .ok (.getstatic index, 3))
    (kk : W p l e R s m args below meth c H locs cells slots Q (F0 m (pc + 3) lsA (v :: rest))) : W p l e R s m args below meth c H locs cells slots Q (F0 m pc lsA rest) := by
  obtain ⟨cf, kf, fi, f, a, cell, h1, h2, h3, h4, h5, h6, h7, h8⟩ := hZ
  have h9 : H[a]? = some cell := by rw [hR.2.1 a (Array.getElem?_eq_some_iff.mp h5).1]; exact h5
  cases host with
  | none => exact W.gets X.1 X.2.1 X.2.2.2.1 hlink h1 h2 h3 h4 h9 (fun e => by rw [e] at h6; cases h6) h7 rfl hdg kk
  | some q => exact va_WgetsN X.1 X.2.1 X.2.2.2.1 hlink h1 h2 h3 h4 h9 (fun e => by rw [e] at h6; cases h6) h7 rfl hdg kk
end SOK
/-! ANY INSTRUCTION OF THE HEAP. -/
theorem so_w0 {n m : Nat} (k : Nat) (e : n = m) : k + (n - m) = k := by omega
theorem so_rest.len {h : ax_H} (hr : so_rest h) (a : Nat) : so_ok (.inl ((ax_kd h a).2 : Int)) := by
  have h1 := hr.2.1 a
  show (Int32.ofInt ((ax_kd h a).2 : Int)).toInt = _
  exact nI_toInt h1
theorem so_w8 {z : Int} (hz : (Int32.ofInt z).toInt = z) : narrow .byte (.int (Int32.ofInt z)) = .int (Int32.ofInt (ax_w8 z)) ∧ (Int32.ofInt (ax_w8 z)).toInt = ax_w8 z ∧ -128 ≤ ax_w8 z ∧ ax_w8 z < 128 := by
  obtain ⟨h1, h2⟩ := so_i2b hz
  refine ⟨by rw [narrow_byte, h1], h2, ?_, ?_⟩
  · unfold ax_w8; rw [Int.bmod_def]; split <;> omega
  · unfold ax_w8; rw [Int.bmod_def]; split <;> omega
theorem so_Nlt : ∀ a, a < 13 → tb_N a < 2 ^ 31 := by decide +kernel
theorem so_xw (b : Nat) (h1 : 14 ≤ b) (h2 : b < 17) : Cond.instantiable (tb_RN b) 6 ∈ lw_tbl ∧ Cond.initialized (tb_RN b) ∈ lw_tbl := by
  rcases (show b = 14 ∨ b = 15 ∨ b = 16 by omega) with q | q | q <;> subst q
  · exact xw_14
  · exact xw_15
  · exact xw_16
section SON
variable {p : Program} {l : Launch} {e : Env} {R : Room} {s : State} {m : MethodId} {args : Array Value} {below : List Frame} {meth : Method} {c : Code} {H : Heap} {locs : List Loc} {cells slots : Nat} {Q : State → Prop}
variable {pc y : Nat} {lsA : Array Slot} {st st' : List ax_V} {ad : Nat → Option Nat} {h h' : ax_H} {H0 : Heap}
set_option maxHeartbeats 4000000 in
theorem so_heap {i : Instr} {a b k : Nat} {d : Int} (X : so_Ctx p e s m args meth c ad H0 y) (hR : so_Rel s ad H0 h H) (hlo : ∀ q ∈ locs, H0.size ≤ q.base) (okS : so_okS st) (hat : ax_at (tb_M y).2.2.2.2.2 pc = some (i, a, b, k, d)) (h1 : ax_heap i a b d st h = some (st', h'))
    (hcells : cells + (h'.1 - h.1) ≤ R.cells) (hslots : slots + (h'.2.1 - h.2.1) ≤ R.slots)
    (kk : ∀ (H' : Heap) (locs' : List Loc), so_Rel s ad H0 h' H' → (∀ q ∈ locs', H0.size ≤ q.base) → so_okS st' → W p l e R s m args below meth c H' locs' (cells + (h'.1 - h.1)) (slots + (h'.2.1 - h.2.1)) Q (F0 m (pc + ax_len i) lsA (st'.map (so_v ad)))) :
    W p l e R s m args below meth c H locs cells slots Q (F0 m pc lsA (st.map (so_v ad))) := by
  obtain ⟨x1, x2, x3, x4, x5, x6, x7, x8, x9, x10, x11, x12, x13⟩ := id X
  have hmok := x13
  unfold tb_mok at hmok
  rw [Bool.and_eq_true] at hmok
  obtain ⟨htd, htl⟩ := so_all _ 0 pc _ hmok.1 hat
  rw [Nat.zero_add] at htd
  obtain ⟨n, hdg, hn, hfine, -⟩ := so_dec htd
  -- nothing is made
  have kk0 : h'.1 = h.1 → h'.2.1 = h.2.1 → ∀ (H' : Heap) (locs' : List Loc), so_Rel s ad H0 h' H' → (∀ q ∈ locs', H0.size ≤ q.base) → so_okS st' → W p l e R s m args below meth c H' locs' cells slots Q (F0 m (pc + ax_len i) lsA (st'.map (so_v ad))) := by
    intro e1 e2 H' locs' g1 g2 g3
    have := kk H' locs' g1 g2 g3
    rwa [so_w0 cells e1, so_w0 slots e2] at this
  cases i with
  | getfield idx =>
    cases hn rfl
    simp only [tb_l, Bool.and_eq_true, decide_eq_true_eq] at htl
    obtain ⟨⟨t1, t2⟩, t3⟩ := htl
    simp only [ax_heap] at h1
    split at h1
    · rename_i o r
      split at h1
      · rename_i hk
        split at h1
        · rename_i v hv
          cases h1
          refine so_getf x1 x2 x4 hR hk t2 hv ?_ hdg (kk0 rfl rfl H locs hR hlo (so_okS.cons (so_fvo hR.2.2.2.1 hk rfl hv) okS.tl))
          have t4 := so_lk t3
          by_cases hd : d = 0
          · rw [if_pos hd] at t4
            exact Or.inl (x10 _ t4 rfl)
          · rw [if_neg hd] at t4
            exact Or.inr ⟨_, x10 _ t4 rfl⟩
        · cases h1
      · cases h1
    · cases h1
  | putfield idx =>
    cases hn rfl
    simp only [tb_l, Bool.and_eq_true, decide_eq_true_eq, Bool.or_eq_true, Bool.not_eq_true', beq_iff_eq] at htl
    obtain ⟨⟨⟨t1, t2⟩, t3⟩, t5⟩ := htl
    simp only [ax_heap] at h1
    split at h1
    · rename_i v o r
      split at h1
      · rename_i hk
        split at h1
        · rename_i h2 hv
          cases h1
          have e0 : h'.1 = h.1 ∧ h'.2.1 = h.2.1 := by
            obtain ⟨-, ⟨z, rfl, -⟩ | ⟨x, rfl⟩⟩ := so_pf (ad := ad) (a := a) rfl hv <;> exact ⟨rfl, rfl⟩
          have t4 := so_lk t3
          refine so_putf x1 x2 x4 x10 (cw_all a t1) x11 hR hlo hk.1 hk.2 t2 hv okS.hd ?_ (fun hf => ?_) hdg (fun H' locs' g1 g2 => kk0 e0.1 e0.2 H' locs' g1 g2 okS.tl.tl)
          · by_cases hd : d = 0
            · rw [if_pos hd] at t4
              exact Or.inl (x10 _ t4 rfl)
            · rw [if_neg hd] at t4
              exact Or.inr ⟨_, x10 _ t4 rfl⟩
          · rcases t5 with t5 | ⟨⟨t5, t6⟩, t7⟩
            · rw [hf] at t5; cases t5
            · rw [if_pos t7] at t4
              exact ⟨by rw [t6], x7 t5, x10 _ t4 rfl⟩
        · cases h1
      · cases h1
    · cases h1
  | getstatic idx =>
    cases hn rfl
    simp only [tb_l, Bool.and_eq_true, Bool.or_eq_true, beq_iff_eq] at htl
    simp only [ax_heap] at h1
    cases h1
    rcases htl with (⟨⟨t1, t2⟩, t3⟩ | ⟨⟨t1, t2⟩, t3⟩) | ⟨⟨t1, t2⟩, t3⟩
    · subst t1; subst t2
      exact so_gets (host := some "MachineText") X hR x12.1 (x10 _ (so_lk t3) rfl) hdg (kk0 rfl rfl H locs hR hlo (so_okS.cons trivial okS))
    · subst t1; subst t2
      exact so_gets (host := none) X hR x12.2.1 (x10 _ (so_lk t3) rfl) hdg (kk0 rfl rfl H locs hR hlo (so_okS.cons rfl okS))
    · subst t1; subst t2
      exact so_gets (host := none) X hR x12.2.2.1 (x10 _ (so_lk t3) rfl) hdg (kk0 rfl rfl H locs hR hlo (so_okS.cons trivial okS))
  | ldc idx =>
    cases hn rfl
    simp only [tb_l] at htl
    simp only [ax_heap] at h1
    cases h1
    by_cases ha : a = 0
    · rw [if_pos ha] at htl
      simp only [Bool.and_eq_true, decide_eq_true_eq] at htl
      rw [if_pos ha] at kk0
      exact lv_ldc x1 x2 x4 (x10 _ (so_lk htl.1) rfl) hdg (kk0 rfl rfl H locs hR hlo (so_okS.cons htl.2 okS))
    · rw [if_neg ha] at htl
      simp only [Bool.and_eq_true, decide_eq_true_eq] at htl
      obtain ⟨⟨⟨⟨⟨⟨t1, t2⟩, hb3⟩, hb5⟩, t3⟩, t4⟩, t5⟩ := htl
      rw [if_neg ha] at kk0
      obtain ⟨r, g1, g2⟩ := x12.2.2.2.2.1 b t1 t2 hb3 hb5
      rw [t3, t4] at g2
      have e1 : so_v ad (.inr (.inr (some b))) = .ref r := by show va_rf (ad b) = _; rw [g1]; rfl
      have := kk0 rfl rfl H locs hR hlo (so_okS.cons trivial okS)
      rw [List.map_cons, e1] at this
      exact va_ldcS x1 x2 x4 g2 hdg this
  | ldc_w idx =>
    cases hn rfl
    simp only [tb_l, Bool.and_eq_true, decide_eq_true_eq] at htl
    simp only [ax_heap] at h1
    cases h1
    rw [if_pos htl.1.1] at kk0
    exact lv_ldcw x1 x2 x4 (x10 _ (so_lk htl.1.2) rfl) hdg (kk0 rfl rfl H locs hR hlo (so_okS.cons htl.2 okS))
  | ldc2_w idx =>
    cases hn rfl
    simp only [tb_l, Bool.and_eq_true, decide_eq_true_eq] at htl
    simp only [ax_heap] at h1
    cases h1
    exact lv_ldc2 x1 x2 x4 (x10 _ (so_lk htl.1) rfl) hdg (kk0 rfl rfl H locs hR hlo (so_okS.cons htl.2 okS))
  | arraylength =>
    cases hn rfl
    simp only [ax_heap] at h1
    split at h1
    · rename_i o r
      split at h1
      · rename_i hk
        cases h1
        exact so_alen x1 x2 hR hk hdg (kk0 rfl rfl H locs hR hlo (so_okS.cons (hR.2.2.2.2.len o) okS.tl))
      · cases h1
    · cases h1
  | iaload =>
    cases hn rfl
    simp only [ax_heap, ax_ald] at h1
    split at h1
    · rename_i j o r
      split at h1
      · rename_i hk
        cases h1
        have hk1 : (ax_kd h o).1 = 0 := by simpa using hk.1
        refine so_ald (t := 0) (ty := .int) (i := .iaload) hR hk1 rfl okS.hd hk.2.1 hk.2.2 (fun q cell x v rest g1 g2 g3 g4 g5 g6 => W.iald x1 x2 g1 g2 g3 g4 g5 rfl rfl hdg g6) ?_
        have := kk0 rfl rfl H locs hR hlo (so_okS.cons (by rw [hk1]; exact hR.2.2.2.1.ok o _ hk1 (by omega)) okS.tl.tl)
        rw [hk1] at this
        exact this
      · cases h1
    · cases h1
  | laload =>
    cases hn rfl
    simp only [ax_heap, ax_ald] at h1
    split at h1
    · rename_i j o r
      split at h1
      · rename_i hk
        cases h1
        have hk1 : (ax_kd h o).1 = 2 := by simpa using hk.1
        refine so_ald (t := 2) (ty := .long) (i := .laload) hR hk1 rfl okS.hd hk.2.1 hk.2.2 (fun q cell x v rest g1 g2 g3 g4 g5 g6 => W.lald x1 x2 g1 g2 g3 g4 g5 rfl rfl hdg g6) ?_
        have := kk0 rfl rfl H locs hR hlo (so_okS.cons (by rw [hk1]; exact hR.2.2.2.1.ok o _ hk1 (by omega)) okS.tl.tl)
        rw [hk1] at this
        exact this
      · cases h1
    · cases h1
  | baload =>
    cases hn rfl
    simp only [ax_heap, ax_ald] at h1
    split at h1
    · rename_i j o r
      split at h1
      · rename_i hk
        cases h1
        have hk1 : (ax_kd h o).1 = 1 ∨ (ax_kd h o).1 = 3 := by simpa using hk.1
        rcases hk1 with hk1 | hk1
        · refine so_ald (t := 1) (ty := .byte) (i := .baload) hR hk1 rfl okS.hd hk.2.1 hk.2.2 (fun q cell x v rest g1 g2 g3 g4 g5 g6 => W.bald x1 x2 g1 g2 g3 g4 g5 rfl rfl hdg g6) ?_
          have := kk0 rfl rfl H locs hR hlo (so_okS.cons (by rw [hk1]; exact hR.2.2.2.1.ok o _ hk1 (by omega)) okS.tl.tl)
          rw [hk1] at this
          exact this
        · refine so_ald (t := 3) (ty := .boolean) (i := .baload) hR hk1 rfl okS.hd hk.2.1 hk.2.2 (fun q cell x v rest g1 g2 g3 g4 g5 g6 => W.zald x1 x2 g1 g2 g3 g4 g5 rfl rfl hdg g6) ?_
          have := kk0 rfl rfl H locs hR hlo (so_okS.cons (by rw [hk1]; exact hR.2.2.2.1.ok o _ hk1 (by omega)) okS.tl.tl)
          rw [hk1] at this
          exact this
      · cases h1
    · cases h1
  | iastore =>
    cases hn rfl
    simp only [ax_heap] at h1
    split at h1
    · rename_i z q
      simp only [ax_ast] at h1
      split at h1
      · rename_i j o r
        split at h1
        · rename_i hk
          obtain ⟨hk0, hk2, hk3, hk4, hk5⟩ := hk
          have hk1 : (ax_kd h o).1 = 0 := by simpa using hk0
          rw [hk1] at h1
          simp only [ax_tk] at h1
          cases h1
          exact so_ast (t := 0) (ty := .int) (z := z) (v := .int (Int32.ofInt z)) x11 hR hlo hk1 rfl hk4 okS.tl.hd hk2 hk3 okS.hd (fun q => by cases q) (fun q cell x rest g1 g2 g3 g4 g5 => W.iast x1 x2 g1 g2 g3 g4 rfl rfl hdg g5) (fun H' locs' g1 g2 => kk0 rfl rfl H' locs' g1 g2 okS.tl.tl.tl)
        · cases h1
      · cases h1
    · cases h1
  | lastore =>
    cases hn rfl
    simp only [ax_heap] at h1
    split at h1
    · rename_i z q
      simp only [ax_ast] at h1
      split at h1
      · rename_i j o r
        split at h1
        · rename_i hk
          obtain ⟨hk0, hk2, hk3, hk4, hk5⟩ := hk
          have hk1 : (ax_kd h o).1 = 2 := by simpa using hk0
          rw [hk1] at h1
          simp only [ax_tk] at h1
          cases h1
          exact so_ast (t := 2) (ty := .long) (z := z) (v := .long (Int64.ofInt z)) x11 hR hlo hk1 rfl hk4 okS.tl.hd hk2 hk3 okS.hd (fun q => by cases q) (fun q cell x rest g1 g2 g3 g4 g5 => W.last x1 x2 g1 g2 g3 g4 rfl rfl hdg g5) (fun H' locs' g1 g2 => kk0 rfl rfl H' locs' g1 g2 okS.tl.tl.tl)
        · cases h1
      · cases h1
    · cases h1
  | bastore =>
    cases hn rfl
    simp only [ax_heap] at h1
    split at h1
    · rename_i z q
      simp only [ax_ast] at h1
      split at h1
      · rename_i j o r
        split at h1
        · rename_i hk
          obtain ⟨hk0, hk2, hk3, hk4, hk5⟩ := hk
          have hk1 : (ax_kd h o).1 = 1 ∨ (ax_kd h o).1 = 3 := by simpa using hk0
          have hz : (Int32.ofInt z).toInt = z := okS.hd
          rcases hk1 with hk1 | hk1
          · rw [hk1] at h1
            simp only [ax_tk] at h1
            cases h1
            obtain ⟨w1, w2, w3, w4⟩ := so_w8 hz
            exact so_ast (t := 1) (ty := .byte) (z := ax_w8 z) (v := .int (Int32.ofInt z)) x11 hR hlo hk1 rfl hk4 okS.tl.hd hk2 hk3 w2 (fun _ => ⟨w3, w4⟩) (fun q cell x rest g1 g2 g3 g4 g5 => W.bast x1 x2 g1 g2 g3 g4 rfl rfl hdg (by rw [w1]; exact g5)) (fun H' locs' g1 g2 => kk0 rfl rfl H' locs' g1 g2 okS.tl.tl.tl)
          · rw [hk1] at h1
            simp only [ax_tk] at h1
            split at h1
            · rename_i y2 hy2
              split at hy2
              · rename_i hz2
                cases hy2
                cases h1
                have w1 : narrow .boolean (.int (Int32.ofInt z)) = .int (Int32.ofInt z) := by
                  rcases hz2 with q | q <;> subst q <;> decide
                exact so_ast (t := 3) (ty := .boolean) (z := z) (v := .int (Int32.ofInt z)) x11 hR hlo hk1 rfl hk4 okS.tl.hd hk2 hk3 okS.hd (fun q => by cases q) (fun q cell x rest g1 g2 g3 g4 g5 => W.zast x1 x2 g1 g2 g3 g4 rfl rfl hdg (by rw [w1]; exact g5)) (fun H' locs' g1 g2 => kk0 rfl rfl H' locs' g1 g2 okS.tl.tl.tl)
              · cases hy2
            · cases h1
        · cases h1
      · cases h1
    · cases h1
  | new idx =>
    cases hn rfl
    simp only [tb_l] at htl
    simp only [ax_heap] at h1
    by_cases ha : a = 0
    · rw [if_pos ha] at htl h1
      simp only [Bool.and_eq_true, decide_eq_true_eq] at htl
      cases h1
      have e1 : (ax_new h (100 + b, tb_N b) (tb_ci.getD b (0, 0, 0, [])).2.2.1).1 - h.1 = 1 := by show h.1 + 1 - h.1 = 1; omega
      have e2 : (ax_new h (100 + b, tb_N b) (tb_ci.getD b (0, 0, 0, [])).2.2.1).2.1 - h.2.1 = (tb_ci.getD b (0, 0, 0, [])).2.2.1 := by show h.2.1 + _ - h.2.1 = _; omega
      rw [e1] at hcells kk
      rw [e2] at hslots kk
      exact so_newo x1 x2 x4 x10 (cw_all b htl.1) (so_Nlt b htl.1) rfl x11 hR (x10 _ (so_lk htl.2) rfl) hcells hslots hdg (fun H' g1 => kk H' locs g1 hlo (so_okS.cons trivial okS))
    · rw [if_neg ha] at htl h1
      simp only [Bool.and_eq_true, decide_eq_true_eq] at htl
      cases h1
      have e1 : (ax_newx h b).1 - h.1 = 1 := by show h.1 + 1 - h.1 = 1; omega
      have e2 : (ax_newx h b).2.1 - h.2.1 = 6 := by show h.2.1 + 6 - h.2.1 = _; omega
      rw [e1] at hcells kk
      rw [e2] at hslots kk
      have hx : Cond.instantiable (tb_RN b) 6 ∈ lw_tbl ∧ Cond.initialized (tb_RN b) ∈ lw_tbl := so_xw b htl.1.1 htl.1.2
      exact so_newx x1 x2 x4 (x10 _ hx.1 rfl) (x10 _ hx.2 rfl) x11 hR (x10 _ (so_lk htl.2) rfl) hcells hslots hdg (fun H' g1 => kk H' locs g1 hlo (so_okS.cons trivial okS))
  | newarray t =>
    cases hn rfl
    simp only [tb_l, Bool.and_eq_true, Bool.or_eq_true, decide_eq_true_eq, beq_iff_eq] at htl
    simp only [ax_heap] at h1
    split at h1
    · rename_i z r
      split at h1
      · rename_i hz
        cases h1
        have e1 : (ax_new h (a, z.toNat) z.toNat).1 - h.1 = 1 := by show h.1 + 1 - h.1 = 1; omega
        have e2 : (ax_new h (a, z.toNat) z.toNat).2.1 - h.2.1 = z.toNat := by show h.2.1 + _ - h.2.1 = _; omega
        rw [e1] at hcells kk
        rw [e2] at hslots kk
        rcases htl with ((⟨t1, t2⟩ | ⟨t1, t2⟩) | ⟨t1, t2⟩) | ⟨t1, t2⟩
        · subst t1; subst t2
          exact so_newa (at' := .int) (ty := .int) x1 x2 x11 hR rfl rfl (x10 _ aw_int rfl) okS.hd hz.1 hz.2 hcells hslots hdg (fun H' g1 => kk H' locs g1 hlo (so_okS.cons trivial okS.tl))
        · subst t1; subst t2
          exact so_newa (at' := .byte) (ty := .byte) x1 x2 x11 hR rfl rfl (x10 _ aw_byte rfl) okS.hd hz.1 hz.2 hcells hslots hdg (fun H' g1 => kk H' locs g1 hlo (so_okS.cons trivial okS.tl))
        · subst t1; subst t2
          exact so_newa (at' := .long) (ty := .long) x1 x2 x11 hR rfl rfl (x10 _ aw_long rfl) okS.hd hz.1 hz.2 hcells hslots hdg (fun H' g1 => kk H' locs g1 hlo (so_okS.cons trivial okS.tl))
        · subst t1; subst t2
          exact so_newa (at' := .boolean) (ty := .boolean) x1 x2 x11 hR rfl rfl (x10 _ aw_boolean rfl) okS.hd hz.1 hz.2 hcells hslots hdg (fun H' g1 => kk H' locs g1 hlo (so_okS.cons trivial okS.tl))
      · cases h1
    · cases h1
  | _ => exact absurd h1 (by simp [ax_heap])
end SON
/-! HOW AN INVOCATION ENDS; the abstract heap only grows. -/
def so_adr (ad : Nat → Option Nat) (x : Nat) : Nat := (ad x).getD 0
def so_out (ad : Nat → Option Nat) (o : ax_O) : Outcome := match o with
  | .inl v => .returned (v.map (so_v ad))
  | .inr x => .threw (so_adr ad x)
/-- the exception of an outcome -/
def so_xo (o : ax_O) (h : ax_H) : Prop := ∀ x, o = .inr x → ∃ z, 14 ≤ z ∧ z < 17 ∧ ax_ex h x = 2 * z + 2 ∧ 27 ≤ x
/-- what is known of an outcome -/
def so_fo (o : ax_O) (h : ax_H) : Prop := (∀ v, o = .inl (some v) → so_ok v) ∧ so_xo o h
/-- the end of a walk of an invocation from s -/
def so_Z (below : List Frame) (ad : Nat → Option Nat) (H0 : Heap) (s : State) (o : ax_O) (h' : ax_H) (C S : Nat) : State → Prop := fun t =>
  t.status = .running ∧ Ended t below (so_out ad o) ∧ s.WarmedH t.vm ∧ (∃ L, s.sameButNew ({ t with vm := s.vm } : State) L C S ∧ ∀ q ∈ L, H0.size ≤ q.base) ∧ so_Rel s ad H0 h' t.heap ∧ so_fo o h'
def so_le (h h' : ax_H) : Prop := h.1 ≤ h'.1 ∧ h.2.1 ≤ h'.2.1
theorem so_le.rf (h : ax_H) : so_le h h := ⟨Nat.le_refl _, Nat.le_refl _⟩
theorem so_le.tr {a b c : ax_H} (h : so_le a b) (g : so_le b c) : so_le a c := ⟨Nat.le_trans h.1 g.1, Nat.le_trans h.2 g.2⟩
theorem so_pf_le {ft o j : Nat} {v : ax_V} {h h' : ax_H} (hv : ax_pf ft h o j v = some h') : so_le h h' := by
  unfold ax_pf at hv
  split at hv
  · split at hv
    · cases hv; exact so_le.rf h
    · cases hv
  · split at hv
    · cases hv; exact so_le.rf h
    · cases hv
  · split at hv
    · cases hv; exact so_le.rf h
    · cases hv
  · split at hv
    · split at hv
      · cases hv; exact so_le.rf h
      · cases hv
    · cases hv
  · cases hv
theorem so_ald_le {t : Nat → Bool} {st st' : List ax_V} {h h' : ax_H} (h1 : ax_ald t st h = some (st', h')) : so_le h h' := by
  unfold ax_ald at h1
  split at h1
  · split at h1
    · cases h1; exact so_le.rf h
    · cases h1
  · cases h1
theorem so_ast_le {t : Nat → Bool} {v : ax_V} {z : Int} {st st' : List ax_V} {h h' : ax_H} (h1 : ax_ast t v st z h = some (st', h')) : so_le h h' := by
  unfold ax_ast at h1
  split at h1
  · split at h1
    · split at h1
      · cases h1; exact so_le.rf h
      · cases h1
    · cases h1
  · cases h1
theorem so_heap_le {i : Instr} {a b : Nat} {d : Int} {st st' : List ax_V} {h h' : ax_H} (h1 : ax_heap i a b d st h = some (st', h')) : so_le h h' := by
  cases i with
  | getfield idx =>
    simp only [ax_heap] at h1
    split at h1
    · split at h1
      · split at h1
        · cases h1; exact so_le.rf h
        · cases h1
      · cases h1
    · cases h1
  | putfield idx =>
    simp only [ax_heap] at h1
    split at h1
    · split at h1
      · split at h1
        · rename_i hv
          cases h1; exact so_pf_le hv
        · cases h1
      · cases h1
    · cases h1
  | getstatic idx => simp only [ax_heap] at h1; cases h1; exact so_le.rf h
  | ldc idx => simp only [ax_heap] at h1; cases h1; exact so_le.rf h
  | ldc_w idx => simp only [ax_heap] at h1; cases h1; exact so_le.rf h
  | ldc2_w idx => simp only [ax_heap] at h1; cases h1; exact so_le.rf h
  | arraylength =>
    simp only [ax_heap] at h1
    split at h1
    · split at h1
      · cases h1; exact so_le.rf h
      · cases h1
    · cases h1
  | iaload =>
    simp only [ax_heap] at h1
    exact so_ald_le h1
  | baload =>
    simp only [ax_heap] at h1
    exact so_ald_le h1
  | laload =>
    simp only [ax_heap] at h1
    exact so_ald_le h1
  | iastore =>
    simp only [ax_heap] at h1
    split at h1
    · exact so_ast_le h1
    · cases h1
  | bastore =>
    simp only [ax_heap] at h1
    split at h1
    · exact so_ast_le h1
    · cases h1
  | lastore =>
    simp only [ax_heap] at h1
    split at h1
    · exact so_ast_le h1
    · cases h1
  | new idx =>
    simp only [ax_heap] at h1
    split at h1
    · cases h1; exact ⟨Nat.le_add_right _ _, Nat.le_add_right _ _⟩
    · cases h1; exact ⟨Nat.le_add_right _ _, Nat.le_add_right _ _⟩
  | newarray t =>
    simp only [ax_heap] at h1
    split at h1
    · split at h1
      · cases h1; exact ⟨Nat.le_add_right _ _, Nat.le_add_right _ _⟩
      · cases h1
    · cases h1
  | _ => exact absurd h1 (by simp [ax_heap])
theorem so_copy_le {st st' : List ax_V} {h h' : ax_H} (h1 : ax_copy st h = some (st', h')) : so_le h h' := by
  unfold ax_copy at h1
  split at h1
  · split at h1
    · cases h1; exact so_le.rf h
    · cases h1
  · cases h1
theorem so_throw_le {μ : ax_M} {pc x : Nat} {st : List ax_V} {h h' : ax_H} {o : ax_O} (h1 : ax_throw μ pc x st h = some (o, h')) : so_le h h' := by
  unfold ax_throw at h1
  split at h1
  · split at h1
    · cases h1; exact so_le.rf h
    · cases h1
  · cases h1
theorem so_inv_le {μ : ax_M} {a b : Nat} {d : Int} {pc : Nat} {ls : ax_L} {st : List ax_V} {h : ax_H} {x : ax_S} (h1 : ax_inv μ a b d pc ls st h = some x) : (∀ q, x = .inl q → so_le h q.2.2.2) ∧ ∀ r, x = .inr (.inl r) → so_le h r.2 := by
  unfold ax_inv at h1
  by_cases e5 : a = 5
  · rw [if_pos e5] at h1
    split at h1
    · split at h1
      · cases h1
        exact ⟨fun q e => by cases e; exact so_le.rf h, fun r e => by cases e⟩
      · cases h1
    · cases h1
  · rw [if_neg e5] at h1
    by_cases e6 : a = 6
    · rw [if_pos e6] at h1
      split at h1
      · rename_i hh
        split at h1
        · cases h1
          exact ⟨fun q e => by cases e; exact so_copy_le hh, fun r e => by cases e⟩
        · cases h1
      · cases h1
    · rw [if_neg e6] at h1
      by_cases e7 : a = 7
      · rw [if_pos e7] at h1
        split at h1
        · rename_i r hh
          obtain ⟨o, h2⟩ := r
          cases h1
          exact ⟨(fun q e => by cases e), fun r e => by cases e; exact so_throw_le hh⟩
        · cases h1
      · rw [if_neg e7] at h1
        split at h1
        · cases h1
        · split at h1
          · cases h1
            exact ⟨(fun q e => by cases e), fun r e => by cases e⟩
          · cases h1
theorem so_step_le {μ : ax_M} {pc : Nat} {ls : ax_L} {st : List ax_V} {h : ax_H} {x : ax_S} (h1 : ax_step μ pc ls st h = some x) : (∀ q, x = .inl q → so_le h q.2.2.2) ∧ ∀ r, x = .inr (.inl r) → so_le h r.2 := by
  unfold ax_step at h1
  split at h1
  · cases h1
  · rename_i i a b k d hat
    unfold ax_do at h1
    split at h1
    · split at h1
      · cases h1
        exact ⟨fun q e => by cases e; exact so_le.rf h, fun r e => by cases e⟩
      · cases h1
    · split at h1
      · cases h1
        exact ⟨fun q e => by cases e; exact so_le.rf h, fun r e => by cases e⟩
      · cases h1
    · split at h1
      · rename_i hh
        cases h1
        exact ⟨fun q e => by cases e; exact so_heap_le hh, fun r e => by cases e⟩
      · cases h1
    · exact so_inv_le h1
    · split at h1
      · cases h1
        exact ⟨(fun q e => by cases e), fun r e => by cases e; exact so_le.rf h⟩
      · cases h1
theorem so_run_le {call : Nat → List ax_V → ax_H → Option (ax_O × ax_H)} (hc : ∀ y as h o h', call y as h = some (o, h') → so_le h h') {μ : ax_M} : ∀ (f pc : Nat) (ls : ax_L) (st : List ax_V) (h : ax_H) (o : ax_O) (h' : ax_H), ax_run call μ f pc ls st h = some (o, h') → so_le h h' := by
  intro f
  induction f with
  | zero => intro pc ls st h o h' h1; cases h1
  | succ f ih =>
    intro pc ls st h o h' h1
    rw [ax_run] at h1
    split at h1
    · cases h1
    · rename_i hs
      exact ((so_step_le hs).1 _ rfl).tr (ih _ _ _ _ _ _ h1)
    · rename_i r hs
      cases h1
      exact (so_step_le hs).2 _ rfl
    · rename_i y as r hs
      split at h1
      · cases h1
      · rename_i v h2 hh
        exact (hc _ _ _ _ _ hh).tr (ih _ _ _ _ _ _ h1)
      · rename_i x h2 hh
        split at h1
        · exact (hc _ _ _ _ _ hh).tr (ih _ _ _ _ _ _ h1)
        · split at h1
          · cases h1
            exact hc _ _ _ _ _ hh
          · cases h1
theorem so_ev_le (F : Nat) : ∀ (n y : Nat) (as : List ax_V) (h : ax_H) (o : ax_O) (h' : ax_H), ax_ev F n y as h = some (o, h') → so_le h h' := by
  intro n
  induction n with
  | zero => intro y as h o h' h1; cases h1
  | succ n ih =>
    intro y as h o h' h1
    simp only [ax_ev] at h1
    split at h1
    · cases h1
    · split at h1
      · exact so_run_le ih _ _ _ _ _ _ _ h1
      · cases h1
section SOR
variable {p : Program} {l : Launch} {e : Env} {R : Room} {s : State} {m : MethodId} {args : Array Value} {below : List Frame} {meth : Method} {c : Code} {H : Heap} {locs : List Loc} {cells slots : Nat}
variable {pc y : Nat} {lsA : Array Slot} {ad : Nat → Option Nat} {h h' : ax_H} {H0 : Heap}
theorem so_ret {i : Instr} {v : Option ax_V} (hR : so_Rel s ad H0 h H) (hlo : ∀ q ∈ locs, H0.size ≤ q.base) (hlocks : meth.locks = false) (hv : meth.sig.returnType = none → v = none) (hok : ∀ w, v = some w → so_ok w)
    (step : ∀ (T : State) (fs : List Frame), Stand p l e R s m args below meth c T locs cells slots → (∀ (f : JFrame) (acts : List Action), f.method = m → f.locked = none → f.entered = [] → (doReturn e (T.setTop f) acts (v.map (so_v ad))).1 = T.setFrames fs) → Steps p.tables e below (T.setTop (F0 m pc lsA (v.toList.map (so_v ad)))) (T.setFrames fs)) :
    W p l e R s m args below meth c H locs cells slots (so_Z below ad H0 s (.inl v) h cells slots) (F0 m pc lsA (v.toList.map (so_v ad))) := by
  intro T hT X
  obtain ⟨fs, hret, hrun, hended, hW, hframe⟩ := X.leave (v := v.map (so_v ad)) (hlocks := hlocks) (fun q => by rw [hv q]; rfl)
  exact ⟨T.setFrames fs, step T fs X hret, hrun, hended, hW, ⟨locs, hframe, hlo⟩, by show so_Rel s ad H0 h T.heap; rw [hT]; exact hR, fun w hw => hok w (Sum.inl.inj hw), fun x hx => by cases hx⟩
end SOR
/-! A METHOD OF THE TABLES, and its call. -/
/-- a method's own words, of all of them but the law's -/
def so_Mws : Prop := ∀ y, y < 302 → y ≠ tb_law → mw_ok y
def so_cw (y : Nat) : Cond := match (tb_M y).2.2.2.2.1 with
  | [] => Cond.code (tb_name y) (tb_bytes y) (tb_M y).2.1 (tb_ret y)
  | q :: r => Cond.codeWith (tb_name y) (tb_bytes y) (tb_M y).2.1 (tb_ret y) ((q :: r).map fun q => (q.1, q.2.1, q.2.2.1, q.2.2.2.1))
theorem so_plain : ∀ k, k < 24 → (True ∧ tb_RN k ≠ "java/lang/invoke/MethodHandle" ∧ tb_RN k ≠ "java/lang/invoke/VarHandle") := by decide +kernel
theorem so_cw_in {y : Nat} (h : mw_ok y) : so_cw y ∈ lw_tbl := by
  have h4 := h.2.2.2.1
  unfold so_cw
  split
  · rename_i e; rw [e] at h4; exact h4
  · rename_i e; rw [e] at h4; exact h4
theorem so_cw_good (y : Nat) : so_gw (so_cw y) = true := by
  unfold so_cw
  split <;> rfl
/-- what the word gives -/
theorem so_cw_spec {y : Nat} {args : Array Value} {s : State} (hw : (so_cw y).before args s = true) : ∃ (mk : MethodId) (meth : Method) (c : Code), s.methodNamed? (tb_name y) = some mk ∧ s.vm.method? mk = some meth ∧ meth.code = some c ∧ c.code = tb_bytes y ∧ c.maxLocals = (tb_M y).2.1 ∧ meth.sig.returnType = tb_ret y ∧ meth.locks = false ∧
    c.exceptionTable.toList = (tb_M y).2.2.2.2.1.map (fun q => ⟨q.1, q.2.1, q.2.2.1, q.2.2.2.1⟩) ∧ parseMethodDescriptor (tb_name y).desc = some meth.sig := by
  unfold so_cw at hw
  split at hw
  · rename_i e1
    obtain ⟨mk, hn⟩ := Cond.code_named hw
    obtain ⟨meth, c, h1, h2, h3, h4, h5, h6, h7, h8⟩ := Cond.code_spec hn hw
    refine ⟨mk, meth, c, hn, h1, h2, h3, h4, h5, h6, ?_, h8⟩
    rw [e1]
    have h0 : c.exceptionTable.size = 0 := by simpa [Array.isEmpty] using h7
    exact List.eq_nil_of_length_eq_zero (by simpa using h0)
  · rename_i q r e1
    obtain ⟨mk, meth, c, hn, h1, h2, h3, h4, h5, h6, h7, h8⟩ := Cond.codeWith_spec hw
    refine ⟨mk, meth, c, hn, h1, h2, h3, h4, h6, h7, ?_, h8⟩
    rw [e1]
    have key : ∀ (l : List ExceptionTableEntry) (m : List (Nat × Nat × Nat × Nat × Nat × Nat)), l.map (fun h => (h.startPc, h.endPc, h.handlerPc, h.catchType)) = m.map (fun q => (q.1, q.2.1, q.2.2.1, q.2.2.2.1)) → l = m.map (fun q => (⟨q.1, q.2.1, q.2.2.1, q.2.2.2.1⟩ : ExceptionTableEntry)) := by
      intro l
      induction l with
      | nil => intro m hm; cases m with
        | nil => rfl
        | cons a b => cases hm
      | cons a b ih => intro m hm; cases m with
        | nil => cases hm
        | cons x z =>
          rw [List.map_cons, List.map_cons] at hm
          obtain ⟨e1, e2⟩ := List.cons.inj hm
          rw [List.map_cons, ← ih z e2]
          obtain ⟨s1, s2, s3, s4⟩ := a
          simp only [Prod.mk.injEq] at e1
          obtain ⟨f1, f2, f3, f4⟩ := e1
          rw [f1, f2, f3, f4]
    exact key _ _ h5
section SOT
variable {p : Program} {l : Launch} {e : Env} {R : Room} {s : State} {m : MethodId} {args : Array Value} {below : List Frame} {meth : Method} {c : Code} {H : Heap} {locs : List Loc} {cells slots : Nat} {T : State}
variable {pc y : Nat} {lsA : Array Slot} {ad : Nat → Option Nat} {h h' : ax_H} {H0 : Heap}
theorem so_pop {n : Nat} : ∀ {st as r : List ax_V}, ax_pop n st = some (as, r) → st = as.reverse ++ r ∧ as.length = n := by
  induction n with
  | zero => intro st as r h1; cases h1; exact ⟨rfl, rfl⟩
  | succ n ih =>
    intro st as r h1
    cases st with
    | nil => cases h1
    | cons v q =>
      simp only [ax_pop] at h1
      split at h1
      · rename_i as2 q2 hh
        cases h1
        obtain ⟨e1, e2⟩ := ih hh
        rw [e1, List.reverse_append]
        exact ⟨rfl, by simp [e2]⟩
      · cases h1
theorem so_wt (st : List ax_V) : ((st.map (so_v ad)).map fun v => v.category).sum = ax_wt st := by
  unfold ax_wt
  rw [List.map_map]
  congr 1
  apply List.map_congr_left
  intro v _
  exact so_cat ad v
/-- the call is linked: what stands then -/
def so_Ent (p : Program) (l : Launch) (e : Env) (R : Room) (s : State) (m : MethodId) (args : Array Value) (below : List Frame) (meth : Method) (c : Code) (T : State) (locs : List Loc) (cells slots : Nat) (g : JFrame) (b : Nat) (av : Array Value) (rest : List Value) : Prop :=
  ∃ (vm₁ : Vm) (mk : MethodId), Stand p l e R s m args below meth c (T.setVm vm₁) locs cells slots ∧ s.methodNamed? (tb_name b) = some mk ∧ ∀ target, (∀ acts, Steps p.tables e below (doInvoke e ((T.setVm vm₁).setTop { g with stack := rest }) acts mk av).1 target) → Steps p.tables e below (T.setTop g) target
theorem so_entV {idx b : Nat} {As rest : List Value} {q : Addr} {cell : Cell} (X : so_Ctx p e s m args meth c ad H0 y) (S : Stand p l e R s m args below meth c T locs cells slots) (hmw : mw_ok b) (hst : tb_static b = false) (hni : (tb_M b).2.2.2.1 = false)
    (hlink : Cond.methodLink (tb_RN (tb_M y).1) idx (tb_name b) ∈ lw_tbl) (hcell : T.heap[q]? = some cell) (hobj : cell.vm.isStatics = false) (hcls : s.vm.findClass (tb_RN (tb_M b).1) = some cell.cls) (hlen : As.length = tb_np.getD b 0)
    {g : JFrame} (hg : g.method = m) (hstack : g.stack = As.reverse ++ .ref q :: rest) (hdg : decode (tb_bytes y) g.pc = .ok (.invokevirtual idx, 3)) : so_Ent p l e R s m args below meth c T locs cells slots g b (Value.ref q :: As).toArray rest := by
  obtain ⟨x1, x2, x3, x4, x5, x6, x7, x8, x9, x10, x11, x12, x13⟩ := id X
  obtain ⟨m1, m2, ⟨m3, m4, m5, m6⟩, m7, m8, m9, m10⟩ := id hmw
  rw [hst] at m8 m9
  rw [hni] at m9
  have hy := (so_plain _ m3).2
  rw [← m1] at hy
  obtain ⟨mk, methM, cM, hnamed, hmethM, -, -, -, -, -, -, hsigM⟩ := so_cw_spec (x10 _ (so_cw_in hmw) (so_cw_good b))
  obtain ⟨mk', methM', hnamed', hmethM', hstM, habM⟩ := Cond.instanceMethod_spec (x10 _ m8 rfl)
  cases hnamed.symm.trans hnamed'
  cases hmethM.symm.trans hmethM'
  obtain ⟨c2, r2, m2', q1, q2, q3, q4, kP, hkP, hkPi⟩ := Cond.selects_spec (x10 _ m9 rfl)
  cases hcls.symm.trans q1
  cases (State.methodFound?_of_named hnamed hy).symm.trans q2
  cases hnamed.symm.trans q3
  have hselP : selectMethod e.platform s.vm cell.cls mk = .method mk := by rw [Launch.admits_selectMethod S.admits]; exact q4
  obtain ⟨vm₁, X₁, hstep₁⟩ := S.invokevirtual x1 x4 (x10 _ hlink rfl) hnamed hmethM hstM hkP hkPi hy (a := q) (cell := cell) hcell
    (fun z h => by rw [h] at hobj; cases hobj) hselP hmethM habM hkP hkPi (g := g) hg (argsL := As) (rest := rest) (by rw [hlen]; rw [hsigM] at m6; exact (Option.some.inj m6).symm) hstack (by rw [x2]; exact hdg)
  exact ⟨vm₁, mk, X₁, hnamed, hstep₁⟩
theorem so_entS {idx b : Nat} {As rest : List Value} (X : so_Ctx p e s m args meth c ad H0 y) (S : Stand p l e R s m args below meth c T locs cells slots) (hmw : mw_ok b) (hst : tb_static b = true)
    (hlink : Cond.methodLink (tb_RN (tb_M y).1) idx (tb_name b) ∈ lw_tbl) (hlen : As.length = tb_np.getD b 0)
    {g : JFrame} (hg : g.method = m) (hstack : g.stack = As.reverse ++ rest) (hdg : decode (tb_bytes y) g.pc = .ok (.invokestatic idx, 3)) : so_Ent p l e R s m args below meth c T locs cells slots g b As.toArray rest := by
  obtain ⟨x1, x2, x3, x4, x5, x6, x7, x8, x9, x10, x11, x12, x13⟩ := id X
  obtain ⟨m1, m2, ⟨m3, m4, m5, m6⟩, m7, m8, m9, m10⟩ := id hmw
  rw [hst] at m8
  have hy := (so_plain _ m3).2
  rw [← m1] at hy
  obtain ⟨mk, methM, cM, hnamed, hmethM, -, -, -, -, -, -, hsigM⟩ := so_cw_spec (x10 _ (so_cw_in hmw) (so_cw_good b))
  have hstatic : methM.isStatic = true := Cond.static_spec hnamed hmethM (x10 _ m8 rfl)
  obtain ⟨kP, hkP, -⟩ := className_of_methodNamed hnamed
  have hini := x10 _ m10 rfl
  rw [← m1] at hini
  have hinitP : kP.init = .initialized := Cond.initialized_spec (findClass_of_methodNamed hnamed) hkP hini
  obtain ⟨vm₁, X₁, hstep₁⟩ := S.invokestatic x1 x4 (x10 _ hlink rfl) hnamed hmethM hstatic hkP hinitP hy (g := g) hg (argsL := As) (rest := rest) (by rw [hlen]; rw [hsigM] at m6; exact (Option.some.inj m6).symm) hstack (by rw [x2]; exact hdg)
  exact ⟨vm₁, mk, X₁, hnamed, hstep₁⟩
theorem so_entI {idx b : Nat} {As rest : List Value} {q : Addr} (X : so_Ctx p e s m args meth c ad H0 y) (S : Stand p l e R s m args below meth c T locs cells slots) (hmw : mw_ok b) (hst : tb_static b = false) (hni : (tb_M b).2.2.2.1 = true) (hnh : (tb_M b).2.2.2.2.1 = []) (hrt : tb_ret b = none)
    (hlink : Cond.methodLink (tb_RN (tb_M y).1) idx (tb_name b) ∈ lw_tbl ∨ ∃ host, Cond.methodLinkNest (tb_RN (tb_M y).1) idx (tb_name b) host ∈ lw_tbl) (hlen : As.length = tb_np.getD b 0)
    {g : JFrame} (hg : g.method = m) (hstack : g.stack = As.reverse ++ .ref q :: rest) (hdg : decode (tb_bytes y) g.pc = .ok (.invokespecial idx, 3)) : so_Ent p l e R s m args below meth c T locs cells slots g b (Value.ref q :: As).toArray rest := by
  obtain ⟨x1, x2, x3, x4, x5, x6, x7, x8, x9, x10, x11, x12, x13⟩ := id X
  obtain ⟨m1, m2, ⟨m3, m4, m5, m6⟩, m7, m8, m9, m10⟩ := id hmw
  rw [hst] at m8
  have hy := (so_plain _ m3).2
  rw [← m1] at hy
  have hcode := x10 _ (so_cw_in hmw) (so_cw_good b)
  unfold so_cw at hcode
  rw [hnh, hrt] at hcode
  have hpl : e.platform.magicAccessors = ({} : Platform).magicAccessors := by rw [S.admits.platform]
  have hl : ∀ sig, parseMethodDescriptor (tb_name b).desc = some sig → As.length = sig.parameters.length := fun sig hsig => by
    rw [hlen]; rw [hsig] at m6; exact (Option.some.inj m6).symm
  subst hg
  rcases hlink with hk | ⟨host, hk⟩
  · obtain ⟨mk, methM, cM, kP, vm₁, hnamed, hmethM, hcodeM, -, hlocalsM, -, hkP, -, hW₁, hstep₁⟩ := Steps.initColdArgs (e := e) S.here x1 S.warmed hpl x4 (m4 hni) hy (x10 _ hk rfl) (x10 _ m8 rfl) hcode (f := g) rfl hl hstack (by rw [x2]; exact hdg)
    exact ⟨vm₁, mk, S.noted hW₁, hnamed, hstep₁⟩
  · obtain ⟨mk, methM, cM, kP, vm₁, hnamed, hmethM, hcodeM, -, hlocalsM, -, hkP, -, hW₁, hstep₁⟩ := Steps.initColdArgsNest (e := e) S.here x1 S.warmed hpl x4 (m4 hni) hy (x10 _ hk rfl) (x10 _ m8 rfl) hcode (f := g) rfl hl hstack (by rw [x2]; exact hdg)
    exact ⟨vm₁, mk, S.noted hW₁, hnamed, hstep₁⟩
end SOT
/-! THE CONTRACT OF A METHOD; a call that returns or throws. -/
def so_P (ad : Nat → Option Nat) (H0 : Heap) (h : ax_H) (av : List ax_V) : Array Value → State → Prop := fun a U => a = (av.map (so_v ad)).toArray ∧ so_Rel U ad H0 h U.heap ∧ (∀ w ∈ lw_tbl, so_gw w = true → w.before #[] U = true) ∧ so_Old U ad H0
def so_Q (ad : Nat → Option Nat) (H0 : Heap) (h : ax_H) (o : ax_O) (h' : ax_H) : Array Value → State → Outcome → State → Prop := fun _ st oc t => oc = so_out ad o ∧ so_Rel t ad H0 h' t.heap ∧ so_fo o h' ∧ ∃ L, so_End st t L (h'.1 - h.1) (h'.2.1 - h.2.1) ∧ ∀ q ∈ L, H0.size ≤ q.base
def so_room (n c s : Nat) : Room := { frames := n + 10, cells := c, slots := s, locals := 60 * n + 200 }
def so_Met (l : Launch) (ad : Nat → Option Nat) (H0 : Heap) (n y : Nat) (av : List ax_V) (h : ax_H) (o : ax_O) (h' : ax_H) : Prop := MetFree l (tb_name y) (headSpec [so_cw y] (so_room n (h'.1 - h.1) (h'.2.1 - h.2.1))) (so_P ad H0 h av) (fun _ _ _ _ _ => True) (so_Q ad H0 h o h')
section SOU
variable {p : Program} {l : Launch} {e : Env} {R : Room} {s : State} {m : MethodId} {args : Array Value} {below : List Frame} {meth : Method} {c : Code} {H : Heap} {locs : List Loc} {cells slots : Nat} {Q : State → Prop}
variable {pc y : Nat} {lsA : Array Slot} {ad : Nat → Option Nat} {h h2 : ax_H} {H0 : Heap}
theorem so_callW {b n : Nat} {av r : List ax_V} {o : ax_O} {stk : List Value} {ig : Instr} (X : so_Ctx p e s m args meth c ad H0 y) (hR : so_Rel s ad H0 h H) (hlo : ∀ q ∈ locs, H0.size ≤ q.base) (hM : so_Met l ad H0 n b av h o h2) (hmw : mw_ok b) (hwt : ax_wt r ≤ 20)
    (hfr : n + 11 ≤ R.frames) (hloc : 60 * n + 260 ≤ R.locals) (hcells : cells + (h2.1 - h.1) ≤ R.cells) (hslots : slots + (h2.2.1 - h.2.1) ≤ R.slots) (hsize : lsA.size = c.maxLocals) (hdg : decode (tb_bytes y) pc = .ok (ig, 3))
    (hent : ∀ T : State, T.heap = H → Stand p l e R s m args below meth c T locs cells slots → so_Ent p l e R s m args below meth c T locs cells slots (F0 m pc lsA stk) b (av.map (so_v ad)).toArray (r.map (so_v ad)))
    (kret : ∀ v, o = .inl v → so_fo o h2 → ∀ (H' : Heap) (locs' : List Loc), so_Rel s ad H0 h2 H' → (∀ q ∈ locs', H0.size ≤ q.base) → W p l e R s m args below meth c H' locs' (cells + (h2.1 - h.1)) (slots + (h2.2.1 - h.2.1)) Q (F0 m (pc + 3) lsA ((v.toList ++ r).map (so_v ad))))
    (kthr : ∀ x, o = .inr x → so_fo o h2 → ∀ (T' : State) (locs' : List Loc), Stand p l e R s m args below meth c T' locs' (cells + (h2.1 - h.1)) (slots + (h2.2.1 - h.2.1)) → so_Rel s ad H0 h2 T'.heap → (∀ q ∈ locs', H0.size ≤ q.base) → ∃ t, Steps p.tables e below ((T'.setTop (F0 m pc lsA (r.map (so_v ad)))).pushFrame (.throwing (so_adr ad x))) t ∧ Q t) :
    W p l e R s m args below meth c H locs cells slots Q (F0 m pc lsA stk) := by
  intro T hT S
  obtain ⟨x1, x2, x3, x4, x5, x6, x7, x8, x9, x10, x11, x12, x13⟩ := id X
  obtain ⟨vm₁, mk, S₁, hnamed, hstep⟩ := hent T hT S
  have hw₁ : ∀ w ∈ lw_tbl, so_gw w = true → w.before (av.map (so_v ad)).toArray (T.setVm vm₁) = true := so_words S₁.warmed x10
  have hcw := hw₁ _ (so_cw_in hmw) (so_cw_good b)
  obtain ⟨mk2, methM, cM, hn2, hmM, hcM, -, hlM, -, -, -, -⟩ := so_cw_spec hcw
  obtain ⟨kY, hkY, -⟩ := className_of_methodNamed hn2
  have hini := hw₁ _ hmw.2.2.2.2.2.2 rfl
  rw [← hmw.1] at hini
  have hinitY : kY.init = .initialized := Cond.initialized_spec (findClass_of_methodNamed hn2) hkY hini
  have hm20 := hmw.2.2.1.2.2.1
  obtain ⟨oc, t, T', L, hq, hE, hPL, S', e1, e2, hor⟩ := so_call S₁ (WW := 20) (maxL := (tb_M b).2.1) hM (g := F0 m pc lsA (r.map (so_v ad))) (ig := ig) (len := 3) rfl hsize (by rw [x2]; exact hdg)
    (by show 2 * 0 + _ ≤ 20; rw [so_wt]; omega) (mk := mk) (S₁.named hnamed) (a := (av.map (so_v ad)).toArray) ⟨mk2, methM, cM, kY, hn2, hmM, hcM, hlM, hkY, hinitY⟩
    (by show n + 10 + 1 ≤ R.frames; omega) (by show 20 + (_ + 11) + (60 * n + 200) ≤ R.locals; omega) hcells hslots (atoms_intro (ws := [so_cw b]) (fun w hw => by rw [List.mem_singleton.mp hw]; exact hcw))
    ⟨rfl, by show so_Rel _ ad H0 h T.heap; rw [hT]; exact hR.moved S₁.warmed.alike, so_words (U := (T.setVm vm₁).calling _ mk _) S₁.warmed x10, x12.warm (U := (T.setVm vm₁).calling _ mk _) S₁.warmed⟩
    (k := h2.1 - h.1) (n := h2.2.1 - h.2.1) (PL := fun L => ∀ q ∈ L, H0.size ≤ q.base) (fun o t hq => hq.2.2.2)
  obtain ⟨hoc, hRt, hfo, -⟩ := hq
  have hRs : so_Rel s ad H0 h2 T'.heap := by
    rw [e1]
    refine hRt.moved ?_
    rw [← e2]
    exact S'.warmed.alike.symm
  have hlo' : ∀ q ∈ locs ++ L, H0.size ≤ q.base := fun q hq => (List.mem_append.mp hq).elim (hlo q) (hPL q)
  rcases hor with ⟨v, ho, hst⟩ | ⟨x, ho, hst⟩
  · cases o with
    | inr z => rw [ho] at hoc; cases hoc
    | inl w =>
      rw [ho] at hoc
      have hv : v = w.map (so_v ad) := Outcome.returned.inj hoc
      obtain ⟨t2, a1, b1⟩ := kret w rfl hfo T'.heap (locs ++ L) hRs hlo' T' rfl S'
      refine ⟨t2, hstep _ (fun acts => ?_), b1⟩
      rw [doInvoke_state]
      refine hst.trans ?_
      rw [hv]
      have e3 : (w.map (so_v ad)).toList ++ r.map (so_v ad) = (w.toList ++ r).map (so_v ad) := by cases w <;> simp
      show Steps p.tables e below (T'.setTop { F0 m pc lsA (r.map (so_v ad)) with pc := pc + 3, stack := (w.map (so_v ad)).toList ++ r.map (so_v ad) }) t2
      rw [e3]
      exact a1
  · cases o with
    | inl w => rw [ho] at hoc; cases hoc
    | inr z =>
      rw [ho] at hoc
      have hv : x = so_adr ad z := Outcome.threw.inj hoc
      obtain ⟨t2, a1, b1⟩ := kthr z rfl hfo T' (locs ++ L) S' hRs hlo'
      refine ⟨t2, hstep _ (fun acts => ?_), b1⟩
      rw [doInvoke_state]
      rw [hv] at hst
      exact hst.trans a1
end SOU
/-! THE WORDS OF A THROW OF ONE'S OWN. -/
/-- what the words of lw_tbl say at a state -/
def so_Hl (a : Array Value) (U : State) : Prop := (∀ w ∈ lw_tbl, so_gw w = true → w.before a U = true) ∧ ∀ c n d, Cond.laysStatic c n d ∈ lw_tbl → (Cond.laysStatic c n d).before a U = true
set_option maxRecDepth 20000 in
theorem ow_A {a : Array Value} {U : State} (hg : ∀ w ∈ lw_tbl, so_gw w = true → w.before a U = true) (hs : ∀ c n d, Cond.laysStatic c n d ∈ lw_tbl → (Cond.laysStatic c n d).before a U = true) : ∀ w ∈ Bundle.throwableAtoms, w.before a U = true := by
  unfold Bundle.throwableAtoms
  exact List.forall_mem_cons.mpr ⟨(hg _ (tb_i1 (List.mem_of_getElem? (i := 15) rfl)) rfl), List.forall_mem_cons.mpr ⟨(hg _ (tb_i3 (List.mem_of_getElem? (i := 10) rfl)) rfl), List.forall_mem_cons.mpr ⟨(hg _ (tb_i3 (List.mem_of_getElem? (i := 19) rfl)) rfl), List.forall_mem_cons.mpr ⟨(hg _ (tb_i3 (List.mem_of_getElem? (i := 23) rfl)) rfl), List.forall_mem_cons.mpr ⟨(hg _ (tb_i3 (List.mem_of_getElem? (i := 26) rfl)) rfl), List.forall_mem_cons.mpr ⟨(hg _ (tb_i3 (List.mem_of_getElem? (i := 28) rfl)) rfl), List.forall_mem_cons.mpr ⟨(hg _ (tb_i3 (List.mem_of_getElem? (i := 11) rfl)) rfl), List.forall_mem_cons.mpr ⟨(hg _ (tb_i3 (List.mem_of_getElem? (i := 12) rfl)) rfl), List.forall_mem_cons.mpr ⟨(hg _ (tb_i1 (List.mem_of_getElem? (i := 35) rfl)) rfl), List.forall_mem_cons.mpr ⟨(hg _ (tb_i1 (List.mem_of_getElem? (i := 36) rfl)) rfl), List.forall_mem_cons.mpr ⟨(hg _ (tb_i3 (List.mem_of_getElem? (i := 13) rfl)) rfl), List.forall_mem_cons.mpr ⟨(hg _ (tb_i3 (List.mem_of_getElem? (i := 18) rfl)) rfl), List.forall_mem_cons.mpr ⟨(hg _ (tb_i3 (List.mem_of_getElem? (i := 24) rfl)) rfl), List.forall_mem_cons.mpr ⟨(hg _ (tb_i3 (List.mem_of_getElem? (i := 44) rfl)) rfl), List.forall_mem_cons.mpr ⟨(hg _ (tb_i3 (List.mem_of_getElem? (i := 0) rfl)) rfl), List.forall_mem_cons.mpr ⟨(hg _ (tb_i3 (List.mem_of_getElem? (i := 45) rfl)) rfl), List.forall_mem_cons.mpr ⟨(hg _ (tb_i3 (List.mem_of_getElem? (i := 2) rfl)) rfl), List.forall_mem_cons.mpr ⟨(hg _ (tb_i3 (List.mem_of_getElem? (i := 46) rfl)) rfl), List.forall_mem_cons.mpr ⟨(hg _ (tb_i3 (List.mem_of_getElem? (i := 4) rfl)) rfl), List.forall_mem_cons.mpr ⟨(hg _ (tb_i3 (List.mem_of_getElem? (i := 14) rfl)) rfl), List.forall_mem_cons.mpr ⟨(hs _ _ _ (tb_i3 (List.mem_of_getElem? (i := 15) rfl))), List.forall_mem_cons.mpr ⟨(hg _ (tb_i3 (List.mem_of_getElem? (i := 16) rfl)) rfl), List.forall_mem_cons.mpr ⟨(hs _ _ _ (tb_i3 (List.mem_of_getElem? (i := 17) rfl))), List.forall_mem_cons.mpr ⟨(hg _ (tb_i3 (List.mem_of_getElem? (i := 6) rfl)) rfl), List.forall_mem_nil _⟩⟩⟩⟩⟩⟩⟩⟩⟩⟩⟩⟩⟩⟩⟩⟩⟩⟩⟩⟩⟩⟩⟩⟩
set_option maxRecDepth 20000 in
theorem ow_B {a : Array Value} {U : State} (hg : ∀ w ∈ lw_tbl, so_gw w = true → w.before a U = true) : ∀ w ∈ Bundle.throwableSAtoms, w.before a U = true := by
  unfold Bundle.throwableSAtoms
  exact List.forall_mem_cons.mpr ⟨(hg _ (tb_i3 (List.mem_of_getElem? (i := 40) rfl)) rfl), List.forall_mem_cons.mpr ⟨(hg _ (tb_i3 (List.mem_of_getElem? (i := 41) rfl)) rfl), List.forall_mem_cons.mpr ⟨(hg _ (tb_i3 (List.mem_of_getElem? (i := 43) rfl)) rfl), List.forall_mem_cons.mpr ⟨(hg _ (tb_i3 (List.mem_of_getElem? (i := 6) rfl)) rfl), List.forall_mem_nil _⟩⟩⟩⟩
def ow_names : List String := ["java/lang/RuntimeException", "java/lang/Exception"]
set_option maxRecDepth 20000 in
theorem ow_C14 {a : Array Value} {U : State} (hg : ∀ w ∈ lw_tbl, so_gw w = true → w.before a U = true) : ∀ w ∈ Bundle.chainSAtoms (tb_RN 14) ow_names, w.before a U = true := by
  simp only [ow_names, Bundle.chainSAtoms, Bundle.passSAtoms, List.cons_append, List.nil_append]
  exact List.forall_mem_cons.mpr ⟨(hg _ (tb_i3 (List.mem_of_getElem? (i := 31) rfl)) rfl), List.forall_mem_cons.mpr ⟨(hg _ (tb_i3 (List.mem_of_getElem? (i := 32) rfl)) rfl), List.forall_mem_cons.mpr ⟨(hg _ (tb_i3 (List.mem_of_getElem? (i := 33) rfl)) rfl), List.forall_mem_cons.mpr ⟨(hg _ (tb_i3 (List.mem_of_getElem? (i := 34) rfl)) rfl), List.forall_mem_cons.mpr ⟨(hg _ (tb_i2 (List.mem_of_getElem? (i := 232) rfl)) rfl), List.forall_mem_cons.mpr ⟨(hg _ (tb_i3 (List.mem_of_getElem? (i := 34) rfl)) rfl), List.forall_mem_cons.mpr ⟨(hg _ (tb_i3 (List.mem_of_getElem? (i := 35) rfl)) rfl), List.forall_mem_cons.mpr ⟨(hg _ (tb_i3 (List.mem_of_getElem? (i := 36) rfl)) rfl), List.forall_mem_cons.mpr ⟨(hg _ (tb_i3 (List.mem_of_getElem? (i := 37) rfl)) rfl), List.forall_mem_cons.mpr ⟨(hg _ (tb_i2 (List.mem_of_getElem? (i := 234) rfl)) rfl), List.forall_mem_cons.mpr ⟨(hg _ (tb_i3 (List.mem_of_getElem? (i := 37) rfl)) rfl), List.forall_mem_cons.mpr ⟨(hg _ (tb_i3 (List.mem_of_getElem? (i := 38) rfl)) rfl), List.forall_mem_cons.mpr ⟨(hg _ (tb_i3 (List.mem_of_getElem? (i := 39) rfl)) rfl), List.forall_mem_cons.mpr ⟨(hg _ (tb_i3 (List.mem_of_getElem? (i := 40) rfl)) rfl), List.forall_mem_cons.mpr ⟨(hg _ (tb_i2 (List.mem_of_getElem? (i := 236) rfl)) rfl), List.forall_mem_nil _⟩⟩⟩⟩⟩⟩⟩⟩⟩⟩⟩⟩⟩⟩⟩
set_option maxRecDepth 20000 in
theorem ow_14 {a : Array Value} {U : State} {own : String} {ic : Nat} (hg : ∀ w ∈ lw_tbl, so_gw w = true → w.before a U = true) (hs : ∀ c n d, Cond.laysStatic c n d ∈ lw_tbl → (Cond.laysStatic c n d).before a U = true) (hl : (Cond.methodLink own ic ⟨tb_RN 14, "<init>", "(Ljava/lang/String;)V"⟩).before a U = true) (r1 : (Cond.isRef (.static "java/lang/Throwable" "UNASSIGNED_STACK" "[Ljava/lang/StackTraceElement;")).before a U = true) (r2 : (Cond.isRef (.static "java/lang/Throwable" "SUPPRESSED_SENTINEL" "Ljava/util/List;")).before a U = true) : ∀ w ∈ Bundle.ownAtoms own ic (tb_RN 14) ow_names, w.before a U = true := by
  unfold Bundle.ownAtoms
  exact List.forall_mem_append.mpr ⟨List.forall_mem_append.mpr ⟨List.forall_mem_append.mpr ⟨ow_A hg hs, ow_B hg⟩, ow_C14 hg⟩, List.forall_mem_cons.mpr ⟨hl, List.forall_mem_cons.mpr ⟨(hg _ (tb_i2 (List.mem_of_getElem? (i := 229) rfl)) rfl), List.forall_mem_cons.mpr ⟨(hg _ (tb_i2 (List.mem_of_getElem? (i := 230) rfl)) rfl), List.forall_mem_cons.mpr ⟨(hg _ (tb_i2 (List.mem_of_getElem? (i := 237) rfl)) rfl), List.forall_mem_cons.mpr ⟨(hg _ (tb_i2 (List.mem_of_getElem? (i := 238) rfl)) rfl), List.forall_mem_cons.mpr ⟨(hg _ (tb_i2 (List.mem_of_getElem? (i := 239) rfl)) rfl), List.forall_mem_cons.mpr ⟨(hg _ (tb_i3 (List.mem_of_getElem? (i := 1) rfl)) rfl), List.forall_mem_cons.mpr ⟨(hg _ (tb_i3 (List.mem_of_getElem? (i := 3) rfl)) rfl), List.forall_mem_cons.mpr ⟨(hg _ (tb_i3 (List.mem_of_getElem? (i := 5) rfl)) rfl), List.forall_mem_cons.mpr ⟨r1, List.forall_mem_cons.mpr ⟨r2, List.forall_mem_cons.mpr ⟨(hg _ (tb_i3 (List.mem_of_getElem? (i := 9) rfl)) rfl), List.forall_mem_cons.mpr ⟨(hg _ (tb_i3 (List.mem_of_getElem? (i := 8) rfl)) rfl), List.forall_mem_cons.mpr ⟨(hg _ (tb_i3 (List.mem_of_getElem? (i := 7) rfl)) rfl), List.forall_mem_nil _⟩⟩⟩⟩⟩⟩⟩⟩⟩⟩⟩⟩⟩⟩⟩
set_option maxRecDepth 20000 in
theorem ow_k14 : Cond.castable (tb_RN 14) (tb_RN 14) ∈ lw_tbl := tb_i2 (List.mem_of_getElem? (i := 230) rfl)
set_option maxRecDepth 20000 in
theorem ow_C15 {a : Array Value} {U : State} (hg : ∀ w ∈ lw_tbl, so_gw w = true → w.before a U = true) : ∀ w ∈ Bundle.chainSAtoms (tb_RN 15) ow_names, w.before a U = true := by
  simp only [ow_names, Bundle.chainSAtoms, Bundle.passSAtoms, List.cons_append, List.nil_append]
  exact List.forall_mem_cons.mpr ⟨(hg _ (tb_i3 (List.mem_of_getElem? (i := 78) rfl)) rfl), List.forall_mem_cons.mpr ⟨(hg _ (tb_i3 (List.mem_of_getElem? (i := 79) rfl)) rfl), List.forall_mem_cons.mpr ⟨(hg _ (tb_i3 (List.mem_of_getElem? (i := 80) rfl)) rfl), List.forall_mem_cons.mpr ⟨(hg _ (tb_i3 (List.mem_of_getElem? (i := 34) rfl)) rfl), List.forall_mem_cons.mpr ⟨(hg _ (tb_i2 (List.mem_of_getElem? (i := 232) rfl)) rfl), List.forall_mem_cons.mpr ⟨(hg _ (tb_i3 (List.mem_of_getElem? (i := 34) rfl)) rfl), List.forall_mem_cons.mpr ⟨(hg _ (tb_i3 (List.mem_of_getElem? (i := 35) rfl)) rfl), List.forall_mem_cons.mpr ⟨(hg _ (tb_i3 (List.mem_of_getElem? (i := 36) rfl)) rfl), List.forall_mem_cons.mpr ⟨(hg _ (tb_i3 (List.mem_of_getElem? (i := 37) rfl)) rfl), List.forall_mem_cons.mpr ⟨(hg _ (tb_i2 (List.mem_of_getElem? (i := 234) rfl)) rfl), List.forall_mem_cons.mpr ⟨(hg _ (tb_i3 (List.mem_of_getElem? (i := 37) rfl)) rfl), List.forall_mem_cons.mpr ⟨(hg _ (tb_i3 (List.mem_of_getElem? (i := 38) rfl)) rfl), List.forall_mem_cons.mpr ⟨(hg _ (tb_i3 (List.mem_of_getElem? (i := 39) rfl)) rfl), List.forall_mem_cons.mpr ⟨(hg _ (tb_i3 (List.mem_of_getElem? (i := 40) rfl)) rfl), List.forall_mem_cons.mpr ⟨(hg _ (tb_i2 (List.mem_of_getElem? (i := 236) rfl)) rfl), List.forall_mem_nil _⟩⟩⟩⟩⟩⟩⟩⟩⟩⟩⟩⟩⟩⟩⟩
set_option maxRecDepth 20000 in
theorem ow_15 {a : Array Value} {U : State} {own : String} {ic : Nat} (hg : ∀ w ∈ lw_tbl, so_gw w = true → w.before a U = true) (hs : ∀ c n d, Cond.laysStatic c n d ∈ lw_tbl → (Cond.laysStatic c n d).before a U = true) (hl : (Cond.methodLink own ic ⟨tb_RN 15, "<init>", "(Ljava/lang/String;)V"⟩).before a U = true) (r1 : (Cond.isRef (.static "java/lang/Throwable" "UNASSIGNED_STACK" "[Ljava/lang/StackTraceElement;")).before a U = true) (r2 : (Cond.isRef (.static "java/lang/Throwable" "SUPPRESSED_SENTINEL" "Ljava/util/List;")).before a U = true) : ∀ w ∈ Bundle.ownAtoms own ic (tb_RN 15) ow_names, w.before a U = true := by
  unfold Bundle.ownAtoms
  exact List.forall_mem_append.mpr ⟨List.forall_mem_append.mpr ⟨List.forall_mem_append.mpr ⟨ow_A hg hs, ow_B hg⟩, ow_C15 hg⟩, List.forall_mem_cons.mpr ⟨hl, List.forall_mem_cons.mpr ⟨(hg _ (tb_i3 (List.mem_of_getElem? (i := 68) rfl)) rfl), List.forall_mem_cons.mpr ⟨(hg _ (tb_i3 (List.mem_of_getElem? (i := 69) rfl)) rfl), List.forall_mem_cons.mpr ⟨(hg _ (tb_i3 (List.mem_of_getElem? (i := 70) rfl)) rfl), List.forall_mem_cons.mpr ⟨(hg _ (tb_i3 (List.mem_of_getElem? (i := 21) rfl)) rfl), List.forall_mem_cons.mpr ⟨(hg _ (tb_i3 (List.mem_of_getElem? (i := 71) rfl)) rfl), List.forall_mem_cons.mpr ⟨(hg _ (tb_i3 (List.mem_of_getElem? (i := 72) rfl)) rfl), List.forall_mem_cons.mpr ⟨(hg _ (tb_i3 (List.mem_of_getElem? (i := 73) rfl)) rfl), List.forall_mem_cons.mpr ⟨(hg _ (tb_i3 (List.mem_of_getElem? (i := 74) rfl)) rfl), List.forall_mem_cons.mpr ⟨r1, List.forall_mem_cons.mpr ⟨r2, List.forall_mem_cons.mpr ⟨(hg _ (tb_i3 (List.mem_of_getElem? (i := 9) rfl)) rfl), List.forall_mem_cons.mpr ⟨(hg _ (tb_i3 (List.mem_of_getElem? (i := 8) rfl)) rfl), List.forall_mem_cons.mpr ⟨(hg _ (tb_i3 (List.mem_of_getElem? (i := 75) rfl)) rfl), List.forall_mem_nil _⟩⟩⟩⟩⟩⟩⟩⟩⟩⟩⟩⟩⟩⟩⟩
set_option maxRecDepth 20000 in
theorem ow_k15 : Cond.castable (tb_RN 15) (tb_RN 15) ∈ lw_tbl := tb_i3 (List.mem_of_getElem? (i := 69) rfl)
set_option maxRecDepth 20000 in
theorem ow_C16 {a : Array Value} {U : State} (hg : ∀ w ∈ lw_tbl, so_gw w = true → w.before a U = true) : ∀ w ∈ Bundle.chainSAtoms (tb_RN 16) ow_names, w.before a U = true := by
  simp only [ow_names, Bundle.chainSAtoms, Bundle.passSAtoms, List.cons_append, List.nil_append]
  exact List.forall_mem_cons.mpr ⟨(hg _ (tb_i6 (List.mem_of_getElem? (i := 177) rfl)) rfl), List.forall_mem_cons.mpr ⟨(hg _ (tb_i6 (List.mem_of_getElem? (i := 178) rfl)) rfl), List.forall_mem_cons.mpr ⟨(hg _ (tb_i6 (List.mem_of_getElem? (i := 179) rfl)) rfl), List.forall_mem_cons.mpr ⟨(hg _ (tb_i3 (List.mem_of_getElem? (i := 34) rfl)) rfl), List.forall_mem_cons.mpr ⟨(hg _ (tb_i2 (List.mem_of_getElem? (i := 232) rfl)) rfl), List.forall_mem_cons.mpr ⟨(hg _ (tb_i3 (List.mem_of_getElem? (i := 34) rfl)) rfl), List.forall_mem_cons.mpr ⟨(hg _ (tb_i3 (List.mem_of_getElem? (i := 35) rfl)) rfl), List.forall_mem_cons.mpr ⟨(hg _ (tb_i3 (List.mem_of_getElem? (i := 36) rfl)) rfl), List.forall_mem_cons.mpr ⟨(hg _ (tb_i3 (List.mem_of_getElem? (i := 37) rfl)) rfl), List.forall_mem_cons.mpr ⟨(hg _ (tb_i2 (List.mem_of_getElem? (i := 234) rfl)) rfl), List.forall_mem_cons.mpr ⟨(hg _ (tb_i3 (List.mem_of_getElem? (i := 37) rfl)) rfl), List.forall_mem_cons.mpr ⟨(hg _ (tb_i3 (List.mem_of_getElem? (i := 38) rfl)) rfl), List.forall_mem_cons.mpr ⟨(hg _ (tb_i3 (List.mem_of_getElem? (i := 39) rfl)) rfl), List.forall_mem_cons.mpr ⟨(hg _ (tb_i3 (List.mem_of_getElem? (i := 40) rfl)) rfl), List.forall_mem_cons.mpr ⟨(hg _ (tb_i2 (List.mem_of_getElem? (i := 236) rfl)) rfl), List.forall_mem_nil _⟩⟩⟩⟩⟩⟩⟩⟩⟩⟩⟩⟩⟩⟩⟩
set_option maxRecDepth 20000 in
theorem ow_16 {a : Array Value} {U : State} {own : String} {ic : Nat} (hg : ∀ w ∈ lw_tbl, so_gw w = true → w.before a U = true) (hs : ∀ c n d, Cond.laysStatic c n d ∈ lw_tbl → (Cond.laysStatic c n d).before a U = true) (hl : (Cond.methodLink own ic ⟨tb_RN 16, "<init>", "(Ljava/lang/String;)V"⟩).before a U = true) (r1 : (Cond.isRef (.static "java/lang/Throwable" "UNASSIGNED_STACK" "[Ljava/lang/StackTraceElement;")).before a U = true) (r2 : (Cond.isRef (.static "java/lang/Throwable" "SUPPRESSED_SENTINEL" "Ljava/util/List;")).before a U = true) : ∀ w ∈ Bundle.ownAtoms own ic (tb_RN 16) ow_names, w.before a U = true := by
  unfold Bundle.ownAtoms
  exact List.forall_mem_append.mpr ⟨List.forall_mem_append.mpr ⟨List.forall_mem_append.mpr ⟨ow_A hg hs, ow_B hg⟩, ow_C16 hg⟩, List.forall_mem_cons.mpr ⟨hl, List.forall_mem_cons.mpr ⟨(hg _ (tb_i6 (List.mem_of_getElem? (i := 167) rfl)) rfl), List.forall_mem_cons.mpr ⟨(hg _ (tb_i6 (List.mem_of_getElem? (i := 168) rfl)) rfl), List.forall_mem_cons.mpr ⟨(hg _ (tb_i6 (List.mem_of_getElem? (i := 169) rfl)) rfl), List.forall_mem_cons.mpr ⟨(hg _ (tb_i3 (List.mem_of_getElem? (i := 22) rfl)) rfl), List.forall_mem_cons.mpr ⟨(hg _ (tb_i6 (List.mem_of_getElem? (i := 170) rfl)) rfl), List.forall_mem_cons.mpr ⟨(hg _ (tb_i6 (List.mem_of_getElem? (i := 171) rfl)) rfl), List.forall_mem_cons.mpr ⟨(hg _ (tb_i6 (List.mem_of_getElem? (i := 172) rfl)) rfl), List.forall_mem_cons.mpr ⟨(hg _ (tb_i6 (List.mem_of_getElem? (i := 173) rfl)) rfl), List.forall_mem_cons.mpr ⟨r1, List.forall_mem_cons.mpr ⟨r2, List.forall_mem_cons.mpr ⟨(hg _ (tb_i3 (List.mem_of_getElem? (i := 9) rfl)) rfl), List.forall_mem_cons.mpr ⟨(hg _ (tb_i3 (List.mem_of_getElem? (i := 8) rfl)) rfl), List.forall_mem_cons.mpr ⟨(hg _ (tb_i6 (List.mem_of_getElem? (i := 174) rfl)) rfl), List.forall_mem_nil _⟩⟩⟩⟩⟩⟩⟩⟩⟩⟩⟩⟩⟩⟩⟩
set_option maxRecDepth 20000 in
theorem ow_k16 : Cond.castable (tb_RN 16) (tb_RN 16) ∈ lw_tbl := tb_i6 (List.mem_of_getElem? (i := 168) rfl)
/-! WHERE AN EXCEPTION IS CAUGHT. -/
section SOF
variable {p : Program} {l : Launch} {e : Env} {R : Room} {s : State} {m : MethodId} {args : Array Value} {below : List Frame} {meth : Method} {c : Code} {H : Heap} {locs : List Loc} {cells slots : Nat} {Q : State → Prop}
variable {pc y : Nat} {lsA : Array Slot} {ad : Nat → Option Nat} {h h2 : ax_H} {H0 : Heap}
theorem so_xk {x : Nat} (h1 : 14 ≤ x) (h2 : x < 17) : Cond.castable (tb_RN x) (tb_RN x) ∈ lw_tbl ∧ Cond.instantiable (tb_RN x) 6 ∈ lw_tbl := by
  have h3 : x = 14 ∨ x = 15 ∨ x = 16 := by omega
  rcases h3 with rfl | rfl | rfl
  · exact ⟨ow_k14, xw_14.1⟩
  · exact ⟨ow_k15, xw_15.1⟩
  · exact ⟨ow_k16, xw_16.1⟩
theorem so_goN {E : CtlPost} {d : Bool} {acts : List Action} {s : State} {f : JFrame} {a : Addr} {Q : Handler → Pre} {x : ExceptionTableEntry} {t : List ExceptionTableEntry} (hx : covers x f.pc = false) :
    wp (findHandler.go f a (x :: t)) Q E e d acts s ↔ wp (findHandler.go f a t) Q E e d acts s := by
  simp only [covers] at hx
  simp [findHandler.go, hx]
theorem so_findgo (hpl : e.platform.magicAccessors = ({} : Platform).magicAccessors) {cls : Nat} {f : JFrame} {a : Addr} {cell : Cell} {z t : Nat} (hz1 : 14 ≤ z) (hz2 : z < 17) (hown : s.vm.findClass (tb_RN cls) = some f.method.cls)
    (hw : ∀ w ∈ lw_tbl, so_gw w = true → w.before args s = true) (hN : ∀ x y, 14 ≤ x → x < 17 → 14 ≤ y → y < 17 → x ≠ y → va_Nc (tb_RN x) (tb_RN y) s)
    (hcls : s.vm.findClass (tb_RN z) = some cell.cls) (hvm : cell.vm = .none) :
    ∀ (hs : List (Nat × Nat × Nat × Nat × Nat × Nat)) (U : State), s.WarmedH U.vm → U.heap[a]? = some cell →
      (hs.all (fun q => decide (q.2.2.2.1 ≠ 0) && decide (14 ≤ q.2.2.2.2.1) && decide (q.2.2.2.2.1 < 17) && tb_k q.2.2.2.2.2 (16, cls, q.2.2.2.1, 0, q.2.2.2.2.1, 0)) = true) → ax_catch hs f.pc (2 * z + 2) = some t →
      ∃ vm', s.WarmedH vm' ∧ ∀ (Q : Handler → Pre) (E : CtlPost) (d : Bool) (acts : List Action), wp (findHandler.go f a (hs.map (fun q => ⟨q.1, q.2.1, q.2.2.1, q.2.2.2.1⟩))) Q E e d acts U ↔ Q (.found t) d acts (U.setVm vm') := by
  intro hs
  induction hs with
  | nil => intro U _ _ _ hc; cases hc
  | cons q r ih =>
    intro U hW hcell hall hc
    obtain ⟨s1, e1, t1, ct, x, lk⟩ := q
    rw [List.all_cons, Bool.and_eq_true] at hall
    obtain ⟨hq, hall⟩ := hall
    simp only [Bool.and_eq_true, decide_eq_true_eq] at hq
    obtain ⟨⟨⟨q1, q2⟩, q3⟩, q4⟩ := hq
    have q5 : Cond.classLink (tb_RN cls) ct (tb_RN x) ∈ lw_tbl := so_lk q4
    simp only [ax_catch] at hc
    rw [List.map_cons]
    by_cases hcov : s1 ≤ f.pc ∧ f.pc < e1
    · have hx : covers ⟨s1, e1, t1, ct⟩ f.pc = true := by simp [covers, hcov.1, hcov.2]
      obtain ⟨cc, hcc, hlinks⟩ := Cond.classLink_spec hown (hw _ q5 rfl) e.platform hpl
      obtain ⟨g1, g2, g3⟩ := State.classEntry (e := e) hW hlinks
      obtain ⟨k1, k2⟩ := so_xk hz1 hz2
      obtain ⟨j1, j2⟩ := so_xk q2 q3
      obtain ⟨cz, kz, hcz, hkz, -⟩ := Cond.instantiable_spec (hw _ k2 rfl)
      obtain ⟨cx, kx, hcx, hkx, -⟩ := Cond.instantiable_spec (hw _ j2 rfl)
      cases Option.some.inj (hcz.symm.trans hcls)
      cases Option.some.inj (hcx.symm.trans hcc)
      obtain ⟨kz', hkz', -⟩ := g2.alike.2.2 _ _ hkz
      obtain ⟨kx', hkx', -⟩ := g2.alike.2.2 _ _ hkx
      have hgo := fun (Q : Handler → Pre) (E : CtlPost) (d : Bool) (acts : List Action) => so_go (E := E) (e := e) (d := d) (acts := acts) (s := U) (f := f) (a := a) (Q := Q) (t := r.map (fun q => ⟨q.1, q.2.1, q.2.2.1, q.2.2.2.1⟩)) hx q1 g1 (by rw [g2.2.1, hW.2.1]; exact Nat.le_refl _) hcell (fun k e => by rw [hvm] at e; cases e) ⟨_, hkz'⟩ ⟨_, hkx'⟩
      by_cases hxz : x = z
      · subst hxz
        rw [if_pos ⟨hcov.1, hcov.2, rfl⟩] at hc
        cases hc
        obtain ⟨c3, c4, hc3, hc4, hasg⟩ := Cond.castable_spec (hw _ k1 rfl)
        cases Option.some.inj (hc3.symm.trans hcls)
        cases Option.some.inj (hc4.symm.trans hcc)
        refine ⟨_, g2, fun Q E d acts => ?_⟩
        rw [hgo Q E d acts, if_pos (by rw [g2.alike.assignable]; exact hasg)]
      · rw [if_neg (fun q => hxz (by omega))] at hc
        obtain ⟨c3, c4, hc3, hc4, hasg⟩ := hN z x hz1 hz2 q2 q3 (fun e => hxz e.symm)
        cases Option.some.inj (hc3.symm.trans hcls)
        cases Option.some.inj (hc4.symm.trans hcc)
        obtain ⟨vm', i1, i2⟩ := ih (U.setVm (U.vm.noted f.method.cls ct (.cls cc))) g2 hcell hall hc
        refine ⟨vm', i1, fun Q E d acts => ?_⟩
        rw [hgo Q E d acts, if_neg (by rw [g2.alike.assignable, hasg]; exact Bool.false_ne_true)]
        exact i2 Q E d acts
    · rw [if_neg (fun q => hcov ⟨q.1, q.2.1⟩)] at hc
      obtain ⟨vm', i1, i2⟩ := ih U hW hcell hall hc
      refine ⟨vm', i1, fun Q E d acts => ?_⟩
      rw [so_goN]
      · exact i2 Q E d acts
      · simp only [covers]
        by_cases a1 : s1 ≤ f.pc
        · have : ¬ f.pc < e1 := fun q => hcov ⟨a1, q⟩
          simp [this]
        · simp [a1]
theorem so_xo_in {h : ax_H} (hr : so_rest h) {x z : Nat} (he : ax_ex h x = 2 * z + 2) : x < 27 + h.1 := by
  rcases Nat.lt_or_ge x (27 + h.1) with q | q
  · exact q
  · have := (hr.1 x q).2.1
    omega
theorem so_handler {T : State} {x z t : Nat} {stk : List Value} (X : so_Ctx p e s m args meth c ad H0 y) (S : Stand p l e R s m args below meth c T locs cells slots) (hR : so_Rel s ad H0 h T.heap)
    (h1 : 14 ≤ z) (h2 : z < 17) (hx : ax_ex h x = 2 * z + 2) (hc : ax_catch (tb_M y).2.2.2.2.1 pc (ax_ex h x) = some t)
    (kk : W p l e R s m args below meth c T.heap locs cells slots Q (F0 m t lsA [so_v ad (.inr (.inr (some x)))])) :
    ∃ t, Steps p.tables e below ((T.setTop (F0 m pc lsA stk)).pushFrame (.throwing (so_adr ad x))) t ∧ Q t := by
  obtain ⟨x1, x2, x3, x4, x5, x6, x7, x8, x9, x10, x11, x12, x13⟩ := id X
  obtain ⟨r, cell, hr, hcell, hcls, hvm⟩ := (hR.2.2.1 x (so_xo_in hR.2.2.2.2 hx)).2.2.2 z hx
  have ha : so_adr ad x = r := by unfold so_adr; rw [hr]; rfl
  have hv : so_v ad (.inr (.inr (some x))) = .ref r := by show va_rf (ad x) = _; rw [hr]; rfl
  rw [ha]
  rw [hv] at kk
  rw [hx] at hc
  have hpl : e.platform.magicAccessors = ({} : Platform).magicAccessors := by rw [S.admits.platform]
  unfold tb_mok at x13
  rw [Bool.and_eq_true] at x13
  obtain ⟨vm', w1, w2⟩ := so_findgo (e := e) (args := args) hpl (cls := (tb_M y).1) (f := F0 m pc lsA stk) (a := r) (cell := cell) h1 h2 x4 x10 x12.2.2.2.2.2 hcls hvm (tb_M y).2.2.2.2.1 ((T.setTop (F0 m pc lsA stk)).pushFrame (.throwing r))
    (by simpa [State.pushFrame, State.setFrames, State.setTop, State.modifyTopJava] using S.warmed) (by simpa [State.pushFrame, State.setFrames, State.setTop, State.modifyTopJava] using hcell) x13.2 hc
  obtain ⟨t2, a1, b1⟩ := kk (T.setVm vm') rfl (S.noted w1)
  refine ⟨t2, so_caught (g := F0 m pc lsA stk) (c := c) (a := r) S.here (pc := t) (vm' := vm') (fun Q E d acts => ?_) a1, b1⟩
  rw [← x8] at w2
  have hm : ((T.setTop (F0 m pc lsA stk)).pushFrame (.throwing r)).vm.method? (F0 m pc lsA stk).method = some meth := by
    have : ((T.setTop (F0 m pc lsA stk)).pushFrame (.throwing r)).vm = T.vm := by simp [State.pushFrame, State.setFrames, State.setTop, State.modifyTopJava]
    rw [this]
    exact S.method'
  exact (W.findHandler_eq hm S.code).trans (w2 Q E d acts)
theorem so_leave {T : State} {x : Nat} {stk : List Value} (X : so_Ctx p e s m args meth c ad H0 y) (S : Stand p l e R s m args below meth c T locs cells slots) (hR : so_Rel s ad H0 h T.heap) (hlo : ∀ q ∈ locs, H0.size ≤ q.base) (hn : (tb_M y).2.2.2.2.1 = []) (hfo : so_fo (.inr x) h) :
    ∃ t, Steps p.tables e below ((T.setTop (F0 m pc lsA stk)).pushFrame (.throwing (so_adr ad x))) t ∧ so_Z below ad H0 s (.inr x) h cells slots t := by
  obtain ⟨x1, x2, x3, x4, x5, x6, x7, x8, x9, x10, x11, x12, x13⟩ := id X
  rw [hn] at x8
  obtain ⟨g1, g2, g3, g4, g5⟩ := S.leaveThrown (so_adr ad x) (g := F0 m pc lsA stk) rfl rfl rfl (fun q hq => by rw [x8] at hq; cases hq) x6
  exact ⟨_, g1, g2, g3, g4, ⟨locs, g5, hlo⟩, hR, hfo⟩
end SOF
/-! A THROW OF ONE'S OWN. -/
section SOW
variable {p : Program} {l : Launch} {e : Env} {R : Room} {s : State} {m : MethodId} {args : Array Value} {below : List Frame} {meth : Method} {c : Code} {H : Heap} {locs : List Loc} {cells slots : Nat} {Q : State → Prop}
variable {pc y : Nat} {lsA : Array Slot} {ad : Nat → Option Nat} {h h' : ax_H} {H0 : Heap}
theorem so_lastcell {H : Heap} {cell : Cell} {a : Nat} (hs : H.size = a + 1) (hc : H[a]? = some cell) : H = H.pop.push cell := by
  apply Array.ext_getElem?
  intro i
  rw [Array.getElem?_push, Array.getElem?_pop, Array.size_pop]
  by_cases e : i = H.size - 1
  · rw [if_pos e, e, show H.size - 1 = a by omega]
    exact hc
  · rw [if_neg e]
    by_cases e2 : i < H.size - 1
    · rw [if_pos e2]
    · rw [if_neg e2]
      rw [Array.getElem?_eq_none]
      omega
theorem so_owns {x : Nat} {a : Array Value} {U : State} {own : String} {ic : Nat} (h1 : 14 ≤ x) (h2 : x < 17) (hg : ∀ w ∈ lw_tbl, so_gw w = true → w.before a U = true) (hs : ∀ c n d, Cond.laysStatic c n d ∈ lw_tbl → (Cond.laysStatic c n d).before a U = true) (hl : (Cond.methodLink own ic ⟨tb_RN x, "<init>", "(Ljava/lang/String;)V"⟩).before a U = true) (r1 : (Cond.isRef (.static "java/lang/Throwable" "UNASSIGNED_STACK" "[Ljava/lang/StackTraceElement;")).before a U = true) (r2 : (Cond.isRef (.static "java/lang/Throwable" "SUPPRESSED_SENTINEL" "Ljava/util/List;")).before a U = true) :
    (∀ w ∈ Bundle.ownAtoms own ic (tb_RN x) ow_names, w.before a U = true) ∧ Bundle.fit (tb_RN x) = true := by
  have h3 : x = 14 ∨ x = 15 ∨ x = 16 := by omega
  rcases h3 with rfl | rfl | rfl
  · exact ⟨ow_14 hg hs hl r1 r2, by decide +kernel⟩
  · exact ⟨ow_15 hg hs hl r1 r2, by decide +kernel⟩
  · exact ⟨ow_16 hg hs hl r1 r2, by decide +kernel⟩
/-- the state as it would be if the invocation had begun with all that is there now, but the last cell -/
def so_virt (s T : State) : State := { s with heap := T.heap.pop, slotsUsed := T.heap.pop.foldl (fun n c => n + c.slots.size) 0 }
theorem so_virt_stand {T : State} {cell : Cell} {a : Nat} (S : Stand p l e R s m args below meth c T locs cells slots) (hcells : cells ≤ R.cells) (hslots : slots ≤ R.slots) (hs : T.heap.size = a + 1) (hc : T.heap[a]? = some cell) :
    Stand p l e { R with cells := 0, slots := 0 } (so_virt s T) m args below meth c T [] 1 cell.slots.size := by
  have hH := so_lastcell hs hc
  have hbook := S.book
  have hroom := S.room
  have hu := S.used
  have hz := S.heapSize
  have hsame := S.same
  simp only [State.slotsTrue, beq_iff_eq] at hbook
  have hfold : T.heap.foldl (fun n c => n + c.slots.size) 0 = T.heap.pop.foldl (fun n c => n + c.slots.size) 0 + cell.slots.size := by
    conv => lhs; rw [hH]
    rw [Array.foldl_push]
  rw [hfold] at hbook
  have hsz : T.heap.pop.size = a := by rw [Array.size_pop, hs]; rfl
  have hdrop : (T.heap.toList.drop T.heap.pop.size).map (·.slots.size) = [cell.slots.size] := by
    rw [hsz]
    conv => lhs; rw [hH]
    rw [Array.toList_push, List.drop_append_of_le_length (by simp [hs])]
    rw [List.drop_of_length_le (by simp [hs])]
    simp
  refine ⟨S.admits, S.cas, S.clock, S.frames, ?_, S.hears, S.method, S.code, S.here, S.tail, S.warmed, S.limits, S.bytes, ?_, ?_, ?_, ?_, ?_, ?_⟩
  · simp only [State.hasRoom, Bool.and_eq_true, decide_eq_true_eq] at hroom ⊢
    obtain ⟨⟨⟨⟨q1, q2⟩, q3⟩, q4⟩, q5⟩ := hroom
    refine ⟨⟨⟨⟨q1, q2⟩, ?_⟩, ?_⟩, ?_⟩
    · show T.heap.pop.size + 0 ≤ _
      omega
    · show T.heap.pop.foldl (fun n c => n + c.slots.size) 0 + 0 ≤ _
      omega
    · simp [State.slotsTrue, so_virt]
  · exact hsame.1
  · show T.heap.pop.size ≤ T.heap.size
    omega
  · show T.heap.size ≤ T.heap.pop.size + 1
    omega
  · show T.slotsUsed = T.heap.pop.foldl (fun n c => n + c.slots.size) 0 + ((T.heap.toList.drop T.heap.pop.size).map (·.slots.size)).sum
    rw [hdrop, List.sum_singleton]
    exact hbook
  · show ((T.heap.toList.drop T.heap.pop.size).map (·.slots.size)).sum ≤ _
    rw [hdrop, List.sum_singleton]
    exact Nat.le_refl _
  · intro q cq hq
    have hq : T.heap.pop[q]? = some cq := hq
    refine ⟨cq, ?_, rfl, rfl, fun _ _ => rfl⟩
    show T.heap[q]? = some cq
    rw [Array.getElem?_pop] at hq
    split at hq
    · exact hq
    · cases hq
/-- one cell of six slots has been written: nothing else -/
theorem so_same6 {T U : State} {cell ce : Cell} {a : Nat} {fU : List Frame} (S : Stand p l e R s m args below meth c T locs cells slots) (hT : T.heap[a]? = some cell) (hce : U.heap[a]? = some ce) (he : ce = { cell with slots := ce.slots }) (h6 : ce.slots.size = cell.slots.size)
    (hsz : U.heap.size = T.heap.size) (hne : ∀ q, q ≠ a → U.heap[q]? = T.heap[q]?) (hu : U.slotsUsed = T.slotsUsed) (h1 : ({ U with vm := s.vm } : State) = { s.setFrames fU with heap := U.heap, slotsUsed := U.slotsUsed }) (hf : U.frames = fU) :
    s.sameButNew ({ U with vm := s.vm } : State) (locs ++ (List.range cell.slots.size).map (fun i => ⟨a, i⟩)) cells slots := by
  obtain ⟨-, g2, g3, g4, g5, g6⟩ := S.same
  have g2 : s.heap.size ≤ T.heap.size := g2
  have g3 : T.heap.size ≤ s.heap.size + cells := g3
  have g4 : T.slotsUsed = s.slotsUsed + ((T.heap.toList.drop s.heap.size).map (·.slots.size)).sum := g4
  have g5 : ((T.heap.toList.drop s.heap.size).map (·.slots.size)).sum ≤ slots := g5
  have hm : U.heap.toList.map (·.slots.size) = T.heap.toList.map (·.slots.size) := by
    apply List.ext_getElem?
    intro i
    rw [List.getElem?_map, List.getElem?_map, Array.getElem?_toList, Array.getElem?_toList]
    by_cases e : i = a
    · subst e
      rw [hce, hT]
      exact congrArg some h6
    · rw [hne i e]
  have hd : (U.heap.toList.drop s.heap.size).map (·.slots.size) = (T.heap.toList.drop s.heap.size).map (·.slots.size) := by rw [List.map_drop, List.map_drop, hm]
  refine ⟨?_, ?_, ?_, ?_, ?_, fun q cq hq => ?_⟩
  · show ({ U with vm := s.vm } : State) = { s.setFrames U.frames with heap := U.heap, slotsUsed := U.slotsUsed }
    rw [hf]
    exact h1
  · show s.heap.size ≤ U.heap.size
    omega
  · show U.heap.size ≤ s.heap.size + cells
    omega
  · show U.slotsUsed = s.slotsUsed + ((U.heap.toList.drop s.heap.size).map (·.slots.size)).sum
    rw [hd, hu]
    exact g4
  · show ((U.heap.toList.drop s.heap.size).map (·.slots.size)).sum ≤ slots
    rw [hd]
    exact g5
  · obtain ⟨c', i1, i2, i3, i4⟩ := g6 q cq hq
    have i1 : T.heap[q]? = some c' := i1
    by_cases e : q = a
    · subst e
      cases hT.symm.trans i1
      refine ⟨ce, hce, ?_, h6.trans i3, fun i hi => ?_⟩
      · rw [he, i2]
      · have hi2 : ¬ i < cell.slots.size := fun hlt => hi (List.mem_append_right _ (List.mem_map.mpr ⟨i, List.mem_range.mpr hlt, rfl⟩))
        rw [Array.getElem?_eq_none (by omega), Array.getElem?_eq_none (by omega)]
    · exact ⟨c', (hne q e).trans i1, i2, i3, fun i hi => i4 i (fun hh => hi (List.mem_append_left _ hh))⟩
/-- the exception is made -/
theorem so_Rel.thrown {U : Heap} {o r x : Nat} {ce : Cell} (hAD : so_AD ad H0.size) (hR : so_Rel s ad H0 h H) (ho : 27 ≤ o) (hx : ax_ex h o = 2 * x + 1) (hr : ad o = some r) (hsz : U.size = H.size) (hne : ∀ q, q ≠ r → U[q]? = H[q]?) (hce : U[r]? = some ce) (hcls : s.vm.findClass (tb_RN x) = some ce.cls) (hvm : ce.vm = .none) :
    so_Rel s ad H0 (ax_sete h o (2 * x + 2)) U := by
  have hin : o < 27 + h.1 := by
    rcases Nat.lt_or_ge o (27 + h.1) with q | q
    · exact q
    · have := (hR.2.2.2.2.1 o q).2.1
      omega
  obtain ⟨hkd, -⟩ := hR.2.2.2.2.2.2.1 o (by omega)
  have hrr : H0.size ≤ r := by
    have := hAD.new ho
    rw [hr] at this
    have := Option.some.inj this
    omega
  have hex : ∀ b, ax_ex (ax_sete h o (2 * x + 2)) b = if b = o then 2 * x + 2 else ax_ex h b := fun b => rfl
  refine ⟨hsz.trans hR.1, fun q hq => ?_, fun a ha => ?_, hR.2.2.2.1, fun a ha => ?_, hR.2.2.2.2.2.1, fun a ha => ?_, hR.2.2.2.2.2.2.2⟩
  · rw [hne q (by omega)]
    exact hR.2.1 q hq
  · by_cases e : a = o
    · subst e
      refine ⟨fun ty hty => ?_, fun ci hci => ?_, fun z hz => ?_, fun z hz => ?_⟩
      · have hty : so_ty (ax_kd h a).1 = some ty := hty
        rw [hkd] at hty
        cases hty
      · have hci : (ax_kd h a).1 = 100 + ci := hci
        rw [hkd] at hci
        have hci : 50 = 100 + ci := hci
        omega
      · rw [hex, if_pos rfl] at hz
        omega
      · rw [hex, if_pos rfl] at hz
        have : z = x := by omega
        subst this
        exact ⟨r, ce, hr, hce, hcls, hvm⟩
    · refine (hR.2.2.1 a ha).kept (fun g q hq => hne q (hAD.apart ho e (g.ne hR.2.2.2.2) hq hr)) rfl (fun _ => rfl) (fun _ => rfl) ?_
      rw [hex, if_neg e]
  · have e : a ≠ o := by
      have : 27 + h.1 ≤ a := ha
      omega
    obtain ⟨g1, g2, g3⟩ := hR.2.2.2.2.1 a ha
    refine ⟨g1, ?_, g3⟩
    rw [hex, if_neg e]
    exact g2
  · by_cases e : a = o
    · subst e
      exact ⟨hkd, ho⟩
    · rw [hex, if_neg e] at ha
      exact hR.2.2.2.2.2.2.1 a ha
end SOW
/-! THE THROW's ROW. -/
section SOX
variable {p : Program} {l : Launch} {e : Env} {R : Room} {s : State} {m : MethodId} {args : Array Value} {below : List Frame} {meth : Method} {c : Code} {H : Heap} {locs : List Loc} {cells slots : Nat} {Q : State → Prop}
variable {pc y : Nat} {lsA : Array Slot} {ad : Nat → Option Nat} {h h' : ax_H} {H0 : Heap}
theorem so_throwW {ic x : Nat} {st : List ax_V} {oc : ax_O} (X : so_Ctx p e s m args meth c ad H0 y) (hR : so_Rel s ad H0 h H) (hlo : ∀ q ∈ locs, H0.size ≤ q.base) (hcells : cells ≤ R.cells) (hslots : slots ≤ R.slots) (hfr : 10 ≤ R.frames) (hloc : 200 ≤ R.locals) (hsize : lsA.size = c.maxLocals)
    (hx1 : 14 ≤ x) (hx2 : x < 17) (hlink : Cond.methodLink (tb_RN (tb_M y).1) ic ⟨tb_RN x, "<init>", "(Ljava/lang/String;)V"⟩ ∈ lw_tbl) (hdg : decode (tb_bytes y) pc = .ok (.invokespecial ic, 3)) (hda : decode (tb_bytes y) (pc + 3) = .ok (.athrow, 1))
    (hth : ax_throw (tb_M y) pc x st h = some (oc, h')) :
    W p l e R s m args below meth c H locs cells slots (so_Z below ad H0 s oc h' cells slots) (F0 m pc lsA (st.map (so_v ad))) := by
  intro T hT S
  obtain ⟨x1, x2, x3, x4, x5, x6, x7, x8, x9, x10, x11, x12, x13⟩ := id X
  unfold ax_throw at hth
  split at hth
  · rename_i ms o o2 r
    split at hth
    · rename_i hcond
      obtain ⟨rfl, hex, ⟨ho, hlast⟩, hwt, -, htab⟩ := hcond
      cases hth
      obtain ⟨ra, cX, kX, hra, hfX, hkX, hcell⟩ := (hR.2.2.1 o (by omega)).2.2.1 x hex
      rw [← hT] at hR hcell
      have hra2 := x11.new ho
      rw [hra] at hra2
      have hra2 := Option.some.inj hra2
      have hTs : T.heap.size = ra + 1 := by rw [hR.1]; omega
      have S2 := so_virt_stand S hcells hslots hTs hcell
      obtain ⟨s0, a0, hW0, hH0, hws, hr1, hr2⟩ := x12.2.2.2.1
      have hkeep : Jvm.Free.StaticsKept s0 (so_virt s T) := Jvm.Free.StaticsKept.of_kept (fun q cq hq => by
        show T.heap.pop[q]? = some cq
        have hlt : q < H0.size := by rw [← hH0]; exact (Array.getElem?_eq_some_iff.mp hq).1
        have hlt2 : q < T.heap.size - 1 := by rw [hTs]; exact Nat.lt_of_lt_of_le hlt (by rw [hra2]; exact Nat.le_add_right _ _)
        rw [Array.getElem?_pop, if_pos hlt2, hR.2.1 q hlt, ← hH0]
        exact hq)
      have hgood : ∀ w ∈ lw_tbl, so_gw w = true → w.before args (so_virt s T) = true := so_words (s := s) (U := so_virt s T) (State.WarmedH.refl s) x10
      have halike : s0.vm.Alike (so_virt s T).vm := hW0.alike
      obtain ⟨hat, hfit⟩ := so_owns hx1 hx2 hgood (fun cc n d hm => Jvm.Free.laysStatic_keep (a' := args) halike hkeep (hws _ hm)) (hgood _ hlink rfl) (Jvm.Free.isRefStatic_keep (a' := args) halike hkeep hr1) (Jvm.Free.isRefStatic_keep (a' := args) halike hkeep hr2)
      have hnm : ∀ n ∈ ow_names, Bundle.fit n = true := by decide +kernel
      have hst : (([.inr (.inr (some ms)), .inr (.inr (some o)), .inr (.inr (some o))] : List ax_V) ++ r).map (so_v ad) = va_rf (ad ms) :: .ref ra :: .ref ra :: r.map (so_v ad) := by
        show va_rf (ad ms) :: va_rf (ad o) :: va_rf (ad o) :: _ = _
        rw [hra]
        rfl
      have hmsg : (va_rf (ad ms)).isRef = true := by
        cases ad ms <;> rfl
      obtain ⟨U, k1, k2, k3, k4, k5, ce, k6, k7⟩ := S2.ctorThrowS (own := tb_RN (tb_M y).1) (cls := tb_RN x) (names := ow_names) (ic := ic) x1 x9 x4 hfit hnm hat (fun q hq => by cases hq) (a := ra) (cX := cX) (kX := kX) hfX hkX hcell
        (by show T.heap.pop.size ≤ ra; rw [Array.size_pop]; omega) (msg := va_rf (ad ms)) hmsg (g := F0 m pc lsA (va_rf (ad ms) :: .ref ra :: .ref ra :: r.map (so_v ad))) rfl hsize rfl rfl (rest := r.map (so_v ad)) rfl (by rw [x2]; exact hdg) (by rw [x2]; exact hda)
        (fun q hq => by rw [x8, htab] at hq; cases hq) (by show 2 + 3 < R.frames; omega) (by
          show 2 * 0 + (1 + ((r.map (so_v ad)).map fun v => v.category).sum) + (13 * (2 + 1) + 42) ≤ R.locals
          rw [so_wt]; omega) x6
      obtain ⟨f1, f2, f3, f4, f5, f6⟩ := k5
      have hps : T.heap.pop.size = ra := by rw [Array.size_pop, hTs]; rfl
      have f3 : U.heap.size ≤ T.heap.pop.size + 1 := f3
      have hlt := (Array.getElem?_eq_some_iff.mp k6).1
      have hUs : U.heap.size = T.heap.size := by omega
      have hne : ∀ q, q ≠ ra → U.heap[q]? = T.heap[q]? := fun q hq => by
        by_cases e : q < ra
        · have e2 : q < T.heap.size - 1 := by rw [hTs]; exact e
          have e3 : T.heap.pop[q]? = T.heap[q]? := by rw [Array.getElem?_pop, if_pos e2]
          have hqT : q < T.heap.size := by omega
          have e4 : T.heap[q]? = some T.heap[q] := Array.getElem?_eq_getElem hqT
          obtain ⟨c', i1, i2, i3, i4⟩ := f6 q T.heap[q] (e3.trans e4)
          have i1 : U.heap[q]? = some c' := i1
          rw [i1, e4, i2]
          have : c'.slots = T.heap[q].slots := by
            apply Array.ext_getElem?
            intro i
            exact i4 i (fun hh => by cases hh)
          rw [this]
        · rw [Array.getElem?_eq_none (by omega), Array.getElem?_eq_none (by omega)]
      obtain ⟨c1, kx2, hc1, hk1, -, -, -, hn6⟩ := Cond.instantiable_spec (x10 _ (so_xk hx1 hx2).2 rfl)
      cases Option.some.inj (hc1.symm.trans hfX)
      cases Option.some.inj (hk1.symm.trans hkX)
      have hcls : s.vm.findClass (tb_RN x) = some ce.cls := k7.cls
      have hcc : ce.cls = cX := Option.some.inj (hcls.symm.trans hfX)
      have he : ce = { blank cX kX with slots := ce.slots } := by
        have q1 := k7.monitor
        have q2 := k7.hash
        have q3 := k7.vm
        obtain ⟨z1, z2, z3, z4, z5⟩ := ce
        simp only at q1 q2 q3 hcc
        subst q1 q2 q3 hcc
        rfl
      have h6 : ce.slots.size = (blank cX kX).slots.size := by
        rw [k7.size]
        show 6 = (kX.instanceTypes.map defaultValue).size
        rw [Array.size_map, hn6]
      have hu : U.slotsUsed = T.slotsUsed := by
        have g4 := S2.same.2.2.2.1
        have g4 : T.slotsUsed = (so_virt s T).slotsUsed + ((T.heap.toList.drop T.heap.pop.size).map (·.slots.size)).sum := g4
        have f4 : U.slotsUsed = (so_virt s T).slotsUsed + ((U.heap.toList.drop T.heap.pop.size).map (·.slots.size)).sum := f4
        have hm : U.heap.toList.map (·.slots.size) = T.heap.toList.map (·.slots.size) := by
          apply List.ext_getElem?
          intro i
          rw [List.getElem?_map, List.getElem?_map, Array.getElem?_toList, Array.getElem?_toList]
          by_cases e : i = ra
          · subst e
            rw [k6, hcell]
            exact congrArg some h6
          · rw [hne i e]
        rw [g4, f4, List.map_drop, List.map_drop, hm]
      refine ⟨U, ?_, k2, ?_, k4, ⟨_, so_same6 S hcell k6 he h6 hUs hne hu f1 rfl, fun q hq => ?_⟩, hR.thrown x11 ho hex hra hUs hne k6 hcls k7.vm, (fun v hv => by cases hv), fun q hq => ?_⟩
      · rw [← hst] at k1
        exact k1
      · show Ended U below (.threw (so_adr ad o))
        unfold so_adr
        rw [hra]
        exact k3
      · rcases List.mem_append.mp hq with hh | hh
        · exact hlo q hh
        · obtain ⟨i, -, rfl⟩ := List.mem_map.mp hh
          show H0.size ≤ ra
          omega
      · cases hq
        exact ⟨x, hx1, hx2, if_pos rfl, ho⟩
    · cases hth
  · cases hth
end SOX
/-! RETURNS, Object's constructor, arraycopy. -/
section SOY
variable {p : Program} {l : Launch} {e : Env} {R : Room} {s : State} {m : MethodId} {args : Array Value} {below : List Frame} {meth : Method} {c : Code} {H : Heap} {locs : List Loc} {cells slots : Nat} {Q : State → Prop}
variable {pc y : Nat} {lsA : Array Slot} {ad : Nat → Option Nat} {h h' : ax_H} {H0 : Heap}
theorem so_retI {z : Int} {ty : FieldType} (X : so_Ctx p e s m args meth c ad H0 y) (hR : so_Rel s ad H0 h H) (hlo : ∀ q ∈ locs, H0.size ≤ q.base) (hr : meth.sig.returnType = some ty) (hn : narrow ty (.int (Int32.ofInt z)) = .int (Int32.ofInt z)) (hok : so_ok (.inl z)) (hdg : decode (tb_bytes y) pc = .ok (.ireturn, 1)) :
    W p l e R s m args below meth c H locs cells slots (so_Z below ad H0 s (.inl (some (.inl z))) h cells slots) (F0 m pc lsA [.int (Int32.ofInt z)]) := by
  obtain ⟨x1, x2, x3, x4, x5, x6, x7, x8, x9, x10, x11, x12, x13⟩ := id X
  refine so_ret (i := .ireturn) (v := some (.inl z)) hR hlo x6 (fun q => by rw [hr] at q; cases q) (fun w hw => by cases hw; exact hok) (fun T fs S hret => ?_)
  have hmeth' : T.vm.method? m = some meth := S.method'
  have hret2 : ∀ (f : JFrame) (acts : List Action), f.method = m → f.locked = none → f.entered = [] → (doReturn e (T.setTop f) acts (some (.int (Int32.ofInt z)))).1 = T.setFrames fs := hret
  jvm_step S.here [S.here.top, x1, x2, hdg, hmeth', hr, hn, so_v]
  (try refine ⟨rfl, ?_⟩); (try refine ⟨rfl, ?_⟩)
  first | (intro acts; rw [hret2 _ acts rfl rfl rfl]) | rw [hret2 _ _ rfl rfl rfl]
  exact Steps.refl _
theorem so_retL {z : Int} (X : so_Ctx p e s m args meth c ad H0 y) (hR : so_Rel s ad H0 h H) (hlo : ∀ q ∈ locs, H0.size ≤ q.base) (hr : meth.sig.returnType = some .long) (hok : so_ok (.inr (.inl z))) (hdg : decode (tb_bytes y) pc = .ok (.lreturn, 1)) :
    W p l e R s m args below meth c H locs cells slots (so_Z below ad H0 s (.inl (some (.inr (.inl z)))) h cells slots) (F0 m pc lsA [.long (Int64.ofInt z)]) := by
  obtain ⟨x1, x2, x3, x4, x5, x6, x7, x8, x9, x10, x11, x12, x13⟩ := id X
  refine so_ret (i := .lreturn) (v := some (.inr (.inl z))) hR hlo x6 (fun q => by rw [hr] at q; cases q) (fun w hw => by cases hw; exact hok) (fun T fs S hret => ?_)
  have hmeth' : T.vm.method? m = some meth := S.method'
  have hret2 : ∀ (f : JFrame) (acts : List Action), f.method = m → f.locked = none → f.entered = [] → (doReturn e (T.setTop f) acts (some (.long (Int64.ofInt z)))).1 = T.setFrames fs := hret
  jvm_step S.here [S.here.top, x1, x2, hdg, hmeth', hr, so_v]
  (try refine ⟨rfl, ?_⟩); (try refine ⟨rfl, ?_⟩)
  first | (intro acts; rw [hret2 _ acts rfl rfl rfl]) | rw [hret2 _ _ rfl rfl rfl]
  exact Steps.refl _
theorem so_retV (X : so_Ctx p e s m args meth c ad H0 y) (hR : so_Rel s ad H0 h H) (hlo : ∀ q ∈ locs, H0.size ≤ q.base) (hr : meth.sig.returnType = none) (hdg : decode (tb_bytes y) pc = .ok (.return_, 1)) :
    W p l e R s m args below meth c H locs cells slots (so_Z below ad H0 s (.inl none) h cells slots) (F0 m pc lsA []) := by
  obtain ⟨x1, x2, x3, x4, x5, x6, x7, x8, x9, x10, x11, x12, x13⟩ := id X
  refine so_ret (i := .return_) (v := none) hR hlo x6 (fun _ => rfl) (fun w hw => by cases hw) (fun T fs S hret => ?_)
  have hmeth' : T.vm.method? m = some meth := S.method'
  have hret2 : ∀ (f : JFrame) (acts : List Action), f.method = m → f.locked = none → f.entered = [] → (doReturn e (T.setTop f) acts (none)).1 = T.setFrames fs := hret
  jvm_step S.here [S.here.top, x1, x2, hdg, hmeth', hr]
  (try refine ⟨rfl, ?_⟩); (try refine ⟨rfl, ?_⟩)
  first | (intro acts; rw [hret2 _ acts rfl rfl rfl]) | rw [hret2 _ _ rfl rfl rfl]
  exact Steps.refl _
theorem so_fitsn {rt : Nat} {z : Int} (hz : (Int32.ofInt z).toInt = z) (h : ax_rok rt z = true) : ∃ ty, tb_rt' rt = some ty ∧ narrow ty (.int (Int32.ofInt z)) = .int (Int32.ofInt z) := by
  unfold ax_rok at h
  split at h
  · exact ⟨.int, rfl, rfl⟩
  · refine ⟨.boolean, rfl, narrow_of_fits ?_⟩
    rcases of_decide_eq_true h with rfl | rfl <;> decide
  · refine ⟨.char, rfl, narrow_of_fits ?_⟩
    have h := of_decide_eq_true h
    simp only [fits, Bool.and_eq_true, decide_eq_true_eq]
    refine ⟨Int32.le_iff_toInt_le.mpr ?_, Int32.le_iff_toInt_le.mpr ?_⟩
    · rw [hz]; exact h.1
    · rw [hz]; show z ≤ 65535; omega
  · refine ⟨.byte, rfl, narrow_of_fits ?_⟩
    have h := of_decide_eq_true h
    simp only [fits, Bool.and_eq_true, decide_eq_true_eq]
    refine ⟨Int32.le_iff_toInt_le.mpr ?_, Int32.le_iff_toInt_le.mpr ?_⟩
    · rw [hz]; exact h.1
    · rw [hz]; show z ≤ 127; omega
  · cases h
theorem so_rets {i : Instr} {n : Nat} {st : List ax_V} {v : Option ax_V} (X : so_Ctx p e s m args meth c ad H0 y) (hR : so_Rel s ad H0 h H) (hlo : ∀ q ∈ locs, H0.size ≤ q.base) (okS : so_okS st) (hdg : decode (tb_bytes y) pc = .ok (i, n)) (hn : n = ax_len i) (hr : ax_rtn (tb_M y) i st = some v) :
    W p l e R s m args below meth c H locs cells slots (so_Z below ad H0 s (.inl v) h cells slots) (F0 m pc lsA (st.map (so_v ad))) := by
  subst hn
  have x5 := X.2.2.2.2.1
  unfold ax_rtn at hr
  split at hr
  · split at hr
    · split at hr
      · rename_i z hz
        cases hr
        have hz2 : (Int32.ofInt z).toInt = z := okS _ List.mem_cons_self
        obtain ⟨ty, t1, t2⟩ := so_fitsn hz2 hz
        rw [t1] at x5
        exact so_retI X hR hlo x5 t2 hz2 hdg
      · cases hr
    · cases hr
  · split at hr
    · split at hr
      · rename_i z hz
        cases hr
        rw [hz] at x5
        exact so_retL X hR hlo x5 (okS _ List.mem_cons_self) hdg
      · cases hr
    · cases hr
  · split at hr
    · split at hr
      · rename_i hz
        cases hr
        rw [hz] at x5
        exact so_retV X hR hlo x5 hdg
      · cases hr
    · cases hr
  · cases hr
set_option maxRecDepth 20000 in
theorem so_oinit : Cond.instanceMethod Lib.objectInit ∈ lw_tbl ∧ Cond.code Lib.objectInit ⟨#[0xb1]⟩ 1 none ∈ lw_tbl := ⟨tb_i1 (List.mem_of_getElem? (i := 35) rfl), tb_i1 (List.mem_of_getElem? (i := 36) rfl)⟩
theorem so_objW {idx o : Nat} {r : List ax_V} (X : so_Ctx p e s m args meth c ad H0 y) (hfr : 10 ≤ R.frames) (hloc : 200 ≤ R.locals) (hsize : lsA.size = c.maxLocals) (hlink : Cond.methodLink (tb_RN (tb_M y).1) idx Lib.objectInit ∈ lw_tbl) (hdg : decode (tb_bytes y) pc = .ok (.invokespecial idx, 3)) (hwt : ax_wt r ≤ 20)
    (ho : 27 ≤ o) (kk : W p l e R s m args below meth c H locs cells slots Q (F0 m (pc + 3) lsA (r.map (so_v ad)))) : W p l e R s m args below meth c H locs cells slots Q (F0 m pc lsA ((.inr (.inr (some o)) :: r : List ax_V).map (so_v ad))) := by
  obtain ⟨x1, x2, x3, x4, x5, x6, x7, x8, x9, x10, x11, x12, x13⟩ := id X
  have hq := x11.new ho
  generalize H0.size + (o - 27) = q at hq
  have hv : so_v ad (.inr (.inr (some o))) = .ref q := by show va_rf (ad o) = _; rw [hq]; rfl
  rw [List.map_cons, hv]
  exact W.objInit x1 x2 x4 (x10 _ hlink rfl) (x10 _ so_oinit.1 rfl) (x10 _ so_oinit.2 rfl) (g := F0 m pc lsA (.ref q :: r.map (so_v ad))) rfl hsize (a := q) (rest := r.map (so_v ad)) rfl hdg (by omega) (by
    show 2 * 0 + _ + 12 ≤ _
    rw [so_wt]; omega) kk
end SOY
/-! arraycopy of bytes. -/
section SOZ
variable {p : Program} {l : Launch} {e : Env} {R : Room} {s : State} {m : MethodId} {args : Array Value} {below : List Frame} {meth : Method} {c : Code} {H : Heap} {locs : List Loc} {cells slots : Nat} {Q : State → Prop}
variable {pc y : Nat} {lsA : Array Slot} {ad : Nat → Option Nat} {h h' : ax_H} {H0 : Heap}
def ax_setF (h : ax_H) (t : Nat) (F : Nat → Int) : ax_H := (h.1, h.2.1, h.2.2.1, (fun b => if b = t then F else h.2.2.2.1 b), h.2.2.2.2)
theorem so_b32 {z : Int} (h : -128 ≤ z ∧ z < 128) : (Int32.ofInt z).toInt = z := Int32.toInt_ofInt_of_le (by omega) (by omega)
/-- the bytes of an array are laid anew -/
theorem so_Rel.bytes {H' : Heap} {o r : Nat} {F : Nat → Int} {cell cell' : Cell} (hAD : so_AD ad H0.size) (hR : so_Rel s ad H0 h H) (ho : 27 ≤ o) (ht : (ax_kd h o).1 = 1) (hr : ad o = some r) (hF : ∀ j, -128 ≤ F j ∧ F j < 128)
    (hcell : H[r]? = some cell) (h1 : H'[r]? = some cell') (h2 : H'.size = H.size) (h3 : ∀ q, q ≠ r → H'[q]? = H[q]?) (hc1 : cell'.cls = cell.cls) (hc2 : cell'.vm = cell.vm) (hc3 : cell'.slots.size = cell.slots.size) (hc4 : ∀ j, j < (ax_kd h o).2 → cell'.slots[j]? = some (.int (Int32.ofInt (F j)))) :
    so_Rel s ad H0 (ax_setF h o F) H' := by
  have hk : ax_kd h o ≠ (50, 0) := fun e => by rw [e] at ht; cases ht
  have hin := so_in hR.2.2.2.2 hk
  have hrr : H0.size ≤ r := by
    have := hAD.new ho
    rw [hr] at this
    have := Option.some.inj this
    omega
  have hnu : ∀ b j, ax_nu (ax_setF h o F) b j = if b = o then F j else ax_nu h b j := fun b j => by
    show (if b = o then F else h.2.2.2.1 b) j = _
    by_cases e : b = o
    · rw [if_pos e, if_pos e]
    · rw [if_neg e, if_neg e]; rfl
  refine ⟨h2.trans hR.1, fun q hq => ?_, fun a ha => ?_, fun a k => ?_, fun a ha => ?_, hR.2.2.2.2.2.1, hR.2.2.2.2.2.2⟩
  · rw [h3 q (by omega)]
    exact hR.2.1 q hq
  · by_cases e : a = o
    · subst e
      refine ⟨fun ty hty => ?_, fun ci hci => ?_, fun x hx => ?_, fun x hx => ?_⟩
      · obtain ⟨r', hr', cell0, g1, g2, g3, g4, g5⟩ := (hR.2.2.1 a ha).1 ty hty
        cases hr.symm.trans hr'
        cases hcell.symm.trans g1
        refine ⟨r, hr, cell', h1, ⟨fun k => by rw [hc2]; exact g2.1 k, by rw [hc1]; exact g2.2⟩, by rw [hc2]; exact g3, g4.set hc3, fun j hj => ?_⟩
        have hj : j < (ax_kd h a).2 := hj
        rw [hc4 j hj]
        show _ = some (so_v ad (ax_el (ax_kd h a).1 (ax_nu (ax_setF h a F) a j)))
        rw [ht, hnu, if_pos rfl]
        rfl
      · have hci : (ax_kd h a).1 = 100 + ci := hci
        omega
      · exact absurd (hR.2.2.2.2.2.2.1 a (by show ax_ex h a ≠ 0; have : ax_ex h a = 2 * x + 1 := hx; omega)).1 hk
      · exact absurd (hR.2.2.2.2.2.2.1 a (by show ax_ex h a ≠ 0; have : ax_ex h a = 2 * x + 2 := hx; omega)).1 hk
    · refine (hR.2.2.1 a ha).kept (fun g q hq => h3 q (hAD.apart ho e (g.ne hR.2.2.2.2) hq hr)) rfl (fun k => ?_) (fun _ => rfl) rfl
      rw [hnu, if_neg e]
  · rw [hnu]
    show (if ax_isl (ax_kd h a).1 k = true then _ else _) ∧ ((ax_kd h a).1 = 1 → _)
    by_cases e : a = o
    · subst e
      rw [if_pos rfl]
      have hi : ax_isl (ax_kd h a).1 k = false := by rw [ht]; rfl
      rw [hi]
      refine ⟨?_, fun _ => hF k⟩
      have := hF k
      show (Int32.ofInt (F k)).toInt = F k
      exact so_b32 this
    · rw [if_neg e]
      exact hR.2.2.2.1 a k
  · have e : a ≠ o := by
      have : 27 + h.1 ≤ a := ha
      omega
    obtain ⟨g1, g2, g3⟩ := hR.2.2.2.2.1 a ha
    refine ⟨g1, g2, fun k => ⟨?_, (g3 k).2⟩⟩
    rw [hnu, if_neg e]
    exact (g3 k).1
set_option maxRecDepth 20000 in
theorem so_sysw : Cond.native arraycopyName ∈ lw_tbl ∧ Cond.static arraycopyName ∈ lw_tbl ∧ Cond.initialized "java/lang/System" ∈ lw_tbl := ⟨tb_i3 (List.mem_of_getElem? (i := 219) rfl), tb_i3 (List.mem_of_getElem? (i := 218) rfl), tb_i1 (List.mem_of_getElem? (i := 25) rfl)⟩
theorem so_clamp {z : Int} (h0 : 0 ≤ z) (hz : (Int32.ofInt z).toInt = z) : (Int32.ofInt z).toNatClampNeg = z.toNat := by
  show (Int32.ofInt z).toInt.toNat = _
  rw [hz]
theorem so_copyW {idx : Nat} {st st' : List ax_V} (X : so_Ctx p e s m args meth c ad H0 y) (hR : so_Rel s ad H0 h H) (hlo : ∀ q ∈ locs, H0.size ≤ q.base) (okS : so_okS st) (hfr : 10 ≤ R.frames) (hloc : 200 ≤ R.locals) (hsize : lsA.size = c.maxLocals) (hlink : Cond.methodLink (tb_RN (tb_M y).1) idx arraycopyName ∈ lw_tbl) (hdg : decode (tb_bytes y) pc = .ok (.invokestatic idx, 3))
    (hcp : ax_copy st h = some (st', h')) (hwt : ax_wt st' ≤ 20)
    (kk : ∀ (H' : Heap) (locs' : List Loc), so_Rel s ad H0 h' H' → (∀ q ∈ locs', H0.size ≤ q.base) → so_okS st' → W p l e R s m args below meth c H' locs' cells slots Q (F0 m (pc + 3) lsA (st'.map (so_v ad)))) :
    W p l e R s m args below meth c H locs cells slots Q (F0 m pc lsA (st.map (so_v ad))) := by
  intro T hT S
  obtain ⟨x1, x2, x3, x4, x5, x6, x7, x8, x9, x10, x11, x12, x13⟩ := id X
  unfold ax_copy at hcp
  split at hcp
  · rename_i n dp t sp o r0
    split at hcp
    · rename_i hc
      obtain ⟨k1, k2, n0, dp0, sp0, hs1, hs2, ht, ho, hne⟩ := hc
      cases hcp
      have zn : (Int32.ofInt n).toInt = n := okS (.inl n) (by simp)
      have zd : (Int32.ofInt dp).toInt = dp := okS (.inl dp) (by simp)
      have zs : (Int32.ofInt sp).toInt = sp := okS (.inl sp) (by simp)
      have hko : ax_kd h o ≠ (50, 0) := fun e => by rw [e] at k1; cases k1
      have hkt : ax_kd h t ≠ (50, 0) := fun e => by rw [e] at k2; cases k2
      obtain ⟨ro, hro, cs, g1, g2, g3, g4, g5⟩ := (hR.2.2.1 o (so_in hR.2.2.2.2 hko)).1 .byte (by rw [k1]; rfl)
      obtain ⟨rt, hrt, cd, f1, f2, f3, f4, f5⟩ := (hR.2.2.1 t (so_in hR.2.2.2.2 hkt)).1 .byte (by rw [k2]; rfl)
      obtain ⟨ks, hks, sComp, hsk⟩ := g2.2
      obtain ⟨kd, hkd, dComp, hdk⟩ := f2.2
      rw [← hT] at g1 f1
      have hval : ∀ i, i < n.toNat → cs.slots.getD (sp.toNat + i) .null = .int (Int32.ofInt (ax_nu h o (sp.toNat + i))) := fun i hi => by
        have := g5 (sp.toNat + i) (by omega)
        rw [k1] at this
        rw [Array.getD_eq_getD_getElem?, this]
        rfl
      have hst : (([.inl n, .inl dp, .inr (.inr (some t)), .inl sp, .inr (.inr (some o))] : List ax_V) ++ st').map (so_v ad) = .int (Int32.ofInt n) :: .int (Int32.ofInt dp) :: .ref rt :: .int (Int32.ofInt sp) :: .ref ro :: st'.map (so_v ad) := by
        show .int _ :: .int _ :: va_rf (ad t) :: .int _ :: va_rf (ad o) :: _ = _
        rw [hro, hrt]
        rfl
      obtain ⟨vm', S', step⟩ := S.arraycopy x1 (own := tb_RN (tb_M y).1) (index := idx) x4 (x10 _ hlink rfl) (x10 _ so_sysw.1 rfl) (x10 _ so_sysw.2.1 rfl) (x10 _ so_sysw.2.2 rfl) (src := ro) (dst := rt) (srcPos := Int32.ofInt sp) (destPos := Int32.ofInt dp) (n := Int32.ofInt n)
        g1 f1 g2.1 f2.1 g3 f3 hks hkd hsk hdk rfl (by rw [Int32.lt_iff_toInt_lt, zs]; exact Int.not_lt.mpr sp0) (by rw [Int32.lt_iff_toInt_lt, zd]; exact Int.not_lt.mpr dp0) (by rw [Int32.lt_iff_toInt_lt, zn]; exact Int.not_lt.mpr n0) (by rw [zs, zn]; have := g4.1; omega) (by rw [zd, zn]; have := f4.1; omega)
        (fun vm' _ i hi => by
          rw [so_clamp n0 zn] at hi
          rw [so_clamp sp0 zs, hval i hi]
          refine ⟨?_, trivial⟩
          obtain ⟨b1, b2⟩ := (hR.2.2.2.1 o (sp.toNat + i)).2 k1
          have hb : (Int32.ofInt (ax_nu h o (sp.toNat + i))).toInt = ax_nu h o (sp.toNat + i) := so_b32 ⟨b1, b2⟩
          simp only [fits, Bool.and_eq_true, decide_eq_true_eq]
          refine ⟨Int32.le_iff_toInt_le.mpr ?_, Int32.le_iff_toInt_le.mpr ?_⟩
          · rw [hb]; exact b1
          · rw [hb]; show _ ≤ (127 : Int); omega)
        (g := F0 m pc lsA (.int (Int32.ofInt n) :: .int (Int32.ofInt dp) :: .ref rt :: .int (Int32.ofInt sp) :: .ref ro :: st'.map (so_v ad))) rfl hsize (rest := st'.map (so_v ad)) rfl (by rw [x2]; exact hdg) (by omega) (by
          have hw : nativeFrameWords "java/lang/System" "arraycopy" 5 = 7 := by decide +kernel
          show 2 * 0 + _ + (_ + 11) ≤ _
          rw [so_wt, hw]; omega)
      have cn := so_clamp n0 zn
      have cd2 := so_clamp dp0 zd
      have csp := so_clamp sp0 zs
      have hlen : (cs.stretch (Int32.ofInt sp).toNatClampNeg (Int32.ofInt n).toNatClampNeg).length = n.toNat := by
        unfold Cell.stretch
        rw [List.length_map, List.length_range, cn]
      obtain ⟨w1, w2, w3, -, -⟩ := cd.storeRun_facts (Int32.ofInt dp).toNatClampNeg (cs.stretch (Int32.ofInt sp).toNatClampNeg (Int32.ofInt n).toNatClampNeg)
      have hRT : so_Rel s ad H0 h T.heap := by rw [hT]; exact hR
      have hltr : rt < T.heap.size := (Array.getElem?_eq_some_iff.mp f1).1
      have hH' : so_Rel s ad H0 (ax_setF h t (ax_cpy (ax_nu h o) (ax_nu h t) sp.toNat dp.toNat n.toNat)) (T.heap.setIfInBounds rt (copied cs cd (Int32.ofInt sp) (Int32.ofInt dp) (Int32.ofInt n))) := by
        refine hRT.bytes x11 ht k2 hrt (fun j => ?_) f1 (cell' := copied cs cd (Int32.ofInt sp) (Int32.ofInt dp) (Int32.ofInt n)) ?_ ?_ (fun q hq => ?_) w1 w2 w3 (fun j hj => ?_)
        · unfold ax_cpy
          split
          · exact (hR.2.2.2.1 o _).2 k1
          · exact (hR.2.2.2.1 t _).2 k2
        · rw [Array.getElem?_setIfInBounds, if_pos rfl, if_pos hltr]
        · exact Array.size_setIfInBounds
        · rw [Array.getElem?_setIfInBounds, if_neg (fun e => hq e.symm)]
        · rw [Cell.storeRun_get _ _ _ _ (by rw [hlen, cd2]; have := f4.1; omega), hlen, cd2]
          unfold ax_cpy
          by_cases hj2 : dp.toNat ≤ j ∧ j < dp.toNat + n.toNat
          · rw [if_pos hj2, if_pos hj2]
            unfold Cell.stretch
            rw [csp, cn, List.getElem?_map, List.getElem?_range (by omega)]
            exact congrArg some (hval (j - dp.toNat) (by omega))
          · rw [if_neg hj2, if_neg hj2]
            have := f5 j hj
            rw [this]
            show some (so_v ad (ax_el (ax_kd h t).1 (ax_nu h t j))) = _
            rw [k2]
            rfl
      obtain ⟨t2, a1, b1⟩ := kk _ (locs ++ (cs.stretch (Int32.ofInt sp).toNatClampNeg (Int32.ofInt n).toNatClampNeg).zipIdx.map fun q => ⟨rt, (Int32.ofInt dp).toNatClampNeg + q.2⟩) hH' (fun q hq => by
        rcases List.mem_append.mp hq with hh | hh
        · exact hlo q hh
        · obtain ⟨i, -, rfl⟩ := List.mem_map.mp hh
          show H0.size ≤ rt
          have := x11.new ht
          rw [hrt] at this
          have := Option.some.inj this
          omega) (fun v hv => okS v (List.mem_cons_of_mem _ (List.mem_cons_of_mem _ (List.mem_cons_of_mem _ (List.mem_cons_of_mem _ (List.mem_cons_of_mem _ hv)))))) ((T.setVm vm').setCell rt (copied cs cd (Int32.ofInt sp) (Int32.ofInt dp) (Int32.ofInt n))) rfl S'
      refine ⟨t2, ?_, b1⟩
      have := step t2 a1
      rw [← hst] at this
      exact this
    · cases hcp
  · cases hcp
end SOZ
/-! A CALL's ENTRY, whatever its kind. -/
theorem so_ctors : (List.range 302).all (fun b => !(tb_M b).2.2.2.1 || ((tb_M b).2.2.2.2.1.isEmpty && (tb_ret b).isNone)) = true := by decide +kernel
theorem so_ctor {b : Nat} (hb : b < 302) (hi : (tb_M b).2.2.2.1 = true) : (tb_M b).2.2.2.2.1 = [] ∧ tb_ret b = none := by
  have h := List.all_eq_true.mp so_ctors b (List.mem_range.mpr hb)
  rw [hi] at h
  simp only [Bool.not_true, Bool.false_or, Bool.and_eq_true, List.isEmpty_iff, Option.isNone_iff_eq_none] at h
  exact h
section SOa
variable {p : Program} {l : Launch} {e : Env} {R : Room} {s : State} {m : MethodId} {args : Array Value} {below : List Frame} {meth : Method} {c : Code} {H : Heap} {locs : List Loc} {cells slots : Nat} {Q : State → Prop}
variable {pc y : Nat} {lsA : Array Slot} {ad : Nat → Option Nat} {h h' : ax_H} {H0 : Heap}
/-- the receiver -/
theorem so_recv {as r st : List ax_V} {mode b n : Nat} (hm : mode ≠ 2) (hR : so_Rel s ad H0 h H) (hargs : ax_args mode b n st h = some (as, r)) :
    ∃ (o q : Nat) (as2 : List ax_V) (cell : Cell), as = .inr (.inr (some o)) :: as2 ∧ st = as2.reverse ++ .inr (.inr (some o)) :: r ∧ as2.length = n ∧ so_v ad (.inr (.inr (some o))) = .ref q ∧ H[q]? = some cell ∧ cell.vm.isStatics = false ∧ s.vm.findClass (tb_RN (tb_M b).1) = some cell.cls := by
  unfold ax_args at hargs
  split at hargs
  · cases hargs
  · rename_i as2 r2 hp
    rw [if_neg hm] at hargs
    split at hargs
    · rename_i o q2
      split at hargs
      · rename_i hk
        cases hargs
        obtain ⟨e1, e2⟩ := so_pop hp
        have hne : ax_kd h o ≠ (50, 0) := fun e => by rw [e] at hk; have : 50 = 100 + ax_cls b := hk; omega
        obtain ⟨q, hq, cell, c1, c2, c3, c4, -⟩ := (hR.2.2.1 o (so_in hR.2.2.2.2 hne)).2.1 _ hk
        refine ⟨o, q, as2, cell, rfl, e1, e2, ?_, c1, c4, c2⟩
        show va_rf (ad o) = _
        rw [hq]
        rfl
      · cases hargs
    · cases hargs
theorem so_entA {i : Instr} {a b k : Nat} {d : Int} {as r st : List ax_V} (X : so_Ctx p e s m args meth c ad H0 y) (hR : so_Rel s ad H0 h H) (hMw : so_Mws) (hg : ax_grp i = 3) (h5 : a ≠ 5) (h6 : a ≠ 6) (h7 : a ≠ 7) (htl : tb_l (tb_M y).1 (tb_M y).2.2.2.1 (i, a, b, k, d) = true)
    (hdg : decode (tb_bytes y) pc = .ok (i, 3)) (hargs : ax_args a b d.toNat st h = some (as, r)) :
    b < 302 ∧ b ≠ tb_law ∧ ∀ T : State, T.heap = H → Stand p l e R s m args below meth c T locs cells slots → so_Ent p l e R s m args below meth c T locs cells slots (F0 m pc lsA (st.map (so_v ad))) b (as.map (so_v ad)).toArray (r.map (so_v ad)) := by
  cases i with
  | invokevirtual idx =>
    simp only [tb_l, Bool.and_eq_true, decide_eq_true_eq, Bool.not_eq_true'] at htl
    obtain ⟨⟨⟨⟨⟨⟨t1, t2⟩, t3⟩, t4⟩, t5⟩, t6⟩, t7⟩ := htl
    subst t1
    refine ⟨t3, t4, fun T hT S => ?_⟩
    obtain ⟨o, q, as2, cell, e1, e2, e3, e4, e5, e6, e7⟩ := so_recv (by decide) hR hargs
    rw [e1, e2, List.map_cons, e4]
    rw [← hT] at e5
    exact so_entV (As := as2.map (so_v ad)) (rest := r.map (so_v ad)) X S (hMw b t3 t4) t6 t7 (so_lk t2) e5 e6 e7 (by rw [List.length_map, e3]; exact t5.symm) (g := F0 m pc lsA _) rfl (by
      show List.map (so_v ad) (as2.reverse ++ .inr (.inr (some o)) :: r) = _
      rw [List.map_append, List.map_cons, e4, List.map_reverse]) hdg
  | invokestatic idx =>
    simp only [tb_l, if_neg h6, Bool.and_eq_true, decide_eq_true_eq] at htl
    obtain ⟨⟨⟨⟨⟨t1, t2⟩, t3⟩, t4⟩, t5⟩, t6⟩ := htl
    subst t1
    refine ⟨t3, t4, fun T hT S => ?_⟩
    unfold ax_args at hargs
    split at hargs
    · cases hargs
    · rename_i as2 r2 hp
      rw [if_pos rfl] at hargs
      cases hargs
      obtain ⟨e1, e2⟩ := so_pop hp
      rw [e1]
      exact so_entS (As := as.map (so_v ad)) (rest := r.map (so_v ad)) X S (hMw b t3 t4) t6 (so_lk t2) (by rw [List.length_map, e2]; exact t5.symm) (g := F0 m pc lsA _) rfl (by
        show List.map (so_v ad) (as.reverse ++ r) = _
        rw [List.map_append, List.map_reverse]) hdg
  | invokespecial idx =>
    simp only [tb_l, if_neg h5, if_neg h7, Bool.and_eq_true, decide_eq_true_eq, Bool.not_eq_true'] at htl
    obtain ⟨⟨⟨⟨⟨t1, t3⟩, t4⟩, t5⟩, t6⟩, t2⟩ := htl
    have hm2 : a ≠ 2 := by
      intro q
      subst q
      simp at t2
    have hlink : Cond.methodLink (tb_RN (tb_M y).1) idx (tb_name b) ∈ lw_tbl ∨ ∃ host, Cond.methodLinkNest (tb_RN (tb_M y).1) idx (tb_name b) host ∈ lw_tbl := by
      by_cases h3 : a = 3
      · rw [if_pos h3] at t2
        exact Or.inl (so_lk t2)
      · rw [if_neg h3, Bool.and_eq_true] at t2
        exact Or.inr ⟨_, so_lk t2.2⟩
    refine ⟨t3, t4, fun T hT S => ?_⟩
    obtain ⟨o, q, as2, cell, e1, e2, e3, e4, e5, e6, e7⟩ := so_recv hm2 hR hargs
    rw [e1, e2, List.map_cons, e4]
    obtain ⟨c1, c2⟩ := so_ctor t3 t1
    exact so_entI (As := as2.map (so_v ad)) (rest := r.map (so_v ad)) X S (hMw b t3 t4) t6 t1 c1 c2 hlink (by rw [List.length_map, e3]; exact t5.symm) (g := F0 m pc lsA _) rfl (by
      show List.map (so_v ad) (as2.reverse ++ .inr (.inr (some o)) :: r) = _
      rw [List.map_append, List.map_cons, e4, List.map_reverse]) hdg
  | _ => exact absurd hg (by simp [ax_grp])
/-- what an argument list keeps -/
theorem so_args_ok {mode b n : Nat} {as r st : List ax_V} (okS : so_okS st) (hargs : ax_args mode b n st h = some (as, r)) : so_okS as ∧ so_okS r := by
  unfold ax_args at hargs
  split at hargs
  · cases hargs
  · rename_i as2 r2 hp
    obtain ⟨e1, e2⟩ := so_pop hp
    have ok2 : so_okS as2 ∧ so_okS r2 := by
      rw [e1] at okS
      exact ⟨fun v hv => okS v (List.mem_append_left _ (List.mem_reverse.mpr hv)), fun v hv => okS v (List.mem_append_right _ hv)⟩
    split at hargs
    · cases hargs
      exact ok2
    · split at hargs
      · split at hargs
        · cases hargs
          exact ⟨so_okS.cons trivial ok2.1, ok2.2.tl⟩
        · cases hargs
      · cases hargs
end SOa
