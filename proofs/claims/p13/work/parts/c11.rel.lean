/-- the words that hold at every later state -/
def so_gw (w : Cond) : Bool := goodWord w || (match w with
  | .fieldLinkNest _ _ _ _ _ _ => true
  | .methodLinkNest _ _ _ _ => true
  | .castable _ _ => true
  | .declares _ => true
  | _ => false)
/-! THE ABSTRACT HEAP BESIDE THE MACHINE's. -/
/-- the numbers of cells: those from 27 on are new, at B and behind it; the others are old, below B -/
def so_AD (ad : Nat → Option Nat) (B : Nat) : Prop := (∀ k : Nat, ad (27 + k) = some (B + k)) ∧ ∀ a r : Nat, a < 26 → ad a = some r → r < B
theorem so_AD.apart {ad : Nat → Option Nat} {B : Nat} (h : so_AD ad B) {a o r q : Nat} (ho : 27 ≤ o) (hne : a ≠ o) (h26 : a ≠ 26) (ha : ad a = some r) (hq : ad o = some q) : r ≠ q := by
  have e1 := h.1 (o - 27)
  rw [show 27 + (o - 27) = o by omega, hq] at e1
  have e1 := Option.some.inj e1
  by_cases h27 : a < 27
  · have := h.2 a r (by omega) ha
    omega
  · have e2 := h.1 (a - 27)
    rw [show 27 + (a - 27) = a by omega, ha] at e2
    have e2 := Option.some.inj e2
    omega
theorem so_AD.new {ad : Nat → Option Nat} {B : Nat} (h : so_AD ad B) {o : Nat} (ho : 27 ≤ o) : ad o = some (B + (o - 27)) := by
  have e1 := h.1 (o - 27)
  rwa [show 27 + (o - 27) = o by omega] at e1
theorem so_AD.lt {ad : Nat → Option Nat} {B : Nat} (h : so_AD ad B) {a r n : Nat} (ha : a < 27 + n) (h26 : a ≠ 26) (hr : ad a = some r) : r < B + n := by
  by_cases h27 : a < 27
  · have := h.2 a r (by omega) hr
    omega
  · have e2 := h.new (o := a) (by omega)
    rw [hr] at e2
    have := Option.some.inj e2
    omega
def so_ty (t : Nat) : Option FieldType := match t with
  | 0 => some .int
  | 1 => some .byte
  | 2 => some .long
  | 3 => some .boolean
  | _ => none
/-- a length, as the machine tells it -/
def so_len (cell : Cell) (n : Nat) : Prop := n ≤ cell.slots.size ∧ cell.slots.size.toInt32 = Int32.ofNat n
theorem so_len.of {cell : Cell} {n : Nat} (h : cell.slots.size = n) : so_len cell n := ⟨Nat.le_of_eq h.symm, by rw [h]⟩
theorem so_len.set {cell cell' : Cell} {n : Nat} (h : so_len cell n) (e : cell'.slots.size = cell.slots.size) : so_len cell' n := ⟨by rw [e]; exact h.1, by rw [e]; exact h.2⟩
def so_arr (s : State) (H : Heap) (r : Nat) (ty : FieldType) (n : Nat) (V : Nat → Value) : Prop := ∃ cell : Cell, H[r]? = some cell ∧ s.isArrayOf cell ty ∧ cell.vm ≠ .unknown ∧ so_len cell n ∧ ∀ j : Nat, j < n → cell.slots[j]? = some (V j)
def so_obj (s : State) (H : Heap) (r ci : Nat) (V : Nat → Value) (new : Prop) : Prop := ∃ cell : Cell, H[r]? = some cell ∧ s.vm.findClass (tb_RN ci) = some cell.cls ∧ cell.vm ≠ .unknown ∧ cell.vm.isStatics = false ∧ (new → cell.vm = .none) ∧
  ∀ k : Nat, k < tb_N ci → ∃ (cf : ClassId) (kf : Class) (i : Nat) (f : Field), s.fieldFound? (tb_RN ci) (tb_f ci k).1 (tb_f ci k).2.1 = some (cf, kf, i, f) ∧ f.isStatic = false ∧ cell.slots[f.slot]? = some (V k)
def so_fv (ad : Nat → Option Nat) (h : ax_H) (a ci k : Nat) : Value := if (tb_f ci k).2.2.1 = 1 then .long (Int64.ofInt (ax_nu h a k)) else if (tb_f ci k).2.2.1 = 2 then so_v ad (.inr (.inr (ax_rf h a k))) else .int (Int32.ofInt (ax_nu h a k))
def so_cell (s : State) (ad : Nat → Option Nat) (h : ax_H) (H : Heap) (a : Nat) : Prop :=
  (∀ ty, so_ty (ax_kd h a).1 = some ty → ∃ r, ad a = some r ∧ so_arr s H r ty (ax_kd h a).2 (fun j => so_v ad (ax_el (ax_kd h a).1 (ax_nu h a j)))) ∧
  (∀ ci, (ax_kd h a).1 = 100 + ci → ∃ r, ad a = some r ∧ so_obj s H r ci (so_fv ad h a ci) (27 ≤ a)) ∧
  (∀ x, ax_ex h a = 2 * x + 1 → ∃ (r : Nat) (cX : ClassId) (kX : Class), ad a = some r ∧ s.vm.findClass (tb_RN x) = some cX ∧ s.vm.classes[cX]? = some kX ∧ H[r]? = some (blank cX kX)) ∧
  (∀ x, ax_ex h a = 2 * x + 2 → ∃ (r : Nat) (cell : Cell), ad a = some r ∧ H[r]? = some cell ∧ s.vm.findClass (tb_RN x) = some cell.cls ∧ cell.vm = .none)
/-- is the number there a long -/
def ax_isl (t j : Nat) : Bool := t == 2 || (decide (100 ≤ t) && (tb_f (t - 100) j).2.2.1 == 1)
def so_num (h : ax_H) : Prop := ∀ a j : Nat, (if ax_isl (ax_kd h a).1 j = true then (Int64.ofInt (ax_nu h a j)).toInt = ax_nu h a j else (Int32.ofInt (ax_nu h a j)).toInt = ax_nu h a j) ∧ ((ax_kd h a).1 = 1 → -128 ≤ ax_nu h a j ∧ ax_nu h a j < 128)
def so_rest (h : ax_H) : Prop := (∀ a : Nat, 27 + h.1 ≤ a → ax_kd h a = (50, 0) ∧ ax_ex h a = 0 ∧ ∀ j : Nat, ax_nu h a j = 0 ∧ ax_rf h a j = none) ∧ (∀ a : Nat, (ax_kd h a).2 < 2 ^ 31) ∧ (∀ a : Nat, ax_ex h a ≠ 0 → ax_kd h a = (50, 0) ∧ 27 ≤ a) ∧ ax_kd h 26 = (50, 0)
/-- it is no mere number -/
def so_is (h : ax_H) (a : Nat) : Prop := ax_kd h a ≠ (50, 0) ∨ ax_ex h a ≠ 0
theorem so_is.ne {h : ax_H} {a : Nat} (hr : so_rest h) (hi : so_is h a) : a ≠ 26 := by
  intro e
  subst e
  rcases hi with q | q
  · exact q hr.2.2.2
  · have := (hr.2.2.1 26 q).2
    omega
def so_Rel (s : State) (ad : Nat → Option Nat) (H0 : Heap) (h : ax_H) (H : Heap) : Prop := H.size = H0.size + h.1 ∧ (∀ q : Nat, q < H0.size → H[q]? = H0[q]?) ∧ (∀ a : Nat, a < 27 + h.1 → so_cell s ad h H a) ∧ so_num h ∧ so_rest h
theorem so_arr.kept {s : State} {H H' : Heap} {r n : Nat} {ty : FieldType} {V : Nat → Value} (h : so_arr s H r ty n V) (e : H'[r]? = H[r]?) : so_arr s H' r ty n V := by
  obtain ⟨cell, h1, h2⟩ := h
  exact ⟨cell, by rw [e]; exact h1, h2⟩
theorem so_obj.kept {s : State} {H H' : Heap} {r ci : Nat} {V : Nat → Value} {new : Prop} (h : so_obj s H r ci V new) (e : H'[r]? = H[r]?) : so_obj s H' r ci V new := by
  obtain ⟨cell, h1, h2⟩ := h
  exact ⟨cell, by rw [e]; exact h1, h2⟩
/-- another cell's change leaves it -/
theorem so_cell.kept {s : State} {ad : Nat → Option Nat} {h h' : ax_H} {H H' : Heap} {a : Nat} (hc : so_cell s ad h H a) (e : so_is h a → ∀ r, ad a = some r → H'[r]? = H[r]?) (k1 : ax_kd h' a = ax_kd h a) (k2 : ∀ j, ax_nu h' a j = ax_nu h a j) (k3 : ∀ j, ax_rf h' a j = ax_rf h a j) (k4 : ax_ex h' a = ax_ex h a) : so_cell s ad h' H' a := by
  obtain ⟨c1, c2, c3, c4⟩ := hc
  refine ⟨fun ty ht => ?_, fun ci hci => ?_, fun x hx => ?_, fun x hx => ?_⟩
  · rw [k1] at ht ⊢
    obtain ⟨r, hr, ha⟩ := c1 ty ht
    refine ⟨r, hr, ?_⟩
    rw [show (fun j => so_v ad (ax_el (ax_kd h a).1 (ax_nu h' a j))) = (fun j => so_v ad (ax_el (ax_kd h a).1 (ax_nu h a j))) from funext fun j => by rw [k2]]
    exact ha.kept (e (Or.inl (fun q => by rw [q] at ht; cases ht)) r hr)
  · rw [k1] at hci
    obtain ⟨r, hr, ho⟩ := c2 ci hci
    refine ⟨r, hr, ?_⟩
    rw [show so_fv ad h' a ci = so_fv ad h a ci from funext fun k => by unfold so_fv; rw [k2, k3]]
    exact ho.kept (e (Or.inl (fun q => by rw [q] at hci; have hci : 50 = 100 + ci := hci; omega)) r hr)
  · rw [k4] at hx
    obtain ⟨r, cX, kX, hr, h1, h2, h3⟩ := c3 x hx
    exact ⟨r, cX, kX, hr, h1, h2, by rw [e (Or.inr (by omega)) r hr]; exact h3⟩
  · rw [k4] at hx
    obtain ⟨r, cell, hr, h1, h2⟩ := c4 x hx
    exact ⟨r, cell, hr, by rw [e (Or.inr (by omega)) r hr]; exact h1, h2⟩
theorem so_cell.moved {s U : State} {ad : Nat → Option Nat} {h : ax_H} {H : Heap} {a : Nat} (hvm : s.vm.Alike U.vm) (hc : so_cell s ad h H a) : so_cell U ad h H a := by
  obtain ⟨c1, c2, c3, c4⟩ := hc
  refine ⟨fun ty ht => ?_, fun ci hci => ?_, fun x hx => ?_, fun x hx => ?_⟩
  · obtain ⟨r, hr, cell, h1, h2, h3⟩ := c1 ty ht
    exact ⟨r, hr, cell, h1, State.isArrayOf_alike hvm h2, h3⟩
  · obtain ⟨r, hr, cell, h1, h2, h3, h4, h5, h6⟩ := c2 ci hci
    refine ⟨r, hr, cell, h1, by rw [hvm.findClass]; exact h2, h3, h4, h5, fun k hk => ?_⟩
    obtain ⟨cf, kf, i, f, g1, g2, g3⟩ := h6 k hk
    obtain ⟨kf', g4, -⟩ := State.fieldFound?_setVm (s := s) hvm g1
    exact ⟨cf, kf', i, f, by simpa only [State.fieldFound?, State.vm_setVm] using g4, g2, g3⟩
  · obtain ⟨r, cX, kX, hr, h1, h2, h3⟩ := c3 x hx
    obtain ⟨kX', h2', he⟩ := hvm.2.2 _ _ h2
    refine ⟨r, cX, kX', hr, by rw [hvm.findClass]; exact h1, h2', ?_⟩
    rw [h3, he]
    rfl
  · obtain ⟨r, cell, hr, h1, h2, h3⟩ := c4 x hx
    exact ⟨r, cell, hr, h1, by rw [hvm.findClass]; exact h2, h3⟩
theorem so_Rel.moved {s U : State} {ad : Nat → Option Nat} {h : ax_H} {H0 H : Heap} (hvm : s.vm.Alike U.vm) (hR : so_Rel s ad H0 h H) : so_Rel U ad H0 h H :=
  ⟨hR.1, hR.2.1, fun a ha => (hR.2.2.1 a ha).moved hvm, hR.2.2.2⟩
/-- a number that is read is in its bounds -/
theorem so_num.ok {h : ax_H} (hn : so_num h) (a j : Nat) {t : Nat} (ht : (ax_kd h a).1 = t) (hs : t < 4) : so_ok (ax_el t (ax_nu h a j)) := by
  have h1 := (hn a j).1
  unfold ax_el
  rw [ht] at h1
  by_cases e : t = 2
  · rw [if_pos e]
    rw [if_pos (by subst e; rfl)] at h1
    exact h1
  · rw [if_neg e]
    rw [if_neg] at h1
    · exact h1
    · unfold ax_isl
      have e1 : (t == 2) = false := by simpa using e
      have e2 : decide (100 ≤ t) = false := by simp; omega
      rw [e1, e2]
      simp
theorem so_num.fld {h : ax_H} (hn : so_num h) {a ci : Nat} (j : Nat) (ht : (ax_kd h a).1 = 100 + ci) : if (tb_f ci j).2.2.1 = 1 then (Int64.ofInt (ax_nu h a j)).toInt = ax_nu h a j else (Int32.ofInt (ax_nu h a j)).toInt = ax_nu h a j := by
  have h1 := (hn a j).1
  rw [ht] at h1
  have e : ax_isl (100 + ci) j = ((tb_f ci j).2.2.1 == 1) := by
    unfold ax_isl
    have e1 : (100 + ci == 2) = false := by simp; omega
    have e2 : decide (100 ≤ 100 + ci) = true := by simp
    rw [e1, e2, show 100 + ci - 100 = ci by omega]
    simp
  rw [e] at h1
  by_cases q : (tb_f ci j).2.2.1 = 1
  · rw [if_pos q]
    rw [if_pos (by simpa using q)] at h1
    exact h1
  · rw [if_neg q]
    rw [if_neg (by simpa using q)] at h1
    exact h1
/-! what a change of the abstract heap leaves -/
theorem so_in {h : ax_H} (hr : so_rest h) {o : Nat} (hk : ax_kd h o ≠ (50, 0)) : o < 27 + h.1 := by
  rcases Nat.lt_or_ge o (27 + h.1) with q | q
  · exact q
  · exact absurd (hr.1 o q).1 hk
theorem so_slot (cell : Cell) (j k : Nat) (v : Value) : (cell.setSlot j v).slots[k]? = if j = k ∧ k < cell.slots.size then some v else cell.slots[k]? := by
  show (cell.slots.setIfInBounds j v)[k]? = _
  rw [Array.getElem?_setIfInBounds]
  by_cases e : j = k
  · subst e
    by_cases e2 : j < cell.slots.size
    · simp [e2]
    · simp [e2]
  · simp [e]
/-- a number is laid into a cell: all but that cell's own picture -/
theorem so_Rel.setn {s : State} {ad : Nat → Option Nat} {h : ax_H} {H0 H H' : Heap} {o r j : Nat} {z : Int} (hAD : so_AD ad H0.size) (hR : so_Rel s ad H0 h H) (ho : 27 ≤ o) (hk : ax_kd h o ≠ (50, 0)) (hr : ad o = some r)
    (h2 : H'.size = H.size) (h3 : ∀ q, q ≠ r → H'[q]? = H[q]?) (hz : if ax_isl (ax_kd h o).1 j = true then (Int64.ofInt z).toInt = z else (Int32.ofInt z).toInt = z) (hz1 : (ax_kd h o).1 = 1 → -128 ≤ z ∧ z < 128)
    (hc : so_cell s ad (ax_setn h o j z) H' o) : so_Rel s ad H0 (ax_setn h o j z) H' := by
  have hin := so_in hR.2.2.2.2 hk
  have hrr : H0.size ≤ r := by
    have := hAD.new ho
    rw [hr] at this
    have := Option.some.inj this
    omega
  refine ⟨h2.trans hR.1, fun q hq => ?_, fun a ha => ?_, fun a k => ?_, fun a ha => ?_, hR.2.2.2.2.2.1, hR.2.2.2.2.2.2⟩
  · rw [h3 q (by omega)]
    exact hR.2.1 q hq
  · by_cases e : a = o
    · subst e
      exact hc
    · refine (hR.2.2.1 a ha).kept (fun g q hq => h3 q (hAD.apart ho e (g.ne hR.2.2.2.2) hq hr)) rfl (fun k => ?_) (fun _ => rfl) rfl
      show (if a = o then _ else _) = _
      rw [if_neg e]
      rfl
  · show (if ax_isl (ax_kd h a).1 k = true then (Int64.ofInt (if a = o then (if k = j then z else ax_nu h a k) else ax_nu h a k)).toInt = (if a = o then (if k = j then z else ax_nu h a k) else ax_nu h a k) else (Int32.ofInt (if a = o then (if k = j then z else ax_nu h a k) else ax_nu h a k)).toInt = (if a = o then (if k = j then z else ax_nu h a k) else ax_nu h a k)) ∧ ((ax_kd h a).1 = 1 → -128 ≤ (if a = o then (if k = j then z else ax_nu h a k) else ax_nu h a k) ∧ (if a = o then (if k = j then z else ax_nu h a k) else ax_nu h a k) < 128)
    by_cases e : a = o
    · subst e
      by_cases e2 : k = j
      · subst e2
        simp only [if_true]
        exact ⟨hz, hz1⟩
      · simp only [if_true, if_neg e2]
        exact hR.2.2.2.1 a k
    · simp only [if_neg e]
      exact hR.2.2.2.1 a k
  · have e : a ≠ o := by
      have : 27 + h.1 ≤ a := ha
      omega
    obtain ⟨g1, g2, g3⟩ := hR.2.2.2.2.1 a ha
    refine ⟨g1, g2, fun k => ⟨?_, (g3 k).2⟩⟩
    show (if a = o then _ else _) = _
    rw [if_neg e]
    exact (g3 k).1
theorem so_Rel.setr {s : State} {ad : Nat → Option Nat} {h : ax_H} {H0 H H' : Heap} {o r j : Nat} {x : Option Nat} (hAD : so_AD ad H0.size) (hR : so_Rel s ad H0 h H) (ho : 27 ≤ o) (hk : ax_kd h o ≠ (50, 0)) (hr : ad o = some r)
    (h2 : H'.size = H.size) (h3 : ∀ q, q ≠ r → H'[q]? = H[q]?) (hc : so_cell s ad (ax_setr h o j x) H' o) : so_Rel s ad H0 (ax_setr h o j x) H' := by
  have hin := so_in hR.2.2.2.2 hk
  have hrr : H0.size ≤ r := by
    have := hAD.new ho
    rw [hr] at this
    have := Option.some.inj this
    omega
  refine ⟨h2.trans hR.1, fun q hq => ?_, fun a ha => ?_, hR.2.2.2.1, fun a ha => ?_, hR.2.2.2.2.2.1, hR.2.2.2.2.2.2⟩
  · rw [h3 q (by omega)]
    exact hR.2.1 q hq
  · by_cases e : a = o
    · subst e
      exact hc
    · refine (hR.2.2.1 a ha).kept (fun g q hq => h3 q (hAD.apart ho e (g.ne hR.2.2.2.2) hq hr)) rfl (fun _ => rfl) (fun k => ?_) rfl
      show (if a = o then _ else _) = _
      rw [if_neg e]
      rfl
  · have e : a ≠ o := by
      have : 27 + h.1 ≤ a := ha
      omega
    obtain ⟨g1, g2, g3⟩ := hR.2.2.2.2.1 a ha
    refine ⟨g1, g2, fun k => ⟨(g3 k).1, ?_⟩⟩
    show (if a = o then _ else _) = _
    rw [if_neg e]
    exact (g3 k).2
/-- an array's element is laid -/
theorem so_Rel.arrset {s : State} {ad : Nat → Option Nat} {h : ax_H} {H0 H H' : Heap} {o r j t : Nat} {z : Int} {ty : FieldType} (hAD : so_AD ad H0.size) (hR : so_Rel s ad H0 h H) (ho : 27 ≤ o) (ht : (ax_kd h o).1 = t) (hty : so_ty t = some ty) (hr : ad o = some r)
    {cell : Cell} (hcell : H[r]? = some cell) (h1 : H'[r]? = some (cell.setSlot j (so_v ad (ax_el t z)))) (h2 : H'.size = H.size) (h3 : ∀ q, q ≠ r → H'[q]? = H[q]?) (hz : so_ok (ax_el t z)) (hz1 : t = 1 → -128 ≤ z ∧ z < 128) : so_Rel s ad H0 (ax_setn h o j z) H' := by
  have ht4 : t < 4 := by
    rcases Nat.lt_or_ge t 4 with q | q
    · exact q
    · match t, q with
      | t + 4, _ => cases hty
  have hk : ax_kd h o ≠ (50, 0) := fun e => by rw [e] at ht; omega
  have hin := so_in hR.2.2.2.2 hk
  obtain ⟨c1, c2, c3, c4⟩ := hR.2.2.1 o hin
  obtain ⟨r', hr', cell', g1, g2, g3, g4, g5⟩ := c1 ty (by rw [ht]; exact hty)
  cases hr.symm.trans hr'
  cases hcell.symm.trans g1
  refine hR.setn hAD ho hk hr h2 h3 ?_ (fun e => hz1 (by rw [← ht]; exact e)) ⟨fun ty2 hty2 => ?_, fun ci hci => ?_, fun x hx => ?_, fun x hx => ?_⟩
  · rw [ht]
    unfold ax_el at hz
    by_cases e : t = 2
    · subst e
      exact hz
    · rw [if_neg e] at hz
      have e1 : ax_isl t j = false := by
        unfold ax_isl
        have e1 : (t == 2) = false := by simpa using e
        have e2 : decide (100 ≤ t) = false := by simp; omega
        rw [e1, e2]
        rfl
      rw [e1]
      exact hz
  · have hty3 : so_ty (ax_kd h o).1 = some ty2 := hty2
    rw [ht, hty] at hty3
    cases hty3
    refine ⟨r, hr, _, h1, ⟨g2.1, g2.2⟩, g3, ?_, fun k hk2 => ?_⟩
    · refine g4.set ?_
      show (cell.slots.setIfInBounds j _).size = _
      rw [Array.size_setIfInBounds]
    · have hk2 : k < (ax_kd h o).2 := hk2
      have g41 := g4.1
      rw [so_slot]
      show _ = some (so_v ad (ax_el (ax_kd h o).1 (if o = o then (if k = j then z else ax_nu h o k) else ax_nu h o k)))
      rw [if_pos rfl, ht]
      by_cases e : j = k
      · subst e
        rw [if_pos ⟨rfl, by omega⟩, if_pos rfl]
      · rw [if_neg (fun q => e q.1), if_neg (fun q => e q.symm), g5 k hk2, ht]
  · have hci : (ax_kd h o).1 = 100 + ci := hci
    omega
  · exact absurd (hR.2.2.2.2.2.2.1 o (by show ax_ex h o ≠ 0; have : ax_ex h o = 2 * x + 1 := hx; omega)).1 hk
  · exact absurd (hR.2.2.2.2.2.2.1 o (by show ax_ex h o ≠ 0; have : ax_ex h o = 2 * x + 2 := hx; omega)).1 hk
