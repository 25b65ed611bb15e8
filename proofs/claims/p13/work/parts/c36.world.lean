/-! THE ABSTRACT HEAP AT THE START. -/
def st_kind (L a : Nat) : Nat × Nat := match a with
  | 0 => (0, L)
  | 1 => (0, 22)
  | 2 => (113, 2)
  | 3 => (1, 49)
  | 4 => (113, 2)
  | 5 => (1, 20)
  | _ => (50, 0)
def st_num (L : Nat) (xs : Nat → Int) (a j : Nat) : Int := match a with
  | 0 => if j < L then xs j else 0
  | 1 => st_lev.getD j 0
  | 3 => st_wrd.getD j 0
  | 5 => st_sgn.getD j 0
  | _ => 0
def st_ref (a j : Nat) : Option Nat := match a, j with
  | 2, 0 => some 3
  | 4, 0 => some 5
  | _, _ => none
def st_h0 (L : Nat) (xs : Nat → Int) : ax_H := (0, 0, st_kind L, st_num L xs, st_ref, fun _ => 0)
theorem st_getD {P : Int → Prop} {l : List Int} (h : ∀ z ∈ l, P z) (h0 : P 0) (j : Nat) : P (l.getD j 0) := by
  rw [List.getD_eq_getElem?_getD]
  cases e : l[j]? with
  | none => exact h0
  | some z => exact h z (List.mem_of_getElem? e)
theorem st_lev_ok : ∀ z ∈ st_lev, (Int32.ofInt z).toInt = z := by decide +kernel
theorem st_wrd_ok : ∀ z ∈ st_wrd, -128 ≤ z ∧ z < 128 := by decide +kernel
theorem st_sgn_ok : ∀ z ∈ st_sgn, -128 ≤ z ∧ z < 128 := by decide +kernel
theorem st_numok {L : Nat} {xs : Nat → Int32} : so_num (st_h0 L (fun j => (xs j).toInt)) := by
  intro a j
  have hx : ∀ z : Int32, (Int32.ofInt z.toInt).toInt = z.toInt := fun z => by rw [Int32.ofInt_toInt]
  have h0 : (Int32.ofInt 0).toInt = 0 := rfl
  show (if ax_isl (st_kind L a).1 j = true then (Int64.ofInt (st_num L (fun j => (xs j).toInt) a j)).toInt = st_num L (fun j => (xs j).toInt) a j else (Int32.ofInt (st_num L (fun j => (xs j).toInt) a j)).toInt = st_num L (fun j => (xs j).toInt) a j) ∧ ((st_kind L a).1 = 1 → -128 ≤ st_num L (fun j => (xs j).toInt) a j ∧ st_num L (fun j => (xs j).toInt) a j < 128)
  match a with
  | 0 =>
    refine ⟨?_, fun h => by cases h⟩
    show (Int32.ofInt (if j < L then (xs j).toInt else 0)).toInt = if j < L then (xs j).toInt else 0
    split
    · exact hx _
    · exact h0
  | 1 => exact ⟨st_getD st_lev_ok h0 j, fun h => by cases h⟩
  | 2 =>
    refine ⟨?_, fun h => by cases h⟩
    show (if _ then (Int64.ofInt 0).toInt = 0 else (Int32.ofInt 0).toInt = 0)
    split <;> rfl
  | 3 => exact ⟨so_b32 (st_getD (P := fun z => -128 ≤ z ∧ z < 128) st_wrd_ok (by decide) j), fun _ => st_getD (P := fun z => -128 ≤ z ∧ z < 128) st_wrd_ok (by decide) j⟩
  | 4 =>
    refine ⟨?_, fun h => by cases h⟩
    show (if _ then (Int64.ofInt 0).toInt = 0 else (Int32.ofInt 0).toInt = 0)
    split <;> rfl
  | 5 => exact ⟨so_b32 (st_getD (P := fun z => -128 ≤ z ∧ z < 128) st_sgn_ok (by decide) j), fun _ => st_getD (P := fun z => -128 ≤ z ∧ z < 128) st_sgn_ok (by decide) j⟩
  | a + 6 =>
    refine ⟨?_, fun h => by cases h⟩
    show (if _ then (Int64.ofInt 0).toInt = 0 else (Int32.ofInt 0).toInt = 0)
    split <;> rfl
theorem st_restok {L : Nat} (hL : L ≤ 2560) {xs : Nat → Int} : so_rest (st_h0 L xs) := by
  refine ⟨fun a ha => ?_, fun a => ?_, fun a ha => absurd rfl ha, rfl⟩
  · have ha : 27 + 0 ≤ a := ha
    obtain ⟨k, rfl⟩ : ∃ k, a = k + 6 := ⟨a - 6, by omega⟩
    exact ⟨rfl, rfl, fun j => ⟨rfl, rfl⟩⟩
  · match a with
    | 0 => show L < 2 ^ 31; omega
    | 1 => show 22 < 2 ^ 31; omega
    | 2 => show 2 < 2 ^ 31; omega
    | 3 => show 49 < 2 ^ 31; omega
    | 4 => show 2 < 2 ^ 31; omega
    | 5 => show 20 < 2 ^ 31; omega
    | a + 6 => show 0 < 2 ^ 31; omega
theorem so_cell.nil {s : State} {ad : Nat → Option Nat} {h : ax_H} {H : Heap} {a : Nat} (h1 : ax_kd h a = (50, 0)) (h2 : ax_ex h a = 0) : so_cell s ad h H a := by
  refine ⟨fun ty ht => ?_, fun ci hci => ?_, fun x hx => ?_, fun x hx => ?_⟩
  · rw [h1] at ht; cases ht
  · rw [h1] at hci; have hci : 50 = 100 + ci := hci; omega
  · omega
  · omega
theorem so_ty_lt {t : Nat} {ty : FieldType} (h : so_ty t = some ty) : t < 4 := by
  rcases Nat.lt_or_ge t 4 with q | q
  · exact q
  · match t, q, h with
    | t + 4, _, h => cases h
theorem so_cell.arr {s : State} {ad : Nat → Option Nat} {h : ax_H} {H : Heap} {a t r n : Nat} {ty : FieldType} (ht : so_ty t = some ty) (h1 : ax_kd h a = (t, n)) (h2 : ax_ex h a = 0) (hr : ad a = some r) (ha : so_arr s H r ty n (fun j => so_v ad (ax_el t (ax_nu h a j)))) : so_cell s ad h H a := by
  have ht4 : t < 4 := so_ty_lt ht
  refine ⟨fun ty2 ht2 => ?_, fun ci hci => ?_, fun x hx => ?_, fun x hx => ?_⟩
  · rw [h1] at ht2 ⊢
    have ht2 : so_ty t = some ty2 := ht2
    rw [ht] at ht2
    cases ht2
    exact ⟨r, hr, ha⟩
  · rw [h1] at hci; have hci : t = 100 + ci := hci; omega
  · omega
  · omega
theorem st_str {s : State} {ad : Nat → Option Nat} {h : ax_H} {a r v w n : Nat} (h1 : ax_kd h a = (113, n)) (h2 : ax_ex h a = 0) (hr : ad a = some r) (hw : ax_rf h a 0 = some w) (hv : ad w = some v) (hc : ax_nu h a 1 = 0)
    (o1 : va_O "java/lang/String" r (fun q => s.heap.size ≤ q) s s.heap) (o2 : va_OF "java/lang/String" "coder" "B" (.int 0) r (fun q => s.heap.size ≤ q) s s.heap) (o3 : va_OF "java/lang/String" "value" "[B" (.ref v) r (fun q => s.heap.size ≤ q) s s.heap) (ha : ¬ 27 ≤ a) : so_cell s ad h s.heap a := by
  obtain ⟨cell, p1, p2, p3, -⟩ := o1
  obtain ⟨cf, k, i, f, cell2, q1, q2, q3, q4, q5, -⟩ := o2
  obtain ⟨cf3, k3, i3, f3, cell3, r1, r2, r3, r4, r5, -⟩ := o3
  cases p1.symm.trans q3
  cases p1.symm.trans r3
  refine ⟨fun ty2 ht2 => ?_, fun ci hci => ?_, fun x hx => ?_, fun x hx => ?_⟩
  · rw [h1] at ht2; cases ht2
  · rw [h1] at hci
    have hci : 113 = 100 + ci := hci
    have : ci = 13 := by omega
    subst this
    refine ⟨r, hr, cell, p1, p3, q4, p2, fun q => absurd q ha, fun b hb => ?_⟩
    have hb : b < 2 := hb
    match b, hb with
    | 0, _ =>
      refine ⟨cf3, k3, i3, f3, r1, r2, ?_⟩
      rw [r5]
      show _ = some (so_v ad (.inr (.inr (ax_rf h a 0))))
      rw [hw]
      show _ = some (va_rf (ad w))
      rw [hv]
      rfl
    | 1, _ =>
      refine ⟨cf, k, i, f, q1, q2, ?_⟩
      rw [q5]
      show _ = some (Value.int (Int32.ofInt (ax_nu h a 1)))
      rw [hc]
      rfl
  · omega
  · omega
theorem st_arrT {s : State} {ad : Nat → Option Nat} {ty : FieldType} {t n tg : Nat} {F : Nat → Int} (h : va_T ty t n (fun j => .int (Int32.ofInt (F j))) (fun q => s.heap.size ≤ q) s s.heap) (h2 : tg ≠ 2) : so_arr s s.heap t ty n (fun j => so_v ad (ax_el tg (F j))) := by
  obtain ⟨cell, p1, p2, p3, p4, p5, p6, -⟩ := h
  refine ⟨cell, p1, p2, p3, ⟨p4, p5⟩, fun j hj => ?_⟩
  rw [p6 j hj]
  show some (Value.int (Int32.ofInt (F j))) = some (so_v ad (ax_el tg (F j)))
  unfold ax_el
  rw [if_neg h2]
  rfl
