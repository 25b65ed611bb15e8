/-! PRINTING: gaps. -/
def prqb (p q : Int) : Bool := decide ((((p ∈ opA ∧ q ∈ opS) ∨ (p ∈ opB ∧ q ∈ opF) ∨ (p = 1 ∧ (q = 91 ∨ q = 40)) ∨ ((p = 25 ∨ p = 26 ∨ p = 27) ∧ q = 40) ∨ (p = 40 ∧ q = 41) ∨ (p = 46 ∧ q = 2))) ∨ (p ∈ opB ∧ (q = 59 ∨ q = 123)) ∨ (p, q) ∈ psl ∨ ((p = 59 ∨ p = 125) ∧ 17 ≤ q ∧ q ≤ 20) ∨ (17 ≤ p ∧ p ≤ 20 ∧ q = 1) ∨ ((p = 123 ∨ p = 59 ∨ p = 125) ∧ (q = 1 ∨ q = 21 ∨ q = 23 ∨ q = 24 ∨ q = 125)) ∨ (p = 125 ∧ q = 22))
theorem prqb_of {p q : Int} (h : PRQ p q) : prqb p q = true := decide_eq_true h
/-- kinds that may come next to each other once brackets are dropped -/
def gpb (p q : Int) : Bool := prqb p q || (decide (p ∈ opA) && prqb 40 q && decide (q ≠ 41)) || (decide (p ≠ 40) && prqb p 41 && prqb 41 q)
/-- the class's gap -/
def gpC (a b : Bool) (p q : Int) : Bool := a || decide (p = 61) || b || decide (q = 61) || decide (f_136 p q (fun _ _ => 0) ≠ 0)
/-- the reference's -/
def gj (q : Int) : Bool := decide (q ≠ 7 ∧ q ≠ 8)
def gpR (a b : Bool) (p q : Int) : Bool := if a || decide (p = 61) || b || decide (q = 61) then gj (km q) else if km p = 8 ∨ km p = 7 ∨ km p = 13 ∨ km p = 14 then gj (km q) else if km q = 14 then gj (km q) else if km q = 13 then true else if f_250 (km p) (fun _ _ => 0) ≠ 0 ∨ km p = 16 ∨ km p = 12 then decide (f_250 (km q) (fun _ _ => 0) ≠ 0) else false
def gok (p q : Int) : Bool := !gpb p q || decide (17 ≤ q ∧ q ≤ 20) || ((gpC false false p q == gpR false false p q) && (!decide (p ∈ opI) || (gpC true false p q == gpR true false p q)) && (!decide (q ∈ opI) || (gpC false true p q == gpR false true p q)) && (!decide (p ∈ opI) || !decide (q ∈ opI) || (gpC true true p q == gpR true true p q)))
theorem gap_d : ∀ p ∈ kvl, ∀ q ∈ kvl, gok p q = true := by decide +kernel
theorem gap_eq {a b : Bool} {p q : Int} (hp : p ∈ kvl) (hq : q ∈ kvl) (h : gpb p q = true) (hs : ¬ (17 ≤ q ∧ q ≤ 20)) (ha : a = true → p ∈ opI) (hb : b = true → q ∈ opI) : gpC a b p q = gpR a b p q := by
  have d := gap_d p hp q hq
  unfold gok at d
  rw [h, decide_eq_false hs] at d
  simp only [Bool.not_true, Bool.false_or, Bool.and_eq_true, Bool.or_eq_true, beq_iff_eq, Bool.not_eq_true', decide_eq_false_iff_not] at d
  obtain ⟨⟨⟨d1, d2⟩, d3⟩, d4⟩ := d
  cases a <;> cases b
  · exact d1
  · exact d3.resolve_left (fun u => u (hb rfl))
  · exact d2.resolve_left (fun u => u (ha rfl))
  · rcases d4 with (u | u) | u
    · exact absurd (ha rfl) u
    · exact absurd (hb rfl) u
    · exact u
