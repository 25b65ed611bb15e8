/-! THE STATE AT THE LAW's START. -/
theorem st_L {args : Array Value} {s : State} {a b : Cond} (h : (Cond.and a b).before args s = true) : a.before args s = true := by rw [Cond.before_and, Bool.and_eq_true] at h; exact h.1
theorem st_R {args : Array Value} {s : State} {a b : Cond} (h : (Cond.and a b).before args s = true) : b.before args s = true := by rw [Cond.before_and, Bool.and_eq_true] at h; exact h.2
def st_lev : List Int := [10, 10, 10, 10, 10, 10, 10, 9, 8, 8, 7, 6, 6, 5, 5, 4, 3, 2, 1, 1, 1, 0]
def st_wrd : List Int := [119, 111, 114, 100, 32, 114, 101, 103, 32, 109, 101, 109, 32, 100, 101, 102, 32, 105, 110, 115, 32, 105, 102, 32, 101, 108, 115, 101, 32, 114, 101, 112, 32, 114, 97, 105, 115, 101, 32, 115, 120, 32, 122, 120, 32, 99, 97, 116, 32]
def st_sgn : List Int := [59, 44, 46, 61, 40, 41, 123, 125, 91, 93, 58, 63, 43, 45, 42, 38, 124, 94, 126, 60]
section STA
variable {args : Array Value} {s : State}
set_option maxRecDepth 20000 in
theorem st_levels (hn : narrow_1.before args s = true) : ∃ t : Nat, (Term.static "MachineText" "LEVELS" "[I").eval args s none [] s = some (.ref t) ∧ va_T .int t 22 (fun j => .int (Int32.ofInt (st_lev.getD j 0))) (fun q => s.heap.size ≤ q) s s.heap :=
  va_Tof (by decide) (st_R (st_L (st_R (st_R (st_L (st_L (st_L (st_L (st_L (st_L hn)))))))))) (va_eqt (st_L (st_R (st_R (st_R (st_L (st_L (st_L (st_L (st_L (st_L hn))))))))))) (fun j hj => match j, hj with
    | 0, _ => va_eqt (st_R (st_R (st_R (st_R (st_L (st_L (st_L (st_L (st_L (st_L hn))))))))))
    | 1, _ => va_eqt (st_L (st_L (st_L (st_R (st_L (st_L (st_L (st_L (st_L hn)))))))))
    | 2, _ => va_eqt (st_L (st_R (st_L (st_L (st_R (st_L (st_L (st_L (st_L (st_L hn))))))))))
    | 3, _ => va_eqt (st_R (st_R (st_L (st_L (st_R (st_L (st_L (st_L (st_L (st_L hn))))))))))
    | 4, _ => va_eqt (st_L (st_R (st_L (st_R (st_L (st_L (st_L (st_L (st_L hn)))))))))
    | 5, _ => va_eqt (st_L (st_R (st_R (st_L (st_R (st_L (st_L (st_L (st_L (st_L hn))))))))))
    | 6, _ => va_eqt (st_R (st_R (st_R (st_L (st_R (st_L (st_L (st_L (st_L (st_L hn))))))))))
    | 7, _ => va_eqt (st_L (st_L (st_R (st_R (st_L (st_L (st_L (st_L (st_L hn)))))))))
    | 8, _ => va_eqt (st_L (st_R (st_L (st_R (st_R (st_L (st_L (st_L (st_L (st_L hn))))))))))
    | 9, _ => va_eqt (st_R (st_R (st_L (st_R (st_R (st_L (st_L (st_L (st_L (st_L hn))))))))))
    | 10, _ => va_eqt (st_L (st_L (st_R (st_R (st_R (st_L (st_L (st_L (st_L (st_L hn))))))))))
    | 11, _ => va_eqt (st_R (st_L (st_R (st_R (st_R (st_L (st_L (st_L (st_L (st_L hn))))))))))
    | 12, _ => va_eqt (st_L (st_R (st_R (st_R (st_R (st_L (st_L (st_L (st_L (st_L hn))))))))))
    | 13, _ => va_eqt (st_R (st_R (st_R (st_R (st_R (st_L (st_L (st_L (st_L (st_L hn))))))))))
    | 14, _ => va_eqt (st_L (st_L (st_L (st_L (st_R (st_L (st_L (st_L (st_L hn)))))))))
    | 15, _ => va_eqt (st_L (st_R (st_L (st_L (st_L (st_R (st_L (st_L (st_L (st_L hn))))))))))
    | 16, _ => va_eqt (st_R (st_R (st_L (st_L (st_L (st_R (st_L (st_L (st_L (st_L hn))))))))))
    | 17, _ => va_eqt (st_L (st_R (st_L (st_L (st_R (st_L (st_L (st_L (st_L hn)))))))))
    | 18, _ => va_eqt (st_L (st_R (st_R (st_L (st_L (st_R (st_L (st_L (st_L (st_L hn))))))))))
    | 19, _ => va_eqt (st_R (st_R (st_R (st_L (st_L (st_R (st_L (st_L (st_L (st_L hn))))))))))
    | 20, _ => va_eqt (st_L (st_L (st_R (st_L (st_R (st_L (st_L (st_L (st_L hn)))))))))
    | 21, _ => va_eqt (st_L (st_R (st_L (st_R (st_L (st_R (st_L (st_L (st_L (st_L hn))))))))))
    | j + 22, hj => absurd hj (by omega)) (fun a ha => by omega)
set_option maxRecDepth 20000 in
theorem st_words (hn : narrow_1.before args s = true) : ∃ r v : Nat, (Term.string "MachineText$Names" (51 : Nat)).eval args s none [] s = some (.ref r) ∧ va_O "java/lang/String" r (fun q => s.heap.size ≤ q) s s.heap ∧ va_OF "java/lang/String" "coder" "B" (.int 0) r (fun q => s.heap.size ≤ q) s s.heap ∧ va_OF "java/lang/String" "value" "[B" (.ref v) r (fun q => s.heap.size ≤ q) s s.heap ∧ va_T .byte v 49 (fun j => .int (Int32.ofInt (st_wrd.getD j 0))) (fun q => s.heap.size ≤ q) s s.heap := by
  have hA : ∀ a : Nat, a < s.heap.size → ¬ s.heap.size ≤ a := fun a ha => by omega
  obtain ⟨a, c, cA, kA, q1, q2, q3, q4, q5, q6, -⟩ := Cond.exactly_spec (args := args) (first := s) (o := none) (s := s) (idx := []) (t := (Term.string "MachineText$Names" (51 : Nat))) (cls := "java/lang/String") (st_L (st_R (st_L (st_R (st_R (st_R (st_L (st_R (st_L (st_L hn))))))))))
  obtain ⟨t, ht, hT⟩ := va_Tof (f := fun j => .int (Int32.ofInt (st_wrd.getD j 0))) (A := fun q => s.heap.size ≤ q) (N := 49) (by decide) (st_L (st_L (st_R (st_R (st_R (st_R (st_L (st_R (st_L (st_L hn)))))))))) (va_eqt (st_R (st_L (st_R (st_R (st_R (st_R (st_L (st_R (st_L (st_L hn))))))))))) (fun j hj => match j, hj with
    | 0, _ => va_eqt (st_L (st_R (st_R (st_R (st_R (st_R (st_L (st_R (st_L (st_L hn))))))))))
    | 1, _ => va_eqt (st_R (st_R (st_R (st_R (st_R (st_R (st_L (st_R (st_L (st_L hn))))))))))
    | 2, _ => va_eqt (st_L (st_L (st_L (st_L (st_L (st_R (st_R (st_L (st_L hn)))))))))
    | 3, _ => va_eqt (st_L (st_R (st_L (st_L (st_L (st_L (st_R (st_R (st_L (st_L hn))))))))))
    | 4, _ => va_eqt (st_R (st_R (st_L (st_L (st_L (st_L (st_R (st_R (st_L (st_L hn))))))))))
    | 5, _ => va_eqt (st_L (st_R (st_L (st_L (st_L (st_R (st_R (st_L (st_L hn)))))))))
    | 6, _ => va_eqt (st_L (st_R (st_R (st_L (st_L (st_L (st_R (st_R (st_L (st_L hn))))))))))
    | 7, _ => va_eqt (st_R (st_R (st_R (st_L (st_L (st_L (st_R (st_R (st_L (st_L hn))))))))))
    | 8, _ => va_eqt (st_L (st_L (st_R (st_L (st_L (st_R (st_R (st_L (st_L hn)))))))))
    | 9, _ => va_eqt (st_L (st_R (st_L (st_R (st_L (st_L (st_R (st_R (st_L (st_L hn))))))))))
    | 10, _ => va_eqt (st_R (st_R (st_L (st_R (st_L (st_L (st_R (st_R (st_L (st_L hn))))))))))
    | 11, _ => va_eqt (st_L (st_L (st_R (st_R (st_L (st_L (st_R (st_R (st_L (st_L hn))))))))))
    | 12, _ => va_eqt (st_R (st_L (st_R (st_R (st_L (st_L (st_R (st_R (st_L (st_L hn))))))))))
    | 13, _ => va_eqt (st_L (st_R (st_R (st_R (st_L (st_L (st_R (st_R (st_L (st_L hn))))))))))
    | 14, _ => va_eqt (st_R (st_R (st_R (st_R (st_L (st_L (st_R (st_R (st_L (st_L hn))))))))))
    | 15, _ => va_eqt (st_L (st_L (st_L (st_R (st_L (st_R (st_R (st_L (st_L hn)))))))))
    | 16, _ => va_eqt (st_L (st_R (st_L (st_L (st_R (st_L (st_R (st_R (st_L (st_L hn))))))))))
    | 17, _ => va_eqt (st_R (st_R (st_L (st_L (st_R (st_L (st_R (st_R (st_L (st_L hn))))))))))
    | 18, _ => va_eqt (st_L (st_L (st_R (st_L (st_R (st_L (st_R (st_R (st_L (st_L hn))))))))))
    | 19, _ => va_eqt (st_R (st_L (st_R (st_L (st_R (st_L (st_R (st_R (st_L (st_L hn))))))))))
    | 20, _ => va_eqt (st_L (st_R (st_R (st_L (st_R (st_L (st_R (st_R (st_L (st_L hn))))))))))
    | 21, _ => va_eqt (st_R (st_R (st_R (st_L (st_R (st_L (st_R (st_R (st_L (st_L hn))))))))))
    | 22, _ => va_eqt (st_L (st_L (st_R (st_R (st_L (st_R (st_R (st_L (st_L hn)))))))))
    | 23, _ => va_eqt (st_L (st_R (st_L (st_R (st_R (st_L (st_R (st_R (st_L (st_L hn))))))))))
    | 24, _ => va_eqt (st_R (st_R (st_L (st_R (st_R (st_L (st_R (st_R (st_L (st_L hn))))))))))
    | 25, _ => va_eqt (st_L (st_L (st_R (st_R (st_R (st_L (st_R (st_R (st_L (st_L hn))))))))))
    | 26, _ => va_eqt (st_R (st_L (st_R (st_R (st_R (st_L (st_R (st_R (st_L (st_L hn))))))))))
    | 27, _ => va_eqt (st_L (st_R (st_R (st_R (st_R (st_L (st_R (st_R (st_L (st_L hn))))))))))
    | 28, _ => va_eqt (st_R (st_R (st_R (st_R (st_R (st_L (st_R (st_R (st_L (st_L hn))))))))))
    | 29, _ => va_eqt (st_L (st_L (st_L (st_L (st_R (st_R (st_R (st_L (st_L hn)))))))))
    | 30, _ => va_eqt (st_L (st_R (st_L (st_L (st_L (st_R (st_R (st_R (st_L (st_L hn))))))))))
    | 31, _ => va_eqt (st_R (st_R (st_L (st_L (st_L (st_R (st_R (st_R (st_L (st_L hn))))))))))
    | 32, _ => va_eqt (st_L (st_R (st_L (st_L (st_R (st_R (st_R (st_L (st_L hn)))))))))
    | 33, _ => va_eqt (st_L (st_R (st_R (st_L (st_L (st_R (st_R (st_R (st_L (st_L hn))))))))))
    | 34, _ => va_eqt (st_R (st_R (st_R (st_L (st_L (st_R (st_R (st_R (st_L (st_L hn))))))))))
    | 35, _ => va_eqt (st_L (st_L (st_R (st_L (st_R (st_R (st_R (st_L (st_L hn)))))))))
    | 36, _ => va_eqt (st_L (st_R (st_L (st_R (st_L (st_R (st_R (st_R (st_L (st_L hn))))))))))
    | 37, _ => va_eqt (st_R (st_R (st_L (st_R (st_L (st_R (st_R (st_R (st_L (st_L hn))))))))))
    | 38, _ => va_eqt (st_L (st_L (st_R (st_R (st_L (st_R (st_R (st_R (st_L (st_L hn))))))))))
    | 39, _ => va_eqt (st_R (st_L (st_R (st_R (st_L (st_R (st_R (st_R (st_L (st_L hn))))))))))
    | 40, _ => va_eqt (st_L (st_R (st_R (st_R (st_L (st_R (st_R (st_R (st_L (st_L hn))))))))))
    | 41, _ => va_eqt (st_R (st_R (st_R (st_R (st_L (st_R (st_R (st_R (st_L (st_L hn))))))))))
    | 42, _ => va_eqt (st_L (st_L (st_L (st_R (st_R (st_R (st_R (st_L (st_L hn)))))))))
    | 43, _ => va_eqt (st_L (st_R (st_L (st_L (st_R (st_R (st_R (st_R (st_L (st_L hn))))))))))
    | 44, _ => va_eqt (st_R (st_R (st_L (st_L (st_R (st_R (st_R (st_R (st_L (st_L hn))))))))))
    | 45, _ => va_eqt (st_L (st_L (st_R (st_L (st_R (st_R (st_R (st_R (st_L (st_L hn))))))))))
    | 46, _ => va_eqt (st_R (st_L (st_R (st_L (st_R (st_R (st_R (st_R (st_L (st_L hn))))))))))
    | 47, _ => va_eqt (st_L (st_R (st_R (st_L (st_R (st_R (st_R (st_R (st_L (st_L hn))))))))))
    | 48, _ => va_eqt (st_R (st_R (st_R (st_L (st_R (st_R (st_R (st_R (st_L (st_L hn))))))))))
    | j + 49, hj => absurd hj (by omega)) hA
  exact ⟨a, t, q1, ⟨cA, q3, q5, by rw [q6]; exact q2, hA a (Array.getElem?_eq_some_iff.mp q3).1⟩, vk_OFof q1 (va_eqt (st_R (st_R (st_L (st_R (st_R (st_R (st_L (st_R (st_L (st_L hn))))))))))) hA, vk_OFof q1 ht hA, hT⟩
set_option maxRecDepth 20000 in
theorem st_signs (hn : narrow_1.before args s = true) : ∃ r v : Nat, (Term.string "MachineText$Lexemes" (135 : Nat)).eval args s none [] s = some (.ref r) ∧ va_O "java/lang/String" r (fun q => s.heap.size ≤ q) s s.heap ∧ va_OF "java/lang/String" "coder" "B" (.int 0) r (fun q => s.heap.size ≤ q) s s.heap ∧ va_OF "java/lang/String" "value" "[B" (.ref v) r (fun q => s.heap.size ≤ q) s s.heap ∧ va_T .byte v 20 (fun j => .int (Int32.ofInt (st_sgn.getD j 0))) (fun q => s.heap.size ≤ q) s s.heap := by
  have hA : ∀ a : Nat, a < s.heap.size → ¬ s.heap.size ≤ a := fun a ha => by omega
  obtain ⟨a, c, cA, kA, q1, q2, q3, q4, q5, q6, -⟩ := Cond.exactly_spec (args := args) (first := s) (o := none) (s := s) (idx := []) (t := (Term.string "MachineText$Lexemes" (135 : Nat))) (cls := "java/lang/String") (st_L (st_L (st_R (st_R (st_R (st_R (st_R (st_R (st_L (st_L hn))))))))))
  obtain ⟨t, ht, hT⟩ := va_Tof (f := fun j => .int (Int32.ofInt (st_sgn.getD j 0))) (A := fun q => s.heap.size ≤ q) (N := 20) (by decide) (st_L (st_R (st_R (st_R (st_R (st_R (st_R (st_R (st_L (st_L hn)))))))))) (va_eqt (st_R (st_R (st_R (st_R (st_R (st_R (st_R (st_R (st_L (st_L hn))))))))))) (fun j hj => match j, hj with
    | 0, _ => va_eqt (st_L (st_L (st_L (st_L (st_L (st_L (st_L (st_R (st_L hn)))))))))
    | 1, _ => va_eqt (st_L (st_R (st_L (st_L (st_L (st_L (st_L (st_L (st_R (st_L hn))))))))))
    | 2, _ => va_eqt (st_R (st_R (st_L (st_L (st_L (st_L (st_L (st_L (st_R (st_L hn))))))))))
    | 3, _ => va_eqt (st_L (st_R (st_L (st_L (st_L (st_L (st_L (st_R (st_L hn)))))))))
    | 4, _ => va_eqt (st_L (st_R (st_R (st_L (st_L (st_L (st_L (st_L (st_R (st_L hn))))))))))
    | 5, _ => va_eqt (st_R (st_R (st_R (st_L (st_L (st_L (st_L (st_L (st_R (st_L hn))))))))))
    | 6, _ => va_eqt (st_L (st_L (st_R (st_L (st_L (st_L (st_L (st_R (st_L hn)))))))))
    | 7, _ => va_eqt (st_L (st_R (st_L (st_R (st_L (st_L (st_L (st_L (st_R (st_L hn))))))))))
    | 8, _ => va_eqt (st_R (st_R (st_L (st_R (st_L (st_L (st_L (st_L (st_R (st_L hn))))))))))
    | 9, _ => va_eqt (st_L (st_L (st_R (st_R (st_L (st_L (st_L (st_L (st_R (st_L hn))))))))))
    | 10, _ => va_eqt (st_R (st_L (st_R (st_R (st_L (st_L (st_L (st_L (st_R (st_L hn))))))))))
    | 11, _ => va_eqt (st_L (st_R (st_R (st_R (st_L (st_L (st_L (st_L (st_R (st_L hn))))))))))
    | 12, _ => va_eqt (st_R (st_R (st_R (st_R (st_L (st_L (st_L (st_L (st_R (st_L hn))))))))))
    | 13, _ => va_eqt (st_L (st_L (st_L (st_R (st_L (st_L (st_L (st_R (st_L hn)))))))))
    | 14, _ => va_eqt (st_L (st_R (st_L (st_L (st_R (st_L (st_L (st_L (st_R (st_L hn))))))))))
    | 15, _ => va_eqt (st_R (st_R (st_L (st_L (st_R (st_L (st_L (st_L (st_R (st_L hn))))))))))
    | 16, _ => va_eqt (st_L (st_R (st_L (st_R (st_L (st_L (st_L (st_R (st_L hn)))))))))
    | 17, _ => va_eqt (st_L (st_R (st_R (st_L (st_R (st_L (st_L (st_L (st_R (st_L hn))))))))))
    | 18, _ => va_eqt (st_R (st_R (st_R (st_L (st_R (st_L (st_L (st_L (st_R (st_L hn))))))))))
    | 19, _ => va_eqt (st_L (st_L (st_R (st_R (st_L (st_L (st_L (st_R (st_L hn)))))))))
    | j + 20, hj => absurd hj (by omega)) hA
  exact ⟨a, t, q1, ⟨cA, q3, q5, by rw [q6]; exact q2, hA a (Array.getElem?_eq_some_iff.mp q3).1⟩, vk_OFof q1 (va_eqt (st_R (st_L (st_R (st_R (st_R (st_R (st_R (st_R (st_L (st_L hn))))))))))) hA, vk_OFof q1 ht hA, hT⟩
theorem st_exact {tm : Term} (h : (Cond.exactly tm "java/lang/String").before args s = true) : ∃ r : Nat, tm.eval args s none [] s = some (.ref r) ∧ r < s.heap.size := by
  obtain ⟨a, c, cA, kA, q1, q2, q3, -⟩ := Cond.exactly_spec (args := args) (first := s) (o := none) (s := s) (idx := []) (t := tm) (cls := "java/lang/String") h
  exact ⟨a, q1, (Array.getElem?_eq_some_iff.mp q3).1⟩
set_option maxRecDepth 20000 in
theorem st_strs (hn : narrow_1.before args s = true) : ∀ b, 2 ≤ b → b < 26 → b ≠ 3 → b ≠ 5 → ∃ r : Nat, (Term.string (tb_RN (tb_st.getD b (0, 0, "")).1) (tb_st.getD b (0, 0, "")).2.1).eval args s none [] s = some (.ref r) ∧ r < s.heap.size := fun b h1 h2 h3 h5 => match b, h1, h2, h3, h5 with
  | 0, h, _, _, _ => absurd h (by decide)
  | 1, h, _, _, _ => absurd h (by decide)
  | 2, _, _, _, _ => st_exact (st_L (st_R (st_L (st_R (st_R (st_R (st_L (st_R (st_L (st_L hn))))))))))
  | 3, _, _, h, _ => absurd rfl h
  | 4, _, _, _, _ => st_exact (st_L (st_L (st_R (st_R (st_R (st_R (st_R (st_R (st_L (st_L hn))))))))))
  | 5, _, _, _, h => absurd rfl h
  | 6, _, _, _, _ => st_exact (st_R (st_R (st_R (st_R (st_R (st_L (st_R (st_L (st_L (st_L hn))))))))))
  | 7, _, _, _, _ => st_exact (st_R (st_R (st_L (st_L (st_L (st_L (st_L (st_R (st_L (st_L hn))))))))))
  | 8, _, _, _, _ => st_exact (st_R (st_R (st_R (st_L (st_R (st_L (st_L (st_R (st_L (st_L hn))))))))))
  | 9, _, _, _, _ => st_exact (st_L (st_R (st_R (st_R (st_R (st_L (st_L (st_L (st_R (st_L hn))))))))))
  | 10, _, _, _, _ => st_exact (st_L (st_R (st_R (st_L (st_L (st_L (st_R (st_L (st_R (st_L hn))))))))))
  | 11, _, _, _, _ => st_exact (st_R (st_R (st_L (st_L (st_L (st_R (st_R (st_L (st_R (st_L hn))))))))))
  | 12, _, _, _, _ => st_exact (st_L (st_R (st_R (st_L (st_L (st_L (st_L (st_R (st_R (st_L hn))))))))))
  | 13, _, _, _, _ => st_exact (st_R (st_R (st_L (st_L (st_L (st_R (st_L (st_R (st_R (st_L hn))))))))))
  | 14, _, _, _, _ => st_exact (st_L (st_L (st_R (st_L (st_L (st_R (st_R (st_R (st_L hn)))))))))
  | 15, _, _, _, _ => st_exact (st_L (st_L (st_L (st_R (st_R (st_R (st_R (st_R (st_L hn)))))))))
  | 16, _, _, _, _ => st_exact (st_L (st_R (st_R (st_L (st_R (st_L (st_L (st_L (st_L (st_R hn))))))))))
  | 17, _, _, _, _ => st_exact (st_L (st_R (st_R (st_R (st_R (st_R (st_L (st_L (st_L (st_R hn))))))))))
  | 18, _, _, _, _ => st_exact (st_R (st_R (st_L (st_R (st_L (st_R (st_R (st_L (st_L (st_R hn))))))))))
  | 19, _, _, _, _ => st_exact (st_R (st_R (st_R (st_L (st_L (st_R (st_L (st_R (st_L (st_R hn))))))))))
  | 20, _, _, _, _ => st_exact (st_R (st_R (st_L (st_R (st_R (st_L (st_R (st_R (st_L (st_R hn))))))))))
  | 21, _, _, _, _ => st_exact (st_R (st_R (st_L (st_L (st_L (st_L (st_L (st_L (st_R (st_R hn))))))))))
  | 22, _, _, _, _ => st_exact (st_R (st_L (st_R (st_L (st_R (st_R (st_L (st_L (st_R (st_R hn))))))))))
  | 23, _, _, _, _ => st_exact (st_L (st_L (st_R (st_R (st_L (st_R (st_R (st_L (st_R (st_R hn))))))))))
  | 24, _, _, _, _ => st_exact (st_L (st_L (st_R (st_R (st_L (st_L (st_R (st_R (st_R hn)))))))))
  | 25, _, _, _, _ => st_exact (st_R (st_L (st_R (st_R (st_L (st_L (st_R (st_R (st_R (st_R hn))))))))))
  | b + 26, _, h, _, _ => absurd h (by omega)
set_option maxRecDepth 20000 in
theorem st_kin (hn : narrow_1.before args s = true) : ∀ x y, 14 ≤ x → x < 17 → 14 ≤ y → y < 17 → x ≠ y → va_Nc (tb_RN x) (tb_RN y) s := by
  intro x y h1 h2 h3 h4 h5
  have e1 : x = 14 ∨ x = 15 ∨ x = 16 := by omega
  have e2 : y = 14 ∨ y = 15 ∨ y = 16 := by omega
  rcases e1 with rfl | rfl | rfl <;> rcases e2 with rfl | rfl | rfl
  · exact absurd rfl h5
  · exact va_Nc.of (st_L (st_L (st_R (st_R (st_L (st_L (st_R (st_L (st_L (st_L hn))))))))))
  · exact va_Nc.of (st_R (st_L (st_R (st_R (st_R (st_L (st_R (st_L (st_L (st_L hn))))))))))
  · exact va_Nc.of (st_L (st_R (st_L (st_R (st_R (st_R (st_L (st_L (st_L (st_L hn))))))))))
  · exact absurd rfl h5
  · exact va_Nc.of (st_L (st_R (st_R (st_R (st_R (st_L (st_R (st_L (st_L (st_L hn))))))))))
  · exact va_Nc.of (st_R (st_R (st_L (st_R (st_R (st_R (st_L (st_L (st_L (st_L hn))))))))))
  · exact va_Nc.of (st_R (st_L (st_R (st_R (st_L (st_L (st_R (st_L (st_L (st_L hn))))))))))
  · exact absurd rfl h5
theorem st_refs (hn : narrow_1.before args s = true) : (Cond.isRef (.static "java/lang/Throwable" "UNASSIGNED_STACK" "[Ljava/lang/StackTraceElement;")).before args s = true ∧ (Cond.isRef (.static "java/lang/Throwable" "SUPPRESSED_SENTINEL" "Ljava/util/List;")).before args s = true ∧ (Cond.isRef (.static "jdk/internal/util/Preconditions" "SIOOBE_FORMATTER" "Ljava/util/function/BiFunction;")).before args s = true ∧ (Term.static "java/lang/String" "COMPACT_STRINGS" "Z").eval args s none [] s = some (.int 1) := ⟨(st_R (st_R (st_L (st_L (st_L (st_L (st_L (st_L (st_L (st_L hn)))))))))), (st_L (st_R (st_L (st_L (st_L (st_L (st_L (st_L (st_L hn))))))))), (st_R (st_R (st_R (st_L (st_L (st_L (st_L (st_L (st_L (st_L hn)))))))))), va_eqt (st_L (st_R (st_R (st_L (st_L (st_L (st_L (st_L (st_L (st_L hn))))))))))⟩
end STA
set_option maxRecDepth 20000 in
theorem st_stat : (Cond.laysStatic "MachineText" "LEVELS" "[I" ∈ lw_tbl ∧ Cond.initialized "MachineText" ∈ lw_tbl) ∧ (Cond.laysStatic "java/lang/String" "COMPACT_STRINGS" "Z" ∈ lw_tbl ∧ Cond.initialized "java/lang/String" ∈ lw_tbl) ∧ (Cond.laysStatic "jdk/internal/util/Preconditions" "SIOOBE_FORMATTER" "Ljava/util/function/BiFunction;" ∈ lw_tbl ∧ Cond.initialized "jdk/internal/util/Preconditions" ∈ lw_tbl) := ⟨⟨tb_i5 (List.mem_of_getElem? (i := 57) rfl), tb_i1 (List.mem_of_getElem? (i := 1) rfl)⟩, ⟨tb_i3 (List.mem_of_getElem? (i := 124) rfl), tb_i1 (List.mem_of_getElem? (i := 21) rfl)⟩, ⟨tb_i3 (List.mem_of_getElem? (i := 140) rfl), tb_i1 (List.mem_of_getElem? (i := 23) rfl)⟩⟩
set_option maxRecDepth 20000 in
theorem st_sref : ∀ b, 2 ≤ b → b < 26 → b ≠ 3 → b ≠ 5 → Cond.stringRef (tb_RN (tb_st.getD b (0, 0, "")).1) (tb_st.getD b (0, 0, "")).2.1 (tb_st.getD b (0, 0, "")).2.2 ∈ lw_tbl := fun b h1 h2 h3 h5 => match b, h1, h2, h3, h5 with
  | 0, h, _, _, _ => absurd h (by decide)
  | 1, h, _, _, _ => absurd h (by decide)
  | 2, _, _, _, _ => tb_i3 (List.mem_of_getElem? (i := 114) rfl)
  | 3, _, _, h, _ => absurd rfl h
  | 4, _, _, _, _ => tb_i4 (List.mem_of_getElem? (i := 15) rfl)
  | 5, _, _, _, h => absurd rfl h
  | 6, _, _, _, _ => tb_i3 (List.mem_of_getElem? (i := 29) rfl)
  | 7, _, _, _, _ => tb_i3 (List.mem_of_getElem? (i := 76) rfl)
  | 8, _, _, _, _ => tb_i3 (List.mem_of_getElem? (i := 83) rfl)
  | 9, _, _, _, _ => tb_i4 (List.mem_of_getElem? (i := 109) rfl)
  | 10, _, _, _, _ => tb_i4 (List.mem_of_getElem? (i := 119) rfl)
  | 11, _, _, _, _ => tb_i4 (List.mem_of_getElem? (i := 152) rfl)
  | 12, _, _, _, _ => tb_i4 (List.mem_of_getElem? (i := 170) rfl)
  | 13, _, _, _, _ => tb_i4 (List.mem_of_getElem? (i := 180) rfl)
  | 14, _, _, _, _ => tb_i4 (List.mem_of_getElem? (i := 197) rfl)
  | 15, _, _, _, _ => tb_i5 (List.mem_of_getElem? (i := 104) rfl)
  | 16, _, _, _, _ => tb_i5 (List.mem_of_getElem? (i := 178) rfl)
  | 17, _, _, _, _ => tb_i6 (List.mem_of_getElem? (i := 153) rfl)
  | 18, _, _, _, _ => tb_i6 (List.mem_of_getElem? (i := 175) rfl)
  | 19, _, _, _, _ => tb_i6 (List.mem_of_getElem? (i := 190) rfl)
  | 20, _, _, _, _ => tb_i6 (List.mem_of_getElem? (i := 209) rfl)
  | 21, _, _, _, _ => tb_i6 (List.mem_of_getElem? (i := 223) rfl)
  | 22, _, _, _, _ => tb_i7 (List.mem_of_getElem? (i := 0) rfl)
  | 23, _, _, _, _ => tb_i7 (List.mem_of_getElem? (i := 13) rfl)
  | 24, _, _, _, _ => tb_i7 (List.mem_of_getElem? (i := 65) rfl)
  | 25, _, _, _, _ => tb_i7 (List.mem_of_getElem? (i := 78) rfl)
  | b + 26, _, h, _, _ => absurd h (by omega)
