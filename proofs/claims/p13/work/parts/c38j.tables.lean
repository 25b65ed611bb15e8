/-! THE LAW's TABLE IS RIGHT, by runs of a hundred bytes. -/
theorem tb_all_cut {cls : Nat} {init : Bool} {bytes : ByteArray} : ∀ (n : Nat) (t : List (Option ax_E)) (k : Nat), tb_all cls init bytes (t.take n) k = true → tb_all cls init bytes (t.drop n) (k + n) = true → tb_all cls init bytes t k = true := by
  intro n
  induction n with
  | zero => intro t k _ h; exact h
  | succ n ih =>
    intro t k h1 h2
    cases t with
    | nil => exact rfl
    | cons a r =>
      have h3 : tb_all cls init bytes (r.drop n) (k + (n + 1)) = true := h2
      rw [show k + (n + 1) = k + 1 + n by omega] at h3
      cases a with
      | none =>
        have h1 : tb_all cls init bytes (r.take n) (k + 1) = true := h1
        exact ih r (k + 1) h1 h3
      | some x =>
        have h1 : (tb_d bytes k x.1 && tb_l cls init x && tb_all cls init bytes (r.take n) (k + 1)) = true := h1
        rw [Bool.and_eq_true] at h1
        show (tb_d bytes k x.1 && tb_l cls init x && tb_all cls init bytes r (k + 1)) = true
        rw [Bool.and_eq_true]
        exact ⟨h1.1, ih r (k + 1) h1.2 h3⟩
def tb_dr : Nat → List (Option ax_E) → List (Option ax_E)
  | 0, t => t
  | k + 1, t => (tb_dr k t).drop 100
theorem tb_lw0 : tb_all 17 false (tb_bytes 279) ((tb_dr 0 tb_c279).take 100) 0 = true := by decide +kernel
theorem tb_lw1 : tb_all 17 false (tb_bytes 279) ((tb_dr 1 tb_c279).take 100) 100 = true := by decide +kernel
theorem tb_lw2 : tb_all 17 false (tb_bytes 279) ((tb_dr 2 tb_c279).take 100) 200 = true := by decide +kernel
theorem tb_lw3 : tb_all 17 false (tb_bytes 279) ((tb_dr 3 tb_c279).take 100) 300 = true := by decide +kernel
theorem tb_lw4 : tb_all 17 false (tb_bytes 279) ((tb_dr 4 tb_c279).take 100) 400 = true := by decide +kernel
theorem tb_lwE : tb_all 17 false (tb_bytes 279) (tb_dr 5 tb_c279) 500 = true := by decide +kernel
theorem tb_lwall : tb_all 17 false (tb_bytes 279) tb_c279 0 = true := (tb_all_cut 100 (tb_dr 0 tb_c279) 0 tb_lw0 (tb_all_cut 100 (tb_dr 1 tb_c279) 100 tb_lw1 (tb_all_cut 100 (tb_dr 2 tb_c279) 200 tb_lw2 (tb_all_cut 100 (tb_dr 3 tb_c279) 300 tb_lw3 (tb_all_cut 100 (tb_dr 4 tb_c279) 400 tb_lw4 tb_lwE)))))
theorem tb_lwok : tb_mok 279 = true := by
  unfold tb_mok
  rw [Bool.and_eq_true]
  exact ⟨tb_lwall, rfl⟩
theorem tb_ok_279 : tb_moks 279 1 = true := by
  show (tb_mok 279 && true) = true
  rw [tb_lwok]
  rfl
