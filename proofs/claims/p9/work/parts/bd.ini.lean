/-! THE CONSTRUCTORS, by program (wip/p2/mkst.py): from the law's first place to its loop. -/
def z_lev : List Int := [10, 10, 10, 10, 10, 10, 10, 9, 8, 8, 7, 6, 6, 5, 5, 4, 3, 2, 1, 1, 1, 0]
def z_wrd : List Int := [119, 111, 114, 100, 32, 114, 101, 103, 32, 109, 101, 109, 32, 100, 101, 102, 32, 105, 110, 115, 32, 105, 102, 32, 101, 108, 115, 101, 32, 114, 101, 112, 32, 114, 97, 105, 115, 101, 32, 115, 120, 32, 122, 120, 32, 99, 97, 116, 32]
def z_sgn : List Int := [59, 44, 46, 61, 40, 41, 123, 125, 91, 93, 58, 63, 43, 45, 42, 38, 124, 94, 126, 60]
def sK0 (L a : Nat) : Nat × Nat := match a with
  | 0 => (0, L)
  | 1 => (0, 22)
  | 2 => (113, 2)
  | 3 => (1, 49)
  | 4 => (113, 2)
  | 5 => (1, 20)
  | _ => (50, 0)
def sS0 (L : Nat) (xs : Nat → Int) (a j : Nat) : Int := match a with
  | 0 => if j < L then xs j else 0
  | 1 => z_lev.getD j 0
  | 3 => z_wrd.getD j 0
  | 5 => z_sgn.getD j 0
  | _ => 0
def sR0 (a j : Nat) : Option Nat := match a, j with
  | 2, 0 => some 3
  | 4, 0 => some 5
  | _, _ => none
def sH0 (L : Nat) (xs : Nat → Int) : ax_H := (0, 0, sK0 L, sS0 L xs, sR0, fun _ => 0)
def sK1 (L : Nat) : Nat → Nat × Nat := ax_u1 (sK0 L) 27 (100, 14)
def sH1 (L : Nat) (xs : Nat → Int) : ax_H := (1, 14, sK1 L, sS0 L xs, sR0, fun _ => 0)
def sK2 (L : Nat) : Nat → Nat × Nat := ax_u1 (sK1 L) 28 (1, 8192)
def sH2 (L : Nat) (xs : Nat → Int) : ax_H := (2, 8206, sK2 L, sS0 L xs, sR0, fun _ => 0)
def sR1 : Nat → Nat → Option Nat := ax_u2 sR0 27 0 (some 28)
def sH3 (L : Nat) (xs : Nat → Int) : ax_H := (2, 8206, sK2 L, sS0 L xs, sR1, fun _ => 0)
def sK3 (L : Nat) : Nat → Nat × Nat := ax_u1 (sK2 L) 29 (104, 1)
def sH4 (L : Nat) (xs : Nat → Int) : ax_H := (3, 8207, sK3 L, sS0 L xs, sR1, fun _ => 0)
def sK4 (L : Nat) : Nat → Nat × Nat := ax_u1 (sK3 L) 30 (0, 11)
def sH5 (L : Nat) (xs : Nat → Int) : ax_H := (4, 8218, sK4 L, sS0 L xs, sR1, fun _ => 0)
def sR2 : Nat → Nat → Option Nat := ax_u2 sR1 29 0 (some 30)
def sH6 (L : Nat) (xs : Nat → Int) : ax_H := (4, 8218, sK4 L, sS0 L xs, sR2, fun _ => 0)
def sS1 (L : Nat) (xs : Nat → Int) : Nat → Nat → Int := ax_u2 (sS0 L xs) 30 0 (-1)
def sH7 (L : Nat) (xs : Nat → Int) : ax_H := (4, 8218, sK4 L, sS1 L xs, sR2, fun _ => 0)
def sS2 (L : Nat) (xs : Nat → Int) : Nat → Nat → Int := ax_u2 (sS1 L xs) 30 1 (-1)
def sH8 (L : Nat) (xs : Nat → Int) : ax_H := (4, 8218, sK4 L, sS2 L xs, sR2, fun _ => 0)
def sS3 (L : Nat) (xs : Nat → Int) : Nat → Nat → Int := ax_u2 (sS2 L xs) 30 2 (-1)
def sH9 (L : Nat) (xs : Nat → Int) : ax_H := (4, 8218, sK4 L, sS3 L xs, sR2, fun _ => 0)
def sS4 (L : Nat) (xs : Nat → Int) : Nat → Nat → Int := ax_u2 (sS3 L xs) 30 3 (-1)
def sH10 (L : Nat) (xs : Nat → Int) : ax_H := (4, 8218, sK4 L, sS4 L xs, sR2, fun _ => 0)
def sS5 (L : Nat) (xs : Nat → Int) : Nat → Nat → Int := ax_u2 (sS4 L xs) 30 4 (-1)
def sH11 (L : Nat) (xs : Nat → Int) : ax_H := (4, 8218, sK4 L, sS5 L xs, sR2, fun _ => 0)
def sS6 (L : Nat) (xs : Nat → Int) : Nat → Nat → Int := ax_u2 (sS5 L xs) 30 5 (-1)
def sH12 (L : Nat) (xs : Nat → Int) : ax_H := (4, 8218, sK4 L, sS6 L xs, sR2, fun _ => 0)
def sS7 (L : Nat) (xs : Nat → Int) : Nat → Nat → Int := ax_u2 (sS6 L xs) 30 6 (-1)
def sH13 (L : Nat) (xs : Nat → Int) : ax_H := (4, 8218, sK4 L, sS7 L xs, sR2, fun _ => 0)
def sS8 (L : Nat) (xs : Nat → Int) : Nat → Nat → Int := ax_u2 (sS7 L xs) 30 7 (-1)
def sH14 (L : Nat) (xs : Nat → Int) : ax_H := (4, 8218, sK4 L, sS8 L xs, sR2, fun _ => 0)
def sS9 (L : Nat) (xs : Nat → Int) : Nat → Nat → Int := ax_u2 (sS8 L xs) 30 8 (-1)
def sH15 (L : Nat) (xs : Nat → Int) : ax_H := (4, 8218, sK4 L, sS9 L xs, sR2, fun _ => 0)
def sS10 (L : Nat) (xs : Nat → Int) : Nat → Nat → Int := ax_u2 (sS9 L xs) 30 9 (-1)
def sH16 (L : Nat) (xs : Nat → Int) : ax_H := (4, 8218, sK4 L, sS10 L xs, sR2, fun _ => 0)
def sS11 (L : Nat) (xs : Nat → Int) : Nat → Nat → Int := ax_u2 (sS10 L xs) 30 10 (-1)
def sH17 (L : Nat) (xs : Nat → Int) : ax_H := (4, 8218, sK4 L, sS11 L xs, sR2, fun _ => 0)
set_option maxRecDepth 20000 in
theorem st_c1 {L : Nat} {xs : Nat → Int} : Ev 1 301 [.inr (.inr (some 30)), .inl (-1)] (sH6 L xs) (.inl none) (sH17 L xs) := by
  refine Ev.of (μ := tb_m301) (ls := [some (.inr (.inr (some 30))), some (.inl (-1)), none, none]) rfl (Nat.le_of_ble_eq_true rfl) rfl ?_
  refine Ru.step (pc' := 1) (ls' := [some (.inr (.inr (some 30))), some (.inl (-1)), none, none]) (st' := [.inl 0]) (h1 := sH6 L xs) rfl ?_
  refine Ru.step (pc' := 2) (ls' := [some (.inr (.inr (some 30))), some (.inl (-1)), some (.inl 0), none]) (st' := []) (h1 := sH6 L xs) rfl ?_
  refine Ru.step (pc' := 3) (ls' := [some (.inr (.inr (some 30))), some (.inl (-1)), some (.inl 0), none]) (st' := [.inr (.inr (some 30))]) (h1 := sH6 L xs) rfl ?_
  refine Ru.step (pc' := 4) (ls' := [some (.inr (.inr (some 30))), some (.inl (-1)), some (.inl 0), none]) (st' := [.inl 11]) (h1 := sH6 L xs) rfl ?_
  refine Ru.step (pc' := 5) (ls' := [some (.inr (.inr (some 30))), some (.inl (-1)), some (.inl 0), some (.inl 11)]) (st' := []) (h1 := sH6 L xs) rfl ?_
  refine Ru.step (pc' := 6) (ls' := [some (.inr (.inr (some 30))), some (.inl (-1)), some (.inl 0), some (.inl 11)]) (st' := [.inl 0]) (h1 := sH6 L xs) rfl ?_
  refine Ru.step (pc' := 7) (ls' := [some (.inr (.inr (some 30))), some (.inl (-1)), some (.inl 0), some (.inl 11)]) (st' := [.inl 11, .inl 0]) (h1 := sH6 L xs) rfl ?_
  refine Ru.step (pc' := 10) (ls' := [some (.inr (.inr (some 30))), some (.inl (-1)), some (.inl 0), some (.inl 11)]) (st' := []) (h1 := sH6 L xs) rfl ?_
  refine Ru.step (pc' := 11) (ls' := [some (.inr (.inr (some 30))), some (.inl (-1)), some (.inl 0), some (.inl 11)]) (st' := [.inr (.inr (some 30))]) (h1 := sH6 L xs) rfl ?_
  refine Ru.step (pc' := 12) (ls' := [some (.inr (.inr (some 30))), some (.inl (-1)), some (.inl 0), some (.inl 11)]) (st' := [.inl 0, .inr (.inr (some 30))]) (h1 := sH6 L xs) rfl ?_
  refine Ru.step (pc' := 13) (ls' := [some (.inr (.inr (some 30))), some (.inl (-1)), some (.inl 0), some (.inl 11)]) (st' := [.inl (-1), .inl 0, .inr (.inr (some 30))]) (h1 := sH6 L xs) rfl ?_
  refine Ru.step (pc' := 14) (ls' := [some (.inr (.inr (some 30))), some (.inl (-1)), some (.inl 0), some (.inl 11)]) (st' := []) (h1 := sH7 L xs) rfl ?_
  refine Ru.step (pc' := 17) (ls' := [some (.inr (.inr (some 30))), some (.inl (-1)), some (.inl 1), some (.inl 11)]) (st' := []) (h1 := sH7 L xs) rfl ?_
  refine Ru.step (pc' := 5) (ls' := [some (.inr (.inr (some 30))), some (.inl (-1)), some (.inl 1), some (.inl 11)]) (st' := []) (h1 := sH7 L xs) rfl ?_
  refine Ru.step (pc' := 6) (ls' := [some (.inr (.inr (some 30))), some (.inl (-1)), some (.inl 1), some (.inl 11)]) (st' := [.inl 1]) (h1 := sH7 L xs) rfl ?_
  refine Ru.step (pc' := 7) (ls' := [some (.inr (.inr (some 30))), some (.inl (-1)), some (.inl 1), some (.inl 11)]) (st' := [.inl 11, .inl 1]) (h1 := sH7 L xs) rfl ?_
  refine Ru.step (pc' := 10) (ls' := [some (.inr (.inr (some 30))), some (.inl (-1)), some (.inl 1), some (.inl 11)]) (st' := []) (h1 := sH7 L xs) rfl ?_
  refine Ru.step (pc' := 11) (ls' := [some (.inr (.inr (some 30))), some (.inl (-1)), some (.inl 1), some (.inl 11)]) (st' := [.inr (.inr (some 30))]) (h1 := sH7 L xs) rfl ?_
  refine Ru.step (pc' := 12) (ls' := [some (.inr (.inr (some 30))), some (.inl (-1)), some (.inl 1), some (.inl 11)]) (st' := [.inl 1, .inr (.inr (some 30))]) (h1 := sH7 L xs) rfl ?_
  refine Ru.step (pc' := 13) (ls' := [some (.inr (.inr (some 30))), some (.inl (-1)), some (.inl 1), some (.inl 11)]) (st' := [.inl (-1), .inl 1, .inr (.inr (some 30))]) (h1 := sH7 L xs) rfl ?_
  refine Ru.step (pc' := 14) (ls' := [some (.inr (.inr (some 30))), some (.inl (-1)), some (.inl 1), some (.inl 11)]) (st' := []) (h1 := sH8 L xs) rfl ?_
  refine Ru.step (pc' := 17) (ls' := [some (.inr (.inr (some 30))), some (.inl (-1)), some (.inl 2), some (.inl 11)]) (st' := []) (h1 := sH8 L xs) rfl ?_
  refine Ru.step (pc' := 5) (ls' := [some (.inr (.inr (some 30))), some (.inl (-1)), some (.inl 2), some (.inl 11)]) (st' := []) (h1 := sH8 L xs) rfl ?_
  refine Ru.step (pc' := 6) (ls' := [some (.inr (.inr (some 30))), some (.inl (-1)), some (.inl 2), some (.inl 11)]) (st' := [.inl 2]) (h1 := sH8 L xs) rfl ?_
  refine Ru.step (pc' := 7) (ls' := [some (.inr (.inr (some 30))), some (.inl (-1)), some (.inl 2), some (.inl 11)]) (st' := [.inl 11, .inl 2]) (h1 := sH8 L xs) rfl ?_
  refine Ru.step (pc' := 10) (ls' := [some (.inr (.inr (some 30))), some (.inl (-1)), some (.inl 2), some (.inl 11)]) (st' := []) (h1 := sH8 L xs) rfl ?_
  refine Ru.step (pc' := 11) (ls' := [some (.inr (.inr (some 30))), some (.inl (-1)), some (.inl 2), some (.inl 11)]) (st' := [.inr (.inr (some 30))]) (h1 := sH8 L xs) rfl ?_
  refine Ru.step (pc' := 12) (ls' := [some (.inr (.inr (some 30))), some (.inl (-1)), some (.inl 2), some (.inl 11)]) (st' := [.inl 2, .inr (.inr (some 30))]) (h1 := sH8 L xs) rfl ?_
  refine Ru.step (pc' := 13) (ls' := [some (.inr (.inr (some 30))), some (.inl (-1)), some (.inl 2), some (.inl 11)]) (st' := [.inl (-1), .inl 2, .inr (.inr (some 30))]) (h1 := sH8 L xs) rfl ?_
  refine Ru.step (pc' := 14) (ls' := [some (.inr (.inr (some 30))), some (.inl (-1)), some (.inl 2), some (.inl 11)]) (st' := []) (h1 := sH9 L xs) rfl ?_
  refine Ru.step (pc' := 17) (ls' := [some (.inr (.inr (some 30))), some (.inl (-1)), some (.inl 3), some (.inl 11)]) (st' := []) (h1 := sH9 L xs) rfl ?_
  refine Ru.step (pc' := 5) (ls' := [some (.inr (.inr (some 30))), some (.inl (-1)), some (.inl 3), some (.inl 11)]) (st' := []) (h1 := sH9 L xs) rfl ?_
  refine Ru.step (pc' := 6) (ls' := [some (.inr (.inr (some 30))), some (.inl (-1)), some (.inl 3), some (.inl 11)]) (st' := [.inl 3]) (h1 := sH9 L xs) rfl ?_
  refine Ru.step (pc' := 7) (ls' := [some (.inr (.inr (some 30))), some (.inl (-1)), some (.inl 3), some (.inl 11)]) (st' := [.inl 11, .inl 3]) (h1 := sH9 L xs) rfl ?_
  refine Ru.step (pc' := 10) (ls' := [some (.inr (.inr (some 30))), some (.inl (-1)), some (.inl 3), some (.inl 11)]) (st' := []) (h1 := sH9 L xs) rfl ?_
  refine Ru.step (pc' := 11) (ls' := [some (.inr (.inr (some 30))), some (.inl (-1)), some (.inl 3), some (.inl 11)]) (st' := [.inr (.inr (some 30))]) (h1 := sH9 L xs) rfl ?_
  refine Ru.step (pc' := 12) (ls' := [some (.inr (.inr (some 30))), some (.inl (-1)), some (.inl 3), some (.inl 11)]) (st' := [.inl 3, .inr (.inr (some 30))]) (h1 := sH9 L xs) rfl ?_
  refine Ru.step (pc' := 13) (ls' := [some (.inr (.inr (some 30))), some (.inl (-1)), some (.inl 3), some (.inl 11)]) (st' := [.inl (-1), .inl 3, .inr (.inr (some 30))]) (h1 := sH9 L xs) rfl ?_
  refine Ru.step (pc' := 14) (ls' := [some (.inr (.inr (some 30))), some (.inl (-1)), some (.inl 3), some (.inl 11)]) (st' := []) (h1 := sH10 L xs) rfl ?_
  refine Ru.step (pc' := 17) (ls' := [some (.inr (.inr (some 30))), some (.inl (-1)), some (.inl 4), some (.inl 11)]) (st' := []) (h1 := sH10 L xs) rfl ?_
  refine Ru.step (pc' := 5) (ls' := [some (.inr (.inr (some 30))), some (.inl (-1)), some (.inl 4), some (.inl 11)]) (st' := []) (h1 := sH10 L xs) rfl ?_
  refine Ru.step (pc' := 6) (ls' := [some (.inr (.inr (some 30))), some (.inl (-1)), some (.inl 4), some (.inl 11)]) (st' := [.inl 4]) (h1 := sH10 L xs) rfl ?_
  refine Ru.step (pc' := 7) (ls' := [some (.inr (.inr (some 30))), some (.inl (-1)), some (.inl 4), some (.inl 11)]) (st' := [.inl 11, .inl 4]) (h1 := sH10 L xs) rfl ?_
  refine Ru.step (pc' := 10) (ls' := [some (.inr (.inr (some 30))), some (.inl (-1)), some (.inl 4), some (.inl 11)]) (st' := []) (h1 := sH10 L xs) rfl ?_
  refine Ru.step (pc' := 11) (ls' := [some (.inr (.inr (some 30))), some (.inl (-1)), some (.inl 4), some (.inl 11)]) (st' := [.inr (.inr (some 30))]) (h1 := sH10 L xs) rfl ?_
  refine Ru.step (pc' := 12) (ls' := [some (.inr (.inr (some 30))), some (.inl (-1)), some (.inl 4), some (.inl 11)]) (st' := [.inl 4, .inr (.inr (some 30))]) (h1 := sH10 L xs) rfl ?_
  refine Ru.step (pc' := 13) (ls' := [some (.inr (.inr (some 30))), some (.inl (-1)), some (.inl 4), some (.inl 11)]) (st' := [.inl (-1), .inl 4, .inr (.inr (some 30))]) (h1 := sH10 L xs) rfl ?_
  refine Ru.step (pc' := 14) (ls' := [some (.inr (.inr (some 30))), some (.inl (-1)), some (.inl 4), some (.inl 11)]) (st' := []) (h1 := sH11 L xs) rfl ?_
  refine Ru.step (pc' := 17) (ls' := [some (.inr (.inr (some 30))), some (.inl (-1)), some (.inl 5), some (.inl 11)]) (st' := []) (h1 := sH11 L xs) rfl ?_
  refine Ru.step (pc' := 5) (ls' := [some (.inr (.inr (some 30))), some (.inl (-1)), some (.inl 5), some (.inl 11)]) (st' := []) (h1 := sH11 L xs) rfl ?_
  refine Ru.step (pc' := 6) (ls' := [some (.inr (.inr (some 30))), some (.inl (-1)), some (.inl 5), some (.inl 11)]) (st' := [.inl 5]) (h1 := sH11 L xs) rfl ?_
  refine Ru.step (pc' := 7) (ls' := [some (.inr (.inr (some 30))), some (.inl (-1)), some (.inl 5), some (.inl 11)]) (st' := [.inl 11, .inl 5]) (h1 := sH11 L xs) rfl ?_
  refine Ru.step (pc' := 10) (ls' := [some (.inr (.inr (some 30))), some (.inl (-1)), some (.inl 5), some (.inl 11)]) (st' := []) (h1 := sH11 L xs) rfl ?_
  refine Ru.step (pc' := 11) (ls' := [some (.inr (.inr (some 30))), some (.inl (-1)), some (.inl 5), some (.inl 11)]) (st' := [.inr (.inr (some 30))]) (h1 := sH11 L xs) rfl ?_
  refine Ru.step (pc' := 12) (ls' := [some (.inr (.inr (some 30))), some (.inl (-1)), some (.inl 5), some (.inl 11)]) (st' := [.inl 5, .inr (.inr (some 30))]) (h1 := sH11 L xs) rfl ?_
  refine Ru.step (pc' := 13) (ls' := [some (.inr (.inr (some 30))), some (.inl (-1)), some (.inl 5), some (.inl 11)]) (st' := [.inl (-1), .inl 5, .inr (.inr (some 30))]) (h1 := sH11 L xs) rfl ?_
  refine Ru.step (pc' := 14) (ls' := [some (.inr (.inr (some 30))), some (.inl (-1)), some (.inl 5), some (.inl 11)]) (st' := []) (h1 := sH12 L xs) rfl ?_
  refine Ru.step (pc' := 17) (ls' := [some (.inr (.inr (some 30))), some (.inl (-1)), some (.inl 6), some (.inl 11)]) (st' := []) (h1 := sH12 L xs) rfl ?_
  refine Ru.step (pc' := 5) (ls' := [some (.inr (.inr (some 30))), some (.inl (-1)), some (.inl 6), some (.inl 11)]) (st' := []) (h1 := sH12 L xs) rfl ?_
  refine Ru.step (pc' := 6) (ls' := [some (.inr (.inr (some 30))), some (.inl (-1)), some (.inl 6), some (.inl 11)]) (st' := [.inl 6]) (h1 := sH12 L xs) rfl ?_
  refine Ru.step (pc' := 7) (ls' := [some (.inr (.inr (some 30))), some (.inl (-1)), some (.inl 6), some (.inl 11)]) (st' := [.inl 11, .inl 6]) (h1 := sH12 L xs) rfl ?_
  refine Ru.step (pc' := 10) (ls' := [some (.inr (.inr (some 30))), some (.inl (-1)), some (.inl 6), some (.inl 11)]) (st' := []) (h1 := sH12 L xs) rfl ?_
  refine Ru.step (pc' := 11) (ls' := [some (.inr (.inr (some 30))), some (.inl (-1)), some (.inl 6), some (.inl 11)]) (st' := [.inr (.inr (some 30))]) (h1 := sH12 L xs) rfl ?_
  refine Ru.step (pc' := 12) (ls' := [some (.inr (.inr (some 30))), some (.inl (-1)), some (.inl 6), some (.inl 11)]) (st' := [.inl 6, .inr (.inr (some 30))]) (h1 := sH12 L xs) rfl ?_
  refine Ru.step (pc' := 13) (ls' := [some (.inr (.inr (some 30))), some (.inl (-1)), some (.inl 6), some (.inl 11)]) (st' := [.inl (-1), .inl 6, .inr (.inr (some 30))]) (h1 := sH12 L xs) rfl ?_
  refine Ru.step (pc' := 14) (ls' := [some (.inr (.inr (some 30))), some (.inl (-1)), some (.inl 6), some (.inl 11)]) (st' := []) (h1 := sH13 L xs) rfl ?_
  refine Ru.step (pc' := 17) (ls' := [some (.inr (.inr (some 30))), some (.inl (-1)), some (.inl 7), some (.inl 11)]) (st' := []) (h1 := sH13 L xs) rfl ?_
  refine Ru.step (pc' := 5) (ls' := [some (.inr (.inr (some 30))), some (.inl (-1)), some (.inl 7), some (.inl 11)]) (st' := []) (h1 := sH13 L xs) rfl ?_
  refine Ru.step (pc' := 6) (ls' := [some (.inr (.inr (some 30))), some (.inl (-1)), some (.inl 7), some (.inl 11)]) (st' := [.inl 7]) (h1 := sH13 L xs) rfl ?_
  refine Ru.step (pc' := 7) (ls' := [some (.inr (.inr (some 30))), some (.inl (-1)), some (.inl 7), some (.inl 11)]) (st' := [.inl 11, .inl 7]) (h1 := sH13 L xs) rfl ?_
  refine Ru.step (pc' := 10) (ls' := [some (.inr (.inr (some 30))), some (.inl (-1)), some (.inl 7), some (.inl 11)]) (st' := []) (h1 := sH13 L xs) rfl ?_
  refine Ru.step (pc' := 11) (ls' := [some (.inr (.inr (some 30))), some (.inl (-1)), some (.inl 7), some (.inl 11)]) (st' := [.inr (.inr (some 30))]) (h1 := sH13 L xs) rfl ?_
  refine Ru.step (pc' := 12) (ls' := [some (.inr (.inr (some 30))), some (.inl (-1)), some (.inl 7), some (.inl 11)]) (st' := [.inl 7, .inr (.inr (some 30))]) (h1 := sH13 L xs) rfl ?_
  refine Ru.step (pc' := 13) (ls' := [some (.inr (.inr (some 30))), some (.inl (-1)), some (.inl 7), some (.inl 11)]) (st' := [.inl (-1), .inl 7, .inr (.inr (some 30))]) (h1 := sH13 L xs) rfl ?_
  refine Ru.step (pc' := 14) (ls' := [some (.inr (.inr (some 30))), some (.inl (-1)), some (.inl 7), some (.inl 11)]) (st' := []) (h1 := sH14 L xs) rfl ?_
  refine Ru.step (pc' := 17) (ls' := [some (.inr (.inr (some 30))), some (.inl (-1)), some (.inl 8), some (.inl 11)]) (st' := []) (h1 := sH14 L xs) rfl ?_
  refine Ru.step (pc' := 5) (ls' := [some (.inr (.inr (some 30))), some (.inl (-1)), some (.inl 8), some (.inl 11)]) (st' := []) (h1 := sH14 L xs) rfl ?_
  refine Ru.step (pc' := 6) (ls' := [some (.inr (.inr (some 30))), some (.inl (-1)), some (.inl 8), some (.inl 11)]) (st' := [.inl 8]) (h1 := sH14 L xs) rfl ?_
  refine Ru.step (pc' := 7) (ls' := [some (.inr (.inr (some 30))), some (.inl (-1)), some (.inl 8), some (.inl 11)]) (st' := [.inl 11, .inl 8]) (h1 := sH14 L xs) rfl ?_
  refine Ru.step (pc' := 10) (ls' := [some (.inr (.inr (some 30))), some (.inl (-1)), some (.inl 8), some (.inl 11)]) (st' := []) (h1 := sH14 L xs) rfl ?_
  refine Ru.step (pc' := 11) (ls' := [some (.inr (.inr (some 30))), some (.inl (-1)), some (.inl 8), some (.inl 11)]) (st' := [.inr (.inr (some 30))]) (h1 := sH14 L xs) rfl ?_
  refine Ru.step (pc' := 12) (ls' := [some (.inr (.inr (some 30))), some (.inl (-1)), some (.inl 8), some (.inl 11)]) (st' := [.inl 8, .inr (.inr (some 30))]) (h1 := sH14 L xs) rfl ?_
  refine Ru.step (pc' := 13) (ls' := [some (.inr (.inr (some 30))), some (.inl (-1)), some (.inl 8), some (.inl 11)]) (st' := [.inl (-1), .inl 8, .inr (.inr (some 30))]) (h1 := sH14 L xs) rfl ?_
  refine Ru.step (pc' := 14) (ls' := [some (.inr (.inr (some 30))), some (.inl (-1)), some (.inl 8), some (.inl 11)]) (st' := []) (h1 := sH15 L xs) rfl ?_
  refine Ru.step (pc' := 17) (ls' := [some (.inr (.inr (some 30))), some (.inl (-1)), some (.inl 9), some (.inl 11)]) (st' := []) (h1 := sH15 L xs) rfl ?_
  refine Ru.step (pc' := 5) (ls' := [some (.inr (.inr (some 30))), some (.inl (-1)), some (.inl 9), some (.inl 11)]) (st' := []) (h1 := sH15 L xs) rfl ?_
  refine Ru.step (pc' := 6) (ls' := [some (.inr (.inr (some 30))), some (.inl (-1)), some (.inl 9), some (.inl 11)]) (st' := [.inl 9]) (h1 := sH15 L xs) rfl ?_
  refine Ru.step (pc' := 7) (ls' := [some (.inr (.inr (some 30))), some (.inl (-1)), some (.inl 9), some (.inl 11)]) (st' := [.inl 11, .inl 9]) (h1 := sH15 L xs) rfl ?_
  refine Ru.step (pc' := 10) (ls' := [some (.inr (.inr (some 30))), some (.inl (-1)), some (.inl 9), some (.inl 11)]) (st' := []) (h1 := sH15 L xs) rfl ?_
  refine Ru.step (pc' := 11) (ls' := [some (.inr (.inr (some 30))), some (.inl (-1)), some (.inl 9), some (.inl 11)]) (st' := [.inr (.inr (some 30))]) (h1 := sH15 L xs) rfl ?_
  refine Ru.step (pc' := 12) (ls' := [some (.inr (.inr (some 30))), some (.inl (-1)), some (.inl 9), some (.inl 11)]) (st' := [.inl 9, .inr (.inr (some 30))]) (h1 := sH15 L xs) rfl ?_
  refine Ru.step (pc' := 13) (ls' := [some (.inr (.inr (some 30))), some (.inl (-1)), some (.inl 9), some (.inl 11)]) (st' := [.inl (-1), .inl 9, .inr (.inr (some 30))]) (h1 := sH15 L xs) rfl ?_
  refine Ru.step (pc' := 14) (ls' := [some (.inr (.inr (some 30))), some (.inl (-1)), some (.inl 9), some (.inl 11)]) (st' := []) (h1 := sH16 L xs) rfl ?_
  refine Ru.step (pc' := 17) (ls' := [some (.inr (.inr (some 30))), some (.inl (-1)), some (.inl 10), some (.inl 11)]) (st' := []) (h1 := sH16 L xs) rfl ?_
  refine Ru.step (pc' := 5) (ls' := [some (.inr (.inr (some 30))), some (.inl (-1)), some (.inl 10), some (.inl 11)]) (st' := []) (h1 := sH16 L xs) rfl ?_
  refine Ru.step (pc' := 6) (ls' := [some (.inr (.inr (some 30))), some (.inl (-1)), some (.inl 10), some (.inl 11)]) (st' := [.inl 10]) (h1 := sH16 L xs) rfl ?_
  refine Ru.step (pc' := 7) (ls' := [some (.inr (.inr (some 30))), some (.inl (-1)), some (.inl 10), some (.inl 11)]) (st' := [.inl 11, .inl 10]) (h1 := sH16 L xs) rfl ?_
  refine Ru.step (pc' := 10) (ls' := [some (.inr (.inr (some 30))), some (.inl (-1)), some (.inl 10), some (.inl 11)]) (st' := []) (h1 := sH16 L xs) rfl ?_
  refine Ru.step (pc' := 11) (ls' := [some (.inr (.inr (some 30))), some (.inl (-1)), some (.inl 10), some (.inl 11)]) (st' := [.inr (.inr (some 30))]) (h1 := sH16 L xs) rfl ?_
  refine Ru.step (pc' := 12) (ls' := [some (.inr (.inr (some 30))), some (.inl (-1)), some (.inl 10), some (.inl 11)]) (st' := [.inl 10, .inr (.inr (some 30))]) (h1 := sH16 L xs) rfl ?_
  refine Ru.step (pc' := 13) (ls' := [some (.inr (.inr (some 30))), some (.inl (-1)), some (.inl 10), some (.inl 11)]) (st' := [.inl (-1), .inl 10, .inr (.inr (some 30))]) (h1 := sH16 L xs) rfl ?_
  refine Ru.step (pc' := 14) (ls' := [some (.inr (.inr (some 30))), some (.inl (-1)), some (.inl 10), some (.inl 11)]) (st' := []) (h1 := sH17 L xs) rfl ?_
  refine Ru.step (pc' := 17) (ls' := [some (.inr (.inr (some 30))), some (.inl (-1)), some (.inl 11), some (.inl 11)]) (st' := []) (h1 := sH17 L xs) rfl ?_
  refine Ru.step (pc' := 5) (ls' := [some (.inr (.inr (some 30))), some (.inl (-1)), some (.inl 11), some (.inl 11)]) (st' := []) (h1 := sH17 L xs) rfl ?_
  refine Ru.step (pc' := 6) (ls' := [some (.inr (.inr (some 30))), some (.inl (-1)), some (.inl 11), some (.inl 11)]) (st' := [.inl 11]) (h1 := sH17 L xs) rfl ?_
  refine Ru.step (pc' := 7) (ls' := [some (.inr (.inr (some 30))), some (.inl (-1)), some (.inl 11), some (.inl 11)]) (st' := [.inl 11, .inl 11]) (h1 := sH17 L xs) rfl ?_
  refine Ru.step (pc' := 20) (ls' := [some (.inr (.inr (some 30))), some (.inl (-1)), some (.inl 11), some (.inl 11)]) (st' := []) (h1 := sH17 L xs) rfl ?_
  exact Ru.done rfl
set_option maxRecDepth 20000 in
theorem st_c2 {L : Nat} {xs : Nat → Int} : Ev 2 67 [.inr (.inr (some 29))] (sH4 L xs) (.inl none) (sH17 L xs) := by
  refine Ev.of (μ := tb_m67) (ls := [some (.inr (.inr (some 29)))]) rfl (Nat.le_of_ble_eq_true rfl) rfl ?_
  refine Ru.step (pc' := 1) (ls' := [some (.inr (.inr (some 29)))]) (st' := [.inr (.inr (some 29))]) (h1 := sH4 L xs) rfl ?_
  refine Ru.step (pc' := 4) (ls' := [some (.inr (.inr (some 29)))]) (st' := []) (h1 := sH4 L xs) rfl ?_
  refine Ru.step (pc' := 5) (ls' := [some (.inr (.inr (some 29)))]) (st' := [.inr (.inr (some 29))]) (h1 := sH4 L xs) rfl ?_
  refine Ru.step (pc' := 7) (ls' := [some (.inr (.inr (some 29)))]) (st' := [.inl 11, .inr (.inr (some 29))]) (h1 := sH4 L xs) rfl ?_
  refine Ru.step (pc' := 9) (ls' := [some (.inr (.inr (some 29)))]) (st' := [.inr (.inr (some 30)), .inr (.inr (some 29))]) (h1 := sH5 L xs) rfl ?_
  refine Ru.step (pc' := 12) (ls' := [some (.inr (.inr (some 29)))]) (st' := []) (h1 := sH6 L xs) rfl ?_
  refine Ru.step (pc' := 13) (ls' := [some (.inr (.inr (some 29)))]) (st' := [.inr (.inr (some 29))]) (h1 := sH6 L xs) rfl ?_
  refine Ru.step (pc' := 16) (ls' := [some (.inr (.inr (some 29)))]) (st' := [.inr (.inr (some 30))]) (h1 := sH6 L xs) rfl ?_
  refine Ru.step (pc' := 17) (ls' := [some (.inr (.inr (some 29)))]) (st' := [.inl (-1), .inr (.inr (some 30))]) (h1 := sH6 L xs) rfl ?_
  refine Ru.call (h1 := sH17 L xs) rfl (st_c1.up (by decide)) ?_
  exact Ru.done rfl
def sR3 : Nat → Nat → Option Nat := ax_u2 sR2 27 3 (some 29)
def sH18 (L : Nat) (xs : Nat → Int) : ax_H := (4, 8218, sK4 L, sS11 L xs, sR3, fun _ => 0)
def sK5 (L : Nat) : Nat → Nat × Nat := ax_u1 (sK4 L) 31 (106, 11)
def sH19 (L : Nat) (xs : Nat → Int) : ax_H := (5, 8229, sK5 L, sS11 L xs, sR3, fun _ => 0)
def sK6 (L : Nat) : Nat → Nat × Nat := ax_u1 (sK5 L) 32 (0, 8192)
def sH20 (L : Nat) (xs : Nat → Int) : ax_H := (6, 16421, sK6 L, sS11 L xs, sR3, fun _ => 0)
def sR4 : Nat → Nat → Option Nat := ax_u2 sR3 31 0 (some 32)
def sH21 (L : Nat) (xs : Nat → Int) : ax_H := (6, 16421, sK6 L, sS11 L xs, sR4, fun _ => 0)
def sK7 (L : Nat) : Nat → Nat × Nat := ax_u1 (sK6 L) 33 (0, 4112)
def sH22 (L : Nat) (xs : Nat → Int) : ax_H := (7, 20533, sK7 L, sS11 L xs, sR4, fun _ => 0)
def sR5 : Nat → Nat → Option Nat := ax_u2 sR4 31 1 (some 33)
def sH23 (L : Nat) (xs : Nat → Int) : ax_H := (7, 20533, sK7 L, sS11 L xs, sR5, fun _ => 0)
def sK8 (L : Nat) : Nat → Nat × Nat := ax_u1 (sK7 L) 34 (2, 4112)
def sH24 (L : Nat) (xs : Nat → Int) : ax_H := (8, 24645, sK8 L, sS11 L xs, sR5, fun _ => 0)
def sR6 : Nat → Nat → Option Nat := ax_u2 sR5 31 2 (some 34)
def sH25 (L : Nat) (xs : Nat → Int) : ax_H := (8, 24645, sK8 L, sS11 L xs, sR6, fun _ => 0)
def sK9 (L : Nat) : Nat → Nat × Nat := ax_u1 (sK8 L) 35 (2, 4112)
def sH26 (L : Nat) (xs : Nat → Int) : ax_H := (9, 28757, sK9 L, sS11 L xs, sR6, fun _ => 0)
def sR7 : Nat → Nat → Option Nat := ax_u2 sR6 31 3 (some 35)
def sH27 (L : Nat) (xs : Nat → Int) : ax_H := (9, 28757, sK9 L, sS11 L xs, sR7, fun _ => 0)
def sK10 (L : Nat) : Nat → Nat × Nat := ax_u1 (sK9 L) 36 (0, 4112)
def sH28 (L : Nat) (xs : Nat → Int) : ax_H := (10, 32869, sK10 L, sS11 L xs, sR7, fun _ => 0)
def sR8 : Nat → Nat → Option Nat := ax_u2 sR7 31 4 (some 36)
def sH29 (L : Nat) (xs : Nat → Int) : ax_H := (10, 32869, sK10 L, sS11 L xs, sR8, fun _ => 0)
def sK11 (L : Nat) : Nat → Nat × Nat := ax_u1 (sK10 L) 37 (0, 4112)
def sH30 (L : Nat) (xs : Nat → Int) : ax_H := (11, 36981, sK11 L, sS11 L xs, sR8, fun _ => 0)
def sR9 : Nat → Nat → Option Nat := ax_u2 sR8 31 5 (some 37)
def sH31 (L : Nat) (xs : Nat → Int) : ax_H := (11, 36981, sK11 L, sS11 L xs, sR9, fun _ => 0)
def sK12 (L : Nat) : Nat → Nat × Nat := ax_u1 (sK11 L) 38 (0, 4112)
def sH32 (L : Nat) (xs : Nat → Int) : ax_H := (12, 41093, sK12 L, sS11 L xs, sR9, fun _ => 0)
def sR10 : Nat → Nat → Option Nat := ax_u2 sR9 31 6 (some 38)
def sH33 (L : Nat) (xs : Nat → Int) : ax_H := (12, 41093, sK12 L, sS11 L xs, sR10, fun _ => 0)
set_option maxRecDepth 20000 in
theorem st_c3 {L : Nat} {xs : Nat → Int} : Ev 1 100 [.inr (.inr (some 31))] (sH19 L xs) (.inl none) (sH33 L xs) := by
  refine Ev.of (μ := tb_m100) (ls := [some (.inr (.inr (some 31)))]) rfl (Nat.le_of_ble_eq_true rfl) rfl ?_
  refine Ru.step (pc' := 1) (ls' := [some (.inr (.inr (some 31)))]) (st' := [.inr (.inr (some 31))]) (h1 := sH19 L xs) rfl ?_
  refine Ru.step (pc' := 4) (ls' := [some (.inr (.inr (some 31)))]) (st' := []) (h1 := sH19 L xs) rfl ?_
  refine Ru.step (pc' := 5) (ls' := [some (.inr (.inr (some 31)))]) (st' := [.inr (.inr (some 31))]) (h1 := sH19 L xs) rfl ?_
  refine Ru.step (pc' := 8) (ls' := [some (.inr (.inr (some 31)))]) (st' := [.inl 8192, .inr (.inr (some 31))]) (h1 := sH19 L xs) rfl ?_
  refine Ru.step (pc' := 10) (ls' := [some (.inr (.inr (some 31)))]) (st' := [.inr (.inr (some 32)), .inr (.inr (some 31))]) (h1 := sH20 L xs) rfl ?_
  refine Ru.step (pc' := 13) (ls' := [some (.inr (.inr (some 31)))]) (st' := []) (h1 := sH21 L xs) rfl ?_
  refine Ru.step (pc' := 14) (ls' := [some (.inr (.inr (some 31)))]) (st' := [.inr (.inr (some 31))]) (h1 := sH21 L xs) rfl ?_
  refine Ru.step (pc' := 17) (ls' := [some (.inr (.inr (some 31)))]) (st' := [.inl 4112, .inr (.inr (some 31))]) (h1 := sH21 L xs) rfl ?_
  refine Ru.step (pc' := 19) (ls' := [some (.inr (.inr (some 31)))]) (st' := [.inr (.inr (some 33)), .inr (.inr (some 31))]) (h1 := sH22 L xs) rfl ?_
  refine Ru.step (pc' := 22) (ls' := [some (.inr (.inr (some 31)))]) (st' := []) (h1 := sH23 L xs) rfl ?_
  refine Ru.step (pc' := 23) (ls' := [some (.inr (.inr (some 31)))]) (st' := [.inr (.inr (some 31))]) (h1 := sH23 L xs) rfl ?_
  refine Ru.step (pc' := 26) (ls' := [some (.inr (.inr (some 31)))]) (st' := [.inl 4112, .inr (.inr (some 31))]) (h1 := sH23 L xs) rfl ?_
  refine Ru.step (pc' := 28) (ls' := [some (.inr (.inr (some 31)))]) (st' := [.inr (.inr (some 34)), .inr (.inr (some 31))]) (h1 := sH24 L xs) rfl ?_
  refine Ru.step (pc' := 31) (ls' := [some (.inr (.inr (some 31)))]) (st' := []) (h1 := sH25 L xs) rfl ?_
  refine Ru.step (pc' := 32) (ls' := [some (.inr (.inr (some 31)))]) (st' := [.inr (.inr (some 31))]) (h1 := sH25 L xs) rfl ?_
  refine Ru.step (pc' := 35) (ls' := [some (.inr (.inr (some 31)))]) (st' := [.inl 4112, .inr (.inr (some 31))]) (h1 := sH25 L xs) rfl ?_
  refine Ru.step (pc' := 37) (ls' := [some (.inr (.inr (some 31)))]) (st' := [.inr (.inr (some 35)), .inr (.inr (some 31))]) (h1 := sH26 L xs) rfl ?_
  refine Ru.step (pc' := 40) (ls' := [some (.inr (.inr (some 31)))]) (st' := []) (h1 := sH27 L xs) rfl ?_
  refine Ru.step (pc' := 41) (ls' := [some (.inr (.inr (some 31)))]) (st' := [.inr (.inr (some 31))]) (h1 := sH27 L xs) rfl ?_
  refine Ru.step (pc' := 44) (ls' := [some (.inr (.inr (some 31)))]) (st' := [.inl 4112, .inr (.inr (some 31))]) (h1 := sH27 L xs) rfl ?_
  refine Ru.step (pc' := 46) (ls' := [some (.inr (.inr (some 31)))]) (st' := [.inr (.inr (some 36)), .inr (.inr (some 31))]) (h1 := sH28 L xs) rfl ?_
  refine Ru.step (pc' := 49) (ls' := [some (.inr (.inr (some 31)))]) (st' := []) (h1 := sH29 L xs) rfl ?_
  refine Ru.step (pc' := 50) (ls' := [some (.inr (.inr (some 31)))]) (st' := [.inr (.inr (some 31))]) (h1 := sH29 L xs) rfl ?_
  refine Ru.step (pc' := 53) (ls' := [some (.inr (.inr (some 31)))]) (st' := [.inl 4112, .inr (.inr (some 31))]) (h1 := sH29 L xs) rfl ?_
  refine Ru.step (pc' := 55) (ls' := [some (.inr (.inr (some 31)))]) (st' := [.inr (.inr (some 37)), .inr (.inr (some 31))]) (h1 := sH30 L xs) rfl ?_
  refine Ru.step (pc' := 58) (ls' := [some (.inr (.inr (some 31)))]) (st' := []) (h1 := sH31 L xs) rfl ?_
  refine Ru.step (pc' := 59) (ls' := [some (.inr (.inr (some 31)))]) (st' := [.inr (.inr (some 31))]) (h1 := sH31 L xs) rfl ?_
  refine Ru.step (pc' := 62) (ls' := [some (.inr (.inr (some 31)))]) (st' := [.inl 4112, .inr (.inr (some 31))]) (h1 := sH31 L xs) rfl ?_
  refine Ru.step (pc' := 64) (ls' := [some (.inr (.inr (some 31)))]) (st' := [.inr (.inr (some 38)), .inr (.inr (some 31))]) (h1 := sH32 L xs) rfl ?_
  refine Ru.step (pc' := 67) (ls' := [some (.inr (.inr (some 31)))]) (st' := []) (h1 := sH33 L xs) rfl ?_
  exact Ru.done rfl
def sR11 : Nat → Nat → Option Nat := ax_u2 sR10 27 4 (some 31)
def sH34 (L : Nat) (xs : Nat → Int) : ax_H := (12, 41093, sK12 L, sS11 L xs, sR11, fun _ => 0)
def sK13 (L : Nat) : Nat → Nat × Nat := ax_u1 (sK12 L) 39 (105, 12)
def sH35 (L : Nat) (xs : Nat → Int) : ax_H := (13, 41105, sK13 L, sS11 L xs, sR11, fun _ => 0)
def sK14 (L : Nat) : Nat → Nat × Nat := ax_u1 (sK13 L) 40 (1, 8192)
def sH36 (L : Nat) (xs : Nat → Int) : ax_H := (14, 49297, sK14 L, sS11 L xs, sR11, fun _ => 0)
def sR12 : Nat → Nat → Option Nat := ax_u2 sR11 39 2 (some 40)
def sH37 (L : Nat) (xs : Nat → Int) : ax_H := (14, 49297, sK14 L, sS11 L xs, sR12, fun _ => 0)
def sK15 (L : Nat) : Nat → Nat × Nat := ax_u1 (sK14 L) 41 (0, 8193)
def sH38 (L : Nat) (xs : Nat → Int) : ax_H := (15, 57490, sK15 L, sS11 L xs, sR12, fun _ => 0)
def sR13 : Nat → Nat → Option Nat := ax_u2 sR12 39 3 (some 41)
def sH39 (L : Nat) (xs : Nat → Int) : ax_H := (15, 57490, sK15 L, sS11 L xs, sR13, fun _ => 0)
def sK16 (L : Nat) : Nat → Nat × Nat := ax_u1 (sK15 L) 42 (0, 8193)
def sH40 (L : Nat) (xs : Nat → Int) : ax_H := (16, 65683, sK16 L, sS11 L xs, sR13, fun _ => 0)
def sR14 : Nat → Nat → Option Nat := ax_u2 sR13 39 4 (some 42)
def sH41 (L : Nat) (xs : Nat → Int) : ax_H := (16, 65683, sK16 L, sS11 L xs, sR14, fun _ => 0)
def sK17 (L : Nat) : Nat → Nat × Nat := ax_u1 (sK16 L) 43 (0, 8193)
def sH42 (L : Nat) (xs : Nat → Int) : ax_H := (17, 73876, sK17 L, sS11 L xs, sR14, fun _ => 0)
def sR15 : Nat → Nat → Option Nat := ax_u2 sR14 39 5 (some 43)
def sH43 (L : Nat) (xs : Nat → Int) : ax_H := (17, 73876, sK17 L, sS11 L xs, sR15, fun _ => 0)
def sK18 (L : Nat) : Nat → Nat × Nat := ax_u1 (sK17 L) 44 (2, 8193)
def sH44 (L : Nat) (xs : Nat → Int) : ax_H := (18, 82069, sK18 L, sS11 L xs, sR15, fun _ => 0)
def sR16 : Nat → Nat → Option Nat := ax_u2 sR15 39 6 (some 44)
def sH45 (L : Nat) (xs : Nat → Int) : ax_H := (18, 82069, sK18 L, sS11 L xs, sR16, fun _ => 0)
def sK19 (L : Nat) : Nat → Nat × Nat := ax_u1 (sK18 L) 45 (0, 8193)
def sH46 (L : Nat) (xs : Nat → Int) : ax_H := (19, 90262, sK19 L, sS11 L xs, sR16, fun _ => 0)
def sR17 : Nat → Nat → Option Nat := ax_u2 sR16 39 7 (some 45)
def sH47 (L : Nat) (xs : Nat → Int) : ax_H := (19, 90262, sK19 L, sS11 L xs, sR17, fun _ => 0)
def sR18 : Nat → Nat → Option Nat := ax_u2 sR17 39 0 (some 29)
def sH48 (L : Nat) (xs : Nat → Int) : ax_H := (19, 90262, sK19 L, sS11 L xs, sR18, fun _ => 0)
def sR19 : Nat → Nat → Option Nat := ax_u2 sR18 39 1 (some 31)
def sH49 (L : Nat) (xs : Nat → Int) : ax_H := (19, 90262, sK19 L, sS11 L xs, sR19, fun _ => 0)
set_option maxRecDepth 20000 in
theorem st_c4 {L : Nat} {xs : Nat → Int} : Ev 1 72 [.inr (.inr (some 39)), .inr (.inr (some 29)), .inr (.inr (some 31))] (sH35 L xs) (.inl none) (sH49 L xs) := by
  refine Ev.of (μ := tb_m72) (ls := [some (.inr (.inr (some 39))), some (.inr (.inr (some 29))), some (.inr (.inr (some 31)))]) rfl (Nat.le_of_ble_eq_true rfl) rfl ?_
  refine Ru.step (pc' := 1) (ls' := [some (.inr (.inr (some 39))), some (.inr (.inr (some 29))), some (.inr (.inr (some 31)))]) (st' := [.inr (.inr (some 39))]) (h1 := sH35 L xs) rfl ?_
  refine Ru.step (pc' := 4) (ls' := [some (.inr (.inr (some 39))), some (.inr (.inr (some 29))), some (.inr (.inr (some 31)))]) (st' := []) (h1 := sH35 L xs) rfl ?_
  refine Ru.step (pc' := 5) (ls' := [some (.inr (.inr (some 39))), some (.inr (.inr (some 29))), some (.inr (.inr (some 31)))]) (st' := [.inr (.inr (some 39))]) (h1 := sH35 L xs) rfl ?_
  refine Ru.step (pc' := 8) (ls' := [some (.inr (.inr (some 39))), some (.inr (.inr (some 29))), some (.inr (.inr (some 31)))]) (st' := [.inl 8192, .inr (.inr (some 39))]) (h1 := sH35 L xs) rfl ?_
  refine Ru.step (pc' := 10) (ls' := [some (.inr (.inr (some 39))), some (.inr (.inr (some 29))), some (.inr (.inr (some 31)))]) (st' := [.inr (.inr (some 40)), .inr (.inr (some 39))]) (h1 := sH36 L xs) rfl ?_
  refine Ru.step (pc' := 13) (ls' := [some (.inr (.inr (some 39))), some (.inr (.inr (some 29))), some (.inr (.inr (some 31)))]) (st' := []) (h1 := sH37 L xs) rfl ?_
  refine Ru.step (pc' := 14) (ls' := [some (.inr (.inr (some 39))), some (.inr (.inr (some 29))), some (.inr (.inr (some 31)))]) (st' := [.inr (.inr (some 39))]) (h1 := sH37 L xs) rfl ?_
  refine Ru.step (pc' := 17) (ls' := [some (.inr (.inr (some 39))), some (.inr (.inr (some 29))), some (.inr (.inr (some 31)))]) (st' := [.inl 8193, .inr (.inr (some 39))]) (h1 := sH37 L xs) rfl ?_
  refine Ru.step (pc' := 19) (ls' := [some (.inr (.inr (some 39))), some (.inr (.inr (some 29))), some (.inr (.inr (some 31)))]) (st' := [.inr (.inr (some 41)), .inr (.inr (some 39))]) (h1 := sH38 L xs) rfl ?_
  refine Ru.step (pc' := 22) (ls' := [some (.inr (.inr (some 39))), some (.inr (.inr (some 29))), some (.inr (.inr (some 31)))]) (st' := []) (h1 := sH39 L xs) rfl ?_
  refine Ru.step (pc' := 23) (ls' := [some (.inr (.inr (some 39))), some (.inr (.inr (some 29))), some (.inr (.inr (some 31)))]) (st' := [.inr (.inr (some 39))]) (h1 := sH39 L xs) rfl ?_
  refine Ru.step (pc' := 26) (ls' := [some (.inr (.inr (some 39))), some (.inr (.inr (some 29))), some (.inr (.inr (some 31)))]) (st' := [.inl 8193, .inr (.inr (some 39))]) (h1 := sH39 L xs) rfl ?_
  refine Ru.step (pc' := 28) (ls' := [some (.inr (.inr (some 39))), some (.inr (.inr (some 29))), some (.inr (.inr (some 31)))]) (st' := [.inr (.inr (some 42)), .inr (.inr (some 39))]) (h1 := sH40 L xs) rfl ?_
  refine Ru.step (pc' := 31) (ls' := [some (.inr (.inr (some 39))), some (.inr (.inr (some 29))), some (.inr (.inr (some 31)))]) (st' := []) (h1 := sH41 L xs) rfl ?_
  refine Ru.step (pc' := 32) (ls' := [some (.inr (.inr (some 39))), some (.inr (.inr (some 29))), some (.inr (.inr (some 31)))]) (st' := [.inr (.inr (some 39))]) (h1 := sH41 L xs) rfl ?_
  refine Ru.step (pc' := 35) (ls' := [some (.inr (.inr (some 39))), some (.inr (.inr (some 29))), some (.inr (.inr (some 31)))]) (st' := [.inl 8193, .inr (.inr (some 39))]) (h1 := sH41 L xs) rfl ?_
  refine Ru.step (pc' := 37) (ls' := [some (.inr (.inr (some 39))), some (.inr (.inr (some 29))), some (.inr (.inr (some 31)))]) (st' := [.inr (.inr (some 43)), .inr (.inr (some 39))]) (h1 := sH42 L xs) rfl ?_
  refine Ru.step (pc' := 40) (ls' := [some (.inr (.inr (some 39))), some (.inr (.inr (some 29))), some (.inr (.inr (some 31)))]) (st' := []) (h1 := sH43 L xs) rfl ?_
  refine Ru.step (pc' := 41) (ls' := [some (.inr (.inr (some 39))), some (.inr (.inr (some 29))), some (.inr (.inr (some 31)))]) (st' := [.inr (.inr (some 39))]) (h1 := sH43 L xs) rfl ?_
  refine Ru.step (pc' := 44) (ls' := [some (.inr (.inr (some 39))), some (.inr (.inr (some 29))), some (.inr (.inr (some 31)))]) (st' := [.inl 8193, .inr (.inr (some 39))]) (h1 := sH43 L xs) rfl ?_
  refine Ru.step (pc' := 46) (ls' := [some (.inr (.inr (some 39))), some (.inr (.inr (some 29))), some (.inr (.inr (some 31)))]) (st' := [.inr (.inr (some 44)), .inr (.inr (some 39))]) (h1 := sH44 L xs) rfl ?_
  refine Ru.step (pc' := 49) (ls' := [some (.inr (.inr (some 39))), some (.inr (.inr (some 29))), some (.inr (.inr (some 31)))]) (st' := []) (h1 := sH45 L xs) rfl ?_
  refine Ru.step (pc' := 50) (ls' := [some (.inr (.inr (some 39))), some (.inr (.inr (some 29))), some (.inr (.inr (some 31)))]) (st' := [.inr (.inr (some 39))]) (h1 := sH45 L xs) rfl ?_
  refine Ru.step (pc' := 53) (ls' := [some (.inr (.inr (some 39))), some (.inr (.inr (some 29))), some (.inr (.inr (some 31)))]) (st' := [.inl 8193, .inr (.inr (some 39))]) (h1 := sH45 L xs) rfl ?_
  refine Ru.step (pc' := 55) (ls' := [some (.inr (.inr (some 39))), some (.inr (.inr (some 29))), some (.inr (.inr (some 31)))]) (st' := [.inr (.inr (some 45)), .inr (.inr (some 39))]) (h1 := sH46 L xs) rfl ?_
  refine Ru.step (pc' := 58) (ls' := [some (.inr (.inr (some 39))), some (.inr (.inr (some 29))), some (.inr (.inr (some 31)))]) (st' := []) (h1 := sH47 L xs) rfl ?_
  refine Ru.step (pc' := 59) (ls' := [some (.inr (.inr (some 39))), some (.inr (.inr (some 29))), some (.inr (.inr (some 31)))]) (st' := [.inr (.inr (some 39))]) (h1 := sH47 L xs) rfl ?_
  refine Ru.step (pc' := 60) (ls' := [some (.inr (.inr (some 39))), some (.inr (.inr (some 29))), some (.inr (.inr (some 31)))]) (st' := [.inr (.inr (some 29)), .inr (.inr (some 39))]) (h1 := sH47 L xs) rfl ?_
  refine Ru.step (pc' := 63) (ls' := [some (.inr (.inr (some 39))), some (.inr (.inr (some 29))), some (.inr (.inr (some 31)))]) (st' := []) (h1 := sH48 L xs) rfl ?_
  refine Ru.step (pc' := 64) (ls' := [some (.inr (.inr (some 39))), some (.inr (.inr (some 29))), some (.inr (.inr (some 31)))]) (st' := [.inr (.inr (some 39))]) (h1 := sH48 L xs) rfl ?_
  refine Ru.step (pc' := 65) (ls' := [some (.inr (.inr (some 39))), some (.inr (.inr (some 29))), some (.inr (.inr (some 31)))]) (st' := [.inr (.inr (some 31)), .inr (.inr (some 39))]) (h1 := sH48 L xs) rfl ?_
  refine Ru.step (pc' := 68) (ls' := [some (.inr (.inr (some 39))), some (.inr (.inr (some 29))), some (.inr (.inr (some 31)))]) (st' := []) (h1 := sH49 L xs) rfl ?_
  exact Ru.done rfl
def sR20 : Nat → Nat → Option Nat := ax_u2 sR19 27 5 (some 39)
def sH50 (L : Nat) (xs : Nat → Int) : ax_H := (19, 90262, sK19 L, sS11 L xs, sR20, fun _ => 0)
def sK20 (L : Nat) : Nat → Nat × Nat := ax_u1 (sK19 L) 46 (107, 8)
def sH51 (L : Nat) (xs : Nat → Int) : ax_H := (20, 90270, sK20 L, sS11 L xs, sR20, fun _ => 0)
def sK21 (L : Nat) : Nat → Nat × Nat := ax_u1 (sK20 L) 47 (0, 8192)
def sH52 (L : Nat) (xs : Nat → Int) : ax_H := (21, 98462, sK21 L, sS11 L xs, sR20, fun _ => 0)
def sR21 : Nat → Nat → Option Nat := ax_u2 sR20 46 0 (some 47)
def sH53 (L : Nat) (xs : Nat → Int) : ax_H := (21, 98462, sK21 L, sS11 L xs, sR21, fun _ => 0)
def sK22 (L : Nat) : Nat → Nat × Nat := ax_u1 (sK21 L) 48 (0, 8192)
def sH54 (L : Nat) (xs : Nat → Int) : ax_H := (22, 106654, sK22 L, sS11 L xs, sR21, fun _ => 0)
def sR22 : Nat → Nat → Option Nat := ax_u2 sR21 46 1 (some 48)
def sH55 (L : Nat) (xs : Nat → Int) : ax_H := (22, 106654, sK22 L, sS11 L xs, sR22, fun _ => 0)
def sK23 (L : Nat) : Nat → Nat × Nat := ax_u1 (sK22 L) 49 (0, 8192)
def sH56 (L : Nat) (xs : Nat → Int) : ax_H := (23, 114846, sK23 L, sS11 L xs, sR22, fun _ => 0)
def sR23 : Nat → Nat → Option Nat := ax_u2 sR22 46 2 (some 49)
def sH57 (L : Nat) (xs : Nat → Int) : ax_H := (23, 114846, sK23 L, sS11 L xs, sR23, fun _ => 0)
def sK24 (L : Nat) : Nat → Nat × Nat := ax_u1 (sK23 L) 50 (0, 8192)
def sH58 (L : Nat) (xs : Nat → Int) : ax_H := (24, 123038, sK24 L, sS11 L xs, sR23, fun _ => 0)
def sR24 : Nat → Nat → Option Nat := ax_u2 sR23 46 3 (some 50)
def sH59 (L : Nat) (xs : Nat → Int) : ax_H := (24, 123038, sK24 L, sS11 L xs, sR24, fun _ => 0)
def sK25 (L : Nat) : Nat → Nat × Nat := ax_u1 (sK24 L) 51 (0, 8192)
def sH60 (L : Nat) (xs : Nat → Int) : ax_H := (25, 131230, sK25 L, sS11 L xs, sR24, fun _ => 0)
def sR25 : Nat → Nat → Option Nat := ax_u2 sR24 46 4 (some 51)
def sH61 (L : Nat) (xs : Nat → Int) : ax_H := (25, 131230, sK25 L, sS11 L xs, sR25, fun _ => 0)
def sK26 (L : Nat) : Nat → Nat × Nat := ax_u1 (sK25 L) 52 (0, 8192)
def sH62 (L : Nat) (xs : Nat → Int) : ax_H := (26, 139422, sK26 L, sS11 L xs, sR25, fun _ => 0)
def sR26 : Nat → Nat → Option Nat := ax_u2 sR25 46 5 (some 52)
def sH63 (L : Nat) (xs : Nat → Int) : ax_H := (26, 139422, sK26 L, sS11 L xs, sR26, fun _ => 0)
def sK27 (L : Nat) : Nat → Nat × Nat := ax_u1 (sK26 L) 53 (0, 8192)
def sH64 (L : Nat) (xs : Nat → Int) : ax_H := (27, 147614, sK27 L, sS11 L xs, sR26, fun _ => 0)
def sR27 : Nat → Nat → Option Nat := ax_u2 sR26 46 6 (some 53)
def sH65 (L : Nat) (xs : Nat → Int) : ax_H := (27, 147614, sK27 L, sS11 L xs, sR27, fun _ => 0)
set_option maxRecDepth 20000 in
theorem st_c5 {L : Nat} {xs : Nat → Int} : Ev 1 112 [.inr (.inr (some 46))] (sH51 L xs) (.inl none) (sH65 L xs) := by
  refine Ev.of (μ := tb_m112) (ls := [some (.inr (.inr (some 46)))]) rfl (Nat.le_of_ble_eq_true rfl) rfl ?_
  refine Ru.step (pc' := 1) (ls' := [some (.inr (.inr (some 46)))]) (st' := [.inr (.inr (some 46))]) (h1 := sH51 L xs) rfl ?_
  refine Ru.step (pc' := 4) (ls' := [some (.inr (.inr (some 46)))]) (st' := []) (h1 := sH51 L xs) rfl ?_
  refine Ru.step (pc' := 5) (ls' := [some (.inr (.inr (some 46)))]) (st' := [.inr (.inr (some 46))]) (h1 := sH51 L xs) rfl ?_
  refine Ru.step (pc' := 8) (ls' := [some (.inr (.inr (some 46)))]) (st' := [.inl 8192, .inr (.inr (some 46))]) (h1 := sH51 L xs) rfl ?_
  refine Ru.step (pc' := 10) (ls' := [some (.inr (.inr (some 46)))]) (st' := [.inr (.inr (some 47)), .inr (.inr (some 46))]) (h1 := sH52 L xs) rfl ?_
  refine Ru.step (pc' := 13) (ls' := [some (.inr (.inr (some 46)))]) (st' := []) (h1 := sH53 L xs) rfl ?_
  refine Ru.step (pc' := 14) (ls' := [some (.inr (.inr (some 46)))]) (st' := [.inr (.inr (some 46))]) (h1 := sH53 L xs) rfl ?_
  refine Ru.step (pc' := 17) (ls' := [some (.inr (.inr (some 46)))]) (st' := [.inl 8192, .inr (.inr (some 46))]) (h1 := sH53 L xs) rfl ?_
  refine Ru.step (pc' := 19) (ls' := [some (.inr (.inr (some 46)))]) (st' := [.inr (.inr (some 48)), .inr (.inr (some 46))]) (h1 := sH54 L xs) rfl ?_
  refine Ru.step (pc' := 22) (ls' := [some (.inr (.inr (some 46)))]) (st' := []) (h1 := sH55 L xs) rfl ?_
  refine Ru.step (pc' := 23) (ls' := [some (.inr (.inr (some 46)))]) (st' := [.inr (.inr (some 46))]) (h1 := sH55 L xs) rfl ?_
  refine Ru.step (pc' := 26) (ls' := [some (.inr (.inr (some 46)))]) (st' := [.inl 8192, .inr (.inr (some 46))]) (h1 := sH55 L xs) rfl ?_
  refine Ru.step (pc' := 28) (ls' := [some (.inr (.inr (some 46)))]) (st' := [.inr (.inr (some 49)), .inr (.inr (some 46))]) (h1 := sH56 L xs) rfl ?_
  refine Ru.step (pc' := 31) (ls' := [some (.inr (.inr (some 46)))]) (st' := []) (h1 := sH57 L xs) rfl ?_
  refine Ru.step (pc' := 32) (ls' := [some (.inr (.inr (some 46)))]) (st' := [.inr (.inr (some 46))]) (h1 := sH57 L xs) rfl ?_
  refine Ru.step (pc' := 35) (ls' := [some (.inr (.inr (some 46)))]) (st' := [.inl 8192, .inr (.inr (some 46))]) (h1 := sH57 L xs) rfl ?_
  refine Ru.step (pc' := 37) (ls' := [some (.inr (.inr (some 46)))]) (st' := [.inr (.inr (some 50)), .inr (.inr (some 46))]) (h1 := sH58 L xs) rfl ?_
  refine Ru.step (pc' := 40) (ls' := [some (.inr (.inr (some 46)))]) (st' := []) (h1 := sH59 L xs) rfl ?_
  refine Ru.step (pc' := 41) (ls' := [some (.inr (.inr (some 46)))]) (st' := [.inr (.inr (some 46))]) (h1 := sH59 L xs) rfl ?_
  refine Ru.step (pc' := 44) (ls' := [some (.inr (.inr (some 46)))]) (st' := [.inl 8192, .inr (.inr (some 46))]) (h1 := sH59 L xs) rfl ?_
  refine Ru.step (pc' := 46) (ls' := [some (.inr (.inr (some 46)))]) (st' := [.inr (.inr (some 51)), .inr (.inr (some 46))]) (h1 := sH60 L xs) rfl ?_
  refine Ru.step (pc' := 49) (ls' := [some (.inr (.inr (some 46)))]) (st' := []) (h1 := sH61 L xs) rfl ?_
  refine Ru.step (pc' := 50) (ls' := [some (.inr (.inr (some 46)))]) (st' := [.inr (.inr (some 46))]) (h1 := sH61 L xs) rfl ?_
  refine Ru.step (pc' := 53) (ls' := [some (.inr (.inr (some 46)))]) (st' := [.inl 8192, .inr (.inr (some 46))]) (h1 := sH61 L xs) rfl ?_
  refine Ru.step (pc' := 55) (ls' := [some (.inr (.inr (some 46)))]) (st' := [.inr (.inr (some 52)), .inr (.inr (some 46))]) (h1 := sH62 L xs) rfl ?_
  refine Ru.step (pc' := 58) (ls' := [some (.inr (.inr (some 46)))]) (st' := []) (h1 := sH63 L xs) rfl ?_
  refine Ru.step (pc' := 59) (ls' := [some (.inr (.inr (some 46)))]) (st' := [.inr (.inr (some 46))]) (h1 := sH63 L xs) rfl ?_
  refine Ru.step (pc' := 62) (ls' := [some (.inr (.inr (some 46)))]) (st' := [.inl 8192, .inr (.inr (some 46))]) (h1 := sH63 L xs) rfl ?_
  refine Ru.step (pc' := 64) (ls' := [some (.inr (.inr (some 46)))]) (st' := [.inr (.inr (some 53)), .inr (.inr (some 46))]) (h1 := sH64 L xs) rfl ?_
  refine Ru.step (pc' := 67) (ls' := [some (.inr (.inr (some 46)))]) (st' := []) (h1 := sH65 L xs) rfl ?_
  exact Ru.done rfl
def sR28 : Nat → Nat → Option Nat := ax_u2 sR27 27 6 (some 46)
def sH66 (L : Nat) (xs : Nat → Int) : ax_H := (27, 147614, sK27 L, sS11 L xs, sR28, fun _ => 0)
def sK28 (L : Nat) : Nat → Nat × Nat := ax_u1 (sK27 L) 54 (111, 8)
def sH67 (L : Nat) (xs : Nat → Int) : ax_H := (28, 147622, sK28 L, sS11 L xs, sR28, fun _ => 0)
def sK29 (L : Nat) : Nat → Nat × Nat := ax_u1 (sK28 L) 55 (0, 1171)
def sH68 (L : Nat) (xs : Nat → Int) : ax_H := (29, 148793, sK29 L, sS11 L xs, sR28, fun _ => 0)
def sR29 : Nat → Nat → Option Nat := ax_u2 sR28 54 0 (some 55)
def sH69 (L : Nat) (xs : Nat → Int) : ax_H := (29, 148793, sK29 L, sS11 L xs, sR29, fun _ => 0)
def sK30 (L : Nat) : Nat → Nat × Nat := ax_u1 (sK29 L) 56 (0, 1171)
def sH70 (L : Nat) (xs : Nat → Int) : ax_H := (30, 149964, sK30 L, sS11 L xs, sR29, fun _ => 0)
def sR30 : Nat → Nat → Option Nat := ax_u2 sR29 54 1 (some 56)
def sH71 (L : Nat) (xs : Nat → Int) : ax_H := (30, 149964, sK30 L, sS11 L xs, sR30, fun _ => 0)
def sK31 (L : Nat) : Nat → Nat × Nat := ax_u1 (sK30 L) 57 (0, 1171)
def sH72 (L : Nat) (xs : Nat → Int) : ax_H := (31, 151135, sK31 L, sS11 L xs, sR30, fun _ => 0)
def sR31 : Nat → Nat → Option Nat := ax_u2 sR30 54 2 (some 57)
def sH73 (L : Nat) (xs : Nat → Int) : ax_H := (31, 151135, sK31 L, sS11 L xs, sR31, fun _ => 0)
def sK32 (L : Nat) : Nat → Nat × Nat := ax_u1 (sK31 L) 58 (0, 1171)
def sH74 (L : Nat) (xs : Nat → Int) : ax_H := (32, 152306, sK32 L, sS11 L xs, sR31, fun _ => 0)
def sR32 : Nat → Nat → Option Nat := ax_u2 sR31 54 3 (some 58)
def sH75 (L : Nat) (xs : Nat → Int) : ax_H := (32, 152306, sK32 L, sS11 L xs, sR32, fun _ => 0)
def sK33 (L : Nat) : Nat → Nat × Nat := ax_u1 (sK32 L) 59 (0, 1171)
def sH76 (L : Nat) (xs : Nat → Int) : ax_H := (33, 153477, sK33 L, sS11 L xs, sR32, fun _ => 0)
def sR33 : Nat → Nat → Option Nat := ax_u2 sR32 54 4 (some 59)
def sH77 (L : Nat) (xs : Nat → Int) : ax_H := (33, 153477, sK33 L, sS11 L xs, sR33, fun _ => 0)
def sK34 (L : Nat) : Nat → Nat × Nat := ax_u1 (sK33 L) 60 (0, 1171)
def sH78 (L : Nat) (xs : Nat → Int) : ax_H := (34, 154648, sK34 L, sS11 L xs, sR33, fun _ => 0)
def sR34 : Nat → Nat → Option Nat := ax_u2 sR33 54 5 (some 60)
def sH79 (L : Nat) (xs : Nat → Int) : ax_H := (34, 154648, sK34 L, sS11 L xs, sR34, fun _ => 0)
set_option maxRecDepth 20000 in
theorem st_c6 {L : Nat} {xs : Nat → Int} : Ev 1 179 [.inr (.inr (some 54))] (sH67 L xs) (.inl none) (sH79 L xs) := by
  refine Ev.of (μ := tb_m179) (ls := [some (.inr (.inr (some 54)))]) rfl (Nat.le_of_ble_eq_true rfl) rfl ?_
  refine Ru.step (pc' := 1) (ls' := [some (.inr (.inr (some 54)))]) (st' := [.inr (.inr (some 54))]) (h1 := sH67 L xs) rfl ?_
  refine Ru.step (pc' := 4) (ls' := [some (.inr (.inr (some 54)))]) (st' := []) (h1 := sH67 L xs) rfl ?_
  refine Ru.step (pc' := 5) (ls' := [some (.inr (.inr (some 54)))]) (st' := [.inr (.inr (some 54))]) (h1 := sH67 L xs) rfl ?_
  refine Ru.step (pc' := 8) (ls' := [some (.inr (.inr (some 54)))]) (st' := [.inl 1171, .inr (.inr (some 54))]) (h1 := sH67 L xs) rfl ?_
  refine Ru.step (pc' := 10) (ls' := [some (.inr (.inr (some 54)))]) (st' := [.inr (.inr (some 55)), .inr (.inr (some 54))]) (h1 := sH68 L xs) rfl ?_
  refine Ru.step (pc' := 13) (ls' := [some (.inr (.inr (some 54)))]) (st' := []) (h1 := sH69 L xs) rfl ?_
  refine Ru.step (pc' := 14) (ls' := [some (.inr (.inr (some 54)))]) (st' := [.inr (.inr (some 54))]) (h1 := sH69 L xs) rfl ?_
  refine Ru.step (pc' := 17) (ls' := [some (.inr (.inr (some 54)))]) (st' := [.inl 1171, .inr (.inr (some 54))]) (h1 := sH69 L xs) rfl ?_
  refine Ru.step (pc' := 19) (ls' := [some (.inr (.inr (some 54)))]) (st' := [.inr (.inr (some 56)), .inr (.inr (some 54))]) (h1 := sH70 L xs) rfl ?_
  refine Ru.step (pc' := 22) (ls' := [some (.inr (.inr (some 54)))]) (st' := []) (h1 := sH71 L xs) rfl ?_
  refine Ru.step (pc' := 23) (ls' := [some (.inr (.inr (some 54)))]) (st' := [.inr (.inr (some 54))]) (h1 := sH71 L xs) rfl ?_
  refine Ru.step (pc' := 26) (ls' := [some (.inr (.inr (some 54)))]) (st' := [.inl 1171, .inr (.inr (some 54))]) (h1 := sH71 L xs) rfl ?_
  refine Ru.step (pc' := 28) (ls' := [some (.inr (.inr (some 54)))]) (st' := [.inr (.inr (some 57)), .inr (.inr (some 54))]) (h1 := sH72 L xs) rfl ?_
  refine Ru.step (pc' := 31) (ls' := [some (.inr (.inr (some 54)))]) (st' := []) (h1 := sH73 L xs) rfl ?_
  refine Ru.step (pc' := 32) (ls' := [some (.inr (.inr (some 54)))]) (st' := [.inr (.inr (some 54))]) (h1 := sH73 L xs) rfl ?_
  refine Ru.step (pc' := 35) (ls' := [some (.inr (.inr (some 54)))]) (st' := [.inl 1171, .inr (.inr (some 54))]) (h1 := sH73 L xs) rfl ?_
  refine Ru.step (pc' := 37) (ls' := [some (.inr (.inr (some 54)))]) (st' := [.inr (.inr (some 58)), .inr (.inr (some 54))]) (h1 := sH74 L xs) rfl ?_
  refine Ru.step (pc' := 40) (ls' := [some (.inr (.inr (some 54)))]) (st' := []) (h1 := sH75 L xs) rfl ?_
  refine Ru.step (pc' := 41) (ls' := [some (.inr (.inr (some 54)))]) (st' := [.inr (.inr (some 54))]) (h1 := sH75 L xs) rfl ?_
  refine Ru.step (pc' := 44) (ls' := [some (.inr (.inr (some 54)))]) (st' := [.inl 1171, .inr (.inr (some 54))]) (h1 := sH75 L xs) rfl ?_
  refine Ru.step (pc' := 46) (ls' := [some (.inr (.inr (some 54)))]) (st' := [.inr (.inr (some 59)), .inr (.inr (some 54))]) (h1 := sH76 L xs) rfl ?_
  refine Ru.step (pc' := 49) (ls' := [some (.inr (.inr (some 54)))]) (st' := []) (h1 := sH77 L xs) rfl ?_
  refine Ru.step (pc' := 50) (ls' := [some (.inr (.inr (some 54)))]) (st' := [.inr (.inr (some 54))]) (h1 := sH77 L xs) rfl ?_
  refine Ru.step (pc' := 53) (ls' := [some (.inr (.inr (some 54)))]) (st' := [.inl 1171, .inr (.inr (some 54))]) (h1 := sH77 L xs) rfl ?_
  refine Ru.step (pc' := 55) (ls' := [some (.inr (.inr (some 54)))]) (st' := [.inr (.inr (some 60)), .inr (.inr (some 54))]) (h1 := sH78 L xs) rfl ?_
  refine Ru.step (pc' := 58) (ls' := [some (.inr (.inr (some 54)))]) (st' := []) (h1 := sH79 L xs) rfl ?_
  exact Ru.done rfl
def sR35 : Nat → Nat → Option Nat := ax_u2 sR34 27 7 (some 54)
def sH80 (L : Nat) (xs : Nat → Int) : ax_H := (34, 154648, sK34 L, sS11 L xs, sR35, fun _ => 0)
def sK35 (L : Nat) : Nat → Nat × Nat := ax_u1 (sK34 L) 61 (102, 5)
def sH81 (L : Nat) (xs : Nat → Int) : ax_H := (35, 154653, sK35 L, sS11 L xs, sR35, fun _ => 0)
def sK36 (L : Nat) : Nat → Nat × Nat := ax_u1 (sK35 L) 62 (0, 2049)
def sH82 (L : Nat) (xs : Nat → Int) : ax_H := (36, 156702, sK36 L, sS11 L xs, sR35, fun _ => 0)
def sR36 : Nat → Nat → Option Nat := ax_u2 sR35 61 0 (some 62)
def sH83 (L : Nat) (xs : Nat → Int) : ax_H := (36, 156702, sK36 L, sS11 L xs, sR36, fun _ => 0)
def sK37 (L : Nat) : Nat → Nat × Nat := ax_u1 (sK36 L) 63 (0, 2049)
def sH84 (L : Nat) (xs : Nat → Int) : ax_H := (37, 158751, sK37 L, sS11 L xs, sR36, fun _ => 0)
def sR37 : Nat → Nat → Option Nat := ax_u2 sR36 61 1 (some 63)
def sH85 (L : Nat) (xs : Nat → Int) : ax_H := (37, 158751, sK37 L, sS11 L xs, sR37, fun _ => 0)
def sK38 (L : Nat) : Nat → Nat × Nat := ax_u1 (sK37 L) 64 (0, 2049)
def sH86 (L : Nat) (xs : Nat → Int) : ax_H := (38, 160800, sK38 L, sS11 L xs, sR37, fun _ => 0)
def sR38 : Nat → Nat → Option Nat := ax_u2 sR37 61 2 (some 64)
def sH87 (L : Nat) (xs : Nat → Int) : ax_H := (38, 160800, sK38 L, sS11 L xs, sR38, fun _ => 0)
def sK39 (L : Nat) : Nat → Nat × Nat := ax_u1 (sK38 L) 65 (0, 2049)
def sH88 (L : Nat) (xs : Nat → Int) : ax_H := (39, 162849, sK39 L, sS11 L xs, sR38, fun _ => 0)
def sR39 : Nat → Nat → Option Nat := ax_u2 sR38 61 3 (some 65)
def sH89 (L : Nat) (xs : Nat → Int) : ax_H := (39, 162849, sK39 L, sS11 L xs, sR39, fun _ => 0)
set_option maxRecDepth 20000 in
theorem st_c7 {L : Nat} {xs : Nat → Int} : Ev 1 32 [.inr (.inr (some 61))] (sH81 L xs) (.inl none) (sH89 L xs) := by
  refine Ev.of (μ := tb_m32) (ls := [some (.inr (.inr (some 61)))]) rfl (Nat.le_of_ble_eq_true rfl) rfl ?_
  refine Ru.step (pc' := 1) (ls' := [some (.inr (.inr (some 61)))]) (st' := [.inr (.inr (some 61))]) (h1 := sH81 L xs) rfl ?_
  refine Ru.step (pc' := 4) (ls' := [some (.inr (.inr (some 61)))]) (st' := []) (h1 := sH81 L xs) rfl ?_
  refine Ru.step (pc' := 5) (ls' := [some (.inr (.inr (some 61)))]) (st' := [.inr (.inr (some 61))]) (h1 := sH81 L xs) rfl ?_
  refine Ru.step (pc' := 8) (ls' := [some (.inr (.inr (some 61)))]) (st' := [.inl 2049, .inr (.inr (some 61))]) (h1 := sH81 L xs) rfl ?_
  refine Ru.step (pc' := 10) (ls' := [some (.inr (.inr (some 61)))]) (st' := [.inr (.inr (some 62)), .inr (.inr (some 61))]) (h1 := sH82 L xs) rfl ?_
  refine Ru.step (pc' := 13) (ls' := [some (.inr (.inr (some 61)))]) (st' := []) (h1 := sH83 L xs) rfl ?_
  refine Ru.step (pc' := 14) (ls' := [some (.inr (.inr (some 61)))]) (st' := [.inr (.inr (some 61))]) (h1 := sH83 L xs) rfl ?_
  refine Ru.step (pc' := 17) (ls' := [some (.inr (.inr (some 61)))]) (st' := [.inl 2049, .inr (.inr (some 61))]) (h1 := sH83 L xs) rfl ?_
  refine Ru.step (pc' := 19) (ls' := [some (.inr (.inr (some 61)))]) (st' := [.inr (.inr (some 63)), .inr (.inr (some 61))]) (h1 := sH84 L xs) rfl ?_
  refine Ru.step (pc' := 22) (ls' := [some (.inr (.inr (some 61)))]) (st' := []) (h1 := sH85 L xs) rfl ?_
  refine Ru.step (pc' := 23) (ls' := [some (.inr (.inr (some 61)))]) (st' := [.inr (.inr (some 61))]) (h1 := sH85 L xs) rfl ?_
  refine Ru.step (pc' := 26) (ls' := [some (.inr (.inr (some 61)))]) (st' := [.inl 2049, .inr (.inr (some 61))]) (h1 := sH85 L xs) rfl ?_
  refine Ru.step (pc' := 28) (ls' := [some (.inr (.inr (some 61)))]) (st' := [.inr (.inr (some 64)), .inr (.inr (some 61))]) (h1 := sH86 L xs) rfl ?_
  refine Ru.step (pc' := 31) (ls' := [some (.inr (.inr (some 61)))]) (st' := []) (h1 := sH87 L xs) rfl ?_
  refine Ru.step (pc' := 32) (ls' := [some (.inr (.inr (some 61)))]) (st' := [.inr (.inr (some 61))]) (h1 := sH87 L xs) rfl ?_
  refine Ru.step (pc' := 35) (ls' := [some (.inr (.inr (some 61)))]) (st' := [.inl 2049, .inr (.inr (some 61))]) (h1 := sH87 L xs) rfl ?_
  refine Ru.step (pc' := 37) (ls' := [some (.inr (.inr (some 61)))]) (st' := [.inr (.inr (some 65)), .inr (.inr (some 61))]) (h1 := sH88 L xs) rfl ?_
  refine Ru.step (pc' := 40) (ls' := [some (.inr (.inr (some 61)))]) (st' := []) (h1 := sH89 L xs) rfl ?_
  exact Ru.done rfl
def sR40 : Nat → Nat → Option Nat := ax_u2 sR39 27 8 (some 61)
def sH90 (L : Nat) (xs : Nat → Int) : ax_H := (39, 162849, sK39 L, sS11 L xs, sR40, fun _ => 0)
def sK40 (L : Nat) : Nat → Nat × Nat := ax_u1 (sK39 L) 66 (103, 13)
def sH91 (L : Nat) (xs : Nat → Int) : ax_H := (40, 162862, sK40 L, sS11 L xs, sR40, fun _ => 0)
def sK41 (L : Nat) : Nat → Nat × Nat := ax_u1 (sK40 L) 67 (0, 8192)
def sH92 (L : Nat) (xs : Nat → Int) : ax_H := (41, 171054, sK41 L, sS11 L xs, sR40, fun _ => 0)
def sR41 : Nat → Nat → Option Nat := ax_u2 sR40 66 4 (some 67)
def sH93 (L : Nat) (xs : Nat → Int) : ax_H := (41, 171054, sK41 L, sS11 L xs, sR41, fun _ => 0)
def sK42 (L : Nat) : Nat → Nat × Nat := ax_u1 (sK41 L) 68 (0, 8192)
def sH94 (L : Nat) (xs : Nat → Int) : ax_H := (42, 179246, sK42 L, sS11 L xs, sR41, fun _ => 0)
def sR42 : Nat → Nat → Option Nat := ax_u2 sR41 66 5 (some 68)
def sH95 (L : Nat) (xs : Nat → Int) : ax_H := (42, 179246, sK42 L, sS11 L xs, sR42, fun _ => 0)
def sK43 (L : Nat) : Nat → Nat × Nat := ax_u1 (sK42 L) 69 (0, 8192)
def sH96 (L : Nat) (xs : Nat → Int) : ax_H := (43, 187438, sK43 L, sS11 L xs, sR42, fun _ => 0)
def sR43 : Nat → Nat → Option Nat := ax_u2 sR42 66 6 (some 69)
def sH97 (L : Nat) (xs : Nat → Int) : ax_H := (43, 187438, sK43 L, sS11 L xs, sR43, fun _ => 0)
def sR44 : Nat → Nat → Option Nat := ax_u2 sR43 66 0 (some 29)
def sH98 (L : Nat) (xs : Nat → Int) : ax_H := (43, 187438, sK43 L, sS11 L xs, sR44, fun _ => 0)
def sR45 : Nat → Nat → Option Nat := ax_u2 sR44 66 1 (some 31)
def sH99 (L : Nat) (xs : Nat → Int) : ax_H := (43, 187438, sK43 L, sS11 L xs, sR45, fun _ => 0)
def sR46 : Nat → Nat → Option Nat := ax_u2 sR45 66 2 (some 39)
def sH100 (L : Nat) (xs : Nat → Int) : ax_H := (43, 187438, sK43 L, sS11 L xs, sR46, fun _ => 0)
def sR47 : Nat → Nat → Option Nat := ax_u2 sR46 66 3 (some 46)
def sH101 (L : Nat) (xs : Nat → Int) : ax_H := (43, 187438, sK43 L, sS11 L xs, sR47, fun _ => 0)
set_option maxRecDepth 20000 in
theorem st_c8 {L : Nat} {xs : Nat → Int} : Ev 1 43 [.inr (.inr (some 66)), .inr (.inr (some 29)), .inr (.inr (some 31)), .inr (.inr (some 39)), .inr (.inr (some 46))] (sH91 L xs) (.inl none) (sH101 L xs) := by
  refine Ev.of (μ := tb_m43) (ls := [some (.inr (.inr (some 66))), some (.inr (.inr (some 29))), some (.inr (.inr (some 31))), some (.inr (.inr (some 39))), some (.inr (.inr (some 46)))]) rfl (Nat.le_of_ble_eq_true rfl) rfl ?_
  refine Ru.step (pc' := 1) (ls' := [some (.inr (.inr (some 66))), some (.inr (.inr (some 29))), some (.inr (.inr (some 31))), some (.inr (.inr (some 39))), some (.inr (.inr (some 46)))]) (st' := [.inr (.inr (some 66))]) (h1 := sH91 L xs) rfl ?_
  refine Ru.step (pc' := 4) (ls' := [some (.inr (.inr (some 66))), some (.inr (.inr (some 29))), some (.inr (.inr (some 31))), some (.inr (.inr (some 39))), some (.inr (.inr (some 46)))]) (st' := []) (h1 := sH91 L xs) rfl ?_
  refine Ru.step (pc' := 5) (ls' := [some (.inr (.inr (some 66))), some (.inr (.inr (some 29))), some (.inr (.inr (some 31))), some (.inr (.inr (some 39))), some (.inr (.inr (some 46)))]) (st' := [.inr (.inr (some 66))]) (h1 := sH91 L xs) rfl ?_
  refine Ru.step (pc' := 8) (ls' := [some (.inr (.inr (some 66))), some (.inr (.inr (some 29))), some (.inr (.inr (some 31))), some (.inr (.inr (some 39))), some (.inr (.inr (some 46)))]) (st' := [.inl 8192, .inr (.inr (some 66))]) (h1 := sH91 L xs) rfl ?_
  refine Ru.step (pc' := 10) (ls' := [some (.inr (.inr (some 66))), some (.inr (.inr (some 29))), some (.inr (.inr (some 31))), some (.inr (.inr (some 39))), some (.inr (.inr (some 46)))]) (st' := [.inr (.inr (some 67)), .inr (.inr (some 66))]) (h1 := sH92 L xs) rfl ?_
  refine Ru.step (pc' := 13) (ls' := [some (.inr (.inr (some 66))), some (.inr (.inr (some 29))), some (.inr (.inr (some 31))), some (.inr (.inr (some 39))), some (.inr (.inr (some 46)))]) (st' := []) (h1 := sH93 L xs) rfl ?_
  refine Ru.step (pc' := 14) (ls' := [some (.inr (.inr (some 66))), some (.inr (.inr (some 29))), some (.inr (.inr (some 31))), some (.inr (.inr (some 39))), some (.inr (.inr (some 46)))]) (st' := [.inr (.inr (some 66))]) (h1 := sH93 L xs) rfl ?_
  refine Ru.step (pc' := 17) (ls' := [some (.inr (.inr (some 66))), some (.inr (.inr (some 29))), some (.inr (.inr (some 31))), some (.inr (.inr (some 39))), some (.inr (.inr (some 46)))]) (st' := [.inl 8192, .inr (.inr (some 66))]) (h1 := sH93 L xs) rfl ?_
  refine Ru.step (pc' := 19) (ls' := [some (.inr (.inr (some 66))), some (.inr (.inr (some 29))), some (.inr (.inr (some 31))), some (.inr (.inr (some 39))), some (.inr (.inr (some 46)))]) (st' := [.inr (.inr (some 68)), .inr (.inr (some 66))]) (h1 := sH94 L xs) rfl ?_
  refine Ru.step (pc' := 22) (ls' := [some (.inr (.inr (some 66))), some (.inr (.inr (some 29))), some (.inr (.inr (some 31))), some (.inr (.inr (some 39))), some (.inr (.inr (some 46)))]) (st' := []) (h1 := sH95 L xs) rfl ?_
  refine Ru.step (pc' := 23) (ls' := [some (.inr (.inr (some 66))), some (.inr (.inr (some 29))), some (.inr (.inr (some 31))), some (.inr (.inr (some 39))), some (.inr (.inr (some 46)))]) (st' := [.inr (.inr (some 66))]) (h1 := sH95 L xs) rfl ?_
  refine Ru.step (pc' := 26) (ls' := [some (.inr (.inr (some 66))), some (.inr (.inr (some 29))), some (.inr (.inr (some 31))), some (.inr (.inr (some 39))), some (.inr (.inr (some 46)))]) (st' := [.inl 8192, .inr (.inr (some 66))]) (h1 := sH95 L xs) rfl ?_
  refine Ru.step (pc' := 28) (ls' := [some (.inr (.inr (some 66))), some (.inr (.inr (some 29))), some (.inr (.inr (some 31))), some (.inr (.inr (some 39))), some (.inr (.inr (some 46)))]) (st' := [.inr (.inr (some 69)), .inr (.inr (some 66))]) (h1 := sH96 L xs) rfl ?_
  refine Ru.step (pc' := 31) (ls' := [some (.inr (.inr (some 66))), some (.inr (.inr (some 29))), some (.inr (.inr (some 31))), some (.inr (.inr (some 39))), some (.inr (.inr (some 46)))]) (st' := []) (h1 := sH97 L xs) rfl ?_
  refine Ru.step (pc' := 32) (ls' := [some (.inr (.inr (some 66))), some (.inr (.inr (some 29))), some (.inr (.inr (some 31))), some (.inr (.inr (some 39))), some (.inr (.inr (some 46)))]) (st' := [.inr (.inr (some 66))]) (h1 := sH97 L xs) rfl ?_
  refine Ru.step (pc' := 33) (ls' := [some (.inr (.inr (some 66))), some (.inr (.inr (some 29))), some (.inr (.inr (some 31))), some (.inr (.inr (some 39))), some (.inr (.inr (some 46)))]) (st' := [.inr (.inr (some 29)), .inr (.inr (some 66))]) (h1 := sH97 L xs) rfl ?_
  refine Ru.step (pc' := 36) (ls' := [some (.inr (.inr (some 66))), some (.inr (.inr (some 29))), some (.inr (.inr (some 31))), some (.inr (.inr (some 39))), some (.inr (.inr (some 46)))]) (st' := []) (h1 := sH98 L xs) rfl ?_
  refine Ru.step (pc' := 37) (ls' := [some (.inr (.inr (some 66))), some (.inr (.inr (some 29))), some (.inr (.inr (some 31))), some (.inr (.inr (some 39))), some (.inr (.inr (some 46)))]) (st' := [.inr (.inr (some 66))]) (h1 := sH98 L xs) rfl ?_
  refine Ru.step (pc' := 38) (ls' := [some (.inr (.inr (some 66))), some (.inr (.inr (some 29))), some (.inr (.inr (some 31))), some (.inr (.inr (some 39))), some (.inr (.inr (some 46)))]) (st' := [.inr (.inr (some 31)), .inr (.inr (some 66))]) (h1 := sH98 L xs) rfl ?_
  refine Ru.step (pc' := 41) (ls' := [some (.inr (.inr (some 66))), some (.inr (.inr (some 29))), some (.inr (.inr (some 31))), some (.inr (.inr (some 39))), some (.inr (.inr (some 46)))]) (st' := []) (h1 := sH99 L xs) rfl ?_
  refine Ru.step (pc' := 42) (ls' := [some (.inr (.inr (some 66))), some (.inr (.inr (some 29))), some (.inr (.inr (some 31))), some (.inr (.inr (some 39))), some (.inr (.inr (some 46)))]) (st' := [.inr (.inr (some 66))]) (h1 := sH99 L xs) rfl ?_
  refine Ru.step (pc' := 43) (ls' := [some (.inr (.inr (some 66))), some (.inr (.inr (some 29))), some (.inr (.inr (some 31))), some (.inr (.inr (some 39))), some (.inr (.inr (some 46)))]) (st' := [.inr (.inr (some 39)), .inr (.inr (some 66))]) (h1 := sH99 L xs) rfl ?_
  refine Ru.step (pc' := 46) (ls' := [some (.inr (.inr (some 66))), some (.inr (.inr (some 29))), some (.inr (.inr (some 31))), some (.inr (.inr (some 39))), some (.inr (.inr (some 46)))]) (st' := []) (h1 := sH100 L xs) rfl ?_
  refine Ru.step (pc' := 47) (ls' := [some (.inr (.inr (some 66))), some (.inr (.inr (some 29))), some (.inr (.inr (some 31))), some (.inr (.inr (some 39))), some (.inr (.inr (some 46)))]) (st' := [.inr (.inr (some 66))]) (h1 := sH100 L xs) rfl ?_
  refine Ru.step (pc' := 49) (ls' := [some (.inr (.inr (some 66))), some (.inr (.inr (some 29))), some (.inr (.inr (some 31))), some (.inr (.inr (some 39))), some (.inr (.inr (some 46)))]) (st' := [.inr (.inr (some 46)), .inr (.inr (some 66))]) (h1 := sH100 L xs) rfl ?_
  refine Ru.step (pc' := 52) (ls' := [some (.inr (.inr (some 66))), some (.inr (.inr (some 29))), some (.inr (.inr (some 31))), some (.inr (.inr (some 39))), some (.inr (.inr (some 46)))]) (st' := []) (h1 := sH101 L xs) rfl ?_
  exact Ru.done rfl
def sR48 : Nat → Nat → Option Nat := ax_u2 sR47 27 9 (some 66)
def sH102 (L : Nat) (xs : Nat → Int) : ax_H := (43, 187438, sK43 L, sS11 L xs, sR48, fun _ => 0)
def sK44 (L : Nat) : Nat → Nat × Nat := ax_u1 (sK43 L) 70 (109, 10)
def sH103 (L : Nat) (xs : Nat → Int) : ax_H := (44, 187448, sK44 L, sS11 L xs, sR48, fun _ => 0)
def sK45 (L : Nat) : Nat → Nat × Nat := ax_u1 (sK44 L) 71 (0, 80)
def sH104 (L : Nat) (xs : Nat → Int) : ax_H := (45, 187528, sK45 L, sS11 L xs, sR48, fun _ => 0)
def sR49 : Nat → Nat → Option Nat := ax_u2 sR48 70 7 (some 71)
def sH105 (L : Nat) (xs : Nat → Int) : ax_H := (45, 187528, sK45 L, sS11 L xs, sR49, fun _ => 0)
def sK46 (L : Nat) : Nat → Nat × Nat := ax_u1 (sK45 L) 72 (0, 80)
def sH106 (L : Nat) (xs : Nat → Int) : ax_H := (46, 187608, sK46 L, sS11 L xs, sR49, fun _ => 0)
def sR50 : Nat → Nat → Option Nat := ax_u2 sR49 70 8 (some 72)
def sH107 (L : Nat) (xs : Nat → Int) : ax_H := (46, 187608, sK46 L, sS11 L xs, sR50, fun _ => 0)
def sR51 : Nat → Nat → Option Nat := ax_u2 sR50 70 0 (some 29)
def sH108 (L : Nat) (xs : Nat → Int) : ax_H := (46, 187608, sK46 L, sS11 L xs, sR51, fun _ => 0)
def sR52 : Nat → Nat → Option Nat := ax_u2 sR51 70 1 (some 31)
def sH109 (L : Nat) (xs : Nat → Int) : ax_H := (46, 187608, sK46 L, sS11 L xs, sR52, fun _ => 0)
def sR53 : Nat → Nat → Option Nat := ax_u2 sR52 70 2 (some 39)
def sH110 (L : Nat) (xs : Nat → Int) : ax_H := (46, 187608, sK46 L, sS11 L xs, sR53, fun _ => 0)
def sR54 : Nat → Nat → Option Nat := ax_u2 sR53 70 3 (some 46)
def sH111 (L : Nat) (xs : Nat → Int) : ax_H := (46, 187608, sK46 L, sS11 L xs, sR54, fun _ => 0)
def sR55 : Nat → Nat → Option Nat := ax_u2 sR54 70 4 (some 54)
def sH112 (L : Nat) (xs : Nat → Int) : ax_H := (46, 187608, sK46 L, sS11 L xs, sR55, fun _ => 0)
def sR56 : Nat → Nat → Option Nat := ax_u2 sR55 70 5 (some 61)
def sH113 (L : Nat) (xs : Nat → Int) : ax_H := (46, 187608, sK46 L, sS11 L xs, sR56, fun _ => 0)
def sR57 : Nat → Nat → Option Nat := ax_u2 sR56 70 6 (some 66)
def sH114 (L : Nat) (xs : Nat → Int) : ax_H := (46, 187608, sK46 L, sS11 L xs, sR57, fun _ => 0)
set_option maxRecDepth 20000 in
theorem st_c9 {L : Nat} {xs : Nat → Int} : Ev 1 139 [.inr (.inr (some 70)), .inr (.inr (some 29)), .inr (.inr (some 31)), .inr (.inr (some 39)), .inr (.inr (some 46)), .inr (.inr (some 54)), .inr (.inr (some 61)), .inr (.inr (some 66))] (sH103 L xs) (.inl none) (sH114 L xs) := by
  refine Ev.of (μ := tb_m139) (ls := [some (.inr (.inr (some 70))), some (.inr (.inr (some 29))), some (.inr (.inr (some 31))), some (.inr (.inr (some 39))), some (.inr (.inr (some 46))), some (.inr (.inr (some 54))), some (.inr (.inr (some 61))), some (.inr (.inr (some 66)))]) rfl (Nat.le_of_ble_eq_true rfl) rfl ?_
  refine Ru.step (pc' := 1) (ls' := [some (.inr (.inr (some 70))), some (.inr (.inr (some 29))), some (.inr (.inr (some 31))), some (.inr (.inr (some 39))), some (.inr (.inr (some 46))), some (.inr (.inr (some 54))), some (.inr (.inr (some 61))), some (.inr (.inr (some 66)))]) (st' := [.inr (.inr (some 70))]) (h1 := sH103 L xs) rfl ?_
  refine Ru.step (pc' := 4) (ls' := [some (.inr (.inr (some 70))), some (.inr (.inr (some 29))), some (.inr (.inr (some 31))), some (.inr (.inr (some 39))), some (.inr (.inr (some 46))), some (.inr (.inr (some 54))), some (.inr (.inr (some 61))), some (.inr (.inr (some 66)))]) (st' := []) (h1 := sH103 L xs) rfl ?_
  refine Ru.step (pc' := 5) (ls' := [some (.inr (.inr (some 70))), some (.inr (.inr (some 29))), some (.inr (.inr (some 31))), some (.inr (.inr (some 39))), some (.inr (.inr (some 46))), some (.inr (.inr (some 54))), some (.inr (.inr (some 61))), some (.inr (.inr (some 66)))]) (st' := [.inr (.inr (some 70))]) (h1 := sH103 L xs) rfl ?_
  refine Ru.step (pc' := 7) (ls' := [some (.inr (.inr (some 70))), some (.inr (.inr (some 29))), some (.inr (.inr (some 31))), some (.inr (.inr (some 39))), some (.inr (.inr (some 46))), some (.inr (.inr (some 54))), some (.inr (.inr (some 61))), some (.inr (.inr (some 66)))]) (st' := [.inl 80, .inr (.inr (some 70))]) (h1 := sH103 L xs) rfl ?_
  refine Ru.step (pc' := 9) (ls' := [some (.inr (.inr (some 70))), some (.inr (.inr (some 29))), some (.inr (.inr (some 31))), some (.inr (.inr (some 39))), some (.inr (.inr (some 46))), some (.inr (.inr (some 54))), some (.inr (.inr (some 61))), some (.inr (.inr (some 66)))]) (st' := [.inr (.inr (some 71)), .inr (.inr (some 70))]) (h1 := sH104 L xs) rfl ?_
  refine Ru.step (pc' := 12) (ls' := [some (.inr (.inr (some 70))), some (.inr (.inr (some 29))), some (.inr (.inr (some 31))), some (.inr (.inr (some 39))), some (.inr (.inr (some 46))), some (.inr (.inr (some 54))), some (.inr (.inr (some 61))), some (.inr (.inr (some 66)))]) (st' := []) (h1 := sH105 L xs) rfl ?_
  refine Ru.step (pc' := 13) (ls' := [some (.inr (.inr (some 70))), some (.inr (.inr (some 29))), some (.inr (.inr (some 31))), some (.inr (.inr (some 39))), some (.inr (.inr (some 46))), some (.inr (.inr (some 54))), some (.inr (.inr (some 61))), some (.inr (.inr (some 66)))]) (st' := [.inr (.inr (some 70))]) (h1 := sH105 L xs) rfl ?_
  refine Ru.step (pc' := 15) (ls' := [some (.inr (.inr (some 70))), some (.inr (.inr (some 29))), some (.inr (.inr (some 31))), some (.inr (.inr (some 39))), some (.inr (.inr (some 46))), some (.inr (.inr (some 54))), some (.inr (.inr (some 61))), some (.inr (.inr (some 66)))]) (st' := [.inl 80, .inr (.inr (some 70))]) (h1 := sH105 L xs) rfl ?_
  refine Ru.step (pc' := 17) (ls' := [some (.inr (.inr (some 70))), some (.inr (.inr (some 29))), some (.inr (.inr (some 31))), some (.inr (.inr (some 39))), some (.inr (.inr (some 46))), some (.inr (.inr (some 54))), some (.inr (.inr (some 61))), some (.inr (.inr (some 66)))]) (st' := [.inr (.inr (some 72)), .inr (.inr (some 70))]) (h1 := sH106 L xs) rfl ?_
  refine Ru.step (pc' := 20) (ls' := [some (.inr (.inr (some 70))), some (.inr (.inr (some 29))), some (.inr (.inr (some 31))), some (.inr (.inr (some 39))), some (.inr (.inr (some 46))), some (.inr (.inr (some 54))), some (.inr (.inr (some 61))), some (.inr (.inr (some 66)))]) (st' := []) (h1 := sH107 L xs) rfl ?_
  refine Ru.step (pc' := 21) (ls' := [some (.inr (.inr (some 70))), some (.inr (.inr (some 29))), some (.inr (.inr (some 31))), some (.inr (.inr (some 39))), some (.inr (.inr (some 46))), some (.inr (.inr (some 54))), some (.inr (.inr (some 61))), some (.inr (.inr (some 66)))]) (st' := [.inr (.inr (some 70))]) (h1 := sH107 L xs) rfl ?_
  refine Ru.step (pc' := 22) (ls' := [some (.inr (.inr (some 70))), some (.inr (.inr (some 29))), some (.inr (.inr (some 31))), some (.inr (.inr (some 39))), some (.inr (.inr (some 46))), some (.inr (.inr (some 54))), some (.inr (.inr (some 61))), some (.inr (.inr (some 66)))]) (st' := [.inr (.inr (some 29)), .inr (.inr (some 70))]) (h1 := sH107 L xs) rfl ?_
  refine Ru.step (pc' := 25) (ls' := [some (.inr (.inr (some 70))), some (.inr (.inr (some 29))), some (.inr (.inr (some 31))), some (.inr (.inr (some 39))), some (.inr (.inr (some 46))), some (.inr (.inr (some 54))), some (.inr (.inr (some 61))), some (.inr (.inr (some 66)))]) (st' := []) (h1 := sH108 L xs) rfl ?_
  refine Ru.step (pc' := 26) (ls' := [some (.inr (.inr (some 70))), some (.inr (.inr (some 29))), some (.inr (.inr (some 31))), some (.inr (.inr (some 39))), some (.inr (.inr (some 46))), some (.inr (.inr (some 54))), some (.inr (.inr (some 61))), some (.inr (.inr (some 66)))]) (st' := [.inr (.inr (some 70))]) (h1 := sH108 L xs) rfl ?_
  refine Ru.step (pc' := 27) (ls' := [some (.inr (.inr (some 70))), some (.inr (.inr (some 29))), some (.inr (.inr (some 31))), some (.inr (.inr (some 39))), some (.inr (.inr (some 46))), some (.inr (.inr (some 54))), some (.inr (.inr (some 61))), some (.inr (.inr (some 66)))]) (st' := [.inr (.inr (some 31)), .inr (.inr (some 70))]) (h1 := sH108 L xs) rfl ?_
  refine Ru.step (pc' := 30) (ls' := [some (.inr (.inr (some 70))), some (.inr (.inr (some 29))), some (.inr (.inr (some 31))), some (.inr (.inr (some 39))), some (.inr (.inr (some 46))), some (.inr (.inr (some 54))), some (.inr (.inr (some 61))), some (.inr (.inr (some 66)))]) (st' := []) (h1 := sH109 L xs) rfl ?_
  refine Ru.step (pc' := 31) (ls' := [some (.inr (.inr (some 70))), some (.inr (.inr (some 29))), some (.inr (.inr (some 31))), some (.inr (.inr (some 39))), some (.inr (.inr (some 46))), some (.inr (.inr (some 54))), some (.inr (.inr (some 61))), some (.inr (.inr (some 66)))]) (st' := [.inr (.inr (some 70))]) (h1 := sH109 L xs) rfl ?_
  refine Ru.step (pc' := 32) (ls' := [some (.inr (.inr (some 70))), some (.inr (.inr (some 29))), some (.inr (.inr (some 31))), some (.inr (.inr (some 39))), some (.inr (.inr (some 46))), some (.inr (.inr (some 54))), some (.inr (.inr (some 61))), some (.inr (.inr (some 66)))]) (st' := [.inr (.inr (some 39)), .inr (.inr (some 70))]) (h1 := sH109 L xs) rfl ?_
  refine Ru.step (pc' := 35) (ls' := [some (.inr (.inr (some 70))), some (.inr (.inr (some 29))), some (.inr (.inr (some 31))), some (.inr (.inr (some 39))), some (.inr (.inr (some 46))), some (.inr (.inr (some 54))), some (.inr (.inr (some 61))), some (.inr (.inr (some 66)))]) (st' := []) (h1 := sH110 L xs) rfl ?_
  refine Ru.step (pc' := 36) (ls' := [some (.inr (.inr (some 70))), some (.inr (.inr (some 29))), some (.inr (.inr (some 31))), some (.inr (.inr (some 39))), some (.inr (.inr (some 46))), some (.inr (.inr (some 54))), some (.inr (.inr (some 61))), some (.inr (.inr (some 66)))]) (st' := [.inr (.inr (some 70))]) (h1 := sH110 L xs) rfl ?_
  refine Ru.step (pc' := 38) (ls' := [some (.inr (.inr (some 70))), some (.inr (.inr (some 29))), some (.inr (.inr (some 31))), some (.inr (.inr (some 39))), some (.inr (.inr (some 46))), some (.inr (.inr (some 54))), some (.inr (.inr (some 61))), some (.inr (.inr (some 66)))]) (st' := [.inr (.inr (some 46)), .inr (.inr (some 70))]) (h1 := sH110 L xs) rfl ?_
  refine Ru.step (pc' := 41) (ls' := [some (.inr (.inr (some 70))), some (.inr (.inr (some 29))), some (.inr (.inr (some 31))), some (.inr (.inr (some 39))), some (.inr (.inr (some 46))), some (.inr (.inr (some 54))), some (.inr (.inr (some 61))), some (.inr (.inr (some 66)))]) (st' := []) (h1 := sH111 L xs) rfl ?_
  refine Ru.step (pc' := 42) (ls' := [some (.inr (.inr (some 70))), some (.inr (.inr (some 29))), some (.inr (.inr (some 31))), some (.inr (.inr (some 39))), some (.inr (.inr (some 46))), some (.inr (.inr (some 54))), some (.inr (.inr (some 61))), some (.inr (.inr (some 66)))]) (st' := [.inr (.inr (some 70))]) (h1 := sH111 L xs) rfl ?_
  refine Ru.step (pc' := 44) (ls' := [some (.inr (.inr (some 70))), some (.inr (.inr (some 29))), some (.inr (.inr (some 31))), some (.inr (.inr (some 39))), some (.inr (.inr (some 46))), some (.inr (.inr (some 54))), some (.inr (.inr (some 61))), some (.inr (.inr (some 66)))]) (st' := [.inr (.inr (some 54)), .inr (.inr (some 70))]) (h1 := sH111 L xs) rfl ?_
  refine Ru.step (pc' := 47) (ls' := [some (.inr (.inr (some 70))), some (.inr (.inr (some 29))), some (.inr (.inr (some 31))), some (.inr (.inr (some 39))), some (.inr (.inr (some 46))), some (.inr (.inr (some 54))), some (.inr (.inr (some 61))), some (.inr (.inr (some 66)))]) (st' := []) (h1 := sH112 L xs) rfl ?_
  refine Ru.step (pc' := 48) (ls' := [some (.inr (.inr (some 70))), some (.inr (.inr (some 29))), some (.inr (.inr (some 31))), some (.inr (.inr (some 39))), some (.inr (.inr (some 46))), some (.inr (.inr (some 54))), some (.inr (.inr (some 61))), some (.inr (.inr (some 66)))]) (st' := [.inr (.inr (some 70))]) (h1 := sH112 L xs) rfl ?_
  refine Ru.step (pc' := 50) (ls' := [some (.inr (.inr (some 70))), some (.inr (.inr (some 29))), some (.inr (.inr (some 31))), some (.inr (.inr (some 39))), some (.inr (.inr (some 46))), some (.inr (.inr (some 54))), some (.inr (.inr (some 61))), some (.inr (.inr (some 66)))]) (st' := [.inr (.inr (some 61)), .inr (.inr (some 70))]) (h1 := sH112 L xs) rfl ?_
  refine Ru.step (pc' := 53) (ls' := [some (.inr (.inr (some 70))), some (.inr (.inr (some 29))), some (.inr (.inr (some 31))), some (.inr (.inr (some 39))), some (.inr (.inr (some 46))), some (.inr (.inr (some 54))), some (.inr (.inr (some 61))), some (.inr (.inr (some 66)))]) (st' := []) (h1 := sH113 L xs) rfl ?_
  refine Ru.step (pc' := 54) (ls' := [some (.inr (.inr (some 70))), some (.inr (.inr (some 29))), some (.inr (.inr (some 31))), some (.inr (.inr (some 39))), some (.inr (.inr (some 46))), some (.inr (.inr (some 54))), some (.inr (.inr (some 61))), some (.inr (.inr (some 66)))]) (st' := [.inr (.inr (some 70))]) (h1 := sH113 L xs) rfl ?_
  refine Ru.step (pc' := 56) (ls' := [some (.inr (.inr (some 70))), some (.inr (.inr (some 29))), some (.inr (.inr (some 31))), some (.inr (.inr (some 39))), some (.inr (.inr (some 46))), some (.inr (.inr (some 54))), some (.inr (.inr (some 61))), some (.inr (.inr (some 66)))]) (st' := [.inr (.inr (some 66)), .inr (.inr (some 70))]) (h1 := sH113 L xs) rfl ?_
  refine Ru.step (pc' := 59) (ls' := [some (.inr (.inr (some 70))), some (.inr (.inr (some 29))), some (.inr (.inr (some 31))), some (.inr (.inr (some 39))), some (.inr (.inr (some 46))), some (.inr (.inr (some 54))), some (.inr (.inr (some 61))), some (.inr (.inr (some 66)))]) (st' := []) (h1 := sH114 L xs) rfl ?_
  exact Ru.done rfl
def sR58 : Nat → Nat → Option Nat := ax_u2 sR57 27 10 (some 70)
def sH115 (L : Nat) (xs : Nat → Int) : ax_H := (46, 187608, sK46 L, sS11 L xs, sR58, fun _ => 0)
def sK47 (L : Nat) : Nat → Nat × Nat := ax_u1 (sK46 L) 73 (101, 6)
def sH116 (L : Nat) (xs : Nat → Int) : ax_H := (47, 187614, sK47 L, sS11 L xs, sR58, fun _ => 0)
def sR59 : Nat → Nat → Option Nat := ax_u2 sR58 73 0 (some 29)
def sH117 (L : Nat) (xs : Nat → Int) : ax_H := (47, 187614, sK47 L, sS11 L xs, sR59, fun _ => 0)
def sR60 : Nat → Nat → Option Nat := ax_u2 sR59 73 1 (some 31)
def sH118 (L : Nat) (xs : Nat → Int) : ax_H := (47, 187614, sK47 L, sS11 L xs, sR60, fun _ => 0)
def sR61 : Nat → Nat → Option Nat := ax_u2 sR60 73 2 (some 39)
def sH119 (L : Nat) (xs : Nat → Int) : ax_H := (47, 187614, sK47 L, sS11 L xs, sR61, fun _ => 0)
def sR62 : Nat → Nat → Option Nat := ax_u2 sR61 73 3 (some 46)
def sH120 (L : Nat) (xs : Nat → Int) : ax_H := (47, 187614, sK47 L, sS11 L xs, sR62, fun _ => 0)
def sR63 : Nat → Nat → Option Nat := ax_u2 sR62 73 4 (some 54)
def sH121 (L : Nat) (xs : Nat → Int) : ax_H := (47, 187614, sK47 L, sS11 L xs, sR63, fun _ => 0)
def sR64 : Nat → Nat → Option Nat := ax_u2 sR63 73 5 (some 61)
def sH122 (L : Nat) (xs : Nat → Int) : ax_H := (47, 187614, sK47 L, sS11 L xs, sR64, fun _ => 0)
set_option maxRecDepth 20000 in
theorem st_c10 {L : Nat} {xs : Nat → Int} : Ev 1 17 [.inr (.inr (some 73)), .inr (.inr (some 29)), .inr (.inr (some 31)), .inr (.inr (some 39)), .inr (.inr (some 46)), .inr (.inr (some 54)), .inr (.inr (some 61))] (sH116 L xs) (.inl none) (sH122 L xs) := by
  refine Ev.of (μ := tb_m17) (ls := [some (.inr (.inr (some 73))), some (.inr (.inr (some 29))), some (.inr (.inr (some 31))), some (.inr (.inr (some 39))), some (.inr (.inr (some 46))), some (.inr (.inr (some 54))), some (.inr (.inr (some 61)))]) rfl (Nat.le_of_ble_eq_true rfl) rfl ?_
  refine Ru.step (pc' := 1) (ls' := [some (.inr (.inr (some 73))), some (.inr (.inr (some 29))), some (.inr (.inr (some 31))), some (.inr (.inr (some 39))), some (.inr (.inr (some 46))), some (.inr (.inr (some 54))), some (.inr (.inr (some 61)))]) (st' := [.inr (.inr (some 73))]) (h1 := sH116 L xs) rfl ?_
  refine Ru.step (pc' := 4) (ls' := [some (.inr (.inr (some 73))), some (.inr (.inr (some 29))), some (.inr (.inr (some 31))), some (.inr (.inr (some 39))), some (.inr (.inr (some 46))), some (.inr (.inr (some 54))), some (.inr (.inr (some 61)))]) (st' := []) (h1 := sH116 L xs) rfl ?_
  refine Ru.step (pc' := 5) (ls' := [some (.inr (.inr (some 73))), some (.inr (.inr (some 29))), some (.inr (.inr (some 31))), some (.inr (.inr (some 39))), some (.inr (.inr (some 46))), some (.inr (.inr (some 54))), some (.inr (.inr (some 61)))]) (st' := [.inr (.inr (some 73))]) (h1 := sH116 L xs) rfl ?_
  refine Ru.step (pc' := 6) (ls' := [some (.inr (.inr (some 73))), some (.inr (.inr (some 29))), some (.inr (.inr (some 31))), some (.inr (.inr (some 39))), some (.inr (.inr (some 46))), some (.inr (.inr (some 54))), some (.inr (.inr (some 61)))]) (st' := [.inr (.inr (some 29)), .inr (.inr (some 73))]) (h1 := sH116 L xs) rfl ?_
  refine Ru.step (pc' := 9) (ls' := [some (.inr (.inr (some 73))), some (.inr (.inr (some 29))), some (.inr (.inr (some 31))), some (.inr (.inr (some 39))), some (.inr (.inr (some 46))), some (.inr (.inr (some 54))), some (.inr (.inr (some 61)))]) (st' := []) (h1 := sH117 L xs) rfl ?_
  refine Ru.step (pc' := 10) (ls' := [some (.inr (.inr (some 73))), some (.inr (.inr (some 29))), some (.inr (.inr (some 31))), some (.inr (.inr (some 39))), some (.inr (.inr (some 46))), some (.inr (.inr (some 54))), some (.inr (.inr (some 61)))]) (st' := [.inr (.inr (some 73))]) (h1 := sH117 L xs) rfl ?_
  refine Ru.step (pc' := 11) (ls' := [some (.inr (.inr (some 73))), some (.inr (.inr (some 29))), some (.inr (.inr (some 31))), some (.inr (.inr (some 39))), some (.inr (.inr (some 46))), some (.inr (.inr (some 54))), some (.inr (.inr (some 61)))]) (st' := [.inr (.inr (some 31)), .inr (.inr (some 73))]) (h1 := sH117 L xs) rfl ?_
  refine Ru.step (pc' := 14) (ls' := [some (.inr (.inr (some 73))), some (.inr (.inr (some 29))), some (.inr (.inr (some 31))), some (.inr (.inr (some 39))), some (.inr (.inr (some 46))), some (.inr (.inr (some 54))), some (.inr (.inr (some 61)))]) (st' := []) (h1 := sH118 L xs) rfl ?_
  refine Ru.step (pc' := 15) (ls' := [some (.inr (.inr (some 73))), some (.inr (.inr (some 29))), some (.inr (.inr (some 31))), some (.inr (.inr (some 39))), some (.inr (.inr (some 46))), some (.inr (.inr (some 54))), some (.inr (.inr (some 61)))]) (st' := [.inr (.inr (some 73))]) (h1 := sH118 L xs) rfl ?_
  refine Ru.step (pc' := 16) (ls' := [some (.inr (.inr (some 73))), some (.inr (.inr (some 29))), some (.inr (.inr (some 31))), some (.inr (.inr (some 39))), some (.inr (.inr (some 46))), some (.inr (.inr (some 54))), some (.inr (.inr (some 61)))]) (st' := [.inr (.inr (some 39)), .inr (.inr (some 73))]) (h1 := sH118 L xs) rfl ?_
  refine Ru.step (pc' := 19) (ls' := [some (.inr (.inr (some 73))), some (.inr (.inr (some 29))), some (.inr (.inr (some 31))), some (.inr (.inr (some 39))), some (.inr (.inr (some 46))), some (.inr (.inr (some 54))), some (.inr (.inr (some 61)))]) (st' := []) (h1 := sH119 L xs) rfl ?_
  refine Ru.step (pc' := 20) (ls' := [some (.inr (.inr (some 73))), some (.inr (.inr (some 29))), some (.inr (.inr (some 31))), some (.inr (.inr (some 39))), some (.inr (.inr (some 46))), some (.inr (.inr (some 54))), some (.inr (.inr (some 61)))]) (st' := [.inr (.inr (some 73))]) (h1 := sH119 L xs) rfl ?_
  refine Ru.step (pc' := 22) (ls' := [some (.inr (.inr (some 73))), some (.inr (.inr (some 29))), some (.inr (.inr (some 31))), some (.inr (.inr (some 39))), some (.inr (.inr (some 46))), some (.inr (.inr (some 54))), some (.inr (.inr (some 61)))]) (st' := [.inr (.inr (some 46)), .inr (.inr (some 73))]) (h1 := sH119 L xs) rfl ?_
  refine Ru.step (pc' := 25) (ls' := [some (.inr (.inr (some 73))), some (.inr (.inr (some 29))), some (.inr (.inr (some 31))), some (.inr (.inr (some 39))), some (.inr (.inr (some 46))), some (.inr (.inr (some 54))), some (.inr (.inr (some 61)))]) (st' := []) (h1 := sH120 L xs) rfl ?_
  refine Ru.step (pc' := 26) (ls' := [some (.inr (.inr (some 73))), some (.inr (.inr (some 29))), some (.inr (.inr (some 31))), some (.inr (.inr (some 39))), some (.inr (.inr (some 46))), some (.inr (.inr (some 54))), some (.inr (.inr (some 61)))]) (st' := [.inr (.inr (some 73))]) (h1 := sH120 L xs) rfl ?_
  refine Ru.step (pc' := 28) (ls' := [some (.inr (.inr (some 73))), some (.inr (.inr (some 29))), some (.inr (.inr (some 31))), some (.inr (.inr (some 39))), some (.inr (.inr (some 46))), some (.inr (.inr (some 54))), some (.inr (.inr (some 61)))]) (st' := [.inr (.inr (some 54)), .inr (.inr (some 73))]) (h1 := sH120 L xs) rfl ?_
  refine Ru.step (pc' := 31) (ls' := [some (.inr (.inr (some 73))), some (.inr (.inr (some 29))), some (.inr (.inr (some 31))), some (.inr (.inr (some 39))), some (.inr (.inr (some 46))), some (.inr (.inr (some 54))), some (.inr (.inr (some 61)))]) (st' := []) (h1 := sH121 L xs) rfl ?_
  refine Ru.step (pc' := 32) (ls' := [some (.inr (.inr (some 73))), some (.inr (.inr (some 29))), some (.inr (.inr (some 31))), some (.inr (.inr (some 39))), some (.inr (.inr (some 46))), some (.inr (.inr (some 54))), some (.inr (.inr (some 61)))]) (st' := [.inr (.inr (some 73))]) (h1 := sH121 L xs) rfl ?_
  refine Ru.step (pc' := 34) (ls' := [some (.inr (.inr (some 73))), some (.inr (.inr (some 29))), some (.inr (.inr (some 31))), some (.inr (.inr (some 39))), some (.inr (.inr (some 46))), some (.inr (.inr (some 54))), some (.inr (.inr (some 61)))]) (st' := [.inr (.inr (some 61)), .inr (.inr (some 73))]) (h1 := sH121 L xs) rfl ?_
  refine Ru.step (pc' := 37) (ls' := [some (.inr (.inr (some 73))), some (.inr (.inr (some 29))), some (.inr (.inr (some 31))), some (.inr (.inr (some 39))), some (.inr (.inr (some 46))), some (.inr (.inr (some 54))), some (.inr (.inr (some 61)))]) (st' := []) (h1 := sH122 L xs) rfl ?_
  exact Ru.done rfl
def sR65 : Nat → Nat → Option Nat := ax_u2 sR64 27 11 (some 73)
def sH123 (L : Nat) (xs : Nat → Int) : ax_H := (47, 187614, sK47 L, sS11 L xs, sR65, fun _ => 0)
def sK48 (L : Nat) : Nat → Nat × Nat := ax_u1 (sK47 L) 74 (110, 14)
def sH124 (L : Nat) (xs : Nat → Int) : ax_H := (48, 187628, sK48 L, sS11 L xs, sR65, fun _ => 0)
def sK49 (L : Nat) : Nat → Nat × Nat := ax_u1 (sK48 L) 75 (0, 1171)
def sH125 (L : Nat) (xs : Nat → Int) : ax_H := (49, 188799, sK49 L, sS11 L xs, sR65, fun _ => 0)
def sR66 : Nat → Nat → Option Nat := ax_u2 sR65 74 4 (some 75)
def sH126 (L : Nat) (xs : Nat → Int) : ax_H := (49, 188799, sK49 L, sS11 L xs, sR66, fun _ => 0)
def sK50 (L : Nat) : Nat → Nat × Nat := ax_u1 (sK49 L) 76 (0, 2731)
def sH127 (L : Nat) (xs : Nat → Int) : ax_H := (50, 191530, sK50 L, sS11 L xs, sR66, fun _ => 0)
def sR67 : Nat → Nat → Option Nat := ax_u2 sR66 74 5 (some 76)
def sH128 (L : Nat) (xs : Nat → Int) : ax_H := (50, 191530, sK50 L, sS11 L xs, sR67, fun _ => 0)
def sK51 (L : Nat) : Nat → Nat × Nat := ax_u1 (sK50 L) 77 (0, 2731)
def sH129 (L : Nat) (xs : Nat → Int) : ax_H := (51, 194261, sK51 L, sS11 L xs, sR67, fun _ => 0)
def sR68 : Nat → Nat → Option Nat := ax_u2 sR67 74 6 (some 77)
def sH130 (L : Nat) (xs : Nat → Int) : ax_H := (51, 194261, sK51 L, sS11 L xs, sR68, fun _ => 0)
def sK52 (L : Nat) : Nat → Nat × Nat := ax_u1 (sK51 L) 78 (0, 1171)
def sH131 (L : Nat) (xs : Nat → Int) : ax_H := (52, 195432, sK52 L, sS11 L xs, sR68, fun _ => 0)
def sR69 : Nat → Nat → Option Nat := ax_u2 sR68 74 8 (some 78)
def sH132 (L : Nat) (xs : Nat → Int) : ax_H := (52, 195432, sK52 L, sS11 L xs, sR69, fun _ => 0)
def sK53 (L : Nat) : Nat → Nat × Nat := ax_u1 (sK52 L) 79 (0, 1171)
def sH133 (L : Nat) (xs : Nat → Int) : ax_H := (53, 196603, sK53 L, sS11 L xs, sR69, fun _ => 0)
def sR70 : Nat → Nat → Option Nat := ax_u2 sR69 74 9 (some 79)
def sH134 (L : Nat) (xs : Nat → Int) : ax_H := (53, 196603, sK53 L, sS11 L xs, sR70, fun _ => 0)
def sK54 (L : Nat) : Nat → Nat × Nat := ax_u1 (sK53 L) 80 (0, 1171)
def sH135 (L : Nat) (xs : Nat → Int) : ax_H := (54, 197774, sK54 L, sS11 L xs, sR70, fun _ => 0)
def sR71 : Nat → Nat → Option Nat := ax_u2 sR70 74 10 (some 80)
def sH136 (L : Nat) (xs : Nat → Int) : ax_H := (54, 197774, sK54 L, sS11 L xs, sR71, fun _ => 0)
def sK55 (L : Nat) : Nat → Nat × Nat := ax_u1 (sK54 L) 81 (0, 1171)
def sH137 (L : Nat) (xs : Nat → Int) : ax_H := (55, 198945, sK55 L, sS11 L xs, sR71, fun _ => 0)
def sR72 : Nat → Nat → Option Nat := ax_u2 sR71 74 12 (some 81)
def sH138 (L : Nat) (xs : Nat → Int) : ax_H := (55, 198945, sK55 L, sS11 L xs, sR72, fun _ => 0)
def sR73 : Nat → Nat → Option Nat := ax_u2 sR72 74 0 (some 29)
def sH139 (L : Nat) (xs : Nat → Int) : ax_H := (55, 198945, sK55 L, sS11 L xs, sR73, fun _ => 0)
def sR74 : Nat → Nat → Option Nat := ax_u2 sR73 74 1 (some 31)
def sH140 (L : Nat) (xs : Nat → Int) : ax_H := (55, 198945, sK55 L, sS11 L xs, sR74, fun _ => 0)
def sR75 : Nat → Nat → Option Nat := ax_u2 sR74 74 2 (some 39)
def sH141 (L : Nat) (xs : Nat → Int) : ax_H := (55, 198945, sK55 L, sS11 L xs, sR75, fun _ => 0)
def sR76 : Nat → Nat → Option Nat := ax_u2 sR75 74 3 (some 54)
def sH142 (L : Nat) (xs : Nat → Int) : ax_H := (55, 198945, sK55 L, sS11 L xs, sR76, fun _ => 0)
set_option maxRecDepth 20000 in
theorem st_c11 {L : Nat} {xs : Nat → Int} : Ev 1 160 [.inr (.inr (some 74)), .inr (.inr (some 29)), .inr (.inr (some 31)), .inr (.inr (some 39)), .inr (.inr (some 54))] (sH124 L xs) (.inl none) (sH142 L xs) := by
  refine Ev.of (μ := tb_m160) (ls := [some (.inr (.inr (some 74))), some (.inr (.inr (some 29))), some (.inr (.inr (some 31))), some (.inr (.inr (some 39))), some (.inr (.inr (some 54)))]) rfl (Nat.le_of_ble_eq_true rfl) rfl ?_
  refine Ru.step (pc' := 1) (ls' := [some (.inr (.inr (some 74))), some (.inr (.inr (some 29))), some (.inr (.inr (some 31))), some (.inr (.inr (some 39))), some (.inr (.inr (some 54)))]) (st' := [.inr (.inr (some 74))]) (h1 := sH124 L xs) rfl ?_
  refine Ru.step (pc' := 4) (ls' := [some (.inr (.inr (some 74))), some (.inr (.inr (some 29))), some (.inr (.inr (some 31))), some (.inr (.inr (some 39))), some (.inr (.inr (some 54)))]) (st' := []) (h1 := sH124 L xs) rfl ?_
  refine Ru.step (pc' := 5) (ls' := [some (.inr (.inr (some 74))), some (.inr (.inr (some 29))), some (.inr (.inr (some 31))), some (.inr (.inr (some 39))), some (.inr (.inr (some 54)))]) (st' := [.inr (.inr (some 74))]) (h1 := sH124 L xs) rfl ?_
  refine Ru.step (pc' := 8) (ls' := [some (.inr (.inr (some 74))), some (.inr (.inr (some 29))), some (.inr (.inr (some 31))), some (.inr (.inr (some 39))), some (.inr (.inr (some 54)))]) (st' := [.inl 1171, .inr (.inr (some 74))]) (h1 := sH124 L xs) rfl ?_
  refine Ru.step (pc' := 10) (ls' := [some (.inr (.inr (some 74))), some (.inr (.inr (some 29))), some (.inr (.inr (some 31))), some (.inr (.inr (some 39))), some (.inr (.inr (some 54)))]) (st' := [.inr (.inr (some 75)), .inr (.inr (some 74))]) (h1 := sH125 L xs) rfl ?_
  refine Ru.step (pc' := 13) (ls' := [some (.inr (.inr (some 74))), some (.inr (.inr (some 29))), some (.inr (.inr (some 31))), some (.inr (.inr (some 39))), some (.inr (.inr (some 54)))]) (st' := []) (h1 := sH126 L xs) rfl ?_
  refine Ru.step (pc' := 14) (ls' := [some (.inr (.inr (some 74))), some (.inr (.inr (some 29))), some (.inr (.inr (some 31))), some (.inr (.inr (some 39))), some (.inr (.inr (some 54)))]) (st' := [.inr (.inr (some 74))]) (h1 := sH126 L xs) rfl ?_
  refine Ru.step (pc' := 17) (ls' := [some (.inr (.inr (some 74))), some (.inr (.inr (some 29))), some (.inr (.inr (some 31))), some (.inr (.inr (some 39))), some (.inr (.inr (some 54)))]) (st' := [.inl 2731, .inr (.inr (some 74))]) (h1 := sH126 L xs) rfl ?_
  refine Ru.step (pc' := 19) (ls' := [some (.inr (.inr (some 74))), some (.inr (.inr (some 29))), some (.inr (.inr (some 31))), some (.inr (.inr (some 39))), some (.inr (.inr (some 54)))]) (st' := [.inr (.inr (some 76)), .inr (.inr (some 74))]) (h1 := sH127 L xs) rfl ?_
  refine Ru.step (pc' := 22) (ls' := [some (.inr (.inr (some 74))), some (.inr (.inr (some 29))), some (.inr (.inr (some 31))), some (.inr (.inr (some 39))), some (.inr (.inr (some 54)))]) (st' := []) (h1 := sH128 L xs) rfl ?_
  refine Ru.step (pc' := 23) (ls' := [some (.inr (.inr (some 74))), some (.inr (.inr (some 29))), some (.inr (.inr (some 31))), some (.inr (.inr (some 39))), some (.inr (.inr (some 54)))]) (st' := [.inr (.inr (some 74))]) (h1 := sH128 L xs) rfl ?_
  refine Ru.step (pc' := 26) (ls' := [some (.inr (.inr (some 74))), some (.inr (.inr (some 29))), some (.inr (.inr (some 31))), some (.inr (.inr (some 39))), some (.inr (.inr (some 54)))]) (st' := [.inl 2731, .inr (.inr (some 74))]) (h1 := sH128 L xs) rfl ?_
  refine Ru.step (pc' := 28) (ls' := [some (.inr (.inr (some 74))), some (.inr (.inr (some 29))), some (.inr (.inr (some 31))), some (.inr (.inr (some 39))), some (.inr (.inr (some 54)))]) (st' := [.inr (.inr (some 77)), .inr (.inr (some 74))]) (h1 := sH129 L xs) rfl ?_
  refine Ru.step (pc' := 31) (ls' := [some (.inr (.inr (some 74))), some (.inr (.inr (some 29))), some (.inr (.inr (some 31))), some (.inr (.inr (some 39))), some (.inr (.inr (some 54)))]) (st' := []) (h1 := sH130 L xs) rfl ?_
  refine Ru.step (pc' := 32) (ls' := [some (.inr (.inr (some 74))), some (.inr (.inr (some 29))), some (.inr (.inr (some 31))), some (.inr (.inr (some 39))), some (.inr (.inr (some 54)))]) (st' := [.inr (.inr (some 74))]) (h1 := sH130 L xs) rfl ?_
  refine Ru.step (pc' := 35) (ls' := [some (.inr (.inr (some 74))), some (.inr (.inr (some 29))), some (.inr (.inr (some 31))), some (.inr (.inr (some 39))), some (.inr (.inr (some 54)))]) (st' := [.inl 1171, .inr (.inr (some 74))]) (h1 := sH130 L xs) rfl ?_
  refine Ru.step (pc' := 37) (ls' := [some (.inr (.inr (some 74))), some (.inr (.inr (some 29))), some (.inr (.inr (some 31))), some (.inr (.inr (some 39))), some (.inr (.inr (some 54)))]) (st' := [.inr (.inr (some 78)), .inr (.inr (some 74))]) (h1 := sH131 L xs) rfl ?_
  refine Ru.step (pc' := 40) (ls' := [some (.inr (.inr (some 74))), some (.inr (.inr (some 29))), some (.inr (.inr (some 31))), some (.inr (.inr (some 39))), some (.inr (.inr (some 54)))]) (st' := []) (h1 := sH132 L xs) rfl ?_
  refine Ru.step (pc' := 41) (ls' := [some (.inr (.inr (some 74))), some (.inr (.inr (some 29))), some (.inr (.inr (some 31))), some (.inr (.inr (some 39))), some (.inr (.inr (some 54)))]) (st' := [.inr (.inr (some 74))]) (h1 := sH132 L xs) rfl ?_
  refine Ru.step (pc' := 44) (ls' := [some (.inr (.inr (some 74))), some (.inr (.inr (some 29))), some (.inr (.inr (some 31))), some (.inr (.inr (some 39))), some (.inr (.inr (some 54)))]) (st' := [.inl 1171, .inr (.inr (some 74))]) (h1 := sH132 L xs) rfl ?_
  refine Ru.step (pc' := 46) (ls' := [some (.inr (.inr (some 74))), some (.inr (.inr (some 29))), some (.inr (.inr (some 31))), some (.inr (.inr (some 39))), some (.inr (.inr (some 54)))]) (st' := [.inr (.inr (some 79)), .inr (.inr (some 74))]) (h1 := sH133 L xs) rfl ?_
  refine Ru.step (pc' := 49) (ls' := [some (.inr (.inr (some 74))), some (.inr (.inr (some 29))), some (.inr (.inr (some 31))), some (.inr (.inr (some 39))), some (.inr (.inr (some 54)))]) (st' := []) (h1 := sH134 L xs) rfl ?_
  refine Ru.step (pc' := 50) (ls' := [some (.inr (.inr (some 74))), some (.inr (.inr (some 29))), some (.inr (.inr (some 31))), some (.inr (.inr (some 39))), some (.inr (.inr (some 54)))]) (st' := [.inr (.inr (some 74))]) (h1 := sH134 L xs) rfl ?_
  refine Ru.step (pc' := 53) (ls' := [some (.inr (.inr (some 74))), some (.inr (.inr (some 29))), some (.inr (.inr (some 31))), some (.inr (.inr (some 39))), some (.inr (.inr (some 54)))]) (st' := [.inl 1171, .inr (.inr (some 74))]) (h1 := sH134 L xs) rfl ?_
  refine Ru.step (pc' := 55) (ls' := [some (.inr (.inr (some 74))), some (.inr (.inr (some 29))), some (.inr (.inr (some 31))), some (.inr (.inr (some 39))), some (.inr (.inr (some 54)))]) (st' := [.inr (.inr (some 80)), .inr (.inr (some 74))]) (h1 := sH135 L xs) rfl ?_
  refine Ru.step (pc' := 58) (ls' := [some (.inr (.inr (some 74))), some (.inr (.inr (some 29))), some (.inr (.inr (some 31))), some (.inr (.inr (some 39))), some (.inr (.inr (some 54)))]) (st' := []) (h1 := sH136 L xs) rfl ?_
  refine Ru.step (pc' := 59) (ls' := [some (.inr (.inr (some 74))), some (.inr (.inr (some 29))), some (.inr (.inr (some 31))), some (.inr (.inr (some 39))), some (.inr (.inr (some 54)))]) (st' := [.inr (.inr (some 74))]) (h1 := sH136 L xs) rfl ?_
  refine Ru.step (pc' := 62) (ls' := [some (.inr (.inr (some 74))), some (.inr (.inr (some 29))), some (.inr (.inr (some 31))), some (.inr (.inr (some 39))), some (.inr (.inr (some 54)))]) (st' := [.inl 1171, .inr (.inr (some 74))]) (h1 := sH136 L xs) rfl ?_
  refine Ru.step (pc' := 64) (ls' := [some (.inr (.inr (some 74))), some (.inr (.inr (some 29))), some (.inr (.inr (some 31))), some (.inr (.inr (some 39))), some (.inr (.inr (some 54)))]) (st' := [.inr (.inr (some 81)), .inr (.inr (some 74))]) (h1 := sH137 L xs) rfl ?_
  refine Ru.step (pc' := 67) (ls' := [some (.inr (.inr (some 74))), some (.inr (.inr (some 29))), some (.inr (.inr (some 31))), some (.inr (.inr (some 39))), some (.inr (.inr (some 54)))]) (st' := []) (h1 := sH138 L xs) rfl ?_
  refine Ru.step (pc' := 68) (ls' := [some (.inr (.inr (some 74))), some (.inr (.inr (some 29))), some (.inr (.inr (some 31))), some (.inr (.inr (some 39))), some (.inr (.inr (some 54)))]) (st' := [.inr (.inr (some 74))]) (h1 := sH138 L xs) rfl ?_
  refine Ru.step (pc' := 69) (ls' := [some (.inr (.inr (some 74))), some (.inr (.inr (some 29))), some (.inr (.inr (some 31))), some (.inr (.inr (some 39))), some (.inr (.inr (some 54)))]) (st' := [.inr (.inr (some 29)), .inr (.inr (some 74))]) (h1 := sH138 L xs) rfl ?_
  refine Ru.step (pc' := 72) (ls' := [some (.inr (.inr (some 74))), some (.inr (.inr (some 29))), some (.inr (.inr (some 31))), some (.inr (.inr (some 39))), some (.inr (.inr (some 54)))]) (st' := []) (h1 := sH139 L xs) rfl ?_
  refine Ru.step (pc' := 73) (ls' := [some (.inr (.inr (some 74))), some (.inr (.inr (some 29))), some (.inr (.inr (some 31))), some (.inr (.inr (some 39))), some (.inr (.inr (some 54)))]) (st' := [.inr (.inr (some 74))]) (h1 := sH139 L xs) rfl ?_
  refine Ru.step (pc' := 74) (ls' := [some (.inr (.inr (some 74))), some (.inr (.inr (some 29))), some (.inr (.inr (some 31))), some (.inr (.inr (some 39))), some (.inr (.inr (some 54)))]) (st' := [.inr (.inr (some 31)), .inr (.inr (some 74))]) (h1 := sH139 L xs) rfl ?_
  refine Ru.step (pc' := 77) (ls' := [some (.inr (.inr (some 74))), some (.inr (.inr (some 29))), some (.inr (.inr (some 31))), some (.inr (.inr (some 39))), some (.inr (.inr (some 54)))]) (st' := []) (h1 := sH140 L xs) rfl ?_
  refine Ru.step (pc' := 78) (ls' := [some (.inr (.inr (some 74))), some (.inr (.inr (some 29))), some (.inr (.inr (some 31))), some (.inr (.inr (some 39))), some (.inr (.inr (some 54)))]) (st' := [.inr (.inr (some 74))]) (h1 := sH140 L xs) rfl ?_
  refine Ru.step (pc' := 79) (ls' := [some (.inr (.inr (some 74))), some (.inr (.inr (some 29))), some (.inr (.inr (some 31))), some (.inr (.inr (some 39))), some (.inr (.inr (some 54)))]) (st' := [.inr (.inr (some 39)), .inr (.inr (some 74))]) (h1 := sH140 L xs) rfl ?_
  refine Ru.step (pc' := 82) (ls' := [some (.inr (.inr (some 74))), some (.inr (.inr (some 29))), some (.inr (.inr (some 31))), some (.inr (.inr (some 39))), some (.inr (.inr (some 54)))]) (st' := []) (h1 := sH141 L xs) rfl ?_
  refine Ru.step (pc' := 83) (ls' := [some (.inr (.inr (some 74))), some (.inr (.inr (some 29))), some (.inr (.inr (some 31))), some (.inr (.inr (some 39))), some (.inr (.inr (some 54)))]) (st' := [.inr (.inr (some 74))]) (h1 := sH141 L xs) rfl ?_
  refine Ru.step (pc' := 85) (ls' := [some (.inr (.inr (some 74))), some (.inr (.inr (some 29))), some (.inr (.inr (some 31))), some (.inr (.inr (some 39))), some (.inr (.inr (some 54)))]) (st' := [.inr (.inr (some 54)), .inr (.inr (some 74))]) (h1 := sH141 L xs) rfl ?_
  refine Ru.step (pc' := 88) (ls' := [some (.inr (.inr (some 74))), some (.inr (.inr (some 29))), some (.inr (.inr (some 31))), some (.inr (.inr (some 39))), some (.inr (.inr (some 54)))]) (st' := []) (h1 := sH142 L xs) rfl ?_
  exact Ru.done rfl
def sR77 : Nat → Nat → Option Nat := ax_u2 sR76 27 12 (some 74)
def sH143 (L : Nat) (xs : Nat → Int) : ax_H := (55, 198945, sK55 L, sS11 L xs, sR77, fun _ => 0)
def sK56 (L : Nat) : Nat → Nat × Nat := ax_u1 (sK55 L) 82 (108, 3)
def sH144 (L : Nat) (xs : Nat → Int) : ax_H := (56, 198948, sK56 L, sS11 L xs, sR77, fun _ => 0)
def sK57 (L : Nat) : Nat → Nat × Nat := ax_u1 (sK56 L) 83 (1, 16384)
def sH145 (L : Nat) (xs : Nat → Int) : ax_H := (57, 215332, sK57 L, sS11 L xs, sR77, fun _ => 0)
def sR78 : Nat → Nat → Option Nat := ax_u2 sR77 82 1 (some 83)
def sH146 (L : Nat) (xs : Nat → Int) : ax_H := (57, 215332, sK57 L, sS11 L xs, sR78, fun _ => 0)
def sR79 : Nat → Nat → Option Nat := ax_u2 sR78 82 0 (some 39)
def sH147 (L : Nat) (xs : Nat → Int) : ax_H := (57, 215332, sK57 L, sS11 L xs, sR79, fun _ => 0)
set_option maxRecDepth 20000 in
theorem st_c12 {L : Nat} {xs : Nat → Int} : Ev 1 127 [.inr (.inr (some 82)), .inr (.inr (some 39))] (sH144 L xs) (.inl none) (sH147 L xs) := by
  refine Ev.of (μ := tb_m127) (ls := [some (.inr (.inr (some 82))), some (.inr (.inr (some 39)))]) rfl (Nat.le_of_ble_eq_true rfl) rfl ?_
  refine Ru.step (pc' := 1) (ls' := [some (.inr (.inr (some 82))), some (.inr (.inr (some 39)))]) (st' := [.inr (.inr (some 82))]) (h1 := sH144 L xs) rfl ?_
  refine Ru.step (pc' := 4) (ls' := [some (.inr (.inr (some 82))), some (.inr (.inr (some 39)))]) (st' := []) (h1 := sH144 L xs) rfl ?_
  refine Ru.step (pc' := 5) (ls' := [some (.inr (.inr (some 82))), some (.inr (.inr (some 39)))]) (st' := [.inr (.inr (some 82))]) (h1 := sH144 L xs) rfl ?_
  refine Ru.step (pc' := 8) (ls' := [some (.inr (.inr (some 82))), some (.inr (.inr (some 39)))]) (st' := [.inl 16384, .inr (.inr (some 82))]) (h1 := sH144 L xs) rfl ?_
  refine Ru.step (pc' := 10) (ls' := [some (.inr (.inr (some 82))), some (.inr (.inr (some 39)))]) (st' := [.inr (.inr (some 83)), .inr (.inr (some 82))]) (h1 := sH145 L xs) rfl ?_
  refine Ru.step (pc' := 13) (ls' := [some (.inr (.inr (some 82))), some (.inr (.inr (some 39)))]) (st' := []) (h1 := sH146 L xs) rfl ?_
  refine Ru.step (pc' := 14) (ls' := [some (.inr (.inr (some 82))), some (.inr (.inr (some 39)))]) (st' := [.inr (.inr (some 82))]) (h1 := sH146 L xs) rfl ?_
  refine Ru.step (pc' := 15) (ls' := [some (.inr (.inr (some 82))), some (.inr (.inr (some 39)))]) (st' := [.inr (.inr (some 39)), .inr (.inr (some 82))]) (h1 := sH146 L xs) rfl ?_
  refine Ru.step (pc' := 18) (ls' := [some (.inr (.inr (some 82))), some (.inr (.inr (some 39)))]) (st' := []) (h1 := sH147 L xs) rfl ?_
  exact Ru.done rfl
def sR80 : Nat → Nat → Option Nat := ax_u2 sR79 27 13 (some 82)
def sH148 (L : Nat) (xs : Nat → Int) : ax_H := (57, 215332, sK57 L, sS11 L xs, sR80, fun _ => 0)
set_option maxRecDepth 20000 in
theorem st_c13 {L : Nat} {xs : Nat → Int} : Ev 3 0 [.inr (.inr (some 27))] (sH1 L xs) (.inl none) (sH148 L xs) := by
  refine Ev.of (μ := tb_m0) (ls := [some (.inr (.inr (some 27)))]) rfl (Nat.le_of_ble_eq_true rfl) rfl ?_
  refine Ru.step (pc' := 1) (ls' := [some (.inr (.inr (some 27)))]) (st' := [.inr (.inr (some 27))]) (h1 := sH1 L xs) rfl ?_
  refine Ru.step (pc' := 4) (ls' := [some (.inr (.inr (some 27)))]) (st' := []) (h1 := sH1 L xs) rfl ?_
  refine Ru.step (pc' := 5) (ls' := [some (.inr (.inr (some 27)))]) (st' := [.inr (.inr (some 27))]) (h1 := sH1 L xs) rfl ?_
  refine Ru.step (pc' := 8) (ls' := [some (.inr (.inr (some 27)))]) (st' := [.inl 8192, .inr (.inr (some 27))]) (h1 := sH1 L xs) rfl ?_
  refine Ru.step (pc' := 10) (ls' := [some (.inr (.inr (some 27)))]) (st' := [.inr (.inr (some 28)), .inr (.inr (some 27))]) (h1 := sH2 L xs) rfl ?_
  refine Ru.step (pc' := 13) (ls' := [some (.inr (.inr (some 27)))]) (st' := []) (h1 := sH3 L xs) rfl ?_
  refine Ru.step (pc' := 14) (ls' := [some (.inr (.inr (some 27)))]) (st' := [.inr (.inr (some 27))]) (h1 := sH3 L xs) rfl ?_
  refine Ru.step (pc' := 17) (ls' := [some (.inr (.inr (some 27)))]) (st' := [.inr (.inr (some 29)), .inr (.inr (some 27))]) (h1 := sH4 L xs) rfl ?_
  refine Ru.step (pc' := 18) (ls' := [some (.inr (.inr (some 27)))]) (st' := [.inr (.inr (some 29)), .inr (.inr (some 29)), .inr (.inr (some 27))]) (h1 := sH4 L xs) rfl ?_
  refine Ru.call (h1 := sH17 L xs) rfl (st_c2.up (by decide)) ?_
  refine Ru.step (pc' := 24) (ls' := [some (.inr (.inr (some 27)))]) (st' := []) (h1 := sH18 L xs) rfl ?_
  refine Ru.step (pc' := 25) (ls' := [some (.inr (.inr (some 27)))]) (st' := [.inr (.inr (some 27))]) (h1 := sH18 L xs) rfl ?_
  refine Ru.step (pc' := 28) (ls' := [some (.inr (.inr (some 27)))]) (st' := [.inr (.inr (some 31)), .inr (.inr (some 27))]) (h1 := sH19 L xs) rfl ?_
  refine Ru.step (pc' := 29) (ls' := [some (.inr (.inr (some 27)))]) (st' := [.inr (.inr (some 31)), .inr (.inr (some 31)), .inr (.inr (some 27))]) (h1 := sH19 L xs) rfl ?_
  refine Ru.call (h1 := sH33 L xs) rfl (st_c3.up (by decide)) ?_
  refine Ru.step (pc' := 35) (ls' := [some (.inr (.inr (some 27)))]) (st' := []) (h1 := sH34 L xs) rfl ?_
  refine Ru.step (pc' := 36) (ls' := [some (.inr (.inr (some 27)))]) (st' := [.inr (.inr (some 27))]) (h1 := sH34 L xs) rfl ?_
  refine Ru.step (pc' := 39) (ls' := [some (.inr (.inr (some 27)))]) (st' := [.inr (.inr (some 39)), .inr (.inr (some 27))]) (h1 := sH35 L xs) rfl ?_
  refine Ru.step (pc' := 40) (ls' := [some (.inr (.inr (some 27)))]) (st' := [.inr (.inr (some 39)), .inr (.inr (some 39)), .inr (.inr (some 27))]) (h1 := sH35 L xs) rfl ?_
  refine Ru.step (pc' := 41) (ls' := [some (.inr (.inr (some 27)))]) (st' := [.inr (.inr (some 27)), .inr (.inr (some 39)), .inr (.inr (some 39)), .inr (.inr (some 27))]) (h1 := sH35 L xs) rfl ?_
  refine Ru.step (pc' := 44) (ls' := [some (.inr (.inr (some 27)))]) (st' := [.inr (.inr (some 29)), .inr (.inr (some 39)), .inr (.inr (some 39)), .inr (.inr (some 27))]) (h1 := sH35 L xs) rfl ?_
  refine Ru.step (pc' := 45) (ls' := [some (.inr (.inr (some 27)))]) (st' := [.inr (.inr (some 27)), .inr (.inr (some 29)), .inr (.inr (some 39)), .inr (.inr (some 39)), .inr (.inr (some 27))]) (h1 := sH35 L xs) rfl ?_
  refine Ru.step (pc' := 48) (ls' := [some (.inr (.inr (some 27)))]) (st' := [.inr (.inr (some 31)), .inr (.inr (some 29)), .inr (.inr (some 39)), .inr (.inr (some 39)), .inr (.inr (some 27))]) (h1 := sH35 L xs) rfl ?_
  refine Ru.call (h1 := sH49 L xs) rfl (st_c4.up (by decide)) ?_
  refine Ru.step (pc' := 54) (ls' := [some (.inr (.inr (some 27)))]) (st' := []) (h1 := sH50 L xs) rfl ?_
  refine Ru.step (pc' := 55) (ls' := [some (.inr (.inr (some 27)))]) (st' := [.inr (.inr (some 27))]) (h1 := sH50 L xs) rfl ?_
  refine Ru.step (pc' := 58) (ls' := [some (.inr (.inr (some 27)))]) (st' := [.inr (.inr (some 46)), .inr (.inr (some 27))]) (h1 := sH51 L xs) rfl ?_
  refine Ru.step (pc' := 59) (ls' := [some (.inr (.inr (some 27)))]) (st' := [.inr (.inr (some 46)), .inr (.inr (some 46)), .inr (.inr (some 27))]) (h1 := sH51 L xs) rfl ?_
  refine Ru.call (h1 := sH65 L xs) rfl (st_c5.up (by decide)) ?_
  refine Ru.step (pc' := 65) (ls' := [some (.inr (.inr (some 27)))]) (st' := []) (h1 := sH66 L xs) rfl ?_
  refine Ru.step (pc' := 66) (ls' := [some (.inr (.inr (some 27)))]) (st' := [.inr (.inr (some 27))]) (h1 := sH66 L xs) rfl ?_
  refine Ru.step (pc' := 69) (ls' := [some (.inr (.inr (some 27)))]) (st' := [.inr (.inr (some 54)), .inr (.inr (some 27))]) (h1 := sH67 L xs) rfl ?_
  refine Ru.step (pc' := 70) (ls' := [some (.inr (.inr (some 27)))]) (st' := [.inr (.inr (some 54)), .inr (.inr (some 54)), .inr (.inr (some 27))]) (h1 := sH67 L xs) rfl ?_
  refine Ru.call (h1 := sH79 L xs) rfl (st_c6.up (by decide)) ?_
  refine Ru.step (pc' := 76) (ls' := [some (.inr (.inr (some 27)))]) (st' := []) (h1 := sH80 L xs) rfl ?_
  refine Ru.step (pc' := 77) (ls' := [some (.inr (.inr (some 27)))]) (st' := [.inr (.inr (some 27))]) (h1 := sH80 L xs) rfl ?_
  refine Ru.step (pc' := 80) (ls' := [some (.inr (.inr (some 27)))]) (st' := [.inr (.inr (some 61)), .inr (.inr (some 27))]) (h1 := sH81 L xs) rfl ?_
  refine Ru.step (pc' := 81) (ls' := [some (.inr (.inr (some 27)))]) (st' := [.inr (.inr (some 61)), .inr (.inr (some 61)), .inr (.inr (some 27))]) (h1 := sH81 L xs) rfl ?_
  refine Ru.call (h1 := sH89 L xs) rfl (st_c7.up (by decide)) ?_
  refine Ru.step (pc' := 87) (ls' := [some (.inr (.inr (some 27)))]) (st' := []) (h1 := sH90 L xs) rfl ?_
  refine Ru.step (pc' := 88) (ls' := [some (.inr (.inr (some 27)))]) (st' := [.inr (.inr (some 27))]) (h1 := sH90 L xs) rfl ?_
  refine Ru.step (pc' := 91) (ls' := [some (.inr (.inr (some 27)))]) (st' := [.inr (.inr (some 66)), .inr (.inr (some 27))]) (h1 := sH91 L xs) rfl ?_
  refine Ru.step (pc' := 92) (ls' := [some (.inr (.inr (some 27)))]) (st' := [.inr (.inr (some 66)), .inr (.inr (some 66)), .inr (.inr (some 27))]) (h1 := sH91 L xs) rfl ?_
  refine Ru.step (pc' := 93) (ls' := [some (.inr (.inr (some 27)))]) (st' := [.inr (.inr (some 27)), .inr (.inr (some 66)), .inr (.inr (some 66)), .inr (.inr (some 27))]) (h1 := sH91 L xs) rfl ?_
  refine Ru.step (pc' := 96) (ls' := [some (.inr (.inr (some 27)))]) (st' := [.inr (.inr (some 29)), .inr (.inr (some 66)), .inr (.inr (some 66)), .inr (.inr (some 27))]) (h1 := sH91 L xs) rfl ?_
  refine Ru.step (pc' := 97) (ls' := [some (.inr (.inr (some 27)))]) (st' := [.inr (.inr (some 27)), .inr (.inr (some 29)), .inr (.inr (some 66)), .inr (.inr (some 66)), .inr (.inr (some 27))]) (h1 := sH91 L xs) rfl ?_
  refine Ru.step (pc' := 100) (ls' := [some (.inr (.inr (some 27)))]) (st' := [.inr (.inr (some 31)), .inr (.inr (some 29)), .inr (.inr (some 66)), .inr (.inr (some 66)), .inr (.inr (some 27))]) (h1 := sH91 L xs) rfl ?_
  refine Ru.step (pc' := 101) (ls' := [some (.inr (.inr (some 27)))]) (st' := [.inr (.inr (some 27)), .inr (.inr (some 31)), .inr (.inr (some 29)), .inr (.inr (some 66)), .inr (.inr (some 66)), .inr (.inr (some 27))]) (h1 := sH91 L xs) rfl ?_
  refine Ru.step (pc' := 104) (ls' := [some (.inr (.inr (some 27)))]) (st' := [.inr (.inr (some 39)), .inr (.inr (some 31)), .inr (.inr (some 29)), .inr (.inr (some 66)), .inr (.inr (some 66)), .inr (.inr (some 27))]) (h1 := sH91 L xs) rfl ?_
  refine Ru.step (pc' := 105) (ls' := [some (.inr (.inr (some 27)))]) (st' := [.inr (.inr (some 27)), .inr (.inr (some 39)), .inr (.inr (some 31)), .inr (.inr (some 29)), .inr (.inr (some 66)), .inr (.inr (some 66)), .inr (.inr (some 27))]) (h1 := sH91 L xs) rfl ?_
  refine Ru.step (pc' := 108) (ls' := [some (.inr (.inr (some 27)))]) (st' := [.inr (.inr (some 46)), .inr (.inr (some 39)), .inr (.inr (some 31)), .inr (.inr (some 29)), .inr (.inr (some 66)), .inr (.inr (some 66)), .inr (.inr (some 27))]) (h1 := sH91 L xs) rfl ?_
  refine Ru.call (h1 := sH101 L xs) rfl (st_c8.up (by decide)) ?_
  refine Ru.step (pc' := 114) (ls' := [some (.inr (.inr (some 27)))]) (st' := []) (h1 := sH102 L xs) rfl ?_
  refine Ru.step (pc' := 115) (ls' := [some (.inr (.inr (some 27)))]) (st' := [.inr (.inr (some 27))]) (h1 := sH102 L xs) rfl ?_
  refine Ru.step (pc' := 118) (ls' := [some (.inr (.inr (some 27)))]) (st' := [.inr (.inr (some 70)), .inr (.inr (some 27))]) (h1 := sH103 L xs) rfl ?_
  refine Ru.step (pc' := 119) (ls' := [some (.inr (.inr (some 27)))]) (st' := [.inr (.inr (some 70)), .inr (.inr (some 70)), .inr (.inr (some 27))]) (h1 := sH103 L xs) rfl ?_
  refine Ru.step (pc' := 120) (ls' := [some (.inr (.inr (some 27)))]) (st' := [.inr (.inr (some 27)), .inr (.inr (some 70)), .inr (.inr (some 70)), .inr (.inr (some 27))]) (h1 := sH103 L xs) rfl ?_
  refine Ru.step (pc' := 123) (ls' := [some (.inr (.inr (some 27)))]) (st' := [.inr (.inr (some 29)), .inr (.inr (some 70)), .inr (.inr (some 70)), .inr (.inr (some 27))]) (h1 := sH103 L xs) rfl ?_
  refine Ru.step (pc' := 124) (ls' := [some (.inr (.inr (some 27)))]) (st' := [.inr (.inr (some 27)), .inr (.inr (some 29)), .inr (.inr (some 70)), .inr (.inr (some 70)), .inr (.inr (some 27))]) (h1 := sH103 L xs) rfl ?_
  refine Ru.step (pc' := 127) (ls' := [some (.inr (.inr (some 27)))]) (st' := [.inr (.inr (some 31)), .inr (.inr (some 29)), .inr (.inr (some 70)), .inr (.inr (some 70)), .inr (.inr (some 27))]) (h1 := sH103 L xs) rfl ?_
  refine Ru.step (pc' := 128) (ls' := [some (.inr (.inr (some 27)))]) (st' := [.inr (.inr (some 27)), .inr (.inr (some 31)), .inr (.inr (some 29)), .inr (.inr (some 70)), .inr (.inr (some 70)), .inr (.inr (some 27))]) (h1 := sH103 L xs) rfl ?_
  refine Ru.step (pc' := 131) (ls' := [some (.inr (.inr (some 27)))]) (st' := [.inr (.inr (some 39)), .inr (.inr (some 31)), .inr (.inr (some 29)), .inr (.inr (some 70)), .inr (.inr (some 70)), .inr (.inr (some 27))]) (h1 := sH103 L xs) rfl ?_
  refine Ru.step (pc' := 132) (ls' := [some (.inr (.inr (some 27)))]) (st' := [.inr (.inr (some 27)), .inr (.inr (some 39)), .inr (.inr (some 31)), .inr (.inr (some 29)), .inr (.inr (some 70)), .inr (.inr (some 70)), .inr (.inr (some 27))]) (h1 := sH103 L xs) rfl ?_
  refine Ru.step (pc' := 135) (ls' := [some (.inr (.inr (some 27)))]) (st' := [.inr (.inr (some 46)), .inr (.inr (some 39)), .inr (.inr (some 31)), .inr (.inr (some 29)), .inr (.inr (some 70)), .inr (.inr (some 70)), .inr (.inr (some 27))]) (h1 := sH103 L xs) rfl ?_
  refine Ru.step (pc' := 136) (ls' := [some (.inr (.inr (some 27)))]) (st' := [.inr (.inr (some 27)), .inr (.inr (some 46)), .inr (.inr (some 39)), .inr (.inr (some 31)), .inr (.inr (some 29)), .inr (.inr (some 70)), .inr (.inr (some 70)), .inr (.inr (some 27))]) (h1 := sH103 L xs) rfl ?_
  refine Ru.step (pc' := 139) (ls' := [some (.inr (.inr (some 27)))]) (st' := [.inr (.inr (some 54)), .inr (.inr (some 46)), .inr (.inr (some 39)), .inr (.inr (some 31)), .inr (.inr (some 29)), .inr (.inr (some 70)), .inr (.inr (some 70)), .inr (.inr (some 27))]) (h1 := sH103 L xs) rfl ?_
  refine Ru.step (pc' := 140) (ls' := [some (.inr (.inr (some 27)))]) (st' := [.inr (.inr (some 27)), .inr (.inr (some 54)), .inr (.inr (some 46)), .inr (.inr (some 39)), .inr (.inr (some 31)), .inr (.inr (some 29)), .inr (.inr (some 70)), .inr (.inr (some 70)), .inr (.inr (some 27))]) (h1 := sH103 L xs) rfl ?_
  refine Ru.step (pc' := 143) (ls' := [some (.inr (.inr (some 27)))]) (st' := [.inr (.inr (some 61)), .inr (.inr (some 54)), .inr (.inr (some 46)), .inr (.inr (some 39)), .inr (.inr (some 31)), .inr (.inr (some 29)), .inr (.inr (some 70)), .inr (.inr (some 70)), .inr (.inr (some 27))]) (h1 := sH103 L xs) rfl ?_
  refine Ru.step (pc' := 144) (ls' := [some (.inr (.inr (some 27)))]) (st' := [.inr (.inr (some 27)), .inr (.inr (some 61)), .inr (.inr (some 54)), .inr (.inr (some 46)), .inr (.inr (some 39)), .inr (.inr (some 31)), .inr (.inr (some 29)), .inr (.inr (some 70)), .inr (.inr (some 70)), .inr (.inr (some 27))]) (h1 := sH103 L xs) rfl ?_
  refine Ru.step (pc' := 147) (ls' := [some (.inr (.inr (some 27)))]) (st' := [.inr (.inr (some 66)), .inr (.inr (some 61)), .inr (.inr (some 54)), .inr (.inr (some 46)), .inr (.inr (some 39)), .inr (.inr (some 31)), .inr (.inr (some 29)), .inr (.inr (some 70)), .inr (.inr (some 70)), .inr (.inr (some 27))]) (h1 := sH103 L xs) rfl ?_
  refine Ru.call (h1 := sH114 L xs) rfl (st_c9.up (by decide)) ?_
  refine Ru.step (pc' := 153) (ls' := [some (.inr (.inr (some 27)))]) (st' := []) (h1 := sH115 L xs) rfl ?_
  refine Ru.step (pc' := 154) (ls' := [some (.inr (.inr (some 27)))]) (st' := [.inr (.inr (some 27))]) (h1 := sH115 L xs) rfl ?_
  refine Ru.step (pc' := 157) (ls' := [some (.inr (.inr (some 27)))]) (st' := [.inr (.inr (some 73)), .inr (.inr (some 27))]) (h1 := sH116 L xs) rfl ?_
  refine Ru.step (pc' := 158) (ls' := [some (.inr (.inr (some 27)))]) (st' := [.inr (.inr (some 73)), .inr (.inr (some 73)), .inr (.inr (some 27))]) (h1 := sH116 L xs) rfl ?_
  refine Ru.step (pc' := 159) (ls' := [some (.inr (.inr (some 27)))]) (st' := [.inr (.inr (some 27)), .inr (.inr (some 73)), .inr (.inr (some 73)), .inr (.inr (some 27))]) (h1 := sH116 L xs) rfl ?_
  refine Ru.step (pc' := 162) (ls' := [some (.inr (.inr (some 27)))]) (st' := [.inr (.inr (some 29)), .inr (.inr (some 73)), .inr (.inr (some 73)), .inr (.inr (some 27))]) (h1 := sH116 L xs) rfl ?_
  refine Ru.step (pc' := 163) (ls' := [some (.inr (.inr (some 27)))]) (st' := [.inr (.inr (some 27)), .inr (.inr (some 29)), .inr (.inr (some 73)), .inr (.inr (some 73)), .inr (.inr (some 27))]) (h1 := sH116 L xs) rfl ?_
  refine Ru.step (pc' := 166) (ls' := [some (.inr (.inr (some 27)))]) (st' := [.inr (.inr (some 31)), .inr (.inr (some 29)), .inr (.inr (some 73)), .inr (.inr (some 73)), .inr (.inr (some 27))]) (h1 := sH116 L xs) rfl ?_
  refine Ru.step (pc' := 167) (ls' := [some (.inr (.inr (some 27)))]) (st' := [.inr (.inr (some 27)), .inr (.inr (some 31)), .inr (.inr (some 29)), .inr (.inr (some 73)), .inr (.inr (some 73)), .inr (.inr (some 27))]) (h1 := sH116 L xs) rfl ?_
  refine Ru.step (pc' := 170) (ls' := [some (.inr (.inr (some 27)))]) (st' := [.inr (.inr (some 39)), .inr (.inr (some 31)), .inr (.inr (some 29)), .inr (.inr (some 73)), .inr (.inr (some 73)), .inr (.inr (some 27))]) (h1 := sH116 L xs) rfl ?_
  refine Ru.step (pc' := 171) (ls' := [some (.inr (.inr (some 27)))]) (st' := [.inr (.inr (some 27)), .inr (.inr (some 39)), .inr (.inr (some 31)), .inr (.inr (some 29)), .inr (.inr (some 73)), .inr (.inr (some 73)), .inr (.inr (some 27))]) (h1 := sH116 L xs) rfl ?_
  refine Ru.step (pc' := 174) (ls' := [some (.inr (.inr (some 27)))]) (st' := [.inr (.inr (some 46)), .inr (.inr (some 39)), .inr (.inr (some 31)), .inr (.inr (some 29)), .inr (.inr (some 73)), .inr (.inr (some 73)), .inr (.inr (some 27))]) (h1 := sH116 L xs) rfl ?_
  refine Ru.step (pc' := 175) (ls' := [some (.inr (.inr (some 27)))]) (st' := [.inr (.inr (some 27)), .inr (.inr (some 46)), .inr (.inr (some 39)), .inr (.inr (some 31)), .inr (.inr (some 29)), .inr (.inr (some 73)), .inr (.inr (some 73)), .inr (.inr (some 27))]) (h1 := sH116 L xs) rfl ?_
  refine Ru.step (pc' := 178) (ls' := [some (.inr (.inr (some 27)))]) (st' := [.inr (.inr (some 54)), .inr (.inr (some 46)), .inr (.inr (some 39)), .inr (.inr (some 31)), .inr (.inr (some 29)), .inr (.inr (some 73)), .inr (.inr (some 73)), .inr (.inr (some 27))]) (h1 := sH116 L xs) rfl ?_
  refine Ru.step (pc' := 179) (ls' := [some (.inr (.inr (some 27)))]) (st' := [.inr (.inr (some 27)), .inr (.inr (some 54)), .inr (.inr (some 46)), .inr (.inr (some 39)), .inr (.inr (some 31)), .inr (.inr (some 29)), .inr (.inr (some 73)), .inr (.inr (some 73)), .inr (.inr (some 27))]) (h1 := sH116 L xs) rfl ?_
  refine Ru.step (pc' := 182) (ls' := [some (.inr (.inr (some 27)))]) (st' := [.inr (.inr (some 61)), .inr (.inr (some 54)), .inr (.inr (some 46)), .inr (.inr (some 39)), .inr (.inr (some 31)), .inr (.inr (some 29)), .inr (.inr (some 73)), .inr (.inr (some 73)), .inr (.inr (some 27))]) (h1 := sH116 L xs) rfl ?_
  refine Ru.call (h1 := sH122 L xs) rfl (st_c10.up (by decide)) ?_
  refine Ru.step (pc' := 188) (ls' := [some (.inr (.inr (some 27)))]) (st' := []) (h1 := sH123 L xs) rfl ?_
  refine Ru.step (pc' := 189) (ls' := [some (.inr (.inr (some 27)))]) (st' := [.inr (.inr (some 27))]) (h1 := sH123 L xs) rfl ?_
  refine Ru.step (pc' := 192) (ls' := [some (.inr (.inr (some 27)))]) (st' := [.inr (.inr (some 74)), .inr (.inr (some 27))]) (h1 := sH124 L xs) rfl ?_
  refine Ru.step (pc' := 193) (ls' := [some (.inr (.inr (some 27)))]) (st' := [.inr (.inr (some 74)), .inr (.inr (some 74)), .inr (.inr (some 27))]) (h1 := sH124 L xs) rfl ?_
  refine Ru.step (pc' := 194) (ls' := [some (.inr (.inr (some 27)))]) (st' := [.inr (.inr (some 27)), .inr (.inr (some 74)), .inr (.inr (some 74)), .inr (.inr (some 27))]) (h1 := sH124 L xs) rfl ?_
  refine Ru.step (pc' := 197) (ls' := [some (.inr (.inr (some 27)))]) (st' := [.inr (.inr (some 29)), .inr (.inr (some 74)), .inr (.inr (some 74)), .inr (.inr (some 27))]) (h1 := sH124 L xs) rfl ?_
  refine Ru.step (pc' := 198) (ls' := [some (.inr (.inr (some 27)))]) (st' := [.inr (.inr (some 27)), .inr (.inr (some 29)), .inr (.inr (some 74)), .inr (.inr (some 74)), .inr (.inr (some 27))]) (h1 := sH124 L xs) rfl ?_
  refine Ru.step (pc' := 201) (ls' := [some (.inr (.inr (some 27)))]) (st' := [.inr (.inr (some 31)), .inr (.inr (some 29)), .inr (.inr (some 74)), .inr (.inr (some 74)), .inr (.inr (some 27))]) (h1 := sH124 L xs) rfl ?_
  refine Ru.step (pc' := 202) (ls' := [some (.inr (.inr (some 27)))]) (st' := [.inr (.inr (some 27)), .inr (.inr (some 31)), .inr (.inr (some 29)), .inr (.inr (some 74)), .inr (.inr (some 74)), .inr (.inr (some 27))]) (h1 := sH124 L xs) rfl ?_
  refine Ru.step (pc' := 205) (ls' := [some (.inr (.inr (some 27)))]) (st' := [.inr (.inr (some 39)), .inr (.inr (some 31)), .inr (.inr (some 29)), .inr (.inr (some 74)), .inr (.inr (some 74)), .inr (.inr (some 27))]) (h1 := sH124 L xs) rfl ?_
  refine Ru.step (pc' := 206) (ls' := [some (.inr (.inr (some 27)))]) (st' := [.inr (.inr (some 27)), .inr (.inr (some 39)), .inr (.inr (some 31)), .inr (.inr (some 29)), .inr (.inr (some 74)), .inr (.inr (some 74)), .inr (.inr (some 27))]) (h1 := sH124 L xs) rfl ?_
  refine Ru.step (pc' := 209) (ls' := [some (.inr (.inr (some 27)))]) (st' := [.inr (.inr (some 54)), .inr (.inr (some 39)), .inr (.inr (some 31)), .inr (.inr (some 29)), .inr (.inr (some 74)), .inr (.inr (some 74)), .inr (.inr (some 27))]) (h1 := sH124 L xs) rfl ?_
  refine Ru.call (h1 := sH142 L xs) rfl (st_c11.up (by decide)) ?_
  refine Ru.step (pc' := 215) (ls' := [some (.inr (.inr (some 27)))]) (st' := []) (h1 := sH143 L xs) rfl ?_
  refine Ru.step (pc' := 216) (ls' := [some (.inr (.inr (some 27)))]) (st' := [.inr (.inr (some 27))]) (h1 := sH143 L xs) rfl ?_
  refine Ru.step (pc' := 219) (ls' := [some (.inr (.inr (some 27)))]) (st' := [.inr (.inr (some 82)), .inr (.inr (some 27))]) (h1 := sH144 L xs) rfl ?_
  refine Ru.step (pc' := 220) (ls' := [some (.inr (.inr (some 27)))]) (st' := [.inr (.inr (some 82)), .inr (.inr (some 82)), .inr (.inr (some 27))]) (h1 := sH144 L xs) rfl ?_
  refine Ru.step (pc' := 221) (ls' := [some (.inr (.inr (some 27)))]) (st' := [.inr (.inr (some 27)), .inr (.inr (some 82)), .inr (.inr (some 82)), .inr (.inr (some 27))]) (h1 := sH144 L xs) rfl ?_
  refine Ru.step (pc' := 224) (ls' := [some (.inr (.inr (some 27)))]) (st' := [.inr (.inr (some 39)), .inr (.inr (some 82)), .inr (.inr (some 82)), .inr (.inr (some 27))]) (h1 := sH144 L xs) rfl ?_
  refine Ru.call (h1 := sH147 L xs) rfl (st_c12.up (by decide)) ?_
  refine Ru.step (pc' := 230) (ls' := [some (.inr (.inr (some 27)))]) (st' := []) (h1 := sH148 L xs) rfl ?_
  exact Ru.done rfl
def sK58 (L : Nat) : Nat → Nat × Nat := ax_u1 (sK57 L) 84 (112, 75)
def sH149 (L : Nat) (xs : Nat → Int) : ax_H := (58, 215407, sK58 L, sS11 L xs, sR80, fun _ => 0)
def sK59 (L : Nat) : Nat → Nat × Nat := ax_u1 (sK58 L) 85 (0, 8192)
def sH150 (L : Nat) (xs : Nat → Int) : ax_H := (59, 223599, sK59 L, sS11 L xs, sR80, fun _ => 0)
def sR81 : Nat → Nat → Option Nat := ax_u2 sR80 84 2 (some 85)
def sH151 (L : Nat) (xs : Nat → Int) : ax_H := (59, 223599, sK59 L, sS11 L xs, sR81, fun _ => 0)
def sK60 (L : Nat) : Nat → Nat × Nat := ax_u1 (sK59 L) 86 (0, 8192)
def sH152 (L : Nat) (xs : Nat → Int) : ax_H := (60, 231791, sK60 L, sS11 L xs, sR81, fun _ => 0)
def sR82 : Nat → Nat → Option Nat := ax_u2 sR81 84 4 (some 86)
def sH153 (L : Nat) (xs : Nat → Int) : ax_H := (60, 231791, sK60 L, sS11 L xs, sR82, fun _ => 0)
def sK61 (L : Nat) : Nat → Nat × Nat := ax_u1 (sK60 L) 87 (0, 25000)
def sH154 (L : Nat) (xs : Nat → Int) : ax_H := (61, 256791, sK61 L, sS11 L xs, sR82, fun _ => 0)
def sR83 : Nat → Nat → Option Nat := ax_u2 sR82 84 10 (some 87)
def sH155 (L : Nat) (xs : Nat → Int) : ax_H := (61, 256791, sK61 L, sS11 L xs, sR83, fun _ => 0)
def sK62 (L : Nat) : Nat → Nat × Nat := ax_u1 (sK61 L) 88 (0, 8200)
def sH156 (L : Nat) (xs : Nat → Int) : ax_H := (62, 264991, sK62 L, sS11 L xs, sR83, fun _ => 0)
def sR84 : Nat → Nat → Option Nat := ax_u2 sR83 84 12 (some 88)
def sH157 (L : Nat) (xs : Nat → Int) : ax_H := (62, 264991, sK62 L, sS11 L xs, sR84, fun _ => 0)
def sK63 (L : Nat) : Nat → Nat × Nat := ax_u1 (sK62 L) 89 (0, 8200)
def sH158 (L : Nat) (xs : Nat → Int) : ax_H := (63, 273191, sK63 L, sS11 L xs, sR84, fun _ => 0)
def sR85 : Nat → Nat → Option Nat := ax_u2 sR84 84 13 (some 89)
def sH159 (L : Nat) (xs : Nat → Int) : ax_H := (63, 273191, sK63 L, sS11 L xs, sR85, fun _ => 0)
def sK64 (L : Nat) : Nat → Nat × Nat := ax_u1 (sK63 L) 90 (0, 8200)
def sH160 (L : Nat) (xs : Nat → Int) : ax_H := (64, 281391, sK64 L, sS11 L xs, sR85, fun _ => 0)
def sR86 : Nat → Nat → Option Nat := ax_u2 sR85 84 14 (some 90)
def sH161 (L : Nat) (xs : Nat → Int) : ax_H := (64, 281391, sK64 L, sS11 L xs, sR86, fun _ => 0)
def sK65 (L : Nat) : Nat → Nat × Nat := ax_u1 (sK64 L) 91 (3, 8200)
def sH162 (L : Nat) (xs : Nat → Int) : ax_H := (65, 289591, sK65 L, sS11 L xs, sR86, fun _ => 0)
def sR87 : Nat → Nat → Option Nat := ax_u2 sR86 84 15 (some 91)
def sH163 (L : Nat) (xs : Nat → Int) : ax_H := (65, 289591, sK65 L, sS11 L xs, sR87, fun _ => 0)
def sK66 (L : Nat) : Nat → Nat × Nat := ax_u1 (sK65 L) 92 (3, 8200)
def sH164 (L : Nat) (xs : Nat → Int) : ax_H := (66, 297791, sK66 L, sS11 L xs, sR87, fun _ => 0)
def sR88 : Nat → Nat → Option Nat := ax_u2 sR87 84 16 (some 92)
def sH165 (L : Nat) (xs : Nat → Int) : ax_H := (66, 297791, sK66 L, sS11 L xs, sR88, fun _ => 0)
def sK67 (L : Nat) : Nat → Nat × Nat := ax_u1 (sK66 L) 93 (3, 8200)
def sH166 (L : Nat) (xs : Nat → Int) : ax_H := (67, 305991, sK67 L, sS11 L xs, sR88, fun _ => 0)
def sR89 : Nat → Nat → Option Nat := ax_u2 sR88 84 17 (some 93)
def sH167 (L : Nat) (xs : Nat → Int) : ax_H := (67, 305991, sK67 L, sS11 L xs, sR89, fun _ => 0)
def sK68 (L : Nat) : Nat → Nat × Nat := ax_u1 (sK67 L) 94 (0, 4100)
def sH168 (L : Nat) (xs : Nat → Int) : ax_H := (68, 310091, sK68 L, sS11 L xs, sR89, fun _ => 0)
def sR90 : Nat → Nat → Option Nat := ax_u2 sR89 84 20 (some 94)
def sH169 (L : Nat) (xs : Nat → Int) : ax_H := (68, 310091, sK68 L, sS11 L xs, sR90, fun _ => 0)
def sK69 (L : Nat) : Nat → Nat × Nat := ax_u1 (sK68 L) 95 (0, 4100)
def sH170 (L : Nat) (xs : Nat → Int) : ax_H := (69, 314191, sK69 L, sS11 L xs, sR90, fun _ => 0)
def sR91 : Nat → Nat → Option Nat := ax_u2 sR90 84 21 (some 95)
def sH171 (L : Nat) (xs : Nat → Int) : ax_H := (69, 314191, sK69 L, sS11 L xs, sR91, fun _ => 0)
def sK70 (L : Nat) : Nat → Nat × Nat := ax_u1 (sK69 L) 96 (0, 4100)
def sH172 (L : Nat) (xs : Nat → Int) : ax_H := (70, 318291, sK70 L, sS11 L xs, sR91, fun _ => 0)
def sR92 : Nat → Nat → Option Nat := ax_u2 sR91 84 22 (some 96)
def sH173 (L : Nat) (xs : Nat → Int) : ax_H := (70, 318291, sK70 L, sS11 L xs, sR92, fun _ => 0)
def sK71 (L : Nat) : Nat → Nat × Nat := ax_u1 (sK70 L) 97 (0, 4100)
def sH174 (L : Nat) (xs : Nat → Int) : ax_H := (71, 322391, sK71 L, sS11 L xs, sR92, fun _ => 0)
def sR93 : Nat → Nat → Option Nat := ax_u2 sR92 84 23 (some 97)
def sH175 (L : Nat) (xs : Nat → Int) : ax_H := (71, 322391, sK71 L, sS11 L xs, sR93, fun _ => 0)
def sK72 (L : Nat) : Nat → Nat × Nat := ax_u1 (sK71 L) 98 (0, 4100)
def sH176 (L : Nat) (xs : Nat → Int) : ax_H := (72, 326491, sK72 L, sS11 L xs, sR93, fun _ => 0)
def sR94 : Nat → Nat → Option Nat := ax_u2 sR93 84 24 (some 98)
def sH177 (L : Nat) (xs : Nat → Int) : ax_H := (72, 326491, sK72 L, sS11 L xs, sR94, fun _ => 0)
def sK73 (L : Nat) : Nat → Nat × Nat := ax_u1 (sK72 L) 99 (0, 4100)
def sH178 (L : Nat) (xs : Nat → Int) : ax_H := (73, 330591, sK73 L, sS11 L xs, sR94, fun _ => 0)
def sR95 : Nat → Nat → Option Nat := ax_u2 sR94 84 25 (some 99)
def sH179 (L : Nat) (xs : Nat → Int) : ax_H := (73, 330591, sK73 L, sS11 L xs, sR95, fun _ => 0)
def sK74 (L : Nat) : Nat → Nat × Nat := ax_u1 (sK73 L) 100 (0, 4100)
def sH180 (L : Nat) (xs : Nat → Int) : ax_H := (74, 334691, sK74 L, sS11 L xs, sR95, fun _ => 0)
def sR96 : Nat → Nat → Option Nat := ax_u2 sR95 84 26 (some 100)
def sH181 (L : Nat) (xs : Nat → Int) : ax_H := (74, 334691, sK74 L, sS11 L xs, sR96, fun _ => 0)
def sK75 (L : Nat) : Nat → Nat × Nat := ax_u1 (sK74 L) 101 (0, 4100)
def sH182 (L : Nat) (xs : Nat → Int) : ax_H := (75, 338791, sK75 L, sS11 L xs, sR96, fun _ => 0)
def sR97 : Nat → Nat → Option Nat := ax_u2 sR96 84 27 (some 101)
def sH183 (L : Nat) (xs : Nat → Int) : ax_H := (75, 338791, sK75 L, sS11 L xs, sR97, fun _ => 0)
def sK76 (L : Nat) : Nat → Nat × Nat := ax_u1 (sK75 L) 102 (0, 4100)
def sH184 (L : Nat) (xs : Nat → Int) : ax_H := (76, 342891, sK76 L, sS11 L xs, sR97, fun _ => 0)
def sR98 : Nat → Nat → Option Nat := ax_u2 sR97 84 28 (some 102)
def sH185 (L : Nat) (xs : Nat → Int) : ax_H := (76, 342891, sK76 L, sS11 L xs, sR98, fun _ => 0)
def sK77 (L : Nat) : Nat → Nat × Nat := ax_u1 (sK76 L) 103 (0, 4100)
def sH186 (L : Nat) (xs : Nat → Int) : ax_H := (77, 346991, sK77 L, sS11 L xs, sR98, fun _ => 0)
def sR99 : Nat → Nat → Option Nat := ax_u2 sR98 84 29 (some 103)
def sH187 (L : Nat) (xs : Nat → Int) : ax_H := (77, 346991, sK77 L, sS11 L xs, sR99, fun _ => 0)
def sK78 (L : Nat) : Nat → Nat × Nat := ax_u1 (sK77 L) 104 (0, 8200)
def sH188 (L : Nat) (xs : Nat → Int) : ax_H := (78, 355191, sK78 L, sS11 L xs, sR99, fun _ => 0)
def sR100 : Nat → Nat → Option Nat := ax_u2 sR99 84 32 (some 104)
def sH189 (L : Nat) (xs : Nat → Int) : ax_H := (78, 355191, sK78 L, sS11 L xs, sR100, fun _ => 0)
def sK79 (L : Nat) : Nat → Nat × Nat := ax_u1 (sK78 L) 105 (0, 8200)
def sH190 (L : Nat) (xs : Nat → Int) : ax_H := (79, 363391, sK79 L, sS11 L xs, sR100, fun _ => 0)
def sR101 : Nat → Nat → Option Nat := ax_u2 sR100 84 33 (some 105)
def sH191 (L : Nat) (xs : Nat → Int) : ax_H := (79, 363391, sK79 L, sS11 L xs, sR101, fun _ => 0)
def sK80 (L : Nat) : Nat → Nat × Nat := ax_u1 (sK79 L) 106 (0, 8200)
def sH192 (L : Nat) (xs : Nat → Int) : ax_H := (80, 371591, sK80 L, sS11 L xs, sR101, fun _ => 0)
def sR102 : Nat → Nat → Option Nat := ax_u2 sR101 84 35 (some 106)
def sH193 (L : Nat) (xs : Nat → Int) : ax_H := (80, 371591, sK80 L, sS11 L xs, sR102, fun _ => 0)
def sK81 (L : Nat) : Nat → Nat × Nat := ax_u1 (sK80 L) 107 (0, 8200)
def sH194 (L : Nat) (xs : Nat → Int) : ax_H := (81, 379791, sK81 L, sS11 L xs, sR102, fun _ => 0)
def sR103 : Nat → Nat → Option Nat := ax_u2 sR102 84 36 (some 107)
def sH195 (L : Nat) (xs : Nat → Int) : ax_H := (81, 379791, sK81 L, sS11 L xs, sR103, fun _ => 0)
def sK82 (L : Nat) : Nat → Nat × Nat := ax_u1 (sK81 L) 108 (0, 8200)
def sH196 (L : Nat) (xs : Nat → Int) : ax_H := (82, 387991, sK82 L, sS11 L xs, sR103, fun _ => 0)
def sR104 : Nat → Nat → Option Nat := ax_u2 sR103 84 37 (some 108)
def sH197 (L : Nat) (xs : Nat → Int) : ax_H := (82, 387991, sK82 L, sS11 L xs, sR104, fun _ => 0)
def sK83 (L : Nat) : Nat → Nat × Nat := ax_u1 (sK82 L) 109 (0, 8200)
def sH198 (L : Nat) (xs : Nat → Int) : ax_H := (83, 396191, sK83 L, sS11 L xs, sR104, fun _ => 0)
def sR105 : Nat → Nat → Option Nat := ax_u2 sR104 84 38 (some 109)
def sH199 (L : Nat) (xs : Nat → Int) : ax_H := (83, 396191, sK83 L, sS11 L xs, sR105, fun _ => 0)
def sK84 (L : Nat) : Nat → Nat × Nat := ax_u1 (sK83 L) 110 (0, 8200)
def sH200 (L : Nat) (xs : Nat → Int) : ax_H := (84, 404391, sK84 L, sS11 L xs, sR105, fun _ => 0)
def sR106 : Nat → Nat → Option Nat := ax_u2 sR105 84 39 (some 110)
def sH201 (L : Nat) (xs : Nat → Int) : ax_H := (84, 404391, sK84 L, sS11 L xs, sR106, fun _ => 0)
def sK85 (L : Nat) : Nat → Nat × Nat := ax_u1 (sK84 L) 111 (0, 8200)
def sH202 (L : Nat) (xs : Nat → Int) : ax_H := (85, 412591, sK85 L, sS11 L xs, sR106, fun _ => 0)
def sR107 : Nat → Nat → Option Nat := ax_u2 sR106 84 40 (some 111)
def sH203 (L : Nat) (xs : Nat → Int) : ax_H := (85, 412591, sK85 L, sS11 L xs, sR107, fun _ => 0)
def sK86 (L : Nat) : Nat → Nat × Nat := ax_u1 (sK85 L) 112 (0, 8200)
def sH204 (L : Nat) (xs : Nat → Int) : ax_H := (86, 420791, sK86 L, sS11 L xs, sR107, fun _ => 0)
def sR108 : Nat → Nat → Option Nat := ax_u2 sR107 84 41 (some 112)
def sH205 (L : Nat) (xs : Nat → Int) : ax_H := (86, 420791, sK86 L, sS11 L xs, sR108, fun _ => 0)
def sK87 (L : Nat) : Nat → Nat × Nat := ax_u1 (sK86 L) 113 (0, 8200)
def sH206 (L : Nat) (xs : Nat → Int) : ax_H := (87, 428991, sK87 L, sS11 L xs, sR108, fun _ => 0)
def sR109 : Nat → Nat → Option Nat := ax_u2 sR108 84 42 (some 113)
def sH207 (L : Nat) (xs : Nat → Int) : ax_H := (87, 428991, sK87 L, sS11 L xs, sR109, fun _ => 0)
def sK88 (L : Nat) : Nat → Nat × Nat := ax_u1 (sK87 L) 114 (3, 100)
def sH208 (L : Nat) (xs : Nat → Int) : ax_H := (88, 429091, sK88 L, sS11 L xs, sR109, fun _ => 0)
def sR110 : Nat → Nat → Option Nat := ax_u2 sR109 84 44 (some 114)
def sH209 (L : Nat) (xs : Nat → Int) : ax_H := (88, 429091, sK88 L, sS11 L xs, sR110, fun _ => 0)
def sK89 (L : Nat) : Nat → Nat × Nat := ax_u1 (sK88 L) 115 (0, 100)
def sH210 (L : Nat) (xs : Nat → Int) : ax_H := (89, 429191, sK89 L, sS11 L xs, sR110, fun _ => 0)
def sR111 : Nat → Nat → Option Nat := ax_u2 sR110 84 45 (some 115)
def sH211 (L : Nat) (xs : Nat → Int) : ax_H := (89, 429191, sK89 L, sS11 L xs, sR111, fun _ => 0)
def sK90 (L : Nat) : Nat → Nat × Nat := ax_u1 (sK89 L) 116 (0, 8200)
def sH212 (L : Nat) (xs : Nat → Int) : ax_H := (90, 437391, sK90 L, sS11 L xs, sR111, fun _ => 0)
def sR112 : Nat → Nat → Option Nat := ax_u2 sR111 84 48 (some 116)
def sH213 (L : Nat) (xs : Nat → Int) : ax_H := (90, 437391, sK90 L, sS11 L xs, sR112, fun _ => 0)
def sK91 (L : Nat) : Nat → Nat × Nat := ax_u1 (sK90 L) 117 (0, 8200)
def sH214 (L : Nat) (xs : Nat → Int) : ax_H := (91, 445591, sK91 L, sS11 L xs, sR112, fun _ => 0)
def sR113 : Nat → Nat → Option Nat := ax_u2 sR112 84 49 (some 117)
def sH215 (L : Nat) (xs : Nat → Int) : ax_H := (91, 445591, sK91 L, sS11 L xs, sR113, fun _ => 0)
def sK92 (L : Nat) : Nat → Nat × Nat := ax_u1 (sK91 L) 118 (0, 8200)
def sH216 (L : Nat) (xs : Nat → Int) : ax_H := (92, 453791, sK92 L, sS11 L xs, sR113, fun _ => 0)
def sR114 : Nat → Nat → Option Nat := ax_u2 sR113 84 50 (some 118)
def sH217 (L : Nat) (xs : Nat → Int) : ax_H := (92, 453791, sK92 L, sS11 L xs, sR114, fun _ => 0)
def sK93 (L : Nat) : Nat → Nat × Nat := ax_u1 (sK92 L) 119 (0, 8200)
def sH218 (L : Nat) (xs : Nat → Int) : ax_H := (93, 461991, sK93 L, sS11 L xs, sR114, fun _ => 0)
def sR115 : Nat → Nat → Option Nat := ax_u2 sR114 84 51 (some 119)
def sH219 (L : Nat) (xs : Nat → Int) : ax_H := (93, 461991, sK93 L, sS11 L xs, sR115, fun _ => 0)
def sK94 (L : Nat) : Nat → Nat × Nat := ax_u1 (sK93 L) 120 (0, 8200)
def sH220 (L : Nat) (xs : Nat → Int) : ax_H := (94, 470191, sK94 L, sS11 L xs, sR115, fun _ => 0)
def sR116 : Nat → Nat → Option Nat := ax_u2 sR115 84 52 (some 120)
def sH221 (L : Nat) (xs : Nat → Int) : ax_H := (94, 470191, sK94 L, sS11 L xs, sR116, fun _ => 0)
def sK95 (L : Nat) : Nat → Nat × Nat := ax_u1 (sK94 L) 121 (0, 8200)
def sH222 (L : Nat) (xs : Nat → Int) : ax_H := (95, 478391, sK95 L, sS11 L xs, sR116, fun _ => 0)
def sR117 : Nat → Nat → Option Nat := ax_u2 sR116 84 53 (some 121)
def sH223 (L : Nat) (xs : Nat → Int) : ax_H := (95, 478391, sK95 L, sS11 L xs, sR117, fun _ => 0)
def sK96 (L : Nat) : Nat → Nat × Nat := ax_u1 (sK95 L) 122 (0, 8200)
def sH224 (L : Nat) (xs : Nat → Int) : ax_H := (96, 486591, sK96 L, sS11 L xs, sR117, fun _ => 0)
def sR118 : Nat → Nat → Option Nat := ax_u2 sR117 84 54 (some 122)
def sH225 (L : Nat) (xs : Nat → Int) : ax_H := (96, 486591, sK96 L, sS11 L xs, sR118, fun _ => 0)
def sK97 (L : Nat) : Nat → Nat × Nat := ax_u1 (sK96 L) 123 (0, 8200)
def sH226 (L : Nat) (xs : Nat → Int) : ax_H := (97, 494791, sK97 L, sS11 L xs, sR118, fun _ => 0)
def sR119 : Nat → Nat → Option Nat := ax_u2 sR118 84 55 (some 123)
def sH227 (L : Nat) (xs : Nat → Int) : ax_H := (97, 494791, sK97 L, sS11 L xs, sR119, fun _ => 0)
def sK98 (L : Nat) : Nat → Nat × Nat := ax_u1 (sK97 L) 124 (0, 8200)
def sH228 (L : Nat) (xs : Nat → Int) : ax_H := (98, 502991, sK98 L, sS11 L xs, sR119, fun _ => 0)
def sR120 : Nat → Nat → Option Nat := ax_u2 sR119 84 56 (some 124)
def sH229 (L : Nat) (xs : Nat → Int) : ax_H := (98, 502991, sK98 L, sS11 L xs, sR120, fun _ => 0)
def sK99 (L : Nat) : Nat → Nat × Nat := ax_u1 (sK98 L) 125 (0, 16400)
def sH230 (L : Nat) (xs : Nat → Int) : ax_H := (99, 519391, sK99 L, sS11 L xs, sR120, fun _ => 0)
def sR121 : Nat → Nat → Option Nat := ax_u2 sR120 84 58 (some 125)
def sH231 (L : Nat) (xs : Nat → Int) : ax_H := (99, 519391, sK99 L, sS11 L xs, sR121, fun _ => 0)
def sK100 (L : Nat) : Nat → Nat × Nat := ax_u1 (sK99 L) 126 (0, 8200)
def sH232 (L : Nat) (xs : Nat → Int) : ax_H := (100, 527591, sK100 L, sS11 L xs, sR121, fun _ => 0)
def sR122 : Nat → Nat → Option Nat := ax_u2 sR121 84 60 (some 126)
def sH233 (L : Nat) (xs : Nat → Int) : ax_H := (100, 527591, sK100 L, sS11 L xs, sR122, fun _ => 0)
def sK101 (L : Nat) : Nat → Nat × Nat := ax_u1 (sK100 L) 127 (0, 8200)
def sH234 (L : Nat) (xs : Nat → Int) : ax_H := (101, 535791, sK101 L, sS11 L xs, sR122, fun _ => 0)
def sR123 : Nat → Nat → Option Nat := ax_u2 sR122 84 61 (some 127)
def sH235 (L : Nat) (xs : Nat → Int) : ax_H := (101, 535791, sK101 L, sS11 L xs, sR123, fun _ => 0)
def sK102 (L : Nat) : Nat → Nat × Nat := ax_u1 (sK101 L) 128 (0, 8200)
def sH236 (L : Nat) (xs : Nat → Int) : ax_H := (102, 543991, sK102 L, sS11 L xs, sR123, fun _ => 0)
def sR124 : Nat → Nat → Option Nat := ax_u2 sR123 84 62 (some 128)
def sH237 (L : Nat) (xs : Nat → Int) : ax_H := (102, 543991, sK102 L, sS11 L xs, sR124, fun _ => 0)
def sK103 (L : Nat) : Nat → Nat × Nat := ax_u1 (sK102 L) 129 (0, 8200)
def sH238 (L : Nat) (xs : Nat → Int) : ax_H := (103, 552191, sK103 L, sS11 L xs, sR124, fun _ => 0)
def sR125 : Nat → Nat → Option Nat := ax_u2 sR124 84 64 (some 129)
def sH239 (L : Nat) (xs : Nat → Int) : ax_H := (103, 552191, sK103 L, sS11 L xs, sR125, fun _ => 0)
def sK104 (L : Nat) : Nat → Nat × Nat := ax_u1 (sK103 L) 130 (0, 8200)
def sH240 (L : Nat) (xs : Nat → Int) : ax_H := (104, 560391, sK104 L, sS11 L xs, sR125, fun _ => 0)
def sR126 : Nat → Nat → Option Nat := ax_u2 sR125 84 65 (some 130)
def sH241 (L : Nat) (xs : Nat → Int) : ax_H := (104, 560391, sK104 L, sS11 L xs, sR126, fun _ => 0)
def sK105 (L : Nat) : Nat → Nat × Nat := ax_u1 (sK104 L) 131 (0, 8200)
def sH242 (L : Nat) (xs : Nat → Int) : ax_H := (105, 568591, sK105 L, sS11 L xs, sR126, fun _ => 0)
def sR127 : Nat → Nat → Option Nat := ax_u2 sR126 84 66 (some 131)
def sH243 (L : Nat) (xs : Nat → Int) : ax_H := (105, 568591, sK105 L, sS11 L xs, sR127, fun _ => 0)
def sK106 (L : Nat) : Nat → Nat × Nat := ax_u1 (sK105 L) 132 (0, 8200)
def sH244 (L : Nat) (xs : Nat → Int) : ax_H := (106, 576791, sK106 L, sS11 L xs, sR127, fun _ => 0)
def sR128 : Nat → Nat → Option Nat := ax_u2 sR127 84 69 (some 132)
def sH245 (L : Nat) (xs : Nat → Int) : ax_H := (106, 576791, sK106 L, sS11 L xs, sR128, fun _ => 0)
def sK107 (L : Nat) : Nat → Nat × Nat := ax_u1 (sK106 L) 133 (0, 4100)
def sH246 (L : Nat) (xs : Nat → Int) : ax_H := (107, 580891, sK107 L, sS11 L xs, sR128, fun _ => 0)
def sR129 : Nat → Nat → Option Nat := ax_u2 sR128 84 71 (some 133)
def sH247 (L : Nat) (xs : Nat → Int) : ax_H := (107, 580891, sK107 L, sS11 L xs, sR129, fun _ => 0)
def sK108 (L : Nat) : Nat → Nat × Nat := ax_u1 (sK107 L) 134 (0, 4100)
def sH248 (L : Nat) (xs : Nat → Int) : ax_H := (108, 584991, sK108 L, sS11 L xs, sR129, fun _ => 0)
def sR130 : Nat → Nat → Option Nat := ax_u2 sR129 84 73 (some 134)
def sH249 (L : Nat) (xs : Nat → Int) : ax_H := (108, 584991, sK108 L, sS11 L xs, sR130, fun _ => 0)
def sK109 (L : Nat) : Nat → Nat × Nat := ax_u1 (sK108 L) 135 (0, 8200)
def sH250 (L : Nat) (xs : Nat → Int) : ax_H := (109, 593191, sK109 L, sS11 L xs, sR130, fun _ => 0)
def sR131 : Nat → Nat → Option Nat := ax_u2 sR130 84 74 (some 135)
def sH251 (L : Nat) (xs : Nat → Int) : ax_H := (109, 593191, sK109 L, sS11 L xs, sR131, fun _ => 0)
set_option maxRecDepth 20000 in
theorem st_c14 {L : Nat} {xs : Nat → Int} : Ev 1 192 [.inr (.inr (some 84))] (sH149 L xs) (.inl none) (sH251 L xs) := by
  refine Ev.of (μ := tb_m192) (ls := [some (.inr (.inr (some 84)))]) rfl (Nat.le_of_ble_eq_true rfl) rfl ?_
  refine Ru.step (pc' := 1) (ls' := [some (.inr (.inr (some 84)))]) (st' := [.inr (.inr (some 84))]) (h1 := sH149 L xs) rfl ?_
  refine Ru.step (pc' := 4) (ls' := [some (.inr (.inr (some 84)))]) (st' := []) (h1 := sH149 L xs) rfl ?_
  refine Ru.step (pc' := 5) (ls' := [some (.inr (.inr (some 84)))]) (st' := [.inr (.inr (some 84))]) (h1 := sH149 L xs) rfl ?_
  refine Ru.step (pc' := 8) (ls' := [some (.inr (.inr (some 84)))]) (st' := [.inl 8192, .inr (.inr (some 84))]) (h1 := sH149 L xs) rfl ?_
  refine Ru.step (pc' := 10) (ls' := [some (.inr (.inr (some 84)))]) (st' := [.inr (.inr (some 85)), .inr (.inr (some 84))]) (h1 := sH150 L xs) rfl ?_
  refine Ru.step (pc' := 13) (ls' := [some (.inr (.inr (some 84)))]) (st' := []) (h1 := sH151 L xs) rfl ?_
  refine Ru.step (pc' := 14) (ls' := [some (.inr (.inr (some 84)))]) (st' := [.inr (.inr (some 84))]) (h1 := sH151 L xs) rfl ?_
  refine Ru.step (pc' := 17) (ls' := [some (.inr (.inr (some 84)))]) (st' := [.inl 8192, .inr (.inr (some 84))]) (h1 := sH151 L xs) rfl ?_
  refine Ru.step (pc' := 19) (ls' := [some (.inr (.inr (some 84)))]) (st' := [.inr (.inr (some 86)), .inr (.inr (some 84))]) (h1 := sH152 L xs) rfl ?_
  refine Ru.step (pc' := 22) (ls' := [some (.inr (.inr (some 84)))]) (st' := []) (h1 := sH153 L xs) rfl ?_
  refine Ru.step (pc' := 23) (ls' := [some (.inr (.inr (some 84)))]) (st' := [.inr (.inr (some 84))]) (h1 := sH153 L xs) rfl ?_
  refine Ru.step (pc' := 26) (ls' := [some (.inr (.inr (some 84)))]) (st' := [.inl 25000, .inr (.inr (some 84))]) (h1 := sH153 L xs) rfl ?_
  refine Ru.step (pc' := 28) (ls' := [some (.inr (.inr (some 84)))]) (st' := [.inr (.inr (some 87)), .inr (.inr (some 84))]) (h1 := sH154 L xs) rfl ?_
  refine Ru.step (pc' := 31) (ls' := [some (.inr (.inr (some 84)))]) (st' := []) (h1 := sH155 L xs) rfl ?_
  refine Ru.step (pc' := 32) (ls' := [some (.inr (.inr (some 84)))]) (st' := [.inr (.inr (some 84))]) (h1 := sH155 L xs) rfl ?_
  refine Ru.step (pc' := 35) (ls' := [some (.inr (.inr (some 84)))]) (st' := [.inl 8200, .inr (.inr (some 84))]) (h1 := sH155 L xs) rfl ?_
  refine Ru.step (pc' := 37) (ls' := [some (.inr (.inr (some 84)))]) (st' := [.inr (.inr (some 88)), .inr (.inr (some 84))]) (h1 := sH156 L xs) rfl ?_
  refine Ru.step (pc' := 40) (ls' := [some (.inr (.inr (some 84)))]) (st' := []) (h1 := sH157 L xs) rfl ?_
  refine Ru.step (pc' := 41) (ls' := [some (.inr (.inr (some 84)))]) (st' := [.inr (.inr (some 84))]) (h1 := sH157 L xs) rfl ?_
  refine Ru.step (pc' := 44) (ls' := [some (.inr (.inr (some 84)))]) (st' := [.inl 8200, .inr (.inr (some 84))]) (h1 := sH157 L xs) rfl ?_
  refine Ru.step (pc' := 46) (ls' := [some (.inr (.inr (some 84)))]) (st' := [.inr (.inr (some 89)), .inr (.inr (some 84))]) (h1 := sH158 L xs) rfl ?_
  refine Ru.step (pc' := 49) (ls' := [some (.inr (.inr (some 84)))]) (st' := []) (h1 := sH159 L xs) rfl ?_
  refine Ru.step (pc' := 50) (ls' := [some (.inr (.inr (some 84)))]) (st' := [.inr (.inr (some 84))]) (h1 := sH159 L xs) rfl ?_
  refine Ru.step (pc' := 53) (ls' := [some (.inr (.inr (some 84)))]) (st' := [.inl 8200, .inr (.inr (some 84))]) (h1 := sH159 L xs) rfl ?_
  refine Ru.step (pc' := 55) (ls' := [some (.inr (.inr (some 84)))]) (st' := [.inr (.inr (some 90)), .inr (.inr (some 84))]) (h1 := sH160 L xs) rfl ?_
  refine Ru.step (pc' := 58) (ls' := [some (.inr (.inr (some 84)))]) (st' := []) (h1 := sH161 L xs) rfl ?_
  refine Ru.step (pc' := 59) (ls' := [some (.inr (.inr (some 84)))]) (st' := [.inr (.inr (some 84))]) (h1 := sH161 L xs) rfl ?_
  refine Ru.step (pc' := 62) (ls' := [some (.inr (.inr (some 84)))]) (st' := [.inl 8200, .inr (.inr (some 84))]) (h1 := sH161 L xs) rfl ?_
  refine Ru.step (pc' := 64) (ls' := [some (.inr (.inr (some 84)))]) (st' := [.inr (.inr (some 91)), .inr (.inr (some 84))]) (h1 := sH162 L xs) rfl ?_
  refine Ru.step (pc' := 67) (ls' := [some (.inr (.inr (some 84)))]) (st' := []) (h1 := sH163 L xs) rfl ?_
  refine Ru.step (pc' := 68) (ls' := [some (.inr (.inr (some 84)))]) (st' := [.inr (.inr (some 84))]) (h1 := sH163 L xs) rfl ?_
  refine Ru.step (pc' := 71) (ls' := [some (.inr (.inr (some 84)))]) (st' := [.inl 8200, .inr (.inr (some 84))]) (h1 := sH163 L xs) rfl ?_
  refine Ru.step (pc' := 73) (ls' := [some (.inr (.inr (some 84)))]) (st' := [.inr (.inr (some 92)), .inr (.inr (some 84))]) (h1 := sH164 L xs) rfl ?_
  refine Ru.step (pc' := 76) (ls' := [some (.inr (.inr (some 84)))]) (st' := []) (h1 := sH165 L xs) rfl ?_
  refine Ru.step (pc' := 77) (ls' := [some (.inr (.inr (some 84)))]) (st' := [.inr (.inr (some 84))]) (h1 := sH165 L xs) rfl ?_
  refine Ru.step (pc' := 80) (ls' := [some (.inr (.inr (some 84)))]) (st' := [.inl 8200, .inr (.inr (some 84))]) (h1 := sH165 L xs) rfl ?_
  refine Ru.step (pc' := 82) (ls' := [some (.inr (.inr (some 84)))]) (st' := [.inr (.inr (some 93)), .inr (.inr (some 84))]) (h1 := sH166 L xs) rfl ?_
  refine Ru.step (pc' := 85) (ls' := [some (.inr (.inr (some 84)))]) (st' := []) (h1 := sH167 L xs) rfl ?_
  refine Ru.step (pc' := 86) (ls' := [some (.inr (.inr (some 84)))]) (st' := [.inr (.inr (some 84))]) (h1 := sH167 L xs) rfl ?_
  refine Ru.step (pc' := 89) (ls' := [some (.inr (.inr (some 84)))]) (st' := [.inl 4100, .inr (.inr (some 84))]) (h1 := sH167 L xs) rfl ?_
  refine Ru.step (pc' := 91) (ls' := [some (.inr (.inr (some 84)))]) (st' := [.inr (.inr (some 94)), .inr (.inr (some 84))]) (h1 := sH168 L xs) rfl ?_
  refine Ru.step (pc' := 94) (ls' := [some (.inr (.inr (some 84)))]) (st' := []) (h1 := sH169 L xs) rfl ?_
  refine Ru.step (pc' := 95) (ls' := [some (.inr (.inr (some 84)))]) (st' := [.inr (.inr (some 84))]) (h1 := sH169 L xs) rfl ?_
  refine Ru.step (pc' := 98) (ls' := [some (.inr (.inr (some 84)))]) (st' := [.inl 4100, .inr (.inr (some 84))]) (h1 := sH169 L xs) rfl ?_
  refine Ru.step (pc' := 100) (ls' := [some (.inr (.inr (some 84)))]) (st' := [.inr (.inr (some 95)), .inr (.inr (some 84))]) (h1 := sH170 L xs) rfl ?_
  refine Ru.step (pc' := 103) (ls' := [some (.inr (.inr (some 84)))]) (st' := []) (h1 := sH171 L xs) rfl ?_
  refine Ru.step (pc' := 104) (ls' := [some (.inr (.inr (some 84)))]) (st' := [.inr (.inr (some 84))]) (h1 := sH171 L xs) rfl ?_
  refine Ru.step (pc' := 107) (ls' := [some (.inr (.inr (some 84)))]) (st' := [.inl 4100, .inr (.inr (some 84))]) (h1 := sH171 L xs) rfl ?_
  refine Ru.step (pc' := 109) (ls' := [some (.inr (.inr (some 84)))]) (st' := [.inr (.inr (some 96)), .inr (.inr (some 84))]) (h1 := sH172 L xs) rfl ?_
  refine Ru.step (pc' := 112) (ls' := [some (.inr (.inr (some 84)))]) (st' := []) (h1 := sH173 L xs) rfl ?_
  refine Ru.step (pc' := 113) (ls' := [some (.inr (.inr (some 84)))]) (st' := [.inr (.inr (some 84))]) (h1 := sH173 L xs) rfl ?_
  refine Ru.step (pc' := 116) (ls' := [some (.inr (.inr (some 84)))]) (st' := [.inl 4100, .inr (.inr (some 84))]) (h1 := sH173 L xs) rfl ?_
  refine Ru.step (pc' := 118) (ls' := [some (.inr (.inr (some 84)))]) (st' := [.inr (.inr (some 97)), .inr (.inr (some 84))]) (h1 := sH174 L xs) rfl ?_
  refine Ru.step (pc' := 121) (ls' := [some (.inr (.inr (some 84)))]) (st' := []) (h1 := sH175 L xs) rfl ?_
  refine Ru.step (pc' := 122) (ls' := [some (.inr (.inr (some 84)))]) (st' := [.inr (.inr (some 84))]) (h1 := sH175 L xs) rfl ?_
  refine Ru.step (pc' := 125) (ls' := [some (.inr (.inr (some 84)))]) (st' := [.inl 4100, .inr (.inr (some 84))]) (h1 := sH175 L xs) rfl ?_
  refine Ru.step (pc' := 127) (ls' := [some (.inr (.inr (some 84)))]) (st' := [.inr (.inr (some 98)), .inr (.inr (some 84))]) (h1 := sH176 L xs) rfl ?_
  refine Ru.step (pc' := 130) (ls' := [some (.inr (.inr (some 84)))]) (st' := []) (h1 := sH177 L xs) rfl ?_
  refine Ru.step (pc' := 131) (ls' := [some (.inr (.inr (some 84)))]) (st' := [.inr (.inr (some 84))]) (h1 := sH177 L xs) rfl ?_
  refine Ru.step (pc' := 134) (ls' := [some (.inr (.inr (some 84)))]) (st' := [.inl 4100, .inr (.inr (some 84))]) (h1 := sH177 L xs) rfl ?_
  refine Ru.step (pc' := 136) (ls' := [some (.inr (.inr (some 84)))]) (st' := [.inr (.inr (some 99)), .inr (.inr (some 84))]) (h1 := sH178 L xs) rfl ?_
  refine Ru.step (pc' := 139) (ls' := [some (.inr (.inr (some 84)))]) (st' := []) (h1 := sH179 L xs) rfl ?_
  refine Ru.step (pc' := 140) (ls' := [some (.inr (.inr (some 84)))]) (st' := [.inr (.inr (some 84))]) (h1 := sH179 L xs) rfl ?_
  refine Ru.step (pc' := 143) (ls' := [some (.inr (.inr (some 84)))]) (st' := [.inl 4100, .inr (.inr (some 84))]) (h1 := sH179 L xs) rfl ?_
  refine Ru.step (pc' := 145) (ls' := [some (.inr (.inr (some 84)))]) (st' := [.inr (.inr (some 100)), .inr (.inr (some 84))]) (h1 := sH180 L xs) rfl ?_
  refine Ru.step (pc' := 148) (ls' := [some (.inr (.inr (some 84)))]) (st' := []) (h1 := sH181 L xs) rfl ?_
  refine Ru.step (pc' := 149) (ls' := [some (.inr (.inr (some 84)))]) (st' := [.inr (.inr (some 84))]) (h1 := sH181 L xs) rfl ?_
  refine Ru.step (pc' := 152) (ls' := [some (.inr (.inr (some 84)))]) (st' := [.inl 4100, .inr (.inr (some 84))]) (h1 := sH181 L xs) rfl ?_
  refine Ru.step (pc' := 154) (ls' := [some (.inr (.inr (some 84)))]) (st' := [.inr (.inr (some 101)), .inr (.inr (some 84))]) (h1 := sH182 L xs) rfl ?_
  refine Ru.step (pc' := 157) (ls' := [some (.inr (.inr (some 84)))]) (st' := []) (h1 := sH183 L xs) rfl ?_
  refine Ru.step (pc' := 158) (ls' := [some (.inr (.inr (some 84)))]) (st' := [.inr (.inr (some 84))]) (h1 := sH183 L xs) rfl ?_
  refine Ru.step (pc' := 161) (ls' := [some (.inr (.inr (some 84)))]) (st' := [.inl 4100, .inr (.inr (some 84))]) (h1 := sH183 L xs) rfl ?_
  refine Ru.step (pc' := 163) (ls' := [some (.inr (.inr (some 84)))]) (st' := [.inr (.inr (some 102)), .inr (.inr (some 84))]) (h1 := sH184 L xs) rfl ?_
  refine Ru.step (pc' := 166) (ls' := [some (.inr (.inr (some 84)))]) (st' := []) (h1 := sH185 L xs) rfl ?_
  refine Ru.step (pc' := 167) (ls' := [some (.inr (.inr (some 84)))]) (st' := [.inr (.inr (some 84))]) (h1 := sH185 L xs) rfl ?_
  refine Ru.step (pc' := 170) (ls' := [some (.inr (.inr (some 84)))]) (st' := [.inl 4100, .inr (.inr (some 84))]) (h1 := sH185 L xs) rfl ?_
  refine Ru.step (pc' := 172) (ls' := [some (.inr (.inr (some 84)))]) (st' := [.inr (.inr (some 103)), .inr (.inr (some 84))]) (h1 := sH186 L xs) rfl ?_
  refine Ru.step (pc' := 175) (ls' := [some (.inr (.inr (some 84)))]) (st' := []) (h1 := sH187 L xs) rfl ?_
  refine Ru.step (pc' := 176) (ls' := [some (.inr (.inr (some 84)))]) (st' := [.inr (.inr (some 84))]) (h1 := sH187 L xs) rfl ?_
  refine Ru.step (pc' := 179) (ls' := [some (.inr (.inr (some 84)))]) (st' := [.inl 8200, .inr (.inr (some 84))]) (h1 := sH187 L xs) rfl ?_
  refine Ru.step (pc' := 181) (ls' := [some (.inr (.inr (some 84)))]) (st' := [.inr (.inr (some 104)), .inr (.inr (some 84))]) (h1 := sH188 L xs) rfl ?_
  refine Ru.step (pc' := 184) (ls' := [some (.inr (.inr (some 84)))]) (st' := []) (h1 := sH189 L xs) rfl ?_
  refine Ru.step (pc' := 185) (ls' := [some (.inr (.inr (some 84)))]) (st' := [.inr (.inr (some 84))]) (h1 := sH189 L xs) rfl ?_
  refine Ru.step (pc' := 188) (ls' := [some (.inr (.inr (some 84)))]) (st' := [.inl 8200, .inr (.inr (some 84))]) (h1 := sH189 L xs) rfl ?_
  refine Ru.step (pc' := 190) (ls' := [some (.inr (.inr (some 84)))]) (st' := [.inr (.inr (some 105)), .inr (.inr (some 84))]) (h1 := sH190 L xs) rfl ?_
  refine Ru.step (pc' := 193) (ls' := [some (.inr (.inr (some 84)))]) (st' := []) (h1 := sH191 L xs) rfl ?_
  refine Ru.step (pc' := 194) (ls' := [some (.inr (.inr (some 84)))]) (st' := [.inr (.inr (some 84))]) (h1 := sH191 L xs) rfl ?_
  refine Ru.step (pc' := 197) (ls' := [some (.inr (.inr (some 84)))]) (st' := [.inl 8200, .inr (.inr (some 84))]) (h1 := sH191 L xs) rfl ?_
  refine Ru.step (pc' := 199) (ls' := [some (.inr (.inr (some 84)))]) (st' := [.inr (.inr (some 106)), .inr (.inr (some 84))]) (h1 := sH192 L xs) rfl ?_
  refine Ru.step (pc' := 202) (ls' := [some (.inr (.inr (some 84)))]) (st' := []) (h1 := sH193 L xs) rfl ?_
  refine Ru.step (pc' := 203) (ls' := [some (.inr (.inr (some 84)))]) (st' := [.inr (.inr (some 84))]) (h1 := sH193 L xs) rfl ?_
  refine Ru.step (pc' := 206) (ls' := [some (.inr (.inr (some 84)))]) (st' := [.inl 8200, .inr (.inr (some 84))]) (h1 := sH193 L xs) rfl ?_
  refine Ru.step (pc' := 208) (ls' := [some (.inr (.inr (some 84)))]) (st' := [.inr (.inr (some 107)), .inr (.inr (some 84))]) (h1 := sH194 L xs) rfl ?_
  refine Ru.step (pc' := 211) (ls' := [some (.inr (.inr (some 84)))]) (st' := []) (h1 := sH195 L xs) rfl ?_
  refine Ru.step (pc' := 212) (ls' := [some (.inr (.inr (some 84)))]) (st' := [.inr (.inr (some 84))]) (h1 := sH195 L xs) rfl ?_
  refine Ru.step (pc' := 215) (ls' := [some (.inr (.inr (some 84)))]) (st' := [.inl 8200, .inr (.inr (some 84))]) (h1 := sH195 L xs) rfl ?_
  refine Ru.step (pc' := 217) (ls' := [some (.inr (.inr (some 84)))]) (st' := [.inr (.inr (some 108)), .inr (.inr (some 84))]) (h1 := sH196 L xs) rfl ?_
  refine Ru.step (pc' := 220) (ls' := [some (.inr (.inr (some 84)))]) (st' := []) (h1 := sH197 L xs) rfl ?_
  refine Ru.step (pc' := 221) (ls' := [some (.inr (.inr (some 84)))]) (st' := [.inr (.inr (some 84))]) (h1 := sH197 L xs) rfl ?_
  refine Ru.step (pc' := 224) (ls' := [some (.inr (.inr (some 84)))]) (st' := [.inl 8200, .inr (.inr (some 84))]) (h1 := sH197 L xs) rfl ?_
  refine Ru.step (pc' := 226) (ls' := [some (.inr (.inr (some 84)))]) (st' := [.inr (.inr (some 109)), .inr (.inr (some 84))]) (h1 := sH198 L xs) rfl ?_
  refine Ru.step (pc' := 229) (ls' := [some (.inr (.inr (some 84)))]) (st' := []) (h1 := sH199 L xs) rfl ?_
  refine Ru.step (pc' := 230) (ls' := [some (.inr (.inr (some 84)))]) (st' := [.inr (.inr (some 84))]) (h1 := sH199 L xs) rfl ?_
  refine Ru.step (pc' := 233) (ls' := [some (.inr (.inr (some 84)))]) (st' := [.inl 8200, .inr (.inr (some 84))]) (h1 := sH199 L xs) rfl ?_
  refine Ru.step (pc' := 235) (ls' := [some (.inr (.inr (some 84)))]) (st' := [.inr (.inr (some 110)), .inr (.inr (some 84))]) (h1 := sH200 L xs) rfl ?_
  refine Ru.step (pc' := 238) (ls' := [some (.inr (.inr (some 84)))]) (st' := []) (h1 := sH201 L xs) rfl ?_
  refine Ru.step (pc' := 239) (ls' := [some (.inr (.inr (some 84)))]) (st' := [.inr (.inr (some 84))]) (h1 := sH201 L xs) rfl ?_
  refine Ru.step (pc' := 242) (ls' := [some (.inr (.inr (some 84)))]) (st' := [.inl 8200, .inr (.inr (some 84))]) (h1 := sH201 L xs) rfl ?_
  refine Ru.step (pc' := 244) (ls' := [some (.inr (.inr (some 84)))]) (st' := [.inr (.inr (some 111)), .inr (.inr (some 84))]) (h1 := sH202 L xs) rfl ?_
  refine Ru.step (pc' := 247) (ls' := [some (.inr (.inr (some 84)))]) (st' := []) (h1 := sH203 L xs) rfl ?_
  refine Ru.step (pc' := 248) (ls' := [some (.inr (.inr (some 84)))]) (st' := [.inr (.inr (some 84))]) (h1 := sH203 L xs) rfl ?_
  refine Ru.step (pc' := 251) (ls' := [some (.inr (.inr (some 84)))]) (st' := [.inl 8200, .inr (.inr (some 84))]) (h1 := sH203 L xs) rfl ?_
  refine Ru.step (pc' := 253) (ls' := [some (.inr (.inr (some 84)))]) (st' := [.inr (.inr (some 112)), .inr (.inr (some 84))]) (h1 := sH204 L xs) rfl ?_
  refine Ru.step (pc' := 256) (ls' := [some (.inr (.inr (some 84)))]) (st' := []) (h1 := sH205 L xs) rfl ?_
  refine Ru.step (pc' := 257) (ls' := [some (.inr (.inr (some 84)))]) (st' := [.inr (.inr (some 84))]) (h1 := sH205 L xs) rfl ?_
  refine Ru.step (pc' := 260) (ls' := [some (.inr (.inr (some 84)))]) (st' := [.inl 8200, .inr (.inr (some 84))]) (h1 := sH205 L xs) rfl ?_
  refine Ru.step (pc' := 262) (ls' := [some (.inr (.inr (some 84)))]) (st' := [.inr (.inr (some 113)), .inr (.inr (some 84))]) (h1 := sH206 L xs) rfl ?_
  refine Ru.step (pc' := 265) (ls' := [some (.inr (.inr (some 84)))]) (st' := []) (h1 := sH207 L xs) rfl ?_
  refine Ru.step (pc' := 266) (ls' := [some (.inr (.inr (some 84)))]) (st' := [.inr (.inr (some 84))]) (h1 := sH207 L xs) rfl ?_
  refine Ru.step (pc' := 268) (ls' := [some (.inr (.inr (some 84)))]) (st' := [.inl 100, .inr (.inr (some 84))]) (h1 := sH207 L xs) rfl ?_
  refine Ru.step (pc' := 270) (ls' := [some (.inr (.inr (some 84)))]) (st' := [.inr (.inr (some 114)), .inr (.inr (some 84))]) (h1 := sH208 L xs) rfl ?_
  refine Ru.step (pc' := 273) (ls' := [some (.inr (.inr (some 84)))]) (st' := []) (h1 := sH209 L xs) rfl ?_
  refine Ru.step (pc' := 274) (ls' := [some (.inr (.inr (some 84)))]) (st' := [.inr (.inr (some 84))]) (h1 := sH209 L xs) rfl ?_
  refine Ru.step (pc' := 276) (ls' := [some (.inr (.inr (some 84)))]) (st' := [.inl 100, .inr (.inr (some 84))]) (h1 := sH209 L xs) rfl ?_
  refine Ru.step (pc' := 278) (ls' := [some (.inr (.inr (some 84)))]) (st' := [.inr (.inr (some 115)), .inr (.inr (some 84))]) (h1 := sH210 L xs) rfl ?_
  refine Ru.step (pc' := 281) (ls' := [some (.inr (.inr (some 84)))]) (st' := []) (h1 := sH211 L xs) rfl ?_
  refine Ru.step (pc' := 282) (ls' := [some (.inr (.inr (some 84)))]) (st' := [.inr (.inr (some 84))]) (h1 := sH211 L xs) rfl ?_
  refine Ru.step (pc' := 285) (ls' := [some (.inr (.inr (some 84)))]) (st' := [.inl 8200, .inr (.inr (some 84))]) (h1 := sH211 L xs) rfl ?_
  refine Ru.step (pc' := 287) (ls' := [some (.inr (.inr (some 84)))]) (st' := [.inr (.inr (some 116)), .inr (.inr (some 84))]) (h1 := sH212 L xs) rfl ?_
  refine Ru.step (pc' := 290) (ls' := [some (.inr (.inr (some 84)))]) (st' := []) (h1 := sH213 L xs) rfl ?_
  refine Ru.step (pc' := 291) (ls' := [some (.inr (.inr (some 84)))]) (st' := [.inr (.inr (some 84))]) (h1 := sH213 L xs) rfl ?_
  refine Ru.step (pc' := 294) (ls' := [some (.inr (.inr (some 84)))]) (st' := [.inl 8200, .inr (.inr (some 84))]) (h1 := sH213 L xs) rfl ?_
  refine Ru.step (pc' := 296) (ls' := [some (.inr (.inr (some 84)))]) (st' := [.inr (.inr (some 117)), .inr (.inr (some 84))]) (h1 := sH214 L xs) rfl ?_
  refine Ru.step (pc' := 299) (ls' := [some (.inr (.inr (some 84)))]) (st' := []) (h1 := sH215 L xs) rfl ?_
  refine Ru.step (pc' := 300) (ls' := [some (.inr (.inr (some 84)))]) (st' := [.inr (.inr (some 84))]) (h1 := sH215 L xs) rfl ?_
  refine Ru.step (pc' := 303) (ls' := [some (.inr (.inr (some 84)))]) (st' := [.inl 8200, .inr (.inr (some 84))]) (h1 := sH215 L xs) rfl ?_
  refine Ru.step (pc' := 305) (ls' := [some (.inr (.inr (some 84)))]) (st' := [.inr (.inr (some 118)), .inr (.inr (some 84))]) (h1 := sH216 L xs) rfl ?_
  refine Ru.step (pc' := 308) (ls' := [some (.inr (.inr (some 84)))]) (st' := []) (h1 := sH217 L xs) rfl ?_
  refine Ru.step (pc' := 309) (ls' := [some (.inr (.inr (some 84)))]) (st' := [.inr (.inr (some 84))]) (h1 := sH217 L xs) rfl ?_
  refine Ru.step (pc' := 312) (ls' := [some (.inr (.inr (some 84)))]) (st' := [.inl 8200, .inr (.inr (some 84))]) (h1 := sH217 L xs) rfl ?_
  refine Ru.step (pc' := 314) (ls' := [some (.inr (.inr (some 84)))]) (st' := [.inr (.inr (some 119)), .inr (.inr (some 84))]) (h1 := sH218 L xs) rfl ?_
  refine Ru.step (pc' := 317) (ls' := [some (.inr (.inr (some 84)))]) (st' := []) (h1 := sH219 L xs) rfl ?_
  refine Ru.step (pc' := 318) (ls' := [some (.inr (.inr (some 84)))]) (st' := [.inr (.inr (some 84))]) (h1 := sH219 L xs) rfl ?_
  refine Ru.step (pc' := 321) (ls' := [some (.inr (.inr (some 84)))]) (st' := [.inl 8200, .inr (.inr (some 84))]) (h1 := sH219 L xs) rfl ?_
  refine Ru.step (pc' := 323) (ls' := [some (.inr (.inr (some 84)))]) (st' := [.inr (.inr (some 120)), .inr (.inr (some 84))]) (h1 := sH220 L xs) rfl ?_
  refine Ru.step (pc' := 326) (ls' := [some (.inr (.inr (some 84)))]) (st' := []) (h1 := sH221 L xs) rfl ?_
  refine Ru.step (pc' := 327) (ls' := [some (.inr (.inr (some 84)))]) (st' := [.inr (.inr (some 84))]) (h1 := sH221 L xs) rfl ?_
  refine Ru.step (pc' := 330) (ls' := [some (.inr (.inr (some 84)))]) (st' := [.inl 8200, .inr (.inr (some 84))]) (h1 := sH221 L xs) rfl ?_
  refine Ru.step (pc' := 332) (ls' := [some (.inr (.inr (some 84)))]) (st' := [.inr (.inr (some 121)), .inr (.inr (some 84))]) (h1 := sH222 L xs) rfl ?_
  refine Ru.step (pc' := 335) (ls' := [some (.inr (.inr (some 84)))]) (st' := []) (h1 := sH223 L xs) rfl ?_
  refine Ru.step (pc' := 336) (ls' := [some (.inr (.inr (some 84)))]) (st' := [.inr (.inr (some 84))]) (h1 := sH223 L xs) rfl ?_
  refine Ru.step (pc' := 339) (ls' := [some (.inr (.inr (some 84)))]) (st' := [.inl 8200, .inr (.inr (some 84))]) (h1 := sH223 L xs) rfl ?_
  refine Ru.step (pc' := 341) (ls' := [some (.inr (.inr (some 84)))]) (st' := [.inr (.inr (some 122)), .inr (.inr (some 84))]) (h1 := sH224 L xs) rfl ?_
  refine Ru.step (pc' := 344) (ls' := [some (.inr (.inr (some 84)))]) (st' := []) (h1 := sH225 L xs) rfl ?_
  refine Ru.step (pc' := 345) (ls' := [some (.inr (.inr (some 84)))]) (st' := [.inr (.inr (some 84))]) (h1 := sH225 L xs) rfl ?_
  refine Ru.step (pc' := 348) (ls' := [some (.inr (.inr (some 84)))]) (st' := [.inl 8200, .inr (.inr (some 84))]) (h1 := sH225 L xs) rfl ?_
  refine Ru.step (pc' := 350) (ls' := [some (.inr (.inr (some 84)))]) (st' := [.inr (.inr (some 123)), .inr (.inr (some 84))]) (h1 := sH226 L xs) rfl ?_
  refine Ru.step (pc' := 353) (ls' := [some (.inr (.inr (some 84)))]) (st' := []) (h1 := sH227 L xs) rfl ?_
  refine Ru.step (pc' := 354) (ls' := [some (.inr (.inr (some 84)))]) (st' := [.inr (.inr (some 84))]) (h1 := sH227 L xs) rfl ?_
  refine Ru.step (pc' := 357) (ls' := [some (.inr (.inr (some 84)))]) (st' := [.inl 8200, .inr (.inr (some 84))]) (h1 := sH227 L xs) rfl ?_
  refine Ru.step (pc' := 359) (ls' := [some (.inr (.inr (some 84)))]) (st' := [.inr (.inr (some 124)), .inr (.inr (some 84))]) (h1 := sH228 L xs) rfl ?_
  refine Ru.step (pc' := 362) (ls' := [some (.inr (.inr (some 84)))]) (st' := []) (h1 := sH229 L xs) rfl ?_
  refine Ru.step (pc' := 363) (ls' := [some (.inr (.inr (some 84)))]) (st' := [.inr (.inr (some 84))]) (h1 := sH229 L xs) rfl ?_
  refine Ru.step (pc' := 366) (ls' := [some (.inr (.inr (some 84)))]) (st' := [.inl 16400, .inr (.inr (some 84))]) (h1 := sH229 L xs) rfl ?_
  refine Ru.step (pc' := 368) (ls' := [some (.inr (.inr (some 84)))]) (st' := [.inr (.inr (some 125)), .inr (.inr (some 84))]) (h1 := sH230 L xs) rfl ?_
  refine Ru.step (pc' := 371) (ls' := [some (.inr (.inr (some 84)))]) (st' := []) (h1 := sH231 L xs) rfl ?_
  refine Ru.step (pc' := 372) (ls' := [some (.inr (.inr (some 84)))]) (st' := [.inr (.inr (some 84))]) (h1 := sH231 L xs) rfl ?_
  refine Ru.step (pc' := 375) (ls' := [some (.inr (.inr (some 84)))]) (st' := [.inl 8200, .inr (.inr (some 84))]) (h1 := sH231 L xs) rfl ?_
  refine Ru.step (pc' := 377) (ls' := [some (.inr (.inr (some 84)))]) (st' := [.inr (.inr (some 126)), .inr (.inr (some 84))]) (h1 := sH232 L xs) rfl ?_
  refine Ru.step (pc' := 380) (ls' := [some (.inr (.inr (some 84)))]) (st' := []) (h1 := sH233 L xs) rfl ?_
  refine Ru.step (pc' := 381) (ls' := [some (.inr (.inr (some 84)))]) (st' := [.inr (.inr (some 84))]) (h1 := sH233 L xs) rfl ?_
  refine Ru.step (pc' := 384) (ls' := [some (.inr (.inr (some 84)))]) (st' := [.inl 8200, .inr (.inr (some 84))]) (h1 := sH233 L xs) rfl ?_
  refine Ru.step (pc' := 386) (ls' := [some (.inr (.inr (some 84)))]) (st' := [.inr (.inr (some 127)), .inr (.inr (some 84))]) (h1 := sH234 L xs) rfl ?_
  refine Ru.step (pc' := 389) (ls' := [some (.inr (.inr (some 84)))]) (st' := []) (h1 := sH235 L xs) rfl ?_
  refine Ru.step (pc' := 390) (ls' := [some (.inr (.inr (some 84)))]) (st' := [.inr (.inr (some 84))]) (h1 := sH235 L xs) rfl ?_
  refine Ru.step (pc' := 393) (ls' := [some (.inr (.inr (some 84)))]) (st' := [.inl 8200, .inr (.inr (some 84))]) (h1 := sH235 L xs) rfl ?_
  refine Ru.step (pc' := 395) (ls' := [some (.inr (.inr (some 84)))]) (st' := [.inr (.inr (some 128)), .inr (.inr (some 84))]) (h1 := sH236 L xs) rfl ?_
  refine Ru.step (pc' := 398) (ls' := [some (.inr (.inr (some 84)))]) (st' := []) (h1 := sH237 L xs) rfl ?_
  refine Ru.step (pc' := 399) (ls' := [some (.inr (.inr (some 84)))]) (st' := [.inr (.inr (some 84))]) (h1 := sH237 L xs) rfl ?_
  refine Ru.step (pc' := 402) (ls' := [some (.inr (.inr (some 84)))]) (st' := [.inl 8200, .inr (.inr (some 84))]) (h1 := sH237 L xs) rfl ?_
  refine Ru.step (pc' := 404) (ls' := [some (.inr (.inr (some 84)))]) (st' := [.inr (.inr (some 129)), .inr (.inr (some 84))]) (h1 := sH238 L xs) rfl ?_
  refine Ru.step (pc' := 407) (ls' := [some (.inr (.inr (some 84)))]) (st' := []) (h1 := sH239 L xs) rfl ?_
  refine Ru.step (pc' := 408) (ls' := [some (.inr (.inr (some 84)))]) (st' := [.inr (.inr (some 84))]) (h1 := sH239 L xs) rfl ?_
  refine Ru.step (pc' := 411) (ls' := [some (.inr (.inr (some 84)))]) (st' := [.inl 8200, .inr (.inr (some 84))]) (h1 := sH239 L xs) rfl ?_
  refine Ru.step (pc' := 413) (ls' := [some (.inr (.inr (some 84)))]) (st' := [.inr (.inr (some 130)), .inr (.inr (some 84))]) (h1 := sH240 L xs) rfl ?_
  refine Ru.step (pc' := 416) (ls' := [some (.inr (.inr (some 84)))]) (st' := []) (h1 := sH241 L xs) rfl ?_
  refine Ru.step (pc' := 417) (ls' := [some (.inr (.inr (some 84)))]) (st' := [.inr (.inr (some 84))]) (h1 := sH241 L xs) rfl ?_
  refine Ru.step (pc' := 420) (ls' := [some (.inr (.inr (some 84)))]) (st' := [.inl 8200, .inr (.inr (some 84))]) (h1 := sH241 L xs) rfl ?_
  refine Ru.step (pc' := 422) (ls' := [some (.inr (.inr (some 84)))]) (st' := [.inr (.inr (some 131)), .inr (.inr (some 84))]) (h1 := sH242 L xs) rfl ?_
  refine Ru.step (pc' := 425) (ls' := [some (.inr (.inr (some 84)))]) (st' := []) (h1 := sH243 L xs) rfl ?_
  refine Ru.step (pc' := 426) (ls' := [some (.inr (.inr (some 84)))]) (st' := [.inr (.inr (some 84))]) (h1 := sH243 L xs) rfl ?_
  refine Ru.step (pc' := 429) (ls' := [some (.inr (.inr (some 84)))]) (st' := [.inl 8200, .inr (.inr (some 84))]) (h1 := sH243 L xs) rfl ?_
  refine Ru.step (pc' := 431) (ls' := [some (.inr (.inr (some 84)))]) (st' := [.inr (.inr (some 132)), .inr (.inr (some 84))]) (h1 := sH244 L xs) rfl ?_
  refine Ru.step (pc' := 434) (ls' := [some (.inr (.inr (some 84)))]) (st' := []) (h1 := sH245 L xs) rfl ?_
  refine Ru.step (pc' := 435) (ls' := [some (.inr (.inr (some 84)))]) (st' := [.inr (.inr (some 84))]) (h1 := sH245 L xs) rfl ?_
  refine Ru.step (pc' := 438) (ls' := [some (.inr (.inr (some 84)))]) (st' := [.inl 4100, .inr (.inr (some 84))]) (h1 := sH245 L xs) rfl ?_
  refine Ru.step (pc' := 440) (ls' := [some (.inr (.inr (some 84)))]) (st' := [.inr (.inr (some 133)), .inr (.inr (some 84))]) (h1 := sH246 L xs) rfl ?_
  refine Ru.step (pc' := 443) (ls' := [some (.inr (.inr (some 84)))]) (st' := []) (h1 := sH247 L xs) rfl ?_
  refine Ru.step (pc' := 444) (ls' := [some (.inr (.inr (some 84)))]) (st' := [.inr (.inr (some 84))]) (h1 := sH247 L xs) rfl ?_
  refine Ru.step (pc' := 447) (ls' := [some (.inr (.inr (some 84)))]) (st' := [.inl 4100, .inr (.inr (some 84))]) (h1 := sH247 L xs) rfl ?_
  refine Ru.step (pc' := 449) (ls' := [some (.inr (.inr (some 84)))]) (st' := [.inr (.inr (some 134)), .inr (.inr (some 84))]) (h1 := sH248 L xs) rfl ?_
  refine Ru.step (pc' := 452) (ls' := [some (.inr (.inr (some 84)))]) (st' := []) (h1 := sH249 L xs) rfl ?_
  refine Ru.step (pc' := 453) (ls' := [some (.inr (.inr (some 84)))]) (st' := [.inr (.inr (some 84))]) (h1 := sH249 L xs) rfl ?_
  refine Ru.step (pc' := 456) (ls' := [some (.inr (.inr (some 84)))]) (st' := [.inl 8200, .inr (.inr (some 84))]) (h1 := sH249 L xs) rfl ?_
  refine Ru.step (pc' := 458) (ls' := [some (.inr (.inr (some 84)))]) (st' := [.inr (.inr (some 135)), .inr (.inr (some 84))]) (h1 := sH250 L xs) rfl ?_
  refine Ru.step (pc' := 461) (ls' := [some (.inr (.inr (some 84)))]) (st' := []) (h1 := sH251 L xs) rfl ?_
  exact Ru.done rfl
def sK110 (L : Nat) : Nat → Nat × Nat := ax_u1 (sK109 L) 136 (2, 1)
def sH252 (L : Nat) (xs : Nat → Int) : ax_H := (110, 593192, sK110 L, sS11 L xs, sR131, fun _ => 0)
set_option maxRecDepth 20000 in
theorem st_law {L : Nat} {xs : Nat → Int} {Φ : ax_O → ax_H → Prop} (k : RuP 225 tb_m279 23 [some (.inr (.inr (some 0))), some (.inr (.inr (some 27))), some (.inr (.inr (some 84))), some (.inr (.inr (some 136))), some (.inl 0), none, none, none] [] (sH252 L xs) Φ) : RuP 225 tb_m279 0 [some (.inr (.inr (some 0))), none, none, none, none, none, none, none] [] (sH0 L xs) Φ := by
  obtain ⟨o, h', k1, k2⟩ := k
  refine ⟨o, h', ?_, k2⟩
  refine Ru.step (pc' := 3) (ls' := [some (.inr (.inr (some 0))), none, none, none, none, none, none, none]) (st' := [.inr (.inr (some 27))]) (h1 := sH1 L xs) rfl ?_
  refine Ru.step (pc' := 4) (ls' := [some (.inr (.inr (some 0))), none, none, none, none, none, none, none]) (st' := [.inr (.inr (some 27)), .inr (.inr (some 27))]) (h1 := sH1 L xs) rfl ?_
  refine Ru.call (h1 := sH148 L xs) rfl (st_c13.up (by decide)) ?_
  refine Ru.step (pc' := 8) (ls' := [some (.inr (.inr (some 0))), some (.inr (.inr (some 27))), none, none, none, none, none, none]) (st' := []) (h1 := sH148 L xs) rfl ?_
  refine Ru.step (pc' := 11) (ls' := [some (.inr (.inr (some 0))), some (.inr (.inr (some 27))), none, none, none, none, none, none]) (st' := [.inr (.inr (some 84))]) (h1 := sH149 L xs) rfl ?_
  refine Ru.step (pc' := 12) (ls' := [some (.inr (.inr (some 0))), some (.inr (.inr (some 27))), none, none, none, none, none, none]) (st' := [.inr (.inr (some 84)), .inr (.inr (some 84))]) (h1 := sH149 L xs) rfl ?_
  refine Ru.call (h1 := sH251 L xs) rfl (st_c14.up (by decide)) ?_
  refine Ru.step (pc' := 16) (ls' := [some (.inr (.inr (some 0))), some (.inr (.inr (some 27))), some (.inr (.inr (some 84))), none, none, none, none, none]) (st' := []) (h1 := sH251 L xs) rfl ?_
  refine Ru.step (pc' := 17) (ls' := [some (.inr (.inr (some 0))), some (.inr (.inr (some 27))), some (.inr (.inr (some 84))), none, none, none, none, none]) (st' := [.inl 1]) (h1 := sH251 L xs) rfl ?_
  refine Ru.step (pc' := 19) (ls' := [some (.inr (.inr (some 0))), some (.inr (.inr (some 27))), some (.inr (.inr (some 84))), none, none, none, none, none]) (st' := [.inr (.inr (some 136))]) (h1 := sH252 L xs) rfl ?_
  refine Ru.step (pc' := 20) (ls' := [some (.inr (.inr (some 0))), some (.inr (.inr (some 27))), some (.inr (.inr (some 84))), some (.inr (.inr (some 136))), none, none, none, none]) (st' := []) (h1 := sH252 L xs) rfl ?_
  refine Ru.step (pc' := 21) (ls' := [some (.inr (.inr (some 0))), some (.inr (.inr (some 27))), some (.inr (.inr (some 84))), some (.inr (.inr (some 136))), none, none, none, none]) (st' := [.inl 0]) (h1 := sH252 L xs) rfl ?_
  refine Ru.step (pc' := 23) (ls' := [some (.inr (.inr (some 0))), some (.inr (.inr (some 27))), some (.inr (.inr (some 84))), some (.inr (.inr (some 136))), some (.inl 0), none, none, none]) (st' := []) (h1 := sH252 L xs) rfl ?_
  exact k1
def st_kl : List (Nat × (Nat × Nat)) := [(27, (100, 14)), (28, (1, 8192)), (29, (104, 1)), (30, (0, 11)), (31, (106, 11)), (32, (0, 8192)), (33, (0, 4112)), (34, (2, 4112)), (35, (2, 4112)), (36, (0, 4112)), (37, (0, 4112)), (38, (0, 4112)), (39, (105, 12)), (40, (1, 8192)), (41, (0, 8193)), (42, (0, 8193)), (43, (0, 8193)), (44, (2, 8193)), (45, (0, 8193)), (46, (107, 8)), (47, (0, 8192)), (48, (0, 8192)), (49, (0, 8192)), (50, (0, 8192)), (51, (0, 8192)), (52, (0, 8192)), (53, (0, 8192)), (54, (111, 8)), (55, (0, 1171)), (56, (0, 1171)), (57, (0, 1171)), (58, (0, 1171)), (59, (0, 1171)), (60, (0, 1171)), (61, (102, 5)), (62, (0, 2049)), (63, (0, 2049)), (64, (0, 2049)), (65, (0, 2049)), (66, (103, 13)), (67, (0, 8192)), (68, (0, 8192)), (69, (0, 8192)), (70, (109, 10)), (71, (0, 80)), (72, (0, 80)), (73, (101, 6)), (74, (110, 14)), (75, (0, 1171)), (76, (0, 2731)), (77, (0, 2731)), (78, (0, 1171)), (79, (0, 1171)), (80, (0, 1171)), (81, (0, 1171)), (82, (108, 3)), (83, (1, 16384)), (84, (112, 75)), (85, (0, 8192)), (86, (0, 8192)), (87, (0, 25000)), (88, (0, 8200)), (89, (0, 8200)), (90, (0, 8200)), (91, (3, 8200)), (92, (3, 8200)), (93, (3, 8200)), (94, (0, 4100)), (95, (0, 4100)), (96, (0, 4100)), (97, (0, 4100)), (98, (0, 4100)), (99, (0, 4100)), (100, (0, 4100)), (101, (0, 4100)), (102, (0, 4100)), (103, (0, 4100)), (104, (0, 8200)), (105, (0, 8200)), (106, (0, 8200)), (107, (0, 8200)), (108, (0, 8200)), (109, (0, 8200)), (110, (0, 8200)), (111, (0, 8200)), (112, (0, 8200)), (113, (0, 8200)), (114, (3, 100)), (115, (0, 100)), (116, (0, 8200)), (117, (0, 8200)), (118, (0, 8200)), (119, (0, 8200)), (120, (0, 8200)), (121, (0, 8200)), (122, (0, 8200)), (123, (0, 8200)), (124, (0, 8200)), (125, (0, 16400)), (126, (0, 8200)), (127, (0, 8200)), (128, (0, 8200)), (129, (0, 8200)), (130, (0, 8200)), (131, (0, 8200)), (132, (0, 8200)), (133, (0, 4100)), (134, (0, 4100)), (135, (0, 8200)), (136, (2, 1))]
def st_sl : List ((Nat × Nat) × Int) := [((30, 0), (-1)), ((30, 1), (-1)), ((30, 2), (-1)), ((30, 3), (-1)), ((30, 4), (-1)), ((30, 5), (-1)), ((30, 6), (-1)), ((30, 7), (-1)), ((30, 8), (-1)), ((30, 9), (-1)), ((30, 10), (-1))]
def st_rl : List ((Nat × Nat) × Option Nat) := [((27, 0), some 28), ((29, 0), some 30), ((27, 3), some 29), ((31, 0), some 32), ((31, 1), some 33), ((31, 2), some 34), ((31, 3), some 35), ((31, 4), some 36), ((31, 5), some 37), ((31, 6), some 38), ((27, 4), some 31), ((39, 2), some 40), ((39, 3), some 41), ((39, 4), some 42), ((39, 5), some 43), ((39, 6), some 44), ((39, 7), some 45), ((39, 0), some 29), ((39, 1), some 31), ((27, 5), some 39), ((46, 0), some 47), ((46, 1), some 48), ((46, 2), some 49), ((46, 3), some 50), ((46, 4), some 51), ((46, 5), some 52), ((46, 6), some 53), ((27, 6), some 46), ((54, 0), some 55), ((54, 1), some 56), ((54, 2), some 57), ((54, 3), some 58), ((54, 4), some 59), ((54, 5), some 60), ((27, 7), some 54), ((61, 0), some 62), ((61, 1), some 63), ((61, 2), some 64), ((61, 3), some 65), ((27, 8), some 61), ((66, 4), some 67), ((66, 5), some 68), ((66, 6), some 69), ((66, 0), some 29), ((66, 1), some 31), ((66, 2), some 39), ((66, 3), some 46), ((27, 9), some 66), ((70, 7), some 71), ((70, 8), some 72), ((70, 0), some 29), ((70, 1), some 31), ((70, 2), some 39), ((70, 3), some 46), ((70, 4), some 54), ((70, 5), some 61), ((70, 6), some 66), ((27, 10), some 70), ((73, 0), some 29), ((73, 1), some 31), ((73, 2), some 39), ((73, 3), some 46), ((73, 4), some 54), ((73, 5), some 61), ((27, 11), some 73), ((74, 4), some 75), ((74, 5), some 76), ((74, 6), some 77), ((74, 8), some 78), ((74, 9), some 79), ((74, 10), some 80), ((74, 12), some 81), ((74, 0), some 29), ((74, 1), some 31), ((74, 2), some 39), ((74, 3), some 54), ((27, 12), some 74), ((82, 1), some 83), ((82, 0), some 39), ((27, 13), some 82), ((84, 2), some 85), ((84, 4), some 86), ((84, 10), some 87), ((84, 12), some 88), ((84, 13), some 89), ((84, 14), some 90), ((84, 15), some 91), ((84, 16), some 92), ((84, 17), some 93), ((84, 20), some 94), ((84, 21), some 95), ((84, 22), some 96), ((84, 23), some 97), ((84, 24), some 98), ((84, 25), some 99), ((84, 26), some 100), ((84, 27), some 101), ((84, 28), some 102), ((84, 29), some 103), ((84, 32), some 104), ((84, 33), some 105), ((84, 35), some 106), ((84, 36), some 107), ((84, 37), some 108), ((84, 38), some 109), ((84, 39), some 110), ((84, 40), some 111), ((84, 41), some 112), ((84, 42), some 113), ((84, 44), some 114), ((84, 45), some 115), ((84, 48), some 116), ((84, 49), some 117), ((84, 50), some 118), ((84, 51), some 119), ((84, 52), some 120), ((84, 53), some 121), ((84, 54), some 122), ((84, 55), some 123), ((84, 56), some 124), ((84, 58), some 125), ((84, 60), some 126), ((84, 61), some 127), ((84, 62), some 128), ((84, 64), some 129), ((84, 65), some 130), ((84, 66), some 131), ((84, 69), some 132), ((84, 71), some 133), ((84, 73), some 134), ((84, 74), some 135)]
def sKn (L : Nat) : Nat → Nat × Nat := sK110 L
def sSn (L : Nat) (xs : Nat → Int) : Nat → Nat → Int := sS11 L xs
def sRn : Nat → Nat → Option Nat := sR131
