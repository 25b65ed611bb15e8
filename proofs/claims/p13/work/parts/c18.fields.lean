/-! THE CLASSES' FIELDS. -/
set_option maxRecDepth 20000 in
theorem fw_0_0 : so_Fw 0 0 := tb_i2 (List.mem_of_getElem? (i := 187) rfl)
set_option maxRecDepth 20000 in
theorem fw_0_1 : so_Fw 0 1 := tb_i2 (List.mem_of_getElem? (i := 189) rfl)
set_option maxRecDepth 20000 in
theorem fw_0_2 : so_Fw 0 2 := tb_i2 (List.mem_of_getElem? (i := 191) rfl)
set_option maxRecDepth 20000 in
theorem fw_0_3 : so_Fw 0 3 := tb_i2 (List.mem_of_getElem? (i := 193) rfl)
set_option maxRecDepth 20000 in
theorem fw_0_4 : so_Fw 0 4 := tb_i2 (List.mem_of_getElem? (i := 195) rfl)
set_option maxRecDepth 20000 in
theorem fw_0_5 : so_Fw 0 5 := tb_i2 (List.mem_of_getElem? (i := 197) rfl)
set_option maxRecDepth 20000 in
theorem fw_0_6 : so_Fw 0 6 := tb_i2 (List.mem_of_getElem? (i := 199) rfl)
set_option maxRecDepth 20000 in
theorem fw_0_7 : so_Fw 0 7 := tb_i2 (List.mem_of_getElem? (i := 201) rfl)
set_option maxRecDepth 20000 in
theorem fw_0_8 : so_Fw 0 8 := tb_i2 (List.mem_of_getElem? (i := 203) rfl)
set_option maxRecDepth 20000 in
theorem fw_0_9 : so_Fw 0 9 := tb_i2 (List.mem_of_getElem? (i := 205) rfl)
set_option maxRecDepth 20000 in
theorem fw_0_10 : so_Fw 0 10 := tb_i2 (List.mem_of_getElem? (i := 207) rfl)
set_option maxRecDepth 20000 in
theorem fw_0_11 : so_Fw 0 11 := tb_i2 (List.mem_of_getElem? (i := 209) rfl)
set_option maxRecDepth 20000 in
theorem fw_0_12 : so_Fw 0 12 := tb_i2 (List.mem_of_getElem? (i := 211) rfl)
set_option maxRecDepth 20000 in
theorem fw_0_13 : so_Fw 0 13 := tb_i2 (List.mem_of_getElem? (i := 213) rfl)
theorem fw_0 : ∀ b, b < tb_N 0 → so_Fw 0 b := fun b hb => match b, hb with
  | 0, _ => fw_0_0
  | 1, _ => fw_0_1
  | 2, _ => fw_0_2
  | 3, _ => fw_0_3
  | 4, _ => fw_0_4
  | 5, _ => fw_0_5
  | 6, _ => fw_0_6
  | 7, _ => fw_0_7
  | 8, _ => fw_0_8
  | 9, _ => fw_0_9
  | 10, _ => fw_0_10
  | 11, _ => fw_0_11
  | 12, _ => fw_0_12
  | 13, _ => fw_0_13
  | b + 14, hb => absurd hb (by show ¬ b + 14 < 14; omega)
set_option maxRecDepth 20000 in
theorem fn_0 : ∀ b, b < tb_N 0 → ∀ k, k < tb_N 0 → b ≠ k → (tb_f 0 b).1 ≠ (tb_f 0 k).1 := by decide +kernel
set_option maxRecDepth 20000 in
theorem fd_0 : ∀ b, b < tb_N 0 → so_Fd 0 b = true := by decide +kernel
set_option maxRecDepth 20000 in
theorem cw_0 : so_Cw 0 := ⟨fw_0, fn_0, tb_i1 (List.mem_of_getElem? (i := 30) rfl), tb_i1 (List.mem_of_getElem? (i := 1) rfl), fun b hb => so_Fd_of (fd_0 b hb)⟩
set_option maxRecDepth 20000 in
theorem fw_1_0 : so_Fw 1 0 := tb_i2 (List.mem_of_getElem? (i := 94) rfl)
set_option maxRecDepth 20000 in
theorem fw_1_1 : so_Fw 1 1 := tb_i2 (List.mem_of_getElem? (i := 96) rfl)
set_option maxRecDepth 20000 in
theorem fw_1_2 : so_Fw 1 2 := tb_i2 (List.mem_of_getElem? (i := 98) rfl)
set_option maxRecDepth 20000 in
theorem fw_1_3 : so_Fw 1 3 := tb_i2 (List.mem_of_getElem? (i := 100) rfl)
set_option maxRecDepth 20000 in
theorem fw_1_4 : so_Fw 1 4 := tb_i2 (List.mem_of_getElem? (i := 102) rfl)
set_option maxRecDepth 20000 in
theorem fw_1_5 : so_Fw 1 5 := tb_i2 (List.mem_of_getElem? (i := 104) rfl)
theorem fw_1 : ∀ b, b < tb_N 1 → so_Fw 1 b := fun b hb => match b, hb with
  | 0, _ => fw_1_0
  | 1, _ => fw_1_1
  | 2, _ => fw_1_2
  | 3, _ => fw_1_3
  | 4, _ => fw_1_4
  | 5, _ => fw_1_5
  | b + 6, hb => absurd hb (by show ¬ b + 6 < 6; omega)
set_option maxRecDepth 20000 in
theorem fn_1 : ∀ b, b < tb_N 1 → ∀ k, k < tb_N 1 → b ≠ k → (tb_f 1 b).1 ≠ (tb_f 1 k).1 := by decide +kernel
set_option maxRecDepth 20000 in
theorem fd_1 : ∀ b, b < tb_N 1 → so_Fd 1 b = true := by decide +kernel
set_option maxRecDepth 20000 in
theorem cw_1 : so_Cw 1 := ⟨fw_1, fn_1, tb_i2 (List.mem_of_getElem? (i := 83) rfl), tb_i1 (List.mem_of_getElem? (i := 11) rfl), fun b hb => so_Fd_of (fd_1 b hb)⟩
set_option maxRecDepth 20000 in
theorem fw_2_0 : so_Fw 2 0 := tb_i1 (List.mem_of_getElem? (i := 227) rfl)
set_option maxRecDepth 20000 in
theorem fw_2_1 : so_Fw 2 1 := tb_i1 (List.mem_of_getElem? (i := 229) rfl)
set_option maxRecDepth 20000 in
theorem fw_2_2 : so_Fw 2 2 := tb_i1 (List.mem_of_getElem? (i := 231) rfl)
set_option maxRecDepth 20000 in
theorem fw_2_3 : so_Fw 2 3 := tb_i1 (List.mem_of_getElem? (i := 233) rfl)
set_option maxRecDepth 20000 in
theorem fw_2_4 : so_Fw 2 4 := tb_i1 (List.mem_of_getElem? (i := 235) rfl)
theorem fw_2 : ∀ b, b < tb_N 2 → so_Fw 2 b := fun b hb => match b, hb with
  | 0, _ => fw_2_0
  | 1, _ => fw_2_1
  | 2, _ => fw_2_2
  | 3, _ => fw_2_3
  | 4, _ => fw_2_4
  | b + 5, hb => absurd hb (by show ¬ b + 5 < 5; omega)
set_option maxRecDepth 20000 in
theorem fn_2 : ∀ b, b < tb_N 2 → ∀ k, k < tb_N 2 → b ≠ k → (tb_f 2 b).1 ≠ (tb_f 2 k).1 := by decide +kernel
set_option maxRecDepth 20000 in
theorem fd_2 : ∀ b, b < tb_N 2 → so_Fd 2 b = true := by decide +kernel
set_option maxRecDepth 20000 in
theorem cw_2 : so_Cw 2 := ⟨fw_2, fn_2, tb_i1 (List.mem_of_getElem? (i := 216) rfl), tb_i1 (List.mem_of_getElem? (i := 8) rfl), fun b hb => so_Fd_of (fd_2 b hb)⟩
set_option maxRecDepth 20000 in
theorem fw_3_0 : so_Fw 3 0 := tb_i2 (List.mem_of_getElem? (i := 18) rfl)
set_option maxRecDepth 20000 in
theorem fw_3_1 : so_Fw 3 1 := tb_i2 (List.mem_of_getElem? (i := 20) rfl)
set_option maxRecDepth 20000 in
theorem fw_3_2 : so_Fw 3 2 := tb_i2 (List.mem_of_getElem? (i := 22) rfl)
set_option maxRecDepth 20000 in
theorem fw_3_3 : so_Fw 3 3 := tb_i2 (List.mem_of_getElem? (i := 24) rfl)
set_option maxRecDepth 20000 in
theorem fw_3_4 : so_Fw 3 4 := tb_i2 (List.mem_of_getElem? (i := 26) rfl)
set_option maxRecDepth 20000 in
theorem fw_3_5 : so_Fw 3 5 := tb_i2 (List.mem_of_getElem? (i := 28) rfl)
set_option maxRecDepth 20000 in
theorem fw_3_6 : so_Fw 3 6 := tb_i2 (List.mem_of_getElem? (i := 30) rfl)
set_option maxRecDepth 20000 in
theorem fw_3_7 : so_Fw 3 7 := tb_i2 (List.mem_of_getElem? (i := 32) rfl)
set_option maxRecDepth 20000 in
theorem fw_3_8 : so_Fw 3 8 := tb_i2 (List.mem_of_getElem? (i := 34) rfl)
set_option maxRecDepth 20000 in
theorem fw_3_9 : so_Fw 3 9 := tb_i2 (List.mem_of_getElem? (i := 36) rfl)
set_option maxRecDepth 20000 in
theorem fw_3_10 : so_Fw 3 10 := tb_i2 (List.mem_of_getElem? (i := 38) rfl)
set_option maxRecDepth 20000 in
theorem fw_3_11 : so_Fw 3 11 := tb_i2 (List.mem_of_getElem? (i := 40) rfl)
set_option maxRecDepth 20000 in
theorem fw_3_12 : so_Fw 3 12 := tb_i2 (List.mem_of_getElem? (i := 42) rfl)
theorem fw_3 : ∀ b, b < tb_N 3 → so_Fw 3 b := fun b hb => match b, hb with
  | 0, _ => fw_3_0
  | 1, _ => fw_3_1
  | 2, _ => fw_3_2
  | 3, _ => fw_3_3
  | 4, _ => fw_3_4
  | 5, _ => fw_3_5
  | 6, _ => fw_3_6
  | 7, _ => fw_3_7
  | 8, _ => fw_3_8
  | 9, _ => fw_3_9
  | 10, _ => fw_3_10
  | 11, _ => fw_3_11
  | 12, _ => fw_3_12
  | b + 13, hb => absurd hb (by show ¬ b + 13 < 13; omega)
set_option maxRecDepth 20000 in
theorem fn_3 : ∀ b, b < tb_N 3 → ∀ k, k < tb_N 3 → b ≠ k → (tb_f 3 b).1 ≠ (tb_f 3 k).1 := by decide +kernel
set_option maxRecDepth 20000 in
theorem fd_3 : ∀ b, b < tb_N 3 → so_Fd 3 b = true := by decide +kernel
set_option maxRecDepth 20000 in
theorem cw_3 : so_Cw 3 := ⟨fw_3, fn_3, tb_i1 (List.mem_of_getElem? (i := 239) rfl), tb_i1 (List.mem_of_getElem? (i := 9) rfl), fun b hb => so_Fd_of (fd_3 b hb)⟩
set_option maxRecDepth 20000 in
theorem fw_4_0 : so_Fw 4 0 := tb_i1 (List.mem_of_getElem? (i := 47) rfl)
theorem fw_4 : ∀ b, b < tb_N 4 → so_Fw 4 b := fun b hb => match b, hb with
  | 0, _ => fw_4_0
  | b + 1, hb => absurd hb (by show ¬ b + 1 < 1; omega)
set_option maxRecDepth 20000 in
theorem fn_4 : ∀ b, b < tb_N 4 → ∀ k, k < tb_N 4 → b ≠ k → (tb_f 4 b).1 ≠ (tb_f 4 k).1 := by decide +kernel
set_option maxRecDepth 20000 in
theorem fd_4 : ∀ b, b < tb_N 4 → so_Fd 4 b = true := by decide +kernel
set_option maxRecDepth 20000 in
theorem cw_4 : so_Cw 4 := ⟨fw_4, fn_4, tb_i1 (List.mem_of_getElem? (i := 38) rfl), tb_i1 (List.mem_of_getElem? (i := 2) rfl), fun b hb => so_Fd_of (fd_4 b hb)⟩
set_option maxRecDepth 20000 in
theorem fw_5_0 : so_Fw 5 0 := tb_i1 (List.mem_of_getElem? (i := 120) rfl)
set_option maxRecDepth 20000 in
theorem fw_5_1 : so_Fw 5 1 := tb_i1 (List.mem_of_getElem? (i := 122) rfl)
set_option maxRecDepth 20000 in
theorem fw_5_2 : so_Fw 5 2 := tb_i1 (List.mem_of_getElem? (i := 124) rfl)
set_option maxRecDepth 20000 in
theorem fw_5_3 : so_Fw 5 3 := tb_i1 (List.mem_of_getElem? (i := 126) rfl)
set_option maxRecDepth 20000 in
theorem fw_5_4 : so_Fw 5 4 := tb_i1 (List.mem_of_getElem? (i := 128) rfl)
set_option maxRecDepth 20000 in
theorem fw_5_5 : so_Fw 5 5 := tb_i1 (List.mem_of_getElem? (i := 130) rfl)
set_option maxRecDepth 20000 in
theorem fw_5_6 : so_Fw 5 6 := tb_i1 (List.mem_of_getElem? (i := 132) rfl)
set_option maxRecDepth 20000 in
theorem fw_5_7 : so_Fw 5 7 := tb_i1 (List.mem_of_getElem? (i := 134) rfl)
set_option maxRecDepth 20000 in
theorem fw_5_8 : so_Fw 5 8 := tb_i1 (List.mem_of_getElem? (i := 136) rfl)
set_option maxRecDepth 20000 in
theorem fw_5_9 : so_Fw 5 9 := tb_i1 (List.mem_of_getElem? (i := 138) rfl)
set_option maxRecDepth 20000 in
theorem fw_5_10 : so_Fw 5 10 := tb_i1 (List.mem_of_getElem? (i := 140) rfl)
set_option maxRecDepth 20000 in
theorem fw_5_11 : so_Fw 5 11 := tb_i1 (List.mem_of_getElem? (i := 142) rfl)
theorem fw_5 : ∀ b, b < tb_N 5 → so_Fw 5 b := fun b hb => match b, hb with
  | 0, _ => fw_5_0
  | 1, _ => fw_5_1
  | 2, _ => fw_5_2
  | 3, _ => fw_5_3
  | 4, _ => fw_5_4
  | 5, _ => fw_5_5
  | 6, _ => fw_5_6
  | 7, _ => fw_5_7
  | 8, _ => fw_5_8
  | 9, _ => fw_5_9
  | 10, _ => fw_5_10
  | 11, _ => fw_5_11
  | b + 12, hb => absurd hb (by show ¬ b + 12 < 12; omega)
set_option maxRecDepth 20000 in
theorem fn_5 : ∀ b, b < tb_N 5 → ∀ k, k < tb_N 5 → b ≠ k → (tb_f 5 b).1 ≠ (tb_f 5 k).1 := by decide +kernel
set_option maxRecDepth 20000 in
theorem fd_5 : ∀ b, b < tb_N 5 → so_Fd 5 b = true := by decide +kernel
set_option maxRecDepth 20000 in
theorem cw_5 : so_Cw 5 := ⟨fw_5, fn_5, tb_i1 (List.mem_of_getElem? (i := 95) rfl), tb_i1 (List.mem_of_getElem? (i := 5) rfl), fun b hb => so_Fd_of (fd_5 b hb)⟩
set_option maxRecDepth 20000 in
theorem fw_6_0 : so_Fw 6 0 := tb_i1 (List.mem_of_getElem? (i := 70) rfl)
set_option maxRecDepth 20000 in
theorem fw_6_1 : so_Fw 6 1 := tb_i1 (List.mem_of_getElem? (i := 72) rfl)
set_option maxRecDepth 20000 in
theorem fw_6_2 : so_Fw 6 2 := tb_i1 (List.mem_of_getElem? (i := 74) rfl)
set_option maxRecDepth 20000 in
theorem fw_6_3 : so_Fw 6 3 := tb_i1 (List.mem_of_getElem? (i := 76) rfl)
set_option maxRecDepth 20000 in
theorem fw_6_4 : so_Fw 6 4 := tb_i1 (List.mem_of_getElem? (i := 78) rfl)
set_option maxRecDepth 20000 in
theorem fw_6_5 : so_Fw 6 5 := tb_i1 (List.mem_of_getElem? (i := 80) rfl)
set_option maxRecDepth 20000 in
theorem fw_6_6 : so_Fw 6 6 := tb_i1 (List.mem_of_getElem? (i := 82) rfl)
set_option maxRecDepth 20000 in
theorem fw_6_7 : so_Fw 6 7 := tb_i1 (List.mem_of_getElem? (i := 84) rfl)
set_option maxRecDepth 20000 in
theorem fw_6_8 : so_Fw 6 8 := tb_i1 (List.mem_of_getElem? (i := 86) rfl)
set_option maxRecDepth 20000 in
theorem fw_6_9 : so_Fw 6 9 := tb_i1 (List.mem_of_getElem? (i := 88) rfl)
set_option maxRecDepth 20000 in
theorem fw_6_10 : so_Fw 6 10 := tb_i1 (List.mem_of_getElem? (i := 90) rfl)
theorem fw_6 : ∀ b, b < tb_N 6 → so_Fw 6 b := fun b hb => match b, hb with
  | 0, _ => fw_6_0
  | 1, _ => fw_6_1
  | 2, _ => fw_6_2
  | 3, _ => fw_6_3
  | 4, _ => fw_6_4
  | 5, _ => fw_6_5
  | 6, _ => fw_6_6
  | 7, _ => fw_6_7
  | 8, _ => fw_6_8
  | 9, _ => fw_6_9
  | 10, _ => fw_6_10
  | b + 11, hb => absurd hb (by show ¬ b + 11 < 11; omega)
set_option maxRecDepth 20000 in
theorem fn_6 : ∀ b, b < tb_N 6 → ∀ k, k < tb_N 6 → b ≠ k → (tb_f 6 b).1 ≠ (tb_f 6 k).1 := by decide +kernel
set_option maxRecDepth 20000 in
theorem fd_6 : ∀ b, b < tb_N 6 → so_Fd 6 b = true := by decide +kernel
set_option maxRecDepth 20000 in
theorem cw_6 : so_Cw 6 := ⟨fw_6, fn_6, tb_i1 (List.mem_of_getElem? (i := 53) rfl), tb_i1 (List.mem_of_getElem? (i := 4) rfl), fun b hb => so_Fd_of (fd_6 b hb)⟩
set_option maxRecDepth 20000 in
theorem fw_7_0 : so_Fw 7 0 := tb_i1 (List.mem_of_getElem? (i := 162) rfl)
set_option maxRecDepth 20000 in
theorem fw_7_1 : so_Fw 7 1 := tb_i1 (List.mem_of_getElem? (i := 164) rfl)
set_option maxRecDepth 20000 in
theorem fw_7_2 : so_Fw 7 2 := tb_i1 (List.mem_of_getElem? (i := 166) rfl)
set_option maxRecDepth 20000 in
theorem fw_7_3 : so_Fw 7 3 := tb_i1 (List.mem_of_getElem? (i := 168) rfl)
set_option maxRecDepth 20000 in
theorem fw_7_4 : so_Fw 7 4 := tb_i1 (List.mem_of_getElem? (i := 170) rfl)
set_option maxRecDepth 20000 in
theorem fw_7_5 : so_Fw 7 5 := tb_i1 (List.mem_of_getElem? (i := 172) rfl)
set_option maxRecDepth 20000 in
theorem fw_7_6 : so_Fw 7 6 := tb_i1 (List.mem_of_getElem? (i := 174) rfl)
set_option maxRecDepth 20000 in
theorem fw_7_7 : so_Fw 7 7 := tb_i1 (List.mem_of_getElem? (i := 176) rfl)
theorem fw_7 : ∀ b, b < tb_N 7 → so_Fw 7 b := fun b hb => match b, hb with
  | 0, _ => fw_7_0
  | 1, _ => fw_7_1
  | 2, _ => fw_7_2
  | 3, _ => fw_7_3
  | 4, _ => fw_7_4
  | 5, _ => fw_7_5
  | 6, _ => fw_7_6
  | 7, _ => fw_7_7
  | b + 8, hb => absurd hb (by show ¬ b + 8 < 8; omega)
set_option maxRecDepth 20000 in
theorem fn_7 : ∀ b, b < tb_N 7 → ∀ k, k < tb_N 7 → b ≠ k → (tb_f 7 b).1 ≠ (tb_f 7 k).1 := by decide +kernel
set_option maxRecDepth 20000 in
theorem fd_7 : ∀ b, b < tb_N 7 → so_Fd 7 b = true := by decide +kernel
set_option maxRecDepth 20000 in
theorem cw_7 : so_Cw 7 := ⟨fw_7, fn_7, tb_i1 (List.mem_of_getElem? (i := 146) rfl), tb_i1 (List.mem_of_getElem? (i := 6) rfl), fun b hb => so_Fd_of (fd_7 b hb)⟩
set_option maxRecDepth 20000 in
theorem fw_8_0 : so_Fw 8 0 := tb_i2 (List.mem_of_getElem? (i := 166) rfl)
set_option maxRecDepth 20000 in
theorem fw_8_1 : so_Fw 8 1 := tb_i2 (List.mem_of_getElem? (i := 168) rfl)
set_option maxRecDepth 20000 in
theorem fw_8_2 : so_Fw 8 2 := tb_i2 (List.mem_of_getElem? (i := 170) rfl)
theorem fw_8 : ∀ b, b < tb_N 8 → so_Fw 8 b := fun b hb => match b, hb with
  | 0, _ => fw_8_0
  | 1, _ => fw_8_1
  | 2, _ => fw_8_2
  | b + 3, hb => absurd hb (by show ¬ b + 3 < 3; omega)
set_option maxRecDepth 20000 in
theorem fn_8 : ∀ b, b < tb_N 8 → ∀ k, k < tb_N 8 → b ≠ k → (tb_f 8 b).1 ≠ (tb_f 8 k).1 := by decide +kernel
set_option maxRecDepth 20000 in
theorem fd_8 : ∀ b, b < tb_N 8 → so_Fd 8 b = true := by decide +kernel
set_option maxRecDepth 20000 in
theorem cw_8 : so_Cw 8 := ⟨fw_8, fn_8, tb_i2 (List.mem_of_getElem? (i := 157) rfl), tb_i1 (List.mem_of_getElem? (i := 13) rfl), fun b hb => so_Fd_of (fd_8 b hb)⟩
set_option maxRecDepth 20000 in
theorem fw_9_0 : so_Fw 9 0 := tb_i2 (List.mem_of_getElem? (i := 61) rfl)
set_option maxRecDepth 20000 in
theorem fw_9_1 : so_Fw 9 1 := tb_i2 (List.mem_of_getElem? (i := 63) rfl)
set_option maxRecDepth 20000 in
theorem fw_9_2 : so_Fw 9 2 := tb_i2 (List.mem_of_getElem? (i := 65) rfl)
set_option maxRecDepth 20000 in
theorem fw_9_3 : so_Fw 9 3 := tb_i2 (List.mem_of_getElem? (i := 67) rfl)
set_option maxRecDepth 20000 in
theorem fw_9_4 : so_Fw 9 4 := tb_i2 (List.mem_of_getElem? (i := 69) rfl)
set_option maxRecDepth 20000 in
theorem fw_9_5 : so_Fw 9 5 := tb_i2 (List.mem_of_getElem? (i := 71) rfl)
set_option maxRecDepth 20000 in
theorem fw_9_6 : so_Fw 9 6 := tb_i2 (List.mem_of_getElem? (i := 73) rfl)
set_option maxRecDepth 20000 in
theorem fw_9_7 : so_Fw 9 7 := tb_i2 (List.mem_of_getElem? (i := 75) rfl)
set_option maxRecDepth 20000 in
theorem fw_9_8 : so_Fw 9 8 := tb_i2 (List.mem_of_getElem? (i := 77) rfl)
set_option maxRecDepth 20000 in
theorem fw_9_9 : so_Fw 9 9 := tb_i2 (List.mem_of_getElem? (i := 79) rfl)
theorem fw_9 : ∀ b, b < tb_N 9 → so_Fw 9 b := fun b hb => match b, hb with
  | 0, _ => fw_9_0
  | 1, _ => fw_9_1
  | 2, _ => fw_9_2
  | 3, _ => fw_9_3
  | 4, _ => fw_9_4
  | 5, _ => fw_9_5
  | 6, _ => fw_9_6
  | 7, _ => fw_9_7
  | 8, _ => fw_9_8
  | 9, _ => fw_9_9
  | b + 10, hb => absurd hb (by show ¬ b + 10 < 10; omega)
set_option maxRecDepth 20000 in
theorem fn_9 : ∀ b, b < tb_N 9 → ∀ k, k < tb_N 9 → b ≠ k → (tb_f 9 b).1 ≠ (tb_f 9 k).1 := by decide +kernel
set_option maxRecDepth 20000 in
theorem fd_9 : ∀ b, b < tb_N 9 → so_Fd 9 b = true := by decide +kernel
set_option maxRecDepth 20000 in
theorem cw_9 : so_Cw 9 := ⟨fw_9, fn_9, tb_i2 (List.mem_of_getElem? (i := 46) rfl), tb_i1 (List.mem_of_getElem? (i := 10) rfl), fun b hb => so_Fd_of (fd_9 b hb)⟩
set_option maxRecDepth 20000 in
theorem fw_10_0 : so_Fw 10 0 := tb_i2 (List.mem_of_getElem? (i := 127) rfl)
set_option maxRecDepth 20000 in
theorem fw_10_1 : so_Fw 10 1 := tb_i2 (List.mem_of_getElem? (i := 129) rfl)
set_option maxRecDepth 20000 in
theorem fw_10_2 : so_Fw 10 2 := tb_i2 (List.mem_of_getElem? (i := 131) rfl)
set_option maxRecDepth 20000 in
theorem fw_10_3 : so_Fw 10 3 := tb_i2 (List.mem_of_getElem? (i := 133) rfl)
set_option maxRecDepth 20000 in
theorem fw_10_4 : so_Fw 10 4 := tb_i2 (List.mem_of_getElem? (i := 135) rfl)
set_option maxRecDepth 20000 in
theorem fw_10_5 : so_Fw 10 5 := tb_i2 (List.mem_of_getElem? (i := 137) rfl)
set_option maxRecDepth 20000 in
theorem fw_10_6 : so_Fw 10 6 := tb_i2 (List.mem_of_getElem? (i := 139) rfl)
set_option maxRecDepth 20000 in
theorem fw_10_7 : so_Fw 10 7 := tb_i2 (List.mem_of_getElem? (i := 141) rfl)
set_option maxRecDepth 20000 in
theorem fw_10_8 : so_Fw 10 8 := tb_i2 (List.mem_of_getElem? (i := 143) rfl)
set_option maxRecDepth 20000 in
theorem fw_10_9 : so_Fw 10 9 := tb_i2 (List.mem_of_getElem? (i := 145) rfl)
set_option maxRecDepth 20000 in
theorem fw_10_10 : so_Fw 10 10 := tb_i2 (List.mem_of_getElem? (i := 147) rfl)
set_option maxRecDepth 20000 in
theorem fw_10_11 : so_Fw 10 11 := tb_i2 (List.mem_of_getElem? (i := 149) rfl)
set_option maxRecDepth 20000 in
theorem fw_10_12 : so_Fw 10 12 := tb_i2 (List.mem_of_getElem? (i := 151) rfl)
set_option maxRecDepth 20000 in
theorem fw_10_13 : so_Fw 10 13 := tb_i2 (List.mem_of_getElem? (i := 153) rfl)
theorem fw_10 : ∀ b, b < tb_N 10 → so_Fw 10 b := fun b hb => match b, hb with
  | 0, _ => fw_10_0
  | 1, _ => fw_10_1
  | 2, _ => fw_10_2
  | 3, _ => fw_10_3
  | 4, _ => fw_10_4
  | 5, _ => fw_10_5
  | 6, _ => fw_10_6
  | 7, _ => fw_10_7
  | 8, _ => fw_10_8
  | 9, _ => fw_10_9
  | 10, _ => fw_10_10
  | 11, _ => fw_10_11
  | 12, _ => fw_10_12
  | 13, _ => fw_10_13
  | b + 14, hb => absurd hb (by show ¬ b + 14 < 14; omega)
set_option maxRecDepth 20000 in
theorem fn_10 : ∀ b, b < tb_N 10 → ∀ k, k < tb_N 10 → b ≠ k → (tb_f 10 b).1 ≠ (tb_f 10 k).1 := by decide +kernel
set_option maxRecDepth 20000 in
theorem fd_10 : ∀ b, b < tb_N 10 → so_Fd 10 b = true := by decide +kernel
set_option maxRecDepth 20000 in
theorem cw_10 : so_Cw 10 := ⟨fw_10, fn_10, tb_i2 (List.mem_of_getElem? (i := 108) rfl), tb_i1 (List.mem_of_getElem? (i := 12) rfl), fun b hb => so_Fd_of (fd_10 b hb)⟩
set_option maxRecDepth 20000 in
theorem fw_11_0 : so_Fw 11 0 := tb_i1 (List.mem_of_getElem? (i := 198) rfl)
set_option maxRecDepth 20000 in
theorem fw_11_1 : so_Fw 11 1 := tb_i1 (List.mem_of_getElem? (i := 200) rfl)
set_option maxRecDepth 20000 in
theorem fw_11_2 : so_Fw 11 2 := tb_i1 (List.mem_of_getElem? (i := 202) rfl)
set_option maxRecDepth 20000 in
theorem fw_11_3 : so_Fw 11 3 := tb_i1 (List.mem_of_getElem? (i := 204) rfl)
set_option maxRecDepth 20000 in
theorem fw_11_4 : so_Fw 11 4 := tb_i1 (List.mem_of_getElem? (i := 206) rfl)
set_option maxRecDepth 20000 in
theorem fw_11_5 : so_Fw 11 5 := tb_i1 (List.mem_of_getElem? (i := 208) rfl)
set_option maxRecDepth 20000 in
theorem fw_11_6 : so_Fw 11 6 := tb_i1 (List.mem_of_getElem? (i := 210) rfl)
set_option maxRecDepth 20000 in
theorem fw_11_7 : so_Fw 11 7 := tb_i1 (List.mem_of_getElem? (i := 212) rfl)
theorem fw_11 : ∀ b, b < tb_N 11 → so_Fw 11 b := fun b hb => match b, hb with
  | 0, _ => fw_11_0
  | 1, _ => fw_11_1
  | 2, _ => fw_11_2
  | 3, _ => fw_11_3
  | 4, _ => fw_11_4
  | 5, _ => fw_11_5
  | 6, _ => fw_11_6
  | 7, _ => fw_11_7
  | b + 8, hb => absurd hb (by show ¬ b + 8 < 8; omega)
set_option maxRecDepth 20000 in
theorem fn_11 : ∀ b, b < tb_N 11 → ∀ k, k < tb_N 11 → b ≠ k → (tb_f 11 b).1 ≠ (tb_f 11 k).1 := by decide +kernel
set_option maxRecDepth 20000 in
theorem fd_11 : ∀ b, b < tb_N 11 → so_Fd 11 b = true := by decide +kernel
set_option maxRecDepth 20000 in
theorem cw_11 : so_Cw 11 := ⟨fw_11, fn_11, tb_i1 (List.mem_of_getElem? (i := 180) rfl), tb_i1 (List.mem_of_getElem? (i := 7) rfl), fun b hb => so_Fd_of (fd_11 b hb)⟩
set_option maxRecDepth 20000 in
theorem fw_12_0 : so_Fw 12 0 := tb_i7 (List.mem_of_getElem? (i := 166) rfl)
set_option maxRecDepth 20000 in
theorem fw_12_1 : so_Fw 12 1 := tb_i7 (List.mem_of_getElem? (i := 168) rfl)
set_option maxRecDepth 20000 in
theorem fw_12_2 : so_Fw 12 2 := tb_i7 (List.mem_of_getElem? (i := 170) rfl)
set_option maxRecDepth 20000 in
theorem fw_12_3 : so_Fw 12 3 := tb_i7 (List.mem_of_getElem? (i := 172) rfl)
set_option maxRecDepth 20000 in
theorem fw_12_4 : so_Fw 12 4 := tb_i7 (List.mem_of_getElem? (i := 174) rfl)
set_option maxRecDepth 20000 in
theorem fw_12_5 : so_Fw 12 5 := tb_i7 (List.mem_of_getElem? (i := 176) rfl)
set_option maxRecDepth 20000 in
theorem fw_12_6 : so_Fw 12 6 := tb_i7 (List.mem_of_getElem? (i := 178) rfl)
set_option maxRecDepth 20000 in
theorem fw_12_7 : so_Fw 12 7 := tb_i7 (List.mem_of_getElem? (i := 180) rfl)
set_option maxRecDepth 20000 in
theorem fw_12_8 : so_Fw 12 8 := tb_i7 (List.mem_of_getElem? (i := 182) rfl)
set_option maxRecDepth 20000 in
theorem fw_12_9 : so_Fw 12 9 := tb_i7 (List.mem_of_getElem? (i := 184) rfl)
set_option maxRecDepth 20000 in
theorem fw_12_10 : so_Fw 12 10 := tb_i7 (List.mem_of_getElem? (i := 186) rfl)
set_option maxRecDepth 20000 in
theorem fw_12_11 : so_Fw 12 11 := tb_i7 (List.mem_of_getElem? (i := 188) rfl)
set_option maxRecDepth 20000 in
theorem fw_12_12 : so_Fw 12 12 := tb_i7 (List.mem_of_getElem? (i := 190) rfl)
set_option maxRecDepth 20000 in
theorem fw_12_13 : so_Fw 12 13 := tb_i7 (List.mem_of_getElem? (i := 192) rfl)
set_option maxRecDepth 20000 in
theorem fw_12_14 : so_Fw 12 14 := tb_i7 (List.mem_of_getElem? (i := 194) rfl)
set_option maxRecDepth 20000 in
theorem fw_12_15 : so_Fw 12 15 := tb_i7 (List.mem_of_getElem? (i := 196) rfl)
set_option maxRecDepth 20000 in
theorem fw_12_16 : so_Fw 12 16 := tb_i7 (List.mem_of_getElem? (i := 198) rfl)
set_option maxRecDepth 20000 in
theorem fw_12_17 : so_Fw 12 17 := tb_i7 (List.mem_of_getElem? (i := 200) rfl)
set_option maxRecDepth 20000 in
theorem fw_12_18 : so_Fw 12 18 := tb_i7 (List.mem_of_getElem? (i := 202) rfl)
set_option maxRecDepth 20000 in
theorem fw_12_19 : so_Fw 12 19 := tb_i7 (List.mem_of_getElem? (i := 204) rfl)
set_option maxRecDepth 20000 in
theorem fw_12_20 : so_Fw 12 20 := tb_i7 (List.mem_of_getElem? (i := 206) rfl)
set_option maxRecDepth 20000 in
theorem fw_12_21 : so_Fw 12 21 := tb_i7 (List.mem_of_getElem? (i := 208) rfl)
set_option maxRecDepth 20000 in
theorem fw_12_22 : so_Fw 12 22 := tb_i7 (List.mem_of_getElem? (i := 210) rfl)
set_option maxRecDepth 20000 in
theorem fw_12_23 : so_Fw 12 23 := tb_i7 (List.mem_of_getElem? (i := 212) rfl)
set_option maxRecDepth 20000 in
theorem fw_12_24 : so_Fw 12 24 := tb_i7 (List.mem_of_getElem? (i := 214) rfl)
set_option maxRecDepth 20000 in
theorem fw_12_25 : so_Fw 12 25 := tb_i7 (List.mem_of_getElem? (i := 216) rfl)
set_option maxRecDepth 20000 in
theorem fw_12_26 : so_Fw 12 26 := tb_i7 (List.mem_of_getElem? (i := 218) rfl)
set_option maxRecDepth 20000 in
theorem fw_12_27 : so_Fw 12 27 := tb_i7 (List.mem_of_getElem? (i := 220) rfl)
set_option maxRecDepth 20000 in
theorem fw_12_28 : so_Fw 12 28 := tb_i7 (List.mem_of_getElem? (i := 222) rfl)
set_option maxRecDepth 20000 in
theorem fw_12_29 : so_Fw 12 29 := tb_i7 (List.mem_of_getElem? (i := 224) rfl)
set_option maxRecDepth 20000 in
theorem fw_12_30 : so_Fw 12 30 := tb_i7 (List.mem_of_getElem? (i := 226) rfl)
set_option maxRecDepth 20000 in
theorem fw_12_31 : so_Fw 12 31 := tb_i7 (List.mem_of_getElem? (i := 228) rfl)
set_option maxRecDepth 20000 in
theorem fw_12_32 : so_Fw 12 32 := tb_i7 (List.mem_of_getElem? (i := 230) rfl)
set_option maxRecDepth 20000 in
theorem fw_12_33 : so_Fw 12 33 := tb_i7 (List.mem_of_getElem? (i := 232) rfl)
set_option maxRecDepth 20000 in
theorem fw_12_34 : so_Fw 12 34 := tb_i7 (List.mem_of_getElem? (i := 234) rfl)
set_option maxRecDepth 20000 in
theorem fw_12_35 : so_Fw 12 35 := tb_i7 (List.mem_of_getElem? (i := 236) rfl)
set_option maxRecDepth 20000 in
theorem fw_12_36 : so_Fw 12 36 := tb_i7 (List.mem_of_getElem? (i := 238) rfl)
set_option maxRecDepth 20000 in
theorem fw_12_37 : so_Fw 12 37 := tb_i8 (List.mem_of_getElem? (i := 0) rfl)
set_option maxRecDepth 20000 in
theorem fw_12_38 : so_Fw 12 38 := tb_i8 (List.mem_of_getElem? (i := 2) rfl)
set_option maxRecDepth 20000 in
theorem fw_12_39 : so_Fw 12 39 := tb_i8 (List.mem_of_getElem? (i := 4) rfl)
set_option maxRecDepth 20000 in
theorem fw_12_40 : so_Fw 12 40 := tb_i8 (List.mem_of_getElem? (i := 6) rfl)
set_option maxRecDepth 20000 in
theorem fw_12_41 : so_Fw 12 41 := tb_i8 (List.mem_of_getElem? (i := 8) rfl)
set_option maxRecDepth 20000 in
theorem fw_12_42 : so_Fw 12 42 := tb_i8 (List.mem_of_getElem? (i := 10) rfl)
set_option maxRecDepth 20000 in
theorem fw_12_43 : so_Fw 12 43 := tb_i8 (List.mem_of_getElem? (i := 12) rfl)
set_option maxRecDepth 20000 in
theorem fw_12_44 : so_Fw 12 44 := tb_i8 (List.mem_of_getElem? (i := 14) rfl)
set_option maxRecDepth 20000 in
theorem fw_12_45 : so_Fw 12 45 := tb_i8 (List.mem_of_getElem? (i := 16) rfl)
set_option maxRecDepth 20000 in
theorem fw_12_46 : so_Fw 12 46 := tb_i8 (List.mem_of_getElem? (i := 18) rfl)
set_option maxRecDepth 20000 in
theorem fw_12_47 : so_Fw 12 47 := tb_i8 (List.mem_of_getElem? (i := 20) rfl)
set_option maxRecDepth 20000 in
theorem fw_12_48 : so_Fw 12 48 := tb_i8 (List.mem_of_getElem? (i := 22) rfl)
set_option maxRecDepth 20000 in
theorem fw_12_49 : so_Fw 12 49 := tb_i8 (List.mem_of_getElem? (i := 24) rfl)
set_option maxRecDepth 20000 in
theorem fw_12_50 : so_Fw 12 50 := tb_i8 (List.mem_of_getElem? (i := 26) rfl)
set_option maxRecDepth 20000 in
theorem fw_12_51 : so_Fw 12 51 := tb_i8 (List.mem_of_getElem? (i := 28) rfl)
set_option maxRecDepth 20000 in
theorem fw_12_52 : so_Fw 12 52 := tb_i8 (List.mem_of_getElem? (i := 30) rfl)
set_option maxRecDepth 20000 in
theorem fw_12_53 : so_Fw 12 53 := tb_i8 (List.mem_of_getElem? (i := 32) rfl)
set_option maxRecDepth 20000 in
theorem fw_12_54 : so_Fw 12 54 := tb_i8 (List.mem_of_getElem? (i := 34) rfl)
set_option maxRecDepth 20000 in
theorem fw_12_55 : so_Fw 12 55 := tb_i8 (List.mem_of_getElem? (i := 36) rfl)
set_option maxRecDepth 20000 in
theorem fw_12_56 : so_Fw 12 56 := tb_i8 (List.mem_of_getElem? (i := 38) rfl)
set_option maxRecDepth 20000 in
theorem fw_12_57 : so_Fw 12 57 := tb_i8 (List.mem_of_getElem? (i := 40) rfl)
set_option maxRecDepth 20000 in
theorem fw_12_58 : so_Fw 12 58 := tb_i8 (List.mem_of_getElem? (i := 42) rfl)
set_option maxRecDepth 20000 in
theorem fw_12_59 : so_Fw 12 59 := tb_i8 (List.mem_of_getElem? (i := 44) rfl)
set_option maxRecDepth 20000 in
theorem fw_12_60 : so_Fw 12 60 := tb_i8 (List.mem_of_getElem? (i := 46) rfl)
set_option maxRecDepth 20000 in
theorem fw_12_61 : so_Fw 12 61 := tb_i8 (List.mem_of_getElem? (i := 48) rfl)
set_option maxRecDepth 20000 in
theorem fw_12_62 : so_Fw 12 62 := tb_i8 (List.mem_of_getElem? (i := 50) rfl)
set_option maxRecDepth 20000 in
theorem fw_12_63 : so_Fw 12 63 := tb_i8 (List.mem_of_getElem? (i := 52) rfl)
set_option maxRecDepth 20000 in
theorem fw_12_64 : so_Fw 12 64 := tb_i8 (List.mem_of_getElem? (i := 54) rfl)
set_option maxRecDepth 20000 in
theorem fw_12_65 : so_Fw 12 65 := tb_i8 (List.mem_of_getElem? (i := 56) rfl)
set_option maxRecDepth 20000 in
theorem fw_12_66 : so_Fw 12 66 := tb_i8 (List.mem_of_getElem? (i := 58) rfl)
set_option maxRecDepth 20000 in
theorem fw_12_67 : so_Fw 12 67 := tb_i8 (List.mem_of_getElem? (i := 60) rfl)
set_option maxRecDepth 20000 in
theorem fw_12_68 : so_Fw 12 68 := tb_i8 (List.mem_of_getElem? (i := 62) rfl)
set_option maxRecDepth 20000 in
theorem fw_12_69 : so_Fw 12 69 := tb_i8 (List.mem_of_getElem? (i := 64) rfl)
set_option maxRecDepth 20000 in
theorem fw_12_70 : so_Fw 12 70 := tb_i8 (List.mem_of_getElem? (i := 66) rfl)
set_option maxRecDepth 20000 in
theorem fw_12_71 : so_Fw 12 71 := tb_i8 (List.mem_of_getElem? (i := 68) rfl)
set_option maxRecDepth 20000 in
theorem fw_12_72 : so_Fw 12 72 := tb_i8 (List.mem_of_getElem? (i := 70) rfl)
set_option maxRecDepth 20000 in
theorem fw_12_73 : so_Fw 12 73 := tb_i8 (List.mem_of_getElem? (i := 72) rfl)
set_option maxRecDepth 20000 in
theorem fw_12_74 : so_Fw 12 74 := tb_i8 (List.mem_of_getElem? (i := 74) rfl)
theorem fw_12 : ∀ b, b < tb_N 12 → so_Fw 12 b := fun b hb => match b, hb with
  | 0, _ => fw_12_0
  | 1, _ => fw_12_1
  | 2, _ => fw_12_2
  | 3, _ => fw_12_3
  | 4, _ => fw_12_4
  | 5, _ => fw_12_5
  | 6, _ => fw_12_6
  | 7, _ => fw_12_7
  | 8, _ => fw_12_8
  | 9, _ => fw_12_9
  | 10, _ => fw_12_10
  | 11, _ => fw_12_11
  | 12, _ => fw_12_12
  | 13, _ => fw_12_13
  | 14, _ => fw_12_14
  | 15, _ => fw_12_15
  | 16, _ => fw_12_16
  | 17, _ => fw_12_17
  | 18, _ => fw_12_18
  | 19, _ => fw_12_19
  | 20, _ => fw_12_20
  | 21, _ => fw_12_21
  | 22, _ => fw_12_22
  | 23, _ => fw_12_23
  | 24, _ => fw_12_24
  | 25, _ => fw_12_25
  | 26, _ => fw_12_26
  | 27, _ => fw_12_27
  | 28, _ => fw_12_28
  | 29, _ => fw_12_29
  | 30, _ => fw_12_30
  | 31, _ => fw_12_31
  | 32, _ => fw_12_32
  | 33, _ => fw_12_33
  | 34, _ => fw_12_34
  | 35, _ => fw_12_35
  | 36, _ => fw_12_36
  | 37, _ => fw_12_37
  | 38, _ => fw_12_38
  | 39, _ => fw_12_39
  | 40, _ => fw_12_40
  | 41, _ => fw_12_41
  | 42, _ => fw_12_42
  | 43, _ => fw_12_43
  | 44, _ => fw_12_44
  | 45, _ => fw_12_45
  | 46, _ => fw_12_46
  | 47, _ => fw_12_47
  | 48, _ => fw_12_48
  | 49, _ => fw_12_49
  | 50, _ => fw_12_50
  | 51, _ => fw_12_51
  | 52, _ => fw_12_52
  | 53, _ => fw_12_53
  | 54, _ => fw_12_54
  | 55, _ => fw_12_55
  | 56, _ => fw_12_56
  | 57, _ => fw_12_57
  | 58, _ => fw_12_58
  | 59, _ => fw_12_59
  | 60, _ => fw_12_60
  | 61, _ => fw_12_61
  | 62, _ => fw_12_62
  | 63, _ => fw_12_63
  | 64, _ => fw_12_64
  | 65, _ => fw_12_65
  | 66, _ => fw_12_66
  | 67, _ => fw_12_67
  | 68, _ => fw_12_68
  | 69, _ => fw_12_69
  | 70, _ => fw_12_70
  | 71, _ => fw_12_71
  | 72, _ => fw_12_72
  | 73, _ => fw_12_73
  | 74, _ => fw_12_74
  | b + 75, hb => absurd hb (by show ¬ b + 75 < 75; omega)
set_option maxRecDepth 20000 in
theorem fn_12 : ∀ b, b < tb_N 12 → ∀ k, k < tb_N 12 → b ≠ k → (tb_f 12 b).1 ≠ (tb_f 12 k).1 := by decide +kernel
set_option maxRecDepth 20000 in
theorem fd_12 : ∀ b, b < tb_N 12 → so_Fd 12 b = true := by decide +kernel
set_option maxRecDepth 20000 in
theorem cw_12 : so_Cw 12 := ⟨fw_12, fn_12, tb_i7 (List.mem_of_getElem? (i := 86) rfl), tb_i1 (List.mem_of_getElem? (i := 14) rfl), fun b hb => so_Fd_of (fd_12 b hb)⟩
theorem cw_all : ∀ a, a < 13 → so_Cw a := fun a ha => match a, ha with
  | 0, _ => cw_0
  | 1, _ => cw_1
  | 2, _ => cw_2
  | 3, _ => cw_3
  | 4, _ => cw_4
  | 5, _ => cw_5
  | 6, _ => cw_6
  | 7, _ => cw_7
  | 8, _ => cw_8
  | 9, _ => cw_9
  | 10, _ => cw_10
  | 11, _ => cw_11
  | 12, _ => cw_12
  | a + 13, ha => absurd ha (by omega)
set_option maxRecDepth 20000 in
theorem xw_14 : Cond.instantiable (tb_RN 14) 6 ∈ lw_tbl ∧ Cond.initialized (tb_RN 14) ∈ lw_tbl := ⟨tb_i2 (List.mem_of_getElem? (i := 229) rfl), tb_i1 (List.mem_of_getElem? (i := 18) rfl)⟩
set_option maxRecDepth 20000 in
theorem xw_15 : Cond.instantiable (tb_RN 15) 6 ∈ lw_tbl ∧ Cond.initialized (tb_RN 15) ∈ lw_tbl := ⟨tb_i3 (List.mem_of_getElem? (i := 68) rfl), tb_i1 (List.mem_of_getElem? (i := 19) rfl)⟩
set_option maxRecDepth 20000 in
theorem xw_16 : Cond.instantiable (tb_RN 16) 6 ∈ lw_tbl ∧ Cond.initialized (tb_RN 16) ∈ lw_tbl := ⟨tb_i6 (List.mem_of_getElem? (i := 167) rfl), tb_i1 (List.mem_of_getElem? (i := 28) rfl)⟩
set_option maxRecDepth 20000 in
theorem aw_byte : Cond.arrayClass .byte ∈ lw_tbl := tb_i1 (List.mem_of_getElem? (i := 50) rfl)
set_option maxRecDepth 20000 in
theorem aw_int : Cond.arrayClass .int ∈ lw_tbl := tb_i1 (List.mem_of_getElem? (i := 51) rfl)
set_option maxRecDepth 20000 in
theorem aw_long : Cond.arrayClass .long ∈ lw_tbl := tb_i1 (List.mem_of_getElem? (i := 93) rfl)
set_option maxRecDepth 20000 in
theorem aw_boolean : Cond.arrayClass .boolean ∈ lw_tbl := tb_i8 (List.mem_of_getElem? (i := 77) rfl)
