/-! THE METHODS' OWN WORDS. -/
set_option maxRecDepth 20000 in
theorem mw_0 : mw_ok 0 := ⟨rfl, rfl, by decide +kernel, tb_i1 (List.mem_of_getElem? (i := 33) rfl), tb_i1 (List.mem_of_getElem? (i := 32) rfl), trivial, tb_i1 (List.mem_of_getElem? (i := 1) rfl)⟩
set_option maxRecDepth 20000 in
theorem mw_1 : mw_ok 1 := ⟨rfl, rfl, by decide +kernel, tb_i2 (List.mem_of_getElem? (i := 219) rfl), tb_i2 (List.mem_of_getElem? (i := 217) rfl), tb_i2 (List.mem_of_getElem? (i := 218) rfl), tb_i1 (List.mem_of_getElem? (i := 1) rfl)⟩
set_option maxRecDepth 20000 in
theorem mw_2 : mw_ok 2 := ⟨rfl, rfl, by decide +kernel, tb_i2 (List.mem_of_getElem? (i := 227) rfl), tb_i2 (List.mem_of_getElem? (i := 225) rfl), tb_i2 (List.mem_of_getElem? (i := 226) rfl), tb_i1 (List.mem_of_getElem? (i := 1) rfl)⟩
set_option maxRecDepth 20000 in
theorem mw_3 : mw_ok 3 := ⟨rfl, rfl, by decide +kernel, tb_i3 (List.mem_of_getElem? (i := 66) rfl), tb_i3 (List.mem_of_getElem? (i := 64) rfl), tb_i3 (List.mem_of_getElem? (i := 65) rfl), tb_i1 (List.mem_of_getElem? (i := 1) rfl)⟩
set_option maxRecDepth 20000 in
theorem mw_4 : mw_ok 4 := ⟨rfl, rfl, by decide +kernel, tb_i3 (List.mem_of_getElem? (i := 90) rfl), tb_i3 (List.mem_of_getElem? (i := 88) rfl), tb_i3 (List.mem_of_getElem? (i := 89) rfl), tb_i1 (List.mem_of_getElem? (i := 1) rfl)⟩
set_option maxRecDepth 20000 in
theorem mw_5 : mw_ok 5 := ⟨rfl, rfl, by decide +kernel, tb_i6 (List.mem_of_getElem? (i := 161) rfl), tb_i6 (List.mem_of_getElem? (i := 159) rfl), tb_i6 (List.mem_of_getElem? (i := 160) rfl), tb_i1 (List.mem_of_getElem? (i := 1) rfl)⟩
set_option maxRecDepth 20000 in
theorem mw_6 : mw_ok 6 := ⟨rfl, rfl, by decide +kernel, tb_i6 (List.mem_of_getElem? (i := 188) rfl), tb_i6 (List.mem_of_getElem? (i := 186) rfl), tb_i6 (List.mem_of_getElem? (i := 187) rfl), tb_i1 (List.mem_of_getElem? (i := 1) rfl)⟩
set_option maxRecDepth 20000 in
theorem mw_7 : mw_ok 7 := ⟨rfl, rfl, by decide +kernel, tb_i6 (List.mem_of_getElem? (i := 208) rfl), tb_i6 (List.mem_of_getElem? (i := 206) rfl), tb_i6 (List.mem_of_getElem? (i := 207) rfl), tb_i1 (List.mem_of_getElem? (i := 1) rfl)⟩
set_option maxRecDepth 20000 in
theorem mw_8 : mw_ok 8 := ⟨rfl, rfl, by decide +kernel, tb_i6 (List.mem_of_getElem? (i := 221) rfl), tb_i6 (List.mem_of_getElem? (i := 219) rfl), tb_i6 (List.mem_of_getElem? (i := 220) rfl), tb_i1 (List.mem_of_getElem? (i := 1) rfl)⟩
set_option maxRecDepth 20000 in
theorem mw_9 : mw_ok 9 := ⟨rfl, rfl, by decide +kernel, tb_i6 (List.mem_of_getElem? (i := 235) rfl), tb_i6 (List.mem_of_getElem? (i := 233) rfl), tb_i6 (List.mem_of_getElem? (i := 234) rfl), tb_i1 (List.mem_of_getElem? (i := 1) rfl)⟩
set_option maxRecDepth 20000 in
theorem mw_10 : mw_ok 10 := ⟨rfl, rfl, by decide +kernel, tb_i7 (List.mem_of_getElem? (i := 12) rfl), tb_i7 (List.mem_of_getElem? (i := 10) rfl), tb_i7 (List.mem_of_getElem? (i := 11) rfl), tb_i1 (List.mem_of_getElem? (i := 1) rfl)⟩
set_option maxRecDepth 20000 in
theorem mw_11 : mw_ok 11 := ⟨rfl, rfl, by decide +kernel, tb_i7 (List.mem_of_getElem? (i := 60) rfl), tb_i7 (List.mem_of_getElem? (i := 58) rfl), tb_i7 (List.mem_of_getElem? (i := 59) rfl), tb_i1 (List.mem_of_getElem? (i := 1) rfl)⟩
set_option maxRecDepth 20000 in
theorem mw_12 : mw_ok 12 := ⟨rfl, rfl, by decide +kernel, tb_i7 (List.mem_of_getElem? (i := 77) rfl), tb_i7 (List.mem_of_getElem? (i := 75) rfl), tb_i7 (List.mem_of_getElem? (i := 76) rfl), tb_i1 (List.mem_of_getElem? (i := 1) rfl)⟩
set_option maxRecDepth 20000 in
theorem mw_13 : mw_ok 13 := ⟨rfl, rfl, by decide +kernel, tb_i3 (List.mem_of_getElem? (i := 58) rfl), tb_i3 (List.mem_of_getElem? (i := 57) rfl), tb_is (List.mem_of_getElem? (i := 1) rfl), tb_i1 (List.mem_of_getElem? (i := 1) rfl)⟩
set_option maxRecDepth 20000 in
theorem mw_14 : mw_ok 14 := ⟨rfl, rfl, by decide +kernel, tb_i3 (List.mem_of_getElem? (i := 94) rfl), tb_i3 (List.mem_of_getElem? (i := 93) rfl), tb_is (List.mem_of_getElem? (i := 2) rfl), tb_i1 (List.mem_of_getElem? (i := 1) rfl)⟩
set_option maxRecDepth 20000 in
theorem mw_15 : mw_ok 15 := ⟨rfl, rfl, by decide +kernel, tb_i4 (List.mem_of_getElem? (i := 99) rfl), tb_i4 (List.mem_of_getElem? (i := 98) rfl), tb_is (List.mem_of_getElem? (i := 13) rfl), tb_i1 (List.mem_of_getElem? (i := 1) rfl)⟩
set_option maxRecDepth 20000 in
theorem mw_16 : mw_ok 16 := ⟨rfl, rfl, by decide +kernel, tb_i5 (List.mem_of_getElem? (i := 184) rfl), tb_i5 (List.mem_of_getElem? (i := 183) rfl), tb_is (List.mem_of_getElem? (i := 48) rfl), tb_i1 (List.mem_of_getElem? (i := 1) rfl)⟩
set_option maxRecDepth 20000 in
theorem mw_17 : mw_ok 17 := ⟨rfl, rfl, by decide +kernel, tb_i2 (List.mem_of_getElem? (i := 86) rfl), tb_i2 (List.mem_of_getElem? (i := 85) rfl), trivial, tb_i1 (List.mem_of_getElem? (i := 11) rfl)⟩
set_option maxRecDepth 20000 in
theorem mw_18 : mw_ok 18 := ⟨rfl, rfl, by decide +kernel, tb_i5 (List.mem_of_getElem? (i := 192) rfl), tb_i5 (List.mem_of_getElem? (i := 190) rfl), tb_i5 (List.mem_of_getElem? (i := 191) rfl), tb_i1 (List.mem_of_getElem? (i := 11) rfl)⟩
set_option maxRecDepth 20000 in
theorem mw_19 : mw_ok 19 := ⟨rfl, rfl, by decide +kernel, tb_i6 (List.mem_of_getElem? (i := 79) rfl), tb_i6 (List.mem_of_getElem? (i := 77) rfl), tb_i6 (List.mem_of_getElem? (i := 78) rfl), tb_i1 (List.mem_of_getElem? (i := 11) rfl)⟩
set_option maxRecDepth 20000 in
theorem mw_20 : mw_ok 20 := ⟨rfl, rfl, by decide +kernel, tb_i6 (List.mem_of_getElem? (i := 152) rfl), tb_i6 (List.mem_of_getElem? (i := 150) rfl), tb_i6 (List.mem_of_getElem? (i := 151) rfl), tb_i1 (List.mem_of_getElem? (i := 11) rfl)⟩
set_option maxRecDepth 20000 in
theorem mw_21 : mw_ok 21 := ⟨rfl, rfl, by decide +kernel, tb_i5 (List.mem_of_getElem? (i := 209) rfl), tb_i5 (List.mem_of_getElem? (i := 208) rfl), tb_is (List.mem_of_getElem? (i := 49) rfl), tb_i1 (List.mem_of_getElem? (i := 11) rfl)⟩
set_option maxRecDepth 20000 in
theorem mw_22 : mw_ok 22 := ⟨rfl, rfl, by decide +kernel, tb_i6 (List.mem_of_getElem? (i := 83) rfl), tb_i6 (List.mem_of_getElem? (i := 82) rfl), tb_is (List.mem_of_getElem? (i := 66) rfl), tb_i1 (List.mem_of_getElem? (i := 11) rfl)⟩
set_option maxRecDepth 20000 in
theorem mw_23 : mw_ok 23 := ⟨rfl, rfl, by decide +kernel, tb_i6 (List.mem_of_getElem? (i := 95) rfl), tb_i6 (List.mem_of_getElem? (i := 94) rfl), tb_is (List.mem_of_getElem? (i := 67) rfl), tb_i1 (List.mem_of_getElem? (i := 11) rfl)⟩
set_option maxRecDepth 20000 in
theorem mw_24 : mw_ok 24 := ⟨rfl, rfl, by decide +kernel, tb_i6 (List.mem_of_getElem? (i := 136) rfl), tb_i6 (List.mem_of_getElem? (i := 135) rfl), tb_is (List.mem_of_getElem? (i := 72) rfl), tb_i1 (List.mem_of_getElem? (i := 11) rfl)⟩
set_option maxRecDepth 20000 in
theorem mw_25 : mw_ok 25 := ⟨rfl, rfl, by decide +kernel, tb_i6 (List.mem_of_getElem? (i := 144) rfl), tb_i6 (List.mem_of_getElem? (i := 143) rfl), tb_is (List.mem_of_getElem? (i := 73) rfl), tb_i1 (List.mem_of_getElem? (i := 11) rfl)⟩
set_option maxRecDepth 20000 in
theorem mw_26 : mw_ok 26 := ⟨rfl, rfl, by decide +kernel, tb_i5 (List.mem_of_getElem? (i := 213) rfl), tb_i5 (List.mem_of_getElem? (i := 212) rfl), tb_is (List.mem_of_getElem? (i := 50) rfl), tb_i1 (List.mem_of_getElem? (i := 11) rfl)⟩
set_option maxRecDepth 20000 in
theorem mw_27 : mw_ok 27 := ⟨rfl, rfl, by decide +kernel, tb_i5 (List.mem_of_getElem? (i := 221) rfl), tb_i5 (List.mem_of_getElem? (i := 220) rfl), tb_is (List.mem_of_getElem? (i := 51) rfl), tb_i1 (List.mem_of_getElem? (i := 11) rfl)⟩
set_option maxRecDepth 20000 in
theorem mw_28 : mw_ok 28 := ⟨rfl, rfl, by decide +kernel, tb_i6 (List.mem_of_getElem? (i := 103) rfl), tb_i6 (List.mem_of_getElem? (i := 102) rfl), tb_is (List.mem_of_getElem? (i := 68) rfl), tb_i1 (List.mem_of_getElem? (i := 11) rfl)⟩
set_option maxRecDepth 20000 in
theorem mw_29 : mw_ok 29 := ⟨rfl, rfl, by decide +kernel, tb_i6 (List.mem_of_getElem? (i := 111) rfl), tb_i6 (List.mem_of_getElem? (i := 110) rfl), tb_is (List.mem_of_getElem? (i := 69) rfl), tb_i1 (List.mem_of_getElem? (i := 11) rfl)⟩
set_option maxRecDepth 20000 in
theorem mw_30 : mw_ok 30 := ⟨rfl, rfl, by decide +kernel, tb_i6 (List.mem_of_getElem? (i := 117) rfl), tb_i6 (List.mem_of_getElem? (i := 116) rfl), tb_is (List.mem_of_getElem? (i := 70) rfl), tb_i1 (List.mem_of_getElem? (i := 11) rfl)⟩
set_option maxRecDepth 20000 in
theorem mw_31 : mw_ok 31 := ⟨rfl, rfl, by decide +kernel, tb_i6 (List.mem_of_getElem? (i := 131) rfl), tb_i6 (List.mem_of_getElem? (i := 130) rfl), tb_is (List.mem_of_getElem? (i := 71) rfl), tb_i1 (List.mem_of_getElem? (i := 11) rfl)⟩
set_option maxRecDepth 20000 in
theorem mw_32 : mw_ok 32 := ⟨rfl, rfl, by decide +kernel, tb_i1 (List.mem_of_getElem? (i := 219) rfl), tb_i1 (List.mem_of_getElem? (i := 218) rfl), trivial, tb_i1 (List.mem_of_getElem? (i := 8) rfl)⟩
set_option maxRecDepth 20000 in
theorem mw_33 : mw_ok 33 := ⟨rfl, rfl, by decide +kernel, tb_i3 (List.mem_of_getElem? (i := 196) rfl), tb_i3 (List.mem_of_getElem? (i := 194) rfl), tb_i3 (List.mem_of_getElem? (i := 195) rfl), tb_i1 (List.mem_of_getElem? (i := 8) rfl)⟩
set_option maxRecDepth 20000 in
theorem mw_34 : mw_ok 34 := ⟨rfl, rfl, by decide +kernel, tb_i5 (List.mem_of_getElem? (i := 233) rfl), tb_i5 (List.mem_of_getElem? (i := 231) rfl), tb_i5 (List.mem_of_getElem? (i := 232) rfl), tb_i1 (List.mem_of_getElem? (i := 8) rfl)⟩
set_option maxRecDepth 20000 in
theorem mw_35 : mw_ok 35 := ⟨rfl, rfl, by decide +kernel, tb_i6 (List.mem_of_getElem? (i := 1) rfl), tb_i5 (List.mem_of_getElem? (i := 239) rfl), tb_i6 (List.mem_of_getElem? (i := 0) rfl), tb_i1 (List.mem_of_getElem? (i := 8) rfl)⟩
set_option maxRecDepth 20000 in
theorem mw_36 : mw_ok 36 := ⟨rfl, rfl, by decide +kernel, tb_i6 (List.mem_of_getElem? (i := 5) rfl), tb_i6 (List.mem_of_getElem? (i := 3) rfl), tb_i6 (List.mem_of_getElem? (i := 4) rfl), tb_i1 (List.mem_of_getElem? (i := 8) rfl)⟩
set_option maxRecDepth 20000 in
theorem mw_37 : mw_ok 37 := ⟨rfl, rfl, by decide +kernel, tb_i5 (List.mem_of_getElem? (i := 76) rfl), tb_i5 (List.mem_of_getElem? (i := 74) rfl), tb_i5 (List.mem_of_getElem? (i := 75) rfl), tb_i1 (List.mem_of_getElem? (i := 8) rfl)⟩
set_option maxRecDepth 20000 in
theorem mw_38 : mw_ok 38 := ⟨rfl, rfl, by decide +kernel, tb_i5 (List.mem_of_getElem? (i := 88) rfl), tb_i5 (List.mem_of_getElem? (i := 86) rfl), tb_i5 (List.mem_of_getElem? (i := 87) rfl), tb_i1 (List.mem_of_getElem? (i := 8) rfl)⟩
set_option maxRecDepth 20000 in
theorem mw_39 : mw_ok 39 := ⟨rfl, rfl, by decide +kernel, tb_i5 (List.mem_of_getElem? (i := 237) rfl), tb_i5 (List.mem_of_getElem? (i := 235) rfl), tb_i5 (List.mem_of_getElem? (i := 236) rfl), tb_i1 (List.mem_of_getElem? (i := 8) rfl)⟩
set_option maxRecDepth 20000 in
theorem mw_40 : mw_ok 40 := ⟨rfl, rfl, by decide +kernel, tb_i6 (List.mem_of_getElem? (i := 140) rfl), tb_i6 (List.mem_of_getElem? (i := 138) rfl), tb_i6 (List.mem_of_getElem? (i := 139) rfl), tb_i1 (List.mem_of_getElem? (i := 8) rfl)⟩
set_option maxRecDepth 20000 in
theorem mw_41 : mw_ok 41 := ⟨rfl, rfl, by decide +kernel, tb_i6 (List.mem_of_getElem? (i := 148) rfl), tb_i6 (List.mem_of_getElem? (i := 146) rfl), tb_i6 (List.mem_of_getElem? (i := 147) rfl), tb_i1 (List.mem_of_getElem? (i := 8) rfl)⟩
set_option maxRecDepth 20000 in
theorem mw_42 : mw_ok 42 := ⟨rfl, rfl, by decide +kernel, tb_i5 (List.mem_of_getElem? (i := 80) rfl), tb_i5 (List.mem_of_getElem? (i := 79) rfl), tb_is (List.mem_of_getElem? (i := 36) rfl), tb_i1 (List.mem_of_getElem? (i := 8) rfl)⟩
set_option maxRecDepth 20000 in
theorem mw_43 : mw_ok 43 := ⟨rfl, rfl, by decide +kernel, tb_i2 (List.mem_of_getElem? (i := 2) rfl), tb_i2 (List.mem_of_getElem? (i := 1) rfl), trivial, tb_i1 (List.mem_of_getElem? (i := 9) rfl)⟩
set_option maxRecDepth 20000 in
theorem mw_44 : mw_ok 44 := ⟨rfl, rfl, by decide +kernel, tb_i3 (List.mem_of_getElem? (i := 200) rfl), tb_i3 (List.mem_of_getElem? (i := 198) rfl), tb_i3 (List.mem_of_getElem? (i := 199) rfl), tb_i1 (List.mem_of_getElem? (i := 9) rfl)⟩
set_option maxRecDepth 20000 in
theorem mw_45 : mw_ok 45 := ⟨rfl, rfl, by decide +kernel, tb_i4 (List.mem_of_getElem? (i := 178) rfl), tb_i4 (List.mem_of_getElem? (i := 176) rfl), tb_i4 (List.mem_of_getElem? (i := 177) rfl), tb_i1 (List.mem_of_getElem? (i := 9) rfl)⟩
set_option maxRecDepth 20000 in
theorem mw_46 : mw_ok 46 := ⟨rfl, rfl, by decide +kernel, tb_i4 (List.mem_of_getElem? (i := 185) rfl), tb_i4 (List.mem_of_getElem? (i := 184) rfl), tb_is (List.mem_of_getElem? (i := 17) rfl), tb_i1 (List.mem_of_getElem? (i := 9) rfl)⟩
set_option maxRecDepth 20000 in
theorem mw_47 : mw_ok 47 := ⟨rfl, rfl, by decide +kernel, tb_i4 (List.mem_of_getElem? (i := 194) rfl), tb_i4 (List.mem_of_getElem? (i := 193) rfl), tb_is (List.mem_of_getElem? (i := 19) rfl), tb_i1 (List.mem_of_getElem? (i := 9) rfl)⟩
set_option maxRecDepth 20000 in
theorem mw_48 : mw_ok 48 := ⟨rfl, rfl, by decide +kernel, tb_i4 (List.mem_of_getElem? (i := 202) rfl), tb_i4 (List.mem_of_getElem? (i := 201) rfl), tb_is (List.mem_of_getElem? (i := 20) rfl), tb_i1 (List.mem_of_getElem? (i := 9) rfl)⟩
set_option maxRecDepth 20000 in
theorem mw_49 : mw_ok 49 := ⟨rfl, rfl, by decide +kernel, tb_i4 (List.mem_of_getElem? (i := 235) rfl), tb_i4 (List.mem_of_getElem? (i := 234) rfl), tb_is (List.mem_of_getElem? (i := 23) rfl), tb_i1 (List.mem_of_getElem? (i := 9) rfl)⟩
set_option maxRecDepth 20000 in
theorem mw_50 : mw_ok 50 := ⟨rfl, rfl, by decide +kernel, tb_i4 (List.mem_of_getElem? (i := 239) rfl), tb_i4 (List.mem_of_getElem? (i := 238) rfl), tb_is (List.mem_of_getElem? (i := 24) rfl), tb_i1 (List.mem_of_getElem? (i := 9) rfl)⟩
set_option maxRecDepth 20000 in
theorem mw_51 : mw_ok 51 := ⟨rfl, rfl, by decide +kernel, tb_i5 (List.mem_of_getElem? (i := 4) rfl), tb_i5 (List.mem_of_getElem? (i := 3) rfl), tb_is (List.mem_of_getElem? (i := 25) rfl), tb_i1 (List.mem_of_getElem? (i := 9) rfl)⟩
set_option maxRecDepth 20000 in
theorem mw_52 : mw_ok 52 := ⟨rfl, rfl, by decide +kernel, tb_i5 (List.mem_of_getElem? (i := 8) rfl), tb_i5 (List.mem_of_getElem? (i := 7) rfl), tb_is (List.mem_of_getElem? (i := 26) rfl), tb_i1 (List.mem_of_getElem? (i := 9) rfl)⟩
set_option maxRecDepth 20000 in
theorem mw_53 : mw_ok 53 := ⟨rfl, rfl, by decide +kernel, tb_i5 (List.mem_of_getElem? (i := 16) rfl), tb_i5 (List.mem_of_getElem? (i := 15) rfl), tb_is (List.mem_of_getElem? (i := 27) rfl), tb_i1 (List.mem_of_getElem? (i := 9) rfl)⟩
set_option maxRecDepth 20000 in
theorem mw_54 : mw_ok 54 := ⟨rfl, rfl, by decide +kernel, tb_i5 (List.mem_of_getElem? (i := 24) rfl), tb_i5 (List.mem_of_getElem? (i := 23) rfl), tb_is (List.mem_of_getElem? (i := 28) rfl), tb_i1 (List.mem_of_getElem? (i := 9) rfl)⟩
set_option maxRecDepth 20000 in
theorem mw_55 : mw_ok 55 := ⟨rfl, rfl, by decide +kernel, tb_i5 (List.mem_of_getElem? (i := 37) rfl), tb_i5 (List.mem_of_getElem? (i := 36) rfl), tb_is (List.mem_of_getElem? (i := 29) rfl), tb_i1 (List.mem_of_getElem? (i := 9) rfl)⟩
set_option maxRecDepth 20000 in
theorem mw_56 : mw_ok 56 := ⟨rfl, rfl, by decide +kernel, tb_i5 (List.mem_of_getElem? (i := 45) rfl), tb_i5 (List.mem_of_getElem? (i := 44) rfl), tb_is (List.mem_of_getElem? (i := 31) rfl), tb_i1 (List.mem_of_getElem? (i := 9) rfl)⟩
set_option maxRecDepth 20000 in
theorem mw_57 : mw_ok 57 := ⟨rfl, rfl, by decide +kernel, tb_i5 (List.mem_of_getElem? (i := 55) rfl), tb_i5 (List.mem_of_getElem? (i := 54) rfl), trivial, tb_i1 (List.mem_of_getElem? (i := 9) rfl)⟩
set_option maxRecDepth 20000 in
theorem mw_58 : mw_ok 58 := ⟨rfl, rfl, by decide +kernel, tb_i5 (List.mem_of_getElem? (i := 61) rfl), tb_i5 (List.mem_of_getElem? (i := 60) rfl), tb_is (List.mem_of_getElem? (i := 33) rfl), tb_i1 (List.mem_of_getElem? (i := 9) rfl)⟩
set_option maxRecDepth 20000 in
theorem mw_59 : mw_ok 59 := ⟨rfl, rfl, by decide +kernel, tb_i5 (List.mem_of_getElem? (i := 65) rfl), tb_i5 (List.mem_of_getElem? (i := 64) rfl), tb_is (List.mem_of_getElem? (i := 34) rfl), tb_i1 (List.mem_of_getElem? (i := 9) rfl)⟩
set_option maxRecDepth 20000 in
theorem mw_60 : mw_ok 60 := ⟨rfl, rfl, by decide +kernel, tb_i5 (List.mem_of_getElem? (i := 69) rfl), tb_i5 (List.mem_of_getElem? (i := 68) rfl), tb_is (List.mem_of_getElem? (i := 35) rfl), tb_i1 (List.mem_of_getElem? (i := 9) rfl)⟩
set_option maxRecDepth 20000 in
theorem mw_61 : mw_ok 61 := ⟨rfl, rfl, by decide +kernel, tb_i4 (List.mem_of_getElem? (i := 189) rfl), tb_i4 (List.mem_of_getElem? (i := 188) rfl), tb_is (List.mem_of_getElem? (i := 18) rfl), tb_i1 (List.mem_of_getElem? (i := 9) rfl)⟩
set_option maxRecDepth 20000 in
theorem mw_62 : mw_ok 62 := ⟨rfl, rfl, by decide +kernel, tb_i4 (List.mem_of_getElem? (i := 215) rfl), tb_i4 (List.mem_of_getElem? (i := 214) rfl), tb_is (List.mem_of_getElem? (i := 21) rfl), tb_i1 (List.mem_of_getElem? (i := 9) rfl)⟩
set_option maxRecDepth 20000 in
theorem mw_63 : mw_ok 63 := ⟨rfl, rfl, by decide +kernel, tb_i5 (List.mem_of_getElem? (i := 41) rfl), tb_i5 (List.mem_of_getElem? (i := 40) rfl), tb_is (List.mem_of_getElem? (i := 30) rfl), tb_i1 (List.mem_of_getElem? (i := 9) rfl)⟩
set_option maxRecDepth 20000 in
theorem mw_64 : mw_ok 64 := ⟨rfl, rfl, by decide +kernel, tb_i4 (List.mem_of_getElem? (i := 219) rfl), tb_i4 (List.mem_of_getElem? (i := 218) rfl), tb_is (List.mem_of_getElem? (i := 22) rfl), tb_i1 (List.mem_of_getElem? (i := 9) rfl)⟩
set_option maxRecDepth 20000 in
theorem mw_65 : mw_ok 65 := ⟨rfl, rfl, by decide +kernel, tb_i5 (List.mem_of_getElem? (i := 48) rfl), tb_i5 (List.mem_of_getElem? (i := 47) rfl), trivial, tb_i1 (List.mem_of_getElem? (i := 9) rfl)⟩
set_option maxRecDepth 20000 in
theorem mw_66 : mw_ok 66 := ⟨rfl, rfl, by decide +kernel, tb_i5 (List.mem_of_getElem? (i := 52) rfl), tb_i5 (List.mem_of_getElem? (i := 51) rfl), tb_is (List.mem_of_getElem? (i := 32) rfl), tb_i1 (List.mem_of_getElem? (i := 9) rfl)⟩
set_option maxRecDepth 20000 in
theorem mw_67 : mw_ok 67 := ⟨rfl, rfl, by decide +kernel, tb_i1 (List.mem_of_getElem? (i := 41) rfl), tb_i1 (List.mem_of_getElem? (i := 40) rfl), trivial, tb_i1 (List.mem_of_getElem? (i := 2) rfl)⟩
set_option maxRecDepth 20000 in
theorem mw_68 : mw_ok 68 := ⟨rfl, rfl, by decide +kernel, tb_i5 (List.mem_of_getElem? (i := 188) rfl), tb_i5 (List.mem_of_getElem? (i := 186) rfl), tb_i5 (List.mem_of_getElem? (i := 187) rfl), tb_i1 (List.mem_of_getElem? (i := 2) rfl)⟩
set_option maxRecDepth 20000 in
theorem mw_69 : mw_ok 69 := ⟨rfl, rfl, by decide +kernel, tb_i6 (List.mem_of_getElem? (i := 165) rfl), tb_i6 (List.mem_of_getElem? (i := 163) rfl), tb_i6 (List.mem_of_getElem? (i := 164) rfl), tb_i1 (List.mem_of_getElem? (i := 2) rfl)⟩
set_option maxRecDepth 20000 in
theorem mw_70 : mw_ok 70 := ⟨rfl, rfl, by decide +kernel, tb_i3 (List.mem_of_getElem? (i := 98) rfl), tb_i3 (List.mem_of_getElem? (i := 96) rfl), tb_i3 (List.mem_of_getElem? (i := 97) rfl), tb_i1 (List.mem_of_getElem? (i := 2) rfl)⟩
set_option maxRecDepth 20000 in
theorem mw_71 : mw_ok 71 := ⟨rfl, rfl, by decide +kernel, tb_i4 (List.mem_of_getElem? (i := 91) rfl), tb_i4 (List.mem_of_getElem? (i := 89) rfl), tb_i4 (List.mem_of_getElem? (i := 90) rfl), tb_i1 (List.mem_of_getElem? (i := 2) rfl)⟩
set_option maxRecDepth 20000 in
theorem mw_72 : mw_ok 72 := ⟨rfl, rfl, by decide +kernel, tb_i1 (List.mem_of_getElem? (i := 98) rfl), tb_i1 (List.mem_of_getElem? (i := 97) rfl), trivial, tb_i1 (List.mem_of_getElem? (i := 5) rfl)⟩
set_option maxRecDepth 20000 in
theorem mw_73 : mw_ok 73 := ⟨rfl, rfl, by decide +kernel, tb_i3 (List.mem_of_getElem? (i := 212) rfl), tb_i3 (List.mem_of_getElem? (i := 210) rfl), tb_i3 (List.mem_of_getElem? (i := 211) rfl), tb_i1 (List.mem_of_getElem? (i := 5) rfl)⟩
set_option maxRecDepth 20000 in
theorem mw_74 : mw_ok 74 := ⟨rfl, rfl, by decide +kernel, tb_i3 (List.mem_of_getElem? (i := 184) rfl), tb_i3 (List.mem_of_getElem? (i := 182) rfl), tb_i3 (List.mem_of_getElem? (i := 183) rfl), tb_i1 (List.mem_of_getElem? (i := 5) rfl)⟩
set_option maxRecDepth 20000 in
theorem mw_75 : mw_ok 75 := ⟨rfl, rfl, by decide +kernel, tb_i6 (List.mem_of_getElem? (i := 214) rfl), tb_i6 (List.mem_of_getElem? (i := 212) rfl), tb_i6 (List.mem_of_getElem? (i := 213) rfl), tb_i1 (List.mem_of_getElem? (i := 5) rfl)⟩
set_option maxRecDepth 20000 in
theorem mw_76 : mw_ok 76 := ⟨rfl, rfl, by decide +kernel, tb_i3 (List.mem_of_getElem? (i := 223) rfl), tb_i3 (List.mem_of_getElem? (i := 222) rfl), tb_is (List.mem_of_getElem? (i := 6) rfl), tb_i1 (List.mem_of_getElem? (i := 5) rfl)⟩
set_option maxRecDepth 20000 in
theorem mw_77 : mw_ok 77 := ⟨rfl, rfl, by decide +kernel, tb_i3 (List.mem_of_getElem? (i := 231) rfl), tb_i3 (List.mem_of_getElem? (i := 230) rfl), tb_is (List.mem_of_getElem? (i := 7) rfl), tb_i1 (List.mem_of_getElem? (i := 5) rfl)⟩
set_option maxRecDepth 20000 in
theorem mw_78 : mw_ok 78 := ⟨rfl, rfl, by decide +kernel, tb_i4 (List.mem_of_getElem? (i := 7) rfl), tb_i4 (List.mem_of_getElem? (i := 6) rfl), tb_is (List.mem_of_getElem? (i := 9) rfl), tb_i1 (List.mem_of_getElem? (i := 5) rfl)⟩
set_option maxRecDepth 20000 in
theorem mw_79 : mw_ok 79 := ⟨rfl, rfl, by decide +kernel, tb_i4 (List.mem_of_getElem? (i := 95) rfl), tb_i4 (List.mem_of_getElem? (i := 93) rfl), tb_i4 (List.mem_of_getElem? (i := 94) rfl), tb_i1 (List.mem_of_getElem? (i := 5) rfl)⟩
set_option maxRecDepth 20000 in
theorem mw_80 : mw_ok 80 := ⟨rfl, rfl, by decide +kernel, tb_i4 (List.mem_of_getElem? (i := 127) rfl), tb_i4 (List.mem_of_getElem? (i := 125) rfl), tb_i4 (List.mem_of_getElem? (i := 126) rfl), tb_i1 (List.mem_of_getElem? (i := 5) rfl)⟩
set_option maxRecDepth 20000 in
theorem mw_81 : mw_ok 81 := ⟨rfl, rfl, by decide +kernel, tb_i4 (List.mem_of_getElem? (i := 123) rfl), tb_i4 (List.mem_of_getElem? (i := 121) rfl), tb_i4 (List.mem_of_getElem? (i := 122) rfl), tb_i1 (List.mem_of_getElem? (i := 5) rfl)⟩
set_option maxRecDepth 20000 in
theorem mw_82 : mw_ok 82 := ⟨rfl, rfl, by decide +kernel, tb_i5 (List.mem_of_getElem? (i := 171) rfl), tb_i5 (List.mem_of_getElem? (i := 169) rfl), tb_i5 (List.mem_of_getElem? (i := 170) rfl), tb_i1 (List.mem_of_getElem? (i := 5) rfl)⟩
set_option maxRecDepth 20000 in
theorem mw_83 : mw_ok 83 := ⟨rfl, rfl, by decide +kernel, tb_i3 (List.mem_of_getElem? (i := 227) rfl), tb_i3 (List.mem_of_getElem? (i := 225) rfl), tb_i3 (List.mem_of_getElem? (i := 226) rfl), tb_i1 (List.mem_of_getElem? (i := 5) rfl)⟩
set_option maxRecDepth 20000 in
theorem mw_84 : mw_ok 84 := ⟨rfl, rfl, by decide +kernel, tb_i7 (List.mem_of_getElem? (i := 21) rfl), tb_i7 (List.mem_of_getElem? (i := 19) rfl), tb_i7 (List.mem_of_getElem? (i := 20) rfl), tb_i1 (List.mem_of_getElem? (i := 5) rfl)⟩
set_option maxRecDepth 20000 in
theorem mw_85 : mw_ok 85 := ⟨rfl, rfl, by decide +kernel, tb_i3 (List.mem_of_getElem? (i := 234) rfl), tb_i3 (List.mem_of_getElem? (i := 233) rfl), trivial, tb_i1 (List.mem_of_getElem? (i := 5) rfl)⟩
set_option maxRecDepth 20000 in
theorem mw_86 : mw_ok 86 := ⟨rfl, rfl, by decide +kernel, tb_i3 (List.mem_of_getElem? (i := 238) rfl), tb_i3 (List.mem_of_getElem? (i := 237) rfl), tb_is (List.mem_of_getElem? (i := 8) rfl), tb_i1 (List.mem_of_getElem? (i := 5) rfl)⟩
set_option maxRecDepth 20000 in
theorem mw_87 : mw_ok 87 := ⟨rfl, rfl, by decide +kernel, tb_i4 (List.mem_of_getElem? (i := 1) rfl), tb_i4 (List.mem_of_getElem? (i := 0) rfl), trivial, tb_i1 (List.mem_of_getElem? (i := 5) rfl)⟩
set_option maxRecDepth 20000 in
theorem mw_88 : mw_ok 88 := ⟨rfl, rfl, by decide +kernel, tb_i4 (List.mem_of_getElem? (i := 11) rfl), tb_i4 (List.mem_of_getElem? (i := 10) rfl), tb_is (List.mem_of_getElem? (i := 10) rfl), tb_i1 (List.mem_of_getElem? (i := 5) rfl)⟩
set_option maxRecDepth 20000 in
theorem mw_89 : mw_ok 89 := ⟨rfl, rfl, by decide +kernel, tb_i4 (List.mem_of_getElem? (i := 73) rfl), tb_i4 (List.mem_of_getElem? (i := 72) rfl), trivial, tb_i1 (List.mem_of_getElem? (i := 5) rfl)⟩
set_option maxRecDepth 20000 in
theorem mw_90 : mw_ok 90 := ⟨rfl, rfl, by decide +kernel, tb_i4 (List.mem_of_getElem? (i := 77) rfl), tb_i4 (List.mem_of_getElem? (i := 76) rfl), tb_is (List.mem_of_getElem? (i := 11) rfl), tb_i1 (List.mem_of_getElem? (i := 5) rfl)⟩
set_option maxRecDepth 20000 in
theorem mw_91 : mw_ok 91 := ⟨rfl, rfl, by decide +kernel, tb_i4 (List.mem_of_getElem? (i := 86) rfl), tb_i4 (List.mem_of_getElem? (i := 85) rfl), tb_is (List.mem_of_getElem? (i := 12) rfl), tb_i1 (List.mem_of_getElem? (i := 5) rfl)⟩
set_option maxRecDepth 20000 in
theorem mw_92 : mw_ok 92 := ⟨rfl, rfl, by decide +kernel, tb_i4 (List.mem_of_getElem? (i := 107) rfl), tb_i4 (List.mem_of_getElem? (i := 105) rfl), tb_i4 (List.mem_of_getElem? (i := 106) rfl), tb_i1 (List.mem_of_getElem? (i := 5) rfl)⟩
set_option maxRecDepth 20000 in
theorem mw_93 : mw_ok 93 := ⟨rfl, rfl, by decide +kernel, tb_i4 (List.mem_of_getElem? (i := 118) rfl), tb_i4 (List.mem_of_getElem? (i := 116) rfl), tb_i4 (List.mem_of_getElem? (i := 117) rfl), tb_i1 (List.mem_of_getElem? (i := 5) rfl)⟩
set_option maxRecDepth 20000 in
theorem mw_94 : mw_ok 94 := ⟨rfl, rfl, by decide +kernel, tb_i4 (List.mem_of_getElem? (i := 114) rfl), tb_i4 (List.mem_of_getElem? (i := 112) rfl), tb_i4 (List.mem_of_getElem? (i := 113) rfl), tb_i1 (List.mem_of_getElem? (i := 5) rfl)⟩
set_option maxRecDepth 20000 in
theorem mw_95 : mw_ok 95 := ⟨rfl, rfl, by decide +kernel, tb_i4 (List.mem_of_getElem? (i := 14) rfl), tb_i4 (List.mem_of_getElem? (i := 13) rfl), trivial, tb_i1 (List.mem_of_getElem? (i := 5) rfl)⟩
set_option maxRecDepth 20000 in
theorem mw_96 : mw_ok 96 := ⟨rfl, rfl, by decide +kernel, tb_i4 (List.mem_of_getElem? (i := 169) rfl), tb_i4 (List.mem_of_getElem? (i := 167) rfl), tb_i4 (List.mem_of_getElem? (i := 168) rfl), tb_i1 (List.mem_of_getElem? (i := 5) rfl)⟩
set_option maxRecDepth 20000 in
theorem mw_97 : mw_ok 97 := ⟨rfl, rfl, by decide +kernel, tb_i4 (List.mem_of_getElem? (i := 174) rfl), tb_i4 (List.mem_of_getElem? (i := 172) rfl), tb_i4 (List.mem_of_getElem? (i := 173) rfl), tb_i1 (List.mem_of_getElem? (i := 5) rfl)⟩
set_option maxRecDepth 20000 in
theorem mw_98 : mw_ok 98 := ⟨rfl, rfl, by decide +kernel, tb_i5 (List.mem_of_getElem? (i := 167) rfl), tb_i5 (List.mem_of_getElem? (i := 165) rfl), tb_i5 (List.mem_of_getElem? (i := 166) rfl), tb_i1 (List.mem_of_getElem? (i := 5) rfl)⟩
set_option maxRecDepth 20000 in
theorem mw_99 : mw_ok 99 := ⟨rfl, rfl, by decide +kernel, tb_i5 (List.mem_of_getElem? (i := 12) rfl), tb_i5 (List.mem_of_getElem? (i := 10) rfl), tb_i5 (List.mem_of_getElem? (i := 11) rfl), tb_i1 (List.mem_of_getElem? (i := 5) rfl)⟩
set_option maxRecDepth 20000 in
theorem mw_100 : mw_ok 100 := ⟨rfl, rfl, by decide +kernel, tb_i1 (List.mem_of_getElem? (i := 56) rfl), tb_i1 (List.mem_of_getElem? (i := 55) rfl), trivial, tb_i1 (List.mem_of_getElem? (i := 4) rfl)⟩
set_option maxRecDepth 20000 in
theorem mw_101 : mw_ok 101 := ⟨rfl, rfl, by decide +kernel, tb_i3 (List.mem_of_getElem? (i := 102) rfl), tb_i3 (List.mem_of_getElem? (i := 100) rfl), tb_i3 (List.mem_of_getElem? (i := 101) rfl), tb_i1 (List.mem_of_getElem? (i := 4) rfl)⟩
set_option maxRecDepth 20000 in
theorem mw_102 : mw_ok 102 := ⟨rfl, rfl, by decide +kernel, tb_i3 (List.mem_of_getElem? (i := 109) rfl), tb_i3 (List.mem_of_getElem? (i := 107) rfl), tb_i3 (List.mem_of_getElem? (i := 108) rfl), tb_i1 (List.mem_of_getElem? (i := 4) rfl)⟩
set_option maxRecDepth 20000 in
theorem mw_103 : mw_ok 103 := ⟨rfl, rfl, by decide +kernel, tb_i3 (List.mem_of_getElem? (i := 113) rfl), tb_i3 (List.mem_of_getElem? (i := 112) rfl), tb_is (List.mem_of_getElem? (i := 3) rfl), tb_i1 (List.mem_of_getElem? (i := 4) rfl)⟩
set_option maxRecDepth 20000 in
theorem mw_104 : mw_ok 104 := ⟨rfl, rfl, by decide +kernel, tb_i3 (List.mem_of_getElem? (i := 166) rfl), tb_i3 (List.mem_of_getElem? (i := 164) rfl), tb_i3 (List.mem_of_getElem? (i := 165) rfl), tb_i1 (List.mem_of_getElem? (i := 4) rfl)⟩
set_option maxRecDepth 20000 in
theorem mw_105 : mw_ok 105 := ⟨rfl, rfl, by decide +kernel, tb_i3 (List.mem_of_getElem? (i := 180) rfl), tb_i3 (List.mem_of_getElem? (i := 178) rfl), tb_i3 (List.mem_of_getElem? (i := 179) rfl), tb_i1 (List.mem_of_getElem? (i := 4) rfl)⟩
set_option maxRecDepth 20000 in
theorem mw_106 : mw_ok 106 := ⟨rfl, rfl, by decide +kernel, tb_i5 (List.mem_of_getElem? (i := 29) rfl), tb_i5 (List.mem_of_getElem? (i := 27) rfl), tb_i5 (List.mem_of_getElem? (i := 28) rfl), tb_i1 (List.mem_of_getElem? (i := 4) rfl)⟩
set_option maxRecDepth 20000 in
theorem mw_107 : mw_ok 107 := ⟨rfl, rfl, by decide +kernel, tb_i3 (List.mem_of_getElem? (i := 170) rfl), tb_i3 (List.mem_of_getElem? (i := 169) rfl), tb_is (List.mem_of_getElem? (i := 4) rfl), tb_i1 (List.mem_of_getElem? (i := 4) rfl)⟩
set_option maxRecDepth 20000 in
theorem mw_108 : mw_ok 108 := ⟨rfl, rfl, by decide +kernel, tb_i5 (List.mem_of_getElem? (i := 101) rfl), tb_i5 (List.mem_of_getElem? (i := 99) rfl), tb_i5 (List.mem_of_getElem? (i := 100) rfl), tb_i1 (List.mem_of_getElem? (i := 4) rfl)⟩
set_option maxRecDepth 20000 in
theorem mw_109 : mw_ok 109 := ⟨rfl, rfl, by decide +kernel, tb_i5 (List.mem_of_getElem? (i := 121) rfl), tb_i5 (List.mem_of_getElem? (i := 119) rfl), tb_i5 (List.mem_of_getElem? (i := 120) rfl), tb_i1 (List.mem_of_getElem? (i := 4) rfl)⟩
set_option maxRecDepth 20000 in
theorem mw_110 : mw_ok 110 := ⟨rfl, rfl, by decide +kernel, tb_i5 (List.mem_of_getElem? (i := 129) rfl), tb_i5 (List.mem_of_getElem? (i := 127) rfl), tb_i5 (List.mem_of_getElem? (i := 128) rfl), tb_i1 (List.mem_of_getElem? (i := 4) rfl)⟩
set_option maxRecDepth 20000 in
theorem mw_111 : mw_ok 111 := ⟨rfl, rfl, by decide +kernel, tb_i3 (List.mem_of_getElem? (i := 176) rfl), tb_i3 (List.mem_of_getElem? (i := 175) rfl), tb_is (List.mem_of_getElem? (i := 5) rfl), tb_i1 (List.mem_of_getElem? (i := 4) rfl)⟩
set_option maxRecDepth 20000 in
theorem mw_112 : mw_ok 112 := ⟨rfl, rfl, by decide +kernel, tb_i1 (List.mem_of_getElem? (i := 149) rfl), tb_i1 (List.mem_of_getElem? (i := 148) rfl), trivial, tb_i1 (List.mem_of_getElem? (i := 6) rfl)⟩
set_option maxRecDepth 20000 in
theorem mw_113 : mw_ok 113 := ⟨rfl, rfl, by decide +kernel, tb_i3 (List.mem_of_getElem? (i := 188) rfl), tb_i3 (List.mem_of_getElem? (i := 186) rfl), tb_i3 (List.mem_of_getElem? (i := 187) rfl), tb_i1 (List.mem_of_getElem? (i := 6) rfl)⟩
set_option maxRecDepth 20000 in
theorem mw_114 : mw_ok 114 := ⟨rfl, rfl, by decide +kernel, tb_i4 (List.mem_of_getElem? (i := 227) rfl), tb_i4 (List.mem_of_getElem? (i := 225) rfl), tb_i4 (List.mem_of_getElem? (i := 226) rfl), tb_i1 (List.mem_of_getElem? (i := 6) rfl)⟩
set_option maxRecDepth 20000 in
theorem mw_115 : mw_ok 115 := ⟨rfl, rfl, by decide +kernel, tb_i6 (List.mem_of_getElem? (i := 121) rfl), tb_i6 (List.mem_of_getElem? (i := 119) rfl), tb_i6 (List.mem_of_getElem? (i := 120) rfl), tb_i1 (List.mem_of_getElem? (i := 6) rfl)⟩
set_option maxRecDepth 20000 in
theorem mw_116 : mw_ok 116 := ⟨rfl, rfl, by decide +kernel, tb_i5 (List.mem_of_getElem? (i := 33) rfl), tb_i5 (List.mem_of_getElem? (i := 31) rfl), tb_i5 (List.mem_of_getElem? (i := 32) rfl), tb_i1 (List.mem_of_getElem? (i := 6) rfl)⟩
set_option maxRecDepth 20000 in
theorem mw_117 : mw_ok 117 := ⟨rfl, rfl, by decide +kernel, tb_i5 (List.mem_of_getElem? (i := 197) rfl), tb_i5 (List.mem_of_getElem? (i := 195) rfl), tb_i5 (List.mem_of_getElem? (i := 196) rfl), tb_i1 (List.mem_of_getElem? (i := 6) rfl)⟩
set_option maxRecDepth 20000 in
theorem mw_118 : mw_ok 118 := ⟨rfl, rfl, by decide +kernel, tb_i5 (List.mem_of_getElem? (i := 205) rfl), tb_i5 (List.mem_of_getElem? (i := 203) rfl), tb_i5 (List.mem_of_getElem? (i := 204) rfl), tb_i1 (List.mem_of_getElem? (i := 6) rfl)⟩
set_option maxRecDepth 20000 in
theorem mw_119 : mw_ok 119 := ⟨rfl, rfl, by decide +kernel, tb_i6 (List.mem_of_getElem? (i := 125) rfl), tb_i6 (List.mem_of_getElem? (i := 123) rfl), tb_i6 (List.mem_of_getElem? (i := 124) rfl), tb_i1 (List.mem_of_getElem? (i := 6) rfl)⟩
set_option maxRecDepth 20000 in
theorem mw_120 : mw_ok 120 := ⟨rfl, rfl, by decide +kernel, tb_i6 (List.mem_of_getElem? (i := 87) rfl), tb_i6 (List.mem_of_getElem? (i := 85) rfl), tb_i6 (List.mem_of_getElem? (i := 86) rfl), tb_i1 (List.mem_of_getElem? (i := 6) rfl)⟩
set_option maxRecDepth 20000 in
theorem mw_121 : mw_ok 121 := ⟨rfl, rfl, by decide +kernel, tb_i6 (List.mem_of_getElem? (i := 91) rfl), tb_i6 (List.mem_of_getElem? (i := 89) rfl), tb_i6 (List.mem_of_getElem? (i := 90) rfl), tb_i1 (List.mem_of_getElem? (i := 6) rfl)⟩
set_option maxRecDepth 20000 in
theorem mw_122 : mw_ok 122 := ⟨rfl, rfl, by decide +kernel, tb_i5 (List.mem_of_getElem? (i := 201) rfl), tb_i5 (List.mem_of_getElem? (i := 199) rfl), tb_i5 (List.mem_of_getElem? (i := 200) rfl), tb_i1 (List.mem_of_getElem? (i := 6) rfl)⟩
set_option maxRecDepth 20000 in
theorem mw_123 : mw_ok 123 := ⟨rfl, rfl, by decide +kernel, tb_i4 (List.mem_of_getElem? (i := 223) rfl), tb_i4 (List.mem_of_getElem? (i := 221) rfl), tb_i4 (List.mem_of_getElem? (i := 222) rfl), tb_i1 (List.mem_of_getElem? (i := 6) rfl)⟩
set_option maxRecDepth 20000 in
theorem mw_124 : mw_ok 124 := ⟨rfl, rfl, by decide +kernel, tb_i4 (List.mem_of_getElem? (i := 211) rfl), tb_i4 (List.mem_of_getElem? (i := 209) rfl), tb_i4 (List.mem_of_getElem? (i := 210) rfl), tb_i1 (List.mem_of_getElem? (i := 6) rfl)⟩
set_option maxRecDepth 20000 in
theorem mw_125 : mw_ok 125 := ⟨rfl, rfl, by decide +kernel, tb_i4 (List.mem_of_getElem? (i := 231) rfl), tb_i4 (List.mem_of_getElem? (i := 229) rfl), tb_i4 (List.mem_of_getElem? (i := 230) rfl), tb_i1 (List.mem_of_getElem? (i := 6) rfl)⟩
set_option maxRecDepth 20000 in
theorem mw_126 : mw_ok 126 := ⟨rfl, rfl, by decide +kernel, tb_i5 (List.mem_of_getElem? (i := 20) rfl), tb_i5 (List.mem_of_getElem? (i := 18) rfl), tb_i5 (List.mem_of_getElem? (i := 19) rfl), tb_i1 (List.mem_of_getElem? (i := 6) rfl)⟩
set_option maxRecDepth 20000 in
theorem mw_127 : mw_ok 127 := ⟨rfl, rfl, by decide +kernel, tb_i2 (List.mem_of_getElem? (i := 160) rfl), tb_i2 (List.mem_of_getElem? (i := 159) rfl), trivial, tb_i1 (List.mem_of_getElem? (i := 13) rfl)⟩
set_option maxRecDepth 20000 in
theorem mw_128 : mw_ok 128 := ⟨rfl, rfl, by decide +kernel, tb_i7 (List.mem_of_getElem? (i := 17) rfl), tb_i7 (List.mem_of_getElem? (i := 15) rfl), tb_i7 (List.mem_of_getElem? (i := 16) rfl), tb_i1 (List.mem_of_getElem? (i := 13) rfl)⟩
set_option maxRecDepth 20000 in
theorem mw_129 : mw_ok 129 := ⟨rfl, rfl, by decide +kernel, tb_i7 (List.mem_of_getElem? (i := 64) rfl), tb_i7 (List.mem_of_getElem? (i := 62) rfl), tb_i7 (List.mem_of_getElem? (i := 63) rfl), tb_i1 (List.mem_of_getElem? (i := 13) rfl)⟩
set_option maxRecDepth 20000 in
theorem mw_130 : mw_ok 130 := ⟨rfl, rfl, by decide +kernel, tb_i7 (List.mem_of_getElem? (i := 69) rfl), tb_i7 (List.mem_of_getElem? (i := 67) rfl), tb_i7 (List.mem_of_getElem? (i := 68) rfl), tb_i1 (List.mem_of_getElem? (i := 13) rfl)⟩
set_option maxRecDepth 20000 in
theorem mw_131 : mw_ok 131 := ⟨rfl, rfl, by decide +kernel, tb_i7 (List.mem_of_getElem? (i := 82) rfl), tb_i7 (List.mem_of_getElem? (i := 80) rfl), tb_i7 (List.mem_of_getElem? (i := 81) rfl), tb_i1 (List.mem_of_getElem? (i := 13) rfl)⟩
set_option maxRecDepth 20000 in
theorem mw_132 : mw_ok 132 := ⟨rfl, rfl, by decide +kernel, tb_i7 (List.mem_of_getElem? (i := 25) rfl), tb_i7 (List.mem_of_getElem? (i := 24) rfl), tb_is (List.mem_of_getElem? (i := 74) rfl), tb_i1 (List.mem_of_getElem? (i := 13) rfl)⟩
set_option maxRecDepth 20000 in
theorem mw_133 : mw_ok 133 := ⟨rfl, rfl, by decide +kernel, tb_i7 (List.mem_of_getElem? (i := 44) rfl), tb_i7 (List.mem_of_getElem? (i := 43) rfl), tb_is (List.mem_of_getElem? (i := 77) rfl), tb_i1 (List.mem_of_getElem? (i := 13) rfl)⟩
set_option maxRecDepth 20000 in
theorem mw_134 : mw_ok 134 := ⟨rfl, rfl, by decide +kernel, tb_i7 (List.mem_of_getElem? (i := 30) rfl), tb_i7 (List.mem_of_getElem? (i := 29) rfl), tb_is (List.mem_of_getElem? (i := 75) rfl), tb_i1 (List.mem_of_getElem? (i := 13) rfl)⟩
set_option maxRecDepth 20000 in
theorem mw_135 : mw_ok 135 := ⟨rfl, rfl, by decide +kernel, tb_i7 (List.mem_of_getElem? (i := 34) rfl), tb_i7 (List.mem_of_getElem? (i := 33) rfl), tb_is (List.mem_of_getElem? (i := 76) rfl), tb_i1 (List.mem_of_getElem? (i := 13) rfl)⟩
set_option maxRecDepth 20000 in
theorem mw_136 : mw_ok 136 := ⟨rfl, rfl, by decide +kernel, tb_i7 (List.mem_of_getElem? (i := 37) rfl), tb_i7 (List.mem_of_getElem? (i := 36) rfl), trivial, tb_i1 (List.mem_of_getElem? (i := 13) rfl)⟩
set_option maxRecDepth 20000 in
theorem mw_137 : mw_ok 137 := ⟨rfl, rfl, by decide +kernel, tb_i7 (List.mem_of_getElem? (i := 49) rfl), tb_i7 (List.mem_of_getElem? (i := 48) rfl), tb_is (List.mem_of_getElem? (i := 78) rfl), tb_i1 (List.mem_of_getElem? (i := 13) rfl)⟩
set_option maxRecDepth 20000 in
theorem mw_138 : mw_ok 138 := ⟨rfl, rfl, by decide +kernel, tb_i7 (List.mem_of_getElem? (i := 40) rfl), tb_i7 (List.mem_of_getElem? (i := 39) rfl), trivial, tb_i1 (List.mem_of_getElem? (i := 13) rfl)⟩
set_option maxRecDepth 20000 in
theorem mw_139 : mw_ok 139 := ⟨rfl, rfl, by decide +kernel, tb_i2 (List.mem_of_getElem? (i := 49) rfl), tb_i2 (List.mem_of_getElem? (i := 48) rfl), trivial, tb_i1 (List.mem_of_getElem? (i := 10) rfl)⟩
set_option maxRecDepth 20000 in
theorem mw_140 : mw_ok 140 := ⟨rfl, rfl, by decide +kernel, tb_i3 (List.mem_of_getElem? (i := 204) rfl), tb_i3 (List.mem_of_getElem? (i := 202) rfl), tb_i3 (List.mem_of_getElem? (i := 203) rfl), tb_i1 (List.mem_of_getElem? (i := 10) rfl)⟩
set_option maxRecDepth 20000 in
theorem mw_141 : mw_ok 141 := ⟨rfl, rfl, by decide +kernel, tb_i4 (List.mem_of_getElem? (i := 103) rfl), tb_i4 (List.mem_of_getElem? (i := 101) rfl), tb_i4 (List.mem_of_getElem? (i := 102) rfl), tb_i1 (List.mem_of_getElem? (i := 10) rfl)⟩
set_option maxRecDepth 20000 in
theorem mw_142 : mw_ok 142 := ⟨rfl, rfl, by decide +kernel, tb_i4 (List.mem_of_getElem? (i := 132) rfl), tb_i4 (List.mem_of_getElem? (i := 130) rfl), tb_i4 (List.mem_of_getElem? (i := 131) rfl), tb_i1 (List.mem_of_getElem? (i := 10) rfl)⟩
set_option maxRecDepth 20000 in
theorem mw_143 : mw_ok 143 := ⟨rfl, rfl, by decide +kernel, tb_i4 (List.mem_of_getElem? (i := 136) rfl), tb_i4 (List.mem_of_getElem? (i := 134) rfl), tb_i4 (List.mem_of_getElem? (i := 135) rfl), tb_i1 (List.mem_of_getElem? (i := 10) rfl)⟩
set_option maxRecDepth 20000 in
theorem mw_144 : mw_ok 144 := ⟨rfl, rfl, by decide +kernel, tb_i4 (List.mem_of_getElem? (i := 140) rfl), tb_i4 (List.mem_of_getElem? (i := 138) rfl), tb_i4 (List.mem_of_getElem? (i := 139) rfl), tb_i1 (List.mem_of_getElem? (i := 10) rfl)⟩
set_option maxRecDepth 20000 in
theorem mw_145 : mw_ok 145 := ⟨rfl, rfl, by decide +kernel, tb_i5 (List.mem_of_getElem? (i := 109) rfl), tb_i5 (List.mem_of_getElem? (i := 107) rfl), tb_i5 (List.mem_of_getElem? (i := 108) rfl), tb_i1 (List.mem_of_getElem? (i := 10) rfl)⟩
set_option maxRecDepth 20000 in
theorem mw_146 : mw_ok 146 := ⟨rfl, rfl, by decide +kernel, tb_i4 (List.mem_of_getElem? (i := 144) rfl), tb_i4 (List.mem_of_getElem? (i := 143) rfl), tb_is (List.mem_of_getElem? (i := 14) rfl), tb_i1 (List.mem_of_getElem? (i := 10) rfl)⟩
set_option maxRecDepth 20000 in
theorem mw_147 : mw_ok 147 := ⟨rfl, rfl, by decide +kernel, tb_i4 (List.mem_of_getElem? (i := 165) rfl), tb_i4 (List.mem_of_getElem? (i := 164) rfl), tb_is (List.mem_of_getElem? (i := 16) rfl), tb_i1 (List.mem_of_getElem? (i := 10) rfl)⟩
set_option maxRecDepth 20000 in
theorem mw_148 : mw_ok 148 := ⟨rfl, rfl, by decide +kernel, tb_i5 (List.mem_of_getElem? (i := 84) rfl), tb_i5 (List.mem_of_getElem? (i := 83) rfl), tb_is (List.mem_of_getElem? (i := 37) rfl), tb_i1 (List.mem_of_getElem? (i := 10) rfl)⟩
set_option maxRecDepth 20000 in
theorem mw_149 : mw_ok 149 := ⟨rfl, rfl, by decide +kernel, tb_i5 (List.mem_of_getElem? (i := 93) rfl), tb_i5 (List.mem_of_getElem? (i := 92) rfl), tb_is (List.mem_of_getElem? (i := 38) rfl), tb_i1 (List.mem_of_getElem? (i := 10) rfl)⟩
set_option maxRecDepth 20000 in
theorem mw_150 : mw_ok 150 := ⟨rfl, rfl, by decide +kernel, tb_i5 (List.mem_of_getElem? (i := 113) rfl), tb_i5 (List.mem_of_getElem? (i := 112) rfl), tb_is (List.mem_of_getElem? (i := 40) rfl), tb_i1 (List.mem_of_getElem? (i := 10) rfl)⟩
set_option maxRecDepth 20000 in
theorem mw_151 : mw_ok 151 := ⟨rfl, rfl, by decide +kernel, tb_i5 (List.mem_of_getElem? (i := 147) rfl), tb_i5 (List.mem_of_getElem? (i := 146) rfl), tb_is (List.mem_of_getElem? (i := 42) rfl), tb_i1 (List.mem_of_getElem? (i := 10) rfl)⟩
set_option maxRecDepth 20000 in
theorem mw_152 : mw_ok 152 := ⟨rfl, rfl, by decide +kernel, tb_i5 (List.mem_of_getElem? (i := 151) rfl), tb_i5 (List.mem_of_getElem? (i := 150) rfl), tb_is (List.mem_of_getElem? (i := 43) rfl), tb_i1 (List.mem_of_getElem? (i := 10) rfl)⟩
set_option maxRecDepth 20000 in
theorem mw_153 : mw_ok 153 := ⟨rfl, rfl, by decide +kernel, tb_i5 (List.mem_of_getElem? (i := 159) rfl), tb_i5 (List.mem_of_getElem? (i := 158) rfl), tb_is (List.mem_of_getElem? (i := 45) rfl), tb_i1 (List.mem_of_getElem? (i := 10) rfl)⟩
set_option maxRecDepth 20000 in
theorem mw_154 : mw_ok 154 := ⟨rfl, rfl, by decide +kernel, tb_i4 (List.mem_of_getElem? (i := 150) rfl), tb_i4 (List.mem_of_getElem? (i := 149) rfl), tb_is (List.mem_of_getElem? (i := 15) rfl), tb_i1 (List.mem_of_getElem? (i := 10) rfl)⟩
set_option maxRecDepth 20000 in
theorem mw_155 : mw_ok 155 := ⟨rfl, rfl, by decide +kernel, tb_i5 (List.mem_of_getElem? (i := 97) rfl), tb_i5 (List.mem_of_getElem? (i := 96) rfl), tb_is (List.mem_of_getElem? (i := 39) rfl), tb_i1 (List.mem_of_getElem? (i := 10) rfl)⟩
set_option maxRecDepth 20000 in
theorem mw_156 : mw_ok 156 := ⟨rfl, rfl, by decide +kernel, tb_i5 (List.mem_of_getElem? (i := 117) rfl), tb_i5 (List.mem_of_getElem? (i := 116) rfl), tb_is (List.mem_of_getElem? (i := 41) rfl), tb_i1 (List.mem_of_getElem? (i := 10) rfl)⟩
set_option maxRecDepth 20000 in
theorem mw_157 : mw_ok 157 := ⟨rfl, rfl, by decide +kernel, tb_i5 (List.mem_of_getElem? (i := 155) rfl), tb_i5 (List.mem_of_getElem? (i := 154) rfl), tb_is (List.mem_of_getElem? (i := 44) rfl), tb_i1 (List.mem_of_getElem? (i := 10) rfl)⟩
set_option maxRecDepth 20000 in
theorem mw_158 : mw_ok 158 := ⟨rfl, rfl, by decide +kernel, tb_i5 (List.mem_of_getElem? (i := 163) rfl), tb_i5 (List.mem_of_getElem? (i := 162) rfl), tb_is (List.mem_of_getElem? (i := 46) rfl), tb_i1 (List.mem_of_getElem? (i := 10) rfl)⟩
set_option maxRecDepth 20000 in
theorem mw_159 : mw_ok 159 := ⟨rfl, rfl, by decide +kernel, tb_i5 (List.mem_of_getElem? (i := 177) rfl), tb_i5 (List.mem_of_getElem? (i := 176) rfl), tb_is (List.mem_of_getElem? (i := 47) rfl), tb_i1 (List.mem_of_getElem? (i := 10) rfl)⟩
set_option maxRecDepth 20000 in
theorem mw_160 : mw_ok 160 := ⟨rfl, rfl, by decide +kernel, tb_i2 (List.mem_of_getElem? (i := 111) rfl), tb_i2 (List.mem_of_getElem? (i := 110) rfl), trivial, tb_i1 (List.mem_of_getElem? (i := 12) rfl)⟩
set_option maxRecDepth 20000 in
theorem mw_161 : mw_ok 161 := ⟨rfl, rfl, by decide +kernel, tb_i6 (List.mem_of_getElem? (i := 239) rfl), tb_i6 (List.mem_of_getElem? (i := 237) rfl), tb_i6 (List.mem_of_getElem? (i := 238) rfl), tb_i1 (List.mem_of_getElem? (i := 12) rfl)⟩
set_option maxRecDepth 20000 in
theorem mw_162 : mw_ok 162 := ⟨rfl, rfl, by decide +kernel, tb_i7 (List.mem_of_getElem? (i := 4) rfl), tb_i7 (List.mem_of_getElem? (i := 2) rfl), tb_i7 (List.mem_of_getElem? (i := 3) rfl), tb_i1 (List.mem_of_getElem? (i := 12) rfl)⟩
set_option maxRecDepth 20000 in
theorem mw_163 : mw_ok 163 := ⟨rfl, rfl, by decide +kernel, tb_i3 (List.mem_of_getElem? (i := 208) rfl), tb_i3 (List.mem_of_getElem? (i := 206) rfl), tb_i3 (List.mem_of_getElem? (i := 207) rfl), tb_i1 (List.mem_of_getElem? (i := 12) rfl)⟩
set_option maxRecDepth 20000 in
theorem mw_164 : mw_ok 164 := ⟨rfl, rfl, by decide +kernel, tb_i6 (List.mem_of_getElem? (i := 9) rfl), tb_i6 (List.mem_of_getElem? (i := 7) rfl), tb_i6 (List.mem_of_getElem? (i := 8) rfl), tb_i1 (List.mem_of_getElem? (i := 12) rfl)⟩
set_option maxRecDepth 20000 in
theorem mw_165 : mw_ok 165 := ⟨rfl, rfl, by decide +kernel, tb_i6 (List.mem_of_getElem? (i := 13) rfl), tb_i6 (List.mem_of_getElem? (i := 12) rfl), tb_is (List.mem_of_getElem? (i := 52) rfl), tb_i1 (List.mem_of_getElem? (i := 12) rfl)⟩
set_option maxRecDepth 20000 in
theorem mw_166 : mw_ok 166 := ⟨rfl, rfl, by decide +kernel, tb_i6 (List.mem_of_getElem? (i := 41) rfl), tb_i6 (List.mem_of_getElem? (i := 40) rfl), tb_is (List.mem_of_getElem? (i := 57) rfl), tb_i1 (List.mem_of_getElem? (i := 12) rfl)⟩
set_option maxRecDepth 20000 in
theorem mw_167 : mw_ok 167 := ⟨rfl, rfl, by decide +kernel, tb_i6 (List.mem_of_getElem? (i := 61) rfl), tb_i6 (List.mem_of_getElem? (i := 60) rfl), tb_is (List.mem_of_getElem? (i := 62) rfl), tb_i1 (List.mem_of_getElem? (i := 12) rfl)⟩
set_option maxRecDepth 20000 in
theorem mw_168 : mw_ok 168 := ⟨rfl, rfl, by decide +kernel, tb_i6 (List.mem_of_getElem? (i := 69) rfl), tb_i6 (List.mem_of_getElem? (i := 68) rfl), tb_is (List.mem_of_getElem? (i := 64) rfl), tb_i1 (List.mem_of_getElem? (i := 12) rfl)⟩
set_option maxRecDepth 20000 in
theorem mw_169 : mw_ok 169 := ⟨rfl, rfl, by decide +kernel, tb_i6 (List.mem_of_getElem? (i := 73) rfl), tb_i6 (List.mem_of_getElem? (i := 72) rfl), tb_is (List.mem_of_getElem? (i := 65) rfl), tb_i1 (List.mem_of_getElem? (i := 12) rfl)⟩
set_option maxRecDepth 20000 in
theorem mw_170 : mw_ok 170 := ⟨rfl, rfl, by decide +kernel, tb_i6 (List.mem_of_getElem? (i := 17) rfl), tb_i6 (List.mem_of_getElem? (i := 16) rfl), tb_is (List.mem_of_getElem? (i := 53) rfl), tb_i1 (List.mem_of_getElem? (i := 12) rfl)⟩
set_option maxRecDepth 20000 in
theorem mw_171 : mw_ok 171 := ⟨rfl, rfl, by decide +kernel, tb_i6 (List.mem_of_getElem? (i := 27) rfl), tb_i6 (List.mem_of_getElem? (i := 26) rfl), tb_is (List.mem_of_getElem? (i := 54) rfl), tb_i1 (List.mem_of_getElem? (i := 12) rfl)⟩
set_option maxRecDepth 20000 in
theorem mw_172 : mw_ok 172 := ⟨rfl, rfl, by decide +kernel, tb_i6 (List.mem_of_getElem? (i := 33) rfl), tb_i6 (List.mem_of_getElem? (i := 32) rfl), tb_is (List.mem_of_getElem? (i := 55) rfl), tb_i1 (List.mem_of_getElem? (i := 12) rfl)⟩
set_option maxRecDepth 20000 in
theorem mw_173 : mw_ok 173 := ⟨rfl, rfl, by decide +kernel, tb_i6 (List.mem_of_getElem? (i := 37) rfl), tb_i6 (List.mem_of_getElem? (i := 36) rfl), tb_is (List.mem_of_getElem? (i := 56) rfl), tb_i1 (List.mem_of_getElem? (i := 12) rfl)⟩
set_option maxRecDepth 20000 in
theorem mw_174 : mw_ok 174 := ⟨rfl, rfl, by decide +kernel, tb_i6 (List.mem_of_getElem? (i := 45) rfl), tb_i6 (List.mem_of_getElem? (i := 44) rfl), tb_is (List.mem_of_getElem? (i := 58) rfl), tb_i1 (List.mem_of_getElem? (i := 12) rfl)⟩
set_option maxRecDepth 20000 in
theorem mw_175 : mw_ok 175 := ⟨rfl, rfl, by decide +kernel, tb_i6 (List.mem_of_getElem? (i := 49) rfl), tb_i6 (List.mem_of_getElem? (i := 48) rfl), tb_is (List.mem_of_getElem? (i := 59) rfl), tb_i1 (List.mem_of_getElem? (i := 12) rfl)⟩
set_option maxRecDepth 20000 in
theorem mw_176 : mw_ok 176 := ⟨rfl, rfl, by decide +kernel, tb_i6 (List.mem_of_getElem? (i := 53) rfl), tb_i6 (List.mem_of_getElem? (i := 52) rfl), tb_is (List.mem_of_getElem? (i := 60) rfl), tb_i1 (List.mem_of_getElem? (i := 12) rfl)⟩
set_option maxRecDepth 20000 in
theorem mw_177 : mw_ok 177 := ⟨rfl, rfl, by decide +kernel, tb_i6 (List.mem_of_getElem? (i := 57) rfl), tb_i6 (List.mem_of_getElem? (i := 56) rfl), tb_is (List.mem_of_getElem? (i := 61) rfl), tb_i1 (List.mem_of_getElem? (i := 12) rfl)⟩
set_option maxRecDepth 20000 in
theorem mw_178 : mw_ok 178 := ⟨rfl, rfl, by decide +kernel, tb_i6 (List.mem_of_getElem? (i := 65) rfl), tb_i6 (List.mem_of_getElem? (i := 64) rfl), tb_is (List.mem_of_getElem? (i := 63) rfl), tb_i1 (List.mem_of_getElem? (i := 12) rfl)⟩
set_option maxRecDepth 20000 in
theorem mw_179 : mw_ok 179 := ⟨rfl, rfl, by decide +kernel, tb_i1 (List.mem_of_getElem? (i := 183) rfl), tb_i1 (List.mem_of_getElem? (i := 182) rfl), trivial, tb_i1 (List.mem_of_getElem? (i := 7) rfl)⟩
set_option maxRecDepth 20000 in
theorem mw_180 : mw_ok 180 := ⟨rfl, rfl, by decide +kernel, tb_i3 (List.mem_of_getElem? (i := 192) rfl), tb_i3 (List.mem_of_getElem? (i := 190) rfl), tb_i3 (List.mem_of_getElem? (i := 191) rfl), tb_i1 (List.mem_of_getElem? (i := 7) rfl)⟩
set_option maxRecDepth 20000 in
theorem mw_181 : mw_ok 181 := ⟨rfl, rfl, by decide +kernel, tb_i4 (List.mem_of_getElem? (i := 161) rfl), tb_i4 (List.mem_of_getElem? (i := 159) rfl), tb_i4 (List.mem_of_getElem? (i := 160) rfl), tb_i1 (List.mem_of_getElem? (i := 7) rfl)⟩
set_option maxRecDepth 20000 in
theorem mw_182 : mw_ok 182 := ⟨rfl, rfl, by decide +kernel, tb_i5 (List.mem_of_getElem? (i := 225) rfl), tb_i5 (List.mem_of_getElem? (i := 223) rfl), tb_i5 (List.mem_of_getElem? (i := 224) rfl), tb_i1 (List.mem_of_getElem? (i := 7) rfl)⟩
set_option maxRecDepth 20000 in
theorem mw_183 : mw_ok 183 := ⟨rfl, rfl, by decide +kernel, tb_i6 (List.mem_of_getElem? (i := 99) rfl), tb_i6 (List.mem_of_getElem? (i := 97) rfl), tb_i6 (List.mem_of_getElem? (i := 98) rfl), tb_i1 (List.mem_of_getElem? (i := 7) rfl)⟩
set_option maxRecDepth 20000 in
theorem mw_184 : mw_ok 184 := ⟨rfl, rfl, by decide +kernel, tb_i5 (List.mem_of_getElem? (i := 229) rfl), tb_i5 (List.mem_of_getElem? (i := 227) rfl), tb_i5 (List.mem_of_getElem? (i := 228) rfl), tb_i1 (List.mem_of_getElem? (i := 7) rfl)⟩
set_option maxRecDepth 20000 in
theorem mw_185 : mw_ok 185 := ⟨rfl, rfl, by decide +kernel, tb_i6 (List.mem_of_getElem? (i := 197) rfl), tb_i6 (List.mem_of_getElem? (i := 195) rfl), tb_i6 (List.mem_of_getElem? (i := 196) rfl), tb_i1 (List.mem_of_getElem? (i := 7) rfl)⟩
set_option maxRecDepth 20000 in
theorem mw_186 : mw_ok 186 := ⟨rfl, rfl, by decide +kernel, tb_i6 (List.mem_of_getElem? (i := 201) rfl), tb_i6 (List.mem_of_getElem? (i := 199) rfl), tb_i6 (List.mem_of_getElem? (i := 200) rfl), tb_i1 (List.mem_of_getElem? (i := 7) rfl)⟩
set_option maxRecDepth 20000 in
theorem mw_187 : mw_ok 187 := ⟨rfl, rfl, by decide +kernel, tb_i6 (List.mem_of_getElem? (i := 21) rfl), tb_i6 (List.mem_of_getElem? (i := 19) rfl), tb_i6 (List.mem_of_getElem? (i := 20) rfl), tb_i1 (List.mem_of_getElem? (i := 7) rfl)⟩
set_option maxRecDepth 20000 in
theorem mw_188 : mw_ok 188 := ⟨rfl, rfl, by decide +kernel, tb_i4 (List.mem_of_getElem? (i := 157) rfl), tb_i4 (List.mem_of_getElem? (i := 155) rfl), tb_i4 (List.mem_of_getElem? (i := 156) rfl), tb_i1 (List.mem_of_getElem? (i := 7) rfl)⟩
set_option maxRecDepth 20000 in
theorem mw_189 : mw_ok 189 := ⟨rfl, rfl, by decide +kernel, tb_i5 (List.mem_of_getElem? (i := 139) rfl), tb_i5 (List.mem_of_getElem? (i := 137) rfl), tb_i5 (List.mem_of_getElem? (i := 138) rfl), tb_i1 (List.mem_of_getElem? (i := 7) rfl)⟩
set_option maxRecDepth 20000 in
theorem mw_190 : mw_ok 190 := ⟨rfl, rfl, by decide +kernel, tb_i5 (List.mem_of_getElem? (i := 143) rfl), tb_i5 (List.mem_of_getElem? (i := 141) rfl), tb_i5 (List.mem_of_getElem? (i := 142) rfl), tb_i1 (List.mem_of_getElem? (i := 7) rfl)⟩
set_option maxRecDepth 20000 in
theorem mw_191 : mw_ok 191 := ⟨rfl, rfl, by decide +kernel, tb_i5 (List.mem_of_getElem? (i := 125) rfl), tb_i5 (List.mem_of_getElem? (i := 123) rfl), tb_i5 (List.mem_of_getElem? (i := 124) rfl), tb_i1 (List.mem_of_getElem? (i := 7) rfl)⟩
set_option maxRecDepth 20000 in
theorem mw_192 : mw_ok 192 := ⟨rfl, rfl, by decide +kernel, tb_i7 (List.mem_of_getElem? (i := 89) rfl), tb_i7 (List.mem_of_getElem? (i := 88) rfl), trivial, tb_i1 (List.mem_of_getElem? (i := 14) rfl)⟩
set_option maxRecDepth 20000 in
theorem mw_193 : mw_ok 193 := ⟨rfl, rfl, by decide +kernel, tb_i8 (List.mem_of_getElem? (i := 85) rfl), tb_i8 (List.mem_of_getElem? (i := 83) rfl), tb_i8 (List.mem_of_getElem? (i := 84) rfl), tb_i1 (List.mem_of_getElem? (i := 14) rfl)⟩
set_option maxRecDepth 20000 in
theorem mw_194 : mw_ok 194 := ⟨rfl, rfl, by decide +kernel, tb_i8 (List.mem_of_getElem? (i := 81) rfl), tb_i8 (List.mem_of_getElem? (i := 79) rfl), tb_i8 (List.mem_of_getElem? (i := 80) rfl), tb_i1 (List.mem_of_getElem? (i := 14) rfl)⟩
set_option maxRecDepth 20000 in
theorem mw_195 : mw_ok 195 := ⟨rfl, rfl, by decide +kernel, tb_i8 (List.mem_of_getElem? (i := 93) rfl), tb_i8 (List.mem_of_getElem? (i := 91) rfl), tb_i8 (List.mem_of_getElem? (i := 92) rfl), tb_i1 (List.mem_of_getElem? (i := 14) rfl)⟩
set_option maxRecDepth 20000 in
theorem mw_196 : mw_ok 196 := ⟨rfl, rfl, by decide +kernel, tb_i8 (List.mem_of_getElem? (i := 101) rfl), tb_i8 (List.mem_of_getElem? (i := 99) rfl), tb_i8 (List.mem_of_getElem? (i := 100) rfl), tb_i1 (List.mem_of_getElem? (i := 14) rfl)⟩
set_option maxRecDepth 20000 in
theorem mw_197 : mw_ok 197 := ⟨rfl, rfl, by decide +kernel, tb_i9 (List.mem_of_getElem? (i := 124) rfl), tb_i9 (List.mem_of_getElem? (i := 122) rfl), tb_i9 (List.mem_of_getElem? (i := 123) rfl), tb_i1 (List.mem_of_getElem? (i := 14) rfl)⟩
set_option maxRecDepth 20000 in
theorem mw_198 : mw_ok 198 := ⟨rfl, rfl, by decide +kernel, tb_i9 (List.mem_of_getElem? (i := 128) rfl), tb_i9 (List.mem_of_getElem? (i := 126) rfl), tb_i9 (List.mem_of_getElem? (i := 127) rfl), tb_i1 (List.mem_of_getElem? (i := 14) rfl)⟩
set_option maxRecDepth 20000 in
theorem mw_199 : mw_ok 199 := ⟨rfl, rfl, by decide +kernel, tb_i9 (List.mem_of_getElem? (i := 137) rfl), tb_i9 (List.mem_of_getElem? (i := 135) rfl), tb_i9 (List.mem_of_getElem? (i := 136) rfl), tb_i1 (List.mem_of_getElem? (i := 14) rfl)⟩
set_option maxRecDepth 20000 in
theorem mw_200 : mw_ok 200 := ⟨rfl, rfl, by decide +kernel, tb_i9 (List.mem_of_getElem? (i := 141) rfl), tb_i9 (List.mem_of_getElem? (i := 139) rfl), tb_i9 (List.mem_of_getElem? (i := 140) rfl), tb_i1 (List.mem_of_getElem? (i := 14) rfl)⟩
set_option maxRecDepth 20000 in
theorem mw_201 : mw_ok 201 := ⟨rfl, rfl, by decide +kernel, tb_i9 (List.mem_of_getElem? (i := 147) rfl), tb_i9 (List.mem_of_getElem? (i := 145) rfl), tb_i9 (List.mem_of_getElem? (i := 146) rfl), tb_i1 (List.mem_of_getElem? (i := 14) rfl)⟩
set_option maxRecDepth 20000 in
theorem mw_202 : mw_ok 202 := ⟨rfl, rfl, by decide +kernel, tb_i9 (List.mem_of_getElem? (i := 151) rfl), tb_i9 (List.mem_of_getElem? (i := 149) rfl), tb_i9 (List.mem_of_getElem? (i := 150) rfl), tb_i1 (List.mem_of_getElem? (i := 14) rfl)⟩
set_option maxRecDepth 20000 in
theorem mw_203 : mw_ok 203 := ⟨rfl, rfl, by decide +kernel, tb_i9 (List.mem_of_getElem? (i := 171) rfl), tb_i9 (List.mem_of_getElem? (i := 169) rfl), tb_i9 (List.mem_of_getElem? (i := 170) rfl), tb_i1 (List.mem_of_getElem? (i := 14) rfl)⟩
set_option maxRecDepth 20000 in
theorem mw_204 : mw_ok 204 := ⟨rfl, rfl, by decide +kernel, tb_i9 (List.mem_of_getElem? (i := 175) rfl), tb_i9 (List.mem_of_getElem? (i := 173) rfl), tb_i9 (List.mem_of_getElem? (i := 174) rfl), tb_i1 (List.mem_of_getElem? (i := 14) rfl)⟩
set_option maxRecDepth 20000 in
theorem mw_205 : mw_ok 205 := ⟨rfl, rfl, by decide +kernel, tb_i9 (List.mem_of_getElem? (i := 179) rfl), tb_i9 (List.mem_of_getElem? (i := 177) rfl), tb_i9 (List.mem_of_getElem? (i := 178) rfl), tb_i1 (List.mem_of_getElem? (i := 14) rfl)⟩
set_option maxRecDepth 20000 in
theorem mw_206 : mw_ok 206 := ⟨rfl, rfl, by decide +kernel, tb_i8 (List.mem_of_getElem? (i := 89) rfl), tb_i8 (List.mem_of_getElem? (i := 88) rfl), tb_is (List.mem_of_getElem? (i := 79) rfl), tb_i1 (List.mem_of_getElem? (i := 14) rfl)⟩
set_option maxRecDepth 20000 in
theorem mw_207 : mw_ok 207 := ⟨rfl, rfl, by decide +kernel, tb_i8 (List.mem_of_getElem? (i := 97) rfl), tb_i8 (List.mem_of_getElem? (i := 96) rfl), trivial, tb_i1 (List.mem_of_getElem? (i := 14) rfl)⟩
set_option maxRecDepth 20000 in
theorem mw_208 : mw_ok 208 := ⟨rfl, rfl, by decide +kernel, tb_i8 (List.mem_of_getElem? (i := 105) rfl), tb_i8 (List.mem_of_getElem? (i := 104) rfl), tb_is (List.mem_of_getElem? (i := 80) rfl), tb_i1 (List.mem_of_getElem? (i := 14) rfl)⟩
set_option maxRecDepth 20000 in
theorem mw_209 : mw_ok 209 := ⟨rfl, rfl, by decide +kernel, tb_i8 (List.mem_of_getElem? (i := 161) rfl), tb_i8 (List.mem_of_getElem? (i := 160) rfl), tb_is (List.mem_of_getElem? (i := 87) rfl), tb_i1 (List.mem_of_getElem? (i := 14) rfl)⟩
set_option maxRecDepth 20000 in
theorem mw_210 : mw_ok 210 := ⟨rfl, rfl, by decide +kernel, tb_i9 (List.mem_of_getElem? (i := 8) rfl), tb_i9 (List.mem_of_getElem? (i := 7) rfl), tb_is (List.mem_of_getElem? (i := 108) rfl), tb_i1 (List.mem_of_getElem? (i := 14) rfl)⟩
set_option maxRecDepth 20000 in
theorem mw_211 : mw_ok 211 := ⟨rfl, rfl, by decide +kernel, tb_i9 (List.mem_of_getElem? (i := 44) rfl), tb_i9 (List.mem_of_getElem? (i := 43) rfl), tb_is (List.mem_of_getElem? (i := 115) rfl), tb_i1 (List.mem_of_getElem? (i := 14) rfl)⟩
set_option maxRecDepth 20000 in
theorem mw_212 : mw_ok 212 := ⟨rfl, rfl, by decide +kernel, tb_i9 (List.mem_of_getElem? (i := 60) rfl), tb_i9 (List.mem_of_getElem? (i := 59) rfl), tb_is (List.mem_of_getElem? (i := 119) rfl), tb_i1 (List.mem_of_getElem? (i := 14) rfl)⟩
set_option maxRecDepth 20000 in
theorem mw_213 : mw_ok 213 := ⟨rfl, rfl, by decide +kernel, tb_i9 (List.mem_of_getElem? (i := 68) rfl), tb_i9 (List.mem_of_getElem? (i := 67) rfl), tb_is (List.mem_of_getElem? (i := 121) rfl), tb_i1 (List.mem_of_getElem? (i := 14) rfl)⟩
set_option maxRecDepth 20000 in
theorem mw_214 : mw_ok 214 := ⟨rfl, rfl, by decide +kernel, tb_i9 (List.mem_of_getElem? (i := 80) rfl), tb_i9 (List.mem_of_getElem? (i := 79) rfl), tb_is (List.mem_of_getElem? (i := 124) rfl), tb_i1 (List.mem_of_getElem? (i := 14) rfl)⟩
set_option maxRecDepth 20000 in
theorem mw_215 : mw_ok 215 := ⟨rfl, rfl, by decide +kernel, tb_i9 (List.mem_of_getElem? (i := 92) rfl), tb_i9 (List.mem_of_getElem? (i := 91) rfl), tb_is (List.mem_of_getElem? (i := 127) rfl), tb_i1 (List.mem_of_getElem? (i := 14) rfl)⟩
set_option maxRecDepth 20000 in
theorem mw_216 : mw_ok 216 := ⟨rfl, rfl, by decide +kernel, tb_i9 (List.mem_of_getElem? (i := 116) rfl), tb_i9 (List.mem_of_getElem? (i := 115) rfl), tb_is (List.mem_of_getElem? (i := 133) rfl), tb_i1 (List.mem_of_getElem? (i := 14) rfl)⟩
set_option maxRecDepth 20000 in
theorem mw_217 : mw_ok 217 := ⟨rfl, rfl, by decide +kernel, tb_i9 (List.mem_of_getElem? (i := 132) rfl), tb_i9 (List.mem_of_getElem? (i := 131) rfl), tb_is (List.mem_of_getElem? (i := 135) rfl), tb_i1 (List.mem_of_getElem? (i := 14) rfl)⟩
set_option maxRecDepth 20000 in
theorem mw_218 : mw_ok 218 := ⟨rfl, rfl, by decide +kernel, tb_i9 (List.mem_of_getElem? (i := 17) rfl), tb_i9 (List.mem_of_getElem? (i := 16) rfl), tb_is (List.mem_of_getElem? (i := 110) rfl), tb_i1 (List.mem_of_getElem? (i := 14) rfl)⟩
set_option maxRecDepth 20000 in
theorem mw_219 : mw_ok 219 := ⟨rfl, rfl, by decide +kernel, tb_i9 (List.mem_of_getElem? (i := 120) rfl), tb_i9 (List.mem_of_getElem? (i := 119) rfl), tb_is (List.mem_of_getElem? (i := 134) rfl), tb_i1 (List.mem_of_getElem? (i := 14) rfl)⟩
set_option maxRecDepth 20000 in
theorem mw_220 : mw_ok 220 := ⟨rfl, rfl, by decide +kernel, tb_i9 (List.mem_of_getElem? (i := 155) rfl), tb_i9 (List.mem_of_getElem? (i := 154) rfl), tb_is (List.mem_of_getElem? (i := 136) rfl), tb_i1 (List.mem_of_getElem? (i := 14) rfl)⟩
set_option maxRecDepth 20000 in
theorem mw_221 : mw_ok 221 := ⟨rfl, rfl, by decide +kernel, tb_i9 (List.mem_of_getElem? (i := 162) rfl), tb_i9 (List.mem_of_getElem? (i := 161) rfl), tb_is (List.mem_of_getElem? (i := 137) rfl), tb_i1 (List.mem_of_getElem? (i := 14) rfl)⟩
set_option maxRecDepth 20000 in
theorem mw_222 : mw_ok 222 := ⟨rfl, rfl, by decide +kernel, tb_i9 (List.mem_of_getElem? (i := 166) rfl), tb_i9 (List.mem_of_getElem? (i := 165) rfl), tb_is (List.mem_of_getElem? (i := 138) rfl), tb_i1 (List.mem_of_getElem? (i := 14) rfl)⟩
set_option maxRecDepth 20000 in
theorem mw_223 : mw_ok 223 := ⟨rfl, rfl, by decide +kernel, tb_i8 (List.mem_of_getElem? (i := 109) rfl), tb_i8 (List.mem_of_getElem? (i := 108) rfl), tb_is (List.mem_of_getElem? (i := 81) rfl), tb_i1 (List.mem_of_getElem? (i := 14) rfl)⟩
set_option maxRecDepth 20000 in
theorem mw_224 : mw_ok 224 := ⟨rfl, rfl, by decide +kernel, tb_i8 (List.mem_of_getElem? (i := 113) rfl), tb_i8 (List.mem_of_getElem? (i := 112) rfl), tb_is (List.mem_of_getElem? (i := 82) rfl), tb_i1 (List.mem_of_getElem? (i := 14) rfl)⟩
set_option maxRecDepth 20000 in
theorem mw_225 : mw_ok 225 := ⟨rfl, rfl, by decide +kernel, tb_i8 (List.mem_of_getElem? (i := 116) rfl), tb_i8 (List.mem_of_getElem? (i := 115) rfl), trivial, tb_i1 (List.mem_of_getElem? (i := 14) rfl)⟩
set_option maxRecDepth 20000 in
theorem mw_226 : mw_ok 226 := ⟨rfl, rfl, by decide +kernel, tb_i8 (List.mem_of_getElem? (i := 123) rfl), tb_i8 (List.mem_of_getElem? (i := 122) rfl), trivial, tb_i1 (List.mem_of_getElem? (i := 14) rfl)⟩
set_option maxRecDepth 20000 in
theorem mw_227 : mw_ok 227 := ⟨rfl, rfl, by decide +kernel, tb_i8 (List.mem_of_getElem? (i := 129) rfl), tb_i8 (List.mem_of_getElem? (i := 128) rfl), tb_is (List.mem_of_getElem? (i := 83) rfl), tb_i1 (List.mem_of_getElem? (i := 14) rfl)⟩
set_option maxRecDepth 20000 in
theorem mw_228 : mw_ok 228 := ⟨rfl, rfl, by decide +kernel, tb_i8 (List.mem_of_getElem? (i := 133) rfl), tb_i8 (List.mem_of_getElem? (i := 132) rfl), tb_is (List.mem_of_getElem? (i := 84) rfl), tb_i1 (List.mem_of_getElem? (i := 14) rfl)⟩
set_option maxRecDepth 20000 in
theorem mw_229 : mw_ok 229 := ⟨rfl, rfl, by decide +kernel, tb_i8 (List.mem_of_getElem? (i := 149) rfl), tb_i8 (List.mem_of_getElem? (i := 148) rfl), tb_is (List.mem_of_getElem? (i := 85) rfl), tb_i1 (List.mem_of_getElem? (i := 14) rfl)⟩
set_option maxRecDepth 20000 in
theorem mw_230 : mw_ok 230 := ⟨rfl, rfl, by decide +kernel, tb_i8 (List.mem_of_getElem? (i := 157) rfl), tb_i8 (List.mem_of_getElem? (i := 156) rfl), tb_is (List.mem_of_getElem? (i := 86) rfl), tb_i1 (List.mem_of_getElem? (i := 14) rfl)⟩
set_option maxRecDepth 20000 in
theorem mw_231 : mw_ok 231 := ⟨rfl, rfl, by decide +kernel, tb_i8 (List.mem_of_getElem? (i := 165) rfl), tb_i8 (List.mem_of_getElem? (i := 164) rfl), tb_is (List.mem_of_getElem? (i := 88) rfl), tb_i1 (List.mem_of_getElem? (i := 14) rfl)⟩
set_option maxRecDepth 20000 in
theorem mw_232 : mw_ok 232 := ⟨rfl, rfl, by decide +kernel, tb_i8 (List.mem_of_getElem? (i := 169) rfl), tb_i8 (List.mem_of_getElem? (i := 168) rfl), tb_is (List.mem_of_getElem? (i := 89) rfl), tb_i1 (List.mem_of_getElem? (i := 14) rfl)⟩
set_option maxRecDepth 20000 in
theorem mw_233 : mw_ok 233 := ⟨rfl, rfl, by decide +kernel, tb_i8 (List.mem_of_getElem? (i := 173) rfl), tb_i8 (List.mem_of_getElem? (i := 172) rfl), tb_is (List.mem_of_getElem? (i := 90) rfl), tb_i1 (List.mem_of_getElem? (i := 14) rfl)⟩
set_option maxRecDepth 20000 in
theorem mw_234 : mw_ok 234 := ⟨rfl, rfl, by decide +kernel, tb_i9 (List.mem_of_getElem? (i := 13) rfl), tb_i9 (List.mem_of_getElem? (i := 12) rfl), tb_is (List.mem_of_getElem? (i := 109) rfl), tb_i1 (List.mem_of_getElem? (i := 14) rfl)⟩
set_option maxRecDepth 20000 in
theorem mw_235 : mw_ok 235 := ⟨rfl, rfl, by decide +kernel, tb_i9 (List.mem_of_getElem? (i := 27) rfl), tb_i9 (List.mem_of_getElem? (i := 26) rfl), tb_is (List.mem_of_getElem? (i := 112) rfl), tb_i1 (List.mem_of_getElem? (i := 14) rfl)⟩
set_option maxRecDepth 20000 in
theorem mw_236 : mw_ok 236 := ⟨rfl, rfl, by decide +kernel, tb_i9 (List.mem_of_getElem? (i := 34) rfl), tb_i9 (List.mem_of_getElem? (i := 33) rfl), tb_is (List.mem_of_getElem? (i := 113) rfl), tb_i1 (List.mem_of_getElem? (i := 14) rfl)⟩
set_option maxRecDepth 20000 in
theorem mw_237 : mw_ok 237 := ⟨rfl, rfl, by decide +kernel, tb_i9 (List.mem_of_getElem? (i := 40) rfl), tb_i9 (List.mem_of_getElem? (i := 39) rfl), tb_is (List.mem_of_getElem? (i := 114) rfl), tb_i1 (List.mem_of_getElem? (i := 14) rfl)⟩
set_option maxRecDepth 20000 in
theorem mw_238 : mw_ok 238 := ⟨rfl, rfl, by decide +kernel, tb_i9 (List.mem_of_getElem? (i := 48) rfl), tb_i9 (List.mem_of_getElem? (i := 47) rfl), tb_is (List.mem_of_getElem? (i := 116) rfl), tb_i1 (List.mem_of_getElem? (i := 14) rfl)⟩
set_option maxRecDepth 20000 in
theorem mw_239 : mw_ok 239 := ⟨rfl, rfl, by decide +kernel, tb_i9 (List.mem_of_getElem? (i := 52) rfl), tb_i9 (List.mem_of_getElem? (i := 51) rfl), tb_is (List.mem_of_getElem? (i := 117) rfl), tb_i1 (List.mem_of_getElem? (i := 14) rfl)⟩
set_option maxRecDepth 20000 in
theorem mw_240 : mw_ok 240 := ⟨rfl, rfl, by decide +kernel, tb_i9 (List.mem_of_getElem? (i := 56) rfl), tb_i9 (List.mem_of_getElem? (i := 55) rfl), tb_is (List.mem_of_getElem? (i := 118) rfl), tb_i1 (List.mem_of_getElem? (i := 14) rfl)⟩
set_option maxRecDepth 20000 in
theorem mw_241 : mw_ok 241 := ⟨rfl, rfl, by decide +kernel, tb_i9 (List.mem_of_getElem? (i := 64) rfl), tb_i9 (List.mem_of_getElem? (i := 63) rfl), tb_is (List.mem_of_getElem? (i := 120) rfl), tb_i1 (List.mem_of_getElem? (i := 14) rfl)⟩
set_option maxRecDepth 20000 in
theorem mw_242 : mw_ok 242 := ⟨rfl, rfl, by decide +kernel, tb_i9 (List.mem_of_getElem? (i := 72) rfl), tb_i9 (List.mem_of_getElem? (i := 71) rfl), tb_is (List.mem_of_getElem? (i := 122) rfl), tb_i1 (List.mem_of_getElem? (i := 14) rfl)⟩
set_option maxRecDepth 20000 in
theorem mw_243 : mw_ok 243 := ⟨rfl, rfl, by decide +kernel, tb_i9 (List.mem_of_getElem? (i := 76) rfl), tb_i9 (List.mem_of_getElem? (i := 75) rfl), tb_is (List.mem_of_getElem? (i := 123) rfl), tb_i1 (List.mem_of_getElem? (i := 14) rfl)⟩
set_option maxRecDepth 20000 in
theorem mw_244 : mw_ok 244 := ⟨rfl, rfl, by decide +kernel, tb_i9 (List.mem_of_getElem? (i := 84) rfl), tb_i9 (List.mem_of_getElem? (i := 83) rfl), tb_is (List.mem_of_getElem? (i := 125) rfl), tb_i1 (List.mem_of_getElem? (i := 14) rfl)⟩
set_option maxRecDepth 20000 in
theorem mw_245 : mw_ok 245 := ⟨rfl, rfl, by decide +kernel, tb_i9 (List.mem_of_getElem? (i := 88) rfl), tb_i9 (List.mem_of_getElem? (i := 87) rfl), tb_is (List.mem_of_getElem? (i := 126) rfl), tb_i1 (List.mem_of_getElem? (i := 14) rfl)⟩
set_option maxRecDepth 20000 in
theorem mw_246 : mw_ok 246 := ⟨rfl, rfl, by decide +kernel, tb_i9 (List.mem_of_getElem? (i := 96) rfl), tb_i9 (List.mem_of_getElem? (i := 95) rfl), tb_is (List.mem_of_getElem? (i := 128) rfl), tb_i1 (List.mem_of_getElem? (i := 14) rfl)⟩
set_option maxRecDepth 20000 in
theorem mw_247 : mw_ok 247 := ⟨rfl, rfl, by decide +kernel, tb_i9 (List.mem_of_getElem? (i := 100) rfl), tb_i9 (List.mem_of_getElem? (i := 99) rfl), tb_is (List.mem_of_getElem? (i := 129) rfl), tb_i1 (List.mem_of_getElem? (i := 14) rfl)⟩
set_option maxRecDepth 20000 in
theorem mw_248 : mw_ok 248 := ⟨rfl, rfl, by decide +kernel, tb_i9 (List.mem_of_getElem? (i := 112) rfl), tb_i9 (List.mem_of_getElem? (i := 111) rfl), tb_is (List.mem_of_getElem? (i := 132) rfl), tb_i1 (List.mem_of_getElem? (i := 14) rfl)⟩
set_option maxRecDepth 20000 in
theorem mw_249 : mw_ok 249 := ⟨rfl, rfl, by decide +kernel, tb_i9 (List.mem_of_getElem? (i := 21) rfl), tb_i9 (List.mem_of_getElem? (i := 20) rfl), tb_is (List.mem_of_getElem? (i := 111) rfl), tb_i1 (List.mem_of_getElem? (i := 14) rfl)⟩
set_option maxRecDepth 20000 in
theorem mw_250 : mw_ok 250 := ⟨rfl, rfl, by decide +kernel, tb_i9 (List.mem_of_getElem? (i := 158) rfl), tb_i9 (List.mem_of_getElem? (i := 157) rfl), trivial, tb_i1 (List.mem_of_getElem? (i := 14) rfl)⟩
set_option maxRecDepth 20000 in
theorem mw_251 : mw_ok 251 := ⟨rfl, rfl, by decide +kernel, tb_i8 (List.mem_of_getElem? (i := 152) rfl), tb_i8 (List.mem_of_getElem? (i := 151) rfl), trivial, tb_i1 (List.mem_of_getElem? (i := 14) rfl)⟩
set_option maxRecDepth 20000 in
theorem mw_252 : mw_ok 252 := ⟨rfl, rfl, by decide +kernel, tb_i8 (List.mem_of_getElem? (i := 177) rfl), tb_i8 (List.mem_of_getElem? (i := 176) rfl), tb_is (List.mem_of_getElem? (i := 91) rfl), tb_i1 (List.mem_of_getElem? (i := 14) rfl)⟩
set_option maxRecDepth 20000 in
theorem mw_253 : mw_ok 253 := ⟨rfl, rfl, by decide +kernel, tb_i8 (List.mem_of_getElem? (i := 181) rfl), tb_i8 (List.mem_of_getElem? (i := 180) rfl), tb_is (List.mem_of_getElem? (i := 92) rfl), tb_i1 (List.mem_of_getElem? (i := 14) rfl)⟩
set_option maxRecDepth 20000 in
theorem mw_254 : mw_ok 254 := ⟨rfl, rfl, by decide +kernel, tb_i8 (List.mem_of_getElem? (i := 236) rfl), tb_i8 (List.mem_of_getElem? (i := 235) rfl), tb_is (List.mem_of_getElem? (i := 105) rfl), tb_i1 (List.mem_of_getElem? (i := 14) rfl)⟩
set_option maxRecDepth 20000 in
theorem mw_255 : mw_ok 255 := ⟨rfl, rfl, by decide +kernel, tb_i9 (List.mem_of_getElem? (i := 104) rfl), tb_i9 (List.mem_of_getElem? (i := 103) rfl), tb_is (List.mem_of_getElem? (i := 130) rfl), tb_i1 (List.mem_of_getElem? (i := 14) rfl)⟩
set_option maxRecDepth 20000 in
theorem mw_256 : mw_ok 256 := ⟨rfl, rfl, by decide +kernel, tb_i9 (List.mem_of_getElem? (i := 108) rfl), tb_i9 (List.mem_of_getElem? (i := 107) rfl), tb_is (List.mem_of_getElem? (i := 131) rfl), tb_i1 (List.mem_of_getElem? (i := 14) rfl)⟩
set_option maxRecDepth 20000 in
theorem mw_257 : mw_ok 257 := ⟨rfl, rfl, by decide +kernel, tb_i8 (List.mem_of_getElem? (i := 185) rfl), tb_i8 (List.mem_of_getElem? (i := 184) rfl), tb_is (List.mem_of_getElem? (i := 93) rfl), tb_i1 (List.mem_of_getElem? (i := 14) rfl)⟩
set_option maxRecDepth 20000 in
theorem mw_258 : mw_ok 258 := ⟨rfl, rfl, by decide +kernel, tb_i9 (List.mem_of_getElem? (i := 0) rfl), tb_i8 (List.mem_of_getElem? (i := 239) rfl), tb_is (List.mem_of_getElem? (i := 106) rfl), tb_i1 (List.mem_of_getElem? (i := 14) rfl)⟩
set_option maxRecDepth 20000 in
theorem mw_259 : mw_ok 259 := ⟨rfl, rfl, by decide +kernel, tb_i9 (List.mem_of_getElem? (i := 4) rfl), tb_i9 (List.mem_of_getElem? (i := 3) rfl), tb_is (List.mem_of_getElem? (i := 107) rfl), tb_i1 (List.mem_of_getElem? (i := 14) rfl)⟩
set_option maxRecDepth 20000 in
theorem mw_260 : mw_ok 260 := ⟨rfl, rfl, by decide +kernel, tb_i8 (List.mem_of_getElem? (i := 189) rfl), tb_i8 (List.mem_of_getElem? (i := 188) rfl), tb_is (List.mem_of_getElem? (i := 94) rfl), tb_i1 (List.mem_of_getElem? (i := 14) rfl)⟩
set_option maxRecDepth 20000 in
theorem mw_261 : mw_ok 261 := ⟨rfl, rfl, by decide +kernel, tb_i8 (List.mem_of_getElem? (i := 205) rfl), tb_i8 (List.mem_of_getElem? (i := 204) rfl), tb_is (List.mem_of_getElem? (i := 98) rfl), tb_i1 (List.mem_of_getElem? (i := 14) rfl)⟩
set_option maxRecDepth 20000 in
theorem mw_262 : mw_ok 262 := ⟨rfl, rfl, by decide +kernel, tb_i8 (List.mem_of_getElem? (i := 193) rfl), tb_i8 (List.mem_of_getElem? (i := 192) rfl), tb_is (List.mem_of_getElem? (i := 95) rfl), tb_i1 (List.mem_of_getElem? (i := 14) rfl)⟩
set_option maxRecDepth 20000 in
theorem mw_263 : mw_ok 263 := ⟨rfl, rfl, by decide +kernel, tb_i8 (List.mem_of_getElem? (i := 197) rfl), tb_i8 (List.mem_of_getElem? (i := 196) rfl), tb_is (List.mem_of_getElem? (i := 96) rfl), tb_i1 (List.mem_of_getElem? (i := 14) rfl)⟩
set_option maxRecDepth 20000 in
theorem mw_264 : mw_ok 264 := ⟨rfl, rfl, by decide +kernel, tb_i8 (List.mem_of_getElem? (i := 201) rfl), tb_i8 (List.mem_of_getElem? (i := 200) rfl), tb_is (List.mem_of_getElem? (i := 97) rfl), tb_i1 (List.mem_of_getElem? (i := 14) rfl)⟩
set_option maxRecDepth 20000 in
theorem mw_265 : mw_ok 265 := ⟨rfl, rfl, by decide +kernel, tb_i8 (List.mem_of_getElem? (i := 209) rfl), tb_i8 (List.mem_of_getElem? (i := 208) rfl), tb_is (List.mem_of_getElem? (i := 99) rfl), tb_i1 (List.mem_of_getElem? (i := 14) rfl)⟩
set_option maxRecDepth 20000 in
theorem mw_266 : mw_ok 266 := ⟨rfl, rfl, by decide +kernel, tb_i8 (List.mem_of_getElem? (i := 216) rfl), tb_i8 (List.mem_of_getElem? (i := 215) rfl), tb_is (List.mem_of_getElem? (i := 100) rfl), tb_i1 (List.mem_of_getElem? (i := 14) rfl)⟩
set_option maxRecDepth 20000 in
theorem mw_267 : mw_ok 267 := ⟨rfl, rfl, by decide +kernel, tb_i8 (List.mem_of_getElem? (i := 220) rfl), tb_i8 (List.mem_of_getElem? (i := 219) rfl), tb_is (List.mem_of_getElem? (i := 101) rfl), tb_i1 (List.mem_of_getElem? (i := 14) rfl)⟩
set_option maxRecDepth 20000 in
theorem mw_268 : mw_ok 268 := ⟨rfl, rfl, by decide +kernel, tb_i8 (List.mem_of_getElem? (i := 212) rfl), tb_i8 (List.mem_of_getElem? (i := 211) rfl), trivial, tb_i1 (List.mem_of_getElem? (i := 14) rfl)⟩
set_option maxRecDepth 20000 in
theorem mw_269 : mw_ok 269 := ⟨rfl, rfl, by decide +kernel, tb_i8 (List.mem_of_getElem? (i := 224) rfl), tb_i8 (List.mem_of_getElem? (i := 223) rfl), tb_is (List.mem_of_getElem? (i := 102) rfl), tb_i1 (List.mem_of_getElem? (i := 14) rfl)⟩
set_option maxRecDepth 20000 in
theorem mw_270 : mw_ok 270 := ⟨rfl, rfl, by decide +kernel, tb_i8 (List.mem_of_getElem? (i := 228) rfl), tb_i8 (List.mem_of_getElem? (i := 227) rfl), tb_is (List.mem_of_getElem? (i := 103) rfl), tb_i1 (List.mem_of_getElem? (i := 14) rfl)⟩
set_option maxRecDepth 20000 in
theorem mw_271 : mw_ok 271 := ⟨rfl, rfl, by decide +kernel, tb_i8 (List.mem_of_getElem? (i := 232) rfl), tb_i8 (List.mem_of_getElem? (i := 231) rfl), tb_is (List.mem_of_getElem? (i := 104) rfl), tb_i1 (List.mem_of_getElem? (i := 14) rfl)⟩
set_option maxRecDepth 20000 in
theorem mw_272 : mw_ok 272 := ⟨rfl, rfl, by decide +kernel, tb_i3 (List.mem_of_getElem? (i := 118) rfl), tb_i3 (List.mem_of_getElem? (i := 116) rfl), tb_i3 (List.mem_of_getElem? (i := 117) rfl), tb_i1 (List.mem_of_getElem? (i := 21) rfl)⟩
set_option maxRecDepth 20000 in
theorem mw_273 : mw_ok 273 := ⟨rfl, rfl, by decide +kernel, tb_i3 (List.mem_of_getElem? (i := 128) rfl), tb_i3 (List.mem_of_getElem? (i := 126) rfl), tb_i3 (List.mem_of_getElem? (i := 127) rfl), tb_i1 (List.mem_of_getElem? (i := 21) rfl)⟩
set_option maxRecDepth 20000 in
theorem mw_274 : mw_ok 274 := ⟨rfl, rfl, by decide +kernel, tb_i4 (List.mem_of_getElem? (i := 19) rfl), tb_i4 (List.mem_of_getElem? (i := 17) rfl), tb_i4 (List.mem_of_getElem? (i := 18) rfl), tb_i1 (List.mem_of_getElem? (i := 21) rfl)⟩
set_option maxRecDepth 20000 in
theorem mw_275 : mw_ok 275 := ⟨rfl, rfl, by decide +kernel, tb_i3 (List.mem_of_getElem? (i := 122) rfl), tb_i3 (List.mem_of_getElem? (i := 120) rfl), tb_i3 (List.mem_of_getElem? (i := 121) rfl), tb_i1 (List.mem_of_getElem? (i := 21) rfl)⟩
set_option maxRecDepth 20000 in
theorem mw_276 : mw_ok 276 := ⟨rfl, rfl, by decide +kernel, tb_i3 (List.mem_of_getElem? (i := 132) rfl), tb_i3 (List.mem_of_getElem? (i := 130) rfl), tb_i3 (List.mem_of_getElem? (i := 131) rfl), tb_i1 (List.mem_of_getElem? (i := 21) rfl)⟩
set_option maxRecDepth 20000 in
theorem mw_277 : mw_ok 277 := ⟨rfl, rfl, by decide +kernel, tb_i4 (List.mem_of_getElem? (i := 23) rfl), tb_i4 (List.mem_of_getElem? (i := 21) rfl), tb_i4 (List.mem_of_getElem? (i := 22) rfl), tb_i1 (List.mem_of_getElem? (i := 21) rfl)⟩
set_option maxRecDepth 20000 in
theorem mw_278 : mw_ok 278 := ⟨rfl, rfl, by decide +kernel, tb_i3 (List.mem_of_getElem? (i := 138) rfl), tb_i3 (List.mem_of_getElem? (i := 137) rfl), trivial, tb_i1 (List.mem_of_getElem? (i := 21) rfl)⟩
set_option maxRecDepth 20000 in
theorem mw_280 : mw_ok 280 := ⟨rfl, rfl, by decide +kernel, tb_i2 (List.mem_of_getElem? (i := 222) rfl), tb_i2 (List.mem_of_getElem? (i := 221) rfl), trivial, tb_i1 (List.mem_of_getElem? (i := 0) rfl)⟩
set_option maxRecDepth 20000 in
theorem mw_281 : mw_ok 281 := ⟨rfl, rfl, by decide +kernel, tb_i3 (List.mem_of_getElem? (i := 61) rfl), tb_i3 (List.mem_of_getElem? (i := 60) rfl), trivial, tb_i1 (List.mem_of_getElem? (i := 0) rfl)⟩
set_option maxRecDepth 20000 in
theorem mw_282 : mw_ok 282 := ⟨rfl, rfl, by decide +kernel, tb_i3 (List.mem_of_getElem? (i := 86) rfl), tb_i3 (List.mem_of_getElem? (i := 85) rfl), trivial, tb_i1 (List.mem_of_getElem? (i := 0) rfl)⟩
set_option maxRecDepth 20000 in
theorem mw_283 : mw_ok 283 := ⟨rfl, rfl, by decide +kernel, tb_i6 (List.mem_of_getElem? (i := 156) rfl), tb_i6 (List.mem_of_getElem? (i := 155) rfl), trivial, tb_i1 (List.mem_of_getElem? (i := 0) rfl)⟩
set_option maxRecDepth 20000 in
theorem mw_284 : mw_ok 284 := ⟨rfl, rfl, by decide +kernel, tb_i6 (List.mem_of_getElem? (i := 184) rfl), tb_i6 (List.mem_of_getElem? (i := 183) rfl), trivial, tb_i1 (List.mem_of_getElem? (i := 0) rfl)⟩
set_option maxRecDepth 20000 in
theorem mw_285 : mw_ok 285 := ⟨rfl, rfl, by decide +kernel, tb_i6 (List.mem_of_getElem? (i := 204) rfl), tb_i6 (List.mem_of_getElem? (i := 203) rfl), trivial, tb_i1 (List.mem_of_getElem? (i := 0) rfl)⟩
set_option maxRecDepth 20000 in
theorem mw_286 : mw_ok 286 := ⟨rfl, rfl, by decide +kernel, tb_i6 (List.mem_of_getElem? (i := 217) rfl), tb_i6 (List.mem_of_getElem? (i := 216) rfl), trivial, tb_i1 (List.mem_of_getElem? (i := 0) rfl)⟩
set_option maxRecDepth 20000 in
theorem mw_287 : mw_ok 287 := ⟨rfl, rfl, by decide +kernel, tb_i6 (List.mem_of_getElem? (i := 231) rfl), tb_i6 (List.mem_of_getElem? (i := 230) rfl), trivial, tb_i1 (List.mem_of_getElem? (i := 0) rfl)⟩
set_option maxRecDepth 20000 in
theorem mw_288 : mw_ok 288 := ⟨rfl, rfl, by decide +kernel, tb_i7 (List.mem_of_getElem? (i := 8) rfl), tb_i7 (List.mem_of_getElem? (i := 7) rfl), trivial, tb_i1 (List.mem_of_getElem? (i := 0) rfl)⟩
set_option maxRecDepth 20000 in
theorem mw_289 : mw_ok 289 := ⟨rfl, rfl, by decide +kernel, tb_i7 (List.mem_of_getElem? (i := 56) rfl), tb_i7 (List.mem_of_getElem? (i := 55) rfl), trivial, tb_i1 (List.mem_of_getElem? (i := 0) rfl)⟩
set_option maxRecDepth 20000 in
theorem mw_290 : mw_ok 290 := ⟨rfl, rfl, by decide +kernel, tb_i7 (List.mem_of_getElem? (i := 73) rfl), tb_i7 (List.mem_of_getElem? (i := 72) rfl), trivial, tb_i1 (List.mem_of_getElem? (i := 0) rfl)⟩
set_option maxRecDepth 20000 in
theorem mw_291 : mw_ok 291 := ⟨rfl, rfl, by decide +kernel, tb_i3 (List.mem_of_getElem? (i := 105) rfl), tb_i3 (List.mem_of_getElem? (i := 104) rfl), trivial, tb_i1 (List.mem_of_getElem? (i := 20) rfl)⟩
set_option maxRecDepth 20000 in
theorem mw_292 : mw_ok 292 := ⟨rfl, rfl, by decide +kernel, tb_i3 (List.mem_of_getElem? (i := 216) rfl), tb_i3 (List.mem_of_getElem? (i := 215) rfl), trivial, tb_i1 (List.mem_of_getElem? (i := 20) rfl)⟩
set_option maxRecDepth 20000 in
theorem mw_293 : mw_ok 293 := ⟨rfl, rfl, by decide +kernel, tb_i4 (List.mem_of_getElem? (i := 82) rfl), tb_i4 (List.mem_of_getElem? (i := 81) rfl), trivial, tb_i1 (List.mem_of_getElem? (i := 20) rfl)⟩
set_option maxRecDepth 20000 in
theorem mw_294 : mw_ok 294 := ⟨rfl, rfl, by decide +kernel, tb_i5 (List.mem_of_getElem? (i := 132) rfl), tb_i5 (List.mem_of_getElem? (i := 131) rfl), trivial, tb_i1 (List.mem_of_getElem? (i := 27) rfl)⟩
set_option maxRecDepth 20000 in
theorem mw_295 : mw_ok 295 := ⟨rfl, rfl, by decide +kernel, tb_i6 (List.mem_of_getElem? (i := 106) rfl), tb_i6 (List.mem_of_getElem? (i := 105) rfl), trivial, tb_i1 (List.mem_of_getElem? (i := 27) rfl)⟩
set_option maxRecDepth 20000 in
theorem mw_296 : mw_ok 296 := ⟨rfl, rfl, by decide +kernel, tb_i3 (List.mem_of_getElem? (i := 135) rfl), tb_i3 (List.mem_of_getElem? (i := 134) rfl), trivial, tb_i1 (List.mem_of_getElem? (i := 22) rfl)⟩
set_option maxRecDepth 20000 in
theorem mw_297 : mw_ok 297 := ⟨rfl, rfl, by decide +kernel, tb_i4 (List.mem_of_getElem? (i := 27) rfl), tb_i4 (List.mem_of_getElem? (i := 26) rfl), trivial, tb_i1 (List.mem_of_getElem? (i := 22) rfl)⟩
set_option maxRecDepth 20000 in
theorem mw_298 : mw_ok 298 := ⟨rfl, rfl, by decide +kernel, tb_i4 (List.mem_of_getElem? (i := 30) rfl), tb_i4 (List.mem_of_getElem? (i := 29) rfl), trivial, tb_i1 (List.mem_of_getElem? (i := 22) rfl)⟩
set_option maxRecDepth 20000 in
theorem mw_299 : mw_ok 299 := ⟨rfl, rfl, by decide +kernel, tb_i4 (List.mem_of_getElem? (i := 35) rfl), tb_i4 (List.mem_of_getElem? (i := 34) rfl), trivial, tb_i1 (List.mem_of_getElem? (i := 22) rfl)⟩
set_option maxRecDepth 20000 in
theorem mw_300 : mw_ok 300 := ⟨rfl, rfl, by decide +kernel, tb_i3 (List.mem_of_getElem? (i := 143) rfl), tb_i3 (List.mem_of_getElem? (i := 142) rfl), trivial, tb_i1 (List.mem_of_getElem? (i := 23) rfl)⟩
set_option maxRecDepth 20000 in
theorem mw_301 : mw_ok 301 := ⟨rfl, rfl, by decide +kernel, tb_i1 (List.mem_of_getElem? (i := 45) rfl), tb_i1 (List.mem_of_getElem? (i := 44) rfl), trivial, tb_i1 (List.mem_of_getElem? (i := 3) rfl)⟩
