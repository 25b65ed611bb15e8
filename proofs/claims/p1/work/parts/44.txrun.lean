set_option maxRecDepth 100000 in
theorem tx_s0 : tx_law 0 [] = true := by decide +kernel
set_option maxRecDepth 100000 in
theorem tx_s1 : tx_law 1 [] = true := by decide +kernel
set_option maxRecDepth 100000 in
theorem tx_s2 : tx_law 2 [] = true := by decide +kernel
set_option maxRecDepth 100000 in
theorem tx_s3 : tx_law 3 [] = true := by decide +kernel
set_option maxRecDepth 100000 in
theorem tx_s4 : tx_law 4 [] = true := by decide +kernel
set_option maxRecDepth 100000 in
theorem tx_a0 : tx_all 0 = true := by decide +kernel
set_option maxRecDepth 100000 in
theorem tx_a1 : tx_all 1 = true := by decide +kernel
set_option maxRecDepth 100000 in
theorem tx_a2 : tx_all 2 = true := by decide +kernel
set_option maxRecDepth 100000 in
theorem tx_a3 : tx_all 3 = true := by decide +kernel
set_option maxRecDepth 100000 in
theorem tx_a4 : tx_all 4 = true := by decide +kernel
set_option maxRecDepth 100000 in
theorem tx_a5 : tx_all 5 = true := by decide +kernel
set_option maxRecDepth 100000 in
theorem tx_a6 : tx_all 6 = true := by decide +kernel
set_option maxRecDepth 100000 in
theorem tx_a7 : tx_all 7 = true := by decide +kernel
set_option maxRecDepth 100000 in
theorem tx_a8 : tx_all 8 = true := by decide +kernel
set_option maxRecDepth 100000 in
theorem tx_a9 : tx_all 9 = true := by decide +kernel
set_option maxRecDepth 100000 in
theorem tx_a10 : tx_all 10 = true := by decide +kernel
set_option maxRecDepth 100000 in
theorem tx_a11 : tx_all 11 = true := by decide +kernel
set_option maxRecDepth 100000 in
theorem tx_a12 : tx_all 12 = true := by decide +kernel
set_option maxRecDepth 100000 in
theorem tx_a13 : tx_all 13 = true := by decide +kernel
set_option maxRecDepth 100000 in
theorem tx_a14 : tx_all 14 = true := by decide +kernel
set_option maxRecDepth 100000 in
theorem tx_a15 : tx_all 15 = true := by decide +kernel
