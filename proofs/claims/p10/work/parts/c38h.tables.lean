/-! EVERY METHOD's TABLE IS RIGHT: from 250 on. -/
theorem tb_ok_250 : tb_moks 250 4 = true := by decide +kernel
theorem tb_ok_254 : tb_moks 254 4 = true := by decide +kernel
theorem tb_ok_258 : tb_moks 258 4 = true := by decide +kernel
theorem tb_ok_262 : tb_moks 262 4 = true := by decide +kernel
theorem tb_ok_266 : tb_moks 266 4 = true := by decide +kernel
