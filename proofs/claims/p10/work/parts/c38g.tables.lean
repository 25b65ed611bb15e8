/-! EVERY METHOD's TABLE IS RIGHT: from 231 on. -/
theorem tb_ok_231 : tb_moks 231 3 = true := by decide +kernel
theorem tb_ok_234 : tb_moks 234 3 = true := by decide +kernel
theorem tb_ok_237 : tb_moks 237 3 = true := by decide +kernel
theorem tb_ok_240 : tb_moks 240 3 = true := by decide +kernel
theorem tb_ok_243 : tb_moks 243 3 = true := by decide +kernel
theorem tb_ok_246 : tb_moks 246 3 = true := by decide +kernel
theorem tb_ok_249 : tb_moks 249 1 = true := by decide +kernel
