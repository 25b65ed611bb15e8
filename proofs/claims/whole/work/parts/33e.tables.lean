/-! EVERY METHOD's TABLE IS RIGHT: from 216 on. -/
theorem tb_ok_216 : tb_moks 216 6 = true := by decide +kernel
theorem tb_ok_222 : tb_moks 222 6 = true := by decide +kernel
theorem tb_ok_228 : tb_moks 228 6 = true := by decide +kernel
theorem tb_ok_234 : tb_moks 234 6 = true := by decide +kernel
theorem tb_ok_240 : tb_moks 240 6 = true := by decide +kernel
theorem tb_ok_246 : tb_moks 246 6 = true := by decide +kernel
theorem tb_ok_252 : tb_moks 252 6 = true := by decide +kernel
theorem tb_ok_258 : tb_moks 258 6 = true := by decide +kernel
theorem tb_ok_264 : tb_moks 264 6 = true := by decide +kernel
