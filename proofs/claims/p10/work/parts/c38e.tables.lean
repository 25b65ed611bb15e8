/-! EVERY METHOD's TABLE IS RIGHT: from 216 on. -/
theorem tb_ok_216 : tb_moks 216 3 = true := by decide +kernel
theorem tb_ok_219 : tb_moks 219 3 = true := by decide +kernel
theorem tb_ok_222 : tb_moks 222 3 = true := by decide +kernel
theorem tb_ok_225 : tb_moks 225 3 = true := by decide +kernel
theorem tb_ok_228 : tb_moks 228 2 = true := by decide +kernel
