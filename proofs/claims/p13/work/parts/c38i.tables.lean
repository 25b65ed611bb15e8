/-! EVERY METHOD's TABLE IS RIGHT: from 270 on. -/
theorem tb_ok_270 : tb_moks 270 3 = true := by decide +kernel
theorem tb_ok_273 : tb_moks 273 3 = true := by decide +kernel
theorem tb_ok_276 : tb_moks 276 3 = true := by decide +kernel
