/-! EVERY METHOD's TABLE IS RIGHT: from 0 on. -/
theorem tb_ok_0 : tb_moks 0 6 = true := by decide +kernel
theorem tb_ok_6 : tb_moks 6 6 = true := by decide +kernel
theorem tb_ok_12 : tb_moks 12 6 = true := by decide +kernel
theorem tb_ok_18 : tb_moks 18 6 = true := by decide +kernel
theorem tb_ok_24 : tb_moks 24 6 = true := by decide +kernel
theorem tb_ok_30 : tb_moks 30 6 = true := by decide +kernel
theorem tb_ok_36 : tb_moks 36 6 = true := by decide +kernel
theorem tb_ok_42 : tb_moks 42 6 = true := by decide +kernel
theorem tb_ok_48 : tb_moks 48 6 = true := by decide +kernel
