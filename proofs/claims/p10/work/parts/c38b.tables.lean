/-! EVERY METHOD's TABLE IS RIGHT: from 54 on. -/
theorem tb_ok_54 : tb_moks 54 6 = true := by decide +kernel
theorem tb_ok_60 : tb_moks 60 6 = true := by decide +kernel
theorem tb_ok_66 : tb_moks 66 6 = true := by decide +kernel
theorem tb_ok_72 : tb_moks 72 6 = true := by decide +kernel
theorem tb_ok_78 : tb_moks 78 6 = true := by decide +kernel
theorem tb_ok_84 : tb_moks 84 6 = true := by decide +kernel
theorem tb_ok_90 : tb_moks 90 6 = true := by decide +kernel
theorem tb_ok_96 : tb_moks 96 6 = true := by decide +kernel
theorem tb_ok_102 : tb_moks 102 6 = true := by decide +kernel
