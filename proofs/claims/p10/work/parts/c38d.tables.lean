/-! EVERY METHOD's TABLE IS RIGHT: from 162 on. -/
theorem tb_ok_162 : tb_moks 162 6 = true := by decide +kernel
theorem tb_ok_168 : tb_moks 168 6 = true := by decide +kernel
theorem tb_ok_174 : tb_moks 174 6 = true := by decide +kernel
theorem tb_ok_180 : tb_moks 180 6 = true := by decide +kernel
theorem tb_ok_186 : tb_moks 186 6 = true := by decide +kernel
theorem tb_ok_192 : tb_moks 192 6 = true := by decide +kernel
theorem tb_ok_198 : tb_moks 198 6 = true := by decide +kernel
theorem tb_ok_204 : tb_moks 204 6 = true := by decide +kernel
theorem tb_ok_210 : tb_moks 210 6 = true := by decide +kernel
