/-! EVERY METHOD's TABLE IS RIGHT: from 108 on. -/
theorem tb_ok_108 : tb_moks 108 6 = true := by decide +kernel
theorem tb_ok_114 : tb_moks 114 6 = true := by decide +kernel
theorem tb_ok_120 : tb_moks 120 6 = true := by decide +kernel
theorem tb_ok_126 : tb_moks 126 6 = true := by decide +kernel
theorem tb_ok_132 : tb_moks 132 6 = true := by decide +kernel
theorem tb_ok_138 : tb_moks 138 6 = true := by decide +kernel
theorem tb_ok_144 : tb_moks 144 6 = true := by decide +kernel
theorem tb_ok_150 : tb_moks 150 6 = true := by decide +kernel
theorem tb_ok_156 : tb_moks 156 6 = true := by decide +kernel
