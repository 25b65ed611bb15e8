/-! EVERY METHOD's TABLE IS RIGHT: from 230 on. -/
theorem tb_ok_230 : tb_moks 230 1 = true := by decide +kernel
