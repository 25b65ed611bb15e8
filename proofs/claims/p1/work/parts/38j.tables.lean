/-! EVERY METHOD's TABLE IS RIGHT: from 279 on. -/
theorem tb_ok_279 : tb_moks 279 1 = true := by decide +kernel
