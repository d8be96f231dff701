/-! THE CODE stands for the bytes, by program: 2 -/
theorem am_ckL_3 : am_cds_3.all am_ckL = true := by decide +kernel
theorem am_ckL_4 : am_cds_4.all am_ckL = true := by decide +kernel
