/-! THE CODE stands for the bytes, by program: 1 -/
theorem am_ckL_0 : am_cds_0.all am_ckL = true := by decide +kernel
theorem am_ckL_1 : am_cds_1.all am_ckL = true := by decide +kernel
theorem am_ckL_2 : am_cds_2.all am_ckL = true := by decide +kernel
