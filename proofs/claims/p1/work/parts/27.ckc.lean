/-! THE CODE stands for the bytes, by program: 3 -/
theorem am_ckL_6 : am_cds_6.all am_ckL = true := by decide +kernel
theorem am_ckL_7 : am_cds_7.all am_ckL = true := by decide +kernel
theorem am_ckL_8 : am_cds_8.all am_ckL = true := by decide +kernel
