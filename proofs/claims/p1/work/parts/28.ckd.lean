/-! THE CODE stands for the bytes, by program: 4 -/
theorem am_ckL_9 : am_cds_9.all am_ckL = true := by decide +kernel
theorem am_ckL_10 : am_cds_10.all am_ckL = true := by decide +kernel
theorem am_ckLs : ∀ z : am_Cd, z ∈ am_cds → am_ckL z = true := List.all_eq_true.mp (by simp only [am_cds, List.all_append, am_ckL_0, am_ckL_1, am_ckL_2, am_ckL_3, am_ckL_4, am_ckL_5, am_ckL_6, am_ckL_7, am_ckL_8, am_ckL_9, am_ckL_10, Bool.and_self])
