/-! THROWS AND HANDLERS, by program -/
theorem am_ckT_0 : am_cds_0.all am_ckTz = true := by decide +kernel
theorem am_ckT_1 : am_cds_1.all am_ckTz = true := by decide +kernel
theorem am_ckT_2 : am_cds_2.all am_ckTz = true := by decide +kernel
theorem am_ckT_3 : am_cds_3.all am_ckTz = true := by decide +kernel
theorem am_ckT_4 : am_cds_4.all am_ckTz = true := by decide +kernel
theorem am_ckT_5 : am_cds_5.all am_ckTz = true := by decide +kernel
theorem am_ckT_6 : am_cds_6.all am_ckTz = true := by decide +kernel
theorem am_ckT_7 : am_cds_7.all am_ckTz = true := by decide +kernel
theorem am_ckT_8 : am_cds_8.all am_ckTz = true := by decide +kernel
theorem am_ckT_9 : am_cds_9.all am_ckTz = true := by decide +kernel
theorem am_ckT_10 : am_cds_10.all am_ckTz = true := by decide +kernel
theorem am_ckTs : ∀ z : am_Cd, z ∈ am_cds → am_ckTz z = true := List.all_eq_true.mp (by simp only [am_cds, List.all_append, am_ckT_0, am_ckT_1, am_ckT_2, am_ckT_3, am_ckT_4, am_ckT_5, am_ckT_6, am_ckT_7, am_ckT_8, am_ckT_9, am_ckT_10, Bool.and_self])
