/-! put, by how many -/
theorem fv_c1_0 : fv_cs (fv_ivr 1 2 0 4294967296 0 2147483649) = true := by decide +kernel
theorem fv_c1_1 : fv_cs (fv_ivr 1 2 0 4294967296 2147483649 2147483723) = true := by decide +kernel
theorem fv_c1_2 : fv_cs (fv_ivr 1 2 0 4294967296 2147483723 2147483754) = true := by decide +kernel
theorem fv_c1_3 : fv_cs (fv_ivr 1 2 0 4294967296 2147483754 2147483777) = true := by decide +kernel
theorem fv_c1_4 : fv_cs (fv_ivr 1 2 0 4294967296 2147483777 2147483798) = true := by decide +kernel
theorem fv_c1_5 : fv_cs (fv_ivr 1 2 0 4294967296 2147483798 2147483815) = true := by decide +kernel
theorem fv_c1_6 : fv_cs (fv_ivr 1 2 0 4294967296 2147483815 2147483831) = true := by decide +kernel
theorem fv_c1_7 : fv_cs (fv_ivr 1 2 0 4294967296 2147483831 2147483846) = true := by decide +kernel
theorem fv_c1_8 : fv_cs (fv_ivr 1 2 0 4294967296 2147483846 2147483860) = true := by decide +kernel
