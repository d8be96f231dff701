/-! put, by how many: the rest -/
theorem fv_c1_9 : fv_cs (fv_ivr 1 2 0 4294967296 2147483860 2147483873) = true := by decide +kernel
theorem fv_c1_10 : fv_cs (fv_ivr 1 2 0 4294967296 2147483873 2147483885) = true := by decide +kernel
theorem fv_c1_11 : fv_cs (fv_ivr 1 2 0 4294967296 2147483885 2147483896) = true := by decide +kernel
theorem fv_c1_12 : fv_cs (fv_ivr 1 2 0 4294967296 2147483896 2147483907) = true := by decide +kernel
theorem fv_c1_13 : fv_cs (fv_ivr 1 2 0 4294967296 2147483907 2147483918) = true := by decide +kernel
theorem fv_c1_14 : fv_cs (fv_ivr 1 2 0 4294967296 2147483918 2147483928) = true := by decide +kernel
theorem fv_c1_15 : fv_cs (fv_ivr 1 2 0 4294967296 2147483928 2147483938) = true := by decide +kernel
theorem fv_c1_16 : fv_cs (fv_ivr 1 2 0 4294967296 2147483938 2147483949) = true := by decide +kernel
theorem fv_c1_17 : fv_cs (fv_ivr 1 2 0 4294967296 2147483949 4294967296) = true := by decide +kernel
