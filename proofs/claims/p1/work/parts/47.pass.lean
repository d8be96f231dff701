/-! pass, by how many ticks -/
theorem fv_c15_0 : fv_cs (fv_ivr 15 16 0 2147483649 0 4294967296) = true := by decide +kernel
theorem fv_c15_1 : fv_cs (fv_ivr 15 16 2147483649 2147483699 0 4294967296) = true := by decide +kernel
theorem fv_c15_2 : fv_cs (fv_ivr 15 16 2147483699 2147483721 0 4294967296) = true := by decide +kernel
theorem fv_c15_3 : fv_cs (fv_ivr 15 16 2147483721 2147483736 0 4294967296) = true := by decide +kernel
theorem fv_c15_4 : fv_cs (fv_ivr 15 16 2147483736 2147483749 0 4294967296) = true := by decide +kernel
theorem fv_c15_5 : fv_cs (fv_ivr 15 16 2147483749 4294967296 0 4294967296) = true := by decide +kernel
