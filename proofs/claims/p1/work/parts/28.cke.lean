/-! THE LAW stands for its bytes, by program: 1 -/
theorem am_lbL_0 : am_lb 21 9 false (am_okc 21) code am_pL 0 am_kL_0 = true := by decide +kernel
theorem am_lbL_1 : am_lb 21 9 false (am_okc 21) code am_pL 40 am_kL_1 = true := by decide +kernel
theorem am_lbL_2 : am_lb 21 9 false (am_okc 21) code am_pL 80 am_kL_2 = true := by decide +kernel
theorem am_lbL_3 : am_lb 21 9 false (am_okc 21) code am_pL 120 am_kL_3 = true := by decide +kernel
theorem am_lbL_4 : am_lb 21 9 false (am_okc 21) code am_pL 160 am_kL_4 = true := by decide +kernel
