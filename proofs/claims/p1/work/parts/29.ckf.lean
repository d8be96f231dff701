/-! THE LAW stands for its bytes, by program: 2 -/
theorem am_lbL_5 : am_lb 21 9 false (am_okc 21) code am_pL 200 am_kL_5 = true := by decide +kernel
theorem am_lbL_6 : am_lb 21 9 false (am_okc 21) code am_pL 240 am_kL_6 = true := by decide +kernel
theorem am_lbL_7 : am_lb 21 9 false (am_okc 21) code am_pL 280 am_kL_7 = true := by decide +kernel
theorem am_lbL_8 : am_lb 21 9 false (am_okc 21) code am_pL 320 am_kL_8 = true := by decide +kernel
