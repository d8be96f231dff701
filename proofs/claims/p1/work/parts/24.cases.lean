/-! EACH CALL on the new object: all its ways end with 1 -/
noncomputable def fv_fin : fv_R := fun vs n _ _ => fv_if (fv_bL vs [8]) (Nat.ble (Nat.div n 2048) 7302232) false
/-- the call is one of lo to hi - 1 -/
noncomputable def fv_ivq (lo hi : Nat) : fv_Iv := [(0, 4294967296), (0, 4294967296), (0, 4294967296), (0, 4294967296), (0, 4294967296), (0, 4294967296), (0, 4294967296), (0, 4294967296), (0, 4294967296), (0, 4294967296), (0, 4294967296), (0, 4294967296), (0, 4294967296), (Nat.add 2147483648 lo, Nat.add 2147483648 hi)]
noncomputable def fv_cs (iv : fv_Iv) : Bool := fv_evs (fv_cw am_ms am_ws 12) am_kL 1000 (fun _ _ _ _ _ => false) fv_fin 100000 3 fv_lv0 [] 299443227 fv_T0 iv
theorem fv_c3 : fv_cs (fv_ivq 3 4) = true := by decide +kernel
theorem fv_c5 : fv_cs (fv_ivq 5 6) = true := by decide +kernel
theorem fv_c6 : fv_cs (fv_ivq 6 7) = true := by decide +kernel
theorem fv_c7 : fv_cs (fv_ivq 7 8) = true := by decide +kernel
theorem fv_c8 : fv_cs (fv_ivq 8 9) = true := by decide +kernel
theorem fv_c9 : fv_cs (fv_ivq 9 10) = true := by decide +kernel
theorem fv_c10 : fv_cs (fv_ivq 10 11) = true := by decide +kernel
theorem fv_c11 : fv_cs (fv_ivq 11 12) = true := by decide +kernel
theorem fv_c12 : fv_cs (fv_ivq 12 13) = true := by decide +kernel
theorem fv_c13 : fv_cs (fv_ivq 13 14) = true := by decide +kernel
theorem fv_c14 : fv_cs (fv_ivq 14 15) = true := by decide +kernel
theorem fv_c16 : fv_cs (fv_ivq 16 17) = true := by decide +kernel
theorem fv_c18 : fv_cs (fv_ivq 18 19) = true := by decide +kernel
theorem fv_c19 : fv_cs (fv_ivq 19 20) = true := by decide +kernel
theorem fv_c20 : fv_cs (fv_ivq 20 21) = true := by decide +kernel
theorem fv_c21 : fv_cs (fv_ivq 21 22) = true := by decide +kernel
theorem fv_c22 : fv_cs (fv_ivq 22 23) = true := by decide +kernel
theorem fv_c23 : fv_cs (fv_ivq 23 24) = true := by decide +kernel
theorem fv_c24 : fv_cs (fv_ivq 24 25) = true := by decide +kernel
theorem fv_c25 : fv_cs (fv_ivq 25 26) = true := by decide +kernel
theorem fv_c26 : fv_cs (fv_ivq 26 27) = true := by decide +kernel
theorem fv_c27 : fv_cs (fv_ivq 27 28) = true := by decide +kernel
theorem fv_c28 : fv_cs (fv_ivq 28 29) = true := by decide +kernel
theorem fv_c29 : fv_cs (fv_ivq 29 30) = true := by decide +kernel
theorem fv_c30 : fv_cs (fv_ivq 30 31) = true := by decide +kernel
theorem fv_c31 : fv_cs (fv_ivq 31 32) = true := by decide +kernel
theorem fv_c32 : fv_cs (fv_ivq 32 33) = true := by decide +kernel
theorem fv_c33 : fv_cs (fv_ivq 33 34) = true := by decide +kernel
theorem fv_c34 : fv_cs (fv_ivq 34 35) = true := by decide +kernel
theorem fv_c35 : fv_cs (fv_ivq 35 36) = true := by decide +kernel
theorem fv_c36 : fv_cs (fv_ivq 36 37) = true := by decide +kernel
theorem fv_c37 : fv_cs (fv_ivq 37 38) = true := by decide +kernel
theorem fv_c38 : fv_cs (fv_ivq 38 39) = true := by decide +kernel
theorem fv_c39 : fv_cs (fv_ivq 39 64) = true := by decide +kernel
