/-! EACH CALL on the new object: the rest; a script too short for a call -/
theorem fv_c24 : fv_cs (fv_ivq 24 25) = true := by decide +kernel
theorem fv_c25 : fv_cs (fv_ivq 25 26) = true := by decide +kernel
theorem fv_c26 : fv_cs (fv_ivq 26 27) = true := by decide +kernel
theorem fv_c27 : fv_cs (fv_ivq 27 28) = true := by decide +kernel
theorem fv_c28 : fv_cs (fv_ivq 28 29) = true := by decide +kernel
theorem fv_c29 : fv_cs (fv_ivq 29 30) = true := by decide +kernel
theorem fv_c30 : fv_cs (fv_ivq 30 31) = true := by decide +kernel
theorem fv_c31 : fv_cs (fv_ivq 31 32) = true := by decide +kernel
theorem fv_c32 : fv_cs (fv_ivq 32 33) = true := by decide +kernel
theorem fv_c33 : fv_cs (fv_ivq 33 34) = true := by decide +kernel
theorem fv_c34 : fv_cs (fv_ivq 34 35) = true := by decide +kernel
theorem fv_c35 : fv_cs (fv_ivq 35 36) = true := by decide +kernel
theorem fv_c36 : fv_cs (fv_ivq 36 37) = true := by decide +kernel
theorem fv_c37 : fv_cs (fv_ivq 37 38) = true := by decide +kernel
theorem fv_c38 : fv_cs (fv_ivq 38 39) = true := by decide +kernel
theorem fv_c39 : fv_cs (fv_ivq 39 64) = true := by decide +kernel
/-- the script has n ints -/
noncomputable def fv_ivl (n : Nat) : fv_Iv := [(0, 4294967296), (0, 4294967296), (0, 4294967296), (0, 4294967296), (0, 4294967296), (0, 4294967296), (0, 4294967296), (0, 4294967296), (0, 4294967296), (0, 4294967296), (0, 4294967296), (0, 4294967296), (0, 4294967296), (0, 4294967296), (0, 4294967296), (Nat.add 2147483648 n, Nat.add 2147483649 n)]
theorem fv_cshort : ∀ n, n < 13 → fv_cs (fv_ivl n) = true := by decide +kernel
