/-! CALLS of which more is to be reckoned -/
noncomputable def fv_bx : List (Nat × Nat) := [(0, 2147483648), (2147483648, 2147483649), (2147483649, 4294967296)]
theorem fv_c4 : (fv_bx.all fun a => fv_bx.all fun c => fv_cs (fv_ivr 4 5 a.1 a.2 c.1 c.2)) = true := by decide +kernel
theorem fv_c2 : fv_cs (fv_ivq 2 3) = true := by decide +kernel
