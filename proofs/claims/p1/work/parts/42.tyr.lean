variable {sc : List Int32}
/-! THE LAW with type and play known: runs -/
noncomputable def fv_fin : fv_R := fun vs n _ _ => fv_if (fv_bL vs [8]) (Nat.ble (Nat.div n 2048) 7302232) false
/-- the call is one of lo to hi - 1 -/
noncomputable def fv_ivq (lo hi : Nat) : fv_Iv := [(0, 4294967296), (0, 4294967296), (0, 4294967296), (0, 4294967296), (0, 4294967296), (0, 4294967296), (0, 4294967296), (0, 4294967296), (0, 4294967296), (0, 4294967296), (0, 4294967296), (0, 4294967296), (0, 4294967296), (Nat.add 2147483648 lo, Nat.add 2147483648 hi), (0, 4294967296), (2147483661, 2147483662)]
/-- what is known of the first two numbers behind, too -/
noncomputable def fv_ivr (lo hi a b c d : Nat) : fv_Iv := [(0, 4294967296), (a, b), (c, d), (0, 4294967296), (0, 4294967296), (0, 4294967296), (0, 4294967296), (0, 4294967296), (0, 4294967296), (0, 4294967296), (0, 4294967296), (0, 4294967296), (0, 4294967296), (Nat.add 2147483648 lo, Nat.add 2147483648 hi), (0, 4294967296), (2147483661, 2147483662)]
noncomputable def fv_cs (iv : fv_Iv) : Bool := fv_evs (fv_cw am_ms am_ws 12) am_kL 1000 (fun _ _ _ _ _ => false) fv_fin 100000 3 fv_lv0 [] 299443227 fv_T0 iv
noncomputable def fv_U : List Nat := [801, 809, 817, 825, 833, 841, 849, 857, 865, 873, 881, 889, 897, 905, 913, 921, 929, 937, 945, 953, 961, 969, 977, 985, 993, 1001, 1009, 1017, 1025, 1033, 1041, 1049, 1057, 1065, 1073, 1081, 1089, 1097, 1105, 1113, 1121, 1129, 1137, 1145, 1153, 1161, 1169, 1177] ++ fv_rep 352 0
noncomputable def fv_oT (τ : Nat) : fv_Ob := (24, 96, [0, 0, 8, 7818, τ, 7826, 7898, 0, 0, 0, 5, 5, 0, 0, 0, 7906, 7914, 7922, 7930, 0, 7938, 7946, 7954, 0, 7962, 0, 0, 0, 4, 0, 0, 0, 0, 0, 0, 7970, 7978, 7986, 7994, 8002, 8010, 8018, 8026, 8034, 8042, 8050, 8058, 8066, 8074, 8082, 8090, 8098, 8106, 8114, 8122, 8130, 8138, 8146, 8154, 8162, 8170, 8178, 8186, 8194, 8202, 8210, 8218, 0, 8226, 8234, 8242, 8250, 8258, 8266, 8274, 0, 0, 0, 0, 8282, 0, 8290, 8298, 8306, 8314, 8322, 8330, 8338, 8346, 0, 8354, 8362, 8370, 8378, 8386, 8394])
noncomputable def fv_TTx : fv_T := fv_hs (fv_hs fv_T0 2 (100, 400, fv_U)) 1 (11, 2, [18, 169])
noncomputable def fv_TTo : fv_T := fv_hs fv_TTx 1050 (fv_oO 174)
noncomputable def fv_TTm : fv_T := fv_hs (fv_hs fv_TTo 977 (100, 400, fv_U)) 976 (fv_oT 169)
noncomputable def fv_cal17 : fv_Cl := fv_cwG (fv_o1 169 [2, 9, 17] [169] 299443227 299443227 fv_T0 (fv_TX 169) (fv_cal am_ms 13)) (fv_o1 332 [7810, 9, 17] [169] 299443227 299443227 (fv_TO 169 174) (fv_TM 169 174 169 801) (fv_cal am_ms 14)) am_ws
noncomputable def fv_cal0 : fv_Cl := fv_cwG (fv_o1 152 [2, 399, 415, 431, 447, 463, 479] [169] 299443227 299443227 fv_T0 fv_TTx (fv_cal am_ms 13)) (fv_o1 255 [7810, 399, 415, 431, 447, 463, 479] [169] 299443227 299443227 fv_TTo fv_TTm (fv_cal am_ms 14)) am_ws
theorem fv_c17b : fv_evs fv_cal17 am_kL 1000 (fun _ _ _ _ _ => false) fv_fin 100000 3 fv_lv0 [] 299443227 fv_T0 (fv_ivr 17 18 0 4294967296 2147483649 2147483849) = true := by decide +kernel
theorem fv_c17a : fv_cs (fv_ivr 17 18 0 4294967296 0 2147483649) = true := by decide +kernel
theorem fv_c17c : fv_cs (fv_ivr 17 18 0 4294967296 2147483849 4294967296) = true := by decide +kernel
theorem fv_c0 : fv_evs fv_cal0 am_kL 1000 (fun _ _ _ _ _ => false) fv_fin 100000 3 fv_lv0 [] 299443227 fv_T0 (fv_ivq 0 1) = true := by decide +kernel
theorem fv_T0d0 : fv_hg fv_T0 0 = (15, 17, [10, 26, 6498, 6506, 6514, 6522, 6530, 6538, 6546, 6562, 6602, 6626, 6946, 6962, 7282, 7386, 7402]) := by decide +kernel
theorem fv_T0d1 : fv_hg fv_T0 1 = (11, 2, [18, 0]) := by decide +kernel
theorem fv_T0d2 : fv_hg fv_T0 2 = (100, 400, fv_rep 400 0) := by decide +kernel
theorem fv_T0d3 : fv_hg fv_T0 977 = (100, 400, fv_rep 400 0) := by decide +kernel
theorem fv_T0d4 : fv_hg fv_T0 976 = fv_oT 0 := by decide +kernel
