/-! THE WRAPPERS, by program -/
theorem am_w468 : (match am_mds[468]? with | some q => am_ckW (am_hh q) (468, am_k468, am_p468, [(0, 0, 206)]) | none => false) = true := by decide +kernel
theorem am_w469 : (match am_mds[469]? with | some q => am_ckW (am_hh q) (469, am_k469, am_p469, [(0, 1, 196), (0, 0, 324)]) | none => false) = true := by decide +kernel
theorem am_w470 : (match am_mds[470]? with | some q => am_ckW (am_hh q) (470, am_k470, am_p470, [(0, 1, 195), (0, 0, 323)]) | none => false) = true := by decide +kernel
theorem am_w471 : (match am_mds[471]? with | some q => am_ckW (am_hh q) (471, am_k471, am_p471, [(0, 2, 196)]) | none => false) = true := by decide +kernel
theorem am_w472 : (match am_mds[472]? with | some q => am_ckW (am_hh q) (472, am_k472, am_p472, [(0, 1, 196), (0, 0, 324)]) | none => false) = true := by decide +kernel
theorem am_w473 : (match am_mds[473]? with | some q => am_ckW (am_hh q) (473, am_k473, am_p473, [(0, 2, 196), (0, 1, 324)]) | none => false) = true := by decide +kernel
theorem am_w474 : (match am_mds[474]? with | some q => am_ckW (am_hh q) (474, am_k474, am_p474, [(0, 2, 196), (0, 1, 324)]) | none => false) = true := by decide +kernel
theorem am_w475 : (match am_mds[475]? with | some q => am_ckW (am_hh q) (475, am_k475, am_p475, [(0, 2, 196)]) | none => false) = true := by decide +kernel
theorem am_w476 : (match am_mds[476]? with | some q => am_ckW (am_hh q) (476, am_k476, am_p476, [(0, 1, 195)]) | none => false) = true := by decide +kernel
theorem am_w477 : (match am_mds[477]? with | some q => am_ckW (am_hh q) (477, am_k477, am_p477, [(0, 1, 195)]) | none => false) = true := by decide +kernel
theorem am_w478 : (match am_mds[478]? with | some q => am_ckW (am_hh q) (478, am_k478, am_p478, [(0, 1, 195)]) | none => false) = true := by decide +kernel
theorem am_w479 : (match am_mds[479]? with | some q => am_ckW (am_hh q) (479, am_k479, am_p479, [(0, 1, 197)]) | none => false) = true := by decide +kernel
theorem am_w480 : (match am_mds[480]? with | some q => am_ckW (am_hh q) (480, am_k480, am_p480, [(0, 2, 196), (0, 1, 324)]) | none => false) = true := by decide +kernel
theorem am_w481 : (match am_mds[481]? with | some q => am_ckW (am_hh q) (481, am_k481, am_p481, [(0, 2, 196)]) | none => false) = true := by decide +kernel
theorem am_w482 : (match am_mds[482]? with | some q => am_ckW (am_hh q) (482, am_k482, am_p482, [(0, 1, 195), (0, 0, 323)]) | none => false) = true := by decide +kernel
theorem am_w483 : (match am_mds[483]? with | some q => am_ckW (am_hh q) (483, am_k483, am_p483, [(0, 1, 195), (0, 0, 323)]) | none => false) = true := by decide +kernel
theorem am_w484 : (match am_mds[484]? with | some q => am_ckW (am_hh q) (484, am_k484, am_p484, [(0, 1, 196), (0, 0, 324)]) | none => false) = true := by decide +kernel
theorem am_w485 : (match am_mds[485]? with | some q => am_ckW (am_hh q) (485, am_k485, am_p485, [(0, 2, 197), (0, 1, 325), (0, 0, 453)]) | none => false) = true := by decide +kernel
theorem am_w486 : (match am_mds[486]? with | some q => am_ckW (am_hh q) (486, am_k486, am_p486, [(0, 2, 387)]) | none => false) = true := by decide +kernel
theorem am_w487 : (match am_mds[487]? with | some q => am_ckW (am_hh q) (487, am_k487, am_p487, [(0, 2, 195), (0, 0, 323)]) | none => false) = true := by decide +kernel
theorem am_w488 : (match am_mds[488]? with | some q => am_ckW (am_hh q) (488, am_k488, am_p488, [(0, 2, 195), (0, 1, 323), (0, 0, 451)]) | none => false) = true := by decide +kernel
theorem am_w489 : (match am_mds[489]? with | some q => am_ckW (am_hh q) (489, am_k489, am_p489, [(0, 2, 194), (0, 0, 322)]) | none => false) = true := by decide +kernel
theorem am_w490 : (match am_mds[490]? with | some q => am_ckW (am_hh q) (490, am_k490, am_p490, [(0, 2, 195)]) | none => false) = true := by decide +kernel
theorem am_w491 : (match am_mds[491]? with | some q => am_ckW (am_hh q) (491, am_k491, am_p491, [(0, 2, 197), (0, 1, 325), (0, 0, 453)]) | none => false) = true := by decide +kernel
theorem am_w492 : (match am_mds[492]? with | some q => am_ckW (am_hh q) (492, am_k492, am_p492, [(0, 2, 195), (0, 0, 323)]) | none => false) = true := by decide +kernel
theorem am_w493 : (match am_mds[493]? with | some q => am_ckW (am_hh q) (493, am_k493, am_p493, [(0, 2, 196), (0, 1, 324), (0, 0, 452)]) | none => false) = true := by decide +kernel
theorem am_w494 : (match am_mds[494]? with | some q => am_ckW (am_hh q) (494, am_k494, am_p494, [(0, 2, 196)]) | none => false) = true := by decide +kernel
theorem am_w495 : (match am_mds[495]? with | some q => am_ckW (am_hh q) (495, am_k495, am_p495, [(0, 2, 196), (0, 0, 324)]) | none => false) = true := by decide +kernel
theorem am_w496 : (match am_mds[496]? with | some q => am_ckW (am_hh q) (496, am_k496, am_p496, [(0, 2, 196), (0, 1, 324)]) | none => false) = true := by decide +kernel
theorem am_w497 : (match am_mds[497]? with | some q => am_ckW (am_hh q) (497, am_k497, am_p497, [(0, 2, 196), (0, 1, 324)]) | none => false) = true := by decide +kernel
theorem am_w498 : (match am_mds[498]? with | some q => am_ckW (am_hh q) (498, am_k498, am_p498, [(0, 2, 197)]) | none => false) = true := by decide +kernel
theorem am_w499 : (match am_mds[499]? with | some q => am_ckW (am_hh q) (499, am_k499, am_p499, [(0, 2, 196), (0, 1, 324)]) | none => false) = true := by decide +kernel
theorem am_w500 : (match am_mds[500]? with | some q => am_ckW (am_hh q) (500, am_k500, am_p500, [(0, 2, 196)]) | none => false) = true := by decide +kernel
theorem am_w501 : (match am_mds[501]? with | some q => am_ckW (am_hh q) (501, am_k501, am_p501, [(0, 1, 195)]) | none => false) = true := by decide +kernel
