/-! WHAT IS RUN is what was checked -/
def am_mo (z : Nat × Nat × Option FieldType × List (List Instr × Instr)) : Prop := ∃ (q : am_M) (starts : List Nat), am_mds[z.1]? = some q ∧ am_mk q ≠ 3 ∧ (z.1, z.2.2.2, starts, []) ∈ am_cds ∧ q.2.1 = z.2.1 ∧ q.2.2.1 = z.2.2.1
set_option maxRecDepth 20000 in
theorem am_mo_31 : am_mo (31, 1, none, am_k31) := ⟨_, am_p31, rfl, by decide, List.mem_of_getElem? (i := 0) rfl, rfl, rfl⟩
set_option maxRecDepth 20000 in
theorem am_mo_39 : am_mo (39, 1, none, am_k39) := ⟨_, am_p39, rfl, by decide, List.mem_of_getElem? (i := 1) rfl, rfl, rfl⟩
set_option maxRecDepth 20000 in
theorem am_mo_40 : am_mo (40, 5, none, am_k40) := ⟨_, am_p40, rfl, by decide, List.mem_of_getElem? (i := 2) rfl, rfl, rfl⟩
set_option maxRecDepth 20000 in
theorem am_mo_41 : am_mo (41, 3, some .int, am_k41) := ⟨_, am_p41, rfl, by decide, List.mem_of_getElem? (i := 3) rfl, rfl, rfl⟩
set_option maxRecDepth 20000 in
theorem am_mo_44 : am_mo (44, 4, none, am_k44) := ⟨_, am_p44, rfl, by decide, List.mem_of_getElem? (i := 4) rfl, rfl, rfl⟩
set_option maxRecDepth 20000 in
theorem am_mo_59 : am_mo (59, 2, none, am_k59) := ⟨_, am_p59, rfl, by decide, List.mem_of_getElem? (i := 5) rfl, rfl, rfl⟩
set_option maxRecDepth 20000 in
theorem am_mo_60 : am_mo (60, 1, none, am_k60) := ⟨_, am_p60, rfl, by decide, List.mem_of_getElem? (i := 6) rfl, rfl, rfl⟩
set_option maxRecDepth 20000 in
theorem am_mo_61 : am_mo (61, 4, some .boolean, am_k61) := ⟨_, am_p61, rfl, by decide, List.mem_of_getElem? (i := 7) rfl, rfl, rfl⟩
set_option maxRecDepth 20000 in
theorem am_mo_77 : am_mo (77, 1, none, am_k77) := ⟨_, am_p77, rfl, by decide, List.mem_of_getElem? (i := 8) rfl, rfl, rfl⟩
set_option maxRecDepth 20000 in
theorem am_mo_100 : am_mo (100, 2, none, am_k100) := ⟨_, am_p100, rfl, by decide, List.mem_of_getElem? (i := 9) rfl, rfl, rfl⟩
set_option maxRecDepth 20000 in
theorem am_mo_101 : am_mo (101, 1, some .int, am_k101) := ⟨_, am_p101, rfl, by decide, List.mem_of_getElem? (i := 10) rfl, rfl, rfl⟩
set_option maxRecDepth 20000 in
theorem am_mo_102 : am_mo (102, 2, some .int, am_k102) := ⟨_, am_p102, rfl, by decide, List.mem_of_getElem? (i := 11) rfl, rfl, rfl⟩
set_option maxRecDepth 20000 in
theorem am_mo_106 : am_mo (106, 1, none, am_k106) := ⟨_, am_p106, rfl, by decide, List.mem_of_getElem? (i := 12) rfl, rfl, rfl⟩
set_option maxRecDepth 20000 in
theorem am_mo_109 : am_mo (109, 2, none, am_k109) := ⟨_, am_p109, rfl, by decide, List.mem_of_getElem? (i := 13) rfl, rfl, rfl⟩
set_option maxRecDepth 20000 in
theorem am_mo_115 : am_mo (115, 4, none, am_k115) := ⟨_, am_p115, rfl, by decide, List.mem_of_getElem? (i := 14) rfl, rfl, rfl⟩
set_option maxRecDepth 20000 in
theorem am_mo_124 : am_mo (124, 7, some .int, am_k124) := ⟨_, am_p124, rfl, by decide, List.mem_of_getElem? (i := 15) rfl, rfl, rfl⟩
set_option maxRecDepth 20000 in
theorem am_mo_125 : am_mo (125, 1, none, am_k125) := ⟨_, am_p125, rfl, by decide, List.mem_of_getElem? (i := 16) rfl, rfl, rfl⟩
set_option maxRecDepth 20000 in
theorem am_mo_141 : am_mo (141, 2, none, am_k141) := ⟨_, am_p141, rfl, by decide, List.mem_of_getElem? (i := 17) rfl, rfl, rfl⟩
set_option maxRecDepth 20000 in
theorem am_mo_144 : am_mo (144, 2, some .int, am_k144) := ⟨_, am_p144, rfl, by decide, List.mem_of_getElem? (i := 18) rfl, rfl, rfl⟩
set_option maxRecDepth 20000 in
theorem am_mo_145 : am_mo (145, 4, some .int, am_k145) := ⟨_, am_p145, rfl, by decide, List.mem_of_getElem? (i := 19) rfl, rfl, rfl⟩
set_option maxRecDepth 20000 in
theorem am_mo_146 : am_mo (146, 7, some .int, am_k146) := ⟨_, am_p146, rfl, by decide, List.mem_of_getElem? (i := 20) rfl, rfl, rfl⟩
set_option maxRecDepth 20000 in
theorem am_mo_150 : am_mo (150, 4, some .int, am_k150) := ⟨_, am_p150, rfl, by decide, List.mem_of_getElem? (i := 21) rfl, rfl, rfl⟩
set_option maxRecDepth 20000 in
theorem am_mo_151 : am_mo (151, 1, none, am_k151) := ⟨_, am_p151, rfl, by decide, List.mem_of_getElem? (i := 22) rfl, rfl, rfl⟩
set_option maxRecDepth 20000 in
theorem am_mo_152 : am_mo (152, 14, some .int, am_k152) := ⟨_, am_p152, rfl, by decide, List.mem_of_getElem? (i := 23) rfl, rfl, rfl⟩
set_option maxRecDepth 20000 in
theorem am_mo_153 : am_mo (153, 4, some .int, am_k153) := ⟨_, am_p153, rfl, by decide, List.mem_of_getElem? (i := 24) rfl, rfl, rfl⟩
set_option maxRecDepth 20000 in
theorem am_mo_154 : am_mo (154, 3, some .int, am_k154) := ⟨_, am_p154, rfl, by decide, List.mem_of_getElem? (i := 25) rfl, rfl, rfl⟩
set_option maxRecDepth 20000 in
theorem am_mo_155 : am_mo (155, 2, some .int, am_k155) := ⟨_, am_p155, rfl, by decide, List.mem_of_getElem? (i := 26) rfl, rfl, rfl⟩
set_option maxRecDepth 20000 in
theorem am_mo_156 : am_mo (156, 3, some .int, am_k156) := ⟨_, am_p156, rfl, by decide, List.mem_of_getElem? (i := 27) rfl, rfl, rfl⟩
set_option maxRecDepth 20000 in
theorem am_mo_157 : am_mo (157, 3, some .int, am_k157) := ⟨_, am_p157, rfl, by decide, List.mem_of_getElem? (i := 28) rfl, rfl, rfl⟩
set_option maxRecDepth 20000 in
theorem am_mo_158 : am_mo (158, 5, some .int, am_k158) := ⟨_, am_p158, rfl, by decide, List.mem_of_getElem? (i := 29) rfl, rfl, rfl⟩
set_option maxRecDepth 20000 in
theorem am_mo_159 : am_mo (159, 4, some .int, am_k159) := ⟨_, am_p159, rfl, by decide, List.mem_of_getElem? (i := 30) rfl, rfl, rfl⟩
set_option maxRecDepth 20000 in
theorem am_mo_160 : am_mo (160, 5, some .int, am_k160) := ⟨_, am_p160, rfl, by decide, List.mem_of_getElem? (i := 31) rfl, rfl, rfl⟩
set_option maxRecDepth 20000 in
theorem am_mo_161 : am_mo (161, 2, some .int, am_k161) := ⟨_, am_p161, rfl, by decide, List.mem_of_getElem? (i := 32) rfl, rfl, rfl⟩
set_option maxRecDepth 20000 in
theorem am_mo_162 : am_mo (162, 2, some .int, am_k162) := ⟨_, am_p162, rfl, by decide, List.mem_of_getElem? (i := 33) rfl, rfl, rfl⟩
set_option maxRecDepth 20000 in
theorem am_mo_163 : am_mo (163, 2, some .int, am_k163) := ⟨_, am_p163, rfl, by decide, List.mem_of_getElem? (i := 34) rfl, rfl, rfl⟩
set_option maxRecDepth 20000 in
theorem am_mo_164 : am_mo (164, 4, some .int, am_k164) := ⟨_, am_p164, rfl, by decide, List.mem_of_getElem? (i := 35) rfl, rfl, rfl⟩
set_option maxRecDepth 20000 in
theorem am_mo_165 : am_mo (165, 4, some .int, am_k165) := ⟨_, am_p165, rfl, by decide, List.mem_of_getElem? (i := 36) rfl, rfl, rfl⟩
set_option maxRecDepth 20000 in
theorem am_mo_166 : am_mo (166, 4, some .int, am_k166) := ⟨_, am_p166, rfl, by decide, List.mem_of_getElem? (i := 37) rfl, rfl, rfl⟩
set_option maxRecDepth 20000 in
theorem am_mo_167 : am_mo (167, 3, some .int, am_k167) := ⟨_, am_p167, rfl, by decide, List.mem_of_getElem? (i := 38) rfl, rfl, rfl⟩
set_option maxRecDepth 20000 in
theorem am_mo_168 : am_mo (168, 5, some .int, am_k168) := ⟨_, am_p168, rfl, by decide, List.mem_of_getElem? (i := 39) rfl, rfl, rfl⟩
set_option maxRecDepth 20000 in
theorem am_mo_169 : am_mo (169, 8, some .int, am_k169) := ⟨_, am_p169, rfl, by decide, List.mem_of_getElem? (i := 40) rfl, rfl, rfl⟩
set_option maxRecDepth 20000 in
theorem am_mo_170 : am_mo (170, 8, some .int, am_k170) := ⟨_, am_p170, rfl, by decide, List.mem_of_getElem? (i := 41) rfl, rfl, rfl⟩
set_option maxRecDepth 20000 in
theorem am_mo_171 : am_mo (171, 2, some .boolean, am_k171) := ⟨_, am_p171, rfl, by decide, List.mem_of_getElem? (i := 42) rfl, rfl, rfl⟩
set_option maxRecDepth 20000 in
theorem am_mo_172 : am_mo (172, 5, some .int, am_k172) := ⟨_, am_p172, rfl, by decide, List.mem_of_getElem? (i := 43) rfl, rfl, rfl⟩
set_option maxRecDepth 20000 in
theorem am_mo_173 : am_mo (173, 5, some .int, am_k173) := ⟨_, am_p173, rfl, by decide, List.mem_of_getElem? (i := 44) rfl, rfl, rfl⟩
set_option maxRecDepth 20000 in
theorem am_mo_174 : am_mo (174, 2, none, am_k174) := ⟨_, am_p174, rfl, by decide, List.mem_of_getElem? (i := 45) rfl, rfl, rfl⟩
set_option maxRecDepth 20000 in
theorem am_mo_175 : am_mo (175, 2, some .int, am_k175) := ⟨_, am_p175, rfl, by decide, List.mem_of_getElem? (i := 46) rfl, rfl, rfl⟩
set_option maxRecDepth 20000 in
theorem am_mo_176 : am_mo (176, 6, some .int, am_k176) := ⟨_, am_p176, rfl, by decide, List.mem_of_getElem? (i := 47) rfl, rfl, rfl⟩
set_option maxRecDepth 20000 in
theorem am_mo_177 : am_mo (177, 4, some .int, am_k177) := ⟨_, am_p177, rfl, by decide, List.mem_of_getElem? (i := 48) rfl, rfl, rfl⟩
set_option maxRecDepth 20000 in
theorem am_mo_178 : am_mo (178, 5, some .int, am_k178) := ⟨_, am_p178, rfl, by decide, List.mem_of_getElem? (i := 49) rfl, rfl, rfl⟩
set_option maxRecDepth 20000 in
theorem am_mo_179 : am_mo (179, 4, some .int, am_k179) := ⟨_, am_p179, rfl, by decide, List.mem_of_getElem? (i := 50) rfl, rfl, rfl⟩
set_option maxRecDepth 20000 in
theorem am_mo_180 : am_mo (180, 4, some .int, am_k180) := ⟨_, am_p180, rfl, by decide, List.mem_of_getElem? (i := 51) rfl, rfl, rfl⟩
set_option maxRecDepth 20000 in
theorem am_mo_181 : am_mo (181, 3, some .int, am_k181) := ⟨_, am_p181, rfl, by decide, List.mem_of_getElem? (i := 52) rfl, rfl, rfl⟩
set_option maxRecDepth 20000 in
theorem am_mo_182 : am_mo (182, 3, some .int, am_k182) := ⟨_, am_p182, rfl, by decide, List.mem_of_getElem? (i := 53) rfl, rfl, rfl⟩
set_option maxRecDepth 20000 in
theorem am_mo_183 : am_mo (183, 5, some .int, am_k183) := ⟨_, am_p183, rfl, by decide, List.mem_of_getElem? (i := 54) rfl, rfl, rfl⟩
set_option maxRecDepth 20000 in
theorem am_mo_184 : am_mo (184, 3, some .int, am_k184) := ⟨_, am_p184, rfl, by decide, List.mem_of_getElem? (i := 55) rfl, rfl, rfl⟩
set_option maxRecDepth 20000 in
theorem am_mo_185 : am_mo (185, 4, some .int, am_k185) := ⟨_, am_p185, rfl, by decide, List.mem_of_getElem? (i := 56) rfl, rfl, rfl⟩
set_option maxRecDepth 20000 in
theorem am_mo_186 : am_mo (186, 2, some .int, am_k186) := ⟨_, am_p186, rfl, by decide, List.mem_of_getElem? (i := 57) rfl, rfl, rfl⟩
set_option maxRecDepth 20000 in
theorem am_mo_187 : am_mo (187, 3, some .boolean, am_k187) := ⟨_, am_p187, rfl, by decide, List.mem_of_getElem? (i := 58) rfl, rfl, rfl⟩
set_option maxRecDepth 20000 in
theorem am_mo_188 : am_mo (188, 3, some .int, am_k188) := ⟨_, am_p188, rfl, by decide, List.mem_of_getElem? (i := 59) rfl, rfl, rfl⟩
set_option maxRecDepth 20000 in
theorem am_mo_189 : am_mo (189, 1, some .double, am_k189) := ⟨_, am_p189, rfl, by decide, List.mem_of_getElem? (i := 60) rfl, rfl, rfl⟩
set_option maxRecDepth 20000 in
theorem am_mo_190 : am_mo (190, 4, some .float, am_k190) := ⟨_, am_p190, rfl, by decide, List.mem_of_getElem? (i := 61) rfl, rfl, rfl⟩
set_option maxRecDepth 20000 in
theorem am_mo_191 : am_mo (191, 2, some .boolean, am_k191) := ⟨_, am_p191, rfl, by decide, List.mem_of_getElem? (i := 62) rfl, rfl, rfl⟩
set_option maxRecDepth 20000 in
theorem am_mo_192 : am_mo (192, 2, some .boolean, am_k192) := ⟨_, am_p192, rfl, by decide, List.mem_of_getElem? (i := 63) rfl, rfl, rfl⟩
set_option maxRecDepth 20000 in
theorem am_mo_193 : am_mo (193, 1, some .boolean, am_k193) := ⟨_, am_p193, rfl, by decide, List.mem_of_getElem? (i := 64) rfl, rfl, rfl⟩
set_option maxRecDepth 20000 in
theorem am_mo_194 : am_mo (194, 1, some .int, am_k194) := ⟨_, am_p194, rfl, by decide, List.mem_of_getElem? (i := 65) rfl, rfl, rfl⟩
set_option maxRecDepth 20000 in
theorem am_mo_195 : am_mo (195, 2, some .int, am_k195) := ⟨_, am_p195, rfl, by decide, List.mem_of_getElem? (i := 66) rfl, rfl, rfl⟩
set_option maxRecDepth 20000 in
theorem am_mo_197 : am_mo (197, 4, some .int, am_k197) := ⟨_, am_p197, rfl, by decide, List.mem_of_getElem? (i := 67) rfl, rfl, rfl⟩
set_option maxRecDepth 20000 in
theorem am_mo_198 : am_mo (198, 5, none, am_k198) := ⟨_, am_p198, rfl, by decide, List.mem_of_getElem? (i := 68) rfl, rfl, rfl⟩
set_option maxRecDepth 20000 in
theorem am_mo_199 : am_mo (199, 1, some (.object "java/lang/String"), am_k199) := ⟨_, am_p199, rfl, by decide, List.mem_of_getElem? (i := 69) rfl, rfl, rfl⟩
set_option maxRecDepth 20000 in
theorem am_mo_200 : am_mo (200, 3, some .int, am_k200) := ⟨_, am_p200, rfl, by decide, List.mem_of_getElem? (i := 70) rfl, rfl, rfl⟩
set_option maxRecDepth 20000 in
theorem am_mo_201 : am_mo (201, 5, some .int, am_k201) := ⟨_, am_p201, rfl, by decide, List.mem_of_getElem? (i := 71) rfl, rfl, rfl⟩
set_option maxRecDepth 20000 in
theorem am_mo_202 : am_mo (202, 2, some .boolean, am_k202) := ⟨_, am_p202, rfl, by decide, List.mem_of_getElem? (i := 72) rfl, rfl, rfl⟩
set_option maxRecDepth 20000 in
theorem am_mo_203 : am_mo (203, 3, none, am_k203) := ⟨_, am_p203, rfl, by decide, List.mem_of_getElem? (i := 73) rfl, rfl, rfl⟩
set_option maxRecDepth 20000 in
theorem am_mo_204 : am_mo (204, 9, some .int, am_k204) := ⟨_, am_p204, rfl, by decide, List.mem_of_getElem? (i := 74) rfl, rfl, rfl⟩
set_option maxRecDepth 20000 in
theorem am_mo_205 : am_mo (205, 4, none, am_k205) := ⟨_, am_p205, rfl, by decide, List.mem_of_getElem? (i := 75) rfl, rfl, rfl⟩
set_option maxRecDepth 20000 in
theorem am_mo_211 : am_mo (211, 6, some .int, am_k211) := ⟨_, am_p211, rfl, by decide, List.mem_of_getElem? (i := 76) rfl, rfl, rfl⟩
set_option maxRecDepth 20000 in
theorem am_mo_220 : am_mo (220, 1, some .int, am_k220) := ⟨_, am_p220, rfl, by decide, List.mem_of_getElem? (i := 77) rfl, rfl, rfl⟩
set_option maxRecDepth 20000 in
theorem am_mo_222 : am_mo (222, 4, some .int, am_k222) := ⟨_, am_p222, rfl, by decide, List.mem_of_getElem? (i := 78) rfl, rfl, rfl⟩
set_option maxRecDepth 20000 in
theorem am_mo_229 : am_mo (229, 3, none, am_k229) := ⟨_, am_p229, rfl, by decide, List.mem_of_getElem? (i := 79) rfl, rfl, rfl⟩
set_option maxRecDepth 20000 in
theorem am_mo_244 : am_mo (244, 1, none, am_k244) := ⟨_, am_p244, rfl, by decide, List.mem_of_getElem? (i := 80) rfl, rfl, rfl⟩
set_option maxRecDepth 20000 in
theorem am_mo_245 : am_mo (245, 1, some .int, am_k245) := ⟨_, am_p245, rfl, by decide, List.mem_of_getElem? (i := 81) rfl, rfl, rfl⟩
set_option maxRecDepth 20000 in
theorem am_mo_246 : am_mo (246, 6, some .boolean, am_k246) := ⟨_, am_p246, rfl, by decide, List.mem_of_getElem? (i := 82) rfl, rfl, rfl⟩
set_option maxRecDepth 20000 in
theorem am_mo_247 : am_mo (247, 2, some .boolean, am_k247) := ⟨_, am_p247, rfl, by decide, List.mem_of_getElem? (i := 83) rfl, rfl, rfl⟩
set_option maxRecDepth 20000 in
theorem am_mo_248 : am_mo (248, 3, some .boolean, am_k248) := ⟨_, am_p248, rfl, by decide, List.mem_of_getElem? (i := 84) rfl, rfl, rfl⟩
set_option maxRecDepth 20000 in
theorem am_mo_249 : am_mo (249, 4, some .boolean, am_k249) := ⟨_, am_p249, rfl, by decide, List.mem_of_getElem? (i := 85) rfl, rfl, rfl⟩
set_option maxRecDepth 20000 in
theorem am_mo_253 : am_mo (253, 4, some .int, am_k253) := ⟨_, am_p253, rfl, by decide, List.mem_of_getElem? (i := 86) rfl, rfl, rfl⟩
set_option maxRecDepth 20000 in
theorem am_mo_254 : am_mo (254, 5, none, am_k254) := ⟨_, am_p254, rfl, by decide, List.mem_of_getElem? (i := 87) rfl, rfl, rfl⟩
set_option maxRecDepth 20000 in
theorem am_mo_255 : am_mo (255, 14, some .int, am_k255) := ⟨_, am_p255, rfl, by decide, List.mem_of_getElem? (i := 88) rfl, rfl, rfl⟩
set_option maxRecDepth 20000 in
theorem am_mo_256 : am_mo (256, 4, some .int, am_k256) := ⟨_, am_p256, rfl, by decide, List.mem_of_getElem? (i := 89) rfl, rfl, rfl⟩
set_option maxRecDepth 20000 in
theorem am_mo_257 : am_mo (257, 1, some (.object "java/lang/String"), am_k257) := ⟨_, am_p257, rfl, by decide, List.mem_of_getElem? (i := 90) rfl, rfl, rfl⟩
set_option maxRecDepth 20000 in
theorem am_mo_258 : am_mo (258, 6, some .int, am_k258) := ⟨_, am_p258, rfl, by decide, List.mem_of_getElem? (i := 91) rfl, rfl, rfl⟩
set_option maxRecDepth 20000 in
theorem am_mo_259 : am_mo (259, 2, some .int, am_k259) := ⟨_, am_p259, rfl, by decide, List.mem_of_getElem? (i := 92) rfl, rfl, rfl⟩
set_option maxRecDepth 20000 in
theorem am_mo_260 : am_mo (260, 7, some .int, am_k260) := ⟨_, am_p260, rfl, by decide, List.mem_of_getElem? (i := 93) rfl, rfl, rfl⟩
set_option maxRecDepth 20000 in
theorem am_mo_261 : am_mo (261, 3, some .int, am_k261) := ⟨_, am_p261, rfl, by decide, List.mem_of_getElem? (i := 94) rfl, rfl, rfl⟩
set_option maxRecDepth 20000 in
theorem am_mo_263 : am_mo (263, 3, some .int, am_k263) := ⟨_, am_p263, rfl, by decide, List.mem_of_getElem? (i := 95) rfl, rfl, rfl⟩
set_option maxRecDepth 20000 in
theorem am_mo_265 : am_mo (265, 3, some .int, am_k265) := ⟨_, am_p265, rfl, by decide, List.mem_of_getElem? (i := 96) rfl, rfl, rfl⟩
set_option maxRecDepth 20000 in
theorem am_mo_266 : am_mo (266, 4, some .int, am_k266) := ⟨_, am_p266, rfl, by decide, List.mem_of_getElem? (i := 97) rfl, rfl, rfl⟩
set_option maxRecDepth 20000 in
theorem am_mo_267 : am_mo (267, 4, some .int, am_k267) := ⟨_, am_p267, rfl, by decide, List.mem_of_getElem? (i := 98) rfl, rfl, rfl⟩
set_option maxRecDepth 20000 in
theorem am_mo_268 : am_mo (268, 1, some .int, am_k268) := ⟨_, am_p268, rfl, by decide, List.mem_of_getElem? (i := 99) rfl, rfl, rfl⟩
set_option maxRecDepth 20000 in
theorem am_mo_271 : am_mo (271, 3, some (.object "LanternserverModel$Known"), am_k271) := ⟨_, am_p271, rfl, by decide, List.mem_of_getElem? (i := 100) rfl, rfl, rfl⟩
set_option maxRecDepth 20000 in
theorem am_mo_272 : am_mo (272, 4, some .int, am_k272) := ⟨_, am_p272, rfl, by decide, List.mem_of_getElem? (i := 101) rfl, rfl, rfl⟩
set_option maxRecDepth 20000 in
theorem am_mo_279 : am_mo (279, 2, some .int, am_k279) := ⟨_, am_p279, rfl, by decide, List.mem_of_getElem? (i := 102) rfl, rfl, rfl⟩
set_option maxRecDepth 20000 in
theorem am_mo_280 : am_mo (280, 2, some .int, am_k280) := ⟨_, am_p280, rfl, by decide, List.mem_of_getElem? (i := 103) rfl, rfl, rfl⟩
set_option maxRecDepth 20000 in
theorem am_mo_281 : am_mo (281, 4, some .int, am_k281) := ⟨_, am_p281, rfl, by decide, List.mem_of_getElem? (i := 104) rfl, rfl, rfl⟩
set_option maxRecDepth 20000 in
theorem am_mo_282 : am_mo (282, 6, some .int, am_k282) := ⟨_, am_p282, rfl, by decide, List.mem_of_getElem? (i := 105) rfl, rfl, rfl⟩
set_option maxRecDepth 20000 in
theorem am_mo_283 : am_mo (283, 4, some .int, am_k283) := ⟨_, am_p283, rfl, by decide, List.mem_of_getElem? (i := 106) rfl, rfl, rfl⟩
set_option maxRecDepth 20000 in
theorem am_mo_284 : am_mo (284, 3, some .int, am_k284) := ⟨_, am_p284, rfl, by decide, List.mem_of_getElem? (i := 107) rfl, rfl, rfl⟩
set_option maxRecDepth 20000 in
theorem am_mo_304 : am_mo (304, 5, some .int, am_k304) := ⟨_, am_p304, rfl, by decide, List.mem_of_getElem? (i := 108) rfl, rfl, rfl⟩
set_option maxRecDepth 20000 in
theorem am_mo_307 : am_mo (307, 5, some .int, am_k307) := ⟨_, am_p307, rfl, by decide, List.mem_of_getElem? (i := 109) rfl, rfl, rfl⟩
set_option maxRecDepth 20000 in
theorem am_mo_308 : am_mo (308, 2, some .boolean, am_k308) := ⟨_, am_p308, rfl, by decide, List.mem_of_getElem? (i := 110) rfl, rfl, rfl⟩
set_option maxRecDepth 20000 in
theorem am_mo_311 : am_mo (311, 6, some (.array .int), am_k311) := ⟨_, am_p311, rfl, by decide, List.mem_of_getElem? (i := 111) rfl, rfl, rfl⟩
set_option maxRecDepth 20000 in
theorem am_mo_314 : am_mo (314, 4, some .int, am_k314) := ⟨_, am_p314, rfl, by decide, List.mem_of_getElem? (i := 112) rfl, rfl, rfl⟩
set_option maxRecDepth 20000 in
theorem am_mo_320 : am_mo (320, 4, some .int, am_k320) := ⟨_, am_p320, rfl, by decide, List.mem_of_getElem? (i := 113) rfl, rfl, rfl⟩
set_option maxRecDepth 20000 in
theorem am_mo_321 : am_mo (321, 3, none, am_k321) := ⟨_, am_p321, rfl, by decide, List.mem_of_getElem? (i := 114) rfl, rfl, rfl⟩
set_option maxRecDepth 20000 in
theorem am_mo_322 : am_mo (322, 2, some .int, am_k322) := ⟨_, am_p322, rfl, by decide, List.mem_of_getElem? (i := 115) rfl, rfl, rfl⟩
set_option maxRecDepth 20000 in
theorem am_mo_328 : am_mo (328, 5, none, am_k328) := ⟨_, am_p328, rfl, by decide, List.mem_of_getElem? (i := 116) rfl, rfl, rfl⟩
set_option maxRecDepth 20000 in
theorem am_mo_329 : am_mo (329, 3, some .int, am_k329) := ⟨_, am_p329, rfl, by decide, List.mem_of_getElem? (i := 117) rfl, rfl, rfl⟩
set_option maxRecDepth 20000 in
theorem am_mo_330 : am_mo (330, 6, some .int, am_k330) := ⟨_, am_p330, rfl, by decide, List.mem_of_getElem? (i := 118) rfl, rfl, rfl⟩
set_option maxRecDepth 20000 in
theorem am_mo_331 : am_mo (331, 2, some .int, am_k331) := ⟨_, am_p331, rfl, by decide, List.mem_of_getElem? (i := 119) rfl, rfl, rfl⟩
set_option maxRecDepth 20000 in
theorem am_mo_332 : am_mo (332, 8, some .int, am_k332) := ⟨_, am_p332, rfl, by decide, List.mem_of_getElem? (i := 120) rfl, rfl, rfl⟩
set_option maxRecDepth 20000 in
theorem am_mo_333 : am_mo (333, 2, some .int, am_k333) := ⟨_, am_p333, rfl, by decide, List.mem_of_getElem? (i := 121) rfl, rfl, rfl⟩
set_option maxRecDepth 20000 in
theorem am_mo_335 : am_mo (335, 2, some .boolean, am_k335) := ⟨_, am_p335, rfl, by decide, List.mem_of_getElem? (i := 122) rfl, rfl, rfl⟩
set_option maxRecDepth 20000 in
theorem am_mo_350 : am_mo (350, 3, some .boolean, am_k350) := ⟨_, am_p350, rfl, by decide, List.mem_of_getElem? (i := 123) rfl, rfl, rfl⟩
set_option maxRecDepth 20000 in
theorem am_mo_351 : am_mo (351, 4, none, am_k351) := ⟨_, am_p351, rfl, by decide, List.mem_of_getElem? (i := 124) rfl, rfl, rfl⟩
set_option maxRecDepth 20000 in
theorem am_mo_386 : am_mo (386, 2, some .boolean, am_k386) := ⟨_, am_p386, rfl, by decide, List.mem_of_getElem? (i := 125) rfl, rfl, rfl⟩
set_option maxRecDepth 20000 in
theorem am_mo_387 : am_mo (387, 5, some .int, am_k387) := ⟨_, am_p387, rfl, by decide, List.mem_of_getElem? (i := 126) rfl, rfl, rfl⟩
set_option maxRecDepth 20000 in
theorem am_mo_389 : am_mo (389, 6, some .int, am_k389) := ⟨_, am_p389, rfl, by decide, List.mem_of_getElem? (i := 127) rfl, rfl, rfl⟩
set_option maxRecDepth 20000 in
theorem am_mo_390 : am_mo (390, 6, some .int, am_k390) := ⟨_, am_p390, rfl, by decide, List.mem_of_getElem? (i := 128) rfl, rfl, rfl⟩
set_option maxRecDepth 20000 in
theorem am_mo_391 : am_mo (391, 3, some .int, am_k391) := ⟨_, am_p391, rfl, by decide, List.mem_of_getElem? (i := 129) rfl, rfl, rfl⟩
set_option maxRecDepth 20000 in
theorem am_mo_392 : am_mo (392, 6, some .int, am_k392) := ⟨_, am_p392, rfl, by decide, List.mem_of_getElem? (i := 130) rfl, rfl, rfl⟩
set_option maxRecDepth 20000 in
theorem am_mo_393 : am_mo (393, 4, some .int, am_k393) := ⟨_, am_p393, rfl, by decide, List.mem_of_getElem? (i := 131) rfl, rfl, rfl⟩
set_option maxRecDepth 20000 in
theorem am_mo_394 : am_mo (394, 4, some .int, am_k394) := ⟨_, am_p394, rfl, by decide, List.mem_of_getElem? (i := 132) rfl, rfl, rfl⟩
set_option maxRecDepth 20000 in
theorem am_mo_395 : am_mo (395, 8, some .int, am_k395) := ⟨_, am_p395, rfl, by decide, List.mem_of_getElem? (i := 133) rfl, rfl, rfl⟩
set_option maxRecDepth 20000 in
theorem am_mo_455 : am_mo (455, 3, some .int, am_k455) := ⟨_, am_p455, rfl, by decide, List.mem_of_getElem? (i := 134) rfl, rfl, rfl⟩
set_option maxRecDepth 20000 in
theorem am_mo_456 : am_mo (456, 5, some .int, am_k456) := ⟨_, am_p456, rfl, by decide, List.mem_of_getElem? (i := 135) rfl, rfl, rfl⟩
set_option maxRecDepth 20000 in
theorem am_mo_457 : am_mo (457, 3, some .int, am_k457) := ⟨_, am_p457, rfl, by decide, List.mem_of_getElem? (i := 136) rfl, rfl, rfl⟩
set_option maxRecDepth 20000 in
theorem am_mo_458 : am_mo (458, 4, some .int, am_k458) := ⟨_, am_p458, rfl, by decide, List.mem_of_getElem? (i := 137) rfl, rfl, rfl⟩
set_option maxRecDepth 20000 in
theorem am_mo_459 : am_mo (459, 3, some .int, am_k459) := ⟨_, am_p459, rfl, by decide, List.mem_of_getElem? (i := 138) rfl, rfl, rfl⟩
set_option maxRecDepth 20000 in
theorem am_mo_460 : am_mo (460, 2, some .int, am_k460) := ⟨_, am_p460, rfl, by decide, List.mem_of_getElem? (i := 139) rfl, rfl, rfl⟩
set_option maxRecDepth 20000 in
theorem am_mo_463 : am_mo (463, 4, some .boolean, am_k463) := ⟨_, am_p463, rfl, by decide, List.mem_of_getElem? (i := 140) rfl, rfl, rfl⟩
set_option maxRecDepth 20000 in
theorem am_mo_464 : am_mo (464, 3, some .boolean, am_k464) := ⟨_, am_p464, rfl, by decide, List.mem_of_getElem? (i := 141) rfl, rfl, rfl⟩
set_option maxRecDepth 20000 in
theorem am_mo_465 : am_mo (465, 1, some .int, am_k465) := ⟨_, am_p465, rfl, by decide, List.mem_of_getElem? (i := 142) rfl, rfl, rfl⟩
set_option maxRecDepth 20000 in
theorem am_mo_466 : am_mo (466, 1, some .double, am_k466) := ⟨_, am_p466, rfl, by decide, List.mem_of_getElem? (i := 143) rfl, rfl, rfl⟩
set_option maxRecDepth 20000 in
theorem am_mo_467 : am_mo (467, 3, some .float, am_k467) := ⟨_, am_p467, rfl, by decide, List.mem_of_getElem? (i := 144) rfl, rfl, rfl⟩
set_option maxRecDepth 20000 in
theorem am_mo_502 : am_mo (502, 1, none, am_k502) := ⟨_, am_p502, rfl, by decide, List.mem_of_getElem? (i := 145) rfl, rfl, rfl⟩
set_option maxRecDepth 20000 in
theorem am_mo_503 : am_mo (503, 4, some (.array (.object "java/lang/Object")), am_k503) := ⟨_, am_p503, rfl, by decide, List.mem_of_getElem? (i := 146) rfl, rfl, rfl⟩
set_option maxRecDepth 20000 in
theorem am_mo_504 : am_mo (504, 1, some (.array (.object "java/lang/Object")), am_k504) := ⟨_, am_p504, rfl, by decide, List.mem_of_getElem? (i := 147) rfl, rfl, rfl⟩
set_option maxRecDepth 20000 in
theorem am_mo_505 : am_mo (505, 1, some .int, am_k505) := ⟨_, am_p505, rfl, by decide, List.mem_of_getElem? (i := 148) rfl, rfl, rfl⟩
set_option maxRecDepth 20000 in
theorem am_mo_506 : am_mo (506, 2, some (.object "java/lang/Object"), am_k506) := ⟨_, am_p506, rfl, by decide, List.mem_of_getElem? (i := 149) rfl, rfl, rfl⟩
set_option maxRecDepth 20000 in
theorem am_mo_507 : am_mo (507, 2, some (.object "java/lang/Object"), am_k507) := ⟨_, am_p507, rfl, by decide, List.mem_of_getElem? (i := 150) rfl, rfl, rfl⟩
set_option maxRecDepth 20000 in
theorem am_mo_508 : am_mo (508, 4, none, am_k508) := ⟨_, am_p508, rfl, by decide, List.mem_of_getElem? (i := 151) rfl, rfl, rfl⟩
set_option maxRecDepth 20000 in
theorem am_mo_509 : am_mo (509, 2, some .boolean, am_k509) := ⟨_, am_p509, rfl, by decide, List.mem_of_getElem? (i := 152) rfl, rfl, rfl⟩
set_option maxRecDepth 20000 in
theorem am_mo_510 : am_mo (510, 1, none, am_k510) := ⟨_, am_p510, rfl, by decide, List.mem_of_getElem? (i := 153) rfl, rfl, rfl⟩
set_option maxRecDepth 20000 in
theorem am_mo_511 : am_mo (511, 1, none, am_k511) := ⟨_, am_p511, rfl, by decide, List.mem_of_getElem? (i := 154) rfl, rfl, rfl⟩
set_option maxRecDepth 20000 in
theorem am_mo_512 : am_mo (512, 2, some .int, am_k512) := ⟨_, am_p512, rfl, by decide, List.mem_of_getElem? (i := 155) rfl, rfl, rfl⟩
set_option maxRecDepth 20000 in
theorem am_mo_513 : am_mo (513, 3, some .int, am_k513) := ⟨_, am_p513, rfl, by decide, List.mem_of_getElem? (i := 156) rfl, rfl, rfl⟩
set_option maxRecDepth 20000 in
theorem am_mo_527 : am_mo (527, 1, some .int, am_k527) := ⟨_, am_p527, rfl, by decide, List.mem_of_getElem? (i := 157) rfl, rfl, rfl⟩
set_option maxRecDepth 20000 in
theorem am_mo_528 : am_mo (528, 2, some .char, am_k528) := ⟨_, am_p528, rfl, by decide, List.mem_of_getElem? (i := 158) rfl, rfl, rfl⟩
set_option maxRecDepth 20000 in
theorem am_mo_531 : am_mo (531, 1, some .byte, am_k531) := ⟨_, am_p531, rfl, by decide, List.mem_of_getElem? (i := 159) rfl, rfl, rfl⟩
set_option maxRecDepth 20000 in
theorem am_mo_532 : am_mo (532, 1, some .boolean, am_k532) := ⟨_, am_p532, rfl, by decide, List.mem_of_getElem? (i := 160) rfl, rfl, rfl⟩
set_option maxRecDepth 20000 in
theorem am_mo_533 : am_mo (533, 2, none, am_k533) := ⟨_, am_p533, rfl, by decide, List.mem_of_getElem? (i := 161) rfl, rfl, rfl⟩
set_option maxRecDepth 20000 in
theorem am_mo_536 : am_mo (536, 2, some .char, am_k536) := ⟨_, am_p536, rfl, by decide, List.mem_of_getElem? (i := 162) rfl, rfl, rfl⟩
set_option maxRecDepth 100000 in
theorem am_msok_all : am_msok am_cds am_ms := List.forall_mem_cons.mpr ⟨am_mo_31, List.forall_mem_cons.mpr ⟨am_mo_39, List.forall_mem_cons.mpr ⟨am_mo_40, List.forall_mem_cons.mpr ⟨am_mo_41, List.forall_mem_cons.mpr ⟨am_mo_44, List.forall_mem_cons.mpr ⟨am_mo_59, List.forall_mem_cons.mpr ⟨am_mo_60, List.forall_mem_cons.mpr ⟨am_mo_61, List.forall_mem_cons.mpr ⟨am_mo_77, List.forall_mem_cons.mpr ⟨am_mo_100, List.forall_mem_cons.mpr ⟨am_mo_101, List.forall_mem_cons.mpr ⟨am_mo_102, List.forall_mem_cons.mpr ⟨am_mo_106, List.forall_mem_cons.mpr ⟨am_mo_109, List.forall_mem_cons.mpr ⟨am_mo_115, List.forall_mem_cons.mpr ⟨am_mo_124, List.forall_mem_cons.mpr ⟨am_mo_125, List.forall_mem_cons.mpr ⟨am_mo_141, List.forall_mem_cons.mpr ⟨am_mo_144, List.forall_mem_cons.mpr ⟨am_mo_145, List.forall_mem_cons.mpr ⟨am_mo_146, List.forall_mem_cons.mpr ⟨am_mo_150, List.forall_mem_cons.mpr ⟨am_mo_151, List.forall_mem_cons.mpr ⟨am_mo_152, List.forall_mem_cons.mpr ⟨am_mo_153, List.forall_mem_cons.mpr ⟨am_mo_154, List.forall_mem_cons.mpr ⟨am_mo_155, List.forall_mem_cons.mpr ⟨am_mo_156, List.forall_mem_cons.mpr ⟨am_mo_157, List.forall_mem_cons.mpr ⟨am_mo_158, List.forall_mem_cons.mpr ⟨am_mo_159, List.forall_mem_cons.mpr ⟨am_mo_160, List.forall_mem_cons.mpr ⟨am_mo_161, List.forall_mem_cons.mpr ⟨am_mo_162, List.forall_mem_cons.mpr ⟨am_mo_163, List.forall_mem_cons.mpr ⟨am_mo_164, List.forall_mem_cons.mpr ⟨am_mo_165, List.forall_mem_cons.mpr ⟨am_mo_166, List.forall_mem_cons.mpr ⟨am_mo_167, List.forall_mem_cons.mpr ⟨am_mo_168, List.forall_mem_cons.mpr ⟨am_mo_169, List.forall_mem_cons.mpr ⟨am_mo_170, List.forall_mem_cons.mpr ⟨am_mo_171, List.forall_mem_cons.mpr ⟨am_mo_172, List.forall_mem_cons.mpr ⟨am_mo_173, List.forall_mem_cons.mpr ⟨am_mo_174, List.forall_mem_cons.mpr ⟨am_mo_175, List.forall_mem_cons.mpr ⟨am_mo_176, List.forall_mem_cons.mpr ⟨am_mo_177, List.forall_mem_cons.mpr ⟨am_mo_178, List.forall_mem_cons.mpr ⟨am_mo_179, List.forall_mem_cons.mpr ⟨am_mo_180, List.forall_mem_cons.mpr ⟨am_mo_181, List.forall_mem_cons.mpr ⟨am_mo_182, List.forall_mem_cons.mpr ⟨am_mo_183, List.forall_mem_cons.mpr ⟨am_mo_184, List.forall_mem_cons.mpr ⟨am_mo_185, List.forall_mem_cons.mpr ⟨am_mo_186, List.forall_mem_cons.mpr ⟨am_mo_187, List.forall_mem_cons.mpr ⟨am_mo_188, List.forall_mem_cons.mpr ⟨am_mo_189, List.forall_mem_cons.mpr ⟨am_mo_190, List.forall_mem_cons.mpr ⟨am_mo_191, List.forall_mem_cons.mpr ⟨am_mo_192, List.forall_mem_cons.mpr ⟨am_mo_193, List.forall_mem_cons.mpr ⟨am_mo_194, List.forall_mem_cons.mpr ⟨am_mo_195, List.forall_mem_cons.mpr ⟨am_mo_197, List.forall_mem_cons.mpr ⟨am_mo_198, List.forall_mem_cons.mpr ⟨am_mo_199, List.forall_mem_cons.mpr ⟨am_mo_200, List.forall_mem_cons.mpr ⟨am_mo_201, List.forall_mem_cons.mpr ⟨am_mo_202, List.forall_mem_cons.mpr ⟨am_mo_203, List.forall_mem_cons.mpr ⟨am_mo_204, List.forall_mem_cons.mpr ⟨am_mo_205, List.forall_mem_cons.mpr ⟨am_mo_211, List.forall_mem_cons.mpr ⟨am_mo_220, List.forall_mem_cons.mpr ⟨am_mo_222, List.forall_mem_cons.mpr ⟨am_mo_229, List.forall_mem_cons.mpr ⟨am_mo_244, List.forall_mem_cons.mpr ⟨am_mo_245, List.forall_mem_cons.mpr ⟨am_mo_246, List.forall_mem_cons.mpr ⟨am_mo_247, List.forall_mem_cons.mpr ⟨am_mo_248, List.forall_mem_cons.mpr ⟨am_mo_249, List.forall_mem_cons.mpr ⟨am_mo_253, List.forall_mem_cons.mpr ⟨am_mo_254, List.forall_mem_cons.mpr ⟨am_mo_255, List.forall_mem_cons.mpr ⟨am_mo_256, List.forall_mem_cons.mpr ⟨am_mo_257, List.forall_mem_cons.mpr ⟨am_mo_258, List.forall_mem_cons.mpr ⟨am_mo_259, List.forall_mem_cons.mpr ⟨am_mo_260, List.forall_mem_cons.mpr ⟨am_mo_261, List.forall_mem_cons.mpr ⟨am_mo_263, List.forall_mem_cons.mpr ⟨am_mo_265, List.forall_mem_cons.mpr ⟨am_mo_266, List.forall_mem_cons.mpr ⟨am_mo_267, List.forall_mem_cons.mpr ⟨am_mo_268, List.forall_mem_cons.mpr ⟨am_mo_271, List.forall_mem_cons.mpr ⟨am_mo_272, List.forall_mem_cons.mpr ⟨am_mo_279, List.forall_mem_cons.mpr ⟨am_mo_280, List.forall_mem_cons.mpr ⟨am_mo_281, List.forall_mem_cons.mpr ⟨am_mo_282, List.forall_mem_cons.mpr ⟨am_mo_283, List.forall_mem_cons.mpr ⟨am_mo_284, List.forall_mem_cons.mpr ⟨am_mo_304, List.forall_mem_cons.mpr ⟨am_mo_307, List.forall_mem_cons.mpr ⟨am_mo_308, List.forall_mem_cons.mpr ⟨am_mo_311, List.forall_mem_cons.mpr ⟨am_mo_314, List.forall_mem_cons.mpr ⟨am_mo_320, List.forall_mem_cons.mpr ⟨am_mo_321, List.forall_mem_cons.mpr ⟨am_mo_322, List.forall_mem_cons.mpr ⟨am_mo_328, List.forall_mem_cons.mpr ⟨am_mo_329, List.forall_mem_cons.mpr ⟨am_mo_330, List.forall_mem_cons.mpr ⟨am_mo_331, List.forall_mem_cons.mpr ⟨am_mo_332, List.forall_mem_cons.mpr ⟨am_mo_333, List.forall_mem_cons.mpr ⟨am_mo_335, List.forall_mem_cons.mpr ⟨am_mo_350, List.forall_mem_cons.mpr ⟨am_mo_351, List.forall_mem_cons.mpr ⟨am_mo_386, List.forall_mem_cons.mpr ⟨am_mo_387, List.forall_mem_cons.mpr ⟨am_mo_389, List.forall_mem_cons.mpr ⟨am_mo_390, List.forall_mem_cons.mpr ⟨am_mo_391, List.forall_mem_cons.mpr ⟨am_mo_392, List.forall_mem_cons.mpr ⟨am_mo_393, List.forall_mem_cons.mpr ⟨am_mo_394, List.forall_mem_cons.mpr ⟨am_mo_395, List.forall_mem_cons.mpr ⟨am_mo_455, List.forall_mem_cons.mpr ⟨am_mo_456, List.forall_mem_cons.mpr ⟨am_mo_457, List.forall_mem_cons.mpr ⟨am_mo_458, List.forall_mem_cons.mpr ⟨am_mo_459, List.forall_mem_cons.mpr ⟨am_mo_460, List.forall_mem_cons.mpr ⟨am_mo_463, List.forall_mem_cons.mpr ⟨am_mo_464, List.forall_mem_cons.mpr ⟨am_mo_465, List.forall_mem_cons.mpr ⟨am_mo_466, List.forall_mem_cons.mpr ⟨am_mo_467, List.forall_mem_cons.mpr ⟨am_mo_502, List.forall_mem_cons.mpr ⟨am_mo_503, List.forall_mem_cons.mpr ⟨am_mo_504, List.forall_mem_cons.mpr ⟨am_mo_505, List.forall_mem_cons.mpr ⟨am_mo_506, List.forall_mem_cons.mpr ⟨am_mo_507, List.forall_mem_cons.mpr ⟨am_mo_508, List.forall_mem_cons.mpr ⟨am_mo_509, List.forall_mem_cons.mpr ⟨am_mo_510, List.forall_mem_cons.mpr ⟨am_mo_511, List.forall_mem_cons.mpr ⟨am_mo_512, List.forall_mem_cons.mpr ⟨am_mo_513, List.forall_mem_cons.mpr ⟨am_mo_527, List.forall_mem_cons.mpr ⟨am_mo_528, List.forall_mem_cons.mpr ⟨am_mo_531, List.forall_mem_cons.mpr ⟨am_mo_532, List.forall_mem_cons.mpr ⟨am_mo_533, List.forall_mem_cons.mpr ⟨am_mo_536, fun _ h => absurd h List.not_mem_nil⟩⟩⟩⟩⟩⟩⟩⟩⟩⟩⟩⟩⟩⟩⟩⟩⟩⟩⟩⟩⟩⟩⟩⟩⟩⟩⟩⟩⟩⟩⟩⟩⟩⟩⟩⟩⟩⟩⟩⟩⟩⟩⟩⟩⟩⟩⟩⟩⟩⟩⟩⟩⟩⟩⟩⟩⟩⟩⟩⟩⟩⟩⟩⟩⟩⟩⟩⟩⟩⟩⟩⟩⟩⟩⟩⟩⟩⟩⟩⟩⟩⟩⟩⟩⟩⟩⟩⟩⟩⟩⟩⟩⟩⟩⟩⟩⟩⟩⟩⟩⟩⟩⟩⟩⟩⟩⟩⟩⟩⟩⟩⟩⟩⟩⟩⟩⟩⟩⟩⟩⟩⟩⟩⟩⟩⟩⟩⟩⟩⟩⟩⟩⟩⟩⟩⟩⟩⟩⟩⟩⟩⟩⟩⟩⟩⟩⟩⟩⟩⟩⟩⟩⟩⟩⟩⟩⟩⟩⟩⟩⟩⟩⟩
def fv_wo1 (z : Nat × Nat × Option FieldType × List (List Instr × Instr) × List (Nat × Nat × Nat)) : Prop := ∃ (q : am_M) (starts : List Nat), am_mds[z.1]? = some q ∧ am_mk q = 3 ∧ am_ckW (am_hh q) (z.1, z.2.2.2.1, starts, z.2.2.2.2) = true ∧ q.2.1 = z.2.1 ∧ q.2.2.1 = z.2.2.1
theorem fv_wo {y mx : Nat} {ty : Option FieldType} {k : List (List Instr × Instr)} {st : List Nat} {hd : List (Nat × Nat × Nat)} {q : am_M} (h0 : am_mds[y]? = some q) (hk : am_mk q = 3) (h1 : (match am_mds[y]? with | some q => am_ckW (am_hh q) (y, k, st, hd) | none => false) = true) (e1 : q.2.1 = mx) (e2 : q.2.2.1 = ty) : fv_wo1 (y, mx, ty, k, hd) := by
  rw [h0] at h1
  exact ⟨q, st, h0, hk, h1, e1, e2⟩
set_option maxRecDepth 20000 in
theorem fv_wo_468 : fv_wo1 (468, 15, some .int, am_k468, [(0, 0, 206)]) := fv_wo rfl (by decide) am_w468 rfl rfl
set_option maxRecDepth 20000 in
theorem fv_wo_469 : fv_wo1 (469, 5, some .int, am_k469, [(0, 1, 196), (0, 0, 324)]) := fv_wo rfl (by decide) am_w469 rfl rfl
set_option maxRecDepth 20000 in
theorem fv_wo_470 : fv_wo1 (470, 4, some .int, am_k470, [(0, 1, 195), (0, 0, 323)]) := fv_wo rfl (by decide) am_w470 rfl rfl
set_option maxRecDepth 20000 in
theorem fv_wo_471 : fv_wo1 (471, 5, some .int, am_k471, [(0, 2, 196)]) := fv_wo rfl (by decide) am_w471 rfl rfl
set_option maxRecDepth 20000 in
theorem fv_wo_472 : fv_wo1 (472, 5, some .int, am_k472, [(0, 1, 196), (0, 0, 324)]) := fv_wo rfl (by decide) am_w472 rfl rfl
set_option maxRecDepth 20000 in
theorem fv_wo_473 : fv_wo1 (473, 5, some .int, am_k473, [(0, 2, 196), (0, 1, 324)]) := fv_wo rfl (by decide) am_w473 rfl rfl
set_option maxRecDepth 20000 in
theorem fv_wo_474 : fv_wo1 (474, 5, some .int, am_k474, [(0, 2, 196), (0, 1, 324)]) := fv_wo rfl (by decide) am_w474 rfl rfl
set_option maxRecDepth 20000 in
theorem fv_wo_475 : fv_wo1 (475, 5, some .int, am_k475, [(0, 2, 196)]) := fv_wo rfl (by decide) am_w475 rfl rfl
set_option maxRecDepth 20000 in
theorem fv_wo_476 : fv_wo1 (476, 4, some .int, am_k476, [(0, 1, 195)]) := fv_wo rfl (by decide) am_w476 rfl rfl
set_option maxRecDepth 20000 in
theorem fv_wo_477 : fv_wo1 (477, 4, some .int, am_k477, [(0, 1, 195)]) := fv_wo rfl (by decide) am_w477 rfl rfl
set_option maxRecDepth 20000 in
theorem fv_wo_478 : fv_wo1 (478, 4, some .int, am_k478, [(0, 1, 195)]) := fv_wo rfl (by decide) am_w478 rfl rfl
set_option maxRecDepth 20000 in
theorem fv_wo_479 : fv_wo1 (479, 6, some .int, am_k479, [(0, 1, 197)]) := fv_wo rfl (by decide) am_w479 rfl rfl
set_option maxRecDepth 20000 in
theorem fv_wo_480 : fv_wo1 (480, 5, some .int, am_k480, [(0, 2, 196), (0, 1, 324)]) := fv_wo rfl (by decide) am_w480 rfl rfl
set_option maxRecDepth 20000 in
theorem fv_wo_481 : fv_wo1 (481, 5, some .int, am_k481, [(0, 2, 196)]) := fv_wo rfl (by decide) am_w481 rfl rfl
set_option maxRecDepth 20000 in
theorem fv_wo_482 : fv_wo1 (482, 4, some .int, am_k482, [(0, 1, 195), (0, 0, 323)]) := fv_wo rfl (by decide) am_w482 rfl rfl
set_option maxRecDepth 20000 in
theorem fv_wo_483 : fv_wo1 (483, 4, some .int, am_k483, [(0, 1, 195), (0, 0, 323)]) := fv_wo rfl (by decide) am_w483 rfl rfl
set_option maxRecDepth 20000 in
theorem fv_wo_484 : fv_wo1 (484, 5, some .int, am_k484, [(0, 1, 196), (0, 0, 324)]) := fv_wo rfl (by decide) am_w484 rfl rfl
set_option maxRecDepth 20000 in
theorem fv_wo_485 : fv_wo1 (485, 6, some .int, am_k485, [(0, 2, 197), (0, 1, 325), (0, 0, 453)]) := fv_wo rfl (by decide) am_w485 rfl rfl
set_option maxRecDepth 20000 in
theorem fv_wo_486 : fv_wo1 (486, 4, some .int, am_k486, [(0, 2, 387)]) := fv_wo rfl (by decide) am_w486 rfl rfl
set_option maxRecDepth 20000 in
theorem fv_wo_487 : fv_wo1 (487, 4, some .int, am_k487, [(0, 2, 195), (0, 0, 323)]) := fv_wo rfl (by decide) am_w487 rfl rfl
set_option maxRecDepth 20000 in
theorem fv_wo_488 : fv_wo1 (488, 4, some .int, am_k488, [(0, 2, 195), (0, 1, 323), (0, 0, 451)]) := fv_wo rfl (by decide) am_w488 rfl rfl
set_option maxRecDepth 20000 in
theorem fv_wo_489 : fv_wo1 (489, 3, some .int, am_k489, [(0, 2, 194), (0, 0, 322)]) := fv_wo rfl (by decide) am_w489 rfl rfl
set_option maxRecDepth 20000 in
theorem fv_wo_490 : fv_wo1 (490, 4, some .int, am_k490, [(0, 2, 195)]) := fv_wo rfl (by decide) am_w490 rfl rfl
set_option maxRecDepth 20000 in
theorem fv_wo_491 : fv_wo1 (491, 6, some .int, am_k491, [(0, 2, 197), (0, 1, 325), (0, 0, 453)]) := fv_wo rfl (by decide) am_w491 rfl rfl
set_option maxRecDepth 20000 in
theorem fv_wo_492 : fv_wo1 (492, 4, some .int, am_k492, [(0, 2, 195), (0, 0, 323)]) := fv_wo rfl (by decide) am_w492 rfl rfl
set_option maxRecDepth 20000 in
theorem fv_wo_493 : fv_wo1 (493, 5, some .int, am_k493, [(0, 2, 196), (0, 1, 324), (0, 0, 452)]) := fv_wo rfl (by decide) am_w493 rfl rfl
set_option maxRecDepth 20000 in
theorem fv_wo_494 : fv_wo1 (494, 5, some .int, am_k494, [(0, 2, 196)]) := fv_wo rfl (by decide) am_w494 rfl rfl
set_option maxRecDepth 20000 in
theorem fv_wo_495 : fv_wo1 (495, 5, some .int, am_k495, [(0, 2, 196), (0, 0, 324)]) := fv_wo rfl (by decide) am_w495 rfl rfl
set_option maxRecDepth 20000 in
theorem fv_wo_496 : fv_wo1 (496, 5, some .int, am_k496, [(0, 2, 196), (0, 1, 324)]) := fv_wo rfl (by decide) am_w496 rfl rfl
set_option maxRecDepth 20000 in
theorem fv_wo_497 : fv_wo1 (497, 5, some .int, am_k497, [(0, 2, 196), (0, 1, 324)]) := fv_wo rfl (by decide) am_w497 rfl rfl
set_option maxRecDepth 20000 in
theorem fv_wo_498 : fv_wo1 (498, 6, some .int, am_k498, [(0, 2, 197)]) := fv_wo rfl (by decide) am_w498 rfl rfl
set_option maxRecDepth 20000 in
theorem fv_wo_499 : fv_wo1 (499, 5, some .int, am_k499, [(0, 2, 196), (0, 1, 324)]) := fv_wo rfl (by decide) am_w499 rfl rfl
set_option maxRecDepth 20000 in
theorem fv_wo_500 : fv_wo1 (500, 5, some .int, am_k500, [(0, 2, 196)]) := fv_wo rfl (by decide) am_w500 rfl rfl
set_option maxRecDepth 20000 in
theorem fv_wo_501 : fv_wo1 (501, 4, some .int, am_k501, [(0, 1, 195)]) := fv_wo rfl (by decide) am_w501 rfl rfl
set_option maxRecDepth 100000 in
theorem fv_wok_all : fv_wok am_ws := List.forall_mem_cons.mpr ⟨fv_wo_468, List.forall_mem_cons.mpr ⟨fv_wo_469, List.forall_mem_cons.mpr ⟨fv_wo_470, List.forall_mem_cons.mpr ⟨fv_wo_471, List.forall_mem_cons.mpr ⟨fv_wo_472, List.forall_mem_cons.mpr ⟨fv_wo_473, List.forall_mem_cons.mpr ⟨fv_wo_474, List.forall_mem_cons.mpr ⟨fv_wo_475, List.forall_mem_cons.mpr ⟨fv_wo_476, List.forall_mem_cons.mpr ⟨fv_wo_477, List.forall_mem_cons.mpr ⟨fv_wo_478, List.forall_mem_cons.mpr ⟨fv_wo_479, List.forall_mem_cons.mpr ⟨fv_wo_480, List.forall_mem_cons.mpr ⟨fv_wo_481, List.forall_mem_cons.mpr ⟨fv_wo_482, List.forall_mem_cons.mpr ⟨fv_wo_483, List.forall_mem_cons.mpr ⟨fv_wo_484, List.forall_mem_cons.mpr ⟨fv_wo_485, List.forall_mem_cons.mpr ⟨fv_wo_486, List.forall_mem_cons.mpr ⟨fv_wo_487, List.forall_mem_cons.mpr ⟨fv_wo_488, List.forall_mem_cons.mpr ⟨fv_wo_489, List.forall_mem_cons.mpr ⟨fv_wo_490, List.forall_mem_cons.mpr ⟨fv_wo_491, List.forall_mem_cons.mpr ⟨fv_wo_492, List.forall_mem_cons.mpr ⟨fv_wo_493, List.forall_mem_cons.mpr ⟨fv_wo_494, List.forall_mem_cons.mpr ⟨fv_wo_495, List.forall_mem_cons.mpr ⟨fv_wo_496, List.forall_mem_cons.mpr ⟨fv_wo_497, List.forall_mem_cons.mpr ⟨fv_wo_498, List.forall_mem_cons.mpr ⟨fv_wo_499, List.forall_mem_cons.mpr ⟨fv_wo_500, List.forall_mem_cons.mpr ⟨fv_wo_501, fun _ h => absurd h List.not_mem_nil⟩⟩⟩⟩⟩⟩⟩⟩⟩⟩⟩⟩⟩⟩⟩⟩⟩⟩⟩⟩⟩⟩⟩⟩⟩⟩⟩⟩⟩⟩⟩⟩⟩⟩
