theorem sq481_17 : sq 481 17 B481_17 := sq_take 2 (e := 19) (by decide +kernel) True.intro
theorem sq481_2 : sq 481 2 B481_2 := sq_take 8 (e := 17) (by decide +kernel) True.intro
theorem sq481_0 : sq 481 0 B481_0 := sq_take 3 (e := 2) (by decide +kernel) sq481_2
set_option maxRecDepth 100000 in
theorem sqM_481 : ∀ b, sq 481 b (tG 481 b) := show ∀ b, sq 481 b (lkB tb481 b) from lkB_sq (List.forall_mem_cons.mpr ⟨sq481_0, List.forall_mem_cons.mpr ⟨sq481_2, List.forall_mem_cons.mpr ⟨sq481_17, (fun _ h => absurd h List.not_mem_nil)⟩⟩⟩)
theorem sq482_296 : sq 482 296 B482_296 := sq_take 1 (e := 297) (by decide +kernel) True.intro
theorem sq482_293 : sq 482 293 B482_293 := sq_take 2 (e := 296) (by decide +kernel) True.intro
theorem sq482_278 : sq 482 278 B482_278 := sq_take 8 (e := 293) (by decide +kernel) sq482_293
theorem sq482_275 : sq 482 275 B482_275 := sq_take 2 (e := 278) (by decide +kernel) True.intro
theorem sq482_236 : sq 482 236 B482_236 := sq_take 22 (e := 275) (by decide +kernel) sq482_275
theorem sq482_208 : sq 482 208 B482_208 := sq_take 17 (e := 236) (by decide +kernel) sq482_236
theorem sq482_207 : sq 482 207 B482_207 := sq_take 1 (e := 208) (by decide +kernel) sq482_208
theorem sq482_196 : sq 482 196 B482_196 := sq_take 6 (e := 207) (by decide +kernel) True.intro
theorem sq482_178 : sq 482 178 B482_178 := sq_take 9 (e := 196) (by decide +kernel) sq482_196
theorem sq482_160 : sq 482 160 B482_160 := sq_take 11 (e := 178) (by decide +kernel) sq482_178
theorem sq482_159 : sq 482 159 B482_159 := sq_take 2 (e := 160) (by decide +kernel) sq482_160
theorem sq482_152 : sq 482 152 B482_152 := sq_take 4 (e := 159) (by decide +kernel) True.intro
theorem sq482_121 : sq 482 121 B482_121 := sq_take 16 (e := 152) (by decide +kernel) sq482_152
theorem sq482_103 : sq 482 103 B482_103 := sq_take 15 (e := 121) (by decide +kernel) sq482_121
theorem sq482_88 : sq 482 88 B482_88 := sq_take 10 (e := 103) (by decide +kernel) sq482_103
theorem sq482_73 : sq 482 73 B482_73 := sq_take 10 (e := 88) (by decide +kernel) sq482_88
theorem sq482_52 : sq 482 52 B482_52 := sq_take 16 (e := 73) (by decide +kernel) sq482_73
theorem sq482_33 : sq 482 33 B482_33 := sq_take 14 (e := 52) (by decide +kernel) sq482_52
theorem sq482_27 : sq 482 27 B482_27 := sq_take 5 (e := 33) (by decide +kernel) sq482_33
theorem sq482_19 : sq 482 19 B482_19 := sq_take 7 (e := 27) (by decide +kernel) sq482_27
theorem sq482_0 : sq 482 0 B482_0 := sq_take 14 (e := 19) (by decide +kernel) sq482_19
set_option maxRecDepth 100000 in
theorem sqM_482 : ∀ b, sq 482 b (tG 482 b) := show ∀ b, sq 482 b (lkB tb482 b) from lkB_sq (List.forall_mem_cons.mpr ⟨sq482_0, List.forall_mem_cons.mpr ⟨sq482_19, List.forall_mem_cons.mpr ⟨sq482_27, List.forall_mem_cons.mpr ⟨sq482_33, List.forall_mem_cons.mpr ⟨sq482_52, List.forall_mem_cons.mpr ⟨sq482_73, List.forall_mem_cons.mpr ⟨sq482_88, List.forall_mem_cons.mpr ⟨sq482_103, List.forall_mem_cons.mpr ⟨sq482_121, List.forall_mem_cons.mpr ⟨sq482_152, List.forall_mem_cons.mpr ⟨sq482_159, List.forall_mem_cons.mpr ⟨sq482_160, List.forall_mem_cons.mpr ⟨sq482_178, List.forall_mem_cons.mpr ⟨sq482_196, List.forall_mem_cons.mpr ⟨sq482_207, List.forall_mem_cons.mpr ⟨sq482_208, List.forall_mem_cons.mpr ⟨sq482_236, List.forall_mem_cons.mpr ⟨sq482_275, List.forall_mem_cons.mpr ⟨sq482_278, List.forall_mem_cons.mpr ⟨sq482_293, List.forall_mem_cons.mpr ⟨sq482_296, (fun _ h => absurd h List.not_mem_nil)⟩⟩⟩⟩⟩⟩⟩⟩⟩⟩⟩⟩⟩⟩⟩⟩⟩⟩⟩⟩⟩)
theorem sq483_194 : sq 483 194 B483_194 := sq_take 3 (e := 196) (by decide +kernel) True.intro
theorem sq483_169 : sq 483 169 B483_169 := sq_take 16 (e := 194) (by decide +kernel) sq483_194
theorem sq483_141 : sq 483 141 B483_141 := sq_take 17 (e := 169) (by decide +kernel) sq483_169
theorem sq483_102 : sq 483 102 B483_102 := sq_take 22 (e := 141) (by decide +kernel) sq483_141
theorem sq483_91 : sq 483 91 B483_91 := sq_take 7 (e := 102) (by decide +kernel) sq483_102
theorem sq483_89 : sq 483 89 B483_89 := sq_take 3 (e := 91) (by decide +kernel) True.intro
theorem sq483_73 : sq 483 73 B483_73 := sq_take 7 (e := 89) (by decide +kernel) sq483_89
theorem sq483_67 : sq 483 67 B483_67 := sq_take 3 (e := 73) (by decide +kernel) True.intro
theorem sq483_65 : sq 483 65 B483_65 := sq_take 3 (e := 67) (by decide +kernel) True.intro
theorem sq483_50 : sq 483 50 B483_50 := sq_take 9 (e := 65) (by decide +kernel) sq483_65
theorem sq483_48 : sq 483 48 B483_48 := sq_take 3 (e := 50) (by decide +kernel) True.intro
theorem sq483_30 : sq 483 30 B483_30 := sq_take 10 (e := 48) (by decide +kernel) sq483_48
theorem sq483_2 : sq 483 2 B483_2 := sq_take 17 (e := 30) (by decide +kernel) sq483_30
theorem sq483_0 : sq 483 0 B483_0 := sq_take 3 (e := 2) (by decide +kernel) sq483_2
set_option maxRecDepth 100000 in
theorem sqM_483 : ∀ b, sq 483 b (tG 483 b) := show ∀ b, sq 483 b (lkB tb483 b) from lkB_sq (List.forall_mem_cons.mpr ⟨sq483_0, List.forall_mem_cons.mpr ⟨sq483_2, List.forall_mem_cons.mpr ⟨sq483_30, List.forall_mem_cons.mpr ⟨sq483_48, List.forall_mem_cons.mpr ⟨sq483_50, List.forall_mem_cons.mpr ⟨sq483_65, List.forall_mem_cons.mpr ⟨sq483_67, List.forall_mem_cons.mpr ⟨sq483_73, List.forall_mem_cons.mpr ⟨sq483_89, List.forall_mem_cons.mpr ⟨sq483_91, List.forall_mem_cons.mpr ⟨sq483_102, List.forall_mem_cons.mpr ⟨sq483_141, List.forall_mem_cons.mpr ⟨sq483_169, List.forall_mem_cons.mpr ⟨sq483_194, (fun _ h => absurd h List.not_mem_nil)⟩⟩⟩⟩⟩⟩⟩⟩⟩⟩⟩⟩⟩⟩)
theorem sq484_124 : sq 484 124 B484_124 := sq_take 1 (e := 125) (by decide +kernel) True.intro
theorem sq484_108 : sq 484 108 B484_108 := sq_take 13 (e := 124) (by decide +kernel) True.intro
theorem sq484_102 : sq 484 102 B484_102 := sq_take 4 (e := 108) (by decide +kernel) sq484_108
theorem sq484_41 : sq 484 41 B484_41 := sq_take 37 (e := 102) (by decide +kernel) True.intro
theorem sq484_30 : sq 484 30 B484_30 := sq_take 10 (e := 41) (by decide +kernel) sq484_41
theorem sq484_24 : sq 484 24 B484_24 := sq_take 4 (e := 30) (by decide +kernel) sq484_30
theorem sq484_0 : sq 484 0 B484_0 := sq_take 15 (e := 24) (by decide +kernel) True.intro
set_option maxRecDepth 100000 in
theorem sqM_484 : ∀ b, sq 484 b (tG 484 b) := show ∀ b, sq 484 b (lkB tb484 b) from lkB_sq (List.forall_mem_cons.mpr ⟨sq484_0, List.forall_mem_cons.mpr ⟨sq484_24, List.forall_mem_cons.mpr ⟨sq484_30, List.forall_mem_cons.mpr ⟨sq484_41, List.forall_mem_cons.mpr ⟨sq484_102, List.forall_mem_cons.mpr ⟨sq484_108, List.forall_mem_cons.mpr ⟨sq484_124, (fun _ h => absurd h List.not_mem_nil)⟩⟩⟩⟩⟩⟩⟩)
theorem sq485_111 : sq 485 111 B485_111 := sq_take 3 (e := 113) (by decide +kernel) True.intro
theorem sq485_81 : sq 485 81 B485_81 := sq_take 18 (e := 111) (by decide +kernel) sq485_111
theorem sq485_75 : sq 485 75 B485_75 := sq_take 2 (e := 81) (by decide +kernel) True.intro
theorem sq485_74 : sq 485 74 B485_74 := sq_take 1 (e := 75) (by decide +kernel) True.intro
theorem sq485_73 : sq 485 73 B485_73 := sq_take 2 (e := 74) (by decide +kernel) sq485_74
theorem sq485_49 : sq 485 49 B485_49 := sq_take 15 (e := 73) (by decide +kernel) True.intro
theorem sq485_21 : sq 485 21 B485_21 := sq_take 17 (e := 49) (by decide +kernel) sq485_49
theorem sq485_19 : sq 485 19 B485_19 := sq_take 2 (e := 21) (by decide +kernel) sq485_21
theorem sq485_18 : sq 485 18 B485_18 := sq_take 1 (e := 19) (by decide +kernel) True.intro
theorem sq485_17 : sq 485 17 B485_17 := sq_take 1 (e := 18) (by decide +kernel) sq485_18
theorem sq485_8 : sq 485 8 B485_8 := sq_take 6 (e := 17) (by decide +kernel) True.intro
theorem sq485_0 : sq 485 0 B485_0 := sq_take 5 (e := 8) (by decide +kernel) sq485_8
set_option maxRecDepth 100000 in
theorem sqM_485 : ∀ b, sq 485 b (tG 485 b) := show ∀ b, sq 485 b (lkB tb485 b) from lkB_sq (List.forall_mem_cons.mpr ⟨sq485_0, List.forall_mem_cons.mpr ⟨sq485_8, List.forall_mem_cons.mpr ⟨sq485_17, List.forall_mem_cons.mpr ⟨sq485_18, List.forall_mem_cons.mpr ⟨sq485_19, List.forall_mem_cons.mpr ⟨sq485_21, List.forall_mem_cons.mpr ⟨sq485_49, List.forall_mem_cons.mpr ⟨sq485_73, List.forall_mem_cons.mpr ⟨sq485_74, List.forall_mem_cons.mpr ⟨sq485_75, List.forall_mem_cons.mpr ⟨sq485_81, List.forall_mem_cons.mpr ⟨sq485_111, (fun _ h => absurd h List.not_mem_nil)⟩⟩⟩⟩⟩⟩⟩⟩⟩⟩⟩⟩)
theorem sq486_206 : sq 486 206 B486_206 := sq_take 2 (e := 208) (by decide +kernel) True.intro
theorem sq486_200 : sq 486 200 B486_200 := sq_take 2 (e := 206) (by decide +kernel) True.intro
theorem sq486_194 : sq 486 194 B486_194 := sq_take 3 (e := 200) (by decide +kernel) True.intro
theorem sq486_192 : sq 486 192 B486_192 := sq_take 2 (e := 194) (by decide +kernel) True.intro
theorem sq486_189 : sq 486 189 B486_189 := sq_take 2 (e := 192) (by decide +kernel) sq486_192
theorem sq486_181 : sq 486 181 B486_181 := sq_take 4 (e := 189) (by decide +kernel) sq486_189
theorem sq486_175 : sq 486 175 B486_175 := sq_take 3 (e := 181) (by decide +kernel) True.intro
theorem sq486_134 : sq 486 134 B486_134 := sq_take 27 (e := 175) (by decide +kernel) sq486_175
theorem sq486_122 : sq 486 122 B486_122 := sq_take 9 (e := 134) (by decide +kernel) sq486_134
theorem sq486_120 : sq 486 120 B486_120 := sq_take 2 (e := 122) (by decide +kernel) sq486_122
theorem sq486_114 : sq 486 114 B486_114 := sq_take 2 (e := 120) (by decide +kernel) True.intro
theorem sq486_109 : sq 486 109 B486_109 := sq_take 4 (e := 114) (by decide +kernel) True.intro
theorem sq486_78 : sq 486 78 B486_78 := sq_take 21 (e := 109) (by decide +kernel) sq486_109
theorem sq486_71 : sq 486 71 B486_71 := sq_take 5 (e := 78) (by decide +kernel) sq486_78
theorem sq486_65 : sq 486 65 B486_65 := sq_take 2 (e := 71) (by decide +kernel) True.intro
theorem sq486_34 : sq 486 34 B486_34 := sq_take 22 (e := 65) (by decide +kernel) True.intro
theorem sq486_32 : sq 486 32 B486_32 := sq_take 2 (e := 34) (by decide +kernel) sq486_34
theorem sq486_30 : sq 486 30 B486_30 := sq_take 2 (e := 32) (by decide +kernel) True.intro
theorem sq486_0 : sq 486 0 B486_0 := sq_take 19 (e := 30) (by decide +kernel) sq486_30
set_option maxRecDepth 100000 in
theorem sqM_486 : ∀ b, sq 486 b (tG 486 b) := show ∀ b, sq 486 b (lkB tb486 b) from lkB_sq (List.forall_mem_cons.mpr ⟨sq486_0, List.forall_mem_cons.mpr ⟨sq486_30, List.forall_mem_cons.mpr ⟨sq486_32, List.forall_mem_cons.mpr ⟨sq486_34, List.forall_mem_cons.mpr ⟨sq486_65, List.forall_mem_cons.mpr ⟨sq486_71, List.forall_mem_cons.mpr ⟨sq486_78, List.forall_mem_cons.mpr ⟨sq486_109, List.forall_mem_cons.mpr ⟨sq486_114, List.forall_mem_cons.mpr ⟨sq486_120, List.forall_mem_cons.mpr ⟨sq486_122, List.forall_mem_cons.mpr ⟨sq486_134, List.forall_mem_cons.mpr ⟨sq486_175, List.forall_mem_cons.mpr ⟨sq486_181, List.forall_mem_cons.mpr ⟨sq486_189, List.forall_mem_cons.mpr ⟨sq486_192, List.forall_mem_cons.mpr ⟨sq486_194, List.forall_mem_cons.mpr ⟨sq486_200, List.forall_mem_cons.mpr ⟨sq486_206, (fun _ h => absurd h List.not_mem_nil)⟩⟩⟩⟩⟩⟩⟩⟩⟩⟩⟩⟩⟩⟩⟩⟩⟩⟩⟩)
theorem sq487_87 : sq 487 87 B487_87 := sq_take 1 (e := 88) (by decide +kernel) True.intro
theorem sq487_86 : sq 487 86 B487_86 := sq_take 2 (e := 87) (by decide +kernel) sq487_87
theorem sq487_82 : sq 487 82 B487_82 := sq_take 3 (e := 86) (by decide +kernel) True.intro
theorem sq487_72 : sq 487 72 B487_72 := sq_take 6 (e := 82) (by decide +kernel) sq487_82
theorem sq487_33 : sq 487 33 B487_33 := sq_take 23 (e := 72) (by decide +kernel) True.intro
theorem sq487_32 : sq 487 32 B487_32 := sq_take 1 (e := 33) (by decide +kernel) True.intro
theorem sq487_31 : sq 487 31 B487_31 := sq_take 2 (e := 32) (by decide +kernel) sq487_32
theorem sq487_24 : sq 487 24 B487_24 := sq_take 4 (e := 31) (by decide +kernel) True.intro
theorem sq487_0 : sq 487 0 B487_0 := sq_take 15 (e := 24) (by decide +kernel) sq487_24
set_option maxRecDepth 100000 in
theorem sqM_487 : ∀ b, sq 487 b (tG 487 b) := show ∀ b, sq 487 b (lkB tb487 b) from lkB_sq (List.forall_mem_cons.mpr ⟨sq487_0, List.forall_mem_cons.mpr ⟨sq487_24, List.forall_mem_cons.mpr ⟨sq487_31, List.forall_mem_cons.mpr ⟨sq487_32, List.forall_mem_cons.mpr ⟨sq487_33, List.forall_mem_cons.mpr ⟨sq487_72, List.forall_mem_cons.mpr ⟨sq487_82, List.forall_mem_cons.mpr ⟨sq487_86, List.forall_mem_cons.mpr ⟨sq487_87, (fun _ h => absurd h List.not_mem_nil)⟩⟩⟩⟩⟩⟩⟩⟩⟩)
theorem sq488_134 : sq 488 134 B488_134 := sq_take 1 (e := 135) (by decide +kernel) True.intro
theorem sq488_133 : sq 488 133 B488_133 := sq_take 2 (e := 134) (by decide +kernel) sq488_134
theorem sq488_73 : sq 488 73 B488_73 := sq_take 39 (e := 133) (by decide +kernel) True.intro
theorem sq488_72 : sq 488 72 B488_72 := sq_take 2 (e := 73) (by decide +kernel) sq488_73
theorem sq488_33 : sq 488 33 B488_33 := sq_take 24 (e := 72) (by decide +kernel) True.intro
theorem sq488_15 : sq 488 15 B488_15 := sq_take 11 (e := 33) (by decide +kernel) sq488_33
theorem sq488_0 : sq 488 0 B488_0 := sq_take 10 (e := 15) (by decide +kernel) sq488_15
set_option maxRecDepth 100000 in
theorem sqM_488 : ∀ b, sq 488 b (tG 488 b) := show ∀ b, sq 488 b (lkB tb488 b) from lkB_sq (List.forall_mem_cons.mpr ⟨sq488_0, List.forall_mem_cons.mpr ⟨sq488_15, List.forall_mem_cons.mpr ⟨sq488_33, List.forall_mem_cons.mpr ⟨sq488_72, List.forall_mem_cons.mpr ⟨sq488_73, List.forall_mem_cons.mpr ⟨sq488_133, List.forall_mem_cons.mpr ⟨sq488_134, (fun _ h => absurd h List.not_mem_nil)⟩⟩⟩⟩⟩⟩⟩)
theorem sq489_133 : sq 489 133 B489_133 := sq_take 1 (e := 134) (by decide +kernel) True.intro
theorem sq489_132 : sq 489 132 B489_132 := sq_take 2 (e := 133) (by decide +kernel) sq489_133
theorem sq489_125 : sq 489 125 B489_125 := sq_take 4 (e := 132) (by decide +kernel) True.intro
theorem sq489_106 : sq 489 106 B489_106 := sq_take 12 (e := 125) (by decide +kernel) sq489_125
theorem sq489_95 : sq 489 95 B489_95 := sq_take 8 (e := 106) (by decide +kernel) sq489_106
theorem sq489_94 : sq 489 94 B489_94 := sq_take 2 (e := 95) (by decide +kernel) sq489_95
theorem sq489_45 : sq 489 45 B489_45 := sq_take 29 (e := 94) (by decide +kernel) True.intro
theorem sq489_44 : sq 489 44 B489_44 := sq_take 2 (e := 45) (by decide +kernel) True.intro
theorem sq489_28 : sq 489 28 B489_28 := sq_take 10 (e := 44) (by decide +kernel) sq489_44
theorem sq489_11 : sq 489 11 B489_11 := sq_take 11 (e := 28) (by decide +kernel) True.intro
theorem sq489_0 : sq 489 0 B489_0 := sq_take 8 (e := 11) (by decide +kernel) True.intro
set_option maxRecDepth 100000 in
theorem sqM_489 : ∀ b, sq 489 b (tG 489 b) := show ∀ b, sq 489 b (lkB tb489 b) from lkB_sq (List.forall_mem_cons.mpr ⟨sq489_0, List.forall_mem_cons.mpr ⟨sq489_11, List.forall_mem_cons.mpr ⟨sq489_28, List.forall_mem_cons.mpr ⟨sq489_44, List.forall_mem_cons.mpr ⟨sq489_45, List.forall_mem_cons.mpr ⟨sq489_94, List.forall_mem_cons.mpr ⟨sq489_95, List.forall_mem_cons.mpr ⟨sq489_106, List.forall_mem_cons.mpr ⟨sq489_125, List.forall_mem_cons.mpr ⟨sq489_132, List.forall_mem_cons.mpr ⟨sq489_133, (fun _ h => absurd h List.not_mem_nil)⟩⟩⟩⟩⟩⟩⟩⟩⟩⟩⟩)
theorem sq490_322 : sq 490 322 B490_322 := sq_take 1 (e := 323) (by decide +kernel) True.intro
theorem sq490_284 : sq 490 284 B490_284 := sq_take 23 (e := 322) (by decide +kernel) True.intro
theorem sq490_243 : sq 490 243 B490_243 := sq_take 28 (e := 284) (by decide +kernel) sq490_284
theorem sq490_242 : sq 490 242 B490_242 := sq_take 1 (e := 243) (by decide +kernel) sq490_243
theorem sq490_218 : sq 490 218 B490_218 := sq_take 14 (e := 242) (by decide +kernel) True.intro
theorem sq490_217 : sq 490 217 B490_217 := sq_take 1 (e := 218) (by decide +kernel) sq490_218
theorem sq490_193 : sq 490 193 B490_193 := sq_take 14 (e := 217) (by decide +kernel) True.intro
theorem sq490_192 : sq 490 192 B490_192 := sq_take 1 (e := 193) (by decide +kernel) sq490_193
theorem sq490_168 : sq 490 168 B490_168 := sq_take 14 (e := 192) (by decide +kernel) True.intro
theorem sq490_167 : sq 490 167 B490_167 := sq_take 1 (e := 168) (by decide +kernel) sq490_168
theorem sq490_143 : sq 490 143 B490_143 := sq_take 14 (e := 167) (by decide +kernel) True.intro
theorem sq490_142 : sq 490 142 B490_142 := sq_take 1 (e := 143) (by decide +kernel) sq490_143
theorem sq490_118 : sq 490 118 B490_118 := sq_take 14 (e := 142) (by decide +kernel) True.intro
theorem sq490_117 : sq 490 117 B490_117 := sq_take 1 (e := 118) (by decide +kernel) sq490_118
theorem sq490_94 : sq 490 94 B490_94 := sq_take 12 (e := 117) (by decide +kernel) True.intro
theorem sq490_93 : sq 490 93 B490_93 := sq_take 1 (e := 94) (by decide +kernel) sq490_94
theorem sq490_89 : sq 490 89 B490_89 := sq_take 3 (e := 93) (by decide +kernel) True.intro
theorem sq490_21 : sq 490 21 B490_21 := sq_take 40 (e := 89) (by decide +kernel) sq490_89
theorem sq490_0 : sq 490 0 B490_0 := sq_take 17 (e := 21) (by decide +kernel) sq490_21
set_option maxRecDepth 100000 in
theorem sqM_490 : ∀ b, sq 490 b (tG 490 b) := show ∀ b, sq 490 b (lkB tb490 b) from lkB_sq (List.forall_mem_cons.mpr ⟨sq490_0, List.forall_mem_cons.mpr ⟨sq490_21, List.forall_mem_cons.mpr ⟨sq490_89, List.forall_mem_cons.mpr ⟨sq490_93, List.forall_mem_cons.mpr ⟨sq490_94, List.forall_mem_cons.mpr ⟨sq490_117, List.forall_mem_cons.mpr ⟨sq490_118, List.forall_mem_cons.mpr ⟨sq490_142, List.forall_mem_cons.mpr ⟨sq490_143, List.forall_mem_cons.mpr ⟨sq490_167, List.forall_mem_cons.mpr ⟨sq490_168, List.forall_mem_cons.mpr ⟨sq490_192, List.forall_mem_cons.mpr ⟨sq490_193, List.forall_mem_cons.mpr ⟨sq490_217, List.forall_mem_cons.mpr ⟨sq490_218, List.forall_mem_cons.mpr ⟨sq490_242, List.forall_mem_cons.mpr ⟨sq490_243, List.forall_mem_cons.mpr ⟨sq490_284, List.forall_mem_cons.mpr ⟨sq490_322, (fun _ h => absurd h List.not_mem_nil)⟩⟩⟩⟩⟩⟩⟩⟩⟩⟩⟩⟩⟩⟩⟩⟩⟩⟩⟩)
theorem sq491_109 : sq 491 109 B491_109 := sq_take 1 (e := 110) (by decide +kernel) True.intro
theorem sq491_96 : sq 491 96 B491_96 := sq_take 9 (e := 109) (by decide +kernel) sq491_109
theorem sq491_69 : sq 491 69 B491_69 := sq_take 18 (e := 96) (by decide +kernel) True.intro
theorem sq491_44 : sq 491 44 B491_44 := sq_take 16 (e := 69) (by decide +kernel) True.intro
theorem sq491_40 : sq 491 40 B491_40 := sq_take 2 (e := 44) (by decide +kernel) True.intro
theorem sq491_0 : sq 491 0 B491_0 := sq_take 21 (e := 40) (by decide +kernel) sq491_40
set_option maxRecDepth 100000 in
theorem sqM_491 : ∀ b, sq 491 b (tG 491 b) := show ∀ b, sq 491 b (lkB tb491 b) from lkB_sq (List.forall_mem_cons.mpr ⟨sq491_0, List.forall_mem_cons.mpr ⟨sq491_40, List.forall_mem_cons.mpr ⟨sq491_44, List.forall_mem_cons.mpr ⟨sq491_69, List.forall_mem_cons.mpr ⟨sq491_96, List.forall_mem_cons.mpr ⟨sq491_109, (fun _ h => absurd h List.not_mem_nil)⟩⟩⟩⟩⟩⟩)
theorem sq492_27 : sq 492 27 B492_27 := sq_take 11 (e := 41) (by decide +kernel) True.intro
theorem sq492_23 : sq 492 23 B492_23 := sq_take 3 (e := 27) (by decide +kernel) True.intro
theorem sq492_0 : sq 492 0 B492_0 := sq_take 15 (e := 23) (by decide +kernel) sq492_23
set_option maxRecDepth 100000 in
theorem sqM_492 : ∀ b, sq 492 b (tG 492 b) := show ∀ b, sq 492 b (lkB tb492 b) from lkB_sq (List.forall_mem_cons.mpr ⟨sq492_0, List.forall_mem_cons.mpr ⟨sq492_23, List.forall_mem_cons.mpr ⟨sq492_27, (fun _ h => absurd h List.not_mem_nil)⟩⟩⟩)
theorem sq493_27 : sq 493 27 B493_27 := sq_take 1 (e := 28) (by decide +kernel) True.intro
theorem sq493_26 : sq 493 26 B493_26 := sq_take 1 (e := 27) (by decide +kernel) sq493_27
theorem sq493_22 : sq 493 22 B493_22 := sq_take 3 (e := 26) (by decide +kernel) True.intro
theorem sq493_0 : sq 493 0 B493_0 := sq_take 13 (e := 22) (by decide +kernel) sq493_22
set_option maxRecDepth 100000 in
theorem sqM_493 : ∀ b, sq 493 b (tG 493 b) := show ∀ b, sq 493 b (lkB tb493 b) from lkB_sq (List.forall_mem_cons.mpr ⟨sq493_0, List.forall_mem_cons.mpr ⟨sq493_22, List.forall_mem_cons.mpr ⟨sq493_26, List.forall_mem_cons.mpr ⟨sq493_27, (fun _ h => absurd h List.not_mem_nil)⟩⟩⟩⟩)
theorem sq494_14 : sq 494 14 B494_14 := sq_take 2 (e := 15) (by decide +kernel) True.intro
theorem sq494_0 : sq 494 0 B494_0 := sq_take 9 (e := 14) (by decide +kernel) sq494_14
set_option maxRecDepth 100000 in
theorem sqM_494 : ∀ b, sq 494 b (tG 494 b) := show ∀ b, sq 494 b (lkB tb494 b) from lkB_sq (List.forall_mem_cons.mpr ⟨sq494_0, List.forall_mem_cons.mpr ⟨sq494_14, (fun _ h => absurd h List.not_mem_nil)⟩⟩)
theorem sq495_176 : sq 495 176 B495_176 := sq_take 2 (e := 177) (by decide +kernel) True.intro
theorem sq495_170 : sq 495 170 B495_170 := sq_take 4 (e := 176) (by decide +kernel) sq495_176
theorem sq495_167 : sq 495 167 B495_167 := sq_take 2 (e := 170) (by decide +kernel) True.intro
theorem sq495_161 : sq 495 161 B495_161 := sq_take 4 (e := 167) (by decide +kernel) sq495_167
theorem sq495_158 : sq 495 158 B495_158 := sq_take 2 (e := 161) (by decide +kernel) True.intro
theorem sq495_152 : sq 495 152 B495_152 := sq_take 4 (e := 158) (by decide +kernel) sq495_158
theorem sq495_149 : sq 495 149 B495_149 := sq_take 2 (e := 152) (by decide +kernel) True.intro
theorem sq495_144 : sq 495 144 B495_144 := sq_take 3 (e := 149) (by decide +kernel) sq495_149
theorem sq495_90 : sq 495 90 B495_90 := sq_take 7 (e := 144) (by decide +kernel) True.intro
theorem sq495_89 : sq 495 89 B495_89 := sq_take 1 (e := 90) (by decide +kernel) sq495_90
theorem sq495_73 : sq 495 73 B495_73 := sq_take 10 (e := 89) (by decide +kernel) True.intro
theorem sq495_68 : sq 495 68 B495_68 := sq_take 4 (e := 73) (by decide +kernel) sq495_73
theorem sq495_55 : sq 495 55 B495_55 := sq_take 8 (e := 68) (by decide +kernel) sq495_68
theorem sq495_47 : sq 495 47 B495_47 := sq_take 5 (e := 55) (by decide +kernel) sq495_55
theorem sq495_17 : sq 495 17 B495_17 := sq_take 18 (e := 47) (by decide +kernel) sq495_47
theorem sq495_16 : sq 495 16 B495_16 := sq_take 2 (e := 17) (by decide +kernel) True.intro
theorem sq495_0 : sq 495 0 B495_0 := sq_take 8 (e := 16) (by decide +kernel) sq495_16
set_option maxRecDepth 100000 in
theorem sqM_495 : ∀ b, sq 495 b (tG 495 b) := show ∀ b, sq 495 b (lkB tb495 b) from lkB_sq (List.forall_mem_cons.mpr ⟨sq495_0, List.forall_mem_cons.mpr ⟨sq495_16, List.forall_mem_cons.mpr ⟨sq495_17, List.forall_mem_cons.mpr ⟨sq495_47, List.forall_mem_cons.mpr ⟨sq495_55, List.forall_mem_cons.mpr ⟨sq495_68, List.forall_mem_cons.mpr ⟨sq495_73, List.forall_mem_cons.mpr ⟨sq495_89, List.forall_mem_cons.mpr ⟨sq495_90, List.forall_mem_cons.mpr ⟨sq495_144, List.forall_mem_cons.mpr ⟨sq495_149, List.forall_mem_cons.mpr ⟨sq495_152, List.forall_mem_cons.mpr ⟨sq495_158, List.forall_mem_cons.mpr ⟨sq495_161, List.forall_mem_cons.mpr ⟨sq495_167, List.forall_mem_cons.mpr ⟨sq495_170, List.forall_mem_cons.mpr ⟨sq495_176, (fun _ h => absurd h List.not_mem_nil)⟩⟩⟩⟩⟩⟩⟩⟩⟩⟩⟩⟩⟩⟩⟩⟩⟩)
theorem sq496_80 : sq 496 80 B496_80 := sq_take 2 (e := 81) (by decide +kernel) True.intro
theorem sq496_71 : sq 496 71 B496_71 := sq_take 6 (e := 80) (by decide +kernel) sq496_80
theorem sq496_68 : sq 496 68 B496_68 := sq_take 2 (e := 71) (by decide +kernel) True.intro
theorem sq496_52 : sq 496 52 B496_52 := sq_take 8 (e := 68) (by decide +kernel) sq496_68
theorem sq496_49 : sq 496 49 B496_49 := sq_take 2 (e := 52) (by decide +kernel) True.intro
theorem sq496_41 : sq 496 41 B496_41 := sq_take 5 (e := 49) (by decide +kernel) sq496_49
theorem sq496_19 : sq 496 19 B496_19 := sq_take 14 (e := 41) (by decide +kernel) sq496_41
theorem sq496_13 : sq 496 13 B496_13 := sq_take 4 (e := 19) (by decide +kernel) sq496_19
theorem sq496_8 : sq 496 8 B496_8 := sq_take 4 (e := 13) (by decide +kernel) sq496_13
theorem sq496_5 : sq 496 5 B496_5 := sq_take 2 (e := 8) (by decide +kernel) sq496_8
theorem sq496_0 : sq 496 0 B496_0 := sq_take 4 (e := 5) (by decide +kernel) sq496_5
set_option maxRecDepth 100000 in
theorem sqM_496 : ∀ b, sq 496 b (tG 496 b) := show ∀ b, sq 496 b (lkB tb496 b) from lkB_sq (List.forall_mem_cons.mpr ⟨sq496_0, List.forall_mem_cons.mpr ⟨sq496_5, List.forall_mem_cons.mpr ⟨sq496_8, List.forall_mem_cons.mpr ⟨sq496_13, List.forall_mem_cons.mpr ⟨sq496_19, List.forall_mem_cons.mpr ⟨sq496_41, List.forall_mem_cons.mpr ⟨sq496_49, List.forall_mem_cons.mpr ⟨sq496_52, List.forall_mem_cons.mpr ⟨sq496_68, List.forall_mem_cons.mpr ⟨sq496_71, List.forall_mem_cons.mpr ⟨sq496_80, (fun _ h => absurd h List.not_mem_nil)⟩⟩⟩⟩⟩⟩⟩⟩⟩⟩⟩)
theorem sq497_50 : sq 497 50 B497_50 := sq_take 2 (e := 51) (by decide +kernel) True.intro
theorem sq497_45 : sq 497 45 B497_45 := sq_take 4 (e := 50) (by decide +kernel) sq497_50
theorem sq497_25 : sq 497 25 B497_25 := sq_take 12 (e := 45) (by decide +kernel) sq497_45
theorem sq497_22 : sq 497 22 B497_22 := sq_take 2 (e := 25) (by decide +kernel) True.intro
theorem sq497_16 : sq 497 16 B497_16 := sq_take 4 (e := 22) (by decide +kernel) sq497_22
theorem sq497_13 : sq 497 13 B497_13 := sq_take 2 (e := 16) (by decide +kernel) sq497_16
theorem sq497_5 : sq 497 5 B497_5 := sq_take 5 (e := 13) (by decide +kernel) sq497_13
theorem sq497_0 : sq 497 0 B497_0 := sq_take 4 (e := 5) (by decide +kernel) sq497_5
set_option maxRecDepth 100000 in
theorem sqM_497 : ∀ b, sq 497 b (tG 497 b) := show ∀ b, sq 497 b (lkB tb497 b) from lkB_sq (List.forall_mem_cons.mpr ⟨sq497_0, List.forall_mem_cons.mpr ⟨sq497_5, List.forall_mem_cons.mpr ⟨sq497_13, List.forall_mem_cons.mpr ⟨sq497_16, List.forall_mem_cons.mpr ⟨sq497_22, List.forall_mem_cons.mpr ⟨sq497_25, List.forall_mem_cons.mpr ⟨sq497_45, List.forall_mem_cons.mpr ⟨sq497_50, (fun _ h => absurd h List.not_mem_nil)⟩⟩⟩⟩⟩⟩⟩⟩)
theorem sq498_47 : sq 498 47 B498_47 := sq_take 1 (e := 48) (by decide +kernel) True.intro
theorem sq498_46 : sq 498 46 B498_46 := sq_take 1 (e := 47) (by decide +kernel) sq498_47
theorem sq498_42 : sq 498 42 B498_42 := sq_take 3 (e := 46) (by decide +kernel) True.intro
theorem sq498_0 : sq 498 0 B498_0 := sq_take 25 (e := 42) (by decide +kernel) sq498_42
set_option maxRecDepth 100000 in
theorem sqM_498 : ∀ b, sq 498 b (tG 498 b) := show ∀ b, sq 498 b (lkB tb498 b) from lkB_sq (List.forall_mem_cons.mpr ⟨sq498_0, List.forall_mem_cons.mpr ⟨sq498_42, List.forall_mem_cons.mpr ⟨sq498_46, List.forall_mem_cons.mpr ⟨sq498_47, (fun _ h => absurd h List.not_mem_nil)⟩⟩⟩⟩)
theorem sq499_473 : sq 499 473 B499_473 := sq_take 2 (e := 474) (by decide +kernel) True.intro
theorem sq499_452 : sq 499 452 B499_452 := sq_take 11 (e := 473) (by decide +kernel) sq499_473
theorem sq499_449 : sq 499 449 B499_449 := sq_take 2 (e := 452) (by decide +kernel) True.intro
theorem sq499_423 : sq 499 423 B499_423 := sq_take 13 (e := 449) (by decide +kernel) sq499_449
theorem sq499_415 : sq 499 415 B499_415 := sq_take 5 (e := 423) (by decide +kernel) sq499_423
theorem sq499_412 : sq 499 412 B499_412 := sq_take 2 (e := 415) (by decide +kernel) True.intro
theorem sq499_399 : sq 499 399 B499_399 := sq_take 7 (e := 412) (by decide +kernel) sq499_412
theorem sq499_387 : sq 499 387 B499_387 := sq_take 6 (e := 399) (by decide +kernel) sq499_399
theorem sq499_355 : sq 499 355 B499_355 := sq_take 16 (e := 387) (by decide +kernel) sq499_387
theorem sq499_352 : sq 499 352 B499_352 := sq_take 2 (e := 355) (by decide +kernel) True.intro
theorem sq499_326 : sq 499 326 B499_326 := sq_take 14 (e := 352) (by decide +kernel) sq499_352
theorem sq499_320 : sq 499 320 B499_320 := sq_take 4 (e := 326) (by decide +kernel) sq499_326
theorem sq499_296 : sq 499 296 B499_296 := sq_take 11 (e := 320) (by decide +kernel) sq499_320
theorem sq499_295 : sq 499 295 B499_295 := sq_take 1 (e := 296) (by decide +kernel) sq499_296
theorem sq499_291 : sq 499 291 B499_291 := sq_take 3 (e := 295) (by decide +kernel) True.intro
theorem sq499_288 : sq 499 288 B499_288 := sq_take 2 (e := 291) (by decide +kernel) sq499_291
theorem sq499_279 : sq 499 279 B499_279 := sq_take 5 (e := 288) (by decide +kernel) sq499_288
theorem sq499_273 : sq 499 273 B499_273 := sq_take 3 (e := 279) (by decide +kernel) sq499_279
theorem sq499_272 : sq 499 272 B499_272 := sq_take 2 (e := 273) (by decide +kernel) True.intro
theorem sq499_264 : sq 499 264 B499_264 := sq_take 5 (e := 272) (by decide +kernel) sq499_272
theorem sq499_252 : sq 499 252 B499_252 := sq_take 6 (e := 264) (by decide +kernel) sq499_264
theorem sq499_236 : sq 499 236 B499_236 := sq_take 8 (e := 252) (by decide +kernel) sq499_252
theorem sq499_233 : sq 499 233 B499_233 := sq_take 2 (e := 236) (by decide +kernel) True.intro
theorem sq499_210 : sq 499 210 B499_210 := sq_take 11 (e := 233) (by decide +kernel) sq499_233
theorem sq499_202 : sq 499 202 B499_202 := sq_take 5 (e := 210) (by decide +kernel) sq499_210
theorem sq499_186 : sq 499 186 B499_186 := sq_take 7 (e := 202) (by decide +kernel) sq499_202
theorem sq499_185 : sq 499 185 B499_185 := sq_take 2 (e := 186) (by decide +kernel) True.intro
theorem sq499_165 : sq 499 165 B499_165 := sq_take 9 (e := 185) (by decide +kernel) sq499_185
theorem sq499_157 : sq 499 157 B499_157 := sq_take 5 (e := 165) (by decide +kernel) True.intro
theorem sq499_153 : sq 499 153 B499_153 := sq_take 3 (e := 157) (by decide +kernel) sq499_157
theorem sq499_145 : sq 499 145 B499_145 := sq_take 5 (e := 153) (by decide +kernel) sq499_153
theorem sq499_142 : sq 499 142 B499_142 := sq_take 2 (e := 145) (by decide +kernel) True.intro
theorem sq499_134 : sq 499 134 B499_134 := sq_take 5 (e := 142) (by decide +kernel) sq499_142
theorem sq499_131 : sq 499 131 B499_131 := sq_take 2 (e := 134) (by decide +kernel) sq499_134
theorem sq499_108 : sq 499 108 B499_108 := sq_take 11 (e := 131) (by decide +kernel) sq499_131
theorem sq499_94 : sq 499 94 B499_94 := sq_take 6 (e := 108) (by decide +kernel) sq499_108
theorem sq499_93 : sq 499 93 B499_93 := sq_take 2 (e := 94) (by decide +kernel) True.intro
theorem sq499_90 : sq 499 90 B499_90 := sq_take 2 (e := 93) (by decide +kernel) sq499_93
theorem sq499_75 : sq 499 75 B499_75 := sq_take 9 (e := 90) (by decide +kernel) sq499_90
theorem sq499_67 : sq 499 67 B499_67 := sq_take 5 (e := 75) (by decide +kernel) sq499_75
theorem sq499_51 : sq 499 51 B499_51 := sq_take 8 (e := 67) (by decide +kernel) sq499_67
theorem sq499_48 : sq 499 48 B499_48 := sq_take 2 (e := 51) (by decide +kernel) sq499_51
theorem sq499_41 : sq 499 41 B499_41 := sq_take 5 (e := 48) (by decide +kernel) sq499_48
theorem sq499_35 : sq 499 35 B499_35 := sq_take 4 (e := 41) (by decide +kernel) sq499_41
theorem sq499_34 : sq 499 34 B499_34 := sq_take 1 (e := 35) (by decide +kernel) sq499_35
theorem sq499_21 : sq 499 21 B499_21 := sq_take 8 (e := 34) (by decide +kernel) True.intro
theorem sq499_20 : sq 499 20 B499_20 := sq_take 1 (e := 21) (by decide +kernel) sq499_21
theorem sq499_0 : sq 499 0 B499_0 := sq_take 12 (e := 20) (by decide +kernel) True.intro
set_option maxRecDepth 100000 in
theorem sqM_499 : ∀ b, sq 499 b (tG 499 b) := show ∀ b, sq 499 b (lkB tb499 b) from lkB_sq (List.forall_mem_cons.mpr ⟨sq499_0, List.forall_mem_cons.mpr ⟨sq499_20, List.forall_mem_cons.mpr ⟨sq499_21, List.forall_mem_cons.mpr ⟨sq499_34, List.forall_mem_cons.mpr ⟨sq499_35, List.forall_mem_cons.mpr ⟨sq499_41, List.forall_mem_cons.mpr ⟨sq499_48, List.forall_mem_cons.mpr ⟨sq499_51, List.forall_mem_cons.mpr ⟨sq499_67, List.forall_mem_cons.mpr ⟨sq499_75, List.forall_mem_cons.mpr ⟨sq499_90, List.forall_mem_cons.mpr ⟨sq499_93, List.forall_mem_cons.mpr ⟨sq499_94, List.forall_mem_cons.mpr ⟨sq499_108, List.forall_mem_cons.mpr ⟨sq499_131, List.forall_mem_cons.mpr ⟨sq499_134, List.forall_mem_cons.mpr ⟨sq499_142, List.forall_mem_cons.mpr ⟨sq499_145, List.forall_mem_cons.mpr ⟨sq499_153, List.forall_mem_cons.mpr ⟨sq499_157, List.forall_mem_cons.mpr ⟨sq499_165, List.forall_mem_cons.mpr ⟨sq499_185, List.forall_mem_cons.mpr ⟨sq499_186, List.forall_mem_cons.mpr ⟨sq499_202, List.forall_mem_cons.mpr ⟨sq499_210, List.forall_mem_cons.mpr ⟨sq499_233, List.forall_mem_cons.mpr ⟨sq499_236, List.forall_mem_cons.mpr ⟨sq499_252, List.forall_mem_cons.mpr ⟨sq499_264, List.forall_mem_cons.mpr ⟨sq499_272, List.forall_mem_cons.mpr ⟨sq499_273, List.forall_mem_cons.mpr ⟨sq499_279, List.forall_mem_cons.mpr ⟨sq499_288, List.forall_mem_cons.mpr ⟨sq499_291, List.forall_mem_cons.mpr ⟨sq499_295, List.forall_mem_cons.mpr ⟨sq499_296, List.forall_mem_cons.mpr ⟨sq499_320, List.forall_mem_cons.mpr ⟨sq499_326, List.forall_mem_cons.mpr ⟨sq499_352, List.forall_mem_cons.mpr ⟨sq499_355, List.forall_mem_cons.mpr ⟨sq499_387, List.forall_mem_cons.mpr ⟨sq499_399, List.forall_mem_cons.mpr ⟨sq499_412, List.forall_mem_cons.mpr ⟨sq499_415, List.forall_mem_cons.mpr ⟨sq499_423, List.forall_mem_cons.mpr ⟨sq499_449, List.forall_mem_cons.mpr ⟨sq499_452, List.forall_mem_cons.mpr ⟨sq499_473, (fun _ h => absurd h List.not_mem_nil)⟩⟩⟩⟩⟩⟩⟩⟩⟩⟩⟩⟩⟩⟩⟩⟩⟩⟩⟩⟩⟩⟩⟩⟩⟩⟩⟩⟩⟩⟩⟩⟩⟩⟩⟩⟩⟩⟩⟩⟩⟩⟩⟩⟩⟩⟩⟩⟩)
theorem sq500_55 : sq 500 55 B500_55 := sq_take 2 (e := 56) (by decide +kernel) True.intro
theorem sq500_46 : sq 500 46 B500_46 := sq_take 6 (e := 55) (by decide +kernel) sq500_55
theorem sq500_43 : sq 500 43 B500_43 := sq_take 2 (e := 46) (by decide +kernel) True.intro
theorem sq500_40 : sq 500 40 B500_40 := sq_take 2 (e := 43) (by decide +kernel) sq500_43
theorem sq500_30 : sq 500 30 B500_30 := sq_take 6 (e := 40) (by decide +kernel) sq500_40
theorem sq500_27 : sq 500 27 B500_27 := sq_take 2 (e := 30) (by decide +kernel) True.intro
theorem sq500_5 : sq 500 5 B500_5 := sq_take 13 (e := 27) (by decide +kernel) sq500_27
theorem sq500_0 : sq 500 0 B500_0 := sq_take 4 (e := 5) (by decide +kernel) sq500_5
set_option maxRecDepth 100000 in
theorem sqM_500 : ∀ b, sq 500 b (tG 500 b) := show ∀ b, sq 500 b (lkB tb500 b) from lkB_sq (List.forall_mem_cons.mpr ⟨sq500_0, List.forall_mem_cons.mpr ⟨sq500_5, List.forall_mem_cons.mpr ⟨sq500_27, List.forall_mem_cons.mpr ⟨sq500_30, List.forall_mem_cons.mpr ⟨sq500_40, List.forall_mem_cons.mpr ⟨sq500_43, List.forall_mem_cons.mpr ⟨sq500_46, List.forall_mem_cons.mpr ⟨sq500_55, (fun _ h => absurd h List.not_mem_nil)⟩⟩⟩⟩⟩⟩⟩⟩)
theorem sq501_89 : sq 501 89 B501_89 := sq_take 2 (e := 90) (by decide +kernel) True.intro
theorem sq501_78 : sq 501 78 B501_78 := sq_take 7 (e := 89) (by decide +kernel) sq501_89
theorem sq501_70 : sq 501 70 B501_70 := sq_take 4 (e := 78) (by decide +kernel) sq501_78
theorem sq501_67 : sq 501 67 B501_67 := sq_take 2 (e := 70) (by decide +kernel) True.intro
theorem sq501_54 : sq 501 54 B501_54 := sq_take 8 (e := 67) (by decide +kernel) sq501_67
theorem sq501_51 : sq 501 51 B501_51 := sq_take 2 (e := 54) (by decide +kernel) True.intro
theorem sq501_43 : sq 501 43 B501_43 := sq_take 5 (e := 51) (by decide +kernel) sq501_51
theorem sq501_30 : sq 501 30 B501_30 := sq_take 6 (e := 43) (by decide +kernel) sq501_43
theorem sq501_22 : sq 501 22 B501_22 := sq_take 5 (e := 30) (by decide +kernel) True.intro
theorem sq501_16 : sq 501 16 B501_16 := sq_take 5 (e := 22) (by decide +kernel) sq501_22
theorem sq501_15 : sq 501 15 B501_15 := sq_take 2 (e := 16) (by decide +kernel) True.intro
theorem sq501_0 : sq 501 0 B501_0 := sq_take 9 (e := 15) (by decide +kernel) sq501_15
set_option maxRecDepth 100000 in
theorem sqM_501 : ∀ b, sq 501 b (tG 501 b) := show ∀ b, sq 501 b (lkB tb501 b) from lkB_sq (List.forall_mem_cons.mpr ⟨sq501_0, List.forall_mem_cons.mpr ⟨sq501_15, List.forall_mem_cons.mpr ⟨sq501_16, List.forall_mem_cons.mpr ⟨sq501_22, List.forall_mem_cons.mpr ⟨sq501_30, List.forall_mem_cons.mpr ⟨sq501_43, List.forall_mem_cons.mpr ⟨sq501_51, List.forall_mem_cons.mpr ⟨sq501_54, List.forall_mem_cons.mpr ⟨sq501_67, List.forall_mem_cons.mpr ⟨sq501_70, List.forall_mem_cons.mpr ⟨sq501_78, List.forall_mem_cons.mpr ⟨sq501_89, (fun _ h => absurd h List.not_mem_nil)⟩⟩⟩⟩⟩⟩⟩⟩⟩⟩⟩⟩)
theorem sq502_331 : sq 502 331 B502_331 := sq_take 1 (e := 332) (by decide +kernel) True.intro
theorem sq502_293 : sq 502 293 B502_293 := sq_take 24 (e := 331) (by decide +kernel) sq502_331
theorem sq502_251 : sq 502 251 B502_251 := sq_take 25 (e := 293) (by decide +kernel) sq502_293
theorem sq502_209 : sq 502 209 B502_209 := sq_take 25 (e := 251) (by decide +kernel) sq502_251
theorem sq502_201 : sq 502 201 B502_201 := sq_take 4 (e := 209) (by decide +kernel) sq502_209
theorem sq502_200 : sq 502 200 B502_200 := sq_take 2 (e := 201) (by decide +kernel) True.intro
theorem sq502_192 : sq 502 192 B502_192 := sq_take 5 (e := 200) (by decide +kernel) sq502_200
theorem sq502_178 : sq 502 178 B502_178 := sq_take 7 (e := 192) (by decide +kernel) sq502_192
theorem sq502_165 : sq 502 165 B502_165 := sq_take 6 (e := 178) (by decide +kernel) sq502_178
theorem sq502_157 : sq 502 157 B502_157 := sq_take 5 (e := 165) (by decide +kernel) sq502_165
theorem sq502_149 : sq 502 149 B502_149 := sq_take 4 (e := 157) (by decide +kernel) sq502_157
theorem sq502_148 : sq 502 148 B502_148 := sq_take 2 (e := 149) (by decide +kernel) True.intro
theorem sq502_143 : sq 502 143 B502_143 := sq_take 4 (e := 148) (by decide +kernel) sq502_148
theorem sq502_128 : sq 502 128 B502_128 := sq_take 8 (e := 143) (by decide +kernel) sq502_143
theorem sq502_118 : sq 502 118 B502_118 := sq_take 8 (e := 128) (by decide +kernel) True.intro
theorem sq502_112 : sq 502 112 B502_112 := sq_take 4 (e := 118) (by decide +kernel) sq502_118
theorem sq502_111 : sq 502 111 B502_111 := sq_take 2 (e := 112) (by decide +kernel) True.intro
theorem sq502_106 : sq 502 106 B502_106 := sq_take 4 (e := 111) (by decide +kernel) sq502_111
theorem sq502_86 : sq 502 86 B502_86 := sq_take 10 (e := 106) (by decide +kernel) sq502_106
theorem sq502_76 : sq 502 76 B502_76 := sq_take 7 (e := 86) (by decide +kernel) sq502_86
theorem sq502_63 : sq 502 63 B502_63 := sq_take 6 (e := 76) (by decide +kernel) True.intro
theorem sq502_62 : sq 502 62 B502_62 := sq_take 1 (e := 63) (by decide +kernel) sq502_63
theorem sq502_58 : sq 502 58 B502_58 := sq_take 3 (e := 62) (by decide +kernel) True.intro
theorem sq502_29 : sq 502 29 B502_29 := sq_take 14 (e := 58) (by decide +kernel) sq502_58
theorem sq502_22 : sq 502 22 B502_22 := sq_take 5 (e := 29) (by decide +kernel) sq502_29
theorem sq502_5 : sq 502 5 B502_5 := sq_take 9 (e := 22) (by decide +kernel) True.intro
theorem sq502_0 : sq 502 0 B502_0 := sq_take 4 (e := 5) (by decide +kernel) sq502_5
set_option maxRecDepth 100000 in
theorem sqM_502 : ∀ b, sq 502 b (tG 502 b) := show ∀ b, sq 502 b (lkB tb502 b) from lkB_sq (List.forall_mem_cons.mpr ⟨sq502_0, List.forall_mem_cons.mpr ⟨sq502_5, List.forall_mem_cons.mpr ⟨sq502_22, List.forall_mem_cons.mpr ⟨sq502_29, List.forall_mem_cons.mpr ⟨sq502_58, List.forall_mem_cons.mpr ⟨sq502_62, List.forall_mem_cons.mpr ⟨sq502_63, List.forall_mem_cons.mpr ⟨sq502_76, List.forall_mem_cons.mpr ⟨sq502_86, List.forall_mem_cons.mpr ⟨sq502_106, List.forall_mem_cons.mpr ⟨sq502_111, List.forall_mem_cons.mpr ⟨sq502_112, List.forall_mem_cons.mpr ⟨sq502_118, List.forall_mem_cons.mpr ⟨sq502_128, List.forall_mem_cons.mpr ⟨sq502_143, List.forall_mem_cons.mpr ⟨sq502_148, List.forall_mem_cons.mpr ⟨sq502_149, List.forall_mem_cons.mpr ⟨sq502_157, List.forall_mem_cons.mpr ⟨sq502_165, List.forall_mem_cons.mpr ⟨sq502_178, List.forall_mem_cons.mpr ⟨sq502_192, List.forall_mem_cons.mpr ⟨sq502_200, List.forall_mem_cons.mpr ⟨sq502_201, List.forall_mem_cons.mpr ⟨sq502_209, List.forall_mem_cons.mpr ⟨sq502_251, List.forall_mem_cons.mpr ⟨sq502_293, List.forall_mem_cons.mpr ⟨sq502_331, (fun _ h => absurd h List.not_mem_nil)⟩⟩⟩⟩⟩⟩⟩⟩⟩⟩⟩⟩⟩⟩⟩⟩⟩⟩⟩⟩⟩⟩⟩⟩⟩⟩⟩)
theorem sq503_177 : sq 503 177 B503_177 := sq_take 1 (e := 178) (by decide +kernel) True.intro
theorem sq503_176 : sq 503 176 B503_176 := sq_take 2 (e := 177) (by decide +kernel) sq503_177
theorem sq503_137 : sq 503 137 B503_137 := sq_take 26 (e := 176) (by decide +kernel) True.intro
theorem sq503_131 : sq 503 131 B503_131 := sq_take 4 (e := 137) (by decide +kernel) sq503_137
theorem sq503_107 : sq 503 107 B503_107 := sq_take 14 (e := 131) (by decide +kernel) True.intro
theorem sq503_106 : sq 503 106 B503_106 := sq_take 1 (e := 107) (by decide +kernel) True.intro
theorem sq503_105 : sq 503 105 B503_105 := sq_take 2 (e := 106) (by decide +kernel) sq503_106
theorem sq503_67 : sq 503 67 B503_67 := sq_take 23 (e := 105) (by decide +kernel) True.intro
theorem sq503_66 : sq 503 66 B503_66 := sq_take 1 (e := 67) (by decide +kernel) True.intro
theorem sq503_65 : sq 503 65 B503_65 := sq_take 2 (e := 66) (by decide +kernel) sq503_66
theorem sq503_0 : sq 503 0 B503_0 := sq_take 40 (e := 65) (by decide +kernel) True.intro
set_option maxRecDepth 100000 in
theorem sqM_503 : ∀ b, sq 503 b (tG 503 b) := show ∀ b, sq 503 b (lkB tb503 b) from lkB_sq (List.forall_mem_cons.mpr ⟨sq503_0, List.forall_mem_cons.mpr ⟨sq503_65, List.forall_mem_cons.mpr ⟨sq503_66, List.forall_mem_cons.mpr ⟨sq503_67, List.forall_mem_cons.mpr ⟨sq503_105, List.forall_mem_cons.mpr ⟨sq503_106, List.forall_mem_cons.mpr ⟨sq503_107, List.forall_mem_cons.mpr ⟨sq503_131, List.forall_mem_cons.mpr ⟨sq503_137, List.forall_mem_cons.mpr ⟨sq503_176, List.forall_mem_cons.mpr ⟨sq503_177, (fun _ h => absurd h List.not_mem_nil)⟩⟩⟩⟩⟩⟩⟩⟩⟩⟩⟩)
theorem sq504_0 : sq 504 0 B504_0 := sq_take 12 (e := 16) (by decide +kernel) True.intro
set_option maxRecDepth 100000 in
theorem sqM_504 : ∀ b, sq 504 b (tG 504 b) := show ∀ b, sq 504 b (lkB tb504 b) from lkB_sq (List.forall_mem_cons.mpr ⟨sq504_0, (fun _ h => absurd h List.not_mem_nil)⟩)
theorem sq505_82 : sq 505 82 B505_82 := sq_take 2 (e := 84) (by decide +kernel) True.intro
theorem sq505_75 : sq 505 75 B505_75 := sq_take 4 (e := 82) (by decide +kernel) True.intro
theorem sq505_74 : sq 505 74 B505_74 := sq_take 2 (e := 75) (by decide +kernel) sq505_75
theorem sq505_70 : sq 505 70 B505_70 := sq_take 3 (e := 74) (by decide +kernel) True.intro
theorem sq505_59 : sq 505 59 B505_59 := sq_take 6 (e := 70) (by decide +kernel) sq505_70
theorem sq505_22 : sq 505 22 B505_22 := sq_take 22 (e := 59) (by decide +kernel) True.intro
theorem sq505_7 : sq 505 7 B505_7 := sq_take 10 (e := 22) (by decide +kernel) sq505_22
theorem sq505_0 : sq 505 0 B505_0 := sq_take 6 (e := 7) (by decide +kernel) sq505_7
set_option maxRecDepth 100000 in
theorem sqM_505 : ∀ b, sq 505 b (tG 505 b) := show ∀ b, sq 505 b (lkB tb505 b) from lkB_sq (List.forall_mem_cons.mpr ⟨sq505_0, List.forall_mem_cons.mpr ⟨sq505_7, List.forall_mem_cons.mpr ⟨sq505_22, List.forall_mem_cons.mpr ⟨sq505_59, List.forall_mem_cons.mpr ⟨sq505_70, List.forall_mem_cons.mpr ⟨sq505_74, List.forall_mem_cons.mpr ⟨sq505_75, List.forall_mem_cons.mpr ⟨sq505_82, (fun _ h => absurd h List.not_mem_nil)⟩⟩⟩⟩⟩⟩⟩⟩)
theorem sq506_42 : sq 506 42 B506_42 := sq_take 1 (e := 43) (by decide +kernel) True.intro
theorem sq506_35 : sq 506 35 B506_35 := sq_take 6 (e := 42) (by decide +kernel) sq506_42
theorem sq506_26 : sq 506 26 B506_26 := sq_take 8 (e := 35) (by decide +kernel) sq506_35
theorem sq506_25 : sq 506 25 B506_25 := sq_take 1 (e := 26) (by decide +kernel) sq506_26
theorem sq506_0 : sq 506 0 B506_0 := sq_take 14 (e := 25) (by decide +kernel) True.intro
set_option maxRecDepth 100000 in
theorem sqM_506 : ∀ b, sq 506 b (tG 506 b) := show ∀ b, sq 506 b (lkB tb506 b) from lkB_sq (List.forall_mem_cons.mpr ⟨sq506_0, List.forall_mem_cons.mpr ⟨sq506_25, List.forall_mem_cons.mpr ⟨sq506_26, List.forall_mem_cons.mpr ⟨sq506_35, List.forall_mem_cons.mpr ⟨sq506_42, (fun _ h => absurd h List.not_mem_nil)⟩⟩⟩⟩⟩)
theorem sq507_49 : sq 507 49 B507_49 := sq_take 1 (e := 50) (by decide +kernel) True.intro
theorem sq507_33 : sq 507 33 B507_33 := sq_take 12 (e := 49) (by decide +kernel) True.intro
theorem sq507_24 : sq 507 24 B507_24 := sq_take 6 (e := 33) (by decide +kernel) sq507_33
theorem sq507_21 : sq 507 21 B507_21 := sq_take 2 (e := 24) (by decide +kernel) sq507_24
theorem sq507_5 : sq 507 5 B507_5 := sq_take 11 (e := 21) (by decide +kernel) sq507_21
theorem sq507_0 : sq 507 0 B507_0 := sq_take 4 (e := 5) (by decide +kernel) sq507_5
set_option maxRecDepth 100000 in
theorem sqM_507 : ∀ b, sq 507 b (tG 507 b) := show ∀ b, sq 507 b (lkB tb507 b) from lkB_sq (List.forall_mem_cons.mpr ⟨sq507_0, List.forall_mem_cons.mpr ⟨sq507_5, List.forall_mem_cons.mpr ⟨sq507_21, List.forall_mem_cons.mpr ⟨sq507_24, List.forall_mem_cons.mpr ⟨sq507_33, List.forall_mem_cons.mpr ⟨sq507_49, (fun _ h => absurd h List.not_mem_nil)⟩⟩⟩⟩⟩⟩)
theorem sq508_35 : sq 508 35 B508_35 := sq_take 1 (e := 36) (by decide +kernel) True.intro
theorem sq508_33 : sq 508 33 B508_33 := sq_take 1 (e := 35) (by decide +kernel) sq508_35
theorem sq508_23 : sq 508 23 B508_23 := sq_take 5 (e := 33) (by decide +kernel) True.intro
theorem sq508_13 : sq 508 13 B508_13 := sq_take 5 (e := 23) (by decide +kernel) True.intro
theorem sq508_0 : sq 508 0 B508_0 := sq_take 9 (e := 13) (by decide +kernel) True.intro
set_option maxRecDepth 100000 in
theorem sqM_508 : ∀ b, sq 508 b (tG 508 b) := show ∀ b, sq 508 b (lkB tb508 b) from lkB_sq (List.forall_mem_cons.mpr ⟨sq508_0, List.forall_mem_cons.mpr ⟨sq508_13, List.forall_mem_cons.mpr ⟨sq508_23, List.forall_mem_cons.mpr ⟨sq508_33, List.forall_mem_cons.mpr ⟨sq508_35, (fun _ h => absurd h List.not_mem_nil)⟩⟩⟩⟩⟩)
theorem sq509_54 : sq 509 54 B509_54 := sq_take 2 (e := 55) (by decide +kernel) True.intro
theorem sq509_46 : sq 509 46 B509_46 := sq_take 5 (e := 54) (by decide +kernel) sq509_54
theorem sq509_43 : sq 509 43 B509_43 := sq_take 2 (e := 46) (by decide +kernel) True.intro
theorem sq509_25 : sq 509 25 B509_25 := sq_take 9 (e := 43) (by decide +kernel) sq509_43
theorem sq509_22 : sq 509 22 B509_22 := sq_take 2 (e := 25) (by decide +kernel) True.intro
theorem sq509_4 : sq 509 4 B509_4 := sq_take 12 (e := 22) (by decide +kernel) sq509_22
theorem sq509_0 : sq 509 0 B509_0 := sq_take 3 (e := 4) (by decide +kernel) sq509_4
set_option maxRecDepth 100000 in
theorem sqM_509 : ∀ b, sq 509 b (tG 509 b) := show ∀ b, sq 509 b (lkB tb509 b) from lkB_sq (List.forall_mem_cons.mpr ⟨sq509_0, List.forall_mem_cons.mpr ⟨sq509_4, List.forall_mem_cons.mpr ⟨sq509_22, List.forall_mem_cons.mpr ⟨sq509_25, List.forall_mem_cons.mpr ⟨sq509_43, List.forall_mem_cons.mpr ⟨sq509_46, List.forall_mem_cons.mpr ⟨sq509_54, (fun _ h => absurd h List.not_mem_nil)⟩⟩⟩⟩⟩⟩⟩)
theorem sq510_42 : sq 510 42 B510_42 := sq_take 1 (e := 43) (by decide +kernel) True.intro
theorem sq510_41 : sq 510 41 B510_41 := sq_take 1 (e := 42) (by decide +kernel) sq510_42
theorem sq510_30 : sq 510 30 B510_30 := sq_take 6 (e := 41) (by decide +kernel) True.intro
theorem sq510_22 : sq 510 22 B510_22 := sq_take 5 (e := 30) (by decide +kernel) sq510_30
theorem sq510_17 : sq 510 17 B510_17 := sq_take 3 (e := 22) (by decide +kernel) sq510_22
theorem sq510_14 : sq 510 14 B510_14 := sq_take 2 (e := 17) (by decide +kernel) True.intro
theorem sq510_5 : sq 510 5 B510_5 := sq_take 5 (e := 14) (by decide +kernel) sq510_14
theorem sq510_0 : sq 510 0 B510_0 := sq_take 4 (e := 5) (by decide +kernel) sq510_5
set_option maxRecDepth 100000 in
theorem sqM_510 : ∀ b, sq 510 b (tG 510 b) := show ∀ b, sq 510 b (lkB tb510 b) from lkB_sq (List.forall_mem_cons.mpr ⟨sq510_0, List.forall_mem_cons.mpr ⟨sq510_5, List.forall_mem_cons.mpr ⟨sq510_14, List.forall_mem_cons.mpr ⟨sq510_17, List.forall_mem_cons.mpr ⟨sq510_22, List.forall_mem_cons.mpr ⟨sq510_30, List.forall_mem_cons.mpr ⟨sq510_41, List.forall_mem_cons.mpr ⟨sq510_42, (fun _ h => absurd h List.not_mem_nil)⟩⟩⟩⟩⟩⟩⟩⟩)
theorem sq511_269 : sq 511 269 B511_269 := sq_take 2 (e := 270) (by decide +kernel) True.intro
theorem sq511_261 : sq 511 261 B511_261 := sq_take 4 (e := 269) (by decide +kernel) sq511_269
theorem sq511_258 : sq 511 258 B511_258 := sq_take 2 (e := 261) (by decide +kernel) True.intro
theorem sq511_236 : sq 511 236 B511_236 := sq_take 12 (e := 258) (by decide +kernel) sq511_258
theorem sq511_235 : sq 511 235 B511_235 := sq_take 2 (e := 236) (by decide +kernel) True.intro
theorem sq511_226 : sq 511 226 B511_226 := sq_take 5 (e := 235) (by decide +kernel) sq511_235
theorem sq511_220 : sq 511 220 B511_220 := sq_take 4 (e := 226) (by decide +kernel) sq511_226
theorem sq511_219 : sq 511 219 B511_219 := sq_take 2 (e := 220) (by decide +kernel) True.intro
theorem sq511_182 : sq 511 182 B511_182 := sq_take 19 (e := 219) (by decide +kernel) sq511_219
theorem sq511_163 : sq 511 163 B511_163 := sq_take 10 (e := 182) (by decide +kernel) sq511_182
theorem sq511_162 : sq 511 162 B511_162 := sq_take 2 (e := 163) (by decide +kernel) True.intro
theorem sq511_154 : sq 511 154 B511_154 := sq_take 5 (e := 162) (by decide +kernel) sq511_162
theorem sq511_144 : sq 511 144 B511_144 := sq_take 5 (e := 154) (by decide +kernel) sq511_154
theorem sq511_140 : sq 511 140 B511_140 := sq_take 3 (e := 144) (by decide +kernel) True.intro
theorem sq511_134 : sq 511 134 B511_134 := sq_take 3 (e := 140) (by decide +kernel) sq511_140
theorem sq511_133 : sq 511 133 B511_133 := sq_take 2 (e := 134) (by decide +kernel) True.intro
theorem sq511_126 : sq 511 126 B511_126 := sq_take 4 (e := 133) (by decide +kernel) sq511_133
theorem sq511_123 : sq 511 123 B511_123 := sq_take 2 (e := 126) (by decide +kernel) True.intro
theorem sq511_118 : sq 511 118 B511_118 := sq_take 4 (e := 123) (by decide +kernel) sq511_123
theorem sq511_116 : sq 511 116 B511_116 := sq_take 1 (e := 118) (by decide +kernel) sq511_118
theorem sq511_97 : sq 511 97 B511_97 := sq_take 9 (e := 116) (by decide +kernel) True.intro
theorem sq511_94 : sq 511 94 B511_94 := sq_take 2 (e := 97) (by decide +kernel) True.intro
theorem sq511_81 : sq 511 81 B511_81 := sq_take 7 (e := 94) (by decide +kernel) sq511_94
theorem sq511_80 : sq 511 80 B511_80 := sq_take 2 (e := 81) (by decide +kernel) sq511_81
theorem sq511_40 : sq 511 40 B511_40 := sq_take 20 (e := 80) (by decide +kernel) True.intro
theorem sq511_32 : sq 511 32 B511_32 := sq_take 5 (e := 40) (by decide +kernel) True.intro
theorem sq511_24 : sq 511 24 B511_24 := sq_take 5 (e := 32) (by decide +kernel) sq511_32
theorem sq511_18 : sq 511 18 B511_18 := sq_take 4 (e := 24) (by decide +kernel) sq511_24
theorem sq511_15 : sq 511 15 B511_15 := sq_take 2 (e := 18) (by decide +kernel) sq511_18
theorem sq511_8 : sq 511 8 B511_8 := sq_take 5 (e := 15) (by decide +kernel) sq511_15
theorem sq511_5 : sq 511 5 B511_5 := sq_take 2 (e := 8) (by decide +kernel) sq511_8
theorem sq511_0 : sq 511 0 B511_0 := sq_take 4 (e := 5) (by decide +kernel) sq511_5
set_option maxRecDepth 100000 in
theorem sqM_511 : ∀ b, sq 511 b (tG 511 b) := show ∀ b, sq 511 b (lkB tb511 b) from lkB_sq (List.forall_mem_cons.mpr ⟨sq511_0, List.forall_mem_cons.mpr ⟨sq511_5, List.forall_mem_cons.mpr ⟨sq511_8, List.forall_mem_cons.mpr ⟨sq511_15, List.forall_mem_cons.mpr ⟨sq511_18, List.forall_mem_cons.mpr ⟨sq511_24, List.forall_mem_cons.mpr ⟨sq511_32, List.forall_mem_cons.mpr ⟨sq511_40, List.forall_mem_cons.mpr ⟨sq511_80, List.forall_mem_cons.mpr ⟨sq511_81, List.forall_mem_cons.mpr ⟨sq511_94, List.forall_mem_cons.mpr ⟨sq511_97, List.forall_mem_cons.mpr ⟨sq511_116, List.forall_mem_cons.mpr ⟨sq511_118, List.forall_mem_cons.mpr ⟨sq511_123, List.forall_mem_cons.mpr ⟨sq511_126, List.forall_mem_cons.mpr ⟨sq511_133, List.forall_mem_cons.mpr ⟨sq511_134, List.forall_mem_cons.mpr ⟨sq511_140, List.forall_mem_cons.mpr ⟨sq511_144, List.forall_mem_cons.mpr ⟨sq511_154, List.forall_mem_cons.mpr ⟨sq511_162, List.forall_mem_cons.mpr ⟨sq511_163, List.forall_mem_cons.mpr ⟨sq511_182, List.forall_mem_cons.mpr ⟨sq511_219, List.forall_mem_cons.mpr ⟨sq511_220, List.forall_mem_cons.mpr ⟨sq511_226, List.forall_mem_cons.mpr ⟨sq511_235, List.forall_mem_cons.mpr ⟨sq511_236, List.forall_mem_cons.mpr ⟨sq511_258, List.forall_mem_cons.mpr ⟨sq511_261, List.forall_mem_cons.mpr ⟨sq511_269, (fun _ h => absurd h List.not_mem_nil)⟩⟩⟩⟩⟩⟩⟩⟩⟩⟩⟩⟩⟩⟩⟩⟩⟩⟩⟩⟩⟩⟩⟩⟩⟩⟩⟩⟩⟩⟩⟩⟩)
theorem sq512_290 : sq 512 290 B512_290 := sq_take 2 (e := 291) (by decide +kernel) True.intro
theorem sq512_273 : sq 512 273 B512_273 := sq_take 9 (e := 290) (by decide +kernel) sq512_290
theorem sq512_270 : sq 512 270 B512_270 := sq_take 2 (e := 273) (by decide +kernel) True.intro
theorem sq512_267 : sq 512 267 B512_267 := sq_take 2 (e := 270) (by decide +kernel) sq512_270
theorem sq512_251 : sq 512 251 B512_251 := sq_take 9 (e := 267) (by decide +kernel) sq512_267
theorem sq512_250 : sq 512 250 B512_250 := sq_take 2 (e := 251) (by decide +kernel) True.intro
theorem sq512_244 : sq 512 244 B512_244 := sq_take 4 (e := 250) (by decide +kernel) sq512_250
theorem sq512_201 : sq 512 201 B512_201 := sq_take 23 (e := 244) (by decide +kernel) sq512_244
theorem sq512_200 : sq 512 200 B512_200 := sq_take 2 (e := 201) (by decide +kernel) sq512_201
theorem sq512_168 : sq 512 168 B512_168 := sq_take 16 (e := 200) (by decide +kernel) True.intro
theorem sq512_167 : sq 512 167 B512_167 := sq_take 2 (e := 168) (by decide +kernel) True.intro
theorem sq512_159 : sq 512 159 B512_159 := sq_take 5 (e := 167) (by decide +kernel) sq512_167
theorem sq512_149 : sq 512 149 B512_149 := sq_take 5 (e := 159) (by decide +kernel) sq512_159
theorem sq512_145 : sq 512 145 B512_145 := sq_take 3 (e := 149) (by decide +kernel) True.intro
theorem sq512_139 : sq 512 139 B512_139 := sq_take 3 (e := 145) (by decide +kernel) sq512_145
theorem sq512_138 : sq 512 138 B512_138 := sq_take 2 (e := 139) (by decide +kernel) True.intro
theorem sq512_121 : sq 512 121 B512_121 := sq_take 9 (e := 138) (by decide +kernel) sq512_138
theorem sq512_118 : sq 512 118 B512_118 := sq_take 2 (e := 121) (by decide +kernel) True.intro
theorem sq512_112 : sq 512 112 B512_112 := sq_take 4 (e := 118) (by decide +kernel) sq512_118
theorem sq512_88 : sq 512 88 B512_88 := sq_take 12 (e := 112) (by decide +kernel) sq512_112
theorem sq512_80 : sq 512 80 B512_80 := sq_take 5 (e := 88) (by decide +kernel) True.intro
theorem sq512_76 : sq 512 76 B512_76 := sq_take 3 (e := 80) (by decide +kernel) sq512_80
theorem sq512_68 : sq 512 68 B512_68 := sq_take 4 (e := 76) (by decide +kernel) sq512_76
theorem sq512_65 : sq 512 65 B512_65 := sq_take 2 (e := 68) (by decide +kernel) True.intro
theorem sq512_57 : sq 512 57 B512_57 := sq_take 5 (e := 65) (by decide +kernel) sq512_65
theorem sq512_54 : sq 512 54 B512_54 := sq_take 2 (e := 57) (by decide +kernel) sq512_57
theorem sq512_31 : sq 512 31 B512_31 := sq_take 13 (e := 54) (by decide +kernel) sq512_54
theorem sq512_22 : sq 512 22 B512_22 := sq_take 5 (e := 31) (by decide +kernel) sq512_31
theorem sq512_14 : sq 512 14 B512_14 := sq_take 5 (e := 22) (by decide +kernel) sq512_22
theorem sq512_8 : sq 512 8 B512_8 := sq_take 4 (e := 14) (by decide +kernel) sq512_14
theorem sq512_5 : sq 512 5 B512_5 := sq_take 2 (e := 8) (by decide +kernel) sq512_8
theorem sq512_0 : sq 512 0 B512_0 := sq_take 4 (e := 5) (by decide +kernel) sq512_5
set_option maxRecDepth 100000 in
theorem sqM_512 : ∀ b, sq 512 b (tG 512 b) := show ∀ b, sq 512 b (lkB tb512 b) from lkB_sq (List.forall_mem_cons.mpr ⟨sq512_0, List.forall_mem_cons.mpr ⟨sq512_5, List.forall_mem_cons.mpr ⟨sq512_8, List.forall_mem_cons.mpr ⟨sq512_14, List.forall_mem_cons.mpr ⟨sq512_22, List.forall_mem_cons.mpr ⟨sq512_31, List.forall_mem_cons.mpr ⟨sq512_54, List.forall_mem_cons.mpr ⟨sq512_57, List.forall_mem_cons.mpr ⟨sq512_65, List.forall_mem_cons.mpr ⟨sq512_68, List.forall_mem_cons.mpr ⟨sq512_76, List.forall_mem_cons.mpr ⟨sq512_80, List.forall_mem_cons.mpr ⟨sq512_88, List.forall_mem_cons.mpr ⟨sq512_112, List.forall_mem_cons.mpr ⟨sq512_118, List.forall_mem_cons.mpr ⟨sq512_121, List.forall_mem_cons.mpr ⟨sq512_138, List.forall_mem_cons.mpr ⟨sq512_139, List.forall_mem_cons.mpr ⟨sq512_145, List.forall_mem_cons.mpr ⟨sq512_149, List.forall_mem_cons.mpr ⟨sq512_159, List.forall_mem_cons.mpr ⟨sq512_167, List.forall_mem_cons.mpr ⟨sq512_168, List.forall_mem_cons.mpr ⟨sq512_200, List.forall_mem_cons.mpr ⟨sq512_201, List.forall_mem_cons.mpr ⟨sq512_244, List.forall_mem_cons.mpr ⟨sq512_250, List.forall_mem_cons.mpr ⟨sq512_251, List.forall_mem_cons.mpr ⟨sq512_267, List.forall_mem_cons.mpr ⟨sq512_270, List.forall_mem_cons.mpr ⟨sq512_273, List.forall_mem_cons.mpr ⟨sq512_290, (fun _ h => absurd h List.not_mem_nil)⟩⟩⟩⟩⟩⟩⟩⟩⟩⟩⟩⟩⟩⟩⟩⟩⟩⟩⟩⟩⟩⟩⟩⟩⟩⟩⟩⟩⟩⟩⟩⟩)
theorem sq513_284 : sq 513 284 B513_284 := sq_take 2 (e := 285) (by decide +kernel) True.intro
theorem sq513_269 : sq 513 269 B513_269 := sq_take 9 (e := 284) (by decide +kernel) sq513_284
theorem sq513_266 : sq 513 266 B513_266 := sq_take 2 (e := 269) (by decide +kernel) True.intro
theorem sq513_251 : sq 513 251 B513_251 := sq_take 8 (e := 266) (by decide +kernel) sq513_266
theorem sq513_235 : sq 513 235 B513_235 := sq_take 9 (e := 251) (by decide +kernel) sq513_251
theorem sq513_227 : sq 513 227 B513_227 := sq_take 5 (e := 235) (by decide +kernel) True.intro
theorem sq513_221 : sq 513 221 B513_221 := sq_take 4 (e := 227) (by decide +kernel) sq513_227
theorem sq513_191 : sq 513 191 B513_191 := sq_take 16 (e := 221) (by decide +kernel) sq513_221
theorem sq513_188 : sq 513 188 B513_188 := sq_take 2 (e := 191) (by decide +kernel) True.intro
theorem sq513_179 : sq 513 179 B513_179 := sq_take 5 (e := 188) (by decide +kernel) sq513_188
theorem sq513_163 : sq 513 163 B513_163 := sq_take 9 (e := 179) (by decide +kernel) sq513_179
theorem sq513_160 : sq 513 160 B513_160 := sq_take 2 (e := 163) (by decide +kernel) True.intro
theorem sq513_152 : sq 513 152 B513_152 := sq_take 5 (e := 160) (by decide +kernel) sq513_160
theorem sq513_148 : sq 513 148 B513_148 := sq_take 3 (e := 152) (by decide +kernel) sq513_152
theorem sq513_141 : sq 513 141 B513_141 := sq_take 5 (e := 148) (by decide +kernel) sq513_148
theorem sq513_138 : sq 513 138 B513_138 := sq_take 2 (e := 141) (by decide +kernel) True.intro
theorem sq513_99 : sq 513 99 B513_99 := sq_take 21 (e := 138) (by decide +kernel) sq513_138
theorem sq513_96 : sq 513 96 B513_96 := sq_take 2 (e := 99) (by decide +kernel) True.intro
theorem sq513_87 : sq 513 87 B513_87 := sq_take 5 (e := 96) (by decide +kernel) sq513_96
theorem sq513_81 : sq 513 81 B513_81 := sq_take 3 (e := 87) (by decide +kernel) sq513_87
theorem sq513_73 : sq 513 73 B513_73 := sq_take 5 (e := 81) (by decide +kernel) True.intro
theorem sq513_65 : sq 513 65 B513_65 := sq_take 5 (e := 73) (by decide +kernel) sq513_73
theorem sq513_62 : sq 513 62 B513_62 := sq_take 2 (e := 65) (by decide +kernel) sq513_65
theorem sq513_57 : sq 513 57 B513_57 := sq_take 4 (e := 62) (by decide +kernel) sq513_62
theorem sq513_41 : sq 513 41 B513_41 := sq_take 8 (e := 57) (by decide +kernel) sq513_57
theorem sq513_31 : sq 513 31 B513_31 := sq_take 6 (e := 41) (by decide +kernel) sq513_41
theorem sq513_22 : sq 513 22 B513_22 := sq_take 5 (e := 31) (by decide +kernel) sq513_31
theorem sq513_14 : sq 513 14 B513_14 := sq_take 5 (e := 22) (by decide +kernel) sq513_22
theorem sq513_8 : sq 513 8 B513_8 := sq_take 4 (e := 14) (by decide +kernel) sq513_14
theorem sq513_5 : sq 513 5 B513_5 := sq_take 2 (e := 8) (by decide +kernel) sq513_8
theorem sq513_0 : sq 513 0 B513_0 := sq_take 4 (e := 5) (by decide +kernel) sq513_5
set_option maxRecDepth 100000 in
theorem sqM_513 : ∀ b, sq 513 b (tG 513 b) := show ∀ b, sq 513 b (lkB tb513 b) from lkB_sq (List.forall_mem_cons.mpr ⟨sq513_0, List.forall_mem_cons.mpr ⟨sq513_5, List.forall_mem_cons.mpr ⟨sq513_8, List.forall_mem_cons.mpr ⟨sq513_14, List.forall_mem_cons.mpr ⟨sq513_22, List.forall_mem_cons.mpr ⟨sq513_31, List.forall_mem_cons.mpr ⟨sq513_41, List.forall_mem_cons.mpr ⟨sq513_57, List.forall_mem_cons.mpr ⟨sq513_62, List.forall_mem_cons.mpr ⟨sq513_65, List.forall_mem_cons.mpr ⟨sq513_73, List.forall_mem_cons.mpr ⟨sq513_81, List.forall_mem_cons.mpr ⟨sq513_87, List.forall_mem_cons.mpr ⟨sq513_96, List.forall_mem_cons.mpr ⟨sq513_99, List.forall_mem_cons.mpr ⟨sq513_138, List.forall_mem_cons.mpr ⟨sq513_141, List.forall_mem_cons.mpr ⟨sq513_148, List.forall_mem_cons.mpr ⟨sq513_152, List.forall_mem_cons.mpr ⟨sq513_160, List.forall_mem_cons.mpr ⟨sq513_163, List.forall_mem_cons.mpr ⟨sq513_179, List.forall_mem_cons.mpr ⟨sq513_188, List.forall_mem_cons.mpr ⟨sq513_191, List.forall_mem_cons.mpr ⟨sq513_221, List.forall_mem_cons.mpr ⟨sq513_227, List.forall_mem_cons.mpr ⟨sq513_235, List.forall_mem_cons.mpr ⟨sq513_251, List.forall_mem_cons.mpr ⟨sq513_266, List.forall_mem_cons.mpr ⟨sq513_269, List.forall_mem_cons.mpr ⟨sq513_284, (fun _ h => absurd h List.not_mem_nil)⟩⟩⟩⟩⟩⟩⟩⟩⟩⟩⟩⟩⟩⟩⟩⟩⟩⟩⟩⟩⟩⟩⟩⟩⟩⟩⟩⟩⟩⟩⟩)
theorem sq514_120 : sq 514 120 B514_120 := sq_take 4 (e := 123) (by decide +kernel) True.intro
theorem sq514_114 : sq 514 114 B514_114 := sq_take 4 (e := 120) (by decide +kernel) sq514_120
theorem sq514_66 : sq 514 66 B514_66 := sq_take 29 (e := 114) (by decide +kernel) True.intro
theorem sq514_30 : sq 514 30 B514_30 := sq_take 21 (e := 66) (by decide +kernel) sq514_66
theorem sq514_17 : sq 514 17 B514_17 := sq_take 7 (e := 30) (by decide +kernel) sq514_30
theorem sq514_15 : sq 514 15 B514_15 := sq_take 3 (e := 17) (by decide +kernel) True.intro
theorem sq514_0 : sq 514 0 B514_0 := sq_take 8 (e := 15) (by decide +kernel) sq514_15
set_option maxRecDepth 100000 in
theorem sqM_514 : ∀ b, sq 514 b (tG 514 b) := show ∀ b, sq 514 b (lkB tb514 b) from lkB_sq (List.forall_mem_cons.mpr ⟨sq514_0, List.forall_mem_cons.mpr ⟨sq514_15, List.forall_mem_cons.mpr ⟨sq514_17, List.forall_mem_cons.mpr ⟨sq514_30, List.forall_mem_cons.mpr ⟨sq514_66, List.forall_mem_cons.mpr ⟨sq514_114, List.forall_mem_cons.mpr ⟨sq514_120, (fun _ h => absurd h List.not_mem_nil)⟩⟩⟩⟩⟩⟩⟩)
theorem sq515_563 : sq 515 563 B515_563 := sq_take 2 (e := 564) (by decide +kernel) True.intro
theorem sq515_558 : sq 515 558 B515_558 := sq_take 4 (e := 563) (by decide +kernel) sq515_563
theorem sq515_555 : sq 515 555 B515_555 := sq_take 2 (e := 558) (by decide +kernel) True.intro
theorem sq515_550 : sq 515 550 B515_550 := sq_take 3 (e := 555) (by decide +kernel) sq515_555
theorem sq515_548 : sq 515 548 B515_548 := sq_take 1 (e := 550) (by decide +kernel) sq515_550
theorem sq515_535 : sq 515 535 B515_535 := sq_take 5 (e := 548) (by decide +kernel) True.intro
theorem sq515_522 : sq 515 522 B515_522 := sq_take 5 (e := 535) (by decide +kernel) True.intro
theorem sq515_508 : sq 515 508 B515_508 := sq_take 7 (e := 522) (by decide +kernel) True.intro
theorem sq515_474 : sq 515 474 B515_474 := sq_take 17 (e := 508) (by decide +kernel) sq515_508
theorem sq515_434 : sq 515 434 B515_434 := sq_take 17 (e := 474) (by decide +kernel) sq515_474
theorem sq515_431 : sq 515 431 B515_431 := sq_take 2 (e := 434) (by decide +kernel) True.intro
theorem sq515_398 : sq 515 398 B515_398 := sq_take 17 (e := 431) (by decide +kernel) sq515_431
theorem sq515_358 : sq 515 358 B515_358 := sq_take 16 (e := 398) (by decide +kernel) sq515_398
theorem sq515_355 : sq 515 355 B515_355 := sq_take 2 (e := 358) (by decide +kernel) True.intro
theorem sq515_349 : sq 515 349 B515_349 := sq_take 4 (e := 355) (by decide +kernel) sq515_355
theorem sq515_346 : sq 515 346 B515_346 := sq_take 2 (e := 349) (by decide +kernel) sq515_349
theorem sq515_337 : sq 515 337 B515_337 := sq_take 5 (e := 346) (by decide +kernel) sq515_346
theorem sq515_330 : sq 515 330 B515_330 := sq_take 3 (e := 337) (by decide +kernel) sq515_337
theorem sq515_324 : sq 515 324 B515_324 := sq_take 3 (e := 330) (by decide +kernel) True.intro
theorem sq515_320 : sq 515 320 B515_320 := sq_take 2 (e := 324) (by decide +kernel) sq515_324
theorem sq515_302 : sq 515 302 B515_302 := sq_take 9 (e := 320) (by decide +kernel) True.intro
theorem sq515_299 : sq 515 299 B515_299 := sq_take 2 (e := 302) (by decide +kernel) True.intro
theorem sq515_288 : sq 515 288 B515_288 := sq_take 6 (e := 299) (by decide +kernel) sq515_299
theorem sq515_274 : sq 515 274 B515_274 := sq_take 7 (e := 288) (by decide +kernel) sq515_288
theorem sq515_273 : sq 515 273 B515_273 := sq_take 2 (e := 274) (by decide +kernel) sq515_274
theorem sq515_266 : sq 515 266 B515_266 := sq_take 4 (e := 273) (by decide +kernel) True.intro
theorem sq515_262 : sq 515 262 B515_262 := sq_take 3 (e := 266) (by decide +kernel) sq515_266
theorem sq515_238 : sq 515 238 B515_238 := sq_take 11 (e := 262) (by decide +kernel) sq515_262
theorem sq515_237 : sq 515 237 B515_237 := sq_take 2 (e := 238) (by decide +kernel) True.intro
theorem sq515_201 : sq 515 201 B515_201 := sq_take 19 (e := 237) (by decide +kernel) sq515_237
theorem sq515_193 : sq 515 193 B515_193 := sq_take 5 (e := 201) (by decide +kernel) True.intro
theorem sq515_190 : sq 515 190 B515_190 := sq_take 2 (e := 193) (by decide +kernel) sq515_193
theorem sq515_184 : sq 515 184 B515_184 := sq_take 3 (e := 190) (by decide +kernel) sq515_190
theorem sq515_167 : sq 515 167 B515_167 := sq_take 9 (e := 184) (by decide +kernel) True.intro
theorem sq515_163 : sq 515 163 B515_163 := sq_take 2 (e := 167) (by decide +kernel) sq515_167
theorem sq515_160 : sq 515 160 B515_160 := sq_take 2 (e := 163) (by decide +kernel) True.intro
theorem sq515_152 : sq 515 152 B515_152 := sq_take 5 (e := 160) (by decide +kernel) sq515_160
theorem sq515_149 : sq 515 149 B515_149 := sq_take 2 (e := 152) (by decide +kernel) sq515_152
theorem sq515_134 : sq 515 134 B515_134 := sq_take 8 (e := 149) (by decide +kernel) sq515_149
theorem sq515_125 : sq 515 125 B515_125 := sq_take 5 (e := 134) (by decide +kernel) sq515_134
theorem sq515_117 : sq 515 117 B515_117 := sq_take 5 (e := 125) (by decide +kernel) sq515_125
theorem sq515_114 : sq 515 114 B515_114 := sq_take 2 (e := 117) (by decide +kernel) sq515_117
theorem sq515_100 : sq 515 100 B515_100 := sq_take 9 (e := 114) (by decide +kernel) sq515_114
theorem sq515_99 : sq 515 99 B515_99 := sq_take 1 (e := 100) (by decide +kernel) sq515_100
theorem sq515_86 : sq 515 86 B515_86 := sq_take 8 (e := 99) (by decide +kernel) True.intro
theorem sq515_85 : sq 515 85 B515_85 := sq_take 1 (e := 86) (by decide +kernel) sq515_86
theorem sq515_73 : sq 515 73 B515_73 := sq_take 7 (e := 85) (by decide +kernel) True.intro
theorem sq515_72 : sq 515 72 B515_72 := sq_take 2 (e := 73) (by decide +kernel) True.intro
theorem sq515_69 : sq 515 69 B515_69 := sq_take 2 (e := 72) (by decide +kernel) sq515_72
theorem sq515_64 : sq 515 64 B515_64 := sq_take 3 (e := 69) (by decide +kernel) sq515_69
theorem sq515_61 : sq 515 61 B515_61 := sq_take 2 (e := 64) (by decide +kernel) True.intro
theorem sq515_51 : sq 515 51 B515_51 := sq_take 6 (e := 61) (by decide +kernel) sq515_61
theorem sq515_40 : sq 515 40 B515_40 := sq_take 5 (e := 51) (by decide +kernel) sq515_51
theorem sq515_39 : sq 515 39 B515_39 := sq_take 2 (e := 40) (by decide +kernel) True.intro
theorem sq515_28 : sq 515 28 B515_28 := sq_take 5 (e := 39) (by decide +kernel) sq515_39
theorem sq515_21 : sq 515 21 B515_21 := sq_take 4 (e := 28) (by decide +kernel) True.intro
theorem sq515_8 : sq 515 8 B515_8 := sq_take 8 (e := 21) (by decide +kernel) sq515_21
theorem sq515_0 : sq 515 0 B515_0 := sq_take 5 (e := 8) (by decide +kernel) sq515_8
set_option maxRecDepth 100000 in
theorem sqM_515 : ∀ b, sq 515 b (tG 515 b) := show ∀ b, sq 515 b (lkB tb515 b) from lkB_sq (List.forall_mem_cons.mpr ⟨sq515_0, List.forall_mem_cons.mpr ⟨sq515_8, List.forall_mem_cons.mpr ⟨sq515_21, List.forall_mem_cons.mpr ⟨sq515_28, List.forall_mem_cons.mpr ⟨sq515_39, List.forall_mem_cons.mpr ⟨sq515_40, List.forall_mem_cons.mpr ⟨sq515_51, List.forall_mem_cons.mpr ⟨sq515_61, List.forall_mem_cons.mpr ⟨sq515_64, List.forall_mem_cons.mpr ⟨sq515_69, List.forall_mem_cons.mpr ⟨sq515_72, List.forall_mem_cons.mpr ⟨sq515_73, List.forall_mem_cons.mpr ⟨sq515_85, List.forall_mem_cons.mpr ⟨sq515_86, List.forall_mem_cons.mpr ⟨sq515_99, List.forall_mem_cons.mpr ⟨sq515_100, List.forall_mem_cons.mpr ⟨sq515_114, List.forall_mem_cons.mpr ⟨sq515_117, List.forall_mem_cons.mpr ⟨sq515_125, List.forall_mem_cons.mpr ⟨sq515_134, List.forall_mem_cons.mpr ⟨sq515_149, List.forall_mem_cons.mpr ⟨sq515_152, List.forall_mem_cons.mpr ⟨sq515_160, List.forall_mem_cons.mpr ⟨sq515_163, List.forall_mem_cons.mpr ⟨sq515_167, List.forall_mem_cons.mpr ⟨sq515_184, List.forall_mem_cons.mpr ⟨sq515_190, List.forall_mem_cons.mpr ⟨sq515_193, List.forall_mem_cons.mpr ⟨sq515_201, List.forall_mem_cons.mpr ⟨sq515_237, List.forall_mem_cons.mpr ⟨sq515_238, List.forall_mem_cons.mpr ⟨sq515_262, List.forall_mem_cons.mpr ⟨sq515_266, List.forall_mem_cons.mpr ⟨sq515_273, List.forall_mem_cons.mpr ⟨sq515_274, List.forall_mem_cons.mpr ⟨sq515_288, List.forall_mem_cons.mpr ⟨sq515_299, List.forall_mem_cons.mpr ⟨sq515_302, List.forall_mem_cons.mpr ⟨sq515_320, List.forall_mem_cons.mpr ⟨sq515_324, List.forall_mem_cons.mpr ⟨sq515_330, List.forall_mem_cons.mpr ⟨sq515_337, List.forall_mem_cons.mpr ⟨sq515_346, List.forall_mem_cons.mpr ⟨sq515_349, List.forall_mem_cons.mpr ⟨sq515_355, List.forall_mem_cons.mpr ⟨sq515_358, List.forall_mem_cons.mpr ⟨sq515_398, List.forall_mem_cons.mpr ⟨sq515_431, List.forall_mem_cons.mpr ⟨sq515_434, List.forall_mem_cons.mpr ⟨sq515_474, List.forall_mem_cons.mpr ⟨sq515_508, List.forall_mem_cons.mpr ⟨sq515_522, List.forall_mem_cons.mpr ⟨sq515_535, List.forall_mem_cons.mpr ⟨sq515_548, List.forall_mem_cons.mpr ⟨sq515_550, List.forall_mem_cons.mpr ⟨sq515_555, List.forall_mem_cons.mpr ⟨sq515_558, List.forall_mem_cons.mpr ⟨sq515_563, (fun _ h => absurd h List.not_mem_nil)⟩⟩⟩⟩⟩⟩⟩⟩⟩⟩⟩⟩⟩⟩⟩⟩⟩⟩⟩⟩⟩⟩⟩⟩⟩⟩⟩⟩⟩⟩⟩⟩⟩⟩⟩⟩⟩⟩⟩⟩⟩⟩⟩⟩⟩⟩⟩⟩⟩⟩⟩⟩⟩⟩⟩⟩⟩⟩)
theorem sq516_369 : sq 516 369 B516_369 := sq_take 1 (e := 370) (by decide +kernel) True.intro
theorem sq516_364 : sq 516 364 B516_364 := sq_take 4 (e := 369) (by decide +kernel) sq516_369
theorem sq516_351 : sq 516 351 B516_351 := sq_take 6 (e := 364) (by decide +kernel) sq516_364
theorem sq516_342 : sq 516 342 B516_342 := sq_take 5 (e := 351) (by decide +kernel) True.intro
theorem sq516_329 : sq 516 329 B516_329 := sq_take 7 (e := 342) (by decide +kernel) sq516_342
theorem sq516_326 : sq 516 326 B516_326 := sq_take 1 (e := 329) (by decide +kernel) True.intro
theorem sq516_320 : sq 516 320 B516_320 := sq_take 4 (e := 326) (by decide +kernel) True.intro
theorem sq516_310 : sq 516 310 B516_310 := sq_take 6 (e := 320) (by decide +kernel) sq516_320
theorem sq516_304 : sq 516 304 B516_304 := sq_take 4 (e := 310) (by decide +kernel) sq516_310
theorem sq516_296 : sq 516 296 B516_296 := sq_take 5 (e := 304) (by decide +kernel) sq516_304
theorem sq516_276 : sq 516 276 B516_276 := sq_take 10 (e := 296) (by decide +kernel) sq516_296
theorem sq516_275 : sq 516 275 B516_275 := sq_take 1 (e := 276) (by decide +kernel) sq516_276
theorem sq516_271 : sq 516 271 B516_271 := sq_take 3 (e := 275) (by decide +kernel) True.intro
theorem sq516_268 : sq 516 268 B516_268 := sq_take 2 (e := 271) (by decide +kernel) sq516_271
theorem sq516_253 : sq 516 253 B516_253 := sq_take 9 (e := 268) (by decide +kernel) sq516_268
theorem sq516_244 : sq 516 244 B516_244 := sq_take 5 (e := 253) (by decide +kernel) sq516_253
theorem sq516_235 : sq 516 235 B516_235 := sq_take 5 (e := 244) (by decide +kernel) sq516_244
theorem sq516_220 : sq 516 220 B516_220 := sq_take 8 (e := 235) (by decide +kernel) sq516_235
theorem sq516_219 : sq 516 219 B516_219 := sq_take 1 (e := 220) (by decide +kernel) sq516_220
theorem sq516_215 : sq 516 215 B516_215 := sq_take 3 (e := 219) (by decide +kernel) True.intro
theorem sq516_212 : sq 516 212 B516_212 := sq_take 2 (e := 215) (by decide +kernel) sq516_215
theorem sq516_197 : sq 516 197 B516_197 := sq_take 9 (e := 212) (by decide +kernel) sq516_212
theorem sq516_188 : sq 516 188 B516_188 := sq_take 5 (e := 197) (by decide +kernel) sq516_197
theorem sq516_177 : sq 516 177 B516_177 := sq_take 6 (e := 188) (by decide +kernel) sq516_188
theorem sq516_176 : sq 516 176 B516_176 := sq_take 2 (e := 177) (by decide +kernel) sq516_177
theorem sq516_172 : sq 516 172 B516_172 := sq_take 3 (e := 176) (by decide +kernel) True.intro
theorem sq516_169 : sq 516 169 B516_169 := sq_take 2 (e := 172) (by decide +kernel) sq516_172
theorem sq516_153 : sq 516 153 B516_153 := sq_take 8 (e := 169) (by decide +kernel) sq516_169
theorem sq516_123 : sq 516 123 B516_123 := sq_take 14 (e := 153) (by decide +kernel) sq516_153
theorem sq516_122 : sq 516 122 B516_122 := sq_take 1 (e := 123) (by decide +kernel) sq516_123
theorem sq516_118 : sq 516 118 B516_118 := sq_take 3 (e := 122) (by decide +kernel) True.intro
theorem sq516_90 : sq 516 90 B516_90 := sq_take 14 (e := 118) (by decide +kernel) sq516_118
theorem sq516_89 : sq 516 89 B516_89 := sq_take 2 (e := 90) (by decide +kernel) sq516_90
theorem sq516_82 : sq 516 82 B516_82 := sq_take 4 (e := 89) (by decide +kernel) True.intro
theorem sq516_78 : sq 516 78 B516_78 := sq_take 3 (e := 82) (by decide +kernel) sq516_82
theorem sq516_69 : sq 516 69 B516_69 := sq_take 4 (e := 78) (by decide +kernel) sq516_78
theorem sq516_65 : sq 516 65 B516_65 := sq_take 2 (e := 69) (by decide +kernel) True.intro
theorem sq516_61 : sq 516 61 B516_61 := sq_take 2 (e := 65) (by decide +kernel) sq516_65
theorem sq516_42 : sq 516 42 B516_42 := sq_take 10 (e := 61) (by decide +kernel) True.intro
theorem sq516_29 : sq 516 29 B516_29 := sq_take 8 (e := 42) (by decide +kernel) sq516_42
theorem sq516_26 : sq 516 26 B516_26 := sq_take 1 (e := 29) (by decide +kernel) sq516_29
theorem sq516_23 : sq 516 23 B516_23 := sq_take 2 (e := 26) (by decide +kernel) True.intro
theorem sq516_20 : sq 516 20 B516_20 := sq_take 2 (e := 23) (by decide +kernel) sq516_23
theorem sq516_8 : sq 516 8 B516_8 := sq_take 7 (e := 20) (by decide +kernel) sq516_20
theorem sq516_5 : sq 516 5 B516_5 := sq_take 2 (e := 8) (by decide +kernel) sq516_8
theorem sq516_0 : sq 516 0 B516_0 := sq_take 4 (e := 5) (by decide +kernel) sq516_5
set_option maxRecDepth 100000 in
theorem sqM_516 : ∀ b, sq 516 b (tG 516 b) := show ∀ b, sq 516 b (lkB tb516 b) from lkB_sq (List.forall_mem_cons.mpr ⟨sq516_0, List.forall_mem_cons.mpr ⟨sq516_5, List.forall_mem_cons.mpr ⟨sq516_8, List.forall_mem_cons.mpr ⟨sq516_20, List.forall_mem_cons.mpr ⟨sq516_23, List.forall_mem_cons.mpr ⟨sq516_26, List.forall_mem_cons.mpr ⟨sq516_29, List.forall_mem_cons.mpr ⟨sq516_42, List.forall_mem_cons.mpr ⟨sq516_61, List.forall_mem_cons.mpr ⟨sq516_65, List.forall_mem_cons.mpr ⟨sq516_69, List.forall_mem_cons.mpr ⟨sq516_78, List.forall_mem_cons.mpr ⟨sq516_82, List.forall_mem_cons.mpr ⟨sq516_89, List.forall_mem_cons.mpr ⟨sq516_90, List.forall_mem_cons.mpr ⟨sq516_118, List.forall_mem_cons.mpr ⟨sq516_122, List.forall_mem_cons.mpr ⟨sq516_123, List.forall_mem_cons.mpr ⟨sq516_153, List.forall_mem_cons.mpr ⟨sq516_169, List.forall_mem_cons.mpr ⟨sq516_172, List.forall_mem_cons.mpr ⟨sq516_176, List.forall_mem_cons.mpr ⟨sq516_177, List.forall_mem_cons.mpr ⟨sq516_188, List.forall_mem_cons.mpr ⟨sq516_197, List.forall_mem_cons.mpr ⟨sq516_212, List.forall_mem_cons.mpr ⟨sq516_215, List.forall_mem_cons.mpr ⟨sq516_219, List.forall_mem_cons.mpr ⟨sq516_220, List.forall_mem_cons.mpr ⟨sq516_235, List.forall_mem_cons.mpr ⟨sq516_244, List.forall_mem_cons.mpr ⟨sq516_253, List.forall_mem_cons.mpr ⟨sq516_268, List.forall_mem_cons.mpr ⟨sq516_271, List.forall_mem_cons.mpr ⟨sq516_275, List.forall_mem_cons.mpr ⟨sq516_276, List.forall_mem_cons.mpr ⟨sq516_296, List.forall_mem_cons.mpr ⟨sq516_304, List.forall_mem_cons.mpr ⟨sq516_310, List.forall_mem_cons.mpr ⟨sq516_320, List.forall_mem_cons.mpr ⟨sq516_326, List.forall_mem_cons.mpr ⟨sq516_329, List.forall_mem_cons.mpr ⟨sq516_342, List.forall_mem_cons.mpr ⟨sq516_351, List.forall_mem_cons.mpr ⟨sq516_364, List.forall_mem_cons.mpr ⟨sq516_369, (fun _ h => absurd h List.not_mem_nil)⟩⟩⟩⟩⟩⟩⟩⟩⟩⟩⟩⟩⟩⟩⟩⟩⟩⟩⟩⟩⟩⟩⟩⟩⟩⟩⟩⟩⟩⟩⟩⟩⟩⟩⟩⟩⟩⟩⟩⟩⟩⟩⟩⟩⟩⟩)
