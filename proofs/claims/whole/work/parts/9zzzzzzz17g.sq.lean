theorem sq354_59 : sq 354 59 B354_59 := sq_take 1 (e := 60) (by decide +kernel) True.intro
theorem sq354_58 : sq 354 58 B354_58 := sq_take 2 (e := 59) (by decide +kernel) sq354_59
theorem sq354_36 : sq 354 36 B354_36 := sq_take 13 (e := 58) (by decide +kernel) True.intro
theorem sq354_14 : sq 354 14 B354_14 := sq_take 12 (e := 36) (by decide +kernel) True.intro
theorem sq354_4 : sq 354 4 B354_4 := sq_take 6 (e := 14) (by decide +kernel) True.intro
theorem sq354_0 : sq 354 0 B354_0 := sq_take 3 (e := 4) (by decide +kernel) sq354_4
set_option maxRecDepth 100000 in
theorem sqM_354 : ∀ b, sq 354 b (tG 354 b) := show ∀ b, sq 354 b (lkB tb354 b) from lkB_sq (List.forall_mem_cons.mpr ⟨sq354_0, List.forall_mem_cons.mpr ⟨sq354_4, List.forall_mem_cons.mpr ⟨sq354_14, List.forall_mem_cons.mpr ⟨sq354_36, List.forall_mem_cons.mpr ⟨sq354_58, List.forall_mem_cons.mpr ⟨sq354_59, (fun _ h => absurd h List.not_mem_nil)⟩⟩⟩⟩⟩⟩)
theorem sq355_192 : sq 355 192 B355_192 := sq_take 2 (e := 193) (by decide +kernel) True.intro
theorem sq355_187 : sq 355 187 B355_187 := sq_take 3 (e := 192) (by decide +kernel) sq355_192
theorem sq355_184 : sq 355 184 B355_184 := sq_take 2 (e := 187) (by decide +kernel) True.intro
theorem sq355_177 : sq 355 177 B355_177 := sq_take 4 (e := 184) (by decide +kernel) sq355_184
theorem sq355_173 : sq 355 173 B355_173 := sq_take 2 (e := 177) (by decide +kernel) sq355_177
theorem sq355_160 : sq 355 160 B355_160 := sq_take 8 (e := 173) (by decide +kernel) True.intro
theorem sq355_157 : sq 355 157 B355_157 := sq_take 2 (e := 160) (by decide +kernel) sq355_160
theorem sq355_154 : sq 355 154 B355_154 := sq_take 2 (e := 157) (by decide +kernel) sq355_157
theorem sq355_146 : sq 355 146 B355_146 := sq_take 5 (e := 154) (by decide +kernel) sq355_154
theorem sq355_143 : sq 355 143 B355_143 := sq_take 2 (e := 146) (by decide +kernel) sq355_146
theorem sq355_138 : sq 355 138 B355_138 := sq_take 4 (e := 143) (by decide +kernel) sq355_143
theorem sq355_130 : sq 355 130 B355_130 := sq_take 5 (e := 138) (by decide +kernel) sq355_138
theorem sq355_126 : sq 355 126 B355_126 := sq_take 2 (e := 130) (by decide +kernel) sq355_130
theorem sq355_102 : sq 355 102 B355_102 := sq_take 13 (e := 126) (by decide +kernel) True.intro
theorem sq355_88 : sq 355 88 B355_88 := sq_take 9 (e := 102) (by decide +kernel) True.intro
theorem sq355_75 : sq 355 75 B355_75 := sq_take 8 (e := 88) (by decide +kernel) sq355_88
theorem sq355_58 : sq 355 58 B355_58 := sq_take 10 (e := 75) (by decide +kernel) True.intro
theorem sq355_48 : sq 355 48 B355_48 := sq_take 6 (e := 58) (by decide +kernel) sq355_58
theorem sq355_43 : sq 355 43 B355_43 := sq_take 4 (e := 48) (by decide +kernel) sq355_48
theorem sq355_38 : sq 355 38 B355_38 := sq_take 3 (e := 43) (by decide +kernel) sq355_43
theorem sq355_33 : sq 355 33 B355_33 := sq_take 3 (e := 38) (by decide +kernel) sq355_38
theorem sq355_20 : sq 355 20 B355_20 := sq_take 8 (e := 33) (by decide +kernel) True.intro
theorem sq355_15 : sq 355 15 B355_15 := sq_take 3 (e := 20) (by decide +kernel) sq355_20
theorem sq355_5 : sq 355 5 B355_5 := sq_take 6 (e := 15) (by decide +kernel) sq355_15
theorem sq355_0 : sq 355 0 B355_0 := sq_take 4 (e := 5) (by decide +kernel) sq355_5
set_option maxRecDepth 100000 in
theorem sqM_355 : ∀ b, sq 355 b (tG 355 b) := show ∀ b, sq 355 b (lkB tb355 b) from lkB_sq (List.forall_mem_cons.mpr ⟨sq355_0, List.forall_mem_cons.mpr ⟨sq355_5, List.forall_mem_cons.mpr ⟨sq355_15, List.forall_mem_cons.mpr ⟨sq355_20, List.forall_mem_cons.mpr ⟨sq355_33, List.forall_mem_cons.mpr ⟨sq355_38, List.forall_mem_cons.mpr ⟨sq355_43, List.forall_mem_cons.mpr ⟨sq355_48, List.forall_mem_cons.mpr ⟨sq355_58, List.forall_mem_cons.mpr ⟨sq355_75, List.forall_mem_cons.mpr ⟨sq355_88, List.forall_mem_cons.mpr ⟨sq355_102, List.forall_mem_cons.mpr ⟨sq355_126, List.forall_mem_cons.mpr ⟨sq355_130, List.forall_mem_cons.mpr ⟨sq355_138, List.forall_mem_cons.mpr ⟨sq355_143, List.forall_mem_cons.mpr ⟨sq355_146, List.forall_mem_cons.mpr ⟨sq355_154, List.forall_mem_cons.mpr ⟨sq355_157, List.forall_mem_cons.mpr ⟨sq355_160, List.forall_mem_cons.mpr ⟨sq355_173, List.forall_mem_cons.mpr ⟨sq355_177, List.forall_mem_cons.mpr ⟨sq355_184, List.forall_mem_cons.mpr ⟨sq355_187, List.forall_mem_cons.mpr ⟨sq355_192, (fun _ h => absurd h List.not_mem_nil)⟩⟩⟩⟩⟩⟩⟩⟩⟩⟩⟩⟩⟩⟩⟩⟩⟩⟩⟩⟩⟩⟩⟩⟩⟩)
theorem sq356_218 : sq 356 218 B356_218 := sq_take 1 (e := 219) (by decide +kernel) True.intro
theorem sq356_215 : sq 356 215 B356_215 := sq_take 2 (e := 218) (by decide +kernel) True.intro
theorem sq356_186 : sq 356 186 B356_186 := sq_take 18 (e := 215) (by decide +kernel) sq356_215
theorem sq356_185 : sq 356 185 B356_185 := sq_take 2 (e := 186) (by decide +kernel) sq356_186
theorem sq356_181 : sq 356 181 B356_181 := sq_take 3 (e := 185) (by decide +kernel) True.intro
theorem sq356_162 : sq 356 162 B356_162 := sq_take 10 (e := 181) (by decide +kernel) sq356_181
theorem sq356_143 : sq 356 143 B356_143 := sq_take 11 (e := 162) (by decide +kernel) sq356_162
theorem sq356_135 : sq 356 135 B356_135 := sq_take 5 (e := 143) (by decide +kernel) sq356_143
theorem sq356_132 : sq 356 132 B356_132 := sq_take 2 (e := 135) (by decide +kernel) sq356_135
theorem sq356_127 : sq 356 127 B356_127 := sq_take 4 (e := 132) (by decide +kernel) sq356_132
theorem sq356_126 : sq 356 126 B356_126 := sq_take 1 (e := 127) (by decide +kernel) True.intro
theorem sq356_108 : sq 356 108 B356_108 := sq_take 11 (e := 126) (by decide +kernel) True.intro
theorem sq356_105 : sq 356 105 B356_105 := sq_take 2 (e := 108) (by decide +kernel) sq356_108
theorem sq356_89 : sq 356 89 B356_89 := sq_take 11 (e := 105) (by decide +kernel) sq356_105
theorem sq356_88 : sq 356 88 B356_88 := sq_take 1 (e := 89) (by decide +kernel) sq356_89
theorem sq356_64 : sq 356 64 B356_64 := sq_take 14 (e := 88) (by decide +kernel) True.intro
theorem sq356_61 : sq 356 61 B356_61 := sq_take 2 (e := 64) (by decide +kernel) sq356_64
theorem sq356_56 : sq 356 56 B356_56 := sq_take 4 (e := 61) (by decide +kernel) sq356_61
theorem sq356_43 : sq 356 43 B356_43 := sq_take 8 (e := 56) (by decide +kernel) sq356_56
theorem sq356_40 : sq 356 40 B356_40 := sq_take 2 (e := 43) (by decide +kernel) sq356_43
theorem sq356_30 : sq 356 30 B356_30 := sq_take 6 (e := 40) (by decide +kernel) sq356_40
theorem sq356_20 : sq 356 20 B356_20 := sq_take 6 (e := 30) (by decide +kernel) sq356_30
theorem sq356_15 : sq 356 15 B356_15 := sq_take 4 (e := 20) (by decide +kernel) sq356_20
theorem sq356_0 : sq 356 0 B356_0 := sq_take 10 (e := 15) (by decide +kernel) sq356_15
set_option maxRecDepth 100000 in
theorem sqM_356 : ∀ b, sq 356 b (tG 356 b) := show ∀ b, sq 356 b (lkB tb356 b) from lkB_sq (List.forall_mem_cons.mpr ⟨sq356_0, List.forall_mem_cons.mpr ⟨sq356_15, List.forall_mem_cons.mpr ⟨sq356_20, List.forall_mem_cons.mpr ⟨sq356_30, List.forall_mem_cons.mpr ⟨sq356_40, List.forall_mem_cons.mpr ⟨sq356_43, List.forall_mem_cons.mpr ⟨sq356_56, List.forall_mem_cons.mpr ⟨sq356_61, List.forall_mem_cons.mpr ⟨sq356_64, List.forall_mem_cons.mpr ⟨sq356_88, List.forall_mem_cons.mpr ⟨sq356_89, List.forall_mem_cons.mpr ⟨sq356_105, List.forall_mem_cons.mpr ⟨sq356_108, List.forall_mem_cons.mpr ⟨sq356_126, List.forall_mem_cons.mpr ⟨sq356_127, List.forall_mem_cons.mpr ⟨sq356_132, List.forall_mem_cons.mpr ⟨sq356_135, List.forall_mem_cons.mpr ⟨sq356_143, List.forall_mem_cons.mpr ⟨sq356_162, List.forall_mem_cons.mpr ⟨sq356_181, List.forall_mem_cons.mpr ⟨sq356_185, List.forall_mem_cons.mpr ⟨sq356_186, List.forall_mem_cons.mpr ⟨sq356_215, List.forall_mem_cons.mpr ⟨sq356_218, (fun _ h => absurd h List.not_mem_nil)⟩⟩⟩⟩⟩⟩⟩⟩⟩⟩⟩⟩⟩⟩⟩⟩⟩⟩⟩⟩⟩⟩⟩⟩)
theorem sq357_282 : sq 357 282 B357_282 := sq_take 1 (e := 283) (by decide +kernel) True.intro
theorem sq357_277 : sq 357 277 B357_277 := sq_take 3 (e := 282) (by decide +kernel) sq357_282
theorem sq357_259 : sq 357 259 B357_259 := sq_take 11 (e := 277) (by decide +kernel) True.intro
theorem sq357_169 : sq 357 169 B357_169 := sq_take 46 (e := 259) (by decide +kernel) sq357_259
theorem sq357_146 : sq 357 146 B357_146 := sq_take 15 (e := 169) (by decide +kernel) True.intro
theorem sq357_68 : sq 357 68 B357_68 := sq_take 40 (e := 146) (by decide +kernel) sq357_146
theorem sq357_29 : sq 357 29 B357_29 := sq_take 25 (e := 68) (by decide +kernel) True.intro
theorem sq357_11 : sq 357 11 B357_11 := sq_take 11 (e := 29) (by decide +kernel) sq357_29
theorem sq357_5 : sq 357 5 B357_5 := sq_take 5 (e := 11) (by decide +kernel) sq357_11
theorem sq357_0 : sq 357 0 B357_0 := sq_take 4 (e := 5) (by decide +kernel) sq357_5
set_option maxRecDepth 100000 in
theorem sqM_357 : ∀ b, sq 357 b (tG 357 b) := show ∀ b, sq 357 b (lkB tb357 b) from lkB_sq (List.forall_mem_cons.mpr ⟨sq357_0, List.forall_mem_cons.mpr ⟨sq357_5, List.forall_mem_cons.mpr ⟨sq357_11, List.forall_mem_cons.mpr ⟨sq357_29, List.forall_mem_cons.mpr ⟨sq357_68, List.forall_mem_cons.mpr ⟨sq357_146, List.forall_mem_cons.mpr ⟨sq357_169, List.forall_mem_cons.mpr ⟨sq357_259, List.forall_mem_cons.mpr ⟨sq357_277, List.forall_mem_cons.mpr ⟨sq357_282, (fun _ h => absurd h List.not_mem_nil)⟩⟩⟩⟩⟩⟩⟩⟩⟩⟩)
theorem sq358_12 : sq 358 12 B358_12 := sq_take 1 (e := 13) (by decide +kernel) True.intro
theorem sq358_11 : sq 358 11 B358_11 := sq_take 1 (e := 12) (by decide +kernel) sq358_12
theorem sq358_0 : sq 358 0 B358_0 := sq_take 6 (e := 11) (by decide +kernel) True.intro
set_option maxRecDepth 100000 in
theorem sqM_358 : ∀ b, sq 358 b (tG 358 b) := show ∀ b, sq 358 b (lkB tb358 b) from lkB_sq (List.forall_mem_cons.mpr ⟨sq358_0, List.forall_mem_cons.mpr ⟨sq358_11, List.forall_mem_cons.mpr ⟨sq358_12, (fun _ h => absurd h List.not_mem_nil)⟩⟩⟩)
theorem sq359_16 : sq 359 16 B359_16 := sq_take 2 (e := 20) (by decide +kernel) True.intro
theorem sq359_12 : sq 359 12 B359_12 := sq_take 2 (e := 16) (by decide +kernel) sq359_16
theorem sq359_0 : sq 359 0 B359_0 := sq_take 7 (e := 12) (by decide +kernel) True.intro
set_option maxRecDepth 100000 in
theorem sqM_359 : ∀ b, sq 359 b (tG 359 b) := show ∀ b, sq 359 b (lkB tb359 b) from lkB_sq (List.forall_mem_cons.mpr ⟨sq359_0, List.forall_mem_cons.mpr ⟨sq359_12, List.forall_mem_cons.mpr ⟨sq359_16, (fun _ h => absurd h List.not_mem_nil)⟩⟩⟩)
theorem sq360_21 : sq 360 21 B360_21 := sq_take 1 (e := 22) (by decide +kernel) True.intro
theorem sq360_20 : sq 360 20 B360_20 := sq_take 2 (e := 21) (by decide +kernel) sq360_21
theorem sq360_0 : sq 360 0 B360_0 := sq_take 11 (e := 20) (by decide +kernel) True.intro
set_option maxRecDepth 100000 in
theorem sqM_360 : ∀ b, sq 360 b (tG 360 b) := show ∀ b, sq 360 b (lkB tb360 b) from lkB_sq (List.forall_mem_cons.mpr ⟨sq360_0, List.forall_mem_cons.mpr ⟨sq360_20, List.forall_mem_cons.mpr ⟨sq360_21, (fun _ h => absurd h List.not_mem_nil)⟩⟩⟩)
theorem sq361_34 : sq 361 34 B361_34 := sq_take 2 (e := 35) (by decide +kernel) True.intro
theorem sq361_27 : sq 361 27 B361_27 := sq_take 4 (e := 34) (by decide +kernel) sq361_34
theorem sq361_23 : sq 361 23 B361_23 := sq_take 3 (e := 27) (by decide +kernel) sq361_27
theorem sq361_12 : sq 361 12 B361_12 := sq_take 6 (e := 23) (by decide +kernel) sq361_23
theorem sq361_4 : sq 361 4 B361_4 := sq_take 5 (e := 12) (by decide +kernel) sq361_12
theorem sq361_0 : sq 361 0 B361_0 := sq_take 3 (e := 4) (by decide +kernel) sq361_4
set_option maxRecDepth 100000 in
theorem sqM_361 : ∀ b, sq 361 b (tG 361 b) := show ∀ b, sq 361 b (lkB tb361 b) from lkB_sq (List.forall_mem_cons.mpr ⟨sq361_0, List.forall_mem_cons.mpr ⟨sq361_4, List.forall_mem_cons.mpr ⟨sq361_12, List.forall_mem_cons.mpr ⟨sq361_23, List.forall_mem_cons.mpr ⟨sq361_27, List.forall_mem_cons.mpr ⟨sq361_34, (fun _ h => absurd h List.not_mem_nil)⟩⟩⟩⟩⟩⟩)
theorem sq362_77 : sq 362 77 B362_77 := sq_take 2 (e := 79) (by decide +kernel) True.intro
theorem sq362_70 : sq 362 70 B362_70 := sq_take 4 (e := 77) (by decide +kernel) True.intro
theorem sq362_69 : sq 362 69 B362_69 := sq_take 2 (e := 70) (by decide +kernel) sq362_70
theorem sq362_62 : sq 362 62 B362_62 := sq_take 4 (e := 69) (by decide +kernel) True.intro
theorem sq362_35 : sq 362 35 B362_35 := sq_take 16 (e := 62) (by decide +kernel) sq362_62
theorem sq362_30 : sq 362 30 B362_30 := sq_take 4 (e := 35) (by decide +kernel) sq362_35
theorem sq362_26 : sq 362 26 B362_26 := sq_take 4 (e := 30) (by decide +kernel) sq362_30
theorem sq362_24 : sq 362 24 B362_24 := sq_take 2 (e := 26) (by decide +kernel) True.intro
theorem sq362_21 : sq 362 21 B362_21 := sq_take 2 (e := 24) (by decide +kernel) sq362_24
theorem sq362_0 : sq 362 0 B362_0 := sq_take 12 (e := 21) (by decide +kernel) sq362_21
set_option maxRecDepth 100000 in
theorem sqM_362 : ∀ b, sq 362 b (tG 362 b) := show ∀ b, sq 362 b (lkB tb362 b) from lkB_sq (List.forall_mem_cons.mpr ⟨sq362_0, List.forall_mem_cons.mpr ⟨sq362_21, List.forall_mem_cons.mpr ⟨sq362_24, List.forall_mem_cons.mpr ⟨sq362_26, List.forall_mem_cons.mpr ⟨sq362_30, List.forall_mem_cons.mpr ⟨sq362_35, List.forall_mem_cons.mpr ⟨sq362_62, List.forall_mem_cons.mpr ⟨sq362_69, List.forall_mem_cons.mpr ⟨sq362_70, List.forall_mem_cons.mpr ⟨sq362_77, (fun _ h => absurd h List.not_mem_nil)⟩⟩⟩⟩⟩⟩⟩⟩⟩⟩)
theorem sq363_144 : sq 363 144 B363_144 := sq_take 1 (e := 145) (by decide +kernel) True.intro
theorem sq363_142 : sq 363 142 B363_142 := sq_take 1 (e := 144) (by decide +kernel) sq363_144
theorem sq363_127 : sq 363 127 B363_127 := sq_take 7 (e := 142) (by decide +kernel) True.intro
theorem sq363_116 : sq 363 116 B363_116 := sq_take 6 (e := 127) (by decide +kernel) True.intro
theorem sq363_115 : sq 363 115 B363_115 := sq_take 2 (e := 116) (by decide +kernel) sq363_116
theorem sq363_79 : sq 363 79 B363_79 := sq_take 22 (e := 115) (by decide +kernel) True.intro
theorem sq363_62 : sq 363 62 B363_62 := sq_take 11 (e := 79) (by decide +kernel) True.intro
theorem sq363_42 : sq 363 42 B363_42 := sq_take 13 (e := 62) (by decide +kernel) sq363_62
theorem sq363_40 : sq 363 40 B363_40 := sq_take 2 (e := 42) (by decide +kernel) True.intro
theorem sq363_0 : sq 363 0 B363_0 := sq_take 24 (e := 40) (by decide +kernel) sq363_40
set_option maxRecDepth 100000 in
theorem sqM_363 : ∀ b, sq 363 b (tG 363 b) := show ∀ b, sq 363 b (lkB tb363 b) from lkB_sq (List.forall_mem_cons.mpr ⟨sq363_0, List.forall_mem_cons.mpr ⟨sq363_40, List.forall_mem_cons.mpr ⟨sq363_42, List.forall_mem_cons.mpr ⟨sq363_62, List.forall_mem_cons.mpr ⟨sq363_79, List.forall_mem_cons.mpr ⟨sq363_115, List.forall_mem_cons.mpr ⟨sq363_116, List.forall_mem_cons.mpr ⟨sq363_127, List.forall_mem_cons.mpr ⟨sq363_142, List.forall_mem_cons.mpr ⟨sq363_144, (fun _ h => absurd h List.not_mem_nil)⟩⟩⟩⟩⟩⟩⟩⟩⟩⟩)
theorem sq364_24 : sq 364 24 B364_24 := sq_take 1 (e := 25) (by decide +kernel) True.intro
theorem sq364_23 : sq 364 23 B364_23 := sq_take 1 (e := 24) (by decide +kernel) sq364_24
theorem sq364_20 : sq 364 20 B364_20 := sq_take 2 (e := 23) (by decide +kernel) True.intro
theorem sq364_0 : sq 364 0 B364_0 := sq_take 11 (e := 20) (by decide +kernel) sq364_20
set_option maxRecDepth 100000 in
theorem sqM_364 : ∀ b, sq 364 b (tG 364 b) := show ∀ b, sq 364 b (lkB tb364 b) from lkB_sq (List.forall_mem_cons.mpr ⟨sq364_0, List.forall_mem_cons.mpr ⟨sq364_20, List.forall_mem_cons.mpr ⟨sq364_23, List.forall_mem_cons.mpr ⟨sq364_24, (fun _ h => absurd h List.not_mem_nil)⟩⟩⟩⟩)
theorem sq365_93 : sq 365 93 B365_93 := sq_take 2 (e := 95) (by decide +kernel) True.intro
theorem sq365_87 : sq 365 87 B365_87 := sq_take 2 (e := 93) (by decide +kernel) True.intro
theorem sq365_80 : sq 365 80 B365_80 := sq_take 4 (e := 87) (by decide +kernel) True.intro
theorem sq365_72 : sq 365 72 B365_72 := sq_take 4 (e := 80) (by decide +kernel) True.intro
theorem sq365_71 : sq 365 71 B365_71 := sq_take 1 (e := 72) (by decide +kernel) sq365_72
theorem sq365_30 : sq 365 30 B365_30 := sq_take 24 (e := 71) (by decide +kernel) True.intro
theorem sq365_25 : sq 365 25 B365_25 := sq_take 4 (e := 30) (by decide +kernel) sq365_30
theorem sq365_24 : sq 365 24 B365_24 := sq_take 1 (e := 25) (by decide +kernel) sq365_25
theorem sq365_2 : sq 365 2 B365_2 := sq_take 13 (e := 24) (by decide +kernel) True.intro
theorem sq365_0 : sq 365 0 B365_0 := sq_take 3 (e := 2) (by decide +kernel) sq365_2
set_option maxRecDepth 100000 in
theorem sqM_365 : ∀ b, sq 365 b (tG 365 b) := show ∀ b, sq 365 b (lkB tb365 b) from lkB_sq (List.forall_mem_cons.mpr ⟨sq365_0, List.forall_mem_cons.mpr ⟨sq365_2, List.forall_mem_cons.mpr ⟨sq365_24, List.forall_mem_cons.mpr ⟨sq365_25, List.forall_mem_cons.mpr ⟨sq365_30, List.forall_mem_cons.mpr ⟨sq365_71, List.forall_mem_cons.mpr ⟨sq365_72, List.forall_mem_cons.mpr ⟨sq365_80, List.forall_mem_cons.mpr ⟨sq365_87, List.forall_mem_cons.mpr ⟨sq365_93, (fun _ h => absurd h List.not_mem_nil)⟩⟩⟩⟩⟩⟩⟩⟩⟩⟩)
theorem sq366_210 : sq 366 210 B366_210 := sq_take 14 (e := 232) (by decide +kernel) True.intro
theorem sq366_178 : sq 366 178 B366_178 := sq_take 19 (e := 210) (by decide +kernel) True.intro
theorem sq366_176 : sq 366 176 B366_176 := sq_take 2 (e := 178) (by decide +kernel) sq366_178
theorem sq366_165 : sq 366 165 B366_165 := sq_take 7 (e := 176) (by decide +kernel) True.intro
theorem sq366_161 : sq 366 161 B366_161 := sq_take 3 (e := 165) (by decide +kernel) sq366_165
theorem sq366_143 : sq 366 143 B366_143 := sq_take 9 (e := 161) (by decide +kernel) sq366_161
theorem sq366_139 : sq 366 139 B366_139 := sq_take 3 (e := 143) (by decide +kernel) sq366_143
theorem sq366_133 : sq 366 133 B366_133 := sq_take 3 (e := 139) (by decide +kernel) True.intro
theorem sq366_125 : sq 366 125 B366_125 := sq_take 5 (e := 133) (by decide +kernel) sq366_133
theorem sq366_113 : sq 366 113 B366_113 := sq_take 7 (e := 125) (by decide +kernel) sq366_125
theorem sq366_111 : sq 366 111 B366_111 := sq_take 3 (e := 113) (by decide +kernel) sq366_113
theorem sq366_108 : sq 366 108 B366_108 := sq_take 2 (e := 111) (by decide +kernel) True.intro
theorem sq366_90 : sq 366 90 B366_90 := sq_take 9 (e := 108) (by decide +kernel) sq366_108
theorem sq366_86 : sq 366 86 B366_86 := sq_take 3 (e := 90) (by decide +kernel) sq366_90
theorem sq366_83 : sq 366 83 B366_83 := sq_take 2 (e := 86) (by decide +kernel) True.intro
theorem sq366_68 : sq 366 68 B366_68 := sq_take 8 (e := 83) (by decide +kernel) sq366_83
theorem sq366_64 : sq 366 64 B366_64 := sq_take 3 (e := 68) (by decide +kernel) sq366_68
theorem sq366_50 : sq 366 50 B366_50 := sq_take 7 (e := 64) (by decide +kernel) sq366_64
theorem sq366_46 : sq 366 46 B366_46 := sq_take 3 (e := 50) (by decide +kernel) sq366_50
theorem sq366_32 : sq 366 32 B366_32 := sq_take 9 (e := 46) (by decide +kernel) sq366_46
theorem sq366_17 : sq 366 17 B366_17 := sq_take 9 (e := 32) (by decide +kernel) sq366_32
theorem sq366_12 : sq 366 12 B366_12 := sq_take 4 (e := 17) (by decide +kernel) True.intro
theorem sq366_5 : sq 366 5 B366_5 := sq_take 4 (e := 12) (by decide +kernel) sq366_12
theorem sq366_0 : sq 366 0 B366_0 := sq_take 4 (e := 5) (by decide +kernel) sq366_5
set_option maxRecDepth 100000 in
theorem sqM_366 : ∀ b, sq 366 b (tG 366 b) := show ∀ b, sq 366 b (lkB tb366 b) from lkB_sq (List.forall_mem_cons.mpr ⟨sq366_0, List.forall_mem_cons.mpr ⟨sq366_5, List.forall_mem_cons.mpr ⟨sq366_12, List.forall_mem_cons.mpr ⟨sq366_17, List.forall_mem_cons.mpr ⟨sq366_32, List.forall_mem_cons.mpr ⟨sq366_46, List.forall_mem_cons.mpr ⟨sq366_50, List.forall_mem_cons.mpr ⟨sq366_64, List.forall_mem_cons.mpr ⟨sq366_68, List.forall_mem_cons.mpr ⟨sq366_83, List.forall_mem_cons.mpr ⟨sq366_86, List.forall_mem_cons.mpr ⟨sq366_90, List.forall_mem_cons.mpr ⟨sq366_108, List.forall_mem_cons.mpr ⟨sq366_111, List.forall_mem_cons.mpr ⟨sq366_113, List.forall_mem_cons.mpr ⟨sq366_125, List.forall_mem_cons.mpr ⟨sq366_133, List.forall_mem_cons.mpr ⟨sq366_139, List.forall_mem_cons.mpr ⟨sq366_143, List.forall_mem_cons.mpr ⟨sq366_161, List.forall_mem_cons.mpr ⟨sq366_165, List.forall_mem_cons.mpr ⟨sq366_176, List.forall_mem_cons.mpr ⟨sq366_178, List.forall_mem_cons.mpr ⟨sq366_210, (fun _ h => absurd h List.not_mem_nil)⟩⟩⟩⟩⟩⟩⟩⟩⟩⟩⟩⟩⟩⟩⟩⟩⟩⟩⟩⟩⟩⟩⟩⟩)
theorem sq367_111 : sq 367 111 B367_111 := sq_take 3 (e := 113) (by decide +kernel) True.intro
theorem sq367_95 : sq 367 95 B367_95 := sq_take 10 (e := 111) (by decide +kernel) sq367_111
theorem sq367_32 : sq 367 32 B367_32 := sq_take 40 (e := 95) (by decide +kernel) True.intro
theorem sq367_31 : sq 367 31 B367_31 := sq_take 2 (e := 32) (by decide +kernel) True.intro
theorem sq367_16 : sq 367 16 B367_16 := sq_take 10 (e := 31) (by decide +kernel) sq367_31
theorem sq367_0 : sq 367 0 B367_0 := sq_take 11 (e := 16) (by decide +kernel) sq367_16
set_option maxRecDepth 100000 in
theorem sqM_367 : ∀ b, sq 367 b (tG 367 b) := show ∀ b, sq 367 b (lkB tb367 b) from lkB_sq (List.forall_mem_cons.mpr ⟨sq367_0, List.forall_mem_cons.mpr ⟨sq367_16, List.forall_mem_cons.mpr ⟨sq367_31, List.forall_mem_cons.mpr ⟨sq367_32, List.forall_mem_cons.mpr ⟨sq367_95, List.forall_mem_cons.mpr ⟨sq367_111, (fun _ h => absurd h List.not_mem_nil)⟩⟩⟩⟩⟩⟩)
theorem sq368_161 : sq 368 161 B368_161 := sq_take 2 (e := 162) (by decide +kernel) True.intro
theorem sq368_157 : sq 368 157 B368_157 := sq_take 3 (e := 161) (by decide +kernel) sq368_161
theorem sq368_156 : sq 368 156 B368_156 := sq_take 2 (e := 157) (by decide +kernel) True.intro
theorem sq368_148 : sq 368 148 B368_148 := sq_take 5 (e := 156) (by decide +kernel) sq368_156
theorem sq368_144 : sq 368 144 B368_144 := sq_take 3 (e := 148) (by decide +kernel) sq368_148
theorem sq368_135 : sq 368 135 B368_135 := sq_take 5 (e := 144) (by decide +kernel) sq368_144
theorem sq368_134 : sq 368 134 B368_134 := sq_take 1 (e := 135) (by decide +kernel) True.intro
theorem sq368_119 : sq 368 119 B368_119 := sq_take 8 (e := 134) (by decide +kernel) sq368_134
theorem sq368_105 : sq 368 105 B368_105 := sq_take 9 (e := 119) (by decide +kernel) sq368_119
theorem sq368_72 : sq 368 72 B368_72 := sq_take 19 (e := 105) (by decide +kernel) sq368_105
theorem sq368_71 : sq 368 71 B368_71 := sq_take 2 (e := 72) (by decide +kernel) True.intro
theorem sq368_63 : sq 368 63 B368_63 := sq_take 5 (e := 71) (by decide +kernel) sq368_71
theorem sq368_54 : sq 368 54 B368_54 := sq_take 6 (e := 63) (by decide +kernel) sq368_63
theorem sq368_48 : sq 368 48 B368_48 := sq_take 4 (e := 54) (by decide +kernel) sq368_54
theorem sq368_21 : sq 368 21 B368_21 := sq_take 16 (e := 48) (by decide +kernel) sq368_48
theorem sq368_9 : sq 368 9 B368_9 := sq_take 6 (e := 21) (by decide +kernel) sq368_21
theorem sq368_0 : sq 368 0 B368_0 := sq_take 6 (e := 9) (by decide +kernel) True.intro
set_option maxRecDepth 100000 in
theorem sqM_368 : ∀ b, sq 368 b (tG 368 b) := show ∀ b, sq 368 b (lkB tb368 b) from lkB_sq (List.forall_mem_cons.mpr ⟨sq368_0, List.forall_mem_cons.mpr ⟨sq368_9, List.forall_mem_cons.mpr ⟨sq368_21, List.forall_mem_cons.mpr ⟨sq368_48, List.forall_mem_cons.mpr ⟨sq368_54, List.forall_mem_cons.mpr ⟨sq368_63, List.forall_mem_cons.mpr ⟨sq368_71, List.forall_mem_cons.mpr ⟨sq368_72, List.forall_mem_cons.mpr ⟨sq368_105, List.forall_mem_cons.mpr ⟨sq368_119, List.forall_mem_cons.mpr ⟨sq368_134, List.forall_mem_cons.mpr ⟨sq368_135, List.forall_mem_cons.mpr ⟨sq368_144, List.forall_mem_cons.mpr ⟨sq368_148, List.forall_mem_cons.mpr ⟨sq368_156, List.forall_mem_cons.mpr ⟨sq368_157, List.forall_mem_cons.mpr ⟨sq368_161, (fun _ h => absurd h List.not_mem_nil)⟩⟩⟩⟩⟩⟩⟩⟩⟩⟩⟩⟩⟩⟩⟩⟩⟩)
theorem sq369_112 : sq 369 112 B369_112 := sq_take 1 (e := 113) (by decide +kernel) True.intro
theorem sq369_111 : sq 369 111 B369_111 := sq_take 1 (e := 112) (by decide +kernel) sq369_112
theorem sq369_107 : sq 369 107 B369_107 := sq_take 3 (e := 111) (by decide +kernel) True.intro
theorem sq369_104 : sq 369 104 B369_104 := sq_take 2 (e := 107) (by decide +kernel) sq369_107
theorem sq369_94 : sq 369 94 B369_94 := sq_take 5 (e := 104) (by decide +kernel) sq369_104
theorem sq369_84 : sq 369 84 B369_84 := sq_take 5 (e := 94) (by decide +kernel) sq369_94
theorem sq369_74 : sq 369 74 B369_74 := sq_take 5 (e := 84) (by decide +kernel) sq369_84
theorem sq369_64 : sq 369 64 B369_64 := sq_take 5 (e := 74) (by decide +kernel) sq369_74
theorem sq369_54 : sq 369 54 B369_54 := sq_take 5 (e := 64) (by decide +kernel) sq369_64
theorem sq369_44 : sq 369 44 B369_44 := sq_take 5 (e := 54) (by decide +kernel) sq369_54
theorem sq369_34 : sq 369 34 B369_34 := sq_take 5 (e := 44) (by decide +kernel) sq369_44
theorem sq369_24 : sq 369 24 B369_24 := sq_take 5 (e := 34) (by decide +kernel) sq369_34
theorem sq369_14 : sq 369 14 B369_14 := sq_take 5 (e := 24) (by decide +kernel) sq369_24
theorem sq369_4 : sq 369 4 B369_4 := sq_take 5 (e := 14) (by decide +kernel) sq369_14
theorem sq369_0 : sq 369 0 B369_0 := sq_take 3 (e := 4) (by decide +kernel) sq369_4
set_option maxRecDepth 100000 in
theorem sqM_369 : ∀ b, sq 369 b (tG 369 b) := show ∀ b, sq 369 b (lkB tb369 b) from lkB_sq (List.forall_mem_cons.mpr ⟨sq369_0, List.forall_mem_cons.mpr ⟨sq369_4, List.forall_mem_cons.mpr ⟨sq369_14, List.forall_mem_cons.mpr ⟨sq369_24, List.forall_mem_cons.mpr ⟨sq369_34, List.forall_mem_cons.mpr ⟨sq369_44, List.forall_mem_cons.mpr ⟨sq369_54, List.forall_mem_cons.mpr ⟨sq369_64, List.forall_mem_cons.mpr ⟨sq369_74, List.forall_mem_cons.mpr ⟨sq369_84, List.forall_mem_cons.mpr ⟨sq369_94, List.forall_mem_cons.mpr ⟨sq369_104, List.forall_mem_cons.mpr ⟨sq369_107, List.forall_mem_cons.mpr ⟨sq369_111, List.forall_mem_cons.mpr ⟨sq369_112, (fun _ h => absurd h List.not_mem_nil)⟩⟩⟩⟩⟩⟩⟩⟩⟩⟩⟩⟩⟩⟩⟩)
theorem sq370_332 : sq 370 332 B370_332 := sq_take 2 (e := 333) (by decide +kernel) True.intro
theorem sq370_323 : sq 370 323 B370_323 := sq_take 6 (e := 332) (by decide +kernel) sq370_332
theorem sq370_319 : sq 370 319 B370_319 := sq_take 3 (e := 323) (by decide +kernel) sq370_323
theorem sq370_293 : sq 370 293 B370_293 := sq_take 13 (e := 319) (by decide +kernel) sq370_319
theorem sq370_289 : sq 370 289 B370_289 := sq_take 3 (e := 293) (by decide +kernel) sq370_293
theorem sq370_281 : sq 370 281 B370_281 := sq_take 4 (e := 289) (by decide +kernel) sq370_289
theorem sq370_278 : sq 370 278 B370_278 := sq_take 2 (e := 281) (by decide +kernel) True.intro
theorem sq370_274 : sq 370 274 B370_274 := sq_take 3 (e := 278) (by decide +kernel) sq370_278
theorem sq370_271 : sq 370 271 B370_271 := sq_take 2 (e := 274) (by decide +kernel) sq370_274
theorem sq370_261 : sq 370 261 B370_261 := sq_take 5 (e := 271) (by decide +kernel) sq370_271
theorem sq370_251 : sq 370 251 B370_251 := sq_take 5 (e := 261) (by decide +kernel) sq370_261
theorem sq370_241 : sq 370 241 B370_241 := sq_take 5 (e := 251) (by decide +kernel) sq370_251
theorem sq370_234 : sq 370 234 B370_234 := sq_take 3 (e := 241) (by decide +kernel) sq370_241
theorem sq370_231 : sq 370 231 B370_231 := sq_take 2 (e := 234) (by decide +kernel) True.intro
theorem sq370_214 : sq 370 214 B370_214 := sq_take 10 (e := 231) (by decide +kernel) sq370_231
theorem sq370_210 : sq 370 210 B370_210 := sq_take 3 (e := 214) (by decide +kernel) sq370_214
theorem sq370_203 : sq 370 203 B370_203 := sq_take 4 (e := 210) (by decide +kernel) sq370_210
theorem sq370_196 : sq 370 196 B370_196 := sq_take 3 (e := 203) (by decide +kernel) sq370_203
theorem sq370_186 : sq 370 186 B370_186 := sq_take 5 (e := 196) (by decide +kernel) True.intro
theorem sq370_179 : sq 370 179 B370_179 := sq_take 4 (e := 186) (by decide +kernel) sq370_186
theorem sq370_172 : sq 370 172 B370_172 := sq_take 3 (e := 179) (by decide +kernel) sq370_179
theorem sq370_169 : sq 370 169 B370_169 := sq_take 2 (e := 172) (by decide +kernel) True.intro
theorem sq370_165 : sq 370 165 B370_165 := sq_take 3 (e := 169) (by decide +kernel) sq370_169
theorem sq370_158 : sq 370 158 B370_158 := sq_take 4 (e := 165) (by decide +kernel) sq370_165
theorem sq370_151 : sq 370 151 B370_151 := sq_take 3 (e := 158) (by decide +kernel) sq370_158
theorem sq370_148 : sq 370 148 B370_148 := sq_take 2 (e := 151) (by decide +kernel) True.intro
theorem sq370_137 : sq 370 137 B370_137 := sq_take 7 (e := 148) (by decide +kernel) sq370_148
theorem sq370_130 : sq 370 130 B370_130 := sq_take 4 (e := 137) (by decide +kernel) sq370_137
theorem sq370_123 : sq 370 123 B370_123 := sq_take 3 (e := 130) (by decide +kernel) sq370_130
theorem sq370_120 : sq 370 120 B370_120 := sq_take 2 (e := 123) (by decide +kernel) True.intro
theorem sq370_110 : sq 370 110 B370_110 := sq_take 7 (e := 120) (by decide +kernel) sq370_120
theorem sq370_103 : sq 370 103 B370_103 := sq_take 4 (e := 110) (by decide +kernel) sq370_110
theorem sq370_96 : sq 370 96 B370_96 := sq_take 3 (e := 103) (by decide +kernel) sq370_103
theorem sq370_93 : sq 370 93 B370_93 := sq_take 2 (e := 96) (by decide +kernel) True.intro
theorem sq370_89 : sq 370 89 B370_89 := sq_take 3 (e := 93) (by decide +kernel) sq370_93
theorem sq370_82 : sq 370 82 B370_82 := sq_take 4 (e := 89) (by decide +kernel) sq370_89
theorem sq370_75 : sq 370 75 B370_75 := sq_take 3 (e := 82) (by decide +kernel) sq370_82
theorem sq370_72 : sq 370 72 B370_72 := sq_take 2 (e := 75) (by decide +kernel) True.intro
theorem sq370_65 : sq 370 65 B370_65 := sq_take 4 (e := 72) (by decide +kernel) sq370_72
theorem sq370_59 : sq 370 59 B370_59 := sq_take 3 (e := 65) (by decide +kernel) sq370_65
theorem sq370_56 : sq 370 56 B370_56 := sq_take 2 (e := 59) (by decide +kernel) True.intro
theorem sq370_49 : sq 370 49 B370_49 := sq_take 4 (e := 56) (by decide +kernel) sq370_56
theorem sq370_35 : sq 370 35 B370_35 := sq_take 9 (e := 49) (by decide +kernel) sq370_49
theorem sq370_20 : sq 370 20 B370_20 := sq_take 10 (e := 35) (by decide +kernel) sq370_35
theorem sq370_0 : sq 370 0 B370_0 := sq_take 13 (e := 20) (by decide +kernel) sq370_20
set_option maxRecDepth 100000 in
theorem sqM_370 : ∀ b, sq 370 b (tG 370 b) := show ∀ b, sq 370 b (lkB tb370 b) from lkB_sq (List.forall_mem_cons.mpr ⟨sq370_0, List.forall_mem_cons.mpr ⟨sq370_20, List.forall_mem_cons.mpr ⟨sq370_35, List.forall_mem_cons.mpr ⟨sq370_49, List.forall_mem_cons.mpr ⟨sq370_56, List.forall_mem_cons.mpr ⟨sq370_59, List.forall_mem_cons.mpr ⟨sq370_65, List.forall_mem_cons.mpr ⟨sq370_72, List.forall_mem_cons.mpr ⟨sq370_75, List.forall_mem_cons.mpr ⟨sq370_82, List.forall_mem_cons.mpr ⟨sq370_89, List.forall_mem_cons.mpr ⟨sq370_93, List.forall_mem_cons.mpr ⟨sq370_96, List.forall_mem_cons.mpr ⟨sq370_103, List.forall_mem_cons.mpr ⟨sq370_110, List.forall_mem_cons.mpr ⟨sq370_120, List.forall_mem_cons.mpr ⟨sq370_123, List.forall_mem_cons.mpr ⟨sq370_130, List.forall_mem_cons.mpr ⟨sq370_137, List.forall_mem_cons.mpr ⟨sq370_148, List.forall_mem_cons.mpr ⟨sq370_151, List.forall_mem_cons.mpr ⟨sq370_158, List.forall_mem_cons.mpr ⟨sq370_165, List.forall_mem_cons.mpr ⟨sq370_169, List.forall_mem_cons.mpr ⟨sq370_172, List.forall_mem_cons.mpr ⟨sq370_179, List.forall_mem_cons.mpr ⟨sq370_186, List.forall_mem_cons.mpr ⟨sq370_196, List.forall_mem_cons.mpr ⟨sq370_203, List.forall_mem_cons.mpr ⟨sq370_210, List.forall_mem_cons.mpr ⟨sq370_214, List.forall_mem_cons.mpr ⟨sq370_231, List.forall_mem_cons.mpr ⟨sq370_234, List.forall_mem_cons.mpr ⟨sq370_241, List.forall_mem_cons.mpr ⟨sq370_251, List.forall_mem_cons.mpr ⟨sq370_261, List.forall_mem_cons.mpr ⟨sq370_271, List.forall_mem_cons.mpr ⟨sq370_274, List.forall_mem_cons.mpr ⟨sq370_278, List.forall_mem_cons.mpr ⟨sq370_281, List.forall_mem_cons.mpr ⟨sq370_289, List.forall_mem_cons.mpr ⟨sq370_293, List.forall_mem_cons.mpr ⟨sq370_319, List.forall_mem_cons.mpr ⟨sq370_323, List.forall_mem_cons.mpr ⟨sq370_332, (fun _ h => absurd h List.not_mem_nil)⟩⟩⟩⟩⟩⟩⟩⟩⟩⟩⟩⟩⟩⟩⟩⟩⟩⟩⟩⟩⟩⟩⟩⟩⟩⟩⟩⟩⟩⟩⟩⟩⟩⟩⟩⟩⟩⟩⟩⟩⟩⟩⟩⟩⟩)
theorem sq371_164 : sq 371 164 B371_164 := sq_take 1 (e := 165) (by decide +kernel) True.intro
theorem sq371_154 : sq 371 154 B371_154 := sq_take 7 (e := 164) (by decide +kernel) sq371_164
theorem sq371_114 : sq 371 114 B371_114 := sq_take 22 (e := 154) (by decide +kernel) sq371_154
theorem sq371_113 : sq 371 113 B371_113 := sq_take 2 (e := 114) (by decide +kernel) True.intro
theorem sq371_108 : sq 371 108 B371_108 := sq_take 4 (e := 113) (by decide +kernel) sq371_113
theorem sq371_101 : sq 371 101 B371_101 := sq_take 4 (e := 108) (by decide +kernel) sq371_108
theorem sq371_100 : sq 371 100 B371_100 := sq_take 1 (e := 101) (by decide +kernel) sq371_101
theorem sq371_78 : sq 371 78 B371_78 := sq_take 11 (e := 100) (by decide +kernel) True.intro
theorem sq371_77 : sq 371 77 B371_77 := sq_take 2 (e := 78) (by decide +kernel) sq371_78
theorem sq371_73 : sq 371 73 B371_73 := sq_take 3 (e := 77) (by decide +kernel) True.intro
theorem sq371_70 : sq 371 70 B371_70 := sq_take 2 (e := 73) (by decide +kernel) sq371_73
theorem sq371_66 : sq 371 66 B371_66 := sq_take 2 (e := 70) (by decide +kernel) sq371_70
theorem sq371_60 : sq 371 60 B371_60 := sq_take 3 (e := 66) (by decide +kernel) True.intro
theorem sq371_37 : sq 371 37 B371_37 := sq_take 12 (e := 60) (by decide +kernel) sq371_60
theorem sq371_14 : sq 371 14 B371_14 := sq_take 11 (e := 37) (by decide +kernel) sq371_37
theorem sq371_0 : sq 371 0 B371_0 := sq_take 7 (e := 14) (by decide +kernel) True.intro
set_option maxRecDepth 100000 in
theorem sqM_371 : ∀ b, sq 371 b (tG 371 b) := show ∀ b, sq 371 b (lkB tb371 b) from lkB_sq (List.forall_mem_cons.mpr ⟨sq371_0, List.forall_mem_cons.mpr ⟨sq371_14, List.forall_mem_cons.mpr ⟨sq371_37, List.forall_mem_cons.mpr ⟨sq371_60, List.forall_mem_cons.mpr ⟨sq371_66, List.forall_mem_cons.mpr ⟨sq371_70, List.forall_mem_cons.mpr ⟨sq371_73, List.forall_mem_cons.mpr ⟨sq371_77, List.forall_mem_cons.mpr ⟨sq371_78, List.forall_mem_cons.mpr ⟨sq371_100, List.forall_mem_cons.mpr ⟨sq371_101, List.forall_mem_cons.mpr ⟨sq371_108, List.forall_mem_cons.mpr ⟨sq371_113, List.forall_mem_cons.mpr ⟨sq371_114, List.forall_mem_cons.mpr ⟨sq371_154, List.forall_mem_cons.mpr ⟨sq371_164, (fun _ h => absurd h List.not_mem_nil)⟩⟩⟩⟩⟩⟩⟩⟩⟩⟩⟩⟩⟩⟩⟩⟩)
theorem sq372_30 : sq 372 30 B372_30 := sq_take 2 (e := 31) (by decide +kernel) True.intro
theorem sq372_22 : sq 372 22 B372_22 := sq_take 5 (e := 30) (by decide +kernel) sq372_30
theorem sq372_4 : sq 372 4 B372_4 := sq_take 9 (e := 22) (by decide +kernel) sq372_22
theorem sq372_0 : sq 372 0 B372_0 := sq_take 3 (e := 4) (by decide +kernel) sq372_4
set_option maxRecDepth 100000 in
theorem sqM_372 : ∀ b, sq 372 b (tG 372 b) := show ∀ b, sq 372 b (lkB tb372 b) from lkB_sq (List.forall_mem_cons.mpr ⟨sq372_0, List.forall_mem_cons.mpr ⟨sq372_4, List.forall_mem_cons.mpr ⟨sq372_22, List.forall_mem_cons.mpr ⟨sq372_30, (fun _ h => absurd h List.not_mem_nil)⟩⟩⟩⟩)
theorem sq373_11 : sq 373 11 B373_11 := sq_take 2 (e := 12) (by decide +kernel) True.intro
theorem sq373_4 : sq 373 4 B373_4 := sq_take 4 (e := 11) (by decide +kernel) sq373_11
theorem sq373_0 : sq 373 0 B373_0 := sq_take 3 (e := 4) (by decide +kernel) sq373_4
set_option maxRecDepth 100000 in
theorem sqM_373 : ∀ b, sq 373 b (tG 373 b) := show ∀ b, sq 373 b (lkB tb373 b) from lkB_sq (List.forall_mem_cons.mpr ⟨sq373_0, List.forall_mem_cons.mpr ⟨sq373_4, List.forall_mem_cons.mpr ⟨sq373_11, (fun _ h => absurd h List.not_mem_nil)⟩⟩⟩)
theorem sq374_93 : sq 374 93 B374_93 := sq_take 4 (e := 96) (by decide +kernel) True.intro
theorem sq374_88 : sq 374 88 B374_88 := sq_take 4 (e := 93) (by decide +kernel) sq374_93
theorem sq374_84 : sq 374 84 B374_84 := sq_take 2 (e := 88) (by decide +kernel) sq374_88
theorem sq374_72 : sq 374 72 B374_72 := sq_take 7 (e := 84) (by decide +kernel) True.intro
theorem sq374_61 : sq 374 61 B374_61 := sq_take 6 (e := 72) (by decide +kernel) sq374_72
theorem sq374_54 : sq 374 54 B374_54 := sq_take 4 (e := 61) (by decide +kernel) sq374_61
theorem sq374_51 : sq 374 51 B374_51 := sq_take 1 (e := 54) (by decide +kernel) sq374_54
theorem sq374_38 : sq 374 38 B374_38 := sq_take 6 (e := 51) (by decide +kernel) True.intro
theorem sq374_34 : sq 374 34 B374_34 := sq_take 3 (e := 38) (by decide +kernel) sq374_38
theorem sq374_30 : sq 374 30 B374_30 := sq_take 3 (e := 34) (by decide +kernel) sq374_34
theorem sq374_21 : sq 374 21 B374_21 := sq_take 6 (e := 30) (by decide +kernel) sq374_30
theorem sq374_20 : sq 374 20 B374_20 := sq_take 2 (e := 21) (by decide +kernel) sq374_21
theorem sq374_13 : sq 374 13 B374_13 := sq_take 4 (e := 20) (by decide +kernel) True.intro
theorem sq374_4 : sq 374 4 B374_4 := sq_take 5 (e := 13) (by decide +kernel) sq374_13
theorem sq374_0 : sq 374 0 B374_0 := sq_take 3 (e := 4) (by decide +kernel) sq374_4
set_option maxRecDepth 100000 in
theorem sqM_374 : ∀ b, sq 374 b (tG 374 b) := show ∀ b, sq 374 b (lkB tb374 b) from lkB_sq (List.forall_mem_cons.mpr ⟨sq374_0, List.forall_mem_cons.mpr ⟨sq374_4, List.forall_mem_cons.mpr ⟨sq374_13, List.forall_mem_cons.mpr ⟨sq374_20, List.forall_mem_cons.mpr ⟨sq374_21, List.forall_mem_cons.mpr ⟨sq374_30, List.forall_mem_cons.mpr ⟨sq374_34, List.forall_mem_cons.mpr ⟨sq374_38, List.forall_mem_cons.mpr ⟨sq374_51, List.forall_mem_cons.mpr ⟨sq374_54, List.forall_mem_cons.mpr ⟨sq374_61, List.forall_mem_cons.mpr ⟨sq374_72, List.forall_mem_cons.mpr ⟨sq374_84, List.forall_mem_cons.mpr ⟨sq374_88, List.forall_mem_cons.mpr ⟨sq374_93, (fun _ h => absurd h List.not_mem_nil)⟩⟩⟩⟩⟩⟩⟩⟩⟩⟩⟩⟩⟩⟩⟩)
theorem sq375_54 : sq 375 54 B375_54 := sq_take 2 (e := 55) (by decide +kernel) True.intro
theorem sq375_46 : sq 375 46 B375_46 := sq_take 5 (e := 54) (by decide +kernel) sq375_54
theorem sq375_42 : sq 375 42 B375_42 := sq_take 3 (e := 46) (by decide +kernel) sq375_46
theorem sq375_41 : sq 375 41 B375_41 := sq_take 1 (e := 42) (by decide +kernel) sq375_42
theorem sq375_20 : sq 375 20 B375_20 := sq_take 11 (e := 41) (by decide +kernel) True.intro
theorem sq375_15 : sq 375 15 B375_15 := sq_take 4 (e := 20) (by decide +kernel) sq375_20
theorem sq375_14 : sq 375 14 B375_14 := sq_take 1 (e := 15) (by decide +kernel) sq375_15
theorem sq375_11 : sq 375 11 B375_11 := sq_take 2 (e := 14) (by decide +kernel) True.intro
theorem sq375_4 : sq 375 4 B375_4 := sq_take 4 (e := 11) (by decide +kernel) sq375_11
theorem sq375_0 : sq 375 0 B375_0 := sq_take 3 (e := 4) (by decide +kernel) sq375_4
set_option maxRecDepth 100000 in
theorem sqM_375 : ∀ b, sq 375 b (tG 375 b) := show ∀ b, sq 375 b (lkB tb375 b) from lkB_sq (List.forall_mem_cons.mpr ⟨sq375_0, List.forall_mem_cons.mpr ⟨sq375_4, List.forall_mem_cons.mpr ⟨sq375_11, List.forall_mem_cons.mpr ⟨sq375_14, List.forall_mem_cons.mpr ⟨sq375_15, List.forall_mem_cons.mpr ⟨sq375_20, List.forall_mem_cons.mpr ⟨sq375_41, List.forall_mem_cons.mpr ⟨sq375_42, List.forall_mem_cons.mpr ⟨sq375_46, List.forall_mem_cons.mpr ⟨sq375_54, (fun _ h => absurd h List.not_mem_nil)⟩⟩⟩⟩⟩⟩⟩⟩⟩⟩)
theorem sq376_76 : sq 376 76 B376_76 := sq_take 1 (e := 77) (by decide +kernel) True.intro
theorem sq376_73 : sq 376 73 B376_73 := sq_take 2 (e := 76) (by decide +kernel) sq376_76
theorem sq376_65 : sq 376 65 B376_65 := sq_take 5 (e := 73) (by decide +kernel) sq376_73
theorem sq376_61 : sq 376 61 B376_61 := sq_take 3 (e := 65) (by decide +kernel) sq376_65
theorem sq376_58 : sq 376 58 B376_58 := sq_take 2 (e := 61) (by decide +kernel) True.intro
theorem sq376_40 : sq 376 40 B376_40 := sq_take 10 (e := 58) (by decide +kernel) sq376_58
theorem sq376_39 : sq 376 39 B376_39 := sq_take 1 (e := 40) (by decide +kernel) sq376_40
theorem sq376_33 : sq 376 33 B376_33 := sq_take 4 (e := 39) (by decide +kernel) True.intro
theorem sq376_26 : sq 376 26 B376_26 := sq_take 4 (e := 33) (by decide +kernel) sq376_33
theorem sq376_21 : sq 376 21 B376_21 := sq_take 4 (e := 26) (by decide +kernel) sq376_26
theorem sq376_4 : sq 376 4 B376_4 := sq_take 10 (e := 21) (by decide +kernel) sq376_21
theorem sq376_0 : sq 376 0 B376_0 := sq_take 3 (e := 4) (by decide +kernel) sq376_4
set_option maxRecDepth 100000 in
theorem sqM_376 : ∀ b, sq 376 b (tG 376 b) := show ∀ b, sq 376 b (lkB tb376 b) from lkB_sq (List.forall_mem_cons.mpr ⟨sq376_0, List.forall_mem_cons.mpr ⟨sq376_4, List.forall_mem_cons.mpr ⟨sq376_21, List.forall_mem_cons.mpr ⟨sq376_26, List.forall_mem_cons.mpr ⟨sq376_33, List.forall_mem_cons.mpr ⟨sq376_39, List.forall_mem_cons.mpr ⟨sq376_40, List.forall_mem_cons.mpr ⟨sq376_58, List.forall_mem_cons.mpr ⟨sq376_61, List.forall_mem_cons.mpr ⟨sq376_65, List.forall_mem_cons.mpr ⟨sq376_73, List.forall_mem_cons.mpr ⟨sq376_76, (fun _ h => absurd h List.not_mem_nil)⟩⟩⟩⟩⟩⟩⟩⟩⟩⟩⟩⟩)
theorem sq377_209 : sq 377 209 B377_209 := sq_take 2 (e := 210) (by decide +kernel) True.intro
theorem sq377_204 : sq 377 204 B377_204 := sq_take 4 (e := 209) (by decide +kernel) sq377_209
theorem sq377_197 : sq 377 197 B377_197 := sq_take 4 (e := 204) (by decide +kernel) sq377_204
theorem sq377_196 : sq 377 196 B377_196 := sq_take 2 (e := 197) (by decide +kernel) sq377_197
theorem sq377_174 : sq 377 174 B377_174 := sq_take 12 (e := 196) (by decide +kernel) True.intro
theorem sq377_172 : sq 377 172 B377_172 := sq_take 2 (e := 174) (by decide +kernel) sq377_174
theorem sq377_153 : sq 377 153 B377_153 := sq_take 8 (e := 172) (by decide +kernel) True.intro
theorem sq377_152 : sq 377 152 B377_152 := sq_take 2 (e := 153) (by decide +kernel) True.intro
theorem sq377_137 : sq 377 137 B377_137 := sq_take 8 (e := 152) (by decide +kernel) sq377_152
theorem sq377_136 : sq 377 136 B377_136 := sq_take 2 (e := 137) (by decide +kernel) sq377_137
theorem sq377_132 : sq 377 132 B377_132 := sq_take 3 (e := 136) (by decide +kernel) True.intro
theorem sq377_98 : sq 377 98 B377_98 := sq_take 15 (e := 132) (by decide +kernel) sq377_132
theorem sq377_97 : sq 377 97 B377_97 := sq_take 1 (e := 98) (by decide +kernel) sq377_98
theorem sq377_94 : sq 377 94 B377_94 := sq_take 2 (e := 97) (by decide +kernel) True.intro
theorem sq377_79 : sq 377 79 B377_79 := sq_take 8 (e := 94) (by decide +kernel) sq377_94
theorem sq377_68 : sq 377 68 B377_68 := sq_take 6 (e := 79) (by decide +kernel) sq377_79
theorem sq377_61 : sq 377 61 B377_61 := sq_take 3 (e := 68) (by decide +kernel) sq377_68
theorem sq377_60 : sq 377 60 B377_60 := sq_take 2 (e := 61) (by decide +kernel) True.intro
theorem sq377_53 : sq 377 53 B377_53 := sq_take 6 (e := 60) (by decide +kernel) sq377_60
theorem sq377_46 : sq 377 46 B377_46 := sq_take 4 (e := 53) (by decide +kernel) sq377_53
theorem sq377_40 : sq 377 40 B377_40 := sq_take 4 (e := 46) (by decide +kernel) sq377_46
theorem sq377_35 : sq 377 35 B377_35 := sq_take 4 (e := 40) (by decide +kernel) sq377_40
theorem sq377_33 : sq 377 33 B377_33 := sq_take 1 (e := 35) (by decide +kernel) sq377_35
theorem sq377_16 : sq 377 16 B377_16 := sq_take 11 (e := 33) (by decide +kernel) True.intro
theorem sq377_15 : sq 377 15 B377_15 := sq_take 1 (e := 16) (by decide +kernel) sq377_16
theorem sq377_4 : sq 377 4 B377_4 := sq_take 7 (e := 15) (by decide +kernel) True.intro
theorem sq377_0 : sq 377 0 B377_0 := sq_take 3 (e := 4) (by decide +kernel) sq377_4
set_option maxRecDepth 100000 in
theorem sqM_377 : ∀ b, sq 377 b (tG 377 b) := show ∀ b, sq 377 b (lkB tb377 b) from lkB_sq (List.forall_mem_cons.mpr ⟨sq377_0, List.forall_mem_cons.mpr ⟨sq377_4, List.forall_mem_cons.mpr ⟨sq377_15, List.forall_mem_cons.mpr ⟨sq377_16, List.forall_mem_cons.mpr ⟨sq377_33, List.forall_mem_cons.mpr ⟨sq377_35, List.forall_mem_cons.mpr ⟨sq377_40, List.forall_mem_cons.mpr ⟨sq377_46, List.forall_mem_cons.mpr ⟨sq377_53, List.forall_mem_cons.mpr ⟨sq377_60, List.forall_mem_cons.mpr ⟨sq377_61, List.forall_mem_cons.mpr ⟨sq377_68, List.forall_mem_cons.mpr ⟨sq377_79, List.forall_mem_cons.mpr ⟨sq377_94, List.forall_mem_cons.mpr ⟨sq377_97, List.forall_mem_cons.mpr ⟨sq377_98, List.forall_mem_cons.mpr ⟨sq377_132, List.forall_mem_cons.mpr ⟨sq377_136, List.forall_mem_cons.mpr ⟨sq377_137, List.forall_mem_cons.mpr ⟨sq377_152, List.forall_mem_cons.mpr ⟨sq377_153, List.forall_mem_cons.mpr ⟨sq377_172, List.forall_mem_cons.mpr ⟨sq377_174, List.forall_mem_cons.mpr ⟨sq377_196, List.forall_mem_cons.mpr ⟨sq377_197, List.forall_mem_cons.mpr ⟨sq377_204, List.forall_mem_cons.mpr ⟨sq377_209, (fun _ h => absurd h List.not_mem_nil)⟩⟩⟩⟩⟩⟩⟩⟩⟩⟩⟩⟩⟩⟩⟩⟩⟩⟩⟩⟩⟩⟩⟩⟩⟩⟩⟩)
theorem sq378_123 : sq 378 123 B378_123 := sq_take 2 (e := 125) (by decide +kernel) True.intro
theorem sq378_119 : sq 378 119 B378_119 := sq_take 2 (e := 123) (by decide +kernel) True.intro
theorem sq378_115 : sq 378 115 B378_115 := sq_take 2 (e := 119) (by decide +kernel) True.intro
theorem sq378_112 : sq 378 112 B378_112 := sq_take 2 (e := 115) (by decide +kernel) True.intro
theorem sq378_109 : sq 378 109 B378_109 := sq_take 2 (e := 112) (by decide +kernel) True.intro
theorem sq378_106 : sq 378 106 B378_106 := sq_take 2 (e := 109) (by decide +kernel) True.intro
theorem sq378_103 : sq 378 103 B378_103 := sq_take 2 (e := 106) (by decide +kernel) True.intro
theorem sq378_100 : sq 378 100 B378_100 := sq_take 2 (e := 103) (by decide +kernel) True.intro
theorem sq378_97 : sq 378 97 B378_97 := sq_take 2 (e := 100) (by decide +kernel) True.intro
theorem sq378_94 : sq 378 94 B378_94 := sq_take 2 (e := 97) (by decide +kernel) True.intro
theorem sq378_92 : sq 378 92 B378_92 := sq_take 2 (e := 94) (by decide +kernel) True.intro
theorem sq378_0 : sq 378 0 B378_0 := sq_take 3 (e := 92) (by decide +kernel) True.intro
set_option maxRecDepth 100000 in
theorem sqM_378 : ∀ b, sq 378 b (tG 378 b) := show ∀ b, sq 378 b (lkB tb378 b) from lkB_sq (List.forall_mem_cons.mpr ⟨sq378_0, List.forall_mem_cons.mpr ⟨sq378_92, List.forall_mem_cons.mpr ⟨sq378_94, List.forall_mem_cons.mpr ⟨sq378_97, List.forall_mem_cons.mpr ⟨sq378_100, List.forall_mem_cons.mpr ⟨sq378_103, List.forall_mem_cons.mpr ⟨sq378_106, List.forall_mem_cons.mpr ⟨sq378_109, List.forall_mem_cons.mpr ⟨sq378_112, List.forall_mem_cons.mpr ⟨sq378_115, List.forall_mem_cons.mpr ⟨sq378_119, List.forall_mem_cons.mpr ⟨sq378_123, (fun _ h => absurd h List.not_mem_nil)⟩⟩⟩⟩⟩⟩⟩⟩⟩⟩⟩⟩)
theorem sq379_406 : sq 379 406 B379_406 := sq_take 2 (e := 407) (by decide +kernel) True.intro
theorem sq379_400 : sq 379 400 B379_400 := sq_take 5 (e := 406) (by decide +kernel) sq379_406
theorem sq379_397 : sq 379 397 B379_397 := sq_take 2 (e := 400) (by decide +kernel) True.intro
theorem sq379_383 : sq 379 383 B379_383 := sq_take 9 (e := 397) (by decide +kernel) sq379_397
theorem sq379_363 : sq 379 363 B379_363 := sq_take 12 (e := 383) (by decide +kernel) sq379_383
theorem sq379_352 : sq 379 352 B379_352 := sq_take 6 (e := 363) (by decide +kernel) sq379_363
theorem sq379_339 : sq 379 339 B379_339 := sq_take 6 (e := 352) (by decide +kernel) sq379_352
theorem sq379_335 : sq 379 335 B379_335 := sq_take 3 (e := 339) (by decide +kernel) sq379_339
theorem sq379_331 : sq 379 331 B379_331 := sq_take 3 (e := 335) (by decide +kernel) sq379_335
theorem sq379_324 : sq 379 324 B379_324 := sq_take 4 (e := 331) (by decide +kernel) sq379_331
theorem sq379_313 : sq 379 313 B379_313 := sq_take 6 (e := 324) (by decide +kernel) sq379_324
theorem sq379_310 : sq 379 310 B379_310 := sq_take 2 (e := 313) (by decide +kernel) True.intro
theorem sq379_291 : sq 379 291 B379_291 := sq_take 10 (e := 310) (by decide +kernel) sq379_310
theorem sq379_284 : sq 379 284 B379_284 := sq_take 4 (e := 291) (by decide +kernel) sq379_291
theorem sq379_265 : sq 379 265 B379_265 := sq_take 10 (e := 284) (by decide +kernel) True.intro
theorem sq379_257 : sq 379 257 B379_257 := sq_take 5 (e := 265) (by decide +kernel) sq379_265
theorem sq379_247 : sq 379 247 B379_247 := sq_take 5 (e := 257) (by decide +kernel) sq379_257
theorem sq379_244 : sq 379 244 B379_244 := sq_take 2 (e := 247) (by decide +kernel) True.intro
theorem sq379_231 : sq 379 231 B379_231 := sq_take 7 (e := 244) (by decide +kernel) sq379_244
theorem sq379_230 : sq 379 230 B379_230 := sq_take 1 (e := 231) (by decide +kernel) sq379_231
theorem sq379_224 : sq 379 224 B379_224 := sq_take 4 (e := 230) (by decide +kernel) True.intro
theorem sq379_217 : sq 379 217 B379_217 := sq_take 4 (e := 224) (by decide +kernel) sq379_224
theorem sq379_203 : sq 379 203 B379_203 := sq_take 9 (e := 217) (by decide +kernel) sq379_217
theorem sq379_197 : sq 379 197 B379_197 := sq_take 5 (e := 203) (by decide +kernel) sq379_203
theorem sq379_191 : sq 379 191 B379_191 := sq_take 4 (e := 197) (by decide +kernel) sq379_197
theorem sq379_187 : sq 379 187 B379_187 := sq_take 3 (e := 191) (by decide +kernel) sq379_191
theorem sq379_172 : sq 379 172 B379_172 := sq_take 8 (e := 187) (by decide +kernel) sq379_187
theorem sq379_171 : sq 379 171 B379_171 := sq_take 1 (e := 172) (by decide +kernel) sq379_172
theorem sq379_163 : sq 379 163 B379_163 := sq_take 4 (e := 171) (by decide +kernel) True.intro
theorem sq379_156 : sq 379 156 B379_156 := sq_take 3 (e := 163) (by decide +kernel) sq379_163
theorem sq379_148 : sq 379 148 B379_148 := sq_take 4 (e := 156) (by decide +kernel) True.intro
theorem sq379_141 : sq 379 141 B379_141 := sq_take 3 (e := 148) (by decide +kernel) sq379_148
theorem sq379_133 : sq 379 133 B379_133 := sq_take 4 (e := 141) (by decide +kernel) True.intro
theorem sq379_126 : sq 379 126 B379_126 := sq_take 4 (e := 133) (by decide +kernel) sq379_133
theorem sq379_119 : sq 379 119 B379_119 := sq_take 4 (e := 126) (by decide +kernel) sq379_126
theorem sq379_113 : sq 379 113 B379_113 := sq_take 3 (e := 119) (by decide +kernel) sq379_119
theorem sq379_110 : sq 379 110 B379_110 := sq_take 2 (e := 113) (by decide +kernel) True.intro
theorem sq379_103 : sq 379 103 B379_103 := sq_take 5 (e := 110) (by decide +kernel) sq379_110
theorem sq379_100 : sq 379 100 B379_100 := sq_take 2 (e := 103) (by decide +kernel) True.intro
theorem sq379_87 : sq 379 87 B379_87 := sq_take 8 (e := 100) (by decide +kernel) sq379_100
theorem sq379_75 : sq 379 75 B379_75 := sq_take 7 (e := 87) (by decide +kernel) sq379_87
theorem sq379_63 : sq 379 63 B379_63 := sq_take 7 (e := 75) (by decide +kernel) sq379_75
theorem sq379_56 : sq 379 56 B379_56 := sq_take 4 (e := 63) (by decide +kernel) sq379_63
theorem sq379_50 : sq 379 50 B379_50 := sq_take 3 (e := 56) (by decide +kernel) sq379_56
theorem sq379_47 : sq 379 47 B379_47 := sq_take 2 (e := 50) (by decide +kernel) True.intro
theorem sq379_32 : sq 379 32 B379_32 := sq_take 10 (e := 47) (by decide +kernel) sq379_47
theorem sq379_29 : sq 379 29 B379_29 := sq_take 2 (e := 32) (by decide +kernel) True.intro
theorem sq379_12 : sq 379 12 B379_12 := sq_take 10 (e := 29) (by decide +kernel) sq379_29
theorem sq379_0 : sq 379 0 B379_0 := sq_take 7 (e := 12) (by decide +kernel) sq379_12
set_option maxRecDepth 100000 in
theorem sqM_379 : ∀ b, sq 379 b (tG 379 b) := show ∀ b, sq 379 b (lkB tb379 b) from lkB_sq (List.forall_mem_cons.mpr ⟨sq379_0, List.forall_mem_cons.mpr ⟨sq379_12, List.forall_mem_cons.mpr ⟨sq379_29, List.forall_mem_cons.mpr ⟨sq379_32, List.forall_mem_cons.mpr ⟨sq379_47, List.forall_mem_cons.mpr ⟨sq379_50, List.forall_mem_cons.mpr ⟨sq379_56, List.forall_mem_cons.mpr ⟨sq379_63, List.forall_mem_cons.mpr ⟨sq379_75, List.forall_mem_cons.mpr ⟨sq379_87, List.forall_mem_cons.mpr ⟨sq379_100, List.forall_mem_cons.mpr ⟨sq379_103, List.forall_mem_cons.mpr ⟨sq379_110, List.forall_mem_cons.mpr ⟨sq379_113, List.forall_mem_cons.mpr ⟨sq379_119, List.forall_mem_cons.mpr ⟨sq379_126, List.forall_mem_cons.mpr ⟨sq379_133, List.forall_mem_cons.mpr ⟨sq379_141, List.forall_mem_cons.mpr ⟨sq379_148, List.forall_mem_cons.mpr ⟨sq379_156, List.forall_mem_cons.mpr ⟨sq379_163, List.forall_mem_cons.mpr ⟨sq379_171, List.forall_mem_cons.mpr ⟨sq379_172, List.forall_mem_cons.mpr ⟨sq379_187, List.forall_mem_cons.mpr ⟨sq379_191, List.forall_mem_cons.mpr ⟨sq379_197, List.forall_mem_cons.mpr ⟨sq379_203, List.forall_mem_cons.mpr ⟨sq379_217, List.forall_mem_cons.mpr ⟨sq379_224, List.forall_mem_cons.mpr ⟨sq379_230, List.forall_mem_cons.mpr ⟨sq379_231, List.forall_mem_cons.mpr ⟨sq379_244, List.forall_mem_cons.mpr ⟨sq379_247, List.forall_mem_cons.mpr ⟨sq379_257, List.forall_mem_cons.mpr ⟨sq379_265, List.forall_mem_cons.mpr ⟨sq379_284, List.forall_mem_cons.mpr ⟨sq379_291, List.forall_mem_cons.mpr ⟨sq379_310, List.forall_mem_cons.mpr ⟨sq379_313, List.forall_mem_cons.mpr ⟨sq379_324, List.forall_mem_cons.mpr ⟨sq379_331, List.forall_mem_cons.mpr ⟨sq379_335, List.forall_mem_cons.mpr ⟨sq379_339, List.forall_mem_cons.mpr ⟨sq379_352, List.forall_mem_cons.mpr ⟨sq379_363, List.forall_mem_cons.mpr ⟨sq379_383, List.forall_mem_cons.mpr ⟨sq379_397, List.forall_mem_cons.mpr ⟨sq379_400, List.forall_mem_cons.mpr ⟨sq379_406, (fun _ h => absurd h List.not_mem_nil)⟩⟩⟩⟩⟩⟩⟩⟩⟩⟩⟩⟩⟩⟩⟩⟩⟩⟩⟩⟩⟩⟩⟩⟩⟩⟩⟩⟩⟩⟩⟩⟩⟩⟩⟩⟩⟩⟩⟩⟩⟩⟩⟩⟩⟩⟩⟩⟩⟩)
theorem sq380_199 : sq 380 199 B380_199 := sq_take 2 (e := 200) (by decide +kernel) True.intro
theorem sq380_195 : sq 380 195 B380_195 := sq_take 3 (e := 199) (by decide +kernel) sq380_199
theorem sq380_183 : sq 380 183 B380_183 := sq_take 7 (e := 195) (by decide +kernel) sq380_195
theorem sq380_179 : sq 380 179 B380_179 := sq_take 3 (e := 183) (by decide +kernel) sq380_183
theorem sq380_167 : sq 380 167 B380_167 := sq_take 7 (e := 179) (by decide +kernel) sq380_179
theorem sq380_165 : sq 380 165 B380_165 := sq_take 1 (e := 167) (by decide +kernel) sq380_167
theorem sq380_153 : sq 380 153 B380_153 := sq_take 5 (e := 165) (by decide +kernel) True.intro
theorem sq380_127 : sq 380 127 B380_127 := sq_take 14 (e := 153) (by decide +kernel) True.intro
theorem sq380_126 : sq 380 126 B380_126 := sq_take 2 (e := 127) (by decide +kernel) True.intro
theorem sq380_118 : sq 380 118 B380_118 := sq_take 5 (e := 126) (by decide +kernel) sq380_126
theorem sq380_109 : sq 380 109 B380_109 := sq_take 6 (e := 118) (by decide +kernel) sq380_118
theorem sq380_108 : sq 380 108 B380_108 := sq_take 1 (e := 109) (by decide +kernel) sq380_109
theorem sq380_102 : sq 380 102 B380_102 := sq_take 3 (e := 108) (by decide +kernel) True.intro
theorem sq380_99 : sq 380 99 B380_99 := sq_take 2 (e := 102) (by decide +kernel) sq380_102
theorem sq380_89 : sq 380 89 B380_89 := sq_take 5 (e := 99) (by decide +kernel) sq380_99
theorem sq380_79 : sq 380 79 B380_79 := sq_take 5 (e := 89) (by decide +kernel) sq380_89
theorem sq380_72 : sq 380 72 B380_72 := sq_take 3 (e := 79) (by decide +kernel) sq380_79
theorem sq380_66 : sq 380 66 B380_66 := sq_take 3 (e := 72) (by decide +kernel) True.intro
theorem sq380_63 : sq 380 63 B380_63 := sq_take 2 (e := 66) (by decide +kernel) sq380_66
theorem sq380_53 : sq 380 53 B380_53 := sq_take 5 (e := 63) (by decide +kernel) sq380_63
theorem sq380_43 : sq 380 43 B380_43 := sq_take 5 (e := 53) (by decide +kernel) sq380_53
theorem sq380_36 : sq 380 36 B380_36 := sq_take 3 (e := 43) (by decide +kernel) sq380_43
theorem sq380_30 : sq 380 30 B380_30 := sq_take 3 (e := 36) (by decide +kernel) True.intro
theorem sq380_27 : sq 380 27 B380_27 := sq_take 2 (e := 30) (by decide +kernel) sq380_30
theorem sq380_17 : sq 380 17 B380_17 := sq_take 5 (e := 27) (by decide +kernel) sq380_27
theorem sq380_7 : sq 380 7 B380_7 := sq_take 5 (e := 17) (by decide +kernel) sq380_17
theorem sq380_0 : sq 380 0 B380_0 := sq_take 4 (e := 7) (by decide +kernel) sq380_7
set_option maxRecDepth 100000 in
theorem sqM_380 : ∀ b, sq 380 b (tG 380 b) := show ∀ b, sq 380 b (lkB tb380 b) from lkB_sq (List.forall_mem_cons.mpr ⟨sq380_0, List.forall_mem_cons.mpr ⟨sq380_7, List.forall_mem_cons.mpr ⟨sq380_17, List.forall_mem_cons.mpr ⟨sq380_27, List.forall_mem_cons.mpr ⟨sq380_30, List.forall_mem_cons.mpr ⟨sq380_36, List.forall_mem_cons.mpr ⟨sq380_43, List.forall_mem_cons.mpr ⟨sq380_53, List.forall_mem_cons.mpr ⟨sq380_63, List.forall_mem_cons.mpr ⟨sq380_66, List.forall_mem_cons.mpr ⟨sq380_72, List.forall_mem_cons.mpr ⟨sq380_79, List.forall_mem_cons.mpr ⟨sq380_89, List.forall_mem_cons.mpr ⟨sq380_99, List.forall_mem_cons.mpr ⟨sq380_102, List.forall_mem_cons.mpr ⟨sq380_108, List.forall_mem_cons.mpr ⟨sq380_109, List.forall_mem_cons.mpr ⟨sq380_118, List.forall_mem_cons.mpr ⟨sq380_126, List.forall_mem_cons.mpr ⟨sq380_127, List.forall_mem_cons.mpr ⟨sq380_153, List.forall_mem_cons.mpr ⟨sq380_165, List.forall_mem_cons.mpr ⟨sq380_167, List.forall_mem_cons.mpr ⟨sq380_179, List.forall_mem_cons.mpr ⟨sq380_183, List.forall_mem_cons.mpr ⟨sq380_195, List.forall_mem_cons.mpr ⟨sq380_199, (fun _ h => absurd h List.not_mem_nil)⟩⟩⟩⟩⟩⟩⟩⟩⟩⟩⟩⟩⟩⟩⟩⟩⟩⟩⟩⟩⟩⟩⟩⟩⟩⟩⟩)
theorem sq381_159 : sq 381 159 B381_159 := sq_take 3 (e := 164) (by decide +kernel) True.intro
theorem sq381_157 : sq 381 157 B381_157 := sq_take 1 (e := 159) (by decide +kernel) sq381_159
theorem sq381_137 : sq 381 137 B381_137 := sq_take 12 (e := 157) (by decide +kernel) True.intro
theorem sq381_128 : sq 381 128 B381_128 := sq_take 5 (e := 137) (by decide +kernel) sq381_137
theorem sq381_123 : sq 381 123 B381_123 := sq_take 3 (e := 128) (by decide +kernel) sq381_128
theorem sq381_120 : sq 381 120 B381_120 := sq_take 1 (e := 123) (by decide +kernel) sq381_123
theorem sq381_110 : sq 381 110 B381_110 := sq_take 5 (e := 120) (by decide +kernel) True.intro
theorem sq381_109 : sq 381 109 B381_109 := sq_take 2 (e := 110) (by decide +kernel) True.intro
theorem sq381_100 : sq 381 100 B381_100 := sq_take 6 (e := 109) (by decide +kernel) sq381_109
theorem sq381_75 : sq 381 75 B381_75 := sq_take 14 (e := 100) (by decide +kernel) sq381_100
theorem sq381_73 : sq 381 73 B381_73 := sq_take 1 (e := 75) (by decide +kernel) sq381_75
theorem sq381_63 : sq 381 63 B381_63 := sq_take 6 (e := 73) (by decide +kernel) True.intro
theorem sq381_54 : sq 381 54 B381_54 := sq_take 5 (e := 63) (by decide +kernel) sq381_63
theorem sq381_39 : sq 381 39 B381_39 := sq_take 7 (e := 54) (by decide +kernel) sq381_54
theorem sq381_28 : sq 381 28 B381_28 := sq_take 5 (e := 39) (by decide +kernel) sq381_39
theorem sq381_24 : sq 381 24 B381_24 := sq_take 3 (e := 28) (by decide +kernel) True.intro
theorem sq381_20 : sq 381 20 B381_20 := sq_take 3 (e := 24) (by decide +kernel) sq381_24
theorem sq381_4 : sq 381 4 B381_4 := sq_take 9 (e := 20) (by decide +kernel) sq381_20
theorem sq381_0 : sq 381 0 B381_0 := sq_take 3 (e := 4) (by decide +kernel) sq381_4
set_option maxRecDepth 100000 in
theorem sqM_381 : ∀ b, sq 381 b (tG 381 b) := show ∀ b, sq 381 b (lkB tb381 b) from lkB_sq (List.forall_mem_cons.mpr ⟨sq381_0, List.forall_mem_cons.mpr ⟨sq381_4, List.forall_mem_cons.mpr ⟨sq381_20, List.forall_mem_cons.mpr ⟨sq381_24, List.forall_mem_cons.mpr ⟨sq381_28, List.forall_mem_cons.mpr ⟨sq381_39, List.forall_mem_cons.mpr ⟨sq381_54, List.forall_mem_cons.mpr ⟨sq381_63, List.forall_mem_cons.mpr ⟨sq381_73, List.forall_mem_cons.mpr ⟨sq381_75, List.forall_mem_cons.mpr ⟨sq381_100, List.forall_mem_cons.mpr ⟨sq381_109, List.forall_mem_cons.mpr ⟨sq381_110, List.forall_mem_cons.mpr ⟨sq381_120, List.forall_mem_cons.mpr ⟨sq381_123, List.forall_mem_cons.mpr ⟨sq381_128, List.forall_mem_cons.mpr ⟨sq381_137, List.forall_mem_cons.mpr ⟨sq381_157, List.forall_mem_cons.mpr ⟨sq381_159, (fun _ h => absurd h List.not_mem_nil)⟩⟩⟩⟩⟩⟩⟩⟩⟩⟩⟩⟩⟩⟩⟩⟩⟩⟩⟩)
theorem sq382_388 : sq 382 388 B382_388 := sq_take 2 (e := 389) (by decide +kernel) True.intro
theorem sq382_382 : sq 382 382 B382_382 := sq_take 4 (e := 388) (by decide +kernel) sq382_388
theorem sq382_374 : sq 382 374 B382_374 := sq_take 5 (e := 382) (by decide +kernel) sq382_382
theorem sq382_370 : sq 382 370 B382_370 := sq_take 2 (e := 374) (by decide +kernel) sq382_374
theorem sq382_357 : sq 382 357 B382_357 := sq_take 8 (e := 370) (by decide +kernel) True.intro
theorem sq382_346 : sq 382 346 B382_346 := sq_take 6 (e := 357) (by decide +kernel) sq382_357
theorem sq382_339 : sq 382 339 B382_339 := sq_take 4 (e := 346) (by decide +kernel) sq382_346
theorem sq382_336 : sq 382 336 B382_336 := sq_take 1 (e := 339) (by decide +kernel) sq382_339
theorem sq382_323 : sq 382 323 B382_323 := sq_take 6 (e := 336) (by decide +kernel) True.intro
theorem sq382_319 : sq 382 319 B382_319 := sq_take 3 (e := 323) (by decide +kernel) sq382_323
theorem sq382_315 : sq 382 315 B382_315 := sq_take 3 (e := 319) (by decide +kernel) sq382_319
theorem sq382_311 : sq 382 311 B382_311 := sq_take 3 (e := 315) (by decide +kernel) sq382_315
theorem sq382_300 : sq 382 300 B382_300 := sq_take 6 (e := 311) (by decide +kernel) sq382_311
theorem sq382_287 : sq 382 287 B382_287 := sq_take 7 (e := 300) (by decide +kernel) sq382_300
theorem sq382_282 : sq 382 282 B382_282 := sq_take 4 (e := 287) (by decide +kernel) sq382_287
theorem sq382_281 : sq 382 281 B382_281 := sq_take 2 (e := 282) (by decide +kernel) sq382_282
theorem sq382_274 : sq 382 274 B382_274 := sq_take 4 (e := 281) (by decide +kernel) True.intro
theorem sq382_265 : sq 382 265 B382_265 := sq_take 5 (e := 274) (by decide +kernel) sq382_274
theorem sq382_261 : sq 382 261 B382_261 := sq_take 3 (e := 265) (by decide +kernel) sq382_265
theorem sq382_254 : sq 382 254 B382_254 := sq_take 4 (e := 261) (by decide +kernel) sq382_261
theorem sq382_253 : sq 382 253 B382_253 := sq_take 1 (e := 254) (by decide +kernel) sq382_254
theorem sq382_250 : sq 382 250 B382_250 := sq_take 2 (e := 253) (by decide +kernel) True.intro
theorem sq382_243 : sq 382 243 B382_243 := sq_take 4 (e := 250) (by decide +kernel) sq382_250
theorem sq382_238 : sq 382 238 B382_238 := sq_take 4 (e := 243) (by decide +kernel) sq382_243
theorem sq382_232 : sq 382 232 B382_232 := sq_take 5 (e := 238) (by decide +kernel) sq382_238
theorem sq382_226 : sq 382 226 B382_226 := sq_take 4 (e := 232) (by decide +kernel) sq382_232
theorem sq382_220 : sq 382 220 B382_220 := sq_take 4 (e := 226) (by decide +kernel) sq382_226
theorem sq382_214 : sq 382 214 B382_214 := sq_take 4 (e := 220) (by decide +kernel) sq382_220
theorem sq382_210 : sq 382 210 B382_210 := sq_take 3 (e := 214) (by decide +kernel) sq382_214
theorem sq382_207 : sq 382 207 B382_207 := sq_take 2 (e := 210) (by decide +kernel) sq382_210
theorem sq382_205 : sq 382 205 B382_205 := sq_take 1 (e := 207) (by decide +kernel) sq382_207
theorem sq382_194 : sq 382 194 B382_194 := sq_take 5 (e := 205) (by decide +kernel) True.intro
theorem sq382_182 : sq 382 182 B382_182 := sq_take 5 (e := 194) (by decide +kernel) True.intro
theorem sq382_145 : sq 382 145 B382_145 := sq_take 22 (e := 182) (by decide +kernel) True.intro
theorem sq382_141 : sq 382 141 B382_141 := sq_take 3 (e := 145) (by decide +kernel) sq382_145
theorem sq382_126 : sq 382 126 B382_126 := sq_take 8 (e := 141) (by decide +kernel) sq382_141
theorem sq382_121 : sq 382 121 B382_121 := sq_take 4 (e := 126) (by decide +kernel) sq382_126
theorem sq382_120 : sq 382 120 B382_120 := sq_take 2 (e := 121) (by decide +kernel) sq382_121
theorem sq382_116 : sq 382 116 B382_116 := sq_take 3 (e := 120) (by decide +kernel) True.intro
theorem sq382_113 : sq 382 113 B382_113 := sq_take 2 (e := 116) (by decide +kernel) sq382_116
theorem sq382_103 : sq 382 103 B382_103 := sq_take 5 (e := 113) (by decide +kernel) sq382_113
theorem sq382_93 : sq 382 93 B382_93 := sq_take 5 (e := 103) (by decide +kernel) sq382_103
theorem sq382_83 : sq 382 83 B382_83 := sq_take 5 (e := 93) (by decide +kernel) sq382_93
theorem sq382_66 : sq 382 66 B382_66 := sq_take 8 (e := 83) (by decide +kernel) sq382_83
theorem sq382_59 : sq 382 59 B382_59 := sq_take 4 (e := 66) (by decide +kernel) sq382_66
theorem sq382_58 : sq 382 58 B382_58 := sq_take 2 (e := 59) (by decide +kernel) sq382_59
theorem sq382_54 : sq 382 54 B382_54 := sq_take 3 (e := 58) (by decide +kernel) True.intro
theorem sq382_51 : sq 382 51 B382_51 := sq_take 2 (e := 54) (by decide +kernel) sq382_54
theorem sq382_41 : sq 382 41 B382_41 := sq_take 5 (e := 51) (by decide +kernel) sq382_51
theorem sq382_31 : sq 382 31 B382_31 := sq_take 5 (e := 41) (by decide +kernel) sq382_41
theorem sq382_17 : sq 382 17 B382_17 := sq_take 7 (e := 31) (by decide +kernel) sq382_31
theorem sq382_12 : sq 382 12 B382_12 := sq_take 4 (e := 17) (by decide +kernel) sq382_17
theorem sq382_6 : sq 382 6 B382_6 := sq_take 4 (e := 12) (by decide +kernel) sq382_12
theorem sq382_0 : sq 382 0 B382_0 := sq_take 4 (e := 6) (by decide +kernel) sq382_6
set_option maxRecDepth 100000 in
theorem sqM_382 : ∀ b, sq 382 b (tG 382 b) := show ∀ b, sq 382 b (lkB tb382 b) from lkB_sq (List.forall_mem_cons.mpr ⟨sq382_0, List.forall_mem_cons.mpr ⟨sq382_6, List.forall_mem_cons.mpr ⟨sq382_12, List.forall_mem_cons.mpr ⟨sq382_17, List.forall_mem_cons.mpr ⟨sq382_31, List.forall_mem_cons.mpr ⟨sq382_41, List.forall_mem_cons.mpr ⟨sq382_51, List.forall_mem_cons.mpr ⟨sq382_54, List.forall_mem_cons.mpr ⟨sq382_58, List.forall_mem_cons.mpr ⟨sq382_59, List.forall_mem_cons.mpr ⟨sq382_66, List.forall_mem_cons.mpr ⟨sq382_83, List.forall_mem_cons.mpr ⟨sq382_93, List.forall_mem_cons.mpr ⟨sq382_103, List.forall_mem_cons.mpr ⟨sq382_113, List.forall_mem_cons.mpr ⟨sq382_116, List.forall_mem_cons.mpr ⟨sq382_120, List.forall_mem_cons.mpr ⟨sq382_121, List.forall_mem_cons.mpr ⟨sq382_126, List.forall_mem_cons.mpr ⟨sq382_141, List.forall_mem_cons.mpr ⟨sq382_145, List.forall_mem_cons.mpr ⟨sq382_182, List.forall_mem_cons.mpr ⟨sq382_194, List.forall_mem_cons.mpr ⟨sq382_205, List.forall_mem_cons.mpr ⟨sq382_207, List.forall_mem_cons.mpr ⟨sq382_210, List.forall_mem_cons.mpr ⟨sq382_214, List.forall_mem_cons.mpr ⟨sq382_220, List.forall_mem_cons.mpr ⟨sq382_226, List.forall_mem_cons.mpr ⟨sq382_232, List.forall_mem_cons.mpr ⟨sq382_238, List.forall_mem_cons.mpr ⟨sq382_243, List.forall_mem_cons.mpr ⟨sq382_250, List.forall_mem_cons.mpr ⟨sq382_253, List.forall_mem_cons.mpr ⟨sq382_254, List.forall_mem_cons.mpr ⟨sq382_261, List.forall_mem_cons.mpr ⟨sq382_265, List.forall_mem_cons.mpr ⟨sq382_274, List.forall_mem_cons.mpr ⟨sq382_281, List.forall_mem_cons.mpr ⟨sq382_282, List.forall_mem_cons.mpr ⟨sq382_287, List.forall_mem_cons.mpr ⟨sq382_300, List.forall_mem_cons.mpr ⟨sq382_311, List.forall_mem_cons.mpr ⟨sq382_315, List.forall_mem_cons.mpr ⟨sq382_319, List.forall_mem_cons.mpr ⟨sq382_323, List.forall_mem_cons.mpr ⟨sq382_336, List.forall_mem_cons.mpr ⟨sq382_339, List.forall_mem_cons.mpr ⟨sq382_346, List.forall_mem_cons.mpr ⟨sq382_357, List.forall_mem_cons.mpr ⟨sq382_370, List.forall_mem_cons.mpr ⟨sq382_374, List.forall_mem_cons.mpr ⟨sq382_382, List.forall_mem_cons.mpr ⟨sq382_388, (fun _ h => absurd h List.not_mem_nil)⟩⟩⟩⟩⟩⟩⟩⟩⟩⟩⟩⟩⟩⟩⟩⟩⟩⟩⟩⟩⟩⟩⟩⟩⟩⟩⟩⟩⟩⟩⟩⟩⟩⟩⟩⟩⟩⟩⟩⟩⟩⟩⟩⟩⟩⟩⟩⟩⟩⟩⟩⟩⟩⟩)
theorem sq383_111 : sq 383 111 B383_111 := sq_take 1 (e := 112) (by decide +kernel) True.intro
theorem sq383_108 : sq 383 108 B383_108 := sq_take 2 (e := 111) (by decide +kernel) sq383_111
theorem sq383_100 : sq 383 100 B383_100 := sq_take 5 (e := 108) (by decide +kernel) sq383_108
theorem sq383_96 : sq 383 96 B383_96 := sq_take 3 (e := 100) (by decide +kernel) sq383_100
theorem sq383_93 : sq 383 93 B383_93 := sq_take 2 (e := 96) (by decide +kernel) True.intro
theorem sq383_86 : sq 383 86 B383_86 := sq_take 4 (e := 93) (by decide +kernel) sq383_93
theorem sq383_85 : sq 383 85 B383_85 := sq_take 1 (e := 86) (by decide +kernel) sq383_86
theorem sq383_82 : sq 383 82 B383_82 := sq_take 2 (e := 85) (by decide +kernel) True.intro
theorem sq383_75 : sq 383 75 B383_75 := sq_take 4 (e := 82) (by decide +kernel) sq383_82
theorem sq383_59 : sq 383 59 B383_59 := sq_take 10 (e := 75) (by decide +kernel) sq383_75
theorem sq383_42 : sq 383 42 B383_42 := sq_take 10 (e := 59) (by decide +kernel) sq383_59
theorem sq383_38 : sq 383 38 B383_38 := sq_take 3 (e := 42) (by decide +kernel) sq383_42
theorem sq383_11 : sq 383 11 B383_11 := sq_take 15 (e := 38) (by decide +kernel) sq383_38
theorem sq383_5 : sq 383 5 B383_5 := sq_take 4 (e := 11) (by decide +kernel) sq383_11
theorem sq383_0 : sq 383 0 B383_0 := sq_take 4 (e := 5) (by decide +kernel) sq383_5
set_option maxRecDepth 100000 in
theorem sqM_383 : ∀ b, sq 383 b (tG 383 b) := show ∀ b, sq 383 b (lkB tb383 b) from lkB_sq (List.forall_mem_cons.mpr ⟨sq383_0, List.forall_mem_cons.mpr ⟨sq383_5, List.forall_mem_cons.mpr ⟨sq383_11, List.forall_mem_cons.mpr ⟨sq383_38, List.forall_mem_cons.mpr ⟨sq383_42, List.forall_mem_cons.mpr ⟨sq383_59, List.forall_mem_cons.mpr ⟨sq383_75, List.forall_mem_cons.mpr ⟨sq383_82, List.forall_mem_cons.mpr ⟨sq383_85, List.forall_mem_cons.mpr ⟨sq383_86, List.forall_mem_cons.mpr ⟨sq383_93, List.forall_mem_cons.mpr ⟨sq383_96, List.forall_mem_cons.mpr ⟨sq383_100, List.forall_mem_cons.mpr ⟨sq383_108, List.forall_mem_cons.mpr ⟨sq383_111, (fun _ h => absurd h List.not_mem_nil)⟩⟩⟩⟩⟩⟩⟩⟩⟩⟩⟩⟩⟩⟩⟩)
theorem sq384_208 : sq 384 208 B384_208 := sq_take 2 (e := 209) (by decide +kernel) True.intro
theorem sq384_201 : sq 384 201 B384_201 := sq_take 4 (e := 208) (by decide +kernel) sq384_208
theorem sq384_200 : sq 384 200 B384_200 := sq_take 1 (e := 201) (by decide +kernel) sq384_201
theorem sq384_197 : sq 384 197 B384_197 := sq_take 2 (e := 200) (by decide +kernel) True.intro
theorem sq384_190 : sq 384 190 B384_190 := sq_take 4 (e := 197) (by decide +kernel) sq384_197
theorem sq384_185 : sq 384 185 B384_185 := sq_take 4 (e := 190) (by decide +kernel) sq384_190
theorem sq384_179 : sq 384 179 B384_179 := sq_take 5 (e := 185) (by decide +kernel) sq384_185
theorem sq384_176 : sq 384 176 B384_176 := sq_take 2 (e := 179) (by decide +kernel) sq384_179
theorem sq384_173 : sq 384 173 B384_173 := sq_take 1 (e := 176) (by decide +kernel) sq384_176
theorem sq384_162 : sq 384 162 B384_162 := sq_take 5 (e := 173) (by decide +kernel) True.intro
theorem sq384_159 : sq 384 159 B384_159 := sq_take 2 (e := 162) (by decide +kernel) True.intro
theorem sq384_151 : sq 384 151 B384_151 := sq_take 5 (e := 159) (by decide +kernel) sq384_159
theorem sq384_150 : sq 384 150 B384_150 := sq_take 1 (e := 151) (by decide +kernel) sq384_151
theorem sq384_139 : sq 384 139 B384_139 := sq_take 7 (e := 150) (by decide +kernel) True.intro
theorem sq384_101 : sq 384 101 B384_101 := sq_take 17 (e := 139) (by decide +kernel) sq384_139
theorem sq384_95 : sq 384 95 B384_95 := sq_take 4 (e := 101) (by decide +kernel) sq384_101
theorem sq384_94 : sq 384 94 B384_94 := sq_take 2 (e := 95) (by decide +kernel) sq384_95
theorem sq384_91 : sq 384 91 B384_91 := sq_take 2 (e := 94) (by decide +kernel) True.intro
theorem sq384_73 : sq 384 73 B384_73 := sq_take 9 (e := 91) (by decide +kernel) sq384_91
theorem sq384_69 : sq 384 69 B384_69 := sq_take 3 (e := 73) (by decide +kernel) sq384_73
theorem sq384_61 : sq 384 61 B384_61 := sq_take 5 (e := 69) (by decide +kernel) sq384_69
theorem sq384_33 : sq 384 33 B384_33 := sq_take 15 (e := 61) (by decide +kernel) sq384_61
theorem sq384_28 : sq 384 28 B384_28 := sq_take 4 (e := 33) (by decide +kernel) sq384_33
theorem sq384_23 : sq 384 23 B384_23 := sq_take 4 (e := 28) (by decide +kernel) sq384_28
theorem sq384_15 : sq 384 15 B384_15 := sq_take 5 (e := 23) (by decide +kernel) sq384_23
theorem sq384_7 : sq 384 7 B384_7 := sq_take 5 (e := 15) (by decide +kernel) sq384_15
theorem sq384_0 : sq 384 0 B384_0 := sq_take 4 (e := 7) (by decide +kernel) sq384_7
set_option maxRecDepth 100000 in
theorem sqM_384 : ∀ b, sq 384 b (tG 384 b) := show ∀ b, sq 384 b (lkB tb384 b) from lkB_sq (List.forall_mem_cons.mpr ⟨sq384_0, List.forall_mem_cons.mpr ⟨sq384_7, List.forall_mem_cons.mpr ⟨sq384_15, List.forall_mem_cons.mpr ⟨sq384_23, List.forall_mem_cons.mpr ⟨sq384_28, List.forall_mem_cons.mpr ⟨sq384_33, List.forall_mem_cons.mpr ⟨sq384_61, List.forall_mem_cons.mpr ⟨sq384_69, List.forall_mem_cons.mpr ⟨sq384_73, List.forall_mem_cons.mpr ⟨sq384_91, List.forall_mem_cons.mpr ⟨sq384_94, List.forall_mem_cons.mpr ⟨sq384_95, List.forall_mem_cons.mpr ⟨sq384_101, List.forall_mem_cons.mpr ⟨sq384_139, List.forall_mem_cons.mpr ⟨sq384_150, List.forall_mem_cons.mpr ⟨sq384_151, List.forall_mem_cons.mpr ⟨sq384_159, List.forall_mem_cons.mpr ⟨sq384_162, List.forall_mem_cons.mpr ⟨sq384_173, List.forall_mem_cons.mpr ⟨sq384_176, List.forall_mem_cons.mpr ⟨sq384_179, List.forall_mem_cons.mpr ⟨sq384_185, List.forall_mem_cons.mpr ⟨sq384_190, List.forall_mem_cons.mpr ⟨sq384_197, List.forall_mem_cons.mpr ⟨sq384_200, List.forall_mem_cons.mpr ⟨sq384_201, List.forall_mem_cons.mpr ⟨sq384_208, (fun _ h => absurd h List.not_mem_nil)⟩⟩⟩⟩⟩⟩⟩⟩⟩⟩⟩⟩⟩⟩⟩⟩⟩⟩⟩⟩⟩⟩⟩⟩⟩⟩⟩)
theorem sq385_183 : sq 385 183 B385_183 := sq_take 2 (e := 184) (by decide +kernel) True.intro
theorem sq385_178 : sq 385 178 B385_178 := sq_take 4 (e := 183) (by decide +kernel) sq385_183
theorem sq385_174 : sq 385 174 B385_174 := sq_take 3 (e := 178) (by decide +kernel) sq385_178
theorem sq385_163 : sq 385 163 B385_163 := sq_take 6 (e := 174) (by decide +kernel) sq385_174
theorem sq385_153 : sq 385 153 B385_153 := sq_take 5 (e := 163) (by decide +kernel) sq385_163
theorem sq385_149 : sq 385 149 B385_149 := sq_take 3 (e := 153) (by decide +kernel) sq385_153
theorem sq385_144 : sq 385 144 B385_144 := sq_take 4 (e := 149) (by decide +kernel) sq385_149
theorem sq385_136 : sq 385 136 B385_136 := sq_take 5 (e := 144) (by decide +kernel) sq385_144
theorem sq385_135 : sq 385 135 B385_135 := sq_take 1 (e := 136) (by decide +kernel) sq385_136
theorem sq385_123 : sq 385 123 B385_123 := sq_take 7 (e := 135) (by decide +kernel) True.intro
theorem sq385_107 : sq 385 107 B385_107 := sq_take 8 (e := 123) (by decide +kernel) sq385_123
theorem sq385_101 : sq 385 101 B385_101 := sq_take 4 (e := 107) (by decide +kernel) sq385_107
theorem sq385_100 : sq 385 100 B385_100 := sq_take 2 (e := 101) (by decide +kernel) sq385_101
theorem sq385_97 : sq 385 97 B385_97 := sq_take 2 (e := 100) (by decide +kernel) True.intro
theorem sq385_81 : sq 385 81 B385_81 := sq_take 9 (e := 97) (by decide +kernel) sq385_97
theorem sq385_77 : sq 385 77 B385_77 := sq_take 3 (e := 81) (by decide +kernel) sq385_81
theorem sq385_68 : sq 385 68 B385_68 := sq_take 6 (e := 77) (by decide +kernel) sq385_77
theorem sq385_67 : sq 385 67 B385_67 := sq_take 2 (e := 68) (by decide +kernel) sq385_68
theorem sq385_60 : sq 385 60 B385_60 := sq_take 4 (e := 67) (by decide +kernel) True.intro
theorem sq385_50 : sq 385 50 B385_50 := sq_take 5 (e := 60) (by decide +kernel) sq385_60
theorem sq385_46 : sq 385 46 B385_46 := sq_take 3 (e := 50) (by decide +kernel) sq385_50
theorem sq385_33 : sq 385 33 B385_33 := sq_take 9 (e := 46) (by decide +kernel) sq385_46
theorem sq385_32 : sq 385 32 B385_32 := sq_take 1 (e := 33) (by decide +kernel) sq385_33
theorem sq385_21 : sq 385 21 B385_21 := sq_take 7 (e := 32) (by decide +kernel) True.intro
theorem sq385_20 : sq 385 20 B385_20 := sq_take 1 (e := 21) (by decide +kernel) sq385_21
theorem sq385_17 : sq 385 17 B385_17 := sq_take 2 (e := 20) (by decide +kernel) True.intro
theorem sq385_10 : sq 385 10 B385_10 := sq_take 4 (e := 17) (by decide +kernel) sq385_17
theorem sq385_6 : sq 385 6 B385_6 := sq_take 3 (e := 10) (by decide +kernel) sq385_10
theorem sq385_0 : sq 385 0 B385_0 := sq_take 5 (e := 6) (by decide +kernel) sq385_6
set_option maxRecDepth 100000 in
theorem sqM_385 : ∀ b, sq 385 b (tG 385 b) := show ∀ b, sq 385 b (lkB tb385 b) from lkB_sq (List.forall_mem_cons.mpr ⟨sq385_0, List.forall_mem_cons.mpr ⟨sq385_6, List.forall_mem_cons.mpr ⟨sq385_10, List.forall_mem_cons.mpr ⟨sq385_17, List.forall_mem_cons.mpr ⟨sq385_20, List.forall_mem_cons.mpr ⟨sq385_21, List.forall_mem_cons.mpr ⟨sq385_32, List.forall_mem_cons.mpr ⟨sq385_33, List.forall_mem_cons.mpr ⟨sq385_46, List.forall_mem_cons.mpr ⟨sq385_50, List.forall_mem_cons.mpr ⟨sq385_60, List.forall_mem_cons.mpr ⟨sq385_67, List.forall_mem_cons.mpr ⟨sq385_68, List.forall_mem_cons.mpr ⟨sq385_77, List.forall_mem_cons.mpr ⟨sq385_81, List.forall_mem_cons.mpr ⟨sq385_97, List.forall_mem_cons.mpr ⟨sq385_100, List.forall_mem_cons.mpr ⟨sq385_101, List.forall_mem_cons.mpr ⟨sq385_107, List.forall_mem_cons.mpr ⟨sq385_123, List.forall_mem_cons.mpr ⟨sq385_135, List.forall_mem_cons.mpr ⟨sq385_136, List.forall_mem_cons.mpr ⟨sq385_144, List.forall_mem_cons.mpr ⟨sq385_149, List.forall_mem_cons.mpr ⟨sq385_153, List.forall_mem_cons.mpr ⟨sq385_163, List.forall_mem_cons.mpr ⟨sq385_174, List.forall_mem_cons.mpr ⟨sq385_178, List.forall_mem_cons.mpr ⟨sq385_183, (fun _ h => absurd h List.not_mem_nil)⟩⟩⟩⟩⟩⟩⟩⟩⟩⟩⟩⟩⟩⟩⟩⟩⟩⟩⟩⟩⟩⟩⟩⟩⟩⟩⟩⟩⟩)
