theorem sq59_130 : sq 59 130 B59_130 := sq_take 1 (e := 131) (by decide +kernel) True.intro
theorem sq59_92 : sq 59 92 B59_92 := sq_take 26 (e := 130) (by decide +kernel) sq59_130
theorem sq59_91 : sq 59 91 B59_91 := sq_take 1 (e := 92) (by decide +kernel) sq59_92
theorem sq59_66 : sq 59 66 B59_66 := sq_take 15 (e := 91) (by decide +kernel) True.intro
theorem sq59_65 : sq 59 65 B59_65 := sq_take 1 (e := 66) (by decide +kernel) True.intro
theorem sq59_24 : sq 59 24 B59_24 := sq_take 24 (e := 65) (by decide +kernel) sq59_65
theorem sq59_23 : sq 59 23 B59_23 := sq_take 1 (e := 24) (by decide +kernel) True.intro
theorem sq59_0 : sq 59 0 B59_0 := sq_take 13 (e := 23) (by decide +kernel) sq59_23
set_option maxRecDepth 100000 in
theorem sqM_59 : ∀ b, sq 59 b (tG 59 b) := show ∀ b, sq 59 b (lkB tb59 b) from lkB_sq (List.forall_mem_cons.mpr ⟨sq59_0, List.forall_mem_cons.mpr ⟨sq59_23, List.forall_mem_cons.mpr ⟨sq59_24, List.forall_mem_cons.mpr ⟨sq59_65, List.forall_mem_cons.mpr ⟨sq59_66, List.forall_mem_cons.mpr ⟨sq59_91, List.forall_mem_cons.mpr ⟨sq59_92, List.forall_mem_cons.mpr ⟨sq59_130, (fun _ h => absurd h List.not_mem_nil)⟩⟩⟩⟩⟩⟩⟩⟩)
theorem sq60_28 : sq 60 28 B60_28 := sq_take 3 (e := 30) (by decide +kernel) True.intro
theorem sq60_0 : sq 60 0 B60_0 := sq_take 21 (e := 28) (by decide +kernel) sq60_28
set_option maxRecDepth 100000 in
theorem sqM_60 : ∀ b, sq 60 b (tG 60 b) := show ∀ b, sq 60 b (lkB tb60 b) from lkB_sq (List.forall_mem_cons.mpr ⟨sq60_0, List.forall_mem_cons.mpr ⟨sq60_28, (fun _ h => absurd h List.not_mem_nil)⟩⟩)
theorem sq61_30 : sq 61 30 B61_30 := sq_take 2 (e := 31) (by decide +kernel) True.intro
theorem sq61_15 : sq 61 15 B61_15 := sq_take 10 (e := 30) (by decide +kernel) sq61_30
theorem sq61_0 : sq 61 0 B61_0 := sq_take 10 (e := 15) (by decide +kernel) sq61_15
set_option maxRecDepth 100000 in
theorem sqM_61 : ∀ b, sq 61 b (tG 61 b) := show ∀ b, sq 61 b (lkB tb61 b) from lkB_sq (List.forall_mem_cons.mpr ⟨sq61_0, List.forall_mem_cons.mpr ⟨sq61_15, List.forall_mem_cons.mpr ⟨sq61_30, (fun _ h => absurd h List.not_mem_nil)⟩⟩⟩)
theorem sq62_38 : sq 62 38 B62_38 := sq_take 2 (e := 39) (by decide +kernel) True.intro
theorem sq62_17 : sq 62 17 B62_17 := sq_take 10 (e := 38) (by decide +kernel) sq62_38
theorem sq62_0 : sq 62 0 B62_0 := sq_take 10 (e := 17) (by decide +kernel) sq62_17
set_option maxRecDepth 100000 in
theorem sqM_62 : ∀ b, sq 62 b (tG 62 b) := show ∀ b, sq 62 b (lkB tb62 b) from lkB_sq (List.forall_mem_cons.mpr ⟨sq62_0, List.forall_mem_cons.mpr ⟨sq62_17, List.forall_mem_cons.mpr ⟨sq62_38, (fun _ h => absurd h List.not_mem_nil)⟩⟩⟩)
theorem sq63_43 : sq 63 43 B63_43 := sq_take 1 (e := 44) (by decide +kernel) True.intro
theorem sq63_35 : sq 63 35 B63_35 := sq_take 5 (e := 43) (by decide +kernel) sq63_43
theorem sq63_4 : sq 63 4 B63_4 := sq_take 20 (e := 35) (by decide +kernel) sq63_35
theorem sq63_0 : sq 63 0 B63_0 := sq_take 3 (e := 4) (by decide +kernel) sq63_4
set_option maxRecDepth 100000 in
theorem sqM_63 : ∀ b, sq 63 b (tG 63 b) := show ∀ b, sq 63 b (lkB tb63 b) from lkB_sq (List.forall_mem_cons.mpr ⟨sq63_0, List.forall_mem_cons.mpr ⟨sq63_4, List.forall_mem_cons.mpr ⟨sq63_35, List.forall_mem_cons.mpr ⟨sq63_43, (fun _ h => absurd h List.not_mem_nil)⟩⟩⟩⟩)
theorem sq64_0 : sq 64 0 B64_0 := sq_take 8 (e := 13) (by decide +kernel) True.intro
set_option maxRecDepth 100000 in
theorem sqM_64 : ∀ b, sq 64 b (tG 64 b) := show ∀ b, sq 64 b (lkB tb64 b) from lkB_sq (List.forall_mem_cons.mpr ⟨sq64_0, (fun _ h => absurd h List.not_mem_nil)⟩)
theorem sq65_0 : sq 65 0 B65_0 := sq_take 8 (e := 15) (by decide +kernel) True.intro
set_option maxRecDepth 100000 in
theorem sqM_65 : ∀ b, sq 65 b (tG 65 b) := show ∀ b, sq 65 b (lkB tb65 b) from lkB_sq (List.forall_mem_cons.mpr ⟨sq65_0, (fun _ h => absurd h List.not_mem_nil)⟩)
theorem sq66_48 : sq 66 48 B66_48 := sq_take 2 (e := 49) (by decide +kernel) True.intro
theorem sq66_24 : sq 66 24 B66_24 := sq_take 13 (e := 48) (by decide +kernel) sq66_48
theorem sq66_0 : sq 66 0 B66_0 := sq_take 13 (e := 24) (by decide +kernel) sq66_24
set_option maxRecDepth 100000 in
theorem sqM_66 : ∀ b, sq 66 b (tG 66 b) := show ∀ b, sq 66 b (lkB tb66 b) from lkB_sq (List.forall_mem_cons.mpr ⟨sq66_0, List.forall_mem_cons.mpr ⟨sq66_24, List.forall_mem_cons.mpr ⟨sq66_48, (fun _ h => absurd h List.not_mem_nil)⟩⟩⟩)
theorem sq67_55 : sq 67 55 B67_55 := sq_take 2 (e := 56) (by decide +kernel) True.intro
theorem sq67_27 : sq 67 27 B67_27 := sq_take 22 (e := 55) (by decide +kernel) sq67_55
theorem sq67_0 : sq 67 0 B67_0 := sq_take 22 (e := 27) (by decide +kernel) sq67_27
set_option maxRecDepth 100000 in
theorem sqM_67 : ∀ b, sq 67 b (tG 67 b) := show ∀ b, sq 67 b (lkB tb67 b) from lkB_sq (List.forall_mem_cons.mpr ⟨sq67_0, List.forall_mem_cons.mpr ⟨sq67_27, List.forall_mem_cons.mpr ⟨sq67_55, (fun _ h => absurd h List.not_mem_nil)⟩⟩⟩)
theorem sq68_55 : sq 68 55 B68_55 := sq_take 2 (e := 56) (by decide +kernel) True.intro
theorem sq68_27 : sq 68 27 B68_27 := sq_take 22 (e := 55) (by decide +kernel) sq68_55
theorem sq68_0 : sq 68 0 B68_0 := sq_take 22 (e := 27) (by decide +kernel) sq68_27
set_option maxRecDepth 100000 in
theorem sqM_68 : ∀ b, sq 68 b (tG 68 b) := show ∀ b, sq 68 b (lkB tb68 b) from lkB_sq (List.forall_mem_cons.mpr ⟨sq68_0, List.forall_mem_cons.mpr ⟨sq68_27, List.forall_mem_cons.mpr ⟨sq68_55, (fun _ h => absurd h List.not_mem_nil)⟩⟩⟩)
theorem sq69_14 : sq 69 14 B69_14 := sq_take 1 (e := 15) (by decide +kernel) True.intro
theorem sq69_13 : sq 69 13 B69_13 := sq_take 1 (e := 14) (by decide +kernel) sq69_14
theorem sq69_0 : sq 69 0 B69_0 := sq_take 8 (e := 13) (by decide +kernel) True.intro
set_option maxRecDepth 100000 in
theorem sqM_69 : ∀ b, sq 69 b (tG 69 b) := show ∀ b, sq 69 b (lkB tb69 b) from lkB_sq (List.forall_mem_cons.mpr ⟨sq69_0, List.forall_mem_cons.mpr ⟨sq69_13, List.forall_mem_cons.mpr ⟨sq69_14, (fun _ h => absurd h List.not_mem_nil)⟩⟩⟩)
theorem sq70_19 : sq 70 19 B70_19 := sq_take 1 (e := 20) (by decide +kernel) True.intro
theorem sq70_18 : sq 70 18 B70_18 := sq_take 1 (e := 19) (by decide +kernel) sq70_19
theorem sq70_0 : sq 70 0 B70_0 := sq_take 11 (e := 18) (by decide +kernel) True.intro
set_option maxRecDepth 100000 in
theorem sqM_70 : ∀ b, sq 70 b (tG 70 b) := show ∀ b, sq 70 b (lkB tb70 b) from lkB_sq (List.forall_mem_cons.mpr ⟨sq70_0, List.forall_mem_cons.mpr ⟨sq70_18, List.forall_mem_cons.mpr ⟨sq70_19, (fun _ h => absurd h List.not_mem_nil)⟩⟩⟩)
theorem sq71_19 : sq 71 19 B71_19 := sq_take 1 (e := 20) (by decide +kernel) True.intro
theorem sq71_18 : sq 71 18 B71_18 := sq_take 1 (e := 19) (by decide +kernel) sq71_19
theorem sq71_0 : sq 71 0 B71_0 := sq_take 11 (e := 18) (by decide +kernel) True.intro
set_option maxRecDepth 100000 in
theorem sqM_71 : ∀ b, sq 71 b (tG 71 b) := show ∀ b, sq 71 b (lkB tb71 b) from lkB_sq (List.forall_mem_cons.mpr ⟨sq71_0, List.forall_mem_cons.mpr ⟨sq71_18, List.forall_mem_cons.mpr ⟨sq71_19, (fun _ h => absurd h List.not_mem_nil)⟩⟩⟩)
theorem sq72_125 : sq 72 125 B72_125 := sq_take 3 (e := 129) (by decide +kernel) True.intro
theorem sq72_101 : sq 72 101 B72_101 := sq_take 13 (e := 125) (by decide +kernel) sq72_125
theorem sq72_77 : sq 72 77 B72_77 := sq_take 13 (e := 101) (by decide +kernel) sq72_101
theorem sq72_68 : sq 72 68 B72_68 := sq_take 5 (e := 77) (by decide +kernel) sq72_77
theorem sq72_32 : sq 72 32 B72_32 := sq_take 19 (e := 68) (by decide +kernel) True.intro
theorem sq72_28 : sq 72 28 B72_28 := sq_take 2 (e := 32) (by decide +kernel) sq72_32
theorem sq72_0 : sq 72 0 B72_0 := sq_take 15 (e := 28) (by decide +kernel) True.intro
set_option maxRecDepth 100000 in
theorem sqM_72 : ∀ b, sq 72 b (tG 72 b) := show ∀ b, sq 72 b (lkB tb72 b) from lkB_sq (List.forall_mem_cons.mpr ⟨sq72_0, List.forall_mem_cons.mpr ⟨sq72_28, List.forall_mem_cons.mpr ⟨sq72_32, List.forall_mem_cons.mpr ⟨sq72_68, List.forall_mem_cons.mpr ⟨sq72_77, List.forall_mem_cons.mpr ⟨sq72_101, List.forall_mem_cons.mpr ⟨sq72_125, (fun _ h => absurd h List.not_mem_nil)⟩⟩⟩⟩⟩⟩⟩)
theorem sq73_210 : sq 73 210 B73_210 := sq_take 1 (e := 211) (by decide +kernel) True.intro
theorem sq73_209 : sq 73 209 B73_209 := sq_take 2 (e := 210) (by decide +kernel) sq73_210
theorem sq73_173 : sq 73 173 B73_173 := sq_take 19 (e := 209) (by decide +kernel) True.intro
theorem sq73_140 : sq 73 140 B73_140 := sq_take 19 (e := 173) (by decide +kernel) sq73_173
theorem sq73_108 : sq 73 108 B73_108 := sq_take 21 (e := 140) (by decide +kernel) True.intro
theorem sq73_96 : sq 73 96 B73_96 := sq_take 7 (e := 108) (by decide +kernel) sq73_108
theorem sq73_93 : sq 73 93 B73_93 := sq_take 2 (e := 96) (by decide +kernel) sq73_96
theorem sq73_78 : sq 73 78 B73_78 := sq_take 8 (e := 93) (by decide +kernel) sq73_93
theorem sq73_52 : sq 73 52 B73_52 := sq_take 15 (e := 78) (by decide +kernel) sq73_78
theorem sq73_49 : sq 73 49 B73_49 := sq_take 2 (e := 52) (by decide +kernel) sq73_52
theorem sq73_34 : sq 73 34 B73_34 := sq_take 8 (e := 49) (by decide +kernel) sq73_49
theorem sq73_22 : sq 73 22 B73_22 := sq_take 7 (e := 34) (by decide +kernel) sq73_34
theorem sq73_4 : sq 73 4 B73_4 := sq_take 11 (e := 22) (by decide +kernel) sq73_22
theorem sq73_0 : sq 73 0 B73_0 := sq_take 3 (e := 4) (by decide +kernel) sq73_4
set_option maxRecDepth 100000 in
theorem sqM_73 : ∀ b, sq 73 b (tG 73 b) := show ∀ b, sq 73 b (lkB tb73 b) from lkB_sq (List.forall_mem_cons.mpr ⟨sq73_0, List.forall_mem_cons.mpr ⟨sq73_4, List.forall_mem_cons.mpr ⟨sq73_22, List.forall_mem_cons.mpr ⟨sq73_34, List.forall_mem_cons.mpr ⟨sq73_49, List.forall_mem_cons.mpr ⟨sq73_52, List.forall_mem_cons.mpr ⟨sq73_78, List.forall_mem_cons.mpr ⟨sq73_93, List.forall_mem_cons.mpr ⟨sq73_96, List.forall_mem_cons.mpr ⟨sq73_108, List.forall_mem_cons.mpr ⟨sq73_140, List.forall_mem_cons.mpr ⟨sq73_173, List.forall_mem_cons.mpr ⟨sq73_209, List.forall_mem_cons.mpr ⟨sq73_210, (fun _ h => absurd h List.not_mem_nil)⟩⟩⟩⟩⟩⟩⟩⟩⟩⟩⟩⟩⟩⟩)
theorem sq74_0 : sq 74 0 B74_0 := sq_take 37 (e := 39) (by decide +kernel) True.intro
set_option maxRecDepth 100000 in
theorem sqM_74 : ∀ b, sq 74 b (tG 74 b) := show ∀ b, sq 74 b (lkB tb74 b) from lkB_sq (List.forall_mem_cons.mpr ⟨sq74_0, (fun _ h => absurd h List.not_mem_nil)⟩)
theorem sq75_98 : sq 75 98 B75_98 := sq_take 3 (e := 100) (by decide +kernel) True.intro
theorem sq75_94 : sq 75 94 B75_94 := sq_take 3 (e := 98) (by decide +kernel) sq75_98
theorem sq75_87 : sq 75 87 B75_87 := sq_take 4 (e := 94) (by decide +kernel) sq75_94
theorem sq75_84 : sq 75 84 B75_84 := sq_take 1 (e := 87) (by decide +kernel) sq75_87
theorem sq75_65 : sq 75 65 B75_65 := sq_take 10 (e := 84) (by decide +kernel) True.intro
theorem sq75_64 : sq 75 64 B75_64 := sq_take 1 (e := 65) (by decide +kernel) sq75_65
theorem sq75_47 : sq 75 47 B75_47 := sq_take 10 (e := 64) (by decide +kernel) True.intro
theorem sq75_46 : sq 75 46 B75_46 := sq_take 1 (e := 47) (by decide +kernel) sq75_47
theorem sq75_0 : sq 75 0 B75_0 := sq_take 25 (e := 46) (by decide +kernel) True.intro
set_option maxRecDepth 100000 in
theorem sqM_75 : ∀ b, sq 75 b (tG 75 b) := show ∀ b, sq 75 b (lkB tb75 b) from lkB_sq (List.forall_mem_cons.mpr ⟨sq75_0, List.forall_mem_cons.mpr ⟨sq75_46, List.forall_mem_cons.mpr ⟨sq75_47, List.forall_mem_cons.mpr ⟨sq75_64, List.forall_mem_cons.mpr ⟨sq75_65, List.forall_mem_cons.mpr ⟨sq75_84, List.forall_mem_cons.mpr ⟨sq75_87, List.forall_mem_cons.mpr ⟨sq75_94, List.forall_mem_cons.mpr ⟨sq75_98, (fun _ h => absurd h List.not_mem_nil)⟩⟩⟩⟩⟩⟩⟩⟩⟩)
theorem sq76_147 : sq 76 147 B76_147 := sq_take 3 (e := 150) (by decide +kernel) True.intro
theorem sq76_138 : sq 76 138 B76_138 := sq_take 5 (e := 147) (by decide +kernel) sq76_147
theorem sq76_136 : sq 76 136 B76_136 := sq_take 3 (e := 138) (by decide +kernel) True.intro
theorem sq76_133 : sq 76 133 B76_133 := sq_take 2 (e := 136) (by decide +kernel) sq76_136
theorem sq76_118 : sq 76 118 B76_118 := sq_take 9 (e := 133) (by decide +kernel) sq76_133
theorem sq76_79 : sq 76 79 B76_79 := sq_take 17 (e := 118) (by decide +kernel) sq76_118
theorem sq76_78 : sq 76 78 B76_78 := sq_take 2 (e := 79) (by decide +kernel) sq76_79
theorem sq76_64 : sq 76 64 B76_64 := sq_take 8 (e := 78) (by decide +kernel) True.intro
theorem sq76_48 : sq 76 48 B76_48 := sq_take 9 (e := 64) (by decide +kernel) sq76_64
theorem sq76_47 : sq 76 47 B76_47 := sq_take 1 (e := 48) (by decide +kernel) sq76_48
theorem sq76_33 : sq 76 33 B76_33 := sq_take 7 (e := 47) (by decide +kernel) True.intro
theorem sq76_32 : sq 76 32 B76_32 := sq_take 2 (e := 33) (by decide +kernel) sq76_33
theorem sq76_28 : sq 76 28 B76_28 := sq_take 3 (e := 32) (by decide +kernel) True.intro
theorem sq76_0 : sq 76 0 B76_0 := sq_take 16 (e := 28) (by decide +kernel) sq76_28
set_option maxRecDepth 100000 in
theorem sqM_76 : ∀ b, sq 76 b (tG 76 b) := show ∀ b, sq 76 b (lkB tb76 b) from lkB_sq (List.forall_mem_cons.mpr ⟨sq76_0, List.forall_mem_cons.mpr ⟨sq76_28, List.forall_mem_cons.mpr ⟨sq76_32, List.forall_mem_cons.mpr ⟨sq76_33, List.forall_mem_cons.mpr ⟨sq76_47, List.forall_mem_cons.mpr ⟨sq76_48, List.forall_mem_cons.mpr ⟨sq76_64, List.forall_mem_cons.mpr ⟨sq76_78, List.forall_mem_cons.mpr ⟨sq76_79, List.forall_mem_cons.mpr ⟨sq76_118, List.forall_mem_cons.mpr ⟨sq76_133, List.forall_mem_cons.mpr ⟨sq76_136, List.forall_mem_cons.mpr ⟨sq76_138, List.forall_mem_cons.mpr ⟨sq76_147, (fun _ h => absurd h List.not_mem_nil)⟩⟩⟩⟩⟩⟩⟩⟩⟩⟩⟩⟩⟩⟩)
theorem sq77_326 : sq 77 326 B77_326 := sq_take 2 (e := 327) (by decide +kernel) True.intro
theorem sq77_321 : sq 77 321 B77_321 := sq_take 3 (e := 326) (by decide +kernel) sq77_326
theorem sq77_320 : sq 77 320 B77_320 := sq_take 1 (e := 321) (by decide +kernel) sq77_321
theorem sq77_304 : sq 77 304 B77_304 := sq_take 9 (e := 320) (by decide +kernel) True.intro
theorem sq77_301 : sq 77 301 B77_301 := sq_take 2 (e := 304) (by decide +kernel) True.intro
theorem sq77_296 : sq 77 296 B77_296 := sq_take 3 (e := 301) (by decide +kernel) sq77_301
theorem sq77_293 : sq 77 293 B77_293 := sq_take 2 (e := 296) (by decide +kernel) True.intro
theorem sq77_289 : sq 77 289 B77_289 := sq_take 3 (e := 293) (by decide +kernel) sq77_293
theorem sq77_248 : sq 77 248 B77_248 := sq_take 21 (e := 289) (by decide +kernel) sq77_289
theorem sq77_245 : sq 77 245 B77_245 := sq_take 2 (e := 248) (by decide +kernel) True.intro
theorem sq77_238 : sq 77 238 B77_238 := sq_take 4 (e := 245) (by decide +kernel) sq77_245
theorem sq77_235 : sq 77 235 B77_235 := sq_take 2 (e := 238) (by decide +kernel) True.intro
theorem sq77_230 : sq 77 230 B77_230 := sq_take 3 (e := 235) (by decide +kernel) sq77_235
theorem sq77_229 : sq 77 229 B77_229 := sq_take 1 (e := 230) (by decide +kernel) sq77_230
theorem sq77_213 : sq 77 213 B77_213 := sq_take 9 (e := 229) (by decide +kernel) True.intro
theorem sq77_210 : sq 77 210 B77_210 := sq_take 2 (e := 213) (by decide +kernel) True.intro
theorem sq77_205 : sq 77 205 B77_205 := sq_take 3 (e := 210) (by decide +kernel) sq77_210
theorem sq77_204 : sq 77 204 B77_204 := sq_take 1 (e := 205) (by decide +kernel) sq77_205
theorem sq77_188 : sq 77 188 B77_188 := sq_take 9 (e := 204) (by decide +kernel) True.intro
theorem sq77_185 : sq 77 185 B77_185 := sq_take 2 (e := 188) (by decide +kernel) True.intro
theorem sq77_178 : sq 77 178 B77_178 := sq_take 4 (e := 185) (by decide +kernel) sq77_185
theorem sq77_175 : sq 77 175 B77_175 := sq_take 2 (e := 178) (by decide +kernel) True.intro
theorem sq77_168 : sq 77 168 B77_168 := sq_take 4 (e := 175) (by decide +kernel) sq77_175
theorem sq77_165 : sq 77 165 B77_165 := sq_take 2 (e := 168) (by decide +kernel) True.intro
theorem sq77_158 : sq 77 158 B77_158 := sq_take 4 (e := 165) (by decide +kernel) sq77_165
theorem sq77_155 : sq 77 155 B77_155 := sq_take 2 (e := 158) (by decide +kernel) True.intro
theorem sq77_148 : sq 77 148 B77_148 := sq_take 4 (e := 155) (by decide +kernel) sq77_155
theorem sq77_145 : sq 77 145 B77_145 := sq_take 2 (e := 148) (by decide +kernel) True.intro
theorem sq77_138 : sq 77 138 B77_138 := sq_take 4 (e := 145) (by decide +kernel) sq77_145
theorem sq77_135 : sq 77 135 B77_135 := sq_take 2 (e := 138) (by decide +kernel) True.intro
theorem sq77_128 : sq 77 128 B77_128 := sq_take 4 (e := 135) (by decide +kernel) sq77_135
theorem sq77_22 : sq 77 22 B77_22 := sq_take 7 (e := 128) (by decide +kernel) True.intro
theorem sq77_20 : sq 77 20 B77_20 := sq_take 1 (e := 22) (by decide +kernel) sq77_22
theorem sq77_0 : sq 77 0 B77_0 := sq_take 11 (e := 20) (by decide +kernel) True.intro
set_option maxRecDepth 100000 in
theorem sqM_77 : ∀ b, sq 77 b (tG 77 b) := show ∀ b, sq 77 b (lkB tb77 b) from lkB_sq (List.forall_mem_cons.mpr ⟨sq77_0, List.forall_mem_cons.mpr ⟨sq77_20, List.forall_mem_cons.mpr ⟨sq77_22, List.forall_mem_cons.mpr ⟨sq77_128, List.forall_mem_cons.mpr ⟨sq77_135, List.forall_mem_cons.mpr ⟨sq77_138, List.forall_mem_cons.mpr ⟨sq77_145, List.forall_mem_cons.mpr ⟨sq77_148, List.forall_mem_cons.mpr ⟨sq77_155, List.forall_mem_cons.mpr ⟨sq77_158, List.forall_mem_cons.mpr ⟨sq77_165, List.forall_mem_cons.mpr ⟨sq77_168, List.forall_mem_cons.mpr ⟨sq77_175, List.forall_mem_cons.mpr ⟨sq77_178, List.forall_mem_cons.mpr ⟨sq77_185, List.forall_mem_cons.mpr ⟨sq77_188, List.forall_mem_cons.mpr ⟨sq77_204, List.forall_mem_cons.mpr ⟨sq77_205, List.forall_mem_cons.mpr ⟨sq77_210, List.forall_mem_cons.mpr ⟨sq77_213, List.forall_mem_cons.mpr ⟨sq77_229, List.forall_mem_cons.mpr ⟨sq77_230, List.forall_mem_cons.mpr ⟨sq77_235, List.forall_mem_cons.mpr ⟨sq77_238, List.forall_mem_cons.mpr ⟨sq77_245, List.forall_mem_cons.mpr ⟨sq77_248, List.forall_mem_cons.mpr ⟨sq77_289, List.forall_mem_cons.mpr ⟨sq77_293, List.forall_mem_cons.mpr ⟨sq77_296, List.forall_mem_cons.mpr ⟨sq77_301, List.forall_mem_cons.mpr ⟨sq77_304, List.forall_mem_cons.mpr ⟨sq77_320, List.forall_mem_cons.mpr ⟨sq77_321, List.forall_mem_cons.mpr ⟨sq77_326, (fun _ h => absurd h List.not_mem_nil)⟩⟩⟩⟩⟩⟩⟩⟩⟩⟩⟩⟩⟩⟩⟩⟩⟩⟩⟩⟩⟩⟩⟩⟩⟩⟩⟩⟩⟩⟩⟩⟩⟩⟩)
theorem sq78_187 : sq 78 187 B78_187 := sq_take 2 (e := 188) (by decide +kernel) True.intro
theorem sq78_183 : sq 78 183 B78_183 := sq_take 3 (e := 187) (by decide +kernel) sq78_187
theorem sq78_109 : sq 78 109 B78_109 := sq_take 43 (e := 183) (by decide +kernel) sq78_183
theorem sq78_105 : sq 78 105 B78_105 := sq_take 3 (e := 109) (by decide +kernel) sq78_109
theorem sq78_102 : sq 78 102 B78_102 := sq_take 2 (e := 105) (by decide +kernel) sq78_105
theorem sq78_88 : sq 78 88 B78_88 := sq_take 7 (e := 102) (by decide +kernel) sq78_102
theorem sq78_64 : sq 78 64 B78_64 := sq_take 13 (e := 88) (by decide +kernel) sq78_88
theorem sq78_0 : sq 78 0 B78_0 := sq_take 39 (e := 64) (by decide +kernel) sq78_64
set_option maxRecDepth 100000 in
theorem sqM_78 : ∀ b, sq 78 b (tG 78 b) := show ∀ b, sq 78 b (lkB tb78 b) from lkB_sq (List.forall_mem_cons.mpr ⟨sq78_0, List.forall_mem_cons.mpr ⟨sq78_64, List.forall_mem_cons.mpr ⟨sq78_88, List.forall_mem_cons.mpr ⟨sq78_102, List.forall_mem_cons.mpr ⟨sq78_105, List.forall_mem_cons.mpr ⟨sq78_109, List.forall_mem_cons.mpr ⟨sq78_183, List.forall_mem_cons.mpr ⟨sq78_187, (fun _ h => absurd h List.not_mem_nil)⟩⟩⟩⟩⟩⟩⟩⟩)
theorem sq79_173 : sq 79 173 B79_173 := sq_take 2 (e := 174) (by decide +kernel) True.intro
theorem sq79_169 : sq 79 169 B79_169 := sq_take 3 (e := 173) (by decide +kernel) sq79_173
theorem sq79_95 : sq 79 95 B79_95 := sq_take 43 (e := 169) (by decide +kernel) sq79_169
theorem sq79_88 : sq 79 88 B79_88 := sq_take 4 (e := 95) (by decide +kernel) sq79_95
theorem sq79_64 : sq 79 64 B79_64 := sq_take 13 (e := 88) (by decide +kernel) sq79_88
theorem sq79_0 : sq 79 0 B79_0 := sq_take 39 (e := 64) (by decide +kernel) sq79_64
set_option maxRecDepth 100000 in
theorem sqM_79 : ∀ b, sq 79 b (tG 79 b) := show ∀ b, sq 79 b (lkB tb79 b) from lkB_sq (List.forall_mem_cons.mpr ⟨sq79_0, List.forall_mem_cons.mpr ⟨sq79_64, List.forall_mem_cons.mpr ⟨sq79_88, List.forall_mem_cons.mpr ⟨sq79_95, List.forall_mem_cons.mpr ⟨sq79_169, List.forall_mem_cons.mpr ⟨sq79_173, (fun _ h => absurd h List.not_mem_nil)⟩⟩⟩⟩⟩⟩)
theorem sq80_19 : sq 80 19 B80_19 := sq_take 2 (e := 20) (by decide +kernel) True.intro
theorem sq80_0 : sq 80 0 B80_0 := sq_take 14 (e := 19) (by decide +kernel) sq80_19
set_option maxRecDepth 100000 in
theorem sqM_80 : ∀ b, sq 80 b (tG 80 b) := show ∀ b, sq 80 b (lkB tb80 b) from lkB_sq (List.forall_mem_cons.mpr ⟨sq80_0, List.forall_mem_cons.mpr ⟨sq80_19, (fun _ h => absurd h List.not_mem_nil)⟩⟩)
theorem sq81_92 : sq 81 92 B81_92 := sq_take 2 (e := 93) (by decide +kernel) True.intro
theorem sq81_88 : sq 81 88 B81_88 := sq_take 3 (e := 92) (by decide +kernel) sq81_92
theorem sq81_84 : sq 81 84 B81_84 := sq_take 3 (e := 88) (by decide +kernel) sq81_88
theorem sq81_60 : sq 81 60 B81_60 := sq_take 15 (e := 84) (by decide +kernel) sq81_84
theorem sq81_31 : sq 81 31 B81_31 := sq_take 16 (e := 60) (by decide +kernel) sq81_60
theorem sq81_26 : sq 81 26 B81_26 := sq_take 3 (e := 31) (by decide +kernel) sq81_31
theorem sq81_8 : sq 81 8 B81_8 := sq_take 12 (e := 26) (by decide +kernel) True.intro
theorem sq81_4 : sq 81 4 B81_4 := sq_take 3 (e := 8) (by decide +kernel) sq81_8
theorem sq81_0 : sq 81 0 B81_0 := sq_take 3 (e := 4) (by decide +kernel) sq81_4
set_option maxRecDepth 100000 in
theorem sqM_81 : ∀ b, sq 81 b (tG 81 b) := show ∀ b, sq 81 b (lkB tb81 b) from lkB_sq (List.forall_mem_cons.mpr ⟨sq81_0, List.forall_mem_cons.mpr ⟨sq81_4, List.forall_mem_cons.mpr ⟨sq81_8, List.forall_mem_cons.mpr ⟨sq81_26, List.forall_mem_cons.mpr ⟨sq81_31, List.forall_mem_cons.mpr ⟨sq81_60, List.forall_mem_cons.mpr ⟨sq81_84, List.forall_mem_cons.mpr ⟨sq81_88, List.forall_mem_cons.mpr ⟨sq81_92, (fun _ h => absurd h List.not_mem_nil)⟩⟩⟩⟩⟩⟩⟩⟩⟩)
theorem sq82_89 : sq 82 89 B82_89 := sq_take 2 (e := 90) (by decide +kernel) True.intro
theorem sq82_82 : sq 82 82 B82_82 := sq_take 4 (e := 89) (by decide +kernel) sq82_89
theorem sq82_78 : sq 82 78 B82_78 := sq_take 2 (e := 82) (by decide +kernel) sq82_82
theorem sq82_75 : sq 82 75 B82_75 := sq_take 2 (e := 78) (by decide +kernel) True.intro
theorem sq82_56 : sq 82 56 B82_56 := sq_take 10 (e := 75) (by decide +kernel) sq82_75
theorem sq82_55 : sq 82 55 B82_55 := sq_take 1 (e := 56) (by decide +kernel) sq82_56
theorem sq82_52 : sq 82 52 B82_52 := sq_take 2 (e := 55) (by decide +kernel) True.intro
theorem sq82_23 : sq 82 23 B82_23 := sq_take 16 (e := 52) (by decide +kernel) sq82_52
theorem sq82_22 : sq 82 22 B82_22 := sq_take 2 (e := 23) (by decide +kernel) sq82_23
theorem sq82_0 : sq 82 0 B82_0 := sq_take 13 (e := 22) (by decide +kernel) True.intro
set_option maxRecDepth 100000 in
theorem sqM_82 : ∀ b, sq 82 b (tG 82 b) := show ∀ b, sq 82 b (lkB tb82 b) from lkB_sq (List.forall_mem_cons.mpr ⟨sq82_0, List.forall_mem_cons.mpr ⟨sq82_22, List.forall_mem_cons.mpr ⟨sq82_23, List.forall_mem_cons.mpr ⟨sq82_52, List.forall_mem_cons.mpr ⟨sq82_55, List.forall_mem_cons.mpr ⟨sq82_56, List.forall_mem_cons.mpr ⟨sq82_75, List.forall_mem_cons.mpr ⟨sq82_78, List.forall_mem_cons.mpr ⟨sq82_82, List.forall_mem_cons.mpr ⟨sq82_89, (fun _ h => absurd h List.not_mem_nil)⟩⟩⟩⟩⟩⟩⟩⟩⟩⟩)
theorem sq83_63 : sq 83 63 B83_63 := sq_take 2 (e := 64) (by decide +kernel) True.intro
theorem sq83_56 : sq 83 56 B83_56 := sq_take 4 (e := 63) (by decide +kernel) sq83_63
theorem sq83_52 : sq 83 52 B83_52 := sq_take 3 (e := 56) (by decide +kernel) sq83_56
theorem sq83_49 : sq 83 49 B83_49 := sq_take 2 (e := 52) (by decide +kernel) True.intro
theorem sq83_17 : sq 83 17 B83_17 := sq_take 19 (e := 49) (by decide +kernel) sq83_49
theorem sq83_0 : sq 83 0 B83_0 := sq_take 10 (e := 17) (by decide +kernel) sq83_17
set_option maxRecDepth 100000 in
theorem sqM_83 : ∀ b, sq 83 b (tG 83 b) := show ∀ b, sq 83 b (lkB tb83 b) from lkB_sq (List.forall_mem_cons.mpr ⟨sq83_0, List.forall_mem_cons.mpr ⟨sq83_17, List.forall_mem_cons.mpr ⟨sq83_49, List.forall_mem_cons.mpr ⟨sq83_52, List.forall_mem_cons.mpr ⟨sq83_56, List.forall_mem_cons.mpr ⟨sq83_63, (fun _ h => absurd h List.not_mem_nil)⟩⟩⟩⟩⟩⟩)
theorem sq84_67 : sq 84 67 B84_67 := sq_take 2 (e := 68) (by decide +kernel) True.intro
theorem sq84_47 : sq 84 47 B84_47 := sq_take 11 (e := 67) (by decide +kernel) sq84_67
theorem sq84_0 : sq 84 0 B84_0 := sq_take 26 (e := 47) (by decide +kernel) sq84_47
set_option maxRecDepth 100000 in
theorem sqM_84 : ∀ b, sq 84 b (tG 84 b) := show ∀ b, sq 84 b (lkB tb84 b) from lkB_sq (List.forall_mem_cons.mpr ⟨sq84_0, List.forall_mem_cons.mpr ⟨sq84_47, List.forall_mem_cons.mpr ⟨sq84_67, (fun _ h => absurd h List.not_mem_nil)⟩⟩⟩)
theorem sq85_72 : sq 85 72 B85_72 := sq_take 2 (e := 73) (by decide +kernel) True.intro
theorem sq85_65 : sq 85 65 B85_65 := sq_take 4 (e := 72) (by decide +kernel) sq85_72
theorem sq85_53 : sq 85 53 B85_53 := sq_take 7 (e := 65) (by decide +kernel) sq85_65
theorem sq85_0 : sq 85 0 B85_0 := sq_take 30 (e := 53) (by decide +kernel) sq85_53
set_option maxRecDepth 100000 in
theorem sqM_85 : ∀ b, sq 85 b (tG 85 b) := show ∀ b, sq 85 b (lkB tb85 b) from lkB_sq (List.forall_mem_cons.mpr ⟨sq85_0, List.forall_mem_cons.mpr ⟨sq85_53, List.forall_mem_cons.mpr ⟨sq85_65, List.forall_mem_cons.mpr ⟨sq85_72, (fun _ h => absurd h List.not_mem_nil)⟩⟩⟩⟩)
theorem sq86_64 : sq 86 64 B86_64 := sq_take 1 (e := 65) (by decide +kernel) True.intro
theorem sq86_54 : sq 86 54 B86_54 := sq_take 7 (e := 64) (by decide +kernel) sq86_64
theorem sq86_4 : sq 86 4 B86_4 := sq_take 31 (e := 54) (by decide +kernel) sq86_54
theorem sq86_0 : sq 86 0 B86_0 := sq_take 3 (e := 4) (by decide +kernel) sq86_4
set_option maxRecDepth 100000 in
theorem sqM_86 : ∀ b, sq 86 b (tG 86 b) := show ∀ b, sq 86 b (lkB tb86 b) from lkB_sq (List.forall_mem_cons.mpr ⟨sq86_0, List.forall_mem_cons.mpr ⟨sq86_4, List.forall_mem_cons.mpr ⟨sq86_54, List.forall_mem_cons.mpr ⟨sq86_64, (fun _ h => absurd h List.not_mem_nil)⟩⟩⟩⟩)
theorem sq87_56 : sq 87 56 B87_56 := sq_take 2 (e := 60) (by decide +kernel) True.intro
theorem sq87_52 : sq 87 52 B87_52 := sq_take 2 (e := 56) (by decide +kernel) sq87_56
theorem sq87_38 : sq 87 38 B87_38 := sq_take 9 (e := 52) (by decide +kernel) True.intro
theorem sq87_4 : sq 87 4 B87_4 := sq_take 21 (e := 38) (by decide +kernel) sq87_38
theorem sq87_0 : sq 87 0 B87_0 := sq_take 3 (e := 4) (by decide +kernel) sq87_4
set_option maxRecDepth 100000 in
theorem sqM_87 : ∀ b, sq 87 b (tG 87 b) := show ∀ b, sq 87 b (lkB tb87 b) from lkB_sq (List.forall_mem_cons.mpr ⟨sq87_0, List.forall_mem_cons.mpr ⟨sq87_4, List.forall_mem_cons.mpr ⟨sq87_38, List.forall_mem_cons.mpr ⟨sq87_52, List.forall_mem_cons.mpr ⟨sq87_56, (fun _ h => absurd h List.not_mem_nil)⟩⟩⟩⟩⟩)
theorem sq88_77 : sq 88 77 B88_77 := sq_take 3 (e := 81) (by decide +kernel) True.intro
theorem sq88_67 : sq 88 67 B88_67 := sq_take 4 (e := 77) (by decide +kernel) sq88_77
theorem sq88_50 : sq 88 50 B88_50 := sq_take 10 (e := 67) (by decide +kernel) True.intro
theorem sq88_42 : sq 88 42 B88_42 := sq_take 4 (e := 50) (by decide +kernel) sq88_50
theorem sq88_28 : sq 88 28 B88_28 := sq_take 9 (e := 42) (by decide +kernel) True.intro
theorem sq88_4 : sq 88 4 B88_4 := sq_take 15 (e := 28) (by decide +kernel) sq88_28
theorem sq88_0 : sq 88 0 B88_0 := sq_take 3 (e := 4) (by decide +kernel) sq88_4
set_option maxRecDepth 100000 in
theorem sqM_88 : ∀ b, sq 88 b (tG 88 b) := show ∀ b, sq 88 b (lkB tb88 b) from lkB_sq (List.forall_mem_cons.mpr ⟨sq88_0, List.forall_mem_cons.mpr ⟨sq88_4, List.forall_mem_cons.mpr ⟨sq88_28, List.forall_mem_cons.mpr ⟨sq88_42, List.forall_mem_cons.mpr ⟨sq88_50, List.forall_mem_cons.mpr ⟨sq88_67, List.forall_mem_cons.mpr ⟨sq88_77, (fun _ h => absurd h List.not_mem_nil)⟩⟩⟩⟩⟩⟩⟩)
theorem sq89_4 : sq 89 4 B89_4 := sq_take 15 (e := 28) (by decide +kernel) True.intro
theorem sq89_0 : sq 89 0 B89_0 := sq_take 3 (e := 4) (by decide +kernel) sq89_4
set_option maxRecDepth 100000 in
theorem sqM_89 : ∀ b, sq 89 b (tG 89 b) := show ∀ b, sq 89 b (lkB tb89 b) from lkB_sq (List.forall_mem_cons.mpr ⟨sq89_0, List.forall_mem_cons.mpr ⟨sq89_4, (fun _ h => absurd h List.not_mem_nil)⟩⟩)
theorem sq90_33 : sq 90 33 B90_33 := sq_take 2 (e := 34) (by decide +kernel) True.intro
theorem sq90_25 : sq 90 25 B90_25 := sq_take 5 (e := 33) (by decide +kernel) sq90_33
theorem sq90_22 : sq 90 22 B90_22 := sq_take 2 (e := 25) (by decide +kernel) True.intro
theorem sq90_19 : sq 90 19 B90_19 := sq_take 2 (e := 22) (by decide +kernel) sq90_22
theorem sq90_0 : sq 90 0 B90_0 := sq_take 12 (e := 19) (by decide +kernel) sq90_19
set_option maxRecDepth 100000 in
theorem sqM_90 : ∀ b, sq 90 b (tG 90 b) := show ∀ b, sq 90 b (lkB tb90 b) from lkB_sq (List.forall_mem_cons.mpr ⟨sq90_0, List.forall_mem_cons.mpr ⟨sq90_19, List.forall_mem_cons.mpr ⟨sq90_22, List.forall_mem_cons.mpr ⟨sq90_25, List.forall_mem_cons.mpr ⟨sq90_33, (fun _ h => absurd h List.not_mem_nil)⟩⟩⟩⟩⟩)
theorem sq91_36 : sq 91 36 B91_36 := sq_take 1 (e := 37) (by decide +kernel) True.intro
theorem sq91_0 : sq 91 0 B91_0 := sq_take 21 (e := 36) (by decide +kernel) sq91_36
set_option maxRecDepth 100000 in
theorem sqM_91 : ∀ b, sq 91 b (tG 91 b) := show ∀ b, sq 91 b (lkB tb91 b) from lkB_sq (List.forall_mem_cons.mpr ⟨sq91_0, List.forall_mem_cons.mpr ⟨sq91_36, (fun _ h => absurd h List.not_mem_nil)⟩⟩)
theorem sq92_31 : sq 92 31 B92_31 := sq_take 1 (e := 32) (by decide +kernel) True.intro
theorem sq92_0 : sq 92 0 B92_0 := sq_take 18 (e := 31) (by decide +kernel) sq92_31
set_option maxRecDepth 100000 in
theorem sqM_92 : ∀ b, sq 92 b (tG 92 b) := show ∀ b, sq 92 b (lkB tb92 b) from lkB_sq (List.forall_mem_cons.mpr ⟨sq92_0, List.forall_mem_cons.mpr ⟨sq92_31, (fun _ h => absurd h List.not_mem_nil)⟩⟩)
theorem sq93_25 : sq 93 25 B93_25 := sq_take 1 (e := 26) (by decide +kernel) True.intro
theorem sq93_19 : sq 93 19 B93_19 := sq_take 3 (e := 25) (by decide +kernel) True.intro
theorem sq93_16 : sq 93 16 B93_16 := sq_take 2 (e := 19) (by decide +kernel) sq93_19
theorem sq93_7 : sq 93 7 B93_7 := sq_take 6 (e := 16) (by decide +kernel) sq93_16
theorem sq93_2 : sq 93 2 B93_2 := sq_take 4 (e := 7) (by decide +kernel) sq93_7
theorem sq93_0 : sq 93 0 B93_0 := sq_take 3 (e := 2) (by decide +kernel) sq93_2
set_option maxRecDepth 100000 in
theorem sqM_93 : ∀ b, sq 93 b (tG 93 b) := show ∀ b, sq 93 b (lkB tb93 b) from lkB_sq (List.forall_mem_cons.mpr ⟨sq93_0, List.forall_mem_cons.mpr ⟨sq93_2, List.forall_mem_cons.mpr ⟨sq93_7, List.forall_mem_cons.mpr ⟨sq93_16, List.forall_mem_cons.mpr ⟨sq93_19, List.forall_mem_cons.mpr ⟨sq93_25, (fun _ h => absurd h List.not_mem_nil)⟩⟩⟩⟩⟩⟩)
theorem sq94_82 : sq 94 82 B94_82 := sq_take 1 (e := 83) (by decide +kernel) True.intro
theorem sq94_76 : sq 94 76 B94_76 := sq_take 3 (e := 82) (by decide +kernel) True.intro
theorem sq94_60 : sq 94 60 B94_60 := sq_take 9 (e := 76) (by decide +kernel) sq94_76
theorem sq94_54 : sq 94 54 B94_54 := sq_take 5 (e := 60) (by decide +kernel) sq94_60
theorem sq94_5 : sq 94 5 B94_5 := sq_take 30 (e := 54) (by decide +kernel) sq94_54
theorem sq94_0 : sq 94 0 B94_0 := sq_take 5 (e := 5) (by decide +kernel) sq94_5
set_option maxRecDepth 100000 in
theorem sqM_94 : ∀ b, sq 94 b (tG 94 b) := show ∀ b, sq 94 b (lkB tb94 b) from lkB_sq (List.forall_mem_cons.mpr ⟨sq94_0, List.forall_mem_cons.mpr ⟨sq94_5, List.forall_mem_cons.mpr ⟨sq94_54, List.forall_mem_cons.mpr ⟨sq94_60, List.forall_mem_cons.mpr ⟨sq94_76, List.forall_mem_cons.mpr ⟨sq94_82, (fun _ h => absurd h List.not_mem_nil)⟩⟩⟩⟩⟩⟩)
theorem sq95_26 : sq 95 26 B95_26 := sq_take 2 (e := 27) (by decide +kernel) True.intro
theorem sq95_23 : sq 95 23 B95_23 := sq_take 2 (e := 26) (by decide +kernel) sq95_26
theorem sq95_21 : sq 95 21 B95_21 := sq_take 2 (e := 23) (by decide +kernel) sq95_23
theorem sq95_10 : sq 95 10 B95_10 := sq_take 8 (e := 21) (by decide +kernel) True.intro
theorem sq95_0 : sq 95 0 B95_0 := sq_take 6 (e := 10) (by decide +kernel) sq95_10
set_option maxRecDepth 100000 in
theorem sqM_95 : ∀ b, sq 95 b (tG 95 b) := show ∀ b, sq 95 b (lkB tb95 b) from lkB_sq (List.forall_mem_cons.mpr ⟨sq95_0, List.forall_mem_cons.mpr ⟨sq95_10, List.forall_mem_cons.mpr ⟨sq95_21, List.forall_mem_cons.mpr ⟨sq95_23, List.forall_mem_cons.mpr ⟨sq95_26, (fun _ h => absurd h List.not_mem_nil)⟩⟩⟩⟩⟩)
theorem sq96_31 : sq 96 31 B96_31 := sq_take 2 (e := 32) (by decide +kernel) True.intro
theorem sq96_28 : sq 96 28 B96_28 := sq_take 2 (e := 31) (by decide +kernel) sq96_31
theorem sq96_26 : sq 96 26 B96_26 := sq_take 2 (e := 28) (by decide +kernel) sq96_28
theorem sq96_15 : sq 96 15 B96_15 := sq_take 8 (e := 26) (by decide +kernel) True.intro
theorem sq96_12 : sq 96 12 B96_12 := sq_take 2 (e := 15) (by decide +kernel) sq96_15
theorem sq96_10 : sq 96 10 B96_10 := sq_take 1 (e := 12) (by decide +kernel) sq96_12
theorem sq96_0 : sq 96 0 B96_0 := sq_take 6 (e := 10) (by decide +kernel) True.intro
set_option maxRecDepth 100000 in
theorem sqM_96 : ∀ b, sq 96 b (tG 96 b) := show ∀ b, sq 96 b (lkB tb96 b) from lkB_sq (List.forall_mem_cons.mpr ⟨sq96_0, List.forall_mem_cons.mpr ⟨sq96_10, List.forall_mem_cons.mpr ⟨sq96_12, List.forall_mem_cons.mpr ⟨sq96_15, List.forall_mem_cons.mpr ⟨sq96_26, List.forall_mem_cons.mpr ⟨sq96_28, List.forall_mem_cons.mpr ⟨sq96_31, (fun _ h => absurd h List.not_mem_nil)⟩⟩⟩⟩⟩⟩⟩)
theorem sq97_21 : sq 97 21 B97_21 := sq_take 2 (e := 22) (by decide +kernel) True.intro
theorem sq97_15 : sq 97 15 B97_15 := sq_take 5 (e := 21) (by decide +kernel) sq97_21
theorem sq97_12 : sq 97 12 B97_12 := sq_take 2 (e := 15) (by decide +kernel) sq97_15
theorem sq97_10 : sq 97 10 B97_10 := sq_take 1 (e := 12) (by decide +kernel) sq97_12
theorem sq97_0 : sq 97 0 B97_0 := sq_take 6 (e := 10) (by decide +kernel) True.intro
set_option maxRecDepth 100000 in
theorem sqM_97 : ∀ b, sq 97 b (tG 97 b) := show ∀ b, sq 97 b (lkB tb97 b) from lkB_sq (List.forall_mem_cons.mpr ⟨sq97_0, List.forall_mem_cons.mpr ⟨sq97_10, List.forall_mem_cons.mpr ⟨sq97_12, List.forall_mem_cons.mpr ⟨sq97_15, List.forall_mem_cons.mpr ⟨sq97_21, (fun _ h => absurd h List.not_mem_nil)⟩⟩⟩⟩⟩)
theorem sq98_30 : sq 98 30 B98_30 := sq_take 2 (e := 31) (by decide +kernel) True.intro
theorem sq98_27 : sq 98 27 B98_27 := sq_take 2 (e := 30) (by decide +kernel) sq98_30
theorem sq98_22 : sq 98 22 B98_22 := sq_take 3 (e := 27) (by decide +kernel) sq98_27
theorem sq98_19 : sq 98 19 B98_19 := sq_take 2 (e := 22) (by decide +kernel) True.intro
theorem sq98_16 : sq 98 16 B98_16 := sq_take 2 (e := 19) (by decide +kernel) sq98_19
theorem sq98_0 : sq 98 0 B98_0 := sq_take 11 (e := 16) (by decide +kernel) sq98_16
set_option maxRecDepth 100000 in
theorem sqM_98 : ∀ b, sq 98 b (tG 98 b) := show ∀ b, sq 98 b (lkB tb98 b) from lkB_sq (List.forall_mem_cons.mpr ⟨sq98_0, List.forall_mem_cons.mpr ⟨sq98_16, List.forall_mem_cons.mpr ⟨sq98_19, List.forall_mem_cons.mpr ⟨sq98_22, List.forall_mem_cons.mpr ⟨sq98_27, List.forall_mem_cons.mpr ⟨sq98_30, (fun _ h => absurd h List.not_mem_nil)⟩⟩⟩⟩⟩⟩)
theorem sq99_99 : sq 99 99 B99_99 := sq_take 1 (e := 100) (by decide +kernel) True.intro
theorem sq99_91 : sq 99 91 B99_91 := sq_take 5 (e := 99) (by decide +kernel) True.intro
theorem sq99_90 : sq 99 90 B99_90 := sq_take 1 (e := 91) (by decide +kernel) sq99_91
theorem sq99_79 : sq 99 79 B99_79 := sq_take 7 (e := 90) (by decide +kernel) True.intro
theorem sq99_73 : sq 99 73 B99_73 := sq_take 4 (e := 79) (by decide +kernel) sq99_79
theorem sq99_66 : sq 99 66 B99_66 := sq_take 5 (e := 73) (by decide +kernel) sq99_73
theorem sq99_63 : sq 99 63 B99_63 := sq_take 2 (e := 66) (by decide +kernel) True.intro
theorem sq99_45 : sq 99 45 B99_45 := sq_take 13 (e := 63) (by decide +kernel) sq99_63
theorem sq99_42 : sq 99 42 B99_42 := sq_take 2 (e := 45) (by decide +kernel) True.intro
theorem sq99_27 : sq 99 27 B99_27 := sq_take 10 (e := 42) (by decide +kernel) sq99_42
theorem sq99_10 : sq 99 10 B99_10 := sq_take 11 (e := 27) (by decide +kernel) sq99_27
theorem sq99_0 : sq 99 0 B99_0 := sq_take 8 (e := 10) (by decide +kernel) sq99_10
set_option maxRecDepth 100000 in
theorem sqM_99 : ∀ b, sq 99 b (tG 99 b) := show ∀ b, sq 99 b (lkB tb99 b) from lkB_sq (List.forall_mem_cons.mpr ⟨sq99_0, List.forall_mem_cons.mpr ⟨sq99_10, List.forall_mem_cons.mpr ⟨sq99_27, List.forall_mem_cons.mpr ⟨sq99_42, List.forall_mem_cons.mpr ⟨sq99_45, List.forall_mem_cons.mpr ⟨sq99_63, List.forall_mem_cons.mpr ⟨sq99_66, List.forall_mem_cons.mpr ⟨sq99_73, List.forall_mem_cons.mpr ⟨sq99_79, List.forall_mem_cons.mpr ⟨sq99_90, List.forall_mem_cons.mpr ⟨sq99_91, List.forall_mem_cons.mpr ⟨sq99_99, (fun _ h => absurd h List.not_mem_nil)⟩⟩⟩⟩⟩⟩⟩⟩⟩⟩⟩⟩)
theorem sq100_55 : sq 100 55 B100_55 := sq_take 1 (e := 56) (by decide +kernel) True.intro
theorem sq100_49 : sq 100 49 B100_49 := sq_take 3 (e := 55) (by decide +kernel) True.intro
theorem sq100_46 : sq 100 46 B100_46 := sq_take 2 (e := 49) (by decide +kernel) sq100_49
theorem sq100_38 : sq 100 38 B100_38 := sq_take 5 (e := 46) (by decide +kernel) sq100_46
theorem sq100_9 : sq 100 9 B100_9 := sq_take 18 (e := 38) (by decide +kernel) True.intro
theorem sq100_6 : sq 100 6 B100_6 := sq_take 3 (e := 9) (by decide +kernel) sq100_9
theorem sq100_0 : sq 100 0 B100_0 := sq_take 4 (e := 6) (by decide +kernel) sq100_6
set_option maxRecDepth 100000 in
theorem sqM_100 : ∀ b, sq 100 b (tG 100 b) := show ∀ b, sq 100 b (lkB tb100 b) from lkB_sq (List.forall_mem_cons.mpr ⟨sq100_0, List.forall_mem_cons.mpr ⟨sq100_6, List.forall_mem_cons.mpr ⟨sq100_9, List.forall_mem_cons.mpr ⟨sq100_38, List.forall_mem_cons.mpr ⟨sq100_46, List.forall_mem_cons.mpr ⟨sq100_49, List.forall_mem_cons.mpr ⟨sq100_55, (fun _ h => absurd h List.not_mem_nil)⟩⟩⟩⟩⟩⟩⟩)
theorem sq101_57 : sq 101 57 B101_57 := sq_take 2 (e := 58) (by decide +kernel) True.intro
theorem sq101_51 : sq 101 51 B101_51 := sq_take 4 (e := 57) (by decide +kernel) sq101_57
theorem sq101_41 : sq 101 41 B101_41 := sq_take 8 (e := 51) (by decide +kernel) sq101_51
theorem sq101_35 : sq 101 35 B101_35 := sq_take 3 (e := 41) (by decide +kernel) sq101_41
theorem sq101_32 : sq 101 32 B101_32 := sq_take 2 (e := 35) (by decide +kernel) True.intro
theorem sq101_28 : sq 101 28 B101_28 := sq_take 3 (e := 32) (by decide +kernel) sq101_32
theorem sq101_23 : sq 101 23 B101_23 := sq_take 4 (e := 28) (by decide +kernel) sq101_28
theorem sq101_13 : sq 101 13 B101_13 := sq_take 6 (e := 23) (by decide +kernel) sq101_23
theorem sq101_9 : sq 101 9 B101_9 := sq_take 3 (e := 13) (by decide +kernel) sq101_13
theorem sq101_6 : sq 101 6 B101_6 := sq_take 2 (e := 9) (by decide +kernel) sq101_9
theorem sq101_0 : sq 101 0 B101_0 := sq_take 5 (e := 6) (by decide +kernel) sq101_6
set_option maxRecDepth 100000 in
theorem sqM_101 : ∀ b, sq 101 b (tG 101 b) := show ∀ b, sq 101 b (lkB tb101 b) from lkB_sq (List.forall_mem_cons.mpr ⟨sq101_0, List.forall_mem_cons.mpr ⟨sq101_6, List.forall_mem_cons.mpr ⟨sq101_9, List.forall_mem_cons.mpr ⟨sq101_13, List.forall_mem_cons.mpr ⟨sq101_23, List.forall_mem_cons.mpr ⟨sq101_28, List.forall_mem_cons.mpr ⟨sq101_32, List.forall_mem_cons.mpr ⟨sq101_35, List.forall_mem_cons.mpr ⟨sq101_41, List.forall_mem_cons.mpr ⟨sq101_51, List.forall_mem_cons.mpr ⟨sq101_57, (fun _ h => absurd h List.not_mem_nil)⟩⟩⟩⟩⟩⟩⟩⟩⟩⟩⟩)
theorem sq102_141 : sq 102 141 B102_141 := sq_take 2 (e := 142) (by decide +kernel) True.intro
theorem sq102_136 : sq 102 136 B102_136 := sq_take 3 (e := 141) (by decide +kernel) sq102_141
theorem sq102_133 : sq 102 133 B102_133 := sq_take 2 (e := 136) (by decide +kernel) True.intro
theorem sq102_128 : sq 102 128 B102_128 := sq_take 3 (e := 133) (by decide +kernel) sq102_133
theorem sq102_125 : sq 102 125 B102_125 := sq_take 2 (e := 128) (by decide +kernel) True.intro
theorem sq102_120 : sq 102 120 B102_120 := sq_take 3 (e := 125) (by decide +kernel) sq102_125
theorem sq102_117 : sq 102 117 B102_117 := sq_take 2 (e := 120) (by decide +kernel) True.intro
theorem sq102_114 : sq 102 114 B102_114 := sq_take 2 (e := 117) (by decide +kernel) sq102_117
theorem sq102_109 : sq 102 109 B102_109 := sq_take 4 (e := 114) (by decide +kernel) sq102_114
theorem sq102_103 : sq 102 103 B102_103 := sq_take 4 (e := 109) (by decide +kernel) sq102_109
theorem sq102_98 : sq 102 98 B102_98 := sq_take 3 (e := 103) (by decide +kernel) sq102_103
theorem sq102_92 : sq 102 92 B102_92 := sq_take 4 (e := 98) (by decide +kernel) sq102_98
theorem sq102_89 : sq 102 89 B102_89 := sq_take 2 (e := 92) (by decide +kernel) True.intro
theorem sq102_86 : sq 102 86 B102_86 := sq_take 2 (e := 89) (by decide +kernel) sq102_89
theorem sq102_84 : sq 102 84 B102_84 := sq_take 1 (e := 86) (by decide +kernel) sq102_86
theorem sq102_69 : sq 102 69 B102_69 := sq_take 7 (e := 84) (by decide +kernel) True.intro
theorem sq102_65 : sq 102 65 B102_65 := sq_take 3 (e := 69) (by decide +kernel) sq102_69
theorem sq102_59 : sq 102 59 B102_59 := sq_take 5 (e := 65) (by decide +kernel) sq102_65
theorem sq102_53 : sq 102 53 B102_53 := sq_take 4 (e := 59) (by decide +kernel) sq102_59
theorem sq102_50 : sq 102 50 B102_50 := sq_take 2 (e := 53) (by decide +kernel) sq102_53
theorem sq102_44 : sq 102 44 B102_44 := sq_take 4 (e := 50) (by decide +kernel) sq102_50
theorem sq102_4 : sq 102 4 B102_4 := sq_take 4 (e := 44) (by decide +kernel) True.intro
theorem sq102_0 : sq 102 0 B102_0 := sq_take 3 (e := 4) (by decide +kernel) sq102_4
set_option maxRecDepth 100000 in
theorem sqM_102 : ∀ b, sq 102 b (tG 102 b) := show ∀ b, sq 102 b (lkB tb102 b) from lkB_sq (List.forall_mem_cons.mpr ⟨sq102_0, List.forall_mem_cons.mpr ⟨sq102_4, List.forall_mem_cons.mpr ⟨sq102_44, List.forall_mem_cons.mpr ⟨sq102_50, List.forall_mem_cons.mpr ⟨sq102_53, List.forall_mem_cons.mpr ⟨sq102_59, List.forall_mem_cons.mpr ⟨sq102_65, List.forall_mem_cons.mpr ⟨sq102_69, List.forall_mem_cons.mpr ⟨sq102_84, List.forall_mem_cons.mpr ⟨sq102_86, List.forall_mem_cons.mpr ⟨sq102_89, List.forall_mem_cons.mpr ⟨sq102_92, List.forall_mem_cons.mpr ⟨sq102_98, List.forall_mem_cons.mpr ⟨sq102_103, List.forall_mem_cons.mpr ⟨sq102_109, List.forall_mem_cons.mpr ⟨sq102_114, List.forall_mem_cons.mpr ⟨sq102_117, List.forall_mem_cons.mpr ⟨sq102_120, List.forall_mem_cons.mpr ⟨sq102_125, List.forall_mem_cons.mpr ⟨sq102_128, List.forall_mem_cons.mpr ⟨sq102_133, List.forall_mem_cons.mpr ⟨sq102_136, List.forall_mem_cons.mpr ⟨sq102_141, (fun _ h => absurd h List.not_mem_nil)⟩⟩⟩⟩⟩⟩⟩⟩⟩⟩⟩⟩⟩⟩⟩⟩⟩⟩⟩⟩⟩⟩⟩)
theorem sq103_88 : sq 103 88 B103_88 := sq_take 2 (e := 89) (by decide +kernel) True.intro
theorem sq103_82 : sq 103 82 B103_82 := sq_take 4 (e := 88) (by decide +kernel) sq103_88
theorem sq103_79 : sq 103 79 B103_79 := sq_take 2 (e := 82) (by decide +kernel) sq103_82
theorem sq103_78 : sq 103 78 B103_78 := sq_take 2 (e := 79) (by decide +kernel) sq103_79
theorem sq103_74 : sq 103 74 B103_74 := sq_take 2 (e := 78) (by decide +kernel) sq103_78
theorem sq103_69 : sq 103 69 B103_69 := sq_take 4 (e := 74) (by decide +kernel) True.intro
theorem sq103_62 : sq 103 62 B103_62 := sq_take 4 (e := 69) (by decide +kernel) sq103_69
theorem sq103_57 : sq 103 57 B103_57 := sq_take 4 (e := 62) (by decide +kernel) sq103_62
theorem sq103_54 : sq 103 54 B103_54 := sq_take 2 (e := 57) (by decide +kernel) sq103_57
theorem sq103_52 : sq 103 52 B103_52 := sq_take 1 (e := 54) (by decide +kernel) sq103_54
theorem sq103_44 : sq 103 44 B103_44 := sq_take 4 (e := 52) (by decide +kernel) True.intro
theorem sq103_39 : sq 103 39 B103_39 := sq_take 4 (e := 44) (by decide +kernel) sq103_44
theorem sq103_33 : sq 103 33 B103_33 := sq_take 5 (e := 39) (by decide +kernel) sq103_39
theorem sq103_27 : sq 103 27 B103_27 := sq_take 4 (e := 33) (by decide +kernel) sq103_33
theorem sq103_22 : sq 103 22 B103_22 := sq_take 4 (e := 27) (by decide +kernel) sq103_27
theorem sq103_19 : sq 103 19 B103_19 := sq_take 2 (e := 22) (by decide +kernel) sq103_22
theorem sq103_12 : sq 103 12 B103_12 := sq_take 5 (e := 19) (by decide +kernel) sq103_19
theorem sq103_6 : sq 103 6 B103_6 := sq_take 4 (e := 12) (by decide +kernel) sq103_12
theorem sq103_0 : sq 103 0 B103_0 := sq_take 4 (e := 6) (by decide +kernel) sq103_6
set_option maxRecDepth 100000 in
theorem sqM_103 : ∀ b, sq 103 b (tG 103 b) := show ∀ b, sq 103 b (lkB tb103 b) from lkB_sq (List.forall_mem_cons.mpr ⟨sq103_0, List.forall_mem_cons.mpr ⟨sq103_6, List.forall_mem_cons.mpr ⟨sq103_12, List.forall_mem_cons.mpr ⟨sq103_19, List.forall_mem_cons.mpr ⟨sq103_22, List.forall_mem_cons.mpr ⟨sq103_27, List.forall_mem_cons.mpr ⟨sq103_33, List.forall_mem_cons.mpr ⟨sq103_39, List.forall_mem_cons.mpr ⟨sq103_44, List.forall_mem_cons.mpr ⟨sq103_52, List.forall_mem_cons.mpr ⟨sq103_54, List.forall_mem_cons.mpr ⟨sq103_57, List.forall_mem_cons.mpr ⟨sq103_62, List.forall_mem_cons.mpr ⟨sq103_69, List.forall_mem_cons.mpr ⟨sq103_74, List.forall_mem_cons.mpr ⟨sq103_78, List.forall_mem_cons.mpr ⟨sq103_79, List.forall_mem_cons.mpr ⟨sq103_82, List.forall_mem_cons.mpr ⟨sq103_88, (fun _ h => absurd h List.not_mem_nil)⟩⟩⟩⟩⟩⟩⟩⟩⟩⟩⟩⟩⟩⟩⟩⟩⟩⟩⟩)
theorem sq104_107 : sq 104 107 B104_107 := sq_take 2 (e := 108) (by decide +kernel) True.intro
theorem sq104_104 : sq 104 104 B104_104 := sq_take 2 (e := 107) (by decide +kernel) sq104_107
theorem sq104_98 : sq 104 98 B104_98 := sq_take 5 (e := 104) (by decide +kernel) sq104_104
theorem sq104_95 : sq 104 95 B104_95 := sq_take 2 (e := 98) (by decide +kernel) sq104_98
theorem sq104_90 : sq 104 90 B104_90 := sq_take 4 (e := 95) (by decide +kernel) sq104_95
theorem sq104_85 : sq 104 85 B104_85 := sq_take 3 (e := 90) (by decide +kernel) sq104_90
theorem sq104_79 : sq 104 79 B104_79 := sq_take 5 (e := 85) (by decide +kernel) sq104_85
theorem sq104_76 : sq 104 76 B104_76 := sq_take 2 (e := 79) (by decide +kernel) sq104_79
theorem sq104_74 : sq 104 74 B104_74 := sq_take 1 (e := 76) (by decide +kernel) sq104_76
theorem sq104_63 : sq 104 63 B104_63 := sq_take 6 (e := 74) (by decide +kernel) True.intro
theorem sq104_51 : sq 104 51 B104_51 := sq_take 5 (e := 63) (by decide +kernel) True.intro
theorem sq104_37 : sq 104 37 B104_37 := sq_take 8 (e := 51) (by decide +kernel) True.intro
theorem sq104_33 : sq 104 33 B104_33 := sq_take 2 (e := 37) (by decide +kernel) sq104_37
theorem sq104_30 : sq 104 30 B104_30 := sq_take 2 (e := 33) (by decide +kernel) True.intro
theorem sq104_24 : sq 104 24 B104_24 := sq_take 4 (e := 30) (by decide +kernel) sq104_30
theorem sq104_19 : sq 104 19 B104_19 := sq_take 3 (e := 24) (by decide +kernel) sq104_24
theorem sq104_4 : sq 104 4 B104_4 := sq_take 9 (e := 19) (by decide +kernel) sq104_19
theorem sq104_0 : sq 104 0 B104_0 := sq_take 3 (e := 4) (by decide +kernel) sq104_4
set_option maxRecDepth 100000 in
theorem sqM_104 : ∀ b, sq 104 b (tG 104 b) := show ∀ b, sq 104 b (lkB tb104 b) from lkB_sq (List.forall_mem_cons.mpr ⟨sq104_0, List.forall_mem_cons.mpr ⟨sq104_4, List.forall_mem_cons.mpr ⟨sq104_19, List.forall_mem_cons.mpr ⟨sq104_24, List.forall_mem_cons.mpr ⟨sq104_30, List.forall_mem_cons.mpr ⟨sq104_33, List.forall_mem_cons.mpr ⟨sq104_37, List.forall_mem_cons.mpr ⟨sq104_51, List.forall_mem_cons.mpr ⟨sq104_63, List.forall_mem_cons.mpr ⟨sq104_74, List.forall_mem_cons.mpr ⟨sq104_76, List.forall_mem_cons.mpr ⟨sq104_79, List.forall_mem_cons.mpr ⟨sq104_85, List.forall_mem_cons.mpr ⟨sq104_90, List.forall_mem_cons.mpr ⟨sq104_95, List.forall_mem_cons.mpr ⟨sq104_98, List.forall_mem_cons.mpr ⟨sq104_104, List.forall_mem_cons.mpr ⟨sq104_107, (fun _ h => absurd h List.not_mem_nil)⟩⟩⟩⟩⟩⟩⟩⟩⟩⟩⟩⟩⟩⟩⟩⟩⟩⟩)
theorem sq105_60 : sq 105 60 B105_60 := sq_take 2 (e := 63) (by decide +kernel) True.intro
theorem sq105_57 : sq 105 57 B105_57 := sq_take 2 (e := 60) (by decide +kernel) True.intro
theorem sq105_54 : sq 105 54 B105_54 := sq_take 2 (e := 57) (by decide +kernel) True.intro
theorem sq105_51 : sq 105 51 B105_51 := sq_take 2 (e := 54) (by decide +kernel) True.intro
theorem sq105_48 : sq 105 48 B105_48 := sq_take 2 (e := 51) (by decide +kernel) True.intro
theorem sq105_0 : sq 105 0 B105_0 := sq_take 5 (e := 48) (by decide +kernel) True.intro
set_option maxRecDepth 100000 in
theorem sqM_105 : ∀ b, sq 105 b (tG 105 b) := show ∀ b, sq 105 b (lkB tb105 b) from lkB_sq (List.forall_mem_cons.mpr ⟨sq105_0, List.forall_mem_cons.mpr ⟨sq105_48, List.forall_mem_cons.mpr ⟨sq105_51, List.forall_mem_cons.mpr ⟨sq105_54, List.forall_mem_cons.mpr ⟨sq105_57, List.forall_mem_cons.mpr ⟨sq105_60, (fun _ h => absurd h List.not_mem_nil)⟩⟩⟩⟩⟩⟩)
theorem sq106_141 : sq 106 141 B106_141 := sq_take 2 (e := 142) (by decide +kernel) True.intro
theorem sq106_138 : sq 106 138 B106_138 := sq_take 2 (e := 141) (by decide +kernel) sq106_141
theorem sq106_133 : sq 106 133 B106_133 := sq_take 4 (e := 138) (by decide +kernel) sq106_138
theorem sq106_127 : sq 106 127 B106_127 := sq_take 4 (e := 133) (by decide +kernel) sq106_133
theorem sq106_120 : sq 106 120 B106_120 := sq_take 5 (e := 127) (by decide +kernel) sq106_127
theorem sq106_117 : sq 106 117 B106_117 := sq_take 2 (e := 120) (by decide +kernel) sq106_120
theorem sq106_112 : sq 106 112 B106_112 := sq_take 4 (e := 117) (by decide +kernel) sq106_117
theorem sq106_109 : sq 106 109 B106_109 := sq_take 2 (e := 112) (by decide +kernel) sq106_112
theorem sq106_102 : sq 106 102 B106_102 := sq_take 5 (e := 109) (by decide +kernel) sq106_109
theorem sq106_94 : sq 106 94 B106_94 := sq_take 5 (e := 102) (by decide +kernel) sq106_102
theorem sq106_93 : sq 106 93 B106_93 := sq_take 1 (e := 94) (by decide +kernel) sq106_94
theorem sq106_81 : sq 106 81 B106_81 := sq_take 7 (e := 93) (by decide +kernel) True.intro
theorem sq106_78 : sq 106 78 B106_78 := sq_take 2 (e := 81) (by decide +kernel) True.intro
theorem sq106_66 : sq 106 66 B106_66 := sq_take 6 (e := 78) (by decide +kernel) sq106_78
theorem sq106_63 : sq 106 63 B106_63 := sq_take 2 (e := 66) (by decide +kernel) True.intro
theorem sq106_60 : sq 106 60 B106_60 := sq_take 2 (e := 63) (by decide +kernel) sq106_63
theorem sq106_55 : sq 106 55 B106_55 := sq_take 4 (e := 60) (by decide +kernel) sq106_60
theorem sq106_43 : sq 106 43 B106_43 := sq_take 6 (e := 55) (by decide +kernel) sq106_55
theorem sq106_40 : sq 106 40 B106_40 := sq_take 2 (e := 43) (by decide +kernel) True.intro
theorem sq106_37 : sq 106 37 B106_37 := sq_take 2 (e := 40) (by decide +kernel) sq106_40
theorem sq106_32 : sq 106 32 B106_32 := sq_take 4 (e := 37) (by decide +kernel) sq106_37
theorem sq106_21 : sq 106 21 B106_21 := sq_take 6 (e := 32) (by decide +kernel) sq106_32
theorem sq106_18 : sq 106 18 B106_18 := sq_take 2 (e := 21) (by decide +kernel) True.intro
theorem sq106_4 : sq 106 4 B106_4 := sq_take 8 (e := 18) (by decide +kernel) sq106_18
theorem sq106_0 : sq 106 0 B106_0 := sq_take 3 (e := 4) (by decide +kernel) sq106_4
set_option maxRecDepth 100000 in
theorem sqM_106 : ∀ b, sq 106 b (tG 106 b) := show ∀ b, sq 106 b (lkB tb106 b) from lkB_sq (List.forall_mem_cons.mpr ⟨sq106_0, List.forall_mem_cons.mpr ⟨sq106_4, List.forall_mem_cons.mpr ⟨sq106_18, List.forall_mem_cons.mpr ⟨sq106_21, List.forall_mem_cons.mpr ⟨sq106_32, List.forall_mem_cons.mpr ⟨sq106_37, List.forall_mem_cons.mpr ⟨sq106_40, List.forall_mem_cons.mpr ⟨sq106_43, List.forall_mem_cons.mpr ⟨sq106_55, List.forall_mem_cons.mpr ⟨sq106_60, List.forall_mem_cons.mpr ⟨sq106_63, List.forall_mem_cons.mpr ⟨sq106_66, List.forall_mem_cons.mpr ⟨sq106_78, List.forall_mem_cons.mpr ⟨sq106_81, List.forall_mem_cons.mpr ⟨sq106_93, List.forall_mem_cons.mpr ⟨sq106_94, List.forall_mem_cons.mpr ⟨sq106_102, List.forall_mem_cons.mpr ⟨sq106_109, List.forall_mem_cons.mpr ⟨sq106_112, List.forall_mem_cons.mpr ⟨sq106_117, List.forall_mem_cons.mpr ⟨sq106_120, List.forall_mem_cons.mpr ⟨sq106_127, List.forall_mem_cons.mpr ⟨sq106_133, List.forall_mem_cons.mpr ⟨sq106_138, List.forall_mem_cons.mpr ⟨sq106_141, (fun _ h => absurd h List.not_mem_nil)⟩⟩⟩⟩⟩⟩⟩⟩⟩⟩⟩⟩⟩⟩⟩⟩⟩⟩⟩⟩⟩⟩⟩⟩⟩)
theorem sq107_34 : sq 107 34 B107_34 := sq_take 2 (e := 35) (by decide +kernel) True.intro
theorem sq107_30 : sq 107 30 B107_30 := sq_take 3 (e := 34) (by decide +kernel) sq107_34
theorem sq107_25 : sq 107 25 B107_25 := sq_take 3 (e := 30) (by decide +kernel) sq107_30
theorem sq107_22 : sq 107 22 B107_22 := sq_take 2 (e := 25) (by decide +kernel) True.intro
theorem sq107_19 : sq 107 19 B107_19 := sq_take 2 (e := 22) (by decide +kernel) sq107_22
theorem sq107_10 : sq 107 10 B107_10 := sq_take 6 (e := 19) (by decide +kernel) sq107_19
theorem sq107_6 : sq 107 6 B107_6 := sq_take 3 (e := 10) (by decide +kernel) sq107_10
theorem sq107_0 : sq 107 0 B107_0 := sq_take 4 (e := 6) (by decide +kernel) sq107_6
set_option maxRecDepth 100000 in
theorem sqM_107 : ∀ b, sq 107 b (tG 107 b) := show ∀ b, sq 107 b (lkB tb107 b) from lkB_sq (List.forall_mem_cons.mpr ⟨sq107_0, List.forall_mem_cons.mpr ⟨sq107_6, List.forall_mem_cons.mpr ⟨sq107_10, List.forall_mem_cons.mpr ⟨sq107_19, List.forall_mem_cons.mpr ⟨sq107_22, List.forall_mem_cons.mpr ⟨sq107_25, List.forall_mem_cons.mpr ⟨sq107_30, List.forall_mem_cons.mpr ⟨sq107_34, (fun _ h => absurd h List.not_mem_nil)⟩⟩⟩⟩⟩⟩⟩⟩)
theorem sq108_126 : sq 108 126 B108_126 := sq_take 2 (e := 129) (by decide +kernel) True.intro
theorem sq108_123 : sq 108 123 B108_123 := sq_take 2 (e := 126) (by decide +kernel) True.intro
theorem sq108_120 : sq 108 120 B108_120 := sq_take 2 (e := 123) (by decide +kernel) True.intro
theorem sq108_117 : sq 108 117 B108_117 := sq_take 2 (e := 120) (by decide +kernel) True.intro
theorem sq108_114 : sq 108 114 B108_114 := sq_take 2 (e := 117) (by decide +kernel) True.intro
theorem sq108_111 : sq 108 111 B108_111 := sq_take 2 (e := 114) (by decide +kernel) True.intro
theorem sq108_108 : sq 108 108 B108_108 := sq_take 2 (e := 111) (by decide +kernel) True.intro
theorem sq108_105 : sq 108 105 B108_105 := sq_take 2 (e := 108) (by decide +kernel) True.intro
theorem sq108_102 : sq 108 102 B108_102 := sq_take 2 (e := 105) (by decide +kernel) True.intro
theorem sq108_99 : sq 108 99 B108_99 := sq_take 2 (e := 102) (by decide +kernel) True.intro
theorem sq108_96 : sq 108 96 B108_96 := sq_take 2 (e := 99) (by decide +kernel) True.intro
theorem sq108_0 : sq 108 0 B108_0 := sq_take 5 (e := 96) (by decide +kernel) True.intro
set_option maxRecDepth 100000 in
theorem sqM_108 : ∀ b, sq 108 b (tG 108 b) := show ∀ b, sq 108 b (lkB tb108 b) from lkB_sq (List.forall_mem_cons.mpr ⟨sq108_0, List.forall_mem_cons.mpr ⟨sq108_96, List.forall_mem_cons.mpr ⟨sq108_99, List.forall_mem_cons.mpr ⟨sq108_102, List.forall_mem_cons.mpr ⟨sq108_105, List.forall_mem_cons.mpr ⟨sq108_108, List.forall_mem_cons.mpr ⟨sq108_111, List.forall_mem_cons.mpr ⟨sq108_114, List.forall_mem_cons.mpr ⟨sq108_117, List.forall_mem_cons.mpr ⟨sq108_120, List.forall_mem_cons.mpr ⟨sq108_123, List.forall_mem_cons.mpr ⟨sq108_126, (fun _ h => absurd h List.not_mem_nil)⟩⟩⟩⟩⟩⟩⟩⟩⟩⟩⟩⟩)
theorem sq109_207 : sq 109 207 B109_207 := sq_take 2 (e := 208) (by decide +kernel) True.intro
theorem sq109_200 : sq 109 200 B109_200 := sq_take 5 (e := 207) (by decide +kernel) sq109_207
theorem sq109_197 : sq 109 197 B109_197 := sq_take 2 (e := 200) (by decide +kernel) sq109_200
theorem sq109_194 : sq 109 194 B109_194 := sq_take 2 (e := 197) (by decide +kernel) sq109_197
theorem sq109_187 : sq 109 187 B109_187 := sq_take 5 (e := 194) (by decide +kernel) sq109_194
theorem sq109_184 : sq 109 184 B109_184 := sq_take 2 (e := 187) (by decide +kernel) True.intro
theorem sq109_181 : sq 109 181 B109_181 := sq_take 2 (e := 184) (by decide +kernel) sq109_184
theorem sq109_174 : sq 109 174 B109_174 := sq_take 5 (e := 181) (by decide +kernel) sq109_181
theorem sq109_168 : sq 109 168 B109_168 := sq_take 4 (e := 174) (by decide +kernel) sq109_174
theorem sq109_164 : sq 109 164 B109_164 := sq_take 3 (e := 168) (by decide +kernel) sq109_168
theorem sq109_159 : sq 109 159 B109_159 := sq_take 4 (e := 164) (by decide +kernel) sq109_164
theorem sq109_150 : sq 109 150 B109_150 := sq_take 5 (e := 159) (by decide +kernel) sq109_159
theorem sq109_138 : sq 109 138 B109_138 := sq_take 5 (e := 150) (by decide +kernel) sq109_150
theorem sq109_135 : sq 109 135 B109_135 := sq_take 2 (e := 138) (by decide +kernel) True.intro
theorem sq109_132 : sq 109 132 B109_132 := sq_take 2 (e := 135) (by decide +kernel) sq109_135
theorem sq109_125 : sq 109 125 B109_125 := sq_take 5 (e := 132) (by decide +kernel) sq109_132
theorem sq109_111 : sq 109 111 B109_111 := sq_take 6 (e := 125) (by decide +kernel) sq109_125
theorem sq109_108 : sq 109 108 B109_108 := sq_take 2 (e := 111) (by decide +kernel) True.intro
theorem sq109_105 : sq 109 105 B109_105 := sq_take 2 (e := 108) (by decide +kernel) sq109_108
theorem sq109_99 : sq 109 99 B109_99 := sq_take 5 (e := 105) (by decide +kernel) sq109_105
theorem sq109_93 : sq 109 93 B109_93 := sq_take 4 (e := 99) (by decide +kernel) sq109_99
theorem sq109_89 : sq 109 89 B109_89 := sq_take 3 (e := 93) (by decide +kernel) sq109_93
theorem sq109_84 : sq 109 84 B109_84 := sq_take 4 (e := 89) (by decide +kernel) sq109_89
theorem sq109_81 : sq 109 81 B109_81 := sq_take 2 (e := 84) (by decide +kernel) sq109_84
theorem sq109_79 : sq 109 79 B109_79 := sq_take 1 (e := 81) (by decide +kernel) sq109_81
theorem sq109_67 : sq 109 67 B109_67 := sq_take 5 (e := 79) (by decide +kernel) True.intro
theorem sq109_46 : sq 109 46 B109_46 := sq_take 10 (e := 67) (by decide +kernel) True.intro
theorem sq109_43 : sq 109 43 B109_43 := sq_take 2 (e := 46) (by decide +kernel) sq109_46
theorem sq109_34 : sq 109 34 B109_34 := sq_take 6 (e := 43) (by decide +kernel) sq109_43
theorem sq109_33 : sq 109 33 B109_33 := sq_take 1 (e := 34) (by decide +kernel) sq109_34
theorem sq109_29 : sq 109 29 B109_29 := sq_take 3 (e := 33) (by decide +kernel) True.intro
theorem sq109_4 : sq 109 4 B109_4 := sq_take 14 (e := 29) (by decide +kernel) sq109_29
theorem sq109_0 : sq 109 0 B109_0 := sq_take 3 (e := 4) (by decide +kernel) sq109_4
set_option maxRecDepth 100000 in
theorem sqM_109 : ∀ b, sq 109 b (tG 109 b) := show ∀ b, sq 109 b (lkB tb109 b) from lkB_sq (List.forall_mem_cons.mpr ⟨sq109_0, List.forall_mem_cons.mpr ⟨sq109_4, List.forall_mem_cons.mpr ⟨sq109_29, List.forall_mem_cons.mpr ⟨sq109_33, List.forall_mem_cons.mpr ⟨sq109_34, List.forall_mem_cons.mpr ⟨sq109_43, List.forall_mem_cons.mpr ⟨sq109_46, List.forall_mem_cons.mpr ⟨sq109_67, List.forall_mem_cons.mpr ⟨sq109_79, List.forall_mem_cons.mpr ⟨sq109_81, List.forall_mem_cons.mpr ⟨sq109_84, List.forall_mem_cons.mpr ⟨sq109_89, List.forall_mem_cons.mpr ⟨sq109_93, List.forall_mem_cons.mpr ⟨sq109_99, List.forall_mem_cons.mpr ⟨sq109_105, List.forall_mem_cons.mpr ⟨sq109_108, List.forall_mem_cons.mpr ⟨sq109_111, List.forall_mem_cons.mpr ⟨sq109_125, List.forall_mem_cons.mpr ⟨sq109_132, List.forall_mem_cons.mpr ⟨sq109_135, List.forall_mem_cons.mpr ⟨sq109_138, List.forall_mem_cons.mpr ⟨sq109_150, List.forall_mem_cons.mpr ⟨sq109_159, List.forall_mem_cons.mpr ⟨sq109_164, List.forall_mem_cons.mpr ⟨sq109_168, List.forall_mem_cons.mpr ⟨sq109_174, List.forall_mem_cons.mpr ⟨sq109_181, List.forall_mem_cons.mpr ⟨sq109_184, List.forall_mem_cons.mpr ⟨sq109_187, List.forall_mem_cons.mpr ⟨sq109_194, List.forall_mem_cons.mpr ⟨sq109_197, List.forall_mem_cons.mpr ⟨sq109_200, List.forall_mem_cons.mpr ⟨sq109_207, (fun _ h => absurd h List.not_mem_nil)⟩⟩⟩⟩⟩⟩⟩⟩⟩⟩⟩⟩⟩⟩⟩⟩⟩⟩⟩⟩⟩⟩⟩⟩⟩⟩⟩⟩⟩⟩⟩⟩⟩)
theorem sq110_153 : sq 110 153 B110_153 := sq_take 2 (e := 156) (by decide +kernel) True.intro
theorem sq110_150 : sq 110 150 B110_150 := sq_take 2 (e := 153) (by decide +kernel) True.intro
theorem sq110_147 : sq 110 147 B110_147 := sq_take 2 (e := 150) (by decide +kernel) True.intro
theorem sq110_146 : sq 110 146 B110_146 := sq_take 1 (e := 147) (by decide +kernel) True.intro
theorem sq110_144 : sq 110 144 B110_144 := sq_take 1 (e := 146) (by decide +kernel) sq110_146
theorem sq110_134 : sq 110 134 B110_134 := sq_take 5 (e := 144) (by decide +kernel) True.intro
theorem sq110_131 : sq 110 131 B110_131 := sq_take 2 (e := 134) (by decide +kernel) True.intro
theorem sq110_128 : sq 110 128 B110_128 := sq_take 2 (e := 131) (by decide +kernel) True.intro
theorem sq110_125 : sq 110 125 B110_125 := sq_take 2 (e := 128) (by decide +kernel) True.intro
theorem sq110_122 : sq 110 122 B110_122 := sq_take 2 (e := 125) (by decide +kernel) True.intro
theorem sq110_121 : sq 110 121 B110_121 := sq_take 1 (e := 122) (by decide +kernel) True.intro
theorem sq110_119 : sq 110 119 B110_119 := sq_take 1 (e := 121) (by decide +kernel) sq110_121
theorem sq110_109 : sq 110 109 B110_109 := sq_take 5 (e := 119) (by decide +kernel) True.intro
theorem sq110_106 : sq 110 106 B110_106 := sq_take 2 (e := 109) (by decide +kernel) True.intro
theorem sq110_103 : sq 110 103 B110_103 := sq_take 2 (e := 106) (by decide +kernel) True.intro
theorem sq110_100 : sq 110 100 B110_100 := sq_take 2 (e := 103) (by decide +kernel) True.intro
theorem sq110_0 : sq 110 0 B110_0 := sq_take 3 (e := 100) (by decide +kernel) True.intro
set_option maxRecDepth 100000 in
theorem sqM_110 : ∀ b, sq 110 b (tG 110 b) := show ∀ b, sq 110 b (lkB tb110 b) from lkB_sq (List.forall_mem_cons.mpr ⟨sq110_0, List.forall_mem_cons.mpr ⟨sq110_100, List.forall_mem_cons.mpr ⟨sq110_103, List.forall_mem_cons.mpr ⟨sq110_106, List.forall_mem_cons.mpr ⟨sq110_109, List.forall_mem_cons.mpr ⟨sq110_119, List.forall_mem_cons.mpr ⟨sq110_121, List.forall_mem_cons.mpr ⟨sq110_122, List.forall_mem_cons.mpr ⟨sq110_125, List.forall_mem_cons.mpr ⟨sq110_128, List.forall_mem_cons.mpr ⟨sq110_131, List.forall_mem_cons.mpr ⟨sq110_134, List.forall_mem_cons.mpr ⟨sq110_144, List.forall_mem_cons.mpr ⟨sq110_146, List.forall_mem_cons.mpr ⟨sq110_147, List.forall_mem_cons.mpr ⟨sq110_150, List.forall_mem_cons.mpr ⟨sq110_153, (fun _ h => absurd h List.not_mem_nil)⟩⟩⟩⟩⟩⟩⟩⟩⟩⟩⟩⟩⟩⟩⟩⟩⟩)
theorem sq111_249 : sq 111 249 B111_249 := sq_take 12 (e := 267) (by decide +kernel) True.intro
theorem sq111_243 : sq 111 243 B111_243 := sq_take 3 (e := 249) (by decide +kernel) True.intro
theorem sq111_180 : sq 111 180 B111_180 := sq_take 39 (e := 243) (by decide +kernel) sq111_243
theorem sq111_177 : sq 111 177 B111_177 := sq_take 3 (e := 180) (by decide +kernel) sq111_180
theorem sq111_168 : sq 111 168 B111_168 := sq_take 5 (e := 177) (by decide +kernel) True.intro
theorem sq111_167 : sq 111 167 B111_167 := sq_take 1 (e := 168) (by decide +kernel) sq111_168
theorem sq111_155 : sq 111 155 B111_155 := sq_take 7 (e := 167) (by decide +kernel) True.intro
theorem sq111_143 : sq 111 143 B111_143 := sq_take 7 (e := 155) (by decide +kernel) sq111_155
theorem sq111_140 : sq 111 140 B111_140 := sq_take 2 (e := 143) (by decide +kernel) True.intro
theorem sq111_105 : sq 111 105 B111_105 := sq_take 23 (e := 140) (by decide +kernel) sq111_140
theorem sq111_66 : sq 111 66 B111_66 := sq_take 20 (e := 105) (by decide +kernel) sq111_105
theorem sq111_30 : sq 111 30 B111_30 := sq_take 24 (e := 66) (by decide +kernel) sq111_66
theorem sq111_10 : sq 111 10 B111_10 := sq_take 11 (e := 30) (by decide +kernel) sq111_30
theorem sq111_0 : sq 111 0 B111_0 := sq_take 7 (e := 10) (by decide +kernel) True.intro
set_option maxRecDepth 100000 in
theorem sqM_111 : ∀ b, sq 111 b (tG 111 b) := show ∀ b, sq 111 b (lkB tb111 b) from lkB_sq (List.forall_mem_cons.mpr ⟨sq111_0, List.forall_mem_cons.mpr ⟨sq111_10, List.forall_mem_cons.mpr ⟨sq111_30, List.forall_mem_cons.mpr ⟨sq111_66, List.forall_mem_cons.mpr ⟨sq111_105, List.forall_mem_cons.mpr ⟨sq111_140, List.forall_mem_cons.mpr ⟨sq111_143, List.forall_mem_cons.mpr ⟨sq111_155, List.forall_mem_cons.mpr ⟨sq111_167, List.forall_mem_cons.mpr ⟨sq111_168, List.forall_mem_cons.mpr ⟨sq111_177, List.forall_mem_cons.mpr ⟨sq111_180, List.forall_mem_cons.mpr ⟨sq111_243, List.forall_mem_cons.mpr ⟨sq111_249, (fun _ h => absurd h List.not_mem_nil)⟩⟩⟩⟩⟩⟩⟩⟩⟩⟩⟩⟩⟩⟩)
theorem sq112_67 : sq 112 67 B112_67 := sq_take 2 (e := 68) (by decide +kernel) True.intro
theorem sq112_41 : sq 112 41 B112_41 := sq_take 17 (e := 67) (by decide +kernel) sq112_67
theorem sq112_0 : sq 112 0 B112_0 := sq_take 28 (e := 41) (by decide +kernel) sq112_41
set_option maxRecDepth 100000 in
theorem sqM_112 : ∀ b, sq 112 b (tG 112 b) := show ∀ b, sq 112 b (lkB tb112 b) from lkB_sq (List.forall_mem_cons.mpr ⟨sq112_0, List.forall_mem_cons.mpr ⟨sq112_41, List.forall_mem_cons.mpr ⟨sq112_67, (fun _ h => absurd h List.not_mem_nil)⟩⟩⟩)
theorem sq113_11 : sq 113 11 B113_11 := sq_take 2 (e := 12) (by decide +kernel) True.intro
theorem sq113_0 : sq 113 0 B113_0 := sq_take 9 (e := 11) (by decide +kernel) sq113_11
set_option maxRecDepth 100000 in
theorem sqM_113 : ∀ b, sq 113 b (tG 113 b) := show ∀ b, sq 113 b (lkB tb113 b) from lkB_sq (List.forall_mem_cons.mpr ⟨sq113_0, List.forall_mem_cons.mpr ⟨sq113_11, (fun _ h => absurd h List.not_mem_nil)⟩⟩)
theorem sq114_43 : sq 114 43 B114_43 := sq_take 2 (e := 44) (by decide +kernel) True.intro
theorem sq114_40 : sq 114 40 B114_40 := sq_take 2 (e := 43) (by decide +kernel) sq114_43
theorem sq114_36 : sq 114 36 B114_36 := sq_take 3 (e := 40) (by decide +kernel) sq114_40
theorem sq114_32 : sq 114 32 B114_32 := sq_take 3 (e := 36) (by decide +kernel) sq114_36
theorem sq114_26 : sq 114 26 B114_26 := sq_take 4 (e := 32) (by decide +kernel) sq114_32
theorem sq114_23 : sq 114 23 B114_23 := sq_take 2 (e := 26) (by decide +kernel) True.intro
theorem sq114_20 : sq 114 20 B114_20 := sq_take 2 (e := 23) (by decide +kernel) sq114_23
theorem sq114_17 : sq 114 17 B114_17 := sq_take 2 (e := 20) (by decide +kernel) sq114_20
theorem sq114_13 : sq 114 13 B114_13 := sq_take 3 (e := 17) (by decide +kernel) sq114_17
theorem sq114_4 : sq 114 4 B114_4 := sq_take 6 (e := 13) (by decide +kernel) sq114_13
theorem sq114_0 : sq 114 0 B114_0 := sq_take 3 (e := 4) (by decide +kernel) sq114_4
set_option maxRecDepth 100000 in
theorem sqM_114 : ∀ b, sq 114 b (tG 114 b) := show ∀ b, sq 114 b (lkB tb114 b) from lkB_sq (List.forall_mem_cons.mpr ⟨sq114_0, List.forall_mem_cons.mpr ⟨sq114_4, List.forall_mem_cons.mpr ⟨sq114_13, List.forall_mem_cons.mpr ⟨sq114_17, List.forall_mem_cons.mpr ⟨sq114_20, List.forall_mem_cons.mpr ⟨sq114_23, List.forall_mem_cons.mpr ⟨sq114_26, List.forall_mem_cons.mpr ⟨sq114_32, List.forall_mem_cons.mpr ⟨sq114_36, List.forall_mem_cons.mpr ⟨sq114_40, List.forall_mem_cons.mpr ⟨sq114_43, (fun _ h => absurd h List.not_mem_nil)⟩⟩⟩⟩⟩⟩⟩⟩⟩⟩⟩)
theorem sq115_106 : sq 115 106 B115_106 := sq_take 2 (e := 107) (by decide +kernel) True.intro
theorem sq115_101 : sq 115 101 B115_101 := sq_take 3 (e := 106) (by decide +kernel) sq115_106
theorem sq115_98 : sq 115 98 B115_98 := sq_take 2 (e := 101) (by decide +kernel) True.intro
theorem sq115_95 : sq 115 95 B115_95 := sq_take 2 (e := 98) (by decide +kernel) sq115_98
theorem sq115_86 : sq 115 86 B115_86 := sq_take 6 (e := 95) (by decide +kernel) sq115_95
theorem sq115_83 : sq 115 83 B115_83 := sq_take 2 (e := 86) (by decide +kernel) True.intro
theorem sq115_78 : sq 115 78 B115_78 := sq_take 3 (e := 83) (by decide +kernel) sq115_83
theorem sq115_75 : sq 115 75 B115_75 := sq_take 2 (e := 78) (by decide +kernel) True.intro
theorem sq115_70 : sq 115 70 B115_70 := sq_take 3 (e := 75) (by decide +kernel) sq115_75
theorem sq115_62 : sq 115 62 B115_62 := sq_take 6 (e := 70) (by decide +kernel) sq115_70
theorem sq115_59 : sq 115 59 B115_59 := sq_take 2 (e := 62) (by decide +kernel) sq115_62
theorem sq115_52 : sq 115 52 B115_52 := sq_take 4 (e := 59) (by decide +kernel) sq115_59
theorem sq115_49 : sq 115 49 B115_49 := sq_take 2 (e := 52) (by decide +kernel) True.intro
theorem sq115_44 : sq 115 44 B115_44 := sq_take 3 (e := 49) (by decide +kernel) sq115_49
theorem sq115_4 : sq 115 4 B115_4 := sq_take 4 (e := 44) (by decide +kernel) True.intro
theorem sq115_0 : sq 115 0 B115_0 := sq_take 3 (e := 4) (by decide +kernel) sq115_4
set_option maxRecDepth 100000 in
theorem sqM_115 : ∀ b, sq 115 b (tG 115 b) := show ∀ b, sq 115 b (lkB tb115 b) from lkB_sq (List.forall_mem_cons.mpr ⟨sq115_0, List.forall_mem_cons.mpr ⟨sq115_4, List.forall_mem_cons.mpr ⟨sq115_44, List.forall_mem_cons.mpr ⟨sq115_49, List.forall_mem_cons.mpr ⟨sq115_52, List.forall_mem_cons.mpr ⟨sq115_59, List.forall_mem_cons.mpr ⟨sq115_62, List.forall_mem_cons.mpr ⟨sq115_70, List.forall_mem_cons.mpr ⟨sq115_75, List.forall_mem_cons.mpr ⟨sq115_78, List.forall_mem_cons.mpr ⟨sq115_83, List.forall_mem_cons.mpr ⟨sq115_86, List.forall_mem_cons.mpr ⟨sq115_95, List.forall_mem_cons.mpr ⟨sq115_98, List.forall_mem_cons.mpr ⟨sq115_101, List.forall_mem_cons.mpr ⟨sq115_106, (fun _ h => absurd h List.not_mem_nil)⟩⟩⟩⟩⟩⟩⟩⟩⟩⟩⟩⟩⟩⟩⟩⟩)
theorem sq116_24 : sq 116 24 B116_24 := sq_take 2 (e := 25) (by decide +kernel) True.intro
theorem sq116_21 : sq 116 21 B116_21 := sq_take 2 (e := 24) (by decide +kernel) sq116_24
theorem sq116_9 : sq 116 9 B116_9 := sq_take 8 (e := 21) (by decide +kernel) sq116_21
theorem sq116_6 : sq 116 6 B116_6 := sq_take 2 (e := 9) (by decide +kernel) sq116_9
theorem sq116_0 : sq 116 0 B116_0 := sq_take 5 (e := 6) (by decide +kernel) sq116_6
set_option maxRecDepth 100000 in
theorem sqM_116 : ∀ b, sq 116 b (tG 116 b) := show ∀ b, sq 116 b (lkB tb116 b) from lkB_sq (List.forall_mem_cons.mpr ⟨sq116_0, List.forall_mem_cons.mpr ⟨sq116_6, List.forall_mem_cons.mpr ⟨sq116_9, List.forall_mem_cons.mpr ⟨sq116_21, List.forall_mem_cons.mpr ⟨sq116_24, (fun _ h => absurd h List.not_mem_nil)⟩⟩⟩⟩⟩)
theorem sq117_49 : sq 117 49 B117_49 := sq_take 2 (e := 50) (by decide +kernel) True.intro
theorem sq117_45 : sq 117 45 B117_45 := sq_take 3 (e := 49) (by decide +kernel) sq117_49
theorem sq117_42 : sq 117 42 B117_42 := sq_take 2 (e := 45) (by decide +kernel) sq117_45
theorem sq117_21 : sq 117 21 B117_21 := sq_take 12 (e := 42) (by decide +kernel) sq117_42
theorem sq117_17 : sq 117 17 B117_17 := sq_take 3 (e := 21) (by decide +kernel) sq117_21
theorem sq117_14 : sq 117 14 B117_14 := sq_take 2 (e := 17) (by decide +kernel) sq117_17
theorem sq117_4 : sq 117 4 B117_4 := sq_take 8 (e := 14) (by decide +kernel) sq117_14
theorem sq117_0 : sq 117 0 B117_0 := sq_take 3 (e := 4) (by decide +kernel) sq117_4
set_option maxRecDepth 100000 in
theorem sqM_117 : ∀ b, sq 117 b (tG 117 b) := show ∀ b, sq 117 b (lkB tb117 b) from lkB_sq (List.forall_mem_cons.mpr ⟨sq117_0, List.forall_mem_cons.mpr ⟨sq117_4, List.forall_mem_cons.mpr ⟨sq117_14, List.forall_mem_cons.mpr ⟨sq117_17, List.forall_mem_cons.mpr ⟨sq117_21, List.forall_mem_cons.mpr ⟨sq117_42, List.forall_mem_cons.mpr ⟨sq117_45, List.forall_mem_cons.mpr ⟨sq117_49, (fun _ h => absurd h List.not_mem_nil)⟩⟩⟩⟩⟩⟩⟩⟩)
theorem sq118_188 : sq 118 188 B118_188 := sq_take 2 (e := 189) (by decide +kernel) True.intro
theorem sq118_171 : sq 118 171 B118_171 := sq_take 11 (e := 188) (by decide +kernel) sq118_188
theorem sq118_161 : sq 118 161 B118_161 := sq_take 7 (e := 171) (by decide +kernel) sq118_171
theorem sq118_152 : sq 118 152 B118_152 := sq_take 5 (e := 161) (by decide +kernel) sq118_161
theorem sq118_141 : sq 118 141 B118_141 := sq_take 6 (e := 152) (by decide +kernel) sq118_152
theorem sq118_138 : sq 118 138 B118_138 := sq_take 2 (e := 141) (by decide +kernel) True.intro
theorem sq118_120 : sq 118 120 B118_120 := sq_take 9 (e := 138) (by decide +kernel) sq118_138
theorem sq118_119 : sq 118 119 B118_119 := sq_take 2 (e := 120) (by decide +kernel) True.intro
theorem sq118_110 : sq 118 110 B118_110 := sq_take 7 (e := 119) (by decide +kernel) sq118_119
theorem sq118_100 : sq 118 100 B118_100 := sq_take 7 (e := 110) (by decide +kernel) sq118_110
theorem sq118_84 : sq 118 84 B118_84 := sq_take 10 (e := 100) (by decide +kernel) sq118_100
theorem sq118_77 : sq 118 77 B118_77 := sq_take 5 (e := 84) (by decide +kernel) sq118_84
theorem sq118_76 : sq 118 76 B118_76 := sq_take 1 (e := 77) (by decide +kernel) sq118_77
theorem sq118_67 : sq 118 67 B118_67 := sq_take 5 (e := 76) (by decide +kernel) True.intro
theorem sq118_64 : sq 118 64 B118_64 := sq_take 2 (e := 67) (by decide +kernel) sq118_67
theorem sq118_51 : sq 118 51 B118_51 := sq_take 7 (e := 64) (by decide +kernel) sq118_64
theorem sq118_41 : sq 118 41 B118_41 := sq_take 6 (e := 51) (by decide +kernel) sq118_51
theorem sq118_40 : sq 118 40 B118_40 := sq_take 2 (e := 41) (by decide +kernel) True.intro
theorem sq118_21 : sq 118 21 B118_21 := sq_take 11 (e := 40) (by decide +kernel) sq118_40
theorem sq118_15 : sq 118 15 B118_15 := sq_take 4 (e := 21) (by decide +kernel) sq118_21
theorem sq118_9 : sq 118 9 B118_9 := sq_take 4 (e := 15) (by decide +kernel) sq118_15
theorem sq118_4 : sq 118 4 B118_4 := sq_take 4 (e := 9) (by decide +kernel) sq118_9
theorem sq118_0 : sq 118 0 B118_0 := sq_take 3 (e := 4) (by decide +kernel) sq118_4
set_option maxRecDepth 100000 in
theorem sqM_118 : ∀ b, sq 118 b (tG 118 b) := show ∀ b, sq 118 b (lkB tb118 b) from lkB_sq (List.forall_mem_cons.mpr ⟨sq118_0, List.forall_mem_cons.mpr ⟨sq118_4, List.forall_mem_cons.mpr ⟨sq118_9, List.forall_mem_cons.mpr ⟨sq118_15, List.forall_mem_cons.mpr ⟨sq118_21, List.forall_mem_cons.mpr ⟨sq118_40, List.forall_mem_cons.mpr ⟨sq118_41, List.forall_mem_cons.mpr ⟨sq118_51, List.forall_mem_cons.mpr ⟨sq118_64, List.forall_mem_cons.mpr ⟨sq118_67, List.forall_mem_cons.mpr ⟨sq118_76, List.forall_mem_cons.mpr ⟨sq118_77, List.forall_mem_cons.mpr ⟨sq118_84, List.forall_mem_cons.mpr ⟨sq118_100, List.forall_mem_cons.mpr ⟨sq118_110, List.forall_mem_cons.mpr ⟨sq118_119, List.forall_mem_cons.mpr ⟨sq118_120, List.forall_mem_cons.mpr ⟨sq118_138, List.forall_mem_cons.mpr ⟨sq118_141, List.forall_mem_cons.mpr ⟨sq118_152, List.forall_mem_cons.mpr ⟨sq118_161, List.forall_mem_cons.mpr ⟨sq118_171, List.forall_mem_cons.mpr ⟨sq118_188, (fun _ h => absurd h List.not_mem_nil)⟩⟩⟩⟩⟩⟩⟩⟩⟩⟩⟩⟩⟩⟩⟩⟩⟩⟩⟩⟩⟩⟩⟩)
theorem sq119_138 : sq 119 138 B119_138 := sq_take 2 (e := 141) (by decide +kernel) True.intro
theorem sq119_135 : sq 119 135 B119_135 := sq_take 2 (e := 138) (by decide +kernel) True.intro
theorem sq119_134 : sq 119 134 B119_134 := sq_take 1 (e := 135) (by decide +kernel) True.intro
theorem sq119_132 : sq 119 132 B119_132 := sq_take 1 (e := 134) (by decide +kernel) sq119_134
theorem sq119_122 : sq 119 122 B119_122 := sq_take 5 (e := 132) (by decide +kernel) True.intro
theorem sq119_119 : sq 119 119 B119_119 := sq_take 2 (e := 122) (by decide +kernel) True.intro
theorem sq119_116 : sq 119 116 B119_116 := sq_take 2 (e := 119) (by decide +kernel) True.intro
theorem sq119_113 : sq 119 113 B119_113 := sq_take 2 (e := 116) (by decide +kernel) True.intro
theorem sq119_110 : sq 119 110 B119_110 := sq_take 2 (e := 113) (by decide +kernel) True.intro
theorem sq119_109 : sq 119 109 B119_109 := sq_take 1 (e := 110) (by decide +kernel) True.intro
theorem sq119_108 : sq 119 108 B119_108 := sq_take 1 (e := 109) (by decide +kernel) sq119_109
theorem sq119_98 : sq 119 98 B119_98 := sq_take 5 (e := 108) (by decide +kernel) True.intro
theorem sq119_96 : sq 119 96 B119_96 := sq_take 2 (e := 98) (by decide +kernel) True.intro
theorem sq119_94 : sq 119 94 B119_94 := sq_take 2 (e := 96) (by decide +kernel) True.intro
theorem sq119_92 : sq 119 92 B119_92 := sq_take 2 (e := 94) (by decide +kernel) True.intro
theorem sq119_0 : sq 119 0 B119_0 := sq_take 3 (e := 92) (by decide +kernel) True.intro
set_option maxRecDepth 100000 in
theorem sqM_119 : ∀ b, sq 119 b (tG 119 b) := show ∀ b, sq 119 b (lkB tb119 b) from lkB_sq (List.forall_mem_cons.mpr ⟨sq119_0, List.forall_mem_cons.mpr ⟨sq119_92, List.forall_mem_cons.mpr ⟨sq119_94, List.forall_mem_cons.mpr ⟨sq119_96, List.forall_mem_cons.mpr ⟨sq119_98, List.forall_mem_cons.mpr ⟨sq119_108, List.forall_mem_cons.mpr ⟨sq119_109, List.forall_mem_cons.mpr ⟨sq119_110, List.forall_mem_cons.mpr ⟨sq119_113, List.forall_mem_cons.mpr ⟨sq119_116, List.forall_mem_cons.mpr ⟨sq119_119, List.forall_mem_cons.mpr ⟨sq119_122, List.forall_mem_cons.mpr ⟨sq119_132, List.forall_mem_cons.mpr ⟨sq119_134, List.forall_mem_cons.mpr ⟨sq119_135, List.forall_mem_cons.mpr ⟨sq119_138, (fun _ h => absurd h List.not_mem_nil)⟩⟩⟩⟩⟩⟩⟩⟩⟩⟩⟩⟩⟩⟩⟩⟩)
theorem sq120_25 : sq 120 25 B120_25 := sq_take 3 (e := 28) (by decide +kernel) True.intro
theorem sq120_22 : sq 120 22 B120_22 := sq_take 2 (e := 25) (by decide +kernel) sq120_25
theorem sq120_15 : sq 120 15 B120_15 := sq_take 4 (e := 22) (by decide +kernel) sq120_22
theorem sq120_14 : sq 120 14 B120_14 := sq_take 2 (e := 15) (by decide +kernel) True.intro
theorem sq120_0 : sq 120 0 B120_0 := sq_take 9 (e := 14) (by decide +kernel) sq120_14
set_option maxRecDepth 100000 in
theorem sqM_120 : ∀ b, sq 120 b (tG 120 b) := show ∀ b, sq 120 b (lkB tb120 b) from lkB_sq (List.forall_mem_cons.mpr ⟨sq120_0, List.forall_mem_cons.mpr ⟨sq120_14, List.forall_mem_cons.mpr ⟨sq120_15, List.forall_mem_cons.mpr ⟨sq120_22, List.forall_mem_cons.mpr ⟨sq120_25, (fun _ h => absurd h List.not_mem_nil)⟩⟩⟩⟩⟩)
