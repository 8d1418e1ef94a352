theorem sq275_119 : sq 275 119 B275_119 := sq_take 2 (e := 120) (by decide +kernel) True.intro
theorem sq275_111 : sq 275 111 B275_111 := sq_take 5 (e := 119) (by decide +kernel) sq275_119
theorem sq275_96 : sq 275 96 B275_96 := sq_take 8 (e := 111) (by decide +kernel) sq275_111
theorem sq275_81 : sq 275 81 B275_81 := sq_take 8 (e := 96) (by decide +kernel) sq275_96
theorem sq275_77 : sq 275 77 B275_77 := sq_take 2 (e := 81) (by decide +kernel) sq275_81
theorem sq275_67 : sq 275 67 B275_67 := sq_take 5 (e := 77) (by decide +kernel) True.intro
theorem sq275_52 : sq 275 52 B275_52 := sq_take 8 (e := 67) (by decide +kernel) sq275_67
theorem sq275_48 : sq 275 48 B275_48 := sq_take 2 (e := 52) (by decide +kernel) sq275_52
theorem sq275_38 : sq 275 38 B275_38 := sq_take 5 (e := 48) (by decide +kernel) True.intro
theorem sq275_0 : sq 275 0 B275_0 := sq_take 21 (e := 38) (by decide +kernel) sq275_38
set_option maxRecDepth 100000 in
theorem sqM_275 : ∀ b, sq 275 b (tG 275 b) := show ∀ b, sq 275 b (lkB tb275 b) from lkB_sq (List.forall_mem_cons.mpr ⟨sq275_0, List.forall_mem_cons.mpr ⟨sq275_38, List.forall_mem_cons.mpr ⟨sq275_48, List.forall_mem_cons.mpr ⟨sq275_52, List.forall_mem_cons.mpr ⟨sq275_67, List.forall_mem_cons.mpr ⟨sq275_77, List.forall_mem_cons.mpr ⟨sq275_81, List.forall_mem_cons.mpr ⟨sq275_96, List.forall_mem_cons.mpr ⟨sq275_111, List.forall_mem_cons.mpr ⟨sq275_119, (fun _ h => absurd h List.not_mem_nil)⟩⟩⟩⟩⟩⟩⟩⟩⟩⟩)
theorem sq276_34 : sq 276 34 B276_34 := sq_take 2 (e := 35) (by decide +kernel) True.intro
theorem sq276_25 : sq 276 25 B276_25 := sq_take 6 (e := 34) (by decide +kernel) sq276_34
theorem sq276_14 : sq 276 14 B276_14 := sq_take 6 (e := 25) (by decide +kernel) sq276_25
theorem sq276_4 : sq 276 4 B276_4 := sq_take 7 (e := 14) (by decide +kernel) sq276_14
theorem sq276_0 : sq 276 0 B276_0 := sq_take 3 (e := 4) (by decide +kernel) sq276_4
set_option maxRecDepth 100000 in
theorem sqM_276 : ∀ b, sq 276 b (tG 276 b) := show ∀ b, sq 276 b (lkB tb276 b) from lkB_sq (List.forall_mem_cons.mpr ⟨sq276_0, List.forall_mem_cons.mpr ⟨sq276_4, List.forall_mem_cons.mpr ⟨sq276_14, List.forall_mem_cons.mpr ⟨sq276_25, List.forall_mem_cons.mpr ⟨sq276_34, (fun _ h => absurd h List.not_mem_nil)⟩⟩⟩⟩⟩)
theorem sq277_88 : sq 277 88 B277_88 := sq_take 3 (e := 93) (by decide +kernel) True.intro
theorem sq277_87 : sq 277 87 B277_87 := sq_take 1 (e := 88) (by decide +kernel) sq277_88
theorem sq277_65 : sq 277 65 B277_65 := sq_take 13 (e := 87) (by decide +kernel) True.intro
theorem sq277_64 : sq 277 64 B277_64 := sq_take 1 (e := 65) (by decide +kernel) sq277_65
theorem sq277_42 : sq 277 42 B277_42 := sq_take 13 (e := 64) (by decide +kernel) True.intro
theorem sq277_41 : sq 277 41 B277_41 := sq_take 1 (e := 42) (by decide +kernel) sq277_42
theorem sq277_19 : sq 277 19 B277_19 := sq_take 13 (e := 41) (by decide +kernel) True.intro
theorem sq277_18 : sq 277 18 B277_18 := sq_take 1 (e := 19) (by decide +kernel) sq277_19
theorem sq277_0 : sq 277 0 B277_0 := sq_take 11 (e := 18) (by decide +kernel) True.intro
set_option maxRecDepth 100000 in
theorem sqM_277 : ∀ b, sq 277 b (tG 277 b) := show ∀ b, sq 277 b (lkB tb277 b) from lkB_sq (List.forall_mem_cons.mpr ⟨sq277_0, List.forall_mem_cons.mpr ⟨sq277_18, List.forall_mem_cons.mpr ⟨sq277_19, List.forall_mem_cons.mpr ⟨sq277_41, List.forall_mem_cons.mpr ⟨sq277_42, List.forall_mem_cons.mpr ⟨sq277_64, List.forall_mem_cons.mpr ⟨sq277_65, List.forall_mem_cons.mpr ⟨sq277_87, List.forall_mem_cons.mpr ⟨sq277_88, (fun _ h => absurd h List.not_mem_nil)⟩⟩⟩⟩⟩⟩⟩⟩⟩)
theorem sq278_67 : sq 278 67 B278_67 := sq_take 28 (e := 118) (by decide +kernel) True.intro
theorem sq278_21 : sq 278 21 B278_21 := sq_take 23 (e := 67) (by decide +kernel) sq278_67
theorem sq278_11 : sq 278 11 B278_11 := sq_take 4 (e := 21) (by decide +kernel) sq278_21
theorem sq278_7 : sq 278 7 B278_7 := sq_take 3 (e := 11) (by decide +kernel) True.intro
theorem sq278_0 : sq 278 0 B278_0 := sq_take 4 (e := 7) (by decide +kernel) sq278_7
set_option maxRecDepth 100000 in
theorem sqM_278 : ∀ b, sq 278 b (tG 278 b) := show ∀ b, sq 278 b (lkB tb278 b) from lkB_sq (List.forall_mem_cons.mpr ⟨sq278_0, List.forall_mem_cons.mpr ⟨sq278_7, List.forall_mem_cons.mpr ⟨sq278_11, List.forall_mem_cons.mpr ⟨sq278_21, List.forall_mem_cons.mpr ⟨sq278_67, (fun _ h => absurd h List.not_mem_nil)⟩⟩⟩⟩⟩)
theorem sq279_119 : sq 279 119 B279_119 := sq_take 1 (e := 120) (by decide +kernel) True.intro
theorem sq279_116 : sq 279 116 B279_116 := sq_take 2 (e := 119) (by decide +kernel) sq279_119
theorem sq279_114 : sq 279 114 B279_114 := sq_take 1 (e := 116) (by decide +kernel) sq279_116
theorem sq279_104 : sq 279 104 B279_104 := sq_take 5 (e := 114) (by decide +kernel) True.intro
theorem sq279_91 : sq 279 91 B279_91 := sq_take 7 (e := 104) (by decide +kernel) sq279_104
theorem sq279_87 : sq 279 87 B279_87 := sq_take 2 (e := 91) (by decide +kernel) sq279_91
theorem sq279_79 : sq 279 79 B279_79 := sq_take 4 (e := 87) (by decide +kernel) True.intro
theorem sq279_51 : sq 279 51 B279_51 := sq_take 17 (e := 79) (by decide +kernel) sq279_79
theorem sq279_45 : sq 279 45 B279_45 := sq_take 3 (e := 51) (by decide +kernel) True.intro
theorem sq279_32 : sq 279 32 B279_32 := sq_take 7 (e := 45) (by decide +kernel) sq279_45
theorem sq279_0 : sq 279 0 B279_0 := sq_take 20 (e := 32) (by decide +kernel) sq279_32
set_option maxRecDepth 100000 in
theorem sqM_279 : ∀ b, sq 279 b (tG 279 b) := show ∀ b, sq 279 b (lkB tb279 b) from lkB_sq (List.forall_mem_cons.mpr ⟨sq279_0, List.forall_mem_cons.mpr ⟨sq279_32, List.forall_mem_cons.mpr ⟨sq279_45, List.forall_mem_cons.mpr ⟨sq279_51, List.forall_mem_cons.mpr ⟨sq279_79, List.forall_mem_cons.mpr ⟨sq279_87, List.forall_mem_cons.mpr ⟨sq279_91, List.forall_mem_cons.mpr ⟨sq279_104, List.forall_mem_cons.mpr ⟨sq279_114, List.forall_mem_cons.mpr ⟨sq279_116, List.forall_mem_cons.mpr ⟨sq279_119, (fun _ h => absurd h List.not_mem_nil)⟩⟩⟩⟩⟩⟩⟩⟩⟩⟩⟩)
theorem sq280_197 : sq 280 197 B280_197 := sq_take 1 (e := 198) (by decide +kernel) True.intro
theorem sq280_192 : sq 280 192 B280_192 := sq_take 3 (e := 197) (by decide +kernel) sq280_197
theorem sq280_189 : sq 280 189 B280_189 := sq_take 2 (e := 192) (by decide +kernel) True.intro
theorem sq280_167 : sq 280 167 B280_167 := sq_take 11 (e := 189) (by decide +kernel) sq280_189
theorem sq280_164 : sq 280 164 B280_164 := sq_take 2 (e := 167) (by decide +kernel) True.intro
theorem sq280_135 : sq 280 135 B280_135 := sq_take 16 (e := 164) (by decide +kernel) sq280_164
theorem sq280_132 : sq 280 132 B280_132 := sq_take 2 (e := 135) (by decide +kernel) True.intro
theorem sq280_115 : sq 280 115 B280_115 := sq_take 10 (e := 132) (by decide +kernel) sq280_132
theorem sq280_98 : sq 280 98 B280_98 := sq_take 10 (e := 115) (by decide +kernel) sq280_115
theorem sq280_85 : sq 280 85 B280_85 := sq_take 7 (e := 98) (by decide +kernel) sq280_98
theorem sq280_83 : sq 280 83 B280_83 := sq_take 2 (e := 85) (by decide +kernel) sq280_85
theorem sq280_82 : sq 280 82 B280_82 := sq_take 2 (e := 83) (by decide +kernel) sq280_83
theorem sq280_70 : sq 280 70 B280_70 := sq_take 6 (e := 82) (by decide +kernel) True.intro
theorem sq280_62 : sq 280 62 B280_62 := sq_take 5 (e := 70) (by decide +kernel) sq280_70
theorem sq280_61 : sq 280 61 B280_61 := sq_take 2 (e := 62) (by decide +kernel) sq280_62
theorem sq280_50 : sq 280 50 B280_50 := sq_take 6 (e := 61) (by decide +kernel) True.intro
theorem sq280_37 : sq 280 37 B280_37 := sq_take 7 (e := 50) (by decide +kernel) sq280_50
theorem sq280_29 : sq 280 29 B280_29 := sq_take 5 (e := 37) (by decide +kernel) sq280_37
theorem sq280_21 : sq 280 21 B280_21 := sq_take 5 (e := 29) (by decide +kernel) sq280_29
theorem sq280_20 : sq 280 20 B280_20 := sq_take 1 (e := 21) (by decide +kernel) sq280_21
theorem sq280_13 : sq 280 13 B280_13 := sq_take 4 (e := 20) (by decide +kernel) True.intro
theorem sq280_9 : sq 280 9 B280_9 := sq_take 3 (e := 13) (by decide +kernel) sq280_13
theorem sq280_6 : sq 280 6 B280_6 := sq_take 2 (e := 9) (by decide +kernel) sq280_9
theorem sq280_0 : sq 280 0 B280_0 := sq_take 5 (e := 6) (by decide +kernel) sq280_6
set_option maxRecDepth 100000 in
theorem sqM_280 : ∀ b, sq 280 b (tG 280 b) := show ∀ b, sq 280 b (lkB tb280 b) from lkB_sq (List.forall_mem_cons.mpr ⟨sq280_0, List.forall_mem_cons.mpr ⟨sq280_6, List.forall_mem_cons.mpr ⟨sq280_9, List.forall_mem_cons.mpr ⟨sq280_13, List.forall_mem_cons.mpr ⟨sq280_20, List.forall_mem_cons.mpr ⟨sq280_21, List.forall_mem_cons.mpr ⟨sq280_29, List.forall_mem_cons.mpr ⟨sq280_37, List.forall_mem_cons.mpr ⟨sq280_50, List.forall_mem_cons.mpr ⟨sq280_61, List.forall_mem_cons.mpr ⟨sq280_62, List.forall_mem_cons.mpr ⟨sq280_70, List.forall_mem_cons.mpr ⟨sq280_82, List.forall_mem_cons.mpr ⟨sq280_83, List.forall_mem_cons.mpr ⟨sq280_85, List.forall_mem_cons.mpr ⟨sq280_98, List.forall_mem_cons.mpr ⟨sq280_115, List.forall_mem_cons.mpr ⟨sq280_132, List.forall_mem_cons.mpr ⟨sq280_135, List.forall_mem_cons.mpr ⟨sq280_164, List.forall_mem_cons.mpr ⟨sq280_167, List.forall_mem_cons.mpr ⟨sq280_189, List.forall_mem_cons.mpr ⟨sq280_192, List.forall_mem_cons.mpr ⟨sq280_197, (fun _ h => absurd h List.not_mem_nil)⟩⟩⟩⟩⟩⟩⟩⟩⟩⟩⟩⟩⟩⟩⟩⟩⟩⟩⟩⟩⟩⟩⟩⟩)
theorem sq281_23 : sq 281 23 B281_23 := sq_take 2 (e := 24) (by decide +kernel) True.intro
theorem sq281_19 : sq 281 19 B281_19 := sq_take 3 (e := 23) (by decide +kernel) sq281_23
theorem sq281_9 : sq 281 9 B281_9 := sq_take 6 (e := 19) (by decide +kernel) sq281_19
theorem sq281_5 : sq 281 5 B281_5 := sq_take 3 (e := 9) (by decide +kernel) sq281_9
theorem sq281_0 : sq 281 0 B281_0 := sq_take 4 (e := 5) (by decide +kernel) sq281_5
set_option maxRecDepth 100000 in
theorem sqM_281 : ∀ b, sq 281 b (tG 281 b) := show ∀ b, sq 281 b (lkB tb281 b) from lkB_sq (List.forall_mem_cons.mpr ⟨sq281_0, List.forall_mem_cons.mpr ⟨sq281_5, List.forall_mem_cons.mpr ⟨sq281_9, List.forall_mem_cons.mpr ⟨sq281_19, List.forall_mem_cons.mpr ⟨sq281_23, (fun _ h => absurd h List.not_mem_nil)⟩⟩⟩⟩⟩)
theorem sq282_124 : sq 282 124 B282_124 := sq_take 2 (e := 128) (by decide +kernel) True.intro
theorem sq282_120 : sq 282 120 B282_120 := sq_take 2 (e := 124) (by decide +kernel) True.intro
theorem sq282_116 : sq 282 116 B282_116 := sq_take 2 (e := 120) (by decide +kernel) True.intro
theorem sq282_112 : sq 282 112 B282_112 := sq_take 2 (e := 116) (by decide +kernel) True.intro
theorem sq282_108 : sq 282 108 B282_108 := sq_take 2 (e := 112) (by decide +kernel) True.intro
theorem sq282_104 : sq 282 104 B282_104 := sq_take 2 (e := 108) (by decide +kernel) True.intro
theorem sq282_100 : sq 282 100 B282_100 := sq_take 2 (e := 104) (by decide +kernel) True.intro
theorem sq282_96 : sq 282 96 B282_96 := sq_take 2 (e := 100) (by decide +kernel) True.intro
theorem sq282_92 : sq 282 92 B282_92 := sq_take 2 (e := 96) (by decide +kernel) True.intro
theorem sq282_0 : sq 282 0 B282_0 := sq_take 3 (e := 92) (by decide +kernel) True.intro
set_option maxRecDepth 100000 in
theorem sqM_282 : ∀ b, sq 282 b (tG 282 b) := show ∀ b, sq 282 b (lkB tb282 b) from lkB_sq (List.forall_mem_cons.mpr ⟨sq282_0, List.forall_mem_cons.mpr ⟨sq282_92, List.forall_mem_cons.mpr ⟨sq282_96, List.forall_mem_cons.mpr ⟨sq282_100, List.forall_mem_cons.mpr ⟨sq282_104, List.forall_mem_cons.mpr ⟨sq282_108, List.forall_mem_cons.mpr ⟨sq282_112, List.forall_mem_cons.mpr ⟨sq282_116, List.forall_mem_cons.mpr ⟨sq282_120, List.forall_mem_cons.mpr ⟨sq282_124, (fun _ h => absurd h List.not_mem_nil)⟩⟩⟩⟩⟩⟩⟩⟩⟩⟩)
theorem sq283_124 : sq 283 124 B283_124 := sq_take 2 (e := 125) (by decide +kernel) True.intro
theorem sq283_119 : sq 283 119 B283_119 := sq_take 4 (e := 124) (by decide +kernel) sq283_124
theorem sq283_100 : sq 283 100 B283_100 := sq_take 10 (e := 119) (by decide +kernel) True.intro
theorem sq283_80 : sq 283 80 B283_80 := sq_take 10 (e := 100) (by decide +kernel) True.intro
theorem sq283_74 : sq 283 74 B283_74 := sq_take 2 (e := 80) (by decide +kernel) True.intro
theorem sq283_64 : sq 283 64 B283_64 := sq_take 6 (e := 74) (by decide +kernel) True.intro
theorem sq283_61 : sq 283 61 B283_61 := sq_take 2 (e := 64) (by decide +kernel) sq283_64
theorem sq283_54 : sq 283 54 B283_54 := sq_take 6 (e := 61) (by decide +kernel) sq283_61
theorem sq283_48 : sq 283 48 B283_48 := sq_take 4 (e := 54) (by decide +kernel) sq283_54
theorem sq283_35 : sq 283 35 B283_35 := sq_take 8 (e := 48) (by decide +kernel) sq283_48
theorem sq283_28 : sq 283 28 B283_28 := sq_take 6 (e := 35) (by decide +kernel) sq283_35
theorem sq283_26 : sq 283 26 B283_26 := sq_take 3 (e := 28) (by decide +kernel) sq283_28
theorem sq283_9 : sq 283 9 B283_9 := sq_take 10 (e := 26) (by decide +kernel) True.intro
theorem sq283_4 : sq 283 4 B283_4 := sq_take 4 (e := 9) (by decide +kernel) sq283_9
theorem sq283_0 : sq 283 0 B283_0 := sq_take 3 (e := 4) (by decide +kernel) sq283_4
set_option maxRecDepth 100000 in
theorem sqM_283 : ∀ b, sq 283 b (tG 283 b) := show ∀ b, sq 283 b (lkB tb283 b) from lkB_sq (List.forall_mem_cons.mpr ⟨sq283_0, List.forall_mem_cons.mpr ⟨sq283_4, List.forall_mem_cons.mpr ⟨sq283_9, List.forall_mem_cons.mpr ⟨sq283_26, List.forall_mem_cons.mpr ⟨sq283_28, List.forall_mem_cons.mpr ⟨sq283_35, List.forall_mem_cons.mpr ⟨sq283_48, List.forall_mem_cons.mpr ⟨sq283_54, List.forall_mem_cons.mpr ⟨sq283_61, List.forall_mem_cons.mpr ⟨sq283_64, List.forall_mem_cons.mpr ⟨sq283_74, List.forall_mem_cons.mpr ⟨sq283_80, List.forall_mem_cons.mpr ⟨sq283_100, List.forall_mem_cons.mpr ⟨sq283_119, List.forall_mem_cons.mpr ⟨sq283_124, (fun _ h => absurd h List.not_mem_nil)⟩⟩⟩⟩⟩⟩⟩⟩⟩⟩⟩⟩⟩⟩⟩)
theorem sq284_187 : sq 284 187 B284_187 := sq_take 1 (e := 188) (by decide +kernel) True.intro
theorem sq284_185 : sq 284 185 B284_185 := sq_take 1 (e := 187) (by decide +kernel) sq284_187
theorem sq284_178 : sq 284 178 B284_178 := sq_take 4 (e := 185) (by decide +kernel) True.intro
theorem sq284_171 : sq 284 171 B284_171 := sq_take 5 (e := 178) (by decide +kernel) sq284_178
theorem sq284_170 : sq 284 170 B284_170 := sq_take 1 (e := 171) (by decide +kernel) True.intro
theorem sq284_169 : sq 284 169 B284_169 := sq_take 1 (e := 170) (by decide +kernel) sq284_170
theorem sq284_162 : sq 284 162 B284_162 := sq_take 4 (e := 169) (by decide +kernel) True.intro
theorem sq284_156 : sq 284 156 B284_156 := sq_take 5 (e := 162) (by decide +kernel) sq284_162
theorem sq284_138 : sq 284 138 B284_138 := sq_take 10 (e := 156) (by decide +kernel) sq284_156
theorem sq284_130 : sq 284 130 B284_130 := sq_take 5 (e := 138) (by decide +kernel) True.intro
theorem sq284_129 : sq 284 129 B284_129 := sq_take 2 (e := 130) (by decide +kernel) True.intro
theorem sq284_123 : sq 284 123 B284_123 := sq_take 5 (e := 129) (by decide +kernel) sq284_129
theorem sq284_106 : sq 284 106 B284_106 := sq_take 9 (e := 123) (by decide +kernel) sq284_123
theorem sq284_105 : sq 284 105 B284_105 := sq_take 2 (e := 106) (by decide +kernel) True.intro
theorem sq284_100 : sq 284 100 B284_100 := sq_take 4 (e := 105) (by decide +kernel) sq284_105
theorem sq284_87 : sq 284 87 B284_87 := sq_take 7 (e := 100) (by decide +kernel) sq284_100
theorem sq284_86 : sq 284 86 B284_86 := sq_take 2 (e := 87) (by decide +kernel) True.intro
theorem sq284_81 : sq 284 81 B284_81 := sq_take 4 (e := 86) (by decide +kernel) sq284_86
theorem sq284_68 : sq 284 68 B284_68 := sq_take 7 (e := 81) (by decide +kernel) sq284_81
theorem sq284_25 : sq 284 25 B284_25 := sq_take 2 (e := 68) (by decide +kernel) True.intro
theorem sq284_19 : sq 284 19 B284_19 := sq_take 4 (e := 25) (by decide +kernel) True.intro
theorem sq284_15 : sq 284 15 B284_15 := sq_take 2 (e := 19) (by decide +kernel) sq284_19
theorem sq284_8 : sq 284 8 B284_8 := sq_take 6 (e := 15) (by decide +kernel) True.intro
theorem sq284_0 : sq 284 0 B284_0 := sq_take 5 (e := 8) (by decide +kernel) sq284_8
set_option maxRecDepth 100000 in
theorem sqM_284 : ∀ b, sq 284 b (tG 284 b) := show ∀ b, sq 284 b (lkB tb284 b) from lkB_sq (List.forall_mem_cons.mpr ⟨sq284_0, List.forall_mem_cons.mpr ⟨sq284_8, List.forall_mem_cons.mpr ⟨sq284_15, List.forall_mem_cons.mpr ⟨sq284_19, List.forall_mem_cons.mpr ⟨sq284_25, List.forall_mem_cons.mpr ⟨sq284_68, List.forall_mem_cons.mpr ⟨sq284_81, List.forall_mem_cons.mpr ⟨sq284_86, List.forall_mem_cons.mpr ⟨sq284_87, List.forall_mem_cons.mpr ⟨sq284_100, List.forall_mem_cons.mpr ⟨sq284_105, List.forall_mem_cons.mpr ⟨sq284_106, List.forall_mem_cons.mpr ⟨sq284_123, List.forall_mem_cons.mpr ⟨sq284_129, List.forall_mem_cons.mpr ⟨sq284_130, List.forall_mem_cons.mpr ⟨sq284_138, List.forall_mem_cons.mpr ⟨sq284_156, List.forall_mem_cons.mpr ⟨sq284_162, List.forall_mem_cons.mpr ⟨sq284_169, List.forall_mem_cons.mpr ⟨sq284_170, List.forall_mem_cons.mpr ⟨sq284_171, List.forall_mem_cons.mpr ⟨sq284_178, List.forall_mem_cons.mpr ⟨sq284_185, List.forall_mem_cons.mpr ⟨sq284_187, (fun _ h => absurd h List.not_mem_nil)⟩⟩⟩⟩⟩⟩⟩⟩⟩⟩⟩⟩⟩⟩⟩⟩⟩⟩⟩⟩⟩⟩⟩⟩)
theorem sq285_15 : sq 285 15 B285_15 := sq_take 8 (e := 24) (by decide +kernel) True.intro
theorem sq285_0 : sq 285 0 B285_0 := sq_take 8 (e := 15) (by decide +kernel) sq285_15
set_option maxRecDepth 100000 in
theorem sqM_285 : ∀ b, sq 285 b (tG 285 b) := show ∀ b, sq 285 b (lkB tb285 b) from lkB_sq (List.forall_mem_cons.mpr ⟨sq285_0, List.forall_mem_cons.mpr ⟨sq285_15, (fun _ h => absurd h List.not_mem_nil)⟩⟩)
theorem sq286_348 : sq 286 348 B286_348 := sq_take 1 (e := 349) (by decide +kernel) True.intro
theorem sq286_347 : sq 286 347 B286_347 := sq_take 1 (e := 348) (by decide +kernel) sq286_348
theorem sq286_338 : sq 286 338 B286_338 := sq_take 5 (e := 347) (by decide +kernel) True.intro
theorem sq286_337 : sq 286 337 B286_337 := sq_take 1 (e := 338) (by decide +kernel) True.intro
theorem sq286_336 : sq 286 336 B286_336 := sq_take 2 (e := 337) (by decide +kernel) sq286_337
theorem sq286_292 : sq 286 292 B286_292 := sq_take 29 (e := 336) (by decide +kernel) True.intro
theorem sq286_291 : sq 286 291 B286_291 := sq_take 1 (e := 292) (by decide +kernel) True.intro
theorem sq286_290 : sq 286 290 B286_290 := sq_take 2 (e := 291) (by decide +kernel) sq286_291
theorem sq286_246 : sq 286 246 B286_246 := sq_take 29 (e := 290) (by decide +kernel) True.intro
theorem sq286_245 : sq 286 245 B286_245 := sq_take 1 (e := 246) (by decide +kernel) True.intro
theorem sq286_244 : sq 286 244 B286_244 := sq_take 2 (e := 245) (by decide +kernel) sq286_245
theorem sq286_237 : sq 286 237 B286_237 := sq_take 4 (e := 244) (by decide +kernel) True.intro
theorem sq286_224 : sq 286 224 B286_224 := sq_take 7 (e := 237) (by decide +kernel) sq286_237
theorem sq286_223 : sq 286 223 B286_223 := sq_take 1 (e := 224) (by decide +kernel) True.intro
theorem sq286_222 : sq 286 222 B286_222 := sq_take 2 (e := 223) (by decide +kernel) sq286_223
theorem sq286_215 : sq 286 215 B286_215 := sq_take 4 (e := 222) (by decide +kernel) True.intro
theorem sq286_202 : sq 286 202 B286_202 := sq_take 7 (e := 215) (by decide +kernel) sq286_215
theorem sq286_201 : sq 286 201 B286_201 := sq_take 1 (e := 202) (by decide +kernel) True.intro
theorem sq286_200 : sq 286 200 B286_200 := sq_take 1 (e := 201) (by decide +kernel) sq286_201
theorem sq286_191 : sq 286 191 B286_191 := sq_take 5 (e := 200) (by decide +kernel) True.intro
theorem sq286_190 : sq 286 190 B286_190 := sq_take 1 (e := 191) (by decide +kernel) True.intro
theorem sq286_189 : sq 286 189 B286_189 := sq_take 2 (e := 190) (by decide +kernel) sq286_190
theorem sq286_182 : sq 286 182 B286_182 := sq_take 4 (e := 189) (by decide +kernel) True.intro
theorem sq286_167 : sq 286 167 B286_167 := sq_take 8 (e := 182) (by decide +kernel) sq286_182
theorem sq286_166 : sq 286 166 B286_166 := sq_take 1 (e := 167) (by decide +kernel) True.intro
theorem sq286_165 : sq 286 165 B286_165 := sq_take 2 (e := 166) (by decide +kernel) sq286_166
theorem sq286_158 : sq 286 158 B286_158 := sq_take 4 (e := 165) (by decide +kernel) True.intro
theorem sq286_143 : sq 286 143 B286_143 := sq_take 8 (e := 158) (by decide +kernel) sq286_158
theorem sq286_142 : sq 286 142 B286_142 := sq_take 1 (e := 143) (by decide +kernel) True.intro
theorem sq286_141 : sq 286 141 B286_141 := sq_take 2 (e := 142) (by decide +kernel) sq286_142
theorem sq286_134 : sq 286 134 B286_134 := sq_take 4 (e := 141) (by decide +kernel) True.intro
theorem sq286_120 : sq 286 120 B286_120 := sq_take 7 (e := 134) (by decide +kernel) sq286_134
theorem sq286_0 : sq 286 0 B286_0 := sq_take 14 (e := 120) (by decide +kernel) True.intro
set_option maxRecDepth 100000 in
theorem sqM_286 : ∀ b, sq 286 b (tG 286 b) := show ∀ b, sq 286 b (lkB tb286 b) from lkB_sq (List.forall_mem_cons.mpr ⟨sq286_0, List.forall_mem_cons.mpr ⟨sq286_120, List.forall_mem_cons.mpr ⟨sq286_134, List.forall_mem_cons.mpr ⟨sq286_141, List.forall_mem_cons.mpr ⟨sq286_142, List.forall_mem_cons.mpr ⟨sq286_143, List.forall_mem_cons.mpr ⟨sq286_158, List.forall_mem_cons.mpr ⟨sq286_165, List.forall_mem_cons.mpr ⟨sq286_166, List.forall_mem_cons.mpr ⟨sq286_167, List.forall_mem_cons.mpr ⟨sq286_182, List.forall_mem_cons.mpr ⟨sq286_189, List.forall_mem_cons.mpr ⟨sq286_190, List.forall_mem_cons.mpr ⟨sq286_191, List.forall_mem_cons.mpr ⟨sq286_200, List.forall_mem_cons.mpr ⟨sq286_201, List.forall_mem_cons.mpr ⟨sq286_202, List.forall_mem_cons.mpr ⟨sq286_215, List.forall_mem_cons.mpr ⟨sq286_222, List.forall_mem_cons.mpr ⟨sq286_223, List.forall_mem_cons.mpr ⟨sq286_224, List.forall_mem_cons.mpr ⟨sq286_237, List.forall_mem_cons.mpr ⟨sq286_244, List.forall_mem_cons.mpr ⟨sq286_245, List.forall_mem_cons.mpr ⟨sq286_246, List.forall_mem_cons.mpr ⟨sq286_290, List.forall_mem_cons.mpr ⟨sq286_291, List.forall_mem_cons.mpr ⟨sq286_292, List.forall_mem_cons.mpr ⟨sq286_336, List.forall_mem_cons.mpr ⟨sq286_337, List.forall_mem_cons.mpr ⟨sq286_338, List.forall_mem_cons.mpr ⟨sq286_347, List.forall_mem_cons.mpr ⟨sq286_348, (fun _ h => absurd h List.not_mem_nil)⟩⟩⟩⟩⟩⟩⟩⟩⟩⟩⟩⟩⟩⟩⟩⟩⟩⟩⟩⟩⟩⟩⟩⟩⟩⟩⟩⟩⟩⟩⟩⟩⟩)
theorem sq287_39 : sq 287 39 B287_39 := sq_take 1 (e := 40) (by decide +kernel) True.intro
theorem sq287_38 : sq 287 38 B287_38 := sq_take 2 (e := 39) (by decide +kernel) sq287_39
theorem sq287_31 : sq 287 31 B287_31 := sq_take 4 (e := 38) (by decide +kernel) True.intro
theorem sq287_0 : sq 287 0 B287_0 := sq_take 20 (e := 31) (by decide +kernel) sq287_31
set_option maxRecDepth 100000 in
theorem sqM_287 : ∀ b, sq 287 b (tG 287 b) := show ∀ b, sq 287 b (lkB tb287 b) from lkB_sq (List.forall_mem_cons.mpr ⟨sq287_0, List.forall_mem_cons.mpr ⟨sq287_31, List.forall_mem_cons.mpr ⟨sq287_38, List.forall_mem_cons.mpr ⟨sq287_39, (fun _ h => absurd h List.not_mem_nil)⟩⟩⟩⟩)
theorem sq288_77 : sq 288 77 B288_77 := sq_take 2 (e := 79) (by decide +kernel) True.intro
theorem sq288_71 : sq 288 71 B288_71 := sq_take 4 (e := 77) (by decide +kernel) True.intro
theorem sq288_33 : sq 288 33 B288_33 := sq_take 21 (e := 71) (by decide +kernel) sq288_71
theorem sq288_28 : sq 288 28 B288_28 := sq_take 4 (e := 33) (by decide +kernel) True.intro
theorem sq288_21 : sq 288 21 B288_21 := sq_take 5 (e := 28) (by decide +kernel) sq288_28
theorem sq288_15 : sq 288 15 B288_15 := sq_take 4 (e := 21) (by decide +kernel) True.intro
theorem sq288_8 : sq 288 8 B288_8 := sq_take 4 (e := 15) (by decide +kernel) sq288_15
theorem sq288_0 : sq 288 0 B288_0 := sq_take 5 (e := 8) (by decide +kernel) sq288_8
set_option maxRecDepth 100000 in
theorem sqM_288 : ∀ b, sq 288 b (tG 288 b) := show ∀ b, sq 288 b (lkB tb288 b) from lkB_sq (List.forall_mem_cons.mpr ⟨sq288_0, List.forall_mem_cons.mpr ⟨sq288_8, List.forall_mem_cons.mpr ⟨sq288_15, List.forall_mem_cons.mpr ⟨sq288_21, List.forall_mem_cons.mpr ⟨sq288_28, List.forall_mem_cons.mpr ⟨sq288_33, List.forall_mem_cons.mpr ⟨sq288_71, List.forall_mem_cons.mpr ⟨sq288_77, (fun _ h => absurd h List.not_mem_nil)⟩⟩⟩⟩⟩⟩⟩⟩)
theorem sq289_224 : sq 289 224 B289_224 := sq_take 3 (e := 226) (by decide +kernel) True.intro
theorem sq289_211 : sq 289 211 B289_211 := sq_take 7 (e := 224) (by decide +kernel) sq289_224
theorem sq289_208 : sq 289 208 B289_208 := sq_take 2 (e := 211) (by decide +kernel) sq289_211
theorem sq289_206 : sq 289 206 B289_206 := sq_take 1 (e := 208) (by decide +kernel) sq289_208
theorem sq289_192 : sq 289 192 B289_192 := sq_take 7 (e := 206) (by decide +kernel) True.intro
theorem sq289_191 : sq 289 191 B289_191 := sq_take 1 (e := 192) (by decide +kernel) True.intro
theorem sq289_189 : sq 289 189 B289_189 := sq_take 1 (e := 191) (by decide +kernel) sq289_191
theorem sq289_182 : sq 289 182 B289_182 := sq_take 4 (e := 189) (by decide +kernel) True.intro
theorem sq289_171 : sq 289 171 B289_171 := sq_take 6 (e := 182) (by decide +kernel) sq289_182
theorem sq289_168 : sq 289 168 B289_168 := sq_take 2 (e := 171) (by decide +kernel) sq289_171
theorem sq289_147 : sq 289 147 B289_147 := sq_take 10 (e := 168) (by decide +kernel) sq289_168
theorem sq289_144 : sq 289 144 B289_144 := sq_take 2 (e := 147) (by decide +kernel) True.intro
theorem sq289_141 : sq 289 141 B289_141 := sq_take 2 (e := 144) (by decide +kernel) sq289_144
theorem sq289_119 : sq 289 119 B289_119 := sq_take 13 (e := 141) (by decide +kernel) sq289_141
theorem sq289_111 : sq 289 111 B289_111 := sq_take 5 (e := 119) (by decide +kernel) sq289_119
theorem sq289_104 : sq 289 104 B289_104 := sq_take 4 (e := 111) (by decide +kernel) sq289_111
theorem sq289_95 : sq 289 95 B289_95 := sq_take 5 (e := 104) (by decide +kernel) sq289_104
theorem sq289_81 : sq 289 81 B289_81 := sq_take 6 (e := 95) (by decide +kernel) sq289_95
theorem sq289_78 : sq 289 78 B289_78 := sq_take 2 (e := 81) (by decide +kernel) True.intro
theorem sq289_65 : sq 289 65 B289_65 := sq_take 6 (e := 78) (by decide +kernel) sq289_78
theorem sq289_62 : sq 289 62 B289_62 := sq_take 2 (e := 65) (by decide +kernel) True.intro
theorem sq289_37 : sq 289 37 B289_37 := sq_take 15 (e := 62) (by decide +kernel) sq289_62
theorem sq289_17 : sq 289 17 B289_17 := sq_take 13 (e := 37) (by decide +kernel) sq289_37
theorem sq289_8 : sq 289 8 B289_8 := sq_take 6 (e := 17) (by decide +kernel) sq289_17
theorem sq289_0 : sq 289 0 B289_0 := sq_take 5 (e := 8) (by decide +kernel) sq289_8
set_option maxRecDepth 100000 in
theorem sqM_289 : ∀ b, sq 289 b (tG 289 b) := show ∀ b, sq 289 b (lkB tb289 b) from lkB_sq (List.forall_mem_cons.mpr ⟨sq289_0, List.forall_mem_cons.mpr ⟨sq289_8, List.forall_mem_cons.mpr ⟨sq289_17, List.forall_mem_cons.mpr ⟨sq289_37, List.forall_mem_cons.mpr ⟨sq289_62, List.forall_mem_cons.mpr ⟨sq289_65, List.forall_mem_cons.mpr ⟨sq289_78, List.forall_mem_cons.mpr ⟨sq289_81, List.forall_mem_cons.mpr ⟨sq289_95, List.forall_mem_cons.mpr ⟨sq289_104, List.forall_mem_cons.mpr ⟨sq289_111, List.forall_mem_cons.mpr ⟨sq289_119, List.forall_mem_cons.mpr ⟨sq289_141, List.forall_mem_cons.mpr ⟨sq289_144, List.forall_mem_cons.mpr ⟨sq289_147, List.forall_mem_cons.mpr ⟨sq289_168, List.forall_mem_cons.mpr ⟨sq289_171, List.forall_mem_cons.mpr ⟨sq289_182, List.forall_mem_cons.mpr ⟨sq289_189, List.forall_mem_cons.mpr ⟨sq289_191, List.forall_mem_cons.mpr ⟨sq289_192, List.forall_mem_cons.mpr ⟨sq289_206, List.forall_mem_cons.mpr ⟨sq289_208, List.forall_mem_cons.mpr ⟨sq289_211, List.forall_mem_cons.mpr ⟨sq289_224, (fun _ h => absurd h List.not_mem_nil)⟩⟩⟩⟩⟩⟩⟩⟩⟩⟩⟩⟩⟩⟩⟩⟩⟩⟩⟩⟩⟩⟩⟩⟩⟩)
theorem sq290_95 : sq 290 95 B290_95 := sq_take 2 (e := 96) (by decide +kernel) True.intro
theorem sq290_58 : sq 290 58 B290_58 := sq_take 21 (e := 95) (by decide +kernel) sq290_95
theorem sq290_57 : sq 290 57 B290_57 := sq_take 1 (e := 58) (by decide +kernel) sq290_58
theorem sq290_49 : sq 290 49 B290_49 := sq_take 4 (e := 57) (by decide +kernel) True.intro
theorem sq290_17 : sq 290 17 B290_17 := sq_take 21 (e := 49) (by decide +kernel) sq290_49
theorem sq290_8 : sq 290 8 B290_8 := sq_take 6 (e := 17) (by decide +kernel) sq290_17
theorem sq290_0 : sq 290 0 B290_0 := sq_take 5 (e := 8) (by decide +kernel) sq290_8
set_option maxRecDepth 100000 in
theorem sqM_290 : ∀ b, sq 290 b (tG 290 b) := show ∀ b, sq 290 b (lkB tb290 b) from lkB_sq (List.forall_mem_cons.mpr ⟨sq290_0, List.forall_mem_cons.mpr ⟨sq290_8, List.forall_mem_cons.mpr ⟨sq290_17, List.forall_mem_cons.mpr ⟨sq290_49, List.forall_mem_cons.mpr ⟨sq290_57, List.forall_mem_cons.mpr ⟨sq290_58, List.forall_mem_cons.mpr ⟨sq290_95, (fun _ h => absurd h List.not_mem_nil)⟩⟩⟩⟩⟩⟩⟩)
theorem sq291_42 : sq 291 42 B291_42 := sq_take 4 (e := 47) (by decide +kernel) True.intro
theorem sq291_36 : sq 291 36 B291_36 := sq_take 4 (e := 42) (by decide +kernel) sq291_42
theorem sq291_30 : sq 291 30 B291_30 := sq_take 4 (e := 36) (by decide +kernel) sq291_36
theorem sq291_25 : sq 291 25 B291_25 := sq_take 4 (e := 30) (by decide +kernel) sq291_30
theorem sq291_20 : sq 291 20 B291_20 := sq_take 4 (e := 25) (by decide +kernel) sq291_25
theorem sq291_15 : sq 291 15 B291_15 := sq_take 3 (e := 20) (by decide +kernel) sq291_20
theorem sq291_0 : sq 291 0 B291_0 := sq_take 9 (e := 15) (by decide +kernel) True.intro
set_option maxRecDepth 100000 in
theorem sqM_291 : ∀ b, sq 291 b (tG 291 b) := show ∀ b, sq 291 b (lkB tb291 b) from lkB_sq (List.forall_mem_cons.mpr ⟨sq291_0, List.forall_mem_cons.mpr ⟨sq291_15, List.forall_mem_cons.mpr ⟨sq291_20, List.forall_mem_cons.mpr ⟨sq291_25, List.forall_mem_cons.mpr ⟨sq291_30, List.forall_mem_cons.mpr ⟨sq291_36, List.forall_mem_cons.mpr ⟨sq291_42, (fun _ h => absurd h List.not_mem_nil)⟩⟩⟩⟩⟩⟩⟩)
theorem sq292_36 : sq 292 36 B292_36 := sq_take 1 (e := 37) (by decide +kernel) True.intro
theorem sq292_3 : sq 292 3 B292_3 := sq_take 20 (e := 36) (by decide +kernel) True.intro
theorem sq292_0 : sq 292 0 B292_0 := sq_take 3 (e := 3) (by decide +kernel) sq292_3
set_option maxRecDepth 100000 in
theorem sqM_292 : ∀ b, sq 292 b (tG 292 b) := show ∀ b, sq 292 b (lkB tb292 b) from lkB_sq (List.forall_mem_cons.mpr ⟨sq292_0, List.forall_mem_cons.mpr ⟨sq292_3, List.forall_mem_cons.mpr ⟨sq292_36, (fun _ h => absurd h List.not_mem_nil)⟩⟩⟩)
theorem sq293_14 : sq 293 14 B293_14 := sq_take 10 (e := 28) (by decide +kernel) True.intro
theorem sq293_12 : sq 293 12 B293_12 := sq_take 2 (e := 14) (by decide +kernel) True.intro
theorem sq293_0 : sq 293 0 B293_0 := sq_take 7 (e := 12) (by decide +kernel) sq293_12
set_option maxRecDepth 100000 in
theorem sqM_293 : ∀ b, sq 293 b (tG 293 b) := show ∀ b, sq 293 b (lkB tb293 b) from lkB_sq (List.forall_mem_cons.mpr ⟨sq293_0, List.forall_mem_cons.mpr ⟨sq293_12, List.forall_mem_cons.mpr ⟨sq293_14, (fun _ h => absurd h List.not_mem_nil)⟩⟩⟩)
theorem sq294_0 : sq 294 0 B294_0 := sq_take 9 (e := 12) (by decide +kernel) True.intro
set_option maxRecDepth 100000 in
theorem sqM_294 : ∀ b, sq 294 b (tG 294 b) := show ∀ b, sq 294 b (lkB tb294 b) from lkB_sq (List.forall_mem_cons.mpr ⟨sq294_0, (fun _ h => absurd h List.not_mem_nil)⟩)
theorem sq295_47 : sq 295 47 B295_47 := sq_take 3 (e := 49) (by decide +kernel) True.intro
theorem sq295_26 : sq 295 26 B295_26 := sq_take 12 (e := 47) (by decide +kernel) sq295_47
theorem sq295_14 : sq 295 14 B295_14 := sq_take 6 (e := 26) (by decide +kernel) sq295_26
theorem sq295_9 : sq 295 9 B295_9 := sq_take 4 (e := 14) (by decide +kernel) True.intro
theorem sq295_4 : sq 295 4 B295_4 := sq_take 4 (e := 9) (by decide +kernel) sq295_9
theorem sq295_0 : sq 295 0 B295_0 := sq_take 3 (e := 4) (by decide +kernel) sq295_4
set_option maxRecDepth 100000 in
theorem sqM_295 : ∀ b, sq 295 b (tG 295 b) := show ∀ b, sq 295 b (lkB tb295 b) from lkB_sq (List.forall_mem_cons.mpr ⟨sq295_0, List.forall_mem_cons.mpr ⟨sq295_4, List.forall_mem_cons.mpr ⟨sq295_9, List.forall_mem_cons.mpr ⟨sq295_14, List.forall_mem_cons.mpr ⟨sq295_26, List.forall_mem_cons.mpr ⟨sq295_47, (fun _ h => absurd h List.not_mem_nil)⟩⟩⟩⟩⟩⟩)
theorem sq296_50 : sq 296 50 B296_50 := sq_take 5 (e := 55) (by decide +kernel) True.intro
theorem sq296_34 : sq 296 34 B296_34 := sq_take 9 (e := 50) (by decide +kernel) sq296_50
theorem sq296_32 : sq 296 32 B296_32 := sq_take 2 (e := 34) (by decide +kernel) True.intro
theorem sq296_9 : sq 296 9 B296_9 := sq_take 12 (e := 32) (by decide +kernel) sq296_32
theorem sq296_4 : sq 296 4 B296_4 := sq_take 4 (e := 9) (by decide +kernel) sq296_9
theorem sq296_0 : sq 296 0 B296_0 := sq_take 3 (e := 4) (by decide +kernel) sq296_4
set_option maxRecDepth 100000 in
theorem sqM_296 : ∀ b, sq 296 b (tG 296 b) := show ∀ b, sq 296 b (lkB tb296 b) from lkB_sq (List.forall_mem_cons.mpr ⟨sq296_0, List.forall_mem_cons.mpr ⟨sq296_4, List.forall_mem_cons.mpr ⟨sq296_9, List.forall_mem_cons.mpr ⟨sq296_32, List.forall_mem_cons.mpr ⟨sq296_34, List.forall_mem_cons.mpr ⟨sq296_50, (fun _ h => absurd h List.not_mem_nil)⟩⟩⟩⟩⟩⟩)
theorem sq297_20 : sq 297 20 B297_20 := sq_take 1 (e := 21) (by decide +kernel) True.intro
theorem sq297_19 : sq 297 19 B297_19 := sq_take 1 (e := 20) (by decide +kernel) sq297_20
theorem sq297_4 : sq 297 4 B297_4 := sq_take 8 (e := 19) (by decide +kernel) True.intro
theorem sq297_0 : sq 297 0 B297_0 := sq_take 3 (e := 4) (by decide +kernel) sq297_4
set_option maxRecDepth 100000 in
theorem sqM_297 : ∀ b, sq 297 b (tG 297 b) := show ∀ b, sq 297 b (lkB tb297 b) from lkB_sq (List.forall_mem_cons.mpr ⟨sq297_0, List.forall_mem_cons.mpr ⟨sq297_4, List.forall_mem_cons.mpr ⟨sq297_19, List.forall_mem_cons.mpr ⟨sq297_20, (fun _ h => absurd h List.not_mem_nil)⟩⟩⟩⟩)
theorem sq298_15 : sq 298 15 B298_15 := sq_take 8 (e := 27) (by decide +kernel) True.intro
theorem sq298_13 : sq 298 13 B298_13 := sq_take 2 (e := 15) (by decide +kernel) True.intro
theorem sq298_10 : sq 298 10 B298_10 := sq_take 2 (e := 13) (by decide +kernel) sq298_13
theorem sq298_0 : sq 298 0 B298_0 := sq_take 7 (e := 10) (by decide +kernel) sq298_10
set_option maxRecDepth 100000 in
theorem sqM_298 : ∀ b, sq 298 b (tG 298 b) := show ∀ b, sq 298 b (lkB tb298 b) from lkB_sq (List.forall_mem_cons.mpr ⟨sq298_0, List.forall_mem_cons.mpr ⟨sq298_10, List.forall_mem_cons.mpr ⟨sq298_13, List.forall_mem_cons.mpr ⟨sq298_15, (fun _ h => absurd h List.not_mem_nil)⟩⟩⟩⟩)
theorem sq299_29 : sq 299 29 B299_29 := sq_take 5 (e := 37) (by decide +kernel) True.intro
theorem sq299_12 : sq 299 12 B299_12 := sq_take 9 (e := 29) (by decide +kernel) sq299_29
theorem sq299_5 : sq 299 5 B299_5 := sq_take 6 (e := 12) (by decide +kernel) True.intro
theorem sq299_0 : sq 299 0 B299_0 := sq_take 4 (e := 5) (by decide +kernel) sq299_5
set_option maxRecDepth 100000 in
theorem sqM_299 : ∀ b, sq 299 b (tG 299 b) := show ∀ b, sq 299 b (lkB tb299 b) from lkB_sq (List.forall_mem_cons.mpr ⟨sq299_0, List.forall_mem_cons.mpr ⟨sq299_5, List.forall_mem_cons.mpr ⟨sq299_12, List.forall_mem_cons.mpr ⟨sq299_29, (fun _ h => absurd h List.not_mem_nil)⟩⟩⟩⟩)
theorem sq300_0 : sq 300 0 B300_0 := sq_take 5 (e := 8) (by decide +kernel) True.intro
set_option maxRecDepth 100000 in
theorem sqM_300 : ∀ b, sq 300 b (tG 300 b) := show ∀ b, sq 300 b (lkB tb300 b) from lkB_sq (List.forall_mem_cons.mpr ⟨sq300_0, (fun _ h => absurd h List.not_mem_nil)⟩)
theorem sq301_32 : sq 301 32 B301_32 := sq_take 1 (e := 33) (by decide +kernel) True.intro
theorem sq301_19 : sq 301 19 B301_19 := sq_take 7 (e := 32) (by decide +kernel) sq301_32
theorem sq301_15 : sq 301 15 B301_15 := sq_take 3 (e := 19) (by decide +kernel) True.intro
theorem sq301_0 : sq 301 0 B301_0 := sq_take 8 (e := 15) (by decide +kernel) sq301_15
set_option maxRecDepth 100000 in
theorem sqM_301 : ∀ b, sq 301 b (tG 301 b) := show ∀ b, sq 301 b (lkB tb301 b) from lkB_sq (List.forall_mem_cons.mpr ⟨sq301_0, List.forall_mem_cons.mpr ⟨sq301_15, List.forall_mem_cons.mpr ⟨sq301_19, List.forall_mem_cons.mpr ⟨sq301_32, (fun _ h => absurd h List.not_mem_nil)⟩⟩⟩⟩)
theorem sq302_88 : sq 302 88 B302_88 := sq_take 4 (e := 92) (by decide +kernel) True.intro
theorem sq302_87 : sq 302 87 B302_87 := sq_take 1 (e := 88) (by decide +kernel) sq302_88
theorem sq302_70 : sq 302 70 B302_70 := sq_take 9 (e := 87) (by decide +kernel) True.intro
theorem sq302_68 : sq 302 68 B302_68 := sq_take 2 (e := 70) (by decide +kernel) sq302_70
theorem sq302_55 : sq 302 55 B302_55 := sq_take 7 (e := 68) (by decide +kernel) sq302_68
theorem sq302_53 : sq 302 53 B302_53 := sq_take 2 (e := 55) (by decide +kernel) sq302_55
theorem sq302_38 : sq 302 38 B302_38 := sq_take 8 (e := 53) (by decide +kernel) sq302_53
theorem sq302_30 : sq 302 30 B302_30 := sq_take 5 (e := 38) (by decide +kernel) sq302_38
theorem sq302_12 : sq 302 12 B302_12 := sq_take 10 (e := 30) (by decide +kernel) sq302_30
theorem sq302_5 : sq 302 5 B302_5 := sq_take 6 (e := 12) (by decide +kernel) True.intro
theorem sq302_0 : sq 302 0 B302_0 := sq_take 4 (e := 5) (by decide +kernel) sq302_5
set_option maxRecDepth 100000 in
theorem sqM_302 : ∀ b, sq 302 b (tG 302 b) := show ∀ b, sq 302 b (lkB tb302 b) from lkB_sq (List.forall_mem_cons.mpr ⟨sq302_0, List.forall_mem_cons.mpr ⟨sq302_5, List.forall_mem_cons.mpr ⟨sq302_12, List.forall_mem_cons.mpr ⟨sq302_30, List.forall_mem_cons.mpr ⟨sq302_38, List.forall_mem_cons.mpr ⟨sq302_53, List.forall_mem_cons.mpr ⟨sq302_55, List.forall_mem_cons.mpr ⟨sq302_68, List.forall_mem_cons.mpr ⟨sq302_70, List.forall_mem_cons.mpr ⟨sq302_87, List.forall_mem_cons.mpr ⟨sq302_88, (fun _ h => absurd h List.not_mem_nil)⟩⟩⟩⟩⟩⟩⟩⟩⟩⟩⟩)
theorem sq303_24 : sq 303 24 B303_24 := sq_take 1 (e := 25) (by decide +kernel) True.intro
theorem sq303_23 : sq 303 23 B303_23 := sq_take 2 (e := 24) (by decide +kernel) sq303_24
theorem sq303_4 : sq 303 4 B303_4 := sq_take 10 (e := 23) (by decide +kernel) True.intro
theorem sq303_0 : sq 303 0 B303_0 := sq_take 3 (e := 4) (by decide +kernel) sq303_4
set_option maxRecDepth 100000 in
theorem sqM_303 : ∀ b, sq 303 b (tG 303 b) := show ∀ b, sq 303 b (lkB tb303 b) from lkB_sq (List.forall_mem_cons.mpr ⟨sq303_0, List.forall_mem_cons.mpr ⟨sq303_4, List.forall_mem_cons.mpr ⟨sq303_23, List.forall_mem_cons.mpr ⟨sq303_24, (fun _ h => absurd h List.not_mem_nil)⟩⟩⟩⟩)
theorem sq304_22 : sq 304 22 B304_22 := sq_take 1 (e := 23) (by decide +kernel) True.intro
theorem sq304_13 : sq 304 13 B304_13 := sq_take 5 (e := 22) (by decide +kernel) sq304_22
theorem sq304_9 : sq 304 9 B304_9 := sq_take 3 (e := 13) (by decide +kernel) True.intro
theorem sq304_0 : sq 304 0 B304_0 := sq_take 6 (e := 9) (by decide +kernel) sq304_9
set_option maxRecDepth 100000 in
theorem sqM_304 : ∀ b, sq 304 b (tG 304 b) := show ∀ b, sq 304 b (lkB tb304 b) from lkB_sq (List.forall_mem_cons.mpr ⟨sq304_0, List.forall_mem_cons.mpr ⟨sq304_9, List.forall_mem_cons.mpr ⟨sq304_13, List.forall_mem_cons.mpr ⟨sq304_22, (fun _ h => absurd h List.not_mem_nil)⟩⟩⟩⟩)
theorem sq305_10 : sq 305 10 B305_10 := sq_take 2 (e := 11) (by decide +kernel) True.intro
theorem sq305_0 : sq 305 0 B305_0 := sq_take 7 (e := 10) (by decide +kernel) sq305_10
set_option maxRecDepth 100000 in
theorem sqM_305 : ∀ b, sq 305 b (tG 305 b) := show ∀ b, sq 305 b (lkB tb305 b) from lkB_sq (List.forall_mem_cons.mpr ⟨sq305_0, List.forall_mem_cons.mpr ⟨sq305_10, (fun _ h => absurd h List.not_mem_nil)⟩⟩)
theorem sq306_14 : sq 306 14 B306_14 := sq_take 2 (e := 15) (by decide +kernel) True.intro
theorem sq306_0 : sq 306 0 B306_0 := sq_take 9 (e := 14) (by decide +kernel) sq306_14
set_option maxRecDepth 100000 in
theorem sqM_306 : ∀ b, sq 306 b (tG 306 b) := show ∀ b, sq 306 b (lkB tb306 b) from lkB_sq (List.forall_mem_cons.mpr ⟨sq306_0, List.forall_mem_cons.mpr ⟨sq306_14, (fun _ h => absurd h List.not_mem_nil)⟩⟩)
theorem sq307_69 : sq 307 69 B307_69 := sq_take 2 (e := 70) (by decide +kernel) True.intro
theorem sq307_41 : sq 307 41 B307_41 := sq_take 16 (e := 69) (by decide +kernel) sq307_69
theorem sq307_39 : sq 307 39 B307_39 := sq_take 2 (e := 41) (by decide +kernel) True.intro
theorem sq307_13 : sq 307 13 B307_13 := sq_take 15 (e := 39) (by decide +kernel) sq307_39
theorem sq307_4 : sq 307 4 B307_4 := sq_take 6 (e := 13) (by decide +kernel) sq307_13
theorem sq307_0 : sq 307 0 B307_0 := sq_take 3 (e := 4) (by decide +kernel) sq307_4
set_option maxRecDepth 100000 in
theorem sqM_307 : ∀ b, sq 307 b (tG 307 b) := show ∀ b, sq 307 b (lkB tb307 b) from lkB_sq (List.forall_mem_cons.mpr ⟨sq307_0, List.forall_mem_cons.mpr ⟨sq307_4, List.forall_mem_cons.mpr ⟨sq307_13, List.forall_mem_cons.mpr ⟨sq307_39, List.forall_mem_cons.mpr ⟨sq307_41, List.forall_mem_cons.mpr ⟨sq307_69, (fun _ h => absurd h List.not_mem_nil)⟩⟩⟩⟩⟩⟩)
theorem sq308_92 : sq 308 92 B308_92 := sq_take 5 (e := 100) (by decide +kernel) True.intro
theorem sq308_80 : sq 308 80 B308_80 := sq_take 7 (e := 92) (by decide +kernel) sq308_92
theorem sq308_52 : sq 308 52 B308_52 := sq_take 14 (e := 80) (by decide +kernel) sq308_80
theorem sq308_44 : sq 308 44 B308_44 := sq_take 6 (e := 52) (by decide +kernel) True.intro
theorem sq308_31 : sq 308 31 B308_31 := sq_take 7 (e := 44) (by decide +kernel) sq308_44
theorem sq308_29 : sq 308 29 B308_29 := sq_take 2 (e := 31) (by decide +kernel) True.intro
theorem sq308_13 : sq 308 13 B308_13 := sq_take 9 (e := 29) (by decide +kernel) sq308_29
theorem sq308_4 : sq 308 4 B308_4 := sq_take 6 (e := 13) (by decide +kernel) sq308_13
theorem sq308_0 : sq 308 0 B308_0 := sq_take 3 (e := 4) (by decide +kernel) sq308_4
set_option maxRecDepth 100000 in
theorem sqM_308 : ∀ b, sq 308 b (tG 308 b) := show ∀ b, sq 308 b (lkB tb308 b) from lkB_sq (List.forall_mem_cons.mpr ⟨sq308_0, List.forall_mem_cons.mpr ⟨sq308_4, List.forall_mem_cons.mpr ⟨sq308_13, List.forall_mem_cons.mpr ⟨sq308_29, List.forall_mem_cons.mpr ⟨sq308_31, List.forall_mem_cons.mpr ⟨sq308_44, List.forall_mem_cons.mpr ⟨sq308_52, List.forall_mem_cons.mpr ⟨sq308_80, List.forall_mem_cons.mpr ⟨sq308_92, (fun _ h => absurd h List.not_mem_nil)⟩⟩⟩⟩⟩⟩⟩⟩⟩)
theorem sq309_52 : sq 309 52 B309_52 := sq_take 3 (e := 54) (by decide +kernel) True.intro
theorem sq309_44 : sq 309 44 B309_44 := sq_take 5 (e := 52) (by decide +kernel) sq309_52
theorem sq309_31 : sq 309 31 B309_31 := sq_take 7 (e := 44) (by decide +kernel) sq309_44
theorem sq309_29 : sq 309 29 B309_29 := sq_take 2 (e := 31) (by decide +kernel) True.intro
theorem sq309_13 : sq 309 13 B309_13 := sq_take 9 (e := 29) (by decide +kernel) sq309_29
theorem sq309_4 : sq 309 4 B309_4 := sq_take 6 (e := 13) (by decide +kernel) sq309_13
theorem sq309_0 : sq 309 0 B309_0 := sq_take 3 (e := 4) (by decide +kernel) sq309_4
set_option maxRecDepth 100000 in
theorem sqM_309 : ∀ b, sq 309 b (tG 309 b) := show ∀ b, sq 309 b (lkB tb309 b) from lkB_sq (List.forall_mem_cons.mpr ⟨sq309_0, List.forall_mem_cons.mpr ⟨sq309_4, List.forall_mem_cons.mpr ⟨sq309_13, List.forall_mem_cons.mpr ⟨sq309_29, List.forall_mem_cons.mpr ⟨sq309_31, List.forall_mem_cons.mpr ⟨sq309_44, List.forall_mem_cons.mpr ⟨sq309_52, (fun _ h => absurd h List.not_mem_nil)⟩⟩⟩⟩⟩⟩⟩)
theorem sq310_114 : sq 310 114 B310_114 := sq_take 5 (e := 122) (by decide +kernel) True.intro
theorem sq310_102 : sq 310 102 B310_102 := sq_take 7 (e := 114) (by decide +kernel) sq310_114
theorem sq310_82 : sq 310 82 B310_82 := sq_take 11 (e := 102) (by decide +kernel) sq310_102
theorem sq310_70 : sq 310 70 B310_70 := sq_take 7 (e := 82) (by decide +kernel) sq310_82
theorem sq310_31 : sq 310 31 B310_31 := sq_take 22 (e := 70) (by decide +kernel) sq310_70
theorem sq310_29 : sq 310 29 B310_29 := sq_take 2 (e := 31) (by decide +kernel) True.intro
theorem sq310_9 : sq 310 9 B310_9 := sq_take 11 (e := 29) (by decide +kernel) sq310_29
theorem sq310_0 : sq 310 0 B310_0 := sq_take 6 (e := 9) (by decide +kernel) sq310_9
set_option maxRecDepth 100000 in
theorem sqM_310 : ∀ b, sq 310 b (tG 310 b) := show ∀ b, sq 310 b (lkB tb310 b) from lkB_sq (List.forall_mem_cons.mpr ⟨sq310_0, List.forall_mem_cons.mpr ⟨sq310_9, List.forall_mem_cons.mpr ⟨sq310_29, List.forall_mem_cons.mpr ⟨sq310_31, List.forall_mem_cons.mpr ⟨sq310_70, List.forall_mem_cons.mpr ⟨sq310_82, List.forall_mem_cons.mpr ⟨sq310_102, List.forall_mem_cons.mpr ⟨sq310_114, (fun _ h => absurd h List.not_mem_nil)⟩⟩⟩⟩⟩⟩⟩⟩)
theorem sq311_24 : sq 311 24 B311_24 := sq_take 1 (e := 25) (by decide +kernel) True.intro
theorem sq311_23 : sq 311 23 B311_23 := sq_take 1 (e := 24) (by decide +kernel) sq311_24
theorem sq311_8 : sq 311 8 B311_8 := sq_take 8 (e := 23) (by decide +kernel) True.intro
theorem sq311_0 : sq 311 0 B311_0 := sq_take 5 (e := 8) (by decide +kernel) sq311_8
set_option maxRecDepth 100000 in
theorem sqM_311 : ∀ b, sq 311 b (tG 311 b) := show ∀ b, sq 311 b (lkB tb311 b) from lkB_sq (List.forall_mem_cons.mpr ⟨sq311_0, List.forall_mem_cons.mpr ⟨sq311_8, List.forall_mem_cons.mpr ⟨sq311_23, List.forall_mem_cons.mpr ⟨sq311_24, (fun _ h => absurd h List.not_mem_nil)⟩⟩⟩⟩)
theorem sq312_55 : sq 312 55 B312_55 := sq_take 3 (e := 57) (by decide +kernel) True.intro
theorem sq312_45 : sq 312 45 B312_45 := sq_take 7 (e := 55) (by decide +kernel) sq312_55
theorem sq312_40 : sq 312 40 B312_40 := sq_take 4 (e := 45) (by decide +kernel) True.intro
theorem sq312_31 : sq 312 31 B312_31 := sq_take 5 (e := 40) (by decide +kernel) sq312_40
theorem sq312_29 : sq 312 29 B312_29 := sq_take 2 (e := 31) (by decide +kernel) True.intro
theorem sq312_9 : sq 312 9 B312_9 := sq_take 11 (e := 29) (by decide +kernel) sq312_29
theorem sq312_0 : sq 312 0 B312_0 := sq_take 6 (e := 9) (by decide +kernel) sq312_9
set_option maxRecDepth 100000 in
theorem sqM_312 : ∀ b, sq 312 b (tG 312 b) := show ∀ b, sq 312 b (lkB tb312 b) from lkB_sq (List.forall_mem_cons.mpr ⟨sq312_0, List.forall_mem_cons.mpr ⟨sq312_9, List.forall_mem_cons.mpr ⟨sq312_29, List.forall_mem_cons.mpr ⟨sq312_31, List.forall_mem_cons.mpr ⟨sq312_40, List.forall_mem_cons.mpr ⟨sq312_45, List.forall_mem_cons.mpr ⟨sq312_55, (fun _ h => absurd h List.not_mem_nil)⟩⟩⟩⟩⟩⟩⟩)
theorem sq313_76 : sq 313 76 B313_76 := sq_take 5 (e := 84) (by decide +kernel) True.intro
theorem sq313_59 : sq 313 59 B313_59 := sq_take 11 (e := 76) (by decide +kernel) sq313_76
theorem sq313_34 : sq 313 34 B313_34 := sq_take 14 (e := 59) (by decide +kernel) sq313_59
theorem sq313_26 : sq 313 26 B313_26 := sq_take 4 (e := 34) (by decide +kernel) sq313_34
theorem sq313_24 : sq 313 24 B313_24 := sq_take 2 (e := 26) (by decide +kernel) True.intro
theorem sq313_9 : sq 313 9 B313_9 := sq_take 8 (e := 24) (by decide +kernel) sq313_24
theorem sq313_0 : sq 313 0 B313_0 := sq_take 6 (e := 9) (by decide +kernel) sq313_9
set_option maxRecDepth 100000 in
theorem sqM_313 : ∀ b, sq 313 b (tG 313 b) := show ∀ b, sq 313 b (lkB tb313 b) from lkB_sq (List.forall_mem_cons.mpr ⟨sq313_0, List.forall_mem_cons.mpr ⟨sq313_9, List.forall_mem_cons.mpr ⟨sq313_24, List.forall_mem_cons.mpr ⟨sq313_26, List.forall_mem_cons.mpr ⟨sq313_34, List.forall_mem_cons.mpr ⟨sq313_59, List.forall_mem_cons.mpr ⟨sq313_76, (fun _ h => absurd h List.not_mem_nil)⟩⟩⟩⟩⟩⟩⟩)
theorem sq314_14 : sq 314 14 B314_14 := sq_take 15 (e := 41) (by decide +kernel) True.intro
theorem sq314_4 : sq 314 4 B314_4 := sq_take 7 (e := 14) (by decide +kernel) True.intro
theorem sq314_0 : sq 314 0 B314_0 := sq_take 3 (e := 4) (by decide +kernel) sq314_4
set_option maxRecDepth 100000 in
theorem sqM_314 : ∀ b, sq 314 b (tG 314 b) := show ∀ b, sq 314 b (lkB tb314 b) from lkB_sq (List.forall_mem_cons.mpr ⟨sq314_0, List.forall_mem_cons.mpr ⟨sq314_4, List.forall_mem_cons.mpr ⟨sq314_14, (fun _ h => absurd h List.not_mem_nil)⟩⟩⟩)
theorem sq315_0 : sq 315 0 B315_0 := sq_take 5 (e := 8) (by decide +kernel) True.intro
set_option maxRecDepth 100000 in
theorem sqM_315 : ∀ b, sq 315 b (tG 315 b) := show ∀ b, sq 315 b (lkB tb315 b) from lkB_sq (List.forall_mem_cons.mpr ⟨sq315_0, (fun _ h => absurd h List.not_mem_nil)⟩)
theorem sq316_34 : sq 316 34 B316_34 := sq_take 1 (e := 35) (by decide +kernel) True.intro
theorem sq316_19 : sq 316 19 B316_19 := sq_take 9 (e := 34) (by decide +kernel) sq316_34
theorem sq316_15 : sq 316 15 B316_15 := sq_take 3 (e := 19) (by decide +kernel) True.intro
theorem sq316_0 : sq 316 0 B316_0 := sq_take 8 (e := 15) (by decide +kernel) sq316_15
set_option maxRecDepth 100000 in
theorem sqM_316 : ∀ b, sq 316 b (tG 316 b) := show ∀ b, sq 316 b (lkB tb316 b) from lkB_sq (List.forall_mem_cons.mpr ⟨sq316_0, List.forall_mem_cons.mpr ⟨sq316_15, List.forall_mem_cons.mpr ⟨sq316_19, List.forall_mem_cons.mpr ⟨sq316_34, (fun _ h => absurd h List.not_mem_nil)⟩⟩⟩⟩)
theorem sq317_0 : sq 317 0 B317_0 := sq_take 10 (e := 17) (by decide +kernel) True.intro
set_option maxRecDepth 100000 in
theorem sqM_317 : ∀ b, sq 317 b (tG 317 b) := show ∀ b, sq 317 b (lkB tb317 b) from lkB_sq (List.forall_mem_cons.mpr ⟨sq317_0, (fun _ h => absurd h List.not_mem_nil)⟩)
theorem sq318_0 : sq 318 0 B318_0 := sq_take 5 (e := 8) (by decide +kernel) True.intro
set_option maxRecDepth 100000 in
theorem sqM_318 : ∀ b, sq 318 b (tG 318 b) := show ∀ b, sq 318 b (lkB tb318 b) from lkB_sq (List.forall_mem_cons.mpr ⟨sq318_0, (fun _ h => absurd h List.not_mem_nil)⟩)
theorem sq319_0 : sq 319 0 B319_0 := sq_take 6 (e := 9) (by decide +kernel) True.intro
set_option maxRecDepth 100000 in
theorem sqM_319 : ∀ b, sq 319 b (tG 319 b) := show ∀ b, sq 319 b (lkB tb319 b) from lkB_sq (List.forall_mem_cons.mpr ⟨sq319_0, (fun _ h => absurd h List.not_mem_nil)⟩)
theorem sq320_28 : sq 320 28 B320_28 := sq_take 2 (e := 29) (by decide +kernel) True.intro
theorem sq320_19 : sq 320 19 B320_19 := sq_take 5 (e := 28) (by decide +kernel) sq320_28
theorem sq320_17 : sq 320 17 B320_17 := sq_take 2 (e := 19) (by decide +kernel) True.intro
theorem sq320_5 : sq 320 5 B320_5 := sq_take 7 (e := 17) (by decide +kernel) sq320_17
theorem sq320_0 : sq 320 0 B320_0 := sq_take 4 (e := 5) (by decide +kernel) sq320_5
set_option maxRecDepth 100000 in
theorem sqM_320 : ∀ b, sq 320 b (tG 320 b) := show ∀ b, sq 320 b (lkB tb320 b) from lkB_sq (List.forall_mem_cons.mpr ⟨sq320_0, List.forall_mem_cons.mpr ⟨sq320_5, List.forall_mem_cons.mpr ⟨sq320_17, List.forall_mem_cons.mpr ⟨sq320_19, List.forall_mem_cons.mpr ⟨sq320_28, (fun _ h => absurd h List.not_mem_nil)⟩⟩⟩⟩⟩)
theorem sq321_0 : sq 321 0 B321_0 := sq_take 5 (e := 8) (by decide +kernel) True.intro
set_option maxRecDepth 100000 in
theorem sqM_321 : ∀ b, sq 321 b (tG 321 b) := show ∀ b, sq 321 b (lkB tb321 b) from lkB_sq (List.forall_mem_cons.mpr ⟨sq321_0, (fun _ h => absurd h List.not_mem_nil)⟩)
theorem sq322_0 : sq 322 0 B322_0 := sq_take 5 (e := 8) (by decide +kernel) True.intro
set_option maxRecDepth 100000 in
theorem sqM_322 : ∀ b, sq 322 b (tG 322 b) := show ∀ b, sq 322 b (lkB tb322 b) from lkB_sq (List.forall_mem_cons.mpr ⟨sq322_0, (fun _ h => absurd h List.not_mem_nil)⟩)
theorem sq323_0 : sq 323 0 B323_0 := sq_take 5 (e := 8) (by decide +kernel) True.intro
set_option maxRecDepth 100000 in
theorem sqM_323 : ∀ b, sq 323 b (tG 323 b) := show ∀ b, sq 323 b (lkB tb323 b) from lkB_sq (List.forall_mem_cons.mpr ⟨sq323_0, (fun _ h => absurd h List.not_mem_nil)⟩)
theorem sq324_0 : sq 324 0 B324_0 := sq_take 5 (e := 8) (by decide +kernel) True.intro
set_option maxRecDepth 100000 in
theorem sqM_324 : ∀ b, sq 324 b (tG 324 b) := show ∀ b, sq 324 b (lkB tb324 b) from lkB_sq (List.forall_mem_cons.mpr ⟨sq324_0, (fun _ h => absurd h List.not_mem_nil)⟩)
theorem sq325_32 : sq 325 32 B325_32 := sq_take 1 (e := 33) (by decide +kernel) True.intro
theorem sq325_19 : sq 325 19 B325_19 := sq_take 7 (e := 32) (by decide +kernel) sq325_32
theorem sq325_15 : sq 325 15 B325_15 := sq_take 3 (e := 19) (by decide +kernel) True.intro
theorem sq325_0 : sq 325 0 B325_0 := sq_take 8 (e := 15) (by decide +kernel) sq325_15
set_option maxRecDepth 100000 in
theorem sqM_325 : ∀ b, sq 325 b (tG 325 b) := show ∀ b, sq 325 b (lkB tb325 b) from lkB_sq (List.forall_mem_cons.mpr ⟨sq325_0, List.forall_mem_cons.mpr ⟨sq325_15, List.forall_mem_cons.mpr ⟨sq325_19, List.forall_mem_cons.mpr ⟨sq325_32, (fun _ h => absurd h List.not_mem_nil)⟩⟩⟩⟩)
theorem sq326_0 : sq 326 0 B326_0 := sq_take 11 (e := 18) (by decide +kernel) True.intro
set_option maxRecDepth 100000 in
theorem sqM_326 : ∀ b, sq 326 b (tG 326 b) := show ∀ b, sq 326 b (lkB tb326 b) from lkB_sq (List.forall_mem_cons.mpr ⟨sq326_0, (fun _ h => absurd h List.not_mem_nil)⟩)
theorem sq327_42 : sq 327 42 B327_42 := sq_take 4 (e := 47) (by decide +kernel) True.intro
theorem sq327_36 : sq 327 36 B327_36 := sq_take 4 (e := 42) (by decide +kernel) sq327_42
theorem sq327_30 : sq 327 30 B327_30 := sq_take 4 (e := 36) (by decide +kernel) sq327_36
theorem sq327_25 : sq 327 25 B327_25 := sq_take 4 (e := 30) (by decide +kernel) sq327_30
theorem sq327_20 : sq 327 20 B327_20 := sq_take 4 (e := 25) (by decide +kernel) sq327_25
theorem sq327_15 : sq 327 15 B327_15 := sq_take 3 (e := 20) (by decide +kernel) sq327_20
theorem sq327_0 : sq 327 0 B327_0 := sq_take 9 (e := 15) (by decide +kernel) True.intro
set_option maxRecDepth 100000 in
theorem sqM_327 : ∀ b, sq 327 b (tG 327 b) := show ∀ b, sq 327 b (lkB tb327 b) from lkB_sq (List.forall_mem_cons.mpr ⟨sq327_0, List.forall_mem_cons.mpr ⟨sq327_15, List.forall_mem_cons.mpr ⟨sq327_20, List.forall_mem_cons.mpr ⟨sq327_25, List.forall_mem_cons.mpr ⟨sq327_30, List.forall_mem_cons.mpr ⟨sq327_36, List.forall_mem_cons.mpr ⟨sq327_42, (fun _ h => absurd h List.not_mem_nil)⟩⟩⟩⟩⟩⟩⟩)
theorem sq328_36 : sq 328 36 B328_36 := sq_take 1 (e := 37) (by decide +kernel) True.intro
theorem sq328_3 : sq 328 3 B328_3 := sq_take 20 (e := 36) (by decide +kernel) True.intro
theorem sq328_0 : sq 328 0 B328_0 := sq_take 3 (e := 3) (by decide +kernel) sq328_3
set_option maxRecDepth 100000 in
theorem sqM_328 : ∀ b, sq 328 b (tG 328 b) := show ∀ b, sq 328 b (lkB tb328 b) from lkB_sq (List.forall_mem_cons.mpr ⟨sq328_0, List.forall_mem_cons.mpr ⟨sq328_3, List.forall_mem_cons.mpr ⟨sq328_36, (fun _ h => absurd h List.not_mem_nil)⟩⟩⟩)
theorem sq329_14 : sq 329 14 B329_14 := sq_take 10 (e := 28) (by decide +kernel) True.intro
theorem sq329_12 : sq 329 12 B329_12 := sq_take 2 (e := 14) (by decide +kernel) True.intro
theorem sq329_0 : sq 329 0 B329_0 := sq_take 7 (e := 12) (by decide +kernel) sq329_12
set_option maxRecDepth 100000 in
theorem sqM_329 : ∀ b, sq 329 b (tG 329 b) := show ∀ b, sq 329 b (lkB tb329 b) from lkB_sq (List.forall_mem_cons.mpr ⟨sq329_0, List.forall_mem_cons.mpr ⟨sq329_12, List.forall_mem_cons.mpr ⟨sq329_14, (fun _ h => absurd h List.not_mem_nil)⟩⟩⟩)
theorem sq330_0 : sq 330 0 B330_0 := sq_take 9 (e := 12) (by decide +kernel) True.intro
set_option maxRecDepth 100000 in
theorem sqM_330 : ∀ b, sq 330 b (tG 330 b) := show ∀ b, sq 330 b (lkB tb330 b) from lkB_sq (List.forall_mem_cons.mpr ⟨sq330_0, (fun _ h => absurd h List.not_mem_nil)⟩)
theorem sq331_15 : sq 331 15 B331_15 := sq_take 1 (e := 16) (by decide +kernel) True.intro
theorem sq331_14 : sq 331 14 B331_14 := sq_take 2 (e := 15) (by decide +kernel) sq331_15
theorem sq331_0 : sq 331 0 B331_0 := sq_take 8 (e := 14) (by decide +kernel) True.intro
set_option maxRecDepth 100000 in
theorem sqM_331 : ∀ b, sq 331 b (tG 331 b) := show ∀ b, sq 331 b (lkB tb331 b) from lkB_sq (List.forall_mem_cons.mpr ⟨sq331_0, List.forall_mem_cons.mpr ⟨sq331_14, List.forall_mem_cons.mpr ⟨sq331_15, (fun _ h => absurd h List.not_mem_nil)⟩⟩⟩)
theorem sq332_0 : sq 332 0 B332_0 := sq_take 6 (e := 7) (by decide +kernel) True.intro
set_option maxRecDepth 100000 in
theorem sqM_332 : ∀ b, sq 332 b (tG 332 b) := show ∀ b, sq 332 b (lkB tb332 b) from lkB_sq (List.forall_mem_cons.mpr ⟨sq332_0, (fun _ h => absurd h List.not_mem_nil)⟩)
theorem sq333_0 : sq 333 0 B333_0 := sq_take 8 (e := 9) (by decide +kernel) True.intro
set_option maxRecDepth 100000 in
theorem sqM_333 : ∀ b, sq 333 b (tG 333 b) := show ∀ b, sq 333 b (lkB tb333 b) from lkB_sq (List.forall_mem_cons.mpr ⟨sq333_0, (fun _ h => absurd h List.not_mem_nil)⟩)
theorem sq334_0 : sq 334 0 B334_0 := sq_take 8 (e := 9) (by decide +kernel) True.intro
set_option maxRecDepth 100000 in
theorem sqM_334 : ∀ b, sq 334 b (tG 334 b) := show ∀ b, sq 334 b (lkB tb334 b) from lkB_sq (List.forall_mem_cons.mpr ⟨sq334_0, (fun _ h => absurd h List.not_mem_nil)⟩)
theorem sq335_0 : sq 335 0 B335_0 := sq_take 6 (e := 6) (by decide +kernel) True.intro
set_option maxRecDepth 100000 in
theorem sqM_335 : ∀ b, sq 335 b (tG 335 b) := show ∀ b, sq 335 b (lkB tb335 b) from lkB_sq (List.forall_mem_cons.mpr ⟨sq335_0, (fun _ h => absurd h List.not_mem_nil)⟩)
theorem sq336_0 : sq 336 0 B336_0 := sq_take 6 (e := 6) (by decide +kernel) True.intro
set_option maxRecDepth 100000 in
theorem sqM_336 : ∀ b, sq 336 b (tG 336 b) := show ∀ b, sq 336 b (lkB tb336 b) from lkB_sq (List.forall_mem_cons.mpr ⟨sq336_0, (fun _ h => absurd h List.not_mem_nil)⟩)
theorem sq337_0 : sq 337 0 B337_0 := sq_take 26 (e := 32) (by decide +kernel) True.intro
set_option maxRecDepth 100000 in
theorem sqM_337 : ∀ b, sq 337 b (tG 337 b) := show ∀ b, sq 337 b (lkB tb337 b) from lkB_sq (List.forall_mem_cons.mpr ⟨sq337_0, (fun _ h => absurd h List.not_mem_nil)⟩)
theorem sq338_23 : sq 338 23 B338_23 := sq_take 1 (e := 24) (by decide +kernel) True.intro
theorem sq338_22 : sq 338 22 B338_22 := sq_take 1 (e := 23) (by decide +kernel) sq338_23
theorem sq338_18 : sq 338 18 B338_18 := sq_take 3 (e := 22) (by decide +kernel) True.intro
theorem sq338_0 : sq 338 0 B338_0 := sq_take 10 (e := 18) (by decide +kernel) sq338_18
set_option maxRecDepth 100000 in
theorem sqM_338 : ∀ b, sq 338 b (tG 338 b) := show ∀ b, sq 338 b (lkB tb338 b) from lkB_sq (List.forall_mem_cons.mpr ⟨sq338_0, List.forall_mem_cons.mpr ⟨sq338_18, List.forall_mem_cons.mpr ⟨sq338_22, List.forall_mem_cons.mpr ⟨sq338_23, (fun _ h => absurd h List.not_mem_nil)⟩⟩⟩⟩)
theorem sq339_339 : sq 339 339 B339_339 := sq_take 1 (e := 340) (by decide +kernel) True.intro
theorem sq339_338 : sq 339 338 B339_338 := sq_take 2 (e := 339) (by decide +kernel) sq339_339
theorem sq339_334 : sq 339 334 B339_334 := sq_take 3 (e := 338) (by decide +kernel) True.intro
theorem sq339_331 : sq 339 331 B339_331 := sq_take 2 (e := 334) (by decide +kernel) sq339_334
theorem sq339_329 : sq 339 329 B339_329 := sq_take 1 (e := 331) (by decide +kernel) sq339_331
theorem sq339_295 : sq 339 295 B339_295 := sq_take 15 (e := 329) (by decide +kernel) True.intro
theorem sq339_294 : sq 339 294 B339_294 := sq_take 2 (e := 295) (by decide +kernel) sq339_295
theorem sq339_290 : sq 339 290 B339_290 := sq_take 3 (e := 294) (by decide +kernel) True.intro
theorem sq339_268 : sq 339 268 B339_268 := sq_take 10 (e := 290) (by decide +kernel) sq339_290
theorem sq339_267 : sq 339 267 B339_267 := sq_take 2 (e := 268) (by decide +kernel) sq339_268
theorem sq339_263 : sq 339 263 B339_263 := sq_take 3 (e := 267) (by decide +kernel) True.intro
theorem sq339_227 : sq 339 227 B339_227 := sq_take 17 (e := 263) (by decide +kernel) sq339_263
theorem sq339_206 : sq 339 206 B339_206 := sq_take 11 (e := 227) (by decide +kernel) sq339_227
theorem sq339_205 : sq 339 205 B339_205 := sq_take 1 (e := 206) (by decide +kernel) sq339_206
theorem sq339_197 : sq 339 197 B339_197 := sq_take 4 (e := 205) (by decide +kernel) True.intro
theorem sq339_193 : sq 339 193 B339_193 := sq_take 3 (e := 197) (by decide +kernel) True.intro
theorem sq339_171 : sq 339 171 B339_171 := sq_take 11 (e := 193) (by decide +kernel) True.intro
theorem sq339_170 : sq 339 170 B339_170 := sq_take 1 (e := 171) (by decide +kernel) sq339_171
theorem sq339_166 : sq 339 166 B339_166 := sq_take 3 (e := 170) (by decide +kernel) True.intro
theorem sq339_142 : sq 339 142 B339_142 := sq_take 11 (e := 166) (by decide +kernel) sq339_166
theorem sq339_141 : sq 339 141 B339_141 := sq_take 1 (e := 142) (by decide +kernel) sq339_142
theorem sq339_137 : sq 339 137 B339_137 := sq_take 3 (e := 141) (by decide +kernel) True.intro
theorem sq339_122 : sq 339 122 B339_122 := sq_take 6 (e := 137) (by decide +kernel) sq339_137
theorem sq339_121 : sq 339 121 B339_121 := sq_take 1 (e := 122) (by decide +kernel) True.intro
theorem sq339_120 : sq 339 120 B339_120 := sq_take 2 (e := 121) (by decide +kernel) sq339_121
theorem sq339_90 : sq 339 90 B339_90 := sq_take 13 (e := 120) (by decide +kernel) True.intro
theorem sq339_89 : sq 339 89 B339_89 := sq_take 1 (e := 90) (by decide +kernel) True.intro
theorem sq339_88 : sq 339 88 B339_88 := sq_take 2 (e := 89) (by decide +kernel) sq339_89
theorem sq339_81 : sq 339 81 B339_81 := sq_take 4 (e := 88) (by decide +kernel) True.intro
theorem sq339_53 : sq 339 53 B339_53 := sq_take 12 (e := 81) (by decide +kernel) sq339_81
theorem sq339_51 : sq 339 51 B339_51 := sq_take 2 (e := 53) (by decide +kernel) True.intro
theorem sq339_35 : sq 339 35 B339_35 := sq_take 8 (e := 51) (by decide +kernel) sq339_51
theorem sq339_34 : sq 339 34 B339_34 := sq_take 1 (e := 35) (by decide +kernel) sq339_35
theorem sq339_19 : sq 339 19 B339_19 := sq_take 9 (e := 34) (by decide +kernel) True.intro
theorem sq339_18 : sq 339 18 B339_18 := sq_take 1 (e := 19) (by decide +kernel) sq339_19
theorem sq339_0 : sq 339 0 B339_0 := sq_take 11 (e := 18) (by decide +kernel) True.intro
set_option maxRecDepth 100000 in
theorem sqM_339 : ∀ b, sq 339 b (tG 339 b) := show ∀ b, sq 339 b (lkB tb339 b) from lkB_sq (List.forall_mem_cons.mpr ⟨sq339_0, List.forall_mem_cons.mpr ⟨sq339_18, List.forall_mem_cons.mpr ⟨sq339_19, List.forall_mem_cons.mpr ⟨sq339_34, List.forall_mem_cons.mpr ⟨sq339_35, List.forall_mem_cons.mpr ⟨sq339_51, List.forall_mem_cons.mpr ⟨sq339_53, List.forall_mem_cons.mpr ⟨sq339_81, List.forall_mem_cons.mpr ⟨sq339_88, List.forall_mem_cons.mpr ⟨sq339_89, List.forall_mem_cons.mpr ⟨sq339_90, List.forall_mem_cons.mpr ⟨sq339_120, List.forall_mem_cons.mpr ⟨sq339_121, List.forall_mem_cons.mpr ⟨sq339_122, List.forall_mem_cons.mpr ⟨sq339_137, List.forall_mem_cons.mpr ⟨sq339_141, List.forall_mem_cons.mpr ⟨sq339_142, List.forall_mem_cons.mpr ⟨sq339_166, List.forall_mem_cons.mpr ⟨sq339_170, List.forall_mem_cons.mpr ⟨sq339_171, List.forall_mem_cons.mpr ⟨sq339_193, List.forall_mem_cons.mpr ⟨sq339_197, List.forall_mem_cons.mpr ⟨sq339_205, List.forall_mem_cons.mpr ⟨sq339_206, List.forall_mem_cons.mpr ⟨sq339_227, List.forall_mem_cons.mpr ⟨sq339_263, List.forall_mem_cons.mpr ⟨sq339_267, List.forall_mem_cons.mpr ⟨sq339_268, List.forall_mem_cons.mpr ⟨sq339_290, List.forall_mem_cons.mpr ⟨sq339_294, List.forall_mem_cons.mpr ⟨sq339_295, List.forall_mem_cons.mpr ⟨sq339_329, List.forall_mem_cons.mpr ⟨sq339_331, List.forall_mem_cons.mpr ⟨sq339_334, List.forall_mem_cons.mpr ⟨sq339_338, List.forall_mem_cons.mpr ⟨sq339_339, (fun _ h => absurd h List.not_mem_nil)⟩⟩⟩⟩⟩⟩⟩⟩⟩⟩⟩⟩⟩⟩⟩⟩⟩⟩⟩⟩⟩⟩⟩⟩⟩⟩⟩⟩⟩⟩⟩⟩⟩⟩⟩⟩)
theorem sq340_32 : sq 340 32 B340_32 := sq_take 1 (e := 33) (by decide +kernel) True.intro
theorem sq340_31 : sq 340 31 B340_31 := sq_take 2 (e := 32) (by decide +kernel) sq340_32
theorem sq340_27 : sq 340 27 B340_27 := sq_take 3 (e := 31) (by decide +kernel) True.intro
theorem sq340_15 : sq 340 15 B340_15 := sq_take 7 (e := 27) (by decide +kernel) sq340_27
theorem sq340_0 : sq 340 0 B340_0 := sq_take 11 (e := 15) (by decide +kernel) sq340_15
set_option maxRecDepth 100000 in
theorem sqM_340 : ∀ b, sq 340 b (tG 340 b) := show ∀ b, sq 340 b (lkB tb340 b) from lkB_sq (List.forall_mem_cons.mpr ⟨sq340_0, List.forall_mem_cons.mpr ⟨sq340_15, List.forall_mem_cons.mpr ⟨sq340_27, List.forall_mem_cons.mpr ⟨sq340_31, List.forall_mem_cons.mpr ⟨sq340_32, (fun _ h => absurd h List.not_mem_nil)⟩⟩⟩⟩⟩)
theorem sq341_156 : sq 341 156 B341_156 := sq_take 1 (e := 157) (by decide +kernel) True.intro
theorem sq341_155 : sq 341 155 B341_155 := sq_take 2 (e := 156) (by decide +kernel) sq341_156
theorem sq341_151 : sq 341 151 B341_151 := sq_take 3 (e := 155) (by decide +kernel) True.intro
theorem sq341_147 : sq 341 147 B341_147 := sq_take 2 (e := 151) (by decide +kernel) sq341_151
theorem sq341_117 : sq 341 117 B341_117 := sq_take 15 (e := 147) (by decide +kernel) True.intro
theorem sq341_113 : sq 341 113 B341_113 := sq_take 2 (e := 117) (by decide +kernel) sq341_117
theorem sq341_112 : sq 341 112 B341_112 := sq_take 1 (e := 113) (by decide +kernel) True.intro
theorem sq341_111 : sq 341 111 B341_111 := sq_take 2 (e := 112) (by decide +kernel) sq341_112
theorem sq341_83 : sq 341 83 B341_83 := sq_take 13 (e := 111) (by decide +kernel) True.intro
theorem sq341_82 : sq 341 82 B341_82 := sq_take 1 (e := 83) (by decide +kernel) True.intro
theorem sq341_81 : sq 341 81 B341_81 := sq_take 2 (e := 82) (by decide +kernel) sq341_82
theorem sq341_77 : sq 341 77 B341_77 := sq_take 3 (e := 81) (by decide +kernel) True.intro
theorem sq341_72 : sq 341 72 B341_72 := sq_take 4 (e := 77) (by decide +kernel) sq341_77
theorem sq341_48 : sq 341 48 B341_48 := sq_take 11 (e := 72) (by decide +kernel) sq341_72
theorem sq341_47 : sq 341 47 B341_47 := sq_take 1 (e := 48) (by decide +kernel) True.intro
theorem sq341_46 : sq 341 46 B341_46 := sq_take 2 (e := 47) (by decide +kernel) sq341_47
theorem sq341_24 : sq 341 24 B341_24 := sq_take 11 (e := 46) (by decide +kernel) True.intro
theorem sq341_23 : sq 341 23 B341_23 := sq_take 1 (e := 24) (by decide +kernel) True.intro
theorem sq341_22 : sq 341 22 B341_22 := sq_take 2 (e := 23) (by decide +kernel) sq341_23
theorem sq341_0 : sq 341 0 B341_0 := sq_take 12 (e := 22) (by decide +kernel) True.intro
set_option maxRecDepth 100000 in
theorem sqM_341 : ∀ b, sq 341 b (tG 341 b) := show ∀ b, sq 341 b (lkB tb341 b) from lkB_sq (List.forall_mem_cons.mpr ⟨sq341_0, List.forall_mem_cons.mpr ⟨sq341_22, List.forall_mem_cons.mpr ⟨sq341_23, List.forall_mem_cons.mpr ⟨sq341_24, List.forall_mem_cons.mpr ⟨sq341_46, List.forall_mem_cons.mpr ⟨sq341_47, List.forall_mem_cons.mpr ⟨sq341_48, List.forall_mem_cons.mpr ⟨sq341_72, List.forall_mem_cons.mpr ⟨sq341_77, List.forall_mem_cons.mpr ⟨sq341_81, List.forall_mem_cons.mpr ⟨sq341_82, List.forall_mem_cons.mpr ⟨sq341_83, List.forall_mem_cons.mpr ⟨sq341_111, List.forall_mem_cons.mpr ⟨sq341_112, List.forall_mem_cons.mpr ⟨sq341_113, List.forall_mem_cons.mpr ⟨sq341_117, List.forall_mem_cons.mpr ⟨sq341_147, List.forall_mem_cons.mpr ⟨sq341_151, List.forall_mem_cons.mpr ⟨sq341_155, List.forall_mem_cons.mpr ⟨sq341_156, (fun _ h => absurd h List.not_mem_nil)⟩⟩⟩⟩⟩⟩⟩⟩⟩⟩⟩⟩⟩⟩⟩⟩⟩⟩⟩⟩)
theorem sq342_256 : sq 342 256 B342_256 := sq_take 1 (e := 257) (by decide +kernel) True.intro
theorem sq342_255 : sq 342 255 B342_255 := sq_take 2 (e := 256) (by decide +kernel) sq342_256
theorem sq342_251 : sq 342 251 B342_251 := sq_take 3 (e := 255) (by decide +kernel) True.intro
theorem sq342_240 : sq 342 240 B342_240 := sq_take 6 (e := 251) (by decide +kernel) sq342_251
theorem sq342_223 : sq 342 223 B342_223 := sq_take 9 (e := 240) (by decide +kernel) sq342_240
theorem sq342_207 : sq 342 207 B342_207 := sq_take 8 (e := 223) (by decide +kernel) sq342_223
theorem sq342_206 : sq 342 206 B342_206 := sq_take 1 (e := 207) (by decide +kernel) sq342_207
theorem sq342_202 : sq 342 202 B342_202 := sq_take 3 (e := 206) (by decide +kernel) True.intro
theorem sq342_169 : sq 342 169 B342_169 := sq_take 17 (e := 202) (by decide +kernel) sq342_202
theorem sq342_168 : sq 342 168 B342_168 := sq_take 1 (e := 169) (by decide +kernel) sq342_169
theorem sq342_164 : sq 342 164 B342_164 := sq_take 3 (e := 168) (by decide +kernel) True.intro
theorem sq342_134 : sq 342 134 B342_134 := sq_take 14 (e := 164) (by decide +kernel) sq342_164
theorem sq342_133 : sq 342 133 B342_133 := sq_take 1 (e := 134) (by decide +kernel) True.intro
theorem sq342_132 : sq 342 132 B342_132 := sq_take 2 (e := 133) (by decide +kernel) sq342_133
theorem sq342_105 : sq 342 105 B342_105 := sq_take 13 (e := 132) (by decide +kernel) True.intro
theorem sq342_104 : sq 342 104 B342_104 := sq_take 1 (e := 105) (by decide +kernel) True.intro
theorem sq342_103 : sq 342 103 B342_103 := sq_take 2 (e := 104) (by decide +kernel) sq342_104
theorem sq342_82 : sq 342 82 B342_82 := sq_take 10 (e := 103) (by decide +kernel) True.intro
theorem sq342_81 : sq 342 81 B342_81 := sq_take 1 (e := 82) (by decide +kernel) True.intro
theorem sq342_80 : sq 342 80 B342_80 := sq_take 2 (e := 81) (by decide +kernel) sq342_81
theorem sq342_60 : sq 342 60 B342_60 := sq_take 11 (e := 80) (by decide +kernel) True.intro
theorem sq342_36 : sq 342 36 B342_36 := sq_take 11 (e := 60) (by decide +kernel) sq342_60
theorem sq342_0 : sq 342 0 B342_0 := sq_take 9 (e := 36) (by decide +kernel) True.intro
set_option maxRecDepth 100000 in
theorem sqM_342 : ∀ b, sq 342 b (tG 342 b) := show ∀ b, sq 342 b (lkB tb342 b) from lkB_sq (List.forall_mem_cons.mpr ⟨sq342_0, List.forall_mem_cons.mpr ⟨sq342_36, List.forall_mem_cons.mpr ⟨sq342_60, List.forall_mem_cons.mpr ⟨sq342_80, List.forall_mem_cons.mpr ⟨sq342_81, List.forall_mem_cons.mpr ⟨sq342_82, List.forall_mem_cons.mpr ⟨sq342_103, List.forall_mem_cons.mpr ⟨sq342_104, List.forall_mem_cons.mpr ⟨sq342_105, List.forall_mem_cons.mpr ⟨sq342_132, List.forall_mem_cons.mpr ⟨sq342_133, List.forall_mem_cons.mpr ⟨sq342_134, List.forall_mem_cons.mpr ⟨sq342_164, List.forall_mem_cons.mpr ⟨sq342_168, List.forall_mem_cons.mpr ⟨sq342_169, List.forall_mem_cons.mpr ⟨sq342_202, List.forall_mem_cons.mpr ⟨sq342_206, List.forall_mem_cons.mpr ⟨sq342_207, List.forall_mem_cons.mpr ⟨sq342_223, List.forall_mem_cons.mpr ⟨sq342_240, List.forall_mem_cons.mpr ⟨sq342_251, List.forall_mem_cons.mpr ⟨sq342_255, List.forall_mem_cons.mpr ⟨sq342_256, (fun _ h => absurd h List.not_mem_nil)⟩⟩⟩⟩⟩⟩⟩⟩⟩⟩⟩⟩⟩⟩⟩⟩⟩⟩⟩⟩⟩⟩⟩)
theorem sq343_116 : sq 343 116 B343_116 := sq_take 2 (e := 117) (by decide +kernel) True.intro
theorem sq343_113 : sq 343 113 B343_113 := sq_take 2 (e := 116) (by decide +kernel) sq343_116
theorem sq343_109 : sq 343 109 B343_109 := sq_take 3 (e := 113) (by decide +kernel) sq343_113
theorem sq343_105 : sq 343 105 B343_105 := sq_take 3 (e := 109) (by decide +kernel) sq343_109
theorem sq343_100 : sq 343 100 B343_100 := sq_take 3 (e := 105) (by decide +kernel) sq343_105
theorem sq343_99 : sq 343 99 B343_99 := sq_take 2 (e := 100) (by decide +kernel) True.intro
theorem sq343_96 : sq 343 96 B343_96 := sq_take 2 (e := 99) (by decide +kernel) sq343_99
theorem sq343_92 : sq 343 92 B343_92 := sq_take 3 (e := 96) (by decide +kernel) sq343_96
theorem sq343_88 : sq 343 88 B343_88 := sq_take 3 (e := 92) (by decide +kernel) sq343_92
theorem sq343_84 : sq 343 84 B343_84 := sq_take 3 (e := 88) (by decide +kernel) sq343_88
theorem sq343_79 : sq 343 79 B343_79 := sq_take 3 (e := 84) (by decide +kernel) sq343_84
theorem sq343_78 : sq 343 78 B343_78 := sq_take 2 (e := 79) (by decide +kernel) True.intro
theorem sq343_75 : sq 343 75 B343_75 := sq_take 2 (e := 78) (by decide +kernel) sq343_78
theorem sq343_71 : sq 343 71 B343_71 := sq_take 3 (e := 75) (by decide +kernel) sq343_75
theorem sq343_67 : sq 343 67 B343_67 := sq_take 3 (e := 71) (by decide +kernel) sq343_71
theorem sq343_63 : sq 343 63 B343_63 := sq_take 3 (e := 67) (by decide +kernel) sq343_67
theorem sq343_58 : sq 343 58 B343_58 := sq_take 3 (e := 63) (by decide +kernel) sq343_63
theorem sq343_56 : sq 343 56 B343_56 := sq_take 2 (e := 58) (by decide +kernel) True.intro
theorem sq343_4 : sq 343 4 B343_4 := sq_take 6 (e := 56) (by decide +kernel) True.intro
theorem sq343_0 : sq 343 0 B343_0 := sq_take 3 (e := 4) (by decide +kernel) sq343_4
set_option maxRecDepth 100000 in
theorem sqM_343 : ∀ b, sq 343 b (tG 343 b) := show ∀ b, sq 343 b (lkB tb343 b) from lkB_sq (List.forall_mem_cons.mpr ⟨sq343_0, List.forall_mem_cons.mpr ⟨sq343_4, List.forall_mem_cons.mpr ⟨sq343_56, List.forall_mem_cons.mpr ⟨sq343_58, List.forall_mem_cons.mpr ⟨sq343_63, List.forall_mem_cons.mpr ⟨sq343_67, List.forall_mem_cons.mpr ⟨sq343_71, List.forall_mem_cons.mpr ⟨sq343_75, List.forall_mem_cons.mpr ⟨sq343_78, List.forall_mem_cons.mpr ⟨sq343_79, List.forall_mem_cons.mpr ⟨sq343_84, List.forall_mem_cons.mpr ⟨sq343_88, List.forall_mem_cons.mpr ⟨sq343_92, List.forall_mem_cons.mpr ⟨sq343_96, List.forall_mem_cons.mpr ⟨sq343_99, List.forall_mem_cons.mpr ⟨sq343_100, List.forall_mem_cons.mpr ⟨sq343_105, List.forall_mem_cons.mpr ⟨sq343_109, List.forall_mem_cons.mpr ⟨sq343_113, List.forall_mem_cons.mpr ⟨sq343_116, (fun _ h => absurd h List.not_mem_nil)⟩⟩⟩⟩⟩⟩⟩⟩⟩⟩⟩⟩⟩⟩⟩⟩⟩⟩⟩⟩)
theorem sq344_91 : sq 344 91 B344_91 := sq_take 1 (e := 92) (by decide +kernel) True.intro
theorem sq344_90 : sq 344 90 B344_90 := sq_take 2 (e := 91) (by decide +kernel) sq344_91
theorem sq344_86 : sq 344 86 B344_86 := sq_take 3 (e := 90) (by decide +kernel) True.intro
theorem sq344_64 : sq 344 64 B344_64 := sq_take 12 (e := 86) (by decide +kernel) sq344_86
theorem sq344_57 : sq 344 57 B344_57 := sq_take 4 (e := 64) (by decide +kernel) sq344_64
theorem sq344_46 : sq 344 46 B344_46 := sq_take 6 (e := 57) (by decide +kernel) sq344_57
theorem sq344_40 : sq 344 40 B344_40 := sq_take 4 (e := 46) (by decide +kernel) sq344_46
theorem sq344_39 : sq 344 39 B344_39 := sq_take 2 (e := 40) (by decide +kernel) sq344_40
theorem sq344_22 : sq 344 22 B344_22 := sq_take 10 (e := 39) (by decide +kernel) True.intro
theorem sq344_13 : sq 344 13 B344_13 := sq_take 5 (e := 22) (by decide +kernel) sq344_22
theorem sq344_4 : sq 344 4 B344_4 := sq_take 5 (e := 13) (by decide +kernel) sq344_13
theorem sq344_0 : sq 344 0 B344_0 := sq_take 3 (e := 4) (by decide +kernel) sq344_4
set_option maxRecDepth 100000 in
theorem sqM_344 : ∀ b, sq 344 b (tG 344 b) := show ∀ b, sq 344 b (lkB tb344 b) from lkB_sq (List.forall_mem_cons.mpr ⟨sq344_0, List.forall_mem_cons.mpr ⟨sq344_4, List.forall_mem_cons.mpr ⟨sq344_13, List.forall_mem_cons.mpr ⟨sq344_22, List.forall_mem_cons.mpr ⟨sq344_39, List.forall_mem_cons.mpr ⟨sq344_40, List.forall_mem_cons.mpr ⟨sq344_46, List.forall_mem_cons.mpr ⟨sq344_57, List.forall_mem_cons.mpr ⟨sq344_64, List.forall_mem_cons.mpr ⟨sq344_86, List.forall_mem_cons.mpr ⟨sq344_90, List.forall_mem_cons.mpr ⟨sq344_91, (fun _ h => absurd h List.not_mem_nil)⟩⟩⟩⟩⟩⟩⟩⟩⟩⟩⟩⟩)
theorem sq345_73 : sq 345 73 B345_73 := sq_take 1 (e := 74) (by decide +kernel) True.intro
theorem sq345_72 : sq 345 72 B345_72 := sq_take 1 (e := 73) (by decide +kernel) sq345_73
theorem sq345_65 : sq 345 65 B345_65 := sq_take 4 (e := 72) (by decide +kernel) True.intro
theorem sq345_61 : sq 345 61 B345_61 := sq_take 2 (e := 65) (by decide +kernel) sq345_65
theorem sq345_60 : sq 345 60 B345_60 := sq_take 1 (e := 61) (by decide +kernel) True.intro
theorem sq345_59 : sq 345 59 B345_59 := sq_take 2 (e := 60) (by decide +kernel) sq345_60
theorem sq345_52 : sq 345 52 B345_52 := sq_take 4 (e := 59) (by decide +kernel) True.intro
theorem sq345_17 : sq 345 17 B345_17 := sq_take 23 (e := 52) (by decide +kernel) sq345_52
theorem sq345_0 : sq 345 0 B345_0 := sq_take 12 (e := 17) (by decide +kernel) sq345_17
set_option maxRecDepth 100000 in
theorem sqM_345 : ∀ b, sq 345 b (tG 345 b) := show ∀ b, sq 345 b (lkB tb345 b) from lkB_sq (List.forall_mem_cons.mpr ⟨sq345_0, List.forall_mem_cons.mpr ⟨sq345_17, List.forall_mem_cons.mpr ⟨sq345_52, List.forall_mem_cons.mpr ⟨sq345_59, List.forall_mem_cons.mpr ⟨sq345_60, List.forall_mem_cons.mpr ⟨sq345_61, List.forall_mem_cons.mpr ⟨sq345_65, List.forall_mem_cons.mpr ⟨sq345_72, List.forall_mem_cons.mpr ⟨sq345_73, (fun _ h => absurd h List.not_mem_nil)⟩⟩⟩⟩⟩⟩⟩⟩⟩)
theorem sq346_107 : sq 346 107 B346_107 := sq_take 16 (e := 129) (by decide +kernel) True.intro
theorem sq346_87 : sq 346 87 B346_87 := sq_take 11 (e := 107) (by decide +kernel) True.intro
theorem sq346_51 : sq 346 51 B346_51 := sq_take 21 (e := 87) (by decide +kernel) True.intro
theorem sq346_36 : sq 346 36 B346_36 := sq_take 10 (e := 51) (by decide +kernel) sq346_51
theorem sq346_34 : sq 346 34 B346_34 := sq_take 2 (e := 36) (by decide +kernel) sq346_36
theorem sq346_32 : sq 346 32 B346_32 := sq_take 2 (e := 34) (by decide +kernel) True.intro
theorem sq346_9 : sq 346 9 B346_9 := sq_take 12 (e := 32) (by decide +kernel) sq346_32
theorem sq346_4 : sq 346 4 B346_4 := sq_take 4 (e := 9) (by decide +kernel) sq346_9
theorem sq346_0 : sq 346 0 B346_0 := sq_take 3 (e := 4) (by decide +kernel) sq346_4
set_option maxRecDepth 100000 in
theorem sqM_346 : ∀ b, sq 346 b (tG 346 b) := show ∀ b, sq 346 b (lkB tb346 b) from lkB_sq (List.forall_mem_cons.mpr ⟨sq346_0, List.forall_mem_cons.mpr ⟨sq346_4, List.forall_mem_cons.mpr ⟨sq346_9, List.forall_mem_cons.mpr ⟨sq346_32, List.forall_mem_cons.mpr ⟨sq346_34, List.forall_mem_cons.mpr ⟨sq346_36, List.forall_mem_cons.mpr ⟨sq346_51, List.forall_mem_cons.mpr ⟨sq346_87, List.forall_mem_cons.mpr ⟨sq346_107, (fun _ h => absurd h List.not_mem_nil)⟩⟩⟩⟩⟩⟩⟩⟩⟩)
theorem sq347_17 : sq 347 17 B347_17 := sq_take 1 (e := 18) (by decide +kernel) True.intro
theorem sq347_16 : sq 347 16 B347_16 := sq_take 1 (e := 17) (by decide +kernel) sq347_17
theorem sq347_4 : sq 347 4 B347_4 := sq_take 7 (e := 16) (by decide +kernel) True.intro
theorem sq347_0 : sq 347 0 B347_0 := sq_take 3 (e := 4) (by decide +kernel) sq347_4
set_option maxRecDepth 100000 in
theorem sqM_347 : ∀ b, sq 347 b (tG 347 b) := show ∀ b, sq 347 b (lkB tb347 b) from lkB_sq (List.forall_mem_cons.mpr ⟨sq347_0, List.forall_mem_cons.mpr ⟨sq347_4, List.forall_mem_cons.mpr ⟨sq347_16, List.forall_mem_cons.mpr ⟨sq347_17, (fun _ h => absurd h List.not_mem_nil)⟩⟩⟩⟩)
theorem sq348_37 : sq 348 37 B348_37 := sq_take 1 (e := 38) (by decide +kernel) True.intro
theorem sq348_36 : sq 348 36 B348_36 := sq_take 2 (e := 37) (by decide +kernel) sq348_37
theorem sq348_4 : sq 348 4 B348_4 := sq_take 19 (e := 36) (by decide +kernel) True.intro
theorem sq348_0 : sq 348 0 B348_0 := sq_take 3 (e := 4) (by decide +kernel) sq348_4
set_option maxRecDepth 100000 in
theorem sqM_348 : ∀ b, sq 348 b (tG 348 b) := show ∀ b, sq 348 b (lkB tb348 b) from lkB_sq (List.forall_mem_cons.mpr ⟨sq348_0, List.forall_mem_cons.mpr ⟨sq348_4, List.forall_mem_cons.mpr ⟨sq348_36, List.forall_mem_cons.mpr ⟨sq348_37, (fun _ h => absurd h List.not_mem_nil)⟩⟩⟩⟩)
theorem sq349_0 : sq 349 0 B349_0 := sq_take 4 (e := 5) (by decide +kernel) True.intro
set_option maxRecDepth 100000 in
theorem sqM_349 : ∀ b, sq 349 b (tG 349 b) := show ∀ b, sq 349 b (lkB tb349 b) from lkB_sq (List.forall_mem_cons.mpr ⟨sq349_0, (fun _ h => absurd h List.not_mem_nil)⟩)
theorem sq350_26 : sq 350 26 B350_26 := sq_take 1 (e := 27) (by decide +kernel) True.intro
theorem sq350_25 : sq 350 25 B350_25 := sq_take 2 (e := 26) (by decide +kernel) sq350_26
theorem sq350_0 : sq 350 0 B350_0 := sq_take 14 (e := 25) (by decide +kernel) True.intro
set_option maxRecDepth 100000 in
theorem sqM_350 : ∀ b, sq 350 b (tG 350 b) := show ∀ b, sq 350 b (lkB tb350 b) from lkB_sq (List.forall_mem_cons.mpr ⟨sq350_0, List.forall_mem_cons.mpr ⟨sq350_25, List.forall_mem_cons.mpr ⟨sq350_26, (fun _ h => absurd h List.not_mem_nil)⟩⟩⟩)
theorem sq351_32 : sq 351 32 B351_32 := sq_take 1 (e := 33) (by decide +kernel) True.intro
theorem sq351_31 : sq 351 31 B351_31 := sq_take 1 (e := 32) (by decide +kernel) sq351_32
theorem sq351_0 : sq 351 0 B351_0 := sq_take 18 (e := 31) (by decide +kernel) True.intro
set_option maxRecDepth 100000 in
theorem sqM_351 : ∀ b, sq 351 b (tG 351 b) := show ∀ b, sq 351 b (lkB tb351 b) from lkB_sq (List.forall_mem_cons.mpr ⟨sq351_0, List.forall_mem_cons.mpr ⟨sq351_31, List.forall_mem_cons.mpr ⟨sq351_32, (fun _ h => absurd h List.not_mem_nil)⟩⟩⟩)
theorem sq352_17 : sq 352 17 B352_17 := sq_take 1 (e := 18) (by decide +kernel) True.intro
theorem sq352_16 : sq 352 16 B352_16 := sq_take 2 (e := 17) (by decide +kernel) sq352_17
theorem sq352_0 : sq 352 0 B352_0 := sq_take 9 (e := 16) (by decide +kernel) True.intro
set_option maxRecDepth 100000 in
theorem sqM_352 : ∀ b, sq 352 b (tG 352 b) := show ∀ b, sq 352 b (lkB tb352 b) from lkB_sq (List.forall_mem_cons.mpr ⟨sq352_0, List.forall_mem_cons.mpr ⟨sq352_16, List.forall_mem_cons.mpr ⟨sq352_17, (fun _ h => absurd h List.not_mem_nil)⟩⟩⟩)
theorem sq353_35 : sq 353 35 B353_35 := sq_take 1 (e := 36) (by decide +kernel) True.intro
theorem sq353_34 : sq 353 34 B353_34 := sq_take 1 (e := 35) (by decide +kernel) sq353_35
theorem sq353_30 : sq 353 30 B353_30 := sq_take 3 (e := 34) (by decide +kernel) True.intro
theorem sq353_24 : sq 353 24 B353_24 := sq_take 4 (e := 30) (by decide +kernel) sq353_30
theorem sq353_12 : sq 353 12 B353_12 := sq_take 7 (e := 24) (by decide +kernel) sq353_24
theorem sq353_0 : sq 353 0 B353_0 := sq_take 7 (e := 12) (by decide +kernel) sq353_12
set_option maxRecDepth 100000 in
theorem sqM_353 : ∀ b, sq 353 b (tG 353 b) := show ∀ b, sq 353 b (lkB tb353 b) from lkB_sq (List.forall_mem_cons.mpr ⟨sq353_0, List.forall_mem_cons.mpr ⟨sq353_12, List.forall_mem_cons.mpr ⟨sq353_24, List.forall_mem_cons.mpr ⟨sq353_30, List.forall_mem_cons.mpr ⟨sq353_34, List.forall_mem_cons.mpr ⟨sq353_35, (fun _ h => absurd h List.not_mem_nil)⟩⟩⟩⟩⟩⟩)
