theorem sq121_19 : sq 121 19 B121_19 := sq_take 2 (e := 20) (by decide +kernel) True.intro
theorem sq121_12 : sq 121 12 B121_12 := sq_take 5 (e := 19) (by decide +kernel) sq121_19
theorem sq121_10 : sq 121 10 B121_10 := sq_take 1 (e := 12) (by decide +kernel) sq121_12
theorem sq121_0 : sq 121 0 B121_0 := sq_take 6 (e := 10) (by decide +kernel) True.intro
set_option maxRecDepth 100000 in
theorem sqM_121 : ∀ b, sq 121 b (tG 121 b) := show ∀ b, sq 121 b (lkB tb121 b) from lkB_sq (List.forall_mem_cons.mpr ⟨sq121_0, List.forall_mem_cons.mpr ⟨sq121_10, List.forall_mem_cons.mpr ⟨sq121_12, List.forall_mem_cons.mpr ⟨sq121_19, (fun _ h => absurd h List.not_mem_nil)⟩⟩⟩⟩)
theorem sq122_190 : sq 122 190 B122_190 := sq_take 2 (e := 191) (by decide +kernel) True.intro
theorem sq122_166 : sq 122 166 B122_166 := sq_take 12 (e := 190) (by decide +kernel) sq122_190
theorem sq122_163 : sq 122 163 B122_163 := sq_take 2 (e := 166) (by decide +kernel) sq122_166
theorem sq122_156 : sq 122 156 B122_156 := sq_take 5 (e := 163) (by decide +kernel) sq122_163
theorem sq122_153 : sq 122 153 B122_153 := sq_take 2 (e := 156) (by decide +kernel) True.intro
theorem sq122_150 : sq 122 150 B122_150 := sq_take 2 (e := 153) (by decide +kernel) sq122_153
theorem sq122_141 : sq 122 141 B122_141 := sq_take 6 (e := 150) (by decide +kernel) sq122_150
theorem sq122_138 : sq 122 138 B122_138 := sq_take 2 (e := 141) (by decide +kernel) sq122_141
theorem sq122_126 : sq 122 126 B122_126 := sq_take 6 (e := 138) (by decide +kernel) sq122_138
theorem sq122_123 : sq 122 123 B122_123 := sq_take 2 (e := 126) (by decide +kernel) True.intro
theorem sq122_118 : sq 122 118 B122_118 := sq_take 3 (e := 123) (by decide +kernel) sq122_123
theorem sq122_111 : sq 122 111 B122_111 := sq_take 5 (e := 118) (by decide +kernel) sq122_118
theorem sq122_109 : sq 122 109 B122_109 := sq_take 1 (e := 111) (by decide +kernel) sq122_111
theorem sq122_97 : sq 122 97 B122_97 := sq_take 7 (e := 109) (by decide +kernel) True.intro
theorem sq122_85 : sq 122 85 B122_85 := sq_take 5 (e := 97) (by decide +kernel) sq122_97
theorem sq122_82 : sq 122 82 B122_82 := sq_take 2 (e := 85) (by decide +kernel) True.intro
theorem sq122_71 : sq 122 71 B122_71 := sq_take 7 (e := 82) (by decide +kernel) sq122_82
theorem sq122_56 : sq 122 56 B122_56 := sq_take 7 (e := 71) (by decide +kernel) sq122_71
theorem sq122_53 : sq 122 53 B122_53 := sq_take 2 (e := 56) (by decide +kernel) True.intro
theorem sq122_48 : sq 122 48 B122_48 := sq_take 3 (e := 53) (by decide +kernel) sq122_53
theorem sq122_32 : sq 122 32 B122_32 := sq_take 9 (e := 48) (by decide +kernel) sq122_48
theorem sq122_31 : sq 122 31 B122_31 := sq_take 1 (e := 32) (by decide +kernel) sq122_32
theorem sq122_16 : sq 122 16 B122_16 := sq_take 9 (e := 31) (by decide +kernel) True.intro
theorem sq122_4 : sq 122 4 B122_4 := sq_take 8 (e := 16) (by decide +kernel) sq122_16
theorem sq122_0 : sq 122 0 B122_0 := sq_take 3 (e := 4) (by decide +kernel) sq122_4
set_option maxRecDepth 100000 in
theorem sqM_122 : ∀ b, sq 122 b (tG 122 b) := show ∀ b, sq 122 b (lkB tb122 b) from lkB_sq (List.forall_mem_cons.mpr ⟨sq122_0, List.forall_mem_cons.mpr ⟨sq122_4, List.forall_mem_cons.mpr ⟨sq122_16, List.forall_mem_cons.mpr ⟨sq122_31, List.forall_mem_cons.mpr ⟨sq122_32, List.forall_mem_cons.mpr ⟨sq122_48, List.forall_mem_cons.mpr ⟨sq122_53, List.forall_mem_cons.mpr ⟨sq122_56, List.forall_mem_cons.mpr ⟨sq122_71, List.forall_mem_cons.mpr ⟨sq122_82, List.forall_mem_cons.mpr ⟨sq122_85, List.forall_mem_cons.mpr ⟨sq122_97, List.forall_mem_cons.mpr ⟨sq122_109, List.forall_mem_cons.mpr ⟨sq122_111, List.forall_mem_cons.mpr ⟨sq122_118, List.forall_mem_cons.mpr ⟨sq122_123, List.forall_mem_cons.mpr ⟨sq122_126, List.forall_mem_cons.mpr ⟨sq122_138, List.forall_mem_cons.mpr ⟨sq122_141, List.forall_mem_cons.mpr ⟨sq122_150, List.forall_mem_cons.mpr ⟨sq122_153, List.forall_mem_cons.mpr ⟨sq122_156, List.forall_mem_cons.mpr ⟨sq122_163, List.forall_mem_cons.mpr ⟨sq122_166, List.forall_mem_cons.mpr ⟨sq122_190, (fun _ h => absurd h List.not_mem_nil)⟩⟩⟩⟩⟩⟩⟩⟩⟩⟩⟩⟩⟩⟩⟩⟩⟩⟩⟩⟩⟩⟩⟩⟩⟩)
theorem sq123_202 : sq 123 202 B123_202 := sq_take 2 (e := 203) (by decide +kernel) True.intro
theorem sq123_191 : sq 123 191 B123_191 := sq_take 6 (e := 202) (by decide +kernel) sq123_202
theorem sq123_188 : sq 123 188 B123_188 := sq_take 2 (e := 191) (by decide +kernel) True.intro
theorem sq123_176 : sq 123 176 B123_176 := sq_take 7 (e := 188) (by decide +kernel) sq123_188
theorem sq123_173 : sq 123 173 B123_173 := sq_take 2 (e := 176) (by decide +kernel) sq123_176
theorem sq123_172 : sq 123 172 B123_172 := sq_take 1 (e := 173) (by decide +kernel) sq123_173
theorem sq123_155 : sq 123 155 B123_155 := sq_take 9 (e := 172) (by decide +kernel) True.intro
theorem sq123_144 : sq 123 144 B123_144 := sq_take 7 (e := 155) (by decide +kernel) sq123_155
theorem sq123_136 : sq 123 136 B123_136 := sq_take 4 (e := 144) (by decide +kernel) sq123_144
theorem sq123_133 : sq 123 133 B123_133 := sq_take 2 (e := 136) (by decide +kernel) True.intro
theorem sq123_121 : sq 123 121 B123_121 := sq_take 7 (e := 133) (by decide +kernel) sq123_133
theorem sq123_118 : sq 123 118 B123_118 := sq_take 2 (e := 121) (by decide +kernel) sq123_121
theorem sq123_117 : sq 123 117 B123_117 := sq_take 1 (e := 118) (by decide +kernel) sq123_118
theorem sq123_109 : sq 123 109 B123_109 := sq_take 5 (e := 117) (by decide +kernel) True.intro
theorem sq123_101 : sq 123 101 B123_101 := sq_take 6 (e := 109) (by decide +kernel) sq123_109
theorem sq123_98 : sq 123 98 B123_98 := sq_take 2 (e := 101) (by decide +kernel) sq123_101
theorem sq123_97 : sq 123 97 B123_97 := sq_take 1 (e := 98) (by decide +kernel) sq123_98
theorem sq123_89 : sq 123 89 B123_89 := sq_take 5 (e := 97) (by decide +kernel) True.intro
theorem sq123_80 : sq 123 80 B123_80 := sq_take 5 (e := 89) (by decide +kernel) sq123_89
theorem sq123_25 : sq 123 25 B123_25 := sq_take 4 (e := 80) (by decide +kernel) True.intro
theorem sq123_22 : sq 123 22 B123_22 := sq_take 2 (e := 25) (by decide +kernel) sq123_25
theorem sq123_14 : sq 123 14 B123_14 := sq_take 5 (e := 22) (by decide +kernel) sq123_22
theorem sq123_4 : sq 123 4 B123_4 := sq_take 6 (e := 14) (by decide +kernel) sq123_14
theorem sq123_0 : sq 123 0 B123_0 := sq_take 3 (e := 4) (by decide +kernel) sq123_4
set_option maxRecDepth 100000 in
theorem sqM_123 : ∀ b, sq 123 b (tG 123 b) := show ∀ b, sq 123 b (lkB tb123 b) from lkB_sq (List.forall_mem_cons.mpr ⟨sq123_0, List.forall_mem_cons.mpr ⟨sq123_4, List.forall_mem_cons.mpr ⟨sq123_14, List.forall_mem_cons.mpr ⟨sq123_22, List.forall_mem_cons.mpr ⟨sq123_25, List.forall_mem_cons.mpr ⟨sq123_80, List.forall_mem_cons.mpr ⟨sq123_89, List.forall_mem_cons.mpr ⟨sq123_97, List.forall_mem_cons.mpr ⟨sq123_98, List.forall_mem_cons.mpr ⟨sq123_101, List.forall_mem_cons.mpr ⟨sq123_109, List.forall_mem_cons.mpr ⟨sq123_117, List.forall_mem_cons.mpr ⟨sq123_118, List.forall_mem_cons.mpr ⟨sq123_121, List.forall_mem_cons.mpr ⟨sq123_133, List.forall_mem_cons.mpr ⟨sq123_136, List.forall_mem_cons.mpr ⟨sq123_144, List.forall_mem_cons.mpr ⟨sq123_155, List.forall_mem_cons.mpr ⟨sq123_172, List.forall_mem_cons.mpr ⟨sq123_173, List.forall_mem_cons.mpr ⟨sq123_176, List.forall_mem_cons.mpr ⟨sq123_188, List.forall_mem_cons.mpr ⟨sq123_191, List.forall_mem_cons.mpr ⟨sq123_202, (fun _ h => absurd h List.not_mem_nil)⟩⟩⟩⟩⟩⟩⟩⟩⟩⟩⟩⟩⟩⟩⟩⟩⟩⟩⟩⟩⟩⟩⟩⟩)
theorem sq124_68 : sq 124 68 B124_68 := sq_take 2 (e := 69) (by decide +kernel) True.intro
theorem sq124_62 : sq 124 62 B124_62 := sq_take 5 (e := 68) (by decide +kernel) sq124_68
theorem sq124_61 : sq 124 61 B124_61 := sq_take 1 (e := 62) (by decide +kernel) sq124_62
theorem sq124_49 : sq 124 49 B124_49 := sq_take 6 (e := 61) (by decide +kernel) True.intro
theorem sq124_46 : sq 124 46 B124_46 := sq_take 2 (e := 49) (by decide +kernel) True.intro
theorem sq124_36 : sq 124 36 B124_36 := sq_take 7 (e := 46) (by decide +kernel) sq124_46
theorem sq124_22 : sq 124 22 B124_22 := sq_take 7 (e := 36) (by decide +kernel) sq124_36
theorem sq124_19 : sq 124 19 B124_19 := sq_take 2 (e := 22) (by decide +kernel) True.intro
theorem sq124_0 : sq 124 0 B124_0 := sq_take 12 (e := 19) (by decide +kernel) sq124_19
set_option maxRecDepth 100000 in
theorem sqM_124 : ∀ b, sq 124 b (tG 124 b) := show ∀ b, sq 124 b (lkB tb124 b) from lkB_sq (List.forall_mem_cons.mpr ⟨sq124_0, List.forall_mem_cons.mpr ⟨sq124_19, List.forall_mem_cons.mpr ⟨sq124_22, List.forall_mem_cons.mpr ⟨sq124_36, List.forall_mem_cons.mpr ⟨sq124_46, List.forall_mem_cons.mpr ⟨sq124_49, List.forall_mem_cons.mpr ⟨sq124_61, List.forall_mem_cons.mpr ⟨sq124_62, List.forall_mem_cons.mpr ⟨sq124_68, (fun _ h => absurd h List.not_mem_nil)⟩⟩⟩⟩⟩⟩⟩⟩⟩)
theorem sq125_137 : sq 125 137 B125_137 := sq_take 2 (e := 138) (by decide +kernel) True.intro
theorem sq125_133 : sq 125 133 B125_133 := sq_take 3 (e := 137) (by decide +kernel) sq125_137
theorem sq125_128 : sq 125 128 B125_128 := sq_take 4 (e := 133) (by decide +kernel) sq125_133
theorem sq125_121 : sq 125 121 B125_121 := sq_take 4 (e := 128) (by decide +kernel) sq125_128
theorem sq125_118 : sq 125 118 B125_118 := sq_take 2 (e := 121) (by decide +kernel) True.intro
theorem sq125_109 : sq 125 109 B125_109 := sq_take 7 (e := 118) (by decide +kernel) sq125_118
theorem sq125_107 : sq 125 107 B125_107 := sq_take 1 (e := 109) (by decide +kernel) sq125_109
theorem sq125_93 : sq 125 93 B125_93 := sq_take 7 (e := 107) (by decide +kernel) True.intro
theorem sq125_72 : sq 125 72 B125_72 := sq_take 9 (e := 93) (by decide +kernel) sq125_93
theorem sq125_69 : sq 125 69 B125_69 := sq_take 2 (e := 72) (by decide +kernel) True.intro
theorem sq125_56 : sq 125 56 B125_56 := sq_take 9 (e := 69) (by decide +kernel) sq125_69
theorem sq125_53 : sq 125 53 B125_53 := sq_take 2 (e := 56) (by decide +kernel) True.intro
theorem sq125_48 : sq 125 48 B125_48 := sq_take 4 (e := 53) (by decide +kernel) sq125_53
theorem sq125_38 : sq 125 38 B125_38 := sq_take 6 (e := 48) (by decide +kernel) sq125_48
theorem sq125_26 : sq 125 26 B125_26 := sq_take 5 (e := 38) (by decide +kernel) sq125_38
theorem sq125_23 : sq 125 23 B125_23 := sq_take 2 (e := 26) (by decide +kernel) True.intro
theorem sq125_4 : sq 125 4 B125_4 := sq_take 11 (e := 23) (by decide +kernel) sq125_23
theorem sq125_0 : sq 125 0 B125_0 := sq_take 3 (e := 4) (by decide +kernel) sq125_4
set_option maxRecDepth 100000 in
theorem sqM_125 : ∀ b, sq 125 b (tG 125 b) := show ∀ b, sq 125 b (lkB tb125 b) from lkB_sq (List.forall_mem_cons.mpr ⟨sq125_0, List.forall_mem_cons.mpr ⟨sq125_4, List.forall_mem_cons.mpr ⟨sq125_23, List.forall_mem_cons.mpr ⟨sq125_26, List.forall_mem_cons.mpr ⟨sq125_38, List.forall_mem_cons.mpr ⟨sq125_48, List.forall_mem_cons.mpr ⟨sq125_53, List.forall_mem_cons.mpr ⟨sq125_56, List.forall_mem_cons.mpr ⟨sq125_69, List.forall_mem_cons.mpr ⟨sq125_72, List.forall_mem_cons.mpr ⟨sq125_93, List.forall_mem_cons.mpr ⟨sq125_107, List.forall_mem_cons.mpr ⟨sq125_109, List.forall_mem_cons.mpr ⟨sq125_118, List.forall_mem_cons.mpr ⟨sq125_121, List.forall_mem_cons.mpr ⟨sq125_128, List.forall_mem_cons.mpr ⟨sq125_133, List.forall_mem_cons.mpr ⟨sq125_137, (fun _ h => absurd h List.not_mem_nil)⟩⟩⟩⟩⟩⟩⟩⟩⟩⟩⟩⟩⟩⟩⟩⟩⟩⟩)
theorem sq126_140 : sq 126 140 B126_140 := sq_take 2 (e := 141) (by decide +kernel) True.intro
theorem sq126_137 : sq 126 137 B126_137 := sq_take 2 (e := 140) (by decide +kernel) sq126_140
theorem sq126_135 : sq 126 135 B126_135 := sq_take 1 (e := 137) (by decide +kernel) sq126_137
theorem sq126_125 : sq 126 125 B126_125 := sq_take 5 (e := 135) (by decide +kernel) True.intro
theorem sq126_123 : sq 126 123 B126_123 := sq_take 1 (e := 125) (by decide +kernel) sq126_125
theorem sq126_108 : sq 126 108 B126_108 := sq_take 8 (e := 123) (by decide +kernel) True.intro
theorem sq126_100 : sq 126 100 B126_100 := sq_take 5 (e := 108) (by decide +kernel) sq126_108
theorem sq126_99 : sq 126 99 B126_99 := sq_take 1 (e := 100) (by decide +kernel) sq126_100
theorem sq126_87 : sq 126 87 B126_87 := sq_take 6 (e := 99) (by decide +kernel) True.intro
theorem sq126_79 : sq 126 79 B126_79 := sq_take 5 (e := 87) (by decide +kernel) sq126_87
theorem sq126_69 : sq 126 69 B126_69 := sq_take 6 (e := 79) (by decide +kernel) sq126_79
theorem sq126_57 : sq 126 57 B126_57 := sq_take 7 (e := 69) (by decide +kernel) sq126_69
theorem sq126_56 : sq 126 56 B126_56 := sq_take 1 (e := 57) (by decide +kernel) sq126_57
theorem sq126_52 : sq 126 52 B126_52 := sq_take 3 (e := 56) (by decide +kernel) True.intro
theorem sq126_0 : sq 126 0 B126_0 := sq_take 26 (e := 52) (by decide +kernel) sq126_52
set_option maxRecDepth 100000 in
theorem sqM_126 : ∀ b, sq 126 b (tG 126 b) := show ∀ b, sq 126 b (lkB tb126 b) from lkB_sq (List.forall_mem_cons.mpr ⟨sq126_0, List.forall_mem_cons.mpr ⟨sq126_52, List.forall_mem_cons.mpr ⟨sq126_56, List.forall_mem_cons.mpr ⟨sq126_57, List.forall_mem_cons.mpr ⟨sq126_69, List.forall_mem_cons.mpr ⟨sq126_79, List.forall_mem_cons.mpr ⟨sq126_87, List.forall_mem_cons.mpr ⟨sq126_99, List.forall_mem_cons.mpr ⟨sq126_100, List.forall_mem_cons.mpr ⟨sq126_108, List.forall_mem_cons.mpr ⟨sq126_123, List.forall_mem_cons.mpr ⟨sq126_125, List.forall_mem_cons.mpr ⟨sq126_135, List.forall_mem_cons.mpr ⟨sq126_137, List.forall_mem_cons.mpr ⟨sq126_140, (fun _ h => absurd h List.not_mem_nil)⟩⟩⟩⟩⟩⟩⟩⟩⟩⟩⟩⟩⟩⟩⟩)
theorem sq127_102 : sq 127 102 B127_102 := sq_take 2 (e := 105) (by decide +kernel) True.intro
theorem sq127_99 : sq 127 99 B127_99 := sq_take 2 (e := 102) (by decide +kernel) True.intro
theorem sq127_96 : sq 127 96 B127_96 := sq_take 2 (e := 99) (by decide +kernel) True.intro
theorem sq127_93 : sq 127 93 B127_93 := sq_take 2 (e := 96) (by decide +kernel) True.intro
theorem sq127_90 : sq 127 90 B127_90 := sq_take 2 (e := 93) (by decide +kernel) True.intro
theorem sq127_87 : sq 127 87 B127_87 := sq_take 2 (e := 90) (by decide +kernel) True.intro
theorem sq127_84 : sq 127 84 B127_84 := sq_take 2 (e := 87) (by decide +kernel) True.intro
theorem sq127_0 : sq 127 0 B127_0 := sq_take 3 (e := 84) (by decide +kernel) True.intro
set_option maxRecDepth 100000 in
theorem sqM_127 : ∀ b, sq 127 b (tG 127 b) := show ∀ b, sq 127 b (lkB tb127 b) from lkB_sq (List.forall_mem_cons.mpr ⟨sq127_0, List.forall_mem_cons.mpr ⟨sq127_84, List.forall_mem_cons.mpr ⟨sq127_87, List.forall_mem_cons.mpr ⟨sq127_90, List.forall_mem_cons.mpr ⟨sq127_93, List.forall_mem_cons.mpr ⟨sq127_96, List.forall_mem_cons.mpr ⟨sq127_99, List.forall_mem_cons.mpr ⟨sq127_102, (fun _ h => absurd h List.not_mem_nil)⟩⟩⟩⟩⟩⟩⟩⟩)
theorem sq128_242 : sq 128 242 B128_242 := sq_take 1 (e := 243) (by decide +kernel) True.intro
theorem sq128_241 : sq 128 241 B128_241 := sq_take 2 (e := 242) (by decide +kernel) sq128_242
theorem sq128_230 : sq 128 230 B128_230 := sq_take 6 (e := 241) (by decide +kernel) sq128_241
theorem sq128_227 : sq 128 227 B128_227 := sq_take 2 (e := 230) (by decide +kernel) True.intro
theorem sq128_216 : sq 128 216 B128_216 := sq_take 5 (e := 227) (by decide +kernel) sq128_227
theorem sq128_213 : sq 128 213 B128_213 := sq_take 2 (e := 216) (by decide +kernel) True.intro
theorem sq128_200 : sq 128 200 B128_200 := sq_take 6 (e := 213) (by decide +kernel) sq128_213
theorem sq128_184 : sq 128 184 B128_184 := sq_take 7 (e := 200) (by decide +kernel) True.intro
theorem sq128_172 : sq 128 172 B128_172 := sq_take 6 (e := 184) (by decide +kernel) True.intro
theorem sq128_146 : sq 128 146 B128_146 := sq_take 13 (e := 172) (by decide +kernel) sq128_172
theorem sq128_143 : sq 128 143 B128_143 := sq_take 2 (e := 146) (by decide +kernel) True.intro
theorem sq128_104 : sq 128 104 B128_104 := sq_take 21 (e := 143) (by decide +kernel) sq128_143
theorem sq128_43 : sq 128 43 B128_43 := sq_take 43 (e := 104) (by decide +kernel) sq128_104
theorem sq128_37 : sq 128 37 B128_37 := sq_take 4 (e := 43) (by decide +kernel) True.intro
theorem sq128_0 : sq 128 0 B128_0 := sq_take 20 (e := 37) (by decide +kernel) sq128_37
set_option maxRecDepth 100000 in
theorem sqM_128 : ∀ b, sq 128 b (tG 128 b) := show ∀ b, sq 128 b (lkB tb128 b) from lkB_sq (List.forall_mem_cons.mpr ⟨sq128_0, List.forall_mem_cons.mpr ⟨sq128_37, List.forall_mem_cons.mpr ⟨sq128_43, List.forall_mem_cons.mpr ⟨sq128_104, List.forall_mem_cons.mpr ⟨sq128_143, List.forall_mem_cons.mpr ⟨sq128_146, List.forall_mem_cons.mpr ⟨sq128_172, List.forall_mem_cons.mpr ⟨sq128_184, List.forall_mem_cons.mpr ⟨sq128_200, List.forall_mem_cons.mpr ⟨sq128_213, List.forall_mem_cons.mpr ⟨sq128_216, List.forall_mem_cons.mpr ⟨sq128_227, List.forall_mem_cons.mpr ⟨sq128_230, List.forall_mem_cons.mpr ⟨sq128_241, List.forall_mem_cons.mpr ⟨sq128_242, (fun _ h => absurd h List.not_mem_nil)⟩⟩⟩⟩⟩⟩⟩⟩⟩⟩⟩⟩⟩⟩⟩)
theorem sq129_121 : sq 129 121 B129_121 := sq_take 1 (e := 122) (by decide +kernel) True.intro
theorem sq129_120 : sq 129 120 B129_120 := sq_take 1 (e := 121) (by decide +kernel) sq129_121
theorem sq129_110 : sq 129 110 B129_110 := sq_take 6 (e := 120) (by decide +kernel) True.intro
theorem sq129_109 : sq 129 109 B129_109 := sq_take 1 (e := 110) (by decide +kernel) True.intro
theorem sq129_108 : sq 129 108 B129_108 := sq_take 1 (e := 109) (by decide +kernel) sq129_109
theorem sq129_98 : sq 129 98 B129_98 := sq_take 6 (e := 108) (by decide +kernel) True.intro
theorem sq129_97 : sq 129 97 B129_97 := sq_take 1 (e := 98) (by decide +kernel) True.intro
theorem sq129_96 : sq 129 96 B129_96 := sq_take 1 (e := 97) (by decide +kernel) sq129_97
theorem sq129_84 : sq 129 84 B129_84 := sq_take 8 (e := 96) (by decide +kernel) True.intro
theorem sq129_83 : sq 129 83 B129_83 := sq_take 1 (e := 84) (by decide +kernel) True.intro
theorem sq129_82 : sq 129 82 B129_82 := sq_take 1 (e := 83) (by decide +kernel) sq129_83
theorem sq129_75 : sq 129 75 B129_75 := sq_take 4 (e := 82) (by decide +kernel) True.intro
theorem sq129_70 : sq 129 70 B129_70 := sq_take 3 (e := 75) (by decide +kernel) sq129_75
theorem sq129_69 : sq 129 69 B129_69 := sq_take 2 (e := 70) (by decide +kernel) True.intro
theorem sq129_64 : sq 129 64 B129_64 := sq_take 3 (e := 69) (by decide +kernel) sq129_69
theorem sq129_63 : sq 129 63 B129_63 := sq_take 1 (e := 64) (by decide +kernel) True.intro
theorem sq129_62 : sq 129 62 B129_62 := sq_take 1 (e := 63) (by decide +kernel) sq129_63
theorem sq129_52 : sq 129 52 B129_52 := sq_take 6 (e := 62) (by decide +kernel) True.intro
theorem sq129_51 : sq 129 51 B129_51 := sq_take 1 (e := 52) (by decide +kernel) True.intro
theorem sq129_50 : sq 129 50 B129_50 := sq_take 1 (e := 51) (by decide +kernel) sq129_51
theorem sq129_40 : sq 129 40 B129_40 := sq_take 6 (e := 50) (by decide +kernel) True.intro
theorem sq129_0 : sq 129 0 B129_0 := sq_take 3 (e := 40) (by decide +kernel) True.intro
set_option maxRecDepth 100000 in
theorem sqM_129 : ∀ b, sq 129 b (tG 129 b) := show ∀ b, sq 129 b (lkB tb129 b) from lkB_sq (List.forall_mem_cons.mpr ⟨sq129_0, List.forall_mem_cons.mpr ⟨sq129_40, List.forall_mem_cons.mpr ⟨sq129_50, List.forall_mem_cons.mpr ⟨sq129_51, List.forall_mem_cons.mpr ⟨sq129_52, List.forall_mem_cons.mpr ⟨sq129_62, List.forall_mem_cons.mpr ⟨sq129_63, List.forall_mem_cons.mpr ⟨sq129_64, List.forall_mem_cons.mpr ⟨sq129_69, List.forall_mem_cons.mpr ⟨sq129_70, List.forall_mem_cons.mpr ⟨sq129_75, List.forall_mem_cons.mpr ⟨sq129_82, List.forall_mem_cons.mpr ⟨sq129_83, List.forall_mem_cons.mpr ⟨sq129_84, List.forall_mem_cons.mpr ⟨sq129_96, List.forall_mem_cons.mpr ⟨sq129_97, List.forall_mem_cons.mpr ⟨sq129_98, List.forall_mem_cons.mpr ⟨sq129_108, List.forall_mem_cons.mpr ⟨sq129_109, List.forall_mem_cons.mpr ⟨sq129_110, List.forall_mem_cons.mpr ⟨sq129_120, List.forall_mem_cons.mpr ⟨sq129_121, (fun _ h => absurd h List.not_mem_nil)⟩⟩⟩⟩⟩⟩⟩⟩⟩⟩⟩⟩⟩⟩⟩⟩⟩⟩⟩⟩⟩⟩)
theorem sq130_243 : sq 130 243 B130_243 := sq_take 1 (e := 244) (by decide +kernel) True.intro
theorem sq130_242 : sq 130 242 B130_242 := sq_take 2 (e := 243) (by decide +kernel) sq130_243
theorem sq130_225 : sq 130 225 B130_225 := sq_take 10 (e := 242) (by decide +kernel) sq130_242
theorem sq130_222 : sq 130 222 B130_222 := sq_take 2 (e := 225) (by decide +kernel) True.intro
theorem sq130_204 : sq 130 204 B130_204 := sq_take 12 (e := 222) (by decide +kernel) sq130_222
theorem sq130_200 : sq 130 200 B130_200 := sq_take 3 (e := 204) (by decide +kernel) True.intro
theorem sq130_183 : sq 130 183 B130_183 := sq_take 11 (e := 200) (by decide +kernel) sq130_200
theorem sq130_179 : sq 130 179 B130_179 := sq_take 3 (e := 183) (by decide +kernel) True.intro
theorem sq130_166 : sq 130 166 B130_166 := sq_take 7 (e := 179) (by decide +kernel) sq130_179
theorem sq130_162 : sq 130 162 B130_162 := sq_take 3 (e := 166) (by decide +kernel) True.intro
theorem sq130_149 : sq 130 149 B130_149 := sq_take 7 (e := 162) (by decide +kernel) sq130_162
theorem sq130_133 : sq 130 133 B130_133 := sq_take 9 (e := 149) (by decide +kernel) True.intro
theorem sq130_121 : sq 130 121 B130_121 := sq_take 7 (e := 133) (by decide +kernel) True.intro
theorem sq130_100 : sq 130 100 B130_100 := sq_take 13 (e := 121) (by decide +kernel) True.intro
theorem sq130_0 : sq 130 0 B130_0 := sq_take 6 (e := 100) (by decide +kernel) True.intro
set_option maxRecDepth 100000 in
theorem sqM_130 : ∀ b, sq 130 b (tG 130 b) := show ∀ b, sq 130 b (lkB tb130 b) from lkB_sq (List.forall_mem_cons.mpr ⟨sq130_0, List.forall_mem_cons.mpr ⟨sq130_100, List.forall_mem_cons.mpr ⟨sq130_121, List.forall_mem_cons.mpr ⟨sq130_133, List.forall_mem_cons.mpr ⟨sq130_149, List.forall_mem_cons.mpr ⟨sq130_162, List.forall_mem_cons.mpr ⟨sq130_166, List.forall_mem_cons.mpr ⟨sq130_179, List.forall_mem_cons.mpr ⟨sq130_183, List.forall_mem_cons.mpr ⟨sq130_200, List.forall_mem_cons.mpr ⟨sq130_204, List.forall_mem_cons.mpr ⟨sq130_222, List.forall_mem_cons.mpr ⟨sq130_225, List.forall_mem_cons.mpr ⟨sq130_242, List.forall_mem_cons.mpr ⟨sq130_243, (fun _ h => absurd h List.not_mem_nil)⟩⟩⟩⟩⟩⟩⟩⟩⟩⟩⟩⟩⟩⟩⟩)
theorem sq131_122 : sq 131 122 B131_122 := sq_take 5 (e := 127) (by decide +kernel) True.intro
theorem sq131_117 : sq 131 117 B131_117 := sq_take 5 (e := 122) (by decide +kernel) True.intro
theorem sq131_112 : sq 131 112 B131_112 := sq_take 5 (e := 117) (by decide +kernel) True.intro
theorem sq131_108 : sq 131 108 B131_108 := sq_take 4 (e := 112) (by decide +kernel) True.intro
theorem sq131_104 : sq 131 104 B131_104 := sq_take 4 (e := 108) (by decide +kernel) True.intro
theorem sq131_100 : sq 131 100 B131_100 := sq_take 4 (e := 104) (by decide +kernel) True.intro
theorem sq131_99 : sq 131 99 B131_99 := sq_take 2 (e := 100) (by decide +kernel) True.intro
theorem sq131_94 : sq 131 94 B131_94 := sq_take 3 (e := 99) (by decide +kernel) sq131_99
theorem sq131_93 : sq 131 93 B131_93 := sq_take 2 (e := 94) (by decide +kernel) True.intro
theorem sq131_88 : sq 131 88 B131_88 := sq_take 3 (e := 93) (by decide +kernel) sq131_93
theorem sq131_87 : sq 131 87 B131_87 := sq_take 2 (e := 88) (by decide +kernel) True.intro
theorem sq131_82 : sq 131 82 B131_82 := sq_take 3 (e := 87) (by decide +kernel) sq131_87
theorem sq131_81 : sq 131 81 B131_81 := sq_take 2 (e := 82) (by decide +kernel) True.intro
theorem sq131_76 : sq 131 76 B131_76 := sq_take 3 (e := 81) (by decide +kernel) sq131_81
theorem sq131_72 : sq 131 72 B131_72 := sq_take 4 (e := 76) (by decide +kernel) True.intro
theorem sq131_68 : sq 131 68 B131_68 := sq_take 4 (e := 72) (by decide +kernel) True.intro
theorem sq131_64 : sq 131 64 B131_64 := sq_take 4 (e := 68) (by decide +kernel) True.intro
theorem sq131_0 : sq 131 0 B131_0 := sq_take 3 (e := 64) (by decide +kernel) True.intro
set_option maxRecDepth 100000 in
theorem sqM_131 : ∀ b, sq 131 b (tG 131 b) := show ∀ b, sq 131 b (lkB tb131 b) from lkB_sq (List.forall_mem_cons.mpr ⟨sq131_0, List.forall_mem_cons.mpr ⟨sq131_64, List.forall_mem_cons.mpr ⟨sq131_68, List.forall_mem_cons.mpr ⟨sq131_72, List.forall_mem_cons.mpr ⟨sq131_76, List.forall_mem_cons.mpr ⟨sq131_81, List.forall_mem_cons.mpr ⟨sq131_82, List.forall_mem_cons.mpr ⟨sq131_87, List.forall_mem_cons.mpr ⟨sq131_88, List.forall_mem_cons.mpr ⟨sq131_93, List.forall_mem_cons.mpr ⟨sq131_94, List.forall_mem_cons.mpr ⟨sq131_99, List.forall_mem_cons.mpr ⟨sq131_100, List.forall_mem_cons.mpr ⟨sq131_104, List.forall_mem_cons.mpr ⟨sq131_108, List.forall_mem_cons.mpr ⟨sq131_112, List.forall_mem_cons.mpr ⟨sq131_117, List.forall_mem_cons.mpr ⟨sq131_122, (fun _ h => absurd h List.not_mem_nil)⟩⟩⟩⟩⟩⟩⟩⟩⟩⟩⟩⟩⟩⟩⟩⟩⟩⟩)
theorem sq132_136 : sq 132 136 B132_136 := sq_take 1 (e := 137) (by decide +kernel) True.intro
theorem sq132_129 : sq 132 129 B132_129 := sq_take 4 (e := 136) (by decide +kernel) sq132_136
theorem sq132_115 : sq 132 115 B132_115 := sq_take 7 (e := 129) (by decide +kernel) True.intro
theorem sq132_96 : sq 132 96 B132_96 := sq_take 10 (e := 115) (by decide +kernel) sq132_115
theorem sq132_85 : sq 132 85 B132_85 := sq_take 6 (e := 96) (by decide +kernel) sq132_96
theorem sq132_69 : sq 132 69 B132_69 := sq_take 8 (e := 85) (by decide +kernel) True.intro
theorem sq132_49 : sq 132 49 B132_49 := sq_take 10 (e := 69) (by decide +kernel) True.intro
theorem sq132_37 : sq 132 37 B132_37 := sq_take 7 (e := 49) (by decide +kernel) sq132_49
theorem sq132_25 : sq 132 25 B132_25 := sq_take 9 (e := 37) (by decide +kernel) sq132_37
theorem sq132_10 : sq 132 10 B132_10 := sq_take 10 (e := 25) (by decide +kernel) sq132_25
theorem sq132_0 : sq 132 0 B132_0 := sq_take 7 (e := 10) (by decide +kernel) sq132_10
set_option maxRecDepth 100000 in
theorem sqM_132 : ∀ b, sq 132 b (tG 132 b) := show ∀ b, sq 132 b (lkB tb132 b) from lkB_sq (List.forall_mem_cons.mpr ⟨sq132_0, List.forall_mem_cons.mpr ⟨sq132_10, List.forall_mem_cons.mpr ⟨sq132_25, List.forall_mem_cons.mpr ⟨sq132_37, List.forall_mem_cons.mpr ⟨sq132_49, List.forall_mem_cons.mpr ⟨sq132_69, List.forall_mem_cons.mpr ⟨sq132_85, List.forall_mem_cons.mpr ⟨sq132_96, List.forall_mem_cons.mpr ⟨sq132_115, List.forall_mem_cons.mpr ⟨sq132_129, List.forall_mem_cons.mpr ⟨sq132_136, (fun _ h => absurd h List.not_mem_nil)⟩⟩⟩⟩⟩⟩⟩⟩⟩⟩⟩)
theorem sq133_94 : sq 133 94 B133_94 := sq_take 2 (e := 95) (by decide +kernel) True.intro
theorem sq133_85 : sq 133 85 B133_85 := sq_take 7 (e := 94) (by decide +kernel) sq133_94
theorem sq133_79 : sq 133 79 B133_79 := sq_take 3 (e := 85) (by decide +kernel) True.intro
theorem sq133_78 : sq 133 78 B133_78 := sq_take 2 (e := 79) (by decide +kernel) sq133_79
theorem sq133_70 : sq 133 70 B133_70 := sq_take 5 (e := 78) (by decide +kernel) sq133_78
theorem sq133_66 : sq 133 66 B133_66 := sq_take 3 (e := 70) (by decide +kernel) True.intro
theorem sq133_53 : sq 133 53 B133_53 := sq_take 7 (e := 66) (by decide +kernel) sq133_66
theorem sq133_47 : sq 133 47 B133_47 := sq_take 3 (e := 53) (by decide +kernel) True.intro
theorem sq133_9 : sq 133 9 B133_9 := sq_take 20 (e := 47) (by decide +kernel) sq133_47
theorem sq133_0 : sq 133 0 B133_0 := sq_take 8 (e := 9) (by decide +kernel) sq133_9
set_option maxRecDepth 100000 in
theorem sqM_133 : ∀ b, sq 133 b (tG 133 b) := show ∀ b, sq 133 b (lkB tb133 b) from lkB_sq (List.forall_mem_cons.mpr ⟨sq133_0, List.forall_mem_cons.mpr ⟨sq133_9, List.forall_mem_cons.mpr ⟨sq133_47, List.forall_mem_cons.mpr ⟨sq133_53, List.forall_mem_cons.mpr ⟨sq133_66, List.forall_mem_cons.mpr ⟨sq133_70, List.forall_mem_cons.mpr ⟨sq133_78, List.forall_mem_cons.mpr ⟨sq133_79, List.forall_mem_cons.mpr ⟨sq133_85, List.forall_mem_cons.mpr ⟨sq133_94, (fun _ h => absurd h List.not_mem_nil)⟩⟩⟩⟩⟩⟩⟩⟩⟩⟩)
theorem sq134_30 : sq 134 30 B134_30 := sq_take 14 (e := 52) (by decide +kernel) True.intro
theorem sq134_0 : sq 134 0 B134_0 := sq_take 19 (e := 30) (by decide +kernel) sq134_30
set_option maxRecDepth 100000 in
theorem sqM_134 : ∀ b, sq 134 b (tG 134 b) := show ∀ b, sq 134 b (lkB tb134 b) from lkB_sq (List.forall_mem_cons.mpr ⟨sq134_0, List.forall_mem_cons.mpr ⟨sq134_30, (fun _ h => absurd h List.not_mem_nil)⟩⟩)
theorem sq135_24 : sq 135 24 B135_24 := sq_take 2 (e := 26) (by decide +kernel) True.intro
theorem sq135_2 : sq 135 2 B135_2 := sq_take 12 (e := 24) (by decide +kernel) True.intro
theorem sq135_0 : sq 135 0 B135_0 := sq_take 3 (e := 2) (by decide +kernel) sq135_2
set_option maxRecDepth 100000 in
theorem sqM_135 : ∀ b, sq 135 b (tG 135 b) := show ∀ b, sq 135 b (lkB tb135 b) from lkB_sq (List.forall_mem_cons.mpr ⟨sq135_0, List.forall_mem_cons.mpr ⟨sq135_2, List.forall_mem_cons.mpr ⟨sq135_24, (fun _ h => absurd h List.not_mem_nil)⟩⟩⟩)
theorem sq136_104 : sq 136 104 B136_104 := sq_take 9 (e := 116) (by decide +kernel) True.intro
theorem sq136_97 : sq 136 97 B136_97 := sq_take 5 (e := 104) (by decide +kernel) sq136_104
theorem sq136_94 : sq 136 94 B136_94 := sq_take 2 (e := 97) (by decide +kernel) True.intro
theorem sq136_85 : sq 136 85 B136_85 := sq_take 6 (e := 94) (by decide +kernel) sq136_94
theorem sq136_81 : sq 136 81 B136_81 := sq_take 2 (e := 85) (by decide +kernel) sq136_85
theorem sq136_78 : sq 136 78 B136_78 := sq_take 2 (e := 81) (by decide +kernel) True.intro
theorem sq136_69 : sq 136 69 B136_69 := sq_take 7 (e := 78) (by decide +kernel) sq136_78
theorem sq136_63 : sq 136 63 B136_63 := sq_take 3 (e := 69) (by decide +kernel) True.intro
theorem sq136_60 : sq 136 60 B136_60 := sq_take 2 (e := 63) (by decide +kernel) sq136_63
theorem sq136_47 : sq 136 47 B136_47 := sq_take 7 (e := 60) (by decide +kernel) sq136_60
theorem sq136_31 : sq 136 31 B136_31 := sq_take 9 (e := 47) (by decide +kernel) sq136_47
theorem sq136_23 : sq 136 23 B136_23 := sq_take 6 (e := 31) (by decide +kernel) sq136_31
theorem sq136_19 : sq 136 19 B136_19 := sq_take 2 (e := 23) (by decide +kernel) sq136_23
theorem sq136_16 : sq 136 16 B136_16 := sq_take 2 (e := 19) (by decide +kernel) True.intro
theorem sq136_0 : sq 136 0 B136_0 := sq_take 12 (e := 16) (by decide +kernel) sq136_16
set_option maxRecDepth 100000 in
theorem sqM_136 : ∀ b, sq 136 b (tG 136 b) := show ∀ b, sq 136 b (lkB tb136 b) from lkB_sq (List.forall_mem_cons.mpr ⟨sq136_0, List.forall_mem_cons.mpr ⟨sq136_16, List.forall_mem_cons.mpr ⟨sq136_19, List.forall_mem_cons.mpr ⟨sq136_23, List.forall_mem_cons.mpr ⟨sq136_31, List.forall_mem_cons.mpr ⟨sq136_47, List.forall_mem_cons.mpr ⟨sq136_60, List.forall_mem_cons.mpr ⟨sq136_63, List.forall_mem_cons.mpr ⟨sq136_69, List.forall_mem_cons.mpr ⟨sq136_78, List.forall_mem_cons.mpr ⟨sq136_81, List.forall_mem_cons.mpr ⟨sq136_85, List.forall_mem_cons.mpr ⟨sq136_94, List.forall_mem_cons.mpr ⟨sq136_97, List.forall_mem_cons.mpr ⟨sq136_104, (fun _ h => absurd h List.not_mem_nil)⟩⟩⟩⟩⟩⟩⟩⟩⟩⟩⟩⟩⟩⟩⟩)
theorem sq137_35 : sq 137 35 B137_35 := sq_take 1 (e := 36) (by decide +kernel) True.intro
theorem sq137_34 : sq 137 34 B137_34 := sq_take 1 (e := 35) (by decide +kernel) sq137_35
theorem sq137_30 : sq 137 30 B137_30 := sq_take 3 (e := 34) (by decide +kernel) True.intro
theorem sq137_24 : sq 137 24 B137_24 := sq_take 4 (e := 30) (by decide +kernel) sq137_30
theorem sq137_12 : sq 137 12 B137_12 := sq_take 7 (e := 24) (by decide +kernel) sq137_24
theorem sq137_0 : sq 137 0 B137_0 := sq_take 7 (e := 12) (by decide +kernel) sq137_12
set_option maxRecDepth 100000 in
theorem sqM_137 : ∀ b, sq 137 b (tG 137 b) := show ∀ b, sq 137 b (lkB tb137 b) from lkB_sq (List.forall_mem_cons.mpr ⟨sq137_0, List.forall_mem_cons.mpr ⟨sq137_12, List.forall_mem_cons.mpr ⟨sq137_24, List.forall_mem_cons.mpr ⟨sq137_30, List.forall_mem_cons.mpr ⟨sq137_34, List.forall_mem_cons.mpr ⟨sq137_35, (fun _ h => absurd h List.not_mem_nil)⟩⟩⟩⟩⟩⟩)
theorem sq138_17 : sq 138 17 B138_17 := sq_take 1 (e := 18) (by decide +kernel) True.intro
theorem sq138_16 : sq 138 16 B138_16 := sq_take 2 (e := 17) (by decide +kernel) sq138_17
theorem sq138_0 : sq 138 0 B138_0 := sq_take 9 (e := 16) (by decide +kernel) True.intro
set_option maxRecDepth 100000 in
theorem sqM_138 : ∀ b, sq 138 b (tG 138 b) := show ∀ b, sq 138 b (lkB tb138 b) from lkB_sq (List.forall_mem_cons.mpr ⟨sq138_0, List.forall_mem_cons.mpr ⟨sq138_16, List.forall_mem_cons.mpr ⟨sq138_17, (fun _ h => absurd h List.not_mem_nil)⟩⟩⟩)
theorem sq139_55 : sq 139 55 B139_55 := sq_take 1 (e := 56) (by decide +kernel) True.intro
theorem sq139_54 : sq 139 54 B139_54 := sq_take 2 (e := 55) (by decide +kernel) sq139_55
theorem sq139_32 : sq 139 32 B139_32 := sq_take 13 (e := 54) (by decide +kernel) True.intro
theorem sq139_12 : sq 139 12 B139_12 := sq_take 12 (e := 32) (by decide +kernel) True.intro
theorem sq139_4 : sq 139 4 B139_4 := sq_take 6 (e := 12) (by decide +kernel) True.intro
theorem sq139_0 : sq 139 0 B139_0 := sq_take 3 (e := 4) (by decide +kernel) sq139_4
set_option maxRecDepth 100000 in
theorem sqM_139 : ∀ b, sq 139 b (tG 139 b) := show ∀ b, sq 139 b (lkB tb139 b) from lkB_sq (List.forall_mem_cons.mpr ⟨sq139_0, List.forall_mem_cons.mpr ⟨sq139_4, List.forall_mem_cons.mpr ⟨sq139_12, List.forall_mem_cons.mpr ⟨sq139_32, List.forall_mem_cons.mpr ⟨sq139_54, List.forall_mem_cons.mpr ⟨sq139_55, (fun _ h => absurd h List.not_mem_nil)⟩⟩⟩⟩⟩⟩)
theorem sq140_222 : sq 140 222 B140_222 := sq_take 2 (e := 223) (by decide +kernel) True.intro
theorem sq140_214 : sq 140 214 B140_214 := sq_take 5 (e := 222) (by decide +kernel) sq140_222
theorem sq140_213 : sq 140 213 B140_213 := sq_take 1 (e := 214) (by decide +kernel) sq140_214
theorem sq140_203 : sq 140 203 B140_203 := sq_take 6 (e := 213) (by decide +kernel) True.intro
theorem sq140_189 : sq 140 189 B140_189 := sq_take 9 (e := 203) (by decide +kernel) True.intro
theorem sq140_187 : sq 140 187 B140_187 := sq_take 1 (e := 189) (by decide +kernel) sq140_189
theorem sq140_174 : sq 140 174 B140_174 := sq_take 7 (e := 187) (by decide +kernel) True.intro
theorem sq140_173 : sq 140 173 B140_173 := sq_take 2 (e := 174) (by decide +kernel) sq140_174
theorem sq140_169 : sq 140 169 B140_169 := sq_take 3 (e := 173) (by decide +kernel) True.intro
theorem sq140_148 : sq 140 148 B140_148 := sq_take 11 (e := 169) (by decide +kernel) sq140_169
theorem sq140_134 : sq 140 134 B140_134 := sq_take 7 (e := 148) (by decide +kernel) sq140_148
theorem sq140_131 : sq 140 131 B140_131 := sq_take 1 (e := 134) (by decide +kernel) sq140_134
theorem sq140_119 : sq 140 119 B140_119 := sq_take 6 (e := 131) (by decide +kernel) True.intro
theorem sq140_109 : sq 140 109 B140_109 := sq_take 6 (e := 119) (by decide +kernel) sq140_119
theorem sq140_106 : sq 140 106 B140_106 := sq_take 2 (e := 109) (by decide +kernel) sq140_109
theorem sq140_96 : sq 140 96 B140_96 := sq_take 5 (e := 106) (by decide +kernel) sq140_106
theorem sq140_90 : sq 140 90 B140_90 := sq_take 3 (e := 96) (by decide +kernel) True.intro
theorem sq140_70 : sq 140 70 B140_70 := sq_take 11 (e := 90) (by decide +kernel) sq140_90
theorem sq140_68 : sq 140 68 B140_68 := sq_take 2 (e := 70) (by decide +kernel) sq140_70
theorem sq140_67 : sq 140 67 B140_67 := sq_take 1 (e := 68) (by decide +kernel) sq140_68
theorem sq140_50 : sq 140 50 B140_50 := sq_take 12 (e := 67) (by decide +kernel) True.intro
theorem sq140_49 : sq 140 49 B140_49 := sq_take 2 (e := 50) (by decide +kernel) sq140_50
theorem sq140_42 : sq 140 42 B140_42 := sq_take 4 (e := 49) (by decide +kernel) True.intro
theorem sq140_0 : sq 140 0 B140_0 := sq_take 27 (e := 42) (by decide +kernel) sq140_42
set_option maxRecDepth 100000 in
theorem sqM_140 : ∀ b, sq 140 b (tG 140 b) := show ∀ b, sq 140 b (lkB tb140 b) from lkB_sq (List.forall_mem_cons.mpr ⟨sq140_0, List.forall_mem_cons.mpr ⟨sq140_42, List.forall_mem_cons.mpr ⟨sq140_49, List.forall_mem_cons.mpr ⟨sq140_50, List.forall_mem_cons.mpr ⟨sq140_67, List.forall_mem_cons.mpr ⟨sq140_68, List.forall_mem_cons.mpr ⟨sq140_70, List.forall_mem_cons.mpr ⟨sq140_90, List.forall_mem_cons.mpr ⟨sq140_96, List.forall_mem_cons.mpr ⟨sq140_106, List.forall_mem_cons.mpr ⟨sq140_109, List.forall_mem_cons.mpr ⟨sq140_119, List.forall_mem_cons.mpr ⟨sq140_131, List.forall_mem_cons.mpr ⟨sq140_134, List.forall_mem_cons.mpr ⟨sq140_148, List.forall_mem_cons.mpr ⟨sq140_169, List.forall_mem_cons.mpr ⟨sq140_173, List.forall_mem_cons.mpr ⟨sq140_174, List.forall_mem_cons.mpr ⟨sq140_187, List.forall_mem_cons.mpr ⟨sq140_189, List.forall_mem_cons.mpr ⟨sq140_203, List.forall_mem_cons.mpr ⟨sq140_213, List.forall_mem_cons.mpr ⟨sq140_214, List.forall_mem_cons.mpr ⟨sq140_222, (fun _ h => absurd h List.not_mem_nil)⟩⟩⟩⟩⟩⟩⟩⟩⟩⟩⟩⟩⟩⟩⟩⟩⟩⟩⟩⟩⟩⟩⟩⟩)
theorem sq141_155 : sq 141 155 B141_155 := sq_take 2 (e := 156) (by decide +kernel) True.intro
theorem sq141_146 : sq 141 146 B141_146 := sq_take 8 (e := 155) (by decide +kernel) sq141_155
theorem sq141_144 : sq 141 144 B141_144 := sq_take 1 (e := 146) (by decide +kernel) sq141_146
theorem sq141_137 : sq 141 137 B141_137 := sq_take 4 (e := 144) (by decide +kernel) True.intro
theorem sq141_130 : sq 141 130 B141_130 := sq_take 5 (e := 137) (by decide +kernel) sq141_137
theorem sq141_127 : sq 141 127 B141_127 := sq_take 2 (e := 130) (by decide +kernel) True.intro
theorem sq141_124 : sq 141 124 B141_124 := sq_take 2 (e := 127) (by decide +kernel) sq141_127
theorem sq141_108 : sq 141 108 B141_108 := sq_take 12 (e := 124) (by decide +kernel) sq141_124
theorem sq141_95 : sq 141 95 B141_95 := sq_take 7 (e := 108) (by decide +kernel) sq141_108
theorem sq141_92 : sq 141 92 B141_92 := sq_take 2 (e := 95) (by decide +kernel) True.intro
theorem sq141_89 : sq 141 89 B141_89 := sq_take 2 (e := 92) (by decide +kernel) sq141_92
theorem sq141_62 : sq 141 62 B141_62 := sq_take 17 (e := 89) (by decide +kernel) sq141_89
theorem sq141_48 : sq 141 48 B141_48 := sq_take 8 (e := 62) (by decide +kernel) sq141_62
theorem sq141_47 : sq 141 47 B141_47 := sq_take 1 (e := 48) (by decide +kernel) sq141_48
theorem sq141_23 : sq 141 23 B141_23 := sq_take 16 (e := 47) (by decide +kernel) True.intro
theorem sq141_22 : sq 141 22 B141_22 := sq_take 1 (e := 23) (by decide +kernel) sq141_23
theorem sq141_0 : sq 141 0 B141_0 := sq_take 15 (e := 22) (by decide +kernel) True.intro
set_option maxRecDepth 100000 in
theorem sqM_141 : ∀ b, sq 141 b (tG 141 b) := show ∀ b, sq 141 b (lkB tb141 b) from lkB_sq (List.forall_mem_cons.mpr ⟨sq141_0, List.forall_mem_cons.mpr ⟨sq141_22, List.forall_mem_cons.mpr ⟨sq141_23, List.forall_mem_cons.mpr ⟨sq141_47, List.forall_mem_cons.mpr ⟨sq141_48, List.forall_mem_cons.mpr ⟨sq141_62, List.forall_mem_cons.mpr ⟨sq141_89, List.forall_mem_cons.mpr ⟨sq141_92, List.forall_mem_cons.mpr ⟨sq141_95, List.forall_mem_cons.mpr ⟨sq141_108, List.forall_mem_cons.mpr ⟨sq141_124, List.forall_mem_cons.mpr ⟨sq141_127, List.forall_mem_cons.mpr ⟨sq141_130, List.forall_mem_cons.mpr ⟨sq141_137, List.forall_mem_cons.mpr ⟨sq141_144, List.forall_mem_cons.mpr ⟨sq141_146, List.forall_mem_cons.mpr ⟨sq141_155, (fun _ h => absurd h List.not_mem_nil)⟩⟩⟩⟩⟩⟩⟩⟩⟩⟩⟩⟩⟩⟩⟩⟩⟩)
theorem sq142_0 : sq 142 0 B142_0 := sq_take 12 (e := 13) (by decide +kernel) True.intro
set_option maxRecDepth 100000 in
theorem sqM_142 : ∀ b, sq 142 b (tG 142 b) := show ∀ b, sq 142 b (lkB tb142 b) from lkB_sq (List.forall_mem_cons.mpr ⟨sq142_0, (fun _ h => absurd h List.not_mem_nil)⟩)
theorem sq143_27 : sq 143 27 B143_27 := sq_take 2 (e := 29) (by decide +kernel) True.intro
theorem sq143_21 : sq 143 21 B143_21 := sq_take 2 (e := 27) (by decide +kernel) True.intro
theorem sq143_15 : sq 143 15 B143_15 := sq_take 5 (e := 21) (by decide +kernel) True.intro
theorem sq143_7 : sq 143 7 B143_7 := sq_take 5 (e := 15) (by decide +kernel) sq143_15
theorem sq143_2 : sq 143 2 B143_2 := sq_take 4 (e := 7) (by decide +kernel) sq143_7
theorem sq143_0 : sq 143 0 B143_0 := sq_take 3 (e := 2) (by decide +kernel) sq143_2
set_option maxRecDepth 100000 in
theorem sqM_143 : ∀ b, sq 143 b (tG 143 b) := show ∀ b, sq 143 b (lkB tb143 b) from lkB_sq (List.forall_mem_cons.mpr ⟨sq143_0, List.forall_mem_cons.mpr ⟨sq143_2, List.forall_mem_cons.mpr ⟨sq143_7, List.forall_mem_cons.mpr ⟨sq143_15, List.forall_mem_cons.mpr ⟨sq143_21, List.forall_mem_cons.mpr ⟨sq143_27, (fun _ h => absurd h List.not_mem_nil)⟩⟩⟩⟩⟩⟩)
theorem sq144_0 : sq 144 0 B144_0 := sq_take 10 (e := 15) (by decide +kernel) True.intro
set_option maxRecDepth 100000 in
theorem sqM_144 : ∀ b, sq 144 b (tG 144 b) := show ∀ b, sq 144 b (lkB tb144 b) from lkB_sq (List.forall_mem_cons.mpr ⟨sq144_0, (fun _ h => absurd h List.not_mem_nil)⟩)
theorem sq145_30 : sq 145 30 B145_30 := sq_take 1 (e := 31) (by decide +kernel) True.intro
theorem sq145_29 : sq 145 29 B145_29 := sq_take 2 (e := 30) (by decide +kernel) sq145_30
theorem sq145_22 : sq 145 22 B145_22 := sq_take 4 (e := 29) (by decide +kernel) True.intro
theorem sq145_0 : sq 145 0 B145_0 := sq_take 13 (e := 22) (by decide +kernel) sq145_22
set_option maxRecDepth 100000 in
theorem sqM_145 : ∀ b, sq 145 b (tG 145 b) := show ∀ b, sq 145 b (lkB tb145 b) from lkB_sq (List.forall_mem_cons.mpr ⟨sq145_0, List.forall_mem_cons.mpr ⟨sq145_22, List.forall_mem_cons.mpr ⟨sq145_29, List.forall_mem_cons.mpr ⟨sq145_30, (fun _ h => absurd h List.not_mem_nil)⟩⟩⟩⟩)
theorem sq146_61 : sq 146 61 B146_61 := sq_take 2 (e := 63) (by decide +kernel) True.intro
theorem sq146_55 : sq 146 55 B146_55 := sq_take 2 (e := 61) (by decide +kernel) True.intro
theorem sq146_50 : sq 146 50 B146_50 := sq_take 4 (e := 55) (by decide +kernel) True.intro
theorem sq146_29 : sq 146 29 B146_29 := sq_take 14 (e := 50) (by decide +kernel) sq146_50
theorem sq146_24 : sq 146 24 B146_24 := sq_take 4 (e := 29) (by decide +kernel) sq146_29
theorem sq146_22 : sq 146 22 B146_22 := sq_take 2 (e := 24) (by decide +kernel) sq146_24
theorem sq146_17 : sq 146 17 B146_17 := sq_take 4 (e := 22) (by decide +kernel) True.intro
theorem sq146_0 : sq 146 0 B146_0 := sq_take 12 (e := 17) (by decide +kernel) sq146_17
set_option maxRecDepth 100000 in
theorem sqM_146 : ∀ b, sq 146 b (tG 146 b) := show ∀ b, sq 146 b (lkB tb146 b) from lkB_sq (List.forall_mem_cons.mpr ⟨sq146_0, List.forall_mem_cons.mpr ⟨sq146_17, List.forall_mem_cons.mpr ⟨sq146_22, List.forall_mem_cons.mpr ⟨sq146_24, List.forall_mem_cons.mpr ⟨sq146_29, List.forall_mem_cons.mpr ⟨sq146_50, List.forall_mem_cons.mpr ⟨sq146_55, List.forall_mem_cons.mpr ⟨sq146_61, (fun _ h => absurd h List.not_mem_nil)⟩⟩⟩⟩⟩⟩⟩⟩)
theorem sq147_33 : sq 147 33 B147_33 := sq_take 1 (e := 34) (by decide +kernel) True.intro
theorem sq147_32 : sq 147 32 B147_32 := sq_take 2 (e := 33) (by decide +kernel) sq147_33
theorem sq147_0 : sq 147 0 B147_0 := sq_take 19 (e := 32) (by decide +kernel) True.intro
set_option maxRecDepth 100000 in
theorem sqM_147 : ∀ b, sq 147 b (tG 147 b) := show ∀ b, sq 147 b (lkB tb147 b) from lkB_sq (List.forall_mem_cons.mpr ⟨sq147_0, List.forall_mem_cons.mpr ⟨sq147_32, List.forall_mem_cons.mpr ⟨sq147_33, (fun _ h => absurd h List.not_mem_nil)⟩⟩⟩)
theorem sq148_13 : sq 148 13 B148_13 := sq_take 8 (e := 25) (by decide +kernel) True.intro
theorem sq148_12 : sq 148 12 B148_12 := sq_take 2 (e := 13) (by decide +kernel) True.intro
theorem sq148_5 : sq 148 5 B148_5 := sq_take 4 (e := 12) (by decide +kernel) sq148_12
theorem sq148_0 : sq 148 0 B148_0 := sq_take 4 (e := 5) (by decide +kernel) sq148_5
set_option maxRecDepth 100000 in
theorem sqM_148 : ∀ b, sq 148 b (tG 148 b) := show ∀ b, sq 148 b (lkB tb148 b) from lkB_sq (List.forall_mem_cons.mpr ⟨sq148_0, List.forall_mem_cons.mpr ⟨sq148_5, List.forall_mem_cons.mpr ⟨sq148_12, List.forall_mem_cons.mpr ⟨sq148_13, (fun _ h => absurd h List.not_mem_nil)⟩⟩⟩⟩)
theorem sq149_153 : sq 149 153 B149_153 := sq_take 1 (e := 154) (by decide +kernel) True.intro
theorem sq149_152 : sq 149 152 B149_152 := sq_take 2 (e := 153) (by decide +kernel) sq149_153
theorem sq149_133 : sq 149 133 B149_133 := sq_take 9 (e := 152) (by decide +kernel) True.intro
theorem sq149_132 : sq 149 132 B149_132 := sq_take 1 (e := 133) (by decide +kernel) True.intro
theorem sq149_131 : sq 149 131 B149_131 := sq_take 2 (e := 132) (by decide +kernel) sq149_132
theorem sq149_86 : sq 149 86 B149_86 := sq_take 29 (e := 131) (by decide +kernel) True.intro
theorem sq149_85 : sq 149 85 B149_85 := sq_take 1 (e := 86) (by decide +kernel) sq149_86
theorem sq149_69 : sq 149 69 B149_69 := sq_take 9 (e := 85) (by decide +kernel) True.intro
theorem sq149_67 : sq 149 67 B149_67 := sq_take 2 (e := 69) (by decide +kernel) True.intro
theorem sq149_0 : sq 149 0 B149_0 := sq_take 40 (e := 67) (by decide +kernel) sq149_67
set_option maxRecDepth 100000 in
theorem sqM_149 : ∀ b, sq 149 b (tG 149 b) := show ∀ b, sq 149 b (lkB tb149 b) from lkB_sq (List.forall_mem_cons.mpr ⟨sq149_0, List.forall_mem_cons.mpr ⟨sq149_67, List.forall_mem_cons.mpr ⟨sq149_69, List.forall_mem_cons.mpr ⟨sq149_85, List.forall_mem_cons.mpr ⟨sq149_86, List.forall_mem_cons.mpr ⟨sq149_131, List.forall_mem_cons.mpr ⟨sq149_132, List.forall_mem_cons.mpr ⟨sq149_133, List.forall_mem_cons.mpr ⟨sq149_152, List.forall_mem_cons.mpr ⟨sq149_153, (fun _ h => absurd h List.not_mem_nil)⟩⟩⟩⟩⟩⟩⟩⟩⟩⟩)
theorem sq150_292 : sq 150 292 B150_292 := sq_take 2 (e := 294) (by decide +kernel) True.intro
theorem sq150_277 : sq 150 277 B150_277 := sq_take 10 (e := 292) (by decide +kernel) True.intro
theorem sq150_273 : sq 150 273 B150_273 := sq_take 3 (e := 277) (by decide +kernel) sq150_277
theorem sq150_272 : sq 150 272 B150_272 := sq_take 2 (e := 273) (by decide +kernel) True.intro
theorem sq150_241 : sq 150 241 B150_241 := sq_take 17 (e := 272) (by decide +kernel) sq150_272
theorem sq150_239 : sq 150 239 B150_239 := sq_take 2 (e := 241) (by decide +kernel) True.intro
theorem sq150_236 : sq 150 236 B150_236 := sq_take 2 (e := 239) (by decide +kernel) sq150_239
theorem sq150_232 : sq 150 232 B150_232 := sq_take 2 (e := 236) (by decide +kernel) sq150_236
theorem sq150_226 : sq 150 226 B150_226 := sq_take 3 (e := 232) (by decide +kernel) True.intro
theorem sq150_219 : sq 150 219 B150_219 := sq_take 4 (e := 226) (by decide +kernel) sq150_226
theorem sq150_213 : sq 150 213 B150_213 := sq_take 3 (e := 219) (by decide +kernel) sq150_219
theorem sq150_207 : sq 150 207 B150_207 := sq_take 3 (e := 213) (by decide +kernel) True.intro
theorem sq150_196 : sq 150 196 B150_196 := sq_take 8 (e := 207) (by decide +kernel) sq150_207
theorem sq150_182 : sq 150 182 B150_182 := sq_take 9 (e := 196) (by decide +kernel) sq150_196
theorem sq150_162 : sq 150 162 B150_162 := sq_take 12 (e := 182) (by decide +kernel) sq150_182
theorem sq150_160 : sq 150 160 B150_160 := sq_take 2 (e := 162) (by decide +kernel) True.intro
theorem sq150_133 : sq 150 133 B150_133 := sq_take 15 (e := 160) (by decide +kernel) sq150_160
theorem sq150_123 : sq 150 123 B150_123 := sq_take 7 (e := 133) (by decide +kernel) sq150_133
theorem sq150_81 : sq 150 81 B150_81 := sq_take 26 (e := 123) (by decide +kernel) sq150_123
theorem sq150_80 : sq 150 80 B150_80 := sq_take 2 (e := 81) (by decide +kernel) True.intro
theorem sq150_72 : sq 150 72 B150_72 := sq_take 5 (e := 80) (by decide +kernel) sq150_80
theorem sq150_26 : sq 150 26 B150_26 := sq_take 27 (e := 72) (by decide +kernel) sq150_72
theorem sq150_25 : sq 150 25 B150_25 := sq_take 2 (e := 26) (by decide +kernel) sq150_26
theorem sq150_17 : sq 150 17 B150_17 := sq_take 5 (e := 25) (by decide +kernel) True.intro
theorem sq150_0 : sq 150 0 B150_0 := sq_take 10 (e := 17) (by decide +kernel) sq150_17
set_option maxRecDepth 100000 in
theorem sqM_150 : ∀ b, sq 150 b (tG 150 b) := show ∀ b, sq 150 b (lkB tb150 b) from lkB_sq (List.forall_mem_cons.mpr ⟨sq150_0, List.forall_mem_cons.mpr ⟨sq150_17, List.forall_mem_cons.mpr ⟨sq150_25, List.forall_mem_cons.mpr ⟨sq150_26, List.forall_mem_cons.mpr ⟨sq150_72, List.forall_mem_cons.mpr ⟨sq150_80, List.forall_mem_cons.mpr ⟨sq150_81, List.forall_mem_cons.mpr ⟨sq150_123, List.forall_mem_cons.mpr ⟨sq150_133, List.forall_mem_cons.mpr ⟨sq150_160, List.forall_mem_cons.mpr ⟨sq150_162, List.forall_mem_cons.mpr ⟨sq150_182, List.forall_mem_cons.mpr ⟨sq150_196, List.forall_mem_cons.mpr ⟨sq150_207, List.forall_mem_cons.mpr ⟨sq150_213, List.forall_mem_cons.mpr ⟨sq150_219, List.forall_mem_cons.mpr ⟨sq150_226, List.forall_mem_cons.mpr ⟨sq150_232, List.forall_mem_cons.mpr ⟨sq150_236, List.forall_mem_cons.mpr ⟨sq150_239, List.forall_mem_cons.mpr ⟨sq150_241, List.forall_mem_cons.mpr ⟨sq150_272, List.forall_mem_cons.mpr ⟨sq150_273, List.forall_mem_cons.mpr ⟨sq150_277, List.forall_mem_cons.mpr ⟨sq150_292, (fun _ h => absurd h List.not_mem_nil)⟩⟩⟩⟩⟩⟩⟩⟩⟩⟩⟩⟩⟩⟩⟩⟩⟩⟩⟩⟩⟩⟩⟩⟩⟩)
theorem sq151_43 : sq 151 43 B151_43 := sq_take 2 (e := 45) (by decide +kernel) True.intro
theorem sq151_37 : sq 151 37 B151_37 := sq_take 2 (e := 43) (by decide +kernel) True.intro
theorem sq151_23 : sq 151 23 B151_23 := sq_take 11 (e := 37) (by decide +kernel) True.intro
theorem sq151_2 : sq 151 2 B151_2 := sq_take 14 (e := 23) (by decide +kernel) sq151_23
theorem sq151_0 : sq 151 0 B151_0 := sq_take 3 (e := 2) (by decide +kernel) sq151_2
set_option maxRecDepth 100000 in
theorem sqM_151 : ∀ b, sq 151 b (tG 151 b) := show ∀ b, sq 151 b (lkB tb151 b) from lkB_sq (List.forall_mem_cons.mpr ⟨sq151_0, List.forall_mem_cons.mpr ⟨sq151_2, List.forall_mem_cons.mpr ⟨sq151_23, List.forall_mem_cons.mpr ⟨sq151_37, List.forall_mem_cons.mpr ⟨sq151_43, (fun _ h => absurd h List.not_mem_nil)⟩⟩⟩⟩⟩)
theorem sq152_81 : sq 152 81 B152_81 := sq_take 2 (e := 83) (by decide +kernel) True.intro
theorem sq152_75 : sq 152 75 B152_75 := sq_take 2 (e := 81) (by decide +kernel) True.intro
theorem sq152_36 : sq 152 36 B152_36 := sq_take 25 (e := 75) (by decide +kernel) True.intro
theorem sq152_33 : sq 152 33 B152_33 := sq_take 2 (e := 36) (by decide +kernel) sq152_36
theorem sq152_0 : sq 152 0 B152_0 := sq_take 24 (e := 33) (by decide +kernel) True.intro
set_option maxRecDepth 100000 in
theorem sqM_152 : ∀ b, sq 152 b (tG 152 b) := show ∀ b, sq 152 b (lkB tb152 b) from lkB_sq (List.forall_mem_cons.mpr ⟨sq152_0, List.forall_mem_cons.mpr ⟨sq152_33, List.forall_mem_cons.mpr ⟨sq152_36, List.forall_mem_cons.mpr ⟨sq152_75, List.forall_mem_cons.mpr ⟨sq152_81, (fun _ h => absurd h List.not_mem_nil)⟩⟩⟩⟩⟩)
theorem sq153_179 : sq 153 179 B153_179 := sq_take 2 (e := 181) (by decide +kernel) True.intro
theorem sq153_169 : sq 153 169 B153_169 := sq_take 7 (e := 179) (by decide +kernel) sq153_179
theorem sq153_126 : sq 153 126 B153_126 := sq_take 24 (e := 169) (by decide +kernel) sq153_169
theorem sq153_76 : sq 153 76 B153_76 := sq_take 30 (e := 126) (by decide +kernel) sq153_126
theorem sq153_74 : sq 153 74 B153_74 := sq_take 2 (e := 76) (by decide +kernel) True.intro
theorem sq153_67 : sq 153 67 B153_67 := sq_take 4 (e := 74) (by decide +kernel) sq153_74
theorem sq153_66 : sq 153 66 B153_66 := sq_take 1 (e := 67) (by decide +kernel) sq153_67
theorem sq153_46 : sq 153 46 B153_46 := sq_take 11 (e := 66) (by decide +kernel) True.intro
theorem sq153_45 : sq 153 45 B153_45 := sq_take 2 (e := 46) (by decide +kernel) sq153_46
theorem sq153_41 : sq 153 41 B153_41 := sq_take 3 (e := 45) (by decide +kernel) True.intro
theorem sq153_38 : sq 153 38 B153_38 := sq_take 2 (e := 41) (by decide +kernel) sq153_41
theorem sq153_31 : sq 153 31 B153_31 := sq_take 3 (e := 38) (by decide +kernel) sq153_38
theorem sq153_25 : sq 153 25 B153_25 := sq_take 3 (e := 31) (by decide +kernel) True.intro
theorem sq153_0 : sq 153 0 B153_0 := sq_take 12 (e := 25) (by decide +kernel) sq153_25
set_option maxRecDepth 100000 in
theorem sqM_153 : ∀ b, sq 153 b (tG 153 b) := show ∀ b, sq 153 b (lkB tb153 b) from lkB_sq (List.forall_mem_cons.mpr ⟨sq153_0, List.forall_mem_cons.mpr ⟨sq153_25, List.forall_mem_cons.mpr ⟨sq153_31, List.forall_mem_cons.mpr ⟨sq153_38, List.forall_mem_cons.mpr ⟨sq153_41, List.forall_mem_cons.mpr ⟨sq153_45, List.forall_mem_cons.mpr ⟨sq153_46, List.forall_mem_cons.mpr ⟨sq153_66, List.forall_mem_cons.mpr ⟨sq153_67, List.forall_mem_cons.mpr ⟨sq153_74, List.forall_mem_cons.mpr ⟨sq153_76, List.forall_mem_cons.mpr ⟨sq153_126, List.forall_mem_cons.mpr ⟨sq153_169, List.forall_mem_cons.mpr ⟨sq153_179, (fun _ h => absurd h List.not_mem_nil)⟩⟩⟩⟩⟩⟩⟩⟩⟩⟩⟩⟩⟩⟩)
theorem sq154_90 : sq 154 90 B154_90 := sq_take 1 (e := 91) (by decide +kernel) True.intro
theorem sq154_82 : sq 154 82 B154_82 := sq_take 5 (e := 90) (by decide +kernel) True.intro
theorem sq154_73 : sq 154 73 B154_73 := sq_take 8 (e := 82) (by decide +kernel) sq154_82
theorem sq154_57 : sq 154 57 B154_57 := sq_take 10 (e := 73) (by decide +kernel) sq154_73
theorem sq154_33 : sq 154 33 B154_33 := sq_take 17 (e := 57) (by decide +kernel) True.intro
theorem sq154_2 : sq 154 2 B154_2 := sq_take 22 (e := 33) (by decide +kernel) sq154_33
theorem sq154_0 : sq 154 0 B154_0 := sq_take 3 (e := 2) (by decide +kernel) sq154_2
set_option maxRecDepth 100000 in
theorem sqM_154 : ∀ b, sq 154 b (tG 154 b) := show ∀ b, sq 154 b (lkB tb154 b) from lkB_sq (List.forall_mem_cons.mpr ⟨sq154_0, List.forall_mem_cons.mpr ⟨sq154_2, List.forall_mem_cons.mpr ⟨sq154_33, List.forall_mem_cons.mpr ⟨sq154_57, List.forall_mem_cons.mpr ⟨sq154_73, List.forall_mem_cons.mpr ⟨sq154_82, List.forall_mem_cons.mpr ⟨sq154_90, (fun _ h => absurd h List.not_mem_nil)⟩⟩⟩⟩⟩⟩⟩)
theorem sq155_28 : sq 155 28 B155_28 := sq_take 1 (e := 29) (by decide +kernel) True.intro
theorem sq155_20 : sq 155 20 B155_20 := sq_take 5 (e := 28) (by decide +kernel) sq155_28
theorem sq155_13 : sq 155 13 B155_13 := sq_take 5 (e := 20) (by decide +kernel) True.intro
theorem sq155_0 : sq 155 0 B155_0 := sq_take 7 (e := 13) (by decide +kernel) sq155_13
set_option maxRecDepth 100000 in
theorem sqM_155 : ∀ b, sq 155 b (tG 155 b) := show ∀ b, sq 155 b (lkB tb155 b) from lkB_sq (List.forall_mem_cons.mpr ⟨sq155_0, List.forall_mem_cons.mpr ⟨sq155_13, List.forall_mem_cons.mpr ⟨sq155_20, List.forall_mem_cons.mpr ⟨sq155_28, (fun _ h => absurd h List.not_mem_nil)⟩⟩⟩⟩)
theorem sq156_245 : sq 156 245 B156_245 := sq_take 2 (e := 246) (by decide +kernel) True.intro
theorem sq156_236 : sq 156 236 B156_236 := sq_take 5 (e := 245) (by decide +kernel) sq156_245
theorem sq156_235 : sq 156 235 B156_235 := sq_take 2 (e := 236) (by decide +kernel) True.intro
theorem sq156_224 : sq 156 224 B156_224 := sq_take 6 (e := 235) (by decide +kernel) sq156_235
theorem sq156_217 : sq 156 217 B156_217 := sq_take 4 (e := 224) (by decide +kernel) sq156_224
theorem sq156_216 : sq 156 216 B156_216 := sq_take 2 (e := 217) (by decide +kernel) True.intro
theorem sq156_205 : sq 156 205 B156_205 := sq_take 6 (e := 216) (by decide +kernel) sq156_216
theorem sq156_198 : sq 156 198 B156_198 := sq_take 4 (e := 205) (by decide +kernel) sq156_205
theorem sq156_197 : sq 156 197 B156_197 := sq_take 2 (e := 198) (by decide +kernel) True.intro
theorem sq156_188 : sq 156 188 B156_188 := sq_take 6 (e := 197) (by decide +kernel) sq156_197
theorem sq156_181 : sq 156 181 B156_181 := sq_take 4 (e := 188) (by decide +kernel) sq156_188
theorem sq156_180 : sq 156 180 B156_180 := sq_take 2 (e := 181) (by decide +kernel) True.intro
theorem sq156_171 : sq 156 171 B156_171 := sq_take 6 (e := 180) (by decide +kernel) sq156_180
theorem sq156_164 : sq 156 164 B156_164 := sq_take 4 (e := 171) (by decide +kernel) sq156_171
theorem sq156_163 : sq 156 163 B156_163 := sq_take 2 (e := 164) (by decide +kernel) True.intro
theorem sq156_135 : sq 156 135 B156_135 := sq_take 15 (e := 163) (by decide +kernel) sq156_163
theorem sq156_128 : sq 156 128 B156_128 := sq_take 4 (e := 135) (by decide +kernel) sq156_135
theorem sq156_116 : sq 156 116 B156_116 := sq_take 7 (e := 128) (by decide +kernel) True.intro
theorem sq156_109 : sq 156 109 B156_109 := sq_take 4 (e := 116) (by decide +kernel) sq156_116
theorem sq156_108 : sq 156 108 B156_108 := sq_take 2 (e := 109) (by decide +kernel) True.intro
theorem sq156_101 : sq 156 101 B156_101 := sq_take 4 (e := 108) (by decide +kernel) sq156_108
theorem sq156_94 : sq 156 94 B156_94 := sq_take 4 (e := 101) (by decide +kernel) sq156_101
theorem sq156_93 : sq 156 93 B156_93 := sq_take 2 (e := 94) (by decide +kernel) True.intro
theorem sq156_77 : sq 156 77 B156_77 := sq_take 8 (e := 93) (by decide +kernel) sq156_93
theorem sq156_70 : sq 156 70 B156_70 := sq_take 4 (e := 77) (by decide +kernel) sq156_77
theorem sq156_69 : sq 156 69 B156_69 := sq_take 2 (e := 70) (by decide +kernel) True.intro
theorem sq156_52 : sq 156 52 B156_52 := sq_take 8 (e := 69) (by decide +kernel) sq156_69
theorem sq156_45 : sq 156 45 B156_45 := sq_take 4 (e := 52) (by decide +kernel) sq156_52
theorem sq156_44 : sq 156 44 B156_44 := sq_take 2 (e := 45) (by decide +kernel) True.intro
theorem sq156_37 : sq 156 37 B156_37 := sq_take 4 (e := 44) (by decide +kernel) sq156_44
theorem sq156_20 : sq 156 20 B156_20 := sq_take 10 (e := 37) (by decide +kernel) sq156_37
theorem sq156_19 : sq 156 19 B156_19 := sq_take 2 (e := 20) (by decide +kernel) True.intro
theorem sq156_0 : sq 156 0 B156_0 := sq_take 12 (e := 19) (by decide +kernel) sq156_19
set_option maxRecDepth 100000 in
theorem sqM_156 : ∀ b, sq 156 b (tG 156 b) := show ∀ b, sq 156 b (lkB tb156 b) from lkB_sq (List.forall_mem_cons.mpr ⟨sq156_0, List.forall_mem_cons.mpr ⟨sq156_19, List.forall_mem_cons.mpr ⟨sq156_20, List.forall_mem_cons.mpr ⟨sq156_37, List.forall_mem_cons.mpr ⟨sq156_44, List.forall_mem_cons.mpr ⟨sq156_45, List.forall_mem_cons.mpr ⟨sq156_52, List.forall_mem_cons.mpr ⟨sq156_69, List.forall_mem_cons.mpr ⟨sq156_70, List.forall_mem_cons.mpr ⟨sq156_77, List.forall_mem_cons.mpr ⟨sq156_93, List.forall_mem_cons.mpr ⟨sq156_94, List.forall_mem_cons.mpr ⟨sq156_101, List.forall_mem_cons.mpr ⟨sq156_108, List.forall_mem_cons.mpr ⟨sq156_109, List.forall_mem_cons.mpr ⟨sq156_116, List.forall_mem_cons.mpr ⟨sq156_128, List.forall_mem_cons.mpr ⟨sq156_135, List.forall_mem_cons.mpr ⟨sq156_163, List.forall_mem_cons.mpr ⟨sq156_164, List.forall_mem_cons.mpr ⟨sq156_171, List.forall_mem_cons.mpr ⟨sq156_180, List.forall_mem_cons.mpr ⟨sq156_181, List.forall_mem_cons.mpr ⟨sq156_188, List.forall_mem_cons.mpr ⟨sq156_197, List.forall_mem_cons.mpr ⟨sq156_198, List.forall_mem_cons.mpr ⟨sq156_205, List.forall_mem_cons.mpr ⟨sq156_216, List.forall_mem_cons.mpr ⟨sq156_217, List.forall_mem_cons.mpr ⟨sq156_224, List.forall_mem_cons.mpr ⟨sq156_235, List.forall_mem_cons.mpr ⟨sq156_236, List.forall_mem_cons.mpr ⟨sq156_245, (fun _ h => absurd h List.not_mem_nil)⟩⟩⟩⟩⟩⟩⟩⟩⟩⟩⟩⟩⟩⟩⟩⟩⟩⟩⟩⟩⟩⟩⟩⟩⟩⟩⟩⟩⟩⟩⟩⟩⟩)
theorem sq157_34 : sq 157 34 B157_34 := sq_take 8 (e := 46) (by decide +kernel) True.intro
theorem sq157_33 : sq 157 33 B157_33 := sq_take 2 (e := 34) (by decide +kernel) True.intro
theorem sq157_29 : sq 157 29 B157_29 := sq_take 3 (e := 33) (by decide +kernel) sq157_33
theorem sq157_26 : sq 157 26 B157_26 := sq_take 2 (e := 29) (by decide +kernel) sq157_29
theorem sq157_0 : sq 157 0 B157_0 := sq_take 15 (e := 26) (by decide +kernel) sq157_26
set_option maxRecDepth 100000 in
theorem sqM_157 : ∀ b, sq 157 b (tG 157 b) := show ∀ b, sq 157 b (lkB tb157 b) from lkB_sq (List.forall_mem_cons.mpr ⟨sq157_0, List.forall_mem_cons.mpr ⟨sq157_26, List.forall_mem_cons.mpr ⟨sq157_29, List.forall_mem_cons.mpr ⟨sq157_33, List.forall_mem_cons.mpr ⟨sq157_34, (fun _ h => absurd h List.not_mem_nil)⟩⟩⟩⟩⟩)
theorem sq158_85 : sq 158 85 B158_85 := sq_take 2 (e := 86) (by decide +kernel) True.intro
theorem sq158_67 : sq 158 67 B158_67 := sq_take 10 (e := 85) (by decide +kernel) sq158_85
theorem sq158_66 : sq 158 66 B158_66 := sq_take 2 (e := 67) (by decide +kernel) True.intro
theorem sq158_35 : sq 158 35 B158_35 := sq_take 17 (e := 66) (by decide +kernel) sq158_66
theorem sq158_26 : sq 158 26 B158_26 := sq_take 5 (e := 35) (by decide +kernel) sq158_35
theorem sq158_0 : sq 158 0 B158_0 := sq_take 14 (e := 26) (by decide +kernel) sq158_26
set_option maxRecDepth 100000 in
theorem sqM_158 : ∀ b, sq 158 b (tG 158 b) := show ∀ b, sq 158 b (lkB tb158 b) from lkB_sq (List.forall_mem_cons.mpr ⟨sq158_0, List.forall_mem_cons.mpr ⟨sq158_26, List.forall_mem_cons.mpr ⟨sq158_35, List.forall_mem_cons.mpr ⟨sq158_66, List.forall_mem_cons.mpr ⟨sq158_67, List.forall_mem_cons.mpr ⟨sq158_85, (fun _ h => absurd h List.not_mem_nil)⟩⟩⟩⟩⟩⟩)
theorem sq159_146 : sq 159 146 B159_146 := sq_take 5 (e := 152) (by decide +kernel) True.intro
theorem sq159_142 : sq 159 142 B159_142 := sq_take 3 (e := 146) (by decide +kernel) sq159_146
theorem sq159_130 : sq 159 130 B159_130 := sq_take 6 (e := 142) (by decide +kernel) sq159_142
theorem sq159_125 : sq 159 125 B159_125 := sq_take 4 (e := 130) (by decide +kernel) True.intro
theorem sq159_122 : sq 159 122 B159_122 := sq_take 2 (e := 125) (by decide +kernel) sq159_125
theorem sq159_120 : sq 159 120 B159_120 := sq_take 2 (e := 122) (by decide +kernel) sq159_122
theorem sq159_107 : sq 159 107 B159_107 := sq_take 10 (e := 120) (by decide +kernel) True.intro
theorem sq159_98 : sq 159 98 B159_98 := sq_take 5 (e := 107) (by decide +kernel) sq159_107
theorem sq159_71 : sq 159 71 B159_71 := sq_take 16 (e := 98) (by decide +kernel) True.intro
theorem sq159_70 : sq 159 70 B159_70 := sq_take 2 (e := 71) (by decide +kernel) True.intro
theorem sq159_63 : sq 159 63 B159_63 := sq_take 4 (e := 70) (by decide +kernel) sq159_70
theorem sq159_52 : sq 159 52 B159_52 := sq_take 7 (e := 63) (by decide +kernel) sq159_63
theorem sq159_46 : sq 159 46 B159_46 := sq_take 3 (e := 52) (by decide +kernel) sq159_52
theorem sq159_26 : sq 159 26 B159_26 := sq_take 12 (e := 46) (by decide +kernel) True.intro
theorem sq159_25 : sq 159 25 B159_25 := sq_take 2 (e := 26) (by decide +kernel) True.intro
theorem sq159_17 : sq 159 17 B159_17 := sq_take 5 (e := 25) (by decide +kernel) sq159_25
theorem sq159_0 : sq 159 0 B159_0 := sq_take 10 (e := 17) (by decide +kernel) sq159_17
set_option maxRecDepth 100000 in
theorem sqM_159 : ∀ b, sq 159 b (tG 159 b) := show ∀ b, sq 159 b (lkB tb159 b) from lkB_sq (List.forall_mem_cons.mpr ⟨sq159_0, List.forall_mem_cons.mpr ⟨sq159_17, List.forall_mem_cons.mpr ⟨sq159_25, List.forall_mem_cons.mpr ⟨sq159_26, List.forall_mem_cons.mpr ⟨sq159_46, List.forall_mem_cons.mpr ⟨sq159_52, List.forall_mem_cons.mpr ⟨sq159_63, List.forall_mem_cons.mpr ⟨sq159_70, List.forall_mem_cons.mpr ⟨sq159_71, List.forall_mem_cons.mpr ⟨sq159_98, List.forall_mem_cons.mpr ⟨sq159_107, List.forall_mem_cons.mpr ⟨sq159_120, List.forall_mem_cons.mpr ⟨sq159_122, List.forall_mem_cons.mpr ⟨sq159_125, List.forall_mem_cons.mpr ⟨sq159_130, List.forall_mem_cons.mpr ⟨sq159_142, List.forall_mem_cons.mpr ⟨sq159_146, (fun _ h => absurd h List.not_mem_nil)⟩⟩⟩⟩⟩⟩⟩⟩⟩⟩⟩⟩⟩⟩⟩⟩⟩)
theorem sq160_76 : sq 160 76 B160_76 := sq_take 2 (e := 77) (by decide +kernel) True.intro
theorem sq160_73 : sq 160 73 B160_73 := sq_take 2 (e := 76) (by decide +kernel) sq160_76
theorem sq160_70 : sq 160 70 B160_70 := sq_take 1 (e := 73) (by decide +kernel) sq160_73
theorem sq160_52 : sq 160 52 B160_52 := sq_take 10 (e := 70) (by decide +kernel) True.intro
theorem sq160_43 : sq 160 43 B160_43 := sq_take 5 (e := 52) (by decide +kernel) sq160_52
theorem sq160_21 : sq 160 21 B160_21 := sq_take 13 (e := 43) (by decide +kernel) True.intro
theorem sq160_6 : sq 160 6 B160_6 := sq_take 10 (e := 21) (by decide +kernel) sq160_21
theorem sq160_0 : sq 160 0 B160_0 := sq_take 4 (e := 6) (by decide +kernel) sq160_6
set_option maxRecDepth 100000 in
theorem sqM_160 : ∀ b, sq 160 b (tG 160 b) := show ∀ b, sq 160 b (lkB tb160 b) from lkB_sq (List.forall_mem_cons.mpr ⟨sq160_0, List.forall_mem_cons.mpr ⟨sq160_6, List.forall_mem_cons.mpr ⟨sq160_21, List.forall_mem_cons.mpr ⟨sq160_43, List.forall_mem_cons.mpr ⟨sq160_52, List.forall_mem_cons.mpr ⟨sq160_70, List.forall_mem_cons.mpr ⟨sq160_73, List.forall_mem_cons.mpr ⟨sq160_76, (fun _ h => absurd h List.not_mem_nil)⟩⟩⟩⟩⟩⟩⟩⟩)
theorem sq161_26 : sq 161 26 B161_26 := sq_take 21 (e := 58) (by decide +kernel) True.intro
theorem sq161_25 : sq 161 25 B161_25 := sq_take 2 (e := 26) (by decide +kernel) True.intro
theorem sq161_21 : sq 161 21 B161_21 := sq_take 3 (e := 25) (by decide +kernel) sq161_25
theorem sq161_4 : sq 161 4 B161_4 := sq_take 12 (e := 21) (by decide +kernel) sq161_21
theorem sq161_0 : sq 161 0 B161_0 := sq_take 3 (e := 4) (by decide +kernel) sq161_4
set_option maxRecDepth 100000 in
theorem sqM_161 : ∀ b, sq 161 b (tG 161 b) := show ∀ b, sq 161 b (lkB tb161 b) from lkB_sq (List.forall_mem_cons.mpr ⟨sq161_0, List.forall_mem_cons.mpr ⟨sq161_4, List.forall_mem_cons.mpr ⟨sq161_21, List.forall_mem_cons.mpr ⟨sq161_25, List.forall_mem_cons.mpr ⟨sq161_26, (fun _ h => absurd h List.not_mem_nil)⟩⟩⟩⟩⟩)
theorem sq162_168 : sq 162 168 B162_168 := sq_take 2 (e := 169) (by decide +kernel) True.intro
theorem sq162_151 : sq 162 151 B162_151 := sq_take 9 (e := 168) (by decide +kernel) sq162_168
theorem sq162_150 : sq 162 150 B162_150 := sq_take 2 (e := 151) (by decide +kernel) True.intro
theorem sq162_143 : sq 162 143 B162_143 := sq_take 4 (e := 150) (by decide +kernel) sq162_150
theorem sq162_137 : sq 162 137 B162_137 := sq_take 4 (e := 143) (by decide +kernel) sq162_143
theorem sq162_135 : sq 162 135 B162_135 := sq_take 2 (e := 137) (by decide +kernel) True.intro
theorem sq162_132 : sq 162 132 B162_132 := sq_take 2 (e := 135) (by decide +kernel) sq162_135
theorem sq162_127 : sq 162 127 B162_127 := sq_take 3 (e := 132) (by decide +kernel) sq162_132
theorem sq162_121 : sq 162 121 B162_121 := sq_take 3 (e := 127) (by decide +kernel) True.intro
theorem sq162_113 : sq 162 113 B162_113 := sq_take 5 (e := 121) (by decide +kernel) sq162_121
theorem sq162_96 : sq 162 96 B162_96 := sq_take 12 (e := 113) (by decide +kernel) sq162_113
theorem sq162_94 : sq 162 94 B162_94 := sq_take 1 (e := 96) (by decide +kernel) sq162_96
theorem sq162_72 : sq 162 72 B162_72 := sq_take 13 (e := 94) (by decide +kernel) True.intro
theorem sq162_71 : sq 162 71 B162_71 := sq_take 2 (e := 72) (by decide +kernel) True.intro
theorem sq162_62 : sq 162 62 B162_62 := sq_take 6 (e := 71) (by decide +kernel) sq162_71
theorem sq162_58 : sq 162 58 B162_58 := sq_take 2 (e := 62) (by decide +kernel) sq162_62
theorem sq162_55 : sq 162 55 B162_55 := sq_take 2 (e := 58) (by decide +kernel) True.intro
theorem sq162_47 : sq 162 47 B162_47 := sq_take 5 (e := 55) (by decide +kernel) sq162_55
theorem sq162_32 : sq 162 32 B162_32 := sq_take 10 (e := 47) (by decide +kernel) sq162_47
theorem sq162_15 : sq 162 15 B162_15 := sq_take 9 (e := 32) (by decide +kernel) sq162_32
theorem sq162_14 : sq 162 14 B162_14 := sq_take 2 (e := 15) (by decide +kernel) True.intro
theorem sq162_4 : sq 162 4 B162_4 := sq_take 7 (e := 14) (by decide +kernel) sq162_14
theorem sq162_0 : sq 162 0 B162_0 := sq_take 3 (e := 4) (by decide +kernel) sq162_4
set_option maxRecDepth 100000 in
theorem sqM_162 : ∀ b, sq 162 b (tG 162 b) := show ∀ b, sq 162 b (lkB tb162 b) from lkB_sq (List.forall_mem_cons.mpr ⟨sq162_0, List.forall_mem_cons.mpr ⟨sq162_4, List.forall_mem_cons.mpr ⟨sq162_14, List.forall_mem_cons.mpr ⟨sq162_15, List.forall_mem_cons.mpr ⟨sq162_32, List.forall_mem_cons.mpr ⟨sq162_47, List.forall_mem_cons.mpr ⟨sq162_55, List.forall_mem_cons.mpr ⟨sq162_58, List.forall_mem_cons.mpr ⟨sq162_62, List.forall_mem_cons.mpr ⟨sq162_71, List.forall_mem_cons.mpr ⟨sq162_72, List.forall_mem_cons.mpr ⟨sq162_94, List.forall_mem_cons.mpr ⟨sq162_96, List.forall_mem_cons.mpr ⟨sq162_113, List.forall_mem_cons.mpr ⟨sq162_121, List.forall_mem_cons.mpr ⟨sq162_127, List.forall_mem_cons.mpr ⟨sq162_132, List.forall_mem_cons.mpr ⟨sq162_135, List.forall_mem_cons.mpr ⟨sq162_137, List.forall_mem_cons.mpr ⟨sq162_143, List.forall_mem_cons.mpr ⟨sq162_150, List.forall_mem_cons.mpr ⟨sq162_151, List.forall_mem_cons.mpr ⟨sq162_168, (fun _ h => absurd h List.not_mem_nil)⟩⟩⟩⟩⟩⟩⟩⟩⟩⟩⟩⟩⟩⟩⟩⟩⟩⟩⟩⟩⟩⟩⟩)
theorem sq163_55 : sq 163 55 B163_55 := sq_take 1 (e := 56) (by decide +kernel) True.intro
theorem sq163_54 : sq 163 54 B163_54 := sq_take 1 (e := 55) (by decide +kernel) sq163_55
theorem sq163_45 : sq 163 45 B163_45 := sq_take 4 (e := 54) (by decide +kernel) True.intro
theorem sq163_38 : sq 163 38 B163_38 := sq_take 3 (e := 45) (by decide +kernel) sq163_45
theorem sq163_31 : sq 163 31 B163_31 := sq_take 4 (e := 38) (by decide +kernel) True.intro
theorem sq163_25 : sq 163 25 B163_25 := sq_take 3 (e := 31) (by decide +kernel) sq163_31
theorem sq163_19 : sq 163 19 B163_19 := sq_take 4 (e := 25) (by decide +kernel) True.intro
theorem sq163_12 : sq 163 12 B163_12 := sq_take 3 (e := 19) (by decide +kernel) sq163_19
theorem sq163_6 : sq 163 6 B163_6 := sq_take 4 (e := 12) (by decide +kernel) True.intro
theorem sq163_0 : sq 163 0 B163_0 := sq_take 4 (e := 6) (by decide +kernel) sq163_6
set_option maxRecDepth 100000 in
theorem sqM_163 : ∀ b, sq 163 b (tG 163 b) := show ∀ b, sq 163 b (lkB tb163 b) from lkB_sq (List.forall_mem_cons.mpr ⟨sq163_0, List.forall_mem_cons.mpr ⟨sq163_6, List.forall_mem_cons.mpr ⟨sq163_12, List.forall_mem_cons.mpr ⟨sq163_19, List.forall_mem_cons.mpr ⟨sq163_25, List.forall_mem_cons.mpr ⟨sq163_31, List.forall_mem_cons.mpr ⟨sq163_38, List.forall_mem_cons.mpr ⟨sq163_45, List.forall_mem_cons.mpr ⟨sq163_54, List.forall_mem_cons.mpr ⟨sq163_55, (fun _ h => absurd h List.not_mem_nil)⟩⟩⟩⟩⟩⟩⟩⟩⟩⟩)
theorem sq164_115 : sq 164 115 B164_115 := sq_take 2 (e := 117) (by decide +kernel) True.intro
theorem sq164_111 : sq 164 111 B164_111 := sq_take 2 (e := 115) (by decide +kernel) True.intro
theorem sq164_107 : sq 164 107 B164_107 := sq_take 2 (e := 111) (by decide +kernel) True.intro
theorem sq164_104 : sq 164 104 B164_104 := sq_take 2 (e := 107) (by decide +kernel) True.intro
theorem sq164_101 : sq 164 101 B164_101 := sq_take 2 (e := 104) (by decide +kernel) True.intro
theorem sq164_98 : sq 164 98 B164_98 := sq_take 2 (e := 101) (by decide +kernel) True.intro
theorem sq164_95 : sq 164 95 B164_95 := sq_take 2 (e := 98) (by decide +kernel) True.intro
theorem sq164_92 : sq 164 92 B164_92 := sq_take 2 (e := 95) (by decide +kernel) True.intro
theorem sq164_15 : sq 164 15 B164_15 := sq_take 7 (e := 92) (by decide +kernel) True.intro
theorem sq164_0 : sq 164 0 B164_0 := sq_take 10 (e := 15) (by decide +kernel) True.intro
set_option maxRecDepth 100000 in
theorem sqM_164 : ∀ b, sq 164 b (tG 164 b) := show ∀ b, sq 164 b (lkB tb164 b) from lkB_sq (List.forall_mem_cons.mpr ⟨sq164_0, List.forall_mem_cons.mpr ⟨sq164_15, List.forall_mem_cons.mpr ⟨sq164_92, List.forall_mem_cons.mpr ⟨sq164_95, List.forall_mem_cons.mpr ⟨sq164_98, List.forall_mem_cons.mpr ⟨sq164_101, List.forall_mem_cons.mpr ⟨sq164_104, List.forall_mem_cons.mpr ⟨sq164_107, List.forall_mem_cons.mpr ⟨sq164_111, List.forall_mem_cons.mpr ⟨sq164_115, (fun _ h => absurd h List.not_mem_nil)⟩⟩⟩⟩⟩⟩⟩⟩⟩⟩)
theorem sq165_148 : sq 165 148 B165_148 := sq_take 2 (e := 149) (by decide +kernel) True.intro
theorem sq165_143 : sq 165 143 B165_143 := sq_take 3 (e := 148) (by decide +kernel) sq165_148
theorem sq165_140 : sq 165 140 B165_140 := sq_take 2 (e := 143) (by decide +kernel) True.intro
theorem sq165_132 : sq 165 132 B165_132 := sq_take 5 (e := 140) (by decide +kernel) sq165_140
theorem sq165_107 : sq 165 107 B165_107 := sq_take 15 (e := 132) (by decide +kernel) sq165_132
theorem sq165_106 : sq 165 106 B165_106 := sq_take 2 (e := 107) (by decide +kernel) True.intro
theorem sq165_97 : sq 165 97 B165_97 := sq_take 6 (e := 106) (by decide +kernel) sq165_106
theorem sq165_93 : sq 165 93 B165_93 := sq_take 2 (e := 97) (by decide +kernel) sq165_97
theorem sq165_90 : sq 165 90 B165_90 := sq_take 2 (e := 93) (by decide +kernel) True.intro
theorem sq165_82 : sq 165 82 B165_82 := sq_take 5 (e := 90) (by decide +kernel) sq165_90
theorem sq165_67 : sq 165 67 B165_67 := sq_take 10 (e := 82) (by decide +kernel) sq165_82
theorem sq165_60 : sq 165 60 B165_60 := sq_take 3 (e := 67) (by decide +kernel) sq165_67
theorem sq165_59 : sq 165 59 B165_59 := sq_take 2 (e := 60) (by decide +kernel) True.intro
theorem sq165_41 : sq 165 41 B165_41 := sq_take 11 (e := 59) (by decide +kernel) sq165_59
theorem sq165_23 : sq 165 23 B165_23 := sq_take 12 (e := 41) (by decide +kernel) sq165_41
theorem sq165_22 : sq 165 22 B165_22 := sq_take 1 (e := 23) (by decide +kernel) sq165_23
theorem sq165_0 : sq 165 0 B165_0 := sq_take 13 (e := 22) (by decide +kernel) True.intro
set_option maxRecDepth 100000 in
theorem sqM_165 : ∀ b, sq 165 b (tG 165 b) := show ∀ b, sq 165 b (lkB tb165 b) from lkB_sq (List.forall_mem_cons.mpr ⟨sq165_0, List.forall_mem_cons.mpr ⟨sq165_22, List.forall_mem_cons.mpr ⟨sq165_23, List.forall_mem_cons.mpr ⟨sq165_41, List.forall_mem_cons.mpr ⟨sq165_59, List.forall_mem_cons.mpr ⟨sq165_60, List.forall_mem_cons.mpr ⟨sq165_67, List.forall_mem_cons.mpr ⟨sq165_82, List.forall_mem_cons.mpr ⟨sq165_90, List.forall_mem_cons.mpr ⟨sq165_93, List.forall_mem_cons.mpr ⟨sq165_97, List.forall_mem_cons.mpr ⟨sq165_106, List.forall_mem_cons.mpr ⟨sq165_107, List.forall_mem_cons.mpr ⟨sq165_132, List.forall_mem_cons.mpr ⟨sq165_140, List.forall_mem_cons.mpr ⟨sq165_143, List.forall_mem_cons.mpr ⟨sq165_148, (fun _ h => absurd h List.not_mem_nil)⟩⟩⟩⟩⟩⟩⟩⟩⟩⟩⟩⟩⟩⟩⟩⟩⟩)
theorem sq166_45 : sq 166 45 B166_45 := sq_take 1 (e := 46) (by decide +kernel) True.intro
theorem sq166_44 : sq 166 44 B166_44 := sq_take 1 (e := 45) (by decide +kernel) sq166_45
theorem sq166_35 : sq 166 35 B166_35 := sq_take 4 (e := 44) (by decide +kernel) True.intro
theorem sq166_28 : sq 166 28 B166_28 := sq_take 3 (e := 35) (by decide +kernel) sq166_35
theorem sq166_21 : sq 166 21 B166_21 := sq_take 4 (e := 28) (by decide +kernel) True.intro
theorem sq166_14 : sq 166 14 B166_14 := sq_take 3 (e := 21) (by decide +kernel) sq166_21
theorem sq166_7 : sq 166 7 B166_7 := sq_take 4 (e := 14) (by decide +kernel) True.intro
theorem sq166_0 : sq 166 0 B166_0 := sq_take 4 (e := 7) (by decide +kernel) sq166_7
set_option maxRecDepth 100000 in
theorem sqM_166 : ∀ b, sq 166 b (tG 166 b) := show ∀ b, sq 166 b (lkB tb166 b) from lkB_sq (List.forall_mem_cons.mpr ⟨sq166_0, List.forall_mem_cons.mpr ⟨sq166_7, List.forall_mem_cons.mpr ⟨sq166_14, List.forall_mem_cons.mpr ⟨sq166_21, List.forall_mem_cons.mpr ⟨sq166_28, List.forall_mem_cons.mpr ⟨sq166_35, List.forall_mem_cons.mpr ⟨sq166_44, List.forall_mem_cons.mpr ⟨sq166_45, (fun _ h => absurd h List.not_mem_nil)⟩⟩⟩⟩⟩⟩⟩⟩)
theorem sq167_147 : sq 167 147 B167_147 := sq_take 2 (e := 149) (by decide +kernel) True.intro
theorem sq167_143 : sq 167 143 B167_143 := sq_take 2 (e := 147) (by decide +kernel) True.intro
theorem sq167_139 : sq 167 139 B167_139 := sq_take 2 (e := 143) (by decide +kernel) True.intro
theorem sq167_136 : sq 167 136 B167_136 := sq_take 2 (e := 139) (by decide +kernel) True.intro
theorem sq167_133 : sq 167 133 B167_133 := sq_take 2 (e := 136) (by decide +kernel) True.intro
theorem sq167_130 : sq 167 130 B167_130 := sq_take 2 (e := 133) (by decide +kernel) True.intro
theorem sq167_127 : sq 167 127 B167_127 := sq_take 2 (e := 130) (by decide +kernel) True.intro
theorem sq167_124 : sq 167 124 B167_124 := sq_take 2 (e := 127) (by decide +kernel) True.intro
theorem sq167_121 : sq 167 121 B167_121 := sq_take 2 (e := 124) (by decide +kernel) True.intro
theorem sq167_118 : sq 167 118 B167_118 := sq_take 2 (e := 121) (by decide +kernel) True.intro
theorem sq167_116 : sq 167 116 B167_116 := sq_take 2 (e := 118) (by decide +kernel) True.intro
theorem sq167_15 : sq 167 15 B167_15 := sq_take 7 (e := 116) (by decide +kernel) True.intro
theorem sq167_0 : sq 167 0 B167_0 := sq_take 10 (e := 15) (by decide +kernel) True.intro
set_option maxRecDepth 100000 in
theorem sqM_167 : ∀ b, sq 167 b (tG 167 b) := show ∀ b, sq 167 b (lkB tb167 b) from lkB_sq (List.forall_mem_cons.mpr ⟨sq167_0, List.forall_mem_cons.mpr ⟨sq167_15, List.forall_mem_cons.mpr ⟨sq167_116, List.forall_mem_cons.mpr ⟨sq167_118, List.forall_mem_cons.mpr ⟨sq167_121, List.forall_mem_cons.mpr ⟨sq167_124, List.forall_mem_cons.mpr ⟨sq167_127, List.forall_mem_cons.mpr ⟨sq167_130, List.forall_mem_cons.mpr ⟨sq167_133, List.forall_mem_cons.mpr ⟨sq167_136, List.forall_mem_cons.mpr ⟨sq167_139, List.forall_mem_cons.mpr ⟨sq167_143, List.forall_mem_cons.mpr ⟨sq167_147, (fun _ h => absurd h List.not_mem_nil)⟩⟩⟩⟩⟩⟩⟩⟩⟩⟩⟩⟩⟩)
