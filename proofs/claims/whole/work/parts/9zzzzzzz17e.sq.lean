theorem sq236_54 : sq 236 54 B236_54 := sq_take 1 (e := 55) (by decide +kernel) True.intro
theorem sq236_53 : sq 236 53 B236_53 := sq_take 2 (e := 54) (by decide +kernel) sq236_54
theorem sq236_25 : sq 236 25 B236_25 := sq_take 20 (e := 53) (by decide +kernel) True.intro
theorem sq236_23 : sq 236 23 B236_23 := sq_take 2 (e := 25) (by decide +kernel) True.intro
theorem sq236_0 : sq 236 0 B236_0 := sq_take 18 (e := 23) (by decide +kernel) sq236_23
set_option maxRecDepth 100000 in
theorem sqM_236 : ∀ b, sq 236 b (tG 236 b) := show ∀ b, sq 236 b (lkB tb236 b) from lkB_sq (List.forall_mem_cons.mpr ⟨sq236_0, List.forall_mem_cons.mpr ⟨sq236_23, List.forall_mem_cons.mpr ⟨sq236_25, List.forall_mem_cons.mpr ⟨sq236_53, List.forall_mem_cons.mpr ⟨sq236_54, (fun _ h => absurd h List.not_mem_nil)⟩⟩⟩⟩⟩)
theorem sq237_131 : sq 237 131 B237_131 := sq_take 1 (e := 132) (by decide +kernel) True.intro
theorem sq237_130 : sq 237 130 B237_130 := sq_take 2 (e := 131) (by decide +kernel) sq237_131
theorem sq237_87 : sq 237 87 B237_87 := sq_take 30 (e := 130) (by decide +kernel) True.intro
theorem sq237_68 : sq 237 68 B237_68 := sq_take 14 (e := 87) (by decide +kernel) sq237_87
theorem sq237_52 : sq 237 52 B237_52 := sq_take 12 (e := 68) (by decide +kernel) sq237_68
theorem sq237_50 : sq 237 50 B237_50 := sq_take 2 (e := 52) (by decide +kernel) True.intro
theorem sq237_0 : sq 237 0 B237_0 := sq_take 39 (e := 50) (by decide +kernel) sq237_50
set_option maxRecDepth 100000 in
theorem sqM_237 : ∀ b, sq 237 b (tG 237 b) := show ∀ b, sq 237 b (lkB tb237 b) from lkB_sq (List.forall_mem_cons.mpr ⟨sq237_0, List.forall_mem_cons.mpr ⟨sq237_50, List.forall_mem_cons.mpr ⟨sq237_52, List.forall_mem_cons.mpr ⟨sq237_68, List.forall_mem_cons.mpr ⟨sq237_87, List.forall_mem_cons.mpr ⟨sq237_130, List.forall_mem_cons.mpr ⟨sq237_131, (fun _ h => absurd h List.not_mem_nil)⟩⟩⟩⟩⟩⟩⟩)
theorem sq238_110 : sq 238 110 B238_110 := sq_take 2 (e := 112) (by decide +kernel) True.intro
theorem sq238_84 : sq 238 84 B238_84 := sq_take 22 (e := 110) (by decide +kernel) sq238_110
theorem sq238_78 : sq 238 78 B238_78 := sq_take 2 (e := 84) (by decide +kernel) True.intro
theorem sq238_77 : sq 238 77 B238_77 := sq_take 1 (e := 78) (by decide +kernel) True.intro
theorem sq238_76 : sq 238 76 B238_76 := sq_take 2 (e := 77) (by decide +kernel) sq238_77
theorem sq238_54 : sq 238 54 B238_54 := sq_take 15 (e := 76) (by decide +kernel) True.intro
theorem sq238_30 : sq 238 30 B238_30 := sq_take 16 (e := 54) (by decide +kernel) sq238_54
theorem sq238_19 : sq 238 19 B238_19 := sq_take 10 (e := 30) (by decide +kernel) sq238_30
theorem sq238_18 : sq 238 18 B238_18 := sq_take 1 (e := 19) (by decide +kernel) True.intro
theorem sq238_17 : sq 238 17 B238_17 := sq_take 1 (e := 18) (by decide +kernel) sq238_18
theorem sq238_8 : sq 238 8 B238_8 := sq_take 6 (e := 17) (by decide +kernel) True.intro
theorem sq238_0 : sq 238 0 B238_0 := sq_take 5 (e := 8) (by decide +kernel) sq238_8
set_option maxRecDepth 100000 in
theorem sqM_238 : ∀ b, sq 238 b (tG 238 b) := show ∀ b, sq 238 b (lkB tb238 b) from lkB_sq (List.forall_mem_cons.mpr ⟨sq238_0, List.forall_mem_cons.mpr ⟨sq238_8, List.forall_mem_cons.mpr ⟨sq238_17, List.forall_mem_cons.mpr ⟨sq238_18, List.forall_mem_cons.mpr ⟨sq238_19, List.forall_mem_cons.mpr ⟨sq238_30, List.forall_mem_cons.mpr ⟨sq238_54, List.forall_mem_cons.mpr ⟨sq238_76, List.forall_mem_cons.mpr ⟨sq238_77, List.forall_mem_cons.mpr ⟨sq238_78, List.forall_mem_cons.mpr ⟨sq238_84, List.forall_mem_cons.mpr ⟨sq238_110, (fun _ h => absurd h List.not_mem_nil)⟩⟩⟩⟩⟩⟩⟩⟩⟩⟩⟩⟩)
theorem sq239_13 : sq 239 13 B239_13 := sq_take 2 (e := 14) (by decide +kernel) True.intro
theorem sq239_0 : sq 239 0 B239_0 := sq_take 8 (e := 13) (by decide +kernel) sq239_13
set_option maxRecDepth 100000 in
theorem sqM_239 : ∀ b, sq 239 b (tG 239 b) := show ∀ b, sq 239 b (lkB tb239 b) from lkB_sq (List.forall_mem_cons.mpr ⟨sq239_0, List.forall_mem_cons.mpr ⟨sq239_13, (fun _ h => absurd h List.not_mem_nil)⟩⟩)
theorem sq240_223 : sq 240 223 B240_223 := sq_take 2 (e := 224) (by decide +kernel) True.intro
theorem sq240_219 : sq 240 219 B240_219 := sq_take 2 (e := 223) (by decide +kernel) sq240_223
theorem sq240_218 : sq 240 218 B240_218 := sq_take 2 (e := 219) (by decide +kernel) True.intro
theorem sq240_214 : sq 240 214 B240_214 := sq_take 2 (e := 218) (by decide +kernel) sq240_218
theorem sq240_213 : sq 240 213 B240_213 := sq_take 2 (e := 214) (by decide +kernel) True.intro
theorem sq240_210 : sq 240 210 B240_210 := sq_take 2 (e := 213) (by decide +kernel) sq240_213
theorem sq240_202 : sq 240 202 B240_202 := sq_take 4 (e := 210) (by decide +kernel) sq240_210
theorem sq240_199 : sq 240 199 B240_199 := sq_take 2 (e := 202) (by decide +kernel) True.intro
theorem sq240_191 : sq 240 191 B240_191 := sq_take 5 (e := 199) (by decide +kernel) sq240_199
theorem sq240_174 : sq 240 174 B240_174 := sq_take 7 (e := 191) (by decide +kernel) sq240_191
theorem sq240_173 : sq 240 173 B240_173 := sq_take 2 (e := 174) (by decide +kernel) True.intro
theorem sq240_159 : sq 240 159 B240_159 := sq_take 6 (e := 173) (by decide +kernel) sq240_173
theorem sq240_158 : sq 240 158 B240_158 := sq_take 2 (e := 159) (by decide +kernel) True.intro
theorem sq240_154 : sq 240 154 B240_154 := sq_take 2 (e := 158) (by decide +kernel) sq240_158
theorem sq240_151 : sq 240 151 B240_151 := sq_take 2 (e := 154) (by decide +kernel) True.intro
theorem sq240_134 : sq 240 134 B240_134 := sq_take 8 (e := 151) (by decide +kernel) sq240_151
theorem sq240_133 : sq 240 133 B240_133 := sq_take 2 (e := 134) (by decide +kernel) True.intro
theorem sq240_129 : sq 240 129 B240_129 := sq_take 2 (e := 133) (by decide +kernel) sq240_133
theorem sq240_128 : sq 240 128 B240_128 := sq_take 2 (e := 129) (by decide +kernel) True.intro
theorem sq240_124 : sq 240 124 B240_124 := sq_take 2 (e := 128) (by decide +kernel) sq240_128
theorem sq240_123 : sq 240 123 B240_123 := sq_take 1 (e := 124) (by decide +kernel) True.intro
theorem sq240_122 : sq 240 122 B240_122 := sq_take 1 (e := 123) (by decide +kernel) sq240_123
theorem sq240_119 : sq 240 119 B240_119 := sq_take 2 (e := 122) (by decide +kernel) True.intro
theorem sq240_100 : sq 240 100 B240_100 := sq_take 11 (e := 119) (by decide +kernel) sq240_119
theorem sq240_36 : sq 240 36 B240_36 := sq_take 14 (e := 100) (by decide +kernel) True.intro
theorem sq240_15 : sq 240 15 B240_15 := sq_take 12 (e := 36) (by decide +kernel) sq240_36
theorem sq240_0 : sq 240 0 B240_0 := sq_take 10 (e := 15) (by decide +kernel) sq240_15
set_option maxRecDepth 100000 in
theorem sqM_240 : ∀ b, sq 240 b (tG 240 b) := show ∀ b, sq 240 b (lkB tb240 b) from lkB_sq (List.forall_mem_cons.mpr ⟨sq240_0, List.forall_mem_cons.mpr ⟨sq240_15, List.forall_mem_cons.mpr ⟨sq240_36, List.forall_mem_cons.mpr ⟨sq240_100, List.forall_mem_cons.mpr ⟨sq240_119, List.forall_mem_cons.mpr ⟨sq240_122, List.forall_mem_cons.mpr ⟨sq240_123, List.forall_mem_cons.mpr ⟨sq240_124, List.forall_mem_cons.mpr ⟨sq240_128, List.forall_mem_cons.mpr ⟨sq240_129, List.forall_mem_cons.mpr ⟨sq240_133, List.forall_mem_cons.mpr ⟨sq240_134, List.forall_mem_cons.mpr ⟨sq240_151, List.forall_mem_cons.mpr ⟨sq240_154, List.forall_mem_cons.mpr ⟨sq240_158, List.forall_mem_cons.mpr ⟨sq240_159, List.forall_mem_cons.mpr ⟨sq240_173, List.forall_mem_cons.mpr ⟨sq240_174, List.forall_mem_cons.mpr ⟨sq240_191, List.forall_mem_cons.mpr ⟨sq240_199, List.forall_mem_cons.mpr ⟨sq240_202, List.forall_mem_cons.mpr ⟨sq240_210, List.forall_mem_cons.mpr ⟨sq240_213, List.forall_mem_cons.mpr ⟨sq240_214, List.forall_mem_cons.mpr ⟨sq240_218, List.forall_mem_cons.mpr ⟨sq240_219, List.forall_mem_cons.mpr ⟨sq240_223, (fun _ h => absurd h List.not_mem_nil)⟩⟩⟩⟩⟩⟩⟩⟩⟩⟩⟩⟩⟩⟩⟩⟩⟩⟩⟩⟩⟩⟩⟩⟩⟩⟩⟩)
theorem sq241_14 : sq 241 14 B241_14 := sq_take 2 (e := 15) (by decide +kernel) True.intro
theorem sq241_11 : sq 241 11 B241_11 := sq_take 2 (e := 14) (by decide +kernel) sq241_14
theorem sq241_0 : sq 241 0 B241_0 := sq_take 6 (e := 11) (by decide +kernel) sq241_11
set_option maxRecDepth 100000 in
theorem sqM_241 : ∀ b, sq 241 b (tG 241 b) := show ∀ b, sq 241 b (lkB tb241 b) from lkB_sq (List.forall_mem_cons.mpr ⟨sq241_0, List.forall_mem_cons.mpr ⟨sq241_11, List.forall_mem_cons.mpr ⟨sq241_14, (fun _ h => absurd h List.not_mem_nil)⟩⟩⟩)
theorem sq242_14 : sq 242 14 B242_14 := sq_take 2 (e := 15) (by decide +kernel) True.intro
theorem sq242_11 : sq 242 11 B242_11 := sq_take 2 (e := 14) (by decide +kernel) sq242_14
theorem sq242_0 : sq 242 0 B242_0 := sq_take 6 (e := 11) (by decide +kernel) sq242_11
set_option maxRecDepth 100000 in
theorem sqM_242 : ∀ b, sq 242 b (tG 242 b) := show ∀ b, sq 242 b (lkB tb242 b) from lkB_sq (List.forall_mem_cons.mpr ⟨sq242_0, List.forall_mem_cons.mpr ⟨sq242_11, List.forall_mem_cons.mpr ⟨sq242_14, (fun _ h => absurd h List.not_mem_nil)⟩⟩⟩)
theorem sq243_15 : sq 243 15 B243_15 := sq_take 1 (e := 16) (by decide +kernel) True.intro
theorem sq243_14 : sq 243 14 B243_14 := sq_take 1 (e := 15) (by decide +kernel) sq243_15
theorem sq243_0 : sq 243 0 B243_0 := sq_take 8 (e := 14) (by decide +kernel) True.intro
set_option maxRecDepth 100000 in
theorem sqM_243 : ∀ b, sq 243 b (tG 243 b) := show ∀ b, sq 243 b (lkB tb243 b) from lkB_sq (List.forall_mem_cons.mpr ⟨sq243_0, List.forall_mem_cons.mpr ⟨sq243_14, List.forall_mem_cons.mpr ⟨sq243_15, (fun _ h => absurd h List.not_mem_nil)⟩⟩⟩)
theorem sq244_17 : sq 244 17 B244_17 := sq_take 1 (e := 18) (by decide +kernel) True.intro
theorem sq244_16 : sq 244 16 B244_16 := sq_take 1 (e := 17) (by decide +kernel) sq244_17
theorem sq244_12 : sq 244 12 B244_12 := sq_take 3 (e := 16) (by decide +kernel) True.intro
theorem sq244_0 : sq 244 0 B244_0 := sq_take 7 (e := 12) (by decide +kernel) sq244_12
set_option maxRecDepth 100000 in
theorem sqM_244 : ∀ b, sq 244 b (tG 244 b) := show ∀ b, sq 244 b (lkB tb244 b) from lkB_sq (List.forall_mem_cons.mpr ⟨sq244_0, List.forall_mem_cons.mpr ⟨sq244_12, List.forall_mem_cons.mpr ⟨sq244_16, List.forall_mem_cons.mpr ⟨sq244_17, (fun _ h => absurd h List.not_mem_nil)⟩⟩⟩⟩)
theorem sq245_27 : sq 245 27 B245_27 := sq_take 1 (e := 28) (by decide +kernel) True.intro
theorem sq245_26 : sq 245 26 B245_26 := sq_take 1 (e := 27) (by decide +kernel) sq245_27
theorem sq245_22 : sq 245 22 B245_22 := sq_take 3 (e := 26) (by decide +kernel) True.intro
theorem sq245_0 : sq 245 0 B245_0 := sq_take 13 (e := 22) (by decide +kernel) sq245_22
set_option maxRecDepth 100000 in
theorem sqM_245 : ∀ b, sq 245 b (tG 245 b) := show ∀ b, sq 245 b (lkB tb245 b) from lkB_sq (List.forall_mem_cons.mpr ⟨sq245_0, List.forall_mem_cons.mpr ⟨sq245_22, List.forall_mem_cons.mpr ⟨sq245_26, List.forall_mem_cons.mpr ⟨sq245_27, (fun _ h => absurd h List.not_mem_nil)⟩⟩⟩⟩)
theorem sq246_95 : sq 246 95 B246_95 := sq_take 3 (e := 97) (by decide +kernel) True.intro
theorem sq246_83 : sq 246 83 B246_83 := sq_take 7 (e := 95) (by decide +kernel) sq246_95
theorem sq246_67 : sq 246 67 B246_67 := sq_take 9 (e := 83) (by decide +kernel) sq246_83
theorem sq246_64 : sq 246 64 B246_64 := sq_take 2 (e := 67) (by decide +kernel) True.intro
theorem sq246_59 : sq 246 59 B246_59 := sq_take 4 (e := 64) (by decide +kernel) sq246_64
theorem sq246_46 : sq 246 46 B246_46 := sq_take 7 (e := 59) (by decide +kernel) sq246_59
theorem sq246_40 : sq 246 40 B246_40 := sq_take 4 (e := 46) (by decide +kernel) True.intro
theorem sq246_37 : sq 246 37 B246_37 := sq_take 2 (e := 40) (by decide +kernel) sq246_40
theorem sq246_22 : sq 246 22 B246_22 := sq_take 8 (e := 37) (by decide +kernel) sq246_37
theorem sq246_4 : sq 246 4 B246_4 := sq_take 11 (e := 22) (by decide +kernel) sq246_22
theorem sq246_0 : sq 246 0 B246_0 := sq_take 3 (e := 4) (by decide +kernel) sq246_4
set_option maxRecDepth 100000 in
theorem sqM_246 : ∀ b, sq 246 b (tG 246 b) := show ∀ b, sq 246 b (lkB tb246 b) from lkB_sq (List.forall_mem_cons.mpr ⟨sq246_0, List.forall_mem_cons.mpr ⟨sq246_4, List.forall_mem_cons.mpr ⟨sq246_22, List.forall_mem_cons.mpr ⟨sq246_37, List.forall_mem_cons.mpr ⟨sq246_40, List.forall_mem_cons.mpr ⟨sq246_46, List.forall_mem_cons.mpr ⟨sq246_59, List.forall_mem_cons.mpr ⟨sq246_64, List.forall_mem_cons.mpr ⟨sq246_67, List.forall_mem_cons.mpr ⟨sq246_83, List.forall_mem_cons.mpr ⟨sq246_95, (fun _ h => absurd h List.not_mem_nil)⟩⟩⟩⟩⟩⟩⟩⟩⟩⟩⟩)
theorem sq247_235 : sq 247 235 B247_235 := sq_take 1 (e := 236) (by decide +kernel) True.intro
theorem sq247_234 : sq 247 234 B247_234 := sq_take 2 (e := 235) (by decide +kernel) sq247_235
theorem sq247_231 : sq 247 231 B247_231 := sq_take 2 (e := 234) (by decide +kernel) True.intro
theorem sq247_224 : sq 247 224 B247_224 := sq_take 4 (e := 231) (by decide +kernel) sq247_231
theorem sq247_223 : sq 247 223 B247_223 := sq_take 1 (e := 224) (by decide +kernel) sq247_224
theorem sq247_204 : sq 247 204 B247_204 := sq_take 11 (e := 223) (by decide +kernel) True.intro
theorem sq247_202 : sq 247 202 B247_202 := sq_take 3 (e := 204) (by decide +kernel) True.intro
theorem sq247_189 : sq 247 189 B247_189 := sq_take 7 (e := 202) (by decide +kernel) sq247_202
theorem sq247_183 : sq 247 183 B247_183 := sq_take 5 (e := 189) (by decide +kernel) sq247_189
theorem sq247_167 : sq 247 167 B247_167 := sq_take 8 (e := 183) (by decide +kernel) sq247_183
theorem sq247_164 : sq 247 164 B247_164 := sq_take 2 (e := 167) (by decide +kernel) True.intro
theorem sq247_161 : sq 247 161 B247_161 := sq_take 2 (e := 164) (by decide +kernel) sq247_164
theorem sq247_153 : sq 247 153 B247_153 := sq_take 4 (e := 161) (by decide +kernel) sq247_161
theorem sq247_148 : sq 247 148 B247_148 := sq_take 3 (e := 153) (by decide +kernel) sq247_153
theorem sq247_146 : sq 247 146 B247_146 := sq_take 3 (e := 148) (by decide +kernel) True.intro
theorem sq247_141 : sq 247 141 B247_141 := sq_take 3 (e := 146) (by decide +kernel) sq247_146
theorem sq247_130 : sq 247 130 B247_130 := sq_take 6 (e := 141) (by decide +kernel) sq247_141
theorem sq247_108 : sq 247 108 B247_108 := sq_take 10 (e := 130) (by decide +kernel) sq247_130
theorem sq247_106 : sq 247 106 B247_106 := sq_take 2 (e := 108) (by decide +kernel) True.intro
theorem sq247_94 : sq 247 94 B247_94 := sq_take 6 (e := 106) (by decide +kernel) sq247_106
theorem sq247_93 : sq 247 93 B247_93 := sq_take 1 (e := 94) (by decide +kernel) sq247_94
theorem sq247_90 : sq 247 90 B247_90 := sq_take 2 (e := 93) (by decide +kernel) True.intro
theorem sq247_87 : sq 247 87 B247_87 := sq_take 2 (e := 90) (by decide +kernel) sq247_90
theorem sq247_73 : sq 247 73 B247_73 := sq_take 8 (e := 87) (by decide +kernel) sq247_87
theorem sq247_64 : sq 247 64 B247_64 := sq_take 4 (e := 73) (by decide +kernel) sq247_73
theorem sq247_51 : sq 247 51 B247_51 := sq_take 7 (e := 64) (by decide +kernel) True.intro
theorem sq247_46 : sq 247 46 B247_46 := sq_take 4 (e := 51) (by decide +kernel) sq247_51
theorem sq247_45 : sq 247 45 B247_45 := sq_take 2 (e := 46) (by decide +kernel) sq247_46
theorem sq247_31 : sq 247 31 B247_31 := sq_take 7 (e := 45) (by decide +kernel) True.intro
theorem sq247_26 : sq 247 26 B247_26 := sq_take 4 (e := 31) (by decide +kernel) sq247_31
theorem sq247_25 : sq 247 25 B247_25 := sq_take 1 (e := 26) (by decide +kernel) sq247_26
theorem sq247_0 : sq 247 0 B247_0 := sq_take 14 (e := 25) (by decide +kernel) True.intro
set_option maxRecDepth 100000 in
theorem sqM_247 : ∀ b, sq 247 b (tG 247 b) := show ∀ b, sq 247 b (lkB tb247 b) from lkB_sq (List.forall_mem_cons.mpr ⟨sq247_0, List.forall_mem_cons.mpr ⟨sq247_25, List.forall_mem_cons.mpr ⟨sq247_26, List.forall_mem_cons.mpr ⟨sq247_31, List.forall_mem_cons.mpr ⟨sq247_45, List.forall_mem_cons.mpr ⟨sq247_46, List.forall_mem_cons.mpr ⟨sq247_51, List.forall_mem_cons.mpr ⟨sq247_64, List.forall_mem_cons.mpr ⟨sq247_73, List.forall_mem_cons.mpr ⟨sq247_87, List.forall_mem_cons.mpr ⟨sq247_90, List.forall_mem_cons.mpr ⟨sq247_93, List.forall_mem_cons.mpr ⟨sq247_94, List.forall_mem_cons.mpr ⟨sq247_106, List.forall_mem_cons.mpr ⟨sq247_108, List.forall_mem_cons.mpr ⟨sq247_130, List.forall_mem_cons.mpr ⟨sq247_141, List.forall_mem_cons.mpr ⟨sq247_146, List.forall_mem_cons.mpr ⟨sq247_148, List.forall_mem_cons.mpr ⟨sq247_153, List.forall_mem_cons.mpr ⟨sq247_161, List.forall_mem_cons.mpr ⟨sq247_164, List.forall_mem_cons.mpr ⟨sq247_167, List.forall_mem_cons.mpr ⟨sq247_183, List.forall_mem_cons.mpr ⟨sq247_189, List.forall_mem_cons.mpr ⟨sq247_202, List.forall_mem_cons.mpr ⟨sq247_204, List.forall_mem_cons.mpr ⟨sq247_223, List.forall_mem_cons.mpr ⟨sq247_224, List.forall_mem_cons.mpr ⟨sq247_231, List.forall_mem_cons.mpr ⟨sq247_234, List.forall_mem_cons.mpr ⟨sq247_235, (fun _ h => absurd h List.not_mem_nil)⟩⟩⟩⟩⟩⟩⟩⟩⟩⟩⟩⟩⟩⟩⟩⟩⟩⟩⟩⟩⟩⟩⟩⟩⟩⟩⟩⟩⟩⟩⟩⟩)
theorem sq248_61 : sq 248 61 B248_61 := sq_take 2 (e := 62) (by decide +kernel) True.intro
theorem sq248_57 : sq 248 57 B248_57 := sq_take 3 (e := 61) (by decide +kernel) sq248_61
theorem sq248_46 : sq 248 46 B248_46 := sq_take 5 (e := 57) (by decide +kernel) sq248_57
theorem sq248_43 : sq 248 43 B248_43 := sq_take 2 (e := 46) (by decide +kernel) True.intro
theorem sq248_40 : sq 248 40 B248_40 := sq_take 2 (e := 43) (by decide +kernel) sq248_43
theorem sq248_22 : sq 248 22 B248_22 := sq_take 9 (e := 40) (by decide +kernel) sq248_40
theorem sq248_18 : sq 248 18 B248_18 := sq_take 3 (e := 22) (by decide +kernel) sq248_22
theorem sq248_15 : sq 248 15 B248_15 := sq_take 2 (e := 18) (by decide +kernel) sq248_18
theorem sq248_0 : sq 248 0 B248_0 := sq_take 8 (e := 15) (by decide +kernel) sq248_15
set_option maxRecDepth 100000 in
theorem sqM_248 : ∀ b, sq 248 b (tG 248 b) := show ∀ b, sq 248 b (lkB tb248 b) from lkB_sq (List.forall_mem_cons.mpr ⟨sq248_0, List.forall_mem_cons.mpr ⟨sq248_15, List.forall_mem_cons.mpr ⟨sq248_18, List.forall_mem_cons.mpr ⟨sq248_22, List.forall_mem_cons.mpr ⟨sq248_40, List.forall_mem_cons.mpr ⟨sq248_43, List.forall_mem_cons.mpr ⟨sq248_46, List.forall_mem_cons.mpr ⟨sq248_57, List.forall_mem_cons.mpr ⟨sq248_61, (fun _ h => absurd h List.not_mem_nil)⟩⟩⟩⟩⟩⟩⟩⟩⟩)
theorem sq249_239 : sq 249 239 B249_239 := sq_take 2 (e := 240) (by decide +kernel) True.intro
theorem sq249_228 : sq 249 228 B249_228 := sq_take 6 (e := 239) (by decide +kernel) sq249_239
theorem sq249_213 : sq 249 213 B249_213 := sq_take 8 (e := 228) (by decide +kernel) sq249_228
theorem sq249_212 : sq 249 212 B249_212 := sq_take 2 (e := 213) (by decide +kernel) sq249_213
theorem sq249_205 : sq 249 205 B249_205 := sq_take 4 (e := 212) (by decide +kernel) sq249_212
theorem sq249_188 : sq 249 188 B249_188 := sq_take 9 (e := 205) (by decide +kernel) sq249_205
theorem sq249_174 : sq 249 174 B249_174 := sq_take 8 (e := 188) (by decide +kernel) sq249_188
theorem sq249_171 : sq 249 171 B249_171 := sq_take 2 (e := 174) (by decide +kernel) True.intro
theorem sq249_148 : sq 249 148 B249_148 := sq_take 11 (e := 171) (by decide +kernel) sq249_171
theorem sq249_144 : sq 249 144 B249_144 := sq_take 2 (e := 148) (by decide +kernel) sq249_148
theorem sq249_131 : sq 249 131 B249_131 := sq_take 7 (e := 144) (by decide +kernel) True.intro
theorem sq249_127 : sq 249 127 B249_127 := sq_take 2 (e := 131) (by decide +kernel) sq249_131
theorem sq249_116 : sq 249 116 B249_116 := sq_take 6 (e := 127) (by decide +kernel) True.intro
theorem sq249_105 : sq 249 105 B249_105 := sq_take 6 (e := 116) (by decide +kernel) sq249_116
theorem sq249_88 : sq 249 88 B249_88 := sq_take 9 (e := 105) (by decide +kernel) sq249_105
theorem sq249_80 : sq 249 80 B249_80 := sq_take 5 (e := 88) (by decide +kernel) sq249_88
theorem sq249_76 : sq 249 76 B249_76 := sq_take 2 (e := 80) (by decide +kernel) sq249_80
theorem sq249_56 : sq 249 56 B249_56 := sq_take 11 (e := 76) (by decide +kernel) True.intro
theorem sq249_48 : sq 249 48 B249_48 := sq_take 5 (e := 56) (by decide +kernel) sq249_56
theorem sq249_30 : sq 249 30 B249_30 := sq_take 8 (e := 48) (by decide +kernel) sq249_48
theorem sq249_29 : sq 249 29 B249_29 := sq_take 2 (e := 30) (by decide +kernel) True.intro
theorem sq249_22 : sq 249 22 B249_22 := sq_take 4 (e := 29) (by decide +kernel) sq249_29
theorem sq249_0 : sq 249 0 B249_0 := sq_take 11 (e := 22) (by decide +kernel) sq249_22
set_option maxRecDepth 100000 in
theorem sqM_249 : ∀ b, sq 249 b (tG 249 b) := show ∀ b, sq 249 b (lkB tb249 b) from lkB_sq (List.forall_mem_cons.mpr ⟨sq249_0, List.forall_mem_cons.mpr ⟨sq249_22, List.forall_mem_cons.mpr ⟨sq249_29, List.forall_mem_cons.mpr ⟨sq249_30, List.forall_mem_cons.mpr ⟨sq249_48, List.forall_mem_cons.mpr ⟨sq249_56, List.forall_mem_cons.mpr ⟨sq249_76, List.forall_mem_cons.mpr ⟨sq249_80, List.forall_mem_cons.mpr ⟨sq249_88, List.forall_mem_cons.mpr ⟨sq249_105, List.forall_mem_cons.mpr ⟨sq249_116, List.forall_mem_cons.mpr ⟨sq249_127, List.forall_mem_cons.mpr ⟨sq249_131, List.forall_mem_cons.mpr ⟨sq249_144, List.forall_mem_cons.mpr ⟨sq249_148, List.forall_mem_cons.mpr ⟨sq249_171, List.forall_mem_cons.mpr ⟨sq249_174, List.forall_mem_cons.mpr ⟨sq249_188, List.forall_mem_cons.mpr ⟨sq249_205, List.forall_mem_cons.mpr ⟨sq249_212, List.forall_mem_cons.mpr ⟨sq249_213, List.forall_mem_cons.mpr ⟨sq249_228, List.forall_mem_cons.mpr ⟨sq249_239, (fun _ h => absurd h List.not_mem_nil)⟩⟩⟩⟩⟩⟩⟩⟩⟩⟩⟩⟩⟩⟩⟩⟩⟩⟩⟩⟩⟩⟩⟩)
theorem sq250_265 : sq 250 265 B250_265 := sq_take 2 (e := 267) (by decide +kernel) True.intro
theorem sq250_263 : sq 250 263 B250_263 := sq_take 3 (e := 265) (by decide +kernel) sq250_265
theorem sq250_226 : sq 250 226 B250_226 := sq_take 20 (e := 263) (by decide +kernel) sq250_263
theorem sq250_210 : sq 250 210 B250_210 := sq_take 8 (e := 226) (by decide +kernel) sq250_226
theorem sq250_197 : sq 250 197 B250_197 := sq_take 7 (e := 210) (by decide +kernel) sq250_210
theorem sq250_193 : sq 250 193 B250_193 := sq_take 2 (e := 197) (by decide +kernel) sq250_197
theorem sq250_188 : sq 250 188 B250_188 := sq_take 4 (e := 193) (by decide +kernel) True.intro
theorem sq250_174 : sq 250 174 B250_174 := sq_take 7 (e := 188) (by decide +kernel) sq250_188
theorem sq250_167 : sq 250 167 B250_167 := sq_take 4 (e := 174) (by decide +kernel) sq250_174
theorem sq250_154 : sq 250 154 B250_154 := sq_take 7 (e := 167) (by decide +kernel) sq250_167
theorem sq250_136 : sq 250 136 B250_136 := sq_take 9 (e := 154) (by decide +kernel) sq250_154
theorem sq250_132 : sq 250 132 B250_132 := sq_take 2 (e := 136) (by decide +kernel) sq250_136
theorem sq250_129 : sq 250 129 B250_129 := sq_take 2 (e := 132) (by decide +kernel) True.intro
theorem sq250_120 : sq 250 120 B250_120 := sq_take 4 (e := 129) (by decide +kernel) sq250_129
theorem sq250_118 : sq 250 118 B250_118 := sq_take 2 (e := 120) (by decide +kernel) True.intro
theorem sq250_108 : sq 250 108 B250_108 := sq_take 5 (e := 118) (by decide +kernel) sq250_118
theorem sq250_107 : sq 250 107 B250_107 := sq_take 2 (e := 108) (by decide +kernel) True.intro
theorem sq250_104 : sq 250 104 B250_104 := sq_take 2 (e := 107) (by decide +kernel) sq250_107
theorem sq250_98 : sq 250 98 B250_98 := sq_take 3 (e := 104) (by decide +kernel) sq250_104
theorem sq250_80 : sq 250 80 B250_80 := sq_take 9 (e := 98) (by decide +kernel) True.intro
theorem sq250_73 : sq 250 73 B250_73 := sq_take 4 (e := 80) (by decide +kernel) sq250_80
theorem sq250_69 : sq 250 69 B250_69 := sq_take 2 (e := 73) (by decide +kernel) sq250_73
theorem sq250_57 : sq 250 57 B250_57 := sq_take 6 (e := 69) (by decide +kernel) True.intro
theorem sq250_53 : sq 250 53 B250_53 := sq_take 3 (e := 57) (by decide +kernel) sq250_57
theorem sq250_51 : sq 250 51 B250_51 := sq_take 2 (e := 53) (by decide +kernel) True.intro
theorem sq250_41 : sq 250 41 B250_41 := sq_take 6 (e := 51) (by decide +kernel) sq250_51
theorem sq250_29 : sq 250 29 B250_29 := sq_take 6 (e := 41) (by decide +kernel) sq250_41
theorem sq250_22 : sq 250 22 B250_22 := sq_take 4 (e := 29) (by decide +kernel) sq250_29
theorem sq250_21 : sq 250 21 B250_21 := sq_take 1 (e := 22) (by decide +kernel) sq250_22
theorem sq250_10 : sq 250 10 B250_10 := sq_take 6 (e := 21) (by decide +kernel) True.intro
theorem sq250_9 : sq 250 9 B250_9 := sq_take 1 (e := 10) (by decide +kernel) sq250_10
theorem sq250_0 : sq 250 0 B250_0 := sq_take 6 (e := 9) (by decide +kernel) True.intro
set_option maxRecDepth 100000 in
theorem sqM_250 : ∀ b, sq 250 b (tG 250 b) := show ∀ b, sq 250 b (lkB tb250 b) from lkB_sq (List.forall_mem_cons.mpr ⟨sq250_0, List.forall_mem_cons.mpr ⟨sq250_9, List.forall_mem_cons.mpr ⟨sq250_10, List.forall_mem_cons.mpr ⟨sq250_21, List.forall_mem_cons.mpr ⟨sq250_22, List.forall_mem_cons.mpr ⟨sq250_29, List.forall_mem_cons.mpr ⟨sq250_41, List.forall_mem_cons.mpr ⟨sq250_51, List.forall_mem_cons.mpr ⟨sq250_53, List.forall_mem_cons.mpr ⟨sq250_57, List.forall_mem_cons.mpr ⟨sq250_69, List.forall_mem_cons.mpr ⟨sq250_73, List.forall_mem_cons.mpr ⟨sq250_80, List.forall_mem_cons.mpr ⟨sq250_98, List.forall_mem_cons.mpr ⟨sq250_104, List.forall_mem_cons.mpr ⟨sq250_107, List.forall_mem_cons.mpr ⟨sq250_108, List.forall_mem_cons.mpr ⟨sq250_118, List.forall_mem_cons.mpr ⟨sq250_120, List.forall_mem_cons.mpr ⟨sq250_129, List.forall_mem_cons.mpr ⟨sq250_132, List.forall_mem_cons.mpr ⟨sq250_136, List.forall_mem_cons.mpr ⟨sq250_154, List.forall_mem_cons.mpr ⟨sq250_167, List.forall_mem_cons.mpr ⟨sq250_174, List.forall_mem_cons.mpr ⟨sq250_188, List.forall_mem_cons.mpr ⟨sq250_193, List.forall_mem_cons.mpr ⟨sq250_197, List.forall_mem_cons.mpr ⟨sq250_210, List.forall_mem_cons.mpr ⟨sq250_226, List.forall_mem_cons.mpr ⟨sq250_263, List.forall_mem_cons.mpr ⟨sq250_265, (fun _ h => absurd h List.not_mem_nil)⟩⟩⟩⟩⟩⟩⟩⟩⟩⟩⟩⟩⟩⟩⟩⟩⟩⟩⟩⟩⟩⟩⟩⟩⟩⟩⟩⟩⟩⟩⟩⟩)
theorem sq251_85 : sq 251 85 B251_85 := sq_take 11 (e := 102) (by decide +kernel) True.intro
theorem sq251_74 : sq 251 74 B251_74 := sq_take 5 (e := 85) (by decide +kernel) sq251_85
theorem sq251_72 : sq 251 72 B251_72 := sq_take 2 (e := 74) (by decide +kernel) True.intro
theorem sq251_19 : sq 251 19 B251_19 := sq_take 28 (e := 72) (by decide +kernel) sq251_72
theorem sq251_17 : sq 251 17 B251_17 := sq_take 1 (e := 19) (by decide +kernel) sq251_19
theorem sq251_14 : sq 251 14 B251_14 := sq_take 2 (e := 17) (by decide +kernel) True.intro
theorem sq251_4 : sq 251 4 B251_4 := sq_take 6 (e := 14) (by decide +kernel) sq251_14
theorem sq251_0 : sq 251 0 B251_0 := sq_take 3 (e := 4) (by decide +kernel) sq251_4
set_option maxRecDepth 100000 in
theorem sqM_251 : ∀ b, sq 251 b (tG 251 b) := show ∀ b, sq 251 b (lkB tb251 b) from lkB_sq (List.forall_mem_cons.mpr ⟨sq251_0, List.forall_mem_cons.mpr ⟨sq251_4, List.forall_mem_cons.mpr ⟨sq251_14, List.forall_mem_cons.mpr ⟨sq251_17, List.forall_mem_cons.mpr ⟨sq251_19, List.forall_mem_cons.mpr ⟨sq251_72, List.forall_mem_cons.mpr ⟨sq251_74, List.forall_mem_cons.mpr ⟨sq251_85, (fun _ h => absurd h List.not_mem_nil)⟩⟩⟩⟩⟩⟩⟩⟩)
theorem sq252_0 : sq 252 0 B252_0 := sq_take 10 (e := 15) (by decide +kernel) True.intro
set_option maxRecDepth 100000 in
theorem sqM_252 : ∀ b, sq 252 b (tG 252 b) := show ∀ b, sq 252 b (lkB tb252 b) from lkB_sq (List.forall_mem_cons.mpr ⟨sq252_0, (fun _ h => absurd h List.not_mem_nil)⟩)
theorem sq253_172 : sq 253 172 B253_172 := sq_take 2 (e := 173) (by decide +kernel) True.intro
theorem sq253_156 : sq 253 156 B253_156 := sq_take 10 (e := 172) (by decide +kernel) sq253_172
theorem sq253_155 : sq 253 155 B253_155 := sq_take 2 (e := 156) (by decide +kernel) True.intro
theorem sq253_126 : sq 253 126 B253_126 := sq_take 18 (e := 155) (by decide +kernel) sq253_155
theorem sq253_125 : sq 253 125 B253_125 := sq_take 1 (e := 126) (by decide +kernel) True.intro
theorem sq253_124 : sq 253 124 B253_124 := sq_take 2 (e := 125) (by decide +kernel) sq253_125
theorem sq253_97 : sq 253 97 B253_97 := sq_take 16 (e := 124) (by decide +kernel) True.intro
theorem sq253_96 : sq 253 96 B253_96 := sq_take 1 (e := 97) (by decide +kernel) True.intro
theorem sq253_95 : sq 253 95 B253_95 := sq_take 2 (e := 96) (by decide +kernel) sq253_96
theorem sq253_64 : sq 253 64 B253_64 := sq_take 15 (e := 95) (by decide +kernel) True.intro
theorem sq253_28 : sq 253 28 B253_28 := sq_take 2 (e := 64) (by decide +kernel) True.intro
theorem sq253_0 : sq 253 0 B253_0 := sq_take 17 (e := 28) (by decide +kernel) sq253_28
set_option maxRecDepth 100000 in
theorem sqM_253 : ∀ b, sq 253 b (tG 253 b) := show ∀ b, sq 253 b (lkB tb253 b) from lkB_sq (List.forall_mem_cons.mpr ⟨sq253_0, List.forall_mem_cons.mpr ⟨sq253_28, List.forall_mem_cons.mpr ⟨sq253_64, List.forall_mem_cons.mpr ⟨sq253_95, List.forall_mem_cons.mpr ⟨sq253_96, List.forall_mem_cons.mpr ⟨sq253_97, List.forall_mem_cons.mpr ⟨sq253_124, List.forall_mem_cons.mpr ⟨sq253_125, List.forall_mem_cons.mpr ⟨sq253_126, List.forall_mem_cons.mpr ⟨sq253_155, List.forall_mem_cons.mpr ⟨sq253_156, List.forall_mem_cons.mpr ⟨sq253_172, (fun _ h => absurd h List.not_mem_nil)⟩⟩⟩⟩⟩⟩⟩⟩⟩⟩⟩⟩)
theorem sq254_45 : sq 254 45 B254_45 := sq_take 1 (e := 46) (by decide +kernel) True.intro
theorem sq254_44 : sq 254 44 B254_44 := sq_take 2 (e := 45) (by decide +kernel) sq254_45
theorem sq254_0 : sq 254 0 B254_0 := sq_take 29 (e := 44) (by decide +kernel) True.intro
set_option maxRecDepth 100000 in
theorem sqM_254 : ∀ b, sq 254 b (tG 254 b) := show ∀ b, sq 254 b (lkB tb254 b) from lkB_sq (List.forall_mem_cons.mpr ⟨sq254_0, List.forall_mem_cons.mpr ⟨sq254_44, List.forall_mem_cons.mpr ⟨sq254_45, (fun _ h => absurd h List.not_mem_nil)⟩⟩⟩)
theorem sq255_250 : sq 255 250 B255_250 := sq_take 3 (e := 252) (by decide +kernel) True.intro
theorem sq255_243 : sq 255 243 B255_243 := sq_take 4 (e := 250) (by decide +kernel) sq255_250
theorem sq255_235 : sq 255 235 B255_235 := sq_take 5 (e := 243) (by decide +kernel) sq255_243
theorem sq255_227 : sq 255 227 B255_227 := sq_take 4 (e := 235) (by decide +kernel) sq255_235
theorem sq255_224 : sq 255 224 B255_224 := sq_take 2 (e := 227) (by decide +kernel) True.intro
theorem sq255_208 : sq 255 208 B255_208 := sq_take 9 (e := 224) (by decide +kernel) sq255_224
theorem sq255_202 : sq 255 202 B255_202 := sq_take 4 (e := 208) (by decide +kernel) True.intro
theorem sq255_189 : sq 255 189 B255_189 := sq_take 7 (e := 202) (by decide +kernel) sq255_202
theorem sq255_187 : sq 255 187 B255_187 := sq_take 3 (e := 189) (by decide +kernel) True.intro
theorem sq255_184 : sq 255 184 B255_184 := sq_take 2 (e := 187) (by decide +kernel) sq255_187
theorem sq255_167 : sq 255 167 B255_167 := sq_take 9 (e := 184) (by decide +kernel) sq255_184
theorem sq255_118 : sq 255 118 B255_118 := sq_take 28 (e := 167) (by decide +kernel) sq255_167
theorem sq255_113 : sq 255 113 B255_113 := sq_take 4 (e := 118) (by decide +kernel) True.intro
theorem sq255_103 : sq 255 103 B255_103 := sq_take 7 (e := 113) (by decide +kernel) sq255_113
theorem sq255_98 : sq 255 98 B255_98 := sq_take 4 (e := 103) (by decide +kernel) True.intro
theorem sq255_94 : sq 255 94 B255_94 := sq_take 2 (e := 98) (by decide +kernel) sq255_98
theorem sq255_93 : sq 255 93 B255_93 := sq_take 1 (e := 94) (by decide +kernel) True.intro
theorem sq255_91 : sq 255 91 B255_91 := sq_take 1 (e := 93) (by decide +kernel) sq255_93
theorem sq255_88 : sq 255 88 B255_88 := sq_take 2 (e := 91) (by decide +kernel) True.intro
theorem sq255_68 : sq 255 68 B255_68 := sq_take 10 (e := 88) (by decide +kernel) sq255_88
theorem sq255_62 : sq 255 62 B255_62 := sq_take 4 (e := 68) (by decide +kernel) True.intro
theorem sq255_58 : sq 255 58 B255_58 := sq_take 2 (e := 62) (by decide +kernel) sq255_62
theorem sq255_50 : sq 255 50 B255_50 := sq_take 6 (e := 58) (by decide +kernel) True.intro
theorem sq255_49 : sq 255 49 B255_49 := sq_take 1 (e := 50) (by decide +kernel) sq255_50
theorem sq255_29 : sq 255 29 B255_29 := sq_take 10 (e := 49) (by decide +kernel) True.intro
theorem sq255_21 : sq 255 21 B255_21 := sq_take 5 (e := 29) (by decide +kernel) sq255_29
theorem sq255_13 : sq 255 13 B255_13 := sq_take 5 (e := 21) (by decide +kernel) sq255_21
theorem sq255_4 : sq 255 4 B255_4 := sq_take 6 (e := 13) (by decide +kernel) sq255_13
theorem sq255_0 : sq 255 0 B255_0 := sq_take 3 (e := 4) (by decide +kernel) sq255_4
set_option maxRecDepth 100000 in
theorem sqM_255 : ∀ b, sq 255 b (tG 255 b) := show ∀ b, sq 255 b (lkB tb255 b) from lkB_sq (List.forall_mem_cons.mpr ⟨sq255_0, List.forall_mem_cons.mpr ⟨sq255_4, List.forall_mem_cons.mpr ⟨sq255_13, List.forall_mem_cons.mpr ⟨sq255_21, List.forall_mem_cons.mpr ⟨sq255_29, List.forall_mem_cons.mpr ⟨sq255_49, List.forall_mem_cons.mpr ⟨sq255_50, List.forall_mem_cons.mpr ⟨sq255_58, List.forall_mem_cons.mpr ⟨sq255_62, List.forall_mem_cons.mpr ⟨sq255_68, List.forall_mem_cons.mpr ⟨sq255_88, List.forall_mem_cons.mpr ⟨sq255_91, List.forall_mem_cons.mpr ⟨sq255_93, List.forall_mem_cons.mpr ⟨sq255_94, List.forall_mem_cons.mpr ⟨sq255_98, List.forall_mem_cons.mpr ⟨sq255_103, List.forall_mem_cons.mpr ⟨sq255_113, List.forall_mem_cons.mpr ⟨sq255_118, List.forall_mem_cons.mpr ⟨sq255_167, List.forall_mem_cons.mpr ⟨sq255_184, List.forall_mem_cons.mpr ⟨sq255_187, List.forall_mem_cons.mpr ⟨sq255_189, List.forall_mem_cons.mpr ⟨sq255_202, List.forall_mem_cons.mpr ⟨sq255_208, List.forall_mem_cons.mpr ⟨sq255_224, List.forall_mem_cons.mpr ⟨sq255_227, List.forall_mem_cons.mpr ⟨sq255_235, List.forall_mem_cons.mpr ⟨sq255_243, List.forall_mem_cons.mpr ⟨sq255_250, (fun _ h => absurd h List.not_mem_nil)⟩⟩⟩⟩⟩⟩⟩⟩⟩⟩⟩⟩⟩⟩⟩⟩⟩⟩⟩⟩⟩⟩⟩⟩⟩⟩⟩⟩⟩)
theorem sq256_111 : sq 256 111 B256_111 := sq_take 2 (e := 114) (by decide +kernel) True.intro
theorem sq256_109 : sq 256 109 B256_109 := sq_take 3 (e := 111) (by decide +kernel) True.intro
theorem sq256_102 : sq 256 102 B256_102 := sq_take 4 (e := 109) (by decide +kernel) sq256_109
theorem sq256_94 : sq 256 94 B256_94 := sq_take 5 (e := 102) (by decide +kernel) sq256_102
theorem sq256_86 : sq 256 86 B256_86 := sq_take 4 (e := 94) (by decide +kernel) sq256_94
theorem sq256_84 : sq 256 84 B256_84 := sq_take 3 (e := 86) (by decide +kernel) True.intro
theorem sq256_77 : sq 256 77 B256_77 := sq_take 5 (e := 84) (by decide +kernel) sq256_84
theorem sq256_69 : sq 256 69 B256_69 := sq_take 4 (e := 77) (by decide +kernel) sq256_77
theorem sq256_67 : sq 256 67 B256_67 := sq_take 3 (e := 69) (by decide +kernel) True.intro
theorem sq256_60 : sq 256 60 B256_60 := sq_take 5 (e := 67) (by decide +kernel) sq256_67
theorem sq256_52 : sq 256 52 B256_52 := sq_take 4 (e := 60) (by decide +kernel) sq256_60
theorem sq256_0 : sq 256 0 B256_0 := sq_take 3 (e := 52) (by decide +kernel) True.intro
set_option maxRecDepth 100000 in
theorem sqM_256 : ∀ b, sq 256 b (tG 256 b) := show ∀ b, sq 256 b (lkB tb256 b) from lkB_sq (List.forall_mem_cons.mpr ⟨sq256_0, List.forall_mem_cons.mpr ⟨sq256_52, List.forall_mem_cons.mpr ⟨sq256_60, List.forall_mem_cons.mpr ⟨sq256_67, List.forall_mem_cons.mpr ⟨sq256_69, List.forall_mem_cons.mpr ⟨sq256_77, List.forall_mem_cons.mpr ⟨sq256_84, List.forall_mem_cons.mpr ⟨sq256_86, List.forall_mem_cons.mpr ⟨sq256_94, List.forall_mem_cons.mpr ⟨sq256_102, List.forall_mem_cons.mpr ⟨sq256_109, List.forall_mem_cons.mpr ⟨sq256_111, (fun _ h => absurd h List.not_mem_nil)⟩⟩⟩⟩⟩⟩⟩⟩⟩⟩⟩⟩)
theorem sq257_165 : sq 257 165 B257_165 := sq_take 1 (e := 166) (by decide +kernel) True.intro
theorem sq257_163 : sq 257 163 B257_163 := sq_take 1 (e := 165) (by decide +kernel) sq257_165
theorem sq257_153 : sq 257 153 B257_153 := sq_take 5 (e := 163) (by decide +kernel) True.intro
theorem sq257_152 : sq 257 152 B257_152 := sq_take 2 (e := 153) (by decide +kernel) True.intro
theorem sq257_139 : sq 257 139 B257_139 := sq_take 9 (e := 152) (by decide +kernel) sq257_152
theorem sq257_134 : sq 257 134 B257_134 := sq_take 4 (e := 139) (by decide +kernel) True.intro
theorem sq257_130 : sq 257 130 B257_130 := sq_take 3 (e := 134) (by decide +kernel) sq257_134
theorem sq257_122 : sq 257 122 B257_122 := sq_take 5 (e := 130) (by decide +kernel) sq257_130
theorem sq257_113 : sq 257 113 B257_113 := sq_take 5 (e := 122) (by decide +kernel) sq257_122
theorem sq257_108 : sq 257 108 B257_108 := sq_take 4 (e := 113) (by decide +kernel) True.intro
theorem sq257_104 : sq 257 104 B257_104 := sq_take 2 (e := 108) (by decide +kernel) sq257_108
theorem sq257_101 : sq 257 101 B257_101 := sq_take 2 (e := 104) (by decide +kernel) True.intro
theorem sq257_96 : sq 257 96 B257_96 := sq_take 3 (e := 101) (by decide +kernel) sq257_101
theorem sq257_85 : sq 257 85 B257_85 := sq_take 6 (e := 96) (by decide +kernel) sq257_96
theorem sq257_73 : sq 257 73 B257_73 := sq_take 6 (e := 85) (by decide +kernel) sq257_85
theorem sq257_67 : sq 257 67 B257_67 := sq_take 4 (e := 73) (by decide +kernel) True.intro
theorem sq257_63 : sq 257 63 B257_63 := sq_take 2 (e := 67) (by decide +kernel) sq257_67
theorem sq257_61 : sq 257 61 B257_61 := sq_take 2 (e := 63) (by decide +kernel) True.intro
theorem sq257_50 : sq 257 50 B257_50 := sq_take 6 (e := 61) (by decide +kernel) sq257_61
theorem sq257_49 : sq 257 49 B257_49 := sq_take 1 (e := 50) (by decide +kernel) sq257_50
theorem sq257_46 : sq 257 46 B257_46 := sq_take 2 (e := 49) (by decide +kernel) True.intro
theorem sq257_43 : sq 257 43 B257_43 := sq_take 2 (e := 46) (by decide +kernel) sq257_46
theorem sq257_30 : sq 257 30 B257_30 := sq_take 8 (e := 43) (by decide +kernel) sq257_43
theorem sq257_29 : sq 257 29 B257_29 := sq_take 1 (e := 30) (by decide +kernel) sq257_30
theorem sq257_13 : sq 257 13 B257_13 := sq_take 10 (e := 29) (by decide +kernel) True.intro
theorem sq257_4 : sq 257 4 B257_4 := sq_take 6 (e := 13) (by decide +kernel) sq257_13
theorem sq257_0 : sq 257 0 B257_0 := sq_take 3 (e := 4) (by decide +kernel) sq257_4
set_option maxRecDepth 100000 in
theorem sqM_257 : ∀ b, sq 257 b (tG 257 b) := show ∀ b, sq 257 b (lkB tb257 b) from lkB_sq (List.forall_mem_cons.mpr ⟨sq257_0, List.forall_mem_cons.mpr ⟨sq257_4, List.forall_mem_cons.mpr ⟨sq257_13, List.forall_mem_cons.mpr ⟨sq257_29, List.forall_mem_cons.mpr ⟨sq257_30, List.forall_mem_cons.mpr ⟨sq257_43, List.forall_mem_cons.mpr ⟨sq257_46, List.forall_mem_cons.mpr ⟨sq257_49, List.forall_mem_cons.mpr ⟨sq257_50, List.forall_mem_cons.mpr ⟨sq257_61, List.forall_mem_cons.mpr ⟨sq257_63, List.forall_mem_cons.mpr ⟨sq257_67, List.forall_mem_cons.mpr ⟨sq257_73, List.forall_mem_cons.mpr ⟨sq257_85, List.forall_mem_cons.mpr ⟨sq257_96, List.forall_mem_cons.mpr ⟨sq257_101, List.forall_mem_cons.mpr ⟨sq257_104, List.forall_mem_cons.mpr ⟨sq257_108, List.forall_mem_cons.mpr ⟨sq257_113, List.forall_mem_cons.mpr ⟨sq257_122, List.forall_mem_cons.mpr ⟨sq257_130, List.forall_mem_cons.mpr ⟨sq257_134, List.forall_mem_cons.mpr ⟨sq257_139, List.forall_mem_cons.mpr ⟨sq257_152, List.forall_mem_cons.mpr ⟨sq257_153, List.forall_mem_cons.mpr ⟨sq257_163, List.forall_mem_cons.mpr ⟨sq257_165, (fun _ h => absurd h List.not_mem_nil)⟩⟩⟩⟩⟩⟩⟩⟩⟩⟩⟩⟩⟩⟩⟩⟩⟩⟩⟩⟩⟩⟩⟩⟩⟩⟩⟩)
theorem sq258_163 : sq 258 163 B258_163 := sq_take 3 (e := 165) (by decide +kernel) True.intro
theorem sq258_146 : sq 258 146 B258_146 := sq_take 9 (e := 163) (by decide +kernel) sq258_163
theorem sq258_138 : sq 258 138 B258_138 := sq_take 5 (e := 146) (by decide +kernel) True.intro
theorem sq258_133 : sq 258 133 B258_133 := sq_take 4 (e := 138) (by decide +kernel) True.intro
theorem sq258_116 : sq 258 116 B258_116 := sq_take 9 (e := 133) (by decide +kernel) sq258_133
theorem sq258_112 : sq 258 112 B258_112 := sq_take 3 (e := 116) (by decide +kernel) sq258_116
theorem sq258_101 : sq 258 101 B258_101 := sq_take 5 (e := 112) (by decide +kernel) sq258_112
theorem sq258_96 : sq 258 96 B258_96 := sq_take 4 (e := 101) (by decide +kernel) True.intro
theorem sq258_93 : sq 258 93 B258_93 := sq_take 2 (e := 96) (by decide +kernel) sq258_96
theorem sq258_75 : sq 258 75 B258_75 := sq_take 10 (e := 93) (by decide +kernel) sq258_93
theorem sq258_62 : sq 258 62 B258_62 := sq_take 9 (e := 75) (by decide +kernel) True.intro
theorem sq258_44 : sq 258 44 B258_44 := sq_take 10 (e := 62) (by decide +kernel) sq258_62
theorem sq258_33 : sq 258 33 B258_33 := sq_take 7 (e := 44) (by decide +kernel) sq258_44
theorem sq258_0 : sq 258 0 B258_0 := sq_take 19 (e := 33) (by decide +kernel) sq258_33
set_option maxRecDepth 100000 in
theorem sqM_258 : ∀ b, sq 258 b (tG 258 b) := show ∀ b, sq 258 b (lkB tb258 b) from lkB_sq (List.forall_mem_cons.mpr ⟨sq258_0, List.forall_mem_cons.mpr ⟨sq258_33, List.forall_mem_cons.mpr ⟨sq258_44, List.forall_mem_cons.mpr ⟨sq258_62, List.forall_mem_cons.mpr ⟨sq258_75, List.forall_mem_cons.mpr ⟨sq258_93, List.forall_mem_cons.mpr ⟨sq258_96, List.forall_mem_cons.mpr ⟨sq258_101, List.forall_mem_cons.mpr ⟨sq258_112, List.forall_mem_cons.mpr ⟨sq258_116, List.forall_mem_cons.mpr ⟨sq258_133, List.forall_mem_cons.mpr ⟨sq258_138, List.forall_mem_cons.mpr ⟨sq258_146, List.forall_mem_cons.mpr ⟨sq258_163, (fun _ h => absurd h List.not_mem_nil)⟩⟩⟩⟩⟩⟩⟩⟩⟩⟩⟩⟩⟩⟩)
theorem sq259_299 : sq 259 299 B259_299 := sq_take 3 (e := 301) (by decide +kernel) True.intro
theorem sq259_292 : sq 259 292 B259_292 := sq_take 4 (e := 299) (by decide +kernel) sq259_299
theorem sq259_288 : sq 259 288 B259_288 := sq_take 2 (e := 292) (by decide +kernel) sq259_292
theorem sq259_285 : sq 259 285 B259_285 := sq_take 2 (e := 288) (by decide +kernel) True.intro
theorem sq259_269 : sq 259 269 B259_269 := sq_take 9 (e := 285) (by decide +kernel) sq259_285
theorem sq259_254 : sq 259 254 B259_254 := sq_take 9 (e := 269) (by decide +kernel) sq259_269
theorem sq259_231 : sq 259 231 B259_231 := sq_take 12 (e := 254) (by decide +kernel) sq259_254
theorem sq259_228 : sq 259 228 B259_228 := sq_take 2 (e := 231) (by decide +kernel) True.intro
theorem sq259_216 : sq 259 216 B259_216 := sq_take 7 (e := 228) (by decide +kernel) sq259_228
theorem sq259_210 : sq 259 210 B259_210 := sq_take 4 (e := 216) (by decide +kernel) True.intro
theorem sq259_186 : sq 259 186 B259_186 := sq_take 14 (e := 210) (by decide +kernel) sq259_210
theorem sq259_153 : sq 259 153 B259_153 := sq_take 18 (e := 186) (by decide +kernel) sq259_186
theorem sq259_148 : sq 259 148 B259_148 := sq_take 4 (e := 153) (by decide +kernel) True.intro
theorem sq259_141 : sq 259 141 B259_141 := sq_take 5 (e := 148) (by decide +kernel) sq259_148
theorem sq259_132 : sq 259 132 B259_132 := sq_take 6 (e := 141) (by decide +kernel) sq259_141
theorem sq259_111 : sq 259 111 B259_111 := sq_take 11 (e := 132) (by decide +kernel) True.intro
theorem sq259_105 : sq 259 105 B259_105 := sq_take 4 (e := 111) (by decide +kernel) True.intro
theorem sq259_100 : sq 259 100 B259_100 := sq_take 2 (e := 105) (by decide +kernel) sq259_105
theorem sq259_98 : sq 259 98 B259_98 := sq_take 2 (e := 100) (by decide +kernel) True.intro
theorem sq259_81 : sq 259 81 B259_81 := sq_take 8 (e := 98) (by decide +kernel) sq259_98
theorem sq259_78 : sq 259 78 B259_78 := sq_take 2 (e := 81) (by decide +kernel) sq259_81
theorem sq259_68 : sq 259 68 B259_68 := sq_take 6 (e := 78) (by decide +kernel) sq259_78
theorem sq259_67 : sq 259 67 B259_67 := sq_take 1 (e := 68) (by decide +kernel) sq259_68
theorem sq259_64 : sq 259 64 B259_64 := sq_take 2 (e := 67) (by decide +kernel) True.intro
theorem sq259_61 : sq 259 61 B259_61 := sq_take 2 (e := 64) (by decide +kernel) sq259_64
theorem sq259_43 : sq 259 43 B259_43 := sq_take 10 (e := 61) (by decide +kernel) sq259_61
theorem sq259_34 : sq 259 34 B259_34 := sq_take 5 (e := 43) (by decide +kernel) sq259_43
theorem sq259_25 : sq 259 25 B259_25 := sq_take 6 (e := 34) (by decide +kernel) sq259_34
theorem sq259_20 : sq 259 20 B259_20 := sq_take 4 (e := 25) (by decide +kernel) sq259_25
theorem sq259_19 : sq 259 19 B259_19 := sq_take 1 (e := 20) (by decide +kernel) sq259_20
theorem sq259_7 : sq 259 7 B259_7 := sq_take 7 (e := 19) (by decide +kernel) True.intro
theorem sq259_0 : sq 259 0 B259_0 := sq_take 4 (e := 7) (by decide +kernel) sq259_7
set_option maxRecDepth 100000 in
theorem sqM_259 : ∀ b, sq 259 b (tG 259 b) := show ∀ b, sq 259 b (lkB tb259 b) from lkB_sq (List.forall_mem_cons.mpr ⟨sq259_0, List.forall_mem_cons.mpr ⟨sq259_7, List.forall_mem_cons.mpr ⟨sq259_19, List.forall_mem_cons.mpr ⟨sq259_20, List.forall_mem_cons.mpr ⟨sq259_25, List.forall_mem_cons.mpr ⟨sq259_34, List.forall_mem_cons.mpr ⟨sq259_43, List.forall_mem_cons.mpr ⟨sq259_61, List.forall_mem_cons.mpr ⟨sq259_64, List.forall_mem_cons.mpr ⟨sq259_67, List.forall_mem_cons.mpr ⟨sq259_68, List.forall_mem_cons.mpr ⟨sq259_78, List.forall_mem_cons.mpr ⟨sq259_81, List.forall_mem_cons.mpr ⟨sq259_98, List.forall_mem_cons.mpr ⟨sq259_100, List.forall_mem_cons.mpr ⟨sq259_105, List.forall_mem_cons.mpr ⟨sq259_111, List.forall_mem_cons.mpr ⟨sq259_132, List.forall_mem_cons.mpr ⟨sq259_141, List.forall_mem_cons.mpr ⟨sq259_148, List.forall_mem_cons.mpr ⟨sq259_153, List.forall_mem_cons.mpr ⟨sq259_186, List.forall_mem_cons.mpr ⟨sq259_210, List.forall_mem_cons.mpr ⟨sq259_216, List.forall_mem_cons.mpr ⟨sq259_228, List.forall_mem_cons.mpr ⟨sq259_231, List.forall_mem_cons.mpr ⟨sq259_254, List.forall_mem_cons.mpr ⟨sq259_269, List.forall_mem_cons.mpr ⟨sq259_285, List.forall_mem_cons.mpr ⟨sq259_288, List.forall_mem_cons.mpr ⟨sq259_292, List.forall_mem_cons.mpr ⟨sq259_299, (fun _ h => absurd h List.not_mem_nil)⟩⟩⟩⟩⟩⟩⟩⟩⟩⟩⟩⟩⟩⟩⟩⟩⟩⟩⟩⟩⟩⟩⟩⟩⟩⟩⟩⟩⟩⟩⟩⟩)
theorem sq260_37 : sq 260 37 B260_37 := sq_take 5 (e := 43) (by decide +kernel) True.intro
theorem sq260_25 : sq 260 25 B260_25 := sq_take 7 (e := 37) (by decide +kernel) sq260_37
theorem sq260_14 : sq 260 14 B260_14 := sq_take 5 (e := 25) (by decide +kernel) sq260_25
theorem sq260_0 : sq 260 0 B260_0 := sq_take 8 (e := 14) (by decide +kernel) True.intro
set_option maxRecDepth 100000 in
theorem sqM_260 : ∀ b, sq 260 b (tG 260 b) := show ∀ b, sq 260 b (lkB tb260 b) from lkB_sq (List.forall_mem_cons.mpr ⟨sq260_0, List.forall_mem_cons.mpr ⟨sq260_14, List.forall_mem_cons.mpr ⟨sq260_25, List.forall_mem_cons.mpr ⟨sq260_37, (fun _ h => absurd h List.not_mem_nil)⟩⟩⟩⟩)
theorem sq261_75 : sq 261 75 B261_75 := sq_take 1 (e := 76) (by decide +kernel) True.intro
theorem sq261_74 : sq 261 74 B261_74 := sq_take 1 (e := 75) (by decide +kernel) sq261_75
theorem sq261_54 : sq 261 54 B261_54 := sq_take 9 (e := 74) (by decide +kernel) True.intro
theorem sq261_49 : sq 261 49 B261_49 := sq_take 4 (e := 54) (by decide +kernel) True.intro
theorem sq261_30 : sq 261 30 B261_30 := sq_take 9 (e := 49) (by decide +kernel) sq261_49
theorem sq261_22 : sq 261 22 B261_22 := sq_take 5 (e := 30) (by decide +kernel) True.intro
theorem sq261_15 : sq 261 15 B261_15 := sq_take 6 (e := 22) (by decide +kernel) True.intro
theorem sq261_12 : sq 261 12 B261_12 := sq_take 2 (e := 15) (by decide +kernel) sq261_15
theorem sq261_0 : sq 261 0 B261_0 := sq_take 7 (e := 12) (by decide +kernel) sq261_12
set_option maxRecDepth 100000 in
theorem sqM_261 : ∀ b, sq 261 b (tG 261 b) := show ∀ b, sq 261 b (lkB tb261 b) from lkB_sq (List.forall_mem_cons.mpr ⟨sq261_0, List.forall_mem_cons.mpr ⟨sq261_12, List.forall_mem_cons.mpr ⟨sq261_15, List.forall_mem_cons.mpr ⟨sq261_22, List.forall_mem_cons.mpr ⟨sq261_30, List.forall_mem_cons.mpr ⟨sq261_49, List.forall_mem_cons.mpr ⟨sq261_54, List.forall_mem_cons.mpr ⟨sq261_74, List.forall_mem_cons.mpr ⟨sq261_75, (fun _ h => absurd h List.not_mem_nil)⟩⟩⟩⟩⟩⟩⟩⟩⟩)
theorem sq262_334 : sq 262 334 B262_334 := sq_take 2 (e := 336) (by decide +kernel) True.intro
theorem sq262_332 : sq 262 332 B262_332 := sq_take 3 (e := 334) (by decide +kernel) True.intro
theorem sq262_325 : sq 262 325 B262_325 := sq_take 5 (e := 332) (by decide +kernel) sq262_332
theorem sq262_296 : sq 262 296 B262_296 := sq_take 14 (e := 325) (by decide +kernel) sq262_325
theorem sq262_295 : sq 262 295 B262_295 := sq_take 2 (e := 296) (by decide +kernel) sq262_296
theorem sq262_276 : sq 262 276 B262_276 := sq_take 10 (e := 295) (by decide +kernel) True.intro
theorem sq262_275 : sq 262 275 B262_275 := sq_take 1 (e := 276) (by decide +kernel) sq262_276
theorem sq262_271 : sq 262 271 B262_271 := sq_take 3 (e := 275) (by decide +kernel) True.intro
theorem sq262_245 : sq 262 245 B262_245 := sq_take 13 (e := 271) (by decide +kernel) sq262_271
theorem sq262_243 : sq 262 243 B262_243 := sq_take 3 (e := 245) (by decide +kernel) True.intro
theorem sq262_235 : sq 262 235 B262_235 := sq_take 5 (e := 243) (by decide +kernel) sq262_243
theorem sq262_218 : sq 262 218 B262_218 := sq_take 10 (e := 235) (by decide +kernel) sq262_235
theorem sq262_215 : sq 262 215 B262_215 := sq_take 2 (e := 218) (by decide +kernel) True.intro
theorem sq262_212 : sq 262 212 B262_212 := sq_take 2 (e := 215) (by decide +kernel) sq262_215
theorem sq262_204 : sq 262 204 B262_204 := sq_take 4 (e := 212) (by decide +kernel) sq262_212
theorem sq262_200 : sq 262 200 B262_200 := sq_take 3 (e := 204) (by decide +kernel) sq262_204
theorem sq262_198 : sq 262 198 B262_198 := sq_take 3 (e := 200) (by decide +kernel) True.intro
theorem sq262_195 : sq 262 195 B262_195 := sq_take 2 (e := 198) (by decide +kernel) sq262_198
theorem sq262_194 : sq 262 194 B262_194 := sq_take 1 (e := 195) (by decide +kernel) sq262_195
theorem sq262_184 : sq 262 184 B262_184 := sq_take 6 (e := 194) (by decide +kernel) True.intro
theorem sq262_171 : sq 262 171 B262_171 := sq_take 8 (e := 184) (by decide +kernel) sq262_184
theorem sq262_161 : sq 262 161 B262_161 := sq_take 5 (e := 171) (by decide +kernel) sq262_171
theorem sq262_146 : sq 262 146 B262_146 := sq_take 8 (e := 161) (by decide +kernel) sq262_161
theorem sq262_145 : sq 262 145 B262_145 := sq_take 1 (e := 146) (by decide +kernel) sq262_146
theorem sq262_141 : sq 262 141 B262_141 := sq_take 3 (e := 145) (by decide +kernel) True.intro
theorem sq262_129 : sq 262 129 B262_129 := sq_take 6 (e := 141) (by decide +kernel) sq262_141
theorem sq262_127 : sq 262 127 B262_127 := sq_take 2 (e := 129) (by decide +kernel) True.intro
theorem sq262_116 : sq 262 116 B262_116 := sq_take 6 (e := 127) (by decide +kernel) sq262_127
theorem sq262_115 : sq 262 115 B262_115 := sq_take 1 (e := 116) (by decide +kernel) sq262_116
theorem sq262_112 : sq 262 112 B262_112 := sq_take 2 (e := 115) (by decide +kernel) True.intro
theorem sq262_109 : sq 262 109 B262_109 := sq_take 2 (e := 112) (by decide +kernel) sq262_112
theorem sq262_98 : sq 262 98 B262_98 := sq_take 6 (e := 109) (by decide +kernel) sq262_109
theorem sq262_93 : sq 262 93 B262_93 := sq_take 4 (e := 98) (by decide +kernel) sq262_98
theorem sq262_90 : sq 262 90 B262_90 := sq_take 2 (e := 93) (by decide +kernel) sq262_93
theorem sq262_81 : sq 262 81 B262_81 := sq_take 6 (e := 90) (by decide +kernel) sq262_90
theorem sq262_80 : sq 262 80 B262_80 := sq_take 1 (e := 81) (by decide +kernel) sq262_81
theorem sq262_61 : sq 262 61 B262_61 := sq_take 11 (e := 80) (by decide +kernel) True.intro
theorem sq262_49 : sq 262 49 B262_49 := sq_take 6 (e := 61) (by decide +kernel) sq262_61
theorem sq262_43 : sq 262 43 B262_43 := sq_take 5 (e := 49) (by decide +kernel) True.intro
theorem sq262_36 : sq 262 36 B262_36 := sq_take 3 (e := 43) (by decide +kernel) sq262_43
theorem sq262_33 : sq 262 33 B262_33 := sq_take 2 (e := 36) (by decide +kernel) True.intro
theorem sq262_0 : sq 262 0 B262_0 := sq_take 18 (e := 33) (by decide +kernel) sq262_33
set_option maxRecDepth 100000 in
theorem sqM_262 : ∀ b, sq 262 b (tG 262 b) := show ∀ b, sq 262 b (lkB tb262 b) from lkB_sq (List.forall_mem_cons.mpr ⟨sq262_0, List.forall_mem_cons.mpr ⟨sq262_33, List.forall_mem_cons.mpr ⟨sq262_36, List.forall_mem_cons.mpr ⟨sq262_43, List.forall_mem_cons.mpr ⟨sq262_49, List.forall_mem_cons.mpr ⟨sq262_61, List.forall_mem_cons.mpr ⟨sq262_80, List.forall_mem_cons.mpr ⟨sq262_81, List.forall_mem_cons.mpr ⟨sq262_90, List.forall_mem_cons.mpr ⟨sq262_93, List.forall_mem_cons.mpr ⟨sq262_98, List.forall_mem_cons.mpr ⟨sq262_109, List.forall_mem_cons.mpr ⟨sq262_112, List.forall_mem_cons.mpr ⟨sq262_115, List.forall_mem_cons.mpr ⟨sq262_116, List.forall_mem_cons.mpr ⟨sq262_127, List.forall_mem_cons.mpr ⟨sq262_129, List.forall_mem_cons.mpr ⟨sq262_141, List.forall_mem_cons.mpr ⟨sq262_145, List.forall_mem_cons.mpr ⟨sq262_146, List.forall_mem_cons.mpr ⟨sq262_161, List.forall_mem_cons.mpr ⟨sq262_171, List.forall_mem_cons.mpr ⟨sq262_184, List.forall_mem_cons.mpr ⟨sq262_194, List.forall_mem_cons.mpr ⟨sq262_195, List.forall_mem_cons.mpr ⟨sq262_198, List.forall_mem_cons.mpr ⟨sq262_200, List.forall_mem_cons.mpr ⟨sq262_204, List.forall_mem_cons.mpr ⟨sq262_212, List.forall_mem_cons.mpr ⟨sq262_215, List.forall_mem_cons.mpr ⟨sq262_218, List.forall_mem_cons.mpr ⟨sq262_235, List.forall_mem_cons.mpr ⟨sq262_243, List.forall_mem_cons.mpr ⟨sq262_245, List.forall_mem_cons.mpr ⟨sq262_271, List.forall_mem_cons.mpr ⟨sq262_275, List.forall_mem_cons.mpr ⟨sq262_276, List.forall_mem_cons.mpr ⟨sq262_295, List.forall_mem_cons.mpr ⟨sq262_296, List.forall_mem_cons.mpr ⟨sq262_325, List.forall_mem_cons.mpr ⟨sq262_332, List.forall_mem_cons.mpr ⟨sq262_334, (fun _ h => absurd h List.not_mem_nil)⟩⟩⟩⟩⟩⟩⟩⟩⟩⟩⟩⟩⟩⟩⟩⟩⟩⟩⟩⟩⟩⟩⟩⟩⟩⟩⟩⟩⟩⟩⟩⟩⟩⟩⟩⟩⟩⟩⟩⟩⟩⟩)
theorem sq263_16 : sq 263 16 B263_16 := sq_take 2 (e := 17) (by decide +kernel) True.intro
theorem sq263_0 : sq 263 0 B263_0 := sq_take 9 (e := 16) (by decide +kernel) sq263_16
set_option maxRecDepth 100000 in
theorem sqM_263 : ∀ b, sq 263 b (tG 263 b) := show ∀ b, sq 263 b (lkB tb263 b) from lkB_sq (List.forall_mem_cons.mpr ⟨sq263_0, List.forall_mem_cons.mpr ⟨sq263_16, (fun _ h => absurd h List.not_mem_nil)⟩⟩)
theorem sq264_79 : sq 264 79 B264_79 := sq_take 2 (e := 80) (by decide +kernel) True.intro
theorem sq264_66 : sq 264 66 B264_66 := sq_take 8 (e := 79) (by decide +kernel) sq264_79
theorem sq264_59 : sq 264 59 B264_59 := sq_take 4 (e := 66) (by decide +kernel) sq264_66
theorem sq264_58 : sq 264 58 B264_58 := sq_take 1 (e := 59) (by decide +kernel) sq264_59
theorem sq264_45 : sq 264 45 B264_45 := sq_take 8 (e := 58) (by decide +kernel) True.intro
theorem sq264_35 : sq 264 35 B264_35 := sq_take 8 (e := 45) (by decide +kernel) sq264_45
theorem sq264_24 : sq 264 24 B264_24 := sq_take 5 (e := 35) (by decide +kernel) sq264_35
theorem sq264_20 : sq 264 20 B264_20 := sq_take 2 (e := 24) (by decide +kernel) True.intro
theorem sq264_16 : sq 264 16 B264_16 := sq_take 2 (e := 20) (by decide +kernel) sq264_20
theorem sq264_0 : sq 264 0 B264_0 := sq_take 9 (e := 16) (by decide +kernel) True.intro
set_option maxRecDepth 100000 in
theorem sqM_264 : ∀ b, sq 264 b (tG 264 b) := show ∀ b, sq 264 b (lkB tb264 b) from lkB_sq (List.forall_mem_cons.mpr ⟨sq264_0, List.forall_mem_cons.mpr ⟨sq264_16, List.forall_mem_cons.mpr ⟨sq264_20, List.forall_mem_cons.mpr ⟨sq264_24, List.forall_mem_cons.mpr ⟨sq264_35, List.forall_mem_cons.mpr ⟨sq264_45, List.forall_mem_cons.mpr ⟨sq264_58, List.forall_mem_cons.mpr ⟨sq264_59, List.forall_mem_cons.mpr ⟨sq264_66, List.forall_mem_cons.mpr ⟨sq264_79, (fun _ h => absurd h List.not_mem_nil)⟩⟩⟩⟩⟩⟩⟩⟩⟩⟩)
theorem sq265_154 : sq 265 154 B265_154 := sq_take 2 (e := 155) (by decide +kernel) True.intro
theorem sq265_151 : sq 265 151 B265_151 := sq_take 2 (e := 154) (by decide +kernel) sq265_154
theorem sq265_149 : sq 265 149 B265_149 := sq_take 1 (e := 151) (by decide +kernel) sq265_151
theorem sq265_131 : sq 265 131 B265_131 := sq_take 10 (e := 149) (by decide +kernel) True.intro
theorem sq265_130 : sq 265 130 B265_130 := sq_take 1 (e := 131) (by decide +kernel) sq265_131
theorem sq265_117 : sq 265 117 B265_117 := sq_take 7 (e := 130) (by decide +kernel) True.intro
theorem sq265_113 : sq 265 113 B265_113 := sq_take 2 (e := 117) (by decide +kernel) sq265_117
theorem sq265_99 : sq 265 99 B265_99 := sq_take 7 (e := 113) (by decide +kernel) True.intro
theorem sq265_98 : sq 265 98 B265_98 := sq_take 1 (e := 99) (by decide +kernel) sq265_99
theorem sq265_88 : sq 265 88 B265_88 := sq_take 6 (e := 98) (by decide +kernel) True.intro
theorem sq265_82 : sq 265 82 B265_82 := sq_take 4 (e := 88) (by decide +kernel) sq265_88
theorem sq265_81 : sq 265 81 B265_81 := sq_take 1 (e := 82) (by decide +kernel) sq265_82
theorem sq265_77 : sq 265 77 B265_77 := sq_take 3 (e := 81) (by decide +kernel) True.intro
theorem sq265_62 : sq 265 62 B265_62 := sq_take 8 (e := 77) (by decide +kernel) sq265_77
theorem sq265_61 : sq 265 61 B265_61 := sq_take 1 (e := 62) (by decide +kernel) sq265_62
theorem sq265_57 : sq 265 57 B265_57 := sq_take 3 (e := 61) (by decide +kernel) True.intro
theorem sq265_15 : sq 265 15 B265_15 := sq_take 25 (e := 57) (by decide +kernel) sq265_57
theorem sq265_11 : sq 265 11 B265_11 := sq_take 2 (e := 15) (by decide +kernel) sq265_15
theorem sq265_8 : sq 265 8 B265_8 := sq_take 2 (e := 11) (by decide +kernel) True.intro
theorem sq265_0 : sq 265 0 B265_0 := sq_take 5 (e := 8) (by decide +kernel) sq265_8
set_option maxRecDepth 100000 in
theorem sqM_265 : ∀ b, sq 265 b (tG 265 b) := show ∀ b, sq 265 b (lkB tb265 b) from lkB_sq (List.forall_mem_cons.mpr ⟨sq265_0, List.forall_mem_cons.mpr ⟨sq265_8, List.forall_mem_cons.mpr ⟨sq265_11, List.forall_mem_cons.mpr ⟨sq265_15, List.forall_mem_cons.mpr ⟨sq265_57, List.forall_mem_cons.mpr ⟨sq265_61, List.forall_mem_cons.mpr ⟨sq265_62, List.forall_mem_cons.mpr ⟨sq265_77, List.forall_mem_cons.mpr ⟨sq265_81, List.forall_mem_cons.mpr ⟨sq265_82, List.forall_mem_cons.mpr ⟨sq265_88, List.forall_mem_cons.mpr ⟨sq265_98, List.forall_mem_cons.mpr ⟨sq265_99, List.forall_mem_cons.mpr ⟨sq265_113, List.forall_mem_cons.mpr ⟨sq265_117, List.forall_mem_cons.mpr ⟨sq265_130, List.forall_mem_cons.mpr ⟨sq265_131, List.forall_mem_cons.mpr ⟨sq265_149, List.forall_mem_cons.mpr ⟨sq265_151, List.forall_mem_cons.mpr ⟨sq265_154, (fun _ h => absurd h List.not_mem_nil)⟩⟩⟩⟩⟩⟩⟩⟩⟩⟩⟩⟩⟩⟩⟩⟩⟩⟩⟩⟩)
theorem sq266_31 : sq 266 31 B266_31 := sq_take 1 (e := 32) (by decide +kernel) True.intro
theorem sq266_30 : sq 266 30 B266_30 := sq_take 1 (e := 31) (by decide +kernel) sq266_31
theorem sq266_26 : sq 266 26 B266_26 := sq_take 3 (e := 30) (by decide +kernel) True.intro
theorem sq266_0 : sq 266 0 B266_0 := sq_take 13 (e := 26) (by decide +kernel) sq266_26
set_option maxRecDepth 100000 in
theorem sqM_266 : ∀ b, sq 266 b (tG 266 b) := show ∀ b, sq 266 b (lkB tb266 b) from lkB_sq (List.forall_mem_cons.mpr ⟨sq266_0, List.forall_mem_cons.mpr ⟨sq266_26, List.forall_mem_cons.mpr ⟨sq266_30, List.forall_mem_cons.mpr ⟨sq266_31, (fun _ h => absurd h List.not_mem_nil)⟩⟩⟩⟩)
theorem sq267_213 : sq 267 213 B267_213 := sq_take 2 (e := 215) (by decide +kernel) True.intro
theorem sq267_211 : sq 267 211 B267_211 := sq_take 3 (e := 213) (by decide +kernel) True.intro
theorem sq267_207 : sq 267 207 B267_207 := sq_take 3 (e := 211) (by decide +kernel) sq267_211
theorem sq267_162 : sq 267 162 B267_162 := sq_take 24 (e := 207) (by decide +kernel) sq267_207
theorem sq267_161 : sq 267 161 B267_161 := sq_take 2 (e := 162) (by decide +kernel) sq267_162
theorem sq267_154 : sq 267 154 B267_154 := sq_take 4 (e := 161) (by decide +kernel) True.intro
theorem sq267_147 : sq 267 147 B267_147 := sq_take 4 (e := 154) (by decide +kernel) sq267_154
theorem sq267_137 : sq 267 137 B267_137 := sq_take 5 (e := 147) (by decide +kernel) sq267_147
theorem sq267_133 : sq 267 133 B267_133 := sq_take 3 (e := 137) (by decide +kernel) sq267_137
theorem sq267_119 : sq 267 119 B267_119 := sq_take 7 (e := 133) (by decide +kernel) sq267_133
theorem sq267_115 : sq 267 115 B267_115 := sq_take 2 (e := 119) (by decide +kernel) sq267_119
theorem sq267_110 : sq 267 110 B267_110 := sq_take 3 (e := 115) (by decide +kernel) True.intro
theorem sq267_106 : sq 267 106 B267_106 := sq_take 2 (e := 110) (by decide +kernel) sq267_110
theorem sq267_84 : sq 267 84 B267_84 := sq_take 12 (e := 106) (by decide +kernel) True.intro
theorem sq267_80 : sq 267 80 B267_80 := sq_take 2 (e := 84) (by decide +kernel) sq267_84
theorem sq267_77 : sq 267 77 B267_77 := sq_take 2 (e := 80) (by decide +kernel) True.intro
theorem sq267_65 : sq 267 65 B267_65 := sq_take 7 (e := 77) (by decide +kernel) sq267_77
theorem sq267_57 : sq 267 57 B267_57 := sq_take 5 (e := 65) (by decide +kernel) sq267_65
theorem sq267_46 : sq 267 46 B267_46 := sq_take 6 (e := 57) (by decide +kernel) sq267_57
theorem sq267_31 : sq 267 31 B267_31 := sq_take 8 (e := 46) (by decide +kernel) sq267_46
theorem sq267_20 : sq 267 20 B267_20 := sq_take 6 (e := 31) (by decide +kernel) sq267_31
theorem sq267_8 : sq 267 8 B267_8 := sq_take 7 (e := 20) (by decide +kernel) sq267_20
theorem sq267_4 : sq 267 4 B267_4 := sq_take 3 (e := 8) (by decide +kernel) sq267_8
theorem sq267_0 : sq 267 0 B267_0 := sq_take 3 (e := 4) (by decide +kernel) sq267_4
set_option maxRecDepth 100000 in
theorem sqM_267 : ∀ b, sq 267 b (tG 267 b) := show ∀ b, sq 267 b (lkB tb267 b) from lkB_sq (List.forall_mem_cons.mpr ⟨sq267_0, List.forall_mem_cons.mpr ⟨sq267_4, List.forall_mem_cons.mpr ⟨sq267_8, List.forall_mem_cons.mpr ⟨sq267_20, List.forall_mem_cons.mpr ⟨sq267_31, List.forall_mem_cons.mpr ⟨sq267_46, List.forall_mem_cons.mpr ⟨sq267_57, List.forall_mem_cons.mpr ⟨sq267_65, List.forall_mem_cons.mpr ⟨sq267_77, List.forall_mem_cons.mpr ⟨sq267_80, List.forall_mem_cons.mpr ⟨sq267_84, List.forall_mem_cons.mpr ⟨sq267_106, List.forall_mem_cons.mpr ⟨sq267_110, List.forall_mem_cons.mpr ⟨sq267_115, List.forall_mem_cons.mpr ⟨sq267_119, List.forall_mem_cons.mpr ⟨sq267_133, List.forall_mem_cons.mpr ⟨sq267_137, List.forall_mem_cons.mpr ⟨sq267_147, List.forall_mem_cons.mpr ⟨sq267_154, List.forall_mem_cons.mpr ⟨sq267_161, List.forall_mem_cons.mpr ⟨sq267_162, List.forall_mem_cons.mpr ⟨sq267_207, List.forall_mem_cons.mpr ⟨sq267_211, List.forall_mem_cons.mpr ⟨sq267_213, (fun _ h => absurd h List.not_mem_nil)⟩⟩⟩⟩⟩⟩⟩⟩⟩⟩⟩⟩⟩⟩⟩⟩⟩⟩⟩⟩⟩⟩⟩⟩)
theorem sq268_372 : sq 268 372 B268_372 := sq_take 2 (e := 373) (by decide +kernel) True.intro
theorem sq268_369 : sq 268 369 B268_369 := sq_take 2 (e := 372) (by decide +kernel) sq268_372
theorem sq268_362 : sq 268 362 B268_362 := sq_take 4 (e := 369) (by decide +kernel) sq268_369
theorem sq268_355 : sq 268 355 B268_355 := sq_take 4 (e := 362) (by decide +kernel) sq268_362
theorem sq268_348 : sq 268 348 B268_348 := sq_take 4 (e := 355) (by decide +kernel) sq268_355
theorem sq268_341 : sq 268 341 B268_341 := sq_take 3 (e := 348) (by decide +kernel) sq268_348
theorem sq268_340 : sq 268 340 B268_340 := sq_take 2 (e := 341) (by decide +kernel) True.intro
theorem sq268_337 : sq 268 337 B268_337 := sq_take 2 (e := 340) (by decide +kernel) sq268_340
theorem sq268_330 : sq 268 330 B268_330 := sq_take 4 (e := 337) (by decide +kernel) sq268_337
theorem sq268_323 : sq 268 323 B268_323 := sq_take 4 (e := 330) (by decide +kernel) sq268_330
theorem sq268_316 : sq 268 316 B268_316 := sq_take 4 (e := 323) (by decide +kernel) sq268_323
theorem sq268_309 : sq 268 309 B268_309 := sq_take 3 (e := 316) (by decide +kernel) sq268_316
theorem sq268_308 : sq 268 308 B268_308 := sq_take 2 (e := 309) (by decide +kernel) True.intro
theorem sq268_305 : sq 268 305 B268_305 := sq_take 2 (e := 308) (by decide +kernel) sq268_308
theorem sq268_298 : sq 268 298 B268_298 := sq_take 4 (e := 305) (by decide +kernel) sq268_305
theorem sq268_291 : sq 268 291 B268_291 := sq_take 4 (e := 298) (by decide +kernel) sq268_298
theorem sq268_284 : sq 268 284 B268_284 := sq_take 4 (e := 291) (by decide +kernel) sq268_291
theorem sq268_277 : sq 268 277 B268_277 := sq_take 3 (e := 284) (by decide +kernel) sq268_284
theorem sq268_276 : sq 268 276 B268_276 := sq_take 2 (e := 277) (by decide +kernel) True.intro
theorem sq268_273 : sq 268 273 B268_273 := sq_take 2 (e := 276) (by decide +kernel) sq268_276
theorem sq268_266 : sq 268 266 B268_266 := sq_take 4 (e := 273) (by decide +kernel) sq268_273
theorem sq268_259 : sq 268 259 B268_259 := sq_take 4 (e := 266) (by decide +kernel) sq268_266
theorem sq268_252 : sq 268 252 B268_252 := sq_take 4 (e := 259) (by decide +kernel) sq268_259
theorem sq268_245 : sq 268 245 B268_245 := sq_take 3 (e := 252) (by decide +kernel) sq268_252
theorem sq268_244 : sq 268 244 B268_244 := sq_take 2 (e := 245) (by decide +kernel) True.intro
theorem sq268_225 : sq 268 225 B268_225 := sq_take 9 (e := 244) (by decide +kernel) sq268_244
theorem sq268_224 : sq 268 224 B268_224 := sq_take 2 (e := 225) (by decide +kernel) True.intro
theorem sq268_205 : sq 268 205 B268_205 := sq_take 9 (e := 224) (by decide +kernel) sq268_224
theorem sq268_204 : sq 268 204 B268_204 := sq_take 2 (e := 205) (by decide +kernel) True.intro
theorem sq268_185 : sq 268 185 B268_185 := sq_take 9 (e := 204) (by decide +kernel) sq268_204
theorem sq268_184 : sq 268 184 B268_184 := sq_take 2 (e := 185) (by decide +kernel) True.intro
theorem sq268_165 : sq 268 165 B268_165 := sq_take 9 (e := 184) (by decide +kernel) sq268_184
theorem sq268_164 : sq 268 164 B268_164 := sq_take 1 (e := 165) (by decide +kernel) True.intro
theorem sq268_163 : sq 268 163 B268_163 := sq_take 1 (e := 164) (by decide +kernel) sq268_164
theorem sq268_135 : sq 268 135 B268_135 := sq_take 16 (e := 163) (by decide +kernel) True.intro
theorem sq268_117 : sq 268 117 B268_117 := sq_take 10 (e := 135) (by decide +kernel) True.intro
theorem sq268_116 : sq 268 116 B268_116 := sq_take 1 (e := 117) (by decide +kernel) True.intro
theorem sq268_113 : sq 268 113 B268_113 := sq_take 3 (e := 116) (by decide +kernel) sq268_116
theorem sq268_103 : sq 268 103 B268_103 := sq_take 7 (e := 113) (by decide +kernel) True.intro
theorem sq268_98 : sq 268 98 B268_98 := sq_take 3 (e := 103) (by decide +kernel) sq268_103
theorem sq268_97 : sq 268 97 B268_97 := sq_take 2 (e := 98) (by decide +kernel) True.intro
theorem sq268_92 : sq 268 92 B268_92 := sq_take 3 (e := 97) (by decide +kernel) sq268_97
theorem sq268_0 : sq 268 0 B268_0 := sq_take 3 (e := 92) (by decide +kernel) True.intro
set_option maxRecDepth 100000 in
theorem sqM_268 : ∀ b, sq 268 b (tG 268 b) := show ∀ b, sq 268 b (lkB tb268 b) from lkB_sq (List.forall_mem_cons.mpr ⟨sq268_0, List.forall_mem_cons.mpr ⟨sq268_92, List.forall_mem_cons.mpr ⟨sq268_97, List.forall_mem_cons.mpr ⟨sq268_98, List.forall_mem_cons.mpr ⟨sq268_103, List.forall_mem_cons.mpr ⟨sq268_113, List.forall_mem_cons.mpr ⟨sq268_116, List.forall_mem_cons.mpr ⟨sq268_117, List.forall_mem_cons.mpr ⟨sq268_135, List.forall_mem_cons.mpr ⟨sq268_163, List.forall_mem_cons.mpr ⟨sq268_164, List.forall_mem_cons.mpr ⟨sq268_165, List.forall_mem_cons.mpr ⟨sq268_184, List.forall_mem_cons.mpr ⟨sq268_185, List.forall_mem_cons.mpr ⟨sq268_204, List.forall_mem_cons.mpr ⟨sq268_205, List.forall_mem_cons.mpr ⟨sq268_224, List.forall_mem_cons.mpr ⟨sq268_225, List.forall_mem_cons.mpr ⟨sq268_244, List.forall_mem_cons.mpr ⟨sq268_245, List.forall_mem_cons.mpr ⟨sq268_252, List.forall_mem_cons.mpr ⟨sq268_259, List.forall_mem_cons.mpr ⟨sq268_266, List.forall_mem_cons.mpr ⟨sq268_273, List.forall_mem_cons.mpr ⟨sq268_276, List.forall_mem_cons.mpr ⟨sq268_277, List.forall_mem_cons.mpr ⟨sq268_284, List.forall_mem_cons.mpr ⟨sq268_291, List.forall_mem_cons.mpr ⟨sq268_298, List.forall_mem_cons.mpr ⟨sq268_305, List.forall_mem_cons.mpr ⟨sq268_308, List.forall_mem_cons.mpr ⟨sq268_309, List.forall_mem_cons.mpr ⟨sq268_316, List.forall_mem_cons.mpr ⟨sq268_323, List.forall_mem_cons.mpr ⟨sq268_330, List.forall_mem_cons.mpr ⟨sq268_337, List.forall_mem_cons.mpr ⟨sq268_340, List.forall_mem_cons.mpr ⟨sq268_341, List.forall_mem_cons.mpr ⟨sq268_348, List.forall_mem_cons.mpr ⟨sq268_355, List.forall_mem_cons.mpr ⟨sq268_362, List.forall_mem_cons.mpr ⟨sq268_369, List.forall_mem_cons.mpr ⟨sq268_372, (fun _ h => absurd h List.not_mem_nil)⟩⟩⟩⟩⟩⟩⟩⟩⟩⟩⟩⟩⟩⟩⟩⟩⟩⟩⟩⟩⟩⟩⟩⟩⟩⟩⟩⟩⟩⟩⟩⟩⟩⟩⟩⟩⟩⟩⟩⟩⟩⟩⟩)
theorem sq269_0 : sq 269 0 B269_0 := sq_take 5 (e := 6) (by decide +kernel) True.intro
set_option maxRecDepth 100000 in
theorem sqM_269 : ∀ b, sq 269 b (tG 269 b) := show ∀ b, sq 269 b (lkB tb269 b) from lkB_sq (List.forall_mem_cons.mpr ⟨sq269_0, (fun _ h => absurd h List.not_mem_nil)⟩)
theorem sq270_141 : sq 270 141 B270_141 := sq_take 1 (e := 142) (by decide +kernel) True.intro
theorem sq270_140 : sq 270 140 B270_140 := sq_take 1 (e := 141) (by decide +kernel) sq270_141
theorem sq270_136 : sq 270 136 B270_136 := sq_take 3 (e := 140) (by decide +kernel) True.intro
theorem sq270_127 : sq 270 127 B270_127 := sq_take 6 (e := 136) (by decide +kernel) sq270_136
theorem sq270_126 : sq 270 126 B270_126 := sq_take 1 (e := 127) (by decide +kernel) sq270_127
theorem sq270_122 : sq 270 122 B270_122 := sq_take 3 (e := 126) (by decide +kernel) True.intro
theorem sq270_95 : sq 270 95 B270_95 := sq_take 14 (e := 122) (by decide +kernel) sq270_122
theorem sq270_81 : sq 270 81 B270_81 := sq_take 7 (e := 95) (by decide +kernel) sq270_95
theorem sq270_69 : sq 270 69 B270_69 := sq_take 7 (e := 81) (by decide +kernel) sq270_81
theorem sq270_68 : sq 270 68 B270_68 := sq_take 1 (e := 69) (by decide +kernel) sq270_69
theorem sq270_32 : sq 270 32 B270_32 := sq_take 21 (e := 68) (by decide +kernel) True.intro
theorem sq270_0 : sq 270 0 B270_0 := sq_take 19 (e := 32) (by decide +kernel) True.intro
set_option maxRecDepth 100000 in
theorem sqM_270 : ∀ b, sq 270 b (tG 270 b) := show ∀ b, sq 270 b (lkB tb270 b) from lkB_sq (List.forall_mem_cons.mpr ⟨sq270_0, List.forall_mem_cons.mpr ⟨sq270_32, List.forall_mem_cons.mpr ⟨sq270_68, List.forall_mem_cons.mpr ⟨sq270_69, List.forall_mem_cons.mpr ⟨sq270_81, List.forall_mem_cons.mpr ⟨sq270_95, List.forall_mem_cons.mpr ⟨sq270_122, List.forall_mem_cons.mpr ⟨sq270_126, List.forall_mem_cons.mpr ⟨sq270_127, List.forall_mem_cons.mpr ⟨sq270_136, List.forall_mem_cons.mpr ⟨sq270_140, List.forall_mem_cons.mpr ⟨sq270_141, (fun _ h => absurd h List.not_mem_nil)⟩⟩⟩⟩⟩⟩⟩⟩⟩⟩⟩⟩)
theorem sq271_27 : sq 271 27 B271_27 := sq_take 1 (e := 28) (by decide +kernel) True.intro
theorem sq271_26 : sq 271 26 B271_26 := sq_take 1 (e := 27) (by decide +kernel) sq271_27
theorem sq271_19 : sq 271 19 B271_19 := sq_take 4 (e := 26) (by decide +kernel) True.intro
theorem sq271_13 : sq 271 13 B271_13 := sq_take 3 (e := 19) (by decide +kernel) sq271_19
theorem sq271_6 : sq 271 6 B271_6 := sq_take 4 (e := 13) (by decide +kernel) True.intro
theorem sq271_0 : sq 271 0 B271_0 := sq_take 4 (e := 6) (by decide +kernel) sq271_6
set_option maxRecDepth 100000 in
theorem sqM_271 : ∀ b, sq 271 b (tG 271 b) := show ∀ b, sq 271 b (lkB tb271 b) from lkB_sq (List.forall_mem_cons.mpr ⟨sq271_0, List.forall_mem_cons.mpr ⟨sq271_6, List.forall_mem_cons.mpr ⟨sq271_13, List.forall_mem_cons.mpr ⟨sq271_19, List.forall_mem_cons.mpr ⟨sq271_26, List.forall_mem_cons.mpr ⟨sq271_27, (fun _ h => absurd h List.not_mem_nil)⟩⟩⟩⟩⟩⟩)
theorem sq272_27 : sq 272 27 B272_27 := sq_take 1 (e := 28) (by decide +kernel) True.intro
theorem sq272_26 : sq 272 26 B272_26 := sq_take 1 (e := 27) (by decide +kernel) sq272_27
theorem sq272_19 : sq 272 19 B272_19 := sq_take 4 (e := 26) (by decide +kernel) True.intro
theorem sq272_13 : sq 272 13 B272_13 := sq_take 3 (e := 19) (by decide +kernel) sq272_19
theorem sq272_6 : sq 272 6 B272_6 := sq_take 4 (e := 13) (by decide +kernel) True.intro
theorem sq272_0 : sq 272 0 B272_0 := sq_take 4 (e := 6) (by decide +kernel) sq272_6
set_option maxRecDepth 100000 in
theorem sqM_272 : ∀ b, sq 272 b (tG 272 b) := show ∀ b, sq 272 b (lkB tb272 b) from lkB_sq (List.forall_mem_cons.mpr ⟨sq272_0, List.forall_mem_cons.mpr ⟨sq272_6, List.forall_mem_cons.mpr ⟨sq272_13, List.forall_mem_cons.mpr ⟨sq272_19, List.forall_mem_cons.mpr ⟨sq272_26, List.forall_mem_cons.mpr ⟨sq272_27, (fun _ h => absurd h List.not_mem_nil)⟩⟩⟩⟩⟩⟩)
theorem sq273_51 : sq 273 51 B273_51 := sq_take 1 (e := 52) (by decide +kernel) True.intro
theorem sq273_50 : sq 273 50 B273_50 := sq_take 1 (e := 51) (by decide +kernel) sq273_51
theorem sq273_43 : sq 273 43 B273_43 := sq_take 4 (e := 50) (by decide +kernel) True.intro
theorem sq273_22 : sq 273 22 B273_22 := sq_take 9 (e := 43) (by decide +kernel) sq273_43
theorem sq273_20 : sq 273 20 B273_20 := sq_take 2 (e := 22) (by decide +kernel) True.intro
theorem sq273_17 : sq 273 17 B273_17 := sq_take 2 (e := 20) (by decide +kernel) sq273_20
theorem sq273_7 : sq 273 7 B273_7 := sq_take 5 (e := 17) (by decide +kernel) sq273_17
theorem sq273_0 : sq 273 0 B273_0 := sq_take 4 (e := 7) (by decide +kernel) sq273_7
set_option maxRecDepth 100000 in
theorem sqM_273 : ∀ b, sq 273 b (tG 273 b) := show ∀ b, sq 273 b (lkB tb273 b) from lkB_sq (List.forall_mem_cons.mpr ⟨sq273_0, List.forall_mem_cons.mpr ⟨sq273_7, List.forall_mem_cons.mpr ⟨sq273_17, List.forall_mem_cons.mpr ⟨sq273_20, List.forall_mem_cons.mpr ⟨sq273_22, List.forall_mem_cons.mpr ⟨sq273_43, List.forall_mem_cons.mpr ⟨sq273_50, List.forall_mem_cons.mpr ⟨sq273_51, (fun _ h => absurd h List.not_mem_nil)⟩⟩⟩⟩⟩⟩⟩⟩)
theorem sq274_298 : sq 274 298 B274_298 := sq_take 2 (e := 299) (by decide +kernel) True.intro
theorem sq274_285 : sq 274 285 B274_285 := sq_take 8 (e := 298) (by decide +kernel) sq274_298
theorem sq274_272 : sq 274 272 B274_272 := sq_take 7 (e := 285) (by decide +kernel) sq274_285
theorem sq274_269 : sq 274 269 B274_269 := sq_take 2 (e := 272) (by decide +kernel) True.intro
theorem sq274_256 : sq 274 256 B274_256 := sq_take 8 (e := 269) (by decide +kernel) sq274_269
theorem sq274_243 : sq 274 243 B274_243 := sq_take 7 (e := 256) (by decide +kernel) sq274_256
theorem sq274_240 : sq 274 240 B274_240 := sq_take 2 (e := 243) (by decide +kernel) True.intro
theorem sq274_227 : sq 274 227 B274_227 := sq_take 8 (e := 240) (by decide +kernel) sq274_240
theorem sq274_214 : sq 274 214 B274_214 := sq_take 7 (e := 227) (by decide +kernel) sq274_227
theorem sq274_211 : sq 274 211 B274_211 := sq_take 2 (e := 214) (by decide +kernel) True.intro
theorem sq274_198 : sq 274 198 B274_198 := sq_take 8 (e := 211) (by decide +kernel) sq274_211
theorem sq274_185 : sq 274 185 B274_185 := sq_take 7 (e := 198) (by decide +kernel) sq274_198
theorem sq274_182 : sq 274 182 B274_182 := sq_take 2 (e := 185) (by decide +kernel) True.intro
theorem sq274_178 : sq 274 178 B274_178 := sq_take 2 (e := 182) (by decide +kernel) sq274_182
theorem sq274_175 : sq 274 175 B274_175 := sq_take 2 (e := 178) (by decide +kernel) True.intro
theorem sq274_164 : sq 274 164 B274_164 := sq_take 6 (e := 175) (by decide +kernel) sq274_175
theorem sq274_153 : sq 274 153 B274_153 := sq_take 5 (e := 164) (by decide +kernel) sq274_164
theorem sq274_150 : sq 274 150 B274_150 := sq_take 2 (e := 153) (by decide +kernel) True.intro
theorem sq274_139 : sq 274 139 B274_139 := sq_take 6 (e := 150) (by decide +kernel) sq274_150
theorem sq274_128 : sq 274 128 B274_128 := sq_take 5 (e := 139) (by decide +kernel) sq274_139
theorem sq274_44 : sq 274 44 B274_44 := sq_take 3 (e := 128) (by decide +kernel) True.intro
theorem sq274_33 : sq 274 33 B274_33 := sq_take 6 (e := 44) (by decide +kernel) sq274_44
theorem sq274_22 : sq 274 22 B274_22 := sq_take 6 (e := 33) (by decide +kernel) sq274_33
theorem sq274_11 : sq 274 11 B274_11 := sq_take 6 (e := 22) (by decide +kernel) sq274_22
theorem sq274_0 : sq 274 0 B274_0 := sq_take 6 (e := 11) (by decide +kernel) sq274_11
set_option maxRecDepth 100000 in
theorem sqM_274 : ∀ b, sq 274 b (tG 274 b) := show ∀ b, sq 274 b (lkB tb274 b) from lkB_sq (List.forall_mem_cons.mpr ⟨sq274_0, List.forall_mem_cons.mpr ⟨sq274_11, List.forall_mem_cons.mpr ⟨sq274_22, List.forall_mem_cons.mpr ⟨sq274_33, List.forall_mem_cons.mpr ⟨sq274_44, List.forall_mem_cons.mpr ⟨sq274_128, List.forall_mem_cons.mpr ⟨sq274_139, List.forall_mem_cons.mpr ⟨sq274_150, List.forall_mem_cons.mpr ⟨sq274_153, List.forall_mem_cons.mpr ⟨sq274_164, List.forall_mem_cons.mpr ⟨sq274_175, List.forall_mem_cons.mpr ⟨sq274_178, List.forall_mem_cons.mpr ⟨sq274_182, List.forall_mem_cons.mpr ⟨sq274_185, List.forall_mem_cons.mpr ⟨sq274_198, List.forall_mem_cons.mpr ⟨sq274_211, List.forall_mem_cons.mpr ⟨sq274_214, List.forall_mem_cons.mpr ⟨sq274_227, List.forall_mem_cons.mpr ⟨sq274_240, List.forall_mem_cons.mpr ⟨sq274_243, List.forall_mem_cons.mpr ⟨sq274_256, List.forall_mem_cons.mpr ⟨sq274_269, List.forall_mem_cons.mpr ⟨sq274_272, List.forall_mem_cons.mpr ⟨sq274_285, List.forall_mem_cons.mpr ⟨sq274_298, (fun _ h => absurd h List.not_mem_nil)⟩⟩⟩⟩⟩⟩⟩⟩⟩⟩⟩⟩⟩⟩⟩⟩⟩⟩⟩⟩⟩⟩⟩⟩⟩)
