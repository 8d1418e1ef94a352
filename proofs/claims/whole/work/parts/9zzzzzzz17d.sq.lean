theorem sq168_307 : sq 168 307 B168_307 := sq_take 2 (e := 308) (by decide +kernel) True.intro
theorem sq168_268 : sq 168 268 B168_268 := sq_take 26 (e := 307) (by decide +kernel) sq168_307
theorem sq168_267 : sq 168 267 B168_267 := sq_take 2 (e := 268) (by decide +kernel) True.intro
theorem sq168_258 : sq 168 258 B168_258 := sq_take 6 (e := 267) (by decide +kernel) sq168_267
theorem sq168_257 : sq 168 257 B168_257 := sq_take 1 (e := 258) (by decide +kernel) sq168_258
theorem sq168_254 : sq 168 254 B168_254 := sq_take 2 (e := 257) (by decide +kernel) True.intro
theorem sq168_246 : sq 168 246 B168_246 := sq_take 5 (e := 254) (by decide +kernel) sq168_254
theorem sq168_245 : sq 168 245 B168_245 := sq_take 2 (e := 246) (by decide +kernel) True.intro
theorem sq168_238 : sq 168 238 B168_238 := sq_take 4 (e := 245) (by decide +kernel) sq168_245
theorem sq168_191 : sq 168 191 B168_191 := sq_take 29 (e := 238) (by decide +kernel) sq168_238
theorem sq168_180 : sq 168 180 B168_180 := sq_take 6 (e := 191) (by decide +kernel) sq168_191
theorem sq168_179 : sq 168 179 B168_179 := sq_take 2 (e := 180) (by decide +kernel) True.intro
theorem sq168_158 : sq 168 158 B168_158 := sq_take 14 (e := 179) (by decide +kernel) sq168_179
theorem sq168_148 : sq 168 148 B168_148 := sq_take 5 (e := 158) (by decide +kernel) sq168_158
theorem sq168_147 : sq 168 147 B168_147 := sq_take 2 (e := 148) (by decide +kernel) True.intro
theorem sq168_129 : sq 168 129 B168_129 := sq_take 11 (e := 147) (by decide +kernel) sq168_147
theorem sq168_123 : sq 168 123 B168_123 := sq_take 3 (e := 129) (by decide +kernel) sq168_129
theorem sq168_122 : sq 168 122 B168_122 := sq_take 2 (e := 123) (by decide +kernel) True.intro
theorem sq168_105 : sq 168 105 B168_105 := sq_take 9 (e := 122) (by decide +kernel) sq168_122
theorem sq168_104 : sq 168 104 B168_104 := sq_take 2 (e := 105) (by decide +kernel) True.intro
theorem sq168_94 : sq 168 94 B168_94 := sq_take 7 (e := 104) (by decide +kernel) sq168_104
theorem sq168_77 : sq 168 77 B168_77 := sq_take 10 (e := 94) (by decide +kernel) sq168_94
theorem sq168_71 : sq 168 71 B168_71 := sq_take 3 (e := 77) (by decide +kernel) sq168_77
theorem sq168_70 : sq 168 70 B168_70 := sq_take 2 (e := 71) (by decide +kernel) True.intro
theorem sq168_64 : sq 168 64 B168_64 := sq_take 5 (e := 70) (by decide +kernel) sq168_70
theorem sq168_38 : sq 168 38 B168_38 := sq_take 14 (e := 64) (by decide +kernel) sq168_64
theorem sq168_37 : sq 168 37 B168_37 := sq_take 2 (e := 38) (by decide +kernel) True.intro
theorem sq168_16 : sq 168 16 B168_16 := sq_take 12 (e := 37) (by decide +kernel) sq168_37
theorem sq168_11 : sq 168 11 B168_11 := sq_take 4 (e := 16) (by decide +kernel) sq168_16
theorem sq168_10 : sq 168 10 B168_10 := sq_take 1 (e := 11) (by decide +kernel) sq168_11
theorem sq168_0 : sq 168 0 B168_0 := sq_take 6 (e := 10) (by decide +kernel) True.intro
set_option maxRecDepth 100000 in
theorem sqM_168 : ∀ b, sq 168 b (tG 168 b) := show ∀ b, sq 168 b (lkB tb168 b) from lkB_sq (List.forall_mem_cons.mpr ⟨sq168_0, List.forall_mem_cons.mpr ⟨sq168_10, List.forall_mem_cons.mpr ⟨sq168_11, List.forall_mem_cons.mpr ⟨sq168_16, List.forall_mem_cons.mpr ⟨sq168_37, List.forall_mem_cons.mpr ⟨sq168_38, List.forall_mem_cons.mpr ⟨sq168_64, List.forall_mem_cons.mpr ⟨sq168_70, List.forall_mem_cons.mpr ⟨sq168_71, List.forall_mem_cons.mpr ⟨sq168_77, List.forall_mem_cons.mpr ⟨sq168_94, List.forall_mem_cons.mpr ⟨sq168_104, List.forall_mem_cons.mpr ⟨sq168_105, List.forall_mem_cons.mpr ⟨sq168_122, List.forall_mem_cons.mpr ⟨sq168_123, List.forall_mem_cons.mpr ⟨sq168_129, List.forall_mem_cons.mpr ⟨sq168_147, List.forall_mem_cons.mpr ⟨sq168_148, List.forall_mem_cons.mpr ⟨sq168_158, List.forall_mem_cons.mpr ⟨sq168_179, List.forall_mem_cons.mpr ⟨sq168_180, List.forall_mem_cons.mpr ⟨sq168_191, List.forall_mem_cons.mpr ⟨sq168_238, List.forall_mem_cons.mpr ⟨sq168_245, List.forall_mem_cons.mpr ⟨sq168_246, List.forall_mem_cons.mpr ⟨sq168_254, List.forall_mem_cons.mpr ⟨sq168_257, List.forall_mem_cons.mpr ⟨sq168_258, List.forall_mem_cons.mpr ⟨sq168_267, List.forall_mem_cons.mpr ⟨sq168_268, List.forall_mem_cons.mpr ⟨sq168_307, (fun _ h => absurd h List.not_mem_nil)⟩⟩⟩⟩⟩⟩⟩⟩⟩⟩⟩⟩⟩⟩⟩⟩⟩⟩⟩⟩⟩⟩⟩⟩⟩⟩⟩⟩⟩⟩⟩)
theorem sq169_13 : sq 169 13 B169_13 := sq_take 8 (e := 25) (by decide +kernel) True.intro
theorem sq169_12 : sq 169 12 B169_12 := sq_take 2 (e := 13) (by decide +kernel) True.intro
theorem sq169_4 : sq 169 4 B169_4 := sq_take 5 (e := 12) (by decide +kernel) sq169_12
theorem sq169_0 : sq 169 0 B169_0 := sq_take 3 (e := 4) (by decide +kernel) sq169_4
set_option maxRecDepth 100000 in
theorem sqM_169 : ∀ b, sq 169 b (tG 169 b) := show ∀ b, sq 169 b (lkB tb169 b) from lkB_sq (List.forall_mem_cons.mpr ⟨sq169_0, List.forall_mem_cons.mpr ⟨sq169_4, List.forall_mem_cons.mpr ⟨sq169_12, List.forall_mem_cons.mpr ⟨sq169_13, (fun _ h => absurd h List.not_mem_nil)⟩⟩⟩⟩)
theorem sq170_176 : sq 170 176 B170_176 := sq_take 2 (e := 178) (by decide +kernel) True.intro
theorem sq170_173 : sq 170 173 B170_173 := sq_take 1 (e := 176) (by decide +kernel) sq170_176
theorem sq170_161 : sq 170 161 B170_161 := sq_take 5 (e := 173) (by decide +kernel) True.intro
theorem sq170_113 : sq 170 113 B170_113 := sq_take 28 (e := 161) (by decide +kernel) True.intro
theorem sq170_106 : sq 170 106 B170_106 := sq_take 6 (e := 113) (by decide +kernel) True.intro
theorem sq170_105 : sq 170 105 B170_105 := sq_take 1 (e := 106) (by decide +kernel) sq170_106
theorem sq170_100 : sq 170 100 B170_100 := sq_take 3 (e := 105) (by decide +kernel) True.intro
theorem sq170_97 : sq 170 97 B170_97 := sq_take 2 (e := 100) (by decide +kernel) sq170_100
theorem sq170_87 : sq 170 87 B170_87 := sq_take 5 (e := 97) (by decide +kernel) sq170_97
theorem sq170_77 : sq 170 77 B170_77 := sq_take 5 (e := 87) (by decide +kernel) sq170_87
theorem sq170_70 : sq 170 70 B170_70 := sq_take 3 (e := 77) (by decide +kernel) sq170_77
theorem sq170_65 : sq 170 65 B170_65 := sq_take 3 (e := 70) (by decide +kernel) True.intro
theorem sq170_62 : sq 170 62 B170_62 := sq_take 2 (e := 65) (by decide +kernel) sq170_65
theorem sq170_52 : sq 170 52 B170_52 := sq_take 5 (e := 62) (by decide +kernel) sq170_62
theorem sq170_42 : sq 170 42 B170_42 := sq_take 5 (e := 52) (by decide +kernel) sq170_52
theorem sq170_35 : sq 170 35 B170_35 := sq_take 3 (e := 42) (by decide +kernel) sq170_42
theorem sq170_30 : sq 170 30 B170_30 := sq_take 3 (e := 35) (by decide +kernel) True.intro
theorem sq170_27 : sq 170 27 B170_27 := sq_take 2 (e := 30) (by decide +kernel) sq170_30
theorem sq170_17 : sq 170 17 B170_17 := sq_take 5 (e := 27) (by decide +kernel) sq170_27
theorem sq170_7 : sq 170 7 B170_7 := sq_take 5 (e := 17) (by decide +kernel) sq170_17
theorem sq170_0 : sq 170 0 B170_0 := sq_take 4 (e := 7) (by decide +kernel) sq170_7
set_option maxRecDepth 100000 in
theorem sqM_170 : ∀ b, sq 170 b (tG 170 b) := show ∀ b, sq 170 b (lkB tb170 b) from lkB_sq (List.forall_mem_cons.mpr ⟨sq170_0, List.forall_mem_cons.mpr ⟨sq170_7, List.forall_mem_cons.mpr ⟨sq170_17, List.forall_mem_cons.mpr ⟨sq170_27, List.forall_mem_cons.mpr ⟨sq170_30, List.forall_mem_cons.mpr ⟨sq170_35, List.forall_mem_cons.mpr ⟨sq170_42, List.forall_mem_cons.mpr ⟨sq170_52, List.forall_mem_cons.mpr ⟨sq170_62, List.forall_mem_cons.mpr ⟨sq170_65, List.forall_mem_cons.mpr ⟨sq170_70, List.forall_mem_cons.mpr ⟨sq170_77, List.forall_mem_cons.mpr ⟨sq170_87, List.forall_mem_cons.mpr ⟨sq170_97, List.forall_mem_cons.mpr ⟨sq170_100, List.forall_mem_cons.mpr ⟨sq170_105, List.forall_mem_cons.mpr ⟨sq170_106, List.forall_mem_cons.mpr ⟨sq170_113, List.forall_mem_cons.mpr ⟨sq170_161, List.forall_mem_cons.mpr ⟨sq170_173, List.forall_mem_cons.mpr ⟨sq170_176, (fun _ h => absurd h List.not_mem_nil)⟩⟩⟩⟩⟩⟩⟩⟩⟩⟩⟩⟩⟩⟩⟩⟩⟩⟩⟩⟩⟩)
theorem sq171_203 : sq 171 203 B171_203 := sq_take 2 (e := 204) (by decide +kernel) True.intro
theorem sq171_200 : sq 171 200 B171_200 := sq_take 2 (e := 203) (by decide +kernel) sq171_203
theorem sq171_197 : sq 171 197 B171_197 := sq_take 1 (e := 200) (by decide +kernel) sq171_200
theorem sq171_169 : sq 171 169 B171_169 := sq_take 16 (e := 197) (by decide +kernel) True.intro
theorem sq171_157 : sq 171 157 B171_157 := sq_take 8 (e := 169) (by decide +kernel) True.intro
theorem sq171_152 : sq 171 152 B171_152 := sq_take 4 (e := 157) (by decide +kernel) True.intro
theorem sq171_149 : sq 171 149 B171_149 := sq_take 2 (e := 152) (by decide +kernel) sq171_152
theorem sq171_146 : sq 171 146 B171_146 := sq_take 1 (e := 149) (by decide +kernel) sq171_149
theorem sq171_135 : sq 171 135 B171_135 := sq_take 6 (e := 146) (by decide +kernel) True.intro
theorem sq171_99 : sq 171 99 B171_99 := sq_take 24 (e := 135) (by decide +kernel) sq171_135
theorem sq171_58 : sq 171 58 B171_58 := sq_take 23 (e := 99) (by decide +kernel) sq171_99
theorem sq171_57 : sq 171 57 B171_57 := sq_take 1 (e := 58) (by decide +kernel) sq171_58
theorem sq171_53 : sq 171 53 B171_53 := sq_take 3 (e := 57) (by decide +kernel) True.intro
theorem sq171_26 : sq 171 26 B171_26 := sq_take 16 (e := 53) (by decide +kernel) sq171_53
theorem sq171_17 : sq 171 17 B171_17 := sq_take 5 (e := 26) (by decide +kernel) sq171_26
theorem sq171_0 : sq 171 0 B171_0 := sq_take 10 (e := 17) (by decide +kernel) True.intro
set_option maxRecDepth 100000 in
theorem sqM_171 : ∀ b, sq 171 b (tG 171 b) := show ∀ b, sq 171 b (lkB tb171 b) from lkB_sq (List.forall_mem_cons.mpr ⟨sq171_0, List.forall_mem_cons.mpr ⟨sq171_17, List.forall_mem_cons.mpr ⟨sq171_26, List.forall_mem_cons.mpr ⟨sq171_53, List.forall_mem_cons.mpr ⟨sq171_57, List.forall_mem_cons.mpr ⟨sq171_58, List.forall_mem_cons.mpr ⟨sq171_99, List.forall_mem_cons.mpr ⟨sq171_135, List.forall_mem_cons.mpr ⟨sq171_146, List.forall_mem_cons.mpr ⟨sq171_149, List.forall_mem_cons.mpr ⟨sq171_152, List.forall_mem_cons.mpr ⟨sq171_157, List.forall_mem_cons.mpr ⟨sq171_169, List.forall_mem_cons.mpr ⟨sq171_197, List.forall_mem_cons.mpr ⟨sq171_200, List.forall_mem_cons.mpr ⟨sq171_203, (fun _ h => absurd h List.not_mem_nil)⟩⟩⟩⟩⟩⟩⟩⟩⟩⟩⟩⟩⟩⟩⟩⟩)
theorem sq172_106 : sq 172 106 B172_106 := sq_take 1 (e := 107) (by decide +kernel) True.intro
theorem sq172_105 : sq 172 105 B172_105 := sq_take 2 (e := 106) (by decide +kernel) sq172_106
theorem sq172_98 : sq 172 98 B172_98 := sq_take 4 (e := 105) (by decide +kernel) True.intro
theorem sq172_90 : sq 172 90 B172_90 := sq_take 5 (e := 98) (by decide +kernel) sq172_98
theorem sq172_56 : sq 172 56 B172_56 := sq_take 20 (e := 90) (by decide +kernel) sq172_90
theorem sq172_55 : sq 172 55 B172_55 := sq_take 2 (e := 56) (by decide +kernel) True.intro
theorem sq172_46 : sq 172 46 B172_46 := sq_take 6 (e := 55) (by decide +kernel) sq172_55
theorem sq172_45 : sq 172 45 B172_45 := sq_take 1 (e := 46) (by decide +kernel) sq172_46
theorem sq172_37 : sq 172 37 B172_37 := sq_take 4 (e := 45) (by decide +kernel) True.intro
theorem sq172_30 : sq 172 30 B172_30 := sq_take 3 (e := 37) (by decide +kernel) sq172_37
theorem sq172_22 : sq 172 22 B172_22 := sq_take 4 (e := 30) (by decide +kernel) True.intro
theorem sq172_15 : sq 172 15 B172_15 := sq_take 3 (e := 22) (by decide +kernel) sq172_22
theorem sq172_7 : sq 172 7 B172_7 := sq_take 4 (e := 15) (by decide +kernel) True.intro
theorem sq172_0 : sq 172 0 B172_0 := sq_take 4 (e := 7) (by decide +kernel) sq172_7
set_option maxRecDepth 100000 in
theorem sqM_172 : ∀ b, sq 172 b (tG 172 b) := show ∀ b, sq 172 b (lkB tb172 b) from lkB_sq (List.forall_mem_cons.mpr ⟨sq172_0, List.forall_mem_cons.mpr ⟨sq172_7, List.forall_mem_cons.mpr ⟨sq172_15, List.forall_mem_cons.mpr ⟨sq172_22, List.forall_mem_cons.mpr ⟨sq172_30, List.forall_mem_cons.mpr ⟨sq172_37, List.forall_mem_cons.mpr ⟨sq172_45, List.forall_mem_cons.mpr ⟨sq172_46, List.forall_mem_cons.mpr ⟨sq172_55, List.forall_mem_cons.mpr ⟨sq172_56, List.forall_mem_cons.mpr ⟨sq172_90, List.forall_mem_cons.mpr ⟨sq172_98, List.forall_mem_cons.mpr ⟨sq172_105, List.forall_mem_cons.mpr ⟨sq172_106, (fun _ h => absurd h List.not_mem_nil)⟩⟩⟩⟩⟩⟩⟩⟩⟩⟩⟩⟩⟩⟩)
theorem sq173_248 : sq 173 248 B173_248 := sq_take 1 (e := 249) (by decide +kernel) True.intro
theorem sq173_247 : sq 173 247 B173_247 := sq_take 2 (e := 248) (by decide +kernel) sq173_248
theorem sq173_240 : sq 173 240 B173_240 := sq_take 4 (e := 247) (by decide +kernel) True.intro
theorem sq173_231 : sq 173 231 B173_231 := sq_take 5 (e := 240) (by decide +kernel) sq173_240
theorem sq173_228 : sq 173 228 B173_228 := sq_take 2 (e := 231) (by decide +kernel) sq173_231
theorem sq173_225 : sq 173 225 B173_225 := sq_take 1 (e := 228) (by decide +kernel) sq173_228
theorem sq173_202 : sq 173 202 B173_202 := sq_take 12 (e := 225) (by decide +kernel) True.intro
theorem sq173_193 : sq 173 193 B173_193 := sq_take 5 (e := 202) (by decide +kernel) sq173_202
theorem sq173_160 : sq 173 160 B173_160 := sq_take 19 (e := 193) (by decide +kernel) True.intro
theorem sq173_159 : sq 173 159 B173_159 := sq_take 2 (e := 160) (by decide +kernel) True.intro
theorem sq173_152 : sq 173 152 B173_152 := sq_take 4 (e := 159) (by decide +kernel) sq173_159
theorem sq173_139 : sq 173 139 B173_139 := sq_take 7 (e := 152) (by decide +kernel) sq173_152
theorem sq173_109 : sq 173 109 B173_109 := sq_take 18 (e := 139) (by decide +kernel) sq173_139
theorem sq173_108 : sq 173 108 B173_108 := sq_take 2 (e := 109) (by decide +kernel) True.intro
theorem sq173_104 : sq 173 104 B173_104 := sq_take 3 (e := 108) (by decide +kernel) sq173_108
theorem sq173_89 : sq 173 89 B173_89 := sq_take 8 (e := 104) (by decide +kernel) sq173_104
theorem sq173_85 : sq 173 85 B173_85 := sq_take 2 (e := 89) (by decide +kernel) sq173_89
theorem sq173_83 : sq 173 83 B173_83 := sq_take 2 (e := 85) (by decide +kernel) True.intro
theorem sq173_80 : sq 173 80 B173_80 := sq_take 2 (e := 83) (by decide +kernel) sq173_83
theorem sq173_71 : sq 173 71 B173_71 := sq_take 5 (e := 80) (by decide +kernel) sq173_80
theorem sq173_62 : sq 173 62 B173_62 := sq_take 5 (e := 71) (by decide +kernel) sq173_71
theorem sq173_35 : sq 173 35 B173_35 := sq_take 16 (e := 62) (by decide +kernel) sq173_62
theorem sq173_34 : sq 173 34 B173_34 := sq_take 2 (e := 35) (by decide +kernel) True.intro
theorem sq173_25 : sq 173 25 B173_25 := sq_take 6 (e := 34) (by decide +kernel) sq173_34
theorem sq173_20 : sq 173 20 B173_20 := sq_take 3 (e := 25) (by decide +kernel) sq173_25
theorem sq173_18 : sq 173 18 B173_18 := sq_take 2 (e := 20) (by decide +kernel) True.intro
theorem sq173_15 : sq 173 15 B173_15 := sq_take 2 (e := 18) (by decide +kernel) sq173_18
theorem sq173_6 : sq 173 6 B173_6 := sq_take 5 (e := 15) (by decide +kernel) sq173_15
theorem sq173_0 : sq 173 0 B173_0 := sq_take 4 (e := 6) (by decide +kernel) sq173_6
set_option maxRecDepth 100000 in
theorem sqM_173 : ∀ b, sq 173 b (tG 173 b) := show ∀ b, sq 173 b (lkB tb173 b) from lkB_sq (List.forall_mem_cons.mpr ⟨sq173_0, List.forall_mem_cons.mpr ⟨sq173_6, List.forall_mem_cons.mpr ⟨sq173_15, List.forall_mem_cons.mpr ⟨sq173_18, List.forall_mem_cons.mpr ⟨sq173_20, List.forall_mem_cons.mpr ⟨sq173_25, List.forall_mem_cons.mpr ⟨sq173_34, List.forall_mem_cons.mpr ⟨sq173_35, List.forall_mem_cons.mpr ⟨sq173_62, List.forall_mem_cons.mpr ⟨sq173_71, List.forall_mem_cons.mpr ⟨sq173_80, List.forall_mem_cons.mpr ⟨sq173_83, List.forall_mem_cons.mpr ⟨sq173_85, List.forall_mem_cons.mpr ⟨sq173_89, List.forall_mem_cons.mpr ⟨sq173_104, List.forall_mem_cons.mpr ⟨sq173_108, List.forall_mem_cons.mpr ⟨sq173_109, List.forall_mem_cons.mpr ⟨sq173_139, List.forall_mem_cons.mpr ⟨sq173_152, List.forall_mem_cons.mpr ⟨sq173_159, List.forall_mem_cons.mpr ⟨sq173_160, List.forall_mem_cons.mpr ⟨sq173_193, List.forall_mem_cons.mpr ⟨sq173_202, List.forall_mem_cons.mpr ⟨sq173_225, List.forall_mem_cons.mpr ⟨sq173_228, List.forall_mem_cons.mpr ⟨sq173_231, List.forall_mem_cons.mpr ⟨sq173_240, List.forall_mem_cons.mpr ⟨sq173_247, List.forall_mem_cons.mpr ⟨sq173_248, (fun _ h => absurd h List.not_mem_nil)⟩⟩⟩⟩⟩⟩⟩⟩⟩⟩⟩⟩⟩⟩⟩⟩⟩⟩⟩⟩⟩⟩⟩⟩⟩⟩⟩⟩⟩)
theorem sq174_192 : sq 174 192 B174_192 := sq_take 4 (e := 197) (by decide +kernel) True.intro
theorem sq174_190 : sq 174 190 B174_190 := sq_take 2 (e := 192) (by decide +kernel) True.intro
theorem sq174_185 : sq 174 185 B174_185 := sq_take 4 (e := 190) (by decide +kernel) True.intro
theorem sq174_180 : sq 174 180 B174_180 := sq_take 4 (e := 185) (by decide +kernel) True.intro
theorem sq174_129 : sq 174 129 B174_129 := sq_take 12 (e := 180) (by decide +kernel) True.intro
theorem sq174_124 : sq 174 124 B174_124 := sq_take 4 (e := 129) (by decide +kernel) True.intro
theorem sq174_110 : sq 174 110 B174_110 := sq_take 7 (e := 124) (by decide +kernel) sq174_124
theorem sq174_96 : sq 174 96 B174_96 := sq_take 7 (e := 110) (by decide +kernel) sq174_110
theorem sq174_82 : sq 174 82 B174_82 := sq_take 7 (e := 96) (by decide +kernel) sq174_96
theorem sq174_71 : sq 174 71 B174_71 := sq_take 6 (e := 82) (by decide +kernel) sq174_82
theorem sq174_64 : sq 174 64 B174_64 := sq_take 4 (e := 71) (by decide +kernel) True.intro
theorem sq174_61 : sq 174 61 B174_61 := sq_take 2 (e := 64) (by decide +kernel) sq174_64
theorem sq174_47 : sq 174 47 B174_47 := sq_take 7 (e := 61) (by decide +kernel) sq174_61
theorem sq174_33 : sq 174 33 B174_33 := sq_take 7 (e := 47) (by decide +kernel) sq174_47
theorem sq174_18 : sq 174 18 B174_18 := sq_take 7 (e := 33) (by decide +kernel) sq174_33
theorem sq174_0 : sq 174 0 B174_0 := sq_take 12 (e := 18) (by decide +kernel) True.intro
set_option maxRecDepth 100000 in
theorem sqM_174 : ∀ b, sq 174 b (tG 174 b) := show ∀ b, sq 174 b (lkB tb174 b) from lkB_sq (List.forall_mem_cons.mpr ⟨sq174_0, List.forall_mem_cons.mpr ⟨sq174_18, List.forall_mem_cons.mpr ⟨sq174_33, List.forall_mem_cons.mpr ⟨sq174_47, List.forall_mem_cons.mpr ⟨sq174_61, List.forall_mem_cons.mpr ⟨sq174_64, List.forall_mem_cons.mpr ⟨sq174_71, List.forall_mem_cons.mpr ⟨sq174_82, List.forall_mem_cons.mpr ⟨sq174_96, List.forall_mem_cons.mpr ⟨sq174_110, List.forall_mem_cons.mpr ⟨sq174_124, List.forall_mem_cons.mpr ⟨sq174_129, List.forall_mem_cons.mpr ⟨sq174_180, List.forall_mem_cons.mpr ⟨sq174_185, List.forall_mem_cons.mpr ⟨sq174_190, List.forall_mem_cons.mpr ⟨sq174_192, (fun _ h => absurd h List.not_mem_nil)⟩⟩⟩⟩⟩⟩⟩⟩⟩⟩⟩⟩⟩⟩⟩⟩)
theorem sq175_67 : sq 175 67 B175_67 := sq_take 2 (e := 68) (by decide +kernel) True.intro
theorem sq175_50 : sq 175 50 B175_50 := sq_take 9 (e := 67) (by decide +kernel) sq175_67
theorem sq175_49 : sq 175 49 B175_49 := sq_take 2 (e := 50) (by decide +kernel) True.intro
theorem sq175_27 : sq 175 27 B175_27 := sq_take 13 (e := 49) (by decide +kernel) sq175_49
theorem sq175_23 : sq 175 23 B175_23 := sq_take 2 (e := 27) (by decide +kernel) sq175_27
theorem sq175_18 : sq 175 18 B175_18 := sq_take 4 (e := 23) (by decide +kernel) True.intro
theorem sq175_12 : sq 175 12 B175_12 := sq_take 3 (e := 18) (by decide +kernel) sq175_18
theorem sq175_7 : sq 175 7 B175_7 := sq_take 4 (e := 12) (by decide +kernel) True.intro
theorem sq175_0 : sq 175 0 B175_0 := sq_take 5 (e := 7) (by decide +kernel) sq175_7
set_option maxRecDepth 100000 in
theorem sqM_175 : ∀ b, sq 175 b (tG 175 b) := show ∀ b, sq 175 b (lkB tb175 b) from lkB_sq (List.forall_mem_cons.mpr ⟨sq175_0, List.forall_mem_cons.mpr ⟨sq175_7, List.forall_mem_cons.mpr ⟨sq175_12, List.forall_mem_cons.mpr ⟨sq175_18, List.forall_mem_cons.mpr ⟨sq175_23, List.forall_mem_cons.mpr ⟨sq175_27, List.forall_mem_cons.mpr ⟨sq175_49, List.forall_mem_cons.mpr ⟨sq175_50, List.forall_mem_cons.mpr ⟨sq175_67, (fun _ h => absurd h List.not_mem_nil)⟩⟩⟩⟩⟩⟩⟩⟩⟩)
theorem sq176_16 : sq 176 16 B176_16 := sq_take 17 (e := 42) (by decide +kernel) True.intro
theorem sq176_15 : sq 176 15 B176_15 := sq_take 2 (e := 16) (by decide +kernel) True.intro
theorem sq176_11 : sq 176 11 B176_11 := sq_take 3 (e := 15) (by decide +kernel) sq176_15
theorem sq176_0 : sq 176 0 B176_0 := sq_take 7 (e := 11) (by decide +kernel) sq176_11
set_option maxRecDepth 100000 in
theorem sqM_176 : ∀ b, sq 176 b (tG 176 b) := show ∀ b, sq 176 b (lkB tb176 b) from lkB_sq (List.forall_mem_cons.mpr ⟨sq176_0, List.forall_mem_cons.mpr ⟨sq176_11, List.forall_mem_cons.mpr ⟨sq176_15, List.forall_mem_cons.mpr ⟨sq176_16, (fun _ h => absurd h List.not_mem_nil)⟩⟩⟩⟩)
theorem sq177_84 : sq 177 84 B177_84 := sq_take 2 (e := 85) (by decide +kernel) True.intro
theorem sq177_81 : sq 177 81 B177_81 := sq_take 2 (e := 84) (by decide +kernel) sq177_84
theorem sq177_48 : sq 177 48 B177_48 := sq_take 21 (e := 81) (by decide +kernel) sq177_81
theorem sq177_47 : sq 177 47 B177_47 := sq_take 1 (e := 48) (by decide +kernel) sq177_48
theorem sq177_34 : sq 177 34 B177_34 := sq_take 7 (e := 47) (by decide +kernel) True.intro
theorem sq177_33 : sq 177 33 B177_33 := sq_take 2 (e := 34) (by decide +kernel) True.intro
theorem sq177_24 : sq 177 24 B177_24 := sq_take 6 (e := 33) (by decide +kernel) sq177_33
theorem sq177_23 : sq 177 23 B177_23 := sq_take 1 (e := 24) (by decide +kernel) sq177_24
theorem sq177_20 : sq 177 20 B177_20 := sq_take 2 (e := 23) (by decide +kernel) True.intro
theorem sq177_12 : sq 177 12 B177_12 := sq_take 4 (e := 20) (by decide +kernel) sq177_20
theorem sq177_7 : sq 177 7 B177_7 := sq_take 4 (e := 12) (by decide +kernel) True.intro
theorem sq177_0 : sq 177 0 B177_0 := sq_take 5 (e := 7) (by decide +kernel) sq177_7
set_option maxRecDepth 100000 in
theorem sqM_177 : ∀ b, sq 177 b (tG 177 b) := show ∀ b, sq 177 b (lkB tb177 b) from lkB_sq (List.forall_mem_cons.mpr ⟨sq177_0, List.forall_mem_cons.mpr ⟨sq177_7, List.forall_mem_cons.mpr ⟨sq177_12, List.forall_mem_cons.mpr ⟨sq177_20, List.forall_mem_cons.mpr ⟨sq177_23, List.forall_mem_cons.mpr ⟨sq177_24, List.forall_mem_cons.mpr ⟨sq177_33, List.forall_mem_cons.mpr ⟨sq177_34, List.forall_mem_cons.mpr ⟨sq177_47, List.forall_mem_cons.mpr ⟨sq177_48, List.forall_mem_cons.mpr ⟨sq177_81, List.forall_mem_cons.mpr ⟨sq177_84, (fun _ h => absurd h List.not_mem_nil)⟩⟩⟩⟩⟩⟩⟩⟩⟩⟩⟩⟩)
theorem sq178_55 : sq 178 55 B178_55 := sq_take 1 (e := 56) (by decide +kernel) True.intro
theorem sq178_54 : sq 178 54 B178_54 := sq_take 1 (e := 55) (by decide +kernel) sq178_55
theorem sq178_45 : sq 178 45 B178_45 := sq_take 4 (e := 54) (by decide +kernel) True.intro
theorem sq178_38 : sq 178 38 B178_38 := sq_take 3 (e := 45) (by decide +kernel) sq178_45
theorem sq178_32 : sq 178 32 B178_32 := sq_take 4 (e := 38) (by decide +kernel) True.intro
theorem sq178_25 : sq 178 25 B178_25 := sq_take 3 (e := 32) (by decide +kernel) sq178_32
theorem sq178_19 : sq 178 19 B178_19 := sq_take 4 (e := 25) (by decide +kernel) True.intro
theorem sq178_12 : sq 178 12 B178_12 := sq_take 3 (e := 19) (by decide +kernel) sq178_19
theorem sq178_7 : sq 178 7 B178_7 := sq_take 4 (e := 12) (by decide +kernel) True.intro
theorem sq178_0 : sq 178 0 B178_0 := sq_take 4 (e := 7) (by decide +kernel) sq178_7
set_option maxRecDepth 100000 in
theorem sqM_178 : ∀ b, sq 178 b (tG 178 b) := show ∀ b, sq 178 b (lkB tb178 b) from lkB_sq (List.forall_mem_cons.mpr ⟨sq178_0, List.forall_mem_cons.mpr ⟨sq178_7, List.forall_mem_cons.mpr ⟨sq178_12, List.forall_mem_cons.mpr ⟨sq178_19, List.forall_mem_cons.mpr ⟨sq178_25, List.forall_mem_cons.mpr ⟨sq178_32, List.forall_mem_cons.mpr ⟨sq178_38, List.forall_mem_cons.mpr ⟨sq178_45, List.forall_mem_cons.mpr ⟨sq178_54, List.forall_mem_cons.mpr ⟨sq178_55, (fun _ h => absurd h List.not_mem_nil)⟩⟩⟩⟩⟩⟩⟩⟩⟩⟩)
theorem sq179_143 : sq 179 143 B179_143 := sq_take 7 (e := 151) (by decide +kernel) True.intro
theorem sq179_132 : sq 179 132 B179_132 := sq_take 6 (e := 143) (by decide +kernel) sq179_143
theorem sq179_107 : sq 179 107 B179_107 := sq_take 14 (e := 132) (by decide +kernel) sq179_132
theorem sq179_101 : sq 179 101 B179_101 := sq_take 3 (e := 107) (by decide +kernel) True.intro
theorem sq179_93 : sq 179 93 B179_93 := sq_take 5 (e := 101) (by decide +kernel) sq179_101
theorem sq179_78 : sq 179 78 B179_78 := sq_take 7 (e := 93) (by decide +kernel) sq179_93
theorem sq179_75 : sq 179 75 B179_75 := sq_take 2 (e := 78) (by decide +kernel) True.intro
theorem sq179_53 : sq 179 53 B179_53 := sq_take 11 (e := 75) (by decide +kernel) sq179_75
theorem sq179_50 : sq 179 50 B179_50 := sq_take 3 (e := 53) (by decide +kernel) sq179_53
theorem sq179_45 : sq 179 45 B179_45 := sq_take 4 (e := 50) (by decide +kernel) sq179_50
theorem sq179_37 : sq 179 37 B179_37 := sq_take 5 (e := 45) (by decide +kernel) sq179_45
theorem sq179_26 : sq 179 26 B179_26 := sq_take 7 (e := 37) (by decide +kernel) sq179_37
theorem sq179_0 : sq 179 0 B179_0 := sq_take 16 (e := 26) (by decide +kernel) sq179_26
set_option maxRecDepth 100000 in
theorem sqM_179 : ∀ b, sq 179 b (tG 179 b) := show ∀ b, sq 179 b (lkB tb179 b) from lkB_sq (List.forall_mem_cons.mpr ⟨sq179_0, List.forall_mem_cons.mpr ⟨sq179_26, List.forall_mem_cons.mpr ⟨sq179_37, List.forall_mem_cons.mpr ⟨sq179_45, List.forall_mem_cons.mpr ⟨sq179_50, List.forall_mem_cons.mpr ⟨sq179_53, List.forall_mem_cons.mpr ⟨sq179_75, List.forall_mem_cons.mpr ⟨sq179_78, List.forall_mem_cons.mpr ⟨sq179_93, List.forall_mem_cons.mpr ⟨sq179_101, List.forall_mem_cons.mpr ⟨sq179_107, List.forall_mem_cons.mpr ⟨sq179_132, List.forall_mem_cons.mpr ⟨sq179_143, (fun _ h => absurd h List.not_mem_nil)⟩⟩⟩⟩⟩⟩⟩⟩⟩⟩⟩⟩⟩)
theorem sq180_11 : sq 180 11 B180_11 := sq_take 2 (e := 12) (by decide +kernel) True.intro
theorem sq180_0 : sq 180 0 B180_0 := sq_take 8 (e := 11) (by decide +kernel) sq180_11
set_option maxRecDepth 100000 in
theorem sqM_180 : ∀ b, sq 180 b (tG 180 b) := show ∀ b, sq 180 b (lkB tb180 b) from lkB_sq (List.forall_mem_cons.mpr ⟨sq180_0, List.forall_mem_cons.mpr ⟨sq180_11, (fun _ h => absurd h List.not_mem_nil)⟩⟩)
theorem sq181_32 : sq 181 32 B181_32 := sq_take 2 (e := 33) (by decide +kernel) True.intro
theorem sq181_24 : sq 181 24 B181_24 := sq_take 6 (e := 32) (by decide +kernel) sq181_32
theorem sq181_13 : sq 181 13 B181_13 := sq_take 8 (e := 24) (by decide +kernel) sq181_24
theorem sq181_0 : sq 181 0 B181_0 := sq_take 8 (e := 13) (by decide +kernel) sq181_13
set_option maxRecDepth 100000 in
theorem sqM_181 : ∀ b, sq 181 b (tG 181 b) := show ∀ b, sq 181 b (lkB tb181 b) from lkB_sq (List.forall_mem_cons.mpr ⟨sq181_0, List.forall_mem_cons.mpr ⟨sq181_13, List.forall_mem_cons.mpr ⟨sq181_24, List.forall_mem_cons.mpr ⟨sq181_32, (fun _ h => absurd h List.not_mem_nil)⟩⟩⟩⟩)
theorem sq182_36 : sq 182 36 B182_36 := sq_take 2 (e := 37) (by decide +kernel) True.intro
theorem sq182_23 : sq 182 23 B182_23 := sq_take 8 (e := 36) (by decide +kernel) sq182_36
theorem sq182_15 : sq 182 15 B182_15 := sq_take 5 (e := 23) (by decide +kernel) sq182_23
theorem sq182_0 : sq 182 0 B182_0 := sq_take 10 (e := 15) (by decide +kernel) sq182_15
set_option maxRecDepth 100000 in
theorem sqM_182 : ∀ b, sq 182 b (tG 182 b) := show ∀ b, sq 182 b (lkB tb182 b) from lkB_sq (List.forall_mem_cons.mpr ⟨sq182_0, List.forall_mem_cons.mpr ⟨sq182_15, List.forall_mem_cons.mpr ⟨sq182_23, List.forall_mem_cons.mpr ⟨sq182_36, (fun _ h => absurd h List.not_mem_nil)⟩⟩⟩⟩)
theorem sq183_30 : sq 183 30 B183_30 := sq_take 12 (e := 48) (by decide +kernel) True.intro
theorem sq183_0 : sq 183 0 B183_0 := sq_take 17 (e := 30) (by decide +kernel) sq183_30
set_option maxRecDepth 100000 in
theorem sqM_183 : ∀ b, sq 183 b (tG 183 b) := show ∀ b, sq 183 b (lkB tb183 b) from lkB_sq (List.forall_mem_cons.mpr ⟨sq183_0, List.forall_mem_cons.mpr ⟨sq183_30, (fun _ h => absurd h List.not_mem_nil)⟩⟩)
theorem sq184_64 : sq 184 64 B184_64 := sq_take 5 (e := 70) (by decide +kernel) True.intro
theorem sq184_60 : sq 184 60 B184_60 := sq_take 3 (e := 64) (by decide +kernel) sq184_64
theorem sq184_16 : sq 184 16 B184_16 := sq_take 24 (e := 60) (by decide +kernel) sq184_60
theorem sq184_0 : sq 184 0 B184_0 := sq_take 11 (e := 16) (by decide +kernel) True.intro
set_option maxRecDepth 100000 in
theorem sqM_184 : ∀ b, sq 184 b (tG 184 b) := show ∀ b, sq 184 b (lkB tb184 b) from lkB_sq (List.forall_mem_cons.mpr ⟨sq184_0, List.forall_mem_cons.mpr ⟨sq184_16, List.forall_mem_cons.mpr ⟨sq184_60, List.forall_mem_cons.mpr ⟨sq184_64, (fun _ h => absurd h List.not_mem_nil)⟩⟩⟩⟩)
theorem sq185_68 : sq 185 68 B185_68 := sq_take 9 (e := 82) (by decide +kernel) True.intro
theorem sq185_13 : sq 185 13 B185_13 := sq_take 32 (e := 68) (by decide +kernel) sq185_68
theorem sq185_0 : sq 185 0 B185_0 := sq_take 8 (e := 13) (by decide +kernel) True.intro
set_option maxRecDepth 100000 in
theorem sqM_185 : ∀ b, sq 185 b (tG 185 b) := show ∀ b, sq 185 b (lkB tb185 b) from lkB_sq (List.forall_mem_cons.mpr ⟨sq185_0, List.forall_mem_cons.mpr ⟨sq185_13, List.forall_mem_cons.mpr ⟨sq185_68, (fun _ h => absurd h List.not_mem_nil)⟩⟩⟩)
theorem sq186_37 : sq 186 37 B186_37 := sq_take 1 (e := 38) (by decide +kernel) True.intro
theorem sq186_3 : sq 186 3 B186_3 := sq_take 20 (e := 37) (by decide +kernel) True.intro
theorem sq186_0 : sq 186 0 B186_0 := sq_take 3 (e := 3) (by decide +kernel) sq186_3
set_option maxRecDepth 100000 in
theorem sqM_186 : ∀ b, sq 186 b (tG 186 b) := show ∀ b, sq 186 b (lkB tb186 b) from lkB_sq (List.forall_mem_cons.mpr ⟨sq186_0, List.forall_mem_cons.mpr ⟨sq186_3, List.forall_mem_cons.mpr ⟨sq186_37, (fun _ h => absurd h List.not_mem_nil)⟩⟩⟩)
theorem sq187_47 : sq 187 47 B187_47 := sq_take 1 (e := 48) (by decide +kernel) True.intro
theorem sq187_44 : sq 187 44 B187_44 := sq_take 2 (e := 47) (by decide +kernel) sq187_47
theorem sq187_40 : sq 187 40 B187_40 := sq_take 3 (e := 44) (by decide +kernel) True.intro
theorem sq187_0 : sq 187 0 B187_0 := sq_take 23 (e := 40) (by decide +kernel) sq187_40
set_option maxRecDepth 100000 in
theorem sqM_187 : ∀ b, sq 187 b (tG 187 b) := show ∀ b, sq 187 b (lkB tb187 b) from lkB_sq (List.forall_mem_cons.mpr ⟨sq187_0, List.forall_mem_cons.mpr ⟨sq187_40, List.forall_mem_cons.mpr ⟨sq187_44, List.forall_mem_cons.mpr ⟨sq187_47, (fun _ h => absurd h List.not_mem_nil)⟩⟩⟩⟩)
theorem sq188_30 : sq 188 30 B188_30 := sq_take 2 (e := 31) (by decide +kernel) True.intro
theorem sq188_17 : sq 188 17 B188_17 := sq_take 6 (e := 30) (by decide +kernel) sq188_30
theorem sq188_6 : sq 188 6 B188_6 := sq_take 6 (e := 17) (by decide +kernel) True.intro
theorem sq188_0 : sq 188 0 B188_0 := sq_take 5 (e := 6) (by decide +kernel) sq188_6
set_option maxRecDepth 100000 in
theorem sqM_188 : ∀ b, sq 188 b (tG 188 b) := show ∀ b, sq 188 b (lkB tb188 b) from lkB_sq (List.forall_mem_cons.mpr ⟨sq188_0, List.forall_mem_cons.mpr ⟨sq188_6, List.forall_mem_cons.mpr ⟨sq188_17, List.forall_mem_cons.mpr ⟨sq188_30, (fun _ h => absurd h List.not_mem_nil)⟩⟩⟩⟩)
theorem sq189_23 : sq 189 23 B189_23 := sq_take 2 (e := 24) (by decide +kernel) True.intro
theorem sq189_7 : sq 189 7 B189_7 := sq_take 9 (e := 23) (by decide +kernel) sq189_23
theorem sq189_0 : sq 189 0 B189_0 := sq_take 5 (e := 7) (by decide +kernel) sq189_7
set_option maxRecDepth 100000 in
theorem sqM_189 : ∀ b, sq 189 b (tG 189 b) := show ∀ b, sq 189 b (lkB tb189 b) from lkB_sq (List.forall_mem_cons.mpr ⟨sq189_0, List.forall_mem_cons.mpr ⟨sq189_7, List.forall_mem_cons.mpr ⟨sq189_23, (fun _ h => absurd h List.not_mem_nil)⟩⟩⟩)
theorem sq190_276 : sq 190 276 B190_276 := sq_take 2 (e := 277) (by decide +kernel) True.intro
theorem sq190_271 : sq 190 271 B190_271 := sq_take 3 (e := 276) (by decide +kernel) sq190_276
theorem sq190_268 : sq 190 268 B190_268 := sq_take 2 (e := 271) (by decide +kernel) True.intro
theorem sq190_263 : sq 190 263 B190_263 := sq_take 4 (e := 268) (by decide +kernel) sq190_268
theorem sq190_259 : sq 190 259 B190_259 := sq_take 3 (e := 263) (by decide +kernel) True.intro
theorem sq190_256 : sq 190 256 B190_256 := sq_take 2 (e := 259) (by decide +kernel) sq190_259
theorem sq190_243 : sq 190 243 B190_243 := sq_take 8 (e := 256) (by decide +kernel) sq190_256
theorem sq190_232 : sq 190 232 B190_232 := sq_take 5 (e := 243) (by decide +kernel) sq190_243
theorem sq190_229 : sq 190 229 B190_229 := sq_take 2 (e := 232) (by decide +kernel) True.intro
theorem sq190_224 : sq 190 224 B190_224 := sq_take 3 (e := 229) (by decide +kernel) sq190_229
theorem sq190_221 : sq 190 221 B190_221 := sq_take 2 (e := 224) (by decide +kernel) True.intro
theorem sq190_218 : sq 190 218 B190_218 := sq_take 2 (e := 221) (by decide +kernel) sq190_221
theorem sq190_213 : sq 190 213 B190_213 := sq_take 4 (e := 218) (by decide +kernel) sq190_218
theorem sq190_207 : sq 190 207 B190_207 := sq_take 5 (e := 213) (by decide +kernel) sq190_213
theorem sq190_202 : sq 190 202 B190_202 := sq_take 4 (e := 207) (by decide +kernel) sq190_207
theorem sq190_193 : sq 190 193 B190_193 := sq_take 5 (e := 202) (by decide +kernel) sq190_202
theorem sq190_189 : sq 190 189 B190_189 := sq_take 3 (e := 193) (by decide +kernel) True.intro
theorem sq190_187 : sq 190 187 B190_187 := sq_take 1 (e := 189) (by decide +kernel) sq190_189
theorem sq190_184 : sq 190 184 B190_184 := sq_take 2 (e := 187) (by decide +kernel) True.intro
theorem sq190_180 : sq 190 180 B190_180 := sq_take 3 (e := 184) (by decide +kernel) sq190_184
theorem sq190_161 : sq 190 161 B190_161 := sq_take 10 (e := 180) (by decide +kernel) sq190_180
theorem sq190_151 : sq 190 151 B190_151 := sq_take 6 (e := 161) (by decide +kernel) sq190_161
theorem sq190_148 : sq 190 148 B190_148 := sq_take 2 (e := 151) (by decide +kernel) sq190_151
theorem sq190_142 : sq 190 142 B190_142 := sq_take 5 (e := 148) (by decide +kernel) sq190_148
theorem sq190_137 : sq 190 137 B190_137 := sq_take 4 (e := 142) (by decide +kernel) sq190_142
theorem sq190_128 : sq 190 128 B190_128 := sq_take 5 (e := 137) (by decide +kernel) sq190_137
theorem sq190_125 : sq 190 125 B190_125 := sq_take 2 (e := 128) (by decide +kernel) True.intro
theorem sq190_120 : sq 190 120 B190_120 := sq_take 3 (e := 125) (by decide +kernel) sq190_125
theorem sq190_54 : sq 190 54 B190_54 := sq_take 18 (e := 120) (by decide +kernel) True.intro
theorem sq190_32 : sq 190 32 B190_32 := sq_take 12 (e := 54) (by decide +kernel) sq190_54
theorem sq190_26 : sq 190 26 B190_26 := sq_take 4 (e := 32) (by decide +kernel) True.intro
theorem sq190_0 : sq 190 0 B190_0 := sq_take 13 (e := 26) (by decide +kernel) sq190_26
set_option maxRecDepth 100000 in
theorem sqM_190 : ∀ b, sq 190 b (tG 190 b) := show ∀ b, sq 190 b (lkB tb190 b) from lkB_sq (List.forall_mem_cons.mpr ⟨sq190_0, List.forall_mem_cons.mpr ⟨sq190_26, List.forall_mem_cons.mpr ⟨sq190_32, List.forall_mem_cons.mpr ⟨sq190_54, List.forall_mem_cons.mpr ⟨sq190_120, List.forall_mem_cons.mpr ⟨sq190_125, List.forall_mem_cons.mpr ⟨sq190_128, List.forall_mem_cons.mpr ⟨sq190_137, List.forall_mem_cons.mpr ⟨sq190_142, List.forall_mem_cons.mpr ⟨sq190_148, List.forall_mem_cons.mpr ⟨sq190_151, List.forall_mem_cons.mpr ⟨sq190_161, List.forall_mem_cons.mpr ⟨sq190_180, List.forall_mem_cons.mpr ⟨sq190_184, List.forall_mem_cons.mpr ⟨sq190_187, List.forall_mem_cons.mpr ⟨sq190_189, List.forall_mem_cons.mpr ⟨sq190_193, List.forall_mem_cons.mpr ⟨sq190_202, List.forall_mem_cons.mpr ⟨sq190_207, List.forall_mem_cons.mpr ⟨sq190_213, List.forall_mem_cons.mpr ⟨sq190_218, List.forall_mem_cons.mpr ⟨sq190_221, List.forall_mem_cons.mpr ⟨sq190_224, List.forall_mem_cons.mpr ⟨sq190_229, List.forall_mem_cons.mpr ⟨sq190_232, List.forall_mem_cons.mpr ⟨sq190_243, List.forall_mem_cons.mpr ⟨sq190_256, List.forall_mem_cons.mpr ⟨sq190_259, List.forall_mem_cons.mpr ⟨sq190_263, List.forall_mem_cons.mpr ⟨sq190_268, List.forall_mem_cons.mpr ⟨sq190_271, List.forall_mem_cons.mpr ⟨sq190_276, (fun _ h => absurd h List.not_mem_nil)⟩⟩⟩⟩⟩⟩⟩⟩⟩⟩⟩⟩⟩⟩⟩⟩⟩⟩⟩⟩⟩⟩⟩⟩⟩⟩⟩⟩⟩⟩⟩⟩)
theorem sq191_78 : sq 191 78 B191_78 := sq_take 8 (e := 89) (by decide +kernel) True.intro
theorem sq191_55 : sq 191 55 B191_55 := sq_take 15 (e := 78) (by decide +kernel) sq191_78
theorem sq191_28 : sq 191 28 B191_28 := sq_take 13 (e := 55) (by decide +kernel) sq191_55
theorem sq191_23 : sq 191 23 B191_23 := sq_take 4 (e := 28) (by decide +kernel) True.intro
theorem sq191_20 : sq 191 20 B191_20 := sq_take 2 (e := 23) (by decide +kernel) sq191_23
theorem sq191_16 : sq 191 16 B191_16 := sq_take 3 (e := 20) (by decide +kernel) sq191_20
theorem sq191_4 : sq 191 4 B191_4 := sq_take 7 (e := 16) (by decide +kernel) sq191_16
theorem sq191_0 : sq 191 0 B191_0 := sq_take 3 (e := 4) (by decide +kernel) sq191_4
set_option maxRecDepth 100000 in
theorem sqM_191 : ∀ b, sq 191 b (tG 191 b) := show ∀ b, sq 191 b (lkB tb191 b) from lkB_sq (List.forall_mem_cons.mpr ⟨sq191_0, List.forall_mem_cons.mpr ⟨sq191_4, List.forall_mem_cons.mpr ⟨sq191_16, List.forall_mem_cons.mpr ⟨sq191_20, List.forall_mem_cons.mpr ⟨sq191_23, List.forall_mem_cons.mpr ⟨sq191_28, List.forall_mem_cons.mpr ⟨sq191_55, List.forall_mem_cons.mpr ⟨sq191_78, (fun _ h => absurd h List.not_mem_nil)⟩⟩⟩⟩⟩⟩⟩⟩)
theorem sq192_0 : sq 192 0 B192_0 := sq_take 5 (e := 4) (by decide +kernel) True.intro
set_option maxRecDepth 100000 in
theorem sqM_192 : ∀ b, sq 192 b (tG 192 b) := show ∀ b, sq 192 b (lkB tb192 b) from lkB_sq (List.forall_mem_cons.mpr ⟨sq192_0, (fun _ h => absurd h List.not_mem_nil)⟩)
theorem sq193_74 : sq 193 74 B193_74 := sq_take 1 (e := 75) (by decide +kernel) True.intro
theorem sq193_73 : sq 193 73 B193_73 := sq_take 2 (e := 74) (by decide +kernel) sq193_74
theorem sq193_70 : sq 193 70 B193_70 := sq_take 2 (e := 73) (by decide +kernel) sq193_73
theorem sq193_58 : sq 193 58 B193_58 := sq_take 8 (e := 70) (by decide +kernel) sq193_70
theorem sq193_47 : sq 193 47 B193_47 := sq_take 6 (e := 58) (by decide +kernel) sq193_58
theorem sq193_43 : sq 193 43 B193_43 := sq_take 3 (e := 47) (by decide +kernel) True.intro
theorem sq193_33 : sq 193 33 B193_33 := sq_take 6 (e := 43) (by decide +kernel) sq193_43
theorem sq193_9 : sq 193 9 B193_9 := sq_take 13 (e := 33) (by decide +kernel) sq193_33
theorem sq193_4 : sq 193 4 B193_4 := sq_take 4 (e := 9) (by decide +kernel) sq193_9
theorem sq193_0 : sq 193 0 B193_0 := sq_take 3 (e := 4) (by decide +kernel) sq193_4
set_option maxRecDepth 100000 in
theorem sqM_193 : ∀ b, sq 193 b (tG 193 b) := show ∀ b, sq 193 b (lkB tb193 b) from lkB_sq (List.forall_mem_cons.mpr ⟨sq193_0, List.forall_mem_cons.mpr ⟨sq193_4, List.forall_mem_cons.mpr ⟨sq193_9, List.forall_mem_cons.mpr ⟨sq193_33, List.forall_mem_cons.mpr ⟨sq193_43, List.forall_mem_cons.mpr ⟨sq193_47, List.forall_mem_cons.mpr ⟨sq193_58, List.forall_mem_cons.mpr ⟨sq193_70, List.forall_mem_cons.mpr ⟨sq193_73, List.forall_mem_cons.mpr ⟨sq193_74, (fun _ h => absurd h List.not_mem_nil)⟩⟩⟩⟩⟩⟩⟩⟩⟩⟩)
theorem sq194_27 : sq 194 27 B194_27 := sq_take 1 (e := 28) (by decide +kernel) True.intro
theorem sq194_26 : sq 194 26 B194_26 := sq_take 2 (e := 27) (by decide +kernel) sq194_27
theorem sq194_22 : sq 194 22 B194_22 := sq_take 2 (e := 26) (by decide +kernel) sq194_26
theorem sq194_18 : sq 194 18 B194_18 := sq_take 3 (e := 22) (by decide +kernel) True.intro
theorem sq194_0 : sq 194 0 B194_0 := sq_take 11 (e := 18) (by decide +kernel) sq194_18
set_option maxRecDepth 100000 in
theorem sqM_194 : ∀ b, sq 194 b (tG 194 b) := show ∀ b, sq 194 b (lkB tb194 b) from lkB_sq (List.forall_mem_cons.mpr ⟨sq194_0, List.forall_mem_cons.mpr ⟨sq194_18, List.forall_mem_cons.mpr ⟨sq194_22, List.forall_mem_cons.mpr ⟨sq194_26, List.forall_mem_cons.mpr ⟨sq194_27, (fun _ h => absurd h List.not_mem_nil)⟩⟩⟩⟩⟩)
theorem sq195_207 : sq 195 207 B195_207 := sq_take 1 (e := 208) (by decide +kernel) True.intro
theorem sq195_191 : sq 195 191 B195_191 := sq_take 10 (e := 207) (by decide +kernel) sq195_207
theorem sq195_186 : sq 195 186 B195_186 := sq_take 3 (e := 191) (by decide +kernel) sq195_191
theorem sq195_164 : sq 195 164 B195_164 := sq_take 12 (e := 186) (by decide +kernel) sq195_186
theorem sq195_143 : sq 195 143 B195_143 := sq_take 10 (e := 164) (by decide +kernel) True.intro
theorem sq195_134 : sq 195 134 B195_134 := sq_take 7 (e := 143) (by decide +kernel) True.intro
theorem sq195_109 : sq 195 109 B195_109 := sq_take 14 (e := 134) (by decide +kernel) sq195_134
theorem sq195_103 : sq 195 103 B195_103 := sq_take 4 (e := 109) (by decide +kernel) sq195_109
theorem sq195_74 : sq 195 74 B195_74 := sq_take 15 (e := 103) (by decide +kernel) True.intro
theorem sq195_64 : sq 195 64 B195_64 := sq_take 6 (e := 74) (by decide +kernel) sq195_74
theorem sq195_60 : sq 195 60 B195_60 := sq_take 2 (e := 64) (by decide +kernel) sq195_64
theorem sq195_59 : sq 195 59 B195_59 := sq_take 2 (e := 60) (by decide +kernel) True.intro
theorem sq195_30 : sq 195 30 B195_30 := sq_take 17 (e := 59) (by decide +kernel) sq195_59
theorem sq195_25 : sq 195 25 B195_25 := sq_take 4 (e := 30) (by decide +kernel) sq195_30
theorem sq195_15 : sq 195 15 B195_15 := sq_take 6 (e := 25) (by decide +kernel) sq195_25
theorem sq195_9 : sq 195 9 B195_9 := sq_take 4 (e := 15) (by decide +kernel) sq195_15
theorem sq195_4 : sq 195 4 B195_4 := sq_take 4 (e := 9) (by decide +kernel) sq195_9
theorem sq195_0 : sq 195 0 B195_0 := sq_take 3 (e := 4) (by decide +kernel) sq195_4
set_option maxRecDepth 100000 in
theorem sqM_195 : ∀ b, sq 195 b (tG 195 b) := show ∀ b, sq 195 b (lkB tb195 b) from lkB_sq (List.forall_mem_cons.mpr ⟨sq195_0, List.forall_mem_cons.mpr ⟨sq195_4, List.forall_mem_cons.mpr ⟨sq195_9, List.forall_mem_cons.mpr ⟨sq195_15, List.forall_mem_cons.mpr ⟨sq195_25, List.forall_mem_cons.mpr ⟨sq195_30, List.forall_mem_cons.mpr ⟨sq195_59, List.forall_mem_cons.mpr ⟨sq195_60, List.forall_mem_cons.mpr ⟨sq195_64, List.forall_mem_cons.mpr ⟨sq195_74, List.forall_mem_cons.mpr ⟨sq195_103, List.forall_mem_cons.mpr ⟨sq195_109, List.forall_mem_cons.mpr ⟨sq195_134, List.forall_mem_cons.mpr ⟨sq195_143, List.forall_mem_cons.mpr ⟨sq195_164, List.forall_mem_cons.mpr ⟨sq195_186, List.forall_mem_cons.mpr ⟨sq195_191, List.forall_mem_cons.mpr ⟨sq195_207, (fun _ h => absurd h List.not_mem_nil)⟩⟩⟩⟩⟩⟩⟩⟩⟩⟩⟩⟩⟩⟩⟩⟩⟩⟩)
theorem sq196_137 : sq 196 137 B196_137 := sq_take 1 (e := 138) (by decide +kernel) True.intro
theorem sq196_133 : sq 196 133 B196_133 := sq_take 3 (e := 137) (by decide +kernel) sq196_137
theorem sq196_121 : sq 196 121 B196_121 := sq_take 7 (e := 133) (by decide +kernel) sq196_133
theorem sq196_118 : sq 196 118 B196_118 := sq_take 2 (e := 121) (by decide +kernel) sq196_121
theorem sq196_112 : sq 196 112 B196_112 := sq_take 5 (e := 118) (by decide +kernel) sq196_118
theorem sq196_103 : sq 196 103 B196_103 := sq_take 5 (e := 112) (by decide +kernel) sq196_112
theorem sq196_100 : sq 196 100 B196_100 := sq_take 2 (e := 103) (by decide +kernel) True.intro
theorem sq196_96 : sq 196 96 B196_96 := sq_take 2 (e := 100) (by decide +kernel) sq196_100
theorem sq196_93 : sq 196 93 B196_93 := sq_take 2 (e := 96) (by decide +kernel) True.intro
theorem sq196_89 : sq 196 89 B196_89 := sq_take 3 (e := 93) (by decide +kernel) sq196_93
theorem sq196_80 : sq 196 80 B196_80 := sq_take 5 (e := 89) (by decide +kernel) sq196_89
theorem sq196_73 : sq 196 73 B196_73 := sq_take 4 (e := 80) (by decide +kernel) True.intro
theorem sq196_64 : sq 196 64 B196_64 := sq_take 5 (e := 73) (by decide +kernel) sq196_73
theorem sq196_57 : sq 196 57 B196_57 := sq_take 4 (e := 64) (by decide +kernel) True.intro
theorem sq196_48 : sq 196 48 B196_48 := sq_take 5 (e := 57) (by decide +kernel) sq196_57
theorem sq196_4 : sq 196 4 B196_4 := sq_take 4 (e := 48) (by decide +kernel) True.intro
theorem sq196_0 : sq 196 0 B196_0 := sq_take 3 (e := 4) (by decide +kernel) sq196_4
set_option maxRecDepth 100000 in
theorem sqM_196 : ∀ b, sq 196 b (tG 196 b) := show ∀ b, sq 196 b (lkB tb196 b) from lkB_sq (List.forall_mem_cons.mpr ⟨sq196_0, List.forall_mem_cons.mpr ⟨sq196_4, List.forall_mem_cons.mpr ⟨sq196_48, List.forall_mem_cons.mpr ⟨sq196_57, List.forall_mem_cons.mpr ⟨sq196_64, List.forall_mem_cons.mpr ⟨sq196_73, List.forall_mem_cons.mpr ⟨sq196_80, List.forall_mem_cons.mpr ⟨sq196_89, List.forall_mem_cons.mpr ⟨sq196_93, List.forall_mem_cons.mpr ⟨sq196_96, List.forall_mem_cons.mpr ⟨sq196_100, List.forall_mem_cons.mpr ⟨sq196_103, List.forall_mem_cons.mpr ⟨sq196_112, List.forall_mem_cons.mpr ⟨sq196_118, List.forall_mem_cons.mpr ⟨sq196_121, List.forall_mem_cons.mpr ⟨sq196_133, List.forall_mem_cons.mpr ⟨sq196_137, (fun _ h => absurd h List.not_mem_nil)⟩⟩⟩⟩⟩⟩⟩⟩⟩⟩⟩⟩⟩⟩⟩⟩⟩)
theorem sq197_237 : sq 197 237 B197_237 := sq_take 2 (e := 239) (by decide +kernel) True.intro
theorem sq197_235 : sq 197 235 B197_235 := sq_take 3 (e := 237) (by decide +kernel) True.intro
theorem sq197_232 : sq 197 232 B197_232 := sq_take 2 (e := 235) (by decide +kernel) sq197_235
theorem sq197_231 : sq 197 231 B197_231 := sq_take 1 (e := 232) (by decide +kernel) sq197_232
theorem sq197_220 : sq 197 220 B197_220 := sq_take 6 (e := 231) (by decide +kernel) True.intro
theorem sq197_206 : sq 197 206 B197_206 := sq_take 8 (e := 220) (by decide +kernel) sq197_220
theorem sq197_205 : sq 197 205 B197_205 := sq_take 2 (e := 206) (by decide +kernel) True.intro
theorem sq197_201 : sq 197 201 B197_201 := sq_take 2 (e := 205) (by decide +kernel) sq197_205
theorem sq197_200 : sq 197 200 B197_200 := sq_take 2 (e := 201) (by decide +kernel) True.intro
theorem sq197_188 : sq 197 188 B197_188 := sq_take 8 (e := 200) (by decide +kernel) sq197_200
theorem sq197_187 : sq 197 187 B197_187 := sq_take 2 (e := 188) (by decide +kernel) True.intro
theorem sq197_165 : sq 197 165 B197_165 := sq_take 14 (e := 187) (by decide +kernel) sq197_187
theorem sq197_164 : sq 197 164 B197_164 := sq_take 2 (e := 165) (by decide +kernel) True.intro
theorem sq197_160 : sq 197 160 B197_160 := sq_take 2 (e := 164) (by decide +kernel) sq197_164
theorem sq197_136 : sq 197 136 B197_136 := sq_take 13 (e := 160) (by decide +kernel) True.intro
theorem sq197_135 : sq 197 135 B197_135 := sq_take 2 (e := 136) (by decide +kernel) True.intro
theorem sq197_119 : sq 197 119 B197_119 := sq_take 10 (e := 135) (by decide +kernel) sq197_135
theorem sq197_114 : sq 197 114 B197_114 := sq_take 3 (e := 119) (by decide +kernel) True.intro
theorem sq197_113 : sq 197 113 B197_113 := sq_take 2 (e := 114) (by decide +kernel) True.intro
theorem sq197_108 : sq 197 108 B197_108 := sq_take 3 (e := 113) (by decide +kernel) sq197_113
theorem sq197_0 : sq 197 0 B197_0 := sq_take 3 (e := 108) (by decide +kernel) True.intro
set_option maxRecDepth 100000 in
theorem sqM_197 : ∀ b, sq 197 b (tG 197 b) := show ∀ b, sq 197 b (lkB tb197 b) from lkB_sq (List.forall_mem_cons.mpr ⟨sq197_0, List.forall_mem_cons.mpr ⟨sq197_108, List.forall_mem_cons.mpr ⟨sq197_113, List.forall_mem_cons.mpr ⟨sq197_114, List.forall_mem_cons.mpr ⟨sq197_119, List.forall_mem_cons.mpr ⟨sq197_135, List.forall_mem_cons.mpr ⟨sq197_136, List.forall_mem_cons.mpr ⟨sq197_160, List.forall_mem_cons.mpr ⟨sq197_164, List.forall_mem_cons.mpr ⟨sq197_165, List.forall_mem_cons.mpr ⟨sq197_187, List.forall_mem_cons.mpr ⟨sq197_188, List.forall_mem_cons.mpr ⟨sq197_200, List.forall_mem_cons.mpr ⟨sq197_201, List.forall_mem_cons.mpr ⟨sq197_205, List.forall_mem_cons.mpr ⟨sq197_206, List.forall_mem_cons.mpr ⟨sq197_220, List.forall_mem_cons.mpr ⟨sq197_231, List.forall_mem_cons.mpr ⟨sq197_232, List.forall_mem_cons.mpr ⟨sq197_235, List.forall_mem_cons.mpr ⟨sq197_237, (fun _ h => absurd h List.not_mem_nil)⟩⟩⟩⟩⟩⟩⟩⟩⟩⟩⟩⟩⟩⟩⟩⟩⟩⟩⟩⟩⟩)
theorem sq198_43 : sq 198 43 B198_43 := sq_take 1 (e := 44) (by decide +kernel) True.intro
theorem sq198_42 : sq 198 42 B198_42 := sq_take 1 (e := 43) (by decide +kernel) sq198_43
theorem sq198_34 : sq 198 34 B198_34 := sq_take 4 (e := 42) (by decide +kernel) True.intro
theorem sq198_22 : sq 198 22 B198_22 := sq_take 7 (e := 34) (by decide +kernel) sq198_34
theorem sq198_18 : sq 198 18 B198_18 := sq_take 4 (e := 22) (by decide +kernel) sq198_22
theorem sq198_14 : sq 198 14 B198_14 := sq_take 3 (e := 18) (by decide +kernel) True.intro
theorem sq198_0 : sq 198 0 B198_0 := sq_take 9 (e := 14) (by decide +kernel) sq198_14
set_option maxRecDepth 100000 in
theorem sqM_198 : ∀ b, sq 198 b (tG 198 b) := show ∀ b, sq 198 b (lkB tb198 b) from lkB_sq (List.forall_mem_cons.mpr ⟨sq198_0, List.forall_mem_cons.mpr ⟨sq198_14, List.forall_mem_cons.mpr ⟨sq198_18, List.forall_mem_cons.mpr ⟨sq198_22, List.forall_mem_cons.mpr ⟨sq198_34, List.forall_mem_cons.mpr ⟨sq198_42, List.forall_mem_cons.mpr ⟨sq198_43, (fun _ h => absurd h List.not_mem_nil)⟩⟩⟩⟩⟩⟩⟩)
theorem sq199_210 : sq 199 210 B199_210 := sq_take 1 (e := 211) (by decide +kernel) True.intro
theorem sq199_209 : sq 199 209 B199_209 := sq_take 2 (e := 210) (by decide +kernel) sq199_210
theorem sq199_178 : sq 199 178 B199_178 := sq_take 16 (e := 209) (by decide +kernel) sq199_209
theorem sq199_167 : sq 199 167 B199_167 := sq_take 6 (e := 178) (by decide +kernel) True.intro
theorem sq199_148 : sq 199 148 B199_148 := sq_take 11 (e := 167) (by decide +kernel) sq199_167
theorem sq199_146 : sq 199 146 B199_146 := sq_take 3 (e := 148) (by decide +kernel) True.intro
theorem sq199_125 : sq 199 125 B199_125 := sq_take 11 (e := 146) (by decide +kernel) sq199_146
theorem sq199_124 : sq 199 124 B199_124 := sq_take 1 (e := 125) (by decide +kernel) True.intro
theorem sq199_122 : sq 199 122 B199_122 := sq_take 3 (e := 124) (by decide +kernel) sq199_124
theorem sq199_109 : sq 199 109 B199_109 := sq_take 6 (e := 122) (by decide +kernel) sq199_122
theorem sq199_98 : sq 199 98 B199_98 := sq_take 6 (e := 109) (by decide +kernel) True.intro
theorem sq199_77 : sq 199 77 B199_77 := sq_take 11 (e := 98) (by decide +kernel) sq199_98
theorem sq199_70 : sq 199 70 B199_70 := sq_take 6 (e := 77) (by decide +kernel) True.intro
theorem sq199_51 : sq 199 51 B199_51 := sq_take 11 (e := 70) (by decide +kernel) sq199_70
theorem sq199_46 : sq 199 46 B199_46 := sq_take 4 (e := 51) (by decide +kernel) True.intro
theorem sq199_37 : sq 199 37 B199_37 := sq_take 6 (e := 46) (by decide +kernel) sq199_46
theorem sq199_28 : sq 199 28 B199_28 := sq_take 7 (e := 37) (by decide +kernel) sq199_37
theorem sq199_24 : sq 199 24 B199_24 := sq_take 3 (e := 28) (by decide +kernel) True.intro
theorem sq199_0 : sq 199 0 B199_0 := sq_take 15 (e := 24) (by decide +kernel) sq199_24
set_option maxRecDepth 100000 in
theorem sqM_199 : ∀ b, sq 199 b (tG 199 b) := show ∀ b, sq 199 b (lkB tb199 b) from lkB_sq (List.forall_mem_cons.mpr ⟨sq199_0, List.forall_mem_cons.mpr ⟨sq199_24, List.forall_mem_cons.mpr ⟨sq199_28, List.forall_mem_cons.mpr ⟨sq199_37, List.forall_mem_cons.mpr ⟨sq199_46, List.forall_mem_cons.mpr ⟨sq199_51, List.forall_mem_cons.mpr ⟨sq199_70, List.forall_mem_cons.mpr ⟨sq199_77, List.forall_mem_cons.mpr ⟨sq199_98, List.forall_mem_cons.mpr ⟨sq199_109, List.forall_mem_cons.mpr ⟨sq199_122, List.forall_mem_cons.mpr ⟨sq199_124, List.forall_mem_cons.mpr ⟨sq199_125, List.forall_mem_cons.mpr ⟨sq199_146, List.forall_mem_cons.mpr ⟨sq199_148, List.forall_mem_cons.mpr ⟨sq199_167, List.forall_mem_cons.mpr ⟨sq199_178, List.forall_mem_cons.mpr ⟨sq199_209, List.forall_mem_cons.mpr ⟨sq199_210, (fun _ h => absurd h List.not_mem_nil)⟩⟩⟩⟩⟩⟩⟩⟩⟩⟩⟩⟩⟩⟩⟩⟩⟩⟩⟩)
theorem sq200_61 : sq 200 61 B200_61 := sq_take 2 (e := 63) (by decide +kernel) True.intro
theorem sq200_25 : sq 200 25 B200_25 := sq_take 19 (e := 61) (by decide +kernel) sq200_61
theorem sq200_5 : sq 200 5 B200_5 := sq_take 11 (e := 25) (by decide +kernel) sq200_25
theorem sq200_0 : sq 200 0 B200_0 := sq_take 4 (e := 5) (by decide +kernel) sq200_5
set_option maxRecDepth 100000 in
theorem sqM_200 : ∀ b, sq 200 b (tG 200 b) := show ∀ b, sq 200 b (lkB tb200 b) from lkB_sq (List.forall_mem_cons.mpr ⟨sq200_0, List.forall_mem_cons.mpr ⟨sq200_5, List.forall_mem_cons.mpr ⟨sq200_25, List.forall_mem_cons.mpr ⟨sq200_61, (fun _ h => absurd h List.not_mem_nil)⟩⟩⟩⟩)
theorem sq201_115 : sq 201 115 B201_115 := sq_take 3 (e := 117) (by decide +kernel) True.intro
theorem sq201_99 : sq 201 99 B201_99 := sq_take 9 (e := 115) (by decide +kernel) sq201_115
theorem sq201_95 : sq 201 95 B201_95 := sq_take 2 (e := 99) (by decide +kernel) True.intro
theorem sq201_79 : sq 201 79 B201_79 := sq_take 8 (e := 95) (by decide +kernel) sq201_95
theorem sq201_57 : sq 201 57 B201_57 := sq_take 13 (e := 79) (by decide +kernel) sq201_79
theorem sq201_53 : sq 201 53 B201_53 := sq_take 2 (e := 57) (by decide +kernel) True.intro
theorem sq201_11 : sq 201 11 B201_11 := sq_take 26 (e := 53) (by decide +kernel) sq201_53
theorem sq201_0 : sq 201 0 B201_0 := sq_take 8 (e := 11) (by decide +kernel) sq201_11
set_option maxRecDepth 100000 in
theorem sqM_201 : ∀ b, sq 201 b (tG 201 b) := show ∀ b, sq 201 b (lkB tb201 b) from lkB_sq (List.forall_mem_cons.mpr ⟨sq201_0, List.forall_mem_cons.mpr ⟨sq201_11, List.forall_mem_cons.mpr ⟨sq201_53, List.forall_mem_cons.mpr ⟨sq201_57, List.forall_mem_cons.mpr ⟨sq201_79, List.forall_mem_cons.mpr ⟨sq201_95, List.forall_mem_cons.mpr ⟨sq201_99, List.forall_mem_cons.mpr ⟨sq201_115, (fun _ h => absurd h List.not_mem_nil)⟩⟩⟩⟩⟩⟩⟩⟩)
theorem sq202_69 : sq 202 69 B202_69 := sq_take 16 (e := 97) (by decide +kernel) True.intro
theorem sq202_65 : sq 202 65 B202_65 := sq_take 3 (e := 69) (by decide +kernel) True.intro
theorem sq202_46 : sq 202 46 B202_46 := sq_take 11 (e := 65) (by decide +kernel) sq202_65
theorem sq202_17 : sq 202 17 B202_17 := sq_take 18 (e := 46) (by decide +kernel) sq202_46
theorem sq202_6 : sq 202 6 B202_6 := sq_take 6 (e := 17) (by decide +kernel) True.intro
theorem sq202_0 : sq 202 0 B202_0 := sq_take 4 (e := 6) (by decide +kernel) sq202_6
set_option maxRecDepth 100000 in
theorem sqM_202 : ∀ b, sq 202 b (tG 202 b) := show ∀ b, sq 202 b (lkB tb202 b) from lkB_sq (List.forall_mem_cons.mpr ⟨sq202_0, List.forall_mem_cons.mpr ⟨sq202_6, List.forall_mem_cons.mpr ⟨sq202_17, List.forall_mem_cons.mpr ⟨sq202_46, List.forall_mem_cons.mpr ⟨sq202_65, List.forall_mem_cons.mpr ⟨sq202_69, (fun _ h => absurd h List.not_mem_nil)⟩⟩⟩⟩⟩⟩)
theorem sq203_101 : sq 203 101 B203_101 := sq_take 3 (e := 103) (by decide +kernel) True.intro
theorem sq203_91 : sq 203 91 B203_91 := sq_take 7 (e := 101) (by decide +kernel) sq203_101
theorem sq203_36 : sq 203 36 B203_36 := sq_take 32 (e := 91) (by decide +kernel) sq203_91
theorem sq203_28 : sq 203 28 B203_28 := sq_take 6 (e := 36) (by decide +kernel) sq203_36
theorem sq203_24 : sq 203 24 B203_24 := sq_take 2 (e := 28) (by decide +kernel) True.intro
theorem sq203_0 : sq 203 0 B203_0 := sq_take 15 (e := 24) (by decide +kernel) sq203_24
set_option maxRecDepth 100000 in
theorem sqM_203 : ∀ b, sq 203 b (tG 203 b) := show ∀ b, sq 203 b (lkB tb203 b) from lkB_sq (List.forall_mem_cons.mpr ⟨sq203_0, List.forall_mem_cons.mpr ⟨sq203_24, List.forall_mem_cons.mpr ⟨sq203_28, List.forall_mem_cons.mpr ⟨sq203_36, List.forall_mem_cons.mpr ⟨sq203_91, List.forall_mem_cons.mpr ⟨sq203_101, (fun _ h => absurd h List.not_mem_nil)⟩⟩⟩⟩⟩⟩)
theorem sq204_67 : sq 204 67 B204_67 := sq_take 1 (e := 68) (by decide +kernel) True.intro
theorem sq204_60 : sq 204 60 B204_60 := sq_take 4 (e := 67) (by decide +kernel) sq204_67
theorem sq204_49 : sq 204 49 B204_49 := sq_take 6 (e := 60) (by decide +kernel) True.intro
theorem sq204_39 : sq 204 39 B204_39 := sq_take 6 (e := 49) (by decide +kernel) sq204_49
theorem sq204_37 : sq 204 37 B204_37 := sq_take 2 (e := 39) (by decide +kernel) True.intro
theorem sq204_11 : sq 204 11 B204_11 := sq_take 17 (e := 37) (by decide +kernel) sq204_37
theorem sq204_0 : sq 204 0 B204_0 := sq_take 8 (e := 11) (by decide +kernel) sq204_11
set_option maxRecDepth 100000 in
theorem sqM_204 : ∀ b, sq 204 b (tG 204 b) := show ∀ b, sq 204 b (lkB tb204 b) from lkB_sq (List.forall_mem_cons.mpr ⟨sq204_0, List.forall_mem_cons.mpr ⟨sq204_11, List.forall_mem_cons.mpr ⟨sq204_37, List.forall_mem_cons.mpr ⟨sq204_39, List.forall_mem_cons.mpr ⟨sq204_49, List.forall_mem_cons.mpr ⟨sq204_60, List.forall_mem_cons.mpr ⟨sq204_67, (fun _ h => absurd h List.not_mem_nil)⟩⟩⟩⟩⟩⟩⟩)
theorem sq205_15 : sq 205 15 B205_15 := sq_take 1 (e := 16) (by decide +kernel) True.intro
theorem sq205_14 : sq 205 14 B205_14 := sq_take 2 (e := 15) (by decide +kernel) sq205_15
theorem sq205_0 : sq 205 0 B205_0 := sq_take 8 (e := 14) (by decide +kernel) True.intro
set_option maxRecDepth 100000 in
theorem sqM_205 : ∀ b, sq 205 b (tG 205 b) := show ∀ b, sq 205 b (lkB tb205 b) from lkB_sq (List.forall_mem_cons.mpr ⟨sq205_0, List.forall_mem_cons.mpr ⟨sq205_14, List.forall_mem_cons.mpr ⟨sq205_15, (fun _ h => absurd h List.not_mem_nil)⟩⟩⟩)
theorem sq206_19 : sq 206 19 B206_19 := sq_take 2 (e := 20) (by decide +kernel) True.intro
theorem sq206_0 : sq 206 0 B206_0 := sq_take 14 (e := 19) (by decide +kernel) sq206_19
set_option maxRecDepth 100000 in
theorem sqM_206 : ∀ b, sq 206 b (tG 206 b) := show ∀ b, sq 206 b (lkB tb206 b) from lkB_sq (List.forall_mem_cons.mpr ⟨sq206_0, List.forall_mem_cons.mpr ⟨sq206_19, (fun _ h => absurd h List.not_mem_nil)⟩⟩)
theorem sq207_41 : sq 207 41 B207_41 := sq_take 2 (e := 42) (by decide +kernel) True.intro
theorem sq207_35 : sq 207 35 B207_35 := sq_take 4 (e := 41) (by decide +kernel) sq207_41
theorem sq207_28 : sq 207 28 B207_28 := sq_take 4 (e := 35) (by decide +kernel) True.intro
theorem sq207_3 : sq 207 3 B207_3 := sq_take 15 (e := 28) (by decide +kernel) sq207_28
theorem sq207_0 : sq 207 0 B207_0 := sq_take 3 (e := 3) (by decide +kernel) sq207_3
set_option maxRecDepth 100000 in
theorem sqM_207 : ∀ b, sq 207 b (tG 207 b) := show ∀ b, sq 207 b (lkB tb207 b) from lkB_sq (List.forall_mem_cons.mpr ⟨sq207_0, List.forall_mem_cons.mpr ⟨sq207_3, List.forall_mem_cons.mpr ⟨sq207_28, List.forall_mem_cons.mpr ⟨sq207_35, List.forall_mem_cons.mpr ⟨sq207_41, (fun _ h => absurd h List.not_mem_nil)⟩⟩⟩⟩⟩)
theorem sq208_21 : sq 208 21 B208_21 := sq_take 2 (e := 22) (by decide +kernel) True.intro
theorem sq208_0 : sq 208 0 B208_0 := sq_take 16 (e := 21) (by decide +kernel) sq208_21
set_option maxRecDepth 100000 in
theorem sqM_208 : ∀ b, sq 208 b (tG 208 b) := show ∀ b, sq 208 b (lkB tb208 b) from lkB_sq (List.forall_mem_cons.mpr ⟨sq208_0, List.forall_mem_cons.mpr ⟨sq208_21, (fun _ h => absurd h List.not_mem_nil)⟩⟩)
theorem sq209_39 : sq 209 39 B209_39 := sq_take 4 (e := 44) (by decide +kernel) True.intro
theorem sq209_30 : sq 209 30 B209_30 := sq_take 6 (e := 39) (by decide +kernel) sq209_39
theorem sq209_15 : sq 209 15 B209_15 := sq_take 10 (e := 30) (by decide +kernel) sq209_30
theorem sq209_0 : sq 209 0 B209_0 := sq_take 10 (e := 15) (by decide +kernel) sq209_15
set_option maxRecDepth 100000 in
theorem sqM_209 : ∀ b, sq 209 b (tG 209 b) := show ∀ b, sq 209 b (lkB tb209 b) from lkB_sq (List.forall_mem_cons.mpr ⟨sq209_0, List.forall_mem_cons.mpr ⟨sq209_15, List.forall_mem_cons.mpr ⟨sq209_30, List.forall_mem_cons.mpr ⟨sq209_39, (fun _ h => absurd h List.not_mem_nil)⟩⟩⟩⟩)
theorem sq210_20 : sq 210 20 B210_20 := sq_take 21 (e := 50) (by decide +kernel) True.intro
theorem sq210_0 : sq 210 0 B210_0 := sq_take 13 (e := 20) (by decide +kernel) sq210_20
set_option maxRecDepth 100000 in
theorem sqM_210 : ∀ b, sq 210 b (tG 210 b) := show ∀ b, sq 210 b (lkB tb210 b) from lkB_sq (List.forall_mem_cons.mpr ⟨sq210_0, List.forall_mem_cons.mpr ⟨sq210_20, (fun _ h => absurd h List.not_mem_nil)⟩⟩)
theorem sq211_61 : sq 211 61 B211_61 := sq_take 19 (e := 93) (by decide +kernel) True.intro
theorem sq211_24 : sq 211 24 B211_24 := sq_take 20 (e := 61) (by decide +kernel) sq211_61
theorem sq211_0 : sq 211 0 B211_0 := sq_take 13 (e := 24) (by decide +kernel) sq211_24
set_option maxRecDepth 100000 in
theorem sqM_211 : ∀ b, sq 211 b (tG 211 b) := show ∀ b, sq 211 b (lkB tb211 b) from lkB_sq (List.forall_mem_cons.mpr ⟨sq211_0, List.forall_mem_cons.mpr ⟨sq211_24, List.forall_mem_cons.mpr ⟨sq211_61, (fun _ h => absurd h List.not_mem_nil)⟩⟩⟩)
theorem sq212_0 : sq 212 0 B212_0 := sq_take 12 (e := 16) (by decide +kernel) True.intro
set_option maxRecDepth 100000 in
theorem sqM_212 : ∀ b, sq 212 b (tG 212 b) := show ∀ b, sq 212 b (lkB tb212 b) from lkB_sq (List.forall_mem_cons.mpr ⟨sq212_0, (fun _ h => absurd h List.not_mem_nil)⟩)
theorem sq213_0 : sq 213 0 B213_0 := sq_take 16 (e := 23) (by decide +kernel) True.intro
set_option maxRecDepth 100000 in
theorem sqM_213 : ∀ b, sq 213 b (tG 213 b) := show ∀ b, sq 213 b (lkB tb213 b) from lkB_sq (List.forall_mem_cons.mpr ⟨sq213_0, (fun _ h => absurd h List.not_mem_nil)⟩)
theorem sq214_0 : sq 214 0 B214_0 := sq_take 7 (e := 8) (by decide +kernel) True.intro
set_option maxRecDepth 100000 in
theorem sqM_214 : ∀ b, sq 214 b (tG 214 b) := show ∀ b, sq 214 b (lkB tb214 b) from lkB_sq (List.forall_mem_cons.mpr ⟨sq214_0, (fun _ h => absurd h List.not_mem_nil)⟩)
theorem sq215_13 : sq 215 13 B215_13 := sq_take 2 (e := 14) (by decide +kernel) True.intro
theorem sq215_0 : sq 215 0 B215_0 := sq_take 9 (e := 13) (by decide +kernel) sq215_13
set_option maxRecDepth 100000 in
theorem sqM_215 : ∀ b, sq 215 b (tG 215 b) := show ∀ b, sq 215 b (lkB tb215 b) from lkB_sq (List.forall_mem_cons.mpr ⟨sq215_0, List.forall_mem_cons.mpr ⟨sq215_13, (fun _ h => absurd h List.not_mem_nil)⟩⟩)
theorem sq216_0 : sq 216 0 B216_0 := sq_take 10 (e := 16) (by decide +kernel) True.intro
set_option maxRecDepth 100000 in
theorem sqM_216 : ∀ b, sq 216 b (tG 216 b) := show ∀ b, sq 216 b (lkB tb216 b) from lkB_sq (List.forall_mem_cons.mpr ⟨sq216_0, (fun _ h => absurd h List.not_mem_nil)⟩)
theorem sq217_35 : sq 217 35 B217_35 := sq_take 2 (e := 36) (by decide +kernel) True.intro
theorem sq217_5 : sq 217 5 B217_5 := sq_take 22 (e := 35) (by decide +kernel) sq217_35
theorem sq217_0 : sq 217 0 B217_0 := sq_take 4 (e := 5) (by decide +kernel) sq217_5
set_option maxRecDepth 100000 in
theorem sqM_217 : ∀ b, sq 217 b (tG 217 b) := show ∀ b, sq 217 b (lkB tb217 b) from lkB_sq (List.forall_mem_cons.mpr ⟨sq217_0, List.forall_mem_cons.mpr ⟨sq217_5, List.forall_mem_cons.mpr ⟨sq217_35, (fun _ h => absurd h List.not_mem_nil)⟩⟩⟩)
theorem sq218_29 : sq 218 29 B218_29 := sq_take 2 (e := 30) (by decide +kernel) True.intro
theorem sq218_13 : sq 218 13 B218_13 := sq_take 11 (e := 29) (by decide +kernel) sq218_29
theorem sq218_0 : sq 218 0 B218_0 := sq_take 9 (e := 13) (by decide +kernel) sq218_13
set_option maxRecDepth 100000 in
theorem sqM_218 : ∀ b, sq 218 b (tG 218 b) := show ∀ b, sq 218 b (lkB tb218 b) from lkB_sq (List.forall_mem_cons.mpr ⟨sq218_0, List.forall_mem_cons.mpr ⟨sq218_13, List.forall_mem_cons.mpr ⟨sq218_29, (fun _ h => absurd h List.not_mem_nil)⟩⟩⟩)
theorem sq219_18 : sq 219 18 B219_18 := sq_take 29 (e := 65) (by decide +kernel) True.intro
theorem sq219_0 : sq 219 0 B219_0 := sq_take 11 (e := 18) (by decide +kernel) sq219_18
set_option maxRecDepth 100000 in
theorem sqM_219 : ∀ b, sq 219 b (tG 219 b) := show ∀ b, sq 219 b (lkB tb219 b) from lkB_sq (List.forall_mem_cons.mpr ⟨sq219_0, List.forall_mem_cons.mpr ⟨sq219_18, (fun _ h => absurd h List.not_mem_nil)⟩⟩)
theorem sq220_32 : sq 220 32 B220_32 := sq_take 7 (e := 42) (by decide +kernel) True.intro
theorem sq220_18 : sq 220 18 B220_18 := sq_take 9 (e := 32) (by decide +kernel) sq220_32
theorem sq220_11 : sq 220 11 B220_11 := sq_take 4 (e := 18) (by decide +kernel) sq220_18
theorem sq220_6 : sq 220 6 B220_6 := sq_take 4 (e := 11) (by decide +kernel) sq220_11
theorem sq220_0 : sq 220 0 B220_0 := sq_take 5 (e := 6) (by decide +kernel) sq220_6
set_option maxRecDepth 100000 in
theorem sqM_220 : ∀ b, sq 220 b (tG 220 b) := show ∀ b, sq 220 b (lkB tb220 b) from lkB_sq (List.forall_mem_cons.mpr ⟨sq220_0, List.forall_mem_cons.mpr ⟨sq220_6, List.forall_mem_cons.mpr ⟨sq220_11, List.forall_mem_cons.mpr ⟨sq220_18, List.forall_mem_cons.mpr ⟨sq220_32, (fun _ h => absurd h List.not_mem_nil)⟩⟩⟩⟩⟩)
theorem sq221_22 : sq 221 22 B221_22 := sq_take 1 (e := 23) (by decide +kernel) True.intro
theorem sq221_16 : sq 221 16 B221_16 := sq_take 3 (e := 22) (by decide +kernel) True.intro
theorem sq221_13 : sq 221 13 B221_13 := sq_take 2 (e := 16) (by decide +kernel) sq221_16
theorem sq221_2 : sq 221 2 B221_2 := sq_take 8 (e := 13) (by decide +kernel) sq221_13
theorem sq221_0 : sq 221 0 B221_0 := sq_take 3 (e := 2) (by decide +kernel) sq221_2
set_option maxRecDepth 100000 in
theorem sqM_221 : ∀ b, sq 221 b (tG 221 b) := show ∀ b, sq 221 b (lkB tb221 b) from lkB_sq (List.forall_mem_cons.mpr ⟨sq221_0, List.forall_mem_cons.mpr ⟨sq221_2, List.forall_mem_cons.mpr ⟨sq221_13, List.forall_mem_cons.mpr ⟨sq221_16, List.forall_mem_cons.mpr ⟨sq221_22, (fun _ h => absurd h List.not_mem_nil)⟩⟩⟩⟩⟩)
theorem sq222_21 : sq 222 21 B222_21 := sq_take 1 (e := 22) (by decide +kernel) True.intro
theorem sq222_20 : sq 222 20 B222_20 := sq_take 2 (e := 21) (by decide +kernel) sq222_21
theorem sq222_0 : sq 222 0 B222_0 := sq_take 12 (e := 20) (by decide +kernel) True.intro
set_option maxRecDepth 100000 in
theorem sqM_222 : ∀ b, sq 222 b (tG 222 b) := show ∀ b, sq 222 b (lkB tb222 b) from lkB_sq (List.forall_mem_cons.mpr ⟨sq222_0, List.forall_mem_cons.mpr ⟨sq222_20, List.forall_mem_cons.mpr ⟨sq222_21, (fun _ h => absurd h List.not_mem_nil)⟩⟩⟩)
theorem sq223_35 : sq 223 35 B223_35 := sq_take 1 (e := 36) (by decide +kernel) True.intro
theorem sq223_34 : sq 223 34 B223_34 := sq_take 2 (e := 35) (by decide +kernel) sq223_35
theorem sq223_14 : sq 223 14 B223_14 := sq_take 11 (e := 34) (by decide +kernel) True.intro
theorem sq223_5 : sq 223 5 B223_5 := sq_take 6 (e := 14) (by decide +kernel) sq223_14
theorem sq223_0 : sq 223 0 B223_0 := sq_take 4 (e := 5) (by decide +kernel) sq223_5
set_option maxRecDepth 100000 in
theorem sqM_223 : ∀ b, sq 223 b (tG 223 b) := show ∀ b, sq 223 b (lkB tb223 b) from lkB_sq (List.forall_mem_cons.mpr ⟨sq223_0, List.forall_mem_cons.mpr ⟨sq223_5, List.forall_mem_cons.mpr ⟨sq223_14, List.forall_mem_cons.mpr ⟨sq223_34, List.forall_mem_cons.mpr ⟨sq223_35, (fun _ h => absurd h List.not_mem_nil)⟩⟩⟩⟩⟩)
theorem sq224_23 : sq 224 23 B224_23 := sq_take 3 (e := 25) (by decide +kernel) True.intro
theorem sq224_20 : sq 224 20 B224_20 := sq_take 2 (e := 23) (by decide +kernel) sq224_23
theorem sq224_12 : sq 224 12 B224_12 := sq_take 5 (e := 20) (by decide +kernel) sq224_20
theorem sq224_7 : sq 224 7 B224_7 := sq_take 4 (e := 12) (by decide +kernel) True.intro
theorem sq224_0 : sq 224 0 B224_0 := sq_take 5 (e := 7) (by decide +kernel) sq224_7
set_option maxRecDepth 100000 in
theorem sqM_224 : ∀ b, sq 224 b (tG 224 b) := show ∀ b, sq 224 b (lkB tb224 b) from lkB_sq (List.forall_mem_cons.mpr ⟨sq224_0, List.forall_mem_cons.mpr ⟨sq224_7, List.forall_mem_cons.mpr ⟨sq224_12, List.forall_mem_cons.mpr ⟨sq224_20, List.forall_mem_cons.mpr ⟨sq224_23, (fun _ h => absurd h List.not_mem_nil)⟩⟩⟩⟩⟩)
theorem sq225_23 : sq 225 23 B225_23 := sq_take 3 (e := 25) (by decide +kernel) True.intro
theorem sq225_18 : sq 225 18 B225_18 := sq_take 3 (e := 23) (by decide +kernel) sq225_23
theorem sq225_12 : sq 225 12 B225_12 := sq_take 4 (e := 18) (by decide +kernel) sq225_18
theorem sq225_7 : sq 225 7 B225_7 := sq_take 4 (e := 12) (by decide +kernel) True.intro
theorem sq225_0 : sq 225 0 B225_0 := sq_take 5 (e := 7) (by decide +kernel) sq225_7
set_option maxRecDepth 100000 in
theorem sqM_225 : ∀ b, sq 225 b (tG 225 b) := show ∀ b, sq 225 b (lkB tb225 b) from lkB_sq (List.forall_mem_cons.mpr ⟨sq225_0, List.forall_mem_cons.mpr ⟨sq225_7, List.forall_mem_cons.mpr ⟨sq225_12, List.forall_mem_cons.mpr ⟨sq225_18, List.forall_mem_cons.mpr ⟨sq225_23, (fun _ h => absurd h List.not_mem_nil)⟩⟩⟩⟩⟩)
theorem sq226_100 : sq 226 100 B226_100 := sq_take 2 (e := 102) (by decide +kernel) True.intro
theorem sq226_91 : sq 226 91 B226_91 := sq_take 5 (e := 100) (by decide +kernel) True.intro
theorem sq226_82 : sq 226 82 B226_82 := sq_take 6 (e := 91) (by decide +kernel) True.intro
theorem sq226_81 : sq 226 81 B226_81 := sq_take 1 (e := 82) (by decide +kernel) sq226_82
theorem sq226_65 : sq 226 65 B226_65 := sq_take 9 (e := 81) (by decide +kernel) True.intro
theorem sq226_61 : sq 226 61 B226_61 := sq_take 2 (e := 65) (by decide +kernel) True.intro
theorem sq226_19 : sq 226 19 B226_19 := sq_take 27 (e := 61) (by decide +kernel) True.intro
theorem sq226_3 : sq 226 3 B226_3 := sq_take 10 (e := 19) (by decide +kernel) sq226_19
theorem sq226_0 : sq 226 0 B226_0 := sq_take 3 (e := 3) (by decide +kernel) sq226_3
set_option maxRecDepth 100000 in
theorem sqM_226 : ∀ b, sq 226 b (tG 226 b) := show ∀ b, sq 226 b (lkB tb226 b) from lkB_sq (List.forall_mem_cons.mpr ⟨sq226_0, List.forall_mem_cons.mpr ⟨sq226_3, List.forall_mem_cons.mpr ⟨sq226_19, List.forall_mem_cons.mpr ⟨sq226_61, List.forall_mem_cons.mpr ⟨sq226_65, List.forall_mem_cons.mpr ⟨sq226_81, List.forall_mem_cons.mpr ⟨sq226_82, List.forall_mem_cons.mpr ⟨sq226_91, List.forall_mem_cons.mpr ⟨sq226_100, (fun _ h => absurd h List.not_mem_nil)⟩⟩⟩⟩⟩⟩⟩⟩⟩)
theorem sq227_119 : sq 227 119 B227_119 := sq_take 1 (e := 120) (by decide +kernel) True.intro
theorem sq227_110 : sq 227 110 B227_110 := sq_take 6 (e := 119) (by decide +kernel) True.intro
theorem sq227_79 : sq 227 79 B227_79 := sq_take 22 (e := 110) (by decide +kernel) sq227_110
theorem sq227_78 : sq 227 78 B227_78 := sq_take 2 (e := 79) (by decide +kernel) sq227_79
theorem sq227_77 : sq 227 77 B227_77 := sq_take 1 (e := 78) (by decide +kernel) sq227_78
theorem sq227_58 : sq 227 58 B227_58 := sq_take 10 (e := 77) (by decide +kernel) True.intro
theorem sq227_50 : sq 227 50 B227_50 := sq_take 5 (e := 58) (by decide +kernel) sq227_58
theorem sq227_49 : sq 227 49 B227_49 := sq_take 1 (e := 50) (by decide +kernel) sq227_50
theorem sq227_19 : sq 227 19 B227_19 := sq_take 18 (e := 49) (by decide +kernel) True.intro
theorem sq227_3 : sq 227 3 B227_3 := sq_take 10 (e := 19) (by decide +kernel) sq227_19
theorem sq227_0 : sq 227 0 B227_0 := sq_take 3 (e := 3) (by decide +kernel) sq227_3
set_option maxRecDepth 100000 in
theorem sqM_227 : ∀ b, sq 227 b (tG 227 b) := show ∀ b, sq 227 b (lkB tb227 b) from lkB_sq (List.forall_mem_cons.mpr ⟨sq227_0, List.forall_mem_cons.mpr ⟨sq227_3, List.forall_mem_cons.mpr ⟨sq227_19, List.forall_mem_cons.mpr ⟨sq227_49, List.forall_mem_cons.mpr ⟨sq227_50, List.forall_mem_cons.mpr ⟨sq227_58, List.forall_mem_cons.mpr ⟨sq227_77, List.forall_mem_cons.mpr ⟨sq227_78, List.forall_mem_cons.mpr ⟨sq227_79, List.forall_mem_cons.mpr ⟨sq227_110, List.forall_mem_cons.mpr ⟨sq227_119, (fun _ h => absurd h List.not_mem_nil)⟩⟩⟩⟩⟩⟩⟩⟩⟩⟩⟩)
theorem sq228_11 : sq 228 11 B228_11 := sq_take 14 (e := 33) (by decide +kernel) True.intro
theorem sq228_0 : sq 228 0 B228_0 := sq_take 7 (e := 11) (by decide +kernel) True.intro
set_option maxRecDepth 100000 in
theorem sqM_228 : ∀ b, sq 228 b (tG 228 b) := show ∀ b, sq 228 b (lkB tb228 b) from lkB_sq (List.forall_mem_cons.mpr ⟨sq228_0, List.forall_mem_cons.mpr ⟨sq228_11, (fun _ h => absurd h List.not_mem_nil)⟩⟩)
theorem sq229_43 : sq 229 43 B229_43 := sq_take 4 (e := 49) (by decide +kernel) True.intro
theorem sq229_37 : sq 229 37 B229_37 := sq_take 3 (e := 43) (by decide +kernel) True.intro
theorem sq229_4 : sq 229 4 B229_4 := sq_take 20 (e := 37) (by decide +kernel) sq229_37
theorem sq229_0 : sq 229 0 B229_0 := sq_take 5 (e := 4) (by decide +kernel) sq229_4
set_option maxRecDepth 100000 in
theorem sqM_229 : ∀ b, sq 229 b (tG 229 b) := show ∀ b, sq 229 b (lkB tb229 b) from lkB_sq (List.forall_mem_cons.mpr ⟨sq229_0, List.forall_mem_cons.mpr ⟨sq229_4, List.forall_mem_cons.mpr ⟨sq229_37, List.forall_mem_cons.mpr ⟨sq229_43, (fun _ h => absurd h List.not_mem_nil)⟩⟩⟩⟩)
theorem sq230_138 : sq 230 138 B230_138 := sq_take 2 (e := 139) (by decide +kernel) True.intro
theorem sq230_129 : sq 230 129 B230_129 := sq_take 5 (e := 138) (by decide +kernel) sq230_138
theorem sq230_123 : sq 230 123 B230_123 := sq_take 3 (e := 129) (by decide +kernel) True.intro
theorem sq230_120 : sq 230 120 B230_120 := sq_take 2 (e := 123) (by decide +kernel) sq230_123
theorem sq230_119 : sq 230 119 B230_119 := sq_take 1 (e := 120) (by decide +kernel) sq230_120
theorem sq230_100 : sq 230 100 B230_100 := sq_take 11 (e := 119) (by decide +kernel) True.intro
theorem sq230_98 : sq 230 98 B230_98 := sq_take 1 (e := 100) (by decide +kernel) sq230_100
theorem sq230_86 : sq 230 86 B230_86 := sq_take 6 (e := 98) (by decide +kernel) True.intro
theorem sq230_83 : sq 230 83 B230_83 := sq_take 2 (e := 86) (by decide +kernel) True.intro
theorem sq230_72 : sq 230 72 B230_72 := sq_take 7 (e := 83) (by decide +kernel) sq230_83
theorem sq230_35 : sq 230 35 B230_35 := sq_take 21 (e := 72) (by decide +kernel) sq230_72
theorem sq230_34 : sq 230 34 B230_34 := sq_take 1 (e := 35) (by decide +kernel) sq230_35
theorem sq230_3 : sq 230 3 B230_3 := sq_take 16 (e := 34) (by decide +kernel) True.intro
theorem sq230_0 : sq 230 0 B230_0 := sq_take 3 (e := 3) (by decide +kernel) sq230_3
set_option maxRecDepth 100000 in
theorem sqM_230 : ∀ b, sq 230 b (tG 230 b) := show ∀ b, sq 230 b (lkB tb230 b) from lkB_sq (List.forall_mem_cons.mpr ⟨sq230_0, List.forall_mem_cons.mpr ⟨sq230_3, List.forall_mem_cons.mpr ⟨sq230_34, List.forall_mem_cons.mpr ⟨sq230_35, List.forall_mem_cons.mpr ⟨sq230_72, List.forall_mem_cons.mpr ⟨sq230_83, List.forall_mem_cons.mpr ⟨sq230_86, List.forall_mem_cons.mpr ⟨sq230_98, List.forall_mem_cons.mpr ⟨sq230_100, List.forall_mem_cons.mpr ⟨sq230_119, List.forall_mem_cons.mpr ⟨sq230_120, List.forall_mem_cons.mpr ⟨sq230_123, List.forall_mem_cons.mpr ⟨sq230_129, List.forall_mem_cons.mpr ⟨sq230_138, (fun _ h => absurd h List.not_mem_nil)⟩⟩⟩⟩⟩⟩⟩⟩⟩⟩⟩⟩⟩⟩)
theorem sq231_76 : sq 231 76 B231_76 := sq_take 1 (e := 77) (by decide +kernel) True.intro
theorem sq231_70 : sq 231 70 B231_70 := sq_take 3 (e := 76) (by decide +kernel) True.intro
theorem sq231_69 : sq 231 69 B231_69 := sq_take 2 (e := 70) (by decide +kernel) sq231_70
theorem sq231_3 : sq 231 3 B231_3 := sq_take 37 (e := 69) (by decide +kernel) sq231_69
theorem sq231_0 : sq 231 0 B231_0 := sq_take 3 (e := 3) (by decide +kernel) sq231_3
set_option maxRecDepth 100000 in
theorem sqM_231 : ∀ b, sq 231 b (tG 231 b) := show ∀ b, sq 231 b (lkB tb231 b) from lkB_sq (List.forall_mem_cons.mpr ⟨sq231_0, List.forall_mem_cons.mpr ⟨sq231_3, List.forall_mem_cons.mpr ⟨sq231_69, List.forall_mem_cons.mpr ⟨sq231_70, List.forall_mem_cons.mpr ⟨sq231_76, (fun _ h => absurd h List.not_mem_nil)⟩⟩⟩⟩⟩)
theorem sq232_51 : sq 232 51 B232_51 := sq_take 1 (e := 52) (by decide +kernel) True.intro
theorem sq232_45 : sq 232 45 B232_45 := sq_take 3 (e := 51) (by decide +kernel) True.intro
theorem sq232_40 : sq 232 40 B232_40 := sq_take 4 (e := 45) (by decide +kernel) sq232_45
theorem sq232_2 : sq 232 2 B232_2 := sq_take 21 (e := 40) (by decide +kernel) sq232_40
theorem sq232_0 : sq 232 0 B232_0 := sq_take 3 (e := 2) (by decide +kernel) sq232_2
set_option maxRecDepth 100000 in
theorem sqM_232 : ∀ b, sq 232 b (tG 232 b) := show ∀ b, sq 232 b (lkB tb232 b) from lkB_sq (List.forall_mem_cons.mpr ⟨sq232_0, List.forall_mem_cons.mpr ⟨sq232_2, List.forall_mem_cons.mpr ⟨sq232_40, List.forall_mem_cons.mpr ⟨sq232_45, List.forall_mem_cons.mpr ⟨sq232_51, (fun _ h => absurd h List.not_mem_nil)⟩⟩⟩⟩⟩)
theorem sq233_58 : sq 233 58 B233_58 := sq_take 1 (e := 59) (by decide +kernel) True.intro
theorem sq233_52 : sq 233 52 B233_52 := sq_take 3 (e := 58) (by decide +kernel) True.intro
theorem sq233_7 : sq 233 7 B233_7 := sq_take 27 (e := 52) (by decide +kernel) sq233_52
theorem sq233_5 : sq 233 5 B233_5 := sq_take 3 (e := 7) (by decide +kernel) sq233_7
theorem sq233_0 : sq 233 0 B233_0 := sq_take 4 (e := 5) (by decide +kernel) sq233_5
set_option maxRecDepth 100000 in
theorem sqM_233 : ∀ b, sq 233 b (tG 233 b) := show ∀ b, sq 233 b (lkB tb233 b) from lkB_sq (List.forall_mem_cons.mpr ⟨sq233_0, List.forall_mem_cons.mpr ⟨sq233_5, List.forall_mem_cons.mpr ⟨sq233_7, List.forall_mem_cons.mpr ⟨sq233_52, List.forall_mem_cons.mpr ⟨sq233_58, (fun _ h => absurd h List.not_mem_nil)⟩⟩⟩⟩⟩)
theorem sq234_130 : sq 234 130 B234_130 := sq_take 2 (e := 132) (by decide +kernel) True.intro
theorem sq234_124 : sq 234 124 B234_124 := sq_take 2 (e := 130) (by decide +kernel) True.intro
theorem sq234_119 : sq 234 119 B234_119 := sq_take 4 (e := 124) (by decide +kernel) True.intro
theorem sq234_100 : sq 234 100 B234_100 := sq_take 12 (e := 119) (by decide +kernel) sq234_119
theorem sq234_98 : sq 234 98 B234_98 := sq_take 2 (e := 100) (by decide +kernel) sq234_100
theorem sq234_92 : sq 234 92 B234_92 := sq_take 2 (e := 98) (by decide +kernel) True.intro
theorem sq234_87 : sq 234 87 B234_87 := sq_take 4 (e := 92) (by decide +kernel) True.intro
theorem sq234_63 : sq 234 63 B234_63 := sq_take 15 (e := 87) (by decide +kernel) sq234_87
theorem sq234_61 : sq 234 61 B234_61 := sq_take 2 (e := 63) (by decide +kernel) sq234_63
theorem sq234_55 : sq 234 55 B234_55 := sq_take 2 (e := 61) (by decide +kernel) True.intro
theorem sq234_30 : sq 234 30 B234_30 := sq_take 16 (e := 55) (by decide +kernel) True.intro
theorem sq234_24 : sq 234 24 B234_24 := sq_take 6 (e := 30) (by decide +kernel) sq234_30
theorem sq234_22 : sq 234 22 B234_22 := sq_take 2 (e := 24) (by decide +kernel) True.intro
theorem sq234_0 : sq 234 0 B234_0 := sq_take 11 (e := 22) (by decide +kernel) sq234_22
set_option maxRecDepth 100000 in
theorem sqM_234 : ∀ b, sq 234 b (tG 234 b) := show ∀ b, sq 234 b (lkB tb234 b) from lkB_sq (List.forall_mem_cons.mpr ⟨sq234_0, List.forall_mem_cons.mpr ⟨sq234_22, List.forall_mem_cons.mpr ⟨sq234_24, List.forall_mem_cons.mpr ⟨sq234_30, List.forall_mem_cons.mpr ⟨sq234_55, List.forall_mem_cons.mpr ⟨sq234_61, List.forall_mem_cons.mpr ⟨sq234_63, List.forall_mem_cons.mpr ⟨sq234_87, List.forall_mem_cons.mpr ⟨sq234_92, List.forall_mem_cons.mpr ⟨sq234_98, List.forall_mem_cons.mpr ⟨sq234_100, List.forall_mem_cons.mpr ⟨sq234_119, List.forall_mem_cons.mpr ⟨sq234_124, List.forall_mem_cons.mpr ⟨sq234_130, (fun _ h => absurd h List.not_mem_nil)⟩⟩⟩⟩⟩⟩⟩⟩⟩⟩⟩⟩⟩⟩)
theorem sq235_165 : sq 235 165 B235_165 := sq_take 1 (e := 166) (by decide +kernel) True.intro
theorem sq235_164 : sq 235 164 B235_164 := sq_take 2 (e := 165) (by decide +kernel) sq235_165
theorem sq235_157 : sq 235 157 B235_157 := sq_take 4 (e := 164) (by decide +kernel) True.intro
theorem sq235_130 : sq 235 130 B235_130 := sq_take 18 (e := 157) (by decide +kernel) sq235_157
theorem sq235_55 : sq 235 55 B235_55 := sq_take 47 (e := 130) (by decide +kernel) sq235_130
theorem sq235_54 : sq 235 54 B235_54 := sq_take 2 (e := 55) (by decide +kernel) True.intro
theorem sq235_39 : sq 235 39 B235_39 := sq_take 8 (e := 54) (by decide +kernel) sq235_54
theorem sq235_24 : sq 235 24 B235_24 := sq_take 10 (e := 39) (by decide +kernel) True.intro
theorem sq235_23 : sq 235 23 B235_23 := sq_take 2 (e := 24) (by decide +kernel) True.intro
theorem sq235_0 : sq 235 0 B235_0 := sq_take 14 (e := 23) (by decide +kernel) sq235_23
set_option maxRecDepth 100000 in
theorem sqM_235 : ∀ b, sq 235 b (tG 235 b) := show ∀ b, sq 235 b (lkB tb235 b) from lkB_sq (List.forall_mem_cons.mpr ⟨sq235_0, List.forall_mem_cons.mpr ⟨sq235_23, List.forall_mem_cons.mpr ⟨sq235_24, List.forall_mem_cons.mpr ⟨sq235_39, List.forall_mem_cons.mpr ⟨sq235_54, List.forall_mem_cons.mpr ⟨sq235_55, List.forall_mem_cons.mpr ⟨sq235_130, List.forall_mem_cons.mpr ⟨sq235_157, List.forall_mem_cons.mpr ⟨sq235_164, List.forall_mem_cons.mpr ⟨sq235_165, (fun _ h => absurd h List.not_mem_nil)⟩⟩⟩⟩⟩⟩⟩⟩⟩⟩)
