theorem lkB_sq {m : Nat} : ∀ {t : List (Nat × List Ins)}, (∀ q ∈ t, sq m q.1 q.2) → ∀ b, sq m b (lkB t b)
  | [], _, _ => True.intro
  | q :: t, h, b => by
    rw [lkB]
    split
    · rename_i e
      rw [e]
      exact h q List.mem_cons_self
    · exact lkB_sq (fun x hx => h x (List.mem_cons_of_mem _ hx)) b
theorem sq0_0 : sq 0 0 B0_0 := sq_take 6 (e := 7) (by decide +kernel) True.intro
set_option maxRecDepth 100000 in
theorem sqM_0 : ∀ b, sq 0 b (tG 0 b) := show ∀ b, sq 0 b (lkB tb0 b) from lkB_sq (List.forall_mem_cons.mpr ⟨sq0_0, (fun _ h => absurd h List.not_mem_nil)⟩)
theorem sq1_0 : sq 1 0 B1_0 := sq_take 8 (e := 9) (by decide +kernel) True.intro
set_option maxRecDepth 100000 in
theorem sqM_1 : ∀ b, sq 1 b (tG 1 b) := show ∀ b, sq 1 b (lkB tb1 b) from lkB_sq (List.forall_mem_cons.mpr ⟨sq1_0, (fun _ h => absurd h List.not_mem_nil)⟩)
theorem sq2_0 : sq 2 0 B2_0 := sq_take 8 (e := 9) (by decide +kernel) True.intro
set_option maxRecDepth 100000 in
theorem sqM_2 : ∀ b, sq 2 b (tG 2 b) := show ∀ b, sq 2 b (lkB tb2 b) from lkB_sq (List.forall_mem_cons.mpr ⟨sq2_0, (fun _ h => absurd h List.not_mem_nil)⟩)
theorem sq3_0 : sq 3 0 B3_0 := sq_take 7 (e := 7) (by decide +kernel) True.intro
set_option maxRecDepth 100000 in
theorem sqM_3 : ∀ b, sq 3 b (tG 3 b) := show ∀ b, sq 3 b (lkB tb3 b) from lkB_sq (List.forall_mem_cons.mpr ⟨sq3_0, (fun _ h => absurd h List.not_mem_nil)⟩)
theorem sq4_0 : sq 4 0 B4_0 := sq_take 6 (e := 6) (by decide +kernel) True.intro
set_option maxRecDepth 100000 in
theorem sqM_4 : ∀ b, sq 4 b (tG 4 b) := show ∀ b, sq 4 b (lkB tb4 b) from lkB_sq (List.forall_mem_cons.mpr ⟨sq4_0, (fun _ h => absurd h List.not_mem_nil)⟩)
theorem sq5_46 : sq 5 46 B5_46 := sq_take 2 (e := 49) (by decide +kernel) True.intro
theorem sq5_44 : sq 5 44 B5_44 := sq_take 2 (e := 46) (by decide +kernel) True.intro
theorem sq5_42 : sq 5 42 B5_42 := sq_take 2 (e := 44) (by decide +kernel) True.intro
theorem sq5_40 : sq 5 40 B5_40 := sq_take 2 (e := 42) (by decide +kernel) True.intro
theorem sq5_0 : sq 5 0 B5_0 := sq_take 5 (e := 40) (by decide +kernel) True.intro
set_option maxRecDepth 100000 in
theorem sqM_5 : ∀ b, sq 5 b (tG 5 b) := show ∀ b, sq 5 b (lkB tb5 b) from lkB_sq (List.forall_mem_cons.mpr ⟨sq5_0, List.forall_mem_cons.mpr ⟨sq5_40, List.forall_mem_cons.mpr ⟨sq5_42, List.forall_mem_cons.mpr ⟨sq5_44, List.forall_mem_cons.mpr ⟨sq5_46, (fun _ h => absurd h List.not_mem_nil)⟩⟩⟩⟩⟩)
theorem sq6_50 : sq 6 50 B6_50 := sq_take 1 (e := 51) (by decide +kernel) True.intro
theorem sq6_49 : sq 6 49 B6_49 := sq_take 1 (e := 50) (by decide +kernel) sq6_50
theorem sq6_42 : sq 6 42 B6_42 := sq_take 4 (e := 49) (by decide +kernel) True.intro
theorem sq6_38 : sq 6 38 B6_38 := sq_take 2 (e := 42) (by decide +kernel) sq6_42
theorem sq6_37 : sq 6 37 B6_37 := sq_take 1 (e := 38) (by decide +kernel) True.intro
theorem sq6_36 : sq 6 36 B6_36 := sq_take 2 (e := 37) (by decide +kernel) sq6_37
theorem sq6_29 : sq 6 29 B6_29 := sq_take 4 (e := 36) (by decide +kernel) True.intro
theorem sq6_8 : sq 6 8 B6_8 := sq_take 15 (e := 29) (by decide +kernel) sq6_29
theorem sq6_0 : sq 6 0 B6_0 := sq_take 7 (e := 8) (by decide +kernel) sq6_8
set_option maxRecDepth 100000 in
theorem sqM_6 : ∀ b, sq 6 b (tG 6 b) := show ∀ b, sq 6 b (lkB tb6 b) from lkB_sq (List.forall_mem_cons.mpr ⟨sq6_0, List.forall_mem_cons.mpr ⟨sq6_8, List.forall_mem_cons.mpr ⟨sq6_29, List.forall_mem_cons.mpr ⟨sq6_36, List.forall_mem_cons.mpr ⟨sq6_37, List.forall_mem_cons.mpr ⟨sq6_38, List.forall_mem_cons.mpr ⟨sq6_42, List.forall_mem_cons.mpr ⟨sq6_49, List.forall_mem_cons.mpr ⟨sq6_50, (fun _ h => absurd h List.not_mem_nil)⟩⟩⟩⟩⟩⟩⟩⟩⟩)
theorem sq7_85 : sq 7 85 B7_85 := sq_take 1 (e := 86) (by decide +kernel) True.intro
theorem sq7_84 : sq 7 84 B7_84 := sq_take 1 (e := 85) (by decide +kernel) sq7_85
theorem sq7_77 : sq 7 77 B7_77 := sq_take 4 (e := 84) (by decide +kernel) True.intro
theorem sq7_73 : sq 7 73 B7_73 := sq_take 2 (e := 77) (by decide +kernel) sq7_77
theorem sq7_72 : sq 7 72 B7_72 := sq_take 1 (e := 73) (by decide +kernel) True.intro
theorem sq7_71 : sq 7 71 B7_71 := sq_take 2 (e := 72) (by decide +kernel) sq7_72
theorem sq7_56 : sq 7 56 B7_56 := sq_take 9 (e := 71) (by decide +kernel) True.intro
theorem sq7_49 : sq 7 49 B7_49 := sq_take 4 (e := 56) (by decide +kernel) sq7_56
theorem sq7_41 : sq 7 41 B7_41 := sq_take 5 (e := 49) (by decide +kernel) sq7_49
theorem sq7_37 : sq 7 37 B7_37 := sq_take 2 (e := 41) (by decide +kernel) sq7_41
theorem sq7_35 : sq 7 35 B7_35 := sq_take 2 (e := 37) (by decide +kernel) True.intro
theorem sq7_22 : sq 7 22 B7_22 := sq_take 8 (e := 35) (by decide +kernel) sq7_35
theorem sq7_13 : sq 7 13 B7_13 := sq_take 5 (e := 22) (by decide +kernel) sq7_22
theorem sq7_4 : sq 7 4 B7_4 := sq_take 5 (e := 13) (by decide +kernel) sq7_13
theorem sq7_0 : sq 7 0 B7_0 := sq_take 3 (e := 4) (by decide +kernel) sq7_4
set_option maxRecDepth 100000 in
theorem sqM_7 : ∀ b, sq 7 b (tG 7 b) := show ∀ b, sq 7 b (lkB tb7 b) from lkB_sq (List.forall_mem_cons.mpr ⟨sq7_0, List.forall_mem_cons.mpr ⟨sq7_4, List.forall_mem_cons.mpr ⟨sq7_13, List.forall_mem_cons.mpr ⟨sq7_22, List.forall_mem_cons.mpr ⟨sq7_35, List.forall_mem_cons.mpr ⟨sq7_37, List.forall_mem_cons.mpr ⟨sq7_41, List.forall_mem_cons.mpr ⟨sq7_49, List.forall_mem_cons.mpr ⟨sq7_56, List.forall_mem_cons.mpr ⟨sq7_71, List.forall_mem_cons.mpr ⟨sq7_72, List.forall_mem_cons.mpr ⟨sq7_73, List.forall_mem_cons.mpr ⟨sq7_77, List.forall_mem_cons.mpr ⟨sq7_84, List.forall_mem_cons.mpr ⟨sq7_85, (fun _ h => absurd h List.not_mem_nil)⟩⟩⟩⟩⟩⟩⟩⟩⟩⟩⟩⟩⟩⟩⟩)
theorem sq8_63 : sq 8 63 B8_63 := sq_take 2 (e := 65) (by decide +kernel) True.intro
theorem sq8_62 : sq 8 62 B8_62 := sq_take 2 (e := 63) (by decide +kernel) True.intro
theorem sq8_58 : sq 8 58 B8_58 := sq_take 2 (e := 62) (by decide +kernel) sq8_62
theorem sq8_57 : sq 8 57 B8_57 := sq_take 2 (e := 58) (by decide +kernel) True.intro
theorem sq8_53 : sq 8 53 B8_53 := sq_take 2 (e := 57) (by decide +kernel) sq8_57
theorem sq8_52 : sq 8 52 B8_52 := sq_take 2 (e := 53) (by decide +kernel) True.intro
theorem sq8_48 : sq 8 48 B8_48 := sq_take 2 (e := 52) (by decide +kernel) sq8_52
theorem sq8_4 : sq 8 4 B8_4 := sq_take 4 (e := 48) (by decide +kernel) True.intro
theorem sq8_0 : sq 8 0 B8_0 := sq_take 3 (e := 4) (by decide +kernel) sq8_4
set_option maxRecDepth 100000 in
theorem sqM_8 : ∀ b, sq 8 b (tG 8 b) := show ∀ b, sq 8 b (lkB tb8 b) from lkB_sq (List.forall_mem_cons.mpr ⟨sq8_0, List.forall_mem_cons.mpr ⟨sq8_4, List.forall_mem_cons.mpr ⟨sq8_48, List.forall_mem_cons.mpr ⟨sq8_52, List.forall_mem_cons.mpr ⟨sq8_53, List.forall_mem_cons.mpr ⟨sq8_57, List.forall_mem_cons.mpr ⟨sq8_58, List.forall_mem_cons.mpr ⟨sq8_62, List.forall_mem_cons.mpr ⟨sq8_63, (fun _ h => absurd h List.not_mem_nil)⟩⟩⟩⟩⟩⟩⟩⟩⟩)
theorem sq9_371 : sq 9 371 B9_371 := sq_take 1 (e := 372) (by decide +kernel) True.intro
theorem sq9_370 : sq 9 370 B9_370 := sq_take 1 (e := 371) (by decide +kernel) sq9_371
theorem sq9_363 : sq 9 363 B9_363 := sq_take 4 (e := 370) (by decide +kernel) True.intro
theorem sq9_359 : sq 9 359 B9_359 := sq_take 2 (e := 363) (by decide +kernel) sq9_363
theorem sq9_358 : sq 9 358 B9_358 := sq_take 1 (e := 359) (by decide +kernel) True.intro
theorem sq9_357 : sq 9 357 B9_357 := sq_take 2 (e := 358) (by decide +kernel) sq9_358
theorem sq9_353 : sq 9 353 B9_353 := sq_take 3 (e := 357) (by decide +kernel) True.intro
theorem sq9_348 : sq 9 348 B9_348 := sq_take 3 (e := 353) (by decide +kernel) sq9_353
theorem sq9_334 : sq 9 334 B9_334 := sq_take 7 (e := 348) (by decide +kernel) sq9_348
theorem sq9_325 : sq 9 325 B9_325 := sq_take 5 (e := 334) (by decide +kernel) sq9_334
theorem sq9_313 : sq 9 313 B9_313 := sq_take 6 (e := 325) (by decide +kernel) sq9_325
theorem sq9_309 : sq 9 309 B9_309 := sq_take 2 (e := 313) (by decide +kernel) sq9_313
theorem sq9_308 : sq 9 308 B9_308 := sq_take 1 (e := 309) (by decide +kernel) True.intro
theorem sq9_307 : sq 9 307 B9_307 := sq_take 2 (e := 308) (by decide +kernel) sq9_308
theorem sq9_290 : sq 9 290 B9_290 := sq_take 8 (e := 307) (by decide +kernel) True.intro
theorem sq9_286 : sq 9 286 B9_286 := sq_take 2 (e := 290) (by decide +kernel) sq9_290
theorem sq9_285 : sq 9 285 B9_285 := sq_take 1 (e := 286) (by decide +kernel) True.intro
theorem sq9_284 : sq 9 284 B9_284 := sq_take 2 (e := 285) (by decide +kernel) sq9_285
theorem sq9_277 : sq 9 277 B9_277 := sq_take 4 (e := 284) (by decide +kernel) True.intro
theorem sq9_275 : sq 9 275 B9_275 := sq_take 1 (e := 277) (by decide +kernel) sq9_277
theorem sq9_255 : sq 9 255 B9_255 := sq_take 9 (e := 275) (by decide +kernel) True.intro
theorem sq9_251 : sq 9 251 B9_251 := sq_take 2 (e := 255) (by decide +kernel) sq9_255
theorem sq9_250 : sq 9 250 B9_250 := sq_take 1 (e := 251) (by decide +kernel) True.intro
theorem sq9_249 : sq 9 249 B9_249 := sq_take 2 (e := 250) (by decide +kernel) sq9_250
theorem sq9_245 : sq 9 245 B9_245 := sq_take 3 (e := 249) (by decide +kernel) True.intro
theorem sq9_235 : sq 9 235 B9_235 := sq_take 5 (e := 245) (by decide +kernel) sq9_245
theorem sq9_231 : sq 9 231 B9_231 := sq_take 3 (e := 235) (by decide +kernel) sq9_235
theorem sq9_224 : sq 9 224 B9_224 := sq_take 4 (e := 231) (by decide +kernel) sq9_231
theorem sq9_220 : sq 9 220 B9_220 := sq_take 2 (e := 224) (by decide +kernel) sq9_224
theorem sq9_151 : sq 9 151 B9_151 := sq_take 3 (e := 220) (by decide +kernel) True.intro
theorem sq9_149 : sq 9 149 B9_149 := sq_take 2 (e := 151) (by decide +kernel) True.intro
theorem sq9_146 : sq 9 146 B9_146 := sq_take 2 (e := 149) (by decide +kernel) sq9_149
theorem sq9_142 : sq 9 142 B9_142 := sq_take 2 (e := 146) (by decide +kernel) sq9_146
theorem sq9_129 : sq 9 129 B9_129 := sq_take 6 (e := 142) (by decide +kernel) True.intro
theorem sq9_120 : sq 9 120 B9_120 := sq_take 4 (e := 129) (by decide +kernel) sq9_129
theorem sq9_119 : sq 9 119 B9_119 := sq_take 1 (e := 120) (by decide +kernel) True.intro
theorem sq9_118 : sq 9 118 B9_118 := sq_take 2 (e := 119) (by decide +kernel) sq9_119
theorem sq9_114 : sq 9 114 B9_114 := sq_take 3 (e := 118) (by decide +kernel) True.intro
theorem sq9_90 : sq 9 90 B9_90 := sq_take 11 (e := 114) (by decide +kernel) sq9_114
theorem sq9_83 : sq 9 83 B9_83 := sq_take 4 (e := 90) (by decide +kernel) sq9_90
theorem sq9_65 : sq 9 65 B9_65 := sq_take 8 (e := 83) (by decide +kernel) sq9_83
theorem sq9_63 : sq 9 63 B9_63 := sq_take 2 (e := 65) (by decide +kernel) True.intro
theorem sq9_51 : sq 9 51 B9_51 := sq_take 6 (e := 63) (by decide +kernel) sq9_63
theorem sq9_45 : sq 9 45 B9_45 := sq_take 4 (e := 51) (by decide +kernel) sq9_51
theorem sq9_39 : sq 9 39 B9_39 := sq_take 4 (e := 45) (by decide +kernel) sq9_45
theorem sq9_38 : sq 9 38 B9_38 := sq_take 1 (e := 39) (by decide +kernel) sq9_39
theorem sq9_25 : sq 9 25 B9_25 := sq_take 8 (e := 38) (by decide +kernel) True.intro
theorem sq9_24 : sq 9 24 B9_24 := sq_take 1 (e := 25) (by decide +kernel) sq9_25
theorem sq9_4 : sq 9 4 B9_4 := sq_take 13 (e := 24) (by decide +kernel) True.intro
theorem sq9_0 : sq 9 0 B9_0 := sq_take 3 (e := 4) (by decide +kernel) sq9_4
set_option maxRecDepth 100000 in
theorem sqM_9 : ∀ b, sq 9 b (tG 9 b) := show ∀ b, sq 9 b (lkB tb9 b) from lkB_sq (List.forall_mem_cons.mpr ⟨sq9_0, List.forall_mem_cons.mpr ⟨sq9_4, List.forall_mem_cons.mpr ⟨sq9_24, List.forall_mem_cons.mpr ⟨sq9_25, List.forall_mem_cons.mpr ⟨sq9_38, List.forall_mem_cons.mpr ⟨sq9_39, List.forall_mem_cons.mpr ⟨sq9_45, List.forall_mem_cons.mpr ⟨sq9_51, List.forall_mem_cons.mpr ⟨sq9_63, List.forall_mem_cons.mpr ⟨sq9_65, List.forall_mem_cons.mpr ⟨sq9_83, List.forall_mem_cons.mpr ⟨sq9_90, List.forall_mem_cons.mpr ⟨sq9_114, List.forall_mem_cons.mpr ⟨sq9_118, List.forall_mem_cons.mpr ⟨sq9_119, List.forall_mem_cons.mpr ⟨sq9_120, List.forall_mem_cons.mpr ⟨sq9_129, List.forall_mem_cons.mpr ⟨sq9_142, List.forall_mem_cons.mpr ⟨sq9_146, List.forall_mem_cons.mpr ⟨sq9_149, List.forall_mem_cons.mpr ⟨sq9_151, List.forall_mem_cons.mpr ⟨sq9_220, List.forall_mem_cons.mpr ⟨sq9_224, List.forall_mem_cons.mpr ⟨sq9_231, List.forall_mem_cons.mpr ⟨sq9_235, List.forall_mem_cons.mpr ⟨sq9_245, List.forall_mem_cons.mpr ⟨sq9_249, List.forall_mem_cons.mpr ⟨sq9_250, List.forall_mem_cons.mpr ⟨sq9_251, List.forall_mem_cons.mpr ⟨sq9_255, List.forall_mem_cons.mpr ⟨sq9_275, List.forall_mem_cons.mpr ⟨sq9_277, List.forall_mem_cons.mpr ⟨sq9_284, List.forall_mem_cons.mpr ⟨sq9_285, List.forall_mem_cons.mpr ⟨sq9_286, List.forall_mem_cons.mpr ⟨sq9_290, List.forall_mem_cons.mpr ⟨sq9_307, List.forall_mem_cons.mpr ⟨sq9_308, List.forall_mem_cons.mpr ⟨sq9_309, List.forall_mem_cons.mpr ⟨sq9_313, List.forall_mem_cons.mpr ⟨sq9_325, List.forall_mem_cons.mpr ⟨sq9_334, List.forall_mem_cons.mpr ⟨sq9_348, List.forall_mem_cons.mpr ⟨sq9_353, List.forall_mem_cons.mpr ⟨sq9_357, List.forall_mem_cons.mpr ⟨sq9_358, List.forall_mem_cons.mpr ⟨sq9_359, List.forall_mem_cons.mpr ⟨sq9_363, List.forall_mem_cons.mpr ⟨sq9_370, List.forall_mem_cons.mpr ⟨sq9_371, (fun _ h => absurd h List.not_mem_nil)⟩⟩⟩⟩⟩⟩⟩⟩⟩⟩⟩⟩⟩⟩⟩⟩⟩⟩⟩⟩⟩⟩⟩⟩⟩⟩⟩⟩⟩⟩⟩⟩⟩⟩⟩⟩⟩⟩⟩⟩⟩⟩⟩⟩⟩⟩⟩⟩⟩⟩)
theorem sq10_243 : sq 10 243 B10_243 := sq_take 1 (e := 244) (by decide +kernel) True.intro
theorem sq10_242 : sq 10 242 B10_242 := sq_take 1 (e := 243) (by decide +kernel) sq10_243
theorem sq10_235 : sq 10 235 B10_235 := sq_take 4 (e := 242) (by decide +kernel) True.intro
theorem sq10_231 : sq 10 231 B10_231 := sq_take 2 (e := 235) (by decide +kernel) sq10_235
theorem sq10_227 : sq 10 227 B10_227 := sq_take 3 (e := 231) (by decide +kernel) True.intro
theorem sq10_220 : sq 10 220 B10_220 := sq_take 4 (e := 227) (by decide +kernel) True.intro
theorem sq10_211 : sq 10 211 B10_211 := sq_take 5 (e := 220) (by decide +kernel) sq10_220
theorem sq10_200 : sq 10 200 B10_200 := sq_take 6 (e := 211) (by decide +kernel) sq10_211
theorem sq10_198 : sq 10 198 B10_198 := sq_take 2 (e := 200) (by decide +kernel) True.intro
theorem sq10_193 : sq 10 193 B10_193 := sq_take 3 (e := 198) (by decide +kernel) sq10_198
theorem sq10_158 : sq 10 158 B10_158 := sq_take 17 (e := 193) (by decide +kernel) sq10_193
theorem sq10_157 : sq 10 157 B10_157 := sq_take 1 (e := 158) (by decide +kernel) True.intro
theorem sq10_156 : sq 10 156 B10_156 := sq_take 1 (e := 157) (by decide +kernel) sq10_157
theorem sq10_144 : sq 10 144 B10_144 := sq_take 6 (e := 156) (by decide +kernel) True.intro
theorem sq10_143 : sq 10 143 B10_143 := sq_take 1 (e := 144) (by decide +kernel) True.intro
theorem sq10_142 : sq 10 142 B10_142 := sq_take 2 (e := 143) (by decide +kernel) sq10_143
theorem sq10_138 : sq 10 138 B10_138 := sq_take 3 (e := 142) (by decide +kernel) True.intro
theorem sq10_135 : sq 10 135 B10_135 := sq_take 2 (e := 138) (by decide +kernel) sq10_138
theorem sq10_128 : sq 10 128 B10_128 := sq_take 4 (e := 135) (by decide +kernel) sq10_135
theorem sq10_120 : sq 10 120 B10_120 := sq_take 5 (e := 128) (by decide +kernel) sq10_128
theorem sq10_113 : sq 10 113 B10_113 := sq_take 4 (e := 120) (by decide +kernel) sq10_120
theorem sq10_106 : sq 10 106 B10_106 := sq_take 4 (e := 113) (by decide +kernel) sq10_113
theorem sq10_102 : sq 10 102 B10_102 := sq_take 2 (e := 106) (by decide +kernel) sq10_106
theorem sq10_101 : sq 10 101 B10_101 := sq_take 1 (e := 102) (by decide +kernel) True.intro
theorem sq10_100 : sq 10 100 B10_100 := sq_take 2 (e := 101) (by decide +kernel) sq10_101
theorem sq10_93 : sq 10 93 B10_93 := sq_take 4 (e := 100) (by decide +kernel) True.intro
theorem sq10_86 : sq 10 86 B10_86 := sq_take 4 (e := 93) (by decide +kernel) sq10_93
theorem sq10_79 : sq 10 79 B10_79 := sq_take 4 (e := 86) (by decide +kernel) sq10_86
theorem sq10_75 : sq 10 75 B10_75 := sq_take 2 (e := 79) (by decide +kernel) sq10_79
theorem sq10_74 : sq 10 74 B10_74 := sq_take 1 (e := 75) (by decide +kernel) True.intro
theorem sq10_73 : sq 10 73 B10_73 := sq_take 2 (e := 74) (by decide +kernel) sq10_74
theorem sq10_66 : sq 10 66 B10_66 := sq_take 4 (e := 73) (by decide +kernel) True.intro
theorem sq10_59 : sq 10 59 B10_59 := sq_take 4 (e := 66) (by decide +kernel) sq10_66
theorem sq10_52 : sq 10 52 B10_52 := sq_take 4 (e := 59) (by decide +kernel) sq10_59
theorem sq10_48 : sq 10 48 B10_48 := sq_take 2 (e := 52) (by decide +kernel) sq10_52
theorem sq10_4 : sq 10 4 B10_4 := sq_take 4 (e := 48) (by decide +kernel) True.intro
theorem sq10_0 : sq 10 0 B10_0 := sq_take 3 (e := 4) (by decide +kernel) sq10_4
set_option maxRecDepth 100000 in
theorem sqM_10 : ∀ b, sq 10 b (tG 10 b) := show ∀ b, sq 10 b (lkB tb10 b) from lkB_sq (List.forall_mem_cons.mpr ⟨sq10_0, List.forall_mem_cons.mpr ⟨sq10_4, List.forall_mem_cons.mpr ⟨sq10_48, List.forall_mem_cons.mpr ⟨sq10_52, List.forall_mem_cons.mpr ⟨sq10_59, List.forall_mem_cons.mpr ⟨sq10_66, List.forall_mem_cons.mpr ⟨sq10_73, List.forall_mem_cons.mpr ⟨sq10_74, List.forall_mem_cons.mpr ⟨sq10_75, List.forall_mem_cons.mpr ⟨sq10_79, List.forall_mem_cons.mpr ⟨sq10_86, List.forall_mem_cons.mpr ⟨sq10_93, List.forall_mem_cons.mpr ⟨sq10_100, List.forall_mem_cons.mpr ⟨sq10_101, List.forall_mem_cons.mpr ⟨sq10_102, List.forall_mem_cons.mpr ⟨sq10_106, List.forall_mem_cons.mpr ⟨sq10_113, List.forall_mem_cons.mpr ⟨sq10_120, List.forall_mem_cons.mpr ⟨sq10_128, List.forall_mem_cons.mpr ⟨sq10_135, List.forall_mem_cons.mpr ⟨sq10_138, List.forall_mem_cons.mpr ⟨sq10_142, List.forall_mem_cons.mpr ⟨sq10_143, List.forall_mem_cons.mpr ⟨sq10_144, List.forall_mem_cons.mpr ⟨sq10_156, List.forall_mem_cons.mpr ⟨sq10_157, List.forall_mem_cons.mpr ⟨sq10_158, List.forall_mem_cons.mpr ⟨sq10_193, List.forall_mem_cons.mpr ⟨sq10_198, List.forall_mem_cons.mpr ⟨sq10_200, List.forall_mem_cons.mpr ⟨sq10_211, List.forall_mem_cons.mpr ⟨sq10_220, List.forall_mem_cons.mpr ⟨sq10_227, List.forall_mem_cons.mpr ⟨sq10_231, List.forall_mem_cons.mpr ⟨sq10_235, List.forall_mem_cons.mpr ⟨sq10_242, List.forall_mem_cons.mpr ⟨sq10_243, (fun _ h => absurd h List.not_mem_nil)⟩⟩⟩⟩⟩⟩⟩⟩⟩⟩⟩⟩⟩⟩⟩⟩⟩⟩⟩⟩⟩⟩⟩⟩⟩⟩⟩⟩⟩⟩⟩⟩⟩⟩⟩⟩⟩)
theorem sq11_191 : sq 11 191 B11_191 := sq_take 1 (e := 192) (by decide +kernel) True.intro
theorem sq11_190 : sq 11 190 B11_190 := sq_take 2 (e := 191) (by decide +kernel) sq11_191
theorem sq11_183 : sq 11 183 B11_183 := sq_take 4 (e := 190) (by decide +kernel) True.intro
theorem sq11_180 : sq 11 180 B11_180 := sq_take 2 (e := 183) (by decide +kernel) sq11_183
theorem sq11_176 : sq 11 176 B11_176 := sq_take 3 (e := 180) (by decide +kernel) sq11_180
theorem sq11_172 : sq 11 172 B11_172 := sq_take 3 (e := 176) (by decide +kernel) sq11_176
theorem sq11_158 : sq 11 158 B11_158 := sq_take 6 (e := 172) (by decide +kernel) sq11_172
theorem sq11_157 : sq 11 157 B11_157 := sq_take 1 (e := 158) (by decide +kernel) True.intro
theorem sq11_156 : sq 11 156 B11_156 := sq_take 1 (e := 157) (by decide +kernel) sq11_157
theorem sq11_149 : sq 11 149 B11_149 := sq_take 4 (e := 156) (by decide +kernel) True.intro
theorem sq11_139 : sq 11 139 B11_139 := sq_take 5 (e := 149) (by decide +kernel) sq11_149
theorem sq11_137 : sq 11 137 B11_137 := sq_take 2 (e := 139) (by decide +kernel) True.intro
theorem sq11_132 : sq 11 132 B11_132 := sq_take 3 (e := 137) (by decide +kernel) sq11_137
theorem sq11_123 : sq 11 123 B11_123 := sq_take 5 (e := 132) (by decide +kernel) sq11_132
theorem sq11_119 : sq 11 119 B11_119 := sq_take 2 (e := 123) (by decide +kernel) sq11_123
theorem sq11_118 : sq 11 118 B11_118 := sq_take 1 (e := 119) (by decide +kernel) True.intro
theorem sq11_117 : sq 11 117 B11_117 := sq_take 2 (e := 118) (by decide +kernel) sq11_118
theorem sq11_110 : sq 11 110 B11_110 := sq_take 4 (e := 117) (by decide +kernel) True.intro
theorem sq11_101 : sq 11 101 B11_101 := sq_take 5 (e := 110) (by decide +kernel) sq11_110
theorem sq11_91 : sq 11 91 B11_91 := sq_take 5 (e := 101) (by decide +kernel) sq11_101
theorem sq11_90 : sq 11 90 B11_90 := sq_take 1 (e := 91) (by decide +kernel) True.intro
theorem sq11_89 : sq 11 89 B11_89 := sq_take 2 (e := 90) (by decide +kernel) sq11_90
theorem sq11_82 : sq 11 82 B11_82 := sq_take 4 (e := 89) (by decide +kernel) True.intro
theorem sq11_73 : sq 11 73 B11_73 := sq_take 5 (e := 82) (by decide +kernel) sq11_82
theorem sq11_64 : sq 11 64 B11_64 := sq_take 5 (e := 73) (by decide +kernel) sq11_73
theorem sq11_60 : sq 11 60 B11_60 := sq_take 3 (e := 64) (by decide +kernel) sq11_64
theorem sq11_40 : sq 11 40 B11_40 := sq_take 9 (e := 60) (by decide +kernel) sq11_60
theorem sq11_4 : sq 11 4 B11_4 := sq_take 10 (e := 40) (by decide +kernel) True.intro
theorem sq11_0 : sq 11 0 B11_0 := sq_take 3 (e := 4) (by decide +kernel) sq11_4
set_option maxRecDepth 100000 in
theorem sqM_11 : ∀ b, sq 11 b (tG 11 b) := show ∀ b, sq 11 b (lkB tb11 b) from lkB_sq (List.forall_mem_cons.mpr ⟨sq11_0, List.forall_mem_cons.mpr ⟨sq11_4, List.forall_mem_cons.mpr ⟨sq11_40, List.forall_mem_cons.mpr ⟨sq11_60, List.forall_mem_cons.mpr ⟨sq11_64, List.forall_mem_cons.mpr ⟨sq11_73, List.forall_mem_cons.mpr ⟨sq11_82, List.forall_mem_cons.mpr ⟨sq11_89, List.forall_mem_cons.mpr ⟨sq11_90, List.forall_mem_cons.mpr ⟨sq11_91, List.forall_mem_cons.mpr ⟨sq11_101, List.forall_mem_cons.mpr ⟨sq11_110, List.forall_mem_cons.mpr ⟨sq11_117, List.forall_mem_cons.mpr ⟨sq11_118, List.forall_mem_cons.mpr ⟨sq11_119, List.forall_mem_cons.mpr ⟨sq11_123, List.forall_mem_cons.mpr ⟨sq11_132, List.forall_mem_cons.mpr ⟨sq11_137, List.forall_mem_cons.mpr ⟨sq11_139, List.forall_mem_cons.mpr ⟨sq11_149, List.forall_mem_cons.mpr ⟨sq11_156, List.forall_mem_cons.mpr ⟨sq11_157, List.forall_mem_cons.mpr ⟨sq11_158, List.forall_mem_cons.mpr ⟨sq11_172, List.forall_mem_cons.mpr ⟨sq11_176, List.forall_mem_cons.mpr ⟨sq11_180, List.forall_mem_cons.mpr ⟨sq11_183, List.forall_mem_cons.mpr ⟨sq11_190, List.forall_mem_cons.mpr ⟨sq11_191, (fun _ h => absurd h List.not_mem_nil)⟩⟩⟩⟩⟩⟩⟩⟩⟩⟩⟩⟩⟩⟩⟩⟩⟩⟩⟩⟩⟩⟩⟩⟩⟩⟩⟩⟩⟩)
theorem sq12_106 : sq 12 106 B12_106 := sq_take 2 (e := 108) (by decide +kernel) True.intro
theorem sq12_105 : sq 12 105 B12_105 := sq_take 1 (e := 106) (by decide +kernel) True.intro
theorem sq12_104 : sq 12 104 B12_104 := sq_take 1 (e := 105) (by decide +kernel) sq12_105
theorem sq12_94 : sq 12 94 B12_94 := sq_take 5 (e := 104) (by decide +kernel) True.intro
theorem sq12_92 : sq 12 92 B12_92 := sq_take 2 (e := 94) (by decide +kernel) True.intro
theorem sq12_0 : sq 12 0 B12_0 := sq_take 3 (e := 92) (by decide +kernel) True.intro
set_option maxRecDepth 100000 in
theorem sqM_12 : ∀ b, sq 12 b (tG 12 b) := show ∀ b, sq 12 b (lkB tb12 b) from lkB_sq (List.forall_mem_cons.mpr ⟨sq12_0, List.forall_mem_cons.mpr ⟨sq12_92, List.forall_mem_cons.mpr ⟨sq12_94, List.forall_mem_cons.mpr ⟨sq12_104, List.forall_mem_cons.mpr ⟨sq12_105, List.forall_mem_cons.mpr ⟨sq12_106, (fun _ h => absurd h List.not_mem_nil)⟩⟩⟩⟩⟩⟩)
theorem sq13_44 : sq 13 44 B13_44 := sq_take 1 (e := 45) (by decide +kernel) True.intro
theorem sq13_43 : sq 13 43 B13_43 := sq_take 2 (e := 44) (by decide +kernel) sq13_44
theorem sq13_33 : sq 13 33 B13_33 := sq_take 5 (e := 43) (by decide +kernel) True.intro
theorem sq13_23 : sq 13 23 B13_23 := sq_take 5 (e := 33) (by decide +kernel) sq13_33
theorem sq13_19 : sq 13 19 B13_19 := sq_take 3 (e := 23) (by decide +kernel) sq13_23
theorem sq13_4 : sq 13 4 B13_4 := sq_take 10 (e := 19) (by decide +kernel) sq13_19
theorem sq13_0 : sq 13 0 B13_0 := sq_take 3 (e := 4) (by decide +kernel) sq13_4
set_option maxRecDepth 100000 in
theorem sqM_13 : ∀ b, sq 13 b (tG 13 b) := show ∀ b, sq 13 b (lkB tb13 b) from lkB_sq (List.forall_mem_cons.mpr ⟨sq13_0, List.forall_mem_cons.mpr ⟨sq13_4, List.forall_mem_cons.mpr ⟨sq13_19, List.forall_mem_cons.mpr ⟨sq13_23, List.forall_mem_cons.mpr ⟨sq13_33, List.forall_mem_cons.mpr ⟨sq13_43, List.forall_mem_cons.mpr ⟨sq13_44, (fun _ h => absurd h List.not_mem_nil)⟩⟩⟩⟩⟩⟩⟩)
theorem sq14_23 : sq 14 23 B14_23 := sq_take 1 (e := 24) (by decide +kernel) True.intro
theorem sq14_22 : sq 14 22 B14_22 := sq_take 2 (e := 23) (by decide +kernel) sq14_23
theorem sq14_14 : sq 14 14 B14_14 := sq_take 5 (e := 22) (by decide +kernel) True.intro
theorem sq14_4 : sq 14 4 B14_4 := sq_take 5 (e := 14) (by decide +kernel) sq14_14
theorem sq14_0 : sq 14 0 B14_0 := sq_take 3 (e := 4) (by decide +kernel) sq14_4
set_option maxRecDepth 100000 in
theorem sqM_14 : ∀ b, sq 14 b (tG 14 b) := show ∀ b, sq 14 b (lkB tb14 b) from lkB_sq (List.forall_mem_cons.mpr ⟨sq14_0, List.forall_mem_cons.mpr ⟨sq14_4, List.forall_mem_cons.mpr ⟨sq14_14, List.forall_mem_cons.mpr ⟨sq14_22, List.forall_mem_cons.mpr ⟨sq14_23, (fun _ h => absurd h List.not_mem_nil)⟩⟩⟩⟩⟩)
theorem sq15_60 : sq 15 60 B15_60 := sq_take 1 (e := 61) (by decide +kernel) True.intro
theorem sq15_57 : sq 15 57 B15_57 := sq_take 2 (e := 60) (by decide +kernel) sq15_60
theorem sq15_53 : sq 15 53 B15_53 := sq_take 3 (e := 57) (by decide +kernel) True.intro
theorem sq15_34 : sq 15 34 B15_34 := sq_take 13 (e := 53) (by decide +kernel) sq15_53
theorem sq15_30 : sq 15 30 B15_30 := sq_take 2 (e := 34) (by decide +kernel) sq15_34
theorem sq15_27 : sq 15 27 B15_27 := sq_take 2 (e := 30) (by decide +kernel) True.intro
theorem sq15_23 : sq 15 23 B15_23 := sq_take 3 (e := 27) (by decide +kernel) sq15_27
theorem sq15_17 : sq 15 17 B15_17 := sq_take 3 (e := 23) (by decide +kernel) sq15_23
theorem sq15_8 : sq 15 8 B15_8 := sq_take 5 (e := 17) (by decide +kernel) sq15_17
theorem sq15_0 : sq 15 0 B15_0 := sq_take 7 (e := 8) (by decide +kernel) sq15_8
set_option maxRecDepth 100000 in
theorem sqM_15 : ∀ b, sq 15 b (tG 15 b) := show ∀ b, sq 15 b (lkB tb15 b) from lkB_sq (List.forall_mem_cons.mpr ⟨sq15_0, List.forall_mem_cons.mpr ⟨sq15_8, List.forall_mem_cons.mpr ⟨sq15_17, List.forall_mem_cons.mpr ⟨sq15_23, List.forall_mem_cons.mpr ⟨sq15_27, List.forall_mem_cons.mpr ⟨sq15_30, List.forall_mem_cons.mpr ⟨sq15_34, List.forall_mem_cons.mpr ⟨sq15_53, List.forall_mem_cons.mpr ⟨sq15_57, List.forall_mem_cons.mpr ⟨sq15_60, (fun _ h => absurd h List.not_mem_nil)⟩⟩⟩⟩⟩⟩⟩⟩⟩⟩)
theorem sq16_35 : sq 16 35 B16_35 := sq_take 2 (e := 37) (by decide +kernel) True.intro
theorem sq16_7 : sq 16 7 B16_7 := sq_take 18 (e := 35) (by decide +kernel) True.intro
theorem sq16_0 : sq 16 0 B16_0 := sq_take 7 (e := 7) (by decide +kernel) sq16_7
set_option maxRecDepth 100000 in
theorem sqM_16 : ∀ b, sq 16 b (tG 16 b) := show ∀ b, sq 16 b (lkB tb16 b) from lkB_sq (List.forall_mem_cons.mpr ⟨sq16_0, List.forall_mem_cons.mpr ⟨sq16_7, List.forall_mem_cons.mpr ⟨sq16_35, (fun _ h => absurd h List.not_mem_nil)⟩⟩⟩)
theorem sq17_19 : sq 17 19 B17_19 := sq_take 1 (e := 20) (by decide +kernel) True.intro
theorem sq17_18 : sq 17 18 B17_18 := sq_take 1 (e := 19) (by decide +kernel) sq17_19
theorem sq17_0 : sq 17 0 B17_0 := sq_take 11 (e := 18) (by decide +kernel) True.intro
set_option maxRecDepth 100000 in
theorem sqM_17 : ∀ b, sq 17 b (tG 17 b) := show ∀ b, sq 17 b (lkB tb17 b) from lkB_sq (List.forall_mem_cons.mpr ⟨sq17_0, List.forall_mem_cons.mpr ⟨sq17_18, List.forall_mem_cons.mpr ⟨sq17_19, (fun _ h => absurd h List.not_mem_nil)⟩⟩⟩)
theorem sq18_82 : sq 18 82 B18_82 := sq_take 1 (e := 83) (by decide +kernel) True.intro
theorem sq18_80 : sq 18 80 B18_80 := sq_take 1 (e := 82) (by decide +kernel) sq18_82
theorem sq18_73 : sq 18 73 B18_73 := sq_take 5 (e := 80) (by decide +kernel) True.intro
theorem sq18_42 : sq 18 42 B18_42 := sq_take 22 (e := 73) (by decide +kernel) sq18_73
theorem sq18_32 : sq 18 32 B18_32 := sq_take 8 (e := 42) (by decide +kernel) True.intro
theorem sq18_24 : sq 18 24 B18_24 := sq_take 6 (e := 32) (by decide +kernel) True.intro
theorem sq18_23 : sq 18 23 B18_23 := sq_take 1 (e := 24) (by decide +kernel) True.intro
theorem sq18_22 : sq 18 22 B18_22 := sq_take 2 (e := 23) (by decide +kernel) sq18_23
theorem sq18_0 : sq 18 0 B18_0 := sq_take 15 (e := 22) (by decide +kernel) True.intro
set_option maxRecDepth 100000 in
theorem sqM_18 : ∀ b, sq 18 b (tG 18 b) := show ∀ b, sq 18 b (lkB tb18 b) from lkB_sq (List.forall_mem_cons.mpr ⟨sq18_0, List.forall_mem_cons.mpr ⟨sq18_22, List.forall_mem_cons.mpr ⟨sq18_23, List.forall_mem_cons.mpr ⟨sq18_24, List.forall_mem_cons.mpr ⟨sq18_32, List.forall_mem_cons.mpr ⟨sq18_42, List.forall_mem_cons.mpr ⟨sq18_73, List.forall_mem_cons.mpr ⟨sq18_80, List.forall_mem_cons.mpr ⟨sq18_82, (fun _ h => absurd h List.not_mem_nil)⟩⟩⟩⟩⟩⟩⟩⟩⟩)
theorem sq19_25 : sq 19 25 B19_25 := sq_take 1 (e := 26) (by decide +kernel) True.intro
theorem sq19_14 : sq 19 14 B19_14 := sq_take 9 (e := 25) (by decide +kernel) sq19_25
theorem sq19_10 : sq 19 10 B19_10 := sq_take 3 (e := 14) (by decide +kernel) True.intro
theorem sq19_0 : sq 19 0 B19_0 := sq_take 6 (e := 10) (by decide +kernel) sq19_10
set_option maxRecDepth 100000 in
theorem sqM_19 : ∀ b, sq 19 b (tG 19 b) := show ∀ b, sq 19 b (lkB tb19 b) from lkB_sq (List.forall_mem_cons.mpr ⟨sq19_0, List.forall_mem_cons.mpr ⟨sq19_10, List.forall_mem_cons.mpr ⟨sq19_14, List.forall_mem_cons.mpr ⟨sq19_25, (fun _ h => absurd h List.not_mem_nil)⟩⟩⟩⟩)
theorem sq20_422 : sq 20 422 B20_422 := sq_take 1 (e := 423) (by decide +kernel) True.intro
theorem sq20_416 : sq 20 416 B20_416 := sq_take 3 (e := 422) (by decide +kernel) sq20_422
theorem sq20_406 : sq 20 406 B20_406 := sq_take 5 (e := 416) (by decide +kernel) True.intro
theorem sq20_401 : sq 20 401 B20_401 := sq_take 4 (e := 406) (by decide +kernel) sq20_406
theorem sq20_397 : sq 20 397 B20_397 := sq_take 3 (e := 401) (by decide +kernel) sq20_401
theorem sq20_387 : sq 20 387 B20_387 := sq_take 4 (e := 397) (by decide +kernel) True.intro
theorem sq20_382 : sq 20 382 B20_382 := sq_take 3 (e := 387) (by decide +kernel) True.intro
theorem sq20_376 : sq 20 376 B20_376 := sq_take 3 (e := 382) (by decide +kernel) sq20_382
theorem sq20_366 : sq 20 366 B20_366 := sq_take 5 (e := 376) (by decide +kernel) True.intro
theorem sq20_361 : sq 20 361 B20_361 := sq_take 3 (e := 366) (by decide +kernel) True.intro
theorem sq20_357 : sq 20 357 B20_357 := sq_take 4 (e := 361) (by decide +kernel) sq20_361
theorem sq20_348 : sq 20 348 B20_348 := sq_take 4 (e := 357) (by decide +kernel) sq20_357
theorem sq20_345 : sq 20 345 B20_345 := sq_take 2 (e := 348) (by decide +kernel) True.intro
theorem sq20_342 : sq 20 342 B20_342 := sq_take 2 (e := 345) (by decide +kernel) sq20_345
theorem sq20_338 : sq 20 338 B20_338 := sq_take 3 (e := 342) (by decide +kernel) sq20_342
theorem sq20_328 : sq 20 328 B20_328 := sq_take 5 (e := 338) (by decide +kernel) True.intro
theorem sq20_324 : sq 20 324 B20_324 := sq_take 3 (e := 328) (by decide +kernel) sq20_328
theorem sq20_309 : sq 20 309 B20_309 := sq_take 7 (e := 324) (by decide +kernel) True.intro
theorem sq20_301 : sq 20 301 B20_301 := sq_take 4 (e := 309) (by decide +kernel) True.intro
theorem sq20_291 : sq 20 291 B20_291 := sq_take 5 (e := 301) (by decide +kernel) True.intro
theorem sq20_281 : sq 20 281 B20_281 := sq_take 5 (e := 291) (by decide +kernel) True.intro
theorem sq20_271 : sq 20 271 B20_271 := sq_take 5 (e := 281) (by decide +kernel) True.intro
theorem sq20_261 : sq 20 261 B20_261 := sq_take 5 (e := 271) (by decide +kernel) True.intro
theorem sq20_256 : sq 20 256 B20_256 := sq_take 3 (e := 261) (by decide +kernel) True.intro
theorem sq20_249 : sq 20 249 B20_249 := sq_take 3 (e := 256) (by decide +kernel) sq20_256
theorem sq20_246 : sq 20 246 B20_246 := sq_take 2 (e := 249) (by decide +kernel) True.intro
theorem sq20_243 : sq 20 243 B20_243 := sq_take 2 (e := 246) (by decide +kernel) sq20_246
theorem sq20_239 : sq 20 239 B20_239 := sq_take 3 (e := 243) (by decide +kernel) sq20_243
theorem sq20_229 : sq 20 229 B20_229 := sq_take 5 (e := 239) (by decide +kernel) True.intro
theorem sq20_225 : sq 20 225 B20_225 := sq_take 3 (e := 229) (by decide +kernel) sq20_229
theorem sq20_210 : sq 20 210 B20_210 := sq_take 7 (e := 225) (by decide +kernel) True.intro
theorem sq20_200 : sq 20 200 B20_200 := sq_take 5 (e := 210) (by decide +kernel) True.intro
theorem sq20_190 : sq 20 190 B20_190 := sq_take 5 (e := 200) (by decide +kernel) True.intro
theorem sq20_180 : sq 20 180 B20_180 := sq_take 5 (e := 190) (by decide +kernel) True.intro
theorem sq20_65 : sq 20 65 B20_65 := sq_take 7 (e := 180) (by decide +kernel) True.intro
theorem sq20_63 : sq 20 63 B20_63 := sq_take 1 (e := 65) (by decide +kernel) sq20_65
theorem sq20_48 : sq 20 48 B20_48 := sq_take 8 (e := 63) (by decide +kernel) True.intro
theorem sq20_42 : sq 20 42 B20_42 := sq_take 3 (e := 48) (by decide +kernel) sq20_48
theorem sq20_30 : sq 20 30 B20_30 := sq_take 6 (e := 42) (by decide +kernel) True.intro
theorem sq20_25 : sq 20 25 B20_25 := sq_take 3 (e := 30) (by decide +kernel) sq20_30
theorem sq20_14 : sq 20 14 B20_14 := sq_take 6 (e := 25) (by decide +kernel) True.intro
theorem sq20_13 : sq 20 13 B20_13 := sq_take 1 (e := 14) (by decide +kernel) sq20_14
theorem sq20_0 : sq 20 0 B20_0 := sq_take 8 (e := 13) (by decide +kernel) True.intro
set_option maxRecDepth 100000 in
theorem sqM_20 : ∀ b, sq 20 b (tG 20 b) := show ∀ b, sq 20 b (lkB tb20 b) from lkB_sq (List.forall_mem_cons.mpr ⟨sq20_0, List.forall_mem_cons.mpr ⟨sq20_13, List.forall_mem_cons.mpr ⟨sq20_14, List.forall_mem_cons.mpr ⟨sq20_25, List.forall_mem_cons.mpr ⟨sq20_30, List.forall_mem_cons.mpr ⟨sq20_42, List.forall_mem_cons.mpr ⟨sq20_48, List.forall_mem_cons.mpr ⟨sq20_63, List.forall_mem_cons.mpr ⟨sq20_65, List.forall_mem_cons.mpr ⟨sq20_180, List.forall_mem_cons.mpr ⟨sq20_190, List.forall_mem_cons.mpr ⟨sq20_200, List.forall_mem_cons.mpr ⟨sq20_210, List.forall_mem_cons.mpr ⟨sq20_225, List.forall_mem_cons.mpr ⟨sq20_229, List.forall_mem_cons.mpr ⟨sq20_239, List.forall_mem_cons.mpr ⟨sq20_243, List.forall_mem_cons.mpr ⟨sq20_246, List.forall_mem_cons.mpr ⟨sq20_249, List.forall_mem_cons.mpr ⟨sq20_256, List.forall_mem_cons.mpr ⟨sq20_261, List.forall_mem_cons.mpr ⟨sq20_271, List.forall_mem_cons.mpr ⟨sq20_281, List.forall_mem_cons.mpr ⟨sq20_291, List.forall_mem_cons.mpr ⟨sq20_301, List.forall_mem_cons.mpr ⟨sq20_309, List.forall_mem_cons.mpr ⟨sq20_324, List.forall_mem_cons.mpr ⟨sq20_328, List.forall_mem_cons.mpr ⟨sq20_338, List.forall_mem_cons.mpr ⟨sq20_342, List.forall_mem_cons.mpr ⟨sq20_345, List.forall_mem_cons.mpr ⟨sq20_348, List.forall_mem_cons.mpr ⟨sq20_357, List.forall_mem_cons.mpr ⟨sq20_361, List.forall_mem_cons.mpr ⟨sq20_366, List.forall_mem_cons.mpr ⟨sq20_376, List.forall_mem_cons.mpr ⟨sq20_382, List.forall_mem_cons.mpr ⟨sq20_387, List.forall_mem_cons.mpr ⟨sq20_397, List.forall_mem_cons.mpr ⟨sq20_401, List.forall_mem_cons.mpr ⟨sq20_406, List.forall_mem_cons.mpr ⟨sq20_416, List.forall_mem_cons.mpr ⟨sq20_422, (fun _ h => absurd h List.not_mem_nil)⟩⟩⟩⟩⟩⟩⟩⟩⟩⟩⟩⟩⟩⟩⟩⟩⟩⟩⟩⟩⟩⟩⟩⟩⟩⟩⟩⟩⟩⟩⟩⟩⟩⟩⟩⟩⟩⟩⟩⟩⟩⟩⟩)
theorem sq21_6 : sq 21 6 B21_6 := sq_take 5 (e := 10) (by decide +kernel) True.intro
theorem sq21_0 : sq 21 0 B21_0 := sq_take 5 (e := 6) (by decide +kernel) sq21_6
set_option maxRecDepth 100000 in
theorem sqM_21 : ∀ b, sq 21 b (tG 21 b) := show ∀ b, sq 21 b (lkB tb21 b) from lkB_sq (List.forall_mem_cons.mpr ⟨sq21_0, List.forall_mem_cons.mpr ⟨sq21_6, (fun _ h => absurd h List.not_mem_nil)⟩⟩)
theorem sq22_13 : sq 22 13 B22_13 := sq_take 1 (e := 14) (by decide +kernel) True.intro
theorem sq22_10 : sq 22 10 B22_10 := sq_take 3 (e := 13) (by decide +kernel) sq22_13
theorem sq22_0 : sq 22 0 B22_0 := sq_take 7 (e := 10) (by decide +kernel) True.intro
set_option maxRecDepth 100000 in
theorem sqM_22 : ∀ b, sq 22 b (tG 22 b) := show ∀ b, sq 22 b (lkB tb22 b) from lkB_sq (List.forall_mem_cons.mpr ⟨sq22_0, List.forall_mem_cons.mpr ⟨sq22_10, List.forall_mem_cons.mpr ⟨sq22_13, (fun _ h => absurd h List.not_mem_nil)⟩⟩⟩)
theorem sq23_13 : sq 23 13 B23_13 := sq_take 1 (e := 14) (by decide +kernel) True.intro
theorem sq23_10 : sq 23 10 B23_10 := sq_take 3 (e := 13) (by decide +kernel) sq23_13
theorem sq23_0 : sq 23 0 B23_0 := sq_take 7 (e := 10) (by decide +kernel) True.intro
set_option maxRecDepth 100000 in
theorem sqM_23 : ∀ b, sq 23 b (tG 23 b) := show ∀ b, sq 23 b (lkB tb23 b) from lkB_sq (List.forall_mem_cons.mpr ⟨sq23_0, List.forall_mem_cons.mpr ⟨sq23_10, List.forall_mem_cons.mpr ⟨sq23_13, (fun _ h => absurd h List.not_mem_nil)⟩⟩⟩)
theorem sq24_40 : sq 24 40 B24_40 := sq_take 2 (e := 41) (by decide +kernel) True.intro
theorem sq24_31 : sq 24 31 B24_31 := sq_take 5 (e := 40) (by decide +kernel) sq24_40
theorem sq24_17 : sq 24 17 B24_17 := sq_take 7 (e := 31) (by decide +kernel) True.intro
theorem sq24_10 : sq 24 10 B24_10 := sq_take 7 (e := 17) (by decide +kernel) sq24_17
theorem sq24_0 : sq 24 0 B24_0 := sq_take 6 (e := 10) (by decide +kernel) True.intro
set_option maxRecDepth 100000 in
theorem sqM_24 : ∀ b, sq 24 b (tG 24 b) := show ∀ b, sq 24 b (lkB tb24 b) from lkB_sq (List.forall_mem_cons.mpr ⟨sq24_0, List.forall_mem_cons.mpr ⟨sq24_10, List.forall_mem_cons.mpr ⟨sq24_17, List.forall_mem_cons.mpr ⟨sq24_31, List.forall_mem_cons.mpr ⟨sq24_40, (fun _ h => absurd h List.not_mem_nil)⟩⟩⟩⟩⟩)
theorem sq25_34 : sq 25 34 B25_34 := sq_take 2 (e := 36) (by decide +kernel) True.intro
theorem sq25_5 : sq 25 5 B25_5 := sq_take 18 (e := 34) (by decide +kernel) True.intro
theorem sq25_0 : sq 25 0 B25_0 := sq_take 5 (e := 5) (by decide +kernel) sq25_5
set_option maxRecDepth 100000 in
theorem sqM_25 : ∀ b, sq 25 b (tG 25 b) := show ∀ b, sq 25 b (lkB tb25 b) from lkB_sq (List.forall_mem_cons.mpr ⟨sq25_0, List.forall_mem_cons.mpr ⟨sq25_5, List.forall_mem_cons.mpr ⟨sq25_34, (fun _ h => absurd h List.not_mem_nil)⟩⟩⟩)
theorem sq26_287 : sq 26 287 B26_287 := sq_take 1 (e := 288) (by decide +kernel) True.intro
theorem sq26_286 : sq 26 286 B26_286 := sq_take 1 (e := 287) (by decide +kernel) sq26_287
theorem sq26_274 : sq 26 274 B26_274 := sq_take 6 (e := 286) (by decide +kernel) True.intro
theorem sq26_273 : sq 26 273 B26_273 := sq_take 1 (e := 274) (by decide +kernel) True.intro
theorem sq26_272 : sq 26 272 B26_272 := sq_take 1 (e := 273) (by decide +kernel) sq26_273
theorem sq26_260 : sq 26 260 B26_260 := sq_take 6 (e := 272) (by decide +kernel) True.intro
theorem sq26_259 : sq 26 259 B26_259 := sq_take 1 (e := 260) (by decide +kernel) True.intro
theorem sq26_258 : sq 26 258 B26_258 := sq_take 1 (e := 259) (by decide +kernel) sq26_259
theorem sq26_251 : sq 26 251 B26_251 := sq_take 4 (e := 258) (by decide +kernel) True.intro
theorem sq26_244 : sq 26 244 B26_244 := sq_take 3 (e := 251) (by decide +kernel) sq26_251
theorem sq26_243 : sq 26 243 B26_243 := sq_take 2 (e := 244) (by decide +kernel) True.intro
theorem sq26_236 : sq 26 236 B26_236 := sq_take 3 (e := 243) (by decide +kernel) sq26_243
theorem sq26_235 : sq 26 235 B26_235 := sq_take 1 (e := 236) (by decide +kernel) True.intro
theorem sq26_234 : sq 26 234 B26_234 := sq_take 1 (e := 235) (by decide +kernel) sq26_235
theorem sq26_222 : sq 26 222 B26_222 := sq_take 6 (e := 234) (by decide +kernel) True.intro
theorem sq26_221 : sq 26 221 B26_221 := sq_take 1 (e := 222) (by decide +kernel) True.intro
theorem sq26_220 : sq 26 220 B26_220 := sq_take 1 (e := 221) (by decide +kernel) sq26_221
theorem sq26_208 : sq 26 208 B26_208 := sq_take 6 (e := 220) (by decide +kernel) True.intro
theorem sq26_207 : sq 26 207 B26_207 := sq_take 1 (e := 208) (by decide +kernel) True.intro
theorem sq26_206 : sq 26 206 B26_206 := sq_take 1 (e := 207) (by decide +kernel) sq26_207
theorem sq26_194 : sq 26 194 B26_194 := sq_take 6 (e := 206) (by decide +kernel) True.intro
theorem sq26_193 : sq 26 193 B26_193 := sq_take 1 (e := 194) (by decide +kernel) True.intro
theorem sq26_192 : sq 26 192 B26_192 := sq_take 1 (e := 193) (by decide +kernel) sq26_193
theorem sq26_178 : sq 26 178 B26_178 := sq_take 8 (e := 192) (by decide +kernel) True.intro
theorem sq26_177 : sq 26 177 B26_177 := sq_take 1 (e := 178) (by decide +kernel) True.intro
theorem sq26_176 : sq 26 176 B26_176 := sq_take 1 (e := 177) (by decide +kernel) sq26_177
theorem sq26_169 : sq 26 169 B26_169 := sq_take 4 (e := 176) (by decide +kernel) True.intro
theorem sq26_162 : sq 26 162 B26_162 := sq_take 3 (e := 169) (by decide +kernel) sq26_169
theorem sq26_161 : sq 26 161 B26_161 := sq_take 2 (e := 162) (by decide +kernel) True.intro
theorem sq26_154 : sq 26 154 B26_154 := sq_take 3 (e := 161) (by decide +kernel) sq26_161
theorem sq26_153 : sq 26 153 B26_153 := sq_take 1 (e := 154) (by decide +kernel) True.intro
theorem sq26_152 : sq 26 152 B26_152 := sq_take 1 (e := 153) (by decide +kernel) sq26_153
theorem sq26_140 : sq 26 140 B26_140 := sq_take 6 (e := 152) (by decide +kernel) True.intro
theorem sq26_41 : sq 26 41 B26_41 := sq_take 6 (e := 140) (by decide +kernel) True.intro
theorem sq26_38 : sq 26 38 B26_38 := sq_take 3 (e := 41) (by decide +kernel) sq26_41
theorem sq26_27 : sq 26 27 B26_27 := sq_take 6 (e := 38) (by decide +kernel) True.intro
theorem sq26_24 : sq 26 24 B26_24 := sq_take 3 (e := 27) (by decide +kernel) sq26_27
theorem sq26_13 : sq 26 13 B26_13 := sq_take 6 (e := 24) (by decide +kernel) True.intro
theorem sq26_12 : sq 26 12 B26_12 := sq_take 1 (e := 13) (by decide +kernel) sq26_13
theorem sq26_0 : sq 26 0 B26_0 := sq_take 8 (e := 12) (by decide +kernel) True.intro
set_option maxRecDepth 100000 in
theorem sqM_26 : ∀ b, sq 26 b (tG 26 b) := show ∀ b, sq 26 b (lkB tb26 b) from lkB_sq (List.forall_mem_cons.mpr ⟨sq26_0, List.forall_mem_cons.mpr ⟨sq26_12, List.forall_mem_cons.mpr ⟨sq26_13, List.forall_mem_cons.mpr ⟨sq26_24, List.forall_mem_cons.mpr ⟨sq26_27, List.forall_mem_cons.mpr ⟨sq26_38, List.forall_mem_cons.mpr ⟨sq26_41, List.forall_mem_cons.mpr ⟨sq26_140, List.forall_mem_cons.mpr ⟨sq26_152, List.forall_mem_cons.mpr ⟨sq26_153, List.forall_mem_cons.mpr ⟨sq26_154, List.forall_mem_cons.mpr ⟨sq26_161, List.forall_mem_cons.mpr ⟨sq26_162, List.forall_mem_cons.mpr ⟨sq26_169, List.forall_mem_cons.mpr ⟨sq26_176, List.forall_mem_cons.mpr ⟨sq26_177, List.forall_mem_cons.mpr ⟨sq26_178, List.forall_mem_cons.mpr ⟨sq26_192, List.forall_mem_cons.mpr ⟨sq26_193, List.forall_mem_cons.mpr ⟨sq26_194, List.forall_mem_cons.mpr ⟨sq26_206, List.forall_mem_cons.mpr ⟨sq26_207, List.forall_mem_cons.mpr ⟨sq26_208, List.forall_mem_cons.mpr ⟨sq26_220, List.forall_mem_cons.mpr ⟨sq26_221, List.forall_mem_cons.mpr ⟨sq26_222, List.forall_mem_cons.mpr ⟨sq26_234, List.forall_mem_cons.mpr ⟨sq26_235, List.forall_mem_cons.mpr ⟨sq26_236, List.forall_mem_cons.mpr ⟨sq26_243, List.forall_mem_cons.mpr ⟨sq26_244, List.forall_mem_cons.mpr ⟨sq26_251, List.forall_mem_cons.mpr ⟨sq26_258, List.forall_mem_cons.mpr ⟨sq26_259, List.forall_mem_cons.mpr ⟨sq26_260, List.forall_mem_cons.mpr ⟨sq26_272, List.forall_mem_cons.mpr ⟨sq26_273, List.forall_mem_cons.mpr ⟨sq26_274, List.forall_mem_cons.mpr ⟨sq26_286, List.forall_mem_cons.mpr ⟨sq26_287, (fun _ h => absurd h List.not_mem_nil)⟩⟩⟩⟩⟩⟩⟩⟩⟩⟩⟩⟩⟩⟩⟩⟩⟩⟩⟩⟩⟩⟩⟩⟩⟩⟩⟩⟩⟩⟩⟩⟩⟩⟩⟩⟩⟩⟩⟩⟩)
theorem sq27_89 : sq 27 89 B27_89 := sq_take 2 (e := 90) (by decide +kernel) True.intro
theorem sq27_82 : sq 27 82 B27_82 := sq_take 3 (e := 89) (by decide +kernel) sq27_89
theorem sq27_76 : sq 27 76 B27_76 := sq_take 3 (e := 82) (by decide +kernel) True.intro
theorem sq27_55 : sq 27 55 B27_55 := sq_take 16 (e := 76) (by decide +kernel) sq27_76
theorem sq27_27 : sq 27 27 B27_27 := sq_take 19 (e := 55) (by decide +kernel) sq27_55
theorem sq27_13 : sq 27 13 B27_13 := sq_take 11 (e := 27) (by decide +kernel) sq27_27
theorem sq27_0 : sq 27 0 B27_0 := sq_take 8 (e := 13) (by decide +kernel) sq27_13
set_option maxRecDepth 100000 in
theorem sqM_27 : ∀ b, sq 27 b (tG 27 b) := show ∀ b, sq 27 b (lkB tb27 b) from lkB_sq (List.forall_mem_cons.mpr ⟨sq27_0, List.forall_mem_cons.mpr ⟨sq27_13, List.forall_mem_cons.mpr ⟨sq27_27, List.forall_mem_cons.mpr ⟨sq27_55, List.forall_mem_cons.mpr ⟨sq27_76, List.forall_mem_cons.mpr ⟨sq27_82, List.forall_mem_cons.mpr ⟨sq27_89, (fun _ h => absurd h List.not_mem_nil)⟩⟩⟩⟩⟩⟩⟩)
theorem sq28_44 : sq 28 44 B28_44 := sq_take 13 (e := 61) (by decide +kernel) True.intro
theorem sq28_40 : sq 28 40 B28_40 := sq_take 2 (e := 44) (by decide +kernel) True.intro
theorem sq28_0 : sq 28 0 B28_0 := sq_take 21 (e := 40) (by decide +kernel) sq28_40
set_option maxRecDepth 100000 in
theorem sqM_28 : ∀ b, sq 28 b (tG 28 b) := show ∀ b, sq 28 b (lkB tb28 b) from lkB_sq (List.forall_mem_cons.mpr ⟨sq28_0, List.forall_mem_cons.mpr ⟨sq28_40, List.forall_mem_cons.mpr ⟨sq28_44, (fun _ h => absurd h List.not_mem_nil)⟩⟩⟩)
theorem sq29_0 : sq 29 0 B29_0 := sq_take 13 (e := 16) (by decide +kernel) True.intro
set_option maxRecDepth 100000 in
theorem sqM_29 : ∀ b, sq 29 b (tG 29 b) := show ∀ b, sq 29 b (lkB tb29 b) from lkB_sq (List.forall_mem_cons.mpr ⟨sq29_0, (fun _ h => absurd h List.not_mem_nil)⟩)
theorem sq30_61 : sq 30 61 B30_61 := sq_take 2 (e := 63) (by decide +kernel) True.intro
theorem sq30_43 : sq 30 43 B30_43 := sq_take 11 (e := 61) (by decide +kernel) True.intro
theorem sq30_42 : sq 30 42 B30_42 := sq_take 2 (e := 43) (by decide +kernel) True.intro
theorem sq30_29 : sq 30 29 B30_29 := sq_take 8 (e := 42) (by decide +kernel) sq30_42
theorem sq30_4 : sq 30 4 B30_4 := sq_take 14 (e := 29) (by decide +kernel) sq30_29
theorem sq30_0 : sq 30 0 B30_0 := sq_take 5 (e := 4) (by decide +kernel) sq30_4
set_option maxRecDepth 100000 in
theorem sqM_30 : ∀ b, sq 30 b (tG 30 b) := show ∀ b, sq 30 b (lkB tb30 b) from lkB_sq (List.forall_mem_cons.mpr ⟨sq30_0, List.forall_mem_cons.mpr ⟨sq30_4, List.forall_mem_cons.mpr ⟨sq30_29, List.forall_mem_cons.mpr ⟨sq30_42, List.forall_mem_cons.mpr ⟨sq30_43, List.forall_mem_cons.mpr ⟨sq30_61, (fun _ h => absurd h List.not_mem_nil)⟩⟩⟩⟩⟩⟩)
theorem sq31_48 : sq 31 48 B31_48 := sq_take 2 (e := 50) (by decide +kernel) True.intro
theorem sq31_42 : sq 31 42 B31_42 := sq_take 3 (e := 48) (by decide +kernel) True.intro
theorem sq31_41 : sq 31 41 B31_41 := sq_take 2 (e := 42) (by decide +kernel) True.intro
theorem sq31_32 : sq 31 32 B31_32 := sq_take 6 (e := 41) (by decide +kernel) sq31_41
theorem sq31_7 : sq 31 7 B31_7 := sq_take 16 (e := 32) (by decide +kernel) sq31_32
theorem sq31_5 : sq 31 5 B31_5 := sq_take 3 (e := 7) (by decide +kernel) sq31_7
theorem sq31_0 : sq 31 0 B31_0 := sq_take 4 (e := 5) (by decide +kernel) sq31_5
set_option maxRecDepth 100000 in
theorem sqM_31 : ∀ b, sq 31 b (tG 31 b) := show ∀ b, sq 31 b (lkB tb31 b) from lkB_sq (List.forall_mem_cons.mpr ⟨sq31_0, List.forall_mem_cons.mpr ⟨sq31_5, List.forall_mem_cons.mpr ⟨sq31_7, List.forall_mem_cons.mpr ⟨sq31_32, List.forall_mem_cons.mpr ⟨sq31_41, List.forall_mem_cons.mpr ⟨sq31_42, List.forall_mem_cons.mpr ⟨sq31_48, (fun _ h => absurd h List.not_mem_nil)⟩⟩⟩⟩⟩⟩⟩)
theorem sq32_113 : sq 32 113 B32_113 := sq_take 1 (e := 114) (by decide +kernel) True.intro
theorem sq32_99 : sq 32 99 B32_99 := sq_take 9 (e := 113) (by decide +kernel) True.intro
theorem sq32_98 : sq 32 98 B32_98 := sq_take 1 (e := 99) (by decide +kernel) sq32_99
theorem sq32_77 : sq 32 77 B32_77 := sq_take 12 (e := 98) (by decide +kernel) True.intro
theorem sq32_73 : sq 32 73 B32_73 := sq_take 4 (e := 77) (by decide +kernel) sq32_77
theorem sq32_67 : sq 32 67 B32_67 := sq_take 3 (e := 73) (by decide +kernel) True.intro
theorem sq32_46 : sq 32 46 B32_46 := sq_take 14 (e := 67) (by decide +kernel) sq32_67
theorem sq32_32 : sq 32 32 B32_32 := sq_take 9 (e := 46) (by decide +kernel) sq32_46
theorem sq32_9 : sq 32 9 B32_9 := sq_take 14 (e := 32) (by decide +kernel) sq32_32
theorem sq32_0 : sq 32 0 B32_0 := sq_take 8 (e := 9) (by decide +kernel) sq32_9
set_option maxRecDepth 100000 in
theorem sqM_32 : ∀ b, sq 32 b (tG 32 b) := show ∀ b, sq 32 b (lkB tb32 b) from lkB_sq (List.forall_mem_cons.mpr ⟨sq32_0, List.forall_mem_cons.mpr ⟨sq32_9, List.forall_mem_cons.mpr ⟨sq32_32, List.forall_mem_cons.mpr ⟨sq32_46, List.forall_mem_cons.mpr ⟨sq32_67, List.forall_mem_cons.mpr ⟨sq32_73, List.forall_mem_cons.mpr ⟨sq32_77, List.forall_mem_cons.mpr ⟨sq32_98, List.forall_mem_cons.mpr ⟨sq32_99, List.forall_mem_cons.mpr ⟨sq32_113, (fun _ h => absurd h List.not_mem_nil)⟩⟩⟩⟩⟩⟩⟩⟩⟩⟩)
theorem sq33_173 : sq 33 173 B33_173 := sq_take 1 (e := 174) (by decide +kernel) True.intro
theorem sq33_172 : sq 33 172 B33_172 := sq_take 1 (e := 173) (by decide +kernel) sq33_173
theorem sq33_168 : sq 33 168 B33_168 := sq_take 3 (e := 172) (by decide +kernel) True.intro
theorem sq33_140 : sq 33 140 B33_140 := sq_take 13 (e := 168) (by decide +kernel) sq33_168
theorem sq33_139 : sq 33 139 B33_139 := sq_take 1 (e := 140) (by decide +kernel) sq33_140
theorem sq33_135 : sq 33 135 B33_135 := sq_take 3 (e := 139) (by decide +kernel) True.intro
theorem sq33_113 : sq 33 113 B33_113 := sq_take 12 (e := 135) (by decide +kernel) sq33_135
theorem sq33_112 : sq 33 112 B33_112 := sq_take 1 (e := 113) (by decide +kernel) sq33_113
theorem sq33_98 : sq 33 98 B33_98 := sq_take 8 (e := 112) (by decide +kernel) True.intro
theorem sq33_94 : sq 33 94 B33_94 := sq_take 3 (e := 98) (by decide +kernel) sq33_98
theorem sq33_93 : sq 33 93 B33_93 := sq_take 2 (e := 94) (by decide +kernel) sq33_94
theorem sq33_92 : sq 33 92 B33_92 := sq_take 1 (e := 93) (by decide +kernel) sq33_93
theorem sq33_88 : sq 33 88 B33_88 := sq_take 3 (e := 92) (by decide +kernel) True.intro
theorem sq33_67 : sq 33 67 B33_67 := sq_take 11 (e := 88) (by decide +kernel) sq33_88
theorem sq33_65 : sq 33 65 B33_65 := sq_take 2 (e := 67) (by decide +kernel) True.intro
theorem sq33_27 : sq 33 27 B33_27 := sq_take 20 (e := 65) (by decide +kernel) sq33_65
theorem sq33_18 : sq 33 18 B33_18 := sq_take 6 (e := 27) (by decide +kernel) sq33_27
theorem sq33_15 : sq 33 15 B33_15 := sq_take 2 (e := 18) (by decide +kernel) sq33_18
theorem sq33_4 : sq 33 4 B33_4 := sq_take 6 (e := 15) (by decide +kernel) sq33_15
theorem sq33_0 : sq 33 0 B33_0 := sq_take 3 (e := 4) (by decide +kernel) sq33_4
set_option maxRecDepth 100000 in
theorem sqM_33 : ∀ b, sq 33 b (tG 33 b) := show ∀ b, sq 33 b (lkB tb33 b) from lkB_sq (List.forall_mem_cons.mpr ⟨sq33_0, List.forall_mem_cons.mpr ⟨sq33_4, List.forall_mem_cons.mpr ⟨sq33_15, List.forall_mem_cons.mpr ⟨sq33_18, List.forall_mem_cons.mpr ⟨sq33_27, List.forall_mem_cons.mpr ⟨sq33_65, List.forall_mem_cons.mpr ⟨sq33_67, List.forall_mem_cons.mpr ⟨sq33_88, List.forall_mem_cons.mpr ⟨sq33_92, List.forall_mem_cons.mpr ⟨sq33_93, List.forall_mem_cons.mpr ⟨sq33_94, List.forall_mem_cons.mpr ⟨sq33_98, List.forall_mem_cons.mpr ⟨sq33_112, List.forall_mem_cons.mpr ⟨sq33_113, List.forall_mem_cons.mpr ⟨sq33_135, List.forall_mem_cons.mpr ⟨sq33_139, List.forall_mem_cons.mpr ⟨sq33_140, List.forall_mem_cons.mpr ⟨sq33_168, List.forall_mem_cons.mpr ⟨sq33_172, List.forall_mem_cons.mpr ⟨sq33_173, (fun _ h => absurd h List.not_mem_nil)⟩⟩⟩⟩⟩⟩⟩⟩⟩⟩⟩⟩⟩⟩⟩⟩⟩⟩⟩⟩)
theorem sq34_231 : sq 34 231 B34_231 := sq_take 2 (e := 232) (by decide +kernel) True.intro
theorem sq34_218 : sq 34 218 B34_218 := sq_take 6 (e := 231) (by decide +kernel) sq34_231
theorem sq34_212 : sq 34 212 B34_212 := sq_take 3 (e := 218) (by decide +kernel) True.intro
theorem sq34_207 : sq 34 207 B34_207 := sq_take 4 (e := 212) (by decide +kernel) True.intro
theorem sq34_203 : sq 34 203 B34_203 := sq_take 3 (e := 207) (by decide +kernel) sq34_207
theorem sq34_202 : sq 34 202 B34_202 := sq_take 2 (e := 203) (by decide +kernel) True.intro
theorem sq34_197 : sq 34 197 B34_197 := sq_take 3 (e := 202) (by decide +kernel) sq34_202
theorem sq34_195 : sq 34 195 B34_195 := sq_take 1 (e := 197) (by decide +kernel) sq34_197
theorem sq34_184 : sq 34 184 B34_184 := sq_take 6 (e := 195) (by decide +kernel) True.intro
theorem sq34_158 : sq 34 158 B34_158 := sq_take 12 (e := 184) (by decide +kernel) sq34_184
theorem sq34_142 : sq 34 142 B34_142 := sq_take 9 (e := 158) (by decide +kernel) sq34_158
theorem sq34_136 : sq 34 136 B34_136 := sq_take 3 (e := 142) (by decide +kernel) sq34_142
theorem sq34_135 : sq 34 135 B34_135 := sq_take 2 (e := 136) (by decide +kernel) True.intro
theorem sq34_113 : sq 34 113 B34_113 := sq_take 13 (e := 135) (by decide +kernel) sq34_135
theorem sq34_109 : sq 34 109 B34_109 := sq_take 2 (e := 113) (by decide +kernel) sq34_113
theorem sq34_108 : sq 34 108 B34_108 := sq_take 2 (e := 109) (by decide +kernel) True.intro
theorem sq34_88 : sq 34 88 B34_88 := sq_take 10 (e := 108) (by decide +kernel) sq34_108
theorem sq34_83 : sq 34 83 B34_83 := sq_take 4 (e := 88) (by decide +kernel) True.intro
theorem sq34_74 : sq 34 74 B34_74 := sq_take 4 (e := 83) (by decide +kernel) sq34_83
theorem sq34_73 : sq 34 73 B34_73 := sq_take 2 (e := 74) (by decide +kernel) True.intro
theorem sq34_50 : sq 34 50 B34_50 := sq_take 11 (e := 73) (by decide +kernel) sq34_73
theorem sq34_15 : sq 34 15 B34_15 := sq_take 18 (e := 50) (by decide +kernel) sq34_50
theorem sq34_11 : sq 34 11 B34_11 := sq_take 5 (e := 15) (by decide +kernel) sq34_15
theorem sq34_7 : sq 34 7 B34_7 := sq_take 3 (e := 11) (by decide +kernel) sq34_11
theorem sq34_0 : sq 34 0 B34_0 := sq_take 4 (e := 7) (by decide +kernel) sq34_7
set_option maxRecDepth 100000 in
theorem sqM_34 : ∀ b, sq 34 b (tG 34 b) := show ∀ b, sq 34 b (lkB tb34 b) from lkB_sq (List.forall_mem_cons.mpr ⟨sq34_0, List.forall_mem_cons.mpr ⟨sq34_7, List.forall_mem_cons.mpr ⟨sq34_11, List.forall_mem_cons.mpr ⟨sq34_15, List.forall_mem_cons.mpr ⟨sq34_50, List.forall_mem_cons.mpr ⟨sq34_73, List.forall_mem_cons.mpr ⟨sq34_74, List.forall_mem_cons.mpr ⟨sq34_83, List.forall_mem_cons.mpr ⟨sq34_88, List.forall_mem_cons.mpr ⟨sq34_108, List.forall_mem_cons.mpr ⟨sq34_109, List.forall_mem_cons.mpr ⟨sq34_113, List.forall_mem_cons.mpr ⟨sq34_135, List.forall_mem_cons.mpr ⟨sq34_136, List.forall_mem_cons.mpr ⟨sq34_142, List.forall_mem_cons.mpr ⟨sq34_158, List.forall_mem_cons.mpr ⟨sq34_184, List.forall_mem_cons.mpr ⟨sq34_195, List.forall_mem_cons.mpr ⟨sq34_197, List.forall_mem_cons.mpr ⟨sq34_202, List.forall_mem_cons.mpr ⟨sq34_203, List.forall_mem_cons.mpr ⟨sq34_207, List.forall_mem_cons.mpr ⟨sq34_212, List.forall_mem_cons.mpr ⟨sq34_218, List.forall_mem_cons.mpr ⟨sq34_231, (fun _ h => absurd h List.not_mem_nil)⟩⟩⟩⟩⟩⟩⟩⟩⟩⟩⟩⟩⟩⟩⟩⟩⟩⟩⟩⟩⟩⟩⟩⟩⟩)
theorem sq35_60 : sq 35 60 B35_60 := sq_take 14 (e := 81) (by decide +kernel) True.intro
theorem sq35_44 : sq 35 44 B35_44 := sq_take 9 (e := 60) (by decide +kernel) sq35_60
theorem sq35_0 : sq 35 0 B35_0 := sq_take 27 (e := 44) (by decide +kernel) sq35_44
set_option maxRecDepth 100000 in
theorem sqM_35 : ∀ b, sq 35 b (tG 35 b) := show ∀ b, sq 35 b (lkB tb35 b) from lkB_sq (List.forall_mem_cons.mpr ⟨sq35_0, List.forall_mem_cons.mpr ⟨sq35_44, List.forall_mem_cons.mpr ⟨sq35_60, (fun _ h => absurd h List.not_mem_nil)⟩⟩⟩)
theorem sq36_133 : sq 36 133 B36_133 := sq_take 8 (e := 149) (by decide +kernel) True.intro
theorem sq36_132 : sq 36 132 B36_132 := sq_take 2 (e := 133) (by decide +kernel) True.intro
theorem sq36_117 : sq 36 117 B36_117 := sq_take 8 (e := 132) (by decide +kernel) sq36_132
theorem sq36_116 : sq 36 116 B36_116 := sq_take 2 (e := 117) (by decide +kernel) sq36_117
theorem sq36_85 : sq 36 85 B36_85 := sq_take 18 (e := 116) (by decide +kernel) sq36_116
theorem sq36_84 : sq 36 84 B36_84 := sq_take 1 (e := 85) (by decide +kernel) sq36_85
theorem sq36_69 : sq 36 69 B36_69 := sq_take 8 (e := 84) (by decide +kernel) True.intro
theorem sq36_21 : sq 36 21 B36_21 := sq_take 25 (e := 69) (by decide +kernel) sq36_69
theorem sq36_0 : sq 36 0 B36_0 := sq_take 12 (e := 21) (by decide +kernel) sq36_21
set_option maxRecDepth 100000 in
theorem sqM_36 : ∀ b, sq 36 b (tG 36 b) := show ∀ b, sq 36 b (lkB tb36 b) from lkB_sq (List.forall_mem_cons.mpr ⟨sq36_0, List.forall_mem_cons.mpr ⟨sq36_21, List.forall_mem_cons.mpr ⟨sq36_69, List.forall_mem_cons.mpr ⟨sq36_84, List.forall_mem_cons.mpr ⟨sq36_85, List.forall_mem_cons.mpr ⟨sq36_116, List.forall_mem_cons.mpr ⟨sq36_117, List.forall_mem_cons.mpr ⟨sq36_132, List.forall_mem_cons.mpr ⟨sq36_133, (fun _ h => absurd h List.not_mem_nil)⟩⟩⟩⟩⟩⟩⟩⟩⟩)
theorem sq37_36 : sq 37 36 B37_36 := sq_take 2 (e := 38) (by decide +kernel) True.intro
theorem sq37_28 : sq 37 28 B37_28 := sq_take 4 (e := 36) (by decide +kernel) True.intro
theorem sq37_23 : sq 37 23 B37_23 := sq_take 4 (e := 28) (by decide +kernel) True.intro
theorem sq37_7 : sq 37 7 B37_7 := sq_take 9 (e := 23) (by decide +kernel) sq37_23
theorem sq37_0 : sq 37 0 B37_0 := sq_take 6 (e := 7) (by decide +kernel) sq37_7
set_option maxRecDepth 100000 in
theorem sqM_37 : ∀ b, sq 37 b (tG 37 b) := show ∀ b, sq 37 b (lkB tb37 b) from lkB_sq (List.forall_mem_cons.mpr ⟨sq37_0, List.forall_mem_cons.mpr ⟨sq37_7, List.forall_mem_cons.mpr ⟨sq37_23, List.forall_mem_cons.mpr ⟨sq37_28, List.forall_mem_cons.mpr ⟨sq37_36, (fun _ h => absurd h List.not_mem_nil)⟩⟩⟩⟩⟩)
theorem sq38_135 : sq 38 135 B38_135 := sq_take 10 (e := 146) (by decide +kernel) True.intro
theorem sq38_106 : sq 38 106 B38_106 := sq_take 16 (e := 135) (by decide +kernel) sq38_135
theorem sq38_90 : sq 38 90 B38_90 := sq_take 8 (e := 106) (by decide +kernel) sq38_106
theorem sq38_59 : sq 38 59 B38_59 := sq_take 16 (e := 90) (by decide +kernel) True.intro
theorem sq38_44 : sq 38 44 B38_44 := sq_take 10 (e := 59) (by decide +kernel) sq38_59
theorem sq38_29 : sq 38 29 B38_29 := sq_take 10 (e := 44) (by decide +kernel) sq38_44
theorem sq38_0 : sq 38 0 B38_0 := sq_take 18 (e := 29) (by decide +kernel) sq38_29
set_option maxRecDepth 100000 in
theorem sqM_38 : ∀ b, sq 38 b (tG 38 b) := show ∀ b, sq 38 b (lkB tb38 b) from lkB_sq (List.forall_mem_cons.mpr ⟨sq38_0, List.forall_mem_cons.mpr ⟨sq38_29, List.forall_mem_cons.mpr ⟨sq38_44, List.forall_mem_cons.mpr ⟨sq38_59, List.forall_mem_cons.mpr ⟨sq38_90, List.forall_mem_cons.mpr ⟨sq38_106, List.forall_mem_cons.mpr ⟨sq38_135, (fun _ h => absurd h List.not_mem_nil)⟩⟩⟩⟩⟩⟩⟩)
theorem sq39_112 : sq 39 112 B39_112 := sq_take 13 (e := 132) (by decide +kernel) True.intro
theorem sq39_94 : sq 39 94 B39_94 := sq_take 10 (e := 112) (by decide +kernel) sq39_112
theorem sq39_91 : sq 39 91 B39_91 := sq_take 4 (e := 94) (by decide +kernel) True.intro
theorem sq39_82 : sq 39 82 B39_82 := sq_take 5 (e := 91) (by decide +kernel) sq39_91
theorem sq39_64 : sq 39 64 B39_64 := sq_take 11 (e := 82) (by decide +kernel) True.intro
theorem sq39_54 : sq 39 54 B39_54 := sq_take 7 (e := 64) (by decide +kernel) sq39_64
theorem sq39_43 : sq 39 43 B39_43 := sq_take 7 (e := 54) (by decide +kernel) sq39_54
theorem sq39_32 : sq 39 32 B39_32 := sq_take 6 (e := 43) (by decide +kernel) True.intro
theorem sq39_29 : sq 39 29 B39_29 := sq_take 2 (e := 32) (by decide +kernel) sq39_32
theorem sq39_0 : sq 39 0 B39_0 := sq_take 16 (e := 29) (by decide +kernel) sq39_29
set_option maxRecDepth 100000 in
theorem sqM_39 : ∀ b, sq 39 b (tG 39 b) := show ∀ b, sq 39 b (lkB tb39 b) from lkB_sq (List.forall_mem_cons.mpr ⟨sq39_0, List.forall_mem_cons.mpr ⟨sq39_29, List.forall_mem_cons.mpr ⟨sq39_32, List.forall_mem_cons.mpr ⟨sq39_43, List.forall_mem_cons.mpr ⟨sq39_54, List.forall_mem_cons.mpr ⟨sq39_64, List.forall_mem_cons.mpr ⟨sq39_82, List.forall_mem_cons.mpr ⟨sq39_91, List.forall_mem_cons.mpr ⟨sq39_94, List.forall_mem_cons.mpr ⟨sq39_112, (fun _ h => absurd h List.not_mem_nil)⟩⟩⟩⟩⟩⟩⟩⟩⟩⟩)
theorem sq40_75 : sq 40 75 B40_75 := sq_take 1 (e := 76) (by decide +kernel) True.intro
theorem sq40_64 : sq 40 64 B40_64 := sq_take 6 (e := 75) (by decide +kernel) True.intro
theorem sq40_61 : sq 40 61 B40_61 := sq_take 2 (e := 64) (by decide +kernel) sq40_64
theorem sq40_10 : sq 40 10 B40_10 := sq_take 26 (e := 61) (by decide +kernel) sq40_61
theorem sq40_0 : sq 40 0 B40_0 := sq_take 7 (e := 10) (by decide +kernel) sq40_10
set_option maxRecDepth 100000 in
theorem sqM_40 : ∀ b, sq 40 b (tG 40 b) := show ∀ b, sq 40 b (lkB tb40 b) from lkB_sq (List.forall_mem_cons.mpr ⟨sq40_0, List.forall_mem_cons.mpr ⟨sq40_10, List.forall_mem_cons.mpr ⟨sq40_61, List.forall_mem_cons.mpr ⟨sq40_64, List.forall_mem_cons.mpr ⟨sq40_75, (fun _ h => absurd h List.not_mem_nil)⟩⟩⟩⟩⟩)
theorem sq41_0 : sq 41 0 B41_0 := sq_take 11 (e := 14) (by decide +kernel) True.intro
set_option maxRecDepth 100000 in
theorem sqM_41 : ∀ b, sq 41 b (tG 41 b) := show ∀ b, sq 41 b (lkB tb41 b) from lkB_sq (List.forall_mem_cons.mpr ⟨sq41_0, (fun _ h => absurd h List.not_mem_nil)⟩)
theorem sq42_0 : sq 42 0 B42_0 := sq_take 9 (e := 10) (by decide +kernel) True.intro
set_option maxRecDepth 100000 in
theorem sqM_42 : ∀ b, sq 42 b (tG 42 b) := show ∀ b, sq 42 b (lkB tb42 b) from lkB_sq (List.forall_mem_cons.mpr ⟨sq42_0, (fun _ h => absurd h List.not_mem_nil)⟩)
theorem sq43_0 : sq 43 0 B43_0 := sq_take 11 (e := 14) (by decide +kernel) True.intro
set_option maxRecDepth 100000 in
theorem sqM_43 : ∀ b, sq 43 b (tG 43 b) := show ∀ b, sq 43 b (lkB tb43 b) from lkB_sq (List.forall_mem_cons.mpr ⟨sq43_0, (fun _ h => absurd h List.not_mem_nil)⟩)
theorem sq44_24 : sq 44 24 B44_24 := sq_take 1 (e := 25) (by decide +kernel) True.intro
theorem sq44_23 : sq 44 23 B44_23 := sq_take 2 (e := 24) (by decide +kernel) sq44_24
theorem sq44_0 : sq 44 0 B44_0 := sq_take 13 (e := 23) (by decide +kernel) True.intro
set_option maxRecDepth 100000 in
theorem sqM_44 : ∀ b, sq 44 b (tG 44 b) := show ∀ b, sq 44 b (lkB tb44 b) from lkB_sq (List.forall_mem_cons.mpr ⟨sq44_0, List.forall_mem_cons.mpr ⟨sq44_23, List.forall_mem_cons.mpr ⟨sq44_24, (fun _ h => absurd h List.not_mem_nil)⟩⟩⟩)
theorem sq45_23 : sq 45 23 B45_23 := sq_take 1 (e := 24) (by decide +kernel) True.intro
theorem sq45_22 : sq 45 22 B45_22 := sq_take 2 (e := 23) (by decide +kernel) sq45_23
theorem sq45_5 : sq 45 5 B45_5 := sq_take 10 (e := 22) (by decide +kernel) True.intro
theorem sq45_0 : sq 45 0 B45_0 := sq_take 4 (e := 5) (by decide +kernel) sq45_5
set_option maxRecDepth 100000 in
theorem sqM_45 : ∀ b, sq 45 b (tG 45 b) := show ∀ b, sq 45 b (lkB tb45 b) from lkB_sq (List.forall_mem_cons.mpr ⟨sq45_0, List.forall_mem_cons.mpr ⟨sq45_5, List.forall_mem_cons.mpr ⟨sq45_22, List.forall_mem_cons.mpr ⟨sq45_23, (fun _ h => absurd h List.not_mem_nil)⟩⟩⟩⟩)
theorem sq46_32 : sq 46 32 B46_32 := sq_take 1 (e := 33) (by decide +kernel) True.intro
theorem sq46_31 : sq 46 31 B46_31 := sq_take 2 (e := 32) (by decide +kernel) sq46_32
theorem sq46_27 : sq 46 27 B46_27 := sq_take 3 (e := 31) (by decide +kernel) True.intro
theorem sq46_5 : sq 46 5 B46_5 := sq_take 13 (e := 27) (by decide +kernel) sq46_27
theorem sq46_0 : sq 46 0 B46_0 := sq_take 4 (e := 5) (by decide +kernel) sq46_5
set_option maxRecDepth 100000 in
theorem sqM_46 : ∀ b, sq 46 b (tG 46 b) := show ∀ b, sq 46 b (lkB tb46 b) from lkB_sq (List.forall_mem_cons.mpr ⟨sq46_0, List.forall_mem_cons.mpr ⟨sq46_5, List.forall_mem_cons.mpr ⟨sq46_27, List.forall_mem_cons.mpr ⟨sq46_31, List.forall_mem_cons.mpr ⟨sq46_32, (fun _ h => absurd h List.not_mem_nil)⟩⟩⟩⟩⟩)
theorem sq47_128 : sq 47 128 B47_128 := sq_take 2 (e := 130) (by decide +kernel) True.intro
theorem sq47_102 : sq 47 102 B47_102 := sq_take 15 (e := 128) (by decide +kernel) True.intro
theorem sq47_98 : sq 47 98 B47_98 := sq_take 4 (e := 102) (by decide +kernel) sq47_102
theorem sq47_97 : sq 47 97 B47_97 := sq_take 1 (e := 98) (by decide +kernel) sq47_98
theorem sq47_67 : sq 47 67 B47_67 := sq_take 18 (e := 97) (by decide +kernel) True.intro
theorem sq47_46 : sq 47 46 B47_46 := sq_take 15 (e := 67) (by decide +kernel) sq47_67
theorem sq47_41 : sq 47 41 B47_41 := sq_take 4 (e := 46) (by decide +kernel) True.intro
theorem sq47_34 : sq 47 34 B47_34 := sq_take 4 (e := 41) (by decide +kernel) sq47_41
theorem sq47_32 : sq 47 32 B47_32 := sq_take 2 (e := 34) (by decide +kernel) True.intro
theorem sq47_0 : sq 47 0 B47_0 := sq_take 17 (e := 32) (by decide +kernel) sq47_32
set_option maxRecDepth 100000 in
theorem sqM_47 : ∀ b, sq 47 b (tG 47 b) := show ∀ b, sq 47 b (lkB tb47 b) from lkB_sq (List.forall_mem_cons.mpr ⟨sq47_0, List.forall_mem_cons.mpr ⟨sq47_32, List.forall_mem_cons.mpr ⟨sq47_34, List.forall_mem_cons.mpr ⟨sq47_41, List.forall_mem_cons.mpr ⟨sq47_46, List.forall_mem_cons.mpr ⟨sq47_67, List.forall_mem_cons.mpr ⟨sq47_97, List.forall_mem_cons.mpr ⟨sq47_98, List.forall_mem_cons.mpr ⟨sq47_102, List.forall_mem_cons.mpr ⟨sq47_128, (fun _ h => absurd h List.not_mem_nil)⟩⟩⟩⟩⟩⟩⟩⟩⟩⟩)
theorem sq48_98 : sq 48 98 B48_98 := sq_take 2 (e := 100) (by decide +kernel) True.intro
theorem sq48_97 : sq 48 97 B48_97 := sq_take 1 (e := 98) (by decide +kernel) True.intro
theorem sq48_96 : sq 48 96 B48_96 := sq_take 2 (e := 97) (by decide +kernel) sq48_97
theorem sq48_84 : sq 48 84 B48_84 := sq_take 6 (e := 96) (by decide +kernel) True.intro
theorem sq48_83 : sq 48 83 B48_83 := sq_take 1 (e := 84) (by decide +kernel) True.intro
theorem sq48_82 : sq 48 82 B48_82 := sq_take 2 (e := 83) (by decide +kernel) sq48_83
theorem sq48_63 : sq 48 63 B48_63 := sq_take 10 (e := 82) (by decide +kernel) True.intro
theorem sq48_62 : sq 48 62 B48_62 := sq_take 1 (e := 63) (by decide +kernel) True.intro
theorem sq48_61 : sq 48 61 B48_61 := sq_take 2 (e := 62) (by decide +kernel) sq48_62
theorem sq48_48 : sq 48 48 B48_48 := sq_take 7 (e := 61) (by decide +kernel) True.intro
theorem sq48_16 : sq 48 16 B48_16 := sq_take 4 (e := 48) (by decide +kernel) True.intro
theorem sq48_15 : sq 48 15 B48_15 := sq_take 2 (e := 16) (by decide +kernel) sq48_16
theorem sq48_0 : sq 48 0 B48_0 := sq_take 9 (e := 15) (by decide +kernel) True.intro
set_option maxRecDepth 100000 in
theorem sqM_48 : ∀ b, sq 48 b (tG 48 b) := show ∀ b, sq 48 b (lkB tb48 b) from lkB_sq (List.forall_mem_cons.mpr ⟨sq48_0, List.forall_mem_cons.mpr ⟨sq48_15, List.forall_mem_cons.mpr ⟨sq48_16, List.forall_mem_cons.mpr ⟨sq48_48, List.forall_mem_cons.mpr ⟨sq48_61, List.forall_mem_cons.mpr ⟨sq48_62, List.forall_mem_cons.mpr ⟨sq48_63, List.forall_mem_cons.mpr ⟨sq48_82, List.forall_mem_cons.mpr ⟨sq48_83, List.forall_mem_cons.mpr ⟨sq48_84, List.forall_mem_cons.mpr ⟨sq48_96, List.forall_mem_cons.mpr ⟨sq48_97, List.forall_mem_cons.mpr ⟨sq48_98, (fun _ h => absurd h List.not_mem_nil)⟩⟩⟩⟩⟩⟩⟩⟩⟩⟩⟩⟩⟩)
theorem sq49_95 : sq 49 95 B49_95 := sq_take 2 (e := 97) (by decide +kernel) True.intro
theorem sq49_89 : sq 49 89 B49_89 := sq_take 2 (e := 95) (by decide +kernel) True.intro
theorem sq49_83 : sq 49 83 B49_83 := sq_take 4 (e := 89) (by decide +kernel) True.intro
theorem sq49_72 : sq 49 72 B49_72 := sq_take 8 (e := 83) (by decide +kernel) sq49_83
theorem sq49_44 : sq 49 44 B49_44 := sq_take 18 (e := 72) (by decide +kernel) sq49_72
theorem sq49_41 : sq 49 41 B49_41 := sq_take 2 (e := 44) (by decide +kernel) sq49_44
theorem sq49_40 : sq 49 40 B49_40 := sq_take 1 (e := 41) (by decide +kernel) True.intro
theorem sq49_39 : sq 49 39 B49_39 := sq_take 2 (e := 40) (by decide +kernel) sq49_40
theorem sq49_15 : sq 49 15 B49_15 := sq_take 13 (e := 39) (by decide +kernel) True.intro
theorem sq49_0 : sq 49 0 B49_0 := sq_take 10 (e := 15) (by decide +kernel) sq49_15
set_option maxRecDepth 100000 in
theorem sqM_49 : ∀ b, sq 49 b (tG 49 b) := show ∀ b, sq 49 b (lkB tb49 b) from lkB_sq (List.forall_mem_cons.mpr ⟨sq49_0, List.forall_mem_cons.mpr ⟨sq49_15, List.forall_mem_cons.mpr ⟨sq49_39, List.forall_mem_cons.mpr ⟨sq49_40, List.forall_mem_cons.mpr ⟨sq49_41, List.forall_mem_cons.mpr ⟨sq49_44, List.forall_mem_cons.mpr ⟨sq49_72, List.forall_mem_cons.mpr ⟨sq49_83, List.forall_mem_cons.mpr ⟨sq49_89, List.forall_mem_cons.mpr ⟨sq49_95, (fun _ h => absurd h List.not_mem_nil)⟩⟩⟩⟩⟩⟩⟩⟩⟩⟩)
theorem sq50_28 : sq 50 28 B50_28 := sq_take 2 (e := 29) (by decide +kernel) True.intro
theorem sq50_25 : sq 50 25 B50_25 := sq_take 2 (e := 28) (by decide +kernel) sq50_28
theorem sq50_14 : sq 50 14 B50_14 := sq_take 8 (e := 25) (by decide +kernel) sq50_25
theorem sq50_0 : sq 50 0 B50_0 := sq_take 9 (e := 14) (by decide +kernel) True.intro
set_option maxRecDepth 100000 in
theorem sqM_50 : ∀ b, sq 50 b (tG 50 b) := show ∀ b, sq 50 b (lkB tb50 b) from lkB_sq (List.forall_mem_cons.mpr ⟨sq50_0, List.forall_mem_cons.mpr ⟨sq50_14, List.forall_mem_cons.mpr ⟨sq50_25, List.forall_mem_cons.mpr ⟨sq50_28, (fun _ h => absurd h List.not_mem_nil)⟩⟩⟩⟩)
theorem sq51_36 : sq 51 36 B51_36 := sq_take 2 (e := 38) (by decide +kernel) True.intro
theorem sq51_30 : sq 51 30 B51_30 := sq_take 2 (e := 36) (by decide +kernel) True.intro
theorem sq51_3 : sq 51 3 B51_3 := sq_take 18 (e := 30) (by decide +kernel) True.intro
theorem sq51_0 : sq 51 0 B51_0 := sq_take 3 (e := 3) (by decide +kernel) sq51_3
set_option maxRecDepth 100000 in
theorem sqM_51 : ∀ b, sq 51 b (tG 51 b) := show ∀ b, sq 51 b (lkB tb51 b) from lkB_sq (List.forall_mem_cons.mpr ⟨sq51_0, List.forall_mem_cons.mpr ⟨sq51_3, List.forall_mem_cons.mpr ⟨sq51_30, List.forall_mem_cons.mpr ⟨sq51_36, (fun _ h => absurd h List.not_mem_nil)⟩⟩⟩⟩)
theorem sq52_196 : sq 52 196 B52_196 := sq_take 8 (e := 207) (by decide +kernel) True.intro
theorem sq52_181 : sq 52 181 B52_181 := sq_take 9 (e := 196) (by decide +kernel) sq52_196
theorem sq52_171 : sq 52 171 B52_171 := sq_take 9 (e := 181) (by decide +kernel) sq52_181
theorem sq52_127 : sq 52 127 B52_127 := sq_take 29 (e := 171) (by decide +kernel) sq52_171
theorem sq52_115 : sq 52 115 B52_115 := sq_take 7 (e := 127) (by decide +kernel) sq52_127
theorem sq52_105 : sq 52 105 B52_105 := sq_take 6 (e := 115) (by decide +kernel) True.intro
theorem sq52_100 : sq 52 100 B52_100 := sq_take 3 (e := 105) (by decide +kernel) sq52_105
theorem sq52_77 : sq 52 77 B52_77 := sq_take 14 (e := 100) (by decide +kernel) True.intro
theorem sq52_60 : sq 52 60 B52_60 := sq_take 9 (e := 77) (by decide +kernel) True.intro
theorem sq52_45 : sq 52 45 B52_45 := sq_take 9 (e := 60) (by decide +kernel) True.intro
theorem sq52_26 : sq 52 26 B52_26 := sq_take 11 (e := 45) (by decide +kernel) True.intro
theorem sq52_19 : sq 52 19 B52_19 := sq_take 5 (e := 26) (by decide +kernel) sq52_26
theorem sq52_16 : sq 52 16 B52_16 := sq_take 2 (e := 19) (by decide +kernel) True.intro
theorem sq52_0 : sq 52 0 B52_0 := sq_take 9 (e := 16) (by decide +kernel) sq52_16
set_option maxRecDepth 100000 in
theorem sqM_52 : ∀ b, sq 52 b (tG 52 b) := show ∀ b, sq 52 b (lkB tb52 b) from lkB_sq (List.forall_mem_cons.mpr ⟨sq52_0, List.forall_mem_cons.mpr ⟨sq52_16, List.forall_mem_cons.mpr ⟨sq52_19, List.forall_mem_cons.mpr ⟨sq52_26, List.forall_mem_cons.mpr ⟨sq52_45, List.forall_mem_cons.mpr ⟨sq52_60, List.forall_mem_cons.mpr ⟨sq52_77, List.forall_mem_cons.mpr ⟨sq52_100, List.forall_mem_cons.mpr ⟨sq52_105, List.forall_mem_cons.mpr ⟨sq52_115, List.forall_mem_cons.mpr ⟨sq52_127, List.forall_mem_cons.mpr ⟨sq52_171, List.forall_mem_cons.mpr ⟨sq52_181, List.forall_mem_cons.mpr ⟨sq52_196, (fun _ h => absurd h List.not_mem_nil)⟩⟩⟩⟩⟩⟩⟩⟩⟩⟩⟩⟩⟩⟩)
theorem sq53_30 : sq 53 30 B53_30 := sq_take 2 (e := 32) (by decide +kernel) True.intro
theorem sq53_24 : sq 53 24 B53_24 := sq_take 2 (e := 30) (by decide +kernel) True.intro
theorem sq53_2 : sq 53 2 B53_2 := sq_take 15 (e := 24) (by decide +kernel) True.intro
theorem sq53_0 : sq 53 0 B53_0 := sq_take 3 (e := 2) (by decide +kernel) sq53_2
set_option maxRecDepth 100000 in
theorem sqM_53 : ∀ b, sq 53 b (tG 53 b) := show ∀ b, sq 53 b (lkB tb53 b) from lkB_sq (List.forall_mem_cons.mpr ⟨sq53_0, List.forall_mem_cons.mpr ⟨sq53_2, List.forall_mem_cons.mpr ⟨sq53_24, List.forall_mem_cons.mpr ⟨sq53_30, (fun _ h => absurd h List.not_mem_nil)⟩⟩⟩⟩)
theorem sq54_64 : sq 54 64 B54_64 := sq_take 3 (e := 66) (by decide +kernel) True.intro
theorem sq54_29 : sq 54 29 B54_29 := sq_take 23 (e := 64) (by decide +kernel) sq54_64
theorem sq54_19 : sq 54 19 B54_19 := sq_take 6 (e := 29) (by decide +kernel) True.intro
theorem sq54_12 : sq 54 12 B54_12 := sq_take 5 (e := 19) (by decide +kernel) sq54_19
theorem sq54_0 : sq 54 0 B54_0 := sq_take 8 (e := 12) (by decide +kernel) True.intro
set_option maxRecDepth 100000 in
theorem sqM_54 : ∀ b, sq 54 b (tG 54 b) := show ∀ b, sq 54 b (lkB tb54 b) from lkB_sq (List.forall_mem_cons.mpr ⟨sq54_0, List.forall_mem_cons.mpr ⟨sq54_12, List.forall_mem_cons.mpr ⟨sq54_19, List.forall_mem_cons.mpr ⟨sq54_29, List.forall_mem_cons.mpr ⟨sq54_64, (fun _ h => absurd h List.not_mem_nil)⟩⟩⟩⟩⟩)
theorem sq55_52 : sq 55 52 B55_52 := sq_take 1 (e := 53) (by decide +kernel) True.intro
theorem sq55_12 : sq 55 12 B55_12 := sq_take 27 (e := 52) (by decide +kernel) True.intro
theorem sq55_0 : sq 55 0 B55_0 := sq_take 11 (e := 12) (by decide +kernel) sq55_12
set_option maxRecDepth 100000 in
theorem sqM_55 : ∀ b, sq 55 b (tG 55 b) := show ∀ b, sq 55 b (lkB tb55 b) from lkB_sq (List.forall_mem_cons.mpr ⟨sq55_0, List.forall_mem_cons.mpr ⟨sq55_12, List.forall_mem_cons.mpr ⟨sq55_52, (fun _ h => absurd h List.not_mem_nil)⟩⟩⟩)
theorem sq56_58 : sq 56 58 B56_58 := sq_take 1 (e := 59) (by decide +kernel) True.intro
theorem sq56_52 : sq 56 52 B56_52 := sq_take 3 (e := 58) (by decide +kernel) True.intro
theorem sq56_15 : sq 56 15 B56_15 := sq_take 23 (e := 52) (by decide +kernel) sq56_52
theorem sq56_8 : sq 56 8 B56_8 := sq_take 5 (e := 15) (by decide +kernel) sq56_15
theorem sq56_0 : sq 56 0 B56_0 := sq_take 5 (e := 8) (by decide +kernel) True.intro
set_option maxRecDepth 100000 in
theorem sqM_56 : ∀ b, sq 56 b (tG 56 b) := show ∀ b, sq 56 b (lkB tb56 b) from lkB_sq (List.forall_mem_cons.mpr ⟨sq56_0, List.forall_mem_cons.mpr ⟨sq56_8, List.forall_mem_cons.mpr ⟨sq56_15, List.forall_mem_cons.mpr ⟨sq56_52, List.forall_mem_cons.mpr ⟨sq56_58, (fun _ h => absurd h List.not_mem_nil)⟩⟩⟩⟩⟩)
theorem sq57_41 : sq 57 41 B57_41 := sq_take 10 (e := 53) (by decide +kernel) True.intro
theorem sq57_40 : sq 57 40 B57_40 := sq_take 1 (e := 41) (by decide +kernel) sq57_41
theorem sq57_25 : sq 57 25 B57_25 := sq_take 9 (e := 40) (by decide +kernel) True.intro
theorem sq57_24 : sq 57 24 B57_24 := sq_take 1 (e := 25) (by decide +kernel) sq57_25
theorem sq57_0 : sq 57 0 B57_0 := sq_take 17 (e := 24) (by decide +kernel) True.intro
set_option maxRecDepth 100000 in
theorem sqM_57 : ∀ b, sq 57 b (tG 57 b) := show ∀ b, sq 57 b (lkB tb57 b) from lkB_sq (List.forall_mem_cons.mpr ⟨sq57_0, List.forall_mem_cons.mpr ⟨sq57_24, List.forall_mem_cons.mpr ⟨sq57_25, List.forall_mem_cons.mpr ⟨sq57_40, List.forall_mem_cons.mpr ⟨sq57_41, (fun _ h => absurd h List.not_mem_nil)⟩⟩⟩⟩⟩)
theorem sq58_98 : sq 58 98 B58_98 := sq_take 3 (e := 101) (by decide +kernel) True.intro
theorem sq58_81 : sq 58 81 B58_81 := sq_take 10 (e := 98) (by decide +kernel) sq58_98
theorem sq58_76 : sq 58 76 B58_76 := sq_take 4 (e := 81) (by decide +kernel) sq58_81
theorem sq58_42 : sq 58 42 B58_42 := sq_take 26 (e := 76) (by decide +kernel) sq58_76
theorem sq58_40 : sq 58 40 B58_40 := sq_take 2 (e := 42) (by decide +kernel) True.intro
theorem sq58_29 : sq 58 29 B58_29 := sq_take 7 (e := 40) (by decide +kernel) sq58_40
theorem sq58_24 : sq 58 24 B58_24 := sq_take 3 (e := 29) (by decide +kernel) sq58_29
theorem sq58_0 : sq 58 0 B58_0 := sq_take 17 (e := 24) (by decide +kernel) True.intro
set_option maxRecDepth 100000 in
theorem sqM_58 : ∀ b, sq 58 b (tG 58 b) := show ∀ b, sq 58 b (lkB tb58 b) from lkB_sq (List.forall_mem_cons.mpr ⟨sq58_0, List.forall_mem_cons.mpr ⟨sq58_24, List.forall_mem_cons.mpr ⟨sq58_29, List.forall_mem_cons.mpr ⟨sq58_40, List.forall_mem_cons.mpr ⟨sq58_42, List.forall_mem_cons.mpr ⟨sq58_76, List.forall_mem_cons.mpr ⟨sq58_81, List.forall_mem_cons.mpr ⟨sq58_98, (fun _ h => absurd h List.not_mem_nil)⟩⟩⟩⟩⟩⟩⟩⟩)
