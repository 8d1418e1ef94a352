theorem sq386_157 : sq 386 157 B386_157 := sq_take 2 (e := 159) (by decide +kernel) True.intro
theorem sq386_156 : sq 386 156 B386_156 := sq_take 1 (e := 157) (by decide +kernel) True.intro
theorem sq386_153 : sq 386 153 B386_153 := sq_take 1 (e := 156) (by decide +kernel) sq386_156
theorem sq386_143 : sq 386 143 B386_143 := sq_take 4 (e := 153) (by decide +kernel) True.intro
theorem sq386_142 : sq 386 142 B386_142 := sq_take 1 (e := 143) (by decide +kernel) True.intro
theorem sq386_139 : sq 386 139 B386_139 := sq_take 1 (e := 142) (by decide +kernel) sq386_142
theorem sq386_129 : sq 386 129 B386_129 := sq_take 4 (e := 139) (by decide +kernel) True.intro
theorem sq386_128 : sq 386 128 B386_128 := sq_take 1 (e := 129) (by decide +kernel) True.intro
theorem sq386_126 : sq 386 126 B386_126 := sq_take 1 (e := 128) (by decide +kernel) sq386_128
theorem sq386_118 : sq 386 118 B386_118 := sq_take 4 (e := 126) (by decide +kernel) True.intro
theorem sq386_117 : sq 386 117 B386_117 := sq_take 1 (e := 118) (by decide +kernel) True.intro
theorem sq386_115 : sq 386 115 B386_115 := sq_take 1 (e := 117) (by decide +kernel) sq386_117
theorem sq386_107 : sq 386 107 B386_107 := sq_take 4 (e := 115) (by decide +kernel) True.intro
theorem sq386_106 : sq 386 106 B386_106 := sq_take 1 (e := 107) (by decide +kernel) True.intro
theorem sq386_104 : sq 386 104 B386_104 := sq_take 1 (e := 106) (by decide +kernel) sq386_106
theorem sq386_95 : sq 386 95 B386_95 := sq_take 4 (e := 104) (by decide +kernel) True.intro
theorem sq386_94 : sq 386 94 B386_94 := sq_take 1 (e := 95) (by decide +kernel) True.intro
theorem sq386_92 : sq 386 92 B386_92 := sq_take 1 (e := 94) (by decide +kernel) sq386_94
theorem sq386_83 : sq 386 83 B386_83 := sq_take 4 (e := 92) (by decide +kernel) True.intro
theorem sq386_82 : sq 386 82 B386_82 := sq_take 1 (e := 83) (by decide +kernel) True.intro
theorem sq386_80 : sq 386 80 B386_80 := sq_take 1 (e := 82) (by decide +kernel) sq386_82
theorem sq386_72 : sq 386 72 B386_72 := sq_take 4 (e := 80) (by decide +kernel) True.intro
theorem sq386_0 : sq 386 0 B386_0 := sq_take 4 (e := 72) (by decide +kernel) True.intro
set_option maxRecDepth 100000 in
theorem sqM_386 : ∀ b, sq 386 b (tG 386 b) := show ∀ b, sq 386 b (lkB tb386 b) from lkB_sq (List.forall_mem_cons.mpr ⟨sq386_0, List.forall_mem_cons.mpr ⟨sq386_72, List.forall_mem_cons.mpr ⟨sq386_80, List.forall_mem_cons.mpr ⟨sq386_82, List.forall_mem_cons.mpr ⟨sq386_83, List.forall_mem_cons.mpr ⟨sq386_92, List.forall_mem_cons.mpr ⟨sq386_94, List.forall_mem_cons.mpr ⟨sq386_95, List.forall_mem_cons.mpr ⟨sq386_104, List.forall_mem_cons.mpr ⟨sq386_106, List.forall_mem_cons.mpr ⟨sq386_107, List.forall_mem_cons.mpr ⟨sq386_115, List.forall_mem_cons.mpr ⟨sq386_117, List.forall_mem_cons.mpr ⟨sq386_118, List.forall_mem_cons.mpr ⟨sq386_126, List.forall_mem_cons.mpr ⟨sq386_128, List.forall_mem_cons.mpr ⟨sq386_129, List.forall_mem_cons.mpr ⟨sq386_139, List.forall_mem_cons.mpr ⟨sq386_142, List.forall_mem_cons.mpr ⟨sq386_143, List.forall_mem_cons.mpr ⟨sq386_153, List.forall_mem_cons.mpr ⟨sq386_156, List.forall_mem_cons.mpr ⟨sq386_157, (fun _ h => absurd h List.not_mem_nil)⟩⟩⟩⟩⟩⟩⟩⟩⟩⟩⟩⟩⟩⟩⟩⟩⟩⟩⟩⟩⟩⟩⟩)
theorem sq387_282 : sq 387 282 B387_282 := sq_take 2 (e := 283) (by decide +kernel) True.intro
theorem sq387_275 : sq 387 275 B387_275 := sq_take 4 (e := 282) (by decide +kernel) sq387_282
theorem sq387_271 : sq 387 271 B387_271 := sq_take 2 (e := 275) (by decide +kernel) sq387_275
theorem sq387_258 : sq 387 258 B387_258 := sq_take 7 (e := 271) (by decide +kernel) True.intro
theorem sq387_256 : sq 387 256 B387_256 := sq_take 1 (e := 258) (by decide +kernel) sq387_258
theorem sq387_244 : sq 387 244 B387_244 := sq_take 8 (e := 256) (by decide +kernel) True.intro
theorem sq387_240 : sq 387 240 B387_240 := sq_take 2 (e := 244) (by decide +kernel) sq387_244
theorem sq387_228 : sq 387 228 B387_228 := sq_take 7 (e := 240) (by decide +kernel) True.intro
theorem sq387_217 : sq 387 217 B387_217 := sq_take 6 (e := 228) (by decide +kernel) sq387_228
theorem sq387_210 : sq 387 210 B387_210 := sq_take 4 (e := 217) (by decide +kernel) sq387_217
theorem sq387_209 : sq 387 209 B387_209 := sq_take 1 (e := 210) (by decide +kernel) sq387_210
theorem sq387_196 : sq 387 196 B387_196 := sq_take 8 (e := 209) (by decide +kernel) True.intro
theorem sq387_191 : sq 387 191 B387_191 := sq_take 4 (e := 196) (by decide +kernel) sq387_196
theorem sq387_188 : sq 387 188 B387_188 := sq_take 1 (e := 191) (by decide +kernel) sq387_191
theorem sq387_178 : sq 387 178 B387_178 := sq_take 5 (e := 188) (by decide +kernel) True.intro
theorem sq387_174 : sq 387 174 B387_174 := sq_take 3 (e := 178) (by decide +kernel) sq387_178
theorem sq387_170 : sq 387 170 B387_170 := sq_take 3 (e := 174) (by decide +kernel) sq387_174
theorem sq387_159 : sq 387 159 B387_159 := sq_take 6 (e := 170) (by decide +kernel) sq387_170
theorem sq387_146 : sq 387 146 B387_146 := sq_take 7 (e := 159) (by decide +kernel) sq387_159
theorem sq387_141 : sq 387 141 B387_141 := sq_take 4 (e := 146) (by decide +kernel) sq387_146
theorem sq387_140 : sq 387 140 B387_140 := sq_take 2 (e := 141) (by decide +kernel) sq387_141
theorem sq387_133 : sq 387 133 B387_133 := sq_take 4 (e := 140) (by decide +kernel) True.intro
theorem sq387_124 : sq 387 124 B387_124 := sq_take 5 (e := 133) (by decide +kernel) sq387_133
theorem sq387_120 : sq 387 120 B387_120 := sq_take 3 (e := 124) (by decide +kernel) sq387_124
theorem sq387_119 : sq 387 119 B387_119 := sq_take 2 (e := 120) (by decide +kernel) True.intro
theorem sq387_111 : sq 387 111 B387_111 := sq_take 5 (e := 119) (by decide +kernel) sq387_119
theorem sq387_110 : sq 387 110 B387_110 := sq_take 1 (e := 111) (by decide +kernel) sq387_111
theorem sq387_81 : sq 387 81 B387_81 := sq_take 16 (e := 110) (by decide +kernel) True.intro
theorem sq387_26 : sq 387 26 B387_26 := sq_take 30 (e := 81) (by decide +kernel) sq387_81
theorem sq387_22 : sq 387 22 B387_22 := sq_take 3 (e := 26) (by decide +kernel) sq387_26
theorem sq387_11 : sq 387 11 B387_11 := sq_take 6 (e := 22) (by decide +kernel) sq387_22
theorem sq387_4 : sq 387 4 B387_4 := sq_take 4 (e := 11) (by decide +kernel) sq387_11
theorem sq387_0 : sq 387 0 B387_0 := sq_take 3 (e := 4) (by decide +kernel) sq387_4
set_option maxRecDepth 100000 in
theorem sqM_387 : ∀ b, sq 387 b (tG 387 b) := show ∀ b, sq 387 b (lkB tb387 b) from lkB_sq (List.forall_mem_cons.mpr ⟨sq387_0, List.forall_mem_cons.mpr ⟨sq387_4, List.forall_mem_cons.mpr ⟨sq387_11, List.forall_mem_cons.mpr ⟨sq387_22, List.forall_mem_cons.mpr ⟨sq387_26, List.forall_mem_cons.mpr ⟨sq387_81, List.forall_mem_cons.mpr ⟨sq387_110, List.forall_mem_cons.mpr ⟨sq387_111, List.forall_mem_cons.mpr ⟨sq387_119, List.forall_mem_cons.mpr ⟨sq387_120, List.forall_mem_cons.mpr ⟨sq387_124, List.forall_mem_cons.mpr ⟨sq387_133, List.forall_mem_cons.mpr ⟨sq387_140, List.forall_mem_cons.mpr ⟨sq387_141, List.forall_mem_cons.mpr ⟨sq387_146, List.forall_mem_cons.mpr ⟨sq387_159, List.forall_mem_cons.mpr ⟨sq387_170, List.forall_mem_cons.mpr ⟨sq387_174, List.forall_mem_cons.mpr ⟨sq387_178, List.forall_mem_cons.mpr ⟨sq387_188, List.forall_mem_cons.mpr ⟨sq387_191, List.forall_mem_cons.mpr ⟨sq387_196, List.forall_mem_cons.mpr ⟨sq387_209, List.forall_mem_cons.mpr ⟨sq387_210, List.forall_mem_cons.mpr ⟨sq387_217, List.forall_mem_cons.mpr ⟨sq387_228, List.forall_mem_cons.mpr ⟨sq387_240, List.forall_mem_cons.mpr ⟨sq387_244, List.forall_mem_cons.mpr ⟨sq387_256, List.forall_mem_cons.mpr ⟨sq387_258, List.forall_mem_cons.mpr ⟨sq387_271, List.forall_mem_cons.mpr ⟨sq387_275, List.forall_mem_cons.mpr ⟨sq387_282, (fun _ h => absurd h List.not_mem_nil)⟩⟩⟩⟩⟩⟩⟩⟩⟩⟩⟩⟩⟩⟩⟩⟩⟩⟩⟩⟩⟩⟩⟩⟩⟩⟩⟩⟩⟩⟩⟩⟩⟩)
theorem sq388_71 : sq 388 71 B388_71 := sq_take 2 (e := 72) (by decide +kernel) True.intro
theorem sq388_61 : sq 388 61 B388_61 := sq_take 6 (e := 71) (by decide +kernel) sq388_71
theorem sq388_60 : sq 388 60 B388_60 := sq_take 2 (e := 61) (by decide +kernel) True.intro
theorem sq388_47 : sq 388 47 B388_47 := sq_take 8 (e := 60) (by decide +kernel) sq388_60
theorem sq388_36 : sq 388 36 B388_36 := sq_take 6 (e := 47) (by decide +kernel) sq388_47
theorem sq388_23 : sq 388 23 B388_23 := sq_take 6 (e := 36) (by decide +kernel) sq388_36
theorem sq388_19 : sq 388 19 B388_19 := sq_take 3 (e := 23) (by decide +kernel) sq388_23
theorem sq388_0 : sq 388 0 B388_0 := sq_take 10 (e := 19) (by decide +kernel) sq388_19
set_option maxRecDepth 100000 in
theorem sqM_388 : ∀ b, sq 388 b (tG 388 b) := show ∀ b, sq 388 b (lkB tb388 b) from lkB_sq (List.forall_mem_cons.mpr ⟨sq388_0, List.forall_mem_cons.mpr ⟨sq388_19, List.forall_mem_cons.mpr ⟨sq388_23, List.forall_mem_cons.mpr ⟨sq388_36, List.forall_mem_cons.mpr ⟨sq388_47, List.forall_mem_cons.mpr ⟨sq388_60, List.forall_mem_cons.mpr ⟨sq388_61, List.forall_mem_cons.mpr ⟨sq388_71, (fun _ h => absurd h List.not_mem_nil)⟩⟩⟩⟩⟩⟩⟩⟩)
theorem sq389_19 : sq 389 19 B389_19 := sq_take 1 (e := 20) (by decide +kernel) True.intro
theorem sq389_18 : sq 389 18 B389_18 := sq_take 1 (e := 19) (by decide +kernel) sq389_19
theorem sq389_0 : sq 389 0 B389_0 := sq_take 11 (e := 18) (by decide +kernel) True.intro
set_option maxRecDepth 100000 in
theorem sqM_389 : ∀ b, sq 389 b (tG 389 b) := show ∀ b, sq 389 b (lkB tb389 b) from lkB_sq (List.forall_mem_cons.mpr ⟨sq389_0, List.forall_mem_cons.mpr ⟨sq389_18, List.forall_mem_cons.mpr ⟨sq389_19, (fun _ h => absurd h List.not_mem_nil)⟩⟩⟩)
theorem sq390_0 : sq 390 0 B390_0 := sq_take 15 (e := 22) (by decide +kernel) True.intro
set_option maxRecDepth 100000 in
theorem sqM_390 : ∀ b, sq 390 b (tG 390 b) := show ∀ b, sq 390 b (lkB tb390 b) from lkB_sq (List.forall_mem_cons.mpr ⟨sq390_0, (fun _ h => absurd h List.not_mem_nil)⟩)
theorem sq391_25 : sq 391 25 B391_25 := sq_take 1 (e := 26) (by decide +kernel) True.intro
theorem sq391_19 : sq 391 19 B391_19 := sq_take 3 (e := 25) (by decide +kernel) True.intro
theorem sq391_16 : sq 391 16 B391_16 := sq_take 2 (e := 19) (by decide +kernel) sq391_19
theorem sq391_7 : sq 391 7 B391_7 := sq_take 6 (e := 16) (by decide +kernel) sq391_16
theorem sq391_2 : sq 391 2 B391_2 := sq_take 4 (e := 7) (by decide +kernel) sq391_7
theorem sq391_0 : sq 391 0 B391_0 := sq_take 3 (e := 2) (by decide +kernel) sq391_2
set_option maxRecDepth 100000 in
theorem sqM_391 : ∀ b, sq 391 b (tG 391 b) := show ∀ b, sq 391 b (lkB tb391 b) from lkB_sq (List.forall_mem_cons.mpr ⟨sq391_0, List.forall_mem_cons.mpr ⟨sq391_2, List.forall_mem_cons.mpr ⟨sq391_7, List.forall_mem_cons.mpr ⟨sq391_16, List.forall_mem_cons.mpr ⟨sq391_19, List.forall_mem_cons.mpr ⟨sq391_25, (fun _ h => absurd h List.not_mem_nil)⟩⟩⟩⟩⟩⟩)
theorem sq392_76 : sq 392 76 B392_76 := sq_take 1 (e := 77) (by decide +kernel) True.intro
theorem sq392_70 : sq 392 70 B392_70 := sq_take 3 (e := 76) (by decide +kernel) True.intro
theorem sq392_54 : sq 392 54 B392_54 := sq_take 9 (e := 70) (by decide +kernel) sq392_70
theorem sq392_13 : sq 392 13 B392_13 := sq_take 26 (e := 54) (by decide +kernel) sq392_54
theorem sq392_5 : sq 392 5 B392_5 := sq_take 4 (e := 13) (by decide +kernel) sq392_13
theorem sq392_0 : sq 392 0 B392_0 := sq_take 5 (e := 5) (by decide +kernel) sq392_5
set_option maxRecDepth 100000 in
theorem sqM_392 : ∀ b, sq 392 b (tG 392 b) := show ∀ b, sq 392 b (lkB tb392 b) from lkB_sq (List.forall_mem_cons.mpr ⟨sq392_0, List.forall_mem_cons.mpr ⟨sq392_5, List.forall_mem_cons.mpr ⟨sq392_13, List.forall_mem_cons.mpr ⟨sq392_54, List.forall_mem_cons.mpr ⟨sq392_70, List.forall_mem_cons.mpr ⟨sq392_76, (fun _ h => absurd h List.not_mem_nil)⟩⟩⟩⟩⟩⟩)
theorem sq393_26 : sq 393 26 B393_26 := sq_take 2 (e := 27) (by decide +kernel) True.intro
theorem sq393_23 : sq 393 23 B393_23 := sq_take 2 (e := 26) (by decide +kernel) sq393_26
theorem sq393_21 : sq 393 21 B393_21 := sq_take 2 (e := 23) (by decide +kernel) sq393_23
theorem sq393_10 : sq 393 10 B393_10 := sq_take 8 (e := 21) (by decide +kernel) True.intro
theorem sq393_0 : sq 393 0 B393_0 := sq_take 6 (e := 10) (by decide +kernel) sq393_10
set_option maxRecDepth 100000 in
theorem sqM_393 : ∀ b, sq 393 b (tG 393 b) := show ∀ b, sq 393 b (lkB tb393 b) from lkB_sq (List.forall_mem_cons.mpr ⟨sq393_0, List.forall_mem_cons.mpr ⟨sq393_10, List.forall_mem_cons.mpr ⟨sq393_21, List.forall_mem_cons.mpr ⟨sq393_23, List.forall_mem_cons.mpr ⟨sq393_26, (fun _ h => absurd h List.not_mem_nil)⟩⟩⟩⟩⟩)
theorem sq394_31 : sq 394 31 B394_31 := sq_take 2 (e := 32) (by decide +kernel) True.intro
theorem sq394_28 : sq 394 28 B394_28 := sq_take 2 (e := 31) (by decide +kernel) sq394_31
theorem sq394_26 : sq 394 26 B394_26 := sq_take 2 (e := 28) (by decide +kernel) sq394_28
theorem sq394_15 : sq 394 15 B394_15 := sq_take 8 (e := 26) (by decide +kernel) True.intro
theorem sq394_12 : sq 394 12 B394_12 := sq_take 2 (e := 15) (by decide +kernel) sq394_15
theorem sq394_10 : sq 394 10 B394_10 := sq_take 1 (e := 12) (by decide +kernel) sq394_12
theorem sq394_0 : sq 394 0 B394_0 := sq_take 6 (e := 10) (by decide +kernel) True.intro
set_option maxRecDepth 100000 in
theorem sqM_394 : ∀ b, sq 394 b (tG 394 b) := show ∀ b, sq 394 b (lkB tb394 b) from lkB_sq (List.forall_mem_cons.mpr ⟨sq394_0, List.forall_mem_cons.mpr ⟨sq394_10, List.forall_mem_cons.mpr ⟨sq394_12, List.forall_mem_cons.mpr ⟨sq394_15, List.forall_mem_cons.mpr ⟨sq394_26, List.forall_mem_cons.mpr ⟨sq394_28, List.forall_mem_cons.mpr ⟨sq394_31, (fun _ h => absurd h List.not_mem_nil)⟩⟩⟩⟩⟩⟩⟩)
theorem sq395_21 : sq 395 21 B395_21 := sq_take 2 (e := 22) (by decide +kernel) True.intro
theorem sq395_15 : sq 395 15 B395_15 := sq_take 5 (e := 21) (by decide +kernel) sq395_21
theorem sq395_12 : sq 395 12 B395_12 := sq_take 2 (e := 15) (by decide +kernel) sq395_15
theorem sq395_10 : sq 395 10 B395_10 := sq_take 1 (e := 12) (by decide +kernel) sq395_12
theorem sq395_0 : sq 395 0 B395_0 := sq_take 6 (e := 10) (by decide +kernel) True.intro
set_option maxRecDepth 100000 in
theorem sqM_395 : ∀ b, sq 395 b (tG 395 b) := show ∀ b, sq 395 b (lkB tb395 b) from lkB_sq (List.forall_mem_cons.mpr ⟨sq395_0, List.forall_mem_cons.mpr ⟨sq395_10, List.forall_mem_cons.mpr ⟨sq395_12, List.forall_mem_cons.mpr ⟨sq395_15, List.forall_mem_cons.mpr ⟨sq395_21, (fun _ h => absurd h List.not_mem_nil)⟩⟩⟩⟩⟩)
theorem sq396_42 : sq 396 42 B396_42 := sq_take 1 (e := 43) (by decide +kernel) True.intro
theorem sq396_39 : sq 396 39 B396_39 := sq_take 1 (e := 42) (by decide +kernel) sq396_42
theorem sq396_27 : sq 396 27 B396_27 := sq_take 5 (e := 39) (by decide +kernel) True.intro
theorem sq396_15 : sq 396 15 B396_15 := sq_take 5 (e := 27) (by decide +kernel) True.intro
theorem sq396_0 : sq 396 0 B396_0 := sq_take 9 (e := 15) (by decide +kernel) True.intro
set_option maxRecDepth 100000 in
theorem sqM_396 : ∀ b, sq 396 b (tG 396 b) := show ∀ b, sq 396 b (lkB tb396 b) from lkB_sq (List.forall_mem_cons.mpr ⟨sq396_0, List.forall_mem_cons.mpr ⟨sq396_15, List.forall_mem_cons.mpr ⟨sq396_27, List.forall_mem_cons.mpr ⟨sq396_39, List.forall_mem_cons.mpr ⟨sq396_42, (fun _ h => absurd h List.not_mem_nil)⟩⟩⟩⟩⟩)
theorem sq397_79 : sq 397 79 B397_79 := sq_take 2 (e := 80) (by decide +kernel) True.intro
theorem sq397_73 : sq 397 73 B397_73 := sq_take 4 (e := 79) (by decide +kernel) sq397_79
theorem sq397_70 : sq 397 70 B397_70 := sq_take 2 (e := 73) (by decide +kernel) sq397_73
theorem sq397_67 : sq 397 67 B397_67 := sq_take 2 (e := 70) (by decide +kernel) sq397_70
theorem sq397_54 : sq 397 54 B397_54 := sq_take 8 (e := 67) (by decide +kernel) True.intro
theorem sq397_51 : sq 397 51 B397_51 := sq_take 2 (e := 54) (by decide +kernel) sq397_54
theorem sq397_48 : sq 397 48 B397_48 := sq_take 1 (e := 51) (by decide +kernel) sq397_51
theorem sq397_36 : sq 397 36 B397_36 := sq_take 6 (e := 48) (by decide +kernel) True.intro
theorem sq397_30 : sq 397 30 B397_30 := sq_take 5 (e := 36) (by decide +kernel) sq397_36
theorem sq397_27 : sq 397 27 B397_27 := sq_take 2 (e := 30) (by decide +kernel) sq397_30
theorem sq397_22 : sq 397 22 B397_22 := sq_take 4 (e := 27) (by decide +kernel) sq397_27
theorem sq397_19 : sq 397 19 B397_19 := sq_take 2 (e := 22) (by decide +kernel) sq397_22
theorem sq397_17 : sq 397 17 B397_17 := sq_take 1 (e := 19) (by decide +kernel) sq397_19
theorem sq397_7 : sq 397 7 B397_7 := sq_take 6 (e := 17) (by decide +kernel) True.intro
theorem sq397_0 : sq 397 0 B397_0 := sq_take 4 (e := 7) (by decide +kernel) sq397_7
set_option maxRecDepth 100000 in
theorem sqM_397 : ∀ b, sq 397 b (tG 397 b) := show ∀ b, sq 397 b (lkB tb397 b) from lkB_sq (List.forall_mem_cons.mpr ⟨sq397_0, List.forall_mem_cons.mpr ⟨sq397_7, List.forall_mem_cons.mpr ⟨sq397_17, List.forall_mem_cons.mpr ⟨sq397_19, List.forall_mem_cons.mpr ⟨sq397_22, List.forall_mem_cons.mpr ⟨sq397_27, List.forall_mem_cons.mpr ⟨sq397_30, List.forall_mem_cons.mpr ⟨sq397_36, List.forall_mem_cons.mpr ⟨sq397_48, List.forall_mem_cons.mpr ⟨sq397_51, List.forall_mem_cons.mpr ⟨sq397_54, List.forall_mem_cons.mpr ⟨sq397_67, List.forall_mem_cons.mpr ⟨sq397_70, List.forall_mem_cons.mpr ⟨sq397_73, List.forall_mem_cons.mpr ⟨sq397_79, (fun _ h => absurd h List.not_mem_nil)⟩⟩⟩⟩⟩⟩⟩⟩⟩⟩⟩⟩⟩⟩⟩)
theorem sq398_179 : sq 398 179 B398_179 := sq_take 3 (e := 184) (by decide +kernel) True.intro
theorem sq398_174 : sq 398 174 B398_174 := sq_take 4 (e := 179) (by decide +kernel) True.intro
theorem sq398_173 : sq 398 173 B398_173 := sq_take 1 (e := 174) (by decide +kernel) sq398_174
theorem sq398_162 : sq 398 162 B398_162 := sq_take 7 (e := 173) (by decide +kernel) True.intro
theorem sq398_156 : sq 398 156 B398_156 := sq_take 4 (e := 162) (by decide +kernel) sq398_162
theorem sq398_151 : sq 398 151 B398_151 := sq_take 3 (e := 156) (by decide +kernel) sq398_156
theorem sq398_148 : sq 398 148 B398_148 := sq_take 2 (e := 151) (by decide +kernel) True.intro
theorem sq398_123 : sq 398 123 B398_123 := sq_take 16 (e := 148) (by decide +kernel) sq398_148
theorem sq398_120 : sq 398 120 B398_120 := sq_take 1 (e := 123) (by decide +kernel) True.intro
theorem sq398_114 : sq 398 114 B398_114 := sq_take 3 (e := 120) (by decide +kernel) True.intro
theorem sq398_111 : sq 398 111 B398_111 := sq_take 2 (e := 114) (by decide +kernel) sq398_114
theorem sq398_103 : sq 398 103 B398_103 := sq_take 5 (e := 111) (by decide +kernel) sq398_111
theorem sq398_72 : sq 398 72 B398_72 := sq_take 18 (e := 103) (by decide +kernel) True.intro
theorem sq398_68 : sq 398 68 B398_68 := sq_take 3 (e := 72) (by decide +kernel) sq398_72
theorem sq398_54 : sq 398 54 B398_54 := sq_take 7 (e := 68) (by decide +kernel) sq398_68
theorem sq398_25 : sq 398 25 B398_25 := sq_take 20 (e := 54) (by decide +kernel) sq398_54
theorem sq398_18 : sq 398 18 B398_18 := sq_take 5 (e := 25) (by decide +kernel) sq398_25
theorem sq398_16 : sq 398 16 B398_16 := sq_take 2 (e := 18) (by decide +kernel) True.intro
theorem sq398_4 : sq 398 4 B398_4 := sq_take 7 (e := 16) (by decide +kernel) sq398_16
theorem sq398_0 : sq 398 0 B398_0 := sq_take 3 (e := 4) (by decide +kernel) sq398_4
set_option maxRecDepth 100000 in
theorem sqM_398 : ∀ b, sq 398 b (tG 398 b) := show ∀ b, sq 398 b (lkB tb398 b) from lkB_sq (List.forall_mem_cons.mpr ⟨sq398_0, List.forall_mem_cons.mpr ⟨sq398_4, List.forall_mem_cons.mpr ⟨sq398_16, List.forall_mem_cons.mpr ⟨sq398_18, List.forall_mem_cons.mpr ⟨sq398_25, List.forall_mem_cons.mpr ⟨sq398_54, List.forall_mem_cons.mpr ⟨sq398_68, List.forall_mem_cons.mpr ⟨sq398_72, List.forall_mem_cons.mpr ⟨sq398_103, List.forall_mem_cons.mpr ⟨sq398_111, List.forall_mem_cons.mpr ⟨sq398_114, List.forall_mem_cons.mpr ⟨sq398_120, List.forall_mem_cons.mpr ⟨sq398_123, List.forall_mem_cons.mpr ⟨sq398_148, List.forall_mem_cons.mpr ⟨sq398_151, List.forall_mem_cons.mpr ⟨sq398_156, List.forall_mem_cons.mpr ⟨sq398_162, List.forall_mem_cons.mpr ⟨sq398_173, List.forall_mem_cons.mpr ⟨sq398_174, List.forall_mem_cons.mpr ⟨sq398_179, (fun _ h => absurd h List.not_mem_nil)⟩⟩⟩⟩⟩⟩⟩⟩⟩⟩⟩⟩⟩⟩⟩⟩⟩⟩⟩⟩)
theorem sq399_67 : sq 399 67 B399_67 := sq_take 2 (e := 68) (by decide +kernel) True.intro
theorem sq399_60 : sq 399 60 B399_60 := sq_take 4 (e := 67) (by decide +kernel) sq399_67
theorem sq399_46 : sq 399 46 B399_46 := sq_take 9 (e := 60) (by decide +kernel) sq399_60
theorem sq399_41 : sq 399 41 B399_41 := sq_take 4 (e := 46) (by decide +kernel) sq399_46
theorem sq399_34 : sq 399 34 B399_34 := sq_take 3 (e := 41) (by decide +kernel) sq399_41
theorem sq399_33 : sq 399 33 B399_33 := sq_take 2 (e := 34) (by decide +kernel) True.intro
theorem sq399_29 : sq 399 29 B399_29 := sq_take 3 (e := 33) (by decide +kernel) sq399_33
theorem sq399_24 : sq 399 24 B399_24 := sq_take 4 (e := 29) (by decide +kernel) sq399_29
theorem sq399_13 : sq 399 13 B399_13 := sq_take 6 (e := 24) (by decide +kernel) sq399_24
theorem sq399_9 : sq 399 9 B399_9 := sq_take 3 (e := 13) (by decide +kernel) sq399_13
theorem sq399_6 : sq 399 6 B399_6 := sq_take 2 (e := 9) (by decide +kernel) sq399_9
theorem sq399_0 : sq 399 0 B399_0 := sq_take 5 (e := 6) (by decide +kernel) sq399_6
set_option maxRecDepth 100000 in
theorem sqM_399 : ∀ b, sq 399 b (tG 399 b) := show ∀ b, sq 399 b (lkB tb399 b) from lkB_sq (List.forall_mem_cons.mpr ⟨sq399_0, List.forall_mem_cons.mpr ⟨sq399_6, List.forall_mem_cons.mpr ⟨sq399_9, List.forall_mem_cons.mpr ⟨sq399_13, List.forall_mem_cons.mpr ⟨sq399_24, List.forall_mem_cons.mpr ⟨sq399_29, List.forall_mem_cons.mpr ⟨sq399_33, List.forall_mem_cons.mpr ⟨sq399_34, List.forall_mem_cons.mpr ⟨sq399_41, List.forall_mem_cons.mpr ⟨sq399_46, List.forall_mem_cons.mpr ⟨sq399_60, List.forall_mem_cons.mpr ⟨sq399_67, (fun _ h => absurd h List.not_mem_nil)⟩⟩⟩⟩⟩⟩⟩⟩⟩⟩⟩⟩)
theorem sq400_156 : sq 400 156 B400_156 := sq_take 2 (e := 157) (by decide +kernel) True.intro
theorem sq400_150 : sq 400 150 B400_150 := sq_take 4 (e := 156) (by decide +kernel) sq400_156
theorem sq400_147 : sq 400 147 B400_147 := sq_take 2 (e := 150) (by decide +kernel) True.intro
theorem sq400_144 : sq 400 144 B400_144 := sq_take 2 (e := 147) (by decide +kernel) sq400_147
theorem sq400_139 : sq 400 139 B400_139 := sq_take 4 (e := 144) (by decide +kernel) sq400_144
theorem sq400_132 : sq 400 132 B400_132 := sq_take 4 (e := 139) (by decide +kernel) sq400_139
theorem sq400_129 : sq 400 129 B400_129 := sq_take 2 (e := 132) (by decide +kernel) sq400_132
theorem sq400_125 : sq 400 125 B400_125 := sq_take 3 (e := 129) (by decide +kernel) sq400_129
theorem sq400_118 : sq 400 118 B400_118 := sq_take 5 (e := 125) (by decide +kernel) sq400_125
theorem sq400_115 : sq 400 115 B400_115 := sq_take 2 (e := 118) (by decide +kernel) True.intro
theorem sq400_112 : sq 400 112 B400_112 := sq_take 2 (e := 115) (by decide +kernel) sq400_115
theorem sq400_108 : sq 400 108 B400_108 := sq_take 3 (e := 112) (by decide +kernel) sq400_112
theorem sq400_103 : sq 400 103 B400_103 := sq_take 4 (e := 108) (by decide +kernel) sq400_108
theorem sq400_102 : sq 400 102 B400_102 := sq_take 1 (e := 103) (by decide +kernel) sq400_103
theorem sq400_86 : sq 400 86 B400_86 := sq_take 9 (e := 102) (by decide +kernel) True.intro
theorem sq400_79 : sq 400 79 B400_79 := sq_take 4 (e := 86) (by decide +kernel) sq400_86
theorem sq400_76 : sq 400 76 B400_76 := sq_take 2 (e := 79) (by decide +kernel) sq400_79
theorem sq400_70 : sq 400 70 B400_70 := sq_take 4 (e := 76) (by decide +kernel) sq400_76
theorem sq400_67 : sq 400 67 B400_67 := sq_take 2 (e := 70) (by decide +kernel) True.intro
theorem sq400_61 : sq 400 61 B400_61 := sq_take 4 (e := 67) (by decide +kernel) sq400_67
theorem sq400_58 : sq 400 58 B400_58 := sq_take 2 (e := 61) (by decide +kernel) True.intro
theorem sq400_52 : sq 400 52 B400_52 := sq_take 4 (e := 58) (by decide +kernel) sq400_58
theorem sq400_4 : sq 400 4 B400_4 := sq_take 6 (e := 52) (by decide +kernel) True.intro
theorem sq400_0 : sq 400 0 B400_0 := sq_take 3 (e := 4) (by decide +kernel) sq400_4
set_option maxRecDepth 100000 in
theorem sqM_400 : ∀ b, sq 400 b (tG 400 b) := show ∀ b, sq 400 b (lkB tb400 b) from lkB_sq (List.forall_mem_cons.mpr ⟨sq400_0, List.forall_mem_cons.mpr ⟨sq400_4, List.forall_mem_cons.mpr ⟨sq400_52, List.forall_mem_cons.mpr ⟨sq400_58, List.forall_mem_cons.mpr ⟨sq400_61, List.forall_mem_cons.mpr ⟨sq400_67, List.forall_mem_cons.mpr ⟨sq400_70, List.forall_mem_cons.mpr ⟨sq400_76, List.forall_mem_cons.mpr ⟨sq400_79, List.forall_mem_cons.mpr ⟨sq400_86, List.forall_mem_cons.mpr ⟨sq400_102, List.forall_mem_cons.mpr ⟨sq400_103, List.forall_mem_cons.mpr ⟨sq400_108, List.forall_mem_cons.mpr ⟨sq400_112, List.forall_mem_cons.mpr ⟨sq400_115, List.forall_mem_cons.mpr ⟨sq400_118, List.forall_mem_cons.mpr ⟨sq400_125, List.forall_mem_cons.mpr ⟨sq400_129, List.forall_mem_cons.mpr ⟨sq400_132, List.forall_mem_cons.mpr ⟨sq400_139, List.forall_mem_cons.mpr ⟨sq400_144, List.forall_mem_cons.mpr ⟨sq400_147, List.forall_mem_cons.mpr ⟨sq400_150, List.forall_mem_cons.mpr ⟨sq400_156, (fun _ h => absurd h List.not_mem_nil)⟩⟩⟩⟩⟩⟩⟩⟩⟩⟩⟩⟩⟩⟩⟩⟩⟩⟩⟩⟩⟩⟩⟩⟩)
theorem sq401_196 : sq 401 196 B401_196 := sq_take 2 (e := 197) (by decide +kernel) True.intro
theorem sq401_193 : sq 401 193 B401_193 := sq_take 2 (e := 196) (by decide +kernel) sq401_196
theorem sq401_187 : sq 401 187 B401_187 := sq_take 5 (e := 193) (by decide +kernel) sq401_193
theorem sq401_184 : sq 401 184 B401_184 := sq_take 2 (e := 187) (by decide +kernel) sq401_187
theorem sq401_181 : sq 401 181 B401_181 := sq_take 1 (e := 184) (by decide +kernel) sq401_184
theorem sq401_168 : sq 401 168 B401_168 := sq_take 5 (e := 181) (by decide +kernel) True.intro
theorem sq401_155 : sq 401 155 B401_155 := sq_take 5 (e := 168) (by decide +kernel) True.intro
theorem sq401_135 : sq 401 135 B401_135 := sq_take 10 (e := 155) (by decide +kernel) True.intro
theorem sq401_132 : sq 401 132 B401_132 := sq_take 2 (e := 135) (by decide +kernel) sq401_135
theorem sq401_128 : sq 401 128 B401_128 := sq_take 3 (e := 132) (by decide +kernel) sq401_132
theorem sq401_121 : sq 401 121 B401_121 := sq_take 6 (e := 128) (by decide +kernel) sq401_128
theorem sq401_118 : sq 401 118 B401_118 := sq_take 2 (e := 121) (by decide +kernel) sq401_121
theorem sq401_115 : sq 401 115 B401_115 := sq_take 1 (e := 118) (by decide +kernel) sq401_118
theorem sq401_100 : sq 401 100 B401_100 := sq_take 8 (e := 115) (by decide +kernel) True.intro
theorem sq401_97 : sq 401 97 B401_97 := sq_take 2 (e := 100) (by decide +kernel) True.intro
theorem sq401_91 : sq 401 91 B401_91 := sq_take 4 (e := 97) (by decide +kernel) sq401_97
theorem sq401_88 : sq 401 88 B401_88 := sq_take 2 (e := 91) (by decide +kernel) sq401_91
theorem sq401_84 : sq 401 84 B401_84 := sq_take 3 (e := 88) (by decide +kernel) sq401_88
theorem sq401_77 : sq 401 77 B401_77 := sq_take 6 (e := 84) (by decide +kernel) sq401_84
theorem sq401_74 : sq 401 74 B401_74 := sq_take 2 (e := 77) (by decide +kernel) sq401_77
theorem sq401_71 : sq 401 71 B401_71 := sq_take 1 (e := 74) (by decide +kernel) sq401_74
theorem sq401_56 : sq 401 56 B401_56 := sq_take 7 (e := 71) (by decide +kernel) True.intro
theorem sq401_40 : sq 401 40 B401_40 := sq_take 6 (e := 56) (by decide +kernel) sq401_56
theorem sq401_37 : sq 401 37 B401_37 := sq_take 2 (e := 40) (by decide +kernel) True.intro
theorem sq401_30 : sq 401 30 B401_30 := sq_take 4 (e := 37) (by decide +kernel) sq401_37
theorem sq401_27 : sq 401 27 B401_27 := sq_take 2 (e := 30) (by decide +kernel) sq401_30
theorem sq401_23 : sq 401 23 B401_23 := sq_take 3 (e := 27) (by decide +kernel) sq401_27
theorem sq401_4 : sq 401 4 B401_4 := sq_take 12 (e := 23) (by decide +kernel) sq401_23
theorem sq401_0 : sq 401 0 B401_0 := sq_take 3 (e := 4) (by decide +kernel) sq401_4
set_option maxRecDepth 100000 in
theorem sqM_401 : ∀ b, sq 401 b (tG 401 b) := show ∀ b, sq 401 b (lkB tb401 b) from lkB_sq (List.forall_mem_cons.mpr ⟨sq401_0, List.forall_mem_cons.mpr ⟨sq401_4, List.forall_mem_cons.mpr ⟨sq401_23, List.forall_mem_cons.mpr ⟨sq401_27, List.forall_mem_cons.mpr ⟨sq401_30, List.forall_mem_cons.mpr ⟨sq401_37, List.forall_mem_cons.mpr ⟨sq401_40, List.forall_mem_cons.mpr ⟨sq401_56, List.forall_mem_cons.mpr ⟨sq401_71, List.forall_mem_cons.mpr ⟨sq401_74, List.forall_mem_cons.mpr ⟨sq401_77, List.forall_mem_cons.mpr ⟨sq401_84, List.forall_mem_cons.mpr ⟨sq401_88, List.forall_mem_cons.mpr ⟨sq401_91, List.forall_mem_cons.mpr ⟨sq401_97, List.forall_mem_cons.mpr ⟨sq401_100, List.forall_mem_cons.mpr ⟨sq401_115, List.forall_mem_cons.mpr ⟨sq401_118, List.forall_mem_cons.mpr ⟨sq401_121, List.forall_mem_cons.mpr ⟨sq401_128, List.forall_mem_cons.mpr ⟨sq401_132, List.forall_mem_cons.mpr ⟨sq401_135, List.forall_mem_cons.mpr ⟨sq401_155, List.forall_mem_cons.mpr ⟨sq401_168, List.forall_mem_cons.mpr ⟨sq401_181, List.forall_mem_cons.mpr ⟨sq401_184, List.forall_mem_cons.mpr ⟨sq401_187, List.forall_mem_cons.mpr ⟨sq401_193, List.forall_mem_cons.mpr ⟨sq401_196, (fun _ h => absurd h List.not_mem_nil)⟩⟩⟩⟩⟩⟩⟩⟩⟩⟩⟩⟩⟩⟩⟩⟩⟩⟩⟩⟩⟩⟩⟩⟩⟩⟩⟩⟩⟩)
theorem sq402_242 : sq 402 242 B402_242 := sq_take 2 (e := 243) (by decide +kernel) True.intro
theorem sq402_239 : sq 402 239 B402_239 := sq_take 2 (e := 242) (by decide +kernel) sq402_242
theorem sq402_234 : sq 402 234 B402_234 := sq_take 3 (e := 239) (by decide +kernel) sq402_239
theorem sq402_231 : sq 402 231 B402_231 := sq_take 2 (e := 234) (by decide +kernel) True.intro
theorem sq402_228 : sq 402 228 B402_228 := sq_take 2 (e := 231) (by decide +kernel) sq402_231
theorem sq402_214 : sq 402 214 B402_214 := sq_take 9 (e := 228) (by decide +kernel) sq402_228
theorem sq402_208 : sq 402 208 B402_208 := sq_take 4 (e := 214) (by decide +kernel) sq402_214
theorem sq402_205 : sq 402 205 B402_205 := sq_take 2 (e := 208) (by decide +kernel) sq402_208
theorem sq402_197 : sq 402 197 B402_197 := sq_take 5 (e := 205) (by decide +kernel) sq402_205
theorem sq402_191 : sq 402 191 B402_191 := sq_take 4 (e := 197) (by decide +kernel) sq402_197
theorem sq402_190 : sq 402 190 B402_190 := sq_take 2 (e := 191) (by decide +kernel) True.intro
theorem sq402_187 : sq 402 187 B402_187 := sq_take 2 (e := 190) (by decide +kernel) sq402_190
theorem sq402_180 : sq 402 180 B402_180 := sq_take 5 (e := 187) (by decide +kernel) sq402_187
theorem sq402_173 : sq 402 173 B402_173 := sq_take 4 (e := 180) (by decide +kernel) sq402_180
theorem sq402_166 : sq 402 166 B402_166 := sq_take 5 (e := 173) (by decide +kernel) sq402_173
theorem sq402_146 : sq 402 146 B402_146 := sq_take 8 (e := 166) (by decide +kernel) sq402_166
theorem sq402_145 : sq 402 145 B402_145 := sq_take 2 (e := 146) (by decide +kernel) True.intro
theorem sq402_137 : sq 402 137 B402_137 := sq_take 5 (e := 145) (by decide +kernel) sq402_145
theorem sq402_122 : sq 402 122 B402_122 := sq_take 6 (e := 137) (by decide +kernel) sq402_137
theorem sq402_121 : sq 402 121 B402_121 := sq_take 2 (e := 122) (by decide +kernel) True.intro
theorem sq402_114 : sq 402 114 B402_114 := sq_take 5 (e := 121) (by decide +kernel) sq402_121
theorem sq402_108 : sq 402 108 B402_108 := sq_take 4 (e := 114) (by decide +kernel) sq402_114
theorem sq402_104 : sq 402 104 B402_104 := sq_take 3 (e := 108) (by decide +kernel) sq402_108
theorem sq402_99 : sq 402 99 B402_99 := sq_take 4 (e := 104) (by decide +kernel) sq402_104
theorem sq402_96 : sq 402 96 B402_96 := sq_take 2 (e := 99) (by decide +kernel) sq402_99
theorem sq402_93 : sq 402 93 B402_93 := sq_take 1 (e := 96) (by decide +kernel) sq402_96
theorem sq402_80 : sq 402 80 B402_80 := sq_take 5 (e := 93) (by decide +kernel) True.intro
theorem sq402_58 : sq 402 58 B402_58 := sq_take 10 (e := 80) (by decide +kernel) True.intro
theorem sq402_53 : sq 402 53 B402_53 := sq_take 3 (e := 58) (by decide +kernel) sq402_58
theorem sq402_52 : sq 402 52 B402_52 := sq_take 2 (e := 53) (by decide +kernel) sq402_53
theorem sq402_32 : sq 402 32 B402_32 := sq_take 10 (e := 52) (by decide +kernel) True.intro
theorem sq402_26 : sq 402 26 B402_26 := sq_take 4 (e := 32) (by decide +kernel) sq402_32
theorem sq402_13 : sq 402 13 B402_13 := sq_take 8 (e := 26) (by decide +kernel) sq402_26
theorem sq402_12 : sq 402 12 B402_12 := sq_take 1 (e := 13) (by decide +kernel) sq402_13
theorem sq402_0 : sq 402 0 B402_0 := sq_take 8 (e := 12) (by decide +kernel) True.intro
set_option maxRecDepth 100000 in
theorem sqM_402 : ∀ b, sq 402 b (tG 402 b) := show ∀ b, sq 402 b (lkB tb402 b) from lkB_sq (List.forall_mem_cons.mpr ⟨sq402_0, List.forall_mem_cons.mpr ⟨sq402_12, List.forall_mem_cons.mpr ⟨sq402_13, List.forall_mem_cons.mpr ⟨sq402_26, List.forall_mem_cons.mpr ⟨sq402_32, List.forall_mem_cons.mpr ⟨sq402_52, List.forall_mem_cons.mpr ⟨sq402_53, List.forall_mem_cons.mpr ⟨sq402_58, List.forall_mem_cons.mpr ⟨sq402_80, List.forall_mem_cons.mpr ⟨sq402_93, List.forall_mem_cons.mpr ⟨sq402_96, List.forall_mem_cons.mpr ⟨sq402_99, List.forall_mem_cons.mpr ⟨sq402_104, List.forall_mem_cons.mpr ⟨sq402_108, List.forall_mem_cons.mpr ⟨sq402_114, List.forall_mem_cons.mpr ⟨sq402_121, List.forall_mem_cons.mpr ⟨sq402_122, List.forall_mem_cons.mpr ⟨sq402_137, List.forall_mem_cons.mpr ⟨sq402_145, List.forall_mem_cons.mpr ⟨sq402_146, List.forall_mem_cons.mpr ⟨sq402_166, List.forall_mem_cons.mpr ⟨sq402_173, List.forall_mem_cons.mpr ⟨sq402_180, List.forall_mem_cons.mpr ⟨sq402_187, List.forall_mem_cons.mpr ⟨sq402_190, List.forall_mem_cons.mpr ⟨sq402_191, List.forall_mem_cons.mpr ⟨sq402_197, List.forall_mem_cons.mpr ⟨sq402_205, List.forall_mem_cons.mpr ⟨sq402_208, List.forall_mem_cons.mpr ⟨sq402_214, List.forall_mem_cons.mpr ⟨sq402_228, List.forall_mem_cons.mpr ⟨sq402_231, List.forall_mem_cons.mpr ⟨sq402_234, List.forall_mem_cons.mpr ⟨sq402_239, List.forall_mem_cons.mpr ⟨sq402_242, (fun _ h => absurd h List.not_mem_nil)⟩⟩⟩⟩⟩⟩⟩⟩⟩⟩⟩⟩⟩⟩⟩⟩⟩⟩⟩⟩⟩⟩⟩⟩⟩⟩⟩⟩⟩⟩⟩⟩⟩⟩⟩)
theorem sq403_166 : sq 403 166 B403_166 := sq_take 2 (e := 170) (by decide +kernel) True.intro
theorem sq403_162 : sq 403 162 B403_162 := sq_take 2 (e := 166) (by decide +kernel) True.intro
theorem sq403_158 : sq 403 158 B403_158 := sq_take 2 (e := 162) (by decide +kernel) True.intro
theorem sq403_157 : sq 403 157 B403_157 := sq_take 1 (e := 158) (by decide +kernel) True.intro
theorem sq403_154 : sq 403 154 B403_154 := sq_take 1 (e := 157) (by decide +kernel) sq403_157
theorem sq403_143 : sq 403 143 B403_143 := sq_take 5 (e := 154) (by decide +kernel) True.intro
theorem sq403_139 : sq 403 139 B403_139 := sq_take 2 (e := 143) (by decide +kernel) True.intro
theorem sq403_135 : sq 403 135 B403_135 := sq_take 2 (e := 139) (by decide +kernel) True.intro
theorem sq403_131 : sq 403 131 B403_131 := sq_take 2 (e := 135) (by decide +kernel) True.intro
theorem sq403_127 : sq 403 127 B403_127 := sq_take 2 (e := 131) (by decide +kernel) True.intro
theorem sq403_126 : sq 403 126 B403_126 := sq_take 1 (e := 127) (by decide +kernel) True.intro
theorem sq403_123 : sq 403 123 B403_123 := sq_take 1 (e := 126) (by decide +kernel) sq403_126
theorem sq403_112 : sq 403 112 B403_112 := sq_take 5 (e := 123) (by decide +kernel) True.intro
theorem sq403_108 : sq 403 108 B403_108 := sq_take 2 (e := 112) (by decide +kernel) True.intro
theorem sq403_104 : sq 403 104 B403_104 := sq_take 2 (e := 108) (by decide +kernel) True.intro
theorem sq403_100 : sq 403 100 B403_100 := sq_take 2 (e := 104) (by decide +kernel) True.intro
theorem sq403_0 : sq 403 0 B403_0 := sq_take 3 (e := 100) (by decide +kernel) True.intro
set_option maxRecDepth 100000 in
theorem sqM_403 : ∀ b, sq 403 b (tG 403 b) := show ∀ b, sq 403 b (lkB tb403 b) from lkB_sq (List.forall_mem_cons.mpr ⟨sq403_0, List.forall_mem_cons.mpr ⟨sq403_100, List.forall_mem_cons.mpr ⟨sq403_104, List.forall_mem_cons.mpr ⟨sq403_108, List.forall_mem_cons.mpr ⟨sq403_112, List.forall_mem_cons.mpr ⟨sq403_123, List.forall_mem_cons.mpr ⟨sq403_126, List.forall_mem_cons.mpr ⟨sq403_127, List.forall_mem_cons.mpr ⟨sq403_131, List.forall_mem_cons.mpr ⟨sq403_135, List.forall_mem_cons.mpr ⟨sq403_139, List.forall_mem_cons.mpr ⟨sq403_143, List.forall_mem_cons.mpr ⟨sq403_154, List.forall_mem_cons.mpr ⟨sq403_157, List.forall_mem_cons.mpr ⟨sq403_158, List.forall_mem_cons.mpr ⟨sq403_162, List.forall_mem_cons.mpr ⟨sq403_166, (fun _ h => absurd h List.not_mem_nil)⟩⟩⟩⟩⟩⟩⟩⟩⟩⟩⟩⟩⟩⟩⟩⟩⟩)
theorem sq404_132 : sq 404 132 B404_132 := sq_take 2 (e := 136) (by decide +kernel) True.intro
theorem sq404_128 : sq 404 128 B404_128 := sq_take 2 (e := 132) (by decide +kernel) True.intro
theorem sq404_124 : sq 404 124 B404_124 := sq_take 2 (e := 128) (by decide +kernel) True.intro
theorem sq404_120 : sq 404 120 B404_120 := sq_take 2 (e := 124) (by decide +kernel) True.intro
theorem sq404_116 : sq 404 116 B404_116 := sq_take 2 (e := 120) (by decide +kernel) True.intro
theorem sq404_112 : sq 404 112 B404_112 := sq_take 2 (e := 116) (by decide +kernel) True.intro
theorem sq404_108 : sq 404 108 B404_108 := sq_take 2 (e := 112) (by decide +kernel) True.intro
theorem sq404_104 : sq 404 104 B404_104 := sq_take 2 (e := 108) (by decide +kernel) True.intro
theorem sq404_100 : sq 404 100 B404_100 := sq_take 2 (e := 104) (by decide +kernel) True.intro
theorem sq404_96 : sq 404 96 B404_96 := sq_take 2 (e := 100) (by decide +kernel) True.intro
theorem sq404_92 : sq 404 92 B404_92 := sq_take 2 (e := 96) (by decide +kernel) True.intro
theorem sq404_0 : sq 404 0 B404_0 := sq_take 3 (e := 92) (by decide +kernel) True.intro
set_option maxRecDepth 100000 in
theorem sqM_404 : ∀ b, sq 404 b (tG 404 b) := show ∀ b, sq 404 b (lkB tb404 b) from lkB_sq (List.forall_mem_cons.mpr ⟨sq404_0, List.forall_mem_cons.mpr ⟨sq404_92, List.forall_mem_cons.mpr ⟨sq404_96, List.forall_mem_cons.mpr ⟨sq404_100, List.forall_mem_cons.mpr ⟨sq404_104, List.forall_mem_cons.mpr ⟨sq404_108, List.forall_mem_cons.mpr ⟨sq404_112, List.forall_mem_cons.mpr ⟨sq404_116, List.forall_mem_cons.mpr ⟨sq404_120, List.forall_mem_cons.mpr ⟨sq404_124, List.forall_mem_cons.mpr ⟨sq404_128, List.forall_mem_cons.mpr ⟨sq404_132, (fun _ h => absurd h List.not_mem_nil)⟩⟩⟩⟩⟩⟩⟩⟩⟩⟩⟩⟩)
theorem sq405_214 : sq 405 214 B405_214 := sq_take 2 (e := 215) (by decide +kernel) True.intro
theorem sq405_211 : sq 405 211 B405_211 := sq_take 2 (e := 214) (by decide +kernel) sq405_214
theorem sq405_206 : sq 405 206 B405_206 := sq_take 4 (e := 211) (by decide +kernel) sq405_211
theorem sq405_199 : sq 405 199 B405_199 := sq_take 4 (e := 206) (by decide +kernel) sq405_206
theorem sq405_196 : sq 405 196 B405_196 := sq_take 2 (e := 199) (by decide +kernel) sq405_199
theorem sq405_191 : sq 405 191 B405_191 := sq_take 3 (e := 196) (by decide +kernel) sq405_196
theorem sq405_188 : sq 405 188 B405_188 := sq_take 2 (e := 191) (by decide +kernel) True.intro
theorem sq405_185 : sq 405 185 B405_185 := sq_take 2 (e := 188) (by decide +kernel) sq405_188
theorem sq405_171 : sq 405 171 B405_171 := sq_take 9 (e := 185) (by decide +kernel) sq405_185
theorem sq405_165 : sq 405 165 B405_165 := sq_take 4 (e := 171) (by decide +kernel) sq405_171
theorem sq405_162 : sq 405 162 B405_162 := sq_take 2 (e := 165) (by decide +kernel) sq405_165
theorem sq405_153 : sq 405 153 B405_153 := sq_take 6 (e := 162) (by decide +kernel) sq405_162
theorem sq405_147 : sq 405 147 B405_147 := sq_take 4 (e := 153) (by decide +kernel) sq405_153
theorem sq405_144 : sq 405 144 B405_144 := sq_take 2 (e := 147) (by decide +kernel) sq405_147
theorem sq405_137 : sq 405 137 B405_137 := sq_take 5 (e := 144) (by decide +kernel) sq405_144
theorem sq405_128 : sq 405 128 B405_128 := sq_take 5 (e := 137) (by decide +kernel) sq405_137
theorem sq405_127 : sq 405 127 B405_127 := sq_take 1 (e := 128) (by decide +kernel) sq405_128
theorem sq405_114 : sq 405 114 B405_114 := sq_take 7 (e := 127) (by decide +kernel) True.intro
theorem sq405_111 : sq 405 111 B405_111 := sq_take 2 (e := 114) (by decide +kernel) True.intro
theorem sq405_97 : sq 405 97 B405_97 := sq_take 6 (e := 111) (by decide +kernel) sq405_111
theorem sq405_94 : sq 405 94 B405_94 := sq_take 2 (e := 97) (by decide +kernel) True.intro
theorem sq405_90 : sq 405 90 B405_90 := sq_take 3 (e := 94) (by decide +kernel) sq405_94
theorem sq405_85 : sq 405 85 B405_85 := sq_take 3 (e := 90) (by decide +kernel) sq405_90
theorem sq405_82 : sq 405 82 B405_82 := sq_take 2 (e := 85) (by decide +kernel) True.intro
theorem sq405_79 : sq 405 79 B405_79 := sq_take 2 (e := 82) (by decide +kernel) sq405_82
theorem sq405_70 : sq 405 70 B405_70 := sq_take 6 (e := 79) (by decide +kernel) sq405_79
theorem sq405_66 : sq 405 66 B405_66 := sq_take 3 (e := 70) (by decide +kernel) sq405_70
theorem sq405_52 : sq 405 52 B405_52 := sq_take 6 (e := 66) (by decide +kernel) sq405_66
theorem sq405_49 : sq 405 49 B405_49 := sq_take 2 (e := 52) (by decide +kernel) True.intro
theorem sq405_46 : sq 405 46 B405_46 := sq_take 2 (e := 49) (by decide +kernel) sq405_49
theorem sq405_42 : sq 405 42 B405_42 := sq_take 2 (e := 46) (by decide +kernel) sq405_46
theorem sq405_39 : sq 405 39 B405_39 := sq_take 2 (e := 42) (by decide +kernel) True.intro
theorem sq405_29 : sq 405 29 B405_29 := sq_take 7 (e := 39) (by decide +kernel) sq405_39
theorem sq405_26 : sq 405 26 B405_26 := sq_take 2 (e := 29) (by decide +kernel) sq405_29
theorem sq405_23 : sq 405 23 B405_23 := sq_take 1 (e := 26) (by decide +kernel) sq405_26
theorem sq405_11 : sq 405 11 B405_11 := sq_take 7 (e := 23) (by decide +kernel) True.intro
theorem sq405_0 : sq 405 0 B405_0 := sq_take 7 (e := 11) (by decide +kernel) sq405_11
set_option maxRecDepth 100000 in
theorem sqM_405 : ∀ b, sq 405 b (tG 405 b) := show ∀ b, sq 405 b (lkB tb405 b) from lkB_sq (List.forall_mem_cons.mpr ⟨sq405_0, List.forall_mem_cons.mpr ⟨sq405_11, List.forall_mem_cons.mpr ⟨sq405_23, List.forall_mem_cons.mpr ⟨sq405_26, List.forall_mem_cons.mpr ⟨sq405_29, List.forall_mem_cons.mpr ⟨sq405_39, List.forall_mem_cons.mpr ⟨sq405_42, List.forall_mem_cons.mpr ⟨sq405_46, List.forall_mem_cons.mpr ⟨sq405_49, List.forall_mem_cons.mpr ⟨sq405_52, List.forall_mem_cons.mpr ⟨sq405_66, List.forall_mem_cons.mpr ⟨sq405_70, List.forall_mem_cons.mpr ⟨sq405_79, List.forall_mem_cons.mpr ⟨sq405_82, List.forall_mem_cons.mpr ⟨sq405_85, List.forall_mem_cons.mpr ⟨sq405_90, List.forall_mem_cons.mpr ⟨sq405_94, List.forall_mem_cons.mpr ⟨sq405_97, List.forall_mem_cons.mpr ⟨sq405_111, List.forall_mem_cons.mpr ⟨sq405_114, List.forall_mem_cons.mpr ⟨sq405_127, List.forall_mem_cons.mpr ⟨sq405_128, List.forall_mem_cons.mpr ⟨sq405_137, List.forall_mem_cons.mpr ⟨sq405_144, List.forall_mem_cons.mpr ⟨sq405_147, List.forall_mem_cons.mpr ⟨sq405_153, List.forall_mem_cons.mpr ⟨sq405_162, List.forall_mem_cons.mpr ⟨sq405_165, List.forall_mem_cons.mpr ⟨sq405_171, List.forall_mem_cons.mpr ⟨sq405_185, List.forall_mem_cons.mpr ⟨sq405_188, List.forall_mem_cons.mpr ⟨sq405_191, List.forall_mem_cons.mpr ⟨sq405_196, List.forall_mem_cons.mpr ⟨sq405_199, List.forall_mem_cons.mpr ⟨sq405_206, List.forall_mem_cons.mpr ⟨sq405_211, List.forall_mem_cons.mpr ⟨sq405_214, (fun _ h => absurd h List.not_mem_nil)⟩⟩⟩⟩⟩⟩⟩⟩⟩⟩⟩⟩⟩⟩⟩⟩⟩⟩⟩⟩⟩⟩⟩⟩⟩⟩⟩⟩⟩⟩⟩⟩⟩⟩⟩⟩⟩)
theorem sq406_203 : sq 406 203 B406_203 := sq_take 2 (e := 205) (by decide +kernel) True.intro
theorem sq406_177 : sq 406 177 B406_177 := sq_take 15 (e := 203) (by decide +kernel) True.intro
theorem sq406_158 : sq 406 158 B406_158 := sq_take 13 (e := 177) (by decide +kernel) sq406_177
theorem sq406_137 : sq 406 137 B406_137 := sq_take 15 (e := 158) (by decide +kernel) sq406_158
theorem sq406_128 : sq 406 128 B406_128 := sq_take 6 (e := 137) (by decide +kernel) True.intro
theorem sq406_127 : sq 406 127 B406_127 := sq_take 2 (e := 128) (by decide +kernel) sq406_128
theorem sq406_123 : sq 406 123 B406_123 := sq_take 3 (e := 127) (by decide +kernel) True.intro
theorem sq406_118 : sq 406 118 B406_118 := sq_take 2 (e := 123) (by decide +kernel) sq406_123
theorem sq406_90 : sq 406 90 B406_90 := sq_take 14 (e := 118) (by decide +kernel) True.intro
theorem sq406_89 : sq 406 89 B406_89 := sq_take 1 (e := 90) (by decide +kernel) sq406_90
theorem sq406_81 : sq 406 81 B406_81 := sq_take 4 (e := 89) (by decide +kernel) True.intro
theorem sq406_77 : sq 406 77 B406_77 := sq_take 3 (e := 81) (by decide +kernel) True.intro
theorem sq406_57 : sq 406 57 B406_57 := sq_take 11 (e := 77) (by decide +kernel) True.intro
theorem sq406_53 : sq 406 53 B406_53 := sq_take 2 (e := 57) (by decide +kernel) True.intro
theorem sq406_40 : sq 406 40 B406_40 := sq_take 7 (e := 53) (by decide +kernel) True.intro
theorem sq406_38 : sq 406 38 B406_38 := sq_take 2 (e := 40) (by decide +kernel) True.intro
theorem sq406_4 : sq 406 4 B406_4 := sq_take 18 (e := 38) (by decide +kernel) sq406_38
theorem sq406_0 : sq 406 0 B406_0 := sq_take 3 (e := 4) (by decide +kernel) sq406_4
set_option maxRecDepth 100000 in
theorem sqM_406 : ∀ b, sq 406 b (tG 406 b) := show ∀ b, sq 406 b (lkB tb406 b) from lkB_sq (List.forall_mem_cons.mpr ⟨sq406_0, List.forall_mem_cons.mpr ⟨sq406_4, List.forall_mem_cons.mpr ⟨sq406_38, List.forall_mem_cons.mpr ⟨sq406_40, List.forall_mem_cons.mpr ⟨sq406_53, List.forall_mem_cons.mpr ⟨sq406_57, List.forall_mem_cons.mpr ⟨sq406_77, List.forall_mem_cons.mpr ⟨sq406_81, List.forall_mem_cons.mpr ⟨sq406_89, List.forall_mem_cons.mpr ⟨sq406_90, List.forall_mem_cons.mpr ⟨sq406_118, List.forall_mem_cons.mpr ⟨sq406_123, List.forall_mem_cons.mpr ⟨sq406_127, List.forall_mem_cons.mpr ⟨sq406_128, List.forall_mem_cons.mpr ⟨sq406_137, List.forall_mem_cons.mpr ⟨sq406_158, List.forall_mem_cons.mpr ⟨sq406_177, List.forall_mem_cons.mpr ⟨sq406_203, (fun _ h => absurd h List.not_mem_nil)⟩⟩⟩⟩⟩⟩⟩⟩⟩⟩⟩⟩⟩⟩⟩⟩⟩⟩)
theorem sq407_31 : sq 407 31 B407_31 := sq_take 1 (e := 32) (by decide +kernel) True.intro
theorem sq407_30 : sq 407 30 B407_30 := sq_take 2 (e := 31) (by decide +kernel) sq407_31
theorem sq407_4 : sq 407 4 B407_4 := sq_take 15 (e := 30) (by decide +kernel) True.intro
theorem sq407_0 : sq 407 0 B407_0 := sq_take 3 (e := 4) (by decide +kernel) sq407_4
set_option maxRecDepth 100000 in
theorem sqM_407 : ∀ b, sq 407 b (tG 407 b) := show ∀ b, sq 407 b (lkB tb407 b) from lkB_sq (List.forall_mem_cons.mpr ⟨sq407_0, List.forall_mem_cons.mpr ⟨sq407_4, List.forall_mem_cons.mpr ⟨sq407_30, List.forall_mem_cons.mpr ⟨sq407_31, (fun _ h => absurd h List.not_mem_nil)⟩⟩⟩⟩)
theorem sq408_84 : sq 408 84 B408_84 := sq_take 2 (e := 86) (by decide +kernel) True.intro
theorem sq408_78 : sq 408 78 B408_78 := sq_take 2 (e := 84) (by decide +kernel) True.intro
theorem sq408_72 : sq 408 72 B408_72 := sq_take 4 (e := 78) (by decide +kernel) True.intro
theorem sq408_65 : sq 408 65 B408_65 := sq_take 4 (e := 72) (by decide +kernel) True.intro
theorem sq408_64 : sq 408 64 B408_64 := sq_take 2 (e := 65) (by decide +kernel) sq408_65
theorem sq408_17 : sq 408 17 B408_17 := sq_take 28 (e := 64) (by decide +kernel) True.intro
theorem sq408_2 : sq 408 2 B408_2 := sq_take 11 (e := 17) (by decide +kernel) sq408_17
theorem sq408_0 : sq 408 0 B408_0 := sq_take 3 (e := 2) (by decide +kernel) sq408_2
set_option maxRecDepth 100000 in
theorem sqM_408 : ∀ b, sq 408 b (tG 408 b) := show ∀ b, sq 408 b (lkB tb408 b) from lkB_sq (List.forall_mem_cons.mpr ⟨sq408_0, List.forall_mem_cons.mpr ⟨sq408_2, List.forall_mem_cons.mpr ⟨sq408_17, List.forall_mem_cons.mpr ⟨sq408_64, List.forall_mem_cons.mpr ⟨sq408_65, List.forall_mem_cons.mpr ⟨sq408_72, List.forall_mem_cons.mpr ⟨sq408_78, List.forall_mem_cons.mpr ⟨sq408_84, (fun _ h => absurd h List.not_mem_nil)⟩⟩⟩⟩⟩⟩⟩⟩)
theorem sq409_0 : sq 409 0 B409_0 := sq_take 39 (e := 57) (by decide +kernel) True.intro
set_option maxRecDepth 100000 in
theorem sqM_409 : ∀ b, sq 409 b (tG 409 b) := show ∀ b, sq 409 b (lkB tb409 b) from lkB_sq (List.forall_mem_cons.mpr ⟨sq409_0, (fun _ h => absurd h List.not_mem_nil)⟩)
theorem sq410_59 : sq 410 59 B410_59 := sq_take 1 (e := 60) (by decide +kernel) True.intro
theorem sq410_48 : sq 410 48 B410_48 := sq_take 8 (e := 59) (by decide +kernel) sq410_59
theorem sq410_39 : sq 410 39 B410_39 := sq_take 6 (e := 48) (by decide +kernel) True.intro
theorem sq410_34 : sq 410 34 B410_34 := sq_take 3 (e := 39) (by decide +kernel) sq410_39
theorem sq410_33 : sq 410 33 B410_33 := sq_take 1 (e := 34) (by decide +kernel) True.intro
theorem sq410_32 : sq 410 32 B410_32 := sq_take 1 (e := 33) (by decide +kernel) sq410_33
theorem sq410_28 : sq 410 28 B410_28 := sq_take 3 (e := 32) (by decide +kernel) True.intro
theorem sq410_13 : sq 410 13 B410_13 := sq_take 10 (e := 28) (by decide +kernel) sq410_28
theorem sq410_0 : sq 410 0 B410_0 := sq_take 8 (e := 13) (by decide +kernel) sq410_13
set_option maxRecDepth 100000 in
theorem sqM_410 : ∀ b, sq 410 b (tG 410 b) := show ∀ b, sq 410 b (lkB tb410 b) from lkB_sq (List.forall_mem_cons.mpr ⟨sq410_0, List.forall_mem_cons.mpr ⟨sq410_13, List.forall_mem_cons.mpr ⟨sq410_28, List.forall_mem_cons.mpr ⟨sq410_32, List.forall_mem_cons.mpr ⟨sq410_33, List.forall_mem_cons.mpr ⟨sq410_34, List.forall_mem_cons.mpr ⟨sq410_39, List.forall_mem_cons.mpr ⟨sq410_48, List.forall_mem_cons.mpr ⟨sq410_59, (fun _ h => absurd h List.not_mem_nil)⟩⟩⟩⟩⟩⟩⟩⟩⟩)
theorem sq411_271 : sq 411 271 B411_271 := sq_take 2 (e := 273) (by decide +kernel) True.intro
theorem sq411_229 : sq 411 229 B411_229 := sq_take 25 (e := 271) (by decide +kernel) True.intro
theorem sq411_226 : sq 411 226 B411_226 := sq_take 3 (e := 229) (by decide +kernel) sq411_229
theorem sq411_202 : sq 411 202 B411_202 := sq_take 17 (e := 226) (by decide +kernel) sq411_226
theorem sq411_159 : sq 411 159 B411_159 := sq_take 25 (e := 202) (by decide +kernel) True.intro
theorem sq411_135 : sq 411 135 B411_135 := sq_take 16 (e := 159) (by decide +kernel) sq411_159
theorem sq411_125 : sq 411 125 B411_125 := sq_take 5 (e := 135) (by decide +kernel) True.intro
theorem sq411_97 : sq 411 97 B411_97 := sq_take 15 (e := 125) (by decide +kernel) True.intro
theorem sq411_94 : sq 411 94 B411_94 := sq_take 2 (e := 97) (by decide +kernel) sq411_97
theorem sq411_71 : sq 411 71 B411_71 := sq_take 14 (e := 94) (by decide +kernel) True.intro
theorem sq411_55 : sq 411 55 B411_55 := sq_take 9 (e := 71) (by decide +kernel) True.intro
theorem sq411_41 : sq 411 41 B411_41 := sq_take 9 (e := 55) (by decide +kernel) True.intro
theorem sq411_22 : sq 411 22 B411_22 := sq_take 11 (e := 41) (by decide +kernel) True.intro
theorem sq411_17 : sq 411 17 B411_17 := sq_take 3 (e := 22) (by decide +kernel) sq411_22
theorem sq411_14 : sq 411 14 B411_14 := sq_take 2 (e := 17) (by decide +kernel) True.intro
theorem sq411_0 : sq 411 0 B411_0 := sq_take 9 (e := 14) (by decide +kernel) sq411_14
set_option maxRecDepth 100000 in
theorem sqM_411 : ∀ b, sq 411 b (tG 411 b) := show ∀ b, sq 411 b (lkB tb411 b) from lkB_sq (List.forall_mem_cons.mpr ⟨sq411_0, List.forall_mem_cons.mpr ⟨sq411_14, List.forall_mem_cons.mpr ⟨sq411_17, List.forall_mem_cons.mpr ⟨sq411_22, List.forall_mem_cons.mpr ⟨sq411_41, List.forall_mem_cons.mpr ⟨sq411_55, List.forall_mem_cons.mpr ⟨sq411_71, List.forall_mem_cons.mpr ⟨sq411_94, List.forall_mem_cons.mpr ⟨sq411_97, List.forall_mem_cons.mpr ⟨sq411_125, List.forall_mem_cons.mpr ⟨sq411_135, List.forall_mem_cons.mpr ⟨sq411_159, List.forall_mem_cons.mpr ⟨sq411_202, List.forall_mem_cons.mpr ⟨sq411_226, List.forall_mem_cons.mpr ⟨sq411_229, List.forall_mem_cons.mpr ⟨sq411_271, (fun _ h => absurd h List.not_mem_nil)⟩⟩⟩⟩⟩⟩⟩⟩⟩⟩⟩⟩⟩⟩⟩⟩)
theorem sq412_173 : sq 412 173 B412_173 := sq_take 2 (e := 175) (by decide +kernel) True.intro
theorem sq412_124 : sq 412 124 B412_124 := sq_take 29 (e := 173) (by decide +kernel) True.intro
theorem sq412_118 : sq 412 118 B412_118 := sq_take 4 (e := 124) (by decide +kernel) sq412_124
theorem sq412_75 : sq 412 75 B412_75 := sq_take 27 (e := 118) (by decide +kernel) True.intro
theorem sq412_72 : sq 412 72 B412_72 := sq_take 3 (e := 75) (by decide +kernel) sq412_75
theorem sq412_25 : sq 412 25 B412_25 := sq_take 33 (e := 72) (by decide +kernel) sq412_72
theorem sq412_17 : sq 412 17 B412_17 := sq_take 6 (e := 25) (by decide +kernel) True.intro
theorem sq412_12 : sq 412 12 B412_12 := sq_take 3 (e := 17) (by decide +kernel) sq412_17
theorem sq412_0 : sq 412 0 B412_0 := sq_take 8 (e := 12) (by decide +kernel) True.intro
set_option maxRecDepth 100000 in
theorem sqM_412 : ∀ b, sq 412 b (tG 412 b) := show ∀ b, sq 412 b (lkB tb412 b) from lkB_sq (List.forall_mem_cons.mpr ⟨sq412_0, List.forall_mem_cons.mpr ⟨sq412_12, List.forall_mem_cons.mpr ⟨sq412_17, List.forall_mem_cons.mpr ⟨sq412_25, List.forall_mem_cons.mpr ⟨sq412_72, List.forall_mem_cons.mpr ⟨sq412_75, List.forall_mem_cons.mpr ⟨sq412_118, List.forall_mem_cons.mpr ⟨sq412_124, List.forall_mem_cons.mpr ⟨sq412_173, (fun _ h => absurd h List.not_mem_nil)⟩⟩⟩⟩⟩⟩⟩⟩⟩)
theorem sq413_119 : sq 413 119 B413_119 := sq_take 2 (e := 121) (by decide +kernel) True.intro
theorem sq413_77 : sq 413 77 B413_77 := sq_take 24 (e := 119) (by decide +kernel) True.intro
theorem sq413_74 : sq 413 74 B413_74 := sq_take 2 (e := 77) (by decide +kernel) sq413_77
theorem sq413_43 : sq 413 43 B413_43 := sq_take 17 (e := 74) (by decide +kernel) True.intro
theorem sq413_40 : sq 413 40 B413_40 := sq_take 2 (e := 43) (by decide +kernel) sq413_43
theorem sq413_38 : sq 413 38 B413_38 := sq_take 2 (e := 40) (by decide +kernel) True.intro
theorem sq413_34 : sq 413 34 B413_34 := sq_take 3 (e := 38) (by decide +kernel) sq413_38
theorem sq413_33 : sq 413 33 B413_33 := sq_take 1 (e := 34) (by decide +kernel) sq413_34
theorem sq413_10 : sq 413 10 B413_10 := sq_take 14 (e := 33) (by decide +kernel) True.intro
theorem sq413_4 : sq 413 4 B413_4 := sq_take 5 (e := 10) (by decide +kernel) sq413_10
theorem sq413_0 : sq 413 0 B413_0 := sq_take 3 (e := 4) (by decide +kernel) sq413_4
set_option maxRecDepth 100000 in
theorem sqM_413 : ∀ b, sq 413 b (tG 413 b) := show ∀ b, sq 413 b (lkB tb413 b) from lkB_sq (List.forall_mem_cons.mpr ⟨sq413_0, List.forall_mem_cons.mpr ⟨sq413_4, List.forall_mem_cons.mpr ⟨sq413_10, List.forall_mem_cons.mpr ⟨sq413_33, List.forall_mem_cons.mpr ⟨sq413_34, List.forall_mem_cons.mpr ⟨sq413_38, List.forall_mem_cons.mpr ⟨sq413_40, List.forall_mem_cons.mpr ⟨sq413_43, List.forall_mem_cons.mpr ⟨sq413_74, List.forall_mem_cons.mpr ⟨sq413_77, List.forall_mem_cons.mpr ⟨sq413_119, (fun _ h => absurd h List.not_mem_nil)⟩⟩⟩⟩⟩⟩⟩⟩⟩⟩⟩)
theorem sq414_20 : sq 414 20 B414_20 := sq_take 1 (e := 21) (by decide +kernel) True.intro
theorem sq414_19 : sq 414 19 B414_19 := sq_take 1 (e := 20) (by decide +kernel) sq414_20
theorem sq414_16 : sq 414 16 B414_16 := sq_take 2 (e := 19) (by decide +kernel) True.intro
theorem sq414_6 : sq 414 6 B414_6 := sq_take 7 (e := 16) (by decide +kernel) sq414_16
theorem sq414_0 : sq 414 0 B414_0 := sq_take 5 (e := 6) (by decide +kernel) sq414_6
set_option maxRecDepth 100000 in
theorem sqM_414 : ∀ b, sq 414 b (tG 414 b) := show ∀ b, sq 414 b (lkB tb414 b) from lkB_sq (List.forall_mem_cons.mpr ⟨sq414_0, List.forall_mem_cons.mpr ⟨sq414_6, List.forall_mem_cons.mpr ⟨sq414_16, List.forall_mem_cons.mpr ⟨sq414_19, List.forall_mem_cons.mpr ⟨sq414_20, (fun _ h => absurd h List.not_mem_nil)⟩⟩⟩⟩⟩)
theorem sq415_35 : sq 415 35 B415_35 := sq_take 4 (e := 40) (by decide +kernel) True.intro
theorem sq415_24 : sq 415 24 B415_24 := sq_take 7 (e := 35) (by decide +kernel) sq415_35
theorem sq415_16 : sq 415 16 B415_16 := sq_take 6 (e := 24) (by decide +kernel) True.intro
theorem sq415_11 : sq 415 11 B415_11 := sq_take 3 (e := 16) (by decide +kernel) sq415_16
theorem sq415_6 : sq 415 6 B415_6 := sq_take 4 (e := 11) (by decide +kernel) True.intro
theorem sq415_0 : sq 415 0 B415_0 := sq_take 5 (e := 6) (by decide +kernel) sq415_6
set_option maxRecDepth 100000 in
theorem sqM_415 : ∀ b, sq 415 b (tG 415 b) := show ∀ b, sq 415 b (lkB tb415 b) from lkB_sq (List.forall_mem_cons.mpr ⟨sq415_0, List.forall_mem_cons.mpr ⟨sq415_6, List.forall_mem_cons.mpr ⟨sq415_11, List.forall_mem_cons.mpr ⟨sq415_16, List.forall_mem_cons.mpr ⟨sq415_24, List.forall_mem_cons.mpr ⟨sq415_35, (fun _ h => absurd h List.not_mem_nil)⟩⟩⟩⟩⟩⟩)
theorem sq416_38 : sq 416 38 B416_38 := sq_take 1 (e := 39) (by decide +kernel) True.intro
theorem sq416_32 : sq 416 32 B416_32 := sq_take 3 (e := 38) (by decide +kernel) True.intro
theorem sq416_2 : sq 416 2 B416_2 := sq_take 21 (e := 32) (by decide +kernel) sq416_32
theorem sq416_0 : sq 416 0 B416_0 := sq_take 3 (e := 2) (by decide +kernel) sq416_2
set_option maxRecDepth 100000 in
theorem sqM_416 : ∀ b, sq 416 b (tG 416 b) := show ∀ b, sq 416 b (lkB tb416 b) from lkB_sq (List.forall_mem_cons.mpr ⟨sq416_0, List.forall_mem_cons.mpr ⟨sq416_2, List.forall_mem_cons.mpr ⟨sq416_32, List.forall_mem_cons.mpr ⟨sq416_38, (fun _ h => absurd h List.not_mem_nil)⟩⟩⟩⟩)
theorem sq417_18 : sq 417 18 B417_18 := sq_take 1 (e := 19) (by decide +kernel) True.intro
theorem sq417_17 : sq 417 17 B417_17 := sq_take 1 (e := 18) (by decide +kernel) sq417_18
theorem sq417_14 : sq 417 14 B417_14 := sq_take 2 (e := 17) (by decide +kernel) True.intro
theorem sq417_6 : sq 417 6 B417_6 := sq_take 5 (e := 14) (by decide +kernel) sq417_14
theorem sq417_0 : sq 417 0 B417_0 := sq_take 5 (e := 6) (by decide +kernel) sq417_6
set_option maxRecDepth 100000 in
theorem sqM_417 : ∀ b, sq 417 b (tG 417 b) := show ∀ b, sq 417 b (lkB tb417 b) from lkB_sq (List.forall_mem_cons.mpr ⟨sq417_0, List.forall_mem_cons.mpr ⟨sq417_6, List.forall_mem_cons.mpr ⟨sq417_14, List.forall_mem_cons.mpr ⟨sq417_17, List.forall_mem_cons.mpr ⟨sq417_18, (fun _ h => absurd h List.not_mem_nil)⟩⟩⟩⟩⟩)
theorem sq418_31 : sq 418 31 B418_31 := sq_take 1 (e := 32) (by decide +kernel) True.intro
theorem sq418_30 : sq 418 30 B418_30 := sq_take 2 (e := 31) (by decide +kernel) sq418_31
theorem sq418_4 : sq 418 4 B418_4 := sq_take 15 (e := 30) (by decide +kernel) True.intro
theorem sq418_0 : sq 418 0 B418_0 := sq_take 3 (e := 4) (by decide +kernel) sq418_4
set_option maxRecDepth 100000 in
theorem sqM_418 : ∀ b, sq 418 b (tG 418 b) := show ∀ b, sq 418 b (lkB tb418 b) from lkB_sq (List.forall_mem_cons.mpr ⟨sq418_0, List.forall_mem_cons.mpr ⟨sq418_4, List.forall_mem_cons.mpr ⟨sq418_30, List.forall_mem_cons.mpr ⟨sq418_31, (fun _ h => absurd h List.not_mem_nil)⟩⟩⟩⟩)
theorem sq419_85 : sq 419 85 B419_85 := sq_take 4 (e := 90) (by decide +kernel) True.intro
theorem sq419_69 : sq 419 69 B419_69 := sq_take 11 (e := 85) (by decide +kernel) sq419_85
theorem sq419_63 : sq 419 63 B419_63 := sq_take 3 (e := 69) (by decide +kernel) True.intro
theorem sq419_32 : sq 419 32 B419_32 := sq_take 21 (e := 63) (by decide +kernel) sq419_63
theorem sq419_25 : sq 419 25 B419_25 := sq_take 5 (e := 32) (by decide +kernel) sq419_32
theorem sq419_23 : sq 419 23 B419_23 := sq_take 2 (e := 25) (by decide +kernel) True.intro
theorem sq419_6 : sq 419 6 B419_6 := sq_take 10 (e := 23) (by decide +kernel) sq419_23
theorem sq419_0 : sq 419 0 B419_0 := sq_take 5 (e := 6) (by decide +kernel) sq419_6
set_option maxRecDepth 100000 in
theorem sqM_419 : ∀ b, sq 419 b (tG 419 b) := show ∀ b, sq 419 b (lkB tb419 b) from lkB_sq (List.forall_mem_cons.mpr ⟨sq419_0, List.forall_mem_cons.mpr ⟨sq419_6, List.forall_mem_cons.mpr ⟨sq419_23, List.forall_mem_cons.mpr ⟨sq419_25, List.forall_mem_cons.mpr ⟨sq419_32, List.forall_mem_cons.mpr ⟨sq419_63, List.forall_mem_cons.mpr ⟨sq419_69, List.forall_mem_cons.mpr ⟨sq419_85, (fun _ h => absurd h List.not_mem_nil)⟩⟩⟩⟩⟩⟩⟩⟩)
theorem sq420_113 : sq 420 113 B420_113 := sq_take 1 (e := 114) (by decide +kernel) True.intro
theorem sq420_107 : sq 420 107 B420_107 := sq_take 4 (e := 113) (by decide +kernel) sq420_113
theorem sq420_93 : sq 420 93 B420_93 := sq_take 8 (e := 107) (by decide +kernel) True.intro
theorem sq420_74 : sq 420 74 B420_74 := sq_take 11 (e := 93) (by decide +kernel) True.intro
theorem sq420_56 : sq 420 56 B420_56 := sq_take 10 (e := 74) (by decide +kernel) True.intro
theorem sq420_48 : sq 420 48 B420_48 := sq_take 5 (e := 56) (by decide +kernel) True.intro
theorem sq420_47 : sq 420 47 B420_47 := sq_take 1 (e := 48) (by decide +kernel) sq420_48
theorem sq420_22 : sq 420 22 B420_22 := sq_take 16 (e := 47) (by decide +kernel) True.intro
theorem sq420_18 : sq 420 18 B420_18 := sq_take 4 (e := 22) (by decide +kernel) sq420_22
theorem sq420_16 : sq 420 16 B420_16 := sq_take 2 (e := 18) (by decide +kernel) True.intro
theorem sq420_4 : sq 420 4 B420_4 := sq_take 7 (e := 16) (by decide +kernel) sq420_16
theorem sq420_0 : sq 420 0 B420_0 := sq_take 3 (e := 4) (by decide +kernel) sq420_4
set_option maxRecDepth 100000 in
theorem sqM_420 : ∀ b, sq 420 b (tG 420 b) := show ∀ b, sq 420 b (lkB tb420 b) from lkB_sq (List.forall_mem_cons.mpr ⟨sq420_0, List.forall_mem_cons.mpr ⟨sq420_4, List.forall_mem_cons.mpr ⟨sq420_16, List.forall_mem_cons.mpr ⟨sq420_18, List.forall_mem_cons.mpr ⟨sq420_22, List.forall_mem_cons.mpr ⟨sq420_47, List.forall_mem_cons.mpr ⟨sq420_48, List.forall_mem_cons.mpr ⟨sq420_56, List.forall_mem_cons.mpr ⟨sq420_74, List.forall_mem_cons.mpr ⟨sq420_93, List.forall_mem_cons.mpr ⟨sq420_107, List.forall_mem_cons.mpr ⟨sq420_113, (fun _ h => absurd h List.not_mem_nil)⟩⟩⟩⟩⟩⟩⟩⟩⟩⟩⟩⟩)
theorem sq421_36 : sq 421 36 B421_36 := sq_take 11 (e := 50) (by decide +kernel) True.intro
theorem sq421_34 : sq 421 34 B421_34 := sq_take 2 (e := 36) (by decide +kernel) True.intro
theorem sq421_6 : sq 421 6 B421_6 := sq_take 16 (e := 34) (by decide +kernel) sq421_34
theorem sq421_0 : sq 421 0 B421_0 := sq_take 5 (e := 6) (by decide +kernel) sq421_6
set_option maxRecDepth 100000 in
theorem sqM_421 : ∀ b, sq 421 b (tG 421 b) := show ∀ b, sq 421 b (lkB tb421 b) from lkB_sq (List.forall_mem_cons.mpr ⟨sq421_0, List.forall_mem_cons.mpr ⟨sq421_6, List.forall_mem_cons.mpr ⟨sq421_34, List.forall_mem_cons.mpr ⟨sq421_36, (fun _ h => absurd h List.not_mem_nil)⟩⟩⟩⟩)
theorem sq422_162 : sq 422 162 B422_162 := sq_take 3 (e := 167) (by decide +kernel) True.intro
theorem sq422_116 : sq 422 116 B422_116 := sq_take 29 (e := 162) (by decide +kernel) True.intro
theorem sq422_114 : sq 422 114 B422_114 := sq_take 2 (e := 116) (by decide +kernel) sq422_116
theorem sq422_74 : sq 422 74 B422_74 := sq_take 27 (e := 114) (by decide +kernel) True.intro
theorem sq422_62 : sq 422 62 B422_62 := sq_take 10 (e := 74) (by decide +kernel) sq422_74
theorem sq422_56 : sq 422 56 B422_56 := sq_take 3 (e := 62) (by decide +kernel) True.intro
theorem sq422_27 : sq 422 27 B422_27 := sq_take 19 (e := 56) (by decide +kernel) sq422_56
theorem sq422_20 : sq 422 20 B422_20 := sq_take 5 (e := 27) (by decide +kernel) sq422_27
theorem sq422_18 : sq 422 18 B422_18 := sq_take 2 (e := 20) (by decide +kernel) True.intro
theorem sq422_6 : sq 422 6 B422_6 := sq_take 7 (e := 18) (by decide +kernel) sq422_18
theorem sq422_0 : sq 422 0 B422_0 := sq_take 5 (e := 6) (by decide +kernel) sq422_6
set_option maxRecDepth 100000 in
theorem sqM_422 : ∀ b, sq 422 b (tG 422 b) := show ∀ b, sq 422 b (lkB tb422 b) from lkB_sq (List.forall_mem_cons.mpr ⟨sq422_0, List.forall_mem_cons.mpr ⟨sq422_6, List.forall_mem_cons.mpr ⟨sq422_18, List.forall_mem_cons.mpr ⟨sq422_20, List.forall_mem_cons.mpr ⟨sq422_27, List.forall_mem_cons.mpr ⟨sq422_56, List.forall_mem_cons.mpr ⟨sq422_62, List.forall_mem_cons.mpr ⟨sq422_74, List.forall_mem_cons.mpr ⟨sq422_114, List.forall_mem_cons.mpr ⟨sq422_116, List.forall_mem_cons.mpr ⟨sq422_162, (fun _ h => absurd h List.not_mem_nil)⟩⟩⟩⟩⟩⟩⟩⟩⟩⟩⟩)
theorem sq423_67 : sq 423 67 B423_67 := sq_take 2 (e := 69) (by decide +kernel) True.intro
theorem sq423_66 : sq 423 66 B423_66 := sq_take 1 (e := 67) (by decide +kernel) sq423_67
theorem sq423_59 : sq 423 59 B423_59 := sq_take 4 (e := 66) (by decide +kernel) True.intro
theorem sq423_38 : sq 423 38 B423_38 := sq_take 16 (e := 59) (by decide +kernel) sq423_59
theorem sq423_28 : sq 423 28 B423_28 := sq_take 8 (e := 38) (by decide +kernel) True.intro
theorem sq423_27 : sq 423 27 B423_27 := sq_take 1 (e := 28) (by decide +kernel) True.intro
theorem sq423_26 : sq 423 26 B423_26 := sq_take 1 (e := 27) (by decide +kernel) sq423_27
theorem sq423_19 : sq 423 19 B423_19 := sq_take 4 (e := 26) (by decide +kernel) True.intro
theorem sq423_8 : sq 423 8 B423_8 := sq_take 7 (e := 19) (by decide +kernel) sq423_19
theorem sq423_0 : sq 423 0 B423_0 := sq_take 7 (e := 8) (by decide +kernel) True.intro
set_option maxRecDepth 100000 in
theorem sqM_423 : ∀ b, sq 423 b (tG 423 b) := show ∀ b, sq 423 b (lkB tb423 b) from lkB_sq (List.forall_mem_cons.mpr ⟨sq423_0, List.forall_mem_cons.mpr ⟨sq423_8, List.forall_mem_cons.mpr ⟨sq423_19, List.forall_mem_cons.mpr ⟨sq423_26, List.forall_mem_cons.mpr ⟨sq423_27, List.forall_mem_cons.mpr ⟨sq423_28, List.forall_mem_cons.mpr ⟨sq423_38, List.forall_mem_cons.mpr ⟨sq423_59, List.forall_mem_cons.mpr ⟨sq423_66, List.forall_mem_cons.mpr ⟨sq423_67, (fun _ h => absurd h List.not_mem_nil)⟩⟩⟩⟩⟩⟩⟩⟩⟩⟩)
theorem sq424_19 : sq 424 19 B424_19 := sq_take 1 (e := 20) (by decide +kernel) True.intro
theorem sq424_16 : sq 424 16 B424_16 := sq_take 4 (e := 19) (by decide +kernel) sq424_19
theorem sq424_10 : sq 424 10 B424_10 := sq_take 4 (e := 16) (by decide +kernel) sq424_16
theorem sq424_0 : sq 424 0 B424_0 := sq_take 7 (e := 10) (by decide +kernel) True.intro
set_option maxRecDepth 100000 in
theorem sqM_424 : ∀ b, sq 424 b (tG 424 b) := show ∀ b, sq 424 b (lkB tb424 b) from lkB_sq (List.forall_mem_cons.mpr ⟨sq424_0, List.forall_mem_cons.mpr ⟨sq424_10, List.forall_mem_cons.mpr ⟨sq424_16, List.forall_mem_cons.mpr ⟨sq424_19, (fun _ h => absurd h List.not_mem_nil)⟩⟩⟩⟩)
theorem sq425_0 : sq 425 0 B425_0 := sq_take 11 (e := 12) (by decide +kernel) True.intro
set_option maxRecDepth 100000 in
theorem sqM_425 : ∀ b, sq 425 b (tG 425 b) := show ∀ b, sq 425 b (lkB tb425 b) from lkB_sq (List.forall_mem_cons.mpr ⟨sq425_0, (fun _ h => absurd h List.not_mem_nil)⟩)
theorem sq426_31 : sq 426 31 B426_31 := sq_take 2 (e := 33) (by decide +kernel) True.intro
theorem sq426_5 : sq 426 5 B426_5 := sq_take 16 (e := 31) (by decide +kernel) True.intro
theorem sq426_0 : sq 426 0 B426_0 := sq_take 5 (e := 5) (by decide +kernel) sq426_5
set_option maxRecDepth 100000 in
theorem sqM_426 : ∀ b, sq 426 b (tG 426 b) := show ∀ b, sq 426 b (lkB tb426 b) from lkB_sq (List.forall_mem_cons.mpr ⟨sq426_0, List.forall_mem_cons.mpr ⟨sq426_5, List.forall_mem_cons.mpr ⟨sq426_31, (fun _ h => absurd h List.not_mem_nil)⟩⟩⟩)
theorem sq427_17 : sq 427 17 B427_17 := sq_take 1 (e := 18) (by decide +kernel) True.intro
theorem sq427_10 : sq 427 10 B427_10 := sq_take 7 (e := 17) (by decide +kernel) sq427_17
theorem sq427_0 : sq 427 0 B427_0 := sq_take 6 (e := 10) (by decide +kernel) True.intro
set_option maxRecDepth 100000 in
theorem sqM_427 : ∀ b, sq 427 b (tG 427 b) := show ∀ b, sq 427 b (lkB tb427 b) from lkB_sq (List.forall_mem_cons.mpr ⟨sq427_0, List.forall_mem_cons.mpr ⟨sq427_10, List.forall_mem_cons.mpr ⟨sq427_17, (fun _ h => absurd h List.not_mem_nil)⟩⟩⟩)
theorem sq428_275 : sq 428 275 B428_275 := sq_take 4 (e := 281) (by decide +kernel) True.intro
theorem sq428_274 : sq 428 274 B428_274 := sq_take 2 (e := 275) (by decide +kernel) True.intro
theorem sq428_268 : sq 428 268 B428_268 := sq_take 3 (e := 274) (by decide +kernel) sq428_274
theorem sq428_259 : sq 428 259 B428_259 := sq_take 4 (e := 268) (by decide +kernel) True.intro
theorem sq428_254 : sq 428 254 B428_254 := sq_take 4 (e := 259) (by decide +kernel) True.intro
theorem sq428_253 : sq 428 253 B428_253 := sq_take 1 (e := 254) (by decide +kernel) True.intro
theorem sq428_248 : sq 428 248 B428_248 := sq_take 3 (e := 253) (by decide +kernel) sq428_253
theorem sq428_237 : sq 428 237 B428_237 := sq_take 6 (e := 248) (by decide +kernel) True.intro
theorem sq428_234 : sq 428 234 B428_234 := sq_take 2 (e := 237) (by decide +kernel) True.intro
theorem sq428_224 : sq 428 224 B428_224 := sq_take 5 (e := 234) (by decide +kernel) sq428_234
theorem sq428_221 : sq 428 221 B428_221 := sq_take 3 (e := 224) (by decide +kernel) True.intro
theorem sq428_216 : sq 428 216 B428_216 := sq_take 4 (e := 221) (by decide +kernel) True.intro
theorem sq428_211 : sq 428 211 B428_211 := sq_take 4 (e := 216) (by decide +kernel) True.intro
theorem sq428_206 : sq 428 206 B428_206 := sq_take 4 (e := 211) (by decide +kernel) True.intro
theorem sq428_201 : sq 428 201 B428_201 := sq_take 4 (e := 206) (by decide +kernel) True.intro
theorem sq428_200 : sq 428 200 B428_200 := sq_take 1 (e := 201) (by decide +kernel) True.intro
theorem sq428_195 : sq 428 195 B428_195 := sq_take 3 (e := 200) (by decide +kernel) sq428_200
theorem sq428_184 : sq 428 184 B428_184 := sq_take 6 (e := 195) (by decide +kernel) True.intro
theorem sq428_181 : sq 428 181 B428_181 := sq_take 2 (e := 184) (by decide +kernel) True.intro
theorem sq428_171 : sq 428 171 B428_171 := sq_take 5 (e := 181) (by decide +kernel) sq428_181
theorem sq428_166 : sq 428 166 B428_166 := sq_take 4 (e := 171) (by decide +kernel) True.intro
theorem sq428_161 : sq 428 161 B428_161 := sq_take 4 (e := 166) (by decide +kernel) True.intro
theorem sq428_156 : sq 428 156 B428_156 := sq_take 4 (e := 161) (by decide +kernel) True.intro
theorem sq428_46 : sq 428 46 B428_46 := sq_take 4 (e := 156) (by decide +kernel) True.intro
theorem sq428_42 : sq 428 42 B428_42 := sq_take 3 (e := 46) (by decide +kernel) sq428_46
theorem sq428_30 : sq 428 30 B428_30 := sq_take 6 (e := 42) (by decide +kernel) True.intro
theorem sq428_27 : sq 428 27 B428_27 := sq_take 3 (e := 30) (by decide +kernel) sq428_30
theorem sq428_15 : sq 428 15 B428_15 := sq_take 7 (e := 27) (by decide +kernel) True.intro
theorem sq428_13 : sq 428 13 B428_13 := sq_take 1 (e := 15) (by decide +kernel) sq428_15
theorem sq428_0 : sq 428 0 B428_0 := sq_take 7 (e := 13) (by decide +kernel) True.intro
set_option maxRecDepth 100000 in
theorem sqM_428 : ∀ b, sq 428 b (tG 428 b) := show ∀ b, sq 428 b (lkB tb428 b) from lkB_sq (List.forall_mem_cons.mpr ⟨sq428_0, List.forall_mem_cons.mpr ⟨sq428_13, List.forall_mem_cons.mpr ⟨sq428_15, List.forall_mem_cons.mpr ⟨sq428_27, List.forall_mem_cons.mpr ⟨sq428_30, List.forall_mem_cons.mpr ⟨sq428_42, List.forall_mem_cons.mpr ⟨sq428_46, List.forall_mem_cons.mpr ⟨sq428_156, List.forall_mem_cons.mpr ⟨sq428_161, List.forall_mem_cons.mpr ⟨sq428_166, List.forall_mem_cons.mpr ⟨sq428_171, List.forall_mem_cons.mpr ⟨sq428_181, List.forall_mem_cons.mpr ⟨sq428_184, List.forall_mem_cons.mpr ⟨sq428_195, List.forall_mem_cons.mpr ⟨sq428_200, List.forall_mem_cons.mpr ⟨sq428_201, List.forall_mem_cons.mpr ⟨sq428_206, List.forall_mem_cons.mpr ⟨sq428_211, List.forall_mem_cons.mpr ⟨sq428_216, List.forall_mem_cons.mpr ⟨sq428_221, List.forall_mem_cons.mpr ⟨sq428_224, List.forall_mem_cons.mpr ⟨sq428_234, List.forall_mem_cons.mpr ⟨sq428_237, List.forall_mem_cons.mpr ⟨sq428_248, List.forall_mem_cons.mpr ⟨sq428_253, List.forall_mem_cons.mpr ⟨sq428_254, List.forall_mem_cons.mpr ⟨sq428_259, List.forall_mem_cons.mpr ⟨sq428_268, List.forall_mem_cons.mpr ⟨sq428_274, List.forall_mem_cons.mpr ⟨sq428_275, (fun _ h => absurd h List.not_mem_nil)⟩⟩⟩⟩⟩⟩⟩⟩⟩⟩⟩⟩⟩⟩⟩⟩⟩⟩⟩⟩⟩⟩⟩⟩⟩⟩⟩⟩⟩⟩)
theorem sq429_253 : sq 429 253 B429_253 := sq_take 1 (e := 254) (by decide +kernel) True.intro
theorem sq429_252 : sq 429 252 B429_252 := sq_take 1 (e := 253) (by decide +kernel) sq429_253
theorem sq429_240 : sq 429 240 B429_240 := sq_take 6 (e := 252) (by decide +kernel) True.intro
theorem sq429_239 : sq 429 239 B429_239 := sq_take 1 (e := 240) (by decide +kernel) True.intro
theorem sq429_238 : sq 429 238 B429_238 := sq_take 1 (e := 239) (by decide +kernel) sq429_239
theorem sq429_226 : sq 429 226 B429_226 := sq_take 6 (e := 238) (by decide +kernel) True.intro
theorem sq429_225 : sq 429 225 B429_225 := sq_take 1 (e := 226) (by decide +kernel) True.intro
theorem sq429_224 : sq 429 224 B429_224 := sq_take 1 (e := 225) (by decide +kernel) sq429_225
theorem sq429_217 : sq 429 217 B429_217 := sq_take 4 (e := 224) (by decide +kernel) True.intro
theorem sq429_212 : sq 429 212 B429_212 := sq_take 3 (e := 217) (by decide +kernel) sq429_217
theorem sq429_211 : sq 429 211 B429_211 := sq_take 2 (e := 212) (by decide +kernel) True.intro
theorem sq429_206 : sq 429 206 B429_206 := sq_take 3 (e := 211) (by decide +kernel) sq429_211
theorem sq429_205 : sq 429 205 B429_205 := sq_take 1 (e := 206) (by decide +kernel) True.intro
theorem sq429_204 : sq 429 204 B429_204 := sq_take 1 (e := 205) (by decide +kernel) sq429_205
theorem sq429_192 : sq 429 192 B429_192 := sq_take 6 (e := 204) (by decide +kernel) True.intro
theorem sq429_191 : sq 429 191 B429_191 := sq_take 1 (e := 192) (by decide +kernel) True.intro
theorem sq429_190 : sq 429 190 B429_190 := sq_take 1 (e := 191) (by decide +kernel) sq429_191
theorem sq429_178 : sq 429 178 B429_178 := sq_take 6 (e := 190) (by decide +kernel) True.intro
theorem sq429_177 : sq 429 177 B429_177 := sq_take 1 (e := 178) (by decide +kernel) True.intro
theorem sq429_176 : sq 429 176 B429_176 := sq_take 1 (e := 177) (by decide +kernel) sq429_177
theorem sq429_166 : sq 429 166 B429_166 := sq_take 6 (e := 176) (by decide +kernel) True.intro
theorem sq429_165 : sq 429 165 B429_165 := sq_take 1 (e := 166) (by decide +kernel) True.intro
theorem sq429_164 : sq 429 164 B429_164 := sq_take 1 (e := 165) (by decide +kernel) sq429_165
theorem sq429_152 : sq 429 152 B429_152 := sq_take 8 (e := 164) (by decide +kernel) True.intro
theorem sq429_151 : sq 429 151 B429_151 := sq_take 1 (e := 152) (by decide +kernel) True.intro
theorem sq429_150 : sq 429 150 B429_150 := sq_take 1 (e := 151) (by decide +kernel) sq429_151
theorem sq429_143 : sq 429 143 B429_143 := sq_take 4 (e := 150) (by decide +kernel) True.intro
theorem sq429_138 : sq 429 138 B429_138 := sq_take 3 (e := 143) (by decide +kernel) sq429_143
theorem sq429_137 : sq 429 137 B429_137 := sq_take 2 (e := 138) (by decide +kernel) True.intro
theorem sq429_132 : sq 429 132 B429_132 := sq_take 3 (e := 137) (by decide +kernel) sq429_137
theorem sq429_131 : sq 429 131 B429_131 := sq_take 1 (e := 132) (by decide +kernel) True.intro
theorem sq429_130 : sq 429 130 B429_130 := sq_take 1 (e := 131) (by decide +kernel) sq429_131
theorem sq429_120 : sq 429 120 B429_120 := sq_take 6 (e := 130) (by decide +kernel) True.intro
theorem sq429_26 : sq 429 26 B429_26 := sq_take 4 (e := 120) (by decide +kernel) True.intro
theorem sq429_23 : sq 429 23 B429_23 := sq_take 3 (e := 26) (by decide +kernel) sq429_26
theorem sq429_12 : sq 429 12 B429_12 := sq_take 6 (e := 23) (by decide +kernel) True.intro
theorem sq429_9 : sq 429 9 B429_9 := sq_take 3 (e := 12) (by decide +kernel) sq429_12
theorem sq429_0 : sq 429 0 B429_0 := sq_take 5 (e := 9) (by decide +kernel) True.intro
set_option maxRecDepth 100000 in
theorem sqM_429 : ∀ b, sq 429 b (tG 429 b) := show ∀ b, sq 429 b (lkB tb429 b) from lkB_sq (List.forall_mem_cons.mpr ⟨sq429_0, List.forall_mem_cons.mpr ⟨sq429_9, List.forall_mem_cons.mpr ⟨sq429_12, List.forall_mem_cons.mpr ⟨sq429_23, List.forall_mem_cons.mpr ⟨sq429_26, List.forall_mem_cons.mpr ⟨sq429_120, List.forall_mem_cons.mpr ⟨sq429_130, List.forall_mem_cons.mpr ⟨sq429_131, List.forall_mem_cons.mpr ⟨sq429_132, List.forall_mem_cons.mpr ⟨sq429_137, List.forall_mem_cons.mpr ⟨sq429_138, List.forall_mem_cons.mpr ⟨sq429_143, List.forall_mem_cons.mpr ⟨sq429_150, List.forall_mem_cons.mpr ⟨sq429_151, List.forall_mem_cons.mpr ⟨sq429_152, List.forall_mem_cons.mpr ⟨sq429_164, List.forall_mem_cons.mpr ⟨sq429_165, List.forall_mem_cons.mpr ⟨sq429_166, List.forall_mem_cons.mpr ⟨sq429_176, List.forall_mem_cons.mpr ⟨sq429_177, List.forall_mem_cons.mpr ⟨sq429_178, List.forall_mem_cons.mpr ⟨sq429_190, List.forall_mem_cons.mpr ⟨sq429_191, List.forall_mem_cons.mpr ⟨sq429_192, List.forall_mem_cons.mpr ⟨sq429_204, List.forall_mem_cons.mpr ⟨sq429_205, List.forall_mem_cons.mpr ⟨sq429_206, List.forall_mem_cons.mpr ⟨sq429_211, List.forall_mem_cons.mpr ⟨sq429_212, List.forall_mem_cons.mpr ⟨sq429_217, List.forall_mem_cons.mpr ⟨sq429_224, List.forall_mem_cons.mpr ⟨sq429_225, List.forall_mem_cons.mpr ⟨sq429_226, List.forall_mem_cons.mpr ⟨sq429_238, List.forall_mem_cons.mpr ⟨sq429_239, List.forall_mem_cons.mpr ⟨sq429_240, List.forall_mem_cons.mpr ⟨sq429_252, List.forall_mem_cons.mpr ⟨sq429_253, (fun _ h => absurd h List.not_mem_nil)⟩⟩⟩⟩⟩⟩⟩⟩⟩⟩⟩⟩⟩⟩⟩⟩⟩⟩⟩⟩⟩⟩⟩⟩⟩⟩⟩⟩⟩⟩⟩⟩⟩⟩⟩⟩⟩⟩)
