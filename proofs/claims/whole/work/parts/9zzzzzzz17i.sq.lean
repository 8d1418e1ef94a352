theorem sq430_108 : sq 430 108 B430_108 := sq_take 18 (e := 133) (by decide +kernel) True.intro
theorem sq430_72 : sq 430 72 B430_72 := sq_take 25 (e := 108) (by decide +kernel) sq430_108
theorem sq430_36 : sq 430 36 B430_36 := sq_take 25 (e := 72) (by decide +kernel) sq430_72
theorem sq430_0 : sq 430 0 B430_0 := sq_take 25 (e := 36) (by decide +kernel) sq430_36
set_option maxRecDepth 100000 in
theorem sqM_430 : ∀ b, sq 430 b (tG 430 b) := show ∀ b, sq 430 b (lkB tb430 b) from lkB_sq (List.forall_mem_cons.mpr ⟨sq430_0, List.forall_mem_cons.mpr ⟨sq430_36, List.forall_mem_cons.mpr ⟨sq430_72, List.forall_mem_cons.mpr ⟨sq430_108, (fun _ h => absurd h List.not_mem_nil)⟩⟩⟩⟩)
theorem sq431_29 : sq 431 29 B431_29 := sq_take 2 (e := 30) (by decide +kernel) True.intro
theorem sq431_6 : sq 431 6 B431_6 := sq_take 17 (e := 29) (by decide +kernel) sq431_29
theorem sq431_0 : sq 431 0 B431_0 := sq_take 5 (e := 6) (by decide +kernel) sq431_6
set_option maxRecDepth 100000 in
theorem sqM_431 : ∀ b, sq 431 b (tG 431 b) := show ∀ b, sq 431 b (lkB tb431 b) from lkB_sq (List.forall_mem_cons.mpr ⟨sq431_0, List.forall_mem_cons.mpr ⟨sq431_6, List.forall_mem_cons.mpr ⟨sq431_29, (fun _ h => absurd h List.not_mem_nil)⟩⟩⟩)
theorem sq432_21 : sq 432 21 B432_21 := sq_take 12 (e := 36) (by decide +kernel) True.intro
theorem sq432_0 : sq 432 0 B432_0 := sq_take 16 (e := 21) (by decide +kernel) sq432_21
set_option maxRecDepth 100000 in
theorem sqM_432 : ∀ b, sq 432 b (tG 432 b) := show ∀ b, sq 432 b (lkB tb432 b) from lkB_sq (List.forall_mem_cons.mpr ⟨sq432_0, List.forall_mem_cons.mpr ⟨sq432_21, (fun _ h => absurd h List.not_mem_nil)⟩⟩)
theorem sq433_47 : sq 433 47 B433_47 := sq_take 2 (e := 48) (by decide +kernel) True.intro
theorem sq433_26 : sq 433 26 B433_26 := sq_take 16 (e := 47) (by decide +kernel) sq433_47
theorem sq433_5 : sq 433 5 B433_5 := sq_take 16 (e := 26) (by decide +kernel) sq433_26
theorem sq433_0 : sq 433 0 B433_0 := sq_take 4 (e := 5) (by decide +kernel) sq433_5
set_option maxRecDepth 100000 in
theorem sqM_433 : ∀ b, sq 433 b (tG 433 b) := show ∀ b, sq 433 b (lkB tb433 b) from lkB_sq (List.forall_mem_cons.mpr ⟨sq433_0, List.forall_mem_cons.mpr ⟨sq433_5, List.forall_mem_cons.mpr ⟨sq433_26, List.forall_mem_cons.mpr ⟨sq433_47, (fun _ h => absurd h List.not_mem_nil)⟩⟩⟩⟩)
theorem sq434_0 : sq 434 0 B434_0 := sq_take 12 (e := 17) (by decide +kernel) True.intro
set_option maxRecDepth 100000 in
theorem sqM_434 : ∀ b, sq 434 b (tG 434 b) := show ∀ b, sq 434 b (lkB tb434 b) from lkB_sq (List.forall_mem_cons.mpr ⟨sq434_0, (fun _ h => absurd h List.not_mem_nil)⟩)
theorem sq435_0 : sq 435 0 B435_0 := sq_take 12 (e := 19) (by decide +kernel) True.intro
set_option maxRecDepth 100000 in
theorem sqM_435 : ∀ b, sq 435 b (tG 435 b) := show ∀ b, sq 435 b (lkB tb435 b) from lkB_sq (List.forall_mem_cons.mpr ⟨sq435_0, (fun _ h => absurd h List.not_mem_nil)⟩)
theorem sq436_31 : sq 436 31 B436_31 := sq_take 2 (e := 32) (by decide +kernel) True.intro
theorem sq436_26 : sq 436 26 B436_26 := sq_take 4 (e := 31) (by decide +kernel) sq436_31
theorem sq436_5 : sq 436 5 B436_5 := sq_take 14 (e := 26) (by decide +kernel) sq436_26
theorem sq436_0 : sq 436 0 B436_0 := sq_take 4 (e := 5) (by decide +kernel) sq436_5
set_option maxRecDepth 100000 in
theorem sqM_436 : ∀ b, sq 436 b (tG 436 b) := show ∀ b, sq 436 b (lkB tb436 b) from lkB_sq (List.forall_mem_cons.mpr ⟨sq436_0, List.forall_mem_cons.mpr ⟨sq436_5, List.forall_mem_cons.mpr ⟨sq436_26, List.forall_mem_cons.mpr ⟨sq436_31, (fun _ h => absurd h List.not_mem_nil)⟩⟩⟩⟩)
theorem sq437_56 : sq 437 56 B437_56 := sq_take 1 (e := 57) (by decide +kernel) True.intro
theorem sq437_44 : sq 437 44 B437_44 := sq_take 9 (e := 56) (by decide +kernel) sq437_56
theorem sq437_5 : sq 437 5 B437_5 := sq_take 28 (e := 44) (by decide +kernel) sq437_44
theorem sq437_0 : sq 437 0 B437_0 := sq_take 4 (e := 5) (by decide +kernel) sq437_5
set_option maxRecDepth 100000 in
theorem sqM_437 : ∀ b, sq 437 b (tG 437 b) := show ∀ b, sq 437 b (lkB tb437 b) from lkB_sq (List.forall_mem_cons.mpr ⟨sq437_0, List.forall_mem_cons.mpr ⟨sq437_5, List.forall_mem_cons.mpr ⟨sq437_44, List.forall_mem_cons.mpr ⟨sq437_56, (fun _ h => absurd h List.not_mem_nil)⟩⟩⟩⟩)
theorem sq438_39 : sq 438 39 B438_39 := sq_take 3 (e := 41) (by decide +kernel) True.intro
theorem sq438_5 : sq 438 5 B438_5 := sq_take 23 (e := 39) (by decide +kernel) sq438_39
theorem sq438_0 : sq 438 0 B438_0 := sq_take 4 (e := 5) (by decide +kernel) sq438_5
set_option maxRecDepth 100000 in
theorem sqM_438 : ∀ b, sq 438 b (tG 438 b) := show ∀ b, sq 438 b (lkB tb438 b) from lkB_sq (List.forall_mem_cons.mpr ⟨sq438_0, List.forall_mem_cons.mpr ⟨sq438_5, List.forall_mem_cons.mpr ⟨sq438_39, (fun _ h => absurd h List.not_mem_nil)⟩⟩⟩)
theorem sq439_16 : sq 439 16 B439_16 := sq_take 1 (e := 17) (by decide +kernel) True.intro
theorem sq439_15 : sq 439 15 B439_15 := sq_take 1 (e := 16) (by decide +kernel) sq439_16
theorem sq439_0 : sq 439 0 B439_0 := sq_take 10 (e := 15) (by decide +kernel) True.intro
set_option maxRecDepth 100000 in
theorem sqM_439 : ∀ b, sq 439 b (tG 439 b) := show ∀ b, sq 439 b (lkB tb439 b) from lkB_sq (List.forall_mem_cons.mpr ⟨sq439_0, List.forall_mem_cons.mpr ⟨sq439_15, List.forall_mem_cons.mpr ⟨sq439_16, (fun _ h => absurd h List.not_mem_nil)⟩⟩⟩)
theorem sq440_13 : sq 440 13 B440_13 := sq_take 1 (e := 14) (by decide +kernel) True.intro
theorem sq440_12 : sq 440 12 B440_12 := sq_take 1 (e := 13) (by decide +kernel) sq440_13
theorem sq440_5 : sq 440 5 B440_5 := sq_take 4 (e := 12) (by decide +kernel) True.intro
theorem sq440_0 : sq 440 0 B440_0 := sq_take 4 (e := 5) (by decide +kernel) sq440_5
set_option maxRecDepth 100000 in
theorem sqM_440 : ∀ b, sq 440 b (tG 440 b) := show ∀ b, sq 440 b (lkB tb440 b) from lkB_sq (List.forall_mem_cons.mpr ⟨sq440_0, List.forall_mem_cons.mpr ⟨sq440_5, List.forall_mem_cons.mpr ⟨sq440_12, List.forall_mem_cons.mpr ⟨sq440_13, (fun _ h => absurd h List.not_mem_nil)⟩⟩⟩⟩)
theorem sq441_13 : sq 441 13 B441_13 := sq_take 1 (e := 14) (by decide +kernel) True.intro
theorem sq441_12 : sq 441 12 B441_12 := sq_take 1 (e := 13) (by decide +kernel) sq441_13
theorem sq441_5 : sq 441 5 B441_5 := sq_take 4 (e := 12) (by decide +kernel) True.intro
theorem sq441_0 : sq 441 0 B441_0 := sq_take 4 (e := 5) (by decide +kernel) sq441_5
set_option maxRecDepth 100000 in
theorem sqM_441 : ∀ b, sq 441 b (tG 441 b) := show ∀ b, sq 441 b (lkB tb441 b) from lkB_sq (List.forall_mem_cons.mpr ⟨sq441_0, List.forall_mem_cons.mpr ⟨sq441_5, List.forall_mem_cons.mpr ⟨sq441_12, List.forall_mem_cons.mpr ⟨sq441_13, (fun _ h => absurd h List.not_mem_nil)⟩⟩⟩⟩)
theorem sq442_141 : sq 442 141 B442_141 := sq_take 3 (e := 143) (by decide +kernel) True.intro
theorem sq442_135 : sq 442 135 B442_135 := sq_take 4 (e := 141) (by decide +kernel) sq442_141
theorem sq442_112 : sq 442 112 B442_112 := sq_take 14 (e := 135) (by decide +kernel) True.intro
theorem sq442_106 : sq 442 106 B442_106 := sq_take 4 (e := 112) (by decide +kernel) sq442_112
theorem sq442_48 : sq 442 48 B442_48 := sq_take 38 (e := 106) (by decide +kernel) True.intro
theorem sq442_20 : sq 442 20 B442_20 := sq_take 19 (e := 48) (by decide +kernel) sq442_48
theorem sq442_0 : sq 442 0 B442_0 := sq_take 13 (e := 20) (by decide +kernel) sq442_20
set_option maxRecDepth 100000 in
theorem sqM_442 : ∀ b, sq 442 b (tG 442 b) := show ∀ b, sq 442 b (lkB tb442 b) from lkB_sq (List.forall_mem_cons.mpr ⟨sq442_0, List.forall_mem_cons.mpr ⟨sq442_20, List.forall_mem_cons.mpr ⟨sq442_48, List.forall_mem_cons.mpr ⟨sq442_106, List.forall_mem_cons.mpr ⟨sq442_112, List.forall_mem_cons.mpr ⟨sq442_135, List.forall_mem_cons.mpr ⟨sq442_141, (fun _ h => absurd h List.not_mem_nil)⟩⟩⟩⟩⟩⟩⟩)
theorem sq443_340 : sq 443 340 B443_340 := sq_take 1 (e := 341) (by decide +kernel) True.intro
theorem sq443_339 : sq 443 339 B443_339 := sq_take 2 (e := 340) (by decide +kernel) sq443_340
theorem sq443_316 : sq 443 316 B443_316 := sq_take 14 (e := 339) (by decide +kernel) True.intro
theorem sq443_301 : sq 443 301 B443_301 := sq_take 10 (e := 316) (by decide +kernel) sq443_316
theorem sq443_258 : sq 443 258 B443_258 := sq_take 31 (e := 301) (by decide +kernel) sq443_301
theorem sq443_225 : sq 443 225 B443_225 := sq_take 24 (e := 258) (by decide +kernel) True.intro
theorem sq443_184 : sq 443 184 B443_184 := sq_take 27 (e := 225) (by decide +kernel) True.intro
theorem sq443_178 : sq 443 178 B443_178 := sq_take 5 (e := 184) (by decide +kernel) sq443_184
theorem sq443_177 : sq 443 177 B443_177 := sq_take 2 (e := 178) (by decide +kernel) sq443_178
theorem sq443_171 : sq 443 171 B443_171 := sq_take 4 (e := 177) (by decide +kernel) sq443_177
theorem sq443_140 : sq 443 140 B443_140 := sq_take 20 (e := 171) (by decide +kernel) True.intro
theorem sq443_134 : sq 443 134 B443_134 := sq_take 4 (e := 140) (by decide +kernel) sq443_140
theorem sq443_101 : sq 443 101 B443_101 := sq_take 20 (e := 134) (by decide +kernel) True.intro
theorem sq443_100 : sq 443 100 B443_100 := sq_take 1 (e := 101) (by decide +kernel) sq443_101
theorem sq443_85 : sq 443 85 B443_85 := sq_take 10 (e := 100) (by decide +kernel) True.intro
theorem sq443_84 : sq 443 84 B443_84 := sq_take 1 (e := 85) (by decide +kernel) sq443_85
theorem sq443_69 : sq 443 69 B443_69 := sq_take 10 (e := 84) (by decide +kernel) True.intro
theorem sq443_68 : sq 443 68 B443_68 := sq_take 2 (e := 69) (by decide +kernel) sq443_69
theorem sq443_47 : sq 443 47 B443_47 := sq_take 14 (e := 68) (by decide +kernel) sq443_68
theorem sq443_27 : sq 443 27 B443_27 := sq_take 13 (e := 47) (by decide +kernel) sq443_47
theorem sq443_5 : sq 443 5 B443_5 := sq_take 15 (e := 27) (by decide +kernel) sq443_27
theorem sq443_0 : sq 443 0 B443_0 := sq_take 4 (e := 5) (by decide +kernel) sq443_5
set_option maxRecDepth 100000 in
theorem sqM_443 : ∀ b, sq 443 b (tG 443 b) := show ∀ b, sq 443 b (lkB tb443 b) from lkB_sq (List.forall_mem_cons.mpr ⟨sq443_0, List.forall_mem_cons.mpr ⟨sq443_5, List.forall_mem_cons.mpr ⟨sq443_27, List.forall_mem_cons.mpr ⟨sq443_47, List.forall_mem_cons.mpr ⟨sq443_68, List.forall_mem_cons.mpr ⟨sq443_69, List.forall_mem_cons.mpr ⟨sq443_84, List.forall_mem_cons.mpr ⟨sq443_85, List.forall_mem_cons.mpr ⟨sq443_100, List.forall_mem_cons.mpr ⟨sq443_101, List.forall_mem_cons.mpr ⟨sq443_134, List.forall_mem_cons.mpr ⟨sq443_140, List.forall_mem_cons.mpr ⟨sq443_171, List.forall_mem_cons.mpr ⟨sq443_177, List.forall_mem_cons.mpr ⟨sq443_178, List.forall_mem_cons.mpr ⟨sq443_184, List.forall_mem_cons.mpr ⟨sq443_225, List.forall_mem_cons.mpr ⟨sq443_258, List.forall_mem_cons.mpr ⟨sq443_301, List.forall_mem_cons.mpr ⟨sq443_316, List.forall_mem_cons.mpr ⟨sq443_339, List.forall_mem_cons.mpr ⟨sq443_340, (fun _ h => absurd h List.not_mem_nil)⟩⟩⟩⟩⟩⟩⟩⟩⟩⟩⟩⟩⟩⟩⟩⟩⟩⟩⟩⟩⟩⟩)
theorem sq444_7 : sq 444 7 B444_7 := sq_take 2 (e := 8) (by decide +kernel) True.intro
theorem sq444_0 : sq 444 0 B444_0 := sq_take 6 (e := 7) (by decide +kernel) sq444_7
set_option maxRecDepth 100000 in
theorem sqM_444 : ∀ b, sq 444 b (tG 444 b) := show ∀ b, sq 444 b (lkB tb444 b) from lkB_sq (List.forall_mem_cons.mpr ⟨sq444_0, List.forall_mem_cons.mpr ⟨sq444_7, (fun _ h => absurd h List.not_mem_nil)⟩⟩)
theorem sq445_24 : sq 445 24 B445_24 := sq_take 1 (e := 25) (by decide +kernel) True.intro
theorem sq445_23 : sq 445 23 B445_23 := sq_take 1 (e := 24) (by decide +kernel) sq445_24
theorem sq445_0 : sq 445 0 B445_0 := sq_take 17 (e := 23) (by decide +kernel) True.intro
set_option maxRecDepth 100000 in
theorem sqM_445 : ∀ b, sq 445 b (tG 445 b) := show ∀ b, sq 445 b (lkB tb445 b) from lkB_sq (List.forall_mem_cons.mpr ⟨sq445_0, List.forall_mem_cons.mpr ⟨sq445_23, List.forall_mem_cons.mpr ⟨sq445_24, (fun _ h => absurd h List.not_mem_nil)⟩⟩⟩)
theorem sq446_23 : sq 446 23 B446_23 := sq_take 1 (e := 24) (by decide +kernel) True.intro
theorem sq446_22 : sq 446 22 B446_22 := sq_take 1 (e := 23) (by decide +kernel) sq446_23
theorem sq446_0 : sq 446 0 B446_0 := sq_take 17 (e := 22) (by decide +kernel) True.intro
set_option maxRecDepth 100000 in
theorem sqM_446 : ∀ b, sq 446 b (tG 446 b) := show ∀ b, sq 446 b (lkB tb446 b) from lkB_sq (List.forall_mem_cons.mpr ⟨sq446_0, List.forall_mem_cons.mpr ⟨sq446_22, List.forall_mem_cons.mpr ⟨sq446_23, (fun _ h => absurd h List.not_mem_nil)⟩⟩⟩)
theorem sq447_224 : sq 447 224 B447_224 := sq_take 2 (e := 225) (by decide +kernel) True.intro
theorem sq447_134 : sq 447 134 B447_134 := sq_take 57 (e := 224) (by decide +kernel) sq447_224
theorem sq447_133 : sq 447 133 B447_133 := sq_take 1 (e := 134) (by decide +kernel) sq447_134
theorem sq447_129 : sq 447 129 B447_129 := sq_take 3 (e := 133) (by decide +kernel) True.intro
theorem sq447_126 : sq 447 126 B447_126 := sq_take 2 (e := 129) (by decide +kernel) sq447_129
theorem sq447_108 : sq 447 108 B447_108 := sq_take 11 (e := 126) (by decide +kernel) sq447_126
theorem sq447_91 : sq 447 91 B447_91 := sq_take 11 (e := 108) (by decide +kernel) sq447_108
theorem sq447_90 : sq 447 90 B447_90 := sq_take 1 (e := 91) (by decide +kernel) sq447_91
theorem sq447_86 : sq 447 86 B447_86 := sq_take 3 (e := 90) (by decide +kernel) True.intro
theorem sq447_83 : sq 447 83 B447_83 := sq_take 2 (e := 86) (by decide +kernel) sq447_86
theorem sq447_65 : sq 447 65 B447_65 := sq_take 11 (e := 83) (by decide +kernel) sq447_83
theorem sq447_0 : sq 447 0 B447_0 := sq_take 44 (e := 65) (by decide +kernel) sq447_65
set_option maxRecDepth 100000 in
theorem sqM_447 : ∀ b, sq 447 b (tG 447 b) := show ∀ b, sq 447 b (lkB tb447 b) from lkB_sq (List.forall_mem_cons.mpr ⟨sq447_0, List.forall_mem_cons.mpr ⟨sq447_65, List.forall_mem_cons.mpr ⟨sq447_83, List.forall_mem_cons.mpr ⟨sq447_86, List.forall_mem_cons.mpr ⟨sq447_90, List.forall_mem_cons.mpr ⟨sq447_91, List.forall_mem_cons.mpr ⟨sq447_108, List.forall_mem_cons.mpr ⟨sq447_126, List.forall_mem_cons.mpr ⟨sq447_129, List.forall_mem_cons.mpr ⟨sq447_133, List.forall_mem_cons.mpr ⟨sq447_134, List.forall_mem_cons.mpr ⟨sq447_224, (fun _ h => absurd h List.not_mem_nil)⟩⟩⟩⟩⟩⟩⟩⟩⟩⟩⟩⟩)
theorem sq448_99 : sq 448 99 B448_99 := sq_take 3 (e := 101) (by decide +kernel) True.intro
theorem sq448_93 : sq 448 93 B448_93 := sq_take 5 (e := 99) (by decide +kernel) sq448_99
theorem sq448_91 : sq 448 91 B448_91 := sq_take 1 (e := 93) (by decide +kernel) sq448_93
theorem sq448_74 : sq 448 74 B448_74 := sq_take 9 (e := 91) (by decide +kernel) True.intro
theorem sq448_72 : sq 448 72 B448_72 := sq_take 1 (e := 74) (by decide +kernel) sq448_74
theorem sq448_55 : sq 448 55 B448_55 := sq_take 9 (e := 72) (by decide +kernel) True.intro
theorem sq448_53 : sq 448 53 B448_53 := sq_take 1 (e := 55) (by decide +kernel) sq448_55
theorem sq448_36 : sq 448 36 B448_36 := sq_take 9 (e := 53) (by decide +kernel) True.intro
theorem sq448_34 : sq 448 34 B448_34 := sq_take 1 (e := 36) (by decide +kernel) sq448_36
theorem sq448_5 : sq 448 5 B448_5 := sq_take 18 (e := 34) (by decide +kernel) True.intro
theorem sq448_0 : sq 448 0 B448_0 := sq_take 4 (e := 5) (by decide +kernel) sq448_5
set_option maxRecDepth 100000 in
theorem sqM_448 : ∀ b, sq 448 b (tG 448 b) := show ∀ b, sq 448 b (lkB tb448 b) from lkB_sq (List.forall_mem_cons.mpr ⟨sq448_0, List.forall_mem_cons.mpr ⟨sq448_5, List.forall_mem_cons.mpr ⟨sq448_34, List.forall_mem_cons.mpr ⟨sq448_36, List.forall_mem_cons.mpr ⟨sq448_53, List.forall_mem_cons.mpr ⟨sq448_55, List.forall_mem_cons.mpr ⟨sq448_72, List.forall_mem_cons.mpr ⟨sq448_74, List.forall_mem_cons.mpr ⟨sq448_91, List.forall_mem_cons.mpr ⟨sq448_93, List.forall_mem_cons.mpr ⟨sq448_99, (fun _ h => absurd h List.not_mem_nil)⟩⟩⟩⟩⟩⟩⟩⟩⟩⟩⟩)
theorem sq449_182 : sq 449 182 B449_182 := sq_take 2 (e := 183) (by decide +kernel) True.intro
theorem sq449_108 : sq 449 108 B449_108 := sq_take 49 (e := 182) (by decide +kernel) sq449_182
theorem sq449_107 : sq 449 107 B449_107 := sq_take 1 (e := 108) (by decide +kernel) sq449_108
theorem sq449_103 : sq 449 103 B449_103 := sq_take 3 (e := 107) (by decide +kernel) True.intro
theorem sq449_100 : sq 449 100 B449_100 := sq_take 2 (e := 103) (by decide +kernel) sq449_103
theorem sq449_82 : sq 449 82 B449_82 := sq_take 11 (e := 100) (by decide +kernel) sq449_100
theorem sq449_65 : sq 449 65 B449_65 := sq_take 11 (e := 82) (by decide +kernel) sq449_82
theorem sq449_0 : sq 449 0 B449_0 := sq_take 44 (e := 65) (by decide +kernel) sq449_65
set_option maxRecDepth 100000 in
theorem sqM_449 : ∀ b, sq 449 b (tG 449 b) := show ∀ b, sq 449 b (lkB tb449 b) from lkB_sq (List.forall_mem_cons.mpr ⟨sq449_0, List.forall_mem_cons.mpr ⟨sq449_65, List.forall_mem_cons.mpr ⟨sq449_82, List.forall_mem_cons.mpr ⟨sq449_100, List.forall_mem_cons.mpr ⟨sq449_103, List.forall_mem_cons.mpr ⟨sq449_107, List.forall_mem_cons.mpr ⟨sq449_108, List.forall_mem_cons.mpr ⟨sq449_182, (fun _ h => absurd h List.not_mem_nil)⟩⟩⟩⟩⟩⟩⟩⟩)
theorem sq450_24 : sq 450 24 B450_24 := sq_take 2 (e := 26) (by decide +kernel) True.intro
theorem sq450_2 : sq 450 2 B450_2 := sq_take 14 (e := 24) (by decide +kernel) True.intro
theorem sq450_0 : sq 450 0 B450_0 := sq_take 3 (e := 2) (by decide +kernel) sq450_2
set_option maxRecDepth 100000 in
theorem sqM_450 : ∀ b, sq 450 b (tG 450 b) := show ∀ b, sq 450 b (lkB tb450 b) from lkB_sq (List.forall_mem_cons.mpr ⟨sq450_0, List.forall_mem_cons.mpr ⟨sq450_2, List.forall_mem_cons.mpr ⟨sq450_24, (fun _ h => absurd h List.not_mem_nil)⟩⟩⟩)
theorem sq451_161 : sq 451 161 B451_161 := sq_take 2 (e := 162) (by decide +kernel) True.intro
theorem sq451_127 : sq 451 127 B451_127 := sq_take 24 (e := 161) (by decide +kernel) sq451_161
theorem sq451_121 : sq 451 121 B451_121 := sq_take 3 (e := 127) (by decide +kernel) sq451_127
theorem sq451_105 : sq 451 105 B451_105 := sq_take 10 (e := 121) (by decide +kernel) True.intro
theorem sq451_104 : sq 451 104 B451_104 := sq_take 1 (e := 105) (by decide +kernel) sq451_105
theorem sq451_100 : sq 451 100 B451_100 := sq_take 3 (e := 104) (by decide +kernel) True.intro
theorem sq451_97 : sq 451 97 B451_97 := sq_take 2 (e := 100) (by decide +kernel) sq451_100
theorem sq451_82 : sq 451 82 B451_82 := sq_take 8 (e := 97) (by decide +kernel) sq451_97
theorem sq451_67 : sq 451 67 B451_67 := sq_take 9 (e := 82) (by decide +kernel) sq451_82
theorem sq451_51 : sq 451 51 B451_51 := sq_take 11 (e := 67) (by decide +kernel) sq451_67
theorem sq451_35 : sq 451 35 B451_35 := sq_take 11 (e := 51) (by decide +kernel) sq451_51
theorem sq451_34 : sq 451 34 B451_34 := sq_take 2 (e := 35) (by decide +kernel) True.intro
theorem sq451_13 : sq 451 13 B451_13 := sq_take 14 (e := 34) (by decide +kernel) sq451_34
theorem sq451_5 : sq 451 5 B451_5 := sq_take 5 (e := 13) (by decide +kernel) sq451_13
theorem sq451_0 : sq 451 0 B451_0 := sq_take 4 (e := 5) (by decide +kernel) sq451_5
set_option maxRecDepth 100000 in
theorem sqM_451 : ∀ b, sq 451 b (tG 451 b) := show ∀ b, sq 451 b (lkB tb451 b) from lkB_sq (List.forall_mem_cons.mpr ⟨sq451_0, List.forall_mem_cons.mpr ⟨sq451_5, List.forall_mem_cons.mpr ⟨sq451_13, List.forall_mem_cons.mpr ⟨sq451_34, List.forall_mem_cons.mpr ⟨sq451_35, List.forall_mem_cons.mpr ⟨sq451_51, List.forall_mem_cons.mpr ⟨sq451_67, List.forall_mem_cons.mpr ⟨sq451_82, List.forall_mem_cons.mpr ⟨sq451_97, List.forall_mem_cons.mpr ⟨sq451_100, List.forall_mem_cons.mpr ⟨sq451_104, List.forall_mem_cons.mpr ⟨sq451_105, List.forall_mem_cons.mpr ⟨sq451_121, List.forall_mem_cons.mpr ⟨sq451_127, List.forall_mem_cons.mpr ⟨sq451_161, (fun _ h => absurd h List.not_mem_nil)⟩⟩⟩⟩⟩⟩⟩⟩⟩⟩⟩⟩⟩⟩⟩)
theorem sq452_686 : sq 452 686 B452_686 := sq_take 2 (e := 687) (by decide +kernel) True.intro
theorem sq452_683 : sq 452 683 B452_683 := sq_take 2 (e := 686) (by decide +kernel) sq452_686
theorem sq452_680 : sq 452 680 B452_680 := sq_take 1 (e := 683) (by decide +kernel) sq452_683
theorem sq452_658 : sq 452 658 B452_658 := sq_take 13 (e := 680) (by decide +kernel) True.intro
theorem sq452_657 : sq 452 657 B452_657 := sq_take 1 (e := 658) (by decide +kernel) sq452_658
theorem sq452_625 : sq 452 625 B452_625 := sq_take 20 (e := 657) (by decide +kernel) True.intro
theorem sq452_622 : sq 452 622 B452_622 := sq_take 2 (e := 625) (by decide +kernel) True.intro
theorem sq452_570 : sq 452 570 B452_570 := sq_take 33 (e := 622) (by decide +kernel) sq452_622
theorem sq452_564 : sq 452 564 B452_564 := sq_take 3 (e := 570) (by decide +kernel) sq452_570
theorem sq452_563 : sq 452 563 B452_563 := sq_take 2 (e := 564) (by decide +kernel) True.intro
theorem sq452_542 : sq 452 542 B452_542 := sq_take 14 (e := 563) (by decide +kernel) sq452_563
theorem sq452_539 : sq 452 539 B452_539 := sq_take 2 (e := 542) (by decide +kernel) True.intro
theorem sq452_487 : sq 452 487 B452_487 := sq_take 33 (e := 539) (by decide +kernel) sq452_539
theorem sq452_481 : sq 452 481 B452_481 := sq_take 3 (e := 487) (by decide +kernel) sq452_487
theorem sq452_480 : sq 452 480 B452_480 := sq_take 2 (e := 481) (by decide +kernel) True.intro
theorem sq452_475 : sq 452 475 B452_475 := sq_take 3 (e := 480) (by decide +kernel) sq452_480
theorem sq452_472 : sq 452 472 B452_472 := sq_take 2 (e := 475) (by decide +kernel) True.intro
theorem sq452_446 : sq 452 446 B452_446 := sq_take 17 (e := 472) (by decide +kernel) sq452_472
theorem sq452_445 : sq 452 445 B452_445 := sq_take 1 (e := 446) (by decide +kernel) sq452_446
theorem sq452_392 : sq 452 392 B452_392 := sq_take 32 (e := 445) (by decide +kernel) True.intro
theorem sq452_386 : sq 452 386 B452_386 := sq_take 3 (e := 392) (by decide +kernel) sq452_392
theorem sq452_385 : sq 452 385 B452_385 := sq_take 2 (e := 386) (by decide +kernel) True.intro
theorem sq452_333 : sq 452 333 B452_333 := sq_take 33 (e := 385) (by decide +kernel) sq452_385
theorem sq452_332 : sq 452 332 B452_332 := sq_take 2 (e := 333) (by decide +kernel) True.intro
theorem sq452_326 : sq 452 326 B452_326 := sq_take 5 (e := 332) (by decide +kernel) sq452_332
theorem sq452_247 : sq 452 247 B452_247 := sq_take 47 (e := 326) (by decide +kernel) sq452_326
theorem sq452_246 : sq 452 246 B452_246 := sq_take 2 (e := 247) (by decide +kernel) True.intro
theorem sq452_235 : sq 452 235 B452_235 := sq_take 8 (e := 246) (by decide +kernel) sq452_246
theorem sq452_170 : sq 452 170 B452_170 := sq_take 38 (e := 235) (by decide +kernel) sq452_235
theorem sq452_169 : sq 452 169 B452_169 := sq_take 2 (e := 170) (by decide +kernel) True.intro
theorem sq452_158 : sq 452 158 B452_158 := sq_take 7 (e := 169) (by decide +kernel) sq452_169
theorem sq452_157 : sq 452 157 B452_157 := sq_take 2 (e := 158) (by decide +kernel) True.intro
theorem sq452_148 : sq 452 148 B452_148 := sq_take 5 (e := 157) (by decide +kernel) sq452_157
theorem sq452_147 : sq 452 147 B452_147 := sq_take 2 (e := 148) (by decide +kernel) True.intro
theorem sq452_138 : sq 452 138 B452_138 := sq_take 5 (e := 147) (by decide +kernel) sq452_147
theorem sq452_137 : sq 452 137 B452_137 := sq_take 2 (e := 138) (by decide +kernel) True.intro
theorem sq452_128 : sq 452 128 B452_128 := sq_take 5 (e := 137) (by decide +kernel) sq452_137
theorem sq452_23 : sq 452 23 B452_23 := sq_take 12 (e := 128) (by decide +kernel) True.intro
theorem sq452_22 : sq 452 22 B452_22 := sq_take 2 (e := 23) (by decide +kernel) sq452_23
theorem sq452_15 : sq 452 15 B452_15 := sq_take 4 (e := 22) (by decide +kernel) True.intro
theorem sq452_6 : sq 452 6 B452_6 := sq_take 5 (e := 15) (by decide +kernel) sq452_15
theorem sq452_0 : sq 452 0 B452_0 := sq_take 4 (e := 6) (by decide +kernel) sq452_6
set_option maxRecDepth 100000 in
theorem sqM_452 : ∀ b, sq 452 b (tG 452 b) := show ∀ b, sq 452 b (lkB tb452 b) from lkB_sq (List.forall_mem_cons.mpr ⟨sq452_0, List.forall_mem_cons.mpr ⟨sq452_6, List.forall_mem_cons.mpr ⟨sq452_15, List.forall_mem_cons.mpr ⟨sq452_22, List.forall_mem_cons.mpr ⟨sq452_23, List.forall_mem_cons.mpr ⟨sq452_128, List.forall_mem_cons.mpr ⟨sq452_137, List.forall_mem_cons.mpr ⟨sq452_138, List.forall_mem_cons.mpr ⟨sq452_147, List.forall_mem_cons.mpr ⟨sq452_148, List.forall_mem_cons.mpr ⟨sq452_157, List.forall_mem_cons.mpr ⟨sq452_158, List.forall_mem_cons.mpr ⟨sq452_169, List.forall_mem_cons.mpr ⟨sq452_170, List.forall_mem_cons.mpr ⟨sq452_235, List.forall_mem_cons.mpr ⟨sq452_246, List.forall_mem_cons.mpr ⟨sq452_247, List.forall_mem_cons.mpr ⟨sq452_326, List.forall_mem_cons.mpr ⟨sq452_332, List.forall_mem_cons.mpr ⟨sq452_333, List.forall_mem_cons.mpr ⟨sq452_385, List.forall_mem_cons.mpr ⟨sq452_386, List.forall_mem_cons.mpr ⟨sq452_392, List.forall_mem_cons.mpr ⟨sq452_445, List.forall_mem_cons.mpr ⟨sq452_446, List.forall_mem_cons.mpr ⟨sq452_472, List.forall_mem_cons.mpr ⟨sq452_475, List.forall_mem_cons.mpr ⟨sq452_480, List.forall_mem_cons.mpr ⟨sq452_481, List.forall_mem_cons.mpr ⟨sq452_487, List.forall_mem_cons.mpr ⟨sq452_539, List.forall_mem_cons.mpr ⟨sq452_542, List.forall_mem_cons.mpr ⟨sq452_563, List.forall_mem_cons.mpr ⟨sq452_564, List.forall_mem_cons.mpr ⟨sq452_570, List.forall_mem_cons.mpr ⟨sq452_622, List.forall_mem_cons.mpr ⟨sq452_625, List.forall_mem_cons.mpr ⟨sq452_657, List.forall_mem_cons.mpr ⟨sq452_658, List.forall_mem_cons.mpr ⟨sq452_680, List.forall_mem_cons.mpr ⟨sq452_683, List.forall_mem_cons.mpr ⟨sq452_686, (fun _ h => absurd h List.not_mem_nil)⟩⟩⟩⟩⟩⟩⟩⟩⟩⟩⟩⟩⟩⟩⟩⟩⟩⟩⟩⟩⟩⟩⟩⟩⟩⟩⟩⟩⟩⟩⟩⟩⟩⟩⟩⟩⟩⟩⟩⟩⟩⟩)
theorem sq453_243 : sq 453 243 B453_243 := sq_take 2 (e := 244) (by decide +kernel) True.intro
theorem sq453_237 : sq 453 237 B453_237 := sq_take 5 (e := 243) (by decide +kernel) sq453_243
theorem sq453_230 : sq 453 230 B453_230 := sq_take 4 (e := 237) (by decide +kernel) sq453_237
theorem sq453_227 : sq 453 227 B453_227 := sq_take 2 (e := 230) (by decide +kernel) True.intro
theorem sq453_193 : sq 453 193 B453_193 := sq_take 21 (e := 227) (by decide +kernel) sq453_227
theorem sq453_192 : sq 453 192 B453_192 := sq_take 2 (e := 193) (by decide +kernel) sq453_193
theorem sq453_173 : sq 453 173 B453_173 := sq_take 11 (e := 192) (by decide +kernel) True.intro
theorem sq453_167 : sq 453 167 B453_167 := sq_take 3 (e := 173) (by decide +kernel) sq453_173
theorem sq453_164 : sq 453 164 B453_164 := sq_take 2 (e := 167) (by decide +kernel) True.intro
theorem sq453_158 : sq 453 158 B453_158 := sq_take 5 (e := 164) (by decide +kernel) sq453_164
theorem sq453_151 : sq 453 151 B453_151 := sq_take 4 (e := 158) (by decide +kernel) sq453_158
theorem sq453_148 : sq 453 148 B453_148 := sq_take 2 (e := 151) (by decide +kernel) True.intro
theorem sq453_126 : sq 453 126 B453_126 := sq_take 12 (e := 148) (by decide +kernel) sq453_148
theorem sq453_125 : sq 453 125 B453_125 := sq_take 1 (e := 126) (by decide +kernel) sq453_126
theorem sq453_122 : sq 453 122 B453_122 := sq_take 2 (e := 125) (by decide +kernel) True.intro
theorem sq453_91 : sq 453 91 B453_91 := sq_take 18 (e := 122) (by decide +kernel) sq453_122
theorem sq453_90 : sq 453 90 B453_90 := sq_take 2 (e := 91) (by decide +kernel) sq453_91
theorem sq453_71 : sq 453 71 B453_71 := sq_take 11 (e := 90) (by decide +kernel) True.intro
theorem sq453_59 : sq 453 59 B453_59 := sq_take 6 (e := 71) (by decide +kernel) sq453_71
theorem sq453_56 : sq 453 56 B453_56 := sq_take 2 (e := 59) (by decide +kernel) True.intro
theorem sq453_46 : sq 453 46 B453_46 := sq_take 7 (e := 56) (by decide +kernel) sq453_56
theorem sq453_43 : sq 453 43 B453_43 := sq_take 2 (e := 46) (by decide +kernel) True.intro
theorem sq453_40 : sq 453 40 B453_40 := sq_take 2 (e := 43) (by decide +kernel) sq453_43
theorem sq453_15 : sq 453 15 B453_15 := sq_take 16 (e := 40) (by decide +kernel) sq453_40
theorem sq453_6 : sq 453 6 B453_6 := sq_take 5 (e := 15) (by decide +kernel) sq453_15
theorem sq453_0 : sq 453 0 B453_0 := sq_take 4 (e := 6) (by decide +kernel) sq453_6
set_option maxRecDepth 100000 in
theorem sqM_453 : ∀ b, sq 453 b (tG 453 b) := show ∀ b, sq 453 b (lkB tb453 b) from lkB_sq (List.forall_mem_cons.mpr ⟨sq453_0, List.forall_mem_cons.mpr ⟨sq453_6, List.forall_mem_cons.mpr ⟨sq453_15, List.forall_mem_cons.mpr ⟨sq453_40, List.forall_mem_cons.mpr ⟨sq453_43, List.forall_mem_cons.mpr ⟨sq453_46, List.forall_mem_cons.mpr ⟨sq453_56, List.forall_mem_cons.mpr ⟨sq453_59, List.forall_mem_cons.mpr ⟨sq453_71, List.forall_mem_cons.mpr ⟨sq453_90, List.forall_mem_cons.mpr ⟨sq453_91, List.forall_mem_cons.mpr ⟨sq453_122, List.forall_mem_cons.mpr ⟨sq453_125, List.forall_mem_cons.mpr ⟨sq453_126, List.forall_mem_cons.mpr ⟨sq453_148, List.forall_mem_cons.mpr ⟨sq453_151, List.forall_mem_cons.mpr ⟨sq453_158, List.forall_mem_cons.mpr ⟨sq453_164, List.forall_mem_cons.mpr ⟨sq453_167, List.forall_mem_cons.mpr ⟨sq453_173, List.forall_mem_cons.mpr ⟨sq453_192, List.forall_mem_cons.mpr ⟨sq453_193, List.forall_mem_cons.mpr ⟨sq453_227, List.forall_mem_cons.mpr ⟨sq453_230, List.forall_mem_cons.mpr ⟨sq453_237, List.forall_mem_cons.mpr ⟨sq453_243, (fun _ h => absurd h List.not_mem_nil)⟩⟩⟩⟩⟩⟩⟩⟩⟩⟩⟩⟩⟩⟩⟩⟩⟩⟩⟩⟩⟩⟩⟩⟩⟩⟩)
theorem sq454_95 : sq 454 95 B454_95 := sq_take 2 (e := 96) (by decide +kernel) True.intro
theorem sq454_89 : sq 454 89 B454_89 := sq_take 5 (e := 95) (by decide +kernel) sq454_95
theorem sq454_86 : sq 454 86 B454_86 := sq_take 1 (e := 89) (by decide +kernel) sq454_89
theorem sq454_69 : sq 454 69 B454_69 := sq_take 10 (e := 86) (by decide +kernel) True.intro
theorem sq454_68 : sq 454 68 B454_68 := sq_take 1 (e := 69) (by decide +kernel) sq454_69
theorem sq454_27 : sq 454 27 B454_27 := sq_take 26 (e := 68) (by decide +kernel) True.intro
theorem sq454_26 : sq 454 26 B454_26 := sq_take 1 (e := 27) (by decide +kernel) sq454_27
theorem sq454_0 : sq 454 0 B454_0 := sq_take 17 (e := 26) (by decide +kernel) True.intro
set_option maxRecDepth 100000 in
theorem sqM_454 : ∀ b, sq 454 b (tG 454 b) := show ∀ b, sq 454 b (lkB tb454 b) from lkB_sq (List.forall_mem_cons.mpr ⟨sq454_0, List.forall_mem_cons.mpr ⟨sq454_26, List.forall_mem_cons.mpr ⟨sq454_27, List.forall_mem_cons.mpr ⟨sq454_68, List.forall_mem_cons.mpr ⟨sq454_69, List.forall_mem_cons.mpr ⟨sq454_86, List.forall_mem_cons.mpr ⟨sq454_89, List.forall_mem_cons.mpr ⟨sq454_95, (fun _ h => absurd h List.not_mem_nil)⟩⟩⟩⟩⟩⟩⟩⟩)
theorem sq455_151 : sq 455 151 B455_151 := sq_take 2 (e := 152) (by decide +kernel) True.intro
theorem sq455_145 : sq 455 145 B455_145 := sq_take 5 (e := 151) (by decide +kernel) sq455_151
theorem sq455_132 : sq 455 132 B455_132 := sq_take 8 (e := 145) (by decide +kernel) sq455_145
theorem sq455_110 : sq 455 110 B455_110 := sq_take 11 (e := 132) (by decide +kernel) sq455_132
theorem sq455_103 : sq 455 103 B455_103 := sq_take 4 (e := 110) (by decide +kernel) sq455_110
theorem sq455_91 : sq 455 91 B455_91 := sq_take 6 (e := 103) (by decide +kernel) sq455_103
theorem sq455_90 : sq 455 90 B455_90 := sq_take 2 (e := 91) (by decide +kernel) True.intro
theorem sq455_84 : sq 455 84 B455_84 := sq_take 5 (e := 90) (by decide +kernel) sq455_90
theorem sq455_81 : sq 455 81 B455_81 := sq_take 2 (e := 84) (by decide +kernel) True.intro
theorem sq455_74 : sq 455 74 B455_74 := sq_take 4 (e := 81) (by decide +kernel) sq455_81
theorem sq455_47 : sq 455 47 B455_47 := sq_take 16 (e := 74) (by decide +kernel) sq455_74
theorem sq455_37 : sq 455 37 B455_37 := sq_take 5 (e := 47) (by decide +kernel) sq455_47
theorem sq455_30 : sq 455 30 B455_30 := sq_take 4 (e := 37) (by decide +kernel) sq455_37
theorem sq455_18 : sq 455 18 B455_18 := sq_take 7 (e := 30) (by decide +kernel) sq455_30
theorem sq455_9 : sq 455 9 B455_9 := sq_take 5 (e := 18) (by decide +kernel) sq455_18
theorem sq455_0 : sq 455 0 B455_0 := sq_take 5 (e := 9) (by decide +kernel) sq455_9
set_option maxRecDepth 100000 in
theorem sqM_455 : ∀ b, sq 455 b (tG 455 b) := show ∀ b, sq 455 b (lkB tb455 b) from lkB_sq (List.forall_mem_cons.mpr ⟨sq455_0, List.forall_mem_cons.mpr ⟨sq455_9, List.forall_mem_cons.mpr ⟨sq455_18, List.forall_mem_cons.mpr ⟨sq455_30, List.forall_mem_cons.mpr ⟨sq455_37, List.forall_mem_cons.mpr ⟨sq455_47, List.forall_mem_cons.mpr ⟨sq455_74, List.forall_mem_cons.mpr ⟨sq455_81, List.forall_mem_cons.mpr ⟨sq455_84, List.forall_mem_cons.mpr ⟨sq455_90, List.forall_mem_cons.mpr ⟨sq455_91, List.forall_mem_cons.mpr ⟨sq455_103, List.forall_mem_cons.mpr ⟨sq455_110, List.forall_mem_cons.mpr ⟨sq455_132, List.forall_mem_cons.mpr ⟨sq455_145, List.forall_mem_cons.mpr ⟨sq455_151, (fun _ h => absurd h List.not_mem_nil)⟩⟩⟩⟩⟩⟩⟩⟩⟩⟩⟩⟩⟩⟩⟩⟩)
theorem sq456_59 : sq 456 59 B456_59 := sq_take 2 (e := 60) (by decide +kernel) True.intro
theorem sq456_48 : sq 456 48 B456_48 := sq_take 7 (e := 59) (by decide +kernel) sq456_59
theorem sq456_42 : sq 456 42 B456_42 := sq_take 4 (e := 48) (by decide +kernel) sq456_48
theorem sq456_41 : sq 456 41 B456_41 := sq_take 2 (e := 42) (by decide +kernel) True.intro
theorem sq456_38 : sq 456 38 B456_38 := sq_take 2 (e := 41) (by decide +kernel) sq456_41
theorem sq456_32 : sq 456 32 B456_32 := sq_take 3 (e := 38) (by decide +kernel) sq456_38
theorem sq456_18 : sq 456 18 B456_18 := sq_take 8 (e := 32) (by decide +kernel) True.intro
theorem sq456_5 : sq 456 5 B456_5 := sq_take 8 (e := 18) (by decide +kernel) sq456_18
theorem sq456_0 : sq 456 0 B456_0 := sq_take 4 (e := 5) (by decide +kernel) sq456_5
set_option maxRecDepth 100000 in
theorem sqM_456 : ∀ b, sq 456 b (tG 456 b) := show ∀ b, sq 456 b (lkB tb456 b) from lkB_sq (List.forall_mem_cons.mpr ⟨sq456_0, List.forall_mem_cons.mpr ⟨sq456_5, List.forall_mem_cons.mpr ⟨sq456_18, List.forall_mem_cons.mpr ⟨sq456_32, List.forall_mem_cons.mpr ⟨sq456_38, List.forall_mem_cons.mpr ⟨sq456_41, List.forall_mem_cons.mpr ⟨sq456_42, List.forall_mem_cons.mpr ⟨sq456_48, List.forall_mem_cons.mpr ⟨sq456_59, (fun _ h => absurd h List.not_mem_nil)⟩⟩⟩⟩⟩⟩⟩⟩⟩)
theorem sq457_369 : sq 457 369 B457_369 := sq_take 2 (e := 370) (by decide +kernel) True.intro
theorem sq457_361 : sq 457 361 B457_361 := sq_take 4 (e := 369) (by decide +kernel) sq457_369
theorem sq457_358 : sq 457 358 B457_358 := sq_take 2 (e := 361) (by decide +kernel) True.intro
theorem sq457_343 : sq 457 343 B457_343 := sq_take 7 (e := 358) (by decide +kernel) sq457_358
theorem sq457_340 : sq 457 340 B457_340 := sq_take 2 (e := 343) (by decide +kernel) True.intro
theorem sq457_326 : sq 457 326 B457_326 := sq_take 7 (e := 340) (by decide +kernel) sq457_340
theorem sq457_323 : sq 457 323 B457_323 := sq_take 2 (e := 326) (by decide +kernel) True.intro
theorem sq457_309 : sq 457 309 B457_309 := sq_take 7 (e := 323) (by decide +kernel) sq457_323
theorem sq457_308 : sq 457 308 B457_308 := sq_take 1 (e := 309) (by decide +kernel) True.intro
theorem sq457_307 : sq 457 307 B457_307 := sq_take 1 (e := 308) (by decide +kernel) sq457_308
theorem sq457_303 : sq 457 303 B457_303 := sq_take 2 (e := 307) (by decide +kernel) True.intro
theorem sq457_296 : sq 457 296 B457_296 := sq_take 4 (e := 303) (by decide +kernel) True.intro
theorem sq457_268 : sq 457 268 B457_268 := sq_take 15 (e := 296) (by decide +kernel) sq457_296
theorem sq457_267 : sq 457 267 B457_267 := sq_take 2 (e := 268) (by decide +kernel) True.intro
theorem sq457_259 : sq 457 259 B457_259 := sq_take 4 (e := 267) (by decide +kernel) sq457_267
theorem sq457_258 : sq 457 258 B457_258 := sq_take 2 (e := 259) (by decide +kernel) True.intro
theorem sq457_250 : sq 457 250 B457_250 := sq_take 4 (e := 258) (by decide +kernel) sq457_258
theorem sq457_249 : sq 457 249 B457_249 := sq_take 2 (e := 250) (by decide +kernel) True.intro
theorem sq457_241 : sq 457 241 B457_241 := sq_take 4 (e := 249) (by decide +kernel) sq457_249
theorem sq457_240 : sq 457 240 B457_240 := sq_take 2 (e := 241) (by decide +kernel) True.intro
theorem sq457_232 : sq 457 232 B457_232 := sq_take 4 (e := 240) (by decide +kernel) sq457_240
theorem sq457_231 : sq 457 231 B457_231 := sq_take 1 (e := 232) (by decide +kernel) True.intro
theorem sq457_230 : sq 457 230 B457_230 := sq_take 1 (e := 231) (by decide +kernel) sq457_231
theorem sq457_190 : sq 457 190 B457_190 := sq_take 24 (e := 230) (by decide +kernel) True.intro
theorem sq457_166 : sq 457 166 B457_166 := sq_take 14 (e := 190) (by decide +kernel) True.intro
theorem sq457_165 : sq 457 165 B457_165 := sq_take 1 (e := 166) (by decide +kernel) True.intro
theorem sq457_161 : sq 457 161 B457_161 := sq_take 3 (e := 165) (by decide +kernel) sq457_165
theorem sq457_149 : sq 457 149 B457_149 := sq_take 6 (e := 161) (by decide +kernel) True.intro
theorem sq457_141 : sq 457 141 B457_141 := sq_take 4 (e := 149) (by decide +kernel) sq457_149
theorem sq457_140 : sq 457 140 B457_140 := sq_take 2 (e := 141) (by decide +kernel) True.intro
theorem sq457_132 : sq 457 132 B457_132 := sq_take 4 (e := 140) (by decide +kernel) sq457_140
theorem sq457_61 : sq 457 61 B457_61 := sq_take 4 (e := 132) (by decide +kernel) True.intro
theorem sq457_60 : sq 457 60 B457_60 := sq_take 2 (e := 61) (by decide +kernel) sq457_61
theorem sq457_53 : sq 457 53 B457_53 := sq_take 4 (e := 60) (by decide +kernel) True.intro
theorem sq457_44 : sq 457 44 B457_44 := sq_take 5 (e := 53) (by decide +kernel) sq457_53
theorem sq457_38 : sq 457 38 B457_38 := sq_take 4 (e := 44) (by decide +kernel) sq457_44
theorem sq457_28 : sq 457 28 B457_28 := sq_take 5 (e := 38) (by decide +kernel) sq457_38
theorem sq457_19 : sq 457 19 B457_19 := sq_take 5 (e := 28) (by decide +kernel) sq457_28
theorem sq457_0 : sq 457 0 B457_0 := sq_take 11 (e := 19) (by decide +kernel) sq457_19
set_option maxRecDepth 100000 in
theorem sqM_457 : ∀ b, sq 457 b (tG 457 b) := show ∀ b, sq 457 b (lkB tb457 b) from lkB_sq (List.forall_mem_cons.mpr ⟨sq457_0, List.forall_mem_cons.mpr ⟨sq457_19, List.forall_mem_cons.mpr ⟨sq457_28, List.forall_mem_cons.mpr ⟨sq457_38, List.forall_mem_cons.mpr ⟨sq457_44, List.forall_mem_cons.mpr ⟨sq457_53, List.forall_mem_cons.mpr ⟨sq457_60, List.forall_mem_cons.mpr ⟨sq457_61, List.forall_mem_cons.mpr ⟨sq457_132, List.forall_mem_cons.mpr ⟨sq457_140, List.forall_mem_cons.mpr ⟨sq457_141, List.forall_mem_cons.mpr ⟨sq457_149, List.forall_mem_cons.mpr ⟨sq457_161, List.forall_mem_cons.mpr ⟨sq457_165, List.forall_mem_cons.mpr ⟨sq457_166, List.forall_mem_cons.mpr ⟨sq457_190, List.forall_mem_cons.mpr ⟨sq457_230, List.forall_mem_cons.mpr ⟨sq457_231, List.forall_mem_cons.mpr ⟨sq457_232, List.forall_mem_cons.mpr ⟨sq457_240, List.forall_mem_cons.mpr ⟨sq457_241, List.forall_mem_cons.mpr ⟨sq457_249, List.forall_mem_cons.mpr ⟨sq457_250, List.forall_mem_cons.mpr ⟨sq457_258, List.forall_mem_cons.mpr ⟨sq457_259, List.forall_mem_cons.mpr ⟨sq457_267, List.forall_mem_cons.mpr ⟨sq457_268, List.forall_mem_cons.mpr ⟨sq457_296, List.forall_mem_cons.mpr ⟨sq457_303, List.forall_mem_cons.mpr ⟨sq457_307, List.forall_mem_cons.mpr ⟨sq457_308, List.forall_mem_cons.mpr ⟨sq457_309, List.forall_mem_cons.mpr ⟨sq457_323, List.forall_mem_cons.mpr ⟨sq457_326, List.forall_mem_cons.mpr ⟨sq457_340, List.forall_mem_cons.mpr ⟨sq457_343, List.forall_mem_cons.mpr ⟨sq457_358, List.forall_mem_cons.mpr ⟨sq457_361, List.forall_mem_cons.mpr ⟨sq457_369, (fun _ h => absurd h List.not_mem_nil)⟩⟩⟩⟩⟩⟩⟩⟩⟩⟩⟩⟩⟩⟩⟩⟩⟩⟩⟩⟩⟩⟩⟩⟩⟩⟩⟩⟩⟩⟩⟩⟩⟩⟩⟩⟩⟩⟩⟩)
theorem sq458_157 : sq 458 157 B458_157 := sq_take 1 (e := 158) (by decide +kernel) True.intro
theorem sq458_156 : sq 458 156 B458_156 := sq_take 1 (e := 157) (by decide +kernel) sq458_157
theorem sq458_147 : sq 458 147 B458_147 := sq_take 6 (e := 156) (by decide +kernel) True.intro
theorem sq458_146 : sq 458 146 B458_146 := sq_take 1 (e := 147) (by decide +kernel) sq458_147
theorem sq458_142 : sq 458 142 B458_142 := sq_take 3 (e := 146) (by decide +kernel) True.intro
theorem sq458_107 : sq 458 107 B458_107 := sq_take 22 (e := 142) (by decide +kernel) sq458_142
theorem sq458_89 : sq 458 89 B458_89 := sq_take 11 (e := 107) (by decide +kernel) sq458_107
theorem sq458_34 : sq 458 34 B458_34 := sq_take 36 (e := 89) (by decide +kernel) sq458_89
theorem sq458_13 : sq 458 13 B458_13 := sq_take 14 (e := 34) (by decide +kernel) True.intro
theorem sq458_5 : sq 458 5 B458_5 := sq_take 5 (e := 13) (by decide +kernel) sq458_13
theorem sq458_0 : sq 458 0 B458_0 := sq_take 4 (e := 5) (by decide +kernel) sq458_5
set_option maxRecDepth 100000 in
theorem sqM_458 : ∀ b, sq 458 b (tG 458 b) := show ∀ b, sq 458 b (lkB tb458 b) from lkB_sq (List.forall_mem_cons.mpr ⟨sq458_0, List.forall_mem_cons.mpr ⟨sq458_5, List.forall_mem_cons.mpr ⟨sq458_13, List.forall_mem_cons.mpr ⟨sq458_34, List.forall_mem_cons.mpr ⟨sq458_89, List.forall_mem_cons.mpr ⟨sq458_107, List.forall_mem_cons.mpr ⟨sq458_142, List.forall_mem_cons.mpr ⟨sq458_146, List.forall_mem_cons.mpr ⟨sq458_147, List.forall_mem_cons.mpr ⟨sq458_156, List.forall_mem_cons.mpr ⟨sq458_157, (fun _ h => absurd h List.not_mem_nil)⟩⟩⟩⟩⟩⟩⟩⟩⟩⟩⟩)
theorem sq459_45 : sq 459 45 B459_45 := sq_take 1 (e := 46) (by decide +kernel) True.intro
theorem sq459_44 : sq 459 44 B459_44 := sq_take 1 (e := 45) (by decide +kernel) sq459_45
theorem sq459_37 : sq 459 37 B459_37 := sq_take 4 (e := 44) (by decide +kernel) True.intro
theorem sq459_22 : sq 459 22 B459_22 := sq_take 9 (e := 37) (by decide +kernel) sq459_37
theorem sq459_15 : sq 459 15 B459_15 := sq_take 4 (e := 22) (by decide +kernel) True.intro
theorem sq459_0 : sq 459 0 B459_0 := sq_take 10 (e := 15) (by decide +kernel) sq459_15
set_option maxRecDepth 100000 in
theorem sqM_459 : ∀ b, sq 459 b (tG 459 b) := show ∀ b, sq 459 b (lkB tb459 b) from lkB_sq (List.forall_mem_cons.mpr ⟨sq459_0, List.forall_mem_cons.mpr ⟨sq459_15, List.forall_mem_cons.mpr ⟨sq459_22, List.forall_mem_cons.mpr ⟨sq459_37, List.forall_mem_cons.mpr ⟨sq459_44, List.forall_mem_cons.mpr ⟨sq459_45, (fun _ h => absurd h List.not_mem_nil)⟩⟩⟩⟩⟩⟩)
theorem sq460_45 : sq 460 45 B460_45 := sq_take 1 (e := 46) (by decide +kernel) True.intro
theorem sq460_44 : sq 460 44 B460_44 := sq_take 1 (e := 45) (by decide +kernel) sq460_45
theorem sq460_37 : sq 460 37 B460_37 := sq_take 4 (e := 44) (by decide +kernel) True.intro
theorem sq460_22 : sq 460 22 B460_22 := sq_take 9 (e := 37) (by decide +kernel) sq460_37
theorem sq460_15 : sq 460 15 B460_15 := sq_take 4 (e := 22) (by decide +kernel) True.intro
theorem sq460_0 : sq 460 0 B460_0 := sq_take 10 (e := 15) (by decide +kernel) sq460_15
set_option maxRecDepth 100000 in
theorem sqM_460 : ∀ b, sq 460 b (tG 460 b) := show ∀ b, sq 460 b (lkB tb460 b) from lkB_sq (List.forall_mem_cons.mpr ⟨sq460_0, List.forall_mem_cons.mpr ⟨sq460_15, List.forall_mem_cons.mpr ⟨sq460_22, List.forall_mem_cons.mpr ⟨sq460_37, List.forall_mem_cons.mpr ⟨sq460_44, List.forall_mem_cons.mpr ⟨sq460_45, (fun _ h => absurd h List.not_mem_nil)⟩⟩⟩⟩⟩⟩)
theorem sq461_41 : sq 461 41 B461_41 := sq_take 1 (e := 42) (by decide +kernel) True.intro
theorem sq461_40 : sq 461 40 B461_40 := sq_take 1 (e := 41) (by decide +kernel) sq461_41
theorem sq461_20 : sq 461 20 B461_20 := sq_take 12 (e := 40) (by decide +kernel) True.intro
theorem sq461_0 : sq 461 0 B461_0 := sq_take 13 (e := 20) (by decide +kernel) True.intro
set_option maxRecDepth 100000 in
theorem sqM_461 : ∀ b, sq 461 b (tG 461 b) := show ∀ b, sq 461 b (lkB tb461 b) from lkB_sq (List.forall_mem_cons.mpr ⟨sq461_0, List.forall_mem_cons.mpr ⟨sq461_20, List.forall_mem_cons.mpr ⟨sq461_40, List.forall_mem_cons.mpr ⟨sq461_41, (fun _ h => absurd h List.not_mem_nil)⟩⟩⟩⟩)
theorem sq462_41 : sq 462 41 B462_41 := sq_take 1 (e := 42) (by decide +kernel) True.intro
theorem sq462_40 : sq 462 40 B462_40 := sq_take 1 (e := 41) (by decide +kernel) sq462_41
theorem sq462_20 : sq 462 20 B462_20 := sq_take 12 (e := 40) (by decide +kernel) True.intro
theorem sq462_0 : sq 462 0 B462_0 := sq_take 13 (e := 20) (by decide +kernel) True.intro
set_option maxRecDepth 100000 in
theorem sqM_462 : ∀ b, sq 462 b (tG 462 b) := show ∀ b, sq 462 b (lkB tb462 b) from lkB_sq (List.forall_mem_cons.mpr ⟨sq462_0, List.forall_mem_cons.mpr ⟨sq462_20, List.forall_mem_cons.mpr ⟨sq462_40, List.forall_mem_cons.mpr ⟨sq462_41, (fun _ h => absurd h List.not_mem_nil)⟩⟩⟩⟩)
theorem sq463_516 : sq 463 516 B463_516 := sq_take 1 (e := 517) (by decide +kernel) True.intro
theorem sq463_515 : sq 463 515 B463_515 := sq_take 2 (e := 516) (by decide +kernel) sq463_516
theorem sq463_503 : sq 463 503 B463_503 := sq_take 6 (e := 515) (by decide +kernel) True.intro
theorem sq463_495 : sq 463 495 B463_495 := sq_take 5 (e := 503) (by decide +kernel) sq463_503
theorem sq463_490 : sq 463 490 B463_490 := sq_take 4 (e := 495) (by decide +kernel) sq463_495
theorem sq463_487 : sq 463 487 B463_487 := sq_take 2 (e := 490) (by decide +kernel) sq463_490
theorem sq463_486 : sq 463 486 B463_486 := sq_take 1 (e := 487) (by decide +kernel) sq463_487
theorem sq463_478 : sq 463 478 B463_478 := sq_take 5 (e := 486) (by decide +kernel) True.intro
theorem sq463_477 : sq 463 477 B463_477 := sq_take 1 (e := 478) (by decide +kernel) sq463_478
theorem sq463_468 : sq 463 468 B463_468 := sq_take 5 (e := 477) (by decide +kernel) True.intro
theorem sq463_466 : sq 463 466 B463_466 := sq_take 1 (e := 468) (by decide +kernel) sq463_468
theorem sq463_457 : sq 463 457 B463_457 := sq_take 5 (e := 466) (by decide +kernel) True.intro
theorem sq463_454 : sq 463 454 B463_454 := sq_take 2 (e := 457) (by decide +kernel) True.intro
theorem sq463_450 : sq 463 450 B463_450 := sq_take 3 (e := 454) (by decide +kernel) sq463_454
theorem sq463_449 : sq 463 449 B463_449 := sq_take 1 (e := 450) (by decide +kernel) sq463_450
theorem sq463_440 : sq 463 440 B463_440 := sq_take 5 (e := 449) (by decide +kernel) True.intro
theorem sq463_438 : sq 463 438 B463_438 := sq_take 1 (e := 440) (by decide +kernel) sq463_440
theorem sq463_429 : sq 463 429 B463_429 := sq_take 5 (e := 438) (by decide +kernel) True.intro
theorem sq463_426 : sq 463 426 B463_426 := sq_take 2 (e := 429) (by decide +kernel) True.intro
theorem sq463_423 : sq 463 423 B463_423 := sq_take 2 (e := 426) (by decide +kernel) sq463_426
theorem sq463_422 : sq 463 422 B463_422 := sq_take 1 (e := 423) (by decide +kernel) sq463_423
theorem sq463_414 : sq 463 414 B463_414 := sq_take 5 (e := 422) (by decide +kernel) True.intro
theorem sq463_412 : sq 463 412 B463_412 := sq_take 1 (e := 414) (by decide +kernel) sq463_414
theorem sq463_404 : sq 463 404 B463_404 := sq_take 5 (e := 412) (by decide +kernel) True.intro
theorem sq463_403 : sq 463 403 B463_403 := sq_take 1 (e := 404) (by decide +kernel) sq463_404
theorem sq463_393 : sq 463 393 B463_393 := sq_take 5 (e := 403) (by decide +kernel) True.intro
theorem sq463_390 : sq 463 390 B463_390 := sq_take 2 (e := 393) (by decide +kernel) True.intro
theorem sq463_386 : sq 463 386 B463_386 := sq_take 3 (e := 390) (by decide +kernel) sq463_390
theorem sq463_384 : sq 463 384 B463_384 := sq_take 1 (e := 386) (by decide +kernel) sq463_386
theorem sq463_376 : sq 463 376 B463_376 := sq_take 5 (e := 384) (by decide +kernel) True.intro
theorem sq463_375 : sq 463 375 B463_375 := sq_take 1 (e := 376) (by decide +kernel) sq463_376
theorem sq463_365 : sq 463 365 B463_365 := sq_take 5 (e := 375) (by decide +kernel) True.intro
theorem sq463_362 : sq 463 362 B463_362 := sq_take 2 (e := 365) (by decide +kernel) True.intro
theorem sq463_359 : sq 463 359 B463_359 := sq_take 2 (e := 362) (by decide +kernel) sq463_362
theorem sq463_358 : sq 463 358 B463_358 := sq_take 1 (e := 359) (by decide +kernel) sq463_359
theorem sq463_350 : sq 463 350 B463_350 := sq_take 5 (e := 358) (by decide +kernel) True.intro
theorem sq463_349 : sq 463 349 B463_349 := sq_take 1 (e := 350) (by decide +kernel) sq463_350
theorem sq463_340 : sq 463 340 B463_340 := sq_take 5 (e := 349) (by decide +kernel) True.intro
theorem sq463_338 : sq 463 338 B463_338 := sq_take 1 (e := 340) (by decide +kernel) sq463_340
theorem sq463_329 : sq 463 329 B463_329 := sq_take 5 (e := 338) (by decide +kernel) True.intro
theorem sq463_326 : sq 463 326 B463_326 := sq_take 2 (e := 329) (by decide +kernel) True.intro
theorem sq463_322 : sq 463 322 B463_322 := sq_take 3 (e := 326) (by decide +kernel) sq463_326
theorem sq463_321 : sq 463 321 B463_321 := sq_take 1 (e := 322) (by decide +kernel) sq463_322
theorem sq463_312 : sq 463 312 B463_312 := sq_take 5 (e := 321) (by decide +kernel) True.intro
theorem sq463_310 : sq 463 310 B463_310 := sq_take 1 (e := 312) (by decide +kernel) sq463_312
theorem sq463_301 : sq 463 301 B463_301 := sq_take 5 (e := 310) (by decide +kernel) True.intro
theorem sq463_298 : sq 463 298 B463_298 := sq_take 2 (e := 301) (by decide +kernel) True.intro
theorem sq463_295 : sq 463 295 B463_295 := sq_take 2 (e := 298) (by decide +kernel) sq463_298
theorem sq463_294 : sq 463 294 B463_294 := sq_take 1 (e := 295) (by decide +kernel) sq463_295
theorem sq463_286 : sq 463 286 B463_286 := sq_take 5 (e := 294) (by decide +kernel) True.intro
theorem sq463_284 : sq 463 284 B463_284 := sq_take 1 (e := 286) (by decide +kernel) sq463_286
theorem sq463_276 : sq 463 276 B463_276 := sq_take 5 (e := 284) (by decide +kernel) True.intro
theorem sq463_275 : sq 463 275 B463_275 := sq_take 1 (e := 276) (by decide +kernel) sq463_276
theorem sq463_265 : sq 463 265 B463_265 := sq_take 5 (e := 275) (by decide +kernel) True.intro
theorem sq463_262 : sq 463 262 B463_262 := sq_take 2 (e := 265) (by decide +kernel) True.intro
theorem sq463_258 : sq 463 258 B463_258 := sq_take 3 (e := 262) (by decide +kernel) sq463_262
theorem sq463_256 : sq 463 256 B463_256 := sq_take 1 (e := 258) (by decide +kernel) sq463_258
theorem sq463_248 : sq 463 248 B463_248 := sq_take 5 (e := 256) (by decide +kernel) True.intro
theorem sq463_247 : sq 463 247 B463_247 := sq_take 1 (e := 248) (by decide +kernel) sq463_248
theorem sq463_237 : sq 463 237 B463_237 := sq_take 5 (e := 247) (by decide +kernel) True.intro
theorem sq463_205 : sq 463 205 B463_205 := sq_take 19 (e := 237) (by decide +kernel) True.intro
theorem sq463_135 : sq 463 135 B463_135 := sq_take 43 (e := 205) (by decide +kernel) True.intro
theorem sq463_132 : sq 463 132 B463_132 := sq_take 2 (e := 135) (by decide +kernel) True.intro
theorem sq463_125 : sq 463 125 B463_125 := sq_take 4 (e := 132) (by decide +kernel) sq463_132
theorem sq463_122 : sq 463 122 B463_122 := sq_take 2 (e := 125) (by decide +kernel) True.intro
theorem sq463_111 : sq 463 111 B463_111 := sq_take 7 (e := 122) (by decide +kernel) sq463_122
theorem sq463_110 : sq 463 110 B463_110 := sq_take 1 (e := 111) (by decide +kernel) sq463_111
theorem sq463_100 : sq 463 100 B463_100 := sq_take 5 (e := 110) (by decide +kernel) True.intro
theorem sq463_6 : sq 463 6 B463_6 := sq_take 4 (e := 100) (by decide +kernel) True.intro
theorem sq463_0 : sq 463 0 B463_0 := sq_take 4 (e := 6) (by decide +kernel) sq463_6
set_option maxRecDepth 100000 in
theorem sqM_463 : ∀ b, sq 463 b (tG 463 b) := show ∀ b, sq 463 b (lkB tb463 b) from lkB_sq (List.forall_mem_cons.mpr ⟨sq463_0, List.forall_mem_cons.mpr ⟨sq463_6, List.forall_mem_cons.mpr ⟨sq463_100, List.forall_mem_cons.mpr ⟨sq463_110, List.forall_mem_cons.mpr ⟨sq463_111, List.forall_mem_cons.mpr ⟨sq463_122, List.forall_mem_cons.mpr ⟨sq463_125, List.forall_mem_cons.mpr ⟨sq463_132, List.forall_mem_cons.mpr ⟨sq463_135, List.forall_mem_cons.mpr ⟨sq463_205, List.forall_mem_cons.mpr ⟨sq463_237, List.forall_mem_cons.mpr ⟨sq463_247, List.forall_mem_cons.mpr ⟨sq463_248, List.forall_mem_cons.mpr ⟨sq463_256, List.forall_mem_cons.mpr ⟨sq463_258, List.forall_mem_cons.mpr ⟨sq463_262, List.forall_mem_cons.mpr ⟨sq463_265, List.forall_mem_cons.mpr ⟨sq463_275, List.forall_mem_cons.mpr ⟨sq463_276, List.forall_mem_cons.mpr ⟨sq463_284, List.forall_mem_cons.mpr ⟨sq463_286, List.forall_mem_cons.mpr ⟨sq463_294, List.forall_mem_cons.mpr ⟨sq463_295, List.forall_mem_cons.mpr ⟨sq463_298, List.forall_mem_cons.mpr ⟨sq463_301, List.forall_mem_cons.mpr ⟨sq463_310, List.forall_mem_cons.mpr ⟨sq463_312, List.forall_mem_cons.mpr ⟨sq463_321, List.forall_mem_cons.mpr ⟨sq463_322, List.forall_mem_cons.mpr ⟨sq463_326, List.forall_mem_cons.mpr ⟨sq463_329, List.forall_mem_cons.mpr ⟨sq463_338, List.forall_mem_cons.mpr ⟨sq463_340, List.forall_mem_cons.mpr ⟨sq463_349, List.forall_mem_cons.mpr ⟨sq463_350, List.forall_mem_cons.mpr ⟨sq463_358, List.forall_mem_cons.mpr ⟨sq463_359, List.forall_mem_cons.mpr ⟨sq463_362, List.forall_mem_cons.mpr ⟨sq463_365, List.forall_mem_cons.mpr ⟨sq463_375, List.forall_mem_cons.mpr ⟨sq463_376, List.forall_mem_cons.mpr ⟨sq463_384, List.forall_mem_cons.mpr ⟨sq463_386, List.forall_mem_cons.mpr ⟨sq463_390, List.forall_mem_cons.mpr ⟨sq463_393, List.forall_mem_cons.mpr ⟨sq463_403, List.forall_mem_cons.mpr ⟨sq463_404, List.forall_mem_cons.mpr ⟨sq463_412, List.forall_mem_cons.mpr ⟨sq463_414, List.forall_mem_cons.mpr ⟨sq463_422, List.forall_mem_cons.mpr ⟨sq463_423, List.forall_mem_cons.mpr ⟨sq463_426, List.forall_mem_cons.mpr ⟨sq463_429, List.forall_mem_cons.mpr ⟨sq463_438, List.forall_mem_cons.mpr ⟨sq463_440, List.forall_mem_cons.mpr ⟨sq463_449, List.forall_mem_cons.mpr ⟨sq463_450, List.forall_mem_cons.mpr ⟨sq463_454, List.forall_mem_cons.mpr ⟨sq463_457, List.forall_mem_cons.mpr ⟨sq463_466, List.forall_mem_cons.mpr ⟨sq463_468, List.forall_mem_cons.mpr ⟨sq463_477, List.forall_mem_cons.mpr ⟨sq463_478, List.forall_mem_cons.mpr ⟨sq463_486, List.forall_mem_cons.mpr ⟨sq463_487, List.forall_mem_cons.mpr ⟨sq463_490, List.forall_mem_cons.mpr ⟨sq463_495, List.forall_mem_cons.mpr ⟨sq463_503, List.forall_mem_cons.mpr ⟨sq463_515, List.forall_mem_cons.mpr ⟨sq463_516, (fun _ h => absurd h List.not_mem_nil)⟩⟩⟩⟩⟩⟩⟩⟩⟩⟩⟩⟩⟩⟩⟩⟩⟩⟩⟩⟩⟩⟩⟩⟩⟩⟩⟩⟩⟩⟩⟩⟩⟩⟩⟩⟩⟩⟩⟩⟩⟩⟩⟩⟩⟩⟩⟩⟩⟩⟩⟩⟩⟩⟩⟩⟩⟩⟩⟩⟩⟩⟩⟩⟩⟩⟩⟩⟩⟩⟩)
theorem sq464_66 : sq 464 66 B464_66 := sq_take 3 (e := 68) (by decide +kernel) True.intro
theorem sq464_49 : sq 464 49 B464_49 := sq_take 11 (e := 66) (by decide +kernel) sq464_66
theorem sq464_9 : sq 464 9 B464_9 := sq_take 25 (e := 49) (by decide +kernel) sq464_49
theorem sq464_8 : sq 464 8 B464_8 := sq_take 1 (e := 9) (by decide +kernel) sq464_9
theorem sq464_0 : sq 464 0 B464_0 := sq_take 5 (e := 8) (by decide +kernel) True.intro
set_option maxRecDepth 100000 in
theorem sqM_464 : ∀ b, sq 464 b (tG 464 b) := show ∀ b, sq 464 b (lkB tb464 b) from lkB_sq (List.forall_mem_cons.mpr ⟨sq464_0, List.forall_mem_cons.mpr ⟨sq464_8, List.forall_mem_cons.mpr ⟨sq464_9, List.forall_mem_cons.mpr ⟨sq464_49, List.forall_mem_cons.mpr ⟨sq464_66, (fun _ h => absurd h List.not_mem_nil)⟩⟩⟩⟩⟩)
theorem sq465_90 : sq 465 90 B465_90 := sq_take 3 (e := 92) (by decide +kernel) True.intro
theorem sq465_84 : sq 465 84 B465_84 := sq_take 4 (e := 90) (by decide +kernel) sq465_90
theorem sq465_61 : sq 465 61 B465_61 := sq_take 14 (e := 84) (by decide +kernel) True.intro
theorem sq465_55 : sq 465 55 B465_55 := sq_take 4 (e := 61) (by decide +kernel) sq465_61
theorem sq465_9 : sq 465 9 B465_9 := sq_take 28 (e := 55) (by decide +kernel) True.intro
theorem sq465_8 : sq 465 8 B465_8 := sq_take 1 (e := 9) (by decide +kernel) sq465_9
theorem sq465_0 : sq 465 0 B465_0 := sq_take 5 (e := 8) (by decide +kernel) True.intro
set_option maxRecDepth 100000 in
theorem sqM_465 : ∀ b, sq 465 b (tG 465 b) := show ∀ b, sq 465 b (lkB tb465 b) from lkB_sq (List.forall_mem_cons.mpr ⟨sq465_0, List.forall_mem_cons.mpr ⟨sq465_8, List.forall_mem_cons.mpr ⟨sq465_9, List.forall_mem_cons.mpr ⟨sq465_55, List.forall_mem_cons.mpr ⟨sq465_61, List.forall_mem_cons.mpr ⟨sq465_84, List.forall_mem_cons.mpr ⟨sq465_90, (fun _ h => absurd h List.not_mem_nil)⟩⟩⟩⟩⟩⟩⟩)
theorem sq466_206 : sq 466 206 B466_206 := sq_take 10 (e := 219) (by decide +kernel) True.intro
theorem sq466_170 : sq 466 170 B466_170 := sq_take 25 (e := 206) (by decide +kernel) sq466_206
theorem sq466_145 : sq 466 145 B466_145 := sq_take 18 (e := 170) (by decide +kernel) sq466_170
theorem sq466_139 : sq 466 139 B466_139 := sq_take 4 (e := 145) (by decide +kernel) sq466_145
theorem sq466_108 : sq 466 108 B466_108 := sq_take 20 (e := 139) (by decide +kernel) True.intro
theorem sq466_102 : sq 466 102 B466_102 := sq_take 4 (e := 108) (by decide +kernel) sq466_108
theorem sq466_71 : sq 466 71 B466_71 := sq_take 20 (e := 102) (by decide +kernel) True.intro
theorem sq466_50 : sq 466 50 B466_50 := sq_take 14 (e := 71) (by decide +kernel) sq466_71
theorem sq466_0 : sq 466 0 B466_0 := sq_take 35 (e := 50) (by decide +kernel) sq466_50
set_option maxRecDepth 100000 in
theorem sqM_466 : ∀ b, sq 466 b (tG 466 b) := show ∀ b, sq 466 b (lkB tb466 b) from lkB_sq (List.forall_mem_cons.mpr ⟨sq466_0, List.forall_mem_cons.mpr ⟨sq466_50, List.forall_mem_cons.mpr ⟨sq466_71, List.forall_mem_cons.mpr ⟨sq466_102, List.forall_mem_cons.mpr ⟨sq466_108, List.forall_mem_cons.mpr ⟨sq466_139, List.forall_mem_cons.mpr ⟨sq466_145, List.forall_mem_cons.mpr ⟨sq466_170, List.forall_mem_cons.mpr ⟨sq466_206, (fun _ h => absurd h List.not_mem_nil)⟩⟩⟩⟩⟩⟩⟩⟩⟩)
theorem sq467_166 : sq 467 166 B467_166 := sq_take 4 (e := 169) (by decide +kernel) True.intro
theorem sq467_165 : sq 467 165 B467_165 := sq_take 1 (e := 166) (by decide +kernel) sq467_166
theorem sq467_134 : sq 467 134 B467_134 := sq_take 20 (e := 165) (by decide +kernel) True.intro
theorem sq467_133 : sq 467 133 B467_133 := sq_take 1 (e := 134) (by decide +kernel) sq467_134
theorem sq467_102 : sq 467 102 B467_102 := sq_take 20 (e := 133) (by decide +kernel) True.intro
theorem sq467_101 : sq 467 101 B467_101 := sq_take 1 (e := 102) (by decide +kernel) sq467_102
theorem sq467_70 : sq 467 70 B467_70 := sq_take 20 (e := 101) (by decide +kernel) True.intro
theorem sq467_69 : sq 467 69 B467_69 := sq_take 1 (e := 70) (by decide +kernel) sq467_70
theorem sq467_38 : sq 467 38 B467_38 := sq_take 19 (e := 69) (by decide +kernel) True.intro
theorem sq467_37 : sq 467 37 B467_37 := sq_take 1 (e := 38) (by decide +kernel) sq467_38
theorem sq467_27 : sq 467 27 B467_27 := sq_take 7 (e := 37) (by decide +kernel) True.intro
theorem sq467_26 : sq 467 26 B467_26 := sq_take 1 (e := 27) (by decide +kernel) sq467_27
theorem sq467_19 : sq 467 19 B467_19 := sq_take 4 (e := 26) (by decide +kernel) True.intro
theorem sq467_14 : sq 467 14 B467_14 := sq_take 3 (e := 19) (by decide +kernel) sq467_19
theorem sq467_10 : sq 467 10 B467_10 := sq_take 3 (e := 14) (by decide +kernel) True.intro
theorem sq467_5 : sq 467 5 B467_5 := sq_take 4 (e := 10) (by decide +kernel) sq467_10
theorem sq467_0 : sq 467 0 B467_0 := sq_take 4 (e := 5) (by decide +kernel) sq467_5
set_option maxRecDepth 100000 in
theorem sqM_467 : ∀ b, sq 467 b (tG 467 b) := show ∀ b, sq 467 b (lkB tb467 b) from lkB_sq (List.forall_mem_cons.mpr ⟨sq467_0, List.forall_mem_cons.mpr ⟨sq467_5, List.forall_mem_cons.mpr ⟨sq467_10, List.forall_mem_cons.mpr ⟨sq467_14, List.forall_mem_cons.mpr ⟨sq467_19, List.forall_mem_cons.mpr ⟨sq467_26, List.forall_mem_cons.mpr ⟨sq467_27, List.forall_mem_cons.mpr ⟨sq467_37, List.forall_mem_cons.mpr ⟨sq467_38, List.forall_mem_cons.mpr ⟨sq467_69, List.forall_mem_cons.mpr ⟨sq467_70, List.forall_mem_cons.mpr ⟨sq467_101, List.forall_mem_cons.mpr ⟨sq467_102, List.forall_mem_cons.mpr ⟨sq467_133, List.forall_mem_cons.mpr ⟨sq467_134, List.forall_mem_cons.mpr ⟨sq467_165, List.forall_mem_cons.mpr ⟨sq467_166, (fun _ h => absurd h List.not_mem_nil)⟩⟩⟩⟩⟩⟩⟩⟩⟩⟩⟩⟩⟩⟩⟩⟩⟩)
theorem sq468_134 : sq 468 134 B468_134 := sq_take 1 (e := 135) (by decide +kernel) True.intro
theorem sq468_128 : sq 468 128 B468_128 := sq_take 3 (e := 134) (by decide +kernel) True.intro
theorem sq468_99 : sq 468 99 B468_99 := sq_take 21 (e := 128) (by decide +kernel) sq468_128
theorem sq468_97 : sq 468 97 B468_97 := sq_take 2 (e := 99) (by decide +kernel) sq468_99
theorem sq468_59 : sq 468 59 B468_59 := sq_take 25 (e := 97) (by decide +kernel) True.intro
theorem sq468_57 : sq 468 57 B468_57 := sq_take 2 (e := 59) (by decide +kernel) sq468_59
theorem sq468_26 : sq 468 26 B468_26 := sq_take 22 (e := 57) (by decide +kernel) True.intro
theorem sq468_0 : sq 468 0 B468_0 := sq_take 19 (e := 26) (by decide +kernel) sq468_26
set_option maxRecDepth 100000 in
theorem sqM_468 : ∀ b, sq 468 b (tG 468 b) := show ∀ b, sq 468 b (lkB tb468 b) from lkB_sq (List.forall_mem_cons.mpr ⟨sq468_0, List.forall_mem_cons.mpr ⟨sq468_26, List.forall_mem_cons.mpr ⟨sq468_57, List.forall_mem_cons.mpr ⟨sq468_59, List.forall_mem_cons.mpr ⟨sq468_97, List.forall_mem_cons.mpr ⟨sq468_99, List.forall_mem_cons.mpr ⟨sq468_128, List.forall_mem_cons.mpr ⟨sq468_134, (fun _ h => absurd h List.not_mem_nil)⟩⟩⟩⟩⟩⟩⟩⟩)
theorem sq469_39 : sq 469 39 B469_39 := sq_take 1 (e := 40) (by decide +kernel) True.intro
theorem sq469_21 : sq 469 21 B469_21 := sq_take 12 (e := 39) (by decide +kernel) True.intro
theorem sq469_2 : sq 469 2 B469_2 := sq_take 14 (e := 21) (by decide +kernel) sq469_21
theorem sq469_0 : sq 469 0 B469_0 := sq_take 3 (e := 2) (by decide +kernel) sq469_2
set_option maxRecDepth 100000 in
theorem sqM_469 : ∀ b, sq 469 b (tG 469 b) := show ∀ b, sq 469 b (lkB tb469 b) from lkB_sq (List.forall_mem_cons.mpr ⟨sq469_0, List.forall_mem_cons.mpr ⟨sq469_2, List.forall_mem_cons.mpr ⟨sq469_21, List.forall_mem_cons.mpr ⟨sq469_39, (fun _ h => absurd h List.not_mem_nil)⟩⟩⟩⟩)
theorem sq470_175 : sq 470 175 B470_175 := sq_take 5 (e := 181) (by decide +kernel) True.intro
theorem sq470_174 : sq 470 174 B470_174 := sq_take 1 (e := 175) (by decide +kernel) sq470_175
theorem sq470_157 : sq 470 157 B470_157 := sq_take 10 (e := 174) (by decide +kernel) True.intro
theorem sq470_156 : sq 470 156 B470_156 := sq_take 1 (e := 157) (by decide +kernel) sq470_157
theorem sq470_134 : sq 470 134 B470_134 := sq_take 13 (e := 156) (by decide +kernel) True.intro
theorem sq470_130 : sq 470 130 B470_130 := sq_take 2 (e := 134) (by decide +kernel) sq470_134
theorem sq470_114 : sq 470 114 B470_114 := sq_take 9 (e := 130) (by decide +kernel) True.intro
theorem sq470_103 : sq 470 103 B470_103 := sq_take 6 (e := 114) (by decide +kernel) sq470_114
theorem sq470_92 : sq 470 92 B470_92 := sq_take 6 (e := 103) (by decide +kernel) sq470_103
theorem sq470_78 : sq 470 78 B470_78 := sq_take 8 (e := 92) (by decide +kernel) sq470_92
theorem sq470_58 : sq 470 58 B470_58 := sq_take 11 (e := 78) (by decide +kernel) True.intro
theorem sq470_56 : sq 470 56 B470_56 := sq_take 2 (e := 58) (by decide +kernel) sq470_58
theorem sq470_37 : sq 470 37 B470_37 := sq_take 11 (e := 56) (by decide +kernel) True.intro
theorem sq470_35 : sq 470 35 B470_35 := sq_take 3 (e := 37) (by decide +kernel) sq470_37
theorem sq470_18 : sq 470 18 B470_18 := sq_take 11 (e := 35) (by decide +kernel) sq470_35
theorem sq470_16 : sq 470 16 B470_16 := sq_take 2 (e := 18) (by decide +kernel) True.intro
theorem sq470_4 : sq 470 4 B470_4 := sq_take 7 (e := 16) (by decide +kernel) sq470_16
theorem sq470_0 : sq 470 0 B470_0 := sq_take 3 (e := 4) (by decide +kernel) sq470_4
set_option maxRecDepth 100000 in
theorem sqM_470 : ∀ b, sq 470 b (tG 470 b) := show ∀ b, sq 470 b (lkB tb470 b) from lkB_sq (List.forall_mem_cons.mpr ⟨sq470_0, List.forall_mem_cons.mpr ⟨sq470_4, List.forall_mem_cons.mpr ⟨sq470_16, List.forall_mem_cons.mpr ⟨sq470_18, List.forall_mem_cons.mpr ⟨sq470_35, List.forall_mem_cons.mpr ⟨sq470_37, List.forall_mem_cons.mpr ⟨sq470_56, List.forall_mem_cons.mpr ⟨sq470_58, List.forall_mem_cons.mpr ⟨sq470_78, List.forall_mem_cons.mpr ⟨sq470_92, List.forall_mem_cons.mpr ⟨sq470_103, List.forall_mem_cons.mpr ⟨sq470_114, List.forall_mem_cons.mpr ⟨sq470_130, List.forall_mem_cons.mpr ⟨sq470_134, List.forall_mem_cons.mpr ⟨sq470_156, List.forall_mem_cons.mpr ⟨sq470_157, List.forall_mem_cons.mpr ⟨sq470_174, List.forall_mem_cons.mpr ⟨sq470_175, (fun _ h => absurd h List.not_mem_nil)⟩⟩⟩⟩⟩⟩⟩⟩⟩⟩⟩⟩⟩⟩⟩⟩⟩⟩)
theorem sq471_21 : sq 471 21 B471_21 := sq_take 1 (e := 22) (by decide +kernel) True.intro
theorem sq471_20 : sq 471 20 B471_20 := sq_take 2 (e := 21) (by decide +kernel) sq471_21
theorem sq471_4 : sq 471 4 B471_4 := sq_take 9 (e := 20) (by decide +kernel) True.intro
theorem sq471_0 : sq 471 0 B471_0 := sq_take 3 (e := 4) (by decide +kernel) sq471_4
set_option maxRecDepth 100000 in
theorem sqM_471 : ∀ b, sq 471 b (tG 471 b) := show ∀ b, sq 471 b (lkB tb471 b) from lkB_sq (List.forall_mem_cons.mpr ⟨sq471_0, List.forall_mem_cons.mpr ⟨sq471_4, List.forall_mem_cons.mpr ⟨sq471_20, List.forall_mem_cons.mpr ⟨sq471_21, (fun _ h => absurd h List.not_mem_nil)⟩⟩⟩⟩)
theorem sq472_38 : sq 472 38 B472_38 := sq_take 1 (e := 39) (by decide +kernel) True.intro
theorem sq472_32 : sq 472 32 B472_32 := sq_take 4 (e := 38) (by decide +kernel) sq472_38
theorem sq472_28 : sq 472 28 B472_28 := sq_take 2 (e := 32) (by decide +kernel) True.intro
theorem sq472_13 : sq 472 13 B472_13 := sq_take 7 (e := 28) (by decide +kernel) True.intro
theorem sq472_9 : sq 472 9 B472_9 := sq_take 3 (e := 13) (by decide +kernel) True.intro
theorem sq472_0 : sq 472 0 B472_0 := sq_take 6 (e := 9) (by decide +kernel) sq472_9
set_option maxRecDepth 100000 in
theorem sqM_472 : ∀ b, sq 472 b (tG 472 b) := show ∀ b, sq 472 b (lkB tb472 b) from lkB_sq (List.forall_mem_cons.mpr ⟨sq472_0, List.forall_mem_cons.mpr ⟨sq472_9, List.forall_mem_cons.mpr ⟨sq472_13, List.forall_mem_cons.mpr ⟨sq472_28, List.forall_mem_cons.mpr ⟨sq472_32, List.forall_mem_cons.mpr ⟨sq472_38, (fun _ h => absurd h List.not_mem_nil)⟩⟩⟩⟩⟩⟩)
theorem sq473_16 : sq 473 16 B473_16 := sq_take 2 (e := 20) (by decide +kernel) True.intro
theorem sq473_12 : sq 473 12 B473_12 := sq_take 2 (e := 16) (by decide +kernel) sq473_16
theorem sq473_0 : sq 473 0 B473_0 := sq_take 7 (e := 12) (by decide +kernel) True.intro
set_option maxRecDepth 100000 in
theorem sqM_473 : ∀ b, sq 473 b (tG 473 b) := show ∀ b, sq 473 b (lkB tb473 b) from lkB_sq (List.forall_mem_cons.mpr ⟨sq473_0, List.forall_mem_cons.mpr ⟨sq473_12, List.forall_mem_cons.mpr ⟨sq473_16, (fun _ h => absurd h List.not_mem_nil)⟩⟩⟩)
theorem sq474_0 : sq 474 0 B474_0 := sq_take 11 (e := 16) (by decide +kernel) True.intro
set_option maxRecDepth 100000 in
theorem sqM_474 : ∀ b, sq 474 b (tG 474 b) := show ∀ b, sq 474 b (lkB tb474 b) from lkB_sq (List.forall_mem_cons.mpr ⟨sq474_0, (fun _ h => absurd h List.not_mem_nil)⟩)
theorem sq475_76 : sq 475 76 B475_76 := sq_take 1 (e := 77) (by decide +kernel) True.intro
theorem sq475_62 : sq 475 62 B475_62 := sq_take 10 (e := 76) (by decide +kernel) True.intro
theorem sq475_61 : sq 475 61 B475_61 := sq_take 2 (e := 62) (by decide +kernel) True.intro
theorem sq475_46 : sq 475 46 B475_46 := sq_take 10 (e := 61) (by decide +kernel) sq475_61
theorem sq475_24 : sq 475 24 B475_24 := sq_take 13 (e := 46) (by decide +kernel) sq475_46
theorem sq475_22 : sq 475 22 B475_22 := sq_take 2 (e := 24) (by decide +kernel) sq475_24
theorem sq475_2 : sq 475 2 B475_2 := sq_take 11 (e := 22) (by decide +kernel) True.intro
theorem sq475_0 : sq 475 0 B475_0 := sq_take 3 (e := 2) (by decide +kernel) sq475_2
set_option maxRecDepth 100000 in
theorem sqM_475 : ∀ b, sq 475 b (tG 475 b) := show ∀ b, sq 475 b (lkB tb475 b) from lkB_sq (List.forall_mem_cons.mpr ⟨sq475_0, List.forall_mem_cons.mpr ⟨sq475_2, List.forall_mem_cons.mpr ⟨sq475_22, List.forall_mem_cons.mpr ⟨sq475_24, List.forall_mem_cons.mpr ⟨sq475_46, List.forall_mem_cons.mpr ⟨sq475_61, List.forall_mem_cons.mpr ⟨sq475_62, List.forall_mem_cons.mpr ⟨sq475_76, (fun _ h => absurd h List.not_mem_nil)⟩⟩⟩⟩⟩⟩⟩⟩)
theorem sq476_45 : sq 476 45 B476_45 := sq_take 1 (e := 46) (by decide +kernel) True.intro
theorem sq476_44 : sq 476 44 B476_44 := sq_take 2 (e := 45) (by decide +kernel) sq476_45
theorem sq476_40 : sq 476 40 B476_40 := sq_take 3 (e := 44) (by decide +kernel) True.intro
theorem sq476_37 : sq 476 37 B476_37 := sq_take 2 (e := 40) (by decide +kernel) sq476_40
theorem sq476_4 : sq 476 4 B476_4 := sq_take 20 (e := 37) (by decide +kernel) sq476_37
theorem sq476_0 : sq 476 0 B476_0 := sq_take 3 (e := 4) (by decide +kernel) sq476_4
set_option maxRecDepth 100000 in
theorem sqM_476 : ∀ b, sq 476 b (tG 476 b) := show ∀ b, sq 476 b (lkB tb476 b) from lkB_sq (List.forall_mem_cons.mpr ⟨sq476_0, List.forall_mem_cons.mpr ⟨sq476_4, List.forall_mem_cons.mpr ⟨sq476_37, List.forall_mem_cons.mpr ⟨sq476_40, List.forall_mem_cons.mpr ⟨sq476_44, List.forall_mem_cons.mpr ⟨sq476_45, (fun _ h => absurd h List.not_mem_nil)⟩⟩⟩⟩⟩⟩)
theorem sq477_32 : sq 477 32 B477_32 := sq_take 3 (e := 34) (by decide +kernel) True.intro
theorem sq477_28 : sq 477 28 B477_28 := sq_take 2 (e := 32) (by decide +kernel) sq477_32
theorem sq477_25 : sq 477 25 B477_25 := sq_take 2 (e := 28) (by decide +kernel) True.intro
theorem sq477_21 : sq 477 21 B477_21 := sq_take 3 (e := 25) (by decide +kernel) sq477_25
theorem sq477_4 : sq 477 4 B477_4 := sq_take 11 (e := 21) (by decide +kernel) sq477_21
theorem sq477_0 : sq 477 0 B477_0 := sq_take 3 (e := 4) (by decide +kernel) sq477_4
set_option maxRecDepth 100000 in
theorem sqM_477 : ∀ b, sq 477 b (tG 477 b) := show ∀ b, sq 477 b (lkB tb477 b) from lkB_sq (List.forall_mem_cons.mpr ⟨sq477_0, List.forall_mem_cons.mpr ⟨sq477_4, List.forall_mem_cons.mpr ⟨sq477_21, List.forall_mem_cons.mpr ⟨sq477_25, List.forall_mem_cons.mpr ⟨sq477_28, List.forall_mem_cons.mpr ⟨sq477_32, (fun _ h => absurd h List.not_mem_nil)⟩⟩⟩⟩⟩⟩)
theorem sq478_31 : sq 478 31 B478_31 := sq_take 1 (e := 32) (by decide +kernel) True.intro
theorem sq478_30 : sq 478 30 B478_30 := sq_take 2 (e := 31) (by decide +kernel) sq478_31
theorem sq478_0 : sq 478 0 B478_0 := sq_take 17 (e := 30) (by decide +kernel) True.intro
set_option maxRecDepth 100000 in
theorem sqM_478 : ∀ b, sq 478 b (tG 478 b) := show ∀ b, sq 478 b (lkB tb478 b) from lkB_sq (List.forall_mem_cons.mpr ⟨sq478_0, List.forall_mem_cons.mpr ⟨sq478_30, List.forall_mem_cons.mpr ⟨sq478_31, (fun _ h => absurd h List.not_mem_nil)⟩⟩⟩)
theorem sq479_23 : sq 479 23 B479_23 := sq_take 1 (e := 24) (by decide +kernel) True.intro
theorem sq479_22 : sq 479 22 B479_22 := sq_take 2 (e := 23) (by decide +kernel) sq479_23
theorem sq479_14 : sq 479 14 B479_14 := sq_take 5 (e := 22) (by decide +kernel) True.intro
theorem sq479_4 : sq 479 4 B479_4 := sq_take 5 (e := 14) (by decide +kernel) sq479_14
theorem sq479_0 : sq 479 0 B479_0 := sq_take 3 (e := 4) (by decide +kernel) sq479_4
set_option maxRecDepth 100000 in
theorem sqM_479 : ∀ b, sq 479 b (tG 479 b) := show ∀ b, sq 479 b (lkB tb479 b) from lkB_sq (List.forall_mem_cons.mpr ⟨sq479_0, List.forall_mem_cons.mpr ⟨sq479_4, List.forall_mem_cons.mpr ⟨sq479_14, List.forall_mem_cons.mpr ⟨sq479_22, List.forall_mem_cons.mpr ⟨sq479_23, (fun _ h => absurd h List.not_mem_nil)⟩⟩⟩⟩⟩)
theorem sq480_352 : sq 480 352 B480_352 := sq_take 1 (e := 353) (by decide +kernel) True.intro
theorem sq480_346 : sq 480 346 B480_346 := sq_take 3 (e := 352) (by decide +kernel) True.intro
theorem sq480_335 : sq 480 335 B480_335 := sq_take 7 (e := 346) (by decide +kernel) sq480_346
theorem sq480_330 : sq 480 330 B480_330 := sq_take 2 (e := 335) (by decide +kernel) sq480_335
theorem sq480_329 : sq 480 329 B480_329 := sq_take 2 (e := 330) (by decide +kernel) True.intro
theorem sq480_312 : sq 480 312 B480_312 := sq_take 10 (e := 329) (by decide +kernel) sq480_329
theorem sq480_311 : sq 480 311 B480_311 := sq_take 2 (e := 312) (by decide +kernel) sq480_312
theorem sq480_307 : sq 480 307 B480_307 := sq_take 3 (e := 311) (by decide +kernel) True.intro
theorem sq480_281 : sq 480 281 B480_281 := sq_take 12 (e := 307) (by decide +kernel) sq480_307
theorem sq480_277 : sq 480 277 B480_277 := sq_take 3 (e := 281) (by decide +kernel) sq480_281
theorem sq480_268 : sq 480 268 B480_268 := sq_take 5 (e := 277) (by decide +kernel) sq480_277
theorem sq480_256 : sq 480 256 B480_256 := sq_take 6 (e := 268) (by decide +kernel) sq480_268
theorem sq480_255 : sq 480 255 B480_255 := sq_take 1 (e := 256) (by decide +kernel) sq480_256
theorem sq480_251 : sq 480 251 B480_251 := sq_take 3 (e := 255) (by decide +kernel) True.intro
theorem sq480_248 : sq 480 248 B480_248 := sq_take 2 (e := 251) (by decide +kernel) sq480_251
theorem sq480_235 : sq 480 235 B480_235 := sq_take 7 (e := 248) (by decide +kernel) sq480_248
theorem sq480_228 : sq 480 228 B480_228 := sq_take 4 (e := 235) (by decide +kernel) sq480_235
theorem sq480_227 : sq 480 227 B480_227 := sq_take 1 (e := 228) (by decide +kernel) sq480_228
theorem sq480_223 : sq 480 223 B480_223 := sq_take 3 (e := 227) (by decide +kernel) True.intro
theorem sq480_204 : sq 480 204 B480_204 := sq_take 11 (e := 223) (by decide +kernel) sq480_223
theorem sq480_192 : sq 480 192 B480_192 := sq_take 8 (e := 204) (by decide +kernel) sq480_204
theorem sq480_191 : sq 480 191 B480_191 := sq_take 1 (e := 192) (by decide +kernel) sq480_192
theorem sq480_188 : sq 480 188 B480_188 := sq_take 2 (e := 191) (by decide +kernel) True.intro
theorem sq480_175 : sq 480 175 B480_175 := sq_take 7 (e := 188) (by decide +kernel) sq480_188
theorem sq480_174 : sq 480 174 B480_174 := sq_take 1 (e := 175) (by decide +kernel) sq480_175
theorem sq480_170 : sq 480 170 B480_170 := sq_take 3 (e := 174) (by decide +kernel) True.intro
theorem sq480_167 : sq 480 167 B480_167 := sq_take 2 (e := 170) (by decide +kernel) sq480_170
theorem sq480_159 : sq 480 159 B480_159 := sq_take 4 (e := 167) (by decide +kernel) sq480_167
theorem sq480_152 : sq 480 152 B480_152 := sq_take 4 (e := 159) (by decide +kernel) sq480_159
theorem sq480_146 : sq 480 146 B480_146 := sq_take 5 (e := 152) (by decide +kernel) sq480_152
theorem sq480_145 : sq 480 145 B480_145 := sq_take 1 (e := 146) (by decide +kernel) sq480_146
theorem sq480_132 : sq 480 132 B480_132 := sq_take 7 (e := 145) (by decide +kernel) True.intro
theorem sq480_115 : sq 480 115 B480_115 := sq_take 10 (e := 132) (by decide +kernel) True.intro
theorem sq480_111 : sq 480 111 B480_111 := sq_take 4 (e := 115) (by decide +kernel) sq480_115
theorem sq480_105 : sq 480 105 B480_105 := sq_take 3 (e := 111) (by decide +kernel) True.intro
theorem sq480_103 : sq 480 103 B480_103 := sq_take 3 (e := 105) (by decide +kernel) sq480_105
theorem sq480_100 : sq 480 100 B480_100 := sq_take 2 (e := 103) (by decide +kernel) sq480_103
theorem sq480_87 : sq 480 87 B480_87 := sq_take 8 (e := 100) (by decide +kernel) sq480_100
theorem sq480_84 : sq 480 84 B480_84 := sq_take 2 (e := 87) (by decide +kernel) sq480_87
theorem sq480_81 : sq 480 81 B480_81 := sq_take 2 (e := 84) (by decide +kernel) sq480_84
theorem sq480_71 : sq 480 71 B480_71 := sq_take 7 (e := 81) (by decide +kernel) sq480_81
theorem sq480_68 : sq 480 68 B480_68 := sq_take 2 (e := 71) (by decide +kernel) sq480_71
theorem sq480_49 : sq 480 49 B480_49 := sq_take 12 (e := 68) (by decide +kernel) sq480_68
theorem sq480_47 : sq 480 47 B480_47 := sq_take 2 (e := 49) (by decide +kernel) sq480_49
theorem sq480_33 : sq 480 33 B480_33 := sq_take 9 (e := 47) (by decide +kernel) True.intro
theorem sq480_32 : sq 480 32 B480_32 := sq_take 1 (e := 33) (by decide +kernel) sq480_33
theorem sq480_12 : sq 480 12 B480_12 := sq_take 11 (e := 32) (by decide +kernel) True.intro
theorem sq480_0 : sq 480 0 B480_0 := sq_take 9 (e := 12) (by decide +kernel) sq480_12
set_option maxRecDepth 100000 in
theorem sqM_480 : ∀ b, sq 480 b (tG 480 b) := show ∀ b, sq 480 b (lkB tb480 b) from lkB_sq (List.forall_mem_cons.mpr ⟨sq480_0, List.forall_mem_cons.mpr ⟨sq480_12, List.forall_mem_cons.mpr ⟨sq480_32, List.forall_mem_cons.mpr ⟨sq480_33, List.forall_mem_cons.mpr ⟨sq480_47, List.forall_mem_cons.mpr ⟨sq480_49, List.forall_mem_cons.mpr ⟨sq480_68, List.forall_mem_cons.mpr ⟨sq480_71, List.forall_mem_cons.mpr ⟨sq480_81, List.forall_mem_cons.mpr ⟨sq480_84, List.forall_mem_cons.mpr ⟨sq480_87, List.forall_mem_cons.mpr ⟨sq480_100, List.forall_mem_cons.mpr ⟨sq480_103, List.forall_mem_cons.mpr ⟨sq480_105, List.forall_mem_cons.mpr ⟨sq480_111, List.forall_mem_cons.mpr ⟨sq480_115, List.forall_mem_cons.mpr ⟨sq480_132, List.forall_mem_cons.mpr ⟨sq480_145, List.forall_mem_cons.mpr ⟨sq480_146, List.forall_mem_cons.mpr ⟨sq480_152, List.forall_mem_cons.mpr ⟨sq480_159, List.forall_mem_cons.mpr ⟨sq480_167, List.forall_mem_cons.mpr ⟨sq480_170, List.forall_mem_cons.mpr ⟨sq480_174, List.forall_mem_cons.mpr ⟨sq480_175, List.forall_mem_cons.mpr ⟨sq480_188, List.forall_mem_cons.mpr ⟨sq480_191, List.forall_mem_cons.mpr ⟨sq480_192, List.forall_mem_cons.mpr ⟨sq480_204, List.forall_mem_cons.mpr ⟨sq480_223, List.forall_mem_cons.mpr ⟨sq480_227, List.forall_mem_cons.mpr ⟨sq480_228, List.forall_mem_cons.mpr ⟨sq480_235, List.forall_mem_cons.mpr ⟨sq480_248, List.forall_mem_cons.mpr ⟨sq480_251, List.forall_mem_cons.mpr ⟨sq480_255, List.forall_mem_cons.mpr ⟨sq480_256, List.forall_mem_cons.mpr ⟨sq480_268, List.forall_mem_cons.mpr ⟨sq480_277, List.forall_mem_cons.mpr ⟨sq480_281, List.forall_mem_cons.mpr ⟨sq480_307, List.forall_mem_cons.mpr ⟨sq480_311, List.forall_mem_cons.mpr ⟨sq480_312, List.forall_mem_cons.mpr ⟨sq480_329, List.forall_mem_cons.mpr ⟨sq480_330, List.forall_mem_cons.mpr ⟨sq480_335, List.forall_mem_cons.mpr ⟨sq480_346, List.forall_mem_cons.mpr ⟨sq480_352, (fun _ h => absurd h List.not_mem_nil)⟩⟩⟩⟩⟩⟩⟩⟩⟩⟩⟩⟩⟩⟩⟩⟩⟩⟩⟩⟩⟩⟩⟩⟩⟩⟩⟩⟩⟩⟩⟩⟩⟩⟩⟩⟩⟩⟩⟩⟩⟩⟩⟩⟩⟩⟩⟩⟩)
