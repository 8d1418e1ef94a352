theorem sq517_86 : sq 517 86 B517_86 := sq_take 2 (e := 87) (by decide +kernel) True.intro
theorem sq517_79 : sq 517 79 B517_79 := sq_take 4 (e := 86) (by decide +kernel) sq517_86
theorem sq517_76 : sq 517 76 B517_76 := sq_take 2 (e := 79) (by decide +kernel) True.intro
theorem sq517_65 : sq 517 65 B517_65 := sq_take 7 (e := 76) (by decide +kernel) sq517_76
theorem sq517_57 : sq 517 57 B517_57 := sq_take 4 (e := 65) (by decide +kernel) sq517_65
theorem sq517_53 : sq 517 53 B517_53 := sq_take 3 (e := 57) (by decide +kernel) True.intro
theorem sq517_48 : sq 517 48 B517_48 := sq_take 4 (e := 53) (by decide +kernel) sq517_53
theorem sq517_43 : sq 517 43 B517_43 := sq_take 3 (e := 48) (by decide +kernel) sq517_48
theorem sq517_40 : sq 517 40 B517_40 := sq_take 2 (e := 43) (by decide +kernel) True.intro
theorem sq517_27 : sq 517 27 B517_27 := sq_take 8 (e := 40) (by decide +kernel) sq517_40
theorem sq517_0 : sq 517 0 B517_0 := sq_take 15 (e := 27) (by decide +kernel) sq517_27
set_option maxRecDepth 100000 in
theorem sqM_517 : ∀ b, sq 517 b (tG 517 b) := show ∀ b, sq 517 b (lkB tb517 b) from lkB_sq (List.forall_mem_cons.mpr ⟨sq517_0, List.forall_mem_cons.mpr ⟨sq517_27, List.forall_mem_cons.mpr ⟨sq517_40, List.forall_mem_cons.mpr ⟨sq517_43, List.forall_mem_cons.mpr ⟨sq517_48, List.forall_mem_cons.mpr ⟨sq517_53, List.forall_mem_cons.mpr ⟨sq517_57, List.forall_mem_cons.mpr ⟨sq517_65, List.forall_mem_cons.mpr ⟨sq517_76, List.forall_mem_cons.mpr ⟨sq517_79, List.forall_mem_cons.mpr ⟨sq517_86, (fun _ h => absurd h List.not_mem_nil)⟩⟩⟩⟩⟩⟩⟩⟩⟩⟩⟩)
theorem sq518_56 : sq 518 56 B518_56 := sq_take 2 (e := 57) (by decide +kernel) True.intro
theorem sq518_45 : sq 518 45 B518_45 := sq_take 6 (e := 56) (by decide +kernel) sq518_56
theorem sq518_39 : sq 518 39 B518_39 := sq_take 3 (e := 45) (by decide +kernel) True.intro
theorem sq518_20 : sq 518 20 B518_20 := sq_take 12 (e := 39) (by decide +kernel) sq518_39
theorem sq518_2 : sq 518 2 B518_2 := sq_take 12 (e := 20) (by decide +kernel) sq518_20
theorem sq518_0 : sq 518 0 B518_0 := sq_take 3 (e := 2) (by decide +kernel) sq518_2
set_option maxRecDepth 100000 in
theorem sqM_518 : ∀ b, sq 518 b (tG 518 b) := show ∀ b, sq 518 b (lkB tb518 b) from lkB_sq (List.forall_mem_cons.mpr ⟨sq518_0, List.forall_mem_cons.mpr ⟨sq518_2, List.forall_mem_cons.mpr ⟨sq518_20, List.forall_mem_cons.mpr ⟨sq518_39, List.forall_mem_cons.mpr ⟨sq518_45, List.forall_mem_cons.mpr ⟨sq518_56, (fun _ h => absurd h List.not_mem_nil)⟩⟩⟩⟩⟩⟩)
theorem sq519_86 : sq 519 86 B519_86 := sq_take 1 (e := 87) (by decide +kernel) True.intro
theorem sq519_80 : sq 519 80 B519_80 := sq_take 3 (e := 86) (by decide +kernel) True.intro
theorem sq519_77 : sq 519 77 B519_77 := sq_take 2 (e := 80) (by decide +kernel) sq519_80
theorem sq519_76 : sq 519 76 B519_76 := sq_take 1 (e := 77) (by decide +kernel) sq519_77
theorem sq519_62 : sq 519 62 B519_62 := sq_take 9 (e := 76) (by decide +kernel) True.intro
theorem sq519_60 : sq 519 60 B519_60 := sq_take 1 (e := 62) (by decide +kernel) sq519_62
theorem sq519_49 : sq 519 49 B519_49 := sq_take 8 (e := 60) (by decide +kernel) True.intro
theorem sq519_48 : sq 519 48 B519_48 := sq_take 1 (e := 49) (by decide +kernel) sq519_49
theorem sq519_20 : sq 519 20 B519_20 := sq_take 16 (e := 48) (by decide +kernel) True.intro
theorem sq519_2 : sq 519 2 B519_2 := sq_take 12 (e := 20) (by decide +kernel) sq519_20
theorem sq519_0 : sq 519 0 B519_0 := sq_take 3 (e := 2) (by decide +kernel) sq519_2
set_option maxRecDepth 100000 in
theorem sqM_519 : ∀ b, sq 519 b (tG 519 b) := show ∀ b, sq 519 b (lkB tb519 b) from lkB_sq (List.forall_mem_cons.mpr ⟨sq519_0, List.forall_mem_cons.mpr ⟨sq519_2, List.forall_mem_cons.mpr ⟨sq519_20, List.forall_mem_cons.mpr ⟨sq519_48, List.forall_mem_cons.mpr ⟨sq519_49, List.forall_mem_cons.mpr ⟨sq519_60, List.forall_mem_cons.mpr ⟨sq519_62, List.forall_mem_cons.mpr ⟨sq519_76, List.forall_mem_cons.mpr ⟨sq519_77, List.forall_mem_cons.mpr ⟨sq519_80, List.forall_mem_cons.mpr ⟨sq519_86, (fun _ h => absurd h List.not_mem_nil)⟩⟩⟩⟩⟩⟩⟩⟩⟩⟩⟩)
theorem sq520_45 : sq 520 45 B520_45 := sq_take 6 (e := 53) (by decide +kernel) True.intro
theorem sq520_39 : sq 520 39 B520_39 := sq_take 3 (e := 45) (by decide +kernel) True.intro
theorem sq520_4 : sq 520 4 B520_4 := sq_take 22 (e := 39) (by decide +kernel) sq520_39
theorem sq520_0 : sq 520 0 B520_0 := sq_take 5 (e := 4) (by decide +kernel) sq520_4
set_option maxRecDepth 100000 in
theorem sqM_520 : ∀ b, sq 520 b (tG 520 b) := show ∀ b, sq 520 b (lkB tb520 b) from lkB_sq (List.forall_mem_cons.mpr ⟨sq520_0, List.forall_mem_cons.mpr ⟨sq520_4, List.forall_mem_cons.mpr ⟨sq520_39, List.forall_mem_cons.mpr ⟨sq520_45, (fun _ h => absurd h List.not_mem_nil)⟩⟩⟩⟩)
theorem sq521_111 : sq 521 111 B521_111 := sq_take 2 (e := 112) (by decide +kernel) True.intro
theorem sq521_108 : sq 521 108 B521_108 := sq_take 2 (e := 111) (by decide +kernel) sq521_111
theorem sq521_104 : sq 521 104 B521_104 := sq_take 3 (e := 108) (by decide +kernel) sq521_108
theorem sq521_91 : sq 521 91 B521_91 := sq_take 8 (e := 104) (by decide +kernel) True.intro
theorem sq521_79 : sq 521 79 B521_79 := sq_take 7 (e := 91) (by decide +kernel) sq521_91
theorem sq521_71 : sq 521 71 B521_71 := sq_take 4 (e := 79) (by decide +kernel) sq521_79
theorem sq521_67 : sq 521 67 B521_67 := sq_take 3 (e := 71) (by decide +kernel) True.intro
theorem sq521_62 : sq 521 62 B521_62 := sq_take 4 (e := 67) (by decide +kernel) sq521_67
theorem sq521_59 : sq 521 59 B521_59 := sq_take 2 (e := 62) (by decide +kernel) sq521_62
theorem sq521_57 : sq 521 57 B521_57 := sq_take 1 (e := 59) (by decide +kernel) sq521_59
theorem sq521_41 : sq 521 41 B521_41 := sq_take 10 (e := 57) (by decide +kernel) True.intro
theorem sq521_27 : sq 521 27 B521_27 := sq_take 7 (e := 41) (by decide +kernel) sq521_41
theorem sq521_0 : sq 521 0 B521_0 := sq_take 15 (e := 27) (by decide +kernel) sq521_27
set_option maxRecDepth 100000 in
theorem sqM_521 : ∀ b, sq 521 b (tG 521 b) := show ∀ b, sq 521 b (lkB tb521 b) from lkB_sq (List.forall_mem_cons.mpr ⟨sq521_0, List.forall_mem_cons.mpr ⟨sq521_27, List.forall_mem_cons.mpr ⟨sq521_41, List.forall_mem_cons.mpr ⟨sq521_57, List.forall_mem_cons.mpr ⟨sq521_59, List.forall_mem_cons.mpr ⟨sq521_62, List.forall_mem_cons.mpr ⟨sq521_67, List.forall_mem_cons.mpr ⟨sq521_71, List.forall_mem_cons.mpr ⟨sq521_79, List.forall_mem_cons.mpr ⟨sq521_91, List.forall_mem_cons.mpr ⟨sq521_104, List.forall_mem_cons.mpr ⟨sq521_108, List.forall_mem_cons.mpr ⟨sq521_111, (fun _ h => absurd h List.not_mem_nil)⟩⟩⟩⟩⟩⟩⟩⟩⟩⟩⟩⟩⟩)
theorem sq522_59 : sq 522 59 B522_59 := sq_take 1 (e := 60) (by decide +kernel) True.intro
theorem sq522_53 : sq 522 53 B522_53 := sq_take 3 (e := 59) (by decide +kernel) True.intro
theorem sq522_2 : sq 522 2 B522_2 := sq_take 32 (e := 53) (by decide +kernel) sq522_53
theorem sq522_0 : sq 522 0 B522_0 := sq_take 3 (e := 2) (by decide +kernel) sq522_2
set_option maxRecDepth 100000 in
theorem sqM_522 : ∀ b, sq 522 b (tG 522 b) := show ∀ b, sq 522 b (lkB tb522 b) from lkB_sq (List.forall_mem_cons.mpr ⟨sq522_0, List.forall_mem_cons.mpr ⟨sq522_2, List.forall_mem_cons.mpr ⟨sq522_53, List.forall_mem_cons.mpr ⟨sq522_59, (fun _ h => absurd h List.not_mem_nil)⟩⟩⟩⟩)
theorem sq523_111 : sq 523 111 B523_111 := sq_take 6 (e := 118) (by decide +kernel) True.intro
theorem sq523_105 : sq 523 105 B523_105 := sq_take 4 (e := 111) (by decide +kernel) sq523_111
theorem sq523_56 : sq 523 56 B523_56 := sq_take 31 (e := 105) (by decide +kernel) True.intro
theorem sq523_50 : sq 523 50 B523_50 := sq_take 3 (e := 56) (by decide +kernel) True.intro
theorem sq523_26 : sq 523 26 B523_26 := sq_take 18 (e := 50) (by decide +kernel) sq523_50
theorem sq523_24 : sq 523 24 B523_24 := sq_take 3 (e := 26) (by decide +kernel) sq523_26
theorem sq523_19 : sq 523 19 B523_19 := sq_take 3 (e := 24) (by decide +kernel) sq523_24
theorem sq523_18 : sq 523 18 B523_18 := sq_take 2 (e := 19) (by decide +kernel) True.intro
theorem sq523_0 : sq 523 0 B523_0 := sq_take 12 (e := 18) (by decide +kernel) sq523_18
set_option maxRecDepth 100000 in
theorem sqM_523 : ∀ b, sq 523 b (tG 523 b) := show ∀ b, sq 523 b (lkB tb523 b) from lkB_sq (List.forall_mem_cons.mpr ⟨sq523_0, List.forall_mem_cons.mpr ⟨sq523_18, List.forall_mem_cons.mpr ⟨sq523_19, List.forall_mem_cons.mpr ⟨sq523_24, List.forall_mem_cons.mpr ⟨sq523_26, List.forall_mem_cons.mpr ⟨sq523_50, List.forall_mem_cons.mpr ⟨sq523_56, List.forall_mem_cons.mpr ⟨sq523_105, List.forall_mem_cons.mpr ⟨sq523_111, (fun _ h => absurd h List.not_mem_nil)⟩⟩⟩⟩⟩⟩⟩⟩⟩)
theorem sq524_121 : sq 524 121 B524_121 := sq_take 2 (e := 122) (by decide +kernel) True.intro
theorem sq524_117 : sq 524 117 B524_117 := sq_take 3 (e := 121) (by decide +kernel) sq524_121
theorem sq524_114 : sq 524 114 B524_114 := sq_take 2 (e := 117) (by decide +kernel) sq524_117
theorem sq524_82 : sq 524 82 B524_82 := sq_take 22 (e := 114) (by decide +kernel) sq524_114
theorem sq524_76 : sq 524 76 B524_76 := sq_take 5 (e := 82) (by decide +kernel) True.intro
theorem sq524_68 : sq 524 68 B524_68 := sq_take 4 (e := 76) (by decide +kernel) sq524_76
theorem sq524_67 : sq 524 67 B524_67 := sq_take 2 (e := 68) (by decide +kernel) True.intro
theorem sq524_42 : sq 524 42 B524_42 := sq_take 14 (e := 67) (by decide +kernel) sq524_67
theorem sq524_34 : sq 524 34 B524_34 := sq_take 5 (e := 42) (by decide +kernel) True.intro
theorem sq524_11 : sq 524 11 B524_11 := sq_take 13 (e := 34) (by decide +kernel) sq524_34
theorem sq524_5 : sq 524 5 B524_5 := sq_take 5 (e := 11) (by decide +kernel) sq524_11
theorem sq524_0 : sq 524 0 B524_0 := sq_take 4 (e := 5) (by decide +kernel) sq524_5
set_option maxRecDepth 100000 in
theorem sqM_524 : ∀ b, sq 524 b (tG 524 b) := show ∀ b, sq 524 b (lkB tb524 b) from lkB_sq (List.forall_mem_cons.mpr ⟨sq524_0, List.forall_mem_cons.mpr ⟨sq524_5, List.forall_mem_cons.mpr ⟨sq524_11, List.forall_mem_cons.mpr ⟨sq524_34, List.forall_mem_cons.mpr ⟨sq524_42, List.forall_mem_cons.mpr ⟨sq524_67, List.forall_mem_cons.mpr ⟨sq524_68, List.forall_mem_cons.mpr ⟨sq524_76, List.forall_mem_cons.mpr ⟨sq524_82, List.forall_mem_cons.mpr ⟨sq524_114, List.forall_mem_cons.mpr ⟨sq524_117, List.forall_mem_cons.mpr ⟨sq524_121, (fun _ h => absurd h List.not_mem_nil)⟩⟩⟩⟩⟩⟩⟩⟩⟩⟩⟩⟩)
theorem sq525_36 : sq 525 36 B525_36 := sq_take 1 (e := 37) (by decide +kernel) True.intro
theorem sq525_28 : sq 525 28 B525_28 := sq_take 5 (e := 36) (by decide +kernel) True.intro
theorem sq525_19 : sq 525 19 B525_19 := sq_take 6 (e := 28) (by decide +kernel) sq525_28
theorem sq525_13 : sq 525 13 B525_13 := sq_take 5 (e := 19) (by decide +kernel) sq525_19
theorem sq525_2 : sq 525 2 B525_2 := sq_take 8 (e := 13) (by decide +kernel) sq525_13
theorem sq525_0 : sq 525 0 B525_0 := sq_take 3 (e := 2) (by decide +kernel) sq525_2
set_option maxRecDepth 100000 in
theorem sqM_525 : ∀ b, sq 525 b (tG 525 b) := show ∀ b, sq 525 b (lkB tb525 b) from lkB_sq (List.forall_mem_cons.mpr ⟨sq525_0, List.forall_mem_cons.mpr ⟨sq525_2, List.forall_mem_cons.mpr ⟨sq525_13, List.forall_mem_cons.mpr ⟨sq525_19, List.forall_mem_cons.mpr ⟨sq525_28, List.forall_mem_cons.mpr ⟨sq525_36, (fun _ h => absurd h List.not_mem_nil)⟩⟩⟩⟩⟩⟩)
theorem sq526_32 : sq 526 32 B526_32 := sq_take 2 (e := 33) (by decide +kernel) True.intro
theorem sq526_22 : sq 526 22 B526_22 := sq_take 5 (e := 32) (by decide +kernel) sq526_32
theorem sq526_19 : sq 526 19 B526_19 := sq_take 2 (e := 22) (by decide +kernel) True.intro
theorem sq526_10 : sq 526 10 B526_10 := sq_take 5 (e := 19) (by decide +kernel) sq526_19
theorem sq526_5 : sq 526 5 B526_5 := sq_take 4 (e := 10) (by decide +kernel) sq526_10
theorem sq526_0 : sq 526 0 B526_0 := sq_take 4 (e := 5) (by decide +kernel) sq526_5
set_option maxRecDepth 100000 in
theorem sqM_526 : ∀ b, sq 526 b (tG 526 b) := show ∀ b, sq 526 b (lkB tb526 b) from lkB_sq (List.forall_mem_cons.mpr ⟨sq526_0, List.forall_mem_cons.mpr ⟨sq526_5, List.forall_mem_cons.mpr ⟨sq526_10, List.forall_mem_cons.mpr ⟨sq526_19, List.forall_mem_cons.mpr ⟨sq526_22, List.forall_mem_cons.mpr ⟨sq526_32, (fun _ h => absurd h List.not_mem_nil)⟩⟩⟩⟩⟩⟩)
theorem sq527_26 : sq 527 26 B527_26 := sq_take 2 (e := 27) (by decide +kernel) True.intro
theorem sq527_23 : sq 527 23 B527_23 := sq_take 2 (e := 26) (by decide +kernel) sq527_26
theorem sq527_22 : sq 527 22 B527_22 := sq_take 1 (e := 23) (by decide +kernel) sq527_23
theorem sq527_5 : sq 527 5 B527_5 := sq_take 12 (e := 22) (by decide +kernel) True.intro
theorem sq527_0 : sq 527 0 B527_0 := sq_take 4 (e := 5) (by decide +kernel) sq527_5
set_option maxRecDepth 100000 in
theorem sqM_527 : ∀ b, sq 527 b (tG 527 b) := show ∀ b, sq 527 b (lkB tb527 b) from lkB_sq (List.forall_mem_cons.mpr ⟨sq527_0, List.forall_mem_cons.mpr ⟨sq527_5, List.forall_mem_cons.mpr ⟨sq527_22, List.forall_mem_cons.mpr ⟨sq527_23, List.forall_mem_cons.mpr ⟨sq527_26, (fun _ h => absurd h List.not_mem_nil)⟩⟩⟩⟩⟩)
theorem sq528_26 : sq 528 26 B528_26 := sq_take 2 (e := 27) (by decide +kernel) True.intro
theorem sq528_23 : sq 528 23 B528_23 := sq_take 2 (e := 26) (by decide +kernel) sq528_26
theorem sq528_22 : sq 528 22 B528_22 := sq_take 1 (e := 23) (by decide +kernel) sq528_23
theorem sq528_5 : sq 528 5 B528_5 := sq_take 12 (e := 22) (by decide +kernel) True.intro
theorem sq528_0 : sq 528 0 B528_0 := sq_take 4 (e := 5) (by decide +kernel) sq528_5
set_option maxRecDepth 100000 in
theorem sqM_528 : ∀ b, sq 528 b (tG 528 b) := show ∀ b, sq 528 b (lkB tb528 b) from lkB_sq (List.forall_mem_cons.mpr ⟨sq528_0, List.forall_mem_cons.mpr ⟨sq528_5, List.forall_mem_cons.mpr ⟨sq528_22, List.forall_mem_cons.mpr ⟨sq528_23, List.forall_mem_cons.mpr ⟨sq528_26, (fun _ h => absurd h List.not_mem_nil)⟩⟩⟩⟩⟩)
theorem sq529_61 : sq 529 61 B529_61 := sq_take 2 (e := 62) (by decide +kernel) True.intro
theorem sq529_58 : sq 529 58 B529_58 := sq_take 2 (e := 61) (by decide +kernel) sq529_61
theorem sq529_57 : sq 529 57 B529_57 := sq_take 2 (e := 58) (by decide +kernel) sq529_58
theorem sq529_5 : sq 529 5 B529_5 := sq_take 30 (e := 57) (by decide +kernel) True.intro
theorem sq529_0 : sq 529 0 B529_0 := sq_take 4 (e := 5) (by decide +kernel) sq529_5
set_option maxRecDepth 100000 in
theorem sqM_529 : ∀ b, sq 529 b (tG 529 b) := show ∀ b, sq 529 b (lkB tb529 b) from lkB_sq (List.forall_mem_cons.mpr ⟨sq529_0, List.forall_mem_cons.mpr ⟨sq529_5, List.forall_mem_cons.mpr ⟨sq529_57, List.forall_mem_cons.mpr ⟨sq529_58, List.forall_mem_cons.mpr ⟨sq529_61, (fun _ h => absurd h List.not_mem_nil)⟩⟩⟩⟩⟩)
theorem sq530_66 : sq 530 66 B530_66 := sq_take 2 (e := 67) (by decide +kernel) True.intro
theorem sq530_57 : sq 530 57 B530_57 := sq_take 5 (e := 66) (by decide +kernel) sq530_66
theorem sq530_42 : sq 530 42 B530_42 := sq_take 9 (e := 57) (by decide +kernel) sq530_57
theorem sq530_39 : sq 530 39 B530_39 := sq_take 2 (e := 42) (by decide +kernel) True.intro
theorem sq530_31 : sq 530 31 B530_31 := sq_take 5 (e := 39) (by decide +kernel) sq530_39
theorem sq530_24 : sq 530 24 B530_24 := sq_take 5 (e := 31) (by decide +kernel) sq530_31
theorem sq530_16 : sq 530 16 B530_16 := sq_take 5 (e := 24) (by decide +kernel) True.intro
theorem sq530_13 : sq 530 13 B530_13 := sq_take 2 (e := 16) (by decide +kernel) sq530_16
theorem sq530_5 : sq 530 5 B530_5 := sq_take 7 (e := 13) (by decide +kernel) sq530_13
theorem sq530_0 : sq 530 0 B530_0 := sq_take 4 (e := 5) (by decide +kernel) sq530_5
set_option maxRecDepth 100000 in
theorem sqM_530 : ∀ b, sq 530 b (tG 530 b) := show ∀ b, sq 530 b (lkB tb530 b) from lkB_sq (List.forall_mem_cons.mpr ⟨sq530_0, List.forall_mem_cons.mpr ⟨sq530_5, List.forall_mem_cons.mpr ⟨sq530_13, List.forall_mem_cons.mpr ⟨sq530_16, List.forall_mem_cons.mpr ⟨sq530_24, List.forall_mem_cons.mpr ⟨sq530_31, List.forall_mem_cons.mpr ⟨sq530_39, List.forall_mem_cons.mpr ⟨sq530_42, List.forall_mem_cons.mpr ⟨sq530_57, List.forall_mem_cons.mpr ⟨sq530_66, (fun _ h => absurd h List.not_mem_nil)⟩⟩⟩⟩⟩⟩⟩⟩⟩⟩)
theorem sq531_406 : sq 531 406 B531_406 := sq_take 1 (e := 407) (by decide +kernel) True.intro
theorem sq531_374 : sq 531 374 B531_374 := sq_take 21 (e := 406) (by decide +kernel) sq531_406
theorem sq531_364 : sq 531 364 B531_364 := sq_take 7 (e := 374) (by decide +kernel) sq531_374
theorem sq531_362 : sq 531 362 B531_362 := sq_take 1 (e := 364) (by decide +kernel) sq531_364
theorem sq531_340 : sq 531 340 B531_340 := sq_take 13 (e := 362) (by decide +kernel) True.intro
theorem sq531_337 : sq 531 337 B531_337 := sq_take 2 (e := 340) (by decide +kernel) True.intro
theorem sq531_325 : sq 531 325 B531_325 := sq_take 8 (e := 337) (by decide +kernel) sq531_337
theorem sq531_315 : sq 531 315 B531_315 := sq_take 7 (e := 325) (by decide +kernel) sq531_325
theorem sq531_310 : sq 531 310 B531_310 := sq_take 4 (e := 315) (by decide +kernel) sq531_315
theorem sq531_306 : sq 531 306 B531_306 := sq_take 2 (e := 310) (by decide +kernel) sq531_310
theorem sq531_298 : sq 531 298 B531_298 := sq_take 5 (e := 306) (by decide +kernel) True.intro
theorem sq531_292 : sq 531 292 B531_292 := sq_take 3 (e := 298) (by decide +kernel) sq531_298
theorem sq531_289 : sq 531 289 B531_289 := sq_take 2 (e := 292) (by decide +kernel) True.intro
theorem sq531_285 : sq 531 285 B531_285 := sq_take 2 (e := 289) (by decide +kernel) sq531_289
theorem sq531_281 : sq 531 281 B531_281 := sq_take 3 (e := 285) (by decide +kernel) True.intro
theorem sq531_277 : sq 531 277 B531_277 := sq_take 2 (e := 281) (by decide +kernel) sq531_281
theorem sq531_274 : sq 531 274 B531_274 := sq_take 2 (e := 277) (by decide +kernel) True.intro
theorem sq531_263 : sq 531 263 B531_263 := sq_take 6 (e := 274) (by decide +kernel) sq531_274
theorem sq531_258 : sq 531 258 B531_258 := sq_take 4 (e := 263) (by decide +kernel) sq531_263
theorem sq531_254 : sq 531 254 B531_254 := sq_take 2 (e := 258) (by decide +kernel) sq531_258
theorem sq531_251 : sq 531 251 B531_251 := sq_take 2 (e := 254) (by decide +kernel) True.intro
theorem sq531_247 : sq 531 247 B531_247 := sq_take 2 (e := 251) (by decide +kernel) sq531_251
theorem sq531_244 : sq 531 244 B531_244 := sq_take 2 (e := 247) (by decide +kernel) True.intro
theorem sq531_229 : sq 531 229 B531_229 := sq_take 8 (e := 244) (by decide +kernel) sq531_244
theorem sq531_226 : sq 531 226 B531_226 := sq_take 2 (e := 229) (by decide +kernel) True.intro
theorem sq531_210 : sq 531 210 B531_210 := sq_take 10 (e := 226) (by decide +kernel) sq531_226
theorem sq531_205 : sq 531 205 B531_205 := sq_take 4 (e := 210) (by decide +kernel) sq531_210
theorem sq531_198 : sq 531 198 B531_198 := sq_take 6 (e := 205) (by decide +kernel) sq531_205
theorem sq531_194 : sq 531 194 B531_194 := sq_take 2 (e := 198) (by decide +kernel) sq531_198
theorem sq531_191 : sq 531 191 B531_191 := sq_take 2 (e := 194) (by decide +kernel) True.intro
theorem sq531_172 : sq 531 172 B531_172 := sq_take 12 (e := 191) (by decide +kernel) sq531_191
theorem sq531_169 : sq 531 169 B531_169 := sq_take 2 (e := 172) (by decide +kernel) sq531_172
theorem sq531_168 : sq 531 168 B531_168 := sq_take 2 (e := 169) (by decide +kernel) sq531_169
theorem sq531_161 : sq 531 161 B531_161 := sq_take 4 (e := 168) (by decide +kernel) True.intro
theorem sq531_125 : sq 531 125 B531_125 := sq_take 23 (e := 161) (by decide +kernel) sq531_161
theorem sq531_120 : sq 531 120 B531_120 := sq_take 3 (e := 125) (by decide +kernel) sq531_125
theorem sq531_117 : sq 531 117 B531_117 := sq_take 1 (e := 120) (by decide +kernel) True.intro
theorem sq531_113 : sq 531 113 B531_113 := sq_take 3 (e := 117) (by decide +kernel) True.intro
theorem sq531_108 : sq 531 108 B531_108 := sq_take 3 (e := 113) (by decide +kernel) sq531_113
theorem sq531_0 : sq 531 0 B531_0 := sq_take 5 (e := 108) (by decide +kernel) True.intro
set_option maxRecDepth 100000 in
theorem sqM_531 : ∀ b, sq 531 b (tG 531 b) := show ∀ b, sq 531 b (lkB tb531 b) from lkB_sq (List.forall_mem_cons.mpr ⟨sq531_0, List.forall_mem_cons.mpr ⟨sq531_108, List.forall_mem_cons.mpr ⟨sq531_113, List.forall_mem_cons.mpr ⟨sq531_117, List.forall_mem_cons.mpr ⟨sq531_120, List.forall_mem_cons.mpr ⟨sq531_125, List.forall_mem_cons.mpr ⟨sq531_161, List.forall_mem_cons.mpr ⟨sq531_168, List.forall_mem_cons.mpr ⟨sq531_169, List.forall_mem_cons.mpr ⟨sq531_172, List.forall_mem_cons.mpr ⟨sq531_191, List.forall_mem_cons.mpr ⟨sq531_194, List.forall_mem_cons.mpr ⟨sq531_198, List.forall_mem_cons.mpr ⟨sq531_205, List.forall_mem_cons.mpr ⟨sq531_210, List.forall_mem_cons.mpr ⟨sq531_226, List.forall_mem_cons.mpr ⟨sq531_229, List.forall_mem_cons.mpr ⟨sq531_244, List.forall_mem_cons.mpr ⟨sq531_247, List.forall_mem_cons.mpr ⟨sq531_251, List.forall_mem_cons.mpr ⟨sq531_254, List.forall_mem_cons.mpr ⟨sq531_258, List.forall_mem_cons.mpr ⟨sq531_263, List.forall_mem_cons.mpr ⟨sq531_274, List.forall_mem_cons.mpr ⟨sq531_277, List.forall_mem_cons.mpr ⟨sq531_281, List.forall_mem_cons.mpr ⟨sq531_285, List.forall_mem_cons.mpr ⟨sq531_289, List.forall_mem_cons.mpr ⟨sq531_292, List.forall_mem_cons.mpr ⟨sq531_298, List.forall_mem_cons.mpr ⟨sq531_306, List.forall_mem_cons.mpr ⟨sq531_310, List.forall_mem_cons.mpr ⟨sq531_315, List.forall_mem_cons.mpr ⟨sq531_325, List.forall_mem_cons.mpr ⟨sq531_337, List.forall_mem_cons.mpr ⟨sq531_340, List.forall_mem_cons.mpr ⟨sq531_362, List.forall_mem_cons.mpr ⟨sq531_364, List.forall_mem_cons.mpr ⟨sq531_374, List.forall_mem_cons.mpr ⟨sq531_406, (fun _ h => absurd h List.not_mem_nil)⟩⟩⟩⟩⟩⟩⟩⟩⟩⟩⟩⟩⟩⟩⟩⟩⟩⟩⟩⟩⟩⟩⟩⟩⟩⟩⟩⟩⟩⟩⟩⟩⟩⟩⟩⟩⟩⟩⟩⟩)
theorem sq532_85 : sq 532 85 B532_85 := sq_take 1 (e := 86) (by decide +kernel) True.intro
theorem sq532_84 : sq 532 84 B532_84 := sq_take 1 (e := 85) (by decide +kernel) sq532_85
theorem sq532_73 : sq 532 73 B532_73 := sq_take 8 (e := 84) (by decide +kernel) True.intro
theorem sq532_61 : sq 532 61 B532_61 := sq_take 7 (e := 73) (by decide +kernel) sq532_73
theorem sq532_38 : sq 532 38 B532_38 := sq_take 14 (e := 61) (by decide +kernel) sq532_61
theorem sq532_25 : sq 532 25 B532_25 := sq_take 10 (e := 38) (by decide +kernel) sq532_38
theorem sq532_16 : sq 532 16 B532_16 := sq_take 5 (e := 25) (by decide +kernel) sq532_25
theorem sq532_7 : sq 532 7 B532_7 := sq_take 6 (e := 16) (by decide +kernel) True.intro
theorem sq532_0 : sq 532 0 B532_0 := sq_take 6 (e := 7) (by decide +kernel) sq532_7
set_option maxRecDepth 100000 in
theorem sqM_532 : ∀ b, sq 532 b (tG 532 b) := show ∀ b, sq 532 b (lkB tb532 b) from lkB_sq (List.forall_mem_cons.mpr ⟨sq532_0, List.forall_mem_cons.mpr ⟨sq532_7, List.forall_mem_cons.mpr ⟨sq532_16, List.forall_mem_cons.mpr ⟨sq532_25, List.forall_mem_cons.mpr ⟨sq532_38, List.forall_mem_cons.mpr ⟨sq532_61, List.forall_mem_cons.mpr ⟨sq532_73, List.forall_mem_cons.mpr ⟨sq532_84, List.forall_mem_cons.mpr ⟨sq532_85, (fun _ h => absurd h List.not_mem_nil)⟩⟩⟩⟩⟩⟩⟩⟩⟩)
theorem sq533_189 : sq 533 189 B533_189 := sq_take 2 (e := 190) (by decide +kernel) True.intro
theorem sq533_183 : sq 533 183 B533_183 := sq_take 3 (e := 189) (by decide +kernel) sq533_189
theorem sq533_177 : sq 533 177 B533_177 := sq_take 3 (e := 183) (by decide +kernel) True.intro
theorem sq533_174 : sq 533 174 B533_174 := sq_take 2 (e := 177) (by decide +kernel) sq533_177
theorem sq533_156 : sq 533 156 B533_156 := sq_take 11 (e := 174) (by decide +kernel) sq533_174
theorem sq533_150 : sq 533 150 B533_150 := sq_take 3 (e := 156) (by decide +kernel) sq533_156
theorem sq533_149 : sq 533 149 B533_149 := sq_take 2 (e := 150) (by decide +kernel) True.intro
theorem sq533_141 : sq 533 141 B533_141 := sq_take 5 (e := 149) (by decide +kernel) sq533_149
theorem sq533_132 : sq 533 132 B533_132 := sq_take 7 (e := 141) (by decide +kernel) sq533_141
theorem sq533_125 : sq 533 125 B533_125 := sq_take 5 (e := 132) (by decide +kernel) sq533_132
theorem sq533_118 : sq 533 118 B533_118 := sq_take 4 (e := 125) (by decide +kernel) True.intro
theorem sq533_95 : sq 533 95 B533_95 := sq_take 15 (e := 118) (by decide +kernel) sq533_118
theorem sq533_87 : sq 533 87 B533_87 := sq_take 5 (e := 95) (by decide +kernel) True.intro
theorem sq533_84 : sq 533 84 B533_84 := sq_take 2 (e := 87) (by decide +kernel) sq533_87
theorem sq533_83 : sq 533 83 B533_83 := sq_take 1 (e := 84) (by decide +kernel) sq533_84
theorem sq533_66 : sq 533 66 B533_66 := sq_take 12 (e := 83) (by decide +kernel) True.intro
theorem sq533_61 : sq 533 61 B533_61 := sq_take 4 (e := 66) (by decide +kernel) sq533_66
theorem sq533_58 : sq 533 58 B533_58 := sq_take 2 (e := 61) (by decide +kernel) sq533_61
theorem sq533_57 : sq 533 57 B533_57 := sq_take 2 (e := 58) (by decide +kernel) sq533_58
theorem sq533_50 : sq 533 50 B533_50 := sq_take 4 (e := 57) (by decide +kernel) True.intro
theorem sq533_14 : sq 533 14 B533_14 := sq_take 23 (e := 50) (by decide +kernel) sq533_50
theorem sq533_9 : sq 533 9 B533_9 := sq_take 4 (e := 14) (by decide +kernel) sq533_14
theorem sq533_4 : sq 533 4 B533_4 := sq_take 4 (e := 9) (by decide +kernel) sq533_9
theorem sq533_0 : sq 533 0 B533_0 := sq_take 3 (e := 4) (by decide +kernel) sq533_4
set_option maxRecDepth 100000 in
theorem sqM_533 : ∀ b, sq 533 b (tG 533 b) := show ∀ b, sq 533 b (lkB tb533 b) from lkB_sq (List.forall_mem_cons.mpr ⟨sq533_0, List.forall_mem_cons.mpr ⟨sq533_4, List.forall_mem_cons.mpr ⟨sq533_9, List.forall_mem_cons.mpr ⟨sq533_14, List.forall_mem_cons.mpr ⟨sq533_50, List.forall_mem_cons.mpr ⟨sq533_57, List.forall_mem_cons.mpr ⟨sq533_58, List.forall_mem_cons.mpr ⟨sq533_61, List.forall_mem_cons.mpr ⟨sq533_66, List.forall_mem_cons.mpr ⟨sq533_83, List.forall_mem_cons.mpr ⟨sq533_84, List.forall_mem_cons.mpr ⟨sq533_87, List.forall_mem_cons.mpr ⟨sq533_95, List.forall_mem_cons.mpr ⟨sq533_118, List.forall_mem_cons.mpr ⟨sq533_125, List.forall_mem_cons.mpr ⟨sq533_132, List.forall_mem_cons.mpr ⟨sq533_141, List.forall_mem_cons.mpr ⟨sq533_149, List.forall_mem_cons.mpr ⟨sq533_150, List.forall_mem_cons.mpr ⟨sq533_156, List.forall_mem_cons.mpr ⟨sq533_174, List.forall_mem_cons.mpr ⟨sq533_177, List.forall_mem_cons.mpr ⟨sq533_183, List.forall_mem_cons.mpr ⟨sq533_189, (fun _ h => absurd h List.not_mem_nil)⟩⟩⟩⟩⟩⟩⟩⟩⟩⟩⟩⟩⟩⟩⟩⟩⟩⟩⟩⟩⟩⟩⟩⟩)
theorem sq534_58 : sq 534 58 B534_58 := sq_take 1 (e := 59) (by decide +kernel) True.intro
theorem sq534_52 : sq 534 52 B534_52 := sq_take 3 (e := 58) (by decide +kernel) True.intro
theorem sq534_45 : sq 534 45 B534_45 := sq_take 6 (e := 52) (by decide +kernel) sq534_52
theorem sq534_37 : sq 534 37 B534_37 := sq_take 7 (e := 45) (by decide +kernel) sq534_45
theorem sq534_2 : sq 534 2 B534_2 := sq_take 21 (e := 37) (by decide +kernel) sq534_37
theorem sq534_0 : sq 534 0 B534_0 := sq_take 3 (e := 2) (by decide +kernel) sq534_2
set_option maxRecDepth 100000 in
theorem sqM_534 : ∀ b, sq 534 b (tG 534 b) := show ∀ b, sq 534 b (lkB tb534 b) from lkB_sq (List.forall_mem_cons.mpr ⟨sq534_0, List.forall_mem_cons.mpr ⟨sq534_2, List.forall_mem_cons.mpr ⟨sq534_37, List.forall_mem_cons.mpr ⟨sq534_45, List.forall_mem_cons.mpr ⟨sq534_52, List.forall_mem_cons.mpr ⟨sq534_58, (fun _ h => absurd h List.not_mem_nil)⟩⟩⟩⟩⟩⟩)
theorem sq535_114 : sq 535 114 B535_114 := sq_take 1 (e := 115) (by decide +kernel) True.intro
theorem sq535_113 : sq 535 113 B535_113 := sq_take 1 (e := 114) (by decide +kernel) sq535_114
theorem sq535_94 : sq 535 94 B535_94 := sq_take 12 (e := 113) (by decide +kernel) True.intro
theorem sq535_70 : sq 535 70 B535_70 := sq_take 13 (e := 94) (by decide +kernel) sq535_94
theorem sq535_65 : sq 535 65 B535_65 := sq_take 4 (e := 70) (by decide +kernel) sq535_70
theorem sq535_62 : sq 535 62 B535_62 := sq_take 2 (e := 65) (by decide +kernel) sq535_65
theorem sq535_61 : sq 535 61 B535_61 := sq_take 2 (e := 62) (by decide +kernel) sq535_62
theorem sq535_30 : sq 535 30 B535_30 := sq_take 18 (e := 61) (by decide +kernel) True.intro
theorem sq535_12 : sq 535 12 B535_12 := sq_take 13 (e := 30) (by decide +kernel) sq535_30
theorem sq535_7 : sq 535 7 B535_7 := sq_take 4 (e := 12) (by decide +kernel) sq535_12
theorem sq535_0 : sq 535 0 B535_0 := sq_take 6 (e := 7) (by decide +kernel) sq535_7
set_option maxRecDepth 100000 in
theorem sqM_535 : ∀ b, sq 535 b (tG 535 b) := show ∀ b, sq 535 b (lkB tb535 b) from lkB_sq (List.forall_mem_cons.mpr ⟨sq535_0, List.forall_mem_cons.mpr ⟨sq535_7, List.forall_mem_cons.mpr ⟨sq535_12, List.forall_mem_cons.mpr ⟨sq535_30, List.forall_mem_cons.mpr ⟨sq535_61, List.forall_mem_cons.mpr ⟨sq535_62, List.forall_mem_cons.mpr ⟨sq535_65, List.forall_mem_cons.mpr ⟨sq535_70, List.forall_mem_cons.mpr ⟨sq535_94, List.forall_mem_cons.mpr ⟨sq535_113, List.forall_mem_cons.mpr ⟨sq535_114, (fun _ h => absurd h List.not_mem_nil)⟩⟩⟩⟩⟩⟩⟩⟩⟩⟩⟩)
theorem sq536_137 : sq 536 137 B536_137 := sq_take 1 (e := 138) (by decide +kernel) True.intro
theorem sq536_131 : sq 536 131 B536_131 := sq_take 3 (e := 137) (by decide +kernel) True.intro
theorem sq536_124 : sq 536 124 B536_124 := sq_take 6 (e := 131) (by decide +kernel) sq536_131
theorem sq536_82 : sq 536 82 B536_82 := sq_take 27 (e := 124) (by decide +kernel) sq536_124
theorem sq536_80 : sq 536 80 B536_80 := sq_take 3 (e := 82) (by decide +kernel) sq536_82
theorem sq536_68 : sq 536 68 B536_68 := sq_take 8 (e := 80) (by decide +kernel) sq536_80
theorem sq536_60 : sq 536 60 B536_60 := sq_take 5 (e := 68) (by decide +kernel) True.intro
theorem sq536_55 : sq 536 55 B536_55 := sq_take 4 (e := 60) (by decide +kernel) sq536_60
theorem sq536_52 : sq 536 52 B536_52 := sq_take 2 (e := 55) (by decide +kernel) sq536_55
theorem sq536_51 : sq 536 51 B536_51 := sq_take 2 (e := 52) (by decide +kernel) sq536_52
theorem sq536_33 : sq 536 33 B536_33 := sq_take 11 (e := 51) (by decide +kernel) True.intro
theorem sq536_5 : sq 536 5 B536_5 := sq_take 18 (e := 33) (by decide +kernel) sq536_33
theorem sq536_0 : sq 536 0 B536_0 := sq_take 4 (e := 5) (by decide +kernel) sq536_5
set_option maxRecDepth 100000 in
theorem sqM_536 : ∀ b, sq 536 b (tG 536 b) := show ∀ b, sq 536 b (lkB tb536 b) from lkB_sq (List.forall_mem_cons.mpr ⟨sq536_0, List.forall_mem_cons.mpr ⟨sq536_5, List.forall_mem_cons.mpr ⟨sq536_33, List.forall_mem_cons.mpr ⟨sq536_51, List.forall_mem_cons.mpr ⟨sq536_52, List.forall_mem_cons.mpr ⟨sq536_55, List.forall_mem_cons.mpr ⟨sq536_60, List.forall_mem_cons.mpr ⟨sq536_68, List.forall_mem_cons.mpr ⟨sq536_80, List.forall_mem_cons.mpr ⟨sq536_82, List.forall_mem_cons.mpr ⟨sq536_124, List.forall_mem_cons.mpr ⟨sq536_131, List.forall_mem_cons.mpr ⟨sq536_137, (fun _ h => absurd h List.not_mem_nil)⟩⟩⟩⟩⟩⟩⟩⟩⟩⟩⟩⟩⟩)
theorem sq537_39 : sq 537 39 B537_39 := sq_take 5 (e := 46) (by decide +kernel) True.intro
theorem sq537_16 : sq 537 16 B537_16 := sq_take 14 (e := 39) (by decide +kernel) True.intro
theorem sq537_14 : sq 537 14 B537_14 := sq_take 2 (e := 16) (by decide +kernel) sq537_16
theorem sq537_4 : sq 537 4 B537_4 := sq_take 7 (e := 14) (by decide +kernel) True.intro
theorem sq537_0 : sq 537 0 B537_0 := sq_take 3 (e := 4) (by decide +kernel) sq537_4
set_option maxRecDepth 100000 in
theorem sqM_537 : ∀ b, sq 537 b (tG 537 b) := show ∀ b, sq 537 b (lkB tb537 b) from lkB_sq (List.forall_mem_cons.mpr ⟨sq537_0, List.forall_mem_cons.mpr ⟨sq537_4, List.forall_mem_cons.mpr ⟨sq537_14, List.forall_mem_cons.mpr ⟨sq537_16, List.forall_mem_cons.mpr ⟨sq537_39, (fun _ h => absurd h List.not_mem_nil)⟩⟩⟩⟩⟩)
theorem sq538_0 : sq 538 0 B538_0 := sq_take 4 (e := 5) (by decide +kernel) True.intro
set_option maxRecDepth 100000 in
theorem sqM_538 : ∀ b, sq 538 b (tG 538 b) := show ∀ b, sq 538 b (lkB tb538 b) from lkB_sq (List.forall_mem_cons.mpr ⟨sq538_0, (fun _ h => absurd h List.not_mem_nil)⟩)
theorem sq539_26 : sq 539 26 B539_26 := sq_take 1 (e := 27) (by decide +kernel) True.intro
theorem sq539_25 : sq 539 25 B539_25 := sq_take 2 (e := 26) (by decide +kernel) sq539_26
theorem sq539_0 : sq 539 0 B539_0 := sq_take 14 (e := 25) (by decide +kernel) True.intro
set_option maxRecDepth 100000 in
theorem sqM_539 : ∀ b, sq 539 b (tG 539 b) := show ∀ b, sq 539 b (lkB tb539 b) from lkB_sq (List.forall_mem_cons.mpr ⟨sq539_0, List.forall_mem_cons.mpr ⟨sq539_25, List.forall_mem_cons.mpr ⟨sq539_26, (fun _ h => absurd h List.not_mem_nil)⟩⟩⟩)
theorem sq540_0 : sq 540 0 B540_0 := sq_take 8 (e := 11) (by decide +kernel) True.intro
set_option maxRecDepth 100000 in
theorem sqM_540 : ∀ b, sq 540 b (tG 540 b) := show ∀ b, sq 540 b (lkB tb540 b) from lkB_sq (List.forall_mem_cons.mpr ⟨sq540_0, (fun _ h => absurd h List.not_mem_nil)⟩)
theorem sq541_0 : sq 541 0 B541_0 := sq_take 4 (e := 5) (by decide +kernel) True.intro
set_option maxRecDepth 100000 in
theorem sqM_541 : ∀ b, sq 541 b (tG 541 b) := show ∀ b, sq 541 b (lkB tb541 b) from lkB_sq (List.forall_mem_cons.mpr ⟨sq541_0, (fun _ h => absurd h List.not_mem_nil)⟩)
theorem sq542_0 : sq 542 0 B542_0 := sq_take 5 (e := 6) (by decide +kernel) True.intro
set_option maxRecDepth 100000 in
theorem sqM_542 : ∀ b, sq 542 b (tG 542 b) := show ∀ b, sq 542 b (lkB tb542 b) from lkB_sq (List.forall_mem_cons.mpr ⟨sq542_0, (fun _ h => absurd h List.not_mem_nil)⟩)
theorem sq543_0 : sq 543 0 B543_0 := sq_take 4 (e := 5) (by decide +kernel) True.intro
set_option maxRecDepth 100000 in
theorem sqM_543 : ∀ b, sq 543 b (tG 543 b) := show ∀ b, sq 543 b (lkB tb543 b) from lkB_sq (List.forall_mem_cons.mpr ⟨sq543_0, (fun _ h => absurd h List.not_mem_nil)⟩)
theorem sq544_0 : sq 544 0 B544_0 := sq_take 4 (e := 5) (by decide +kernel) True.intro
set_option maxRecDepth 100000 in
theorem sqM_544 : ∀ b, sq 544 b (tG 544 b) := show ∀ b, sq 544 b (lkB tb544 b) from lkB_sq (List.forall_mem_cons.mpr ⟨sq544_0, (fun _ h => absurd h List.not_mem_nil)⟩)
theorem sq545_0 : sq 545 0 B545_0 := sq_take 4 (e := 5) (by decide +kernel) True.intro
set_option maxRecDepth 100000 in
theorem sqM_545 : ∀ b, sq 545 b (tG 545 b) := show ∀ b, sq 545 b (lkB tb545 b) from lkB_sq (List.forall_mem_cons.mpr ⟨sq545_0, (fun _ h => absurd h List.not_mem_nil)⟩)
theorem sq546_0 : sq 546 0 B546_0 := sq_take 4 (e := 5) (by decide +kernel) True.intro
set_option maxRecDepth 100000 in
theorem sqM_546 : ∀ b, sq 546 b (tG 546 b) := show ∀ b, sq 546 b (lkB tb546 b) from lkB_sq (List.forall_mem_cons.mpr ⟨sq546_0, (fun _ h => absurd h List.not_mem_nil)⟩)
theorem sq547_26 : sq 547 26 B547_26 := sq_take 1 (e := 27) (by decide +kernel) True.intro
theorem sq547_25 : sq 547 25 B547_25 := sq_take 2 (e := 26) (by decide +kernel) sq547_26
theorem sq547_0 : sq 547 0 B547_0 := sq_take 14 (e := 25) (by decide +kernel) True.intro
set_option maxRecDepth 100000 in
theorem sqM_547 : ∀ b, sq 547 b (tG 547 b) := show ∀ b, sq 547 b (lkB tb547 b) from lkB_sq (List.forall_mem_cons.mpr ⟨sq547_0, List.forall_mem_cons.mpr ⟨sq547_25, List.forall_mem_cons.mpr ⟨sq547_26, (fun _ h => absurd h List.not_mem_nil)⟩⟩⟩)
theorem sq548_0 : sq 548 0 B548_0 := sq_take 9 (e := 12) (by decide +kernel) True.intro
set_option maxRecDepth 100000 in
theorem sqM_548 : ∀ b, sq 548 b (tG 548 b) := show ∀ b, sq 548 b (lkB tb548 b) from lkB_sq (List.forall_mem_cons.mpr ⟨sq548_0, (fun _ h => absurd h List.not_mem_nil)⟩)
theorem sq549_0 : sq 549 0 B549_0 := sq_take 11 (e := 13) (by decide +kernel) True.intro
set_option maxRecDepth 100000 in
theorem sqM_549 : ∀ b, sq 549 b (tG 549 b) := show ∀ b, sq 549 b (lkB tb549 b) from lkB_sq (List.forall_mem_cons.mpr ⟨sq549_0, (fun _ h => absurd h List.not_mem_nil)⟩)
theorem sq550_0 : sq 550 0 B550_0 := sq_take 8 (e := 10) (by decide +kernel) True.intro
set_option maxRecDepth 100000 in
theorem sqM_550 : ∀ b, sq 550 b (tG 550 b) := show ∀ b, sq 550 b (lkB tb550 b) from lkB_sq (List.forall_mem_cons.mpr ⟨sq550_0, (fun _ h => absurd h List.not_mem_nil)⟩)
theorem sq551_205 : sq 551 205 B551_205 := sq_take 2 (e := 207) (by decide +kernel) True.intro
theorem sq551_189 : sq 551 189 B551_189 := sq_take 10 (e := 205) (by decide +kernel) True.intro
theorem sq551_188 : sq 551 188 B551_188 := sq_take 1 (e := 189) (by decide +kernel) sq551_189
theorem sq551_158 : sq 551 158 B551_158 := sq_take 16 (e := 188) (by decide +kernel) True.intro
theorem sq551_140 : sq 551 140 B551_140 := sq_take 11 (e := 158) (by decide +kernel) sq551_158
theorem sq551_137 : sq 551 137 B551_137 := sq_take 2 (e := 140) (by decide +kernel) True.intro
theorem sq551_95 : sq 551 95 B551_95 := sq_take 23 (e := 137) (by decide +kernel) sq551_137
theorem sq551_88 : sq 551 88 B551_88 := sq_take 5 (e := 95) (by decide +kernel) sq551_95
theorem sq551_69 : sq 551 69 B551_69 := sq_take 11 (e := 88) (by decide +kernel) True.intro
theorem sq551_66 : sq 551 66 B551_66 := sq_take 4 (e := 69) (by decide +kernel) sq551_69
theorem sq551_56 : sq 551 56 B551_56 := sq_take 7 (e := 66) (by decide +kernel) sq551_66
theorem sq551_42 : sq 551 42 B551_42 := sq_take 9 (e := 56) (by decide +kernel) sq551_56
theorem sq551_27 : sq 551 27 B551_27 := sq_take 9 (e := 42) (by decide +kernel) sq551_42
theorem sq551_25 : sq 551 25 B551_25 := sq_take 2 (e := 27) (by decide +kernel) True.intro
theorem sq551_4 : sq 551 4 B551_4 := sq_take 12 (e := 25) (by decide +kernel) sq551_25
theorem sq551_0 : sq 551 0 B551_0 := sq_take 3 (e := 4) (by decide +kernel) sq551_4
set_option maxRecDepth 100000 in
theorem sqM_551 : ∀ b, sq 551 b (tG 551 b) := show ∀ b, sq 551 b (lkB tb551 b) from lkB_sq (List.forall_mem_cons.mpr ⟨sq551_0, List.forall_mem_cons.mpr ⟨sq551_4, List.forall_mem_cons.mpr ⟨sq551_25, List.forall_mem_cons.mpr ⟨sq551_27, List.forall_mem_cons.mpr ⟨sq551_42, List.forall_mem_cons.mpr ⟨sq551_56, List.forall_mem_cons.mpr ⟨sq551_66, List.forall_mem_cons.mpr ⟨sq551_69, List.forall_mem_cons.mpr ⟨sq551_88, List.forall_mem_cons.mpr ⟨sq551_95, List.forall_mem_cons.mpr ⟨sq551_137, List.forall_mem_cons.mpr ⟨sq551_140, List.forall_mem_cons.mpr ⟨sq551_158, List.forall_mem_cons.mpr ⟨sq551_188, List.forall_mem_cons.mpr ⟨sq551_189, List.forall_mem_cons.mpr ⟨sq551_205, (fun _ h => absurd h List.not_mem_nil)⟩⟩⟩⟩⟩⟩⟩⟩⟩⟩⟩⟩⟩⟩⟩⟩)
theorem sq552_47 : sq 552 47 B552_47 := sq_take 3 (e := 49) (by decide +kernel) True.intro
theorem sq552_35 : sq 552 35 B552_35 := sq_take 7 (e := 47) (by decide +kernel) sq552_47
theorem sq552_25 : sq 552 25 B552_25 := sq_take 5 (e := 35) (by decide +kernel) sq552_35
theorem sq552_17 : sq 552 17 B552_17 := sq_take 5 (e := 25) (by decide +kernel) True.intro
theorem sq552_2 : sq 552 2 B552_2 := sq_take 9 (e := 17) (by decide +kernel) sq552_17
theorem sq552_0 : sq 552 0 B552_0 := sq_take 3 (e := 2) (by decide +kernel) sq552_2
set_option maxRecDepth 100000 in
theorem sqM_552 : ∀ b, sq 552 b (tG 552 b) := show ∀ b, sq 552 b (lkB tb552 b) from lkB_sq (List.forall_mem_cons.mpr ⟨sq552_0, List.forall_mem_cons.mpr ⟨sq552_2, List.forall_mem_cons.mpr ⟨sq552_17, List.forall_mem_cons.mpr ⟨sq552_25, List.forall_mem_cons.mpr ⟨sq552_35, List.forall_mem_cons.mpr ⟨sq552_47, (fun _ h => absurd h List.not_mem_nil)⟩⟩⟩⟩⟩⟩)
theorem sq553_201 : sq 553 201 B553_201 := sq_take 3 (e := 206) (by decide +kernel) True.intro
theorem sq553_185 : sq 553 185 B553_185 := sq_take 10 (e := 201) (by decide +kernel) sq553_201
theorem sq553_168 : sq 553 168 B553_168 := sq_take 9 (e := 185) (by decide +kernel) True.intro
theorem sq553_135 : sq 553 135 B553_135 := sq_take 20 (e := 168) (by decide +kernel) True.intro
theorem sq553_104 : sq 553 104 B553_104 := sq_take 19 (e := 135) (by decide +kernel) True.intro
theorem sq553_87 : sq 553 87 B553_87 := sq_take 12 (e := 104) (by decide +kernel) True.intro
theorem sq553_86 : sq 553 86 B553_86 := sq_take 2 (e := 87) (by decide +kernel) sq553_87
theorem sq553_65 : sq 553 65 B553_65 := sq_take 10 (e := 86) (by decide +kernel) True.intro
theorem sq553_44 : sq 553 44 B553_44 := sq_take 10 (e := 65) (by decide +kernel) True.intro
theorem sq553_0 : sq 553 0 B553_0 := sq_take 25 (e := 44) (by decide +kernel) True.intro
set_option maxRecDepth 100000 in
theorem sqM_553 : ∀ b, sq 553 b (tG 553 b) := show ∀ b, sq 553 b (lkB tb553 b) from lkB_sq (List.forall_mem_cons.mpr ⟨sq553_0, List.forall_mem_cons.mpr ⟨sq553_44, List.forall_mem_cons.mpr ⟨sq553_65, List.forall_mem_cons.mpr ⟨sq553_86, List.forall_mem_cons.mpr ⟨sq553_87, List.forall_mem_cons.mpr ⟨sq553_104, List.forall_mem_cons.mpr ⟨sq553_135, List.forall_mem_cons.mpr ⟨sq553_168, List.forall_mem_cons.mpr ⟨sq553_185, List.forall_mem_cons.mpr ⟨sq553_201, (fun _ h => absurd h List.not_mem_nil)⟩⟩⟩⟩⟩⟩⟩⟩⟩⟩)
theorem sq554_172 : sq 554 172 B554_172 := sq_take 1 (e := 173) (by decide +kernel) True.intro
theorem sq554_153 : sq 554 153 B554_153 := sq_take 12 (e := 172) (by decide +kernel) sq554_172
theorem sq554_133 : sq 554 133 B554_133 := sq_take 11 (e := 153) (by decide +kernel) True.intro
theorem sq554_97 : sq 554 97 B554_97 := sq_take 20 (e := 133) (by decide +kernel) True.intro
theorem sq554_63 : sq 554 63 B554_63 := sq_take 19 (e := 97) (by decide +kernel) True.intro
theorem sq554_0 : sq 554 0 B554_0 := sq_take 39 (e := 63) (by decide +kernel) True.intro
set_option maxRecDepth 100000 in
theorem sqM_554 : ∀ b, sq 554 b (tG 554 b) := show ∀ b, sq 554 b (lkB tb554 b) from lkB_sq (List.forall_mem_cons.mpr ⟨sq554_0, List.forall_mem_cons.mpr ⟨sq554_63, List.forall_mem_cons.mpr ⟨sq554_97, List.forall_mem_cons.mpr ⟨sq554_133, List.forall_mem_cons.mpr ⟨sq554_153, List.forall_mem_cons.mpr ⟨sq554_172, (fun _ h => absurd h List.not_mem_nil)⟩⟩⟩⟩⟩⟩)
theorem sq555_37 : sq 555 37 B555_37 := sq_take 2 (e := 40) (by decide +kernel) True.intro
theorem sq555_27 : sq 555 27 B555_27 := sq_take 6 (e := 37) (by decide +kernel) True.intro
theorem sq555_8 : sq 555 8 B555_8 := sq_take 12 (e := 27) (by decide +kernel) sq555_27
theorem sq555_0 : sq 555 0 B555_0 := sq_take 7 (e := 8) (by decide +kernel) sq555_8
set_option maxRecDepth 100000 in
theorem sqM_555 : ∀ b, sq 555 b (tG 555 b) := show ∀ b, sq 555 b (lkB tb555 b) from lkB_sq (List.forall_mem_cons.mpr ⟨sq555_0, List.forall_mem_cons.mpr ⟨sq555_8, List.forall_mem_cons.mpr ⟨sq555_27, List.forall_mem_cons.mpr ⟨sq555_37, (fun _ h => absurd h List.not_mem_nil)⟩⟩⟩⟩)
theorem sq556_37 : sq 556 37 B556_37 := sq_take 1 (e := 38) (by decide +kernel) True.intro
theorem sq556_31 : sq 556 31 B556_31 := sq_take 3 (e := 37) (by decide +kernel) True.intro
theorem sq556_3 : sq 556 3 B556_3 := sq_take 18 (e := 31) (by decide +kernel) sq556_31
theorem sq556_0 : sq 556 0 B556_0 := sq_take 3 (e := 3) (by decide +kernel) sq556_3
set_option maxRecDepth 100000 in
theorem sqM_556 : ∀ b, sq 556 b (tG 556 b) := show ∀ b, sq 556 b (lkB tb556 b) from lkB_sq (List.forall_mem_cons.mpr ⟨sq556_0, List.forall_mem_cons.mpr ⟨sq556_3, List.forall_mem_cons.mpr ⟨sq556_31, List.forall_mem_cons.mpr ⟨sq556_37, (fun _ h => absurd h List.not_mem_nil)⟩⟩⟩⟩)
theorem sq557_190 : sq 557 190 B557_190 := sq_take 2 (e := 191) (by decide +kernel) True.intro
theorem sq557_184 : sq 557 184 B557_184 := sq_take 4 (e := 190) (by decide +kernel) sq557_190
theorem sq557_181 : sq 557 181 B557_181 := sq_take 2 (e := 184) (by decide +kernel) True.intro
theorem sq557_173 : sq 557 173 B557_173 := sq_take 5 (e := 181) (by decide +kernel) sq557_181
theorem sq557_170 : sq 557 170 B557_170 := sq_take 2 (e := 173) (by decide +kernel) True.intro
theorem sq557_164 : sq 557 164 B557_164 := sq_take 4 (e := 170) (by decide +kernel) sq557_170
theorem sq557_150 : sq 557 150 B557_150 := sq_take 9 (e := 164) (by decide +kernel) True.intro
theorem sq557_122 : sq 557 122 B557_122 := sq_take 18 (e := 150) (by decide +kernel) sq557_150
theorem sq557_118 : sq 557 118 B557_118 := sq_take 2 (e := 122) (by decide +kernel) sq557_122
theorem sq557_115 : sq 557 115 B557_115 := sq_take 2 (e := 118) (by decide +kernel) True.intro
theorem sq557_110 : sq 557 110 B557_110 := sq_take 4 (e := 115) (by decide +kernel) sq557_115
theorem sq557_99 : sq 557 99 B557_99 := sq_take 6 (e := 110) (by decide +kernel) sq557_110
theorem sq557_96 : sq 557 96 B557_96 := sq_take 2 (e := 99) (by decide +kernel) sq557_99
theorem sq557_85 : sq 557 85 B557_85 := sq_take 7 (e := 96) (by decide +kernel) sq557_96
theorem sq557_84 : sq 557 84 B557_84 := sq_take 1 (e := 85) (by decide +kernel) sq557_85
theorem sq557_76 : sq 557 76 B557_76 := sq_take 5 (e := 84) (by decide +kernel) True.intro
theorem sq557_72 : sq 557 72 B557_72 := sq_take 2 (e := 76) (by decide +kernel) sq557_76
theorem sq557_4 : sq 557 4 B557_4 := sq_take 15 (e := 72) (by decide +kernel) True.intro
theorem sq557_0 : sq 557 0 B557_0 := sq_take 3 (e := 4) (by decide +kernel) sq557_4
set_option maxRecDepth 100000 in
theorem sqM_557 : ∀ b, sq 557 b (tG 557 b) := show ∀ b, sq 557 b (lkB tb557 b) from lkB_sq (List.forall_mem_cons.mpr ⟨sq557_0, List.forall_mem_cons.mpr ⟨sq557_4, List.forall_mem_cons.mpr ⟨sq557_72, List.forall_mem_cons.mpr ⟨sq557_76, List.forall_mem_cons.mpr ⟨sq557_84, List.forall_mem_cons.mpr ⟨sq557_85, List.forall_mem_cons.mpr ⟨sq557_96, List.forall_mem_cons.mpr ⟨sq557_99, List.forall_mem_cons.mpr ⟨sq557_110, List.forall_mem_cons.mpr ⟨sq557_115, List.forall_mem_cons.mpr ⟨sq557_118, List.forall_mem_cons.mpr ⟨sq557_122, List.forall_mem_cons.mpr ⟨sq557_150, List.forall_mem_cons.mpr ⟨sq557_164, List.forall_mem_cons.mpr ⟨sq557_170, List.forall_mem_cons.mpr ⟨sq557_173, List.forall_mem_cons.mpr ⟨sq557_181, List.forall_mem_cons.mpr ⟨sq557_184, List.forall_mem_cons.mpr ⟨sq557_190, (fun _ h => absurd h List.not_mem_nil)⟩⟩⟩⟩⟩⟩⟩⟩⟩⟩⟩⟩⟩⟩⟩⟩⟩⟩⟩)
theorem sq558_174 : sq 558 174 B558_174 := sq_take 8 (e := 186) (by decide +kernel) True.intro
theorem sq558_170 : sq 558 170 B558_170 := sq_take 3 (e := 174) (by decide +kernel) sq558_174
theorem sq558_154 : sq 558 154 B558_154 := sq_take 9 (e := 170) (by decide +kernel) sq558_170
theorem sq558_148 : sq 558 148 B558_148 := sq_take 3 (e := 154) (by decide +kernel) sq558_154
theorem sq558_145 : sq 558 145 B558_145 := sq_take 2 (e := 148) (by decide +kernel) True.intro
theorem sq558_137 : sq 558 137 B558_137 := sq_take 5 (e := 145) (by decide +kernel) sq558_145
theorem sq558_124 : sq 558 124 B558_124 := sq_take 7 (e := 137) (by decide +kernel) sq558_137
theorem sq558_123 : sq 558 123 B558_123 := sq_take 2 (e := 124) (by decide +kernel) sq558_124
theorem sq558_119 : sq 558 119 B558_119 := sq_take 2 (e := 123) (by decide +kernel) sq558_123
theorem sq558_115 : sq 558 115 B558_115 := sq_take 3 (e := 119) (by decide +kernel) True.intro
theorem sq558_112 : sq 558 112 B558_112 := sq_take 2 (e := 115) (by decide +kernel) sq558_115
theorem sq558_87 : sq 558 87 B558_87 := sq_take 14 (e := 112) (by decide +kernel) sq558_112
theorem sq558_85 : sq 558 85 B558_85 := sq_take 3 (e := 87) (by decide +kernel) True.intro
theorem sq558_82 : sq 558 82 B558_82 := sq_take 2 (e := 85) (by decide +kernel) sq558_85
theorem sq558_71 : sq 558 71 B558_71 := sq_take 6 (e := 82) (by decide +kernel) sq558_82
theorem sq558_68 : sq 558 68 B558_68 := sq_take 2 (e := 71) (by decide +kernel) True.intro
theorem sq558_65 : sq 558 65 B558_65 := sq_take 2 (e := 68) (by decide +kernel) sq558_68
theorem sq558_31 : sq 558 31 B558_31 := sq_take 17 (e := 65) (by decide +kernel) sq558_65
theorem sq558_30 : sq 558 30 B558_30 := sq_take 1 (e := 31) (by decide +kernel) sq558_31
theorem sq558_15 : sq 558 15 B558_15 := sq_take 9 (e := 30) (by decide +kernel) True.intro
theorem sq558_12 : sq 558 12 B558_12 := sq_take 2 (e := 15) (by decide +kernel) sq558_15
theorem sq558_0 : sq 558 0 B558_0 := sq_take 8 (e := 12) (by decide +kernel) sq558_12
set_option maxRecDepth 100000 in
theorem sqM_558 : ∀ b, sq 558 b (tG 558 b) := show ∀ b, sq 558 b (lkB tb558 b) from lkB_sq (List.forall_mem_cons.mpr ⟨sq558_0, List.forall_mem_cons.mpr ⟨sq558_12, List.forall_mem_cons.mpr ⟨sq558_15, List.forall_mem_cons.mpr ⟨sq558_30, List.forall_mem_cons.mpr ⟨sq558_31, List.forall_mem_cons.mpr ⟨sq558_65, List.forall_mem_cons.mpr ⟨sq558_68, List.forall_mem_cons.mpr ⟨sq558_71, List.forall_mem_cons.mpr ⟨sq558_82, List.forall_mem_cons.mpr ⟨sq558_85, List.forall_mem_cons.mpr ⟨sq558_87, List.forall_mem_cons.mpr ⟨sq558_112, List.forall_mem_cons.mpr ⟨sq558_115, List.forall_mem_cons.mpr ⟨sq558_119, List.forall_mem_cons.mpr ⟨sq558_123, List.forall_mem_cons.mpr ⟨sq558_124, List.forall_mem_cons.mpr ⟨sq558_137, List.forall_mem_cons.mpr ⟨sq558_145, List.forall_mem_cons.mpr ⟨sq558_148, List.forall_mem_cons.mpr ⟨sq558_154, List.forall_mem_cons.mpr ⟨sq558_170, List.forall_mem_cons.mpr ⟨sq558_174, (fun _ h => absurd h List.not_mem_nil)⟩⟩⟩⟩⟩⟩⟩⟩⟩⟩⟩⟩⟩⟩⟩⟩⟩⟩⟩⟩⟩⟩)
theorem sq559_339 : sq 559 339 B559_339 := sq_take 1 (e := 340) (by decide +kernel) True.intro
theorem sq559_336 : sq 559 336 B559_336 := sq_take 2 (e := 339) (by decide +kernel) sq559_339
theorem sq559_332 : sq 559 332 B559_332 := sq_take 2 (e := 336) (by decide +kernel) sq559_336
theorem sq559_319 : sq 559 319 B559_319 := sq_take 7 (e := 332) (by decide +kernel) True.intro
theorem sq559_298 : sq 559 298 B559_298 := sq_take 11 (e := 319) (by decide +kernel) sq559_319
theorem sq559_295 : sq 559 295 B559_295 := sq_take 2 (e := 298) (by decide +kernel) True.intro
theorem sq559_275 : sq 559 275 B559_275 := sq_take 11 (e := 295) (by decide +kernel) sq559_295
theorem sq559_274 : sq 559 274 B559_274 := sq_take 2 (e := 275) (by decide +kernel) sq559_275
theorem sq559_270 : sq 559 270 B559_270 := sq_take 2 (e := 274) (by decide +kernel) sq559_274
theorem sq559_266 : sq 559 266 B559_266 := sq_take 3 (e := 270) (by decide +kernel) True.intro
theorem sq559_263 : sq 559 263 B559_263 := sq_take 2 (e := 266) (by decide +kernel) sq559_266
theorem sq559_244 : sq 559 244 B559_244 := sq_take 12 (e := 263) (by decide +kernel) sq559_263
theorem sq559_241 : sq 559 241 B559_241 := sq_take 2 (e := 244) (by decide +kernel) sq559_244
theorem sq559_230 : sq 559 230 B559_230 := sq_take 7 (e := 241) (by decide +kernel) sq559_241
theorem sq559_229 : sq 559 229 B559_229 := sq_take 1 (e := 230) (by decide +kernel) sq559_230
theorem sq559_217 : sq 559 217 B559_217 := sq_take 7 (e := 229) (by decide +kernel) True.intro
theorem sq559_213 : sq 559 213 B559_213 := sq_take 3 (e := 217) (by decide +kernel) True.intro
theorem sq559_210 : sq 559 210 B559_210 := sq_take 2 (e := 213) (by decide +kernel) sq559_213
theorem sq559_205 : sq 559 205 B559_205 := sq_take 4 (e := 210) (by decide +kernel) sq559_210
theorem sq559_189 : sq 559 189 B559_189 := sq_take 9 (e := 205) (by decide +kernel) sq559_205
theorem sq559_180 : sq 559 180 B559_180 := sq_take 4 (e := 189) (by decide +kernel) True.intro
theorem sq559_169 : sq 559 169 B559_169 := sq_take 7 (e := 180) (by decide +kernel) True.intro
theorem sq559_159 : sq 559 159 B559_159 := sq_take 6 (e := 169) (by decide +kernel) sq559_169
theorem sq559_143 : sq 559 143 B559_143 := sq_take 9 (e := 159) (by decide +kernel) sq559_159
theorem sq559_140 : sq 559 140 B559_140 := sq_take 3 (e := 143) (by decide +kernel) sq559_143
theorem sq559_109 : sq 559 109 B559_109 := sq_take 18 (e := 140) (by decide +kernel) sq559_140
theorem sq559_98 : sq 559 98 B559_98 := sq_take 5 (e := 109) (by decide +kernel) sq559_109
theorem sq559_79 : sq 559 79 B559_79 := sq_take 11 (e := 98) (by decide +kernel) True.intro
theorem sq559_57 : sq 559 57 B559_57 := sq_take 14 (e := 79) (by decide +kernel) sq559_79
theorem sq559_48 : sq 559 48 B559_48 := sq_take 5 (e := 57) (by decide +kernel) sq559_57
theorem sq559_28 : sq 559 28 B559_28 := sq_take 10 (e := 48) (by decide +kernel) True.intro
theorem sq559_19 : sq 559 19 B559_19 := sq_take 5 (e := 28) (by decide +kernel) True.intro
theorem sq559_6 : sq 559 6 B559_6 := sq_take 8 (e := 19) (by decide +kernel) sq559_19
theorem sq559_0 : sq 559 0 B559_0 := sq_take 4 (e := 6) (by decide +kernel) sq559_6
set_option maxRecDepth 100000 in
theorem sqM_559 : ∀ b, sq 559 b (tG 559 b) := show ∀ b, sq 559 b (lkB tb559 b) from lkB_sq (List.forall_mem_cons.mpr ⟨sq559_0, List.forall_mem_cons.mpr ⟨sq559_6, List.forall_mem_cons.mpr ⟨sq559_19, List.forall_mem_cons.mpr ⟨sq559_28, List.forall_mem_cons.mpr ⟨sq559_48, List.forall_mem_cons.mpr ⟨sq559_57, List.forall_mem_cons.mpr ⟨sq559_79, List.forall_mem_cons.mpr ⟨sq559_98, List.forall_mem_cons.mpr ⟨sq559_109, List.forall_mem_cons.mpr ⟨sq559_140, List.forall_mem_cons.mpr ⟨sq559_143, List.forall_mem_cons.mpr ⟨sq559_159, List.forall_mem_cons.mpr ⟨sq559_169, List.forall_mem_cons.mpr ⟨sq559_180, List.forall_mem_cons.mpr ⟨sq559_189, List.forall_mem_cons.mpr ⟨sq559_205, List.forall_mem_cons.mpr ⟨sq559_210, List.forall_mem_cons.mpr ⟨sq559_213, List.forall_mem_cons.mpr ⟨sq559_217, List.forall_mem_cons.mpr ⟨sq559_229, List.forall_mem_cons.mpr ⟨sq559_230, List.forall_mem_cons.mpr ⟨sq559_241, List.forall_mem_cons.mpr ⟨sq559_244, List.forall_mem_cons.mpr ⟨sq559_263, List.forall_mem_cons.mpr ⟨sq559_266, List.forall_mem_cons.mpr ⟨sq559_270, List.forall_mem_cons.mpr ⟨sq559_274, List.forall_mem_cons.mpr ⟨sq559_275, List.forall_mem_cons.mpr ⟨sq559_295, List.forall_mem_cons.mpr ⟨sq559_298, List.forall_mem_cons.mpr ⟨sq559_319, List.forall_mem_cons.mpr ⟨sq559_332, List.forall_mem_cons.mpr ⟨sq559_336, List.forall_mem_cons.mpr ⟨sq559_339, (fun _ h => absurd h List.not_mem_nil)⟩⟩⟩⟩⟩⟩⟩⟩⟩⟩⟩⟩⟩⟩⟩⟩⟩⟩⟩⟩⟩⟩⟩⟩⟩⟩⟩⟩⟩⟩⟩⟩⟩⟩)
theorem sq560_394 : sq 560 394 B560_394 := sq_take 1 (e := 395) (by decide +kernel) True.intro
theorem sq560_391 : sq 560 391 B560_391 := sq_take 3 (e := 394) (by decide +kernel) sq560_394
theorem sq560_388 : sq 560 388 B560_388 := sq_take 2 (e := 391) (by decide +kernel) sq560_391
theorem sq560_371 : sq 560 371 B560_371 := sq_take 11 (e := 388) (by decide +kernel) sq560_388
theorem sq560_368 : sq 560 368 B560_368 := sq_take 2 (e := 371) (by decide +kernel) sq560_371
theorem sq560_366 : sq 560 366 B560_366 := sq_take 1 (e := 368) (by decide +kernel) sq560_368
theorem sq560_350 : sq 560 350 B560_350 := sq_take 7 (e := 366) (by decide +kernel) True.intro
theorem sq560_335 : sq 560 335 B560_335 := sq_take 7 (e := 350) (by decide +kernel) True.intro
theorem sq560_320 : sq 560 320 B560_320 := sq_take 7 (e := 335) (by decide +kernel) True.intro
theorem sq560_294 : sq 560 294 B560_294 := sq_take 13 (e := 320) (by decide +kernel) True.intro
theorem sq560_290 : sq 560 290 B560_290 := sq_take 4 (e := 294) (by decide +kernel) True.intro
theorem sq560_281 : sq 560 281 B560_281 := sq_take 6 (e := 290) (by decide +kernel) sq560_290
theorem sq560_267 : sq 560 267 B560_267 := sq_take 8 (e := 281) (by decide +kernel) sq560_281
theorem sq560_258 : sq 560 258 B560_258 := sq_take 6 (e := 267) (by decide +kernel) sq560_267
theorem sq560_236 : sq 560 236 B560_236 := sq_take 12 (e := 258) (by decide +kernel) sq560_258
theorem sq560_233 : sq 560 233 B560_233 := sq_take 2 (e := 236) (by decide +kernel) sq560_236
theorem sq560_222 : sq 560 222 B560_222 := sq_take 7 (e := 233) (by decide +kernel) sq560_233
theorem sq560_214 : sq 560 214 B560_214 := sq_take 4 (e := 222) (by decide +kernel) sq560_222
theorem sq560_213 : sq 560 213 B560_213 := sq_take 2 (e := 214) (by decide +kernel) True.intro
theorem sq560_210 : sq 560 210 B560_210 := sq_take 2 (e := 213) (by decide +kernel) sq560_213
theorem sq560_209 : sq 560 209 B560_209 := sq_take 2 (e := 210) (by decide +kernel) sq560_210
theorem sq560_206 : sq 560 206 B560_206 := sq_take 2 (e := 209) (by decide +kernel) sq560_209
theorem sq560_197 : sq 560 197 B560_197 := sq_take 5 (e := 206) (by decide +kernel) sq560_206
theorem sq560_169 : sq 560 169 B560_169 := sq_take 16 (e := 197) (by decide +kernel) True.intro
theorem sq560_161 : sq 560 161 B560_161 := sq_take 6 (e := 169) (by decide +kernel) sq560_169
theorem sq560_156 : sq 560 156 B560_156 := sq_take 4 (e := 161) (by decide +kernel) sq560_161
theorem sq560_153 : sq 560 153 B560_153 := sq_take 2 (e := 156) (by decide +kernel) sq560_156
theorem sq560_144 : sq 560 144 B560_144 := sq_take 5 (e := 153) (by decide +kernel) sq560_153
theorem sq560_142 : sq 560 142 B560_142 := sq_take 3 (e := 144) (by decide +kernel) True.intro
theorem sq560_140 : sq 560 140 B560_140 := sq_take 1 (e := 142) (by decide +kernel) sq560_142
theorem sq560_137 : sq 560 137 B560_137 := sq_take 2 (e := 140) (by decide +kernel) True.intro
theorem sq560_119 : sq 560 119 B560_119 := sq_take 9 (e := 137) (by decide +kernel) sq560_137
theorem sq560_116 : sq 560 116 B560_116 := sq_take 2 (e := 119) (by decide +kernel) sq560_119
theorem sq560_105 : sq 560 105 B560_105 := sq_take 7 (e := 116) (by decide +kernel) sq560_116
theorem sq560_97 : sq 560 97 B560_97 := sq_take 5 (e := 105) (by decide +kernel) sq560_105
theorem sq560_94 : sq 560 94 B560_94 := sq_take 2 (e := 97) (by decide +kernel) True.intro
theorem sq560_91 : sq 560 91 B560_91 := sq_take 2 (e := 94) (by decide +kernel) sq560_94
theorem sq560_87 : sq 560 87 B560_87 := sq_take 2 (e := 91) (by decide +kernel) sq560_91
theorem sq560_38 : sq 560 38 B560_38 := sq_take 27 (e := 87) (by decide +kernel) True.intro
theorem sq560_33 : sq 560 33 B560_33 := sq_take 4 (e := 38) (by decide +kernel) sq560_38
theorem sq560_30 : sq 560 30 B560_30 := sq_take 2 (e := 33) (by decide +kernel) sq560_33
theorem sq560_4 : sq 560 4 B560_4 := sq_take 16 (e := 30) (by decide +kernel) sq560_30
theorem sq560_0 : sq 560 0 B560_0 := sq_take 3 (e := 4) (by decide +kernel) sq560_4
set_option maxRecDepth 100000 in
theorem sqM_560 : ∀ b, sq 560 b (tG 560 b) := show ∀ b, sq 560 b (lkB tb560 b) from lkB_sq (List.forall_mem_cons.mpr ⟨sq560_0, List.forall_mem_cons.mpr ⟨sq560_4, List.forall_mem_cons.mpr ⟨sq560_30, List.forall_mem_cons.mpr ⟨sq560_33, List.forall_mem_cons.mpr ⟨sq560_38, List.forall_mem_cons.mpr ⟨sq560_87, List.forall_mem_cons.mpr ⟨sq560_91, List.forall_mem_cons.mpr ⟨sq560_94, List.forall_mem_cons.mpr ⟨sq560_97, List.forall_mem_cons.mpr ⟨sq560_105, List.forall_mem_cons.mpr ⟨sq560_116, List.forall_mem_cons.mpr ⟨sq560_119, List.forall_mem_cons.mpr ⟨sq560_137, List.forall_mem_cons.mpr ⟨sq560_140, List.forall_mem_cons.mpr ⟨sq560_142, List.forall_mem_cons.mpr ⟨sq560_144, List.forall_mem_cons.mpr ⟨sq560_153, List.forall_mem_cons.mpr ⟨sq560_156, List.forall_mem_cons.mpr ⟨sq560_161, List.forall_mem_cons.mpr ⟨sq560_169, List.forall_mem_cons.mpr ⟨sq560_197, List.forall_mem_cons.mpr ⟨sq560_206, List.forall_mem_cons.mpr ⟨sq560_209, List.forall_mem_cons.mpr ⟨sq560_210, List.forall_mem_cons.mpr ⟨sq560_213, List.forall_mem_cons.mpr ⟨sq560_214, List.forall_mem_cons.mpr ⟨sq560_222, List.forall_mem_cons.mpr ⟨sq560_233, List.forall_mem_cons.mpr ⟨sq560_236, List.forall_mem_cons.mpr ⟨sq560_258, List.forall_mem_cons.mpr ⟨sq560_267, List.forall_mem_cons.mpr ⟨sq560_281, List.forall_mem_cons.mpr ⟨sq560_290, List.forall_mem_cons.mpr ⟨sq560_294, List.forall_mem_cons.mpr ⟨sq560_320, List.forall_mem_cons.mpr ⟨sq560_335, List.forall_mem_cons.mpr ⟨sq560_350, List.forall_mem_cons.mpr ⟨sq560_366, List.forall_mem_cons.mpr ⟨sq560_368, List.forall_mem_cons.mpr ⟨sq560_371, List.forall_mem_cons.mpr ⟨sq560_388, List.forall_mem_cons.mpr ⟨sq560_391, List.forall_mem_cons.mpr ⟨sq560_394, (fun _ h => absurd h List.not_mem_nil)⟩⟩⟩⟩⟩⟩⟩⟩⟩⟩⟩⟩⟩⟩⟩⟩⟩⟩⟩⟩⟩⟩⟩⟩⟩⟩⟩⟩⟩⟩⟩⟩⟩⟩⟩⟩⟩⟩⟩⟩⟩⟩⟩)
theorem sq561_0 : sq 561 0 B561_0 := sq_take 8 (e := 9) (by decide +kernel) True.intro
set_option maxRecDepth 100000 in
theorem sqM_561 : ∀ b, sq 561 b (tG 561 b) := show ∀ b, sq 561 b (lkB tb561 b) from lkB_sq (List.forall_mem_cons.mpr ⟨sq561_0, (fun _ h => absurd h List.not_mem_nil)⟩)
theorem sq562_30 : sq 562 30 B562_30 := sq_take 1 (e := 31) (by decide +kernel) True.intro
theorem sq562_22 : sq 562 22 B562_22 := sq_take 5 (e := 30) (by decide +kernel) True.intro
theorem sq562_3 : sq 562 3 B562_3 := sq_take 12 (e := 22) (by decide +kernel) sq562_22
theorem sq562_0 : sq 562 0 B562_0 := sq_take 3 (e := 3) (by decide +kernel) sq562_3
set_option maxRecDepth 100000 in
theorem sqM_562 : ∀ b, sq 562 b (tG 562 b) := show ∀ b, sq 562 b (lkB tb562 b) from lkB_sq (List.forall_mem_cons.mpr ⟨sq562_0, List.forall_mem_cons.mpr ⟨sq562_3, List.forall_mem_cons.mpr ⟨sq562_22, List.forall_mem_cons.mpr ⟨sq562_30, (fun _ h => absurd h List.not_mem_nil)⟩⟩⟩⟩)
theorem sq563_420 : sq 563 420 B563_420 := sq_take 3 (e := 422) (by decide +kernel) True.intro
theorem sq563_417 : sq 563 417 B563_417 := sq_take 2 (e := 420) (by decide +kernel) sq563_420
theorem sq563_416 : sq 563 416 B563_416 := sq_take 1 (e := 417) (by decide +kernel) sq563_417
theorem sq563_395 : sq 563 395 B563_395 := sq_take 12 (e := 416) (by decide +kernel) True.intro
theorem sq563_394 : sq 563 394 B563_394 := sq_take 2 (e := 395) (by decide +kernel) True.intro
theorem sq563_385 : sq 563 385 B563_385 := sq_take 5 (e := 394) (by decide +kernel) sq563_394
theorem sq563_384 : sq 563 384 B563_384 := sq_take 2 (e := 385) (by decide +kernel) True.intro
theorem sq563_377 : sq 563 377 B563_377 := sq_take 4 (e := 384) (by decide +kernel) sq563_384
theorem sq563_376 : sq 563 376 B563_376 := sq_take 2 (e := 377) (by decide +kernel) True.intro
theorem sq563_365 : sq 563 365 B563_365 := sq_take 6 (e := 376) (by decide +kernel) sq563_376
theorem sq563_364 : sq 563 364 B563_364 := sq_take 2 (e := 365) (by decide +kernel) True.intro
theorem sq563_358 : sq 563 358 B563_358 := sq_take 4 (e := 364) (by decide +kernel) sq563_364
theorem sq563_352 : sq 563 352 B563_352 := sq_take 3 (e := 358) (by decide +kernel) sq563_358
theorem sq563_328 : sq 563 328 B563_328 := sq_take 13 (e := 352) (by decide +kernel) True.intro
theorem sq563_325 : sq 563 325 B563_325 := sq_take 2 (e := 328) (by decide +kernel) True.intro
theorem sq563_319 : sq 563 319 B563_319 := sq_take 3 (e := 325) (by decide +kernel) True.intro
theorem sq563_307 : sq 563 307 B563_307 := sq_take 9 (e := 319) (by decide +kernel) sq563_319
theorem sq563_271 : sq 563 271 B563_271 := sq_take 20 (e := 307) (by decide +kernel) sq563_307
theorem sq563_268 : sq 563 268 B563_268 := sq_take 2 (e := 271) (by decide +kernel) sq563_271
theorem sq563_263 : sq 563 263 B563_263 := sq_take 3 (e := 268) (by decide +kernel) True.intro
theorem sq563_261 : sq 563 261 B563_261 := sq_take 3 (e := 263) (by decide +kernel) True.intro
theorem sq563_255 : sq 563 255 B563_255 := sq_take 4 (e := 261) (by decide +kernel) sq563_261
theorem sq563_238 : sq 563 238 B563_238 := sq_take 9 (e := 255) (by decide +kernel) sq563_255
theorem sq563_236 : sq 563 236 B563_236 := sq_take 3 (e := 238) (by decide +kernel) True.intro
theorem sq563_228 : sq 563 228 B563_228 := sq_take 5 (e := 236) (by decide +kernel) sq563_236
theorem sq563_211 : sq 563 211 B563_211 := sq_take 10 (e := 228) (by decide +kernel) sq563_228
theorem sq563_194 : sq 563 194 B563_194 := sq_take 9 (e := 211) (by decide +kernel) sq563_211
theorem sq563_193 : sq 563 193 B563_193 := sq_take 2 (e := 194) (by decide +kernel) True.intro
theorem sq563_178 : sq 563 178 B563_178 := sq_take 9 (e := 193) (by decide +kernel) sq563_193
theorem sq563_167 : sq 563 167 B563_167 := sq_take 6 (e := 178) (by decide +kernel) True.intro
theorem sq563_161 : sq 563 161 B563_161 := sq_take 4 (e := 167) (by decide +kernel) sq563_167
theorem sq563_144 : sq 563 144 B563_144 := sq_take 9 (e := 161) (by decide +kernel) sq563_161
theorem sq563_51 : sq 563 51 B563_51 := sq_take 4 (e := 144) (by decide +kernel) True.intro
theorem sq563_44 : sq 563 44 B563_44 := sq_take 5 (e := 51) (by decide +kernel) sq563_51
theorem sq563_32 : sq 563 32 B563_32 := sq_take 8 (e := 44) (by decide +kernel) sq563_44
theorem sq563_20 : sq 563 20 B563_20 := sq_take 8 (e := 32) (by decide +kernel) sq563_32
theorem sq563_9 : sq 563 9 B563_9 := sq_take 8 (e := 20) (by decide +kernel) sq563_20
theorem sq563_0 : sq 563 0 B563_0 := sq_take 6 (e := 9) (by decide +kernel) sq563_9
set_option maxRecDepth 100000 in
theorem sqM_563 : ∀ b, sq 563 b (tG 563 b) := show ∀ b, sq 563 b (lkB tb563 b) from lkB_sq (List.forall_mem_cons.mpr ⟨sq563_0, List.forall_mem_cons.mpr ⟨sq563_9, List.forall_mem_cons.mpr ⟨sq563_20, List.forall_mem_cons.mpr ⟨sq563_32, List.forall_mem_cons.mpr ⟨sq563_44, List.forall_mem_cons.mpr ⟨sq563_51, List.forall_mem_cons.mpr ⟨sq563_144, List.forall_mem_cons.mpr ⟨sq563_161, List.forall_mem_cons.mpr ⟨sq563_167, List.forall_mem_cons.mpr ⟨sq563_178, List.forall_mem_cons.mpr ⟨sq563_193, List.forall_mem_cons.mpr ⟨sq563_194, List.forall_mem_cons.mpr ⟨sq563_211, List.forall_mem_cons.mpr ⟨sq563_228, List.forall_mem_cons.mpr ⟨sq563_236, List.forall_mem_cons.mpr ⟨sq563_238, List.forall_mem_cons.mpr ⟨sq563_255, List.forall_mem_cons.mpr ⟨sq563_261, List.forall_mem_cons.mpr ⟨sq563_263, List.forall_mem_cons.mpr ⟨sq563_268, List.forall_mem_cons.mpr ⟨sq563_271, List.forall_mem_cons.mpr ⟨sq563_307, List.forall_mem_cons.mpr ⟨sq563_319, List.forall_mem_cons.mpr ⟨sq563_325, List.forall_mem_cons.mpr ⟨sq563_328, List.forall_mem_cons.mpr ⟨sq563_352, List.forall_mem_cons.mpr ⟨sq563_358, List.forall_mem_cons.mpr ⟨sq563_364, List.forall_mem_cons.mpr ⟨sq563_365, List.forall_mem_cons.mpr ⟨sq563_376, List.forall_mem_cons.mpr ⟨sq563_377, List.forall_mem_cons.mpr ⟨sq563_384, List.forall_mem_cons.mpr ⟨sq563_385, List.forall_mem_cons.mpr ⟨sq563_394, List.forall_mem_cons.mpr ⟨sq563_395, List.forall_mem_cons.mpr ⟨sq563_416, List.forall_mem_cons.mpr ⟨sq563_417, List.forall_mem_cons.mpr ⟨sq563_420, (fun _ h => absurd h List.not_mem_nil)⟩⟩⟩⟩⟩⟩⟩⟩⟩⟩⟩⟩⟩⟩⟩⟩⟩⟩⟩⟩⟩⟩⟩⟩⟩⟩⟩⟩⟩⟩⟩⟩⟩⟩⟩⟩⟩⟩)
theorem sq564_85 : sq 564 85 B564_85 := sq_take 8 (e := 95) (by decide +kernel) True.intro
theorem sq564_81 : sq 564 81 B564_81 := sq_take 3 (e := 85) (by decide +kernel) sq564_85
theorem sq564_60 : sq 564 60 B564_60 := sq_take 12 (e := 81) (by decide +kernel) sq564_81
theorem sq564_56 : sq 564 56 B564_56 := sq_take 2 (e := 60) (by decide +kernel) True.intro
theorem sq564_30 : sq 564 30 B564_30 := sq_take 13 (e := 56) (by decide +kernel) sq564_56
theorem sq564_29 : sq 564 29 B564_29 := sq_take 1 (e := 30) (by decide +kernel) sq564_30
theorem sq564_11 : sq 564 11 B564_11 := sq_take 12 (e := 29) (by decide +kernel) True.intro
theorem sq564_0 : sq 564 0 B564_0 := sq_take 8 (e := 11) (by decide +kernel) sq564_11
set_option maxRecDepth 100000 in
theorem sqM_564 : ∀ b, sq 564 b (tG 564 b) := show ∀ b, sq 564 b (lkB tb564 b) from lkB_sq (List.forall_mem_cons.mpr ⟨sq564_0, List.forall_mem_cons.mpr ⟨sq564_11, List.forall_mem_cons.mpr ⟨sq564_29, List.forall_mem_cons.mpr ⟨sq564_30, List.forall_mem_cons.mpr ⟨sq564_56, List.forall_mem_cons.mpr ⟨sq564_60, List.forall_mem_cons.mpr ⟨sq564_81, List.forall_mem_cons.mpr ⟨sq564_85, (fun _ h => absurd h List.not_mem_nil)⟩⟩⟩⟩⟩⟩⟩⟩)
theorem sq565_91 : sq 565 91 B565_91 := sq_take 1 (e := 92) (by decide +kernel) True.intro
theorem sq565_88 : sq 565 88 B565_88 := sq_take 1 (e := 91) (by decide +kernel) sq565_91
theorem sq565_79 : sq 565 79 B565_79 := sq_take 4 (e := 88) (by decide +kernel) True.intro
theorem sq565_73 : sq 565 73 B565_73 := sq_take 3 (e := 79) (by decide +kernel) True.intro
theorem sq565_70 : sq 565 70 B565_70 := sq_take 2 (e := 73) (by decide +kernel) sq565_73
theorem sq565_69 : sq 565 69 B565_69 := sq_take 1 (e := 70) (by decide +kernel) sq565_70
theorem sq565_38 : sq 565 38 B565_38 := sq_take 19 (e := 69) (by decide +kernel) True.intro
theorem sq565_33 : sq 565 33 B565_33 := sq_take 4 (e := 38) (by decide +kernel) sq565_38
theorem sq565_32 : sq 565 32 B565_32 := sq_take 2 (e := 33) (by decide +kernel) sq565_33
theorem sq565_11 : sq 565 11 B565_11 := sq_take 13 (e := 32) (by decide +kernel) True.intro
theorem sq565_0 : sq 565 0 B565_0 := sq_take 8 (e := 11) (by decide +kernel) sq565_11
set_option maxRecDepth 100000 in
theorem sqM_565 : ∀ b, sq 565 b (tG 565 b) := show ∀ b, sq 565 b (lkB tb565 b) from lkB_sq (List.forall_mem_cons.mpr ⟨sq565_0, List.forall_mem_cons.mpr ⟨sq565_11, List.forall_mem_cons.mpr ⟨sq565_32, List.forall_mem_cons.mpr ⟨sq565_33, List.forall_mem_cons.mpr ⟨sq565_38, List.forall_mem_cons.mpr ⟨sq565_69, List.forall_mem_cons.mpr ⟨sq565_70, List.forall_mem_cons.mpr ⟨sq565_73, List.forall_mem_cons.mpr ⟨sq565_79, List.forall_mem_cons.mpr ⟨sq565_88, List.forall_mem_cons.mpr ⟨sq565_91, (fun _ h => absurd h List.not_mem_nil)⟩⟩⟩⟩⟩⟩⟩⟩⟩⟩⟩)
theorem sq566_110 : sq 566 110 B566_110 := sq_take 5 (e := 117) (by decide +kernel) True.intro
theorem sq566_103 : sq 566 103 B566_103 := sq_take 4 (e := 110) (by decide +kernel) True.intro
theorem sq566_102 : sq 566 102 B566_102 := sq_take 1 (e := 103) (by decide +kernel) sq566_103
theorem sq566_76 : sq 566 76 B566_76 := sq_take 17 (e := 102) (by decide +kernel) True.intro
theorem sq566_72 : sq 566 72 B566_72 := sq_take 4 (e := 76) (by decide +kernel) sq566_76
theorem sq566_69 : sq 566 69 B566_69 := sq_take 1 (e := 72) (by decide +kernel) True.intro
theorem sq566_44 : sq 566 44 B566_44 := sq_take 16 (e := 69) (by decide +kernel) True.intro
theorem sq566_31 : sq 566 31 B566_31 := sq_take 10 (e := 44) (by decide +kernel) sq566_44
theorem sq566_27 : sq 566 27 B566_27 := sq_take 2 (e := 31) (by decide +kernel) True.intro
theorem sq566_0 : sq 566 0 B566_0 := sq_take 16 (e := 27) (by decide +kernel) sq566_27
set_option maxRecDepth 100000 in
theorem sqM_566 : ∀ b, sq 566 b (tG 566 b) := show ∀ b, sq 566 b (lkB tb566 b) from lkB_sq (List.forall_mem_cons.mpr ⟨sq566_0, List.forall_mem_cons.mpr ⟨sq566_27, List.forall_mem_cons.mpr ⟨sq566_31, List.forall_mem_cons.mpr ⟨sq566_44, List.forall_mem_cons.mpr ⟨sq566_69, List.forall_mem_cons.mpr ⟨sq566_72, List.forall_mem_cons.mpr ⟨sq566_76, List.forall_mem_cons.mpr ⟨sq566_102, List.forall_mem_cons.mpr ⟨sq566_103, List.forall_mem_cons.mpr ⟨sq566_110, (fun _ h => absurd h List.not_mem_nil)⟩⟩⟩⟩⟩⟩⟩⟩⟩⟩)
theorem sq567_154 : sq 567 154 B567_154 := sq_take 2 (e := 155) (by decide +kernel) True.intro
theorem sq567_144 : sq 567 144 B567_144 := sq_take 5 (e := 154) (by decide +kernel) sq567_154
theorem sq567_117 : sq 567 117 B567_117 := sq_take 15 (e := 144) (by decide +kernel) True.intro
theorem sq567_114 : sq 567 114 B567_114 := sq_take 3 (e := 117) (by decide +kernel) sq567_117
theorem sq567_90 : sq 567 90 B567_90 := sq_take 15 (e := 114) (by decide +kernel) sq567_114
theorem sq567_88 : sq 567 88 B567_88 := sq_take 2 (e := 90) (by decide +kernel) True.intro
theorem sq567_73 : sq 567 73 B567_73 := sq_take 8 (e := 88) (by decide +kernel) sq567_88
theorem sq567_65 : sq 567 65 B567_65 := sq_take 4 (e := 73) (by decide +kernel) True.intro
theorem sq567_63 : sq 567 63 B567_63 := sq_take 1 (e := 65) (by decide +kernel) sq567_65
theorem sq567_46 : sq 567 46 B567_46 := sq_take 10 (e := 63) (by decide +kernel) True.intro
theorem sq567_45 : sq 567 45 B567_45 := sq_take 2 (e := 46) (by decide +kernel) sq567_46
theorem sq567_14 : sq 567 14 B567_14 := sq_take 17 (e := 45) (by decide +kernel) True.intro
theorem sq567_0 : sq 567 0 B567_0 := sq_take 10 (e := 14) (by decide +kernel) sq567_14
set_option maxRecDepth 100000 in
theorem sqM_567 : ∀ b, sq 567 b (tG 567 b) := show ∀ b, sq 567 b (lkB tb567 b) from lkB_sq (List.forall_mem_cons.mpr ⟨sq567_0, List.forall_mem_cons.mpr ⟨sq567_14, List.forall_mem_cons.mpr ⟨sq567_45, List.forall_mem_cons.mpr ⟨sq567_46, List.forall_mem_cons.mpr ⟨sq567_63, List.forall_mem_cons.mpr ⟨sq567_65, List.forall_mem_cons.mpr ⟨sq567_73, List.forall_mem_cons.mpr ⟨sq567_88, List.forall_mem_cons.mpr ⟨sq567_90, List.forall_mem_cons.mpr ⟨sq567_114, List.forall_mem_cons.mpr ⟨sq567_117, List.forall_mem_cons.mpr ⟨sq567_144, List.forall_mem_cons.mpr ⟨sq567_154, (fun _ h => absurd h List.not_mem_nil)⟩⟩⟩⟩⟩⟩⟩⟩⟩⟩⟩⟩⟩)
theorem sq568_96 : sq 568 96 B568_96 := sq_take 9 (e := 107) (by decide +kernel) True.intro
theorem sq568_48 : sq 568 48 B568_48 := sq_take 29 (e := 96) (by decide +kernel) True.intro
theorem sq568_12 : sq 568 12 B568_12 := sq_take 24 (e := 48) (by decide +kernel) sq568_48
theorem sq568_0 : sq 568 0 B568_0 := sq_take 9 (e := 12) (by decide +kernel) True.intro
set_option maxRecDepth 100000 in
theorem sqM_568 : ∀ b, sq 568 b (tG 568 b) := show ∀ b, sq 568 b (lkB tb568 b) from lkB_sq (List.forall_mem_cons.mpr ⟨sq568_0, List.forall_mem_cons.mpr ⟨sq568_12, List.forall_mem_cons.mpr ⟨sq568_48, List.forall_mem_cons.mpr ⟨sq568_96, (fun _ h => absurd h List.not_mem_nil)⟩⟩⟩⟩)
theorem sq569_0 : sq 569 0 B569_0 := sq_take 50 (e := 61) (by decide +kernel) True.intro
set_option maxRecDepth 100000 in
theorem sqM_569 : ∀ b, sq 569 b (tG 569 b) := show ∀ b, sq 569 b (lkB tb569 b) from lkB_sq (List.forall_mem_cons.mpr ⟨sq569_0, (fun _ h => absurd h List.not_mem_nil)⟩)
theorem sq570_10 : sq 570 10 B570_10 := sq_take 1 (e := 11) (by decide +kernel) True.intro
theorem sq570_9 : sq 570 9 B570_9 := sq_take 1 (e := 10) (by decide +kernel) sq570_10
theorem sq570_0 : sq 570 0 B570_0 := sq_take 6 (e := 9) (by decide +kernel) True.intro
set_option maxRecDepth 100000 in
theorem sqM_570 : ∀ b, sq 570 b (tG 570 b) := show ∀ b, sq 570 b (lkB tb570 b) from lkB_sq (List.forall_mem_cons.mpr ⟨sq570_0, List.forall_mem_cons.mpr ⟨sq570_9, List.forall_mem_cons.mpr ⟨sq570_10, (fun _ h => absurd h List.not_mem_nil)⟩⟩⟩)
theorem sq571_11 : sq 571 11 B571_11 := sq_take 1 (e := 12) (by decide +kernel) True.intro
theorem sq571_10 : sq 571 10 B571_10 := sq_take 1 (e := 11) (by decide +kernel) sq571_11
theorem sq571_0 : sq 571 0 B571_0 := sq_take 7 (e := 10) (by decide +kernel) True.intro
set_option maxRecDepth 100000 in
theorem sqM_571 : ∀ b, sq 571 b (tG 571 b) := show ∀ b, sq 571 b (lkB tb571 b) from lkB_sq (List.forall_mem_cons.mpr ⟨sq571_0, List.forall_mem_cons.mpr ⟨sq571_10, List.forall_mem_cons.mpr ⟨sq571_11, (fun _ h => absurd h List.not_mem_nil)⟩⟩⟩)
theorem sq572_11 : sq 572 11 B572_11 := sq_take 1 (e := 12) (by decide +kernel) True.intro
theorem sq572_10 : sq 572 10 B572_10 := sq_take 1 (e := 11) (by decide +kernel) sq572_11
theorem sq572_0 : sq 572 0 B572_0 := sq_take 7 (e := 10) (by decide +kernel) True.intro
set_option maxRecDepth 100000 in
theorem sqM_572 : ∀ b, sq 572 b (tG 572 b) := show ∀ b, sq 572 b (lkB tb572 b) from lkB_sq (List.forall_mem_cons.mpr ⟨sq572_0, List.forall_mem_cons.mpr ⟨sq572_10, List.forall_mem_cons.mpr ⟨sq572_11, (fun _ h => absurd h List.not_mem_nil)⟩⟩⟩)
theorem sq573_9 : sq 573 9 B573_9 := sq_take 3 (e := 11) (by decide +kernel) True.intro
theorem sq573_0 : sq 573 0 B573_0 := sq_take 6 (e := 9) (by decide +kernel) sq573_9
set_option maxRecDepth 100000 in
theorem sqM_573 : ∀ b, sq 573 b (tG 573 b) := show ∀ b, sq 573 b (lkB tb573 b) from lkB_sq (List.forall_mem_cons.mpr ⟨sq573_0, List.forall_mem_cons.mpr ⟨sq573_9, (fun _ h => absurd h List.not_mem_nil)⟩⟩)
theorem sq574_16 : sq 574 16 B574_16 := sq_take 4 (e := 24) (by decide +kernel) True.intro
theorem sq574_15 : sq 574 15 B574_15 := sq_take 2 (e := 16) (by decide +kernel) True.intro
theorem sq574_4 : sq 574 4 B574_4 := sq_take 6 (e := 15) (by decide +kernel) sq574_15
theorem sq574_0 : sq 574 0 B574_0 := sq_take 3 (e := 4) (by decide +kernel) sq574_4
set_option maxRecDepth 100000 in
theorem sqM_574 : ∀ b, sq 574 b (tG 574 b) := show ∀ b, sq 574 b (lkB tb574 b) from lkB_sq (List.forall_mem_cons.mpr ⟨sq574_0, List.forall_mem_cons.mpr ⟨sq574_4, List.forall_mem_cons.mpr ⟨sq574_15, List.forall_mem_cons.mpr ⟨sq574_16, (fun _ h => absurd h List.not_mem_nil)⟩⟩⟩⟩)
theorem sq575_14 : sq 575 14 B575_14 := sq_take 1 (e := 15) (by decide +kernel) True.intro
theorem sq575_13 : sq 575 13 B575_13 := sq_take 1 (e := 14) (by decide +kernel) sq575_14
theorem sq575_0 : sq 575 0 B575_0 := sq_take 6 (e := 13) (by decide +kernel) True.intro
set_option maxRecDepth 100000 in
theorem sqM_575 : ∀ b, sq 575 b (tG 575 b) := show ∀ b, sq 575 b (lkB tb575 b) from lkB_sq (List.forall_mem_cons.mpr ⟨sq575_0, List.forall_mem_cons.mpr ⟨sq575_13, List.forall_mem_cons.mpr ⟨sq575_14, (fun _ h => absurd h List.not_mem_nil)⟩⟩⟩)
theorem sq576_18 : sq 576 18 B576_18 := sq_take 1 (e := 19) (by decide +kernel) True.intro
theorem sq576_17 : sq 576 17 B576_17 := sq_take 2 (e := 18) (by decide +kernel) sq576_18
theorem sq576_0 : sq 576 0 B576_0 := sq_take 8 (e := 17) (by decide +kernel) True.intro
set_option maxRecDepth 100000 in
theorem sqM_576 : ∀ b, sq 576 b (tG 576 b) := show ∀ b, sq 576 b (lkB tb576 b) from lkB_sq (List.forall_mem_cons.mpr ⟨sq576_0, List.forall_mem_cons.mpr ⟨sq576_17, List.forall_mem_cons.mpr ⟨sq576_18, (fun _ h => absurd h List.not_mem_nil)⟩⟩⟩)
theorem sq577_0 : sq 577 0 B577_0 := sq_take 12 (e := 15) (by decide +kernel) True.intro
set_option maxRecDepth 100000 in
theorem sqM_577 : ∀ b, sq 577 b (tG 577 b) := show ∀ b, sq 577 b (lkB tb577 b) from lkB_sq (List.forall_mem_cons.mpr ⟨sq577_0, (fun _ h => absurd h List.not_mem_nil)⟩)
theorem sq578_73 : sq 578 73 B578_73 := sq_take 1 (e := 74) (by decide +kernel) True.intro
theorem sq578_59 : sq 578 59 B578_59 := sq_take 4 (e := 67) (by decide +kernel) True.intro
theorem sq578_46 : sq 578 46 B578_46 := sq_take 3 (e := 53) (by decide +kernel) True.intro
theorem sq578_0 : sq 578 0 B578_0 := sq_take 5 (e := 8) (by decide +kernel) True.intro
set_option maxRecDepth 100000 in
theorem sqM_578 : ∀ b, sq 578 b (tG 578 b) := show ∀ b, sq 578 b (lkB tb578 b) from lkB_sq (List.forall_mem_cons.mpr ⟨sq578_0, List.forall_mem_cons.mpr ⟨sq578_46, List.forall_mem_cons.mpr ⟨sq578_59, List.forall_mem_cons.mpr ⟨sq578_73, (fun _ h => absurd h List.not_mem_nil)⟩⟩⟩⟩)
theorem sq579_22 : sq 579 22 B579_22 := sq_take 1 (e := 23) (by decide +kernel) True.intro
theorem sq579_6 : sq 579 6 B579_6 := sq_take 10 (e := 22) (by decide +kernel) True.intro
theorem sq579_0 : sq 579 0 B579_0 := sq_take 6 (e := 6) (by decide +kernel) sq579_6
set_option maxRecDepth 100000 in
theorem sqM_579 : ∀ b, sq 579 b (tG 579 b) := show ∀ b, sq 579 b (lkB tb579 b) from lkB_sq (List.forall_mem_cons.mpr ⟨sq579_0, List.forall_mem_cons.mpr ⟨sq579_6, List.forall_mem_cons.mpr ⟨sq579_22, (fun _ h => absurd h List.not_mem_nil)⟩⟩⟩)
theorem sq580_27 : sq 580 27 B580_27 := sq_take 1 (e := 28) (by decide +kernel) True.intro
theorem sq580_10 : sq 580 10 B580_10 := sq_take 10 (e := 27) (by decide +kernel) True.intro
theorem sq580_7 : sq 580 7 B580_7 := sq_take 3 (e := 10) (by decide +kernel) sq580_10
theorem sq580_0 : sq 580 0 B580_0 := sq_take 6 (e := 7) (by decide +kernel) sq580_7
set_option maxRecDepth 100000 in
theorem sqM_580 : ∀ b, sq 580 b (tG 580 b) := show ∀ b, sq 580 b (lkB tb580 b) from lkB_sq (List.forall_mem_cons.mpr ⟨sq580_0, List.forall_mem_cons.mpr ⟨sq580_7, List.forall_mem_cons.mpr ⟨sq580_10, List.forall_mem_cons.mpr ⟨sq580_27, (fun _ h => absurd h List.not_mem_nil)⟩⟩⟩⟩)
theorem sq581_20 : sq 581 20 B581_20 := sq_take 1 (e := 21) (by decide +kernel) True.intro
theorem sq581_5 : sq 581 5 B581_5 := sq_take 10 (e := 20) (by decide +kernel) True.intro
theorem sq581_0 : sq 581 0 B581_0 := sq_take 6 (e := 5) (by decide +kernel) sq581_5
set_option maxRecDepth 100000 in
theorem sqM_581 : ∀ b, sq 581 b (tG 581 b) := show ∀ b, sq 581 b (lkB tb581 b) from lkB_sq (List.forall_mem_cons.mpr ⟨sq581_0, List.forall_mem_cons.mpr ⟨sq581_5, List.forall_mem_cons.mpr ⟨sq581_20, (fun _ h => absurd h List.not_mem_nil)⟩⟩⟩)
