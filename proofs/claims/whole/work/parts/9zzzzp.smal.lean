/-! ===== small methods, on both sides ===== -/
section SMAL
variable {σ τ ρ : MS} {n j k s X N i : Nat} {x y z : Int} {w : B64}
theorem T300 : MM 300 [mR (some 0)] σ = some (some (mI (gI σ 2 1)), σ) := by rw [M300, e300_0]
theorem T349 : MM 349 [mR (some 80)] σ = some (some (mI (gI σ 80 3)), σ) := by rw [M349, e349_0]
theorem T315 : MM 315 [mR (some 0)] σ = some (some (mI (gI σ 71 10)), σ) := by rw [M315, e315_0]
theorem T538 : MM 538 [mR (some 80)] σ = some (some (mI (gI σ 80 105)), σ) := by rw [M538, e538_0]
theorem T318 : MM 318 [mR (some 0)] σ = some (some (mI (gI σ 71 11)), σ) := by rw [M318, e318_0]
theorem T541 : MM 541 [mR (some 80)] σ = some (some (mI (gI σ 80 106)), σ) := by rw [M541, e541_0]
theorem T322 : MM 322 [mR (some 0)] σ = some (some (mI (gI σ 71 15)), σ) := by rw [M322, e322_0]
theorem T544 : MM 544 [mR (some 80)] σ = some (some (mI (gI σ 80 110)), σ) := by rw [M544, e544_0]
theorem T324 : MM 324 [mR (some 0)] σ = some (some (mI (gI σ 71 18)), σ) := by rw [M324, e324_0]
theorem T546 : MM 546 [mR (some 80)] σ = some (some (mI (gI σ 80 113)), σ) := by rw [M546, e546_0]
theorem T321 : MM 321 [mR (some 0)] σ = some (some (mL (gL σ 71 14)), σ) := by rw [M321, e321_0]
theorem T543 : MM 543 [mR (some 80)] σ = some (some (mL (gL σ 80 109)), σ) := by rw [M543, e543_0]
theorem T323 : MM 323 [mR (some 0)] σ = some (some (mL (gL σ 71 16)), σ) := by rw [M323, e323_0]
theorem T545 : MM 545 [mR (some 80)] σ = some (some (mL (gL σ 80 111)), σ) := by rw [M545, e545_0]
theorem T326 : MM 326 [mR (some 0)] σ = some (some (mI (gI σ 71 18)), sI σ 71 18 0) := by rw [M326, e326_0]
theorem T548 : MM 548 [mR (some 80)] σ = some (some (mI (gI σ 80 113)), sI σ 80 113 0) := by rw [M548, e548_0]
theorem T317 : MM 317 [mR (some 0), mI x, mI y] σ = some (none, sI (sI σ 71 11 x) 71 12 y) := by rw [M317, e317_0]
theorem T540 : MM 540 [mR (some 80), mI x, mI y] σ = some (none, sI (sI σ 80 106 x) 80 107 y) := by rw [M540, e540_0]
theorem T319 : MM 319 [mR (some 0), mL w] σ = some (none, sL σ 71 13 w) := by rw [M319, e319_0]
theorem T542 : MM 542 [mR (some 80), mL w] σ = some (none, sL σ 80 108 w) := by rw [M542, e542_0]
theorem T301 (h : gI σ 2 1 ≤ 8192) : MM 301 [mR (some 0), mI x] σ = some (some (mI (if 0 ≤ x ∧ x < gI σ 2 1 then iAnd (gI σ 3 x.toNat) 255 else -1)), σ) := by
  rw [M301, e301_0]
  by_cases c : x < 0
  · rw [if_pos c, if_neg (show ¬ (0 ≤ x ∧ x < gI σ 2 1) by omega), e301_15]
  · rw [if_neg c]
    by_cases d : x < gI σ 2 1
    · rw [if_pos d, if_pos (by rw [g_3]; omega), if_pos (show 0 ≤ x ∧ x < gI σ 2 1 by omega)]
    · rw [if_neg d, if_neg (show ¬ (0 ≤ x ∧ x < gI σ 2 1) by omega), e301_15]
theorem T350 (h : gI σ 80 3 ≤ 24000) : MM 350 [mR (some 80), mI x] σ = some (some (mI (if 0 ≤ x ∧ x < gI σ 80 3 then iAnd (gI σ 82 x.toNat) 255 else -1)), σ) := by
  rw [M350, e350_0]
  by_cases c : x < 0
  · rw [if_pos c, if_neg (show ¬ (0 ≤ x ∧ x < gI σ 80 3) by omega), e350_25]
  · rw [if_neg c]
    by_cases d : x < gI σ 80 3
    · rw [if_neg (show ¬ gI σ 80 3 ≤ x by omega), if_pos (by rw [g_82]; omega), if_pos (show 0 ≤ x ∧ x < gI σ 80 3 by omega)]
    · rw [if_pos (show gI σ 80 3 ≤ x by omega), if_neg (show ¬ (0 ≤ x ∧ x < gI σ 80 3) by omega), e350_25]
theorem T316 (h : gI σ 71 10 ≤ 256) : MM 316 [mR (some 0), mI x] σ = some (some (mI (if 0 ≤ x ∧ x < gI σ 71 10 then iAnd (gI σ 27 x.toNat) 255 else -1)), σ) := by
  rw [M316, e316_0]
  by_cases c : x < 0
  · rw [if_pos c, if_neg (show ¬ (0 ≤ x ∧ x < gI σ 71 10) by omega), e316_15]
  · rw [if_neg c]
    by_cases d : x < gI σ 71 10
    · rw [if_pos d, w32_i (x := 0 + x) (by omega) (by omega), Int.zero_add, if_pos (by rw [g_27]; omega), if_pos (show 0 ≤ x ∧ x < gI σ 71 10 by omega)]
    · rw [if_neg d, if_neg (show ¬ (0 ≤ x ∧ x < gI σ 71 10) by omega), e316_15]
theorem T539 (h : gI σ 80 105 ≤ 256) : MM 539 [mR (some 80), mI x] σ = some (some (mI (if 0 ≤ x ∧ x < gI σ 80 105 then iAnd (gI σ 144 x.toNat) 255 else -1)), σ) := by
  rw [M539, e539_0]
  by_cases c : x < 0
  · rw [if_pos c, if_neg (show ¬ (0 ≤ x ∧ x < gI σ 80 105) by omega), e539_25]
  · rw [if_neg c]
    by_cases d : x < gI σ 80 105
    · rw [if_neg (show ¬ gI σ 80 105 ≤ x by omega), if_pos (by rw [g_144]; omega), if_pos (show 0 ≤ x ∧ x < gI σ 80 105 by omega)]
    · rw [if_pos (show gI σ 80 105 ≤ x by omega), if_neg (show ¬ (0 ≤ x ∧ x < gI σ 80 105) by omega), e539_25]
theorem T325 (h : gI σ 71 18 ≤ 2000) : MM 325 [mR (some 0), mI x] σ = some (some (mI (if 0 ≤ x ∧ x < gI σ 71 18 then iAnd (gI σ 79 x.toNat) 255 else -1)), σ) := by
  rw [M325, e325_0]
  by_cases c : x < 0
  · rw [if_pos c, if_neg (show ¬ (0 ≤ x ∧ x < gI σ 71 18) by omega), e325_15]
  · rw [if_neg c]
    by_cases d : x < gI σ 71 18
    · rw [if_pos d, if_pos (by rw [g_79]; omega), if_pos (show 0 ≤ x ∧ x < gI σ 71 18 by omega)]
    · rw [if_neg d, if_neg (show ¬ (0 ≤ x ∧ x < gI σ 71 18) by omega), e325_15]
theorem T547 (h : gI σ 80 113 ≤ 2000) : MM 547 [mR (some 80), mI x] σ = some (some (mI (if 0 ≤ x ∧ x < gI σ 80 113 then iAnd (gI σ 145 x.toNat) 255 else -1)), σ) := by
  rw [M547, e547_0]
  by_cases c : x < 0
  · rw [if_pos c, if_neg (show ¬ (0 ≤ x ∧ x < gI σ 80 113) by omega), e547_25]
  · rw [if_neg c]
    by_cases d : x < gI σ 80 113
    · rw [if_neg (show ¬ gI σ 80 113 ≤ x by omega), if_pos (by rw [g_145]; omega), if_pos (show 0 ≤ x ∧ x < gI σ 80 113 by omega)]
    · rw [if_pos (show gI σ 80 113 ≤ x by omega), if_neg (show ¬ (0 ≤ x ∧ x < gI σ 80 113) by omega), e547_25]
theorem T303 (hX : X < 8) : MM 303 [mR (some 0), mI (X : Int)] σ = some (some (mI (if gI σ 16 X = 0 then 0 else 1)), σ) := by
  rw [M303, e303_0, T205 hX]
  simp only [Option.bind_some, Option.toList_some, Option.toList_none, List.cons_append, List.nil_append]
  rw [e303_4, if_neg n10, if_pos (by rw [g_16]; omega), Int.toNat_natCast, e303_23]
  by_cases c : gI σ 16 X = 0
  · rw [if_pos c, if_pos c]
  · rw [if_neg c, if_neg c]
theorem T303n (h : x < 0 ∨ 8 ≤ x) : MM 303 [mR (some 0), mI x] σ = some (some (mI 0), σ) := by
  rw [M303, e303_0, T205n h]
  simp only [Option.bind_some, Option.toList_some, Option.toList_none, List.cons_append, List.nil_append]
  rw [e303_4, if_pos rfl, e303_23]
theorem T471 (hX : X < 8) : MM 471 [mR (some 80), mI (X : Int)] σ = some (some (mI (if gI σ 85 X = 0 then 0 else 1)), σ) := by
  rw [M471, e471_0, T331 hX]
  simp only [Option.bind_some, Option.toList_some, Option.toList_none, List.cons_append, List.nil_append]
  rw [e471_4, if_neg n10, if_pos (by rw [g_85]; omega), Int.toNat_natCast, e471_20]
  by_cases c : gI σ 85 X = 0
  · rw [if_pos c, if_pos c]
  · rw [if_neg c, if_neg c]
theorem T471n (h : x < 0 ∨ 8 ≤ x) : MM 471 [mR (some 80), mI x] σ = some (some (mI 0), σ) := by
  rw [M471, e471_0, T331n h]
  simp only [Option.bind_some, Option.toList_some, Option.toList_none, List.cons_append, List.nil_append]
  rw [e471_4, if_pos rfl, e471_20]
/-- told -/
theorem T304 : MM 304 [mR (some 0), mI x] σ = some (some (mI (if 0 ≤ x ∧ x ≤ 5 then gI σ 51 x.toNat else -1)), σ) := by
  rw [M304, e304_0]
  by_cases c : x < 0
  · rw [if_pos c, if_neg (show ¬ (0 ≤ x ∧ x ≤ 5) by omega), e304_9]
  · rw [if_neg c]
    by_cases d : x ≤ 5
    · rw [if_pos d, if_pos (by rw [g_51]; omega), if_pos (show 0 ≤ x ∧ x ≤ 5 by omega)]
    · rw [if_neg d, if_neg (show ¬ (0 ≤ x ∧ x ≤ 5) by omega), e304_9]
theorem T472 : MM 472 [mR (some 80), mI x] σ = some (some (mI (if 0 ≤ x ∧ x ≤ 5 then (if gI σ 80 95 = 0 then (if x = 0 then -1 else 0) else gI σ 138 x.toNat) else -1)), σ) := by
  rw [M472, e472_0]
  by_cases c : x < 0
  · rw [if_pos c, if_neg (show ¬ (0 ≤ x ∧ x ≤ 5) by omega), e472_9]
  · rw [if_neg c]
    by_cases d : x ≤ 5
    · rw [if_pos d, if_pos (show 0 ≤ x ∧ x ≤ 5 by omega)]
      by_cases f : gI σ 80 95 = 0
      · rw [if_neg (fun q => q f), if_pos f]
        by_cases g : x = 0
        · rw [if_neg (fun q => q g), if_pos g]
        · rw [if_pos g, if_neg g]
      · rw [if_pos f, if_neg f, if_pos (by rw [g_138]; omega)]
    · rw [if_neg d, if_neg (show ¬ (0 ≤ x ∧ x ≤ 5) by omega), e472_9]
/-- words, a word: the reference -/
theorem T347 (hX : X < 8) : MM 347 [mR (some 80), mI (X : Int)] σ = some (some (mI (gI σ 84 X)), σ) := by
  rw [M347, e347_0, T331 hX]
  simp only [Option.bind_some, Option.toList_some, Option.toList_none, List.cons_append, List.nil_append]
  rw [e347_4, if_neg n10, if_pos (by rw [g_84]; omega), Int.toNat_natCast]
theorem T347n (h : x < 0 ∨ 8 ≤ x) : MM 347 [mR (some 80), mI x] σ = some (some (mI 0), σ) := by
  rw [M347, e347_0, T331n h]
  simp only [Option.bind_some, Option.toList_some, Option.toList_none, List.cons_append, List.nil_append]
  rw [e347_4, if_pos rfl]
theorem T348 (hX : X < 8) (hc : gI σ 84 X ≤ 200) : MM 348 [mR (some 80), mI (X : Int), mI y] σ = some (some (mL (if 0 ≤ y ∧ y < gI σ 84 X then gL σ 83 (200 * X + y.toNat) else 0#64)), σ) := by
  rw [M348, e348_0, T331 hX]
  simp only [Option.bind_some, Option.toList_some, Option.toList_none, List.cons_append, List.nil_append]
  rw [e348_4, if_neg n10]
  by_cases c : y < 0
  · rw [if_pos c, if_neg (show ¬ (0 ≤ y ∧ y < gI σ 84 X) by omega), e348_36]
  · rw [if_neg c, if_pos (by rw [g_84]; omega), Int.toNat_natCast]
    by_cases d : gI σ 84 X ≤ y
    · rw [if_pos d, if_neg (show ¬ (0 ≤ y ∧ y < gI σ 84 X) by omega), e348_36]
    · have ew : w32 (w32 (200 * (X : Int)) + y) = ((200 * X + y.toNat : Nat) : Int) := by
        rw [w32_i (x := 200 * (X : Int)) (by omega) (by omega), w32_i (by omega) (by omega)]
        omega
      rw [if_neg d, ew, if_pos (by rw [g_83]; omega), if_pos (show 0 ≤ y ∧ y < gI σ 84 X by omega), Int.toNat_natCast]
theorem T348n (h : x < 0 ∨ 8 ≤ x) : MM 348 [mR (some 80), mI x, mI y] σ = some (some (mL 0#64), σ) := by
  rw [M348, e348_0, T331n h]
  simp only [Option.bind_some, Option.toList_some, Option.toList_none, List.cons_append, List.nil_append]
  rw [e348_4, if_pos rfl, e348_36]
theorem T298n (h : x < 0 ∨ 8 ≤ x) : MM 298 [mR (some 0), mI x, mI y] σ = some (some (mL 0#64), σ) := by
  rw [M298, e298_0]
  by_cases c : y < 0
  · rw [if_pos c]
  · rw [if_neg c, T297n h]
    simp only [Option.bind_some, Option.toList_some, Option.toList_none, List.cons_append, List.nil_append]
    rw [e298_10, if_neg (by omega)]
/-- packet -/
theorem T314 (h1 : gI σ 0 1 = (n : Int)) (hn : n ≤ 256) : MM 314 [mR (some 0)] σ = some (some (mI (n : Int)), sI (cpI (sI σ 0 1 0) 1 0 27 0 (n : Int)) 71 10 (n : Int)) := by
  have ac1 : ac (sI σ 0 1 0) 1 1 27 0 0 (n : Int) := by
    refine ⟨⟨by rw [kc_1], by rw [kc_27]⟩, ⟨by omega, by omega, by omega⟩, ?_, ?_⟩
    · rw [kc_1]
      show (0 : Int) + (n : Int) ≤ 4000
      omega
    · rw [kc_27]
      show (0 : Int) + (n : Int) ≤ 25364
      omega
  rw [M314, e314_0, T294]
  simp only [Option.bind_some, Option.toList_some, Option.toList_none, List.cons_append, List.nil_append]
  rw [e314_4, h1, if_pos (by omega), if_pos ⟨⟨rfl, rfl⟩, ac1⟩]
theorem T314n (h1 : gI σ 0 1 = (n : Int)) (hn : 256 < n) : MM 314 [mR (some 0)] σ = some (some (mI (-1)), sI σ 0 1 0) := by
  rw [M314, e314_0, T294]
  simp only [Option.bind_some, Option.toList_some, Option.toList_none, List.cons_append, List.nil_append]
  rw [e314_4, h1, if_neg (by omega)]
theorem L537 (hn : n ≤ 256) : ∀ (f j : Nat) (σ : MS), j + f = n → ∃ τ, RR (lkB tb537) (B537_16, [some (mR (some 80)), some (mI (n : Int)), some (mI (j : Int))], [], σ) = some (some (mI (n : Int)), τ) ∧ τ.2 = σ.2 ∧ ∀ k s, gI τ k s = if k = 80 ∧ s = 105 then (n : Int) else if k = 144 ∧ j ≤ s ∧ s < n then w8 (gI σ 81 s) else gI σ k s := by
  intro f
  induction f with
  | zero =>
    intro j σ hj
    have ej : j = n := by omega
    subst ej
    refine ⟨sI σ 80 105 (j : Int), by rw [e537_16, if_pos (Int.le_refl _)], rfl, fun k s => ?_⟩
    rw [gI_sI, if_neg (show ¬ (k = 144 ∧ j ≤ s ∧ s < j) by omega)]
  | succ f ih =>
    intro j σ hj
    have e1 : w32 ((j : Int) + 1) = ((j + 1 : Nat) : Int) := by
      rw [w32_i (by omega) (by omega)]
      omega
    rw [e537_16, if_neg (by omega), if_pos (by rw [g_81]; omega), if_pos (by rw [g_144]; omega), e1, Int.toNat_natCast]
    obtain ⟨τ, t1, t2, t3⟩ := ih (j + 1) (sI σ 144 j (w8 (gI σ 81 j))) (by omega)
    refine ⟨τ, t1, t2, fun k s => ?_⟩
    rw [t3]
    by_cases z : k = 80 ∧ s = 105
    · rw [if_pos z, if_pos z]
    · rw [if_neg z, if_neg z]
      by_cases z1 : k = 144 ∧ j + 1 ≤ s ∧ s < n
      · rw [if_pos z1, if_pos (by omega), gI_sI, if_neg (by omega)]
      · rw [if_neg z1, gI_sI]
        by_cases z2 : k = 144 ∧ s = j
        · rw [if_pos z2, if_pos (by omega), z2.2]
        · rw [if_neg z2, if_neg (by omega)]
theorem T537 (h1 : gI σ 80 1 = (n : Int)) (hn : n ≤ 256) : ∃ τ, MM 537 [mR (some 80)] σ = some (some (mI (n : Int)), τ) ∧ τ.2 = σ.2 ∧ ∀ k s, gI τ k s = if k = 80 ∧ s = 105 then (n : Int) else if k = 144 ∧ s < n then w8 (gI σ 81 s) else if k = 80 ∧ s = 1 then 0 else gI σ k s := by
  obtain ⟨τ, t1, t2, t3⟩ := L537 (n := n) hn n 0 (sI σ 80 1 0) (by omega)
  rw [M537, e537_0, T330]
  simp only [Option.bind_some, Option.toList_some, Option.toList_none, List.cons_append, List.nil_append]
  rw [e537_4, h1, if_pos (by omega)]
  refine ⟨τ, t1, t2, fun k s => ?_⟩
  rw [t3, gI_sI, if_neg (show ¬ (81 = 80 ∧ s = 1) by omega), gI_sI]
  by_cases z : k = 144 ∧ s < n
  · rw [if_pos z, if_pos (show k = 144 ∧ 0 ≤ s ∧ s < n by omega)]
  · rw [if_neg z, if_neg (show ¬ (k = 144 ∧ 0 ≤ s ∧ s < n) by omega)]
theorem T537n (h1 : gI σ 80 1 = (n : Int)) (hn : 256 < n) : MM 537 [mR (some 80)] σ = some (some (mI (-1)), sI σ 80 1 0) := by
  rw [M537, e537_0, T330]
  simp only [Option.bind_some, Option.toList_some, Option.toList_none, List.cons_append, List.nil_append]
  rw [e537_4, h1, if_neg (by omega)]
end SMAL
