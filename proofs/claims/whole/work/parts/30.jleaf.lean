/-! ===== the reference's judge: what its small methods do ===== -/
/-- the fault is told: the first one stays -/
def flt (σ : MS) (c : Int) : MS := sI σ 80 90 (fst (gI σ 80 90) c)
theorem flt_0 (σ : MS) : flt σ 0 = σ := by
  unfold flt fst
  split
  · rename_i e; rw [← e]; exact sI_eta _ _ _
  · exact sI_eta _ _ _
theorem ite_flt {c : Prop} {d : Decidable c} {σ : MS} {a b : Int} : (@ite MS c d (flt σ a) (flt σ b)) = flt σ (@ite _ c d a b) := by
  split <;> rfl
theorem flt_flt (σ : MS) (a b : Int) : flt (flt σ a) b = flt σ (fst a b) := by
  unfold flt fst
  rw [sI_same]
  simp only [gI_sI, and_self, if_true]
  by_cases h : gI σ 80 90 = 0
  · rw [if_pos h]
    by_cases ha : a = 0
    · rw [if_pos ha, if_pos h]
    · rw [if_neg ha, if_pos h]
  · rw [if_neg h, if_neg h, if_neg h]
theorem aV_flt {σ : MS} {c : Int} {i : Nat} : aV (flt σ c) i = aV σ i := aV_sI (by omega)
theorem T473 {c : Int} {σ : MS} : MM 473 [mR (some 80), mI c] σ = some (none, flt σ c) := by
  rw [M473]
  try simp only [e473_0, Option.getD_some, Option.bind_some, Option.toList_some, Option.toList_none, List.cons_append, List.nil_append, and_self, and_true, true_and, false_and, and_false, ite_self, not_true_eq_false, not_false_eq_true, reduceIte, Nat.reduceEqDiff, ab_I, ab_L, ab_R, ao_I, ao_L, ao_R, gL_sL, gI_sI, gR_sR, gI_sL, gI_sR, gL_sI, gL_sR, gR_sI, gR_sL]
  try simp only [mrgI, mrgL, mrg0, rtI, rtL, ite_self]
  unfold flt fst
  by_cases h : gI σ 80 90 = 0 <;> simp [h]
theorem T430 {x y : Int} {σ : MS} (hx : inB x) (hy : inB y) (hk : -128 ≤ vk (aV σ x.toNat) ∧ vk (aV σ x.toNat) < 128) : MM 430 [mR (some 80), mI x, mI y] σ = some (none, wrV σ y.toNat (aV σ x.toNat)) := by
  have hw : w8 (gI σ 118 x.toNat) = gI σ 118 x.toNat := w8_i hk.1 hk.2
  simp only [M430, e430_0, e430_36, e430_72, e430_108, Option.getD_some, Option.bind_some, Option.toList_some, Option.toList_none, List.cons_append, List.nil_append, and_self, and_true, true_and, false_and, and_false, ite_self, not_true_eq_false, not_false_eq_true, reduceIte, Nat.reduceEqDiff, ab_I, ab_L, ab_R, ao_I, ao_L, ao_R, gL_sL, gI_sI, gR_sR, gI_sL, gI_sR, gL_sI, gL_sR, gR_sI, gR_sL, g_112, g_113, g_114, g_115, g_116, g_117, g_118, g_119, g_120, g_121, g_122, hx.1, hx.2, hy.1, hy.2, hw]
  rfl
theorem T431 {x k w t : Int} {σ : MS} (hx : inB x) (hk : 0 ≤ k ∧ k ≤ 10) : MM 431 [mR (some 80), mI x, mI k, mI w, mI t] σ = some (none, wrV σ x.toNat (mkV k w t)) := by
  have hw : w8 k = k := w8_i (by omega) (by omega)
  simp only [M431, e431_0, e431_6, e431_29, Option.getD_some, Option.bind_some, Option.toList_some, Option.toList_none, List.cons_append, List.nil_append, and_self, and_true, true_and, false_and, and_false, ite_self, not_true_eq_false, not_false_eq_true, reduceIte, Nat.reduceEqDiff, ab_I, ab_L, ab_R, ao_I, ao_L, ao_R, gL_sL, gI_sI, gR_sR, gI_sL, gI_sR, gL_sI, gL_sR, gR_sI, gR_sL, g_118, g_120, g_121, T433 hx.1 hx.2, hx.1, hx.2, hw, ab_wrV, p118, p120, p121, aV_same, wrV_same]
  rfl
/-- where register r of the uppermost frame is -/
def plc (F : Int) (r : Int) : Nat := if r = 10 then 32663 else (26 * (F - 1) + r).toNat
/-- r10 is made anew -/
def mk10 (σ : MS) (r : Int) : MS := if r = 10 then wrV σ 32663 (mkV 3 (gI σ 123 0 - 1) 0) else σ
theorem T492 {r : Int} {σ : MS} (hr : 0 ≤ r ∧ r ≤ 10) (hF : 1 ≤ gI σ 123 0 ∧ gI σ 123 0 ≤ 4) : MM 492 [mR (some 80), mI r] σ = some (some (mI (plc (gI σ 123 0) r)), mk10 σ r) := by
  unfold plc mk10
  by_cases c : r = 10
  · subst c
    simp only [M492, e492_0, e492_23, Option.getD_some, Option.bind_some, Option.toList_some, Option.toList_none, List.cons_append, List.nil_append, and_self, and_true, true_and, false_and, and_false, ite_self, not_true_eq_false, not_false_eq_true, reduceIte, Nat.reduceEqDiff, ab_I, ab_L, ab_R, ao_I, ao_L, ao_R, gL_sL, gI_sI, gR_sR, gI_sL, gI_sR, gL_sI, gL_sR, gR_sI, gR_sL, g_123, Int.reduceLT, Int.reduceLE, show Int.toNat 0 = 0 from rfl, show Int.toNat 32663 = 32663 from rfl, T431 (σ := σ) (show inB 32663 by decide) (show (0 : Int) ≤ 3 ∧ (3 : Int) ≤ 10 by decide), w32_i (show -2147483648 ≤ gI σ 123 0 - 1 by omega) (show gI σ 123 0 - 1 < 2147483648 by omega)]
    rfl
  · simp only [M492, e492_0, e492_23, Option.getD_some, Option.bind_some, Option.toList_some, Option.toList_none, List.cons_append, List.nil_append, and_self, and_true, true_and, false_and, and_false, ite_self, not_true_eq_false, not_false_eq_true, reduceIte, Nat.reduceEqDiff, ab_I, ab_L, ab_R, ao_I, ao_L, ao_R, gL_sL, gI_sI, gR_sR, gI_sL, gI_sR, gL_sI, gL_sR, gR_sI, gR_sL, g_123, c, Int.reduceLT, Int.reduceLE, show Int.toNat 0 = 0 from rfl, w32_i (show -2147483648 ≤ gI σ 123 0 - 1 by omega) (show gI σ 123 0 - 1 < 2147483648 by omega), w32_i (show -2147483648 ≤ 26 * (gI σ 123 0 - 1) by omega) (show 26 * (gI σ 123 0 - 1) < 2147483648 by omega), w32_i (show -2147483648 ≤ 26 * (gI σ 123 0 - 1) + r by omega) (show 26 * (gI σ 123 0 - 1) + r < 2147483648 by omega)]
    simp only [Int.toNat_of_nonneg (show 0 ≤ 26 * (gI σ 123 0 - 1) + r by omega)]
theorem T493 {x : Int} {σ : MS} (hx : inB x) : MM 493 [mR (some 80), mI x] σ = some (some (mI (b2 (isMb (aV σ x.toNat)))), σ) := by
  rw [M493]
  try simp only [e493_0, Option.getD_some, Option.bind_some, Option.toList_some, Option.toList_none, List.cons_append, List.nil_append, and_self, and_true, true_and, false_and, and_false, ite_self, not_true_eq_false, not_false_eq_true, reduceIte, Nat.reduceEqDiff, ab_I, ab_L, ab_R, ao_I, ao_L, ao_R, gL_sL, gI_sI, gR_sR, gI_sL, gI_sR, gL_sI, gL_sR, gR_sI, gR_sL, g_118, hx.1, hx.2]
  try simp only [mrgI, mrgL, mrg0, rtI, rtL, ite_self]
  try simp only [e493_22, Option.getD_some, Option.bind_some, Option.toList_some, Option.toList_none, List.cons_append, List.nil_append, and_self, and_true, true_and, false_and, and_false, ite_self, not_true_eq_false, not_false_eq_true, reduceIte, Nat.reduceEqDiff, ab_I, ab_L, ab_R, ao_I, ao_L, ao_R, gL_sL, gI_sI, gR_sR, gI_sL, gI_sR, gL_sI, gL_sR, gR_sI, gR_sL, g_118, hx.1, hx.2]
  try simp only [mrgI, mrgL, mrg0, rtI, rtL, ite_self]
  unfold b2 isMb
  simp only [q118]
  by_cases c1 : vk (aV σ x.toNat) = 6 <;> by_cases c2 : vk (aV σ x.toNat) = 10 <;> simp [c1, c2]
theorem T494 {x : Int} {σ : MS} (hx : inB x) : MM 494 [mR (some 80), mI x] σ = some (none, flt σ (wntS (aV σ x.toNat))) := by
  unfold wntS
  simp only [← q118]
  by_cases c : gI σ 118 x.toNat = 0
  · simp only [M494, e494_0, e494_14, Option.getD_some, Option.bind_some, Option.toList_some, Option.toList_none, List.cons_append, List.nil_append, and_self, and_true, true_and, false_and, and_false, ite_self, not_true_eq_false, not_false_eq_true, reduceIte, Nat.reduceEqDiff, ab_I, ab_L, ab_R, ao_I, ao_L, ao_R, gL_sL, gI_sI, gR_sR, gI_sL, gI_sR, gL_sI, gL_sR, gR_sI, gR_sL, g_118, hx.1, hx.2, c, T473]
  · simp only [M494, e494_0, e494_14, Option.getD_some, Option.bind_some, Option.toList_some, Option.toList_none, List.cons_append, List.nil_append, and_self, and_true, true_and, false_and, and_false, ite_self, not_true_eq_false, not_false_eq_true, reduceIte, Nat.reduceEqDiff, ab_I, ab_L, ab_R, ao_I, ao_L, ao_R, gL_sL, gI_sI, gR_sR, gI_sL, gI_sR, gL_sI, gL_sR, gR_sI, gR_sL, g_118, hx.1, hx.2, c, T473]
    simp [flt_0, c]
theorem T497 {x y : Int} {σ : MS} (hx : inB x) (hy : inB y) : MM 497 [mR (some 80), mI x, mI y] σ = some (none, flt σ (wntN (aV σ x.toNat) (aV σ y.toNat))) := by
  unfold wntN
  by_cases c1 : isMb (aV σ x.toNat)
  · simp only [M497, e497_0, e497_5, e497_13, e497_16, e497_22, e497_45, e497_50, Option.getD_some, Option.bind_some, Option.toList_some, Option.toList_none, List.cons_append, List.nil_append, and_self, and_true, true_and, false_and, and_false, ite_self, not_true_eq_false, not_false_eq_true, reduceIte, Nat.reduceEqDiff, ab_I, ab_L, ab_R, ao_I, ao_L, ao_R, gL_sL, gI_sI, gR_sR, gI_sL, gI_sR, gL_sI, gL_sR, gR_sI, gR_sL, g_118, hx.1, hx.2, hy.1, hy.2, T493 hx, T493 hy, b2_0', b2_n', c1, T473]
    simp [c1]
  · by_cases c2 : isMb (aV σ y.toNat)
    · simp only [M497, e497_0, e497_5, e497_13, e497_16, e497_22, e497_45, e497_50, Option.getD_some, Option.bind_some, Option.toList_some, Option.toList_none, List.cons_append, List.nil_append, and_self, and_true, true_and, false_and, and_false, ite_self, not_true_eq_false, not_false_eq_true, reduceIte, Nat.reduceEqDiff, ab_I, ab_L, ab_R, ao_I, ao_L, ao_R, gL_sL, gI_sI, gR_sR, gI_sL, gI_sR, gL_sI, gL_sR, gR_sI, gR_sL, g_118, hx.1, hx.2, hy.1, hy.2, T493 hx, T493 hy, b2_0', b2_n', c1, c2, T473]
      simp [c1, c2]
    · simp only [← q118]
      by_cases c3 : gI σ 118 x.toNat = 1 <;> by_cases c4 : gI σ 118 y.toNat = 1
      all_goals (simp only [M497, e497_0, e497_5, e497_13, e497_16, e497_22, e497_45, e497_50, Option.getD_some, Option.bind_some, Option.toList_some, Option.toList_none, List.cons_append, List.nil_append, and_self, and_true, true_and, false_and, and_false, ite_self, not_true_eq_false, not_false_eq_true, reduceIte, Nat.reduceEqDiff, ab_I, ab_L, ab_R, ao_I, ao_L, ao_R, gL_sL, gI_sI, gR_sR, gI_sL, gI_sR, gL_sI, gL_sR, gR_sI, gR_sL, g_118, hx.1, hx.2, hy.1, hy.2, T493 hx, T493 hy, b2_0', b2_n', c1, c2, c3, c4, T473]; simp [c1, c2, c3, c4, flt_0])
theorem T498 {x : Int} {σ : MS} (hx : inB x) : MM 498 [mR (some 80), mI x] σ = some (some (mI (b2 (mvs (aV σ x.toNat)))), σ) := by
  rw [M498]
  try simp only [e498_0, Option.getD_some, Option.bind_some, Option.toList_some, Option.toList_none, List.cons_append, List.nil_append, and_self, and_true, true_and, false_and, and_false, ite_self, not_true_eq_false, not_false_eq_true, reduceIte, Nat.reduceEqDiff, ab_I, ab_L, ab_R, ao_I, ao_L, ao_R, gL_sL, gI_sI, gR_sR, gI_sL, gI_sR, gL_sI, gL_sR, gR_sI, gR_sL, g_118, hx.1, hx.2]
  try simp only [mrgI, mrgL, mrg0, rtI, rtL, ite_self]
  try simp only [e498_42, Option.getD_some, Option.bind_some, Option.toList_some, Option.toList_none, List.cons_append, List.nil_append, and_self, and_true, true_and, false_and, and_false, ite_self, not_true_eq_false, not_false_eq_true, reduceIte, Nat.reduceEqDiff, ab_I, ab_L, ab_R, ao_I, ao_L, ao_R, gL_sL, gI_sI, gR_sR, gI_sL, gI_sR, gL_sI, gL_sR, gR_sI, gR_sL, g_118, hx.1, hx.2]
  try simp only [mrgI, mrgL, mrg0, rtI, rtL, ite_self]
  unfold b2 mvs
  simp only [q118]
  by_cases c1 : vk (aV σ x.toNat) = 3 <;> by_cases c2 : vk (aV σ x.toNat) = 5 <;> by_cases c3 : vk (aV σ x.toNat) = 7 <;> by_cases c4 : vk (aV σ x.toNat) = 9 <;> simp [c1, c2, c3, c4]
theorem T510 {x : Int} {σ : MS} (hx : inB x) : MM 510 [mR (some 80), mI x] σ = some (some (mI (b2 (fst (gI σ 80 90) (plcF (aV σ x.toNat)) = 0))), flt σ (plcF (aV σ x.toNat))) := by
  unfold plcF
  have bl0 : ∀ p : Prop, ∀ d : Decidable p, (if p then some (some (mI 1), σ) else some (some (mI 0), σ)) = (some (some (mI (b2 p)), σ) : Option Rs) := fun p d => by unfold b2; split <;> rfl
  by_cases c1 : isMb (aV σ x.toNat)
  · simp only [M510, e510_0, e510_5, e510_14, e510_22, e510_30, Option.getD_some, Option.bind_some, Option.toList_some, Option.toList_none, List.cons_append, List.nil_append, and_self, and_true, true_and, false_and, and_false, ite_self, not_true_eq_false, not_false_eq_true, reduceIte, Nat.reduceEqDiff, ab_I, ab_L, ab_R, ao_I, ao_L, ao_R, gL_sL, gI_sI, gR_sR, gI_sL, gI_sR, gL_sI, gL_sR, gR_sI, gR_sL, hx.1, hx.2, T493 hx, T498 hx, b2_0', b2_n', c1, T473]
    unfold flt b2
    simp only [gI_sI, and_self, if_true, c1]
    repeat' split
    all_goals first | rfl | (exfalso; simp_all)
  · by_cases c2 : mvs (aV σ x.toNat)
    · simp only [M510, e510_0, e510_5, e510_14, e510_22, e510_30, Option.getD_some, Option.bind_some, Option.toList_some, Option.toList_none, List.cons_append, List.nil_append, and_self, and_true, true_and, false_and, and_false, ite_self, not_true_eq_false, not_false_eq_true, reduceIte, Nat.reduceEqDiff, ab_I, ab_L, ab_R, ao_I, ao_L, ao_R, gL_sL, gI_sI, gR_sR, gI_sL, gI_sR, gL_sI, gL_sR, gR_sI, gR_sL, hx.1, hx.2, T493 hx, T498 hx, b2_0', b2_n', c1, c2, T473]
      simp only [c1, c2, not_true_eq_false, if_false, flt_0]
      unfold b2 fst
      repeat' split
      all_goals first | rfl | (exfalso; simp_all)
    · simp only [M510, e510_0, e510_5, e510_14, e510_22, e510_30, Option.getD_some, Option.bind_some, Option.toList_some, Option.toList_none, List.cons_append, List.nil_append, and_self, and_true, true_and, false_and, and_false, ite_self, not_true_eq_false, not_false_eq_true, reduceIte, Nat.reduceEqDiff, ab_I, ab_L, ab_R, ao_I, ao_L, ao_R, gL_sL, gI_sI, gR_sR, gI_sL, gI_sR, gL_sI, gL_sR, gR_sI, gR_sL, hx.1, hx.2, T493 hx, T498 hx, b2_0', b2_n', c1, c2, T473]
      unfold flt b2
      simp only [gI_sI, and_self, if_true, c1, c2, not_false_eq_true, if_false]
      repeat' split
      all_goals first | rfl | (exfalso; simp_all)
