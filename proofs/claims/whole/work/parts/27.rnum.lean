/-! ===== the reference's numbers ===== -/
theorem w8_1 : w8 1 = 1 := by decide
theorem gL_wK {σ : MS} {i k s : Nat} {a b c d e : Int} : gL (wK σ i a b c d e) k s = gL σ k s := rfl
theorem gR_wK {σ : MS} {i k s : Nat} {a b c d e : Int} : gR (wK σ i a b c d e) k s = gR σ k s := rfl
theorem kd_wK {σ : MS} {i k : Nat} {a b c d e : Int} : kd (wK σ i a b c d e) k = kd σ k := rfl
theorem ab_wK {σ : MS} {i ty k : Nat} {j a b c d e : Int} : ab (wK σ i a b c d e) ty k j = ab σ ty k j := rfl
theorem ao_wK {σ : MS} {i c0 : Nat} {y : Option Nat} {a b c d e : Int} : ao (wK σ i a b c d e) c0 y = ao σ c0 y := rfl
theorem rN_wK {σ : MS} {i j : Nat} {a b c d e : Int} : rNv (wK σ i a b c d e) j = rNv σ j := rfl
theorem ite_wN {c : Prop} {d : Decidable c} {σ : MS} {i : Nat} {a b : N6} : (@ite MS c d (wN σ i a) (wN σ i b)) = wN σ i (@ite _ c d a b) := by
  split <;> rfl
theorem T432 {x1 : Int} {σ : MS} (h0 : 0 ≤ x1) (h1 : x1 < 32664) : MM 432 [mR (some 80), mI x1] σ = some (none, wK σ x1.toNat 1 0 0 0 0) := by
  rw [M432]
  try simp only [e432_0, Option.getD_some, Option.bind_some, Option.toList_some, Option.toList_none, List.cons_append, List.nil_append, and_self, and_true, true_and, false_and, and_false, ite_self, not_true_eq_false, not_false_eq_true, reduceIte, Nat.reduceEqDiff, ab_I, ab_L, ab_R, ao_I, ao_L, ao_R, gL_sL, gI_sI, gR_sR, gI_sL, gI_sR, gL_sI, gL_sR, gR_sI, gR_sL, g_118, g_119, g_120, g_121, g_122, h0, h1, w8_1]
  try simp only [mrgI, mrgL, mrg0, rtI, rtL, ite_self]
  try simp only [e432_21, Option.getD_some, Option.bind_some, Option.toList_some, Option.toList_none, List.cons_append, List.nil_append, and_self, and_true, true_and, false_and, and_false, ite_self, not_true_eq_false, not_false_eq_true, reduceIte, Nat.reduceEqDiff, ab_I, ab_L, ab_R, ao_I, ao_L, ao_R, gL_sL, gI_sI, gR_sR, gI_sL, gI_sR, gL_sI, gL_sR, gR_sI, gR_sL, g_118, g_119, g_120, g_121, g_122, h0, h1, w8_1]
  try simp only [mrgI, mrgL, mrg0, rtI, rtL, ite_self]
  rfl
theorem T433 {x1 : Int} {x2 : B64} {σ : MS} (h0 : 0 ≤ x1) (h1 : x1 < 32664) : MM 433 [mR (some 80), mI x1, mL x2] σ = some (none, wrV σ x1.toNat (numV (cstN x2))) := by
  rw [M433]
  try simp only [e433_0, Option.getD_some, Option.bind_some, Option.toList_some, Option.toList_none, List.cons_append, List.nil_append, and_self, and_true, true_and, false_and, and_false, ite_self, not_true_eq_false, not_false_eq_true, reduceIte, Nat.reduceEqDiff, ab_I, ab_L, ab_R, ao_I, ao_L, ao_R, gL_sL, gI_sI, gR_sR, gI_sL, gI_sR, gL_sI, gL_sR, gR_sI, gR_sL, g_112, g_113, g_114, g_115, g_116, g_117, h0, h1, T432 h0 h1]
  try simp only [mrgI, mrgL, mrg0, rtI, rtL, ite_self]
  try simp only [e433_5, Option.getD_some, Option.bind_some, Option.toList_some, Option.toList_none, List.cons_append, List.nil_append, and_self, and_true, true_and, false_and, and_false, ite_self, not_true_eq_false, not_false_eq_true, reduceIte, Nat.reduceEqDiff, ab_I, ab_L, ab_R, ao_I, ao_L, ao_R, gL_sL, gI_sI, gR_sR, gI_sL, gI_sR, gL_sI, gL_sR, gR_sI, gR_sL, g_112, g_113, g_114, g_115, g_116, g_117, h0, h1, T432 h0 h1]
  try simp only [mrgI, mrgL, mrg0, rtI, rtL, ite_self]
  try simp only [e433_26, Option.getD_some, Option.bind_some, Option.toList_some, Option.toList_none, List.cons_append, List.nil_append, and_self, and_true, true_and, false_and, and_false, ite_self, not_true_eq_false, not_false_eq_true, reduceIte, Nat.reduceEqDiff, ab_I, ab_L, ab_R, ao_I, ao_L, ao_R, gL_sL, gI_sI, gR_sR, gI_sL, gI_sR, gL_sI, gL_sR, gR_sI, gR_sL, g_112, g_113, g_114, g_115, g_116, g_117, h0, h1, T432 h0 h1]
  try simp only [mrgI, mrgL, mrg0, rtI, rtL, ite_self]
  try simp only [e433_47, Option.getD_some, Option.bind_some, Option.toList_some, Option.toList_none, List.cons_append, List.nil_append, and_self, and_true, true_and, false_and, and_false, ite_self, not_true_eq_false, not_false_eq_true, reduceIte, Nat.reduceEqDiff, ab_I, ab_L, ab_R, ao_I, ao_L, ao_R, gL_sL, gI_sI, gR_sR, gI_sL, gI_sR, gL_sI, gL_sR, gR_sI, gR_sL, g_112, g_113, g_114, g_115, g_116, g_117, h0, h1, T432 h0 h1]
  try simp only [mrgI, mrgL, mrg0, rtI, rtL, ite_self]
  rfl
theorem T434 {x1 : Int} {σ : MS} (h0 : 0 ≤ x1) (h1 : x1 < 32664) : MM 434 [mR (some 80), mI x1] σ = some (none, sL (sL σ 114 x1.toNat 0#64) 115 x1.toNat cAll) := by
  rw [M434]
  try simp only [e434_0, Option.getD_some, Option.bind_some, Option.toList_some, Option.toList_none, List.cons_append, List.nil_append, and_self, and_true, true_and, false_and, and_false, ite_self, not_true_eq_false, not_false_eq_true, reduceIte, Nat.reduceEqDiff, ab_I, ab_L, ab_R, ao_I, ao_L, ao_R, gL_sL, gI_sI, gR_sR, gI_sL, gI_sR, gL_sI, gL_sR, gR_sI, gR_sL, g_114, g_115, h0, h1, iL_m1]
  try simp only [mrgI, mrgL, mrg0, rtI, rtL, ite_self]
theorem T435 {x1 : Int} {σ : MS} (h0 : 0 ≤ x1) (h1 : x1 < 32664) : MM 435 [mR (some 80), mI x1] σ = some (none, sL (sL σ 116 x1.toNat cMin) 117 x1.toNat cMax) := by
  rw [M435]
  try simp only [e435_0, Option.getD_some, Option.bind_some, Option.toList_some, Option.toList_none, List.cons_append, List.nil_append, and_self, and_true, true_and, false_and, and_false, ite_self, not_true_eq_false, not_false_eq_true, reduceIte, Nat.reduceEqDiff, ab_I, ab_L, ab_R, ao_I, ao_L, ao_R, gL_sL, gI_sI, gR_sR, gI_sL, gI_sR, gL_sI, gL_sR, gR_sI, gR_sL, g_116, g_117, h0, h1, iL_min, iL_max]
  try simp only [mrgI, mrgL, mrg0, rtI, rtL, ite_self]
theorem T436 {x1 : Int} {σ : MS} (h0 : 0 ≤ x1) (h1 : x1 < 32664) : MM 436 [mR (some 80), mI x1] σ = some (none, wrV σ x1.toNat (numV anyN)) := by
  rw [M436]
  try simp only [e436_0, Option.getD_some, Option.bind_some, Option.toList_some, Option.toList_none, List.cons_append, List.nil_append, and_self, and_true, true_and, false_and, and_false, ite_self, not_true_eq_false, not_false_eq_true, reduceIte, Nat.reduceEqDiff, ab_I, ab_L, ab_R, ao_I, ao_L, ao_R, gL_sL, gI_sI, gR_sR, gI_sL, gI_sR, gL_sI, gL_sR, gR_sI, gR_sL, g_112, g_113, h0, h1, T432 h0 h1, T434 h0 h1, T435 h0 h1, iL_m1]
  try simp only [mrgI, mrgL, mrg0, rtI, rtL, ite_self]
  try simp only [e436_5, Option.getD_some, Option.bind_some, Option.toList_some, Option.toList_none, List.cons_append, List.nil_append, and_self, and_true, true_and, false_and, and_false, ite_self, not_true_eq_false, not_false_eq_true, reduceIte, Nat.reduceEqDiff, ab_I, ab_L, ab_R, ao_I, ao_L, ao_R, gL_sL, gI_sI, gR_sR, gI_sL, gI_sR, gL_sI, gL_sR, gR_sI, gR_sL, g_112, g_113, h0, h1, T432 h0 h1, T434 h0 h1, T435 h0 h1, iL_m1]
  try simp only [mrgI, mrgL, mrg0, rtI, rtL, ite_self]
  try simp only [e436_26, Option.getD_some, Option.bind_some, Option.toList_some, Option.toList_none, List.cons_append, List.nil_append, and_self, and_true, true_and, false_and, and_false, ite_self, not_true_eq_false, not_false_eq_true, reduceIte, Nat.reduceEqDiff, ab_I, ab_L, ab_R, ao_I, ao_L, ao_R, gL_sL, gI_sI, gR_sR, gI_sL, gI_sR, gL_sI, gL_sR, gR_sI, gR_sL, g_112, g_113, h0, h1, T432 h0 h1, T434 h0 h1, T435 h0 h1, iL_m1]
  try simp only [mrgI, mrgL, mrg0, rtI, rtL, ite_self]
  try simp only [e436_31, Option.getD_some, Option.bind_some, Option.toList_some, Option.toList_none, List.cons_append, List.nil_append, and_self, and_true, true_and, false_and, and_false, ite_self, not_true_eq_false, not_false_eq_true, reduceIte, Nat.reduceEqDiff, ab_I, ab_L, ab_R, ao_I, ao_L, ao_R, gL_sL, gI_sI, gR_sR, gI_sL, gI_sR, gL_sI, gL_sR, gR_sI, gR_sL, g_112, g_113, h0, h1, T432 h0 h1, T434 h0 h1, T435 h0 h1, iL_m1]
  try simp only [mrgI, mrgL, mrg0, rtI, rtL, ite_self]
  rfl
theorem T437 {x1 : Int} {n : Nat} {σ : MS} (h0 : 0 ≤ x1) (h1 : x1 < 32664) (hn : n ≤ 8) : MM 437 [mR (some 80), mI x1, mI n] σ = some (none, wrV σ x1.toNat (numV (wideN n))) := by
  have e : w32 (8 * (n : Int)) = ((8 * n : Nat) : Int) := by rw [w32_i (by omega) (by omega)]; omega
  rw [M437, e437_0, T436 h0 h1]
  simp only [Option.bind_some, Option.toList_none, List.nil_append]
  unfold numV wideN
  rw [← wK_N]
  by_cases c : 8 ≤ n
  · rw [if_pos c]
    try simp only [e437_0, Option.getD_some, Option.bind_some, Option.toList_some, Option.toList_none, List.cons_append, List.nil_append, and_self, and_true, true_and, false_and, and_false, ite_self, not_true_eq_false, not_false_eq_true, reduceIte, Nat.reduceEqDiff, ab_I, ab_L, ab_R, ao_I, ao_L, ao_R, gL_sL, gI_sI, gR_sR, gI_sL, gI_sR, gL_sI, gL_sR, gR_sI, gR_sL, g_113, g_115, g_116, g_117, h0, h1, ab_wN, ab_wK, e, show ((8 : Int) ≤ (n : Int)) = True from eq_true (by omega)]
    try simp only [mrgI, mrgL, mrg0, rtI, rtL, ite_self]
    try simp only [e437_5, Option.getD_some, Option.bind_some, Option.toList_some, Option.toList_none, List.cons_append, List.nil_append, and_self, and_true, true_and, false_and, and_false, ite_self, not_true_eq_false, not_false_eq_true, reduceIte, Nat.reduceEqDiff, ab_I, ab_L, ab_R, ao_I, ao_L, ao_R, gL_sL, gI_sI, gR_sR, gI_sL, gI_sR, gL_sI, gL_sR, gR_sI, gR_sL, g_113, g_115, g_116, g_117, h0, h1, ab_wN, ab_wK, e, show ((8 : Int) ≤ (n : Int)) = True from eq_true (by omega)]
    try simp only [mrgI, mrgL, mrg0, rtI, rtL, ite_self]
    try simp only [e437_44, Option.getD_some, Option.bind_some, Option.toList_some, Option.toList_none, List.cons_append, List.nil_append, and_self, and_true, true_and, false_and, and_false, ite_self, not_true_eq_false, not_false_eq_true, reduceIte, Nat.reduceEqDiff, ab_I, ab_L, ab_R, ao_I, ao_L, ao_R, gL_sL, gI_sI, gR_sR, gI_sL, gI_sR, gL_sI, gL_sR, gR_sI, gR_sL, g_113, g_115, g_116, g_117, h0, h1, ab_wN, ab_wK, e, show ((8 : Int) ≤ (n : Int)) = True from eq_true (by omega)]
    try simp only [mrgI, mrgL, mrg0, rtI, rtL, ite_self]
    rfl
  · rw [if_neg c]
    try simp only [e437_0, Option.getD_some, Option.bind_some, Option.toList_some, Option.toList_none, List.cons_append, List.nil_append, and_self, and_true, true_and, false_and, and_false, ite_self, not_true_eq_false, not_false_eq_true, reduceIte, Nat.reduceEqDiff, ab_I, ab_L, ab_R, ao_I, ao_L, ao_R, gL_sL, gI_sI, gR_sR, gI_sL, gI_sR, gL_sI, gL_sR, gR_sI, gR_sL, g_113, g_115, g_116, g_117, h0, h1, ab_wN, ab_wK, wN0, wN1, wN2, wN3, wN4, wN5, gN0, gN1, gN2, gN3, gN4, gN5, e, lShl_k 1#64 (show 8 * n < 64 by omega), show ((8 : Int) ≤ (n : Int)) = False from eq_false (by omega)]
    try simp only [mrgI, mrgL, mrg0, rtI, rtL, ite_self]
    try simp only [e437_5, Option.getD_some, Option.bind_some, Option.toList_some, Option.toList_none, List.cons_append, List.nil_append, and_self, and_true, true_and, false_and, and_false, ite_self, not_true_eq_false, not_false_eq_true, reduceIte, Nat.reduceEqDiff, ab_I, ab_L, ab_R, ao_I, ao_L, ao_R, gL_sL, gI_sI, gR_sR, gI_sL, gI_sR, gL_sI, gL_sR, gR_sI, gR_sL, g_113, g_115, g_116, g_117, h0, h1, ab_wN, ab_wK, wN0, wN1, wN2, wN3, wN4, wN5, gN0, gN1, gN2, gN3, gN4, gN5, e, lShl_k 1#64 (show 8 * n < 64 by omega), show ((8 : Int) ≤ (n : Int)) = False from eq_false (by omega)]
    try simp only [mrgI, mrgL, mrg0, rtI, rtL, ite_self]
    try simp only [e437_44, Option.getD_some, Option.bind_some, Option.toList_some, Option.toList_none, List.cons_append, List.nil_append, and_self, and_true, true_and, false_and, and_false, ite_self, not_true_eq_false, not_false_eq_true, reduceIte, Nat.reduceEqDiff, ab_I, ab_L, ab_R, ao_I, ao_L, ao_R, gL_sL, gI_sI, gR_sR, gI_sL, gI_sR, gL_sI, gL_sR, gR_sI, gR_sL, g_113, g_115, g_116, g_117, h0, h1, ab_wN, ab_wK, wN0, wN1, wN2, wN3, wN4, wN5, gN0, gN1, gN2, gN3, gN4, gN5, e, lShl_k 1#64 (show 8 * n < 64 by omega), show ((8 : Int) ≤ (n : Int)) = False from eq_false (by omega)]
    try simp only [mrgI, mrgL, mrg0, rtI, rtL, ite_self]
    rfl
theorem T439 {x1 : Int} {σ : MS} (h0 : 0 ≤ x1) (h1 : x1 < 32664) : MM 439 [mR (some 80), mI x1] σ = some (some (mI (b2 (gL σ 113 x1.toNat = 0#64))), σ) := by
  rw [M439]
  try simp only [e439_0, Option.getD_some, Option.bind_some, Option.toList_some, Option.toList_none, List.cons_append, List.nil_append, and_self, and_true, true_and, false_and, and_false, ite_self, not_true_eq_false, not_false_eq_true, reduceIte, Nat.reduceEqDiff, ab_I, ab_L, ab_R, ao_I, ao_L, ao_R, gL_sL, gI_sI, gR_sR, gI_sL, gI_sR, gL_sI, gL_sR, gR_sI, gR_sL, g_113, h0, h1]
  try simp only [mrgI, mrgL, mrg0, rtI, rtL, ite_self]
  unfold b2
  split <;> simp_all
theorem T440 {x0 x2 : B64} {σ : MS} : MM 440 [mL x0, mL x2] σ = some (some (mL (bmin x0 x2)), σ) := by
  rw [M440]
  try simp only [e440_0, Option.getD_some, Option.bind_some, Option.toList_some, Option.toList_none, List.cons_append, List.nil_append, and_self, and_true, true_and, false_and, and_false, ite_self, not_true_eq_false, not_false_eq_true, reduceIte, Nat.reduceEqDiff, ab_I, ab_L, ab_R, ao_I, ao_L, ao_R, gL_sL, gI_sI, gR_sR, gI_sL, gI_sR, gL_sI, gL_sR, gR_sI, gR_sL, T389, b2_0']
  try simp only [mrgI, mrgL, mrg0, rtI, rtL, ite_self]
  try simp only [e440_5, Option.getD_some, Option.bind_some, Option.toList_some, Option.toList_none, List.cons_append, List.nil_append, and_self, and_true, true_and, false_and, and_false, ite_self, not_true_eq_false, not_false_eq_true, reduceIte, Nat.reduceEqDiff, ab_I, ab_L, ab_R, ao_I, ao_L, ao_R, gL_sL, gI_sI, gR_sR, gI_sL, gI_sR, gL_sI, gL_sR, gR_sI, gR_sL, T389, b2_0']
  try simp only [mrgI, mrgL, mrg0, rtI, rtL, ite_self]
  unfold bmin
  split <;> simp_all
theorem T441 {x0 x2 : B64} {σ : MS} : MM 441 [mL x0, mL x2] σ = some (some (mL (bmax x0 x2)), σ) := by
  rw [M441]
  try simp only [e441_0, Option.getD_some, Option.bind_some, Option.toList_some, Option.toList_none, List.cons_append, List.nil_append, and_self, and_true, true_and, false_and, and_false, ite_self, not_true_eq_false, not_false_eq_true, reduceIte, Nat.reduceEqDiff, ab_I, ab_L, ab_R, ao_I, ao_L, ao_R, gL_sL, gI_sI, gR_sR, gI_sL, gI_sR, gL_sI, gL_sR, gR_sI, gR_sL, T389, b2_0']
  try simp only [mrgI, mrgL, mrg0, rtI, rtL, ite_self]
  try simp only [e441_5, Option.getD_some, Option.bind_some, Option.toList_some, Option.toList_none, List.cons_append, List.nil_append, and_self, and_true, true_and, false_and, and_false, ite_self, not_true_eq_false, not_false_eq_true, reduceIte, Nat.reduceEqDiff, ab_I, ab_L, ab_R, ao_I, ao_L, ao_R, gL_sL, gI_sI, gR_sR, gI_sL, gI_sR, gL_sI, gL_sR, gR_sI, gR_sL, T389, b2_0']
  try simp only [mrgI, mrgL, mrg0, rtI, rtL, ite_self]
  unfold bmax
  split <;> simp_all
set_option maxHeartbeats 1000000 in
theorem T442n {x1 : Int} {σ : MS} {n : N6} (h0 : 0 ≤ x1) (h1 : x1 < 32664) : MM 442 [mR (some 80), mI x1] (wN σ x1.toNat n) = some (none, wN σ x1.toNat (byB n)) := by
  rw [M442]
  try simp only [e442_0, Option.getD_some, Option.bind_some, Option.toList_some, Option.toList_none, List.cons_append, List.nil_append, and_self, and_true, true_and, false_and, and_false, ite_self, not_true_eq_false, not_false_eq_true, reduceIte, Nat.reduceEqDiff, ab_I, ab_L, ab_R, ao_I, ao_L, ao_R, gL_sL, gI_sI, gR_sR, gI_sL, gI_sR, gL_sI, gL_sR, gR_sI, gR_sL, g_112, g_113, g_114, g_115, g_116, g_117, h0, h1, T440, T441, ab_wN, wN0, wN1, wN2, wN3, wN4, wN5, gN0, gN1, gN2, gN3, gN4, gN5, iL_min, iL_max]
  try simp only [mrgI, mrgL, mrg0, rtI, rtL, ite_self]
  try simp only [e442_20, Option.getD_some, Option.bind_some, Option.toList_some, Option.toList_none, List.cons_append, List.nil_append, and_self, and_true, true_and, false_and, and_false, ite_self, not_true_eq_false, not_false_eq_true, reduceIte, Nat.reduceEqDiff, ab_I, ab_L, ab_R, ao_I, ao_L, ao_R, gL_sL, gI_sI, gR_sR, gI_sL, gI_sR, gL_sI, gL_sR, gR_sI, gR_sL, g_112, g_113, g_114, g_115, g_116, g_117, h0, h1, T440, T441, ab_wN, wN0, wN1, wN2, wN3, wN4, wN5, gN0, gN1, gN2, gN3, gN4, gN5, iL_min, iL_max]
  try simp only [mrgI, mrgL, mrg0, rtI, rtL, ite_self]
  try simp only [e442_48, Option.getD_some, Option.bind_some, Option.toList_some, Option.toList_none, List.cons_append, List.nil_append, and_self, and_true, true_and, false_and, and_false, ite_self, not_true_eq_false, not_false_eq_true, reduceIte, Nat.reduceEqDiff, ab_I, ab_L, ab_R, ao_I, ao_L, ao_R, gL_sL, gI_sI, gR_sR, gI_sL, gI_sR, gL_sI, gL_sR, gR_sI, gR_sL, g_112, g_113, g_114, g_115, g_116, g_117, h0, h1, T440, T441, ab_wN, wN0, wN1, wN2, wN3, wN4, wN5, gN0, gN1, gN2, gN3, gN4, gN5, iL_min, iL_max]
  try simp only [mrgI, mrgL, mrg0, rtI, rtL, ite_self]
  try simp only [e442_112, Option.getD_some, Option.bind_some, Option.toList_some, Option.toList_none, List.cons_append, List.nil_append, and_self, and_true, true_and, false_and, and_false, ite_self, not_true_eq_false, not_false_eq_true, reduceIte, Nat.reduceEqDiff, ab_I, ab_L, ab_R, ao_I, ao_L, ao_R, gL_sL, gI_sI, gR_sR, gI_sL, gI_sR, gL_sI, gL_sR, gR_sI, gR_sL, g_112, g_113, g_114, g_115, g_116, g_117, h0, h1, T440, T441, ab_wN, wN0, wN1, wN2, wN3, wN4, wN5, gN0, gN1, gN2, gN3, gN4, gN5, iL_min, iL_max]
  try simp only [mrgI, mrgL, mrg0, rtI, rtL, ite_self]
  try simp only [e442_141, Option.getD_some, Option.bind_some, Option.toList_some, Option.toList_none, List.cons_append, List.nil_append, and_self, and_true, true_and, false_and, and_false, ite_self, not_true_eq_false, not_false_eq_true, reduceIte, Nat.reduceEqDiff, ab_I, ab_L, ab_R, ao_I, ao_L, ao_R, gL_sL, gI_sI, gR_sR, gI_sL, gI_sR, gL_sI, gL_sR, gR_sI, gR_sL, g_112, g_113, g_114, g_115, g_116, g_117, h0, h1, T440, T441, ab_wN, wN0, wN1, wN2, wN3, wN4, wN5, gN0, gN1, gN2, gN3, gN4, gN5, iL_min, iL_max]
  try simp only [mrgI, mrgL, mrg0, rtI, rtL, ite_self]
  unfold byB smax smin
  rfl
def tdB (n : N6) : Int := if tdC (td2 (td1 (byB n))) then b2 (tdP (byB (td3 (td2 (td1 (byB n)))))) else 0
theorem tdB_0 {n : N6} : (tdB n = 0) = ¬ tdG n := by
  unfold tdB tdG
  by_cases c : tdC (td2 (td1 (byB n)))
  · rw [if_pos c, b2_0']
    exact propext ⟨fun h q => h q.2, fun h q => h ⟨c, q⟩⟩
  · rw [if_neg c]
    exact propext ⟨fun _ q => c q.1, fun _ => rfl⟩
theorem tdB_n {n : N6} : (¬ tdB n = 0) = tdG n := by
  rw [tdB_0]
  simp
theorem tdB_r (n : N6) : tdB n = 0 ∨ tdB n = 1 := by
  unfold tdB b2
  split
  · split <;> simp
  · simp
theorem tdB_1 {n : N6} (h : tdG n) : tdB n = 1 := by
  have a := tdB_r n
  have b : ¬ tdB n = 0 := by rw [tdB_n]; exact h
  omega
/-- the loop that finds the bits that both ends of a range have -/
theorem L443 {i : Int} {σ : MS} {n : N6} (h0 : 0 ≤ i) (h1 : i < 32664) : ∀ (k : Nat) (acc : B64), k ≤ 64 → (∀ j, k ≤ j → (jA n ^^^ jB n).getLsbD j = false) → (∀ j, acc.getLsbD j = decide (k ≤ j ∧ j < 64)) → ∃ x4 : Int, RR (lkB tb443) (B443_184, [some (mR (some 80)), some (mI i), some (mL acc), none, some (mI ((k : Int) - 1))], [], wN σ i.toNat n) = RR (lkB tb443) (B443_225, [some (mR (some 80)), some (mI i), some (mL (~~~ sprd (jA n ^^^ jB n))), none, some (mI x4)], [], wN σ i.toNat n) := by
  intro k
  have fin : ∀ (k : Nat) (acc : B64), (∀ j, k ≤ j → (jA n ^^^ jB n).getLsbD j = false) → (∀ j, acc.getLsbD j = decide (k ≤ j ∧ j < 64)) → (k = 0 ∨ ∃ j, k = j + 1 ∧ (jA n ^^^ jB n).getLsbD j = true) → acc = ~~~ sprd (jA n ^^^ jB n) := by
    intro k acc hz ha hk
    apply BitVec.eq_of_getLsbD_eq
    intro j hj
    rw [BitVec.getLsbD_not, ha]
    by_cases q : k ≤ j
    · have : ¬ (sprd (jA n ^^^ jB n)).getLsbD j = true := fun z => by
        obtain ⟨i, a1, a2⟩ := (sprd_bit _ _).mp z
        rw [hz i (by omega)] at a2
        cases a2
      have : (sprd (jA n ^^^ jB n)).getLsbD j = false := by simpa using this
      rw [this]
      simp [q, hj]
    · have : (sprd (jA n ^^^ jB n)).getLsbD j = true := (sprd_bit _ _).mpr (by
        rcases hk with hk | ⟨i, e, hi⟩
        · omega
        · exact ⟨i, by omega, hi⟩)
      rw [this]
      simp [q]
  induction k with
  | zero =>
    intro acc hk hz ha
    refine ⟨-1, ?_⟩
    rw [← fin 0 acc hz ha (Or.inl rfl)]
    rw [e443_184, if_pos (by omega)]
    rfl
  | succ k ih =>
    intro acc hk hz ha
    have e1 : (((k + 1 : Nat) : Int) - 1) = (k : Int) := by omega
    rw [e1]
    have hk' : k < 64 := by omega
    rw [e443_184, if_neg (by omega)]
    simp only [g_114, g_115, h0, h1, and_self, if_true, gN2, gN3, lUsh_k _ hk']
    by_cases hb : (jA n ^^^ jB n).getLsbD k = true
    · refine ⟨k, ?_⟩
      rw [if_pos (fun q => by rw [bit_and1] at q; rw [q] at hb; cases hb), ← fin (k + 1) acc hz ha (Or.inr ⟨k, rfl, hb⟩)]
    · have hb : (jA n ^^^ jB n).getLsbD k = false := by simpa using hb
      rw [if_neg (fun q => q ((bit_and1 _ _).mpr hb)), lShl_k _ (by omega), w32_i (by omega) (by omega)]
      refine ih (acc ||| 1#64 <<< k) (by omega) (fun j hj => ?_) (fun j => ?_)
      · by_cases q : j = k
        · rw [q]; exact hb
        · exact hz j (by omega)
      · rw [BitVec.getLsbD_or, ha, BitVec.getLsbD_shiftLeft, BitVec.getLsbD_ofNat]
        by_cases q : k + 1 ≤ j
        · have t : Nat.testBit 1 (j - k) = false := by
            rw [show j - k = (j - k - 1) + 1 by omega, Nat.testBit_succ]
            simp
          by_cases q2 : j < 64 <;> simp [q, q2, t, show k ≤ j by omega]
        · by_cases q3 : j = k
          · subst q3
            simp [show j < 64 by omega]
          · simp [q, q3, show ¬ k ≤ j by omega, show j < k by omega]
theorem and_rc (a b c : B64) : (a &&& b) &&& c = (a &&& c) &&& b := by
  apply BitVec.eq_of_getLsbD_eq
  intro i hi
  simp only [BitVec.getLsbD_and]
  cases a.getLsbD i <;> cases b.getLsbD i <;> cases c.getLsbD i <;> rfl
theorem td_or {v a m s : B64} (h : ((v ^^^ a) &&& s) &&& ~~~ m = 0#64) : v ||| ((a &&& m) &&& s) = v ||| (a &&& s) := by
  apply BitVec.eq_of_getLsbD_eq
  intro i hi
  have e := congrArg (fun x => BitVec.getLsbD x i) h
  simp only [BitVec.getLsbD_and, BitVec.getLsbD_not, BitVec.getLsbD_xor, BitVec.getLsbD_zero] at e
  simp only [BitVec.getLsbD_or, BitVec.getLsbD_and]
  cases hv : v.getLsbD i <;> cases ha : a.getLsbD i <;> cases hm : m.getLsbD i <;> cases hs : s.getLsbD i <;> simp_all
set_option maxHeartbeats 2000000 in
theorem T443n {x1 : Int} {σ : MS} {n : N6} (h0 : 0 ≤ x1) (h1 : x1 < 32664) : MM 443 [mR (some 80), mI x1] (wN σ x1.toNat n) = some (some (mI (tdB n)), wN σ x1.toNat (tdN n)) := by
  rw [M443]
  simp only [e443_0, Option.getD_some, Option.bind_some, Option.toList_some, Option.toList_none, List.cons_append, List.nil_append, and_self, and_true, true_and, false_and, and_false, ite_self, not_true_eq_false, not_false_eq_true, reduceIte, Nat.reduceEqDiff, ab_I, ab_L, ab_R, ao_I, ao_L, ao_R, gL_sL, gI_sI, gR_sR, gI_sL, gI_sR, gL_sI, gL_sR, gR_sI, gR_sL, T442n h0 h1]
  have s1 : ∀ n, RR (lkB tb443) (B443_5, [some (mR (some 80)), some (mI x1), none, none, none], [], wN σ x1.toNat n) = RR (lkB tb443) (B443_69, [some (mR (some 80)), some (mI x1), none, none, none], [], wN σ x1.toNat (td1 n)) := by
    intro n
    simp only [e443_5, e443_27, Option.getD_some, Option.bind_some, Option.toList_some, Option.toList_none, List.cons_append, List.nil_append, and_self, and_true, true_and, false_and, and_false, ite_self, not_true_eq_false, not_false_eq_true, reduceIte, Nat.reduceEqDiff, ab_I, ab_L, ab_R, ao_I, ao_L, ao_R, gL_sL, gI_sI, gR_sR, gI_sL, gI_sR, gL_sI, gL_sR, gR_sI, gR_sL, h0, h1, g_114, g_115, g_116, g_117, wN0, wN1, wN2, wN3, wN4, wN5, gN0, gN1, gN2, gN3, gN4, gN5, T441]
    simp only [e443_47, Option.getD_some, Option.bind_some, Option.toList_some, Option.toList_none, List.cons_append, List.nil_append, and_self, and_true, true_and, false_and, and_false, ite_self, not_true_eq_false, not_false_eq_true, reduceIte, Nat.reduceEqDiff, ab_I, ab_L, ab_R, ao_I, ao_L, ao_R, gL_sL, gI_sI, gR_sR, gI_sL, gI_sR, gL_sI, gL_sR, gR_sI, gR_sL, h0, h1, g_114, g_115, g_116, g_117, wN0, wN1, wN2, wN3, wN4, wN5, gN0, gN1, gN2, gN3, gN4, gN5, T440]
    simp only [e443_68, Option.getD_some, Option.bind_some, Option.toList_some, Option.toList_none, List.cons_append, List.nil_append, and_self, and_true, true_and, false_and, and_false, ite_self, not_true_eq_false, not_false_eq_true, reduceIte, Nat.reduceEqDiff, ab_I, ab_L, ab_R, ao_I, ao_L, ao_R, gL_sL, gI_sI, gR_sR, gI_sL, gI_sR, gL_sI, gL_sR, gR_sI, gR_sL, h0, h1, g_114, g_115, g_116, g_117, wN0, wN1, wN2, wN3, wN4, wN5, gN0, gN1, gN2, gN3, gN4, gN5]
    unfold td1
    simp only [t0]
    by_cases c1 : 0 ≤ (jC n).toInt
    · rw [if_pos c1, if_pos (Or.inl c1)]
    · rw [if_neg c1]
      by_cases c2 : 0 ≤ (jD n).toInt
      · rw [if_pos c2, if_neg (by omega)]
      · rw [if_neg c2, if_pos (by omega)]
  have s2 : ∀ n, RR (lkB tb443) (B443_69, [some (mR (some 80)), some (mI x1), none, none, none], [], wN σ x1.toNat n) = RR (lkB tb443) (B443_178, [some (mR (some 80)), some (mI x1), none, none, none], [], wN σ x1.toNat (td2 n)) := by
    intro n
    unfold td2 smax smin
    by_cases c1 : 0 ≤ (jA n).toInt <;> by_cases c2 : 0 ≤ (jB n).toInt
    · rw [if_pos (show ((jA n).toInt < 0 ↔ (jB n).toInt < 0) by omega)]
      simp only [e443_69, e443_85, e443_101, e443_140, e443_177, Option.getD_some, Option.bind_some, Option.toList_some, Option.toList_none, List.cons_append, List.nil_append, and_self, and_true, true_and, false_and, and_false, ite_self, not_true_eq_false, not_false_eq_true, reduceIte, Nat.reduceEqDiff, ab_I, ab_L, ab_R, ao_I, ao_L, ao_R, gL_sL, gI_sI, gR_sR, gI_sL, gI_sR, gL_sI, gL_sR, gR_sI, gR_sL, Int.reduceEq, h0, h1, g_114, g_115, g_116, g_117, wN0, wN1, wN2, wN3, wN4, wN5, gN0, gN1, gN2, gN3, gN4, gN5, t0, c1, c2]
      by_cases c3 : (jA n).toInt ≤ (jC n).toInt <;> by_cases c4 : (jD n).toInt ≤ (jB n).toInt
      all_goals simp only [c3, c4, if_true, if_false]
    · rw [if_neg (show ¬ ((jA n).toInt < 0 ↔ (jB n).toInt < 0) by omega)]
      simp only [e443_69, e443_85, e443_101, Option.getD_some, Option.bind_some, Option.toList_some, Option.toList_none, List.cons_append, List.nil_append, and_self, and_true, true_and, false_and, and_false, ite_self, not_true_eq_false, not_false_eq_true, reduceIte, Nat.reduceEqDiff, ab_I, ab_L, ab_R, ao_I, ao_L, ao_R, gL_sL, gI_sI, gR_sR, gI_sL, gI_sR, gL_sI, gL_sR, gR_sI, gR_sL, Int.reduceEq, h0, h1, g_114, g_115, gN2, gN3, t0, c1, c2]
    · rw [if_neg (show ¬ ((jA n).toInt < 0 ↔ (jB n).toInt < 0) by omega)]
      simp only [e443_69, e443_85, e443_101, Option.getD_some, Option.bind_some, Option.toList_some, Option.toList_none, List.cons_append, List.nil_append, and_self, and_true, true_and, false_and, and_false, ite_self, not_true_eq_false, not_false_eq_true, reduceIte, Nat.reduceEqDiff, ab_I, ab_L, ab_R, ao_I, ao_L, ao_R, gL_sL, gI_sI, gR_sR, gI_sL, gI_sR, gL_sI, gL_sR, gR_sI, gR_sL, Int.reduceEq, h0, h1, g_114, g_115, gN2, gN3, t0, c1, c2]
    · rw [if_pos (show ((jA n).toInt < 0 ↔ (jB n).toInt < 0) by omega)]
      simp only [e443_69, e443_85, e443_101, e443_140, e443_177, Option.getD_some, Option.bind_some, Option.toList_some, Option.toList_none, List.cons_append, List.nil_append, and_self, and_true, true_and, false_and, and_false, ite_self, not_true_eq_false, not_false_eq_true, reduceIte, Nat.reduceEqDiff, ab_I, ab_L, ab_R, ao_I, ao_L, ao_R, gL_sL, gI_sI, gR_sR, gI_sL, gI_sR, gL_sI, gL_sR, gR_sI, gR_sL, Int.reduceEq, h0, h1, g_114, g_115, g_116, g_117, wN0, wN1, wN2, wN3, wN4, wN5, gN0, gN1, gN2, gN3, gN4, gN5, t0, c1, c2]
      by_cases c3 : (jA n).toInt ≤ (jC n).toInt <;> by_cases c4 : (jD n).toInt ≤ (jB n).toInt
      all_goals simp only [c3, c4, if_true, if_false]
  rw [s1, s2]
  unfold tdB tdN
  generalize td2 (td1 (byB n)) = n
  obtain ⟨x4, e⟩ := L443 (σ := σ) (n := n) h0 h1 64 0#64 (Nat.le_refl _) (fun j hj => BitVec.getLsbD_of_ge _ _ hj) (fun j => by
    have : ¬ (64 ≤ j ∧ j < 64) := by omega
    simp [this])
  rw [e443_178]
  rw [show (((64 : Nat) : Int) - 1) = 63 from rfl] at e
  rw [e]
  have ec : (((jV n ^^^ jA n) &&& ~~~ jM n) &&& ~~~ sprd (jA n ^^^ jB n) = 0#64) = tdC n := by rw [and_rc]
  simp only [e443_225, Option.getD_some, Option.bind_some, Option.toList_some, Option.toList_none, List.cons_append, List.nil_append, and_self, and_true, true_and, false_and, and_false, ite_self, not_true_eq_false, not_false_eq_true, reduceIte, Nat.reduceEqDiff, ab_I, ab_L, ab_R, ao_I, ao_L, ao_R, gL_sL, gI_sI, gR_sR, gI_sL, gI_sR, gL_sI, gL_sR, gR_sI, gR_sL, h0, h1, g_112, g_113, g_114, g_115, g_116, g_117, wN0, wN1, wN2, wN3, wN4, wN5, gN0, gN1, gN2, gN3, gN4, gN5, iL_m1, xor_all, BitVec.not_not, ec]
  by_cases c : tdC n
  · rw [if_pos c, if_pos c, if_pos c]
    rw [td_or c]
    simp only [T442n h0 h1, Option.bind_some, Option.toList_none, List.nil_append]
    show RR (lkB tb443) (B443_301, _, [], wN σ x1.toNat (byB (td3 n))) = some (some (mI (b2 (tdP (byB (td3 n))))), wN σ x1.toNat (byB (td3 n)))
    generalize byB (td3 n) = n
    simp only [e443_301, e443_316, e443_339, Option.getD_some, Option.bind_some, Option.toList_some, Option.toList_none, List.cons_append, List.nil_append, and_self, and_true, true_and, false_and, and_false, ite_self, not_true_eq_false, not_false_eq_true, reduceIte, Nat.reduceEqDiff, ab_I, ab_L, ab_R, ao_I, ao_L, ao_R, gL_sL, gI_sI, gR_sR, gI_sL, gI_sR, gL_sI, gL_sR, gR_sI, gR_sL, h0, h1, g_114, g_115, g_116, g_117, gN2, gN3, gN4, gN5, T389, b2_n', b2_0']
    unfold b2 tdP
    by_cases c1 : jB n < jA n
    · simp [c1]
    · by_cases c2 : (jD n).toInt < (jC n).toInt
      · simp [c1, c2]
      · simp [c1, c2]
  · rw [if_neg c, if_neg c, if_neg c]
theorem T443 {x1 : Int} {σ : MS} (h0 : 0 ≤ x1) (h1 : x1 < 32664) : MM 443 [mR (some 80), mI x1] σ = some (some (mI (tdB (vn (aV σ x1.toNat)))), wrV σ x1.toNat (vN (aV σ x1.toNat) (tdN (vn (aV σ x1.toNat))))) := by
  have h := T443n (σ := σ) (n := rNv σ x1.toNat) h0 h1
  rw [wN_eta, wN_V] at h
  exact h
theorem T444 {x0 x2 : B64} {σ : MS} : MM 444 [mL x0, mL x2] σ = some (some (mI (b2 (x0 + x2 < x0))), σ) := by
  rw [M444]
  try simp only [e444_0, Option.getD_some, Option.bind_some, Option.toList_some, Option.toList_none, List.cons_append, List.nil_append, and_self, and_true, true_and, false_and, and_false, ite_self, not_true_eq_false, not_false_eq_true, reduceIte, Nat.reduceEqDiff, ab_I, ab_L, ab_R, ao_I, ao_L, ao_R, gL_sL, gI_sI, gR_sR, gI_sL, gI_sR, gL_sI, gL_sR, gR_sI, gR_sL, T389, bl_b2]
  try simp only [mrgI, mrgL, mrg0, rtI, rtL, ite_self]
  try simp only [e444_7, Option.getD_some, Option.bind_some, Option.toList_some, Option.toList_none, List.cons_append, List.nil_append, and_self, and_true, true_and, false_and, and_false, ite_self, not_true_eq_false, not_false_eq_true, reduceIte, Nat.reduceEqDiff, ab_I, ab_L, ab_R, ao_I, ao_L, ao_R, gL_sL, gI_sI, gR_sR, gI_sL, gI_sR, gL_sI, gL_sR, gR_sI, gR_sL, T389, bl_b2]
  try simp only [mrgI, mrgL, mrg0, rtI, rtL, ite_self]
theorem T445 {x0 x2 : B64} {σ : MS} : MM 445 [mL x0, mL x2] σ = some (some (mI (b2 (ovA x0 x2 = true))), σ) := by
  rw [M445]
  try simp only [e445_0, Option.getD_some, Option.bind_some, Option.toList_some, Option.toList_none, List.cons_append, List.nil_append, and_self, and_true, true_and, false_and, and_false, ite_self, not_true_eq_false, not_false_eq_true, reduceIte, Nat.reduceEqDiff, ab_I, ab_L, ab_R, ao_I, ao_L, ao_R, gL_sL, gI_sI, gR_sR, gI_sL, gI_sR, gL_sI, gL_sR, gR_sI, gR_sL]
  try simp only [mrgI, mrgL, mrg0, rtI, rtL, ite_self]
  unfold b2 ovA
  simp only [t0, decide_eq_true_eq]
  split <;> split <;> first | rfl | omega
theorem T446 {x0 x2 : B64} {σ : MS} : MM 446 [mL x0, mL x2] σ = some (some (mI (b2 (ovS x0 x2 = true))), σ) := by
  rw [M446]
  try simp only [e446_0, Option.getD_some, Option.bind_some, Option.toList_some, Option.toList_none, List.cons_append, List.nil_append, and_self, and_true, true_and, false_and, and_false, ite_self, not_true_eq_false, not_false_eq_true, reduceIte, Nat.reduceEqDiff, ab_I, ab_L, ab_R, ao_I, ao_L, ao_R, gL_sL, gI_sI, gR_sR, gI_sL, gI_sR, gL_sI, gL_sR, gR_sI, gR_sL]
  try simp only [mrgI, mrgL, mrg0, rtI, rtL, ite_self]
  unfold b2 ovS
  simp only [t0, decide_eq_true_eq]
  split <;> split <;> first | rfl | omega
theorem T438 {x1 : Int} {b : Nat} {σ : MS} (h0 : 0 ≤ x1) (h1 : x1 < 32664) (hb : 1 ≤ b ∧ b ≤ 64) : MM 438 [mR (some 80), mI x1, mI b] σ = some (none, wrV σ x1.toNat (numV (tdN (sgnN b)))) := by
  have e : w32 ((b : Int) - 1) = ((b - 1 : Nat) : Int) := by rw [w32_i (by omega) (by omega)]; omega
  have key := fun n => T443n (σ := wK σ x1.toNat 1 0 0 0 0) (n := n) h0 h1
  rw [M438, e438_0, T436 h0 h1]
  simp only [Option.bind_some, Option.toList_none, List.nil_append]
  unfold numV
  rw [← wK_N, ← wK_N]
  try simp only [e438_0, Option.getD_some, Option.bind_some, Option.toList_some, Option.toList_none, List.cons_append, List.nil_append, and_self, and_true, true_and, false_and, and_false, ite_self, not_true_eq_false, not_false_eq_true, reduceIte, Nat.reduceEqDiff, ab_I, ab_L, ab_R, ao_I, ao_L, ao_R, gL_sL, gI_sI, gR_sR, gI_sL, gI_sR, gL_sI, gL_sR, gR_sI, gR_sL, g_116, g_117, h0, h1, ab_wN, ab_wK, e, lShl_k cAll (show b - 1 < 64 by omega), wN4, wN5, gN4, iL_m1, xor_all, key]
  try simp only [mrgI, mrgL, mrg0, rtI, rtL, ite_self]
  try simp only [e438_5, Option.getD_some, Option.bind_some, Option.toList_some, Option.toList_none, List.cons_append, List.nil_append, and_self, and_true, true_and, false_and, and_false, ite_self, not_true_eq_false, not_false_eq_true, reduceIte, Nat.reduceEqDiff, ab_I, ab_L, ab_R, ao_I, ao_L, ao_R, gL_sL, gI_sI, gR_sR, gI_sL, gI_sR, gL_sI, gL_sR, gR_sI, gR_sL, g_116, g_117, h0, h1, ab_wN, ab_wK, e, lShl_k cAll (show b - 1 < 64 by omega), wN4, wN5, gN4, iL_m1, xor_all, key]
  try simp only [mrgI, mrgL, mrg0, rtI, rtL, ite_self]
  try simp only [e438_39, Option.getD_some, Option.bind_some, Option.toList_some, Option.toList_none, List.cons_append, List.nil_append, and_self, and_true, true_and, false_and, and_false, ite_self, not_true_eq_false, not_false_eq_true, reduceIte, Nat.reduceEqDiff, ab_I, ab_L, ab_R, ao_I, ao_L, ao_R, gL_sL, gI_sI, gR_sR, gI_sL, gI_sR, gL_sI, gL_sR, gR_sI, gR_sL, g_116, g_117, h0, h1, ab_wN, ab_wK, e, lShl_k cAll (show b - 1 < 64 by omega), wN4, wN5, gN4, iL_m1, xor_all, key]
  try simp only [mrgI, mrgL, mrg0, rtI, rtL, ite_self]
  rfl
