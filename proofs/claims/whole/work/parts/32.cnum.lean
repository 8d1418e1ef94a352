/-! ===== the class's numbers ===== -/
theorem T571 {x0 x2 : B64} {σ : MS} : MM 571 [mL x0, mL x2] σ = some (some (mL (smax x0 x2)), σ) := by
  rw [M571]
  try simp only [e571_0, Option.getD_some, Option.bind_some, Option.toList_some, Option.toList_none, List.cons_append, List.nil_append, and_self, and_true, true_and, false_and, and_false, ite_self, not_true_eq_false, not_false_eq_true, reduceIte, Nat.reduceEqDiff, ab_I, ab_L, ab_R, ao_I, ao_L, ao_R, gL_sL, gI_sI, gR_sR, gI_sL, gI_sR, gL_sI, gL_sR, gR_sI, gR_sL]
  try simp only [mrgI, mrgL, mrg0, rtI, rtL, ite_self]
  unfold smax
  split <;> split <;> first | rfl | omega
theorem T572 {x0 x2 : B64} {σ : MS} : MM 572 [mL x0, mL x2] σ = some (some (mL (smin x0 x2)), σ) := by
  rw [M572]
  try simp only [e572_0, Option.getD_some, Option.bind_some, Option.toList_some, Option.toList_none, List.cons_append, List.nil_append, and_self, and_true, true_and, false_and, and_false, ite_self, not_true_eq_false, not_false_eq_true, reduceIte, Nat.reduceEqDiff, ab_I, ab_L, ab_R, ao_I, ao_L, ao_R, gL_sL, gI_sI, gR_sR, gI_sL, gI_sR, gL_sI, gL_sR, gR_sI, gR_sL]
  try simp only [mrgI, mrgL, mrg0, rtI, rtL, ite_self]
  unfold smin
  split <;> split <;> first | rfl | omega
abbrev isNm (σ : MS) (k : Nat) : Prop := kd σ k = (22, 0)
theorem aoN {σ : MS} {k : Nat} (hk : isNm σ k) : ao σ 2 (some k) = True := aoK (c := 2) hk
theorem aoNw {σ : MS} {k j : Nat} {n : N6} (hk : isNm σ k) : ao (wC σ j n) 2 (some k) = True := aoK (c := 2) (σ := wC σ j n) hk
theorem T61 {k : Nat} {x1 : B64} {σ : MS} (hk : isNm σ k) : MM 61 [mR (some k), mL x1] σ = some (none, wC σ k (cstN x1)) := by
  rw [M61]
  try simp only [e61_0, Option.getD_some, Option.bind_some, Option.toList_some, Option.toList_none, List.cons_append, List.nil_append, and_self, and_true, true_and, false_and, and_false, ite_self, not_true_eq_false, not_false_eq_true, reduceIte, Nat.reduceEqDiff, ab_I, ab_L, ab_R, ao_I, ao_L, ao_R, gL_sL, gI_sI, gR_sR, gI_sL, gI_sR, gL_sI, gL_sR, gR_sI, gR_sL, aoN hk]
  try simp only [mrgI, mrgL, mrg0, rtI, rtL, ite_self]
  try simp only [e61_15, Option.getD_some, Option.bind_some, Option.toList_some, Option.toList_none, List.cons_append, List.nil_append, and_self, and_true, true_and, false_and, and_false, ite_self, not_true_eq_false, not_false_eq_true, reduceIte, Nat.reduceEqDiff, ab_I, ab_L, ab_R, ao_I, ao_L, ao_R, gL_sL, gI_sI, gR_sR, gI_sL, gI_sR, gL_sI, gL_sR, gR_sI, gR_sL, aoN hk]
  try simp only [mrgI, mrgL, mrg0, rtI, rtL, ite_self]
  try simp only [e61_30, Option.getD_some, Option.bind_some, Option.toList_some, Option.toList_none, List.cons_append, List.nil_append, and_self, and_true, true_and, false_and, and_false, ite_self, not_true_eq_false, not_false_eq_true, reduceIte, Nat.reduceEqDiff, ab_I, ab_L, ab_R, ao_I, ao_L, ao_R, gL_sL, gI_sI, gR_sR, gI_sL, gI_sR, gL_sI, gL_sR, gR_sI, gR_sL, aoN hk]
  try simp only [mrgI, mrgL, mrg0, rtI, rtL, ite_self]
  rfl
theorem T62 {k : Nat} {σ : MS} (hk : isNm σ k) : MM 62 [mR (some k)] σ = some (none, wC σ k anyN) := by
  rw [M62]
  try simp only [e62_0, Option.getD_some, Option.bind_some, Option.toList_some, Option.toList_none, List.cons_append, List.nil_append, and_self, and_true, true_and, false_and, and_false, ite_self, not_true_eq_false, not_false_eq_true, reduceIte, Nat.reduceEqDiff, ab_I, ab_L, ab_R, ao_I, ao_L, ao_R, gL_sL, gI_sI, gR_sR, gI_sL, gI_sR, gL_sI, gL_sR, gR_sI, gR_sL, aoN hk, iL_m1, iL_min, iL_max]
  try simp only [mrgI, mrgL, mrg0, rtI, rtL, ite_self]
  try simp only [e62_17, Option.getD_some, Option.bind_some, Option.toList_some, Option.toList_none, List.cons_append, List.nil_append, and_self, and_true, true_and, false_and, and_false, ite_self, not_true_eq_false, not_false_eq_true, reduceIte, Nat.reduceEqDiff, ab_I, ab_L, ab_R, ao_I, ao_L, ao_R, gL_sL, gI_sI, gR_sR, gI_sL, gI_sR, gL_sI, gL_sR, gR_sI, gR_sL, aoN hk, iL_m1, iL_min, iL_max]
  try simp only [mrgI, mrgL, mrg0, rtI, rtL, ite_self]
  try simp only [e62_38, Option.getD_some, Option.bind_some, Option.toList_some, Option.toList_none, List.cons_append, List.nil_append, and_self, and_true, true_and, false_and, and_false, ite_self, not_true_eq_false, not_false_eq_true, reduceIte, Nat.reduceEqDiff, ab_I, ab_L, ab_R, ao_I, ao_L, ao_R, gL_sL, gI_sI, gR_sR, gI_sL, gI_sR, gL_sI, gL_sR, gR_sI, gR_sL, aoN hk, iL_m1, iL_min, iL_max]
  try simp only [mrgI, mrgL, mrg0, rtI, rtL, ite_self]
  rfl
theorem T63 {k n : Nat} {σ : MS} (hk : isNm σ k) (hn : n ≤ 8) : MM 63 [mR (some k), mI n] σ = some (none, wC σ k (wideN n)) := by
  have e : w32 (8 * (n : Int)) = ((8 * n : Nat) : Int) := by rw [w32_i (by omega) (by omega)]; omega
  unfold wideN
  by_cases c : 8 ≤ n
  · rw [if_pos c]
    simp only [M63, e63_0, e63_4, e63_35, Option.getD_some, Option.bind_some, Option.toList_some, Option.toList_none, List.cons_append, List.nil_append, and_self, and_true, true_and, false_and, and_false, ite_self, not_true_eq_false, not_false_eq_true, reduceIte, Nat.reduceEqDiff, ab_I, ab_L, ab_R, ao_I, ao_L, ao_R, gL_sL, gI_sI, gR_sR, gI_sL, gI_sR, gL_sI, gL_sR, gR_sI, gR_sL, aoN hk, T62 hk, aoNw hk, e, show ((8 : Int) ≤ (n : Int)) = True from eq_true (by omega)]
  · rw [if_neg c]
    simp only [M63, e63_0, e63_4, e63_35, Option.getD_some, Option.bind_some, Option.toList_some, Option.toList_none, List.cons_append, List.nil_append, and_self, and_true, true_and, false_and, and_false, ite_self, not_true_eq_false, not_false_eq_true, reduceIte, Nat.reduceEqDiff, ab_I, ab_L, ab_R, ao_I, ao_L, ao_R, gL_sL, gI_sI, gR_sR, gI_sL, gI_sR, gL_sI, gL_sR, gR_sI, gR_sL, aoN hk, T62 hk, aoNw hk, wC0, wC1, wC2, wC3, wC4, wC5, gC0, gC1, gC2, gC3, gC4, gC5, e, lShl_k 1#64 (show 8 * n < 64 by omega), show ((8 : Int) ≤ (n : Int)) = False from eq_false (by omega)]
    rfl
theorem T64 {k : Nat} {σ : MS} (hk : isNm σ k) : MM 64 [mR (some k)] σ = some (none, sL (sL σ k 2 0#64) k 3 cAll) := by
  rw [M64]
  try simp only [e64_0, Option.getD_some, Option.bind_some, Option.toList_some, Option.toList_none, List.cons_append, List.nil_append, and_self, and_true, true_and, false_and, and_false, ite_self, not_true_eq_false, not_false_eq_true, reduceIte, Nat.reduceEqDiff, ab_I, ab_L, ab_R, ao_I, ao_L, ao_R, gL_sL, gI_sI, gR_sR, gI_sL, gI_sR, gL_sI, gL_sR, gR_sI, gR_sL, aoN hk, iL_m1]
  try simp only [mrgI, mrgL, mrg0, rtI, rtL, ite_self]
theorem T65 {k : Nat} {σ : MS} (hk : isNm σ k) : MM 65 [mR (some k)] σ = some (none, sL (sL σ k 4 cMin) k 5 cMax) := by
  rw [M65]
  try simp only [e65_0, Option.getD_some, Option.bind_some, Option.toList_some, Option.toList_none, List.cons_append, List.nil_append, and_self, and_true, true_and, false_and, and_false, ite_self, not_true_eq_false, not_false_eq_true, reduceIte, Nat.reduceEqDiff, ab_I, ab_L, ab_R, ao_I, ao_L, ao_R, gL_sL, gI_sI, gR_sR, gI_sL, gI_sR, gL_sI, gL_sR, gR_sI, gR_sL, aoN hk, iL_min, iL_max]
  try simp only [mrgI, mrgL, mrg0, rtI, rtL, ite_self]
theorem T64w {k : Nat} {σ : MS} {n : N6} (hk : isNm σ k) : MM 64 [mR (some k)] (wC σ k n) = some (none, wC σ k (jV n, jM n, 0#64, cAll, jC n, jD n)) := by
  rw [T64 (σ := wC σ k n) hk, wC2, wC3]
theorem T65w {k : Nat} {σ : MS} {n : N6} (hk : isNm σ k) : MM 65 [mR (some k)] (wC σ k n) = some (none, wC σ k (jV n, jM n, jA n, jB n, cMin, cMax)) := by
  rw [T65 (σ := wC σ k n) hk, wC4, wC5]
theorem T66 {k j : Nat} {σ : MS} (hk : isNm σ k) (hj : isNm σ j) (h : ¬ j = k) : MM 66 [mR (some k), mR (some j)] σ = some (none, wC σ k (rC σ j)) := by
  rw [M66]
  try simp only [e66_0, Option.getD_some, Option.bind_some, Option.toList_some, Option.toList_none, List.cons_append, List.nil_append, and_self, and_true, true_and, false_and, and_false, ite_self, not_true_eq_false, not_false_eq_true, reduceIte, Nat.reduceEqDiff, ab_I, ab_L, ab_R, ao_I, ao_L, ao_R, gL_sL, gI_sI, gR_sR, gI_sL, gI_sR, gL_sI, gL_sR, gR_sI, gR_sL, aoN hk, aoN hj, h]
  try simp only [mrgI, mrgL, mrg0, rtI, rtL, ite_self]
  try simp only [e66_24, Option.getD_some, Option.bind_some, Option.toList_some, Option.toList_none, List.cons_append, List.nil_append, and_self, and_true, true_and, false_and, and_false, ite_self, not_true_eq_false, not_false_eq_true, reduceIte, Nat.reduceEqDiff, ab_I, ab_L, ab_R, ao_I, ao_L, ao_R, gL_sL, gI_sI, gR_sR, gI_sL, gI_sR, gL_sI, gL_sR, gR_sI, gR_sL, aoN hk, aoN hj, h]
  try simp only [mrgI, mrgL, mrg0, rtI, rtL, ite_self]
  try simp only [e66_48, Option.getD_some, Option.bind_some, Option.toList_some, Option.toList_none, List.cons_append, List.nil_append, and_self, and_true, true_and, false_and, and_false, ite_self, not_true_eq_false, not_false_eq_true, reduceIte, Nat.reduceEqDiff, ab_I, ab_L, ab_R, ao_I, ao_L, ao_R, gL_sL, gI_sI, gR_sR, gI_sL, gI_sR, gL_sI, gL_sR, gR_sI, gR_sL, aoN hk, aoN hj, h]
  try simp only [mrgI, mrgL, mrg0, rtI, rtL, ite_self]
  rfl
theorem T69 {k : Nat} {σ : MS} (hk : isNm σ k) : MM 69 [mR (some k)] σ = some (some (mI (b2 (gL σ k 1 = 0#64))), σ) := by
  rw [M69]
  try simp only [e69_0, Option.getD_some, Option.bind_some, Option.toList_some, Option.toList_none, List.cons_append, List.nil_append, and_self, and_true, true_and, false_and, and_false, ite_self, not_true_eq_false, not_false_eq_true, reduceIte, Nat.reduceEqDiff, ab_I, ab_L, ab_R, ao_I, ao_L, ao_R, gL_sL, gI_sI, gR_sR, gI_sL, gI_sR, gL_sI, gL_sR, gR_sI, gR_sL, aoN hk]
  try simp only [mrgI, mrgL, mrg0, rtI, rtL, ite_self]
  unfold b2
  split <;> simp_all
theorem T72n {k : Nat} {σ : MS} {n : N6} (hk : isNm σ k) : MM 72 [mR (some k)] (wC σ k n) = some (none, wC σ k (byB n)) := by
  have h : ∀ m : N6, ao (wC σ k m) 2 (some k) := fun m => of_eq_true (aoNw hk)
  rw [M72, e72_0 (h n), e72_32 (h n)]
  simp only [e72_77, e72_101, e72_125, Option.getD_some, Option.bind_some, Option.toList_some, Option.toList_none, List.cons_append, List.nil_append, and_self, and_true, true_and, false_and, and_false, ite_self, not_true_eq_false, not_false_eq_true, reduceIte, Nat.reduceEqDiff, ab_I, ab_L, ab_R, ao_I, ao_L, ao_R, gL_sL, gI_sI, gR_sR, gI_sL, gI_sR, gL_sI, gL_sR, gR_sI, gR_sL, aoNw hk, T571, T572, wC0, wC1, wC2, wC3, wC4, wC5, gC0, gC1, gC2, gC3, gC4, gC5, iL_min, iL_max]
  rfl
theorem T72 {k : Nat} {σ : MS} (hk : isNm σ k) : MM 72 [mR (some k)] σ = some (none, wC σ k (byB (rC σ k))) := by
  have h := T72n (n := rC σ k) hk
  rw [wC_eta] at h
  exact h
set_option maxHeartbeats 2000000 in
theorem T73n {k : Nat} {σ : MS} {n : N6} (hk : isNm σ k) : MM 73 [mR (some k)] (wC σ k n) = some (some (mI (tdB n)), wC σ k (tdN n)) := by
  rw [M73]
  simp only [e73_0, Option.getD_some, Option.bind_some, Option.toList_some, Option.toList_none, List.cons_append, List.nil_append, and_self, and_true, true_and, false_and, and_false, ite_self, not_true_eq_false, not_false_eq_true, reduceIte, Nat.reduceEqDiff, ab_I, ab_L, ab_R, ao_I, ao_L, ao_R, gL_sL, gI_sI, gR_sR, gI_sL, gI_sR, gL_sI, gL_sR, gR_sI, gR_sL, aoNw hk, T72n hk]
  have s1 : ∀ n, RR (lkB tb73) (B73_4, [some (mR (some k)), none, none], [], wC σ k n) = RR (lkB tb73) (B73_52, [some (mR (some k)), none, none], [], wC σ k (td1 n)) := by
    intro n
    unfold td1
    by_cases c1 : 0 ≤ (jC n).toInt
    · rw [if_pos (Or.inl c1)]
      simp only [e73_4, e73_22, e73_34, e73_49, Option.getD_some, Option.bind_some, Option.toList_some, Option.toList_none, List.cons_append, List.nil_append, and_self, and_true, true_and, false_and, and_false, ite_self, not_true_eq_false, not_false_eq_true, reduceIte, Nat.reduceEqDiff, ab_I, ab_L, ab_R, ao_I, ao_L, ao_R, gL_sL, gI_sI, gR_sR, gI_sL, gI_sR, gL_sI, gL_sR, gR_sI, gR_sL, aoNw hk, T70, T71, wC2, wC3, gC2, gC3, gC4, gC5, t0, c1]
    · by_cases c2 : 0 ≤ (jD n).toInt
      · rw [if_neg (by omega)]
        simp only [e73_4, Option.getD_some, Option.bind_some, Option.toList_some, Option.toList_none, List.cons_append, List.nil_append, and_self, and_true, true_and, false_and, and_false, ite_self, not_true_eq_false, not_false_eq_true, reduceIte, Nat.reduceEqDiff, ab_I, ab_L, ab_R, ao_I, ao_L, ao_R, gL_sL, gI_sI, gR_sR, gI_sL, gI_sR, gL_sI, gL_sR, gR_sI, gR_sL, aoNw hk, gC4, gC5, t0, c1, c2]
      · rw [if_pos (show 0 ≤ (jC n).toInt ∨ (jD n).toInt < 0 by omega)]
        simp only [e73_4, e73_22, e73_34, e73_49, Option.getD_some, Option.bind_some, Option.toList_some, Option.toList_none, List.cons_append, List.nil_append, and_self, and_true, true_and, false_and, and_false, ite_self, not_true_eq_false, not_false_eq_true, reduceIte, Nat.reduceEqDiff, ab_I, ab_L, ab_R, ao_I, ao_L, ao_R, gL_sL, gI_sI, gR_sR, gI_sL, gI_sR, gL_sI, gL_sR, gR_sI, gR_sL, aoNw hk, T70, T71, wC2, wC3, gC2, gC3, gC4, gC5, t0, c1, c2]
  have s2 : ∀ n, RR (lkB tb73) (B73_52, [some (mR (some k)), none, none], [], wC σ k n) = RR (lkB tb73) (B73_96, [some (mR (some k)), none, none], [], wC σ k (td2 n)) := by
    intro n
    have q : (jA n ^^^ jB n).toInt < 0 ↔ ¬ ((jA n).toInt < 0 ↔ (jB n).toInt < 0) := by
      rw [sgnx]
      omega
    unfold td2
    by_cases c1 : (jA n ^^^ jB n).toInt < 0
    · rw [if_neg (q.mp c1)]
      simp only [e73_52, Option.getD_some, Option.bind_some, Option.toList_some, Option.toList_none, List.cons_append, List.nil_append, and_self, and_true, true_and, false_and, and_false, ite_self, not_true_eq_false, not_false_eq_true, reduceIte, Nat.reduceEqDiff, ab_I, ab_L, ab_R, ao_I, ao_L, ao_R, gL_sL, gI_sI, gR_sR, gI_sL, gI_sR, gL_sI, gL_sR, gR_sI, gR_sL, aoNw hk, gC2, gC3, t0, c1]
    · rw [if_pos (show ((jA n).toInt < 0 ↔ (jB n).toInt < 0) from Classical.byContradiction fun z => c1 (q.mpr z))]
      simp only [e73_52, e73_78, e73_93, Option.getD_some, Option.bind_some, Option.toList_some, Option.toList_none, List.cons_append, List.nil_append, and_self, and_true, true_and, false_and, and_false, ite_self, not_true_eq_false, not_false_eq_true, reduceIte, Nat.reduceEqDiff, ab_I, ab_L, ab_R, ao_I, ao_L, ao_R, gL_sL, gI_sI, gR_sR, gI_sL, gI_sR, gL_sI, gL_sR, gR_sI, gR_sL, aoNw hk, T571, T572, wC4, wC5, gC2, gC3, gC4, gC5, t0, c1]
  rw [s1, s2]
  unfold tdB tdN
  generalize td2 (td1 (byB n)) = n
  simp only [e73_96, Option.getD_some, Option.bind_some, Option.toList_some, Option.toList_none, List.cons_append, List.nil_append, and_self, and_true, true_and, false_and, and_false, ite_self, not_true_eq_false, not_false_eq_true, reduceIte, Nat.reduceEqDiff, ab_I, ab_L, ab_R, ao_I, ao_L, ao_R, gL_sL, gI_sI, gR_sR, gI_sL, gI_sR, gL_sI, gL_sR, gR_sI, gR_sL, aoNw hk, gC2, gC3, T74]
  by_cases c : tdC n
  · rw [if_pos c, if_pos c]
    have c' : ((jV n ^^^ jA n) &&& ~~~ sprd (jA n ^^^ jB n)) &&& ~~~ (jM n) = 0#64 := c
    simp only [e73_108, Option.getD_some, Option.bind_some, Option.toList_some, Option.toList_none, List.cons_append, List.nil_append, and_self, and_true, true_and, false_and, and_false, ite_self, not_true_eq_false, not_false_eq_true, reduceIte, Nat.reduceEqDiff, ab_I, ab_L, ab_R, ao_I, ao_L, ao_R, gL_sL, gI_sI, gR_sR, gI_sL, gI_sR, gL_sI, gL_sR, gR_sI, gR_sL, aoNw hk, wC0, wC1, gC0, gC1, gC2, gC3, iL_m1, xor_all, c', T72n hk, BitVec.not_not]
    rw [e73_173 (of_eq_true (aoNw hk))]
    simp only [gC2, gC3, gC4, gC5, e73_209]
    show (if jB (byB (td3 n)) < jA (byB (td3 n)) then _ else if (jD (byB (td3 n))).toInt < (jC (byB (td3 n))).toInt then _ else _) = _
    unfold b2 tdP
    by_cases c1 : jB (byB (td3 n)) < jA (byB (td3 n))
    · simp [c1]
      rfl
    · by_cases c2 : (jD (byB (td3 n))).toInt < (jC (byB (td3 n))).toInt
      · simp [c1, c2]
        rfl
      · simp [c1, c2]
        rfl
  · rw [if_neg c, if_neg c]
    have c' : ¬ ((jV n ^^^ jA n) &&& ~~~ sprd (jA n ^^^ jB n)) &&& ~~~ (jM n) = 0#64 := c
    simp only [e73_108, Option.getD_some, Option.bind_some, Option.toList_some, Option.toList_none, List.cons_append, List.nil_append, and_self, and_true, true_and, false_and, and_false, ite_self, not_true_eq_false, not_false_eq_true, reduceIte, Nat.reduceEqDiff, ab_I, ab_L, ab_R, ao_I, ao_L, ao_R, gL_sL, gI_sI, gR_sR, gI_sL, gI_sR, gL_sI, gL_sR, gR_sI, gR_sL, aoNw hk, gC0, gC1, gC2, gC3, iL_m1, xor_all, c']
