/-! ===== the class's numbers: product, quotient, rest, turned ===== -/
section CN5
variable {k j i : Nat} {σ : MS}
theorem hi32 (a : B64) : (a >>> 32 = 0#64) = ¬ (cF < a) := by
  have e : (a >>> 32).toNat = a.toNat / 4294967296 := by rw [BitVec.toNat_ushiftRight, Nat.shiftRight_eq_div_pow]
  have c : (cF).toNat = 4294967295 := rfl
  have z : (0#64).toNat = 0 := rfl
  refine propext ⟨fun h q => ?_, fun h => ?_⟩
  · have := congrArg BitVec.toNat h
    rw [e, z] at this
    rw [BitVec.lt_def, c] at q
    omega
  · rw [BitVec.lt_def, c] at h
    apply BitVec.eq_of_toNat_eq
    rw [e, z]
    omega
set_option maxHeartbeats 8000000 in
theorem T81 (hk : isNm σ k) (hj : isNm σ j) (hi : isNm σ i) (h : ¬ j = k) (h2 : ¬ i = k) (hc : ¬ (isC (rC σ j) ∧ isC (rC σ i))) : MM 81 [mR (some k), mR (some j), mR (some i)] σ = some (none, wC σ k (mulN (rC σ j) (rC σ i))) := by
  refine froC fun n => ?_
  unfold mulN
  rw [if_neg hc]
  have l1 := lowZ_le (jV (rC σ j) ||| jM (rC σ j))
  have l2 := lowZ_le (jV (rC σ i) ||| jM (rC σ i))
  have e1 : w32 ((lowZ (jV (rC σ j) ||| jM (rC σ j)) : Int) + (lowZ (jV (rC σ i) ||| jM (rC σ i)) : Int)) = ((lowZ (jV (rC σ j) ||| jM (rC σ j)) + lowZ (jV (rC σ i) ||| jM (rC σ i)) : Nat) : Int) := by rw [w32_i (by omega) (by omega)]; omega
  have tj : MM 80 [mR (some j)] (wC σ k n) = some (some (mI (lowZ (jV (rC σ j) ||| jM (rC σ j)))), wC σ k n) := by
    rw [T80 (σ := wC σ k n) hj, gCj0 h, gCj1 h]
  have ti : MM 80 [mR (some i)] (wC σ k n) = some (some (mI (lowZ (jV (rC σ i) ||| jM (rC σ i)))), wC σ k n) := by
    rw [T80 (σ := wC σ k n) hi, gCj0 h2, gCj1 h2]
  have e32 : ∀ a : B64, lUsh a 32 = a >>> 32 := fun a => lUsh_k a (n := 32) (by omega)
  rcases Nat.lt_or_ge (lowZ (jV (rC σ j) ||| jM (rC σ j)) + lowZ (jV (rC σ i) ||| jM (rC σ i))) 64 with c0 | c0
  · rw [if_neg (show ¬ 64 ≤ lowZ (jV (rC σ j) ||| jM (rC σ j)) + lowZ (jV (rC σ i) ||| jM (rC σ i)) by omega)]
    have q : (((lowZ (jV (rC σ j) ||| jM (rC σ j)) + lowZ (jV (rC σ i) ||| jM (rC σ i)) : Nat) : Int) < 64) = True := eq_true (by omega)
    by_cases c1 : cF < jB (rC σ j) <;> by_cases c2 : cF < jB (rC σ i)
    all_goals (simp only [M81, e81_0, e81_4, e81_8, e81_31, e81_60, e81_84, e81_88, e81_92, Option.getD_some, Option.bind_some, Option.toList_some, Option.toList_none, List.cons_append, List.nil_append, and_self, and_true, true_and, false_and, and_false, ite_self, not_true_eq_false, not_false_eq_true, reduceIte, Nat.reduceEqDiff, ab_I, ab_L, ab_R, ao_I, ao_L, ao_R, gL_sL, gI_sI, gR_sR, gI_sL, gI_sR, gL_sI, gL_sR, gR_sI, gR_sL, aoNw hk, aoNw hj, aoNw hi, tj, ti, e1, q, lShl_k cAll c0, wC0, wC1, wC2, wC3, gCj0 h, gCj1 h, gCj2 h, gCj3 h, gCj0 h2, gCj1 h2, gCj2 h2, gCj3 h2, iL_m1, e32, hi32, c1, c2, T64w hk, T65w hk, decide_true, decide_false, Bool.or_true, Bool.or_false, Bool.true_or, Bool.or_self])
    all_goals rfl
  · rw [if_pos c0]
    have q : (((lowZ (jV (rC σ j) ||| jM (rC σ j)) + lowZ (jV (rC σ i) ||| jM (rC σ i)) : Nat) : Int) < 64) = False := eq_false (by omega)
    by_cases c1 : cF < jB (rC σ j) <;> by_cases c2 : cF < jB (rC σ i)
    all_goals (simp only [M81, e81_0, e81_4, e81_8, e81_31, e81_60, e81_84, e81_88, e81_92, Option.getD_some, Option.bind_some, Option.toList_some, Option.toList_none, List.cons_append, List.nil_append, and_self, and_true, true_and, false_and, and_false, ite_self, not_true_eq_false, not_false_eq_true, reduceIte, Nat.reduceEqDiff, ab_I, ab_L, ab_R, ao_I, ao_L, ao_R, gL_sL, gI_sI, gR_sR, gI_sL, gI_sR, gL_sI, gL_sR, gR_sI, gR_sL, aoNw hk, aoNw hj, aoNw hi, tj, ti, e1, q, wC0, wC1, wC2, wC3, gCj0 h, gCj1 h, gCj2 h, gCj3 h, gCj0 h2, gCj1 h2, gCj2 h2, gCj3 h2, iL_m1, e32, hi32, c1, c2, T64w hk, T65w hk, decide_true, decide_false, Bool.or_true, Bool.or_false, Bool.true_or, Bool.or_self])
    all_goals rfl
set_option maxHeartbeats 4000000 in
theorem T82 (hk : isNm σ k) (hj : isNm σ j) (hi : isNm σ i) (h : ¬ j = k) (h2 : ¬ i = k) (hc : ¬ (isC (rC σ j) ∧ isC (rC σ i))) : MM 82 [mR (some k), mR (some j), mR (some i)] σ = some (none, wC σ k (divN (rC σ j) (rC σ i))) := by
  refine froC fun n => ?_
  unfold divN
  rw [if_neg hc]
  by_cases a : jM (rC σ i) = 0#64
  · by_cases b : jV (rC σ i) = 0#64
    · rw [if_neg (show ¬ (isC (rC σ i) ∧ ¬ jV (rC σ i) = 0#64) from fun q => q.2 b)]
      simp only [M82, e82_0, e82_22, e82_23, e82_52, e82_56, e82_75, e82_82, e82_89, Option.getD_some, Option.bind_some, Option.toList_some, Option.toList_none, List.cons_append, List.nil_append, and_self, and_true, true_and, false_and, and_false, ite_self, not_true_eq_false, not_false_eq_true, reduceIte, Nat.reduceEqDiff, ab_I, ab_L, ab_R, ao_I, ao_L, ao_R, gL_sL, gI_sI, gR_sR, gI_sL, gI_sR, gL_sI, gL_sR, gR_sI, gR_sL, aoNw hk, aoNw hj, aoNw hi, wC0, wC1, wC2, wC3, gCj2 h, gCj3 h, gCj0 h2, gCj1 h2, iL_m1, eq_true a, eq_true b, T65w hk]
      rfl
    · rw [if_pos (show (isC (rC σ i) ∧ ¬ jV (rC σ i) = 0#64) from ⟨a, b⟩)]
      simp only [M82, e82_0, e82_22, e82_23, e82_52, e82_56, e82_75, e82_82, e82_89, Option.getD_some, Option.bind_some, Option.toList_some, Option.toList_none, List.cons_append, List.nil_append, and_self, and_true, true_and, false_and, and_false, ite_self, not_true_eq_false, not_false_eq_true, reduceIte, Nat.reduceEqDiff, ab_I, ab_L, ab_R, ao_I, ao_L, ao_R, gL_sL, gI_sI, gR_sR, gI_sL, gI_sR, gL_sI, gL_sR, gR_sI, gR_sL, aoNw hk, aoNw hj, aoNw hi, wC0, wC1, wC2, wC3, gCj2 h, gCj3 h, gCj0 h2, gCj1 h2, iL_m1, eq_true a, b, oneI, T18, T65w hk]
      rfl
  · rw [if_neg (show ¬ (isC (rC σ i) ∧ ¬ jV (rC σ i) = 0#64) from fun q => a q.1)]
    simp only [M82, e82_0, e82_22, e82_23, e82_52, e82_56, e82_75, e82_82, e82_89, Option.getD_some, Option.bind_some, Option.toList_some, Option.toList_none, List.cons_append, List.nil_append, and_self, and_true, true_and, false_and, and_false, ite_self, not_true_eq_false, not_false_eq_true, reduceIte, Nat.reduceEqDiff, ab_I, ab_L, ab_R, ao_I, ao_L, ao_R, gL_sL, gI_sI, gR_sR, gI_sL, gI_sR, gL_sI, gL_sR, gR_sI, gR_sL, aoNw hk, aoNw hj, aoNw hi, wC0, wC1, wC2, wC3, gCj2 h, gCj3 h, gCj0 h2, gCj1 h2, iL_m1, a, T65w hk]
    rfl
set_option maxHeartbeats 4000000 in
theorem T83 (hk : isNm σ k) (hj : isNm σ j) (hi : isNm σ i) (h : ¬ j = k) (h2 : ¬ i = k) (hc : ¬ (isC (rC σ j) ∧ isC (rC σ i))) : MM 83 [mR (some k), mR (some j), mR (some i)] σ = some (none, wC σ k (remN (rC σ j) (rC σ i))) := by
  refine froC fun n => ?_
  unfold remN
  rw [if_neg hc]
  by_cases a : jM (rC σ i) = 0#64
  · by_cases b : jV (rC σ i) = 0#64
    · rw [if_neg (show ¬ (isC (rC σ i) ∧ ¬ jV (rC σ i) = 0#64) from fun q => q.2 b)]
      simp only [M83, e83_0, e83_17, e83_49, e83_52, e83_56, e83_63, Option.getD_some, Option.bind_some, Option.toList_some, Option.toList_none, List.cons_append, List.nil_append, and_self, and_true, true_and, false_and, and_false, ite_self, not_true_eq_false, not_false_eq_true, reduceIte, Nat.reduceEqDiff, ab_I, ab_L, ab_R, ao_I, ao_L, ao_R, gL_sL, gI_sI, gR_sR, gI_sL, gI_sR, gL_sI, gL_sR, gR_sI, gR_sL, aoNw hk, aoNw hj, aoNw hi, wC0, wC1, wC2, wC3, gCj2 h, gCj3 h, gCj0 h2, gCj1 h2, iL_m1, eq_true a, eq_true b, T65w hk]
      rfl
    · rw [if_pos (show (isC (rC σ i) ∧ ¬ jV (rC σ i) = 0#64) from ⟨a, b⟩)]
      simp only [M83, e83_0, e83_17, e83_49, e83_52, e83_56, e83_63, Option.getD_some, Option.bind_some, Option.toList_some, Option.toList_none, List.cons_append, List.nil_append, and_self, and_true, true_and, false_and, and_false, ite_self, not_true_eq_false, not_false_eq_true, reduceIte, Nat.reduceEqDiff, ab_I, ab_L, ab_R, ao_I, ao_L, ao_R, gL_sL, gI_sI, gR_sR, gI_sL, gI_sR, gL_sI, gL_sR, gR_sI, gR_sL, aoNw hk, aoNw hj, aoNw hi, wC0, wC1, wC2, wC3, gCj2 h, gCj3 h, gCj0 h2, gCj1 h2, iL_m1, eq_true a, b, T71, T65w hk]
      rfl
  · rw [if_neg (show ¬ (isC (rC σ i) ∧ ¬ jV (rC σ i) = 0#64) from fun q => a q.1)]
    simp only [M83, e83_0, e83_17, e83_49, e83_52, e83_56, e83_63, Option.getD_some, Option.bind_some, Option.toList_some, Option.toList_none, List.cons_append, List.nil_append, and_self, and_true, true_and, false_and, and_false, ite_self, not_true_eq_false, not_false_eq_true, reduceIte, Nat.reduceEqDiff, ab_I, ab_L, ab_R, ao_I, ao_L, ao_R, gL_sL, gI_sI, gR_sR, gI_sL, gI_sR, gL_sI, gL_sR, gR_sI, gR_sL, aoNw hk, aoNw hj, aoNw hi, wC0, wC1, wC2, wC3, gCj2 h, gCj3 h, gCj0 h2, gCj1 h2, iL_m1, a, T65w hk]
    rfl
theorem T90 {op b : Int} (hk : isNm σ k) (hj : isNm σ j) (hb : b = 16 ∨ b = 32 ∨ b = 64) : MM 90 [mR (some k), mI op, mI b, mR (some j)] σ = some (none, wC σ k (trnN (decide (op = 212)) b.toNat (rC σ j))) := by
  have dv : w32 (Int.tdiv b 8) = ((b.toNat / 8 : Nat) : Int) := by
    rcases hb with rfl | rfl | rfl <;> rfl
  unfold trnN
  by_cases a : gL σ j 1 = 0#64
  · rw [if_pos (show isC (rC σ j) from a)]
    simp only [M90, e90_0, e90_19, e90_22, e90_33, Option.getD_some, Option.bind_some, Option.toList_some, Option.toList_none, List.cons_append, List.nil_append, and_self, and_true, true_and, false_and, and_false, ite_self, not_true_eq_false, not_false_eq_true, reduceIte, Nat.reduceEqDiff, ab_I, ab_L, ab_R, ao_I, ao_L, ao_R, gL_sL, gI_sI, gR_sR, gI_sL, gI_sR, gL_sI, gL_sR, gR_sI, gR_sL, aoN hk, aoN hj, eq_true a, T24 hb, T61 hk]
    rfl
  · rw [if_neg (show ¬ isC (rC σ j) from a)]
    simp only [M90, e90_0, e90_19, e90_22, e90_33, Option.getD_some, Option.bind_some, Option.toList_some, Option.toList_none, List.cons_append, List.nil_append, and_self, and_true, true_and, false_and, and_false, ite_self, not_true_eq_false, not_false_eq_true, reduceIte, Nat.reduceEqDiff, ab_I, ab_L, ab_R, ao_I, ao_L, ao_R, gL_sL, gI_sI, gR_sR, gI_sL, gI_sR, gL_sI, gL_sR, gR_sI, gR_sL, aoN hk, aoN hj, a, dv, T63 hk (show b.toNat / 8 ≤ 8 by omega)]
end CN5
