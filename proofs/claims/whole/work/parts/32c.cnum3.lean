/-! ===== the class's numbers: sum, difference, bits ===== -/
section CN3
variable {k j i : Nat} {σ : MS} {n : N6}
set_option maxHeartbeats 8000000 in
theorem T78 (hk : isNm σ k) (hj : isNm σ j) (hi : isNm σ i) (h : ¬ j = k) (h2 : ¬ i = k) : MM 78 [mR (some k), mR (some j), mR (some i)] σ = some (none, wC σ k (addN (rC σ j) (rC σ i))) := by
  refine froC fun n => ?_
  have e1 : ∀ a b : B64, ovA a b = decide (((a ^^^ (a + b)) &&& (b ^^^ (a + b))).toInt < 0) := fun _ _ => rfl
  have n4 : (((jD (rC σ j) ^^^ (jD (rC σ j) + jD (rC σ i))) &&& (jD (rC σ i) ^^^ (jD (rC σ j) + jD (rC σ i)))).toInt < 0) = ¬ (0 ≤ ((jD (rC σ j) ^^^ (jD (rC σ j) + jD (rC σ i))) &&& (jD (rC σ i) ^^^ (jD (rC σ j) + jD (rC σ i)))).toInt) := propext Int.not_le.symm
  unfold addN
  by_cases c1 : jA (rC σ j) + jA (rC σ i) < jA (rC σ j) <;> by_cases c2 : jB (rC σ j) + jB (rC σ i) < jB (rC σ j) <;> by_cases c3 : ((jC (rC σ j) ^^^ (jC (rC σ j) + jC (rC σ i))) &&& (jC (rC σ i) ^^^ (jC (rC σ j) + jC (rC σ i)))).toInt < 0 <;> by_cases c4 : 0 ≤ ((jD (rC σ j) ^^^ (jD (rC σ j) + jD (rC σ i))) &&& (jD (rC σ i) ^^^ (jD (rC σ j) + jD (rC σ i)))).toInt
  all_goals (simp only [M78, e78_0, e78_64, e78_88, e78_102, e78_105, e78_109, e78_183, e78_187, Option.getD_some, Option.bind_some, Option.toList_some, Option.toList_none, List.cons_append, List.nil_append, and_self, and_true, true_and, false_and, and_false, ite_self, not_true_eq_false, not_false_eq_true, reduceIte, Nat.reduceEqDiff, ab_I, ab_L, ab_R, ao_I, ao_L, ao_R, gL_sL, gI_sI, gR_sR, gI_sL, gI_sR, gL_sI, gL_sR, gR_sI, gR_sL, aoNw hk, aoNw hj, aoNw hi, wC0, wC1, wC2, wC3, wC4, wC5, gC0, gC1, gC2, gC3, gC4, gC5, gCj0 h, gCj1 h, gCj2 h, gCj3 h, gCj4 h, gCj5 h, gCj0 h2, gCj1 h2, gCj2 h2, gCj3 h2, gCj4 h2, gCj5 h2, iL_m1, xor_all, T17, b2_0', b2_n', T64w hk, T65w hk, t0, c1, c2, c3, n4, c4, e1, decide_true, decide_false, Bool.or_true, Bool.or_false, Bool.true_or, Bool.false_or, Bool.or_self])
  all_goals rfl
set_option maxHeartbeats 8000000 in
theorem T79 (hk : isNm σ k) (hj : isNm σ j) (hi : isNm σ i) (h : ¬ j = k) (h2 : ¬ i = k) : MM 79 [mR (some k), mR (some j), mR (some i)] σ = some (none, wC σ k (subN (rC σ j) (rC σ i))) := by
  refine froC fun n => ?_
  have e1 : ∀ a b : B64, ovS a b = decide (((a ^^^ b) &&& (a ^^^ (a - b))).toInt < 0) := fun _ _ => rfl
  have n4 : (((jD (rC σ j) ^^^ jC (rC σ i)) &&& (jD (rC σ j) ^^^ (jD (rC σ j) - jC (rC σ i)))).toInt < 0) = ¬ (0 ≤ ((jD (rC σ j) ^^^ jC (rC σ i)) &&& (jD (rC σ j) ^^^ (jD (rC σ j) - jC (rC σ i)))).toInt) := propext Int.not_le.symm
  unfold subN
  by_cases c1 : jA (rC σ j) < jB (rC σ i) <;> by_cases c3 : ((jC (rC σ j) ^^^ jD (rC σ i)) &&& (jC (rC σ j) ^^^ (jC (rC σ j) - jD (rC σ i)))).toInt < 0 <;> by_cases c4 : 0 ≤ ((jD (rC σ j) ^^^ jC (rC σ i)) &&& (jD (rC σ j) ^^^ (jD (rC σ j) - jC (rC σ i)))).toInt
  all_goals (simp only [M79, e79_0, e79_64, e79_88, e79_95, e79_169, e79_173, Option.getD_some, Option.bind_some, Option.toList_some, Option.toList_none, List.cons_append, List.nil_append, and_self, and_true, true_and, false_and, and_false, ite_self, not_true_eq_false, not_false_eq_true, reduceIte, Nat.reduceEqDiff, ab_I, ab_L, ab_R, ao_I, ao_L, ao_R, gL_sL, gI_sI, gR_sR, gI_sL, gI_sR, gL_sI, gL_sR, gR_sI, gR_sL, aoNw hk, aoNw hj, aoNw hi, wC0, wC1, wC2, wC3, wC4, wC5, gC0, gC1, gC2, gC3, gC4, gC5, gCj0 h, gCj1 h, gCj2 h, gCj3 h, gCj4 h, gCj5 h, gCj0 h2, gCj1 h2, gCj2 h2, gCj3 h2, gCj4 h2, gCj5 h2, iL_m1, xor_all, T17, b2_0', b2_n', T64w hk, T65w hk, t0, c1, c3, n4, c4, e1, decide_true, decide_false, Bool.or_true, Bool.or_false, Bool.true_or, Bool.false_or, Bool.or_self])
  all_goals rfl
set_option maxHeartbeats 2000000 in
theorem T89 {b : Nat} (hk : isNm σ k) (hb : 1 ≤ b ∧ b ≤ 64) : MM 89 [mR (some k), mI (b : Int)] σ = some (none, wC σ k (sgnN b)) := by
  have e : w32 ((b : Int) - 1) = ((b - 1 : Nat) : Int) := by rw [w32_i (by omega) (by omega)]; omega
  refine froC fun n => ?_
  simp only [M89, e89_0, e89_4, Option.getD_some, Option.bind_some, Option.toList_some, Option.toList_none, List.cons_append, List.nil_append, and_self, and_true, true_and, false_and, and_false, ite_self, not_true_eq_false, not_false_eq_true, reduceIte, Nat.reduceEqDiff, ab_I, ab_L, ab_R, ao_I, ao_L, ao_R, gL_sL, gI_sI, gR_sR, gI_sL, gI_sR, gL_sI, gL_sR, gR_sI, gR_sL, aoNw hk, e, lShl_k cAll (show b - 1 < 64 by omega), wC0, wC1, wC2, wC3, wC4, wC5, gC4, iL_m1, xor_all, T62 (σ := wC σ k n) hk, T64w hk, wC_wC]
  rfl
end CN3
