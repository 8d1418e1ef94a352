/-! ===== the class's numbers: bits and shifts ===== -/
section CN4
variable {k j i : Nat} {σ : MS}
set_option maxHeartbeats 4000000 in
theorem T84 (hk : isNm σ k) (hj : isNm σ j) (hi : isNm σ i) (h : ¬ j = k) (h2 : ¬ i = k) : MM 84 [mR (some k), mR (some j), mR (some i)] σ = some (none, wC σ k (orN (rC σ j) (rC σ i))) := by
  refine froC fun n => ?_
  simp only [M84, e84_0, e84_47, e84_67, Option.getD_some, Option.bind_some, Option.toList_some, Option.toList_none, List.cons_append, List.nil_append, and_self, and_true, true_and, false_and, and_false, ite_self, not_true_eq_false, not_false_eq_true, reduceIte, Nat.reduceEqDiff, ab_I, ab_L, ab_R, ao_I, ao_L, ao_R, gL_sL, gI_sI, gR_sR, gI_sL, gI_sR, gL_sI, gL_sR, gR_sI, gR_sL, aoNw hk, aoNw hj, aoNw hi, wC0, wC1, wC2, wC3, gC0, gC1, gC2, gC3, gCj0 h, gCj1 h, gCj2 h, gCj3 h, gCj0 h2, gCj1 h2, gCj2 h2, gCj3 h2, iL_m1, xor_all, T70, T65w hk]
  rfl
set_option maxHeartbeats 4000000 in
theorem T85 (hk : isNm σ k) (hj : isNm σ j) (hi : isNm σ i) (h : ¬ j = k) (h2 : ¬ i = k) : MM 85 [mR (some k), mR (some j), mR (some i)] σ = some (none, wC σ k (andN (rC σ j) (rC σ i))) := by
  refine froC fun n => ?_
  simp only [M85, e85_0, e85_53, e85_65, e85_72, Option.getD_some, Option.bind_some, Option.toList_some, Option.toList_none, List.cons_append, List.nil_append, and_self, and_true, true_and, false_and, and_false, ite_self, not_true_eq_false, not_false_eq_true, reduceIte, Nat.reduceEqDiff, ab_I, ab_L, ab_R, ao_I, ao_L, ao_R, gL_sL, gI_sI, gR_sR, gI_sL, gI_sR, gL_sI, gL_sR, gR_sI, gR_sL, aoNw hk, aoNw hj, aoNw hi, wC0, wC1, wC2, wC3, gC0, gC1, gC2, gC3, gCj0 h, gCj1 h, gCj2 h, gCj3 h, gCj0 h2, gCj1 h2, gCj2 h2, gCj3 h2, iL_m1, xor_all, T71, T65w hk]
  rfl
set_option maxHeartbeats 4000000 in
theorem T86c {n : Nat} (hk : isNm σ k) (hj : isNm σ j) (h : ¬ j = k) (hn : n < 64) : MM 86 [mR (some k), mR (some j), mI 1, mI (n : Int)] σ = some (none, wC σ k (shlN (rC σ j) n)) := by
  refine froC fun z => ?_
  have e : ∀ a : B64, lShl a (n : Int) = a <<< n := fun a => lShl_k a hn
  have u : ∀ a : B64, lUsh a (n : Int) = a >>> n := fun a => lUsh_k a hn
  unfold shlN
  by_cases c : jB (rC σ j) <<< n >>> n = jB (rC σ j)
  all_goals (simp only [M86, e86_0, e86_4, e86_54, Option.getD_some, Option.bind_some, Option.toList_some, Option.toList_none, List.cons_append, List.nil_append, and_self, and_true, true_and, false_and, and_false, ite_self, not_true_eq_false, not_false_eq_true, reduceIte, Nat.reduceEqDiff, ab_I, ab_L, ab_R, ao_I, ao_L, ao_R, gL_sL, gI_sI, gR_sR, gI_sL, gI_sR, gL_sI, gL_sR, gR_sI, gR_sL, aoNw hk, aoNw hj, wC0, wC1, wC2, wC3, gCj0 h, gCj1 h, gCj2 h, gCj3 h, T62 (σ := wC σ k z) hk, wC_wC, e, u, c, oneI, decide_true, decide_false])
  all_goals rfl
theorem T86n {n : Int} (hk : isNm σ k) (hj : isNm σ j) : MM 86 [mR (some k), mR (some j), mI 0, mI n] σ = some (none, wC σ k anyN) := by
  refine froC fun z => ?_
  simp only [M86, e86_0, e86_4, e86_54, Option.getD_some, Option.bind_some, Option.toList_some, Option.toList_none, List.cons_append, List.nil_append, and_self, and_true, true_and, false_and, and_false, ite_self, not_true_eq_false, not_false_eq_true, reduceIte, Nat.reduceEqDiff, ab_I, ab_L, ab_R, ao_I, ao_L, ao_R, gL_sL, gI_sI, gR_sR, gI_sL, gI_sR, gL_sI, gL_sR, gR_sI, gR_sL, aoNw hk, aoNw hj, T62 (σ := wC σ k z) hk, wC_wC]
set_option maxHeartbeats 4000000 in
theorem T87c {n : Nat} (hk : isNm σ k) (hj : isNm σ j) (h : ¬ j = k) (hn : n < 64) : MM 87 [mR (some k), mR (some j), mI 1, mI (n : Int)] σ = some (none, wC σ k (shrN (rC σ j) n)) := by
  refine froC fun z => ?_
  have u : ∀ a : B64, lUsh a (n : Int) = a >>> n := fun a => lUsh_k a hn
  simp only [M87, e87_0, e87_4, e87_38, Option.getD_some, Option.bind_some, Option.toList_some, Option.toList_none, List.cons_append, List.nil_append, and_self, and_true, true_and, false_and, and_false, ite_self, not_true_eq_false, not_false_eq_true, reduceIte, Nat.reduceEqDiff, ab_I, ab_L, ab_R, ao_I, ao_L, ao_R, gL_sL, gI_sI, gR_sR, gI_sL, gI_sR, gL_sI, gL_sR, gR_sI, gR_sL, aoNw hk, aoNw hj, wC0, wC1, wC2, wC3, gCj0 h, gCj1 h, gCj2 h, gCj3 h, T62 (σ := wC σ k z) hk, wC_wC, u, oneI]
  rfl
theorem T87n {n : Int} (hk : isNm σ k) (hj : isNm σ j) (h : ¬ j = k) : MM 87 [mR (some k), mR (some j), mI 0, mI n] σ = some (none, wC σ k (shrA (rC σ j))) := by
  refine froC fun z => ?_
  simp only [M87, e87_0, e87_4, e87_38, Option.getD_some, Option.bind_some, Option.toList_some, Option.toList_none, List.cons_append, List.nil_append, and_self, and_true, true_and, false_and, and_false, ite_self, not_true_eq_false, not_false_eq_true, reduceIte, Nat.reduceEqDiff, ab_I, ab_L, ab_R, ao_I, ao_L, ao_R, gL_sL, gI_sI, gR_sR, gI_sL, gI_sR, gL_sI, gL_sR, gR_sI, gR_sL, aoNw hk, aoNw hj, wC0, wC1, wC2, wC3, gCj0 h, gCj1 h, gCj2 h, gCj3 h, T62 (σ := wC σ k z) hk, wC_wC]
  rfl
set_option maxHeartbeats 4000000 in
theorem T88c {n : Nat} (hk : isNm σ k) (hj : isNm σ j) (h : ¬ j = k) (hn : n < 64) : MM 88 [mR (some k), mR (some j), mI 1, mI (n : Int)] σ = some (none, wC σ k (sarN (rC σ j) n)) := by
  refine froC fun z => ?_
  have u : ∀ a : B64, lShr a (n : Int) = a.sshiftRight n := fun a => lShr_k a hn
  simp only [M88, e88_0, e88_4, e88_28, e88_50, e88_77, Option.getD_some, Option.bind_some, Option.toList_some, Option.toList_none, List.cons_append, List.nil_append, and_self, and_true, true_and, false_and, and_false, ite_self, not_true_eq_false, not_false_eq_true, reduceIte, Nat.reduceEqDiff, ab_I, ab_L, ab_R, ao_I, ao_L, ao_R, gL_sL, gI_sI, gR_sR, gI_sL, gI_sR, gL_sI, gL_sR, gR_sI, gR_sL, aoNw hk, aoNw hj, wC0, wC1, wC2, wC3, wC4, wC5, gCj0 h, gCj1 h, gCj2 h, gCj3 h, gCj4 h, gCj5 h, T62 (σ := wC σ k z) hk, wC_wC, u, oneI]
  rfl
theorem T88n {n : Int} (hk : isNm σ k) (hj : isNm σ j) (h : ¬ j = k) : MM 88 [mR (some k), mR (some j), mI 0, mI n] σ = some (none, wC σ k (sarA (rC σ j))) := by
  refine froC fun z => ?_
  have z0 : ∀ a : B64, a.toInt = 0 → a = 0#64 := fun a q => BitVec.eq_of_toInt_eq q
  have z1 : ∀ a : B64, a.toInt = -1 → a = cAll := fun a q => BitVec.eq_of_toInt_eq (q.trans (by decide))
  have r1 : (if (jC (rC σ j)).toInt < 0 then jC (rC σ j) else 0#64) = smin (jC (rC σ j)) 0#64 := by
    unfold smin
    rw [t0]
    split <;> split <;> first | rfl | omega | exact (z0 _ (by omega)).symm
  have r2 : (if 0 ≤ (jD (rC σ j)).toInt then jD (rC σ j) else cAll) = smax (jD (rC σ j)) cAll := by
    unfold smax
    rw [show (cAll).toInt = -1 by decide]
    split <;> split <;> first | rfl | omega | exact (z1 _ (by omega)).symm
  unfold sarA
  rw [r1, r2]
  simp only [M88, e88_0, e88_4, e88_28, e88_50, e88_77, Option.getD_some, Option.bind_some, Option.toList_some, Option.toList_none, List.cons_append, List.nil_append, and_self, and_true, true_and, false_and, and_false, ite_self, not_true_eq_false, not_false_eq_true, reduceIte, Nat.reduceEqDiff, ab_I, ab_L, ab_R, ao_I, ao_L, ao_R, gL_sL, gI_sI, gR_sR, gI_sL, gI_sR, gL_sI, gL_sR, gR_sI, gR_sL, aoNw hk, aoNw hj, wC0, wC1, wC2, wC3, wC4, wC5, gCj0 h, gCj1 h, gCj2 h, gCj3 h, gCj4 h, gCj5 h, T62 (σ := wC σ k z) hk, wC_wC, T571, T572, iL_m1]
  rfl
end CN4
