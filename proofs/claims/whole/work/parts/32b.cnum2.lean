/-! ===== the class's numbers: how they are made of others ===== -/
section CN2
variable {k j i : Nat} {σ : MS} {n : N6}
theorem T73 (hk : isNm σ k) : MM 73 [mR (some k)] σ = some (some (mI (tdB (rC σ k))), wC σ k (tdN (rC σ k))) := by
  have h := T73n (n := rC σ k) hk
  rw [wC_eta] at h
  exact h
/-- from: whatever it was before -/
theorem froC {m : Nat} {a : List MV} {v : Option MV} {w : N6} (h : ∀ n, MM m a (wC σ k n) = some (v, wC σ k w)) : MM m a σ = some (v, wC σ k w) := by
  have := h (rC σ k)
  rw [wC_eta] at this
  exact this
theorem gCj0 (h : ¬ j = k) : gL (wC σ k n) j 0 = jV (rC σ j) := gC_ne h
theorem gCj1 (h : ¬ j = k) : gL (wC σ k n) j 1 = jM (rC σ j) := gC_ne h
theorem gCj2 (h : ¬ j = k) : gL (wC σ k n) j 2 = jA (rC σ j) := gC_ne h
theorem gCj3 (h : ¬ j = k) : gL (wC σ k n) j 3 = jB (rC σ j) := gC_ne h
theorem gCj4 (h : ¬ j = k) : gL (wC σ k n) j 4 = jC (rC σ j) := gC_ne h
theorem gCj5 (h : ¬ j = k) : gL (wC σ k n) j 5 = jD (rC σ j) := gC_ne h
set_option maxHeartbeats 2000000 in
theorem T75 (hk : isNm σ k) (hj : isNm σ j) (h : ¬ j = k) : MM 75 [mR (some k), mR (some j)] σ = some (none, wC σ k (cutT (rC σ j))) := by
  refine froC fun n => ?_
  have e32 : ∀ a : B64, lUsh a 32 = a >>> 32 := fun a => lUsh_k a (n := 32) (by omega)
  unfold cutT cutN
  by_cases c : jA (rC σ j) >>> 32 = jB (rC σ j) >>> 32
  · rw [if_pos c, if_pos c]
    simp only [M75, e75_0, e75_47, e75_65, e75_87, e75_94, e75_98, Option.getD_some, Option.bind_some, Option.toList_some, Option.toList_none, List.cons_append, List.nil_append, and_self, and_true, true_and, false_and, and_false, ite_self, not_true_eq_false, not_false_eq_true, reduceIte, Nat.reduceEqDiff, ab_I, ab_L, ab_R, ao_I, ao_L, ao_R, gL_sL, gI_sI, gR_sR, gI_sL, gI_sR, gL_sI, gL_sR, gR_sI, gR_sL, aoNw hk, aoNw hj, wC0, wC1, wC2, wC3, gCj0 h, gCj1 h, gCj2 h, gCj3 h, iL_F, e32, c, oneI, T65w hk, T73n hk]
    rfl
  · rw [if_neg c, if_neg c]
    simp only [M75, e75_0, e75_47, e75_65, e75_87, e75_94, e75_98, Option.getD_some, Option.bind_some, Option.toList_some, Option.toList_none, List.cons_append, List.nil_append, and_self, and_true, true_and, false_and, and_false, ite_self, not_true_eq_false, not_false_eq_true, reduceIte, Nat.reduceEqDiff, ab_I, ab_L, ab_R, ao_I, ao_L, ao_R, gL_sL, gI_sI, gR_sR, gI_sL, gI_sR, gL_sI, gL_sR, gR_sI, gR_sL, aoNw hk, aoNw hj, wC0, wC1, wC2, wC3, gCj0 h, gCj1 h, gCj2 h, gCj3 h, iL_F, e32, c, T65w hk, T73n hk]
    rfl
end CN2
