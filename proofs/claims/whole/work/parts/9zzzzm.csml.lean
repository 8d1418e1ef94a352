/-! ===== the class: small methods ===== -/
section CSL
variable {X : Nat} {σ : MS} {x y : Int}
theorem T295n (h : x < 0 ∨ 8 ≤ x) : MM 295 [mR (some 0), mI x] σ = some (some (mI (-1)), sI σ 0 1 0) := by
  rw [M295, e295_0, T294]
  simp only [Option.bind_some, Option.toList_some, Option.toList_none, List.cons_append, List.nil_append]
  rw [e295_4, T205n h]
  simp only [Option.bind_some, Option.toList_some, Option.toList_none, List.cons_append, List.nil_append]
  rw [e295_9, if_neg (fun z => z y00)]
theorem T298 (hX : X < 8) (hs : gR σ 6 X = some (7 + X)) (hc : gI σ 15 X ≤ 200) : MM 298 [mR (some 0), mI (X : Int), mI y] σ = some (some (mL (if 0 ≤ y ∧ y < gI σ 15 X then gL σ (7 + X) y.toNat else 0#64)), σ) := by
  rw [M298, e298_0]
  by_cases c : y < 0
  · rw [if_pos c, if_neg (show ¬ (0 ≤ y ∧ y < gI σ 15 X) by omega)]
  · rw [if_neg c, T297 hX]
    simp only [Option.bind_some, Option.toList_some, Option.toList_none, List.cons_append, List.nil_append]
    rw [e298_10]
    by_cases d : y < gI σ 15 X
    · have k2 := cu_kd (σ := σ) X hX
      have g1 : Option.isSome (some (7 + X)) = true ∧ ab σ 4 (Option.getD (some (7 + X)) 0) y := by
        show Option.isSome (some (7 + X)) = true ∧ ab σ 4 (7 + X) y
        rw [gdK k2]
        omega
      rw [if_pos d, if_pos (by rw [g_6]; omega), Int.toNat_natCast, hs, if_pos g1, if_pos (show 0 ≤ y ∧ y < gI σ 15 X by omega)]
      rfl
    · rw [if_neg d, if_neg (show ¬ (0 ≤ y ∧ y < gI σ 15 X) by omega)]
end CSL
