/-! ===== the class's runs: jumps, pairs, stores ===== -/
section CGOW
variable {σ τ ρ : MS} {c c' : TC WR} {W V : WR} {w w2 x A : B64} {v : SV} {a r f b k n o s p m d : Nat} {l : List B64} {y g i : Int} {φ : Nat → Nat}
/-- a jump; next stands at i + 1 -/
theorem jp_C (h8 : gI σ 71 8 = i + 1) (hi : 0 ≤ i ∧ i < 1000) (hg : 0 ≤ goal i w ∧ goal i w < 1000) (h56 : fOp w = 5 ∨ fOp w = 6) : MM 196 [mR (some 71), mL w] σ = some (none, sI σ 71 8 (goal i w)) := by
  have fr := fld_rng w
  rcases h56 with e | e
  · have eg : goal i w = i + 1 + fO w := by
      unfold goal
      rw [if_neg (by omega)]
    have wg' : w32 (i + 1 + fO w) = goal i w := by rw [← eg, w32_g hg]
    simp only [M196, e196_0, Option.getD_some, Option.bind_some, Option.toList_some, Option.toList_none, List.cons_append, List.nil_append, and_self, and_true, true_and, false_and, and_false, ite_self, not_true_eq_false, not_false_eq_true, reduceIte, Nat.reduceEqDiff, ab_I, ab_L, ab_R, ao_I, ao_L, ao_R, gL_sL, gI_sI, gR_sR, gI_sL, gI_sR, gL_sI, gL_sR, gR_sI, gR_sL, T0, e196_4, e, if_true, T3, e196_57, h8, wg']
  · have eg : goal i w = i + 1 + fI w := by
      unfold goal
      rw [if_pos (Or.inl e)]
    have wg' : w32 (i + 1 + fI w) = goal i w := by rw [← eg, w32_g hg]
    simp only [M196, e196_0, Option.getD_some, Option.bind_some, Option.toList_some, Option.toList_none, List.cons_append, List.nil_append, and_self, and_true, true_and, false_and, and_false, ite_self, not_true_eq_false, not_false_eq_true, reduceIte, Nat.reduceEqDiff, ab_I, ab_L, ab_R, ao_I, ao_L, ao_R, gL_sL, gI_sI, gR_sR, gI_sL, gI_sR, gL_sI, gL_sR, gR_sI, gR_sL, T0, e196_4, e, Int.reduceEq, if_false, if_true, T4, e196_73, h8, wg']
/-- a comparison -/
theorem cm_C (h8 : gI σ 71 8 = i + 1) (hg : 0 ≤ goal i w ∧ goal i w < 1000) (l56 : fL w = 5 ∨ fL w = 6) (nj : ¬ fOp w = 5 ∧ ¬ fOp w = 6 ∧ ¬ fOp w = 149 ∧ ¬ fOp w = 133) (hc : isCmp (fC w)) (hd : fD w ≤ 10) (hs : rgt w → fS w ≤ 10) : MM 196 [mR (some 71), mL w] σ = some (none, if cmpW (fC w) (decide (widJ w)) (gL σ 76 (dR w)) (sdC σ w) = true then sI σ 71 8 (goal i w) else σ) := by
  have fr := fld_rng w
  obtain ⟨n5, n6, n149, n133⟩ := nj
  have eD : fD w = ((dR w : Nat) : Int) := by show fD w = ((fD w).toNat : Int); omega
  have bD : 0 ≤ ((dR w : Nat) : Int) ∧ ((dR w : Nat) : Int) < 16 := by
    show 0 ≤ (((fD w).toNat : Nat) : Int) ∧ (((fD w).toNat : Nat) : Int) < 16
    omega
  have t1 : MM 1 [mL w] σ = some (some (mI ((dR w : Nat) : Int)), σ) := by rw [T1, eD]
  have t94 := T194 (σ := σ) hs
  have eC : fOp w / 16 * 16 = fC w := rfl
  have e7 : fOp w % 8 = fL w := rfl
  have t26 := T26 (σ := σ) (op := fOp w) (a := gL σ 76 (dR w)) (b := sdC σ w) fr.1.1 fr.1.2 (by rw [eC]; exact hc)
  rw [eC, e7] at t26
  have eg : goal i w = i + 1 + fO w := by
    unfold goal
    rw [if_neg (by omega)]
  have wg' : w32 (i + 1 + fO w) = goal i w := by rw [← eg, w32_g hg]
  have s1 : MM 196 [mR (some 71), mL w] σ = RR (lkB tb196) (B196_121, [some (mR (some 71)), some (mL w), none, some (mI (fOp w))], [mI (if cmpW (fC w) (decide (fL w = 5)) (gL σ 76 (dR w)) (sdC σ w) = true then 1 else 0)], σ) := by
    simp only [M196, e196_0, Option.getD_some, Option.bind_some, Option.toList_some, Option.toList_none, List.cons_append, List.nil_append, and_self, and_true, true_and, false_and, and_false, ite_self, not_true_eq_false, not_false_eq_true, reduceIte, Nat.reduceEqDiff, ab_I, ab_L, ab_R, ao_I, ao_L, ao_R, gL_sL, gI_sI, gR_sR, gI_sL, gI_sR, gL_sI, gL_sR, gR_sI, gR_sL, T0, e196_4, eq_false n5, eq_false n6, eq_false n133, eq_false n149, if_false, t1, e196_112, g_76, bD.1, bD.2, Int.toNat_natCast, t94, e196_118, t26]
  rw [s1]
  show RR (lkB tb196) (B196_121, [some (mR (some 71)), some (mL w), none, some (mI (fOp w))], [mI (if cmpW (fC w) (decide (widJ w)) (gL σ 76 (dR w)) (sdC σ w) = true then 1 else 0)], σ) = _
  cases q : cmpW (fC w) (decide (widJ w)) (gL σ 76 (dR w)) (sdC σ w) with
  | true =>
    rw [if_pos rfl, if_pos rfl, e196_121, if_neg (by decide), T3]
    simp only [Option.getD_some, Option.bind_some, Option.toList_some, Option.toList_none, List.cons_append, List.nil_append, and_self, and_true, true_and, false_and, and_false, ite_self, not_true_eq_false, not_false_eq_true, reduceIte, Nat.reduceEqDiff, ab_I, ab_L, ab_R, ao_I, ao_L, ao_R, gL_sL, gI_sI, gR_sR, gI_sL, gI_sR, gL_sI, gL_sR, gR_sI, gR_sL, e196_133, h8, wg']
  | false =>
    rw [if_neg (show ¬ (false = true) by decide), if_neg (show ¬ (false = true) by decide), e196_121, if_pos rfl]
/-- FUNCTION and EXIT as words -/
theorem jf_C (h8 : gI σ 71 8 = i + 1) (hg : 0 ≤ goal i w ∧ goal i w < 1000) (h133 : fOp w = 133) (t : MM 184 [mR (some 71), mI (goal i w)] σ = some (none, τ)) : MM 196 [mR (some 71), mL w] σ = some (none, τ) := by
  have eg : goal i w = i + 1 + fI w := by
    unfold goal
    rw [if_pos (Or.inr h133)]
  have wg' : w32 (i + 1 + fI w) = goal i w := by rw [← eg, w32_g hg]
  simp only [M196, e196_0, Option.getD_some, Option.bind_some, Option.toList_some, Option.toList_none, List.cons_append, List.nil_append, and_self, and_true, true_and, false_and, and_false, ite_self, not_true_eq_false, not_false_eq_true, reduceIte, Nat.reduceEqDiff, ab_I, ab_L, ab_R, ao_I, ao_L, ao_R, gL_sL, gI_sI, gR_sR, gI_sL, gI_sR, gL_sI, gL_sR, gR_sI, gR_sL, T0, e196_4, h133, Int.reduceEq, if_false, if_true, T4, e196_89, h8, wg', t, e196_93]
theorem je_C (h149 : fOp w = 149) (t : MM 185 [mR (some 71)] σ = some (none, τ)) : MM 196 [mR (some 71), mL w] σ = some (none, τ) := by
  simp only [M196, e196_0, Option.getD_some, Option.bind_some, Option.toList_some, Option.toList_none, List.cons_append, List.nil_append, and_self, and_true, true_and, false_and, and_false, ite_self, not_true_eq_false, not_false_eq_true, reduceIte, Nat.reduceEqDiff, ab_I, ab_L, ab_R, ao_I, ao_L, ao_R, gL_sL, gI_sI, gR_sR, gI_sL, gI_sR, gL_sI, gL_sR, gR_sI, gR_sL, T0, e196_4, h149, Int.reduceEq, if_false, if_true, t, e196_100]
end CGOW
