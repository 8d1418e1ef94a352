/-! ===== which two words are a pair ===== -/
theorem T344 {w w2 : B64} {σ : MS} : MM 344 [mL w, mL w2] σ = some (some (mI (b2 (okPr w w2))), σ) := by
  have s0 : RR (lkB tb344) (B344_40, [some (mL w), none, some (mL w2), none, none, none], [mI 0], σ) = some (some (mI 0), σ) := by
    simp only [e344_40, e344_46, e344_90, Option.getD_some, Option.bind_some, Option.toList_some, Option.toList_none, List.cons_append, List.nil_append, and_self, and_true, true_and, false_and, and_false, ite_self, not_true_eq_false, not_false_eq_true, reduceIte, Nat.reduceEqDiff, ab_I, ab_L, ab_R, ao_I, ao_L, ao_R, gL_sL, gI_sI, gR_sR, gI_sL, gI_sR, gL_sI, gL_sR, gR_sI, gR_sL, T336]
  unfold b2
  by_cases a1 : fOp w = 24
  · by_cases a2 : 9 < fD w
    · rw [if_neg (show ¬ okPr w w2 from fun q => by have := q.1.2.1; omega)]
      simp only [M344, e344_0, e344_4, e344_13, e344_39, Option.getD_some, Option.bind_some, Option.toList_some, Option.toList_none, List.cons_append, List.nil_append, and_self, and_true, true_and, false_and, and_false, ite_self, not_true_eq_false, not_false_eq_true, reduceIte, Nat.reduceEqDiff, ab_I, ab_L, ab_R, ao_I, ao_L, ao_R, gL_sL, gI_sI, gR_sR, gI_sL, gI_sR, gL_sI, gL_sR, gR_sI, gR_sL, T332, T333, eq_true a1, a2, s0]
    · by_cases a3 : fO w = 0
      · by_cases a4 : w2 &&& cF = 0#64
        · have A : fOp w = 24 ∧ fD w ≤ 9 ∧ fO w = 0 ∧ w2 &&& cF = 0#64 := ⟨a1, by omega, a3, a4⟩
          have s1 : MM 344 [mL w, mL w2] σ = RR (lkB tb344) (B344_40, [some (mL w), none, some (mL w2), none, none, none], [mI 1], σ) := by
            simp only [M344, e344_0, e344_4, e344_13, e344_22, Option.getD_some, Option.bind_some, Option.toList_some, Option.toList_none, List.cons_append, List.nil_append, and_self, and_true, true_and, false_and, and_false, ite_self, not_true_eq_false, not_false_eq_true, reduceIte, Nat.reduceEqDiff, ab_I, ab_L, ab_R, ao_I, ao_L, ao_R, gL_sL, gI_sI, gR_sR, gI_sL, gI_sR, gL_sI, gL_sR, gR_sI, gR_sL, T332, T333, T335, eq_true a1, a2, eq_true a3, iL_F, eq_true a4]
          rw [s1]
          by_cases b1 : fS w = 0
          · rw [if_pos (show okPr w w2 from ⟨A, Or.inl b1⟩)]
            simp only [e344_40, e344_46, e344_57, e344_86, Option.getD_some, Option.bind_some, Option.toList_some, Option.toList_none, List.cons_append, List.nil_append, and_self, and_true, true_and, false_and, and_false, ite_self, not_true_eq_false, not_false_eq_true, reduceIte, Nat.reduceEqDiff, ab_I, ab_L, ab_R, ao_I, ao_L, ao_R, gL_sL, gI_sI, gR_sR, gI_sL, gI_sR, gL_sI, gL_sR, gR_sI, gR_sL, T336, T334, oneI, eq_true b1]
          · by_cases b2x : fS w = 1
            · by_cases b3 : fI w < 0
              · rw [if_neg (show ¬ okPr w w2 from fun q => by rcases q.2 with z | z <;> omega)]
                simp only [e344_40, e344_46, e344_57, e344_64, e344_90, Option.getD_some, Option.bind_some, Option.toList_some, Option.toList_none, List.cons_append, List.nil_append, and_self, and_true, true_and, false_and, and_false, ite_self, not_true_eq_false, not_false_eq_true, reduceIte, Nat.reduceEqDiff, ab_I, ab_L, ab_R, ao_I, ao_L, ao_R, gL_sL, gI_sI, gR_sR, gI_sL, gI_sR, gL_sI, gL_sR, gR_sI, gR_sL, T336, T334, oneI, b1, eq_true b2x, b3]
              · by_cases b4 : 7 < fI w
                · rw [if_neg (show ¬ okPr w w2 from fun q => by rcases q.2 with z | z <;> omega)]
                  simp only [e344_40, e344_46, e344_57, e344_64, e344_90, Option.getD_some, Option.bind_some, Option.toList_some, Option.toList_none, List.cons_append, List.nil_append, and_self, and_true, true_and, false_and, and_false, ite_self, not_true_eq_false, not_false_eq_true, reduceIte, Nat.reduceEqDiff, ab_I, ab_L, ab_R, ao_I, ao_L, ao_R, gL_sL, gI_sI, gR_sR, gI_sL, gI_sR, gL_sI, gL_sR, gR_sI, gR_sL, T336, T334, oneI, b1, eq_true b2x, b3, b4]
                · by_cases b5 : w2 = 0#64
                  · rw [if_pos (show okPr w w2 from ⟨A, Or.inr ⟨b2x, by omega, by omega, b5⟩⟩)]
                    simp only [e344_40, e344_46, e344_57, e344_64, e344_86, Option.getD_some, Option.bind_some, Option.toList_some, Option.toList_none, List.cons_append, List.nil_append, and_self, and_true, true_and, false_and, and_false, ite_self, not_true_eq_false, not_false_eq_true, reduceIte, Nat.reduceEqDiff, ab_I, ab_L, ab_R, ao_I, ao_L, ao_R, gL_sL, gI_sI, gR_sR, gI_sL, gI_sR, gL_sI, gL_sR, gR_sI, gR_sL, T336, T334, oneI, b1, eq_true b2x, b3, b4, eq_true b5]
                  · rw [if_neg (show ¬ okPr w w2 from fun q => by
                      rcases q.2 with z | z
                      · exact b1 z
                      · exact b5 z.2.2.2)]
                    simp only [e344_40, e344_46, e344_57, e344_64, e344_90, Option.getD_some, Option.bind_some, Option.toList_some, Option.toList_none, List.cons_append, List.nil_append, and_self, and_true, true_and, false_and, and_false, ite_self, not_true_eq_false, not_false_eq_true, reduceIte, Nat.reduceEqDiff, ab_I, ab_L, ab_R, ao_I, ao_L, ao_R, gL_sL, gI_sI, gR_sR, gI_sL, gI_sR, gL_sI, gL_sR, gR_sI, gR_sL, T336, T334, oneI, b1, eq_true b2x, b3, b4, b5]
            · rw [if_neg (show ¬ okPr w w2 from fun q => by rcases q.2 with z | z <;> omega)]
              simp only [e344_40, e344_46, e344_57, e344_64, e344_90, Option.getD_some, Option.bind_some, Option.toList_some, Option.toList_none, List.cons_append, List.nil_append, and_self, and_true, true_and, false_and, and_false, ite_self, not_true_eq_false, not_false_eq_true, reduceIte, Nat.reduceEqDiff, ab_I, ab_L, ab_R, ao_I, ao_L, ao_R, gL_sL, gI_sI, gR_sR, gI_sL, gI_sR, gL_sI, gL_sR, gR_sI, gR_sL, T336, T334, oneI, b1, b2x]
        · rw [if_neg (show ¬ okPr w w2 from fun q => a4 q.1.2.2.2)]
          simp only [M344, e344_0, e344_4, e344_13, e344_22, e344_39, Option.getD_some, Option.bind_some, Option.toList_some, Option.toList_none, List.cons_append, List.nil_append, and_self, and_true, true_and, false_and, and_false, ite_self, not_true_eq_false, not_false_eq_true, reduceIte, Nat.reduceEqDiff, ab_I, ab_L, ab_R, ao_I, ao_L, ao_R, gL_sL, gI_sI, gR_sR, gI_sL, gI_sR, gL_sI, gL_sR, gR_sI, gR_sL, T332, T333, T335, eq_true a1, a2, eq_true a3, iL_F, a4, s0]
      · rw [if_neg (show ¬ okPr w w2 from fun q => a3 q.1.2.2.1)]
        simp only [M344, e344_0, e344_4, e344_13, e344_22, e344_39, Option.getD_some, Option.bind_some, Option.toList_some, Option.toList_none, List.cons_append, List.nil_append, and_self, and_true, true_and, false_and, and_false, ite_self, not_true_eq_false, not_false_eq_true, reduceIte, Nat.reduceEqDiff, ab_I, ab_L, ab_R, ao_I, ao_L, ao_R, gL_sL, gI_sI, gR_sR, gI_sL, gI_sR, gL_sI, gL_sR, gR_sI, gR_sL, T332, T333, T335, eq_true a1, a2, a3, s0]
  · rw [if_neg (show ¬ okPr w w2 from fun q => a1 q.1.1)]
    simp only [M344, e344_0, e344_4, e344_39, Option.getD_some, Option.bind_some, Option.toList_some, Option.toList_none, List.cons_append, List.nil_append, and_self, and_true, true_and, false_and, and_false, ite_self, not_true_eq_false, not_false_eq_true, reduceIte, Nat.reduceEqDiff, ab_I, ab_L, ab_R, ao_I, ao_L, ao_R, gL_sL, gI_sI, gR_sR, gI_sL, gI_sR, gL_sI, gL_sR, gR_sI, gR_sL, T332, a1, s0]
