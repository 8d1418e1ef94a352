/-! ===== the reference: which words are instructions ===== -/
section FRMA
variable {w : B64} {σ : MS}
abbrev aluA (w : B64) : Prop := if rgt w then fS w ≤ 10 ∧ fI w = 0 else fS w = 0
abbrev aluB (w : B64) : Prop := fO w = 0 ∨ isQuo (fC w) ∧ fO w = 1 ∨ (fC w = 176 ∧ rgt w) ∧ (fO w = 8 ∨ fO w = 16 ∨ wid w ∧ fO w = 32)
abbrev aluC (w : B64) : Prop := rgt w ∨ ¬ isQuo (fC w) ∨ ¬ fI w = 0
abbrev aluD (w : B64) : Prop := rgt w ∨ ¬ isShf (fC w) ∨ 0 ≤ fI w ∧ fI w ≤ (if wid w then 63 else 31)
theorem L339a : MM 339 [mI (fOp w), mI (fD w), mI (fS w), mI (fO w), mI (fI w)] σ = RR (lkB tb339) (B339_35, [some (mI (fOp w)), some (mI (fD w)), some (mI (fS w)), some (mI (fO w)), some (mI (fI w)), some (mI (fC w)), some (mI (b2 (rgt w))), none, none, none, none], [mI (b2 (wid w))], σ) := by
  by_cases a : fL w = 7
  · rw [wid_l a]
    by_cases b : rgt w
    · rw [b2_yes b]
      simp only [M339, e339_0, e339_19, Option.getD_some, Option.bind_some, Option.toList_some, Option.toList_none, List.cons_append, List.nil_append, and_self, and_true, true_and, false_and, and_false, ite_self, not_true_eq_false, not_false_eq_true, reduceIte, Nat.reduceEqDiff, ab_I, ab_L, ab_R, ao_I, ao_L, ao_R, gL_sL, gI_sI, gR_sR, gI_sL, gI_sR, gL_sI, gL_sR, gR_sI, gR_sL, m7, m8r, mC, a, eq_true b]
    · rw [b2_no b]
      simp only [M339, e339_0, e339_19, Option.getD_some, Option.bind_some, Option.toList_some, Option.toList_none, List.cons_append, List.nil_append, and_self, and_true, true_and, false_and, and_false, ite_self, not_true_eq_false, not_false_eq_true, reduceIte, Nat.reduceEqDiff, ab_I, ab_L, ab_R, ao_I, ao_L, ao_R, gL_sL, gI_sI, gR_sR, gI_sL, gI_sR, gL_sI, gL_sR, gR_sI, gR_sL, m7, m8r, mC, a, b]
  · rw [wid_n a]
    by_cases b : rgt w
    · rw [b2_yes b]
      simp only [M339, e339_0, e339_19, Option.getD_some, Option.bind_some, Option.toList_some, Option.toList_none, List.cons_append, List.nil_append, and_self, and_true, true_and, false_and, and_false, ite_self, not_true_eq_false, not_false_eq_true, reduceIte, Nat.reduceEqDiff, ab_I, ab_L, ab_R, ao_I, ao_L, ao_R, gL_sL, gI_sI, gR_sR, gI_sL, gI_sR, gL_sI, gL_sR, gR_sI, gR_sL, m7, m8r, mC, a, eq_true b]
    · rw [b2_no b]
      simp only [M339, e339_0, e339_19, Option.getD_some, Option.bind_some, Option.toList_some, Option.toList_none, List.cons_append, List.nil_append, and_self, and_true, true_and, false_and, and_false, ite_self, not_true_eq_false, not_false_eq_true, reduceIte, Nat.reduceEqDiff, ab_I, ab_L, ab_R, ao_I, ao_L, ao_R, gL_sL, gI_sI, gR_sR, gI_sL, gI_sR, gL_sI, gL_sR, gR_sI, gR_sL, m7, m8r, mC, a, b]
theorem L339b (d9 : ¬ 9 < fD w) (c8 : fC w ≤ 208) (c1 : ¬ fC w = 208) (c2 : ¬ fC w = 128) : RR (lkB tb339) (B339_35, [some (mI (fOp w)), some (mI (fD w)), some (mI (fS w)), some (mI (fO w)), some (mI (fI w)), some (mI (fC w)), some (mI (b2 (rgt w))), none, none, none, none], [mI (b2 (wid w))], σ) = RR (lkB tb339) (B339_171, [some (mI (fOp w)), some (mI (fD w)), some (mI (fS w)), some (mI (fO w)), some (mI (fI w)), some (mI (fC w)), some (mI (b2 (rgt w))), some (mI (b2 (wid w))), some (mI (b2 (isQuo (fC w)))), none, none], [mI (b2 (isShf (fC w)))], σ) := by
  have s142 : RR (lkB tb339) (B339_35, [some (mI (fOp w)), some (mI (fD w)), some (mI (fS w)), some (mI (fO w)), some (mI (fI w)), some (mI (fC w)), some (mI (b2 (rgt w))), none, none, none, none], [mI (b2 (wid w))], σ) = RR (lkB tb339) (B339_142, [some (mI (fOp w)), some (mI (fD w)), some (mI (fS w)), some (mI (fO w)), some (mI (fI w)), some (mI (fC w)), some (mI (b2 (rgt w))), some (mI (b2 (wid w))), none, none, none], [mI (b2 (isQuo (fC w)))], σ) := by
    by_cases q : isQuo (fC w)
    · rw [b2_yes q]
      rcases q with q | q <;> simp only [e339_35, e339_137, Option.getD_some, Option.bind_some, Option.toList_some, Option.toList_none, List.cons_append, List.nil_append, and_self, and_true, true_and, false_and, and_false, ite_self, not_true_eq_false, not_false_eq_true, reduceIte, Nat.reduceEqDiff, ab_I, ab_L, ab_R, ao_I, ao_L, ao_R, gL_sL, gI_sI, gR_sR, gI_sL, gI_sR, gL_sI, gL_sR, gR_sI, gR_sL, d9, c8, q, Int.reduceEq, Int.reduceLE, Int.reduceLT]
    · rw [b2_no q]
      have q1 : ¬ fC w = 48 := fun z => q (Or.inl z)
      have q2 : ¬ fC w = 144 := fun z => q (Or.inr z)
      simp only [e339_35, Option.getD_some, Option.bind_some, Option.toList_some, Option.toList_none, List.cons_append, List.nil_append, and_self, and_true, true_and, false_and, and_false, ite_self, not_true_eq_false, not_false_eq_true, reduceIte, Nat.reduceEqDiff, ab_I, ab_L, ab_R, ao_I, ao_L, ao_R, gL_sL, gI_sI, gR_sR, gI_sL, gI_sR, gL_sI, gL_sR, gR_sI, gR_sL, d9, c8, c1, c2, q1, q2]
  rw [s142]
  by_cases q : isShf (fC w)
  · rw [b2_yes q]
    rcases q with q | q | q <;> simp only [e339_142, e339_166, Option.getD_some, Option.bind_some, Option.toList_some, Option.toList_none, List.cons_append, List.nil_append, and_self, and_true, true_and, false_and, and_false, ite_self, not_true_eq_false, not_false_eq_true, reduceIte, Nat.reduceEqDiff, ab_I, ab_L, ab_R, ao_I, ao_L, ao_R, gL_sL, gI_sI, gR_sR, gI_sL, gI_sR, gL_sI, gL_sR, gR_sI, gR_sL, q, Int.reduceEq]
  · rw [b2_no q]
    have q1 : ¬ fC w = 96 := fun z => q (Or.inl z)
    have q2 : ¬ fC w = 112 := fun z => q (Or.inr (Or.inl z))
    have q3 : ¬ fC w = 192 := fun z => q (Or.inr (Or.inr z))
    simp only [e339_142, Option.getD_some, Option.bind_some, Option.toList_some, Option.toList_none, List.cons_append, List.nil_append, and_self, and_true, true_and, false_and, and_false, ite_self, not_true_eq_false, not_false_eq_true, reduceIte, Nat.reduceEqDiff, ab_I, ab_L, ab_R, ao_I, ao_L, ao_R, gL_sL, gI_sI, gR_sR, gI_sL, gI_sR, gL_sI, gL_sR, gR_sI, gR_sL, q1, q2, q3]
theorem L339c : RR (lkB tb339) (B339_171, [some (mI (fOp w)), some (mI (fD w)), some (mI (fS w)), some (mI (fO w)), some (mI (fI w)), some (mI (fC w)), some (mI (b2 (rgt w))), some (mI (b2 (wid w))), some (mI (b2 (isQuo (fC w)))), none, none], [mI (b2 (isShf (fC w)))], σ) = RR (lkB tb339) (B339_206, [some (mI (fOp w)), some (mI (fD w)), some (mI (fS w)), some (mI (fO w)), some (mI (fI w)), some (mI (fC w)), some (mI (b2 (rgt w))), some (mI (b2 (wid w))), some (mI (b2 (isQuo (fC w)))), some (mI (b2 (isShf (fC w)))), none], [mI (b2 (aluA w))], σ) := by
  have f := (fld_rng w).2.2.1.1
  by_cases r : rgt w
  · by_cases s : 10 < fS w
    · rw [b2_no (p := aluA w) (fun q => by unfold aluA at q; rw [if_pos r] at q; omega)]
      simp only [e339_171, e339_193, Option.getD_some, Option.bind_some, Option.toList_some, Option.toList_none, List.cons_append, List.nil_append, and_self, and_true, true_and, false_and, and_false, ite_self, not_true_eq_false, not_false_eq_true, reduceIte, Nat.reduceEqDiff, ab_I, ab_L, ab_R, ao_I, ao_L, ao_R, gL_sL, gI_sI, gR_sR, gI_sL, gI_sR, gL_sI, gL_sR, gR_sI, gR_sL, b2_0', eq_true r, s]
    · by_cases i : fI w = 0
      · rw [b2_yes (p := aluA w) (by unfold aluA; rw [if_pos r]; exact ⟨by omega, i⟩)]
        simp only [e339_171, Option.getD_some, Option.bind_some, Option.toList_some, Option.toList_none, List.cons_append, List.nil_append, and_self, and_true, true_and, false_and, and_false, ite_self, not_true_eq_false, not_false_eq_true, reduceIte, Nat.reduceEqDiff, ab_I, ab_L, ab_R, ao_I, ao_L, ao_R, gL_sL, gI_sI, gR_sR, gI_sL, gI_sR, gL_sI, gL_sR, gR_sI, gR_sL, b2_0', eq_true r, s, eq_true i]
      · rw [b2_no (p := aluA w) (fun q => by unfold aluA at q; rw [if_pos r] at q; exact i q.2)]
        simp only [e339_171, e339_193, Option.getD_some, Option.bind_some, Option.toList_some, Option.toList_none, List.cons_append, List.nil_append, and_self, and_true, true_and, false_and, and_false, ite_self, not_true_eq_false, not_false_eq_true, reduceIte, Nat.reduceEqDiff, ab_I, ab_L, ab_R, ao_I, ao_L, ao_R, gL_sL, gI_sI, gR_sR, gI_sL, gI_sR, gL_sI, gL_sR, gR_sI, gR_sL, b2_0', eq_true r, s, i]
  · by_cases s : fS w = 0
    · rw [b2_yes (p := aluA w) (by unfold aluA; rw [if_neg r]; exact s)]
      simp only [e339_171, Option.getD_some, Option.bind_some, Option.toList_some, Option.toList_none, List.cons_append, List.nil_append, and_self, and_true, true_and, false_and, and_false, ite_self, not_true_eq_false, not_false_eq_true, reduceIte, Nat.reduceEqDiff, ab_I, ab_L, ab_R, ao_I, ao_L, ao_R, gL_sL, gI_sI, gR_sR, gI_sL, gI_sR, gL_sI, gL_sR, gR_sI, gR_sL, b2_0', r, eq_true s]
    · rw [b2_no (p := aluA w) (fun q => by unfold aluA at q; rw [if_neg r] at q; exact s q)]
      simp only [e339_171, Option.getD_some, Option.bind_some, Option.toList_some, Option.toList_none, List.cons_append, List.nil_append, and_self, and_true, true_and, false_and, and_false, ite_self, not_true_eq_false, not_false_eq_true, reduceIte, Nat.reduceEqDiff, ab_I, ab_L, ab_R, ao_I, ao_L, ao_R, gL_sL, gI_sI, gR_sR, gI_sL, gI_sR, gL_sI, gL_sR, gR_sI, gR_sL, b2_0', r, s]
theorem L339d : RR (lkB tb339) (B339_206, [some (mI (fOp w)), some (mI (fD w)), some (mI (fS w)), some (mI (fO w)), some (mI (fI w)), some (mI (fC w)), some (mI (b2 (rgt w))), some (mI (b2 (wid w))), some (mI (b2 (isQuo (fC w)))), some (mI (b2 (isShf (fC w)))), none], [mI (b2 (aluA w))], σ) = RR (lkB tb339) (B339_268, [some (mI (fOp w)), some (mI (fD w)), some (mI (fS w)), some (mI (fO w)), some (mI (fI w)), some (mI (fC w)), some (mI (b2 (rgt w))), some (mI (b2 (wid w))), some (mI (b2 (isQuo (fC w)))), some (mI (b2 (isShf (fC w)))), some (mI (b2 (aluA w)))], [mI (b2 (aluA w ∧ aluB w))], σ) := by
  by_cases A : aluA w
  · by_cases o0 : fO w = 0
    · rw [b2_yes (p := aluA w ∧ aluB w) ⟨A, Or.inl o0⟩]
      simp only [e339_206, e339_263, Option.getD_some, Option.bind_some, Option.toList_some, Option.toList_none, List.cons_append, List.nil_append, and_self, and_true, true_and, false_and, and_false, ite_self, not_true_eq_false, not_false_eq_true, reduceIte, Nat.reduceEqDiff, ab_I, ab_L, ab_R, ao_I, ao_L, ao_R, gL_sL, gI_sI, gR_sR, gI_sL, gI_sR, gL_sI, gL_sR, gR_sI, gR_sL, b2_0', eq_true A, eq_true o0]
    · by_cases qq : isQuo (fC w) ∧ fO w = 1
      · rw [b2_yes (p := aluA w ∧ aluB w) ⟨A, Or.inr (Or.inl qq)⟩]
        simp only [e339_206, e339_263, Option.getD_some, Option.bind_some, Option.toList_some, Option.toList_none, List.cons_append, List.nil_append, and_self, and_true, true_and, false_and, and_false, ite_self, not_true_eq_false, not_false_eq_true, reduceIte, Nat.reduceEqDiff, ab_I, ab_L, ab_R, ao_I, ao_L, ao_R, gL_sL, gI_sI, gR_sR, gI_sL, gI_sR, gL_sI, gL_sR, gR_sI, gR_sL, b2_0', eq_true A, o0, eq_true qq.1, eq_true qq.2]
      · have s227 : RR (lkB tb339) (B339_206, [some (mI (fOp w)), some (mI (fD w)), some (mI (fS w)), some (mI (fO w)), some (mI (fI w)), some (mI (fC w)), some (mI (b2 (rgt w))), some (mI (b2 (wid w))), some (mI (b2 (isQuo (fC w)))), some (mI (b2 (isShf (fC w)))), none], [mI (b2 (aluA w))], σ) = RR (lkB tb339) (B339_227, [some (mI (fOp w)), some (mI (fD w)), some (mI (fS w)), some (mI (fO w)), some (mI (fI w)), some (mI (fC w)), some (mI (b2 (rgt w))), some (mI (b2 (wid w))), some (mI (b2 (isQuo (fC w)))), some (mI (b2 (isShf (fC w)))), some (mI (b2 (aluA w)))], [], σ) := by
          by_cases q : isQuo (fC w)
          · have o1 : ¬ fO w = 1 := fun z => qq ⟨q, z⟩
            simp only [e339_206, Option.getD_some, Option.bind_some, Option.toList_some, Option.toList_none, List.cons_append, List.nil_append, and_self, and_true, true_and, false_and, and_false, ite_self, not_true_eq_false, not_false_eq_true, reduceIte, Nat.reduceEqDiff, ab_I, ab_L, ab_R, ao_I, ao_L, ao_R, gL_sL, gI_sI, gR_sR, gI_sL, gI_sR, gL_sI, gL_sR, gR_sI, gR_sL, b2_0', eq_true A, o0, eq_true q, o1]
          · simp only [e339_206, Option.getD_some, Option.bind_some, Option.toList_some, Option.toList_none, List.cons_append, List.nil_append, and_self, and_true, true_and, false_and, and_false, ite_self, not_true_eq_false, not_false_eq_true, reduceIte, Nat.reduceEqDiff, ab_I, ab_L, ab_R, ao_I, ao_L, ao_R, gL_sL, gI_sI, gR_sR, gI_sL, gI_sR, gL_sI, gL_sR, gR_sI, gR_sL, b2_0', eq_true A, o0, q]
        rw [s227]
        by_cases m : fC w = 176
        · by_cases r : rgt w
          · by_cases o8 : fO w = 8
            · rw [b2_yes (p := aluA w ∧ aluB w) ⟨A, Or.inr (Or.inr ⟨⟨m, r⟩, Or.inl o8⟩)⟩]
              simp only [e339_227, e339_263, Option.getD_some, Option.bind_some, Option.toList_some, Option.toList_none, List.cons_append, List.nil_append, and_self, and_true, true_and, false_and, and_false, ite_self, not_true_eq_false, not_false_eq_true, reduceIte, Nat.reduceEqDiff, ab_I, ab_L, ab_R, ao_I, ao_L, ao_R, gL_sL, gI_sI, gR_sR, gI_sL, gI_sR, gL_sI, gL_sR, gR_sI, gR_sL, b2_0', eq_true m, eq_true r, eq_true o8]
            · by_cases o16 : fO w = 16
              · rw [b2_yes (p := aluA w ∧ aluB w) ⟨A, Or.inr (Or.inr ⟨⟨m, r⟩, Or.inr (Or.inl o16)⟩)⟩]
                simp only [e339_227, e339_263, Option.getD_some, Option.bind_some, Option.toList_some, Option.toList_none, List.cons_append, List.nil_append, and_self, and_true, true_and, false_and, and_false, ite_self, not_true_eq_false, not_false_eq_true, reduceIte, Nat.reduceEqDiff, ab_I, ab_L, ab_R, ao_I, ao_L, ao_R, gL_sL, gI_sI, gR_sR, gI_sL, gI_sR, gL_sI, gL_sR, gR_sI, gR_sL, b2_0', eq_true m, eq_true r, o8, eq_true o16]
              · by_cases wd : wid w
                · by_cases o32 : fO w = 32
                  · rw [b2_yes (p := aluA w ∧ aluB w) ⟨A, Or.inr (Or.inr ⟨⟨m, r⟩, Or.inr (Or.inr ⟨wd, o32⟩)⟩)⟩]
                    simp only [e339_227, e339_263, Option.getD_some, Option.bind_some, Option.toList_some, Option.toList_none, List.cons_append, List.nil_append, and_self, and_true, true_and, false_and, and_false, ite_self, not_true_eq_false, not_false_eq_true, reduceIte, Nat.reduceEqDiff, ab_I, ab_L, ab_R, ao_I, ao_L, ao_R, gL_sL, gI_sI, gR_sR, gI_sL, gI_sR, gL_sI, gL_sR, gR_sI, gR_sL, b2_0', eq_true m, eq_true r, o8, o16, eq_true wd, eq_true o32]
                  · rw [b2_no (p := aluA w ∧ aluB w) (fun z => z.2.elim o0 (fun z => z.elim qq (fun z => z.2.elim o8 (fun z => z.elim o16 (fun z => o32 z.2)))))]
                    simp only [e339_227, e339_267, Option.getD_some, Option.bind_some, Option.toList_some, Option.toList_none, List.cons_append, List.nil_append, and_self, and_true, true_and, false_and, and_false, ite_self, not_true_eq_false, not_false_eq_true, reduceIte, Nat.reduceEqDiff, ab_I, ab_L, ab_R, ao_I, ao_L, ao_R, gL_sL, gI_sI, gR_sR, gI_sL, gI_sR, gL_sI, gL_sR, gR_sI, gR_sL, b2_0', eq_true m, eq_true r, o8, o16, eq_true wd, o32]
                · rw [b2_no (p := aluA w ∧ aluB w) (fun z => z.2.elim o0 (fun z => z.elim qq (fun z => z.2.elim o8 (fun z => z.elim o16 (fun z => wd z.1)))))]
                  simp only [e339_227, e339_267, Option.getD_some, Option.bind_some, Option.toList_some, Option.toList_none, List.cons_append, List.nil_append, and_self, and_true, true_and, false_and, and_false, ite_self, not_true_eq_false, not_false_eq_true, reduceIte, Nat.reduceEqDiff, ab_I, ab_L, ab_R, ao_I, ao_L, ao_R, gL_sL, gI_sI, gR_sR, gI_sL, gI_sR, gL_sI, gL_sR, gR_sI, gR_sL, b2_0', eq_true m, eq_true r, o8, o16, wd]
          · rw [b2_no (p := aluA w ∧ aluB w) (fun z => z.2.elim o0 (fun z => z.elim qq (fun z => r z.1.2)))]
            simp only [e339_227, e339_267, Option.getD_some, Option.bind_some, Option.toList_some, Option.toList_none, List.cons_append, List.nil_append, and_self, and_true, true_and, false_and, and_false, ite_self, not_true_eq_false, not_false_eq_true, reduceIte, Nat.reduceEqDiff, ab_I, ab_L, ab_R, ao_I, ao_L, ao_R, gL_sL, gI_sI, gR_sR, gI_sL, gI_sR, gL_sI, gL_sR, gR_sI, gR_sL, b2_0', eq_true m, r]
        · rw [b2_no (p := aluA w ∧ aluB w) (fun z => z.2.elim o0 (fun z => z.elim qq (fun z => m z.1.1)))]
          simp only [e339_227, e339_267, Option.getD_some, Option.bind_some, Option.toList_some, Option.toList_none, List.cons_append, List.nil_append, and_self, and_true, true_and, false_and, and_false, ite_self, not_true_eq_false, not_false_eq_true, reduceIte, Nat.reduceEqDiff, ab_I, ab_L, ab_R, ao_I, ao_L, ao_R, gL_sL, gI_sI, gR_sR, gI_sL, gI_sR, gL_sI, gL_sR, gR_sI, gR_sL, m]
  · rw [b2_no (p := aluA w ∧ aluB w) (fun q => A q.1)]
    simp only [e339_206, e339_267, Option.getD_some, Option.bind_some, Option.toList_some, Option.toList_none, List.cons_append, List.nil_append, and_self, and_true, true_and, false_and, and_false, ite_self, not_true_eq_false, not_false_eq_true, reduceIte, Nat.reduceEqDiff, ab_I, ab_L, ab_R, ao_I, ao_L, ao_R, gL_sL, gI_sI, gR_sR, gI_sL, gI_sR, gL_sI, gL_sR, gR_sI, gR_sL, b2_0', A]
theorem L339e {x10 : Int} : RR (lkB tb339) (B339_268, [some (mI (fOp w)), some (mI (fD w)), some (mI (fS w)), some (mI (fO w)), some (mI (fI w)), some (mI (fC w)), some (mI (b2 (rgt w))), some (mI (b2 (wid w))), some (mI (b2 (isQuo (fC w)))), some (mI (b2 (isShf (fC w)))), some (mI x10)], [mI (b2 (aluA w ∧ aluB w))], σ) = some (some (mI (b2 ((aluA w ∧ aluB w) ∧ aluC w ∧ aluD w))), σ) := by
  have s295 : RR (lkB tb339) (B339_268, [some (mI (fOp w)), some (mI (fD w)), some (mI (fS w)), some (mI (fO w)), some (mI (fI w)), some (mI (fC w)), some (mI (b2 (rgt w))), some (mI (b2 (wid w))), some (mI (b2 (isQuo (fC w)))), some (mI (b2 (isShf (fC w)))), some (mI x10)], [mI (b2 (aluA w ∧ aluB w))], σ) = RR (lkB tb339) (B339_295, [some (mI (fOp w)), some (mI (fD w)), some (mI (fS w)), some (mI (fO w)), some (mI (fI w)), some (mI (fC w)), some (mI (b2 (rgt w))), some (mI (b2 (wid w))), some (mI (b2 (isQuo (fC w)))), some (mI (b2 (isShf (fC w)))), some (mI (b2 (aluA w ∧ aluB w)))], [mI (b2 ((aluA w ∧ aluB w) ∧ aluC w))], σ) := by
    by_cases A : aluA w ∧ aluB w
    · rw [b2_yes A]
      by_cases r : rgt w
      · rw [b2_yes (p := (aluA w ∧ aluB w) ∧ aluC w) ⟨A, Or.inl r⟩]
        simp only [e339_268, e339_290, Option.getD_some, Option.bind_some, Option.toList_some, Option.toList_none, List.cons_append, List.nil_append, and_self, and_true, true_and, false_and, and_false, ite_self, not_true_eq_false, not_false_eq_true, reduceIte, Nat.reduceEqDiff, ab_I, ab_L, ab_R, ao_I, ao_L, ao_R, gL_sL, gI_sI, gR_sR, gI_sL, gI_sR, gL_sI, gL_sR, gR_sI, gR_sL, oneI, b2_n', eq_true r]
      · by_cases q : isQuo (fC w)
        · by_cases i : fI w = 0
          · rw [b2_no (p := (aluA w ∧ aluB w) ∧ aluC w) (fun z => z.2.elim r (fun z => z.elim (fun z => z q) (fun z => z i)))]
            simp only [e339_268, e339_294, Option.getD_some, Option.bind_some, Option.toList_some, Option.toList_none, List.cons_append, List.nil_append, and_self, and_true, true_and, false_and, and_false, ite_self, not_true_eq_false, not_false_eq_true, reduceIte, Nat.reduceEqDiff, ab_I, ab_L, ab_R, ao_I, ao_L, ao_R, gL_sL, gI_sI, gR_sR, gI_sL, gI_sR, gL_sI, gL_sR, gR_sI, gR_sL, oneI, b2_n', b2_0', r, eq_true q, eq_true i]
          · rw [b2_yes (p := (aluA w ∧ aluB w) ∧ aluC w) ⟨A, Or.inr (Or.inr i)⟩]
            simp only [e339_268, e339_290, Option.getD_some, Option.bind_some, Option.toList_some, Option.toList_none, List.cons_append, List.nil_append, and_self, and_true, true_and, false_and, and_false, ite_self, not_true_eq_false, not_false_eq_true, reduceIte, Nat.reduceEqDiff, ab_I, ab_L, ab_R, ao_I, ao_L, ao_R, gL_sL, gI_sI, gR_sR, gI_sL, gI_sR, gL_sI, gL_sR, gR_sI, gR_sL, oneI, b2_n', b2_0', r, eq_true q, i]
        · rw [b2_yes (p := (aluA w ∧ aluB w) ∧ aluC w) ⟨A, Or.inr (Or.inl q)⟩]
          simp only [e339_268, e339_290, Option.getD_some, Option.bind_some, Option.toList_some, Option.toList_none, List.cons_append, List.nil_append, and_self, and_true, true_and, false_and, and_false, ite_self, not_true_eq_false, not_false_eq_true, reduceIte, Nat.reduceEqDiff, ab_I, ab_L, ab_R, ao_I, ao_L, ao_R, gL_sL, gI_sI, gR_sR, gI_sL, gI_sR, gL_sI, gL_sR, gR_sI, gR_sL, oneI, b2_n', b2_0', r, q]
    · rw [b2_no A, b2_no (p := (aluA w ∧ aluB w) ∧ aluC w) (fun z => A z.1)]
      simp only [e339_268, e339_294, Option.getD_some, Option.bind_some, Option.toList_some, Option.toList_none, List.cons_append, List.nil_append, and_self, and_true, true_and, false_and, and_false, ite_self, not_true_eq_false, not_false_eq_true, reduceIte, Nat.reduceEqDiff, ab_I, ab_L, ab_R, ao_I, ao_L, ao_R, gL_sL, gI_sI, gR_sR, gI_sL, gI_sR, gL_sI, gL_sR, gR_sI, gR_sL]
  rw [s295]
  by_cases A : (aluA w ∧ aluB w) ∧ aluC w
  · rw [b2_yes A]
    by_cases r : rgt w
    · rw [b2_yes (p := (aluA w ∧ aluB w) ∧ aluC w ∧ aluD w) ⟨A.1, A.2, Or.inl r⟩]
      simp only [e339_295, e339_334, Option.getD_some, Option.bind_some, Option.toList_some, Option.toList_none, List.cons_append, List.nil_append, and_self, and_true, true_and, false_and, and_false, ite_self, not_true_eq_false, not_false_eq_true, reduceIte, Nat.reduceEqDiff, ab_I, ab_L, ab_R, ao_I, ao_L, ao_R, gL_sL, gI_sI, gR_sR, gI_sL, gI_sR, gL_sI, gL_sR, gR_sI, gR_sL, oneI, b2_n', eq_true r]
    · by_cases q : isShf (fC w)
      · by_cases i : fI w < 0
        · rw [b2_no (p := (aluA w ∧ aluB w) ∧ aluC w ∧ aluD w) (fun z => z.2.2.elim r (fun z => z.elim (fun z => z q) (fun z => by omega)))]
          simp only [e339_295, e339_338, Option.getD_some, Option.bind_some, Option.toList_some, Option.toList_none, List.cons_append, List.nil_append, and_self, and_true, true_and, false_and, and_false, ite_self, not_true_eq_false, not_false_eq_true, reduceIte, Nat.reduceEqDiff, ab_I, ab_L, ab_R, ao_I, ao_L, ao_R, gL_sL, gI_sI, gR_sR, gI_sL, gI_sR, gL_sI, gL_sR, gR_sI, gR_sL, oneI, b2_n', b2_0', r, eq_true q, i]
        · by_cases wd : wid w
          · by_cases l : 63 < fI w
            · rw [b2_no (p := (aluA w ∧ aluB w) ∧ aluC w ∧ aluD w) (fun z => z.2.2.elim r (fun z => z.elim (fun z => z q) (fun z => by rw [if_pos wd] at z; omega)))]
              simp only [e339_295, e339_331, e339_338, Option.getD_some, Option.bind_some, Option.toList_some, Option.toList_none, List.cons_append, List.nil_append, and_self, and_true, true_and, false_and, and_false, ite_self, not_true_eq_false, not_false_eq_true, reduceIte, Nat.reduceEqDiff, ab_I, ab_L, ab_R, ao_I, ao_L, ao_R, gL_sL, gI_sI, gR_sR, gI_sL, gI_sR, gL_sI, gL_sR, gR_sI, gR_sL, oneI, b2_n', b2_0', r, eq_true q, i, eq_true wd, l]
            · rw [b2_yes (p := (aluA w ∧ aluB w) ∧ aluC w ∧ aluD w) ⟨A.1, A.2, Or.inr (Or.inr (by rw [if_pos wd]; omega))⟩]
              simp only [e339_295, e339_331, e339_334, Option.getD_some, Option.bind_some, Option.toList_some, Option.toList_none, List.cons_append, List.nil_append, and_self, and_true, true_and, false_and, and_false, ite_self, not_true_eq_false, not_false_eq_true, reduceIte, Nat.reduceEqDiff, ab_I, ab_L, ab_R, ao_I, ao_L, ao_R, gL_sL, gI_sI, gR_sR, gI_sL, gI_sR, gL_sI, gL_sR, gR_sI, gR_sL, oneI, b2_n', b2_0', r, eq_true q, i, eq_true wd, l]
          · by_cases l : 31 < fI w
            · rw [b2_no (p := (aluA w ∧ aluB w) ∧ aluC w ∧ aluD w) (fun z => z.2.2.elim r (fun z => z.elim (fun z => z q) (fun z => by rw [if_neg wd] at z; omega)))]
              simp only [e339_295, e339_331, e339_338, Option.getD_some, Option.bind_some, Option.toList_some, Option.toList_none, List.cons_append, List.nil_append, and_self, and_true, true_and, false_and, and_false, ite_self, not_true_eq_false, not_false_eq_true, reduceIte, Nat.reduceEqDiff, ab_I, ab_L, ab_R, ao_I, ao_L, ao_R, gL_sL, gI_sI, gR_sR, gI_sL, gI_sR, gL_sI, gL_sR, gR_sI, gR_sL, oneI, b2_n', b2_0', r, eq_true q, i, wd, l]
            · rw [b2_yes (p := (aluA w ∧ aluB w) ∧ aluC w ∧ aluD w) ⟨A.1, A.2, Or.inr (Or.inr (by rw [if_neg wd]; omega))⟩]
              simp only [e339_295, e339_331, e339_334, Option.getD_some, Option.bind_some, Option.toList_some, Option.toList_none, List.cons_append, List.nil_append, and_self, and_true, true_and, false_and, and_false, ite_self, not_true_eq_false, not_false_eq_true, reduceIte, Nat.reduceEqDiff, ab_I, ab_L, ab_R, ao_I, ao_L, ao_R, gL_sL, gI_sI, gR_sR, gI_sL, gI_sR, gL_sI, gL_sR, gR_sI, gR_sL, oneI, b2_n', b2_0', r, eq_true q, i, wd, l]
      · rw [b2_yes (p := (aluA w ∧ aluB w) ∧ aluC w ∧ aluD w) ⟨A.1, A.2, Or.inr (Or.inl q)⟩]
        simp only [e339_295, e339_334, Option.getD_some, Option.bind_some, Option.toList_some, Option.toList_none, List.cons_append, List.nil_append, and_self, and_true, true_and, false_and, and_false, ite_self, not_true_eq_false, not_false_eq_true, reduceIte, Nat.reduceEqDiff, ab_I, ab_L, ab_R, ao_I, ao_L, ao_R, gL_sL, gI_sI, gR_sR, gI_sL, gI_sR, gL_sI, gL_sR, gR_sI, gR_sL, oneI, b2_n', b2_0', r, q]
  · rw [b2_no A, b2_no (p := (aluA w ∧ aluB w) ∧ aluC w ∧ aluD w) (fun z => A ⟨z.1, z.2.1⟩)]
    simp only [e339_295, e339_338, Option.getD_some, Option.bind_some, Option.toList_some, Option.toList_none, List.cons_append, List.nil_append, and_self, and_true, true_and, false_and, and_false, ite_self, not_true_eq_false, not_false_eq_true, reduceIte, Nat.reduceEqDiff, ab_I, ab_L, ab_R, ao_I, ao_L, ao_R, gL_sL, gI_sI, gR_sR, gI_sL, gI_sR, gL_sI, gL_sR, gR_sI, gR_sL]
theorem T339 : MM 339 [mI (fOp w), mI (fD w), mI (fS w), mI (fO w), mI (fI w)] σ = some (some (mI (b2 (okAlu w))), σ) := by
  rw [L339a]
  by_cases d9 : 9 < fD w
  · rw [b2_no (p := okAlu w) (fun q => by have := q.1.1; omega)]
    simp only [e339_35, Option.getD_some, Option.bind_some, Option.toList_some, Option.toList_none, List.cons_append, List.nil_append, and_self, and_true, true_and, false_and, and_false, ite_self, not_true_eq_false, not_false_eq_true, reduceIte, Nat.reduceEqDiff, ab_I, ab_L, ab_R, ao_I, ao_L, ao_R, gL_sL, gI_sI, gR_sR, gI_sL, gI_sR, gL_sI, gL_sR, gR_sI, gR_sL, d9]
  · by_cases c8 : fC w ≤ 208
    · by_cases c1 : fC w = 208
      · have ok : okAlu w ↔ ¬ fOp w = 223 ∧ fS w = 0 ∧ fO w = 0 ∧ (fI w = 16 ∨ fI w = 32 ∨ fI w = 64) := by
          unfold okAlu
          rw [if_pos c1]
          exact ⟨fun q => q.2, fun q => ⟨⟨by omega, c8⟩, q⟩⟩
        rw [b2_c (e := inferInstance) ok]
        by_cases o : fOp w = 223
        · rw [b2_no (p := ¬ fOp w = 223 ∧ fS w = 0 ∧ fO w = 0 ∧ (fI w = 16 ∨ fI w = 32 ∨ fI w = 64)) (fun q => q.1 o)]
          simp only [e339_35, e339_88, Option.getD_some, Option.bind_some, Option.toList_some, Option.toList_none, List.cons_append, List.nil_append, and_self, and_true, true_and, false_and, and_false, ite_self, not_true_eq_false, not_false_eq_true, reduceIte, Nat.reduceEqDiff, ab_I, ab_L, ab_R, ao_I, ao_L, ao_R, gL_sL, gI_sI, gR_sR, gI_sL, gI_sR, gL_sI, gL_sR, gR_sI, gR_sL, d9, c1, Int.reduceLE, o]
        · by_cases s : fS w = 0
          · by_cases oo : fO w = 0
            · by_cases i : fI w = 16 ∨ fI w = 32 ∨ fI w = 64
              · rw [b2_yes (p := ¬ fOp w = 223 ∧ fS w = 0 ∧ fO w = 0 ∧ (fI w = 16 ∨ fI w = 32 ∨ fI w = 64)) ⟨o, s, oo, i⟩]
                simp only [e339_35, e339_81, Option.getD_some, Option.bind_some, Option.toList_some, Option.toList_none, List.cons_append, List.nil_append, and_self, and_true, true_and, false_and, and_false, ite_self, not_true_eq_false, not_false_eq_true, reduceIte, Nat.reduceEqDiff, ab_I, ab_L, ab_R, ao_I, ao_L, ao_R, gL_sL, gI_sI, gR_sR, gI_sL, gI_sR, gL_sI, gL_sR, gR_sI, gR_sL, d9, c1, Int.reduceLE, o, eq_true s, eq_true oo, T338, b2_0', i]
              · rw [b2_no (p := ¬ fOp w = 223 ∧ fS w = 0 ∧ fO w = 0 ∧ (fI w = 16 ∨ fI w = 32 ∨ fI w = 64)) (fun q => i q.2.2.2)]
                simp only [e339_35, e339_81, e339_88, Option.getD_some, Option.bind_some, Option.toList_some, Option.toList_none, List.cons_append, List.nil_append, and_self, and_true, true_and, false_and, and_false, ite_self, not_true_eq_false, not_false_eq_true, reduceIte, Nat.reduceEqDiff, ab_I, ab_L, ab_R, ao_I, ao_L, ao_R, gL_sL, gI_sI, gR_sR, gI_sL, gI_sR, gL_sI, gL_sR, gR_sI, gR_sL, d9, c1, Int.reduceLE, o, eq_true s, eq_true oo, T338, b2_0', i]
            · rw [b2_no (p := ¬ fOp w = 223 ∧ fS w = 0 ∧ fO w = 0 ∧ (fI w = 16 ∨ fI w = 32 ∨ fI w = 64)) (fun q => oo q.2.2.1)]
              simp only [e339_35, e339_88, Option.getD_some, Option.bind_some, Option.toList_some, Option.toList_none, List.cons_append, List.nil_append, and_self, and_true, true_and, false_and, and_false, ite_self, not_true_eq_false, not_false_eq_true, reduceIte, Nat.reduceEqDiff, ab_I, ab_L, ab_R, ao_I, ao_L, ao_R, gL_sL, gI_sI, gR_sR, gI_sL, gI_sR, gL_sI, gL_sR, gR_sI, gR_sL, d9, c1, Int.reduceLE, o, eq_true s, oo]
          · rw [b2_no (p := ¬ fOp w = 223 ∧ fS w = 0 ∧ fO w = 0 ∧ (fI w = 16 ∨ fI w = 32 ∨ fI w = 64)) (fun q => s q.2.1)]
            simp only [e339_35, e339_88, Option.getD_some, Option.bind_some, Option.toList_some, Option.toList_none, List.cons_append, List.nil_append, and_self, and_true, true_and, false_and, and_false, ite_self, not_true_eq_false, not_false_eq_true, reduceIte, Nat.reduceEqDiff, ab_I, ab_L, ab_R, ao_I, ao_L, ao_R, gL_sL, gI_sI, gR_sR, gI_sL, gI_sR, gL_sI, gL_sR, gR_sI, gR_sL, d9, c1, Int.reduceLE, o, s]
      · by_cases c2 : fC w = 128
        · have ok : okAlu w ↔ ¬ rgt w ∧ fS w = 0 ∧ fO w = 0 ∧ fI w = 0 := by
            unfold okAlu
            rw [if_neg c1, if_pos c2]
            exact ⟨fun q => q.2, fun q => ⟨⟨by omega, c8⟩, q⟩⟩
          rw [b2_c (e := inferInstance) ok]
          by_cases r : rgt w
          · rw [b2_no (p := ¬ rgt w ∧ fS w = 0 ∧ fO w = 0 ∧ fI w = 0) (fun q => q.1 r)]
            simp only [e339_35, e339_120, Option.getD_some, Option.bind_some, Option.toList_some, Option.toList_none, List.cons_append, List.nil_append, and_self, and_true, true_and, false_and, and_false, ite_self, not_true_eq_false, not_false_eq_true, reduceIte, Nat.reduceEqDiff, ab_I, ab_L, ab_R, ao_I, ao_L, ao_R, gL_sL, gI_sI, gR_sR, gI_sL, gI_sR, gL_sI, gL_sR, gR_sI, gR_sL, d9, c2, Int.reduceLE, Int.reduceEq, b2_n', eq_true r]
          · by_cases s : fS w = 0
            · by_cases oo : fO w = 0
              · by_cases i : fI w = 0
                · rw [b2_yes (p := ¬ rgt w ∧ fS w = 0 ∧ fO w = 0 ∧ fI w = 0) ⟨r, s, oo, i⟩]
                  simp only [e339_35, Option.getD_some, Option.bind_some, Option.toList_some, Option.toList_none, List.cons_append, List.nil_append, and_self, and_true, true_and, false_and, and_false, ite_self, not_true_eq_false, not_false_eq_true, reduceIte, Nat.reduceEqDiff, ab_I, ab_L, ab_R, ao_I, ao_L, ao_R, gL_sL, gI_sI, gR_sR, gI_sL, gI_sR, gL_sI, gL_sR, gR_sI, gR_sL, d9, c2, Int.reduceLE, Int.reduceEq, b2_n', r, eq_true s, eq_true oo, eq_true i]
                · rw [b2_no (p := ¬ rgt w ∧ fS w = 0 ∧ fO w = 0 ∧ fI w = 0) (fun q => i q.2.2.2)]
                  simp only [e339_35, e339_120, Option.getD_some, Option.bind_some, Option.toList_some, Option.toList_none, List.cons_append, List.nil_append, and_self, and_true, true_and, false_and, and_false, ite_self, not_true_eq_false, not_false_eq_true, reduceIte, Nat.reduceEqDiff, ab_I, ab_L, ab_R, ao_I, ao_L, ao_R, gL_sL, gI_sI, gR_sR, gI_sL, gI_sR, gL_sI, gL_sR, gR_sI, gR_sL, d9, c2, Int.reduceLE, Int.reduceEq, b2_n', r, eq_true s, eq_true oo, i]
              · rw [b2_no (p := ¬ rgt w ∧ fS w = 0 ∧ fO w = 0 ∧ fI w = 0) (fun q => oo q.2.2.1)]
                simp only [e339_35, e339_120, Option.getD_some, Option.bind_some, Option.toList_some, Option.toList_none, List.cons_append, List.nil_append, and_self, and_true, true_and, false_and, and_false, ite_self, not_true_eq_false, not_false_eq_true, reduceIte, Nat.reduceEqDiff, ab_I, ab_L, ab_R, ao_I, ao_L, ao_R, gL_sL, gI_sI, gR_sR, gI_sL, gI_sR, gL_sI, gL_sR, gR_sI, gR_sL, d9, c2, Int.reduceLE, Int.reduceEq, b2_n', r, eq_true s, oo]
            · rw [b2_no (p := ¬ rgt w ∧ fS w = 0 ∧ fO w = 0 ∧ fI w = 0) (fun q => s q.2.1)]
              simp only [e339_35, e339_120, Option.getD_some, Option.bind_some, Option.toList_some, Option.toList_none, List.cons_append, List.nil_append, and_self, and_true, true_and, false_and, and_false, ite_self, not_true_eq_false, not_false_eq_true, reduceIte, Nat.reduceEqDiff, ab_I, ab_L, ab_R, ao_I, ao_L, ao_R, gL_sL, gI_sI, gR_sR, gI_sL, gI_sR, gL_sI, gL_sR, gR_sI, gR_sL, d9, c2, Int.reduceLE, Int.reduceEq, b2_n', r, s]
        · have ok : okAlu w ↔ (aluA w ∧ aluB w) ∧ aluC w ∧ aluD w := by
            unfold okAlu
            rw [if_neg c1, if_neg c2]
            exact ⟨fun q => ⟨⟨q.2.1, q.2.2.1⟩, q.2.2.2.1, q.2.2.2.2⟩, fun q => ⟨⟨by omega, c8⟩, q.1.1, q.1.2, q.2.1, q.2.2⟩⟩
          rw [b2_c (e := inferInstance) ok, L339b d9 c8 c1 c2, L339c, L339d, L339e]
    · rw [b2_no (p := okAlu w) (fun q => c8 q.1.2)]
      simp only [e339_35, Option.getD_some, Option.bind_some, Option.toList_some, Option.toList_none, List.cons_append, List.nil_append, and_self, and_true, true_and, false_and, and_false, ite_self, not_true_eq_false, not_false_eq_true, reduceIte, Nat.reduceEqDiff, ab_I, ab_L, ab_R, ao_I, ao_L, ao_R, gL_sL, gI_sI, gR_sR, gI_sL, gI_sR, gL_sI, gL_sR, gR_sI, gR_sL, d9, c8]
theorem T341 : MM 341 [mI (fOp w), mI (fD w), mI (fS w), mI (fO w), mI (fI w)] σ = some (some (mI (b2 (okJmp w))), σ) := by
  have f := fld_rng w
  by_cases c5 : fOp w = 5
  · have ok : okJmp w ↔ fD w = 0 ∧ fS w = 0 ∧ fI w = 0 := by
      unfold okJmp
      rw [if_pos c5]
    rw [b2_c (e := inferInstance) ok]
    simp only [M341, e341_0, e341_22, Option.getD_some, Option.bind_some, Option.toList_some, Option.toList_none, List.cons_append, List.nil_append, and_self, and_true, true_and, false_and, and_false, ite_self, not_true_eq_false, not_false_eq_true, reduceIte, Nat.reduceEqDiff, ab_I, ab_L, ab_R, ao_I, ao_L, ao_R, gL_sL, gI_sI, gR_sR, gI_sL, gI_sR, gL_sI, gL_sR, gR_sI, gR_sL, c5]
    unfold b2
    grind
  · by_cases c6 : fOp w = 6
    · have ok : okJmp w ↔ fD w = 0 ∧ fS w = 0 ∧ fO w = 0 := by
        unfold okJmp
        rw [if_neg c5, if_pos c6]
      rw [b2_c (e := inferInstance) ok]
      simp only [M341, e341_0, e341_46, Option.getD_some, Option.bind_some, Option.toList_some, Option.toList_none, List.cons_append, List.nil_append, and_self, and_true, true_and, false_and, and_false, ite_self, not_true_eq_false, not_false_eq_true, reduceIte, Nat.reduceEqDiff, ab_I, ab_L, ab_R, ao_I, ao_L, ao_R, gL_sL, gI_sI, gR_sR, gI_sL, gI_sR, gL_sI, gL_sR, gR_sI, gR_sL, c6, Int.reduceEq]
      unfold b2
      grind
    · by_cases c133 : fOp w = 133
      · have ok : okJmp w ↔ (fD w = 0 ∧ fO w = 0) ∧ (fS w = 0 ∧ 0 ≤ fI w ∨ fS w = 1) := by
          unfold okJmp
          rw [if_neg c5, if_neg c6, if_pos c133]
        rw [b2_c (e := inferInstance) ok]
        simp only [M341, e341_0, e341_72, e341_77, e341_81, Option.getD_some, Option.bind_some, Option.toList_some, Option.toList_none, List.cons_append, List.nil_append, and_self, and_true, true_and, false_and, and_false, ite_self, not_true_eq_false, not_false_eq_true, reduceIte, Nat.reduceEqDiff, ab_I, ab_L, ab_R, ao_I, ao_L, ao_R, gL_sL, gI_sI, gR_sR, gI_sL, gI_sR, gL_sI, gL_sR, gR_sI, gR_sL, c133, Int.reduceEq]
        unfold b2
        grind
      · by_cases c149 : fOp w = 149
        · have ok : okJmp w ↔ fD w = 0 ∧ fS w = 0 ∧ fO w = 0 ∧ fI w = 0 := by
            unfold okJmp
            rw [if_neg c5, if_neg c6, if_neg c133, if_pos c149]
          rw [b2_c (e := inferInstance) ok]
          simp only [M341, e341_0, e341_111, Option.getD_some, Option.bind_some, Option.toList_some, Option.toList_none, List.cons_append, List.nil_append, and_self, and_true, true_and, false_and, and_false, ite_self, not_true_eq_false, not_false_eq_true, reduceIte, Nat.reduceEqDiff, ab_I, ab_L, ab_R, ao_I, ao_L, ao_R, gL_sL, gI_sI, gR_sR, gI_sL, gI_sR, gL_sI, gL_sR, gR_sI, gR_sL, c149, Int.reduceEq]
          unfold b2
          grind
        · have ok : okJmp w ↔ (isCmpO (fOp w) ∧ fD w ≤ 10) ∧ (if rgt w then fS w ≤ 10 ∧ fI w = 0 else fS w = 0) := by
            unfold okJmp
            rw [if_neg c5, if_neg c6, if_neg c133, if_neg c149]
          rw [b2_c (e := inferInstance) ok]
          simp only [M341, e341_0, e341_117, e341_151, e341_155, Option.getD_some, Option.bind_some, Option.toList_some, Option.toList_none, List.cons_append, List.nil_append, and_self, and_true, true_and, false_and, and_false, ite_self, not_true_eq_false, not_false_eq_true, reduceIte, Nat.reduceEqDiff, ab_I, ab_L, ab_R, ao_I, ao_L, ao_R, gL_sL, gI_sI, gR_sR, gI_sL, gI_sR, gL_sI, gL_sR, gR_sI, gR_sL, c5, c6, c133, c149, T340, b2_0', m8r]
          unfold b2
          grind
theorem T342 (h : fL w = 1 ∨ fL w = 2 ∨ fL w = 3) : MM 342 [mI (fOp w), mI (fD w), mI (fS w), mI (fI w)] σ = some (some (mI (b2 (okMem w))), σ) := by
  have f := fld_rng w
  have fb : fB w = fOp w / 8 % 4 := rfl
  by_cases l1 : fL w = 1
  · have ok : okMem w ↔ (fM w = 96 ∨ fM w = 128 ∧ ¬ fB w = 3) ∧ fD w ≤ 9 ∧ fS w ≤ 10 ∧ fI w = 0 := by
      unfold okMem
      rw [if_pos l1]
    rw [b2_c (e := inferInstance) ok]
    simp only [M342, e342_0, e342_60, e342_80, Option.getD_some, Option.bind_some, Option.toList_some, Option.toList_none, List.cons_append, List.nil_append, and_self, and_true, true_and, false_and, and_false, ite_self, not_true_eq_false, not_false_eq_true, reduceIte, Nat.reduceEqDiff, ab_I, ab_L, ab_R, ao_I, ao_L, ao_R, gL_sL, gI_sI, gR_sR, gI_sL, gI_sR, gL_sI, gL_sR, gR_sI, gR_sL, m7, m224, m24, l1]
    unfold b2
    grind
  · by_cases l2 : fL w = 2
    · have ok : okMem w ↔ fM w = 96 ∧ fD w ≤ 10 ∧ fS w = 0 := by
        unfold okMem
        rw [if_neg l1, if_pos l2]
      rw [b2_c (e := inferInstance) ok]
      simp only [M342, e342_0, e342_103, Option.getD_some, Option.bind_some, Option.toList_some, Option.toList_none, List.cons_append, List.nil_append, and_self, and_true, true_and, false_and, and_false, ite_self, not_true_eq_false, not_false_eq_true, reduceIte, Nat.reduceEqDiff, ab_I, ab_L, ab_R, ao_I, ao_L, ao_R, gL_sL, gI_sI, gR_sR, gI_sL, gI_sR, gL_sI, gL_sR, gR_sI, gR_sL, m7, m224, l2, Int.reduceEq]
      unfold b2
      grind
    · by_cases m : fM w = 96
      · have ok : okMem w ↔ fD w ≤ 10 ∧ fS w ≤ 10 ∧ fI w = 0 := by
          unfold okMem
          rw [if_neg l1, if_neg l2, if_pos m]
        rw [b2_c (e := inferInstance) ok]
        simp only [M342, e342_0, e342_132, Option.getD_some, Option.bind_some, Option.toList_some, Option.toList_none, List.cons_append, List.nil_append, and_self, and_true, true_and, false_and, and_false, ite_self, not_true_eq_false, not_false_eq_true, reduceIte, Nat.reduceEqDiff, ab_I, ab_L, ab_R, ao_I, ao_L, ao_R, gL_sL, gI_sI, gR_sR, gI_sL, gI_sR, gL_sI, gL_sR, gR_sI, gR_sL, m7, m224, l1, l2, eq_true m]
        unfold b2
        grind
      · have ok : okMem w ↔ ((fOp w = 195 ∨ fOp w = 219) ∧ fD w ≤ 10) ∧ ((fI w = 0 ∨ fI w = 64 ∨ fI w = 80 ∨ fI w = 160 ∨ fI w = 241) ∧ fS w ≤ 10 ∨ (fI w = 1 ∨ fI w = 65 ∨ fI w = 81 ∨ fI w = 161 ∨ fI w = 225) ∧ fS w ≤ 9) := by
          unfold okMem
          rw [if_neg l1, if_neg l2, if_neg m]
        have s169 : MM 342 [mI (fOp w), mI (fD w), mI (fS w), mI (fI w)] σ = RR (lkB tb342) (B342_169, [some (mI (fOp w)), some (mI (fD w)), some (mI (fS w)), some (mI (fI w)), some (mI (fM w)), none, none], [mI (b2 (fI w = 0 ∨ fI w = 64 ∨ fI w = 80 ∨ fI w = 160 ∨ fI w = 241))], σ) := by
          simp only [M342, e342_0, e342_164, Option.getD_some, Option.bind_some, Option.toList_some, Option.toList_none, List.cons_append, List.nil_append, and_self, and_true, true_and, false_and, and_false, ite_self, not_true_eq_false, not_false_eq_true, reduceIte, Nat.reduceEqDiff, ab_I, ab_L, ab_R, ao_I, ao_L, ao_R, gL_sL, gI_sI, gR_sR, gI_sL, gI_sR, gL_sI, gL_sR, gR_sI, gR_sL, m7, m224, l1, l2, m]
          unfold b2
          grind
        have s207 : ∀ z : Int, RR (lkB tb342) (B342_169, [some (mI (fOp w)), some (mI (fD w)), some (mI (fS w)), some (mI (fI w)), some (mI (fM w)), none, none], [mI z], σ) = RR (lkB tb342) (B342_207, [some (mI (fOp w)), some (mI (fD w)), some (mI (fS w)), some (mI (fI w)), some (mI (fM w)), some (mI z), none], [mI (b2 (fI w = 1 ∨ fI w = 65 ∨ fI w = 81 ∨ fI w = 161 ∨ fI w = 225))], σ) := fun z => by
          simp only [e342_169, e342_202]
          unfold b2
          grind
        rw [b2_c (e := inferInstance) ok, s169, s207]
        simp only [e342_207, e342_223, e342_240, e342_251, e342_255, b2_0']
        unfold b2
        grind
theorem T343 : MM 343 [mL w] σ = some (some (mI (@b2 (okPl w) (dPl w))), σ) := by
  have fl : fL w = fOp w % 8 := rfl
  by_cases l0 : fL w = 0
  · rw [b2_no (p := okPl w) (fun q => by unfold okPl at q; rw [if_pos l0] at q; exact q)]
    simp only [M343, e343_0, e343_4, Option.getD_some, Option.bind_some, Option.toList_some, Option.toList_none, List.cons_append, List.nil_append, and_self, and_true, true_and, false_and, and_false, ite_self, not_true_eq_false, not_false_eq_true, reduceIte, Nat.reduceEqDiff, ab_I, ab_L, ab_R, ao_I, ao_L, ao_R, gL_sL, gI_sI, gR_sR, gI_sL, gI_sR, gL_sI, gL_sR, gR_sI, gR_sL, T332, m7, eq_true l0]
  · by_cases l4 : fL w = 4 ∨ fL w = 7
    · have ok : okPl w ↔ okAlu w := by
        unfold okPl
        rw [if_neg l0, if_pos l4]
      rw [b2_c (e := inferInstance) ok]
      rcases l4 with l4 | l4
      · simp only [M343, e343_0, e343_4, e343_63, e343_67, e343_71, e343_75, e343_78, Option.getD_some, Option.bind_some, Option.toList_some, Option.toList_none, List.cons_append, List.nil_append, and_self, and_true, true_and, false_and, and_false, ite_self, not_true_eq_false, not_false_eq_true, reduceIte, Nat.reduceEqDiff, ab_I, ab_L, ab_R, ao_I, ao_L, ao_R, gL_sL, gI_sI, gR_sR, gI_sL, gI_sR, gL_sI, gL_sR, gR_sI, gR_sL, T332, T333, T334, T335, T336, m7, l4, Int.reduceEq, T339, bl_b2]
      · simp only [M343, e343_0, e343_4, e343_63, e343_67, e343_71, e343_75, e343_78, Option.getD_some, Option.bind_some, Option.toList_some, Option.toList_none, List.cons_append, List.nil_append, and_self, and_true, true_and, false_and, and_false, ite_self, not_true_eq_false, not_false_eq_true, reduceIte, Nat.reduceEqDiff, ab_I, ab_L, ab_R, ao_I, ao_L, ao_R, gL_sL, gI_sI, gR_sR, gI_sL, gI_sR, gL_sI, gL_sR, gR_sI, gR_sL, T332, T333, T334, T335, T336, m7, l4, Int.reduceEq, T339, bl_b2]
    · by_cases l5 : fL w = 5 ∨ fL w = 6
      · have ok : okPl w ↔ okJmp w := by
          unfold okPl
          rw [if_neg l0, if_neg l4, if_pos l5]
        rw [b2_c (e := inferInstance) ok]
        rcases l5 with l5 | l5
        · simp only [M343, e343_0, e343_4, e343_84, e343_88, e343_92, e343_96, e343_99, Option.getD_some, Option.bind_some, Option.toList_some, Option.toList_none, List.cons_append, List.nil_append, and_self, and_true, true_and, false_and, and_false, ite_self, not_true_eq_false, not_false_eq_true, reduceIte, Nat.reduceEqDiff, ab_I, ab_L, ab_R, ao_I, ao_L, ao_R, gL_sL, gI_sI, gR_sR, gI_sL, gI_sR, gL_sI, gL_sR, gR_sI, gR_sL, T332, T333, T334, T335, T336, m7, l5, Int.reduceEq, T341, bl_b2]
        · simp only [M343, e343_0, e343_4, e343_84, e343_88, e343_92, e343_96, e343_99, Option.getD_some, Option.bind_some, Option.toList_some, Option.toList_none, List.cons_append, List.nil_append, and_self, and_true, true_and, false_and, and_false, ite_self, not_true_eq_false, not_false_eq_true, reduceIte, Nat.reduceEqDiff, ab_I, ab_L, ab_R, ao_I, ao_L, ao_R, gL_sL, gI_sI, gR_sR, gI_sL, gI_sR, gL_sI, gL_sR, gR_sI, gR_sL, T332, T333, T334, T335, T336, m7, l5, Int.reduceEq, T341, bl_b2]
      · have ok : okPl w ↔ okMem w := by
          unfold okPl
          rw [if_neg l0, if_neg l4, if_neg l5]
        have l3 : fL w = 1 ∨ fL w = 2 ∨ fL w = 3 := by omega
        rw [b2_c (e := inferInstance) ok]
        have t := T342 (σ := σ) l3
        rcases l3 with l3 | l3 | l3
        · simp only [M343, e343_0, e343_4, e343_105, e343_109, e343_113, e343_116, Option.getD_some, Option.bind_some, Option.toList_some, Option.toList_none, List.cons_append, List.nil_append, and_self, and_true, true_and, false_and, and_false, ite_self, not_true_eq_false, not_false_eq_true, reduceIte, Nat.reduceEqDiff, ab_I, ab_L, ab_R, ao_I, ao_L, ao_R, gL_sL, gI_sI, gR_sR, gI_sL, gI_sR, gL_sI, gL_sR, gR_sI, gR_sL, T332, T333, T334, T336, m7, l3, Int.reduceEq, t, bl_b2]
        · simp only [M343, e343_0, e343_4, e343_105, e343_109, e343_113, e343_116, Option.getD_some, Option.bind_some, Option.toList_some, Option.toList_none, List.cons_append, List.nil_append, and_self, and_true, true_and, false_and, and_false, ite_self, not_true_eq_false, not_false_eq_true, reduceIte, Nat.reduceEqDiff, ab_I, ab_L, ab_R, ao_I, ao_L, ao_R, gL_sL, gI_sI, gR_sR, gI_sL, gI_sR, gL_sI, gL_sR, gR_sI, gR_sL, T332, T333, T334, T336, m7, l3, Int.reduceEq, t, bl_b2]
        · simp only [M343, e343_0, e343_4, e343_105, e343_109, e343_113, e343_116, Option.getD_some, Option.bind_some, Option.toList_some, Option.toList_none, List.cons_append, List.nil_append, and_self, and_true, true_and, false_and, and_false, ite_self, not_true_eq_false, not_false_eq_true, reduceIte, Nat.reduceEqDiff, ab_I, ab_L, ab_R, ao_I, ao_L, ao_R, gL_sL, gI_sI, gR_sR, gI_sL, gI_sR, gL_sI, gL_sR, gR_sI, gR_sL, T332, T333, T334, T336, m7, l3, Int.reduceEq, t, bl_b2]
end FRMA
