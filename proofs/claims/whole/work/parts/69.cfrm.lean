/-! ===== the class: which words are instructions ===== -/
section CFRM
variable {w w2 : B64} {σ : MS}
theorem T7 : MM 7 [mL w, mL w2] σ = some (some (mI (b2 (okPr w w2))), σ) := by
  have f := fld_rng w
  simp only [M7, e7_0, e7_4, e7_13, e7_22, e7_41, e7_49, e7_56, e7_71, e7_77, Option.getD_some, Option.bind_some, Option.toList_some, Option.toList_none, List.cons_append, List.nil_append, and_self, and_true, true_and, false_and, and_false, ite_self, not_true_eq_false, not_false_eq_true, reduceIte, Nat.reduceEqDiff, ab_I, ab_L, ab_R, ao_I, ao_L, ao_R, gL_sL, gI_sI, gR_sR, gI_sL, gI_sR, gL_sI, gL_sR, gR_sI, gR_sL, T0, T1, T2, T3, T4, iL_F]
  unfold b2
  grind
theorem T12 {i s : Int} : MM 12 [mI i, mI s] σ = some (some (mI (b2 ((i = 0 ∨ i = 64 ∨ i = 80 ∨ i = 160 ∨ i = 241) ∨ (i = 1 ∨ i = 65 ∨ i = 81 ∨ i = 161 ∨ i = 225) ∧ s ≤ 9))), σ) := by
  simp only [M12, e12_0, Option.getD_some, Option.bind_some, Option.toList_some, Option.toList_none, List.cons_append, List.nil_append, and_self, and_true, true_and, false_and, and_false, ite_self, not_true_eq_false, not_false_eq_true, reduceIte, Nat.reduceEqDiff, ab_I, ab_L, ab_R, ao_I, ao_L, ao_R, gL_sL, gI_sI, gR_sR, gI_sL, gI_sR, gL_sI, gL_sR, gR_sI, gR_sL]
  unfold b2
  grind (splits := 60)
theorem ex_w (h : fOp w = 149) : (w = iL 149) = (fD w = 0 ∧ fS w = 0 ∧ fO w = 0 ∧ fI w = 0) := by
  refine propext ⟨fun e => ?_, fun e => ?_⟩
  · rw [e]
    decide
  · obtain ⟨e1, e2, e3, e4⟩ := e
    refine BitVec.eq_of_toInt_eq ?_
    rw [show (iL 149).toInt = 149 by decide]
    unfold fOp at h
    unfold fD at e1
    unfold fS at e2
    unfold fO at e3
    unfold fI at e4
    rw [Int.bmod_def] at e3
    split at e3 <;> omega
theorem cmp_c : isCmpO (fOp w) ↔ ¬ fC w = 0 ∧ ¬ fC w = 128 ∧ ¬ fC w = 144 ∧ fC w ≤ 208 := by
  have f := (fld_rng w).1
  unfold fC isCmpO
  omega
theorem T10 : MM 10 [mL w] σ = some (some (mI (b2 (okJmp w))), σ) := by
  have f := fld_rng w
  by_cases c5 : fOp w = 5
  · have ok : okJmp w ↔ fD w = 0 ∧ fS w = 0 ∧ fI w = 0 := by
      unfold okJmp
      rw [if_pos c5]
    rw [b2_c (e := inferInstance) ok]
    simp only [M10, e10_0, e10_4, e10_52, e10_59, e10_66, e10_73, Option.getD_some, Option.bind_some, Option.toList_some, Option.toList_none, List.cons_append, List.nil_append, and_self, and_true, true_and, false_and, and_false, ite_self, not_true_eq_false, not_false_eq_true, reduceIte, Nat.reduceEqDiff, ab_I, ab_L, ab_R, ao_I, ao_L, ao_R, gL_sL, gI_sI, gR_sR, gI_sL, gI_sR, gL_sI, gL_sR, gR_sI, gR_sL, T0, T1, T2, T4, eq_true c5]
    unfold b2
    grind
  · by_cases c6 : fOp w = 6
    · have ok : okJmp w ↔ fD w = 0 ∧ fS w = 0 ∧ fO w = 0 := by
        unfold okJmp
        rw [if_neg c5, if_pos c6]
      rw [b2_c (e := inferInstance) ok]
      simp only [M10, e10_0, e10_4, e10_79, e10_86, e10_93, e10_100, Option.getD_some, Option.bind_some, Option.toList_some, Option.toList_none, List.cons_append, List.nil_append, and_self, and_true, true_and, false_and, and_false, ite_self, not_true_eq_false, not_false_eq_true, reduceIte, Nat.reduceEqDiff, ab_I, ab_L, ab_R, ao_I, ao_L, ao_R, gL_sL, gI_sI, gR_sR, gI_sL, gI_sR, gL_sI, gL_sR, gR_sI, gR_sL, T0, T1, T2, T3, c5, eq_true c6]
      unfold b2
      grind
    · by_cases c133 : fOp w = 133
      · have ok : okJmp w ↔ (fD w = 0 ∧ fO w = 0) ∧ (fS w = 0 ∧ 0 ≤ fI w ∨ fS w = 1) := by
          unfold okJmp
          rw [if_neg c5, if_neg c6, if_pos c133]
        rw [b2_c (e := inferInstance) ok]
        simp only [M10, e10_0, e10_4, e10_106, e10_113, e10_120, e10_128, e10_135, e10_138, e10_142, Option.getD_some, Option.bind_some, Option.toList_some, Option.toList_none, List.cons_append, List.nil_append, and_self, and_true, true_and, false_and, and_false, ite_self, not_true_eq_false, not_false_eq_true, reduceIte, Nat.reduceEqDiff, ab_I, ab_L, ab_R, ao_I, ao_L, ao_R, gL_sL, gI_sI, gR_sR, gI_sL, gI_sR, gL_sI, gL_sR, gR_sI, gR_sL, T0, T1, T2, T3, T4, c5, c6, eq_true c133]
        unfold b2
        grind
      · by_cases c149 : fOp w = 149
        · have ok : okJmp w ↔ fD w = 0 ∧ fS w = 0 ∧ fO w = 0 ∧ fI w = 0 := by
            unfold okJmp
            rw [if_neg c5, if_neg c6, if_neg c133, if_pos c149]
          rw [b2_c (e := inferInstance) ok]
          simp only [M10, e10_0, e10_4, Option.getD_some, Option.bind_some, Option.toList_some, Option.toList_none, List.cons_append, List.nil_append, and_self, and_true, true_and, false_and, and_false, ite_self, not_true_eq_false, not_false_eq_true, reduceIte, Nat.reduceEqDiff, ab_I, ab_L, ab_R, ao_I, ao_L, ao_R, gL_sL, gI_sI, gR_sR, gI_sL, gI_sR, gL_sI, gL_sR, gR_sI, gR_sL, T0, c5, c6, c133, eq_true c149, ex_w c149]
          unfold b2
          grind
        · have ok : okJmp w ↔ ((¬ fC w = 0 ∧ ¬ fC w = 128 ∧ ¬ fC w = 144 ∧ fC w ≤ 208) ∧ fD w ≤ 10) ∧ (if rgt w then fS w ≤ 10 ∧ fI w = 0 else fS w = 0) := by
            unfold okJmp
            rw [if_neg c5, if_neg c6, if_neg c133, if_neg c149, cmp_c]
          rw [b2_c (e := inferInstance) ok]
          simp only [M10, e10_0, e10_4, e10_193, e10_211, e10_220, e10_227, e10_235, Option.getD_some, Option.bind_some, Option.toList_some, Option.toList_none, List.cons_append, List.nil_append, and_self, and_true, true_and, false_and, and_false, ite_self, not_true_eq_false, not_false_eq_true, reduceIte, Nat.reduceEqDiff, ab_I, ab_L, ab_R, ao_I, ao_L, ao_R, gL_sL, gI_sI, gR_sR, gI_sL, gI_sR, gL_sI, gL_sR, gR_sI, gR_sL, T0, T1, T2, T4, mC, m8r, c5, c6, c133, c149]
          unfold b2
          grind
theorem T11 (h : fL w = 1 ∨ fL w = 2 ∨ fL w = 3) : MM 11 [mL w] σ = some (some (mI (b2 (okMem w))), σ) := by
  have f := fld_rng w
  by_cases l1 : fL w = 1
  · have ok : okMem w ↔ (fM w = 96 ∨ fM w = 128 ∧ ¬ fOp w = 153) ∧ fD w ≤ 9 ∧ fS w ≤ 10 ∧ fI w = 0 := by
      unfold okMem
      rw [if_pos l1]
      have : fM w = 128 → (fB w = 3 ↔ fOp w = 153) := fun m => by
        unfold fM at m
        unfold fL at l1
        unfold fB
        omega
      grind
    rw [b2_c (e := inferInstance) ok]
    simp only [M11, e11_0, e11_4, e11_60, e11_64, e11_73, e11_82, e11_89, Option.getD_some, Option.bind_some, Option.toList_some, Option.toList_none, List.cons_append, List.nil_append, and_self, and_true, true_and, false_and, and_false, ite_self, not_true_eq_false, not_false_eq_true, reduceIte, Nat.reduceEqDiff, ab_I, ab_L, ab_R, ao_I, ao_L, ao_R, gL_sL, gI_sI, gR_sR, gI_sL, gI_sR, gL_sI, gL_sR, gR_sI, gR_sL, T0, T1, T2, T4, m7, m224, eq_true l1]
    unfold b2
    grind
  · by_cases l2 : fL w = 2
    · have ok : okMem w ↔ fM w = 96 ∧ fD w ≤ 10 ∧ fS w = 0 := by
        unfold okMem
        rw [if_neg l1, if_pos l2]
      rw [b2_c (e := inferInstance) ok]
      simp only [M11, e11_0, e11_4, e11_101, e11_110, e11_117, Option.getD_some, Option.bind_some, Option.toList_some, Option.toList_none, List.cons_append, List.nil_append, and_self, and_true, true_and, false_and, and_false, ite_self, not_true_eq_false, not_false_eq_true, reduceIte, Nat.reduceEqDiff, ab_I, ab_L, ab_R, ao_I, ao_L, ao_R, gL_sL, gI_sI, gR_sR, gI_sL, gI_sR, gL_sI, gL_sR, gR_sI, gR_sL, T0, T1, T2, m7, m224, l1, eq_true l2]
      unfold b2
      grind
    · by_cases m : fM w = 96
      · have ok : okMem w ↔ fD w ≤ 10 ∧ fS w ≤ 10 ∧ fI w = 0 := by
          unfold okMem
          rw [if_neg l1, if_neg l2, if_pos m]
        rw [b2_c (e := inferInstance) ok]
        simp only [M11, e11_0, e11_4, e11_123, e11_132, e11_149, Option.getD_some, Option.bind_some, Option.toList_some, Option.toList_none, List.cons_append, List.nil_append, and_self, and_true, true_and, false_and, and_false, ite_self, not_true_eq_false, not_false_eq_true, reduceIte, Nat.reduceEqDiff, ab_I, ab_L, ab_R, ao_I, ao_L, ao_R, gL_sL, gI_sI, gR_sR, gI_sL, gI_sR, gL_sI, gL_sR, gR_sI, gR_sL, T0, T1, T2, T4, m7, m224, l1, l2, eq_true m]
        unfold b2
        grind
      · have ok : okMem w ↔ ((fOp w = 195 ∨ fOp w = 219) ∧ fD w ≤ 10) ∧ (fS w ≤ 10 ∧ ((fI w = 0 ∨ fI w = 64 ∨ fI w = 80 ∨ fI w = 160 ∨ fI w = 241) ∨ (fI w = 1 ∨ fI w = 65 ∨ fI w = 81 ∨ fI w = 161 ∨ fI w = 225) ∧ fS w ≤ 9)) := by
          unfold okMem
          rw [if_neg l1, if_neg l2, if_neg m]
          have : fS w ≤ 9 → fS w ≤ 10 := fun h => by omega
          grind
        rw [b2_c (e := inferInstance) ok]
        simp only [M11, e11_0, e11_4, e11_123, e11_132, e11_172, e11_176, e11_180, e11_183, e11_190, Option.getD_some, Option.bind_some, Option.toList_some, Option.toList_none, List.cons_append, List.nil_append, and_self, and_true, true_and, false_and, and_false, ite_self, not_true_eq_false, not_false_eq_true, reduceIte, Nat.reduceEqDiff, ab_I, ab_L, ab_R, ao_I, ao_L, ao_R, gL_sL, gI_sI, gR_sR, gI_sL, gI_sR, gL_sI, gL_sR, gR_sI, gR_sL, T0, T1, T2, T4, m7, m224, l1, l2, m, T12, b2_0']
        unfold b2
        grind
theorem L9 : MM 9 [mL w] σ = RR (lkB tb9) (B9_51, [some (mL w), none, some (mI (fOp w)), some (mI (fC w)), some (mI (b2 (wid w))), some (mI (b2 (rgt w))), some (mI (fI w))], [mI (fD w)], σ) := by
  by_cases a : fL w = 7
  · rw [wid_l a]
    by_cases b : rgt w
    · rw [b2_yes b]
      simp only [M9, e9_0, e9_4, e9_25, e9_39, e9_45, Option.getD_some, Option.bind_some, Option.toList_some, Option.toList_none, List.cons_append, List.nil_append, and_self, and_true, true_and, false_and, and_false, ite_self, not_true_eq_false, not_false_eq_true, reduceIte, Nat.reduceEqDiff, ab_I, ab_L, ab_R, ao_I, ao_L, ao_R, gL_sL, gI_sI, gR_sR, gI_sL, gI_sR, gL_sI, gL_sR, gR_sI, gR_sL, T0, T1, T4, m7, m8r, mC, a, eq_true b]
    · rw [b2_no b]
      simp only [M9, e9_0, e9_4, e9_25, e9_39, e9_45, Option.getD_some, Option.bind_some, Option.toList_some, Option.toList_none, List.cons_append, List.nil_append, and_self, and_true, true_and, false_and, and_false, ite_self, not_true_eq_false, not_false_eq_true, reduceIte, Nat.reduceEqDiff, ab_I, ab_L, ab_R, ao_I, ao_L, ao_R, gL_sL, gI_sI, gR_sR, gI_sL, gI_sR, gL_sI, gL_sR, gR_sI, gR_sL, T0, T1, T4, m7, m8r, mC, a, b]
  · rw [wid_n a]
    by_cases b : rgt w
    · rw [b2_yes b]
      simp only [M9, e9_0, e9_4, e9_25, e9_39, e9_45, Option.getD_some, Option.bind_some, Option.toList_some, Option.toList_none, List.cons_append, List.nil_append, and_self, and_true, true_and, false_and, and_false, ite_self, not_true_eq_false, not_false_eq_true, reduceIte, Nat.reduceEqDiff, ab_I, ab_L, ab_R, ao_I, ao_L, ao_R, gL_sL, gI_sI, gR_sR, gI_sL, gI_sR, gL_sI, gL_sR, gR_sI, gR_sL, T0, T1, T4, m7, m8r, mC, a, eq_true b]
    · rw [b2_no b]
      simp only [M9, e9_0, e9_4, e9_25, e9_39, e9_45, Option.getD_some, Option.bind_some, Option.toList_some, Option.toList_none, List.cons_append, List.nil_append, and_self, and_true, true_and, false_and, and_false, ite_self, not_true_eq_false, not_false_eq_true, reduceIte, Nat.reduceEqDiff, ab_I, ab_L, ab_R, ao_I, ao_L, ao_R, gL_sL, gI_sI, gR_sR, gI_sL, gI_sR, gL_sI, gL_sR, gR_sI, gR_sL, T0, T1, T4, m7, m8r, mC, a, b]
theorem T9 : MM 9 [mL w] σ = some (some (mI (b2 (okAlu w))), σ) := by
  have f := fld_rng w
  rw [L9]
  by_cases d9 : 9 < fD w
  · rw [b2_no (p := okAlu w) (fun q => by have := q.1.1; omega)]
    simp only [e9_51, Option.getD_some, Option.bind_some, Option.toList_some, Option.toList_none, List.cons_append, List.nil_append, and_self, and_true, true_and, false_and, and_false, ite_self, not_true_eq_false, not_false_eq_true, reduceIte, Nat.reduceEqDiff, ab_I, ab_L, ab_R, ao_I, ao_L, ao_R, gL_sL, gI_sI, gR_sR, gI_sL, gI_sR, gL_sI, gL_sR, gR_sI, gR_sL, d9]
  · by_cases c8 : fC w ≤ 208
    · by_cases c1 : fC w = 208
      · have ok : okAlu w ↔ ¬ fOp w = 223 ∧ fS w = 0 ∧ fO w = 0 ∧ (fI w = 16 ∨ fI w = 32 ∨ fI w = 64) := by
          unfold okAlu
          rw [if_pos c1]
          exact ⟨fun q => q.2, fun q => ⟨⟨by omega, c8⟩, q⟩⟩
        rw [b2_c (e := inferInstance) ok]
        simp only [e9_51, e9_83, e9_90, e9_114, e9_118, Option.getD_some, Option.bind_some, Option.toList_some, Option.toList_none, List.cons_append, List.nil_append, and_self, and_true, true_and, false_and, and_false, ite_self, not_true_eq_false, not_false_eq_true, reduceIte, Nat.reduceEqDiff, ab_I, ab_L, ab_R, ao_I, ao_L, ao_R, gL_sL, gI_sI, gR_sR, gI_sL, gI_sR, gL_sI, gL_sR, gR_sI, gR_sL, T2, T3, d9, eq_true c1, c8]
        unfold b2
        grind
      · have s151 : ∀ P : Prop, (d : Decidable P) → (¬ aluA w → ¬ P) → (aluA w → RR (lkB tb9) (B9_151, [some (mL w), none, some (mI (fOp w)), some (mI (fC w)), some (mI (b2 (wid w))), some (mI (b2 (rgt w))), some (mI (fI w))], [], σ) = some (some (mI (@b2 P d)), σ)) → RR (lkB tb9) (B9_51, [some (mL w), none, some (mI (fOp w)), some (mI (fC w)), some (mI (b2 (wid w))), some (mI (b2 (rgt w))), some (mI (fI w))], [mI (fD w)], σ) = some (some (mI (@b2 P d)), σ) := fun P d h1 h2 => by
          by_cases r : rgt w
          · by_cases s : 10 < fS w
            · rw [b2_no (h1 (fun q => by unfold aluA at q; rw [if_pos r] at q; omega))]
              simp only [e9_51, e9_129, Option.getD_some, Option.bind_some, Option.toList_some, Option.toList_none, List.cons_append, List.nil_append, and_self, and_true, true_and, false_and, and_false, ite_self, not_true_eq_false, not_false_eq_true, reduceIte, Nat.reduceEqDiff, ab_I, ab_L, ab_R, ao_I, ao_L, ao_R, gL_sL, gI_sI, gR_sR, gI_sL, gI_sR, gL_sI, gL_sR, gR_sI, gR_sL, T2, d9, c8, c1, b2_0', eq_true r, s]
            · by_cases i : fI w = 0
              · rw [← h2 (by unfold aluA; rw [if_pos r]; exact ⟨by omega, i⟩)]
                simp only [e9_51, e9_129, Option.getD_some, Option.bind_some, Option.toList_some, Option.toList_none, List.cons_append, List.nil_append, and_self, and_true, true_and, false_and, and_false, ite_self, not_true_eq_false, not_false_eq_true, reduceIte, Nat.reduceEqDiff, ab_I, ab_L, ab_R, ao_I, ao_L, ao_R, gL_sL, gI_sI, gR_sR, gI_sL, gI_sR, gL_sI, gL_sR, gR_sI, gR_sL, T2, d9, c8, c1, b2_0', eq_true r, s, eq_true i]
              · rw [b2_no (h1 (fun q => by unfold aluA at q; rw [if_pos r] at q; exact i q.2))]
                simp only [e9_51, e9_129, Option.getD_some, Option.bind_some, Option.toList_some, Option.toList_none, List.cons_append, List.nil_append, and_self, and_true, true_and, false_and, and_false, ite_self, not_true_eq_false, not_false_eq_true, reduceIte, Nat.reduceEqDiff, ab_I, ab_L, ab_R, ao_I, ao_L, ao_R, gL_sL, gI_sI, gR_sR, gI_sL, gI_sR, gL_sI, gL_sR, gR_sI, gR_sL, T2, d9, c8, c1, b2_0', eq_true r, s, i]
          · by_cases s : fS w = 0
            · rw [← h2 (by unfold aluA; rw [if_neg r]; exact s)]
              simp only [e9_51, e9_146, Option.getD_some, Option.bind_some, Option.toList_some, Option.toList_none, List.cons_append, List.nil_append, and_self, and_true, true_and, false_and, and_false, ite_self, not_true_eq_false, not_false_eq_true, reduceIte, Nat.reduceEqDiff, ab_I, ab_L, ab_R, ao_I, ao_L, ao_R, gL_sL, gI_sI, gR_sR, gI_sL, gI_sR, gL_sI, gL_sR, gR_sI, gR_sL, T2, d9, c8, c1, b2_0', r, eq_true s]
            · rw [b2_no (h1 (fun q => by unfold aluA at q; rw [if_neg r] at q; exact s q))]
              simp only [e9_51, e9_146, Option.getD_some, Option.bind_some, Option.toList_some, Option.toList_none, List.cons_append, List.nil_append, and_self, and_true, true_and, false_and, and_false, ite_self, not_true_eq_false, not_false_eq_true, reduceIte, Nat.reduceEqDiff, ab_I, ab_L, ab_R, ao_I, ao_L, ao_R, gL_sL, gI_sI, gR_sR, gI_sL, gI_sR, gL_sI, gL_sR, gR_sI, gR_sL, T2, d9, c8, c1, b2_0', r, s]
        by_cases c2 : fC w = 128
        · have ok : okAlu w ↔ ¬ rgt w ∧ fS w = 0 ∧ fO w = 0 ∧ fI w = 0 := by
            unfold okAlu
            rw [if_neg c1, if_pos c2]
            exact ⟨fun q => q.2, fun q => ⟨⟨by omega, c8⟩, q⟩⟩
          rw [b2_c (e := inferInstance) ok]
          refine s151 _ _ (fun a q => a (by unfold aluA; rw [if_neg q.1]; exact q.2.1)) fun a => ?_
          simp only [e9_151, e9_290, e9_307, Option.getD_some, Option.bind_some, Option.toList_some, Option.toList_none, List.cons_append, List.nil_append, and_self, and_true, true_and, false_and, and_false, ite_self, not_true_eq_false, not_false_eq_true, reduceIte, Nat.reduceEqDiff, ab_I, ab_L, ab_R, ao_I, ao_L, ao_R, gL_sL, gI_sI, gR_sR, gI_sL, gI_sR, gL_sI, gL_sR, gR_sI, gR_sL, T3, c2, Int.reduceEq, b2_0', b2_n']
          unfold aluA at a
          unfold b2
          grind
        · have ok : okAlu w ↔ (aluA w ∧ aluB w) ∧ aluC w ∧ aluD w := by
            unfold okAlu
            rw [if_neg c1, if_neg c2]
            exact ⟨fun q => ⟨⟨q.2.1, q.2.2.1⟩, q.2.2.2.1, q.2.2.2.2⟩, fun q => ⟨⟨by omega, c8⟩, q.1.1, q.1.2, q.2.1, q.2.2⟩⟩
          rw [b2_c (e := inferInstance) ok]
          refine s151 _ _ (fun a q => a q.1.1) fun a => ?_
          have ok2 : ((aluA w ∧ aluB w) ∧ aluC w ∧ aluD w) ↔ aluB w ∧ aluC w ∧ aluD w := ⟨fun q => ⟨q.1.2, q.2⟩, fun q => ⟨⟨a, q.1⟩, q.2⟩⟩
          rw [b2_c (e := inferInstance) ok2]
          by_cases q : isQuo (fC w)
          · have ns : ¬ isShf (fC w) := by unfold isQuo at q; unfold isShf; omega
            have n176 : ¬ fC w = 176 := by unfold isQuo at q; omega
            have ok3 : (aluB w ∧ aluC w ∧ aluD w) ↔ (fO w = 0 ∨ fO w = 1) ∧ (rgt w ∨ ¬ fI w = 0) := ⟨fun z => ⟨z.1.elim Or.inl (fun y => y.elim (fun y => Or.inr y.2) (fun y => absurd y.1.1 n176)), z.2.1.elim Or.inl (fun y => y.elim (fun y => absurd q y) Or.inr)⟩, fun z => ⟨z.1.elim Or.inl (fun y => Or.inr (Or.inl ⟨q, y⟩)), z.2.elim Or.inl (fun y => Or.inr (Or.inr y)), Or.inr (Or.inl ns)⟩⟩
            rw [b2_c (e := inferInstance) ok3]
            clear ok ok2 ok3 s151 f a
            rcases q with q | q
            all_goals (simp only [e9_151, e9_224, e9_231, e9_235, e9_245, e9_249, Option.getD_some, Option.bind_some, Option.toList_some, Option.toList_none, List.cons_append, List.nil_append, and_self, and_true, true_and, false_and, and_false, ite_self, not_true_eq_false, not_false_eq_true, reduceIte, Nat.reduceEqDiff, ab_I, ab_L, ab_R, ao_I, ao_L, ao_R, gL_sL, gI_sI, gR_sR, gI_sL, gI_sR, gL_sI, gL_sR, gR_sI, gR_sL, T3, q, Int.reduceEq, b2_0', b2_n']; unfold b2; grind (splits := 40))
          · by_cases s : isShf (fC w)
            · rcases s with s | s | s
              all_goals (simp only [e9_151, e9_255, e9_277, e9_284, Option.getD_some, Option.bind_some, Option.toList_some, Option.toList_none, List.cons_append, List.nil_append, and_self, and_true, true_and, false_and, and_false, ite_self, not_true_eq_false, not_false_eq_true, reduceIte, Nat.reduceEqDiff, ab_I, ab_L, ab_R, ao_I, ao_L, ao_R, gL_sL, gI_sI, gR_sR, gI_sL, gI_sR, gL_sI, gL_sR, gR_sI, gR_sL, T3, s, Int.reduceEq, b2_0', b2_n']; unfold aluA at a; unfold b2; grind)
            · by_cases m : fC w = 176
              · simp only [e9_151, e9_313, e9_325, e9_334, e9_348, e9_353, e9_357, Option.getD_some, Option.bind_some, Option.toList_some, Option.toList_none, List.cons_append, List.nil_append, and_self, and_true, true_and, false_and, and_false, ite_self, not_true_eq_false, not_false_eq_true, reduceIte, Nat.reduceEqDiff, ab_I, ab_L, ab_R, ao_I, ao_L, ao_R, gL_sL, gI_sI, gR_sR, gI_sL, gI_sR, gL_sI, gL_sR, gR_sI, gR_sL, T3, m, Int.reduceEq, b2_0', b2_n']
                unfold b2
                grind
              · have q1 : ¬ fC w = 48 := fun z => q (Or.inl z)
                have q2 : ¬ fC w = 144 := fun z => q (Or.inr z)
                have s1 : ¬ fC w = 96 := fun z => s (Or.inl z)
                have s2 : ¬ fC w = 112 := fun z => s (Or.inr (Or.inl z))
                have s3 : ¬ fC w = 192 := fun z => s (Or.inr (Or.inr z))
                simp only [e9_151, e9_363, Option.getD_some, Option.bind_some, Option.toList_some, Option.toList_none, List.cons_append, List.nil_append, and_self, and_true, true_and, false_and, and_false, ite_self, not_true_eq_false, not_false_eq_true, reduceIte, Nat.reduceEqDiff, ab_I, ab_L, ab_R, ao_I, ao_L, ao_R, gL_sL, gI_sI, gR_sR, gI_sL, gI_sR, gL_sI, gL_sR, gR_sI, gR_sL, T3, q1, q2, s1, s2, s3, c2, m]
                unfold b2
                grind
    · rw [b2_no (p := okAlu w) (fun q => c8 q.1.2)]
      simp only [e9_51, Option.getD_some, Option.bind_some, Option.toList_some, Option.toList_none, List.cons_append, List.nil_append, and_self, and_true, true_and, false_and, and_false, ite_self, not_true_eq_false, not_false_eq_true, reduceIte, Nat.reduceEqDiff, ab_I, ab_L, ab_R, ao_I, ao_L, ao_R, gL_sL, gI_sI, gR_sR, gI_sL, gI_sR, gL_sI, gL_sR, gR_sI, gR_sL, d9, c8]
theorem T8 : MM 8 [mL w] σ = some (some (mI (@b2 (okPl w) (dPl w))), σ) := by
  have fl : fL w = fOp w % 8 := rfl
  by_cases l0 : fL w = 0
  · rw [b2_no (p := okPl w) (fun q => by unfold okPl at q; rw [if_pos l0] at q; exact q)]
    simp only [M8, e8_0, e8_4, Option.getD_some, Option.bind_some, Option.toList_some, Option.toList_none, List.cons_append, List.nil_append, and_self, and_true, true_and, false_and, and_false, ite_self, not_true_eq_false, not_false_eq_true, reduceIte, Nat.reduceEqDiff, ab_I, ab_L, ab_R, ao_I, ao_L, ao_R, gL_sL, gI_sI, gR_sR, gI_sL, gI_sR, gL_sI, gL_sR, gR_sI, gR_sL, T0, m7, l0, Int.reduceEq]
  · by_cases l4 : fL w = 4 ∨ fL w = 7
    · have ok : okPl w ↔ okAlu w := by
        unfold okPl
        rw [if_neg l0, if_pos l4]
      rw [b2_c (e := inferInstance) ok]
      rcases l4 with l4 | l4
      · simp only [M8, e8_0, e8_4, e8_57, Option.getD_some, Option.bind_some, Option.toList_some, Option.toList_none, List.cons_append, List.nil_append, and_self, and_true, true_and, false_and, and_false, ite_self, not_true_eq_false, not_false_eq_true, reduceIte, Nat.reduceEqDiff, ab_I, ab_L, ab_R, ao_I, ao_L, ao_R, gL_sL, gI_sI, gR_sR, gI_sL, gI_sR, gL_sI, gL_sR, gR_sI, gR_sL, T0, m7, l4, Int.reduceEq, T9, bl_b2]
      · simp only [M8, e8_0, e8_4, e8_57, Option.getD_some, Option.bind_some, Option.toList_some, Option.toList_none, List.cons_append, List.nil_append, and_self, and_true, true_and, false_and, and_false, ite_self, not_true_eq_false, not_false_eq_true, reduceIte, Nat.reduceEqDiff, ab_I, ab_L, ab_R, ao_I, ao_L, ao_R, gL_sL, gI_sI, gR_sR, gI_sL, gI_sR, gL_sI, gL_sR, gR_sI, gR_sL, T0, m7, l4, Int.reduceEq, T9, bl_b2]
    · by_cases l5 : fL w = 5 ∨ fL w = 6
      · have ok : okPl w ↔ okJmp w := by
          unfold okPl
          rw [if_neg l0, if_neg l4, if_pos l5]
        rw [b2_c (e := inferInstance) ok]
        rcases l5 with l5 | l5
        · simp only [M8, e8_0, e8_4, e8_62, Option.getD_some, Option.bind_some, Option.toList_some, Option.toList_none, List.cons_append, List.nil_append, and_self, and_true, true_and, false_and, and_false, ite_self, not_true_eq_false, not_false_eq_true, reduceIte, Nat.reduceEqDiff, ab_I, ab_L, ab_R, ao_I, ao_L, ao_R, gL_sL, gI_sI, gR_sR, gI_sL, gI_sR, gL_sI, gL_sR, gR_sI, gR_sL, T0, m7, l5, Int.reduceEq, T10, bl_b2]
        · simp only [M8, e8_0, e8_4, e8_62, Option.getD_some, Option.bind_some, Option.toList_some, Option.toList_none, List.cons_append, List.nil_append, and_self, and_true, true_and, false_and, and_false, ite_self, not_true_eq_false, not_false_eq_true, reduceIte, Nat.reduceEqDiff, ab_I, ab_L, ab_R, ao_I, ao_L, ao_R, gL_sL, gI_sI, gR_sR, gI_sL, gI_sR, gL_sI, gL_sR, gR_sI, gR_sL, T0, m7, l5, Int.reduceEq, T10, bl_b2]
      · have ok : okPl w ↔ okMem w := by
          unfold okPl
          rw [if_neg l0, if_neg l4, if_neg l5]
        have l3 : fL w = 1 ∨ fL w = 2 ∨ fL w = 3 := by omega
        rw [b2_c (e := inferInstance) ok]
        have t := T11 (σ := σ) l3
        rcases l3 with l3 | l3 | l3
        · simp only [M8, e8_0, e8_4, e8_52, Option.getD_some, Option.bind_some, Option.toList_some, Option.toList_none, List.cons_append, List.nil_append, and_self, and_true, true_and, false_and, and_false, ite_self, not_true_eq_false, not_false_eq_true, reduceIte, Nat.reduceEqDiff, ab_I, ab_L, ab_R, ao_I, ao_L, ao_R, gL_sL, gI_sI, gR_sR, gI_sL, gI_sR, gL_sI, gL_sR, gR_sI, gR_sL, T0, m7, l3, Int.reduceEq, t, bl_b2]
        · simp only [M8, e8_0, e8_4, e8_52, Option.getD_some, Option.bind_some, Option.toList_some, Option.toList_none, List.cons_append, List.nil_append, and_self, and_true, true_and, false_and, and_false, ite_self, not_true_eq_false, not_false_eq_true, reduceIte, Nat.reduceEqDiff, ab_I, ab_L, ab_R, ao_I, ao_L, ao_R, gL_sL, gI_sI, gR_sR, gI_sL, gI_sR, gL_sI, gL_sR, gR_sI, gR_sL, T0, m7, l3, Int.reduceEq, t, bl_b2]
        · simp only [M8, e8_0, e8_4, e8_52, Option.getD_some, Option.bind_some, Option.toList_some, Option.toList_none, List.cons_append, List.nil_append, and_self, and_true, true_and, false_and, and_false, ite_self, not_true_eq_false, not_false_eq_true, reduceIte, Nat.reduceEqDiff, ab_I, ab_L, ab_R, ao_I, ao_L, ao_R, gL_sL, gI_sI, gR_sR, gI_sL, gI_sR, gL_sI, gL_sR, gR_sI, gR_sL, T0, m7, l3, Int.reduceEq, t, bl_b2]
/-- how many words an instruction spans: the words lie in an array of longs -/
theorem T6 {k n i : Nat} (hn : n ≤ 200) (hi : i < n) (hg : ∀ j : Int, (Option.isSome (some k) = true ∧ ab σ 4 k j) = (0 ≤ j ∧ j < 200)) : MM 6 [mR (some k), mI (n : Int), mI (i : Int)] σ = some (some (mI ((spn (fun j => gL σ k j) n i : Nat) : Int)), σ) := by
  have b0 : 0 ≤ (i : Int) ∧ (i : Int) < 200 := by omega
  have i6 : i < 100000 := by omega
  unfold spn
  by_cases c : fOp (gL σ k i) = 24
  · rw [if_pos c]
    by_cases l : i + 1 < n
    · have nl : ¬ (n : Int) ≤ ((i + 1 : Nat) : Int) := by omega
      have b1 : 0 ≤ ((i + 1 : Nat) : Int) ∧ ((i + 1 : Nat) : Int) < 200 := by omega
      have t := T7 (w := gL σ k i) (w2 := gL σ k (i + 1)) (σ := σ)
      by_cases q : okPr (gL σ k i) (gL σ k (i + 1))
      · rw [if_pos ⟨l, q⟩]
        rw [b2_yes q] at t
        simp only [M6, e6_0, e6_8, e6_29, Option.getD_some, Option.bind_some, Option.toList_some, Option.toList_none, List.cons_append, List.nil_append, and_self, and_true, true_and, false_and, and_false, ite_self, not_true_eq_false, not_false_eq_true, reduceIte, Nat.reduceEqDiff, ab_I, ab_L, ab_R, ao_I, ao_L, ao_R, gL_sL, gI_sI, gR_sR, gI_sL, gI_sR, gL_sI, gL_sR, gR_sI, gR_sL, hg, b0.1, b0.2, Int.toNat_natCast, T0, eq_true c, w32_s i6, nl, b1.1, b1.2, t, oneI]
        rfl
      · rw [if_neg (fun z => q z.2)]
        rw [b2_no q] at t
        simp only [M6, e6_0, e6_8, e6_29, e6_36, Option.getD_some, Option.bind_some, Option.toList_some, Option.toList_none, List.cons_append, List.nil_append, and_self, and_true, true_and, false_and, and_false, ite_self, not_true_eq_false, not_false_eq_true, reduceIte, Nat.reduceEqDiff, ab_I, ab_L, ab_R, ao_I, ao_L, ao_R, gL_sL, gI_sI, gR_sR, gI_sL, gI_sR, gL_sI, gL_sR, gR_sI, gR_sL, hg, b0.1, b0.2, Int.toNat_natCast, T0, eq_true c, w32_s i6, nl, b1.1, b1.2, t]
        rfl
    · have nl : (n : Int) ≤ ((i + 1 : Nat) : Int) := by omega
      rw [if_neg (fun z => l z.1)]
      simp only [M6, e6_0, e6_8, e6_36, Option.getD_some, Option.bind_some, Option.toList_some, Option.toList_none, List.cons_append, List.nil_append, and_self, and_true, true_and, false_and, and_false, ite_self, not_true_eq_false, not_false_eq_true, reduceIte, Nat.reduceEqDiff, ab_I, ab_L, ab_R, ao_I, ao_L, ao_R, gL_sL, gI_sI, gR_sR, gI_sL, gI_sR, gL_sI, gL_sR, gR_sI, gR_sL, hg, b0.1, b0.2, Int.toNat_natCast, T0, eq_true c, w32_s i6, nl]
      rfl
  · rw [if_neg c]
    have t := T8 (w := gL σ k i) (σ := σ)
    by_cases q : okPl (gL σ k i)
    · rw [if_pos q]
      rw [b2_yes q] at t
      simp only [M6, e6_0, e6_8, e6_42, Option.getD_some, Option.bind_some, Option.toList_some, Option.toList_none, List.cons_append, List.nil_append, and_self, and_true, true_and, false_and, and_false, ite_self, not_true_eq_false, not_false_eq_true, reduceIte, Nat.reduceEqDiff, ab_I, ab_L, ab_R, ao_I, ao_L, ao_R, gL_sL, gI_sI, gR_sR, gI_sL, gI_sR, gL_sI, gL_sR, gR_sI, gR_sL, hg, b0.1, b0.2, Int.toNat_natCast, T0, c, t, oneI]
      rfl
    · rw [if_neg q]
      rw [b2_no q] at t
      simp only [M6, e6_0, e6_8, e6_42, Option.getD_some, Option.bind_some, Option.toList_some, Option.toList_none, List.cons_append, List.nil_append, and_self, and_true, true_and, false_and, and_false, ite_self, not_true_eq_false, not_false_eq_true, reduceIte, Nat.reduceEqDiff, ab_I, ab_L, ab_R, ao_I, ao_L, ao_R, gL_sL, gI_sI, gR_sR, gI_sL, gI_sR, gL_sI, gL_sR, gR_sI, gR_sL, hg, b0.1, b0.2, Int.toNat_natCast, T0, c, t]
      rfl
end CFRM
