/-! ===== the reference's judge: words, goals, small askings ===== -/
theorem T479 {w : B64} {σ : MS} : MM 479 [mL w] σ = some (some (mI (b2 (isCal w))), σ) := by
  by_cases c1 : fOp w = 133
  · by_cases c2 : fS w = 1
    · simp only [M479, e479_0, e479_4, e479_14, e479_22, Option.getD_some, Option.bind_some, Option.toList_some, Option.toList_none, List.cons_append, List.nil_append, and_self, and_true, true_and, false_and, and_false, ite_self, not_true_eq_false, not_false_eq_true, reduceIte, Nat.reduceEqDiff, ab_I, ab_L, ab_R, ao_I, ao_L, ao_R, gL_sL, gI_sI, gR_sR, gI_sL, gI_sR, gL_sI, gL_sR, gR_sI, gR_sL, T332, T334, eq_true c1, eq_true c2]
      unfold b2
      rw [if_pos (show isCal w from ⟨c1, c2⟩)]
    · simp only [M479, e479_0, e479_4, e479_14, e479_22, Option.getD_some, Option.bind_some, Option.toList_some, Option.toList_none, List.cons_append, List.nil_append, and_self, and_true, true_and, false_and, and_false, ite_self, not_true_eq_false, not_false_eq_true, reduceIte, Nat.reduceEqDiff, ab_I, ab_L, ab_R, ao_I, ao_L, ao_R, gL_sL, gI_sI, gR_sR, gI_sL, gI_sR, gL_sI, gL_sR, gR_sI, gR_sL, T332, T334, eq_true c1, c2]
      unfold b2
      rw [if_neg (show ¬ isCal w from fun q => c2 q.2)]
  · simp only [M479, e479_0, e479_4, e479_14, e479_22, Option.getD_some, Option.bind_some, Option.toList_some, Option.toList_none, List.cons_append, List.nil_append, and_self, and_true, true_and, false_and, and_false, ite_self, not_true_eq_false, not_false_eq_true, reduceIte, Nat.reduceEqDiff, ab_I, ab_L, ab_R, ao_I, ao_L, ao_R, gL_sL, gI_sI, gR_sR, gI_sL, gI_sR, gL_sI, gL_sR, gR_sI, gR_sL, T332, c1]
    unfold b2
    rw [if_neg (show ¬ isCal w from fun q => c1 q.1)]
theorem T476 {w : B64} {σ : MS} : MM 476 [mL w] σ = some (some (mI (b2 (ledO w))), σ) := by
  have hL : fL w = fOp w % 8 := rfl
  by_cases c1 : fOp w = 5
  · simp only [M476, e476_0, e476_4, e476_37, e476_40, e476_44, Option.getD_some, Option.bind_some, Option.toList_some, Option.toList_none, List.cons_append, List.nil_append, and_self, and_true, true_and, false_and, and_false, ite_self, not_true_eq_false, not_false_eq_true, reduceIte, Nat.reduceEqDiff, ab_I, ab_L, ab_R, ao_I, ao_L, ao_R, gL_sL, gI_sI, gR_sR, gI_sL, gI_sR, gL_sI, gL_sR, gR_sI, gR_sL, T332, eq_true c1]
    unfold b2
    rw [if_pos (show ledO w from Or.inl c1)]
  · by_cases c2 : fOp w = 6
    · simp only [M476, e476_0, e476_4, e476_37, e476_40, e476_44, Option.getD_some, Option.bind_some, Option.toList_some, Option.toList_none, List.cons_append, List.nil_append, and_self, and_true, true_and, false_and, and_false, ite_self, not_true_eq_false, not_false_eq_true, reduceIte, Nat.reduceEqDiff, ab_I, ab_L, ab_R, ao_I, ao_L, ao_R, gL_sL, gI_sI, gR_sR, gI_sL, gI_sR, gL_sI, gL_sR, gR_sI, gR_sL, T332, c1, eq_true c2]
      unfold b2
      rw [if_pos (show ledO w from Or.inr (Or.inl c2))]
    · by_cases c3 : fOp w % 8 < 5
      · simp only [M476, e476_0, e476_4, e476_37, e476_40, e476_44, Option.getD_some, Option.bind_some, Option.toList_some, Option.toList_none, List.cons_append, List.nil_append, and_self, and_true, true_and, false_and, and_false, ite_self, not_true_eq_false, not_false_eq_true, reduceIte, Nat.reduceEqDiff, ab_I, ab_L, ab_R, ao_I, ao_L, ao_R, gL_sL, gI_sI, gR_sR, gI_sL, gI_sR, gL_sI, gL_sR, gR_sI, gR_sL, T332, iAnd7, c1, c2, c3]
        unfold b2
        rw [if_neg (show ¬ ledO w from fun q => by rcases q with q | q | q <;> omega)]
      · by_cases c4 : 6 < fOp w % 8
        · simp only [M476, e476_0, e476_4, e476_37, e476_40, e476_44, Option.getD_some, Option.bind_some, Option.toList_some, Option.toList_none, List.cons_append, List.nil_append, and_self, and_true, true_and, false_and, and_false, ite_self, not_true_eq_false, not_false_eq_true, reduceIte, Nat.reduceEqDiff, ab_I, ab_L, ab_R, ao_I, ao_L, ao_R, gL_sL, gI_sI, gR_sR, gI_sL, gI_sR, gL_sI, gL_sR, gR_sI, gR_sL, T332, iAnd7, c1, c2, c3, c4]
          unfold b2
          rw [if_neg (show ¬ ledO w from fun q => by rcases q with q | q | q <;> omega)]
        · by_cases c5 : isCmpO (fOp w)
          · simp only [M476, e476_0, e476_4, e476_37, e476_40, e476_44, Option.getD_some, Option.bind_some, Option.toList_some, Option.toList_none, List.cons_append, List.nil_append, and_self, and_true, true_and, false_and, and_false, ite_self, not_true_eq_false, not_false_eq_true, reduceIte, Nat.reduceEqDiff, ab_I, ab_L, ab_R, ao_I, ao_L, ao_R, gL_sL, gI_sI, gR_sR, gI_sL, gI_sR, gL_sI, gL_sR, gR_sI, gR_sL, T332, T340, b2_0', iAnd7, c1, c2, c3, c4, eq_true c5]
            unfold b2
            rw [if_pos (show ledO w from Or.inr (Or.inr ⟨by omega, c5⟩))]
          · simp only [M476, e476_0, e476_4, e476_37, e476_40, e476_44, Option.getD_some, Option.bind_some, Option.toList_some, Option.toList_none, List.cons_append, List.nil_append, and_self, and_true, true_and, false_and, and_false, ite_self, not_true_eq_false, not_false_eq_true, reduceIte, Nat.reduceEqDiff, ab_I, ab_L, ab_R, ao_I, ao_L, ao_R, gL_sL, gI_sI, gR_sR, gI_sL, gI_sR, gL_sI, gL_sR, gR_sI, gR_sL, T332, T340, b2_0', iAnd7, c1, c2, c3, c4, eq_false c5]
            unfold b2
            rw [if_neg (show ¬ ledO w from fun q => by rcases q with q | q | q <;> first | exact c5 q.2 | omega)]
theorem T477 {i : Int} {w : B64} {σ : MS} (hi : 0 ≤ i ∧ i < 1000) : MM 477 [mI i, mL w] σ = some (some (mI (w32 (goal i w))), σ) := by
  have e : w32 (i + 1) = i + 1 := w32_i (by omega) (by omega)
  unfold goal
  by_cases c1 : fOp w = 6
  · rw [if_pos (Or.inl c1)]
    simp only [M477, e477_0, e477_4, e477_21, e477_25, e477_32, Option.getD_some, Option.bind_some, Option.toList_some, Option.toList_none, List.cons_append, List.nil_append, and_self, and_true, true_and, false_and, and_false, ite_self, not_true_eq_false, not_false_eq_true, reduceIte, Nat.reduceEqDiff, ab_I, ab_L, ab_R, ao_I, ao_L, ao_R, gL_sL, gI_sI, gR_sR, gI_sL, gI_sR, gL_sI, gL_sR, gR_sI, gR_sL, T332, T336, eq_true c1, e]
  · by_cases c2 : fOp w = 133
    · rw [if_pos (Or.inr c2)]
      simp only [M477, e477_0, e477_4, e477_21, e477_25, e477_32, Option.getD_some, Option.bind_some, Option.toList_some, Option.toList_none, List.cons_append, List.nil_append, and_self, and_true, true_and, false_and, and_false, ite_self, not_true_eq_false, not_false_eq_true, reduceIte, Nat.reduceEqDiff, ab_I, ab_L, ab_R, ao_I, ao_L, ao_R, gL_sL, gI_sI, gR_sR, gI_sL, gI_sR, gL_sI, gL_sR, gR_sI, gR_sL, T332, T336, c1, eq_true c2, e]
    · rw [if_neg (fun q => by rcases q with q | q <;> contradiction)]
      simp only [M477, e477_0, e477_4, e477_21, e477_25, e477_32, Option.getD_some, Option.bind_some, Option.toList_some, Option.toList_none, List.cons_append, List.nil_append, and_self, and_true, true_and, false_and, and_false, ite_self, not_true_eq_false, not_false_eq_true, reduceIte, Nat.reduceEqDiff, ab_I, ab_L, ab_R, ao_I, ao_L, ao_R, gL_sL, gI_sI, gR_sR, gI_sL, gI_sR, gL_sI, gL_sR, gR_sI, gR_sL, T332, T335, c1, c2, e]
/-- the slot at hand, and its words -/
abbrev jsA (σ : MS) : Int := gI σ 80 86
abbrev okSl (σ : MS) : Prop := (0 ≤ jsA σ ∧ jsA σ < 8) ∧ 0 ≤ gI σ 84 (jsA σ).toNat ∧ gI σ 84 (jsA σ).toNat ≤ 200
def wdA (σ : MS) (i : Nat) : B64 := gL σ 83 (200 * (jsA σ).toNat + i)
def szA (σ : MS) : Nat := (gI σ 84 (jsA σ).toNat).toNat
theorem T474 {i : Nat} {σ : MS} (h : okSl σ) (hi : i < 200) : MM 474 [mR (some 80), mI (i : Int)] σ = some (some (mL (wdA σ i)), σ) := by
  obtain ⟨⟨h1, h2⟩, h3, h4⟩ := h
  have e : w32 (w32 (200 * jsA σ) + (i : Int)) = ((200 * (jsA σ).toNat + i : Nat) : Int) := by
    rw [w32_i (x := 200 * jsA σ) (by omega) (by omega), w32_i (by omega) (by omega)]
    omega
  rw [M474, e474_0]
  simp only [g_83]
  rw [e, if_pos ⟨by omega, by omega⟩, Int.toNat_natCast]
  rfl
theorem T478 {x : Int} {σ : MS} (h : okSl σ) : MM 478 [mR (some 80), mI x] σ = some (some (mI (b2 ((0 ≤ x ∧ x.toNat < szA σ) ∧ ¬ gI σ 135 x.toNat = 0))), σ) := by
  obtain ⟨⟨h1, h2⟩, h3, h4⟩ := h
  have hz : ((szA σ : Nat) : Int) = gI σ 84 (jsA σ).toNat := by unfold szA; omega
  rw [M478, e478_0]
  simp only [g_84, g_135]
  unfold b2
  by_cases c1 : x < 0
  · rw [if_pos c1, e478_30, if_neg (fun q => by omega)]
  · rw [if_neg c1, if_pos ⟨h1, by omega⟩]
    by_cases c2 : gI σ 84 (jsA σ).toNat ≤ x
    · rw [if_pos c2, e478_30, if_neg (fun q => by omega)]
    · rw [if_neg c2, if_pos ⟨by omega, by omega⟩]
      by_cases c3 : gI σ 135 x.toNat = 0
      · rw [if_pos c3, e478_30, if_neg (fun q => q.2 c3)]
      · rw [if_neg c3, if_pos ⟨⟨by omega, by omega⟩, c3⟩]
/-- a stretch of places made UNSET -/
def clS (σ : MS) (a : Nat) : Nat → MS
  | 0 => σ
  | n + 1 => wrV (clS σ a n) (a + n) unsV
theorem T469 {f : Nat} {σ : MS} (hf : f < 1250) : MM 469 [mR (some 80), mI (f : Int)] σ = some (none, clS σ (26 * f) 26) := by
  have key : ∀ m : Nat, m ≤ 26 → RR (lkB tb469) (B469_2, [some (mR (some 80)), some (mI (f : Int)), some (mI ((26 - m : Nat) : Int))], [], clS σ (26 * f) (26 - m)) = some (none, clS σ (26 * f) 26) := by
    intro m
    induction m with
    | zero =>
      intro _
      rw [e469_2, if_pos (by omega)]
    | succ m ih =>
      intro hm
      have ea : w32 (w32 (26 * (f : Int)) + ((26 - (m + 1) : Nat) : Int)) = ((26 * f + (26 - (m + 1)) : Nat) : Int) := by
        rw [w32_i (x := 26 * (f : Int)) (by omega) (by omega), w32_i (by omega) (by omega)]
        omega
      rw [e469_2, if_neg (by omega), ea, T431 ⟨by omega, by omega⟩ (by omega)]
      simp only [Option.bind_some, Option.toList_none, List.nil_append]
      rw [e469_21, ea]
      simp only [g_122]
      rw [if_pos ⟨by omega, by omega⟩, Int.toNat_natCast, p122, aV_same, wrV_same, w32_i (by omega) (by omega)]
      have e3 : ((26 - (m + 1) : Nat) : Int) + 1 = ((26 - m : Nat) : Int) := by omega
      have e4 : clS σ (26 * f) (26 - m) = wrV (clS σ (26 * f) (26 - (m + 1))) (26 * f + (26 - (m + 1))) unsV := by
        rw [show 26 - m = (26 - (m + 1)) + 1 by omega]
        rfl
      rw [e3]
      have := ih (by omega)
      rw [e4] at this
      exact this
  rw [M469, e469_0]
  exact key 26 (Nat.le_refl _)
