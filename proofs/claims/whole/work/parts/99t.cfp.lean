/-! ===== the class's judge: jumps, calls of functions, where they lead; how it begins ===== -/
def mkC (σ : MS) (k : Nat) (S : Nat → Bool) : Prop := ∀ j, j < 200 → gI σ k j = if S j = true then 1 else 0
def tgC (n i : Nat) (w : B64) : Int := if 0 ≤ goal i w ∧ goal i w < (n : Int) then goal i w else -1
section CFP
variable {σ τ ρ : MS} {i n k s m : Nat} {S B : Nat → Bool} {w : B64}
theorem T13 (hw : fL w = 5 ∨ fL w = 6 → okJmp w) : MM 13 [mL w] σ = some (some (mI (b2 (ledO w))), σ) := by
  have w7 : iAnd (fOp w) 7 = fL w := m7 w
  by_cases f56 : fL w = 5 ∨ fL w = 6
  · have hj := hw f56
    unfold okJmp at hj
    by_cases c133 : fOp w = 133
    · have nl : ¬ ledO w := fun z => by
        rcases z with z | z | z
        · omega
        · omega
        · have := z.2
          rw [c133] at this
          exact absurd this (by decide)
      rw [b2_no nl]
      rcases f56 with f | f
      · simp only [M13, e13_0, e13_4, e13_19, e13_23, e13_43, Option.getD_some, Option.bind_some, Option.toList_some, Option.toList_none, List.cons_append, List.nil_append, and_self, and_true, true_and, false_and, and_false, ite_self, not_true_eq_false, not_false_eq_true, reduceIte, Nat.reduceEqDiff, ab_I, ab_L, ab_R, ao_I, ao_L, ao_R, gL_sL, gI_sI, gR_sR, gI_sL, gI_sR, gL_sI, gL_sR, gR_sI, gR_sL, T0, w7, f, Int.reduceEq, eq_true c133]
      · simp only [M13, e13_0, e13_4, e13_19, e13_23, e13_43, Option.getD_some, Option.bind_some, Option.toList_some, Option.toList_none, List.cons_append, List.nil_append, and_self, and_true, true_and, false_and, and_false, ite_self, not_true_eq_false, not_false_eq_true, reduceIte, Nat.reduceEqDiff, ab_I, ab_L, ab_R, ao_I, ao_L, ao_R, gL_sL, gI_sI, gR_sR, gI_sL, gI_sR, gL_sI, gL_sR, gR_sI, gR_sL, T0, w7, f, Int.reduceEq, eq_true c133]
    · by_cases c149 : fOp w = 149
      · have nl : ¬ ledO w := fun z => by
          rcases z with z | z | z
          · omega
          · omega
          · have := z.2
            rw [c149] at this
            exact absurd this (by decide)
        rw [b2_no nl]
        rcases f56 with f | f
        · simp only [M13, e13_0, e13_4, e13_19, e13_23, e13_33, e13_43, Option.getD_some, Option.bind_some, Option.toList_some, Option.toList_none, List.cons_append, List.nil_append, and_self, and_true, true_and, false_and, and_false, ite_self, not_true_eq_false, not_false_eq_true, reduceIte, Nat.reduceEqDiff, ab_I, ab_L, ab_R, ao_I, ao_L, ao_R, gL_sL, gI_sI, gR_sR, gI_sL, gI_sR, gL_sI, gL_sR, gR_sI, gR_sL, T0, w7, f, Int.reduceEq, eq_false c133, eq_true c149]
        · simp only [M13, e13_0, e13_4, e13_19, e13_23, e13_33, e13_43, Option.getD_some, Option.bind_some, Option.toList_some, Option.toList_none, List.cons_append, List.nil_append, and_self, and_true, true_and, false_and, and_false, ite_self, not_true_eq_false, not_false_eq_true, reduceIte, Nat.reduceEqDiff, ab_I, ab_L, ab_R, ao_I, ao_L, ao_R, gL_sL, gI_sI, gR_sR, gI_sL, gI_sR, gL_sI, gL_sR, gR_sI, gR_sL, T0, w7, f, Int.reduceEq, eq_false c133, eq_true c149]
      · have yl : ledO w := by
          by_cases c5 : fOp w = 5
          · exact Or.inl c5
          · by_cases c6 : fOp w = 6
            · exact Or.inr (Or.inl c6)
            · rw [if_neg c5, if_neg c6, if_neg c133, if_neg c149] at hj
              exact Or.inr (Or.inr ⟨f56, hj.1.1⟩)
        rw [b2_yes yl]
        rcases f56 with f | f
        · simp only [M13, e13_0, e13_4, e13_19, e13_23, e13_33, Option.getD_some, Option.bind_some, Option.toList_some, Option.toList_none, List.cons_append, List.nil_append, and_self, and_true, true_and, false_and, and_false, ite_self, not_true_eq_false, not_false_eq_true, reduceIte, Nat.reduceEqDiff, ab_I, ab_L, ab_R, ao_I, ao_L, ao_R, gL_sL, gI_sI, gR_sR, gI_sL, gI_sR, gL_sI, gL_sR, gR_sI, gR_sL, T0, w7, f, Int.reduceEq, eq_false c133, eq_false c149]
        · simp only [M13, e13_0, e13_4, e13_19, e13_23, e13_33, Option.getD_some, Option.bind_some, Option.toList_some, Option.toList_none, List.cons_append, List.nil_append, and_self, and_true, true_and, false_and, and_false, ite_self, not_true_eq_false, not_false_eq_true, reduceIte, Nat.reduceEqDiff, ab_I, ab_L, ab_R, ao_I, ao_L, ao_R, gL_sL, gI_sI, gR_sR, gI_sL, gI_sR, gL_sI, gL_sR, gR_sI, gR_sL, T0, w7, f, Int.reduceEq, eq_false c133, eq_false c149]
  · have nl : ¬ ledO w := fun z => by
      rcases z with z | z | z
      · exact f56 (Or.inl (by unfold fL; omega))
      · exact f56 (Or.inr (by unfold fL; omega))
      · exact f56 z.1
    have n5 : ¬ fL w = 5 := fun z => f56 (Or.inl z)
    have n6 : ¬ fL w = 6 := fun z => f56 (Or.inr z)
    rw [b2_no nl]
    simp only [M13, e13_0, e13_4, e13_43, Option.getD_some, Option.bind_some, Option.toList_some, Option.toList_none, List.cons_append, List.nil_append, and_self, and_true, true_and, false_and, and_false, ite_self, not_true_eq_false, not_false_eq_true, reduceIte, Nat.reduceEqDiff, ab_I, ab_L, ab_R, ao_I, ao_L, ao_R, gL_sL, gI_sI, gR_sR, gI_sL, gI_sR, gL_sI, gL_sR, gR_sI, gR_sL, T0, w7, n5, n6]
theorem T14 : MM 14 [mL w] σ = some (some (mI (b2 (isCal w))), σ) := by
  by_cases c : fOp w = 133
  · by_cases d : fS w = 1
    · rw [b2_yes (p := isCal w) ⟨c, d⟩]
      simp only [M14, e14_0, e14_4, e14_14, Option.getD_some, Option.bind_some, Option.toList_some, Option.toList_none, List.cons_append, List.nil_append, and_self, and_true, true_and, false_and, and_false, ite_self, not_true_eq_false, not_false_eq_true, reduceIte, Nat.reduceEqDiff, ab_I, ab_L, ab_R, ao_I, ao_L, ao_R, gL_sL, gI_sI, gR_sR, gI_sL, gI_sR, gL_sI, gL_sR, gR_sI, gR_sL, T0, T2, eq_true c, eq_true d]
    · rw [b2_no (p := isCal w) (fun z => d z.2)]
      simp only [M14, e14_0, e14_4, e14_14, e14_22, Option.getD_some, Option.bind_some, Option.toList_some, Option.toList_none, List.cons_append, List.nil_append, and_self, and_true, true_and, false_and, and_false, ite_self, not_true_eq_false, not_false_eq_true, reduceIte, Nat.reduceEqDiff, ab_I, ab_L, ab_R, ao_I, ao_L, ao_R, gL_sL, gI_sI, gR_sR, gI_sL, gI_sR, gL_sI, gL_sR, gR_sI, gR_sL, T0, T2, eq_true c, eq_false d]
  · rw [b2_no (p := isCal w) (fun z => c z.1)]
    simp only [M14, e14_0, e14_4, e14_22, Option.getD_some, Option.bind_some, Option.toList_some, Option.toList_none, List.cons_append, List.nil_append, and_self, and_true, true_and, false_and, and_false, ite_self, not_true_eq_false, not_false_eq_true, reduceIte, Nat.reduceEqDiff, ab_I, ab_L, ab_R, ao_I, ao_L, ao_R, gL_sL, gI_sI, gR_sR, gI_sL, gI_sR, gL_sI, gL_sR, gR_sI, gR_sL, T0, eq_false c]
theorem T15 (hi : i < 200) (hn : n ≤ 200) : MM 15 [mL w, mI (i : Int), mI (n : Int)] σ = some (some (mI (tgC n i w)), σ) := by
  have fr := fld_rng w
  have gb := go_b hi w
  have o1 : iL (i : Int) + BitVec.ofNat 64 1 = iL ((i : Int) + 1) := by
    rw [← iLa]
    rfl
  -- behind the number
  have s34 : ∀ y : Int, goal i w = (i : Int) + 1 + y → RR (lkB tb15) (B15_34, [some (mL w), none, some (mI (i : Int)), some (mI (n : Int)), none, none], [mI y, mL (iL ((i : Int) + 1))], σ) = some (some (mI (tgC n i w)), σ) := fun y hy => by
    have e : iL ((i : Int) + 1) + iL y = iL (goal i w) := by rw [iLa, hy]
    have v : (iL (goal i w)).toInt = goal i w := iLt (by omega) (by omega)
    have v0 : (BitVec.ofNat 64 0).toInt = 0 := rfl
    have vn' : (iL (n : Int)).toInt = (n : Int) := iLt (by omega) (by omega)
    rw [e15_34]
    simp only [e, v, v0, vn']
    unfold tgC
    by_cases a : goal i w < 0
    · rw [if_pos a, if_neg (by omega)]
      simp only [e15_53]
    · rw [if_neg a]
      by_cases b : goal i w < (n : Int)
      · rw [if_pos b, if_pos ⟨by omega, b⟩, lI_s ⟨by omega, by omega⟩]
      · rw [if_neg b, if_neg (fun z => b z.2)]
        simp only [e15_53]
  by_cases c6 : fOp w = 6
  · have g := s34 (fI w) (by unfold goal; rw [if_pos (Or.inl c6)])
    simp only [M15, e15_0, e15_8, e15_23, e15_27, Option.getD_some, Option.bind_some, Option.toList_some, Option.toList_none, List.cons_append, List.nil_append, and_self, and_true, true_and, false_and, and_false, ite_self, not_true_eq_false, not_false_eq_true, reduceIte, Nat.reduceEqDiff, ab_I, ab_L, ab_R, ao_I, ao_L, ao_R, gL_sL, gI_sI, gR_sR, gI_sL, gI_sR, gL_sI, gL_sR, gR_sI, gR_sL, T0, T4, eq_true c6, o1]
    exact g
  · by_cases c133 : fOp w = 133
    · have g := s34 (fI w) (by unfold goal; rw [if_pos (Or.inr c133)])
      simp only [M15, e15_0, e15_8, e15_17, e15_23, e15_27, Option.getD_some, Option.bind_some, Option.toList_some, Option.toList_none, List.cons_append, List.nil_append, and_self, and_true, true_and, false_and, and_false, ite_self, not_true_eq_false, not_false_eq_true, reduceIte, Nat.reduceEqDiff, ab_I, ab_L, ab_R, ao_I, ao_L, ao_R, gL_sL, gI_sI, gR_sR, gI_sL, gI_sR, gL_sI, gL_sR, gR_sI, gR_sL, T0, T4, eq_false c6, eq_true c133, o1]
      exact g
    · have g := s34 (fO w) (by unfold goal; rw [if_neg (fun z => z.elim c6 c133)])
      simp only [M15, e15_0, e15_8, e15_17, Option.getD_some, Option.bind_some, Option.toList_some, Option.toList_none, List.cons_append, List.nil_append, and_self, and_true, true_and, false_and, and_false, ite_self, not_true_eq_false, not_false_eq_true, reduceIte, Nat.reduceEqDiff, ab_I, ab_L, ab_R, ao_I, ao_L, ao_R, gL_sL, gI_sI, gR_sR, gI_sL, gI_sR, gL_sI, gL_sR, gR_sI, gR_sL, T0, T3, eq_false c6, eq_false c133, o1]
      exact g
/-- six facts are cleared -/
theorem L581 {k : Nat} {L : Nat} (hk : ∀ ρ : MS, (kd ρ k) = (3, L)) (hL : L < 100000) : ∀ (f j : Nat) (σ : MS), j + f = L → ∃ τ, RR (lkB tb581) (B581_5, [some (mR (some k)), some (mI 0), some (mI (j : Int)), some (mI (L : Int))], [], σ) = some (none, τ) ∧ (∀ q s, ¬ (q = k ∧ j ≤ s ∧ s < L) → gI τ q s = gI σ q s) ∧ (∀ s, j ≤ s → s < L → gI τ k s = 0) ∧ τ.2 = σ.2 := by
  intro f
  induction f with
  | zero =>
    intro j σ e
    refine ⟨σ, ?_, fun _ _ _ => rfl, fun s a b => by omega, rfl⟩
    rw [e581_5, if_pos (by omega)]
  | succ f ih =>
    intro j σ e
    obtain ⟨τ, t, q1, q2, q3⟩ := ih (j + 1) (sI σ k j 0) (by omega)
    have g : Option.isSome (some k) = true ∧ ab σ 3 k (j : Int) := by
      refine ⟨rfl, ?_⟩
      unfold ab
      rw [hk]
      exact ⟨rfl, by omega, by show (j : Int) < (L : Int); omega⟩
    refine ⟨τ, ?_, fun q s h => ?_, fun s a b => ?_, q3⟩
    · rw [e581_5, if_neg (by omega)]
      simp only [Option.getD_some]
      rw [if_pos g, Int.toNat_natCast, w32_s (by omega)]
      exact t
    · rw [q1 q s (by omega), gI_sI, if_neg (by omega)]
    · by_cases z : s = j
      · rw [z, q1 _ _ (by omega), gI_sI, if_pos ⟨rfl, rfl⟩]
      · exact q2 s (by omega) b
/-- what begin may change -/
def bgq (τ σ : MS) : Prop := (∀ q s, ¬ (q = 39 ∧ (s = 4 ∨ s = 11)) → ¬ (q = 51 ∨ q = 52 ∨ q = 54 ∨ q = 55 ∨ q = 56) → ¬ (q = 40 ∧ s = 8) → gI τ q s = gI σ q s) ∧ (∀ q s, ¬ q = 41 → gL τ q s = gL σ q s) ∧ (∀ q s, ¬ (q = 60 ∨ q = 61) → gR τ q s = gR σ q s) ∧ τ.2.2.2 = σ.2.2.2
theorem bgq_t {a b c : MS} (h1 : bgq a b) (h2 : bgq b c) : bgq a c := ⟨fun q s x y z => (h1.1 q s x y z).trans (h2.1 q s x y z), fun q s x => (h1.2.1 q s x).trans (h2.2.1 q s x), fun q s x => (h1.2.2.1 q s x).trans (h2.2.2.1 q s x), h1.2.2.2.trans h2.2.2.2⟩
theorem T27l {x1 : Int} : ∀ (f j : Nat) (σ : MS), j + f = 200 → ∃ τ, RR (lkB tb27) (B27_27, [some (mR (some 39)), some (mI x1), some (mI (j : Int))], [], σ) = RR (lkB tb27) (B27_27, [some (mR (some 39)), some (mI x1), some (mI 200)], [], τ) ∧ (∀ q s, ¬ ((q = 52 ∨ q = 54 ∨ q = 55 ∨ q = 56) ∧ j ≤ s ∧ s < 200) → gI τ q s = gI σ q s) ∧ (∀ q s, (q = 52 ∨ q = 54 ∨ q = 55 ∨ q = 56) → j ≤ s → s < 200 → gI τ q s = 0) ∧ τ.2.1 = σ.2.1 ∧ (∀ q s, ¬ ((q = 60 ∨ q = 61) ∧ j ≤ s ∧ s < 200) → gR τ q s = gR σ q s) ∧ (∀ q s, (q = 60 ∨ q = 61) → j ≤ s → s < 200 → gR τ q s = none) ∧ τ.2.2.2 = σ.2.2.2 := by
  intro f
  induction f with
  | zero =>
    intro j σ e
    have e : j = 200 := by omega
    subst e
    exact ⟨σ, rfl, fun _ _ _ => rfl, fun q s _ a b => by omega, rfl, fun _ _ _ => rfl, fun q s _ a b => by omega, rfl⟩
  | succ f ih =>
    intro j σ e
    obtain ⟨ρ, hρ⟩ : ∃ ρ, ρ = sR (sR (sI (sI (sI (sI σ 52 j 0) 54 j 0) 55 j 0) 56 j 0) 60 j none) 61 j none := ⟨_, rfl⟩
    obtain ⟨τ, t, q1, q2, q3, q4, q5, q6⟩ := ih (j + 1) ρ (by omega)
    have b0 : 0 ≤ (j : Int) ∧ (j : Int) < 200 := by omega
    have nl : ¬ 200 ≤ (j : Int) := by omega
    have ww : w32 ((j : Int) + 1) = ((j + 1 : Nat) : Int) := w32_s (by omega)
    have ri : ∀ q s, gI ρ q s = if (q = 56 ∧ s = j) ∨ (q = 55 ∧ s = j) ∨ (q = 54 ∧ s = j) ∨ (q = 52 ∧ s = j) then 0 else gI σ q s := fun q s => by
      rw [hρ]
      show gI (sI (sI (sI (sI σ 52 j 0) 54 j 0) 55 j 0) 56 j 0) q s = _
      rw [gI_sI, gI_sI, gI_sI, gI_sI]
      by_cases a : q = 56 ∧ s = j
      · rw [if_pos a, if_pos (Or.inl a)]
      · rw [if_neg a]
        by_cases b : q = 55 ∧ s = j
        · rw [if_pos b, if_pos (Or.inr (Or.inl b))]
        · rw [if_neg b]
          by_cases c : q = 54 ∧ s = j
          · rw [if_pos c, if_pos (Or.inr (Or.inr (Or.inl c)))]
          · rw [if_neg c]
            by_cases d : q = 52 ∧ s = j
            · rw [if_pos d, if_pos (Or.inr (Or.inr (Or.inr d)))]
            · rw [if_neg d, if_neg (fun z => z.elim a (fun z => z.elim b (fun z => z.elim c d)))]
    have rr : ∀ q s, gR ρ q s = if (q = 61 ∧ s = j) ∨ (q = 60 ∧ s = j) then none else gR σ q s := fun q s => by
      rw [hρ, gR_sR, gR_sR]
      by_cases a : q = 61 ∧ s = j
      · rw [if_pos a, if_pos (Or.inl a)]
      · rw [if_neg a]
        by_cases b : q = 60 ∧ s = j
        · rw [if_pos b, if_pos (Or.inr b)]
        · rw [if_neg b, if_neg (fun z => z.elim a b)]
          rfl
    refine ⟨τ, ?_, fun q s h => ?_, fun q s h a b => ?_, ?_, fun q s h => ?_, fun q s h a b => ?_, ?_⟩
    · rw [← t, hρ, e27_27]
      have aqn : ∀ ρ : MS, aq ρ 5 none = True := fun ρ => eq_true (fun z => by cases z)
      simp only [e27_55, e27_76, Option.getD_some, Option.bind_some, Option.toList_some, Option.toList_none, List.cons_append, List.nil_append, and_self, and_true, true_and, false_and, and_false, ite_self, not_true_eq_false, not_false_eq_true, reduceIte, Nat.reduceEqDiff, ab_I, ab_L, ab_R, ao_I, ao_L, ao_R, gL_sL, gI_sI, gR_sR, gI_sL, gI_sR, gL_sI, gL_sR, gR_sI, gR_sL, nl, g_52, g_54, g_55, g_56, g_60, g_61, b0.1, b0.2, Int.toNat_natCast, aqn, show (0 : Int) % 2 = 0 from rfl, ww]
    · rw [q1 q s (by omega), ri, if_neg (by omega)]
    · by_cases z : s = j
      · rw [q1 q s (by omega), ri, if_pos (by omega)]
      · exact q2 q s h (by omega) b
    · rw [q3, hρ]
      rfl
    · rw [q4 q s (by omega), rr, if_neg (by omega)]
    · by_cases z : s = j
      · rw [q4 q s (by omega), rr, if_pos (by omega)]
      · exact q5 q s h (by omega) b
    · rw [q6, hρ]
      rfl
/-- begin -/
theorem T27 {n : Nat} : okc (MM 27 [mR (some 39), mI (n : Int)] σ) none (fun τ => bgq τ σ ∧ gI τ 39 4 = (n : Int) ∧ gI τ 39 11 = 0 ∧ gI τ 40 8 = 0 ∧ (gI τ 51 0 = -1 ∧ ∀ s, 1 ≤ s → s < 6 → gI τ 51 s = 0) ∧ (∀ q s, (q = 52 ∨ q = 54 ∨ q = 55 ∨ q = 56) → s < 200 → gI τ q s = 0) ∧ (∀ q s, (q = 60 ∨ q = 61) → s < 200 → gR τ q s = none) ∧ rC τ 41 = cstN 0#64) := by
  obtain ⟨τ1, t1, a1, a2, a3⟩ := L581 (k := 51) (L := 6) (fun _ => rfl) (by decide) 6 0 (sI σ 39 4 (n : Int)) rfl
  obtain ⟨ρ, hρ⟩ : ∃ ρ, ρ = sI (sI τ1 51 0 (-1)) 39 11 0 := ⟨_, rfl⟩
  obtain ⟨τ2, t2, b1, b2', b3, b4, b5, b6⟩ := T27l (x1 := (n : Int)) 200 0 ρ rfl
  have t61 := T61 (σ := sI τ2 40 8 0) (k := 41) (x1 := 0#64) (kc_41 _)
  have t239 : MM 239 [mR (some 40)] τ2 = some (none, wC (sI τ2 40 8 0) 41 (cstN 0#64)) := by
    have t61' : MM 61 [mR (some 41), mL (BitVec.ofNat 64 0)] (sI τ2 40 8 0) = some (none, wC (sI τ2 40 8 0) 41 (cstN 0#64)) := t61
    simp only [M239, e239_0, e239_13, Option.getD_some, Option.bind_some, Option.toList_some, Option.toList_none, List.cons_append, List.nil_append, and_self, and_true, true_and, false_and, and_false, ite_self, not_true_eq_false, not_false_eq_true, reduceIte, Nat.reduceEqDiff, ab_I, ab_L, ab_R, ao_I, ao_L, ao_R, gL_sL, gI_sI, gR_sR, gI_sL, gI_sR, gL_sI, gL_sR, gR_sI, gR_sL, t61']
  have t581 : MM 581 [mR (some 51), mI 0] (sI σ 39 4 (n : Int)) = some (none, τ1) := by
    rw [M581, e581_0, if_pos ⟨rfl, rfl⟩]
    exact t1
  have g51 : ∀ ρ : MS, (Option.isSome (some 51) = true ∧ ab ρ 3 51 0) = True := fun ρ => by
    rw [g_51]
    exact eq_true (by decide)
  have gi : ∀ q s, ¬ (q = 39 ∧ (s = 4 ∨ s = 11)) → ¬ (q = 51 ∨ q = 52 ∨ q = 54 ∨ q = 55 ∨ q = 56) → ¬ (q = 40 ∧ s = 8) → gI (wC (sI τ2 40 8 0) 41 (cstN 0#64)) q s = gI σ q s := fun q s x y z => by
    show gI (sI τ2 40 8 0) q s = _
    rw [gI_sI, if_neg z, b1 _ _ (by omega), hρ, gI_sI, if_neg (by omega), gI_sI, if_neg (by omega), a1 _ _ (by omega), gI_sI, if_neg (by omega)]
  have g39 : ∀ q s, ¬ (q = 52 ∨ q = 54 ∨ q = 55 ∨ q = 56) → ¬ (q = 40 ∧ s = 8) → gI (wC (sI τ2 40 8 0) 41 (cstN 0#64)) q s = gI ρ q s := fun q s y z => by
    show gI (sI τ2 40 8 0) q s = _
    rw [gI_sI, if_neg z, b1 _ _ (by omega)]
  refine okc_o (τ := wC (sI τ2 40 8 0) 41 (cstN 0#64)) ?_ ⟨⟨gi, fun q s h => ?_, fun q s h => ?_, ?_⟩, ?_, ?_, ?_, ⟨?_, fun s s1 s6 => ?_⟩, fun q s h l => ?_, fun q s h l => ?_, ?_⟩
  · simp only [M27, e27_0, e27_13, Option.getD_some, Option.bind_some, Option.toList_some, Option.toList_none, List.cons_append, List.nil_append, and_self, and_true, true_and, false_and, and_false, ite_self, not_true_eq_false, not_false_eq_true, reduceIte, Nat.reduceEqDiff, ab_I, ab_L, ab_R, ao_I, ao_L, ao_R, gL_sL, gI_sI, gR_sR, gI_sL, gI_sR, gL_sI, gL_sR, gR_sI, gR_sL, t581, g51, Int.reduceToNat]
    have t2' : RR (lkB tb27) (B27_27, [some (mR (some 39)), some (mI (n : Int)), some (mI 0)], [], ρ) = RR (lkB tb27) (B27_27, [some (mR (some 39)), some (mI (n : Int)), some (mI 200)], [], τ2) := t2
    rw [← hρ, t2', e27_27]
    simp only [e27_89, Option.getD_some, Option.bind_some, Option.toList_some, Option.toList_none, List.cons_append, List.nil_append, and_self, and_true, true_and, false_and, and_false, ite_self, not_true_eq_false, not_false_eq_true, reduceIte, Nat.reduceEqDiff, ab_I, ab_L, ab_R, ao_I, ao_L, ao_R, gL_sL, gI_sI, gR_sR, gI_sL, gI_sR, gL_sI, gL_sR, gR_sI, gR_sL, Int.reduceLE, t239]
  · rw [gC_ne h]
    show gL τ2 q s = gL σ q s
    unfold gL
    rw [b3, hρ]
    show τ1.2.1 q s = _
    rw [a3]
    rfl
  · show gR τ2 q s = gR σ q s
    rw [b4 _ _ (by omega), hρ]
    show gR τ1 q s = _
    unfold gR
    rw [a3]
    rfl
  · show τ2.2.2.2 = _
    rw [b6, hρ]
    show τ1.2.2.2 = _
    rw [a3]
    rfl
  · rw [g39 _ _ (by omega) (by omega), hρ, gI_sI, if_neg (by omega), gI_sI, if_neg (by omega), a1 _ _ (by omega), gI_sI, if_pos ⟨rfl, rfl⟩]
  · rw [g39 _ _ (by omega) (by omega), hρ, gI_sI, if_pos ⟨rfl, rfl⟩]
  · show gI (sI τ2 40 8 0) 40 8 = 0
    rw [gI_sI, if_pos ⟨rfl, rfl⟩]
  · rw [g39 _ _ (by omega) (by omega), hρ, gI_sI, if_neg (by omega), gI_sI, if_pos ⟨rfl, rfl⟩]
  · rw [g39 _ _ (by omega) (by omega), hρ, gI_sI, if_neg (by omega), gI_sI, if_neg (by omega), a2 _ (by omega) s6]
  · show gI (sI τ2 40 8 0) q s = 0
    rw [gI_sI, if_neg (by omega)]
    exact b2' q s h (by omega) l
  · show gR τ2 q s = none
    exact b5 q s h (by omega) l
  · rw [rC_wC, if_pos rfl]
end CFP
