/-! ===== the class's plain code: what an operation does ===== -/
def opsV (o : Int) (x y : B64) : B64 := if o = 2 then x + y else if o = 3 then x - y else if o = 4 then x * y else if o = 5 then x / y else if o = 6 then x % y else if o = 7 then x.sdiv y else if o = 8 then x.srem y else if o = 9 then x ||| y else if o = 10 then x &&& y else if o = 11 then x ^^^ y else if o = 12 then x <<< (y.toNat % 64) else if o = 13 then x >>> (y.toNat % 64) else x.sshiftRight (y.toNat % 64)
/-- what comes to register a -/
def mqV (o b c : Int) (g : Nat → B64) : B64 := if o = 0 then (lShl (iL c) 32) ||| (iL b &&& cF) else if o = 1 then g b.toNat else if o = 15 then g b.toNat &&& cF else if o = 16 then sxt c.toNat (g b.toNat) else if o = 17 then turnB c.toNat (g b.toNat) else opsV o (g b.toNat) (g c.toNat)
/-- operations that move one register alone -/
def rqok (o a b c : Int) : Prop := (0 ≤ o ∧ o < 18) ∧ (0 ≤ a ∧ a < 16) ∧ (¬ o = 0 → 0 ≤ b ∧ b < 16) ∧ (2 ≤ o → o < 15 → 0 ≤ c ∧ c < 16) ∧ (o = 16 → 1 ≤ c ∧ c < 64) ∧ (o = 17 → 0 ≤ c ∧ c ≤ 8)
def soV (o : Int) (x y : B64) : Bool := if o = 20 then decide (x = y) else if o = 21 then decide (¬ x = y) else if o = 22 then decide (y < x) else if o = 23 then decide (¬ x < y) else if o = 24 then decide (¬ x &&& y = 0#64) else if o = 25 then decide (y.toInt < x.toInt) else decide (y.toInt ≤ x.toInt)
section CMOP
variable {σ τ ρ υ ω : MS} {w w2 x y : B64} {m n f i j s t N K P Q : Nat} {a b c o n' : Int}
theorem sh_l : lShl x (lI y) = x <<< (y.toNat % 64) ∧ lUsh x (lI y) = x >>> (y.toNat % 64) ∧ lShr x (lI y) = x.sshiftRight (y.toNat % 64) := by
  have e : (lI y % 64).toNat = y.toNat % 64 := by
    have := lI_mod y 64 (Or.inr rfl)
    rw [show (lI y % 64) = ((y.toNat % 64 : Nat) : Int) from this]
    rfl
  unfold lShl lUsh lShr
  rw [e]
  exact ⟨rfl, rfl, rfl⟩
theorem T131 : MM 131 [mI o, mL x, mL y] σ = some (some (mL (opsV o x y)), σ) := by
  obtain ⟨s1, s2, s3⟩ := sh_l (x := x) (y := y)
  unfold opsV
  rw [M131, e131_0, s1, s2, s3]
  by_cases c2 : o = 2
  · rw [if_pos c2, if_pos c2]
  rw [if_neg c2, if_neg c2]
  by_cases c3 : o = 3
  · rw [if_pos c3, if_pos c3]
  rw [if_neg c3, if_neg c3]
  by_cases c4 : o = 4
  · rw [if_pos c4, if_pos c4]
  rw [if_neg c4, if_neg c4]
  by_cases c5 : o = 5
  · rw [if_pos c5, if_pos c5, T18]
    simp only [Option.getD_some, Option.bind_some, Option.toList_some, Option.toList_none, List.cons_append, List.nil_append, and_self, and_true, true_and, false_and, and_false, ite_self, not_true_eq_false, not_false_eq_true, reduceIte, Nat.reduceEqDiff, ab_I, ab_L, ab_R, ao_I, ao_L, ao_R, gL_sL, gI_sI, gR_sR, gI_sL, gI_sR, gL_sI, gL_sR, gR_sI, gR_sL]
    rw [e131_81]
  rw [if_neg c5, if_neg c5]
  by_cases c6 : o = 6
  · rw [if_pos c6, if_pos c6, T21]
    simp only [Option.getD_some, Option.bind_some, Option.toList_some, Option.toList_none, List.cons_append, List.nil_append, and_self, and_true, true_and, false_and, and_false, ite_self, not_true_eq_false, not_false_eq_true, reduceIte, Nat.reduceEqDiff, ab_I, ab_L, ab_R, ao_I, ao_L, ao_R, gL_sL, gI_sI, gR_sR, gI_sL, gI_sR, gL_sI, gL_sR, gR_sI, gR_sL]
    rw [e131_87]
  rw [if_neg c6, if_neg c6]
  by_cases c7 : o = 7
  · rw [if_pos c7, if_pos c7, T22]
    simp only [Option.getD_some, Option.bind_some, Option.toList_some, Option.toList_none, List.cons_append, List.nil_append, and_self, and_true, true_and, false_and, and_false, ite_self, not_true_eq_false, not_false_eq_true, reduceIte, Nat.reduceEqDiff, ab_I, ab_L, ab_R, ao_I, ao_L, ao_R, gL_sL, gI_sI, gR_sR, gI_sL, gI_sR, gL_sI, gL_sR, gR_sI, gR_sL]
    rw [e131_93]
  rw [if_neg c7, if_neg c7]
  by_cases c8 : o = 8
  · rw [if_pos c8, if_pos c8, T23]
    simp only [Option.getD_some, Option.bind_some, Option.toList_some, Option.toList_none, List.cons_append, List.nil_append, and_self, and_true, true_and, false_and, and_false, ite_self, not_true_eq_false, not_false_eq_true, reduceIte, Nat.reduceEqDiff, ab_I, ab_L, ab_R, ao_I, ao_L, ao_R, gL_sL, gI_sI, gR_sR, gI_sL, gI_sR, gL_sI, gL_sR, gR_sI, gR_sL]
    rw [e131_99]
  rw [if_neg c8, if_neg c8]
  by_cases c9 : o = 9
  · rw [if_pos c9, if_pos c9]
  rw [if_neg c9, if_neg c9]
  by_cases c10 : o = 10
  · rw [if_pos c10, if_pos c10]
  rw [if_neg c10, if_neg c10]
  by_cases c11 : o = 11
  · rw [if_pos c11, if_pos c11]
  rw [if_neg c11, if_neg c11]
  by_cases c12 : o = 12
  · rw [if_pos c12, if_pos c12]
  rw [if_neg c12, if_neg c12]
  by_cases c13 : o = 13
  · rw [if_pos c13, if_pos c13]
  rw [if_neg c13, if_neg c13]
theorem T130 (h : rqok o a b c) : MM 130 [mR (some 71), mI o, mI n', mI a, mI b, mI c] σ = some (none, sL σ 76 a.toNat (mqV o b c (fun r => gL σ 76 r))) := by
  obtain ⟨h0, h1, h2, h3, h4, h5⟩ := h
  have A := g_76 (σ := σ) (i := a)
  have B := g_76 (σ := σ) (i := b)
  have C := g_76 (σ := σ) (i := c)
  have pa : Option.isSome (some 76) = true ∧ ab σ 4 76 a := A ▸ h1
  have q76 : Option.isSome (some 76) = true := rfl
  unfold mqV
  rw [M130, e130_0, iL_F]
  by_cases c0 : o = 0
  · rw [if_pos c0, if_pos c0, if_pos pa]
  · have pb : Option.isSome (some 76) = true ∧ ab σ 4 76 b := B ▸ h2 c0
    rw [if_neg c0, if_neg c0]
    by_cases c1 : o = 1
    · rw [if_pos c1, if_pos c1, if_pos pb, if_pos pa]
    · rw [if_neg c1, if_neg c1]
      by_cases c15 : o = 15
      · have n2 : ∀ k : Int, k < 15 → ¬ o = k := fun k hk => by omega
        rw [if_pos c15, if_neg (n2 2 (by decide)), if_neg (n2 3 (by decide)), if_neg (n2 4 (by decide)), if_neg (n2 5 (by decide)), if_neg (n2 6 (by decide)), if_neg (n2 7 (by decide)), if_neg (n2 8 (by decide)), if_neg (n2 9 (by decide)), if_neg (n2 10 (by decide)), if_neg (n2 11 (by decide)), if_neg (n2 12 (by decide)), if_neg (n2 13 (by decide)), if_neg (n2 14 (by decide)), if_pos c15, if_pos pb, if_pos pa]
      · by_cases c16 : o = 16
        · have n2 : ∀ k : Int, k < 16 → ¬ o = k := fun k hk => by omega
          obtain ⟨z0, z1⟩ := h4 c16
          obtain ⟨k, hk⟩ : ∃ k : Nat, c = (k : Int) := ⟨c.toNat, by omega⟩
          have t := T19 (σ := σ) (x := gL σ 76 b.toNat) (b := k) (by omega) (by omega)
          rw [if_neg c15, if_pos c16, if_neg (n2 2 (by decide)), if_neg (n2 3 (by decide)), if_neg (n2 4 (by decide)), if_neg (n2 5 (by decide)), if_neg (n2 6 (by decide)), if_neg (n2 7 (by decide)), if_neg (n2 8 (by decide)), if_neg (n2 9 (by decide)), if_neg (n2 10 (by decide)), if_neg (n2 11 (by decide)), if_neg (n2 12 (by decide)), if_neg (n2 13 (by decide)), if_neg (n2 14 (by decide)), if_neg (n2 15 (by decide)), if_pos c16, if_pos pb, hk, t]
          simp only [Option.getD_some, Option.bind_some, Option.toList_some, Option.toList_none, List.cons_append, List.nil_append, and_self, and_true, true_and, false_and, and_false, ite_self, not_true_eq_false, not_false_eq_true, reduceIte, Nat.reduceEqDiff, ab_I, ab_L, ab_R, ao_I, ao_L, ao_R, gL_sL, gI_sI, gR_sR, gI_sL, gI_sR, gL_sI, gL_sR, gR_sI, gR_sL]
          rw [e130_162, Option.getD_some, if_pos pa]
          rfl
        · by_cases c17 : o = 17
          · have n2 : ∀ k : Int, k < 17 → ¬ o = k := fun k hk => by omega
            obtain ⟨z0, z1⟩ := h5 c17
            obtain ⟨k, hk⟩ : ∃ k : Nat, c = (k : Int) := ⟨c.toNat, by omega⟩
            have t := T25 (σ := σ) (v := gL σ 76 b.toNat) (n := k) (by omega)
            rw [if_neg c15, if_neg c16, if_pos c17, if_neg (n2 2 (by decide)), if_neg (n2 3 (by decide)), if_neg (n2 4 (by decide)), if_neg (n2 5 (by decide)), if_neg (n2 6 (by decide)), if_neg (n2 7 (by decide)), if_neg (n2 8 (by decide)), if_neg (n2 9 (by decide)), if_neg (n2 10 (by decide)), if_neg (n2 11 (by decide)), if_neg (n2 12 (by decide)), if_neg (n2 13 (by decide)), if_neg (n2 14 (by decide)), if_neg (n2 15 (by decide)), if_neg (n2 16 (by decide)), if_pos c17, if_pos pb, hk, t]
            simp only [Option.getD_some, Option.bind_some, Option.toList_some, Option.toList_none, List.cons_append, List.nil_append, and_self, and_true, true_and, false_and, and_false, ite_self, not_true_eq_false, not_false_eq_true, reduceIte, Nat.reduceEqDiff, ab_I, ab_L, ab_R, ao_I, ao_L, ao_R, gL_sL, gI_sI, gR_sR, gI_sL, gI_sR, gL_sI, gL_sR, gR_sI, gR_sL]
            rw [e130_179, Option.getD_some, if_pos pa]
            rfl
          · have pc : Option.isSome (some 76) = true ∧ ab σ 4 76 c := C ▸ h3 (by omega) (by omega)
            have n18 : ¬ o = 18 := by omega
            have n19 : ¬ o = 19 := by omega
            rw [if_neg c15, if_neg c16, if_neg c17, if_neg c15, if_neg c16, if_neg c17, if_neg n18, if_neg n19]
            have E : ∀ p : Prop, ∀ [Decidable p], ∀ r : Option Rs, (if p then r else r) = r := fun p _ r => by
              split <;> rfl
            simp only [E, if_pos pb, if_pos pc, T131, Option.getD_some, Option.bind_some, Option.toList_some, Option.toList_none, List.cons_append, List.nil_append, and_self, and_true, true_and, false_and, and_false, ite_self, not_true_eq_false, not_false_eq_true, reduceIte, Nat.reduceEqDiff, ab_I, ab_L, ab_R, ao_I, ao_L, ao_R, gL_sL, gI_sI, gR_sR, gI_sL, gI_sR, gL_sI, gL_sR, gR_sI, gR_sL]
            rw [e130_242, Option.getD_some, if_pos pa]
theorem T129 : MM 129 [mI o, mL x, mL y] σ = some (some (mI (if soV o x y = true then 1 else 0)), σ) := by
  unfold soV
  rw [M129, e129_0]
  by_cases c0 : o = 20
  · rw [if_pos c0, if_pos c0]
    by_cases z : x = y <;> simp [z]
  · rw [if_neg c0, if_neg c0]
    by_cases c1 : o = 21
    · rw [if_pos c1, if_pos c1]
      by_cases z : x = y <;> simp [z]
    · rw [if_neg c1, if_neg c1]
      by_cases c2 : o = 22
      · rw [if_pos c2, if_pos c2, T17]
        simp only [Option.getD_some, Option.bind_some, Option.toList_some, Option.toList_none, List.cons_append, List.nil_append, and_self, and_true, true_and, false_and, and_false, ite_self, not_true_eq_false, not_false_eq_true, reduceIte, Nat.reduceEqDiff, ab_I, ab_L, ab_R, ao_I, ao_L, ao_R, gL_sL, gI_sI, gR_sR, gI_sL, gI_sR, gL_sI, gL_sR, gR_sI, gR_sL]
        rw [e129_69]
        by_cases z : y < x
        · rw [b2_yes z, if_pos (Or.inr rfl), if_pos (decide_eq_true z)]
        · rw [b2_no z, if_pos (Or.inl rfl), if_neg (by rw [decide_eq_false z]; decide)]
      · rw [if_neg c2, if_neg c2]
        by_cases c3 : o = 23
        · rw [if_pos c3, if_pos c3, T17]
          simp only [Option.getD_some, Option.bind_some, Option.toList_some, Option.toList_none, List.cons_append, List.nil_append, and_self, and_true, true_and, false_and, and_false, ite_self, not_true_eq_false, not_false_eq_true, reduceIte, Nat.reduceEqDiff, ab_I, ab_L, ab_R, ao_I, ao_L, ao_R, gL_sL, gI_sI, gR_sR, gI_sL, gI_sR, gL_sI, gL_sR, gR_sI, gR_sL]
          rw [e129_75]
          by_cases z : x < y
          · rw [b2_yes z, if_pos (by decide), if_neg (by rw [decide_eq_false (not_not_intro z)]; decide)]
          · rw [b2_no z, if_neg (by decide), if_pos (decide_eq_true z)]
        · rw [if_neg c3, if_neg c3]
          by_cases c4 : o = 24
          · rw [if_pos c4, if_pos c4]
            by_cases z : x &&& y = 0#64
            · rw [if_pos z, if_neg (by rw [decide_eq_false (not_not_intro z)]; decide)]
            · rw [if_neg z, if_pos (decide_eq_true z)]
          · rw [if_neg c4, if_neg c4]
            by_cases c5 : o = 25
            · rw [if_pos c5, if_pos c5]
              by_cases z : x.toInt ≤ y.toInt
              · rw [if_pos z, if_neg (by rw [decide_eq_false (by omega)]; decide)]
              · rw [if_neg z, if_pos (decide_eq_true (by omega))]
            · rw [if_neg c5, if_neg c5]
              by_cases z : x.toInt < y.toInt
              · rw [if_pos z, if_neg (by rw [decide_eq_false (by omega)]; decide)]
              · rw [if_neg z, if_pos (decide_eq_true (by omega))]
end CMOP
