/-! ===== words ===== -/
theorem lI_def (x : BitVec 64) : lI x = x.toInt.bmod 4294967296 := rfl
theorem lShr_toInt (x : BitVec 64) {n : Nat} (h : n < 64) : (lShr x (n : Int)).toInt = x.toInt / ((2 ^ n : Nat) : Int) := by
  unfold lShr
  rw [show (((n : Int) % 64).toNat) = n by omega, BitVec.toInt_sshiftRight, Int.shiftRight_eq_div_pow]
theorem toInt_rng (x : BitVec 64) : -9223372036854775808 ≤ x.toInt ∧ x.toInt < 9223372036854775808 := by
  have h1 := BitVec.le_toInt x
  have h2 := BitVec.toInt_lt (x := x)
  omega
theorem op_a (w : BitVec 64) : iAnd (lI w) 255 = fOp w := by
  rw [iAnd255, lI_def, Int.bmod_def]
  unfold fOp
  omega
theorem d_a (w : BitVec 64) : iAnd (lI (lShr w 8)) 15 = fD w := by
  rw [iAnd15, lI_def, show (8 : Int) = ((8 : Nat) : Int) from rfl, lShr_toInt _ (by omega), Int.bmod_def]
  unfold fD
  omega
theorem d_b (w : BitVec 64) : iAnd (iShr (lI w) 8) 15 = fD w := by
  rw [iAnd15, lI_def, Int.bmod_def]
  unfold fD iShr
  rw [show ((8 : Int) % 32).toNat = 8 from rfl]
  omega
theorem s_a (w : BitVec 64) : iAnd (lI (lShr w 12)) 15 = fS w := by
  rw [iAnd15, lI_def, show (12 : Int) = ((12 : Nat) : Int) from rfl, lShr_toInt _ (by omega), Int.bmod_def]
  unfold fS
  omega
theorem s_b (w : BitVec 64) : iAnd (iShr (lI w) 12) 15 = fS w := by
  rw [iAnd15, lI_def, Int.bmod_def]
  unfold fS iShr
  rw [show ((12 : Int) % 32).toNat = 12 from rfl]
  omega
theorem o_a (w : BitVec 64) : w16 (lI (lShr w 16)) = fO w := by
  rw [lI_def, show (16 : Int) = ((16 : Nat) : Int) from rfl, lShr_toInt _ (by omega)]
  unfold fO w16
  rw [Int.bmod_def, Int.bmod_def, Int.bmod_def]
  omega
theorem o_b (w : BitVec 64) : iShr (lI w) 16 = fO w := by
  rw [lI_def]
  unfold fO iShr
  rw [show ((16 : Int) % 32).toNat = 16 from rfl, Int.bmod_def, Int.bmod_def]
  omega
theorem i_a (w : BitVec 64) : lI (lShr w 32) = fI w := by
  have h := toInt_rng w
  rw [lI_def, show (32 : Int) = ((32 : Nat) : Int) from rfl, lShr_toInt _ (by omega), Int.bmod_def]
  unfold fI
  omega
theorem T0 {x0 : BitVec 64} {σ : MS} : MM 0 [mL x0] σ = some (some (mI (fOp x0)), σ) := by
  rw [M0]
  try simp only [e0_0, Option.getD_some, Option.bind_some, Option.toList_some, Option.toList_none, List.cons_append, List.nil_append, and_self, and_true, true_and, false_and, and_false, ite_self, not_true_eq_false, not_false_eq_true, reduceIte, Nat.reduceEqDiff, ab_I, ab_L, ab_R, ao_I, ao_L, ao_R, gL_sL, gI_sI, gR_sR, gI_sL, gI_sR, gL_sI, gL_sR, gR_sI, gR_sL, op_a]
  try simp only [mrgI, mrgL, mrg0, rtI, rtL, ite_self]
theorem T1 {x0 : BitVec 64} {σ : MS} : MM 1 [mL x0] σ = some (some (mI (fD x0)), σ) := by
  rw [M1]
  try simp only [e1_0, Option.getD_some, Option.bind_some, Option.toList_some, Option.toList_none, List.cons_append, List.nil_append, and_self, and_true, true_and, false_and, and_false, ite_self, not_true_eq_false, not_false_eq_true, reduceIte, Nat.reduceEqDiff, ab_I, ab_L, ab_R, ao_I, ao_L, ao_R, gL_sL, gI_sI, gR_sR, gI_sL, gI_sR, gL_sI, gL_sR, gR_sI, gR_sL, d_a]
  try simp only [mrgI, mrgL, mrg0, rtI, rtL, ite_self]
theorem T2 {x0 : BitVec 64} {σ : MS} : MM 2 [mL x0] σ = some (some (mI (fS x0)), σ) := by
  rw [M2]
  try simp only [e2_0, Option.getD_some, Option.bind_some, Option.toList_some, Option.toList_none, List.cons_append, List.nil_append, and_self, and_true, true_and, false_and, and_false, ite_self, not_true_eq_false, not_false_eq_true, reduceIte, Nat.reduceEqDiff, ab_I, ab_L, ab_R, ao_I, ao_L, ao_R, gL_sL, gI_sI, gR_sR, gI_sL, gI_sR, gL_sI, gL_sR, gR_sI, gR_sL, s_a]
  try simp only [mrgI, mrgL, mrg0, rtI, rtL, ite_self]
theorem T3 {x0 : BitVec 64} {σ : MS} : MM 3 [mL x0] σ = some (some (mI (fO x0)), σ) := by
  rw [M3]
  try simp only [e3_0, Option.getD_some, Option.bind_some, Option.toList_some, Option.toList_none, List.cons_append, List.nil_append, and_self, and_true, true_and, false_and, and_false, ite_self, not_true_eq_false, not_false_eq_true, reduceIte, Nat.reduceEqDiff, ab_I, ab_L, ab_R, ao_I, ao_L, ao_R, gL_sL, gI_sI, gR_sR, gI_sL, gI_sR, gL_sI, gL_sR, gR_sI, gR_sL, o_a]
  try simp only [mrgI, mrgL, mrg0, rtI, rtL, ite_self]
theorem T4 {x0 : BitVec 64} {σ : MS} : MM 4 [mL x0] σ = some (some (mI (fI x0)), σ) := by
  rw [M4]
  try simp only [e4_0, Option.getD_some, Option.bind_some, Option.toList_some, Option.toList_none, List.cons_append, List.nil_append, and_self, and_true, true_and, false_and, and_false, ite_self, not_true_eq_false, not_false_eq_true, reduceIte, Nat.reduceEqDiff, ab_I, ab_L, ab_R, ao_I, ao_L, ao_R, gL_sL, gI_sI, gR_sR, gI_sL, gI_sR, gL_sI, gL_sR, gR_sI, gR_sL, i_a]
  try simp only [mrgI, mrgL, mrg0, rtI, rtL, ite_self]
theorem T332 {x0 : BitVec 64} {σ : MS} : MM 332 [mL x0] σ = some (some (mI (fOp x0)), σ) := by
  rw [M332]
  try simp only [e332_0, Option.getD_some, Option.bind_some, Option.toList_some, Option.toList_none, List.cons_append, List.nil_append, and_self, and_true, true_and, false_and, and_false, ite_self, not_true_eq_false, not_false_eq_true, reduceIte, Nat.reduceEqDiff, ab_I, ab_L, ab_R, ao_I, ao_L, ao_R, gL_sL, gI_sI, gR_sR, gI_sL, gI_sR, gL_sI, gL_sR, gR_sI, gR_sL, op_a]
  try simp only [mrgI, mrgL, mrg0, rtI, rtL, ite_self]
theorem T333 {x0 : BitVec 64} {σ : MS} : MM 333 [mL x0] σ = some (some (mI (fD x0)), σ) := by
  rw [M333]
  try simp only [e333_0, Option.getD_some, Option.bind_some, Option.toList_some, Option.toList_none, List.cons_append, List.nil_append, and_self, and_true, true_and, false_and, and_false, ite_self, not_true_eq_false, not_false_eq_true, reduceIte, Nat.reduceEqDiff, ab_I, ab_L, ab_R, ao_I, ao_L, ao_R, gL_sL, gI_sI, gR_sR, gI_sL, gI_sR, gL_sI, gL_sR, gR_sI, gR_sL, d_b]
  try simp only [mrgI, mrgL, mrg0, rtI, rtL, ite_self]
theorem T334 {x0 : BitVec 64} {σ : MS} : MM 334 [mL x0] σ = some (some (mI (fS x0)), σ) := by
  rw [M334]
  try simp only [e334_0, Option.getD_some, Option.bind_some, Option.toList_some, Option.toList_none, List.cons_append, List.nil_append, and_self, and_true, true_and, false_and, and_false, ite_self, not_true_eq_false, not_false_eq_true, reduceIte, Nat.reduceEqDiff, ab_I, ab_L, ab_R, ao_I, ao_L, ao_R, gL_sL, gI_sI, gR_sR, gI_sL, gI_sR, gL_sI, gL_sR, gR_sI, gR_sL, s_b]
  try simp only [mrgI, mrgL, mrg0, rtI, rtL, ite_self]
theorem T335 {x0 : BitVec 64} {σ : MS} : MM 335 [mL x0] σ = some (some (mI (fO x0)), σ) := by
  rw [M335]
  try simp only [e335_0, Option.getD_some, Option.bind_some, Option.toList_some, Option.toList_none, List.cons_append, List.nil_append, and_self, and_true, true_and, false_and, and_false, ite_self, not_true_eq_false, not_false_eq_true, reduceIte, Nat.reduceEqDiff, ab_I, ab_L, ab_R, ao_I, ao_L, ao_R, gL_sL, gI_sI, gR_sR, gI_sL, gI_sR, gL_sI, gL_sR, gR_sI, gR_sL, o_b]
  try simp only [mrgI, mrgL, mrg0, rtI, rtL, ite_self]
theorem T336 {x0 : BitVec 64} {σ : MS} : MM 336 [mL x0] σ = some (some (mI (fI x0)), σ) := by
  rw [M336]
  try simp only [e336_0, Option.getD_some, Option.bind_some, Option.toList_some, Option.toList_none, List.cons_append, List.nil_append, and_self, and_true, true_and, false_and, and_false, ite_self, not_true_eq_false, not_false_eq_true, reduceIte, Nat.reduceEqDiff, ab_I, ab_L, ab_R, ao_I, ao_L, ao_R, gL_sL, gI_sI, gR_sR, gI_sL, gI_sR, gL_sI, gL_sR, gR_sI, gR_sL, i_a]
  try simp only [mrgI, mrgL, mrg0, rtI, rtL, ite_self]

theorem if_prop {c p q : Prop} {d : Decidable c} : (@ite Prop c d p q) = ((c ∧ p) ∨ (¬ c ∧ q)) := by
  by_cases h : c <;> simp [h]
theorem mC (w : B64) : iAnd (fOp w) 240 = fC w := (mk_at (fld_rng w).1.1 (fld_rng w).1.2).1
theorem m8 (w : B64) : iAnd (fOp w) 8 = fOp w / 8 % 2 * 8 := (mk_at (fld_rng w).1.1 (fld_rng w).1.2).2.1
theorem m24 (w : B64) : iAnd (fOp w) 24 = fB w * 8 := (mk_at (fld_rng w).1.1 (fld_rng w).1.2).2.2.1
theorem m224 (w : B64) : iAnd (fOp w) 224 = fM w := (mk_at (fld_rng w).1.1 (fld_rng w).1.2).2.2.2
theorem m7 (w : B64) : iAnd (fOp w) 7 = fL w := iAnd7 _
theorem iShr4 (x : Int) : iShr x 4 = x / 16 := rfl
theorem T338 {x : Int} {σ : MS} : MM 338 [mI x] σ = some (some (mI (b2 (x = 16 ∨ x = 32 ∨ x = 64))), σ) := by
  rw [M338]
  try simp only [e338_0, Option.getD_some, Option.bind_some, Option.toList_some, Option.toList_none, List.cons_append, List.nil_append, and_self, and_true, true_and, false_and, and_false, ite_self, not_true_eq_false, not_false_eq_true, reduceIte, Nat.reduceEqDiff, ab_I, ab_L, ab_R, ao_I, ao_L, ao_R, gL_sL, gI_sI, gR_sR, gI_sL, gI_sR, gL_sI, gL_sR, gR_sI, gR_sL]
  try simp only [mrgI, mrgL, mrg0, rtI, rtL, ite_self]
  try simp only [e338_18, Option.getD_some, Option.bind_some, Option.toList_some, Option.toList_none, List.cons_append, List.nil_append, and_self, and_true, true_and, false_and, and_false, ite_self, not_true_eq_false, not_false_eq_true, reduceIte, Nat.reduceEqDiff, ab_I, ab_L, ab_R, ao_I, ao_L, ao_R, gL_sL, gI_sI, gR_sR, gI_sL, gI_sR, gL_sI, gL_sR, gR_sI, gR_sL]
  try simp only [mrgI, mrgL, mrg0, rtI, rtL, ite_self]
  unfold b2
  repeat' split
  all_goals first | rfl | (exfalso; omega)
theorem T340 {w : B64} {σ : MS} : MM 340 [mI (fOp w)] σ = some (some (mI (b2 (isCmpO (fOp w)))), σ) := by
  have f := fld_rng w
  rw [M340]
  try simp only [e340_0, Option.getD_some, Option.bind_some, Option.toList_some, Option.toList_none, List.cons_append, List.nil_append, and_self, and_true, true_and, false_and, and_false, ite_self, not_true_eq_false, not_false_eq_true, reduceIte, Nat.reduceEqDiff, ab_I, ab_L, ab_R, ao_I, ao_L, ao_R, gL_sL, gI_sI, gR_sR, gI_sL, gI_sR, gL_sI, gL_sR, gR_sI, gR_sL, iShr4]
  try simp only [mrgI, mrgL, mrg0, rtI, rtL, ite_self]
  try simp only [e340_15, Option.getD_some, Option.bind_some, Option.toList_some, Option.toList_none, List.cons_append, List.nil_append, and_self, and_true, true_and, false_and, and_false, ite_self, not_true_eq_false, not_false_eq_true, reduceIte, Nat.reduceEqDiff, ab_I, ab_L, ab_R, ao_I, ao_L, ao_R, gL_sL, gI_sI, gR_sR, gI_sL, gI_sR, gL_sI, gL_sR, gR_sI, gR_sL, iShr4]
  try simp only [mrgI, mrgL, mrg0, rtI, rtL, ite_self]
  try simp only [e340_27, Option.getD_some, Option.bind_some, Option.toList_some, Option.toList_none, List.cons_append, List.nil_append, and_self, and_true, true_and, false_and, and_false, ite_self, not_true_eq_false, not_false_eq_true, reduceIte, Nat.reduceEqDiff, ab_I, ab_L, ab_R, ao_I, ao_L, ao_R, gL_sL, gI_sI, gR_sR, gI_sL, gI_sR, gL_sI, gL_sR, gR_sI, gR_sL, iShr4]
  try simp only [mrgI, mrgL, mrg0, rtI, rtL, ite_self]
  try simp only [e340_31, Option.getD_some, Option.bind_some, Option.toList_some, Option.toList_none, List.cons_append, List.nil_append, and_self, and_true, true_and, false_and, and_false, ite_self, not_true_eq_false, not_false_eq_true, reduceIte, Nat.reduceEqDiff, ab_I, ab_L, ab_R, ao_I, ao_L, ao_R, gL_sL, gI_sI, gR_sR, gI_sL, gI_sR, gL_sI, gL_sR, gR_sI, gR_sL, iShr4]
  try simp only [mrgI, mrgL, mrg0, rtI, rtL, ite_self]
  unfold b2 isCmpO
  repeat' split
  all_goals first | rfl | (exfalso; omega)
