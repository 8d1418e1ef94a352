-- FILE 26a.form
/-! ===== words ===== -/
theorem lI_def (x : BitVec 64) : lI x = x.toInt.bmod 4294967296 := rfl
theorem lShr_toInt (x : BitVec 64) {n : Nat} (h : n < 64) : (lShr x (n : Int)).toInt = x.toInt / ((2 ^ n : Nat) : Int) := by
  unfold lShr
  rw [show (((n : Int) % 64).toNat) = n by omega, BitVec.toInt_sshiftRight, Int.shiftRight_eq_div_pow]
theorem toInt_rng (x : BitVec 64) : -9223372036854775808 ≤ x.toInt ∧ x.toInt < 9223372036854775808 := by
  have h1 := BitVec.le_toInt x
  have h2 := BitVec.toInt_lt (x := x)
  omega
theorem op_a (w : BitVec 64) : iAnd (lI w) 255 = fOp w := by
  rw [iAnd255, lI_def, Int.bmod_def]
  unfold fOp
  omega
theorem d_a (w : BitVec 64) : iAnd (lI (lShr w 8)) 15 = fD w := by
  rw [iAnd15, lI_def, show (8 : Int) = ((8 : Nat) : Int) from rfl, lShr_toInt _ (by omega), Int.bmod_def]
  unfold fD
  omega
theorem d_b (w : BitVec 64) : iAnd (iShr (lI w) 8) 15 = fD w := by
  rw [iAnd15, lI_def, Int.bmod_def]
  unfold fD iShr
  rw [show ((8 : Int) % 32).toNat = 8 from rfl]
  omega
theorem s_a (w : BitVec 64) : iAnd (lI (lShr w 12)) 15 = fS w := by
  rw [iAnd15, lI_def, show (12 : Int) = ((12 : Nat) : Int) from rfl, lShr_toInt _ (by omega), Int.bmod_def]
  unfold fS
  omega
theorem s_b (w : BitVec 64) : iAnd (iShr (lI w) 12) 15 = fS w := by
  rw [iAnd15, lI_def, Int.bmod_def]
  unfold fS iShr
  rw [show ((12 : Int) % 32).toNat = 12 from rfl]
  omega
theorem o_a (w : BitVec 64) : w16 (lI (lShr w 16)) = fO w := by
  rw [lI_def, show (16 : Int) = ((16 : Nat) : Int) from rfl, lShr_toInt _ (by omega)]
  unfold fO w16
  rw [Int.bmod_def, Int.bmod_def, Int.bmod_def]
  omega
theorem o_b (w : BitVec 64) : iShr (lI w) 16 = fO w := by
  rw [lI_def]
  unfold fO iShr
  rw [show ((16 : Int) % 32).toNat = 16 from rfl, Int.bmod_def, Int.bmod_def]
  omega
theorem i_a (w : BitVec 64) : lI (lShr w 32) = fI w := by
  have h := toInt_rng w
  rw [lI_def, show (32 : Int) = ((32 : Nat) : Int) from rfl, lShr_toInt _ (by omega), Int.bmod_def]
  unfold fI
  omega
theorem T0 {x0 : BitVec 64} {σ : MS} : MM 0 [mL x0] σ = some (some (mI (fOp x0)), σ) := by
  rw [M0]
  try simp only [e0_0, Option.getD_some, Option.bind_some, Option.toList_some, Option.toList_none, List.cons_append, List.nil_append, and_self, and_true, true_and, false_and, and_false, ite_self, not_true_eq_false, not_false_eq_true, reduceIte, Nat.reduceEqDiff, ab_I, ab_L, ab_R, ao_I, ao_L, ao_R, gL_sL, gI_sI, gR_sR, gI_sL, gI_sR, gL_sI, gL_sR, gR_sI, gR_sL, op_a]
  try simp only [mrgI, mrgL, mrg0, rtI, rtL, ite_self]
theorem T1 {x0 : BitVec 64} {σ : MS} : MM 1 [mL x0] σ = some (some (mI (fD x0)), σ) := by
  rw [M1]
  try simp only [e1_0, Option.getD_some, Option.bind_some, Option.toList_some, Option.toList_none, List.cons_append, List.nil_append, and_self, and_true, true_and, false_and, and_false, ite_self, not_true_eq_false, not_false_eq_true, reduceIte, Nat.reduceEqDiff, ab_I, ab_L, ab_R, ao_I, ao_L, ao_R, gL_sL, gI_sI, gR_sR, gI_sL, gI_sR, gL_sI, gL_sR, gR_sI, gR_sL, d_a]
  try simp only [mrgI, mrgL, mrg0, rtI, rtL, ite_self]
theorem T2 {x0 : BitVec 64} {σ : MS} : MM 2 [mL x0] σ = some (some (mI (fS x0)), σ) := by
  rw [M2]
  try simp only [e2_0, Option.getD_some, Option.bind_some, Option.toList_some, Option.toList_none, List.cons_append, List.nil_append, and_self, and_true, true_and, false_and, and_false, ite_self, not_true_eq_false, not_false_eq_true, reduceIte, Nat.reduceEqDiff, ab_I, ab_L, ab_R, ao_I, ao_L, ao_R, gL_sL, gI_sI, gR_sR, gI_sL, gI_sR, gL_sI, gL_sR, gR_sI, gR_sL, s_a]
  try simp only [mrgI, mrgL, mrg0, rtI, rtL, ite_self]
theorem T3 {x0 : BitVec 64} {σ : MS} : MM 3 [mL x0] σ = some (some (mI (fO x0)), σ) := by
  rw [M3]
  try simp only [e3_0, Option.getD_some, Option.bind_some, Option.toList_some, Option.toList_none, List.cons_append, List.nil_append, and_self, and_true, true_and, false_and, and_false, ite_self, not_true_eq_false, not_false_eq_true, reduceIte, Nat.reduceEqDiff, ab_I, ab_L, ab_R, ao_I, ao_L, ao_R, gL_sL, gI_sI, gR_sR, gI_sL, gI_sR, gL_sI, gL_sR, gR_sI, gR_sL, o_a]
  try simp only [mrgI, mrgL, mrg0, rtI, rtL, ite_self]
theorem T4 {x0 : BitVec 64} {σ : MS} : MM 4 [mL x0] σ = some (some (mI (fI x0)), σ) := by
  rw [M4]
  try simp only [e4_0, Option.getD_some, Option.bind_some, Option.toList_some, Option.toList_none, List.cons_append, List.nil_append, and_self, and_true, true_and, false_and, and_false, ite_self, not_true_eq_false, not_false_eq_true, reduceIte, Nat.reduceEqDiff, ab_I, ab_L, ab_R, ao_I, ao_L, ao_R, gL_sL, gI_sI, gR_sR, gI_sL, gI_sR, gL_sI, gL_sR, gR_sI, gR_sL, i_a]
  try simp only [mrgI, mrgL, mrg0, rtI, rtL, ite_self]
theorem T332 {x0 : BitVec 64} {σ : MS} : MM 332 [mL x0] σ = some (some (mI (fOp x0)), σ) := by
  rw [M332]
  try simp only [e332_0, Option.getD_some, Option.bind_some, Option.toList_some, Option.toList_none, List.cons_append, List.nil_append, and_self, and_true, true_and, false_and, and_false, ite_self, not_true_eq_false, not_false_eq_true, reduceIte, Nat.reduceEqDiff, ab_I, ab_L, ab_R, ao_I, ao_L, ao_R, gL_sL, gI_sI, gR_sR, gI_sL, gI_sR, gL_sI, gL_sR, gR_sI, gR_sL, op_a]
  try simp only [mrgI, mrgL, mrg0, rtI, rtL, ite_self]
theorem T333 {x0 : BitVec 64} {σ : MS} : MM 333 [mL x0] σ = some (some (mI (fD x0)), σ) := by
  rw [M333]
  try simp only [e333_0, Option.getD_some, Option.bind_some, Option.toList_some, Option.toList_none, List.cons_append, List.nil_append, and_self, and_true, true_and, false_and, and_false, ite_self, not_true_eq_false, not_false_eq_true, reduceIte, Nat.reduceEqDiff, ab_I, ab_L, ab_R, ao_I, ao_L, ao_R, gL_sL, gI_sI, gR_sR, gI_sL, gI_sR, gL_sI, gL_sR, gR_sI, gR_sL, d_b]
  try simp only [mrgI, mrgL, mrg0, rtI, rtL, ite_self]
theorem T334 {x0 : BitVec 64} {σ : MS} : MM 334 [mL x0] σ = some (some (mI (fS x0)), σ) := by
  rw [M334]
  try simp only [e334_0, Option.getD_some, Option.bind_some, Option.toList_some, Option.toList_none, List.cons_append, List.nil_append, and_self, and_true, true_and, false_and, and_false, ite_self, not_true_eq_false, not_false_eq_true, reduceIte, Nat.reduceEqDiff, ab_I, ab_L, ab_R, ao_I, ao_L, ao_R, gL_sL, gI_sI, gR_sR, gI_sL, gI_sR, gL_sI, gL_sR, gR_sI, gR_sL, s_b]
  try simp only [mrgI, mrgL, mrg0, rtI, rtL, ite_self]
theorem T335 {x0 : BitVec 64} {σ : MS} : MM 335 [mL x0] σ = some (some (mI (fO x0)), σ) := by
  rw [M335]
  try simp only [e335_0, Option.getD_some, Option.bind_some, Option.toList_some, Option.toList_none, List.cons_append, List.nil_append, and_self, and_true, true_and, false_and, and_false, ite_self, not_true_eq_false, not_false_eq_true, reduceIte, Nat.reduceEqDiff, ab_I, ab_L, ab_R, ao_I, ao_L, ao_R, gL_sL, gI_sI, gR_sR, gI_sL, gI_sR, gL_sI, gL_sR, gR_sI, gR_sL, o_b]
  try simp only [mrgI, mrgL, mrg0, rtI, rtL, ite_self]
theorem T336 {x0 : BitVec 64} {σ : MS} : MM 336 [mL x0] σ = some (some (mI (fI x0)), σ) := by
  rw [M336]
  try simp only [e336_0, Option.getD_some, Option.bind_some, Option.toList_some, Option.toList_none, List.cons_append, List.nil_append, and_self, and_true, true_and, false_and, and_false, ite_self, not_true_eq_false, not_false_eq_true, reduceIte, Nat.reduceEqDiff, ab_I, ab_L, ab_R, ao_I, ao_L, ao_R, gL_sL, gI_sI, gR_sR, gI_sL, gI_sR, gL_sI, gL_sR, gR_sI, gR_sL, i_a]
  try simp only [mrgI, mrgL, mrg0, rtI, rtL, ite_self]

theorem if_prop {c p q : Prop} {d : Decidable c} : (@ite Prop c d p q) = ((c ∧ p) ∨ (¬ c ∧ q)) := by
  by_cases h : c <;> simp [h]
theorem mC (w : B64) : iAnd (fOp w) 240 = fC w := (mk_at (fld_rng w).1.1 (fld_rng w).1.2).1
theorem m8 (w : B64) : iAnd (fOp w) 8 = fOp w / 8 % 2 * 8 := (mk_at (fld_rng w).1.1 (fld_rng w).1.2).2.1
theorem m24 (w : B64) : iAnd (fOp w) 24 = fB w * 8 := (mk_at (fld_rng w).1.1 (fld_rng w).1.2).2.2.1
theorem m224 (w : B64) : iAnd (fOp w) 224 = fM w := (mk_at (fld_rng w).1.1 (fld_rng w).1.2).2.2.2
theorem m7 (w : B64) : iAnd (fOp w) 7 = fL w := iAnd7 _
theorem iShr4 (x : Int) : iShr x 4 = x / 16 := rfl
theorem T338 {x : Int} {σ : MS} : MM 338 [mI x] σ = some (some (mI (b2 (x = 16 ∨ x = 32 ∨ x = 64))), σ) := by
  rw [M338]
  try simp only [e338_0, Option.getD_some, Option.bind_some, Option.toList_some, Option.toList_none, List.cons_append, List.nil_append, and_self, and_true, true_and, false_and, and_false, ite_self, not_true_eq_false, not_false_eq_true, reduceIte, Nat.reduceEqDiff, ab_I, ab_L, ab_R, ao_I, ao_L, ao_R, gL_sL, gI_sI, gR_sR, gI_sL, gI_sR, gL_sI, gL_sR, gR_sI, gR_sL]
  try simp only [mrgI, mrgL, mrg0, rtI, rtL, ite_self]
  try simp only [e338_18, Option.getD_some, Option.bind_some, Option.toList_some, Option.toList_none, List.cons_append, List.nil_append, and_self, and_true, true_and, false_and, and_false, ite_self, not_true_eq_false, not_false_eq_true, reduceIte, Nat.reduceEqDiff, ab_I, ab_L, ab_R, ao_I, ao_L, ao_R, gL_sL, gI_sI, gR_sR, gI_sL, gI_sR, gL_sI, gL_sR, gR_sI, gR_sL]
  try simp only [mrgI, mrgL, mrg0, rtI, rtL, ite_self]
  unfold b2
  repeat' split
  all_goals first | rfl | (exfalso; omega)
theorem T340 {w : B64} {σ : MS} : MM 340 [mI (fOp w)] σ = some (some (mI (b2 (isCmpO (fOp w)))), σ) := by
  have f := fld_rng w
  rw [M340]
  try simp only [e340_0, Option.getD_some, Option.bind_some, Option.toList_some, Option.toList_none, List.cons_append, List.nil_append, and_self, and_true, true_and, false_and, and_false, ite_self, not_true_eq_false, not_false_eq_true, reduceIte, Nat.reduceEqDiff, ab_I, ab_L, ab_R, ao_I, ao_L, ao_R, gL_sL, gI_sI, gR_sR, gI_sL, gI_sR, gL_sI, gL_sR, gR_sI, gR_sL, iShr4]
  try simp only [mrgI, mrgL, mrg0, rtI, rtL, ite_self]
  try simp only [e340_15, Option.getD_some, Option.bind_some, Option.toList_some, Option.toList_none, List.cons_append, List.nil_append, and_self, and_true, true_and, false_and, and_false, ite_self, not_true_eq_false, not_false_eq_true, reduceIte, Nat.reduceEqDiff, ab_I, ab_L, ab_R, ao_I, ao_L, ao_R, gL_sL, gI_sI, gR_sR, gI_sL, gI_sR, gL_sI, gL_sR, gR_sI, gR_sL, iShr4]
  try simp only [mrgI, mrgL, mrg0, rtI, rtL, ite_self]
  try simp only [e340_27, Option.getD_some, Option.bind_some, Option.toList_some, Option.toList_none, List.cons_append, List.nil_append, and_self, and_true, true_and, false_and, and_false, ite_self, not_true_eq_false, not_false_eq_true, reduceIte, Nat.reduceEqDiff, ab_I, ab_L, ab_R, ao_I, ao_L, ao_R, gL_sL, gI_sI, gR_sR, gI_sL, gI_sR, gL_sI, gL_sR, gR_sI, gR_sL, iShr4]
  try simp only [mrgI, mrgL, mrg0, rtI, rtL, ite_self]
  try simp only [e340_31, Option.getD_some, Option.bind_some, Option.toList_some, Option.toList_none, List.cons_append, List.nil_append, and_self, and_true, true_and, false_and, and_false, ite_self, not_true_eq_false, not_false_eq_true, reduceIte, Nat.reduceEqDiff, ab_I, ab_L, ab_R, ao_I, ao_L, ao_R, gL_sL, gI_sI, gR_sR, gI_sL, gI_sR, gL_sI, gL_sR, gR_sI, gR_sL, iShr4]
  try simp only [mrgI, mrgL, mrg0, rtI, rtL, ite_self]
  unfold b2 isCmpO
  repeat' split
  all_goals first | rfl | (exfalso; omega)
-- FILE 32b.cnum2
/-! ===== the class's numbers: how they are made of others ===== -/
section CN2
variable {k j i : Nat} {σ : MS} {n : N6}
theorem T73 (hk : isNm σ k) : MM 73 [mR (some k)] σ = some (some (mI (tdB (rC σ k))), wC σ k (tdN (rC σ k))) := by
  have h := T73n (n := rC σ k) hk
  rw [wC_eta] at h
  exact h
/-- from: whatever it was before -/
theorem froC {m : Nat} {a : List MV} {v : Option MV} {w : N6} (h : ∀ n, MM m a (wC σ k n) = some (v, wC σ k w)) : MM m a σ = some (v, wC σ k w) := by
  have := h (rC σ k)
  rw [wC_eta] at this
  exact this
theorem gCj0 (h : ¬ j = k) : gL (wC σ k n) j 0 = jV (rC σ j) := gC_ne h
theorem gCj1 (h : ¬ j = k) : gL (wC σ k n) j 1 = jM (rC σ j) := gC_ne h
theorem gCj2 (h : ¬ j = k) : gL (wC σ k n) j 2 = jA (rC σ j) := gC_ne h
theorem gCj3 (h : ¬ j = k) : gL (wC σ k n) j 3 = jB (rC σ j) := gC_ne h
theorem gCj4 (h : ¬ j = k) : gL (wC σ k n) j 4 = jC (rC σ j) := gC_ne h
theorem gCj5 (h : ¬ j = k) : gL (wC σ k n) j 5 = jD (rC σ j) := gC_ne h
set_option maxHeartbeats 2000000 in
theorem T75 (hk : isNm σ k) (hj : isNm σ j) (h : ¬ j = k) : MM 75 [mR (some k), mR (some j)] σ = some (none, wC σ k (cutT (rC σ j))) := by
  refine froC fun n => ?_
  have e32 : ∀ a : B64, lUsh a 32 = a >>> 32 := fun a => lUsh_k a (n := 32) (by omega)
  unfold cutT cutN
  by_cases c : jA (rC σ j) >>> 32 = jB (rC σ j) >>> 32
  · rw [if_pos c, if_pos c]
    simp only [M75, e75_0, e75_47, e75_65, e75_87, e75_94, e75_98, Option.getD_some, Option.bind_some, Option.toList_some, Option.toList_none, List.cons_append, List.nil_append, and_self, and_true, true_and, false_and, and_false, ite_self, not_true_eq_false, not_false_eq_true, reduceIte, Nat.reduceEqDiff, ab_I, ab_L, ab_R, ao_I, ao_L, ao_R, gL_sL, gI_sI, gR_sR, gI_sL, gI_sR, gL_sI, gL_sR, gR_sI, gR_sL, aoNw hk, aoNw hj, wC0, wC1, wC2, wC3, gCj0 h, gCj1 h, gCj2 h, gCj3 h, iL_F, e32, c, oneI, T65w hk, T73n hk]
    rfl
  · rw [if_neg c, if_neg c]
    simp only [M75, e75_0, e75_47, e75_65, e75_87, e75_94, e75_98, Option.getD_some, Option.bind_some, Option.toList_some, Option.toList_none, List.cons_append, List.nil_append, and_self, and_true, true_and, false_and, and_false, ite_self, not_true_eq_false, not_false_eq_true, reduceIte, Nat.reduceEqDiff, ab_I, ab_L, ab_R, ao_I, ao_L, ao_R, gL_sL, gI_sI, gR_sR, gI_sL, gI_sR, gL_sI, gL_sR, gR_sI, gR_sL, aoNw hk, aoNw hj, wC0, wC1, wC2, wC3, gCj0 h, gCj1 h, gCj2 h, gCj3 h, iL_F, e32, c, T65w hk, T73n hk]
    rfl
end CN2
-- FILE 33.jform
/-! ===== the reference's judge: words, goals, small askings ===== -/
theorem T479 {w : B64} {σ : MS} : MM 479 [mL w] σ = some (some (mI (b2 (isCal w))), σ) := by
  by_cases c1 : fOp w = 133
  · by_cases c2 : fS w = 1
    · simp only [M479, e479_0, e479_4, e479_14, e479_22, Option.getD_some, Option.bind_some, Option.toList_some, Option.toList_none, List.cons_append, List.nil_append, and_self, and_true, true_and, false_and, and_false, ite_self, not_true_eq_false, not_false_eq_true, reduceIte, Nat.reduceEqDiff, ab_I, ab_L, ab_R, ao_I, ao_L, ao_R, gL_sL, gI_sI, gR_sR, gI_sL, gI_sR, gL_sI, gL_sR, gR_sI, gR_sL, T332, T334, eq_true c1, eq_true c2]
      unfold b2
      rw [if_pos (show isCal w from ⟨c1, c2⟩)]
    · simp only [M479, e479_0, e479_4, e479_14, e479_22, Option.getD_some, Option.bind_some, Option.toList_some, Option.toList_none, List.cons_append, List.nil_append, and_self, and_true, true_and, false_and, and_false, ite_self, not_true_eq_false, not_false_eq_true, reduceIte, Nat.reduceEqDiff, ab_I, ab_L, ab_R, ao_I, ao_L, ao_R, gL_sL, gI_sI, gR_sR, gI_sL, gI_sR, gL_sI, gL_sR, gR_sI, gR_sL, T332, T334, eq_true c1, c2]
      unfold b2
      rw [if_neg (show ¬ isCal w from fun q => c2 q.2)]
  · simp only [M479, e479_0, e479_4, e479_14, e479_22, Option.getD_some, Option.bind_some, Option.toList_some, Option.toList_none, List.cons_append, List.nil_append, and_self, and_true, true_and, false_and, and_false, ite_self, not_true_eq_false, not_false_eq_true, reduceIte, Nat.reduceEqDiff, ab_I, ab_L, ab_R, ao_I, ao_L, ao_R, gL_sL, gI_sI, gR_sR, gI_sL, gI_sR, gL_sI, gL_sR, gR_sI, gR_sL, T332, c1]
    unfold b2
    rw [if_neg (show ¬ isCal w from fun q => c1 q.1)]
theorem T476 {w : B64} {σ : MS} : MM 476 [mL w] σ = some (some (mI (b2 (ledO w))), σ) := by
  have hL : fL w = fOp w % 8 := rfl
  by_cases c1 : fOp w = 5
  · simp only [M476, e476_0, e476_4, e476_37, e476_40, e476_44, Option.getD_some, Option.bind_some, Option.toList_some, Option.toList_none, List.cons_append, List.nil_append, and_self, and_true, true_and, false_and, and_false, ite_self, not_true_eq_false, not_false_eq_true, reduceIte, Nat.reduceEqDiff, ab_I, ab_L, ab_R, ao_I, ao_L, ao_R, gL_sL, gI_sI, gR_sR, gI_sL, gI_sR, gL_sI, gL_sR, gR_sI, gR_sL, T332, eq_true c1]
    unfold b2
    rw [if_pos (show ledO w from Or.inl c1)]
  · by_cases c2 : fOp w = 6
    · simp only [M476, e476_0, e476_4, e476_37, e476_40, e476_44, Option.getD_some, Option.bind_some, Option.toList_some, Option.toList_none, List.cons_append, List.nil_append, and_self, and_true, true_and, false_and, and_false, ite_self, not_true_eq_false, not_false_eq_true, reduceIte, Nat.reduceEqDiff, ab_I, ab_L, ab_R, ao_I, ao_L, ao_R, gL_sL, gI_sI, gR_sR, gI_sL, gI_sR, gL_sI, gL_sR, gR_sI, gR_sL, T332, c1, eq_true c2]
      unfold b2
      rw [if_pos (show ledO w from Or.inr (Or.inl c2))]
    · by_cases c3 : fOp w % 8 < 5
      · simp only [M476, e476_0, e476_4, e476_37, e476_40, e476_44, Option.getD_some, Option.bind_some, Option.toList_some, Option.toList_none, List.cons_append, List.nil_append, and_self, and_true, true_and, false_and, and_false, ite_self, not_true_eq_false, not_false_eq_true, reduceIte, Nat.reduceEqDiff, ab_I, ab_L, ab_R, ao_I, ao_L, ao_R, gL_sL, gI_sI, gR_sR, gI_sL, gI_sR, gL_sI, gL_sR, gR_sI, gR_sL, T332, iAnd7, c1, c2, c3]
        unfold b2
        rw [if_neg (show ¬ ledO w from fun q => by rcases q with q | q | q <;> omega)]
      · by_cases c4 : 6 < fOp w % 8
        · simp only [M476, e476_0, e476_4, e476_37, e476_40, e476_44, Option.getD_some, Option.bind_some, Option.toList_some, Option.toList_none, List.cons_append, List.nil_append, and_self, and_true, true_and, false_and, and_false, ite_self, not_true_eq_false, not_false_eq_true, reduceIte, Nat.reduceEqDiff, ab_I, ab_L, ab_R, ao_I, ao_L, ao_R, gL_sL, gI_sI, gR_sR, gI_sL, gI_sR, gL_sI, gL_sR, gR_sI, gR_sL, T332, iAnd7, c1, c2, c3, c4]
          unfold b2
          rw [if_neg (show ¬ ledO w from fun q => by rcases q with q | q | q <;> omega)]
        · by_cases c5 : isCmpO (fOp w)
          · simp only [M476, e476_0, e476_4, e476_37, e476_40, e476_44, Option.getD_some, Option.bind_some, Option.toList_some, Option.toList_none, List.cons_append, List.nil_append, and_self, and_true, true_and, false_and, and_false, ite_self, not_true_eq_false, not_false_eq_true, reduceIte, Nat.reduceEqDiff, ab_I, ab_L, ab_R, ao_I, ao_L, ao_R, gL_sL, gI_sI, gR_sR, gI_sL, gI_sR, gL_sI, gL_sR, gR_sI, gR_sL, T332, T340, b2_0', iAnd7, c1, c2, c3, c4, eq_true c5]
            unfold b2
            rw [if_pos (show ledO w from Or.inr (Or.inr ⟨by omega, c5⟩))]
          · simp only [M476, e476_0, e476_4, e476_37, e476_40, e476_44, Option.getD_some, Option.bind_some, Option.toList_some, Option.toList_none, List.cons_append, List.nil_append, and_self, and_true, true_and, false_and, and_false, ite_self, not_true_eq_false, not_false_eq_true, reduceIte, Nat.reduceEqDiff, ab_I, ab_L, ab_R, ao_I, ao_L, ao_R, gL_sL, gI_sI, gR_sR, gI_sL, gI_sR, gL_sI, gL_sR, gR_sI, gR_sL, T332, T340, b2_0', iAnd7, c1, c2, c3, c4, eq_false c5]
            unfold b2
            rw [if_neg (show ¬ ledO w from fun q => by rcases q with q | q | q <;> first | exact c5 q.2 | omega)]
theorem T477 {i : Int} {w : B64} {σ : MS} (hi : 0 ≤ i ∧ i < 1000) : MM 477 [mI i, mL w] σ = some (some (mI (w32 (goal i w))), σ) := by
  have e : w32 (i + 1) = i + 1 := w32_i (by omega) (by omega)
  unfold goal
  by_cases c1 : fOp w = 6
  · rw [if_pos (Or.inl c1)]
    simp only [M477, e477_0, e477_4, e477_21, e477_25, e477_32, Option.getD_some, Option.bind_some, Option.toList_some, Option.toList_none, List.cons_append, List.nil_append, and_self, and_true, true_and, false_and, and_false, ite_self, not_true_eq_false, not_false_eq_true, reduceIte, Nat.reduceEqDiff, ab_I, ab_L, ab_R, ao_I, ao_L, ao_R, gL_sL, gI_sI, gR_sR, gI_sL, gI_sR, gL_sI, gL_sR, gR_sI, gR_sL, T332, T336, eq_true c1, e]
  · by_cases c2 : fOp w = 133
    · rw [if_pos (Or.inr c2)]
      simp only [M477, e477_0, e477_4, e477_21, e477_25, e477_32, Option.getD_some, Option.bind_some, Option.toList_some, Option.toList_none, List.cons_append, List.nil_append, and_self, and_true, true_and, false_and, and_false, ite_self, not_true_eq_false, not_false_eq_true, reduceIte, Nat.reduceEqDiff, ab_I, ab_L, ab_R, ao_I, ao_L, ao_R, gL_sL, gI_sI, gR_sR, gI_sL, gI_sR, gL_sI, gL_sR, gR_sI, gR_sL, T332, T336, c1, eq_true c2, e]
    · rw [if_neg (fun q => by rcases q with q | q <;> contradiction)]
      simp only [M477, e477_0, e477_4, e477_21, e477_25, e477_32, Option.getD_some, Option.bind_some, Option.toList_some, Option.toList_none, List.cons_append, List.nil_append, and_self, and_true, true_and, false_and, and_false, ite_self, not_true_eq_false, not_false_eq_true, reduceIte, Nat.reduceEqDiff, ab_I, ab_L, ab_R, ao_I, ao_L, ao_R, gL_sL, gI_sI, gR_sR, gI_sL, gI_sR, gL_sI, gL_sR, gR_sI, gR_sL, T332, T335, c1, c2, e]
/-- the slot at hand, and its words -/
abbrev jsA (σ : MS) : Int := gI σ 80 86
abbrev okSl (σ : MS) : Prop := (0 ≤ jsA σ ∧ jsA σ < 8) ∧ 0 ≤ gI σ 84 (jsA σ).toNat ∧ gI σ 84 (jsA σ).toNat ≤ 200
def wdA (σ : MS) (i : Nat) : B64 := gL σ 83 (200 * (jsA σ).toNat + i)
def szA (σ : MS) : Nat := (gI σ 84 (jsA σ).toNat).toNat
theorem T474 {i : Nat} {σ : MS} (h : okSl σ) (hi : i < 200) : MM 474 [mR (some 80), mI (i : Int)] σ = some (some (mL (wdA σ i)), σ) := by
  obtain ⟨⟨h1, h2⟩, h3, h4⟩ := h
  have e : w32 (w32 (200 * jsA σ) + (i : Int)) = ((200 * (jsA σ).toNat + i : Nat) : Int) := by
    rw [w32_i (x := 200 * jsA σ) (by omega) (by omega), w32_i (by omega) (by omega)]
    omega
  rw [M474, e474_0]
  simp only [g_83]
  rw [e, if_pos ⟨by omega, by omega⟩, Int.toNat_natCast]
  rfl
theorem T478 {x : Int} {σ : MS} (h : okSl σ) : MM 478 [mR (some 80), mI x] σ = some (some (mI (b2 ((0 ≤ x ∧ x.toNat < szA σ) ∧ ¬ gI σ 135 x.toNat = 0))), σ) := by
  obtain ⟨⟨h1, h2⟩, h3, h4⟩ := h
  have hz : ((szA σ : Nat) : Int) = gI σ 84 (jsA σ).toNat := by unfold szA; omega
  rw [M478, e478_0]
  simp only [g_84, g_135]
  unfold b2
  by_cases c1 : x < 0
  · rw [if_pos c1, e478_30, if_neg (fun q => by omega)]
  · rw [if_neg c1, if_pos ⟨h1, by omega⟩]
    by_cases c2 : gI σ 84 (jsA σ).toNat ≤ x
    · rw [if_pos c2, e478_30, if_neg (fun q => by omega)]
    · rw [if_neg c2, if_pos ⟨by omega, by omega⟩]
      by_cases c3 : gI σ 135 x.toNat = 0
      · rw [if_pos c3, e478_30, if_neg (fun q => q.2 c3)]
      · rw [if_neg c3, if_pos ⟨⟨by omega, by omega⟩, c3⟩]
/-- a stretch of places made UNSET -/
def clS (σ : MS) (a : Nat) : Nat → MS
  | 0 => σ
  | n + 1 => wrV (clS σ a n) (a + n) unsV
theorem T469 {f : Nat} {σ : MS} (hf : f < 1250) : MM 469 [mR (some 80), mI (f : Int)] σ = some (none, clS σ (26 * f) 26) := by
  have key : ∀ m : Nat, m ≤ 26 → RR (lkB tb469) (B469_2, [some (mR (some 80)), some (mI (f : Int)), some (mI ((26 - m : Nat) : Int))], [], clS σ (26 * f) (26 - m)) = some (none, clS σ (26 * f) 26) := by
    intro m
    induction m with
    | zero =>
      intro _
      rw [e469_2, if_pos (by omega)]
    | succ m ih =>
      intro hm
      have ea : w32 (w32 (26 * (f : Int)) + ((26 - (m + 1) : Nat) : Int)) = ((26 * f + (26 - (m + 1)) : Nat) : Int) := by
        rw [w32_i (x := 26 * (f : Int)) (by omega) (by omega), w32_i (by omega) (by omega)]
        omega
      rw [e469_2, if_neg (by omega), ea, T431 ⟨by omega, by omega⟩ (by omega)]
      simp only [Option.bind_some, Option.toList_none, List.nil_append]
      rw [e469_21, ea]
      simp only [g_122]
      rw [if_pos ⟨by omega, by omega⟩, Int.toNat_natCast, p122, aV_same, wrV_same, w32_i (by omega) (by omega)]
      have e3 : ((26 - (m + 1) : Nat) : Int) + 1 = ((26 - m : Nat) : Int) := by omega
      have e4 : clS σ (26 * f) (26 - m) = wrV (clS σ (26 * f) (26 - (m + 1))) (26 * f + (26 - (m + 1))) unsV := by
        rw [show 26 - m = (26 - (m + 1)) + 1 by omega]
        rfl
      rw [e3]
      have := ih (by omega)
      rw [e4] at this
      exact this
  rw [M469, e469_0]
  exact key 26 (Nat.le_refl _)
