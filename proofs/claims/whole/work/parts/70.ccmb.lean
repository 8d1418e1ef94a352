/-! ===== the class's combine, whole ===== -/
theorem T77 {k j i : Nat} {σ : MS} {op off : Int} {c : Int} (h0 : 0 ≤ op) (h1 : op < 256) (ec : op / 16 * 16 = c) (hk : isNm σ k) (hj : isNm σ j) (hi : isNm σ i) (h : ¬ j = k) (h2 : ¬ i = k) (hc : c = 0 ∨ c = 16 ∨ c = 32 ∨ c = 48 ∨ c = 64 ∨ c = 80 ∨ c = 96 ∨ c = 112 ∨ c = 144 ∨ c = 160 ∨ c = 176 ∨ c = 192) (hq : c = 32 ∨ c = 48 ∨ c = 144 → ¬ (isC (rC σ j) ∧ isC (rC σ i))) (ho : c = 176 → 1 ≤ off ∧ off ≤ 64) : MM 77 [mR (some k), mI op, mI off, mR (some j), mR (some i)] σ = some (none, wC σ k (cmbN c off (if op % 8 = 7 then 64 else 32) (rC σ j) (rC σ i))) := by
  by_cases w : op % 8 = 7
  · rw [if_pos w]
    have t := L77 (n := 64) (z := 63) h0 h1 ec hk hj hi h h2 (by omega) (lI63 _) hc hq ho
    simp only [M77, e77_0, Option.getD_some, Option.bind_some, Option.toList_some, Option.toList_none, List.cons_append, List.nil_append, and_self, and_true, true_and, false_and, and_false, ite_self, not_true_eq_false, not_false_eq_true, reduceIte, Nat.reduceEqDiff, ab_I, ab_L, ab_R, ao_I, ao_L, ao_R, gL_sL, gI_sI, gR_sR, gI_sL, gI_sR, gL_sI, gL_sR, gR_sI, gR_sL, aoN hi, iAnd7, w]
    exact t
  · rw [if_neg w]
    have t := L77 (n := 32) (z := 31) h0 h1 ec hk hj hi h h2 (by omega) (lI31 _) hc hq ho
    simp only [M77, e77_0, Option.getD_some, Option.bind_some, Option.toList_some, Option.toList_none, List.cons_append, List.nil_append, and_self, and_true, true_and, false_and, and_false, ite_self, not_true_eq_false, not_false_eq_true, reduceIte, Nat.reduceEqDiff, ab_I, ab_L, ab_R, ao_I, ao_L, ao_R, gL_sL, gI_sI, gR_sR, gI_sL, gI_sR, gL_sI, gL_sR, gR_sI, gR_sL, aoN hi, iAnd7, w]
    exact t
/-- what is told from constants, or of numbers that can't be told -/
def tolV (op off : Int) (a b : B64) : B64 := if op % 8 = 7 then reckA (op / 16 * 16) off true a b else reckA (op / 16 * 16) off false (a &&& cF) (b &&& cF) &&& cF
abbrev tolS (op off : Int) : Prop := off = 1 ∨ op / 16 * 16 = 192 ∧ op % 8 = 4
abbrev tolC (op : Int) (x y : N6) : Prop := (isC x ∨ op / 16 * 16 = 176) ∧ isC y
abbrev tolQ (op off : Int) : Prop := tolS op off ∨ op / 16 * 16 = 176 ∨ op / 16 * 16 = 32 ∨ op / 16 * 16 = 48 ∨ op / 16 * 16 = 144
section TOLD
variable {k j i : Nat} {σ : MS} {op off : Int}
theorem L76 (h0 : 0 ≤ op) (h1 : op < 256) (hj : isNm σ j) (hi : isNm σ i) : MM 76 [mR (some k), mI op, mI off, mR (some j), mR (some i)] σ = RR (lkB tb76) (B76_79, [some (mR (some k)), some (mI op), some (mI off), some (mR (some j)), some (mR (some i)), some (mI (op / 16 * 16)), some (mI (b2 (tolS op off))), some (mI (b2 (op / 16 * 16 = 176))), none], [mI (b2 (tolC op (rC σ j) (rC σ i)))], σ) := by
  have mc : iAnd op 240 = op / 16 * 16 := (mk_at h0 h1).1
  have s33 : MM 76 [mR (some k), mI op, mI off, mR (some j), mR (some i)] σ = RR (lkB tb76) (B76_33, [some (mR (some k)), some (mI op), some (mI off), some (mR (some j)), some (mR (some i)), some (mI (op / 16 * 16)), none, none, none], [mI (b2 (tolS op off))], σ) := by
    by_cases a : off = 1
    · rw [b2_yes (p := tolS op off) (Or.inl a)]
      simp only [M76, e76_0, e76_28, Option.getD_some, Option.bind_some, Option.toList_some, Option.toList_none, List.cons_append, List.nil_append, and_self, and_true, true_and, false_and, and_false, ite_self, not_true_eq_false, not_false_eq_true, reduceIte, Nat.reduceEqDiff, ab_I, ab_L, ab_R, ao_I, ao_L, ao_R, gL_sL, gI_sI, gR_sR, gI_sL, gI_sR, gL_sI, gL_sR, gR_sI, gR_sL, mc, eq_true a]
    · by_cases b : op / 16 * 16 = 192
      · by_cases c : op % 8 = 4
        · rw [b2_yes (p := tolS op off) (Or.inr ⟨b, c⟩)]
          simp only [M76, e76_0, e76_28, Option.getD_some, Option.bind_some, Option.toList_some, Option.toList_none, List.cons_append, List.nil_append, and_self, and_true, true_and, false_and, and_false, ite_self, not_true_eq_false, not_false_eq_true, reduceIte, Nat.reduceEqDiff, ab_I, ab_L, ab_R, ao_I, ao_L, ao_R, gL_sL, gI_sI, gR_sR, gI_sL, gI_sR, gL_sI, gL_sR, gR_sI, gR_sL, mc, iAnd7, a, eq_true b, eq_true c]
        · rw [b2_no (p := tolS op off) (fun z => z.elim a (fun z => c z.2))]
          simp only [M76, e76_0, e76_32, Option.getD_some, Option.bind_some, Option.toList_some, Option.toList_none, List.cons_append, List.nil_append, and_self, and_true, true_and, false_and, and_false, ite_self, not_true_eq_false, not_false_eq_true, reduceIte, Nat.reduceEqDiff, ab_I, ab_L, ab_R, ao_I, ao_L, ao_R, gL_sL, gI_sI, gR_sR, gI_sL, gI_sR, gL_sI, gL_sR, gR_sI, gR_sL, mc, iAnd7, a, eq_true b, c]
      · rw [b2_no (p := tolS op off) (fun z => z.elim a (fun z => b z.1))]
        simp only [M76, e76_0, e76_32, Option.getD_some, Option.bind_some, Option.toList_some, Option.toList_none, List.cons_append, List.nil_append, and_self, and_true, true_and, false_and, and_false, ite_self, not_true_eq_false, not_false_eq_true, reduceIte, Nat.reduceEqDiff, ab_I, ab_L, ab_R, ao_I, ao_L, ao_R, gL_sL, gI_sI, gR_sR, gI_sL, gI_sR, gL_sI, gL_sR, gR_sI, gR_sL, mc, a, b]
  have gx : gL σ j 1 = jM (rC σ j) := rfl
  have gy : gL σ i 1 = jM (rC σ i) := rfl
  rw [s33]
  by_cases m : op / 16 * 16 = 176
  · rw [b2_yes m]
    by_cases y : jM (rC σ i) = 0#64
    · rw [b2_yes (p := tolC op (rC σ j) (rC σ i)) ⟨Or.inr m, y⟩]
      by_cases x : jM (rC σ j) = 0#64
      · simp only [e76_33, e76_48, e76_64, Option.getD_some, Option.bind_some, Option.toList_some, Option.toList_none, List.cons_append, List.nil_append, and_self, and_true, true_and, false_and, and_false, ite_self, not_true_eq_false, not_false_eq_true, reduceIte, Nat.reduceEqDiff, ab_I, ab_L, ab_R, ao_I, ao_L, ao_R, gL_sL, gI_sI, gR_sR, gI_sL, gI_sR, gL_sI, gL_sR, gR_sI, gR_sL, aoN hj, aoN hi, gx, gy, eq_true x, eq_true y, eq_true m, oneI]
      · simp only [e76_33, e76_48, e76_64, Option.getD_some, Option.bind_some, Option.toList_some, Option.toList_none, List.cons_append, List.nil_append, and_self, and_true, true_and, false_and, and_false, ite_self, not_true_eq_false, not_false_eq_true, reduceIte, Nat.reduceEqDiff, ab_I, ab_L, ab_R, ao_I, ao_L, ao_R, gL_sL, gI_sI, gR_sR, gI_sL, gI_sR, gL_sI, gL_sR, gR_sI, gR_sL, aoN hj, aoN hi, gx, gy, x, eq_true y, eq_true m, oneI]
    · rw [b2_no (p := tolC op (rC σ j) (rC σ i)) (fun z => y z.2)]
      by_cases x : jM (rC σ j) = 0#64
      · simp only [e76_33, e76_48, e76_64, e76_78, Option.getD_some, Option.bind_some, Option.toList_some, Option.toList_none, List.cons_append, List.nil_append, and_self, and_true, true_and, false_and, and_false, ite_self, not_true_eq_false, not_false_eq_true, reduceIte, Nat.reduceEqDiff, ab_I, ab_L, ab_R, ao_I, ao_L, ao_R, gL_sL, gI_sI, gR_sR, gI_sL, gI_sR, gL_sI, gL_sR, gR_sI, gR_sL, aoN hj, aoN hi, gx, gy, eq_true x, y, eq_true m, oneI]
      · simp only [e76_33, e76_48, e76_64, e76_78, Option.getD_some, Option.bind_some, Option.toList_some, Option.toList_none, List.cons_append, List.nil_append, and_self, and_true, true_and, false_and, and_false, ite_self, not_true_eq_false, not_false_eq_true, reduceIte, Nat.reduceEqDiff, ab_I, ab_L, ab_R, ao_I, ao_L, ao_R, gL_sL, gI_sI, gR_sR, gI_sL, gI_sR, gL_sI, gL_sR, gR_sI, gR_sL, aoN hj, aoN hi, gx, gy, x, y, eq_true m, oneI]
  · rw [b2_no m]
    by_cases x : jM (rC σ j) = 0#64
    · by_cases y : jM (rC σ i) = 0#64
      · rw [b2_yes (p := tolC op (rC σ j) (rC σ i)) ⟨Or.inl x, y⟩]
        simp only [e76_33, e76_48, e76_64, Option.getD_some, Option.bind_some, Option.toList_some, Option.toList_none, List.cons_append, List.nil_append, and_self, and_true, true_and, false_and, and_false, ite_self, not_true_eq_false, not_false_eq_true, reduceIte, Nat.reduceEqDiff, ab_I, ab_L, ab_R, ao_I, ao_L, ao_R, gL_sL, gI_sI, gR_sR, gI_sL, gI_sR, gL_sI, gL_sR, gR_sI, gR_sL, aoN hj, aoN hi, gx, gy, eq_true x, eq_true y, m]
      · rw [b2_no (p := tolC op (rC σ j) (rC σ i)) (fun z => y z.2)]
        simp only [e76_33, e76_48, e76_64, e76_78, Option.getD_some, Option.bind_some, Option.toList_some, Option.toList_none, List.cons_append, List.nil_append, and_self, and_true, true_and, false_and, and_false, ite_self, not_true_eq_false, not_false_eq_true, reduceIte, Nat.reduceEqDiff, ab_I, ab_L, ab_R, ao_I, ao_L, ao_R, gL_sL, gI_sI, gR_sR, gI_sL, gI_sR, gL_sI, gL_sR, gR_sI, gR_sL, aoN hj, aoN hi, gx, gy, eq_true x, y, m]
    · rw [b2_no (p := tolC op (rC σ j) (rC σ i)) (fun z => z.1.elim x m)]
      simp only [e76_33, e76_48, e76_78, Option.getD_some, Option.bind_some, Option.toList_some, Option.toList_none, List.cons_append, List.nil_append, and_self, and_true, true_and, false_and, and_false, ite_self, not_true_eq_false, not_false_eq_true, reduceIte, Nat.reduceEqDiff, ab_I, ab_L, ab_R, ao_I, ao_L, ao_R, gL_sL, gI_sI, gR_sR, gI_sL, gI_sR, gL_sI, gL_sR, gR_sI, gR_sL, aoN hj, gx, x, m]
theorem T76 (h0 : 0 ≤ op) (h1 : op < 256) (hk : isNm σ k) (hj : isNm σ j) (hi : isNm σ i) (hc : okC (op / 16 * 16) off) : MM 76 [mR (some k), mI op, mI off, mR (some j), mR (some i)] σ = some (some (mI (b2 ((tolC op (rC σ j) (rC σ i) ∧ tolQ op off) ∨ tolS op off))), if tolC op (rC σ j) (rC σ i) ∧ tolQ op off then wC σ k (cstN (tolV op off (jV (rC σ j)) (jV (rC σ i)))) else if tolS op off then wC σ k anyN else σ) := by
  have t20 := T20 (a := gL σ j 0) (b := gL σ i 0) (σ := σ) h0 h1 hc
  have t61 : MM 61 [mR (some k), mL (tolV op off (jV (rC σ j)) (jV (rC σ i)))] σ = some (none, wC σ k (cstN (tolV op off (jV (rC σ j)) (jV (rC σ i))))) := T61 hk
  have t62 : MM 62 [mR (some k)] σ = some (none, wC σ k anyN) := T62 hk
  have bl1 : bl 1 = True := eq_true (by decide)
  have bl0 : bl 0 = True := eq_true (by decide)
  have ev : (if op % 8 = 7 then reckA (op / 16 * 16) off true (gL σ j 0) (gL σ i 0) else reckA (op / 16 * 16) off false (gL σ j 0 &&& cF) (gL σ i 0 &&& cF) &&& cF) = tolV op off (jV (rC σ j)) (jV (rC σ i)) := rfl
  rw [ev] at t20
  rw [L76 h0 h1 hj hi]
  by_cases C : tolC op (rC σ j) (rC σ i)
  · by_cases Q : tolQ op off
    · rw [b2_yes C, b2_yes (p := (tolC op (rC σ j) (rC σ i) ∧ tolQ op off) ∨ tolS op off) (Or.inl ⟨C, Q⟩), if_pos ⟨C, Q⟩]
      have s118 : RR (lkB tb76) (B76_79, [some (mR (some k)), some (mI op), some (mI off), some (mR (some j)), some (mR (some i)), some (mI (op / 16 * 16)), some (mI (b2 (tolS op off))), some (mI (b2 (op / 16 * 16 = 176))), none], [mI 1], σ) = RR (lkB tb76) (B76_118, [some (mR (some k)), some (mI op), some (mI off), some (mR (some j)), some (mR (some i)), some (mI (op / 16 * 16)), some (mI (b2 (tolS op off))), some (mI (b2 (op / 16 * 16 = 176))), some (mI 1)], [], σ) := by
        rw [e76_79, if_neg (by decide)]
        by_cases s : tolS op off
        · rw [if_pos (show ¬ b2 (tolS op off) = 0 by rw [b2_yes s]; decide)]
        · rw [if_neg (show ¬ ¬ b2 (tolS op off) = 0 from fun z => z (b2_no s))]
          by_cases m : op / 16 * 16 = 176
          · rw [if_pos (show ¬ b2 (op / 16 * 16 = 176) = 0 by rw [b2_yes m]; decide)]
          · rw [if_neg (show ¬ ¬ b2 (op / 16 * 16 = 176) = 0 from fun z => z (b2_no m))]
            rcases (Q.resolve_left s).resolve_left m with q | q | q
            all_goals simp only [q, Int.reduceEq, if_true, if_false, not_true_eq_false]
      rw [s118]
      simp only [e76_118, e76_133, e76_136, Option.getD_some, Option.bind_some, Option.toList_some, Option.toList_none, List.cons_append, List.nil_append, and_self, and_true, true_and, false_and, and_false, ite_self, not_true_eq_false, not_false_eq_true, reduceIte, Nat.reduceEqDiff, ab_I, ab_L, ab_R, ao_I, ao_L, ao_R, gL_sL, gI_sI, gR_sR, gI_sL, gI_sR, gL_sI, gL_sR, gR_sI, gR_sL, aoN hj, aoN hi, aoN hk, t20, t61]
    · have s : ¬ tolS op off := fun z => Q (Or.inl z)
      have m : ¬ op / 16 * 16 = 176 := fun z => Q (Or.inr (Or.inl z))
      have q1 : ¬ op / 16 * 16 = 32 := fun z => Q (Or.inr (Or.inr (Or.inl z)))
      have q2 : ¬ op / 16 * 16 = 48 := fun z => Q (Or.inr (Or.inr (Or.inr (Or.inl z))))
      have q3 : ¬ op / 16 * 16 = 144 := fun z => Q (Or.inr (Or.inr (Or.inr (Or.inr z))))
      rw [b2_yes C, b2_no (p := (tolC op (rC σ j) (rC σ i) ∧ tolQ op off) ∨ tolS op off) (fun z => z.elim (fun z => Q z.2) s), if_neg (fun z => Q z.2), if_neg s, b2_no s, b2_no m]
      simp only [e76_79, e76_138, e76_147, Option.getD_some, Option.bind_some, Option.toList_some, Option.toList_none, List.cons_append, List.nil_append, and_self, and_true, true_and, false_and, and_false, ite_self, not_true_eq_false, not_false_eq_true, reduceIte, Nat.reduceEqDiff, ab_I, ab_L, ab_R, ao_I, ao_L, ao_R, gL_sL, gI_sI, gR_sR, gI_sL, gI_sR, gL_sI, gL_sR, gR_sI, gR_sL, oneI, q1, q2, q3, bl0]
  · rw [b2_no C, if_neg (fun z => C z.1)]
    by_cases s : tolS op off
    · rw [b2_yes (p := (tolC op (rC σ j) (rC σ i) ∧ tolQ op off) ∨ tolS op off) (Or.inr s), if_pos s, b2_yes s]
      simp only [e76_79, e76_138, e76_147, Option.getD_some, Option.bind_some, Option.toList_some, Option.toList_none, List.cons_append, List.nil_append, and_self, and_true, true_and, false_and, and_false, ite_self, not_true_eq_false, not_false_eq_true, reduceIte, Nat.reduceEqDiff, ab_I, ab_L, ab_R, ao_I, ao_L, ao_R, gL_sL, gI_sI, gR_sR, gI_sL, gI_sR, gL_sI, gL_sR, gR_sI, gR_sL, oneI, aoN hk, t62, bl1]
    · rw [b2_no (p := (tolC op (rC σ j) (rC σ i) ∧ tolQ op off) ∨ tolS op off) (fun z => z.elim (fun z => C z.1) s), if_neg s, b2_no s]
      simp only [e76_79, e76_138, e76_147, Option.getD_some, Option.bind_some, Option.toList_some, Option.toList_none, List.cons_append, List.nil_append, and_self, and_true, true_and, false_and, and_false, ite_self, not_true_eq_false, not_false_eq_true, reduceIte, Nat.reduceEqDiff, ab_I, ab_L, ab_R, ao_I, ao_L, ao_R, gL_sL, gI_sI, gR_sR, gI_sL, gI_sR, gL_sI, gL_sR, gR_sI, gR_sL, bl0]
end TOLD
