/-! ===== the class's walk: behind an instruction (goOn) (not yet compiled) ===== -/
section CGON
variable {τ σ ρ : MS} {hc sc M : Nat} {Fr f5 f4 n g : Int}
/-- one way, or none -/
theorem L36a (h14 : gR σ 39 14 = some hc) (sh : isSt σ hc) (b0 : gI σ 40 3 = 0) (g5 : gI σ 51 5 = f5) (fr : gI σ hc 3 = Fr) : MM 36 [mR (some 39)] σ = RR (lkB tb36) (B36_117, [some (mR (some 39)), none], [], sI σ 51 5 (if f5 < Fr then Fr else f5)) := by
  have ao8 : ao σ 8 (some hc) = True := aoS sh
  have g51 : (Option.isSome (some 51) = true ∧ ab σ 3 51 5) = True := by
    rw [g_51]
    exact eq_true (by decide)
  simp only [M36, e36_0, e36_21, Option.getD_some, Option.bind_some, Option.toList_some, Option.toList_none, List.cons_append, List.nil_append, and_self, and_true, true_and, false_and, and_false, ite_self, not_true_eq_false, not_false_eq_true, reduceIte, Nat.reduceEqDiff, ab_I, ab_L, ab_R, ao_I, ao_L, ao_R, gL_sL, gI_sI, gR_sR, gI_sL, gI_sR, gL_sI, gL_sR, gR_sI, gR_sL, g51, Int.reduceToNat, h14, ao8, g5, fr, T570, b0]
/-- the way goes on at the next word -/
theorem L36n (h14 : gR ρ 39 14 = some hc) (sh : isSt ρ hc) (h4 : gI ρ 40 4 = n) (h0 : 0 ≤ n) : RR (lkB tb36) (B36_117, [some (mR (some 39)), none], [], ρ) = some (some (mI 1), sI ρ hc 5 n) := by
  have ao8 : ao ρ 8 (some hc) := of_eq_true (aoS sh)
  rw [e36_117, h4, if_pos h0, h14, if_pos ao8, Option.getD_some]
/-- the way is over: as endWay says -/
theorem L36e {z : Int} (h4 : gI ρ 40 4 = n) (h0 : n < 0) (hz : z = 0 ∨ z = 1) (e : MM 39 [mR (some 39), mI 0] ρ = some (some (mI z), τ)) : RR (lkB tb36) (B36_117, [some (mR (some 39)), none], [], ρ) = some (some (mI z), τ) := by
  rw [e36_117, h4, if_neg (by omega), e]
  show RR (lkB tb36) (B36_132, [some (mR (some 39)), none], [mI z], τ) = _
  rw [e36_132, if_pos hz]
/-- two ways: the spare state waits, another one becomes the spare -/
abbrev gnS (σ : MS) (sc M : Nat) (f5' g : Int) : MS := sR (sI (sI σ 51 5 f5') sc 5 g) 59 M (some sc)
theorem L36b (h14 : gR σ 39 14 = some hc) (sh : isSt σ hc) (h15 : gR σ 39 15 = some sc) (ss : isSt σ sc) (cs : isCl sc) (ch : isCl hc) (b1 : gI σ 40 3 = 1) (t5 : gI σ 40 5 = g) (g5 : gI σ 51 5 = f5) (fr : gI σ hc 3 = Fr) (h11 : gI σ 39 11 = (M : Int)) (hM : M < 60) :
    MM 36 [mR (some 39)] σ = RR (lkB tb36) (B36_69, [some (mR (some 39)), some (mR (gR σ 59 M))], [], gnS σ sc M (if f5 < Fr then Fr else f5) g) := by
  unfold isCl at cs ch
  have ao8 : ao σ 8 (some hc) = True := aoS sh
  have ao9 : ao σ 8 (some sc) = True := aoS ss
  have g51 : (Option.isSome (some 51) = true ∧ ab σ 3 51 5) = True := by
    rw [g_51]
    exact eq_true (by decide)
  have g59 : (Option.isSome (some 59) = true ∧ ab σ 5 59 (M : Int)) = True := by
    rw [g_59]
    exact eq_true (by omega)
  have aqs : aq σ 5 (some sc) = True := eq_true (fun _ => by show (kd σ sc).1 = 28; rw [ss.1])
  have n1 : ¬ sc = 40 := by omega
  have n2 : ¬ 39 = sc := by omega
  have n3 : ¬ (1 : Int) = 0 := by decide
  have s21 : MM 36 [mR (some 39)] σ = RR (lkB tb36) (B36_21, [some (mR (some 39)), none], [mI (if f5 < Fr then Fr else f5), mI 5, mR (some 51)], σ) := by
    simp only [M36, e36_0, Option.getD_some, Option.bind_some, Option.toList_some, Option.toList_none, List.cons_append, List.nil_append, and_self, and_true, true_and, false_and, and_false, ite_self, not_true_eq_false, not_false_eq_true, reduceIte, Nat.reduceEqDiff, ab_I, ab_L, ab_R, ao_I, ao_L, ao_R, gL_sL, gI_sI, gR_sR, gI_sL, gI_sR, gL_sI, gL_sR, gR_sI, gR_sL, g51, Int.reduceToNat, h14, ao8, g5, fr, T570]
  rw [s21]
  simp only [e36_21, Option.getD_some, Option.bind_some, Option.toList_some, Option.toList_none, List.cons_append, List.nil_append, and_self, and_true, true_and, false_and, and_false, ite_self, not_true_eq_false, not_false_eq_true, reduceIte, Nat.reduceEqDiff, ab_I, ab_L, ab_R, ao_I, ao_L, ao_R, gL_sL, gI_sI, gR_sR, gI_sL, gI_sR, gL_sI, gL_sR, gR_sI, gR_sL, g51, Int.reduceToNat, b1, n3, h15, ao9, t5, h11, g59, aqs, n1, n2, Int.toNat_natCast]
end CGON
