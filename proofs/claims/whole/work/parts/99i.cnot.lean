/-! ===== the class's walk: an instruction is noted (note) (not yet compiled) ===== -/
section CNOT
variable {σ : MS} {hc a : Nat} {S : ST} {G Fa f5 : Int}
abbrev ntS (σ : MS) (hc : Nat) (S : ST) (G Fa f5 : Int) : MS := sI (sI (sI σ 51 1 (G + 1)) hc 7 (Fa + 1)) 51 5 (if f5 < (sF S : Int) then (sF S : Int) else f5)
theorem T35 (ha : a < 200) (h14 : gR σ 39 14 = some hc) (sh : isSt σ hc) (ch : isCl hc) (hS : CSt σ hc S) (F : 1 ≤ sF S ∧ sF S ≤ 4) (g1 : gI σ 51 1 = G) (hG : 0 ≤ G ∧ G < 100000) (g7 : gI σ hc 7 = Fa) (hFa : 0 ≤ Fa ∧ Fa < 100000) (g5 : gI σ 51 5 = f5) :
    MM 35 [mR (some 39), mI (a : Int)] σ = some (none, sI (cpL (ntS σ hc S G Fa f5) (hc + 1 + 0) ((pR S 0 : Nat) : Int) 53 ((110 * a : Nat) : Int) 110) 52 a 1) := by
  unfold isCl at ch
  have nh : ¬ hc = 51 := by omega
  have nh' : ¬ 51 = hc := by omega
  have ao8 : ao σ 8 (some hc) = True := aoS sh
  have f3 : gI σ hc 3 = (sF S : Int) := hS.1.1
  have f3' : gI (ntS σ hc S G Fa f5) hc 3 = (sF S : Int) := by
    rw [gI_sI, if_neg (by omega), gI_sI, if_neg (by omega), gI_sI, if_neg (by omega)]
    exact f3
  have t12 : MM 212 [mR (some hc), mI 0] (ntS σ hc S G Fa f5) = some (some (mI ((pR S 0 : Nat) : Int)), ntS σ hc S G Fa f5) := T212 (r := 0) sh f3' F (by decide)
  have p0 := pR_lt F (show 0 ≤ 10 by decide)
  have p0' : pR S 0 + 110 ≤ 1188 := by
    show 297 * (sF S - 1) + 11 * 0 + 110 ≤ 1188
    omega
  have x53 : kd σ 53 = (4, 22000) := rfl
  have a0 : 0 ≤ ((pR S 0 : Nat) : Int) := by omega
  have kk : (Option.isSome (some (hc + 1 + 0)) = true ∧ Option.isSome (some 53) = true) ∧ ac (ntS σ hc S G Fa f5) 4 (hc + 1 + 0) 53 ((pR S 0 : Nat) : Int) ((110 * a : Nat) : Int) 110 := by
    have k1 : kd (ntS σ hc S G Fa f5) (hc + 1 + 0) = (4, 1188) := sh.2.1
    have k2 : kd (ntS σ hc S G Fa f5) 53 = (4, 22000) := x53
    refine ⟨⟨rfl, rfl⟩, ⟨by rw [k1], by rw [k2]⟩, ⟨a0, by omega, by decide⟩, ?_, ?_⟩
    · rw [k1]
      show ((pR S 0 : Nat) : Int) + 110 ≤ ((1188 : Nat) : Int)
      omega
    · rw [k2]
      show ((110 * a : Nat) : Int) + 110 ≤ ((22000 : Nat) : Int)
      omega
  have g52 : ∀ ρ : MS, (Option.isSome (some 52) = true ∧ ab ρ 2 52 (a : Int)) = True := fun ρ => by
    rw [g_52]
    exact eq_true (by omega)
  have g51a : ∀ ρ : MS, (Option.isSome (some 51) = true ∧ ab ρ 3 51 1) = True := fun ρ => by
    rw [g_51]
    exact eq_true (by decide)
  have g51b : ∀ ρ : MS, (Option.isSome (some 51) = true ∧ ab ρ 3 51 5) = True := fun ρ => by
    rw [g_51]
    exact eq_true (by decide)
  have e110 : (a : Int) * 110 = ((110 * a : Nat) : Int) := by omega
  have w110 : w32 ((a : Int) * 110) = ((110 * a : Nat) : Int) := by rw [e110]; exact w32_i (by omega) (by omega)
  have w1 : w32 (G + 1) = G + 1 := w32_i (by omega) (by omega)
  have w7 : w32 (Fa + 1) = Fa + 1 := w32_i (by omega) (by omega)
  have s44 : MM 35 [mR (some 39), mI (a : Int)] σ = RR (lkB tb35) (B35_44, [some (mR (some 39)), some (mI (a : Int))], [mI (if f5 < (sF S : Int) then (sF S : Int) else f5), mI 5, mR (some 51)], sI (sI σ 51 1 (G + 1)) hc 7 (Fa + 1)) := by
    simp only [M35, e35_0, Option.getD_some, Option.bind_some, Option.toList_some, Option.toList_none, List.cons_append, List.nil_append, and_self, and_true, true_and, false_and, and_false, ite_self, not_true_eq_false, not_false_eq_true, reduceIte, Nat.reduceEqDiff, ab_I, ab_L, ab_R, ao_I, ao_L, ao_R, gL_sL, gI_sI, gR_sR, gI_sL, gI_sR, gL_sI, gL_sR, gR_sI, gR_sL, g51a, g51b, Int.reduceToNat, g1, w1, h14, ao8, nh, nh', g7, w7, g5, f3, T570]
  have s60 : RR (lkB tb35) (B35_44, [some (mR (some 39)), some (mI (a : Int))], [mI (if f5 < (sF S : Int) then (sF S : Int) else f5), mI 5, mR (some 51)], sI (sI σ 51 1 (G + 1)) hc 7 (Fa + 1)) = RR (lkB tb35) (B35_60, [some (mR (some 39)), some (mI (a : Int))], [mI ((pR S 0 : Nat) : Int), mR (some (hc + 1 + 0))], ntS σ hc S G Fa f5) := by
    simp only [e35_44, Option.getD_some, Option.bind_some, Option.toList_some, Option.toList_none, List.cons_append, List.nil_append, and_self, and_true, true_and, false_and, and_false, ite_self, not_true_eq_false, not_false_eq_true, reduceIte, Nat.reduceEqDiff, ab_I, ab_L, ab_R, ao_I, ao_L, ao_R, gL_sL, gI_sI, gR_sR, gI_sL, gI_sR, gL_sI, gL_sR, gR_sI, gR_sL, g51b, Int.reduceToNat, h14, ao8, t12]
  rw [s44, s60, e35_60, w110]
  simp only [Option.getD_some]
  rw [if_pos kk, if_pos (of_eq_true (g52 _)), Int.toNat_natCast]
  rfl
end CNOT
