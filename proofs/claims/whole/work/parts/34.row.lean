/-! ===== a number in a state's row ===== -/
def rowN (σ : MS) (r a : Nat) : N6 := (gL σ r (a + 1), gL σ r (a + 2), gL σ r (a + 3), gL σ r (a + 4), gL σ r (a + 5), gL σ r (a + 6))
def wRN (σ : MS) (r a : Nat) (n : N6) : MS := sL (sL (sL (sL (sL (sL σ r (a + 1) n.1) r (a + 2) n.2.1) r (a + 3) n.2.2.1) r (a + 4) n.2.2.2.1) r (a + 5) n.2.2.2.2.1) r (a + 6) n.2.2.2.2.2
section ROW
variable {k r a L : Nat} {σ : MS}
theorem w_row {c : Nat} (h : a + c < 1000000) : w32 ((a : Int) + (c : Int)) = ((a + c : Nat) : Int) := by
  rw [w32_i (by omega) (by omega)]
  omega
theorem g_row {c : Nat} (hr : kd σ r = (4, L)) (h : a + c < L) : (Option.isSome (some r) = true ∧ ab σ 4 r ((a + c : Nat) : Int)) = True := by
  rw [gdK hr]
  exact eq_true ⟨by omega, by omega⟩
set_option maxHeartbeats 2000000 in
theorem T67 (hk : isNm σ k) (hr : kd σ r = (4, L)) (h : ¬ r = k) (ha : a + 6 < L) (hL : L < 900000) : MM 67 [mR (some k), mR (some r), mI (a : Int)] σ = some (none, wC σ k (rowN σ r a)) := by
  refine froC fun n => ?_
  have w1 : w32 ((a : Int) + 1) = ((a + 1 : Nat) : Int) := w_row (c := 1) (by omega)
  have w2 : w32 ((a : Int) + 2) = ((a + 2 : Nat) : Int) := w_row (c := 2) (by omega)
  have w3 : w32 ((a : Int) + 3) = ((a + 3 : Nat) : Int) := w_row (c := 3) (by omega)
  have w4 : w32 ((a : Int) + 4) = ((a + 4 : Nat) : Int) := w_row (c := 4) (by omega)
  have w5 : w32 ((a : Int) + 5) = ((a + 5 : Nat) : Int) := w_row (c := 5) (by omega)
  have w6 : w32 ((a : Int) + 6) = ((a + 6 : Nat) : Int) := w_row (c := 6) (by omega)
  simp only [M67, e67_0, e67_27, e67_55, Option.getD_some, Option.bind_some, Option.toList_some, Option.toList_none, List.cons_append, List.nil_append, and_self, and_true, true_and, false_and, and_false, ite_self, not_true_eq_false, not_false_eq_true, reduceIte, Nat.reduceEqDiff, ab_I, ab_L, ab_R, ao_I, ao_L, ao_R, gL_sL, gI_sI, gR_sR, gI_sL, gI_sR, gL_sI, gL_sR, gR_sI, gR_sL, w1, w2, w3, w4, w5, w6, Int.toNat_natCast, ab_wC, aoNw hk, g_row (c := 1) hr (show a + 1 < L by omega), g_row (c := 2) hr (show a + 2 < L by omega), g_row (c := 3) hr (show a + 3 < L by omega), g_row (c := 4) hr (show a + 4 < L by omega), g_row (c := 5) hr (show a + 5 < L by omega), g_row (c := 6) hr (show a + 6 < L by omega), wC0, wC1, wC2, wC3, wC4, wC5, gC_ne h]
  rfl
set_option maxHeartbeats 2000000 in
theorem T68 (hk : isNm σ k) (hr : kd σ r = (4, L)) (h : ¬ k = r) (ha : a + 6 < L) (hL : L < 900000) : MM 68 [mR (some k), mR (some r), mI (a : Int)] σ = some (none, wRN σ r a (rC σ k)) := by
  have w1 : w32 ((a : Int) + 1) = ((a + 1 : Nat) : Int) := w_row (c := 1) (by omega)
  have w2 : w32 ((a : Int) + 2) = ((a + 2 : Nat) : Int) := w_row (c := 2) (by omega)
  have w3 : w32 ((a : Int) + 3) = ((a + 3 : Nat) : Int) := w_row (c := 3) (by omega)
  have w4 : w32 ((a : Int) + 4) = ((a + 4 : Nat) : Int) := w_row (c := 4) (by omega)
  have w5 : w32 ((a : Int) + 5) = ((a + 5 : Nat) : Int) := w_row (c := 5) (by omega)
  have w6 : w32 ((a : Int) + 6) = ((a + 6 : Nat) : Int) := w_row (c := 6) (by omega)
  simp only [M68, e68_0, e68_27, e68_55, Option.getD_some, Option.bind_some, Option.toList_some, Option.toList_none, List.cons_append, List.nil_append, and_self, and_true, true_and, false_and, and_false, ite_self, not_true_eq_false, not_false_eq_true, reduceIte, Nat.reduceEqDiff, ab_I, ab_L, ab_R, ao_I, ao_L, ao_R, gL_sL, gI_sI, gR_sR, gI_sL, gI_sR, gL_sI, gL_sR, gR_sI, gR_sL, w1, w2, w3, w4, w5, w6, Int.toNat_natCast, aoN hk, g_row (c := 1) hr (show a + 1 < L by omega), g_row (c := 2) hr (show a + 2 < L by omega), g_row (c := 3) hr (show a + 3 < L by omega), g_row (c := 4) hr (show a + 4 < L by omega), g_row (c := 5) hr (show a + 5 < L by omega), g_row (c := 6) hr (show a + 6 < L by omega), h]
  rfl
end ROW
