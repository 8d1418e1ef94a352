/-! ===== the class's states: a FUNCTION is left ===== -/
section CST8
variable {σ τ : MS} {k : Nat} {S : ST}
theorem T220 (h : isSt σ k) (hF : 2 ≤ sF S ∧ sF S ≤ 4) (hS : CSt σ k S) : okc (MM 220 [mR (some k)] σ) (some (mI (sB S (sF S - 1)))) (fun τ => CSt τ k (unsA (wV (sF S - 1, sV S, sB S, sH S) 0 (rgV S 0))) ∧ (∀ k' s, ¬ (k' = k ∧ s = 3) → gI τ k' s = gI σ k' s) ∧ (∀ k' s, ¬ k' = k + 1 + 0 → gL τ k' s = gL σ k' s) ∧ τ.2.2 = σ.2.2) := by
  have hS' := hS
  obtain ⟨⟨f3, f4⟩, v1, v2, v3, v4, v5⟩ := hS'
  have t2 := T212 (r := 0) h f3 (by omega) (by omega)
  have t2 : MM 212 [mR (some k), mI 0] σ = some (some (mI ((297 * (sF S - 1) + 11 * 0 : Nat) : Int)), σ) := t2
  have u0 : rgV S 0 = sV S (26 * (sF S - 1) + 0) := if_neg (by omega)
  have c0 : cAt σ k (297 * (sF S - 1) + 11 * 0) (rgV S 0) := by
    rw [u0]
    exact v1 (sF S - 1) 0 (by omega) (by omega)
  obtain ⟨τ1, e1, c1⟩ := T216 (b := 297 * (sF S - 2)) h (by omega) (by omega) c0
  have h1 : isSt τ1 k := st_r c1.2.2.1 h
  have g3 : gI τ1 k 3 = (sF S : Int) := (c1.1 _ _).trans f3
  have w1 : w32 ((sF S : Int) - 1) = ((sF S - 1 : Nat) : Int) := by
    rw [w32_i (by omega) (by omega)]
    omega
  have w2 : w32 (((297 * (sF S - 1) + 11 * 0 : Nat) : Int) - 297) = ((297 * (sF S - 2) : Nat) : Int) := by
    clear w1
    rw [w32_i (by omega) (by omega)]
    omega
  have s18 : MM 220 [mR (some k)] σ = (MM 221 [mR (some k)] (sI τ1 k 3 ((sF S - 1 : Nat) : Int))).bind fun q => RR (lkB tb220) (B220_32, [some (mR (some k))], q.1.toList ++ [], q.2) := by
    simp only [M220, e220_0, e220_6, e220_11, e220_18, Option.getD_some, Option.bind_some, Option.toList_some, Option.toList_none, List.cons_append, List.nil_append, and_self, and_true, true_and, false_and, and_false, ite_self, not_true_eq_false, not_false_eq_true, reduceIte, Nat.reduceEqDiff, ab_I, ab_L, ab_R, ao_I, ao_L, ao_R, gL_sL, gI_sI, gR_sR, gI_sL, gI_sR, gL_sI, gL_sR, gR_sI, gR_sL, aoS h, t2, w2, e1, aoS h1, g3, w1]
  clear w1 w2
  have h2 : isSt (sI τ1 k 3 ((sF S - 1 : Nat) : Int)) k := h1
  have cT : CSt (sI σ k 3 ((sF S - 1 : Nat) : Int)) k (sF S - 1, sV S, sB S, sH S) := by
    refine ⟨⟨?_, ?_⟩, fun f r hf hr => v1 f r (by have hf : f < sF S - 1 := hf; omega) hr, fun f hf => v2 f (by have hf : f < sF S - 1 := hf; omega), fun f q hf hq => v3 f q (by have hf : f < sF S - 1 := hf; omega) hq, fun f a1 a2 => ?_, fun j hj => ?_⟩
    · rw [gI_sI, if_pos ⟨rfl, rfl⟩]
    · rw [gI_sI, if_neg (by omega)]
      exact f4
    · rw [gI_sI, if_neg (by omega)]
      exact v4 f a1 (by have a2 : f < sF S - 1 := a2; omega)
    · rw [gI_sI, if_neg (by omega)]
      exact v5 j hj
  have c2 : cxV (sI τ1 k 3 ((sF S - 1 : Nat) : Int)) (sI σ k 3 ((sF S - 1 : Nat) : Int)) k (297 * (sF S - 2)) (rgV S 0) := ⟨fun k' s => by rw [gI_sI, gI_sI, c1.1], fun k' s p => c1.2.1 k' s p, c1.2.2.1, c1.2.2.2⟩
  have cW : CSt (sI τ1 k 3 ((sF S - 1 : Nat) : Int)) k (wV (sF S - 1, sV S, sB S, sH S) 0 (rgV S 0)) := CSt_w (S := (sF S - 1, sV S, sB S, sH S)) (by show 1 ≤ sF S - 1 ∧ sF S - 1 ≤ 4; omega) cT (by omega) (by
    show cxV _ _ k (297 * (sF S - 1 - 1) + 11 * 0) _
    rw [show 297 * (sF S - 1 - 1) + 11 * 0 = 297 * (sF S - 2) by omega]
    exact c2)
  rw [s18]
  refine okc_b (T221 h2 (S := wV (sF S - 1, sV S, sB S, sH S) 0 (rgV S 0)) (by show 1 ≤ sF S - 1 ∧ sF S - 1 ≤ 4; omega) cW) fun τ2 z => ?_
  obtain ⟨z1, z2, z3, z4⟩ := z
  have h3 := st_r z4 h2
  have g3' : gI τ2 k 3 = ((sF S - 1 : Nat) : Int) := by rw [z2, gI_sI, if_pos ⟨rfl, rfl⟩]
  have gb : gI τ2 (k + 1 + 1) (sF S - 1) = sB S (sF S - 1) := by
    rw [z2, gI_sI, if_neg (by omega), c1.1]
    exact v4 _ (by omega) (by omega)
  have ab3 : ab τ2 3 (k + 1 + 1) ((sF S - 1 : Nat) : Int) = True := eq_true ((abB h3 (i := ((sF S - 1 : Nat) : Int))).mpr ⟨Int.natCast_nonneg _, by omega⟩).2
  simp only [e220_32, Option.getD_some, Option.bind_some, Option.toList_some, Option.toList_none, List.cons_append, List.nil_append, and_self, and_true, true_and, false_and, and_false, ite_self, not_true_eq_false, not_false_eq_true, reduceIte, Nat.reduceEqDiff, ab_I, ab_L, ab_R, ao_I, ao_L, ao_R, gL_sL, gI_sI, gR_sR, gI_sL, gI_sR, gL_sI, gL_sR, gR_sI, gR_sL, aoS h3, g3', Option.isSome_some, ab3, Int.toNat_natCast, gb]
  refine okc_s ⟨z1, fun k' s p => ?_, fun k' s p => ?_, z4.trans c1.2.2.1⟩
  · rw [z2, gI_sI, if_neg p, c1.1]
  · rw [z3 _ _ p, gL_sI, c1.2.1 _ _ (fun y => p y.1)]
end CST8
