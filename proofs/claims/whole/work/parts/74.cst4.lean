/-! ===== the class's states: the first one ===== -/
section CST4
variable {σ τ : MS} {k : Nat}
theorem ak_n {c : Nat} : ak σ c none = True := eq_true (fun h => by cases h)
theorem T209 (h : isSt σ k) : okc (MM 209 [mR (some k)] σ) none (fun τ => CSt τ k S0J ∧ (gI τ k 5 = 0 ∧ gI τ k 7 = 0 ∧ gR τ k 6 = none) ∧ (∀ k' s, ¬ (k' = k ∧ (s = 3 ∨ s = 4 ∨ s = 5 ∨ s = 7)) → gI τ k' s = gI σ k' s) ∧ (∀ k' s, ¬ (k' = k + 1 + 0 ∧ s < 297) → gL τ k' s = gL σ k' s) ∧ ∀ k' s, ¬ (k' = k ∧ s = 6) → gR τ k' s = gR σ k' s) := by
  have h' : isSt (sI (sR (sI (sI (sI σ k 3 1) k 4 0) k 5 0) k 6 none) k 7 0) k := h
  obtain ⟨τ, e, q1, q2, q3, q4, q5, q6⟩ := T210 h' (show 0 < 4 by decide)
  have e : MM 210 [mR (some k), mI 0] (sI (sR (sI (sI (sI σ k 3 1) k 4 0) k 5 0) k 6 none) k 7 0) = some (none, τ) := e
  have hτ : isSt τ k := st_r q3 h'
  have g3 : gI τ k 3 = 1 := by rw [q1, gI_sI, if_neg (by omega), gI_sR, gI_sI, if_neg (by omega), gI_sI, if_neg (by omega), gI_sI, if_pos ⟨rfl, rfl⟩]
  have g4 : gI τ k 4 = 0 := by rw [q1, gI_sI, if_neg (by omega), gI_sR, gI_sI, if_neg (by omega), gI_sI, if_pos ⟨rfl, rfl⟩]
  have g5 : gI τ k 5 = 0 := by rw [q1, gI_sI, if_neg (by omega), gI_sR, gI_sI, if_pos ⟨rfl, rfl⟩]
  have g7 : gI τ k 7 = 0 := by rw [q1, gI_sI, if_pos ⟨rfl, rfl⟩]
  have gr : ∀ k' s, gR τ k' s = if k' = k ∧ s = 6 then none else gR σ k' s := fun k' s => by
    show τ.2.2.1 k' s = _
    rw [q3]
    rfl
  have t12 : MM 212 [mR (some k), mI 1] τ = some (some (mI ((11 : Nat) : Int)), τ) := T212 (S := S0J) (r := 1) hτ g3 ⟨by decide, by decide⟩ (by decide)
  simp only [M209, e209_0, e209_15, e209_30, e209_39, Option.getD_some, Option.bind_some, Option.toList_some, Option.toList_none, List.cons_append, List.nil_append, and_self, and_true, true_and, false_and, and_false, ite_self, not_true_eq_false, not_false_eq_true, reduceIte, Nat.reduceEqDiff, ab_I, ab_L, ab_R, ao_I, ao_L, ao_R, gL_sL, gI_sI, gR_sR, gI_sL, gI_sR, gL_sI, gL_sR, gR_sI, gR_sL, aoS h, ak_n, e, aoS hτ, t12, abS hτ, Int.natCast_nonneg, show ((11 : Nat) : Int) < 1188 from by decide, Int.toNat_natCast]
  refine okc_s ⟨⟨⟨g3, g4⟩, fun f r hf hr i hi => ?_, fun f hf i hi => ?_, fun f q hf hq i hi => ?_, fun f f1 f2 => ?_, fun j hj => absurd hj (Nat.not_lt_zero _)⟩, ⟨g5, g7, ?_⟩, fun k' s q => ?_, fun k' s q => ?_, fun k' s q => ?_⟩
  · have hf : f < 1 := hf
    have f0 : f = 0 := by omega
    subst f0
    show _ = enV (if 26 * 0 + r = 1 then mkV 2 0 0 else unsV) i
    rw [gL_sL]
    by_cases r1 : r = 1
    · subst r1
      rw [if_pos rfl]
      by_cases i0 : i = 0
      · subst i0
        rw [if_pos ⟨rfl, rfl⟩]
        rfl
      · have z := q4 1 (by decide) i hi
        rw [en_0] at z
        rw [if_neg (by omega), z]
        unfold enV
        rw [if_neg i0]
        repeat' split
        all_goals rfl
    · rw [if_neg (by omega), if_neg (by omega)]
      exact q4 r hr i hi
  · have hf : f < 1 := hf
    have f0 : f = 0 := by omega
    subst f0
    rw [gL_sL, if_neg (by omega)]
    exact q5 i hi
  · have hf : f < 1 := hf
    have f0 : f = 0 := by omega
    subst f0
    show _ = enV (if 26 * 0 + 10 + q = 1 then mkV 2 0 0 else unsV) i
    rw [gL_sL, if_neg (by omega), if_neg (by omega)]
    exact q6 q hq i hi
  · have f2 : f < 1 := f2
    exfalso
    omega
  · show gR τ k 6 = none
    rw [gr, if_pos ⟨rfl, rfl⟩]
  · rw [gI_sL, q1, gI_sI, if_neg (by omega), gI_sR, gI_sI, if_neg (by omega), gI_sI, if_neg (by omega), gI_sI, if_neg (by omega)]
  · rw [gL_sL, if_neg (by omega), q2 _ _ (by omega)]
    rfl
  · show gR τ k' s = gR σ k' s
    rw [gr, if_neg q]
end CST4
