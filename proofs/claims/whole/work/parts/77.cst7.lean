/-! ===== the class's states: a FUNCTION is entered, left ===== -/
section CST7
variable {σ τ : MS} {k r : Nat} {S : ST} {g : Int}
/-- what FUNCTION makes of a state -/
def entST (S : ST) (g : Int) : ST := (sF S + 1, (fun j => if 26 * sF S + 1 ≤ j ∧ j ≤ 26 * sF S + 5 then sV S (j - 26) else clrF S (sF S) j), (fun f => if f = sF S then g else sB S f), sH S)
theorem T219 (h : isSt σ k) (hF : 1 ≤ sF S ∧ sF S ≤ 3) (hS : CSt σ k S) : okc (MM 219 [mR (some k), mI g] σ) none (fun τ => CSt τ k (entST S g) ∧ (∀ k' s, ¬ (k' = k ∧ s = 3) → ¬ k' = k + 1 + 1 → gI τ k' s = gI σ k' s) ∧ (∀ k' s, ¬ k' = k + 1 + 0 → gL τ k' s = gL σ k' s) ∧ τ.2.2 = σ.2.2) := by
  obtain ⟨⟨f3, f4⟩, v1, v2, v3, v4, v5⟩ := hS
  have h' : isSt (sI σ (k + 1 + 1) (sF S) g) k := h
  obtain ⟨τ1, e, q1, q2, q3, q4, q5, q6⟩ := T210 (f := sF S) h' (by omega)
  have hτ := st_r q3 h'
  have g3 : gI τ1 k 3 = (sF S : Int) := by rw [q1, gI_sI, if_neg (by omega), f3]
  have b3 : (sF S : Int) < 4 := by omega
  have w1 : w32 ((sF S : Int) - 1) = ((sF S - 1 : Nat) : Int) := by
    rw [w32_i (by omega) (by omega)]
    omega
  have w2 : w32 (((sF S - 1 : Nat) : Int) * 297) = ((297 * (sF S - 1) : Nat) : Int) := by
    clear w1
    rw [w32_i (by omega) (by omega)]
    omega
  have w3 : w32 (((297 * (sF S - 1) : Nat) : Int) + 11) = ((297 * (sF S - 1) + 11 : Nat) : Int) := by
    clear w1 w2
    rw [w32_i (by omega) (by omega)]
    omega
  have w4 : w32 (((297 * (sF S - 1) : Nat) : Int) + 297) = ((297 * sF S : Nat) : Int) := by
    clear w1 w2 w3
    rw [w32_i (by omega) (by omega)]
    omega
  have w5 : w32 (((297 * sF S : Nat) : Int) + 11) = ((297 * sF S + 11 : Nat) : Int) := by
    clear w1 w2 w3 w4
    rw [w32_i (by omega) (by omega)]
    omega
  have w6 := w32_s (m := sF S) (by clear w1 w2 w3 w4 w5; omega)
  have c4 : ac τ1 4 (k + 1 + 0) (k + 1 + 0) ((297 * (sF S - 1) + 11 : Nat) : Int) ((297 * sF S + 11 : Nat) : Int) 55 := by
    clear w1 w2 w3 w4 w5 w6
    unfold ac
    rw [hτ.2.1]
    exact ⟨⟨rfl, rfl⟩, ⟨by omega, by omega, by omega⟩, by show _ ≤ ((1188 : Nat) : Int); omega, by show _ ≤ ((1188 : Nat) : Int); omega⟩
  have ef : MM 219 [mR (some k), mI g] σ = some (none, sI (cpL τ1 (k + 1 + 0) ((297 * (sF S - 1) + 11 : Nat) : Int) (k + 1 + 0) ((297 * sF S + 11 : Nat) : Int) 55) k 3 ((sF S + 1 : Nat) : Int)) := by
    have g3c : gI (cpL τ1 (k + 1 + 0) ((297 * (sF S - 1) + 11 : Nat) : Int) (k + 1 + 0) ((297 * sF S + 11 : Nat) : Int) 55) k 3 = (sF S : Int) := g3
    have kne : (k = k + 1 + 1) = False := eq_false (by clear w1 w2 w3 w4 w5 w6; omega)
    have ab3 : ab σ 3 (k + 1 + 1) (sF S : Int) = True := eq_true ((abB h (i := (sF S : Int))).mpr ⟨Int.natCast_nonneg _, b3⟩).2
    simp only [M219, e219_0, e219_18, Option.getD_some, Option.bind_some, Option.toList_some, Option.toList_none, List.cons_append, List.nil_append, and_self, and_true, true_and, false_and, and_false, ite_self, not_true_eq_false, not_false_eq_true, reduceIte, Nat.reduceEqDiff, ab_I, ab_L, ab_R, ao_I, ao_L, ao_R, gL_sL, gI_sI, gR_sR, gI_sL, gI_sR, gL_sI, gL_sR, gR_sI, gR_sL, aoS h, ab3, kne, f3, Int.natCast_nonneg, Int.toNat_natCast, e, aoS hτ, g3, w1, w2, w3, w4, w5, Option.isSome_some, eq_true c4, g3c, w6]
  clear w1 w2 w3 w4 w5 w6
  have gc : ∀ k' s, gL (cpL τ1 (k + 1 + 0) ((297 * (sF S - 1) + 11 : Nat) : Int) (k + 1 + 0) ((297 * sF S + 11 : Nat) : Int) 55) k' s = if k' = k + 1 + 0 ∧ 297 * sF S + 11 ≤ s ∧ s < 297 * sF S + 66 then gL τ1 (k + 1 + 0) (s - 297) else gL τ1 k' s := fun k' s => by
    show (if k' = k + 1 + 0 ∧ ((297 * sF S + 11 : Nat) : Int) ≤ (s : Int) ∧ (s : Int) < ((297 * sF S + 11 : Nat) : Int) + 55 then gL τ1 (k + 1 + 0) (((s : Int) - ((297 * sF S + 11 : Nat) : Int) + ((297 * (sF S - 1) + 11 : Nat) : Int)).toNat) else gL τ1 k' s) = _
    by_cases c : k' = k + 1 + 0 ∧ 297 * sF S + 11 ≤ s ∧ s < 297 * sF S + 66
    · rw [if_pos c, if_pos ⟨c.1, by omega, by omega⟩, show ((s : Int) - ((297 * sF S + 11 : Nat) : Int) + ((297 * (sF S - 1) + 11 : Nat) : Int)).toNat = s - 297 by omega]
    · rw [if_neg c, if_neg (fun z => c ⟨z.1, by omega, by omega⟩)]
  -- old places of the row
  have old : ∀ pl v, pl + 11 ≤ 297 * sF S → cAt σ k pl v → ∀ i, i < 11 → gL (cpL τ1 (k + 1 + 0) ((297 * (sF S - 1) + 11 : Nat) : Int) (k + 1 + 0) ((297 * sF S + 11 : Nat) : Int) 55) (k + 1 + 0) (pl + i) = enV v i := fun pl v hp hv i hi => by
    rw [gc, if_neg (by omega), q2 _ _ (by omega)]
    exact hv i hi
  have new : ∀ pl v, (pl + 11 ≤ 297 * sF S + 11 ∨ 297 * sF S + 66 ≤ pl) → cAt τ1 k pl v → ∀ i, i < 11 → gL (cpL τ1 (k + 1 + 0) ((297 * (sF S - 1) + 11 : Nat) : Int) (k + 1 + 0) ((297 * sF S + 11 : Nat) : Int) 55) (k + 1 + 0) (pl + i) = enV v i := fun pl v hp hv i hi => by
    rw [gc, if_neg (by omega)]
    exact hv i hi
  refine okc_o ef ⟨⟨⟨?_, ?_⟩, fun f r hf hr i hi => ?_, fun f hf i hi => ?_, fun f q hf hq i hi => ?_, fun f h1 h2 => ?_, fun j hj => ?_⟩, fun k' s p1 p2 => ?_, fun k' s p => ?_, q3⟩
  · rw [gI_sI, if_pos ⟨rfl, rfl⟩]
    rfl
  · rw [gI_sI, if_neg (by omega)]
    show gI τ1 k 4 = _
    rw [q1, gI_sI, if_neg (by omega)]
    exact f4
  · have hf : f < sF S + 1 := hf
    show gL (cpL τ1 (k + 1 + 0) ((297 * (sF S - 1) + 11 : Nat) : Int) (k + 1 + 0) ((297 * sF S + 11 : Nat) : Int) 55) (k + 1 + 0) (297 * f + 11 * r + i) = enV (if 26 * sF S + 1 ≤ 26 * f + r ∧ 26 * f + r ≤ 26 * sF S + 5 then sV S (26 * f + r - 26) else if 26 * sF S ≤ 26 * f + r ∧ 26 * f + r < 26 * sF S + 26 then unsV else sV S (26 * f + r)) i
    by_cases ef' : f = sF S
    · by_cases r5 : 1 ≤ r ∧ r ≤ 5
      · rw [if_pos (by omega), gc, if_pos ⟨rfl, by omega, by omega⟩, show 297 * f + 11 * r + i - 297 = 297 * (sF S - 1) + 11 * r + i by omega, show 26 * f + r - 26 = 26 * (sF S - 1) + r by omega, q2 _ _ (by omega)]
        exact v1 (sF S - 1) r (by omega) hr i hi
      · rw [if_neg (by omega), if_pos (by omega), ef']
        exact new _ _ (by omega) (q4 r hr) i hi
    · rw [if_neg (by omega), if_neg (by omega)]
      exact old _ _ (by omega) (v1 f r (by omega) hr) i hi
  · have hf : f < sF S + 1 := hf
    show gL (cpL τ1 (k + 1 + 0) ((297 * (sF S - 1) + 11 : Nat) : Int) (k + 1 + 0) ((297 * sF S + 11 : Nat) : Int) 55) (k + 1 + 0) (297 * f + 110 + i) = _
    by_cases ef' : f = sF S
    · rw [ef']
      exact new _ _ (by omega) q5 i hi
    · exact old _ _ (by omega) (v2 f (by omega)) i hi
  · have hf : f < sF S + 1 := hf
    show gL (cpL τ1 (k + 1 + 0) ((297 * (sF S - 1) + 11 : Nat) : Int) (k + 1 + 0) ((297 * sF S + 11 : Nat) : Int) 55) (k + 1 + 0) (297 * f + 121 + 11 * q + i) = enV (if 26 * sF S + 1 ≤ 26 * f + 10 + q ∧ 26 * f + 10 + q ≤ 26 * sF S + 5 then sV S (26 * f + 10 + q - 26) else if 26 * sF S ≤ 26 * f + 10 + q ∧ 26 * f + 10 + q < 26 * sF S + 26 then unsV else sV S (26 * f + 10 + q)) i
    by_cases ef' : f = sF S
    · rw [if_neg (by omega), if_pos (by omega), ef']
      exact new _ _ (by omega) (q6 q hq) i hi
    · rw [if_neg (by omega), if_neg (by omega)]
      exact old _ _ (by omega) (v3 f q (by omega) hq) i hi
  · have h2 : f < sF S + 1 := h2
    rw [gI_sI, if_neg (by omega)]
    show gI τ1 (k + 1 + 1) f = if f = sF S then g else sB S f
    rw [q1, gI_sI]
    by_cases e : f = sF S
    · rw [if_pos ⟨rfl, e⟩, if_pos e]
    · rw [if_neg (fun z => e z.2), if_neg e]
      exact v4 f h1 (by omega)
  · rw [gI_sI, if_neg (by omega)]
    show gI τ1 (k + 1 + 2) j = _
    rw [q1, gI_sI, if_neg (by omega)]
    exact v5 j hj
  · rw [gI_sI, if_neg p1]
    show gI τ1 k' s = _
    rw [q1, gI_sI, if_neg (fun z => p2 z.1)]
  · rw [gL_sI, gc, if_neg (fun z => p z.1), q2 _ _ (fun z => p z.1), gL_sI]
end CST7
