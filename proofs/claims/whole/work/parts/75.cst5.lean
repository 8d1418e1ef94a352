/-! ===== the class's states: a copy ===== -/
section CST5
variable {σ τ : MS} {k j : Nat} {S : ST}
theorem cpL_g {k0 k1 : Nat} {n : Int} {k' s : Nat} : gL (cpL σ k0 0 k1 0 n) k' s = if k' = k1 ∧ (s : Int) < n then gL σ k0 s else gL σ k' s := by
  show (if k' = k1 ∧ (0 : Int) ≤ (s : Int) ∧ (s : Int) < 0 + n then gL σ k0 ((s : Int) - 0 + 0).toNat else gL σ k' s) = _
  rw [show ((s : Int) - 0 + 0).toNat = s by omega]
  by_cases c : k' = k1 ∧ (s : Int) < n
  · rw [if_pos c, if_pos ⟨c.1, by omega, by omega⟩]
  · rw [if_neg c, if_neg (fun z => c ⟨z.1, by omega⟩)]
theorem cpI_g {k0 k1 : Nat} {n : Int} {k' s : Nat} : gI (cpI σ k0 0 k1 0 n) k' s = if k' = k1 ∧ (s : Int) < n then gI σ k0 s else gI σ k' s := by
  show (if k' = k1 ∧ (0 : Int) ≤ (s : Int) ∧ (s : Int) < 0 + n then gI σ k0 ((s : Int) - 0 + 0).toNat else gI σ k' s) = _
  rw [show ((s : Int) - 0 + 0).toNat = s by omega]
  by_cases c : k' = k1 ∧ (s : Int) < n
  · rw [if_pos c, if_pos ⟨c.1, by omega, by omega⟩]
  · rw [if_neg c, if_neg (fun z => c ⟨z.1, by omega⟩)]
theorem T211 (hk : isSt σ k) (hj : isSt σ j) (hd : k + 3 < j ∨ j + 3 < k) (hS : CSt σ j S) (hF : 1 ≤ sF S ∧ sF S ≤ 4) (hH : (sH S).length ≤ 64) (hl : ak σ 2 (gR σ j 6)) : okc (MM 211 [mR (some k), mR (some j)] σ) none (fun τ => CSt τ k S ∧ (gI τ k 5 = gI σ j 5 ∧ gI τ k 7 = gI σ j 7 ∧ gR τ k 6 = gR σ j 6) ∧ (∀ k' s, ¬ (k ≤ k' ∧ k' ≤ k + 3) → gI τ k' s = gI σ k' s) ∧ (∀ k' s, ¬ k' = k + 1 + 0 → gL τ k' s = gL σ k' s) ∧ (∀ k' s, ¬ (k' = k ∧ s = 6) → gR τ k' s = gR σ k' s) ∧ τ.2.2.2 = σ.2.2.2) := by
  obtain ⟨⟨f3, f4⟩, v1, v2, v3, v4, v5⟩ := hS
  have ne : ¬ j = k := by omega
  obtain ⟨σ1, e1⟩ : ∃ σ1, σ1 = sI (sR (sI (sI (sI σ k 3 (sF S : Int)) k 4 ((sH S).length : Int)) k 5 (gI σ j 5)) k 6 (gR σ j 6)) k 7 (gI σ j 7) := ⟨_, rfl⟩
  have hk1 : isSt σ1 k := by rw [e1]; exact hk
  have hj1 : isSt σ1 j := by rw [e1]; exact hj
  have wF : w32 ((sF S : Int) * 297) = ((297 * sF S : Nat) : Int) := by
    rw [w32_i (by omega) (by omega)]
    omega
  have c4 : ac σ1 4 (j + 1 + 0) (k + 1 + 0) 0 0 ((297 * sF S : Nat) : Int) := by
    clear wF
    unfold ac
    rw [hj1.2.1, hk1.2.1]
    refine ⟨⟨rfl, rfl⟩, ⟨by omega, by omega, by omega⟩, ?_, ?_⟩
    · show _ ≤ ((1188 : Nat) : Int); omega
    · show _ ≤ ((1188 : Nat) : Int); omega
  have hl1 : ak (sI (sI (sI σ k 3 (sF S : Int)) k 4 ((sH S).length : Int)) k 5 (gI σ j 5)) 2 (gR σ j 6) := hl
  have aok : ∀ x y z : Int, ao (sI (sI (sI σ k 3 x) k 4 y) k 5 z) 8 (some k) = True := fun x y z => aoS (σ := sI (sI (sI σ k 3 x) k 4 y) k 5 z) hk
  have s61 : MM 211 [mR (some k), mR (some j)] σ = RR (lkB tb211) (B211_61, [some (mR (some k)), some (mR (some j))], [], cpL σ1 (j + 1 + 0) 0 (k + 1 + 0) 0 ((297 * sF S : Nat) : Int)) := by
    rw [e1] at c4 ⊢
    simp only [M211, e211_0, e211_24, Option.getD_some, Option.bind_some, Option.toList_some, Option.toList_none, List.cons_append, List.nil_append, and_self, and_true, true_and, false_and, and_false, ite_self, not_true_eq_false, not_false_eq_true, reduceIte, Nat.reduceEqDiff, ab_I, ab_L, ab_R, ao_I, ao_L, ao_R, gL_sL, gI_sI, gR_sR, gI_sL, gI_sR, gL_sI, gL_sR, gR_sI, gR_sL, aoS hk, aoS hj, f3, f4, ne, eq_true hl1, Option.isSome_some, wF]
    exact if_pos c4
  rw [s61]
  clear s61 wF c4
  have r31 : σ1.2.2.2 = σ.2.2.2 := by rw [e1]; rfl
  have gI1 : ∀ k' s, gI σ1 k' s = if k' = k ∧ s = 7 then gI σ j 7 else if k' = k ∧ s = 5 then gI σ j 5 else if k' = k ∧ s = 4 then ((sH S).length : Int) else if k' = k ∧ s = 3 then (sF S : Int) else gI σ k' s := fun k' s => by
    rw [e1, gI_sI, gI_sR, gI_sI, gI_sI, gI_sI]
  have gL1 : ∀ k' s, gL σ1 k' s = gL σ k' s := fun k' s => by rw [e1]; rfl
  have gR1 : ∀ k' s, gR σ1 k' s = if k' = k ∧ s = 6 then gR σ j 6 else gR σ k' s := fun k' s => by rw [e1]; rfl
  obtain ⟨σ2, e2⟩ : ∃ σ2, σ2 = cpL σ1 (j + 1 + 0) 0 (k + 1 + 0) 0 ((297 * sF S : Nat) : Int) := ⟨_, rfl⟩
  have r2 : σ2.2.2 = σ1.2.2 := by rw [e2]; rfl
  have hk2 := st_r r2 hk1
  have hj2 := st_r r2 hj1
  have gI2 : ∀ k' s, gI σ2 k' s = gI σ1 k' s := fun k' s => by rw [e2]; rfl
  have gL2 : ∀ k' s, gL σ2 k' s = if k' = k + 1 + 0 ∧ (s : Int) < ((297 * sF S : Nat) : Int) then gL σ1 (j + 1 + 0) s else gL σ1 k' s := fun k' s => by rw [e2, cpL_g]
  have gR2 : ∀ k' s, gR σ2 k' s = gR σ1 k' s := fun k' s => by rw [e2]; rfl
  rw [← e2]
  clear e2 e1
  have c3 : ac σ2 3 (j + 1 + 1) (k + 1 + 1) 0 0 4 := by
    unfold ac
    rw [hj2.2.2.1, hk2.2.2.1]
    exact ⟨⟨rfl, rfl⟩, ⟨by omega, by omega, by omega⟩, by show _ ≤ ((4 : Nat) : Int); omega, by show _ ≤ ((4 : Nat) : Int); omega⟩
  have gj4 : gI (cpI σ2 (j + 1 + 1) 0 (k + 1 + 1) 0 4) j 4 = ((sH S).length : Int) := by
    rw [cpI_g, if_neg (by omega), gI2, gI1, if_neg (by omega), if_neg (by omega), if_neg (by omega), if_neg (by omega), f4]
  have ch : ac σ2 3 (j + 1 + 2) (k + 1 + 2) 0 0 ((sH S).length : Int) := by
    unfold ac
    rw [hj2.2.2.2, hk2.2.2.2]
    exact ⟨⟨rfl, rfl⟩, ⟨by omega, by omega, by omega⟩, by show _ ≤ ((64 : Nat) : Int); omega, by show _ ≤ ((64 : Nat) : Int); omega⟩
  have e : RR (lkB tb211) (B211_61, [some (mR (some k)), some (mR (some j))], [], σ2) = some (none, cpI (cpI σ2 (j + 1 + 1) 0 (k + 1 + 1) 0 4) (j + 1 + 2) 0 (k + 1 + 2) 0 ((sH S).length : Int)) := by
    simp only [e211_61, Option.getD_some, Option.bind_some, Option.toList_some, Option.toList_none, List.cons_append, List.nil_append, and_self, and_true, true_and, false_and, and_false, ite_self, not_true_eq_false, not_false_eq_true, reduceIte, Nat.reduceEqDiff, ab_I, ab_L, ab_R, ao_I, ao_L, ao_R, gL_sL, gI_sI, gR_sR, gI_sL, gI_sR, gL_sI, gL_sR, gR_sI, gR_sL, aoS hk2, aoS hj2, Option.isSome_some, eq_true c3, gj4, eq_true ch]
  have gIe : ∀ k' s, gI (cpI (cpI σ2 (j + 1 + 1) 0 (k + 1 + 1) 0 4) (j + 1 + 2) 0 (k + 1 + 2) 0 ((sH S).length : Int)) k' s = if k' = k + 1 + 2 ∧ (s : Int) < ((sH S).length : Int) then gI σ (j + 1 + 2) s else if k' = k + 1 + 1 ∧ (s : Int) < 4 then gI σ (j + 1 + 1) s else gI σ1 k' s := fun k' s => by
    rw [cpI_g, cpI_g, cpI_g]
    by_cases c : k' = k + 1 + 2 ∧ (s : Int) < ((sH S).length : Int)
    · rw [if_pos c, if_pos c, if_neg (by omega), gI2, gI1, if_neg (by omega), if_neg (by omega), if_neg (by omega), if_neg (by omega)]
    · rw [if_neg c, if_neg c]
      by_cases d : k' = k + 1 + 1 ∧ (s : Int) < 4
      · rw [if_pos d, if_pos d, gI2, gI1, if_neg (by omega), if_neg (by omega), if_neg (by omega), if_neg (by omega)]
      · rw [if_neg d, if_neg d, gI2]
  have at' : ∀ pl v, pl + 11 ≤ 297 * sF S → cAt σ j pl v → cAt (cpI (cpI σ2 (j + 1 + 1) 0 (k + 1 + 1) 0 4) (j + 1 + 2) 0 (k + 1 + 2) 0 ((sH S).length : Int)) k pl v := fun pl v hp hv i hi => by
    show gL σ2 (k + 1 + 0) (pl + i) = _
    rw [gL2, if_pos ⟨rfl, by omega⟩, gL1]
    exact hv i hi
  rw [e]
  refine okc_s ⟨⟨⟨?_, ?_⟩, fun f r hf hr => at' _ _ (by omega) (v1 f r hf hr), fun f hf => at' _ _ (by omega) (v2 f hf), fun f q hf hq => at' _ _ (by omega) (v3 f q hf hq), fun f h1 h2 => ?_, fun i hi => ?_⟩, ⟨?_, ?_, ?_⟩, fun k' s q => ?_, fun k' s q => ?_, fun k' s q => ?_, (show σ2.2.2.2 = σ.2.2.2 by rw [r2]; exact r31)⟩
  · rw [gIe, if_neg (by omega), if_neg (by omega), gI1, if_neg (by omega), if_neg (by omega), if_neg (by omega), if_pos ⟨rfl, rfl⟩]
  · rw [gIe, if_neg (by omega), if_neg (by omega), gI1, if_neg (by omega), if_neg (by omega), if_pos ⟨rfl, rfl⟩]
  · rw [gIe, if_neg (by omega), if_pos ⟨rfl, by omega⟩]
    exact v4 f h1 h2
  · rw [gIe, if_pos ⟨rfl, by omega⟩]
    exact v5 i hi
  · rw [gIe, if_neg (by omega), if_neg (by omega), gI1, if_neg (by omega), if_pos ⟨rfl, rfl⟩]
  · rw [gIe, if_neg (by omega), if_neg (by omega), gI1, if_pos ⟨rfl, rfl⟩]
  · show gR σ2 k 6 = _
    rw [gR2, gR1, if_pos ⟨rfl, rfl⟩]
  · rw [gIe, if_neg (by omega), if_neg (by omega), gI1, if_neg (by omega), if_neg (by omega), if_neg (by omega), if_neg (by omega)]
  · show gL σ2 k' s = _
    rw [gL2, if_neg (fun z => q z.1), gL1]
  · show gR σ2 k' s = _
    rw [gR2, gR1, if_neg q]
end CST5
