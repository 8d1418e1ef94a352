/-! ===== the class's states: a frame is cleared ===== -/
/-- frame f of the state at cell k is empty -/
def cFr (σ : MS) (k f : Nat) : Prop := (∀ r, r < 10 → cAt σ k (297 * f + 11 * r) unsV) ∧ cAt σ k (297 * f + 110) (mkV 3 (f : Int) 0) ∧ ∀ q, q < 16 → cAt σ k (297 * f + 121 + 11 * q) unsV
section CST3
variable {σ τ : MS} {k f : Nat}
theorem T210 (h : isSt σ k) (hf : f < 4) : okc (MM 210 [mR (some k), mI (f : Int)] σ) none (fun τ => (∀ k' s, gI τ k' s = gI σ k' s) ∧ (∀ k' s, ¬ (k' = k + 1 + 0 ∧ 297 * f ≤ s ∧ s < 297 * f + 297) → gL τ k' s = gL σ k' s) ∧ τ.2.2 = σ.2.2 ∧ cFr τ k f) := by
  have t := T580 (v := 0#64) (a := 297 * f) (n := 297) h.2.1 (by decide) (by omega)
  have hτ : isSt (flL σ (k + 1 + 0) (297 * f) 0#64 297) k := st_r (fl_r 297) h
  have b1 : ((297 * f + 110 : Nat) : Int) < 1188 := by omega
  have b2' : ((297 * f + 118 : Nat) : Int) < 1188 := by omega
  have w0 : w32 ((f : Int) * 297) = ((297 * f : Nat) : Int) := by
    rw [w32_i (by omega) (by omega)]
    omega
  have w1 : w32 (w32 ((f : Int) + 1) * 297) = ((297 * f + 297 : Nat) : Int) := by
    clear w0
    rw [w32_i (x := (f : Int) + 1) (by omega) (by omega), w32_i (by omega) (by omega)]
    omega
  have w2 : w32 (((297 * f : Nat) : Int) + 110) = ((297 * f + 110 : Nat) : Int) := by
    clear w0 w1
    rw [w32_i (by omega) (by omega)]
    omega
  have w3 : w32 (((297 * f + 110 : Nat) : Int) + 8) = ((297 * f + 118 : Nat) : Int) := by
    clear w0 w1 w2
    rw [w32_i (by omega) (by omega)]
    omega
  simp only [M210, e210_0, e210_20, Option.getD_some, Option.bind_some, Option.toList_some, Option.toList_none, List.cons_append, List.nil_append, and_self, and_true, true_and, false_and, and_false, ite_self, not_true_eq_false, not_false_eq_true, reduceIte, Nat.reduceEqDiff, ab_I, ab_L, ab_R, ao_I, ao_L, ao_R, gL_sL, gI_sI, gR_sR, gI_sL, gI_sR, gL_sI, gL_sR, gR_sI, gR_sL, aoS h, w0, w1, t, aoS hτ, abS hτ, w2, w3, Int.natCast_nonneg, b1, b2', Int.toNat_natCast]
  clear w0 w1 w2 w3 t b1 b2'
  have rd : ∀ s, 297 * f ≤ s → s < 297 * f + 297 → gL (sL (sL (flL σ (k + 1 + 0) (297 * f) 0#64 297) (k + 1 + 0) (297 * f + 110) (iL 3)) (k + 1 + 0) (297 * f + 118) (iL (f : Int))) (k + 1 + 0) s = if s = 297 * f + 118 then iL (f : Int) else if s = 297 * f + 110 then iL 3 else 0#64 := fun s h1 h2 => by
    rw [gL_sL, gL_sL]
    by_cases e1 : s = 297 * f + 118
    · rw [if_pos ⟨rfl, e1⟩, if_pos e1]
    · rw [if_neg (fun z => e1 z.2), if_neg e1]
      by_cases e2 : s = 297 * f + 110
      · rw [if_pos ⟨rfl, e2⟩, if_pos e2]
      · rw [if_neg (fun z => e2 z.2), if_neg e2]
        exact fl_v 297 h1 h2
  have r2 : (flL σ (k + 1 + 0) (297 * f) 0#64 297).2.2 = σ.2.2 := fl_r 297
  have gi : ∀ k' s, gI (flL σ (k + 1 + 0) (297 * f) 0#64 297) k' s = gI σ k' s := fun k' s => fl_I 297
  have go : ∀ k' s, ¬ (k' = k + 1 + 0 ∧ 297 * f ≤ s ∧ s < 297 * f + 297) → gL (flL σ (k + 1 + 0) (297 * f) 0#64 297) k' s = gL σ k' s := fun k' s q => fl_o2 297 q
  generalize flL σ (k + 1 + 0) (297 * f) 0#64 297 = ρ at *
  refine okc_s ⟨fun k' s => by rw [gI_sL, gI_sL, gi], fun k' s q => ?_, r2, fun r hr i hi => ?_, fun i hi => ?_, fun q hq i hi => ?_⟩
  · rw [gL_sL, if_neg (by omega), gL_sL, if_neg (by omega)]
    exact go k' s q
  · rw [rd _ (by omega) (by omega), if_neg (by omega), if_neg (by omega), en_0]
  · rw [rd _ (by omega) (by omega)]
    by_cases i0 : i = 0
    · subst i0
      rw [if_neg (by omega), if_pos (by omega)]
      rfl
    · by_cases i8 : i = 8
      · subst i8
        rw [if_pos (by omega)]
        rfl
      · rw [if_neg (by omega), if_neg (by omega)]
        unfold enV
        rw [if_neg i0, if_neg i8]
        repeat' split
        all_goals rfl
  · rw [rd _ (by omega) (by omega), if_neg (by omega), if_neg (by omega), en_0]
end CST3
