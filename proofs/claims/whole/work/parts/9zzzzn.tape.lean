/-! ===== the tape: feed, cut, load ===== -/
/-- byte j of a number, the highest first -/
def fdB (x : Int) (j : Nat) : Int := w8 (w8 (iShr x (24 - 8 * (j : Int))))
/-- five numbers behind each other -/
def fd5 (a b c d e : Int) (j : Nat) : Int := fdB (if j < 4 then a else if j < 8 then b else if j < 12 then c else if j < 16 then d else e) (j % 4)
section TAPE
variable {σ τ ρ : MS} {x a b c d e y : Int} {n j k s : Nat}
theorem L292 : ∀ (f j : Nat) (σ : MS), j + f = 4 → gI σ 0 1 = ((n + j : Nat) : Int) → n + 4 ≤ 4000 → ∃ τ, RR (lkB tb292) (B292_3, [some (mR (some 0)), some (mI x), some (mI (24 - 8 * (j : Int)))], [], σ) = some (none, τ) ∧ τ.2 = σ.2 ∧ ∀ k s, gI τ k s = if k = 0 ∧ s = 1 then ((n + 4 : Nat) : Int) else if k = 1 ∧ n + j ≤ s ∧ s < n + 4 then fdB x (s - n) else gI σ k s := by
  intro f
  induction f with
  | zero =>
    intro j σ hj h1 hn
    have ej : j = 4 := by omega
    subst ej
    rw [e292_3, if_pos (by omega)]
    refine ⟨σ, rfl, rfl, fun k s => ?_⟩
    by_cases z : k = 0 ∧ s = 1
    · rw [if_pos z, z.1, z.2, h1]
    · rw [if_neg z, if_neg (by omega)]
  | succ f ih =>
    intro j σ hj h1 hn
    have e1 : w32 (24 - 8 * (j : Int) + (-8)) = 24 - 8 * ((j + 1 : Nat) : Int) := by
      rw [w32_i (by omega) (by omega)]
      omega
    have b1 : 0 ≤ gI σ 0 1 ∧ gI σ 0 1 < 4000 := by omega
    have b2 : ¬ (24 - 8 * (j : Int) < 0) := by omega
    have e2 : w32 (gI σ 0 1 + 1) = ((n + (j + 1) : Nat) : Int) := by
      rw [h1, w32_i (by omega) (by omega)]
      omega
    have e3 : Int.toNat (gI σ 0 1) = n + j := by omega
    rw [e292_3, if_neg b2, if_pos (by rw [g_1]; exact b1), e1, gI_sI, if_neg (show ¬ (0 = 1 ∧ 1 = Int.toNat (gI σ 0 1)) by omega), e2, e3]
    obtain ⟨τ, t1, t2, t3⟩ := ih (j + 1) (sI (sI σ 1 (n + j) (w8 (w8 (iShr x (24 - 8 * (j : Int)))))) 0 1 ((n + (j + 1) : Nat) : Int)) (by omega) (by rw [gI_sI, if_pos ⟨rfl, rfl⟩]) hn
    refine ⟨τ, t1, t2, fun k s => ?_⟩
    rw [t3]
    by_cases z : k = 0 ∧ s = 1
    · rw [if_pos z, if_pos z]
    · rw [if_neg z, if_neg z, gI_sI, if_neg z, gI_sI]
      by_cases z1 : k = 1 ∧ s = n + j
      · rw [if_neg (by omega), if_pos z1, if_pos (by omega), z1.2, show n + j - n = j by omega]
        rfl
      · rw [if_neg z1]
        by_cases z2 : k = 1 ∧ n + (j + 1) ≤ s ∧ s < n + 4
        · rw [if_pos z2, if_pos (by omega)]
        · rw [if_neg z2, if_neg (by omega)]
theorem T292 (h1 : gI σ 0 1 = (n : Int)) (hn : n + 4 ≤ 4000) : ∃ τ, MM 292 [mR (some 0), mI x] σ = some (none, τ) ∧ τ.2 = σ.2 ∧ ∀ k s, gI τ k s = if k = 0 ∧ s = 1 then ((n + 4 : Nat) : Int) else if k = 1 ∧ n ≤ s ∧ s < n + 4 then fdB x (s - n) else gI σ k s := by
  rw [M292, e292_0]
  exact L292 (n := n) (x := x) 4 0 σ rfl (by rw [h1]; rfl) hn
theorem T291n (h1 : gI σ 0 1 = (n : Int)) (hn : 4000 < n + 20) (h4 : n ≤ 4000) : MM 291 [mR (some 0), mI a, mI b, mI c, mI d, mI e] σ = some (some (mI (-1)), σ) := by
  rw [M291, e291_0, h1, w32_i (by omega) (by omega), if_neg (by omega)]
/-- feed -/
theorem T291 (h1 : gI σ 0 1 = (n : Int)) (hn : n + 20 ≤ 4000) : ∃ τ, MM 291 [mR (some 0), mI a, mI b, mI c, mI d, mI e] σ = some (some (mI ((n + 20 : Nat) : Int)), τ) ∧ τ.2 = σ.2 ∧ ∀ k s, gI τ k s = if k = 0 ∧ s = 1 then ((n + 20 : Nat) : Int) else if k = 1 ∧ n ≤ s ∧ s < n + 20 then fd5 a b c d e (s - n) else gI σ k s := by
  obtain ⟨τ1, u1, v1, w1⟩ := T292 (x := a) h1 (by omega)
  have q1 : gI τ1 0 1 = ((n + 4 : Nat) : Int) := by rw [w1, if_pos ⟨rfl, rfl⟩]
  obtain ⟨τ2, u2', v2, w2⟩ := T292 (x := b) q1 (by omega)
  have q2 : gI τ2 0 1 = ((n + 4 + 4 : Nat) : Int) := by rw [w2, if_pos ⟨rfl, rfl⟩]
  obtain ⟨τ3, u3, v3, w3⟩ := T292 (x := c) q2 (by omega)
  have q3 : gI τ3 0 1 = ((n + 4 + 4 + 4 : Nat) : Int) := by rw [w3, if_pos ⟨rfl, rfl⟩]
  obtain ⟨τ4, u4, v4, w4⟩ := T292 (x := d) q3 (by omega)
  have q4 : gI τ4 0 1 = ((n + 4 + 4 + 4 + 4 : Nat) : Int) := by rw [w4, if_pos ⟨rfl, rfl⟩]
  obtain ⟨τ5, u5, v5, w5⟩ := T292 (x := e) q4 (by omega)
  have q5 : gI τ5 0 1 = ((n + 20 : Nat) : Int) := by rw [w5, if_pos ⟨rfl, rfl⟩]
  rw [M291, e291_0, h1, w32_i (by omega) (by omega), if_pos (show (n : Int) + 20 ≤ 4000 by omega), u1]
  simp only [Option.bind_some, Option.toList_some, Option.toList_none, List.cons_append, List.nil_append]
  rw [e291_20, u2']
  simp only [Option.bind_some, Option.toList_some, Option.toList_none, List.cons_append, List.nil_append]
  rw [e291_25, u3]
  simp only [Option.bind_some, Option.toList_some, Option.toList_none, List.cons_append, List.nil_append]
  rw [e291_30, u4]
  simp only [Option.bind_some, Option.toList_some, Option.toList_none, List.cons_append, List.nil_append]
  rw [e291_36, u5]
  simp only [Option.bind_some, Option.toList_some, Option.toList_none, List.cons_append, List.nil_append]
  rw [e291_42, q5]
  refine ⟨τ5, rfl, by rw [v5, v4, v3, v2, v1], fun k s => ?_⟩
  by_cases z : k = 0 ∧ s = 1
  · rw [if_pos z, z.1, z.2, q5]
  · rw [w5, if_neg z, if_neg z, w4, if_neg z, w3, if_neg z, w2, if_neg z, w1, if_neg z]
    by_cases zA : k = 1
    · by_cases r : n ≤ s ∧ s < n + 20
      · rw [if_pos (show k = 1 ∧ n ≤ s ∧ s < n + 20 from ⟨zA, r⟩)]
        unfold fd5
        by_cases r4 : s - n < 4
        · rw [if_neg (by omega), if_neg (by omega), if_neg (by omega), if_neg (by omega), if_pos (by omega), if_pos r4, show (s - n) % 4 = s - n by omega]
        · by_cases r8 : s - n < 8
          · rw [if_neg (by omega), if_neg (by omega), if_neg (by omega), if_pos (by omega), if_neg r4, if_pos r8, show (s - n) % 4 = s - (n + 4) by omega]
          · by_cases r12 : s - n < 12
            · rw [if_neg (by omega), if_neg (by omega), if_pos (by omega), if_neg r4, if_neg r8, if_pos r12, show (s - n) % 4 = s - (n + 4 + 4) by omega]
            · by_cases r16 : s - n < 16
              · rw [if_neg (by omega), if_pos (by omega), if_neg r4, if_neg r8, if_neg r12, if_pos r16, show (s - n) % 4 = s - (n + 4 + 4 + 4) by omega]
              · rw [if_pos (by omega), if_neg r4, if_neg r8, if_neg r12, if_neg r16, show (s - n) % 4 = s - (n + 4 + 4 + 4 + 4) by omega]
      · rw [if_neg (by omega), if_neg (by omega), if_neg (by omega), if_neg (by omega), if_neg (by omega), if_neg (by omega)]
    · rw [if_neg (by omega), if_neg (by omega), if_neg (by omega), if_neg (by omega), if_neg (by omega), if_neg (by omega)]
/-- cut -/
theorem T293 (h1 : gI σ 0 1 = (n : Int)) (hn : n ≤ 4000) : MM 293 [mR (some 0), mI x] σ = some (some (mI (if 0 ≤ x ∧ x ≤ (n : Int) then (n : Int) - x else -1)), if 0 ≤ x ∧ x ≤ (n : Int) then sI σ 0 1 x else σ) := by
  rw [M293, e293_0, h1]
  by_cases z : x < 0
  · rw [if_pos z, if_neg (show ¬ (0 ≤ x ∧ x ≤ (n : Int)) by omega), if_neg (show ¬ (0 ≤ x ∧ x ≤ (n : Int)) by omega)]
  · rw [if_neg z]
    by_cases z1 : x ≤ (n : Int)
    · rw [if_pos z1, if_pos (show (0 ≤ x ∧ x ≤ (n : Int)) by omega), if_pos (show (0 ≤ x ∧ x ≤ (n : Int)) by omega), w32_i (by omega) (by omega)]
    · rw [if_neg z1, if_neg (show ¬ (0 ≤ x ∧ x ≤ (n : Int)) by omega), if_neg (show ¬ (0 ≤ x ∧ x ≤ (n : Int)) by omega)]
theorem L328 : ∀ (f j : Nat) (σ : MS), j + f = 4 → gI σ 80 1 = ((n + j : Nat) : Int) → n + 4 ≤ 4000 → ∃ τ, RR (lkB tb328) (B328_3, [some (mR (some 80)), some (mI x), some (mI (24 - 8 * (j : Int)))], [], σ) = some (none, τ) ∧ τ.2 = σ.2 ∧ ∀ k s, gI τ k s = if k = 80 ∧ s = 1 then ((n + 4 : Nat) : Int) else if k = 81 ∧ n + j ≤ s ∧ s < n + 4 then fdB x (s - n) else gI σ k s := by
  intro f
  induction f with
  | zero =>
    intro j σ hj h1 hn
    have ej : j = 4 := by omega
    subst ej
    rw [e328_3, if_pos (by omega)]
    refine ⟨σ, rfl, rfl, fun k s => ?_⟩
    by_cases z : k = 80 ∧ s = 1
    · rw [if_pos z, z.1, z.2, h1]
    · rw [if_neg z, if_neg (by omega)]
  | succ f ih =>
    intro j σ hj h1 hn
    have e1 : w32 (24 - 8 * (j : Int) + (-8)) = 24 - 8 * ((j + 1 : Nat) : Int) := by
      rw [w32_i (by omega) (by omega)]
      omega
    have b1 : 0 ≤ gI σ 80 1 ∧ gI σ 80 1 < 4000 := by omega
    have b2 : ¬ (24 - 8 * (j : Int) < 0) := by omega
    have e2 : w32 (gI σ 80 1 + 1) = ((n + (j + 1) : Nat) : Int) := by
      rw [h1, w32_i (by omega) (by omega)]
      omega
    have e3 : Int.toNat (gI σ 80 1) = n + j := by omega
    rw [e328_3, if_neg b2, if_pos (by rw [g_81]; exact b1), e1, gI_sI, if_neg (show ¬ (80 = 81 ∧ 1 = Int.toNat (gI σ 80 1)) by omega), e2, e3]
    obtain ⟨τ, t1, t2, t3⟩ := ih (j + 1) (sI (sI σ 81 (n + j) (w8 (w8 (iShr x (24 - 8 * (j : Int)))))) 80 1 ((n + (j + 1) : Nat) : Int)) (by omega) (by rw [gI_sI, if_pos ⟨rfl, rfl⟩]) hn
    refine ⟨τ, t1, t2, fun k s => ?_⟩
    rw [t3]
    by_cases z : k = 80 ∧ s = 1
    · rw [if_pos z, if_pos z]
    · rw [if_neg z, if_neg z, gI_sI, if_neg z, gI_sI]
      by_cases z1 : k = 81 ∧ s = n + j
      · rw [if_neg (by omega), if_pos z1, if_pos (by omega), z1.2, show n + j - n = j by omega]
        rfl
      · rw [if_neg z1]
        by_cases z2 : k = 81 ∧ n + (j + 1) ≤ s ∧ s < n + 4
        · rw [if_pos z2, if_pos (by omega)]
        · rw [if_neg z2, if_neg (by omega)]
theorem T328 (h1 : gI σ 80 1 = (n : Int)) (hn : n + 4 ≤ 4000) : ∃ τ, MM 328 [mR (some 80), mI x] σ = some (none, τ) ∧ τ.2 = σ.2 ∧ ∀ k s, gI τ k s = if k = 80 ∧ s = 1 then ((n + 4 : Nat) : Int) else if k = 81 ∧ n ≤ s ∧ s < n + 4 then fdB x (s - n) else gI σ k s := by
  rw [M328, e328_0]
  exact L328 (n := n) (x := x) 4 0 σ rfl (by rw [h1]; rfl) hn
theorem T327n (h1 : gI σ 80 1 = (n : Int)) (hn : 4000 < n + 20) (h4 : n ≤ 4000) : MM 327 [mR (some 80), mI a, mI b, mI c, mI d, mI e] σ = some (some (mI (-1)), σ) := by
  rw [M327, e327_0, h1, w32_i (by omega) (by omega), if_neg (by omega)]
/-- feed -/
theorem T327 (h1 : gI σ 80 1 = (n : Int)) (hn : n + 20 ≤ 4000) : ∃ τ, MM 327 [mR (some 80), mI a, mI b, mI c, mI d, mI e] σ = some (some (mI ((n + 20 : Nat) : Int)), τ) ∧ τ.2 = σ.2 ∧ ∀ k s, gI τ k s = if k = 80 ∧ s = 1 then ((n + 20 : Nat) : Int) else if k = 81 ∧ n ≤ s ∧ s < n + 20 then fd5 a b c d e (s - n) else gI σ k s := by
  obtain ⟨τ1, u1, v1, w1⟩ := T328 (x := a) h1 (by omega)
  have q1 : gI τ1 80 1 = ((n + 4 : Nat) : Int) := by rw [w1, if_pos ⟨rfl, rfl⟩]
  obtain ⟨τ2, u2', v2, w2⟩ := T328 (x := b) q1 (by omega)
  have q2 : gI τ2 80 1 = ((n + 4 + 4 : Nat) : Int) := by rw [w2, if_pos ⟨rfl, rfl⟩]
  obtain ⟨τ3, u3, v3, w3⟩ := T328 (x := c) q2 (by omega)
  have q3 : gI τ3 80 1 = ((n + 4 + 4 + 4 : Nat) : Int) := by rw [w3, if_pos ⟨rfl, rfl⟩]
  obtain ⟨τ4, u4, v4, w4⟩ := T328 (x := d) q3 (by omega)
  have q4 : gI τ4 80 1 = ((n + 4 + 4 + 4 + 4 : Nat) : Int) := by rw [w4, if_pos ⟨rfl, rfl⟩]
  obtain ⟨τ5, u5, v5, w5⟩ := T328 (x := e) q4 (by omega)
  have q5 : gI τ5 80 1 = ((n + 20 : Nat) : Int) := by rw [w5, if_pos ⟨rfl, rfl⟩]
  rw [M327, e327_0, h1, w32_i (by omega) (by omega), if_pos (show (n : Int) + 20 ≤ 4000 by omega), u1]
  simp only [Option.bind_some, Option.toList_some, Option.toList_none, List.cons_append, List.nil_append]
  rw [e327_20, u2']
  simp only [Option.bind_some, Option.toList_some, Option.toList_none, List.cons_append, List.nil_append]
  rw [e327_25, u3]
  simp only [Option.bind_some, Option.toList_some, Option.toList_none, List.cons_append, List.nil_append]
  rw [e327_30, u4]
  simp only [Option.bind_some, Option.toList_some, Option.toList_none, List.cons_append, List.nil_append]
  rw [e327_36, u5]
  simp only [Option.bind_some, Option.toList_some, Option.toList_none, List.cons_append, List.nil_append]
  rw [e327_42, q5]
  refine ⟨τ5, rfl, by rw [v5, v4, v3, v2, v1], fun k s => ?_⟩
  by_cases z : k = 80 ∧ s = 1
  · rw [if_pos z, z.1, z.2, q5]
  · rw [w5, if_neg z, if_neg z, w4, if_neg z, w3, if_neg z, w2, if_neg z, w1, if_neg z]
    by_cases zA : k = 81
    · by_cases r : n ≤ s ∧ s < n + 20
      · rw [if_pos (show k = 81 ∧ n ≤ s ∧ s < n + 20 from ⟨zA, r⟩)]
        unfold fd5
        by_cases r4 : s - n < 4
        · rw [if_neg (by omega), if_neg (by omega), if_neg (by omega), if_neg (by omega), if_pos (by omega), if_pos r4, show (s - n) % 4 = s - n by omega]
        · by_cases r8 : s - n < 8
          · rw [if_neg (by omega), if_neg (by omega), if_neg (by omega), if_pos (by omega), if_neg r4, if_pos r8, show (s - n) % 4 = s - (n + 4) by omega]
          · by_cases r12 : s - n < 12
            · rw [if_neg (by omega), if_neg (by omega), if_pos (by omega), if_neg r4, if_neg r8, if_pos r12, show (s - n) % 4 = s - (n + 4 + 4) by omega]
            · by_cases r16 : s - n < 16
              · rw [if_neg (by omega), if_pos (by omega), if_neg r4, if_neg r8, if_neg r12, if_pos r16, show (s - n) % 4 = s - (n + 4 + 4 + 4) by omega]
              · rw [if_pos (by omega), if_neg r4, if_neg r8, if_neg r12, if_neg r16, show (s - n) % 4 = s - (n + 4 + 4 + 4 + 4) by omega]
      · rw [if_neg (by omega), if_neg (by omega), if_neg (by omega), if_neg (by omega), if_neg (by omega), if_neg (by omega)]
    · rw [if_neg (by omega), if_neg (by omega), if_neg (by omega), if_neg (by omega), if_neg (by omega), if_neg (by omega)]
/-- cut -/
theorem T329 (h1 : gI σ 80 1 = (n : Int)) (hn : n ≤ 4000) : MM 329 [mR (some 80), mI x] σ = some (some (mI (if 0 ≤ x ∧ x ≤ (n : Int) then (n : Int) - x else -1)), if 0 ≤ x ∧ x ≤ (n : Int) then sI σ 80 1 x else σ) := by
  rw [M329, e329_0, h1]
  by_cases z : x < 0
  · rw [if_pos z, if_neg (show ¬ (0 ≤ x ∧ x ≤ (n : Int)) by omega), if_neg (show ¬ (0 ≤ x ∧ x ≤ (n : Int)) by omega)]
  · rw [if_neg z]
    by_cases z1 : x ≤ (n : Int)
    · rw [if_pos z1, if_pos (show (0 ≤ x ∧ x ≤ (n : Int)) by omega), if_pos (show (0 ≤ x ∧ x ≤ (n : Int)) by omega), w32_i (by omega) (by omega)]
    · rw [if_neg z1, if_neg (show ¬ (0 ≤ x ∧ x ≤ (n : Int)) by omega), if_neg (show ¬ (0 ≤ x ∧ x ≤ (n : Int)) by omega)]
end TAPE
