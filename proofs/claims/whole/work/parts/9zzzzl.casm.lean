/-! ===== the class: assemble ===== -/
def cold (σ τ : MS) : Prop := (∀ k s, ¬ (k = 0 ∧ s = 1) → ¬ (18 ≤ k ∧ k ≤ 25) → gI τ k s = gI σ k s) ∧ (∀ k s, ¬ (18 ≤ k ∧ k ≤ 25) → gL τ k s = gL σ k s) ∧ τ.2.2 = (sR σ 18 2 (some 1)).2.2 ∧ gI τ 0 1 = 0
def cnew (σ : MS) (X M : Nat) (W : Nat → B64) (τ : MS) : Prop := (gI τ 15 X = (M : Int) ∧ gI τ 16 X = 0 ∧ gI τ 17 X = 0 ∧ ∀ i, i < M → gL τ (7 + X) i = W i) ∧ (∀ k s, ¬ (k = 0 ∧ s = 1) → ¬ (18 ≤ k ∧ k ≤ 25) → ¬ ((k = 15 ∨ k = 16 ∨ k = 17) ∧ s = X) → gI τ k s = gI σ k s) ∧ (∀ k s, ¬ (18 ≤ k ∧ k ≤ 25) → ¬ (k = 7 + X ∧ s < M) → gL τ k s = gL σ k s) ∧ τ.2.2 = (sR σ 18 2 (some 1)).2.2 ∧ gI τ 0 1 = 0
section CSM
variable {t : Nat → Int} {n X M : Nat} {σ τ ρ : MS} {c : Int}
theorem T294 : MM 294 [mR (some 0)] σ = some (some (mI (gI σ 0 1)), sI σ 0 1 0) := by rw [M294, e294_0]
theorem T208 (hX : X < 8) : MM 208 [mR (some 5), mI (X : Int), mI c] σ = some (none, sI (sI (sI σ 15 X c) 16 X 0) 17 X 0) := by
  rw [M208, e208_0, if_pos (by rw [g_15]; omega), if_pos (by rw [g_16]; omega), if_pos (by rw [g_17]; omega), e208_21, Int.toNat_natCast]
  rfl
theorem T206c (hX : X < 8) (hs : gR τ 6 X = some (7 + X)) (hM : M ≤ 200) : MM 206 [mR (some 5), mI (X : Int), mR (some 19), mI (M : Int)] τ = some (none, sI (sI (sI (cpL τ 19 0 (7 + X) 0 (M : Int)) 15 X (M : Int)) 16 X 0) 17 X 0) := by
  have k1 : kd τ 19 = (4, 200) := rfl
  have k2 := cu_kd (σ := τ) X hX
  have ac1 : ac τ 4 19 (7 + X) 0 0 (M : Int) := by
    refine ⟨⟨by rw [k1], by rw [k2]⟩, ⟨by omega, by omega, by omega⟩, ?_, ?_⟩
    · rw [k1]
      show (0 : Int) + (M : Int) ≤ 200
      omega
    · rw [k2]
      show (0 : Int) + (M : Int) ≤ 200
      omega
  rw [M206, e206_0, if_pos (by rw [g_6]; omega), Int.toNat_natCast, hs, if_pos (show (Option.isSome (some 19) = true ∧ Option.isSome (some (7 + X)) = true) ∧ ac τ 4 (Option.getD (some 19) 0) (Option.getD (some (7 + X)) 0) 0 0 (M : Int) from ⟨⟨rfl, rfl⟩, ac1⟩)]
  show Option.bind (MM 208 [mR (some 5), mI (X : Int), mI (M : Int)] (cpL τ 19 0 (7 + X) 0 (M : Int))) _ = _
  rw [T208 hX]
  simp only [Option.bind_some, Option.toList_some, Option.toList_none, List.cons_append, List.nil_append]
  rw [e206_19]
/-- assemble -/
theorem T295 (hX : X < 8) (hs : gR σ 6 X = some (7 + X)) (h1 : gI σ 0 1 = (n : Int)) (hn : n ≤ 4000) (ht : ∀ j, gI σ 1 j = t j) (hb : ∀ j, -128 ≤ t j ∧ t j < 128) : okc (MM 295 [mR (some 0), mI (X : Int)] σ) (some (mI (asV (pAsm t n)))) (fun τ => oR (pAsm t n) (fun _ => cold σ τ) (fun q => cnew σ X q.1 q.2 τ)) := by
  rw [M295, e295_0, T294]
  simp only [Option.bind_some, Option.toList_some, Option.toList_none, List.cons_append, List.nil_append]
  rw [e295_4, T205 hX]
  simp only [Option.bind_some, Option.toList_some, Option.toList_none, List.cons_append, List.nil_append]
  rw [e295_9, if_pos n10, h1]
  have s0 : ∀ k s, ¬ (k = 0 ∧ s = 1) → gI (sI σ 0 1 0) k s = gI σ k s := fun k s z => by rw [gI_sI, if_neg z]
  obtain ⟨τ, e, ⟨p1, p2, p3⟩, p4⟩ := T132 (σ := sI σ 0 1 0) hn (fun j => (s0 1 j (by omega)).trans (ht j)) hb
  have c1 : ∀ k s, ¬ (k = 0 ∧ s = 1) → ¬ (18 ≤ k ∧ k ≤ 25) → gI τ k s = gI σ k s := fun k s a b => (p1 k s b).trans (s0 k s a)
  have c2 : ∀ k s, ¬ (18 ≤ k ∧ k ≤ 25) → gL τ k s = gL σ k s := fun k s b => p2 k s b
  have c3 : τ.2.2 = (sR σ 18 2 (some 1)).2.2 := p3
  have c4 : gI τ 0 1 = 0 := (p1 0 1 (by omega)).trans (by rw [gI_sI, if_pos ⟨rfl, rfl⟩])
  obtain ⟨b1, b2'⟩ := pAsm_b (t := t) (n := n)
  rw [e]
  simp only [Option.bind_some, Option.toList_some, Option.toList_none, List.cons_append, List.nil_append]
  rw [e295_26]
  cases hp : pAsm t n with
  | inl e =>
    obtain ⟨e0, e1⟩ := b1 e hp
    have av : asV (.inl e) = -10 - e := w32_i (x := -10 - e) (by omega) (by omega)
    rw [av, if_pos (show -10 - e ≤ 0 by omega), e295_47]
    exact okc_s ⟨c1, c2, c3, c4⟩
  | inr q =>
    obtain ⟨e0, e1⟩ := b2' q hp
    rw [hp] at p4
    obtain ⟨p5, p6⟩ := p4
    have av : asV (.inr q) = (q.1 : Int) := rfl
    have hs2 : gR τ 6 X = some (7 + X) := by rw [gR_22 c3, gR_sR, if_neg (by omega), hs]
    rw [av, if_neg (show ¬ (q.1 : Int) ≤ 0 by omega), T206c hX hs2 e1]
    simp only [Option.bind_some, Option.toList_some, Option.toList_none, List.cons_append, List.nil_append]
    rw [e295_47]
    refine okc_s ⟨⟨?_, ?_, ?_, fun i hi => ?_⟩, fun k s a b c => ?_, fun k s a b => ?_, c3, ?_⟩
    · rw [gI_sI, if_neg (by omega), gI_sI, if_neg (by omega), gI_sI, if_pos ⟨rfl, rfl⟩]
    · rw [gI_sI, if_neg (by omega), gI_sI, if_pos ⟨rfl, rfl⟩]
    · rw [gI_sI, if_pos ⟨rfl, rfl⟩]
    · rw [gL_sI, gL_sI, gL_sI, cpL_g, if_pos ⟨rfl, by omega⟩]
      exact p6 i hi
    · rw [gI_sI, if_neg (by omega), gI_sI, if_neg (by omega), gI_sI, if_neg (by omega)]
      exact c1 k s a b
    · rw [gL_sI, gL_sI, gL_sI, cpL_g, if_neg (by omega)]
      exact c2 k s a
    · rw [gI_sI, if_neg (by omega), gI_sI, if_neg (by omega), gI_sI, if_neg (by omega)]
      exact c4
end CSM
