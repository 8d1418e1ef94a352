/-! ===== the reference's judge: FORM ===== -/
/-- the marks where instructions begin -/
def mkS (σ : MS) (k : Nat) (S : Nat → Bool) : Prop := ∀ j, j < 201 → gI σ k j = if S j = true then 1 else 0
def clI (σ : MS) (k : Nat) : Nat → MS
  | 0 => σ
  | n + 1 => sI (clI σ k n) k n 0
section FRM2
variable {σ τ ρ : MS} {i n k s : Nat} {S : Nat → Bool}
theorem ci_I : ∀ n : Nat, ¬ (k = i ∧ s < n) → gI (clI σ i n) k s = gI σ k s := by
  intro n
  induction n with
  | zero => intro _; rfl
  | succ n ih =>
    intro h
    show gI (sI (clI σ i n) i n 0) k s = _
    rw [gI_sI, if_neg (by omega)]
    exact ih (by omega)
theorem ci_v : ∀ n : Nat, s < n → gI (clI σ k n) k s = 0 := by
  intro n
  induction n with
  | zero => intro h; omega
  | succ n ih =>
    intro h
    show gI (sI (clI σ k n) k n 0) k s = 0
    rw [gI_sI]
    by_cases e : s = n
    · rw [if_pos ⟨rfl, e⟩]
    · rw [if_neg (fun z => e z.2)]
      exact ih (by omega)
theorem ci_L : ∀ n : Nat, gL (clI σ i n) k s = gL σ k s
  | 0 => rfl
  | n + 1 => ci_L n
theorem ci_r : ∀ n : Nat, (clI σ i n).2.2 = σ.2.2
  | 0 => rfl
  | n + 1 => ci_r n
theorem sl_sz (h : okSl σ) : ((szA σ : Nat) : Int) = gI σ 84 (jsA σ).toNat ∧ szA σ ≤ 200 ∧ 0 ≤ jsA σ ∧ jsA σ < 8 := by
  obtain ⟨⟨h1, h2⟩, h3, h4⟩ := h
  unfold szA
  omega
theorem sl_w (h : okSl σ) (hi : i < 200) : w32 (w32 (200 * jsA σ) + (i : Int)) = ((200 * (jsA σ).toNat + i : Nat) : Int) := by
  obtain ⟨⟨h1, h2⟩, h3, h4⟩ := h
  rw [w32_i (x := 200 * jsA σ) (by omega) (by omega), w32_i (by omega) (by omega)]
  omega
theorem T345 (h : okSl σ) (hi : i < szA σ) : MM 345 [mR (some 80), mI (jsA σ), mI (i : Int)] σ = some (some (mI ((spn (wdA σ) (szA σ) i : Nat) : Int)), σ) := by
  obtain ⟨z1, z2, z3, z4⟩ := sl_sz h
  have i2 : i < 200 := by omega
  have b0 : 0 ≤ ((200 * (jsA σ).toNat + i : Nat) : Int) ∧ ((200 * (jsA σ).toNat + i : Nat) : Int) < 1600 := by omega
  have ew : gL σ 83 (200 * (jsA σ).toNat + i) = wdA σ i := rfl
  have hm : 200 * (jsA σ).toNat + i < 100000 := by omega
  have hi6 : i < 100000 := by omega
  unfold spn
  by_cases c : fOp (wdA σ i) = 24
  · rw [if_pos c]
    by_cases l : i + 1 < szA σ
    · have nl : ¬ gI σ 84 (jsA σ).toNat ≤ ((i + 1 : Nat) : Int) := by omega
      have b1 : 0 ≤ ((200 * (jsA σ).toNat + i + 1 : Nat) : Int) ∧ ((200 * (jsA σ).toNat + i + 1 : Nat) : Int) < 1600 := by omega
      have e1 : gL σ 83 (200 * (jsA σ).toNat + i + 1) = wdA σ (i + 1) := rfl
      by_cases q : okPr (wdA σ i) (wdA σ (i + 1))
      · rw [if_pos ⟨l, q⟩]
        have t := T344 (w := wdA σ i) (w2 := wdA σ (i + 1)) (σ := σ)
        rw [b2_yes q] at t
        simp only [M345, e345_0, e345_17, e345_52, Option.getD_some, Option.bind_some, Option.toList_some, Option.toList_none, List.cons_append, List.nil_append, and_self, and_true, true_and, false_and, and_false, ite_self, not_true_eq_false, not_false_eq_true, reduceIte, Nat.reduceEqDiff, ab_I, ab_L, ab_R, ao_I, ao_L, ao_R, gL_sL, gI_sI, gR_sR, gI_sL, gI_sR, gL_sI, gL_sR, gR_sI, gR_sL, g_83, g_84, sl_w h i2, b0.1, b0.2, Int.toNat_natCast, ew, T332, eq_true c, z3, z4, w32_s hi6, nl, w32_s hm, b1.1, b1.2, e1, t, oneI]
        rfl
      · rw [if_neg (fun z => q z.2)]
        have t := T344 (w := wdA σ i) (w2 := wdA σ (i + 1)) (σ := σ)
        rw [b2_no q] at t
        simp only [M345, e345_0, e345_17, e345_52, e345_59, Option.getD_some, Option.bind_some, Option.toList_some, Option.toList_none, List.cons_append, List.nil_append, and_self, and_true, true_and, false_and, and_false, ite_self, not_true_eq_false, not_false_eq_true, reduceIte, Nat.reduceEqDiff, ab_I, ab_L, ab_R, ao_I, ao_L, ao_R, gL_sL, gI_sI, gR_sR, gI_sL, gI_sR, gL_sI, gL_sR, gR_sI, gR_sL, g_83, g_84, sl_w h i2, b0.1, b0.2, Int.toNat_natCast, ew, T332, eq_true c, z3, z4, w32_s hi6, nl, w32_s hm, b1.1, b1.2, e1, t]
        rfl
    · have nl : gI σ 84 (jsA σ).toNat ≤ ((i + 1 : Nat) : Int) := by omega
      rw [if_neg (fun z => l z.1)]
      simp only [M345, e345_0, e345_17, e345_59, Option.getD_some, Option.bind_some, Option.toList_some, Option.toList_none, List.cons_append, List.nil_append, and_self, and_true, true_and, false_and, and_false, ite_self, not_true_eq_false, not_false_eq_true, reduceIte, Nat.reduceEqDiff, ab_I, ab_L, ab_R, ao_I, ao_L, ao_R, gL_sL, gI_sI, gR_sR, gI_sL, gI_sR, gL_sI, gL_sR, gR_sI, gR_sL, g_83, g_84, sl_w h i2, b0.1, b0.2, Int.toNat_natCast, ew, T332, eq_true c, z3, z4, w32_s hi6, nl]
      rfl
  · rw [if_neg c]
    have t := T343 (w := wdA σ i) (σ := σ)
    by_cases q : okPl (wdA σ i)
    · rw [if_pos q]
      rw [b2_yes q] at t
      simp only [M345, e345_0, e345_17, e345_65, Option.getD_some, Option.bind_some, Option.toList_some, Option.toList_none, List.cons_append, List.nil_append, and_self, and_true, true_and, false_and, and_false, ite_self, not_true_eq_false, not_false_eq_true, reduceIte, Nat.reduceEqDiff, ab_I, ab_L, ab_R, ao_I, ao_L, ao_R, gL_sL, gI_sI, gR_sR, gI_sL, gI_sR, gL_sI, gL_sR, gR_sI, gR_sL, g_83, sl_w h i2, b0.1, b0.2, Int.toNat_natCast, ew, T332, c, t, oneI]
      rfl
    · rw [if_neg q]
      rw [b2_no q] at t
      simp only [M345, e345_0, e345_17, e345_65, Option.getD_some, Option.bind_some, Option.toList_some, Option.toList_none, List.cons_append, List.nil_append, and_self, and_true, true_and, false_and, and_false, ite_self, not_true_eq_false, not_false_eq_true, reduceIte, Nat.reduceEqDiff, ab_I, ab_L, ab_R, ao_I, ao_L, ao_R, gL_sL, gI_sI, gR_sR, gI_sL, gI_sR, gL_sI, gL_sR, gR_sI, gR_sL, g_83, sl_w h i2, b0.1, b0.2, Int.toNat_natCast, ew, T332, c, t]
      rfl
/-- FORM touches its marks, and tells a fault -/
def fq (τ σ : MS) : Prop := (∀ k s, ¬ k = 135 → ¬ (k = 80 ∧ (s = 87 ∨ s = 90)) → gI τ k s = gI σ k s) ∧ (∀ k s, gL τ k s = gL σ k s) ∧ τ.2.2 = σ.2.2
theorem fq_sl (q : fq τ σ) (h : okSl σ) : okSl τ ∧ (∀ j, wdA τ j = wdA σ j) ∧ szA τ = szA σ ∧ jsA τ = jsA σ := by
  have e : jsA τ = jsA σ := q.1 _ _ (by omega) (by omega)
  refine ⟨?_, fun j => ?_, ?_, e⟩
  · unfold okSl at *
    rw [e, q.1 84 _ (by omega) (by omega)]
    exact h
  · unfold wdA
    rw [e, q.2.1]
  · unfold szA
    rw [e, q.1 84 _ (by omega) (by omega)]
def frE (σ τ : MS) (r : Option Nat × (Nat → Bool)) : Prop := fq τ σ ∧ (r.1 = none → gI τ 80 90 = 0 ∧ gI τ 80 87 = gI σ 80 87 ∧ mkS τ 135 r.2) ∧ ∀ i, r.1 = some i → gI τ 80 90 = 1 ∧ gI τ 80 87 = (i : Int)
theorem L475 (h : okSl σ) : ∀ (f i : Nat) (S : Nat → Bool) (x2 : Option MV) (τ : MS), i ≤ szA σ → szA σ < i + f → fq τ σ → gI τ 80 90 = 0 → gI τ 80 87 = gI σ 80 87 → mkS τ 135 S → okc (RR (lkB tb475) (B475_24, [some (mR (some 80)), some (mI (i : Int)), none], [], τ)) none (fun τ => frE σ τ (frmP (wdA σ) (szA σ) f i S)) := by
  obtain ⟨z1, z2, z3, z4⟩ := sl_sz h
  intro f
  induction f with
  | zero => intro i S x2 τ h1 h2; omega
  | succ f ih =>
    intro i S x2 τ h1 h2 q h90 h87 hm
    obtain ⟨sl, wd, sz, js⟩ := fq_sl q h
    have e86 : gI τ 80 86 = jsA σ := js
    have g84 : gI τ 84 (jsA σ).toNat = ((szA σ : Nat) : Int) := (q.1 _ _ (by omega) (by omega)).trans z1.symm
    unfold frmP
    by_cases c : szA σ ≤ i
    · have le : ((szA σ : Nat) : Int) ≤ (i : Int) := by omega
      rw [if_pos c, e475_24]
      simp only [Option.getD_some, Option.bind_some, Option.toList_some, Option.toList_none, List.cons_append, List.nil_append, and_self, and_true, true_and, false_and, and_false, ite_self, not_true_eq_false, not_false_eq_true, reduceIte, Nat.reduceEqDiff, ab_I, ab_L, ab_R, ao_I, ao_L, ao_R, gL_sL, gI_sI, gR_sR, gI_sL, gI_sR, gL_sI, gL_sR, gR_sI, gR_sL, g_84, e86, z3, z4, g84, le]
      exact okc_s ⟨q, fun _ => ⟨h90, h87, hm⟩, fun j e => (by cases e)⟩
    · have nl : ¬ ((szA σ : Nat) : Int) ≤ (i : Int) := by omega
      have t := T345 (σ := τ) (i := i) sl (by omega)
      rw [sz, js, show wdA τ = wdA σ from funext wd] at t
      have i1 : 0 ≤ (i : Int) ∧ (i : Int) < 201 := by omega
      rw [if_neg c, e475_24]
      by_cases s0 : spn (wdA σ) (szA σ) i = 0
      · rw [if_pos s0]
        rw [s0, show ((0 : Nat) : Int) = 0 from rfl] at t
        simp only [e475_46, e475_61, Option.getD_some, Option.bind_some, Option.toList_some, Option.toList_none, List.cons_append, List.nil_append, and_self, and_true, true_and, false_and, and_false, ite_self, not_true_eq_false, not_false_eq_true, reduceIte, Nat.reduceEqDiff, ab_I, ab_L, ab_R, ao_I, ao_L, ao_R, gL_sL, gI_sI, gR_sR, gI_sL, gI_sR, gL_sI, gL_sR, gR_sI, gR_sL, g_84, e86, z3, z4, g84, nl, t, T473]
        refine okc_s ⟨?_, fun e => (by cases e), fun j e => ?_⟩
        · refine ⟨fun k s q1 q2 => ?_, fun k s => q.2.1 k s, q.2.2⟩
          rw [fl_o (by omega), gI_sI, if_neg (by omega)]
          exact q.1 k s q1 q2
        · cases e
          refine ⟨?_, ?_⟩
          · rw [fl_g, gI_sI, if_neg (by omega), h90, fst0]
          · rw [fl_o (by omega), gI_sI, if_pos ⟨rfl, rfl⟩]
      · rw [if_neg s0]
        have s2 := spn_le (p := wdA σ) (n := szA σ) i
        have ne : ¬ ((spn (wdA σ) (szA σ) i : Nat) : Int) = 0 := by omega
        have ln : i + spn (wdA σ) (szA σ) i ≤ szA σ := by
          have : spn (wdA σ) (szA σ) i = 2 → i + 1 < szA σ := fun e => by
            unfold spn at e
            split at e
            · split at e
              · rename_i z
                exact z.1
              · omega
            · split at e <;> omega
          omega
        have wn : w32 ((i : Int) + ((spn (wdA σ) (szA σ) i : Nat) : Int)) = ((i + spn (wdA σ) (szA σ) i : Nat) : Int) := L490c (by omega) (by omega)
        simp only [e475_46, Option.getD_some, Option.bind_some, Option.toList_some, Option.toList_none, List.cons_append, List.nil_append, and_self, and_true, true_and, false_and, and_false, ite_self, not_true_eq_false, not_false_eq_true, reduceIte, Nat.reduceEqDiff, ab_I, ab_L, ab_R, ao_I, ao_L, ao_R, gL_sL, gI_sI, gR_sR, gI_sL, gI_sR, gL_sI, gL_sR, gR_sI, gR_sL, g_84, e86, z3, z4, g84, nl, t, ne, g_135, i1.1, i1.2, Int.toNat_natCast, show (1 : Int) % 2 = 1 from rfl, wn]
        clear wn t
        refine okc_q (ls := [some (mR (some 80)), some (mI ((i + spn (wdA σ) (szA σ) i : Nat) : Int)), none]) (by repeat (first | exact lq_nil | refine lq_cons (Or.inr rfl) ?_ | refine lq_cons (Or.inl rfl) ?_)) ?_
        refine ih _ (fun j => if j = i then true else S j) none _ ln (by omega) ?_ ?_ ?_ (fun j hj => ?_)
        · refine ⟨fun k s q1 q2 => ?_, fun k s => q.2.1 k s, q.2.2⟩
          rw [gI_sI, if_neg (by omega)]
          exact q.1 k s q1 q2
        · rw [gI_sI, if_neg (by omega)]; exact h90
        · rw [gI_sI, if_neg (by omega)]; exact h87
        · show _ = if (if j = i then true else S j) = true then (1 : Int) else 0
          rw [gI_sI]
          by_cases e : j = i
          · rw [if_pos ⟨rfl, e⟩, if_pos e, if_pos rfl]
          · rw [if_neg (fun z => e z.2), if_neg e]
            exact hm j hj
theorem T475 (h : okSl σ) (h90 : gI σ 80 90 = 0) : okc (MM 475 [mR (some 80)] σ) none (fun τ => frE σ τ (frmP (wdA σ) (szA σ) (szA σ + 1) 0 (fun _ => false))) := by
  have key : ∀ m : Nat, m ≤ 201 → RR (lkB tb475) (B475_2, [some (mR (some 80)), some (mI ((201 - m : Nat) : Int)), none], [], clI σ 135 (201 - m)) = RR (lkB tb475) (B475_24, [some (mR (some 80)), some (mI ((0 : Nat) : Int)), none], [], clI σ 135 201) := by
    intro m
    induction m with
    | zero =>
      intro _
      rw [e475_2, if_pos (by decide)]
      rfl
    | succ m ih =>
      intro hm
      have ih := ih (by omega)
      obtain ⟨r, hr⟩ : ∃ r, r = 201 - (m + 1) := ⟨_, rfl⟩
      have e1 : 201 - m = r + 1 := by omega
      rw [e1] at ih
      rw [← hr]
      have nl : ¬ 200 < (r : Int) := by omega
      have b0 : 0 ≤ (r : Int) ∧ (r : Int) < 201 := by omega
      have r6 : r < 100000 := by omega
      rw [e475_2]
      simp only [Option.getD_some, Option.bind_some, Option.toList_some, Option.toList_none, List.cons_append, List.nil_append, and_self, and_true, true_and, false_and, and_false, ite_self, not_true_eq_false, not_false_eq_true, reduceIte, Nat.reduceEqDiff, ab_I, ab_L, ab_R, ao_I, ao_L, ao_R, gL_sL, gI_sI, gR_sR, gI_sL, gI_sR, gL_sI, gL_sR, gR_sI, gR_sL, nl, g_135, b0.1, b0.2, Int.toNat_natCast, show (0 : Int) % 2 = 0 from rfl, w32_s r6]
      exact ih
  have k := key 201 (Nat.le_refl _)
  have hq : fq (clI σ 135 201) σ := ⟨fun k s q1 q2 => ci_I 201 (by omega), fun k s => ci_L 201, ci_r 201⟩
  have t := L475 h (szA σ + 1) 0 (fun _ => false) none (clI σ 135 201) (Nat.zero_le _) (by omega) hq ((ci_I 201 (by omega)).trans h90) (ci_I 201 (by omega)) (fun j hj => by
    rw [ci_v 201 hj]
    rfl)
  rw [M475, e475_0]
  exact k ▸ t
end FRM2
