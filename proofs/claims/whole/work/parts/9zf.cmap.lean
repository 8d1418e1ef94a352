/-! ===== the class's maps: look-ups ===== -/
/-- a key of the table against bytes of the room -/
def eqC (σ : MS) (p0 p n : Nat) : Bool := (List.range n).all fun i => decide (gI σ 28 (p0 + i) = gI σ 27 (p + i))
/-- the entry of a key that stands in the room -/
def entC (σ : MS) (m p : Nat) : Option Nat := (List.range (gI σ 34 m).toNat).find? fun e => eqC σ (16 * (32 * m + (gI σ 35 (16 * m + e)).toNat)) p (gI σ 31 m).toNat
section CMAP
variable {σ τ ρ : MS} {W V : WR} {m n p p0 e j i c : Nat} {L : List B64} {y k : Int} {E : EV} {φ : Nat → Nat}
theorem T41 {c : Nat} (hm : m < 8) (hc : c < 32) : MM 41 [mI (m : Int), mI (c : Int)] σ = some (some (mI ((788 + 64 * (32 * m + c) : Nat) : Int)), σ) := by
  have w1 : w32 ((m : Int) * 32) = (m : Int) * 32 := w32_i (by omega) (by omega)
  have w2 : w32 ((m : Int) * 32 + (c : Int)) = (m : Int) * 32 + (c : Int) := w32_i (by omega) (by omega)
  have w3 : w32 (((m : Int) * 32 + (c : Int)) * 64) = ((m : Int) * 32 + (c : Int)) * 64 := w32_i (by omega) (by omega)
  have w4 : w32 (788 + ((m : Int) * 32 + (c : Int)) * 64) = ((788 + 64 * (32 * m + c) : Nat) : Int) := by
    rw [w32_i (by omega) (by omega)]
    omega
  rw [M41, e41_0, w1, w2, w3, w4]
theorem T42m {c : Nat} (hm : m < 8) (hc : c < 32) : MM 42 [mI (m : Int), mI (c : Int)] σ = some (some (mI ((16 * (32 * m + c) : Nat) : Int)), σ) := by
  have w1 : w32 ((m : Int) * 32) = (m : Int) * 32 := w32_i (by omega) (by omega)
  have w2 : w32 ((m : Int) * 32 + (c : Int)) = (m : Int) * 32 + (c : Int) := w32_i (by omega) (by omega)
  have w3 : w32 (((m : Int) * 32 + (c : Int)) * 16) = ((16 * (32 * m + c) : Nat) : Int) := by
    rw [w32_i (by omega) (by omega)]
    omega
  rw [M42, e42_0, w1, w2, w3]
theorem T43m {c : Nat} (hm : m < 8) (hc : c < 16) : MM 43 [mI (m : Int), mI (c : Int)] σ = some (some (mI ((17172 + 64 * (16 * m + c) : Nat) : Int)), σ) := by
  have w1 : w32 ((m : Int) * 16) = (m : Int) * 16 := w32_i (by omega) (by omega)
  have w2 : w32 ((m : Int) * 16 + (c : Int)) = (m : Int) * 16 + (c : Int) := w32_i (by omega) (by omega)
  have w3 : w32 (((m : Int) * 16 + (c : Int)) * 64) = ((m : Int) * 16 + (c : Int)) * 64 := w32_i (by omega) (by omega)
  have w4 : w32 (17172 + ((m : Int) * 16 + (c : Int)) * 64) = ((17172 + 64 * (16 * m + c) : Nat) : Int) := by
    rw [w32_i (by omega) (by omega)]
    omega
  rw [M43, e43_0, w1, w2, w3, w4]
/-- keys are compared -/
theorem T51 (h0 : p0 + n ≤ 4096) (h : p + n ≤ 25364) : MM 51 [mR (some 26), mI (p0 : Int), mR (some 27), mI (p : Int), mI (n : Int)] σ = some (some (mI (bI (eqC σ p0 p n))), σ) := by
  have key : ∀ (f j : Nat), j + f = n → (∀ i, i < j → gI σ 28 (p0 + i) = gI σ 27 (p + i)) → RR (lkB tb51) (B51_3, [some (mR (some 26)), some (mI (p0 : Int)), some (mR (some 27)), some (mI (p : Int)), some (mI (n : Int)), some (mI (j : Int))], [], σ) = some (some (mI (bI (eqC σ p0 p n))), σ) := by
    intro f
    induction f with
    | zero =>
      intro j z q
      have z : j = n := by omega
      subst z
      have : eqC σ p0 p j = true := List.all_eq_true.mpr fun i hi => decide_eq_true (q i (List.mem_range.mp hi))
      rw [e51_3, if_pos (Int.le_refl _), this]
      rfl
    | succ f ih =>
      intro j z q
      have nl : ¬ (n : Int) ≤ (j : Int) := by omega
      have j3 : j < 100000 := by omega
      have b1 : 0 ≤ ((p0 + j : Nat) : Int) ∧ ((p0 + j : Nat) : Int) < 4096 := by omega
      have b2 : 0 ≤ ((p + j : Nat) : Int) ∧ ((p + j : Nat) : Int) < 25364 := by omega
      have w1 : w32 ((p0 : Int) + (j : Int)) = ((p0 + j : Nat) : Int) := by
        rw [w32_i (by omega) (by omega)]
        rfl
      have w2 : w32 ((p : Int) + (j : Int)) = ((p + j : Nat) : Int) := by
        rw [w32_i (by omega) (by omega)]
        rfl
      have ww : w32 ((j : Int) + 1) = ((j + 1 : Nat) : Int) := w32_s j3
      rw [e51_3, if_neg nl]
      simp only [Option.getD_some, Option.bind_some, Option.toList_some, Option.toList_none, List.cons_append, List.nil_append, and_self, and_true, true_and, false_and, and_false, ite_self, not_true_eq_false, not_false_eq_true, reduceIte, Nat.reduceEqDiff, ab_I, ab_L, ab_R, ao_I, ao_L, ao_R, gL_sL, gI_sI, gR_sR, gI_sL, gI_sR, gL_sI, gL_sR, gR_sI, gR_sL, g_27, g_28, b1.1, b1.2, b2.1, b2.2, w1, w2, Int.toNat_natCast, ww]
      by_cases c : gI σ 28 (p0 + j) = gI σ 27 (p + j)
      · rw [if_pos c]
        exact ih (j + 1) (by omega) fun i hi => by
          by_cases q2 : i = j
          · rw [q2]; exact c
          · exact q i (by omega)
      · rw [if_neg c]
        have : eqC σ p0 p n = false := by
          cases y : eqC σ p0 p n with
          | false => rfl
          | true => exact absurd (of_decide_eq_true (List.all_eq_true.mp y j (List.mem_range.mpr (by omega)))) c
        rw [this]
        rfl
  rw [M51, e51_0]
  exact key n 0 (by omega) fun i hi => absurd hi (Nat.not_lt_zero _)
/-- a TABLE's entry -/
theorem T49t (hm : m < 8) (h30 : ¬ gI σ 30 m = 0) (h34 : 0 ≤ gI σ 34 m ∧ gI σ 34 m ≤ 16) (h31 : 0 ≤ gI σ 31 m ∧ gI σ 31 m ≤ 16) (h35 : ∀ e : Nat, (e : Int) < gI σ 34 m → 0 ≤ gI σ 35 (16 * m + e) ∧ gI σ 35 (16 * m + e) < 32) (hp : p + (gI σ 31 m).toNat ≤ 25364) :
    MM 49 [mR (some 26), mI (m : Int), mR (some 27), mI (p : Int)] σ = some (some (mI (ioN (entC σ m p))), σ) := by
  obtain ⟨N, hN⟩ : ∃ N : Nat, N = (gI σ 34 m).toNat := ⟨_, rfl⟩
  have eN : gI σ 34 m = (N : Int) := by omega
  obtain ⟨Z, hZ⟩ : ∃ Z : Nat, Z = (gI σ 31 m).toNat := ⟨_, rfl⟩
  have eZ : gI σ 31 m = (Z : Int) := by omega
  have b0 : 0 ≤ (m : Int) ∧ (m : Int) < 8 := by omega
  have key : ∀ (f x : Nat), x + f = N → (∀ i, i < x → eqC σ (16 * (32 * m + (gI σ 35 (16 * m + i)).toNat)) p Z = false) → RR (lkB tb49) (B49_44, [some (mR (some 26)), some (mI (m : Int)), some (mR (some 27)), some (mI (p : Int)), some (mI (x : Int))], [], σ) = some (some (mI (ioN ((List.range N).find? fun e => eqC σ (16 * (32 * m + (gI σ 35 (16 * m + e)).toNat)) p Z))), σ) := by
    intro f
    induction f with
    | zero =>
      intro x z q
      have z : x = N := by omega
      subst z
      have : (List.range x).find? (fun e => eqC σ (16 * (32 * m + (gI σ 35 (16 * m + e)).toNat)) p Z) = none := List.find?_eq_none.mpr fun e he => by
        rw [q e (List.mem_range.mp he)]
        decide
      have le : (x : Int) ≤ (x : Int) := Int.le_refl _
      rw [this, e49_44]
      simp only [Option.getD_some, Option.bind_some, Option.toList_some, Option.toList_none, List.cons_append, List.nil_append, and_self, and_true, true_and, false_and, and_false, ite_self, not_true_eq_false, not_false_eq_true, reduceIte, Nat.reduceEqDiff, ab_I, ab_L, ab_R, ao_I, ao_L, ao_R, gL_sL, gI_sI, gR_sR, gI_sL, gI_sR, gL_sI, gL_sR, gR_sI, gR_sL, g_34, b0.1, b0.2, Int.toNat_natCast, eN, le, if_true]
      rfl
    | succ f ih =>
      intro x z q
      have nl : ¬ (N : Int) ≤ (x : Int) := by omega
      have x3 : x < 100000 := by omega
      have b1 : 0 ≤ ((16 * m + x : Nat) : Int) ∧ ((16 * m + x : Nat) : Int) < 128 := by omega
      have q5 := h35 x (by omega)
      obtain ⟨c, hc⟩ : ∃ c : Nat, c = (gI σ 35 (16 * m + x)).toNat := ⟨_, rfl⟩
      have ec : gI σ 35 (16 * m + x) = (c : Int) := by omega
      have t2 := T42m (σ := σ) (c := c) hm (by omega)
      have t1 := T51 (σ := σ) (p0 := 16 * (32 * m + c)) (p := p) (n := Z) (by omega) (by omega)
      have xN : x < N := by omega
      have z1 : x + 1 + f = N := by omega
      have w1 : w32 (w32 ((m : Int) * 16) + (x : Int)) = ((16 * m + x : Nat) : Int) := by
        rw [w32_i (x := (m : Int) * 16) (by omega) (by omega), w32_i (by omega) (by omega)]
        omega
      have ww : w32 ((x : Int) + 1) = ((x + 1 : Nat) : Int) := w32_s x3
      rw [e49_44]
      simp only [Option.getD_some, Option.bind_some, Option.toList_some, Option.toList_none, List.cons_append, List.nil_append, and_self, and_true, true_and, false_and, and_false, ite_self, not_true_eq_false, not_false_eq_true, reduceIte, Nat.reduceEqDiff, ab_I, ab_L, ab_R, ao_I, ao_L, ao_R, gL_sL, gI_sI, gR_sR, gI_sL, gI_sR, gL_sI, gL_sR, gR_sI, gR_sL, g_34, g_35, b0.1, b0.2, b1.1, b1.2, w1, Int.toNat_natCast, eN, nl, if_false, ec, t2, e49_72, g_31, eZ, t1, e49_83]
      cases y : eqC σ (16 * (32 * m + c)) p Z with
      | true =>
        have : (List.range N).find? (fun e => eqC σ (16 * (32 * m + (gI σ 35 (16 * m + e)).toNat)) p Z) = some x := by
          refine find_rng xN ?_ fun i hi => q i hi
          show eqC σ (16 * (32 * m + (gI σ 35 (16 * m + x)).toNat)) p Z = true
          rw [← hc]
          exact y
        rw [this]
        rw [show bI true = 1 from rfl, if_neg (by decide)]
        rfl
      | false =>
        rw [show bI false = 0 from rfl, if_pos rfl, ww]
        exact ih (x + 1) z1 fun i hi => by
          by_cases q2 : i = x
          · rw [q2, ← hc]
            exact y
          · exact q i (Nat.lt_of_le_of_ne (Nat.le_of_lt_succ hi) q2)
  have z := key N 0 (by omega) fun i hi => absurd hi (Nat.not_lt_zero _)
  have ee : entC σ m p = (List.range N).find? fun e => eqC σ (16 * (32 * m + (gI σ 35 (16 * m + e)).toNat)) p Z := by
    unfold entC
    rw [← hN, ← hZ]
  rw [ee, M49, e49_0]
  simp only [Option.getD_some, Option.bind_some, Option.toList_some, Option.toList_none, List.cons_append, List.nil_append, and_self, and_true, true_and, false_and, and_false, ite_self, not_true_eq_false, not_false_eq_true, reduceIte, Nat.reduceEqDiff, ab_I, ab_L, ab_R, ao_I, ao_L, ao_R, gL_sL, gI_sI, gR_sR, gI_sL, gI_sR, gL_sI, gL_sR, gR_sI, gR_sL, g_30, b0.1, b0.2, Int.toNat_natCast, eq_false h30, not_false_eq_true, if_true]
  exact z
theorem rm_get (hi : i < n) (hb : bOk σ) : ((rmC σ p n).map kpW).getD i 0 = gI σ 27 (p + i) := by
  have q := hb 27 (p + i) rfl
  unfold rmC
  rw [List.map_map, List.getD_eq_getElem?_getD, List.getElem?_map, List.getElem?_range' hi]
  show kpW (byW (gI σ 27 (p + 1 * i))) = _
  rw [Nat.one_mul, ← w8_kp, w8_i q.1 q.2]
theorem ent_e (hm : m < 8) (hk : wcK σ W m) (hT : wcT σ W m) (h1 : wg W 96 m = 1) (hb : bOk σ) (hz : wg W 97 m ≤ 16) : entC σ m p = entR W m ((rmC σ p (wg W 97 m).toNat).map kpW) := by
  obtain ⟨⟨a1, a2⟩, a3, _⟩ := hT h1
  obtain ⟨_, _, b3, _, _⟩ := hk
  unfold entC entR
  rw [← a1, ← b3]
  refine find_cg fun e he => ?_
  have he : (e : Int) < wg W 101 m := by omega
  obtain ⟨⟨c1, c2, c3⟩, _, _, c4⟩ := a3 e he
  unfold eqC
  refine all_cg fun i hi => ?_
  rw [rm_get hi hb, c4 i (by omega) (by omega), c1]
end CMAP
