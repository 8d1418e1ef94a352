/-! ===== the class's states ===== -/
/-- an object State at cell k, with its row, back, held -/
def isSt (σ : MS) (k : Nat) : Prop := kd σ k = (28, 0) ∧ kd σ (k + 1 + 0) = (4, 1188) ∧ kd σ (k + 1 + 1) = (3, 4) ∧ kd σ (k + 1 + 2) = (3, 64)
/-- the fields of a VALUE in a row: a part without one has its bytes in V -/
def enV (v : VL) (i : Nat) : B64 :=
  if i = 0 then iL (vk v) else if i = 1 then (if vk v = 0 then iL (vr v) else jV (vn v)) else if i = 2 then jM (vn v) else if i = 3 then jA (vn v) else if i = 4 then jB (vn v) else if i = 5 then jC (vn v) else if i = 6 then jD (vn v)
  else if i = 7 then iL (vo v) else if i = 8 then iL (vw v) else if i = 9 then (if vk v = 0 then 0#64 else iL (vr v)) else iL (vt v)
def cAt (σ : MS) (k pl : Nat) (v : VL) : Prop := ∀ i, i < 11 → gL σ (k + 1 + 0) (pl + i) = enV v i
/-- the state S lies in the object at cell k -/
def CSt (σ : MS) (k : Nat) (S : ST) : Prop := (gI σ k 3 = (sF S : Int) ∧ gI σ k 4 = ((sH S).length : Int))
  ∧ (∀ f r, f < sF S → r < 10 → cAt σ k (297 * f + 11 * r) (sV S (26 * f + r)))
  ∧ (∀ f, f < sF S → cAt σ k (297 * f + 110) (mkV 3 (f : Int) 0))
  ∧ (∀ f q, f < sF S → q < 16 → cAt σ k (297 * f + 121 + 11 * q) (sV S (26 * f + 10 + q)))
  ∧ (∀ f, 1 ≤ f → f < sF S → gI σ (k + 1 + 1) f = sB S f)
  ∧ ∀ j, j < (sH S).length → gI σ (k + 1 + 2) j = (sH S).getD j 0
section CST
variable {σ : MS} {k r pl : Nat} {S : ST}
theorem aoS (h : isSt σ k) : ao σ 8 (some k) = True := aoK (c := 8) h.1
theorem abS (h : isSt σ k) {i : Int} : (Option.isSome (some (k + 1 + 0)) = true ∧ ab σ 4 (k + 1 + 0) i) = (0 ≤ i ∧ i < 1188) := gdK (n := 1188) h.2.1
theorem abB (h : isSt σ k) {i : Int} : (Option.isSome (some (k + 1 + 1)) = true ∧ ab σ 3 (k + 1 + 1) i) = (0 ≤ i ∧ i < 4) := gdK (n := 4) h.2.2.1
theorem abH (h : isSt σ k) {i : Int} : (Option.isSome (some (k + 1 + 2)) = true ∧ ab σ 3 (k + 1 + 2) i) = (0 ≤ i ∧ i < 64) := gdK (n := 64) h.2.2.2
/-- where a register of the uppermost frame is -/
theorem T212 (h : isSt σ k) (hF : gI σ k 3 = (sF S : Int)) (h4 : 1 ≤ sF S ∧ sF S ≤ 4) (hr : r ≤ 10) : MM 212 [mR (some k), mI (r : Int)] σ = some (some (mI ((297 * (sF S - 1) + 11 * r : Nat) : Int)), σ) := by
  have e : w32 (w32 (w32 ((sF S : Int) - 1) * 297) + w32 ((r : Int) * 11)) = ((297 * (sF S - 1) + 11 * r : Nat) : Int) := by
    rw [w32_i (x := (sF S : Int) - 1) (by omega) (by omega), w32_i (x := ((sF S : Int) - 1) * 297) (by omega) (by omega), w32_i (x := (r : Int) * 11) (by omega) (by omega), w32_i (by omega) (by omega)]
    omega
  simp only [M212, e212_0, Option.getD_some, Option.bind_some, Option.toList_some, Option.toList_none, List.cons_append, List.nil_append, and_self, and_true, true_and, false_and, and_false, ite_self, not_true_eq_false, not_false_eq_true, reduceIte, Nat.reduceEqDiff, ab_I, ab_L, ab_R, ao_I, ao_L, ao_R, gL_sL, gI_sI, gR_sR, gI_sL, gI_sR, gL_sI, gL_sR, gR_sI, gR_sL, aoS h, hF, e]
theorem lI_s {x : Int} (h : -2147483648 ≤ x ∧ x < 2147483648) : lI (iL x) = x := by
  unfold lI iL
  rw [BitVec.toInt_ofInt, Int.bmod_eq_of_le (by omega) (by omega)]
  exact w32_i h.1 h.2
theorem T214 {v : VL} (h : isSt σ k) (hp : pl < 1188) (hv : cAt σ k pl v) (hk : 0 ≤ vk v ∧ vk v ≤ 10) : MM 214 [mR (some k), mI (pl : Int)] σ = some (some (mI (vk v)), σ) := by
  have b : 0 ≤ (pl : Int) ∧ (pl : Int) < 1188 := by omega
  have e : gL σ (k + 1 + 0) pl = iL (vk v) := hv 0 (by decide)
  simp only [M214, e214_0, Option.getD_some, Option.bind_some, Option.toList_some, Option.toList_none, List.cons_append, List.nil_append, and_self, and_true, true_and, false_and, and_false, ite_self, not_true_eq_false, not_false_eq_true, reduceIte, Nat.reduceEqDiff, ab_I, ab_L, ab_R, ao_I, ao_L, ao_R, gL_sL, gI_sI, gR_sR, gI_sL, gI_sR, gL_sI, gL_sR, gR_sI, gR_sL, aoS h, abS h, b.1, b.2, Int.toNat_natCast, e, lI_s (show -2147483648 ≤ vk v ∧ vk v < 2147483648 by omega)]
end CST
