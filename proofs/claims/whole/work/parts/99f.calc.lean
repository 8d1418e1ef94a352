/-! ===== a new State (not yet compiled) ===== -/
section CALC
variable {σ : MS} {k s : Nat}
theorem al_I : gI (alS σ) k s = if nC σ ≤ k ∧ k < nC σ + 4 then 0 else gI σ k s := rfl
theorem al_L : gL (alS σ) k s = if nC σ ≤ k ∧ k < nC σ + 4 then 0 else gL σ k s := rfl
theorem al_R : gR (alS σ) k s = if nC σ ≤ k ∧ k < nC σ + 4 then none else gR σ k s := rfl
theorem al_C : nC (alS σ) = nC σ + 4 := rfl
theorem al_kd (h : ¬ (nC σ ≤ k ∧ k < nC σ + 4)) : kd (alS σ) k = kd σ k := by
  have e : (if k = nC σ then ((28, 0) : Nat × Nat) else if k = nC σ + 1 then (4, 1188) else if k = nC σ + 2 then (3, 4) else if k = nC σ + 3 then (3, 64) else σ.2.2.2.2.1 k) = σ.2.2.2.2.1 k := by
    rw [if_neg (by omega), if_neg (by omega), if_neg (by omega), if_neg (by omega)]
  have e' : (alS σ).2.2.2.2.1 k = σ.2.2.2.2.1 k := e
  unfold kd
  rw [e']
  rfl
theorem al_at (h1 : 153 ≤ k) (h2 : k < 1000000) : kd (alS σ) k = if k = nC σ then (28, 0) else if k = nC σ + 1 then (4, 1188) else if k = nC σ + 2 then (3, 4) else if k = nC σ + 3 then (3, 64) else σ.2.2.2.2.1 k := by
  have e1 : strK = 2000000 := rfl
  have e2 : fxN = 153 := rfl
  have e3 : scrK = 1000000 := rfl
  have e4 : strB = 3000000 := rfl
  unfold kd
  rw [if_neg (by omega), if_neg (by omega), if_neg (by omega), if_neg (by omega)]
  rfl
theorem al_st (h1 : 153 ≤ nC σ) (h2 : nC σ + 4 ≤ 1000000) : isSt (alS σ) (nC σ) := by
  refine ⟨?_, ?_, ?_, ?_⟩
  · rw [al_at h1 (by omega), if_pos rfl]
  · rw [al_at (by omega) (by omega), if_neg (by omega), if_pos (by omega)]
  · rw [al_at (by omega) (by omega), if_neg (by omega), if_neg (by omega), if_pos (by omega)]
  · rw [al_at (by omega) (by omega), if_neg (by omega), if_neg (by omega), if_neg (by omega), if_pos (by omega)]
/-- the last before n -/
def lnd (P : Nat → Bool) : Nat → Option Nat
  | 0 => none
  | n + 1 => if P n = true then some n else lnd P n
theorem lnd_b {P : Nat → Bool} : ∀ n : Nat, lnd P n = some k → k < n ∧ P k = true := by
  intro n
  induction n with
  | zero => intro h; cases h
  | succ n ih =>
    intro h
    have h : (if P n = true then some n else lnd P n) = some k := h
    by_cases c : P n = true
    · rw [if_pos c] at h
      have e : n = k := Option.some.inj h
      rw [← e]
      exact ⟨Nat.lt_succ_self _, c⟩
    · rw [if_neg c] at h
      obtain ⟨a, b⟩ := ih h
      exact ⟨Nat.lt_succ_of_lt a, b⟩
theorem lnd_g {P Q : Nat → Bool} : ∀ n : Nat, (∀ j, j < n → P j = Q j) → lnd P n = lnd Q n := by
  intro n
  induction n with
  | zero => intro _; rfl
  | succ n ih =>
    intro h
    show (if P n = true then some n else lnd P n) = (if Q n = true then some n else lnd Q n)
    rw [h n (Nat.lt_succ_self _), ih (fun j hj => h j (Nat.lt_succ_of_lt hj))]
theorem fnd_g {P Q : Nat → Bool} : ∀ f m : Nat, (∀ j, m ≤ j → j < m + f → P j = Q j) → fnd P f m = fnd Q f m := by
  intro f
  induction f with
  | zero => intro m _; rfl
  | succ f ih =>
    intro m h
    show (if P m = true then some m else fnd P f (m + 1)) = (if Q m = true then some m else fnd Q f (m + 1))
    rw [h m (Nat.le_refl _) (by omega), ih (m + 1) (fun j h1 h2 => h j (by omega) (by omega))]
/-- one more at the end -/
theorem fnd_s {P : Nat → Bool} : ∀ f m : Nat, fnd P (f + 1) m = (match fnd P f m with
    | some k => some k
    | none => if P (m + f) = true then some (m + f) else none) := by
  intro f
  induction f with
  | zero => intro m; rfl
  | succ f ih =>
    intro m
    show (if P m = true then some m else fnd P (f + 1) (m + 1)) = (match (if P m = true then some m else fnd P f (m + 1)) with
      | some k => some k
      | none => if P (m + (f + 1)) = true then some (m + (f + 1)) else none)
    by_cases c : P m = true
    · rw [if_pos c, if_pos c]
    · rw [if_neg c, if_neg c, ih (m + 1), show m + 1 + f = m + (f + 1) by omega]
/-- none at all: none is the first, none the last -/
theorem fnd_lnd {P : Nat → Bool} : ∀ n : Nat, (fnd P n 0 = none ↔ lnd P n = none) := by
  intro n
  induction n with
  | zero => exact ⟨fun _ => rfl, fun _ => rfl⟩
  | succ n ih =>
    rw [fnd_s]
    show _ ↔ (if P n = true then some n else lnd P n) = none
    rw [Nat.zero_add]
    cases e : fnd P n 0 with
    | some k =>
      have ne : ¬ lnd P n = none := fun z => by rw [ih.mpr z] at e; cases e
      constructor
      · intro z; cases z
      · intro z
        by_cases c : P n = true
        · rw [if_pos c] at z; cases z
        · rw [if_neg c] at z
          exact absurd z ne
    | none =>
      have l := ih.mp e
      show (if P n = true then some n else none) = none ↔ (if P n = true then some n else lnd P n) = none
      by_cases c : P n = true
      · rw [if_pos c, if_pos c]
      · rw [if_neg c, if_neg c, l]
end CALC
