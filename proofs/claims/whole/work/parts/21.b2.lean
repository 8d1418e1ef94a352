/-! ===== numbers of the judge: what they are, in either store ===== -/
theorem u2_same {α : Type} (f : Nat → Nat → α) (k s : Nat) (a b : α) : u2 (u2 f k s a) k s b = u2 f k s b := by
  funext x y
  unfold u2
  split <;> rfl
theorem u2_comm {α : Type} (f : Nat → Nat → α) {k s k' s' : Nat} (a b : α) (h : ¬ (k' = k ∧ s' = s)) : u2 (u2 f k s a) k' s' b = u2 (u2 f k' s' b) k s a := by
  funext x y
  unfold u2
  by_cases h1 : x = k ∧ y = s
  · by_cases h2 : x = k' ∧ y = s'
    · exact absurd ⟨h2.1.symm.trans h1.1, h2.2.symm.trans h1.2⟩ h
    · rw [if_neg h2, if_pos h1, if_pos h1]
  · by_cases h2 : x = k' ∧ y = s'
    · rw [if_pos h2, if_neg h1, if_pos h2]
    · rw [if_neg h2, if_neg h1, if_neg h1, if_neg h2]
theorem u2_eta {α : Type} (f : Nat → Nat → α) (k s : Nat) : u2 f k s (f k s) = f := by
  funext x y
  unfold u2
  split
  · rename_i h; rw [h.1, h.2]
  · rfl
theorem sL_same (σ : MS) (k s : Nat) (a b : BitVec 64) : sL (sL σ k s a) k s b = sL σ k s b := by
  unfold sL
  rw [u2_same]
theorem sI_same (σ : MS) (k s : Nat) (a b : Int) : sI (sI σ k s a) k s b = sI σ k s b := by
  unfold sI
  rw [u2_same]
theorem sL_comm {σ : MS} {k s k' s' : Nat} {a b : BitVec 64} (h : ¬ (k' = k ∧ s' = s)) : sL (sL σ k s a) k' s' b = sL (sL σ k' s' b) k s a := by
  unfold sL
  rw [u2_comm _ _ _ h]
theorem sI_comm {σ : MS} {k s k' s' : Nat} {a b : Int} (h : ¬ (k' = k ∧ s' = s)) : sI (sI σ k s a) k' s' b = sI (sI σ k' s' b) k s a := by
  unfold sI
  rw [u2_comm _ _ _ h]
theorem sL_eta (σ : MS) (k s : Nat) : sL σ k s (gL σ k s) = σ := by
  unfold sL gL
  rw [u2_eta]
theorem sI_eta (σ : MS) (k s : Nat) : sI σ k s (gI σ k s) = σ := by
  unfold sI gI
  rw [u2_eta]
theorem sI_sL (σ : MS) (k s k' s' : Nat) (a : BitVec 64) (b : Int) : sI (sL σ k s a) k' s' b = sL (sI σ k' s' b) k s a := rfl
theorem aoK {σ : MS} {c k n : Nat} (h : kd σ k = (20 + c, n)) : ao σ c (some k) = True := by
  refine eq_true ⟨rfl, ?_⟩
  show (kd σ k).1 = _
  rw [h]
/-- the reference's number at a place -/
def rNv (σ : MS) (i : Nat) : N6 := (gL σ 112 i, gL σ 113 i, gL σ 114 i, gL σ 115 i, gL σ 116 i, gL σ 117 i)
def wN (σ : MS) (i : Nat) (n : N6) : MS := sL (sL (sL (sL (sL (sL σ 112 i n.1) 113 i n.2.1) 114 i n.2.2.1) 115 i n.2.2.2.1) 116 i n.2.2.2.2.1) 117 i n.2.2.2.2.2
/-- the class's number, an object -/
def rC (σ : MS) (k : Nat) : N6 := (gL σ k 0, gL σ k 1, gL σ k 2, gL σ k 3, gL σ k 4, gL σ k 5)
def wC (σ : MS) (k : Nat) (n : N6) : MS := sL (sL (sL (sL (sL (sL σ k 0 n.1) k 1 n.2.1) k 2 n.2.2.1) k 3 n.2.2.2.1) k 4 n.2.2.2.2.1) k 5 n.2.2.2.2.2
theorem wN_eta (σ : MS) (i : Nat) : wN σ i (rNv σ i) = σ := by
  unfold wN rNv
  have e : ∀ k, sL σ k i (gL σ k i) = σ := fun k => sL_eta σ k i
  show sL (sL (sL (sL (sL (sL σ 112 i (gL σ 112 i)) 113 i (gL σ 113 i)) 114 i (gL σ 114 i)) 115 i (gL σ 115 i)) 116 i (gL σ 116 i)) 117 i (gL σ 117 i) = σ
  rw [e, e, e, e, e, e]
theorem wC_eta (σ : MS) (k : Nat) : wC σ k (rC σ k) = σ := by
  unfold wC rC
  show sL (sL (sL (sL (sL (sL σ k 0 (gL σ k 0)) k 1 (gL σ k 1)) k 2 (gL σ k 2)) k 3 (gL σ k 3)) k 4 (gL σ k 4)) k 5 (gL σ k 5) = σ
  rw [sL_eta, sL_eta, sL_eta, sL_eta, sL_eta, sL_eta]
section LENS
variable {σ : MS} {i : Nat} {n : N6} {x : BitVec 64}
theorem wN0 : sL (wN σ i n) 112 i x = wN σ i (x, n.2) := by
  unfold wN
  rw [sL_comm (by omega), sL_comm (k := 116) (by omega), sL_comm (k := 115) (by omega), sL_comm (k := 114) (by omega), sL_comm (k := 113) (by omega), sL_same]
theorem wN1 : sL (wN σ i n) 113 i x = wN σ i (n.1, x, n.2.2) := by
  unfold wN
  rw [sL_comm (by omega), sL_comm (k := 116) (by omega), sL_comm (k := 115) (by omega), sL_comm (k := 114) (by omega), sL_same]
theorem wN2 : sL (wN σ i n) 114 i x = wN σ i (n.1, n.2.1, x, n.2.2.2) := by
  unfold wN
  rw [sL_comm (by omega), sL_comm (k := 116) (by omega), sL_comm (k := 115) (by omega), sL_same]
theorem wN3 : sL (wN σ i n) 115 i x = wN σ i (n.1, n.2.1, n.2.2.1, x, n.2.2.2.2) := by
  unfold wN
  rw [sL_comm (by omega), sL_comm (k := 116) (by omega), sL_same]
theorem wN4 : sL (wN σ i n) 116 i x = wN σ i (n.1, n.2.1, n.2.2.1, n.2.2.2.1, x, n.2.2.2.2.2) := by
  unfold wN
  rw [sL_comm (by omega), sL_same]
theorem wN5 : sL (wN σ i n) 117 i x = wN σ i (n.1, n.2.1, n.2.2.1, n.2.2.2.1, n.2.2.2.2.1, x) := by
  unfold wN
  rw [sL_same]
theorem gN0 : gL (wN σ i n) 112 i = n.1 := by simp [wN, gL_sL]
theorem gN1 : gL (wN σ i n) 113 i = n.2.1 := by simp [wN, gL_sL]
theorem gN2 : gL (wN σ i n) 114 i = n.2.2.1 := by simp [wN, gL_sL]
theorem gN3 : gL (wN σ i n) 115 i = n.2.2.2.1 := by simp [wN, gL_sL]
theorem gN4 : gL (wN σ i n) 116 i = n.2.2.2.2.1 := by simp [wN, gL_sL]
theorem gN5 : gL (wN σ i n) 117 i = n.2.2.2.2.2 := by simp [wN, gL_sL]
theorem rN_wN {j : Nat} : rNv (wN σ i n) j = if j = i then n else rNv σ j := by
  by_cases h : j = i
  · subst h
    rw [if_pos rfl]
    unfold rNv
    rw [gN0, gN1, gN2, gN3, gN4, gN5]
  · rw [if_neg h]
    simp [rNv, wN, gL_sL, h]
theorem wN_wN {m : N6} : wN (wN σ i n) i m = wN σ i m := by
  show sL (sL (sL (sL (sL (sL (wN σ i n) 112 i m.1) 113 i m.2.1) 114 i m.2.2.1) 115 i m.2.2.2.1) 116 i m.2.2.2.2.1) 117 i m.2.2.2.2.2 = wN σ i m
  rw [wN0, wN1, wN2, wN3, wN4, wN5]
theorem gI_wN {k s : Nat} : gI (wN σ i n) k s = gI σ k s := rfl
theorem gR_wN {k s : Nat} : gR (wN σ i n) k s = gR σ k s := rfl
theorem kd_wN {k : Nat} : kd (wN σ i n) k = kd σ k := rfl
theorem ab_wN {ty k : Nat} {j : Int} : ab (wN σ i n) ty k j = ab σ ty k j := rfl
theorem ao_wN {c : Nat} {y : Option Nat} : ao (wN σ i n) c y = ao σ c y := rfl
theorem wC0 : sL (wC σ i n) i 0 x = wC σ i (x, n.2) := by
  unfold wC
  rw [sL_comm (by omega), sL_comm (s := 4) (by omega), sL_comm (s := 3) (by omega), sL_comm (s := 2) (by omega), sL_comm (s := 1) (by omega), sL_same]
theorem wC1 : sL (wC σ i n) i 1 x = wC σ i (n.1, x, n.2.2) := by
  unfold wC
  rw [sL_comm (by omega), sL_comm (s := 4) (by omega), sL_comm (s := 3) (by omega), sL_comm (s := 2) (by omega), sL_same]
theorem wC2 : sL (wC σ i n) i 2 x = wC σ i (n.1, n.2.1, x, n.2.2.2) := by
  unfold wC
  rw [sL_comm (by omega), sL_comm (s := 4) (by omega), sL_comm (s := 3) (by omega), sL_same]
theorem wC3 : sL (wC σ i n) i 3 x = wC σ i (n.1, n.2.1, n.2.2.1, x, n.2.2.2.2) := by
  unfold wC
  rw [sL_comm (by omega), sL_comm (s := 4) (by omega), sL_same]
theorem wC4 : sL (wC σ i n) i 4 x = wC σ i (n.1, n.2.1, n.2.2.1, n.2.2.2.1, x, n.2.2.2.2.2) := by
  unfold wC
  rw [sL_comm (by omega), sL_same]
theorem wC5 : sL (wC σ i n) i 5 x = wC σ i (n.1, n.2.1, n.2.2.1, n.2.2.2.1, n.2.2.2.2.1, x) := by
  unfold wC
  rw [sL_same]
theorem gC0 : gL (wC σ i n) i 0 = n.1 := by simp [wC, gL_sL]
theorem gC1 : gL (wC σ i n) i 1 = n.2.1 := by simp [wC, gL_sL]
theorem gC2 : gL (wC σ i n) i 2 = n.2.2.1 := by simp [wC, gL_sL]
theorem gC3 : gL (wC σ i n) i 3 = n.2.2.2.1 := by simp [wC, gL_sL]
theorem gC4 : gL (wC σ i n) i 4 = n.2.2.2.2.1 := by simp [wC, gL_sL]
theorem gC5 : gL (wC σ i n) i 5 = n.2.2.2.2.2 := by simp [wC, gL_sL]
theorem gC_ne {k s : Nat} (h : ¬ k = i) : gL (wC σ i n) k s = gL σ k s := by simp [wC, gL_sL, h]
theorem rC_wC {j : Nat} : rC (wC σ i n) j = if j = i then n else rC σ j := by
  by_cases h : j = i
  · subst h
    rw [if_pos rfl]
    unfold rC
    rw [gC0, gC1, gC2, gC3, gC4, gC5]
  · rw [if_neg h]
    unfold rC
    rw [gC_ne h, gC_ne h, gC_ne h, gC_ne h, gC_ne h, gC_ne h]
theorem wC_wC {m : N6} : wC (wC σ i n) i m = wC σ i m := by
  show sL (sL (sL (sL (sL (sL (wC σ i n) i 0 m.1) i 1 m.2.1) i 2 m.2.2.1) i 3 m.2.2.2.1) i 4 m.2.2.2.2.1) i 5 m.2.2.2.2.2 = wC σ i m
  rw [wC0, wC1, wC2, wC3, wC4, wC5]
theorem gI_wC {k s : Nat} : gI (wC σ i n) k s = gI σ k s := rfl
theorem gR_wC {k s : Nat} : gR (wC σ i n) k s = gR σ k s := rfl
theorem kd_wC {k : Nat} : kd (wC σ i n) k = kd σ k := rfl
theorem ab_wC {ty k : Nat} {j : Int} : ab (wC σ i n) ty k j = ab σ ty k j := rfl
theorem ao_wC {c : Nat} {y : Option Nat} : ao (wC σ i n) c y = ao σ c y := rfl
end LENS
theorem ite_wC {c : Prop} {d : Decidable c} {σ : MS} {i : Nat} {a b : N6} : (@ite MS c d (wC σ i a) (wC σ i b)) = wC σ i (@ite _ c d a b) := by
  split <;> rfl
/-! ===== small numbers ===== -/
theorem w32_i {x : Int} (h0 : -2147483648 ≤ x) (h1 : x < 2147483648) : w32 x = x := w32_id (by unfold inR; omega)
theorem w8_i {x : Int} (h0 : -128 ≤ x) (h1 : x < 128) : w8 x = x := by
  unfold w8
  rw [Int.bmod_def]
  omega
theorem iL_m1 : iL (-1) = cAll := by decide
theorem iL_F : iL 4294967295 = cF := by decide
theorem iL_min : iL (-9223372036854775808) = cMin := by decide
theorem iL_max : iL 9223372036854775807 = cMax := by decide
theorem iL_0 : iL 0 = 0#64 := rfl
theorem iL_1 : iL 1 = 1#64 := rfl
theorem xor_all (x : B64) : x ^^^ cAll = ~~~ x := by
  rw [BitVec.xor_comm]
  exact BitVec.allOnes_xor
theorem t0 : (0#64).toInt = 0 := rfl
theorem lUsh_k (x : B64) {n : Nat} (h : n < 64) : lUsh x (n : Int) = x >>> n := by
  unfold lUsh
  rw [show (((n : Int) % 64).toNat) = n by omega]
theorem lShl_k (x : B64) {n : Nat} (h : n < 64) : lShl x (n : Int) = x <<< n := by
  unfold lShl
  rw [show (((n : Int) % 64).toNat) = n by omega]
theorem lShr_k (x : B64) {n : Nat} (h : n < 64) : lShr x (n : Int) = x.sshiftRight n := by
  unfold lShr
  rw [show (((n : Int) % 64).toNat) = n by omega]
theorem b2_n' {p : Prop} {d : Decidable p} : (¬ @b2 p d = 0) = p := by
  unfold b2
  by_cases h : p <;> simp [h]
theorem b2_0' {p : Prop} {d : Decidable p} : (@b2 p d = 0) = ¬ p := by
  unfold b2
  by_cases h : p <;> simp [h]
theorem b2_1' {p : Prop} {d : Decidable p} : (@b2 p d = 1) = p := by
  unfold b2
  by_cases h : p <;> simp [h]
theorem bl_b2 {p : Prop} {d : Decidable p} : bl (@b2 p d) = True := by
  unfold b2 bl
  split <;> simp
theorem b2_le {p : Prop} {d : Decidable p} : 0 ≤ @b2 p d ∧ @b2 p d ≤ 1 := by
  unfold b2
  split <;> omega
theorem ite_b2 {p : Prop} {d : Decidable p} : (if ¬ p then (0 : Int) else 1) = @b2 p d := by
  unfold b2
  by_cases h : p <;> simp [h]
theorem ite_b2' {p : Prop} {d : Decidable p} : (if ¬ p then (1 : Int) else 0) = b2 (¬ p) := by
  unfold b2
  rfl
