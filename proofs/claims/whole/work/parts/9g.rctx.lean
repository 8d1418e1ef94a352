/-! ===== the reference's runs: a number comes to the mark ===== -/
section RCTX
variable {σ τ ρ : MS} {x : B64} {b k i : Nat} {m v : Int}
def mkB (m : Int) (k : Nat) (v : Int) : Int := iOr (iAnd m (iXor (iShl 255 ((8 * k : Nat) : Int)) (-1))) (iShl (iAnd v 255) ((8 * k : Nat) : Int))
theorem bt255 (j : Nat) : (255#32).getLsbD j = decide (j < 8) := by
  rw [show (255#32 : BitVec 32) = BitVec.ofNat 32 (2 ^ 8 - 1) from rfl, BitVec.getLsbD_ofNat, Nat.testBit_two_pow_sub_one]
  by_cases h : j < 8
  · rw [decide_eq_true h, decide_eq_true (show j < 32 by omega)]
    rfl
  · rw [decide_eq_false h, Bool.and_false]
theorem b32_t (y : BitVec 32) : b32 y.toInt = y := BitVec.ofInt_toInt
theorem b32_sh (a : Int) (hk : k < 4) : b32 (iShl a ((8 * k : Nat) : Int)) = b32 a <<< (8 * k) := by
  unfold iShl b32 w32
  rw [show (((8 * k : Nat) : Int) % 32).toNat = 8 * k by omega]
  apply BitVec.eq_of_toNat_eq
  rw [BitVec.toNat_shiftLeft, Nat.shiftLeft_eq, BitVec.toNat_ofInt, BitVec.toNat_ofInt]
  have e4 : k = 0 ∨ k = 1 ∨ k = 2 ∨ k = 3 := by omega
  rcases e4 with e | e | e | e <;> subst e
  · simp only [Int.bmod_def]
    split <;> omega
  · simp only [Int.bmod_def]
    split <;> omega
  · simp only [Int.bmod_def]
    split <;> omega
  · simp only [Int.bmod_def]
    split <;> omega
theorem mkB_b (hk : k < 4) : b32 (mkB m k v) = (b32 m &&& ~~~(255#32 <<< (8 * k))) ||| ((b32 v &&& 255#32) <<< (8 * k)) := by
  unfold mkB iOr iAnd iXor
  rw [b32_t, b32_t, b32_t, b32_sh _ hk, b32_sh _ hk, b32_t]
  have e1 : b32 255 = 255#32 := rfl
  have e2 : b32 (-1) = BitVec.allOnes 32 := rfl
  rw [e1, e2, BitVec.xor_allOnes]
theorem mkB_g (hk : k < 4) (hi : i < 32) : (b32 (mkB m k v)).getLsbD i = if 8 * k ≤ i ∧ i < 8 * k + 8 then (b32 v).getLsbD (i - 8 * k) else (b32 m).getLsbD i := by
  rw [mkB_b hk, BitVec.getLsbD_or, BitVec.getLsbD_and, BitVec.getLsbD_not, BitVec.getLsbD_shiftLeft, BitVec.getLsbD_shiftLeft, BitVec.getLsbD_and, bt255]
  rw [decide_eq_true hi]
  by_cases h1 : 8 * k ≤ i
  · rw [decide_eq_false (show ¬ i < 8 * k by omega)]
    by_cases h2 : i < 8 * k + 8
    · rw [if_pos ⟨h1, h2⟩, decide_eq_true (show i - 8 * k < 8 by omega)]
      simp
    · rw [if_neg (fun z => h2 z.2), decide_eq_false (show ¬ i - 8 * k < 8 by omega)]
      simp
  · rw [if_neg (fun z => h1 z.1), decide_eq_true (show i < 8 * k by omega)]
    simp
theorem mkB_r : inR (mkB m k v) := by
  unfold mkB iOr
  exact b32_in _
theorem b32_I {y : Int} (h : inR y) : (b32 y).toInt = y := by
  unfold b32
  rw [BitVec.toInt_ofInt]
  exact w32_id h
theorem b32_l (z : B64) : b32 (lI z) = z.setWidth 32 := by
  unfold b32 lI w32
  apply BitVec.eq_of_toNat_eq
  rw [BitVec.toNat_ofInt, BitVec.toNat_setWidth]
  have e := toInt_c z
  rw [Int.bmod_def]
  split at e <;> split <;> omega
theorem by_g (hk : k < 4) {j : Nat} (hj : j < 8) : (b32 (iAnd (lI (lUsh x (w32 (8 * (k : Int))))) 255)).getLsbD j = x.getLsbD (8 * k + j) := by
  have e1 : w32 (8 * (k : Int)) = ((8 * k : Nat) : Int) := by
    rw [w32_i (by omega) (by omega)]
    omega
  have e2 : lUsh x ((8 * k : Nat) : Int) = x >>> (8 * k) := by
    unfold lUsh
    rw [show (((8 * k : Nat) : Int) % 64).toNat = 8 * k by omega]
  rw [e1, e2]
  unfold iAnd
  rw [b32_t, show b32 255 = 255#32 from rfl, BitVec.getLsbD_and, bt255, decide_eq_true hj, Bool.and_true, b32_l, BitVec.getLsbD_setWidth, BitVec.getLsbD_ushiftRight, decide_eq_true (show j < 32 by omega), Bool.true_and]
abbrev byI (x : B64) (k : Nat) : Int := iAnd (lI (lUsh x (w32 (8 * (k : Int))))) 255
theorem mk4 : mkB (mkB (mkB (mkB m 0 (byI x 0)) 1 (byI x 1)) 2 (byI x 2)) 3 (byI x 3) = lI x := by
  have r := b32_I (mkB_r (m := mkB (mkB (mkB m 0 (byI x 0)) 1 (byI x 1)) 2 (byI x 2)) (k := 3) (v := byI x 3))
  rw [← r, ← b32_I (show inR (lI x) from w32_in _)]
  congr 1
  apply BitVec.eq_of_getLsbD_eq
  intro i hi
  rw [b32_l x, BitVec.getLsbD_setWidth, decide_eq_true hi, Bool.true_and, mkB_g (by decide) hi]
  by_cases h3 : 8 * 3 ≤ i ∧ i < 8 * 3 + 8
  · rw [if_pos h3, by_g (by decide) (by omega)]
    congr 1
    omega
  · rw [if_neg h3, mkB_g (by decide) hi]
    by_cases h2 : 8 * 2 ≤ i ∧ i < 8 * 2 + 8
    · rw [if_pos h2, by_g (by decide) (by omega)]
      congr 1
      omega
    · rw [if_neg h2, mkB_g (by decide) hi]
      by_cases h1 : 8 * 1 ≤ i ∧ i < 8 * 1 + 8
      · rw [if_pos h1, by_g (by decide) (by omega)]
        congr 1
        omega
      · rw [if_neg h1, mkB_g (by decide) hi, if_pos (by omega), by_g (by decide) (by omega)]
        congr 1
        omega
theorem T554c (hk : k < 4) : MM 554 [mR (some 80), mL (adR 1 + BitVec.ofNat 64 (12 + k)), mI v] σ = some (none, sI σ 80 106 (mkB (gI σ 80 106) k v)) := by
  have a1 := ad_o (o := 1) (k := 12 + k) (by omega) (by omega)
  have a2 := ad_k (o := 1) (k := 12 + k) (by omega) (by omega)
  have e : w32 (8 * iAnd ((12 + k : Nat) : Int) 3) = ((8 * k : Nat) : Int) := by
    rw [iAnd3, w32_i (by omega) (by omega)]
    omega
  rw [M554, e554_0, a1, a2, if_neg (by decide), e]
  rfl
theorem T556c : MM 556 [mR (some 80), mL (adR 1 + BitVec.ofNat 64 12), mI 4, mL x] σ = some (none, sI σ 80 106 (lI x)) := by
  have t : ∀ (k : Nat) (ρ : MS), k < 4 → MM 554 [mR (some 80), mL (adR 1 + BitVec.ofNat 64 12 + iL (k : Int)), mI (byI x k)] ρ = some (none, sI ρ 80 106 (mkB (gI ρ 80 106) k (byI x k))) := fun k ρ hk => by
    rw [ad_s, nat_s]
    exact T554c hk
  have g : ∀ (ρ : MS) (y : Int), gI (sI ρ 80 106 y) 80 106 = y := fun ρ y => by rw [gI_sI, if_pos ⟨rfl, rfl⟩]
  have st : ∀ (k : Nat) (ρ : MS), k < 4 → RR (lkB tb556) (B556_3, [some (mR (some 80)), some (mL (adR 1 + BitVec.ofNat 64 12)), none, some (mI 4), some (mL x), none, some (mI (k : Int))], [], ρ) = RR (lkB tb556) (B556_3, [some (mR (some 80)), some (mL (adR 1 + BitVec.ofNat 64 12)), none, some (mI 4), some (mL x), none, some (mI ((k + 1 : Nat) : Int))], [], sI ρ 80 106 (mkB (gI ρ 80 106) k (byI x k))) := fun k ρ hk => by
    have e3 : w32 ((k : Int) + 1) = ((k + 1 : Nat) : Int) := w32_s (by omega)
    rw [e556_3, if_neg (by omega), t k ρ hk]
    simp only [Option.bind_some, Option.toList_none, List.nil_append, e556_31, e3]
  have s0 := st 0 σ (by decide)
  have s0' : RR (lkB tb556) (B556_3, [some (mR (some 80)), some (mL (adR 1 + BitVec.ofNat 64 12)), none, some (mI 4), some (mL x), none, some (mI 0)], [], σ) = _ := s0
  rw [M556, e556_0, s0', st (0 + 1) _ (by decide), st (0 + 1 + 1) _ (by decide), st (0 + 1 + 1 + 1) _ (by decide), e556_3, if_pos (by decide)]
  rw [g, g, g, sI_same, sI_same, sI_same]
  exact congrArg (fun y => some (none, sI σ 80 106 y)) mk4
end RCTX
