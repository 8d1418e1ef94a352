-- FILE 23.ar
/-! ===== bits and division ===== -/
theorem bit_and1 (z : B64) (k : Nat) : (z >>> k &&& 1#64 = 0#64) ↔ z.getLsbD k = false := by
  constructor
  · intro h
    have := congrArg (fun x => BitVec.getLsbD x 0) h
    simpa using this
  · intro h
    apply BitVec.eq_of_getLsbD_eq
    intro i hi
    by_cases h0 : i = 0
    · subst h0; simp [h]
    · have : (1#64).getLsbD i = false := by
        rw [BitVec.getLsbD_ofNat]
        have : Nat.testBit 1 i = false := by
          cases i with
          | zero => exact absurd rfl h0
          | succ n => simp [Nat.testBit_succ]
        simp [this]
      simp [this]
theorem sgnx (a b : B64) : (a ^^^ b).toInt < 0 ↔ ¬ (0 ≤ a.toInt ↔ 0 ≤ b.toInt) := by
  have e : ∀ x : BitVec 64, x.msb = decide (x.toInt < 0) := fun x => BitVec.msb_eq_toInt
  have h := BitVec.msb_xor (x := a) (y := b)
  rw [e, e, e] at h
  by_cases h1 : a.toInt < 0 <;> by_cases h2 : b.toInt < 0 <;> simp [h1, h2] at h <;> omega
theorem all_bit (j : Nat) : cAll.getLsbD j = decide (j < 64) := by
  have : cAll = BitVec.allOnes 64 := by decide
  rw [this, BitVec.getLsbD_allOnes]
set_option maxRecDepth 100000 in
theorem M74 {x0 : BitVec 64} {σ : MS} : MM 74 [mL x0] σ = RR (lkB tb74) (B74_0, [some (mL x0), none, none, none], [], σ) := rfl
theorem T74 {x0 : B64} {σ : MS} : MM 74 [mL x0] σ = some (some (mL (sprd x0)), σ) := by
  have A : RR (lkB tb74) (B74_0, [some (mL x0), none, none, none], [], σ) = RR (lkB tb74) (B74_0.drop 7, [some (mL x0), none, some (mL (x0 ||| lUsh x0 1)), none], [], σ) := RR_ev _ 7 _
  have S2 : ∀ y : BitVec 64, RR (lkB tb74) (B74_0.drop 7, [some (mL x0), none, some (mL y), none], [], σ) = RR (lkB tb74) (B74_0.drop 13, [some (mL x0), none, some (mL (y ||| lUsh y 2)), none], [], σ) := fun y => RR_ev _ 6 _
  have S4 : ∀ y : BitVec 64, RR (lkB tb74) (B74_0.drop 13, [some (mL x0), none, some (mL y), none], [], σ) = RR (lkB tb74) (B74_0.drop 19, [some (mL x0), none, some (mL (y ||| lUsh y 4)), none], [], σ) := fun y => RR_ev _ 6 _
  have S8 : ∀ y : BitVec 64, RR (lkB tb74) (B74_0.drop 19, [some (mL x0), none, some (mL y), none], [], σ) = RR (lkB tb74) (B74_0.drop 25, [some (mL x0), none, some (mL (y ||| lUsh y 8)), none], [], σ) := fun y => RR_ev _ 6 _
  have S16 : ∀ y : BitVec 64, RR (lkB tb74) (B74_0.drop 25, [some (mL x0), none, some (mL y), none], [], σ) = RR (lkB tb74) (B74_0.drop 31, [some (mL x0), none, some (mL (y ||| lUsh y 16)), none], [], σ) := fun y => RR_ev _ 6 _
  have R : ∀ y : BitVec 64, RR (lkB tb74) (B74_0.drop 31, [some (mL x0), none, some (mL y), none], [], σ) = some (some (mL (y ||| lUsh y 32)), σ) := fun y => RR_ev _ 6 _
  rw [M74, A, S2, S4, S8, S16, R]
  rfl
/-! how many lowest bits are 0 -/
theorem L450 {x : B64} {σ : MS} : ∀ k : Nat, k ≤ 64 → RR (lkB tb450) (B450_2, [some (mL x), none, some (mI ((64 - k : Nat) : Int))], [], σ) = some (some (mI (lowK x k)), σ) := by
  intro k
  induction k with
  | zero =>
    intro _
    rw [e450_2, if_pos (by omega)]
    rfl
  | succ k ih =>
    intro hk
    rw [e450_2, if_neg (by omega), lUsh_k _ (by omega)]
    have e : 64 - (k + 1) = 63 - k := by omega
    rw [e]
    by_cases hb : x.getLsbD (63 - k) = true
    · rw [if_pos (fun q => by rw [bit_and1] at q; rw [q] at hb; cases hb)]
      unfold lowK
      rw [if_pos hb]
    · have hb2 : x.getLsbD (63 - k) = false := by simpa using hb
      rw [if_neg (fun q => q ((bit_and1 _ _).mpr hb2))]
      have e2 : w32 (((63 - k : Nat) : Int) + 1) = ((64 - k : Nat) : Int) := by
        rw [w32_i (by omega) (by omega)]
        omega
      rw [e2, ih (by omega)]
      show _ = some (some (mI ((if x.getLsbD (63 - k) = true then 63 - k else lowK x k : Nat) : Int)), σ)
      rw [if_neg hb]
theorem T450 {x : B64} {σ : MS} : MM 450 [mL x] σ = some (some (mI (lowZ x)), σ) := by
  rw [M450, e450_0]
  exact L450 64 (Nat.le_refl _)
theorem low_mask (x : B64) : (x &&& (-x)) - 1#64 = BitVec.ofNat 64 (2 ^ lowZ x - 1) := by
  by_cases h : lowZ x < 64
  · have e : x &&& (-x) = BitVec.twoPow 64 (lowZ x) := by
      apply BitVec.eq_of_getLsbD_eq
      intro j hj
      rw [BitVec.getLsbD_and, BitVec.getLsbD_neg, BitVec.getLsbD_twoPow]
      by_cases c1 : j = lowZ x
      · have : ¬ ∃ i, i < lowZ x ∧ x.getLsbD i = true := fun ⟨i, a1, a2⟩ => by
          rw [lowZ_lo x a1] at a2
          cases a2
        rw [c1, lowZ_hi x h]
        simp [h, this]
      · by_cases c2 : j < lowZ x
        · rw [lowZ_lo x c2]
          simp [show ¬ lowZ x = j by omega]
        · have : ∃ i, i < j ∧ x.getLsbD i = true := ⟨lowZ x, by omega, lowZ_hi x h⟩
          cases hx : x.getLsbD j <;> simp [hj, this, show ¬ lowZ x = j by omega]
    rw [e]
    apply BitVec.eq_of_toNat_eq
    have p1 : 1 ≤ 2 ^ lowZ x := Nat.one_le_two_pow
    have p2 : 2 ^ lowZ x < 2 ^ 64 := Nat.pow_lt_pow_right (by omega) h
    rw [BitVec.toNat_sub, BitVec.toNat_twoPow_of_lt h, BitVec.toNat_ofNat, BitVec.toNat_ofNat]
    omega
  · have z : lowZ x = 64 := Nat.le_antisymm (lowZ_le x) (by omega)
    have x0 : x = 0#64 := by
      apply BitVec.eq_of_getLsbD_eq
      intro j hj
      rw [lowZ_lo x (by omega)]
      simp
    rw [z, x0]
    decide
def bcX (x : BitVec 64) : BitVec 64 := x - (lUsh x 1 &&& iL 6148914691236517205)
def bcB (x : BitVec 64) : BitVec 64 := (bcX x &&& iL 3689348814741910323) + (lUsh (bcX x) 2 &&& iL 3689348814741910323)
def bcC (x : BitVec 64) : BitVec 64 := (bcB x + lUsh (bcB x) 4) &&& iL 1085102592571150095
def bcD (x : BitVec 64) : BitVec 64 := bcC x + lUsh (bcC x) 8
def bcE (x : BitVec 64) : BitVec 64 := bcD x + lUsh (bcD x) 16
def bcF (x : BitVec 64) : Int := iAnd (lI (bcE x + lUsh (bcE x) 32)) 127
set_option maxRecDepth 100000 in
theorem M569 {x0 : BitVec 64} {σ : MS} : MM 569 [mL x0] σ = RR (lkB tb569) (B569_0, [some (mL x0), none], [], σ) := rfl
theorem T569 {x : BitVec 64} {σ : MS} : MM 569 [mL x] σ = some (some (mI (bcF x)), σ) := by
  have A : ∀ y : BitVec 64, RR (lkB tb569) (B569_0, [some (mL y), none], [], σ) = RR (lkB tb569) (B569_0.drop 9, [some (mL (y - (lUsh y 1 &&& iL 6148914691236517205))), none], [], σ) := fun y => RR_ev _ 9 _
  have S2 : ∀ y : BitVec 64, RR (lkB tb569) (B569_0.drop 9, [some (mL y), none], [], σ) = RR (lkB tb569) (B569_0.drop 19, [some (mL ((y &&& iL 3689348814741910323) + (lUsh y 2 &&& iL 3689348814741910323))), none], [], σ) := fun y => RR_ev _ 10 _
  have S3 : ∀ y : BitVec 64, RR (lkB tb569) (B569_0.drop 19, [some (mL y), none], [], σ) = RR (lkB tb569) (B569_0.drop 27, [some (mL ((y + lUsh y 4) &&& iL 1085102592571150095)), none], [], σ) := fun y => RR_ev _ 8 _
  have S4 : ∀ y : BitVec 64, RR (lkB tb569) (B569_0.drop 27, [some (mL y), none], [], σ) = RR (lkB tb569) (B569_0.drop 33, [some (mL (y + lUsh y 8)), none], [], σ) := fun y => RR_ev _ 6 _
  have S5 : ∀ y : BitVec 64, RR (lkB tb569) (B569_0.drop 33, [some (mL y), none], [], σ) = RR (lkB tb569) (B569_0.drop 39, [some (mL (y + lUsh y 16)), none], [], σ) := fun y => RR_ev _ 6 _
  have S6 : ∀ y : BitVec 64, RR (lkB tb569) (B569_0.drop 39, [some (mL y), none], [], σ) = RR (lkB tb569) (B569_0.drop 45, [some (mL (y + lUsh y 32)), none], [], σ) := fun y => RR_ev _ 6 _
  have R : ∀ y : BitVec 64, RR (lkB tb569) (B569_0.drop 45, [some (mL y), none], [], σ) = some (some (mI (iAnd (lI y) 127)), σ) := fun y => RR_ev _ 5 _
  rw [M569, A, S2, S3, S4, S5, S6, R]
  rfl
theorem bc_all : (List.range 65).all (fun n => decide (bcF (BitVec.ofNat 64 (2 ^ n - 1)) = (n : Int))) = true := by decide +kernel
theorem bc_low (x : B64) : bcF ((x &&& (-x)) - 1#64) = (lowZ x : Int) := by
  have h := List.all_eq_true.mp bc_all (lowZ x) (List.mem_range.mpr (by have := lowZ_le x; omega))
  rw [low_mask]
  exact of_decide_eq_true h
theorem bc_one_all : (List.range 65).all (fun n => decide (bcF (BitVec.ofNat 64 (2 ^ n)) = if n = 64 then 0 else 1)) = true := by decide +kernel
theorem T80 {k : Nat} {σ : MS} (hk : kd σ k = (22, 0)) : MM 80 [mR (some k)] σ = some (some (mI (lowZ (gL σ k 0 ||| gL σ k 1))), σ) := by
  rw [M80]
  try simp only [e80_0, Option.getD_some, Option.bind_some, Option.toList_some, Option.toList_none, List.cons_append, List.nil_append, and_self, and_true, true_and, false_and, and_false, ite_self, not_true_eq_false, not_false_eq_true, reduceIte, Nat.reduceEqDiff, ab_I, ab_L, ab_R, ao_I, ao_L, ao_R, gL_sL, gI_sI, gR_sR, gI_sL, gI_sR, gL_sI, gL_sR, gR_sI, gR_sL, aoK hk, T569, bc_low]
  try simp only [mrgI, mrgL, mrg0, rtI, rtL, ite_self]
  try simp only [e80_19, Option.getD_some, Option.bind_some, Option.toList_some, Option.toList_none, List.cons_append, List.nil_append, and_self, and_true, true_and, false_and, and_false, ite_self, not_true_eq_false, not_false_eq_true, reduceIte, Nat.reduceEqDiff, ab_I, ab_L, ab_R, ao_I, ao_L, ao_R, gL_sL, gI_sI, gR_sR, gI_sL, gI_sR, gL_sI, gL_sR, gR_sI, gR_sL, aoK hk, T569, bc_low]
  try simp only [mrgI, mrgL, mrg0, rtI, rtL, ite_self]
/-! division -/
def dvJ (x y : B64) : B64 :=
  if y = 0#64 then 0#64
  else if 0 ≤ y.toInt then
    (if x.toInt < 0 then
      (if x - (lShl (BitVec.sdiv (lUsh x 1) y) 1) * y < y then lShl (BitVec.sdiv (lUsh x 1) y) 1 else lShl (BitVec.sdiv (lUsh x 1) y) 1 + 1#64)
     else BitVec.sdiv x y)
  else if x < y then 0#64 else 1#64
theorem sdiv_pos {x y : B64} (hx : 0 ≤ x.toInt) (hy : 0 ≤ y.toInt) : BitVec.sdiv x y = x / y := by
  have mx : x.msb = false := by rw [BitVec.msb_eq_toInt]; exact decide_eq_false (by omega)
  have my : y.msb = false := by rw [BitVec.msb_eq_toInt]; exact decide_eq_false (by omega)
  rw [BitVec.sdiv_eq, mx, my]
  rfl
/-- the division without sign -/
theorem dvJ_eq (x y : B64) : dvJ x y = x / y := by
  have hx := x.isLt
  have hy := y.isLt
  have ex := toInt_c x
  have ey := toInt_c y
  unfold dvJ
  by_cases y0 : y = 0#64
  · rw [if_pos y0, y0]
    simp
  · have yp : 0 < y.toNat := by
      refine Nat.pos_of_ne_zero fun e => y0 ?_
      exact BitVec.eq_of_toNat_eq e
    rw [if_neg y0]
    by_cases c : 0 ≤ y.toInt
    · rw [if_pos c]
      have ylt : y.toNat < 9223372036854775808 := by split at ey <;> omega
      by_cases d : x.toInt < 0
      · rw [if_pos d]
        have xge : 9223372036854775808 ≤ x.toNat := by split at ex <;> omega
        have eh : lUsh x 1 = x >>> 1 := lUsh_k x (n := 1) (by omega)
        have hn : (x >>> 1).toNat = x.toNat / 2 := by rw [BitVec.toNat_ushiftRight]; rfl
        have hp : 0 ≤ (x >>> 1).toInt := by
          rw [toInt_c, hn]
          split <;> omega
        rw [eh, sdiv_pos hp c]
        have el : lShl ((x >>> 1) / y) 1 = ((x >>> 1) / y) <<< 1 := lShl_k _ (n := 1) (by omega)
        rw [el]
        have q1 : ((x >>> 1) / y).toNat = x.toNat / 2 / y.toNat := by rw [BitVec.toNat_udiv, hn]
        generalize hq : x.toNat / 2 / y.toNat = q at *
        have dq := Nat.div_add_mod (x.toNat / 2) y.toNat
        have rq := Nat.mod_lt (x.toNat / 2) yp
        rw [hq] at dq
        generalize x.toNat / 2 % y.toNat = r at *
        have qle : q ≤ x.toNat / 2 := by rw [← hq]; exact Nat.div_le_self _ _
        have q2 : (((x >>> 1) / y) <<< 1).toNat = 2 * q := by
          rw [BitVec.toNat_shiftLeft, q1, Nat.shiftLeft_eq]
          omega
        have ym : 2 * q * y.toNat = 2 * (y.toNat * q) := by rw [Nat.mul_assoc, Nat.mul_comm q]
        have pr : ((((x >>> 1) / y) <<< 1) * y).toNat = 2 * (y.toNat * q) := by
          rw [BitVec.toNat_mul, q2, ym]
          omega
        have sb : (x - (((x >>> 1) / y) <<< 1) * y).toNat = x.toNat - 2 * (y.toNat * q) := by
          rw [BitVec.toNat_sub, pr]
          omega
        have dx := Nat.div_add_mod x.toNat y.toNat
        have rx := Nat.mod_lt x.toNat yp
        by_cases lt : x - (((x >>> 1) / y) <<< 1) * y < y
        · rw [if_pos lt]
          rw [BitVec.lt_def, sb] at lt
          apply BitVec.eq_of_toNat_eq
          rw [q2, BitVec.toNat_udiv]
          refine (Nat.div_eq_of_lt_le ?_ ?_).symm
          · rw [ym]; omega
          · rw [Nat.add_mul, ym]; omega
        · rw [if_neg lt]
          rw [BitVec.lt_def, sb] at lt
          apply BitVec.eq_of_toNat_eq
          have e1 : (1#64).toNat = 1 := rfl
          rw [BitVec.toNat_add, q2, e1, BitVec.toNat_udiv]
          have : x.toNat / y.toNat = 2 * q + 1 := by
            refine Nat.div_eq_of_lt_le ?_ ?_
            · rw [Nat.add_mul, ym]; omega
            · rw [Nat.add_mul, Nat.add_mul, ym]; omega
          rw [this]
          have := Nat.div_le_self x.toNat y.toNat
          omega
      · rw [if_neg d]
        exact sdiv_pos (by omega) c
    · rw [if_neg c]
      have yge : 9223372036854775808 ≤ y.toNat := by split at ey <;> omega
      by_cases lt : x < y
      · rw [if_pos lt]
        apply BitVec.eq_of_toNat_eq
        rw [BitVec.toNat_udiv]
        rw [BitVec.lt_def] at lt
        exact (Nat.div_eq_of_lt lt).symm
      · rw [if_neg lt]
        apply BitVec.eq_of_toNat_eq
        rw [BitVec.toNat_udiv]
        rw [BitVec.lt_def] at lt
        have : x.toNat / y.toNat = 1 := by
          refine Nat.div_eq_of_lt_le ?_ ?_ <;> omega
        rw [this]
        rfl
theorem zlit : (0 : BitVec 64) = 0#64 := rfl
theorem T423 {x y : B64} {σ : MS} : MM 423 [mL x, mL y] σ = some (some (mL (x / y)), σ) := by
  rw [← dvJ_eq, M423, e423_0]
  unfold dvJ
  simp only [t0, zlit, T389, Option.bind_some, Option.toList_some, List.cons_append, List.nil_append, e423_19, e423_59, b2_0']
  by_cases h1 : y = 0#64
  · simp only [h1, not_true_eq_false, if_false, if_true]
  · simp only [h1, not_false_eq_true, if_false, if_true]
    have z : ∀ q : B64, q + 0#64 = q := fun q => by simp
    simp only [z]
    split <;> rename_i h2
    · split <;> rename_i h3
      · split <;> rename_i h4
        · rw [if_neg h4]
        · rw [if_pos (Decidable.not_not.mp h4)]
      · rfl
    · split <;> rename_i h3
      · rw [if_neg h3]
      · rw [if_pos (Decidable.not_not.mp h3)]
theorem rem_eq (x y : B64) : (if y = 0#64 then x else x - x / y * y) = x % y := by
  by_cases h : y = 0#64
  · rw [if_pos h, h]
    simp
  · rw [if_neg h]
    apply BitVec.eq_of_toNat_eq
    have hx := x.isLt
    have d := Nat.div_add_mod x.toNat y.toNat
    have e : x.toNat / y.toNat * y.toNat = y.toNat * (x.toNat / y.toNat) := Nat.mul_comm _ _
    rw [BitVec.toNat_sub, BitVec.toNat_mul, BitVec.toNat_udiv, BitVec.toNat_umod, e]
    have : y.toNat * (x.toNat / y.toNat) ≤ x.toNat := Nat.mul_div_le _ _
    omega
theorem rem_eq2 (x y : B64) : x - x / y * y = x % y := by
  rw [← rem_eq]
  by_cases h : y = 0#64
  · rw [if_pos h, h]
    simp
  · rw [if_neg h]
theorem T424 {x y : B64} {σ : MS} : MM 424 [mL x, mL y] σ = some (some (mL (x % y)), σ) := by
  rw [← rem_eq]
  rw [M424]
  try simp only [e424_0, Option.getD_some, Option.bind_some, Option.toList_some, Option.toList_none, List.cons_append, List.nil_append, and_self, and_true, true_and, false_and, and_false, ite_self, not_true_eq_false, not_false_eq_true, reduceIte, Nat.reduceEqDiff, ab_I, ab_L, ab_R, ao_I, ao_L, ao_R, gL_sL, gI_sI, gR_sR, gI_sL, gI_sR, gL_sI, gL_sR, gR_sI, gR_sL, T423]
  try simp only [mrgI, mrgL, mrg0, rtI, rtL, ite_self]
  try simp only [e424_16, Option.getD_some, Option.bind_some, Option.toList_some, Option.toList_none, List.cons_append, List.nil_append, and_self, and_true, true_and, false_and, and_false, ite_self, not_true_eq_false, not_false_eq_true, reduceIte, Nat.reduceEqDiff, ab_I, ab_L, ab_R, ao_I, ao_L, ao_R, gL_sL, gI_sI, gR_sR, gI_sL, gI_sR, gL_sI, gL_sR, gR_sI, gR_sL, T423]
  try simp only [mrgI, mrgL, mrg0, rtI, rtL, ite_self]
  by_cases h : y = 0#64 <;> simp [h]
theorem T425 {x : B64} {b : Nat} {σ : MS} (h0 : 1 ≤ b) (h1 : b ≤ 64) : MM 425 [mL x, mI b] σ = some (some (mL (sxt b x)), σ) := by
  rw [M425, e425_0, w32_i (by omega) (by omega), show (64 : Int) - (b : Int) = ((64 - b : Nat) : Int) by omega, lShl_k _ (by omega), lShr_k _ (by omega)]
  rfl
theorem T427 {x : B64} {b : Nat} {σ : MS} (h1 : b ≤ 64) : MM 427 [mL x, mI b] σ = some (some (mL (lowB b x)), σ) := by
  rw [M427, e427_0]
  unfold lowB
  by_cases h : b = 64
  · rw [if_pos (by omega), if_pos h]
  · rw [if_neg (by omega), if_neg h, lShl_k _ (by omega)]
-- FILE 24.reck
/-! ===== what operations make of numbers: reference and class ===== -/
theorem sxt_toInt (x : B64) : iL (lI x) = sxt 32 x := by
  apply BitVec.eq_of_toInt_eq
  have h1 := toInt_c x
  have hx := x.isLt
  have e1 : (iL (lI x)).toInt = x.toInt.bmod 4294967296 := by
    unfold iL lI w32
    rw [BitVec.toInt_ofInt, Int.bmod_def, Int.bmod_def]
    split <;> split <;> omega
  have e2 : (sxt 32 x).toInt = ((x.toNat * 4294967296 : Nat) : Int).bmod 18446744073709551616 / 4294967296 := by
    unfold sxt
    rw [BitVec.toInt_sshiftRight, BitVec.toInt_shiftLeft, Int.shiftRight_eq_div_pow, Nat.shiftLeft_eq]
    rfl
  rw [e1, e2, h1, Int.bmod_def, Int.bmod_def]
  split <;> split <;> split <;> omega
theorem iAnd_nat {a b : Int} {n : Nat} (h : (b32 a).toNat &&& (b32 b).toNat = n) (hn : n < 2147483648) : iAnd a b = (n : Int) := by
  unfold iAnd
  rw [BitVec.toInt_eq_toNat_cond, BitVec.toNat_and, h, if_pos (by omega)]
theorem b32_nat (a : Int) : (b32 a).toNat = (a % 4294967296).toNat := by
  unfold b32
  rw [BitVec.toNat_ofInt]
  rfl
theorem iAnd_mask {a : Int} {k : Nat} (hk : k < 32) : iAnd a ((2 ^ k : Nat) - 1 : Int) = a % (2 ^ k : Nat) := by
  have p1 : 2 ^ k ≤ 2 ^ 31 := Nat.pow_le_pow_right (by omega) (by omega)
  have p0 : 0 < 2 ^ k := Nat.pow_pos (by omega)
  have e1 : (b32 ((2 ^ k : Nat) - 1 : Int)).toNat = 2 ^ k - 1 := by
    rw [b32_nat]
    omega
  have e2 : ((a % 4294967296).toNat % 2 ^ k : Nat) = (a % ((2 ^ k : Nat) : Int)).toNat := by
    have d : ((2 ^ k : Nat) : Int) ∣ 4294967296 := by
      have : (2 ^ k : Nat) ∣ 2 ^ 32 := Nat.pow_dvd_pow 2 (by omega)
      exact Int.natCast_dvd_natCast.mpr this
    have q := Int.emod_emod_of_dvd a d
    have n1 : 0 ≤ a % 4294967296 := Int.emod_nonneg _ (by omega)
    have n2 : 0 ≤ a % ((2 ^ k : Nat) : Int) := Int.emod_nonneg _ (by omega)
    have : (((a % 4294967296).toNat % 2 ^ k : Nat) : Int) = a % ((2 ^ k : Nat) : Int) := by
      rw [Int.natCast_emod, Int.toNat_of_nonneg n1]
      exact q
    omega
  have n2 : 0 ≤ a % ((2 ^ k : Nat) : Int) := Int.emod_nonneg _ (by omega)
  have n3 : a % ((2 ^ k : Nat) : Int) < ((2 ^ k : Nat) : Int) := Int.emod_lt_of_pos _ (by omega)
  rw [iAnd_nat (n := (a % ((2 ^ k : Nat) : Int)).toNat) ?_ (by omega), Int.toNat_of_nonneg n2]
  rw [e1, Nat.and_two_pow_sub_one_eq_mod, b32_nat, e2]
theorem iAnd255 (a : Int) : iAnd a 255 = a % 256 := iAnd_mask (k := 8) (by omega)
theorem iAnd15 (a : Int) : iAnd a 15 = a % 16 := iAnd_mask (k := 4) (by omega)
theorem iAnd7 (a : Int) : iAnd a 7 = a % 8 := iAnd_mask (k := 3) (by omega)
theorem iAnd31 (a : Int) : iAnd a 31 = a % 32 := iAnd_mask (k := 5) (by omega)
theorem iAnd63 (a : Int) : iAnd a 63 = a % 64 := iAnd_mask (k := 6) (by omega)
theorem iAnd3 (a : Int) : iAnd a 3 = a % 4 := iAnd_mask (k := 2) (by omega)
theorem lI_mod (x : B64) (n : Nat) (h : n = 32 ∨ n = 64) : lI x % (n : Int) = ((x.toNat % n : Nat) : Int) := by
  have h1 := toInt_c x
  have hx := x.isLt
  unfold lI w32
  rw [h1, Int.bmod_def]
  rcases h with rfl | rfl <;> (split <;> split <;> omega)
theorem lI63 (x : B64) : iAnd (lI x) 63 = ((x.toNat % 64 : Nat) : Int) := by rw [iAnd63]; exact lI_mod x 64 (Or.inr rfl)
theorem lI31 (x : B64) : iAnd (lI x) 31 = ((x.toNat % 32 : Nat) : Int) := by rw [iAnd31]; exact lI_mod x 32 (Or.inl rfl)
theorem lShl_m {x : B64} {n m : Nat} (h : m ≤ 64) (hm : 0 < m) : lShl x ((n % m : Nat) : Int) = x <<< (n % m) := lShl_k x (by have := Nat.mod_lt n hm; omega)
theorem lUsh_m {x : B64} {n m : Nat} (h : m ≤ 64) (hm : 0 < m) : lUsh x ((n % m : Nat) : Int) = x >>> (n % m) := lUsh_k x (by have := Nat.mod_lt n hm; omega)
theorem lShr_m {x : B64} {n m : Nat} (h : m ≤ 64) (hm : 0 < m) : lShr x ((n % m : Nat) : Int) = x.sshiftRight (n % m) := lShr_k x (by have := Nat.mod_lt n hm; omega)
/-- all operations -/
def reckA (c off : Int) (w : Bool) (a b : B64) : B64 := if c = 128 then -a else if c = 176 then (if off = 0 then b else sxt off.toNat b) else reck c off w a b
abbrev okC (c off : Int) : Prop := (c = 0 ∨ c = 16 ∨ c = 32 ∨ c = 48 ∨ c = 64 ∨ c = 80 ∨ c = 96 ∨ c = 112 ∨ c = 128 ∨ c = 144 ∨ c = 160 ∨ c = 176 ∨ c = 192) ∧ (c = 48 ∨ c = 144 → off = 0 ∨ off = 1) ∧ (c = 176 → off = 0 ∨ off = 8 ∨ off = 16 ∨ off = 32)
theorem sdiv_0 (x : B64) : BitVec.sdiv x 0#64 = 0#64 := by simp
theorem srem_0 (x : B64) : BitVec.srem x 0#64 = x := by simp
theorem ite_sdiv {x y : B64} {σ : MS} : (if ¬ y = 0#64 then (if ¬ y = 0 then some (some (mL (BitVec.sdiv x y)), σ) else none) else some (some (mL 0#64), σ)) = (some (some (mL (BitVec.sdiv x y)), σ) : Option Rs) := by
  by_cases h : y = 0#64
  · rw [if_neg (not_not_intro h), h, sdiv_0]
  · rw [if_pos h, if_pos h]
theorem ite_srem {x y : B64} {σ : MS} : (if ¬ y = 0#64 then (if ¬ y = 0 then some (some (mL (BitVec.srem x y)), σ) else none) else some (some (mL x), σ)) = (some (some (mL (BitVec.srem x y)), σ) : Option Rs) := by
  by_cases h : y = 0#64
  · rw [if_neg (not_not_intro h), h, srem_0]
  · rw [if_pos h, if_pos h]
theorem T428w {c off : Int} {a b : B64} {σ : MS} (hc : okC c off) : MM 428 [mI c, mI off, mL a, mL b, mI 1] σ = some (some (mL (reckA c off true a b)), σ) := by
  rw [M428]
  simp only [e428_0, e428_15, e428_30, one_ne_zero, if_false, if_true, show ¬ (1 : Int) = 0 by decide, lI63]
  rw [e428_46]
  obtain ⟨h1, h2, h3⟩ := hc
  rcases h1 with rfl | rfl | rfl | rfl | rfl | rfl | rfl | rfl | rfl | rfl | rfl | rfl | rfl
  · rfl
  · rfl
  · rfl
  · rcases h2 (Or.inl rfl) with rfl | rfl
    · simp [T423, e428_181, reckA, reck]
    · simp [ite_sdiv, reckA, reck]
  · rfl
  · rfl
  · simp [reckA, reck, lShl_m (show 64 ≤ 64 by omega) (by omega)]
  · simp [reckA, reck, lUsh_m (show 64 ≤ 64 by omega) (by omega)]
  · rfl
  · rcases h2 (Or.inr rfl) with rfl | rfl
    · simp [T424, e428_234, reckA, reck]
    · simp [ite_srem, reckA, reck]
  · rfl
  · rcases h3 rfl with rfl | rfl | rfl | rfl
    · simp [e428_274, reckA]
    · simp [T425 (b := 8), e428_274, reckA]
    · simp [T425 (b := 16), e428_274, reckA]
    · simp [T425 (b := 32), e428_274, reckA]
  · simp [reckA, reck, lShr_m (show 64 ≤ 64 by omega) (by omega)]
theorem T428n {c off : Int} {a b : B64} {σ : MS} (hc : okC c off) : MM 428 [mI c, mI off, mL a, mL b, mI 0] σ = some (some (mL (reckA c off false a b)), σ) := by
  rw [M428]
  simp only [e428_0, e428_15, e428_30, if_true, lI31, sxt_toInt]
  rw [e428_46]
  obtain ⟨h1, h2, h3⟩ := hc
  rcases h1 with rfl | rfl | rfl | rfl | rfl | rfl | rfl | rfl | rfl | rfl | rfl | rfl | rfl
  · rfl
  · rfl
  · rfl
  · rcases h2 (Or.inl rfl) with rfl | rfl
    · simp [T423, e428_181, reckA, reck]
    · simp [ite_sdiv, reckA, reck]
  · rfl
  · rfl
  · simp [reckA, reck, lShl_m (show 32 ≤ 64 by omega) (by omega)]
  · simp [reckA, reck, lUsh_m (show 32 ≤ 64 by omega) (by omega)]
  · rfl
  · rcases h2 (Or.inr rfl) with rfl | rfl
    · simp [T424, e428_234, reckA, reck]
    · simp [ite_srem, reckA, reck]
  · rfl
  · rcases h3 rfl with rfl | rfl | rfl | rfl
    · simp [e428_274, reckA]
    · simp [T425 (b := 8), e428_274, reckA]
    · simp [T425 (b := 16), e428_274, reckA]
    · simp [T425 (b := 32), e428_274, reckA]
  · simp [reckA, reck, lShr_m (show 32 ≤ 64 by omega) (by omega)]
theorem T429w {c : Int} {a b : B64} {σ : MS} (hc : isCmp c) : MM 429 [mI c, mL a, mL b, mI 1] σ = some (some (mI (if cmpB c true a b = true then 1 else 0)), σ) := by
  rw [M429]
  simp only [e429_0, e429_12, if_false, show ¬ (1 : Int) = 0 by decide]
  rw [e429_26]
  rcases hc with rfl | rfl | rfl | rfl | rfl | rfl | rfl | rfl | rfl | rfl | rfl
  all_goals simp [cmpB, T389, e429_137, e429_143, e429_211, e429_217, bl_b2, b2_0']
  all_goals (unfold b2; repeat' split)
  all_goals first | rfl | omega | simp_all
theorem T429n {c : Int} {a b : B64} {σ : MS} (hc : isCmp c) : MM 429 [mI c, mL a, mL b, mI 0] σ = some (some (mI (if cmpB c false a b = true then 1 else 0)), σ) := by
  rw [M429]
  simp only [e429_0, e429_12, if_true, sxt_toInt]
  rw [e429_26]
  rcases hc with rfl | rfl | rfl | rfl | rfl | rfl | rfl | rfl | rfl | rfl | rfl
  all_goals simp [cmpB, T389, e429_137, e429_143, e429_211, e429_217, bl_b2, b2_0']
  all_goals (unfold b2; repeat' split)
  all_goals first | rfl | omega | simp_all
/-! bytes turned round -/
theorem L426 {v : B64} {n : Nat} {σ : MS} (hn : n ≤ 8) : ∀ k : Nat, k ≤ n → RR (lkB tb426) (B426_5, [some (mL v), none, some (mI ((8 * n : Nat) : Int)), some (mL (turnB (n - k) v)), none, some (mI ((8 * (n - k) : Nat) : Int))], [], σ) = some (some (mL (turnB n v)), σ) := by
  intro k
  induction k with
  | zero =>
    intro _
    rw [e426_5, if_pos (by omega)]
    rfl
  | succ k ih =>
    intro hk
    rw [e426_5, if_neg (by omega), lUsh_k _ (by omega), show (8 : Int) = ((8 : Nat) : Int) from rfl, lShl_k _ (by omega), w32_i (by omega) (by omega)]
    have e : ((8 * (n - (k + 1)) : Nat) : Int) + ((8 : Nat) : Int) = ((8 * (n - k) : Nat) : Int) := by omega
    rw [e]
    have e2 : n - k = (n - (k + 1)) + 1 := by omega
    have e3 : turnB (n - k) v = (turnB (n - (k + 1)) v <<< 8) ||| ((v >>> (8 * (n - (k + 1)))) &&& iL 255) := by rw [e2]; rfl
    rw [← e3]
    exact ih (by omega)
theorem T426 {v : B64} {b : Int} {σ : MS} (hb : b = 16 ∨ b = 32 ∨ b = 64) : MM 426 [mL v, mI b] σ = some (some (mL (turnB (b.toNat / 8) v)), σ) := by
  rw [M426, e426_0]
  have key := fun n hn => L426 (v := v) (σ := σ) (n := n) hn n (Nat.le_refl _)
  rcases hb with rfl | rfl | rfl
  · have := key 2 (by omega); simpa using this
  · have := key 4 (by omega); simpa using this
  · have := key 8 (by omega); simpa using this
/-! the class -/
theorem T18 {x y : B64} {σ : MS} : MM 18 [mL x, mL y] σ = some (some (mL (x / y)), σ) := by
  rw [← dvJ_eq, M18, e18_0]
  unfold dvJ
  simp only [t0, zlit, e18_22, e18_73]
  by_cases h1 : y = 0#64
  · simp [h1]
  · simp only [h1, not_false_eq_true, if_true, if_false]
    by_cases h2 : 0 ≤ y.toInt
    · simp only [h2, if_true]
      by_cases h3 : x.toInt < 0
      · simp only [h3, if_true]
        generalize x - lShl (BitVec.sdiv (lUsh x 1) y) 1 * y = l
        have q : l < y ↔ 0 ≤ l.toInt ∧ l.toInt < y.toInt := by
          have a := toInt_c l
          have b := toInt_c y
          rw [BitVec.lt_def]
          split at a <;> split at b <;> omega
        by_cases h4 : l.toInt < 0
        · rw [if_pos h4, if_neg (fun z => by have := q.mp z; omega)]
        · rw [if_neg h4]
          by_cases h5 : l.toInt < y.toInt
          · rw [if_pos h5, if_pos (q.mpr ⟨by omega, h5⟩)]
          · rw [if_neg h5, if_neg (fun z => h5 (q.mp z).2)]
      · simp only [h3, if_false]
    · simp only [h2, if_false]
      have q : x < y ↔ 0 ≤ x.toInt ∨ x.toInt < y.toInt := by
        have a := toInt_c x
        have b := toInt_c y
        rw [BitVec.lt_def]
        split at a <;> split at b <;> omega
      by_cases h3 : 0 ≤ x.toInt
      · rw [if_pos h3, if_pos (q.mpr (Or.inl h3))]
      · rw [if_neg h3]
        by_cases h4 : x.toInt < y.toInt
        · rw [if_pos h4, if_pos (q.mpr (Or.inr h4))]
        · rw [if_neg h4, if_neg (fun z => by have := q.mp z; omega)]
theorem T21 {x y : B64} {σ : MS} : MM 21 [mL x, mL y] σ = some (some (mL (x % y)), σ) := by
  rw [M21, e21_0, T18]
  simp only [Option.bind_some, Option.toList_some, List.cons_append, List.nil_append, e21_6, rem_eq2]
theorem T22 {x y : B64} {σ : MS} : MM 22 [mL x, mL y] σ = some (some (mL (BitVec.sdiv x y)), σ) := by
  rw [M22, e22_0]
  exact ite_sdiv
theorem T23 {x y : B64} {σ : MS} : MM 23 [mL x, mL y] σ = some (some (mL (BitVec.srem x y)), σ) := by
  rw [M23, e23_0]
  exact ite_srem
theorem T19 {x : B64} {b : Nat} {σ : MS} (h0 : 1 ≤ b) (h1 : b < 64) : MM 19 [mL x, mI b] σ = some (some (mL (sxt b x)), σ) := by
  rw [M19, e19_0, if_neg (by omega), if_pos (by omega), w32_i (by omega) (by omega), show (64 : Int) - (b : Int) = ((64 - b : Nat) : Int) by omega, lShl_k _ (by omega), lShr_k _ (by omega)]
  rfl
theorem T19n {x : B64} {b : Int} {σ : MS} (h : b ≤ 0 ∨ 64 ≤ b) : MM 19 [mL x, mI b] σ = some (some (mL x), σ) := by
  rw [M19, e19_0, e19_10]
  by_cases c : b ≤ 0
  · rw [if_pos c]
  · rw [if_neg c, if_neg (by omega)]
-- FILE 25.hold
/-! ===== the class: operations and conditions ===== -/
theorem mk_all : (List.range 256).all (fun a => decide (iAnd a 240 = (a / 16 * 16 : Nat)) && decide (iAnd a 8 = (a / 8 % 2 * 8 : Nat)) && decide (iAnd a 24 = (a / 8 % 4 * 8 : Nat)) && decide (iAnd a 224 = (a / 32 * 32 : Nat))) = true := by decide +kernel
theorem mk_at {a : Int} (h0 : 0 ≤ a) (h1 : a < 256) : iAnd a 240 = a / 16 * 16 ∧ iAnd a 8 = a / 8 % 2 * 8 ∧ iAnd a 24 = a / 8 % 4 * 8 ∧ iAnd a 224 = a / 32 * 32 := by
  have h := List.all_eq_true.mp mk_all a.toNat (List.mem_range.mpr (by omega))
  simp only [Bool.and_eq_true, decide_eq_true_eq] at h
  have e : ((a.toNat : Nat) : Int) = a := Int.toNat_of_nonneg h0
  rw [e] at h
  obtain ⟨⟨⟨h1, h2⟩, h3⟩, h4⟩ := h
  rw [h1, h2, h3, h4]
  omega
theorem sxt_val (x : B64) : (sxt 32 x).toInt = ((x.toNat % 4294967296 : Nat) : Int).bmod 4294967296 := by
  rw [← sxt_toInt]
  have h1 := toInt_c x
  have hx := x.isLt
  unfold iL lI w32
  rw [BitVec.toInt_ofInt, Int.bmod_def, Int.bmod_def, Int.bmod_def]
  split <;> split <;> split <;> split at h1 <;> omega
theorem sxt_cut (x : B64) : sxt 32 (x &&& cF) = sxt 32 x := by
  apply BitVec.eq_of_toInt_eq
  rw [sxt_val, sxt_val, low32]
  congr 1
  omega
theorem sxt_lt (a b : B64) : sxt 32 a < sxt 32 b ↔ a &&& cF < b &&& cF := by
  have ha := sxt_val a
  have hb := sxt_val b
  have ca := toInt_c (sxt 32 a)
  have cb := toInt_c (sxt 32 b)
  have la := (sxt 32 a).isLt
  have lb := (sxt 32 b).isLt
  rw [BitVec.lt_def, BitVec.lt_def, low32, low32]
  rw [Int.bmod_def] at ha hb
  split at ha <;> split at hb <;> split at ca <;> split at cb <;> omega
theorem sxt_eq (a b : B64) : sxt 32 a = sxt 32 b ↔ a &&& cF = b &&& cF := by
  constructor
  · intro h
    have n1 : ¬ a &&& cF < b &&& cF := fun q => by
      have := (sxt_lt a b).mpr q
      rw [h, BitVec.lt_def] at this
      omega
    have n2 : ¬ b &&& cF < a &&& cF := fun q => by
      have := (sxt_lt b a).mpr q
      rw [h, BitVec.lt_def] at this
      omega
    rw [BitVec.lt_def] at n1 n2
    exact BitVec.eq_of_toNat_eq (by omega)
  · intro h
    rw [← sxt_cut a, ← sxt_cut b, h]
theorem sxt_and (a b : B64) : sxt 32 a &&& sxt 32 b = sxt 32 (a &&& b) := by
  unfold sxt
  apply BitVec.eq_of_getLsbD_eq
  intro i hi
  rw [BitVec.getLsbD_and, sar_bit, sar_bit, sar_bit, BitVec.getLsbD_shiftLeft, BitVec.getLsbD_shiftLeft, BitVec.getLsbD_shiftLeft, BitVec.getLsbD_and]
  cases decide (i < 64) <;> cases decide ((if 64 - 32 + i < 64 then 64 - 32 + i else 63) < 64) <;> cases decide ((if 64 - 32 + i < 64 then 64 - 32 + i else 63) < 64 - 32) <;> simp
theorem sxt_z (x : B64) : sxt 32 x = 0#64 ↔ x &&& cF = 0#64 := by
  have := sxt_eq x 0#64
  rw [show sxt 32 (0#64) = 0#64 by decide, show (0#64) &&& cF = 0#64 by decide] at this
  exact this
/-- numbers of 32 bits have the same order with their signs drawn up -/
theorem cmp_sxt {c : Int} (hc : isCmp c) (a b : B64) : cmpB c true (sxt 32 a) (sxt 32 b) = cmpB c false (a &&& cF) (b &&& cF) := by
  rcases hc with rfl | rfl | rfl | rfl | rfl | rfl | rfl | rfl | rfl | rfl | rfl
  · rw [cmpB_16, cmpB_16]; exact decide_eq_decide.mpr (sxt_eq a b)
  · rw [cmpB_32, cmpB_32]; exact decide_eq_decide.mpr (sxt_lt b a)
  · rw [cmpB_48, cmpB_48]; exact decide_eq_decide.mpr (not_congr (sxt_lt a b))
  · rw [cmpB_64, cmpB_64, sxt_and]
    refine decide_eq_decide.mpr (not_congr ((sxt_z _).trans ?_))
    rw [show (a &&& b) &&& cF = (a &&& cF) &&& (b &&& cF) by
      apply BitVec.eq_of_getLsbD_eq
      intro i hi
      simp only [BitVec.getLsbD_and]
      cases a.getLsbD i <;> cases b.getLsbD i <;> cases cF.getLsbD i <;> rfl]
  · rw [cmpB_80, cmpB_80]; exact decide_eq_decide.mpr (not_congr (sxt_eq a b))
  · rw [cmpB_96, cmpB_96, sxt_cut, sxt_cut]; rfl
  · rw [cmpB_112, cmpB_112, sxt_cut, sxt_cut]; rfl
  · rw [cmpB_160, cmpB_160]; exact decide_eq_decide.mpr (sxt_lt a b)
  · rw [cmpB_176, cmpB_176]; exact decide_eq_decide.mpr (not_congr (sxt_lt b a))
  · rw [cmpB_192, cmpB_192, sxt_cut, sxt_cut]; rfl
  · rw [cmpB_208, cmpB_208, sxt_cut, sxt_cut]; rfl
theorem T26 {op : Int} {a b : B64} {σ : MS} (h0 : 0 ≤ op) (h1 : op < 256) (hc : isCmp (op / 16 * 16)) : MM 26 [mI op, mL a, mL b] σ = some (some (mI (if cmpW (op / 16 * 16) (decide (op % 8 = 5)) a b = true then 1 else 0)), σ) := by
  have key : ∀ (x y : B64) (w : Int), RR (lkB tb26) (B26_41, [some (mI op), some (mL a), none, some (mL b), none, some (mI w), some (mL x), none, none, none], [mL y], σ) = some (some (mI (if cmpB (op / 16 * 16) true x y = true then 1 else 0)), σ) := by
    intro x y w
    rw [e26_41, (mk_at h0 h1).1]
    generalize op / 16 * 16 = c at *
    rcases hc with rfl | rfl | rfl | rfl | rfl | rfl | rfl | rfl | rfl | rfl | rfl
    all_goals simp [cmpB, T17, e26_161, e26_169, e26_243, e26_251, bl_b2, b2_0']
    all_goals (unfold b2; repeat' split)
    all_goals first | rfl | omega | simp_all
  rw [M26]
  simp only [e26_0, iAnd7]
  unfold cmpW
  by_cases w : op % 8 = 5
  · simp only [w, not_true_eq_false, if_false, e26_13, e26_27, show ¬ (1 : Int) = 0 by decide, key, decide_true, if_true]
  · simp only [w, not_false_eq_true, if_true, e26_13, e26_27, key, sxt_toInt, decide_false, Bool.false_eq_true, if_false, cmp_sxt hc]
theorem T20 {op off : Int} {a b : B64} {σ : MS} (h0 : 0 ≤ op) (h1 : op < 256) (hc : okC (op / 16 * 16) off) : MM 20 [mI op, mI off, mL a, mL b] σ = some (some (mL (if op % 8 = 7 then reckA (op / 16 * 16) off true a b else reckA (op / 16 * 16) off false (a &&& cF) (b &&& cF) &&& cF)), σ) := by
  obtain ⟨c1, c2, c3⟩ := hc
  rw [M20]
  simp only [e20_0, iAnd7]
  by_cases w : op % 8 = 7
  · simp only [w, not_true_eq_false, if_false, e20_14, e20_30, e20_48, show ¬ (1 : Int) = 0 by decide, lI63, if_true]
    rw [e20_65, (mk_at h0 h1).1]
    generalize op / 16 * 16 = c at *
    rcases c1 with rfl | rfl | rfl | rfl | rfl | rfl | rfl | rfl | rfl | rfl | rfl | rfl | rfl
    · simp [e20_406, reckA, reck]
    · simp [e20_406, reckA, reck]
    · simp [e20_406, reckA, reck]
    · rcases c2 (Or.inl rfl) with rfl | rfl
      · simp [T18, e20_256, e20_406, reckA, reck]
      · simp [T22, e20_229, e20_243, e20_246, e20_256, e20_406, reckA, reck]
    · simp [e20_406, reckA, reck]
    · simp [e20_406, reckA, reck]
    · simp [e20_406, reckA, reck, lShl_m (show 64 ≤ 64 by omega) (by omega)]
    · simp [e20_406, reckA, reck, lUsh_m (show 64 ≤ 64 by omega) (by omega)]
    · simp [e20_406, reckA, reck]
    · rcases c2 (Or.inr rfl) with rfl | rfl
      · simp [T18, e20_357, e20_361, e20_406, reckA, reck, rem_eq2]
      · simp [T23, e20_328, e20_342, e20_345, e20_361, e20_406, reckA, reck]
    · simp [e20_406, reckA, reck]
    · rcases c3 rfl with rfl | rfl | rfl | rfl
      · simp [T19n, e20_382, e20_406, reckA]
      · simp [T19 (b := 8), e20_382, e20_406, reckA]
      · simp [T19 (b := 16), e20_382, e20_406, reckA]
      · simp [T19 (b := 32), e20_382, e20_406, reckA]
    · simp [e20_401, e20_406, reckA, reck, lShr_m (show 64 ≤ 64 by omega) (by omega)]
  · simp only [w, not_false_eq_true, if_true, e20_14, e20_30, e20_48, iL_F, lI31, if_false]
    rw [e20_65, (mk_at h0 h1).1]
    generalize op / 16 * 16 = c at *
    rcases c1 with rfl | rfl | rfl | rfl | rfl | rfl | rfl | rfl | rfl | rfl | rfl | rfl | rfl
    · simp [e20_406, reckA, reck, iL_F]
    · simp [e20_406, reckA, reck, iL_F]
    · simp [e20_406, reckA, reck, iL_F]
    · rcases c2 (Or.inl rfl) with rfl | rfl
      · simp [T18, e20_256, e20_406, reckA, reck, iL_F]
      · simp [T22, e20_229, e20_243, e20_246, e20_256, e20_406, reckA, reck, iL_F, sxt_toInt]
    · simp [e20_406, reckA, reck, iL_F]
    · simp [e20_406, reckA, reck, iL_F]
    · simp [e20_406, reckA, reck, iL_F, lShl_m (show 32 ≤ 64 by omega) (by omega)]
    · simp [e20_406, reckA, reck, iL_F, lUsh_m (show 32 ≤ 64 by omega) (by omega)]
    · simp [e20_406, reckA, reck, iL_F]
    · rcases c2 (Or.inr rfl) with rfl | rfl
      · simp [T18, e20_357, e20_361, e20_406, reckA, reck, rem_eq2, iL_F]
      · simp [T23, e20_328, e20_342, e20_345, e20_361, e20_406, reckA, reck, iL_F, sxt_toInt]
    · simp [e20_406, reckA, reck, iL_F]
    · rcases c3 rfl with rfl | rfl | rfl | rfl
      · simp [T19n, e20_382, e20_406, reckA, iL_F]
      · simp [T19 (b := 8), e20_382, e20_406, reckA, iL_F]
      · simp [T19 (b := 16), e20_382, e20_406, reckA, iL_F]
      · simp [T19 (b := 32), e20_382, e20_406, reckA, iL_F]
    · simp [e20_401, e20_406, reckA, reck, iL_F, sxt_toInt, lShr_m (show 32 ≤ 64 by omega) (by omega)]
/-! bytes turned round -/
theorem shr_low (v : B64) {k : Nat} (hk : k < 8) : v.sshiftRight (8 * k) &&& iL 255 = (v >>> (8 * k)) &&& 255#64 := by
  rw [show iL 255 = 255#64 from rfl]
  apply BitVec.eq_of_getLsbD_eq
  intro i hi
  rw [BitVec.getLsbD_and, BitVec.getLsbD_and, BitVec.getLsbD_ushiftRight, sar_bit]
  by_cases c : i < 8
  · rw [if_pos (by omega)]
    simp [hi]
  · have : (255#64).getLsbD i = false := by
      rw [BitVec.getLsbD_ofNat]
      have : Nat.testBit 255 i = false := Nat.testBit_lt_two_pow (by
        have : 2 ^ 8 ≤ 2 ^ i := Nat.pow_le_pow_right (by omega) (by omega)
        omega)
      simp [this]
    rw [this]
    simp
theorem L25 {v : B64} {n : Nat} {σ : MS} (hn : n ≤ 8) : ∀ k : Nat, k ≤ n → RR (lkB tb25) (B25_5, [some (mL v), none, some (mI (n : Int)), some (mL (turnB (n - k) v)), none, some (mI ((n - k : Nat) : Int))], [], σ) = some (some (mL (turnB n v)), σ) := by
  intro k
  induction k with
  | zero =>
    intro _
    rw [e25_5, if_pos (by omega)]
    rfl
  | succ k ih =>
    intro hk
    rw [e25_5, if_neg (by omega), w32_i (by omega) (by omega), show (8 : Int) * ((n - (k + 1) : Nat) : Int) = ((8 * (n - (k + 1)) : Nat) : Int) by omega, lShr_k _ (by omega), show (8 : Int) = ((8 : Nat) : Int) from rfl, lShl_k _ (by omega), w32_i (by omega) (by omega), shr_low v (by omega)]
    have e : ((n - (k + 1) : Nat) : Int) + 1 = ((n - k : Nat) : Int) := by omega
    rw [e]
    have e2 : n - k = (n - (k + 1)) + 1 := by omega
    have e3 : turnB (n - k) v = (turnB (n - (k + 1)) v <<< 8) ||| ((v >>> (8 * (n - (k + 1)))) &&& 255#64) := by rw [e2]; rfl
    rw [← e3]
    exact ih (by omega)
theorem T25 {v : B64} {n : Nat} {σ : MS} (hn : n ≤ 8) : MM 25 [mL v, mI (n : Int)] σ = some (some (mL (turnB n v)), σ) := by
  rw [M25, e25_0]
  have := L25 (v := v) (σ := σ) hn n (Nat.le_refl _)
  simpa using this
theorem turn_low (v : B64) {n : Nat} (hn : n ≤ 8) : ∀ k : Nat, k ≤ n → turnB k (lowB (8 * n) v) = turnB k v := by
  intro k
  induction k with
  | zero => intro _; rfl
  | succ k ih =>
    intro hk
    unfold turnB
    rw [ih (by omega)]
    congr 1
    unfold lowB
    split
    · rfl
    · rename_i c
      apply BitVec.eq_of_getLsbD_eq
      intro i hi
      rw [BitVec.getLsbD_and, BitVec.getLsbD_and, BitVec.getLsbD_ushiftRight, BitVec.getLsbD_ushiftRight, BitVec.getLsbD_and]
      by_cases q : i < 8
      · have : (1#64 <<< (8 * n) - 1#64).getLsbD (8 * k + i) = true := by
          have e : 1#64 <<< (8 * n) - 1#64 = BitVec.ofNat 64 (2 ^ (8 * n) - 1) := by
            apply BitVec.eq_of_toNat_eq
            have p : 2 ^ (8 * n) < 2 ^ 64 := Nat.pow_lt_pow_right (by omega) (by omega)
            have p1 : 1 ≤ 2 ^ (8 * n) := Nat.one_le_two_pow
            have e1 : (1#64).toNat = 1 := rfl
            rw [BitVec.toNat_sub, BitVec.toNat_shiftLeft, e1, Nat.shiftLeft_eq, BitVec.toNat_ofNat]
            omega
          rw [e, BitVec.getLsbD_ofNat, Nat.testBit_two_pow_sub_one]
          simp
          omega
        rw [this]
        simp
      · have : (255#64).getLsbD i = false := by
          rw [BitVec.getLsbD_ofNat]
          have : Nat.testBit 255 i = false := Nat.testBit_lt_two_pow (by
            have : 2 ^ 8 ≤ 2 ^ i := Nat.pow_le_pow_right (by omega) (by omega)
            omega)
          simp [this]
        rw [this]
        simp
theorem T24 {op : Int} {v : B64} {b : Int} {σ : MS} (hb : b = 16 ∨ b = 32 ∨ b = 64) : MM 24 [mI op, mI b, mL v] σ = some (some (mL (trnJ (decide (op = 212)) b.toNat v)), σ) := by
  have low : (if b < 64 then v &&& (lShl 1#64 b - 1#64) else v) = lowB b.toNat v := by
    unfold lowB
    rcases hb with rfl | rfl | rfl <;> simp [lShl]
  have tr : turnB (b.toNat / 8) (lowB b.toNat v) = turnB (b.toNat / 8) v := by
    rcases hb with rfl | rfl | rfl
    · exact turn_low v (n := 2) (by omega) 2 (by omega)
    · exact turn_low v (n := 4) (by omega) 4 (by omega)
    · exact turn_low v (n := 8) (by omega) 8 (by omega)
  have dv : w32 (Int.tdiv b 8) = ((b.toNat / 8 : Nat) : Int) := by
    rcases hb with rfl | rfl | rfl <;> rfl
  rw [M24]
  simp only [e24_0, mrgL, low, e24_17, dv, T25 (show b.toNat / 8 ≤ 8 by omega), Option.bind_some, Option.toList_some, List.cons_append, List.nil_append, e24_40, tr]
  unfold trnJ
  by_cases c : op = 212
  · simp [c]
  · simp [c]
-- FILE 26.form
/-! ===== words ===== -/
theorem lI_def (x : BitVec 64) : lI x = x.toInt.bmod 4294967296 := rfl
theorem lShr_toInt (x : BitVec 64) {n : Nat} (h : n < 64) : (lShr x (n : Int)).toInt = x.toInt / ((2 ^ n : Nat) : Int) := by
  unfold lShr
  rw [show (((n : Int) % 64).toNat) = n by omega, BitVec.toInt_sshiftRight, Int.shiftRight_eq_div_pow]
theorem toInt_rng (x : BitVec 64) : -9223372036854775808 ≤ x.toInt ∧ x.toInt < 9223372036854775808 := by
  have h1 := BitVec.le_toInt x
  have h2 := BitVec.toInt_lt (x := x)
  omega
theorem op_a (w : BitVec 64) : iAnd (lI w) 255 = fOp w := by
  rw [iAnd255, lI_def, Int.bmod_def]
  unfold fOp
  omega
theorem d_a (w : BitVec 64) : iAnd (lI (lShr w 8)) 15 = fD w := by
  rw [iAnd15, lI_def, show (8 : Int) = ((8 : Nat) : Int) from rfl, lShr_toInt _ (by omega), Int.bmod_def]
  unfold fD
  omega
theorem d_b (w : BitVec 64) : iAnd (iShr (lI w) 8) 15 = fD w := by
  rw [iAnd15, lI_def, Int.bmod_def]
  unfold fD iShr
  rw [show ((8 : Int) % 32).toNat = 8 from rfl]
  omega
theorem s_a (w : BitVec 64) : iAnd (lI (lShr w 12)) 15 = fS w := by
  rw [iAnd15, lI_def, show (12 : Int) = ((12 : Nat) : Int) from rfl, lShr_toInt _ (by omega), Int.bmod_def]
  unfold fS
  omega
theorem s_b (w : BitVec 64) : iAnd (iShr (lI w) 12) 15 = fS w := by
  rw [iAnd15, lI_def, Int.bmod_def]
  unfold fS iShr
  rw [show ((12 : Int) % 32).toNat = 12 from rfl]
  omega
theorem o_a (w : BitVec 64) : w16 (lI (lShr w 16)) = fO w := by
  rw [lI_def, show (16 : Int) = ((16 : Nat) : Int) from rfl, lShr_toInt _ (by omega)]
  unfold fO w16
  rw [Int.bmod_def, Int.bmod_def, Int.bmod_def]
  omega
theorem o_b (w : BitVec 64) : iShr (lI w) 16 = fO w := by
  rw [lI_def]
  unfold fO iShr
  rw [show ((16 : Int) % 32).toNat = 16 from rfl, Int.bmod_def, Int.bmod_def]
  omega
theorem i_a (w : BitVec 64) : lI (lShr w 32) = fI w := by
  have h := toInt_rng w
  rw [lI_def, show (32 : Int) = ((32 : Nat) : Int) from rfl, lShr_toInt _ (by omega), Int.bmod_def]
  unfold fI
  omega
theorem T0 {x0 : BitVec 64} {σ : MS} : MM 0 [mL x0] σ = some (some (mI (fOp x0)), σ) := by
  rw [M0]
  try simp only [e0_0, Option.getD_some, Option.bind_some, Option.toList_some, Option.toList_none, List.cons_append, List.nil_append, and_self, and_true, true_and, false_and, and_false, ite_self, not_true_eq_false, not_false_eq_true, reduceIte, Nat.reduceEqDiff, ab_I, ab_L, ab_R, ao_I, ao_L, ao_R, gL_sL, gI_sI, gR_sR, gI_sL, gI_sR, gL_sI, gL_sR, gR_sI, gR_sL, op_a]
  try simp only [mrgI, mrgL, mrg0, rtI, rtL, ite_self]
theorem T1 {x0 : BitVec 64} {σ : MS} : MM 1 [mL x0] σ = some (some (mI (fD x0)), σ) := by
  rw [M1]
  try simp only [e1_0, Option.getD_some, Option.bind_some, Option.toList_some, Option.toList_none, List.cons_append, List.nil_append, and_self, and_true, true_and, false_and, and_false, ite_self, not_true_eq_false, not_false_eq_true, reduceIte, Nat.reduceEqDiff, ab_I, ab_L, ab_R, ao_I, ao_L, ao_R, gL_sL, gI_sI, gR_sR, gI_sL, gI_sR, gL_sI, gL_sR, gR_sI, gR_sL, d_a]
  try simp only [mrgI, mrgL, mrg0, rtI, rtL, ite_self]
theorem T2 {x0 : BitVec 64} {σ : MS} : MM 2 [mL x0] σ = some (some (mI (fS x0)), σ) := by
  rw [M2]
  try simp only [e2_0, Option.getD_some, Option.bind_some, Option.toList_some, Option.toList_none, List.cons_append, List.nil_append, and_self, and_true, true_and, false_and, and_false, ite_self, not_true_eq_false, not_false_eq_true, reduceIte, Nat.reduceEqDiff, ab_I, ab_L, ab_R, ao_I, ao_L, ao_R, gL_sL, gI_sI, gR_sR, gI_sL, gI_sR, gL_sI, gL_sR, gR_sI, gR_sL, s_a]
  try simp only [mrgI, mrgL, mrg0, rtI, rtL, ite_self]
theorem T3 {x0 : BitVec 64} {σ : MS} : MM 3 [mL x0] σ = some (some (mI (fO x0)), σ) := by
  rw [M3]
  try simp only [e3_0, Option.getD_some, Option.bind_some, Option.toList_some, Option.toList_none, List.cons_append, List.nil_append, and_self, and_true, true_and, false_and, and_false, ite_self, not_true_eq_false, not_false_eq_true, reduceIte, Nat.reduceEqDiff, ab_I, ab_L, ab_R, ao_I, ao_L, ao_R, gL_sL, gI_sI, gR_sR, gI_sL, gI_sR, gL_sI, gL_sR, gR_sI, gR_sL, o_a]
  try simp only [mrgI, mrgL, mrg0, rtI, rtL, ite_self]
theorem T4 {x0 : BitVec 64} {σ : MS} : MM 4 [mL x0] σ = some (some (mI (fI x0)), σ) := by
  rw [M4]
  try simp only [e4_0, Option.getD_some, Option.bind_some, Option.toList_some, Option.toList_none, List.cons_append, List.nil_append, and_self, and_true, true_and, false_and, and_false, ite_self, not_true_eq_false, not_false_eq_true, reduceIte, Nat.reduceEqDiff, ab_I, ab_L, ab_R, ao_I, ao_L, ao_R, gL_sL, gI_sI, gR_sR, gI_sL, gI_sR, gL_sI, gL_sR, gR_sI, gR_sL, i_a]
  try simp only [mrgI, mrgL, mrg0, rtI, rtL, ite_self]
theorem T332 {x0 : BitVec 64} {σ : MS} : MM 332 [mL x0] σ = some (some (mI (fOp x0)), σ) := by
  rw [M332]
  try simp only [e332_0, Option.getD_some, Option.bind_some, Option.toList_some, Option.toList_none, List.cons_append, List.nil_append, and_self, and_true, true_and, false_and, and_false, ite_self, not_true_eq_false, not_false_eq_true, reduceIte, Nat.reduceEqDiff, ab_I, ab_L, ab_R, ao_I, ao_L, ao_R, gL_sL, gI_sI, gR_sR, gI_sL, gI_sR, gL_sI, gL_sR, gR_sI, gR_sL, op_a]
  try simp only [mrgI, mrgL, mrg0, rtI, rtL, ite_self]
theorem T333 {x0 : BitVec 64} {σ : MS} : MM 333 [mL x0] σ = some (some (mI (fD x0)), σ) := by
  rw [M333]
  try simp only [e333_0, Option.getD_some, Option.bind_some, Option.toList_some, Option.toList_none, List.cons_append, List.nil_append, and_self, and_true, true_and, false_and, and_false, ite_self, not_true_eq_false, not_false_eq_true, reduceIte, Nat.reduceEqDiff, ab_I, ab_L, ab_R, ao_I, ao_L, ao_R, gL_sL, gI_sI, gR_sR, gI_sL, gI_sR, gL_sI, gL_sR, gR_sI, gR_sL, d_b]
  try simp only [mrgI, mrgL, mrg0, rtI, rtL, ite_self]
theorem T334 {x0 : BitVec 64} {σ : MS} : MM 334 [mL x0] σ = some (some (mI (fS x0)), σ) := by
  rw [M334]
  try simp only [e334_0, Option.getD_some, Option.bind_some, Option.toList_some, Option.toList_none, List.cons_append, List.nil_append, and_self, and_true, true_and, false_and, and_false, ite_self, not_true_eq_false, not_false_eq_true, reduceIte, Nat.reduceEqDiff, ab_I, ab_L, ab_R, ao_I, ao_L, ao_R, gL_sL, gI_sI, gR_sR, gI_sL, gI_sR, gL_sI, gL_sR, gR_sI, gR_sL, s_b]
  try simp only [mrgI, mrgL, mrg0, rtI, rtL, ite_self]
theorem T335 {x0 : BitVec 64} {σ : MS} : MM 335 [mL x0] σ = some (some (mI (fO x0)), σ) := by
  rw [M335]
  try simp only [e335_0, Option.getD_some, Option.bind_some, Option.toList_some, Option.toList_none, List.cons_append, List.nil_append, and_self, and_true, true_and, false_and, and_false, ite_self, not_true_eq_false, not_false_eq_true, reduceIte, Nat.reduceEqDiff, ab_I, ab_L, ab_R, ao_I, ao_L, ao_R, gL_sL, gI_sI, gR_sR, gI_sL, gI_sR, gL_sI, gL_sR, gR_sI, gR_sL, o_b]
  try simp only [mrgI, mrgL, mrg0, rtI, rtL, ite_self]
theorem T336 {x0 : BitVec 64} {σ : MS} : MM 336 [mL x0] σ = some (some (mI (fI x0)), σ) := by
  rw [M336]
  try simp only [e336_0, Option.getD_some, Option.bind_some, Option.toList_some, Option.toList_none, List.cons_append, List.nil_append, and_self, and_true, true_and, false_and, and_false, ite_self, not_true_eq_false, not_false_eq_true, reduceIte, Nat.reduceEqDiff, ab_I, ab_L, ab_R, ao_I, ao_L, ao_R, gL_sL, gI_sI, gR_sR, gI_sL, gI_sR, gL_sI, gL_sR, gR_sI, gR_sL, i_a]
  try simp only [mrgI, mrgL, mrg0, rtI, rtL, ite_self]

theorem if_prop {c p q : Prop} {d : Decidable c} : (@ite Prop c d p q) = ((c ∧ p) ∨ (¬ c ∧ q)) := by
  by_cases h : c <;> simp [h]
theorem mC (w : B64) : iAnd (fOp w) 240 = fC w := (mk_at (fld_rng w).1.1 (fld_rng w).1.2).1
theorem m8 (w : B64) : iAnd (fOp w) 8 = fOp w / 8 % 2 * 8 := (mk_at (fld_rng w).1.1 (fld_rng w).1.2).2.1
theorem m24 (w : B64) : iAnd (fOp w) 24 = fB w * 8 := (mk_at (fld_rng w).1.1 (fld_rng w).1.2).2.2.1
theorem m224 (w : B64) : iAnd (fOp w) 224 = fM w := (mk_at (fld_rng w).1.1 (fld_rng w).1.2).2.2.2
theorem m7 (w : B64) : iAnd (fOp w) 7 = fL w := iAnd7 _
theorem iShr4 (x : Int) : iShr x 4 = x / 16 := rfl
theorem T338 {x : Int} {σ : MS} : MM 338 [mI x] σ = some (some (mI (b2 (x = 16 ∨ x = 32 ∨ x = 64))), σ) := by
  rw [M338]
  try simp only [e338_0, Option.getD_some, Option.bind_some, Option.toList_some, Option.toList_none, List.cons_append, List.nil_append, and_self, and_true, true_and, false_and, and_false, ite_self, not_true_eq_false, not_false_eq_true, reduceIte, Nat.reduceEqDiff, ab_I, ab_L, ab_R, ao_I, ao_L, ao_R, gL_sL, gI_sI, gR_sR, gI_sL, gI_sR, gL_sI, gL_sR, gR_sI, gR_sL]
  try simp only [mrgI, mrgL, mrg0, rtI, rtL, ite_self]
  try simp only [e338_18, Option.getD_some, Option.bind_some, Option.toList_some, Option.toList_none, List.cons_append, List.nil_append, and_self, and_true, true_and, false_and, and_false, ite_self, not_true_eq_false, not_false_eq_true, reduceIte, Nat.reduceEqDiff, ab_I, ab_L, ab_R, ao_I, ao_L, ao_R, gL_sL, gI_sI, gR_sR, gI_sL, gI_sR, gL_sI, gL_sR, gR_sI, gR_sL]
  try simp only [mrgI, mrgL, mrg0, rtI, rtL, ite_self]
  unfold b2
  repeat' split
  all_goals first | rfl | (exfalso; omega)
theorem T340 {w : B64} {σ : MS} : MM 340 [mI (fOp w)] σ = some (some (mI (b2 (isCmpO (fOp w)))), σ) := by
  have f := fld_rng w
  rw [M340]
  try simp only [e340_0, Option.getD_some, Option.bind_some, Option.toList_some, Option.toList_none, List.cons_append, List.nil_append, and_self, and_true, true_and, false_and, and_false, ite_self, not_true_eq_false, not_false_eq_true, reduceIte, Nat.reduceEqDiff, ab_I, ab_L, ab_R, ao_I, ao_L, ao_R, gL_sL, gI_sI, gR_sR, gI_sL, gI_sR, gL_sI, gL_sR, gR_sI, gR_sL, iShr4]
  try simp only [mrgI, mrgL, mrg0, rtI, rtL, ite_self]
  try simp only [e340_15, Option.getD_some, Option.bind_some, Option.toList_some, Option.toList_none, List.cons_append, List.nil_append, and_self, and_true, true_and, false_and, and_false, ite_self, not_true_eq_false, not_false_eq_true, reduceIte, Nat.reduceEqDiff, ab_I, ab_L, ab_R, ao_I, ao_L, ao_R, gL_sL, gI_sI, gR_sR, gI_sL, gI_sR, gL_sI, gL_sR, gR_sI, gR_sL, iShr4]
  try simp only [mrgI, mrgL, mrg0, rtI, rtL, ite_self]
  try simp only [e340_27, Option.getD_some, Option.bind_some, Option.toList_some, Option.toList_none, List.cons_append, List.nil_append, and_self, and_true, true_and, false_and, and_false, ite_self, not_true_eq_false, not_false_eq_true, reduceIte, Nat.reduceEqDiff, ab_I, ab_L, ab_R, ao_I, ao_L, ao_R, gL_sL, gI_sI, gR_sR, gI_sL, gI_sR, gL_sI, gL_sR, gR_sI, gR_sL, iShr4]
  try simp only [mrgI, mrgL, mrg0, rtI, rtL, ite_self]
  try simp only [e340_31, Option.getD_some, Option.bind_some, Option.toList_some, Option.toList_none, List.cons_append, List.nil_append, and_self, and_true, true_and, false_and, and_false, ite_self, not_true_eq_false, not_false_eq_true, reduceIte, Nat.reduceEqDiff, ab_I, ab_L, ab_R, ao_I, ao_L, ao_R, gL_sL, gI_sI, gR_sR, gI_sL, gI_sR, gL_sI, gL_sR, gR_sI, gR_sL, iShr4]
  try simp only [mrgI, mrgL, mrg0, rtI, rtL, ite_self]
  unfold b2 isCmpO
  repeat' split
  all_goals first | rfl | (exfalso; omega)
set_option maxHeartbeats 4000000 in
theorem T339 {w : B64} {σ : MS} : MM 339 [mI (fOp w), mI (fD w), mI (fS w), mI (fO w), mI (fI w)] σ = some (some (mI (b2 (okAlu w))), σ) := by
  have f := fld_rng w
  rw [M339]
  try simp only [e339_0, Option.getD_some, Option.bind_some, Option.toList_some, Option.toList_none, List.cons_append, List.nil_append, and_self, and_true, true_and, false_and, and_false, ite_self, not_true_eq_false, not_false_eq_true, reduceIte, Nat.reduceEqDiff, ab_I, ab_L, ab_R, ao_I, ao_L, ao_R, gL_sL, gI_sI, gR_sR, gI_sL, gI_sR, gL_sI, gL_sR, gR_sI, gR_sL, mC, m8, m7, T338, b2_0', b2_n', bl_b2]
  try simp only [mrgI, mrgL, mrg0, rtI, rtL, ite_self]
  try simp only [e339_19, Option.getD_some, Option.bind_some, Option.toList_some, Option.toList_none, List.cons_append, List.nil_append, and_self, and_true, true_and, false_and, and_false, ite_self, not_true_eq_false, not_false_eq_true, reduceIte, Nat.reduceEqDiff, ab_I, ab_L, ab_R, ao_I, ao_L, ao_R, gL_sL, gI_sI, gR_sR, gI_sL, gI_sR, gL_sI, gL_sR, gR_sI, gR_sL, mC, m8, m7, T338, b2_0', b2_n', bl_b2]
  try simp only [mrgI, mrgL, mrg0, rtI, rtL, ite_self]
  try simp only [e339_35, Option.getD_some, Option.bind_some, Option.toList_some, Option.toList_none, List.cons_append, List.nil_append, and_self, and_true, true_and, false_and, and_false, ite_self, not_true_eq_false, not_false_eq_true, reduceIte, Nat.reduceEqDiff, ab_I, ab_L, ab_R, ao_I, ao_L, ao_R, gL_sL, gI_sI, gR_sR, gI_sL, gI_sR, gL_sI, gL_sR, gR_sI, gR_sL, mC, m8, m7, T338, b2_0', b2_n', bl_b2]
  try simp only [mrgI, mrgL, mrg0, rtI, rtL, ite_self]
  try simp only [e339_81, Option.getD_some, Option.bind_some, Option.toList_some, Option.toList_none, List.cons_append, List.nil_append, and_self, and_true, true_and, false_and, and_false, ite_self, not_true_eq_false, not_false_eq_true, reduceIte, Nat.reduceEqDiff, ab_I, ab_L, ab_R, ao_I, ao_L, ao_R, gL_sL, gI_sI, gR_sR, gI_sL, gI_sR, gL_sI, gL_sR, gR_sI, gR_sL, mC, m8, m7, T338, b2_0', b2_n', bl_b2]
  try simp only [mrgI, mrgL, mrg0, rtI, rtL, ite_self]
  try simp only [e339_88, Option.getD_some, Option.bind_some, Option.toList_some, Option.toList_none, List.cons_append, List.nil_append, and_self, and_true, true_and, false_and, and_false, ite_self, not_true_eq_false, not_false_eq_true, reduceIte, Nat.reduceEqDiff, ab_I, ab_L, ab_R, ao_I, ao_L, ao_R, gL_sL, gI_sI, gR_sR, gI_sL, gI_sR, gL_sI, gL_sR, gR_sI, gR_sL, mC, m8, m7, T338, b2_0', b2_n', bl_b2]
  try simp only [mrgI, mrgL, mrg0, rtI, rtL, ite_self]
  try simp only [e339_120, Option.getD_some, Option.bind_some, Option.toList_some, Option.toList_none, List.cons_append, List.nil_append, and_self, and_true, true_and, false_and, and_false, ite_self, not_true_eq_false, not_false_eq_true, reduceIte, Nat.reduceEqDiff, ab_I, ab_L, ab_R, ao_I, ao_L, ao_R, gL_sL, gI_sI, gR_sR, gI_sL, gI_sR, gL_sI, gL_sR, gR_sI, gR_sL, mC, m8, m7, T338, b2_0', b2_n', bl_b2]
  try simp only [mrgI, mrgL, mrg0, rtI, rtL, ite_self]
  try simp only [e339_137, Option.getD_some, Option.bind_some, Option.toList_some, Option.toList_none, List.cons_append, List.nil_append, and_self, and_true, true_and, false_and, and_false, ite_self, not_true_eq_false, not_false_eq_true, reduceIte, Nat.reduceEqDiff, ab_I, ab_L, ab_R, ao_I, ao_L, ao_R, gL_sL, gI_sI, gR_sR, gI_sL, gI_sR, gL_sI, gL_sR, gR_sI, gR_sL, mC, m8, m7, T338, b2_0', b2_n', bl_b2]
  try simp only [mrgI, mrgL, mrg0, rtI, rtL, ite_self]
  try simp only [e339_142, Option.getD_some, Option.bind_some, Option.toList_some, Option.toList_none, List.cons_append, List.nil_append, and_self, and_true, true_and, false_and, and_false, ite_self, not_true_eq_false, not_false_eq_true, reduceIte, Nat.reduceEqDiff, ab_I, ab_L, ab_R, ao_I, ao_L, ao_R, gL_sL, gI_sI, gR_sR, gI_sL, gI_sR, gL_sI, gL_sR, gR_sI, gR_sL, mC, m8, m7, T338, b2_0', b2_n', bl_b2]
  try simp only [mrgI, mrgL, mrg0, rtI, rtL, ite_self]
  try simp only [e339_166, Option.getD_some, Option.bind_some, Option.toList_some, Option.toList_none, List.cons_append, List.nil_append, and_self, and_true, true_and, false_and, and_false, ite_self, not_true_eq_false, not_false_eq_true, reduceIte, Nat.reduceEqDiff, ab_I, ab_L, ab_R, ao_I, ao_L, ao_R, gL_sL, gI_sI, gR_sR, gI_sL, gI_sR, gL_sI, gL_sR, gR_sI, gR_sL, mC, m8, m7, T338, b2_0', b2_n', bl_b2]
  try simp only [mrgI, mrgL, mrg0, rtI, rtL, ite_self]
  try simp only [e339_171, Option.getD_some, Option.bind_some, Option.toList_some, Option.toList_none, List.cons_append, List.nil_append, and_self, and_true, true_and, false_and, and_false, ite_self, not_true_eq_false, not_false_eq_true, reduceIte, Nat.reduceEqDiff, ab_I, ab_L, ab_R, ao_I, ao_L, ao_R, gL_sL, gI_sI, gR_sR, gI_sL, gI_sR, gL_sI, gL_sR, gR_sI, gR_sL, mC, m8, m7, T338, b2_0', b2_n', bl_b2]
  try simp only [mrgI, mrgL, mrg0, rtI, rtL, ite_self]
  try simp only [e339_193, Option.getD_some, Option.bind_some, Option.toList_some, Option.toList_none, List.cons_append, List.nil_append, and_self, and_true, true_and, false_and, and_false, ite_self, not_true_eq_false, not_false_eq_true, reduceIte, Nat.reduceEqDiff, ab_I, ab_L, ab_R, ao_I, ao_L, ao_R, gL_sL, gI_sI, gR_sR, gI_sL, gI_sR, gL_sI, gL_sR, gR_sI, gR_sL, mC, m8, m7, T338, b2_0', b2_n', bl_b2]
  try simp only [mrgI, mrgL, mrg0, rtI, rtL, ite_self]
  try simp only [e339_206, Option.getD_some, Option.bind_some, Option.toList_some, Option.toList_none, List.cons_append, List.nil_append, and_self, and_true, true_and, false_and, and_false, ite_self, not_true_eq_false, not_false_eq_true, reduceIte, Nat.reduceEqDiff, ab_I, ab_L, ab_R, ao_I, ao_L, ao_R, gL_sL, gI_sI, gR_sR, gI_sL, gI_sR, gL_sI, gL_sR, gR_sI, gR_sL, mC, m8, m7, T338, b2_0', b2_n', bl_b2]
  try simp only [mrgI, mrgL, mrg0, rtI, rtL, ite_self]
  try simp only [e339_227, Option.getD_some, Option.bind_some, Option.toList_some, Option.toList_none, List.cons_append, List.nil_append, and_self, and_true, true_and, false_and, and_false, ite_self, not_true_eq_false, not_false_eq_true, reduceIte, Nat.reduceEqDiff, ab_I, ab_L, ab_R, ao_I, ao_L, ao_R, gL_sL, gI_sI, gR_sR, gI_sL, gI_sR, gL_sI, gL_sR, gR_sI, gR_sL, mC, m8, m7, T338, b2_0', b2_n', bl_b2]
  try simp only [mrgI, mrgL, mrg0, rtI, rtL, ite_self]
  try simp only [e339_263, Option.getD_some, Option.bind_some, Option.toList_some, Option.toList_none, List.cons_append, List.nil_append, and_self, and_true, true_and, false_and, and_false, ite_self, not_true_eq_false, not_false_eq_true, reduceIte, Nat.reduceEqDiff, ab_I, ab_L, ab_R, ao_I, ao_L, ao_R, gL_sL, gI_sI, gR_sR, gI_sL, gI_sR, gL_sI, gL_sR, gR_sI, gR_sL, mC, m8, m7, T338, b2_0', b2_n', bl_b2]
  try simp only [mrgI, mrgL, mrg0, rtI, rtL, ite_self]
  try simp only [e339_267, Option.getD_some, Option.bind_some, Option.toList_some, Option.toList_none, List.cons_append, List.nil_append, and_self, and_true, true_and, false_and, and_false, ite_self, not_true_eq_false, not_false_eq_true, reduceIte, Nat.reduceEqDiff, ab_I, ab_L, ab_R, ao_I, ao_L, ao_R, gL_sL, gI_sI, gR_sR, gI_sL, gI_sR, gL_sI, gL_sR, gR_sI, gR_sL, mC, m8, m7, T338, b2_0', b2_n', bl_b2]
  try simp only [mrgI, mrgL, mrg0, rtI, rtL, ite_self]
  try simp only [e339_268, Option.getD_some, Option.bind_some, Option.toList_some, Option.toList_none, List.cons_append, List.nil_append, and_self, and_true, true_and, false_and, and_false, ite_self, not_true_eq_false, not_false_eq_true, reduceIte, Nat.reduceEqDiff, ab_I, ab_L, ab_R, ao_I, ao_L, ao_R, gL_sL, gI_sI, gR_sR, gI_sL, gI_sR, gL_sI, gL_sR, gR_sI, gR_sL, mC, m8, m7, T338, b2_0', b2_n', bl_b2]
  try simp only [mrgI, mrgL, mrg0, rtI, rtL, ite_self]
  try simp only [e339_290, Option.getD_some, Option.bind_some, Option.toList_some, Option.toList_none, List.cons_append, List.nil_append, and_self, and_true, true_and, false_and, and_false, ite_self, not_true_eq_false, not_false_eq_true, reduceIte, Nat.reduceEqDiff, ab_I, ab_L, ab_R, ao_I, ao_L, ao_R, gL_sL, gI_sI, gR_sR, gI_sL, gI_sR, gL_sI, gL_sR, gR_sI, gR_sL, mC, m8, m7, T338, b2_0', b2_n', bl_b2]
  try simp only [mrgI, mrgL, mrg0, rtI, rtL, ite_self]
  try simp only [e339_294, Option.getD_some, Option.bind_some, Option.toList_some, Option.toList_none, List.cons_append, List.nil_append, and_self, and_true, true_and, false_and, and_false, ite_self, not_true_eq_false, not_false_eq_true, reduceIte, Nat.reduceEqDiff, ab_I, ab_L, ab_R, ao_I, ao_L, ao_R, gL_sL, gI_sI, gR_sR, gI_sL, gI_sR, gL_sI, gL_sR, gR_sI, gR_sL, mC, m8, m7, T338, b2_0', b2_n', bl_b2]
  try simp only [mrgI, mrgL, mrg0, rtI, rtL, ite_self]
  try simp only [e339_295, Option.getD_some, Option.bind_some, Option.toList_some, Option.toList_none, List.cons_append, List.nil_append, and_self, and_true, true_and, false_and, and_false, ite_self, not_true_eq_false, not_false_eq_true, reduceIte, Nat.reduceEqDiff, ab_I, ab_L, ab_R, ao_I, ao_L, ao_R, gL_sL, gI_sI, gR_sR, gI_sL, gI_sR, gL_sI, gL_sR, gR_sI, gR_sL, mC, m8, m7, T338, b2_0', b2_n', bl_b2]
  try simp only [mrgI, mrgL, mrg0, rtI, rtL, ite_self]
  try simp only [e339_331, Option.getD_some, Option.bind_some, Option.toList_some, Option.toList_none, List.cons_append, List.nil_append, and_self, and_true, true_and, false_and, and_false, ite_self, not_true_eq_false, not_false_eq_true, reduceIte, Nat.reduceEqDiff, ab_I, ab_L, ab_R, ao_I, ao_L, ao_R, gL_sL, gI_sI, gR_sR, gI_sL, gI_sR, gL_sI, gL_sR, gR_sI, gR_sL, mC, m8, m7, T338, b2_0', b2_n', bl_b2]
  try simp only [mrgI, mrgL, mrg0, rtI, rtL, ite_self]
  try simp only [e339_334, Option.getD_some, Option.bind_some, Option.toList_some, Option.toList_none, List.cons_append, List.nil_append, and_self, and_true, true_and, false_and, and_false, ite_self, not_true_eq_false, not_false_eq_true, reduceIte, Nat.reduceEqDiff, ab_I, ab_L, ab_R, ao_I, ao_L, ao_R, gL_sL, gI_sI, gR_sR, gI_sL, gI_sR, gL_sI, gL_sR, gR_sI, gR_sL, mC, m8, m7, T338, b2_0', b2_n', bl_b2]
  try simp only [mrgI, mrgL, mrg0, rtI, rtL, ite_self]
  try simp only [e339_338, Option.getD_some, Option.bind_some, Option.toList_some, Option.toList_none, List.cons_append, List.nil_append, and_self, and_true, true_and, false_and, and_false, ite_self, not_true_eq_false, not_false_eq_true, reduceIte, Nat.reduceEqDiff, ab_I, ab_L, ab_R, ao_I, ao_L, ao_R, gL_sL, gI_sI, gR_sR, gI_sL, gI_sR, gL_sI, gL_sR, gR_sI, gR_sL, mC, m8, m7, T338, b2_0', b2_n', bl_b2]
  try simp only [mrgI, mrgL, mrg0, rtI, rtL, ite_self]
  unfold b2
  repeat' split
  all_goals first | rfl | (exfalso; simp only [if_prop, fC, fL, fM, fB] at *; omega)
set_option maxHeartbeats 4000000 in
theorem T341 {w : B64} {σ : MS} : MM 341 [mI (fOp w), mI (fD w), mI (fS w), mI (fO w), mI (fI w)] σ = some (some (mI (b2 (okJmp w))), σ) := by
  have f := fld_rng w
  rw [M341]
  try simp only [e341_0, Option.getD_some, Option.bind_some, Option.toList_some, Option.toList_none, List.cons_append, List.nil_append, and_self, and_true, true_and, false_and, and_false, ite_self, not_true_eq_false, not_false_eq_true, reduceIte, Nat.reduceEqDiff, ab_I, ab_L, ab_R, ao_I, ao_L, ao_R, gL_sL, gI_sI, gR_sR, gI_sL, gI_sR, gL_sI, gL_sR, gR_sI, gR_sL, mC, m8, m7, T340, b2_0', b2_n', bl_b2]
  try simp only [mrgI, mrgL, mrg0, rtI, rtL, ite_self]
  try simp only [e341_22, Option.getD_some, Option.bind_some, Option.toList_some, Option.toList_none, List.cons_append, List.nil_append, and_self, and_true, true_and, false_and, and_false, ite_self, not_true_eq_false, not_false_eq_true, reduceIte, Nat.reduceEqDiff, ab_I, ab_L, ab_R, ao_I, ao_L, ao_R, gL_sL, gI_sI, gR_sR, gI_sL, gI_sR, gL_sI, gL_sR, gR_sI, gR_sL, mC, m8, m7, T340, b2_0', b2_n', bl_b2]
  try simp only [mrgI, mrgL, mrg0, rtI, rtL, ite_self]
  try simp only [e341_46, Option.getD_some, Option.bind_some, Option.toList_some, Option.toList_none, List.cons_append, List.nil_append, and_self, and_true, true_and, false_and, and_false, ite_self, not_true_eq_false, not_false_eq_true, reduceIte, Nat.reduceEqDiff, ab_I, ab_L, ab_R, ao_I, ao_L, ao_R, gL_sL, gI_sI, gR_sR, gI_sL, gI_sR, gL_sI, gL_sR, gR_sI, gR_sL, mC, m8, m7, T340, b2_0', b2_n', bl_b2]
  try simp only [mrgI, mrgL, mrg0, rtI, rtL, ite_self]
  try simp only [e341_72, Option.getD_some, Option.bind_some, Option.toList_some, Option.toList_none, List.cons_append, List.nil_append, and_self, and_true, true_and, false_and, and_false, ite_self, not_true_eq_false, not_false_eq_true, reduceIte, Nat.reduceEqDiff, ab_I, ab_L, ab_R, ao_I, ao_L, ao_R, gL_sL, gI_sI, gR_sR, gI_sL, gI_sR, gL_sI, gL_sR, gR_sI, gR_sL, mC, m8, m7, T340, b2_0', b2_n', bl_b2]
  try simp only [mrgI, mrgL, mrg0, rtI, rtL, ite_self]
  try simp only [e341_77, Option.getD_some, Option.bind_some, Option.toList_some, Option.toList_none, List.cons_append, List.nil_append, and_self, and_true, true_and, false_and, and_false, ite_self, not_true_eq_false, not_false_eq_true, reduceIte, Nat.reduceEqDiff, ab_I, ab_L, ab_R, ao_I, ao_L, ao_R, gL_sL, gI_sI, gR_sR, gI_sL, gI_sR, gL_sI, gL_sR, gR_sI, gR_sL, mC, m8, m7, T340, b2_0', b2_n', bl_b2]
  try simp only [mrgI, mrgL, mrg0, rtI, rtL, ite_self]
  try simp only [e341_81, Option.getD_some, Option.bind_some, Option.toList_some, Option.toList_none, List.cons_append, List.nil_append, and_self, and_true, true_and, false_and, and_false, ite_self, not_true_eq_false, not_false_eq_true, reduceIte, Nat.reduceEqDiff, ab_I, ab_L, ab_R, ao_I, ao_L, ao_R, gL_sL, gI_sI, gR_sR, gI_sL, gI_sR, gL_sI, gL_sR, gR_sI, gR_sL, mC, m8, m7, T340, b2_0', b2_n', bl_b2]
  try simp only [mrgI, mrgL, mrg0, rtI, rtL, ite_self]
  try simp only [e341_111, Option.getD_some, Option.bind_some, Option.toList_some, Option.toList_none, List.cons_append, List.nil_append, and_self, and_true, true_and, false_and, and_false, ite_self, not_true_eq_false, not_false_eq_true, reduceIte, Nat.reduceEqDiff, ab_I, ab_L, ab_R, ao_I, ao_L, ao_R, gL_sL, gI_sI, gR_sR, gI_sL, gI_sR, gL_sI, gL_sR, gR_sI, gR_sL, mC, m8, m7, T340, b2_0', b2_n', bl_b2]
  try simp only [mrgI, mrgL, mrg0, rtI, rtL, ite_self]
  try simp only [e341_117, Option.getD_some, Option.bind_some, Option.toList_some, Option.toList_none, List.cons_append, List.nil_append, and_self, and_true, true_and, false_and, and_false, ite_self, not_true_eq_false, not_false_eq_true, reduceIte, Nat.reduceEqDiff, ab_I, ab_L, ab_R, ao_I, ao_L, ao_R, gL_sL, gI_sI, gR_sR, gI_sL, gI_sR, gL_sI, gL_sR, gR_sI, gR_sL, mC, m8, m7, T340, b2_0', b2_n', bl_b2]
  try simp only [mrgI, mrgL, mrg0, rtI, rtL, ite_self]
  try simp only [e341_151, Option.getD_some, Option.bind_some, Option.toList_some, Option.toList_none, List.cons_append, List.nil_append, and_self, and_true, true_and, false_and, and_false, ite_self, not_true_eq_false, not_false_eq_true, reduceIte, Nat.reduceEqDiff, ab_I, ab_L, ab_R, ao_I, ao_L, ao_R, gL_sL, gI_sI, gR_sR, gI_sL, gI_sR, gL_sI, gL_sR, gR_sI, gR_sL, mC, m8, m7, T340, b2_0', b2_n', bl_b2]
  try simp only [mrgI, mrgL, mrg0, rtI, rtL, ite_self]
  try simp only [e341_155, Option.getD_some, Option.bind_some, Option.toList_some, Option.toList_none, List.cons_append, List.nil_append, and_self, and_true, true_and, false_and, and_false, ite_self, not_true_eq_false, not_false_eq_true, reduceIte, Nat.reduceEqDiff, ab_I, ab_L, ab_R, ao_I, ao_L, ao_R, gL_sL, gI_sI, gR_sR, gI_sL, gI_sR, gL_sI, gL_sR, gR_sI, gR_sL, mC, m8, m7, T340, b2_0', b2_n', bl_b2]
  try simp only [mrgI, mrgL, mrg0, rtI, rtL, ite_self]
  unfold b2
  repeat' split
  all_goals first | rfl | (exfalso; simp only [if_prop, fC, fL, fM, fB] at *; omega)
set_option maxHeartbeats 4000000 in
theorem T342 {w : B64} {σ : MS} (h : fL w = 1 ∨ fL w = 2 ∨ fL w = 3) : MM 342 [mI (fOp w), mI (fD w), mI (fS w), mI (fI w)] σ = some (some (mI (b2 (okMem w))), σ) := by
  have f := fld_rng w
  rw [M342]
  try simp only [e342_0, Option.getD_some, Option.bind_some, Option.toList_some, Option.toList_none, List.cons_append, List.nil_append, and_self, and_true, true_and, false_and, and_false, ite_self, not_true_eq_false, not_false_eq_true, reduceIte, Nat.reduceEqDiff, ab_I, ab_L, ab_R, ao_I, ao_L, ao_R, gL_sL, gI_sI, gR_sR, gI_sL, gI_sR, gL_sI, gL_sR, gR_sI, gR_sL, mC, m8, m7, m24, m224, b2_0', b2_n', bl_b2]
  try simp only [mrgI, mrgL, mrg0, rtI, rtL, ite_self]
  try simp only [e342_60, Option.getD_some, Option.bind_some, Option.toList_some, Option.toList_none, List.cons_append, List.nil_append, and_self, and_true, true_and, false_and, and_false, ite_self, not_true_eq_false, not_false_eq_true, reduceIte, Nat.reduceEqDiff, ab_I, ab_L, ab_R, ao_I, ao_L, ao_R, gL_sL, gI_sI, gR_sR, gI_sL, gI_sR, gL_sI, gL_sR, gR_sI, gR_sL, mC, m8, m7, m24, m224, b2_0', b2_n', bl_b2]
  try simp only [mrgI, mrgL, mrg0, rtI, rtL, ite_self]
  try simp only [e342_80, Option.getD_some, Option.bind_some, Option.toList_some, Option.toList_none, List.cons_append, List.nil_append, and_self, and_true, true_and, false_and, and_false, ite_self, not_true_eq_false, not_false_eq_true, reduceIte, Nat.reduceEqDiff, ab_I, ab_L, ab_R, ao_I, ao_L, ao_R, gL_sL, gI_sI, gR_sR, gI_sL, gI_sR, gL_sI, gL_sR, gR_sI, gR_sL, mC, m8, m7, m24, m224, b2_0', b2_n', bl_b2]
  try simp only [mrgI, mrgL, mrg0, rtI, rtL, ite_self]
  try simp only [e342_103, Option.getD_some, Option.bind_some, Option.toList_some, Option.toList_none, List.cons_append, List.nil_append, and_self, and_true, true_and, false_and, and_false, ite_self, not_true_eq_false, not_false_eq_true, reduceIte, Nat.reduceEqDiff, ab_I, ab_L, ab_R, ao_I, ao_L, ao_R, gL_sL, gI_sI, gR_sR, gI_sL, gI_sR, gL_sI, gL_sR, gR_sI, gR_sL, mC, m8, m7, m24, m224, b2_0', b2_n', bl_b2]
  try simp only [mrgI, mrgL, mrg0, rtI, rtL, ite_self]
  try simp only [e342_132, Option.getD_some, Option.bind_some, Option.toList_some, Option.toList_none, List.cons_append, List.nil_append, and_self, and_true, true_and, false_and, and_false, ite_self, not_true_eq_false, not_false_eq_true, reduceIte, Nat.reduceEqDiff, ab_I, ab_L, ab_R, ao_I, ao_L, ao_R, gL_sL, gI_sI, gR_sR, gI_sL, gI_sR, gL_sI, gL_sR, gR_sI, gR_sL, mC, m8, m7, m24, m224, b2_0', b2_n', bl_b2]
  try simp only [mrgI, mrgL, mrg0, rtI, rtL, ite_self]
  try simp only [e342_164, Option.getD_some, Option.bind_some, Option.toList_some, Option.toList_none, List.cons_append, List.nil_append, and_self, and_true, true_and, false_and, and_false, ite_self, not_true_eq_false, not_false_eq_true, reduceIte, Nat.reduceEqDiff, ab_I, ab_L, ab_R, ao_I, ao_L, ao_R, gL_sL, gI_sI, gR_sR, gI_sL, gI_sR, gL_sI, gL_sR, gR_sI, gR_sL, mC, m8, m7, m24, m224, b2_0', b2_n', bl_b2]
  try simp only [mrgI, mrgL, mrg0, rtI, rtL, ite_self]
  try simp only [e342_169, Option.getD_some, Option.bind_some, Option.toList_some, Option.toList_none, List.cons_append, List.nil_append, and_self, and_true, true_and, false_and, and_false, ite_self, not_true_eq_false, not_false_eq_true, reduceIte, Nat.reduceEqDiff, ab_I, ab_L, ab_R, ao_I, ao_L, ao_R, gL_sL, gI_sI, gR_sR, gI_sL, gI_sR, gL_sI, gL_sR, gR_sI, gR_sL, mC, m8, m7, m24, m224, b2_0', b2_n', bl_b2]
  try simp only [mrgI, mrgL, mrg0, rtI, rtL, ite_self]
  try simp only [e342_202, Option.getD_some, Option.bind_some, Option.toList_some, Option.toList_none, List.cons_append, List.nil_append, and_self, and_true, true_and, false_and, and_false, ite_self, not_true_eq_false, not_false_eq_true, reduceIte, Nat.reduceEqDiff, ab_I, ab_L, ab_R, ao_I, ao_L, ao_R, gL_sL, gI_sI, gR_sR, gI_sL, gI_sR, gL_sI, gL_sR, gR_sI, gR_sL, mC, m8, m7, m24, m224, b2_0', b2_n', bl_b2]
  try simp only [mrgI, mrgL, mrg0, rtI, rtL, ite_self]
  try simp only [e342_207, Option.getD_some, Option.bind_some, Option.toList_some, Option.toList_none, List.cons_append, List.nil_append, and_self, and_true, true_and, false_and, and_false, ite_self, not_true_eq_false, not_false_eq_true, reduceIte, Nat.reduceEqDiff, ab_I, ab_L, ab_R, ao_I, ao_L, ao_R, gL_sL, gI_sI, gR_sR, gI_sL, gI_sR, gL_sI, gL_sR, gR_sI, gR_sL, mC, m8, m7, m24, m224, b2_0', b2_n', bl_b2]
  try simp only [mrgI, mrgL, mrg0, rtI, rtL, ite_self]
  try simp only [e342_223, Option.getD_some, Option.bind_some, Option.toList_some, Option.toList_none, List.cons_append, List.nil_append, and_self, and_true, true_and, false_and, and_false, ite_self, not_true_eq_false, not_false_eq_true, reduceIte, Nat.reduceEqDiff, ab_I, ab_L, ab_R, ao_I, ao_L, ao_R, gL_sL, gI_sI, gR_sR, gI_sL, gI_sR, gL_sI, gL_sR, gR_sI, gR_sL, mC, m8, m7, m24, m224, b2_0', b2_n', bl_b2]
  try simp only [mrgI, mrgL, mrg0, rtI, rtL, ite_self]
  try simp only [e342_240, Option.getD_some, Option.bind_some, Option.toList_some, Option.toList_none, List.cons_append, List.nil_append, and_self, and_true, true_and, false_and, and_false, ite_self, not_true_eq_false, not_false_eq_true, reduceIte, Nat.reduceEqDiff, ab_I, ab_L, ab_R, ao_I, ao_L, ao_R, gL_sL, gI_sI, gR_sR, gI_sL, gI_sR, gL_sI, gL_sR, gR_sI, gR_sL, mC, m8, m7, m24, m224, b2_0', b2_n', bl_b2]
  try simp only [mrgI, mrgL, mrg0, rtI, rtL, ite_self]
  try simp only [e342_251, Option.getD_some, Option.bind_some, Option.toList_some, Option.toList_none, List.cons_append, List.nil_append, and_self, and_true, true_and, false_and, and_false, ite_self, not_true_eq_false, not_false_eq_true, reduceIte, Nat.reduceEqDiff, ab_I, ab_L, ab_R, ao_I, ao_L, ao_R, gL_sL, gI_sI, gR_sR, gI_sL, gI_sR, gL_sI, gL_sR, gR_sI, gR_sL, mC, m8, m7, m24, m224, b2_0', b2_n', bl_b2]
  try simp only [mrgI, mrgL, mrg0, rtI, rtL, ite_self]
  try simp only [e342_255, Option.getD_some, Option.bind_some, Option.toList_some, Option.toList_none, List.cons_append, List.nil_append, and_self, and_true, true_and, false_and, and_false, ite_self, not_true_eq_false, not_false_eq_true, reduceIte, Nat.reduceEqDiff, ab_I, ab_L, ab_R, ao_I, ao_L, ao_R, gL_sL, gI_sI, gR_sR, gI_sL, gI_sR, gL_sI, gL_sR, gR_sI, gR_sL, mC, m8, m7, m24, m224, b2_0', b2_n', bl_b2]
  try simp only [mrgI, mrgL, mrg0, rtI, rtL, ite_self]
  unfold b2
  repeat' split
  all_goals first | rfl | (exfalso; simp only [if_prop, fC, fL, fM, fB] at *; omega)
set_option maxHeartbeats 4000000 in
theorem T343 {w : B64} {σ : MS} : MM 343 [mL w] σ = some (some (mI (b2 (okPl w))), σ) := by
  have f := fld_rng w
  have c : fL w = 0 ∨ fL w = 1 ∨ fL w = 2 ∨ fL w = 3 ∨ fL w = 4 ∨ fL w = 5 ∨ fL w = 6 ∨ fL w = 7 := by unfold fL; omega
  rcases c with c | c | c | c | c | c | c | c
  all_goals simp [M343, e343_0, e343_4, e343_63, e343_67, e343_71, e343_75, e343_78, e343_84, e343_88, e343_92, e343_96, e343_99, e343_105, e343_109, e343_113, e343_116, T332, T333, T334, T335, T336, m7, c, T339, T341, T342, bl_b2, okPl]
  all_goals rfl
theorem and_F0 (x : B64) : (x &&& cF = 0#64) = (x &&& iL 4294967295 = 0#64) := by rw [iL_F]
set_option maxHeartbeats 4000000 in
theorem T344 {w w2 : B64} {σ : MS} : MM 344 [mL w, mL w2] σ = some (some (mI (b2 (okPr w w2))), σ) := by
  have f := fld_rng w
  rw [M344]
  try simp only [e344_0, Option.getD_some, Option.bind_some, Option.toList_some, Option.toList_none, List.cons_append, List.nil_append, and_self, and_true, true_and, false_and, and_false, ite_self, not_true_eq_false, not_false_eq_true, reduceIte, Nat.reduceEqDiff, ab_I, ab_L, ab_R, ao_I, ao_L, ao_R, gL_sL, gI_sI, gR_sR, gI_sL, gI_sR, gL_sI, gL_sR, gR_sI, gR_sL, T332, T333, T334, T335, T336, ← and_F0, b2_0', b2_n', bl_b2]
  try simp only [mrgI, mrgL, mrg0, rtI, rtL, ite_self]
  try simp only [e344_4, Option.getD_some, Option.bind_some, Option.toList_some, Option.toList_none, List.cons_append, List.nil_append, and_self, and_true, true_and, false_and, and_false, ite_self, not_true_eq_false, not_false_eq_true, reduceIte, Nat.reduceEqDiff, ab_I, ab_L, ab_R, ao_I, ao_L, ao_R, gL_sL, gI_sI, gR_sR, gI_sL, gI_sR, gL_sI, gL_sR, gR_sI, gR_sL, T332, T333, T334, T335, T336, ← and_F0, b2_0', b2_n', bl_b2]
  try simp only [mrgI, mrgL, mrg0, rtI, rtL, ite_self]
  try simp only [e344_13, Option.getD_some, Option.bind_some, Option.toList_some, Option.toList_none, List.cons_append, List.nil_append, and_self, and_true, true_and, false_and, and_false, ite_self, not_true_eq_false, not_false_eq_true, reduceIte, Nat.reduceEqDiff, ab_I, ab_L, ab_R, ao_I, ao_L, ao_R, gL_sL, gI_sI, gR_sR, gI_sL, gI_sR, gL_sI, gL_sR, gR_sI, gR_sL, T332, T333, T334, T335, T336, ← and_F0, b2_0', b2_n', bl_b2]
  try simp only [mrgI, mrgL, mrg0, rtI, rtL, ite_self]
  try simp only [e344_22, Option.getD_some, Option.bind_some, Option.toList_some, Option.toList_none, List.cons_append, List.nil_append, and_self, and_true, true_and, false_and, and_false, ite_self, not_true_eq_false, not_false_eq_true, reduceIte, Nat.reduceEqDiff, ab_I, ab_L, ab_R, ao_I, ao_L, ao_R, gL_sL, gI_sI, gR_sR, gI_sL, gI_sR, gL_sI, gL_sR, gR_sI, gR_sL, T332, T333, T334, T335, T336, ← and_F0, b2_0', b2_n', bl_b2]
  try simp only [mrgI, mrgL, mrg0, rtI, rtL, ite_self]
  try simp only [e344_39, Option.getD_some, Option.bind_some, Option.toList_some, Option.toList_none, List.cons_append, List.nil_append, and_self, and_true, true_and, false_and, and_false, ite_self, not_true_eq_false, not_false_eq_true, reduceIte, Nat.reduceEqDiff, ab_I, ab_L, ab_R, ao_I, ao_L, ao_R, gL_sL, gI_sI, gR_sR, gI_sL, gI_sR, gL_sI, gL_sR, gR_sI, gR_sL, T332, T333, T334, T335, T336, ← and_F0, b2_0', b2_n', bl_b2]
  try simp only [mrgI, mrgL, mrg0, rtI, rtL, ite_self]
  try simp only [e344_40, Option.getD_some, Option.bind_some, Option.toList_some, Option.toList_none, List.cons_append, List.nil_append, and_self, and_true, true_and, false_and, and_false, ite_self, not_true_eq_false, not_false_eq_true, reduceIte, Nat.reduceEqDiff, ab_I, ab_L, ab_R, ao_I, ao_L, ao_R, gL_sL, gI_sI, gR_sR, gI_sL, gI_sR, gL_sI, gL_sR, gR_sI, gR_sL, T332, T333, T334, T335, T336, ← and_F0, b2_0', b2_n', bl_b2]
  try simp only [mrgI, mrgL, mrg0, rtI, rtL, ite_self]
  try simp only [e344_46, Option.getD_some, Option.bind_some, Option.toList_some, Option.toList_none, List.cons_append, List.nil_append, and_self, and_true, true_and, false_and, and_false, ite_self, not_true_eq_false, not_false_eq_true, reduceIte, Nat.reduceEqDiff, ab_I, ab_L, ab_R, ao_I, ao_L, ao_R, gL_sL, gI_sI, gR_sR, gI_sL, gI_sR, gL_sI, gL_sR, gR_sI, gR_sL, T332, T333, T334, T335, T336, ← and_F0, b2_0', b2_n', bl_b2]
  try simp only [mrgI, mrgL, mrg0, rtI, rtL, ite_self]
  try simp only [e344_57, Option.getD_some, Option.bind_some, Option.toList_some, Option.toList_none, List.cons_append, List.nil_append, and_self, and_true, true_and, false_and, and_false, ite_self, not_true_eq_false, not_false_eq_true, reduceIte, Nat.reduceEqDiff, ab_I, ab_L, ab_R, ao_I, ao_L, ao_R, gL_sL, gI_sI, gR_sR, gI_sL, gI_sR, gL_sI, gL_sR, gR_sI, gR_sL, T332, T333, T334, T335, T336, ← and_F0, b2_0', b2_n', bl_b2]
  try simp only [mrgI, mrgL, mrg0, rtI, rtL, ite_self]
  try simp only [e344_64, Option.getD_some, Option.bind_some, Option.toList_some, Option.toList_none, List.cons_append, List.nil_append, and_self, and_true, true_and, false_and, and_false, ite_self, not_true_eq_false, not_false_eq_true, reduceIte, Nat.reduceEqDiff, ab_I, ab_L, ab_R, ao_I, ao_L, ao_R, gL_sL, gI_sI, gR_sR, gI_sL, gI_sR, gL_sI, gL_sR, gR_sI, gR_sL, T332, T333, T334, T335, T336, ← and_F0, b2_0', b2_n', bl_b2]
  try simp only [mrgI, mrgL, mrg0, rtI, rtL, ite_self]
  try simp only [e344_86, Option.getD_some, Option.bind_some, Option.toList_some, Option.toList_none, List.cons_append, List.nil_append, and_self, and_true, true_and, false_and, and_false, ite_self, not_true_eq_false, not_false_eq_true, reduceIte, Nat.reduceEqDiff, ab_I, ab_L, ab_R, ao_I, ao_L, ao_R, gL_sL, gI_sI, gR_sR, gI_sL, gI_sR, gL_sI, gL_sR, gR_sI, gR_sL, T332, T333, T334, T335, T336, ← and_F0, b2_0', b2_n', bl_b2]
  try simp only [mrgI, mrgL, mrg0, rtI, rtL, ite_self]
  try simp only [e344_90, Option.getD_some, Option.bind_some, Option.toList_some, Option.toList_none, List.cons_append, List.nil_append, and_self, and_true, true_and, false_and, and_false, ite_self, not_true_eq_false, not_false_eq_true, reduceIte, Nat.reduceEqDiff, ab_I, ab_L, ab_R, ao_I, ao_L, ao_R, gL_sL, gI_sI, gR_sR, gI_sL, gI_sR, gL_sI, gL_sR, gR_sI, gR_sL, T332, T333, T334, T335, T336, ← and_F0, b2_0', b2_n', bl_b2]
  try simp only [mrgI, mrgL, mrg0, rtI, rtL, ite_self]
  unfold b2
  repeat' split
  all_goals first | rfl | (exfalso; simp_all; done) | (exfalso; omega)
/-! the class -/
set_option maxHeartbeats 4000000 in
theorem T9 {w : B64} {σ : MS} : MM 9 [mL w] σ = some (some (mI (b2 (okAlu w))), σ) := by
  have f := fld_rng w
  rw [M9]
  try simp only [e9_0, Option.getD_some, Option.bind_some, Option.toList_some, Option.toList_none, List.cons_append, List.nil_append, and_self, and_true, true_and, false_and, and_false, ite_self, not_true_eq_false, not_false_eq_true, reduceIte, Nat.reduceEqDiff, ab_I, ab_L, ab_R, ao_I, ao_L, ao_R, gL_sL, gI_sI, gR_sR, gI_sL, gI_sR, gL_sI, gL_sR, gR_sI, gR_sL, T0, T1, T2, T3, T4, mC, m8, m7, b2_0', b2_n', bl_b2]
  try simp only [mrgI, mrgL, mrg0, rtI, rtL, ite_self]
  try simp only [e9_4, Option.getD_some, Option.bind_some, Option.toList_some, Option.toList_none, List.cons_append, List.nil_append, and_self, and_true, true_and, false_and, and_false, ite_self, not_true_eq_false, not_false_eq_true, reduceIte, Nat.reduceEqDiff, ab_I, ab_L, ab_R, ao_I, ao_L, ao_R, gL_sL, gI_sI, gR_sR, gI_sL, gI_sR, gL_sI, gL_sR, gR_sI, gR_sL, T0, T1, T2, T3, T4, mC, m8, m7, b2_0', b2_n', bl_b2]
  try simp only [mrgI, mrgL, mrg0, rtI, rtL, ite_self]
  try simp only [e9_25, Option.getD_some, Option.bind_some, Option.toList_some, Option.toList_none, List.cons_append, List.nil_append, and_self, and_true, true_and, false_and, and_false, ite_self, not_true_eq_false, not_false_eq_true, reduceIte, Nat.reduceEqDiff, ab_I, ab_L, ab_R, ao_I, ao_L, ao_R, gL_sL, gI_sI, gR_sR, gI_sL, gI_sR, gL_sI, gL_sR, gR_sI, gR_sL, T0, T1, T2, T3, T4, mC, m8, m7, b2_0', b2_n', bl_b2]
  try simp only [mrgI, mrgL, mrg0, rtI, rtL, ite_self]
  try simp only [e9_39, Option.getD_some, Option.bind_some, Option.toList_some, Option.toList_none, List.cons_append, List.nil_append, and_self, and_true, true_and, false_and, and_false, ite_self, not_true_eq_false, not_false_eq_true, reduceIte, Nat.reduceEqDiff, ab_I, ab_L, ab_R, ao_I, ao_L, ao_R, gL_sL, gI_sI, gR_sR, gI_sL, gI_sR, gL_sI, gL_sR, gR_sI, gR_sL, T0, T1, T2, T3, T4, mC, m8, m7, b2_0', b2_n', bl_b2]
  try simp only [mrgI, mrgL, mrg0, rtI, rtL, ite_self]
  try simp only [e9_45, Option.getD_some, Option.bind_some, Option.toList_some, Option.toList_none, List.cons_append, List.nil_append, and_self, and_true, true_and, false_and, and_false, ite_self, not_true_eq_false, not_false_eq_true, reduceIte, Nat.reduceEqDiff, ab_I, ab_L, ab_R, ao_I, ao_L, ao_R, gL_sL, gI_sI, gR_sR, gI_sL, gI_sR, gL_sI, gL_sR, gR_sI, gR_sL, T0, T1, T2, T3, T4, mC, m8, m7, b2_0', b2_n', bl_b2]
  try simp only [mrgI, mrgL, mrg0, rtI, rtL, ite_self]
  try simp only [e9_51, Option.getD_some, Option.bind_some, Option.toList_some, Option.toList_none, List.cons_append, List.nil_append, and_self, and_true, true_and, false_and, and_false, ite_self, not_true_eq_false, not_false_eq_true, reduceIte, Nat.reduceEqDiff, ab_I, ab_L, ab_R, ao_I, ao_L, ao_R, gL_sL, gI_sI, gR_sR, gI_sL, gI_sR, gL_sI, gL_sR, gR_sI, gR_sL, T0, T1, T2, T3, T4, mC, m8, m7, b2_0', b2_n', bl_b2]
  try simp only [mrgI, mrgL, mrg0, rtI, rtL, ite_self]
  try simp only [e9_83, Option.getD_some, Option.bind_some, Option.toList_some, Option.toList_none, List.cons_append, List.nil_append, and_self, and_true, true_and, false_and, and_false, ite_self, not_true_eq_false, not_false_eq_true, reduceIte, Nat.reduceEqDiff, ab_I, ab_L, ab_R, ao_I, ao_L, ao_R, gL_sL, gI_sI, gR_sR, gI_sL, gI_sR, gL_sI, gL_sR, gR_sI, gR_sL, T0, T1, T2, T3, T4, mC, m8, m7, b2_0', b2_n', bl_b2]
  try simp only [mrgI, mrgL, mrg0, rtI, rtL, ite_self]
  try simp only [e9_90, Option.getD_some, Option.bind_some, Option.toList_some, Option.toList_none, List.cons_append, List.nil_append, and_self, and_true, true_and, false_and, and_false, ite_self, not_true_eq_false, not_false_eq_true, reduceIte, Nat.reduceEqDiff, ab_I, ab_L, ab_R, ao_I, ao_L, ao_R, gL_sL, gI_sI, gR_sR, gI_sL, gI_sR, gL_sI, gL_sR, gR_sI, gR_sL, T0, T1, T2, T3, T4, mC, m8, m7, b2_0', b2_n', bl_b2]
  try simp only [mrgI, mrgL, mrg0, rtI, rtL, ite_self]
  try simp only [e9_114, Option.getD_some, Option.bind_some, Option.toList_some, Option.toList_none, List.cons_append, List.nil_append, and_self, and_true, true_and, false_and, and_false, ite_self, not_true_eq_false, not_false_eq_true, reduceIte, Nat.reduceEqDiff, ab_I, ab_L, ab_R, ao_I, ao_L, ao_R, gL_sL, gI_sI, gR_sR, gI_sL, gI_sR, gL_sI, gL_sR, gR_sI, gR_sL, T0, T1, T2, T3, T4, mC, m8, m7, b2_0', b2_n', bl_b2]
  try simp only [mrgI, mrgL, mrg0, rtI, rtL, ite_self]
  try simp only [e9_118, Option.getD_some, Option.bind_some, Option.toList_some, Option.toList_none, List.cons_append, List.nil_append, and_self, and_true, true_and, false_and, and_false, ite_self, not_true_eq_false, not_false_eq_true, reduceIte, Nat.reduceEqDiff, ab_I, ab_L, ab_R, ao_I, ao_L, ao_R, gL_sL, gI_sI, gR_sR, gI_sL, gI_sR, gL_sI, gL_sR, gR_sI, gR_sL, T0, T1, T2, T3, T4, mC, m8, m7, b2_0', b2_n', bl_b2]
  try simp only [mrgI, mrgL, mrg0, rtI, rtL, ite_self]
  try simp only [e9_129, Option.getD_some, Option.bind_some, Option.toList_some, Option.toList_none, List.cons_append, List.nil_append, and_self, and_true, true_and, false_and, and_false, ite_self, not_true_eq_false, not_false_eq_true, reduceIte, Nat.reduceEqDiff, ab_I, ab_L, ab_R, ao_I, ao_L, ao_R, gL_sL, gI_sI, gR_sR, gI_sL, gI_sR, gL_sI, gL_sR, gR_sI, gR_sL, T0, T1, T2, T3, T4, mC, m8, m7, b2_0', b2_n', bl_b2]
  try simp only [mrgI, mrgL, mrg0, rtI, rtL, ite_self]
  try simp only [e9_146, Option.getD_some, Option.bind_some, Option.toList_some, Option.toList_none, List.cons_append, List.nil_append, and_self, and_true, true_and, false_and, and_false, ite_self, not_true_eq_false, not_false_eq_true, reduceIte, Nat.reduceEqDiff, ab_I, ab_L, ab_R, ao_I, ao_L, ao_R, gL_sL, gI_sI, gR_sR, gI_sL, gI_sR, gL_sI, gL_sR, gR_sI, gR_sL, T0, T1, T2, T3, T4, mC, m8, m7, b2_0', b2_n', bl_b2]
  try simp only [mrgI, mrgL, mrg0, rtI, rtL, ite_self]
  try simp only [e9_151, Option.getD_some, Option.bind_some, Option.toList_some, Option.toList_none, List.cons_append, List.nil_append, and_self, and_true, true_and, false_and, and_false, ite_self, not_true_eq_false, not_false_eq_true, reduceIte, Nat.reduceEqDiff, ab_I, ab_L, ab_R, ao_I, ao_L, ao_R, gL_sL, gI_sI, gR_sR, gI_sL, gI_sR, gL_sI, gL_sR, gR_sI, gR_sL, T0, T1, T2, T3, T4, mC, m8, m7, b2_0', b2_n', bl_b2]
  try simp only [mrgI, mrgL, mrg0, rtI, rtL, ite_self]
  try simp only [e9_224, Option.getD_some, Option.bind_some, Option.toList_some, Option.toList_none, List.cons_append, List.nil_append, and_self, and_true, true_and, false_and, and_false, ite_self, not_true_eq_false, not_false_eq_true, reduceIte, Nat.reduceEqDiff, ab_I, ab_L, ab_R, ao_I, ao_L, ao_R, gL_sL, gI_sI, gR_sR, gI_sL, gI_sR, gL_sI, gL_sR, gR_sI, gR_sL, T0, T1, T2, T3, T4, mC, m8, m7, b2_0', b2_n', bl_b2]
  try simp only [mrgI, mrgL, mrg0, rtI, rtL, ite_self]
  try simp only [e9_231, Option.getD_some, Option.bind_some, Option.toList_some, Option.toList_none, List.cons_append, List.nil_append, and_self, and_true, true_and, false_and, and_false, ite_self, not_true_eq_false, not_false_eq_true, reduceIte, Nat.reduceEqDiff, ab_I, ab_L, ab_R, ao_I, ao_L, ao_R, gL_sL, gI_sI, gR_sR, gI_sL, gI_sR, gL_sI, gL_sR, gR_sI, gR_sL, T0, T1, T2, T3, T4, mC, m8, m7, b2_0', b2_n', bl_b2]
  try simp only [mrgI, mrgL, mrg0, rtI, rtL, ite_self]
  try simp only [e9_235, Option.getD_some, Option.bind_some, Option.toList_some, Option.toList_none, List.cons_append, List.nil_append, and_self, and_true, true_and, false_and, and_false, ite_self, not_true_eq_false, not_false_eq_true, reduceIte, Nat.reduceEqDiff, ab_I, ab_L, ab_R, ao_I, ao_L, ao_R, gL_sL, gI_sI, gR_sR, gI_sL, gI_sR, gL_sI, gL_sR, gR_sI, gR_sL, T0, T1, T2, T3, T4, mC, m8, m7, b2_0', b2_n', bl_b2]
  try simp only [mrgI, mrgL, mrg0, rtI, rtL, ite_self]
  try simp only [e9_245, Option.getD_some, Option.bind_some, Option.toList_some, Option.toList_none, List.cons_append, List.nil_append, and_self, and_true, true_and, false_and, and_false, ite_self, not_true_eq_false, not_false_eq_true, reduceIte, Nat.reduceEqDiff, ab_I, ab_L, ab_R, ao_I, ao_L, ao_R, gL_sL, gI_sI, gR_sR, gI_sL, gI_sR, gL_sI, gL_sR, gR_sI, gR_sL, T0, T1, T2, T3, T4, mC, m8, m7, b2_0', b2_n', bl_b2]
  try simp only [mrgI, mrgL, mrg0, rtI, rtL, ite_self]
  try simp only [e9_249, Option.getD_some, Option.bind_some, Option.toList_some, Option.toList_none, List.cons_append, List.nil_append, and_self, and_true, true_and, false_and, and_false, ite_self, not_true_eq_false, not_false_eq_true, reduceIte, Nat.reduceEqDiff, ab_I, ab_L, ab_R, ao_I, ao_L, ao_R, gL_sL, gI_sI, gR_sR, gI_sL, gI_sR, gL_sI, gL_sR, gR_sI, gR_sL, T0, T1, T2, T3, T4, mC, m8, m7, b2_0', b2_n', bl_b2]
  try simp only [mrgI, mrgL, mrg0, rtI, rtL, ite_self]
  try simp only [e9_255, Option.getD_some, Option.bind_some, Option.toList_some, Option.toList_none, List.cons_append, List.nil_append, and_self, and_true, true_and, false_and, and_false, ite_self, not_true_eq_false, not_false_eq_true, reduceIte, Nat.reduceEqDiff, ab_I, ab_L, ab_R, ao_I, ao_L, ao_R, gL_sL, gI_sI, gR_sR, gI_sL, gI_sR, gL_sI, gL_sR, gR_sI, gR_sL, T0, T1, T2, T3, T4, mC, m8, m7, b2_0', b2_n', bl_b2]
  try simp only [mrgI, mrgL, mrg0, rtI, rtL, ite_self]
  try simp only [e9_277, Option.getD_some, Option.bind_some, Option.toList_some, Option.toList_none, List.cons_append, List.nil_append, and_self, and_true, true_and, false_and, and_false, ite_self, not_true_eq_false, not_false_eq_true, reduceIte, Nat.reduceEqDiff, ab_I, ab_L, ab_R, ao_I, ao_L, ao_R, gL_sL, gI_sI, gR_sR, gI_sL, gI_sR, gL_sI, gL_sR, gR_sI, gR_sL, T0, T1, T2, T3, T4, mC, m8, m7, b2_0', b2_n', bl_b2]
  try simp only [mrgI, mrgL, mrg0, rtI, rtL, ite_self]
  try simp only [e9_284, Option.getD_some, Option.bind_some, Option.toList_some, Option.toList_none, List.cons_append, List.nil_append, and_self, and_true, true_and, false_and, and_false, ite_self, not_true_eq_false, not_false_eq_true, reduceIte, Nat.reduceEqDiff, ab_I, ab_L, ab_R, ao_I, ao_L, ao_R, gL_sL, gI_sI, gR_sR, gI_sL, gI_sR, gL_sI, gL_sR, gR_sI, gR_sL, T0, T1, T2, T3, T4, mC, m8, m7, b2_0', b2_n', bl_b2]
  try simp only [mrgI, mrgL, mrg0, rtI, rtL, ite_self]
  try simp only [e9_290, Option.getD_some, Option.bind_some, Option.toList_some, Option.toList_none, List.cons_append, List.nil_append, and_self, and_true, true_and, false_and, and_false, ite_self, not_true_eq_false, not_false_eq_true, reduceIte, Nat.reduceEqDiff, ab_I, ab_L, ab_R, ao_I, ao_L, ao_R, gL_sL, gI_sI, gR_sR, gI_sL, gI_sR, gL_sI, gL_sR, gR_sI, gR_sL, T0, T1, T2, T3, T4, mC, m8, m7, b2_0', b2_n', bl_b2]
  try simp only [mrgI, mrgL, mrg0, rtI, rtL, ite_self]
  try simp only [e9_307, Option.getD_some, Option.bind_some, Option.toList_some, Option.toList_none, List.cons_append, List.nil_append, and_self, and_true, true_and, false_and, and_false, ite_self, not_true_eq_false, not_false_eq_true, reduceIte, Nat.reduceEqDiff, ab_I, ab_L, ab_R, ao_I, ao_L, ao_R, gL_sL, gI_sI, gR_sR, gI_sL, gI_sR, gL_sI, gL_sR, gR_sI, gR_sL, T0, T1, T2, T3, T4, mC, m8, m7, b2_0', b2_n', bl_b2]
  try simp only [mrgI, mrgL, mrg0, rtI, rtL, ite_self]
  try simp only [e9_313, Option.getD_some, Option.bind_some, Option.toList_some, Option.toList_none, List.cons_append, List.nil_append, and_self, and_true, true_and, false_and, and_false, ite_self, not_true_eq_false, not_false_eq_true, reduceIte, Nat.reduceEqDiff, ab_I, ab_L, ab_R, ao_I, ao_L, ao_R, gL_sL, gI_sI, gR_sR, gI_sL, gI_sR, gL_sI, gL_sR, gR_sI, gR_sL, T0, T1, T2, T3, T4, mC, m8, m7, b2_0', b2_n', bl_b2]
  try simp only [mrgI, mrgL, mrg0, rtI, rtL, ite_self]
  try simp only [e9_325, Option.getD_some, Option.bind_some, Option.toList_some, Option.toList_none, List.cons_append, List.nil_append, and_self, and_true, true_and, false_and, and_false, ite_self, not_true_eq_false, not_false_eq_true, reduceIte, Nat.reduceEqDiff, ab_I, ab_L, ab_R, ao_I, ao_L, ao_R, gL_sL, gI_sI, gR_sR, gI_sL, gI_sR, gL_sI, gL_sR, gR_sI, gR_sL, T0, T1, T2, T3, T4, mC, m8, m7, b2_0', b2_n', bl_b2]
  try simp only [mrgI, mrgL, mrg0, rtI, rtL, ite_self]
  try simp only [e9_334, Option.getD_some, Option.bind_some, Option.toList_some, Option.toList_none, List.cons_append, List.nil_append, and_self, and_true, true_and, false_and, and_false, ite_self, not_true_eq_false, not_false_eq_true, reduceIte, Nat.reduceEqDiff, ab_I, ab_L, ab_R, ao_I, ao_L, ao_R, gL_sL, gI_sI, gR_sR, gI_sL, gI_sR, gL_sI, gL_sR, gR_sI, gR_sL, T0, T1, T2, T3, T4, mC, m8, m7, b2_0', b2_n', bl_b2]
  try simp only [mrgI, mrgL, mrg0, rtI, rtL, ite_self]
  try simp only [e9_348, Option.getD_some, Option.bind_some, Option.toList_some, Option.toList_none, List.cons_append, List.nil_append, and_self, and_true, true_and, false_and, and_false, ite_self, not_true_eq_false, not_false_eq_true, reduceIte, Nat.reduceEqDiff, ab_I, ab_L, ab_R, ao_I, ao_L, ao_R, gL_sL, gI_sI, gR_sR, gI_sL, gI_sR, gL_sI, gL_sR, gR_sI, gR_sL, T0, T1, T2, T3, T4, mC, m8, m7, b2_0', b2_n', bl_b2]
  try simp only [mrgI, mrgL, mrg0, rtI, rtL, ite_self]
  try simp only [e9_353, Option.getD_some, Option.bind_some, Option.toList_some, Option.toList_none, List.cons_append, List.nil_append, and_self, and_true, true_and, false_and, and_false, ite_self, not_true_eq_false, not_false_eq_true, reduceIte, Nat.reduceEqDiff, ab_I, ab_L, ab_R, ao_I, ao_L, ao_R, gL_sL, gI_sI, gR_sR, gI_sL, gI_sR, gL_sI, gL_sR, gR_sI, gR_sL, T0, T1, T2, T3, T4, mC, m8, m7, b2_0', b2_n', bl_b2]
  try simp only [mrgI, mrgL, mrg0, rtI, rtL, ite_self]
  try simp only [e9_357, Option.getD_some, Option.bind_some, Option.toList_some, Option.toList_none, List.cons_append, List.nil_append, and_self, and_true, true_and, false_and, and_false, ite_self, not_true_eq_false, not_false_eq_true, reduceIte, Nat.reduceEqDiff, ab_I, ab_L, ab_R, ao_I, ao_L, ao_R, gL_sL, gI_sI, gR_sR, gI_sL, gI_sR, gL_sI, gL_sR, gR_sI, gR_sL, T0, T1, T2, T3, T4, mC, m8, m7, b2_0', b2_n', bl_b2]
  try simp only [mrgI, mrgL, mrg0, rtI, rtL, ite_self]
  try simp only [e9_363, Option.getD_some, Option.bind_some, Option.toList_some, Option.toList_none, List.cons_append, List.nil_append, and_self, and_true, true_and, false_and, and_false, ite_self, not_true_eq_false, not_false_eq_true, reduceIte, Nat.reduceEqDiff, ab_I, ab_L, ab_R, ao_I, ao_L, ao_R, gL_sL, gI_sI, gR_sR, gI_sL, gI_sR, gL_sI, gL_sR, gR_sI, gR_sL, T0, T1, T2, T3, T4, mC, m8, m7, b2_0', b2_n', bl_b2]
  try simp only [mrgI, mrgL, mrg0, rtI, rtL, ite_self]
  unfold b2
  repeat' split
  all_goals first | rfl | (exfalso; simp only [if_prop, fC, fL, fM, fB] at *; omega)
-- FILE 27.rnum
/-! ===== the reference's numbers ===== -/
theorem w8_1 : w8 1 = 1 := by decide
theorem gL_wK {σ : MS} {i k s : Nat} {a b c d e : Int} : gL (wK σ i a b c d e) k s = gL σ k s := rfl
theorem gR_wK {σ : MS} {i k s : Nat} {a b c d e : Int} : gR (wK σ i a b c d e) k s = gR σ k s := rfl
theorem kd_wK {σ : MS} {i k : Nat} {a b c d e : Int} : kd (wK σ i a b c d e) k = kd σ k := rfl
theorem ab_wK {σ : MS} {i ty k : Nat} {j a b c d e : Int} : ab (wK σ i a b c d e) ty k j = ab σ ty k j := rfl
theorem ao_wK {σ : MS} {i c0 : Nat} {y : Option Nat} {a b c d e : Int} : ao (wK σ i a b c d e) c0 y = ao σ c0 y := rfl
theorem rN_wK {σ : MS} {i j : Nat} {a b c d e : Int} : rNv (wK σ i a b c d e) j = rNv σ j := rfl
theorem ite_wN {c : Prop} {d : Decidable c} {σ : MS} {i : Nat} {a b : N6} : (@ite MS c d (wN σ i a) (wN σ i b)) = wN σ i (@ite _ c d a b) := by
  split <;> rfl
theorem T432 {x1 : Int} {σ : MS} (h0 : 0 ≤ x1) (h1 : x1 < 32664) : MM 432 [mR (some 80), mI x1] σ = some (none, wK σ x1.toNat 1 0 0 0 0) := by
  rw [M432]
  try simp only [e432_0, Option.getD_some, Option.bind_some, Option.toList_some, Option.toList_none, List.cons_append, List.nil_append, and_self, and_true, true_and, false_and, and_false, ite_self, not_true_eq_false, not_false_eq_true, reduceIte, Nat.reduceEqDiff, ab_I, ab_L, ab_R, ao_I, ao_L, ao_R, gL_sL, gI_sI, gR_sR, gI_sL, gI_sR, gL_sI, gL_sR, gR_sI, gR_sL, g_118, g_119, g_120, g_121, g_122, h0, h1, w8_1]
  try simp only [mrgI, mrgL, mrg0, rtI, rtL, ite_self]
  try simp only [e432_21, Option.getD_some, Option.bind_some, Option.toList_some, Option.toList_none, List.cons_append, List.nil_append, and_self, and_true, true_and, false_and, and_false, ite_self, not_true_eq_false, not_false_eq_true, reduceIte, Nat.reduceEqDiff, ab_I, ab_L, ab_R, ao_I, ao_L, ao_R, gL_sL, gI_sI, gR_sR, gI_sL, gI_sR, gL_sI, gL_sR, gR_sI, gR_sL, g_118, g_119, g_120, g_121, g_122, h0, h1, w8_1]
  try simp only [mrgI, mrgL, mrg0, rtI, rtL, ite_self]
  rfl
theorem T433 {x1 : Int} {x2 : B64} {σ : MS} (h0 : 0 ≤ x1) (h1 : x1 < 32664) : MM 433 [mR (some 80), mI x1, mL x2] σ = some (none, wrV σ x1.toNat (numV (cstN x2))) := by
  rw [M433]
  try simp only [e433_0, Option.getD_some, Option.bind_some, Option.toList_some, Option.toList_none, List.cons_append, List.nil_append, and_self, and_true, true_and, false_and, and_false, ite_self, not_true_eq_false, not_false_eq_true, reduceIte, Nat.reduceEqDiff, ab_I, ab_L, ab_R, ao_I, ao_L, ao_R, gL_sL, gI_sI, gR_sR, gI_sL, gI_sR, gL_sI, gL_sR, gR_sI, gR_sL, g_112, g_113, g_114, g_115, g_116, g_117, h0, h1, T432 h0 h1]
  try simp only [mrgI, mrgL, mrg0, rtI, rtL, ite_self]
  try simp only [e433_5, Option.getD_some, Option.bind_some, Option.toList_some, Option.toList_none, List.cons_append, List.nil_append, and_self, and_true, true_and, false_and, and_false, ite_self, not_true_eq_false, not_false_eq_true, reduceIte, Nat.reduceEqDiff, ab_I, ab_L, ab_R, ao_I, ao_L, ao_R, gL_sL, gI_sI, gR_sR, gI_sL, gI_sR, gL_sI, gL_sR, gR_sI, gR_sL, g_112, g_113, g_114, g_115, g_116, g_117, h0, h1, T432 h0 h1]
  try simp only [mrgI, mrgL, mrg0, rtI, rtL, ite_self]
  try simp only [e433_26, Option.getD_some, Option.bind_some, Option.toList_some, Option.toList_none, List.cons_append, List.nil_append, and_self, and_true, true_and, false_and, and_false, ite_self, not_true_eq_false, not_false_eq_true, reduceIte, Nat.reduceEqDiff, ab_I, ab_L, ab_R, ao_I, ao_L, ao_R, gL_sL, gI_sI, gR_sR, gI_sL, gI_sR, gL_sI, gL_sR, gR_sI, gR_sL, g_112, g_113, g_114, g_115, g_116, g_117, h0, h1, T432 h0 h1]
  try simp only [mrgI, mrgL, mrg0, rtI, rtL, ite_self]
  try simp only [e433_47, Option.getD_some, Option.bind_some, Option.toList_some, Option.toList_none, List.cons_append, List.nil_append, and_self, and_true, true_and, false_and, and_false, ite_self, not_true_eq_false, not_false_eq_true, reduceIte, Nat.reduceEqDiff, ab_I, ab_L, ab_R, ao_I, ao_L, ao_R, gL_sL, gI_sI, gR_sR, gI_sL, gI_sR, gL_sI, gL_sR, gR_sI, gR_sL, g_112, g_113, g_114, g_115, g_116, g_117, h0, h1, T432 h0 h1]
  try simp only [mrgI, mrgL, mrg0, rtI, rtL, ite_self]
  rfl
theorem T434 {x1 : Int} {σ : MS} (h0 : 0 ≤ x1) (h1 : x1 < 32664) : MM 434 [mR (some 80), mI x1] σ = some (none, sL (sL σ 114 x1.toNat 0#64) 115 x1.toNat cAll) := by
  rw [M434]
  try simp only [e434_0, Option.getD_some, Option.bind_some, Option.toList_some, Option.toList_none, List.cons_append, List.nil_append, and_self, and_true, true_and, false_and, and_false, ite_self, not_true_eq_false, not_false_eq_true, reduceIte, Nat.reduceEqDiff, ab_I, ab_L, ab_R, ao_I, ao_L, ao_R, gL_sL, gI_sI, gR_sR, gI_sL, gI_sR, gL_sI, gL_sR, gR_sI, gR_sL, g_114, g_115, h0, h1, iL_m1]
  try simp only [mrgI, mrgL, mrg0, rtI, rtL, ite_self]
theorem T435 {x1 : Int} {σ : MS} (h0 : 0 ≤ x1) (h1 : x1 < 32664) : MM 435 [mR (some 80), mI x1] σ = some (none, sL (sL σ 116 x1.toNat cMin) 117 x1.toNat cMax) := by
  rw [M435]
  try simp only [e435_0, Option.getD_some, Option.bind_some, Option.toList_some, Option.toList_none, List.cons_append, List.nil_append, and_self, and_true, true_and, false_and, and_false, ite_self, not_true_eq_false, not_false_eq_true, reduceIte, Nat.reduceEqDiff, ab_I, ab_L, ab_R, ao_I, ao_L, ao_R, gL_sL, gI_sI, gR_sR, gI_sL, gI_sR, gL_sI, gL_sR, gR_sI, gR_sL, g_116, g_117, h0, h1, iL_min, iL_max]
  try simp only [mrgI, mrgL, mrg0, rtI, rtL, ite_self]
theorem T436 {x1 : Int} {σ : MS} (h0 : 0 ≤ x1) (h1 : x1 < 32664) : MM 436 [mR (some 80), mI x1] σ = some (none, wrV σ x1.toNat (numV anyN)) := by
  rw [M436]
  try simp only [e436_0, Option.getD_some, Option.bind_some, Option.toList_some, Option.toList_none, List.cons_append, List.nil_append, and_self, and_true, true_and, false_and, and_false, ite_self, not_true_eq_false, not_false_eq_true, reduceIte, Nat.reduceEqDiff, ab_I, ab_L, ab_R, ao_I, ao_L, ao_R, gL_sL, gI_sI, gR_sR, gI_sL, gI_sR, gL_sI, gL_sR, gR_sI, gR_sL, g_112, g_113, h0, h1, T432 h0 h1, T434 h0 h1, T435 h0 h1, iL_m1]
  try simp only [mrgI, mrgL, mrg0, rtI, rtL, ite_self]
  try simp only [e436_5, Option.getD_some, Option.bind_some, Option.toList_some, Option.toList_none, List.cons_append, List.nil_append, and_self, and_true, true_and, false_and, and_false, ite_self, not_true_eq_false, not_false_eq_true, reduceIte, Nat.reduceEqDiff, ab_I, ab_L, ab_R, ao_I, ao_L, ao_R, gL_sL, gI_sI, gR_sR, gI_sL, gI_sR, gL_sI, gL_sR, gR_sI, gR_sL, g_112, g_113, h0, h1, T432 h0 h1, T434 h0 h1, T435 h0 h1, iL_m1]
  try simp only [mrgI, mrgL, mrg0, rtI, rtL, ite_self]
  try simp only [e436_26, Option.getD_some, Option.bind_some, Option.toList_some, Option.toList_none, List.cons_append, List.nil_append, and_self, and_true, true_and, false_and, and_false, ite_self, not_true_eq_false, not_false_eq_true, reduceIte, Nat.reduceEqDiff, ab_I, ab_L, ab_R, ao_I, ao_L, ao_R, gL_sL, gI_sI, gR_sR, gI_sL, gI_sR, gL_sI, gL_sR, gR_sI, gR_sL, g_112, g_113, h0, h1, T432 h0 h1, T434 h0 h1, T435 h0 h1, iL_m1]
  try simp only [mrgI, mrgL, mrg0, rtI, rtL, ite_self]
  try simp only [e436_31, Option.getD_some, Option.bind_some, Option.toList_some, Option.toList_none, List.cons_append, List.nil_append, and_self, and_true, true_and, false_and, and_false, ite_self, not_true_eq_false, not_false_eq_true, reduceIte, Nat.reduceEqDiff, ab_I, ab_L, ab_R, ao_I, ao_L, ao_R, gL_sL, gI_sI, gR_sR, gI_sL, gI_sR, gL_sI, gL_sR, gR_sI, gR_sL, g_112, g_113, h0, h1, T432 h0 h1, T434 h0 h1, T435 h0 h1, iL_m1]
  try simp only [mrgI, mrgL, mrg0, rtI, rtL, ite_self]
  rfl
theorem T437 {x1 : Int} {n : Nat} {σ : MS} (h0 : 0 ≤ x1) (h1 : x1 < 32664) (hn : n ≤ 8) : MM 437 [mR (some 80), mI x1, mI n] σ = some (none, wrV σ x1.toNat (numV (wideN n))) := by
  have e : w32 (8 * (n : Int)) = ((8 * n : Nat) : Int) := by rw [w32_i (by omega) (by omega)]; omega
  rw [M437, e437_0, T436 h0 h1]
  simp only [Option.bind_some, Option.toList_none, List.nil_append]
  unfold numV wideN
  rw [← wK_N]
  by_cases c : 8 ≤ n
  · rw [if_pos c]
    try simp only [e437_0, Option.getD_some, Option.bind_some, Option.toList_some, Option.toList_none, List.cons_append, List.nil_append, and_self, and_true, true_and, false_and, and_false, ite_self, not_true_eq_false, not_false_eq_true, reduceIte, Nat.reduceEqDiff, ab_I, ab_L, ab_R, ao_I, ao_L, ao_R, gL_sL, gI_sI, gR_sR, gI_sL, gI_sR, gL_sI, gL_sR, gR_sI, gR_sL, g_113, g_115, g_116, g_117, h0, h1, ab_wN, ab_wK, e, show ((8 : Int) ≤ (n : Int)) = True from eq_true (by omega)]
    try simp only [mrgI, mrgL, mrg0, rtI, rtL, ite_self]
    try simp only [e437_5, Option.getD_some, Option.bind_some, Option.toList_some, Option.toList_none, List.cons_append, List.nil_append, and_self, and_true, true_and, false_and, and_false, ite_self, not_true_eq_false, not_false_eq_true, reduceIte, Nat.reduceEqDiff, ab_I, ab_L, ab_R, ao_I, ao_L, ao_R, gL_sL, gI_sI, gR_sR, gI_sL, gI_sR, gL_sI, gL_sR, gR_sI, gR_sL, g_113, g_115, g_116, g_117, h0, h1, ab_wN, ab_wK, e, show ((8 : Int) ≤ (n : Int)) = True from eq_true (by omega)]
    try simp only [mrgI, mrgL, mrg0, rtI, rtL, ite_self]
    try simp only [e437_44, Option.getD_some, Option.bind_some, Option.toList_some, Option.toList_none, List.cons_append, List.nil_append, and_self, and_true, true_and, false_and, and_false, ite_self, not_true_eq_false, not_false_eq_true, reduceIte, Nat.reduceEqDiff, ab_I, ab_L, ab_R, ao_I, ao_L, ao_R, gL_sL, gI_sI, gR_sR, gI_sL, gI_sR, gL_sI, gL_sR, gR_sI, gR_sL, g_113, g_115, g_116, g_117, h0, h1, ab_wN, ab_wK, e, show ((8 : Int) ≤ (n : Int)) = True from eq_true (by omega)]
    try simp only [mrgI, mrgL, mrg0, rtI, rtL, ite_self]
    rfl
  · rw [if_neg c]
    try simp only [e437_0, Option.getD_some, Option.bind_some, Option.toList_some, Option.toList_none, List.cons_append, List.nil_append, and_self, and_true, true_and, false_and, and_false, ite_self, not_true_eq_false, not_false_eq_true, reduceIte, Nat.reduceEqDiff, ab_I, ab_L, ab_R, ao_I, ao_L, ao_R, gL_sL, gI_sI, gR_sR, gI_sL, gI_sR, gL_sI, gL_sR, gR_sI, gR_sL, g_113, g_115, g_116, g_117, h0, h1, ab_wN, ab_wK, wN0, wN1, wN2, wN3, wN4, wN5, gN0, gN1, gN2, gN3, gN4, gN5, e, lShl_k 1#64 (show 8 * n < 64 by omega), show ((8 : Int) ≤ (n : Int)) = False from eq_false (by omega)]
    try simp only [mrgI, mrgL, mrg0, rtI, rtL, ite_self]
    try simp only [e437_5, Option.getD_some, Option.bind_some, Option.toList_some, Option.toList_none, List.cons_append, List.nil_append, and_self, and_true, true_and, false_and, and_false, ite_self, not_true_eq_false, not_false_eq_true, reduceIte, Nat.reduceEqDiff, ab_I, ab_L, ab_R, ao_I, ao_L, ao_R, gL_sL, gI_sI, gR_sR, gI_sL, gI_sR, gL_sI, gL_sR, gR_sI, gR_sL, g_113, g_115, g_116, g_117, h0, h1, ab_wN, ab_wK, wN0, wN1, wN2, wN3, wN4, wN5, gN0, gN1, gN2, gN3, gN4, gN5, e, lShl_k 1#64 (show 8 * n < 64 by omega), show ((8 : Int) ≤ (n : Int)) = False from eq_false (by omega)]
    try simp only [mrgI, mrgL, mrg0, rtI, rtL, ite_self]
    try simp only [e437_44, Option.getD_some, Option.bind_some, Option.toList_some, Option.toList_none, List.cons_append, List.nil_append, and_self, and_true, true_and, false_and, and_false, ite_self, not_true_eq_false, not_false_eq_true, reduceIte, Nat.reduceEqDiff, ab_I, ab_L, ab_R, ao_I, ao_L, ao_R, gL_sL, gI_sI, gR_sR, gI_sL, gI_sR, gL_sI, gL_sR, gR_sI, gR_sL, g_113, g_115, g_116, g_117, h0, h1, ab_wN, ab_wK, wN0, wN1, wN2, wN3, wN4, wN5, gN0, gN1, gN2, gN3, gN4, gN5, e, lShl_k 1#64 (show 8 * n < 64 by omega), show ((8 : Int) ≤ (n : Int)) = False from eq_false (by omega)]
    try simp only [mrgI, mrgL, mrg0, rtI, rtL, ite_self]
    rfl
theorem T439 {x1 : Int} {σ : MS} (h0 : 0 ≤ x1) (h1 : x1 < 32664) : MM 439 [mR (some 80), mI x1] σ = some (some (mI (b2 (gL σ 113 x1.toNat = 0#64))), σ) := by
  rw [M439]
  try simp only [e439_0, Option.getD_some, Option.bind_some, Option.toList_some, Option.toList_none, List.cons_append, List.nil_append, and_self, and_true, true_and, false_and, and_false, ite_self, not_true_eq_false, not_false_eq_true, reduceIte, Nat.reduceEqDiff, ab_I, ab_L, ab_R, ao_I, ao_L, ao_R, gL_sL, gI_sI, gR_sR, gI_sL, gI_sR, gL_sI, gL_sR, gR_sI, gR_sL, g_113, h0, h1]
  try simp only [mrgI, mrgL, mrg0, rtI, rtL, ite_self]
  unfold b2
  split <;> simp_all
theorem T440 {x0 x2 : B64} {σ : MS} : MM 440 [mL x0, mL x2] σ = some (some (mL (bmin x0 x2)), σ) := by
  rw [M440]
  try simp only [e440_0, Option.getD_some, Option.bind_some, Option.toList_some, Option.toList_none, List.cons_append, List.nil_append, and_self, and_true, true_and, false_and, and_false, ite_self, not_true_eq_false, not_false_eq_true, reduceIte, Nat.reduceEqDiff, ab_I, ab_L, ab_R, ao_I, ao_L, ao_R, gL_sL, gI_sI, gR_sR, gI_sL, gI_sR, gL_sI, gL_sR, gR_sI, gR_sL, T389, b2_0']
  try simp only [mrgI, mrgL, mrg0, rtI, rtL, ite_self]
  try simp only [e440_5, Option.getD_some, Option.bind_some, Option.toList_some, Option.toList_none, List.cons_append, List.nil_append, and_self, and_true, true_and, false_and, and_false, ite_self, not_true_eq_false, not_false_eq_true, reduceIte, Nat.reduceEqDiff, ab_I, ab_L, ab_R, ao_I, ao_L, ao_R, gL_sL, gI_sI, gR_sR, gI_sL, gI_sR, gL_sI, gL_sR, gR_sI, gR_sL, T389, b2_0']
  try simp only [mrgI, mrgL, mrg0, rtI, rtL, ite_self]
  unfold bmin
  split <;> simp_all
theorem T441 {x0 x2 : B64} {σ : MS} : MM 441 [mL x0, mL x2] σ = some (some (mL (bmax x0 x2)), σ) := by
  rw [M441]
  try simp only [e441_0, Option.getD_some, Option.bind_some, Option.toList_some, Option.toList_none, List.cons_append, List.nil_append, and_self, and_true, true_and, false_and, and_false, ite_self, not_true_eq_false, not_false_eq_true, reduceIte, Nat.reduceEqDiff, ab_I, ab_L, ab_R, ao_I, ao_L, ao_R, gL_sL, gI_sI, gR_sR, gI_sL, gI_sR, gL_sI, gL_sR, gR_sI, gR_sL, T389, b2_0']
  try simp only [mrgI, mrgL, mrg0, rtI, rtL, ite_self]
  try simp only [e441_5, Option.getD_some, Option.bind_some, Option.toList_some, Option.toList_none, List.cons_append, List.nil_append, and_self, and_true, true_and, false_and, and_false, ite_self, not_true_eq_false, not_false_eq_true, reduceIte, Nat.reduceEqDiff, ab_I, ab_L, ab_R, ao_I, ao_L, ao_R, gL_sL, gI_sI, gR_sR, gI_sL, gI_sR, gL_sI, gL_sR, gR_sI, gR_sL, T389, b2_0']
  try simp only [mrgI, mrgL, mrg0, rtI, rtL, ite_self]
  unfold bmax
  split <;> simp_all
set_option maxHeartbeats 1000000 in
theorem T442n {x1 : Int} {σ : MS} {n : N6} (h0 : 0 ≤ x1) (h1 : x1 < 32664) : MM 442 [mR (some 80), mI x1] (wN σ x1.toNat n) = some (none, wN σ x1.toNat (byB n)) := by
  rw [M442]
  try simp only [e442_0, Option.getD_some, Option.bind_some, Option.toList_some, Option.toList_none, List.cons_append, List.nil_append, and_self, and_true, true_and, false_and, and_false, ite_self, not_true_eq_false, not_false_eq_true, reduceIte, Nat.reduceEqDiff, ab_I, ab_L, ab_R, ao_I, ao_L, ao_R, gL_sL, gI_sI, gR_sR, gI_sL, gI_sR, gL_sI, gL_sR, gR_sI, gR_sL, g_112, g_113, g_114, g_115, g_116, g_117, h0, h1, T440, T441, ab_wN, wN0, wN1, wN2, wN3, wN4, wN5, gN0, gN1, gN2, gN3, gN4, gN5, iL_min, iL_max]
  try simp only [mrgI, mrgL, mrg0, rtI, rtL, ite_self]
  try simp only [e442_20, Option.getD_some, Option.bind_some, Option.toList_some, Option.toList_none, List.cons_append, List.nil_append, and_self, and_true, true_and, false_and, and_false, ite_self, not_true_eq_false, not_false_eq_true, reduceIte, Nat.reduceEqDiff, ab_I, ab_L, ab_R, ao_I, ao_L, ao_R, gL_sL, gI_sI, gR_sR, gI_sL, gI_sR, gL_sI, gL_sR, gR_sI, gR_sL, g_112, g_113, g_114, g_115, g_116, g_117, h0, h1, T440, T441, ab_wN, wN0, wN1, wN2, wN3, wN4, wN5, gN0, gN1, gN2, gN3, gN4, gN5, iL_min, iL_max]
  try simp only [mrgI, mrgL, mrg0, rtI, rtL, ite_self]
  try simp only [e442_48, Option.getD_some, Option.bind_some, Option.toList_some, Option.toList_none, List.cons_append, List.nil_append, and_self, and_true, true_and, false_and, and_false, ite_self, not_true_eq_false, not_false_eq_true, reduceIte, Nat.reduceEqDiff, ab_I, ab_L, ab_R, ao_I, ao_L, ao_R, gL_sL, gI_sI, gR_sR, gI_sL, gI_sR, gL_sI, gL_sR, gR_sI, gR_sL, g_112, g_113, g_114, g_115, g_116, g_117, h0, h1, T440, T441, ab_wN, wN0, wN1, wN2, wN3, wN4, wN5, gN0, gN1, gN2, gN3, gN4, gN5, iL_min, iL_max]
  try simp only [mrgI, mrgL, mrg0, rtI, rtL, ite_self]
  try simp only [e442_112, Option.getD_some, Option.bind_some, Option.toList_some, Option.toList_none, List.cons_append, List.nil_append, and_self, and_true, true_and, false_and, and_false, ite_self, not_true_eq_false, not_false_eq_true, reduceIte, Nat.reduceEqDiff, ab_I, ab_L, ab_R, ao_I, ao_L, ao_R, gL_sL, gI_sI, gR_sR, gI_sL, gI_sR, gL_sI, gL_sR, gR_sI, gR_sL, g_112, g_113, g_114, g_115, g_116, g_117, h0, h1, T440, T441, ab_wN, wN0, wN1, wN2, wN3, wN4, wN5, gN0, gN1, gN2, gN3, gN4, gN5, iL_min, iL_max]
  try simp only [mrgI, mrgL, mrg0, rtI, rtL, ite_self]
  try simp only [e442_141, Option.getD_some, Option.bind_some, Option.toList_some, Option.toList_none, List.cons_append, List.nil_append, and_self, and_true, true_and, false_and, and_false, ite_self, not_true_eq_false, not_false_eq_true, reduceIte, Nat.reduceEqDiff, ab_I, ab_L, ab_R, ao_I, ao_L, ao_R, gL_sL, gI_sI, gR_sR, gI_sL, gI_sR, gL_sI, gL_sR, gR_sI, gR_sL, g_112, g_113, g_114, g_115, g_116, g_117, h0, h1, T440, T441, ab_wN, wN0, wN1, wN2, wN3, wN4, wN5, gN0, gN1, gN2, gN3, gN4, gN5, iL_min, iL_max]
  try simp only [mrgI, mrgL, mrg0, rtI, rtL, ite_self]
  unfold byB smax smin
  rfl
def tdB (n : N6) : Int := if tdC (td2 (td1 (byB n))) then b2 (tdP (byB (td3 (td2 (td1 (byB n)))))) else 0
theorem tdB_0 {n : N6} : (tdB n = 0) = ¬ tdG n := by
  unfold tdB tdG
  by_cases c : tdC (td2 (td1 (byB n)))
  · rw [if_pos c, b2_0']
    simp [c]
  · rw [if_neg c]
    simp [c]
theorem tdB_n {n : N6} : (¬ tdB n = 0) = tdG n := by
  rw [tdB_0]
  simp
theorem tdB_r (n : N6) : tdB n = 0 ∨ tdB n = 1 := by
  unfold tdB b2
  split
  · split <;> simp
  · simp
theorem tdB_1 {n : N6} (h : tdG n) : tdB n = 1 := by
  have a := tdB_r n
  have b : ¬ tdB n = 0 := by rw [tdB_n]; exact h
  omega
/-- the loop that finds the bits that both ends of a range have -/
theorem L443 {i : Int} {σ : MS} {n : N6} (h0 : 0 ≤ i) (h1 : i < 32664) : ∀ (k : Nat) (acc : B64), k ≤ 64 → (∀ j, k ≤ j → (jA n ^^^ jB n).getLsbD j = false) → (∀ j, acc.getLsbD j = decide (k ≤ j ∧ j < 64)) → ∃ x4 : Int, RR (lkB tb443) (B443_184, [some (mR (some 80)), some (mI i), some (mL acc), none, some (mI ((k : Int) - 1))], [], wN σ i.toNat n) = RR (lkB tb443) (B443_225, [some (mR (some 80)), some (mI i), some (mL (~~~ sprd (jA n ^^^ jB n))), none, some (mI x4)], [], wN σ i.toNat n) := by
  intro k
  have fin : ∀ (k : Nat) (acc : B64), (∀ j, k ≤ j → (jA n ^^^ jB n).getLsbD j = false) → (∀ j, acc.getLsbD j = decide (k ≤ j ∧ j < 64)) → (k = 0 ∨ ∃ j, k = j + 1 ∧ (jA n ^^^ jB n).getLsbD j = true) → acc = ~~~ sprd (jA n ^^^ jB n) := by
    intro k acc hz ha hk
    apply BitVec.eq_of_getLsbD_eq
    intro j hj
    rw [BitVec.getLsbD_not, ha]
    by_cases q : k ≤ j
    · have : ¬ (sprd (jA n ^^^ jB n)).getLsbD j = true := fun z => by
        obtain ⟨i, a1, a2⟩ := (sprd_bit _ _).mp z
        rw [hz i (by omega)] at a2
        cases a2
      have : (sprd (jA n ^^^ jB n)).getLsbD j = false := by simpa using this
      rw [this]
      simp [q, hj]
    · have : (sprd (jA n ^^^ jB n)).getLsbD j = true := (sprd_bit _ _).mpr (by
        rcases hk with hk | ⟨i, e, hi⟩
        · omega
        · exact ⟨i, by omega, hi⟩)
      rw [this]
      simp [q]
  induction k with
  | zero =>
    intro acc hk hz ha
    refine ⟨-1, ?_⟩
    rw [← fin 0 acc hz ha (Or.inl rfl)]
    rw [e443_184, if_pos (by omega)]
    rfl
  | succ k ih =>
    intro acc hk hz ha
    have e1 : (((k + 1 : Nat) : Int) - 1) = (k : Int) := by omega
    rw [e1]
    rw [e443_184, if_neg (by omega), g_114, if_pos ⟨h0, h1⟩, g_115, if_pos ⟨h0, h1⟩, gN2, gN3, lUsh_k _ (by omega)]
    by_cases hb : (jA n ^^^ jB n).getLsbD k = true
    · refine ⟨k, ?_⟩
      rw [if_pos (fun q => by rw [bit_and1] at q; rw [q] at hb; cases hb), ← fin (k + 1) acc hz ha (Or.inr ⟨k, rfl, hb⟩)]
    · have hb : (jA n ^^^ jB n).getLsbD k = false := by simpa using hb
      rw [if_neg (fun q => q ((bit_and1 _ _).mpr hb)), lShl_k _ (by omega), w32_i (by omega) (by omega)]
      refine ih (acc ||| 1#64 <<< k) (by omega) (fun j hj => ?_) (fun j => ?_)
      · by_cases q : j = k
        · rw [q]; exact hb
        · exact hz j (by omega)
      · rw [BitVec.getLsbD_or, ha, BitVec.getLsbD_shiftLeft, BitVec.getLsbD_ofNat]
        by_cases q : k + 1 ≤ j
        · have t : Nat.testBit 1 (j - k) = false := by
            rw [show j - k = (j - k - 1) + 1 by omega, Nat.testBit_succ]
            simp
          by_cases q2 : j < 64 <;> simp [q, q2, t, show k ≤ j by omega]
        · by_cases q3 : j = k
          · subst q3
            simp [show j < 64 by omega]
          · simp [q, q3, show ¬ k ≤ j by omega, show j < k by omega]
theorem and_rc (a b c : B64) : (a &&& b) &&& c = (a &&& c) &&& b := by
  apply BitVec.eq_of_getLsbD_eq
  intro i hi
  simp only [BitVec.getLsbD_and]
  cases a.getLsbD i <;> cases b.getLsbD i <;> cases c.getLsbD i <;> rfl
theorem td_or {v a m s : B64} (h : ((v ^^^ a) &&& s) &&& ~~~ m = 0#64) : v ||| ((a &&& m) &&& s) = v ||| (a &&& s) := by
  apply BitVec.eq_of_getLsbD_eq
  intro i hi
  have e := congrArg (fun x => BitVec.getLsbD x i) h
  simp only [BitVec.getLsbD_and, BitVec.getLsbD_not, BitVec.getLsbD_xor, BitVec.getLsbD_zero] at e
  simp only [BitVec.getLsbD_or, BitVec.getLsbD_and]
  cases hv : v.getLsbD i <;> cases ha : a.getLsbD i <;> cases hm : m.getLsbD i <;> cases hs : s.getLsbD i <;> simp_all
set_option maxHeartbeats 2000000 in
theorem T443n {x1 : Int} {σ : MS} {n : N6} (h0 : 0 ≤ x1) (h1 : x1 < 32664) : MM 443 [mR (some 80), mI x1] (wN σ x1.toNat n) = some (some (mI (tdB n)), wN σ x1.toNat (tdN n)) := by
  rw [M443]
  simp only [e443_0, Option.getD_some, Option.bind_some, Option.toList_some, Option.toList_none, List.cons_append, List.nil_append, and_self, and_true, true_and, false_and, and_false, ite_self, not_true_eq_false, not_false_eq_true, reduceIte, Nat.reduceEqDiff, ab_I, ab_L, ab_R, ao_I, ao_L, ao_R, gL_sL, gI_sI, gR_sR, gI_sL, gI_sR, gL_sI, gL_sR, gR_sI, gR_sL, T442n h0 h1]
  have s1 : ∀ n, RR (lkB tb443) (B443_5, [some (mR (some 80)), some (mI x1), none, none, none], [], wN σ x1.toNat n) = RR (lkB tb443) (B443_69, [some (mR (some 80)), some (mI x1), none, none, none], [], wN σ x1.toNat (td1 n)) := by
    intro n
    simp only [e443_5, e443_27, Option.getD_some, Option.bind_some, Option.toList_some, Option.toList_none, List.cons_append, List.nil_append, and_self, and_true, true_and, false_and, and_false, ite_self, not_true_eq_false, not_false_eq_true, reduceIte, Nat.reduceEqDiff, ab_I, ab_L, ab_R, ao_I, ao_L, ao_R, gL_sL, gI_sI, gR_sR, gI_sL, gI_sR, gL_sI, gL_sR, gR_sI, gR_sL, h0, h1, g_114, g_115, g_116, g_117, wN0, wN1, wN2, wN3, wN4, wN5, gN0, gN1, gN2, gN3, gN4, gN5, T441]
    simp only [e443_47, Option.getD_some, Option.bind_some, Option.toList_some, Option.toList_none, List.cons_append, List.nil_append, and_self, and_true, true_and, false_and, and_false, ite_self, not_true_eq_false, not_false_eq_true, reduceIte, Nat.reduceEqDiff, ab_I, ab_L, ab_R, ao_I, ao_L, ao_R, gL_sL, gI_sI, gR_sR, gI_sL, gI_sR, gL_sI, gL_sR, gR_sI, gR_sL, h0, h1, g_114, g_115, g_116, g_117, wN0, wN1, wN2, wN3, wN4, wN5, gN0, gN1, gN2, gN3, gN4, gN5, T440]
    simp only [e443_68, Option.getD_some, Option.bind_some, Option.toList_some, Option.toList_none, List.cons_append, List.nil_append, and_self, and_true, true_and, false_and, and_false, ite_self, not_true_eq_false, not_false_eq_true, reduceIte, Nat.reduceEqDiff, ab_I, ab_L, ab_R, ao_I, ao_L, ao_R, gL_sL, gI_sI, gR_sR, gI_sL, gI_sR, gL_sI, gL_sR, gR_sI, gR_sL, h0, h1, g_114, g_115, g_116, g_117, wN0, wN1, wN2, wN3, wN4, wN5, gN0, gN1, gN2, gN3, gN4, gN5]
    unfold td1
    simp only [t0]
    by_cases c1 : 0 ≤ (jC n).toInt
    · rw [if_pos c1, if_pos (Or.inl c1)]
    · rw [if_neg c1]
      by_cases c2 : 0 ≤ (jD n).toInt
      · rw [if_pos c2, if_neg (by omega)]
      · rw [if_neg c2, if_pos (by omega)]
  have s2 : ∀ n, RR (lkB tb443) (B443_69, [some (mR (some 80)), some (mI x1), none, none, none], [], wN σ x1.toNat n) = RR (lkB tb443) (B443_178, [some (mR (some 80)), some (mI x1), none, none, none], [], wN σ x1.toNat (td2 n)) := by
    intro n
    simp only [e443_69, e443_85, e443_101, e443_140, e443_177, Option.getD_some, Option.bind_some, Option.toList_some, Option.toList_none, List.cons_append, List.nil_append, and_self, and_true, true_and, false_and, and_false, ite_self, not_true_eq_false, not_false_eq_true, reduceIte, Nat.reduceEqDiff, ab_I, ab_L, ab_R, ao_I, ao_L, ao_R, gL_sL, gI_sI, gR_sR, gI_sL, gI_sR, gL_sI, gL_sR, gR_sI, gR_sL, h0, h1, g_114, g_115, g_116, g_117, wN0, wN1, wN2, wN3, wN4, wN5, gN0, gN1, gN2, gN3, gN4, gN5]
    simp only [t0]
    unfold td2 smax smin
    by_cases c1 : 0 ≤ (jA n).toInt <;> by_cases c2 : 0 ≤ (jB n).toInt
    · rw [if_pos c1, if_pos c2, if_neg (by decide), if_pos (by omega)]
      repeat' split
      all_goals rfl
    · rw [if_pos c1, if_neg c2, if_pos (by decide), if_neg (by omega)]
    · rw [if_neg c1, if_pos c2, if_pos (by decide), if_neg (by omega)]
    · rw [if_neg c1, if_neg c2, if_neg (by decide), if_pos (by omega)]
      repeat' split
      all_goals rfl
  rw [s1, s2]
  unfold tdB tdN
  generalize td2 (td1 (byB n)) = n
  obtain ⟨x4, e⟩ := L443 (σ := σ) (n := n) h0 h1 64 0#64 (Nat.le_refl _) (fun j hj => BitVec.getLsbD_of_ge _ _ hj) (fun j => by
    have : ¬ (64 ≤ j ∧ j < 64) := by omega
    simp [this])
  rw [e443_178]
  rw [show (((64 : Nat) : Int) - 1) = 63 from rfl] at e
  rw [e]
  have ec : (((jV n ^^^ jA n) &&& ~~~ jM n) &&& ~~~ sprd (jA n ^^^ jB n) = 0#64) = tdC n := by rw [and_rc]
  simp only [e443_225, Option.getD_some, Option.bind_some, Option.toList_some, Option.toList_none, List.cons_append, List.nil_append, and_self, and_true, true_and, false_and, and_false, ite_self, not_true_eq_false, not_false_eq_true, reduceIte, Nat.reduceEqDiff, ab_I, ab_L, ab_R, ao_I, ao_L, ao_R, gL_sL, gI_sI, gR_sR, gI_sL, gI_sR, gL_sI, gL_sR, gR_sI, gR_sL, h0, h1, g_112, g_113, g_114, g_115, g_116, g_117, wN0, wN1, wN2, wN3, wN4, wN5, gN0, gN1, gN2, gN3, gN4, gN5, iL_m1, xor_all, BitVec.not_not, ec]
  by_cases c : tdC n
  · rw [if_pos c, if_pos c, if_pos c]
    rw [td_or c]
    simp only [T442n h0 h1, Option.bind_some, Option.toList_none, List.nil_append]
    show RR (lkB tb443) (B443_301, _, [], wN σ x1.toNat (byB (td3 n))) = some (some (mI (b2 (tdP (byB (td3 n))))), wN σ x1.toNat (byB (td3 n)))
    generalize byB (td3 n) = n
    simp only [e443_301, e443_316, e443_339, Option.getD_some, Option.bind_some, Option.toList_some, Option.toList_none, List.cons_append, List.nil_append, and_self, and_true, true_and, false_and, and_false, ite_self, not_true_eq_false, not_false_eq_true, reduceIte, Nat.reduceEqDiff, ab_I, ab_L, ab_R, ao_I, ao_L, ao_R, gL_sL, gI_sI, gR_sR, gI_sL, gI_sR, gL_sI, gL_sR, gR_sI, gR_sL, h0, h1, g_114, g_115, g_116, g_117, gN2, gN3, gN4, gN5, T389, b2_n', b2_0']
    unfold b2 tdP
    by_cases c1 : jB n < jA n
    · simp [c1]
    · by_cases c2 : (jD n).toInt < (jC n).toInt
      · simp [c1, c2]
      · simp [c1, c2]
  · rw [if_neg c, if_neg c, if_neg c]
theorem T443 {x1 : Int} {σ : MS} (h0 : 0 ≤ x1) (h1 : x1 < 32664) : MM 443 [mR (some 80), mI x1] σ = some (some (mI (tdB (vn (aV σ x1.toNat)))), wrV σ x1.toNat (vN (aV σ x1.toNat) (tdN (vn (aV σ x1.toNat))))) := by
  have h := T443n (σ := σ) (n := rNv σ x1.toNat) h0 h1
  rw [wN_eta, wN_V] at h
  exact h
theorem T444 {x0 x2 : B64} {σ : MS} : MM 444 [mL x0, mL x2] σ = some (some (mI (b2 (x0 + x2 < x0))), σ) := by
  rw [M444]
  try simp only [e444_0, Option.getD_some, Option.bind_some, Option.toList_some, Option.toList_none, List.cons_append, List.nil_append, and_self, and_true, true_and, false_and, and_false, ite_self, not_true_eq_false, not_false_eq_true, reduceIte, Nat.reduceEqDiff, ab_I, ab_L, ab_R, ao_I, ao_L, ao_R, gL_sL, gI_sI, gR_sR, gI_sL, gI_sR, gL_sI, gL_sR, gR_sI, gR_sL, T389, bl_b2]
  try simp only [mrgI, mrgL, mrg0, rtI, rtL, ite_self]
  try simp only [e444_7, Option.getD_some, Option.bind_some, Option.toList_some, Option.toList_none, List.cons_append, List.nil_append, and_self, and_true, true_and, false_and, and_false, ite_self, not_true_eq_false, not_false_eq_true, reduceIte, Nat.reduceEqDiff, ab_I, ab_L, ab_R, ao_I, ao_L, ao_R, gL_sL, gI_sI, gR_sR, gI_sL, gI_sR, gL_sI, gL_sR, gR_sI, gR_sL, T389, bl_b2]
  try simp only [mrgI, mrgL, mrg0, rtI, rtL, ite_self]
theorem T445 {x0 x2 : B64} {σ : MS} : MM 445 [mL x0, mL x2] σ = some (some (mI (b2 (ovA x0 x2 = true))), σ) := by
  rw [M445]
  try simp only [e445_0, Option.getD_some, Option.bind_some, Option.toList_some, Option.toList_none, List.cons_append, List.nil_append, and_self, and_true, true_and, false_and, and_false, ite_self, not_true_eq_false, not_false_eq_true, reduceIte, Nat.reduceEqDiff, ab_I, ab_L, ab_R, ao_I, ao_L, ao_R, gL_sL, gI_sI, gR_sR, gI_sL, gI_sR, gL_sI, gL_sR, gR_sI, gR_sL]
  try simp only [mrgI, mrgL, mrg0, rtI, rtL, ite_self]
  unfold b2 ovA
  simp only [t0, decide_eq_true_eq]
  split <;> split <;> first | rfl | omega
theorem T446 {x0 x2 : B64} {σ : MS} : MM 446 [mL x0, mL x2] σ = some (some (mI (b2 (ovS x0 x2 = true))), σ) := by
  rw [M446]
  try simp only [e446_0, Option.getD_some, Option.bind_some, Option.toList_some, Option.toList_none, List.cons_append, List.nil_append, and_self, and_true, true_and, false_and, and_false, ite_self, not_true_eq_false, not_false_eq_true, reduceIte, Nat.reduceEqDiff, ab_I, ab_L, ab_R, ao_I, ao_L, ao_R, gL_sL, gI_sI, gR_sR, gI_sL, gI_sR, gL_sI, gL_sR, gR_sI, gR_sL]
  try simp only [mrgI, mrgL, mrg0, rtI, rtL, ite_self]
  unfold b2 ovS
  simp only [t0, decide_eq_true_eq]
  split <;> split <;> first | rfl | omega
theorem T438 {x1 : Int} {b : Nat} {σ : MS} (h0 : 0 ≤ x1) (h1 : x1 < 32664) (hb : 1 ≤ b ∧ b ≤ 64) : MM 438 [mR (some 80), mI x1, mI b] σ = some (none, wrV σ x1.toNat (numV (tdN (sgnN b)))) := by
  have e : w32 ((b : Int) - 1) = ((b - 1 : Nat) : Int) := by rw [w32_i (by omega) (by omega)]; omega
  have key := fun n => T443n (σ := wK σ x1.toNat 1 0 0 0 0) (n := n) h0 h1
  rw [M438, e438_0, T436 h0 h1]
  simp only [Option.bind_some, Option.toList_none, List.nil_append]
  unfold numV
  rw [← wK_N, ← wK_N]
  try simp only [e438_0, Option.getD_some, Option.bind_some, Option.toList_some, Option.toList_none, List.cons_append, List.nil_append, and_self, and_true, true_and, false_and, and_false, ite_self, not_true_eq_false, not_false_eq_true, reduceIte, Nat.reduceEqDiff, ab_I, ab_L, ab_R, ao_I, ao_L, ao_R, gL_sL, gI_sI, gR_sR, gI_sL, gI_sR, gL_sI, gL_sR, gR_sI, gR_sL, g_116, g_117, h0, h1, ab_wN, ab_wK, e, lShl_k cAll (show b - 1 < 64 by omega), wN4, wN5, gN4, iL_m1, xor_all, key]
  try simp only [mrgI, mrgL, mrg0, rtI, rtL, ite_self]
  try simp only [e438_5, Option.getD_some, Option.bind_some, Option.toList_some, Option.toList_none, List.cons_append, List.nil_append, and_self, and_true, true_and, false_and, and_false, ite_self, not_true_eq_false, not_false_eq_true, reduceIte, Nat.reduceEqDiff, ab_I, ab_L, ab_R, ao_I, ao_L, ao_R, gL_sL, gI_sI, gR_sR, gI_sL, gI_sR, gL_sI, gL_sR, gR_sI, gR_sL, g_116, g_117, h0, h1, ab_wN, ab_wK, e, lShl_k cAll (show b - 1 < 64 by omega), wN4, wN5, gN4, iL_m1, xor_all, key]
  try simp only [mrgI, mrgL, mrg0, rtI, rtL, ite_self]
  try simp only [e438_39, Option.getD_some, Option.bind_some, Option.toList_some, Option.toList_none, List.cons_append, List.nil_append, and_self, and_true, true_and, false_and, and_false, ite_self, not_true_eq_false, not_false_eq_true, reduceIte, Nat.reduceEqDiff, ab_I, ab_L, ab_R, ao_I, ao_L, ao_R, gL_sL, gI_sI, gR_sR, gI_sL, gI_sR, gL_sI, gL_sR, gR_sI, gR_sL, g_116, g_117, h0, h1, ab_wN, ab_wK, e, lShl_k cAll (show b - 1 < 64 by omega), wN4, wN5, gN4, iL_m1, xor_all, key]
  try simp only [mrgI, mrgL, mrg0, rtI, rtL, ite_self]
  rfl
-- FILE 28.rops
/-! ===== operations on the reference's numbers ===== -/
theorem fold6 {σ : MS} {i : Nat} {a b c d e f : B64} : sL (sL (sL (sL (sL (sL σ 112 i a) 113 i b) 114 i c) 115 i d) 116 i e) 117 i f = wN σ i (a, b, c, d, e, f) := rfl
theorem oneI : ((1 : Int) = 0) = False := by simp
set_option maxHeartbeats 2000000 in
theorem T448 {z w ws : Int} {v m l h a b : B64} {σ : MS} (h0 : 0 ≤ z) (h1 : z < 32664) : MM 448 [mR (some 80), mI z, mL v, mL m, mI w, mL l, mL h, mI ws, mL a, mL b] σ = some (none, wrV σ z.toNat (numV (tdN (becN v m (decide (¬ w = 0)) l h (decide (¬ ws = 0)) a b)))) := by
  have key := fun n => T443n (σ := wK σ z.toNat 1 0 0 0 0) (n := n) h0 h1
  unfold becN numV
  rw [← wK_N]
  by_cases c1 : w = 0 <;> by_cases c2 : ws = 0
  · @path(448; T432 h0 h1, h0, h1, ab_wK, c1, c2, fold6, key)
    simp [c1, c2]
  · @path(448; T432 h0 h1, h0, h1, ab_wK, c1, c2, fold6, key, iL_min, iL_max)
    simp [c1, c2]
  · @path(448; T432 h0 h1, h0, h1, ab_wK, c1, c2, fold6, key, iL_m1)
    simp [c1, c2]
  · @path(448; T432 h0 h1, h0, h1, ab_wK, c1, c2, fold6, key, iL_m1, iL_min, iL_max)
    simp [c1, c2]
abbrev inB (x : Int) : Prop := 0 ≤ x ∧ x < 32664
set_option maxHeartbeats 4000000 in
theorem T447 {z x y : Int} {σ : MS} (hz : inB z) (hx : inB x) (hy : inB y) : MM 447 [mR (some 80), mI z, mI x, mI y] σ = some (none, wrV σ z.toNat (numV (tdN (addN (vn (aV σ x.toNat)) (vn (aV σ y.toNat)))))) := by
  unfold addN
  simp only [← q112, ← q113, ← q114, ← q115, ← q116, ← q117]
  by_cases c1 : gL σ 114 x.toNat + gL σ 114 y.toNat < gL σ 114 x.toNat <;> by_cases c2 : gL σ 115 x.toNat + gL σ 115 y.toNat < gL σ 115 x.toNat <;> by_cases c3 : ovA (gL σ 116 x.toNat) (gL σ 116 y.toNat) = true <;> by_cases c4 : ovA (gL σ 117 x.toNat) (gL σ 117 y.toNat) = true
  all_goals (simp only [M447, e447_0, e447_65, e447_83, e447_86, e447_91, e447_108, e447_126, e447_129, e447_134, e447_224, Option.getD_some, Option.bind_some, Option.toList_some, Option.toList_none, List.cons_append, List.nil_append, and_self, and_true, true_and, false_and, and_false, ite_self, not_true_eq_false, not_false_eq_true, reduceIte, Nat.reduceEqDiff, ab_I, ab_L, ab_R, ao_I, ao_L, ao_R, gL_sL, gI_sI, gR_sR, gI_sL, gI_sR, gL_sI, gL_sR, gR_sI, gR_sL, g_112, g_113, g_114, g_115, g_116, g_117, hz.1, hz.2, hx.1, hx.2, hy.1, hy.2, T444, T445, T448 hz.1 hz.2, b2_0', c1, c2, c3, c4, oneI, iL_m1, xor_all, addM]; simp [c1, c2, c3, c4, addM])
set_option maxHeartbeats 4000000 in
theorem T449 {z x y : Int} {σ : MS} (hz : inB z) (hx : inB x) (hy : inB y) : MM 449 [mR (some 80), mI z, mI x, mI y] σ = some (none, wrV σ z.toNat (numV (tdN (subN (vn (aV σ x.toNat)) (vn (aV σ y.toNat)))))) := by
  unfold subN
  simp only [← q112, ← q113, ← q114, ← q115, ← q116, ← q117]
  by_cases c1 : gL σ 114 x.toNat < gL σ 115 y.toNat <;> by_cases c3 : ovS (gL σ 116 x.toNat) (gL σ 117 y.toNat) = true <;> by_cases c4 : ovS (gL σ 117 x.toNat) (gL σ 116 y.toNat) = true
  all_goals (simp only [M449, e449_0, e449_65, e449_82, e449_100, e449_103, e449_108, e449_182, Option.getD_some, Option.bind_some, Option.toList_some, Option.toList_none, List.cons_append, List.nil_append, and_self, and_true, true_and, false_and, and_false, ite_self, not_true_eq_false, not_false_eq_true, reduceIte, Nat.reduceEqDiff, ab_I, ab_L, ab_R, ao_I, ao_L, ao_R, gL_sL, gI_sI, gR_sR, gI_sL, gI_sR, gL_sI, gL_sR, gR_sI, gR_sL, g_112, g_113, g_114, g_115, g_116, g_117, hz.1, hz.2, hx.1, hx.2, hy.1, hy.2, T389, T446, T448 hz.1 hz.2, b2_0', c1, c3, c4, oneI, iL_m1, xor_all, subM]; simp [c1, c3, c4, b2, subM])
set_option maxHeartbeats 4000000 in
theorem T454 {z x : Int} {σ : MS} (hz : inB z) (hx : inB x) : MM 454 [mR (some 80), mI z, mI x] σ = some (none, wrV σ z.toNat (numV (cutT (vn (aV σ x.toNat))))) := by
  unfold cutT cutN
  simp only [← q112, ← q113, ← q114, ← q115]
  have e32 : ∀ a : B64, lUsh a 32 = a >>> 32 := fun a => lUsh_k a (n := 32) (by omega)
  by_cases c1 : gL σ 114 x.toNat >>> 32 = gL σ 115 x.toNat >>> 32
  all_goals (simp only [M454, e454_0, e454_27, e454_69, e454_89, e454_95, Option.getD_some, Option.bind_some, Option.toList_some, Option.toList_none, List.cons_append, List.nil_append, and_self, and_true, true_and, false_and, and_false, ite_self, not_true_eq_false, not_false_eq_true, reduceIte, Nat.reduceEqDiff, ab_I, ab_L, ab_R, ao_I, ao_L, ao_R, gL_sL, gI_sI, gR_sR, gI_sL, gI_sR, gL_sI, gL_sR, gR_sI, gR_sL, g_112, g_113, g_114, g_115, hz.1, hz.2, hx.1, hx.2, T448 hz.1 hz.2, c1, oneI, iL_F, e32]; simp [c1])
/-! between numbers -/
theorem T458 {x y : Int} {σ : MS} (hx : inB x) (hy : inB y) : MM 458 [mR (some 80), mI x, mI y] σ = some (some (mI (equN (vn (aV σ x.toNat)) (vn (aV σ y.toNat)))), σ) := by
  unfold equN apaN
  simp only [← q112, ← q113, ← q114, ← q115, ← q116, ← q117]
  by_cases c0 : (gL σ 113 x.toNat = 0#64 ∧ gL σ 113 y.toNat = 0#64) ∧ gL σ 112 x.toNat = gL σ 112 y.toNat
  · simp only [M458, e458_0, e458_5, e458_13, e458_34, e458_89, e458_107, e458_142, e458_147, Option.getD_some, Option.bind_some, Option.toList_some, Option.toList_none, List.cons_append, List.nil_append, and_self, and_true, true_and, false_and, and_false, ite_self, not_true_eq_false, not_false_eq_true, reduceIte, Nat.reduceEqDiff, ab_I, ab_L, ab_R, ao_I, ao_L, ao_R, gL_sL, gI_sI, gR_sR, gI_sL, gI_sR, gL_sI, gL_sR, gR_sI, gR_sL, g_112, g_113, g_114, g_115, g_116, g_117, hx.1, hx.2, hy.1, hy.2, T439 hx.1 hx.2, T439 hy.1 hy.2, b2_0', b2_n', ← q113, c0.1.1, c0.1.2, c0.2]
    simp [c0.2]
  · rw [if_neg c0]
    have c0 : ¬ gL σ 113 x.toNat = 0#64 ∨ ¬ gL σ 113 y.toNat = 0#64 ∨ ¬ gL σ 112 x.toNat = gL σ 112 y.toNat := by
      by_cases a : gL σ 113 x.toNat = 0#64 <;> by_cases b : gL σ 113 y.toNat = 0#64 <;> simp_all
    by_cases d1 : ((gL σ 112 x.toNat ^^^ gL σ 112 y.toNat) &&& ~~~ gL σ 113 x.toNat) &&& ~~~ gL σ 113 y.toNat = 0#64 <;> by_cases d2 : gL σ 115 x.toNat < gL σ 114 y.toNat <;> by_cases d3 : gL σ 115 y.toNat < gL σ 114 x.toNat <;> by_cases d4 : (gL σ 117 x.toNat).toInt < (gL σ 116 y.toNat).toInt <;> by_cases d5 : (gL σ 117 y.toNat).toInt < (gL σ 116 x.toNat).toInt
    all_goals (rcases c0 with c0 | c0 | c0)
    all_goals (by_cases a : gL σ 113 x.toNat = 0#64)
    all_goals (by_cases b : gL σ 113 y.toNat = 0#64)
    all_goals (by_cases e : gL σ 112 x.toNat = gL σ 112 y.toNat)
    all_goals (first | (exfalso; simp_all; done) | (simp only [M458, e458_0, e458_5, e458_13, e458_34, e458_89, e458_107, e458_142, e458_147, Option.getD_some, Option.bind_some, Option.toList_some, Option.toList_none, List.cons_append, List.nil_append, and_self, and_true, true_and, false_and, and_false, ite_self, not_true_eq_false, not_false_eq_true, reduceIte, Nat.reduceEqDiff, ab_I, ab_L, ab_R, ao_I, ao_L, ao_R, gL_sL, gI_sI, gR_sR, gI_sL, gI_sR, gL_sI, gL_sR, gR_sI, gR_sL, g_112, g_113, g_114, g_115, g_116, g_117, hx.1, hx.2, hy.1, hy.2, T439 hx.1 hx.2, T439 hy.1 hy.2, T389, b2_0', b2_n', ← q113, a, b, e, iL_m1, xor_all, d1, d2, d3, d4, d5, oneI]; simp [d1, d2, d3, d4, d5]))
theorem T459 {x y : Int} {σ : MS} (hx : inB x) (hy : inB y) : MM 459 [mR (some 80), mI x, mI y] σ = some (some (mI (aboN (vn (aV σ x.toNat)) (vn (aV σ y.toNat)))), σ) := by
  unfold aboN
  simp only [← q114, ← q115]
  by_cases c1 : gL σ 115 y.toNat < gL σ 114 x.toNat <;> by_cases c2 : gL σ 114 y.toNat < gL σ 115 x.toNat
  all_goals (simp only [M459, e459_0, e459_15, e459_37, Option.getD_some, Option.bind_some, Option.toList_some, Option.toList_none, List.cons_append, List.nil_append, and_self, and_true, true_and, false_and, and_false, ite_self, not_true_eq_false, not_false_eq_true, reduceIte, Nat.reduceEqDiff, ab_I, ab_L, ab_R, ao_I, ao_L, ao_R, gL_sL, gI_sI, gR_sR, gI_sL, gI_sR, gL_sI, gL_sR, gR_sI, gR_sL, g_114, g_115, hx.1, hx.2, hy.1, hy.2, T389, b2_0', b2_n', c1, c2]; simp [c1, c2])
theorem T460 {x y : Int} {σ : MS} (hx : inB x) (hy : inB y) : MM 460 [mR (some 80), mI x, mI y] σ = some (some (mI (nblN (vn (aV σ x.toNat)) (vn (aV σ y.toNat)))), σ) := by
  unfold nblN
  simp only [← q114, ← q115]
  by_cases c1 : gL σ 114 x.toNat < gL σ 115 y.toNat <;> by_cases c2 : gL σ 115 x.toNat < gL σ 114 y.toNat
  all_goals (simp only [M460, e460_0, e460_15, e460_37, Option.getD_some, Option.bind_some, Option.toList_some, Option.toList_none, List.cons_append, List.nil_append, and_self, and_true, true_and, false_and, and_false, ite_self, not_true_eq_false, not_false_eq_true, reduceIte, Nat.reduceEqDiff, ab_I, ab_L, ab_R, ao_I, ao_L, ao_R, gL_sL, gI_sI, gR_sR, gI_sL, gI_sR, gL_sI, gL_sR, gR_sI, gR_sL, g_114, g_115, hx.1, hx.2, hy.1, hy.2, T389, b2_0', b2_n', c1, c2]; simp [c1, c2])
theorem T461 {x y : Int} {σ : MS} (hx : inB x) (hy : inB y) : MM 461 [mR (some 80), mI x, mI y] σ = some (some (mI (aboS (vn (aV σ x.toNat)) (vn (aV σ y.toNat)))), σ) := by
  unfold aboS
  simp only [← q116, ← q117]
  by_cases c1 : (gL σ 117 y.toNat).toInt < (gL σ 116 x.toNat).toInt <;> by_cases c2 : (gL σ 117 x.toNat).toInt ≤ (gL σ 116 y.toNat).toInt
  all_goals (simp only [M461, e461_0, Option.getD_some, Option.bind_some, Option.toList_some, Option.toList_none, List.cons_append, List.nil_append, and_self, and_true, true_and, false_and, and_false, ite_self, not_true_eq_false, not_false_eq_true, reduceIte, Nat.reduceEqDiff, ab_I, ab_L, ab_R, ao_I, ao_L, ao_R, gL_sL, gI_sI, gR_sR, gI_sL, gI_sR, gL_sI, gL_sR, gR_sI, gR_sL, g_116, g_117, hx.1, hx.2, hy.1, hy.2, c1, c2])
  all_goals (repeat' split)
  all_goals first | rfl | omega | simp_all
theorem T462 {x y : Int} {σ : MS} (hx : inB x) (hy : inB y) : MM 462 [mR (some 80), mI x, mI y] σ = some (some (mI (nblS (vn (aV σ x.toNat)) (vn (aV σ y.toNat)))), σ) := by
  unfold nblS
  simp only [← q116, ← q117]
  by_cases c1 : (gL σ 117 y.toNat).toInt ≤ (gL σ 116 x.toNat).toInt <;> by_cases c2 : (gL σ 117 x.toNat).toInt < (gL σ 116 y.toNat).toInt
  all_goals (simp only [M462, e462_0, Option.getD_some, Option.bind_some, Option.toList_some, Option.toList_none, List.cons_append, List.nil_append, and_self, and_true, true_and, false_and, and_false, ite_self, not_true_eq_false, not_false_eq_true, reduceIte, Nat.reduceEqDiff, ab_I, ab_L, ab_R, ao_I, ao_L, ao_R, gL_sL, gI_sI, gR_sR, gI_sL, gI_sR, gL_sI, gL_sR, gR_sI, gR_sL, g_116, g_117, hx.1, hx.2, hy.1, hy.2, c1, c2])
  all_goals (repeat' split)
  all_goals first | rfl | omega | simp_all
