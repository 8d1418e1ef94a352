/-! ===== bits and division ===== -/
theorem bit_and1 (z : B64) (k : Nat) : (z >>> k &&& 1#64 = 0#64) ↔ z.getLsbD k = false := by
  constructor
  · intro h
    have := congrArg (fun x => BitVec.getLsbD x 0) h
    simpa using this
  · intro h
    apply BitVec.eq_of_getLsbD_eq
    intro i hi
    by_cases h0 : i = 0
    · subst h0; simp [h]
    · have : (1#64).getLsbD i = false := by
        rw [BitVec.getLsbD_ofNat]
        have : Nat.testBit 1 i = false := by
          cases i with
          | zero => exact absurd rfl h0
          | succ n => simp [Nat.testBit_succ]
        simp [this]
      simp [this]
theorem sgnx (a b : B64) : (a ^^^ b).toInt < 0 ↔ ¬ (0 ≤ a.toInt ↔ 0 ≤ b.toInt) := by
  have e : ∀ x : BitVec 64, x.msb = decide (x.toInt < 0) := fun x => BitVec.msb_eq_toInt
  have h := BitVec.msb_xor (x := a) (y := b)
  rw [e, e, e] at h
  generalize (a ^^^ b).toInt = z at h ⊢
  generalize a.toInt = x at h ⊢
  generalize b.toInt = y at h ⊢
  by_cases h1 : x < 0 <;> by_cases h2 : y < 0 <;> simp [h1, h2] at h <;> omega
theorem all_bit (j : Nat) : cAll.getLsbD j = decide (j < 64) := by
  have : cAll = BitVec.allOnes 64 := by decide
  rw [this, BitVec.getLsbD_allOnes]
set_option maxRecDepth 100000 in
theorem M74 {x0 : BitVec 64} {σ : MS} : MM 74 [mL x0] σ = RR (lkB tb74) (B74_0, [some (mL x0), none, none, none], [], σ) := rfl
theorem T74 {x0 : B64} {σ : MS} : MM 74 [mL x0] σ = some (some (mL (sprd x0)), σ) := by
  have A : RR (lkB tb74) (B74_0, [some (mL x0), none, none, none], [], σ) = RR (lkB tb74) (B74_0.drop 7, [some (mL x0), none, some (mL (x0 ||| lUsh x0 1)), none], [], σ) := RR_ev _ 7 _
  have S2 : ∀ y : BitVec 64, RR (lkB tb74) (B74_0.drop 7, [some (mL x0), none, some (mL y), none], [], σ) = RR (lkB tb74) (B74_0.drop 13, [some (mL x0), none, some (mL (y ||| lUsh y 2)), none], [], σ) := fun y => RR_ev _ 6 _
  have S4 : ∀ y : BitVec 64, RR (lkB tb74) (B74_0.drop 13, [some (mL x0), none, some (mL y), none], [], σ) = RR (lkB tb74) (B74_0.drop 19, [some (mL x0), none, some (mL (y ||| lUsh y 4)), none], [], σ) := fun y => RR_ev _ 6 _
  have S8 : ∀ y : BitVec 64, RR (lkB tb74) (B74_0.drop 19, [some (mL x0), none, some (mL y), none], [], σ) = RR (lkB tb74) (B74_0.drop 25, [some (mL x0), none, some (mL (y ||| lUsh y 8)), none], [], σ) := fun y => RR_ev _ 6 _
  have S16 : ∀ y : BitVec 64, RR (lkB tb74) (B74_0.drop 25, [some (mL x0), none, some (mL y), none], [], σ) = RR (lkB tb74) (B74_0.drop 31, [some (mL x0), none, some (mL (y ||| lUsh y 16)), none], [], σ) := fun y => RR_ev _ 6 _
  have R : ∀ y : BitVec 64, RR (lkB tb74) (B74_0.drop 31, [some (mL x0), none, some (mL y), none], [], σ) = some (some (mL (y ||| lUsh y 32)), σ) := fun y => RR_ev _ 6 _
  rw [M74, A, S2, S4, S8, S16, R]
  rfl
/-! how many lowest bits are 0 -/
theorem L450 {x : B64} {σ : MS} : ∀ k : Nat, k ≤ 64 → RR (lkB tb450) (B450_2, [some (mL x), none, some (mI ((64 - k : Nat) : Int))], [], σ) = some (some (mI (lowK x k)), σ) := by
  intro k
  induction k with
  | zero =>
    intro _
    rw [e450_2, if_pos (by omega)]
    rfl
  | succ k ih =>
    intro hk
    rw [e450_2, if_neg (by omega), lUsh_k _ (by omega)]
    have e : 64 - (k + 1) = 63 - k := by omega
    rw [e]
    by_cases hb : x.getLsbD (63 - k) = true
    · rw [if_pos (fun q => by rw [bit_and1] at q; rw [q] at hb; cases hb)]
      unfold lowK
      rw [if_pos hb]
    · have hb2 : x.getLsbD (63 - k) = false := by simpa using hb
      rw [if_neg (fun q => q ((bit_and1 _ _).mpr hb2))]
      have e2 : w32 (((63 - k : Nat) : Int) + 1) = ((64 - k : Nat) : Int) := by
        rw [w32_i (by omega) (by omega)]
        omega
      rw [e2, ih (by omega)]
      show _ = some (some (mI ((if x.getLsbD (63 - k) = true then 63 - k else lowK x k : Nat) : Int)), σ)
      rw [if_neg hb]
theorem T450 {x : B64} {σ : MS} : MM 450 [mL x] σ = some (some (mI (lowZ x)), σ) := by
  rw [M450, e450_0]
  exact L450 64 (Nat.le_refl _)
theorem low_mask (x : B64) : (x &&& (-x)) - 1#64 = BitVec.ofNat 64 (2 ^ lowZ x - 1) := by
  by_cases h : lowZ x < 64
  · have e : x &&& (-x) = BitVec.twoPow 64 (lowZ x) := by
      apply BitVec.eq_of_getLsbD_eq
      intro j hj
      rw [BitVec.getLsbD_and, BitVec.getLsbD_neg, BitVec.getLsbD_twoPow]
      by_cases c1 : j = lowZ x
      · have : ¬ ∃ i, i < lowZ x ∧ x.getLsbD i = true := fun ⟨i, a1, a2⟩ => by
          rw [lowZ_lo x a1] at a2
          cases a2
        rw [c1, lowZ_hi x h]
        simp [h, this]
      · by_cases c2 : j < lowZ x
        · rw [lowZ_lo x c2]
          simp [show ¬ lowZ x = j by omega]
        · have : ∃ i, i < j ∧ x.getLsbD i = true := ⟨lowZ x, by omega, lowZ_hi x h⟩
          cases hx : x.getLsbD j <;> simp [hj, this, show ¬ lowZ x = j by omega]
    rw [e]
    apply BitVec.eq_of_toNat_eq
    have p1 : 1 ≤ 2 ^ lowZ x := Nat.one_le_two_pow
    have p2 : 2 ^ lowZ x < 2 ^ 64 := Nat.pow_lt_pow_right (by omega) h
    rw [BitVec.toNat_sub, BitVec.toNat_twoPow_of_lt h, BitVec.toNat_ofNat, BitVec.toNat_ofNat]
    omega
  · have z : lowZ x = 64 := Nat.le_antisymm (lowZ_le x) (by omega)
    have x0 : x = 0#64 := by
      apply BitVec.eq_of_getLsbD_eq
      intro j hj
      rw [lowZ_lo x (by omega)]
      simp
    rw [z, x0]
    decide
def bcX (x : BitVec 64) : BitVec 64 := x - (lUsh x 1 &&& iL 6148914691236517205)
def bcB (x : BitVec 64) : BitVec 64 := (bcX x &&& iL 3689348814741910323) + (lUsh (bcX x) 2 &&& iL 3689348814741910323)
def bcC (x : BitVec 64) : BitVec 64 := (bcB x + lUsh (bcB x) 4) &&& iL 1085102592571150095
def bcD (x : BitVec 64) : BitVec 64 := bcC x + lUsh (bcC x) 8
def bcE (x : BitVec 64) : BitVec 64 := bcD x + lUsh (bcD x) 16
def bcF (x : BitVec 64) : Int := iAnd (lI (bcE x + lUsh (bcE x) 32)) 127
set_option maxRecDepth 100000 in
theorem M569 {x0 : BitVec 64} {σ : MS} : MM 569 [mL x0] σ = RR (lkB tb569) (B569_0, [some (mL x0), none], [], σ) := rfl
theorem T569 {x : BitVec 64} {σ : MS} : MM 569 [mL x] σ = some (some (mI (bcF x)), σ) := by
  have A : ∀ y : BitVec 64, RR (lkB tb569) (B569_0, [some (mL y), none], [], σ) = RR (lkB tb569) (B569_0.drop 9, [some (mL (y - (lUsh y 1 &&& iL 6148914691236517205))), none], [], σ) := fun y => RR_ev _ 9 _
  have S2 : ∀ y : BitVec 64, RR (lkB tb569) (B569_0.drop 9, [some (mL y), none], [], σ) = RR (lkB tb569) (B569_0.drop 19, [some (mL ((y &&& iL 3689348814741910323) + (lUsh y 2 &&& iL 3689348814741910323))), none], [], σ) := fun y => RR_ev _ 10 _
  have S3 : ∀ y : BitVec 64, RR (lkB tb569) (B569_0.drop 19, [some (mL y), none], [], σ) = RR (lkB tb569) (B569_0.drop 27, [some (mL ((y + lUsh y 4) &&& iL 1085102592571150095)), none], [], σ) := fun y => RR_ev _ 8 _
  have S4 : ∀ y : BitVec 64, RR (lkB tb569) (B569_0.drop 27, [some (mL y), none], [], σ) = RR (lkB tb569) (B569_0.drop 33, [some (mL (y + lUsh y 8)), none], [], σ) := fun y => RR_ev _ 6 _
  have S5 : ∀ y : BitVec 64, RR (lkB tb569) (B569_0.drop 33, [some (mL y), none], [], σ) = RR (lkB tb569) (B569_0.drop 39, [some (mL (y + lUsh y 16)), none], [], σ) := fun y => RR_ev _ 6 _
  have S6 : ∀ y : BitVec 64, RR (lkB tb569) (B569_0.drop 39, [some (mL y), none], [], σ) = RR (lkB tb569) (B569_0.drop 45, [some (mL (y + lUsh y 32)), none], [], σ) := fun y => RR_ev _ 6 _
  have R : ∀ y : BitVec 64, RR (lkB tb569) (B569_0.drop 45, [some (mL y), none], [], σ) = some (some (mI (iAnd (lI y) 127)), σ) := fun y => RR_ev _ 5 _
  rw [M569, A, S2, S3, S4, S5, S6, R]
  rfl
theorem bc_all : (List.range 65).all (fun n => decide (bcF (BitVec.ofNat 64 (2 ^ n - 1)) = (n : Int))) = true := by decide +kernel
theorem bc_low (x : B64) : bcF ((x &&& (-x)) - 1#64) = (lowZ x : Int) := by
  have h := List.all_eq_true.mp bc_all (lowZ x) (List.mem_range.mpr (by have := lowZ_le x; omega))
  rw [low_mask]
  exact of_decide_eq_true h
theorem bc_one_all : (List.range 65).all (fun n => decide (bcF (BitVec.ofNat 64 (2 ^ n)) = if n = 64 then 0 else 1)) = true := by decide +kernel
theorem T80 {k : Nat} {σ : MS} (hk : kd σ k = (22, 0)) : MM 80 [mR (some k)] σ = some (some (mI (lowZ (gL σ k 0 ||| gL σ k 1))), σ) := by
  rw [M80]
  try simp only [e80_0, Option.getD_some, Option.bind_some, Option.toList_some, Option.toList_none, List.cons_append, List.nil_append, and_self, and_true, true_and, false_and, and_false, ite_self, not_true_eq_false, not_false_eq_true, reduceIte, Nat.reduceEqDiff, ab_I, ab_L, ab_R, ao_I, ao_L, ao_R, gL_sL, gI_sI, gR_sR, gI_sL, gI_sR, gL_sI, gL_sR, gR_sI, gR_sL, aoK (c := 2) hk, T569, bc_low]
  try simp only [mrgI, mrgL, mrg0, rtI, rtL, ite_self]
  try simp only [e80_19, Option.getD_some, Option.bind_some, Option.toList_some, Option.toList_none, List.cons_append, List.nil_append, and_self, and_true, true_and, false_and, and_false, ite_self, not_true_eq_false, not_false_eq_true, reduceIte, Nat.reduceEqDiff, ab_I, ab_L, ab_R, ao_I, ao_L, ao_R, gL_sL, gI_sI, gR_sR, gI_sL, gI_sR, gL_sI, gL_sR, gR_sI, gR_sL, aoK (c := 2) hk, T569, bc_low]
  try simp only [mrgI, mrgL, mrg0, rtI, rtL, ite_self]
/-! division -/
def dvJ (x y : B64) : B64 :=
  if y = 0#64 then 0#64
  else if 0 ≤ y.toInt then
    (if x.toInt < 0 then
      (if x - (lShl (BitVec.sdiv (lUsh x 1) y) 1) * y < y then lShl (BitVec.sdiv (lUsh x 1) y) 1 else lShl (BitVec.sdiv (lUsh x 1) y) 1 + 1#64)
     else BitVec.sdiv x y)
  else if x < y then 0#64 else 1#64
theorem sdiv_pos {x y : B64} (hx : 0 ≤ x.toInt) (hy : 0 ≤ y.toInt) : BitVec.sdiv x y = x / y := by
  have mx : x.msb = false := by rw [BitVec.msb_eq_toInt]; exact decide_eq_false (by omega)
  have my : y.msb = false := by rw [BitVec.msb_eq_toInt]; exact decide_eq_false (by omega)
  rw [BitVec.sdiv_eq, mx, my]
  rfl
/-- the division without sign -/
theorem dvJ_eq (x y : B64) : dvJ x y = x / y := by
  have hx := x.isLt
  have hy := y.isLt
  have ex := toInt_c x
  have ey := toInt_c y
  unfold dvJ
  by_cases y0 : y = 0#64
  · rw [if_pos y0, y0]
    simp
  · have yp : 0 < y.toNat := by
      refine Nat.pos_of_ne_zero fun e => y0 ?_
      exact BitVec.eq_of_toNat_eq e
    rw [if_neg y0]
    by_cases c : 0 ≤ y.toInt
    · rw [if_pos c]
      have ylt : y.toNat < 9223372036854775808 := by split at ey <;> omega
      by_cases d : x.toInt < 0
      · rw [if_pos d]
        have xge : 9223372036854775808 ≤ x.toNat := by split at ex <;> omega
        have eh : lUsh x 1 = x >>> 1 := lUsh_k x (n := 1) (by omega)
        have hn : (x >>> 1).toNat = x.toNat / 2 := by rw [BitVec.toNat_ushiftRight]; rfl
        have hp : 0 ≤ (x >>> 1).toInt := by
          rw [toInt_c, hn]
          split <;> omega
        rw [eh, sdiv_pos hp c]
        have el : lShl ((x >>> 1) / y) 1 = ((x >>> 1) / y) <<< 1 := lShl_k _ (n := 1) (by omega)
        rw [el]
        have q1 : ((x >>> 1) / y).toNat = x.toNat / 2 / y.toNat := by rw [BitVec.toNat_udiv, hn]
        generalize hq : x.toNat / 2 / y.toNat = q at *
        have dq := Nat.div_add_mod (x.toNat / 2) y.toNat
        have rq := Nat.mod_lt (x.toNat / 2) yp
        rw [hq] at dq
        generalize x.toNat / 2 % y.toNat = r at *
        have qle : q ≤ x.toNat / 2 := by rw [← hq]; exact Nat.div_le_self _ _
        have q2 : (((x >>> 1) / y) <<< 1).toNat = 2 * q := by
          rw [BitVec.toNat_shiftLeft, q1, Nat.shiftLeft_eq]
          omega
        have ym : 2 * q * y.toNat = 2 * (y.toNat * q) := by rw [Nat.mul_assoc, Nat.mul_comm q]
        have pr : ((((x >>> 1) / y) <<< 1) * y).toNat = 2 * (y.toNat * q) := by
          rw [BitVec.toNat_mul, q2, ym]
          omega
        have sb : (x - (((x >>> 1) / y) <<< 1) * y).toNat = x.toNat - 2 * (y.toNat * q) := by
          rw [BitVec.toNat_sub, pr]
          omega
        have dx := Nat.div_add_mod x.toNat y.toNat
        have rx := Nat.mod_lt x.toNat yp
        by_cases lt : x - (((x >>> 1) / y) <<< 1) * y < y
        · rw [if_pos lt]
          rw [BitVec.lt_def, sb] at lt
          apply BitVec.eq_of_toNat_eq
          rw [q2, BitVec.toNat_udiv]
          refine (Nat.div_eq_of_lt_le ?_ ?_).symm
          · rw [ym]; omega
          · rw [Nat.add_mul, ym]; omega
        · rw [if_neg lt]
          rw [BitVec.lt_def, sb] at lt
          apply BitVec.eq_of_toNat_eq
          have e1 : (1#64).toNat = 1 := rfl
          rw [BitVec.toNat_add, q2, e1, BitVec.toNat_udiv]
          have : x.toNat / y.toNat = 2 * q + 1 := by
            refine Nat.div_eq_of_lt_le ?_ ?_
            · rw [Nat.add_mul, ym]; omega
            · rw [Nat.add_mul, Nat.add_mul, ym]; omega
          rw [this]
          have := Nat.div_le_self x.toNat y.toNat
          omega
      · rw [if_neg d]
        exact sdiv_pos (by omega) c
    · rw [if_neg c]
      have yge : 9223372036854775808 ≤ y.toNat := by split at ey <;> omega
      by_cases lt : x < y
      · rw [if_pos lt]
        apply BitVec.eq_of_toNat_eq
        rw [BitVec.toNat_udiv]
        rw [BitVec.lt_def] at lt
        exact (Nat.div_eq_of_lt lt).symm
      · rw [if_neg lt]
        apply BitVec.eq_of_toNat_eq
        rw [BitVec.toNat_udiv]
        rw [BitVec.lt_def] at lt
        have : x.toNat / y.toNat = 1 := by
          refine Nat.div_eq_of_lt_le ?_ ?_ <;> omega
        rw [this]
        rfl
theorem zlit : (0 : BitVec 64) = 0#64 := rfl
theorem T423 {x y : B64} {σ : MS} : MM 423 [mL x, mL y] σ = some (some (mL (x / y)), σ) := by
  rw [← dvJ_eq, M423, e423_0]
  unfold dvJ
  simp only [t0, zlit, T389, Option.bind_some, Option.toList_some, List.cons_append, List.nil_append, e423_19, e423_59, b2_0']
  by_cases h1 : y = 0#64
  · simp only [h1, not_true_eq_false, if_false, if_true]
  · simp only [h1, not_false_eq_true, if_false, if_true]
    have z : ∀ q : B64, q + 0#64 = q := fun q => by simp
    simp only [z]
    split <;> rename_i h2
    · split <;> rename_i h3
      · split <;> rename_i h4
        · first | rfl | rw [if_neg h4]
        · first | rfl | rw [if_pos (Decidable.not_not.mp h4)]
      · rfl
    · split <;> rename_i h3
      · first | rfl | rw [if_neg h3]
      · first | rfl | rw [if_pos (Decidable.not_not.mp h3)]
theorem rem_eq (x y : B64) : (if y = 0#64 then x else x - x / y * y) = x % y := by
  by_cases h : y = 0#64
  · rw [if_pos h, h]
    simp
  · rw [if_neg h]
    apply BitVec.eq_of_toNat_eq
    have hx := x.isLt
    have d := Nat.div_add_mod x.toNat y.toNat
    have e : x.toNat / y.toNat * y.toNat = y.toNat * (x.toNat / y.toNat) := Nat.mul_comm _ _
    rw [BitVec.toNat_sub, BitVec.toNat_mul, BitVec.toNat_udiv, BitVec.toNat_umod, e]
    have : y.toNat * (x.toNat / y.toNat) ≤ x.toNat := Nat.mul_div_le _ _
    omega
theorem rem_eq2 (x y : B64) : x - x / y * y = x % y := by
  rw [← rem_eq]
  by_cases h : y = 0#64
  · rw [if_pos h, h]
    simp
  · rw [if_neg h]
theorem T424 {x y : B64} {σ : MS} : MM 424 [mL x, mL y] σ = some (some (mL (x % y)), σ) := by
  rw [← rem_eq]
  rw [M424]
  try simp only [e424_0, Option.getD_some, Option.bind_some, Option.toList_some, Option.toList_none, List.cons_append, List.nil_append, and_self, and_true, true_and, false_and, and_false, ite_self, not_true_eq_false, not_false_eq_true, reduceIte, Nat.reduceEqDiff, ab_I, ab_L, ab_R, ao_I, ao_L, ao_R, gL_sL, gI_sI, gR_sR, gI_sL, gI_sR, gL_sI, gL_sR, gR_sI, gR_sL, T423]
  try simp only [mrgI, mrgL, mrg0, rtI, rtL, ite_self]
  try simp only [e424_16, Option.getD_some, Option.bind_some, Option.toList_some, Option.toList_none, List.cons_append, List.nil_append, and_self, and_true, true_and, false_and, and_false, ite_self, not_true_eq_false, not_false_eq_true, reduceIte, Nat.reduceEqDiff, ab_I, ab_L, ab_R, ao_I, ao_L, ao_R, gL_sL, gI_sI, gR_sR, gI_sL, gI_sR, gL_sI, gL_sR, gR_sI, gR_sL, T423]
  try simp only [mrgI, mrgL, mrg0, rtI, rtL, ite_self]
  by_cases h : y = 0#64 <;> simp [h]
theorem T425 {x : B64} {b : Nat} {σ : MS} (h0 : 1 ≤ b) (h1 : b ≤ 64) : MM 425 [mL x, mI b] σ = some (some (mL (sxt b x)), σ) := by
  rw [M425, e425_0, w32_i (by omega) (by omega), show (64 : Int) - (b : Int) = ((64 - b : Nat) : Int) by omega, lShl_k _ (by omega), lShr_k _ (by omega)]
  rfl
theorem T427 {x : B64} {b : Nat} {σ : MS} (h1 : b ≤ 64) : MM 427 [mL x, mI b] σ = some (some (mL (lowB b x)), σ) := by
  rw [M427, e427_0]
  unfold lowB
  by_cases h : b = 64
  · rw [if_neg (by omega), if_pos h]
  · rw [if_pos (by omega), if_neg h, lShl_k _ (by omega)]
