/-! ===== products, bits, shifts, quotients ===== -/
/-- how many lowest bits are 0 -/
def lowK (x : B64) : Nat → Nat
  | 0 => 64
  | k + 1 => if x.getLsbD (63 - k) = true then 63 - k else lowK x k
def lowZ (x : B64) : Nat := lowK x 64
theorem lowK_spec (x : B64) : ∀ k : Nat, k ≤ 64 → 64 - k ≤ lowK x k ∧ lowK x k ≤ 64 ∧ (∀ j, 64 - k ≤ j → j < lowK x k → x.getLsbD j = false) ∧ (lowK x k < 64 → x.getLsbD (lowK x k) = true) := by
  intro k
  induction k with
  | zero =>
    intro _
    refine ⟨Nat.le_refl _, Nat.le_refl _, fun j a b => ?_, fun h => absurd h (Nat.lt_irrefl _)⟩
    unfold lowK at b
    omega
  | succ k ih =>
    intro hk
    obtain ⟨i1, i2, i3, i4⟩ := ih (by omega)
    unfold lowK
    by_cases hb : x.getLsbD (63 - k) = true
    · rw [if_pos hb]
      exact ⟨by omega, by omega, fun j a b => by omega, fun _ => hb⟩
    · rw [if_neg hb]
      refine ⟨by omega, i2, fun j a b => ?_, i4⟩
      by_cases q : j = 63 - k
      · rw [q]; simpa using hb
      · exact i3 j (by omega) b
theorem lowZ_le (x : B64) : lowZ x ≤ 64 := (lowK_spec x 64 (Nat.le_refl _)).2.1
theorem lowZ_lo (x : B64) {j : Nat} (h : j < lowZ x) : x.getLsbD j = false := (lowK_spec x 64 (Nat.le_refl _)).2.2.1 j (by omega) h
theorem lowZ_hi (x : B64) (h : lowZ x < 64) : x.getLsbD (lowZ x) = true := (lowK_spec x 64 (Nat.le_refl _)).2.2.2 h
theorem dvd_low {x : B64} {n : Nat} (h : ∀ j, j < n → x.getLsbD j = false) : 2 ^ n ∣ x.toNat := by
  have : x.toNat % 2 ^ n = 0 := by
    apply Nat.eq_of_testBit_eq
    intro j
    rw [Nat.testBit_mod_two_pow, Nat.zero_testBit]
    by_cases q : j < n
    · have := h j q
      unfold BitVec.getLsbD at this
      simp [this]
    · simp [q]
  exact Nat.dvd_of_mod_eq_zero this
theorem low_dvd {x : B64} {n : Nat} (h : 2 ^ n ∣ x.toNat) {j : Nat} (hj : j < n) : x.getLsbD j = false := by
  obtain ⟨k, e⟩ := h
  unfold BitVec.getLsbD
  rw [e, Nat.mul_comm, Nat.testBit_mul_two_pow]
  simp
  omega
def mulN (x y : N6) : N6 := if isC x ∧ isC y then cstN (jV x * jV y) else becN 0#64 (if 64 ≤ lowZ (jV x ||| jM x) + lowZ (jV y ||| jM y) then 0#64 else cAll <<< (lowZ (jV x ||| jM x) + lowZ (jV y ||| jM y))) (decide (cF < jB x) || decide (cF < jB y)) (jA x * jA y) (jB x * jB y) true 0#64 0#64
theorem okN_mul (x y : N6) : okN (mulN x y) := by
  unfold mulN
  split
  · exact okN_cst _
  · exact dis_0 _
theorem low_mul {a b : B64} {n k : Nat} (ha : ∀ j, j < n → a.getLsbD j = false) (hb : ∀ j, j < k → b.getLsbD j = false) {j : Nat} (hj : j < n + k) : (a * b).getLsbD j = false := by
  by_cases lt : j < 64
  · obtain ⟨p, e1⟩ := dvd_low ha
    obtain ⟨q, e2⟩ := dvd_low hb
    unfold BitVec.getLsbD
    rw [BitVec.toNat_mul, Nat.testBit_mod_two_pow]
    have e : a.toNat * b.toNat = (p * q) * 2 ^ (n + k) := by
      rw [e1, e2, Nat.pow_add]
      simp only [Nat.mul_assoc, Nat.mul_comm, Nat.mul_left_comm]
    rw [e, Nat.testBit_mul_two_pow]
    simp
    omega
  · exact BitVec.getLsbD_of_ge _ _ (by omega)
theorem bit_lowZ {v m x : B64} (h : bitN v m x) {j : Nat} (hj : j < lowZ (v ||| m)) : x.getLsbD j = false := by
  have k := lowZ_lo _ hj
  rw [BitVec.getLsbD_or] at k
  simp only [Bool.or_eq_false_iff] at k
  rw [h j k.2]
  exact k.1
theorem cF_toNat : cF.toNat = 4294967295 := rfl
theorem gN_mul {x y : N6} {a b : B64} (hx : gN x a) (hy : gN y b) : gN (mulN x y) (a * b) := by
  unfold mulN
  split
  · rename_i c
    rw [gN_const hx c.1, gN_const hy c.2]
    exact gN_cst _
  · refine gN_bec (fun i hi => ?_) (fun h => ?_) (fun h => by cases h)
    · have z : (0#64).getLsbD i = false := by simp
      rw [z]
      by_cases lt : i < 64
      · refine low_mul (fun j hj => bit_lowZ hx.1 hj) (fun j hj => bit_lowZ hy.1 hj) ?_
        split at hi
        · omega
        · rw [BitVec.getLsbD_shiftLeft, cAll_bit] at hi
          simp [lt] at hi
          omega
      · exact BitVec.getLsbD_of_ge _ _ (by omega)
    · simp only [Bool.or_eq_false_iff, decide_eq_false_iff_not, BitVec.lt_def, cF_toNat] at h
      obtain ⟨_, p1, p2, _, _⟩ := hx
      obtain ⟨_, q1, q2, _, _⟩ := hy
      have m1 : (jA x).toNat * (jA y).toNat ≤ a.toNat * b.toNat := Nat.mul_le_mul p1 q1
      have m2 : a.toNat * b.toNat ≤ (jB x).toNat * (jB y).toNat := Nat.mul_le_mul p2 q2
      have m3 : (jB x).toNat * (jB y).toNat ≤ 4294967295 * 4294967295 := Nat.mul_le_mul (by omega) (by omega)
      rw [BitVec.toNat_mul, BitVec.toNat_mul, BitVec.toNat_mul, Nat.mod_eq_of_lt (by omega), Nat.mod_eq_of_lt (by omega), Nat.mod_eq_of_lt (by omega)]
      exact ⟨m1, m2⟩
def andN (x y : N6) : N6 := becN (jV x &&& jV y) ((jV x ||| jM x) &&& (jV y ||| jM y) &&& ~~~ (jV x &&& jV y)) false (jV x &&& jV y) (bmin (jB x) (jB y)) true 0#64 0#64
theorem okN_and (x y : N6) : okN (andN x y) := fun i h => by
  have h : ((jV x ||| jM x) &&& (jV y ||| jM y) &&& ~~~ (jV x &&& jV y)).getLsbD i = true := h
  show (jV x &&& jV y).getLsbD i = false
  rw [BitVec.getLsbD_and, BitVec.getLsbD_not] at h
  revert h
  cases (jV x &&& jV y).getLsbD i <;> simp
theorem gN_and {x y : N6} {a b : B64} (ox : okN x) (oy : okN y) (hx : gN x a) (hy : gN y b) : gN (andN x y) (a &&& b) := by
  refine gN_bec (fun i hi => ?_) (fun h => ⟨?_, ?_⟩) (fun h => by cases h)
  · have ux := @bit_u _ _ _ hx.1 i
    have uy := @bit_u _ _ _ hy.1 i
    have tx := @bit_t _ _ _ hx.1 ox i
    have ty := @bit_t _ _ _ hy.1 oy i
    by_cases lt : i < 64
    · rw [BitVec.getLsbD_and, BitVec.getLsbD_and, BitVec.getLsbD_not, BitVec.getLsbD_and] at hi
      rw [BitVec.getLsbD_and, BitVec.getLsbD_and]
      revert hi ux uy tx ty
      simp only [lt, decide_true, Bool.true_and]
      cases (jV x ||| jM x).getLsbD i <;> cases (jV y ||| jM y).getLsbD i <;> cases (jV x).getLsbD i <;> cases (jV y).getLsbD i <;> cases a.getLsbD i <;> cases b.getLsbD i <;> simp
    · rw [BitVec.getLsbD_of_ge _ _ (by omega), BitVec.getLsbD_of_ge _ _ (by omega)]
  · refine sub_nat fun i q => ?_
    rw [BitVec.getLsbD_and] at q ⊢
    simp only [Bool.and_eq_true] at q ⊢
    exact ⟨bit_t hx.1 ox q.1, bit_t hy.1 oy q.2⟩
  · rw [bmin_toNat]
    have l1 : (a &&& b).toNat ≤ a.toNat := by rw [BitVec.toNat_and]; exact Nat.and_le_left
    have l2 : (a &&& b).toNat ≤ b.toNat := by rw [BitVec.toNat_and]; exact Nat.and_le_right
    have := hx.2.2.1
    have := hy.2.2.1
    omega
def orN (x y : N6) : N6 := becN (jV x ||| jV y) ((jM x ||| jM y) &&& ~~~ (jV x ||| jV y)) false (bmax (jA x) (jA y)) ((jV x ||| jV y) ||| ((jM x ||| jM y) &&& ~~~ (jV x ||| jV y))) true 0#64 0#64
theorem okN_or (x y : N6) : okN (orN x y) := fun i h => by
  have h : ((jM x ||| jM y) &&& ~~~ (jV x ||| jV y)).getLsbD i = true := h
  show (jV x ||| jV y).getLsbD i = false
  rw [BitVec.getLsbD_and, BitVec.getLsbD_not] at h
  revert h
  cases (jV x ||| jV y).getLsbD i <;> simp
theorem gN_or {x y : N6} {a b : B64} (ox : okN x) (oy : okN y) (hx : gN x a) (hy : gN y b) : gN (orN x y) (a ||| b) := by
  refine gN_bec (fun i hi => ?_) (fun h => ⟨?_, ?_⟩) (fun h => by cases h)
  · have bx := hx.1 i
    have bY := hy.1 i
    have tx := @bit_t _ _ _ hx.1 ox i
    have ty := @bit_t _ _ _ hy.1 oy i
    by_cases lt : i < 64
    · rw [BitVec.getLsbD_and, BitVec.getLsbD_not, BitVec.getLsbD_or, BitVec.getLsbD_or] at hi
      rw [BitVec.getLsbD_or, BitVec.getLsbD_or]
      revert hi bx bY tx ty
      simp only [lt, decide_true, Bool.true_and]
      cases (jM x).getLsbD i <;> cases (jM y).getLsbD i <;> cases (jV x).getLsbD i <;> cases (jV y).getLsbD i <;> cases a.getLsbD i <;> cases b.getLsbD i <;> simp
    · rw [BitVec.getLsbD_of_ge _ _ (by omega), BitVec.getLsbD_of_ge _ _ (by omega)]
  · rw [bmax_toNat]
    have l1 : a.toNat ≤ (a ||| b).toNat := sub_nat fun i q => by rw [BitVec.getLsbD_or, q]; rfl
    have l2 : b.toNat ≤ (a ||| b).toNat := sub_nat fun i q => by rw [BitVec.getLsbD_or, q]; simp
    have := hx.2.1
    have := hy.2.1
    omega
  · refine sub_nat fun i q => ?_
    have ux := @bit_u _ _ _ hx.1 i
    have uy := @bit_u _ _ _ hy.1 i
    by_cases lt : i < 64
    · rw [BitVec.getLsbD_or] at q ux uy
      rw [BitVec.getLsbD_or, BitVec.getLsbD_and, BitVec.getLsbD_not, BitVec.getLsbD_or, BitVec.getLsbD_or]
      revert q ux uy
      simp only [lt, decide_true, Bool.true_and]
      cases (jM x).getLsbD i <;> cases (jM y).getLsbD i <;> cases (jV x).getLsbD i <;> cases (jV y).getLsbD i <;> cases a.getLsbD i <;> cases b.getLsbD i <;> simp
    · rw [BitVec.getLsbD_of_ge _ _ (by omega)] at q
      cases q
def xorN (x y : N6) : N6 := becN ((jV x ^^^ jV y) &&& ~~~ (jM x ||| jM y)) (jM x ||| jM y) true 0#64 0#64 true 0#64 0#64
theorem okN_xor (x y : N6) : okN (xorN x y) := dis_and _ _
theorem gN_xor {x y : N6} {a b : B64} (hx : gN x a) (hy : gN y b) : gN (xorN x y) (a ^^^ b) := by
  refine gN_bec (fun i hi => ?_) (fun h => by cases h) (fun h => by cases h)
  have hi2 := hi
  rw [BitVec.getLsbD_or] at hi
  simp only [Bool.or_eq_false_iff] at hi
  rw [BitVec.getLsbD_and, BitVec.getLsbD_not, hi2, BitVec.getLsbD_xor, BitVec.getLsbD_xor, hx.1 i hi.1, hy.1 i hi.2]
  by_cases lt : i < 64
  · simp [lt]
  · rw [BitVec.getLsbD_of_ge _ _ (by omega), BitVec.getLsbD_of_ge _ _ (by omega)]
    simp
/-! shifts by a constant -/
def shlN (x : N6) (n : Nat) : N6 := becN (jV x <<< n) (jM x <<< n) (decide (¬ jB x <<< n >>> n = jB x)) (jA x <<< n) (jB x <<< n) true 0#64 0#64
theorem okN_shl {x : N6} (o : okN x) (n : Nat) : okN (shlN x n) := fun i h => by
  have h : (jM x <<< n).getLsbD i = true := h
  show (jV x <<< n).getLsbD i = false
  rw [BitVec.getLsbD_shiftLeft] at h ⊢
  simp only [Bool.and_eq_true] at h
  rw [o _ h.2]
  simp
theorem shl_nat {x : B64} {n : Nat} (h : x.toNat * 2 ^ n < 18446744073709551616) : (x <<< n).toNat = x.toNat * 2 ^ n := by
  rw [BitVec.toNat_shiftLeft, Nat.shiftLeft_eq]
  exact Nat.mod_eq_of_lt h
theorem shl_back {x : B64} {n : Nat} (h : x <<< n >>> n = x) : x.toNat * 2 ^ n < 18446744073709551616 := by
  have e := congrArg BitVec.toNat h
  rw [BitVec.toNat_ushiftRight, BitVec.toNat_shiftLeft, Nat.shiftRight_eq_div_pow, Nat.shiftLeft_eq] at e
  have p : 0 < 2 ^ n := Nat.two_pow_pos n
  have l : x.toNat * 2 ^ n % 2 ^ 64 < 2 ^ 64 := Nat.mod_lt _ (by decide)
  have k : x.toNat * 2 ^ n ≤ x.toNat * 2 ^ n % 2 ^ 64 := by
    have := Nat.div_mul_le_self (x.toNat * 2 ^ n % 2 ^ 64) (2 ^ n)
    rw [e] at this
    exact this
  omega
theorem gN_shl {x : N6} {a : B64} (hx : gN x a) (n : Nat) : gN (shlN x n) (a <<< n) := by
  refine gN_bec (fun i hi => ?_) (fun h => ?_) (fun h => by cases h)
  · rw [BitVec.getLsbD_shiftLeft] at hi ⊢
    rw [BitVec.getLsbD_shiftLeft]
    by_cases c : i < 64 ∧ ¬ i < n
    · simp only [c.1, c.2, decide_true, decide_false, Bool.not_false, Bool.true_and] at hi ⊢
      exact hx.1 _ hi
    · by_cases c1 : i < 64 <;> by_cases c2 : i < n <;> simp [c1, c2] at c ⊢
  · have h : jB x <<< n >>> n = jB x := by simpa using h
    have k := shl_back h
    have p : 0 < 2 ^ n := Nat.two_pow_pos n
    have m1 : (jA x).toNat * 2 ^ n ≤ a.toNat * 2 ^ n := Nat.mul_le_mul_right _ hx.2.1
    have m2 : a.toNat * 2 ^ n ≤ (jB x).toNat * 2 ^ n := Nat.mul_le_mul_right _ hx.2.2.1
    rw [shl_nat (by omega), shl_nat (by omega), shl_nat k]
    exact ⟨m1, m2⟩
def shrN (x : N6) (n : Nat) : N6 := becN (jV x >>> n) (jM x >>> n) false (jA x >>> n) (jB x >>> n) true 0#64 0#64
theorem okN_shr {x : N6} (o : okN x) (n : Nat) : okN (shrN x n) := fun i h => by
  have h : (jM x >>> n).getLsbD i = true := h
  show (jV x >>> n).getLsbD i = false
  rw [BitVec.getLsbD_ushiftRight] at h ⊢
  exact o _ h
theorem gN_shr {x : N6} {a : B64} (hx : gN x a) (n : Nat) : gN (shrN x n) (a >>> n) := by
  refine gN_bec (fun i hi => ?_) (fun h => ?_) (fun h => by cases h)
  · rw [BitVec.getLsbD_ushiftRight] at hi ⊢
    rw [BitVec.getLsbD_ushiftRight]
    exact hx.1 _ hi
  · simp only [BitVec.toNat_ushiftRight, Nat.shiftRight_eq_div_pow]
    exact ⟨Nat.div_le_div_right hx.2.1, Nat.div_le_div_right hx.2.2.1⟩
def sarN (x : N6) (n : Nat) : N6 := becN ((jV x).sshiftRight n) ((jM x).sshiftRight n) true 0#64 0#64 false ((jC x).sshiftRight n) ((jD x).sshiftRight n)
theorem sar_bit (x : B64) (n i : Nat) : (x.sshiftRight n).getLsbD i = (decide (i < 64) && x.getLsbD (if n + i < 64 then n + i else 63)) := by
  rw [BitVec.getLsbD_sshiftRight]
  by_cases h : i < 64
  · have : ¬ 64 ≤ i := by omega
    simp only [h, this, decide_true, decide_false, Bool.not_false, Bool.true_and]
    split
    · rfl
    · rw [BitVec.msb_eq_getLsbD_last]
  · have : 64 ≤ i := by omega
    simp [h, this]
theorem okN_sar {x : N6} (o : okN x) (n : Nat) : okN (sarN x n) := fun i h => by
  have h : ((jM x).sshiftRight n).getLsbD i = true := h
  show ((jV x).sshiftRight n).getLsbD i = false
  rw [sar_bit] at h ⊢
  simp only [Bool.and_eq_true] at h
  rw [o _ h.2]
  simp
theorem gN_sar {x : N6} {a : B64} (hx : gN x a) (n : Nat) : gN (sarN x n) (a.sshiftRight n) := by
  refine gN_bec (fun i hi => ?_) (fun h => by cases h) (fun h => ?_)
  · rw [sar_bit] at hi ⊢
    rw [sar_bit]
    by_cases lt : i < 64
    · simp only [lt, decide_true, Bool.true_and] at hi ⊢
      exact hx.1 _ hi
    · simp [lt]
  · simp only [BitVec.toInt_sshiftRight, Int.shiftRight_eq_div_pow]
    have p : (0 : Int) < ((2 ^ n : Nat) : Int) := by have := Nat.two_pow_pos n; omega
    exact ⟨Int.ediv_le_ediv p hx.2.2.2.1, Int.ediv_le_ediv p hx.2.2.2.2⟩
/-! shifts by what is no constant -/
def shrA (x : N6) : N6 := becN 0#64 cAll false 0#64 (jB x) true 0#64 0#64
theorem gN_shrA {x : N6} {a : B64} (hx : gN x a) (n : Nat) : gN (shrA x) (a >>> n) := by
  refine gN_bec (bit_all 0#64 _) (fun _ => ⟨Nat.zero_le _, ?_⟩) (fun h => by cases h)
  rw [BitVec.toNat_ushiftRight, Nat.shiftRight_eq_div_pow]
  exact Nat.le_trans (Nat.div_le_self _ _) hx.2.2.1
def sarA (x : N6) : N6 := becN 0#64 cAll true 0#64 0#64 false (if (jC x).toInt < 0 then jC x else 0#64) (if 0 ≤ (jD x).toInt then jD x else cAll)
theorem gN_sarA {x : N6} {a : B64} (hx : gN x a) (n : Nat) : gN (sarA x) (a.sshiftRight n) := by
  refine gN_bec (bit_all 0#64 _) (fun h => by cases h) (fun _ => ?_)
  obtain ⟨_, _, _, h1, h2⟩ := hx
  have p : (0 : Int) < ((2 ^ n : Nat) : Int) := by have := Nat.two_pow_pos n; omega
  have z : (0#64).toInt = 0 := by decide
  have m : cAll.toInt = -1 := by decide
  have e : (a.sshiftRight n).toInt = a.toInt / ((2 ^ n : Nat) : Int) := by rw [BitVec.toInt_sshiftRight, Int.shiftRight_eq_div_pow]
  rw [e]
  have k : a.toInt / ((2 ^ n : Nat) : Int) * ((2 ^ n : Nat) : Int) ≤ a.toInt := Int.ediv_mul_le _ (by omega)
  have k2 : a.toInt < (a.toInt / ((2 ^ n : Nat) : Int) + 1) * ((2 ^ n : Nat) : Int) := Int.lt_ediv_add_one_mul_self _ p
  have k3 : 0 ≤ a.toInt → 0 ≤ a.toInt / ((2 ^ n : Nat) : Int) := fun h => Int.ediv_nonneg h (by omega)
  have k4 : 0 ≤ a.toInt → a.toInt / ((2 ^ n : Nat) : Int) ≤ a.toInt := fun h => Int.ediv_le_self _ h
  have k5 : a.toInt < 0 → a.toInt / ((2 ^ n : Nat) : Int) < 0 := fun h => Int.ediv_neg_of_neg_of_pos h p
  have k6 : a.toInt < 0 → a.toInt ≤ a.toInt / ((2 ^ n : Nat) : Int) := fun h => by
    refine Int.le_ediv_of_mul_le p ?_
    have : a.toInt * ((2 ^ n : Nat) : Int) ≤ a.toInt * 1 := Int.mul_le_mul_of_nonpos_left (by omega) (by omega)
    omega
  constructor
  · split <;> omega
  · split <;> omega
/-! quotients -/
def divN (x y : N6) : N6 := if isC x ∧ isC y then cstN (jV x / jV y) else if isC y ∧ ¬ jV y = 0#64 then becN 0#64 cAll false (jA x / jV y) (jB x / jV y) true 0#64 0#64 else becN 0#64 cAll false 0#64 (jB x) true 0#64 0#64
theorem okN_div (x y : N6) : okN (divN x y) := by
  unfold divN
  split
  · exact okN_cst _
  · split <;> exact dis_0 _
theorem gN_div {x y : N6} {a b : B64} (hx : gN x a) (hy : gN y b) : gN (divN x y) (a / b) := by
  unfold divN
  split
  · rename_i c
    rw [gN_const hx c.1, gN_const hy c.2]
    exact gN_cst _
  · split
    · rename_i c
      refine gN_bec (bit_all 0#64 _) (fun _ => ?_) (fun h => by cases h)
      rw [gN_const hy c.1]
      simp only [BitVec.toNat_udiv]
      exact ⟨Nat.div_le_div_right hx.2.1, Nat.div_le_div_right hx.2.2.1⟩
    · refine gN_bec (bit_all 0#64 _) (fun _ => ⟨Nat.zero_le _, ?_⟩) (fun h => by cases h)
      rw [BitVec.toNat_udiv]
      exact Nat.le_trans (Nat.div_le_self _ _) hx.2.2.1
def remN (x y : N6) : N6 := if isC x ∧ isC y then cstN (jV x % jV y) else becN 0#64 cAll false 0#64 (if isC y ∧ ¬ jV y = 0#64 then bmin (jB x) (jV y - 1#64) else jB x) true 0#64 0#64
theorem okN_rem (x y : N6) : okN (remN x y) := by
  unfold remN
  split
  · exact okN_cst _
  · exact dis_0 _
theorem gN_rem {x y : N6} {a b : B64} (hx : gN x a) (hy : gN y b) : gN (remN x y) (a % b) := by
  unfold remN
  split
  · rename_i c
    rw [gN_const hx c.1, gN_const hy c.2]
    exact gN_cst _
  · refine gN_bec (bit_all 0#64 _) (fun _ => ⟨Nat.zero_le _, ?_⟩) (fun h => by cases h)
    rw [BitVec.toNat_umod]
    have l : a.toNat % b.toNat ≤ a.toNat := Nat.mod_le _ _
    have := hx.2.2.1
    split
    · rename_i c
      rw [bmin_toNat, ← gN_const hy c.1]
      have nz : ¬ b.toNat = 0 := fun e => c.2 (by rw [← gN_const hy c.1]; exact BitVec.eq_of_toNat_eq e)
      have l2 : a.toNat % b.toNat < b.toNat := Nat.mod_lt _ (by omega)
      have e : (b - 1#64).toNat = b.toNat - 1 := by
        rw [BitVec.toNat_sub]
        have := nat_rng b
        have : (1#64).toNat = 1 := rfl
        omega
      omega
    · omega
/-! CUT, and numbers that are sign extended -/
def cutN (x : N6) : N6 := becN (jV x &&& cF) (jM x &&& cF) false (if jA x >>> 32 = jB x >>> 32 then jA x &&& cF else 0#64) (if jA x >>> 32 = jB x >>> 32 then jB x &&& cF else cF) true 0#64 0#64
theorem low32 (x : B64) : (x &&& cF).toNat = x.toNat % 4294967296 := by
  rw [BitVec.toNat_and, show cF.toNat = 2 ^ 32 - 1 from rfl, Nat.and_two_pow_sub_one_eq_mod]
theorem okN_cut {x : N6} (o : okN x) : okN (cutN x) := fun i h => by
  have h : (jM x &&& cF).getLsbD i = true := h
  show (jV x &&& cF).getLsbD i = false
  rw [BitVec.getLsbD_and] at h ⊢
  simp only [Bool.and_eq_true] at h
  rw [o _ h.1]
  simp
theorem gN_cut {x : N6} {a : B64} (hx : gN x a) : gN (cutN x) (a &&& cF) := by
  refine gN_bec (fun i hi => ?_) (fun _ => ?_) (fun h => by cases h)
  · rw [BitVec.getLsbD_and] at hi ⊢
    rw [BitVec.getLsbD_and]
    cases c : cF.getLsbD i with
    | true =>
      rw [c] at hi
      simp only [Bool.and_true] at hi ⊢
      exact hx.1 _ hi
    | false => simp
  · obtain ⟨_, p1, p2, _, _⟩ := hx
    have e1 : (jA x >>> 32).toNat = (jA x).toNat / 4294967296 := by rw [BitVec.toNat_ushiftRight, Nat.shiftRight_eq_div_pow]
    have e2 : (jB x >>> 32).toNat = (jB x).toNat / 4294967296 := by rw [BitVec.toNat_ushiftRight, Nat.shiftRight_eq_div_pow]
    split
    · rename_i c
      have := congrArg BitVec.toNat c
      rw [e1, e2] at this
      rw [low32, low32, low32]
      omega
    · rw [low32, cF_toNat]
      have : (0#64).toNat = 0 := rfl
      omega
def sxt (n : Nat) (v : B64) : B64 := (v <<< (64 - n)).sshiftRight (64 - n)
theorem gN_sgn {n : Nat} (h : n = 8 ∨ n = 16 ∨ n = 32) (v : B64) : gN (sgnN n) (sxt n v) := by
  refine ⟨bit_all 0#64 _, Nat.zero_le _, cAll_le _, ?_, ?_⟩
  all_goals
    have e : (sxt n v).toInt = (v <<< (64 - n)).toInt / ((2 ^ (64 - n) : Nat) : Int) := by
      unfold sxt
      rw [BitVec.toInt_sshiftRight, Int.shiftRight_eq_div_pow]
    have l1 := BitVec.le_toInt (v <<< (64 - n))
    have l2 := BitVec.toInt_lt (x := v <<< (64 - n))
    generalize (v <<< (64 - n)).toInt = t at *
    rw [e]
  · show (cAll <<< (n - 1)).toInt ≤ _
    rcases h with rfl | rfl | rfl
    · have : (cAll <<< (8 - 1)).toInt = -128 := by decide
      omega
    · have : (cAll <<< (16 - 1)).toInt = -32768 := by decide
      omega
    · have : (cAll <<< (32 - 1)).toInt = -2147483648 := by decide
      omega
  · show _ ≤ (~~~ (cAll <<< (n - 1))).toInt
    rcases h with rfl | rfl | rfl
    · have : (~~~ (cAll <<< (8 - 1))).toInt = 127 := by decide
      omega
    · have : (~~~ (cAll <<< (16 - 1))).toInt = 32767 := by decide
      omega
    · have : (~~~ (cAll <<< (32 - 1))).toInt = 2147483647 := by decide
      omega
theorem okN_sgn (n : Nat) : okN (sgnN n) := dis_0 _
