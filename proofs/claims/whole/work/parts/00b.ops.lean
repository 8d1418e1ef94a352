/-! ===== what operations make of numbers ===== -/
theorem neg63 (x : B64) : x.toInt < 0 ↔ x.getLsbD 63 = true := by
  rw [bit63, toInt_c, decide_eq_true_eq]
  have := x.isLt
  split <;> omega
theorem nat_rng (x : B64) : x.toNat < 18446744073709551616 := x.isLt
/-- what an operation makes, before TIDY; w, ws: the range is whole -/
def becN (v m : B64) (w : Bool) (l h : B64) (ws : Bool) (a b : B64) : N6 := (v, m, if w = true then 0#64 else l, if w = true then cAll else h, if ws = true then cMin else a, if ws = true then cMax else b)
def cstN (c : B64) : N6 := (c, 0#64, c, c, c, c)
def anyN : N6 := (0#64, cAll, 0#64, cAll, cMin, cMax)
def wideM (n : Nat) : B64 := 1#64 <<< (8 * n) - 1#64
def wideN (n : Nat) : N6 := if 8 ≤ n then anyN else (0#64, wideM n, 0#64, wideM n, 0#64, wideM n)
def sgnN (b : Nat) : N6 := (0#64, cAll, 0#64, cAll, cAll <<< (b - 1), ~~~ (cAll <<< (b - 1)))
abbrev isC (n : N6) : Prop := jM n = 0#64
theorem cAll_le (x : B64) : x.toNat ≤ cAll.toNat := by
  have := x.isLt
  have e : cAll.toNat = 18446744073709551615 := rfl
  omega
theorem cMin_le (x : B64) : cMin.toInt ≤ x.toInt := by
  have := BitVec.le_toInt x
  have e : cMin.toInt = -9223372036854775808 := by decide
  omega
theorem le_cMax (x : B64) : x.toInt ≤ cMax.toInt := by
  have := BitVec.toInt_lt (x := x)
  have e : cMax.toInt = 9223372036854775807 := by decide
  omega
theorem gN_bec {v m l h a b x : B64} {w ws : Bool} (hb : bitN v m x) (hu : w = false → l.toNat ≤ x.toNat ∧ x.toNat ≤ h.toNat) (hs : ws = false → a.toInt ≤ x.toInt ∧ x.toInt ≤ b.toInt) : gN (becN v m w l h ws a b) x := by
  refine ⟨hb, ?_, ?_, ?_, ?_⟩
  · show (if w = true then 0#64 else l).toNat ≤ _
    cases w
    · exact (hu rfl).1
    · exact Nat.zero_le _
  · show _ ≤ (if w = true then cAll else h).toNat
    cases w
    · exact (hu rfl).2
    · exact cAll_le x
  · show (if ws = true then cMin else a).toInt ≤ _
    cases ws
    · exact (hs rfl).1
    · exact cMin_le x
  · show _ ≤ (if ws = true then cMax else b).toInt
    cases ws
    · exact (hs rfl).2
    · exact le_cMax x
theorem okN_bec {v m l h a b : B64} {w ws : Bool} (hd : disN v m) : okN (becN v m w l h ws a b) := hd
theorem dis_and (a b : B64) : disN (a &&& ~~~ b) b := fun i h => by
  rw [BitVec.getLsbD_and, BitVec.getLsbD_not, h]
  simp
theorem dis_0 (m : B64) : disN 0#64 m := fun i _ => by simp
theorem gN_cst (c : B64) : gN (cstN c) c := ⟨fun _ _ => rfl, Nat.le_refl _, Nat.le_refl _, Int.le_refl _, Int.le_refl _⟩
theorem okN_cst (c : B64) : okN (cstN c) := fun i h => by
  have : (0#64).getLsbD i = true := h
  simp at this
theorem bit_all (v x : B64) : bitN 0#64 cAll x := fun i h => by
  rw [cAll_bit] at h
  have h : ¬ i < 64 := by simpa using h
  rw [BitVec.getLsbD_of_ge _ _ (by omega), BitVec.getLsbD_of_ge _ _ (by omega)]
theorem gN_any (x : B64) : gN anyN x := ⟨bit_all 0#64 x, Nat.zero_le _, cAll_le x, cMin_le x, le_cMax x⟩
theorem okN_any : okN anyN := dis_0 _
theorem gN_const {n : N6} {x : B64} (h : gN n x) (hc : isC n) : x = jV n := by
  apply BitVec.eq_of_getLsbD_eq
  intro i hi
  refine h.1 i ?_
  rw [hc]
  simp
theorem wideM_lt {n : Nat} (h : n < 8) : (wideM n).toNat = 2 ^ (8 * n) - 1 := by
  have c : n = 0 ∨ n = 1 ∨ n = 2 ∨ n = 3 ∨ n = 4 ∨ n = 5 ∨ n = 6 ∨ n = 7 := by omega
  rcases c with rfl | rfl | rfl | rfl | rfl | rfl | rfl | rfl <;> rfl
theorem wideM_bit {n : Nat} (h : n < 8) (i : Nat) : (wideM n).getLsbD i = decide (i < 8 * n) := by
  show ((wideM n).toNat).testBit i = _
  rw [wideM_lt h, Nat.testBit_two_pow_sub_one]
theorem gN_wide {n : Nat} {x : B64} (h : x.toNat < 2 ^ (8 * n)) : gN (wideN n) x := by
  unfold wideN
  split
  · exact gN_any x
  · rename_i c
    have hn : n < 8 := by omega
    have hm := wideM_lt hn
    have hp : 2 ^ (8 * n) ≤ 2 ^ 56 := Nat.pow_le_pow_right (by omega) (by omega)
    have e1 : x.toInt = x.toNat := by rw [toInt_c, if_pos (by omega)]
    have e2 : (wideM n).toInt = (wideM n).toNat := by rw [toInt_c, if_pos (by omega)]
    refine ⟨fun i hi => ?_, Nat.zero_le _, ?_, ?_, ?_⟩
    · have hi : (wideM n).getLsbD i = false := hi
      rw [wideM_bit hn] at hi
      have hi : ¬ i < 8 * n := by simpa using hi
      show x.toNat.testBit i = (0#64).getLsbD i
      have : x.toNat < 2 ^ i := Nat.lt_of_lt_of_le h (Nat.pow_le_pow_right (by omega) (by omega))
      rw [Nat.testBit_lt_two_pow this]
      simp
    · show x.toNat ≤ (wideM n).toNat
      omega
    · show (0#64).toInt ≤ x.toInt
      have : (0#64).toInt = 0 := by decide
      omega
    · show x.toInt ≤ (wideM n).toInt
      omega
theorem okN_wide (n : Nat) : okN (wideN n) := by
  unfold wideN
  split <;> exact dis_0 _
/-! sums -/
def addM (x y : N6) : B64 := ((jM x + jM y + (jV x + jV y)) ^^^ (jV x + jV y)) ||| jM x ||| jM y
def ovA (a b : B64) : Bool := decide (((a ^^^ (a + b)) &&& (b ^^^ (a + b))).toInt < 0)
def ovS (a b : B64) : Bool := decide (((a ^^^ b) &&& (a ^^^ (a - b))).toInt < 0)
def addN (x y : N6) : N6 := becN ((jV x + jV y) &&& ~~~ addM x y) (addM x y) (decide (jA x + jA y < jA x) || decide (jB x + jB y < jB x)) (jA x + jA y) (jB x + jB y) (ovA (jC x) (jC y) || ovA (jD x) (jD y)) (jC x + jC y) (jD x + jD y)
theorem mod_sub {x y : B64} (h : ∀ i, x.getLsbD i = true → y.getLsbD i = true) (i : Nat) : x.toNat % 2 ^ i ≤ y.toNat % 2 ^ i := by
  have e : x &&& y = x := by
    apply BitVec.eq_of_getLsbD_eq
    intro i hi
    rw [BitVec.getLsbD_and]
    have := h i
    cases hx : x.getLsbD i <;> simp_all
  have e2 : x.toNat &&& y.toNat = x.toNat := by rw [← BitVec.toNat_and, e]
  rw [← e2, Nat.and_mod_two_pow]
  exact Nat.and_le_right
theorem car_mono {x y X Y : B64} (h1 : ∀ i, x.getLsbD i = true → X.getLsbD i = true) (h2 : ∀ i, y.getLsbD i = true → Y.getLsbD i = true) (i : Nat) (h : BitVec.carry i x y false = true) : BitVec.carry i X Y false = true := by
  unfold BitVec.carry at h ⊢
  rw [decide_eq_true_eq] at h ⊢
  have a := mod_sub h1 i
  have b := mod_sub h2 i
  omega
theorem dis_add {v m : B64} (h : disN v m) : v + m = v ||| m := by
  refine BitVec.add_eq_or_of_and_eq_zero v m ?_
  apply BitVec.eq_of_getLsbD_eq
  intro i hi
  rw [BitVec.getLsbD_and]
  cases hm : m.getLsbD i with
  | true => rw [h i hm]; simp
  | false => simp
/-- bits of a sum -/
theorem add_bits {v1 m1 x v2 m2 y : B64} (o1 : disN v1 m1) (o2 : disN v2 m2) (h1 : bitN v1 m1 x) (h2 : bitN v2 m2 y) {i : Nat} (hi : (((m1 + m2 + (v1 + v2)) ^^^ (v1 + v2)) ||| m1 ||| m2).getLsbD i = false) : (x + y).getLsbD i = (v1 + v2).getLsbD i := by
  by_cases lt : i < 64
  · rw [BitVec.getLsbD_or, BitVec.getLsbD_or, BitVec.getLsbD_xor] at hi
    simp only [Bool.or_eq_false_iff] at hi
    obtain ⟨⟨q, k1⟩, k2⟩ := hi
    have e : m1 + m2 + (v1 + v2) = (v1 ||| m1) + (v2 ||| m2) := by
      rw [← dis_add o1, ← dis_add o2]
      apply BitVec.eq_of_toNat_eq
      simp only [BitVec.toNat_add]
      omega
    rw [e, BitVec.getLsbD_add lt, BitVec.getLsbD_add lt, BitVec.getLsbD_or, BitVec.getLsbD_or, k1, k2] at q
    rw [BitVec.getLsbD_add lt, BitVec.getLsbD_add lt, h1 i k1, h2 i k2]
    have c1 := car_mono (x := v1) (y := v2) (X := x) (Y := y) (fun _ => bit_t h1 o1) (fun _ => bit_t h2 o2) i
    have c2 := car_mono (x := x) (y := y) (X := v1 ||| m1) (Y := v2 ||| m2) (fun _ => bit_u h1) (fun _ => bit_u h2) i
    revert q c1 c2
    cases v1.getLsbD i <;> cases v2.getLsbD i <;> cases BitVec.carry i v1 v2 false <;> cases BitVec.carry i x y false <;> cases BitVec.carry i (v1 ||| m1) (v2 ||| m2) false <;> simp
  · rw [BitVec.getLsbD_of_ge _ _ (by omega), BitVec.getLsbD_of_ge _ _ (by omega)]
theorem ovA_f {a b : B64} (h : ovA a b = false) : (a + b).toInt = a.toInt + b.toInt := by
  unfold ovA at h
  have h : ¬ ((a ^^^ (a + b)) &&& (b ^^^ (a + b))).toInt < 0 := by simpa using h
  rw [neg63, BitVec.getLsbD_and, BitVec.getLsbD_xor, BitVec.getLsbD_xor, bit63, bit63, bit63] at h
  rw [toInt_c, toInt_c, toInt_c]
  have l1 := nat_rng a
  have l2 := nat_rng b
  have e := BitVec.toNat_add a b
  generalize (a + b).toNat = c at *
  generalize a.toNat = a at *
  generalize b.toNat = b at *
  by_cases c1 : 9223372036854775808 ≤ a <;> by_cases c2 : 9223372036854775808 ≤ b <;> by_cases c3 : 9223372036854775808 ≤ c <;> simp [c1, c2, c3] at h <;> (split <;> split <;> split <;> omega)
theorem ovS_f {a b : B64} (h : ovS a b = false) : (a - b).toInt = a.toInt - b.toInt := by
  unfold ovS at h
  have h : ¬ ((a ^^^ b) &&& (a ^^^ (a - b))).toInt < 0 := by simpa using h
  rw [neg63, BitVec.getLsbD_and, BitVec.getLsbD_xor, BitVec.getLsbD_xor, bit63, bit63, bit63] at h
  rw [toInt_c, toInt_c, toInt_c]
  have l1 := nat_rng a
  have l2 := nat_rng b
  have e := BitVec.toNat_sub a b
  generalize (a - b).toNat = c at *
  generalize a.toNat = a at *
  generalize b.toNat = b at *
  by_cases c1 : 9223372036854775808 ≤ a <;> by_cases c2 : 9223372036854775808 ≤ b <;> by_cases c3 : 9223372036854775808 ≤ c <;> simp [c1, c2, c3] at h <;> (split <;> split <;> split <;> omega)
theorem okN_add (x y : N6) : okN (addN x y) := dis_and _ _
theorem gN_add {x y : N6} {a b : B64} (ox : okN x) (oy : okN y) (hx : gN x a) (hy : gN y b) : gN (addN x y) (a + b) := by
  refine gN_bec (fun i hi => ?_) (fun h => ?_) (fun h => ?_)
  · rw [BitVec.getLsbD_and, BitVec.getLsbD_not, hi]
    rw [add_bits ox oy hx.1 hy.1 hi]
    by_cases lt : i < 64
    · simp [lt]
    · rw [BitVec.getLsbD_of_ge _ _ (by omega)]
      simp
  · simp only [Bool.or_eq_false_iff, decide_eq_false_iff_not, BitVec.lt_def, BitVec.toNat_add] at h
    have := nat_rng (jA x)
    have := nat_rng (jB x)
    have := nat_rng (jA y)
    have := nat_rng (jB y)
    obtain ⟨_, p1, p2, _, _⟩ := hx
    obtain ⟨_, q1, q2, _, _⟩ := hy
    simp only [BitVec.toNat_add]
    omega
  · simp only [Bool.or_eq_false_iff] at h
    have e1 := ovA_f h.1
    have e2 := ovA_f h.2
    obtain ⟨_, _, _, p1, p2⟩ := hx
    obtain ⟨_, _, _, q1, q2⟩ := hy
    have l1 := BitVec.le_toInt (jC x + jC y)
    have l2 := BitVec.toInt_lt (x := jD x + jD y)
    have e3 : (a + b).toInt = a.toInt + b.toInt := by
      rw [BitVec.toInt_add, Int.bmod_def]
      omega
    omega
/-! differences -/
def subM (x y : N6) : B64 := (((jV x - jV y) + jM x) ^^^ ((jV x - jV y) - jM y)) ||| jM x ||| jM y
def subN (x y : N6) : N6 := becN ((jV x - jV y) &&& ~~~ subM x y) (subM x y) (decide (jA x < jB y)) (jA x - jB y) (jB x - jA y) (ovS (jC x) (jD y) || ovS (jD x) (jC y)) (jC x - jD y) (jD x - jC y)
theorem sub_not (x y : B64) : x - y = ~~~ (~~~ x + y) := by
  rw [← BitVec.not_sub_eq_not_add, BitVec.not_not]
theorem bit_not {v m x : B64} (h : bitN v m x) : bitN (~~~ v &&& ~~~ m) m (~~~ x) := fun i hi => by
  rw [BitVec.getLsbD_and, BitVec.getLsbD_not, BitVec.getLsbD_not, BitVec.getLsbD_not, hi, h i hi]
  by_cases lt : i < 64 <;> simp [lt]
theorem not_or (v m : B64) (h : disN v m) : ~~~ (v + m) = ~~~ v &&& ~~~ m := by
  rw [dis_add h]
  apply BitVec.eq_of_getLsbD_eq
  intro i hi
  simp [hi]
theorem add_r (a b c : B64) : a + b + c = a + c + b := by
  apply BitVec.eq_of_toNat_eq
  simp only [BitVec.toNat_add]
  omega
theorem sub_bits {v1 m1 x v2 m2 y : B64} (o1 : disN v1 m1) (o2 : disN v2 m2) (h1 : bitN v1 m1 x) (h2 : bitN v2 m2 y) {i : Nat} (hi : ((((v1 - v2) + m1) ^^^ ((v1 - v2) - m2)) ||| m1 ||| m2).getLsbD i = false) : (x - y).getLsbD i = (v1 - v2).getLsbD i := by
  by_cases lt : i < 64
  · have o1' : disN (~~~ v1 &&& ~~~ m1) m1 := dis_and _ _
    -- the greatest, and the least
    have e1 : (v1 - v2) + m1 = ~~~ ((~~~ v1 &&& ~~~ m1) + v2) := by
      rw [← not_or v1 m1 o1, ← sub_not]
      apply BitVec.eq_of_toNat_eq
      simp only [BitVec.toNat_add, BitVec.toNat_sub]
      omega
    have e2 : (v1 - v2) - m2 = ~~~ (m1 + m2 + ((~~~ v1 &&& ~~~ m1) + v2)) := by
      have a : ~~~ v1 = (~~~ v1 &&& ~~~ m1) + m1 := by
        rw [← not_or v1 m1 o1]
        apply BitVec.eq_of_toNat_eq
        simp only [BitVec.toNat_add, BitVec.toNat_not]
        have z : v1 &&& m1 = 0#64 := by
          apply BitVec.eq_of_getLsbD_eq
          intro i hi
          rw [BitVec.getLsbD_and]
          cases hm : m1.getLsbD i with
          | true => rw [o1 i hm]; simp
          | false => simp
        have e := BitVec.toNat_add_of_and_eq_zero z
        rw [dis_add o1] at e
        have l : (v1 ||| m1).toNat < 2 ^ 64 := (v1 ||| m1).isLt
        omega
      rw [sub_not v1 v2, sub_not _ m2, BitVec.not_not]
      have b : ~~~ v1 + v2 + m2 = m1 + m2 + ((~~~ v1 &&& ~~~ m1) + v2) := by
        generalize (~~~ v1 &&& ~~~ m1) = w at a ⊢
        rw [a]
        apply BitVec.eq_of_toNat_eq
        simp only [BitVec.toNat_add]
        omega
      rw [b]
    rw [e1, e2] at hi
    have hi2 : (((m1 + m2 + ((~~~ v1 &&& ~~~ m1) + v2)) ^^^ ((~~~ v1 &&& ~~~ m1) + v2)) ||| m1 ||| m2).getLsbD i = false := by
      rw [BitVec.getLsbD_or, BitVec.getLsbD_or, BitVec.getLsbD_xor] at hi ⊢
      rw [BitVec.getLsbD_not, BitVec.getLsbD_not] at hi
      simp only [lt, decide_true, Bool.true_and] at hi
      revert hi
      cases ((~~~ v1 &&& ~~~ m1) + v2).getLsbD i <;> cases (m1 + m2 + ((~~~ v1 &&& ~~~ m1) + v2)).getLsbD i <;> simp
    have k1 := add_bits o1' o2 (bit_not h1) h2 hi2
    have k2 := add_bits o1' o2 (bit_not (v := v1) (m := m1) (x := v1) (fun _ _ => rfl)) (fun _ _ => rfl) hi2
    rw [sub_not x y, sub_not v1 v2, BitVec.getLsbD_not, BitVec.getLsbD_not, k1, k2]
  · rw [BitVec.getLsbD_of_ge _ _ (by omega), BitVec.getLsbD_of_ge _ _ (by omega)]
theorem okN_sub (x y : N6) : okN (subN x y) := dis_and _ _
theorem gN_sub {x y : N6} {a b : B64} (ox : okN x) (oy : okN y) (hx : gN x a) (hy : gN y b) : gN (subN x y) (a - b) := by
  refine gN_bec (fun i hi => ?_) (fun h => ?_) (fun h => ?_)
  · rw [BitVec.getLsbD_and, BitVec.getLsbD_not, hi]
    rw [sub_bits ox oy hx.1 hy.1 hi]
    by_cases lt : i < 64
    · simp [lt]
    · rw [BitVec.getLsbD_of_ge _ _ (by omega)]
      simp
  · simp only [decide_eq_false_iff_not, BitVec.lt_def] at h
    have := nat_rng (jA x)
    have := nat_rng (jB x)
    have := nat_rng (jA y)
    have := nat_rng (jB y)
    have := nat_rng a
    have := nat_rng b
    obtain ⟨_, p1, p2, _, _⟩ := hx
    obtain ⟨_, q1, q2, _, _⟩ := hy
    simp only [BitVec.toNat_sub]
    omega
  · simp only [Bool.or_eq_false_iff] at h
    have e1 := ovS_f h.1
    have e2 := ovS_f h.2
    obtain ⟨_, _, _, p1, p2⟩ := hx
    obtain ⟨_, _, _, q1, q2⟩ := hy
    have l1 := BitVec.le_toInt (jC x - jD y)
    have l2 := BitVec.toInt_lt (x := jD x - jC y)
    have e3 : (a - b).toInt = a.toInt - b.toInt := by
      rw [BitVec.toInt_sub, Int.bmod_def]
      omega
    omega
