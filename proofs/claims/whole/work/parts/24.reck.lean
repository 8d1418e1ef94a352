/-! ===== what operations make of numbers: reference and class ===== -/
theorem bm_mul (n : Int) : (n * 4294967296).bmod 18446744073709551616 = n.bmod 4294967296 * 4294967296 := by
  rw [Int.bmod_def, Int.bmod_def]
  rw [show (((18446744073709551616 : Nat) : Int)) = 4294967296 * 4294967296 from rfl, Int.mul_comm n, Int.mul_emod_mul_of_pos _ _ (by decide)]
  rw [show (((4294967296 : Nat) : Int)) = 4294967296 from rfl]
  generalize n % 4294967296 = r
  split <;> split <;> omega
theorem sxt_toInt (x : B64) : iL (lI x) = sxt 32 x := by
  apply BitVec.eq_of_toInt_eq
  have e3 : x.toInt.bmod 4294967296 = (x.toNat : Int).bmod 4294967296 := by
    rw [BitVec.toInt_eq_toNat_bmod]
    exact Int.bmod_bmod_of_dvd (by decide)
  have e1 : (iL (lI x)).toInt = x.toInt.bmod 4294967296 := by
    unfold iL lI w32
    rw [BitVec.toInt_ofInt, Int.bmod_def, Int.bmod_def]
    split <;> split <;> omega
  have e2 : (sxt 32 x).toInt = ((x.toNat * 4294967296 : Nat) : Int).bmod 18446744073709551616 / 4294967296 := by
    unfold sxt
    rw [BitVec.toInt_sshiftRight, BitVec.toInt_shiftLeft, Int.shiftRight_eq_div_pow, Nat.shiftLeft_eq]
    rfl
  rw [e1, e2, e3, Int.natCast_mul, show (((4294967296 : Nat) : Int)) = 4294967296 from rfl, bm_mul, Int.mul_ediv_cancel _ (by decide)]
theorem iAnd_nat {a b : Int} {n : Nat} (h : (b32 a).toNat &&& (b32 b).toNat = n) (hn : n < 2147483648) : iAnd a b = (n : Int) := by
  unfold iAnd
  rw [BitVec.toInt_eq_toNat_cond, BitVec.toNat_and, h, if_pos (by omega)]
theorem b32_nat (a : Int) : (b32 a).toNat = (a % 4294967296).toNat := by
  unfold b32
  rw [BitVec.toNat_ofInt]
  rfl
theorem iAnd_mask {a : Int} {k : Nat} (hk : k < 32) : iAnd a ((2 ^ k : Nat) - 1 : Int) = a % (2 ^ k : Nat) := by
  have p1 : 2 ^ k ≤ 2 ^ 31 := Nat.pow_le_pow_right (by omega) (by omega)
  have p0 : 0 < 2 ^ k := Nat.pow_pos (by omega)
  have e1 : (b32 ((2 ^ k : Nat) - 1 : Int)).toNat = 2 ^ k - 1 := by
    rw [b32_nat]
    omega
  have e2 : ((a % 4294967296).toNat % 2 ^ k : Nat) = (a % ((2 ^ k : Nat) : Int)).toNat := by
    have d : ((2 ^ k : Nat) : Int) ∣ 4294967296 := by
      have : (2 ^ k : Nat) ∣ 2 ^ 32 := Nat.pow_dvd_pow 2 (by omega)
      exact Int.natCast_dvd_natCast.mpr this
    have q := Int.emod_emod_of_dvd a d
    have n1 : 0 ≤ a % 4294967296 := Int.emod_nonneg _ (by omega)
    have n2 : 0 ≤ a % ((2 ^ k : Nat) : Int) := Int.emod_nonneg _ (by omega)
    have : (((a % 4294967296).toNat % 2 ^ k : Nat) : Int) = a % ((2 ^ k : Nat) : Int) := by
      rw [Int.natCast_emod, Int.toNat_of_nonneg n1]
      exact q
    omega
  have n2 : 0 ≤ a % ((2 ^ k : Nat) : Int) := Int.emod_nonneg _ (by omega)
  have n3 : a % ((2 ^ k : Nat) : Int) < ((2 ^ k : Nat) : Int) := Int.emod_lt_of_pos _ (by omega)
  rw [iAnd_nat (n := (a % ((2 ^ k : Nat) : Int)).toNat) ?_ (by omega), Int.toNat_of_nonneg n2]
  rw [e1, Nat.and_two_pow_sub_one_eq_mod, b32_nat, e2]
theorem iAnd255 (a : Int) : iAnd a 255 = a % 256 := iAnd_mask (k := 8) (by omega)
theorem iAnd15 (a : Int) : iAnd a 15 = a % 16 := iAnd_mask (k := 4) (by omega)
theorem iAnd7 (a : Int) : iAnd a 7 = a % 8 := iAnd_mask (k := 3) (by omega)
theorem iAnd31 (a : Int) : iAnd a 31 = a % 32 := iAnd_mask (k := 5) (by omega)
theorem iAnd63 (a : Int) : iAnd a 63 = a % 64 := iAnd_mask (k := 6) (by omega)
theorem iAnd3 (a : Int) : iAnd a 3 = a % 4 := iAnd_mask (k := 2) (by omega)
theorem lI_mod (x : B64) (n : Nat) (h : n = 32 ∨ n = 64) : lI x % (n : Int) = ((x.toNat % n : Nat) : Int) := by
  have h1 := toInt_c x
  have hx := x.isLt
  unfold lI w32
  rw [h1, Int.bmod_def]
  rcases h with rfl | rfl <;> (split <;> split <;> omega)
theorem lI63 (x : B64) : iAnd (lI x) 63 = ((x.toNat % 64 : Nat) : Int) := by rw [iAnd63]; exact lI_mod x 64 (Or.inr rfl)
theorem lI31 (x : B64) : iAnd (lI x) 31 = ((x.toNat % 32 : Nat) : Int) := by rw [iAnd31]; exact lI_mod x 32 (Or.inl rfl)
theorem lShl_m {x : B64} {n m : Nat} (h : m ≤ 64) (hm : 0 < m) : lShl x ((n % m : Nat) : Int) = x <<< (n % m) := lShl_k x (by have := Nat.mod_lt n hm; omega)
theorem lUsh_m {x : B64} {n m : Nat} (h : m ≤ 64) (hm : 0 < m) : lUsh x ((n % m : Nat) : Int) = x >>> (n % m) := lUsh_k x (by have := Nat.mod_lt n hm; omega)
theorem lShr_m {x : B64} {n m : Nat} (h : m ≤ 64) (hm : 0 < m) : lShr x ((n % m : Nat) : Int) = x.sshiftRight (n % m) := lShr_k x (by have := Nat.mod_lt n hm; omega)
/-- all operations -/
def reckA (c off : Int) (w : Bool) (a b : B64) : B64 := if c = 128 then -a else if c = 176 then (if off = 0 then b else sxt off.toNat b) else reck c off w a b
abbrev okC (c off : Int) : Prop := (c = 0 ∨ c = 16 ∨ c = 32 ∨ c = 48 ∨ c = 64 ∨ c = 80 ∨ c = 96 ∨ c = 112 ∨ c = 128 ∨ c = 144 ∨ c = 160 ∨ c = 176 ∨ c = 192) ∧ (c = 48 ∨ c = 144 → off = 0 ∨ off = 1) ∧ (c = 176 → off = 0 ∨ off = 8 ∨ off = 16 ∨ off = 32)
theorem sdiv_0 (x : B64) : BitVec.sdiv x 0#64 = 0#64 := by simp
theorem srem_0 (x : B64) : BitVec.srem x 0#64 = x := by simp
theorem ite_sdiv {x y : B64} {σ : MS} : (if ¬ y = 0#64 then (if ¬ y = 0 then some (some (mL (BitVec.sdiv x y)), σ) else none) else some (some (mL 0#64), σ)) = (some (some (mL (BitVec.sdiv x y)), σ) : Option Rs) := by
  by_cases h : y = 0#64
  · rw [if_neg (not_not_intro h), h, sdiv_0]
  · rw [if_pos h]
    exact if_pos h
theorem ite_srem {x y : B64} {σ : MS} : (if ¬ y = 0#64 then (if ¬ y = 0 then some (some (mL (BitVec.srem x y)), σ) else none) else some (some (mL x), σ)) = (some (some (mL (BitVec.srem x y)), σ) : Option Rs) := by
  by_cases h : y = 0#64
  · rw [if_neg (not_not_intro h), h, srem_0]
  · rw [if_pos h]
    exact if_pos h
theorem lShl_z {x : B64} {n m : Nat} (h : m ≤ 64) (hm : 0 < m) : lShl x ((n : Int) % (m : Int)) = x <<< (n % m) := by
  rw [← Int.natCast_emod]
  exact lShl_m h hm
theorem lUsh_z {x : B64} {n m : Nat} (h : m ≤ 64) (hm : 0 < m) : lUsh x ((n : Int) % (m : Int)) = x >>> (n % m) := by
  rw [← Int.natCast_emod]
  exact lUsh_m h hm
theorem lShr_z {x : B64} {n m : Nat} (h : m ≤ 64) (hm : 0 < m) : lShr x ((n : Int) % (m : Int)) = x.sshiftRight (n % m) := by
  rw [← Int.natCast_emod]
  exact lShr_m h hm
theorem lShl_32 {x : B64} {n : Nat} : lShl x ((n : Int) % 32) = x <<< (n % 32) := lShl_z (m := 32) (by omega) (by omega)
theorem lShl_64 {x : B64} {n : Nat} : lShl x ((n : Int) % 64) = x <<< (n % 64) := lShl_z (m := 64) (by omega) (by omega)
theorem lUsh_32 {x : B64} {n : Nat} : lUsh x ((n : Int) % 32) = x >>> (n % 32) := lUsh_z (m := 32) (by omega) (by omega)
theorem lUsh_64 {x : B64} {n : Nat} : lUsh x ((n : Int) % 64) = x >>> (n % 64) := lUsh_z (m := 64) (by omega) (by omega)
theorem lShr_32 {x : B64} {n : Nat} : lShr x ((n : Int) % 32) = x.sshiftRight (n % 32) := lShr_z (m := 32) (by omega) (by omega)
theorem lShr_64 {x : B64} {n : Nat} : lShr x ((n : Int) % 64) = x.sshiftRight (n % 64) := lShr_z (m := 64) (by omega) (by omega)
theorem T428w {c off : Int} {a b : B64} {σ : MS} (hc : okC c off) : MM 428 [mI c, mI off, mL a, mL b, mI 1] σ = some (some (mL (reckA c off true a b)), σ) := by
  rw [M428]
  simp only [e428_0, e428_15, e428_30, if_false, if_true, show ¬ (1 : Int) = 0 by decide, lI63]
  rw [e428_46]
  obtain ⟨h1, h2, h3⟩ := hc
  rcases h1 with rfl | rfl | rfl | rfl | rfl | rfl | rfl | rfl | rfl | rfl | rfl | rfl | rfl
  · rfl
  · rfl
  · rfl
  · rcases h2 (Or.inl rfl) with rfl | rfl
    · simp [T423, e428_181, reckA, reck]
    · by_cases hb : b = 0#64 <;> simp [hb, sdiv_0, reckA, reck]
  · rfl
  · rfl
  · simp [reckA, reck]
    exact lShl_z (m := 64) (by omega) (by omega)
  · simp [reckA, reck]
    exact lUsh_z (m := 64) (by omega) (by omega)
  · rfl
  · rcases h2 (Or.inr rfl) with rfl | rfl
    · simp [T424, e428_234, reckA, reck]
    · by_cases hb : b = 0#64 <;> simp [hb, srem_0, reckA, reck]
  · rfl
  · rcases h3 rfl with rfl | rfl | rfl | rfl
    · simp [e428_274, reckA]
    · have t : MM 425 [mL b, mI 8] σ = some (some (mL (sxt 8 b)), σ) := T425 (b := 8) (by omega) (by omega)
      simp [t, e428_274, reckA]
    · have t : MM 425 [mL b, mI 16] σ = some (some (mL (sxt 16 b)), σ) := T425 (b := 16) (by omega) (by omega)
      simp [t, e428_274, reckA]
    · have t : MM 425 [mL b, mI 32] σ = some (some (mL (sxt 32 b)), σ) := T425 (b := 32) (by omega) (by omega)
      simp [t, e428_274, reckA]
  · simp [reckA, reck]
    exact lShr_z (m := 64) (by omega) (by omega)
theorem sxt_low (a : B64) : sxt 32 a &&& cF = a &&& cF := by
  apply BitVec.eq_of_toNat_eq
  rw [low32, low32, ← sxt_toInt]
  unfold iL lI w32
  rw [BitVec.toNat_ofInt, BitVec.toInt_eq_toNat_bmod, Int.bmod_bmod_of_dvd (by decide), Int.bmod_def]
  have := a.isLt
  split <;> omega
theorem T428m {c off : Int} {a b : B64} {σ : MS} (hc : okC c off) (nq : ¬ (c = 144 ∧ off = 1 ∧ sxt 32 b = 0#64)) : MM 428 [mI c, mI off, mL a, mL b, mI 0] σ = some (some (mL (reckA c off false a b)), σ) := by
  rw [M428]
  simp only [e428_0, e428_15, e428_30, if_true, lI31, sxt_toInt]
  rw [e428_46]
  obtain ⟨h1, h2, h3⟩ := hc
  rcases h1 with rfl | rfl | rfl | rfl | rfl | rfl | rfl | rfl | rfl | rfl | rfl | rfl | rfl
  · rfl
  · rfl
  · rfl
  · rcases h2 (Or.inl rfl) with rfl | rfl
    · simp [T423, e428_181, reckA, reck]
    · by_cases hb : sxt 32 b = 0#64 <;> simp [hb, sdiv_0, reckA, reck]
  · rfl
  · rfl
  · simp [reckA, reck]
    exact lShl_z (m := 32) (by omega) (by omega)
  · simp [reckA, reck]
    exact lUsh_z (m := 32) (by omega) (by omega)
  · rfl
  · rcases h2 (Or.inr rfl) with rfl | rfl
    · simp [T424, e428_234, reckA, reck]
    · have hb : ¬ sxt 32 b = 0#64 := fun e => nq ⟨rfl, rfl, e⟩
      simp [hb, reckA, reck]
  · rfl
  · rcases h3 rfl with rfl | rfl | rfl | rfl
    · simp [e428_274, reckA]
    · have t : MM 425 [mL b, mI 8] σ = some (some (mL (sxt 8 b)), σ) := T425 (b := 8) (by omega) (by omega)
      simp [t, e428_274, reckA]
    · have t : MM 425 [mL b, mI 16] σ = some (some (mL (sxt 16 b)), σ) := T425 (b := 16) (by omega) (by omega)
      simp [t, e428_274, reckA]
    · have t : MM 425 [mL b, mI 32] σ = some (some (mL (sxt 32 b)), σ) := T425 (b := 32) (by omega) (by omega)
      simp [t, e428_274, reckA]
  · simp [reckA, reck]
    exact lShr_z (m := 32) (by omega) (by omega)
theorem T428n {c off : Int} {a b : B64} {σ : MS} (hc : okC c off) : ∃ r : B64, MM 428 [mI c, mI off, mL a, mL b, mI 0] σ = some (some (mL r), σ) ∧ r &&& cF = reckA c off false a b &&& cF := by
  by_cases nq : c = 144 ∧ off = 1 ∧ sxt 32 b = 0#64
  · obtain ⟨rfl, rfl, hb⟩ := nq
    refine ⟨a, ?_, ?_⟩
    · rw [M428]
      simp only [e428_0, e428_15, e428_30, if_true, lI31, sxt_toInt]
      rw [e428_46]
      simp [hb]
    · have : reckA 144 1 false a b = sxt 32 a := by
        simp [reckA, reck, hb]
      rw [this, sxt_low]
  · exact ⟨_, T428m hc nq, rfl⟩
theorem T429w {c : Int} {a b : B64} {σ : MS} (hc : isCmp c) : MM 429 [mI c, mL a, mL b, mI 1] σ = some (some (mI (if cmpB c true a b = true then 1 else 0)), σ) := by
  rw [M429]
  simp only [e429_0, e429_12, if_false, show ¬ (1 : Int) = 0 by decide]
  rw [e429_26]
  rcases hc with rfl | rfl | rfl | rfl | rfl | rfl | rfl | rfl | rfl | rfl | rfl
  all_goals simp [cmpB, T389, e429_137, e429_143, e429_211, e429_217, bl_b2, b2_0']
  all_goals (try unfold b2)
  all_goals (repeat' split)
  all_goals first | rfl | omega | bv_omega | simp_all
theorem T429n {c : Int} {a b : B64} {σ : MS} (hc : isCmp c) : MM 429 [mI c, mL a, mL b, mI 0] σ = some (some (mI (if cmpB c false a b = true then 1 else 0)), σ) := by
  rw [M429]
  simp only [e429_0, e429_12, if_true, sxt_toInt]
  rw [e429_26]
  rcases hc with rfl | rfl | rfl | rfl | rfl | rfl | rfl | rfl | rfl | rfl | rfl
  all_goals simp [cmpB, T389, e429_137, e429_143, e429_211, e429_217, bl_b2, b2_0']
  all_goals (try unfold b2)
  all_goals (repeat' split)
  all_goals first | rfl | omega | bv_omega | simp_all
/-! bytes turned round -/
theorem L426 {v : B64} {n : Nat} {σ : MS} (hn : n ≤ 8) : ∀ k : Nat, k ≤ n → RR (lkB tb426) (B426_5, [some (mL v), none, some (mI ((8 * n : Nat) : Int)), some (mL (turnB (n - k) v)), none, some (mI ((8 * (n - k) : Nat) : Int))], [], σ) = some (some (mL (turnB n v)), σ) := by
  intro k
  induction k with
  | zero =>
    intro _
    rw [e426_5, if_pos (by omega)]
    rfl
  | succ k ih =>
    intro hk
    rw [e426_5, if_neg (by omega), lUsh_k _ (by omega), show (8 : Int) = ((8 : Nat) : Int) from rfl, lShl_k _ (by omega), w32_i (by omega) (by omega)]
    have e : ((8 * (n - (k + 1)) : Nat) : Int) + ((8 : Nat) : Int) = ((8 * (n - k) : Nat) : Int) := by omega
    rw [e]
    have e2 : n - k = (n - (k + 1)) + 1 := by omega
    have e3 : turnB (n - k) v = (turnB (n - (k + 1)) v <<< 8) ||| ((v >>> (8 * (n - (k + 1)))) &&& iL 255) := by rw [e2]; rfl
    rw [← e3]
    exact ih (by omega)
theorem T426 {v : B64} {b : Int} {σ : MS} (hb : b = 16 ∨ b = 32 ∨ b = 64) : MM 426 [mL v, mI b] σ = some (some (mL (turnB (b.toNat / 8) v)), σ) := by
  rw [M426, e426_0]
  have key := fun n hn => L426 (v := v) (σ := σ) (n := n) hn n (Nat.le_refl _)
  rcases hb with rfl | rfl | rfl
  · have := key 2 (by omega); exact this
  · have := key 4 (by omega); exact this
  · have := key 8 (by omega); exact this
/-! the class -/
theorem T18 {x y : B64} {σ : MS} : MM 18 [mL x, mL y] σ = some (some (mL (x / y)), σ) := by
  rw [← dvJ_eq, M18, e18_0]
  unfold dvJ
  simp only [t0, zlit, e18_22, e18_73]
  by_cases h1 : y = 0#64
  · simp [h1]
  · simp only [h1, not_false_eq_true, if_true, if_false]
    by_cases h2 : 0 ≤ y.toInt
    · simp only [h2, if_true]
      by_cases h3 : x.toInt < 0
      · simp only [h3, if_true]
        generalize x - lShl (BitVec.sdiv (lUsh x 1) y) 1 * y = l
        have q : l < y ↔ 0 ≤ l.toInt ∧ l.toInt < y.toInt := by
          have a := toInt_c l
          have b := toInt_c y
          rw [BitVec.lt_def]
          split at a <;> split at b <;> omega
        by_cases h4 : l.toInt < 0
        · rw [if_pos h4, if_neg (fun z => by have := q.mp z; omega)]
        · rw [if_neg h4]
          by_cases h5 : l.toInt < y.toInt
          · rw [if_pos h5, if_pos (q.mpr ⟨by omega, h5⟩)]
          · rw [if_neg h5, if_neg (fun z => h5 (q.mp z).2)]
      · simp only [h3, if_false]
    · simp only [h2, if_false]
      have q : x < y ↔ 0 ≤ x.toInt ∨ x.toInt < y.toInt := by
        have a := toInt_c x
        have b := toInt_c y
        rw [BitVec.lt_def]
        split at a <;> split at b <;> omega
      by_cases h3 : 0 ≤ x.toInt
      · rw [if_pos h3, if_pos (q.mpr (Or.inl h3))]
      · rw [if_neg h3]
        by_cases h4 : x.toInt < y.toInt
        · rw [if_pos h4, if_pos (q.mpr (Or.inr h4))]
        · rw [if_neg h4, if_neg (fun z => by have := q.mp z; omega)]
theorem T21 {x y : B64} {σ : MS} : MM 21 [mL x, mL y] σ = some (some (mL (x % y)), σ) := by
  rw [M21, e21_0, T18]
  simp only [Option.bind_some, Option.toList_some, List.cons_append, List.nil_append, e21_6, rem_eq2]
theorem T22 {x y : B64} {σ : MS} : MM 22 [mL x, mL y] σ = some (some (mL (BitVec.sdiv x y)), σ) := by
  rw [M22, e22_0]
  exact ite_sdiv
theorem T23 {x y : B64} {σ : MS} : MM 23 [mL x, mL y] σ = some (some (mL (BitVec.srem x y)), σ) := by
  rw [M23, e23_0]
  exact ite_srem
theorem T19 {x : B64} {b : Nat} {σ : MS} (h0 : 1 ≤ b) (h1 : b < 64) : MM 19 [mL x, mI b] σ = some (some (mL (sxt b x)), σ) := by
  rw [M19, e19_0, if_neg (by omega), if_pos (by omega), w32_i (by omega) (by omega), show (64 : Int) - (b : Int) = ((64 - b : Nat) : Int) by omega, lShl_k _ (by omega), lShr_k _ (by omega)]
  rfl
theorem T19n {x : B64} {b : Int} {σ : MS} (h : b ≤ 0 ∨ 64 ≤ b) : MM 19 [mL x, mI b] σ = some (some (mL x), σ) := by
  rw [M19, e19_0, e19_10]
  by_cases c : b ≤ 0
  · rw [if_pos c]
  · rw [if_neg c, if_neg (by omega)]
