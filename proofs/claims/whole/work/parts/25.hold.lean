/-! ===== the class: operations and conditions ===== -/
theorem mk_all : (List.range 256).all (fun a => decide (iAnd a 240 = (a / 16 * 16 : Nat)) && decide (iAnd a 8 = (a / 8 % 2 * 8 : Nat)) && decide (iAnd a 24 = (a / 8 % 4 * 8 : Nat)) && decide (iAnd a 224 = (a / 32 * 32 : Nat))) = true := by decide +kernel
theorem mk_at {a : Int} (h0 : 0 ≤ a) (h1 : a < 256) : iAnd a 240 = a / 16 * 16 ∧ iAnd a 8 = a / 8 % 2 * 8 ∧ iAnd a 24 = a / 8 % 4 * 8 ∧ iAnd a 224 = a / 32 * 32 := by
  have h := List.all_eq_true.mp mk_all a.toNat (List.mem_range.mpr (by omega))
  simp only [Bool.and_eq_true, decide_eq_true_eq] at h
  have e : ((a.toNat : Nat) : Int) = a := Int.toNat_of_nonneg h0
  rw [e] at h
  obtain ⟨⟨⟨h1, h2⟩, h3⟩, h4⟩ := h
  rw [h1, h2, h3, h4]
  omega
theorem sxt_val (x : B64) : (sxt 32 x).toInt = ((x.toNat % 4294967296 : Nat) : Int).bmod 4294967296 := by
  rw [← sxt_toInt]
  have h1 := toInt_c x
  have hx := x.isLt
  unfold iL lI w32
  rw [BitVec.toInt_ofInt, Int.bmod_def, Int.bmod_def, Int.bmod_def]
  split <;> split <;> split <;> split at h1 <;> omega
theorem sxt_cut (x : B64) : sxt 32 (x &&& cF) = sxt 32 x := by
  apply BitVec.eq_of_toInt_eq
  rw [sxt_val, sxt_val, low32]
  congr 1
  omega
theorem sxt_lt (a b : B64) : sxt 32 a < sxt 32 b ↔ a &&& cF < b &&& cF := by
  have ha := sxt_val a
  have hb := sxt_val b
  have ca := toInt_c (sxt 32 a)
  have cb := toInt_c (sxt 32 b)
  have la := (sxt 32 a).isLt
  have lb := (sxt 32 b).isLt
  rw [BitVec.lt_def, BitVec.lt_def, low32, low32]
  rw [Int.bmod_def] at ha hb
  split at ha <;> split at hb <;> split at ca <;> split at cb <;> omega
theorem sxt_eq (a b : B64) : sxt 32 a = sxt 32 b ↔ a &&& cF = b &&& cF := by
  constructor
  · intro h
    have n1 : ¬ a &&& cF < b &&& cF := fun q => by
      have := (sxt_lt a b).mpr q
      rw [h, BitVec.lt_def] at this
      omega
    have n2 : ¬ b &&& cF < a &&& cF := fun q => by
      have := (sxt_lt b a).mpr q
      rw [h, BitVec.lt_def] at this
      omega
    rw [BitVec.lt_def] at n1 n2
    exact BitVec.eq_of_toNat_eq (by omega)
  · intro h
    rw [← sxt_cut a, ← sxt_cut b, h]
theorem sxt_and (a b : B64) : sxt 32 a &&& sxt 32 b = sxt 32 (a &&& b) := by
  unfold sxt
  apply BitVec.eq_of_getLsbD_eq
  intro i hi
  rw [BitVec.getLsbD_and, sar_bit, sar_bit, sar_bit, BitVec.getLsbD_shiftLeft, BitVec.getLsbD_shiftLeft, BitVec.getLsbD_shiftLeft, BitVec.getLsbD_and]
  cases decide (i < 64) <;> cases decide ((if 64 - 32 + i < 64 then 64 - 32 + i else 63) < 64) <;> cases decide ((if 64 - 32 + i < 64 then 64 - 32 + i else 63) < 64 - 32) <;> simp
theorem sxt_z (x : B64) : sxt 32 x = 0#64 ↔ x &&& cF = 0#64 := by
  have := sxt_eq x 0#64
  rw [show sxt 32 (0#64) = 0#64 by decide, show (0#64) &&& cF = 0#64 by decide] at this
  exact this
/-- numbers of 32 bits have the same order with their signs drawn up -/
theorem cmp_sxt {c : Int} (hc : isCmp c) (a b : B64) : cmpB c true (sxt 32 a) (sxt 32 b) = cmpB c false (a &&& cF) (b &&& cF) := by
  rcases hc with rfl | rfl | rfl | rfl | rfl | rfl | rfl | rfl | rfl | rfl | rfl
  · rw [cmpB_16, cmpB_16]; exact decide_eq_decide.mpr (sxt_eq a b)
  · rw [cmpB_32, cmpB_32]; exact decide_eq_decide.mpr (sxt_lt b a)
  · rw [cmpB_48, cmpB_48]; exact decide_eq_decide.mpr (not_congr (sxt_lt a b))
  · rw [cmpB_64, cmpB_64, sxt_and]
    refine decide_eq_decide.mpr (not_congr ((sxt_z _).trans ?_))
    rw [show (a &&& b) &&& cF = (a &&& cF) &&& (b &&& cF) by
      apply BitVec.eq_of_getLsbD_eq
      intro i hi
      simp only [BitVec.getLsbD_and]
      generalize a.getLsbD i = p1
      generalize b.getLsbD i = p2
      generalize BitVec.getLsbD cF i = p3
      cases p1 <;> cases p2 <;> cases p3 <;> rfl]
  · rw [cmpB_80, cmpB_80]; exact decide_eq_decide.mpr (not_congr (sxt_eq a b))
  · rw [cmpB_96, cmpB_96, sxt_cut, sxt_cut]; simp only [if_true, Bool.false_eq_true, if_false]
  · rw [cmpB_112, cmpB_112, sxt_cut, sxt_cut]; simp only [if_true, Bool.false_eq_true, if_false]
  · rw [cmpB_160, cmpB_160]; exact decide_eq_decide.mpr (sxt_lt a b)
  · rw [cmpB_176, cmpB_176]; exact decide_eq_decide.mpr (not_congr (sxt_lt b a))
  · rw [cmpB_192, cmpB_192, sxt_cut, sxt_cut]; simp only [if_true, Bool.false_eq_true, if_false]
  · rw [cmpB_208, cmpB_208, sxt_cut, sxt_cut]; simp only [if_true, Bool.false_eq_true, if_false]
theorem T26 {op : Int} {a b : B64} {σ : MS} (h0 : 0 ≤ op) (h1 : op < 256) (hc : isCmp (op / 16 * 16)) : MM 26 [mI op, mL a, mL b] σ = some (some (mI (if cmpW (op / 16 * 16) (decide (op % 8 = 5)) a b = true then 1 else 0)), σ) := by
  have key : ∀ (x y : B64) (w : Int), RR (lkB tb26) (B26_41, [some (mI op), some (mL a), none, some (mL b), none, some (mI w), some (mL x), none, none, none], [mL y], σ) = some (some (mI (if cmpB (op / 16 * 16) true x y = true then 1 else 0)), σ) := by
    intro x y w
    rw [e26_41, (mk_at h0 h1).1]
    generalize op / 16 * 16 = c at *
    rcases hc with rfl | rfl | rfl | rfl | rfl | rfl | rfl | rfl | rfl | rfl | rfl
    all_goals simp [cmpB, T17, e26_161, e26_169, e26_243, e26_251, bl_b2, b2_0']
    all_goals (try unfold b2)
    all_goals (repeat' split)
    all_goals first | rfl | omega | bv_omega | simp_all
  rw [M26]
  simp only [e26_0, iAnd7]
  unfold cmpW
  by_cases w : op % 8 = 5
  · simp only [w, not_true_eq_false, if_false, e26_13, e26_27, show ¬ (1 : Int) = 0 by decide, key, decide_true, if_true]
  · simp only [w, not_false_eq_true, if_true, e26_13, e26_27, key, sxt_toInt, decide_false, Bool.false_eq_true, if_false, cmp_sxt hc]
theorem T20 {op off : Int} {a b : B64} {σ : MS} (h0 : 0 ≤ op) (h1 : op < 256) (hc : okC (op / 16 * 16) off) : MM 20 [mI op, mI off, mL a, mL b] σ = some (some (mL (if op % 8 = 7 then reckA (op / 16 * 16) off true a b else reckA (op / 16 * 16) off false (a &&& cF) (b &&& cF) &&& cF)), σ) := by
  obtain ⟨c1, c2, c3⟩ := hc
  rw [M20]
  simp only [e20_0, iAnd7]
  by_cases w : op % 8 = 7
  · simp only [w, not_true_eq_false, if_false, e20_14, e20_30, e20_48, show ¬ (1 : Int) = 0 by decide, lI63, if_true]
    rw [e20_65, (mk_at h0 h1).1]
    generalize op / 16 * 16 = c at *
    rcases c1 with rfl | rfl | rfl | rfl | rfl | rfl | rfl | rfl | rfl | rfl | rfl | rfl | rfl
    · simp [e20_406, reckA, reck]
    · simp [e20_406, reckA, reck]
    · simp [e20_406, reckA, reck]
    · rcases c2 (Or.inl rfl) with rfl | rfl
      · simp [T18, e20_256, e20_406, reckA, reck]
      · simp [T22, e20_229, e20_243, e20_246, e20_256, e20_406, reckA, reck]
    · simp [e20_406, reckA, reck]
    · simp [e20_406, reckA, reck]
    · simp [e20_406, reckA, reck, lI63, lShl_64]
    · simp [e20_406, reckA, reck, lI63, lUsh_64]
    · simp [e20_406, reckA, reck]
    · rcases c2 (Or.inr rfl) with rfl | rfl
      · simp [T18, e20_357, e20_361, e20_406, reckA, reck, rem_eq2]
      · simp [T23, e20_328, e20_342, e20_345, e20_361, e20_406, reckA, reck]
    · simp [e20_406, reckA, reck]
    · rcases c3 rfl with rfl | rfl | rfl | rfl
      · simp [T19n, e20_382, e20_406, reckA]
      · have t : ∀ x : B64, MM 19 [mL x, mI 8] σ = some (some (mL (sxt 8 x)), σ) := fun x => T19 (b := 8) (by omega) (by omega)
        simp [t, e20_382, e20_406, reckA]
      · have t : ∀ x : B64, MM 19 [mL x, mI 16] σ = some (some (mL (sxt 16 x)), σ) := fun x => T19 (b := 16) (by omega) (by omega)
        simp [t, e20_382, e20_406, reckA]
      · have t : ∀ x : B64, MM 19 [mL x, mI 32] σ = some (some (mL (sxt 32 x)), σ) := fun x => T19 (b := 32) (by omega) (by omega)
        simp [t, e20_382, e20_406, reckA]
    · simp [e20_401, e20_406, reckA, reck, lI63, lShr_64]
  · simp only [w, not_false_eq_true, if_true, e20_14, e20_30, e20_48, iL_F, lI31, if_false]
    rw [e20_65, (mk_at h0 h1).1]
    generalize op / 16 * 16 = c at *
    rcases c1 with rfl | rfl | rfl | rfl | rfl | rfl | rfl | rfl | rfl | rfl | rfl | rfl | rfl
    · simp [e20_406, reckA, reck, iL_F]
    · simp [e20_406, reckA, reck, iL_F]
    · simp [e20_406, reckA, reck, iL_F]
    · rcases c2 (Or.inl rfl) with rfl | rfl
      · simp [T18, e20_256, e20_406, reckA, reck, iL_F]
      · simp [T22, e20_229, e20_243, e20_246, e20_256, e20_406, reckA, reck, iL_F, sxt_toInt]
    · simp [e20_406, reckA, reck, iL_F]
    · simp [e20_406, reckA, reck, iL_F]
    · simp [e20_406, reckA, reck, iL_F, lI31, lShl_32]
    · simp [e20_406, reckA, reck, iL_F, lI31, lUsh_32]
    · simp [e20_406, reckA, reck, iL_F]
    · rcases c2 (Or.inr rfl) with rfl | rfl
      · simp [T18, e20_357, e20_361, e20_406, reckA, reck, rem_eq2, iL_F]
      · simp [T23, e20_328, e20_342, e20_345, e20_361, e20_406, reckA, reck, iL_F, sxt_toInt]
    · simp [e20_406, reckA, reck, iL_F]
    · rcases c3 rfl with rfl | rfl | rfl | rfl
      · simp [T19n, e20_382, e20_406, reckA, iL_F]
      · have t : ∀ x : B64, MM 19 [mL x, mI 8] σ = some (some (mL (sxt 8 x)), σ) := fun x => T19 (b := 8) (by omega) (by omega)
        simp [t, e20_382, e20_406, reckA, iL_F]
      · have t : ∀ x : B64, MM 19 [mL x, mI 16] σ = some (some (mL (sxt 16 x)), σ) := fun x => T19 (b := 16) (by omega) (by omega)
        simp [t, e20_382, e20_406, reckA, iL_F]
      · have t : ∀ x : B64, MM 19 [mL x, mI 32] σ = some (some (mL (sxt 32 x)), σ) := fun x => T19 (b := 32) (by omega) (by omega)
        simp [t, e20_382, e20_406, reckA, iL_F]
    · simp [e20_401, e20_406, reckA, reck, iL_F, sxt_toInt, lI31, lShr_32]
/-! bytes turned round -/
theorem shr_low (v : B64) {k : Nat} (hk : k < 8) : v.sshiftRight (8 * k) &&& iL 255 = (v >>> (8 * k)) &&& 255#64 := by
  rw [show iL 255 = 255#64 from rfl]
  apply BitVec.eq_of_getLsbD_eq
  intro i hi
  rw [BitVec.getLsbD_and, BitVec.getLsbD_and, BitVec.getLsbD_ushiftRight, sar_bit]
  by_cases c : i < 8
  · rw [if_pos (by omega)]
    simp [hi]
  · have : (255#64).getLsbD i = false := by
      rw [BitVec.getLsbD_ofNat]
      have : Nat.testBit 255 i = false := Nat.testBit_lt_two_pow (by
        have : 2 ^ 8 ≤ 2 ^ i := Nat.pow_le_pow_right (by omega) (by omega)
        omega)
      simp [this]
    rw [this]
    simp
theorem L25 {v : B64} {n : Nat} {σ : MS} (hn : n ≤ 8) : ∀ k : Nat, k ≤ n → RR (lkB tb25) (B25_5, [some (mL v), none, some (mI (n : Int)), some (mL (turnB (n - k) v)), none, some (mI ((n - k : Nat) : Int))], [], σ) = some (some (mL (turnB n v)), σ) := by
  intro k
  induction k with
  | zero =>
    intro _
    rw [e25_5, if_pos (by omega)]
    rfl
  | succ k ih =>
    intro hk
    rw [e25_5, if_neg (by omega), w32_i (by omega) (by omega), show (8 : Int) * ((n - (k + 1) : Nat) : Int) = ((8 * (n - (k + 1)) : Nat) : Int) by omega, lShr_k _ (by omega), show (8 : Int) = ((8 : Nat) : Int) from rfl, lShl_k _ (by omega), w32_i (by omega) (by omega), shr_low v (by omega)]
    have e : ((n - (k + 1) : Nat) : Int) + 1 = ((n - k : Nat) : Int) := by omega
    rw [e]
    have e2 : n - k = (n - (k + 1)) + 1 := by omega
    have e3 : turnB (n - k) v = (turnB (n - (k + 1)) v <<< 8) ||| ((v >>> (8 * (n - (k + 1)))) &&& 255#64) := by rw [e2]; rfl
    rw [← e3]
    exact ih (by omega)
theorem T25 {v : B64} {n : Nat} {σ : MS} (hn : n ≤ 8) : MM 25 [mL v, mI (n : Int)] σ = some (some (mL (turnB n v)), σ) := by
  rw [M25, e25_0]
  have := L25 (v := v) (σ := σ) hn n (Nat.le_refl _)
  rw [Nat.sub_self] at this
  exact this
theorem turn_low (v : B64) {n : Nat} (hn : n ≤ 8) : ∀ k : Nat, k ≤ n → turnB k (lowB (8 * n) v) = turnB k v := by
  intro k
  induction k with
  | zero => intro _; rfl
  | succ k ih =>
    intro hk
    unfold turnB
    rw [ih (by omega)]
    congr 1
    unfold lowB
    split
    · rfl
    · rename_i c
      apply BitVec.eq_of_getLsbD_eq
      intro i hi
      rw [BitVec.getLsbD_and, BitVec.getLsbD_and, BitVec.getLsbD_ushiftRight, BitVec.getLsbD_ushiftRight, BitVec.getLsbD_and]
      by_cases q : i < 8
      · have : (1#64 <<< (8 * n) - 1#64).getLsbD (8 * k + i) = true := by
          have e : 1#64 <<< (8 * n) - 1#64 = BitVec.ofNat 64 (2 ^ (8 * n) - 1) := by
            apply BitVec.eq_of_toNat_eq
            have p : 2 ^ (8 * n) < 2 ^ 64 := Nat.pow_lt_pow_right (by omega) (by omega)
            have p1 : 1 ≤ 2 ^ (8 * n) := Nat.one_le_two_pow
            have e1 : (1#64).toNat = 1 := rfl
            rw [BitVec.toNat_sub, BitVec.toNat_shiftLeft, e1, Nat.shiftLeft_eq, BitVec.toNat_ofNat]
            omega
          rw [e, BitVec.getLsbD_ofNat, Nat.testBit_two_pow_sub_one]
          simp
          omega
        rw [this]
        simp
      · have : (255#64).getLsbD i = false := by
          rw [BitVec.getLsbD_ofNat]
          have : Nat.testBit 255 i = false := Nat.testBit_lt_two_pow (by
            have : 2 ^ 8 ≤ 2 ^ i := Nat.pow_le_pow_right (by omega) (by omega)
            omega)
          simp [this]
        rw [this]
        simp
theorem T24 {op : Int} {v : B64} {b : Int} {σ : MS} (hb : b = 16 ∨ b = 32 ∨ b = 64) : MM 24 [mI op, mI b, mL v] σ = some (some (mL (trnJ (decide (op = 212)) b.toNat v)), σ) := by
  have low : (if b < 64 then v &&& (lShl 1#64 b - 1#64) else v) = lowB b.toNat v := by
    unfold lowB
    rcases hb with rfl | rfl | rfl <;> simp [lShl]
  have tr : turnB (b.toNat / 8) (lowB b.toNat v) = turnB (b.toNat / 8) v := by
    rcases hb with rfl | rfl | rfl
    · exact turn_low v (n := 2) (by omega) 2 (by omega)
    · exact turn_low v (n := 4) (by omega) 4 (by omega)
    · exact turn_low v (n := 8) (by omega) 8 (by omega)
  have dv : w32 (Int.tdiv b 8) = ((b.toNat / 8 : Nat) : Int) := by
    rcases hb with rfl | rfl | rfl <;> rfl
  rw [M24]
  simp only [e24_0, mrgL, low, e24_17, dv, T25 (show b.toNat / 8 ≤ 8 by omega), Option.bind_some, Option.toList_some, List.cons_append, List.nil_append, e24_40, tr]
  unfold trnJ
  by_cases c : op = 212
  · simp [c]
    rw [← low]
    split <;> rfl
  · simp [c]
    intro hb2
    rw [if_pos hb2] at low
    rw [low]
    exact tr
