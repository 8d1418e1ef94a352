/-! ===== words out of parts (pure) ===== -/
section WDO
variable {op d s f i c r x a b m : Int} {v w : B64}
theorem b32_i {a : Int} (h : -2147483648 ≤ a ∧ a < 2147483648) : (b32 a).toInt = a := by
  unfold b32
  rw [BitVec.toInt_ofInt, Int.bmod_def]
  omega
theorem iL_or (ha : -2147483648 ≤ a ∧ a < 2147483648) (hb : -2147483648 ≤ b ∧ b < 2147483648) : iL (iOr a b) = iL a ||| iL b := by
  have e : iL (iOr a b) = BitVec.signExtend 64 (b32 a ||| b32 b) := rfl
  have ea : iL a = BitVec.signExtend 64 (b32 a) := by
    show BitVec.ofInt 64 a = BitVec.ofInt 64 (b32 a).toInt
    rw [b32_i ha]
  have eb : iL b = BitVec.signExtend 64 (b32 b) := by
    show BitVec.ofInt 64 b = BitVec.ofInt 64 (b32 b).toInt
    rw [b32_i hb]
  rw [e, ea, eb, BitVec.signExtend_or]
theorem iOr_in : -2147483648 ≤ iOr a b ∧ iOr a b < 2147483648 := by
  have h1 := BitVec.le_toInt (b32 a ||| b32 b)
  have h2 := BitVec.toInt_lt (x := b32 a ||| b32 b)
  exact ⟨h1, h2⟩
theorem lI_in : -2147483648 ≤ lI v ∧ lI v < 2147483648 := by
  have h := w32_in v.toInt
  unfold inR at h
  exact h
theorem iL_0z : iL 0 = 0#64 := rfl
theorem shl_lI : lShl (iL (lI v)) 32 = lShl v 32 := by
  show (BitVec.ofInt 64 (v.toInt.bmod 4294967296)) <<< 32 = v <<< 32
  refine BitVec.eq_of_toNat_eq ?_
  rw [BitVec.toNat_shiftLeft, BitVec.toNat_shiftLeft, Nat.shiftLeft_eq, Nat.shiftLeft_eq, BitVec.toNat_ofInt]
  have h := v.isLt
  have e : v.toInt = if 2 * v.toNat < 18446744073709551616 then (v.toNat : Int) else (v.toNat : Int) - 18446744073709551616 := BitVec.toInt_eq_toNat_cond v
  rw [Int.bmod_def, e]
  split <;> split <;> omega
theorem and_lI : iL (lI v) &&& iL 65535 = v &&& iL 65535 := by
  have e3 : (iL 65535).toNat = 2 ^ 16 - 1 := by decide
  refine BitVec.eq_of_toNat_eq ?_
  rw [BitVec.toNat_and, BitVec.toNat_and, e3, Nat.and_two_pow_sub_one_eq_mod, Nat.and_two_pow_sub_one_eq_mod]
  show (BitVec.ofInt 64 (v.toInt.bmod 4294967296)).toNat % 2 ^ 16 = v.toNat % 2 ^ 16
  rw [BitVec.toNat_ofInt]
  have h := v.isLt
  have e : v.toInt = if 2 * v.toNat < 18446744073709551616 then (v.toNat : Int) else (v.toNat : Int) - 18446744073709551616 := BitVec.toInt_eq_toNat_cond v
  rw [Int.bmod_def, e]
  split <;> split <;> omega
theorem z_shl : lShl 0#64 x = 0#64 := by
  show (0#64) <<< _ = 0#64
  exact BitVec.zero_shiftLeft _
theorem z_16 : lShl (iL 0 &&& iL 65535) 16 = 0#64 := by decide
theorem z_32 : lShl (iL 0) 32 = 0#64 := by decide
theorem orr (A B C : B64) : A ||| B ||| C = A ||| C ||| B := by rw [BitVec.or_assoc, BitVec.or_comm B C, ← BitVec.or_assoc]
/-- IMM comes -/
theorem wd_i : wdR op d s f 0 ||| lShl v 32 = wdR op d s f (lI v) := by
  unfold wdR
  rw [shl_lI, z_32, BitVec.zero_or]
  rw [orr _ (iL op), orr _ (iL (iShl d 8)), orr _ (iL (iShl s 12)), BitVec.or_comm _ (lShl v 32)]
theorem wd_i2 : lShl v 32 ||| wdR op d s f 0 = wdR op d s f (lI v) := by
  rw [BitVec.or_comm, wd_i]
/-- OFF comes -/
theorem wd_f : wdR op d s 0 i ||| lShl (v &&& iL 65535) 16 = wdR op d s (lI v) i := by
  unfold wdR
  rw [and_lI, z_16, BitVec.or_zero]
  rw [orr _ (iL op), orr _ (iL (iShl d 8)), orr _ (iL (iShl s 12))]
/-- more of OP -/
theorem wd_o (ho : -2147483648 ≤ op ∧ op < 2147483648) (hc : -2147483648 ≤ c ∧ c < 2147483648) : wdR op d s f i ||| iL c = wdR (iOr op c) d s f i := by
  unfold wdR
  rw [iL_or ho hc]
  rw [BitVec.or_assoc]
theorem iShl_z : iShl 0 x = 0 := by
  unfold iShl
  rw [Int.zero_mul]
  decide
theorem wd_s : wdR op d 0 f i ||| iL (iShl s 12) = wdR op d s f i := by
  unfold wdR
  rw [iShl_z, iL_0z, BitVec.or_zero]
  rw [orr _ (iL op), orr _ (iL (iShl d 8))]
theorem wd_d : wdR op 0 s f i ||| iL (iShl d 8) = wdR op d s f i := by
  unfold wdR
  rw [iShl_z, iL_0z, BitVec.or_zero]
  rw [orr _ (iL op)]
theorem iShl_in : -2147483648 ≤ iShl a b ∧ iShl a b < 2147483648 := by
  unfold iShl
  have h := w32_in (a * 2 ^ (b % 32).toNat)
  unfold inR at h
  exact h
/-- the right side's register -/
theorem wd_8 (ho : -2147483648 ≤ op ∧ op < 2147483648) : wdR op d 0 f i ||| iL (iOr 8 (iShl s 12)) = wdR (iOr op 8) d s f i := by
  rw [iL_or (by omega) iShl_in, ← BitVec.or_assoc, wd_o ho (by omega), wd_s]
theorem wd_1 (hb : -2147483648 ≤ b ∧ b < 2147483648) : iL (iOr b (iShl r 8)) = wdR b r 0 0 0 := by
  rw [iL_or hb iShl_in]
  unfold wdR
  rw [z_32, z_16, iShl_z, iL_0z, BitVec.zero_or, BitVec.zero_or, BitVec.zero_or]
  rw [BitVec.or_comm]
theorem wd_0 : iL b = wdR b 0 0 0 0 := by
  unfold wdR
  rw [z_32, z_16, iShl_z, iShl_z, iL_0z, BitVec.zero_or, BitVec.zero_or, BitVec.zero_or, BitVec.zero_or]
theorem c16_1 : iL 65584 = iL 48 ||| lShl (iL 1 &&& iL 65535) 16 := by decide
theorem c16_2 : iL 65680 = iL 144 ||| lShl (iL 1 &&& iL 65535) 16 := by decide
theorem lI_1 : lI (iL 1) = 1 := by decide
/-- operations with signs: OP and OFF 1 -/
theorem wd_s48 (ho : -2147483648 ≤ op ∧ op < 2147483648) : wdR op d s 0 i ||| iL 65584 = wdR (iOr op 48) d s 1 i := by
  rw [c16_1, ← BitVec.or_assoc, wd_o ho (by omega), wd_f, lI_1]
theorem wd_s144 (ho : -2147483648 ≤ op ∧ op < 2147483648) : wdR op d s 0 i ||| iL 65680 = wdR (iOr op 144) d s 1 i := by
  rw [c16_2, ← BitVec.or_assoc, wd_o ho (by omega), wd_f, lI_1]
theorem cas_1 : ∀ n ∈ [(8 : Int), 16, 32], iL (iOr 176 (iShl n 16)) = iL 176 ||| lShl (iL n &&& iL 65535) 16 ∧ lI (iL n) = n := by decide
theorem wd_c {n : Int} (ho : -2147483648 ≤ op ∧ op < 2147483648) (hn : n = 8 ∨ n = 16 ∨ n = 32) : wdR op d s 0 i ||| iL (iOr 176 (iShl n 16)) = wdR (iOr op 176) d s n i := by
  obtain ⟨e1, e2⟩ := cas_1 n (by rcases hn with z | z | z <;> rw [z] <;> decide)
  rw [e1, ← BitVec.or_assoc, wd_o ho (by omega), wd_f, e2]
theorem iOr_c : iOr a b = iOr b a := by
  unfold iOr
  rw [BitVec.or_comm]
theorem iOr_a : iOr (iOr a b) c = iOr a (iOr b c) := by
  have e : ∀ x : BitVec 32, b32 x.toInt = x := fun x => BitVec.ofInt_toInt
  unfold iOr
  rw [e, e, BitVec.or_assoc]
end WDO
