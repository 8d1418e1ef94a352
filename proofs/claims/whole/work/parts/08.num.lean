/-! ===== the small machine's numbers and the machine's ===== -/
def inR (x : Int) : Prop := -2147483648 ≤ x ∧ x < 2147483648
def rI (x : Int) : Int32 := Int32.ofInt x
def rJ (b : BitVec 64) : Int64 := Int64.ofBitVec b
theorem rI_toInt {x : Int} (h : inR x) : (rI x).toInt = x := Int32.toInt_ofInt_of_le (by unfold inR at h; omega) (by unfold inR at h; omega)
theorem rI_inj {x y : Int} (hx : inR x) (hy : inR y) : rI x = rI y ↔ x = y := ⟨fun h => by rw [← rI_toInt hx, ← rI_toInt hy, h], fun h => by rw [h]⟩
theorem rI_lt {x y : Int} (hx : inR x) (hy : inR y) : rI x < rI y ↔ x < y := by rw [Int32.lt_iff_toInt_lt, rI_toInt hx, rI_toInt hy]
theorem rI_le {x y : Int} (hx : inR x) (hy : inR y) : rI x ≤ rI y ↔ x ≤ y := by rw [Int32.le_iff_toInt_le, rI_toInt hx, rI_toInt hy]
theorem inR_toInt (v : Int32) : inR v.toInt := ⟨Int32.le_toInt v, Int32.toInt_lt v⟩
theorem rI_of_toInt (v : Int32) : rI v.toInt = v := Int32.ofInt_toInt v
theorem rI_eq {x : Int} {v : Int32} (h : v.toInt = x) : rI x = v := by rw [← h]; exact rI_of_toInt v
theorem w32_in (x : Int) : inR (w32 x) := by unfold w32 inR; rw [Int.bmod_def]; omega
theorem w32_id {x : Int} (h : inR x) : w32 x = x := by unfold w32; unfold inR at h; rw [Int.bmod_def]; omega
theorem rI_w32 (x : Int) : rI (w32 x) = rI x := Int32.toInt_inj.mp (by
  rw [rI_toInt (w32_in x)]
  unfold rI w32
  rw [Int32.toInt_ofInt])
theorem w8_in (x : Int) : -128 ≤ w8 x ∧ w8 x < 128 := by unfold w8; rw [Int.bmod_def]; omega
theorem w16_in (x : Int) : -32768 ≤ w16 x ∧ w16 x < 32768 := by unfold w16; rw [Int.bmod_def]; omega
theorem in8 {x : Int} (h : -128 ≤ x ∧ x < 128) : inR x := by unfold inR; omega
theorem rI_nat {x : Int} (h : inR x) : (rI x).toNatClampNeg = x.toNat := by unfold Int32.toNatClampNeg; rw [rI_toInt h]
theorem rI_neg {x : Int} (h : inR x) : (rI x < 0) ↔ x < 0 := rI_lt (y := 0) h (by unfold inR; omega)
theorem rI_vin {x : Int} {n : Nat} (h : inR x) (h0 : 0 ≤ x) (hn : x < (n : Int)) : vp_in (rI x) n := by
  unfold vp_in
  rw [rI_neg h, rI_nat h]
  omega
theorem rI_add (x y : Int) : rI x + rI y = rI (w32 (x + y)) := by rw [rI_w32]; exact (Int32.ofInt_add x y).symm
theorem rI_sub (x y : Int) : rI x - rI y = rI (w32 (x - y)) := by rw [rI_w32]; exact (Int32.ofInt_sub x y).symm
theorem rI_mul (x y : Int) : rI x * rI y = rI (w32 (x * y)) := by rw [rI_w32]; exact (Int32.ofInt_mul x y).symm
theorem rI_negv (x : Int) : -rI x = rI (w32 (-x)) := by rw [rI_w32]; exact (Int32.ofInt_neg x).symm
theorem b32_in (b : BitVec 32) : inR b.toInt := by
  have h1 := BitVec.toInt_lt (x := b)
  have h2 := BitVec.le_toInt (x := b)
  unfold inR
  omega
theorem rI_b (b : BitVec 32) : rI b.toInt = Int32.ofBitVec b := Int32.toInt_inj.mp (by rw [rI_toInt (b32_in b), Int32.toInt_ofBitVec])
theorem rI_and (x y : Int) : rI x &&& rI y = rI (iAnd x y) := (rI_b _).symm
theorem rI_or (x y : Int) : rI x ||| rI y = rI (iOr x y) := (rI_b _).symm
theorem rI_xor (x y : Int) : rI x ^^^ rI y = rI (iXor x y) := (rI_b _).symm
theorem rI_div {x y : Int} (hx : inR x) (hy : inR y) : rI x / rI y = rI (w32 (x.tdiv y)) := Int32.toInt_inj.mp (by
  rw [rI_toInt (w32_in _), Int32.toInt_div, rI_toInt hx, rI_toInt hy]
  rfl)
theorem tmod_in {x y : Int} (hx : inR x) (_ : inR y) : inR (x.tmod y) := by
  unfold inR at *
  have h := Int.natAbs_tmod x y
  have h2 := Nat.mod_le x.natAbs y.natAbs
  by_cases h0 : 0 ≤ x
  · have h1 := Int.tmod_nonneg y h0
    omega
  · have e : x = -(-x) := by omega
    have h1 := Int.tmod_nonneg y (show 0 ≤ -x by omega)
    have h3 : x.tmod y = -((-x).tmod y) := by rw [Int.neg_tmod]; omega
    omega
theorem rI_rem {x y : Int} (hx : inR x) (hy : inR y) : rI x - rI x / rI y * rI y = rI (x.tmod y) := by
  rw [rI_div hx hy, rI_mul, rI_sub, rI_w32]
  have e : x.tmod y = x - x.tdiv y * y := by
    have := Int.mul_tdiv_add_tmod x y
    rw [Int.mul_comm] at this
    omega
  rw [e]
  unfold rI
  rw [Int32.ofInt_sub, Int32.ofInt_sub, Int32.ofInt_mul]
  congr 1
  show rI (w32 (w32 (x.tdiv y) * y)) = _
  rw [rI_w32]
  show Int32.ofInt (w32 (x.tdiv y) * y) = _
  rw [Int32.ofInt_mul]
  congr 1
  exact rI_w32 _
theorem rI_i2b (x : Int) : (rI x).toInt8.toInt32 = rI (w8 x) := Int32.toInt_inj.mp (by
  rw [Int8.toInt_toInt32, rI_toInt (in8 (w8_in x))]
  unfold rI w8
  rw [Int32.toInt8_ofInt, Int8.toInt_ofInt])
theorem rI_i2s {x : Int} (h : inR x) : (rI x).toInt16.toInt32 = rI (w16 x) := Int32.toInt_inj.mp (by
  have hw := w16_in x
  rw [Int16.toInt_toInt32, rI_toInt (x := w16 x) (by unfold inR; omega), Int32.toInt_toInt16, rI_toInt h]
  rfl)
theorem rI_i2l {x : Int} (h : inR x) : (rI x).toInt64 = rJ (iL x) := Int64.toInt_inj.mp (by
  rw [Int32.toInt_toInt64, rI_toInt h]
  unfold rJ iL
  rw [Int64.toInt_ofBitVec, BitVec.toInt_ofInt, Int.bmod_def]
  unfold inR at h
  omega)
theorem rJ_l2i (b : BitVec 64) : (rJ b).toInt32 = rI (lI b) := Int32.toInt_inj.mp (by
  unfold lI
  rw [rI_toInt (w32_in _), Int64.toInt_toInt32]
  rfl)
theorem rJ_inj {x y : BitVec 64} : rJ x = rJ y ↔ x = y := ⟨fun h => by have := congrArg Int64.toBitVec h; exact this, fun h => by rw [h]⟩
theorem rJ_lt {x y : BitVec 64} : rJ x < rJ y ↔ x.toInt < y.toInt := by rw [Int64.lt_iff_toInt_lt]; rfl
theorem rJ_le {x y : BitVec 64} : rJ x ≤ rJ y ↔ x.toInt ≤ y.toInt := by rw [Int64.le_iff_toInt_le]; rfl
theorem rJ_add (x y : BitVec 64) : rJ x + rJ y = rJ (x + y) := rfl
theorem rJ_sub (x y : BitVec 64) : rJ x - rJ y = rJ (x - y) := rfl
theorem rJ_mul (x y : BitVec 64) : rJ x * rJ y = rJ (x * y) := rfl
theorem rJ_and (x y : BitVec 64) : rJ x &&& rJ y = rJ (x &&& y) := rfl
theorem rJ_or (x y : BitVec 64) : rJ x ||| rJ y = rJ (x ||| y) := rfl
theorem rJ_xor (x y : BitVec 64) : rJ x ^^^ rJ y = rJ (x ^^^ y) := rfl
theorem rJ_neg (x : BitVec 64) : -rJ x = rJ (-x) := rfl
theorem rJ_div (x y : BitVec 64) : rJ x / rJ y = rJ (x.sdiv y) := rfl
theorem rJ_mod (x y : BitVec 64) : rJ x % rJ y = rJ (x.srem y) := rfl
theorem sh_smod (w : BitVec 64) (h : w.toNat < 64) : w.smod 64#64 = w := by
  apply BitVec.eq_of_toInt_eq
  rw [BitVec.toInt_smod]
  have e : w.toInt = (w.toNat : Int) := by
    rw [BitVec.toInt_eq_toNat_of_lt]
    omega
  rw [e, show (64#64 : BitVec 64).toInt = 64 from rfl, Int.fmod_eq_emod_of_nonneg _ (by omega)]
  omega
theorem sh_smod32 (w : BitVec 32) (h : w.toNat < 32) : w.smod 32#32 = w := by
  apply BitVec.eq_of_toInt_eq
  rw [BitVec.toInt_smod]
  have e : w.toInt = (w.toNat : Int) := by
    rw [BitVec.toInt_eq_toNat_of_lt]
    omega
  rw [e, show (32#32 : BitVec 32).toInt = 32 from rfl, Int.fmod_eq_emod_of_nonneg _ (by omega)]
  omega
theorem sh_amt {y : Int} (h : inR y) : (((rI y).toInt64.toBitVec &&& 63#64).toNat) = (y % 64).toNat := by
  rw [rI_i2l h]
  show ((BitVec.ofInt 64 y) &&& 63#64).toNat = _
  rw [BitVec.toNat_and, show (63#64 : BitVec 64).toNat = 2 ^ 6 - 1 from rfl, Nat.and_two_pow_sub_one_eq_mod, BitVec.toNat_ofInt]
  unfold inR at h
  omega
theorem sh_amt32 {y : Int} (h : inR y) : (((rI y).toBitVec &&& 31#32).toNat) = (y % 32).toNat := by
  show ((BitVec.ofInt 32 y) &&& 31#32).toNat = _
  rw [BitVec.toNat_and, show (31#32 : BitVec 32).toNat = 2 ^ 5 - 1 from rfl, Nat.and_two_pow_sub_one_eq_mod, BitVec.toNat_ofInt]
  unfold inR at h
  omega
theorem rJ_shl (x : BitVec 64) {y : Int} (h : inR y) : rJ x <<< ((rI y).toInt64 &&& 63) = rJ (lShl x y) := by
  have e : ((rI y).toInt64.toBitVec &&& 63#64).toNat < 64 := by rw [sh_amt h]; omega
  show Int64.ofBitVec (x <<< ((((rI y).toInt64.toBitVec &&& 63#64)).smod 64#64)) = _
  rw [sh_smod _ e]
  show Int64.ofBitVec (x <<< ((rI y).toInt64.toBitVec &&& 63#64).toNat) = _
  rw [sh_amt h]
  rfl
theorem rJ_shr (x : BitVec 64) {y : Int} (h : inR y) : rJ x >>> ((rI y).toInt64 &&& 63) = rJ (lShr x y) := by
  have e : ((rI y).toInt64.toBitVec &&& 63#64).toNat < 64 := by rw [sh_amt h]; omega
  show Int64.ofBitVec (x.sshiftRight' ((((rI y).toInt64.toBitVec &&& 63#64)).smod 64#64)) = _
  rw [sh_smod _ e]
  show Int64.ofBitVec (x.sshiftRight ((rI y).toInt64.toBitVec &&& 63#64).toNat) = _
  rw [sh_amt h]
  rfl
theorem rJ_ushr (x : BitVec 64) {y : Int} (h : inR y) : ((rJ x).toUInt64 >>> ((rI y).toInt64.toUInt64 &&& Int64.toUInt64 63)).toInt64 = rJ (lUsh x y) := by
  have e : ((rI y).toInt64.toBitVec &&& 63#64).toNat < 64 := by rw [sh_amt h]; omega
  show Int64.ofBitVec (x >>> (((rI y).toInt64.toBitVec &&& 63#64) % 64#64)) = _
  have e2 : ((rI y).toInt64.toBitVec &&& 63#64) % 64#64 = ((rI y).toInt64.toBitVec &&& 63#64) := by
    apply BitVec.eq_of_toNat_eq
    rw [BitVec.toNat_umod, show (64#64 : BitVec 64).toNat = 64 from rfl]
    exact Nat.mod_eq_of_lt e
  rw [e2]
  show Int64.ofBitVec (x >>> ((rI y).toInt64.toBitVec &&& 63#64).toNat) = _
  rw [sh_amt h]
  rfl
theorem rI_shl {x y : Int} (h : inR y) : rI x <<< (rI y &&& 31) = rI (iShl x y) := by
  have e : ((rI y).toBitVec &&& 31#32).toNat < 32 := by rw [sh_amt32 h]; omega
  show Int32.ofBitVec ((BitVec.ofInt 32 x) <<< ((((rI y).toBitVec &&& 31#32)).smod 32#32)) = _
  rw [sh_smod32 _ e]
  show Int32.ofBitVec ((BitVec.ofInt 32 x) <<< ((rI y).toBitVec &&& 31#32).toNat) = _
  rw [sh_amt32 h]
  unfold iShl
  rw [rI_w32, ← BitVec.mul_twoPow_eq_shiftLeft]
  show _ = Int32.ofBitVec (BitVec.ofInt 32 (x * 2 ^ (y % 32).toNat))
  rw [BitVec.ofInt_mul]
  congr 2
  apply BitVec.eq_of_toNat_eq
  rw [BitVec.toNat_twoPow, BitVec.toNat_ofInt]
  have : ((2 : Int) ^ (y % 32).toNat) = ((2 ^ (y % 32).toNat : Nat) : Int) := by simp
  rw [this]
  omega
theorem iShr_b {x y : Int} (hx : inR x) : ((BitVec.ofInt 32 x).sshiftRight (y % 32).toNat).toInt = iShr x y := by
  rw [BitVec.toInt_sshiftRight, Int.shiftRight_eq_div_pow]
  have : (BitVec.ofInt 32 x).toInt = x := rI_toInt hx
  rw [this]
  unfold iShr
  simp
theorem rI_shr {x y : Int} (hx : inR x) (h : inR y) : rI x >>> (rI y &&& 31) = rI (iShr x y) ∧ inR (iShr x y) := by
  have e : ((rI y).toBitVec &&& 31#32).toNat < 32 := by rw [sh_amt32 h]; omega
  have hb : inR (iShr x y) := by rw [← iShr_b hx]; exact b32_in _
  refine ⟨?_, hb⟩
  show Int32.ofBitVec ((BitVec.ofInt 32 x).sshiftRight' ((((rI y).toBitVec &&& 31#32)).smod 32#32)) = _
  rw [sh_smod32 _ e]
  show Int32.ofBitVec ((BitVec.ofInt 32 x).sshiftRight ((rI y).toBitVec &&& 31#32).toNat) = _
  rw [sh_amt32 h, ← iShr_b hx, rI_b]
theorem nar_byte (x : Int) : vp_nar .byte (rI x) = rI (w8 x) := rI_i2b x
theorem iAnd1 (x : Int) : iAnd x 1 = x % 2 := by
  unfold iAnd b32
  have h : ((BitVec.ofInt 32 x &&& BitVec.ofInt 32 1).toNat) = (x % 2).toNat := by
    rw [BitVec.toNat_and, show (BitVec.ofInt 32 1).toNat = 2 ^ 1 - 1 from rfl, Nat.and_two_pow_sub_one_eq_mod, BitVec.toNat_ofInt]
    omega
  rw [BitVec.toInt_eq_toNat_of_lt (by rw [h]; omega), h]
  omega
theorem nar_bool (x : Int) : vp_nar .boolean (rI x) = rI (x % 2) := by
  show rI x &&& rI 1 = _
  rw [rI_and, iAnd1]
theorem rJ_rem (x y : BitVec 64) : rJ x - rJ x / rJ y * rJ y = rJ (x.srem y) := Int64.toInt_inj.mp (by
  have h1 := BitVec.toInt_lt (x := x.srem y)
  have h2 := BitVec.le_toInt (x.srem y)
  have e : (rJ (x.srem y)).toInt = x.toInt - y.toInt * x.toInt.tdiv y.toInt := by
    show (x.srem y).toInt = _
    rw [BitVec.toInt_srem, Int.tmod_def]
  rw [Int64.toInt_sub, Int64.toInt_mul, Int64.toInt_div, e]
  have hx : (rJ x).toInt = x.toInt := rfl
  have hy : (rJ y).toInt = y.toInt := rfl
  rw [hx, hy, Int.bmod_mul_bmod, Int.sub_bmod_bmod, Int.mul_comm, ← e]
  show (x.srem y).toInt.bmod (2 ^ 64) = (x.srem y).toInt
  rw [Int.bmod_def]
  omega)
