/-! ===== how many bits are set ===== -/
section BCN
theorem lane {a b c d : Nat} (hb : b < 256) (hd : d < 256) : (256 * a + b) &&& (256 * c + d) = 256 * (a &&& c) + (b &&& d) := by
  have bd : b &&& d < 256 := Nat.lt_of_le_of_lt Nat.and_le_left hb
  apply Nat.eq_of_testBit_eq
  intro i
  rw [Nat.testBit_and, show 256 = 2 ^ 8 from rfl, Nat.testBit_two_pow_mul_add a hb, Nat.testBit_two_pow_mul_add c hd, Nat.testBit_two_pow_mul_add (a &&& c) bd]
  split
  · rw [Nat.testBit_and]
  · rw [Nat.testBit_and]
def pA (b : Nat) : Nat := b - (b / 2 &&& 85)
def pB (b : Nat) : Nat := (b &&& 51) + (b / 4 &&& 51)
def pC (b : Nat) : Nat := (b + b / 16) &&& 15
/-- bits of a byte -/
def pp (b : Nat) : Nat := pC (pB (pA b))
theorem k1 : ∀ b : Fin 256, ∀ e : Fin 2, ((b.val / 2 + 128 * e.val) &&& 85) = (b.val / 2 &&& 85) := by decide +kernel
theorem k1' : ∀ b : Fin 256, (b.val / 2 &&& 85) ≤ b.val := by decide +kernel
theorem k2 : ∀ b : Fin 256, ∀ e : Fin 4, ((b.val / 4 + 64 * e.val) &&& 51) = (b.val / 4 &&& 51) := by decide +kernel
theorem k2' : ∀ b : Fin 256, pA b.val < 256 ∧ pB (pA b.val) ≤ 68 ∧ pB (pA b.val) % 16 ≤ 4 := by decide +kernel
theorem k3 : ∀ b : Fin 69, ∀ e : Fin 5, ((b.val + b.val / 16 + 16 * e.val) &&& 15) = pC b.val := by decide +kernel
theorem k3' : ∀ b : Fin 256, pp b.val ≤ 8 := by decide +kernel
/-- the masks -/
def mk85 : Nat → Nat
  | 0 => 0
  | n + 1 => 256 * mk85 n + 85
def mk51 : Nat → Nat
  | 0 => 0
  | n + 1 => 256 * mk51 n + 51
def mk15 : Nat → Nat
  | 0 => 0
  | n + 1 => 256 * mk15 n + 15
/-- f of each byte -/
def byt (f : Nat → Nat) : Nat → Nat → Nat
  | 0, _ => 0
  | n + 1, x => 256 * byt f n (x / 256) + f (x % 256)
theorem half (x : Nat) (n : Nat) : (x / 2) &&& mk85 (n + 1) = 256 * ((x / 256 / 2) &&& mk85 n) + ((x % 256) / 2 &&& 85) := by
  have e : x / 2 = 256 * (x / 256 / 2) + ((x % 256) / 2 + 128 * (x / 256 % 2)) := by omega
  rw [e]
  show (256 * (x / 256 / 2) + ((x % 256) / 2 + 128 * (x / 256 % 2))) &&& (256 * mk85 n + 85) = _
  rw [lane (by omega) (by decide), k1 ⟨x % 256, by omega⟩ ⟨x / 256 % 2, by omega⟩]
theorem stA : ∀ (n x : Nat), x < 256 ^ n → ((x / 2) &&& mk85 n) ≤ x ∧ x - ((x / 2) &&& mk85 n) = byt pA n x := by
  intro n
  induction n with
  | zero =>
    intro x h
    have : x = 0 := by omega
    subst this
    exact ⟨Nat.le_refl _, rfl⟩
  | succ n ih =>
    intro x h
    have h2 : x / 256 < 256 ^ n := by
      rw [Nat.pow_succ] at h
      omega
    obtain ⟨i1, i2⟩ := ih (x / 256) h2
    have l := k1' ⟨x % 256, by omega⟩
    have l : ((x % 256) / 2 &&& 85) ≤ x % 256 := l
    rw [half]
    show _ ∧ _ = 256 * byt pA n (x / 256) + (x % 256 - ((x % 256) / 2 &&& 85))
    rw [← i2]
    omega
theorem byt_d {f : Nat → Nat} (hf : ∀ b, b < 256 → f b < 256) : ∀ (n x : Nat), byt f n x < 256 ^ n := by
  intro n
  induction n with
  | zero => intro x; exact Nat.one_pos
  | succ n ih =>
    intro x
    have := ih (x / 256)
    have := hf (x % 256) (by omega)
    rw [Nat.pow_succ]
    show 256 * byt f n (x / 256) + f (x % 256) < _
    omega
theorem byt_m {f : Nat → Nat} (hf : ∀ b, b < 256 → f b < 256) (n x : Nat) : byt f (n + 1) x % 256 = f (x % 256) ∧ byt f (n + 1) x / 256 = byt f n (x / 256) := by
  have := hf (x % 256) (by omega)
  show (256 * byt f n (x / 256) + f (x % 256)) % 256 = _ ∧ (256 * byt f n (x / 256) + f (x % 256)) / 256 = _
  omega
theorem byt_c {f g : Nat → Nat} (hf : ∀ b, b < 256 → f b < 256) : ∀ (n x : Nat), byt g n (byt f n x) = byt (fun b => g (f b)) n x := by
  intro n
  induction n with
  | zero => intro x; rfl
  | succ n ih =>
    intro x
    obtain ⟨m1, m2⟩ := byt_m hf n x
    show 256 * byt g n (byt f (n + 1) x / 256) + g (byt f (n + 1) x % 256) = 256 * byt (fun b => g (f b)) n (x / 256) + g (f (x % 256))
    rw [m1, m2, ih]
theorem stB : ∀ (n x : Nat), x < 256 ^ n → (x &&& mk51 n) + ((x / 4) &&& mk51 n) = byt pB n x := by
  intro n
  induction n with
  | zero =>
    intro x h
    have : x = 0 := by omega
    subst this
    rfl
  | succ n ih =>
    intro x h
    have h2 : x / 256 < 256 ^ n := by
      rw [Nat.pow_succ] at h
      omega
    have i2 := ih (x / 256) h2
    have e1 : x &&& mk51 (n + 1) = 256 * (x / 256 &&& mk51 n) + (x % 256 &&& 51) := by
      have e : x = 256 * (x / 256) + x % 256 := by omega
      conv => lhs; rw [e]
      show (256 * (x / 256) + x % 256) &&& (256 * mk51 n + 51) = _
      rw [lane (by omega) (by decide)]
    have e2 : (x / 4) &&& mk51 (n + 1) = 256 * (x / 256 / 4 &&& mk51 n) + ((x % 256) / 4 &&& 51) := by
      have e : x / 4 = 256 * (x / 256 / 4) + ((x % 256) / 4 + 64 * (x / 256 % 4)) := by omega
      rw [e]
      show (256 * (x / 256 / 4) + ((x % 256) / 4 + 64 * (x / 256 % 4))) &&& (256 * mk51 n + 51) = _
      rw [lane (by omega) (by decide), k2 ⟨x % 256, by omega⟩ ⟨x / 256 % 4, by omega⟩]
    rw [e1, e2]
    show _ = 256 * byt pB n (x / 256) + ((x % 256 &&& 51) + ((x % 256) / 4 &&& 51))
    rw [← i2]
    omega
theorem bcS : ∀ (n x : Nat), byt (fun b => if b < 256 ∧ b ≤ 68 ∧ b % 16 ≤ 4 then 0 else 1) n x = 0 → x < 256 ^ n → (x + x / 16) &&& mk15 n = byt pC n x := by
  intro n
  induction n with
  | zero =>
    intro x _ h
    have : x = 0 := by omega
    subst this
    rfl
  | succ n ih =>
    intro x g h
    have h2 : x / 256 < 256 ^ n := by
      rw [Nat.pow_succ] at h
      omega
    have g : 256 * byt (fun b => if b < 256 ∧ b ≤ 68 ∧ b % 16 ≤ 4 then 0 else 1) n (x / 256) + (if x % 256 < 256 ∧ x % 256 ≤ 68 ∧ x % 256 % 16 ≤ 4 then 0 else 1) = 0 := g
    have g1 : x % 256 < 256 ∧ x % 256 ≤ 68 ∧ x % 256 % 16 ≤ 4 := by
      refine Classical.byContradiction fun z => ?_
      rw [if_neg z] at g
      omega
    have g0 : byt (fun b => if b < 256 ∧ b ≤ 68 ∧ b % 16 ≤ 4 then 0 else 1) n (x / 256) = 0 := by omega
    have i2 := ih (x / 256) g0 h2
    have lo : x / 256 % 16 ≤ 4 := by
      cases n with
      | zero =>
        have : x / 256 = 0 := by
          have : (256 : Nat) ^ 0 = 1 := rfl
          omega
        omega
      | succ n =>
        have g0 : 256 * byt (fun b => if b < 256 ∧ b ≤ 68 ∧ b % 16 ≤ 4 then 0 else 1) n (x / 256 / 256) + (if x / 256 % 256 < 256 ∧ x / 256 % 256 ≤ 68 ∧ x / 256 % 256 % 16 ≤ 4 then 0 else 1) = 0 := g0
        have : x / 256 % 256 < 256 ∧ x / 256 % 256 ≤ 68 ∧ x / 256 % 256 % 16 ≤ 4 := by
          refine Classical.byContradiction fun z => ?_
          rw [if_neg z] at g0
          omega
        omega
    have e : x + x / 16 = 256 * (x / 256 + x / 256 / 16) + (x % 256 + (x % 256) / 16 + 16 * (x / 256 % 16)) := by omega
    rw [e]
    show (256 * (x / 256 + x / 256 / 16) + (x % 256 + (x % 256) / 16 + 16 * (x / 256 % 16))) &&& (256 * mk15 n + 15) = 256 * byt pC n (x / 256) + pC (x % 256)
    rw [lane (by omega) (by decide), i2, k3 ⟨x % 256, by omega⟩ ⟨x / 256 % 16, by omega⟩]
/-- sum of the bytes -/
def sumB (f : Nat → Nat) : Nat → Nat → Nat
  | 0, _ => 0
  | n + 1, x => f (x % 256) + sumB f n (x / 256)
theorem byt_t {f : Nat → Nat} (hf : ∀ b, b < 256 → f b ≤ 68) : ∀ (n x : Nat), byt f (n + 1) x + 1 ≤ 69 * 256 ^ n := by
  intro n
  induction n with
  | zero =>
    intro x
    have := hf (x % 256) (by omega)
    show 256 * 0 + f (x % 256) + 1 ≤ 69 * 1
    omega
  | succ n ih =>
    intro x
    have i := ih (x / 256)
    have := hf (x % 256) (by omega)
    have pw : (256 : Nat) ^ (n + 1) = 256 * 256 ^ n := by rw [Nat.pow_succ, Nat.mul_comm]
    rw [pw]
    generalize (256 : Nat) ^ n = q at *
    show 256 * byt f (n + 1) (x / 256) + f (x % 256) + 1 ≤ 69 * (256 * q)
    generalize byt f (n + 1) (x / 256) = z at *
    omega
theorem lI127 (x : B64) : iAnd (lI x) 127 = ((x.toNat % 128 : Nat) : Int) := by
  rw [show iAnd (lI x) 127 = lI x % 128 from iAnd_mask (k := 7) (by omega)]
  have h1 := toInt_c x
  have hx := x.isLt
  unfold lI w32
  rw [h1, Int.bmod_def]
  split <;> split <;> omega
theorem bcC_n (x : B64) : (bcC x).toNat = byt pp 8 x.toNat := by
  have lx : x.toNat < 256 ^ 8 := x.isLt
  obtain ⟨a1, a2⟩ := stA 8 x.toNat lx
  have m85 : (iL 6148914691236517205).toNat = mk85 8 := by decide
  have m51 : (iL 3689348814741910323).toNat = mk51 8 := by decide
  have m15 : (iL 1085102592571150095).toNat = mk15 8 := by decide
  have us : ∀ (y : B64) (s : Nat), s < 64 → (lUsh y (s : Int)).toNat = y.toNat / 2 ^ s := fun y s hs => by
    rw [lUsh_k y hs, BitVec.toNat_ushiftRight, Nat.shiftRight_eq_div_pow]
  have fA : ∀ b, b < 256 → pA b < 256 := fun b h => (k2' ⟨b, h⟩).1
  have fB : ∀ b, b < 256 → pB (pA b) < 256 := fun b h => by have := (k2' ⟨b, h⟩).2.1; have : pB (pA b) ≤ 68 := this; omega
  have eX : (bcX x).toNat = byt pA 8 x.toNat := by
    unfold bcX
    have e : (lUsh x 1 &&& iL 6148914691236517205).toNat = (x.toNat / 2) &&& mk85 8 := by
      rw [BitVec.toNat_and, m85]
      have := us x 1 (by decide)
      rw [show lUsh x 1 = lUsh x ((1 : Nat) : Int) from rfl, this]
    rw [BitVec.toNat_sub, e, ← a2]
    have : (x.toNat / 2) &&& mk85 8 ≤ x.toNat := a1
    have l2 : x.toNat < 2 ^ 64 := x.isLt
    omega
  have lA := byt_d fA 8 x.toNat
  have eB : (bcB x).toNat = byt (fun b => pB (pA b)) 8 x.toNat := by
    unfold bcB
    have b := stB 8 (byt pA 8 x.toNat) lA
    rw [byt_c fA] at b
    have e1 : (bcX x &&& iL 3689348814741910323).toNat = byt pA 8 x.toNat &&& mk51 8 := by rw [BitVec.toNat_and, m51, eX]
    have e2 : (lUsh (bcX x) 2 &&& iL 3689348814741910323).toNat = (byt pA 8 x.toNat / 4) &&& mk51 8 := by
      rw [BitVec.toNat_and, m51]
      have := us (bcX x) 2 (by decide)
      rw [show lUsh (bcX x) 2 = lUsh (bcX x) ((2 : Nat) : Int) from rfl, this, eX]
    have lB := byt_d fB 8 x.toNat
    have p8 : (256 : Nat) ^ 8 = 2 ^ 64 := by decide
    rw [BitVec.toNat_add, e1, e2, b]
    exact Nat.mod_eq_of_lt (by omega)
  have sm : byt (fun b => pB (pA b)) 8 x.toNat < 2 ^ 63 := by
    have := byt_t (f := fun b => pB (pA b)) (fun b h => (k2' ⟨b, h⟩).2.1) 7 x.toNat
    have p7 : (256 : Nat) ^ 7 = 72057594037927936 := by decide
    rw [p7] at this
    have h8 : byt (fun b => pB (pA b)) 8 x.toNat = byt (fun b => pB (pA b)) (7 + 1) x.toNat := rfl
    omega
  have eC : (bcB x + lUsh (bcB x) 4).toNat = byt (fun b => pB (pA b)) 8 x.toNat + byt (fun b => pB (pA b)) 8 x.toNat / 16 := by
    have := us (bcB x) 4 (by decide)
    rw [BitVec.toNat_add, show lUsh (bcB x) 4 = lUsh (bcB x) ((4 : Nat) : Int) from rfl, this, eB]
    have e16 : (2 : Nat) ^ 4 = 16 := by decide
    rw [e16]
    exact Nat.mod_eq_of_lt (by omega)
  have z0 : ∀ (n y : Nat), byt (fun b => if b < 256 ∧ b ≤ 68 ∧ b % 16 ≤ 4 then 0 else 1) n (byt (fun b => pB (pA b)) n y) = 0 := by
    intro n
    induction n with
    | zero => intro y; rfl
    | succ n ih =>
      intro y
      obtain ⟨m1, m2⟩ := byt_m fB n y
      show 256 * byt (fun b => if b < 256 ∧ b ≤ 68 ∧ b % 16 ≤ 4 then 0 else 1) n (byt (fun b => pB (pA b)) (n + 1) y / 256) + (if byt (fun b => pB (pA b)) (n + 1) y % 256 < 256 ∧ byt (fun b => pB (pA b)) (n + 1) y % 256 ≤ 68 ∧ byt (fun b => pB (pA b)) (n + 1) y % 256 % 16 ≤ 4 then 0 else 1) = 0
      have kk := k2' ⟨y % 256, by omega⟩
      have kk : pA (y % 256) < 256 ∧ pB (pA (y % 256)) ≤ 68 ∧ pB (pA (y % 256)) % 16 ≤ 4 := kk
      rw [m1, m2, ih, if_pos ⟨by omega, kk.2.1, kk.2.2⟩]
  unfold bcC
  rw [BitVec.toNat_and, m15, eC, bcS 8 _ (z0 8 x.toNat) (byt_d fB 8 x.toNat), byt_c fB]
  rfl
theorem div_sp {n m H L : Nat} (e : n = m * H + L) (h : L < m) : n / m = H := by
  subst e
  rw [Nat.mul_add_div (by omega), Nat.div_eq_of_lt h, Nat.add_zero]
theorem bc_us (y : B64) (s : Nat) (hs : s < 64) : (lUsh y (s : Int)).toNat = y.toNat / 2 ^ s := by
  rw [lUsh_k y hs, BitVec.toNat_ushiftRight, Nat.shiftRight_eq_div_pow]
theorem bq_1 {p0 p1 p2 p3 p4 p5 p6 p7 : Nat} (b0 : p0 ≤ 8) (b1 : p1 ≤ 8) (b2' : p2 ≤ 8) (b3 : p3 ≤ 8) (b4 : p4 ≤ 8) (b5 : p5 ≤ 8) (b6 : p6 ≤ 8) (b7 : p7 ≤ 8) : (256 * (256 * (256 * (256 * (256 * (256 * (256 * (256 * 0 + p7) + p6) + p5) + p4) + p3) + p2) + p1) + p0) / 256 = 256 * (256 * (256 * (256 * (256 * (256 * p7 + p6) + p5) + p4) + p3) + p2) + p1 := div_sp (L := p0) (by omega) (by omega)
theorem bq_2 {p0 p1 p2 p3 p4 p5 p6 p7 : Nat} (b0 : p0 ≤ 8) (b1 : p1 ≤ 8) (b2' : p2 ≤ 8) (b3 : p3 ≤ 8) (b4 : p4 ≤ 8) (b5 : p5 ≤ 8) (b6 : p6 ≤ 8) (b7 : p7 ≤ 8) : (256 * (256 * (256 * (256 * (256 * (256 * (256 * (256 * 0 + p7) + p6) + p5) + p4) + p3) + p2) + p1) + p0) + (256 * (256 * (256 * (256 * (256 * (256 * p7 + p6) + p5) + p4) + p3) + p2) + p1) = 256 * (256 * (256 * (256 * (256 * (256 * (256 * p7 + (p6 + p7)) + (p5 + p6)) + (p4 + p5)) + (p3 + p4)) + (p2 + p3)) + (p1 + p2)) + (p0 + p1) := by omega
theorem bq_3 {p0 p1 p2 p3 p4 p5 p6 p7 : Nat} (b0 : p0 ≤ 8) (b1 : p1 ≤ 8) (b2' : p2 ≤ 8) (b3 : p3 ≤ 8) (b4 : p4 ≤ 8) (b5 : p5 ≤ 8) (b6 : p6 ≤ 8) (b7 : p7 ≤ 8) : (256 * (256 * (256 * (256 * (256 * (256 * (256 * p7 + (p6 + p7)) + (p5 + p6)) + (p4 + p5)) + (p3 + p4)) + (p2 + p3)) + (p1 + p2)) + (p0 + p1)) < 2 ^ 64 := by omega
theorem bq_4 {p0 p1 p2 p3 p4 p5 p6 p7 : Nat} (b0 : p0 ≤ 8) (b1 : p1 ≤ 8) (b2' : p2 ≤ 8) (b3 : p3 ≤ 8) (b4 : p4 ≤ 8) (b5 : p5 ≤ 8) (b6 : p6 ≤ 8) (b7 : p7 ≤ 8) : (256 * (256 * (256 * (256 * (256 * (256 * (256 * p7 + (p6 + p7)) + (p5 + p6)) + (p4 + p5)) + (p3 + p4)) + (p2 + p3)) + (p1 + p2)) + (p0 + p1)) / 65536 = 256 * (256 * (256 * (256 * (256 * p7 + (p6 + p7)) + (p5 + p6)) + (p4 + p5)) + (p3 + p4)) + (p2 + p3) := div_sp (L := 256 * (p1 + p2) + (p0 + p1)) (by omega) (by omega)
theorem bq_5 {p0 p1 p2 p3 p4 p5 p6 p7 : Nat} (b0 : p0 ≤ 8) (b1 : p1 ≤ 8) (b2' : p2 ≤ 8) (b3 : p3 ≤ 8) (b4 : p4 ≤ 8) (b5 : p5 ≤ 8) (b6 : p6 ≤ 8) (b7 : p7 ≤ 8) : (256 * (256 * (256 * (256 * (256 * (256 * (256 * p7 + (p6 + p7)) + (p5 + p6)) + (p4 + p5)) + (p3 + p4)) + (p2 + p3)) + (p1 + p2)) + (p0 + p1)) + (256 * (256 * (256 * (256 * (256 * p7 + (p6 + p7)) + (p5 + p6)) + (p4 + p5)) + (p3 + p4)) + (p2 + p3)) = 256 * (256 * (256 * (256 * (256 * (256 * (256 * p7 + (p6 + p7)) + (p5 + p6 + p7)) + (p4 + p5 + p6 + p7)) + (p3 + p4 + p5 + p6)) + (p2 + p3 + p4 + p5)) + (p1 + p2 + p3 + p4)) + (p0 + p1 + p2 + p3) := by omega
theorem bq_6 {p0 p1 p2 p3 p4 p5 p6 p7 : Nat} (b0 : p0 ≤ 8) (b1 : p1 ≤ 8) (b2' : p2 ≤ 8) (b3 : p3 ≤ 8) (b4 : p4 ≤ 8) (b5 : p5 ≤ 8) (b6 : p6 ≤ 8) (b7 : p7 ≤ 8) : (256 * (256 * (256 * (256 * (256 * (256 * (256 * p7 + (p6 + p7)) + (p5 + p6 + p7)) + (p4 + p5 + p6 + p7)) + (p3 + p4 + p5 + p6)) + (p2 + p3 + p4 + p5)) + (p1 + p2 + p3 + p4)) + (p0 + p1 + p2 + p3)) < 2 ^ 64 := by omega
theorem bq_7 {p0 p1 p2 p3 p4 p5 p6 p7 : Nat} (b0 : p0 ≤ 8) (b1 : p1 ≤ 8) (b2' : p2 ≤ 8) (b3 : p3 ≤ 8) (b4 : p4 ≤ 8) (b5 : p5 ≤ 8) (b6 : p6 ≤ 8) (b7 : p7 ≤ 8) : (256 * (256 * (256 * (256 * (256 * (256 * (256 * p7 + (p6 + p7)) + (p5 + p6 + p7)) + (p4 + p5 + p6 + p7)) + (p3 + p4 + p5 + p6)) + (p2 + p3 + p4 + p5)) + (p1 + p2 + p3 + p4)) + (p0 + p1 + p2 + p3)) / 4294967296 = 256 * (256 * (256 * p7 + (p6 + p7)) + (p5 + p6 + p7)) + (p4 + p5 + p6 + p7) := div_sp (L := 256 * (256 * (256 * (p3 + p4 + p5 + p6) + (p2 + p3 + p4 + p5)) + (p1 + p2 + p3 + p4)) + (p0 + p1 + p2 + p3)) (by omega) (by omega)
theorem bq_8 {p0 p1 p2 p3 p4 p5 p6 p7 : Nat} (b0 : p0 ≤ 8) (b1 : p1 ≤ 8) (b2' : p2 ≤ 8) (b3 : p3 ≤ 8) (b4 : p4 ≤ 8) (b5 : p5 ≤ 8) (b6 : p6 ≤ 8) (b7 : p7 ≤ 8) : (256 * (256 * (256 * (256 * (256 * (256 * (256 * p7 + (p6 + p7)) + (p5 + p6 + p7)) + (p4 + p5 + p6 + p7)) + (p3 + p4 + p5 + p6)) + (p2 + p3 + p4 + p5)) + (p1 + p2 + p3 + p4)) + (p0 + p1 + p2 + p3)) + (256 * (256 * (256 * p7 + (p6 + p7)) + (p5 + p6 + p7)) + (p4 + p5 + p6 + p7)) < 2 ^ 64 := by omega
theorem bq_9 {p0 p1 p2 p3 p4 p5 p6 p7 : Nat} (b0 : p0 ≤ 8) (b1 : p1 ≤ 8) (b2' : p2 ≤ 8) (b3 : p3 ≤ 8) (b4 : p4 ≤ 8) (b5 : p5 ≤ 8) (b6 : p6 ≤ 8) (b7 : p7 ≤ 8) : ((256 * (256 * (256 * (256 * (256 * (256 * (256 * p7 + (p6 + p7)) + (p5 + p6 + p7)) + (p4 + p5 + p6 + p7)) + (p3 + p4 + p5 + p6)) + (p2 + p3 + p4 + p5)) + (p1 + p2 + p3 + p4)) + (p0 + p1 + p2 + p3)) + (256 * (256 * (256 * p7 + (p6 + p7)) + (p5 + p6 + p7)) + (p4 + p5 + p6 + p7))) % 128 = p0 + p1 + p2 + p3 + p4 + p5 + p6 + p7 := by omega
theorem bcD_b {x : B64} {p0 p1 p2 p3 p4 p5 p6 p7 : Nat} (b0 : p0 ≤ 8) (b1 : p1 ≤ 8) (b2' : p2 ≤ 8) (b3 : p3 ≤ 8) (b4 : p4 ≤ 8) (b5 : p5 ≤ 8) (b6 : p6 ≤ 8) (b7 : p7 ≤ 8) (c : (bcC x).toNat = 256 * (256 * (256 * (256 * (256 * (256 * (256 * (256 * 0 + p7) + p6) + p5) + p4) + p3) + p2) + p1) + p0) : (bcD x).toNat = 256 * (256 * (256 * (256 * (256 * (256 * (256 * p7 + (p6 + p7)) + (p5 + p6)) + (p4 + p5)) + (p3 + p4)) + (p2 + p3)) + (p1 + p2)) + (p0 + p1) := by
  unfold bcD
  have u := bc_us (bcC x) 8 (by decide)
  rw [show (2 : Nat) ^ 8 = 256 by decide] at u
  rw [BitVec.toNat_add, show lUsh (bcC x) 8 = lUsh (bcC x) ((8 : Nat) : Int) from rfl, u, c, bq_1 b0 b1 b2' b3 b4 b5 b6 b7, bq_2 b0 b1 b2' b3 b4 b5 b6 b7]
  exact Nat.mod_eq_of_lt (bq_3 b0 b1 b2' b3 b4 b5 b6 b7)
theorem bcE_b {x : B64} {p0 p1 p2 p3 p4 p5 p6 p7 : Nat} (b0 : p0 ≤ 8) (b1 : p1 ≤ 8) (b2' : p2 ≤ 8) (b3 : p3 ≤ 8) (b4 : p4 ≤ 8) (b5 : p5 ≤ 8) (b6 : p6 ≤ 8) (b7 : p7 ≤ 8) (c : (bcC x).toNat = 256 * (256 * (256 * (256 * (256 * (256 * (256 * (256 * 0 + p7) + p6) + p5) + p4) + p3) + p2) + p1) + p0) : (bcE x).toNat = 256 * (256 * (256 * (256 * (256 * (256 * (256 * p7 + (p6 + p7)) + (p5 + p6 + p7)) + (p4 + p5 + p6 + p7)) + (p3 + p4 + p5 + p6)) + (p2 + p3 + p4 + p5)) + (p1 + p2 + p3 + p4)) + (p0 + p1 + p2 + p3) := by
  unfold bcE
  have u := bc_us (bcD x) 16 (by decide)
  rw [show (2 : Nat) ^ 16 = 65536 by decide] at u
  rw [BitVec.toNat_add, show lUsh (bcD x) 16 = lUsh (bcD x) ((16 : Nat) : Int) from rfl, u, bcD_b b0 b1 b2' b3 b4 b5 b6 b7 c, bq_4 b0 b1 b2' b3 b4 b5 b6 b7, bq_5 b0 b1 b2' b3 b4 b5 b6 b7]
  exact Nat.mod_eq_of_lt (bq_6 b0 b1 b2' b3 b4 b5 b6 b7)
theorem bcG_b {x : B64} {p0 p1 p2 p3 p4 p5 p6 p7 : Nat} (b0 : p0 ≤ 8) (b1 : p1 ≤ 8) (b2' : p2 ≤ 8) (b3 : p3 ≤ 8) (b4 : p4 ≤ 8) (b5 : p5 ≤ 8) (b6 : p6 ≤ 8) (b7 : p7 ≤ 8) (c : (bcC x).toNat = 256 * (256 * (256 * (256 * (256 * (256 * (256 * (256 * 0 + p7) + p6) + p5) + p4) + p3) + p2) + p1) + p0) : (bcE x + lUsh (bcE x) 32).toNat % 128 = p0 + p1 + p2 + p3 + p4 + p5 + p6 + p7 := by
  have u := bc_us (bcE x) 32 (by decide)
  rw [show (2 : Nat) ^ 32 = 4294967296 by decide] at u
  rw [BitVec.toNat_add, show lUsh (bcE x) 32 = lUsh (bcE x) ((32 : Nat) : Int) from rfl, u, bcE_b b0 b1 b2' b3 b4 b5 b6 b7 c, bq_7 b0 b1 b2' b3 b4 b5 b6 b7, Nat.mod_eq_of_lt (bq_8 b0 b1 b2' b3 b4 b5 b6 b7)]
  exact bq_9 b0 b1 b2' b3 b4 b5 b6 b7
theorem bcF_b (x : B64) : ∃ p0 p1 p2 p3 p4 p5 p6 p7 : Nat, bcF x = ((p0 + p1 + p2 + p3 + p4 + p5 + p6 + p7 : Nat) : Int) ∧ (p0 = pp (x.toNat % 256) ∧ p1 = pp (x.toNat / 256 % 256) ∧ p2 = pp (x.toNat / 256 / 256 % 256) ∧ p3 = pp (x.toNat / 256 / 256 / 256 % 256) ∧ p4 = pp (x.toNat / 256 / 256 / 256 / 256 % 256) ∧ p5 = pp (x.toNat / 256 / 256 / 256 / 256 / 256 % 256) ∧ p6 = pp (x.toNat / 256 / 256 / 256 / 256 / 256 / 256 % 256) ∧ p7 = pp (x.toNat / 256 / 256 / 256 / 256 / 256 / 256 / 256 % 256)) := by
  refine ⟨_, _, _, _, _, _, _, _, ?_, rfl, rfl, rfl, rfl, rfl, rfl, rfl, rfl⟩
  have c := bcC_n x
  have u : byt pp 8 x.toNat = 256 * (256 * (256 * (256 * (256 * (256 * (256 * (256 * 0 + pp (x.toNat / 256 / 256 / 256 / 256 / 256 / 256 / 256 % 256)) + pp (x.toNat / 256 / 256 / 256 / 256 / 256 / 256 % 256)) + pp (x.toNat / 256 / 256 / 256 / 256 / 256 % 256)) + pp (x.toNat / 256 / 256 / 256 / 256 % 256)) + pp (x.toNat / 256 / 256 / 256 % 256)) + pp (x.toNat / 256 / 256 % 256)) + pp (x.toNat / 256 % 256)) + pp (x.toNat % 256) := rfl
  rw [u] at c
  have b : ∀ z : Nat, pp (z % 256) ≤ 8 := fun z => k3' ⟨z % 256, by omega⟩
  have b0 := b x.toNat
  have b1 := b (x.toNat / 256)
  have b2' := b (x.toNat / 256 / 256)
  have b3 := b (x.toNat / 256 / 256 / 256)
  have b4 := b (x.toNat / 256 / 256 / 256 / 256)
  have b5 := b (x.toNat / 256 / 256 / 256 / 256 / 256)
  have b6 := b (x.toNat / 256 / 256 / 256 / 256 / 256 / 256)
  have b7 := b (x.toNat / 256 / 256 / 256 / 256 / 256 / 256 / 256)
  generalize pp (x.toNat % 256) = p0 at *
  generalize pp (x.toNat / 256 % 256) = p1 at *
  generalize pp (x.toNat / 256 / 256 % 256) = p2 at *
  generalize pp (x.toNat / 256 / 256 / 256 % 256) = p3 at *
  generalize pp (x.toNat / 256 / 256 / 256 / 256 % 256) = p4 at *
  generalize pp (x.toNat / 256 / 256 / 256 / 256 / 256 % 256) = p5 at *
  generalize pp (x.toNat / 256 / 256 / 256 / 256 / 256 / 256 % 256) = p6 at *
  generalize pp (x.toNat / 256 / 256 / 256 / 256 / 256 / 256 / 256 % 256) = p7 at *
  unfold bcF
  rw [lI127, bcG_b b0 b1 b2' b3 b4 b5 b6 b7 c]
theorem ppz : ∀ b : Fin 256, pp b.val = 0 → b.val = 0 := by decide +kernel
theorem ppo : ∀ b : Fin 256, pp b.val = 1 → ∃ j : Fin 8, b.val = 2 ^ j.val := by decide +kernel
theorem pw_and : ∀ n : Fin 64, BitVec.ofNat 64 (2 ^ n.val) &&& (BitVec.ofNat 64 (2 ^ n.val) - 1#64) = 0#64 := by decide +kernel
theorem bc_one {d : B64} (h : bcF d = 1) : d &&& (d - 1#64) = 0#64 := by
  obtain ⟨p0, p1, p2, p3, p4, p5, p6, p7, hs, e0, e1, e2, e3, e4, e5, e6, e7⟩ := bcF_b d
  rw [hs] at h
  have l : d.toNat < 2 ^ 64 := d.isLt
  have z : ∀ y : Nat, pp (y % 256) = 0 → y % 256 = 0 := fun y h => ppz ⟨y % 256, by omega⟩ h
  have o : ∀ y : Nat, pp (y % 256) = 1 → ∃ j : Nat, j < 8 ∧ y % 256 = 2 ^ j := fun y h => by
    obtain ⟨j, hj⟩ := ppo ⟨y % 256, by omega⟩ h
    exact ⟨j.val, j.isLt, hj⟩
  have fin : ∀ k j : Nat, k < 8 → j < 8 → d.toNat = 256 ^ k * 2 ^ j → d &&& (d - 1#64) = 0#64 := fun k j hk hj e => by
    have e' : d = BitVec.ofNat 64 (2 ^ (8 * k + j)) := by
      apply BitVec.eq_of_toNat_eq
      rw [BitVec.toNat_ofNat, e, Nat.pow_add, Nat.pow_mul]
      have : (2 : Nat) ^ 8 = 256 := by decide
      rw [this, ← e]
      exact (Nat.mod_eq_of_lt l).symm
    rw [e']
    exact pw_and ⟨8 * k + j, by omega⟩
  generalize hn : d.toNat = n at *
  have c : p0 = 1 ∨ p1 = 1 ∨ p2 = 1 ∨ p3 = 1 ∨ p4 = 1 ∨ p5 = 1 ∨ p6 = 1 ∨ p7 = 1 := by omega
  have zz : ∀ p y : Nat, p = pp (y % 256) → p = 0 → y % 256 = 0 := fun p y h1 h2 => z y (by omega)
  have oo : ∀ p y : Nat, p = pp (y % 256) → p = 1 → ∃ j : Nat, j < 8 ∧ y % 256 = 2 ^ j := fun p y h1 h2 => o y (by omega)
  rcases c with c | c | c | c | c | c | c | c
  · obtain ⟨j, hj, q⟩ := oo _ _ e0 c
    have := zz _ _ e1 (by omega)
    have := zz _ _ e2 (by omega)
    have := zz _ _ e3 (by omega)
    have := zz _ _ e4 (by omega)
    have := zz _ _ e5 (by omega)
    have := zz _ _ e6 (by omega)
    have := zz _ _ e7 (by omega)
    refine fin 0 j (by decide) hj ?_
    rw [← q]
    omega
  · obtain ⟨j, hj, q⟩ := oo _ _ e1 c
    have := zz _ _ e0 (by omega)
    have := zz _ _ e2 (by omega)
    have := zz _ _ e3 (by omega)
    have := zz _ _ e4 (by omega)
    have := zz _ _ e5 (by omega)
    have := zz _ _ e6 (by omega)
    have := zz _ _ e7 (by omega)
    refine fin 1 j (by decide) hj ?_
    rw [← q]
    omega
  · obtain ⟨j, hj, q⟩ := oo _ _ e2 c
    have := zz _ _ e0 (by omega)
    have := zz _ _ e1 (by omega)
    have := zz _ _ e3 (by omega)
    have := zz _ _ e4 (by omega)
    have := zz _ _ e5 (by omega)
    have := zz _ _ e6 (by omega)
    have := zz _ _ e7 (by omega)
    refine fin 2 j (by decide) hj ?_
    rw [← q]
    omega
  · obtain ⟨j, hj, q⟩ := oo _ _ e3 c
    have := zz _ _ e0 (by omega)
    have := zz _ _ e1 (by omega)
    have := zz _ _ e2 (by omega)
    have := zz _ _ e4 (by omega)
    have := zz _ _ e5 (by omega)
    have := zz _ _ e6 (by omega)
    have := zz _ _ e7 (by omega)
    refine fin 3 j (by decide) hj ?_
    rw [← q]
    omega
  · obtain ⟨j, hj, q⟩ := oo _ _ e4 c
    have := zz _ _ e0 (by omega)
    have := zz _ _ e1 (by omega)
    have := zz _ _ e2 (by omega)
    have := zz _ _ e3 (by omega)
    have := zz _ _ e5 (by omega)
    have := zz _ _ e6 (by omega)
    have := zz _ _ e7 (by omega)
    refine fin 4 j (by decide) hj ?_
    rw [← q]
    omega
  · obtain ⟨j, hj, q⟩ := oo _ _ e5 c
    have := zz _ _ e0 (by omega)
    have := zz _ _ e1 (by omega)
    have := zz _ _ e2 (by omega)
    have := zz _ _ e3 (by omega)
    have := zz _ _ e4 (by omega)
    have := zz _ _ e6 (by omega)
    have := zz _ _ e7 (by omega)
    refine fin 5 j (by decide) hj ?_
    rw [← q]
    omega
  · obtain ⟨j, hj, q⟩ := oo _ _ e6 c
    have := zz _ _ e0 (by omega)
    have := zz _ _ e1 (by omega)
    have := zz _ _ e2 (by omega)
    have := zz _ _ e3 (by omega)
    have := zz _ _ e4 (by omega)
    have := zz _ _ e5 (by omega)
    have := zz _ _ e7 (by omega)
    refine fin 6 j (by decide) hj ?_
    rw [← q]
    omega
  · obtain ⟨j, hj, q⟩ := oo _ _ e7 c
    have := zz _ _ e0 (by omega)
    have := zz _ _ e1 (by omega)
    have := zz _ _ e2 (by omega)
    have := zz _ _ e3 (by omega)
    have := zz _ _ e4 (by omega)
    have := zz _ _ e5 (by omega)
    have := zz _ _ e6 (by omega)
    refine fin 7 j (by decide) hj ?_
    rw [← q]
    omega
theorem bc_pow {d : B64} (h : d &&& (d - 1#64) = 0#64) (h0 : ¬ d = 0#64) : bcF d = 1 := by
  have m : d &&& (-d) = d := by
    have e : -d = ~~~ (d - 1#64) := by
      rw [BitVec.neg_eq_not_add]
      apply BitVec.eq_of_toNat_eq
      rw [BitVec.toNat_add, BitVec.toNat_not, BitVec.toNat_not, BitVec.toNat_sub]
      have := d.isLt
      have : 0 < d.toNat := by
        refine Nat.pos_of_ne_zero fun z => h0 ?_
        exact BitVec.eq_of_toNat_eq z
      show (2 ^ 64 - 1 - d.toNat + 1) % 2 ^ 64 = 2 ^ 64 - 1 - (2 ^ 64 - 1 + d.toNat) % 2 ^ 64
      omega
    rw [e]
    exact and_not h
  have l := low_mask d
  rw [m] at l
  have lz := lowZ_le d
  have e : d = BitVec.ofNat 64 (2 ^ lowZ d) := by
    have e1 : d = (d - 1#64) + 1#64 := by rw [BitVec.sub_add_cancel]
    rw [l] at e1
    refine e1.trans ?_
    have p : 0 < 2 ^ lowZ d := Nat.two_pow_pos _
    generalize 2 ^ lowZ d = N at p ⊢
    apply BitVec.eq_of_toNat_eq
    simp only [BitVec.toNat_add, BitVec.toNat_ofNat]
    omega
  have a := List.all_eq_true.mp bc_one_all (lowZ d) (List.mem_range.mpr (by omega))
  have a := of_decide_eq_true a
  rw [← e] at a
  by_cases z : lowZ d = 64
  · exfalso
    rw [z] at e
    exact h0 (e.trans (by decide))
  · rw [if_neg z] at a
    exact a
end BCN
