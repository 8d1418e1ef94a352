/-! ===== an operation's number, and what the judge makes of it ===== -/
/-- what an operation makes (W: of numbers that are cut, and is cut by who asks) -/
def reck (c off : Int) (w : Bool) (a b : B64) : B64 :=
  if c = 0 then a + b
  else if c = 16 then a - b
  else if c = 32 then a * b
  else if c = 48 then (if off = 1 then (if w = true then a else sxt 32 a).sdiv (if w = true then b else sxt 32 b) else a / b)
  else if c = 64 then a ||| b
  else if c = 80 then a &&& b
  else if c = 96 then a <<< (b.toNat % (if w = true then 64 else 32))
  else if c = 112 then a >>> (b.toNat % (if w = true then 64 else 32))
  else if c = 144 then (if off = 1 then (if w = true then a else sxt 32 a).srem (if w = true then b else sxt 32 b) else a % b)
  else if c = 160 then a ^^^ b
  else (if w = true then a else sxt 32 a).sshiftRight (b.toNat % (if w = true then 64 else 32))
def opN (c off : Int) (x y : N6) : N6 :=
  if c = 0 then tdN (addN x y)
  else if c = 16 then tdN (subN x y)
  else if c = 32 then tdN (mulN x y)
  else if c = 48 ∨ c = 144 then (if off = 1 then (if isC x ∧ isC y then cstN (reck c off true (jV x) (jV y)) else anyN) else if c = 48 then tdN (divN x y) else tdN (remN x y))
  else if c = 64 then tdN (orN x y)
  else if c = 80 then tdN (andN x y)
  else if c = 160 then tdN (xorN x y)
  else if c = 96 then (if isC y then tdN (shlN x ((jV y).toNat % 64)) else anyN)
  else if c = 112 then (if isC y then tdN (shrN x ((jV y).toNat % 64)) else tdN (shrA x))
  else (if isC y then tdN (sarN x ((jV y).toNat % 64)) else tdN (sarA x))
abbrev isCode (c : Int) : Prop := c = 0 ∨ c = 16 ∨ c = 32 ∨ c = 48 ∨ c = 64 ∨ c = 80 ∨ c = 96 ∨ c = 112 ∨ c = 144 ∨ c = 160 ∨ c = 192
/-- n stands for numbers that are good, a is one -/
abbrev inN (n : N6) (a : B64) : Prop := okN n ∧ gN n a
theorem inN_td {n : N6} {a : B64} (h : inN n a) : inN (tdN n) a := ⟨okN_td h.1, (gN_td h.2 h.1).1⟩
theorem inN_cst (c : B64) : inN (cstN c) c := ⟨okN_cst c, gN_cst c⟩
theorem inN_any (a : B64) : inN anyN a := ⟨okN_any, gN_any a⟩
theorem inN_op {c off : Int} {x y : N6} {a b : B64} (hc : isCode c) (hx : inN x a) (hy : inN y b) : inN (opN c off x y) (reck c off true a b) := by
  have cx : isC x → a = jV x := gN_const hx.2
  have cy : isC y → b = jV y := gN_const hy.2
  rcases hc with rfl | rfl | rfl | rfl | rfl | rfl | rfl | rfl | rfl | rfl | rfl
  · exact inN_td ⟨okN_add x y, gN_add hx.1 hy.1 hx.2 hy.2⟩
  · exact inN_td ⟨okN_sub x y, gN_sub hx.1 hy.1 hx.2 hy.2⟩
  · exact inN_td ⟨okN_mul x y, gN_mul hx.2 hy.2⟩
  · show inN (if off = 1 then (if isC x ∧ isC y then cstN (reck 48 off true (jV x) (jV y)) else anyN) else tdN (divN x y)) (if off = 1 then a.sdiv b else a / b)
    by_cases h : off = 1
    · rw [if_pos h, if_pos h]
      split
      · rename_i q
        rw [cx q.1, cy q.2]
        have e : reck 48 off true (jV x) (jV y) = (jV x).sdiv (jV y) := by subst h; rfl
        rw [e]
        exact inN_cst _
      · exact inN_any _
    · rw [if_neg h, if_neg h]
      exact inN_td ⟨okN_div x y, gN_div hx.2 hy.2⟩
  · exact inN_td ⟨okN_or x y, gN_or hx.1 hy.1 hx.2 hy.2⟩
  · exact inN_td ⟨okN_and x y, gN_and hx.1 hy.1 hx.2 hy.2⟩
  · show inN (if isC y then tdN (shlN x ((jV y).toNat % 64)) else anyN) (a <<< (b.toNat % 64))
    split
    · rename_i q
      rw [cy q]
      exact inN_td ⟨okN_shl hx.1 _, gN_shl hx.2 _⟩
    · exact inN_any _
  · show inN (if isC y then tdN (shrN x ((jV y).toNat % 64)) else tdN (shrA x)) (a >>> (b.toNat % 64))
    split
    · rename_i q
      rw [cy q]
      exact inN_td ⟨okN_shr hx.1 _, gN_shr hx.2 _⟩
    · exact inN_td ⟨dis_0 _, gN_shrA hx.2 _⟩
  · show inN (if off = 1 then (if isC x ∧ isC y then cstN (reck 144 off true (jV x) (jV y)) else anyN) else tdN (remN x y)) (if off = 1 then a.srem b else a % b)
    by_cases h : off = 1
    · rw [if_pos h, if_pos h]
      split
      · rename_i q
        rw [cx q.1, cy q.2]
        have e : reck 144 off true (jV x) (jV y) = (jV x).srem (jV y) := by subst h; rfl
        rw [e]
        exact inN_cst _
      · exact inN_any _
    · rw [if_neg h, if_neg h]
      exact inN_td ⟨okN_rem x y, gN_rem hx.2 hy.2⟩
  · exact inN_td ⟨okN_xor x y, gN_xor hx.2 hy.2⟩
  · show inN (if isC y then tdN (sarN x ((jV y).toNat % 64)) else tdN (sarA x)) (a.sshiftRight (b.toNat % 64))
    split
    · rename_i q
      rw [cy q]
      exact inN_td ⟨okN_sar hx.1 _, gN_sar hx.2 _⟩
    · exact inN_td ⟨dis_0 _, gN_sarA hx.2 _⟩
/-- CUT, tidied -/
def cutT (x : N6) : N6 := tdN (cutN x)
theorem inN_cut {x : N6} {a : B64} (h : inN x a) : inN (cutT x) (a &&& cF) := inN_td ⟨okN_cut h.1, gN_cut h.2⟩
theorem inN_wide {n : Nat} {x : B64} (h : x.toNat < 2 ^ (8 * n)) : inN (wideN n) x := ⟨okN_wide n, gN_wide h⟩
theorem inN_w4 (x : B64) : inN (wideN 4) (x &&& cF) := inN_wide (by
  rw [low32]
  have : 2 ^ (8 * 4) = 4294967296 := by decide
  omega)
/-- a W operation -/
def opW (c off : Int) (x y : N6) : N6 :=
  if c = 192 ∨ off = 1 then (if isC (cutT x) ∧ isC (cutT y) then cstN (reck c off false (jV (cutT x)) (jV (cutT y)) &&& cF) else wideN 4)
  else cutT (opN c 0 (cutT x) (if (c = 96 ∨ c = 112) ∧ isC (cutT y) then cstN (jV (cutT y) &&& 31#64) else cutT y))
theorem and31 (b : B64) : (b &&& 31#64).toNat = b.toNat % 32 := by
  rw [BitVec.toNat_and, show (31#64).toNat = 2 ^ 5 - 1 from rfl, Nat.and_two_pow_sub_one_eq_mod]
theorem inN_opW {c off : Int} {x y : N6} {a b : B64} (hc : isCode c) (hx : inN x a) (hy : inN y b) : inN (opW c off x y) (reck c off false (a &&& cF) (b &&& cF) &&& cF) := by
  have X := inN_cut hx
  have Y := inN_cut hy
  have cx : isC (cutT x) → a &&& cF = jV (cutT x) := gN_const X.2
  have cy : isC (cutT y) → b &&& cF = jV (cutT y) := gN_const Y.2
  unfold opW
  split
  · split
    · rename_i q
      rw [cx q.1, cy q.2]
      exact inN_cst _
    · exact inN_w4 _
  · rename_i h0
    have h1 : ¬ c = 192 := fun e => h0 (Or.inl e)
    have h2 : ¬ off = 1 := fun e => h0 (Or.inr e)
    generalize a &&& cF = a' at *
    generalize b &&& cF = b' at *
    generalize cutT x = x at *
    generalize cutT y = y at *
    have triv : ∀ c', isCode c' → ¬ (c' = 96 ∨ c' = 112) → reck c' off false a' b' = reck c' 0 true a' b' → inN (opN c' 0 x (if (c' = 96 ∨ c' = 112) ∧ isC y then cstN (jV y &&& 31#64) else y)) (reck c' off false a' b') := fun c' h q e => by
      rw [if_neg (fun k => q k.1), e]
      exact inN_op h X Y
    refine inN_cut (x := opN c 0 x _) ?_
    rcases hc with rfl | rfl | rfl | rfl | rfl | rfl | rfl | rfl | rfl | rfl | rfl
    · exact triv 0 (by decide) (by decide) (by simp only [reck, if_pos])
    · exact triv 16 (by decide) (by decide) (by simp [reck])
    · exact triv 32 (by decide) (by decide) (by simp [reck])
    · exact triv 48 (by decide) (by decide) (by simp [reck, h2])
    · exact triv 64 (by decide) (by decide) (by simp [reck])
    · exact triv 80 (by decide) (by decide) (by simp [reck])
    · show inN _ (a' <<< (b'.toNat % 32))
      by_cases q : isC y
      · have eY : (if ((96 : Int) = 96 ∨ (96 : Int) = 112) ∧ isC y then cstN (jV y &&& 31#64) else y) = cstN (jV y &&& 31#64) := if_pos ⟨Or.inl rfl, q⟩
        rw [eY]
        have e : (jV (cstN (jV y &&& 31#64))).toNat % 64 = b'.toNat % 32 := by
          show (jV y &&& 31#64).toNat % 64 = _
          rw [and31, ← cy q]
          omega
        show inN (if isC (cstN (jV y &&& 31#64)) then tdN (shlN x ((jV (cstN (jV y &&& 31#64))).toNat % 64)) else anyN) _
        rw [if_pos (show isC (cstN (jV y &&& 31#64)) from rfl), e]
        exact inN_td ⟨okN_shl X.1 _, gN_shl X.2 _⟩
      · have eY : (if ((96 : Int) = 96 ∨ (96 : Int) = 112) ∧ isC y then cstN (jV y &&& 31#64) else y) = y := if_neg (fun k => q k.2)
        rw [eY]
        show inN (if isC y then tdN (shlN x ((jV y).toNat % 64)) else anyN) _
        rw [if_neg q]
        exact inN_any _
    · show inN _ (a' >>> (b'.toNat % 32))
      by_cases q : isC y
      · have eY : (if ((112 : Int) = 96 ∨ (112 : Int) = 112) ∧ isC y then cstN (jV y &&& 31#64) else y) = cstN (jV y &&& 31#64) := if_pos ⟨Or.inr rfl, q⟩
        rw [eY]
        have e : (jV (cstN (jV y &&& 31#64))).toNat % 64 = b'.toNat % 32 := by
          show (jV y &&& 31#64).toNat % 64 = _
          rw [and31, ← cy q]
          omega
        show inN (if isC (cstN (jV y &&& 31#64)) then tdN (shrN x ((jV (cstN (jV y &&& 31#64))).toNat % 64)) else tdN (shrA x)) _
        rw [if_pos (show isC (cstN (jV y &&& 31#64)) from rfl), e]
        exact inN_td ⟨okN_shr X.1 _, gN_shr X.2 _⟩
      · have eY : (if ((112 : Int) = 96 ∨ (112 : Int) = 112) ∧ isC y then cstN (jV y &&& 31#64) else y) = y := if_neg (fun k => q k.2)
        rw [eY]
        show inN (if isC y then tdN (shrN x ((jV y).toNat % 64)) else tdN (shrA x)) _
        rw [if_neg q]
        exact inN_td ⟨dis_0 _, gN_shrA X.2 _⟩
    · exact triv 144 (by decide) (by decide) (by simp [reck, h2])
    · exact triv 160 (by decide) (by decide) (by simp [reck])
    · exact absurd rfl h1
/-- minus x -/
def negN (x : N6) : N6 := tdN (subN (cstN 0#64) x)
theorem inN_neg {x : N6} {a : B64} (h : inN x a) : inN (negN x) (0#64 - a) := inN_td ⟨okN_sub _ _, gN_sub (okN_cst _) h.1 (gN_cst _) h.2⟩
def extN (n : Nat) (x : N6) : N6 := if isC x then cstN (sxt n (jV x)) else tdN (sgnN n)
theorem inN_ext {n : Nat} {x : N6} {a : B64} (hn : n = 8 ∨ n = 16 ∨ n = 32) (h : inN x a) : inN (extN n x) (sxt n a) := by
  unfold extN
  split
  · rename_i q
    rw [gN_const h.2 q]
    exact inN_cst _
  · exact inN_td ⟨okN_sgn n, gN_sgn hn a⟩
/-- of a number that is cut already -/
def extW (n : Nat) (x : N6) : N6 := if isC x then cstN (sxt n (jV x) &&& cF) else cutT (tdN (sgnN n))
theorem inN_extW {n : Nat} {x : N6} {a : B64} (hn : n = 8 ∨ n = 16 ∨ n = 32) (h : inN x a) : inN (extW n x) (sxt n a &&& cF) := by
  unfold extW
  split
  · rename_i q
    rw [gN_const h.2 q]
    exact inN_cst _
  · exact inN_cut (inN_td ⟨okN_sgn n, gN_sgn hn a⟩)
/-! D4, DC, D7 -/
def lowB (n : Nat) (v : B64) : B64 := if n = 64 then v else v &&& (1#64 <<< n - 1#64)
def turnB : Nat → B64 → B64
  | 0, _ => 0#64
  | k + 1, v => (turnB k v <<< 8) ||| ((v >>> (8 * k)) &&& 255#64)
theorem turnB_lt (v : B64) : ∀ k : Nat, k ≤ 8 → (turnB k v).toNat < 2 ^ (8 * k) := by
  intro k
  induction k with
  | zero => intro _; exact Nat.one_pos
  | succ k ih =>
    intro hk
    have l := ih (by omega)
    have e : 2 ^ (8 * (k + 1)) = 2 ^ (8 * k) * 256 := by
      rw [show 8 * (k + 1) = 8 * k + 8 by omega, Nat.pow_add]
    show ((turnB k v <<< 8) ||| ((v >>> (8 * k)) &&& 255#64)).toNat < _
    rw [BitVec.toNat_or, e]
    have a1 : (turnB k v <<< 8).toNat ≤ (turnB k v).toNat * 256 := by
      rw [BitVec.toNat_shiftLeft, Nat.shiftLeft_eq]
      exact Nat.mod_le _ _
    have a2 : ((v >>> (8 * k)) &&& 255#64).toNat < 2 ^ 8 := by
      rw [BitVec.toNat_and, show (255#64).toNat = 2 ^ 8 - 1 from rfl, Nat.and_two_pow_sub_one_eq_mod]
      exact Nat.mod_lt _ (by decide)
    have p : 2 ^ (8 * k) * 256 = 2 ^ (8 * k + 8) := by rw [Nat.pow_add]
    rw [p]
    refine Nat.or_lt_two_pow ?_ ?_
    · rw [← p]
      omega
    · exact Nat.lt_of_lt_of_le a2 (Nat.pow_le_pow_right (by omega) (by omega))
/-- le: D4 -/
def trnJ (le : Bool) (n : Nat) (v : B64) : B64 := if le = true then lowB n v else turnB (n / 8) v
def trnN (le : Bool) (n : Nat) (x : N6) : N6 := if isC x then cstN (trnJ le n (jV x)) else wideN (n / 8)
theorem inN_trn {le : Bool} {n : Nat} {x : N6} {a : B64} (hn : n = 16 ∨ n = 32 ∨ n = 64) (h : inN x a) : inN (trnN le n x) (trnJ le n a) := by
  unfold trnN
  split
  · rename_i q
    rw [gN_const h.2 q]
    exact inN_cst _
  · refine inN_wide ?_
    unfold trnJ
    split
    · unfold lowB
      rcases hn with rfl | rfl | rfl
      · rw [if_neg (by decide), BitVec.toNat_and, show (1#64 <<< 16 - 1#64).toNat = 2 ^ 16 - 1 from rfl, Nat.and_two_pow_sub_one_eq_mod]
        exact Nat.mod_lt _ (by decide)
      · rw [if_neg (by decide), BitVec.toNat_and, show (1#64 <<< 32 - 1#64).toNat = 2 ^ 32 - 1 from rfl, Nat.and_two_pow_sub_one_eq_mod]
        exact Nat.mod_lt _ (by decide)
      · rw [if_pos rfl]
        exact nat_rng a
    · exact turnB_lt a _ (by rcases hn with rfl | rfl | rfl <;> decide)
