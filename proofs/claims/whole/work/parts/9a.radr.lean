/-! ===== the reference's runs: addresses, bytes ===== -/
/-- where an object begins -/
def adR (o : Nat) : B64 := iL (1048576 * (o : Int) + 524288)
/-- objects with bytes -/
abbrev obR (o b : Nat) : Prop := ((2 ≤ o ∧ o ≤ 5) ∧ b < 128) ∨ ((16 ≤ o ∧ o ≤ 271) ∧ b < 64) ∨ (o = 280 ∧ b < 256) ∨ ((300 ≤ o ∧ o ≤ 363) ∧ b < 64)
def cellR (o : Nat) : Nat := if o < 6 then 147 else if o ≤ 271 then 100 else if o = 280 then 144 else 149
def plcR (o b : Nat) : Nat := if o < 6 then 128 * (o - 2) + b else if o ≤ 271 then 64 * (o - 16) + b else if o = 280 then b else 64 * (o - 300) + b
abbrev byR (σ : MS) (o b : Nat) : Int := gI σ (cellR o) (plcR o b)
section RADR
variable {σ τ : MS} {o b k n : Nat} {x a : B64}
theorem sh20 (x : Int) : lShl (iL x) 20 = iL (x * 1048576) := by
  show iL x <<< 20 = _
  rw [BitVec.shiftLeft_eq_mul_twoPow, show BitVec.twoPow 64 20 = iL 1048576 from rfl, iLm]
theorem T549 {x k : Int} : MM 549 [mI x, mI k] σ = some (some (mL (iL (1048576 * x + 524288 + k))), σ) := by
  simp only [M549, e549_0, sh20, iLa]
  rw [show x * 1048576 + 524288 + k = 1048576 * x + 524288 + k by omega]
theorem iLnat (k : Nat) : BitVec.ofNat 64 k = iL (k : Int) := (BitVec.ofInt_natCast 64 k).symm
theorem ad_i : adR o + BitVec.ofNat 64 k = iL (1048576 * (o : Int) + 524288 + (k : Int)) := by
  unfold adR
  rw [iLnat, iLa]
theorem ad_o (ho : o < 1000) (hk : k < 4096) : lI (lShr (adR o + BitVec.ofNat 64 k) 20) = (o : Int) := by
  rw [ad_i]
  have e : lShr (iL (1048576 * (o : Int) + 524288 + (k : Int))) 20 = (iL (1048576 * (o : Int) + 524288 + (k : Int))).sshiftRight 20 := lShr_k _ (by decide)
  rw [e]
  unfold lI
  rw [BitVec.toInt_sshiftRight, Int.shiftRight_eq_div_pow, iLt (by omega) (by omega), w32_i (by omega) (by omega)]
  omega
theorem ad_k (ho : o < 1000) (hk : k < 4096) : w32 (lI ((adR o + BitVec.ofNat 64 k) &&& iL 1048575) - 524288) = (k : Int) := by
  rw [ad_i]
  have e : iL (1048576 * (o : Int) + 524288 + (k : Int)) &&& iL 1048575 = iL (524288 + (k : Int)) := by
    apply BitVec.eq_of_toNat_eq
    have t1 : (iL (1048576 * (o : Int) + 524288 + (k : Int))).toNat = 1048576 * o + 524288 + k := by
      unfold iL
      rw [BitVec.toNat_ofInt]
      omega
    have t2 : (iL 1048575).toNat = 2 ^ 20 - 1 := rfl
    have t3 : (iL (524288 + (k : Int))).toNat = 524288 + k := by
      unfold iL
      rw [BitVec.toNat_ofInt]
      omega
    rw [BitVec.toNat_and, t1, t2, t3, Nat.and_two_pow_sub_one_eq_mod]
    omega
  rw [e]
  unfold lI
  rw [iLt (by omega) (by omega), w32_i (x := 524288 + (k : Int)) (by omega) (by omega), w32_i (by omega) (by omega)]
  omega
/-- a byte -/
theorem T553 (h : obR o b) : MM 553 [mR (some 80), mL (adR o + BitVec.ofNat 64 b)] σ = some (some (mI (byR σ o b % 256)), σ) := by
  have a1 := ad_o (o := o) (k := b) (by omega) (by omega)
  have a2 := ad_k (o := o) (k := b) (by omega) (by omega)
  have n1 : ¬ (o : Int) = 1 := by omega
  rw [M553, e553_0, a1, a2, if_pos n1]
  unfold byR cellR plcR
  rcases h with ⟨⟨h1, h2⟩, h3⟩ | ⟨⟨h1, h2⟩, h3⟩ | ⟨h1, h3⟩ | ⟨⟨h1, h2⟩, h3⟩
  · have w : w32 (w32 (128 * w32 ((o : Int) - 2)) + (b : Int)) = ((128 * (o - 2) + b : Nat) : Int) := by
      rw [w32_i (x := (o : Int) - 2) (by omega) (by omega), w32_i (x := 128 * ((o : Int) - 2)) (by omega) (by omega), w32_i (by omega) (by omega)]
      omega
    have g : Option.isSome (some 147) = true ∧ ab σ 1 147 ((128 * (o - 2) + b : Nat) : Int) := by rw [g_147]; omega
    rw [if_neg (by omega), if_neg (by omega), w, if_pos g, Int.toNat_natCast, iAnd255, if_pos (show o < 6 by omega), if_pos (show o < 6 by omega)]
  · have w : w32 (w32 (64 * w32 ((o : Int) - 16)) + (b : Int)) = ((64 * (o - 16) + b : Nat) : Int) := by
      rw [w32_i (x := (o : Int) - 16) (by omega) (by omega), w32_i (x := 64 * ((o : Int) - 16)) (by omega) (by omega), w32_i (by omega) (by omega)]
      omega
    have g : Option.isSome (some 100) = true ∧ ab σ 1 100 ((64 * (o - 16) + b : Nat) : Int) := by rw [g_100]; omega
    rw [if_neg (by omega), if_pos (by omega), e553_135, if_neg (by omega), if_neg (by omega), w, if_pos g, Int.toNat_natCast, iAnd255, if_neg (show ¬ o < 6 by omega), if_neg (show ¬ o < 6 by omega), if_pos (show o ≤ 271 by omega), if_pos (show o ≤ 271 by omega)]
  · have g : Option.isSome (some 144) = true ∧ ab σ 1 144 (b : Int) := by rw [g_144]; omega
    rw [if_neg (by omega), if_pos (by omega), e553_135, if_neg (by omega), if_pos (by omega), e553_168, if_neg (by omega), if_pos g, Int.toNat_natCast, iAnd255, if_neg (show ¬ o < 6 by omega), if_neg (show ¬ o < 6 by omega), if_neg (show ¬ o ≤ 271 by omega), if_neg (show ¬ o ≤ 271 by omega), if_pos h1, if_pos h1]
  · have w : w32 (w32 (64 * w32 ((o : Int) - 300)) + (b : Int)) = ((64 * (o - 300) + b : Nat) : Int) := by
      rw [w32_i (x := (o : Int) - 300) (by omega) (by omega), w32_i (x := 64 * ((o : Int) - 300)) (by omega) (by omega), w32_i (by omega) (by omega)]
      omega
    have g : Option.isSome (some 149) = true ∧ ab σ 1 149 ((64 * (o - 300) + b : Nat) : Int) := by rw [g_149]; omega
    rw [if_neg (by omega), if_pos (by omega), e553_135, if_neg (by omega), if_pos (by omega), e553_168, if_pos (by omega), w, if_pos g, Int.toNat_natCast, iAnd255, if_neg (show ¬ o < 6 by omega), if_neg (show ¬ o < 6 by omega), if_neg (show ¬ o ≤ 271 by omega), if_neg (show ¬ o ≤ 271 by omega), if_neg (show ¬ o = 280 by omega), if_neg (show ¬ o = 280 by omega)]
theorem w8w8 (v : Int) : w8 (w8 v) = w8 v := by
  unfold w8
  rw [Int.bmod_def, Int.bmod_def]
  split <;> split <;> omega
/-- a byte is put -/
theorem T554 {v : Int} (h : obR o b) : MM 554 [mR (some 80), mL (adR o + BitVec.ofNat 64 b), mI v] σ = some (none, sI σ (cellR o) (plcR o b) (w8 v)) := by
  have a1 := ad_o (o := o) (k := b) (by omega) (by omega)
  have a2 := ad_k (o := o) (k := b) (by omega) (by omega)
  have n1 : ¬ (o : Int) = 1 := by omega
  rw [M554, e554_0, a1, a2, if_pos n1]
  unfold cellR plcR
  rcases h with ⟨⟨h1, h2⟩, h3⟩ | ⟨⟨h1, h2⟩, h3⟩ | ⟨h1, h3⟩ | ⟨⟨h1, h2⟩, h3⟩
  · have w : w32 (w32 (128 * w32 ((o : Int) - 2)) + (b : Int)) = ((128 * (o - 2) + b : Nat) : Int) := by
      rw [w32_i (x := (o : Int) - 2) (by omega) (by omega), w32_i (x := 128 * ((o : Int) - 2)) (by omega) (by omega), w32_i (by omega) (by omega)]
      omega
    have g : Option.isSome (some 147) = true ∧ ab σ 1 147 ((128 * (o - 2) + b : Nat) : Int) := by rw [g_147]; omega
    rw [if_neg (by omega), if_neg (by omega), w, if_pos g, Int.toNat_natCast, w8w8, if_pos (show o < 6 by omega), if_pos (show o < 6 by omega)]
  · have w : w32 (w32 (64 * w32 ((o : Int) - 16)) + (b : Int)) = ((64 * (o - 16) + b : Nat) : Int) := by
      rw [w32_i (x := (o : Int) - 16) (by omega) (by omega), w32_i (x := 64 * ((o : Int) - 16)) (by omega) (by omega), w32_i (by omega) (by omega)]
      omega
    have g : Option.isSome (some 100) = true ∧ ab σ 1 100 ((64 * (o - 16) + b : Nat) : Int) := by rw [g_100]; omega
    rw [if_neg (by omega), if_pos (by omega), e554_97, if_neg (by omega), if_neg (by omega), w, if_pos g, Int.toNat_natCast, w8w8, if_neg (show ¬ o < 6 by omega), if_neg (show ¬ o < 6 by omega), if_pos (show o ≤ 271 by omega), if_pos (show o ≤ 271 by omega)]
  · have g : Option.isSome (some 144) = true ∧ ab σ 1 144 (b : Int) := by rw [g_144]; omega
    rw [if_neg (by omega), if_pos (by omega), e554_97, if_neg (by omega), if_pos (by omega), e554_133, if_neg (by omega), if_pos g, Int.toNat_natCast, w8w8, if_neg (show ¬ o < 6 by omega), if_neg (show ¬ o < 6 by omega), if_neg (show ¬ o ≤ 271 by omega), if_neg (show ¬ o ≤ 271 by omega), if_pos h1, if_pos h1]
  · have w : w32 (w32 (64 * w32 ((o : Int) - 300)) + (b : Int)) = ((64 * (o - 300) + b : Nat) : Int) := by
      rw [w32_i (x := (o : Int) - 300) (by omega) (by omega), w32_i (x := 64 * ((o : Int) - 300)) (by omega) (by omega), w32_i (by omega) (by omega)]
      omega
    have g : Option.isSome (some 149) = true ∧ ab σ 1 149 ((64 * (o - 300) + b : Nat) : Int) := by rw [g_149]; omega
    rw [if_neg (by omega), if_pos (by omega), e554_97, if_neg (by omega), if_pos (by omega), e554_133, if_pos (by omega), w, if_pos g, Int.toNat_natCast, w8w8, if_neg (show ¬ o < 6 by omega), if_neg (show ¬ o < 6 by omega), if_neg (show ¬ o ≤ 271 by omega), if_neg (show ¬ o ≤ 271 by omega), if_neg (show ¬ o = 280 by omega), if_neg (show ¬ o = 280 by omega)]
theorem ad_s (y : B64) (i : Nat) : adR o + y + iL (i : Int) = adR o + (y + BitVec.ofNat 64 i) := by
  rw [iLnat, BitVec.add_assoc]
theorem nat_s (b i : Nat) : BitVec.ofNat 64 b + BitVec.ofNat 64 i = BitVec.ofNat 64 (b + i) := (BitVec.ofNat_add b i).symm
/-- so many bytes -/
def lsR (σ : MS) (o b n : Nat) : List B64 := (List.range' b n).map fun i => byW (byR σ o i)
theorem L555 {x5 : Option MV} : ∀ (j : Nat), (∀ i, i < j → obR o (b + i)) → ∀ (l : List B64) (x3 : Int), okc (RR (lkB tb555) (B555_8, [some (mR (some 80)), some (mL (adR o + BitVec.ofNat 64 b)), none, some (mI x3), some (mL (leN l)), none, some (mI ((j : Int) - 1))], [], σ)) (some (mL (leN (lsR σ o b j ++ l)))) (fun τ => τ = σ) := by
  intro j
  induction j with
  | zero =>
    intro _ l x3
    refine okc_o (τ := σ) ?_ rfl
    rw [e555_8, if_pos (by decide)]
    rfl
  | succ j ih =>
    intro h l x3
    have hj := h j (by omega)
    have t := T553 (σ := σ) hj
    have e1 : adR o + BitVec.ofNat 64 b + iL (((j + 1 : Nat) : Int) - 1) = adR o + BitVec.ofNat 64 (b + j) := by
      rw [show ((j + 1 : Nat) : Int) - 1 = (j : Int) by omega, ad_s, nat_s]
    have e2 : lShl (leN l) 8 ||| iL (byR σ o (b + j) % 256) = leN (byW (byR σ o (b + j)) :: l) := rfl
    have e3 : w32 (((j + 1 : Nat) : Int) - 1 + (-1)) = (j : Int) - 1 := by
      rw [w32_i (by omega) (by omega)]
      omega
    have e4 : lsR σ o b (j + 1) ++ l = lsR σ o b j ++ (byW (byR σ o (b + j)) :: l) := by
      unfold lsR
      rw [List.range'_concat, List.map_append, List.append_assoc]
      simp
    rw [e4, e555_8, if_neg (by omega), e1, t]
    have z := ih (fun i hi => h i (by omega)) (byW (byR σ o (b + j)) :: l) x3
    simp only [Option.bind_some, Option.toList_some, List.cons_append, List.nil_append, e555_27, e2, e3]
    exact z
theorem T555 (hn : n ≤ 64) (h : ∀ i, i < n → obR o (b + i)) : MM 555 [mR (some 80), mL (adR o + BitVec.ofNat 64 b), mI (n : Int)] σ = some (some (mL (leN (lsR σ o b n))), σ) := by
  obtain ⟨τ, t, e⟩ := L555 (σ := σ) (x5 := none) n h [] (n : Int)
  have w : w32 ((n : Int) - 1) = (n : Int) - 1 := w32_i (by omega) (by omega)
  rw [List.append_nil, e] at t
  rw [M555, e555_0, w]
  exact t
end RADR
