/-! ===== numbers of the judge, as such: what they stand for ===== -/
abbrev B64 : Type := BitVec 64
/-- V, M, U1, U2, S1, S2 -/
abbrev N6 : Type := BitVec 64 × BitVec 64 × BitVec 64 × BitVec 64 × BitVec 64 × BitVec 64
abbrev jV (n : N6) : B64 := n.1
abbrev jM (n : N6) : B64 := n.2.1
abbrev jA (n : N6) : B64 := n.2.2.1
abbrev jB (n : N6) : B64 := n.2.2.2.1
abbrev jC (n : N6) : B64 := n.2.2.2.2.1
abbrev jD (n : N6) : B64 := n.2.2.2.2.2
abbrev cMin : B64 := 0x8000000000000000#64
abbrev cMax : B64 := 0x7fffffffffffffff#64
abbrev cF : B64 := 0xffffffff#64
abbrev cAll : B64 := 0xffffffffffffffff#64
def bmin (a b : B64) : B64 := if a < b then a else b
def bmax (a b : B64) : B64 := if a < b then b else a
def smax (a b : B64) : B64 := if b.toInt ≤ a.toInt then a else b
def smin (a b : B64) : B64 := if a.toInt ≤ b.toInt then a else b
/-- the bits that are known are those -/
def bitN (v m x : B64) : Prop := ∀ i : Nat, m.getLsbD i = false → x.getLsbD i = v.getLsbD i
def disN (v m : B64) : Prop := ∀ i : Nat, m.getLsbD i = true → v.getLsbD i = false
def okN (n : N6) : Prop := disN (jV n) (jM n)
/-- x is one of the numbers that n stands for -/
def gN (n : N6) (x : B64) : Prop := bitN (jV n) (jM n) x ∧ (jA n).toNat ≤ x.toNat ∧ x.toNat ≤ (jB n).toNat ∧ (jC n).toInt ≤ x.toInt ∧ x.toInt ≤ (jD n).toInt
theorem toInt_c (x : B64) : x.toInt = if x.toNat < 9223372036854775808 then (x.toNat : Int) else (x.toNat : Int) - 18446744073709551616 := by
  rw [BitVec.toInt_eq_toNat_cond]
  have := x.isLt
  split <;> split <;> omega
theorem bit63 (x : B64) : x.getLsbD 63 = decide (9223372036854775808 ≤ x.toNat) := by
  have h1 := BitVec.msb_eq_getLsbD_last x
  have h2 := BitVec.msb_eq_decide x
  rw [h1] at h2
  exact h2
theorem sub_nat {x y : B64} (h : ∀ i, x.getLsbD i = true → y.getLsbD i = true) : x.toNat ≤ y.toNat := by
  have e : x &&& y = x := by
    apply BitVec.eq_of_getLsbD_eq
    intro i hi
    rw [BitVec.getLsbD_and]
    have := h i
    cases hx : x.getLsbD i <;> simp_all
  have q : (x &&& y).toNat ≤ y.toNat := by
    rw [BitVec.toNat_and]
    exact Nat.and_le_right
  rwa [e] at q
theorem low63 (x : B64) : (x &&& cMax).toNat = x.toNat % 9223372036854775808 := by
  rw [BitVec.toNat_and, show cMax.toNat = 2 ^ 63 - 1 from rfl, Nat.and_two_pow_sub_one_eq_mod]
theorem cMax_bit (i : Nat) : cMax.getLsbD i = decide (i < 63) := by
  by_cases h : i < 64
  · have : ∀ j : Fin 64, cMax.getLsbD j.val = decide (j.val < 63) := by decide
    exact this ⟨i, h⟩
  · rw [BitVec.getLsbD_of_ge _ _ (by omega)]
    have : ¬ i < 63 := by omega
    simp [this]
theorem cMin_bit (i : Nat) : cMin.getLsbD i = decide (i = 63) := by
  by_cases h : i < 64
  · have : ∀ j : Fin 64, cMin.getLsbD j.val = decide (j.val = 63) := by decide
    exact this ⟨i, h⟩
  · rw [BitVec.getLsbD_of_ge _ _ (by omega)]
    have : ¬ i = 63 := by omega
    simp [this]
theorem cF_bit (i : Nat) : cF.getLsbD i = decide (i < 32) := by
  by_cases h : i < 64
  · have : ∀ j : Fin 64, cF.getLsbD j.val = decide (j.val < 32) := by decide
    exact this ⟨i, h⟩
  · rw [BitVec.getLsbD_of_ge _ _ (by omega)]
    have : ¬ i < 32 := by omega
    simp [this]
theorem cAll_bit (i : Nat) : cAll.getLsbD i = decide (i < 64) := by
  have : cAll = BitVec.allOnes 64 := by decide
  rw [this, BitVec.getLsbD_allOnes]
theorem sle_bits {x y : B64} (h63 : x.getLsbD 63 = true → y.getLsbD 63 = true) (hl : ∀ i, i < 63 → y.getLsbD i = true → x.getLsbD i = true) : y.toInt ≤ x.toInt := by
  have s : (y &&& cMax).toNat ≤ (x &&& cMax).toNat := sub_nat (fun i h => by
    rw [BitVec.getLsbD_and, cMax_bit] at h ⊢
    simp only [Bool.and_eq_true, decide_eq_true_eq] at h ⊢
    exact ⟨hl i h.2 h.1, h.2⟩)
  rw [low63, low63] at s
  rw [bit63, bit63] at h63
  simp only [decide_eq_true_eq] at h63
  rw [toInt_c, toInt_c]
  have := x.isLt
  have := y.isLt
  split <;> split <;> omega
theorem bmax_toNat (a b : B64) : (bmax a b).toNat = max a.toNat b.toNat := by
  unfold bmax
  split <;> rename_i h <;> rw [BitVec.lt_def] at h <;> omega
theorem bmin_toNat (a b : B64) : (bmin a b).toNat = min a.toNat b.toNat := by
  unfold bmin
  split <;> rename_i h <;> rw [BitVec.lt_def] at h <;> omega
theorem smax_toInt (a b : B64) : (smax a b).toInt = max a.toInt b.toInt := by
  unfold smax
  split <;> omega
theorem smin_toInt (a b : B64) : (smin a b).toInt = min a.toInt b.toInt := by
  unfold smin
  split <;> omega
/-- (a) of TIDY -/
def byB (n : N6) : N6 := (jV n, jM n, bmax (jA n) (jV n), bmin (jB n) (jV n ||| jM n), smax (jC n) (jV n ||| (jM n &&& cMin)), smin (jD n) (jV n ||| (jM n &&& cMax)))
theorem okN_byB {n : N6} : okN (byB n) = okN n := rfl
theorem bit_t {v m x : B64} (hb : bitN v m x) (hd : disN v m) {i : Nat} (h : v.getLsbD i = true) : x.getLsbD i = true := by
  cases hm : m.getLsbD i with
  | true => rw [hd i hm] at h; cases h
  | false => rw [hb i hm]; exact h
theorem bit_u {v m x : B64} (hb : bitN v m x) {i : Nat} (h : x.getLsbD i = true) : (v ||| m).getLsbD i = true := by
  rw [BitVec.getLsbD_or]
  cases hm : m.getLsbD i with
  | true => simp
  | false => rw [hb i hm] at h; simp [h]
theorem gN_byB {n : N6} {x : B64} (h : gN n x) (ho : okN n) : gN (byB n) x := by
  obtain ⟨h1, h2, h3, h4, h5⟩ := h
  have p1 : (jV n).toNat ≤ x.toNat := sub_nat fun i q => bit_t h1 ho q
  have p2 : x.toNat ≤ (jV n ||| jM n).toNat := sub_nat fun i q => bit_u h1 q
  have p3 : (jV n ||| (jM n &&& cMin)).toInt ≤ x.toInt := by
    refine sle_bits (fun q => ?_) (fun i hi q => ?_)
    · rw [BitVec.getLsbD_or, BitVec.getLsbD_and, cMin_bit]
      have := bit_u h1 q
      rw [BitVec.getLsbD_or] at this
      simpa using this
    · rw [BitVec.getLsbD_or, BitVec.getLsbD_and, cMin_bit] at q
      have : ¬ i = 63 := by omega
      simp [this] at q
      exact bit_t h1 ho q
  have p4 : x.toInt ≤ (jV n ||| (jM n &&& cMax)).toInt := by
    refine sle_bits (fun q => ?_) (fun i hi q => ?_)
    · rw [BitVec.getLsbD_or, BitVec.getLsbD_and, cMax_bit] at q
      simp at q
      exact bit_t h1 ho q
    · rw [BitVec.getLsbD_or, BitVec.getLsbD_and, cMax_bit]
      have := bit_u h1 q
      rw [BitVec.getLsbD_or] at this
      simpa [hi] using this
  refine ⟨h1, ?_, ?_, ?_, ?_⟩
  · show (bmax (jA n) (jV n)).toNat ≤ _
    rw [bmax_toNat]; omega
  · show _ ≤ (bmin (jB n) (jV n ||| jM n)).toNat
    rw [bmin_toNat]; omega
  · show (smax (jC n) (jV n ||| (jM n &&& cMin))).toInt ≤ _
    rw [smax_toInt]; omega
  · show _ ≤ (smin (jD n) (jV n ||| (jM n &&& cMax))).toInt
    rw [smin_toInt]; omega
/-- all bits from the highest one on -/
def sprd (x : B64) : B64 := let a := x ||| x >>> 1; let b := a ||| a >>> 2; let c := b ||| b >>> 4; let d := c ||| c >>> 8; let e := d ||| d >>> 16; e ||| e >>> 32
theorem spr_w {x a : B64} {w : Nat} (h : ∀ j, a.getLsbD j = true ↔ ∃ i, j ≤ i ∧ i < j + w ∧ x.getLsbD i = true) (j : Nat) : (a ||| a >>> w).getLsbD j = true ↔ ∃ i, j ≤ i ∧ i < j + (w + w) ∧ x.getLsbD i = true := by
  rw [BitVec.getLsbD_or, BitVec.getLsbD_ushiftRight, Bool.or_eq_true, h, h]
  constructor
  · rintro (⟨i, a1, a2, a3⟩ | ⟨i, a1, a2, a3⟩)
    · exact ⟨i, a1, by omega, a3⟩
    · exact ⟨i, by omega, by omega, a3⟩
  · rintro ⟨i, a1, a2, a3⟩
    by_cases q : i < j + w
    · exact Or.inl ⟨i, a1, q, a3⟩
    · exact Or.inr ⟨i, by omega, by omega, a3⟩
theorem sprd_bit (x : B64) (j : Nat) : (sprd x).getLsbD j = true ↔ ∃ i, j ≤ i ∧ x.getLsbD i = true := by
  have h0 : ∀ j, x.getLsbD j = true ↔ ∃ i, j ≤ i ∧ i < j + 1 ∧ x.getLsbD i = true := fun j =>
    ⟨fun h => ⟨j, Nat.le_refl _, by omega, h⟩, fun ⟨i, a1, a2, a3⟩ => by rw [show j = i by omega]; exact a3⟩
  have e6 := spr_w (spr_w (spr_w (spr_w (spr_w (spr_w h0)))))
  refine (e6 j).trans ?_
  constructor
  · rintro ⟨i, a1, a2, a3⟩
    exact ⟨i, a1, a3⟩
  · rintro ⟨i, a1, a3⟩
    have : i < 64 := by
      by_cases q : i < 64
      · exact q
      · rw [BitVec.getLsbD_of_ge _ _ (by omega)] at a3
        cases a3
    exact ⟨i, a1, by omega, a3⟩
def td1 (n : N6) : N6 := if 0 ≤ (jC n).toInt ∨ (jD n).toInt < 0 then (jV n, jM n, bmax (jA n) (jC n), bmin (jB n) (jD n), jC n, jD n) else n
def td2 (n : N6) : N6 := if ((jA n).toInt < 0 ↔ (jB n).toInt < 0) then (jV n, jM n, jA n, jB n, smax (jC n) (jA n), smin (jD n) (jB n)) else n
def td3 (n : N6) : N6 := (jV n ||| (jA n &&& ~~~ sprd (jA n ^^^ jB n)), jM n &&& sprd (jA n ^^^ jB n), jA n, jB n, jC n, jD n)
abbrev tdC (n : N6) : Prop := ((jV n ^^^ jA n) &&& ~~~ sprd (jA n ^^^ jB n)) &&& ~~~ (jM n) = 0#64
def tdN (n : N6) : N6 := if tdC (td2 (td1 (byB n))) then byB (td3 (td2 (td1 (byB n)))) else td2 (td1 (byB n))
abbrev tdP (n : N6) : Prop := ¬ jB n < jA n ∧ ¬ (jD n).toInt < (jC n).toInt
/-- it is not NOTHING -/
def tdG (n : N6) : Prop := tdC (td2 (td1 (byB n))) ∧ tdP (byB (td3 (td2 (td1 (byB n)))))
theorem gN_td1 {n : N6} {x : B64} (h : gN n x) : gN (td1 n) x := by
  unfold td1
  split
  · rename_i c
    obtain ⟨h1, h2, h3, h4, h5⟩ := h
    have e1 := toInt_c x
    have e2 := toInt_c (jC n)
    have e3 := toInt_c (jD n)
    have l1 := x.isLt
    have l2 := (jC n).isLt
    have l3 := (jD n).isLt
    have key : (jC n).toNat ≤ x.toNat ∧ x.toNat ≤ (jD n).toNat := by
      split at e1 <;> split at e2 <;> split at e3 <;> omega
    refine ⟨h1, ?_, ?_, h4, h5⟩
    · show (bmax (jA n) (jC n)).toNat ≤ _
      rw [bmax_toNat]; omega
    · show _ ≤ (bmin (jB n) (jD n)).toNat
      rw [bmin_toNat]; omega
  · exact h
theorem gN_td2 {n : N6} {x : B64} (h : gN n x) : gN (td2 n) x := by
  unfold td2
  split
  · rename_i c
    obtain ⟨h1, h2, h3, h4, h5⟩ := h
    have e1 := toInt_c x
    have e2 := toInt_c (jA n)
    have e3 := toInt_c (jB n)
    have l1 := x.isLt
    have l2 := (jA n).isLt
    have l3 := (jB n).isLt
    have key : (jA n).toInt ≤ x.toInt ∧ x.toInt ≤ (jB n).toInt := by
      split at e1 <;> split at e2 <;> split at e3 <;> omega
    refine ⟨h1, h2, h3, ?_, ?_⟩
    · show (smax (jC n) (jA n)).toInt ≤ _
      rw [smax_toInt]; omega
    · show _ ≤ (smin (jD n) (jB n)).toInt
      rw [smin_toInt]; omega
  · exact h
theorem pre_bits {a b x : B64} (h1 : a.toNat ≤ x.toNat) (h2 : x.toNat ≤ b.toNat) {j : Nat} (h : ∀ i, j ≤ i → a.getLsbD i = b.getLsbD i) : x.getLsbD j = a.getLsbD j := by
  have e : a >>> j = b >>> j := by
    apply BitVec.eq_of_getLsbD_eq
    intro i hi
    rw [BitVec.getLsbD_ushiftRight, BitVec.getLsbD_ushiftRight]
    exact h _ (by omega)
  have e2 : a.toNat / 2 ^ j = b.toNat / 2 ^ j := by
    have := congrArg BitVec.toNat e
    rwa [BitVec.toNat_ushiftRight, BitVec.toNat_ushiftRight, Nat.shiftRight_eq_div_pow, Nat.shiftRight_eq_div_pow] at this
  have e3 : x >>> j = a >>> j := by
    apply BitVec.eq_of_toNat_eq
    rw [BitVec.toNat_ushiftRight, BitVec.toNat_ushiftRight, Nat.shiftRight_eq_div_pow, Nat.shiftRight_eq_div_pow]
    have i1 : a.toNat / 2 ^ j ≤ x.toNat / 2 ^ j := Nat.div_le_div_right h1
    have i2 : x.toNat / 2 ^ j ≤ b.toNat / 2 ^ j := Nat.div_le_div_right h2
    omega
  have := congrArg (fun z => BitVec.getLsbD z 0) e3
  simpa using this
theorem sprd_f {a b : B64} {i : Nat} (h : (sprd (a ^^^ b)).getLsbD i = false) : ∀ k, i ≤ k → a.getLsbD k = b.getLsbD k := by
  intro k hk
  have h : ¬ ∃ k, i ≤ k ∧ (a ^^^ b).getLsbD k = true := fun q => by
    rw [(sprd_bit _ _).mpr q] at h
    cases h
  have q : (a ^^^ b).getLsbD k = false := by
    cases c : (a ^^^ b).getLsbD k with
    | true => exact absurd ⟨k, hk, c⟩ h
    | false => rfl
  rw [BitVec.getLsbD_xor] at q
  revert q
  cases a.getLsbD k <;> cases b.getLsbD k <;> simp
theorem gN_pre {n : N6} {x : B64} (h : gN n x) {i : Nat} (hs : (sprd (jA n ^^^ jB n)).getLsbD i = false) : x.getLsbD i = (jA n).getLsbD i :=
  pre_bits h.2.1 h.2.2.1 (sprd_f hs)
theorem gN_td3 {n : N6} {x : B64} (h : gN n x) (ho : okN n) : gN (td3 n) x := by
  refine ⟨fun i hm => ?_, h.2⟩
  have hm : ((jM n) &&& sprd (jA n ^^^ jB n)).getLsbD i = false := hm
  show _ = (jV n ||| (jA n &&& ~~~ sprd (jA n ^^^ jB n))).getLsbD i
  rw [BitVec.getLsbD_and] at hm
  rw [BitVec.getLsbD_or, BitVec.getLsbD_and, BitVec.getLsbD_not]
  by_cases hi : i < 64
  · cases hs : (sprd (jA n ^^^ jB n)).getLsbD i with
    | true =>
      rw [hs] at hm
      simp at hm
      simp
      exact h.1 i hm
    | false =>
      have e := gN_pre h hs
      simp only [hi, decide_true, Bool.true_and, Bool.not_false, Bool.and_true]
      cases hM : (jM n).getLsbD i with
      | true =>
        rw [ho i hM, e]
        simp
      | false =>
        have e2 := h.1 i hM
        rw [← e, ← e2]
        simp
  · rw [BitVec.getLsbD_of_ge _ _ (by omega), BitVec.getLsbD_of_ge _ _ (by omega)]
    simp [hi]
theorem okN_td3 {n : N6} (ho : okN n) : okN (td3 n) := by
  intro i hm
  have hm : ((jM n) &&& sprd (jA n ^^^ jB n)).getLsbD i = true := hm
  show (jV n ||| (jA n &&& ~~~ sprd (jA n ^^^ jB n))).getLsbD i = false
  rw [BitVec.getLsbD_and] at hm
  simp only [Bool.and_eq_true] at hm
  rw [BitVec.getLsbD_or, BitVec.getLsbD_and, BitVec.getLsbD_not, hm.2, ho i hm.1]
  simp
theorem gN_tdC {n : N6} {x : B64} (h : gN n x) : tdC n := by
  apply BitVec.eq_of_getLsbD_eq
  intro i hi
  rw [BitVec.getLsbD_and, BitVec.getLsbD_and, BitVec.getLsbD_xor, BitVec.getLsbD_not, BitVec.getLsbD_not]
  cases hs : (sprd (jA n ^^^ jB n)).getLsbD i with
  | true => simp
  | false =>
    cases hM : (jM n).getLsbD i with
    | true => simp
    | false => rw [← gN_pre h hs, ← h.1 i hM]; simp
theorem okN_td1 {n : N6} : okN (td1 n) = okN n := by
  unfold td1
  split <;> rfl
theorem okN_td2 {n : N6} : okN (td2 n) = okN n := by
  unfold td2
  split <;> rfl
theorem okN_td {n : N6} (ho : okN n) : okN (tdN n) := by
  unfold tdN
  split
  · rw [okN_byB]
    refine okN_td3 ?_
    rw [okN_td2, okN_td1, okN_byB]
    exact ho
  · rw [okN_td2, okN_td1, okN_byB]
    exact ho
/-- TIDY keeps all numbers, and none is NOTHING that stands for one -/
theorem gN_td {n : N6} {x : B64} (h : gN n x) (ho : okN n) : gN (tdN n) x ∧ tdG n := by
  have h1 : gN (td2 (td1 (byB n))) x := gN_td2 (gN_td1 (gN_byB h ho))
  have o1 : okN (td2 (td1 (byB n))) := by
    rw [okN_td2, okN_td1, okN_byB]
    exact ho
  have c := gN_tdC h1
  have h2 := gN_byB (gN_td3 h1 o1) (okN_td3 o1)
  unfold tdN tdG
  rw [if_pos c]
  refine ⟨h2, c, ?_, ?_⟩
  · obtain ⟨_, a, b, _, _⟩ := h2
    rw [BitVec.lt_def]
    omega
  · obtain ⟨_, _, _, a, b⟩ := h2
    omega
