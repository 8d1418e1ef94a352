/-! ===== the class's runs: its room, and how it shows a machine of places (session 9, not yet compiled) ===== -/
def plC (φ : Nat → Nat) (o : Nat) : Nat := if o = 1 then 768 else if 2 ≤ o ∧ o ≤ 5 then 256 + 128 * (o - 2) else if 16 ≤ o ∧ o ≤ 271 then 788 + 64 * (o - 16) else if 300 ≤ o ∧ o ≤ 363 then 17172 + 64 * φ (o - 300) else 0
def adC (φ : Nat → Nat) (o : Nat) : B64 := if 8 ≤ o ∧ o ≤ 15 then iL ((o : Int) - 7) else iL (1048576 + (plC φ o : Int))
abbrev enK (φ : Nat → Nat) (v : SV) : B64 := enG (adC φ) v
/-- bytes of the room -/
def rmC (σ : MS) (p n : Nat) : List B64 := (List.range' p n).map fun i => byW (gI σ 27 i)
section CROOM
variable {σ τ ρ : MS} {c c' : TC WR} {W V : WR} {w x A a : B64} {r f b k n o s p m : Nat} {l : List Int} {y : Int} {φ : Nat → Nat}
theorem M187 {x0 x2 : B64} : MM 187 [mL x0, mL x2] σ = RR (lkB tb187) (B187_0, [some (mL x0), none, some (mL x2), none, none, none], [], σ) := rfl
def C187_4 : List Ins := B187_0.drop 4
def C187_36 : List Ins := B187_0.drop 21
theorem e187_0 {x0 x2 : B64} : RR (lkB tb187) (B187_0, [some (mL x0), none, some (mL x2), none, none, none], [], σ) = RR (lkB tb187) (C187_4, [some (mL x0), none, some (mL x2), none, none, none], [mL (x0 - iL 1048576)], σ) := (RR_nop _ _ _ _ _ _).trans ((RR_eS _ 3 _).trans rfl)
theorem e187_4 {x0 x2 y : B64} : RR (lkB tb187) (C187_4, [some (mL x0), none, some (mL x2), none, none, none], [mL y], σ) = (if BitVec.toInt y < BitVec.toInt (BitVec.ofNat 64 0) then RR (lkB tb187) (B187_40, [some (mL x0), none, some (mL x2), none, some (mL y), none], [], σ) else (if BitVec.toInt (iL 25364) < BitVec.toInt y then RR (lkB tb187) (B187_40, [some (mL x0), none, some (mL x2), none, some (mL y), none], [], σ) else (if BitVec.toInt x2 < BitVec.toInt (BitVec.ofNat 64 0) then RR (lkB tb187) (B187_40, [some (mL x0), none, some (mL x2), none, some (mL y), none], [], σ) else RR (lkB tb187) (C187_36, [some (mL x0), none, some (mL x2), none, some (mL y), none], [mL (iL 25364 - y), mL x2], σ)))) := (RR_eS _ 14 _).trans rfl
theorem e187_36 {x0 x2 y z : B64} : RR (lkB tb187) (C187_36, [some (mL x0), none, some (mL x2), none, some (mL y), none], [mL z, mL x2], σ) = (if BitVec.toInt x2 ≤ BitVec.toInt z then some (some (mI (lI y)), σ) else RR (lkB tb187) (B187_40, [some (mL x0), none, some (mL x2), none, some (mL y), none], [], σ)) := (RR_eS _ 5 _).trans rfl
theorem iLs (a b : Int) : iL a - iL b = iL (a - b) := by
  have e : iL (a - b) + iL b = iL a := by
    rw [iLa, show a - b + b = a by omega]
  rw [← e, BitVec.add_sub_cancel]
/-- where n bytes are -/
theorem T187 (h : p + n ≤ 25364) : MM 187 [mL (iL (1048576 + (p : Int))), mL (iL (n : Int))] σ = some (some (mI (p : Int)), σ) := by
  have e : iL (1048576 + (p : Int)) - iL 1048576 = iL (p : Int) := by
    rw [iLs, show 1048576 + (p : Int) - 1048576 = (p : Int) by omega]
  have tp : (iL (p : Int)).toInt = (p : Int) := iLt (by omega) (by omega)
  have tn : (iL (n : Int)).toInt = (n : Int) := iLt (by omega) (by omega)
  have t0 : (BitVec.ofNat 64 0).toInt = 0 := by decide
  have tr : (iL 25364).toInt = 25364 := by decide
  have td : (iL 25364 - iL (p : Int)).toInt = 25364 - (p : Int) := by
    rw [iLs]
    exact iLt (by omega) (by omega)
  have n1 : ¬ (p : Int) < 0 := by omega
  have n2 : ¬ 25364 < (p : Int) := by omega
  have n3 : ¬ (n : Int) < 0 := by omega
  have n4 : (n : Int) ≤ 25364 - (p : Int) := by omega
  have lp : lI (iL (p : Int)) = (p : Int) := lI_s (by omega)
  rw [M187, e187_0, e, e187_4, e187_36]
  simp only [tp, tn, t0, tr, td, n1, n2, n3, n4, if_false, if_true, lp]
theorem rmC_c : rmC σ p (n + 1) = byW (gI σ 27 p) :: rmC σ (p + 1) n := by
  unfold rmC
  rw [List.range'_succ, List.map_cons]
theorem rmC_1 : rmC σ p (n + 1) = rmC σ p n ++ [byW (gI σ 27 (p + n))] := by
  unfold rmC
  rw [List.range'_concat, List.map_append]
  simp
/-- a number of the room -/
theorem T16r (h : p + n ≤ 25364) : MM 16 [mR (some 27), mI (p : Int), mI (n : Int)] σ = some (some (mL (leN (rmC σ p n))), σ) := by
  have key : ∀ (j : Nat) (L : List B64), p + j ≤ 25364 → RR (lkB tb16) (B16_7, [some (mR (some 27)), some (mI (p : Int)), some (mI (n : Int)), some (mL (leN L)), none, some (mI ((j : Int) - 1))], [], σ) = some (some (mL (leN (rmC σ p j ++ L))), σ) := by
    intro j
    induction j with
    | zero =>
      intro L _
      rw [e16_7, if_pos (by omega)]
      rfl
    | succ j ih =>
      intro L hj
      have ej : ((j + 1 : Nat) : Int) - 1 = (j : Int) := by omega
      have nl : ¬ (j : Int) < 0 := by omega
      have b2 : 0 ≤ ((p + j : Nat) : Int) ∧ ((p + j : Nat) : Int) < 25364 := by omega
      have s1 : -2147483648 ≤ (p : Int) + (j : Int) ∧ (p : Int) + (j : Int) < 2147483648 := by omega
      have s2 : -2147483648 ≤ (j : Int) + (-1) ∧ (j : Int) + (-1) < 2147483648 := by omega
      have e1 : (j : Int) + (-1) = (j : Int) - 1 := by omega
      have z := ih (byW (gI σ 27 (p + j)) :: L) (by omega)
      have e2 : lShl (leN L) 8 ||| iL (gI σ 27 (p + j) % 256) = leN (byW (gI σ 27 (p + j)) :: L) := rfl
      have wp : w32 ((p : Int) + (j : Int)) = ((p + j : Nat) : Int) := by
        rw [w32_i s1.1 s1.2]
        rfl
      have ww : w32 ((j : Int) + (-1)) = (j : Int) - 1 := by rw [w32_i s2.1 s2.2, e1]
      rw [ej, rmC_1, List.append_assoc, e16_7, if_neg nl]
      simp only [Option.getD_some, Option.bind_some, Option.toList_some, Option.toList_none, List.cons_append, List.nil_append, and_self, and_true, true_and, false_and, and_false, ite_self, not_true_eq_false, not_false_eq_true, reduceIte, Nat.reduceEqDiff, ab_I, ab_L, ab_R, ao_I, ao_L, ao_R, gL_sL, gI_sI, gR_sR, gI_sL, gI_sR, gL_sI, gL_sR, gR_sI, gR_sL, g_27, b2.1, b2.2, wp, Int.toNat_natCast, iAnd255, e2, ww]
      exact z
  have w1 : w32 ((n : Int) - 1) = (n : Int) - 1 := w32_i (by omega) (by omega)
  have z := key n [] h
  rw [List.append_nil] at z
  rw [M16, e16_0, w1]
  exact z
theorem T188 (h : p + n ≤ 25364) : MM 188 [mR (some 71), mL (iL (1048576 + (p : Int))), mI (n : Int)] σ = some (some (mL (leN (rmC σ p n))), σ) := by
  have t := T187 (σ := σ) h
  have t2 := T16r (σ := σ) h
  have p0 : 0 ≤ (p : Int) := by omega
  simp only [M188, e188_0, e188_6, e188_30, Option.getD_some, Option.bind_some, Option.toList_some, Option.toList_none, List.cons_append, List.nil_append, and_self, and_true, true_and, false_and, and_false, ite_self, not_true_eq_false, not_false_eq_true, reduceIte, Nat.reduceEqDiff, ab_I, ab_L, ab_R, ao_I, ao_L, ao_R, gL_sL, gI_sI, gR_sR, gI_sL, gI_sR, gL_sI, gL_sR, gR_sI, gR_sL, t, p0, if_true, t2]
theorem and255 (z : B64) : (z &&& 255#64).toInt = lI z % 256 := by
  have n1 : (z &&& 255#64).toNat = z.toNat % 256 := by
    rw [BitVec.toNat_and]
    exact Nat.and_two_pow_sub_one_eq_mod _ 8
  have n2 := toInt_c (z &&& 255#64)
  rw [n1, if_pos (by omega)] at n2
  rw [n2]
  unfold lI w32
  have n3 := toInt_c z
  rw [Int.bmod_def]
  split at n3 <;> split <;> omega
theorem bt64 (j : Nat) : (255#64).getLsbD j = decide (j < 8) := by
  have e : (255#64 : B64) = BitVec.ofNat 64 (2 ^ 8 - 1) := rfl
  rw [e, BitVec.getLsbD_ofNat, Nat.testBit_two_pow_sub_one]
  by_cases q : j < 8
  · rw [decide_eq_true q, decide_eq_true (show j < 64 by omega)]
    rfl
  · rw [decide_eq_false q, Bool.and_false]
/-- a byte of a number, shifted with its sign -/
theorem kpA (x : B64) (hk : k < 8) : w8 (w8 (lI (lShr x (w32 (8 * (k : Int)))))) = kpW (byJ x k) := by
  rw [w8w8, ← kpW_by x k hk]
  have e1 : w32 (8 * (k : Int)) = ((8 * k : Nat) : Int) := by
    rw [w32_i (by omega) (by omega)]
    omega
  rw [e1, iAnd255]
  have m1 : ∀ z : Int, w8 z = w8 (z % 256) := fun z => by
    unfold w8
    exact (Int.emod_bmod z 256).symm
  rw [m1]
  refine congrArg w8 ?_
  have a1 : lShr x ((8 * k : Nat) : Int) = x.sshiftRight (8 * k) := lShr_k _ (by omega)
  have a2 : lUsh x ((8 * k : Nat) : Int) = x >>> (8 * k) := by
    unfold lUsh
    rw [show (((8 * k : Nat) : Int) % 64).toNat = 8 * k by omega]
  rw [a1, a2, ← and255, ← and255]
  refine congrArg BitVec.toInt ?_
  apply BitVec.eq_of_getLsbD_eq
  intro j hj
  rw [BitVec.getLsbD_and, BitVec.getLsbD_and, bt64]
  by_cases j8 : j < 8
  · rw [BitVec.getLsbD_sshiftRight, BitVec.getLsbD_ushiftRight, if_pos (by omega)]
    have : ¬ 64 ≤ j := by omega
    simp [this]
  · rw [decide_eq_false j8, Bool.and_false, Bool.and_false]
/-- a number comes to the room -/
theorem T186 (hn : n ≤ 8) (h : p + n ≤ 25364) : MM 186 [mR (some 71), mI (p : Int), mL x, mI (n : Int)] σ = some (none, wzS σ 27 p ((bysN x n).map kpW)) := by
  have bs : ∀ j, bysN x (j + 1) = bysN x j ++ [byJ x j] := fun j => by
    unfold bysN
    rw [List.range_succ, List.map_append]
    rfl
  have key : ∀ (f j : Nat), j + f = n → RR (lkB tb186) (B186_3, [some (mR (some 71)), some (mI (p : Int)), some (mL x), none, some (mI (n : Int)), some (mI (j : Int))], [], wzS σ 27 p ((bysN x j).map kpW)) = some (none, wzS σ 27 p ((bysN x n).map kpW)) := by
    intro f
    induction f with
    | zero =>
      intro j z
      have z : j = n := by omega
      subst z
      rw [e186_3, if_pos (Int.le_refl _)]
    | succ f ih =>
      intro j z
      have nl : ¬ (n : Int) ≤ (j : Int) := by omega
      have j3 : j < 100000 := by omega
      have b2 : 0 ≤ ((p + j : Nat) : Int) ∧ ((p + j : Nat) : Int) < 25364 := by omega
      have s1 : -2147483648 ≤ (p : Int) + (j : Int) ∧ (p : Int) + (j : Int) < 2147483648 := by omega
      have z := ih (j + 1) (by omega)
      have ln : ((bysN x j).map kpW).length = j := by rw [List.length_map, bys_len]
      rw [bs, List.map_append, List.map_singleton, wzS_s, ln, ← kpA x (by omega)] at z
      have wp : w32 ((p : Int) + (j : Int)) = ((p + j : Nat) : Int) := by
        rw [w32_i s1.1 s1.2]
        rfl
      have ww : w32 ((j : Int) + 1) = ((j + 1 : Nat) : Int) := w32_s j3
      rw [e186_3, if_neg nl]
      simp only [Option.getD_some, Option.bind_some, Option.toList_some, Option.toList_none, List.cons_append, List.nil_append, and_self, and_true, true_and, false_and, and_false, ite_self, not_true_eq_false, not_false_eq_true, reduceIte, Nat.reduceEqDiff, ab_I, ab_L, ab_R, ao_I, ao_L, ao_R, gL_sL, gI_sI, gR_sR, gI_sL, gI_sR, gL_sI, gL_sR, gR_sI, gR_sL, g_27, b2.1, b2.2, wp, Int.toNat_natCast, ww]
      exact z
  rw [M186, e186_0]
  exact key n 0 (by omega)
theorem T189 (hn : n ≤ 8) (h : p + n ≤ 25364) : MM 189 [mR (some 71), mL (iL (1048576 + (p : Int))), mL x, mI (n : Int)] σ = some (none, wzS σ 27 p ((bysN x n).map kpW)) := by
  have t := T187 (σ := σ) h
  have t2 := T186 (σ := σ) (x := x) hn h
  have p0 : ¬ (p : Int) < 0 := by omega
  simp only [M189, e189_0, e189_7, e189_23, Option.getD_some, Option.bind_some, Option.toList_some, Option.toList_none, List.cons_append, List.nil_append, and_self, and_true, true_and, false_and, and_false, ite_self, not_true_eq_false, not_false_eq_true, reduceIte, Nat.reduceEqDiff, ab_I, ab_L, ab_R, ao_I, ao_L, ao_R, gL_sL, gI_sI, gR_sR, gI_sL, gI_sR, gL_sI, gL_sR, gR_sI, gR_sL, t, p0, if_false, t2]
end CROOM
/-! how the class's store shows a machine -/
def vlC (σ : MS) (φ : Nat → Nat) (k j : Nat) (v : SV) : Prop := okSV v ∧ (¬ v.1 = 6 → gL σ k j = enK φ v)
def rgsC (σ : MS) (φ : Nat → Nat) (c : TC WR) : Prop := (∀ r, r < 10 → vlC σ φ 76 r (cR c (cN c - 1) r)) ∧ (∀ f r, f + 1 < cN c → r < 10 → vlC σ φ 77 (10 * f + r) (cR c f r)) ∧ gL σ 76 10 = enK φ (cN c + 1, 128#64)
def mbC (φ : Nat → Nat) (y : Int) (m : MB) : Prop := (m.1 = 1 → byW y = m.2.2) ∧ (2 ≤ m.1 → m.1 ≤ 9 → byW y = byJ (enK φ (m.2.1, m.2.2)) (m.1 - 2) ∧ okSV (m.2.1, m.2.2) ∧ ¬ m.2.1 = 6)
def stkC (σ : MS) (φ : Nat → Nat) (c : TC WR) : Prop := ∀ f b, f < 4 → b < 128 → mbC φ (gI σ 27 (256 + 128 * f + b)) (cS c f b)
def bckC (σ : MS) (c : TC WR) : Prop := ∀ f, 1 ≤ f → f < cN c → gI σ 78 (f - 1) = cB c f
/-- what leads to a record leads to one that is held -/
def livC (c : TC WR) : Prop := (∀ f r, 300 ≤ (cR c f r).1 → (cR c f r).1 ≤ 363 ∧ ¬ wg (cW c) 152 ((cR c f r).1 - 300) = 0) ∧ ∀ f b, 2 ≤ (cS c f b).1 → 300 ≤ (cS c f b).2.1 → (cS c f b).2.1 ≤ 363 ∧ ¬ wg (cW c) 152 ((cS c f b).2.1 - 300) = 0
/-! the rest, part by part; what a map is -/
def wcK (σ : MS) (W : WR) (m : Nat) : Prop := wg W 95 m = gI σ 29 m ∧ wg W 96 m = gI σ 30 m ∧ wg W 97 m = gI σ 31 m ∧ wg W 98 m = gI σ 32 m ∧ wg W 99 m = gI σ 33 m
/-- a TABLE -/
def wcT (σ : MS) (W : WR) (m : Nat) : Prop := wg W 96 m = 1 → (wg W 101 m = gI σ 34 m ∧ wg W 101 m ≤ 16) ∧ (∀ e : Nat, (e : Int) < wg W 101 m → (wg W 103 (16 * m + e) = gI σ 35 (16 * m + e) ∧ 0 ≤ wg W 103 (16 * m + e) ∧ wg W 103 (16 * m + e) < 32) ∧ gI σ 37 (32 * m + (wg W 103 (16 * m + e)).toNat) = 1 ∧ (∀ e' : Nat, (e' : Int) < wg W 101 m → wg W 103 (16 * m + e') = wg W 103 (16 * m + e) → e' = e) ∧ ∀ k : Nat, k < 16 → (k : Int) < wg W 97 m → wg W 102 (256 * m + 16 * e + k) = gI σ 28 (16 * (32 * m + (wg W 103 (16 * m + e)).toNat) + k)) ∧ ∀ i, i < 32 → (wg W 104 (32 * m + i) = 0 ↔ gI σ 37 (32 * m + i) = 0) ∧ (¬ wg W 105 (32 * m + i) = 0 ↔ gI σ 37 (32 * m + i) = 2) ∧ (gI σ 37 (32 * m + i) = 2 → ¬ gI σ 26 12 = 0) ∧ (wg W 104 (32 * m + i) = 0 ∨ wg W 104 (32 * m + i) = 1)
/-- indices that have a slot -/
def cnP (W : WR) (m : Nat) : Nat := ((List.range 16).filter fun x => decide (0 ≤ wg W 106 (16 * m + x))).length
/-- PROGRAMS; a ROW -/
def wcP (σ : MS) (W : WR) (m : Nat) : Prop := (wg W 96 m = 2 → (∀ x, x < 16 → wg W 106 (16 * m + x) = gI σ 35 (16 * m + x)) ∧ gI σ 34 m = (cnP W m : Int)) ∧ (wg W 96 m = 0 → gI σ 34 m = wg W 99 m)
/-- RECORDS -/
def wcR (σ : MS) (W : WR) (m : Nat) : Prop := wg W 96 m = 3 → (wg W 107 m = gI σ 34 m ∧ wg W 107 m ≤ 16) ∧ (hldR W m : Int) = gI σ 38 m ∧ ∀ e : Nat, (e : Int) < wg W 107 m → (0 ≤ gI σ 35 (16 * m + e) ∧ gI σ 35 (16 * m + e) < 16) ∧ gI σ 37 (32 * m + (gI σ 35 (16 * m + e)).toNat) = 2 ∧ (wg W 108 (16 * m + e) = gI σ 36 (16 * m + (gI σ 35 (16 * m + e)).toNat) ∧ wg W 108 (16 * m + e) ≤ 64) ∧ (∀ b : Nat, (b : Int) < wg W 108 (16 * m + e) → wg W 109 (1024 * m + 64 * e + b) = gI σ 27 (17172 + 64 * (16 * m + (gI σ 35 (16 * m + e)).toNat) + b)) ∧ ∀ e' : Nat, (e' : Int) < wg W 107 m → gI σ 35 (16 * m + e') = gI σ 35 (16 * m + e) → e' = e
/-- a cell of RECORDS that isn't free is held or finished -/
def wcO (σ : MS) (φ : Nat → Nat) (W : WR) (m : Nat) : Prop := wg W 96 m = 3 → ∀ i, i < 32 → ¬ gI σ 37 (32 * m + i) = 0 → i < 16 ∧ ((∃ j, j < 64 ∧ ¬ wg W 152 j = 0 ∧ φ j = 16 * m + i) ∨ ∃ e : Nat, (e : Int) < wg W 107 m ∧ gI σ 35 (16 * m + e) = (i : Int))
/-- a map that isn't told -/
def wcN (σ : MS) (W : WR) (m : Nat) : Prop := wg W 95 m = 0 → (wg W 96 m = 0 ∧ wg W 101 m = 0 ∧ wg W 107 m = 0 ∧ gI σ 38 m = 0) ∧ (∀ i, i < 32 → wg W 104 (32 * m + i) = 0 ∧ wg W 105 (32 * m + i) = 0 ∧ gI σ 37 (32 * m + i) = 0) ∧ ∀ x, x < 16 → wg W 106 (16 * m + x) < 8
/-- a record that is held -/
def wcH (σ : MS) (φ : Nat → Nat) (W : WR) (i : Nat) : Prop := ¬ wg W 152 i = 0 → φ i < 128 ∧ (φ i / 16 : Nat) = (wg W 151 i).toNat ∧ gI σ 37 (32 * (φ i / 16) + φ i % 16) = 1 ∧ gI σ 36 (φ i) = wg W 150 i ∧ (∀ b, b < 64 → wg W 149 (64 * i + b) = gI σ 27 (17172 + 64 * φ i + b)) ∧ (0 ≤ wg W 151 i ∧ wg W 96 (φ i / 16) = 3 ∧ ¬ wg W 95 (φ i / 16) = 0)
def wcI (φ : Nat → Nat) (W : WR) : Prop := ∀ i j, i < 64 → j < 64 → ¬ wg W 152 i = 0 → ¬ wg W 152 j = 0 → φ i = φ j → i = j
/-- all of a map -/
def wcM (σ : MS) (φ : Nat → Nat) (W : WR) (m : Nat) : Prop := wcK σ W m ∧ wcT σ W m ∧ wcP σ W m ∧ wcR σ W m ∧ wcO σ φ W m ∧ wcN σ W m
def wldM (σ : MS) (φ : Nat → Nat) (W : WR) : Prop := (∀ m, m < 8 → wcM σ φ W m) ∧ (∀ i, i < 64 → wcH σ φ W i) ∧ wcI φ W
/-! values, packet, numbers, slots, trace, context -/
def wcV (σ : MS) (W : WR) : Prop := ∀ s, s < 16384 → wg W 100 s = gI σ 27 (788 + s)
def wcQ (σ : MS) (W : WR) : Prop := ∀ s : Nat, (s : Int) < wg W 80 105 → wg W 144 s = gI σ 27 s
def wcZ (σ : MS) (W : WR) : Prop := wg W 80 105 = gI σ 71 10 ∧ wg W 80 110 = gI σ 71 15 ∧ wg W 80 113 = gI σ 71 18 ∧ wg W 80 122 = gI σ 71 7 ∧ wg W 80 107 = gI σ 71 12
def wcG (σ : MS) (W : WR) : Prop := ∀ s, s < 8 → wg W 85 s = gI σ 16 s
def wcX (σ : MS) (W : WR) : Prop := ∀ s : Nat, (s : Int) < wg W 80 113 → wg W 145 s = gI σ 79 s
def wcC (σ : MS) (W : WR) : Prop := (∀ b, b < 4 → gI σ 27 (768 + b) = kpW (byJ (iL 1048576) b)) ∧ (∀ b, b < 4 → gI σ 27 (772 + b) = kpW (byJ (iL (1048576 + wg W 80 105)) b)) ∧ ∀ b, b < 4 → gI σ 27 (776 + b) = kpW (byJ (iL (wg W 80 105)) b)
def wcY (σ : MS) (W : WR) : Prop := (∀ b, b < 4 → gI σ 27 (780 + b) = kpW (byJ (BitVec.ofInt 64 (wg W 80 106)) b)) ∧ (∀ b, b < 4 → gI σ 27 (784 + b) = kpW (byJ (BitVec.ofInt 64 (wg W 80 107)) b)) ∧ (-2147483648 ≤ wg W 80 106 ∧ wg W 80 106 < 2147483648)
def wcL (σ : MS) (W : WR) : Prop := W.2.1 = gL σ 71 13 ∧ W.2.2 = gL σ 71 16
def wldA (σ : MS) (W : WR) : Prop := wcV σ W ∧ wcQ σ W ∧ wcZ σ W ∧ wcG σ W ∧ wcX σ W ∧ wcC σ W ∧ wcY σ W ∧ wcL σ W
/-- the rest, while a run goes -/
def wldC (σ : MS) (φ : Nat → Nat) (W : WR) : Prop := wldM σ φ W ∧ wldA σ W
/-- all -/
def RelC (σ : MS) (φ : Nat → Nat) (c : TC WR) : Prop := ((1 ≤ cN c ∧ cN c ≤ 4) ∧ gI σ 71 6 = (cN c : Int) - 1) ∧ rgsC σ φ c ∧ stkC σ φ c ∧ bckC σ c ∧ livC c ∧ wldC σ φ (cW c)
