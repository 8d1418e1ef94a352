/-! ===== the class's runs: pairs ===== -/
section CPAR
variable {σ τ ρ : MS} {c c' : TC WR} {W V : WR} {w w2 x A z : B64} {v : SV} {a r f b k n o s p m d K : Nat} {l : List B64} {y g i : Int} {φ : Nat → Nat}
theorem hi_w (w : B64) : lUsh w 32 = BitVec.ofInt 64 (fI w) &&& cF := by
  apply BitVec.eq_of_toNat_eq
  have e1 : lUsh w 32 = w >>> 32 := rfl
  rw [e1, BitVec.toNat_ushiftRight, Nat.shiftRight_eq_div_pow, BitVec.toNat_and, show cF.toNat = 2 ^ 32 - 1 from rfl, Nat.and_two_pow_sub_one_eq_mod, BitVec.toNat_ofInt]
  have t := toInt_c w
  have hw := w.isLt
  have f : fI w = w.toInt / 4294967296 := rfl
  rw [f]
  split at t <;> omega
theorem lo_w (h : w2 &&& cF = 0#64) : w2 &&& ~~~cF = w2 := by
  apply BitVec.eq_of_getLsbD_eq
  intro j hj
  have q := congrArg (fun z => z.getLsbD j) h
  have q : (w2 &&& cF).getLsbD j = false := by
    have : (0#64 : B64).getLsbD j = false := by simp
    rw [← this]
    exact q
  rw [BitVec.getLsbD_and] at q
  rw [BitVec.getLsbD_and, BitVec.getLsbD_not]
  have : j < 64 := hj
  cases a : w2.getLsbD j <;> cases b : cF.getLsbD j <;> simp_all
/-- LD of a number; next stands behind the first word -/
theorem T191n (d9 : fD w ≤ 9) (s0 : fS w = 0) (h7 : gI σ 71 7 = (s : Int)) (hs : s < 8) (h8 : gI σ 71 8 = (p : Int)) (hn : (p : Int) < gI σ 15 s) (hK : gR σ 6 s = some K) (kK : kd σ K = (4, 200)) (hp : p < 200) : MM 191 [mR (some 71), mL w] σ = some (none, sI (sL σ 76 (dR w) (lUsh w 32 ||| gL σ K p)) 71 8 ((p : Int) + 1)) := by
  have fr := fld_rng w
  have eD : fD w = ((dR w : Nat) : Int) := by show fD w = ((fD w).toNat : Int); omega
  have bD : 0 ≤ ((dR w : Nat) : Int) ∧ ((dR w : Nat) : Int) < 16 := by
    show 0 ≤ (((fD w).toNat : Nat) : Int) ∧ (((fD w).toNat : Nat) : Int) < 16
    omega
  have t1 : MM 1 [mL w] σ = some (some (mI ((dR w : Nat) : Int)), σ) := by rw [T1, eD]
  have t2 : MM 2 [mL w] σ = some (some (mI 0), σ) := by rw [T2, s0]
  have bs : 0 ≤ (s : Int) ∧ (s : Int) < 8 := by omega
  have nl : ¬ gI σ 15 s ≤ (p : Int) := by omega
  have s1 : -2147483648 ≤ (p : Int) + 1 ∧ (p : Int) + 1 < 2147483648 := by omega
  have bp : 0 ≤ (p : Int) ∧ (p : Int) < 200 := by omega
  have n1 : ¬ (0 : Int) = 1 := by decide
  have gK : (Option.isSome (some K) = true ∧ ab σ 4 K (p : Int)) = (0 ≤ (p : Int) ∧ (p : Int) < 200) := gdK (n := 200) kK
  have g8 : ∀ x : B64, gI (sL σ 76 (dR w) x) 71 8 = (p : Int) := fun x => h8
  have ww : w32 ((p : Int) + 1) = (p : Int) + 1 := w32_i s1.1 s1.2
  simp only [M191, e191_0, Option.getD_some, Option.bind_some, Option.toList_some, Option.toList_none, List.cons_append, List.nil_append, and_self, and_true, true_and, false_and, and_false, ite_self, not_true_eq_false, not_false_eq_true, reduceIte, Nat.reduceEqDiff, ab_I, ab_L, ab_R, ao_I, ao_L, ao_R, gL_sL, gI_sI, gR_sR, gI_sL, gI_sR, gL_sI, gL_sR, gR_sI, gR_sL, t2, e191_4, n1, not_false_eq_true, if_true, g_15, h7, bs.1, bs.2, Int.toNat_natCast, h8, nl, if_false, t1]
  rw [e191_55]
  simp only [Option.getD_some, Option.bind_some, Option.toList_some, Option.toList_none, List.cons_append, List.nil_append, and_self, and_true, true_and, false_and, and_false, ite_self, not_true_eq_false, not_false_eq_true, reduceIte, Nat.reduceEqDiff, ab_I, ab_L, ab_R, ao_I, ao_L, ao_R, gL_sL, gI_sI, gR_sR, gI_sL, gI_sR, gL_sI, gL_sR, gR_sI, gR_sL, g_6, h7, bs.1, bs.2, Int.toNat_natCast, hK, h8, gK, bp.1, bp.2, g_76, bD.1, bD.2, e191_78, g8, ww]
/-- LD of a map -/
theorem T191m (d9 : fD w ≤ 9) (s1 : fS w = 1) (hi : 0 ≤ fI w ∧ fI w ≤ 7) (h8 : gI σ 71 8 = (p : Int)) (hp : p < 200) : MM 191 [mR (some 71), mL w] σ = some (none, sI (sL σ 76 (dR w) (iL (fI w + 1))) 71 8 ((p : Int) + 1)) := by
  have fr := fld_rng w
  have eD : fD w = ((dR w : Nat) : Int) := by show fD w = ((fD w).toNat : Int); omega
  have bD : 0 ≤ ((dR w : Nat) : Int) ∧ ((dR w : Nat) : Int) < 16 := by
    show 0 ≤ (((fD w).toNat : Nat) : Int) ∧ (((fD w).toNat : Nat) : Int) < 16
    omega
  have t1 : MM 1 [mL w] σ = some (some (mI ((dR w : Nat) : Int)), σ) := by rw [T1, eD]
  have t2 : MM 2 [mL w] σ = some (some (mI 1), σ) := by rw [T2, s1]
  have s1' : -2147483648 ≤ (p : Int) + 1 ∧ (p : Int) + 1 < 2147483648 := by omega
  have s2 : -2147483648 ≤ fI w + 1 ∧ fI w + 1 < 2147483648 := by omega
  have g8 : ∀ x : B64, gI (sL σ 76 (dR w) x) 71 8 = (p : Int) := fun x => h8
  have ww : w32 ((p : Int) + 1) = (p : Int) + 1 := w32_i s1'.1 s1'.2
  have wi : w32 (fI w + 1) = fI w + 1 := w32_i s2.1 s2.2
  simp only [M191, e191_0, Option.getD_some, Option.bind_some, Option.toList_some, Option.toList_none, List.cons_append, List.nil_append, and_self, and_true, true_and, false_and, and_false, ite_self, not_true_eq_false, not_false_eq_true, reduceIte, Nat.reduceEqDiff, ab_I, ab_L, ab_R, ao_I, ao_L, ao_R, gL_sL, gI_sI, gR_sR, gI_sL, gI_sR, gL_sI, gL_sR, gR_sI, gR_sL, t2, e191_4, not_true_eq_false, if_false, t1, e191_16, T4, e191_20, M192, e192_0, wi, e191_23, g_76, bD.1, bD.2, Int.toNat_natCast, e191_78, g8, ww]
end CPAR
