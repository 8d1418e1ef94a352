/-! ===== the reference's runs: loads ===== -/
section RLOD
variable {σ τ ρ : MS} {c c' : TC WR} {v : SV} {w x A : B64} {r f b k n o s i : Nat} {l : List B64} {y : Int}
/-- a number of the context -/
def ctxR (σ : MS) (b : Nat) : Int := if b < 12 then gI σ 80 105 else if b < 16 then gI σ 80 106 else gI σ 80 107
theorem T553c (h : 8 ≤ b ∧ b < 20) : MM 553 [mR (some 80), mL (adR 1 + BitVec.ofNat 64 b)] σ = some (some (mI (ctxR σ b / 2 ^ (8 * (b % 4)) % 256)), σ) := by
  have a1 := ad_o (o := 1) (k := b) (by omega) (by omega)
  have a2 := ad_k (o := 1) (k := b) (by omega) (by omega)
  have sh : ∀ y : Int, iAnd (iShr y (w32 (8 * iAnd (b : Int) 3))) 255 = y / 2 ^ (8 * (b % 4)) % 256 := fun y => by
    rw [iAnd3, w32_i (by omega) (by omega), iAnd255]
    unfold iShr
    rw [show (8 * ((b : Int) % 4) % 32).toNat = 8 * (b % 4) by omega]
  have e87 : ∀ y : Int, RR (lkB tb553) (B553_87, [some (mR (some 80)), some (mL (adR 1 + BitVec.ofNat 64 b)), none, some (mI 1), some (mI (b : Int)), none], [mI y], σ) = some (some (mI (y / 2 ^ (8 * (b % 4)) % 256)), σ) := fun y => by
    rw [e553_87, sh]
  rw [M553, e553_0, a1, a2, if_neg (by decide), if_neg (by omega)]
  unfold ctxR
  by_cases q : b < 12
  · rw [if_pos q, if_neg (by omega)]
    exact e87 _
  · rw [if_neg q, if_pos (by omega), show ((1 : Nat) : Int) = 1 from rfl, e553_44, if_neg (by omega)]
    by_cases q2 : b < 16
    · rw [if_pos q2, if_neg (by omega)]
      exact e87 _
    · rw [if_neg q2, if_pos (by omega), e553_65, if_neg (by omega), if_neg (by omega)]
      exact e87 _
theorem or8 {x : B64} {b : Int} (hx : x.toNat < 72057594037927936) (hb : 0 ≤ b ∧ b < 256) : ((x <<< 8) ||| iL b).toNat = x.toNat * 256 + b.toNat := by
  have eb : (iL b).toNat = b.toNat := by
    unfold iL
    rw [BitVec.toNat_ofInt]
    omega
  rw [BitVec.toNat_or, eb, BitVec.toNat_shiftLeft]
  have e1 : x.toNat <<< 8 % 2 ^ 64 = x.toNat <<< 8 := by
    rw [Nat.shiftLeft_eq]
    omega
  rw [e1, ← Nat.shiftLeft_add_eq_or_of_lt (show b.toNat < 2 ^ 8 by omega), Nat.shiftLeft_eq]
/-- four bytes of a number -/
theorem by4 (y : Int) : (((0#64 <<< 8 ||| iL (y / 2 ^ 24 % 256)) <<< 8 ||| iL (y / 2 ^ 16 % 256)) <<< 8 ||| iL (y / 2 ^ 8 % 256)) <<< 8 ||| iL (y / 2 ^ 0 % 256) = BitVec.ofInt 64 (y % 4294967296) := by
  have z0 : (0#64 : B64).toNat = 0 := rfl
  have h1 := or8 (x := 0#64) (b := y / 2 ^ 24 % 256) (by rw [z0]; decide) (by omega)
  have h2 := or8 (x := 0#64 <<< 8 ||| iL (y / 2 ^ 24 % 256)) (b := y / 2 ^ 16 % 256) (by rw [h1, z0]; omega) (by omega)
  have h3 := or8 (x := (0#64 <<< 8 ||| iL (y / 2 ^ 24 % 256)) <<< 8 ||| iL (y / 2 ^ 16 % 256)) (b := y / 2 ^ 8 % 256) (by rw [h2, h1, z0]; omega) (by omega)
  have h4 := or8 (x := ((0#64 <<< 8 ||| iL (y / 2 ^ 24 % 256)) <<< 8 ||| iL (y / 2 ^ 16 % 256)) <<< 8 ||| iL (y / 2 ^ 8 % 256)) (b := y / 2 ^ 0 % 256) (by rw [h3, h2, h1, z0]; omega) (by omega)
  apply BitVec.eq_of_toNat_eq
  rw [h4, h3, h2, h1, z0, BitVec.toNat_ofInt]
  omega
theorem T555c (h : b = 8 ∨ b = 12 ∨ b = 16) : MM 555 [mR (some 80), mL (adR 1 + BitVec.ofNat 64 b), mI 4] σ = some (some (mL (BitVec.ofInt 64 (ctxR σ b % 4294967296))), σ) := by
  have c3 : ∀ i, i < 4 → ctxR σ (b + i) = ctxR σ b := fun i hi => by
    unfold ctxR
    by_cases q : b < 12
    · rw [if_pos q, if_pos (by omega)]
    · rw [if_neg q, if_neg (by omega)]
      by_cases q2 : b < 16
      · rw [if_pos q2, if_pos (by omega)]
      · rw [if_neg q2, if_neg (by omega)]
  have t : ∀ i : Nat, i < 4 → MM 553 [mR (some 80), mL (adR 1 + BitVec.ofNat 64 b + iL (i : Int))] σ = some (some (mI (ctxR σ b / 2 ^ (8 * i) % 256)), σ) := fun i hi => by
    have z := T553c (σ := σ) (b := b + i) (by omega)
    rw [c3 i hi, show (b + i) % 4 = i by omega] at z
    rw [ad_s, nat_s]
    exact z
  have t3 : MM 553 [mR (some 80), mL (adR 1 + BitVec.ofNat 64 b + iL 3)] σ = some (some (mI (ctxR σ b / 2 ^ 24 % 256)), σ) := t 3 (by decide)
  have t2 : MM 553 [mR (some 80), mL (adR 1 + BitVec.ofNat 64 b + iL 2)] σ = some (some (mI (ctxR σ b / 2 ^ 16 % 256)), σ) := t 2 (by decide)
  have t1 : MM 553 [mR (some 80), mL (adR 1 + BitVec.ofNat 64 b + iL 1)] σ = some (some (mI (ctxR σ b / 2 ^ 8 % 256)), σ) := t 1 (by decide)
  have t0 : MM 553 [mR (some 80), mL (adR 1 + BitVec.ofNat 64 b + iL 0)] σ = some (some (mI (ctxR σ b / 2 ^ 0 % 256)), σ) := t 0 (by decide)
  have l8 : ∀ x : B64, lShl x 8 = x <<< 8 := fun x => rfl
  have w3 : w32 ((4 : Int) - 1) = 3 := by decide
  have w2 : w32 ((3 : Int) + (-1)) = 2 := by decide
  have w1 : w32 ((2 : Int) + (-1)) = 1 := by decide
  have w0 : w32 ((1 : Int) + (-1)) = 0 := by decide
  have wm : w32 ((0 : Int) + (-1)) = -1 := by decide
  rw [← by4]
  rw [M555, e555_0, w3, e555_8, if_neg (by decide), t3]
  simp only [Option.bind_some, Option.toList_some, List.cons_append, List.nil_append, e555_27, w2, l8]
  rw [e555_8, if_neg (by decide), t2]
  simp only [Option.bind_some, Option.toList_some, List.cons_append, List.nil_append, e555_27, w1, l8]
  rw [e555_8, if_neg (by decide), t1]
  simp only [Option.bind_some, Option.toList_some, List.cons_append, List.nil_append, e555_27, w0, l8]
  rw [e555_8, if_neg (by decide), t0]
  simp only [Option.bind_some, Option.toList_some, List.cons_append, List.nil_append, e555_27, wm, l8]
  rw [e555_8, if_pos (by decide)]
theorem byt_1 (w : B64) : 1 ≤ bytN w ∧ bytN w ≤ 8 := by
  unfold bytN
  repeat' split
  all_goals omega
theorem byt_8 (h : bytN w = 8) : fB w = 3 := by
  have fb : 0 ≤ fB w ∧ fB w < 4 := by unfold fB; omega
  unfold bytN at h
  by_cases b0 : fB w = 0
  · rw [if_pos b0] at h; omega
  · rw [if_neg b0] at h
    by_cases b1 : fB w = 1
    · rw [if_pos b1] at h; omega
    · rw [if_neg b1] at h
      by_cases b2 : fB w = 2
      · rw [if_pos b2] at h; omega
      · omega
/-- what was loaded comes to its register -/
theorem L560a (h : RelR σ c) (hd : fD w ≤ 9) {x8 x9 : Int} : RR (lkB tb560) (B560_105, [some (mR (some 80)), some (mL w), none, some (mI (fOp w)), some (mI ((bytN w : Nat) : Int)), some (mI (fM w)), some (mL A), none, some (mI x8), some (mI x9), none, none, none, none], [mL x], σ) = some (none, sL σ 146 (rpR c (dR w)) (if fM w = 128 then sxt (8 * bytN w) x else x)) := by
  have fr := fld_rng w
  have eD : fD w = ((dR w : Nat) : Int) := by show fD w = ((fD w).toNat : Int); omega
  have dl : dR w < 10 := dR_9 hd
  have F4 := (relF h).2
  have td := T550r h (r := dR w) (by omega)
  have t333 : MM 333 [mL w] σ = some (some (mI ((dR w : Nat) : Int)), σ) := by rw [T333, eD]
  have bD : 0 ≤ ((rpR c (dR w) : Nat) : Int) ∧ ((rpR c (dR w) : Nat) : Int) < 44 := by
    show 0 ≤ ((11 * (cN c - 1) + dR w : Nat) : Int) ∧ ((11 * (cN c - 1) + dR w : Nat) : Int) < 44
    omega
  have b8 := byt_1 w
  by_cases m : fM w = 128
  · rw [if_pos m]
    have t5 := T425 (σ := σ) (x := x) (b := 8 * bytN w) (by omega) (by omega)
    have ww : w32 (8 * ((bytN w : Nat) : Int)) = ((8 * bytN w : Nat) : Int) := by
      rw [w32_i (by omega) (by omega)]
      omega
    simp only [e560_105, e560_116, e560_119, e560_137, e560_142, Option.getD_some, Option.bind_some, Option.toList_some, Option.toList_none, List.cons_append, List.nil_append, and_self, and_true, true_and, false_and, and_false, ite_self, not_true_eq_false, not_false_eq_true, reduceIte, Nat.reduceEqDiff, ab_I, ab_L, ab_R, ao_I, ao_L, ao_R, gL_sL, gI_sI, gR_sR, gI_sL, gI_sR, gL_sI, gL_sR, gR_sI, gR_sL, t333, td, eq_true m, not_true_eq_false, ww, t5, g_146, bD.1, bD.2, Int.toNat_natCast]
  · rw [if_neg m]
    simp only [e560_105, e560_116, e560_119, e560_142, Option.getD_some, Option.bind_some, Option.toList_some, Option.toList_none, List.cons_append, List.nil_append, and_self, and_true, true_and, false_and, and_false, ite_self, not_true_eq_false, not_false_eq_true, reduceIte, Nat.reduceEqDiff, ab_I, ab_L, ab_R, ao_I, ao_L, ao_R, gL_sL, gI_sI, gR_sR, gI_sL, gI_sR, gL_sI, gL_sR, gR_sI, gR_sL, t333, td, eq_false m, not_false_eq_true, g_146, bD.1, bD.2, Int.toNat_natCast]
/-- up to the address -/
theorem L560b (h : RelR σ c) (h1 : fL w = 1) (hs : fS w ≤ 10) (a : B64) (ha : gL σ 146 (rpR c (sRr w)) = a) : MM 560 [mR (some 80), mL w, mI (fOp w)] σ = RR (lkB tb560) (B560_38, [some (mR (some 80)), some (mL w), none, some (mI (fOp w)), some (mI ((bytN w : Nat) : Int)), some (mI (fM w)), none, none, none, none, none, none, none, none], [mI (fO w), mL a], σ) := by
  have fr := fld_rng w
  have eS : fS w = ((sRr w : Nat) : Int) := by show fS w = ((fS w).toNat : Int); omega
  have F4 := (relF h).2
  have ts := T550r h (r := sRr w) (by omega)
  have t334 : MM 334 [mL w] σ = some (some (mI ((sRr w : Nat) : Int)), σ) := by rw [T334, eS]
  have bS : 0 ≤ ((rpR c (sRr w) : Nat) : Int) ∧ ((rpR c (sRr w) : Nat) : Int) < 44 := by
    show 0 ≤ ((11 * (cN c - 1) + sRr w : Nat) : Int) ∧ ((11 * (cN c - 1) + sRr w : Nat) : Int) < 44
    omega
  have w7 : iAnd (fOp w) 7 = 1 := (m7 w).trans h1
  have w224 : iAnd (fOp w) 224 = fM w := m224 w
  simp only [M560, e560_0, e560_4, e560_30, e560_33, Option.getD_some, Option.bind_some, Option.toList_some, Option.toList_none, List.cons_append, List.nil_append, and_self, and_true, true_and, false_and, and_false, ite_self, not_true_eq_false, not_false_eq_true, reduceIte, Nat.reduceEqDiff, ab_I, ab_L, ab_R, ao_I, ao_L, ao_R, gL_sL, gI_sI, gR_sR, gI_sL, gI_sR, gL_sI, gL_sR, gR_sI, gR_sL, T508, w7, w224, t334, ts, g_146, bS.1, bS.2, Int.toNat_natCast, T335, ha, not_true_eq_false]
/-- a load -/
theorem ld_R (h : RelR σ c) (pk : 0 ≤ gI σ 80 105 ∧ gI σ 80 105 ≤ 256) (hw : okMem w) (h1 : fL w = 1) (e : ldT RB RH c w = some v) : MM 560 [mR (some 80), mL w, mI (fOp w)] σ = some (none, sL σ 146 (rpR c (dR w)) (enR v)) ∧ okSV v := by
  have hw' := hw
  unfold okMem at hw'
  rw [if_pos h1] at hw'
  obtain ⟨hm, hd, hs, hi⟩ := hw'
  have fr := fld_rng w
  have b8 := byt_1 w
  have s10 : sRr w ≤ 10 := by show (fS w).toNat ≤ 10; omega
  have s38 := L560b h h1 hs _ rfl
  unfold ldT at e
  by_cases c1 : (rdR c (sRr w)).1 = 1
  · -- the context
    rw [if_pos c1] at e
    obtain ⟨ra, rk⟩ := rd_R h s10 (by omega)
    have r0 := rk.1 c1
    have ea : enR (rdR c (sRr w)) = adR 1 := by
      show enG adR (rdR c (sRr w)) = _
      rw [enG_p (by omega), r0, c1, BitVec.add_zero]
    rw [ea] at ra
    rw [ra] at s38
    by_cases q0 : ¬ fM w = 96 ∨ ¬ bytN w = 4
    · rw [if_pos q0] at e
      cases e
    · rw [if_neg q0] at e
      have m96 : fM w = 96 := Decidable.byContradiction fun z => q0 (Or.inl z)
      have n4 : bytN w = 4 := Decidable.byContradiction fun z => q0 (Or.inr z)
      have nx : ∀ x : B64, (if fM w = 128 then sxt (8 * bytN w) x else x) = x := fun x => if_neg (by omega)
      -- the address
      have hA : ∀ k : Nat, k < 20 → fO w = (k : Int) → adR 1 + iL (fO w) = adR 1 + BitVec.ofNat 64 k := fun k hk ek => by rw [ek, iLnat]
      by_cases o0 : fO w = 0
      · rw [if_pos o0] at e
        cases e
        have a1 := ad_o (o := 1) (k := 0) (by omega) (by omega)
        have a2 := ad_k (o := 1) (k := 0) (by omega) (by omega)
        have eA := hA 0 (by decide) o0
        have t9 := T549 (σ := σ) (x := 280) (k := 0)
        have la := fun x8 x9 => L560a (A := adR 1 + BitVec.ofNat 64 0) (x := iL (1048576 * 280 + 524288 + 0)) (x8 := x8) (x9 := x9) h hd
        refine ⟨?_, okSV_p (Or.inr (Or.inr (Or.inl rfl)))⟩
        have en : enR (280, 0#64) = iL (1048576 * 280 + 524288 + 0) := by
          show enG adR (280, 0#64) = _
          rw [enG_n (by decide), BitVec.add_zero]
          rfl
        have one : ((1 : Nat) : Int) = 1 := rfl
        have zer : ((0 : Nat) : Int) = 0 := rfl
        rw [en, s38, e560_38, eA, a1, a2, if_neg (not_not_intro one), if_neg (by decide), if_neg (not_not_intro zer)]
        simp only [e560_91, e560_94, Option.getD_some, Option.bind_some, Option.toList_some, Option.toList_none, List.cons_append, List.nil_append, and_self, and_true, true_and, false_and, and_false, ite_self, not_true_eq_false, not_false_eq_true, reduceIte, Nat.reduceEqDiff, ab_I, ab_L, ab_R, ao_I, ao_L, ao_R, gL_sL, gI_sI, gR_sR, gI_sL, gI_sR, gL_sI, gL_sR, gR_sI, gR_sL, t9]
        rw [la, nx]
      · rw [if_neg o0] at e
        by_cases o4 : fO w = 4
        · rw [if_pos o4] at e
          cases e
          have a1 := ad_o (o := 1) (k := 4) (by omega) (by omega)
          have a2 := ad_k (o := 1) (k := 4) (by omega) (by omega)
          have eA := hA 4 (by decide) o4
          have t9 := T549 (σ := σ) (x := 280) (k := gI σ 80 105)
          have la := fun x8 x9 => L560a (A := adR 1 + BitVec.ofNat 64 4) (x := iL (1048576 * 280 + 524288 + gI σ 80 105)) (x8 := x8) (x9 := x9) h hd
          refine ⟨?_, okSV_p (Or.inr (Or.inr (Or.inl rfl)))⟩
          have g1 := h.2.2.2.2.1 80 105 (by omega)
          have en : enR (280, BitVec.ofNat 64 (RB.1 (cW c))) = iL (1048576 * 280 + 524288 + gI σ 80 105) := by
            show enG adR (280, BitVec.ofNat 64 (RB.1 (cW c))) = _
            rw [enG_n (by decide), ad_i]
            refine congrArg iL ?_
            show _ + ((min (wg (cW c) 80 105).toNat 256 : Nat) : Int) = _
            rw [g1, Nat.min_eq_left (by omega)]
            omega
          have one : ((1 : Nat) : Int) = 1 := rfl
          rw [en, s38, e560_38, eA, a1, a2, if_neg (not_not_intro one), if_neg (by decide), if_pos (by decide)]
          simp only [e560_91, e560_94, Option.getD_some, Option.bind_some, Option.toList_some, Option.toList_none, List.cons_append, List.nil_append, and_self, and_true, true_and, false_and, and_false, ite_self, not_true_eq_false, not_false_eq_true, reduceIte, Nat.reduceEqDiff, ab_I, ab_L, ab_R, ao_I, ao_L, ao_R, gL_sL, gI_sI, gR_sR, gI_sL, gI_sR, gL_sI, gL_sR, gR_sI, gR_sL, t9]
          rw [la, nx]
        · rw [if_neg o4] at e
          by_cases o8 : fO w = 8 ∨ fO w = 12 ∨ fO w = 16
          · rw [if_pos o8] at e
            cases e
            obtain ⟨k, hk⟩ : ∃ k : Nat, fO w = (k : Int) := ⟨(fO w).toNat, by omega⟩
            have kk : k = 8 ∨ k = 12 ∨ k = 16 := by omega
            have a1 := ad_o (o := 1) (k := k) (by omega) (by omega)
            have a2 := ad_k (o := 1) (k := k) (by omega) (by omega)
            have eA := hA k (by omega) hk
            have t5 := T555c (σ := σ) kk
            have n4' : ((bytN w : Nat) : Int) = 4 := by omega
            have one : ((1 : Nat) : Int) = 1 := rfl
            have la := fun x8 x9 => L560a (A := adR 1 + BitVec.ofNat 64 k) (x := BitVec.ofInt 64 (ctxR σ k % 4294967296)) (x8 := x8) (x9 := x9) h hd
            refine ⟨?_, okSV_0⟩
            have g1 := h.2.2.2.2.1
            have en : enR (0, RH.1 (cW c) (fO w)) = BitVec.ofInt 64 (ctxR σ k % 4294967296) := by
              show enG adR (0, RH.1 (cW c) (fO w)) = _
              rw [enG_0]
              show BitVec.ofInt 64 ((if fO w = 8 then wg (cW c) 80 105 else if fO w = 12 then wg (cW c) 80 106 else wg (cW c) 80 107) % 4294967296) = _
              rw [g1 80 105 (by omega), g1 80 106 (by omega), g1 80 107 (by omega)]
              unfold ctxR
              rcases kk with z | z | z <;> subst z
              · rw [if_pos (show fO w = 8 from hk), if_pos (by decide)]
              · rw [if_neg (by omega), if_pos (show fO w = 12 from hk), if_neg (by decide), if_pos (by decide)]
              · rw [if_neg (by omega), if_neg (by omega), if_neg (by decide), if_neg (by decide)]
            rw [en, s38, e560_38, eA, a1, a2, if_neg (not_not_intro one), if_pos (by omega)]
            rw [n4'] at la ⊢
            simp only [e560_97, Option.getD_some, Option.bind_some, Option.toList_some, Option.toList_none, List.cons_append, List.nil_append, and_self, and_true, true_and, false_and, and_false, ite_self, not_true_eq_false, not_false_eq_true, reduceIte, Nat.reduceEqDiff, ab_I, ab_L, ab_R, ao_I, ao_L, ao_R, gL_sL, gI_sI, gR_sR, gI_sL, gI_sR, gL_sI, gL_sR, gR_sI, gR_sL, t5]
            rw [la, nx]
          · rw [if_neg o8] at e
            cases e
  · rw [if_neg c1] at e
    -- objects with bytes
    have key : ∀ (n6 : ¬ (rdR c (sRr w)).1 = 6) (n0 : ¬ (rdR c (sRr w)).1 = 0), (∀ i, i < bytN w → obR (rdR c (sRr w)).1 ((offN (rdR c (sRr w)).2 (fO w)).toNat + i)) → MM 560 [mR (some 80), mL w, mI (fOp w)] σ = some (none, sL σ 146 (rpR c (dR w)) (if fM w = 128 then sxt (8 * bytN w) (leN (lsR σ (rdR c (sRr w)).1 (offN (rdR c (sRr w)).2 (fO w)).toNat (bytN w))) else leN (lsR σ (rdR c (sRr w)).1 (offN (rdR c (sRr w)).2 (fO w)).toNat (bytN w)))) := fun n6 n0 ob => by
      obtain ⟨ra, rk⟩ := rd_R h s10 n6
      have o0 := ob 0 (by omega)
      have ea : enR (rdR c (sRr w)) + iL (fO w) = adR (rdR c (sRr w)).1 + BitVec.ofNat 64 (offN (rdR c (sRr w)).2 (fO w)).toNat := by
        show enG adR (rdR c (sRr w)) + iL (fO w) = _
        rw [enG_p n0, BitVec.add_assoc, BitVec.ofNat_toNat, BitVec.setWidth_eq]
        rfl
      rw [ra] at s38
      have a1 := ad_o (o := (rdR c (sRr w)).1) (k := (offN (rdR c (sRr w)).2 (fO w)).toNat) (by omega) (by omega)
      have a2 := ad_k (o := (rdR c (sRr w)).1) (k := (offN (rdR c (sRr w)).2 (fO w)).toNat) (by omega) (by omega)
      have t5 := T555 (σ := σ) (n := bytN w) (by omega) ob
      have la := fun x8 x9 => L560a (A := adR (rdR c (sRr w)).1 + BitVec.ofNat 64 (offN (rdR c (sRr w)).2 (fO w)).toNat) (x := leN (lsR σ (rdR c (sRr w)).1 (offN (rdR c (sRr w)).2 (fO w)).toNat (bytN w))) (x8 := x8) (x9 := x9) h hd
      rw [s38, e560_38, ea, a1, a2, if_pos (by omega)]
      simp only [e560_97, Option.getD_some, Option.bind_some, Option.toList_some, Option.toList_none, List.cons_append, List.nil_append, and_self, and_true, true_and, false_and, and_false, ite_self, not_true_eq_false, not_false_eq_true, reduceIte, Nat.reduceEqDiff, ab_I, ab_L, ab_R, ao_I, ao_L, ao_R, gL_sL, gI_sI, gR_sR, gI_sL, gI_sR, gL_sI, gL_sR, gR_sI, gR_sL, t5]
      exact la _ _
    by_cases c2 : (2 ≤ (rdR c (sRr w)).1 ∧ (rdR c (sRr w)).1 ≤ 5) ∧ (bytN w = 8 ∧ (offN (rdR c (sRr w)).2 (fO w)).toNat % 8 = 0 ∧ (offN (rdR c (sRr w)).2 (fO w)).toNat < 128) ∧ (cS c ((rdR c (sRr w)).1 - 2) (offN (rdR c (sRr w)).2 (fO w)).toNat).1 = 2
    · rw [if_pos c2] at e
      obtain ⟨⟨o2, o5⟩, ⟨n8, al, lt⟩, tg⟩ := c2
      by_cases wp : isWp c ((rdR c (sRr w)).1 - 2) (offN (rdR c (sRr w)).2 (fO w)).toNat
      · rw [if_pos wp] at e
        have e := Option.some.inj e
        have st := h.2.2.1
        have ob : ∀ i, i < bytN w → obR (rdR c (sRr w)).1 ((offN (rdR c (sRr w)).2 (fO w)).toNat + i) := fun i hi => Or.inl ⟨⟨o2, o5⟩, by omega⟩
        have k := key (by omega) (by omega) ob
        have nm : ¬ fM w = 128 := fun z => by
          rcases hm with q | q
          · omega
          · exact q.2 (byt_8 n8)
        rw [if_neg nm, n8] at k
        generalize (offN (rdR c (sRr w)).2 (fO w)).toNat = B at *
        have vb := fun j (hj : j < 8) => (st ((rdR c (sRr w)).1 - 2) (B + j) (by omega) (by omega)).2
        have each : ∀ j, j < 8 → byW (byR σ (rdR c (sRr w)).1 (B + j)) = byJ (enR v) j ∧ okSV v := fun j hj => by
          have m := vb j hj
          rw [wp j hj] at m
          have m := m (by show 2 ≤ 2 + j; omega) (by show 2 + j ≤ 9; omega)
          have m1 : byW (gI σ 147 (128 * ((rdR c (sRr w)).1 - 2) + (B + j))) = byJ (enR (cS c ((rdR c (sRr w)).1 - 2) B).2) (2 + j - 2) := m.1
          rw [e, show 2 + j - 2 = j by omega] at m1
          refine ⟨?_, ?_⟩
          · unfold byR
            rw [(cpo_s (b := B + j) ⟨o2, o5⟩).1, (cpo_s (b := B + j) ⟨o2, o5⟩).2]
            exact m1
          · have m2 : okSV (cS c ((rdR c (sRr w)).1 - 2) B).2 := m.2.1
            rw [e] at m2
            exact m2
        refine ⟨?_, (each 0 (by decide)).2⟩
        rw [k]
        have el : lsR σ (rdR c (sRr w)).1 B 8 = bysN (enR v) 8 := by
          unfold lsR bysN
          rw [List.range_eq_range']
          rw [show (List.range' B 8) = (List.range' 0 8).map (fun j => B + j) by
            rw [List.map_add_range']
            rfl, List.map_map]
          refine List.map_congr_left fun j hj => ?_
          have hj : j < 8 := by
            have := List.mem_range'_1.mp hj
            omega
          exact (each j hj).1
        rw [el, leN_bys]
      · rw [if_neg wp] at e
        cases e
    · rw [if_neg c2] at e
      cases el : rdL RB c (rdR c (sRr w)).1 (offN (rdR c (sRr w)).2 (fO w)).toNat (bytN w) with
      | none =>
        rw [el] at e
        cases e
      | some l =>
        rw [el] at e
        have e := Option.some.inj e
        obtain ⟨ob, el⟩ := rdL_R h _ _ _ el
        have o0 := ob 0 (by omega)
        have k := key (by omega) (by omega) ob
        rw [← el] at k
        rw [← e]
        refine ⟨?_, okSV_0⟩
        rw [k]
        show _ = some (none, sL σ 146 (rpR c (dR w)) (enG adR (0, _)))
        rw [enG_0]
end RLOD
