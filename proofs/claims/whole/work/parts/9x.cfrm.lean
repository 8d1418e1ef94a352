/-! ===== the class's runs: fills, frames, FUNCTION, EXIT, operations ===== -/
section CFRM
variable {σ τ ρ : MS} {c c' : TC WR} {W V : WR} {w x A a0 z : B64} {v : SV} {a r f b k n o s p m d : Nat} {l : List B64} {y : Int} {φ : Nat → Nat}
theorem T578 {L : Nat} (h : a + n ≤ L) : MM 578 [mI (L : Int), mI (a : Int), mI ((a + n : Nat) : Int)] σ = some (none, σ) := by
  have c1 : (a : Int) ≤ ((a + n : Nat) : Int) := by omega
  have c2 : 0 ≤ (a : Int) := by omega
  have c3 : ((a + n : Nat) : Int) ≤ (L : Int) := by omega
  simp only [M578, e578_0, c1, c2, c3, if_true]
/-- bytes of the room are filled -/
theorem T582 (h : a + n ≤ 25364) : MM 582 [mR (some 27), mI (a : Int), mI ((a + n : Nat) : Int), mI y] σ = some (none, wzS σ 27 a (List.replicate n (w8 y))) := by
  have key : ∀ (f j : Nat), j + f = n → RR (lkB tb582) (B582_10, [some (mR (some 27)), some (mI (a : Int)), some (mI ((a + n : Nat) : Int)), some (mI y), some (mI ((a + j : Nat) : Int))], [], wzS σ 27 a (List.replicate j (w8 y))) = some (none, wzS σ 27 a (List.replicate n (w8 y))) := by
    intro f
    induction f with
    | zero =>
      intro j z
      have z : j = n := by omega
      subst z
      rw [e582_10, if_pos (Int.le_refl _)]
    | succ f ih =>
      intro j z
      have nl : ¬ ((a + n : Nat) : Int) ≤ ((a + j : Nat) : Int) := by omega
      have b0 : 0 ≤ ((a + j : Nat) : Int) ∧ ((a + j : Nat) : Int) < 25364 := by omega
      have j3 : a + j < 100000 := by omega
      have z := ih (j + 1) (by omega)
      rw [List.replicate_succ', wzS_s, List.length_replicate, ← Nat.add_assoc] at z
      have ww : w32 (((a + j : Nat) : Int) + 1) = ((a + j + 1 : Nat) : Int) := w32_s j3
      rw [e582_10, if_neg nl]
      simp only [Option.getD_some, Option.bind_some, Option.toList_some, Option.toList_none, List.cons_append, List.nil_append, and_self, and_true, true_and, false_and, and_false, ite_self, not_true_eq_false, not_false_eq_true, reduceIte, Nat.reduceEqDiff, ab_I, ab_L, ab_R, ao_I, ao_L, ao_R, gL_sL, gI_sI, gR_sR, gI_sL, gI_sR, gL_sI, gL_sR, gR_sI, gR_sL, g_27, b0.1, b0.2, Int.toNat_natCast, ww]
      exact z
  have k1 : kd σ 27 = (1, 25364) := rfl
  have t := T578 (σ := σ) h
  have z := key n 0 (by omega)
  rw [M582, e582_0]
  simp only [Option.getD_some, Option.bind_some, Option.toList_some, Option.toList_none, List.cons_append, List.nil_append, and_self, and_true, true_and, false_and, and_false, ite_self, not_true_eq_false, not_false_eq_true, reduceIte, Nat.reduceEqDiff, ab_I, ab_L, ab_R, ao_I, ao_L, ao_R, gL_sL, gI_sI, gR_sR, gI_sL, gI_sR, gL_sI, gL_sR, gR_sI, gR_sL, k1, t, e582_7]
  exact z
theorem rep_g {j : Nat} (h : j < n) : (List.replicate n y).getD j 0 = y := by
  rw [List.getD_eq_getElem?_getD, List.getElem?_eq_getElem (by rw [List.length_replicate]; exact h), List.getElem_replicate]
  rfl
/-- a frame begins -/
theorem T183 (h : gI σ 71 6 = (d : Int)) (hd : d < 4) : MM 183 [mR (some 71)] σ = some (none, sL (wzS σ 27 (256 + 128 * d) (List.replicate 128 0)) 76 10 (iL (1048576 + ((256 + 128 * d : Nat) : Int) + 128))) := by
  have s1 : -2147483648 ≤ (d : Int) * 128 ∧ (d : Int) * 128 < 2147483648 := by omega
  have s2 : -2147483648 ≤ 256 + (d : Int) * 128 ∧ 256 + (d : Int) * 128 < 2147483648 := by omega
  have s3 : -2147483648 ≤ ((256 + 128 * d : Nat) : Int) + 128 ∧ ((256 + 128 * d : Nat) : Int) + 128 < 2147483648 := by omega
  have e1 : 256 + (d : Int) * 128 = ((256 + 128 * d : Nat) : Int) := by omega
  have e2 : ((256 + 128 * d : Nat) : Int) + 128 = ((256 + 128 * d + 128 : Nat) : Int) := by omega
  have t := T582 (σ := σ) (a := 256 + 128 * d) (n := 128) (y := 0) (by omega)
  have w1 : w32 (256 + w32 ((d : Int) * 128)) = ((256 + 128 * d : Nat) : Int) := by rw [w32_i s1.1 s1.2, w32_i s2.1 s2.2, e1]
  have w2 : w32 (((256 + 128 * d : Nat) : Int) + 128) = ((256 + 128 * d + 128 : Nat) : Int) := by rw [w32_i s3.1 s3.2, e2]
  have z0 : w8 0 = 0 := by decide
  rw [z0] at t
  have ti : (10 : Int).toNat = 10 := rfl
  simp only [M183, e183_0, h, w1, w2, Option.getD_some, Option.bind_some, Option.toList_some, Option.toList_none, List.cons_append, List.nil_append, and_self, and_true, true_and, false_and, and_false, ite_self, not_true_eq_false, not_false_eq_true, reduceIte, Nat.reduceEqDiff, ab_I, ab_L, ab_R, ao_I, ao_L, ao_R, gL_sL, gI_sI, gR_sR, gI_sL, gI_sR, gL_sI, gL_sR, gR_sI, gR_sL, t, e183_30, g_76, Int.reduceLE, Int.reduceLT, iLa, ti]
theorem cpL_p {k0 k1 sp dp n k' s : Nat} : gL (cpL σ k0 (sp : Int) k1 (dp : Int) (n : Int)) k' s = if k' = k1 ∧ dp ≤ s ∧ s < dp + n then gL σ k0 (s - dp + sp) else gL σ k' s := by
  show (if k' = k1 ∧ (dp : Int) ≤ (s : Int) ∧ (s : Int) < (dp : Int) + (n : Int) then σ.2.1 k0 ((s : Int) - (dp : Int) + (sp : Int)).toNat else σ.2.1 k' s) = _
  by_cases q : k' = k1 ∧ dp ≤ s ∧ s < dp + n
  · rw [if_pos q, if_pos ⟨q.1, by omega, by omega⟩, show ((s : Int) - (dp : Int) + (sp : Int)).toNat = s - dp + sp by omega]
    rfl
  · rw [if_neg q, if_neg (by omega)]
    rfl
/-! the right side; operations -/
def sdC (σ : MS) (w : B64) : B64 := if rgt w then gL σ 76 (sRr w) else iL (fI w)
theorem b8_w (w : B64) : (w &&& iL 8 = BitVec.ofNat 64 0) = ¬ rgt w := by
  have b3 : ∀ j, j < 64 → (iL 8).getLsbD j = decide (j = 3) := by decide
  have w3 : w.getLsbD 3 = decide (w.toNat / 2 ^ 3 % 2 = 1) := Nat.testBit_eq_decide_div_mod_eq
  have h2 : fOp w = ((w.toNat % 256 : Nat) : Int) := by
    unfold fOp
    have := toInt_c w
    split at this <;> omega
  have hr : rgt w ↔ w.toNat / 2 ^ 3 % 2 = 1 := by
    show fOp w / 8 % 2 = 1 ↔ w.toNat / 8 % 2 = 1
    rw [h2]
    omega
  refine propext ⟨fun z r => ?_, fun r => ?_⟩
  · have q := congrArg (fun v => v.getLsbD 3) z
    have q : (w &&& iL 8).getLsbD 3 = (BitVec.ofNat 64 0).getLsbD 3 := q
    rw [BitVec.getLsbD_and, b3 3 (by decide), w3, decide_eq_true (hr.mp r)] at q
    exact absurd q (by decide)
  · apply BitVec.eq_of_getLsbD_eq
    intro j hj
    rw [BitVec.getLsbD_and, b3 j hj]
    by_cases q : j = 3
    · rw [q, w3, decide_eq_false (fun z => r (hr.mpr z))]
      simp
    · rw [decide_eq_false q, Bool.and_false]
      simp
theorem T194 (hs : rgt w → fS w ≤ 10) : MM 194 [mR (some 71), mL w] σ = some (some (mL (sdC σ w)), σ) := by
  have fr := fld_rng w
  have eS : fS w = ((sRr w : Nat) : Int) := by show fS w = ((fS w).toNat : Int); omega
  unfold sdC
  by_cases r : rgt w
  · have s10 := hs r
    have bS : 0 ≤ ((sRr w : Nat) : Int) ∧ ((sRr w : Nat) : Int) < 16 := by
      show 0 ≤ (((fS w).toNat : Nat) : Int) ∧ (((fS w).toNat : Nat) : Int) < 16
      omega
    have t2 : MM 2 [mL w] σ = some (some (mI ((sRr w : Nat) : Int)), σ) := by rw [T2, eS]
    have e8 : ¬ (w &&& iL 8 = BitVec.ofNat 64 0) := by rw [b8_w]; exact not_not_intro r
    rw [if_pos r]
    simp only [M194, e194_0, e8, if_false, t2, Option.getD_some, Option.bind_some, Option.toList_some, Option.toList_none, List.cons_append, List.nil_append, and_self, and_true, true_and, false_and, and_false, ite_self, not_true_eq_false, not_false_eq_true, reduceIte, Nat.reduceEqDiff, ab_I, ab_L, ab_R, ao_I, ao_L, ao_R, gL_sL, gI_sI, gR_sR, gI_sL, gI_sR, gL_sI, gL_sR, gR_sI, gR_sL, e194_18, g_76, bS.1, bS.2, Int.toNat_natCast]
  · have e8 : w &&& iL 8 = BitVec.ofNat 64 0 := by rw [b8_w]; exact r
    rw [if_neg r]
    simp only [M194, e194_0, eq_true e8, if_true, T4, Option.getD_some, Option.bind_some, Option.toList_some, Option.toList_none, List.cons_append, List.nil_append, and_self, and_true, true_and, false_and, and_false, ite_self, not_true_eq_false, not_false_eq_true, reduceIte, Nat.reduceEqDiff, ab_I, ab_L, ab_R, ao_I, ao_L, ao_R, gL_sL, gI_sI, gR_sR, gI_sL, gI_sR, gL_sI, gL_sR, gR_sI, gR_sL, e194_26]
end CFRM
