/-! ===== the class's runs: a program begins; TAIL; bytes of the packet; the packet moved ===== -/
section CHP3
variable {σ τ ρ : MS} {W V : WR} {c c' d : TC WR} {m n p q p0 e j i z N C r o k : Nat} {L : List B64} {y nx hh : Int} {E : EV} {φ ψ : Nat → Nat} {x v : B64} {S : Nat → Nat → MB} {u : SV}
theorem T579 : ∃ τ, MM 579 [mR (some 76), mL x] σ = some (none, τ) ∧ τ.1 = σ.1 ∧ τ.2.2 = σ.2.2 ∧ ∀ k s, gL τ k s = if k = 76 ∧ s < 16 then x else gL σ k s := by
  have key : ∀ (f j : Nat) (ρ : MS), j + f = 16 → ρ.1 = σ.1 → ρ.2.2 = σ.2.2 → (∀ k s, gL ρ k s = if k = 76 ∧ s < j then x else gL σ k s) → ∃ τ, RR (lkB tb579) (B579_6, [some (mR (some 76)), some (mL x), none, some (mI (j : Int)), some (mI 16)], [], ρ) = some (none, τ) ∧ τ.1 = σ.1 ∧ τ.2.2 = σ.2.2 ∧ ∀ k s, gL τ k s = if k = 76 ∧ s < 16 then x else gL σ k s := by
    intro f
    induction f with
    | zero =>
      intro j ρ z r1 r2 r
      have z : j = 16 := by omega
      subst z
      refine ⟨ρ, ?_, r1, r2, r⟩
      rw [e579_6, if_pos (by decide)]
    | succ f ih =>
      intro j ρ z r1 r2 r
      have nl : ¬ (16 : Int) ≤ (j : Int) := by omega
      have b0 : 0 ≤ (j : Int) ∧ (j : Int) < 16 := by omega
      have ww : w32 ((j : Int) + 1) = ((j + 1 : Nat) : Int) := w32_s (by omega)
      obtain ⟨τ, t, t1⟩ := ih (j + 1) (sL ρ 76 j x) (by omega) r1 r2 fun k s => by
        rw [gL_sL, r]
        by_cases q : k = 76 ∧ s = j
        · rw [if_pos q, if_pos (by omega)]
        · rw [if_neg q]
          by_cases q2 : k = 76 ∧ s < j
          · rw [if_pos q2, if_pos (by omega)]
          · rw [if_neg q2, if_neg (by omega)]
      refine ⟨τ, ?_, t1⟩
      rw [e579_6, if_neg nl]
      simp only [Option.getD_some, Option.bind_some, Option.toList_some, Option.toList_none, List.cons_append, List.nil_append, and_self, and_true, true_and, false_and, and_false, ite_self, not_true_eq_false, not_false_eq_true, reduceIte, Nat.reduceEqDiff, ab_I, ab_L, ab_R, ao_I, ao_L, ao_R, gL_sL, gI_sI, gR_sR, gI_sL, gI_sR, gL_sI, gL_sR, gR_sI, gR_sL, g_76, b0.1, b0.2, Int.toNat_natCast, ww]
      exact t
  have k1 : kd σ 76 = (4, 16) := rfl
  have is1 : Option.isSome (some (76 : Nat)) = true := rfl
  obtain ⟨τ, t, t1⟩ := key 16 0 σ (by omega) rfl rfl fun k s => by rw [if_neg (by omega)]
  refine ⟨τ, ?_, t1⟩
  rw [M579, e579_0]
  simp only [Option.getD_some, Option.bind_some, Option.toList_some, Option.toList_none, List.cons_append, List.nil_append, and_self, and_true, true_and, false_and, and_false, ite_self, not_true_eq_false, not_false_eq_true, reduceIte, Nat.reduceEqDiff, ab_I, ab_L, ab_R, ao_I, ao_L, ao_R, gL_sL, gI_sI, gR_sR, gI_sL, gI_sR, gL_sI, gL_sR, gR_sI, gR_sL, k1, is1]
  exact t
/-- a program begins -/
theorem T182 : ∃ τ, MM 182 [mR (some 71), mI y] σ = some (none, τ) ∧ (∀ k s, gI τ k s = if k = 71 ∧ s = 6 then 0 else if k = 71 ∧ s = 8 then 0 else if k = 71 ∧ s = 7 then y else if k = 27 ∧ 256 ≤ s ∧ s < 384 then 0 else gI σ k s) ∧ (∀ k s, gL τ k s = if k = 76 ∧ s = 10 then iL 1048960 else if k = 76 ∧ s = 1 then iL 1049344 else if k = 76 ∧ s < 16 then 0#64 else gL σ k s) ∧ τ.2.2 = σ.2.2 := by
  obtain ⟨υ, hυ⟩ : ∃ υ, υ = sI (sI (sI σ 71 7 y) 71 8 0) 71 6 0 := ⟨_, rfl⟩
  obtain ⟨ω, t, t1, t2, t3⟩ := T579 (σ := υ) (x := BitVec.ofNat 64 0)
  have gu : ∀ k s, gI υ k s = if k = 71 ∧ s = 6 then 0 else if k = 71 ∧ s = 8 then 0 else if k = 71 ∧ s = 7 then y else gI σ k s := fun k s => by rw [hυ, gI_sI, gI_sI, gI_sI]
  have gw : ∀ k s, gI ω k s = gI υ k s := fun k s => by
    show ω.1 k s = υ.1 k s
    rw [t1]
  obtain ⟨κ, hκ⟩ : ∃ κ, κ = sL ω 76 1 (iL 1049344) := ⟨_, rfl⟩
  have k6 : gI κ 71 6 = ((0 : Nat) : Int) := by
    rw [hκ, gI_sL, gw, gu, if_pos ⟨rfl, rfl⟩]
    rfl
  have t83 := T183 (σ := κ) (d := 0) k6 (by decide)
  have e10 : iL (1048576 + ((256 + 128 * 0 : Nat) : Int) + 128) = iL 1048960 := rfl
  rw [e10] at t83
  refine ⟨sL (wzS κ 27 (256 + 128 * 0) (List.replicate 128 0)) 76 10 (iL 1048960), ?_, fun k s => ?_, fun k s => ?_, ?_⟩
  · rw [M182, e182_0, ← hυ, e182_15, t]
    simp only [Option.getD_some, Option.bind_some, Option.toList_some, Option.toList_none, List.cons_append, List.nil_append, and_self, and_true, true_and, false_and, and_false, ite_self, not_true_eq_false, not_false_eq_true, reduceIte, Nat.reduceEqDiff, ab_I, ab_L, ab_R, ao_I, ao_L, ao_R, gL_sL, gI_sI, gR_sR, gI_sL, gI_sR, gL_sI, gL_sR, gR_sI, gR_sL]
    have i1 : (1 : Int).toNat = 1 := rfl
    rw [e182_23]
    simp only [Option.getD_some, Option.bind_some, Option.toList_some, Option.toList_none, List.cons_append, List.nil_append, and_self, and_true, true_and, false_and, and_false, ite_self, not_true_eq_false, not_false_eq_true, reduceIte, Nat.reduceEqDiff, ab_I, ab_L, ab_R, ao_I, ao_L, ao_R, gL_sL, gI_sI, gR_sR, gI_sL, gI_sR, gL_sI, gL_sR, gR_sI, gR_sL, g_76, Int.reduceLE, Int.reduceLT, i1, ← hκ, t83, e182_36]
  · rw [gI_sL, wzS_g, List.length_replicate]
    by_cases q : k = 27 ∧ 256 ≤ s ∧ s < 384
    · rw [if_pos ⟨q.1, by omega, by omega⟩, rep_g (by omega), if_neg (by omega), if_neg (by omega), if_neg (by omega), if_pos q]
    · rw [if_neg (by omega), hκ, gI_sL, gw, gu]
      by_cases q1 : k = 71 ∧ s = 6
      · rw [if_pos q1, if_pos q1]
      · rw [if_neg q1, if_neg q1]
        by_cases q2 : k = 71 ∧ s = 8
        · rw [if_pos q2, if_pos q2]
        · rw [if_neg q2, if_neg q2]
          by_cases q3 : k = 71 ∧ s = 7
          · rw [if_pos q3, if_pos q3]
          · rw [if_neg q3, if_neg q3, if_neg q]
  · rw [gL_sL]
    by_cases q1 : k = 76 ∧ s = 10
    · rw [if_pos q1, if_pos q1]
    · rw [if_neg q1, if_neg q1, gL_2 (wzS_2 _ _ _), hκ, gL_sL]
      by_cases q2 : k = 76 ∧ s = 1
      · rw [if_pos q2, if_pos q2]
      · rw [if_neg q2, if_neg q2, t3]
        by_cases q3 : k = 76 ∧ s < 16
        · rw [if_pos q3, if_pos q3]
        · rw [if_neg q3, if_neg q3, hυ]
          rfl
  · show (wzS κ 27 (256 + 128 * 0) (List.replicate 128 0)).2.2 = _
    rw [wzS_2, hκ]
    show ω.2.2 = _
    rw [t2, hυ]
    rfl
theorem RelC_0 (wl : wldC τ φ V) (g6 : gI τ 71 6 = 0) (l1 : gL τ 76 1 = iL 1049344) (l10 : gL τ 76 10 = iL 1048960) : RelC τ φ (st0 V) := by
  refine ⟨⟨⟨Nat.le_refl 1, by show 1 ≤ 4; decide⟩, g6⟩, ⟨fun r hr => ?_, fun f r hf hr => by have hf : f + 1 < 1 := hf; omega, ?_⟩, fun f b hf hb => ⟨fun z => absurd z (show ¬ (0 : Nat) = 1 by decide), fun z => absurd z (show ¬ 2 ≤ (0 : Nat) by decide)⟩, fun f f1 f2 => by have f2 : f < 1 := f2; omega, ⟨fun f r z => ?_, fun f b z => absurd z (show ¬ 2 ≤ (0 : Nat) by decide)⟩, wl⟩
  · by_cases q : r = 1
    · have e : cR (st0 V) (cN (st0 V) - 1) r = (1, 0#64) := if_pos ⟨rfl, q⟩
      rw [e, q]
      refine ⟨⟨fun _ => rfl, fun z => absurd z (show ¬ 8 ≤ (1 : Nat) by decide), by show 1 < 400; decide⟩, fun _ => l1.trans rfl⟩
    · have e : cR (st0 V) (cN (st0 V) - 1) r = nilR := if_neg (fun z => q z.2)
      rw [e]
      exact ⟨okSV_n, fun z => absurd (show nilR.1 = 6 from rfl) z⟩
  · exact l10.trans rfl
  · have z : 300 ≤ (if f = 0 ∧ r = 1 then (1, 0#64) else nilR : SV).1 := z
    exfalso
    split at z
    · exact absurd z (show ¬ 300 ≤ (1 : Nat) by decide)
    · exact absurd z (show ¬ 300 ≤ (6 : Nat) by decide)
theorem hp_12C (h : RelC σ φ c) (hI : invW (cW c)) (C : CEO σ E) (hK : hpK RB E c 12) (e : hpT RB RH E c 12 nx = some (k, c')) : hpC σ φ c 12 nx k c' := by
  unfold hpT at e
  rw [if_neg (by decide), if_neg (by decide), if_neg (by decide), if_neg (by decide), if_pos rfl] at e
  have hK := hK.2.1 rfl
  by_cases q : ¬ (rdR c 1) = (1, 0#64) ∨ ¬ isMap (rdR c 2) ∨ ¬ (rdR c 3).1 = 0 ∨ ¬ cN c = 1
  · rw [if_pos q] at e
    cases e
  · rw [if_neg q] at e
    have mp : isMap (rdR c 2) := Decidable.byContradiction fun z => q (Or.inr (Or.inl z))
    have z3 : (rdR c 3).1 = 0 := Decidable.byContradiction fun z => q (Or.inr (Or.inr (Or.inl z)))
    have n1 : cN c = 1 := Decidable.byContradiction fun z => q (Or.inr (Or.inr (Or.inr z)))
    obtain ⟨m, hm, em, r2⟩ := mp_C h (r := 2) (by decide) mp
    rw [em, Int.toNat_natCast] at hK
    obtain ⟨r3, _⟩ := rd_C h (r := 3) (by decide) (by omega)
    have r3 : gL σ 76 3 = (rdR c 3).2 := r3.trans (enG_z z3)
    obtain ⟨X, hX⟩ : ∃ X, X = (rdR c 3).2 := ⟨_, rfl⟩
    rw [← hX] at r3 e
    rw [em] at e
    rw [show RH.2.2.2.2.2.2.2.2.1 (cW c) (m : Int) X = taiR (cW c) m X from rfl] at e
    have h' := h
    obtain ⟨_, _, _, _, _, hM, k4, k5, k6, k7, k8, k9, k10, k11⟩ := h'
    obtain ⟨⟨c1, c2, c3, c4, c5⟩, _, a3, _⟩ := hM.1 m hm
    obtain ⟨_, _, q3, q4⟩ := C m hm
    have nz : ¬ gI σ 29 m = 0 := fun z => by have := q3 z; omega
    have kk : wg (cW c) 96 m = 2 := by rw [c2, ← (q4 nz).1]; exact hK
    have lst := (a3.1 kk).1
    have t198 := T198 (y := 2) C hm ⟨by omega, hK⟩
    have i3 : (3 : Int).toNat = 3 := rfl
    have i2 : (2 : Int).toNat = 2 := rfl
    have m0 : ¬ (m : Int) < 0 := by omega
    have b0 : 0 ≤ (m : Int) ∧ (m : Int) < 8 := by omega
    have z0 : (BitVec.ofNat 64 0).toInt = 0 := by decide
    have pk := hI.2.2.2.1
    have i9 := (hI.1 m hm).1.2.2.1
    have tm : (iL (gI σ 33 m)).toInt = gI σ 33 m := iLt (by omega) (by omega)
    have tX := toInt_c X
    have s0 : MM 201 [mR (some 71)] σ = RR (lkB tb201) (B201_11, [some (mR (some 71)), none, none, none, none], [mI (m : Int)], σ) := by
      rw [M201, e201_0]
      simp only [Option.getD_some, Option.bind_some, Option.toList_some, Option.toList_none, List.cons_append, List.nil_append, and_self, and_true, true_and, false_and, and_false, ite_self, not_true_eq_false, not_false_eq_true, reduceIte, Nat.reduceEqDiff, ab_I, ab_L, ab_R, ao_I, ao_L, ao_R, gL_sL, gI_sI, gR_sR, gI_sL, gI_sR, gL_sI, gL_sR, gR_sI, gR_sL, g_76, Int.reduceLE, Int.reduceLT, i2, r2, t198]
    -- the class stays
    have stay : MM 201 [mR (some 71)] σ = some (some (mL (iL (-1))), σ) → taiR (cW c) m X = none → hpC σ φ c 12 nx k c' := fun t et => by
      rw [et] at e
      have e : bhT c (cS c) (cW c) (0, cAll) nx = some (k, c') := e
      refine hpC_b (ψ := φ) (v := iL (-1)) rfl rfl ?_ mvC_r rfl rfl h (show iL (-1) = enK φ (0, cAll) from (by decide : iL (-1) = cAll).trans enG_0.symm) okSV_0 lv_0 e
      rw [M197, e197_0]
      simp only [Int.reduceEq, if_true, if_false, t, Option.getD_some, Option.bind_some, Option.toList_some, Option.toList_none, List.cons_append, List.nil_append, and_self, and_true, true_and, false_and, and_false, ite_self, not_true_eq_false, not_false_eq_true, reduceIte, Nat.reduceEqDiff, ab_I, ab_L, ab_R, ao_I, ao_L, ao_R, gL_sL, gI_sI, gR_sR, gI_sL, gI_sR, gL_sI, gL_sR, gR_sI, gR_sL, e197_164]
    by_cases ng : X.toInt < 0
    · refine stay ?_ ?_
      · rw [s0, e201_11]
        simp only [Option.getD_some, Option.bind_some, Option.toList_some, Option.toList_none, List.cons_append, List.nil_append, and_self, and_true, true_and, false_and, and_false, ite_self, not_true_eq_false, not_false_eq_true, reduceIte, Nat.reduceEqDiff, ab_I, ab_L, ab_R, ao_I, ao_L, ao_R, gL_sL, gI_sI, gR_sR, gI_sL, gI_sR, gL_sI, gL_sR, gR_sI, gR_sL, g_76, Int.reduceLE, Int.reduceLT, i3, r3, m0, if_false, z0, ng, if_true]
      · unfold taiR
        rw [if_pos (by split at tX <;> omega)]
    · have tX : X.toInt = (X.toNat : Int) := by split at tX <;> omega
      obtain ⟨a, ha⟩ : ∃ a : Nat, a = X.toNat := ⟨_, rfl⟩
      rw [← ha] at tX
      have ng' : ¬ (a : Int) < 0 := by omega
      by_cases lt : (a : Int) < gI σ 33 m
      · have nle : ¬ gI σ 33 m ≤ (a : Int) := by omega
        by_cases t8 : gI σ 71 15 < 8
        · have la : lI X = (a : Int) := by
            have : X = iL (a : Int) := by rw [ha, ← iLnat, BitVec.ofNat_toNat, BitVec.setWidth_eq]
            rw [this]
            exact lI_s (by omega)
          have a16 : a < 16 := by omega
          have b1 : 0 ≤ ((16 * m + a : Nat) : Int) ∧ ((16 * m + a : Nat) : Int) < 128 := by omega
          have e6 := lst a a16
          have i6 := hI.2.2.2.2.2.2 m a hm a16
          have z110 : gI σ 71 15 = wg (cW c) 80 110 := k6.2.1.symm
          have lt99 : ¬ ¬ (a : Int) < wg (cW c) 99 m := by rw [c5]; omega
          have n8 : ¬ wg (cW c) 80 110 = 8 := by omega
          have w1 := ix16 hm a16
          obtain ⟨s, hs⟩ : ∃ s, s = gI σ 35 (16 * m + a) := ⟨_, rfl⟩
          have s1 : MM 201 [mR (some 71)] σ = (MM 205 [mI s] σ).bind fun q => RR (lkB tb201) (B201_79, [some (mR (some 71)), some (mI (m : Int)), some (mL X), none, some (mI s)], q.1.toList ++ [], q.2) := by
            rw [s0, e201_11]
            simp only [Option.getD_some, Option.bind_some, Option.toList_some, Option.toList_none, List.cons_append, List.nil_append, and_self, and_true, true_and, false_and, and_false, ite_self, not_true_eq_false, not_false_eq_true, reduceIte, Nat.reduceEqDiff, ab_I, ab_L, ab_R, ao_I, ao_L, ao_R, gL_sL, gI_sI, gR_sR, gI_sL, gI_sR, gL_sI, gL_sR, gR_sI, gR_sL, g_76, Int.reduceLE, Int.reduceLT, i3, r3, m0, if_false, z0, tX, ng', g_33, b0.1, b0.2, Int.toNat_natCast, tm, nle, t8, if_true, la, w1, g_35, b1.1, b1.2, ← hs]
          by_cases neg : s < 0
          · refine stay ?_ ?_
            · rw [s1, T205n (Or.inl neg)]
              simp only [Option.getD_some, Option.bind_some, Option.toList_some, Option.toList_none, List.cons_append, List.nil_append, and_self, and_true, true_and, false_and, and_false, ite_self, not_true_eq_false, not_false_eq_true, reduceIte, Nat.reduceEqDiff, ab_I, ab_L, ab_R, ao_I, ao_L, ao_R, gL_sL, gI_sI, gR_sR, gI_sL, gI_sR, gL_sI, gL_sR, gR_sI, gR_sL]
              rw [e201_79, if_pos rfl]
            · unfold taiR
              rw [← ha, if_neg lt99, if_pos (Or.inl (by rw [e6, ← hs]; exact neg))]
          · obtain ⟨s', hs'⟩ : ∃ s' : Nat, s = (s' : Int) := ⟨s.toNat, by omega⟩
            have s8 : s' < 8 := by omega
            have bs : 0 ≤ (s' : Int) ∧ (s' : Int) < 8 := by omega
            have g16 := k7 s' s8
            have n0 : ¬ (1 : Int) = 0 := by decide
            rw [hs', T205 s8] at s1
            by_cases gd : gI σ 16 s' = 0
            · refine stay ?_ ?_
              · rw [s1]
                simp only [Option.getD_some, Option.bind_some, Option.toList_some, Option.toList_none, List.cons_append, List.nil_append, and_self, and_true, true_and, false_and, and_false, ite_self, not_true_eq_false, not_false_eq_true, reduceIte, Nat.reduceEqDiff, ab_I, ab_L, ab_R, ao_I, ao_L, ao_R, gL_sL, gI_sI, gR_sR, gI_sL, gI_sR, gL_sI, gL_sR, gR_sI, gR_sL]
                rw [e201_79]
                simp only [Option.getD_some, Option.bind_some, Option.toList_some, Option.toList_none, List.cons_append, List.nil_append, and_self, and_true, true_and, false_and, and_false, ite_self, not_true_eq_false, not_false_eq_true, reduceIte, Nat.reduceEqDiff, ab_I, ab_L, ab_R, ao_I, ao_L, ao_R, gL_sL, gI_sI, gR_sR, gI_sL, gI_sR, gL_sI, gL_sR, gR_sI, gR_sL, n0, if_false, g_16, bs.1, bs.2, Int.toNat_natCast, gd, not_true_eq_false]
              · unfold taiR
                rw [← ha, if_neg lt99, if_pos (by rw [e6, ← hs, hs', Int.toNat_natCast]; exact Or.inr (Or.inl (g16.trans gd)))]
            · obtain ⟨υ, hυ⟩ : ∃ υ, υ = sI σ 71 15 (gI σ 71 15 + 1) := ⟨_, rfl⟩
              have wt : w32 (gI σ 71 15 + 1) = gI σ 71 15 + 1 := w32_i (by omega) (by omega)
              obtain ⟨τ, t, g, l, g2⟩ := T182 (σ := υ) (y := (s' : Int))
              have t0 : MM 201 [mR (some 71)] σ = some (some (mL (BitVec.ofNat 64 0)), τ) := by
                rw [s1]
                simp only [Option.getD_some, Option.bind_some, Option.toList_some, Option.toList_none, List.cons_append, List.nil_append, and_self, and_true, true_and, false_and, and_false, ite_self, not_true_eq_false, not_false_eq_true, reduceIte, Nat.reduceEqDiff, ab_I, ab_L, ab_R, ao_I, ao_L, ao_R, gL_sL, gI_sI, gR_sR, gI_sL, gI_sR, gL_sI, gL_sR, gR_sI, gR_sL]
                rw [e201_79]
                simp only [Option.getD_some, Option.bind_some, Option.toList_some, Option.toList_none, List.cons_append, List.nil_append, and_self, and_true, true_and, false_and, and_false, ite_self, not_true_eq_false, not_false_eq_true, reduceIte, Nat.reduceEqDiff, ab_I, ab_L, ab_R, ao_I, ao_L, ao_R, gL_sL, gI_sI, gR_sR, gI_sL, gI_sR, gL_sI, gL_sR, gR_sI, gR_sL, n0, if_false, g_16, bs.1, bs.2, Int.toNat_natCast, gd, not_false_eq_true, if_true, wt, ← hυ, t, e201_115]
              have et : taiR (cW c) m X = some (wset (wset (cW c) 80 110 (wg (cW c) 80 110 + 1)) 80 122 (s' : Int)) := by
                unfold taiR
                rw [← ha, if_neg lt99, e6, ← hs, hs', Int.toNat_natCast, if_neg (fun z => by
                  rcases z with z | z | z
                  · exact absurd z (Int.not_lt.mpr bs.1)
                  · exact gd (g16.symm.trans z)
                  · exact n8 z)]
              obtain ⟨V, hV⟩ : ∃ V, V = wset (wset (cW c) 80 110 (wg (cW c) 80 110 + 1)) 80 122 (s' : Int) := ⟨_, rfl⟩
              rw [et, ← hV] at e
              have e : some (2, (nx, cN c, cR c, cS c, cB c, V)) = some (k, c') := e
              obtain ⟨ek, ec⟩ := Prod.mk.inj (Option.some.inj e)
              have v : ∀ k s, wg V k s = if k = 80 ∧ s = 122 then (s' : Int) else if k = 80 ∧ s = 110 then wg (cW c) 80 110 + 1 else wg (cW c) k s := fun k s => by rw [hV, wg_wset, wg_wset]
              have gu : ∀ k s, gI υ k s = if k = 71 ∧ s = 15 then gI σ 71 15 + 1 else gI σ k s := fun k s => by rw [hυ, gI_sI]
              have gn : ∀ k s, ¬ (k = 71 ∧ (s = 6 ∨ s = 7 ∨ s = 8 ∨ s = 15)) → ¬ (k = 27 ∧ 256 ≤ s ∧ s < 384) → gI τ k s = gI σ k s := fun k s y1 y2 => by
                rw [g, if_neg (by omega), if_neg (by omega), if_neg (by omega), if_neg (by omega), gu, if_neg (by omega)]
              have vn : ∀ k s, ¬ (k = 80 ∧ (s = 110 ∨ s = 122)) → wg V k s = wg (cW c) k s := fun k s y1 => by rw [v, if_neg (by omega), if_neg (by omega)]
              have ln : ∀ k s, ¬ k = 76 → gL τ k s = gL σ k s := fun k s y1 => by
                rw [l, if_neg (by omega), if_neg (by omega), if_neg (by omega), hυ]
                rfl
              have wl : wldC τ φ V := by
                refine ⟨wldM_r hM (fun k s _ => gn _ _ (by omega) (by omega)) (fun s _ => gn _ _ (by omega) (by omega)) (fun _ _ _ => vn _ _ (by omega)), wcV_q k4 (fun s _ => gn _ _ (by omega) (by omega)) (fun _ => vn _ _ (by omega)), wcQ_q k5 pk.1.2 (fun s _ => gn _ _ (by omega) (by omega)) (fun _ => vn _ _ (by omega)) (vn _ _ (by omega)), ⟨?_, ?_, ?_, ?_, ?_⟩, wcG_q k7 (fun s => gn _ _ (by omega) (by omega)) (fun _ => vn _ _ (by omega)), wcX_q k8 (fun s => gn _ _ (by omega) (by omega)) (fun _ => vn _ _ (by omega)) (vn _ _ (by omega)), wcC_q k9 (fun s _ => gn _ _ (by omega) (by omega)) (vn _ _ (by omega)), wcY_q k10 (fun s _ => gn _ _ (by omega) (by omega)) (fun s _ => vn _ _ (by omega)), wcL_q k11 (ln _ _ (by decide)) (ln _ _ (by decide)) (by rw [hV]; rfl)⟩
                · rw [vn _ _ (by omega), gn _ _ (by omega) (by omega)]
                  exact k6.1
                · rw [v, if_neg (by omega), if_pos ⟨rfl, rfl⟩, g, if_neg (by omega), if_neg (by omega), if_neg (by omega), if_neg (by omega), gu, if_pos ⟨rfl, rfl⟩, z110]
                · rw [vn _ _ (by omega), gn _ _ (by omega) (by omega)]
                  exact k6.2.2.1
                · rw [v, if_pos ⟨rfl, rfl⟩, g, if_neg (by omega), if_neg (by omega), if_pos ⟨rfl, rfl⟩]
                · rw [vn _ _ (by omega), gn _ _ (by omega) (by omega)]
                  exact k6.2.2.2.2
              have rel : RelC τ φ (st0 V) := RelC_0 wl (by rw [g, if_pos ⟨rfl, rfl⟩]) (by rw [l, if_neg (by omega), if_pos ⟨rfl, rfl⟩]) (by rw [l, if_pos ⟨rfl, rfl⟩])
              refine ⟨BitVec.ofNat 64 0, τ, φ, ?_, ⟨fun k s y => ?_, fun k s y _ => ln _ _ (by omega), ?_⟩, gn _ _ (by omega) (by omega), Or.inr ⟨ek.symm, n1, by rw [g, if_neg (by omega), if_pos ⟨rfl, rfl⟩], ?_, ?_⟩⟩
              · rw [M197, e197_0]
                simp only [Int.reduceEq, if_true, if_false, t0, Option.getD_some, Option.bind_some, Option.toList_some, Option.toList_none, List.cons_append, List.nil_append, and_self, and_true, true_and, false_and, and_false, ite_self, not_true_eq_false, not_false_eq_true, reduceIte, Nat.reduceEqDiff, ab_I, ab_L, ab_R, ao_I, ao_L, ao_R, gL_sL, gI_sI, gR_sR, gI_sL, gI_sR, gL_sI, gL_sR, gR_sI, gR_sL, e197_164]
              · exact gn _ _ (by omega) (by omega)
              · rw [g2, hυ]
                rfl
              · rw [← ec]
                exact rel
              · rw [← ec]
                show (0 ≤ wg V 80 122 ∧ wg V 80 122 < 8) ∧ ¬ wg V 85 (wg V 80 122).toNat = 0 ∧ V.2.2 = (cW c).2.2
                rw [v 80 122, if_pos ⟨rfl, rfl⟩, Int.toNat_natCast, vn 85 _ (by omega), g16, hV]
                exact ⟨by omega, gd, rfl⟩
        · refine stay ?_ ?_
          · rw [s0, e201_11]
            simp only [Option.getD_some, Option.bind_some, Option.toList_some, Option.toList_none, List.cons_append, List.nil_append, and_self, and_true, true_and, false_and, and_false, ite_self, not_true_eq_false, not_false_eq_true, reduceIte, Nat.reduceEqDiff, ab_I, ab_L, ab_R, ao_I, ao_L, ao_R, gL_sL, gI_sI, gR_sR, gI_sL, gI_sR, gL_sI, gL_sR, gR_sI, gR_sL, g_76, Int.reduceLE, Int.reduceLT, i3, r3, m0, if_false, z0, tX, ng', g_33, b0.1, b0.2, Int.toNat_natCast, tm, nle, t8]
          · unfold taiR
            rw [if_neg (by rw [← ha, c5]; omega), if_pos (by
              have := k6.2.1
              exact Or.inr (Or.inr (by omega)))]
      · have nle : gI σ 33 m ≤ (a : Int) := by omega
        refine stay ?_ ?_
        · rw [s0, e201_11]
          simp only [Option.getD_some, Option.bind_some, Option.toList_some, Option.toList_none, List.cons_append, List.nil_append, and_self, and_true, true_and, false_and, and_false, ite_self, not_true_eq_false, not_false_eq_true, reduceIte, Nat.reduceEqDiff, ab_I, ab_L, ab_R, ao_I, ao_L, ao_R, gL_sL, gI_sI, gR_sR, gI_sL, gI_sR, gL_sI, gL_sR, gR_sI, gR_sL, g_76, Int.reduceLE, Int.reduceLT, i3, r3, m0, if_false, z0, tX, ng', g_33, b0.1, b0.2, Int.toNat_natCast, tm, nle, if_true]
        · unfold taiR
          rw [if_pos (by rw [← ha, c5]; exact lt)]
end CHP3
