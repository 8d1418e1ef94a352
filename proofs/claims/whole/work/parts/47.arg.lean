/-! ===== the reference's judge: arguments of helpers ===== -/
section ARG
variable {σ τ ρ : MS} {S : ST} {E : EV} {t : Int}
theorem fst_a {a b c : Int} : fst (fst a b) c = fst a (fst b c) := by
  unfold fst
  by_cases h : a = 0
  · rw [if_pos h, if_pos h]
  · rw [if_neg h, if_neg h, if_neg h]
theorem T526 {x : Int} {p : Prop} {d : Decidable p} (hx : inB x) : MM 526 [mR (some 80), mI x, mI (@b2 p d)] σ = some (none, flt σ (wntA (aV σ x.toNat) (@decide p d))) := by
  have e : flt σ (wntA (aV σ x.toNat) (decide p)) = flt (flt σ (wntS (aV σ x.toNat))) (if isMb (aV σ x.toNat) then 14 else if p then 0 else 8) := by
    rw [flt_flt]
    congr 1
    unfold wntA wntS fst
    by_cases k : vk (aV σ x.toNat) = 0
    · have nm : ¬ isMb (aV σ x.toNat) := by unfold isMb; omega
      simp [k]
    · simp [k]
  rw [e]
  by_cases m : isMb (aV σ x.toNat)
  · rw [if_pos m]
    simp only [M526, e526_0, e526_5, e526_10, e526_19, e526_32, Option.getD_some, Option.bind_some, Option.toList_some, Option.toList_none, List.cons_append, List.nil_append, and_self, and_true, true_and, false_and, and_false, ite_self, not_true_eq_false, not_false_eq_true, reduceIte, Nat.reduceEqDiff, ab_I, ab_L, ab_R, ao_I, ao_L, ao_R, gL_sL, gI_sI, gR_sR, gI_sL, gI_sR, gL_sI, gL_sR, gR_sI, gR_sL, T494 hx, T493 hx, aV_flt, b2_0', m, T473]
  · rw [if_neg m]
    by_cases q : p
    · rw [if_pos q, b2_yes q, flt_0]
      simp only [M526, e526_0, e526_5, e526_10, e526_32, Option.getD_some, Option.bind_some, Option.toList_some, Option.toList_none, List.cons_append, List.nil_append, and_self, and_true, true_and, false_and, and_false, ite_self, not_true_eq_false, not_false_eq_true, reduceIte, Nat.reduceEqDiff, ab_I, ab_L, ab_R, ao_I, ao_L, ao_R, gL_sL, gI_sI, gR_sR, gI_sL, gI_sR, gL_sI, gL_sR, gR_sI, gR_sL, T494 hx, T493 hx, aV_flt, b2_0', m, oneI]
    · rw [if_neg q, b2_no q]
      simp only [M526, e526_0, e526_5, e526_10, e526_32, Option.getD_some, Option.bind_some, Option.toList_some, Option.toList_none, List.cons_append, List.nil_append, and_self, and_true, true_and, false_and, and_false, ite_self, not_true_eq_false, not_false_eq_true, reduceIte, Nat.reduceEqDiff, ab_I, ab_L, ab_R, ao_I, ao_L, ao_R, gL_sL, gI_sI, gR_sR, gI_sL, gI_sR, gL_sI, gL_sR, gR_sI, gR_sL, T494 hx, T493 hx, aV_flt, b2_0', m, T473]
/-- the place of a register below r10 -/
theorem at_n (hJ : J0 σ S) (hF : 1 ≤ sF S ∧ sF S ≤ 4) {r : Nat} (hr : r ≤ 9) : MM 492 [mR (some 80), mI (r : Int)] σ = some (some (mI ((26 * (sF S - 1) + r : Nat) : Int)), σ) := by
  have := T492 (σ := σ) (r := (r : Int)) (by omega) (by rw [hJ.1]; omega)
  rwa [plc_9 hJ.1 hF.1 (by omega) (by omega), mkr_9 (by omega), Int.toNat_natCast] at this
theorem at_nv (hJ : J0 σ S) (hF : 1 ≤ sF S ∧ sF S ≤ 4) {r : Nat} (hr : r ≤ 9) : aV σ (26 * (sF S - 1) + r) = rgV S r := by
  rw [J0_v hJ (by omega)]
  unfold rgV
  rw [if_neg (by omega)]
theorem at_b (hF : 1 ≤ sF S ∧ sF S ≤ 4) {r : Nat} (hr : r ≤ 9) : inB ((26 * (sF S - 1) + r : Nat) : Int) := ⟨by omega, by omega⟩
theorem T527 (hJ : J0 σ S) (hF : 1 ≤ sF S ∧ sF S ≤ 4) {r : Nat} (hr : r ≤ 9) : MM 527 [mR (some 80), mI (r : Int)] σ = some (none, flt σ (wntK (rgV S r) 1)) := by
  have a := at_n hJ hF hr
  have v := at_nv hJ hF hr
  have b := at_b hF hr
  have k : gI σ 118 (26 * (sF S - 1) + r) = vk (rgV S r) := by rw [q118, v]
  have t6 := T526 (σ := σ) (p := vk (rgV S r) = 1) (d := inferInstance) b
  rw [Int.toNat_natCast, v] at t6
  unfold wntK
  by_cases c : vk (rgV S r) = 1
  · rw [b2_yes c] at t6
    simp only [M527, e527_0, e527_5, e527_23, e527_26, Option.getD_some, Option.bind_some, Option.toList_some, Option.toList_none, List.cons_append, List.nil_append, and_self, and_true, true_and, false_and, and_false, ite_self, not_true_eq_false, not_false_eq_true, reduceIte, Nat.reduceEqDiff, ab_I, ab_L, ab_R, ao_I, ao_L, ao_R, gL_sL, gI_sI, gR_sR, gI_sL, gI_sR, gL_sI, gL_sR, gR_sI, gR_sL, a, g_118, b.1, b.2, Int.toNat_natCast, k, eq_true c, t6]
    all_goals simp [c]
  · rw [b2_no c] at t6
    simp only [M527, e527_0, e527_5, e527_23, e527_26, Option.getD_some, Option.bind_some, Option.toList_some, Option.toList_none, List.cons_append, List.nil_append, and_self, and_true, true_and, false_and, and_false, ite_self, not_true_eq_false, not_false_eq_true, reduceIte, Nat.reduceEqDiff, ab_I, ab_L, ab_R, ao_I, ao_L, ao_R, gL_sL, gI_sI, gR_sR, gI_sL, gI_sR, gL_sI, gL_sR, gR_sI, gR_sL, a, g_118, b.1, b.2, Int.toNat_natCast, k, c, t6]
theorem T528 (hJ : J0 σ S) (hF : 1 ≤ sF S ∧ sF S ≤ 4) : MM 528 [mR (some 80)] σ = some (none, flt σ (wntK (rgV S 1) 2)) := by
  have a := at_n hJ hF (r := 1) (by omega)
  rw [show ((1 : Nat) : Int) = 1 from rfl] at a
  have v := at_nv hJ hF (r := 1) (by omega)
  have b := at_b hF (r := 1) (by omega)
  have k : gI σ 118 (26 * (sF S - 1) + 1) = vk (rgV S 1) := by rw [q118, v]
  have t6 := T526 (σ := σ) (p := vk (rgV S 1) = 2) (d := inferInstance) b
  rw [Int.toNat_natCast, v] at t6
  unfold wntK
  by_cases c : vk (rgV S 1) = 2
  · rw [b2_yes c] at t6
    simp only [M528, e528_0, e528_5, e528_23, e528_26, Option.getD_some, Option.bind_some, Option.toList_some, Option.toList_none, List.cons_append, List.nil_append, and_self, and_true, true_and, false_and, and_false, ite_self, not_true_eq_false, not_false_eq_true, reduceIte, Nat.reduceEqDiff, ab_I, ab_L, ab_R, ao_I, ao_L, ao_R, gL_sL, gI_sI, gR_sR, gI_sL, gI_sR, gL_sI, gL_sR, gR_sI, gR_sL, a, g_118, b.1, b.2, Int.toNat_natCast, k, eq_true c, t6]
    all_goals simp [c]
  · rw [b2_no c] at t6
    simp only [M528, e528_0, e528_5, e528_23, e528_26, Option.getD_some, Option.bind_some, Option.toList_some, Option.toList_none, List.cons_append, List.nil_append, and_self, and_true, true_and, false_and, and_false, ite_self, not_true_eq_false, not_false_eq_true, reduceIte, Nat.reduceEqDiff, ab_I, ab_L, ab_R, ao_I, ao_L, ao_R, gL_sL, gI_sI, gR_sR, gI_sL, gI_sR, gL_sI, gL_sR, gR_sI, gR_sL, a, g_118, b.1, b.2, Int.toNat_natCast, k, c, t6]
theorem T529 (hJ : J0 σ S) (ho : okS E t S) (hE : EO σ E) {r : Nat} {x y : Int} (hr : r ≤ 9) : MM 529 [mR (some 80), mI (r : Int), mI x, mI y] σ = some (none, flt σ (wntM E (rgV S r) x y)) := by
  have hF := ho.1
  have a := at_n hJ hF hr
  have v := at_nv hJ hF hr
  have b := at_b hF hr
  have k : gI σ 118 (26 * (sF S - 1) + r) = vk (rgV S r) := by rw [q118, v]
  have k2 : gI σ 120 (26 * (sF S - 1) + r) = vw (rgV S r) := by rw [q120, v]
  have t6 := T526 (σ := σ) (p := vk (rgV S r) = 4 ∧ x ≤ E.1 (vw (rgV S r)).toNat ∧ E.1 (vw (rgV S r)).toNat ≤ y) (d := inferInstance) b
  rw [Int.toNat_natCast, v] at t6
  have okX := okV_r ho (show r ≤ 10 by omega)
  unfold wntM
  by_cases c : vk (rgV S r) = 4
  · obtain ⟨w1, w2, w3⟩ := okX.2.2.2.1 c
    have e96 : gI σ 96 (vw (rgV S r)).toNat = E.1 (vw (rgV S r)).toNat := by
      obtain ⟨-, -, u3, u4⟩ := hE (vw (rgV S r)).toNat (by omega)
      refine (u4 fun z => ?_).1.symm
      have := u3 z
      omega
    have i8 : vw (rgV S r) < 8 := by omega
    by_cases c1 : E.1 (vw (rgV S r)).toNat < x
    · rw [b2_no (p := vk (rgV S r) = 4 ∧ x ≤ E.1 (vw (rgV S r)).toNat ∧ E.1 (vw (rgV S r)).toNat ≤ y) (fun q => by omega)] at t6
      simp only [M529, e529_0, e529_5, e529_57, e529_58, e529_61, Option.getD_some, Option.bind_some, Option.toList_some, Option.toList_none, List.cons_append, List.nil_append, and_self, and_true, true_and, false_and, and_false, ite_self, not_true_eq_false, not_false_eq_true, reduceIte, Nat.reduceEqDiff, ab_I, ab_L, ab_R, ao_I, ao_L, ao_R, gL_sL, gI_sI, gR_sR, gI_sL, gI_sR, gL_sI, gL_sR, gR_sI, gR_sL, a, g_118, g_120, g_96, b.1, b.2, w1, i8, Int.toNat_natCast, k, k2, eq_true c, e96, c1, t6]
    · by_cases c2 : y < E.1 (vw (rgV S r)).toNat
      · rw [b2_no (p := vk (rgV S r) = 4 ∧ x ≤ E.1 (vw (rgV S r)).toNat ∧ E.1 (vw (rgV S r)).toNat ≤ y) (fun q => by omega)] at t6
        simp only [M529, e529_0, e529_5, e529_57, e529_58, e529_61, Option.getD_some, Option.bind_some, Option.toList_some, Option.toList_none, List.cons_append, List.nil_append, and_self, and_true, true_and, false_and, and_false, ite_self, not_true_eq_false, not_false_eq_true, reduceIte, Nat.reduceEqDiff, ab_I, ab_L, ab_R, ao_I, ao_L, ao_R, gL_sL, gI_sI, gR_sR, gI_sL, gI_sR, gL_sI, gL_sR, gR_sI, gR_sL, a, g_118, g_120, g_96, b.1, b.2, w1, i8, Int.toNat_natCast, k, k2, eq_true c, e96, c1, c2, t6]
      · rw [b2_yes (p := vk (rgV S r) = 4 ∧ x ≤ E.1 (vw (rgV S r)).toNat ∧ E.1 (vw (rgV S r)).toNat ≤ y) (⟨c, by omega, by omega⟩)] at t6
        simp only [M529, e529_0, e529_5, e529_57, e529_58, e529_61, Option.getD_some, Option.bind_some, Option.toList_some, Option.toList_none, List.cons_append, List.nil_append, and_self, and_true, true_and, false_and, and_false, ite_self, not_true_eq_false, not_false_eq_true, reduceIte, Nat.reduceEqDiff, ab_I, ab_L, ab_R, ao_I, ao_L, ao_R, gL_sL, gI_sI, gR_sR, gI_sL, gI_sR, gL_sI, gL_sR, gR_sI, gR_sL, a, g_118, g_120, g_96, b.1, b.2, w1, i8, Int.toNat_natCast, k, k2, eq_true c, e96, c1, c2, t6]
  · rw [b2_no (p := vk (rgV S r) = 4 ∧ x ≤ E.1 (vw (rgV S r)).toNat ∧ E.1 (vw (rgV S r)).toNat ≤ y) (fun q => c q.1)] at t6
    simp only [M529, e529_0, e529_5, e529_57, e529_58, e529_61, Option.getD_some, Option.bind_some, Option.toList_some, Option.toList_none, List.cons_append, List.nil_append, and_self, and_true, true_and, false_and, and_false, ite_self, not_true_eq_false, not_false_eq_true, reduceIte, Nat.reduceEqDiff, ab_I, ab_L, ab_R, ao_I, ao_L, ao_R, gL_sL, gI_sI, gR_sR, gI_sL, gI_sR, gL_sI, gL_sR, gR_sI, gR_sL, a, g_118, b.1, b.2, Int.toNat_natCast, k, c, t6]
/-- so many bytes -/
theorem T530 (hJ : J0 σ S) (ho : okS E t S) (hc : canS S) (hE : EO σ E) (h0 : gI σ 80 90 = 0) {r n : Nat} (hr : r ≤ 9) (hn : n ≤ 1000) : okc (MM 530 [mR (some 80), mI (r : Int), mI (n : Int)] σ) none (fun τ => sqc τ (flt σ (wntB E S (rgV S r) n))) := by
  have hF := ho.1
  have a := at_n hJ hF hr
  have v := at_nv hJ hF hr
  have b := at_b hF hr
  have okX := okV_r ho (show r ≤ 10 by omega)
  have canX := can_r hc hF.1 (show r ≤ 10 by omega)
  have t6 := T526 (σ := σ) (p := mvs (rgV S r)) (d := inferInstance) b
  rw [Int.toNat_natCast, v] at t6
  have t98 := T498 (σ := σ) b
  rw [Int.toNat_natCast, v] at t98
  have s16 : MM 530 [mR (some 80), mI (r : Int), mI (n : Int)] σ = RR (lkB tb530) (B530_16, [some (mR (some 80)), some (mI (r : Int)), some (mI (n : Int)), some (mI ((26 * (sF S - 1) + r : Nat) : Int))], [], flt σ (wntA (rgV S r) (decide (mvs (rgV S r))))) := by
    simp only [M530, e530_0, e530_5, e530_13, Option.getD_some, Option.bind_some, Option.toList_some, Option.toList_none, List.cons_append, List.nil_append, and_self, and_true, true_and, false_and, and_false, ite_self, not_true_eq_false, not_false_eq_true, reduceIte, Nat.reduceEqDiff, ab_I, ab_L, ab_R, ao_I, ao_L, ao_R, gL_sL, gI_sI, gR_sR, gI_sL, gI_sR, gL_sI, gL_sR, gR_sI, gR_sL, a, t98, t6]
  rw [s16]
  unfold wntB
  by_cases f : wntA (rgV S r) (decide (mvs (rgV S r))) = 0
  · rw [if_neg (not_not_intro f), f, flt_0]
    have hm : mvs (rgV S r) := by
      unfold wntA at f
      refine Classical.byContradiction fun q => ?_
      by_cases z1 : vk (rgV S r) = 0
      · rw [if_pos z1] at f
        exact absurd f (by decide)
      · rw [if_neg z1] at f
        by_cases z2 : isMb (rgV S r)
        · rw [if_pos z2] at f
          exact absurd f (by decide)
        · rw [if_neg z2, if_neg (by rw [decide_eq_true_eq]; exact q)] at f
          exact absurd f (by decide)
    have t3 := T503 (σ := σ) (x := ((26 * (sF S - 1) + r : Nat) : Int)) (y := 0) (n := n) (g := 3) (t := t) (E := E) b (by rw [Int.toNat_natCast, v]; exact hm) (by rw [Int.toNat_natCast, v]; exact okX) hE (by rw [Int.toNat_natCast, v]; exact canX.2.2.2.2.2) (by omega) hn
    simp only [Int.toNat_natCast, v] at t3
    generalize 26 * (sF S - 1) + r = x at *
    by_cases c5 : room E (rgV S r) 0 n
    · rw [b2_yes c5] at t3
      rw [if_neg (not_not_intro c5)]
      by_cases k3 : vk (rgV S r) = 3
      · rw [if_pos k3] at t3
        have hf := okV_f ho (show r ≤ 10 by omega) k3
        have hr2 : -128 ≤ vo (rgV S r) + 0 ∧ vo (rgV S r) + 0 ≤ -(n : Int) := by
          have := c5
          unfold room at this
          rw [if_pos k3] at this
          exact this
        generalize hρ : sI (sI σ 80 103 (vw (rgV S r))) 80 102 (vo (rgV S r) + 0 + 128) = ρ at t3
        have r1 : sqc ρ σ := by rw [← hρ]; exact sqc_pb
        have r2 : gI ρ 80 102 = vo (rgV S r) + 128 := by rw [← hρ, gI_sI, if_pos ⟨rfl, rfl⟩]; omega
        have r3 : gI ρ 80 103 = vw (rgV S r) := by rw [← hρ, gI_sI, if_neg (by omega), gI_sI, if_pos ⟨rfl, rfl⟩]
        have r4 : aV ρ x = rgV S r := by rw [← hρ, aV_sI (by omega), aV_sI (by omega), v]
        have r5 : J0 ρ S := JSt_sq r1 (by omega) hF.2 hJ
        have r6 : gI ρ 118 x = 3 := by rw [q118, r4]; exact k3
        have t5 : MM 505 [mR (some 80), mI (n : Int)] ρ = some (some (mI (b2 (areS S (vw (rgV S r)).toNat (vo (rgV S r) + 128).toNat n = true))), ρ) := by
          have := T505 (σ := ρ) (n := n) r5 hF.2 hc (by omega) (by omega) (by omega)
          rwa [r3, r2] at this
        rw [Int.toNat_natCast]
        by_cases V : areS S (vw (rgV S r)).toNat (vo (rgV S r) + 128).toNat n = true
        · rw [if_neg (fun q => by rw [V] at q; exact absurd q.2 (by decide)), flt_0]
          simp only [e530_16, e530_31, e530_57, e530_66, Option.getD_some, Option.bind_some, Option.toList_some, Option.toList_none, List.cons_append, List.nil_append, and_self, and_true, true_and, false_and, and_false, ite_self, not_true_eq_false, not_false_eq_true, reduceIte, Nat.reduceEqDiff, ab_I, ab_L, ab_R, ao_I, ao_L, ao_R, gL_sL, gI_sI, gR_sR, gI_sL, gI_sR, gL_sI, gL_sR, gR_sI, gR_sL, h0, t3, oneI, g_118, b.1, b.2, Int.toNat_natCast, r6, t5, b2_yes V]
          exact okc_s r1
        · have V' : areS S (vw (rgV S r)).toNat (vo (rgV S r) + 128).toNat n = false := by simpa using V
          rw [if_pos ⟨k3, V'⟩]
          simp only [e530_16, e530_31, e530_57, e530_66, Option.getD_some, Option.bind_some, Option.toList_some, Option.toList_none, List.cons_append, List.nil_append, and_self, and_true, true_and, false_and, and_false, ite_self, not_true_eq_false, not_false_eq_true, reduceIte, Nat.reduceEqDiff, ab_I, ab_L, ab_R, ao_I, ao_L, ao_R, gL_sL, gI_sI, gR_sR, gI_sL, gI_sR, gL_sI, gL_sR, gR_sI, gR_sL, h0, t3, oneI, g_118, b.1, b.2, Int.toNat_natCast, r6, t5, b2_no V, T473]
          exact okc_s (sqc_flt r1)
      · rw [if_neg k3] at t3
        have k3' : ¬ gI σ 118 x = 3 := by rw [q118, v]; exact k3
        rw [if_neg (fun q => k3 q.1), flt_0]
        simp only [e530_16, e530_31, e530_66, Option.getD_some, Option.bind_some, Option.toList_some, Option.toList_none, List.cons_append, List.nil_append, and_self, and_true, true_and, false_and, and_false, ite_self, not_true_eq_false, not_false_eq_true, reduceIte, Nat.reduceEqDiff, ab_I, ab_L, ab_R, ao_I, ao_L, ao_R, gL_sL, gI_sI, gR_sR, gI_sL, gI_sR, gL_sI, gL_sR, gR_sI, gR_sL, h0, t3, oneI, g_118, b.1, b.2, Int.toNat_natCast, k3']
        exact okc_s (sqc_r _)
    · rw [b2_no c5] at t3
      rw [if_pos c5]
      simp only [e530_16, e530_31, e530_39, e530_66, Option.getD_some, Option.bind_some, Option.toList_some, Option.toList_none, List.cons_append, List.nil_append, and_self, and_true, true_and, false_and, and_false, ite_self, not_true_eq_false, not_false_eq_true, reduceIte, Nat.reduceEqDiff, ab_I, ab_L, ab_R, ao_I, ao_L, ao_R, gL_sL, gI_sI, gR_sR, gI_sL, gI_sR, gL_sI, gL_sR, gR_sI, gR_sL, h0, t3, T473]
      refine okc_s (sqc_flt ?_)
      split
      · exact sqc_pb
      · exact sqc_r _
  · rw [if_pos f]
    have g : ¬ gI (flt σ (wntA (rgV S r) (decide (mvs (rgV S r))))) 80 90 = 0 := by rw [fl_g, h0, fst0]; exact f
    simp only [e530_16, Option.getD_some, Option.bind_some, Option.toList_some, Option.toList_none, List.cons_append, List.nil_append, and_self, and_true, true_and, false_and, and_false, ite_self, not_true_eq_false, not_false_eq_true, reduceIte, Nat.reduceEqDiff, ab_I, ab_L, ab_R, ao_I, ao_L, ao_R, gL_sL, gI_sI, gR_sR, gI_sL, gI_sR, gL_sI, gL_sR, gR_sI, gR_sL, g]
    exact okc_s (sqc_r _)
end ARG
