/-! ===== the class's helpers: arguments ===== -/
section CHL
variable {τ σ ρ : MS} {k j pl : Nat} {E : EV} {w : B64} {S : ST} {t c : Int} {v : VL}
theorem wp1 {pl : Nat} (h : pl + 1 < 100000) : w32 ((pl : Int) + 1) = ((pl + 1 : Nat) : Int) := w_pl (c := 1) h
theorem wp2 {pl : Nat} (h : pl + 2 < 100000) : w32 ((pl : Int) + 2) = ((pl + 2 : Nat) : Int) := w_pl (c := 2) h
theorem wp3 {pl : Nat} (h : pl + 3 < 100000) : w32 ((pl : Int) + 3) = ((pl + 3 : Nat) : Int) := w_pl (c := 3) h
theorem wp4 {pl : Nat} (h : pl + 4 < 100000) : w32 ((pl : Int) + 4) = ((pl + 4 : Nat) : Int) := w_pl (c := 4) h
theorem T44 {m : Nat} (C : CEO σ E) (hm : m < 8) : MM 44 [mR (some 26), mI (m : Int)] σ = some (some (mI (b2 (0 ≤ E.1 m))), σ) := by
  obtain ⟨_, _, c1, c2⟩ := C m hm
  have n0 : ¬ (m : Int) < 0 := by omega
  have n8 : ¬ 8 ≤ (m : Int) := by omega
  have i0 : 0 ≤ (m : Int) := by omega
  have i8 : (m : Int) < 8 := by omega
  by_cases z : gI σ 29 m = 0
  · rw [b2_no (p := 0 ≤ E.1 m) (by have := c1 z; omega)]
    simp only [M44, e44_0, e44_23, Option.getD_some, Option.bind_some, Option.toList_some, Option.toList_none, List.cons_append, List.nil_append, and_self, and_true, true_and, false_and, and_false, ite_self, not_true_eq_false, not_false_eq_true, reduceIte, Nat.reduceEqDiff, ab_I, ab_L, ab_R, ao_I, ao_L, ao_R, gL_sL, gI_sI, gR_sR, gI_sL, gI_sR, gL_sI, gL_sR, gR_sI, gR_sL, n0, n8, g_29, i0, i8, Int.toNat_natCast, eq_true z]
  · rw [b2_yes (p := 0 ≤ E.1 m) (c2 z).2]
    simp only [M44, e44_0, e44_23, Option.getD_some, Option.bind_some, Option.toList_some, Option.toList_none, List.cons_append, List.nil_append, and_self, and_true, true_and, false_and, and_false, ite_self, not_true_eq_false, not_false_eq_true, reduceIte, Nat.reduceEqDiff, ab_I, ab_L, ab_R, ao_I, ao_L, ao_R, gL_sL, gI_sI, gR_sR, gI_sL, gI_sR, gL_sI, gL_sR, gR_sI, gR_sL, n0, n8, g_29, i0, i8, Int.toNat_natCast, eq_false z]
theorem T45 {m : Nat} (C : CEO σ E) (hm : m < 8) : MM 45 [mR (some 26), mI (m : Int), mI c] σ = some (some (mI (b2 (0 ≤ E.1 m ∧ E.1 m = c))), σ) := by
  have t44 := T44 C hm
  obtain ⟨_, _, c1, c2⟩ := C m hm
  have i0 : 0 ≤ (m : Int) := by omega
  have i8 : (m : Int) < 8 := by omega
  by_cases z : gI σ 29 m = 0
  · have n : ¬ 0 ≤ E.1 m := by have := c1 z; omega
    rw [b2_no n] at t44
    rw [b2_no (p := 0 ≤ E.1 m ∧ E.1 m = c) (fun q => n q.1)]
    simp only [M45, e45_0, e45_5, e45_22, Option.getD_some, Option.bind_some, Option.toList_some, Option.toList_none, List.cons_append, List.nil_append, and_self, and_true, true_and, false_and, and_false, ite_self, not_true_eq_false, not_false_eq_true, reduceIte, Nat.reduceEqDiff, ab_I, ab_L, ab_R, ao_I, ao_L, ao_R, gL_sL, gI_sI, gR_sR, gI_sL, gI_sR, gL_sI, gL_sR, gR_sI, gR_sL, t44]
  · obtain ⟨e, p⟩ := c2 z
    rw [b2_yes p] at t44
    by_cases q : gI σ 30 m = c
    · rw [b2_yes (p := 0 ≤ E.1 m ∧ E.1 m = c) ⟨p, e.trans q⟩]
      simp only [M45, e45_0, e45_5, e45_22, Option.getD_some, Option.bind_some, Option.toList_some, Option.toList_none, List.cons_append, List.nil_append, and_self, and_true, true_and, false_and, and_false, ite_self, not_true_eq_false, not_false_eq_true, reduceIte, Nat.reduceEqDiff, ab_I, ab_L, ab_R, ao_I, ao_L, ao_R, gL_sL, gI_sI, gR_sR, gI_sL, gI_sR, gL_sI, gL_sR, gR_sI, gR_sL, t44, oneI, g_30, i0, i8, Int.toNat_natCast, eq_true q]
    · rw [b2_no (p := 0 ≤ E.1 m ∧ E.1 m = c) (fun y => q (e.symm.trans y.2))]
      simp only [M45, e45_0, e45_5, e45_22, Option.getD_some, Option.bind_some, Option.toList_some, Option.toList_none, List.cons_append, List.nil_append, and_self, and_true, true_and, false_and, and_false, ite_self, not_true_eq_false, not_false_eq_true, reduceIte, Nat.reduceEqDiff, ab_I, ab_L, ab_R, ao_I, ao_L, ao_R, gL_sL, gI_sI, gR_sR, gI_sL, gI_sR, gL_sI, gL_sR, gR_sI, gR_sL, t44, oneI, g_30, i0, i8, Int.toNat_natCast, eq_false q]
theorem T46 {m : Nat} (C : CEO σ E) (hm : m < 8) : MM 46 [mR (some 26), mI (m : Int)] σ = some (some (mI (b2 (0 ≤ E.1 m ∧ E.1 m ≤ 1))), σ) := by
  have t44 := T44 C hm
  obtain ⟨_, _, c1, c2⟩ := C m hm
  have i0 : 0 ≤ (m : Int) := by omega
  have i8 : (m : Int) < 8 := by omega
  by_cases z : gI σ 29 m = 0
  · have n : ¬ 0 ≤ E.1 m := by have := c1 z; omega
    rw [b2_no n] at t44
    rw [b2_no (p := 0 ≤ E.1 m ∧ E.1 m ≤ 1) (fun q => n q.1)]
    simp only [M46, e46_0, e46_5, e46_27, e46_31, Option.getD_some, Option.bind_some, Option.toList_some, Option.toList_none, List.cons_append, List.nil_append, and_self, and_true, true_and, false_and, and_false, ite_self, not_true_eq_false, not_false_eq_true, reduceIte, Nat.reduceEqDiff, ab_I, ab_L, ab_R, ao_I, ao_L, ao_R, gL_sL, gI_sI, gR_sR, gI_sL, gI_sR, gL_sI, gL_sR, gR_sI, gR_sL, t44]
  · obtain ⟨e, p⟩ := c2 z
    rw [b2_yes p] at t44
    by_cases q : gI σ 30 m = 0
    · rw [b2_yes (p := 0 ≤ E.1 m ∧ E.1 m ≤ 1) (by omega)]
      simp only [M46, e46_0, e46_5, e46_27, e46_31, Option.getD_some, Option.bind_some, Option.toList_some, Option.toList_none, List.cons_append, List.nil_append, and_self, and_true, true_and, false_and, and_false, ite_self, not_true_eq_false, not_false_eq_true, reduceIte, Nat.reduceEqDiff, ab_I, ab_L, ab_R, ao_I, ao_L, ao_R, gL_sL, gI_sI, gR_sR, gI_sL, gI_sR, gL_sI, gL_sR, gR_sI, gR_sL, t44, oneI, g_30, i0, i8, Int.toNat_natCast, eq_true q]
    · by_cases q1 : gI σ 30 m = 1
      · rw [b2_yes (p := 0 ≤ E.1 m ∧ E.1 m ≤ 1) (by omega)]
        simp only [M46, e46_0, e46_5, e46_27, e46_31, Option.getD_some, Option.bind_some, Option.toList_some, Option.toList_none, List.cons_append, List.nil_append, and_self, and_true, true_and, false_and, and_false, ite_self, not_true_eq_false, not_false_eq_true, reduceIte, Nat.reduceEqDiff, ab_I, ab_L, ab_R, ao_I, ao_L, ao_R, gL_sL, gI_sI, gR_sR, gI_sL, gI_sR, gL_sI, gL_sR, gR_sI, gR_sL, t44, oneI, g_30, i0, i8, Int.toNat_natCast, eq_false q, eq_true q1]
      · rw [b2_no (p := 0 ≤ E.1 m ∧ E.1 m ≤ 1) (by omega)]
        simp only [M46, e46_0, e46_5, e46_27, e46_31, Option.getD_some, Option.bind_some, Option.toList_some, Option.toList_none, List.cons_append, List.nil_append, and_self, and_true, true_and, false_and, and_false, ite_self, not_true_eq_false, not_false_eq_true, reduceIte, Nat.reduceEqDiff, ab_I, ab_L, ab_R, ao_I, ao_L, ao_R, gL_sL, gI_sI, gR_sR, gI_sL, gI_sR, gL_sI, gL_sR, gR_sI, gR_sL, t44, oneI, g_30, i0, i8, Int.toNat_natCast, eq_false q, eq_false q1]
theorem T285 (H : SC σ k j E w) (hS : CSt σ k S) (P : PX S E t) : MM 285 [mR (some 40)] σ = some (some (mI (vw (rgV S 1) % 8)), σ) := by
  have F := PX_F P
  have r1 : 1 ≤ 10 := by decide
  have l := pR_lt F r1
  have hv := cAt_rg hS F.1 r1
  have wv := (okW_r P r1).2.2.1
  have t12 : MM 212 [mR (some k), mI 1] σ = some (some (mI ((pR S 1 : Nat) : Int)), σ) := T212r H hS P r1
  have l8 : pR S 1 + 8 < 100000 := by omega
  have g8 := gSt (sc_k H) (show pR S 1 + 8 < 1188 by omega)
  have lw : lI (iL (vw (rgV S 1))) = vw (rgV S 1) := lIi (by omega) (by omega)
  simp only [M285, e285_0, e285_15, Option.getD_some, Option.bind_some, Option.toList_some, Option.toList_none, List.cons_append, List.nil_append, and_self, and_true, true_and, false_and, and_false, ite_self, not_true_eq_false, not_false_eq_true, reduceIte, Nat.reduceEqDiff, ab_I, ab_L, ab_R, ao_I, ao_L, ao_R, gL_sL, gI_sI, gR_sR, gI_sL, gI_sR, gL_sI, gL_sR, gR_sI, gR_sL, sc_h H, sc_ao H, t12, wp8 l8, g8, Int.toNat_natCast, rd_8 hv, lw, iAnd7]
theorem T287 {m : Int} (H : SC σ k j E w) (hp : pl + 11 ≤ 1188) (hv : cAt σ k pl v) : MM 287 [mR (some 40), mI (pl : Int), mL (iL m)] σ = some (some (mI (b2 (¬ jA (vn v) = 0#64 ∧ ¬ iL m < jB (vn v)))), σ) := by
  have k1 := sc_k H
  have g3 := gSt k1 (show pl + 3 < 1188 by omega)
  have g4 := gSt k1 (show pl + 4 < 1188 by omega)
  have l3 : pl + 3 < 100000 := by omega
  have l4 : pl + 4 < 100000 := by omega
  by_cases a0 : jA (vn v) = 0#64
  · rw [b2_no (p := ¬ jA (vn v) = 0#64 ∧ ¬ iL m < jB (vn v)) (fun q => q.1 a0)]
    have a0' : jA (vn v) = BitVec.ofNat 64 0 := a0
    simp only [M287, e287_0, e287_31, e287_38, Option.getD_some, Option.bind_some, Option.toList_some, Option.toList_none, List.cons_append, List.nil_append, and_self, and_true, true_and, false_and, and_false, ite_self, not_true_eq_false, not_false_eq_true, reduceIte, Nat.reduceEqDiff, ab_I, ab_L, ab_R, ao_I, ao_L, ao_R, gL_sL, gI_sI, gR_sR, gI_sL, gI_sR, gL_sI, gL_sR, gR_sI, gR_sL, sc_h H, sc_ao H, wp3 l3, g3, Int.toNat_natCast, rd_3 hv, eq_true a0']
  · have a0' : ¬ jA (vn v) = BitVec.ofNat 64 0 := a0
    by_cases b0 : iL m < jB (vn v)
    · rw [b2_no (p := ¬ jA (vn v) = 0#64 ∧ ¬ iL m < jB (vn v)) (fun q => q.2 b0)]
      simp only [M287, e287_0, e287_31, e287_38, Option.getD_some, Option.bind_some, Option.toList_some, Option.toList_none, List.cons_append, List.nil_append, and_self, and_true, true_and, false_and, and_false, ite_self, not_true_eq_false, not_false_eq_true, reduceIte, Nat.reduceEqDiff, ab_I, ab_L, ab_R, ao_I, ao_L, ao_R, gL_sL, gI_sI, gR_sR, gI_sL, gI_sR, gL_sI, gL_sR, gR_sI, gR_sL, sc_h H, sc_ao H, wp3 l3, g3, Int.toNat_natCast, rd_3 hv, eq_false a0', wp4 l4, g4, rd_4 hv, T17, b2_0', eq_true b0]
    · rw [b2_yes (p := ¬ jA (vn v) = 0#64 ∧ ¬ iL m < jB (vn v)) ⟨a0, b0⟩]
      simp only [M287, e287_0, e287_31, e287_38, Option.getD_some, Option.bind_some, Option.toList_some, Option.toList_none, List.cons_append, List.nil_append, and_self, and_true, true_and, false_and, and_false, ite_self, not_true_eq_false, not_false_eq_true, reduceIte, Nat.reduceEqDiff, ab_I, ab_L, ab_R, ao_I, ao_L, ao_R, gL_sL, gI_sI, gR_sR, gI_sL, gI_sR, gL_sI, gL_sR, gR_sI, gR_sL, sc_h H, sc_ao H, wp3 l3, g3, Int.toNat_natCast, rd_3 hv, eq_false a0', wp4 l4, g4, rd_4 hv, T17, b2_0', eq_false b0]
/-- what an argument must be, beside a place of bytes -/
def wntP (E : EV) (v : VL) (c : Int) : Prop :=
  if c = 109 then vk v = 4 ∧ 0 ≤ E.1 (vw v).toNat ∧ E.1 (vw v).toNat ≤ 1
  else if c = 112 then vk v = 4 ∧ 2 ≤ E.1 (vw v).toNat ∧ E.1 (vw v).toNat ≤ 2
  else if c = 114 then vk v = 4 ∧ 3 ≤ E.1 (vw v).toNat ∧ E.1 (vw v).toNat ≤ 3
  else if c = 99 then vk v = 2
  else if c = 116 then vk v = 1 ∧ ¬ jA (vn v) = 0#64 ∧ ¬ 64#64 < jB (vn v)
  else if c = 119 then vk v = 1 ∧ ¬ jA (vn v) = 0#64 ∧ ¬ 128#64 < jB (vn v)
  else if c = 105 then vk v = 1 ∧ isC (vn v) ∧ 1 ≤ (jV (vn v)).toInt ∧ (jV (vn v)).toInt ≤ 64
  else if c = 104 then vk v = 9 ∧ vo v = 0 ∧ isC (vn v) ∧ jV (vn v) = 0#64
  else vk v = 1
noncomputable def wantI (E : EV) (v : VL) (c : Int) : Int := @ite Int (wntP E v c) (Classical.propDecidable _) 1 0
theorem wI {p : Prop} [d : Decidable p] (h : wntP E v c ↔ p) : wantI E v c = b2 p := by
  unfold wantI
  by_cases z : wntP E v c
  · rw [if_pos z, b2_yes (h.mp z)]
  · rw [if_neg z, b2_no (fun y => z (h.mpr y))]
theorem T286 {g : Nat} (H : SC σ k j E w) (hp : pl + 11 ≤ 1188) (hv : cAt σ k pl v) (wv : okW v) (ov : okV E g t v) (hc : c = 109 ∨ c = 112 ∨ c = 114 ∨ c = 99 ∨ c = 116 ∨ c = 119 ∨ c = 105 ∨ c = 104 ∨ c = 110) : MM 286 [mR (some 40), mI (pl : Int), mI (vk v), mI c] σ = some (some (mI (wantI E v c)), σ) := by
  have k1 := sc_k H
  have C : CEO σ E := H.2.2.2.1
  have l8 : pl + 8 < 100000 := by omega
  have g8 := gSt k1 (show pl + 8 < 1188 by omega)
  have l7 : pl + 7 < 100000 := by omega
  have g7 := gSt k1 (show pl + 7 < 1188 by omega)
  have l2 : pl + 2 < 100000 := by omega
  have g2 := gSt k1 (show pl + 2 < 1188 by omega)
  have l1 : pl + 1 < 100000 := by omega
  have g1 := gSt k1 (show pl + 1 < 1188 by omega)
  have ww := wv.2.2.1
  have wo := wv.2.2.2.1
  have lw : lI (iL (vw v)) = vw v := lIi (by omega) (by omega)
  have map : vk v = 4 → (vw v).toNat < 8 ∧ (((vw v).toNat : Nat) : Int) = vw v := fun z => by
    have := ov.2.2.2.1 z
    omega
  rcases hc with rfl | rfl | rfl | rfl | rfl | rfl | rfl | rfl | rfl
  · rw [wI (show wntP E v 109 ↔ vk v = 4 ∧ 0 ≤ E.1 (vw v).toNat ∧ E.1 (vw v).toNat ≤ 1 from Iff.rfl)]
    by_cases k4 : vk v = 4
    · obtain ⟨m8, me⟩ := map k4
      have t := T46 C m8
      rw [me] at t
      by_cases q : 0 ≤ E.1 (vw v).toNat ∧ E.1 (vw v).toNat ≤ 1
      · rw [b2_yes q] at t
        rw [b2_yes (p := vk v = 4 ∧ 0 ≤ E.1 (vw v).toNat ∧ E.1 (vw v).toNat ≤ 1) ⟨k4, q⟩]
        simp only [M286, e286_0, Option.getD_some, Option.bind_some, Option.toList_some, Option.toList_none, List.cons_append, List.nil_append, and_self, and_true, true_and, false_and, and_false, ite_self, not_true_eq_false, not_false_eq_true, reduceIte, Nat.reduceEqDiff, ab_I, ab_L, ab_R, ao_I, ao_L, ao_R, gL_sL, gI_sI, gR_sR, gI_sL, gI_sR, gL_sI, gL_sR, gR_sI, gR_sL, sc_h H, sc_ao H, wp8 l8, g8, Int.toNat_natCast, rd_8 hv, Int.reduceEq, eq_true k4, lw, t, e286_134, oneI]
      · rw [b2_no q] at t
        rw [b2_no (p := vk v = 4 ∧ 0 ≤ E.1 (vw v).toNat ∧ E.1 (vw v).toNat ≤ 1) (fun z => q z.2)]
        simp only [M286, e286_0, Option.getD_some, Option.bind_some, Option.toList_some, Option.toList_none, List.cons_append, List.nil_append, and_self, and_true, true_and, false_and, and_false, ite_self, not_true_eq_false, not_false_eq_true, reduceIte, Nat.reduceEqDiff, ab_I, ab_L, ab_R, ao_I, ao_L, ao_R, gL_sL, gI_sI, gR_sR, gI_sL, gI_sR, gL_sI, gL_sR, gR_sI, gR_sL, sc_h H, sc_ao H, wp8 l8, g8, Int.toNat_natCast, rd_8 hv, Int.reduceEq, eq_true k4, lw, t, e286_134, e286_141]
    · rw [b2_no (p := vk v = 4 ∧ 0 ≤ E.1 (vw v).toNat ∧ E.1 (vw v).toNat ≤ 1) (fun z => k4 z.1)]
      simp only [M286, e286_0, Option.getD_some, Option.bind_some, Option.toList_some, Option.toList_none, List.cons_append, List.nil_append, and_self, and_true, true_and, false_and, and_false, ite_self, not_true_eq_false, not_false_eq_true, reduceIte, Nat.reduceEqDiff, ab_I, ab_L, ab_R, ao_I, ao_L, ao_R, gL_sL, gI_sI, gR_sR, gI_sL, gI_sR, gL_sI, gL_sR, gR_sI, gR_sL, sc_h H, sc_ao H, wp8 l8, g8, Int.toNat_natCast, rd_8 hv, Int.reduceEq, eq_false k4, e286_141]
  · rw [wI (show wntP E v 112 ↔ vk v = 4 ∧ 2 ≤ E.1 (vw v).toNat ∧ E.1 (vw v).toNat ≤ 2 from Iff.rfl)]
    by_cases k4 : vk v = 4
    · obtain ⟨m8, me⟩ := map k4
      have t := T45 (c := 2) C m8
      rw [me] at t
      by_cases q : 0 ≤ E.1 (vw v).toNat ∧ E.1 (vw v).toNat = 2
      · rw [b2_yes q] at t
        rw [b2_yes (p := vk v = 4 ∧ 2 ≤ E.1 (vw v).toNat ∧ E.1 (vw v).toNat ≤ 2) ⟨k4, by omega⟩]
        simp only [M286, e286_0, Option.getD_some, Option.bind_some, Option.toList_some, Option.toList_none, List.cons_append, List.nil_append, and_self, and_true, true_and, false_and, and_false, ite_self, not_true_eq_false, not_false_eq_true, reduceIte, Nat.reduceEqDiff, ab_I, ab_L, ab_R, ao_I, ao_L, ao_R, gL_sL, gI_sI, gR_sR, gI_sL, gI_sR, gL_sI, gL_sR, gR_sI, gR_sL, sc_h H, sc_ao H, wp8 l8, g8, Int.toNat_natCast, rd_8 hv, Int.reduceEq, eq_true k4, lw, t, e286_158, oneI]
      · rw [b2_no q] at t
        rw [b2_no (p := vk v = 4 ∧ 2 ≤ E.1 (vw v).toNat ∧ E.1 (vw v).toNat ≤ 2) (fun z => q (by omega))]
        simp only [M286, e286_0, Option.getD_some, Option.bind_some, Option.toList_some, Option.toList_none, List.cons_append, List.nil_append, and_self, and_true, true_and, false_and, and_false, ite_self, not_true_eq_false, not_false_eq_true, reduceIte, Nat.reduceEqDiff, ab_I, ab_L, ab_R, ao_I, ao_L, ao_R, gL_sL, gI_sI, gR_sR, gI_sL, gI_sR, gL_sI, gL_sR, gR_sI, gR_sL, sc_h H, sc_ao H, wp8 l8, g8, Int.toNat_natCast, rd_8 hv, Int.reduceEq, eq_true k4, lw, t, e286_158, e286_165]
    · rw [b2_no (p := vk v = 4 ∧ 2 ≤ E.1 (vw v).toNat ∧ E.1 (vw v).toNat ≤ 2) (fun z => k4 z.1)]
      simp only [M286, e286_0, Option.getD_some, Option.bind_some, Option.toList_some, Option.toList_none, List.cons_append, List.nil_append, and_self, and_true, true_and, false_and, and_false, ite_self, not_true_eq_false, not_false_eq_true, reduceIte, Nat.reduceEqDiff, ab_I, ab_L, ab_R, ao_I, ao_L, ao_R, gL_sL, gI_sI, gR_sR, gI_sL, gI_sR, gL_sI, gL_sR, gR_sI, gR_sL, sc_h H, sc_ao H, wp8 l8, g8, Int.toNat_natCast, rd_8 hv, Int.reduceEq, eq_false k4, e286_165]
  · rw [wI (show wntP E v 114 ↔ vk v = 4 ∧ 3 ≤ E.1 (vw v).toNat ∧ E.1 (vw v).toNat ≤ 3 from Iff.rfl)]
    by_cases k4 : vk v = 4
    · obtain ⟨m8, me⟩ := map k4
      have t := T45 (c := 3) C m8
      rw [me] at t
      by_cases q : 0 ≤ E.1 (vw v).toNat ∧ E.1 (vw v).toNat = 3
      · rw [b2_yes q] at t
        rw [b2_yes (p := vk v = 4 ∧ 3 ≤ E.1 (vw v).toNat ∧ E.1 (vw v).toNat ≤ 3) ⟨k4, by omega⟩]
        simp only [M286, e286_0, Option.getD_some, Option.bind_some, Option.toList_some, Option.toList_none, List.cons_append, List.nil_append, and_self, and_true, true_and, false_and, and_false, ite_self, not_true_eq_false, not_false_eq_true, reduceIte, Nat.reduceEqDiff, ab_I, ab_L, ab_R, ao_I, ao_L, ao_R, gL_sL, gI_sI, gR_sR, gI_sL, gI_sR, gL_sI, gL_sR, gR_sI, gR_sL, sc_h H, sc_ao H, wp8 l8, g8, Int.toNat_natCast, rd_8 hv, Int.reduceEq, eq_true k4, lw, t, e286_182, oneI]
      · rw [b2_no q] at t
        rw [b2_no (p := vk v = 4 ∧ 3 ≤ E.1 (vw v).toNat ∧ E.1 (vw v).toNat ≤ 3) (fun z => q (by omega))]
        simp only [M286, e286_0, Option.getD_some, Option.bind_some, Option.toList_some, Option.toList_none, List.cons_append, List.nil_append, and_self, and_true, true_and, false_and, and_false, ite_self, not_true_eq_false, not_false_eq_true, reduceIte, Nat.reduceEqDiff, ab_I, ab_L, ab_R, ao_I, ao_L, ao_R, gL_sL, gI_sI, gR_sR, gI_sL, gI_sR, gL_sI, gL_sR, gR_sI, gR_sL, sc_h H, sc_ao H, wp8 l8, g8, Int.toNat_natCast, rd_8 hv, Int.reduceEq, eq_true k4, lw, t, e286_182, e286_189]
    · rw [b2_no (p := vk v = 4 ∧ 3 ≤ E.1 (vw v).toNat ∧ E.1 (vw v).toNat ≤ 3) (fun z => k4 z.1)]
      simp only [M286, e286_0, Option.getD_some, Option.bind_some, Option.toList_some, Option.toList_none, List.cons_append, List.nil_append, and_self, and_true, true_and, false_and, and_false, ite_self, not_true_eq_false, not_false_eq_true, reduceIte, Nat.reduceEqDiff, ab_I, ab_L, ab_R, ao_I, ao_L, ao_R, gL_sL, gI_sI, gR_sR, gI_sL, gI_sR, gL_sI, gL_sR, gR_sI, gR_sL, sc_h H, sc_ao H, wp8 l8, g8, Int.toNat_natCast, rd_8 hv, Int.reduceEq, eq_false k4, e286_189]
  · rw [wI (show wntP E v 99 ↔ vk v = 2 from Iff.rfl)]
    by_cases k2 : vk v = 2
    · rw [b2_yes k2]
      simp only [M286, e286_0, Option.getD_some, Option.bind_some, Option.toList_some, Option.toList_none, List.cons_append, List.nil_append, and_self, and_true, true_and, false_and, and_false, ite_self, not_true_eq_false, not_false_eq_true, reduceIte, Nat.reduceEqDiff, ab_I, ab_L, ab_R, ao_I, ao_L, ao_R, gL_sL, gI_sI, gR_sR, gI_sL, gI_sR, gL_sI, gL_sR, gR_sI, gR_sL, sc_h H, sc_ao H, wp8 l8, g8, Int.toNat_natCast, rd_8 hv, Int.reduceEq, eq_true k2]
    · rw [b2_no k2]
      simp only [M286, e286_0, Option.getD_some, Option.bind_some, Option.toList_some, Option.toList_none, List.cons_append, List.nil_append, and_self, and_true, true_and, false_and, and_false, ite_self, not_true_eq_false, not_false_eq_true, reduceIte, Nat.reduceEqDiff, ab_I, ab_L, ab_R, ao_I, ao_L, ao_R, gL_sL, gI_sI, gR_sR, gI_sL, gI_sR, gL_sI, gL_sR, gR_sI, gR_sL, sc_h H, sc_ao H, wp8 l8, g8, Int.toNat_natCast, rd_8 hv, Int.reduceEq, eq_false k2]
  · rw [wI (show wntP E v 116 ↔ vk v = 1 ∧ (¬ jA (vn v) = 0#64 ∧ ¬ iL 64 < jB (vn v)) from Iff.rfl)]
    have t := T287 (m := 64) H hp hv
    by_cases k1 : vk v = 1
    · by_cases q : ¬ jA (vn v) = 0#64 ∧ ¬ iL 64 < jB (vn v)
      · rw [b2_yes q] at t
        rw [b2_yes (p := vk v = 1 ∧ (¬ jA (vn v) = 0#64 ∧ ¬ iL 64 < jB (vn v))) ⟨k1, q⟩]
        simp only [M286, e286_0, Option.getD_some, Option.bind_some, Option.toList_some, Option.toList_none, List.cons_append, List.nil_append, and_self, and_true, true_and, false_and, and_false, ite_self, not_true_eq_false, not_false_eq_true, reduceIte, Nat.reduceEqDiff, ab_I, ab_L, ab_R, ao_I, ao_L, ao_R, gL_sL, gI_sI, gR_sR, gI_sL, gI_sR, gL_sI, gL_sR, gR_sI, gR_sL, sc_h H, sc_ao H, wp8 l8, g8, Int.toNat_natCast, rd_8 hv, Int.reduceEq, eq_true k1, t, e286_215, oneI]
      · rw [b2_no q] at t
        rw [b2_no (p := vk v = 1 ∧ (¬ jA (vn v) = 0#64 ∧ ¬ iL 64 < jB (vn v))) (fun z => q z.2)]
        simp only [M286, e286_0, Option.getD_some, Option.bind_some, Option.toList_some, Option.toList_none, List.cons_append, List.nil_append, and_self, and_true, true_and, false_and, and_false, ite_self, not_true_eq_false, not_false_eq_true, reduceIte, Nat.reduceEqDiff, ab_I, ab_L, ab_R, ao_I, ao_L, ao_R, gL_sL, gI_sI, gR_sR, gI_sL, gI_sR, gL_sI, gL_sR, gR_sI, gR_sL, sc_h H, sc_ao H, wp8 l8, g8, Int.toNat_natCast, rd_8 hv, Int.reduceEq, eq_true k1, t, e286_215, e286_222]
    · rw [b2_no (p := vk v = 1 ∧ (¬ jA (vn v) = 0#64 ∧ ¬ iL 64 < jB (vn v))) (fun z => k1 z.1)]
      simp only [M286, e286_0, Option.getD_some, Option.bind_some, Option.toList_some, Option.toList_none, List.cons_append, List.nil_append, and_self, and_true, true_and, false_and, and_false, ite_self, not_true_eq_false, not_false_eq_true, reduceIte, Nat.reduceEqDiff, ab_I, ab_L, ab_R, ao_I, ao_L, ao_R, gL_sL, gI_sI, gR_sR, gI_sL, gI_sR, gL_sI, gL_sR, gR_sI, gR_sL, sc_h H, sc_ao H, wp8 l8, g8, Int.toNat_natCast, rd_8 hv, Int.reduceEq, eq_false k1, e286_222]
  · rw [wI (show wntP E v 119 ↔ vk v = 1 ∧ (¬ jA (vn v) = 0#64 ∧ ¬ iL 128 < jB (vn v)) from Iff.rfl)]
    have t := T287 (m := 128) H hp hv
    by_cases k1 : vk v = 1
    · by_cases q : ¬ jA (vn v) = 0#64 ∧ ¬ iL 128 < jB (vn v)
      · rw [b2_yes q] at t
        rw [b2_yes (p := vk v = 1 ∧ (¬ jA (vn v) = 0#64 ∧ ¬ iL 128 < jB (vn v))) ⟨k1, q⟩]
        simp only [M286, e286_0, Option.getD_some, Option.bind_some, Option.toList_some, Option.toList_none, List.cons_append, List.nil_append, and_self, and_true, true_and, false_and, and_false, ite_self, not_true_eq_false, not_false_eq_true, reduceIte, Nat.reduceEqDiff, ab_I, ab_L, ab_R, ao_I, ao_L, ao_R, gL_sL, gI_sI, gR_sR, gI_sL, gI_sR, gL_sI, gL_sR, gR_sI, gR_sL, sc_h H, sc_ao H, wp8 l8, g8, Int.toNat_natCast, rd_8 hv, Int.reduceEq, eq_true k1, t, e286_237, oneI]
      · rw [b2_no q] at t
        rw [b2_no (p := vk v = 1 ∧ (¬ jA (vn v) = 0#64 ∧ ¬ iL 128 < jB (vn v))) (fun z => q z.2)]
        simp only [M286, e286_0, Option.getD_some, Option.bind_some, Option.toList_some, Option.toList_none, List.cons_append, List.nil_append, and_self, and_true, true_and, false_and, and_false, ite_self, not_true_eq_false, not_false_eq_true, reduceIte, Nat.reduceEqDiff, ab_I, ab_L, ab_R, ao_I, ao_L, ao_R, gL_sL, gI_sI, gR_sR, gI_sL, gI_sR, gL_sI, gL_sR, gR_sI, gR_sL, sc_h H, sc_ao H, wp8 l8, g8, Int.toNat_natCast, rd_8 hv, Int.reduceEq, eq_true k1, t, e286_237, e286_244]
    · rw [b2_no (p := vk v = 1 ∧ (¬ jA (vn v) = 0#64 ∧ ¬ iL 128 < jB (vn v))) (fun z => k1 z.1)]
      simp only [M286, e286_0, Option.getD_some, Option.bind_some, Option.toList_some, Option.toList_none, List.cons_append, List.nil_append, and_self, and_true, true_and, false_and, and_false, ite_self, not_true_eq_false, not_false_eq_true, reduceIte, Nat.reduceEqDiff, ab_I, ab_L, ab_R, ao_I, ao_L, ao_R, gL_sL, gI_sI, gR_sR, gI_sL, gI_sR, gL_sI, gL_sR, gR_sI, gR_sL, sc_h H, sc_ao H, wp8 l8, g8, Int.toNat_natCast, rd_8 hv, Int.reduceEq, eq_false k1, e286_244]
  · rw [wI (show wntP E v 105 ↔ vk v = 1 ∧ isC (vn v) ∧ 1 ≤ (jV (vn v)).toInt ∧ (jV (vn v)).toInt ≤ 64 from Iff.rfl)]
    have o1 : BitVec.toInt (BitVec.ofNat 64 1) = 1 := rfl
    have o64 : BitVec.toInt (iL 64) = 64 := rfl
    by_cases k1 : vk v = 1
    · have r1 : gL σ (k + 1 + 0) (pl + 1) = jV (vn v) := by rw [rd_1 hv, if_neg (by omega)]
      by_cases c0 : isC (vn v)
      · have c0' : jM (vn v) = BitVec.ofNat 64 0 := c0
        by_cases d1 : (jV (vn v)).toInt < 1
        · rw [b2_no (p := vk v = 1 ∧ isC (vn v) ∧ 1 ≤ (jV (vn v)).toInt ∧ (jV (vn v)).toInt ≤ 64) (fun z => by have := z.2.2.1; omega)]
          simp only [M286, e286_0, Option.getD_some, Option.bind_some, Option.toList_some, Option.toList_none, List.cons_append, List.nil_append, and_self, and_true, true_and, false_and, and_false, ite_self, not_true_eq_false, not_false_eq_true, reduceIte, Nat.reduceEqDiff, ab_I, ab_L, ab_R, ao_I, ao_L, ao_R, gL_sL, gI_sI, gR_sR, gI_sL, gI_sR, gL_sI, gL_sR, gR_sI, gR_sL, sc_h H, sc_ao H, wp8 l8, g8, Int.toNat_natCast, rd_8 hv, Int.reduceEq, eq_true k1, wp2 l2, g2, rd_2 hv, eq_true c0', wp1 l1, g1, r1, o1, eq_true d1, e286_290]
        · by_cases d2 : 64 < (jV (vn v)).toInt
          · rw [b2_no (p := vk v = 1 ∧ isC (vn v) ∧ 1 ≤ (jV (vn v)).toInt ∧ (jV (vn v)).toInt ≤ 64) (fun z => by have := z.2.2.2; omega)]
            simp only [M286, e286_0, Option.getD_some, Option.bind_some, Option.toList_some, Option.toList_none, List.cons_append, List.nil_append, and_self, and_true, true_and, false_and, and_false, ite_self, not_true_eq_false, not_false_eq_true, reduceIte, Nat.reduceEqDiff, ab_I, ab_L, ab_R, ao_I, ao_L, ao_R, gL_sL, gI_sI, gR_sR, gI_sL, gI_sR, gL_sI, gL_sR, gR_sI, gR_sL, sc_h H, sc_ao H, wp8 l8, g8, Int.toNat_natCast, rd_8 hv, Int.reduceEq, eq_true k1, wp2 l2, g2, rd_2 hv, eq_true c0', wp1 l1, g1, r1, o1, eq_false d1, o64, eq_true d2, e286_290]
          · rw [b2_yes (p := vk v = 1 ∧ isC (vn v) ∧ 1 ≤ (jV (vn v)).toInt ∧ (jV (vn v)).toInt ≤ 64) ⟨k1, c0, by omega, by omega⟩]
            simp only [M286, e286_0, Option.getD_some, Option.bind_some, Option.toList_some, Option.toList_none, List.cons_append, List.nil_append, and_self, and_true, true_and, false_and, and_false, ite_self, not_true_eq_false, not_false_eq_true, reduceIte, Nat.reduceEqDiff, ab_I, ab_L, ab_R, ao_I, ao_L, ao_R, gL_sL, gI_sI, gR_sR, gI_sL, gI_sR, gL_sI, gL_sR, gR_sI, gR_sL, sc_h H, sc_ao H, wp8 l8, g8, Int.toNat_natCast, rd_8 hv, Int.reduceEq, eq_true k1, wp2 l2, g2, rd_2 hv, eq_true c0', wp1 l1, g1, r1, o1, eq_false d1, o64, eq_false d2]
      · have c0' : ¬ jM (vn v) = BitVec.ofNat 64 0 := c0
        rw [b2_no (p := vk v = 1 ∧ isC (vn v) ∧ 1 ≤ (jV (vn v)).toInt ∧ (jV (vn v)).toInt ≤ 64) (fun z => c0 z.2.1)]
        simp only [M286, e286_0, Option.getD_some, Option.bind_some, Option.toList_some, Option.toList_none, List.cons_append, List.nil_append, and_self, and_true, true_and, false_and, and_false, ite_self, not_true_eq_false, not_false_eq_true, reduceIte, Nat.reduceEqDiff, ab_I, ab_L, ab_R, ao_I, ao_L, ao_R, gL_sL, gI_sI, gR_sR, gI_sL, gI_sR, gL_sI, gL_sR, gR_sI, gR_sL, sc_h H, sc_ao H, wp8 l8, g8, Int.toNat_natCast, rd_8 hv, Int.reduceEq, eq_true k1, wp2 l2, g2, rd_2 hv, eq_false c0', e286_290]
    · rw [b2_no (p := vk v = 1 ∧ isC (vn v) ∧ 1 ≤ (jV (vn v)).toInt ∧ (jV (vn v)).toInt ≤ 64) (fun z => k1 z.1)]
      simp only [M286, e286_0, Option.getD_some, Option.bind_some, Option.toList_some, Option.toList_none, List.cons_append, List.nil_append, and_self, and_true, true_and, false_and, and_false, ite_self, not_true_eq_false, not_false_eq_true, reduceIte, Nat.reduceEqDiff, ab_I, ab_L, ab_R, ao_I, ao_L, ao_R, gL_sL, gI_sI, gR_sR, gI_sL, gI_sR, gL_sI, gL_sR, gR_sI, gR_sL, sc_h H, sc_ao H, wp8 l8, g8, Int.toNat_natCast, rd_8 hv, Int.reduceEq, eq_false k1, e286_290]
  · rw [wI (show wntP E v 104 ↔ vk v = 9 ∧ vo v = 0 ∧ isC (vn v) ∧ jV (vn v) = 0#64 from Iff.rfl)]
    have z7 : (iL (vo v) = BitVec.ofNat 64 0) = (vo v = 0) := iL_z (by omega)
    by_cases k9 : vk v = 9
    · have r1 : gL σ (k + 1 + 0) (pl + 1) = jV (vn v) := by rw [rd_1 hv, if_neg (by omega)]
      by_cases o0 : vo v = 0
      · by_cases c0 : isC (vn v)
        · have c0' : jM (vn v) = BitVec.ofNat 64 0 := c0
          by_cases d0 : jV (vn v) = 0#64
          · have d0' : jV (vn v) = BitVec.ofNat 64 0 := d0
            rw [b2_yes (p := vk v = 9 ∧ vo v = 0 ∧ isC (vn v) ∧ jV (vn v) = 0#64) ⟨k9, o0, c0, d0⟩]
            simp only [M286, e286_0, Option.getD_some, Option.bind_some, Option.toList_some, Option.toList_none, List.cons_append, List.nil_append, and_self, and_true, true_and, false_and, and_false, ite_self, not_true_eq_false, not_false_eq_true, reduceIte, Nat.reduceEqDiff, ab_I, ab_L, ab_R, ao_I, ao_L, ao_R, gL_sL, gI_sI, gR_sR, gI_sL, gI_sR, gL_sI, gL_sR, gR_sI, gR_sL, sc_h H, sc_ao H, wp8 l8, g8, Int.toNat_natCast, rd_8 hv, Int.reduceEq, eq_true k9, wp7 l7, g7, rd_7 hv, z7, eq_true o0, wp2 l2, g2, rd_2 hv, eq_true c0', wp1 l1, g1, r1, eq_true d0']
          · have d0' : ¬ jV (vn v) = BitVec.ofNat 64 0 := d0
            rw [b2_no (p := vk v = 9 ∧ vo v = 0 ∧ isC (vn v) ∧ jV (vn v) = 0#64) (fun z => d0 z.2.2.2)]
            simp only [M286, e286_0, Option.getD_some, Option.bind_some, Option.toList_some, Option.toList_none, List.cons_append, List.nil_append, and_self, and_true, true_and, false_and, and_false, ite_self, not_true_eq_false, not_false_eq_true, reduceIte, Nat.reduceEqDiff, ab_I, ab_L, ab_R, ao_I, ao_L, ao_R, gL_sL, gI_sI, gR_sR, gI_sL, gI_sR, gL_sI, gL_sR, gR_sI, gR_sL, sc_h H, sc_ao H, wp8 l8, g8, Int.toNat_natCast, rd_8 hv, Int.reduceEq, eq_true k9, wp7 l7, g7, rd_7 hv, z7, eq_true o0, wp2 l2, g2, rd_2 hv, eq_true c0', wp1 l1, g1, r1, eq_false d0', e286_336]
        · have c0' : ¬ jM (vn v) = BitVec.ofNat 64 0 := c0
          rw [b2_no (p := vk v = 9 ∧ vo v = 0 ∧ isC (vn v) ∧ jV (vn v) = 0#64) (fun z => c0 z.2.2.1)]
          simp only [M286, e286_0, Option.getD_some, Option.bind_some, Option.toList_some, Option.toList_none, List.cons_append, List.nil_append, and_self, and_true, true_and, false_and, and_false, ite_self, not_true_eq_false, not_false_eq_true, reduceIte, Nat.reduceEqDiff, ab_I, ab_L, ab_R, ao_I, ao_L, ao_R, gL_sL, gI_sI, gR_sR, gI_sL, gI_sR, gL_sI, gL_sR, gR_sI, gR_sL, sc_h H, sc_ao H, wp8 l8, g8, Int.toNat_natCast, rd_8 hv, Int.reduceEq, eq_true k9, wp7 l7, g7, rd_7 hv, z7, eq_true o0, wp2 l2, g2, rd_2 hv, eq_false c0', e286_336]
      · rw [b2_no (p := vk v = 9 ∧ vo v = 0 ∧ isC (vn v) ∧ jV (vn v) = 0#64) (fun z => o0 z.2.1)]
        simp only [M286, e286_0, Option.getD_some, Option.bind_some, Option.toList_some, Option.toList_none, List.cons_append, List.nil_append, and_self, and_true, true_and, false_and, and_false, ite_self, not_true_eq_false, not_false_eq_true, reduceIte, Nat.reduceEqDiff, ab_I, ab_L, ab_R, ao_I, ao_L, ao_R, gL_sL, gI_sI, gR_sR, gI_sL, gI_sR, gL_sI, gL_sR, gR_sI, gR_sL, sc_h H, sc_ao H, wp8 l8, g8, Int.toNat_natCast, rd_8 hv, Int.reduceEq, eq_true k9, wp7 l7, g7, rd_7 hv, z7, eq_false o0, e286_336]
    · rw [b2_no (p := vk v = 9 ∧ vo v = 0 ∧ isC (vn v) ∧ jV (vn v) = 0#64) (fun z => k9 z.1)]
      simp only [M286, e286_0, Option.getD_some, Option.bind_some, Option.toList_some, Option.toList_none, List.cons_append, List.nil_append, and_self, and_true, true_and, false_and, and_false, ite_self, not_true_eq_false, not_false_eq_true, reduceIte, Nat.reduceEqDiff, ab_I, ab_L, ab_R, ao_I, ao_L, ao_R, gL_sL, gI_sI, gR_sR, gI_sL, gI_sR, gL_sI, gL_sR, gR_sI, gR_sL, sc_h H, sc_ao H, wp8 l8, g8, Int.toNat_natCast, rd_8 hv, Int.reduceEq, eq_false k9, e286_336]
  · rw [wI (show wntP E v 110 ↔ vk v = 1 from Iff.rfl)]
    by_cases k1 : vk v = 1
    · rw [b2_yes k1]
      simp only [M286, e286_0, Option.getD_some, Option.bind_some, Option.toList_some, Option.toList_none, List.cons_append, List.nil_append, and_self, and_true, true_and, false_and, and_false, ite_self, not_true_eq_false, not_false_eq_true, reduceIte, Nat.reduceEqDiff, ab_I, ab_L, ab_R, ao_I, ao_L, ao_R, gL_sL, gI_sI, gR_sR, gI_sL, gI_sR, gL_sI, gL_sR, gR_sI, gR_sL, sc_h H, sc_ao H, wp8 l8, g8, Int.toNat_natCast, rd_8 hv, Int.reduceEq, eq_true k1]
    · rw [b2_no k1]
      simp only [M286, e286_0, Option.getD_some, Option.bind_some, Option.toList_some, Option.toList_none, List.cons_append, List.nil_append, and_self, and_true, true_and, false_and, and_false, ite_self, not_true_eq_false, not_false_eq_true, reduceIte, Nat.reduceEqDiff, ab_I, ab_L, ab_R, ao_I, ao_L, ao_R, gL_sL, gI_sI, gR_sR, gI_sL, gI_sR, gL_sI, gL_sR, gR_sI, gR_sL, sc_h H, sc_ao H, wp8 l8, g8, Int.toNat_natCast, rd_8 hv, Int.reduceEq, eq_false k1]
/-- the bytes of an argument -/
def wntY (E : EV) (S : ST) (x : VL) (n : Int) : Int := if ¬ mvs x then 8 else if ¬ room E x 0 n then 5 else if vk x = 3 ∧ areS S (vw x).toNat (vo x + 128).toNat n.toNat = false then 6 else 0
theorem wntB_n {x : VL} {n : Int} (h0 : ¬ vk x = 0) (hm : ¬ isMb x) : wntB E S x n = wntY E S x n := by
  unfold wntB wntY wntA
  rw [if_neg h0, if_neg hm]
  by_cases m : mvs x
  · rw [if_pos (decide_eq_true m), if_neg (not_not_intro rfl), if_neg (not_not_intro m)]
  · rw [if_neg (fun z => m (of_decide_eq_true z)), if_pos (by decide), if_pos m]
theorem T288 {r : Nat} {n : Int} (H : SC σ k j E w) (hS : CSt σ k S) (P : PX S E t) (hr : r ≤ 10) (hn : 0 ≤ n ∧ n ≤ 128) : MM 288 [mR (some 40), mI ((pR S r : Nat) : Int), mL (iL n)] σ = some (some (mI (wntY E S (rgV S r) n)), σ) := by
  have F := PX_F P
  have l := pR_lt F hr
  have hv := cAt_rg hS F.1 hr
  have wv := okW_r P hr
  have ov := rV_ok P.1 hr
  have t14 := T214r H hS P hr
  have l8 : pR S r + 8 < 100000 := by omega
  have g8 := gSt (sc_k H) (show pR S r + 8 < 1188 by omega)
  have l7 : pR S r + 7 < 100000 := by omega
  have g7 := gSt (sc_k H) (show pR S r + 7 < 1188 by omega)
  have t45 : MM 245 [mI (vk (rgV S r))] σ = some (some (mI (b2 (mvs (rgV S r)))), σ) := T245
  unfold wntY
  by_cases m : mvs (rgV S r)
  · rw [b2_yes m] at t45
    rw [if_neg (not_not_intro m)]
    have t53 := T253 (b := 0) (n := n) H l hv wv ov m (by omega) (by omega)
    have t53 : MM 253 [mR (some 40), mI ((pR S r : Nat) : Int), mL (BitVec.ofNat 64 0), mL (iL n)] σ = some (some (mI (b2 (room E (rgV S r) 0 n))), σ) := t53
    by_cases rm : room E (rgV S r) 0 n
    · rw [b2_yes rm] at t53
      rw [if_neg (not_not_intro rm)]
      by_cases k3 : vk (rgV S r) = 3
      · have rm3 : -128 ≤ vo (rgV S r) + 0 ∧ vo (rgV S r) + 0 ≤ -n := by
          have rm' := rm
          unfold room at rm'
          rw [if_pos k3] at rm'
          exact rm'
        have fr := okV_f P.1 hr k3
        obtain ⟨f, hf⟩ : ∃ f : Nat, vw (rgV S r) = (f : Int) := ⟨(vw (rgV S r)).toNat, by omega⟩
        obtain ⟨b, hb⟩ : ∃ b : Nat, vo (rgV S r) + 128 = (b : Int) := ⟨(vo (rgV S r) + 128).toNat, by omega⟩
        obtain ⟨m, hm⟩ : ∃ m : Nat, n = (m : Int) := ⟨n.toNat, by omega⟩
        have t26 := T226 (f := f) (b := b) (n := m) (a := vo (rgV S r)) (sc_k H) hS P.2.1 (fun i hi => (okW_S P.1 P.2.1 P.2.2.1 P.2.2.2 hi).1) F.2 (by omega) hb (by omega)
        have rf : gL σ (k + 1 + 0) (pR S r + 8) = iL (f : Int) := by rw [rd_8 hv, hf]
        rw [hf, hb, hm, Int.toNat_natCast, Int.toNat_natCast, Int.toNat_natCast]
        rw [hm] at t53
        by_cases ar : areS S f b m = true
        · rw [b2_yes ar] at t26
          rw [if_neg (fun z => by rw [ar] at z; exact Bool.noConfusion z.2)]
          simp only [M288, e288_0, e288_8, e288_15, e288_28, e288_71, Option.getD_some, Option.bind_some, Option.toList_some, Option.toList_none, List.cons_append, List.nil_append, and_self, and_true, true_and, false_and, and_false, ite_self, not_true_eq_false, not_false_eq_true, reduceIte, Nat.reduceEqDiff, ab_I, ab_L, ab_R, ao_I, ao_L, ao_R, gL_sL, gI_sI, gR_sR, gI_sL, gI_sR, gL_sI, gL_sR, gR_sI, gR_sL, sc_h H, sc_ao H, t14, t45, t53, oneI, eq_true k3, wp8 l8, g8, wp7 l7, g7, Int.toNat_natCast, rf, rd_7 hv, t26]
        · rw [b2_no ar] at t26
          rw [if_pos ⟨k3, by simpa using ar⟩]
          simp only [M288, e288_0, e288_8, e288_15, e288_28, e288_71, Option.getD_some, Option.bind_some, Option.toList_some, Option.toList_none, List.cons_append, List.nil_append, and_self, and_true, true_and, false_and, and_false, ite_self, not_true_eq_false, not_false_eq_true, reduceIte, Nat.reduceEqDiff, ab_I, ab_L, ab_R, ao_I, ao_L, ao_R, gL_sL, gI_sI, gR_sR, gI_sL, gI_sR, gL_sI, gL_sR, gR_sI, gR_sL, sc_h H, sc_ao H, t14, t45, t53, oneI, eq_true k3, wp8 l8, g8, wp7 l7, g7, Int.toNat_natCast, rf, rd_7 hv, t26]
      · rw [if_neg (fun z => k3 z.1)]
        simp only [M288, e288_0, e288_8, e288_15, e288_28, Option.getD_some, Option.bind_some, Option.toList_some, Option.toList_none, List.cons_append, List.nil_append, and_self, and_true, true_and, false_and, and_false, ite_self, not_true_eq_false, not_false_eq_true, reduceIte, Nat.reduceEqDiff, ab_I, ab_L, ab_R, ao_I, ao_L, ao_R, gL_sL, gI_sI, gR_sR, gI_sL, gI_sR, gL_sI, gL_sR, gR_sI, gR_sL, sc_h H, sc_ao H, t14, t45, t53, oneI, eq_false k3]
    · rw [b2_no rm] at t53
      rw [if_pos rm]
      simp only [M288, e288_0, e288_8, e288_15, e288_28, Option.getD_some, Option.bind_some, Option.toList_some, Option.toList_none, List.cons_append, List.nil_append, and_self, and_true, true_and, false_and, and_false, ite_self, not_true_eq_false, not_false_eq_true, reduceIte, Nat.reduceEqDiff, ab_I, ab_L, ab_R, ao_I, ao_L, ao_R, gL_sL, gI_sI, gR_sR, gI_sL, gI_sR, gL_sI, gL_sR, gR_sI, gR_sL, sc_h H, sc_ao H, t14, t45, t53, oneI]
  · rw [b2_no m] at t45
    rw [if_pos m]
    simp only [M288, e288_0, e288_8, e288_15, Option.getD_some, Option.bind_some, Option.toList_some, Option.toList_none, List.cons_append, List.nil_append, and_self, and_true, true_and, false_and, and_false, ite_self, not_true_eq_false, not_false_eq_true, reduceIte, Nat.reduceEqDiff, ab_I, ab_L, ab_R, ao_I, ao_L, ao_R, gL_sL, gI_sI, gR_sR, gI_sL, gI_sR, gL_sI, gL_sR, gR_sI, gR_sL, sc_h H, sc_ao H, t14, t45]
/-- an argument that must be something -/
theorem T284n {r : Nat} (H : SC σ k j E w) (hS : CSt σ k S) (P : PX S E t) (hr : r ≤ 10) (hc : c = 109 ∨ c = 112 ∨ c = 114 ∨ c = 99 ∨ c = 116 ∨ c = 119 ∨ c = 105 ∨ c = 104 ∨ c = 110) {b : Bool} (hb : (b = true) ↔ wntP E (rgV S r) c) : MM 284 [mR (some 40), mI ((pR S r : Nat) : Int), mI c] σ = some (some (mI (wntA (rgV S r) b)), σ) := by
  have F := PX_F P
  have t86 := T286 H (pR_lt F hr) (cAt_rg hS F.1 hr) (okW_r P hr) (rV_ok P.1 hr) hc
  have t14 := T214r H hS P hr
  have t44 : MM 244 [mI (vk (rgV S r))] σ = some (some (mI (b2 (isMb (rgV S r)))), σ) := T244
  unfold wntA
  by_cases k0 : vk (rgV S r) = 0
  · rw [if_pos k0]
    simp only [M284, e284_0, e284_8, Option.getD_some, Option.bind_some, Option.toList_some, Option.toList_none, List.cons_append, List.nil_append, and_self, and_true, true_and, false_and, and_false, ite_self, not_true_eq_false, not_false_eq_true, reduceIte, Nat.reduceEqDiff, ab_I, ab_L, ab_R, ao_I, ao_L, ao_R, gL_sL, gI_sI, gR_sR, gI_sL, gI_sR, gL_sI, gL_sR, gR_sI, gR_sL, sc_h H, sc_ao H, t14, eq_true k0]
  · rw [if_neg k0]
    by_cases mb : isMb (rgV S r)
    · rw [if_pos mb]
      rw [b2_yes mb] at t44
      simp only [M284, e284_0, e284_8, e284_19, Option.getD_some, Option.bind_some, Option.toList_some, Option.toList_none, List.cons_append, List.nil_append, and_self, and_true, true_and, false_and, and_false, ite_self, not_true_eq_false, not_false_eq_true, reduceIte, Nat.reduceEqDiff, ab_I, ab_L, ab_R, ao_I, ao_L, ao_R, gL_sL, gI_sI, gR_sR, gI_sL, gI_sR, gL_sI, gL_sR, gR_sI, gR_sL, sc_h H, sc_ao H, t14, eq_false k0, t44, oneI]
    · rw [if_neg mb]
      rw [b2_no mb] at t44
      have c1 : ¬ c = 98 := by omega
      have c2 : ¬ c = 107 := by omega
      have c3 : ¬ c = 115 := by omega
      have c4 : ¬ c = 118 := by omega
      by_cases p : wntP E (rgV S r) c
      · rw [show wantI E (rgV S r) c = 1 from if_pos p] at t86
        rw [if_pos (hb.2 p)]
        simp only [M284, e284_0, e284_8, e284_19, e284_178, Option.getD_some, Option.bind_some, Option.toList_some, Option.toList_none, List.cons_append, List.nil_append, and_self, and_true, true_and, false_and, and_false, ite_self, not_true_eq_false, not_false_eq_true, reduceIte, Nat.reduceEqDiff, ab_I, ab_L, ab_R, ao_I, ao_L, ao_R, gL_sL, gI_sI, gR_sR, gI_sL, gI_sR, gL_sI, gL_sR, gR_sI, gR_sL, sc_h H, sc_ao H, t14, eq_false k0, t44, eq_false c1, eq_false c2, eq_false c3, eq_false c4, t86, oneI]
      · rw [show wantI E (rgV S r) c = 0 from if_neg p] at t86
        rw [if_neg (fun z => p (hb.1 z))]
        simp only [M284, e284_0, e284_8, e284_19, e284_178, Option.getD_some, Option.bind_some, Option.toList_some, Option.toList_none, List.cons_append, List.nil_append, and_self, and_true, true_and, false_and, and_false, ite_self, not_true_eq_false, not_false_eq_true, reduceIte, Nat.reduceEqDiff, ab_I, ab_L, ab_R, ao_I, ao_L, ao_R, gL_sL, gI_sI, gR_sR, gI_sL, gI_sR, gL_sI, gL_sR, gR_sI, gR_sL, sc_h H, sc_ao H, t14, eq_false k0, t44, eq_false c1, eq_false c2, eq_false c3, eq_false c4, t86]
/-- an argument of so many bytes: a key, a value, as many as register 2 says -/
theorem T284b {r : Nat} (H : SC σ k j E w) (hS : CSt σ k S) (P : PX S E t) (hr : r ≤ 10) {n : Int} (hn : 0 ≤ n ∧ n ≤ 128)
    (h : (c = 107 ∧ (0 ≤ vw (rgV S 1) ∧ vw (rgV S 1) ≤ 7) ∧ n = E.2.1 (vw (rgV S 1)).toNat) ∨ (c = 118 ∧ (0 ≤ vw (rgV S 1) ∧ vw (rgV S 1) ≤ 7) ∧ n = E.2.2 (vw (rgV S 1)).toNat) ∨ (c = 98 ∧ iL n = jB (vn (rgV S 2)))) : MM 284 [mR (some 40), mI ((pR S r : Nat) : Int), mI c] σ = some (some (mI (wntB E S (rgV S r) n)), σ) := by
  have F := PX_F P
  have C : CEO σ E := H.2.2.2.1
  have t14 := T214r H hS P hr
  have t44 : MM 244 [mI (vk (rgV S r))] σ = some (some (mI (b2 (isMb (rgV S r)))), σ) := T244
  have t88 := T288 H hS P hr hn
  by_cases k0 : vk (rgV S r) = 0
  · have e : wntB E S (rgV S r) n = 3 := by unfold wntB wntA; rw [if_pos k0, if_pos (by decide)]
    rw [e]
    simp only [M284, e284_0, e284_8, Option.getD_some, Option.bind_some, Option.toList_some, Option.toList_none, List.cons_append, List.nil_append, and_self, and_true, true_and, false_and, and_false, ite_self, not_true_eq_false, not_false_eq_true, reduceIte, Nat.reduceEqDiff, ab_I, ab_L, ab_R, ao_I, ao_L, ao_R, gL_sL, gI_sI, gR_sR, gI_sL, gI_sR, gL_sI, gL_sR, gR_sI, gR_sL, sc_h H, sc_ao H, t14, eq_true k0]
  · by_cases mb : isMb (rgV S r)
    · have e : wntB E S (rgV S r) n = 14 := by unfold wntB wntA; rw [if_neg k0, if_pos mb, if_pos (by decide)]
      rw [e]
      rw [b2_yes mb] at t44
      simp only [M284, e284_0, e284_8, e284_19, Option.getD_some, Option.bind_some, Option.toList_some, Option.toList_none, List.cons_append, List.nil_append, and_self, and_true, true_and, false_and, and_false, ite_self, not_true_eq_false, not_false_eq_true, reduceIte, Nat.reduceEqDiff, ab_I, ab_L, ab_R, ao_I, ao_L, ao_R, gL_sL, gI_sI, gR_sR, gI_sL, gI_sR, gL_sI, gL_sR, gR_sI, gR_sL, sc_h H, sc_ao H, t14, eq_false k0, t44, oneI]
    · rw [wntB_n k0 mb]
      rw [b2_no mb] at t44
      have t85 := T285 H hS P
      rcases h with ⟨rfl, h1, e⟩ | ⟨rfl, h1, e⟩ | ⟨rfl, e⟩
      · have m8 : vw (rgV S 1) % 8 = vw (rgV S 1) := by omega
        have i0 := h1.1
        have i8 : vw (rgV S 1) < 8 := by omega
        have g := (C (vw (rgV S 1)).toNat (by omega)).1
        rw [← e] at g
        rw [m8] at t85
        simp only [M284, e284_0, e284_8, e284_19, e284_81, e284_86, Option.getD_some, Option.bind_some, Option.toList_some, Option.toList_none, List.cons_append, List.nil_append, and_self, and_true, true_and, false_and, and_false, ite_self, not_true_eq_false, not_false_eq_true, reduceIte, Nat.reduceEqDiff, ab_I, ab_L, ab_R, ao_I, ao_L, ao_R, gL_sL, gI_sI, gR_sR, gI_sL, gI_sR, gL_sI, gL_sR, gR_sI, gR_sL, sc_h H, sc_ao H, t14, eq_false k0, t44, Int.reduceEq, t85, g_31, i0, i8, g, t88]
      · have m8 : vw (rgV S 1) % 8 = vw (rgV S 1) := by omega
        have i0 := h1.1
        have i8 : vw (rgV S 1) < 8 := by omega
        have g := (C (vw (rgV S 1)).toNat (by omega)).2.1
        rw [← e] at g
        rw [m8] at t85
        simp only [M284, e284_0, e284_8, e284_19, e284_100, e284_105, Option.getD_some, Option.bind_some, Option.toList_some, Option.toList_none, List.cons_append, List.nil_append, and_self, and_true, true_and, false_and, and_false, ite_self, not_true_eq_false, not_false_eq_true, reduceIte, Nat.reduceEqDiff, ab_I, ab_L, ab_R, ao_I, ao_L, ao_R, gL_sL, gI_sI, gR_sR, gI_sL, gI_sR, gL_sI, gL_sR, gR_sI, gR_sL, sc_h H, sc_ao H, t14, eq_false k0, t44, Int.reduceEq, t85, g_32, i0, i8, g, t88]
      · have r2 : 2 ≤ 10 := by decide
        have l := pR_lt F r2
        have hv := cAt_rg hS F.1 r2
        have t12 : MM 212 [mR (some k), mI 2] σ = some (some (mI ((pR S 2 : Nat) : Int)), σ) := T212r H hS P r2
        have l4 : pR S 2 + 4 < 100000 := by omega
        have g4 := gSt (sc_k H) (show pR S 2 + 4 < 1188 by omega)
        have r4 : gL σ (k + 1 + 0) (pR S 2 + 4) = iL n := by rw [rd_4 hv, e]
        simp only [M284, e284_0, e284_8, e284_19, e284_123, e284_129, Option.getD_some, Option.bind_some, Option.toList_some, Option.toList_none, List.cons_append, List.nil_append, and_self, and_true, true_and, false_and, and_false, ite_self, not_true_eq_false, not_false_eq_true, reduceIte, Nat.reduceEqDiff, ab_I, ab_L, ab_R, ao_I, ao_L, ao_R, gL_sL, gI_sI, gR_sR, gI_sL, gI_sR, gL_sI, gL_sR, gR_sI, gR_sL, sc_h H, sc_ao H, t14, eq_false k0, t44, Int.reduceEq, t12, wp4 l4, g4, Int.toNat_natCast, r4, t88]
/-- the stack that random bytes come to -/
theorem T284s {r : Nat} (H : SC σ k j E w) (hS : CSt σ k S) (P : PX S E t) (hr : r ≤ 10) {n : Int} (hn : 0 ≤ n ∧ n ≤ 128) (e : iL n = jB (vn (rgV S 4))) : MM 284 [mR (some 40), mI ((pR S r : Nat) : Int), mI 115] σ = some (some (mI (fst (wntK (rgV S r) 3) (if room E (rgV S r) 0 n then 0 else 5))), σ) := by
  have F := PX_F P
  have t14 := T214r H hS P hr
  have t44 : MM 244 [mI (vk (rgV S r))] σ = some (some (mI (b2 (isMb (rgV S r)))), σ) := T244
  unfold wntK wntA
  by_cases k0 : vk (rgV S r) = 0
  · rw [if_pos k0]
    show _ = some (some (mI 3), σ)
    simp only [M284, e284_0, e284_8, Option.getD_some, Option.bind_some, Option.toList_some, Option.toList_none, List.cons_append, List.nil_append, and_self, and_true, true_and, false_and, and_false, ite_self, not_true_eq_false, not_false_eq_true, reduceIte, Nat.reduceEqDiff, ab_I, ab_L, ab_R, ao_I, ao_L, ao_R, gL_sL, gI_sI, gR_sR, gI_sL, gI_sR, gL_sI, gL_sR, gR_sI, gR_sL, sc_h H, sc_ao H, t14, eq_true k0]
  · rw [if_neg k0]
    by_cases mb : isMb (rgV S r)
    · rw [if_pos mb]
      rw [b2_yes mb] at t44
      show _ = some (some (mI 14), σ)
      simp only [M284, e284_0, e284_8, e284_19, Option.getD_some, Option.bind_some, Option.toList_some, Option.toList_none, List.cons_append, List.nil_append, and_self, and_true, true_and, false_and, and_false, ite_self, not_true_eq_false, not_false_eq_true, reduceIte, Nat.reduceEqDiff, ab_I, ab_L, ab_R, ao_I, ao_L, ao_R, gL_sL, gI_sI, gR_sR, gI_sL, gI_sR, gL_sI, gL_sR, gR_sI, gR_sL, sc_h H, sc_ao H, t14, eq_false k0, t44, oneI]
    · rw [if_neg mb]
      rw [b2_no mb] at t44
      by_cases k3 : vk (rgV S r) = 3
      · rw [if_pos (decide_eq_true k3)]
        have r4 : 4 ≤ 10 := by decide
        have l := pR_lt F r4
        have hv := cAt_rg hS F.1 r4
        have t12 : MM 212 [mR (some k), mI 4] σ = some (some (mI ((pR S 4 : Nat) : Int)), σ) := T212r H hS P r4
        have l4 : pR S 4 + 4 < 100000 := by omega
        have g4 := gSt (sc_k H) (show pR S 4 + 4 < 1188 by omega)
        have r4' : gL σ (k + 1 + 0) (pR S 4 + 4) = iL n := by rw [rd_4 hv, e]
        have t53 := T253 (b := 0) (n := n) H (pR_lt F hr) (cAt_rg hS F.1 hr) (okW_r P hr) (rV_ok P.1 hr) (Or.inl k3) (by omega) (by omega)
        have t53 : MM 253 [mR (some 40), mI ((pR S r : Nat) : Int), mL (BitVec.ofNat 64 0), mL (iL n)] σ = some (some (mI (b2 (room E (rgV S r) 0 n))), σ) := t53
        by_cases rm : room E (rgV S r) 0 n
        · rw [b2_yes rm] at t53
          rw [if_pos rm]
          show _ = some (some (mI 0), σ)
          simp only [M284, e284_0, e284_8, e284_19, e284_156, e284_162, Option.getD_some, Option.bind_some, Option.toList_some, Option.toList_none, List.cons_append, List.nil_append, and_self, and_true, true_and, false_and, and_false, ite_self, not_true_eq_false, not_false_eq_true, reduceIte, Nat.reduceEqDiff, ab_I, ab_L, ab_R, ao_I, ao_L, ao_R, gL_sL, gI_sI, gR_sR, gI_sL, gI_sR, gL_sI, gL_sR, gR_sI, gR_sL, sc_h H, sc_ao H, t14, eq_false k0, t44, Int.reduceEq, eq_true k3, t12, wp4 l4, g4, Int.toNat_natCast, r4', t53, oneI]
        · rw [b2_no rm] at t53
          rw [if_neg rm]
          show _ = some (some (mI 5), σ)
          simp only [M284, e284_0, e284_8, e284_19, e284_156, e284_162, Option.getD_some, Option.bind_some, Option.toList_some, Option.toList_none, List.cons_append, List.nil_append, and_self, and_true, true_and, false_and, and_false, ite_self, not_true_eq_false, not_false_eq_true, reduceIte, Nat.reduceEqDiff, ab_I, ab_L, ab_R, ao_I, ao_L, ao_R, gL_sL, gI_sI, gR_sR, gI_sL, gI_sR, gL_sI, gL_sR, gR_sI, gR_sL, sc_h H, sc_ao H, t14, eq_false k0, t44, Int.reduceEq, eq_true k3, t12, wp4 l4, g4, Int.toNat_natCast, r4', t53]
      · rw [if_neg (fun z => k3 (of_decide_eq_true z))]
        show _ = some (some (mI 8), σ)
        simp only [M284, e284_0, e284_8, e284_19, Option.getD_some, Option.bind_some, Option.toList_some, Option.toList_none, List.cons_append, List.nil_append, and_self, and_true, true_and, false_and, and_false, ite_self, not_true_eq_false, not_false_eq_true, reduceIte, Nat.reduceEqDiff, ab_I, ab_L, ab_R, ao_I, ao_L, ao_R, gL_sL, gI_sI, gR_sR, gI_sL, gI_sR, gL_sI, gL_sR, gR_sI, gR_sL, sc_h H, sc_ao H, t14, eq_false k0, t44, Int.reduceEq, eq_false k3]
end CHL
