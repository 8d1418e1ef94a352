/-! ===== operations on the reference's numbers ===== -/
theorem fold6 {σ : MS} {i : Nat} {a b c d e f : B64} : sL (sL (sL (sL (sL (sL σ 112 i a) 113 i b) 114 i c) 115 i d) 116 i e) 117 i f = wN σ i (a, b, c, d, e, f) := rfl
theorem oneI : ((1 : Int) = 0) = False := by simp
set_option maxHeartbeats 2000000 in
theorem T448 {z w ws : Int} {v m l h a b : B64} {σ : MS} (h0 : 0 ≤ z) (h1 : z < 32664) : MM 448 [mR (some 80), mI z, mL v, mL m, mI w, mL l, mL h, mI ws, mL a, mL b] σ = some (none, wrV σ z.toNat (numV (tdN (becN v m (decide (¬ w = 0)) l h (decide (¬ ws = 0)) a b)))) := by
  have key := fun n => T443n (σ := wK σ z.toNat 1 0 0 0 0) (n := n) h0 h1
  unfold becN numV
  rw [← wK_N]
  by_cases c1 : w = 0 <;> by_cases c2 : ws = 0
  · simp only [M448, e448_0, e448_5, e448_36, e448_55, e448_74, e448_93, e448_99, Option.getD_some, Option.bind_some, Option.toList_some, Option.toList_none, List.cons_append, List.nil_append, and_self, and_true, true_and, false_and, and_false, ite_self, not_true_eq_false, not_false_eq_true, reduceIte, Nat.reduceEqDiff, ab_I, ab_L, ab_R, ao_I, ao_L, ao_R, gL_sL, gI_sI, gR_sR, gI_sL, gI_sR, gL_sI, gL_sR, gR_sI, gR_sL, g_112, g_113, g_114, g_115, g_116, g_117, T432 h0 h1, h0, h1, ab_wK, c1, c2, fold6, key]
    simp [c1, c2]
  · simp only [M448, e448_0, e448_5, e448_36, e448_55, e448_74, e448_93, e448_99, Option.getD_some, Option.bind_some, Option.toList_some, Option.toList_none, List.cons_append, List.nil_append, and_self, and_true, true_and, false_and, and_false, ite_self, not_true_eq_false, not_false_eq_true, reduceIte, Nat.reduceEqDiff, ab_I, ab_L, ab_R, ao_I, ao_L, ao_R, gL_sL, gI_sI, gR_sR, gI_sL, gI_sR, gL_sI, gL_sR, gR_sI, gR_sL, g_112, g_113, g_114, g_115, g_116, g_117, T432 h0 h1, h0, h1, ab_wK, c1, c2, fold6, key, iL_min, iL_max]
    simp [c1, c2]
  · simp only [M448, e448_0, e448_5, e448_36, e448_55, e448_74, e448_93, e448_99, Option.getD_some, Option.bind_some, Option.toList_some, Option.toList_none, List.cons_append, List.nil_append, and_self, and_true, true_and, false_and, and_false, ite_self, not_true_eq_false, not_false_eq_true, reduceIte, Nat.reduceEqDiff, ab_I, ab_L, ab_R, ao_I, ao_L, ao_R, gL_sL, gI_sI, gR_sR, gI_sL, gI_sR, gL_sI, gL_sR, gR_sI, gR_sL, g_112, g_113, g_114, g_115, g_116, g_117, T432 h0 h1, h0, h1, ab_wK, c1, c2, fold6, key, iL_m1]
    simp [c1, c2]
  · simp only [M448, e448_0, e448_5, e448_36, e448_55, e448_74, e448_93, e448_99, Option.getD_some, Option.bind_some, Option.toList_some, Option.toList_none, List.cons_append, List.nil_append, and_self, and_true, true_and, false_and, and_false, ite_self, not_true_eq_false, not_false_eq_true, reduceIte, Nat.reduceEqDiff, ab_I, ab_L, ab_R, ao_I, ao_L, ao_R, gL_sL, gI_sI, gR_sR, gI_sL, gI_sR, gL_sI, gL_sR, gR_sI, gR_sL, g_112, g_113, g_114, g_115, g_116, g_117, T432 h0 h1, h0, h1, ab_wK, c1, c2, fold6, key, iL_m1, iL_min, iL_max]
    simp [c1, c2]
abbrev inB (x : Int) : Prop := 0 ≤ x ∧ x < 32664
set_option maxHeartbeats 4000000 in
theorem T447 {z x y : Int} {σ : MS} (hz : inB z) (hx : inB x) (hy : inB y) : MM 447 [mR (some 80), mI z, mI x, mI y] σ = some (none, wrV σ z.toNat (numV (tdN (addN (vn (aV σ x.toNat)) (vn (aV σ y.toNat)))))) := by
  unfold addN
  simp only [← q112, ← q113, ← q114, ← q115, ← q116, ← q117]
  by_cases c1 : gL σ 114 x.toNat + gL σ 114 y.toNat < gL σ 114 x.toNat <;> by_cases c2 : gL σ 115 x.toNat + gL σ 115 y.toNat < gL σ 115 x.toNat <;> by_cases c3 : ovA (gL σ 116 x.toNat) (gL σ 116 y.toNat) = true <;> by_cases c4 : ovA (gL σ 117 x.toNat) (gL σ 117 y.toNat) = true
  all_goals (simp only [M447, e447_0, e447_65, e447_83, e447_86, e447_91, e447_108, e447_126, e447_129, e447_134, e447_224, Option.getD_some, Option.bind_some, Option.toList_some, Option.toList_none, List.cons_append, List.nil_append, and_self, and_true, true_and, false_and, and_false, ite_self, not_true_eq_false, not_false_eq_true, reduceIte, Nat.reduceEqDiff, ab_I, ab_L, ab_R, ao_I, ao_L, ao_R, gL_sL, gI_sI, gR_sR, gI_sL, gI_sR, gL_sI, gL_sR, gR_sI, gR_sL, g_112, g_113, g_114, g_115, g_116, g_117, hz.1, hz.2, hx.1, hx.2, hy.1, hy.2, T444, T445, T448 hz.1 hz.2, b2_0', c1, c2, c3, c4, oneI, iL_m1, xor_all, addM] <;> simp [c1, c2, c3, c4, addM] <;> rfl)
set_option maxHeartbeats 4000000 in
theorem T449 {z x y : Int} {σ : MS} (hz : inB z) (hx : inB x) (hy : inB y) : MM 449 [mR (some 80), mI z, mI x, mI y] σ = some (none, wrV σ z.toNat (numV (tdN (subN (vn (aV σ x.toNat)) (vn (aV σ y.toNat)))))) := by
  unfold subN
  simp only [← q112, ← q113, ← q114, ← q115, ← q116, ← q117]
  by_cases c1 : gL σ 114 x.toNat < gL σ 115 y.toNat <;> by_cases c3 : ovS (gL σ 116 x.toNat) (gL σ 117 y.toNat) = true <;> by_cases c4 : ovS (gL σ 117 x.toNat) (gL σ 116 y.toNat) = true
  all_goals (simp only [M449, e449_0, e449_65, e449_82, e449_100, e449_103, e449_108, e449_182, Option.getD_some, Option.bind_some, Option.toList_some, Option.toList_none, List.cons_append, List.nil_append, and_self, and_true, true_and, false_and, and_false, ite_self, not_true_eq_false, not_false_eq_true, reduceIte, Nat.reduceEqDiff, ab_I, ab_L, ab_R, ao_I, ao_L, ao_R, gL_sL, gI_sI, gR_sR, gI_sL, gI_sR, gL_sI, gL_sR, gR_sI, gR_sL, g_112, g_113, g_114, g_115, g_116, g_117, hz.1, hz.2, hx.1, hx.2, hy.1, hy.2, T389, T446, T448 hz.1 hz.2, b2_0', c1, c3, c4, oneI, iL_m1, xor_all, subM] <;> simp [c1, c3, c4, b2, subM] <;> rfl)
set_option maxHeartbeats 4000000 in
theorem T454 {z x : Int} {σ : MS} (hz : inB z) (hx : inB x) : MM 454 [mR (some 80), mI z, mI x] σ = some (none, wrV σ z.toNat (numV (cutT (vn (aV σ x.toNat))))) := by
  unfold cutT cutN
  simp only [← q112, ← q113, ← q114, ← q115]
  have e32 : ∀ a : B64, lUsh a 32 = a >>> 32 := fun a => lUsh_k a (n := 32) (by omega)
  by_cases c1 : gL σ 114 x.toNat >>> 32 = gL σ 115 x.toNat >>> 32
  all_goals (simp only [M454, e454_0, e454_27, e454_69, e454_89, e454_95, Option.getD_some, Option.bind_some, Option.toList_some, Option.toList_none, List.cons_append, List.nil_append, and_self, and_true, true_and, false_and, and_false, ite_self, not_true_eq_false, not_false_eq_true, reduceIte, Nat.reduceEqDiff, ab_I, ab_L, ab_R, ao_I, ao_L, ao_R, gL_sL, gI_sI, gR_sR, gI_sL, gI_sR, gL_sI, gL_sR, gR_sI, gR_sL, g_112, g_113, g_114, g_115, hz.1, hz.2, hx.1, hx.2, T448 hz.1 hz.2, c1, oneI, iL_F, e32] <;> simp [c1])
/-! between numbers -/
theorem T458 {x y : Int} {σ : MS} (hx : inB x) (hy : inB y) : MM 458 [mR (some 80), mI x, mI y] σ = some (some (mI (equN (vn (aV σ x.toNat)) (vn (aV σ y.toNat)))), σ) := by
  unfold equN apaN
  by_cases c0 : (gL σ 113 x.toNat = 0#64 ∧ gL σ 113 y.toNat = 0#64) ∧ gL σ 112 x.toNat = gL σ 112 y.toNat
  · rw [if_pos (show (isC (vn (aV σ x.toNat)) ∧ isC (vn (aV σ y.toNat))) ∧ jV (vn (aV σ x.toNat)) = jV (vn (aV σ y.toNat)) from c0)]
    simp only [M458, e458_0, e458_5, e458_13, e458_34, e458_89, e458_107, e458_142, e458_147, Option.getD_some, Option.bind_some, Option.toList_some, Option.toList_none, List.cons_append, List.nil_append, and_self, and_true, true_and, false_and, and_false, ite_self, not_true_eq_false, not_false_eq_true, reduceIte, Nat.reduceEqDiff, ab_I, ab_L, ab_R, ao_I, ao_L, ao_R, gL_sL, gI_sI, gR_sR, gI_sL, gI_sR, gL_sI, gL_sR, gR_sI, gR_sL, g_112, g_113, g_114, g_115, g_116, g_117, hx.1, hx.2, hy.1, hy.2, T439 hx.1 hx.2, T439 hy.1 hy.2, b2_0', b2_n', c0.1.1, c0.1.2, c0.2]
  · rw [if_neg (show ¬ ((isC (vn (aV σ x.toNat)) ∧ isC (vn (aV σ y.toNat))) ∧ jV (vn (aV σ x.toNat)) = jV (vn (aV σ y.toNat))) from c0)]
    simp only [← q112, ← q113, ← q114, ← q115, ← q116, ← q117]
    have s34 : MM 458 [mR (some 80), mI x, mI y] σ = RR (lkB tb458) (B458_34, [some (mR (some 80)), some (mI x), some (mI y), none], [], σ) := by
      by_cases a : gL σ 113 x.toNat = 0#64
      · by_cases b : gL σ 113 y.toNat = 0#64
        · have e : ¬ gL σ 112 x.toNat = gL σ 112 y.toNat := fun e => c0 ⟨⟨a, b⟩, e⟩
          simp only [M458, e458_0, e458_5, e458_13, Option.getD_some, Option.bind_some, Option.toList_some, Option.toList_none, List.cons_append, List.nil_append, and_self, and_true, true_and, false_and, and_false, ite_self, not_true_eq_false, not_false_eq_true, reduceIte, Nat.reduceEqDiff, ab_I, ab_L, ab_R, ao_I, ao_L, ao_R, gL_sL, gI_sI, gR_sR, gI_sL, gI_sR, gL_sI, gL_sR, gR_sI, gR_sL, g_112, g_113, g_114, g_115, g_116, g_117, hx.1, hx.2, hy.1, hy.2, T439 hx.1 hx.2, T439 hy.1 hy.2, b2_0', b2_n', eq_true a, eq_true b, e]
        · simp only [M458, e458_0, e458_5, e458_13, Option.getD_some, Option.bind_some, Option.toList_some, Option.toList_none, List.cons_append, List.nil_append, and_self, and_true, true_and, false_and, and_false, ite_self, not_true_eq_false, not_false_eq_true, reduceIte, Nat.reduceEqDiff, ab_I, ab_L, ab_R, ao_I, ao_L, ao_R, gL_sL, gI_sI, gR_sR, gI_sL, gI_sR, gL_sI, gL_sR, gR_sI, gR_sL, g_112, g_113, g_114, g_115, g_116, g_117, hx.1, hx.2, hy.1, hy.2, T439 hx.1 hx.2, T439 hy.1 hy.2, b2_0', b2_n', eq_true a, b]
      · simp only [M458, e458_0, e458_5, Option.getD_some, Option.bind_some, Option.toList_some, Option.toList_none, List.cons_append, List.nil_append, and_self, and_true, true_and, false_and, and_false, ite_self, not_true_eq_false, not_false_eq_true, reduceIte, Nat.reduceEqDiff, ab_I, ab_L, ab_R, ao_I, ao_L, ao_R, gL_sL, gI_sI, gR_sR, gI_sL, gI_sR, gL_sI, gL_sR, gR_sI, gR_sL, T439 hx.1 hx.2, b2_0', b2_n', a]
    rw [s34]
    by_cases d1 : ((gL σ 112 x.toNat ^^^ gL σ 112 y.toNat) &&& ~~~ gL σ 113 x.toNat) &&& ~~~ gL σ 113 y.toNat = 0#64 <;> by_cases d2 : gL σ 115 x.toNat < gL σ 114 y.toNat <;> by_cases d3 : gL σ 115 y.toNat < gL σ 114 x.toNat <;> by_cases d4 : (gL σ 117 x.toNat).toInt < (gL σ 116 y.toNat).toInt <;> by_cases d5 : (gL σ 117 y.toNat).toInt < (gL σ 116 x.toNat).toInt
    all_goals (simp only [e458_34, e458_89, e458_107, e458_142, e458_147, Option.getD_some, Option.bind_some, Option.toList_some, Option.toList_none, List.cons_append, List.nil_append, and_self, and_true, true_and, false_and, and_false, ite_self, not_true_eq_false, not_false_eq_true, reduceIte, Nat.reduceEqDiff, ab_I, ab_L, ab_R, ao_I, ao_L, ao_R, gL_sL, gI_sI, gR_sR, gI_sL, gI_sR, gL_sI, gL_sR, gR_sI, gR_sL, g_112, g_113, g_114, g_115, g_116, g_117, hx.1, hx.2, hy.1, hy.2, T389, b2_0', b2_n', iL_m1, xor_all, d1, d2, d3, d4, d5, oneI] <;> simp [d1, d2, d3, d4, d5])
theorem T459 {x y : Int} {σ : MS} (hx : inB x) (hy : inB y) : MM 459 [mR (some 80), mI x, mI y] σ = some (some (mI (aboN (vn (aV σ x.toNat)) (vn (aV σ y.toNat)))), σ) := by
  unfold aboN
  simp only [← q114, ← q115]
  by_cases c1 : gL σ 115 y.toNat < gL σ 114 x.toNat <;> by_cases c2 : gL σ 114 y.toNat < gL σ 115 x.toNat
  all_goals (simp only [M459, e459_0, e459_15, e459_37, Option.getD_some, Option.bind_some, Option.toList_some, Option.toList_none, List.cons_append, List.nil_append, and_self, and_true, true_and, false_and, and_false, ite_self, not_true_eq_false, not_false_eq_true, reduceIte, Nat.reduceEqDiff, ab_I, ab_L, ab_R, ao_I, ao_L, ao_R, gL_sL, gI_sI, gR_sR, gI_sL, gI_sR, gL_sI, gL_sR, gR_sI, gR_sL, g_114, g_115, hx.1, hx.2, hy.1, hy.2, T389, b2_0', b2_n', c1, c2] <;> simp [c1, c2])
theorem T460 {x y : Int} {σ : MS} (hx : inB x) (hy : inB y) : MM 460 [mR (some 80), mI x, mI y] σ = some (some (mI (nblN (vn (aV σ x.toNat)) (vn (aV σ y.toNat)))), σ) := by
  unfold nblN
  simp only [← q114, ← q115]
  by_cases c1 : gL σ 114 x.toNat < gL σ 115 y.toNat <;> by_cases c2 : gL σ 115 x.toNat < gL σ 114 y.toNat
  all_goals (simp only [M460, e460_0, e460_15, e460_37, Option.getD_some, Option.bind_some, Option.toList_some, Option.toList_none, List.cons_append, List.nil_append, and_self, and_true, true_and, false_and, and_false, ite_self, not_true_eq_false, not_false_eq_true, reduceIte, Nat.reduceEqDiff, ab_I, ab_L, ab_R, ao_I, ao_L, ao_R, gL_sL, gI_sI, gR_sR, gI_sL, gI_sR, gL_sI, gL_sR, gR_sI, gR_sL, g_114, g_115, hx.1, hx.2, hy.1, hy.2, T389, b2_0', b2_n', c1, c2] <;> simp [c1, c2])
theorem T461 {x y : Int} {σ : MS} (hx : inB x) (hy : inB y) : MM 461 [mR (some 80), mI x, mI y] σ = some (some (mI (aboS (vn (aV σ x.toNat)) (vn (aV σ y.toNat)))), σ) := by
  unfold aboS
  simp only [← q116, ← q117]
  by_cases c1 : (gL σ 117 y.toNat).toInt < (gL σ 116 x.toNat).toInt <;> by_cases c2 : (gL σ 117 x.toNat).toInt ≤ (gL σ 116 y.toNat).toInt
  all_goals (simp only [M461, e461_0, Option.getD_some, Option.bind_some, Option.toList_some, Option.toList_none, List.cons_append, List.nil_append, and_self, and_true, true_and, false_and, and_false, ite_self, not_true_eq_false, not_false_eq_true, reduceIte, Nat.reduceEqDiff, ab_I, ab_L, ab_R, ao_I, ao_L, ao_R, gL_sL, gI_sI, gR_sR, gI_sL, gI_sR, gL_sI, gL_sR, gR_sI, gR_sL, g_116, g_117, hx.1, hx.2, hy.1, hy.2, c1, c2])
  all_goals (repeat' split)
  all_goals first | rfl | omega | simp_all
theorem T462 {x y : Int} {σ : MS} (hx : inB x) (hy : inB y) : MM 462 [mR (some 80), mI x, mI y] σ = some (some (mI (nblS (vn (aV σ x.toNat)) (vn (aV σ y.toNat)))), σ) := by
  unfold nblS
  simp only [← q116, ← q117]
  by_cases c1 : (gL σ 117 y.toNat).toInt ≤ (gL σ 116 x.toNat).toInt <;> by_cases c2 : (gL σ 117 x.toNat).toInt < (gL σ 116 y.toNat).toInt
  all_goals (simp only [M462, e462_0, Option.getD_some, Option.bind_some, Option.toList_some, Option.toList_none, List.cons_append, List.nil_append, and_self, and_true, true_and, false_and, and_false, ite_self, not_true_eq_false, not_false_eq_true, reduceIte, Nat.reduceEqDiff, ab_I, ab_L, ab_R, ao_I, ao_L, ao_R, gL_sL, gI_sI, gR_sR, gI_sL, gI_sR, gL_sI, gL_sR, gR_sI, gR_sL, g_116, g_117, hx.1, hx.2, hy.1, hy.2, c1, c2])
  all_goals (repeat' split)
  all_goals first | rfl | omega | simp_all
