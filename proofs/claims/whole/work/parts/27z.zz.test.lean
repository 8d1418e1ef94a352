-- FILE 28.rops
/-! ===== operations on the reference's numbers ===== -/
theorem fold6 {σ : MS} {i : Nat} {a b c d e f : B64} : sL (sL (sL (sL (sL (sL σ 112 i a) 113 i b) 114 i c) 115 i d) 116 i e) 117 i f = wN σ i (a, b, c, d, e, f) := rfl
theorem oneI : ((1 : Int) = 0) = False := by simp
set_option maxHeartbeats 2000000 in
theorem T448 {z w ws : Int} {v m l h a b : B64} {σ : MS} (h0 : 0 ≤ z) (h1 : z < 32664) : MM 448 [mR (some 80), mI z, mL v, mL m, mI w, mL l, mL h, mI ws, mL a, mL b] σ = some (none, wrV σ z.toNat (numV (tdN (becN v m (decide (¬ w = 0)) l h (decide (¬ ws = 0)) a b)))) := by
  have key := fun n => T443n (σ := wK σ z.toNat 1 0 0 0 0) (n := n) h0 h1
  unfold becN numV
  rw [← wK_N]
  by_cases c1 : w = 0 <;> by_cases c2 : ws = 0
  · simp only [M448, e448_0, e448_5, e448_36, e448_55, e448_74, e448_93, e448_99, Option.getD_some, Option.bind_some, Option.toList_some, Option.toList_none, List.cons_append, List.nil_append, and_self, and_true, true_and, false_and, and_false, ite_self, not_true_eq_false, not_false_eq_true, reduceIte, Nat.reduceEqDiff, ab_I, ab_L, ab_R, ao_I, ao_L, ao_R, gL_sL, gI_sI, gR_sR, gI_sL, gI_sR, gL_sI, gL_sR, gR_sI, gR_sL, g_112, g_113, g_114, g_115, g_116, g_117, T432 h0 h1, h0, h1, ab_wK, c1, c2, fold6, key]
    simp [c1, c2]
  · simp only [M448, e448_0, e448_5, e448_36, e448_55, e448_74, e448_93, e448_99, Option.getD_some, Option.bind_some, Option.toList_some, Option.toList_none, List.cons_append, List.nil_append, and_self, and_true, true_and, false_and, and_false, ite_self, not_true_eq_false, not_false_eq_true, reduceIte, Nat.reduceEqDiff, ab_I, ab_L, ab_R, ao_I, ao_L, ao_R, gL_sL, gI_sI, gR_sR, gI_sL, gI_sR, gL_sI, gL_sR, gR_sI, gR_sL, g_112, g_113, g_114, g_115, g_116, g_117, T432 h0 h1, h0, h1, ab_wK, c1, c2, fold6, key, iL_min, iL_max]
    simp [c1, c2]
  · simp only [M448, e448_0, e448_5, e448_36, e448_55, e448_74, e448_93, e448_99, Option.getD_some, Option.bind_some, Option.toList_some, Option.toList_none, List.cons_append, List.nil_append, and_self, and_true, true_and, false_and, and_false, ite_self, not_true_eq_false, not_false_eq_true, reduceIte, Nat.reduceEqDiff, ab_I, ab_L, ab_R, ao_I, ao_L, ao_R, gL_sL, gI_sI, gR_sR, gI_sL, gI_sR, gL_sI, gL_sR, gR_sI, gR_sL, g_112, g_113, g_114, g_115, g_116, g_117, T432 h0 h1, h0, h1, ab_wK, c1, c2, fold6, key, iL_m1]
    simp [c1, c2]
  · simp only [M448, e448_0, e448_5, e448_36, e448_55, e448_74, e448_93, e448_99, Option.getD_some, Option.bind_some, Option.toList_some, Option.toList_none, List.cons_append, List.nil_append, and_self, and_true, true_and, false_and, and_false, ite_self, not_true_eq_false, not_false_eq_true, reduceIte, Nat.reduceEqDiff, ab_I, ab_L, ab_R, ao_I, ao_L, ao_R, gL_sL, gI_sI, gR_sR, gI_sL, gI_sR, gL_sI, gL_sR, gR_sI, gR_sL, g_112, g_113, g_114, g_115, g_116, g_117, T432 h0 h1, h0, h1, ab_wK, c1, c2, fold6, key, iL_m1, iL_min, iL_max]
    simp [c1, c2]
abbrev inB (x : Int) : Prop := 0 ≤ x ∧ x < 32664
set_option maxHeartbeats 4000000 in
theorem T447 {z x y : Int} {σ : MS} (hz : inB z) (hx : inB x) (hy : inB y) : MM 447 [mR (some 80), mI z, mI x, mI y] σ = some (none, wrV σ z.toNat (numV (tdN (addN (vn (aV σ x.toNat)) (vn (aV σ y.toNat)))))) := by
  unfold addN
  simp only [← q112, ← q113, ← q114, ← q115, ← q116, ← q117]
  by_cases c1 : gL σ 114 x.toNat + gL σ 114 y.toNat < gL σ 114 x.toNat <;> by_cases c2 : gL σ 115 x.toNat + gL σ 115 y.toNat < gL σ 115 x.toNat <;> by_cases c3 : ovA (gL σ 116 x.toNat) (gL σ 116 y.toNat) = true <;> by_cases c4 : ovA (gL σ 117 x.toNat) (gL σ 117 y.toNat) = true
  all_goals (simp only [M447, e447_0, e447_65, e447_83, e447_86, e447_91, e447_108, e447_126, e447_129, e447_134, e447_224, Option.getD_some, Option.bind_some, Option.toList_some, Option.toList_none, List.cons_append, List.nil_append, and_self, and_true, true_and, false_and, and_false, ite_self, not_true_eq_false, not_false_eq_true, reduceIte, Nat.reduceEqDiff, ab_I, ab_L, ab_R, ao_I, ao_L, ao_R, gL_sL, gI_sI, gR_sR, gI_sL, gI_sR, gL_sI, gL_sR, gR_sI, gR_sL, g_112, g_113, g_114, g_115, g_116, g_117, hz.1, hz.2, hx.1, hx.2, hy.1, hy.2, T444, T445, T448 hz.1 hz.2, b2_0', c1, c2, c3, c4, oneI, iL_m1, xor_all, addM] <;> simp [c1, c2, c3, c4, addM] <;> rfl)
set_option maxHeartbeats 4000000 in
theorem T449 {z x y : Int} {σ : MS} (hz : inB z) (hx : inB x) (hy : inB y) : MM 449 [mR (some 80), mI z, mI x, mI y] σ = some (none, wrV σ z.toNat (numV (tdN (subN (vn (aV σ x.toNat)) (vn (aV σ y.toNat)))))) := by
  unfold subN
  simp only [← q112, ← q113, ← q114, ← q115, ← q116, ← q117]
  by_cases c1 : gL σ 114 x.toNat < gL σ 115 y.toNat <;> by_cases c3 : ovS (gL σ 116 x.toNat) (gL σ 117 y.toNat) = true <;> by_cases c4 : ovS (gL σ 117 x.toNat) (gL σ 116 y.toNat) = true
  all_goals (simp only [M449, e449_0, e449_65, e449_82, e449_100, e449_103, e449_108, e449_182, Option.getD_some, Option.bind_some, Option.toList_some, Option.toList_none, List.cons_append, List.nil_append, and_self, and_true, true_and, false_and, and_false, ite_self, not_true_eq_false, not_false_eq_true, reduceIte, Nat.reduceEqDiff, ab_I, ab_L, ab_R, ao_I, ao_L, ao_R, gL_sL, gI_sI, gR_sR, gI_sL, gI_sR, gL_sI, gL_sR, gR_sI, gR_sL, g_112, g_113, g_114, g_115, g_116, g_117, hz.1, hz.2, hx.1, hx.2, hy.1, hy.2, T389, T446, T448 hz.1 hz.2, b2_0', c1, c3, c4, oneI, iL_m1, xor_all, subM] <;> simp [c1, c3, c4, b2, subM] <;> rfl)
set_option maxHeartbeats 4000000 in
theorem T454 {z x : Int} {σ : MS} (hz : inB z) (hx : inB x) : MM 454 [mR (some 80), mI z, mI x] σ = some (none, wrV σ z.toNat (numV (cutT (vn (aV σ x.toNat))))) := by
  unfold cutT cutN
  simp only [← q112, ← q113, ← q114, ← q115]
  have e32 : ∀ a : B64, lUsh a 32 = a >>> 32 := fun a => lUsh_k a (n := 32) (by omega)
  by_cases c1 : gL σ 114 x.toNat >>> 32 = gL σ 115 x.toNat >>> 32
  all_goals (simp only [M454, e454_0, e454_27, e454_69, e454_89, e454_95, Option.getD_some, Option.bind_some, Option.toList_some, Option.toList_none, List.cons_append, List.nil_append, and_self, and_true, true_and, false_and, and_false, ite_self, not_true_eq_false, not_false_eq_true, reduceIte, Nat.reduceEqDiff, ab_I, ab_L, ab_R, ao_I, ao_L, ao_R, gL_sL, gI_sI, gR_sR, gI_sL, gI_sR, gL_sI, gL_sR, gR_sI, gR_sL, g_112, g_113, g_114, g_115, hz.1, hz.2, hx.1, hx.2, T448 hz.1 hz.2, c1, oneI, iL_F, e32] <;> simp [c1])
/-! between numbers -/
theorem T458 {x y : Int} {σ : MS} (hx : inB x) (hy : inB y) : MM 458 [mR (some 80), mI x, mI y] σ = some (some (mI (equN (vn (aV σ x.toNat)) (vn (aV σ y.toNat)))), σ) := by
  unfold equN apaN
  by_cases c0 : (gL σ 113 x.toNat = 0#64 ∧ gL σ 113 y.toNat = 0#64) ∧ gL σ 112 x.toNat = gL σ 112 y.toNat
  · rw [if_pos (show (isC (vn (aV σ x.toNat)) ∧ isC (vn (aV σ y.toNat))) ∧ jV (vn (aV σ x.toNat)) = jV (vn (aV σ y.toNat)) from c0)]
    simp only [M458, e458_0, e458_5, e458_13, e458_34, e458_89, e458_107, e458_142, e458_147, Option.getD_some, Option.bind_some, Option.toList_some, Option.toList_none, List.cons_append, List.nil_append, and_self, and_true, true_and, false_and, and_false, ite_self, not_true_eq_false, not_false_eq_true, reduceIte, Nat.reduceEqDiff, ab_I, ab_L, ab_R, ao_I, ao_L, ao_R, gL_sL, gI_sI, gR_sR, gI_sL, gI_sR, gL_sI, gL_sR, gR_sI, gR_sL, g_112, g_113, g_114, g_115, g_116, g_117, hx.1, hx.2, hy.1, hy.2, T439 hx.1 hx.2, T439 hy.1 hy.2, b2_0', b2_n', c0.1.1, c0.1.2, c0.2]
  · rw [if_neg (show ¬ ((isC (vn (aV σ x.toNat)) ∧ isC (vn (aV σ y.toNat))) ∧ jV (vn (aV σ x.toNat)) = jV (vn (aV σ y.toNat))) from c0)]
    simp only [← q112, ← q113, ← q114, ← q115, ← q116, ← q117]
    have s34 : MM 458 [mR (some 80), mI x, mI y] σ = RR (lkB tb458) (B458_34, [some (mR (some 80)), some (mI x), some (mI y), none], [], σ) := by
      by_cases a : gL σ 113 x.toNat = 0#64
      · by_cases b : gL σ 113 y.toNat = 0#64
        · have e : ¬ gL σ 112 x.toNat = gL σ 112 y.toNat := fun e => c0 ⟨⟨a, b⟩, e⟩
          simp only [M458, e458_0, e458_5, e458_13, Option.getD_some, Option.bind_some, Option.toList_some, Option.toList_none, List.cons_append, List.nil_append, and_self, and_true, true_and, false_and, and_false, ite_self, not_true_eq_false, not_false_eq_true, reduceIte, Nat.reduceEqDiff, ab_I, ab_L, ab_R, ao_I, ao_L, ao_R, gL_sL, gI_sI, gR_sR, gI_sL, gI_sR, gL_sI, gL_sR, gR_sI, gR_sL, g_112, g_113, g_114, g_115, g_116, g_117, hx.1, hx.2, hy.1, hy.2, T439 hx.1 hx.2, T439 hy.1 hy.2, b2_0', b2_n', eq_true a, eq_true b, e]
        · simp only [M458, e458_0, e458_5, e458_13, Option.getD_some, Option.bind_some, Option.toList_some, Option.toList_none, List.cons_append, List.nil_append, and_self, and_true, true_and, false_and, and_false, ite_self, not_true_eq_false, not_false_eq_true, reduceIte, Nat.reduceEqDiff, ab_I, ab_L, ab_R, ao_I, ao_L, ao_R, gL_sL, gI_sI, gR_sR, gI_sL, gI_sR, gL_sI, gL_sR, gR_sI, gR_sL, g_112, g_113, g_114, g_115, g_116, g_117, hx.1, hx.2, hy.1, hy.2, T439 hx.1 hx.2, T439 hy.1 hy.2, b2_0', b2_n', eq_true a, b]
      · simp only [M458, e458_0, e458_5, Option.getD_some, Option.bind_some, Option.toList_some, Option.toList_none, List.cons_append, List.nil_append, and_self, and_true, true_and, false_and, and_false, ite_self, not_true_eq_false, not_false_eq_true, reduceIte, Nat.reduceEqDiff, ab_I, ab_L, ab_R, ao_I, ao_L, ao_R, gL_sL, gI_sI, gR_sR, gI_sL, gI_sR, gL_sI, gL_sR, gR_sI, gR_sL, T439 hx.1 hx.2, b2_0', b2_n', a]
    rw [s34]
    by_cases d1 : ((gL σ 112 x.toNat ^^^ gL σ 112 y.toNat) &&& ~~~ gL σ 113 x.toNat) &&& ~~~ gL σ 113 y.toNat = 0#64 <;> by_cases d2 : gL σ 115 x.toNat < gL σ 114 y.toNat <;> by_cases d3 : gL σ 115 y.toNat < gL σ 114 x.toNat <;> by_cases d4 : (gL σ 117 x.toNat).toInt < (gL σ 116 y.toNat).toInt <;> by_cases d5 : (gL σ 117 y.toNat).toInt < (gL σ 116 x.toNat).toInt
    all_goals (simp only [e458_34, e458_89, e458_107, e458_142, e458_147, Option.getD_some, Option.bind_some, Option.toList_some, Option.toList_none, List.cons_append, List.nil_append, and_self, and_true, true_and, false_and, and_false, ite_self, not_true_eq_false, not_false_eq_true, reduceIte, Nat.reduceEqDiff, ab_I, ab_L, ab_R, ao_I, ao_L, ao_R, gL_sL, gI_sI, gR_sR, gI_sL, gI_sR, gL_sI, gL_sR, gR_sI, gR_sL, g_112, g_113, g_114, g_115, g_116, g_117, hx.1, hx.2, hy.1, hy.2, T389, b2_0', b2_n', iL_m1, xor_all, d1, d2, d3, d4, d5, oneI] <;> simp [d1, d2, d3, d4, d5])
theorem T459 {x y : Int} {σ : MS} (hx : inB x) (hy : inB y) : MM 459 [mR (some 80), mI x, mI y] σ = some (some (mI (aboN (vn (aV σ x.toNat)) (vn (aV σ y.toNat)))), σ) := by
  unfold aboN
  simp only [← q114, ← q115]
  by_cases c1 : gL σ 115 y.toNat < gL σ 114 x.toNat <;> by_cases c2 : gL σ 114 y.toNat < gL σ 115 x.toNat
  all_goals (simp only [M459, e459_0, e459_15, e459_37, Option.getD_some, Option.bind_some, Option.toList_some, Option.toList_none, List.cons_append, List.nil_append, and_self, and_true, true_and, false_and, and_false, ite_self, not_true_eq_false, not_false_eq_true, reduceIte, Nat.reduceEqDiff, ab_I, ab_L, ab_R, ao_I, ao_L, ao_R, gL_sL, gI_sI, gR_sR, gI_sL, gI_sR, gL_sI, gL_sR, gR_sI, gR_sL, g_114, g_115, hx.1, hx.2, hy.1, hy.2, T389, b2_0', b2_n', c1, c2] <;> simp [c1, c2])
theorem T460 {x y : Int} {σ : MS} (hx : inB x) (hy : inB y) : MM 460 [mR (some 80), mI x, mI y] σ = some (some (mI (nblN (vn (aV σ x.toNat)) (vn (aV σ y.toNat)))), σ) := by
  unfold nblN
  simp only [← q114, ← q115]
  by_cases c1 : gL σ 114 x.toNat < gL σ 115 y.toNat <;> by_cases c2 : gL σ 115 x.toNat < gL σ 114 y.toNat
  all_goals (simp only [M460, e460_0, e460_15, e460_37, Option.getD_some, Option.bind_some, Option.toList_some, Option.toList_none, List.cons_append, List.nil_append, and_self, and_true, true_and, false_and, and_false, ite_self, not_true_eq_false, not_false_eq_true, reduceIte, Nat.reduceEqDiff, ab_I, ab_L, ab_R, ao_I, ao_L, ao_R, gL_sL, gI_sI, gR_sR, gI_sL, gI_sR, gL_sI, gL_sR, gR_sI, gR_sL, g_114, g_115, hx.1, hx.2, hy.1, hy.2, T389, b2_0', b2_n', c1, c2] <;> simp [c1, c2])
theorem T461 {x y : Int} {σ : MS} (hx : inB x) (hy : inB y) : MM 461 [mR (some 80), mI x, mI y] σ = some (some (mI (aboS (vn (aV σ x.toNat)) (vn (aV σ y.toNat)))), σ) := by
  unfold aboS
  simp only [← q116, ← q117]
  by_cases c1 : (gL σ 117 y.toNat).toInt < (gL σ 116 x.toNat).toInt <;> by_cases c2 : (gL σ 117 x.toNat).toInt ≤ (gL σ 116 y.toNat).toInt
  all_goals (simp only [M461, e461_0, Option.getD_some, Option.bind_some, Option.toList_some, Option.toList_none, List.cons_append, List.nil_append, and_self, and_true, true_and, false_and, and_false, ite_self, not_true_eq_false, not_false_eq_true, reduceIte, Nat.reduceEqDiff, ab_I, ab_L, ab_R, ao_I, ao_L, ao_R, gL_sL, gI_sI, gR_sR, gI_sL, gI_sR, gL_sI, gL_sR, gR_sI, gR_sL, g_116, g_117, hx.1, hx.2, hy.1, hy.2, c1, c2])
  all_goals (repeat' split)
  all_goals first | rfl | omega | simp_all
theorem T462 {x y : Int} {σ : MS} (hx : inB x) (hy : inB y) : MM 462 [mR (some 80), mI x, mI y] σ = some (some (mI (nblS (vn (aV σ x.toNat)) (vn (aV σ y.toNat)))), σ) := by
  unfold nblS
  simp only [← q116, ← q117]
  by_cases c1 : (gL σ 117 y.toNat).toInt ≤ (gL σ 116 x.toNat).toInt <;> by_cases c2 : (gL σ 117 x.toNat).toInt < (gL σ 116 y.toNat).toInt
  all_goals (simp only [M462, e462_0, Option.getD_some, Option.bind_some, Option.toList_some, Option.toList_none, List.cons_append, List.nil_append, and_self, and_true, true_and, false_and, and_false, ite_self, not_true_eq_false, not_false_eq_true, reduceIte, Nat.reduceEqDiff, ab_I, ab_L, ab_R, ao_I, ao_L, ao_R, gL_sL, gI_sI, gR_sR, gI_sL, gI_sR, gL_sI, gL_sR, gR_sI, gR_sL, g_116, g_117, hx.1, hx.2, hy.1, hy.2, c1, c2])
  all_goals (repeat' split)
  all_goals first | rfl | omega | simp_all
-- FILE 29.rop2
/-! ===== operations on the reference's numbers: all together ===== -/
section P6
variable {σ : MS} {i : Nat} {y : B64}
theorem p112 : sL σ 112 i y = wrV σ i (vN (aV σ i) (y, (vn (aV σ i)).2)) := by
  have h : sL (wN σ i (rNv σ i)) 112 i y = wN σ i (y, (rNv σ i).2) := wN0
  rw [wN_eta, wN_V] at h
  exact h
theorem p113 : sL σ 113 i y = wrV σ i (vN (aV σ i) (jV (vn (aV σ i)), y, (vn (aV σ i)).2.2)) := by
  have h : sL (wN σ i (rNv σ i)) 113 i y = _ := wN1
  rw [wN_eta, wN_V] at h
  exact h
theorem p114 : sL σ 114 i y = wrV σ i (vN (aV σ i) (jV (vn (aV σ i)), jM (vn (aV σ i)), y, (vn (aV σ i)).2.2.2)) := by
  have h : sL (wN σ i (rNv σ i)) 114 i y = _ := wN2
  rw [wN_eta, wN_V] at h
  exact h
theorem p115 : sL σ 115 i y = wrV σ i (vN (aV σ i) (jV (vn (aV σ i)), jM (vn (aV σ i)), jA (vn (aV σ i)), y, (vn (aV σ i)).2.2.2.2)) := by
  have h : sL (wN σ i (rNv σ i)) 115 i y = _ := wN3
  rw [wN_eta, wN_V] at h
  exact h
theorem p116 : sL σ 116 i y = wrV σ i (vN (aV σ i) (jV (vn (aV σ i)), jM (vn (aV σ i)), jA (vn (aV σ i)), jB (vn (aV σ i)), y, jD (vn (aV σ i)))) := by
  have h : sL (wN σ i (rNv σ i)) 116 i y = _ := wN4
  rw [wN_eta, wN_V] at h
  exact h
theorem p117 : sL σ 117 i y = wrV σ i (vN (aV σ i) (jV (vn (aV σ i)), jM (vn (aV σ i)), jA (vn (aV σ i)), jB (vn (aV σ i)), jC (vn (aV σ i)), y)) := by
  have h : sL (wN σ i (rNv σ i)) 117 i y = _ := wN5
  rw [wN_eta, wN_V] at h
  exact h
end P6
set_option maxHeartbeats 4000000 in
theorem T451 {z x y : Int} {σ : MS} (hz : inB z) (hx : inB x) (hy : inB y) : MM 451 [mR (some 80), mI z, mI x, mI y] σ = some (none, wrV σ z.toNat (numV (tdN (mulN (vn (aV σ x.toNat)) (vn (aV σ y.toNat)))))) := by
  unfold mulN
  by_cases cx : gL σ 113 x.toNat = 0#64
  · by_cases cy : gL σ 113 y.toNat = 0#64
    · rw [if_pos (show isC (vn (aV σ x.toNat)) ∧ isC (vn (aV σ y.toNat)) from ⟨cx, cy⟩), tdN_cst]
      simp only [← q112]
      simp only [M451, e451_0, e451_5, e451_13, e451_34, e451_35, e451_51, e451_67, e451_82, e451_97, e451_100, e451_105, e451_127, e451_161, Option.getD_some, Option.bind_some, Option.toList_some, Option.toList_none, List.cons_append, List.nil_append, and_self, and_true, true_and, false_and, and_false, ite_self, not_true_eq_false, not_false_eq_true, reduceIte, Nat.reduceEqDiff, ab_I, ab_L, ab_R, ao_I, ao_L, ao_R, gL_sL, gI_sI, gR_sR, gI_sL, gI_sR, gL_sI, gL_sR, gR_sI, gR_sL, g_112, g_113, g_114, g_115, hx.1, hx.2, hy.1, hy.2, T439 hx.1 hx.2, T439 hy.1 hy.2, b2_0', b2_n', cx, cy, T433 hz.1 hz.2]
    · rw [if_neg (show ¬ (isC (vn (aV σ x.toNat)) ∧ isC (vn (aV σ y.toNat))) from fun q => cy q.2)]
      simp only [← q112, ← q113, ← q114, ← q115]
      have l1 := lowZ_le (gL σ 112 x.toNat ||| gL σ 113 x.toNat)
      have l2 := lowZ_le (gL σ 112 y.toNat ||| gL σ 113 y.toNat)
      have e1 : w32 ((lowZ (gL σ 112 x.toNat ||| gL σ 113 x.toNat) : Int) + (lowZ (gL σ 112 y.toNat ||| gL σ 113 y.toNat) : Int)) = ((lowZ (gL σ 112 x.toNat ||| gL σ 113 x.toNat) + lowZ (gL σ 112 y.toNat ||| gL σ 113 y.toNat) : Nat) : Int) := by rw [w32_i (by omega) (by omega)]; omega
      rcases Nat.lt_or_ge (lowZ (gL σ 112 x.toNat ||| gL σ 113 x.toNat) + lowZ (gL σ 112 y.toNat ||| gL σ 113 y.toNat)) 64 with c0 | c0
      · by_cases c1 : cF < gL σ 115 x.toNat <;> by_cases c2 : cF < gL σ 115 y.toNat
        all_goals (simp only [M451, e451_0, e451_5, e451_13, e451_34, e451_35, e451_51, e451_67, e451_82, e451_97, e451_100, e451_105, e451_127, e451_161, Option.getD_some, Option.bind_some, Option.toList_some, Option.toList_none, List.cons_append, List.nil_append, and_self, and_true, true_and, false_and, and_false, ite_self, not_true_eq_false, not_false_eq_true, reduceIte, Nat.reduceEqDiff, ab_I, ab_L, ab_R, ao_I, ao_L, ao_R, gL_sL, gI_sI, gR_sR, gI_sL, gI_sR, gL_sI, gL_sR, gR_sI, gR_sL, g_112, g_113, g_114, g_115, hx.1, hx.2, hy.1, hy.2, T439 hx.1 hx.2, T439 hy.1 hy.2, b2_0', b2_n', eq_true cx, cy, oneI, T450, e1, T389, iL_F, iL_m1, c1, c2, T448 hz.1 hz.2, show (((lowZ (gL σ 112 x.toNat ||| gL σ 113 x.toNat) + lowZ (gL σ 112 y.toNat ||| gL σ 113 y.toNat) : Nat) : Int) < 64) = True from eq_true (by omega), lShl_k cAll c0] <;> simp [c1, c2, c0, show ¬ 64 ≤ lowZ (gL σ 112 x.toNat ||| gL σ 113 x.toNat) + lowZ (gL σ 112 y.toNat ||| gL σ 113 y.toNat) by omega])
      · by_cases c1 : cF < gL σ 115 x.toNat <;> by_cases c2 : cF < gL σ 115 y.toNat
        all_goals (simp only [M451, e451_0, e451_5, e451_13, e451_34, e451_35, e451_51, e451_67, e451_82, e451_97, e451_100, e451_105, e451_127, e451_161, Option.getD_some, Option.bind_some, Option.toList_some, Option.toList_none, List.cons_append, List.nil_append, and_self, and_true, true_and, false_and, and_false, ite_self, not_true_eq_false, not_false_eq_true, reduceIte, Nat.reduceEqDiff, ab_I, ab_L, ab_R, ao_I, ao_L, ao_R, gL_sL, gI_sI, gR_sR, gI_sL, gI_sR, gL_sI, gL_sR, gR_sI, gR_sL, g_112, g_113, g_114, g_115, hx.1, hx.2, hy.1, hy.2, T439 hx.1 hx.2, T439 hy.1 hy.2, b2_0', b2_n', eq_true cx, cy, oneI, T450, e1, T389, iL_F, iL_m1, c1, c2, T448 hz.1 hz.2, show (((lowZ (gL σ 112 x.toNat ||| gL σ 113 x.toNat) + lowZ (gL σ 112 y.toNat ||| gL σ 113 y.toNat) : Nat) : Int) < 64) = False from eq_false (by omega)] <;> simp [c1, c2, c0, c0])
  · rw [if_neg (show ¬ (isC (vn (aV σ x.toNat)) ∧ isC (vn (aV σ y.toNat))) from fun q => cx q.1)]
    simp only [← q112, ← q113, ← q114, ← q115]
    have l1 := lowZ_le (gL σ 112 x.toNat ||| gL σ 113 x.toNat)
    have l2 := lowZ_le (gL σ 112 y.toNat ||| gL σ 113 y.toNat)
    have e1 : w32 ((lowZ (gL σ 112 x.toNat ||| gL σ 113 x.toNat) : Int) + (lowZ (gL σ 112 y.toNat ||| gL σ 113 y.toNat) : Int)) = ((lowZ (gL σ 112 x.toNat ||| gL σ 113 x.toNat) + lowZ (gL σ 112 y.toNat ||| gL σ 113 y.toNat) : Nat) : Int) := by rw [w32_i (by omega) (by omega)]; omega
    rcases Nat.lt_or_ge (lowZ (gL σ 112 x.toNat ||| gL σ 113 x.toNat) + lowZ (gL σ 112 y.toNat ||| gL σ 113 y.toNat)) 64 with c0 | c0
    · by_cases c1 : cF < gL σ 115 x.toNat <;> by_cases c2 : cF < gL σ 115 y.toNat
      all_goals (simp only [M451, e451_0, e451_5, e451_13, e451_34, e451_35, e451_51, e451_67, e451_82, e451_97, e451_100, e451_105, e451_127, e451_161, Option.getD_some, Option.bind_some, Option.toList_some, Option.toList_none, List.cons_append, List.nil_append, and_self, and_true, true_and, false_and, and_false, ite_self, not_true_eq_false, not_false_eq_true, reduceIte, Nat.reduceEqDiff, ab_I, ab_L, ab_R, ao_I, ao_L, ao_R, gL_sL, gI_sI, gR_sR, gI_sL, gI_sR, gL_sI, gL_sR, gR_sI, gR_sL, g_112, g_113, g_114, g_115, hx.1, hx.2, hy.1, hy.2, T439 hx.1 hx.2, T439 hy.1 hy.2, b2_0', b2_n', cx, oneI, T450, e1, T389, iL_F, iL_m1, c1, c2, T448 hz.1 hz.2, show (((lowZ (gL σ 112 x.toNat ||| gL σ 113 x.toNat) + lowZ (gL σ 112 y.toNat ||| gL σ 113 y.toNat) : Nat) : Int) < 64) = True from eq_true (by omega), lShl_k cAll c0] <;> simp [c1, c2, c0, show ¬ 64 ≤ lowZ (gL σ 112 x.toNat ||| gL σ 113 x.toNat) + lowZ (gL σ 112 y.toNat ||| gL σ 113 y.toNat) by omega])
    · by_cases c1 : cF < gL σ 115 x.toNat <;> by_cases c2 : cF < gL σ 115 y.toNat
      all_goals (simp only [M451, e451_0, e451_5, e451_13, e451_34, e451_35, e451_51, e451_67, e451_82, e451_97, e451_100, e451_105, e451_127, e451_161, Option.getD_some, Option.bind_some, Option.toList_some, Option.toList_none, List.cons_append, List.nil_append, and_self, and_true, true_and, false_and, and_false, ite_self, not_true_eq_false, not_false_eq_true, reduceIte, Nat.reduceEqDiff, ab_I, ab_L, ab_R, ao_I, ao_L, ao_R, gL_sL, gI_sI, gR_sR, gI_sL, gI_sR, gL_sI, gL_sR, gR_sI, gR_sL, g_112, g_113, g_114, g_115, hx.1, hx.2, hy.1, hy.2, T439 hx.1 hx.2, T439 hy.1 hy.2, b2_0', b2_n', cx, oneI, T450, e1, T389, iL_F, iL_m1, c1, c2, T448 hz.1 hz.2, show (((lowZ (gL σ 112 x.toNat ||| gL σ 113 x.toNat) + lowZ (gL σ 112 y.toNat ||| gL σ 113 y.toNat) : Nat) : Int) < 64) = False from eq_false (by omega)] <;> simp [c1, c2, c0, c0])
theorem T453 {off z x y : Int} {c : Int} {σ : MS} (hc : c = 48 ∨ c = 144) (ho : off = 0 ∨ off = 1) (hz : inB z) (hx : inB x) (hy : inB y) : MM 453 [mR (some 80), mI c, mI off, mI z, mI x, mI y] σ = some (none, wrV σ z.toNat (numV (opN c off (vn (aV σ x.toNat)) (vn (aV σ y.toNat))))) := by
  have w243 : ∀ (v : MV) (τ : MS), RR (lkB tb453) (B453_243, [some (mR (some 80)), some (mI c), some (mI off), some (mI z), some (mI x), some (mI y), some v], [], τ) = some (none, τ) := fun v τ => RR_q (e453_243 (x1 := c) (x2 := off) (x3 := z) (x4 := x) (x5 := y) (σ := τ)) (lq_cons (Or.inr rfl) (lq_cons (Or.inr rfl) (lq_cons (Or.inr rfl) (lq_cons (Or.inr rfl) (lq_cons (Or.inr rfl) (lq_cons (Or.inr rfl) (lq_cons (Or.inl rfl) lq_nil)))))))
  have okc : okC c off := ⟨by omega, fun _ => ho, fun e => by omega⟩
  have hop : opN c off (vn (aV σ x.toNat)) (vn (aV σ y.toNat)) = if off = 1 then (if isC (vn (aV σ x.toNat)) ∧ isC (vn (aV σ y.toNat)) then cstN (reck c off true (jV (vn (aV σ x.toNat))) (jV (vn (aV σ y.toNat)))) else anyN) else if c = 48 then tdN (divN (vn (aV σ x.toNat)) (vn (aV σ y.toNat))) else tdN (remN (vn (aV σ x.toNat)) (vn (aV σ y.toNat))) := by
    unfold opN
    rw [if_neg (by omega), if_neg (by omega), if_neg (by omega), if_pos hc]
  have hr : reckA c off true (gL σ 112 x.toNat) (gL σ 112 y.toNat) = reck c off true (gL σ 112 x.toNat) (gL σ 112 y.toNat) := by
    unfold reckA
    rw [if_neg (by omega), if_neg (by omega)]
  rw [hop]
  unfold divN remN
  simp only [isC, ← q112, ← q113, ← q114, ← q115]
  by_cases cx : gL σ 113 x.toNat = 0#64 <;> by_cases cy : gL σ 113 y.toNat = 0#64
  · have e : MM 453 [mR (some 80), mI c, mI off, mI z, mI x, mI y] σ = some (none, wrV σ z.toNat (numV (cstN (reck c off true (gL σ 112 x.toNat) (gL σ 112 y.toNat))))) := by
      rw [← hr]
      simp only [M453, e453_0, e453_6, e453_15, e453_40, e453_43, e453_46, e453_56, e453_71, e453_90, e453_91, e453_122, e453_126, e453_148, e453_158, e453_164, e453_173, e453_192, e453_193, e453_227, e453_237, e453_243, Option.getD_some, Option.bind_some, Option.toList_some, Option.toList_none, List.cons_append, List.nil_append, and_self, and_true, true_and, false_and, and_false, ite_self, not_true_eq_false, not_false_eq_true, reduceIte, Nat.reduceEqDiff, ab_I, ab_L, ab_R, ao_I, ao_L, ao_R, gL_sL, gI_sI, gR_sR, gI_sL, gI_sR, gL_sI, gL_sR, gR_sI, gR_sL, g_112, g_114, g_115, hx.1, hx.2, hy.1, hy.2, T439 hx.1 hx.2, T439 hy.1 hy.2, b2_0', b2_n', cx, cy, T428w okc, T433 hz.1 hz.2, w243]
    rw [e]
    rcases hc with rfl | rfl <;> rcases ho with rfl | rfl <;> simp [cx, cy, reck, tdN_cst]
  all_goals (rcases hc with rfl | rfl <;> rcases ho with rfl | rfl <;> by_cases d : gL σ 112 y.toNat = 0#64)
  all_goals (simp only [M453, e453_0, e453_6, e453_15, e453_40, e453_43, e453_46, e453_56, e453_71, e453_90, e453_91, e453_122, e453_126, e453_148, e453_158, e453_164, e453_173, e453_192, e453_193, e453_227, e453_237, e453_243, Option.getD_some, Option.bind_some, Option.toList_some, Option.toList_none, List.cons_append, List.nil_append, and_self, and_true, true_and, false_and, and_false, ite_self, not_true_eq_false, not_false_eq_true, reduceIte, Nat.reduceEqDiff, ab_I, ab_L, ab_R, ao_I, ao_L, ao_R, gL_sL, gI_sI, gR_sR, gI_sL, gI_sR, gL_sI, gL_sR, gR_sI, gR_sL, g_112, g_114, g_115, hx.1, hx.2, hy.1, hy.2, T439 hx.1 hx.2, T439 hy.1 hy.2, b2_0', b2_n', oneI, cx, cy, d, T423, T440, T436 hz.1 hz.2, T448 hz.1 hz.2, iL_m1, w243] <;> simp [cx, cy, d])
abbrev okO (c off : Int) : Prop := isCode c ∧ (c = 48 ∨ c = 144 → off = 0 ∨ off = 1)
theorem dd0 : (decide (¬ (0 : Int) = 0)) = false := rfl
theorem dd1 : (decide (¬ (1 : Int) = 0)) = true := rfl
theorem opN_shl {o : Int} {x y : N6} : opN 96 o x y = if isC y then tdN (shlN x ((jV y).toNat % 64)) else anyN := rfl
theorem opN_shr {o : Int} {x y : N6} : opN 112 o x y = if isC y then tdN (shrN x ((jV y).toNat % 64)) else tdN (shrA x) := rfl
theorem opN_sar {o : Int} {x y : N6} : opN 192 o x y = if isC y then tdN (sarN x ((jV y).toNat % 64)) else tdN (sarA x) := rfl
set_option maxHeartbeats 16000000 in
theorem T452 {c off z x y : Int} {σ : MS} (hc : okO c off) (hz : inB z) (hx : inB x) (hy : inB y) : MM 452 [mR (some 80), mI c, mI off, mI z, mI x, mI y] σ = some (none, wrV σ z.toNat (numV (opN c off (vn (aV σ x.toNat)) (vn (aV σ y.toNat))))) := by
  have pre : ∃ v : Int, MM 452 [mR (some 80), mI c, mI off, mI z, mI x, mI y] σ = RR (lkB tb452) (B452_23, [some (mR (some 80)), some (mI c), some (mI off), some (mI z), some (mI x), some (mI y), none, none, none, none, none, none, none, none, none, none], [mI v], σ) := by
    by_cases cx : gL σ 113 x.toNat = 0#64
    · by_cases cy : gL σ 113 y.toNat = 0#64
      · exact ⟨1, by simp only [M452, e452_0, e452_6, e452_15, Option.getD_some, Option.bind_some, Option.toList_some, Option.toList_none, List.cons_append, List.nil_append, and_self, and_true, true_and, false_and, and_false, ite_self, not_true_eq_false, not_false_eq_true, reduceIte, Nat.reduceEqDiff, ab_I, ab_L, ab_R, ao_I, ao_L, ao_R, gL_sL, gI_sI, gR_sR, gI_sL, gI_sR, gL_sI, gL_sR, gR_sI, gR_sL, T439 hx.1 hx.2, T439 hy.1 hy.2, b2_0', cx, cy]⟩
      · exact ⟨0, by simp only [M452, e452_0, e452_6, e452_15, e452_22, Option.getD_some, Option.bind_some, Option.toList_some, Option.toList_none, List.cons_append, List.nil_append, and_self, and_true, true_and, false_and, and_false, ite_self, not_true_eq_false, not_false_eq_true, reduceIte, Nat.reduceEqDiff, ab_I, ab_L, ab_R, ao_I, ao_L, ao_R, gL_sL, gI_sI, gR_sR, gI_sL, gI_sR, gL_sI, gL_sR, gR_sI, gR_sL, T439 hx.1 hx.2, T439 hy.1 hy.2, b2_0', cx, cy]⟩
    · exact ⟨0, by simp only [M452, e452_0, e452_6, e452_15, e452_22, Option.getD_some, Option.bind_some, Option.toList_some, Option.toList_none, List.cons_append, List.nil_append, and_self, and_true, true_and, false_and, and_false, ite_self, not_true_eq_false, not_false_eq_true, reduceIte, Nat.reduceEqDiff, ab_I, ab_L, ab_R, ao_I, ao_L, ao_R, gL_sL, gI_sI, gR_sR, gI_sL, gI_sR, gL_sI, gL_sR, gR_sI, gR_sL, T439 hx.1 hx.2, T439 hy.1 hy.2, b2_0', cx]⟩
  obtain ⟨v, pe⟩ := pre
  rw [pe]
  obtain ⟨h1, h2⟩ := hc
  rcases h1 with rfl | rfl | rfl | rfl | rfl | rfl | rfl | rfl | rfl | rfl | rfl
  · simp only [e452_0, e452_6, e452_15, e452_22, e452_23, e452_137, e452_147, e452_157, e452_169, e452_235, e452_246, e452_326, e452_332, e452_385, e452_392, e452_446, e452_472, e452_480, e452_487, e452_539, e452_563, e452_570, e452_622, e452_658, e452_683, e452_686, Option.getD_some, Option.bind_some, Option.toList_some, Option.toList_none, List.cons_append, List.nil_append, and_self, and_true, true_and, false_and, and_false, ite_self, not_true_eq_false, not_false_eq_true, reduceIte, Nat.reduceEqDiff, ab_I, ab_L, ab_R, ao_I, ao_L, ao_R, gL_sL, gI_sI, gR_sR, gI_sL, gI_sR, gL_sI, gL_sR, gR_sI, gR_sL, g_112, hy.1, hy.2, Int.reduceEq, T447 hz hx hy]
    rfl
  · simp only [e452_0, e452_6, e452_15, e452_22, e452_23, e452_137, e452_147, e452_157, e452_169, e452_235, e452_246, e452_326, e452_332, e452_385, e452_392, e452_446, e452_472, e452_480, e452_487, e452_539, e452_563, e452_570, e452_622, e452_658, e452_683, e452_686, Option.getD_some, Option.bind_some, Option.toList_some, Option.toList_none, List.cons_append, List.nil_append, and_self, and_true, true_and, false_and, and_false, ite_self, not_true_eq_false, not_false_eq_true, reduceIte, Nat.reduceEqDiff, ab_I, ab_L, ab_R, ao_I, ao_L, ao_R, gL_sL, gI_sI, gR_sR, gI_sL, gI_sR, gL_sI, gL_sR, gR_sI, gR_sL, g_112, hy.1, hy.2, Int.reduceEq, T449 hz hx hy]
    rfl
  · simp only [e452_0, e452_6, e452_15, e452_22, e452_23, e452_137, e452_147, e452_157, e452_169, e452_235, e452_246, e452_326, e452_332, e452_385, e452_392, e452_446, e452_472, e452_480, e452_487, e452_539, e452_563, e452_570, e452_622, e452_658, e452_683, e452_686, Option.getD_some, Option.bind_some, Option.toList_some, Option.toList_none, List.cons_append, List.nil_append, and_self, and_true, true_and, false_and, and_false, ite_self, not_true_eq_false, not_false_eq_true, reduceIte, Nat.reduceEqDiff, ab_I, ab_L, ab_R, ao_I, ao_L, ao_R, gL_sL, gI_sI, gR_sR, gI_sL, gI_sR, gL_sI, gL_sR, gR_sI, gR_sL, g_112, hy.1, hy.2, Int.reduceEq, T451 hz hx hy]
    rfl
  · simp only [e452_0, e452_6, e452_15, e452_22, e452_23, e452_137, e452_147, e452_157, e452_169, e452_235, e452_246, e452_326, e452_332, e452_385, e452_392, e452_446, e452_472, e452_480, e452_487, e452_539, e452_563, e452_570, e452_622, e452_658, e452_683, e452_686, Option.getD_some, Option.bind_some, Option.toList_some, Option.toList_none, List.cons_append, List.nil_append, and_self, and_true, true_and, false_and, and_false, ite_self, not_true_eq_false, not_false_eq_true, reduceIte, Nat.reduceEqDiff, ab_I, ab_L, ab_R, ao_I, ao_L, ao_R, gL_sL, gI_sI, gR_sR, gI_sL, gI_sR, gL_sI, gL_sR, gR_sI, gR_sL, g_112, hy.1, hy.2, Int.reduceEq, T453 (Or.inl rfl) (h2 (Or.inl rfl)) hz hx hy]
  · simp only [e452_0, e452_6, e452_15, e452_22, e452_23, e452_137, e452_147, e452_157, e452_169, e452_235, e452_246, e452_326, e452_332, e452_385, e452_392, e452_446, e452_472, e452_480, e452_487, e452_539, e452_563, e452_570, e452_622, e452_658, e452_683, e452_686, Option.getD_some, Option.bind_some, Option.toList_some, Option.toList_none, List.cons_append, List.nil_append, and_self, and_true, true_and, false_and, and_false, ite_self, not_true_eq_false, not_false_eq_true, reduceIte, Nat.reduceEqDiff, ab_I, ab_L, ab_R, ao_I, ao_L, ao_R, gL_sL, gI_sI, gR_sR, gI_sL, gI_sR, gL_sI, gL_sR, gR_sI, gR_sL, g_112, g_113, g_114, g_115, g_116, g_117, hz.1, hz.2, hx.1, hx.2, hy.1, hy.2, Int.reduceEq, T441, T448 hz.1 hz.2, iL_m1, xor_all, dd0, dd1]
    rfl
  · simp only [e452_0, e452_6, e452_15, e452_22, e452_23, e452_137, e452_147, e452_157, e452_169, e452_235, e452_246, e452_326, e452_332, e452_385, e452_392, e452_446, e452_472, e452_480, e452_487, e452_539, e452_563, e452_570, e452_622, e452_658, e452_683, e452_686, Option.getD_some, Option.bind_some, Option.toList_some, Option.toList_none, List.cons_append, List.nil_append, and_self, and_true, true_and, false_and, and_false, ite_self, not_true_eq_false, not_false_eq_true, reduceIte, Nat.reduceEqDiff, ab_I, ab_L, ab_R, ao_I, ao_L, ao_R, gL_sL, gI_sI, gR_sR, gI_sL, gI_sR, gL_sI, gL_sR, gR_sI, gR_sL, g_112, g_113, g_114, g_115, g_116, g_117, hz.1, hz.2, hx.1, hx.2, hy.1, hy.2, Int.reduceEq, T440, T448 hz.1 hz.2, iL_m1, xor_all, dd0, dd1]
    rfl
  · rw [opN_shl]
    unfold shlN
    by_cases cy : gL σ 113 y.toNat = 0#64
    · rw [if_pos (show isC (vn (aV σ y.toNat)) from cy)]
      simp only [← q112, ← q113, ← q114, ← q115]
      by_cases c1 : gL σ 115 x.toNat <<< ((gL σ 112 y.toNat).toNat % 64) >>> ((gL σ 112 y.toNat).toNat % 64) = gL σ 115 x.toNat
      all_goals (simp only [e452_0, e452_6, e452_15, e452_22, e452_23, e452_137, e452_147, e452_157, e452_169, e452_235, e452_246, e452_326, e452_332, e452_385, e452_392, e452_446, e452_472, e452_480, e452_487, e452_539, e452_563, e452_570, e452_622, e452_658, e452_683, e452_686, Option.getD_some, Option.bind_some, Option.toList_some, Option.toList_none, List.cons_append, List.nil_append, and_self, and_true, true_and, false_and, and_false, ite_self, not_true_eq_false, not_false_eq_true, reduceIte, Nat.reduceEqDiff, ab_I, ab_L, ab_R, ao_I, ao_L, ao_R, gL_sL, gI_sI, gR_sR, gI_sL, gI_sR, gL_sI, gL_sR, gR_sI, gR_sL, g_112, g_113, g_114, g_115, g_116, g_117, hz.1, hz.2, hx.1, hx.2, hy.1, hy.2, Int.reduceEq, T439 hy.1 hy.2, b2_0', b2_n', cy, lI63, lShl_m (x := gL σ 112 x.toNat) (n := (gL σ 112 y.toNat).toNat) (m := 64) (by omega) (by omega), lShl_m (x := gL σ 113 x.toNat) (n := (gL σ 112 y.toNat).toNat) (m := 64) (by omega) (by omega), lShl_m (x := gL σ 114 x.toNat) (n := (gL σ 112 y.toNat).toNat) (m := 64) (by omega) (by omega), lShl_m (x := gL σ 115 x.toNat) (n := (gL σ 112 y.toNat).toNat) (m := 64) (by omega) (by omega), lUsh_m (x := gL σ 115 x.toNat <<< ((gL σ 112 y.toNat).toNat % 64)) (n := (gL σ 112 y.toNat).toNat) (m := 64) (by omega) (by omega), T448 hz.1 hz.2, decide_true, decide_false, dd0, dd1] <;> simp [c1])
    · rw [if_neg (show ¬ isC (vn (aV σ y.toNat)) from cy)]
      try simp only [← q112, ← q113, ← q114, ← q115]
      simp only [e452_0, e452_6, e452_15, e452_22, e452_23, e452_137, e452_147, e452_157, e452_169, e452_235, e452_246, e452_326, e452_332, e452_385, e452_392, e452_446, e452_472, e452_480, e452_487, e452_539, e452_563, e452_570, e452_622, e452_658, e452_683, e452_686, Option.getD_some, Option.bind_some, Option.toList_some, Option.toList_none, List.cons_append, List.nil_append, and_self, and_true, true_and, false_and, and_false, ite_self, not_true_eq_false, not_false_eq_true, reduceIte, Nat.reduceEqDiff, ab_I, ab_L, ab_R, ao_I, ao_L, ao_R, gL_sL, gI_sI, gR_sR, gI_sL, gI_sR, gL_sI, gL_sR, gR_sI, gR_sL, g_112, g_113, g_114, g_115, g_116, g_117, hz.1, hz.2, hx.1, hx.2, hy.1, hy.2, Int.reduceEq, T439 hy.1 hy.2, b2_0', b2_n', cy, T436 hz.1 hz.2]
  · rw [opN_shr]
    unfold shrN shrA
    by_cases cy : gL σ 113 y.toNat = 0#64
    · rw [if_pos (show isC (vn (aV σ y.toNat)) from cy)]
      simp only [← q112, ← q113, ← q114, ← q115]
      simp only [e452_0, e452_6, e452_15, e452_22, e452_23, e452_137, e452_147, e452_157, e452_169, e452_235, e452_246, e452_326, e452_332, e452_385, e452_392, e452_446, e452_472, e452_480, e452_487, e452_539, e452_563, e452_570, e452_622, e452_658, e452_683, e452_686, Option.getD_some, Option.bind_some, Option.toList_some, Option.toList_none, List.cons_append, List.nil_append, and_self, and_true, true_and, false_and, and_false, ite_self, not_true_eq_false, not_false_eq_true, reduceIte, Nat.reduceEqDiff, ab_I, ab_L, ab_R, ao_I, ao_L, ao_R, gL_sL, gI_sI, gR_sR, gI_sL, gI_sR, gL_sI, gL_sR, gR_sI, gR_sL, g_112, g_113, g_114, g_115, g_116, g_117, hz.1, hz.2, hx.1, hx.2, hy.1, hy.2, Int.reduceEq, T439 hy.1 hy.2, b2_0', b2_n', cy, lI63, lUsh_m (x := gL σ 112 x.toNat) (n := (gL σ 112 y.toNat).toNat) (m := 64) (by omega) (by omega), lUsh_m (x := gL σ 113 x.toNat) (n := (gL σ 112 y.toNat).toNat) (m := 64) (by omega) (by omega), lUsh_m (x := gL σ 114 x.toNat) (n := (gL σ 112 y.toNat).toNat) (m := 64) (by omega) (by omega), lUsh_m (x := gL σ 115 x.toNat) (n := (gL σ 112 y.toNat).toNat) (m := 64) (by omega) (by omega), T448 hz.1 hz.2, decide_true, decide_false, dd0, dd1]
    · rw [if_neg (show ¬ isC (vn (aV σ y.toNat)) from cy)]
      try simp only [← q112, ← q113, ← q114, ← q115]
      simp only [e452_0, e452_6, e452_15, e452_22, e452_23, e452_137, e452_147, e452_157, e452_169, e452_235, e452_246, e452_326, e452_332, e452_385, e452_392, e452_446, e452_472, e452_480, e452_487, e452_539, e452_563, e452_570, e452_622, e452_658, e452_683, e452_686, Option.getD_some, Option.bind_some, Option.toList_some, Option.toList_none, List.cons_append, List.nil_append, and_self, and_true, true_and, false_and, and_false, ite_self, not_true_eq_false, not_false_eq_true, reduceIte, Nat.reduceEqDiff, ab_I, ab_L, ab_R, ao_I, ao_L, ao_R, gL_sL, gI_sI, gR_sR, gI_sL, gI_sR, gL_sI, gL_sR, gR_sI, gR_sL, g_112, g_113, g_114, g_115, g_116, g_117, hz.1, hz.2, hx.1, hx.2, hy.1, hy.2, Int.reduceEq, T439 hy.1 hy.2, b2_0', b2_n', cy, T448 hz.1 hz.2, iL_m1, decide_true, decide_false, dd0, dd1]
  · simp only [e452_0, e452_6, e452_15, e452_22, e452_23, e452_137, e452_147, e452_157, e452_169, e452_235, e452_246, e452_326, e452_332, e452_385, e452_392, e452_446, e452_472, e452_480, e452_487, e452_539, e452_563, e452_570, e452_622, e452_658, e452_683, e452_686, Option.getD_some, Option.bind_some, Option.toList_some, Option.toList_none, List.cons_append, List.nil_append, and_self, and_true, true_and, false_and, and_false, ite_self, not_true_eq_false, not_false_eq_true, reduceIte, Nat.reduceEqDiff, ab_I, ab_L, ab_R, ao_I, ao_L, ao_R, gL_sL, gI_sI, gR_sR, gI_sL, gI_sR, gL_sI, gL_sR, gR_sI, gR_sL, g_112, hy.1, hy.2, Int.reduceEq, T453 (Or.inr rfl) (h2 (Or.inr rfl)) hz hx hy]
  · simp only [e452_0, e452_6, e452_15, e452_22, e452_23, e452_137, e452_147, e452_157, e452_169, e452_235, e452_246, e452_326, e452_332, e452_385, e452_392, e452_446, e452_472, e452_480, e452_487, e452_539, e452_563, e452_570, e452_622, e452_658, e452_683, e452_686, Option.getD_some, Option.bind_some, Option.toList_some, Option.toList_none, List.cons_append, List.nil_append, and_self, and_true, true_and, false_and, and_false, ite_self, not_true_eq_false, not_false_eq_true, reduceIte, Nat.reduceEqDiff, ab_I, ab_L, ab_R, ao_I, ao_L, ao_R, gL_sL, gI_sI, gR_sR, gI_sL, gI_sR, gL_sI, gL_sR, gR_sI, gR_sL, g_112, g_113, g_114, g_115, g_116, g_117, hz.1, hz.2, hx.1, hx.2, hy.1, hy.2, Int.reduceEq, T448 hz.1 hz.2, iL_m1, xor_all, dd0, dd1]
    rfl
  · rw [opN_sar]
    unfold sarN sarA
    by_cases cy : gL σ 113 y.toNat = 0#64
    · rw [if_pos (show isC (vn (aV σ y.toNat)) from cy)]
      simp only [← q112, ← q113, ← q114, ← q115, ← q116, ← q117]
      simp only [e452_0, e452_6, e452_15, e452_22, e452_23, e452_137, e452_147, e452_157, e452_169, e452_235, e452_246, e452_326, e452_332, e452_385, e452_392, e452_446, e452_472, e452_480, e452_487, e452_539, e452_563, e452_570, e452_622, e452_658, e452_683, e452_686, Option.getD_some, Option.bind_some, Option.toList_some, Option.toList_none, List.cons_append, List.nil_append, and_self, and_true, true_and, false_and, and_false, ite_self, not_true_eq_false, not_false_eq_true, reduceIte, Nat.reduceEqDiff, ab_I, ab_L, ab_R, ao_I, ao_L, ao_R, gL_sL, gI_sI, gR_sR, gI_sL, gI_sR, gL_sI, gL_sR, gR_sI, gR_sL, g_112, g_113, g_114, g_115, g_116, g_117, hz.1, hz.2, hx.1, hx.2, hy.1, hy.2, Int.reduceEq, T439 hy.1 hy.2, b2_0', b2_n', cy, lI63, lShr_m (x := gL σ 112 x.toNat) (n := (gL σ 112 y.toNat).toNat) (m := 64) (by omega) (by omega), lShr_m (x := gL σ 113 x.toNat) (n := (gL σ 112 y.toNat).toNat) (m := 64) (by omega) (by omega), lShr_m (x := gL σ 116 x.toNat) (n := (gL σ 112 y.toNat).toNat) (m := 64) (by omega) (by omega), lShr_m (x := gL σ 117 x.toNat) (n := (gL σ 112 y.toNat).toNat) (m := 64) (by omega) (by omega), T448 hz.1 hz.2, decide_true, decide_false, dd0, dd1]
    · rw [if_neg (show ¬ isC (vn (aV σ y.toNat)) from cy)]
      try simp only [← q112, ← q113, ← q114, ← q115, ← q116, ← q117]
      have r1 : (if (gL σ 116 x.toNat).toInt < 0 then gL σ 116 x.toNat else 0#64) = (if 0 ≤ (gL σ 116 x.toNat).toInt then 0#64 else gL σ 116 x.toNat) := by
        split <;> split <;> first | rfl | omega
      have r2 : (if 0 ≤ (gL σ 117 x.toNat).toInt then gL σ 117 x.toNat else cAll) = (if (gL σ 117 x.toNat).toInt < 0 then cAll else gL σ 117 x.toNat) := by
        split <;> split <;> first | rfl | omega
      rw [r1, r2]
      by_cases c1 : 0 ≤ (gL σ 116 x.toNat).toInt <;> by_cases c2 : (gL σ 117 x.toNat).toInt < 0
      all_goals (simp only [e452_0, e452_6, e452_15, e452_22, e452_23, e452_137, e452_147, e452_157, e452_169, e452_235, e452_246, e452_326, e452_332, e452_385, e452_392, e452_446, e452_472, e452_480, e452_487, e452_539, e452_563, e452_570, e452_622, e452_658, e452_683, e452_686, Option.getD_some, Option.bind_some, Option.toList_some, Option.toList_none, List.cons_append, List.nil_append, and_self, and_true, true_and, false_and, and_false, ite_self, not_true_eq_false, not_false_eq_true, reduceIte, Nat.reduceEqDiff, ab_I, ab_L, ab_R, ao_I, ao_L, ao_R, gL_sL, gI_sI, gR_sR, gI_sL, gI_sR, gL_sI, gL_sR, gR_sI, gR_sL, g_112, g_113, g_114, g_115, g_116, g_117, hz.1, hz.2, hx.1, hx.2, hy.1, hy.2, Int.reduceEq, T439 hy.1 hy.2, b2_0', b2_n', cy, T448 hz.1 hz.2, iL_m1, t0, decide_true, decide_false, dd0, dd1, c1, c2])
-- FILE 29b.nar
/-! ===== W operations, what is DECIDED, and NARROWED, of the reference ===== -/
set_option maxHeartbeats 4000000 in
theorem T455 {c off z x y : Int} {σ : MS} (hc : okO c off) (hz : inB z) (hx : inB x) (hy : inB y) (hyn : ¬ y = 32659) (hzn : ¬ z = 32659 ∧ ¬ z = 32660) : ∃ p q : VL, MM 455 [mR (some 80), mI c, mI off, mI z, mI x, mI y] σ = some (none, wrV (wrV (wrV σ 32659 p) 32660 q) z.toNat (numV (opW c off (vn (aV σ x.toNat)) (vn (aV σ y.toNat))))) := by
  have k1 : (32659 : Int).toNat = 32659 := rfl
  have k2 : (32660 : Int).toNat = 32660 := rfl
  have b1 : inB 32659 := by decide
  have b2x : inB 32660 := by decide
  have hrk : ∀ a b : B64, reckA c off false a b = reck c off false a b := fun a b => by
    have := hc.1
    unfold reckA
    rw [if_neg (by omega), if_neg (by omega)]
  unfold opW
  generalize hX : cutT (vn (aV σ x.toNat)) = X
  generalize hY : cutT (vn (aV σ y.toNat)) = Y
  have ey : aV (wrV σ 32659 (numV X)) y.toNat = aV σ y.toNat := aV_ne (by omega)
  have s0 : MM 455 [mR (some 80), mI c, mI off, mI z, mI x, mI y] σ = RR (lkB tb455) (B455_18, [some (mR (some 80)), some (mI c), some (mI off), some (mI z), some (mI x), some (mI y)], [], wrV (wrV σ 32659 (numV X)) 32660 (numV Y)) := by
    simp only [M455, e455_0, e455_9, Option.getD_some, Option.bind_some, Option.toList_some, Option.toList_none, List.cons_append, List.nil_append, and_self, and_true, true_and, false_and, and_false, ite_self, not_true_eq_false, not_false_eq_true, reduceIte, Nat.reduceEqDiff, ab_I, ab_L, ab_R, ao_I, ao_L, ao_R, gL_sL, gI_sI, gR_sR, gI_sL, gI_sR, gL_sI, gL_sR, gR_sI, gR_sL, T454 b1 hx, k1, T454 b2x hy, k2, ey, hX, hY]
  rw [s0]
  generalize hτ : wrV (wrV σ 32659 (numV X)) 32660 (numV Y) = τ
  have a1 : aV τ 32659 = numV X := by rw [← hτ, aV_ne (by omega), aV_same]
  have a2 : aV τ 32660 = numV Y := by rw [← hτ, aV_same]
  have m1 : gL τ 113 32659 = jM X := by rw [q113, a1]; rfl
  have m2 : gL τ 113 32660 = jM Y := by rw [q113, a2]; rfl
  have v1 : gL τ 112 32659 = jV X := by rw [q112, a1]; rfl
  have v2 : gL τ 112 32660 = jV Y := by rw [q112, a2]; rfl
  by_cases q : c = 192 ∨ off = 1
  · rw [if_pos q]
    have s1 : RR (lkB tb455) (B455_18, [some (mR (some 80)), some (mI c), some (mI off), some (mI z), some (mI x), some (mI y)], [], τ) = RR (lkB tb455) (B455_30, [some (mR (some 80)), some (mI c), some (mI off), some (mI z), some (mI x), some (mI y)], [], τ) := by
      rw [e455_18]
      by_cases q1 : c = 192
      · rw [if_pos q1]
      · rw [if_neg q1, if_neg (by omega)]
    rw [s1]
    refine ⟨numV X, numV Y, ?_⟩
    rw [hτ]
    simp only [isC]
    by_cases cx : jM X = 0#64
    · by_cases cy : jM Y = 0#64
      · rw [if_pos ⟨cx, cy⟩, ← hrk]
        have okc : okC c off := by
          refine ⟨?_, hc.2, fun e => ?_⟩ <;> have := hc.1 <;> omega
        obtain ⟨r, hr1, hr2⟩ := T428n (a := jV X) (b := jV Y) (σ := τ) okc
        simp only [e455_30, e455_37, e455_47, e455_74, e455_81, e455_90, Option.getD_some, Option.bind_some, Option.toList_some, Option.toList_none, List.cons_append, List.nil_append, and_self, and_true, true_and, false_and, and_false, ite_self, not_true_eq_false, not_false_eq_true, reduceIte, Nat.reduceEqDiff, ab_I, ab_L, ab_R, ao_I, ao_L, ao_R, gL_sL, gI_sI, gR_sR, gI_sL, gI_sR, gL_sI, gL_sR, gR_sI, gR_sL, g_112, T439 b1.1 b1.2, T439 b2x.1 b2x.2, k1, k2, m1, m2, v1, v2, cx, cy, b2_0', hr1, iL_F, T433 hz.1 hz.2, Int.reduceLE, Int.reduceLT, hr2]
      · rw [if_neg (fun q => cy q.2)]
        simp only [e455_30, e455_37, e455_47, e455_84, e455_90, Option.getD_some, Option.bind_some, Option.toList_some, Option.toList_none, List.cons_append, List.nil_append, and_self, and_true, true_and, false_and, and_false, ite_self, not_true_eq_false, not_false_eq_true, reduceIte, Nat.reduceEqDiff, ab_I, ab_L, ab_R, ao_I, ao_L, ao_R, gL_sL, gI_sI, gR_sR, gI_sL, gI_sR, gL_sI, gL_sR, gR_sI, gR_sL, T439 b1.1 b1.2, T439 b2x.1 b2x.2, k1, k2, m1, m2, cx, cy, b2_0', T437 (n := 4) hz.1 hz.2 (by omega)]
        rw [show ((4 : Int)) = ((4 : Nat) : Int) from rfl, T437 hz.1 hz.2 (by omega)]
        simp only [e455_90, Option.getD_some, Option.bind_some, Option.toList_some, Option.toList_none, List.cons_append, List.nil_append, and_self, and_true, true_and, false_and, and_false, ite_self, not_true_eq_false, not_false_eq_true, reduceIte, Nat.reduceEqDiff, ab_I, ab_L, ab_R, ao_I, ao_L, ao_R, gL_sL, gI_sI, gR_sR, gI_sL, gI_sR, gL_sI, gL_sR, gR_sI, gR_sL]
    · rw [if_neg (fun q => cx q.1)]
      simp only [e455_30, e455_37, e455_84, e455_90, Option.getD_some, Option.bind_some, Option.toList_some, Option.toList_none, List.cons_append, List.nil_append, and_self, and_true, true_and, false_and, and_false, ite_self, not_true_eq_false, not_false_eq_true, reduceIte, Nat.reduceEqDiff, ab_I, ab_L, ab_R, ao_I, ao_L, ao_R, gL_sL, gI_sI, gR_sR, gI_sL, gI_sR, gL_sI, gL_sR, gR_sI, gR_sL, T439 b1.1 b1.2, k1, m1, cx, b2_0']
      rw [show ((4 : Int)) = ((4 : Nat) : Int) from rfl, T437 hz.1 hz.2 (by omega)]
      simp only [e455_90, Option.getD_some, Option.bind_some, Option.toList_some, Option.toList_none, List.cons_append, List.nil_append, and_self, and_true, true_and, false_and, and_false, ite_self, not_true_eq_false, not_false_eq_true, reduceIte, Nat.reduceEqDiff, ab_I, ab_L, ab_R, ao_I, ao_L, ao_R, gL_sL, gI_sI, gR_sR, gI_sL, gI_sR, gL_sI, gL_sR, gR_sI, gR_sL]
  · rw [if_neg q]
    have okd : okO c 0 := ⟨hc.1, fun _ => Or.inl rfl⟩
    have fin : ∀ (ρ : MS) (W : N6), aV ρ 32659 = numV X → aV ρ 32660 = numV W → RR (lkB tb455) (B455_132, [some (mR (some 80)), some (mI c), some (mI off), some (mI z), some (mI x), some (mI y)], [], ρ) = some (none, wrV ρ z.toNat (numV (cutT (opN c 0 X W)))) := by
      intro ρ W r1 r2
      simp only [e455_132, e455_145, e455_151, Option.getD_some, Option.bind_some, Option.toList_some, Option.toList_none, List.cons_append, List.nil_append, and_self, and_true, true_and, false_and, and_false, ite_self, not_true_eq_false, not_false_eq_true, reduceIte, Nat.reduceEqDiff, ab_I, ab_L, ab_R, ao_I, ao_L, ao_R, gL_sL, gI_sI, gR_sR, gI_sL, gI_sR, gL_sI, gL_sR, gR_sI, gR_sL, T452 okd hz b1 b2x, k1, k2, r1, r2, T454 hz hz, aV_same, wrV_same]
      rfl
    by_cases s : c = 96 ∨ c = 112
    · have s1 : RR (lkB tb455) (B455_18, [some (mR (some 80)), some (mI c), some (mI off), some (mI z), some (mI x), some (mI y)], [], τ) = RR (lkB tb455) (B455_103, [some (mR (some 80)), some (mI c), some (mI off), some (mI z), some (mI x), some (mI y)], [], τ) := by
        rw [e455_18, if_neg (by omega), if_pos (by omega)]
        by_cases q1 : c = 96
        · rw [if_pos q1]
        · rw [if_neg q1, if_neg (by omega)]
      rw [s1]
      by_cases cy : jM Y = 0#64
      · rw [if_pos (⟨s, cy⟩ : (c = 96 ∨ c = 112) ∧ isC Y)]
        refine ⟨numV X, numV (cstN (jV Y &&& 31#64)), ?_⟩
        have e1 : RR (lkB tb455) (B455_103, [some (mR (some 80)), some (mI c), some (mI off), some (mI z), some (mI x), some (mI y)], [], τ) = RR (lkB tb455) (B455_132, [some (mR (some 80)), some (mI c), some (mI off), some (mI z), some (mI x), some (mI y)], [], wrV τ 32660 (numV (cstN (jV Y &&& 31#64)))) := by
          simp only [e455_103, e455_110, Option.getD_some, Option.bind_some, Option.toList_some, Option.toList_none, List.cons_append, List.nil_append, and_self, and_true, true_and, false_and, and_false, ite_self, not_true_eq_false, not_false_eq_true, reduceIte, Nat.reduceEqDiff, ab_I, ab_L, ab_R, ao_I, ao_L, ao_R, gL_sL, gI_sI, gR_sR, gI_sL, gI_sR, gL_sI, gL_sR, gR_sI, gR_sL, g_112, T439 b2x.1 b2x.2, k2, m2, v2, cy, b2_0', T433 b2x.1 b2x.2, Int.reduceLE, Int.reduceLT]
          rfl
        rw [e1, fin _ (cstN (jV Y &&& 31#64)) (by rw [aV_ne (by omega), a1]) aV_same, ← hτ, wrV_same]
      · rw [if_neg (show ¬ ((c = 96 ∨ c = 112) ∧ isC Y) from fun q => cy q.2)]
        refine ⟨numV X, numV Y, ?_⟩
        have e1 : RR (lkB tb455) (B455_103, [some (mR (some 80)), some (mI c), some (mI off), some (mI z), some (mI x), some (mI y)], [], τ) = RR (lkB tb455) (B455_132, [some (mR (some 80)), some (mI c), some (mI off), some (mI z), some (mI x), some (mI y)], [], τ) := by
          simp only [e455_103, e455_110, Option.getD_some, Option.bind_some, Option.toList_some, Option.toList_none, List.cons_append, List.nil_append, and_self, and_true, true_and, false_and, and_false, ite_self, not_true_eq_false, not_false_eq_true, reduceIte, Nat.reduceEqDiff, ab_I, ab_L, ab_R, ao_I, ao_L, ao_R, gL_sL, gI_sI, gR_sR, gI_sL, gI_sR, gL_sI, gL_sR, gR_sI, gR_sL, T439 b2x.1 b2x.2, k2, m2, cy, b2_0']
        rw [e1, fin _ Y a1 a2, hτ]
    · rw [if_neg (show ¬ ((c = 96 ∨ c = 112) ∧ isC Y) from fun q => s q.1)]
      refine ⟨numV X, numV Y, ?_⟩
      have s1 : RR (lkB tb455) (B455_18, [some (mR (some 80)), some (mI c), some (mI off), some (mI z), some (mI x), some (mI y)], [], τ) = RR (lkB tb455) (B455_132, [some (mR (some 80)), some (mI c), some (mI off), some (mI z), some (mI x), some (mI y)], [], τ) := by
        rw [e455_18, if_neg (by omega), if_pos (by omega), if_neg (by omega), if_pos (by omega)]
      rw [s1, fin _ Y a1 a2, hτ]
set_option maxHeartbeats 1000000 in
theorem T456w {z x : Int} {b : Nat} {σ : MS} (hz : inB z) (hx : inB x) (hb : 1 ≤ b ∧ b ≤ 64) : MM 456 [mR (some 80), mI z, mI x, mI b, mI 1] σ = some (none, wrV σ z.toNat (numV (extN b (vn (aV σ x.toNat))))) := by
  unfold extN
  by_cases cx : gL σ 113 x.toNat = 0#64
  · rw [if_pos (show isC (vn (aV σ x.toNat)) from cx)]
    simp only [← q112]
    simp only [M456, e456_0, e456_5, e456_18, e456_38, e456_41, e456_48, e456_59, Option.getD_some, Option.bind_some, Option.toList_some, Option.toList_none, List.cons_append, List.nil_append, and_self, and_true, true_and, false_and, and_false, ite_self, not_true_eq_false, not_false_eq_true, reduceIte, Nat.reduceEqDiff, ab_I, ab_L, ab_R, ao_I, ao_L, ao_R, gL_sL, gI_sI, gR_sR, gI_sL, gI_sR, gL_sI, gL_sR, gR_sI, gR_sL, g_112, hx.1, hx.2, T439 hx.1 hx.2, b2_0', cx, T425 hb.1 hb.2, oneI, T433 hz.1 hz.2]
  · rw [if_neg (show ¬ isC (vn (aV σ x.toNat)) from cx)]
    simp only [M456, e456_0, e456_5, e456_18, e456_38, e456_41, e456_48, e456_59, Option.getD_some, Option.bind_some, Option.toList_some, Option.toList_none, List.cons_append, List.nil_append, and_self, and_true, true_and, false_and, and_false, ite_self, not_true_eq_false, not_false_eq_true, reduceIte, Nat.reduceEqDiff, ab_I, ab_L, ab_R, ao_I, ao_L, ao_R, gL_sL, gI_sI, gR_sR, gI_sL, gI_sR, gL_sI, gL_sR, gR_sI, gR_sL, g_112, hx.1, hx.2, T439 hx.1 hx.2, b2_0', cx, T438 hz.1 hz.2 hb, oneI]
set_option maxHeartbeats 1000000 in
theorem T456n {z x : Int} {b : Nat} {σ : MS} (hz : inB z) (hx : inB x) (hb : 1 ≤ b ∧ b ≤ 64) : MM 456 [mR (some 80), mI z, mI x, mI b, mI 0] σ = some (none, wrV σ z.toNat (numV (extW b (vn (aV σ x.toNat))))) := by
  unfold extW
  by_cases cx : gL σ 113 x.toNat = 0#64
  · rw [if_pos (show isC (vn (aV σ x.toNat)) from cx)]
    simp only [← q112]
    simp only [M456, e456_0, e456_5, e456_18, e456_38, e456_41, e456_48, e456_59, Option.getD_some, Option.bind_some, Option.toList_some, Option.toList_none, List.cons_append, List.nil_append, and_self, and_true, true_and, false_and, and_false, ite_self, not_true_eq_false, not_false_eq_true, reduceIte, Nat.reduceEqDiff, ab_I, ab_L, ab_R, ao_I, ao_L, ao_R, gL_sL, gI_sI, gR_sR, gI_sL, gI_sR, gL_sI, gL_sR, gR_sI, gR_sL, g_112, hx.1, hx.2, T439 hx.1 hx.2, b2_0', cx, T425 hb.1 hb.2, iL_F, T433 hz.1 hz.2]
  · rw [if_neg (show ¬ isC (vn (aV σ x.toNat)) from cx)]
    simp only [M456, e456_0, e456_5, e456_18, e456_38, e456_41, e456_48, e456_59, Option.getD_some, Option.bind_some, Option.toList_some, Option.toList_none, List.cons_append, List.nil_append, and_self, and_true, true_and, false_and, and_false, ite_self, not_true_eq_false, not_false_eq_true, reduceIte, Nat.reduceEqDiff, ab_I, ab_L, ab_R, ao_I, ao_L, ao_R, gL_sL, gI_sI, gR_sR, gI_sL, gI_sR, gL_sI, gL_sR, gR_sI, gR_sL, g_112, hx.1, hx.2, T439 hx.1 hx.2, b2_0', cx, T438 hz.1 hz.2 hb, T454 hz hz, aV_same, wrV_same]
    rfl
theorem equN_r (x y : N6) : equN x y = 1 ∨ equN x y = 0 ∨ equN x y = -1 := by
  unfold equN
  split
  · exact Or.inl rfl
  · split
    · exact Or.inr (Or.inl rfl)
    · exact Or.inr (Or.inr rfl)
def decY (c w : Int) (A B : N6) : Int := if w = 0 ∧ isSgn c then (if isC A ∧ isC B then (if cmpB c false (jV A) (jV B) = true then 1 else 0) else -1) else decX c A B
set_option maxRecDepth 100000 in
theorem L457a {c w x y a b : Int} {σ : MS} (ha : inB a) (hb : inB b) : ∃ v : Int, (v = 0 ↔ ¬ (isC (vn (aV σ a.toNat)) ∧ isC (vn (aV σ b.toNat)))) ∧ RR (lkB tb457) (B457_38, [some (mR (some 80)), some (mI c), some (mI w), some (mI x), some (mI y), some (mI a), some (mI b), none, none], [], σ) = RR (lkB tb457) (B457_61, [some (mR (some 80)), some (mI c), some (mI w), some (mI x), some (mI y), some (mI a), some (mI b), none, none], [mI v], σ) := by
  simp only [isC, ← q113]
  by_cases cx : gL σ 113 a.toNat = 0#64
  · by_cases cy : gL σ 113 b.toNat = 0#64
    · exact ⟨1, by simp [cx, cy], by simp only [e457_38, e457_44, e457_53, Option.getD_some, Option.bind_some, Option.toList_some, Option.toList_none, List.cons_append, List.nil_append, and_self, and_true, true_and, false_and, and_false, ite_self, not_true_eq_false, not_false_eq_true, reduceIte, Nat.reduceEqDiff, ab_I, ab_L, ab_R, ao_I, ao_L, ao_R, gL_sL, gI_sI, gR_sR, gI_sL, gI_sR, gL_sI, gL_sR, gR_sI, gR_sL, T439 ha.1 ha.2, T439 hb.1 hb.2, b2_0', cx, cy]⟩
    · exact ⟨0, by simp [cx, cy], by simp only [e457_38, e457_44, e457_53, e457_60, Option.getD_some, Option.bind_some, Option.toList_some, Option.toList_none, List.cons_append, List.nil_append, and_self, and_true, true_and, false_and, and_false, ite_self, not_true_eq_false, not_false_eq_true, reduceIte, Nat.reduceEqDiff, ab_I, ab_L, ab_R, ao_I, ao_L, ao_R, gL_sL, gI_sI, gR_sR, gI_sL, gI_sR, gL_sI, gL_sR, gR_sI, gR_sL, T439 ha.1 ha.2, T439 hb.1 hb.2, b2_0', cx, cy]⟩
  · exact ⟨0, by simp [cx], by simp only [e457_38, e457_44, e457_60, Option.getD_some, Option.bind_some, Option.toList_some, Option.toList_none, List.cons_append, List.nil_append, and_self, and_true, true_and, false_and, and_false, ite_self, not_true_eq_false, not_false_eq_true, reduceIte, Nat.reduceEqDiff, ab_I, ab_L, ab_R, ao_I, ao_L, ao_R, gL_sL, gI_sI, gR_sR, gI_sL, gI_sR, gL_sI, gL_sR, gR_sI, gR_sL, T439 ha.1 ha.2, b2_0', cx]⟩
set_option maxRecDepth 100000 in
set_option maxHeartbeats 4000000 in
theorem L457b {c w x y a b v : Int} {σ : MS} (hc : isCmp c) (ha : inB a) (hb : inB b) (hv : v = 0 ↔ ¬ (isC (vn (aV σ a.toNat)) ∧ isC (vn (aV σ b.toNat)))) (s : w = 0 ∧ isSgn c) : RR (lkB tb457) (B457_61, [some (mR (some 80)), some (mI c), some (mI w), some (mI x), some (mI y), some (mI a), some (mI b), none, none], [mI v], σ) = some (some (mI (if isC (vn (aV σ a.toNat)) ∧ isC (vn (aV σ b.toNat)) then (if cmpB c false (jV (vn (aV σ a.toNat))) (jV (vn (aV σ b.toNat))) = true then 1 else 0) else -1)), σ) := by
  obtain ⟨rfl, s⟩ := s
  by_cases k : isC (vn (aV σ a.toNat)) ∧ isC (vn (aV σ b.toNat))
  · rw [if_pos k]
    have hv' : ¬ v = 0 := fun e => hv.mp e k
    have key := T429n (σ := σ) (a := gL σ 112 a.toNat) (b := gL σ 112 b.toNat) hc
    by_cases d : cmpB c false (gL σ 112 a.toNat) (gL σ 112 b.toNat) = true
    · rw [if_pos (show cmpB c false (jV (vn (aV σ a.toNat))) (jV (vn (aV σ b.toNat))) = true from d)]
      rw [if_pos d] at key
      rcases s with rfl | rfl | rfl | rfl
      all_goals (simp only [e457_61, e457_296, Option.getD_some, Option.bind_some, Option.toList_some, Option.toList_none, List.cons_append, List.nil_append, and_self, and_true, true_and, false_and, and_false, ite_self, not_true_eq_false, not_false_eq_true, reduceIte, Nat.reduceEqDiff, ab_I, ab_L, ab_R, ao_I, ao_L, ao_R, gL_sL, gI_sI, gR_sR, gI_sL, gI_sR, gL_sI, gL_sR, gR_sI, gR_sL, g_112, g_113, Int.reduceEq, ha.1, ha.2, hb.1, hb.2, hv', key])
    · rw [if_neg (show ¬ cmpB c false (jV (vn (aV σ a.toNat))) (jV (vn (aV σ b.toNat))) = true from d)]
      rw [if_neg d] at key
      rcases s with rfl | rfl | rfl | rfl
      all_goals (simp only [e457_61, e457_296, Option.getD_some, Option.bind_some, Option.toList_some, Option.toList_none, List.cons_append, List.nil_append, and_self, and_true, true_and, false_and, and_false, ite_self, not_true_eq_false, not_false_eq_true, reduceIte, Nat.reduceEqDiff, ab_I, ab_L, ab_R, ao_I, ao_L, ao_R, gL_sL, gI_sI, gR_sR, gI_sL, gI_sR, gL_sI, gL_sR, gR_sI, gR_sL, g_112, g_113, Int.reduceEq, ha.1, ha.2, hb.1, hb.2, hv', key])
  · rw [if_neg k]
    have hv' : v = 0 := hv.mpr k
    rcases s with rfl | rfl | rfl | rfl
    all_goals (simp only [e457_61, Option.getD_some, Option.bind_some, Option.toList_some, Option.toList_none, List.cons_append, List.nil_append, and_self, and_true, true_and, false_and, and_false, ite_self, not_true_eq_false, not_false_eq_true, reduceIte, Nat.reduceEqDiff, ab_I, ab_L, ab_R, ao_I, ao_L, ao_R, gL_sL, gI_sI, gR_sR, gI_sL, gI_sR, gL_sI, gL_sR, gR_sI, gR_sL, g_112, g_113, Int.reduceEq, ha.1, ha.2, hb.1, hb.2, hv'])
set_option maxRecDepth 100000 in
set_option maxHeartbeats 4000000 in
theorem L457c {c w x y a b v : Int} {σ : MS} (hc : isCmp c) (hw : w = 0 ∨ w = 1) (ha : inB a) (hb : inB b) (s : ¬ (w = 0 ∧ isSgn c)) : RR (lkB tb457) (B457_61, [some (mR (some 80)), some (mI c), some (mI w), some (mI x), some (mI y), some (mI a), some (mI b), none, none], [mI v], σ) = some (some (mI (decX c (vn (aV σ a.toNat)) (vn (aV σ b.toNat)))), σ) := by
  rcases hc with rfl | rfl | rfl | rfl | rfl | rfl | rfl | rfl | rfl | rfl | rfl
  · simp only [e457_61, e457_140, Option.getD_some, Option.bind_some, Option.toList_some, Option.toList_none, List.cons_append, List.nil_append, and_self, and_true, true_and, false_and, and_false, ite_self, not_true_eq_false, not_false_eq_true, reduceIte, Nat.reduceEqDiff, ab_I, ab_L, ab_R, ao_I, ao_L, ao_R, gL_sL, gI_sI, gR_sR, gI_sL, gI_sR, gL_sI, gL_sR, gR_sI, gR_sL, Int.reduceEq, T458 ha hb]
    rfl
  · simp only [e457_61, e457_240, Option.getD_some, Option.bind_some, Option.toList_some, Option.toList_none, List.cons_append, List.nil_append, and_self, and_true, true_and, false_and, and_false, ite_self, not_true_eq_false, not_false_eq_true, reduceIte, Nat.reduceEqDiff, ab_I, ab_L, ab_R, ao_I, ao_L, ao_R, gL_sL, gI_sI, gR_sR, gI_sL, gI_sR, gL_sI, gL_sR, gR_sI, gR_sL, Int.reduceEq, T459 ha hb]
    rfl
  · simp only [e457_61, e457_249, Option.getD_some, Option.bind_some, Option.toList_some, Option.toList_none, List.cons_append, List.nil_append, and_self, and_true, true_and, false_and, and_false, ite_self, not_true_eq_false, not_false_eq_true, reduceIte, Nat.reduceEqDiff, ab_I, ab_L, ab_R, ao_I, ao_L, ao_R, gL_sL, gI_sI, gR_sR, gI_sL, gI_sR, gL_sI, gL_sR, gR_sI, gR_sL, Int.reduceEq, T460 ha hb]
    rfl
  · show _ = some (some (mI (if ¬ jV (vn (aV σ a.toNat)) &&& jV (vn (aV σ b.toNat)) = 0#64 then 1 else if (jV (vn (aV σ a.toNat)) ||| jM (vn (aV σ a.toNat))) &&& (jV (vn (aV σ b.toNat)) ||| jM (vn (aV σ b.toNat))) = 0#64 then 0 else -1)), σ)
    simp only [← q112, ← q113]
    by_cases d1 : gL σ 112 a.toNat &&& gL σ 112 b.toNat = 0#64
    · by_cases d2 : (gL σ 112 a.toNat ||| gL σ 113 a.toNat) &&& (gL σ 112 b.toNat ||| gL σ 113 b.toNat) = 0#64
      · simp only [e457_61, Option.getD_some, Option.bind_some, Option.toList_some, Option.toList_none, List.cons_append, List.nil_append, and_self, and_true, true_and, false_and, and_false, ite_self, not_true_eq_false, not_false_eq_true, reduceIte, Nat.reduceEqDiff, ab_I, ab_L, ab_R, ao_I, ao_L, ao_R, gL_sL, gI_sI, gR_sR, gI_sL, gI_sR, gL_sI, gL_sR, gR_sI, gR_sL, g_112, g_113, Int.reduceEq, ha.1, ha.2, hb.1, hb.2, d1, d2]
      · simp only [e457_61, Option.getD_some, Option.bind_some, Option.toList_some, Option.toList_none, List.cons_append, List.nil_append, and_self, and_true, true_and, false_and, and_false, ite_self, not_true_eq_false, not_false_eq_true, reduceIte, Nat.reduceEqDiff, ab_I, ab_L, ab_R, ao_I, ao_L, ao_R, gL_sL, gI_sI, gR_sR, gI_sL, gI_sR, gL_sI, gL_sR, gR_sI, gR_sL, g_112, g_113, Int.reduceEq, ha.1, ha.2, hb.1, hb.2, d1, d2]
    · simp only [e457_61, Option.getD_some, Option.bind_some, Option.toList_some, Option.toList_none, List.cons_append, List.nil_append, and_self, and_true, true_and, false_and, and_false, ite_self, not_true_eq_false, not_false_eq_true, reduceIte, Nat.reduceEqDiff, ab_I, ab_L, ab_R, ao_I, ao_L, ao_R, gL_sL, gI_sI, gR_sR, gI_sL, gI_sR, gL_sI, gL_sR, gR_sI, gR_sL, g_112, g_113, Int.reduceEq, ha.1, ha.2, hb.1, hb.2, d1]
  · show _ = some (some (mI (if equN (vn (aV σ a.toNat)) (vn (aV σ b.toNat)) < 0 then equN (vn (aV σ a.toNat)) (vn (aV σ b.toNat)) else 1 - equN (vn (aV σ a.toNat)) (vn (aV σ b.toNat)))), σ)
    simp only [e457_61, e457_149, Option.getD_some, Option.bind_some, Option.toList_some, Option.toList_none, List.cons_append, List.nil_append, and_self, and_true, true_and, false_and, and_false, ite_self, not_true_eq_false, not_false_eq_true, reduceIte, Nat.reduceEqDiff, ab_I, ab_L, ab_R, ao_I, ao_L, ao_R, gL_sL, gI_sI, gR_sR, gI_sL, gI_sR, gL_sI, gL_sR, gR_sI, gR_sL, Int.reduceEq, T458 ha hb]
    rcases equN_r (vn (aV σ a.toNat)) (vn (aV σ b.toNat)) with r | r | r <;> rw [r] <;> rfl
  · rcases hw with rfl | rfl
    · exact absurd ⟨rfl, Or.inl rfl⟩ s
    · simp only [e457_61, e457_323, e457_369, Option.getD_some, Option.bind_some, Option.toList_some, Option.toList_none, List.cons_append, List.nil_append, and_self, and_true, true_and, false_and, and_false, ite_self, not_true_eq_false, not_false_eq_true, reduceIte, Nat.reduceEqDiff, ab_I, ab_L, ab_R, ao_I, ao_L, ao_R, gL_sL, gI_sI, gR_sR, gI_sL, gI_sR, gL_sI, gL_sR, gR_sI, gR_sL, Int.reduceEq, T461 ha hb]
      rfl
  · rcases hw with rfl | rfl
    · exact absurd ⟨rfl, Or.inr (Or.inl rfl)⟩ s
    · simp only [e457_61, e457_340, e457_369, Option.getD_some, Option.bind_some, Option.toList_some, Option.toList_none, List.cons_append, List.nil_append, and_self, and_true, true_and, false_and, and_false, ite_self, not_true_eq_false, not_false_eq_true, reduceIte, Nat.reduceEqDiff, ab_I, ab_L, ab_R, ao_I, ao_L, ao_R, gL_sL, gI_sI, gR_sR, gI_sL, gI_sR, gL_sI, gL_sR, gR_sI, gR_sL, Int.reduceEq, T462 ha hb]
      rfl
  · simp only [e457_61, e457_258, Option.getD_some, Option.bind_some, Option.toList_some, Option.toList_none, List.cons_append, List.nil_append, and_self, and_true, true_and, false_and, and_false, ite_self, not_true_eq_false, not_false_eq_true, reduceIte, Nat.reduceEqDiff, ab_I, ab_L, ab_R, ao_I, ao_L, ao_R, gL_sL, gI_sI, gR_sR, gI_sL, gI_sR, gL_sI, gL_sR, gR_sI, gR_sL, Int.reduceEq, T459 hb ha]
    rfl
  · simp only [e457_61, e457_267, Option.getD_some, Option.bind_some, Option.toList_some, Option.toList_none, List.cons_append, List.nil_append, and_self, and_true, true_and, false_and, and_false, ite_self, not_true_eq_false, not_false_eq_true, reduceIte, Nat.reduceEqDiff, ab_I, ab_L, ab_R, ao_I, ao_L, ao_R, gL_sL, gI_sI, gR_sR, gI_sL, gI_sR, gL_sI, gL_sR, gR_sI, gR_sL, Int.reduceEq, T460 hb ha]
    rfl
  · rcases hw with rfl | rfl
    · exact absurd ⟨rfl, Or.inr (Or.inr (Or.inl rfl))⟩ s
    · simp only [e457_61, e457_358, e457_369, Option.getD_some, Option.bind_some, Option.toList_some, Option.toList_none, List.cons_append, List.nil_append, and_self, and_true, true_and, false_and, and_false, ite_self, not_true_eq_false, not_false_eq_true, reduceIte, Nat.reduceEqDiff, ab_I, ab_L, ab_R, ao_I, ao_L, ao_R, gL_sL, gI_sI, gR_sR, gI_sL, gI_sR, gL_sI, gL_sR, gR_sI, gR_sL, Int.reduceEq, T461 hb ha]
      rfl
  · rcases hw with rfl | rfl
    · exact absurd ⟨rfl, Or.inr (Or.inr (Or.inr rfl))⟩ s
    · simp only [e457_61, e457_369, Option.getD_some, Option.bind_some, Option.toList_some, Option.toList_none, List.cons_append, List.nil_append, and_self, and_true, true_and, false_and, and_false, ite_self, not_true_eq_false, not_false_eq_true, reduceIte, Nat.reduceEqDiff, ab_I, ab_L, ab_R, ao_I, ao_L, ao_R, gL_sL, gI_sI, gR_sR, gI_sL, gI_sR, gL_sI, gL_sR, gR_sI, gR_sL, Int.reduceEq, T462 hb ha]
      rfl
theorem L457 {c w x y a b : Int} {σ : MS} (hc : isCmp c) (hw : w = 0 ∨ w = 1) (ha : inB a) (hb : inB b) : RR (lkB tb457) (B457_38, [some (mR (some 80)), some (mI c), some (mI w), some (mI x), some (mI y), some (mI a), some (mI b), none, none], [], σ) = some (some (mI (decY c w (vn (aV σ a.toNat)) (vn (aV σ b.toNat)))), σ) := by
  obtain ⟨v, hv, pe⟩ := L457a (c := c) (w := w) (x := x) (y := y) (σ := σ) ha hb
  rw [pe]
  unfold decY
  by_cases s : w = 0 ∧ isSgn c
  · rw [if_pos s]
    exact L457b hc ha hb hv s
  · rw [if_neg s]
    exact L457c hc hw ha hb s
theorem T457w {c x y : Int} {σ : MS} (hc : isCmp c) (hx : inB x) (hy : inB y) : MM 457 [mR (some 80), mI c, mI 1, mI x, mI y] σ = some (some (mI (decN c true (vn (aV σ x.toNat)) (vn (aV σ y.toNat)))), σ) := by
  simp only [M457, e457_0, Option.getD_some, Option.bind_some, Option.toList_some, Option.toList_none, List.cons_append, List.nil_append, and_self, and_true, true_and, false_and, and_false, ite_self, not_true_eq_false, not_false_eq_true, reduceIte, Nat.reduceEqDiff, ab_I, ab_L, ab_R, ao_I, ao_L, ao_R, gL_sL, gI_sI, gR_sR, gI_sL, gI_sR, gL_sI, gL_sR, gR_sI, gR_sL, oneI]
  rw [L457 hc (Or.inr rfl) hx hy]
  unfold decY decN
  rw [if_neg (by omega), if_pos rfl]
theorem T457n {c x y : Int} {σ : MS} (hc : isCmp c) (hx : inB x) (hy : inB y) (hyn : ¬ y = 32659) : MM 457 [mR (some 80), mI c, mI 0, mI x, mI y] σ = some (some (mI (decN c false (vn (aV σ x.toNat)) (vn (aV σ y.toNat)))), wrV (wrV σ 32659 (numV (cutT (vn (aV σ x.toNat))))) 32660 (numV (cutT (vn (aV σ y.toNat))))) := by
  have k1 : (32659 : Int).toNat = 32659 := rfl
  have k2 : (32660 : Int).toNat = 32660 := rfl
  have b1 : inB 32659 := by decide
  have b2x : inB 32660 := by decide
  have ey : ∀ v, aV (wrV σ 32659 v) y.toNat = aV σ y.toNat := fun v => aV_ne (by omega)
  simp only [M457, e457_0, e457_19, e457_28, Option.getD_some, Option.bind_some, Option.toList_some, Option.toList_none, List.cons_append, List.nil_append, and_self, and_true, true_and, false_and, and_false, ite_self, not_true_eq_false, not_false_eq_true, reduceIte, Nat.reduceEqDiff, ab_I, ab_L, ab_R, ao_I, ao_L, ao_R, gL_sL, gI_sI, gR_sR, gI_sL, gI_sR, gL_sI, gL_sR, gR_sI, gR_sL, T454 b1 hx, k1, T454 b2x hy, k2, ey]
  rw [L457 hc (Or.inl rfl) b1 b2x, k1, k2, aV_same, aV_ne (by omega), aV_same]
  unfold decY decN
  rw [if_neg (show ¬ false = true by decide)]
  simp only [true_and]
  rfl
/-! two numbers written -/
def wn2 (σ : MS) (x y : Nat) (p : N6 × N6) : MS := wrV (wrV σ x (vN (aV σ x) p.1)) y (vN (aV σ y) p.2)
theorem wn2_sw {σ : MS} {x y : Nat} {p : N6 × N6} (h : ¬ y = x) : wn2 σ x y p = wn2 σ y x (pyx p) := wrV_comm h
theorem aV_wn2 {σ : MS} {x y k : Nat} {p : N6 × N6} : aV (wn2 σ x y p) k = if k = y then vN (aV σ y) p.2 else if k = x then vN (aV σ x) p.1 else aV σ k := by
  unfold wn2
  rw [aV_wrV, aV_wrV]
theorem wn2_wn2 {σ : MS} {x y : Nat} {p q : N6 × N6} (h : ¬ y = x) : wn2 (wn2 σ x y p) x y q = wn2 σ x y q := by
  have e1 : aV (wn2 σ x y p) x = vN (aV σ x) p.1 := by rw [aV_wn2, if_neg (fun e => h e.symm), if_pos rfl]
  have e2 : aV (wn2 σ x y p) y = vN (aV σ y) p.2 := by rw [aV_wn2, if_pos rfl]
  show wrV (wrV (wn2 σ x y p) x (vN (aV (wn2 σ x y p) x) q.1)) y (vN (aV (wn2 σ x y p) y) q.2) = _
  rw [e1, e2]
  show wrV (wrV (wrV (wrV σ x (vN (aV σ x) p.1)) y (vN (aV σ y) p.2)) x (vN (aV σ x) q.1)) y (vN (aV σ y) q.2) = _
  rw [wrV_comm (i := y) (j := x) (fun e => h e.symm), wrV_same, wrV_same]
  rfl
theorem wn2_x {σ : MS} {x y : Nat} {n : N6} : wn2 σ x y (n, vn (aV σ y)) = wrV (wrV σ x (vN (aV σ x) n)) y (aV σ y) := rfl
theorem wrV_eta' {σ : MS} {i : Nat} {v : VL} (h : v = aV σ i) : wrV σ i v = σ := by rw [h, wrV_eta]
theorem wn2_l {σ : MS} {x y : Nat} {n : N6} (h : ¬ y = x) : wn2 σ x y (n, vn (aV σ y)) = wrV σ x (vN (aV σ x) n) := wrV_eta' (by rw [aV_ne h])
theorem wn2_r {σ : MS} {x y : Nat} {n : N6} : wn2 σ x y (vn (aV σ x), n) = wrV σ y (vN (aV σ y) n) := by
  show wrV (wrV σ x (aV σ x)) y _ = _
  rw [wrV_eta]
theorem wn2_0 {σ : MS} {x y : Nat} : wn2 σ x y (vn (aV σ x), vn (aV σ y)) = σ := by
  rw [wn2_r]
  exact wrV_eta
section NAR
variable {a b x y t : Int} {σ : MS}
set_option maxHeartbeats 1000000 in
theorem T464 (ha : inB a) (hb : inB b) (hne : ¬ a.toNat = b.toNat) (ht : t = 0 ∨ t = 1) : MM 464 [mR (some 80), mI a, mI b, mI t] σ = some (none, wn2 σ a.toNat b.toNat (lesN (vn (aV σ a.toNat)) (vn (aV σ b.toNat)) (decide (t = 1)))) := by
  rw [wn2_sw (fun e => hne e.symm)]
  rcases ht with rfl | rfl
  all_goals (simp only [M464, e464_0, e464_9, e464_49, e464_66, Option.getD_some, Option.bind_some, Option.toList_some, Option.toList_none, List.cons_append, List.nil_append, and_self, and_true, true_and, false_and, and_false, ite_self, not_true_eq_false, not_false_eq_true, reduceIte, Nat.reduceEqDiff, ab_I, ab_L, ab_R, ao_I, ao_L, ao_R, gL_sL, gI_sI, gR_sR, gI_sL, gI_sR, gL_sI, gL_sR, gR_sI, gR_sL, g_114, g_115, ha.1, ha.2, hb.1, hb.2, T440, T441, p114, p115, q114, q115, aV_same, aV_ne hne, oneI])
  all_goals rfl
set_option maxHeartbeats 1000000 in
theorem T465 (ha : inB a) (hb : inB b) (hne : ¬ a.toNat = b.toNat) (ht : t = 0 ∨ t = 1) : MM 465 [mR (some 80), mI a, mI b, mI t] σ = some (none, wn2 σ a.toNat b.toNat (lesS (vn (aV σ a.toNat)) (vn (aV σ b.toNat)) (decide (t = 1)))) := by
  rw [wn2_sw (fun e => hne e.symm)]
  unfold lesS smin smax
  rcases ht with rfl | rfl
  · by_cases c1 : (jC (vn (aV σ a.toNat)) + 0#64).toInt ≤ (jC (vn (aV σ b.toNat))).toInt <;> by_cases c2 : (jD (vn (aV σ a.toNat))).toInt ≤ (jD (vn (aV σ b.toNat)) - 0#64).toInt
    all_goals (simp only [M465, e465_0, e465_9, e465_61, e465_90, Option.getD_some, Option.bind_some, Option.toList_some, Option.toList_none, List.cons_append, List.nil_append, and_self, and_true, true_and, false_and, and_false, ite_self, not_true_eq_false, not_false_eq_true, reduceIte, Nat.reduceEqDiff, ab_I, ab_L, ab_R, ao_I, ao_L, ao_R, gL_sL, gI_sI, gR_sR, gI_sL, gI_sR, gL_sI, gL_sR, gR_sI, gR_sL, g_116, g_117, ha.1, ha.2, hb.1, hb.2, p116, p117, q116, q117, aV_same, aV_ne hne, c1, c2, Int.reduceEq, decide_true, decide_false, Bool.false_eq_true])
    all_goals rfl
  · by_cases c1 : (jC (vn (aV σ a.toNat)) + 1#64).toInt ≤ (jC (vn (aV σ b.toNat))).toInt <;> by_cases c2 : (jD (vn (aV σ a.toNat))).toInt ≤ (jD (vn (aV σ b.toNat)) - 1#64).toInt
    all_goals (simp only [M465, e465_0, e465_9, e465_61, e465_90, Option.getD_some, Option.bind_some, Option.toList_some, Option.toList_none, List.cons_append, List.nil_append, and_self, and_true, true_and, false_and, and_false, ite_self, not_true_eq_false, not_false_eq_true, reduceIte, Nat.reduceEqDiff, ab_I, ab_L, ab_R, ao_I, ao_L, ao_R, gL_sL, gI_sI, gR_sR, gI_sL, gI_sR, gL_sI, gL_sR, gR_sI, gR_sL, g_116, g_117, ha.1, ha.2, hb.1, hb.2, p116, p117, q116, q117, aV_same, aV_ne hne, c1, c2, oneI, decide_true, decide_false])
    all_goals rfl
set_option maxHeartbeats 2000000 in
theorem T466 (hx : inB x) (hy : inB y) (hne : ¬ x.toNat = y.toNat) : MM 466 [mR (some 80), mI x, mI y] σ = some (none, wn2 σ x.toNat y.toNat (bothN (vn (aV σ x.toNat)) (vn (aV σ y.toNat)), bothN (vn (aV σ x.toNat)) (vn (aV σ y.toNat)))) := by
  have hne' : ¬ y.toNat = x.toNat := fun e => hne e.symm
  unfold bothN smin smax
  by_cases c1 : (jC (vn (aV σ y.toNat))).toInt ≤ (jC (vn (aV σ x.toNat))).toInt <;> by_cases c2 : (jD (vn (aV σ x.toNat))).toInt ≤ (jD (vn (aV σ y.toNat))).toInt
  all_goals (simp only [M466, e466_0, e466_50, e466_71, e466_108, e466_145, e466_170, e466_206, Option.getD_some, Option.bind_some, Option.toList_some, Option.toList_none, List.cons_append, List.nil_append, and_self, and_true, true_and, false_and, and_false, ite_self, not_true_eq_false, not_false_eq_true, reduceIte, Nat.reduceEqDiff, ab_I, ab_L, ab_R, ao_I, ao_L, ao_R, gL_sL, gI_sI, gR_sR, gI_sL, gI_sR, gL_sI, gL_sR, gR_sI, gR_sL, g_112, g_113, g_114, g_115, g_116, g_117, hx.1, hx.2, hy.1, hy.2, T440, T441, p112, p113, p114, p115, p116, p117, q112, q113, q114, q115, q116, q117, aV_same, aV_ne hne, aV_ne hne', wrV_same, c1, c2])
  all_goals rfl
set_option maxHeartbeats 2000000 in
theorem T467 (hx : inB x) (hy : inB y) (hne : ¬ x.toNat = y.toNat) : MM 467 [mR (some 80), mI x, mI y] σ = some (none, wn2 σ x.toNat y.toNat (unlN (vn (aV σ x.toNat)) (vn (aV σ y.toNat)))) := by
  have hne' : ¬ y.toNat = x.toNat := fun e => hne e.symm
  have hi : ¬ y = x := fun e => hne (by rw [e])
  have l0 : (b2 True = b2 False) = False := eq_false (by decide)
  have l1 : (b2 False = b2 True) = False := eq_false (by decide)
  unfold unlN
  by_cases cx : isC (vn (aV σ x.toNat)) <;> by_cases cy : isC (vn (aV σ y.toNat))
  · rw [if_pos (show (isC (vn (aV σ x.toNat)) ↔ isC (vn (aV σ y.toNat))) from ⟨fun _ => cy, fun _ => cx⟩), wn2_0]
    simp only [M467, e467_0, e467_5, e467_10, e467_19, e467_27, e467_38, e467_70, e467_102, e467_134, e467_166, Option.getD_some, Option.bind_some, Option.toList_some, Option.toList_none, List.cons_append, List.nil_append, and_self, and_true, true_and, false_and, and_false, ite_self, not_true_eq_false, not_false_eq_true, reduceIte, Nat.reduceEqDiff, ab_I, ab_L, ab_R, ao_I, ao_L, ao_R, gL_sL, gI_sI, gR_sR, gI_sL, gI_sR, gL_sI, gL_sR, gR_sI, gR_sL, T439 hx.1 hx.2, T439 hy.1 hy.2, q113, eq_true cx, eq_true cy, show (jM (vn (aV σ x.toNat)) = 0#64) = True from eq_true cx, show (jM (vn (aV σ y.toNat)) = 0#64) = True from eq_true cy]
  · rw [if_neg (show ¬ (isC (vn (aV σ x.toNat)) ↔ isC (vn (aV σ y.toNat))) from fun q => cy (q.mp cx)), if_pos cx, wn2_r]
    unfold notN
    by_cases d1 : jA (vn (aV σ y.toNat)) = jV (vn (aV σ x.toNat)) <;> by_cases d2 : jB (vn (aV σ y.toNat)) = jV (vn (aV σ x.toNat)) <;> by_cases d3 : jC (vn (aV σ y.toNat)) = jV (vn (aV σ x.toNat)) <;> by_cases d4 : jD (vn (aV σ y.toNat)) = jV (vn (aV σ x.toNat))
    all_goals (simp only [M467, e467_0, e467_5, e467_10, e467_19, e467_27, e467_38, e467_70, e467_102, e467_134, e467_166, Option.getD_some, Option.bind_some, Option.toList_some, Option.toList_none, List.cons_append, List.nil_append, and_self, and_true, true_and, false_and, and_false, ite_self, not_true_eq_false, not_false_eq_true, reduceIte, Nat.reduceEqDiff, ab_I, ab_L, ab_R, ao_I, ao_L, ao_R, gL_sL, gI_sI, gR_sR, gI_sL, gI_sR, gL_sI, gL_sR, gR_sI, gR_sL, g_112, g_114, g_115, g_116, g_117, hx.1, hx.2, hy.1, hy.2, T439 hx.1 hx.2, T439 hy.1 hy.2, q112, q113, q114, q115, q116, q117, p114, p115, p116, p117, show (jM (vn (aV σ x.toNat)) = 0#64) = True from eq_true cx, show (jM (vn (aV σ y.toNat)) = 0#64) = False from eq_false cy, l0, l1, b2_0', hi, aV_same, aV_ne hne, wrV_same, d1, d2, d3, d4, BitVec.add_zero, BitVec.sub_zero])
    all_goals rfl
  · rw [if_neg (show ¬ (isC (vn (aV σ x.toNat)) ↔ isC (vn (aV σ y.toNat))) from fun q => cx (q.mpr cy)), if_neg cx, wn2_l hne']
    unfold notN
    by_cases d1 : jA (vn (aV σ x.toNat)) = jV (vn (aV σ y.toNat)) <;> by_cases d2 : jB (vn (aV σ x.toNat)) = jV (vn (aV σ y.toNat)) <;> by_cases d3 : jC (vn (aV σ x.toNat)) = jV (vn (aV σ y.toNat)) <;> by_cases d4 : jD (vn (aV σ x.toNat)) = jV (vn (aV σ y.toNat))
    all_goals (simp only [M467, e467_0, e467_5, e467_10, e467_19, e467_27, e467_38, e467_70, e467_102, e467_134, e467_166, Option.getD_some, Option.bind_some, Option.toList_some, Option.toList_none, List.cons_append, List.nil_append, and_self, and_true, true_and, false_and, and_false, ite_self, not_true_eq_false, not_false_eq_true, reduceIte, Nat.reduceEqDiff, ab_I, ab_L, ab_R, ao_I, ao_L, ao_R, gL_sL, gI_sI, gR_sR, gI_sL, gI_sR, gL_sI, gL_sR, gR_sI, gR_sL, g_112, g_114, g_115, g_116, g_117, hx.1, hx.2, hy.1, hy.2, T439 hx.1 hx.2, T439 hy.1 hy.2, q112, q113, q114, q115, q116, q117, p114, p115, p116, p117, show (jM (vn (aV σ x.toNat)) = 0#64) = False from eq_false cx, show (jM (vn (aV σ y.toNat)) = 0#64) = True from eq_true cy, l0, l1, b2_0', hi, aV_same, aV_ne hne', wrV_same, d1, d2, d3, d4, BitVec.add_zero, BitVec.sub_zero])
    all_goals rfl
  · rw [if_pos (show (isC (vn (aV σ x.toNat)) ↔ isC (vn (aV σ y.toNat))) from ⟨fun h => absurd h cx, fun h => absurd h cy⟩), wn2_0]
    simp only [M467, e467_0, e467_5, e467_10, e467_19, e467_27, e467_38, e467_70, e467_102, e467_134, e467_166, Option.getD_some, Option.bind_some, Option.toList_some, Option.toList_none, List.cons_append, List.nil_append, and_self, and_true, true_and, false_and, and_false, ite_self, not_true_eq_false, not_false_eq_true, reduceIte, Nat.reduceEqDiff, ab_I, ab_L, ab_R, ao_I, ao_L, ao_R, gL_sL, gI_sI, gR_sR, gI_sL, gI_sR, gL_sI, gL_sR, gR_sI, gR_sL, T439 hx.1 hx.2, T439 hy.1 hy.2, q113, show (jM (vn (aV σ x.toNat)) = 0#64) = False from eq_false cx, show (jM (vn (aV σ y.toNat)) = 0#64) = False from eq_false cy]
/-- the end of it: both are made tidy -/
theorem L463 {c i v : Int} {p : N6 × N6} (hx : inB x) (hy : inB y) (hne : ¬ x.toNat = y.toNat) : RR (lkB tb463) (B463_490, [some (mR (some 80)), some (mI c), some (mI i), some (mI x), some (mI y), some (mI v), none], [], wn2 σ x.toNat y.toNat p) = some (some (mI (@b2 (tdG p.1 ∧ tdG p.2) (Classical.propDecidable _))), wn2 σ x.toNat y.toNat (tdN p.1, tdN p.2)) := by
  have hne' : ¬ y.toNat = x.toNat := fun e => hne e.symm
  have e1 : aV (wn2 σ x.toNat y.toNat p) x.toNat = vN (aV σ x.toNat) p.1 := by rw [aV_wn2, if_neg hne, if_pos rfl]
  have e2 : ∀ u, aV (wrV (wn2 σ x.toNat y.toNat p) x.toNat u) y.toNat = vN (aV σ y.toNat) p.2 := fun u => by rw [aV_ne hne', aV_wn2, if_pos rfl]
  have e3 : wrV (wrV (wn2 σ x.toNat y.toNat p) x.toNat (vN (aV σ x.toNat) (tdN p.1))) y.toNat (vN (aV σ y.toNat) (tdN p.2)) = wn2 σ x.toNat y.toNat (tdN p.1, tdN p.2) := by
    show wrV (wrV (wrV (wrV σ x.toNat _) y.toNat _) x.toNat _) y.toNat _ = _
    rw [wrV_comm (i := y.toNat) (j := x.toNat) hne, wrV_same, wrV_same]
    rfl
  simp only [e463_490, e463_495, Option.getD_some, Option.bind_some, Option.toList_some, Option.toList_none, List.cons_append, List.nil_append, and_self, and_true, true_and, false_and, and_false, ite_self, not_true_eq_false, not_false_eq_true, reduceIte, Nat.reduceEqDiff, ab_I, ab_L, ab_R, ao_I, ao_L, ao_R, gL_sL, gI_sI, gR_sR, gI_sL, gI_sR, gL_sI, gL_sR, gR_sI, gR_sL, T443 hx.1 hx.2, T443 hy.1 hy.2, e1, e2]
  rw [e3]
  show RR _ (B463_503, _, [mI (tdB p.2)], _) = _
  rw [e463_503]
  unfold b2
  by_cases g1 : tdG p.1
  · have t1 : ¬ tdB p.1 = 0 := by rw [tdB_n]; exact g1
    by_cases g2 : tdG p.2
    · have t2 : ¬ tdB p.2 = 0 := by rw [tdB_n]; exact g2
      rw [if_neg t2, if_neg t1, if_pos ⟨g1, g2⟩]
    · have t2 : tdB p.2 = 0 := by rw [tdB_0]; exact g2
      rw [if_pos t2, if_neg (fun q => g2 q.2), e463_515]
  · have t1 : tdB p.1 = 0 := by rw [tdB_0]; exact g1
    rw [if_neg (show ¬ (tdG p.1 ∧ tdG p.2) from fun q => g1 q.1)]
    by_cases t2 : tdB p.2 = 0
    · rw [if_pos t2, e463_515]
    · rw [if_neg t2, if_pos t1, e463_515]
set_option maxHeartbeats 8000000 in
theorem T463 {c i : Int} (hc : isCmp c) (hi : i = 0 ∨ i = 1) (hx : inB x) (hy : inB y) (hne : ¬ x.toNat = y.toNat) : MM 463 [mR (some 80), mI c, mI i, mI x, mI y] σ = some (some (mI (@b2 (tdG (narN c (decide (i = 1)) (vn (aV σ x.toNat)) (vn (aV σ y.toNat))).1 ∧ tdG (narN c (decide (i = 1)) (vn (aV σ x.toNat)) (vn (aV σ y.toNat))).2) (Classical.propDecidable _))), wn2 σ x.toNat y.toNat (tdN (narN c (decide (i = 1)) (vn (aV σ x.toNat)) (vn (aV σ y.toNat))).1, tdN (narN c (decide (i = 1)) (vn (aV σ x.toNat)) (vn (aV σ y.toNat))).2)) := by
  have hne' : ¬ y.toNat = x.toNat := fun e => hne e.symm
  have key : ∃ v : Int, MM 463 [mR (some 80), mI c, mI i, mI x, mI y] σ = RR (lkB tb463) (B463_490, [some (mR (some 80)), some (mI c), some (mI i), some (mI x), some (mI y), some (mI v), none], [], wn2 σ x.toNat y.toNat (narN c (decide (i = 1)) (vn (aV σ x.toNat)) (vn (aV σ y.toNat)))) := by
    refine ⟨b2 (gL σ 113 y.toNat = 0#64), ?_⟩
    have sw : ∀ p, wn2 σ y.toNat x.toNat p = wn2 σ x.toNat y.toNat (pyx p) := fun p => wn2_sw hne
    simp only [M463, e463_0, Option.getD_some, Option.bind_some, Option.toList_some, Option.toList_none, List.cons_append, List.nil_append, and_self, and_true, true_and, false_and, and_false, ite_self, not_true_eq_false, not_false_eq_true, reduceIte, Nat.reduceEqDiff, ab_I, ab_L, ab_R, ao_I, ao_L, ao_R, gL_sL, gI_sI, gR_sR, gI_sL, gI_sR, gL_sI, gL_sR, gR_sI, gR_sL, T439 hy.1 hy.2]
    rcases hc with rfl | rfl | rfl | rfl | rfl | rfl | rfl | rfl | rfl | rfl | rfl
    -- 16
    · rcases hi with rfl | rfl
      · simp only [e463_0, e463_6, e463_111, e463_122, e463_132, e463_205, e463_248, e463_258, e463_262, e463_276, e463_286, e463_295, e463_298, e463_312, e463_322, e463_326, e463_340, e463_350, e463_359, e463_362, e463_376, e463_386, e463_390, e463_404, e463_414, e463_423, e463_426, e463_440, e463_450, e463_454, e463_468, e463_478, e463_487, e463_490, e463_495, e463_503, e463_515, Option.getD_some, Option.bind_some, Option.toList_some, Option.toList_none, List.cons_append, List.nil_append, and_self, and_true, true_and, false_and, and_false, ite_self, not_true_eq_false, not_false_eq_true, reduceIte, Nat.reduceEqDiff, ab_I, ab_L, ab_R, ao_I, ao_L, ao_R, gL_sL, gI_sI, gR_sR, gI_sL, gI_sR, gL_sI, gL_sR, gR_sI, gR_sL, Int.reduceEq, T467 hx hy hne]
        rfl
      · simp only [e463_0, e463_6, e463_111, e463_122, e463_132, e463_205, e463_248, e463_258, e463_262, e463_276, e463_286, e463_295, e463_298, e463_312, e463_322, e463_326, e463_340, e463_350, e463_359, e463_362, e463_376, e463_386, e463_390, e463_404, e463_414, e463_423, e463_426, e463_440, e463_450, e463_454, e463_468, e463_478, e463_487, e463_490, e463_495, e463_503, e463_515, Option.getD_some, Option.bind_some, Option.toList_some, Option.toList_none, List.cons_append, List.nil_append, and_self, and_true, true_and, false_and, and_false, ite_self, not_true_eq_false, not_false_eq_true, reduceIte, Nat.reduceEqDiff, ab_I, ab_L, ab_R, ao_I, ao_L, ao_R, gL_sL, gI_sI, gR_sR, gI_sL, gI_sR, gL_sI, gL_sR, gR_sI, gR_sL, Int.reduceEq, T466 hx hy hne]
        rfl
    -- 32
    · rcases hi with rfl | rfl
      · simp only [e463_6, e463_248, e463_258, e463_262, Option.getD_some, Option.bind_some, Option.toList_some, Option.toList_none, List.cons_append, List.nil_append, and_self, and_true, true_and, false_and, and_false, ite_self, not_true_eq_false, not_false_eq_true, reduceIte, Nat.reduceEqDiff, ab_I, ab_L, ab_R, ao_I, ao_L, ao_R, gL_sL, gI_sI, gR_sR, gI_sL, gI_sR, gL_sI, gL_sR, gR_sI, gR_sL, Int.reduceEq, T464 hx hy hne (Or.inl rfl)]
        rfl
      · simp only [e463_6, e463_248, e463_258, e463_262, Option.getD_some, Option.bind_some, Option.toList_some, Option.toList_none, List.cons_append, List.nil_append, and_self, and_true, true_and, false_and, and_false, ite_self, not_true_eq_false, not_false_eq_true, reduceIte, Nat.reduceEqDiff, ab_I, ab_L, ab_R, ao_I, ao_L, ao_R, gL_sL, gI_sI, gR_sR, gI_sL, gI_sR, gL_sI, gL_sR, gR_sI, gR_sL, Int.reduceEq, T464 hy hx hne' (Or.inr rfl), sw]
        rfl
    -- 48
    · rcases hi with rfl | rfl
      · simp only [e463_6, e463_276, e463_286, e463_295, e463_298, Option.getD_some, Option.bind_some, Option.toList_some, Option.toList_none, List.cons_append, List.nil_append, and_self, and_true, true_and, false_and, and_false, ite_self, not_true_eq_false, not_false_eq_true, reduceIte, Nat.reduceEqDiff, ab_I, ab_L, ab_R, ao_I, ao_L, ao_R, gL_sL, gI_sI, gR_sR, gI_sL, gI_sR, gL_sI, gL_sR, gR_sI, gR_sL, Int.reduceEq, T464 hx hy hne (Or.inr rfl)]
        rfl
      · simp only [e463_6, e463_276, e463_286, e463_295, e463_298, Option.getD_some, Option.bind_some, Option.toList_some, Option.toList_none, List.cons_append, List.nil_append, and_self, and_true, true_and, false_and, and_false, ite_self, not_true_eq_false, not_false_eq_true, reduceIte, Nat.reduceEqDiff, ab_I, ab_L, ab_R, ao_I, ao_L, ao_R, gL_sL, gI_sI, gR_sR, gI_sL, gI_sR, gL_sI, gL_sR, gR_sI, gR_sL, Int.reduceEq, T464 hy hx hne' (Or.inl rfl), sw]
        rfl
    -- 64
    · have hn : ∀ b, narN 64 b (vn (aV σ x.toNat)) (vn (aV σ y.toNat)) = (if isC (vn (aV σ y.toNat)) ∧ b = true ∧ jV (vn (aV σ y.toNat)) &&& (jV (vn (aV σ y.toNat)) - 1#64) = 0#64 then ((jV (vn (aV σ x.toNat)) ||| jV (vn (aV σ y.toNat)), jM (vn (aV σ x.toNat)) &&& ~~~ jV (vn (aV σ y.toNat)), jA (vn (aV σ x.toNat)), jB (vn (aV σ x.toNat)), jC (vn (aV σ x.toNat)), jD (vn (aV σ x.toNat))), vn (aV σ y.toNat)) else if isC (vn (aV σ y.toNat)) ∧ b = false then ((jV (vn (aV σ x.toNat)), jM (vn (aV σ x.toNat)) &&& ~~~ jV (vn (aV σ y.toNat)), jA (vn (aV σ x.toNat)), jB (vn (aV σ x.toNat)), jC (vn (aV σ x.toNat)), jD (vn (aV σ x.toNat))), vn (aV σ y.toNat)) else (vn (aV σ x.toNat), vn (aV σ y.toNat))) := fun b => rfl
      have t0' : decide ((0 : Int) = 1) = false := rfl
      have t1' : decide ((1 : Int) = 1) = true := rfl
      rw [hn]
      by_cases cy : gL σ 113 y.toNat = 0#64
      · have cy' : isC (vn (aV σ y.toNat)) := cy
        have hb : b2 (gL σ 113 y.toNat = 0#64) = 1 := by
          unfold b2
          exact if_pos cy
        rw [hb]
        rcases hi with rfl | rfl
        · rw [if_neg (fun q => by cases q.2.1), if_pos ⟨cy', t0'⟩, wn2_l hne']
          simp only [e463_6, e463_205, Option.getD_some, Option.bind_some, Option.toList_some, Option.toList_none, List.cons_append, List.nil_append, and_self, and_true, true_and, false_and, and_false, ite_self, not_true_eq_false, not_false_eq_true, reduceIte, Nat.reduceEqDiff, ab_I, ab_L, ab_R, ao_I, ao_L, ao_R, gL_sL, gI_sI, gR_sR, gI_sL, gI_sR, gL_sI, gL_sR, gR_sI, gR_sL, g_112, g_113, Int.reduceEq, hx.1, hx.2, hy.1, hy.2, oneI, q112, q113, p112, p113, aV_same, aV_ne hne', wrV_same, iL_m1, xor_all]
        · by_cases d : jV (vn (aV σ y.toNat)) &&& (jV (vn (aV σ y.toNat)) - 1#64) = 0#64
          · rw [if_pos ⟨cy', t1', d⟩, wn2_l hne']
            simp only [e463_6, e463_205, Option.getD_some, Option.bind_some, Option.toList_some, Option.toList_none, List.cons_append, List.nil_append, and_self, and_true, true_and, false_and, and_false, ite_self, not_true_eq_false, not_false_eq_true, reduceIte, Nat.reduceEqDiff, ab_I, ab_L, ab_R, ao_I, ao_L, ao_R, gL_sL, gI_sI, gR_sR, gI_sL, gI_sR, gL_sI, gL_sR, gR_sI, gR_sL, g_112, g_113, Int.reduceEq, hx.1, hx.2, hy.1, hy.2, oneI, q112, q113, eq_true d, p112, p113, aV_same, aV_ne hne', wrV_same, iL_m1, xor_all]
          · rw [if_neg (fun q => d q.2.2), if_neg (fun q => by cases q.2), wn2_0]
            simp only [e463_6, e463_205, Option.getD_some, Option.bind_some, Option.toList_some, Option.toList_none, List.cons_append, List.nil_append, and_self, and_true, true_and, false_and, and_false, ite_self, not_true_eq_false, not_false_eq_true, reduceIte, Nat.reduceEqDiff, ab_I, ab_L, ab_R, ao_I, ao_L, ao_R, gL_sL, gI_sI, gR_sR, gI_sL, gI_sR, gL_sI, gL_sR, gR_sI, gR_sL, g_112, g_113, Int.reduceEq, hx.1, hx.2, hy.1, hy.2, oneI, q112, q113, d]
      · have cy' : ¬ isC (vn (aV σ y.toNat)) := cy
        have hb : b2 (gL σ 113 y.toNat = 0#64) = 0 := by
          unfold b2
          exact if_neg cy
        rw [hb]
        rw [if_neg (fun q => cy' q.1), if_neg (fun q => cy' q.1), wn2_0]
        simp only [e463_6, e463_205, Option.getD_some, Option.bind_some, Option.toList_some, Option.toList_none, List.cons_append, List.nil_append, and_self, and_true, true_and, false_and, and_false, ite_self, not_true_eq_false, not_false_eq_true, reduceIte, Nat.reduceEqDiff, ab_I, ab_L, ab_R, ao_I, ao_L, ao_R, gL_sL, gI_sI, gR_sR, gI_sL, gI_sR, gL_sI, gL_sR, gR_sI, gR_sL, g_112, g_113, Int.reduceEq, hx.1, hx.2, hy.1, hy.2]
    -- 80
    · rcases hi with rfl | rfl
      · simp only [e463_6, e463_111, e463_122, e463_132, Option.getD_some, Option.bind_some, Option.toList_some, Option.toList_none, List.cons_append, List.nil_append, and_self, and_true, true_and, false_and, and_false, ite_self, not_true_eq_false, not_false_eq_true, reduceIte, Nat.reduceEqDiff, ab_I, ab_L, ab_R, ao_I, ao_L, ao_R, gL_sL, gI_sI, gR_sR, gI_sL, gI_sR, gL_sI, gL_sR, gR_sI, gR_sL, Int.reduceEq, T466 hx hy hne]
        rfl
      · simp only [e463_6, e463_111, e463_122, e463_132, Option.getD_some, Option.bind_some, Option.toList_some, Option.toList_none, List.cons_append, List.nil_append, and_self, and_true, true_and, false_and, and_false, ite_self, not_true_eq_false, not_false_eq_true, reduceIte, Nat.reduceEqDiff, ab_I, ab_L, ab_R, ao_I, ao_L, ao_R, gL_sL, gI_sI, gR_sR, gI_sL, gI_sR, gL_sI, gL_sR, gR_sI, gR_sL, Int.reduceEq, T467 hx hy hne]
        rfl
    -- 96
    · rcases hi with rfl | rfl
      · simp only [e463_6, e463_376, e463_386, e463_390, Option.getD_some, Option.bind_some, Option.toList_some, Option.toList_none, List.cons_append, List.nil_append, and_self, and_true, true_and, false_and, and_false, ite_self, not_true_eq_false, not_false_eq_true, reduceIte, Nat.reduceEqDiff, ab_I, ab_L, ab_R, ao_I, ao_L, ao_R, gL_sL, gI_sI, gR_sR, gI_sL, gI_sR, gL_sI, gL_sR, gR_sI, gR_sL, Int.reduceEq, T465 hx hy hne (Or.inl rfl)]
        rfl
      · simp only [e463_6, e463_376, e463_386, e463_390, Option.getD_some, Option.bind_some, Option.toList_some, Option.toList_none, List.cons_append, List.nil_append, and_self, and_true, true_and, false_and, and_false, ite_self, not_true_eq_false, not_false_eq_true, reduceIte, Nat.reduceEqDiff, ab_I, ab_L, ab_R, ao_I, ao_L, ao_R, gL_sL, gI_sI, gR_sR, gI_sL, gI_sR, gL_sI, gL_sR, gR_sI, gR_sL, Int.reduceEq, T465 hy hx hne' (Or.inr rfl), sw]
        rfl
    -- 112
    · rcases hi with rfl | rfl
      · simp only [e463_6, e463_404, e463_414, e463_423, e463_426, Option.getD_some, Option.bind_some, Option.toList_some, Option.toList_none, List.cons_append, List.nil_append, and_self, and_true, true_and, false_and, and_false, ite_self, not_true_eq_false, not_false_eq_true, reduceIte, Nat.reduceEqDiff, ab_I, ab_L, ab_R, ao_I, ao_L, ao_R, gL_sL, gI_sI, gR_sR, gI_sL, gI_sR, gL_sI, gL_sR, gR_sI, gR_sL, Int.reduceEq, T465 hx hy hne (Or.inr rfl)]
        rfl
      · simp only [e463_6, e463_404, e463_414, e463_423, e463_426, Option.getD_some, Option.bind_some, Option.toList_some, Option.toList_none, List.cons_append, List.nil_append, and_self, and_true, true_and, false_and, and_false, ite_self, not_true_eq_false, not_false_eq_true, reduceIte, Nat.reduceEqDiff, ab_I, ab_L, ab_R, ao_I, ao_L, ao_R, gL_sL, gI_sI, gR_sR, gI_sL, gI_sR, gL_sI, gL_sR, gR_sI, gR_sL, Int.reduceEq, T465 hy hx hne' (Or.inl rfl), sw]
        rfl
    -- 160
    · rcases hi with rfl | rfl
      · simp only [e463_6, e463_312, e463_322, e463_326, Option.getD_some, Option.bind_some, Option.toList_some, Option.toList_none, List.cons_append, List.nil_append, and_self, and_true, true_and, false_and, and_false, ite_self, not_true_eq_false, not_false_eq_true, reduceIte, Nat.reduceEqDiff, ab_I, ab_L, ab_R, ao_I, ao_L, ao_R, gL_sL, gI_sI, gR_sR, gI_sL, gI_sR, gL_sI, gL_sR, gR_sI, gR_sL, Int.reduceEq, T464 hy hx hne' (Or.inl rfl), sw]
        rfl
      · simp only [e463_6, e463_312, e463_322, e463_326, Option.getD_some, Option.bind_some, Option.toList_some, Option.toList_none, List.cons_append, List.nil_append, and_self, and_true, true_and, false_and, and_false, ite_self, not_true_eq_false, not_false_eq_true, reduceIte, Nat.reduceEqDiff, ab_I, ab_L, ab_R, ao_I, ao_L, ao_R, gL_sL, gI_sI, gR_sR, gI_sL, gI_sR, gL_sI, gL_sR, gR_sI, gR_sL, Int.reduceEq, T464 hx hy hne (Or.inr rfl)]
        rfl
    -- 176
    · rcases hi with rfl | rfl
      · simp only [e463_6, e463_340, e463_350, e463_359, e463_362, Option.getD_some, Option.bind_some, Option.toList_some, Option.toList_none, List.cons_append, List.nil_append, and_self, and_true, true_and, false_and, and_false, ite_self, not_true_eq_false, not_false_eq_true, reduceIte, Nat.reduceEqDiff, ab_I, ab_L, ab_R, ao_I, ao_L, ao_R, gL_sL, gI_sI, gR_sR, gI_sL, gI_sR, gL_sI, gL_sR, gR_sI, gR_sL, Int.reduceEq, T464 hy hx hne' (Or.inr rfl), sw]
        rfl
      · simp only [e463_6, e463_340, e463_350, e463_359, e463_362, Option.getD_some, Option.bind_some, Option.toList_some, Option.toList_none, List.cons_append, List.nil_append, and_self, and_true, true_and, false_and, and_false, ite_self, not_true_eq_false, not_false_eq_true, reduceIte, Nat.reduceEqDiff, ab_I, ab_L, ab_R, ao_I, ao_L, ao_R, gL_sL, gI_sI, gR_sR, gI_sL, gI_sR, gL_sI, gL_sR, gR_sI, gR_sL, Int.reduceEq, T464 hx hy hne (Or.inl rfl)]
        rfl
    -- 192
    · rcases hi with rfl | rfl
      · simp only [e463_6, e463_440, e463_450, e463_454, Option.getD_some, Option.bind_some, Option.toList_some, Option.toList_none, List.cons_append, List.nil_append, and_self, and_true, true_and, false_and, and_false, ite_self, not_true_eq_false, not_false_eq_true, reduceIte, Nat.reduceEqDiff, ab_I, ab_L, ab_R, ao_I, ao_L, ao_R, gL_sL, gI_sI, gR_sR, gI_sL, gI_sR, gL_sI, gL_sR, gR_sI, gR_sL, Int.reduceEq, T465 hy hx hne' (Or.inl rfl), sw]
        rfl
      · simp only [e463_6, e463_440, e463_450, e463_454, Option.getD_some, Option.bind_some, Option.toList_some, Option.toList_none, List.cons_append, List.nil_append, and_self, and_true, true_and, false_and, and_false, ite_self, not_true_eq_false, not_false_eq_true, reduceIte, Nat.reduceEqDiff, ab_I, ab_L, ab_R, ao_I, ao_L, ao_R, gL_sL, gI_sI, gR_sR, gI_sL, gI_sR, gL_sI, gL_sR, gR_sI, gR_sL, Int.reduceEq, T465 hx hy hne (Or.inr rfl)]
        rfl
    -- 208
    · rcases hi with rfl | rfl
      · simp only [e463_6, e463_468, e463_478, e463_487, Option.getD_some, Option.bind_some, Option.toList_some, Option.toList_none, List.cons_append, List.nil_append, and_self, and_true, true_and, false_and, and_false, ite_self, not_true_eq_false, not_false_eq_true, reduceIte, Nat.reduceEqDiff, ab_I, ab_L, ab_R, ao_I, ao_L, ao_R, gL_sL, gI_sI, gR_sR, gI_sL, gI_sR, gL_sI, gL_sR, gR_sI, gR_sL, Int.reduceEq, T465 hy hx hne' (Or.inr rfl), sw]
        rfl
      · simp only [e463_6, e463_468, e463_478, e463_487, Option.getD_some, Option.bind_some, Option.toList_some, Option.toList_none, List.cons_append, List.nil_append, and_self, and_true, true_and, false_and, and_false, ite_self, not_true_eq_false, not_false_eq_true, reduceIte, Nat.reduceEqDiff, ab_I, ab_L, ab_R, ao_I, ao_L, ao_R, gL_sL, gI_sI, gR_sR, gI_sL, gI_sR, gL_sI, gL_sR, gR_sI, gR_sL, Int.reduceEq, T465 hx hy hne (Or.inl rfl)]
        rfl
  obtain ⟨v, e⟩ := key
  rw [e, L463 hx hy hne]
end NAR
-- FILE 30.jleaf
/-! ===== the reference's judge: what its small methods do ===== -/
/-- the fault is told: the first one stays -/
def flt (σ : MS) (c : Int) : MS := sI σ 80 90 (fst (gI σ 80 90) c)
theorem flt_0 (σ : MS) : flt σ 0 = σ := by
  unfold flt fst
  split
  · rename_i e; rw [← e]; exact sI_eta _ _ _
  · exact sI_eta _ _ _
theorem ite_flt {c : Prop} {d : Decidable c} {σ : MS} {a b : Int} : (@ite MS c d (flt σ a) (flt σ b)) = flt σ (@ite _ c d a b) := by
  split <;> rfl
theorem flt_flt (σ : MS) (a b : Int) : flt (flt σ a) b = flt σ (fst a b) := by
  unfold flt fst
  rw [sI_same]
  simp only [gI_sI, and_self, if_true]
  by_cases h : gI σ 80 90 = 0
  · rw [if_pos h]
    by_cases ha : a = 0
    · rw [if_pos ha, if_pos ha, if_pos h]
    · rw [if_neg ha, if_neg ha, if_pos h]
  · rw [if_neg h, if_neg h, if_neg h]
theorem aV_flt {σ : MS} {c : Int} {i : Nat} : aV (flt σ c) i = aV σ i := aV_sI (by omega)
theorem T473 {c : Int} {σ : MS} : MM 473 [mR (some 80), mI c] σ = some (none, flt σ c) := by
  rw [M473]
  try simp only [e473_0, Option.getD_some, Option.bind_some, Option.toList_some, Option.toList_none, List.cons_append, List.nil_append, and_self, and_true, true_and, false_and, and_false, ite_self, not_true_eq_false, not_false_eq_true, reduceIte, Nat.reduceEqDiff, ab_I, ab_L, ab_R, ao_I, ao_L, ao_R, gL_sL, gI_sI, gR_sR, gI_sL, gI_sR, gL_sI, gL_sR, gR_sI, gR_sL]
  try simp only [mrgI, mrgL, mrg0, rtI, rtL, ite_self]
  unfold flt fst
  try (split <;> rfl)
theorem T430 {x y : Int} {σ : MS} (hx : inB x) (hy : inB y) (hk : -128 ≤ vk (aV σ x.toNat) ∧ vk (aV σ x.toNat) < 128) : MM 430 [mR (some 80), mI x, mI y] σ = some (none, wrV σ y.toNat (aV σ x.toNat)) := by
  have hw : w8 (gI σ 118 x.toNat) = gI σ 118 x.toNat := w8_i hk.1 hk.2
  simp only [M430, e430_0, e430_36, e430_72, e430_108, Option.getD_some, Option.bind_some, Option.toList_some, Option.toList_none, List.cons_append, List.nil_append, and_self, and_true, true_and, false_and, and_false, ite_self, not_true_eq_false, not_false_eq_true, reduceIte, Nat.reduceEqDiff, ab_I, ab_L, ab_R, ao_I, ao_L, ao_R, gL_sL, gI_sI, gR_sR, gI_sL, gI_sR, gL_sI, gL_sR, gR_sI, gR_sL, g_112, g_113, g_114, g_115, g_116, g_117, g_118, g_119, g_120, g_121, g_122, hx.1, hx.2, hy.1, hy.2, hw]
  rfl
theorem T431 {x k w t : Int} {σ : MS} (hx : inB x) (hk : 0 ≤ k ∧ k ≤ 10) : MM 431 [mR (some 80), mI x, mI k, mI w, mI t] σ = some (none, wrV σ x.toNat (mkV k w t)) := by
  have hw : w8 k = k := w8_i (by omega) (by omega)
  simp only [M431, e431_0, e431_6, e431_29, Option.getD_some, Option.bind_some, Option.toList_some, Option.toList_none, List.cons_append, List.nil_append, and_self, and_true, true_and, false_and, and_false, ite_self, not_true_eq_false, not_false_eq_true, reduceIte, Nat.reduceEqDiff, ab_I, ab_L, ab_R, ao_I, ao_L, ao_R, gL_sL, gI_sI, gR_sR, gI_sL, gI_sR, gL_sI, gL_sR, gR_sI, gR_sL, g_118, g_120, g_121, T433 hx.1 hx.2, hx.1, hx.2, hw, ab_wrV, p118, p120, p121, aV_same, wrV_same]
  rfl
/-- where register r of the uppermost frame is -/
def plc (F : Int) (r : Int) : Nat := if r = 10 then 32663 else (26 * (F - 1) + r).toNat
/-- r10 is made anew -/
def mk10 (σ : MS) (r : Int) : MS := if r = 10 then wrV σ 32663 (mkV 3 (gI σ 123 0 - 1) 0) else σ
theorem T492 {r : Int} {σ : MS} (hr : 0 ≤ r ∧ r ≤ 10) (hF : 1 ≤ gI σ 123 0 ∧ gI σ 123 0 ≤ 4) : MM 492 [mR (some 80), mI r] σ = some (some (mI (plc (gI σ 123 0) r)), mk10 σ r) := by
  unfold plc mk10
  by_cases c : r = 10
  · subst c
    simp only [M492, e492_0, e492_23, Option.getD_some, Option.bind_some, Option.toList_some, Option.toList_none, List.cons_append, List.nil_append, and_self, and_true, true_and, false_and, and_false, ite_self, not_true_eq_false, not_false_eq_true, reduceIte, Nat.reduceEqDiff, ab_I, ab_L, ab_R, ao_I, ao_L, ao_R, gL_sL, gI_sI, gR_sR, gI_sL, gI_sR, gL_sI, gL_sR, gR_sI, gR_sL, g_123, T431 (σ := σ) (show inB 32663 by decide) (show (0 : Int) ≤ 3 ∧ (3 : Int) ≤ 10 by decide), w32_i (show -2147483648 ≤ gI σ 123 0 - 1 by omega) (show gI σ 123 0 - 1 < 2147483648 by omega)]
    rfl
  · simp only [M492, e492_0, e492_23, Option.getD_some, Option.bind_some, Option.toList_some, Option.toList_none, List.cons_append, List.nil_append, and_self, and_true, true_and, false_and, and_false, ite_self, not_true_eq_false, not_false_eq_true, reduceIte, Nat.reduceEqDiff, ab_I, ab_L, ab_R, ao_I, ao_L, ao_R, gL_sL, gI_sI, gR_sR, gI_sL, gI_sR, gL_sI, gL_sR, gR_sI, gR_sL, g_123, c, w32_i (show -2147483648 ≤ gI σ 123 0 - 1 by omega) (show gI σ 123 0 - 1 < 2147483648 by omega), w32_i (show -2147483648 ≤ 26 * (gI σ 123 0 - 1) by omega) (show 26 * (gI σ 123 0 - 1) < 2147483648 by omega), w32_i (show -2147483648 ≤ 26 * (gI σ 123 0 - 1) + r by omega) (show 26 * (gI σ 123 0 - 1) + r < 2147483648 by omega)]
    simp only [Int.toNat_of_nonneg (show 0 ≤ 26 * (gI σ 123 0 - 1) + r by omega)]
theorem T493 {x : Int} {σ : MS} (hx : inB x) : MM 493 [mR (some 80), mI x] σ = some (some (mI (b2 (isMb (aV σ x.toNat)))), σ) := by
  rw [M493]
  try simp only [e493_0, Option.getD_some, Option.bind_some, Option.toList_some, Option.toList_none, List.cons_append, List.nil_append, and_self, and_true, true_and, false_and, and_false, ite_self, not_true_eq_false, not_false_eq_true, reduceIte, Nat.reduceEqDiff, ab_I, ab_L, ab_R, ao_I, ao_L, ao_R, gL_sL, gI_sI, gR_sR, gI_sL, gI_sR, gL_sI, gL_sR, gR_sI, gR_sL, g_118, hx.1, hx.2]
  try simp only [mrgI, mrgL, mrg0, rtI, rtL, ite_self]
  try simp only [e493_22, Option.getD_some, Option.bind_some, Option.toList_some, Option.toList_none, List.cons_append, List.nil_append, and_self, and_true, true_and, false_and, and_false, ite_self, not_true_eq_false, not_false_eq_true, reduceIte, Nat.reduceEqDiff, ab_I, ab_L, ab_R, ao_I, ao_L, ao_R, gL_sL, gI_sI, gR_sR, gI_sL, gI_sR, gL_sI, gL_sR, gR_sI, gR_sL, g_118, hx.1, hx.2]
  try simp only [mrgI, mrgL, mrg0, rtI, rtL, ite_self]
  unfold b2 isMb
  simp only [q118]
  repeat' split
  all_goals first | rfl | (exfalso; omega)
theorem T494 {x : Int} {σ : MS} (hx : inB x) : MM 494 [mR (some 80), mI x] σ = some (none, flt σ (wntS (aV σ x.toNat))) := by
  unfold wntS
  simp only [← q118]
  by_cases c : gI σ 118 x.toNat = 0
  · simp only [M494, e494_0, e494_14, Option.getD_some, Option.bind_some, Option.toList_some, Option.toList_none, List.cons_append, List.nil_append, and_self, and_true, true_and, false_and, and_false, ite_self, not_true_eq_false, not_false_eq_true, reduceIte, Nat.reduceEqDiff, ab_I, ab_L, ab_R, ao_I, ao_L, ao_R, gL_sL, gI_sI, gR_sR, gI_sL, gI_sR, gL_sI, gL_sR, gR_sI, gR_sL, g_118, hx.1, hx.2, c, T473]
  · simp only [M494, e494_0, e494_14, Option.getD_some, Option.bind_some, Option.toList_some, Option.toList_none, List.cons_append, List.nil_append, and_self, and_true, true_and, false_and, and_false, ite_self, not_true_eq_false, not_false_eq_true, reduceIte, Nat.reduceEqDiff, ab_I, ab_L, ab_R, ao_I, ao_L, ao_R, gL_sL, gI_sI, gR_sR, gI_sL, gI_sR, gL_sI, gL_sR, gR_sI, gR_sL, g_118, hx.1, hx.2, c, T473]
    simp [flt_0, c]
theorem T497 {x y : Int} {σ : MS} (hx : inB x) (hy : inB y) : MM 497 [mR (some 80), mI x, mI y] σ = some (none, flt σ (wntN (aV σ x.toNat) (aV σ y.toNat))) := by
  unfold wntN
  by_cases c1 : isMb (aV σ x.toNat)
  · simp only [M497, e497_0, e497_5, e497_13, e497_16, e497_22, e497_45, e497_50, Option.getD_some, Option.bind_some, Option.toList_some, Option.toList_none, List.cons_append, List.nil_append, and_self, and_true, true_and, false_and, and_false, ite_self, not_true_eq_false, not_false_eq_true, reduceIte, Nat.reduceEqDiff, ab_I, ab_L, ab_R, ao_I, ao_L, ao_R, gL_sL, gI_sI, gR_sR, gI_sL, gI_sR, gL_sI, gL_sR, gR_sI, gR_sL, g_118, hx.1, hx.2, hy.1, hy.2, T493 hx, T493 hy, b2_0', b2_n', c1, T473]
    simp [c1]
  · by_cases c2 : isMb (aV σ y.toNat)
    · simp only [M497, e497_0, e497_5, e497_13, e497_16, e497_22, e497_45, e497_50, Option.getD_some, Option.bind_some, Option.toList_some, Option.toList_none, List.cons_append, List.nil_append, and_self, and_true, true_and, false_and, and_false, ite_self, not_true_eq_false, not_false_eq_true, reduceIte, Nat.reduceEqDiff, ab_I, ab_L, ab_R, ao_I, ao_L, ao_R, gL_sL, gI_sI, gR_sR, gI_sL, gI_sR, gL_sI, gL_sR, gR_sI, gR_sL, g_118, hx.1, hx.2, hy.1, hy.2, T493 hx, T493 hy, b2_0', b2_n', c1, c2, T473]
      simp [c1, c2]
    · simp only [← q118]
      by_cases c3 : gI σ 118 x.toNat = 1 <;> by_cases c4 : gI σ 118 y.toNat = 1
      all_goals (simp only [M497, e497_0, e497_5, e497_13, e497_16, e497_22, e497_45, e497_50, Option.getD_some, Option.bind_some, Option.toList_some, Option.toList_none, List.cons_append, List.nil_append, and_self, and_true, true_and, false_and, and_false, ite_self, not_true_eq_false, not_false_eq_true, reduceIte, Nat.reduceEqDiff, ab_I, ab_L, ab_R, ao_I, ao_L, ao_R, gL_sL, gI_sI, gR_sR, gI_sL, gI_sR, gL_sI, gL_sR, gR_sI, gR_sL, g_118, hx.1, hx.2, hy.1, hy.2, T493 hx, T493 hy, b2_0', b2_n', c1, c2, c3, c4, T473]; simp [c1, c2, c3, c4, flt_0])
theorem T498 {x : Int} {σ : MS} (hx : inB x) : MM 498 [mR (some 80), mI x] σ = some (some (mI (b2 (mvs (aV σ x.toNat)))), σ) := by
  rw [M498]
  try simp only [e498_0, Option.getD_some, Option.bind_some, Option.toList_some, Option.toList_none, List.cons_append, List.nil_append, and_self, and_true, true_and, false_and, and_false, ite_self, not_true_eq_false, not_false_eq_true, reduceIte, Nat.reduceEqDiff, ab_I, ab_L, ab_R, ao_I, ao_L, ao_R, gL_sL, gI_sI, gR_sR, gI_sL, gI_sR, gL_sI, gL_sR, gR_sI, gR_sL, g_118, hx.1, hx.2]
  try simp only [mrgI, mrgL, mrg0, rtI, rtL, ite_self]
  try simp only [e498_42, Option.getD_some, Option.bind_some, Option.toList_some, Option.toList_none, List.cons_append, List.nil_append, and_self, and_true, true_and, false_and, and_false, ite_self, not_true_eq_false, not_false_eq_true, reduceIte, Nat.reduceEqDiff, ab_I, ab_L, ab_R, ao_I, ao_L, ao_R, gL_sL, gI_sI, gR_sR, gI_sL, gI_sR, gL_sI, gL_sR, gR_sI, gR_sL, g_118, hx.1, hx.2]
  try simp only [mrgI, mrgL, mrg0, rtI, rtL, ite_self]
  unfold b2 mvs
  simp only [q118]
  repeat' split
  all_goals first | rfl | (exfalso; omega)
theorem T510 {x : Int} {σ : MS} (hx : inB x) : MM 510 [mR (some 80), mI x] σ = some (some (mI (b2 (fst (gI σ 80 90) (plcF (aV σ x.toNat)) = 0))), flt σ (plcF (aV σ x.toNat))) := by
  unfold plcF
  have bl0 : ∀ p : Prop, ∀ d : Decidable p, (if p then some (some (mI 1), σ) else some (some (mI 0), σ)) = (some (some (mI (b2 p)), σ) : Option Rs) := fun p d => by unfold b2; split <;> rfl
  by_cases c1 : isMb (aV σ x.toNat)
  · simp only [M510, e510_0, e510_5, e510_14, e510_22, e510_30, Option.getD_some, Option.bind_some, Option.toList_some, Option.toList_none, List.cons_append, List.nil_append, and_self, and_true, true_and, false_and, and_false, ite_self, not_true_eq_false, not_false_eq_true, reduceIte, Nat.reduceEqDiff, ab_I, ab_L, ab_R, ao_I, ao_L, ao_R, gL_sL, gI_sI, gR_sR, gI_sL, gI_sR, gL_sI, gL_sR, gR_sI, gR_sL, hx.1, hx.2, T493 hx, T498 hx, b2_0', b2_n', c1, T473]
    unfold flt b2
    simp only [gI_sI, and_self, if_true, c1]
    repeat' split
    all_goals first | rfl | (exfalso; simp_all)
  · by_cases c2 : mvs (aV σ x.toNat)
    · simp only [M510, e510_0, e510_5, e510_14, e510_22, e510_30, Option.getD_some, Option.bind_some, Option.toList_some, Option.toList_none, List.cons_append, List.nil_append, and_self, and_true, true_and, false_and, and_false, ite_self, not_true_eq_false, not_false_eq_true, reduceIte, Nat.reduceEqDiff, ab_I, ab_L, ab_R, ao_I, ao_L, ao_R, gL_sL, gI_sI, gR_sR, gI_sL, gI_sR, gL_sI, gL_sR, gR_sI, gR_sL, hx.1, hx.2, T493 hx, T498 hx, b2_0', b2_n', c1, c2, T473]
      simp only [c1, c2, not_true_eq_false, if_false, flt_0]
      unfold b2 fst
      repeat' split
      all_goals first | rfl | (exfalso; simp_all)
    · simp only [M510, e510_0, e510_5, e510_14, e510_22, e510_30, Option.getD_some, Option.bind_some, Option.toList_some, Option.toList_none, List.cons_append, List.nil_append, and_self, and_true, true_and, false_and, and_false, ite_self, not_true_eq_false, not_false_eq_true, reduceIte, Nat.reduceEqDiff, ab_I, ab_L, ab_R, ao_I, ao_L, ao_R, gL_sL, gI_sI, gR_sR, gI_sL, gI_sR, gL_sI, gL_sR, gR_sI, gR_sL, hx.1, hx.2, T493 hx, T498 hx, b2_0', b2_n', c1, c2, T473]
      unfold flt b2
      simp only [gI_sI, and_self, if_true, c1, c2, not_false_eq_true, if_false]
      repeat' split
      all_goals first | rfl | (exfalso; simp_all)
-- FILE 31.jcopy
/-! ===== stretches of rows that are copied ===== -/
def rkI (σ : MS) (c a b n : Nat) : MS := ((fun k s => if k = c ∧ b ≤ s ∧ s < b + n then σ.1 c (s - b + a) else σ.1 k s), σ.2)
def rkV (σ : MS) (a b n : Nat) : MS := ((fun k s => if (118 ≤ k ∧ k ≤ 122) ∧ b ≤ s ∧ s < b + n then σ.1 k (s - b + a) else σ.1 k s), (fun k s => if (112 ≤ k ∧ k ≤ 117) ∧ b ≤ s ∧ s < b + n then σ.2.1 k (s - b + a) else σ.2.1 k s), σ.2.2)
section RG2
variable {σ : MS} {c a b n k s i : Nat}
theorem gI_rkI : gI (rkI σ c a b n) k s = if k = c ∧ b ≤ s ∧ s < b + n then gI σ c (s - b + a) else gI σ k s := rfl
theorem gL_rkI : gL (rkI σ c a b n) k s = gL σ k s := rfl
theorem gI_rkI_o (h : ¬ k = c) : gI (rkI σ c a b n) k s = gI σ k s := if_neg fun q => h q.1
theorem kd_rkI : kd (rkI σ c a b n) k = kd σ k := rfl
theorem rkI_0 : rkI σ c a b 0 = σ := by
  refine ms_ext (fun k s => ?_) (fun k s => rfl) rfl
  rw [gI_rkI, if_neg (by omega)]
theorem rkI_s (h : a + n < b ∨ b ≤ a) : sI (rkI σ c a b n) c (b + n) (gI (rkI σ c a b n) c (a + n)) = rkI σ c a b (n + 1) := by
  refine ms_ext (fun k s => ?_) (fun k s => rfl) rfl
  rw [gI_sI, gI_rkI, gI_rkI, gI_rkI]
  by_cases e : k = c ∧ s = b + n
  · rw [if_pos e, if_neg (by omega), if_pos (by omega), show s - b + a = a + n by omega]
  · rw [if_neg e]
    by_cases e2 : k = c ∧ b ≤ s ∧ s < b + n
    · rw [if_pos e2, if_pos (by omega)]
    · rw [if_neg e2, if_neg (by omega)]
theorem gI_rkV : gI (rkV σ a b n) k s = if (118 ≤ k ∧ k ≤ 122) ∧ b ≤ s ∧ s < b + n then gI σ k (s - b + a) else gI σ k s := rfl
theorem gL_rkV : gL (rkV σ a b n) k s = if (112 ≤ k ∧ k ≤ 117) ∧ b ≤ s ∧ s < b + n then gL σ k (s - b + a) else gL σ k s := rfl
theorem gI_rkV_o (h : ¬ (118 ≤ k ∧ k ≤ 122)) : gI (rkV σ a b n) k s = gI σ k s := if_neg fun q => h q.1
theorem gL_rkV_o (h : ¬ (112 ≤ k ∧ k ≤ 117)) : gL (rkV σ a b n) k s = gL σ k s := if_neg fun q => h q.1
theorem kd_rkV : kd (rkV σ a b n) k = kd σ k := rfl
theorem aV_rkV : aV (rkV σ a b n) i = if b ≤ i ∧ i < b + n then aV σ (i - b + a) else aV σ i := by
  unfold aV rNv
  rw [gI_rkV, gI_rkV, gI_rkV, gI_rkV, gI_rkV, gL_rkV, gL_rkV, gL_rkV, gL_rkV, gL_rkV, gL_rkV]
  by_cases h : b ≤ i ∧ i < b + n
  · rw [if_pos h]
    rw [if_pos ⟨by decide, h⟩, if_pos ⟨by decide, h⟩, if_pos ⟨by decide, h⟩, if_pos ⟨by decide, h⟩, if_pos ⟨by decide, h⟩, if_pos ⟨by decide, h⟩, if_pos ⟨by decide, h⟩, if_pos ⟨by decide, h⟩, if_pos ⟨by decide, h⟩, if_pos ⟨by decide, h⟩, if_pos ⟨by decide, h⟩]
  · rw [if_neg h]
    rw [if_neg (fun q => h q.2), if_neg (fun q => h q.2), if_neg (fun q => h q.2), if_neg (fun q => h q.2), if_neg (fun q => h q.2), if_neg (fun q => h q.2), if_neg (fun q => h q.2), if_neg (fun q => h q.2), if_neg (fun q => h q.2), if_neg (fun q => h q.2), if_neg (fun q => h q.2)]
theorem rkV_0 : rkV σ a b 0 = σ := by
  refine ms_ext (fun k s => ?_) (fun k s => ?_) rfl
  · rw [gI_rkV, if_neg (by omega)]
  · rw [gL_rkV, if_neg (by omega)]
theorem rkV_s (h : a + n < b ∨ b ≤ a) : wrV (rkV σ a b n) (b + n) (aV (rkV σ a b n) (a + n)) = rkV σ a b (n + 1) := by
  have e0 : aV (rkV σ a b n) (a + n) = aV σ (a + n) := by rw [aV_rkV, if_neg (by omega)]
  rw [e0]
  refine ms_ext (fun k s => ?_) (fun k s => ?_) rfl
  · by_cases e : s = b + n
    · subst e
      rw [gI_wrV, gI_rkV, gI_rkV]
      by_cases hk : 118 ≤ k ∧ k ≤ 122
      · rw [if_pos ⟨hk, by omega, by omega⟩, show b + n - b + a = a + n by omega]
        have : k = 118 ∨ k = 119 ∨ k = 120 ∨ k = 121 ∨ k = 122 := by omega
        rcases this with rfl | rfl | rfl | rfl | rfl <;> rfl
      · rw [if_neg (fun q => hk q.1), if_neg (fun q => hk q.1), if_neg (by omega), if_neg (by omega), if_neg (by omega), if_neg (by omega), if_neg (by omega)]
    · rw [gI_wrV_s e, gI_rkV, gI_rkV]
      by_cases e2 : (118 ≤ k ∧ k ≤ 122) ∧ b ≤ s ∧ s < b + n
      · rw [if_pos e2, if_pos (by omega)]
      · rw [if_neg e2, if_neg (by omega)]
  · by_cases e : s = b + n
    · subst e
      rw [gL_wrV, gL_rkV, gL_rkV]
      by_cases hk : 112 ≤ k ∧ k ≤ 117
      · rw [if_pos ⟨hk, by omega, by omega⟩, show b + n - b + a = a + n by omega]
        have : k = 112 ∨ k = 113 ∨ k = 114 ∨ k = 115 ∨ k = 116 ∨ k = 117 := by omega
        rcases this with rfl | rfl | rfl | rfl | rfl | rfl <;> rfl
      · rw [if_neg (fun q => hk q.1), if_neg (fun q => hk q.1), if_neg (by omega), if_neg (by omega), if_neg (by omega), if_neg (by omega), if_neg (by omega), if_neg (by omega)]
    · rw [gL_wrV_s e, gL_rkV, gL_rkV]
      by_cases e2 : (112 ≤ k ∧ k ≤ 117) ∧ b ≤ s ∧ s < b + n
      · rw [if_pos e2, if_pos (by omega)]
      · rw [if_neg e2, if_neg (by omega)]
end RG2
/-- a state of the judge's rows copied to another's place -/
def cpS (σ : MS) (x y : Nat) : MS :=
  rkV (rkI (rkI (sI (sI σ 123 y (gI σ 123 x)) 125 y (gI σ 125 x)) 124 (4 * x) (4 * y) 4) 126 (64 * x) (64 * y) (gI σ 125 x).toNat) (104 * x) (104 * y) (26 * (gI σ 123 x).toNat)
theorem T468 {x y : Nat} {σ : MS} (hx : x < 314) (hy : y < 314) (hxy : ¬ x = y) (hF : 0 ≤ gI σ 123 x ∧ gI σ 123 x ≤ 4) (hH : 0 ≤ gI σ 125 x ∧ gI σ 125 x ≤ 64) (hk : ∀ i, i < 26 * (gI σ 123 x).toNat → -128 ≤ vk (aV σ (104 * x + i)) ∧ vk (aV σ (104 * x + i)) < 128) : MM 468 [mR (some 80), mI x, mI y] σ = some (none, cpS σ x y) := by
  have h99 : ∀ (m : Nat) (τ : MS), gI τ 123 x = gI σ 123 x → (∀ i, i < 26 * (gI σ 123 x).toNat → aV τ (104 * x + i) = aV σ (104 * x + i)) → m ≤ 26 * (gI σ 123 x).toNat → RR (lkB tb468) (B468_99, [some (mR (some 80)), some (mI x), some (mI y), some (mI ((26 * (gI σ 123 x).toNat - m : Nat) : Int))], [], rkV τ (104 * x) (104 * y) (26 * (gI σ 123 x).toNat - m)) = some (none, rkV τ (104 * x) (104 * y) (26 * (gI σ 123 x).toNat)) := by
    intro m τ e1 e2
    induction m with
    | zero =>
      intro _
      rw [e468_99]
      simp only [g_123]
      rw [if_pos ⟨by omega, by omega⟩, gI_rkV_o (by omega), Int.toNat_natCast, e1, w32_i (by omega) (by omega), if_pos (by omega)]
      rfl
    | succ m ih =>
      intro hm
      rw [e468_99]
      simp only [g_123]
      rw [if_pos ⟨by omega, by omega⟩, gI_rkV_o (by omega), Int.toNat_natCast, e1, w32_i (by omega) (by omega), if_neg (by omega)]
      have ea : w32 (w32 (104 * (x : Int)) + ((26 * (gI σ 123 x).toNat - (m + 1) : Nat) : Int)) = ((104 * x + (26 * (gI σ 123 x).toNat - (m + 1)) : Nat) : Int) := by
        rw [w32_i (by omega) (by omega), w32_i (by omega) (by omega)]; omega
      have eb : w32 (w32 (104 * (y : Int)) + ((26 * (gI σ 123 x).toNat - (m + 1) : Nat) : Int)) = ((104 * y + (26 * (gI σ 123 x).toNat - (m + 1)) : Nat) : Int) := by
        rw [w32_i (by omega) (by omega), w32_i (by omega) (by omega)]; omega
      have ev : aV (rkV τ (104 * x) (104 * y) (26 * (gI σ 123 x).toNat - (m + 1))) (104 * x + (26 * (gI σ 123 x).toNat - (m + 1))) = aV σ (104 * x + (26 * (gI σ 123 x).toNat - (m + 1))) := by
        rw [aV_rkV, if_neg (by omega), e2 _ (by omega)]
      have hkk := hk (26 * (gI σ 123 x).toNat - (m + 1)) (by omega)
      rw [ea, eb, T430 ⟨by omega, by omega⟩ ⟨by omega, by omega⟩ (by rw [Int.toNat_natCast, ev]; exact hkk)]
      simp only [Option.bind_some, Option.toList_none, List.nil_append, e468_128, Int.toNat_natCast]
      rw [rkV_s (by omega), w32_i (by omega) (by omega)]
      have e3 : ((26 * (gI σ 123 x).toNat - (m + 1) : Nat) : Int) + 1 = ((26 * (gI σ 123 x).toNat - m : Nat) : Int) := by omega
      have e4 : 26 * (gI σ 123 x).toNat - (m + 1) + 1 = 26 * (gI σ 123 x).toNat - m := by omega
      rw [e3, e4]
      exact ih (by omega)
  have h59 : ∀ (m : Nat) (τ : MS), gI τ 125 x = gI σ 125 x → m ≤ (gI σ 125 x).toNat → RR (lkB tb468) (B468_59, [some (mR (some 80)), some (mI x), some (mI y), some (mI (((gI σ 125 x).toNat - m : Nat) : Int))], [], rkI τ 126 (64 * x) (64 * y) ((gI σ 125 x).toNat - m)) = RR (lkB tb468) (B468_99, [some (mR (some 80)), some (mI x), some (mI y), some (mI 0)], [], rkI τ 126 (64 * x) (64 * y) (gI σ 125 x).toNat) := by
    intro m τ e1
    induction m with
    | zero =>
      intro _
      rw [e468_59]
      simp only [g_125]
      rw [if_pos ⟨by omega, by omega⟩, gI_rkI_o (by omega), Int.toNat_natCast, e1, if_pos (by omega)]
      rfl
    | succ m ih =>
      intro hm
      have ea : w32 (w32 (64 * (x : Int)) + (((gI σ 125 x).toNat - (m + 1) : Nat) : Int)) = ((64 * x + ((gI σ 125 x).toNat - (m + 1)) : Nat) : Int) := by
        rw [w32_i (by omega) (by omega), w32_i (by omega) (by omega)]; omega
      have eb : w32 (w32 (64 * (y : Int)) + (((gI σ 125 x).toNat - (m + 1) : Nat) : Int)) = ((64 * y + ((gI σ 125 x).toNat - (m + 1)) : Nat) : Int) := by
        rw [w32_i (by omega) (by omega), w32_i (by omega) (by omega)]; omega
      rw [e468_59]
      simp only [g_125, g_126]
      rw [if_pos ⟨by omega, by omega⟩, gI_rkI_o (by omega), Int.toNat_natCast, e1, if_neg (by omega), ea, eb, if_pos ⟨by omega, by omega⟩, if_pos ⟨by omega, by omega⟩, Int.toNat_natCast, Int.toNat_natCast, rkI_s (by omega), w32_i (by omega) (by omega)]
      have e3 : (((gI σ 125 x).toNat - (m + 1) : Nat) : Int) + 1 = (((gI σ 125 x).toNat - m : Nat) : Int) := by omega
      have e4 : (gI σ 125 x).toNat - (m + 1) + 1 = (gI σ 125 x).toNat - m := by omega
      rw [e3, e4]
      exact ih (by omega)
  have h26 : ∀ (m : Nat) (τ : MS), m ≤ 4 → RR (lkB tb468) (B468_26, [some (mR (some 80)), some (mI x), some (mI y), some (mI ((4 - m : Nat) : Int))], [], rkI τ 124 (4 * x) (4 * y) (4 - m)) = RR (lkB tb468) (B468_59, [some (mR (some 80)), some (mI x), some (mI y), some (mI 0)], [], rkI τ 124 (4 * x) (4 * y) 4) := by
    intro m τ
    induction m with
    | zero =>
      intro _
      rw [e468_26, if_pos (by omega)]
      rfl
    | succ m ih =>
      intro hm
      have ea : w32 (w32 (4 * (x : Int)) + ((4 - (m + 1) : Nat) : Int)) = ((4 * x + (4 - (m + 1)) : Nat) : Int) := by
        rw [w32_i (by omega) (by omega), w32_i (by omega) (by omega)]; omega
      have eb : w32 (w32 (4 * (y : Int)) + ((4 - (m + 1) : Nat) : Int)) = ((4 * y + (4 - (m + 1)) : Nat) : Int) := by
        rw [w32_i (by omega) (by omega), w32_i (by omega) (by omega)]; omega
      rw [e468_26, if_neg (by omega), ea, eb]
      simp only [g_124]
      rw [if_pos ⟨by omega, by omega⟩, if_pos ⟨by omega, by omega⟩, Int.toNat_natCast, Int.toNat_natCast, rkI_s (by omega), w32_i (by omega) (by omega)]
      have e3 : ((4 - (m + 1) : Nat) : Int) + 1 = ((4 - m : Nat) : Int) := by omega
      have e4 : 4 - (m + 1) + 1 = 4 - m := by omega
      rw [e3, e4]
      exact ih (by omega)
  rw [M468, e468_0]
  simp only [g_123, g_125]
  rw [if_pos ⟨by omega, by omega⟩, if_pos ⟨by omega, by omega⟩, if_pos ⟨by omega, by omega⟩, if_pos ⟨by omega, by omega⟩]
  simp only [Int.toNat_natCast]
  rw [show gI (sI σ 123 y (gI σ 123 x)) 125 x = gI σ 125 x by rw [gI_sI, if_neg (by omega)]]
  generalize hτ : sI (sI σ 123 y (gI σ 123 x)) 125 y (gI σ 125 x) = τ
  have t1 : gI τ 123 x = gI σ 123 x := by rw [← hτ, gI_sI, if_neg (by omega), gI_sI, if_neg (by omega)]
  have t2 : gI τ 125 x = gI σ 125 x := by rw [← hτ, gI_sI, if_neg (by omega), gI_sI, if_neg (by omega)]
  have t3 : ∀ i, aV τ i = aV σ i := fun i => by rw [← hτ, aV_sI (by omega), aV_sI (by omega)]
  have a1 := h26 4 τ (Nat.le_refl _)
  rw [show 4 - 4 = 0 from rfl, rkI_0] at a1
  rw [show (0 : Int) = ((0 : Nat) : Int) from rfl, a1]
  have a2 := h59 (gI σ 125 x).toNat (rkI τ 124 (4 * x) (4 * y) 4) (by rw [gI_rkI_o (by omega)]; exact t2) (Nat.le_refl _)
  rw [Nat.sub_self, rkI_0] at a2
  rw [show (0 : Int) = ((0 : Nat) : Int) from rfl, a2]
  have a3 := h99 (26 * (gI σ 123 x).toNat) (rkI (rkI τ 124 (4 * x) (4 * y) 4) 126 (64 * x) (64 * y) (gI σ 125 x).toNat) (by rw [gI_rkI_o (by omega), gI_rkI_o (by omega)]; exact t1) (fun i _ => by
    have : aV (rkI (rkI τ 124 (4 * x) (4 * y) 4) 126 (64 * x) (64 * y) (gI σ 125 x).toNat) (104 * x + i) = aV τ (104 * x + i) := by
      unfold aV
      rw [gI_rkI_o (by omega), gI_rkI_o (by omega), gI_rkI_o (by omega), gI_rkI_o (by omega), gI_rkI_o (by omega), gI_rkI_o (by omega), gI_rkI_o (by omega), gI_rkI_o (by omega), gI_rkI_o (by omega), gI_rkI_o (by omega)]
      rfl
    rw [this, t3]) (Nat.le_refl _)
  rw [Nat.sub_self, rkV_0] at a3
  rw [show (0 : Int) = ((0 : Nat) : Int) from rfl, a3]
  unfold cpS
  rw [hτ]
