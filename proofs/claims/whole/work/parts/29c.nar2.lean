/-! ===== UNLIKE and NARROWED of the reference ===== -/
section NAR2
variable {a b x y t : Int} {σ : MS}
theorem gN_ne {i k s : Nat} {n : N6} {σ : MS} (h : ¬ s = i) : gL (wN σ i n) k s = gL σ k s := by
  simp [wN, gL_sL, h]
set_option maxHeartbeats 4000000 in
theorem L467 {o c : Int} (ho : inB o) (hc : inB c) (hne : ¬ c.toNat = o.toNat) : RR (lkB tb467) (B467_38, [some (mR (some 80)), some (mI x), some (mI y), some (mI c), none], [mI o], σ) = some (none, wN σ o.toNat (notN (rNv σ o.toNat) (gL σ 112 c.toNat))) := by
  have key : ∀ n, RR (lkB tb467) (B467_38, [some (mR (some 80)), some (mI x), some (mI y), some (mI c), none], [mI o], wN σ o.toNat n) = some (none, wN σ o.toNat (notN n (gL σ 112 c.toNat))) := by
    intro n
    generalize hV : gL σ 112 c.toNat = V
    have rV : ∀ m, gL (wN σ o.toNat m) 112 c.toNat = V := fun m => by rw [gN_ne hne, hV]
    unfold notN
    by_cases d1 : n.2.2.1 = V <;> by_cases d2 : n.2.2.2.1 = V <;> by_cases d3 : n.2.2.2.2.1 = V <;> by_cases d4 : n.2.2.2.2.2 = V
    all_goals (simp only [e467_0, e467_5, e467_10, e467_19, e467_27, e467_38, e467_70, e467_102, e467_134, e467_166, Option.getD_some, Option.bind_some, Option.toList_some, Option.toList_none, List.cons_append, List.nil_append, and_self, and_true, true_and, false_and, and_false, ite_self, not_true_eq_false, not_false_eq_true, reduceIte, Nat.reduceEqDiff, ab_I, ab_L, ab_R, ao_I, ao_L, ao_R, gL_sL, gI_sI, gR_sR, gI_sL, gI_sR, gL_sI, gL_sR, gR_sI, gR_sL, g_112, g_114, g_115, g_116, g_117, ho.1, ho.2, hc.1, hc.2, rV, wN2, wN3, wN4, wN5, gN2, gN3, gN4, gN5, d1, d2, d3, d4, BitVec.add_zero, BitVec.sub_zero])
    all_goals first | rfl | (simp [d1, d2, d3, d4]; done) | skip
  have := key (rNv σ o.toNat)
  rw [wN_eta] at this
  exact this
set_option maxHeartbeats 2000000 in
theorem T467 (hx : inB x) (hy : inB y) (hne : ¬ x.toNat = y.toNat) : MM 467 [mR (some 80), mI x, mI y] σ = some (none, wn2 σ x.toNat y.toNat (unlN (vn (aV σ x.toNat)) (vn (aV σ y.toNat)))) := by
  have hne' : ¬ y.toNat = x.toNat := fun e => hne e.symm
  have hi : ¬ y = x := fun e => hne (by rw [e])
  have l0 : (b2 True = b2 False) = False := eq_false (by decide)
  have l1 : (b2 False = b2 True) = False := eq_false (by decide)
  unfold unlN
  by_cases cx : gL σ 113 x.toNat = 0#64 <;> by_cases cy : gL σ 113 y.toNat = 0#64
  · rw [if_pos (show (isC (vn (aV σ x.toNat)) ↔ isC (vn (aV σ y.toNat))) from ⟨fun _ => cy, fun _ => cx⟩), wn2_0]
    simp only [M467, e467_0, e467_5, e467_10, Option.getD_some, Option.bind_some, Option.toList_some, Option.toList_none, List.cons_append, List.nil_append, and_self, and_true, true_and, false_and, and_false, ite_self, not_true_eq_false, not_false_eq_true, reduceIte, Nat.reduceEqDiff, ab_I, ab_L, ab_R, ao_I, ao_L, ao_R, gL_sL, gI_sI, gR_sR, gI_sL, gI_sR, gL_sI, gL_sR, gR_sI, gR_sL, T439 hx.1 hx.2, T439 hy.1 hy.2, eq_true cx, eq_true cy]
  · rw [if_neg (show ¬ (isC (vn (aV σ x.toNat)) ↔ isC (vn (aV σ y.toNat))) from fun q => cy (q.mp cx)), if_pos (show isC (vn (aV σ x.toNat)) from cx), wn2_r]
    simp only [M467, e467_0, e467_5, e467_10, e467_19, e467_27, Option.getD_some, Option.bind_some, Option.toList_some, Option.toList_none, List.cons_append, List.nil_append, and_self, and_true, true_and, false_and, and_false, ite_self, not_true_eq_false, not_false_eq_true, reduceIte, Nat.reduceEqDiff, ab_I, ab_L, ab_R, ao_I, ao_L, ao_R, gL_sL, gI_sI, gR_sR, gI_sL, gI_sR, gL_sI, gL_sR, gR_sI, gR_sL, T439 hx.1 hx.2, T439 hy.1 hy.2, eq_true cx, eq_false cy, l0, l1, b2_0', hi]
    rw [L467 hy hx hne, wN_V]
    rfl
  · rw [if_neg (show ¬ (isC (vn (aV σ x.toNat)) ↔ isC (vn (aV σ y.toNat))) from fun q => cx (q.mpr cy)), if_neg (show ¬ isC (vn (aV σ x.toNat)) from cx), wn2_l hne']
    simp only [M467, e467_0, e467_5, e467_10, e467_19, e467_27, Option.getD_some, Option.bind_some, Option.toList_some, Option.toList_none, List.cons_append, List.nil_append, and_self, and_true, true_and, false_and, and_false, ite_self, not_true_eq_false, not_false_eq_true, reduceIte, Nat.reduceEqDiff, ab_I, ab_L, ab_R, ao_I, ao_L, ao_R, gL_sL, gI_sI, gR_sR, gI_sL, gI_sR, gL_sI, gL_sR, gR_sI, gR_sL, T439 hx.1 hx.2, T439 hy.1 hy.2, eq_false cx, eq_true cy, l0, l1, b2_0', hi]
    rw [L467 hx hy hne', wN_V]
    rfl
  · rw [if_pos (show (isC (vn (aV σ x.toNat)) ↔ isC (vn (aV σ y.toNat))) from ⟨fun h => absurd h cx, fun h => absurd h cy⟩), wn2_0]
    simp only [M467, e467_0, e467_5, e467_10, Option.getD_some, Option.bind_some, Option.toList_some, Option.toList_none, List.cons_append, List.nil_append, and_self, and_true, true_and, false_and, and_false, ite_self, not_true_eq_false, not_false_eq_true, reduceIte, Nat.reduceEqDiff, ab_I, ab_L, ab_R, ao_I, ao_L, ao_R, gL_sL, gI_sI, gR_sR, gI_sL, gI_sR, gL_sI, gL_sR, gR_sI, gR_sL, T439 hx.1 hx.2, T439 hy.1 hy.2, eq_false cx, eq_false cy]
/-- the end of it: both are made tidy -/
theorem L463 {c i v : Int} {p : N6 × N6} (hx : inB x) (hy : inB y) (hne : ¬ x.toNat = y.toNat) : RR (lkB tb463) (B463_490, [some (mR (some 80)), some (mI c), some (mI i), some (mI x), some (mI y), some (mI v), none], [], wn2 σ x.toNat y.toNat p) = some (some (mI (@b2 (tdG p.1 ∧ tdG p.2) (Classical.propDecidable _))), wn2 σ x.toNat y.toNat (tdN p.1, tdN p.2)) := by
  have hne' : ¬ y.toNat = x.toNat := fun e => hne e.symm
  have e1 : aV (wn2 σ x.toNat y.toNat p) x.toNat = vN (aV σ x.toNat) p.1 := by rw [aV_wn2, if_neg hne, if_pos rfl]
  have e2 : ∀ u, aV (wrV (wn2 σ x.toNat y.toNat p) x.toNat u) y.toNat = vN (aV σ y.toNat) p.2 := fun u => by rw [aV_ne hne', aV_wn2, if_pos rfl]
  have e3 : wrV (wrV (wn2 σ x.toNat y.toNat p) x.toNat (vN (aV σ x.toNat) (tdN p.1))) y.toNat (vN (aV σ y.toNat) (tdN p.2)) = wn2 σ x.toNat y.toNat (tdN p.1, tdN p.2) := by
    show wrV (wrV (wrV (wrV σ x.toNat _) y.toNat _) x.toNat _) y.toNat _ = _
    rw [wrV_comm (i := y.toNat) (j := x.toNat) hne, wrV_same, wrV_same]
    rfl
  simp only [e463_490, e463_495, Option.getD_some, Option.bind_some, Option.toList_some, Option.toList_none, List.cons_append, List.nil_append, and_self, and_true, true_and, false_and, and_false, ite_self, not_true_eq_false, not_false_eq_true, reduceIte, Nat.reduceEqDiff, ab_I, ab_L, ab_R, ao_I, ao_L, ao_R, gL_sL, gI_sI, gR_sR, gI_sL, gI_sR, gL_sI, gL_sR, gR_sI, gR_sL, T443 hx.1 hx.2, T443 hy.1 hy.2, e1, e2]
  rw [e3]
  show RR _ (B463_503, _, [mI (tdB p.2)], _) = _
  rw [e463_503]
  unfold b2
  by_cases g1 : tdG p.1
  · have t1 : ¬ tdB p.1 = 0 := by rw [tdB_n]; exact g1
    by_cases g2 : tdG p.2
    · have t2 : ¬ tdB p.2 = 0 := by rw [tdB_n]; exact g2
      rw [if_neg t2, if_neg t1, if_pos ⟨g1, g2⟩]
    · have t2 : tdB p.2 = 0 := by rw [tdB_0]; exact g2
      rw [if_pos t2, if_neg (fun q => g2 q.2), e463_515]
  · have t1 : tdB p.1 = 0 := by rw [tdB_0]; exact g1
    rw [if_neg (show ¬ (tdG p.1 ∧ tdG p.2) from fun q => g1 q.1)]
    by_cases t2 : tdB p.2 = 0
    · rw [if_pos t2, e463_515]
    · rw [if_neg t2, if_pos t1, e463_515]
set_option maxHeartbeats 8000000 in
theorem T463 {c i : Int} (hc : isCmp c) (hi : i = 0 ∨ i = 1) (hx : inB x) (hy : inB y) (hne : ¬ x.toNat = y.toNat) : MM 463 [mR (some 80), mI c, mI i, mI x, mI y] σ = some (some (mI (@b2 (tdG (narN c (decide (i = 1)) (vn (aV σ x.toNat)) (vn (aV σ y.toNat))).1 ∧ tdG (narN c (decide (i = 1)) (vn (aV σ x.toNat)) (vn (aV σ y.toNat))).2) (Classical.propDecidable _))), wn2 σ x.toNat y.toNat (tdN (narN c (decide (i = 1)) (vn (aV σ x.toNat)) (vn (aV σ y.toNat))).1, tdN (narN c (decide (i = 1)) (vn (aV σ x.toNat)) (vn (aV σ y.toNat))).2)) := by
  have hne' : ¬ y.toNat = x.toNat := fun e => hne e.symm
  have key : ∃ v : Int, MM 463 [mR (some 80), mI c, mI i, mI x, mI y] σ = RR (lkB tb463) (B463_490, [some (mR (some 80)), some (mI c), some (mI i), some (mI x), some (mI y), some (mI v), none], [], wn2 σ x.toNat y.toNat (narN c (decide (i = 1)) (vn (aV σ x.toNat)) (vn (aV σ y.toNat)))) := by
    refine ⟨b2 (gL σ 113 y.toNat = 0#64), ?_⟩
    have sw : ∀ p, wn2 σ y.toNat x.toNat p = wn2 σ x.toNat y.toNat (pyx p) := fun p => wn2_sw hne
    simp only [M463, e463_0, Option.getD_some, Option.bind_some, Option.toList_some, Option.toList_none, List.cons_append, List.nil_append, and_self, and_true, true_and, false_and, and_false, ite_self, not_true_eq_false, not_false_eq_true, reduceIte, Nat.reduceEqDiff, ab_I, ab_L, ab_R, ao_I, ao_L, ao_R, gL_sL, gI_sI, gR_sR, gI_sL, gI_sR, gL_sI, gL_sR, gR_sI, gR_sL, T439 hy.1 hy.2]
    rcases hc with rfl | rfl | rfl | rfl | rfl | rfl | rfl | rfl | rfl | rfl | rfl
    -- 16
    · rcases hi with rfl | rfl
      · simp only [e463_0, e463_6, e463_111, e463_122, e463_132, e463_205, e463_248, e463_258, e463_262, e463_276, e463_286, e463_295, e463_298, e463_312, e463_322, e463_326, e463_340, e463_350, e463_359, e463_362, e463_376, e463_386, e463_390, e463_404, e463_414, e463_423, e463_426, e463_440, e463_450, e463_454, e463_468, e463_478, e463_487, e463_490, e463_495, e463_503, e463_515, Option.getD_some, Option.bind_some, Option.toList_some, Option.toList_none, List.cons_append, List.nil_append, and_self, and_true, true_and, false_and, and_false, ite_self, not_true_eq_false, not_false_eq_true, reduceIte, Nat.reduceEqDiff, ab_I, ab_L, ab_R, ao_I, ao_L, ao_R, gL_sL, gI_sI, gR_sR, gI_sL, gI_sR, gL_sI, gL_sR, gR_sI, gR_sL, Int.reduceEq, T467 hx hy hne]
        rfl
      · simp only [e463_0, e463_6, e463_111, e463_122, e463_132, e463_205, e463_248, e463_258, e463_262, e463_276, e463_286, e463_295, e463_298, e463_312, e463_322, e463_326, e463_340, e463_350, e463_359, e463_362, e463_376, e463_386, e463_390, e463_404, e463_414, e463_423, e463_426, e463_440, e463_450, e463_454, e463_468, e463_478, e463_487, e463_490, e463_495, e463_503, e463_515, Option.getD_some, Option.bind_some, Option.toList_some, Option.toList_none, List.cons_append, List.nil_append, and_self, and_true, true_and, false_and, and_false, ite_self, not_true_eq_false, not_false_eq_true, reduceIte, Nat.reduceEqDiff, ab_I, ab_L, ab_R, ao_I, ao_L, ao_R, gL_sL, gI_sI, gR_sR, gI_sL, gI_sR, gL_sI, gL_sR, gR_sI, gR_sL, Int.reduceEq, T466 hx hy hne]
        rfl
    -- 32
    · rcases hi with rfl | rfl
      · simp only [e463_6, e463_248, e463_258, e463_262, Option.getD_some, Option.bind_some, Option.toList_some, Option.toList_none, List.cons_append, List.nil_append, and_self, and_true, true_and, false_and, and_false, ite_self, not_true_eq_false, not_false_eq_true, reduceIte, Nat.reduceEqDiff, ab_I, ab_L, ab_R, ao_I, ao_L, ao_R, gL_sL, gI_sI, gR_sR, gI_sL, gI_sR, gL_sI, gL_sR, gR_sI, gR_sL, Int.reduceEq, T464 hx hy hne (Or.inl rfl)]
        rfl
      · simp only [e463_6, e463_248, e463_258, e463_262, Option.getD_some, Option.bind_some, Option.toList_some, Option.toList_none, List.cons_append, List.nil_append, and_self, and_true, true_and, false_and, and_false, ite_self, not_true_eq_false, not_false_eq_true, reduceIte, Nat.reduceEqDiff, ab_I, ab_L, ab_R, ao_I, ao_L, ao_R, gL_sL, gI_sI, gR_sR, gI_sL, gI_sR, gL_sI, gL_sR, gR_sI, gR_sL, Int.reduceEq, T464 hy hx hne' (Or.inr rfl), sw]
        rfl
    -- 48
    · rcases hi with rfl | rfl
      · simp only [e463_6, e463_276, e463_286, e463_295, e463_298, Option.getD_some, Option.bind_some, Option.toList_some, Option.toList_none, List.cons_append, List.nil_append, and_self, and_true, true_and, false_and, and_false, ite_self, not_true_eq_false, not_false_eq_true, reduceIte, Nat.reduceEqDiff, ab_I, ab_L, ab_R, ao_I, ao_L, ao_R, gL_sL, gI_sI, gR_sR, gI_sL, gI_sR, gL_sI, gL_sR, gR_sI, gR_sL, Int.reduceEq, T464 hx hy hne (Or.inr rfl)]
        rfl
      · simp only [e463_6, e463_276, e463_286, e463_295, e463_298, Option.getD_some, Option.bind_some, Option.toList_some, Option.toList_none, List.cons_append, List.nil_append, and_self, and_true, true_and, false_and, and_false, ite_self, not_true_eq_false, not_false_eq_true, reduceIte, Nat.reduceEqDiff, ab_I, ab_L, ab_R, ao_I, ao_L, ao_R, gL_sL, gI_sI, gR_sR, gI_sL, gI_sR, gL_sI, gL_sR, gR_sI, gR_sL, Int.reduceEq, T464 hy hx hne' (Or.inl rfl), sw]
        rfl
    -- 64
    · have hn : ∀ b, narN 64 b (vn (aV σ x.toNat)) (vn (aV σ y.toNat)) = (if isC (vn (aV σ y.toNat)) ∧ b = true ∧ jV (vn (aV σ y.toNat)) &&& (jV (vn (aV σ y.toNat)) - 1#64) = 0#64 then ((jV (vn (aV σ x.toNat)) ||| jV (vn (aV σ y.toNat)), jM (vn (aV σ x.toNat)) &&& ~~~ jV (vn (aV σ y.toNat)), jA (vn (aV σ x.toNat)), jB (vn (aV σ x.toNat)), jC (vn (aV σ x.toNat)), jD (vn (aV σ x.toNat))), vn (aV σ y.toNat)) else if isC (vn (aV σ y.toNat)) ∧ b = false then ((jV (vn (aV σ x.toNat)), jM (vn (aV σ x.toNat)) &&& ~~~ jV (vn (aV σ y.toNat)), jA (vn (aV σ x.toNat)), jB (vn (aV σ x.toNat)), jC (vn (aV σ x.toNat)), jD (vn (aV σ x.toNat))), vn (aV σ y.toNat)) else (vn (aV σ x.toNat), vn (aV σ y.toNat))) := fun b => rfl
      have t0' : decide ((0 : Int) = 1) = false := rfl
      have t1' : decide ((1 : Int) = 1) = true := rfl
      rw [hn]
      by_cases cy : gL σ 113 y.toNat = 0#64
      · have cy' : isC (vn (aV σ y.toNat)) := cy
        have hb : b2 (gL σ 113 y.toNat = 0#64) = 1 := by
          unfold b2
          exact if_pos cy
        rw [hb]
        rcases hi with rfl | rfl
        · rw [if_neg (fun q => by cases q.2.1), if_pos ⟨cy', t0'⟩, wn2_l hne']
          simp only [e463_6, e463_205, Option.getD_some, Option.bind_some, Option.toList_some, Option.toList_none, List.cons_append, List.nil_append, and_self, and_true, true_and, false_and, and_false, ite_self, not_true_eq_false, not_false_eq_true, reduceIte, Nat.reduceEqDiff, ab_I, ab_L, ab_R, ao_I, ao_L, ao_R, gL_sL, gI_sI, gR_sR, gI_sL, gI_sR, gL_sI, gL_sR, gR_sI, gR_sL, g_112, g_113, Int.reduceEq, hx.1, hx.2, hy.1, hy.2, oneI, q112, q113, p112, p113, aV_same, aV_ne hne', wrV_same, iL_m1, xor_all]
        · by_cases d : jV (vn (aV σ y.toNat)) &&& (jV (vn (aV σ y.toNat)) - 1#64) = 0#64
          · rw [if_pos ⟨cy', t1', d⟩, wn2_l hne']
            simp only [e463_6, e463_205, Option.getD_some, Option.bind_some, Option.toList_some, Option.toList_none, List.cons_append, List.nil_append, and_self, and_true, true_and, false_and, and_false, ite_self, not_true_eq_false, not_false_eq_true, reduceIte, Nat.reduceEqDiff, ab_I, ab_L, ab_R, ao_I, ao_L, ao_R, gL_sL, gI_sI, gR_sR, gI_sL, gI_sR, gL_sI, gL_sR, gR_sI, gR_sL, g_112, g_113, Int.reduceEq, hx.1, hx.2, hy.1, hy.2, oneI, q112, q113, eq_true d, p112, p113, aV_same, aV_ne hne', wrV_same, iL_m1, xor_all]
          · rw [if_neg (fun q => d q.2.2), if_neg (fun q => by cases q.2), wn2_0]
            simp only [e463_6, e463_205, Option.getD_some, Option.bind_some, Option.toList_some, Option.toList_none, List.cons_append, List.nil_append, and_self, and_true, true_and, false_and, and_false, ite_self, not_true_eq_false, not_false_eq_true, reduceIte, Nat.reduceEqDiff, ab_I, ab_L, ab_R, ao_I, ao_L, ao_R, gL_sL, gI_sI, gR_sR, gI_sL, gI_sR, gL_sI, gL_sR, gR_sI, gR_sL, g_112, g_113, Int.reduceEq, hx.1, hx.2, hy.1, hy.2, oneI, q112, q113, d]
      · have cy' : ¬ isC (vn (aV σ y.toNat)) := cy
        have hb : b2 (gL σ 113 y.toNat = 0#64) = 0 := by
          unfold b2
          exact if_neg cy
        rw [hb]
        rw [if_neg (fun q => cy' q.1), if_neg (fun q => cy' q.1), wn2_0]
        simp only [e463_6, e463_205, Option.getD_some, Option.bind_some, Option.toList_some, Option.toList_none, List.cons_append, List.nil_append, and_self, and_true, true_and, false_and, and_false, ite_self, not_true_eq_false, not_false_eq_true, reduceIte, Nat.reduceEqDiff, ab_I, ab_L, ab_R, ao_I, ao_L, ao_R, gL_sL, gI_sI, gR_sR, gI_sL, gI_sR, gL_sI, gL_sR, gR_sI, gR_sL, g_112, g_113, Int.reduceEq, hx.1, hx.2, hy.1, hy.2]
    -- 80
    · rcases hi with rfl | rfl
      · simp only [e463_6, e463_111, e463_122, e463_132, Option.getD_some, Option.bind_some, Option.toList_some, Option.toList_none, List.cons_append, List.nil_append, and_self, and_true, true_and, false_and, and_false, ite_self, not_true_eq_false, not_false_eq_true, reduceIte, Nat.reduceEqDiff, ab_I, ab_L, ab_R, ao_I, ao_L, ao_R, gL_sL, gI_sI, gR_sR, gI_sL, gI_sR, gL_sI, gL_sR, gR_sI, gR_sL, Int.reduceEq, T466 hx hy hne]
        rfl
      · simp only [e463_6, e463_111, e463_122, e463_132, Option.getD_some, Option.bind_some, Option.toList_some, Option.toList_none, List.cons_append, List.nil_append, and_self, and_true, true_and, false_and, and_false, ite_self, not_true_eq_false, not_false_eq_true, reduceIte, Nat.reduceEqDiff, ab_I, ab_L, ab_R, ao_I, ao_L, ao_R, gL_sL, gI_sI, gR_sR, gI_sL, gI_sR, gL_sI, gL_sR, gR_sI, gR_sL, Int.reduceEq, T467 hx hy hne]
        rfl
    -- 96
    · rcases hi with rfl | rfl
      · simp only [e463_6, e463_376, e463_386, e463_390, Option.getD_some, Option.bind_some, Option.toList_some, Option.toList_none, List.cons_append, List.nil_append, and_self, and_true, true_and, false_and, and_false, ite_self, not_true_eq_false, not_false_eq_true, reduceIte, Nat.reduceEqDiff, ab_I, ab_L, ab_R, ao_I, ao_L, ao_R, gL_sL, gI_sI, gR_sR, gI_sL, gI_sR, gL_sI, gL_sR, gR_sI, gR_sL, Int.reduceEq, T465 hx hy hne (Or.inl rfl)]
        rfl
      · simp only [e463_6, e463_376, e463_386, e463_390, Option.getD_some, Option.bind_some, Option.toList_some, Option.toList_none, List.cons_append, List.nil_append, and_self, and_true, true_and, false_and, and_false, ite_self, not_true_eq_false, not_false_eq_true, reduceIte, Nat.reduceEqDiff, ab_I, ab_L, ab_R, ao_I, ao_L, ao_R, gL_sL, gI_sI, gR_sR, gI_sL, gI_sR, gL_sI, gL_sR, gR_sI, gR_sL, Int.reduceEq, T465 hy hx hne' (Or.inr rfl), sw]
        rfl
    -- 112
    · rcases hi with rfl | rfl
      · simp only [e463_6, e463_404, e463_414, e463_423, e463_426, Option.getD_some, Option.bind_some, Option.toList_some, Option.toList_none, List.cons_append, List.nil_append, and_self, and_true, true_and, false_and, and_false, ite_self, not_true_eq_false, not_false_eq_true, reduceIte, Nat.reduceEqDiff, ab_I, ab_L, ab_R, ao_I, ao_L, ao_R, gL_sL, gI_sI, gR_sR, gI_sL, gI_sR, gL_sI, gL_sR, gR_sI, gR_sL, Int.reduceEq, T465 hx hy hne (Or.inr rfl)]
        rfl
      · simp only [e463_6, e463_404, e463_414, e463_423, e463_426, Option.getD_some, Option.bind_some, Option.toList_some, Option.toList_none, List.cons_append, List.nil_append, and_self, and_true, true_and, false_and, and_false, ite_self, not_true_eq_false, not_false_eq_true, reduceIte, Nat.reduceEqDiff, ab_I, ab_L, ab_R, ao_I, ao_L, ao_R, gL_sL, gI_sI, gR_sR, gI_sL, gI_sR, gL_sI, gL_sR, gR_sI, gR_sL, Int.reduceEq, T465 hy hx hne' (Or.inl rfl), sw]
        rfl
    -- 160
    · rcases hi with rfl | rfl
      · simp only [e463_6, e463_312, e463_322, e463_326, Option.getD_some, Option.bind_some, Option.toList_some, Option.toList_none, List.cons_append, List.nil_append, and_self, and_true, true_and, false_and, and_false, ite_self, not_true_eq_false, not_false_eq_true, reduceIte, Nat.reduceEqDiff, ab_I, ab_L, ab_R, ao_I, ao_L, ao_R, gL_sL, gI_sI, gR_sR, gI_sL, gI_sR, gL_sI, gL_sR, gR_sI, gR_sL, Int.reduceEq, T464 hy hx hne' (Or.inl rfl), sw]
        rfl
      · simp only [e463_6, e463_312, e463_322, e463_326, Option.getD_some, Option.bind_some, Option.toList_some, Option.toList_none, List.cons_append, List.nil_append, and_self, and_true, true_and, false_and, and_false, ite_self, not_true_eq_false, not_false_eq_true, reduceIte, Nat.reduceEqDiff, ab_I, ab_L, ab_R, ao_I, ao_L, ao_R, gL_sL, gI_sI, gR_sR, gI_sL, gI_sR, gL_sI, gL_sR, gR_sI, gR_sL, Int.reduceEq, T464 hx hy hne (Or.inr rfl)]
        rfl
    -- 176
    · rcases hi with rfl | rfl
      · simp only [e463_6, e463_340, e463_350, e463_359, e463_362, Option.getD_some, Option.bind_some, Option.toList_some, Option.toList_none, List.cons_append, List.nil_append, and_self, and_true, true_and, false_and, and_false, ite_self, not_true_eq_false, not_false_eq_true, reduceIte, Nat.reduceEqDiff, ab_I, ab_L, ab_R, ao_I, ao_L, ao_R, gL_sL, gI_sI, gR_sR, gI_sL, gI_sR, gL_sI, gL_sR, gR_sI, gR_sL, Int.reduceEq, T464 hy hx hne' (Or.inr rfl), sw]
        rfl
      · simp only [e463_6, e463_340, e463_350, e463_359, e463_362, Option.getD_some, Option.bind_some, Option.toList_some, Option.toList_none, List.cons_append, List.nil_append, and_self, and_true, true_and, false_and, and_false, ite_self, not_true_eq_false, not_false_eq_true, reduceIte, Nat.reduceEqDiff, ab_I, ab_L, ab_R, ao_I, ao_L, ao_R, gL_sL, gI_sI, gR_sR, gI_sL, gI_sR, gL_sI, gL_sR, gR_sI, gR_sL, Int.reduceEq, T464 hx hy hne (Or.inl rfl)]
        rfl
    -- 192
    · rcases hi with rfl | rfl
      · simp only [e463_6, e463_440, e463_450, e463_454, Option.getD_some, Option.bind_some, Option.toList_some, Option.toList_none, List.cons_append, List.nil_append, and_self, and_true, true_and, false_and, and_false, ite_self, not_true_eq_false, not_false_eq_true, reduceIte, Nat.reduceEqDiff, ab_I, ab_L, ab_R, ao_I, ao_L, ao_R, gL_sL, gI_sI, gR_sR, gI_sL, gI_sR, gL_sI, gL_sR, gR_sI, gR_sL, Int.reduceEq, T465 hy hx hne' (Or.inl rfl), sw]
        rfl
      · simp only [e463_6, e463_440, e463_450, e463_454, Option.getD_some, Option.bind_some, Option.toList_some, Option.toList_none, List.cons_append, List.nil_append, and_self, and_true, true_and, false_and, and_false, ite_self, not_true_eq_false, not_false_eq_true, reduceIte, Nat.reduceEqDiff, ab_I, ab_L, ab_R, ao_I, ao_L, ao_R, gL_sL, gI_sI, gR_sR, gI_sL, gI_sR, gL_sI, gL_sR, gR_sI, gR_sL, Int.reduceEq, T465 hx hy hne (Or.inr rfl)]
        rfl
    -- 208
    · rcases hi with rfl | rfl
      · simp only [e463_6, e463_468, e463_478, e463_487, Option.getD_some, Option.bind_some, Option.toList_some, Option.toList_none, List.cons_append, List.nil_append, and_self, and_true, true_and, false_and, and_false, ite_self, not_true_eq_false, not_false_eq_true, reduceIte, Nat.reduceEqDiff, ab_I, ab_L, ab_R, ao_I, ao_L, ao_R, gL_sL, gI_sI, gR_sR, gI_sL, gI_sR, gL_sI, gL_sR, gR_sI, gR_sL, Int.reduceEq, T465 hy hx hne' (Or.inr rfl), sw]
        rfl
      · simp only [e463_6, e463_468, e463_478, e463_487, Option.getD_some, Option.bind_some, Option.toList_some, Option.toList_none, List.cons_append, List.nil_append, and_self, and_true, true_and, false_and, and_false, ite_self, not_true_eq_false, not_false_eq_true, reduceIte, Nat.reduceEqDiff, ab_I, ab_L, ab_R, ao_I, ao_L, ao_R, gL_sL, gI_sI, gR_sR, gI_sL, gI_sR, gL_sI, gL_sR, gR_sI, gR_sL, Int.reduceEq, T465 hx hy hne (Or.inl rfl)]
        rfl
  obtain ⟨v, e⟩ := key
  rw [e, L463 hx hy hne]
end NAR2
