-- FILE 29.rop2
/-! ===== operations on the reference's numbers: all together ===== -/
section P6
variable {σ : MS} {i : Nat} {y : B64}
theorem p112 : sL σ 112 i y = wrV σ i (vN (aV σ i) (y, (vn (aV σ i)).2)) := by
  have h : sL (wN σ i (rNv σ i)) 112 i y = wN σ i (y, (rNv σ i).2) := wN0
  rw [wN_eta, wN_V] at h
  exact h
theorem p113 : sL σ 113 i y = wrV σ i (vN (aV σ i) (jV (vn (aV σ i)), y, (vn (aV σ i)).2.2)) := by
  have h : sL (wN σ i (rNv σ i)) 113 i y = _ := wN1
  rw [wN_eta, wN_V] at h
  exact h
theorem p114 : sL σ 114 i y = wrV σ i (vN (aV σ i) (jV (vn (aV σ i)), jM (vn (aV σ i)), y, (vn (aV σ i)).2.2.2)) := by
  have h : sL (wN σ i (rNv σ i)) 114 i y = _ := wN2
  rw [wN_eta, wN_V] at h
  exact h
theorem p115 : sL σ 115 i y = wrV σ i (vN (aV σ i) (jV (vn (aV σ i)), jM (vn (aV σ i)), jA (vn (aV σ i)), y, (vn (aV σ i)).2.2.2.2)) := by
  have h : sL (wN σ i (rNv σ i)) 115 i y = _ := wN3
  rw [wN_eta, wN_V] at h
  exact h
theorem p116 : sL σ 116 i y = wrV σ i (vN (aV σ i) (jV (vn (aV σ i)), jM (vn (aV σ i)), jA (vn (aV σ i)), jB (vn (aV σ i)), y, jD (vn (aV σ i)))) := by
  have h : sL (wN σ i (rNv σ i)) 116 i y = _ := wN4
  rw [wN_eta, wN_V] at h
  exact h
theorem p117 : sL σ 117 i y = wrV σ i (vN (aV σ i) (jV (vn (aV σ i)), jM (vn (aV σ i)), jA (vn (aV σ i)), jB (vn (aV σ i)), jC (vn (aV σ i)), y)) := by
  have h : sL (wN σ i (rNv σ i)) 117 i y = _ := wN5
  rw [wN_eta, wN_V] at h
  exact h
end P6
set_option maxHeartbeats 4000000 in
theorem T451 {z x y : Int} {σ : MS} (hz : inB z) (hx : inB x) (hy : inB y) : MM 451 [mR (some 80), mI z, mI x, mI y] σ = some (none, wrV σ z.toNat (numV (tdN (mulN (vn (aV σ x.toNat)) (vn (aV σ y.toNat)))))) := by
  unfold mulN
  by_cases cx : gL σ 113 x.toNat = 0#64
  · by_cases cy : gL σ 113 y.toNat = 0#64
    · rw [if_pos (show isC (vn (aV σ x.toNat)) ∧ isC (vn (aV σ y.toNat)) from ⟨cx, cy⟩), tdN_cst]
      simp only [← q112]
      simp only [M451, e451_0, e451_5, e451_13, e451_34, e451_35, e451_51, e451_67, e451_82, e451_97, e451_100, e451_105, e451_127, e451_161, Option.getD_some, Option.bind_some, Option.toList_some, Option.toList_none, List.cons_append, List.nil_append, and_self, and_true, true_and, false_and, and_false, ite_self, not_true_eq_false, not_false_eq_true, reduceIte, Nat.reduceEqDiff, ab_I, ab_L, ab_R, ao_I, ao_L, ao_R, gL_sL, gI_sI, gR_sR, gI_sL, gI_sR, gL_sI, gL_sR, gR_sI, gR_sL, g_112, g_113, g_114, g_115, hx.1, hx.2, hy.1, hy.2, T439 hx.1 hx.2, T439 hy.1 hy.2, b2_0', b2_n', cx, cy, T433 hz.1 hz.2]
    · rw [if_neg (show ¬ (isC (vn (aV σ x.toNat)) ∧ isC (vn (aV σ y.toNat))) from fun q => cy q.2)]
      simp only [← q112, ← q113, ← q114, ← q115]
      have l1 := lowZ_le (gL σ 112 x.toNat ||| gL σ 113 x.toNat)
      have l2 := lowZ_le (gL σ 112 y.toNat ||| gL σ 113 y.toNat)
      have e1 : w32 ((lowZ (gL σ 112 x.toNat ||| gL σ 113 x.toNat) : Int) + (lowZ (gL σ 112 y.toNat ||| gL σ 113 y.toNat) : Int)) = ((lowZ (gL σ 112 x.toNat ||| gL σ 113 x.toNat) + lowZ (gL σ 112 y.toNat ||| gL σ 113 y.toNat) : Nat) : Int) := by rw [w32_i (by omega) (by omega)]; omega
      rcases Nat.lt_or_ge (lowZ (gL σ 112 x.toNat ||| gL σ 113 x.toNat) + lowZ (gL σ 112 y.toNat ||| gL σ 113 y.toNat)) 64 with c0 | c0
      · by_cases c1 : cF < gL σ 115 x.toNat <;> by_cases c2 : cF < gL σ 115 y.toNat
        all_goals (simp only [M451, e451_0, e451_5, e451_13, e451_34, e451_35, e451_51, e451_67, e451_82, e451_97, e451_100, e451_105, e451_127, e451_161, Option.getD_some, Option.bind_some, Option.toList_some, Option.toList_none, List.cons_append, List.nil_append, and_self, and_true, true_and, false_and, and_false, ite_self, not_true_eq_false, not_false_eq_true, reduceIte, Nat.reduceEqDiff, ab_I, ab_L, ab_R, ao_I, ao_L, ao_R, gL_sL, gI_sI, gR_sR, gI_sL, gI_sR, gL_sI, gL_sR, gR_sI, gR_sL, g_112, g_113, g_114, g_115, hx.1, hx.2, hy.1, hy.2, T439 hx.1 hx.2, T439 hy.1 hy.2, b2_0', b2_n', eq_true cx, cy, oneI, T450, e1, T389, iL_F, iL_m1, c1, c2, T448 hz.1 hz.2, show (((lowZ (gL σ 112 x.toNat ||| gL σ 113 x.toNat) + lowZ (gL σ 112 y.toNat ||| gL σ 113 y.toNat) : Nat) : Int) < 64) = True from eq_true (by omega), lShl_k cAll c0] <;> simp [c1, c2, c0, show ¬ 64 ≤ lowZ (gL σ 112 x.toNat ||| gL σ 113 x.toNat) + lowZ (gL σ 112 y.toNat ||| gL σ 113 y.toNat) by omega])
      · by_cases c1 : cF < gL σ 115 x.toNat <;> by_cases c2 : cF < gL σ 115 y.toNat
        all_goals (simp only [M451, e451_0, e451_5, e451_13, e451_34, e451_35, e451_51, e451_67, e451_82, e451_97, e451_100, e451_105, e451_127, e451_161, Option.getD_some, Option.bind_some, Option.toList_some, Option.toList_none, List.cons_append, List.nil_append, and_self, and_true, true_and, false_and, and_false, ite_self, not_true_eq_false, not_false_eq_true, reduceIte, Nat.reduceEqDiff, ab_I, ab_L, ab_R, ao_I, ao_L, ao_R, gL_sL, gI_sI, gR_sR, gI_sL, gI_sR, gL_sI, gL_sR, gR_sI, gR_sL, g_112, g_113, g_114, g_115, hx.1, hx.2, hy.1, hy.2, T439 hx.1 hx.2, T439 hy.1 hy.2, b2_0', b2_n', eq_true cx, cy, oneI, T450, e1, T389, iL_F, iL_m1, c1, c2, T448 hz.1 hz.2, show (((lowZ (gL σ 112 x.toNat ||| gL σ 113 x.toNat) + lowZ (gL σ 112 y.toNat ||| gL σ 113 y.toNat) : Nat) : Int) < 64) = False from eq_false (by omega)] <;> simp [c1, c2, c0, c0])
  · rw [if_neg (show ¬ (isC (vn (aV σ x.toNat)) ∧ isC (vn (aV σ y.toNat))) from fun q => cx q.1)]
    simp only [← q112, ← q113, ← q114, ← q115]
    have l1 := lowZ_le (gL σ 112 x.toNat ||| gL σ 113 x.toNat)
    have l2 := lowZ_le (gL σ 112 y.toNat ||| gL σ 113 y.toNat)
    have e1 : w32 ((lowZ (gL σ 112 x.toNat ||| gL σ 113 x.toNat) : Int) + (lowZ (gL σ 112 y.toNat ||| gL σ 113 y.toNat) : Int)) = ((lowZ (gL σ 112 x.toNat ||| gL σ 113 x.toNat) + lowZ (gL σ 112 y.toNat ||| gL σ 113 y.toNat) : Nat) : Int) := by rw [w32_i (by omega) (by omega)]; omega
    rcases Nat.lt_or_ge (lowZ (gL σ 112 x.toNat ||| gL σ 113 x.toNat) + lowZ (gL σ 112 y.toNat ||| gL σ 113 y.toNat)) 64 with c0 | c0
    · by_cases c1 : cF < gL σ 115 x.toNat <;> by_cases c2 : cF < gL σ 115 y.toNat
      all_goals (simp only [M451, e451_0, e451_5, e451_13, e451_34, e451_35, e451_51, e451_67, e451_82, e451_97, e451_100, e451_105, e451_127, e451_161, Option.getD_some, Option.bind_some, Option.toList_some, Option.toList_none, List.cons_append, List.nil_append, and_self, and_true, true_and, false_and, and_false, ite_self, not_true_eq_false, not_false_eq_true, reduceIte, Nat.reduceEqDiff, ab_I, ab_L, ab_R, ao_I, ao_L, ao_R, gL_sL, gI_sI, gR_sR, gI_sL, gI_sR, gL_sI, gL_sR, gR_sI, gR_sL, g_112, g_113, g_114, g_115, hx.1, hx.2, hy.1, hy.2, T439 hx.1 hx.2, T439 hy.1 hy.2, b2_0', b2_n', cx, oneI, T450, e1, T389, iL_F, iL_m1, c1, c2, T448 hz.1 hz.2, show (((lowZ (gL σ 112 x.toNat ||| gL σ 113 x.toNat) + lowZ (gL σ 112 y.toNat ||| gL σ 113 y.toNat) : Nat) : Int) < 64) = True from eq_true (by omega), lShl_k cAll c0] <;> simp [c1, c2, c0, show ¬ 64 ≤ lowZ (gL σ 112 x.toNat ||| gL σ 113 x.toNat) + lowZ (gL σ 112 y.toNat ||| gL σ 113 y.toNat) by omega])
    · by_cases c1 : cF < gL σ 115 x.toNat <;> by_cases c2 : cF < gL σ 115 y.toNat
      all_goals (simp only [M451, e451_0, e451_5, e451_13, e451_34, e451_35, e451_51, e451_67, e451_82, e451_97, e451_100, e451_105, e451_127, e451_161, Option.getD_some, Option.bind_some, Option.toList_some, Option.toList_none, List.cons_append, List.nil_append, and_self, and_true, true_and, false_and, and_false, ite_self, not_true_eq_false, not_false_eq_true, reduceIte, Nat.reduceEqDiff, ab_I, ab_L, ab_R, ao_I, ao_L, ao_R, gL_sL, gI_sI, gR_sR, gI_sL, gI_sR, gL_sI, gL_sR, gR_sI, gR_sL, g_112, g_113, g_114, g_115, hx.1, hx.2, hy.1, hy.2, T439 hx.1 hx.2, T439 hy.1 hy.2, b2_0', b2_n', cx, oneI, T450, e1, T389, iL_F, iL_m1, c1, c2, T448 hz.1 hz.2, show (((lowZ (gL σ 112 x.toNat ||| gL σ 113 x.toNat) + lowZ (gL σ 112 y.toNat ||| gL σ 113 y.toNat) : Nat) : Int) < 64) = False from eq_false (by omega)] <;> simp [c1, c2, c0, c0])
theorem T453 {off z x y : Int} {c : Int} {σ : MS} (hc : c = 48 ∨ c = 144) (ho : off = 0 ∨ off = 1) (hz : inB z) (hx : inB x) (hy : inB y) : MM 453 [mR (some 80), mI c, mI off, mI z, mI x, mI y] σ = some (none, wrV σ z.toNat (numV (opN c off (vn (aV σ x.toNat)) (vn (aV σ y.toNat))))) := by
  have w243 : ∀ (v : MV) (τ : MS), RR (lkB tb453) (B453_243, [some (mR (some 80)), some (mI c), some (mI off), some (mI z), some (mI x), some (mI y), some v], [], τ) = some (none, τ) := fun v τ => RR_q (e453_243 (x1 := c) (x2 := off) (x3 := z) (x4 := x) (x5 := y) (σ := τ)) (lq_cons (Or.inr rfl) (lq_cons (Or.inr rfl) (lq_cons (Or.inr rfl) (lq_cons (Or.inr rfl) (lq_cons (Or.inr rfl) (lq_cons (Or.inr rfl) (lq_cons (Or.inl rfl) lq_nil)))))))
  have okc : okC c off := ⟨by omega, fun _ => ho, fun e => by omega⟩
  have hop : opN c off (vn (aV σ x.toNat)) (vn (aV σ y.toNat)) = if off = 1 then (if isC (vn (aV σ x.toNat)) ∧ isC (vn (aV σ y.toNat)) then cstN (reck c off true (jV (vn (aV σ x.toNat))) (jV (vn (aV σ y.toNat)))) else anyN) else if c = 48 then tdN (divN (vn (aV σ x.toNat)) (vn (aV σ y.toNat))) else tdN (remN (vn (aV σ x.toNat)) (vn (aV σ y.toNat))) := by
    unfold opN
    rw [if_neg (by omega), if_neg (by omega), if_neg (by omega), if_pos hc]
  have hr : reckA c off true (gL σ 112 x.toNat) (gL σ 112 y.toNat) = reck c off true (gL σ 112 x.toNat) (gL σ 112 y.toNat) := by
    unfold reckA
    rw [if_neg (by omega), if_neg (by omega)]
  rw [hop]
  unfold divN remN
  simp only [isC, ← q112, ← q113, ← q114, ← q115]
  by_cases cx : gL σ 113 x.toNat = 0#64 <;> by_cases cy : gL σ 113 y.toNat = 0#64
  · have e : MM 453 [mR (some 80), mI c, mI off, mI z, mI x, mI y] σ = some (none, wrV σ z.toNat (numV (cstN (reck c off true (gL σ 112 x.toNat) (gL σ 112 y.toNat))))) := by
      rw [← hr]
      simp only [M453, e453_0, e453_6, e453_15, e453_40, e453_43, e453_46, e453_56, e453_71, e453_90, e453_91, e453_122, e453_126, e453_148, e453_158, e453_164, e453_173, e453_192, e453_193, e453_227, e453_237, e453_243, Option.getD_some, Option.bind_some, Option.toList_some, Option.toList_none, List.cons_append, List.nil_append, and_self, and_true, true_and, false_and, and_false, ite_self, not_true_eq_false, not_false_eq_true, reduceIte, Nat.reduceEqDiff, ab_I, ab_L, ab_R, ao_I, ao_L, ao_R, gL_sL, gI_sI, gR_sR, gI_sL, gI_sR, gL_sI, gL_sR, gR_sI, gR_sL, g_112, g_114, g_115, hx.1, hx.2, hy.1, hy.2, T439 hx.1 hx.2, T439 hy.1 hy.2, b2_0', b2_n', cx, cy, T428w okc, T433 hz.1 hz.2, w243]
    rw [e]
    rcases hc with rfl | rfl <;> rcases ho with rfl | rfl <;> simp [cx, cy, reck, tdN_cst]
  all_goals (rcases hc with rfl | rfl <;> rcases ho with rfl | rfl <;> by_cases d : gL σ 112 y.toNat = 0#64)
  all_goals (simp only [M453, e453_0, e453_6, e453_15, e453_40, e453_43, e453_46, e453_56, e453_71, e453_90, e453_91, e453_122, e453_126, e453_148, e453_158, e453_164, e453_173, e453_192, e453_193, e453_227, e453_237, e453_243, Option.getD_some, Option.bind_some, Option.toList_some, Option.toList_none, List.cons_append, List.nil_append, and_self, and_true, true_and, false_and, and_false, ite_self, not_true_eq_false, not_false_eq_true, reduceIte, Nat.reduceEqDiff, ab_I, ab_L, ab_R, ao_I, ao_L, ao_R, gL_sL, gI_sI, gR_sR, gI_sL, gI_sR, gL_sI, gL_sR, gR_sI, gR_sL, g_112, g_114, g_115, hx.1, hx.2, hy.1, hy.2, T439 hx.1 hx.2, T439 hy.1 hy.2, b2_0', b2_n', oneI, cx, cy, d, T423, T440, T436 hz.1 hz.2, T448 hz.1 hz.2, iL_m1, w243] <;> simp [cx, cy, d])
abbrev okO (c off : Int) : Prop := isCode c ∧ (c = 48 ∨ c = 144 → off = 0 ∨ off = 1)
theorem dd0 : (decide (¬ (0 : Int) = 0)) = false := rfl
theorem dd1 : (decide (¬ (1 : Int) = 0)) = true := rfl
theorem opN_shl {o : Int} {x y : N6} : opN 96 o x y = if isC y then tdN (shlN x ((jV y).toNat % 64)) else anyN := rfl
theorem opN_shr {o : Int} {x y : N6} : opN 112 o x y = if isC y then tdN (shrN x ((jV y).toNat % 64)) else tdN (shrA x) := rfl
theorem opN_sar {o : Int} {x y : N6} : opN 192 o x y = if isC y then tdN (sarN x ((jV y).toNat % 64)) else tdN (sarA x) := rfl
set_option maxHeartbeats 16000000 in
theorem T452 {c off z x y : Int} {σ : MS} (hc : okO c off) (hz : inB z) (hx : inB x) (hy : inB y) : MM 452 [mR (some 80), mI c, mI off, mI z, mI x, mI y] σ = some (none, wrV σ z.toNat (numV (opN c off (vn (aV σ x.toNat)) (vn (aV σ y.toNat))))) := by
  have pre : ∃ v : Int, MM 452 [mR (some 80), mI c, mI off, mI z, mI x, mI y] σ = RR (lkB tb452) (B452_23, [some (mR (some 80)), some (mI c), some (mI off), some (mI z), some (mI x), some (mI y), none, none, none, none, none, none, none, none, none, none], [mI v], σ) := by
    by_cases cx : gL σ 113 x.toNat = 0#64
    · by_cases cy : gL σ 113 y.toNat = 0#64
      · exact ⟨1, by simp only [M452, e452_0, e452_6, e452_15, Option.getD_some, Option.bind_some, Option.toList_some, Option.toList_none, List.cons_append, List.nil_append, and_self, and_true, true_and, false_and, and_false, ite_self, not_true_eq_false, not_false_eq_true, reduceIte, Nat.reduceEqDiff, ab_I, ab_L, ab_R, ao_I, ao_L, ao_R, gL_sL, gI_sI, gR_sR, gI_sL, gI_sR, gL_sI, gL_sR, gR_sI, gR_sL, T439 hx.1 hx.2, T439 hy.1 hy.2, b2_0', cx, cy]⟩
      · exact ⟨0, by simp only [M452, e452_0, e452_6, e452_15, e452_22, Option.getD_some, Option.bind_some, Option.toList_some, Option.toList_none, List.cons_append, List.nil_append, and_self, and_true, true_and, false_and, and_false, ite_self, not_true_eq_false, not_false_eq_true, reduceIte, Nat.reduceEqDiff, ab_I, ab_L, ab_R, ao_I, ao_L, ao_R, gL_sL, gI_sI, gR_sR, gI_sL, gI_sR, gL_sI, gL_sR, gR_sI, gR_sL, T439 hx.1 hx.2, T439 hy.1 hy.2, b2_0', cx, cy]⟩
    · exact ⟨0, by simp only [M452, e452_0, e452_6, e452_15, e452_22, Option.getD_some, Option.bind_some, Option.toList_some, Option.toList_none, List.cons_append, List.nil_append, and_self, and_true, true_and, false_and, and_false, ite_self, not_true_eq_false, not_false_eq_true, reduceIte, Nat.reduceEqDiff, ab_I, ab_L, ab_R, ao_I, ao_L, ao_R, gL_sL, gI_sI, gR_sR, gI_sL, gI_sR, gL_sI, gL_sR, gR_sI, gR_sL, T439 hx.1 hx.2, T439 hy.1 hy.2, b2_0', cx]⟩
  obtain ⟨v, pe⟩ := pre
  rw [pe]
  obtain ⟨h1, h2⟩ := hc
  rcases h1 with rfl | rfl | rfl | rfl | rfl | rfl | rfl | rfl | rfl | rfl | rfl
  · simp only [e452_0, e452_6, e452_15, e452_22, e452_23, e452_137, e452_147, e452_157, e452_169, e452_235, e452_246, e452_326, e452_332, e452_385, e452_392, e452_446, e452_472, e452_480, e452_487, e452_539, e452_563, e452_570, e452_622, e452_658, e452_683, e452_686, Option.getD_some, Option.bind_some, Option.toList_some, Option.toList_none, List.cons_append, List.nil_append, and_self, and_true, true_and, false_and, and_false, ite_self, not_true_eq_false, not_false_eq_true, reduceIte, Nat.reduceEqDiff, ab_I, ab_L, ab_R, ao_I, ao_L, ao_R, gL_sL, gI_sI, gR_sR, gI_sL, gI_sR, gL_sI, gL_sR, gR_sI, gR_sL, g_112, hy.1, hy.2, Int.reduceEq, T447 hz hx hy]
    rfl
  · simp only [e452_0, e452_6, e452_15, e452_22, e452_23, e452_137, e452_147, e452_157, e452_169, e452_235, e452_246, e452_326, e452_332, e452_385, e452_392, e452_446, e452_472, e452_480, e452_487, e452_539, e452_563, e452_570, e452_622, e452_658, e452_683, e452_686, Option.getD_some, Option.bind_some, Option.toList_some, Option.toList_none, List.cons_append, List.nil_append, and_self, and_true, true_and, false_and, and_false, ite_self, not_true_eq_false, not_false_eq_true, reduceIte, Nat.reduceEqDiff, ab_I, ab_L, ab_R, ao_I, ao_L, ao_R, gL_sL, gI_sI, gR_sR, gI_sL, gI_sR, gL_sI, gL_sR, gR_sI, gR_sL, g_112, hy.1, hy.2, Int.reduceEq, T449 hz hx hy]
    rfl
  · simp only [e452_0, e452_6, e452_15, e452_22, e452_23, e452_137, e452_147, e452_157, e452_169, e452_235, e452_246, e452_326, e452_332, e452_385, e452_392, e452_446, e452_472, e452_480, e452_487, e452_539, e452_563, e452_570, e452_622, e452_658, e452_683, e452_686, Option.getD_some, Option.bind_some, Option.toList_some, Option.toList_none, List.cons_append, List.nil_append, and_self, and_true, true_and, false_and, and_false, ite_self, not_true_eq_false, not_false_eq_true, reduceIte, Nat.reduceEqDiff, ab_I, ab_L, ab_R, ao_I, ao_L, ao_R, gL_sL, gI_sI, gR_sR, gI_sL, gI_sR, gL_sI, gL_sR, gR_sI, gR_sL, g_112, hy.1, hy.2, Int.reduceEq, T451 hz hx hy]
    rfl
  · simp only [e452_0, e452_6, e452_15, e452_22, e452_23, e452_137, e452_147, e452_157, e452_169, e452_235, e452_246, e452_326, e452_332, e452_385, e452_392, e452_446, e452_472, e452_480, e452_487, e452_539, e452_563, e452_570, e452_622, e452_658, e452_683, e452_686, Option.getD_some, Option.bind_some, Option.toList_some, Option.toList_none, List.cons_append, List.nil_append, and_self, and_true, true_and, false_and, and_false, ite_self, not_true_eq_false, not_false_eq_true, reduceIte, Nat.reduceEqDiff, ab_I, ab_L, ab_R, ao_I, ao_L, ao_R, gL_sL, gI_sI, gR_sR, gI_sL, gI_sR, gL_sI, gL_sR, gR_sI, gR_sL, g_112, hy.1, hy.2, Int.reduceEq, T453 (Or.inl rfl) (h2 (Or.inl rfl)) hz hx hy]
  · simp only [e452_0, e452_6, e452_15, e452_22, e452_23, e452_137, e452_147, e452_157, e452_169, e452_235, e452_246, e452_326, e452_332, e452_385, e452_392, e452_446, e452_472, e452_480, e452_487, e452_539, e452_563, e452_570, e452_622, e452_658, e452_683, e452_686, Option.getD_some, Option.bind_some, Option.toList_some, Option.toList_none, List.cons_append, List.nil_append, and_self, and_true, true_and, false_and, and_false, ite_self, not_true_eq_false, not_false_eq_true, reduceIte, Nat.reduceEqDiff, ab_I, ab_L, ab_R, ao_I, ao_L, ao_R, gL_sL, gI_sI, gR_sR, gI_sL, gI_sR, gL_sI, gL_sR, gR_sI, gR_sL, g_112, g_113, g_114, g_115, g_116, g_117, hz.1, hz.2, hx.1, hx.2, hy.1, hy.2, Int.reduceEq, T441, T448 hz.1 hz.2, iL_m1, xor_all, dd0, dd1]
    rfl
  · simp only [e452_0, e452_6, e452_15, e452_22, e452_23, e452_137, e452_147, e452_157, e452_169, e452_235, e452_246, e452_326, e452_332, e452_385, e452_392, e452_446, e452_472, e452_480, e452_487, e452_539, e452_563, e452_570, e452_622, e452_658, e452_683, e452_686, Option.getD_some, Option.bind_some, Option.toList_some, Option.toList_none, List.cons_append, List.nil_append, and_self, and_true, true_and, false_and, and_false, ite_self, not_true_eq_false, not_false_eq_true, reduceIte, Nat.reduceEqDiff, ab_I, ab_L, ab_R, ao_I, ao_L, ao_R, gL_sL, gI_sI, gR_sR, gI_sL, gI_sR, gL_sI, gL_sR, gR_sI, gR_sL, g_112, g_113, g_114, g_115, g_116, g_117, hz.1, hz.2, hx.1, hx.2, hy.1, hy.2, Int.reduceEq, T440, T448 hz.1 hz.2, iL_m1, xor_all, dd0, dd1]
    rfl
  · rw [opN_shl]
    unfold shlN
    by_cases cy : gL σ 113 y.toNat = 0#64
    · rw [if_pos (show isC (vn (aV σ y.toNat)) from cy)]
      simp only [← q112, ← q113, ← q114, ← q115]
      by_cases c1 : gL σ 115 x.toNat <<< ((gL σ 112 y.toNat).toNat % 64) >>> ((gL σ 112 y.toNat).toNat % 64) = gL σ 115 x.toNat
      all_goals (simp only [e452_0, e452_6, e452_15, e452_22, e452_23, e452_137, e452_147, e452_157, e452_169, e452_235, e452_246, e452_326, e452_332, e452_385, e452_392, e452_446, e452_472, e452_480, e452_487, e452_539, e452_563, e452_570, e452_622, e452_658, e452_683, e452_686, Option.getD_some, Option.bind_some, Option.toList_some, Option.toList_none, List.cons_append, List.nil_append, and_self, and_true, true_and, false_and, and_false, ite_self, not_true_eq_false, not_false_eq_true, reduceIte, Nat.reduceEqDiff, ab_I, ab_L, ab_R, ao_I, ao_L, ao_R, gL_sL, gI_sI, gR_sR, gI_sL, gI_sR, gL_sI, gL_sR, gR_sI, gR_sL, g_112, g_113, g_114, g_115, g_116, g_117, hz.1, hz.2, hx.1, hx.2, hy.1, hy.2, Int.reduceEq, T439 hy.1 hy.2, b2_0', b2_n', cy, lI63, lShl_m (x := gL σ 112 x.toNat) (n := (gL σ 112 y.toNat).toNat) (m := 64) (by omega) (by omega), lShl_m (x := gL σ 113 x.toNat) (n := (gL σ 112 y.toNat).toNat) (m := 64) (by omega) (by omega), lShl_m (x := gL σ 114 x.toNat) (n := (gL σ 112 y.toNat).toNat) (m := 64) (by omega) (by omega), lShl_m (x := gL σ 115 x.toNat) (n := (gL σ 112 y.toNat).toNat) (m := 64) (by omega) (by omega), lUsh_m (x := gL σ 115 x.toNat <<< ((gL σ 112 y.toNat).toNat % 64)) (n := (gL σ 112 y.toNat).toNat) (m := 64) (by omega) (by omega), T448 hz.1 hz.2, decide_true, decide_false, dd0, dd1] <;> simp [c1])
    · rw [if_neg (show ¬ isC (vn (aV σ y.toNat)) from cy)]
      try simp only [← q112, ← q113, ← q114, ← q115]
      simp only [e452_0, e452_6, e452_15, e452_22, e452_23, e452_137, e452_147, e452_157, e452_169, e452_235, e452_246, e452_326, e452_332, e452_385, e452_392, e452_446, e452_472, e452_480, e452_487, e452_539, e452_563, e452_570, e452_622, e452_658, e452_683, e452_686, Option.getD_some, Option.bind_some, Option.toList_some, Option.toList_none, List.cons_append, List.nil_append, and_self, and_true, true_and, false_and, and_false, ite_self, not_true_eq_false, not_false_eq_true, reduceIte, Nat.reduceEqDiff, ab_I, ab_L, ab_R, ao_I, ao_L, ao_R, gL_sL, gI_sI, gR_sR, gI_sL, gI_sR, gL_sI, gL_sR, gR_sI, gR_sL, g_112, g_113, g_114, g_115, g_116, g_117, hz.1, hz.2, hx.1, hx.2, hy.1, hy.2, Int.reduceEq, T439 hy.1 hy.2, b2_0', b2_n', cy, T436 hz.1 hz.2]
  · rw [opN_shr]
    unfold shrN shrA
    by_cases cy : gL σ 113 y.toNat = 0#64
    · rw [if_pos (show isC (vn (aV σ y.toNat)) from cy)]
      simp only [← q112, ← q113, ← q114, ← q115]
      simp only [e452_0, e452_6, e452_15, e452_22, e452_23, e452_137, e452_147, e452_157, e452_169, e452_235, e452_246, e452_326, e452_332, e452_385, e452_392, e452_446, e452_472, e452_480, e452_487, e452_539, e452_563, e452_570, e452_622, e452_658, e452_683, e452_686, Option.getD_some, Option.bind_some, Option.toList_some, Option.toList_none, List.cons_append, List.nil_append, and_self, and_true, true_and, false_and, and_false, ite_self, not_true_eq_false, not_false_eq_true, reduceIte, Nat.reduceEqDiff, ab_I, ab_L, ab_R, ao_I, ao_L, ao_R, gL_sL, gI_sI, gR_sR, gI_sL, gI_sR, gL_sI, gL_sR, gR_sI, gR_sL, g_112, g_113, g_114, g_115, g_116, g_117, hz.1, hz.2, hx.1, hx.2, hy.1, hy.2, Int.reduceEq, T439 hy.1 hy.2, b2_0', b2_n', cy, lI63, lUsh_m (x := gL σ 112 x.toNat) (n := (gL σ 112 y.toNat).toNat) (m := 64) (by omega) (by omega), lUsh_m (x := gL σ 113 x.toNat) (n := (gL σ 112 y.toNat).toNat) (m := 64) (by omega) (by omega), lUsh_m (x := gL σ 114 x.toNat) (n := (gL σ 112 y.toNat).toNat) (m := 64) (by omega) (by omega), lUsh_m (x := gL σ 115 x.toNat) (n := (gL σ 112 y.toNat).toNat) (m := 64) (by omega) (by omega), T448 hz.1 hz.2, decide_true, decide_false, dd0, dd1]
    · rw [if_neg (show ¬ isC (vn (aV σ y.toNat)) from cy)]
      try simp only [← q112, ← q113, ← q114, ← q115]
      simp only [e452_0, e452_6, e452_15, e452_22, e452_23, e452_137, e452_147, e452_157, e452_169, e452_235, e452_246, e452_326, e452_332, e452_385, e452_392, e452_446, e452_472, e452_480, e452_487, e452_539, e452_563, e452_570, e452_622, e452_658, e452_683, e452_686, Option.getD_some, Option.bind_some, Option.toList_some, Option.toList_none, List.cons_append, List.nil_append, and_self, and_true, true_and, false_and, and_false, ite_self, not_true_eq_false, not_false_eq_true, reduceIte, Nat.reduceEqDiff, ab_I, ab_L, ab_R, ao_I, ao_L, ao_R, gL_sL, gI_sI, gR_sR, gI_sL, gI_sR, gL_sI, gL_sR, gR_sI, gR_sL, g_112, g_113, g_114, g_115, g_116, g_117, hz.1, hz.2, hx.1, hx.2, hy.1, hy.2, Int.reduceEq, T439 hy.1 hy.2, b2_0', b2_n', cy, T448 hz.1 hz.2, iL_m1, decide_true, decide_false, dd0, dd1]
  · simp only [e452_0, e452_6, e452_15, e452_22, e452_23, e452_137, e452_147, e452_157, e452_169, e452_235, e452_246, e452_326, e452_332, e452_385, e452_392, e452_446, e452_472, e452_480, e452_487, e452_539, e452_563, e452_570, e452_622, e452_658, e452_683, e452_686, Option.getD_some, Option.bind_some, Option.toList_some, Option.toList_none, List.cons_append, List.nil_append, and_self, and_true, true_and, false_and, and_false, ite_self, not_true_eq_false, not_false_eq_true, reduceIte, Nat.reduceEqDiff, ab_I, ab_L, ab_R, ao_I, ao_L, ao_R, gL_sL, gI_sI, gR_sR, gI_sL, gI_sR, gL_sI, gL_sR, gR_sI, gR_sL, g_112, hy.1, hy.2, Int.reduceEq, T453 (Or.inr rfl) (h2 (Or.inr rfl)) hz hx hy]
  · simp only [e452_0, e452_6, e452_15, e452_22, e452_23, e452_137, e452_147, e452_157, e452_169, e452_235, e452_246, e452_326, e452_332, e452_385, e452_392, e452_446, e452_472, e452_480, e452_487, e452_539, e452_563, e452_570, e452_622, e452_658, e452_683, e452_686, Option.getD_some, Option.bind_some, Option.toList_some, Option.toList_none, List.cons_append, List.nil_append, and_self, and_true, true_and, false_and, and_false, ite_self, not_true_eq_false, not_false_eq_true, reduceIte, Nat.reduceEqDiff, ab_I, ab_L, ab_R, ao_I, ao_L, ao_R, gL_sL, gI_sI, gR_sR, gI_sL, gI_sR, gL_sI, gL_sR, gR_sI, gR_sL, g_112, g_113, g_114, g_115, g_116, g_117, hz.1, hz.2, hx.1, hx.2, hy.1, hy.2, Int.reduceEq, T448 hz.1 hz.2, iL_m1, xor_all, dd0, dd1]
    rfl
  · rw [opN_sar]
    unfold sarN sarA
    by_cases cy : gL σ 113 y.toNat = 0#64
    · rw [if_pos (show isC (vn (aV σ y.toNat)) from cy)]
      simp only [← q112, ← q113, ← q114, ← q115, ← q116, ← q117]
      simp only [e452_0, e452_6, e452_15, e452_22, e452_23, e452_137, e452_147, e452_157, e452_169, e452_235, e452_246, e452_326, e452_332, e452_385, e452_392, e452_446, e452_472, e452_480, e452_487, e452_539, e452_563, e452_570, e452_622, e452_658, e452_683, e452_686, Option.getD_some, Option.bind_some, Option.toList_some, Option.toList_none, List.cons_append, List.nil_append, and_self, and_true, true_and, false_and, and_false, ite_self, not_true_eq_false, not_false_eq_true, reduceIte, Nat.reduceEqDiff, ab_I, ab_L, ab_R, ao_I, ao_L, ao_R, gL_sL, gI_sI, gR_sR, gI_sL, gI_sR, gL_sI, gL_sR, gR_sI, gR_sL, g_112, g_113, g_114, g_115, g_116, g_117, hz.1, hz.2, hx.1, hx.2, hy.1, hy.2, Int.reduceEq, T439 hy.1 hy.2, b2_0', b2_n', cy, lI63, lShr_m (x := gL σ 112 x.toNat) (n := (gL σ 112 y.toNat).toNat) (m := 64) (by omega) (by omega), lShr_m (x := gL σ 113 x.toNat) (n := (gL σ 112 y.toNat).toNat) (m := 64) (by omega) (by omega), lShr_m (x := gL σ 116 x.toNat) (n := (gL σ 112 y.toNat).toNat) (m := 64) (by omega) (by omega), lShr_m (x := gL σ 117 x.toNat) (n := (gL σ 112 y.toNat).toNat) (m := 64) (by omega) (by omega), T448 hz.1 hz.2, decide_true, decide_false, dd0, dd1]
    · rw [if_neg (show ¬ isC (vn (aV σ y.toNat)) from cy)]
      have r1 : (if (jC (vn (aV σ x.toNat))).toInt < 0 then jC (vn (aV σ x.toNat)) else 0#64) = (if 0 ≤ (jC (vn (aV σ x.toNat))).toInt then 0#64 else jC (vn (aV σ x.toNat))) := by
        split <;> split <;> first | rfl | omega
      have r2 : (if 0 ≤ (jD (vn (aV σ x.toNat))).toInt then jD (vn (aV σ x.toNat)) else cAll) = (if (jD (vn (aV σ x.toNat))).toInt < 0 then cAll else jD (vn (aV σ x.toNat))) := by
        split <;> split <;> first | rfl | omega
      rw [r1, r2]
      try simp only [← q112, ← q113, ← q114, ← q115, ← q116, ← q117]
      by_cases c1 : 0 ≤ (gL σ 116 x.toNat).toInt <;> by_cases c2 : (gL σ 117 x.toNat).toInt < 0
      all_goals (simp only [e452_0, e452_6, e452_15, e452_22, e452_23, e452_137, e452_147, e452_157, e452_169, e452_235, e452_246, e452_326, e452_332, e452_385, e452_392, e452_446, e452_472, e452_480, e452_487, e452_539, e452_563, e452_570, e452_622, e452_658, e452_683, e452_686, Option.getD_some, Option.bind_some, Option.toList_some, Option.toList_none, List.cons_append, List.nil_append, and_self, and_true, true_and, false_and, and_false, ite_self, not_true_eq_false, not_false_eq_true, reduceIte, Nat.reduceEqDiff, ab_I, ab_L, ab_R, ao_I, ao_L, ao_R, gL_sL, gI_sI, gR_sR, gI_sL, gI_sR, gL_sI, gL_sR, gR_sI, gR_sL, g_112, g_113, g_114, g_115, g_116, g_117, hz.1, hz.2, hx.1, hx.2, hy.1, hy.2, Int.reduceEq, T439 hy.1 hy.2, b2_0', b2_n', cy, T448 hz.1 hz.2, iL_m1, t0, decide_true, decide_false, dd0, dd1, c1, c2])
-- FILE 29b.nar
/-! ===== W operations, what is DECIDED, and NARROWED, of the reference ===== -/
set_option maxHeartbeats 4000000 in
theorem T455 {c off z x y : Int} {σ : MS} (hc : okO c off) (hz : inB z) (hx : inB x) (hy : inB y) (hyn : ¬ y = 32659) (hzn : ¬ z = 32659 ∧ ¬ z = 32660) : ∃ p q : VL, MM 455 [mR (some 80), mI c, mI off, mI z, mI x, mI y] σ = some (none, wrV (wrV (wrV σ 32659 p) 32660 q) z.toNat (numV (opW c off (vn (aV σ x.toNat)) (vn (aV σ y.toNat))))) := by
  have k1 : (32659 : Int).toNat = 32659 := rfl
  have k2 : (32660 : Int).toNat = 32660 := rfl
  have b1 : inB 32659 := by decide
  have b2x : inB 32660 := by decide
  have hrk : ∀ a b : B64, reckA c off false a b = reck c off false a b := fun a b => by
    have := hc.1
    unfold reckA
    rw [if_neg (by omega), if_neg (by omega)]
  unfold opW
  generalize hX : cutT (vn (aV σ x.toNat)) = X
  generalize hY : cutT (vn (aV σ y.toNat)) = Y
  have ey : aV (wrV σ 32659 (numV X)) y.toNat = aV σ y.toNat := aV_ne (by omega)
  have s0 : MM 455 [mR (some 80), mI c, mI off, mI z, mI x, mI y] σ = RR (lkB tb455) (B455_18, [some (mR (some 80)), some (mI c), some (mI off), some (mI z), some (mI x), some (mI y)], [], wrV (wrV σ 32659 (numV X)) 32660 (numV Y)) := by
    simp only [M455, e455_0, e455_9, Option.getD_some, Option.bind_some, Option.toList_some, Option.toList_none, List.cons_append, List.nil_append, and_self, and_true, true_and, false_and, and_false, ite_self, not_true_eq_false, not_false_eq_true, reduceIte, Nat.reduceEqDiff, ab_I, ab_L, ab_R, ao_I, ao_L, ao_R, gL_sL, gI_sI, gR_sR, gI_sL, gI_sR, gL_sI, gL_sR, gR_sI, gR_sL, T454 b1 hx, k1, T454 b2x hy, k2, ey, hX, hY]
  rw [s0]
  generalize hτ : wrV (wrV σ 32659 (numV X)) 32660 (numV Y) = τ
  have a1 : aV τ 32659 = numV X := by rw [← hτ, aV_ne (by omega), aV_same]
  have a2 : aV τ 32660 = numV Y := by rw [← hτ, aV_same]
  have m1 : gL τ 113 32659 = jM X := by rw [q113, a1]; rfl
  have m2 : gL τ 113 32660 = jM Y := by rw [q113, a2]; rfl
  have v1 : gL τ 112 32659 = jV X := by rw [q112, a1]; rfl
  have v2 : gL τ 112 32660 = jV Y := by rw [q112, a2]; rfl
  by_cases q : c = 192 ∨ off = 1
  · rw [if_pos q]
    have s1 : RR (lkB tb455) (B455_18, [some (mR (some 80)), some (mI c), some (mI off), some (mI z), some (mI x), some (mI y)], [], τ) = RR (lkB tb455) (B455_30, [some (mR (some 80)), some (mI c), some (mI off), some (mI z), some (mI x), some (mI y)], [], τ) := by
      rw [e455_18]
      by_cases q1 : c = 192
      · rw [if_pos q1]
      · rw [if_neg q1, if_neg (by omega)]
    rw [s1]
    refine ⟨numV X, numV Y, ?_⟩
    rw [hτ]
    simp only [isC]
    by_cases cx : jM X = 0#64
    · by_cases cy : jM Y = 0#64
      · rw [if_pos ⟨cx, cy⟩, ← hrk]
        have okc : okC c off := by
          refine ⟨?_, hc.2, fun e => ?_⟩ <;> have := hc.1 <;> omega
        obtain ⟨r, hr1, hr2⟩ := T428n (a := jV X) (b := jV Y) (σ := τ) okc
        simp only [e455_30, e455_37, e455_47, e455_74, e455_81, e455_90, Option.getD_some, Option.bind_some, Option.toList_some, Option.toList_none, List.cons_append, List.nil_append, and_self, and_true, true_and, false_and, and_false, ite_self, not_true_eq_false, not_false_eq_true, reduceIte, Nat.reduceEqDiff, ab_I, ab_L, ab_R, ao_I, ao_L, ao_R, gL_sL, gI_sI, gR_sR, gI_sL, gI_sR, gL_sI, gL_sR, gR_sI, gR_sL, g_112, T439 b1.1 b1.2, T439 b2x.1 b2x.2, k1, k2, m1, m2, v1, v2, cx, cy, b2_0', hr1, iL_F, T433 hz.1 hz.2, Int.reduceLE, Int.reduceLT, hr2]
      · rw [if_neg (fun q => cy q.2)]
        simp only [e455_30, e455_37, e455_47, e455_84, e455_90, Option.getD_some, Option.bind_some, Option.toList_some, Option.toList_none, List.cons_append, List.nil_append, and_self, and_true, true_and, false_and, and_false, ite_self, not_true_eq_false, not_false_eq_true, reduceIte, Nat.reduceEqDiff, ab_I, ab_L, ab_R, ao_I, ao_L, ao_R, gL_sL, gI_sI, gR_sR, gI_sL, gI_sR, gL_sI, gL_sR, gR_sI, gR_sL, T439 b1.1 b1.2, T439 b2x.1 b2x.2, k1, k2, m1, m2, cx, cy, b2_0', T437 (n := 4) hz.1 hz.2 (by omega)]
        rw [show ((4 : Int)) = ((4 : Nat) : Int) from rfl, T437 hz.1 hz.2 (by omega)]
        simp only [e455_90, Option.getD_some, Option.bind_some, Option.toList_some, Option.toList_none, List.cons_append, List.nil_append, and_self, and_true, true_and, false_and, and_false, ite_self, not_true_eq_false, not_false_eq_true, reduceIte, Nat.reduceEqDiff, ab_I, ab_L, ab_R, ao_I, ao_L, ao_R, gL_sL, gI_sI, gR_sR, gI_sL, gI_sR, gL_sI, gL_sR, gR_sI, gR_sL]
    · rw [if_neg (fun q => cx q.1)]
      simp only [e455_30, e455_37, e455_84, e455_90, Option.getD_some, Option.bind_some, Option.toList_some, Option.toList_none, List.cons_append, List.nil_append, and_self, and_true, true_and, false_and, and_false, ite_self, not_true_eq_false, not_false_eq_true, reduceIte, Nat.reduceEqDiff, ab_I, ab_L, ab_R, ao_I, ao_L, ao_R, gL_sL, gI_sI, gR_sR, gI_sL, gI_sR, gL_sI, gL_sR, gR_sI, gR_sL, T439 b1.1 b1.2, k1, m1, cx, b2_0']
      rw [show ((4 : Int)) = ((4 : Nat) : Int) from rfl, T437 hz.1 hz.2 (by omega)]
      simp only [e455_90, Option.getD_some, Option.bind_some, Option.toList_some, Option.toList_none, List.cons_append, List.nil_append, and_self, and_true, true_and, false_and, and_false, ite_self, not_true_eq_false, not_false_eq_true, reduceIte, Nat.reduceEqDiff, ab_I, ab_L, ab_R, ao_I, ao_L, ao_R, gL_sL, gI_sI, gR_sR, gI_sL, gI_sR, gL_sI, gL_sR, gR_sI, gR_sL]
  · rw [if_neg q]
    have okd : okO c 0 := ⟨hc.1, fun _ => Or.inl rfl⟩
    have fin : ∀ (ρ : MS) (W : N6), aV ρ 32659 = numV X → aV ρ 32660 = numV W → RR (lkB tb455) (B455_132, [some (mR (some 80)), some (mI c), some (mI off), some (mI z), some (mI x), some (mI y)], [], ρ) = some (none, wrV ρ z.toNat (numV (cutT (opN c 0 X W)))) := by
      intro ρ W r1 r2
      simp only [e455_132, e455_145, e455_151, Option.getD_some, Option.bind_some, Option.toList_some, Option.toList_none, List.cons_append, List.nil_append, and_self, and_true, true_and, false_and, and_false, ite_self, not_true_eq_false, not_false_eq_true, reduceIte, Nat.reduceEqDiff, ab_I, ab_L, ab_R, ao_I, ao_L, ao_R, gL_sL, gI_sI, gR_sR, gI_sL, gI_sR, gL_sI, gL_sR, gR_sI, gR_sL, T452 okd hz b1 b2x, k1, k2, r1, r2, T454 hz hz, aV_same, wrV_same]
      rfl
    by_cases s : c = 96 ∨ c = 112
    · have s1 : RR (lkB tb455) (B455_18, [some (mR (some 80)), some (mI c), some (mI off), some (mI z), some (mI x), some (mI y)], [], τ) = RR (lkB tb455) (B455_103, [some (mR (some 80)), some (mI c), some (mI off), some (mI z), some (mI x), some (mI y)], [], τ) := by
        rw [e455_18, if_neg (by omega), if_pos (by omega)]
        by_cases q1 : c = 96
        · rw [if_pos q1]
        · rw [if_neg q1, if_neg (by omega)]
      rw [s1]
      by_cases cy : jM Y = 0#64
      · rw [if_pos (⟨s, cy⟩ : (c = 96 ∨ c = 112) ∧ isC Y)]
        refine ⟨numV X, numV (cstN (jV Y &&& 31#64)), ?_⟩
        have e1 : RR (lkB tb455) (B455_103, [some (mR (some 80)), some (mI c), some (mI off), some (mI z), some (mI x), some (mI y)], [], τ) = RR (lkB tb455) (B455_132, [some (mR (some 80)), some (mI c), some (mI off), some (mI z), some (mI x), some (mI y)], [], wrV τ 32660 (numV (cstN (jV Y &&& 31#64)))) := by
          simp only [e455_103, e455_110, Option.getD_some, Option.bind_some, Option.toList_some, Option.toList_none, List.cons_append, List.nil_append, and_self, and_true, true_and, false_and, and_false, ite_self, not_true_eq_false, not_false_eq_true, reduceIte, Nat.reduceEqDiff, ab_I, ab_L, ab_R, ao_I, ao_L, ao_R, gL_sL, gI_sI, gR_sR, gI_sL, gI_sR, gL_sI, gL_sR, gR_sI, gR_sL, g_112, T439 b2x.1 b2x.2, k2, m2, v2, cy, b2_0', T433 b2x.1 b2x.2, Int.reduceLE, Int.reduceLT]
          rfl
        rw [e1, fin _ (cstN (jV Y &&& 31#64)) (by rw [aV_ne (by omega), a1]) aV_same, ← hτ, wrV_same]
      · rw [if_neg (show ¬ ((c = 96 ∨ c = 112) ∧ isC Y) from fun q => cy q.2)]
        refine ⟨numV X, numV Y, ?_⟩
        have e1 : RR (lkB tb455) (B455_103, [some (mR (some 80)), some (mI c), some (mI off), some (mI z), some (mI x), some (mI y)], [], τ) = RR (lkB tb455) (B455_132, [some (mR (some 80)), some (mI c), some (mI off), some (mI z), some (mI x), some (mI y)], [], τ) := by
          simp only [e455_103, e455_110, Option.getD_some, Option.bind_some, Option.toList_some, Option.toList_none, List.cons_append, List.nil_append, and_self, and_true, true_and, false_and, and_false, ite_self, not_true_eq_false, not_false_eq_true, reduceIte, Nat.reduceEqDiff, ab_I, ab_L, ab_R, ao_I, ao_L, ao_R, gL_sL, gI_sI, gR_sR, gI_sL, gI_sR, gL_sI, gL_sR, gR_sI, gR_sL, T439 b2x.1 b2x.2, k2, m2, cy, b2_0']
        rw [e1, fin _ Y a1 a2, hτ]
    · rw [if_neg (show ¬ ((c = 96 ∨ c = 112) ∧ isC Y) from fun q => s q.1)]
      refine ⟨numV X, numV Y, ?_⟩
      have s1 : RR (lkB tb455) (B455_18, [some (mR (some 80)), some (mI c), some (mI off), some (mI z), some (mI x), some (mI y)], [], τ) = RR (lkB tb455) (B455_132, [some (mR (some 80)), some (mI c), some (mI off), some (mI z), some (mI x), some (mI y)], [], τ) := by
        rw [e455_18, if_neg (by omega), if_pos (by omega), if_neg (by omega), if_pos (by omega)]
      rw [s1, fin _ Y a1 a2, hτ]
set_option maxHeartbeats 1000000 in
theorem T456w {z x : Int} {b : Nat} {σ : MS} (hz : inB z) (hx : inB x) (hb : 1 ≤ b ∧ b ≤ 64) : MM 456 [mR (some 80), mI z, mI x, mI b, mI 1] σ = some (none, wrV σ z.toNat (numV (extN b (vn (aV σ x.toNat))))) := by
  unfold extN
  by_cases cx : gL σ 113 x.toNat = 0#64
  · rw [if_pos (show isC (vn (aV σ x.toNat)) from cx)]
    simp only [← q112]
    simp only [M456, e456_0, e456_5, e456_18, e456_38, e456_41, e456_48, e456_59, Option.getD_some, Option.bind_some, Option.toList_some, Option.toList_none, List.cons_append, List.nil_append, and_self, and_true, true_and, false_and, and_false, ite_self, not_true_eq_false, not_false_eq_true, reduceIte, Nat.reduceEqDiff, ab_I, ab_L, ab_R, ao_I, ao_L, ao_R, gL_sL, gI_sI, gR_sR, gI_sL, gI_sR, gL_sI, gL_sR, gR_sI, gR_sL, g_112, hx.1, hx.2, T439 hx.1 hx.2, b2_0', cx, T425 hb.1 hb.2, oneI, T433 hz.1 hz.2]
  · rw [if_neg (show ¬ isC (vn (aV σ x.toNat)) from cx)]
    simp only [M456, e456_0, e456_5, e456_18, e456_38, e456_41, e456_48, e456_59, Option.getD_some, Option.bind_some, Option.toList_some, Option.toList_none, List.cons_append, List.nil_append, and_self, and_true, true_and, false_and, and_false, ite_self, not_true_eq_false, not_false_eq_true, reduceIte, Nat.reduceEqDiff, ab_I, ab_L, ab_R, ao_I, ao_L, ao_R, gL_sL, gI_sI, gR_sR, gI_sL, gI_sR, gL_sI, gL_sR, gR_sI, gR_sL, g_112, hx.1, hx.2, T439 hx.1 hx.2, b2_0', cx, T438 hz.1 hz.2 hb, oneI]
set_option maxHeartbeats 1000000 in
theorem T456n {z x : Int} {b : Nat} {σ : MS} (hz : inB z) (hx : inB x) (hb : 1 ≤ b ∧ b ≤ 64) : MM 456 [mR (some 80), mI z, mI x, mI b, mI 0] σ = some (none, wrV σ z.toNat (numV (extW b (vn (aV σ x.toNat))))) := by
  unfold extW
  by_cases cx : gL σ 113 x.toNat = 0#64
  · rw [if_pos (show isC (vn (aV σ x.toNat)) from cx)]
    simp only [← q112]
    simp only [M456, e456_0, e456_5, e456_18, e456_38, e456_41, e456_48, e456_59, Option.getD_some, Option.bind_some, Option.toList_some, Option.toList_none, List.cons_append, List.nil_append, and_self, and_true, true_and, false_and, and_false, ite_self, not_true_eq_false, not_false_eq_true, reduceIte, Nat.reduceEqDiff, ab_I, ab_L, ab_R, ao_I, ao_L, ao_R, gL_sL, gI_sI, gR_sR, gI_sL, gI_sR, gL_sI, gL_sR, gR_sI, gR_sL, g_112, hx.1, hx.2, T439 hx.1 hx.2, b2_0', cx, T425 hb.1 hb.2, iL_F, T433 hz.1 hz.2]
  · rw [if_neg (show ¬ isC (vn (aV σ x.toNat)) from cx)]
    simp only [M456, e456_0, e456_5, e456_18, e456_38, e456_41, e456_48, e456_59, Option.getD_some, Option.bind_some, Option.toList_some, Option.toList_none, List.cons_append, List.nil_append, and_self, and_true, true_and, false_and, and_false, ite_self, not_true_eq_false, not_false_eq_true, reduceIte, Nat.reduceEqDiff, ab_I, ab_L, ab_R, ao_I, ao_L, ao_R, gL_sL, gI_sI, gR_sR, gI_sL, gI_sR, gL_sI, gL_sR, gR_sI, gR_sL, g_112, hx.1, hx.2, T439 hx.1 hx.2, b2_0', cx, T438 hz.1 hz.2 hb, T454 hz hz, aV_same, wrV_same]
    rfl
theorem equN_r (x y : N6) : equN x y = 1 ∨ equN x y = 0 ∨ equN x y = -1 := by
  unfold equN
  split
  · exact Or.inl rfl
  · split
    · exact Or.inr (Or.inl rfl)
    · exact Or.inr (Or.inr rfl)
def decY (c w : Int) (A B : N6) : Int := if w = 0 ∧ isSgn c then (if isC A ∧ isC B then (if cmpB c false (jV A) (jV B) = true then 1 else 0) else -1) else decX c A B
set_option maxRecDepth 100000 in
theorem L457a {c w x y a b : Int} {σ : MS} (ha : inB a) (hb : inB b) : ∃ v : Int, (v = 0 ↔ ¬ (isC (vn (aV σ a.toNat)) ∧ isC (vn (aV σ b.toNat)))) ∧ RR (lkB tb457) (B457_38, [some (mR (some 80)), some (mI c), some (mI w), some (mI x), some (mI y), some (mI a), some (mI b), none, none], [], σ) = RR (lkB tb457) (B457_61, [some (mR (some 80)), some (mI c), some (mI w), some (mI x), some (mI y), some (mI a), some (mI b), none, none], [mI v], σ) := by
  simp only [isC, ← q113]
  by_cases cx : gL σ 113 a.toNat = 0#64
  · by_cases cy : gL σ 113 b.toNat = 0#64
    · exact ⟨1, by simp [cx, cy], by simp only [e457_38, e457_44, e457_53, Option.getD_some, Option.bind_some, Option.toList_some, Option.toList_none, List.cons_append, List.nil_append, and_self, and_true, true_and, false_and, and_false, ite_self, not_true_eq_false, not_false_eq_true, reduceIte, Nat.reduceEqDiff, ab_I, ab_L, ab_R, ao_I, ao_L, ao_R, gL_sL, gI_sI, gR_sR, gI_sL, gI_sR, gL_sI, gL_sR, gR_sI, gR_sL, T439 ha.1 ha.2, T439 hb.1 hb.2, b2_0', cx, cy]⟩
    · exact ⟨0, by simp [cx, cy], by simp only [e457_38, e457_44, e457_53, e457_60, Option.getD_some, Option.bind_some, Option.toList_some, Option.toList_none, List.cons_append, List.nil_append, and_self, and_true, true_and, false_and, and_false, ite_self, not_true_eq_false, not_false_eq_true, reduceIte, Nat.reduceEqDiff, ab_I, ab_L, ab_R, ao_I, ao_L, ao_R, gL_sL, gI_sI, gR_sR, gI_sL, gI_sR, gL_sI, gL_sR, gR_sI, gR_sL, T439 ha.1 ha.2, T439 hb.1 hb.2, b2_0', cx, cy]⟩
  · exact ⟨0, by simp [cx], by simp only [e457_38, e457_44, e457_60, Option.getD_some, Option.bind_some, Option.toList_some, Option.toList_none, List.cons_append, List.nil_append, and_self, and_true, true_and, false_and, and_false, ite_self, not_true_eq_false, not_false_eq_true, reduceIte, Nat.reduceEqDiff, ab_I, ab_L, ab_R, ao_I, ao_L, ao_R, gL_sL, gI_sI, gR_sR, gI_sL, gI_sR, gL_sI, gL_sR, gR_sI, gR_sL, T439 ha.1 ha.2, b2_0', cx]⟩
set_option maxRecDepth 100000 in
set_option maxHeartbeats 4000000 in
theorem L457b {c w x y a b v : Int} {σ : MS} (hc : isCmp c) (ha : inB a) (hb : inB b) (hv : v = 0 ↔ ¬ (isC (vn (aV σ a.toNat)) ∧ isC (vn (aV σ b.toNat)))) (s : w = 0 ∧ isSgn c) : RR (lkB tb457) (B457_61, [some (mR (some 80)), some (mI c), some (mI w), some (mI x), some (mI y), some (mI a), some (mI b), none, none], [mI v], σ) = some (some (mI (if isC (vn (aV σ a.toNat)) ∧ isC (vn (aV σ b.toNat)) then (if cmpB c false (jV (vn (aV σ a.toNat))) (jV (vn (aV σ b.toNat))) = true then 1 else 0) else -1)), σ) := by
  obtain ⟨rfl, s⟩ := s
  by_cases k : isC (vn (aV σ a.toNat)) ∧ isC (vn (aV σ b.toNat))
  · rw [if_pos k]
    have hv' : ¬ v = 0 := fun e => hv.mp e k
    have key := T429n (σ := σ) (a := gL σ 112 a.toNat) (b := gL σ 112 b.toNat) hc
    by_cases d : cmpB c false (gL σ 112 a.toNat) (gL σ 112 b.toNat) = true
    · rw [if_pos (show cmpB c false (jV (vn (aV σ a.toNat))) (jV (vn (aV σ b.toNat))) = true from d)]
      rw [if_pos d] at key
      rcases s with rfl | rfl | rfl | rfl
      all_goals (simp only [e457_61, e457_296, Option.getD_some, Option.bind_some, Option.toList_some, Option.toList_none, List.cons_append, List.nil_append, and_self, and_true, true_and, false_and, and_false, ite_self, not_true_eq_false, not_false_eq_true, reduceIte, Nat.reduceEqDiff, ab_I, ab_L, ab_R, ao_I, ao_L, ao_R, gL_sL, gI_sI, gR_sR, gI_sL, gI_sR, gL_sI, gL_sR, gR_sI, gR_sL, g_112, g_113, Int.reduceEq, ha.1, ha.2, hb.1, hb.2, hv', key])
    · rw [if_neg (show ¬ cmpB c false (jV (vn (aV σ a.toNat))) (jV (vn (aV σ b.toNat))) = true from d)]
      rw [if_neg d] at key
      rcases s with rfl | rfl | rfl | rfl
      all_goals (simp only [e457_61, e457_296, Option.getD_some, Option.bind_some, Option.toList_some, Option.toList_none, List.cons_append, List.nil_append, and_self, and_true, true_and, false_and, and_false, ite_self, not_true_eq_false, not_false_eq_true, reduceIte, Nat.reduceEqDiff, ab_I, ab_L, ab_R, ao_I, ao_L, ao_R, gL_sL, gI_sI, gR_sR, gI_sL, gI_sR, gL_sI, gL_sR, gR_sI, gR_sL, g_112, g_113, Int.reduceEq, ha.1, ha.2, hb.1, hb.2, hv', key])
  · rw [if_neg k]
    have hv' : v = 0 := hv.mpr k
    rcases s with rfl | rfl | rfl | rfl
    all_goals (simp only [e457_61, Option.getD_some, Option.bind_some, Option.toList_some, Option.toList_none, List.cons_append, List.nil_append, and_self, and_true, true_and, false_and, and_false, ite_self, not_true_eq_false, not_false_eq_true, reduceIte, Nat.reduceEqDiff, ab_I, ab_L, ab_R, ao_I, ao_L, ao_R, gL_sL, gI_sI, gR_sR, gI_sL, gI_sR, gL_sI, gL_sR, gR_sI, gR_sL, g_112, g_113, Int.reduceEq, ha.1, ha.2, hb.1, hb.2, hv'])
set_option maxRecDepth 100000 in
set_option maxHeartbeats 4000000 in
theorem L457c {c w x y a b v : Int} {σ : MS} (hc : isCmp c) (hw : w = 0 ∨ w = 1) (ha : inB a) (hb : inB b) (s : ¬ (w = 0 ∧ isSgn c)) : RR (lkB tb457) (B457_61, [some (mR (some 80)), some (mI c), some (mI w), some (mI x), some (mI y), some (mI a), some (mI b), none, none], [mI v], σ) = some (some (mI (decX c (vn (aV σ a.toNat)) (vn (aV σ b.toNat)))), σ) := by
  rcases hc with rfl | rfl | rfl | rfl | rfl | rfl | rfl | rfl | rfl | rfl | rfl
  · simp only [e457_61, e457_140, Option.getD_some, Option.bind_some, Option.toList_some, Option.toList_none, List.cons_append, List.nil_append, and_self, and_true, true_and, false_and, and_false, ite_self, not_true_eq_false, not_false_eq_true, reduceIte, Nat.reduceEqDiff, ab_I, ab_L, ab_R, ao_I, ao_L, ao_R, gL_sL, gI_sI, gR_sR, gI_sL, gI_sR, gL_sI, gL_sR, gR_sI, gR_sL, Int.reduceEq, T458 ha hb]
    rfl
  · simp only [e457_61, e457_240, Option.getD_some, Option.bind_some, Option.toList_some, Option.toList_none, List.cons_append, List.nil_append, and_self, and_true, true_and, false_and, and_false, ite_self, not_true_eq_false, not_false_eq_true, reduceIte, Nat.reduceEqDiff, ab_I, ab_L, ab_R, ao_I, ao_L, ao_R, gL_sL, gI_sI, gR_sR, gI_sL, gI_sR, gL_sI, gL_sR, gR_sI, gR_sL, Int.reduceEq, T459 ha hb]
    rfl
  · simp only [e457_61, e457_249, Option.getD_some, Option.bind_some, Option.toList_some, Option.toList_none, List.cons_append, List.nil_append, and_self, and_true, true_and, false_and, and_false, ite_self, not_true_eq_false, not_false_eq_true, reduceIte, Nat.reduceEqDiff, ab_I, ab_L, ab_R, ao_I, ao_L, ao_R, gL_sL, gI_sI, gR_sR, gI_sL, gI_sR, gL_sI, gL_sR, gR_sI, gR_sL, Int.reduceEq, T460 ha hb]
    rfl
  · show _ = some (some (mI (if ¬ jV (vn (aV σ a.toNat)) &&& jV (vn (aV σ b.toNat)) = 0#64 then 1 else if (jV (vn (aV σ a.toNat)) ||| jM (vn (aV σ a.toNat))) &&& (jV (vn (aV σ b.toNat)) ||| jM (vn (aV σ b.toNat))) = 0#64 then 0 else -1)), σ)
    simp only [← q112, ← q113]
    by_cases d1 : gL σ 112 a.toNat &&& gL σ 112 b.toNat = 0#64
    · by_cases d2 : (gL σ 112 a.toNat ||| gL σ 113 a.toNat) &&& (gL σ 112 b.toNat ||| gL σ 113 b.toNat) = 0#64
      · simp only [e457_61, Option.getD_some, Option.bind_some, Option.toList_some, Option.toList_none, List.cons_append, List.nil_append, and_self, and_true, true_and, false_and, and_false, ite_self, not_true_eq_false, not_false_eq_true, reduceIte, Nat.reduceEqDiff, ab_I, ab_L, ab_R, ao_I, ao_L, ao_R, gL_sL, gI_sI, gR_sR, gI_sL, gI_sR, gL_sI, gL_sR, gR_sI, gR_sL, g_112, g_113, Int.reduceEq, ha.1, ha.2, hb.1, hb.2, d1, d2]
      · simp only [e457_61, Option.getD_some, Option.bind_some, Option.toList_some, Option.toList_none, List.cons_append, List.nil_append, and_self, and_true, true_and, false_and, and_false, ite_self, not_true_eq_false, not_false_eq_true, reduceIte, Nat.reduceEqDiff, ab_I, ab_L, ab_R, ao_I, ao_L, ao_R, gL_sL, gI_sI, gR_sR, gI_sL, gI_sR, gL_sI, gL_sR, gR_sI, gR_sL, g_112, g_113, Int.reduceEq, ha.1, ha.2, hb.1, hb.2, d1, d2]
    · simp only [e457_61, Option.getD_some, Option.bind_some, Option.toList_some, Option.toList_none, List.cons_append, List.nil_append, and_self, and_true, true_and, false_and, and_false, ite_self, not_true_eq_false, not_false_eq_true, reduceIte, Nat.reduceEqDiff, ab_I, ab_L, ab_R, ao_I, ao_L, ao_R, gL_sL, gI_sI, gR_sR, gI_sL, gI_sR, gL_sI, gL_sR, gR_sI, gR_sL, g_112, g_113, Int.reduceEq, ha.1, ha.2, hb.1, hb.2, d1]
  · show _ = some (some (mI (if equN (vn (aV σ a.toNat)) (vn (aV σ b.toNat)) < 0 then equN (vn (aV σ a.toNat)) (vn (aV σ b.toNat)) else 1 - equN (vn (aV σ a.toNat)) (vn (aV σ b.toNat)))), σ)
    simp only [e457_61, e457_149, Option.getD_some, Option.bind_some, Option.toList_some, Option.toList_none, List.cons_append, List.nil_append, and_self, and_true, true_and, false_and, and_false, ite_self, not_true_eq_false, not_false_eq_true, reduceIte, Nat.reduceEqDiff, ab_I, ab_L, ab_R, ao_I, ao_L, ao_R, gL_sL, gI_sI, gR_sR, gI_sL, gI_sR, gL_sI, gL_sR, gR_sI, gR_sL, Int.reduceEq, T458 ha hb]
    rcases equN_r (vn (aV σ a.toNat)) (vn (aV σ b.toNat)) with r | r | r <;> rw [r]
    · rw [if_pos (by omega), if_neg (by omega), w32_i (by omega) (by omega)]
    · rw [if_pos (by omega), if_neg (by omega), w32_i (by omega) (by omega)]
    · rw [if_neg (by omega), if_pos (by omega)]
  · rcases hw with rfl | rfl
    · exact absurd ⟨rfl, Or.inl rfl⟩ s
    · simp only [e457_61, e457_323, e457_369, Option.getD_some, Option.bind_some, Option.toList_some, Option.toList_none, List.cons_append, List.nil_append, and_self, and_true, true_and, false_and, and_false, ite_self, not_true_eq_false, not_false_eq_true, reduceIte, Nat.reduceEqDiff, ab_I, ab_L, ab_R, ao_I, ao_L, ao_R, gL_sL, gI_sI, gR_sR, gI_sL, gI_sR, gL_sI, gL_sR, gR_sI, gR_sL, Int.reduceEq, T461 ha hb]
      rfl
  · rcases hw with rfl | rfl
    · exact absurd ⟨rfl, Or.inr (Or.inl rfl)⟩ s
    · simp only [e457_61, e457_340, e457_369, Option.getD_some, Option.bind_some, Option.toList_some, Option.toList_none, List.cons_append, List.nil_append, and_self, and_true, true_and, false_and, and_false, ite_self, not_true_eq_false, not_false_eq_true, reduceIte, Nat.reduceEqDiff, ab_I, ab_L, ab_R, ao_I, ao_L, ao_R, gL_sL, gI_sI, gR_sR, gI_sL, gI_sR, gL_sI, gL_sR, gR_sI, gR_sL, Int.reduceEq, T462 ha hb]
      rfl
  · simp only [e457_61, e457_258, Option.getD_some, Option.bind_some, Option.toList_some, Option.toList_none, List.cons_append, List.nil_append, and_self, and_true, true_and, false_and, and_false, ite_self, not_true_eq_false, not_false_eq_true, reduceIte, Nat.reduceEqDiff, ab_I, ab_L, ab_R, ao_I, ao_L, ao_R, gL_sL, gI_sI, gR_sR, gI_sL, gI_sR, gL_sI, gL_sR, gR_sI, gR_sL, Int.reduceEq, T459 hb ha]
    rfl
  · simp only [e457_61, e457_267, Option.getD_some, Option.bind_some, Option.toList_some, Option.toList_none, List.cons_append, List.nil_append, and_self, and_true, true_and, false_and, and_false, ite_self, not_true_eq_false, not_false_eq_true, reduceIte, Nat.reduceEqDiff, ab_I, ab_L, ab_R, ao_I, ao_L, ao_R, gL_sL, gI_sI, gR_sR, gI_sL, gI_sR, gL_sI, gL_sR, gR_sI, gR_sL, Int.reduceEq, T460 hb ha]
    rfl
  · rcases hw with rfl | rfl
    · exact absurd ⟨rfl, Or.inr (Or.inr (Or.inl rfl))⟩ s
    · simp only [e457_61, e457_358, e457_369, Option.getD_some, Option.bind_some, Option.toList_some, Option.toList_none, List.cons_append, List.nil_append, and_self, and_true, true_and, false_and, and_false, ite_self, not_true_eq_false, not_false_eq_true, reduceIte, Nat.reduceEqDiff, ab_I, ab_L, ab_R, ao_I, ao_L, ao_R, gL_sL, gI_sI, gR_sR, gI_sL, gI_sR, gL_sI, gL_sR, gR_sI, gR_sL, Int.reduceEq, T461 hb ha]
      rfl
  · rcases hw with rfl | rfl
    · exact absurd ⟨rfl, Or.inr (Or.inr (Or.inr rfl))⟩ s
    · simp only [e457_61, e457_369, Option.getD_some, Option.bind_some, Option.toList_some, Option.toList_none, List.cons_append, List.nil_append, and_self, and_true, true_and, false_and, and_false, ite_self, not_true_eq_false, not_false_eq_true, reduceIte, Nat.reduceEqDiff, ab_I, ab_L, ab_R, ao_I, ao_L, ao_R, gL_sL, gI_sI, gR_sR, gI_sL, gI_sR, gL_sI, gL_sR, gR_sI, gR_sL, Int.reduceEq, T462 hb ha]
      rfl
theorem L457 {c w x y a b : Int} {σ : MS} (hc : isCmp c) (hw : w = 0 ∨ w = 1) (ha : inB a) (hb : inB b) : RR (lkB tb457) (B457_38, [some (mR (some 80)), some (mI c), some (mI w), some (mI x), some (mI y), some (mI a), some (mI b), none, none], [], σ) = some (some (mI (decY c w (vn (aV σ a.toNat)) (vn (aV σ b.toNat)))), σ) := by
  obtain ⟨v, hv, pe⟩ := L457a (c := c) (w := w) (x := x) (y := y) (σ := σ) ha hb
  rw [pe]
  unfold decY
  by_cases s : w = 0 ∧ isSgn c
  · rw [if_pos s]
    exact L457b hc ha hb hv s
  · rw [if_neg s]
    exact L457c hc hw ha hb s
theorem T457w {c x y : Int} {σ : MS} (hc : isCmp c) (hx : inB x) (hy : inB y) : MM 457 [mR (some 80), mI c, mI 1, mI x, mI y] σ = some (some (mI (decN c true (vn (aV σ x.toNat)) (vn (aV σ y.toNat)))), σ) := by
  simp only [M457, e457_0, Option.getD_some, Option.bind_some, Option.toList_some, Option.toList_none, List.cons_append, List.nil_append, and_self, and_true, true_and, false_and, and_false, ite_self, not_true_eq_false, not_false_eq_true, reduceIte, Nat.reduceEqDiff, ab_I, ab_L, ab_R, ao_I, ao_L, ao_R, gL_sL, gI_sI, gR_sR, gI_sL, gI_sR, gL_sI, gL_sR, gR_sI, gR_sL, oneI]
  rw [L457 hc (Or.inr rfl) hx hy]
  unfold decY decN
  rw [if_neg (by omega), if_pos rfl]
theorem T457n {c x y : Int} {σ : MS} (hc : isCmp c) (hx : inB x) (hy : inB y) (hyn : ¬ y = 32659) : MM 457 [mR (some 80), mI c, mI 0, mI x, mI y] σ = some (some (mI (decN c false (vn (aV σ x.toNat)) (vn (aV σ y.toNat)))), wrV (wrV σ 32659 (numV (cutT (vn (aV σ x.toNat))))) 32660 (numV (cutT (vn (aV σ y.toNat))))) := by
  have k1 : (32659 : Int).toNat = 32659 := rfl
  have k2 : (32660 : Int).toNat = 32660 := rfl
  have b1 : inB 32659 := by decide
  have b2x : inB 32660 := by decide
  have ey : ∀ v, aV (wrV σ 32659 v) y.toNat = aV σ y.toNat := fun v => aV_ne (by omega)
  simp only [M457, e457_0, e457_19, e457_28, Option.getD_some, Option.bind_some, Option.toList_some, Option.toList_none, List.cons_append, List.nil_append, and_self, and_true, true_and, false_and, and_false, ite_self, not_true_eq_false, not_false_eq_true, reduceIte, Nat.reduceEqDiff, ab_I, ab_L, ab_R, ao_I, ao_L, ao_R, gL_sL, gI_sI, gR_sR, gI_sL, gI_sR, gL_sI, gL_sR, gR_sI, gR_sL, T454 b1 hx, k1, T454 b2x hy, k2, ey]
  rw [L457 hc (Or.inl rfl) b1 b2x, k1, k2, aV_same, aV_ne (by omega), aV_same]
  unfold decY decN
  rw [if_neg (show ¬ false = true by decide)]
  simp only [true_and]
  rfl
/-! two numbers written -/
def wn2 (σ : MS) (x y : Nat) (p : N6 × N6) : MS := wrV (wrV σ x (vN (aV σ x) p.1)) y (vN (aV σ y) p.2)
theorem wn2_sw {σ : MS} {x y : Nat} {p : N6 × N6} (h : ¬ y = x) : wn2 σ x y p = wn2 σ y x (pyx p) := wrV_comm h
theorem aV_wn2 {σ : MS} {x y k : Nat} {p : N6 × N6} : aV (wn2 σ x y p) k = if k = y then vN (aV σ y) p.2 else if k = x then vN (aV σ x) p.1 else aV σ k := by
  unfold wn2
  rw [aV_wrV, aV_wrV]
theorem wn2_wn2 {σ : MS} {x y : Nat} {p q : N6 × N6} (h : ¬ y = x) : wn2 (wn2 σ x y p) x y q = wn2 σ x y q := by
  have e1 : aV (wn2 σ x y p) x = vN (aV σ x) p.1 := by rw [aV_wn2, if_neg (fun e => h e.symm), if_pos rfl]
  have e2 : aV (wn2 σ x y p) y = vN (aV σ y) p.2 := by rw [aV_wn2, if_pos rfl]
  show wrV (wrV (wn2 σ x y p) x (vN (aV (wn2 σ x y p) x) q.1)) y (vN (aV (wn2 σ x y p) y) q.2) = _
  rw [e1, e2]
  show wrV (wrV (wrV (wrV σ x (vN (aV σ x) p.1)) y (vN (aV σ y) p.2)) x (vN (aV σ x) q.1)) y (vN (aV σ y) q.2) = _
  rw [wrV_comm (i := y) (j := x) (fun e => h e.symm), wrV_same, wrV_same]
  rfl
theorem wn2_x {σ : MS} {x y : Nat} {n : N6} : wn2 σ x y (n, vn (aV σ y)) = wrV (wrV σ x (vN (aV σ x) n)) y (aV σ y) := rfl
theorem wrV_eta' {σ : MS} {i : Nat} {v : VL} (h : v = aV σ i) : wrV σ i v = σ := by rw [h, wrV_eta]
theorem wn2_l {σ : MS} {x y : Nat} {n : N6} (h : ¬ y = x) : wn2 σ x y (n, vn (aV σ y)) = wrV σ x (vN (aV σ x) n) := wrV_eta' (by rw [aV_ne h])
theorem wn2_r {σ : MS} {x y : Nat} {n : N6} : wn2 σ x y (vn (aV σ x), n) = wrV σ y (vN (aV σ y) n) := by
  show wrV (wrV σ x (aV σ x)) y _ = _
  rw [wrV_eta]
theorem wn2_0 {σ : MS} {x y : Nat} : wn2 σ x y (vn (aV σ x), vn (aV σ y)) = σ := by
  rw [wn2_r]
  exact wrV_eta
section NAR
variable {a b x y t : Int} {σ : MS}
set_option maxHeartbeats 1000000 in
theorem T464 (ha : inB a) (hb : inB b) (hne : ¬ a.toNat = b.toNat) (ht : t = 0 ∨ t = 1) : MM 464 [mR (some 80), mI a, mI b, mI t] σ = some (none, wn2 σ a.toNat b.toNat (lesN (vn (aV σ a.toNat)) (vn (aV σ b.toNat)) (decide (t = 1)))) := by
  rw [wn2_sw (fun e => hne e.symm)]
  rcases ht with rfl | rfl
  all_goals (simp only [M464, e464_0, e464_9, e464_49, e464_66, Option.getD_some, Option.bind_some, Option.toList_some, Option.toList_none, List.cons_append, List.nil_append, and_self, and_true, true_and, false_and, and_false, ite_self, not_true_eq_false, not_false_eq_true, reduceIte, Nat.reduceEqDiff, ab_I, ab_L, ab_R, ao_I, ao_L, ao_R, gL_sL, gI_sI, gR_sR, gI_sL, gI_sR, gL_sI, gL_sR, gR_sI, gR_sL, g_114, g_115, ha.1, ha.2, hb.1, hb.2, T440, T441, p114, p115, q114, q115, aV_same, aV_ne hne, oneI])
  all_goals rfl
set_option maxHeartbeats 1000000 in
theorem T465 (ha : inB a) (hb : inB b) (hne : ¬ a.toNat = b.toNat) (ht : t = 0 ∨ t = 1) : MM 465 [mR (some 80), mI a, mI b, mI t] σ = some (none, wn2 σ a.toNat b.toNat (lesS (vn (aV σ a.toNat)) (vn (aV σ b.toNat)) (decide (t = 1)))) := by
  rw [wn2_sw (fun e => hne e.symm)]
  unfold lesS smin smax
  rcases ht with rfl | rfl
  · by_cases c1 : (jC (vn (aV σ a.toNat)) + 0#64).toInt ≤ (jC (vn (aV σ b.toNat))).toInt <;> by_cases c2 : (jD (vn (aV σ a.toNat))).toInt ≤ (jD (vn (aV σ b.toNat)) - 0#64).toInt
    all_goals (simp only [M465, e465_0, e465_9, e465_61, e465_90, Option.getD_some, Option.bind_some, Option.toList_some, Option.toList_none, List.cons_append, List.nil_append, and_self, and_true, true_and, false_and, and_false, ite_self, not_true_eq_false, not_false_eq_true, reduceIte, Nat.reduceEqDiff, ab_I, ab_L, ab_R, ao_I, ao_L, ao_R, gL_sL, gI_sI, gR_sR, gI_sL, gI_sR, gL_sI, gL_sR, gR_sI, gR_sL, g_116, g_117, ha.1, ha.2, hb.1, hb.2, p116, p117, q116, q117, aV_same, aV_ne hne, c1, c2, Int.reduceEq, decide_true, decide_false, Bool.false_eq_true])
    all_goals rfl
  · by_cases c1 : (jC (vn (aV σ a.toNat)) + 1#64).toInt ≤ (jC (vn (aV σ b.toNat))).toInt <;> by_cases c2 : (jD (vn (aV σ a.toNat))).toInt ≤ (jD (vn (aV σ b.toNat)) - 1#64).toInt
    all_goals (simp only [M465, e465_0, e465_9, e465_61, e465_90, Option.getD_some, Option.bind_some, Option.toList_some, Option.toList_none, List.cons_append, List.nil_append, and_self, and_true, true_and, false_and, and_false, ite_self, not_true_eq_false, not_false_eq_true, reduceIte, Nat.reduceEqDiff, ab_I, ab_L, ab_R, ao_I, ao_L, ao_R, gL_sL, gI_sI, gR_sR, gI_sL, gI_sR, gL_sI, gL_sR, gR_sI, gR_sL, g_116, g_117, ha.1, ha.2, hb.1, hb.2, p116, p117, q116, q117, aV_same, aV_ne hne, c1, c2, oneI, decide_true, decide_false])
    all_goals rfl
set_option maxHeartbeats 2000000 in
theorem T466 (hx : inB x) (hy : inB y) (hne : ¬ x.toNat = y.toNat) : MM 466 [mR (some 80), mI x, mI y] σ = some (none, wn2 σ x.toNat y.toNat (bothN (vn (aV σ x.toNat)) (vn (aV σ y.toNat)), bothN (vn (aV σ x.toNat)) (vn (aV σ y.toNat)))) := by
  have hne' : ¬ y.toNat = x.toNat := fun e => hne e.symm
  unfold bothN smin smax
  by_cases c1 : (jC (vn (aV σ y.toNat))).toInt ≤ (jC (vn (aV σ x.toNat))).toInt <;> by_cases c2 : (jD (vn (aV σ x.toNat))).toInt ≤ (jD (vn (aV σ y.toNat))).toInt
  all_goals (simp only [M466, e466_0, e466_50, e466_71, e466_108, e466_145, e466_170, e466_206, Option.getD_some, Option.bind_some, Option.toList_some, Option.toList_none, List.cons_append, List.nil_append, and_self, and_true, true_and, false_and, and_false, ite_self, not_true_eq_false, not_false_eq_true, reduceIte, Nat.reduceEqDiff, ab_I, ab_L, ab_R, ao_I, ao_L, ao_R, gL_sL, gI_sI, gR_sR, gI_sL, gI_sR, gL_sI, gL_sR, gR_sI, gR_sL, g_112, g_113, g_114, g_115, g_116, g_117, hx.1, hx.2, hy.1, hy.2, T440, T441, p112, p113, p114, p115, p116, p117, q112, q113, q114, q115, q116, q117, aV_same, aV_ne hne, aV_ne hne', wrV_same, c1, c2])
  all_goals rfl
end NAR
-- FILE 30.jleaf
/-! ===== the reference's judge: what its small methods do ===== -/
/-- the fault is told: the first one stays -/
def flt (σ : MS) (c : Int) : MS := sI σ 80 90 (fst (gI σ 80 90) c)
theorem flt_0 (σ : MS) : flt σ 0 = σ := by
  unfold flt fst
  split
  · rename_i e; rw [← e]; exact sI_eta _ _ _
  · exact sI_eta _ _ _
theorem ite_flt {c : Prop} {d : Decidable c} {σ : MS} {a b : Int} : (@ite MS c d (flt σ a) (flt σ b)) = flt σ (@ite _ c d a b) := by
  split <;> rfl
theorem flt_flt (σ : MS) (a b : Int) : flt (flt σ a) b = flt σ (fst a b) := by
  unfold flt fst
  rw [sI_same]
  simp only [gI_sI, and_self, if_true]
  by_cases h : gI σ 80 90 = 0
  · rw [if_pos h]
    by_cases ha : a = 0
    · rw [if_pos ha, if_pos ha, if_pos h]
    · rw [if_neg ha, if_pos h]
  · rw [if_neg h, if_neg h, if_neg h]
theorem aV_flt {σ : MS} {c : Int} {i : Nat} : aV (flt σ c) i = aV σ i := aV_sI (by omega)
theorem T473 {c : Int} {σ : MS} : MM 473 [mR (some 80), mI c] σ = some (none, flt σ c) := by
  rw [M473]
  try simp only [e473_0, Option.getD_some, Option.bind_some, Option.toList_some, Option.toList_none, List.cons_append, List.nil_append, and_self, and_true, true_and, false_and, and_false, ite_self, not_true_eq_false, not_false_eq_true, reduceIte, Nat.reduceEqDiff, ab_I, ab_L, ab_R, ao_I, ao_L, ao_R, gL_sL, gI_sI, gR_sR, gI_sL, gI_sR, gL_sI, gL_sR, gR_sI, gR_sL]
  try simp only [mrgI, mrgL, mrg0, rtI, rtL, ite_self]
  unfold flt fst
  by_cases h : gI σ 80 90 = 0 <;> simp [h]
theorem T430 {x y : Int} {σ : MS} (hx : inB x) (hy : inB y) (hk : -128 ≤ vk (aV σ x.toNat) ∧ vk (aV σ x.toNat) < 128) : MM 430 [mR (some 80), mI x, mI y] σ = some (none, wrV σ y.toNat (aV σ x.toNat)) := by
  have hw : w8 (gI σ 118 x.toNat) = gI σ 118 x.toNat := w8_i hk.1 hk.2
  simp only [M430, e430_0, e430_36, e430_72, e430_108, Option.getD_some, Option.bind_some, Option.toList_some, Option.toList_none, List.cons_append, List.nil_append, and_self, and_true, true_and, false_and, and_false, ite_self, not_true_eq_false, not_false_eq_true, reduceIte, Nat.reduceEqDiff, ab_I, ab_L, ab_R, ao_I, ao_L, ao_R, gL_sL, gI_sI, gR_sR, gI_sL, gI_sR, gL_sI, gL_sR, gR_sI, gR_sL, g_112, g_113, g_114, g_115, g_116, g_117, g_118, g_119, g_120, g_121, g_122, hx.1, hx.2, hy.1, hy.2, hw]
  rfl
theorem T431 {x k w t : Int} {σ : MS} (hx : inB x) (hk : 0 ≤ k ∧ k ≤ 10) : MM 431 [mR (some 80), mI x, mI k, mI w, mI t] σ = some (none, wrV σ x.toNat (mkV k w t)) := by
  have hw : w8 k = k := w8_i (by omega) (by omega)
  simp only [M431, e431_0, e431_6, e431_29, Option.getD_some, Option.bind_some, Option.toList_some, Option.toList_none, List.cons_append, List.nil_append, and_self, and_true, true_and, false_and, and_false, ite_self, not_true_eq_false, not_false_eq_true, reduceIte, Nat.reduceEqDiff, ab_I, ab_L, ab_R, ao_I, ao_L, ao_R, gL_sL, gI_sI, gR_sR, gI_sL, gI_sR, gL_sI, gL_sR, gR_sI, gR_sL, g_118, g_120, g_121, T433 hx.1 hx.2, hx.1, hx.2, hw, ab_wrV, p118, p120, p121, aV_same, wrV_same]
  rfl
/-- where register r of the uppermost frame is -/
def plc (F : Int) (r : Int) : Nat := if r = 10 then 32663 else (26 * (F - 1) + r).toNat
/-- r10 is made anew -/
def mk10 (σ : MS) (r : Int) : MS := if r = 10 then wrV σ 32663 (mkV 3 (gI σ 123 0 - 1) 0) else σ
theorem T492 {r : Int} {σ : MS} (hr : 0 ≤ r ∧ r ≤ 10) (hF : 1 ≤ gI σ 123 0 ∧ gI σ 123 0 ≤ 4) : MM 492 [mR (some 80), mI r] σ = some (some (mI (plc (gI σ 123 0) r)), mk10 σ r) := by
  unfold plc mk10
  by_cases c : r = 10
  · subst c
    simp only [M492, e492_0, e492_23, Option.getD_some, Option.bind_some, Option.toList_some, Option.toList_none, List.cons_append, List.nil_append, and_self, and_true, true_and, false_and, and_false, ite_self, not_true_eq_false, not_false_eq_true, reduceIte, Nat.reduceEqDiff, ab_I, ab_L, ab_R, ao_I, ao_L, ao_R, gL_sL, gI_sI, gR_sR, gI_sL, gI_sR, gL_sI, gL_sR, gR_sI, gR_sL, g_123, Int.reduceLT, Int.reduceLE, show Int.toNat 0 = 0 from rfl, show Int.toNat 32663 = 32663 from rfl, T431 (σ := σ) (show inB 32663 by decide) (show (0 : Int) ≤ 3 ∧ (3 : Int) ≤ 10 by decide), w32_i (show -2147483648 ≤ gI σ 123 0 - 1 by omega) (show gI σ 123 0 - 1 < 2147483648 by omega)]
    rfl
  · simp only [M492, e492_0, e492_23, Option.getD_some, Option.bind_some, Option.toList_some, Option.toList_none, List.cons_append, List.nil_append, and_self, and_true, true_and, false_and, and_false, ite_self, not_true_eq_false, not_false_eq_true, reduceIte, Nat.reduceEqDiff, ab_I, ab_L, ab_R, ao_I, ao_L, ao_R, gL_sL, gI_sI, gR_sR, gI_sL, gI_sR, gL_sI, gL_sR, gR_sI, gR_sL, g_123, c, Int.reduceLT, Int.reduceLE, show Int.toNat 0 = 0 from rfl, w32_i (show -2147483648 ≤ gI σ 123 0 - 1 by omega) (show gI σ 123 0 - 1 < 2147483648 by omega), w32_i (show -2147483648 ≤ 26 * (gI σ 123 0 - 1) by omega) (show 26 * (gI σ 123 0 - 1) < 2147483648 by omega), w32_i (show -2147483648 ≤ 26 * (gI σ 123 0 - 1) + r by omega) (show 26 * (gI σ 123 0 - 1) + r < 2147483648 by omega)]
    simp only [Int.toNat_of_nonneg (show 0 ≤ 26 * (gI σ 123 0 - 1) + r by omega)]
theorem T493 {x : Int} {σ : MS} (hx : inB x) : MM 493 [mR (some 80), mI x] σ = some (some (mI (b2 (isMb (aV σ x.toNat)))), σ) := by
  rw [M493]
  try simp only [e493_0, Option.getD_some, Option.bind_some, Option.toList_some, Option.toList_none, List.cons_append, List.nil_append, and_self, and_true, true_and, false_and, and_false, ite_self, not_true_eq_false, not_false_eq_true, reduceIte, Nat.reduceEqDiff, ab_I, ab_L, ab_R, ao_I, ao_L, ao_R, gL_sL, gI_sI, gR_sR, gI_sL, gI_sR, gL_sI, gL_sR, gR_sI, gR_sL, g_118, hx.1, hx.2]
  try simp only [mrgI, mrgL, mrg0, rtI, rtL, ite_self]
  try simp only [e493_22, Option.getD_some, Option.bind_some, Option.toList_some, Option.toList_none, List.cons_append, List.nil_append, and_self, and_true, true_and, false_and, and_false, ite_self, not_true_eq_false, not_false_eq_true, reduceIte, Nat.reduceEqDiff, ab_I, ab_L, ab_R, ao_I, ao_L, ao_R, gL_sL, gI_sI, gR_sR, gI_sL, gI_sR, gL_sI, gL_sR, gR_sI, gR_sL, g_118, hx.1, hx.2]
  try simp only [mrgI, mrgL, mrg0, rtI, rtL, ite_self]
  unfold b2 isMb
  simp only [q118]
  by_cases c1 : vk (aV σ x.toNat) = 6 <;> by_cases c2 : vk (aV σ x.toNat) = 10 <;> simp [c1, c2]
theorem T494 {x : Int} {σ : MS} (hx : inB x) : MM 494 [mR (some 80), mI x] σ = some (none, flt σ (wntS (aV σ x.toNat))) := by
  unfold wntS
  simp only [← q118]
  by_cases c : gI σ 118 x.toNat = 0
  · simp only [M494, e494_0, e494_14, Option.getD_some, Option.bind_some, Option.toList_some, Option.toList_none, List.cons_append, List.nil_append, and_self, and_true, true_and, false_and, and_false, ite_self, not_true_eq_false, not_false_eq_true, reduceIte, Nat.reduceEqDiff, ab_I, ab_L, ab_R, ao_I, ao_L, ao_R, gL_sL, gI_sI, gR_sR, gI_sL, gI_sR, gL_sI, gL_sR, gR_sI, gR_sL, g_118, hx.1, hx.2, c, T473]
  · simp only [M494, e494_0, e494_14, Option.getD_some, Option.bind_some, Option.toList_some, Option.toList_none, List.cons_append, List.nil_append, and_self, and_true, true_and, false_and, and_false, ite_self, not_true_eq_false, not_false_eq_true, reduceIte, Nat.reduceEqDiff, ab_I, ab_L, ab_R, ao_I, ao_L, ao_R, gL_sL, gI_sI, gR_sR, gI_sL, gI_sR, gL_sI, gL_sR, gR_sI, gR_sL, g_118, hx.1, hx.2, c, T473]
    simp [flt_0, c]
theorem T497 {x y : Int} {σ : MS} (hx : inB x) (hy : inB y) : MM 497 [mR (some 80), mI x, mI y] σ = some (none, flt σ (wntN (aV σ x.toNat) (aV σ y.toNat))) := by
  unfold wntN
  by_cases c1 : isMb (aV σ x.toNat)
  · simp only [M497, e497_0, e497_5, e497_13, e497_16, e497_22, e497_45, e497_50, Option.getD_some, Option.bind_some, Option.toList_some, Option.toList_none, List.cons_append, List.nil_append, and_self, and_true, true_and, false_and, and_false, ite_self, not_true_eq_false, not_false_eq_true, reduceIte, Nat.reduceEqDiff, ab_I, ab_L, ab_R, ao_I, ao_L, ao_R, gL_sL, gI_sI, gR_sR, gI_sL, gI_sR, gL_sI, gL_sR, gR_sI, gR_sL, g_118, hx.1, hx.2, hy.1, hy.2, T493 hx, T493 hy, b2_0', b2_n', c1, T473]
    simp [c1]
  · by_cases c2 : isMb (aV σ y.toNat)
    · simp only [M497, e497_0, e497_5, e497_13, e497_16, e497_22, e497_45, e497_50, Option.getD_some, Option.bind_some, Option.toList_some, Option.toList_none, List.cons_append, List.nil_append, and_self, and_true, true_and, false_and, and_false, ite_self, not_true_eq_false, not_false_eq_true, reduceIte, Nat.reduceEqDiff, ab_I, ab_L, ab_R, ao_I, ao_L, ao_R, gL_sL, gI_sI, gR_sR, gI_sL, gI_sR, gL_sI, gL_sR, gR_sI, gR_sL, g_118, hx.1, hx.2, hy.1, hy.2, T493 hx, T493 hy, b2_0', b2_n', c1, c2, T473]
      simp [c1, c2]
    · simp only [← q118]
      by_cases c3 : gI σ 118 x.toNat = 1 <;> by_cases c4 : gI σ 118 y.toNat = 1
      all_goals (simp only [M497, e497_0, e497_5, e497_13, e497_16, e497_22, e497_45, e497_50, Option.getD_some, Option.bind_some, Option.toList_some, Option.toList_none, List.cons_append, List.nil_append, and_self, and_true, true_and, false_and, and_false, ite_self, not_true_eq_false, not_false_eq_true, reduceIte, Nat.reduceEqDiff, ab_I, ab_L, ab_R, ao_I, ao_L, ao_R, gL_sL, gI_sI, gR_sR, gI_sL, gI_sR, gL_sI, gL_sR, gR_sI, gR_sL, g_118, hx.1, hx.2, hy.1, hy.2, T493 hx, T493 hy, b2_0', b2_n', c1, c2, c3, c4, T473]; simp [c1, c2, c3, c4, flt_0])
theorem T498 {x : Int} {σ : MS} (hx : inB x) : MM 498 [mR (some 80), mI x] σ = some (some (mI (b2 (mvs (aV σ x.toNat)))), σ) := by
  rw [M498]
  try simp only [e498_0, Option.getD_some, Option.bind_some, Option.toList_some, Option.toList_none, List.cons_append, List.nil_append, and_self, and_true, true_and, false_and, and_false, ite_self, not_true_eq_false, not_false_eq_true, reduceIte, Nat.reduceEqDiff, ab_I, ab_L, ab_R, ao_I, ao_L, ao_R, gL_sL, gI_sI, gR_sR, gI_sL, gI_sR, gL_sI, gL_sR, gR_sI, gR_sL, g_118, hx.1, hx.2]
  try simp only [mrgI, mrgL, mrg0, rtI, rtL, ite_self]
  try simp only [e498_42, Option.getD_some, Option.bind_some, Option.toList_some, Option.toList_none, List.cons_append, List.nil_append, and_self, and_true, true_and, false_and, and_false, ite_self, not_true_eq_false, not_false_eq_true, reduceIte, Nat.reduceEqDiff, ab_I, ab_L, ab_R, ao_I, ao_L, ao_R, gL_sL, gI_sI, gR_sR, gI_sL, gI_sR, gL_sI, gL_sR, gR_sI, gR_sL, g_118, hx.1, hx.2]
  try simp only [mrgI, mrgL, mrg0, rtI, rtL, ite_self]
  unfold b2 mvs
  simp only [q118]
  by_cases c1 : vk (aV σ x.toNat) = 3 <;> by_cases c2 : vk (aV σ x.toNat) = 5 <;> by_cases c3 : vk (aV σ x.toNat) = 7 <;> by_cases c4 : vk (aV σ x.toNat) = 9 <;> simp [c1, c2, c3, c4]
theorem T510 {x : Int} {σ : MS} (hx : inB x) : MM 510 [mR (some 80), mI x] σ = some (some (mI (b2 (fst (gI σ 80 90) (plcF (aV σ x.toNat)) = 0))), flt σ (plcF (aV σ x.toNat))) := by
  unfold plcF
  have bl0 : ∀ p : Prop, ∀ d : Decidable p, (if p then some (some (mI 1), σ) else some (some (mI 0), σ)) = (some (some (mI (b2 p)), σ) : Option Rs) := fun p d => by unfold b2; split <;> rfl
  by_cases c1 : isMb (aV σ x.toNat)
  · simp only [M510, e510_0, e510_5, e510_14, e510_22, e510_30, Option.getD_some, Option.bind_some, Option.toList_some, Option.toList_none, List.cons_append, List.nil_append, and_self, and_true, true_and, false_and, and_false, ite_self, not_true_eq_false, not_false_eq_true, reduceIte, Nat.reduceEqDiff, ab_I, ab_L, ab_R, ao_I, ao_L, ao_R, gL_sL, gI_sI, gR_sR, gI_sL, gI_sR, gL_sI, gL_sR, gR_sI, gR_sL, hx.1, hx.2, T493 hx, T498 hx, b2_0', b2_n', c1, T473]
    unfold flt b2
    simp only [gI_sI, and_self, if_true, c1]
    repeat' split
    all_goals first | rfl | (exfalso; simp_all)
  · by_cases c2 : mvs (aV σ x.toNat)
    · simp only [M510, e510_0, e510_5, e510_14, e510_22, e510_30, Option.getD_some, Option.bind_some, Option.toList_some, Option.toList_none, List.cons_append, List.nil_append, and_self, and_true, true_and, false_and, and_false, ite_self, not_true_eq_false, not_false_eq_true, reduceIte, Nat.reduceEqDiff, ab_I, ab_L, ab_R, ao_I, ao_L, ao_R, gL_sL, gI_sI, gR_sR, gI_sL, gI_sR, gL_sI, gL_sR, gR_sI, gR_sL, hx.1, hx.2, T493 hx, T498 hx, b2_0', b2_n', c1, c2, T473]
      simp only [c1, c2, not_true_eq_false, if_false, flt_0]
      unfold b2 fst
      repeat' split
      all_goals first | rfl | (exfalso; simp_all)
    · simp only [M510, e510_0, e510_5, e510_14, e510_22, e510_30, Option.getD_some, Option.bind_some, Option.toList_some, Option.toList_none, List.cons_append, List.nil_append, and_self, and_true, true_and, false_and, and_false, ite_self, not_true_eq_false, not_false_eq_true, reduceIte, Nat.reduceEqDiff, ab_I, ab_L, ab_R, ao_I, ao_L, ao_R, gL_sL, gI_sI, gR_sR, gI_sL, gI_sR, gL_sI, gL_sR, gR_sI, gR_sL, hx.1, hx.2, T493 hx, T498 hx, b2_0', b2_n', c1, c2, T473]
      unfold flt b2
      simp only [gI_sI, and_self, if_true, c1, c2, not_false_eq_true, if_false]
      repeat' split
      all_goals first | rfl | (exfalso; simp_all)
-- FILE 31.jcopy
/-! ===== stretches of rows that are copied ===== -/
def rkI (σ : MS) (c a b n : Nat) : MS := ((fun k s => if k = c ∧ b ≤ s ∧ s < b + n then σ.1 c (s - b + a) else σ.1 k s), σ.2)
def rkV (σ : MS) (a b n : Nat) : MS := ((fun k s => if (118 ≤ k ∧ k ≤ 122) ∧ b ≤ s ∧ s < b + n then σ.1 k (s - b + a) else σ.1 k s), (fun k s => if (112 ≤ k ∧ k ≤ 117) ∧ b ≤ s ∧ s < b + n then σ.2.1 k (s - b + a) else σ.2.1 k s), σ.2.2)
section RG2
variable {σ : MS} {c a b n k s i : Nat}
theorem gI_rkI : gI (rkI σ c a b n) k s = if k = c ∧ b ≤ s ∧ s < b + n then gI σ c (s - b + a) else gI σ k s := rfl
theorem gL_rkI : gL (rkI σ c a b n) k s = gL σ k s := rfl
theorem gI_rkI_o (h : ¬ k = c) : gI (rkI σ c a b n) k s = gI σ k s := if_neg fun q => h q.1
theorem kd_rkI : kd (rkI σ c a b n) k = kd σ k := rfl
theorem rkI_0 : rkI σ c a b 0 = σ := by
  refine ms_ext (fun k s => ?_) (fun k s => rfl) rfl
  rw [gI_rkI, if_neg (by omega)]
theorem rkI_s (h : a + n < b ∨ b ≤ a) : sI (rkI σ c a b n) c (b + n) (gI (rkI σ c a b n) c (a + n)) = rkI σ c a b (n + 1) := by
  refine ms_ext (fun k s => ?_) (fun k s => rfl) rfl
  rw [gI_sI, gI_rkI, gI_rkI, gI_rkI]
  by_cases e : k = c ∧ s = b + n
  · rw [if_pos e, if_neg (by omega), if_pos (by omega), show s - b + a = a + n by omega]
  · rw [if_neg e]
    by_cases e2 : k = c ∧ b ≤ s ∧ s < b + n
    · rw [if_pos e2, if_pos (by omega)]
    · rw [if_neg e2, if_neg (by omega)]
theorem gI_rkV : gI (rkV σ a b n) k s = if (118 ≤ k ∧ k ≤ 122) ∧ b ≤ s ∧ s < b + n then gI σ k (s - b + a) else gI σ k s := rfl
theorem gL_rkV : gL (rkV σ a b n) k s = if (112 ≤ k ∧ k ≤ 117) ∧ b ≤ s ∧ s < b + n then gL σ k (s - b + a) else gL σ k s := rfl
theorem gI_rkV_o (h : ¬ (118 ≤ k ∧ k ≤ 122)) : gI (rkV σ a b n) k s = gI σ k s := if_neg fun q => h q.1
theorem gL_rkV_o (h : ¬ (112 ≤ k ∧ k ≤ 117)) : gL (rkV σ a b n) k s = gL σ k s := if_neg fun q => h q.1
theorem kd_rkV : kd (rkV σ a b n) k = kd σ k := rfl
theorem aV_rkV : aV (rkV σ a b n) i = if b ≤ i ∧ i < b + n then aV σ (i - b + a) else aV σ i := by
  unfold aV rNv
  rw [gI_rkV, gI_rkV, gI_rkV, gI_rkV, gI_rkV, gL_rkV, gL_rkV, gL_rkV, gL_rkV, gL_rkV, gL_rkV]
  by_cases h : b ≤ i ∧ i < b + n
  · rw [if_pos h]
    rw [if_pos ⟨by decide, h⟩, if_pos ⟨by decide, h⟩, if_pos ⟨by decide, h⟩, if_pos ⟨by decide, h⟩, if_pos ⟨by decide, h⟩, if_pos ⟨by decide, h⟩, if_pos ⟨by decide, h⟩, if_pos ⟨by decide, h⟩, if_pos ⟨by decide, h⟩, if_pos ⟨by decide, h⟩, if_pos ⟨by decide, h⟩]
  · rw [if_neg h]
    rw [if_neg (fun q => h q.2), if_neg (fun q => h q.2), if_neg (fun q => h q.2), if_neg (fun q => h q.2), if_neg (fun q => h q.2), if_neg (fun q => h q.2), if_neg (fun q => h q.2), if_neg (fun q => h q.2), if_neg (fun q => h q.2), if_neg (fun q => h q.2), if_neg (fun q => h q.2)]
theorem rkV_0 : rkV σ a b 0 = σ := by
  refine ms_ext (fun k s => ?_) (fun k s => ?_) rfl
  · rw [gI_rkV, if_neg (by omega)]
  · rw [gL_rkV, if_neg (by omega)]
theorem rkV_s (h : a + n < b ∨ b ≤ a) : wrV (rkV σ a b n) (b + n) (aV (rkV σ a b n) (a + n)) = rkV σ a b (n + 1) := by
  have e0 : aV (rkV σ a b n) (a + n) = aV σ (a + n) := by rw [aV_rkV, if_neg (by omega)]
  rw [e0]
  refine ms_ext (fun k s => ?_) (fun k s => ?_) rfl
  · by_cases e : s = b + n
    · subst e
      by_cases hk : 118 ≤ k ∧ k ≤ 122
      · have r : gI (rkV σ a b (n + 1)) k (b + n) = gI σ k (a + n) := by rw [gI_rkV, if_pos ⟨hk, by omega, by omega⟩, show b + n - b + a = a + n by omega]
        rw [r]
        have : k = 118 ∨ k = 119 ∨ k = 120 ∨ k = 121 ∨ k = 122 := by omega
        rcases this with rfl | rfl | rfl | rfl | rfl
        all_goals (simp only [gI_wrV, Nat.reduceEqDiff, false_and, and_self, if_false, if_true])
        all_goals rfl
      · rw [gI_wrV_o hk, gI_rkV, if_neg (fun q => hk q.1), gI_rkV, if_neg (fun q => hk q.1)]
    · rw [gI_wrV_s e, gI_rkV, gI_rkV]
      by_cases e2 : (118 ≤ k ∧ k ≤ 122) ∧ b ≤ s ∧ s < b + n
      · rw [if_pos e2, if_pos (by omega)]
      · rw [if_neg e2, if_neg (by omega)]
  · by_cases e : s = b + n
    · subst e
      by_cases hk : 112 ≤ k ∧ k ≤ 117
      · have r : gL (rkV σ a b (n + 1)) k (b + n) = gL σ k (a + n) := by rw [gL_rkV, if_pos ⟨hk, by omega, by omega⟩, show b + n - b + a = a + n by omega]
        rw [r]
        have : k = 112 ∨ k = 113 ∨ k = 114 ∨ k = 115 ∨ k = 116 ∨ k = 117 := by omega
        rcases this with rfl | rfl | rfl | rfl | rfl | rfl
        all_goals (simp only [gL_wrV, Nat.reduceEqDiff, false_and, and_self, if_false, if_true])
        all_goals rfl
      · rw [gL_wrV_o hk, gL_rkV, if_neg (fun q => hk q.1), gL_rkV, if_neg (fun q => hk q.1)]
    · rw [gL_wrV_s e, gL_rkV, gL_rkV]
      by_cases e2 : (112 ≤ k ∧ k ≤ 117) ∧ b ≤ s ∧ s < b + n
      · rw [if_pos e2, if_pos (by omega)]
      · rw [if_neg e2, if_neg (by omega)]
end RG2
/-- a state of the judge's rows copied to another's place -/
def cpS (σ : MS) (x y : Nat) : MS :=
  rkV (rkI (rkI (sI (sI σ 123 y (gI σ 123 x)) 125 y (gI σ 125 x)) 124 (4 * x) (4 * y) 4) 126 (64 * x) (64 * y) (gI σ 125 x).toNat) (104 * x) (104 * y) (26 * (gI σ 123 x).toNat)
theorem T468 {x y : Nat} {σ : MS} (hx : x < 314) (hy : y < 314) (hxy : ¬ x = y) (hF : 0 ≤ gI σ 123 x ∧ gI σ 123 x ≤ 4) (hH : 0 ≤ gI σ 125 x ∧ gI σ 125 x ≤ 64) (hk : ∀ i, i < 26 * (gI σ 123 x).toNat → -128 ≤ vk (aV σ (104 * x + i)) ∧ vk (aV σ (104 * x + i)) < 128) : MM 468 [mR (some 80), mI x, mI y] σ = some (none, cpS σ x y) := by
  have h99 : ∀ (m : Nat) (τ : MS), gI τ 123 x = gI σ 123 x → (∀ i, i < 26 * (gI σ 123 x).toNat → aV τ (104 * x + i) = aV σ (104 * x + i)) → m ≤ 26 * (gI σ 123 x).toNat → RR (lkB tb468) (B468_99, [some (mR (some 80)), some (mI x), some (mI y), some (mI ((26 * (gI σ 123 x).toNat - m : Nat) : Int))], [], rkV τ (104 * x) (104 * y) (26 * (gI σ 123 x).toNat - m)) = some (none, rkV τ (104 * x) (104 * y) (26 * (gI σ 123 x).toNat)) := by
    intro m τ e1 e2
    induction m with
    | zero =>
      intro _
      rw [e468_99]
      simp only [g_123]
      rw [if_pos ⟨by omega, by omega⟩, gI_rkV_o (by omega), Int.toNat_natCast, e1, w32_i (by omega) (by omega), if_pos (by omega)]
      rfl
    | succ m ih =>
      intro hm
      rw [e468_99]
      simp only [g_123]
      rw [if_pos ⟨by omega, by omega⟩, gI_rkV_o (by omega), Int.toNat_natCast, e1, w32_i (by omega) (by omega), if_neg (by omega)]
      have ea : w32 (w32 (104 * (x : Int)) + ((26 * (gI σ 123 x).toNat - (m + 1) : Nat) : Int)) = ((104 * x + (26 * (gI σ 123 x).toNat - (m + 1)) : Nat) : Int) := by
        rw [w32_i (x := 104 * (x : Int)) (by omega) (by omega), w32_i (by omega) (by omega)]; omega
      have eb : w32 (w32 (104 * (y : Int)) + ((26 * (gI σ 123 x).toNat - (m + 1) : Nat) : Int)) = ((104 * y + (26 * (gI σ 123 x).toNat - (m + 1)) : Nat) : Int) := by
        rw [w32_i (x := 104 * (y : Int)) (by omega) (by omega), w32_i (by omega) (by omega)]; omega
      have ev : aV (rkV τ (104 * x) (104 * y) (26 * (gI σ 123 x).toNat - (m + 1))) (104 * x + (26 * (gI σ 123 x).toNat - (m + 1))) = aV σ (104 * x + (26 * (gI σ 123 x).toNat - (m + 1))) := by
        rw [aV_rkV, if_neg (by omega), e2 _ (by omega)]
      have hkk := hk (26 * (gI σ 123 x).toNat - (m + 1)) (by omega)
      rw [ea, eb, T430 ⟨by omega, by omega⟩ ⟨by omega, by omega⟩ (by rw [Int.toNat_natCast, ev]; exact hkk)]
      simp only [Option.bind_some, Option.toList_none, List.nil_append, e468_128, Int.toNat_natCast]
      rw [rkV_s (by omega), w32_i (by omega) (by omega)]
      have e3 : ((26 * (gI σ 123 x).toNat - (m + 1) : Nat) : Int) + 1 = ((26 * (gI σ 123 x).toNat - m : Nat) : Int) := by omega
      have e4 : 26 * (gI σ 123 x).toNat - (m + 1) + 1 = 26 * (gI σ 123 x).toNat - m := by omega
      rw [e3, e4]
      exact ih (by omega)
  have h59 : ∀ (m : Nat) (τ : MS), gI τ 125 x = gI σ 125 x → m ≤ (gI σ 125 x).toNat → RR (lkB tb468) (B468_59, [some (mR (some 80)), some (mI x), some (mI y), some (mI (((gI σ 125 x).toNat - m : Nat) : Int))], [], rkI τ 126 (64 * x) (64 * y) ((gI σ 125 x).toNat - m)) = RR (lkB tb468) (B468_99, [some (mR (some 80)), some (mI x), some (mI y), some (mI 0)], [], rkI τ 126 (64 * x) (64 * y) (gI σ 125 x).toNat) := by
    intro m τ e1
    induction m with
    | zero =>
      intro _
      rw [e468_59]
      simp only [g_125]
      rw [if_pos ⟨by omega, by omega⟩, gI_rkI_o (by omega), Int.toNat_natCast, e1, if_pos (by omega)]
      rfl
    | succ m ih =>
      intro hm
      have ea : w32 (w32 (64 * (x : Int)) + (((gI σ 125 x).toNat - (m + 1) : Nat) : Int)) = ((64 * x + ((gI σ 125 x).toNat - (m + 1)) : Nat) : Int) := by
        rw [w32_i (x := 64 * (x : Int)) (by omega) (by omega), w32_i (by omega) (by omega)]; omega
      have eb : w32 (w32 (64 * (y : Int)) + (((gI σ 125 x).toNat - (m + 1) : Nat) : Int)) = ((64 * y + ((gI σ 125 x).toNat - (m + 1)) : Nat) : Int) := by
        rw [w32_i (x := 64 * (y : Int)) (by omega) (by omega), w32_i (by omega) (by omega)]; omega
      rw [e468_59]
      simp only [g_125, g_126]
      rw [if_pos ⟨by omega, by omega⟩, gI_rkI_o (by omega), Int.toNat_natCast, e1, if_neg (by omega), ea, eb, if_pos ⟨by omega, by omega⟩, if_pos ⟨by omega, by omega⟩, Int.toNat_natCast, Int.toNat_natCast, rkI_s (by omega), w32_i (by omega) (by omega)]
      have e3 : (((gI σ 125 x).toNat - (m + 1) : Nat) : Int) + 1 = (((gI σ 125 x).toNat - m : Nat) : Int) := by omega
      have e4 : (gI σ 125 x).toNat - (m + 1) + 1 = (gI σ 125 x).toNat - m := by omega
      rw [e3, e4]
      exact ih (by omega)
  have h26 : ∀ (m : Nat) (τ : MS), m ≤ 4 → RR (lkB tb468) (B468_26, [some (mR (some 80)), some (mI x), some (mI y), some (mI ((4 - m : Nat) : Int))], [], rkI τ 124 (4 * x) (4 * y) (4 - m)) = RR (lkB tb468) (B468_59, [some (mR (some 80)), some (mI x), some (mI y), some (mI 0)], [], rkI τ 124 (4 * x) (4 * y) 4) := by
    intro m τ
    induction m with
    | zero =>
      intro _
      rw [e468_26, if_pos (by omega)]
      rfl
    | succ m ih =>
      intro hm
      have ea : w32 (w32 (4 * (x : Int)) + ((4 - (m + 1) : Nat) : Int)) = ((4 * x + (4 - (m + 1)) : Nat) : Int) := by
        rw [w32_i (x := 4 * (x : Int)) (by omega) (by omega), w32_i (by omega) (by omega)]; omega
      have eb : w32 (w32 (4 * (y : Int)) + ((4 - (m + 1) : Nat) : Int)) = ((4 * y + (4 - (m + 1)) : Nat) : Int) := by
        rw [w32_i (x := 4 * (y : Int)) (by omega) (by omega), w32_i (by omega) (by omega)]; omega
      rw [e468_26, if_neg (by omega), ea, eb]
      simp only [g_124]
      rw [if_pos ⟨by omega, by omega⟩, if_pos ⟨by omega, by omega⟩, Int.toNat_natCast, Int.toNat_natCast, rkI_s (by omega), w32_i (by omega) (by omega)]
      have e3 : ((4 - (m + 1) : Nat) : Int) + 1 = ((4 - m : Nat) : Int) := by omega
      have e4 : 4 - (m + 1) + 1 = 4 - m := by omega
      rw [e3, e4]
      exact ih (by omega)
  rw [M468, e468_0]
  simp only [g_123, g_125]
  rw [if_pos ⟨by omega, by omega⟩, if_pos ⟨by omega, by omega⟩, if_pos ⟨by omega, by omega⟩, if_pos ⟨by omega, by omega⟩]
  simp only [Int.toNat_natCast]
  rw [show gI (sI σ 123 y (gI σ 123 x)) 125 x = gI σ 125 x by rw [gI_sI, if_neg (by omega)]]
  generalize hτ : sI (sI σ 123 y (gI σ 123 x)) 125 y (gI σ 125 x) = τ
  have t1 : gI τ 123 x = gI σ 123 x := by rw [← hτ, gI_sI, if_neg (by omega), gI_sI, if_neg (by omega)]
  have t2 : gI τ 125 x = gI σ 125 x := by rw [← hτ, gI_sI, if_neg (by omega), gI_sI, if_neg (by omega)]
  have t3 : ∀ i, aV τ i = aV σ i := fun i => by rw [← hτ, aV_sI (by omega), aV_sI (by omega)]
  have a1 := h26 4 τ (Nat.le_refl _)
  rw [show 4 - 4 = 0 from rfl, rkI_0] at a1
  rw [show (0 : Int) = ((0 : Nat) : Int) from rfl, a1]
  have a2 := h59 (gI σ 125 x).toNat (rkI τ 124 (4 * x) (4 * y) 4) (by rw [gI_rkI_o (by omega)]; exact t2) (Nat.le_refl _)
  rw [Nat.sub_self, rkI_0] at a2
  rw [show (0 : Int) = ((0 : Nat) : Int) from rfl, a2]
  have a3 := h99 (26 * (gI σ 123 x).toNat) (rkI (rkI τ 124 (4 * x) (4 * y) 4) 126 (64 * x) (64 * y) (gI σ 125 x).toNat) (by rw [gI_rkI_o (by omega), gI_rkI_o (by omega)]; exact t1) (fun i _ => by
    have : aV (rkI (rkI τ 124 (4 * x) (4 * y) 4) 126 (64 * x) (64 * y) (gI σ 125 x).toNat) (104 * x + i) = aV τ (104 * x + i) := by
      unfold aV
      rw [gI_rkI_o (by omega), gI_rkI_o (by omega), gI_rkI_o (by omega), gI_rkI_o (by omega), gI_rkI_o (by omega), gI_rkI_o (by omega), gI_rkI_o (by omega), gI_rkI_o (by omega), gI_rkI_o (by omega), gI_rkI_o (by omega)]
      rfl
    rw [this, t3]) (Nat.le_refl _)
  rw [Nat.sub_self, rkV_0] at a3
  rw [show (0 : Int) = ((0 : Nat) : Int) from rfl, a3]
  unfold cpS
  rw [hτ]
-- FILE 32.cnum
/-! ===== the class's numbers ===== -/
theorem T571 {x0 x2 : B64} {σ : MS} : MM 571 [mL x0, mL x2] σ = some (some (mL (smax x0 x2)), σ) := by
  rw [M571]
  try simp only [e571_0, Option.getD_some, Option.bind_some, Option.toList_some, Option.toList_none, List.cons_append, List.nil_append, and_self, and_true, true_and, false_and, and_false, ite_self, not_true_eq_false, not_false_eq_true, reduceIte, Nat.reduceEqDiff, ab_I, ab_L, ab_R, ao_I, ao_L, ao_R, gL_sL, gI_sI, gR_sR, gI_sL, gI_sR, gL_sI, gL_sR, gR_sI, gR_sL]
  try simp only [mrgI, mrgL, mrg0, rtI, rtL, ite_self]
  unfold smax
  split <;> split <;> first | rfl | omega
theorem T572 {x0 x2 : B64} {σ : MS} : MM 572 [mL x0, mL x2] σ = some (some (mL (smin x0 x2)), σ) := by
  rw [M572]
  try simp only [e572_0, Option.getD_some, Option.bind_some, Option.toList_some, Option.toList_none, List.cons_append, List.nil_append, and_self, and_true, true_and, false_and, and_false, ite_self, not_true_eq_false, not_false_eq_true, reduceIte, Nat.reduceEqDiff, ab_I, ab_L, ab_R, ao_I, ao_L, ao_R, gL_sL, gI_sI, gR_sR, gI_sL, gI_sR, gL_sI, gL_sR, gR_sI, gR_sL]
  try simp only [mrgI, mrgL, mrg0, rtI, rtL, ite_self]
  unfold smin
  split <;> split <;> first | rfl | omega
abbrev isNm (σ : MS) (k : Nat) : Prop := kd σ k = (22, 0)
theorem aoN {σ : MS} {k : Nat} (hk : isNm σ k) : ao σ 2 (some k) = True := aoK (c := 2) hk
theorem aoNw {σ : MS} {k j : Nat} {n : N6} (hk : isNm σ k) : ao (wC σ j n) 2 (some k) = True := aoK (c := 2) (σ := wC σ j n) hk
theorem T61 {k : Nat} {x1 : B64} {σ : MS} (hk : isNm σ k) : MM 61 [mR (some k), mL x1] σ = some (none, wC σ k (cstN x1)) := by
  rw [M61]
  try simp only [e61_0, Option.getD_some, Option.bind_some, Option.toList_some, Option.toList_none, List.cons_append, List.nil_append, and_self, and_true, true_and, false_and, and_false, ite_self, not_true_eq_false, not_false_eq_true, reduceIte, Nat.reduceEqDiff, ab_I, ab_L, ab_R, ao_I, ao_L, ao_R, gL_sL, gI_sI, gR_sR, gI_sL, gI_sR, gL_sI, gL_sR, gR_sI, gR_sL, aoN hk]
  try simp only [mrgI, mrgL, mrg0, rtI, rtL, ite_self]
  try simp only [e61_15, Option.getD_some, Option.bind_some, Option.toList_some, Option.toList_none, List.cons_append, List.nil_append, and_self, and_true, true_and, false_and, and_false, ite_self, not_true_eq_false, not_false_eq_true, reduceIte, Nat.reduceEqDiff, ab_I, ab_L, ab_R, ao_I, ao_L, ao_R, gL_sL, gI_sI, gR_sR, gI_sL, gI_sR, gL_sI, gL_sR, gR_sI, gR_sL, aoN hk]
  try simp only [mrgI, mrgL, mrg0, rtI, rtL, ite_self]
  try simp only [e61_30, Option.getD_some, Option.bind_some, Option.toList_some, Option.toList_none, List.cons_append, List.nil_append, and_self, and_true, true_and, false_and, and_false, ite_self, not_true_eq_false, not_false_eq_true, reduceIte, Nat.reduceEqDiff, ab_I, ab_L, ab_R, ao_I, ao_L, ao_R, gL_sL, gI_sI, gR_sR, gI_sL, gI_sR, gL_sI, gL_sR, gR_sI, gR_sL, aoN hk]
  try simp only [mrgI, mrgL, mrg0, rtI, rtL, ite_self]
  rfl
theorem T62 {k : Nat} {σ : MS} (hk : isNm σ k) : MM 62 [mR (some k)] σ = some (none, wC σ k anyN) := by
  rw [M62]
  try simp only [e62_0, Option.getD_some, Option.bind_some, Option.toList_some, Option.toList_none, List.cons_append, List.nil_append, and_self, and_true, true_and, false_and, and_false, ite_self, not_true_eq_false, not_false_eq_true, reduceIte, Nat.reduceEqDiff, ab_I, ab_L, ab_R, ao_I, ao_L, ao_R, gL_sL, gI_sI, gR_sR, gI_sL, gI_sR, gL_sI, gL_sR, gR_sI, gR_sL, aoN hk, iL_m1, iL_min, iL_max]
  try simp only [mrgI, mrgL, mrg0, rtI, rtL, ite_self]
  try simp only [e62_17, Option.getD_some, Option.bind_some, Option.toList_some, Option.toList_none, List.cons_append, List.nil_append, and_self, and_true, true_and, false_and, and_false, ite_self, not_true_eq_false, not_false_eq_true, reduceIte, Nat.reduceEqDiff, ab_I, ab_L, ab_R, ao_I, ao_L, ao_R, gL_sL, gI_sI, gR_sR, gI_sL, gI_sR, gL_sI, gL_sR, gR_sI, gR_sL, aoN hk, iL_m1, iL_min, iL_max]
  try simp only [mrgI, mrgL, mrg0, rtI, rtL, ite_self]
  try simp only [e62_38, Option.getD_some, Option.bind_some, Option.toList_some, Option.toList_none, List.cons_append, List.nil_append, and_self, and_true, true_and, false_and, and_false, ite_self, not_true_eq_false, not_false_eq_true, reduceIte, Nat.reduceEqDiff, ab_I, ab_L, ab_R, ao_I, ao_L, ao_R, gL_sL, gI_sI, gR_sR, gI_sL, gI_sR, gL_sI, gL_sR, gR_sI, gR_sL, aoN hk, iL_m1, iL_min, iL_max]
  try simp only [mrgI, mrgL, mrg0, rtI, rtL, ite_self]
  rfl
theorem T63 {k n : Nat} {σ : MS} (hk : isNm σ k) (hn : n ≤ 8) : MM 63 [mR (some k), mI n] σ = some (none, wC σ k (wideN n)) := by
  have e : w32 (8 * (n : Int)) = ((8 * n : Nat) : Int) := by rw [w32_i (by omega) (by omega)]; omega
  unfold wideN
  by_cases c : 8 ≤ n
  · rw [if_pos c]
    simp only [M63, e63_0, e63_4, e63_35, Option.getD_some, Option.bind_some, Option.toList_some, Option.toList_none, List.cons_append, List.nil_append, and_self, and_true, true_and, false_and, and_false, ite_self, not_true_eq_false, not_false_eq_true, reduceIte, Nat.reduceEqDiff, ab_I, ab_L, ab_R, ao_I, ao_L, ao_R, gL_sL, gI_sI, gR_sR, gI_sL, gI_sR, gL_sI, gL_sR, gR_sI, gR_sL, aoN hk, T62 hk, aoNw hk, e, show ((8 : Int) ≤ (n : Int)) = True from eq_true (by omega)]
  · rw [if_neg c]
    simp only [M63, e63_0, e63_4, e63_35, Option.getD_some, Option.bind_some, Option.toList_some, Option.toList_none, List.cons_append, List.nil_append, and_self, and_true, true_and, false_and, and_false, ite_self, not_true_eq_false, not_false_eq_true, reduceIte, Nat.reduceEqDiff, ab_I, ab_L, ab_R, ao_I, ao_L, ao_R, gL_sL, gI_sI, gR_sR, gI_sL, gI_sR, gL_sI, gL_sR, gR_sI, gR_sL, aoN hk, T62 hk, aoNw hk, wC0, wC1, wC2, wC3, wC4, wC5, gC0, gC1, gC2, gC3, gC4, gC5, e, lShl_k 1#64 (show 8 * n < 64 by omega), show ((8 : Int) ≤ (n : Int)) = False from eq_false (by omega)]
    rfl
theorem T64 {k : Nat} {σ : MS} (hk : isNm σ k) : MM 64 [mR (some k)] σ = some (none, sL (sL σ k 2 0#64) k 3 cAll) := by
  rw [M64]
  try simp only [e64_0, Option.getD_some, Option.bind_some, Option.toList_some, Option.toList_none, List.cons_append, List.nil_append, and_self, and_true, true_and, false_and, and_false, ite_self, not_true_eq_false, not_false_eq_true, reduceIte, Nat.reduceEqDiff, ab_I, ab_L, ab_R, ao_I, ao_L, ao_R, gL_sL, gI_sI, gR_sR, gI_sL, gI_sR, gL_sI, gL_sR, gR_sI, gR_sL, aoN hk, iL_m1]
  try simp only [mrgI, mrgL, mrg0, rtI, rtL, ite_self]
theorem T65 {k : Nat} {σ : MS} (hk : isNm σ k) : MM 65 [mR (some k)] σ = some (none, sL (sL σ k 4 cMin) k 5 cMax) := by
  rw [M65]
  try simp only [e65_0, Option.getD_some, Option.bind_some, Option.toList_some, Option.toList_none, List.cons_append, List.nil_append, and_self, and_true, true_and, false_and, and_false, ite_self, not_true_eq_false, not_false_eq_true, reduceIte, Nat.reduceEqDiff, ab_I, ab_L, ab_R, ao_I, ao_L, ao_R, gL_sL, gI_sI, gR_sR, gI_sL, gI_sR, gL_sI, gL_sR, gR_sI, gR_sL, aoN hk, iL_min, iL_max]
  try simp only [mrgI, mrgL, mrg0, rtI, rtL, ite_self]
theorem T64w {k : Nat} {σ : MS} {n : N6} (hk : isNm σ k) : MM 64 [mR (some k)] (wC σ k n) = some (none, wC σ k (jV n, jM n, 0#64, cAll, jC n, jD n)) := by
  rw [T64 (σ := wC σ k n) hk, wC2, wC3]
theorem T65w {k : Nat} {σ : MS} {n : N6} (hk : isNm σ k) : MM 65 [mR (some k)] (wC σ k n) = some (none, wC σ k (jV n, jM n, jA n, jB n, cMin, cMax)) := by
  rw [T65 (σ := wC σ k n) hk, wC4, wC5]
theorem T66 {k j : Nat} {σ : MS} (hk : isNm σ k) (hj : isNm σ j) (h : ¬ j = k) : MM 66 [mR (some k), mR (some j)] σ = some (none, wC σ k (rC σ j)) := by
  rw [M66]
  try simp only [e66_0, Option.getD_some, Option.bind_some, Option.toList_some, Option.toList_none, List.cons_append, List.nil_append, and_self, and_true, true_and, false_and, and_false, ite_self, not_true_eq_false, not_false_eq_true, reduceIte, Nat.reduceEqDiff, ab_I, ab_L, ab_R, ao_I, ao_L, ao_R, gL_sL, gI_sI, gR_sR, gI_sL, gI_sR, gL_sI, gL_sR, gR_sI, gR_sL, aoN hk, aoN hj, h]
  try simp only [mrgI, mrgL, mrg0, rtI, rtL, ite_self]
  try simp only [e66_24, Option.getD_some, Option.bind_some, Option.toList_some, Option.toList_none, List.cons_append, List.nil_append, and_self, and_true, true_and, false_and, and_false, ite_self, not_true_eq_false, not_false_eq_true, reduceIte, Nat.reduceEqDiff, ab_I, ab_L, ab_R, ao_I, ao_L, ao_R, gL_sL, gI_sI, gR_sR, gI_sL, gI_sR, gL_sI, gL_sR, gR_sI, gR_sL, aoN hk, aoN hj, h]
  try simp only [mrgI, mrgL, mrg0, rtI, rtL, ite_self]
  try simp only [e66_48, Option.getD_some, Option.bind_some, Option.toList_some, Option.toList_none, List.cons_append, List.nil_append, and_self, and_true, true_and, false_and, and_false, ite_self, not_true_eq_false, not_false_eq_true, reduceIte, Nat.reduceEqDiff, ab_I, ab_L, ab_R, ao_I, ao_L, ao_R, gL_sL, gI_sI, gR_sR, gI_sL, gI_sR, gL_sI, gL_sR, gR_sI, gR_sL, aoN hk, aoN hj, h]
  try simp only [mrgI, mrgL, mrg0, rtI, rtL, ite_self]
  rfl
theorem T69 {k : Nat} {σ : MS} (hk : isNm σ k) : MM 69 [mR (some k)] σ = some (some (mI (b2 (gL σ k 1 = 0#64))), σ) := by
  rw [M69]
  try simp only [e69_0, Option.getD_some, Option.bind_some, Option.toList_some, Option.toList_none, List.cons_append, List.nil_append, and_self, and_true, true_and, false_and, and_false, ite_self, not_true_eq_false, not_false_eq_true, reduceIte, Nat.reduceEqDiff, ab_I, ab_L, ab_R, ao_I, ao_L, ao_R, gL_sL, gI_sI, gR_sR, gI_sL, gI_sR, gL_sI, gL_sR, gR_sI, gR_sL, aoN hk]
  try simp only [mrgI, mrgL, mrg0, rtI, rtL, ite_self]
  unfold b2
  split <;> simp_all
theorem T72n {k : Nat} {σ : MS} {n : N6} (hk : isNm σ k) : MM 72 [mR (some k)] (wC σ k n) = some (none, wC σ k (byB n)) := by
  have h : ∀ m : N6, ao (wC σ k m) 2 (some k) := fun m => of_eq_true (aoNw hk)
  rw [M72, e72_0 (h n), e72_32 (h n)]
  simp only [e72_77, e72_101, e72_125, Option.getD_some, Option.bind_some, Option.toList_some, Option.toList_none, List.cons_append, List.nil_append, and_self, and_true, true_and, false_and, and_false, ite_self, not_true_eq_false, not_false_eq_true, reduceIte, Nat.reduceEqDiff, ab_I, ab_L, ab_R, ao_I, ao_L, ao_R, gL_sL, gI_sI, gR_sR, gI_sL, gI_sR, gL_sI, gL_sR, gR_sI, gR_sL, aoNw hk, T571, T572, wC0, wC1, wC2, wC3, wC4, wC5, gC0, gC1, gC2, gC3, gC4, gC5, iL_min, iL_max]
  rfl
theorem T72 {k : Nat} {σ : MS} (hk : isNm σ k) : MM 72 [mR (some k)] σ = some (none, wC σ k (byB (rC σ k))) := by
  have h := T72n (n := rC σ k) hk
  rw [wC_eta] at h
  exact h
set_option maxHeartbeats 2000000 in
theorem T73n {k : Nat} {σ : MS} {n : N6} (hk : isNm σ k) : ∃ r : Int, MM 73 [mR (some k)] (wC σ k n) = some (some (mI (tdB n)), if tdC (td2 (td1 (byB n))) then wC σ k (tdN n) else wC σ k (td2 (td1 (byB n)))) ∧ r = tdB n := by
  refine ⟨_, ?_, rfl⟩
  rw [M73]
  simp only [e73_0, Option.getD_some, Option.bind_some, Option.toList_some, Option.toList_none, List.cons_append, List.nil_append, and_self, and_true, true_and, false_and, and_false, ite_self, not_true_eq_false, not_false_eq_true, reduceIte, Nat.reduceEqDiff, ab_I, ab_L, ab_R, ao_I, ao_L, ao_R, gL_sL, gI_sI, gR_sR, gI_sL, gI_sR, gL_sI, gL_sR, gR_sI, gR_sL, aoNw hk, T72n hk]
  have s1 : ∀ n, RR (lkB tb73) (B73_4, [some (mR (some k)), none, none], [], wC σ k n) = RR (lkB tb73) (B73_52, [some (mR (some k)), none, none], [], wC σ k (td1 n)) := by
    intro n
    unfold td1
    by_cases c1 : 0 ≤ (jC n).toInt
    · rw [if_pos (Or.inl c1)]
      simp only [e73_4, e73_22, e73_34, e73_49, Option.getD_some, Option.bind_some, Option.toList_some, Option.toList_none, List.cons_append, List.nil_append, and_self, and_true, true_and, false_and, and_false, ite_self, not_true_eq_false, not_false_eq_true, reduceIte, Nat.reduceEqDiff, ab_I, ab_L, ab_R, ao_I, ao_L, ao_R, gL_sL, gI_sI, gR_sR, gI_sL, gI_sR, gL_sI, gL_sR, gR_sI, gR_sL, aoNw hk, T70, T71, wC2, wC3, gC2, gC3, gC4, gC5, t0, c1]
    · by_cases c2 : 0 ≤ (jD n).toInt
      · rw [if_neg (by omega)]
        simp only [e73_4, Option.getD_some, Option.bind_some, Option.toList_some, Option.toList_none, List.cons_append, List.nil_append, and_self, and_true, true_and, false_and, and_false, ite_self, not_true_eq_false, not_false_eq_true, reduceIte, Nat.reduceEqDiff, ab_I, ab_L, ab_R, ao_I, ao_L, ao_R, gL_sL, gI_sI, gR_sR, gI_sL, gI_sR, gL_sI, gL_sR, gR_sI, gR_sL, aoNw hk, gC4, gC5, t0, c1, c2]
      · rw [if_pos (show 0 ≤ (jC n).toInt ∨ (jD n).toInt < 0 by omega)]
        simp only [e73_4, e73_22, e73_34, e73_49, Option.getD_some, Option.bind_some, Option.toList_some, Option.toList_none, List.cons_append, List.nil_append, and_self, and_true, true_and, false_and, and_false, ite_self, not_true_eq_false, not_false_eq_true, reduceIte, Nat.reduceEqDiff, ab_I, ab_L, ab_R, ao_I, ao_L, ao_R, gL_sL, gI_sI, gR_sR, gI_sL, gI_sR, gL_sI, gL_sR, gR_sI, gR_sL, aoNw hk, T70, T71, wC2, wC3, gC2, gC3, gC4, gC5, t0, c1, c2]
  have s2 : ∀ n, RR (lkB tb73) (B73_52, [some (mR (some k)), none, none], [], wC σ k n) = RR (lkB tb73) (B73_96, [some (mR (some k)), none, none], [], wC σ k (td2 n)) := by
    intro n
    have q : (jA n ^^^ jB n).toInt < 0 ↔ ¬ ((jA n).toInt < 0 ↔ (jB n).toInt < 0) := by
      rw [sgnx]
      omega
    unfold td2
    by_cases c1 : (jA n ^^^ jB n).toInt < 0
    · rw [if_neg (q.mp c1)]
      simp only [e73_52, Option.getD_some, Option.bind_some, Option.toList_some, Option.toList_none, List.cons_append, List.nil_append, and_self, and_true, true_and, false_and, and_false, ite_self, not_true_eq_false, not_false_eq_true, reduceIte, Nat.reduceEqDiff, ab_I, ab_L, ab_R, ao_I, ao_L, ao_R, gL_sL, gI_sI, gR_sR, gI_sL, gI_sR, gL_sI, gL_sR, gR_sI, gR_sL, aoNw hk, gC2, gC3, t0, c1]
    · rw [if_pos (show ((jA n).toInt < 0 ↔ (jB n).toInt < 0) from Classical.byContradiction fun z => c1 (q.mpr z))]
      simp only [e73_52, e73_78, e73_93, Option.getD_some, Option.bind_some, Option.toList_some, Option.toList_none, List.cons_append, List.nil_append, and_self, and_true, true_and, false_and, and_false, ite_self, not_true_eq_false, not_false_eq_true, reduceIte, Nat.reduceEqDiff, ab_I, ab_L, ab_R, ao_I, ao_L, ao_R, gL_sL, gI_sI, gR_sR, gI_sL, gI_sR, gL_sI, gL_sR, gR_sI, gR_sL, aoNw hk, T571, T572, wC4, wC5, gC2, gC3, gC4, gC5, t0, c1]
  rw [s1, s2]
  unfold tdB tdN
  generalize td2 (td1 (byB n)) = n
  simp only [e73_96, Option.getD_some, Option.bind_some, Option.toList_some, Option.toList_none, List.cons_append, List.nil_append, and_self, and_true, true_and, false_and, and_false, ite_self, not_true_eq_false, not_false_eq_true, reduceIte, Nat.reduceEqDiff, ab_I, ab_L, ab_R, ao_I, ao_L, ao_R, gL_sL, gI_sI, gR_sR, gI_sL, gI_sR, gL_sI, gL_sR, gR_sI, gR_sL, aoNw hk, gC2, gC3, T74]
  by_cases c : tdC n
  · rw [if_pos c, if_pos c]
    have c' : ((jV n ^^^ jA n) &&& ~~~ sprd (jA n ^^^ jB n)) &&& ~~~ (jM n) = 0#64 := c
    simp only [e73_108, Option.getD_some, Option.bind_some, Option.toList_some, Option.toList_none, List.cons_append, List.nil_append, and_self, and_true, true_and, false_and, and_false, ite_self, not_true_eq_false, not_false_eq_true, reduceIte, Nat.reduceEqDiff, ab_I, ab_L, ab_R, ao_I, ao_L, ao_R, gL_sL, gI_sI, gR_sR, gI_sL, gI_sR, gL_sI, gL_sR, gR_sI, gR_sL, aoNw hk, wC0, wC1, gC0, gC1, gC2, gC3, iL_m1, xor_all, c', T72n hk, BitVec.not_not]
    rw [e73_173 (of_eq_true (aoNw hk))]
    simp only [gC2, gC3, gC4, gC5, e73_209]
    show (if jB (byB (td3 n)) < jA (byB (td3 n)) then _ else if (jD (byB (td3 n))).toInt < (jC (byB (td3 n))).toInt then _ else _) = _
    unfold b2 tdP
    by_cases c1 : jB (byB (td3 n)) < jA (byB (td3 n))
    · simp [c1]
      rfl
    · by_cases c2 : (jD (byB (td3 n))).toInt < (jC (byB (td3 n))).toInt
      · simp [c1, c2]
        rfl
      · simp [c1, c2]
        rfl
  · rw [if_neg c, if_neg c]
    have c' : ¬ ((jV n ^^^ jA n) &&& ~~~ sprd (jA n ^^^ jB n)) &&& ~~~ (jM n) = 0#64 := c
    simp only [e73_108, Option.getD_some, Option.bind_some, Option.toList_some, Option.toList_none, List.cons_append, List.nil_append, and_self, and_true, true_and, false_and, and_false, ite_self, not_true_eq_false, not_false_eq_true, reduceIte, Nat.reduceEqDiff, ab_I, ab_L, ab_R, ao_I, ao_L, ao_R, gL_sL, gI_sI, gR_sR, gI_sL, gI_sR, gL_sI, gL_sR, gR_sI, gR_sL, aoNw hk, gC0, gC1, gC2, gC3, iL_m1, xor_all, c']
-- FILE 25.hold
/-! ===== the class: operations and conditions ===== -/
theorem mk_all : (List.range 256).all (fun a => decide (iAnd a 240 = (a / 16 * 16 : Nat)) && decide (iAnd a 8 = (a / 8 % 2 * 8 : Nat)) && decide (iAnd a 24 = (a / 8 % 4 * 8 : Nat)) && decide (iAnd a 224 = (a / 32 * 32 : Nat))) = true := by decide +kernel
theorem mk_at {a : Int} (h0 : 0 ≤ a) (h1 : a < 256) : iAnd a 240 = a / 16 * 16 ∧ iAnd a 8 = a / 8 % 2 * 8 ∧ iAnd a 24 = a / 8 % 4 * 8 ∧ iAnd a 224 = a / 32 * 32 := by
  have h := List.all_eq_true.mp mk_all a.toNat (List.mem_range.mpr (by omega))
  simp only [Bool.and_eq_true, decide_eq_true_eq] at h
  have e : ((a.toNat : Nat) : Int) = a := Int.toNat_of_nonneg h0
  rw [e] at h
  obtain ⟨⟨⟨h1, h2⟩, h3⟩, h4⟩ := h
  rw [h1, h2, h3, h4]
  omega
theorem sxt_val (x : B64) : (sxt 32 x).toInt = ((x.toNat % 4294967296 : Nat) : Int).bmod 4294967296 := by
  rw [← sxt_toInt]
  have h1 := toInt_c x
  have hx := x.isLt
  unfold iL lI w32
  rw [BitVec.toInt_ofInt, Int.bmod_def, Int.bmod_def, Int.bmod_def]
  split <;> split <;> split <;> split at h1 <;> omega
theorem sxt_cut (x : B64) : sxt 32 (x &&& cF) = sxt 32 x := by
  apply BitVec.eq_of_toInt_eq
  rw [sxt_val, sxt_val, low32]
  congr 1
  omega
theorem sxt_lt (a b : B64) : sxt 32 a < sxt 32 b ↔ a &&& cF < b &&& cF := by
  have ha := sxt_val a
  have hb := sxt_val b
  have ca := toInt_c (sxt 32 a)
  have cb := toInt_c (sxt 32 b)
  have la := (sxt 32 a).isLt
  have lb := (sxt 32 b).isLt
  rw [BitVec.lt_def, BitVec.lt_def, low32, low32]
  rw [Int.bmod_def] at ha hb
  split at ha <;> split at hb <;> split at ca <;> split at cb <;> omega
theorem sxt_eq (a b : B64) : sxt 32 a = sxt 32 b ↔ a &&& cF = b &&& cF := by
  constructor
  · intro h
    have n1 : ¬ a &&& cF < b &&& cF := fun q => by
      have := (sxt_lt a b).mpr q
      rw [h, BitVec.lt_def] at this
      omega
    have n2 : ¬ b &&& cF < a &&& cF := fun q => by
      have := (sxt_lt b a).mpr q
      rw [h, BitVec.lt_def] at this
      omega
    rw [BitVec.lt_def] at n1 n2
    exact BitVec.eq_of_toNat_eq (by omega)
  · intro h
    rw [← sxt_cut a, ← sxt_cut b, h]
theorem sxt_and (a b : B64) : sxt 32 a &&& sxt 32 b = sxt 32 (a &&& b) := by
  unfold sxt
  apply BitVec.eq_of_getLsbD_eq
  intro i hi
  rw [BitVec.getLsbD_and, sar_bit, sar_bit, sar_bit, BitVec.getLsbD_shiftLeft, BitVec.getLsbD_shiftLeft, BitVec.getLsbD_shiftLeft, BitVec.getLsbD_and]
  cases decide (i < 64) <;> cases decide ((if 64 - 32 + i < 64 then 64 - 32 + i else 63) < 64) <;> cases decide ((if 64 - 32 + i < 64 then 64 - 32 + i else 63) < 64 - 32) <;> simp
theorem sxt_z (x : B64) : sxt 32 x = 0#64 ↔ x &&& cF = 0#64 := by
  have := sxt_eq x 0#64
  rw [show sxt 32 (0#64) = 0#64 by decide, show (0#64) &&& cF = 0#64 by decide] at this
  exact this
/-- numbers of 32 bits have the same order with their signs drawn up -/
theorem cmp_sxt {c : Int} (hc : isCmp c) (a b : B64) : cmpB c true (sxt 32 a) (sxt 32 b) = cmpB c false (a &&& cF) (b &&& cF) := by
  rcases hc with rfl | rfl | rfl | rfl | rfl | rfl | rfl | rfl | rfl | rfl | rfl
  · rw [cmpB_16, cmpB_16]; exact decide_eq_decide.mpr (sxt_eq a b)
  · rw [cmpB_32, cmpB_32]; exact decide_eq_decide.mpr (sxt_lt b a)
  · rw [cmpB_48, cmpB_48]; exact decide_eq_decide.mpr (not_congr (sxt_lt a b))
  · rw [cmpB_64, cmpB_64, sxt_and]
    refine decide_eq_decide.mpr (not_congr ((sxt_z _).trans ?_))
    rw [show (a &&& b) &&& cF = (a &&& cF) &&& (b &&& cF) by
      apply BitVec.eq_of_getLsbD_eq
      intro i hi
      simp only [BitVec.getLsbD_and]
      generalize a.getLsbD i = p1
      generalize b.getLsbD i = p2
      generalize BitVec.getLsbD cF i = p3
      cases p1 <;> cases p2 <;> cases p3 <;> rfl]
  · rw [cmpB_80, cmpB_80]; exact decide_eq_decide.mpr (not_congr (sxt_eq a b))
  · rw [cmpB_96, cmpB_96, sxt_cut, sxt_cut]; rfl
  · rw [cmpB_112, cmpB_112, sxt_cut, sxt_cut]; rfl
  · rw [cmpB_160, cmpB_160]; exact decide_eq_decide.mpr (sxt_lt a b)
  · rw [cmpB_176, cmpB_176]; exact decide_eq_decide.mpr (not_congr (sxt_lt b a))
  · rw [cmpB_192, cmpB_192, sxt_cut, sxt_cut]; rfl
  · rw [cmpB_208, cmpB_208, sxt_cut, sxt_cut]; rfl
theorem T26 {op : Int} {a b : B64} {σ : MS} (h0 : 0 ≤ op) (h1 : op < 256) (hc : isCmp (op / 16 * 16)) : MM 26 [mI op, mL a, mL b] σ = some (some (mI (if cmpW (op / 16 * 16) (decide (op % 8 = 5)) a b = true then 1 else 0)), σ) := by
  have key : ∀ (x y : B64) (w : Int), RR (lkB tb26) (B26_41, [some (mI op), some (mL a), none, some (mL b), none, some (mI w), some (mL x), none, none, none], [mL y], σ) = some (some (mI (if cmpB (op / 16 * 16) true x y = true then 1 else 0)), σ) := by
    intro x y w
    rw [e26_41, (mk_at h0 h1).1]
    generalize op / 16 * 16 = c at *
    rcases hc with rfl | rfl | rfl | rfl | rfl | rfl | rfl | rfl | rfl | rfl | rfl
    all_goals simp [cmpB, T17, e26_161, e26_169, e26_243, e26_251, bl_b2, b2_0']
    all_goals (try unfold b2)
    all_goals (repeat' split)
    all_goals first | rfl | omega | bv_omega | simp_all
  rw [M26]
  simp only [e26_0, iAnd7]
  unfold cmpW
  by_cases w : op % 8 = 5
  · simp only [w, not_true_eq_false, if_false, e26_13, e26_27, show ¬ (1 : Int) = 0 by decide, key, decide_true, if_true]
  · simp only [w, not_false_eq_true, if_true, e26_13, e26_27, key, sxt_toInt, decide_false, Bool.false_eq_true, if_false, cmp_sxt hc]
theorem T20 {op off : Int} {a b : B64} {σ : MS} (h0 : 0 ≤ op) (h1 : op < 256) (hc : okC (op / 16 * 16) off) : MM 20 [mI op, mI off, mL a, mL b] σ = some (some (mL (if op % 8 = 7 then reckA (op / 16 * 16) off true a b else reckA (op / 16 * 16) off false (a &&& cF) (b &&& cF) &&& cF)), σ) := by
  obtain ⟨c1, c2, c3⟩ := hc
  rw [M20]
  simp only [e20_0, iAnd7]
  by_cases w : op % 8 = 7
  · simp only [w, not_true_eq_false, if_false, e20_14, e20_30, e20_48, show ¬ (1 : Int) = 0 by decide, lI63, if_true]
    rw [e20_65, (mk_at h0 h1).1]
    generalize op / 16 * 16 = c at *
    rcases c1 with rfl | rfl | rfl | rfl | rfl | rfl | rfl | rfl | rfl | rfl | rfl | rfl | rfl
    · simp [e20_406, reckA, reck]
    · simp [e20_406, reckA, reck]
    · simp [e20_406, reckA, reck]
    · rcases c2 (Or.inl rfl) with rfl | rfl
      · simp [T18, e20_256, e20_406, reckA, reck]
      · simp [T22, e20_229, e20_243, e20_246, e20_256, e20_406, reckA, reck]
    · simp [e20_406, reckA, reck]
    · simp [e20_406, reckA, reck]
    · simp [e20_406, reckA, reck, lShl_64]
    · simp [e20_406, reckA, reck, lUsh_64]
    · simp [e20_406, reckA, reck]
    · rcases c2 (Or.inr rfl) with rfl | rfl
      · simp [T18, e20_357, e20_361, e20_406, reckA, reck, rem_eq2]
      · simp [T23, e20_328, e20_342, e20_345, e20_361, e20_406, reckA, reck]
    · simp [e20_406, reckA, reck]
    · rcases c3 rfl with rfl | rfl | rfl | rfl
      · simp [T19n, e20_382, e20_406, reckA]
      · have t : ∀ x : B64, MM 19 [mL x, mI 8] σ = some (some (mL (sxt 8 x)), σ) := fun x => T19 (b := 8) (by omega) (by omega)
        simp [t, e20_382, e20_406, reckA]
      · have t : ∀ x : B64, MM 19 [mL x, mI 16] σ = some (some (mL (sxt 16 x)), σ) := fun x => T19 (b := 16) (by omega) (by omega)
        simp [t, e20_382, e20_406, reckA]
      · have t : ∀ x : B64, MM 19 [mL x, mI 32] σ = some (some (mL (sxt 32 x)), σ) := fun x => T19 (b := 32) (by omega) (by omega)
        simp [t, e20_382, e20_406, reckA]
    · simp [e20_401, e20_406, reckA, reck, lShr_64]
  · simp only [w, not_false_eq_true, if_true, e20_14, e20_30, e20_48, iL_F, lI31, if_false]
    rw [e20_65, (mk_at h0 h1).1]
    generalize op / 16 * 16 = c at *
    rcases c1 with rfl | rfl | rfl | rfl | rfl | rfl | rfl | rfl | rfl | rfl | rfl | rfl | rfl
    · simp [e20_406, reckA, reck, iL_F]
    · simp [e20_406, reckA, reck, iL_F]
    · simp [e20_406, reckA, reck, iL_F]
    · rcases c2 (Or.inl rfl) with rfl | rfl
      · simp [T18, e20_256, e20_406, reckA, reck, iL_F]
      · simp [T22, e20_229, e20_243, e20_246, e20_256, e20_406, reckA, reck, iL_F, sxt_toInt]
    · simp [e20_406, reckA, reck, iL_F]
    · simp [e20_406, reckA, reck, iL_F]
    · simp [e20_406, reckA, reck, iL_F, lShl_32]
    · simp [e20_406, reckA, reck, iL_F, lUsh_32]
    · simp [e20_406, reckA, reck, iL_F]
    · rcases c2 (Or.inr rfl) with rfl | rfl
      · simp [T18, e20_357, e20_361, e20_406, reckA, reck, rem_eq2, iL_F]
      · simp [T23, e20_328, e20_342, e20_345, e20_361, e20_406, reckA, reck, iL_F, sxt_toInt]
    · simp [e20_406, reckA, reck, iL_F]
    · rcases c3 rfl with rfl | rfl | rfl | rfl
      · simp [T19n, e20_382, e20_406, reckA, iL_F]
      · have t : ∀ x : B64, MM 19 [mL x, mI 8] σ = some (some (mL (sxt 8 x)), σ) := fun x => T19 (b := 8) (by omega) (by omega)
        simp [t, e20_382, e20_406, reckA, iL_F]
      · have t : ∀ x : B64, MM 19 [mL x, mI 16] σ = some (some (mL (sxt 16 x)), σ) := fun x => T19 (b := 16) (by omega) (by omega)
        simp [t, e20_382, e20_406, reckA, iL_F]
      · have t : ∀ x : B64, MM 19 [mL x, mI 32] σ = some (some (mL (sxt 32 x)), σ) := fun x => T19 (b := 32) (by omega) (by omega)
        simp [t, e20_382, e20_406, reckA, iL_F]
    · simp [e20_401, e20_406, reckA, reck, iL_F, sxt_toInt, lShr_32]
/-! bytes turned round -/
theorem shr_low (v : B64) {k : Nat} (hk : k < 8) : v.sshiftRight (8 * k) &&& iL 255 = (v >>> (8 * k)) &&& 255#64 := by
  rw [show iL 255 = 255#64 from rfl]
  apply BitVec.eq_of_getLsbD_eq
  intro i hi
  rw [BitVec.getLsbD_and, BitVec.getLsbD_and, BitVec.getLsbD_ushiftRight, sar_bit]
  by_cases c : i < 8
  · rw [if_pos (by omega)]
    simp [hi]
  · have : (255#64).getLsbD i = false := by
      rw [BitVec.getLsbD_ofNat]
      have : Nat.testBit 255 i = false := Nat.testBit_lt_two_pow (by
        have : 2 ^ 8 ≤ 2 ^ i := Nat.pow_le_pow_right (by omega) (by omega)
        omega)
      simp [this]
    rw [this]
    simp
theorem L25 {v : B64} {n : Nat} {σ : MS} (hn : n ≤ 8) : ∀ k : Nat, k ≤ n → RR (lkB tb25) (B25_5, [some (mL v), none, some (mI (n : Int)), some (mL (turnB (n - k) v)), none, some (mI ((n - k : Nat) : Int))], [], σ) = some (some (mL (turnB n v)), σ) := by
  intro k
  induction k with
  | zero =>
    intro _
    rw [e25_5, if_pos (by omega)]
    rfl
  | succ k ih =>
    intro hk
    rw [e25_5, if_neg (by omega), w32_i (by omega) (by omega), show (8 : Int) * ((n - (k + 1) : Nat) : Int) = ((8 * (n - (k + 1)) : Nat) : Int) by omega, lShr_k _ (by omega), show (8 : Int) = ((8 : Nat) : Int) from rfl, lShl_k _ (by omega), w32_i (by omega) (by omega), shr_low v (by omega)]
    have e : ((n - (k + 1) : Nat) : Int) + 1 = ((n - k : Nat) : Int) := by omega
    rw [e]
    have e2 : n - k = (n - (k + 1)) + 1 := by omega
    have e3 : turnB (n - k) v = (turnB (n - (k + 1)) v <<< 8) ||| ((v >>> (8 * (n - (k + 1)))) &&& 255#64) := by rw [e2]; rfl
    rw [← e3]
    exact ih (by omega)
theorem T25 {v : B64} {n : Nat} {σ : MS} (hn : n ≤ 8) : MM 25 [mL v, mI (n : Int)] σ = some (some (mL (turnB n v)), σ) := by
  rw [M25, e25_0]
  have := L25 (v := v) (σ := σ) hn n (Nat.le_refl _)
  rw [Nat.sub_self] at this
  exact this
theorem turn_low (v : B64) {n : Nat} (hn : n ≤ 8) : ∀ k : Nat, k ≤ n → turnB k (lowB (8 * n) v) = turnB k v := by
  intro k
  induction k with
  | zero => intro _; rfl
  | succ k ih =>
    intro hk
    unfold turnB
    rw [ih (by omega)]
    congr 1
    unfold lowB
    split
    · rfl
    · rename_i c
      apply BitVec.eq_of_getLsbD_eq
      intro i hi
      rw [BitVec.getLsbD_and, BitVec.getLsbD_and, BitVec.getLsbD_ushiftRight, BitVec.getLsbD_ushiftRight, BitVec.getLsbD_and]
      by_cases q : i < 8
      · have : (1#64 <<< (8 * n) - 1#64).getLsbD (8 * k + i) = true := by
          have e : 1#64 <<< (8 * n) - 1#64 = BitVec.ofNat 64 (2 ^ (8 * n) - 1) := by
            apply BitVec.eq_of_toNat_eq
            have p : 2 ^ (8 * n) < 2 ^ 64 := Nat.pow_lt_pow_right (by omega) (by omega)
            have p1 : 1 ≤ 2 ^ (8 * n) := Nat.one_le_two_pow
            have e1 : (1#64).toNat = 1 := rfl
            rw [BitVec.toNat_sub, BitVec.toNat_shiftLeft, e1, Nat.shiftLeft_eq, BitVec.toNat_ofNat]
            omega
          rw [e, BitVec.getLsbD_ofNat, Nat.testBit_two_pow_sub_one]
          simp
          omega
        rw [this]
        simp
      · have : (255#64).getLsbD i = false := by
          rw [BitVec.getLsbD_ofNat]
          have : Nat.testBit 255 i = false := Nat.testBit_lt_two_pow (by
            have : 2 ^ 8 ≤ 2 ^ i := Nat.pow_le_pow_right (by omega) (by omega)
            omega)
          simp [this]
        rw [this]
        simp
theorem T24 {op : Int} {v : B64} {b : Int} {σ : MS} (hb : b = 16 ∨ b = 32 ∨ b = 64) : MM 24 [mI op, mI b, mL v] σ = some (some (mL (trnJ (decide (op = 212)) b.toNat v)), σ) := by
  have low : (if b < 64 then v &&& (lShl 1#64 b - 1#64) else v) = lowB b.toNat v := by
    unfold lowB
    rcases hb with rfl | rfl | rfl <;> simp [lShl]
  have tr : turnB (b.toNat / 8) (lowB b.toNat v) = turnB (b.toNat / 8) v := by
    rcases hb with rfl | rfl | rfl
    · exact turn_low v (n := 2) (by omega) 2 (by omega)
    · exact turn_low v (n := 4) (by omega) 4 (by omega)
    · exact turn_low v (n := 8) (by omega) 8 (by omega)
  have dv : w32 (Int.tdiv b 8) = ((b.toNat / 8 : Nat) : Int) := by
    rcases hb with rfl | rfl | rfl <;> rfl
  rw [M24]
  simp only [e24_0, mrgL, low, e24_17, dv, T25 (show b.toNat / 8 ≤ 8 by omega), Option.bind_some, Option.toList_some, List.cons_append, List.nil_append, e24_40, tr]
  unfold trnJ
  by_cases c : op = 212
  · simp [c]
  · simp [c]
