/-! ===== operations on the reference's numbers: all together ===== -/
section P6
variable {σ : MS} {i : Nat} {y : B64}
theorem p112 : sL σ 112 i y = wrV σ i (vN (aV σ i) (y, (vn (aV σ i)).2)) := by
  have h : sL (wN σ i (rNv σ i)) 112 i y = wN σ i (y, (rNv σ i).2) := wN0
  rw [wN_eta, wN_V] at h
  exact h
theorem p113 : sL σ 113 i y = wrV σ i (vN (aV σ i) (jV (vn (aV σ i)), y, (vn (aV σ i)).2.2)) := by
  have h : sL (wN σ i (rNv σ i)) 113 i y = _ := wN1
  rw [wN_eta, wN_V] at h
  exact h
theorem p114 : sL σ 114 i y = wrV σ i (vN (aV σ i) (jV (vn (aV σ i)), jM (vn (aV σ i)), y, (vn (aV σ i)).2.2.2)) := by
  have h : sL (wN σ i (rNv σ i)) 114 i y = _ := wN2
  rw [wN_eta, wN_V] at h
  exact h
theorem p115 : sL σ 115 i y = wrV σ i (vN (aV σ i) (jV (vn (aV σ i)), jM (vn (aV σ i)), jA (vn (aV σ i)), y, (vn (aV σ i)).2.2.2.2)) := by
  have h : sL (wN σ i (rNv σ i)) 115 i y = _ := wN3
  rw [wN_eta, wN_V] at h
  exact h
theorem p116 : sL σ 116 i y = wrV σ i (vN (aV σ i) (jV (vn (aV σ i)), jM (vn (aV σ i)), jA (vn (aV σ i)), jB (vn (aV σ i)), y, jD (vn (aV σ i)))) := by
  have h : sL (wN σ i (rNv σ i)) 116 i y = _ := wN4
  rw [wN_eta, wN_V] at h
  exact h
theorem p117 : sL σ 117 i y = wrV σ i (vN (aV σ i) (jV (vn (aV σ i)), jM (vn (aV σ i)), jA (vn (aV σ i)), jB (vn (aV σ i)), jC (vn (aV σ i)), y)) := by
  have h : sL (wN σ i (rNv σ i)) 117 i y = _ := wN5
  rw [wN_eta, wN_V] at h
  exact h
end P6
set_option maxHeartbeats 4000000 in
theorem T451 {z x y : Int} {σ : MS} (hz : inB z) (hx : inB x) (hy : inB y) : MM 451 [mR (some 80), mI z, mI x, mI y] σ = some (none, wrV σ z.toNat (numV (tdN (mulN (vn (aV σ x.toNat)) (vn (aV σ y.toNat)))))) := by
  unfold mulN
  by_cases cx : gL σ 113 x.toNat = 0#64
  · by_cases cy : gL σ 113 y.toNat = 0#64
    · rw [if_pos (show isC (vn (aV σ x.toNat)) ∧ isC (vn (aV σ y.toNat)) from ⟨cx, cy⟩), tdN_cst]
      simp only [← q112]
      simp only [M451, e451_0, e451_5, e451_13, e451_34, e451_35, e451_51, e451_67, e451_82, e451_97, e451_100, e451_105, e451_127, e451_161, Option.getD_some, Option.bind_some, Option.toList_some, Option.toList_none, List.cons_append, List.nil_append, and_self, and_true, true_and, false_and, and_false, ite_self, not_true_eq_false, not_false_eq_true, reduceIte, Nat.reduceEqDiff, ab_I, ab_L, ab_R, ao_I, ao_L, ao_R, gL_sL, gI_sI, gR_sR, gI_sL, gI_sR, gL_sI, gL_sR, gR_sI, gR_sL, g_112, g_113, g_114, g_115, hx.1, hx.2, hy.1, hy.2, T439 hx.1 hx.2, T439 hy.1 hy.2, b2_0', b2_n', cx, cy, T433 hz.1 hz.2]
    · rw [if_neg (show ¬ (isC (vn (aV σ x.toNat)) ∧ isC (vn (aV σ y.toNat))) from fun q => cy q.2)]
      simp only [← q112, ← q113, ← q114, ← q115]
      have l1 := lowZ_le (gL σ 112 x.toNat ||| gL σ 113 x.toNat)
      have l2 := lowZ_le (gL σ 112 y.toNat ||| gL σ 113 y.toNat)
      have e1 : w32 ((lowZ (gL σ 112 x.toNat ||| gL σ 113 x.toNat) : Int) + (lowZ (gL σ 112 y.toNat ||| gL σ 113 y.toNat) : Int)) = ((lowZ (gL σ 112 x.toNat ||| gL σ 113 x.toNat) + lowZ (gL σ 112 y.toNat ||| gL σ 113 y.toNat) : Nat) : Int) := by rw [w32_i (by omega) (by omega)]; omega
      rcases Nat.lt_or_ge (lowZ (gL σ 112 x.toNat ||| gL σ 113 x.toNat) + lowZ (gL σ 112 y.toNat ||| gL σ 113 y.toNat)) 64 with c0 | c0
      · by_cases c1 : cF < gL σ 115 x.toNat <;> by_cases c2 : cF < gL σ 115 y.toNat
        all_goals (simp only [M451, e451_0, e451_5, e451_13, e451_34, e451_35, e451_51, e451_67, e451_82, e451_97, e451_100, e451_105, e451_127, e451_161, Option.getD_some, Option.bind_some, Option.toList_some, Option.toList_none, List.cons_append, List.nil_append, and_self, and_true, true_and, false_and, and_false, ite_self, not_true_eq_false, not_false_eq_true, reduceIte, Nat.reduceEqDiff, ab_I, ab_L, ab_R, ao_I, ao_L, ao_R, gL_sL, gI_sI, gR_sR, gI_sL, gI_sR, gL_sI, gL_sR, gR_sI, gR_sL, g_112, g_113, g_114, g_115, hx.1, hx.2, hy.1, hy.2, T439 hx.1 hx.2, T439 hy.1 hy.2, b2_0', b2_n', eq_true cx, cy, oneI, T450, e1, T389, iL_F, iL_m1, c1, c2, T448 hz.1 hz.2, show (((lowZ (gL σ 112 x.toNat ||| gL σ 113 x.toNat) + lowZ (gL σ 112 y.toNat ||| gL σ 113 y.toNat) : Nat) : Int) < 64) = True from eq_true (by omega), lShl_k cAll c0] <;> simp [c1, c2, c0, show ¬ 64 ≤ lowZ (gL σ 112 x.toNat ||| gL σ 113 x.toNat) + lowZ (gL σ 112 y.toNat ||| gL σ 113 y.toNat) by omega])
      · by_cases c1 : cF < gL σ 115 x.toNat <;> by_cases c2 : cF < gL σ 115 y.toNat
        all_goals (simp only [M451, e451_0, e451_5, e451_13, e451_34, e451_35, e451_51, e451_67, e451_82, e451_97, e451_100, e451_105, e451_127, e451_161, Option.getD_some, Option.bind_some, Option.toList_some, Option.toList_none, List.cons_append, List.nil_append, and_self, and_true, true_and, false_and, and_false, ite_self, not_true_eq_false, not_false_eq_true, reduceIte, Nat.reduceEqDiff, ab_I, ab_L, ab_R, ao_I, ao_L, ao_R, gL_sL, gI_sI, gR_sR, gI_sL, gI_sR, gL_sI, gL_sR, gR_sI, gR_sL, g_112, g_113, g_114, g_115, hx.1, hx.2, hy.1, hy.2, T439 hx.1 hx.2, T439 hy.1 hy.2, b2_0', b2_n', eq_true cx, cy, oneI, T450, e1, T389, iL_F, iL_m1, c1, c2, T448 hz.1 hz.2, show (((lowZ (gL σ 112 x.toNat ||| gL σ 113 x.toNat) + lowZ (gL σ 112 y.toNat ||| gL σ 113 y.toNat) : Nat) : Int) < 64) = False from eq_false (by omega)] <;> simp [c1, c2, c0, c0])
  · rw [if_neg (show ¬ (isC (vn (aV σ x.toNat)) ∧ isC (vn (aV σ y.toNat))) from fun q => cx q.1)]
    simp only [← q112, ← q113, ← q114, ← q115]
    have l1 := lowZ_le (gL σ 112 x.toNat ||| gL σ 113 x.toNat)
    have l2 := lowZ_le (gL σ 112 y.toNat ||| gL σ 113 y.toNat)
    have e1 : w32 ((lowZ (gL σ 112 x.toNat ||| gL σ 113 x.toNat) : Int) + (lowZ (gL σ 112 y.toNat ||| gL σ 113 y.toNat) : Int)) = ((lowZ (gL σ 112 x.toNat ||| gL σ 113 x.toNat) + lowZ (gL σ 112 y.toNat ||| gL σ 113 y.toNat) : Nat) : Int) := by rw [w32_i (by omega) (by omega)]; omega
    rcases Nat.lt_or_ge (lowZ (gL σ 112 x.toNat ||| gL σ 113 x.toNat) + lowZ (gL σ 112 y.toNat ||| gL σ 113 y.toNat)) 64 with c0 | c0
    · by_cases c1 : cF < gL σ 115 x.toNat <;> by_cases c2 : cF < gL σ 115 y.toNat
      all_goals (simp only [M451, e451_0, e451_5, e451_13, e451_34, e451_35, e451_51, e451_67, e451_82, e451_97, e451_100, e451_105, e451_127, e451_161, Option.getD_some, Option.bind_some, Option.toList_some, Option.toList_none, List.cons_append, List.nil_append, and_self, and_true, true_and, false_and, and_false, ite_self, not_true_eq_false, not_false_eq_true, reduceIte, Nat.reduceEqDiff, ab_I, ab_L, ab_R, ao_I, ao_L, ao_R, gL_sL, gI_sI, gR_sR, gI_sL, gI_sR, gL_sI, gL_sR, gR_sI, gR_sL, g_112, g_113, g_114, g_115, hx.1, hx.2, hy.1, hy.2, T439 hx.1 hx.2, T439 hy.1 hy.2, b2_0', b2_n', cx, oneI, T450, e1, T389, iL_F, iL_m1, c1, c2, T448 hz.1 hz.2, show (((lowZ (gL σ 112 x.toNat ||| gL σ 113 x.toNat) + lowZ (gL σ 112 y.toNat ||| gL σ 113 y.toNat) : Nat) : Int) < 64) = True from eq_true (by omega), lShl_k cAll c0] <;> simp [c1, c2, c0, show ¬ 64 ≤ lowZ (gL σ 112 x.toNat ||| gL σ 113 x.toNat) + lowZ (gL σ 112 y.toNat ||| gL σ 113 y.toNat) by omega])
    · by_cases c1 : cF < gL σ 115 x.toNat <;> by_cases c2 : cF < gL σ 115 y.toNat
      all_goals (simp only [M451, e451_0, e451_5, e451_13, e451_34, e451_35, e451_51, e451_67, e451_82, e451_97, e451_100, e451_105, e451_127, e451_161, Option.getD_some, Option.bind_some, Option.toList_some, Option.toList_none, List.cons_append, List.nil_append, and_self, and_true, true_and, false_and, and_false, ite_self, not_true_eq_false, not_false_eq_true, reduceIte, Nat.reduceEqDiff, ab_I, ab_L, ab_R, ao_I, ao_L, ao_R, gL_sL, gI_sI, gR_sR, gI_sL, gI_sR, gL_sI, gL_sR, gR_sI, gR_sL, g_112, g_113, g_114, g_115, hx.1, hx.2, hy.1, hy.2, T439 hx.1 hx.2, T439 hy.1 hy.2, b2_0', b2_n', cx, oneI, T450, e1, T389, iL_F, iL_m1, c1, c2, T448 hz.1 hz.2, show (((lowZ (gL σ 112 x.toNat ||| gL σ 113 x.toNat) + lowZ (gL σ 112 y.toNat ||| gL σ 113 y.toNat) : Nat) : Int) < 64) = False from eq_false (by omega)] <;> simp [c1, c2, c0, c0])
theorem T453 {off z x y : Int} {c : Int} {σ : MS} (hc : c = 48 ∨ c = 144) (ho : off = 0 ∨ off = 1) (hz : inB z) (hx : inB x) (hy : inB y) : MM 453 [mR (some 80), mI c, mI off, mI z, mI x, mI y] σ = some (none, wrV σ z.toNat (numV (opN c off (vn (aV σ x.toNat)) (vn (aV σ y.toNat))))) := by
  have w243 : ∀ (v : MV) (τ : MS), RR (lkB tb453) (B453_243, [some (mR (some 80)), some (mI c), some (mI off), some (mI z), some (mI x), some (mI y), some v], [], τ) = some (none, τ) := fun v τ => RR_q (e453_243 (x1 := c) (x2 := off) (x3 := z) (x4 := x) (x5 := y) (σ := τ)) (lq_cons (Or.inr rfl) (lq_cons (Or.inr rfl) (lq_cons (Or.inr rfl) (lq_cons (Or.inr rfl) (lq_cons (Or.inr rfl) (lq_cons (Or.inr rfl) (lq_cons (Or.inl rfl) lq_nil)))))))
  have okc : okC c off := ⟨by omega, fun _ => ho, fun e => by omega⟩
  have hop : opN c off (vn (aV σ x.toNat)) (vn (aV σ y.toNat)) = if off = 1 then (if isC (vn (aV σ x.toNat)) ∧ isC (vn (aV σ y.toNat)) then cstN (reck c off true (jV (vn (aV σ x.toNat))) (jV (vn (aV σ y.toNat)))) else anyN) else if c = 48 then tdN (divN (vn (aV σ x.toNat)) (vn (aV σ y.toNat))) else tdN (remN (vn (aV σ x.toNat)) (vn (aV σ y.toNat))) := by
    unfold opN
    rw [if_neg (by omega), if_neg (by omega), if_neg (by omega), if_pos hc]
  have hr : reckA c off true (gL σ 112 x.toNat) (gL σ 112 y.toNat) = reck c off true (gL σ 112 x.toNat) (gL σ 112 y.toNat) := by
    unfold reckA
    rw [if_neg (by omega), if_neg (by omega)]
  rw [hop]
  unfold divN remN
  simp only [isC, ← q112, ← q113, ← q114, ← q115]
  by_cases cx : gL σ 113 x.toNat = 0#64 <;> by_cases cy : gL σ 113 y.toNat = 0#64
  · have e : MM 453 [mR (some 80), mI c, mI off, mI z, mI x, mI y] σ = some (none, wrV σ z.toNat (numV (cstN (reck c off true (gL σ 112 x.toNat) (gL σ 112 y.toNat))))) := by
      rw [← hr]
      simp only [M453, e453_0, e453_6, e453_15, e453_40, e453_43, e453_46, e453_56, e453_71, e453_90, e453_91, e453_122, e453_126, e453_148, e453_158, e453_164, e453_173, e453_192, e453_193, e453_227, e453_237, e453_243, Option.getD_some, Option.bind_some, Option.toList_some, Option.toList_none, List.cons_append, List.nil_append, and_self, and_true, true_and, false_and, and_false, ite_self, not_true_eq_false, not_false_eq_true, reduceIte, Nat.reduceEqDiff, ab_I, ab_L, ab_R, ao_I, ao_L, ao_R, gL_sL, gI_sI, gR_sR, gI_sL, gI_sR, gL_sI, gL_sR, gR_sI, gR_sL, g_112, g_114, g_115, hx.1, hx.2, hy.1, hy.2, T439 hx.1 hx.2, T439 hy.1 hy.2, b2_0', b2_n', cx, cy, T428w okc, T433 hz.1 hz.2, w243]
    rw [e]
    rcases hc with rfl | rfl <;> rcases ho with rfl | rfl <;> simp [cx, cy, reck, tdN_cst]
  all_goals (rcases hc with rfl | rfl <;> rcases ho with rfl | rfl <;> by_cases d : gL σ 112 y.toNat = 0#64)
  all_goals (simp only [M453, e453_0, e453_6, e453_15, e453_40, e453_43, e453_46, e453_56, e453_71, e453_90, e453_91, e453_122, e453_126, e453_148, e453_158, e453_164, e453_173, e453_192, e453_193, e453_227, e453_237, e453_243, Option.getD_some, Option.bind_some, Option.toList_some, Option.toList_none, List.cons_append, List.nil_append, and_self, and_true, true_and, false_and, and_false, ite_self, not_true_eq_false, not_false_eq_true, reduceIte, Nat.reduceEqDiff, ab_I, ab_L, ab_R, ao_I, ao_L, ao_R, gL_sL, gI_sI, gR_sR, gI_sL, gI_sR, gL_sI, gL_sR, gR_sI, gR_sL, g_112, g_114, g_115, hx.1, hx.2, hy.1, hy.2, T439 hx.1 hx.2, T439 hy.1 hy.2, b2_0', b2_n', oneI, cx, cy, d, T423, T440, T436 hz.1 hz.2, T448 hz.1 hz.2, iL_m1, w243] <;> simp [cx, cy, d])
abbrev okO (c off : Int) : Prop := isCode c ∧ (c = 48 ∨ c = 144 → off = 0 ∨ off = 1)
theorem dd0 : (decide (¬ (0 : Int) = 0)) = false := rfl
theorem dd1 : (decide (¬ (1 : Int) = 0)) = true := rfl
theorem opN_shl {o : Int} {x y : N6} : opN 96 o x y = if isC y then tdN (shlN x ((jV y).toNat % 64)) else anyN := rfl
theorem opN_shr {o : Int} {x y : N6} : opN 112 o x y = if isC y then tdN (shrN x ((jV y).toNat % 64)) else tdN (shrA x) := rfl
theorem opN_sar {o : Int} {x y : N6} : opN 192 o x y = if isC y then tdN (sarN x ((jV y).toNat % 64)) else tdN (sarA x) := rfl
set_option maxHeartbeats 16000000 in
theorem T452 {c off z x y : Int} {σ : MS} (hc : okO c off) (hz : inB z) (hx : inB x) (hy : inB y) : MM 452 [mR (some 80), mI c, mI off, mI z, mI x, mI y] σ = some (none, wrV σ z.toNat (numV (opN c off (vn (aV σ x.toNat)) (vn (aV σ y.toNat))))) := by
  have pre : ∃ v : Int, MM 452 [mR (some 80), mI c, mI off, mI z, mI x, mI y] σ = RR (lkB tb452) (B452_23, [some (mR (some 80)), some (mI c), some (mI off), some (mI z), some (mI x), some (mI y), none, none, none, none, none, none, none, none, none, none], [mI v], σ) := by
    by_cases cx : gL σ 113 x.toNat = 0#64
    · by_cases cy : gL σ 113 y.toNat = 0#64
      · exact ⟨1, by simp only [M452, e452_0, e452_6, e452_15, Option.getD_some, Option.bind_some, Option.toList_some, Option.toList_none, List.cons_append, List.nil_append, and_self, and_true, true_and, false_and, and_false, ite_self, not_true_eq_false, not_false_eq_true, reduceIte, Nat.reduceEqDiff, ab_I, ab_L, ab_R, ao_I, ao_L, ao_R, gL_sL, gI_sI, gR_sR, gI_sL, gI_sR, gL_sI, gL_sR, gR_sI, gR_sL, T439 hx.1 hx.2, T439 hy.1 hy.2, b2_0', cx, cy]⟩
      · exact ⟨0, by simp only [M452, e452_0, e452_6, e452_15, e452_22, Option.getD_some, Option.bind_some, Option.toList_some, Option.toList_none, List.cons_append, List.nil_append, and_self, and_true, true_and, false_and, and_false, ite_self, not_true_eq_false, not_false_eq_true, reduceIte, Nat.reduceEqDiff, ab_I, ab_L, ab_R, ao_I, ao_L, ao_R, gL_sL, gI_sI, gR_sR, gI_sL, gI_sR, gL_sI, gL_sR, gR_sI, gR_sL, T439 hx.1 hx.2, T439 hy.1 hy.2, b2_0', cx, cy]⟩
    · exact ⟨0, by simp only [M452, e452_0, e452_6, e452_15, e452_22, Option.getD_some, Option.bind_some, Option.toList_some, Option.toList_none, List.cons_append, List.nil_append, and_self, and_true, true_and, false_and, and_false, ite_self, not_true_eq_false, not_false_eq_true, reduceIte, Nat.reduceEqDiff, ab_I, ab_L, ab_R, ao_I, ao_L, ao_R, gL_sL, gI_sI, gR_sR, gI_sL, gI_sR, gL_sI, gL_sR, gR_sI, gR_sL, T439 hx.1 hx.2, T439 hy.1 hy.2, b2_0', cx]⟩
  obtain ⟨v, pe⟩ := pre
  rw [pe]
  obtain ⟨h1, h2⟩ := hc
  rcases h1 with rfl | rfl | rfl | rfl | rfl | rfl | rfl | rfl | rfl | rfl | rfl
  · simp only [e452_0, e452_6, e452_15, e452_22, e452_23, e452_137, e452_147, e452_157, e452_169, e452_235, e452_246, e452_326, e452_332, e452_385, e452_392, e452_446, e452_472, e452_480, e452_487, e452_539, e452_563, e452_570, e452_622, e452_658, e452_683, e452_686, Option.getD_some, Option.bind_some, Option.toList_some, Option.toList_none, List.cons_append, List.nil_append, and_self, and_true, true_and, false_and, and_false, ite_self, not_true_eq_false, not_false_eq_true, reduceIte, Nat.reduceEqDiff, ab_I, ab_L, ab_R, ao_I, ao_L, ao_R, gL_sL, gI_sI, gR_sR, gI_sL, gI_sR, gL_sI, gL_sR, gR_sI, gR_sL, g_112, hy.1, hy.2, Int.reduceEq, T447 hz hx hy]
    rfl
  · simp only [e452_0, e452_6, e452_15, e452_22, e452_23, e452_137, e452_147, e452_157, e452_169, e452_235, e452_246, e452_326, e452_332, e452_385, e452_392, e452_446, e452_472, e452_480, e452_487, e452_539, e452_563, e452_570, e452_622, e452_658, e452_683, e452_686, Option.getD_some, Option.bind_some, Option.toList_some, Option.toList_none, List.cons_append, List.nil_append, and_self, and_true, true_and, false_and, and_false, ite_self, not_true_eq_false, not_false_eq_true, reduceIte, Nat.reduceEqDiff, ab_I, ab_L, ab_R, ao_I, ao_L, ao_R, gL_sL, gI_sI, gR_sR, gI_sL, gI_sR, gL_sI, gL_sR, gR_sI, gR_sL, g_112, hy.1, hy.2, Int.reduceEq, T449 hz hx hy]
    rfl
  · simp only [e452_0, e452_6, e452_15, e452_22, e452_23, e452_137, e452_147, e452_157, e452_169, e452_235, e452_246, e452_326, e452_332, e452_385, e452_392, e452_446, e452_472, e452_480, e452_487, e452_539, e452_563, e452_570, e452_622, e452_658, e452_683, e452_686, Option.getD_some, Option.bind_some, Option.toList_some, Option.toList_none, List.cons_append, List.nil_append, and_self, and_true, true_and, false_and, and_false, ite_self, not_true_eq_false, not_false_eq_true, reduceIte, Nat.reduceEqDiff, ab_I, ab_L, ab_R, ao_I, ao_L, ao_R, gL_sL, gI_sI, gR_sR, gI_sL, gI_sR, gL_sI, gL_sR, gR_sI, gR_sL, g_112, hy.1, hy.2, Int.reduceEq, T451 hz hx hy]
    rfl
  · simp only [e452_0, e452_6, e452_15, e452_22, e452_23, e452_137, e452_147, e452_157, e452_169, e452_235, e452_246, e452_326, e452_332, e452_385, e452_392, e452_446, e452_472, e452_480, e452_487, e452_539, e452_563, e452_570, e452_622, e452_658, e452_683, e452_686, Option.getD_some, Option.bind_some, Option.toList_some, Option.toList_none, List.cons_append, List.nil_append, and_self, and_true, true_and, false_and, and_false, ite_self, not_true_eq_false, not_false_eq_true, reduceIte, Nat.reduceEqDiff, ab_I, ab_L, ab_R, ao_I, ao_L, ao_R, gL_sL, gI_sI, gR_sR, gI_sL, gI_sR, gL_sI, gL_sR, gR_sI, gR_sL, g_112, hy.1, hy.2, Int.reduceEq, T453 (Or.inl rfl) (h2 (Or.inl rfl)) hz hx hy]
  · simp only [e452_0, e452_6, e452_15, e452_22, e452_23, e452_137, e452_147, e452_157, e452_169, e452_235, e452_246, e452_326, e452_332, e452_385, e452_392, e452_446, e452_472, e452_480, e452_487, e452_539, e452_563, e452_570, e452_622, e452_658, e452_683, e452_686, Option.getD_some, Option.bind_some, Option.toList_some, Option.toList_none, List.cons_append, List.nil_append, and_self, and_true, true_and, false_and, and_false, ite_self, not_true_eq_false, not_false_eq_true, reduceIte, Nat.reduceEqDiff, ab_I, ab_L, ab_R, ao_I, ao_L, ao_R, gL_sL, gI_sI, gR_sR, gI_sL, gI_sR, gL_sI, gL_sR, gR_sI, gR_sL, g_112, g_113, g_114, g_115, g_116, g_117, hz.1, hz.2, hx.1, hx.2, hy.1, hy.2, Int.reduceEq, T441, T448 hz.1 hz.2, iL_m1, xor_all, dd0, dd1]
    rfl
  · simp only [e452_0, e452_6, e452_15, e452_22, e452_23, e452_137, e452_147, e452_157, e452_169, e452_235, e452_246, e452_326, e452_332, e452_385, e452_392, e452_446, e452_472, e452_480, e452_487, e452_539, e452_563, e452_570, e452_622, e452_658, e452_683, e452_686, Option.getD_some, Option.bind_some, Option.toList_some, Option.toList_none, List.cons_append, List.nil_append, and_self, and_true, true_and, false_and, and_false, ite_self, not_true_eq_false, not_false_eq_true, reduceIte, Nat.reduceEqDiff, ab_I, ab_L, ab_R, ao_I, ao_L, ao_R, gL_sL, gI_sI, gR_sR, gI_sL, gI_sR, gL_sI, gL_sR, gR_sI, gR_sL, g_112, g_113, g_114, g_115, g_116, g_117, hz.1, hz.2, hx.1, hx.2, hy.1, hy.2, Int.reduceEq, T440, T448 hz.1 hz.2, iL_m1, xor_all, dd0, dd1]
    rfl
  · rw [opN_shl]
    unfold shlN
    by_cases cy : gL σ 113 y.toNat = 0#64
    · rw [if_pos (show isC (vn (aV σ y.toNat)) from cy)]
      simp only [← q112, ← q113, ← q114, ← q115]
      by_cases c1 : gL σ 115 x.toNat <<< ((gL σ 112 y.toNat).toNat % 64) >>> ((gL σ 112 y.toNat).toNat % 64) = gL σ 115 x.toNat
      all_goals (simp only [e452_0, e452_6, e452_15, e452_22, e452_23, e452_137, e452_147, e452_157, e452_169, e452_235, e452_246, e452_326, e452_332, e452_385, e452_392, e452_446, e452_472, e452_480, e452_487, e452_539, e452_563, e452_570, e452_622, e452_658, e452_683, e452_686, Option.getD_some, Option.bind_some, Option.toList_some, Option.toList_none, List.cons_append, List.nil_append, and_self, and_true, true_and, false_and, and_false, ite_self, not_true_eq_false, not_false_eq_true, reduceIte, Nat.reduceEqDiff, ab_I, ab_L, ab_R, ao_I, ao_L, ao_R, gL_sL, gI_sI, gR_sR, gI_sL, gI_sR, gL_sI, gL_sR, gR_sI, gR_sL, g_112, g_113, g_114, g_115, g_116, g_117, hz.1, hz.2, hx.1, hx.2, hy.1, hy.2, Int.reduceEq, T439 hy.1 hy.2, b2_0', b2_n', cy, lI63, lShl_m (x := gL σ 112 x.toNat) (n := (gL σ 112 y.toNat).toNat) (m := 64) (by omega) (by omega), lShl_m (x := gL σ 113 x.toNat) (n := (gL σ 112 y.toNat).toNat) (m := 64) (by omega) (by omega), lShl_m (x := gL σ 114 x.toNat) (n := (gL σ 112 y.toNat).toNat) (m := 64) (by omega) (by omega), lShl_m (x := gL σ 115 x.toNat) (n := (gL σ 112 y.toNat).toNat) (m := 64) (by omega) (by omega), lUsh_m (x := gL σ 115 x.toNat <<< ((gL σ 112 y.toNat).toNat % 64)) (n := (gL σ 112 y.toNat).toNat) (m := 64) (by omega) (by omega), T448 hz.1 hz.2, decide_true, decide_false, dd0, dd1] <;> simp [c1])
    · rw [if_neg (show ¬ isC (vn (aV σ y.toNat)) from cy)]
      try simp only [← q112, ← q113, ← q114, ← q115]
      simp only [e452_0, e452_6, e452_15, e452_22, e452_23, e452_137, e452_147, e452_157, e452_169, e452_235, e452_246, e452_326, e452_332, e452_385, e452_392, e452_446, e452_472, e452_480, e452_487, e452_539, e452_563, e452_570, e452_622, e452_658, e452_683, e452_686, Option.getD_some, Option.bind_some, Option.toList_some, Option.toList_none, List.cons_append, List.nil_append, and_self, and_true, true_and, false_and, and_false, ite_self, not_true_eq_false, not_false_eq_true, reduceIte, Nat.reduceEqDiff, ab_I, ab_L, ab_R, ao_I, ao_L, ao_R, gL_sL, gI_sI, gR_sR, gI_sL, gI_sR, gL_sI, gL_sR, gR_sI, gR_sL, g_112, g_113, g_114, g_115, g_116, g_117, hz.1, hz.2, hx.1, hx.2, hy.1, hy.2, Int.reduceEq, T439 hy.1 hy.2, b2_0', b2_n', cy, T436 hz.1 hz.2]
  · rw [opN_shr]
    unfold shrN shrA
    by_cases cy : gL σ 113 y.toNat = 0#64
    · rw [if_pos (show isC (vn (aV σ y.toNat)) from cy)]
      simp only [← q112, ← q113, ← q114, ← q115]
      simp only [e452_0, e452_6, e452_15, e452_22, e452_23, e452_137, e452_147, e452_157, e452_169, e452_235, e452_246, e452_326, e452_332, e452_385, e452_392, e452_446, e452_472, e452_480, e452_487, e452_539, e452_563, e452_570, e452_622, e452_658, e452_683, e452_686, Option.getD_some, Option.bind_some, Option.toList_some, Option.toList_none, List.cons_append, List.nil_append, and_self, and_true, true_and, false_and, and_false, ite_self, not_true_eq_false, not_false_eq_true, reduceIte, Nat.reduceEqDiff, ab_I, ab_L, ab_R, ao_I, ao_L, ao_R, gL_sL, gI_sI, gR_sR, gI_sL, gI_sR, gL_sI, gL_sR, gR_sI, gR_sL, g_112, g_113, g_114, g_115, g_116, g_117, hz.1, hz.2, hx.1, hx.2, hy.1, hy.2, Int.reduceEq, T439 hy.1 hy.2, b2_0', b2_n', cy, lI63, lUsh_m (x := gL σ 112 x.toNat) (n := (gL σ 112 y.toNat).toNat) (m := 64) (by omega) (by omega), lUsh_m (x := gL σ 113 x.toNat) (n := (gL σ 112 y.toNat).toNat) (m := 64) (by omega) (by omega), lUsh_m (x := gL σ 114 x.toNat) (n := (gL σ 112 y.toNat).toNat) (m := 64) (by omega) (by omega), lUsh_m (x := gL σ 115 x.toNat) (n := (gL σ 112 y.toNat).toNat) (m := 64) (by omega) (by omega), T448 hz.1 hz.2, decide_true, decide_false, dd0, dd1]
    · rw [if_neg (show ¬ isC (vn (aV σ y.toNat)) from cy)]
      try simp only [← q112, ← q113, ← q114, ← q115]
      simp only [e452_0, e452_6, e452_15, e452_22, e452_23, e452_137, e452_147, e452_157, e452_169, e452_235, e452_246, e452_326, e452_332, e452_385, e452_392, e452_446, e452_472, e452_480, e452_487, e452_539, e452_563, e452_570, e452_622, e452_658, e452_683, e452_686, Option.getD_some, Option.bind_some, Option.toList_some, Option.toList_none, List.cons_append, List.nil_append, and_self, and_true, true_and, false_and, and_false, ite_self, not_true_eq_false, not_false_eq_true, reduceIte, Nat.reduceEqDiff, ab_I, ab_L, ab_R, ao_I, ao_L, ao_R, gL_sL, gI_sI, gR_sR, gI_sL, gI_sR, gL_sI, gL_sR, gR_sI, gR_sL, g_112, g_113, g_114, g_115, g_116, g_117, hz.1, hz.2, hx.1, hx.2, hy.1, hy.2, Int.reduceEq, T439 hy.1 hy.2, b2_0', b2_n', cy, T448 hz.1 hz.2, iL_m1, decide_true, decide_false, dd0, dd1]
  · simp only [e452_0, e452_6, e452_15, e452_22, e452_23, e452_137, e452_147, e452_157, e452_169, e452_235, e452_246, e452_326, e452_332, e452_385, e452_392, e452_446, e452_472, e452_480, e452_487, e452_539, e452_563, e452_570, e452_622, e452_658, e452_683, e452_686, Option.getD_some, Option.bind_some, Option.toList_some, Option.toList_none, List.cons_append, List.nil_append, and_self, and_true, true_and, false_and, and_false, ite_self, not_true_eq_false, not_false_eq_true, reduceIte, Nat.reduceEqDiff, ab_I, ab_L, ab_R, ao_I, ao_L, ao_R, gL_sL, gI_sI, gR_sR, gI_sL, gI_sR, gL_sI, gL_sR, gR_sI, gR_sL, g_112, hy.1, hy.2, Int.reduceEq, T453 (Or.inr rfl) (h2 (Or.inr rfl)) hz hx hy]
  · simp only [e452_0, e452_6, e452_15, e452_22, e452_23, e452_137, e452_147, e452_157, e452_169, e452_235, e452_246, e452_326, e452_332, e452_385, e452_392, e452_446, e452_472, e452_480, e452_487, e452_539, e452_563, e452_570, e452_622, e452_658, e452_683, e452_686, Option.getD_some, Option.bind_some, Option.toList_some, Option.toList_none, List.cons_append, List.nil_append, and_self, and_true, true_and, false_and, and_false, ite_self, not_true_eq_false, not_false_eq_true, reduceIte, Nat.reduceEqDiff, ab_I, ab_L, ab_R, ao_I, ao_L, ao_R, gL_sL, gI_sI, gR_sR, gI_sL, gI_sR, gL_sI, gL_sR, gR_sI, gR_sL, g_112, g_113, g_114, g_115, g_116, g_117, hz.1, hz.2, hx.1, hx.2, hy.1, hy.2, Int.reduceEq, T448 hz.1 hz.2, iL_m1, xor_all, dd0, dd1]
    rfl
  · rw [opN_sar]
    unfold sarN sarA
    by_cases cy : gL σ 113 y.toNat = 0#64
    · rw [if_pos (show isC (vn (aV σ y.toNat)) from cy)]
      simp only [← q112, ← q113, ← q114, ← q115, ← q116, ← q117]
      simp only [e452_0, e452_6, e452_15, e452_22, e452_23, e452_137, e452_147, e452_157, e452_169, e452_235, e452_246, e452_326, e452_332, e452_385, e452_392, e452_446, e452_472, e452_480, e452_487, e452_539, e452_563, e452_570, e452_622, e452_658, e452_683, e452_686, Option.getD_some, Option.bind_some, Option.toList_some, Option.toList_none, List.cons_append, List.nil_append, and_self, and_true, true_and, false_and, and_false, ite_self, not_true_eq_false, not_false_eq_true, reduceIte, Nat.reduceEqDiff, ab_I, ab_L, ab_R, ao_I, ao_L, ao_R, gL_sL, gI_sI, gR_sR, gI_sL, gI_sR, gL_sI, gL_sR, gR_sI, gR_sL, g_112, g_113, g_114, g_115, g_116, g_117, hz.1, hz.2, hx.1, hx.2, hy.1, hy.2, Int.reduceEq, T439 hy.1 hy.2, b2_0', b2_n', cy, lI63, lShr_m (x := gL σ 112 x.toNat) (n := (gL σ 112 y.toNat).toNat) (m := 64) (by omega) (by omega), lShr_m (x := gL σ 113 x.toNat) (n := (gL σ 112 y.toNat).toNat) (m := 64) (by omega) (by omega), lShr_m (x := gL σ 116 x.toNat) (n := (gL σ 112 y.toNat).toNat) (m := 64) (by omega) (by omega), lShr_m (x := gL σ 117 x.toNat) (n := (gL σ 112 y.toNat).toNat) (m := 64) (by omega) (by omega), T448 hz.1 hz.2, decide_true, decide_false, dd0, dd1]
    · rw [if_neg (show ¬ isC (vn (aV σ y.toNat)) from cy)]
      have r1 : (if (jC (vn (aV σ x.toNat))).toInt < 0 then jC (vn (aV σ x.toNat)) else 0#64) = (if 0 ≤ (jC (vn (aV σ x.toNat))).toInt then 0#64 else jC (vn (aV σ x.toNat))) := by
        split <;> split <;> first | rfl | omega
      have r2 : (if 0 ≤ (jD (vn (aV σ x.toNat))).toInt then jD (vn (aV σ x.toNat)) else cAll) = (if (jD (vn (aV σ x.toNat))).toInt < 0 then cAll else jD (vn (aV σ x.toNat))) := by
        split <;> split <;> first | rfl | omega
      rw [r1, r2]
      try simp only [← q112, ← q113, ← q114, ← q115, ← q116, ← q117]
      by_cases c1 : 0 ≤ (gL σ 116 x.toNat).toInt <;> by_cases c2 : (gL σ 117 x.toNat).toInt < 0
      all_goals (simp only [e452_0, e452_6, e452_15, e452_22, e452_23, e452_137, e452_147, e452_157, e452_169, e452_235, e452_246, e452_326, e452_332, e452_385, e452_392, e452_446, e452_472, e452_480, e452_487, e452_539, e452_563, e452_570, e452_622, e452_658, e452_683, e452_686, Option.getD_some, Option.bind_some, Option.toList_some, Option.toList_none, List.cons_append, List.nil_append, and_self, and_true, true_and, false_and, and_false, ite_self, not_true_eq_false, not_false_eq_true, reduceIte, Nat.reduceEqDiff, ab_I, ab_L, ab_R, ao_I, ao_L, ao_R, gL_sL, gI_sI, gR_sR, gI_sL, gI_sR, gL_sI, gL_sR, gR_sI, gR_sL, g_112, g_113, g_114, g_115, g_116, g_117, hz.1, hz.2, hx.1, hx.2, hy.1, hy.2, Int.reduceEq, T439 hy.1 hy.2, b2_0', b2_n', cy, T448 hz.1 hz.2, iL_m1, t0, decide_true, decide_false, dd0, dd1, c1, c2])
