/-! ===== W operations, what is DECIDED, and NARROWED, of the reference ===== -/
set_option maxHeartbeats 4000000 in
theorem T455 {c off z x y : Int} {σ : MS} (hc : okO c off) (hz : inB z) (hx : inB x) (hy : inB y) (hyn : ¬ y = 32659) (hzn : ¬ z = 32659 ∧ ¬ z = 32660) : ∃ p q : VL, MM 455 [mR (some 80), mI c, mI off, mI z, mI x, mI y] σ = some (none, wrV (wrV (wrV σ 32659 p) 32660 q) z.toNat (numV (opW c off (vn (aV σ x.toNat)) (vn (aV σ y.toNat))))) := by
  have k1 : (32659 : Int).toNat = 32659 := rfl
  have k2 : (32660 : Int).toNat = 32660 := rfl
  have b1 : inB 32659 := by decide
  have b2x : inB 32660 := by decide
  have hrk : ∀ a b : B64, reckA c off false a b = reck c off false a b := fun a b => by
    have := hc.1
    unfold reckA
    rw [if_neg (by omega), if_neg (by omega)]
  unfold opW
  generalize hX : cutT (vn (aV σ x.toNat)) = X
  generalize hY : cutT (vn (aV σ y.toNat)) = Y
  have ey : aV (wrV σ 32659 (numV X)) y.toNat = aV σ y.toNat := aV_ne (by omega)
  have s0 : MM 455 [mR (some 80), mI c, mI off, mI z, mI x, mI y] σ = RR (lkB tb455) (B455_18, [some (mR (some 80)), some (mI c), some (mI off), some (mI z), some (mI x), some (mI y)], [], wrV (wrV σ 32659 (numV X)) 32660 (numV Y)) := by
    simp only [M455, e455_0, e455_9, Option.getD_some, Option.bind_some, Option.toList_some, Option.toList_none, List.cons_append, List.nil_append, and_self, and_true, true_and, false_and, and_false, ite_self, not_true_eq_false, not_false_eq_true, reduceIte, Nat.reduceEqDiff, ab_I, ab_L, ab_R, ao_I, ao_L, ao_R, gL_sL, gI_sI, gR_sR, gI_sL, gI_sR, gL_sI, gL_sR, gR_sI, gR_sL, T454 b1 hx, k1, T454 b2x hy, k2, ey, hX, hY]
  rw [s0]
  generalize hτ : wrV (wrV σ 32659 (numV X)) 32660 (numV Y) = τ
  have a1 : aV τ 32659 = numV X := by rw [← hτ, aV_ne (by omega), aV_same]
  have a2 : aV τ 32660 = numV Y := by rw [← hτ, aV_same]
  have m1 : gL τ 113 32659 = jM X := by rw [q113, a1]; rfl
  have m2 : gL τ 113 32660 = jM Y := by rw [q113, a2]; rfl
  have v1 : gL τ 112 32659 = jV X := by rw [q112, a1]; rfl
  have v2 : gL τ 112 32660 = jV Y := by rw [q112, a2]; rfl
  by_cases q : c = 192 ∨ off = 1
  · rw [if_pos q]
    have s1 : RR (lkB tb455) (B455_18, [some (mR (some 80)), some (mI c), some (mI off), some (mI z), some (mI x), some (mI y)], [], τ) = RR (lkB tb455) (B455_30, [some (mR (some 80)), some (mI c), some (mI off), some (mI z), some (mI x), some (mI y)], [], τ) := by
      rw [e455_18]
      by_cases q1 : c = 192
      · rw [if_pos q1]
      · rw [if_neg q1, if_neg (by omega)]
    rw [s1]
    refine ⟨numV X, numV Y, ?_⟩
    rw [hτ]
    simp only [isC]
    by_cases cx : jM X = 0#64
    · by_cases cy : jM Y = 0#64
      · rw [if_pos ⟨cx, cy⟩, ← hrk]
        have okc : okC c off := by
          refine ⟨?_, hc.2, fun e => ?_⟩ <;> have := hc.1 <;> omega
        obtain ⟨r, hr1, hr2⟩ := T428n (a := jV X) (b := jV Y) (σ := τ) okc
        simp only [e455_30, e455_37, e455_47, e455_74, e455_81, e455_90, Option.getD_some, Option.bind_some, Option.toList_some, Option.toList_none, List.cons_append, List.nil_append, and_self, and_true, true_and, false_and, and_false, ite_self, not_true_eq_false, not_false_eq_true, reduceIte, Nat.reduceEqDiff, ab_I, ab_L, ab_R, ao_I, ao_L, ao_R, gL_sL, gI_sI, gR_sR, gI_sL, gI_sR, gL_sI, gL_sR, gR_sI, gR_sL, g_112, T439 b1.1 b1.2, T439 b2x.1 b2x.2, k1, k2, m1, m2, v1, v2, cx, cy, b2_0', hr1, iL_F, T433 hz.1 hz.2, Int.reduceLE, Int.reduceLT, hr2]
      · rw [if_neg (fun q => cy q.2)]
        simp only [e455_30, e455_37, e455_47, e455_84, e455_90, Option.getD_some, Option.bind_some, Option.toList_some, Option.toList_none, List.cons_append, List.nil_append, and_self, and_true, true_and, false_and, and_false, ite_self, not_true_eq_false, not_false_eq_true, reduceIte, Nat.reduceEqDiff, ab_I, ab_L, ab_R, ao_I, ao_L, ao_R, gL_sL, gI_sI, gR_sR, gI_sL, gI_sR, gL_sI, gL_sR, gR_sI, gR_sL, T439 b1.1 b1.2, T439 b2x.1 b2x.2, k1, k2, m1, m2, cx, cy, b2_0', T437 (n := 4) hz.1 hz.2 (by omega)]
        rw [show ((4 : Int)) = ((4 : Nat) : Int) from rfl, T437 hz.1 hz.2 (by omega)]
        simp only [e455_90, Option.getD_some, Option.bind_some, Option.toList_some, Option.toList_none, List.cons_append, List.nil_append, and_self, and_true, true_and, false_and, and_false, ite_self, not_true_eq_false, not_false_eq_true, reduceIte, Nat.reduceEqDiff, ab_I, ab_L, ab_R, ao_I, ao_L, ao_R, gL_sL, gI_sI, gR_sR, gI_sL, gI_sR, gL_sI, gL_sR, gR_sI, gR_sL]
    · rw [if_neg (fun q => cx q.1)]
      simp only [e455_30, e455_37, e455_84, e455_90, Option.getD_some, Option.bind_some, Option.toList_some, Option.toList_none, List.cons_append, List.nil_append, and_self, and_true, true_and, false_and, and_false, ite_self, not_true_eq_false, not_false_eq_true, reduceIte, Nat.reduceEqDiff, ab_I, ab_L, ab_R, ao_I, ao_L, ao_R, gL_sL, gI_sI, gR_sR, gI_sL, gI_sR, gL_sI, gL_sR, gR_sI, gR_sL, T439 b1.1 b1.2, k1, m1, cx, b2_0']
      rw [show ((4 : Int)) = ((4 : Nat) : Int) from rfl, T437 hz.1 hz.2 (by omega)]
      simp only [e455_90, Option.getD_some, Option.bind_some, Option.toList_some, Option.toList_none, List.cons_append, List.nil_append, and_self, and_true, true_and, false_and, and_false, ite_self, not_true_eq_false, not_false_eq_true, reduceIte, Nat.reduceEqDiff, ab_I, ab_L, ab_R, ao_I, ao_L, ao_R, gL_sL, gI_sI, gR_sR, gI_sL, gI_sR, gL_sI, gL_sR, gR_sI, gR_sL]
  · rw [if_neg q]
    have okd : okO c 0 := ⟨hc.1, fun _ => Or.inl rfl⟩
    have fin : ∀ (ρ : MS) (W : N6), aV ρ 32659 = numV X → aV ρ 32660 = numV W → RR (lkB tb455) (B455_132, [some (mR (some 80)), some (mI c), some (mI off), some (mI z), some (mI x), some (mI y)], [], ρ) = some (none, wrV ρ z.toNat (numV (cutT (opN c 0 X W)))) := by
      intro ρ W r1 r2
      simp only [e455_132, e455_145, e455_151, Option.getD_some, Option.bind_some, Option.toList_some, Option.toList_none, List.cons_append, List.nil_append, and_self, and_true, true_and, false_and, and_false, ite_self, not_true_eq_false, not_false_eq_true, reduceIte, Nat.reduceEqDiff, ab_I, ab_L, ab_R, ao_I, ao_L, ao_R, gL_sL, gI_sI, gR_sR, gI_sL, gI_sR, gL_sI, gL_sR, gR_sI, gR_sL, T452 okd hz b1 b2x, k1, k2, r1, r2, T454 hz hz, aV_same, wrV_same]
      rfl
    by_cases s : c = 96 ∨ c = 112
    · have s1 : RR (lkB tb455) (B455_18, [some (mR (some 80)), some (mI c), some (mI off), some (mI z), some (mI x), some (mI y)], [], τ) = RR (lkB tb455) (B455_103, [some (mR (some 80)), some (mI c), some (mI off), some (mI z), some (mI x), some (mI y)], [], τ) := by
        rw [e455_18, if_neg (by omega), if_pos (by omega)]
        by_cases q1 : c = 96
        · rw [if_pos q1]
        · rw [if_neg q1, if_neg (by omega)]
      rw [s1]
      by_cases cy : jM Y = 0#64
      · rw [if_pos (⟨s, cy⟩ : (c = 96 ∨ c = 112) ∧ isC Y)]
        refine ⟨numV X, numV (cstN (jV Y &&& 31#64)), ?_⟩
        have e1 : RR (lkB tb455) (B455_103, [some (mR (some 80)), some (mI c), some (mI off), some (mI z), some (mI x), some (mI y)], [], τ) = RR (lkB tb455) (B455_132, [some (mR (some 80)), some (mI c), some (mI off), some (mI z), some (mI x), some (mI y)], [], wrV τ 32660 (numV (cstN (jV Y &&& 31#64)))) := by
          simp only [e455_103, e455_110, Option.getD_some, Option.bind_some, Option.toList_some, Option.toList_none, List.cons_append, List.nil_append, and_self, and_true, true_and, false_and, and_false, ite_self, not_true_eq_false, not_false_eq_true, reduceIte, Nat.reduceEqDiff, ab_I, ab_L, ab_R, ao_I, ao_L, ao_R, gL_sL, gI_sI, gR_sR, gI_sL, gI_sR, gL_sI, gL_sR, gR_sI, gR_sL, g_112, T439 b2x.1 b2x.2, k2, m2, v2, cy, b2_0', T433 b2x.1 b2x.2, Int.reduceLE, Int.reduceLT]
          rfl
        rw [e1, fin _ (cstN (jV Y &&& 31#64)) (by rw [aV_ne (by omega), a1]) aV_same, ← hτ, wrV_same]
      · rw [if_neg (show ¬ ((c = 96 ∨ c = 112) ∧ isC Y) from fun q => cy q.2)]
        refine ⟨numV X, numV Y, ?_⟩
        have e1 : RR (lkB tb455) (B455_103, [some (mR (some 80)), some (mI c), some (mI off), some (mI z), some (mI x), some (mI y)], [], τ) = RR (lkB tb455) (B455_132, [some (mR (some 80)), some (mI c), some (mI off), some (mI z), some (mI x), some (mI y)], [], τ) := by
          simp only [e455_103, e455_110, Option.getD_some, Option.bind_some, Option.toList_some, Option.toList_none, List.cons_append, List.nil_append, and_self, and_true, true_and, false_and, and_false, ite_self, not_true_eq_false, not_false_eq_true, reduceIte, Nat.reduceEqDiff, ab_I, ab_L, ab_R, ao_I, ao_L, ao_R, gL_sL, gI_sI, gR_sR, gI_sL, gI_sR, gL_sI, gL_sR, gR_sI, gR_sL, T439 b2x.1 b2x.2, k2, m2, cy, b2_0']
        rw [e1, fin _ Y a1 a2, hτ]
    · rw [if_neg (show ¬ ((c = 96 ∨ c = 112) ∧ isC Y) from fun q => s q.1)]
      refine ⟨numV X, numV Y, ?_⟩
      have s1 : RR (lkB tb455) (B455_18, [some (mR (some 80)), some (mI c), some (mI off), some (mI z), some (mI x), some (mI y)], [], τ) = RR (lkB tb455) (B455_132, [some (mR (some 80)), some (mI c), some (mI off), some (mI z), some (mI x), some (mI y)], [], τ) := by
        rw [e455_18, if_neg (by omega), if_pos (by omega), if_neg (by omega), if_pos (by omega)]
      rw [s1, fin _ Y a1 a2, hτ]
set_option maxHeartbeats 1000000 in
theorem T456w {z x : Int} {b : Nat} {σ : MS} (hz : inB z) (hx : inB x) (hb : 1 ≤ b ∧ b ≤ 64) : MM 456 [mR (some 80), mI z, mI x, mI b, mI 1] σ = some (none, wrV σ z.toNat (numV (extN b (vn (aV σ x.toNat))))) := by
  unfold extN
  by_cases cx : gL σ 113 x.toNat = 0#64
  · rw [if_pos (show isC (vn (aV σ x.toNat)) from cx)]
    simp only [← q112]
    simp only [M456, e456_0, e456_5, e456_18, e456_38, e456_41, e456_48, e456_59, Option.getD_some, Option.bind_some, Option.toList_some, Option.toList_none, List.cons_append, List.nil_append, and_self, and_true, true_and, false_and, and_false, ite_self, not_true_eq_false, not_false_eq_true, reduceIte, Nat.reduceEqDiff, ab_I, ab_L, ab_R, ao_I, ao_L, ao_R, gL_sL, gI_sI, gR_sR, gI_sL, gI_sR, gL_sI, gL_sR, gR_sI, gR_sL, g_112, hx.1, hx.2, T439 hx.1 hx.2, b2_0', cx, T425 hb.1 hb.2, oneI, T433 hz.1 hz.2]
  · rw [if_neg (show ¬ isC (vn (aV σ x.toNat)) from cx)]
    simp only [M456, e456_0, e456_5, e456_18, e456_38, e456_41, e456_48, e456_59, Option.getD_some, Option.bind_some, Option.toList_some, Option.toList_none, List.cons_append, List.nil_append, and_self, and_true, true_and, false_and, and_false, ite_self, not_true_eq_false, not_false_eq_true, reduceIte, Nat.reduceEqDiff, ab_I, ab_L, ab_R, ao_I, ao_L, ao_R, gL_sL, gI_sI, gR_sR, gI_sL, gI_sR, gL_sI, gL_sR, gR_sI, gR_sL, g_112, hx.1, hx.2, T439 hx.1 hx.2, b2_0', cx, T438 hz.1 hz.2 hb, oneI]
set_option maxHeartbeats 1000000 in
theorem T456n {z x : Int} {b : Nat} {σ : MS} (hz : inB z) (hx : inB x) (hb : 1 ≤ b ∧ b ≤ 64) : MM 456 [mR (some 80), mI z, mI x, mI b, mI 0] σ = some (none, wrV σ z.toNat (numV (extW b (vn (aV σ x.toNat))))) := by
  unfold extW
  by_cases cx : gL σ 113 x.toNat = 0#64
  · rw [if_pos (show isC (vn (aV σ x.toNat)) from cx)]
    simp only [← q112]
    simp only [M456, e456_0, e456_5, e456_18, e456_38, e456_41, e456_48, e456_59, Option.getD_some, Option.bind_some, Option.toList_some, Option.toList_none, List.cons_append, List.nil_append, and_self, and_true, true_and, false_and, and_false, ite_self, not_true_eq_false, not_false_eq_true, reduceIte, Nat.reduceEqDiff, ab_I, ab_L, ab_R, ao_I, ao_L, ao_R, gL_sL, gI_sI, gR_sR, gI_sL, gI_sR, gL_sI, gL_sR, gR_sI, gR_sL, g_112, hx.1, hx.2, T439 hx.1 hx.2, b2_0', cx, T425 hb.1 hb.2, iL_F, T433 hz.1 hz.2]
  · rw [if_neg (show ¬ isC (vn (aV σ x.toNat)) from cx)]
    simp only [M456, e456_0, e456_5, e456_18, e456_38, e456_41, e456_48, e456_59, Option.getD_some, Option.bind_some, Option.toList_some, Option.toList_none, List.cons_append, List.nil_append, and_self, and_true, true_and, false_and, and_false, ite_self, not_true_eq_false, not_false_eq_true, reduceIte, Nat.reduceEqDiff, ab_I, ab_L, ab_R, ao_I, ao_L, ao_R, gL_sL, gI_sI, gR_sR, gI_sL, gI_sR, gL_sI, gL_sR, gR_sI, gR_sL, g_112, hx.1, hx.2, T439 hx.1 hx.2, b2_0', cx, T438 hz.1 hz.2 hb, T454 hz hz, aV_same, wrV_same]
    rfl
theorem equN_r (x y : N6) : equN x y = 1 ∨ equN x y = 0 ∨ equN x y = -1 := by
  unfold equN
  split
  · exact Or.inl rfl
  · split
    · exact Or.inr (Or.inl rfl)
    · exact Or.inr (Or.inr rfl)
def decY (c w : Int) (A B : N6) : Int := if w = 0 ∧ isSgn c then (if isC A ∧ isC B then (if cmpB c false (jV A) (jV B) = true then 1 else 0) else -1) else decX c A B
set_option maxRecDepth 100000 in
theorem L457a {c w x y a b : Int} {σ : MS} (ha : inB a) (hb : inB b) : ∃ v : Int, (v = 0 ↔ ¬ (isC (vn (aV σ a.toNat)) ∧ isC (vn (aV σ b.toNat)))) ∧ RR (lkB tb457) (B457_38, [some (mR (some 80)), some (mI c), some (mI w), some (mI x), some (mI y), some (mI a), some (mI b), none, none], [], σ) = RR (lkB tb457) (B457_61, [some (mR (some 80)), some (mI c), some (mI w), some (mI x), some (mI y), some (mI a), some (mI b), none, none], [mI v], σ) := by
  simp only [isC, ← q113]
  by_cases cx : gL σ 113 a.toNat = 0#64
  · by_cases cy : gL σ 113 b.toNat = 0#64
    · exact ⟨1, by simp [cx, cy], by simp only [e457_38, e457_44, e457_53, Option.getD_some, Option.bind_some, Option.toList_some, Option.toList_none, List.cons_append, List.nil_append, and_self, and_true, true_and, false_and, and_false, ite_self, not_true_eq_false, not_false_eq_true, reduceIte, Nat.reduceEqDiff, ab_I, ab_L, ab_R, ao_I, ao_L, ao_R, gL_sL, gI_sI, gR_sR, gI_sL, gI_sR, gL_sI, gL_sR, gR_sI, gR_sL, T439 ha.1 ha.2, T439 hb.1 hb.2, b2_0', cx, cy]⟩
    · exact ⟨0, by simp [cx, cy], by simp only [e457_38, e457_44, e457_53, e457_60, Option.getD_some, Option.bind_some, Option.toList_some, Option.toList_none, List.cons_append, List.nil_append, and_self, and_true, true_and, false_and, and_false, ite_self, not_true_eq_false, not_false_eq_true, reduceIte, Nat.reduceEqDiff, ab_I, ab_L, ab_R, ao_I, ao_L, ao_R, gL_sL, gI_sI, gR_sR, gI_sL, gI_sR, gL_sI, gL_sR, gR_sI, gR_sL, T439 ha.1 ha.2, T439 hb.1 hb.2, b2_0', cx, cy]⟩
  · exact ⟨0, by simp [cx], by simp only [e457_38, e457_44, e457_60, Option.getD_some, Option.bind_some, Option.toList_some, Option.toList_none, List.cons_append, List.nil_append, and_self, and_true, true_and, false_and, and_false, ite_self, not_true_eq_false, not_false_eq_true, reduceIte, Nat.reduceEqDiff, ab_I, ab_L, ab_R, ao_I, ao_L, ao_R, gL_sL, gI_sI, gR_sR, gI_sL, gI_sR, gL_sI, gL_sR, gR_sI, gR_sL, T439 ha.1 ha.2, b2_0', cx]⟩
set_option maxRecDepth 100000 in
set_option maxHeartbeats 4000000 in
theorem L457b {c w x y a b v : Int} {σ : MS} (hc : isCmp c) (ha : inB a) (hb : inB b) (hv : v = 0 ↔ ¬ (isC (vn (aV σ a.toNat)) ∧ isC (vn (aV σ b.toNat)))) (s : w = 0 ∧ isSgn c) : RR (lkB tb457) (B457_61, [some (mR (some 80)), some (mI c), some (mI w), some (mI x), some (mI y), some (mI a), some (mI b), none, none], [mI v], σ) = some (some (mI (if isC (vn (aV σ a.toNat)) ∧ isC (vn (aV σ b.toNat)) then (if cmpB c false (jV (vn (aV σ a.toNat))) (jV (vn (aV σ b.toNat))) = true then 1 else 0) else -1)), σ) := by
  obtain ⟨rfl, s⟩ := s
  by_cases k : isC (vn (aV σ a.toNat)) ∧ isC (vn (aV σ b.toNat))
  · rw [if_pos k]
    have hv' : ¬ v = 0 := fun e => hv.mp e k
    have key := T429n (σ := σ) (a := gL σ 112 a.toNat) (b := gL σ 112 b.toNat) hc
    by_cases d : cmpB c false (gL σ 112 a.toNat) (gL σ 112 b.toNat) = true
    · rw [if_pos (show cmpB c false (jV (vn (aV σ a.toNat))) (jV (vn (aV σ b.toNat))) = true from d)]
      rw [if_pos d] at key
      rcases s with rfl | rfl | rfl | rfl
      all_goals (simp only [e457_61, e457_296, Option.getD_some, Option.bind_some, Option.toList_some, Option.toList_none, List.cons_append, List.nil_append, and_self, and_true, true_and, false_and, and_false, ite_self, not_true_eq_false, not_false_eq_true, reduceIte, Nat.reduceEqDiff, ab_I, ab_L, ab_R, ao_I, ao_L, ao_R, gL_sL, gI_sI, gR_sR, gI_sL, gI_sR, gL_sI, gL_sR, gR_sI, gR_sL, g_112, g_113, Int.reduceEq, ha.1, ha.2, hb.1, hb.2, hv', key])
    · rw [if_neg (show ¬ cmpB c false (jV (vn (aV σ a.toNat))) (jV (vn (aV σ b.toNat))) = true from d)]
      rw [if_neg d] at key
      rcases s with rfl | rfl | rfl | rfl
      all_goals (simp only [e457_61, e457_296, Option.getD_some, Option.bind_some, Option.toList_some, Option.toList_none, List.cons_append, List.nil_append, and_self, and_true, true_and, false_and, and_false, ite_self, not_true_eq_false, not_false_eq_true, reduceIte, Nat.reduceEqDiff, ab_I, ab_L, ab_R, ao_I, ao_L, ao_R, gL_sL, gI_sI, gR_sR, gI_sL, gI_sR, gL_sI, gL_sR, gR_sI, gR_sL, g_112, g_113, Int.reduceEq, ha.1, ha.2, hb.1, hb.2, hv', key])
  · rw [if_neg k]
    have hv' : v = 0 := hv.mpr k
    rcases s with rfl | rfl | rfl | rfl
    all_goals (simp only [e457_61, Option.getD_some, Option.bind_some, Option.toList_some, Option.toList_none, List.cons_append, List.nil_append, and_self, and_true, true_and, false_and, and_false, ite_self, not_true_eq_false, not_false_eq_true, reduceIte, Nat.reduceEqDiff, ab_I, ab_L, ab_R, ao_I, ao_L, ao_R, gL_sL, gI_sI, gR_sR, gI_sL, gI_sR, gL_sI, gL_sR, gR_sI, gR_sL, g_112, g_113, Int.reduceEq, ha.1, ha.2, hb.1, hb.2, hv'])
set_option maxRecDepth 100000 in
set_option maxHeartbeats 4000000 in
theorem L457c {c w x y a b v : Int} {σ : MS} (hc : isCmp c) (hw : w = 0 ∨ w = 1) (ha : inB a) (hb : inB b) (s : ¬ (w = 0 ∧ isSgn c)) : RR (lkB tb457) (B457_61, [some (mR (some 80)), some (mI c), some (mI w), some (mI x), some (mI y), some (mI a), some (mI b), none, none], [mI v], σ) = some (some (mI (decX c (vn (aV σ a.toNat)) (vn (aV σ b.toNat)))), σ) := by
  rcases hc with rfl | rfl | rfl | rfl | rfl | rfl | rfl | rfl | rfl | rfl | rfl
  · simp only [e457_61, e457_140, Option.getD_some, Option.bind_some, Option.toList_some, Option.toList_none, List.cons_append, List.nil_append, and_self, and_true, true_and, false_and, and_false, ite_self, not_true_eq_false, not_false_eq_true, reduceIte, Nat.reduceEqDiff, ab_I, ab_L, ab_R, ao_I, ao_L, ao_R, gL_sL, gI_sI, gR_sR, gI_sL, gI_sR, gL_sI, gL_sR, gR_sI, gR_sL, Int.reduceEq, T458 ha hb]
    simp only [decX, Int.reduceEq, if_true, if_false]
  · simp only [e457_61, e457_240, Option.getD_some, Option.bind_some, Option.toList_some, Option.toList_none, List.cons_append, List.nil_append, and_self, and_true, true_and, false_and, and_false, ite_self, not_true_eq_false, not_false_eq_true, reduceIte, Nat.reduceEqDiff, ab_I, ab_L, ab_R, ao_I, ao_L, ao_R, gL_sL, gI_sI, gR_sR, gI_sL, gI_sR, gL_sI, gL_sR, gR_sI, gR_sL, Int.reduceEq, T459 ha hb]
    simp only [decX, Int.reduceEq, if_true, if_false]
  · simp only [e457_61, e457_249, Option.getD_some, Option.bind_some, Option.toList_some, Option.toList_none, List.cons_append, List.nil_append, and_self, and_true, true_and, false_and, and_false, ite_self, not_true_eq_false, not_false_eq_true, reduceIte, Nat.reduceEqDiff, ab_I, ab_L, ab_R, ao_I, ao_L, ao_R, gL_sL, gI_sI, gR_sR, gI_sL, gI_sR, gL_sI, gL_sR, gR_sI, gR_sL, Int.reduceEq, T460 ha hb]
    simp only [decX, Int.reduceEq, if_true, if_false]
  · show _ = some (some (mI (if ¬ jV (vn (aV σ a.toNat)) &&& jV (vn (aV σ b.toNat)) = 0#64 then 1 else if (jV (vn (aV σ a.toNat)) ||| jM (vn (aV σ a.toNat))) &&& (jV (vn (aV σ b.toNat)) ||| jM (vn (aV σ b.toNat))) = 0#64 then 0 else -1)), σ)
    simp only [← q112, ← q113]
    by_cases d1 : gL σ 112 a.toNat &&& gL σ 112 b.toNat = 0#64
    · by_cases d2 : (gL σ 112 a.toNat ||| gL σ 113 a.toNat) &&& (gL σ 112 b.toNat ||| gL σ 113 b.toNat) = 0#64
      · simp only [e457_61, Option.getD_some, Option.bind_some, Option.toList_some, Option.toList_none, List.cons_append, List.nil_append, and_self, and_true, true_and, false_and, and_false, ite_self, not_true_eq_false, not_false_eq_true, reduceIte, Nat.reduceEqDiff, ab_I, ab_L, ab_R, ao_I, ao_L, ao_R, gL_sL, gI_sI, gR_sR, gI_sL, gI_sR, gL_sI, gL_sR, gR_sI, gR_sL, g_112, g_113, Int.reduceEq, ha.1, ha.2, hb.1, hb.2, d1, d2]
      · simp only [e457_61, Option.getD_some, Option.bind_some, Option.toList_some, Option.toList_none, List.cons_append, List.nil_append, and_self, and_true, true_and, false_and, and_false, ite_self, not_true_eq_false, not_false_eq_true, reduceIte, Nat.reduceEqDiff, ab_I, ab_L, ab_R, ao_I, ao_L, ao_R, gL_sL, gI_sI, gR_sR, gI_sL, gI_sR, gL_sI, gL_sR, gR_sI, gR_sL, g_112, g_113, Int.reduceEq, ha.1, ha.2, hb.1, hb.2, d1, d2]
    · simp only [e457_61, Option.getD_some, Option.bind_some, Option.toList_some, Option.toList_none, List.cons_append, List.nil_append, and_self, and_true, true_and, false_and, and_false, ite_self, not_true_eq_false, not_false_eq_true, reduceIte, Nat.reduceEqDiff, ab_I, ab_L, ab_R, ao_I, ao_L, ao_R, gL_sL, gI_sI, gR_sR, gI_sL, gI_sR, gL_sI, gL_sR, gR_sI, gR_sL, g_112, g_113, Int.reduceEq, ha.1, ha.2, hb.1, hb.2, d1]
  · show _ = some (some (mI (if equN (vn (aV σ a.toNat)) (vn (aV σ b.toNat)) < 0 then equN (vn (aV σ a.toNat)) (vn (aV σ b.toNat)) else 1 - equN (vn (aV σ a.toNat)) (vn (aV σ b.toNat)))), σ)
    simp only [e457_61, e457_149, Option.getD_some, Option.bind_some, Option.toList_some, Option.toList_none, List.cons_append, List.nil_append, and_self, and_true, true_and, false_and, and_false, ite_self, not_true_eq_false, not_false_eq_true, reduceIte, Nat.reduceEqDiff, ab_I, ab_L, ab_R, ao_I, ao_L, ao_R, gL_sL, gI_sI, gR_sR, gI_sL, gI_sR, gL_sI, gL_sR, gR_sI, gR_sL, Int.reduceEq, T458 ha hb]
    rcases equN_r (vn (aV σ a.toNat)) (vn (aV σ b.toNat)) with r | r | r <;> rw [r]
    · rw [if_pos (by omega), if_neg (by omega), w32_i (by omega) (by omega)]
    · rw [if_pos (by omega), if_neg (by omega), w32_i (by omega) (by omega)]
    · rw [if_neg (by omega), if_pos (by omega)]
  · rcases hw with rfl | rfl
    · exact absurd ⟨rfl, Or.inl rfl⟩ s
    · simp only [e457_61, e457_323, e457_369, Option.getD_some, Option.bind_some, Option.toList_some, Option.toList_none, List.cons_append, List.nil_append, and_self, and_true, true_and, false_and, and_false, ite_self, not_true_eq_false, not_false_eq_true, reduceIte, Nat.reduceEqDiff, ab_I, ab_L, ab_R, ao_I, ao_L, ao_R, gL_sL, gI_sI, gR_sR, gI_sL, gI_sR, gL_sI, gL_sR, gR_sI, gR_sL, Int.reduceEq, T461 ha hb]
      simp only [decX, Int.reduceEq, if_true, if_false]
  · rcases hw with rfl | rfl
    · exact absurd ⟨rfl, Or.inr (Or.inl rfl)⟩ s
    · simp only [e457_61, e457_340, e457_369, Option.getD_some, Option.bind_some, Option.toList_some, Option.toList_none, List.cons_append, List.nil_append, and_self, and_true, true_and, false_and, and_false, ite_self, not_true_eq_false, not_false_eq_true, reduceIte, Nat.reduceEqDiff, ab_I, ab_L, ab_R, ao_I, ao_L, ao_R, gL_sL, gI_sI, gR_sR, gI_sL, gI_sR, gL_sI, gL_sR, gR_sI, gR_sL, Int.reduceEq, T462 ha hb]
      simp only [decX, Int.reduceEq, if_true, if_false]
  · simp only [e457_61, e457_258, Option.getD_some, Option.bind_some, Option.toList_some, Option.toList_none, List.cons_append, List.nil_append, and_self, and_true, true_and, false_and, and_false, ite_self, not_true_eq_false, not_false_eq_true, reduceIte, Nat.reduceEqDiff, ab_I, ab_L, ab_R, ao_I, ao_L, ao_R, gL_sL, gI_sI, gR_sR, gI_sL, gI_sR, gL_sI, gL_sR, gR_sI, gR_sL, Int.reduceEq, T459 hb ha]
    simp only [decX, Int.reduceEq, if_true, if_false]
  · simp only [e457_61, e457_267, Option.getD_some, Option.bind_some, Option.toList_some, Option.toList_none, List.cons_append, List.nil_append, and_self, and_true, true_and, false_and, and_false, ite_self, not_true_eq_false, not_false_eq_true, reduceIte, Nat.reduceEqDiff, ab_I, ab_L, ab_R, ao_I, ao_L, ao_R, gL_sL, gI_sI, gR_sR, gI_sL, gI_sR, gL_sI, gL_sR, gR_sI, gR_sL, Int.reduceEq, T460 hb ha]
    simp only [decX, Int.reduceEq, if_true, if_false]
  · rcases hw with rfl | rfl
    · exact absurd ⟨rfl, Or.inr (Or.inr (Or.inl rfl))⟩ s
    · simp only [e457_61, e457_358, e457_369, Option.getD_some, Option.bind_some, Option.toList_some, Option.toList_none, List.cons_append, List.nil_append, and_self, and_true, true_and, false_and, and_false, ite_self, not_true_eq_false, not_false_eq_true, reduceIte, Nat.reduceEqDiff, ab_I, ab_L, ab_R, ao_I, ao_L, ao_R, gL_sL, gI_sI, gR_sR, gI_sL, gI_sR, gL_sI, gL_sR, gR_sI, gR_sL, Int.reduceEq, T461 hb ha]
      simp only [decX, Int.reduceEq, if_true, if_false]
  · rcases hw with rfl | rfl
    · exact absurd ⟨rfl, Or.inr (Or.inr (Or.inr rfl))⟩ s
    · simp only [e457_61, e457_369, Option.getD_some, Option.bind_some, Option.toList_some, Option.toList_none, List.cons_append, List.nil_append, and_self, and_true, true_and, false_and, and_false, ite_self, not_true_eq_false, not_false_eq_true, reduceIte, Nat.reduceEqDiff, ab_I, ab_L, ab_R, ao_I, ao_L, ao_R, gL_sL, gI_sI, gR_sR, gI_sL, gI_sR, gL_sI, gL_sR, gR_sI, gR_sL, Int.reduceEq, T462 hb ha]
      simp only [decX, Int.reduceEq, if_true, if_false]
theorem L457 {c w x y a b : Int} {σ : MS} (hc : isCmp c) (hw : w = 0 ∨ w = 1) (ha : inB a) (hb : inB b) : RR (lkB tb457) (B457_38, [some (mR (some 80)), some (mI c), some (mI w), some (mI x), some (mI y), some (mI a), some (mI b), none, none], [], σ) = some (some (mI (decY c w (vn (aV σ a.toNat)) (vn (aV σ b.toNat)))), σ) := by
  obtain ⟨v, hv, pe⟩ := L457a (c := c) (w := w) (x := x) (y := y) (σ := σ) ha hb
  rw [pe]
  unfold decY
  by_cases s : w = 0 ∧ isSgn c
  · rw [if_pos s]
    exact L457b hc ha hb hv s
  · rw [if_neg s]
    exact L457c hc hw ha hb s
theorem T457w {c x y : Int} {σ : MS} (hc : isCmp c) (hx : inB x) (hy : inB y) : MM 457 [mR (some 80), mI c, mI 1, mI x, mI y] σ = some (some (mI (decN c true (vn (aV σ x.toNat)) (vn (aV σ y.toNat)))), σ) := by
  simp only [M457, e457_0, Option.getD_some, Option.bind_some, Option.toList_some, Option.toList_none, List.cons_append, List.nil_append, and_self, and_true, true_and, false_and, and_false, ite_self, not_true_eq_false, not_false_eq_true, reduceIte, Nat.reduceEqDiff, ab_I, ab_L, ab_R, ao_I, ao_L, ao_R, gL_sL, gI_sI, gR_sR, gI_sL, gI_sR, gL_sI, gL_sR, gR_sI, gR_sL, oneI]
  rw [L457 hc (Or.inr rfl) hx hy]
  unfold decY decN
  rw [if_neg (by omega), if_pos rfl]
theorem T457n {c x y : Int} {σ : MS} (hc : isCmp c) (hx : inB x) (hy : inB y) (hyn : ¬ y = 32659) : MM 457 [mR (some 80), mI c, mI 0, mI x, mI y] σ = some (some (mI (decN c false (vn (aV σ x.toNat)) (vn (aV σ y.toNat)))), wrV (wrV σ 32659 (numV (cutT (vn (aV σ x.toNat))))) 32660 (numV (cutT (vn (aV σ y.toNat))))) := by
  have k1 : (32659 : Int).toNat = 32659 := rfl
  have k2 : (32660 : Int).toNat = 32660 := rfl
  have b1 : inB 32659 := by decide
  have b2x : inB 32660 := by decide
  have ey : ∀ v, aV (wrV σ 32659 v) y.toNat = aV σ y.toNat := fun v => aV_ne (by omega)
  simp only [M457, e457_0, e457_19, e457_28, Option.getD_some, Option.bind_some, Option.toList_some, Option.toList_none, List.cons_append, List.nil_append, and_self, and_true, true_and, false_and, and_false, ite_self, not_true_eq_false, not_false_eq_true, reduceIte, Nat.reduceEqDiff, ab_I, ab_L, ab_R, ao_I, ao_L, ao_R, gL_sL, gI_sI, gR_sR, gI_sL, gI_sR, gL_sI, gL_sR, gR_sI, gR_sL, T454 b1 hx, k1, T454 b2x hy, k2, ey]
  rw [L457 hc (Or.inl rfl) b1 b2x, k1, k2, aV_same, aV_ne (by omega), aV_same]
  unfold decY decN
  rw [if_neg (show ¬ false = true by decide)]
  simp only [true_and]
  rfl
/-! two numbers written -/
def wn2 (σ : MS) (x y : Nat) (p : N6 × N6) : MS := wrV (wrV σ x (vN (aV σ x) p.1)) y (vN (aV σ y) p.2)
theorem wn2_sw {σ : MS} {x y : Nat} {p : N6 × N6} (h : ¬ y = x) : wn2 σ x y p = wn2 σ y x (pyx p) := wrV_comm h
theorem aV_wn2 {σ : MS} {x y k : Nat} {p : N6 × N6} : aV (wn2 σ x y p) k = if k = y then vN (aV σ y) p.2 else if k = x then vN (aV σ x) p.1 else aV σ k := by
  unfold wn2
  rw [aV_wrV, aV_wrV]
theorem wn2_wn2 {σ : MS} {x y : Nat} {p q : N6 × N6} (h : ¬ y = x) : wn2 (wn2 σ x y p) x y q = wn2 σ x y q := by
  have e1 : aV (wn2 σ x y p) x = vN (aV σ x) p.1 := by rw [aV_wn2, if_neg (fun e => h e.symm), if_pos rfl]
  have e2 : aV (wn2 σ x y p) y = vN (aV σ y) p.2 := by rw [aV_wn2, if_pos rfl]
  show wrV (wrV (wn2 σ x y p) x (vN (aV (wn2 σ x y p) x) q.1)) y (vN (aV (wn2 σ x y p) y) q.2) = _
  rw [e1, e2]
  show wrV (wrV (wrV (wrV σ x (vN (aV σ x) p.1)) y (vN (aV σ y) p.2)) x (vN (aV σ x) q.1)) y (vN (aV σ y) q.2) = _
  rw [wrV_comm (i := y) (j := x) (fun e => h e.symm), wrV_same, wrV_same]
  rfl
theorem wn2_x {σ : MS} {x y : Nat} {n : N6} : wn2 σ x y (n, vn (aV σ y)) = wrV (wrV σ x (vN (aV σ x) n)) y (aV σ y) := rfl
theorem wrV_eta' {σ : MS} {i : Nat} {v : VL} (h : v = aV σ i) : wrV σ i v = σ := by rw [h, wrV_eta]
theorem wn2_l {σ : MS} {x y : Nat} {n : N6} (h : ¬ y = x) : wn2 σ x y (n, vn (aV σ y)) = wrV σ x (vN (aV σ x) n) := wrV_eta' (by rw [aV_ne h])
theorem wn2_r {σ : MS} {x y : Nat} {n : N6} : wn2 σ x y (vn (aV σ x), n) = wrV σ y (vN (aV σ y) n) := by
  show wrV (wrV σ x (aV σ x)) y _ = _
  rw [wrV_eta]
theorem wn2_0 {σ : MS} {x y : Nat} : wn2 σ x y (vn (aV σ x), vn (aV σ y)) = σ := by
  rw [wn2_r]
  exact wrV_eta
section NAR
variable {a b x y t : Int} {σ : MS}
set_option maxHeartbeats 1000000 in
theorem T464 (ha : inB a) (hb : inB b) (hne : ¬ a.toNat = b.toNat) (ht : t = 0 ∨ t = 1) : MM 464 [mR (some 80), mI a, mI b, mI t] σ = some (none, wn2 σ a.toNat b.toNat (lesN (vn (aV σ a.toNat)) (vn (aV σ b.toNat)) (decide (t = 1)))) := by
  rw [wn2_sw (fun e => hne e.symm)]
  rcases ht with rfl | rfl
  all_goals (simp only [M464, e464_0, e464_9, e464_49, e464_66, Option.getD_some, Option.bind_some, Option.toList_some, Option.toList_none, List.cons_append, List.nil_append, and_self, and_true, true_and, false_and, and_false, ite_self, not_true_eq_false, not_false_eq_true, reduceIte, Nat.reduceEqDiff, ab_I, ab_L, ab_R, ao_I, ao_L, ao_R, gL_sL, gI_sI, gR_sR, gI_sL, gI_sR, gL_sI, gL_sR, gR_sI, gR_sL, g_114, g_115, ha.1, ha.2, hb.1, hb.2, T440, T441, p114, p115, q114, q115, aV_same, aV_ne hne, oneI])
  all_goals rfl
set_option maxHeartbeats 1000000 in
theorem T465 (ha : inB a) (hb : inB b) (hne : ¬ a.toNat = b.toNat) (ht : t = 0 ∨ t = 1) : MM 465 [mR (some 80), mI a, mI b, mI t] σ = some (none, wn2 σ a.toNat b.toNat (lesS (vn (aV σ a.toNat)) (vn (aV σ b.toNat)) (decide (t = 1)))) := by
  rw [wn2_sw (fun e => hne e.symm)]
  unfold lesS smin smax
  rcases ht with rfl | rfl
  · by_cases c1 : (jC (vn (aV σ a.toNat)) + 0#64).toInt ≤ (jC (vn (aV σ b.toNat))).toInt <;> by_cases c2 : (jD (vn (aV σ a.toNat))).toInt ≤ (jD (vn (aV σ b.toNat)) - 0#64).toInt
    all_goals (simp only [M465, e465_0, e465_9, e465_61, e465_90, Option.getD_some, Option.bind_some, Option.toList_some, Option.toList_none, List.cons_append, List.nil_append, and_self, and_true, true_and, false_and, and_false, ite_self, not_true_eq_false, not_false_eq_true, reduceIte, Nat.reduceEqDiff, ab_I, ab_L, ab_R, ao_I, ao_L, ao_R, gL_sL, gI_sI, gR_sR, gI_sL, gI_sR, gL_sI, gL_sR, gR_sI, gR_sL, g_116, g_117, ha.1, ha.2, hb.1, hb.2, p116, p117, q116, q117, aV_same, aV_ne hne, c1, c2, Int.reduceEq, decide_true, decide_false, Bool.false_eq_true])
    all_goals rfl
  · by_cases c1 : (jC (vn (aV σ a.toNat)) + 1#64).toInt ≤ (jC (vn (aV σ b.toNat))).toInt <;> by_cases c2 : (jD (vn (aV σ a.toNat))).toInt ≤ (jD (vn (aV σ b.toNat)) - 1#64).toInt
    all_goals (simp only [M465, e465_0, e465_9, e465_61, e465_90, Option.getD_some, Option.bind_some, Option.toList_some, Option.toList_none, List.cons_append, List.nil_append, and_self, and_true, true_and, false_and, and_false, ite_self, not_true_eq_false, not_false_eq_true, reduceIte, Nat.reduceEqDiff, ab_I, ab_L, ab_R, ao_I, ao_L, ao_R, gL_sL, gI_sI, gR_sR, gI_sL, gI_sR, gL_sI, gL_sR, gR_sI, gR_sL, g_116, g_117, ha.1, ha.2, hb.1, hb.2, p116, p117, q116, q117, aV_same, aV_ne hne, c1, c2, oneI, decide_true, decide_false])
    all_goals rfl
set_option maxHeartbeats 2000000 in
theorem T466 (hx : inB x) (hy : inB y) (hne : ¬ x.toNat = y.toNat) : MM 466 [mR (some 80), mI x, mI y] σ = some (none, wn2 σ x.toNat y.toNat (bothN (vn (aV σ x.toNat)) (vn (aV σ y.toNat)), bothN (vn (aV σ x.toNat)) (vn (aV σ y.toNat)))) := by
  have hne' : ¬ y.toNat = x.toNat := fun e => hne e.symm
  unfold bothN smin smax
  by_cases c1 : (jC (vn (aV σ y.toNat))).toInt ≤ (jC (vn (aV σ x.toNat))).toInt <;> by_cases c2 : (jD (vn (aV σ x.toNat))).toInt ≤ (jD (vn (aV σ y.toNat))).toInt
  all_goals (simp only [M466, e466_0, e466_50, e466_71, e466_108, e466_145, e466_170, e466_206, Option.getD_some, Option.bind_some, Option.toList_some, Option.toList_none, List.cons_append, List.nil_append, and_self, and_true, true_and, false_and, and_false, ite_self, not_true_eq_false, not_false_eq_true, reduceIte, Nat.reduceEqDiff, ab_I, ab_L, ab_R, ao_I, ao_L, ao_R, gL_sL, gI_sI, gR_sR, gI_sL, gI_sR, gL_sI, gL_sR, gR_sI, gR_sL, g_112, g_113, g_114, g_115, g_116, g_117, hx.1, hx.2, hy.1, hy.2, T440, T441, p112, p113, p114, p115, p116, p117, q112, q113, q114, q115, q116, q117, aV_same, aV_ne hne, aV_ne hne', wrV_same, c1, c2])
  all_goals rfl
end NAR
