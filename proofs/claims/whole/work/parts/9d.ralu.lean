/-! ===== the reference's runs: operations on registers ===== -/
section RALU
variable {σ τ ρ : MS} {c c' : TC WR} {v : SV} {w x : B64} {r f b k n o : Nat}
theorem mC' (w : B64) : iAnd (fOp w) 240 = fC w := mC w
theorem okC_of (ho : okAlu w) (n : ¬ fC w = 208) : okC (fC w) (fO w) := by
  have fr := fld_rng w
  have h1 := ho.1.2
  have q := ho.2
  rw [if_neg n] at q
  have e : fC w = fOp w / 16 * 16 := rfl
  by_cases c : fC w = 128
  · rw [if_pos c] at q
    obtain ⟨_, _, q3, _⟩ := q
    exact ⟨by omega, fun z => by omega, fun z => by omega⟩
  · rw [if_neg c] at q
    obtain ⟨_, hO, _⟩ := q
    refine ⟨by omega, fun z => ?_, fun z => ?_⟩
    · rcases hO with y | y | y
      · exact Or.inl y
      · exact Or.inr y.2
      · have := y.1.1; omega
    · rcases hO with y | y | y
      · exact Or.inl y
      · have := y.1; unfold isQuo at this; omega
      · have := y.2; omega
/-- the two sides as they lie there -/
def sdR (σ : MS) (c : TC WR) (w : B64) : B64 := if rgt w then gL σ 146 (rpR c (sRr w)) else iL (fI w)
theorem T558 (h : RelR σ c) (h47 : fL w = 4 ∨ fL w = 7) (ho : okAlu w) (e : alT c w = some v) : MM 558 [mR (some 80), mL w, mI (fOp w)] σ = some (none, sL σ 146 (rpR c (dR w)) (enR v)) ∧ okSV v := by
  have fr := fld_rng w
  have d9 : fD w ≤ 9 := ho.1.1
  have eD : fD w = ((dR w : Nat) : Int) := by show fD w = ((fD w).toNat : Int); omega
  have eS : fS w = ((sRr w : Nat) : Int) := by show fS w = ((fS w).toNat : Int); omega
  have dl : dR w < 10 := dR_9 d9
  have F4 := (relF h).2
  have td := T550r h (r := dR w) (by omega)
  have t333 : MM 333 [mL w] σ = some (some (mI ((dR w : Nat) : Int)), σ) := by rw [T333, eD]
  have t334 : MM 334 [mL w] σ = some (some (mI ((sRr w : Nat) : Int)), σ) := by rw [T334, eS]
  have bD : 0 ≤ ((rpR c (dR w) : Nat) : Int) ∧ ((rpR c (dR w) : Nat) : Int) < 44 := by
    show 0 ≤ ((11 * (cN c - 1) + dR w : Nat) : Int) ∧ ((11 * (cN c - 1) + dR w : Nat) : Int) < 44
    omega
  have w7 : iAnd (fOp w) 7 = fL w := m7 w
  have w8' : iAnd (fOp w) 8 = fOp w / 8 % 2 * 8 := m8 w
  have w240 : iAnd (fOp w) 240 = fC w := mC w
  obtain ⟨a, ha⟩ : ∃ a, a = gL σ 146 (rpR c (dR w)) := ⟨_, rfl⟩
  have hA : ¬ (rdR c (dR w)).1 = 6 → a = enG adR (rdR c (dR w)) ∧ okSV (rdR c (dR w)) := fun z => by
    rw [ha]
    exact rd_R h (by omega) z
  have sS : rgt w → ¬ fC w = 208 → fS w ≤ 10 := fun r z => by
    have q := ho.2
    rw [if_neg z] at q
    by_cases y : fC w = 128
    · rw [if_pos y] at q
      exact absurd r q.1
    · rw [if_neg y] at q
      have q := q.1
      rw [if_pos r] at q
      exact q.1
  have hB : ¬ fC w = 208 → ¬ (rgT c w).1 = 6 → sdR σ c w = enG adR (rgT c w) ∧ okSV (rgT c w) := fun z y => by
    unfold sdR
    unfold rgT at y ⊢
    by_cases r : rgt w
    · rw [if_pos r] at y ⊢
      rw [if_pos r]
      have := sS r z
      exact rd_R h (by omega) y
    · rw [if_neg r] at y ⊢
      rw [if_neg r]
      exact ⟨enG_0.symm, okSV_0⟩
  have x7 : (fL w = 7) = wid w := rfl
  -- the flag of width
  have s31 : MM 558 [mR (some 80), mL w, mI (fOp w)] σ = RR (lkB tb558) (B558_31, [some (mR (some 80)), some (mL w), none, some (mI (fOp w)), some (mI (fC w)), some (mI ((rpR c (dR w) : Nat) : Int)), none, none, none, none, none, none, none], [mI (b2 (wid w))], σ) := by
    by_cases wd : wid w
    · rw [b2_yes wd]
      have wd' : fL w = 7 := wd
      simp only [M558, e558_0, e558_12, e558_15, Option.getD_some, Option.bind_some, Option.toList_some, Option.toList_none, List.cons_append, List.nil_append, and_self, and_true, true_and, false_and, and_false, ite_self, not_true_eq_false, not_false_eq_true, reduceIte, Nat.reduceEqDiff, ab_I, ab_L, ab_R, ao_I, ao_L, ao_R, gL_sL, gI_sI, gR_sR, gI_sL, gI_sR, gL_sI, gL_sR, gR_sI, gR_sL, t333, td, w240, w7, wd', not_true_eq_false]
    · rw [b2_no wd]
      have wd' : ¬ fL w = 7 := wd
      simp only [M558, e558_0, e558_12, e558_15, Option.getD_some, Option.bind_some, Option.toList_some, Option.toList_none, List.cons_append, List.nil_append, and_self, and_true, true_and, false_and, and_false, ite_self, not_true_eq_false, not_false_eq_true, reduceIte, Nat.reduceEqDiff, ab_I, ab_L, ab_R, ao_I, ao_L, ao_R, gL_sL, gI_sI, gR_sR, gI_sL, gI_sR, gL_sI, gL_sR, gR_sI, gR_sL, t333, td, w240, w7, wd', not_false_eq_true]
  rw [s31]
  clear s31
  by_cases c208 : fC w = 208
  · obtain ⟨key, k⟩ := aluX_g (a := a) (b := enG adR (rgT c w)) e ho hA (fun _ => ⟨rfl, by
      have q : (rdR c (dR w)).1 = 0 := by
        unfold alT at e
        rw [if_pos c208] at e
        by_cases z : (rdR c (dR w)).1 = 0
        · exact z
        · rw [if_neg z] at e
          cases e
      unfold rgT
      have q2 := ho.2
      rw [if_pos c208] at q2
      by_cases r : rgt w
      · rw [if_pos r]
        have s0 : sRr w = 0 := by show (fS w).toNat = 0; omega
        by_cases z6 : (rdR c (sRr w)).1 = 6
        · exact ⟨fun z => by omega, fun z1 z2 => by omega, by omega⟩
        · exact (rd_R h (by omega) z6).2
      · rw [if_neg r]
        exact okSV_0⟩)
    refine ⟨?_, k⟩
    have q := ho.2
    rw [if_pos c208] at q
    have fb := q.2.2.2
    have key : _ = enR v := key
    rw [← key]
    unfold aluX
    rw [if_pos c208]
    unfold trnJ
    have c208' : iAnd (fOp w) 240 = 208 := w240.trans c208
    by_cases o212 : fOp w = 212
    · have t7 := T427 (σ := σ) (x := a) (b := (fI w).toNat) (by omega)
      rw [show (((fI w).toNat : Nat) : Int) = fI w by omega] at t7
      rw [decide_eq_true o212, if_pos rfl]
      simp only [e558_31, e558_65, e558_68, e558_85, Option.getD_some, Option.bind_some, Option.toList_some, Option.toList_none, List.cons_append, List.nil_append, and_self, and_true, true_and, false_and, and_false, ite_self, not_true_eq_false, not_false_eq_true, reduceIte, Nat.reduceEqDiff, ab_I, ab_L, ab_R, ao_I, ao_L, ao_R, gL_sL, gI_sI, gR_sR, gI_sL, gI_sR, gL_sI, gL_sR, gR_sI, gR_sL, eq_true c208, eq_true o212, not_true_eq_false, g_146, bD.1, bD.2, Int.toNat_natCast, T336, ← ha, t7]
    · have t6 := T426 (σ := σ) (v := a) fb
      rw [decide_eq_false o212, if_neg (by decide)]
      simp only [e558_31, e558_82, e558_85, Option.getD_some, Option.bind_some, Option.toList_some, Option.toList_none, List.cons_append, List.nil_append, and_self, and_true, true_and, false_and, and_false, ite_self, not_true_eq_false, not_false_eq_true, reduceIte, Nat.reduceEqDiff, ab_I, ab_L, ab_R, ao_I, ao_L, ao_R, gL_sL, gI_sI, gR_sR, gI_sL, gI_sR, gL_sI, gL_sR, gR_sI, gR_sL, eq_true c208, eq_false o212, not_true_eq_false, not_false_eq_true, g_146, bD.1, bD.2, Int.toNat_natCast, T336, ← ha, t6]
  · obtain ⟨key, k⟩ := aluX_g (a := a) (b := sdR σ c w) e ho hA (hB c208)
    refine ⟨?_, k⟩
    have key : _ = enR v := key
    rw [← key]
    unfold aluX
    rw [if_neg c208]
    have okc' : okC (fC w) (fO w) := okC_of ho c208
    have c208' : ¬ fC w = 208 := c208
    -- the right side
    have s124 : RR (lkB tb558) (B558_31, [some (mR (some 80)), some (mL w), none, some (mI (fOp w)), some (mI (fC w)), some (mI ((rpR c (dR w) : Nat) : Int)), none, none, none, none, none, none, none], [mI (b2 (wid w))], σ) = RR (lkB tb558) (B558_124, [some (mR (some 80)), some (mL w), none, some (mI (fOp w)), some (mI (fC w)), some (mI ((rpR c (dR w) : Nat) : Int)), some (mI (b2 (wid w))), some (mL a), none, none, none, none, none], [mL (sdR σ c w)], σ) := by
      unfold sdR
      by_cases r : rgt w
      · rw [if_pos r]
        have e8 : ¬ iAnd (fOp w) 8 = 0 := by rw [w8']; have r : fOp w / 8 % 2 = 1 := r; omega
        have ts := T550r h (r := sRr w) (by have := sS r c208; omega)
        have bS : 0 ≤ ((rpR c (sRr w) : Nat) : Int) ∧ ((rpR c (sRr w) : Nat) : Int) < 44 := by
          have := sS r c208
          show 0 ≤ ((11 * (cN c - 1) + sRr w : Nat) : Int) ∧ ((11 * (cN c - 1) + sRr w : Nat) : Int) < 44
          omega
        simp only [e558_31, e558_112, e558_115, Option.getD_some, Option.bind_some, Option.toList_some, Option.toList_none, List.cons_append, List.nil_append, and_self, and_true, true_and, false_and, and_false, ite_self, not_true_eq_false, not_false_eq_true, reduceIte, Nat.reduceEqDiff, ab_I, ab_L, ab_R, ao_I, ao_L, ao_R, gL_sL, gI_sI, gR_sR, gI_sL, gI_sR, gL_sI, gL_sR, gR_sI, gR_sL, c208', not_false_eq_true, g_146, bD.1, bD.2, bS.1, bS.2, Int.toNat_natCast, e8, t334, ts, ← ha]
      · rw [if_neg r]
        have e8 : iAnd (fOp w) 8 = 0 := by rw [w8']; have r : ¬ fOp w / 8 % 2 = 1 := r; omega
        simp only [e558_31, e558_123, Option.getD_some, Option.bind_some, Option.toList_some, Option.toList_none, List.cons_append, List.nil_append, and_self, and_true, true_and, false_and, and_false, ite_self, not_true_eq_false, not_false_eq_true, reduceIte, Nat.reduceEqDiff, ab_I, ab_L, ab_R, ao_I, ao_L, ao_R, gL_sL, gI_sI, gR_sR, gI_sL, gI_sR, gL_sI, gL_sR, gR_sI, gR_sL, c208', not_false_eq_true, g_146, bD.1, bD.2, Int.toNat_natCast, e8, T336, ← ha]
    rw [s124]
    clear s124
    by_cases wd : wid w
    · rw [if_pos wd, b2_yes wd]
      have t8 := T428w (σ := σ) (a := a) (b := sdR σ c w) okc'
      simp only [e558_124, e558_137, e558_145, e558_174, Option.getD_some, Option.bind_some, Option.toList_some, Option.toList_none, List.cons_append, List.nil_append, and_self, and_true, true_and, false_and, and_false, ite_self, not_true_eq_false, not_false_eq_true, reduceIte, Nat.reduceEqDiff, ab_I, ab_L, ab_R, ao_I, ao_L, ao_R, gL_sL, gI_sI, gR_sR, gI_sL, gI_sR, gL_sI, gL_sR, gR_sI, gR_sL, oneI, T335, t8, g_146, bD.1, bD.2, Int.toNat_natCast]
    · rw [if_neg wd, b2_no wd]
      obtain ⟨y, t8, ey⟩ := T428n (σ := σ) (a := a &&& cF) (b := sdR σ c w &&& cF) okc'
      have lF : iL 4294967295 = cF := rfl
      simp only [e558_124, e558_154, e558_170, e558_174, Option.getD_some, Option.bind_some, Option.toList_some, Option.toList_none, List.cons_append, List.nil_append, and_self, and_true, true_and, false_and, and_false, ite_self, not_true_eq_false, not_false_eq_true, reduceIte, Nat.reduceEqDiff, ab_I, ab_L, ab_R, ao_I, ao_L, ao_R, gL_sL, gI_sI, gR_sR, gI_sL, gI_sR, gL_sI, gL_sR, gR_sI, gR_sL, T335, lF, t8, ey, g_146, bD.1, bD.2, Int.toNat_natCast]
end RALU
