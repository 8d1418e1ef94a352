/-! ===== the reference's judge: COVERS ===== -/
/-- the pairs of TAGs, as they are stored -/
def PRs (σ : MS) (P : PR) : Prop := gI σ 80 101 = (P.length : Int) ∧ ∀ j, j < P.length → gI σ 142 j = (P.getD j (0, 0)).1 ∧ gI σ 143 j = (P.getD j (0, 0)).2
def vq (τ σ : MS) : Prop := (∀ k s, ¬ (k = 80 ∧ s = 101) → ¬ k = 142 → ¬ k = 143 → gI τ k s = gI σ k s) ∧ (∀ k s, gL τ k s = gL σ k s) ∧ τ.2.2 = σ.2.2
def cvo (σ : MS) (n : Nat) (o : Option Rs) (r : Option PR) : Prop := match r with
  | some P => okc o (some (mI 1)) (fun τ => PRs τ P ∧ vq τ σ ∧ P.length ≤ n)
  | none => okc o (some (mI 0)) (fun τ => vq τ σ)
section COV
variable {σ τ ρ : MS} {A S : ST} {P : PR} {i x y : Nat}
theorem vq_r (σ : MS) : vq σ σ := ⟨fun _ _ _ _ _ => rfl, fun _ _ => rfl, rfl⟩
theorem vq_t {a b c : MS} (h1 : vq a b) (h2 : vq b c) : vq a c := ⟨fun k s p q r => (h1.1 k s p q r).trans (h2.1 k s p q r), fun k s => (h1.2.1 k s).trans (h2.2.1 k s), h1.2.2.trans h2.2.2⟩
theorem vq_I (h : vq τ σ) {k s : Nat} (p : ¬ (k = 80 ∧ s = 101) ∧ ¬ k = 142 ∧ ¬ k = 143) : gI τ k s = gI σ k s := h.1 k s p.1 p.2.1 p.2.2
theorem vq_V (h : vq τ σ) : aV τ i = aV σ i := by
  unfold aV rNv
  rw [vq_I h (by omega), vq_I h (by omega), vq_I h (by omega), vq_I h (by omega), vq_I h (by omega), h.2.1, h.2.1, h.2.1, h.2.1, h.2.1, h.2.1]
theorem PR_w {a b : Int} (h : PRs σ P) (hn : P.length < 500) : PRs (sI (sI (sI σ 142 P.length a) 143 P.length b) 80 101 ((P.length + 1 : Nat) : Int)) (P ++ [(a, b)]) := by
  refine ⟨?_, fun j hj => ?_⟩
  · rw [gI_sI, if_pos ⟨rfl, rfl⟩, List.length_append]
    rfl
  · rw [List.length_append] at hj
    have hj : j < P.length + 1 := hj
    have a1 : gI (sI (sI (sI σ 142 P.length a) 143 P.length b) 80 101 ((P.length + 1 : Nat) : Int)) 142 j = if j = P.length then a else gI σ 142 j := by
      rw [gI_sI, if_neg (by omega), gI_sI, if_neg (by omega), gI_sI]
      by_cases e : j = P.length
      · rw [if_pos ⟨rfl, e⟩, if_pos e]
      · rw [if_neg (fun z => e z.2), if_neg e]
    have a2 : gI (sI (sI (sI σ 142 P.length a) 143 P.length b) 80 101 ((P.length + 1 : Nat) : Int)) 143 j = if j = P.length then b else gI σ 143 j := by
      rw [gI_sI, if_neg (by omega), gI_sI]
      by_cases e : j = P.length
      · rw [if_pos ⟨rfl, e⟩, if_pos e]
      · rw [if_neg (fun z => e z.2), if_neg e, gI_sI, if_neg (by omega)]
    rw [a1, a2]
    by_cases e : j = P.length
    · have g : (P ++ [(a, b)]).getD j (0, 0) = (a, b) := by
        rw [e, List.getD_eq_getElem?_getD, List.getElem?_append_right (Nat.le_refl _), Nat.sub_self]
        rfl
      rw [if_pos e, if_pos e, g]
      exact ⟨rfl, rfl⟩
    · have l : j < P.length := by omega
      have g : (P ++ [(a, b)]).getD j (0, 0) = P.getD j (0, 0) := by
        rw [List.getD_eq_getElem?_getD, List.getElem?_append_left l, ← List.getD_eq_getElem?_getD]
      rw [if_neg e, if_neg e, g]
      exact h.2 j l
theorem vq_w {a b c : Int} {n m : Nat} : vq (sI (sI (sI σ 142 n a) 143 m b) 80 101 c) σ := by
  refine ⟨fun k s p q r => ?_, fun _ _ => rfl, rfl⟩
  rw [gI_sI, if_neg (by omega), gI_sI, if_neg (by omega), gI_sI, if_neg (by omega)]
theorem T485 {a b : Int} (h : PRs σ P) (hn : P.length < 500) : cvo σ (P.length + 1) (MM 485 [mR (some 80), mI a, mI b] σ) (answ P a b) := by
  have h1 := h.1
  have h2 := h.2
  unfold answ
  by_cases c : a = 0 ∨ b = 0
  · rw [if_pos c]
    have s8 : MM 485 [mR (some 80), mI a, mI b] σ = RR (lkB tb485) (B485_8, [some (mR (some 80)), some (mI a), some (mI b), none], [], σ) := by
      by_cases a0 : a = 0
      · simp only [M485, e485_0, Option.getD_some, Option.bind_some, Option.toList_some, Option.toList_none, List.cons_append, List.nil_append, and_self, and_true, true_and, false_and, and_false, ite_self, not_true_eq_false, not_false_eq_true, reduceIte, Nat.reduceEqDiff, ab_I, ab_L, ab_R, ao_I, ao_L, ao_R, gL_sL, gI_sI, gR_sR, gI_sL, gI_sR, gL_sI, gL_sR, gR_sI, gR_sL, eq_true a0]
      · have b0 : b = 0 := c.resolve_left a0
        simp only [M485, e485_0, Option.getD_some, Option.bind_some, Option.toList_some, Option.toList_none, List.cons_append, List.nil_append, and_self, and_true, true_and, false_and, and_false, ite_self, not_true_eq_false, not_false_eq_true, reduceIte, Nat.reduceEqDiff, ab_I, ab_L, ab_R, ao_I, ao_L, ao_R, gL_sL, gI_sI, gR_sR, gI_sL, gI_sR, gL_sI, gL_sR, gR_sI, gR_sL, a0, eq_true b0]
    rw [s8, e485_8]
    by_cases e : a = b
    · rw [if_pos e, if_neg (not_not_intro e)]
      show okc _ _ (fun τ => PRs τ P ∧ vq τ σ ∧ P.length ≤ P.length + 1)
      exact okc_s ⟨h, vq_r _, Nat.le_succ _⟩
    · rw [if_neg e, if_pos e]
      show okc _ _ (fun τ => vq τ σ)
      exact okc_s (vq_r _)
  · rw [if_neg c]
    have a0 : ¬ a = 0 := fun q => c (Or.inl q)
    have b0 : ¬ b = 0 := fun q => c (Or.inr q)
    have key : ∀ (L B : PR), P = B ++ L → cvo σ (P.length + 1) (RR (lkB tb485) (B485_21, [some (mR (some 80)), some (mI a), some (mI b), some (mI (B.length : Int))], [], σ)) (match L.find? (fun q => decide (q.1 = a ∨ q.2 = b)) with
        | some q => if q.1 = a ∧ q.2 = b then some P else none
        | none => some (P ++ [(a, b)])) := by
      intro L
      induction L with
      | nil =>
        intro B e
        rw [List.append_nil] at e
        rw [← e]
        show okc _ _ (fun τ => PRs τ (P ++ [(a, b)]) ∧ vq τ σ ∧ (P ++ [(a, b)]).length ≤ P.length + 1)
        have i1 : 0 ≤ (P.length : Int) ∧ (P.length : Int) < 600 := by omega
        have e3 := w32_s (m := P.length) (by omega)
        rw [e485_21]
        simp only [e485_111, Option.getD_some, Option.bind_some, Option.toList_some, Option.toList_none, List.cons_append, List.nil_append, and_self, and_true, true_and, false_and, and_false, ite_self, not_true_eq_false, not_false_eq_true, reduceIte, Nat.reduceEqDiff, ab_I, ab_L, ab_R, ao_I, ao_L, ao_R, gL_sL, gI_sI, gR_sR, gI_sL, gI_sR, gL_sI, gL_sR, gR_sI, gR_sL, g_142, g_143, h1, Int.le_refl, i1.1, i1.2, Int.toNat_natCast, e3]
        refine okc_s ⟨PR_w h hn, vq_w, ?_⟩
        rw [List.length_append]
        exact Nat.le_refl _
      | cons q L ih =>
        intro B e
        have lA : B.length < P.length := by
          rw [e, List.length_append, List.length_cons]
          omega
        have gq : P.getD B.length (0, 0) = q := by
          rw [e, List.getD_eq_getElem?_getD, List.getElem?_append_right (Nat.le_refl _), Nat.sub_self]
          rfl
        have gg := h2 B.length lA
        rw [gq] at gg
        obtain ⟨g1, g2⟩ := gg
        have nl : ¬ (P.length : Int) ≤ (B.length : Int) := by omega
        have i1 : 0 ≤ (B.length : Int) ∧ (B.length : Int) < 600 := by omega
        by_cases q1 : q.1 = a
        · have fe : (q :: L).find? (fun q => decide (q.1 = a ∨ q.2 = b)) = some q := List.find?_cons_of_pos (decide_eq_true (Or.inl q1))
          rw [fe]
          show cvo σ (P.length + 1) _ (if q.1 = a ∧ q.2 = b then some P else none)
          by_cases q2 : q.2 = b
          · rw [if_pos ⟨q1, q2⟩]
            show okc _ _ (fun τ => PRs τ P ∧ vq τ σ ∧ P.length ≤ P.length + 1)
            rw [e485_21]
            simp only [e485_49, Option.getD_some, Option.bind_some, Option.toList_some, Option.toList_none, List.cons_append, List.nil_append, and_self, and_true, true_and, false_and, and_false, ite_self, not_true_eq_false, not_false_eq_true, reduceIte, Nat.reduceEqDiff, ab_I, ab_L, ab_R, ao_I, ao_L, ao_R, gL_sL, gI_sI, gR_sR, gI_sL, gI_sR, gL_sI, gL_sR, gR_sI, gR_sL, g_142, g_143, h1, nl, i1.1, i1.2, Int.toNat_natCast, g1, g2, eq_true q1, eq_true q2]
            exact okc_s ⟨h, vq_r _, Nat.le_succ _⟩
          · rw [if_neg (fun z => q2 z.2)]
            show okc _ _ (fun τ => vq τ σ)
            rw [e485_21]
            simp only [e485_49, e485_73, Option.getD_some, Option.bind_some, Option.toList_some, Option.toList_none, List.cons_append, List.nil_append, and_self, and_true, true_and, false_and, and_false, ite_self, not_true_eq_false, not_false_eq_true, reduceIte, Nat.reduceEqDiff, ab_I, ab_L, ab_R, ao_I, ao_L, ao_R, gL_sL, gI_sI, gR_sR, gI_sL, gI_sR, gL_sI, gL_sR, gR_sI, gR_sL, g_142, g_143, h1, nl, i1.1, i1.2, Int.toNat_natCast, g1, g2, eq_true q1, q2]
            exact okc_s (vq_r _)
        · by_cases q2 : q.2 = b
          · have fe : (q :: L).find? (fun q => decide (q.1 = a ∨ q.2 = b)) = some q := List.find?_cons_of_pos (decide_eq_true (Or.inr q2))
            rw [fe]
            show cvo σ (P.length + 1) _ (if q.1 = a ∧ q.2 = b then some P else none)
            rw [if_neg (fun z => q1 z.1)]
            show okc _ _ (fun τ => vq τ σ)
            rw [e485_21]
            simp only [e485_49, e485_73, Option.getD_some, Option.bind_some, Option.toList_some, Option.toList_none, List.cons_append, List.nil_append, and_self, and_true, true_and, false_and, and_false, ite_self, not_true_eq_false, not_false_eq_true, reduceIte, Nat.reduceEqDiff, ab_I, ab_L, ab_R, ao_I, ao_L, ao_R, gL_sL, gI_sI, gR_sR, gI_sL, gI_sR, gL_sI, gL_sR, gR_sI, gR_sL, g_142, g_143, h1, nl, i1.1, i1.2, Int.toNat_natCast, g1, g2, q1, eq_true q2]
            exact okc_s (vq_r _)
          · have fe : (q :: L).find? (fun q => decide (q.1 = a ∨ q.2 = b)) = L.find? (fun q => decide (q.1 = a ∨ q.2 = b)) := List.find?_cons_of_neg (by simp [q1, q2])
            rw [fe]
            have ih := ih (B ++ [q]) (by rw [e, List.append_assoc]; rfl)
            rw [List.length_append] at ih
            have e3 := w32_s (m := B.length) (by omega)
            rw [e485_21]
            simp only [Option.getD_some, Option.bind_some, Option.toList_some, Option.toList_none, List.cons_append, List.nil_append, and_self, and_true, true_and, false_and, and_false, ite_self, not_true_eq_false, not_false_eq_true, reduceIte, Nat.reduceEqDiff, ab_I, ab_L, ab_R, ao_I, ao_L, ao_R, gL_sL, gI_sI, gR_sR, gI_sL, gI_sR, gL_sI, gL_sR, gR_sI, gR_sL, g_142, g_143, h1, nl, i1.1, i1.2, Int.toNat_natCast, g1, g2, q1, q2, e3]
            exact ih
    have := key P [] rfl
    simp only [M485, e485_0, Option.getD_some, Option.bind_some, Option.toList_some, Option.toList_none, List.cons_append, List.nil_append, and_self, and_true, true_and, false_and, and_false, ite_self, not_true_eq_false, not_false_eq_true, reduceIte, Nat.reduceEqDiff, ab_I, ab_L, ab_R, ao_I, ao_L, ao_R, gL_sL, gI_sI, gR_sR, gI_sL, gI_sR, gL_sI, gL_sR, gR_sI, gR_sL, a0, b0]
    exact this
/-! numbers, VALUES, parts -/
theorem T488 (hx : inB (x : Int)) (hy : inB (y : Int)) : MM 488 [mR (some 80), mI (x : Int), mI (y : Int)] σ = some (some (mI (b2 (covN (vn (aV σ x)) (vn (aV σ y))))), σ) := by
  have x2 : gL σ 112 x = jV (vn (aV σ x)) := q112
  have x3 : gL σ 113 x = jM (vn (aV σ x)) := q113
  have x4 : gL σ 114 x = jA (vn (aV σ x)) := q114
  have x5 : gL σ 115 x = jB (vn (aV σ x)) := q115
  have x6 : gL σ 116 x = jC (vn (aV σ x)) := q116
  have x7 : gL σ 117 x = jD (vn (aV σ x)) := q117
  have y2 : gL σ 112 y = jV (vn (aV σ y)) := q112
  have y3 : gL σ 113 y = jM (vn (aV σ y)) := q113
  have y4 : gL σ 114 y = jA (vn (aV σ y)) := q114
  have y5 : gL σ 115 y = jB (vn (aV σ y)) := q115
  have y6 : gL σ 116 y = jC (vn (aV σ y)) := q116
  have y7 : gL σ 117 y = jD (vn (aV σ y)) := q117
  generalize vn (aV σ x) = a at *
  generalize vn (aV σ y) = b at *
  have bx1 := hx.1
  have bx2 := hx.2
  have by1 := hy.1
  have by2 := hy.2
  by_cases c1 : jA b < jA a
  · rw [b2_no (p := covN a b) (fun q => q.1.1 c1)]
    simp only [M488, e488_0, e488_15, e488_72, e488_73, e488_133, Option.getD_some, Option.bind_some, Option.toList_some, Option.toList_none, List.cons_append, List.nil_append, and_self, and_true, true_and, false_and, and_false, ite_self, not_true_eq_false, not_false_eq_true, reduceIte, Nat.reduceEqDiff, ab_I, ab_L, ab_R, ao_I, ao_L, ao_R, gL_sL, gI_sI, gR_sR, gI_sL, gI_sR, gL_sI, gL_sR, gR_sI, gR_sL, g_114, bx1, bx2, by1, by2, Int.toNat_natCast, x4, y4, T389, b2_n', eq_true c1]
  · by_cases c2 : jB a < jB b
    · rw [b2_no (p := covN a b) (fun q => q.1.2.1 c2)]
      simp only [M488, e488_0, e488_15, e488_33, e488_72, e488_73, e488_133, Option.getD_some, Option.bind_some, Option.toList_some, Option.toList_none, List.cons_append, List.nil_append, and_self, and_true, true_and, false_and, and_false, ite_self, not_true_eq_false, not_false_eq_true, reduceIte, Nat.reduceEqDiff, ab_I, ab_L, ab_R, ao_I, ao_L, ao_R, gL_sL, gI_sI, gR_sR, gI_sL, gI_sR, gL_sI, gL_sR, gR_sI, gR_sL, g_114, g_115, bx1, bx2, by1, by2, Int.toNat_natCast, x4, y4, x5, y5, T389, b2_n', c1, eq_true c2]
    · by_cases c3 : (jC b).toInt < (jC a).toInt
      · rw [b2_no (p := covN a b) (fun q => absurd q.1.2.2.1 (Int.not_le.mpr c3))]
        simp only [M488, e488_0, e488_15, e488_33, e488_72, e488_73, e488_133, Option.getD_some, Option.bind_some, Option.toList_some, Option.toList_none, List.cons_append, List.nil_append, and_self, and_true, true_and, false_and, and_false, ite_self, not_true_eq_false, not_false_eq_true, reduceIte, Nat.reduceEqDiff, ab_I, ab_L, ab_R, ao_I, ao_L, ao_R, gL_sL, gI_sI, gR_sR, gI_sL, gI_sR, gL_sI, gL_sR, gR_sI, gR_sL, g_114, g_115, g_116, bx1, bx2, by1, by2, Int.toNat_natCast, x4, y4, x5, y5, x6, y6, T389, b2_n', c1, c2, c3]
      · by_cases c4 : (jD a).toInt < (jD b).toInt
        · rw [b2_no (p := covN a b) (fun q => absurd q.1.2.2.2 (Int.not_le.mpr c4))]
          simp only [M488, e488_0, e488_15, e488_33, e488_72, e488_73, e488_133, Option.getD_some, Option.bind_some, Option.toList_some, Option.toList_none, List.cons_append, List.nil_append, and_self, and_true, true_and, false_and, and_false, ite_self, not_true_eq_false, not_false_eq_true, reduceIte, Nat.reduceEqDiff, ab_I, ab_L, ab_R, ao_I, ao_L, ao_R, gL_sL, gI_sI, gR_sR, gI_sL, gI_sR, gL_sI, gL_sR, gR_sI, gR_sL, g_114, g_115, g_116, g_117, bx1, bx2, by1, by2, Int.toNat_natCast, x4, y4, x5, y5, x6, y6, x7, y7, T389, b2_n', c1, c2, c3, c4]
        · by_cases c5 : jM b &&& ~~~ jM a = 0#64
          · by_cases c6 : (jV a ^^^ jV b) &&& ~~~ jM a = 0#64
            · rw [b2_yes (p := covN a b) ⟨⟨c1, c2, Int.not_lt.mp c3, Int.not_lt.mp c4⟩, c5, c6⟩]
              simp only [M488, e488_0, e488_15, e488_33, e488_73, Option.getD_some, Option.bind_some, Option.toList_some, Option.toList_none, List.cons_append, List.nil_append, and_self, and_true, true_and, false_and, and_false, ite_self, not_true_eq_false, not_false_eq_true, reduceIte, Nat.reduceEqDiff, ab_I, ab_L, ab_R, ao_I, ao_L, ao_R, gL_sL, gI_sI, gR_sR, gI_sL, gI_sR, gL_sI, gL_sR, gR_sI, gR_sL, g_112, g_113, g_114, g_115, g_116, g_117, bx1, bx2, by1, by2, Int.toNat_natCast, x2, y2, x3, y3, x4, y4, x5, y5, x6, y6, x7, y7, T389, b2_n', oneI, iL_m1, xor_all, c1, c2, c3, c4, c5, c6]
            · rw [b2_no (p := covN a b) (fun q => c6 q.2.2)]
              simp only [M488, e488_0, e488_15, e488_33, e488_73, e488_133, Option.getD_some, Option.bind_some, Option.toList_some, Option.toList_none, List.cons_append, List.nil_append, and_self, and_true, true_and, false_and, and_false, ite_self, not_true_eq_false, not_false_eq_true, reduceIte, Nat.reduceEqDiff, ab_I, ab_L, ab_R, ao_I, ao_L, ao_R, gL_sL, gI_sI, gR_sR, gI_sL, gI_sR, gL_sI, gL_sR, gR_sI, gR_sL, g_112, g_113, g_114, g_115, g_116, g_117, bx1, bx2, by1, by2, Int.toNat_natCast, x2, y2, x3, y3, x4, y4, x5, y5, x6, y6, x7, y7, T389, b2_n', oneI, iL_m1, xor_all, c1, c2, c3, c4, c5, c6]
          · rw [b2_no (p := covN a b) (fun q => c5 q.2.1)]
            simp only [M488, e488_0, e488_15, e488_33, e488_73, e488_133, Option.getD_some, Option.bind_some, Option.toList_some, Option.toList_none, List.cons_append, List.nil_append, and_self, and_true, true_and, false_and, and_false, ite_self, not_true_eq_false, not_false_eq_true, reduceIte, Nat.reduceEqDiff, ab_I, ab_L, ab_R, ao_I, ao_L, ao_R, gL_sL, gI_sI, gR_sR, gI_sL, gI_sR, gL_sI, gL_sR, gR_sI, gR_sL, g_113, g_114, g_115, g_116, g_117, bx1, bx2, by1, by2, Int.toNat_natCast, x3, y3, x4, y4, x5, y5, x6, y6, x7, y7, T389, b2_n', oneI, iL_m1, xor_all, c1, c2, c3, c4, c5]
theorem T489 (hx : inB (x : Int)) (hy : inB (y : Int)) (h : PRs σ P) (hn : P.length < 500) : cvo σ (P.length + 1) (MM 489 [mR (some 80), mI (x : Int), mI (y : Int)] σ) (covV P (aV σ x) (aV σ y)) := by
  have x8 : gI σ 118 x = vk (aV σ x) := q118
  have x9 : gI σ 119 x = vo (aV σ x) := q119
  have x0 : gI σ 120 x = vw (aV σ x) := q120
  have x1 : gI σ 121 x = vt (aV σ x) := q121
  have x2 : gI σ 122 x = vr (aV σ x) := q122
  have y8 : gI σ 118 y = vk (aV σ y) := q118
  have y9 : gI σ 119 y = vo (aV σ y) := q119
  have y0 : gI σ 120 y = vw (aV σ y) := q120
  have y1 : gI σ 121 y = vt (aV σ y) := q121
  have y2 : gI σ 122 y = vr (aV σ y) := q122
  have t8 := T488 (σ := σ) hx hy
  generalize aV σ x = a at *
  generalize aV σ y = b at *
  have bx1 := hx.1
  have bx2 := hx.2
  have by1 := hy.1
  have by2 := hy.2
  unfold covV
  by_cases k0 : vk a = 0
  · rw [if_pos k0]
    show okc _ _ (fun τ => PRs τ P ∧ vq τ σ ∧ P.length ≤ P.length + 1)
    simp only [M489, e489_0, Option.getD_some, Option.bind_some, Option.toList_some, Option.toList_none, List.cons_append, List.nil_append, and_self, and_true, true_and, false_and, and_false, ite_self, not_true_eq_false, not_false_eq_true, reduceIte, Nat.reduceEqDiff, ab_I, ab_L, ab_R, ao_I, ao_L, ao_R, gL_sL, gI_sI, gR_sR, gI_sL, gI_sR, gL_sI, gL_sR, gR_sI, gR_sL, g_118, bx1, bx2, Int.toNat_natCast, x8, eq_true k0]
    exact okc_s ⟨h, vq_r _, Nat.le_succ _⟩
  · rw [if_neg k0]
    by_cases k1 : vk a = vk b
    · rw [if_neg (not_not_intro k1)]
      by_cases k2 : vk a = 1
      · rw [if_pos k2]
        by_cases cn : covN (vn a) (vn b)
        · rw [if_pos cn]
          rw [b2_yes cn] at t8
          show okc _ _ (fun τ => PRs τ P ∧ vq τ σ ∧ P.length ≤ P.length + 1)
          have bl1 : bl 1 = True := eq_true (by decide)
          simp only [M489, e489_0, e489_44, Option.getD_some, Option.bind_some, Option.toList_some, Option.toList_none, List.cons_append, List.nil_append, and_self, and_true, true_and, false_and, and_false, ite_self, not_true_eq_false, not_false_eq_true, reduceIte, Nat.reduceEqDiff, ab_I, ab_L, ab_R, ao_I, ao_L, ao_R, gL_sL, gI_sI, gR_sR, gI_sL, gI_sR, gL_sI, gL_sR, gR_sI, gR_sL, g_118, bx1, bx2, by1, by2, Int.toNat_natCast, x8, y8, k0, eq_true k1, eq_true k2, t8, bl1]
          exact okc_s ⟨h, vq_r _, Nat.le_succ _⟩
        · rw [if_neg cn]
          rw [b2_no cn] at t8
          show okc _ _ (fun τ => vq τ σ)
          have bl1 : bl 0 = True := eq_true (by decide)
          simp only [M489, e489_0, e489_44, Option.getD_some, Option.bind_some, Option.toList_some, Option.toList_none, List.cons_append, List.nil_append, and_self, and_true, true_and, false_and, and_false, ite_self, not_true_eq_false, not_false_eq_true, reduceIte, Nat.reduceEqDiff, ab_I, ab_L, ab_R, ao_I, ao_L, ao_R, gL_sL, gI_sI, gR_sR, gI_sL, gI_sR, gL_sI, gL_sR, gR_sI, gR_sL, g_118, bx1, bx2, by1, by2, Int.toNat_natCast, x8, y8, k0, eq_true k1, eq_true k2, t8, bl1]
          exact okc_s (vq_r _)
      · rw [if_neg k2]
        by_cases w0 : vw a = vw b
        · by_cases w1 : vo a = vo b
          · by_cases w2 : vr b < vr a
            · rw [if_neg (fun q => by have := q.1.2.2; omega)]
              show okc _ _ (fun τ => vq τ σ)
              simp only [M489, e489_0, e489_94, e489_95, e489_132, Option.getD_some, Option.bind_some, Option.toList_some, Option.toList_none, List.cons_append, List.nil_append, and_self, and_true, true_and, false_and, and_false, ite_self, not_true_eq_false, not_false_eq_true, reduceIte, Nat.reduceEqDiff, ab_I, ab_L, ab_R, ao_I, ao_L, ao_R, gL_sL, gI_sI, gR_sR, gI_sL, gI_sR, gL_sI, gL_sR, gR_sI, gR_sL, g_118, g_119, g_120, g_122, bx1, bx2, by1, by2, Int.toNat_natCast, x8, y8, x9, y9, x0, y0, x2, y2, k0, eq_true k1, k2, eq_true w0, eq_true w1, w2]
              exact okc_s (vq_r _)
            · by_cases cn : covN (vn a) (vn b)
              · rw [if_pos ⟨⟨w0, w1, by omega⟩, cn⟩]
                rw [b2_yes cn] at t8
                have t5 := T485 (a := vt a) (b := vt b) h hn
                rcases hA : answ P (vt a) (vt b) with _ | P'
                · rw [hA] at t5
                  obtain ⟨τ, e, q⟩ := t5
                  show okc _ _ (fun τ => vq τ σ)
                  simp only [M489, e489_0, e489_95, e489_106, e489_125, e489_132, Option.getD_some, Option.bind_some, Option.toList_some, Option.toList_none, List.cons_append, List.nil_append, and_self, and_true, true_and, false_and, and_false, ite_self, not_true_eq_false, not_false_eq_true, reduceIte, Nat.reduceEqDiff, ab_I, ab_L, ab_R, ao_I, ao_L, ao_R, gL_sL, gI_sI, gR_sR, gI_sL, gI_sR, gL_sI, gL_sR, gR_sI, gR_sL, g_118, g_119, g_120, g_121, g_122, bx1, bx2, by1, by2, Int.toNat_natCast, x8, y8, x9, y9, x0, y0, x1, y1, x2, y2, k0, eq_true k1, k2, eq_true w0, eq_true w1, w2, oneI, t8, e]
                  exact okc_s q
                · rw [hA] at t5
                  obtain ⟨τ, e, q⟩ := t5
                  show okc _ _ (fun τ => PRs τ P' ∧ vq τ σ ∧ P'.length ≤ P.length + 1)
                  simp only [M489, e489_0, e489_95, e489_106, e489_125, Option.getD_some, Option.bind_some, Option.toList_some, Option.toList_none, List.cons_append, List.nil_append, and_self, and_true, true_and, false_and, and_false, ite_self, not_true_eq_false, not_false_eq_true, reduceIte, Nat.reduceEqDiff, ab_I, ab_L, ab_R, ao_I, ao_L, ao_R, gL_sL, gI_sI, gR_sR, gI_sL, gI_sR, gL_sI, gL_sR, gR_sI, gR_sL, g_118, g_119, g_120, g_121, g_122, bx1, bx2, by1, by2, Int.toNat_natCast, x8, y8, x9, y9, x0, y0, x1, y1, x2, y2, k0, eq_true k1, k2, eq_true w0, eq_true w1, w2, oneI, t8, e]
                  exact okc_s q
              · rw [if_neg (fun q => cn q.2)]
                rw [b2_no cn] at t8
                show okc _ _ (fun τ => vq τ σ)
                simp only [M489, e489_0, e489_95, e489_106, e489_132, Option.getD_some, Option.bind_some, Option.toList_some, Option.toList_none, List.cons_append, List.nil_append, and_self, and_true, true_and, false_and, and_false, ite_self, not_true_eq_false, not_false_eq_true, reduceIte, Nat.reduceEqDiff, ab_I, ab_L, ab_R, ao_I, ao_L, ao_R, gL_sL, gI_sI, gR_sR, gI_sL, gI_sR, gL_sI, gL_sR, gR_sI, gR_sL, g_118, g_119, g_120, g_122, bx1, bx2, by1, by2, Int.toNat_natCast, x8, y8, x9, y9, x0, y0, x2, y2, k0, eq_true k1, k2, eq_true w0, eq_true w1, w2, oneI, t8]
                exact okc_s (vq_r _)
          · rw [if_neg (fun q => w1 q.1.2.1)]
            show okc _ _ (fun τ => vq τ σ)
            simp only [M489, e489_0, e489_94, e489_95, e489_132, Option.getD_some, Option.bind_some, Option.toList_some, Option.toList_none, List.cons_append, List.nil_append, and_self, and_true, true_and, false_and, and_false, ite_self, not_true_eq_false, not_false_eq_true, reduceIte, Nat.reduceEqDiff, ab_I, ab_L, ab_R, ao_I, ao_L, ao_R, gL_sL, gI_sI, gR_sR, gI_sL, gI_sR, gL_sI, gL_sR, gR_sI, gR_sL, g_118, g_119, g_120, bx1, bx2, by1, by2, Int.toNat_natCast, x8, y8, x9, y9, x0, y0, k0, eq_true k1, k2, eq_true w0, w1]
            exact okc_s (vq_r _)
        · rw [if_neg (fun q => w0 q.1.1)]
          show okc _ _ (fun τ => vq τ σ)
          simp only [M489, e489_0, e489_94, e489_95, e489_132, Option.getD_some, Option.bind_some, Option.toList_some, Option.toList_none, List.cons_append, List.nil_append, and_self, and_true, true_and, false_and, and_false, ite_self, not_true_eq_false, not_false_eq_true, reduceIte, Nat.reduceEqDiff, ab_I, ab_L, ab_R, ao_I, ao_L, ao_R, gL_sL, gI_sI, gR_sR, gI_sL, gI_sR, gL_sI, gL_sR, gR_sI, gR_sL, g_118, g_120, bx1, bx2, by1, by2, Int.toNat_natCast, x8, y8, x0, y0, k0, eq_true k1, k2, w0]
          exact okc_s (vq_r _)
    · rw [if_pos k1]
      show okc _ _ (fun τ => vq τ σ)
      simp only [M489, e489_0, Option.getD_some, Option.bind_some, Option.toList_some, Option.toList_none, List.cons_append, List.nil_append, and_self, and_true, true_and, false_and, and_false, ite_self, not_true_eq_false, not_false_eq_true, reduceIte, Nat.reduceEqDiff, ab_I, ab_L, ab_R, ao_I, ao_L, ao_R, gL_sL, gI_sI, gR_sR, gI_sL, gI_sR, gL_sI, gL_sR, gR_sI, gR_sL, g_118, bx1, bx2, by1, by2, Int.toNat_natCast, x8, y8, k0, k1]
      exact okc_s (vq_r _)
theorem bv_sub (x y : BitVec 32) : (x &&& ~~~ y = 0#32) ↔ x &&& y = x := by
  constructor
  · intro h
    refine BitVec.eq_of_getLsbD_eq fun i hi => ?_
    have := congrArg (fun z => z.getLsbD i) h
    simp only [BitVec.getLsbD_and, BitVec.getLsbD_not, BitVec.getLsbD_zero, hi, decide_true, Bool.true_and] at this ⊢
    cases hx : x.getLsbD i <;> cases hy : y.getLsbD i <;> simp_all
  · intro h
    refine BitVec.eq_of_getLsbD_eq fun i hi => ?_
    have := congrArg (fun z => z.getLsbD i) h
    simp only [BitVec.getLsbD_and, BitVec.getLsbD_not, BitVec.getLsbD_zero, hi, decide_true, Bool.true_and] at this ⊢
    cases hx : x.getLsbD i <;> cases hy : y.getLsbD i <;> simp_all
theorem iAndNot {a b : Int} (ha : 0 ≤ a ∧ a < 256) (hb : 0 ≤ b ∧ b < 256) : (iAnd a (iXor b (-1)) = 0) = (a.toNat &&& b.toNat = a.toNat) := by
  have e1 : b32 (iXor b (-1)) = ~~~ b32 b := by
    unfold iXor
    rw [show b32 (-1) = BitVec.allOnes 32 by decide, BitVec.xor_allOnes]
    exact BitVec.ofInt_toInt
  have na : (b32 a).toNat = a.toNat := by rw [b32_nat]; omega
  have nb : (b32 b).toNat = b.toNat := by rw [b32_nat]; omega
  unfold iAnd
  rw [e1]
  refine propext (Iff.trans ?_ (Iff.trans (bv_sub (b32 a) (b32 b)) ?_))
  · exact ⟨fun h => BitVec.eq_of_toInt_eq (h.trans (by decide)), fun h => by rw [h]; decide⟩
  · refine ⟨fun h => ?_, fun h => BitVec.eq_of_toNat_eq ?_⟩
    · have := congrArg BitVec.toNat h
      rwa [BitVec.toNat_and, na, nb] at this
    · rw [BitVec.toNat_and, na, nb]
      exact h
theorem T487 (hx : inB (x : Int)) (hy : inB (y : Int)) (h : PRs σ P) (hn : P.length < 500) (ha : vk (aV σ x) = 0 → 0 ≤ vr (aV σ x) ∧ vr (aV σ x) < 256) (hb : vk (aV σ y) = 0 → 0 ≤ vr (aV σ y) ∧ vr (aV σ y) < 256) : cvo σ (P.length + 1) (MM 487 [mR (some 80), mI (x : Int), mI (y : Int)] σ) (covP P (aV σ x) (aV σ y)) := by
  have x8 : gI σ 118 x = vk (aV σ x) := q118
  have x2 : gI σ 122 x = vr (aV σ x) := q122
  have y8 : gI σ 118 y = vk (aV σ y) := q118
  have y2 : gI σ 122 y = vr (aV σ y) := q122
  have t9 := T489 (σ := σ) hx hy h hn
  generalize aV σ x = a at *
  generalize aV σ y = b at *
  have bx1 := hx.1
  have bx2 := hx.2
  have by1 := hy.1
  have by2 := hy.2
  unfold covP
  by_cases k0 : vk a = 0
  · rw [if_neg (not_not_intro k0)]
    have r1 := ha k0
    by_cases r0 : vr a = 0
    · rw [if_pos (Or.inl r0)]
      show okc _ _ (fun τ => PRs τ P ∧ vq τ σ ∧ P.length ≤ P.length + 1)
      simp only [M487, e487_0, e487_82, Option.getD_some, Option.bind_some, Option.toList_some, Option.toList_none, List.cons_append, List.nil_append, and_self, and_true, true_and, false_and, and_false, ite_self, not_true_eq_false, not_false_eq_true, reduceIte, Nat.reduceEqDiff, ab_I, ab_L, ab_R, ao_I, ao_L, ao_R, gL_sL, gI_sI, gR_sR, gI_sL, gI_sR, gL_sI, gL_sR, gR_sI, gR_sL, g_118, g_122, bx1, bx2, Int.toNat_natCast, x8, x2, eq_true k0, eq_true r0]
      exact okc_s ⟨h, vq_r _, Nat.le_succ _⟩
    · by_cases k1 : vk b = 0
      · have an := iAndNot r1 (hb k1)
        by_cases s : (vr a).toNat &&& (vr b).toNat = (vr a).toNat
        · rw [if_pos (Or.inr (by rw [if_pos k1]; exact s))]
          rw [eq_true s] at an
          show okc _ _ (fun τ => PRs τ P ∧ vq τ σ ∧ P.length ≤ P.length + 1)
          simp only [M487, e487_0, e487_82, Option.getD_some, Option.bind_some, Option.toList_some, Option.toList_none, List.cons_append, List.nil_append, and_self, and_true, true_and, false_and, and_false, ite_self, not_true_eq_false, not_false_eq_true, reduceIte, Nat.reduceEqDiff, ab_I, ab_L, ab_R, ao_I, ao_L, ao_R, gL_sL, gI_sI, gR_sR, gI_sL, gI_sR, gL_sI, gL_sR, gR_sI, gR_sL, g_118, g_122, bx1, bx2, by1, by2, Int.toNat_natCast, x8, x2, y8, y2, eq_true k0, r0, eq_true k1, an]
          exact okc_s ⟨h, vq_r _, Nat.le_succ _⟩
        · rw [if_neg (fun q => q.elim r0 (fun z => by rw [if_pos k1] at z; exact s z))]
          rw [eq_false s] at an
          show okc _ _ (fun τ => vq τ σ)
          simp only [M487, e487_0, e487_86, Option.getD_some, Option.bind_some, Option.toList_some, Option.toList_none, List.cons_append, List.nil_append, and_self, and_true, true_and, false_and, and_false, ite_self, not_true_eq_false, not_false_eq_true, reduceIte, Nat.reduceEqDiff, ab_I, ab_L, ab_R, ao_I, ao_L, ao_R, gL_sL, gI_sI, gR_sR, gI_sL, gI_sR, gL_sI, gL_sR, gR_sI, gR_sL, g_118, g_122, bx1, bx2, by1, by2, Int.toNat_natCast, x8, x2, y8, y2, eq_true k0, r0, eq_true k1, an]
          exact okc_s (vq_r _)
      · by_cases k2 : vk b = 1
        · rw [if_pos (Or.inr (by rw [if_neg k1]; exact k2))]
          show okc _ _ (fun τ => PRs τ P ∧ vq τ σ ∧ P.length ≤ P.length + 1)
          simp only [M487, e487_0, e487_82, Option.getD_some, Option.bind_some, Option.toList_some, Option.toList_none, List.cons_append, List.nil_append, and_self, and_true, true_and, false_and, and_false, ite_self, not_true_eq_false, not_false_eq_true, reduceIte, Nat.reduceEqDiff, ab_I, ab_L, ab_R, ao_I, ao_L, ao_R, gL_sL, gI_sI, gR_sR, gI_sL, gI_sR, gL_sI, gL_sR, gR_sI, gR_sL, g_118, g_122, bx1, bx2, by1, by2, Int.toNat_natCast, x8, x2, y8, eq_true k0, r0, k1, eq_true k2]
          exact okc_s ⟨h, vq_r _, Nat.le_succ _⟩
        · rw [if_neg (fun q => q.elim r0 (fun z => by rw [if_neg k1] at z; exact k2 z))]
          show okc _ _ (fun τ => vq τ σ)
          simp only [M487, e487_0, e487_86, Option.getD_some, Option.bind_some, Option.toList_some, Option.toList_none, List.cons_append, List.nil_append, and_self, and_true, true_and, false_and, and_false, ite_self, not_true_eq_false, not_false_eq_true, reduceIte, Nat.reduceEqDiff, ab_I, ab_L, ab_R, ao_I, ao_L, ao_R, gL_sL, gI_sI, gR_sR, gI_sL, gI_sR, gL_sI, gL_sR, gR_sI, gR_sL, g_118, g_122, bx1, bx2, by1, by2, Int.toNat_natCast, x8, x2, y8, eq_true k0, r0, k1, k2]
          exact okc_s (vq_r _)
  · rw [if_pos k0]
    by_cases k1 : vk b = 0
    · rw [if_neg (not_not_intro k1)]
      show okc _ _ (fun τ => vq τ σ)
      simp only [M487, e487_0, e487_31, Option.getD_some, Option.bind_some, Option.toList_some, Option.toList_none, List.cons_append, List.nil_append, and_self, and_true, true_and, false_and, and_false, ite_self, not_true_eq_false, not_false_eq_true, reduceIte, Nat.reduceEqDiff, ab_I, ab_L, ab_R, ao_I, ao_L, ao_R, gL_sL, gI_sI, gR_sR, gI_sL, gI_sR, gL_sI, gL_sR, gR_sI, gR_sL, g_118, bx1, bx2, by1, by2, Int.toNat_natCast, x8, y8, k0, eq_true k1]
      exact okc_s (vq_r _)
    · rw [if_pos k1]
      rcases hV : covV P a b with _ | P'
      · rw [hV] at t9
        obtain ⟨τ, e, q⟩ := t9
        show okc _ _ (fun τ => vq τ σ)
        simp only [M487, e487_0, e487_24, e487_31, Option.getD_some, Option.bind_some, Option.toList_some, Option.toList_none, List.cons_append, List.nil_append, and_self, and_true, true_and, false_and, and_false, ite_self, not_true_eq_false, not_false_eq_true, reduceIte, Nat.reduceEqDiff, ab_I, ab_L, ab_R, ao_I, ao_L, ao_R, gL_sL, gI_sI, gR_sR, gI_sL, gI_sR, gL_sI, gL_sR, gR_sI, gR_sL, g_118, bx1, bx2, by1, by2, Int.toNat_natCast, x8, y8, k0, k1, e]
        exact okc_s q
      · rw [hV] at t9
        obtain ⟨τ, e, q⟩ := t9
        show okc _ _ (fun τ => PRs τ P' ∧ vq τ σ ∧ P'.length ≤ P.length + 1)
        simp only [M487, e487_0, e487_24, Option.getD_some, Option.bind_some, Option.toList_some, Option.toList_none, List.cons_append, List.nil_append, and_self, and_true, true_and, false_and, and_false, ite_self, not_true_eq_false, not_false_eq_true, reduceIte, Nat.reduceEqDiff, ab_I, ab_L, ab_R, ao_I, ao_L, ao_R, gL_sL, gI_sI, gR_sR, gI_sL, gI_sR, gL_sI, gL_sR, gR_sI, gR_sL, g_118, bx1, bx2, by1, by2, Int.toNat_natCast, x8, y8, k0, k1, oneI, e]
        exact okc_s q
/-! the whole state -/
theorem unk_r {v : VL} (c : canV v) (z : vk v = 0) : 0 ≤ vr v ∧ vr v < 256 := by
  have := (c.2.1 z).2
  omega
theorem L486w {i f r m : Nat} (hi : i < 252) (hf : f < 5) (e : m = 26 * f + r) (hr : r < 27) : w32 (w32 (w32 (104 * (i : Int)) + w32 (26 * (f : Int))) + (r : Int)) = ((104 * i + m : Nat) : Int) := by
  rw [w32_i (x := 104 * (i : Int)) (by omega) (by omega), w32_i (x := 26 * (f : Int)) (by omega) (by omega), w32_i (x := 104 * (i : Int) + 26 * (f : Int)) (by omega) (by omega), w32_i (by omega) (by omega)]
  omega
theorem L486u {i m : Nat} (hi : i < 252) (hm : m < 64) : w32 (w32 (64 * (i : Int)) + (m : Int)) = ((64 * i + m : Nat) : Int) := by
  rw [w32_i (x := 64 * (i : Int)) (by omega) (by omega), w32_i (by omega) (by omega)]
  omega
theorem L486t {i f : Nat} (hi : i < 252) (hf : f < 5) : w32 (w32 (4 * (i : Int)) + (f : Int)) = ((4 * i + f : Nat) : Int) := by
  rw [w32_i (x := 4 * (i : Int)) (by omega) (by omega), w32_i (by omega) (by omega)]
  omega
theorem L486v {f r m : Nat} (hf : f < 5) (e : m = 26 * f + r) (hr : r < 27) : w32 (w32 (26 * (f : Int)) + (r : Int)) = (m : Int) := by
  rw [w32_i (x := 26 * (f : Int)) (by omega) (by omega), w32_i (by omega) (by omega)]
  omega
abbrev bSo (r : Option PR) : Int := b2 (r.isSome = true)
/-- VALUE by VALUE -/
theorem L486 (hi : i < 252) (hF : sF A = sF S ∧ 1 ≤ sF A ∧ sF A ≤ 4) (jA : JSt σ i A) (jS : J0 σ S) (cA : canS A) (cS : canS S) : ∀ (j m f r : Nat) (P : PR) (τ : MS), 26 * sF A = m + (j + 1) → m = 26 * f + r → r < 26 → f < sF A → PRs τ P → vq τ σ → P.length ≤ 64 + m → okc (RR (lkB tb486) (B486_134, [some (mR (some 80)), some (mI (i : Int)), some (mI (f : Int)), some (mI (r : Int)), none, none], [], τ)) (some (mI (bSo (covK A S (List.range' m (j + 1)) P)))) (fun τ' => vq τ' σ) := by
  intro j
  induction j with
  | zero =>
    intro m f r P τ e1 e2 e3 e4 hP hq hl
    have r25 : r = 25 := by omega
    have f1 : f + 1 = sF A := by omega
    subst r25
    have bx : inB ((104 * i + m : Nat) : Int) := ⟨by omega, by omega⟩
    have by' : inB ((m : Nat) : Int) := ⟨by omega, by omega⟩
    have vx : aV τ (104 * i + m) = sV A m := by rw [vq_V hq]; exact jA.2.1 m (by omega)
    have vy : aV τ m = sV S m := by rw [vq_V hq]; exact J0_v jS (by omega)
    have ca := cA m (by omega)
    have cs := cS m (by omega)
    have t := T487 (σ := τ) bx by' hP (by omega) (by rw [vx]; exact fun z => unk_r ca z) (by rw [vy]; exact fun z => unk_r cs z)
    rw [vx, vy] at t
    have f5 : f < 5 := by omega
    have f6 : f < 100000 := by omega
    have g123 : ∀ τ', vq τ' σ → gI τ' 123 i = (sF A : Int) := fun τ' q => (vq_I q (by omega)).trans jA.1
    have i1 : 0 ≤ (i : Int) ∧ (i : Int) < 314 := by omega
    have fl : (sF A : Int) ≤ ((f + 1 : Nat) : Int) := by omega
    have uK : covK A S (List.range' m (0 + 1)) P = (match covP P (sV A m) (sV S m) with
        | some P' => some P'
        | none => none) := by
      show (match (if m % 26 < 10 then covV P (sV A m) (sV S m) else covP P (sV A m) (sV S m)) with
        | some P' => covK A S [] P'
        | none => none) = _
      rw [if_neg (by omega)]
      rfl
    have w1 : w32 (w32 (w32 (104 * (i : Int)) + w32 (26 * (f : Int))) + 25) = ((104 * i + m : Nat) : Int) := L486w hi f5 e2 (by decide)
    have w2 : w32 (w32 (26 * (f : Int)) + 25) = (m : Int) := L486v f5 e2 (by decide)
    have w3 := w32_s f6
    rw [uK, show ((25 : Nat) : Int) = 25 from rfl]
    rcases hV : covP P (sV A m) (sV S m) with _ | P'
    · rw [hV] at t
      obtain ⟨τ', e, q⟩ := t
      rw [show bSo (match (none : Option PR) with | some P' => some P' | none => none) = 0 from rfl]
      rw [e486_134]
      simp only [e486_189, Option.getD_some, Option.bind_some, Option.toList_some, Option.toList_none, List.cons_append, List.nil_append, and_self, and_true, true_and, false_and, and_false, ite_self, not_true_eq_false, not_false_eq_true, reduceIte, Nat.reduceEqDiff, ab_I, ab_L, ab_R, ao_I, ao_L, ao_R, gL_sL, gI_sI, gR_sR, gI_sL, gI_sR, gL_sI, gL_sR, gR_sI, gR_sL, Int.reduceLE, w1, w2, e]
      exact okc_s (vq_t q hq)
    · rw [hV] at t
      obtain ⟨τ', e, q⟩ := t
      rw [show bSo (match (some P' : Option PR) with | some P' => some P' | none => none) = 1 from rfl]
      rw [e486_134]
      simp only [e486_189, e486_194, Option.getD_some, Option.bind_some, Option.toList_some, Option.toList_none, List.cons_append, List.nil_append, and_self, and_true, true_and, false_and, and_false, ite_self, not_true_eq_false, not_false_eq_true, reduceIte, Nat.reduceEqDiff, ab_I, ab_L, ab_R, ao_I, ao_L, ao_R, gL_sL, gI_sI, gR_sR, gI_sL, gI_sR, gL_sI, gL_sR, gR_sI, gR_sL, Int.reduceLE, w1, w2, e, oneI]
      refine okc_q (ls := [some (mR (some 80)), some (mI (i : Int)), some (mI (f : Int)), some (mI (w32 (25 + 1))), none, none]) (by repeat (first | exact lq_nil | refine lq_cons (Or.inr rfl) ?_ | refine lq_cons (Or.inl rfl) ?_)) ?_
      rw [show w32 (25 + 1) = 26 from rfl, e486_134, if_pos (by decide), w3]
      refine okc_q (ls := [some (mR (some 80)), some (mI (i : Int)), some (mI ((f + 1 : Nat) : Int)), none, none, none]) (by repeat (first | exact lq_nil | refine lq_cons (Or.inr rfl) ?_ | refine lq_cons (Or.inl rfl) ?_)) ?_
      rw [e486_122]
      simp only [Option.getD_some, Option.bind_some, Option.toList_some, Option.toList_none, List.cons_append, List.nil_append, and_self, and_true, true_and, false_and, and_false, ite_self, not_true_eq_false, not_false_eq_true, reduceIte, Nat.reduceEqDiff, ab_I, ab_L, ab_R, ao_I, ao_L, ao_R, gL_sL, gI_sI, gR_sR, gI_sL, gI_sR, gL_sI, gL_sR, gR_sI, gR_sL, g_123, i1.1, i1.2, Int.toNat_natCast, g123 τ' (vq_t q.2.1 hq), fl]
      exact okc_s (vq_t q.2.1 hq)
  | succ j ih =>
    intro m f r P τ e1 e2 e3 e4 hP hq hl
    have bx : inB ((104 * i + m : Nat) : Int) := ⟨by omega, by omega⟩
    have by' : inB ((m : Nat) : Int) := ⟨by omega, by omega⟩
    have vx : aV τ (104 * i + m) = sV A m := by rw [vq_V hq]; exact jA.2.1 m (by omega)
    have vy : aV τ m = sV S m := by rw [vq_V hq]; exact J0_v jS (by omega)
    have ca := cA m (by omega)
    have cs := cS m (by omega)
    have f5 : f < 5 := by omega
    have f6 : f < 100000 := by omega
    have r7 : r < 27 := by omega
    have r6 : r < 100000 := by omega
    have g123 : ∀ τ', vq τ' σ → gI τ' 123 i = (sF A : Int) := fun τ' q => (vq_I q (by omega)).trans jA.1
    have i1 : 0 ≤ (i : Int) ∧ (i : Int) < 314 := by omega
    have n26 : ¬ 26 ≤ (r : Int) := by omega
    have uK : covK A S (List.range' m (j + 1 + 1)) P = (match (if r < 10 then covV P (sV A m) (sV S m) else covP P (sV A m) (sV S m)) with
        | some P' => covK A S (List.range' (m + 1) (j + 1)) P'
        | none => none) := by
      rw [List.range'_succ]
      show (match (if m % 26 < 10 then covV P (sV A m) (sV S m) else covP P (sV A m) (sV S m)) with
        | some P' => covK A S (List.range' (m + 1) (j + 1)) P'
        | none => none) = _
      rw [show m % 26 = r by omega]
    -- from the next VALUE on
    have nx : ∀ (P' : PR) (τ' : MS) (x4 x5 : Int), PRs τ' P' → vq τ' σ → P'.length ≤ P.length + 1 → okc (RR (lkB tb486) (B486_194, [some (mR (some 80)), some (mI (i : Int)), some (mI (f : Int)), some (mI (r : Int)), some (mI x4), some (mI x5)], [], τ')) (some (mI (bSo (covK A S (List.range' (m + 1) (j + 1)) P')))) (fun τ' => vq τ' σ) := fun P' τ' x4 x5 p1 p2 p3 => by
      rw [e486_194, w32_s r6]
      refine okc_q (ls := [some (mR (some 80)), some (mI (i : Int)), some (mI (f : Int)), some (mI ((r + 1 : Nat) : Int)), none, none]) (by repeat (first | exact lq_nil | refine lq_cons (Or.inr rfl) ?_ | refine lq_cons (Or.inl rfl) ?_)) ?_
      by_cases z : r = 25
      · subst z
        have nf : ¬ (sF A : Int) ≤ ((f + 1 : Nat) : Int) := by omega
        rw [e486_134, if_pos (by decide), w32_s f6]
        refine okc_q (ls := [some (mR (some 80)), some (mI (i : Int)), some (mI ((f + 1 : Nat) : Int)), none, none, none]) (by repeat (first | exact lq_nil | refine lq_cons (Or.inr rfl) ?_ | refine lq_cons (Or.inl rfl) ?_)) ?_
        rw [e486_122]
        simp only [Option.getD_some, Option.bind_some, Option.toList_some, Option.toList_none, List.cons_append, List.nil_append, and_self, and_true, true_and, false_and, and_false, ite_self, not_true_eq_false, not_false_eq_true, reduceIte, Nat.reduceEqDiff, ab_I, ab_L, ab_R, ao_I, ao_L, ao_R, gL_sL, gI_sI, gR_sR, gI_sL, gI_sR, gL_sI, gL_sR, gR_sI, gR_sL, g_123, i1.1, i1.2, Int.toNat_natCast, g123 τ' p2, nf]
        exact ih (m + 1) (f + 1) 0 P' τ' (by omega) (by omega) (by omega) (by omega) p1 p2 (by omega)
      · exact ih (m + 1) f (r + 1) P' τ' (by omega) (by omega) (by omega) e4 p1 p2 (by omega)
    rw [uK]
    by_cases r10 : r < 10
    · have n10 : ¬ 10 ≤ (r : Int) := by omega
      rw [if_pos r10]
      have t := T489 (σ := τ) bx by' hP (by omega)
      rw [vx, vy] at t
      rcases hV : covV P (sV A m) (sV S m) with _ | P'
      · rw [hV] at t
        obtain ⟨τ', e, q⟩ := t
        show okc _ (some (mI 0)) _
        rw [e486_134]
        simp only [e486_175, Option.getD_some, Option.bind_some, Option.toList_some, Option.toList_none, List.cons_append, List.nil_append, and_self, and_true, true_and, false_and, and_false, ite_self, not_true_eq_false, not_false_eq_true, reduceIte, Nat.reduceEqDiff, ab_I, ab_L, ab_R, ao_I, ao_L, ao_R, gL_sL, gI_sI, gR_sR, gI_sL, gI_sR, gL_sI, gL_sR, gR_sI, gR_sL, n26, n10, L486w hi f5 e2 r7, L486v f5 e2 r7, e]
        exact okc_s (vq_t q hq)
      · rw [hV] at t
        obtain ⟨τ', e, q⟩ := t
        show okc _ (some (mI (bSo (covK A S (List.range' (m + 1) (j + 1)) P')))) _
        rw [e486_134]
        simp only [e486_175, Option.getD_some, Option.bind_some, Option.toList_some, Option.toList_none, List.cons_append, List.nil_append, and_self, and_true, true_and, false_and, and_false, ite_self, not_true_eq_false, not_false_eq_true, reduceIte, Nat.reduceEqDiff, ab_I, ab_L, ab_R, ao_I, ao_L, ao_R, gL_sL, gI_sI, gR_sR, gI_sL, gI_sR, gL_sI, gL_sR, gR_sI, gR_sL, n26, n10, L486w hi f5 e2 r7, L486v f5 e2 r7, e, oneI]
        exact nx P' τ' _ _ q.1 (vq_t q.2.1 hq) q.2.2
    · have n10 : 10 ≤ (r : Int) := by omega
      rw [if_neg r10]
      have t := T487 (σ := τ) bx by' hP (by omega) (by rw [vx]; exact fun z => unk_r ca z) (by rw [vy]; exact fun z => unk_r cs z)
      rw [vx, vy] at t
      rcases hV : covP P (sV A m) (sV S m) with _ | P'
      · rw [hV] at t
        obtain ⟨τ', e, q⟩ := t
        show okc _ (some (mI 0)) _
        rw [e486_134]
        simp only [e486_189, Option.getD_some, Option.bind_some, Option.toList_some, Option.toList_none, List.cons_append, List.nil_append, and_self, and_true, true_and, false_and, and_false, ite_self, not_true_eq_false, not_false_eq_true, reduceIte, Nat.reduceEqDiff, ab_I, ab_L, ab_R, ao_I, ao_L, ao_R, gL_sL, gI_sI, gR_sR, gI_sL, gI_sR, gL_sI, gL_sR, gR_sI, gR_sL, n26, n10, L486w hi f5 e2 r7, L486v f5 e2 r7, e]
        exact okc_s (vq_t q hq)
      · rw [hV] at t
        obtain ⟨τ', e, q⟩ := t
        show okc _ (some (mI (bSo (covK A S (List.range' (m + 1) (j + 1)) P')))) _
        rw [e486_134]
        simp only [e486_189, Option.getD_some, Option.bind_some, Option.toList_some, Option.toList_none, List.cons_append, List.nil_append, and_self, and_true, true_and, false_and, and_false, ite_self, not_true_eq_false, not_false_eq_true, reduceIte, Nat.reduceEqDiff, ab_I, ab_L, ab_R, ao_I, ao_L, ao_R, gL_sL, gI_sI, gR_sR, gI_sL, gI_sR, gL_sI, gL_sR, gR_sI, gR_sL, n26, n10, L486w hi f5 e2 r7, L486v f5 e2 r7, e, oneI]
        exact nx P' τ' _ _ q.1 (vq_t q.2.1 hq) q.2.2
/-- what is held, one by one, then the VALUES -/
def covR (A S : ST) (L1 L2 : List Int) (P : PR) : Bool := match covH L1 L2 P with
  | some P => (covK A S (List.range (26 * sF A)) P).isSome
  | none => false
theorem L486h (hi : i < 252) (hF : sF A = sF S ∧ 1 ≤ sF A ∧ sF A ≤ 4) (hH : (sH A).length = (sH S).length ∧ (sH A).length ≤ 64) (jA : JSt σ i A) (jS : J0 σ S) (cA : canS A) (cS : canS S) : ∀ (L1 L2 : List Int) (m : Nat) (P : PR) (τ : MS), L1.length = L2.length → (sH A).length = m + L1.length → (∀ k, k < L1.length → L1.getD k 0 = (sH A).getD (m + k) 0 ∧ L2.getD k 0 = (sH S).getD (m + k) 0) → PRs τ P → vq τ σ → P.length ≤ m → okc (RR (lkB tb486) (B486_78, [some (mR (some 80)), some (mI (i : Int)), some (mI (m : Int)), none, none, none], [], τ)) (some (mI (b2 (covR A S L1 L2 P = true)))) (fun τ' => vq τ' σ) := by
  intro L1
  have i1 : 0 ≤ (i : Int) ∧ (i : Int) < 314 := by omega
  induction L1 with
  | nil =>
    intro L2 m P τ e1 e2 e3 hP hq hl
    have l2 : L2 = [] := List.length_eq_zero_iff.mp e1.symm
    subst l2
    have g125 : gI τ 125 i = ((sH A).length : Int) := (vq_I hq (by omega)).trans jA.2.2.2.1
    have g123 : gI τ 123 i = (sF A : Int) := (vq_I hq (by omega)).trans jA.1
    have le : ((sH A).length : Int) ≤ (m : Int) := by
      have e2 : (sH A).length = m + 0 := e2
      omega
    have nF : ¬ (sF A : Int) ≤ 0 := by omega
    have t := L486 hi hF jA jS cA cS (26 * sF A - 1) 0 0 0 P τ (by omega) rfl (by omega) (by omega) hP hq (by
      have e2 : (sH A).length = m + 0 := e2
      omega)
    rw [show 26 * sF A - 1 + 1 = 26 * sF A by omega, ← List.range_eq_range'] at t
    rw [e486_78]
    simp only [e486_122, Option.getD_some, Option.bind_some, Option.toList_some, Option.toList_none, List.cons_append, List.nil_append, and_self, and_true, true_and, false_and, and_false, ite_self, not_true_eq_false, not_false_eq_true, reduceIte, Nat.reduceEqDiff, ab_I, ab_L, ab_R, ao_I, ao_L, ao_R, gL_sL, gI_sI, gR_sR, gI_sL, gI_sR, gL_sI, gL_sR, gR_sI, gR_sL, g_125, g_123, i1.1, i1.2, Int.toNat_natCast, g125, g123, le, nF]
    exact t
  | cons a L1 ih =>
    intro L2 m P τ e1 e2 e3 hP hq hl
    rcases L2 with _ | ⟨b, L2⟩
    · cases e1
    · have e1 : L1.length = L2.length := Nat.succ.inj e1
      have e2 : (sH A).length = m + (L1.length + 1) := e2
      have h0 := e3 0 (Nat.succ_pos _)
      have ha : (sH A).getD m 0 = a := h0.1.symm
      have hb : (sH S).getD m 0 = b := h0.2.symm
      have lm : m < (sH A).length := by omega
      have g125 : gI τ 125 i = ((sH A).length : Int) := (vq_I hq (by omega)).trans jA.2.2.2.1
      have ga : gI τ 126 (64 * i + m) = a := by
        rw [vq_I hq (by omega), jA.2.2.2.2 m lm, ha]
      have gb : gI τ 126 m = b := by
        have := jS.2.2.2.2 m (by omega)
        rw [show 64 * 0 + m = m by omega] at this
        rw [vq_I hq (by omega), this, hb]
      have nl : ¬ ((sH A).length : Int) ≤ (m : Int) := by omega
      have m6 : m < 64 := by omega
      have m7 : m < 100000 := by omega
      have b1 : 0 ≤ ((64 * i + m : Nat) : Int) ∧ ((64 * i + m : Nat) : Int) < 20096 := by omega
      have b0 : 0 ≤ (m : Int) ∧ (m : Int) < 20096 := by omega
      have t := T485 (a := a) (b := b) hP (by omega)
      have e4 : ∀ k, k < L1.length → L1.getD k 0 = (sH A).getD (m + 1 + k) 0 ∧ L2.getD k 0 = (sH S).getD (m + 1 + k) 0 := fun k hk => by
        have := e3 (k + 1) (Nat.succ_lt_succ hk)
        rwa [show m + (k + 1) = m + 1 + k by omega] at this
      rcases hA : answ P a b with _ | P'
      · rw [hA] at t
        obtain ⟨τ', e, q⟩ := t
        have uc : covR A S (a :: L1) (b :: L2) P = false := by
          show (match (match answ P a b with | some P' => covH L1 L2 P' | none => none) with
            | some P => (covK A S (List.range (26 * sF A)) P).isSome
            | none => false) = false
          rw [hA]
        rw [uc, b2_no (p := false = true) (by decide), e486_78]
        simp only [e486_109, Option.getD_some, Option.bind_some, Option.toList_some, Option.toList_none, List.cons_append, List.nil_append, and_self, and_true, true_and, false_and, and_false, ite_self, not_true_eq_false, not_false_eq_true, reduceIte, Nat.reduceEqDiff, ab_I, ab_L, ab_R, ao_I, ao_L, ao_R, gL_sL, gI_sI, gR_sR, gI_sL, gI_sR, gL_sI, gL_sR, gR_sI, gR_sL, g_125, g_126, i1.1, i1.2, Int.toNat_natCast, g125, nl, L486u hi m6, b1.1, b1.2, b0.1, b0.2, ga, gb, e]
        exact okc_s (vq_t q hq)
      · rw [hA] at t
        obtain ⟨τ', e, q⟩ := t
        have uc : covR A S (a :: L1) (b :: L2) P = covR A S L1 L2 P' := by
          show (match (match answ P a b with | some P' => covH L1 L2 P' | none => none) with
            | some P => (covK A S (List.range (26 * sF A)) P).isSome
            | none => false) = _
          rw [hA]
          rfl
        rw [uc, e486_78]
        simp only [e486_109, Option.getD_some, Option.bind_some, Option.toList_some, Option.toList_none, List.cons_append, List.nil_append, and_self, and_true, true_and, false_and, and_false, ite_self, not_true_eq_false, not_false_eq_true, reduceIte, Nat.reduceEqDiff, ab_I, ab_L, ab_R, ao_I, ao_L, ao_R, gL_sL, gI_sI, gR_sR, gI_sL, gI_sR, gL_sI, gL_sR, gR_sI, gR_sL, g_125, g_126, i1.1, i1.2, Int.toNat_natCast, g125, nl, L486u hi m6, b1.1, b1.2, b0.1, b0.2, ga, gb, e, oneI, w32_s m7]
        exact ih L2 (m + 1) P' τ' e1 (by omega) e4 q.1 (vq_t q.2.1 hq) (by have := q.2.2; omega)
theorem T486 (hi : i < 252) (hF : (1 ≤ sF A ∧ sF A ≤ 4) ∧ 1 ≤ sF S ∧ sF S ≤ 4) (hH : (sH A).length ≤ 64) (jA : JSt σ i A) (jS : J0 σ S) (cA : canS A) (cS : canS S) : okc (MM 486 [mR (some 80), mI (i : Int)] σ) (some (mI (b2 (covS A S = true)))) (fun τ => vq τ σ) := by
  have i1 : 0 ≤ (i : Int) ∧ (i : Int) < 314 := by omega
  have z0 : (0 : Int).toNat = 0 := rfl
  have a3 := jA.1
  have a5 := jA.2.2.2.1
  have s3 := jS.1
  have s5 := jS.2.2.2.1
  by_cases c1 : sF A = sF S
  · by_cases c2 : (sH A).length = (sH S).length
    · have k1 : ((sF A : Nat) : Int) = (sF S : Int) := by omega
      have k2 : (((sH A).length : Nat) : Int) = ((sH S).length : Int) := by omega
      have s34 : MM 486 [mR (some 80), mI (i : Int)] σ = RR (lkB tb486) (B486_34, [some (mR (some 80)), some (mI (i : Int)), some (mI ((1 : Nat) : Int)), none, none, none], [], σ) := by
        simp only [M486, e486_0, Option.getD_some, Option.bind_some, Option.toList_some, Option.toList_none, List.cons_append, List.nil_append, and_self, and_true, true_and, false_and, and_false, ite_self, not_true_eq_false, not_false_eq_true, reduceIte, Nat.reduceEqDiff, ab_I, ab_L, ab_R, ao_I, ao_L, ao_R, gL_sL, gI_sI, gR_sR, gI_sL, gI_sR, gL_sI, gL_sR, gR_sI, gR_sL, g_123, g_125, i1.1, i1.2, Int.reduceLT, Int.reduceLE, Int.toNat_natCast, z0, a3, s3, a5, s5, k1, k2]
        rfl
      rw [s34]
      -- where FUNCTIONS go back
      have key : ∀ (j f : Nat), 1 ≤ f → sF A = f + j → (∀ g, 1 ≤ g → g < f → sB A g = sB S g) → okc (RR (lkB tb486) (B486_34, [some (mR (some 80)), some (mI (i : Int)), some (mI (f : Int)), none, none, none], [], σ)) (some (mI (b2 (covS A S = true)))) (fun τ => vq τ σ) := by
        intro j
        induction j with
        | zero =>
          intro f f1 e hb
          have le : (sF A : Int) ≤ (f : Int) := by omega
          have uc : covS A S = covR A S (sH A) (sH S) [] := by
            have u1 : decide (sF A = sF S ∧ (sH A).length = (sH S).length) = true := decide_eq_true ⟨c1, c2⟩
            have u2 : ((List.range (sF A)).all fun f => decide (f = 0 ∨ sB A f = sB S f)) = true := by
              rw [List.all_eq_true]
              intro g hg
              have hg := List.mem_range.mp hg
              refine decide_eq_true ?_
              by_cases g0 : g = 0
              · exact Or.inl g0
              · exact Or.inr (hb g (by omega) (by omega))
            unfold covS
            rw [u1, u2]
            rfl
          have hq : vq (sI σ 80 101 0) σ := ⟨fun k s p _ _ => by rw [gI_sI, if_neg p], fun _ _ => rfl, rfl⟩
          have hP : PRs (sI σ 80 101 0) [] := ⟨by rw [gI_sI, if_pos ⟨rfl, rfl⟩]; rfl, fun j hj => absurd hj (Nat.not_lt_zero _)⟩
          have t := L486h hi ⟨c1, hF.1⟩ ⟨c2, hH⟩ jA jS cA cS (sH A) (sH S) 0 [] (sI σ 80 101 0) c2 (by omega) (fun k _ => by rw [Nat.zero_add]; exact ⟨rfl, rfl⟩) hP hq (Nat.le_refl _)
          rw [uc, e486_34]
          simp only [Option.getD_some, Option.bind_some, Option.toList_some, Option.toList_none, List.cons_append, List.nil_append, and_self, and_true, true_and, false_and, and_false, ite_self, not_true_eq_false, not_false_eq_true, reduceIte, Nat.reduceEqDiff, ab_I, ab_L, ab_R, ao_I, ao_L, ao_R, gL_sL, gI_sI, gR_sR, gI_sL, gI_sR, gL_sI, gL_sR, gR_sI, gR_sL, g_123, i1.1, i1.2, Int.toNat_natCast, a3, le]
          exact t
        | succ j ih =>
          intro f f1 e hb
          have nl : ¬ (sF A : Int) ≤ (f : Int) := by omega
          have f5 : f < 5 := by omega
          have f6 : f < 100000 := by omega
          have b1 : 0 ≤ ((4 * i + f : Nat) : Int) ∧ ((4 * i + f : Nat) : Int) < 1256 := by omega
          have b0 : 0 ≤ (f : Int) ∧ (f : Int) < 1256 := by omega
          have ga : gI σ 124 (4 * i + f) = sB A f := jA.2.2.1 f f1 (by omega)
          have gb : gI σ 124 f = sB S f := by
            have := jS.2.2.1 f f1 (by omega)
            rwa [show 4 * 0 + f = f by omega] at this
          rw [e486_34]
          by_cases q : sB A f = sB S f
          · simp only [Option.getD_some, Option.bind_some, Option.toList_some, Option.toList_none, List.cons_append, List.nil_append, and_self, and_true, true_and, false_and, and_false, ite_self, not_true_eq_false, not_false_eq_true, reduceIte, Nat.reduceEqDiff, ab_I, ab_L, ab_R, ao_I, ao_L, ao_R, gL_sL, gI_sI, gR_sR, gI_sL, gI_sR, gL_sI, gL_sR, gR_sI, gR_sL, g_123, g_124, i1.1, i1.2, Int.toNat_natCast, a3, nl, L486t hi f5, b1.1, b1.2, b0.1, b0.2, ga, gb, eq_true q, w32_s f6]
            refine ih (f + 1) (by omega) (by omega) fun g g1 g2 => ?_
            by_cases z : g = f
            · rw [z]; exact q
            · exact hb g g1 (by omega)
          · have uc : covS A S = false := by
              have u2 : ((List.range (sF A)).all fun f => decide (f = 0 ∨ sB A f = sB S f)) = false := by
                rw [List.all_eq_false]
                refine ⟨f, List.mem_range.mpr (by omega), ?_⟩
                rw [decide_eq_true_eq]
                exact fun z => z.elim (fun y => by omega) q
              unfold covS
              rw [u2, Bool.and_false, Bool.false_and]
            rw [uc, b2_no (p := false = true) (by decide)]
            simp only [Option.getD_some, Option.bind_some, Option.toList_some, Option.toList_none, List.cons_append, List.nil_append, and_self, and_true, true_and, false_and, and_false, ite_self, not_true_eq_false, not_false_eq_true, reduceIte, Nat.reduceEqDiff, ab_I, ab_L, ab_R, ao_I, ao_L, ao_R, gL_sL, gI_sI, gR_sR, gI_sL, gI_sR, gL_sI, gL_sR, gR_sI, gR_sL, g_123, g_124, i1.1, i1.2, Int.toNat_natCast, a3, nl, L486t hi f5, b1.1, b1.2, b0.1, b0.2, ga, gb, q]
            exact okc_s (vq_r _)
      exact key (sF A - 1) 1 (Nat.le_refl _) (by omega) (fun g g1 g2 => by omega)
    · have uc : covS A S = false := by
        have u1 : decide (sF A = sF S ∧ (sH A).length = (sH S).length) = false := decide_eq_false (fun z => c2 z.2)
        unfold covS
        rw [u1, Bool.false_and, Bool.false_and]
      have k1 : ((sF A : Nat) : Int) = (sF S : Int) := by omega
      have k2 : ¬ (((sH A).length : Nat) : Int) = ((sH S).length : Int) := by omega
      rw [uc, b2_no (p := false = true) (by decide)]
      simp only [M486, e486_0, Option.getD_some, Option.bind_some, Option.toList_some, Option.toList_none, List.cons_append, List.nil_append, and_self, and_true, true_and, false_and, and_false, ite_self, not_true_eq_false, not_false_eq_true, reduceIte, Nat.reduceEqDiff, ab_I, ab_L, ab_R, ao_I, ao_L, ao_R, gL_sL, gI_sI, gR_sR, gI_sL, gI_sR, gL_sI, gL_sR, gR_sI, gR_sL, g_123, g_125, i1.1, i1.2, Int.reduceLT, Int.reduceLE, Int.toNat_natCast, z0, a3, s3, a5, s5, k1, k2]
      exact okc_s (vq_r _)
  · have uc : covS A S = false := by
      have u1 : decide (sF A = sF S ∧ (sH A).length = (sH S).length) = false := decide_eq_false (fun z => c1 z.1)
      unfold covS
      rw [u1, Bool.false_and, Bool.false_and]
    have k1 : ¬ ((sF A : Nat) : Int) = (sF S : Int) := by omega
    rw [uc, b2_no (p := false = true) (by decide)]
    simp only [M486, e486_0, Option.getD_some, Option.bind_some, Option.toList_some, Option.toList_none, List.cons_append, List.nil_append, and_self, and_true, true_and, false_and, and_false, ite_self, not_true_eq_false, not_false_eq_true, reduceIte, Nat.reduceEqDiff, ab_I, ab_L, ab_R, ao_I, ao_L, ao_R, gL_sL, gI_sI, gR_sR, gI_sL, gI_sR, gL_sI, gL_sR, gR_sI, gR_sL, g_123, i1.1, i1.2, Int.reduceLT, Int.reduceLE, Int.toNat_natCast, z0, a3, s3, k1]
    exact okc_s (vq_r _)
end COV
