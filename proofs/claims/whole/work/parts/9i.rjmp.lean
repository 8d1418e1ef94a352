/-! ===== the reference's runs: jumps, comparisons, FUNCTION, EXIT ===== -/
section RJMP
variable {σ τ ρ : MS} {c c' : TC WR} {v : SV} {w x A a : B64} {r f b k n o s F : Nat} {i g y : Int}
theorem w32_g (h : 0 ≤ y ∧ y < 1000) : w32 y = y := w32_i (by omega) (by omega)
/-- a jump -/
theorem jp_R (hi : 0 ≤ i ∧ i < 1000) (hg : 0 ≤ goal i w ∧ goal i w < 1000) (h56 : fOp w = 5 ∨ fOp w = 6) : MM 559 [mR (some 80), mL w, mI (fOp w), mI i] σ = some (none, sI σ 80 123 (goal i w)) := by
  have t := T477 (σ := σ) (w := w) hi
  rw [w32_g hg] at t
  rcases h56 with e | e
  · simp only [M559, e559_0, e559_6, e559_19, Option.getD_some, Option.bind_some, Option.toList_some, Option.toList_none, List.cons_append, List.nil_append, and_self, and_true, true_and, false_and, and_false, ite_self, not_true_eq_false, not_false_eq_true, reduceIte, Nat.reduceEqDiff, ab_I, ab_L, ab_R, ao_I, ao_L, ao_R, gL_sL, gI_sI, gR_sR, gI_sL, gI_sR, gL_sI, gL_sR, gR_sI, gR_sL, t, eq_true e, if_true]
  · have e5 : ¬ fOp w = 5 := by omega
    simp only [M559, e559_0, e559_6, e559_19, Option.getD_some, Option.bind_some, Option.toList_some, Option.toList_none, List.cons_append, List.nil_append, and_self, and_true, true_and, false_and, and_false, ite_self, not_true_eq_false, not_false_eq_true, reduceIte, Nat.reduceEqDiff, ab_I, ab_L, ab_R, ao_I, ao_L, ao_R, gL_sL, gI_sI, gR_sR, gI_sL, gI_sR, gL_sI, gL_sR, gR_sI, gR_sL, t, eq_false e5, e, if_false, not_true_eq_false]
/-- a comparison -/
theorem cm_R (h : RelR σ c) (hi : 0 ≤ i ∧ i < 1000) (hg : 0 ≤ goal i w ∧ goal i w < 1000) (l56 : fL w = 5 ∨ fL w = 6) (nj : ¬ fOp w = 5 ∧ ¬ fOp w = 6 ∧ ¬ fOp w = 149 ∧ ¬ fOp w = 133) (hc : isCmp (fC w)) (hd : fD w ≤ 10) (hs : rgt w → fS w ≤ 10) : MM 559 [mR (some 80), mL w, mI (fOp w), mI i] σ = some (none, if cmpW (fC w) (decide (widJ w)) (gL σ 146 (rpR c (dR w))) (sdR σ c w) = true then sI σ 80 123 (goal i w) else σ) := by
  have fr := fld_rng w
  have t := T477 (σ := σ) (w := w) hi
  rw [w32_g hg] at t
  obtain ⟨n5, n6, n149, n133⟩ := nj
  have w7 : iAnd (fOp w) 7 = fL w := m7 w
  have w8' : iAnd (fOp w) 8 = fOp w / 8 % 2 * 8 := m8 w
  have w240 : iAnd (fOp w) 240 = fC w := mC w
  have eD : fD w = ((dR w : Nat) : Int) := by show fD w = ((fD w).toNat : Int); omega
  have eS : fS w = ((sRr w : Nat) : Int) := by show fS w = ((fS w).toNat : Int); omega
  have d10 : dR w ≤ 10 := by show (fD w).toNat ≤ 10; omega
  have F4 := (relF h).2
  have td := T550r h (r := dR w) (by omega)
  have t333 : MM 333 [mL w] σ = some (some (mI ((dR w : Nat) : Int)), σ) := by rw [T333, eD]
  have t334 : MM 334 [mL w] σ = some (some (mI ((sRr w : Nat) : Int)), σ) := by rw [T334, eS]
  have bD : 0 ≤ ((rpR c (dR w) : Nat) : Int) ∧ ((rpR c (dR w) : Nat) : Int) < 44 := by
    show 0 ≤ ((11 * (cN c - 1) + dR w : Nat) : Int) ∧ ((11 * (cN c - 1) + dR w : Nat) : Int) < 44
    omega
  obtain ⟨a, ha⟩ : ∃ a, a = gL σ 146 (rpR c (dR w)) := ⟨_, rfl⟩
  obtain ⟨b, hb⟩ : ∃ b, b = sdR σ c w := ⟨_, rfl⟩
  rw [← ha, ← hb]
  -- the width
  have s230 : MM 559 [mR (some 80), mL w, mI (fOp w), mI i] σ = RR (lkB tb559) (B559_230, [some (mR (some 80)), some (mL w), none, some (mI (fOp w)), some (mI i), some (mI (goal i w)), none, none, none, none, none, none], [mI (b2 (widJ w))], σ) := by
    by_cases wd : widJ w
    · rw [b2_yes wd]
      have wd' : fL w = 5 := wd
      simp only [M559, e559_0, e559_6, e559_189, Option.getD_some, Option.bind_some, Option.toList_some, Option.toList_none, List.cons_append, List.nil_append, and_self, and_true, true_and, false_and, and_false, ite_self, not_true_eq_false, not_false_eq_true, reduceIte, Nat.reduceEqDiff, ab_I, ab_L, ab_R, ao_I, ao_L, ao_R, gL_sL, gI_sI, gR_sR, gI_sL, gI_sR, gL_sI, gL_sR, gR_sI, gR_sL, t, eq_false n5, eq_false n6, eq_false n149, eq_false n133, w7, wd', if_false, not_false_eq_true, if_true, not_true_eq_false]
    · rw [b2_no wd]
      have wd' : ¬ fL w = 5 := wd
      simp only [M559, e559_0, e559_6, e559_189, Option.getD_some, Option.bind_some, Option.toList_some, Option.toList_none, List.cons_append, List.nil_append, and_self, and_true, true_and, false_and, and_false, ite_self, not_true_eq_false, not_false_eq_true, reduceIte, Nat.reduceEqDiff, ab_I, ab_L, ab_R, ao_I, ao_L, ao_R, gL_sL, gI_sI, gR_sR, gI_sL, gI_sR, gL_sI, gL_sR, gR_sI, gR_sL, t, eq_false n5, eq_false n6, eq_false n149, eq_false n133, w7, eq_false wd', if_false, not_false_eq_true, if_true]
  -- the other side
  have s275 : RR (lkB tb559) (B559_230, [some (mR (some 80)), some (mL w), none, some (mI (fOp w)), some (mI i), some (mI (goal i w)), none, none, none, none, none, none], [mI (b2 (widJ w))], σ) = RR (lkB tb559) (B559_275, [some (mR (some 80)), some (mL w), none, some (mI (fOp w)), some (mI i), some (mI (goal i w)), some (mI (b2 (widJ w))), some (mL a), none, none, none, none], [mL b], σ) := by
    rw [hb]
    unfold sdR
    by_cases r : rgt w
    · rw [if_pos r]
      have e8 : ¬ iAnd (fOp w) 8 = 0 := by rw [w8']; have r : fOp w / 8 % 2 = 1 := r; omega
      have s10 := hs r
      have ts := T550r h (r := sRr w) (by omega)
      have bS : 0 ≤ ((rpR c (sRr w) : Nat) : Int) ∧ ((rpR c (sRr w) : Nat) : Int) < 44 := by
        show 0 ≤ ((11 * (cN c - 1) + sRr w : Nat) : Int) ∧ ((11 * (cN c - 1) + sRr w : Nat) : Int) < 44
        omega
      simp only [e559_230, e559_241, e559_244, e559_263, e559_266, Option.getD_some, Option.bind_some, Option.toList_some, Option.toList_none, List.cons_append, List.nil_append, and_self, and_true, true_and, false_and, and_false, ite_self, not_true_eq_false, not_false_eq_true, reduceIte, Nat.reduceEqDiff, ab_I, ab_L, ab_R, ao_I, ao_L, ao_R, gL_sL, gI_sI, gR_sR, gI_sL, gI_sR, gL_sI, gL_sR, gR_sI, gR_sL, t333, td, g_146, bD.1, bD.2, bS.1, bS.2, Int.toNat_natCast, e8, t334, ts, ← ha, if_false]
    · rw [if_neg r]
      have e8 : iAnd (fOp w) 8 = 0 := by rw [w8']; have r : ¬ fOp w / 8 % 2 = 1 := r; omega
      simp only [e559_230, e559_241, e559_244, e559_274, Option.getD_some, Option.bind_some, Option.toList_some, Option.toList_none, List.cons_append, List.nil_append, and_self, and_true, true_and, false_and, and_false, ite_self, not_true_eq_false, not_false_eq_true, reduceIte, Nat.reduceEqDiff, ab_I, ab_L, ab_R, ao_I, ao_L, ao_R, gL_sL, gI_sI, gR_sR, gI_sL, gI_sR, gL_sI, gL_sR, gR_sI, gR_sL, t333, td, g_146, bD.1, bD.2, Int.toNat_natCast, e8, T336, ← ha, if_true]
  rw [s230, s275]
  clear s230 s275
  have fin : ∀ q : Bool, RR (lkB tb559) (B559_319, [some (mR (some 80)), some (mL w), none, some (mI (fOp w)), some (mI i), some (mI (goal i w)), some (mI (b2 (widJ w))), some (mL a), none, some (mL b), none, none], [mI (if q = true then 1 else 0)], σ) = some (none, if q = true then sI σ 80 123 (goal i w) else σ) := fun q => by
    cases q with
    | true =>
      rw [if_pos rfl, if_pos rfl, e559_319, if_neg (by decide), e559_336]
    | false =>
      rw [if_neg (by decide), if_neg (by decide), e559_319, if_pos rfl, e559_336, sI_eta]
  by_cases wd : widJ w
  · have t9 := T429w (σ := σ) (a := a) (b := b) hc
    have z := fin (cmpB (fC w) true a b)
    rw [b2_yes wd] at z ⊢
    unfold cmpW
    rw [decide_eq_true wd, if_pos rfl, e559_275, if_neg (by decide), w240, t9]
    simp only [Option.getD_some, Option.bind_some, Option.toList_some, Option.toList_none, List.cons_append, List.nil_append, and_self, and_true, true_and, false_and, and_false, ite_self, not_true_eq_false, not_false_eq_true, reduceIte, Nat.reduceEqDiff, ab_I, ab_L, ab_R, ao_I, ao_L, ao_R, gL_sL, gI_sI, gR_sR, gI_sL, gI_sR, gL_sI, gL_sR, gR_sI, gR_sL, e559_295]
    exact z
  · have t9 := T429n (σ := σ) (a := a &&& cF) (b := b &&& cF) hc
    have z := fin (cmpB (fC w) false (a &&& cF) (b &&& cF))
    rw [b2_no wd] at z ⊢
    unfold cmpW
    have lF : iL 4294967295 = cF := rfl
    rw [decide_eq_false wd, if_neg (show ¬ (false = true) by decide), e559_275, if_pos rfl, w240, lF, t9]
    simp only [Option.getD_some, Option.bind_some, Option.toList_some, Option.toList_none, List.cons_append, List.nil_append, and_self, and_true, true_and, false_and, and_false, ite_self, not_true_eq_false, not_false_eq_true, reduceIte, Nat.reduceEqDiff, ab_I, ab_L, ab_R, ao_I, ao_L, ao_R, gL_sL, gI_sI, gR_sR, gI_sL, gI_sR, gL_sI, gL_sR, gR_sI, gR_sL]
    exact z
/-! FUNCTION -/
theorem L559 (hF : F + 1 < 4) : ∀ (f r : Nat) (ρ : MS), r + f = 6 → 1 ≤ r → gI ρ 80 117 = ((F + 1 : Nat) : Int) → okc (RR (lkB tb559) (B559_143, [some (mR (some 80)), some (mL w), none, some (mI y), some (mI i), some (mI g), some (mI (r : Int)), none, none, none, none, none], [], ρ)) none (fun τ => τ.1 = (sI ρ 80 123 g).1 ∧ τ.2.2 = ρ.2.2 ∧ ∀ k s, gL τ k s = if k = 146 ∧ 11 * (F + 1) + r ≤ s ∧ s ≤ 11 * (F + 1) + 5 then gL ρ 146 (s - 11) else gL ρ k s) := by
  intro f
  induction f with
  | zero =>
    intro r ρ e h1 h
    have e : r = 6 := by omega
    subst e
    rw [e559_143, if_pos (by decide)]
    refine okc_s ⟨rfl, rfl, fun k s => ?_⟩
    rw [if_neg (by omega)]
    rfl
  | succ f ih =>
    intro r ρ e h1 h
    have t := T550 (r := r) h hF (by omega)
    have b0 : 0 ≤ ((11 * (F + 1) + r : Nat) : Int) ∧ ((11 * (F + 1) + r : Nat) : Int) < 44 := by omega
    have ww : w32 ((r : Int) + 1) = ((r + 1 : Nat) : Int) := w32_s (by omega)
    have w11 : w32 (((11 * (F + 1) + r : Nat) : Int) - 11) = ((11 * F + r : Nat) : Int) := by
      rw [w32_i (by omega) (by omega)]
      omega
    have b1 : 0 ≤ ((11 * F + r : Nat) : Int) ∧ ((11 * F + r : Nat) : Int) < 44 := by omega
    obtain ⟨τ, t2, q1, q2, q3⟩ := ih (r + 1) (sL ρ 146 (11 * (F + 1) + r) (gL ρ 146 (11 * F + r))) (by omega) (by omega) h
    refine okc_o (τ := τ) ?_ ⟨q1, q2, fun k s => ?_⟩
    · rw [e559_143, if_neg (by omega)]
      simp only [e559_159, e559_169, Option.getD_some, Option.bind_some, Option.toList_some, Option.toList_none, List.cons_append, List.nil_append, and_self, and_true, true_and, false_and, and_false, ite_self, not_true_eq_false, not_false_eq_true, reduceIte, Nat.reduceEqDiff, ab_I, ab_L, ab_R, ao_I, ao_L, ao_R, gL_sL, gI_sI, gR_sR, gI_sL, gI_sR, gL_sI, gL_sR, gR_sI, gR_sL, t, g_146, w11, b0.1, b0.2, b1.1, b1.2, Int.toNat_natCast, ww]
      exact t2
    · rw [q3]
      by_cases z : k = 146 ∧ 11 * (F + 1) + r ≤ s ∧ s ≤ 11 * (F + 1) + 5
      · rw [if_pos z]
        by_cases e2 : s = 11 * (F + 1) + r
        · rw [if_neg (by omega), gL_sL, if_pos ⟨z.1, e2⟩]
          exact congrArg _ (by omega)
        · rw [if_pos (by omega), gL_sL, if_neg (by omega)]
      · rw [if_neg z, if_neg (by omega), gL_sL, if_neg (by omega)]
theorem en_R (h : RelR σ c) (hi : 0 ≤ i ∧ i < 1000) (hg : 0 ≤ goal i w ∧ goal i w < 1000) (h133 : fOp w = 133) (hs : fS w = 1) (n4 : ¬ cN c = 4) : ∃ τ, MM 559 [mR (some 80), mL w, mI (fOp w), mI i] σ = some (none, τ) ∧ RelR τ (enT c (goal i w) (gI σ 80 123)) ∧ mvR σ τ ∧ gI τ 80 123 = goal i w ∧ ∀ s, ¬ s = 123 → ¬ s = 117 → gI τ 80 s = gI σ 80 s := by
  have t := T477 (σ := σ) (w := w) hi
  rw [w32_g hg] at t
  have t334 : MM 334 [mL w] σ = some (some (mI 1), σ) := by rw [T334, hs]
  obtain ⟨⟨⟨a1, a2⟩, a3⟩, ⟨b1, b2⟩, d, e', ⟨g1, g2, g3⟩⟩ := h
  obtain ⟨F, hF⟩ : ∃ F, F = cN c - 1 := ⟨_, rfl⟩
  have gF : gI σ 80 117 = (F : Int) := by omega
  have bF : 0 ≤ (F : Int) ∧ (F : Int) < 4 := by omega
  obtain ⟨υ, hυ⟩ : ∃ υ, υ = sI (sI σ 148 F (gI σ 80 123)) 80 117 ((F + 1 : Nat) : Int) := ⟨_, rfl⟩
  have g117 : gI υ 80 117 = ((F + 1 : Nat) : Int) := by rw [hυ, gI_sI, if_pos ⟨rfl, rfl⟩]
  have t5 := T552 g117 (by omega)
  have ww : w32 ((F : Int) + 1) = ((F + 1 : Nat) : Int) := w32_s (by omega)
  have key : okc (MM 559 [mR (some 80), mL w, mI (fOp w), mI i] σ) none (fun τ => ∃ ρ : MS, ((∀ s, ¬ (11 * (F + 1) ≤ s ∧ s ≤ 11 * (F + 1) + 10) → gL ρ 146 s = gL υ 146 s) ∧ (∀ k s, ¬ k = 146 → gL ρ k s = gL υ k s) ∧ ρ.1 = υ.1 ∧ ρ.2.2 = υ.2.2 ∧ gL ρ 146 (11 * (F + 1) + 10) = enR (F + 1 + 2, 128#64)) ∧ (τ.1 = (sI ρ 80 123 (goal i w)).1 ∧ τ.2.2 = ρ.2.2 ∧ ∀ k s, gL τ k s = if k = 146 ∧ 11 * (F + 1) + 1 ≤ s ∧ s ≤ 11 * (F + 1) + 5 then gL ρ 146 (s - 11) else gL ρ k s)) := by
    have c5 : ¬ fOp w = 5 := by omega
    have c6 : ¬ fOp w = 6 := by omega
    have c9 : ¬ fOp w = 149 := by omega
    simp only [M559, e559_0, e559_6, e559_109, Option.getD_some, Option.bind_some, Option.toList_some, Option.toList_none, List.cons_append, List.nil_append, and_self, and_true, true_and, false_and, and_false, ite_self, not_true_eq_false, not_false_eq_true, reduceIte, Nat.reduceEqDiff, ab_I, ab_L, ab_R, ao_I, ao_L, ao_R, gL_sL, gI_sI, gR_sR, gI_sL, gI_sR, gL_sI, gL_sR, gR_sI, gR_sL, t, eq_false c5, eq_false c6, eq_false c9, eq_true h133, if_false, if_true, not_false_eq_true, not_true_eq_false, t334, gF, g_148, bF.1, bF.2, Int.toNat_natCast]
    rw [ww, ← hυ]
    refine okc_b t5 fun ρ q => ?_
    simp only [Option.getD_some, Option.bind_some, Option.toList_some, Option.toList_none, List.cons_append, List.nil_append, and_self, and_true, true_and, false_and, and_false, ite_self, not_true_eq_false, not_false_eq_true, reduceIte, Nat.reduceEqDiff, ab_I, ab_L, ab_R, ao_I, ao_L, ao_R, gL_sL, gI_sI, gR_sR, gI_sL, gI_sR, gL_sI, gL_sR, gR_sI, gR_sL, e559_140]
    have g17 : gI ρ 80 117 = ((F + 1 : Nat) : Int) := by
      unfold gI
      rw [q.2.2.1]
      exact g117
    exact okc_m (L559 (by omega) 5 1 ρ rfl (Nat.le_refl _) g17) fun τ z => ⟨ρ, q, z⟩
  obtain ⟨τ, t6, ρ, ⟨p1, p2, p3, p4, p5⟩, q1, q2, q3⟩ := key
  have gi : ∀ k s, gI τ k s = if k = 80 ∧ s = 123 then goal i w else if k = 80 ∧ s = 117 then ((F + 1 : Nat) : Int) else if k = 148 ∧ s = F then gI σ 80 123 else gI σ k s := fun k s => by
    have z : gI τ k s = gI (sI ρ 80 123 (goal i w)) k s := by unfold gI; rw [q1]
    have z2 : gI ρ k s = gI υ k s := by unfold gI; rw [p3]
    rw [z, gI_sI, z2, hυ, gI_sI, gI_sI]
  have gl : ∀ k s, ¬ (k = 146 ∧ 11 * (F + 1) ≤ s ∧ s ≤ 11 * (F + 1) + 10) → gL τ k s = gL σ k s := fun k s z => by
    rw [q3, if_neg (by omega)]
    have u : gL υ k s = gL σ k s := by rw [hυ]; rfl
    by_cases k6 : k = 146
    · subst k6
      rw [p1 s (by omega), u]
    · rw [p2 _ _ k6, u]
  refine ⟨τ, t6, ⟨⟨⟨?_, ?_⟩, ?_⟩, ⟨fun f r hf hr => ?_, fun f hf => ?_⟩, fun f b hf hb => ?_, fun f f1 f2 => ?_, ⟨fun k s p => ?_, ?_, ?_⟩⟩, ⟨fun k s z => ?_, fun k s z _ => gl k s (by omega), ?_⟩, ?_, fun s z1 z2 => ?_⟩
  · show 1 ≤ cN c + 1
    omega
  · show cN c + 1 ≤ 4
    omega
  · show gI τ 80 117 = ((cN c + 1 : Nat) : Int) - 1
    rw [gi, if_neg (by omega), if_pos ⟨rfl, rfl⟩]
    omega
  · have hf : f < cN c + 1 := hf
    show vlR τ (11 * f + r) (if f = cN c then (if 1 ≤ r ∧ r ≤ 5 then cR c (cN c - 1) r else nilR) else cR c f r)
    by_cases ef : f = cN c
    · rw [if_pos ef]
      by_cases r5 : 1 ≤ r ∧ r ≤ 5
      · rw [if_pos r5]
        have q := b1 (cN c - 1) r (by omega) hr
        refine ⟨q.1, fun z => ?_⟩
        rw [q3, if_pos ⟨rfl, by omega, by omega⟩, p1 _ (by omega)]
        have u : ∀ s, gL υ 146 s = gL σ 146 s := fun s => by rw [hυ]; rfl
        rw [u]
        have := q.2 z
        rwa [show 11 * f + r - 11 = 11 * (cN c - 1) + r by omega]
      · rw [if_neg r5]
        exact ⟨okSV_n, fun z => absurd (show nilR.1 = 6 from rfl) z⟩
    · rw [if_neg ef]
      have q := b1 f r (by omega) hr
      exact ⟨q.1, fun z => (gl _ _ (by omega)).trans (q.2 z)⟩
  · have hf : f < cN c + 1 := hf
    by_cases ef : f = cN c
    · rw [q3, if_neg (by omega), show 11 * f + 10 = 11 * (F + 1) + 10 by omega, p5, show F + 1 + 2 = f + 2 by omega]
    · rw [gl _ _ (by omega)]
      exact b2 f (by omega)
  · show mbR _ (if f = cN c then (0, 0, 0#64) else cS c f b)
    rw [gi, if_neg (by omega), if_neg (by omega), if_neg (by omega)]
    by_cases ef : f = cN c
    · rw [if_pos ef]
      exact ⟨fun z => absurd z (show ¬ (0 : Nat) = 1 by decide), fun z => absurd z (show ¬ 2 ≤ (0 : Nat) by decide)⟩
    · rw [if_neg ef]
      exact d f b hf hb
  · have f2 : f < cN c + 1 := f2
    show gI τ 148 (f - 1) = (if f = cN c then gI σ 80 123 else cB c f)
    rw [gi, if_neg (by omega), if_neg (by omega)]
    by_cases ef : f = cN c
    · rw [if_pos ef, if_pos ⟨rfl, by omega⟩]
    · rw [if_neg ef, if_neg (by omega)]
      exact e' f f1 (by omega)
  · rw [gi, if_neg (by omega), if_neg (by omega), if_neg (by omega)]
    exact g1 k s p
  · rw [gl _ _ (by omega)]
    exact g2
  · rw [gl _ _ (by omega)]
    exact g3
  · rw [gi, if_neg (by omega), if_neg (by omega), if_neg (by omega)]
  · rw [q2, p4, hυ]
    rfl
  · rw [gi, if_pos ⟨rfl, rfl⟩]
  · rw [gi, if_neg (by omega), if_neg (by omega), if_neg (by omega)]
/-! EXIT -/
theorem ex_R (h : RelR σ c) (hi : 0 ≤ i ∧ i < 1000) (h149 : fOp w = 149) (e : exT c = some (k, c')) : ∃ τ, MM 559 [mR (some 80), mL w, mI (fOp w), mI i] σ = some (none, τ) ∧ RelR τ c' ∧ mvR σ τ ∧ ((k = 0 ∧ gI τ 80 123 = cP c' ∧ gI τ 80 124 = gI σ 80 124) ∨ (k = 1 ∧ gI τ 80 124 = 0 ∧ c' = c ∧ gL τ 146 0 = (rdR c 0).2)) ∧ ∀ s, ¬ s = 123 → ¬ s = 117 → ¬ s = 124 → gI τ 80 s = gI σ 80 s := by
  have t := T477 (σ := σ) (w := w) hi
  have h' := h
  obtain ⟨⟨⟨a1, a2⟩, a3⟩, ⟨b1, b2⟩, d, e', ⟨g1, g2, g3⟩⟩ := h'
  have c5 : ¬ fOp w = 5 := by omega
  have c6 : ¬ fOp w = 6 := by omega
  unfold exT at e
  by_cases n0 : ¬ (rdR c 0).1 = 0
  · rw [if_pos n0] at e
    cases e
  · rw [if_neg n0] at e
    have z0 : (rdR c 0).1 = 0 := Decidable.byContradiction n0
    obtain ⟨r0, _⟩ := rd_R h (r := 0) (by decide) (by omega)
    have r0 : gL σ 146 (rpR c 0) = (rdR c 0).2 := r0.trans (enG_z z0)
    by_cases f1 : cN c = 1
    · rw [if_pos f1] at e
      cases e
      have gz : gI σ 80 117 = 0 := by omega
      refine ⟨sI σ 80 124 0, ?_, RelR_i h (Or.inr (Or.inl rfl)), mvR_I (by omega), Or.inr ⟨rfl, ?_, rfl, ?_⟩, fun s _ _ z => ?_⟩
      · simp only [M559, e559_0, e559_6, Option.getD_some, Option.bind_some, Option.toList_some, Option.toList_none, List.cons_append, List.nil_append, and_self, and_true, true_and, false_and, and_false, ite_self, not_true_eq_false, not_false_eq_true, reduceIte, Nat.reduceEqDiff, ab_I, ab_L, ab_R, ao_I, ao_L, ao_R, gL_sL, gI_sI, gR_sR, gI_sL, gI_sR, gL_sI, gL_sR, gR_sI, gR_sL, t, eq_false c5, eq_false c6, eq_true h149, if_false, if_true, not_false_eq_true, not_true_eq_false, gz]
      · rw [gI_sI, if_pos ⟨rfl, rfl⟩]
      · rw [← r0]
        show gL σ 146 0 = gL σ 146 (11 * (cN c - 1) + 0)
        rw [f1]
      · rw [gI_sI, if_neg (by omega)]
    · rw [if_neg f1] at e
      obtain ⟨ek, ec⟩ := Prod.mk.inj (Option.some.inj e)
      have nz : ¬ gI σ 80 117 = 0 := by omega
      obtain ⟨F, hF⟩ : ∃ F, F = cN c - 2 := ⟨_, rfl⟩
      have gF : gI σ 80 117 = ((F + 1 : Nat) : Int) := by omega
      have t1 : MM 550 [mR (some 80), mI 0] σ = some (some (mI ((11 * (F + 1) + 0 : Nat) : Int)), σ) := T550 (r := 0) gF (by omega) (by decide)
      have ww : w32 (((F + 1 : Nat) : Int) - 1) = (F : Int) := by
        rw [w32_i (by omega) (by omega)]
        omega
      obtain ⟨υ, hυ⟩ : ∃ υ, υ = sI σ 80 117 (F : Int) := ⟨_, rfl⟩
      have gu : gI υ 80 117 = (F : Int) := by rw [hυ, gI_sI, if_pos ⟨rfl, rfl⟩]
      have t2 : MM 550 [mR (some 80), mI 0] υ = some (some (mI ((11 * F + 0 : Nat) : Int)), υ) := T550 (r := 0) gu (by omega) (by decide)
      have B1 : 0 ≤ ((11 * (F + 1) + 0 : Nat) : Int) ∧ ((11 * (F + 1) + 0 : Nat) : Int) < 44 := by omega
      have B2 : 0 ≤ ((11 * F + 0 : Nat) : Int) ∧ ((11 * F + 0 : Nat) : Int) < 44 := by omega
      have B3 : 0 ≤ (F : Int) ∧ (F : Int) < 4 := by omega
      have rr : gL σ 146 (11 * (F + 1) + 0) = (rdR c 0).2 := by
        rw [← r0]
        show _ = gL σ 146 (11 * (cN c - 1) + 0)
        rw [show F + 1 = cN c - 1 by omega]
      have bk : gI σ 148 F = cB c (cN c - 1) := by
        have := e' (cN c - 1) (by omega) (by omega)
        rwa [show cN c - 1 - 1 = F by omega] at this
      have gi : ∀ k s, gI (sI (sL υ 146 (11 * F + 0) (rdR c 0).2) 80 123 (cB c (cN c - 1))) k s = if k = 80 ∧ s = 123 then cB c (cN c - 1) else if k = 80 ∧ s = 117 then (F : Int) else gI σ k s := fun k s => by
        rw [gI_sI, gI_sL, hυ, gI_sI]
      have gl : ∀ k s, ¬ (k = 146 ∧ s = 11 * F + 0) → gL (sI (sL υ 146 (11 * F + 0) (rdR c 0).2) 80 123 (cB c (cN c - 1))) k s = gL σ k s := fun k s z => by
        rw [gL_sI, gL_sL, if_neg z, hυ]
        rfl
      refine ⟨sI (sL υ 146 (11 * F + 0) (rdR c 0).2) 80 123 (cB c (cN c - 1)), ?_, ?_, ⟨fun k s z => ?_, fun k s z _ => gl k s (by omega), by rw [hυ]; rfl⟩, Or.inl ⟨ek.symm, ?_, ?_⟩, fun s z1 z2 z3 => ?_⟩
      · have g17 : gI (sL υ 146 (11 * F + 0) (rdR c 0).2) 80 117 = (F : Int) := gu
        have g48 : gI (sL υ 146 (11 * F + 0) (rdR c 0).2) 148 F = cB c (cN c - 1) := by
          rw [← bk, gI_sL, hυ, gI_sI, if_neg (by omega)]
        simp only [M559, e559_0, e559_6, Option.getD_some, Option.bind_some, Option.toList_some, Option.toList_none, List.cons_append, List.nil_append, and_self, and_true, true_and, false_and, and_false, ite_self, not_true_eq_false, not_false_eq_true, reduceIte, Nat.reduceEqDiff, ab_I, ab_L, ab_R, ao_I, ao_L, ao_R, gL_sL, gI_sI, gR_sR, gI_sL, gI_sR, gL_sI, gL_sR, gR_sI, gR_sL, t, eq_false c5, eq_false c6, eq_true h149, if_false, if_true, not_false_eq_true, not_true_eq_false, eq_false nz, t1]
        rw [e559_57]
        simp only [Option.getD_some, Option.bind_some, Option.toList_some, Option.toList_none, List.cons_append, List.nil_append, and_self, and_true, true_and, false_and, and_false, ite_self, not_true_eq_false, not_false_eq_true, reduceIte, Nat.reduceEqDiff, ab_I, ab_L, ab_R, ao_I, ao_L, ao_R, gL_sL, gI_sI, gR_sR, gI_sL, gI_sR, gL_sI, gL_sR, gR_sI, gR_sL, g_146, B1.1, B1.2, Int.toNat_natCast, gF, ww, rr, ← hυ, t2]
        rw [e559_79]
        simp only [Option.getD_some, Option.bind_some, Option.toList_some, Option.toList_none, List.cons_append, List.nil_append, and_self, and_true, true_and, false_and, and_false, ite_self, not_true_eq_false, not_false_eq_true, reduceIte, Nat.reduceEqDiff, ab_I, ab_L, ab_R, ao_I, ao_L, ao_R, gL_sL, gI_sI, gR_sR, gI_sL, gI_sR, gL_sI, gL_sR, gR_sI, gR_sL, g_146, B2.1, B2.2, Int.toNat_natCast, g17, g_148, B3.1, B3.2, g48]
      · rw [← ec]
        refine ⟨⟨⟨?_, ?_⟩, ?_⟩, ⟨fun f r hf hr => ?_, fun f hf => ?_⟩, fun f b hf hb => ?_, fun f f1 f2 => ?_, ⟨fun k s p => ?_, ?_, ?_⟩⟩
        · show 1 ≤ cN c - 1
          omega
        · show cN c - 1 ≤ 4
          omega
        · show _ = ((cN c - 1 : Nat) : Int) - 1
          rw [gi, if_neg (by omega), if_pos ⟨rfl, rfl⟩]
          omega
        · have hf : f < cN c - 1 := hf
          show vlR _ (11 * f + r) (if f = cN c - 2 ∧ 1 ≤ r ∧ r ≤ 5 then nilR else (if f = cN c - 2 ∧ r = 0 then rdR c 0 else cR c f r))
          by_cases d1 : f = cN c - 2 ∧ 1 ≤ r ∧ r ≤ 5
          · rw [if_pos d1]
            exact ⟨okSV_n, fun z => absurd (show nilR.1 = 6 from rfl) z⟩
          · rw [if_neg d1]
            by_cases d2 : f = cN c - 2 ∧ r = 0
            · rw [if_pos d2]
              refine ⟨okSV_z z0, fun _ => ?_⟩
              rw [gL_sI, gL_sL, if_pos ⟨rfl, by omega⟩]
              exact (enG_z z0).symm
            · rw [if_neg d2]
              have q := b1 f r (by omega) hr
              exact ⟨q.1, fun z => (gl _ _ (by omega)).trans (q.2 z)⟩
        · have hf : f < cN c - 1 := hf
          rw [gl _ _ (by omega)]
          exact b2 f (by omega)
        · rw [gi, if_neg (by omega), if_neg (by omega)]
          exact d f b hf hb
        · have f2 : f < cN c - 1 := f2
          rw [gi, if_neg (by omega), if_neg (by omega)]
          exact e' f f1 (by omega)
        · rw [gi, if_neg (by omega), if_neg (by omega)]
          exact g1 k s p
        · rw [gl _ _ (by omega)]
          exact g2
        · rw [gl _ _ (by omega)]
          exact g3
      · rw [gi, if_neg (by omega), if_neg (by omega)]
      · rw [gi, if_pos ⟨rfl, rfl⟩, ← ec]
      · rw [gi, if_neg (by omega), if_neg (by omega)]
      · rw [gi, if_neg (by omega), if_neg (by omega)]
end RJMP
