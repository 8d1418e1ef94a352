/-! ===== the reference's judge: PLACE, word by word ===== -/
section PLC2
variable {σ τ ρ : MS} {i n k s m : Nat} {S B : Nat → Bool} {p : Nat → B64} {gv x8 x11 : Int}
theorem bg_0 : bgnP p n S 0 = true := by
  unfold bgnP
  simp
theorem bg_n : bgM p n S n = bgnP p n S := rfl
theorem L480f : RR (lkB tb480) (B480_311, [some (mR (some 80)), some (mI (n : Int)), some (mI ((m : Nat) : Int)), some (mI (i : Int)), some (mL (p i)), none, some (mI (b2 (ledO (p i) ∨ isCal (p i)))), some (mI gv), some (mI x8), some (mI (b2 (n ≤ i + spn p n i ∨ bgnP p n S (i + spn p n i) = true))), some (mI (fOp (p i))), some (mI x11)], [], τ) = some (none, flt (sI τ 80 87 (i : Int)) 2) := by
  simp only [e480_311, e480_312, e480_329, Option.getD_some, Option.bind_some, Option.toList_some, Option.toList_none, List.cons_append, List.nil_append, and_self, and_true, true_and, false_and, and_false, ite_self, not_true_eq_false, not_false_eq_true, reduceIte, Nat.reduceEqDiff, ab_I, ab_L, ab_R, ao_I, ao_L, ao_R, gL_sL, gI_sI, gR_sR, gI_sL, gI_sR, gL_sI, gL_sR, gR_sI, gR_sL, T473]
theorem L480g {P : MS → Prop} (hg : ledO (p i) → 0 ≤ gv ∧ gv < 201) (h : okc (RR (lkB tb480) (B480_346, [some (mR (some 80)), some (mI (n : Int)), some (mI ((fnoP (bgnP p n S) i : Nat) : Int)), some (mI (i : Int)), none, none, none, none, none, none, none, none], [], if ledO (p i) then sI τ 136 gv.toNat 1 else τ)) none P) : okc (RR (lkB tb480) (B480_307, [some (mR (some 80)), some (mI (n : Int)), some (mI ((fnoP (bgnP p n S) i : Nat) : Int)), some (mI (i : Int)), some (mL (p i)), none, some (mI (b2 (ledO (p i) ∨ isCal (p i)))), some (mI gv), some (mI x8), some (mI (b2 (n ≤ i + spn p n i ∨ bgnP p n S (i + spn p n i) = true))), some (mI (fOp (p i))), some (mI x11)], [], τ)) none P := by
  have t6 := T476 (w := p i) (σ := τ)
  by_cases l : ledO (p i)
  · rw [b2_yes l] at t6
    rw [if_pos l] at h
    obtain ⟨g1, g2⟩ := hg l
    simp only [e480_307, e480_312, e480_335, Option.getD_some, Option.bind_some, Option.toList_some, Option.toList_none, List.cons_append, List.nil_append, and_self, and_true, true_and, false_and, and_false, ite_self, not_true_eq_false, not_false_eq_true, reduceIte, Nat.reduceEqDiff, ab_I, ab_L, ab_R, ao_I, ao_L, ao_R, gL_sL, gI_sI, gR_sR, gI_sL, gI_sR, gL_sI, gL_sR, gR_sI, gR_sL, oneI, t6, g_136, g1, g2, show (1 : Int) % 2 = 1 from rfl]
    exact okc_q (by repeat (first | exact lq_nil | refine lq_cons (Or.inr rfl) ?_ | refine lq_cons (Or.inl rfl) ?_)) h
  · rw [b2_no l] at t6
    rw [if_neg l] at h
    simp only [e480_307, e480_312, e480_335, Option.getD_some, Option.bind_some, Option.toList_some, Option.toList_none, List.cons_append, List.nil_append, and_self, and_true, true_and, false_and, and_false, ite_self, not_true_eq_false, not_false_eq_true, reduceIte, Nat.reduceEqDiff, ab_I, ab_L, ab_R, ao_I, ao_L, ao_R, gL_sL, gI_sI, gR_sR, gI_sL, gI_sR, gL_sI, gL_sR, gR_sI, gR_sL, oneI, t6]
    exact okc_q (by repeat (first | exact lq_nil | refine lq_cons (Or.inr rfl) ?_ | refine lq_cons (Or.inl rfl) ?_)) h
theorem L480s (h : okSl τ) (hn : n = szA τ) (hp : ∀ j, p j = wdA τ j) (m5 : mkS τ 135 S) (m7 : mkS τ 137 (bgnP p n S)) (hi : i < n) (x2 : Int) : (godP p n S i → ∀ P : MS → Prop, okc (RR (lkB tb480) (B480_346, [some (mR (some 80)), some (mI (n : Int)), some (mI ((fnoP (bgnP p n S) i : Nat) : Int)), some (mI (i : Int)), none, none, none, none, none, none, none, none], [], if ledO (p i) then sI τ 136 (goal i (p i)).toNat 1 else τ)) none P → okc (RR (lkB tb480) (B480_146, [some (mR (some 80)), some (mI (n : Int)), some (mI x2), some (mI (i : Int)), none, none, none, none, none, none, none, none], [mI ((fnoP (bgnP p n S) i : Nat) : Int)], τ)) none P) ∧ (¬ godP p n S i → RR (lkB tb480) (B480_146, [some (mR (some 80)), some (mI (n : Int)), some (mI x2), some (mI (i : Int)), none, none, none, none, none, none, none, none], [mI ((fnoP (bgnP p n S) i : Nat) : Int)], τ) = some (none, flt (sI τ 80 87 (i : Int)) 2)) := by
  obtain ⟨z1, z2, z3, z4⟩ := sl_sz h
  have i200 : i < 200 := by omega
  have t4 := T474 h i200
  rw [← hp i] at t4
  have t6 := T476 (w := p i) (σ := τ)
  have t9 := T479 (w := p i) (σ := τ)
  have t7 := T477 (w := p i) (σ := τ) (i := (i : Int)) (by omega)
  have gb := go_b i200 (p i)
  have t5 := T345 (σ := τ) (i := i) h (by omega)
  rw [← hn, show wdA τ = p from funext fun j => (hp j).symm] at t5
  have e86 : gI τ 80 86 = jsA τ := rfl
  have s2 := spn_le (p := p) (n := n) i
  -- the goal, if there is one
  obtain ⟨gv, hgv⟩ : ∃ gv : Int, gv = if (ledO (p i) ∨ isCal (p i)) then w32 (goal i (p i)) else 0 := ⟨_, rfl⟩
  have s192 : RR (lkB tb480) (B480_146, [some (mR (some 80)), some (mI (n : Int)), some (mI x2), some (mI (i : Int)), none, none, none, none, none, none, none, none], [mI ((fnoP (bgnP p n S) i : Nat) : Int)], τ) = RR (lkB tb480) (B480_192, [some (mR (some 80)), some (mI (n : Int)), some (mI ((fnoP (bgnP p n S) i : Nat) : Int)), some (mI (i : Int)), some (mL (p i)), none, some (mI (b2 (ledO (p i) ∨ isCal (p i)))), none, none, none, none, none], [mI gv], τ) := by
    by_cases l : ledO (p i)
    · have a : (ledO (p i) ∨ isCal (p i)) := Or.inl l
      rw [if_pos a] at hgv
      rw [b2_yes l] at t6
      rw [b2_yes a, hgv]
      simp only [e480_146, e480_152, e480_159, e480_170, e480_175, e480_188, Option.getD_some, Option.bind_some, Option.toList_some, Option.toList_none, List.cons_append, List.nil_append, and_self, and_true, true_and, false_and, and_false, ite_self, not_true_eq_false, not_false_eq_true, reduceIte, Nat.reduceEqDiff, ab_I, ab_L, ab_R, ao_I, ao_L, ao_R, gL_sL, gI_sI, gR_sR, gI_sL, gI_sR, gL_sI, gL_sR, gR_sI, gR_sL, t4, t6, t7, oneI]
    · rw [b2_no l] at t6
      by_cases c : isCal (p i)
      · have a : (ledO (p i) ∨ isCal (p i)) := Or.inr c
        rw [if_pos a] at hgv
        rw [b2_yes c] at t9
        rw [b2_yes a, hgv]
        simp only [e480_146, e480_152, e480_159, e480_167, e480_170, e480_175, e480_188, Option.getD_some, Option.bind_some, Option.toList_some, Option.toList_none, List.cons_append, List.nil_append, and_self, and_true, true_and, false_and, and_false, ite_self, not_true_eq_false, not_false_eq_true, reduceIte, Nat.reduceEqDiff, ab_I, ab_L, ab_R, ao_I, ao_L, ao_R, gL_sL, gI_sI, gR_sR, gI_sL, gI_sR, gL_sI, gL_sR, gR_sI, gR_sL, t4, t6, t9, t7, oneI]
      · have a : ¬ (ledO (p i) ∨ isCal (p i)) := fun z => z.elim l c
        rw [if_neg a] at hgv
        rw [b2_no c] at t9
        rw [b2_no a, hgv]
        simp only [e480_146, e480_152, e480_159, e480_167, e480_175, Option.getD_some, Option.bind_some, Option.toList_some, Option.toList_none, List.cons_append, List.nil_append, and_self, and_true, true_and, false_and, and_false, ite_self, not_true_eq_false, not_false_eq_true, reduceIte, Nat.reduceEqDiff, ab_I, ab_L, ab_R, ao_I, ao_L, ao_R, gL_sL, gI_sI, gR_sR, gI_sL, gI_sR, gL_sI, gL_sR, gR_sI, gR_sL, t4, t6, t9]
  have x8n : ((i + spn p n i : Nat) : Int) = (i : Int) + ((spn p n i : Nat) : Int) := by omega
  have s235 : RR (lkB tb480) (B480_192, [some (mR (some 80)), some (mI (n : Int)), some (mI ((fnoP (bgnP p n S) i : Nat) : Int)), some (mI (i : Int)), some (mL (p i)), none, some (mI (b2 (ledO (p i) ∨ isCal (p i)))), none, none, none, none, none], [mI gv], τ) = RR (lkB tb480) (B480_235, [some (mR (some 80)), some (mI (n : Int)), some (mI ((fnoP (bgnP p n S) i : Nat) : Int)), some (mI (i : Int)), some (mL (p i)), none, some (mI (b2 (ledO (p i) ∨ isCal (p i)))), some (mI gv), some (mI ((i + spn p n i : Nat) : Int)), some (mI (b2 (n ≤ i + spn p n i ∨ bgnP p n S (i + spn p n i) = true))), none, none], [mI (fOp (p i))], τ) := by
    have i7 : i < 20000 := by omega
    have s6 : spn p n i < 6 := by omega
    by_cases c1 : n ≤ i + spn p n i
    · have le : (n : Int) ≤ ((i + spn p n i : Nat) : Int) := by omega
      rw [b2_yes (p := (n ≤ i + spn p n i ∨ bgnP p n S (i + spn p n i) = true)) (Or.inl c1)]
      simp only [e480_192, e480_204, e480_223, e480_228, Option.getD_some, Option.bind_some, Option.toList_some, Option.toList_none, List.cons_append, List.nil_append, and_self, and_true, true_and, false_and, and_false, ite_self, not_true_eq_false, not_false_eq_true, reduceIte, Nat.reduceEqDiff, ab_I, ab_L, ab_R, ao_I, ao_L, ao_R, gL_sL, gI_sI, gR_sR, gI_sL, gI_sR, gL_sI, gL_sR, gR_sI, gR_sL, e86, t5, L490c i7 s6, le, T332]
    · have nl : ¬ (n : Int) ≤ ((i + spn p n i : Nat) : Int) := by omega
      have b0 : 0 ≤ ((i + spn p n i : Nat) : Int) ∧ ((i + spn p n i : Nat) : Int) < 201 := by omega
      have g7 := m7 (i + spn p n i) (by omega)
      by_cases c2 : bgnP p n S (i + spn p n i) = true
      · rw [if_pos c2] at g7
        rw [b2_yes (p := (n ≤ i + spn p n i ∨ bgnP p n S (i + spn p n i) = true)) (Or.inr c2)]
        simp only [e480_192, e480_204, e480_223, e480_228, Option.getD_some, Option.bind_some, Option.toList_some, Option.toList_none, List.cons_append, List.nil_append, and_self, and_true, true_and, false_and, and_false, ite_self, not_true_eq_false, not_false_eq_true, reduceIte, Nat.reduceEqDiff, ab_I, ab_L, ab_R, ao_I, ao_L, ao_R, gL_sL, gI_sI, gR_sR, gI_sL, gI_sR, gL_sI, gL_sR, gR_sI, gR_sL, e86, t5, L490c i7 s6, nl, g_137, b0.1, b0.2, Int.toNat_natCast, g7, oneI, T332]
      · rw [if_neg c2] at g7
        rw [b2_no (p := (n ≤ i + spn p n i ∨ bgnP p n S (i + spn p n i) = true)) (fun z => z.elim c1 c2)]
        simp only [e480_192, e480_204, e480_228, Option.getD_some, Option.bind_some, Option.toList_some, Option.toList_none, List.cons_append, List.nil_append, and_self, and_true, true_and, false_and, and_false, ite_self, not_true_eq_false, not_false_eq_true, reduceIte, Nat.reduceEqDiff, ab_I, ab_L, ab_R, ao_I, ao_L, ao_R, gL_sL, gI_sI, gR_sR, gI_sL, gI_sR, gL_sI, gL_sR, gR_sI, gR_sL, e86, t5, L490c i7 s6, nl, g_137, b0.1, b0.2, Int.toNat_natCast, g7, T332]
  rw [s192, s235]
  clear s192 s235
  have t8 := T478 (x := gv) h
  by_cases T : (ledO (p i) ∨ isCal (p i)) → isTh n S (goal i (p i))
  · -- it leads to an instruction
    have gg : (ledO (p i) ∨ isCal (p i)) → gv = goal i (p i) ∧ 0 ≤ gv ∧ gv < 200 := fun a => by
      have th := T a
      rw [if_pos a] at hgv
      have e : w32 (goal i (p i)) = goal i (p i) := w32_i gb.1 (by have := th.1; omega)
      rw [e] at hgv
      have := th.1
      exact ⟨hgv, by omega, by omega⟩
    have s256 : RR (lkB tb480) (B480_235, [some (mR (some 80)), some (mI (n : Int)), some (mI ((fnoP (bgnP p n S) i : Nat) : Int)), some (mI (i : Int)), some (mL (p i)), none, some (mI (b2 (ledO (p i) ∨ isCal (p i)))), some (mI gv), some (mI ((i + spn p n i : Nat) : Int)), some (mI (b2 (n ≤ i + spn p n i ∨ bgnP p n S (i + spn p n i) = true))), none, none], [mI (fOp (p i))], τ) = RR (lkB tb480) (B480_256, [some (mR (some 80)), some (mI (n : Int)), some (mI ((fnoP (bgnP p n S) i : Nat) : Int)), some (mI (i : Int)), some (mL (p i)), none, some (mI (b2 (ledO (p i) ∨ isCal (p i)))), some (mI gv), some (mI ((i + spn p n i : Nat) : Int)), some (mI (b2 (n ≤ i + spn p n i ∨ bgnP p n S (i + spn p n i) = true))), some (mI (fOp (p i))), none], [mI 1], τ) := by
      by_cases a : (ledO (p i) ∨ isCal (p i))
      · obtain ⟨g1, g2, g3⟩ := gg a
        have th := T a
        have c8 : (0 ≤ gv ∧ gv.toNat < szA τ) ∧ ¬ gI τ 135 gv.toNat = 0 := by
          have := th.1
          refine ⟨by omega, ?_⟩
          rw [m5 _ (by omega), g1, if_pos th.2]
          decide
        rw [b2_yes c8] at t8
        rw [b2_yes a]
        simp only [e480_235, e480_248, e480_251, Option.getD_some, Option.bind_some, Option.toList_some, Option.toList_none, List.cons_append, List.nil_append, and_self, and_true, true_and, false_and, and_false, ite_self, not_true_eq_false, not_false_eq_true, reduceIte, Nat.reduceEqDiff, ab_I, ab_L, ab_R, ao_I, ao_L, ao_R, gL_sL, gI_sI, gR_sR, gI_sL, gI_sR, gL_sI, gL_sR, gR_sI, gR_sL, oneI, t8]
      · rw [b2_no a]
        simp only [e480_235, e480_251, Option.getD_some, Option.bind_some, Option.toList_some, Option.toList_none, List.cons_append, List.nil_append, and_self, and_true, true_and, false_and, and_false, ite_self, not_true_eq_false, not_false_eq_true, reduceIte, Nat.reduceEqDiff, ab_I, ab_L, ab_R, ao_I, ao_L, ao_R, gL_sL, gI_sI, gR_sR, gI_sL, gI_sR, gL_sI, gL_sR, gR_sI, gR_sL]
    rw [s256]
    -- the same function
    have s281 : (ledO (p i) → fnoP (bgnP p n S) (goal i (p i)).toNat = fnoP (bgnP p n S) i) → RR (lkB tb480) (B480_256, [some (mR (some 80)), some (mI (n : Int)), some (mI ((fnoP (bgnP p n S) i : Nat) : Int)), some (mI (i : Int)), some (mL (p i)), none, some (mI (b2 (ledO (p i) ∨ isCal (p i)))), some (mI gv), some (mI ((i + spn p n i : Nat) : Int)), some (mI (b2 (n ≤ i + spn p n i ∨ bgnP p n S (i + spn p n i) = true))), some (mI (fOp (p i))), none], [mI 1], τ) = RR (lkB tb480) (B480_281, [some (mR (some 80)), some (mI (n : Int)), some (mI ((fnoP (bgnP p n S) i : Nat) : Int)), some (mI (i : Int)), some (mL (p i)), none, some (mI (b2 (ledO (p i) ∨ isCal (p i)))), some (mI gv), some (mI ((i + spn p n i : Nat) : Int)), some (mI (b2 (n ≤ i + spn p n i ∨ bgnP p n S (i + spn p n i) = true))), some (mI (fOp (p i))), some (mI 1)], [], τ) := fun q => by
      by_cases l : ledO (p i)
      · obtain ⟨g1, g2, g3⟩ := gg (Or.inl l)
        rw [b2_yes l] at t6
        have t1 := T481 m7 bg_0 gv.toNat gv (by omega)
        rw [show ((gv.toNat : Nat) : Int) = gv by omega, g1, q l] at t1
        rw [← g1] at t1
        have t1' : MM 481 [mR (some 80), mI gv] τ = some (some (mI ((fnoP (bgnP p n S) i : Nat) : Int)), τ) := by
          rw [M481, e481_0]
          exact t1
        simp only [e480_256, e480_268, e480_277, Option.getD_some, Option.bind_some, Option.toList_some, Option.toList_none, List.cons_append, List.nil_append, and_self, and_true, true_and, false_and, and_false, ite_self, not_true_eq_false, not_false_eq_true, reduceIte, Nat.reduceEqDiff, ab_I, ab_L, ab_R, ao_I, ao_L, ao_R, gL_sL, gI_sI, gR_sR, gI_sL, gI_sR, gL_sI, gL_sR, gR_sI, gR_sL, oneI, t6, t1']
      · rw [b2_no l] at t6
        simp only [e480_256, e480_268, Option.getD_some, Option.bind_some, Option.toList_some, Option.toList_none, List.cons_append, List.nil_append, and_self, and_true, true_and, false_and, and_false, ite_self, not_true_eq_false, not_false_eq_true, reduceIte, Nat.reduceEqDiff, ab_I, ab_L, ab_R, ao_I, ao_L, ao_R, gL_sL, gI_sI, gR_sR, gI_sL, gI_sR, gL_sI, gL_sR, gR_sI, gR_sL, oneI, t6]
    by_cases F : ledO (p i) → fnoP (bgnP p n S) (goal i (p i)).toNat = fnoP (bgnP p n S) i
    · rw [s281 F]
      by_cases C : (n ≤ i + spn p n i ∨ bgnP p n S (i + spn p n i) = true)
      · have cy : b2 (n ≤ i + spn p n i ∨ bgnP p n S (i + spn p n i) = true) = 1 := b2_yes C
        by_cases o : fOp (p i) = 149 ∨ fOp (p i) = 5 ∨ fOp (p i) = 6
        · have s307 : RR (lkB tb480) (B480_281, [some (mR (some 80)), some (mI (n : Int)), some (mI ((fnoP (bgnP p n S) i : Nat) : Int)), some (mI (i : Int)), some (mL (p i)), none, some (mI (b2 (ledO (p i) ∨ isCal (p i)))), some (mI gv), some (mI ((i + spn p n i : Nat) : Int)), some (mI (b2 (n ≤ i + spn p n i ∨ bgnP p n S (i + spn p n i) = true))), some (mI (fOp (p i))), some (mI 1)], [], τ) = RR (lkB tb480) (B480_307, [some (mR (some 80)), some (mI (n : Int)), some (mI ((fnoP (bgnP p n S) i : Nat) : Int)), some (mI (i : Int)), some (mL (p i)), none, some (mI (b2 (ledO (p i) ∨ isCal (p i)))), some (mI gv), some (mI ((i + spn p n i : Nat) : Int)), some (mI (b2 (n ≤ i + spn p n i ∨ bgnP p n S (i + spn p n i) = true))), some (mI (fOp (p i))), some (mI 1)], [], τ) := by
            rw [e480_281, cy]
            rcases o with o | o | o
            all_goals simp only [oneI, if_false, o, Int.reduceEq, if_true, not_true_eq_false]
          refine ⟨fun _ P hP => ?_, fun z => absurd ⟨T, F, fun _ => o⟩ z⟩
          rw [s307]
          refine L480g (fun l => ?_) ?_
          · have := gg (Or.inl l)
            omega
          · by_cases l : ledO (p i)
            · rw [if_pos l] at hP ⊢
              rw [(gg (Or.inl l)).1]
              exact hP
            · rw [if_neg l] at hP ⊢
              exact hP
        · refine ⟨fun z => absurd (z.2.2 C) o, fun _ => ?_⟩
          have o1 : ¬ fOp (p i) = 149 := fun z => o (Or.inl z)
          have o2 : ¬ fOp (p i) = 5 := fun z => o (Or.inr (Or.inl z))
          have o3 : ¬ fOp (p i) = 6 := fun z => o (Or.inr (Or.inr z))
          rw [e480_281, if_neg (show ¬ b2 (n ≤ i + spn p n i ∨ bgnP p n S (i + spn p n i) = true) = 0 by rw [cy]; decide), if_neg o1, if_neg o2, if_pos o3]
          exact L480f
      · have cn : b2 (n ≤ i + spn p n i ∨ bgnP p n S (i + spn p n i) = true) = 0 := b2_no C
        refine ⟨fun _ P hP => ?_, fun z => absurd ⟨T, F, fun y => absurd y C⟩ z⟩
        rw [e480_281, if_pos cn]
        refine L480g (fun l => ?_) ?_
        · have := gg (Or.inl l)
          omega
        · by_cases l : ledO (p i)
          · rw [if_pos l] at hP ⊢
            rw [(gg (Or.inl l)).1]
            exact hP
          · rw [if_neg l] at hP ⊢
            exact hP
    · refine ⟨fun z => absurd z.2.1 F, fun _ => ?_⟩
      have l : ledO (p i) := Decidable.byContradiction fun l => F (fun y => absurd y l)
      have ne : ¬ fnoP (bgnP p n S) (goal i (p i)).toNat = fnoP (bgnP p n S) i := fun y => F (fun _ => y)
      obtain ⟨g1, g2, g3⟩ := gg (Or.inl l)
      rw [b2_yes l] at t6
      have t1 := T481 m7 bg_0 gv.toNat gv (by omega)
      rw [show ((gv.toNat : Nat) : Int) = gv by omega] at t1
      have t1' : MM 481 [mR (some 80), mI gv] τ = some (some (mI ((fnoP (bgnP p n S) gv.toNat : Nat) : Int)), τ) := by
        rw [M481, e481_0]
        exact t1
      have ne2 : ¬ ((fnoP (bgnP p n S) gv.toNat : Nat) : Int) = ((fnoP (bgnP p n S) i : Nat) : Int) := by
        rw [g1]
        exact fun y => ne (by omega)
      simp only [e480_256, e480_268, e480_277, Option.getD_some, Option.bind_some, Option.toList_some, Option.toList_none, List.cons_append, List.nil_append, and_self, and_true, true_and, false_and, and_false, ite_self, not_true_eq_false, not_false_eq_true, reduceIte, Nat.reduceEqDiff, ab_I, ab_L, ab_R, ao_I, ao_L, ao_R, gL_sL, gI_sI, gR_sR, gI_sL, gI_sR, gL_sI, gL_sR, gR_sI, gR_sL, oneI, t6, t1', ne2]
      exact L480f
  · -- it leads nowhere
    refine ⟨fun z => absurd z.1 T, fun _ => ?_⟩
    have a : (ledO (p i) ∨ isCal (p i)) := Decidable.byContradiction fun a => T (fun y => absurd y a)
    have nt : ¬ isTh n S (goal i (p i)) := fun y => T (fun _ => y)
    rw [if_pos a] at hgv
    have c8 : ¬ ((0 ≤ gv ∧ gv.toNat < szA τ) ∧ ¬ gI τ 135 gv.toNat = 0) := fun z => by
      rw [hgv] at z
      have z' := (th_w (n := n) (P := fun k => ¬ gI τ 135 k = 0) gb (by omega)).mp ⟨⟨z.1.1, by rw [hn]; exact z.1.2⟩, z.2⟩
      refine nt ⟨⟨z'.1.1, by have := z'.1; omega⟩, Decidable.byContradiction fun y => z'.2 ?_⟩
      rw [m5 _ (by have := z'.1; omega), if_neg y]
    rw [b2_no c8] at t8
    have ay : b2 (ledO (p i) ∨ isCal (p i)) = 1 := b2_yes a
    rw [e480_235, ay]
    simp only [e480_248, e480_256, Option.getD_some, Option.bind_some, Option.toList_some, Option.toList_none, List.cons_append, List.nil_append, and_self, and_true, true_and, false_and, and_false, ite_self, not_true_eq_false, not_false_eq_true, reduceIte, Nat.reduceEqDiff, ab_I, ab_L, ab_R, ao_I, ao_L, ao_R, gL_sL, gI_sI, gR_sR, gI_sL, gI_sR, gL_sI, gL_sR, gR_sI, gR_sL, oneI, t8]
    rw [← ay]
    exact L480f
end PLC2
