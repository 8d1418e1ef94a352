/-! ===== the reference's judge: ALU, from its beginning ===== -/
theorem wrV_flt {σ : MS} {i : Nat} {v : VL} {c : Int} : wrV (flt σ c) i v = flt (wrV σ i v) c := by
  unfold flt
  rw [wrV_sI (by decide), gW80]
theorem mk_flt {σ : MS} {r c : Int} : mk10 (flt σ c) r = flt (mk10 σ r) c := by
  unfold mk10
  split
  · rw [fl_o (by omega), wrV_flt]
  · rfl
theorem okV_3 {E : EV} {g : Nat} {t : Int} {v : VL} (h : okV E g t v) (hg : g ≤ 3) : okV E 3 t v := by
  obtain ⟨h1, h2, h3, h4⟩ := h
  exact ⟨h1, h2, fun k => ⟨(h3 k).1, by have := (h3 k).2; omega⟩, h4⟩
theorem okV_ten {E : EV} {t : Int} {F : Nat} (hF : 1 ≤ F ∧ F ≤ 4) : okV E 3 t (mkV 3 ((F : Int) - 1) 0) := by
  have k : vk (mkV 3 ((F : Int) - 1) 0) = 3 := rfl
  have w : vw (mkV 3 ((F : Int) - 1) 0) = (F : Int) - 1 := rfl
  have o : vo (mkV 3 ((F : Int) - 1) 0) = 0 := rfl
  refine ⟨by omega, fun _ => by omega, fun _ => by omega, fun q => ?_, fun q => ?_, fun q => ?_, fun q => ?_, fun q => ?_, fun q => ?_, fun q => ?_⟩ <;> (exfalso; omega)
theorem okV_r {E : EV} {t : Int} {S : ST} (h : okS E t S) {r : Nat} (hr : r ≤ 10) : okV E 3 t (rgV S r) := by
  have hF := h.1
  unfold rgV
  split
  · exact okV_ten hF
  · exact okV_3 (h.2.1 _ (by omega)) (by omega)
set_option maxHeartbeats 1000000 in
theorem T499 {w : B64} {S : ST} {E : EV} {t : Int} {σ : MS} (hJ : J0 σ S) (ho : okS E t S) (hw : okAlu w) (hl : fL w = 4 ∨ fL w = 7) (h0 : gI σ 80 90 = 0) (ht : gI σ 80 85 = t) (ht2 : t < 1000000) : okc (MM 499 [mR (some 80), mL w, mI (fOp w)] σ) none (fun τ => jpo σ τ (aluV S w t).1 (wV S (dR w) (aluV S w t).2.1) (gI σ 80 88) (gI σ 80 89) (aluV S w t).2.2) := by
  have hF := ho.1
  have f := fld_rng w
  have f1 : 0 ≤ fD w := f.2.1.1
  have f2 : 0 ≤ fS w := f.2.2.1.1
  have hd9 : fD w ≤ 9 := hw.1.1
  have hd : dR w ≤ 9 := by unfold dR; omega
  generalize ed : 26 * (sF S - 1) + dR w = d
  have ep : plc (gI σ 123 0) (fD w) = d := by rw [plc_9 hJ.1 hF.1 f1 hd9, ← ed]
  have id : inB (d : Int) := ⟨by omega, by omega⟩
  have vd : aV σ d = (rgV S (dR w)) := by
    have := at_v hJ hF (r := fD w) ⟨f1, by omega⟩
    rwa [mkr_9 hd9, ep] at this
  have okD : okV E 3 t (rgV S (dR w)) := okV_r ho (by omega)
  have e85 : sI σ 80 85 t = σ := by rw [← ht]; exact sI_eta _ _ _
  have s51 : MM 499 [mR (some 80), mL w, mI (fOp w)] σ = RR (lkB tb499) (B499_51, [some (mR (some 80)), some (mL w), none, some (mI (fOp w)), some (mI (fC w)), some (mI (b2 (wid w))), some (mI (b2 (rgt w))), some (mI (fO w)), none, none, none], [mI (d : Int)], σ) := by
    have t9 := T492 (σ := σ) (r := fD w) ⟨f1, by omega⟩ (by rw [hJ.1]; omega)
    rw [ep, mkr_9 hd9] at t9
    by_cases a : fL w = 7
    · rw [wid_l a]
      by_cases b : rgt w
      · rw [b2_yes b]
        simp only [M499, e499_0, e499_21, e499_35, e499_41, e499_48, Option.getD_some, Option.bind_some, Option.toList_some, Option.toList_none, List.cons_append, List.nil_append, and_self, and_true, true_and, false_and, and_false, ite_self, not_true_eq_false, not_false_eq_true, reduceIte, Nat.reduceEqDiff, ab_I, ab_L, ab_R, ao_I, ao_L, ao_R, gL_sL, gI_sI, gR_sR, gI_sL, gI_sR, gL_sI, gL_sR, gR_sI, gR_sL, m7, m8r, mC, a, eq_true b, T335, T333, t9]
      · rw [b2_no b]
        simp only [M499, e499_0, e499_21, e499_35, e499_41, e499_48, Option.getD_some, Option.bind_some, Option.toList_some, Option.toList_none, List.cons_append, List.nil_append, and_self, and_true, true_and, false_and, and_false, ite_self, not_true_eq_false, not_false_eq_true, reduceIte, Nat.reduceEqDiff, ab_I, ab_L, ab_R, ao_I, ao_L, ao_R, gL_sL, gI_sI, gR_sR, gI_sL, gI_sR, gL_sI, gL_sR, gR_sI, gR_sL, m7, m8r, mC, a, b, T335, T333, t9]
    · rw [wid_n a]
      by_cases b : rgt w
      · rw [b2_yes b]
        simp only [M499, e499_0, e499_21, e499_35, e499_41, e499_48, Option.getD_some, Option.bind_some, Option.toList_some, Option.toList_none, List.cons_append, List.nil_append, and_self, and_true, true_and, false_and, and_false, ite_self, not_true_eq_false, not_false_eq_true, reduceIte, Nat.reduceEqDiff, ab_I, ab_L, ab_R, ao_I, ao_L, ao_R, gL_sL, gI_sI, gR_sR, gI_sL, gI_sR, gL_sI, gL_sR, gR_sI, gR_sL, m7, m8r, mC, a, eq_true b, T335, T333, t9]
      · rw [b2_no b]
        simp only [M499, e499_0, e499_21, e499_35, e499_41, e499_48, Option.getD_some, Option.bind_some, Option.toList_some, Option.toList_none, List.cons_append, List.nil_append, and_self, and_true, true_and, false_and, and_false, ite_self, not_true_eq_false, not_false_eq_true, reduceIte, Nat.reduceEqDiff, ab_I, ab_L, ab_R, ao_I, ao_L, ao_R, gL_sL, gI_sI, gR_sR, gI_sL, gI_sR, gL_sI, gL_sR, gR_sI, gR_sL, m7, m8r, mC, a, b, T335, T333, t9]
  rw [s51]
  by_cases c3 : fC w = 208
  · have hb : fI w = 16 ∨ fI w = 32 ∨ fI w = 64 := by
      have := hw.2
      rw [if_pos c3] at this
      exact this.2.2.2
    have un : aluV S w t = if ¬ fst (wntS (rgV S (dR w))) (wntN (rgV S (dR w)) (rgV S (dR w))) = 0 then (fst (wntS (rgV S (dR w))) (wntN (rgV S (dR w)) (rgV S (dR w))), unsV, t) else (0, numV (trnN (decide (fOp w = 212)) (fI w).toNat (vn (rgV S (dR w)))), t) := by
      unfold aluV
      rw [if_pos c3]
    have s75 : RR (lkB tb499) (B499_51, [some (mR (some 80)), some (mL w), none, some (mI (fOp w)), some (mI (fC w)), some (mI (b2 (wid w))), some (mI (b2 (rgt w))), some (mI (fO w)), none, none, none], [mI (d : Int)], σ) = RR (lkB tb499) (B499_75, [some (mR (some 80)), some (mL w), none, some (mI (fOp w)), some (mI (fC w)), some (mI (b2 (wid w))), some (mI (b2 (rgt w))), some (mI (fO w)), some (mI (d : Int)), none, none], [], flt σ (fst (wntS (rgV S (dR w))) (wntN (rgV S (dR w)) (rgV S (dR w))))) := by
      simp only [e499_51, e499_67, Option.getD_some, Option.bind_some, Option.toList_some, Option.toList_none, List.cons_append, List.nil_append, and_self, and_true, true_and, false_and, and_false, ite_self, not_true_eq_false, not_false_eq_true, reduceIte, Nat.reduceEqDiff, ab_I, ab_L, ab_R, ao_I, ao_L, ao_R, gL_sL, gI_sI, gR_sR, gI_sL, gI_sR, gL_sI, gL_sR, gR_sI, gR_sL, c3, T494 id, T497 id id, Int.toNat_natCast, aV_flt, vd, flt_flt]
    rw [s75, un]
    by_cases z : fst (wntS (rgV S (dR w))) (wntN (rgV S (dR w)) (rgV S (dR w))) = 0
    · rw [z, flt_0, if_neg (not_not_intro rfl)]
      simp only [e499_75, e499_90, e499_93, Option.getD_some, Option.bind_some, Option.toList_some, Option.toList_none, List.cons_append, List.nil_append, and_self, and_true, true_and, false_and, and_false, ite_self, not_true_eq_false, not_false_eq_true, reduceIte, Nat.reduceEqDiff, ab_I, ab_L, ab_R, ao_I, ao_L, ao_R, gL_sL, gI_sI, gR_sR, gI_sL, gI_sR, gL_sI, gL_sR, gR_sI, gR_sL, h0, T336, T500 id hb, Int.toNat_natCast, vd]
      refine okc_s (jpo_w h0 hJ hF.2 (k := d) (by omega) (by rw [← ed]; rfl) ?_)
      rw [e85]
      exact sqc_r _
    · rw [if_pos z]
      have g : ¬ gI (flt σ (fst (wntS (rgV S (dR w))) (wntN (rgV S (dR w)) (rgV S (dR w))))) 80 90 = 0 := by rw [fl_g, h0, fst0]; exact z
      simp only [e499_75, e499_93, Option.getD_some, Option.bind_some, Option.toList_some, Option.toList_none, List.cons_append, List.nil_append, and_self, and_true, true_and, false_and, and_false, ite_self, not_true_eq_false, not_false_eq_true, reduceIte, Nat.reduceEqDiff, ab_I, ab_L, ab_R, ao_I, ao_L, ao_R, gL_sL, gI_sI, gR_sR, gI_sL, gI_sR, gL_sI, gL_sR, gR_sI, gR_sL, g]
      exact okc_s (jpo_f z h0 (sqc_r _))
  · generalize ea : (if fC w = 176 then (0 : Int) else wntS (rgV S (dR w))) = fa
    have s108 : RR (lkB tb499) (B499_51, [some (mR (some 80)), some (mL w), none, some (mI (fOp w)), some (mI (fC w)), some (mI (b2 (wid w))), some (mI (b2 (rgt w))), some (mI (fO w)), none, none, none], [mI (d : Int)], σ) = RR (lkB tb499) (B499_108, [some (mR (some 80)), some (mL w), none, some (mI (fOp w)), some (mI (fC w)), some (mI (b2 (wid w))), some (mI (b2 (rgt w))), some (mI (fO w)), some (mI (d : Int)), none, none], [], flt σ fa) := by
      by_cases c1 : fC w = 176
      · rw [if_pos c1] at ea
        rw [← ea, flt_0]
        simp only [e499_51, Option.getD_some, Option.bind_some, Option.toList_some, Option.toList_none, List.cons_append, List.nil_append, and_self, and_true, true_and, false_and, and_false, ite_self, not_true_eq_false, not_false_eq_true, reduceIte, Nat.reduceEqDiff, ab_I, ab_L, ab_R, ao_I, ao_L, ao_R, gL_sL, gI_sI, gR_sR, gI_sL, gI_sR, gL_sI, gL_sR, gR_sI, gR_sL, c1, Int.reduceEq]
      · rw [if_neg c1] at ea
        rw [← ea]
        simp only [e499_51, Option.getD_some, Option.bind_some, Option.toList_some, Option.toList_none, List.cons_append, List.nil_append, and_self, and_true, true_and, false_and, and_false, ite_self, not_true_eq_false, not_false_eq_true, reduceIte, Nat.reduceEqDiff, ab_I, ab_L, ab_R, ao_I, ao_L, ao_R, gL_sL, gI_sI, gR_sR, gI_sL, gI_sR, gL_sI, gL_sR, gR_sI, gR_sL, c1, c3, T494 id, Int.toNat_natCast, vd]
    rw [s108]
    have key : ∀ (y : Nat) (σy : MS), sqc σy σ → aV σy d = (rgV S (dR w)) → aV σy y = (rgtV S w) → (y < 104 ∨ y = 32657 ∨ y = 32663) → (0 ≤ vk (rgtV S w) ∧ vk (rgtV S w) ≤ 10 ∧ (mvs (rgtV S w) → -4096 ≤ vo (rgtV S w) ∧ vo (rgtV S w) ≤ 4096)) → okc (RR (lkB tb499) (B499_157, [some (mR (some 80)), some (mL w), none, some (mI (fOp w)), some (mI (fC w)), some (mI (b2 (wid w))), some (mI (b2 (rgt w))), some (mI (fO w)), some (mI (d : Int)), some (mI (y : Int)), none], [], flt σy (fst fa (wntS (rgtV S w))))) none (fun τ => jpo σ τ (aluV S w t).1 (wV S (dR w) (aluV S w t).2.1) (gI σ 80 88) (gI σ 80 89) (aluV S w t).2.2) := by
      intro y σy q1 q2 q3 q4 q5
      have H : aH S E w t σ σy d y := ⟨⟨hJ, ho, hw, hl⟩, ⟨h0, ht, ht2⟩, ⟨ed.symm, hd⟩, ⟨q1, q2, q3⟩, q4, okD, q5⟩
      have bad : aluV S w t = (3, unsV, t) → fst fa (wntS (rgtV S w)) = 3 → okc (RR (lkB tb499) (B499_157, [some (mR (some 80)), some (mL w), none, some (mI (fOp w)), some (mI (fC w)), some (mI (b2 (wid w))), some (mI (b2 (rgt w))), some (mI (fO w)), some (mI (d : Int)), some (mI (y : Int)), none], [], flt σy (fst fa (wntS (rgtV S w))))) none (fun τ => jpo σ τ (aluV S w t).1 (wV S (dR w) (aluV S w t).2.1) (gI σ 80 88) (gI σ 80 89) (aluV S w t).2.2) := fun u1 u2 => by
        have g : ¬ gI (flt σy 3) 80 90 = 0 := by rw [fl_g, aH_0 H, fst0]; decide
        rw [u1, u2]
        simp only [e499_157, Option.getD_some, Option.bind_some, Option.toList_some, Option.toList_none, List.cons_append, List.nil_append, and_self, and_true, true_and, false_and, and_false, ite_self, not_true_eq_false, not_false_eq_true, reduceIte, Nat.reduceEqDiff, ab_I, ab_L, ab_R, ao_I, ao_L, ao_R, gL_sL, gI_sI, gR_sR, gI_sL, gI_sR, gL_sI, gL_sR, gR_sI, gR_sL, g]
        exact okc_s (aH_no H (by decide) (sqc_r _))
      by_cases kd : ¬ fC w = 176 ∧ vk (rgV S (dR w)) = 0
      · have e1 : fa = 3 := by
          rw [← ea, if_neg kd.1]
          exact if_pos kd.2
        refine bad ?_ ?_
        · unfold aluV
          rw [if_neg c3, if_pos kd]
        · rw [e1]
          rfl
      · have e1 : fa = 0 := by
          rw [← ea]
          split
          · rfl
          · rename_i c
            exact if_neg (fun z => kd ⟨c, z⟩)
        by_cases ky : vk (rgtV S w) = 0
        · refine bad ?_ ?_
          · unfold aluV
            rw [if_neg c3, if_neg kd, if_pos ky]
          · rw [e1, fst0]
            exact if_pos ky
        · have e2 : fst fa (wntS (rgtV S w)) = 0 := by
            rw [e1, fst0]
            exact if_neg ky
          rw [e2, flt_0]
          by_cases c1 : fC w = 176
          · exact L499a H c1 ky
          · have kd' : ¬ vk (rgV S (dR w)) = 0 := fun z => kd ⟨c1, z⟩
            by_cases c2 : fC w = 128
            · exact L499b H c2 kd' ky
            · exact L499c H c1 c2 c3 kd' ky
    by_cases b : rgt w
    · have hs : fS w ≤ 10 := by
        have := hw.2
        rw [if_neg c3] at this
        by_cases c2 : fC w = 128
        · rw [if_pos c2] at this
          exact absurd b this.1
        · rw [if_neg c2, if_pos b] at this
          exact this.1.1
      have eY : (rgtV S w) = rgV S (sRr w) := if_pos b
      have okY : okV E 3 t (rgtV S w) := by rw [eY]; exact okV_r ho (by unfold sRr; omega)
      have t9 := T492 (σ := flt σ fa) (r := fS w) ⟨f2, hs⟩ (by rw [fl_o (by omega), hJ.1]; omega)
      rw [fl_o (by omega), mk_flt] at t9
      have iy := plc_b hJ.1 hF (r := fS w) ⟨f2, hs⟩
      have s157 : RR (lkB tb499) (B499_108, [some (mR (some 80)), some (mL w), none, some (mI (fOp w)), some (mI (fC w)), some (mI (b2 (wid w))), some (mI (b2 (rgt w))), some (mI (fO w)), some (mI (d : Int)), none, none], [], flt σ fa) = RR (lkB tb499) (B499_157, [some (mR (some 80)), some (mL w), none, some (mI (fOp w)), some (mI (fC w)), some (mI (b2 (wid w))), some (mI (b2 (rgt w))), some (mI (fO w)), some (mI (d : Int)), some (mI ((plc (gI σ 123 0) (fS w) : Nat) : Int)), none], [], flt (mk10 σ (fS w)) (fst fa (wntS (rgtV S w)))) := by
        rw [b2_yes b]
        simp only [e499_108, e499_131, e499_134, e499_142, Option.getD_some, Option.bind_some, Option.toList_some, Option.toList_none, List.cons_append, List.nil_append, and_self, and_true, true_and, false_and, and_false, ite_self, not_true_eq_false, not_false_eq_true, reduceIte, Nat.reduceEqDiff, ab_I, ab_L, ab_R, ao_I, ao_L, ao_R, gL_sL, gI_sI, gR_sR, gI_sL, gI_sR, gL_sI, gL_sR, gR_sI, gR_sL, oneI, c3, T334, t9, T494 iy, Int.toNat_natCast, aV_flt, at_v hJ hF (r := fS w) ⟨f2, hs⟩, flt_flt, eY]
        all_goals rfl
      rw [s157]
      refine key _ _ mk_sq ?_ ?_ ?_ ⟨okY.1.1, okY.1.2, okY.2.1⟩
      · rw [sqc_V mk_sq (by omega), vd]
      · rw [eY]
        exact at_v hJ hF ⟨f2, hs⟩
      · by_cases e : fS w = 10
        · rw [e, plc_10]
          exact Or.inr (Or.inr rfl)
        · rw [plc_9 hJ.1 hF.1 f2 (by omega)]
          left
          omega
    · have eY : (rgtV S w) = numV (cstN (iL (fI w))) := if_neg b
      have kY : vk (rgtV S w) = 1 := by rw [eY]; rfl
      have s157 : RR (lkB tb499) (B499_108, [some (mR (some 80)), some (mL w), none, some (mI (fOp w)), some (mI (fC w)), some (mI (b2 (wid w))), some (mI (b2 (rgt w))), some (mI (fO w)), some (mI (d : Int)), none, none], [], flt σ fa) = RR (lkB tb499) (B499_157, [some (mR (some 80)), some (mL w), none, some (mI (fOp w)), some (mI (fC w)), some (mI (b2 (wid w))), some (mI (b2 (rgt w))), some (mI (fO w)), some (mI (d : Int)), some (mI ((32657 : Nat) : Int)), none], [], flt (wrV σ 32657 (numV (cstN (iL (fI w))))) (fst fa (wntS (rgtV S w)))) := by
        have e0 : fst fa (wntS (rgtV S w)) = fa := by
          have : wntS (rgtV S w) = 0 := if_neg (by omega)
          rw [this, fst_r0]
        rw [e0, b2_no b]
        simp only [e499_108, e499_145, e499_153, Option.getD_some, Option.bind_some, Option.toList_some, Option.toList_none, List.cons_append, List.nil_append, and_self, and_true, true_and, false_and, and_false, ite_self, not_true_eq_false, not_false_eq_true, reduceIte, Nat.reduceEqDiff, ab_I, ab_L, ab_R, ao_I, ao_L, ao_R, gL_sL, gI_sI, gR_sR, gI_sL, gI_sR, gL_sI, gL_sR, gR_sI, gR_sL, T336, T433 (show (0 : Int) ≤ 32657 by decide) (show (32657 : Int) < 32664 by decide)]
        rw [← wrV_flt]
        rfl
      rw [s157]
      refine key _ _ (sqc_w (by decide)) ?_ ?_ (Or.inr (Or.inl rfl)) ⟨by omega, by omega, fun q => ?_⟩
      · rw [aV_ne (by omega), vd]
      · rw [aV_same, eY]
      · exfalso
        unfold mvs at q
        omega
